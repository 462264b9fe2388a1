/-! carries; what comes -/
theorem m_carry_loop {h now u : Nat → Int32} {nd c sz : Nat} {v2 : Int32} {RR : Option (Int32 × Int32 × (Nat → Int32) × (Nat → Int32))} (e1 : h 1 = nI nd) (hnd : nd ≤ 5) (hc6 : c < 6) (hRR : RR = (if now (2 + 4 * c) = v2 then some (-2, nI sz, now, u) else (if b2i (obF h now (now (2 + 4 * c)) v2 nd) = 0 then some (-2, nI sz, now, u) else ((f_X8_notes (nI sz) now u).bind fun q5 => (wr_ now 47 (2 + (4 * nI c)) v2).bind fun y6 => some (now (2 + 4 * c), q5.1, y6, q5.2))))) : ∀ (q j k : Nat), j + q = nd → q < k → f_X8_carries_30 h (nI c) v2 k (now (2 + 4 * c)) (b2i (obF h now (now (2 + 4 * c)) v2 j)) (nI j) (nI sz) now u = RR := by
  intro q
  induction q with
  | zero =>
    intro j k hj hk
    obtain ⟨k, rfl⟩ : ∃ z, k = z + 1 := ⟨k - 1, by omega⟩
    have : j = nd := by omega
    subst this
    rw [f_X8_carries_30, rdL (by omega) (by omega), Option.bind_some, if_pos (by show h 1 ≤ nI j; rw [e1, nI_leI (by omega) (by omega)]; exact Nat.le_refl _), hRR]
  | succ q ih =>
    intro j k hj hk
    obtain ⟨k, rfl⟩ : ∃ z, k = z + 1 := ⟨k - 1, by omega⟩
    have ih' := ih (j + 1) k (by omega) (by omega)
    clear hRR
    rw [f_X8_carries_30, rdL (by omega) (by omega), Option.bind_some, if_neg (by show ¬ h 1 ≤ nI j; rw [e1, nI_leI (by omega) (by omega)]; omega)]
    unfold f_X8_carries_100 f_X8_carries_112 f_X8_carries_116 f_X8_carries_117
    simp (disch := omega) only [mulL, addL, addR, rd_ok, Option.bind_some]
    have e0' : (0 : Int32) = b2i false := rfl
    have e11 : (1 : Int32) = b2i true := rfl
    generalize now (2 + 4 * c) = was at ih' ⊢
    cases hb : obF h now was v2 j with
    | true =>
      have hs : obF h now was v2 (j + 1) = true := by unfold obF; rw [hb]; rfl
      rw [if_neg (by decide), e11, ← hs]; exact ih'
    | false =>
      have hs : obF h now was v2 (j + 1) = (decide (now (25 + j) = 1) && ((decide (h (5 + 2 * j) = was) && decide (h (5 + 2 * j + 1) = v2)) || (decide (h (5 + 2 * j) = v2) && decide (h (5 + 2 * j + 1) = was)))) := by rw [obF, hb, Bool.false_or]
      have yes : obF h now was v2 (j + 1) = true → f_X8_carries_30 h (nI c) v2 k was 1 (nI (j + 1)) (nI sz) now u = RR := fun hy => by rw [e11, ← hy]; exact ih'
      have no : obF h now was v2 (j + 1) = false → f_X8_carries_30 h (nI c) v2 k was 0 (nI (j + 1)) (nI sz) now u = RR := fun hy => by rw [e0', ← hy]; exact ih'
      rw [if_pos (by decide)]
      by_cases co : now (25 + j) = 1
      · rw [if_pos co]
        by_cases a1 : h (5 + 2 * j) = was
        · rw [if_pos a1]
          by_cases a2 : h (5 + 2 * j + 1) = v2
          · rw [if_pos a2]; exact yes (by rw [hs]; simp [co, a1, a2])
          · rw [if_neg a2]
            by_cases a3 : h (5 + 2 * j) = v2
            · rw [if_pos a3]
              by_cases a4 : h (5 + 2 * j + 1) = was
              · rw [if_pos a4]; exact yes (by rw [hs]; simp [co, a3, a4])
              · rw [if_neg a4]; exact no (by rw [hs]; simp [a2, a4])
            · rw [if_neg a3]; exact no (by rw [hs]; simp [a2, a3])
        · rw [if_neg a1]
          by_cases a3 : h (5 + 2 * j) = v2
          · rw [if_pos a3]
            by_cases a4 : h (5 + 2 * j + 1) = was
            · rw [if_pos a4]; exact yes (by rw [hs]; simp [co, a3, a4])
            · rw [if_neg a4]; exact no (by rw [hs]; simp [a1, a4])
          · rw [if_neg a3]; exact no (by rw [hs]; simp [a1, a3])
      · rw [if_neg co]; exact no (by rw [hs]; simp [co])
theorem o_carries {h now u t1 t2 : Nat → Int32} {nr nd nc na nw sz nx : Nat} {rows : Nat → Nat → Int32} (hH : HH h nr nd nc na nw) (hD : ∀ d, d < nd → t1 d = h (5 + 2 * d) ∧ t2 d = h (5 + 2 * d + 1)) (hS : ST h nr nd nc na sz nx now rows u) (v1 v2 : Int32) : ∃ r now' sz' nx' rows' u', f_X7_carries (nI nr) (nI nd) (nI nc) t1 t2 (rowOf now) (nI sz) (nI nx) rows v1 v2 = some (r, rowOf now', nI sz', nI nx', rows') ∧ f_X8_carries (nI sz) h now u v1 v2 = some (r, nI sz', now', u') ∧ ST h nr nd nc na sz' nx' now' rows' u' := by
  obtain ⟨e0, e1, e2, e3, e4⟩ := hH.1
  obtain ⟨hnr, hnd, hnc, hna, hnw⟩ := hH.2.1
  have hN := hS.1
  obtain ⟨m, hm, em⟩ := hS.2.1
  unfold f_X7_carries f_X8_carries
  rw [wt_ix (by omega), m_isCandle e2 (by omega), wt_ix (by omega), m_isRoom e0 (by omega)]
  simp only [Option.bind_some]
  cases c1 : ixd v1 nc with
  | false => exact ⟨-1, now, sz, nx, rows, u, by rw [bf0], by rw [bf0], hS⟩
  | true =>
    obtain ⟨c, hcn, rfl⟩ := ixd_t c1 (by omega)
    simp only [bt0]
    cases c2 : ixd v2 nr with
    | false => exact ⟨-1, now, sz, nx, rows, u, by rw [bf0], by rw [bf0], hS⟩
    | true =>
      have hv2 := ixd_t c2 (by omega)
      simp only [bt0]
      rw [c_roomOf (by omega), m_roomOf (by omega), Option.bind_some, Option.bind_some]
      have l0 := m_carry_loop (h := h) (now := now) (u := u) (nd := nd) (c := c) (sz := sz) (v2 := v2) e1 hnd (by omega) rfl nd 0 fl_ (by omega) (fl_lt (by omega))
      rw [show obF h now (now (2 + 4 * c)) v2 0 = false from rfl, show b2i false = 0 from rfl, show nI 0 = (0 : Int32) from rfl] at l0
      rw [l0]
      clear l0
      by_cases c3 : now (2 + 4 * c) = v2
      · exact ⟨-2, now, sz, nx, rows, u, by rw [if_pos c3], by rw [if_pos c3], hS⟩
      · rw [if_neg c3, if_neg c3]
        have hob : f_X4_openBetween (rowOf now) (nI nd) t1 t2 (now (2 + 4 * c)) v2 = some (b2i (obF h now (now (2 + 4 * c)) v2 nd)) := by
          unfold f_X4_openBetween
          have l1 := c_ob_loop (now := now) (r := now (2 + 4 * c)) (s := v2) hnd hD nd 0 fl_ (by omega) (fl_lt (by omega)) rfl
          rw [show nI 0 = (0 : Int32) from rfl] at l1
          exact l1
        rw [hob]
        simp only [Option.bind_some]
        cases c4 : obF h now (now (2 + 4 * c)) v2 nd with
        | false => exact ⟨-2, now, sz, nx, rows, u, by rw [bf0], by rw [bf0], hS⟩
        | true =>
          obtain ⟨sz', nx', rows', u', q1, q2, q3⟩ := both_note hH hS
          rw [bt0, bt0, q1, q2, mulL, addL, addL, wr_ok (by omega) (by omega), wr_ok (by omega) (by omega)]
          simp only [Option.bind_some]
          refine ⟨now (2 + 4 * c), upd now (2 + 4 * c) v2, sz', nx', rows', u', ?_, rfl, NI_rm hN hnc hcn hv2, ⟨m, hm, by rw [pk_un (by omega)]; exact em⟩, q3⟩
          rw [← rowu_w c (by omega)]
def itr (h : Nat → Int32) (nd nc na nw m : Nat) : Nat → (Nat → Int32) → (Nat → Int32)
  | 0, now => now
  | j + 1, now => nxt h nd nc na nw (m + j) (itr h nd nc na nw m j now)
theorem NI_itr {h now : Nat → Int32} {nr nd nc na nw m : Nat} (hH : HH h nr nd nc na nw) (hN : NI h nr nd nc na now) : ∀ j, NI h nr nd nc na (itr h nd nc na nw m j now)
  | 0 => hN
  | j + 1 => NI_nxt hH (NI_itr hH hN j)
theorem itr_0 {h now : Nat → Int32} {nd nc na nw m : Nat} (hc : nc ≤ 6) (em : now 0 = nI m) : ∀ j, itr h nd nc na nw m j now 0 = nI (m + j)
  | 0 => em
  | j + 1 => nxt_0 hc (itr_0 hc em j)
theorem itr_stay {h now : Nat → Int32} {nd nc na nw m a i : Nat} (hc : nc ≤ 6) (ha : a < 6) (hx : itr h nd nc na nw m i now (30 + 2 * a) ≠ 1) : ∀ j, i ≤ j → itr h nd nc na nw m j now (30 + 2 * a) = itr h nd nc na nw m i now (30 + 2 * a)
  | 0, hj => by rw [show i = 0 by omega]
  | j + 1, hj => by
    by_cases e : i = j + 1
    · rw [e]
    · have ih := itr_stay (h := h) (now := now) (nd := nd) (nc := nc) (na := na) (nw := nw) (m := m) hc ha hx j (by omega)
      show nxt h nd nc na nw (m + j) (itr h nd nc na nw m j now) (30 + 2 * a) = _
      unfold nxt
      rw [stp_stay hc ha _ (by rw [ih]; exact hx), ih]
theorem m_aside_loop {now g : Nat → Int32} : ∀ (q j k : Nat), j + q = 47 → q < k → f_X8_asides_2 now k (nI j) (cpx now g 0 j) = some (cpx now g 0 47) := by
  intro q
  induction q with
  | zero =>
    intro j k hj hk
    obtain ⟨k, rfl⟩ : ∃ z, k = z + 1 := ⟨k - 1, by omega⟩
    have : j = 47 := by omega
    subst this
    rw [f_X8_asides_2, if_pos (by decide)]
  | succ q ih =>
    intro j k hj hk
    obtain ⟨k, rfl⟩ : ∃ z, k = z + 1 := ⟨k - 1, by omega⟩
    have ih' := ih (j + 1) k (by omega) (by omega)
    have e := cpx_s now g 0 j
    rw [Nat.zero_add] at e
    rw [f_X8_asides_2, if_neg (by rw [show (47 : Int32) = nI 47 from rfl, nI_leI (by omega) (by omega)]; omega), rd_ok (by omega) (by omega), Option.bind_some, wr_ok (by omega) (by omega), Option.bind_some, nI_1, e]
    exact ih'
theorem m_asides {now g : Nat → Int32} : f_X8_asides now g = some (cpx now g 0 47) := by
  unfold f_X8_asides
  have := m_aside_loop (now := now) (g := g) 47 0 fl_ (by omega) (fl_lt (by omega))
  rw [cpx_0] at this
  exact this
theorem m_back_loop {now g : Nat → Int32} : ∀ (q j k : Nat), j + q = 47 → q < k → f_X8_backs_2 g k (nI j) (cpx g now 0 j) = some (cpx g now 0 47) := by
  intro q
  induction q with
  | zero =>
    intro j k hj hk
    obtain ⟨k, rfl⟩ : ∃ z, k = z + 1 := ⟨k - 1, by omega⟩
    have : j = 47 := by omega
    subst this
    rw [f_X8_backs_2, if_pos (by decide)]
  | succ q ih =>
    intro j k hj hk
    obtain ⟨k, rfl⟩ : ∃ z, k = z + 1 := ⟨k - 1, by omega⟩
    have ih' := ih (j + 1) k (by omega) (by omega)
    have e := cpx_s g now 0 j
    rw [Nat.zero_add] at e
    rw [f_X8_backs_2, if_neg (by rw [show (47 : Int32) = nI 47 from rfl, nI_leI (by omega) (by omega)]; omega), rd_ok (by omega) (by omega), Option.bind_some, wr_ok (by omega) (by omega), Option.bind_some, nI_1, e]
    exact ih'
theorem m_backs {now g : Nat → Int32} : f_X8_backs now g = some (cpx g now 0 47) := by
  unfold f_X8_backs
  have := m_back_loop (now := now) (g := g) 47 0 fl_ (by omega) (fl_lt (by omega))
  rw [cpx_0] at this
  exact this
theorem cpx_47 {f g : Nat → Int32} {k : Nat} (hk : k < 47) : cpx f g 0 47 k = f k := by
  have := cpx_in (f := f) (g := g) (b := 0) hk
  rw [Nat.zero_add] at this
  exact this
/-- the night is put back -/
theorem put_back {now g z : Nat → Int32} : ∀ k, k < 47 → cpx (cpx now g 0 47) z 0 47 k = now k := fun k hk => by rw [cpx_47 hk, cpx_47 hk]
theorem c_copy {now q_row : Nat → Int32} (hq : ∀ i, 33 ≤ i → q_row i = 0) : f_X4_copyFrom q_row (rowOf now) = some (rowOf now) := by
  unfold f_X4_copyFrom
  rw [cpy_row hq]
theorem o_comes {h now t1 t2 tnn tar trr twi q_row ad : Nat → Int32} {nr nd nc na nw m : Nat} (hH : HH h nr nd nc na nw) (hT : HT h nd na nw t1 t2 tnn tar trr twi) (hN : NI h nr nd nc na now) (hm : m ≤ 999) (em : now 0 = nI m) (hq : ∀ i, 33 ≤ i → q_row i = 0) (v1 v2 : Int32) : ∃ r q' now' ad', f_X7_comes (nI nd) (nI nc) (nI na) (nI nw) t1 t2 tnn tar trr twi (rowOf now) q_row v1 v2 = some (r, q') ∧ f_X8_comes h now ad v1 v2 = some (r, now', ad') ∧ (∀ i, 33 ≤ i → q' i = 0) ∧ ∀ k, k < 47 → now' k = now k := by
  obtain ⟨e0, e1, e2, e3, e4⟩ := hH.1
  obtain ⟨hnr, hnd, hnc, hna, hnw⟩ := hH.2.1
  unfold f_X7_comes f_X8_comes
  have ei : f_X8_in v2.toInt64 0 60 = some (b2i (rg v2 0 60)) := in_rg (by decide) (by decide)
  have ew : f_X7_within v2 0 60 = some (b2i (rg v2 0 60)) := wt_rg (by decide) (by decide)
  rw [wt_ix (by omega), m_isAct e3 (by omega), ei, ew]
  simp only [Option.bind_some]
  cases c1 : ixd v1 na with
  | false => exact ⟨-1, q_row, now, ad, by rw [bf0], by rw [bf0], hq, fun _ _ => rfl⟩
  | true =>
    obtain ⟨a, han, rfl⟩ := ixd_t c1 (by omega)
    simp only [bt0]
    cases c2 : rg v2 0 60 with
    | false => exact ⟨-1, q_row, now, ad, by rw [bf0], by rw [bf0], hq, fun _ _ => rfl⟩
    | true =>
      obtain ⟨n, -, n2, rfl⟩ := rg_t c2 (by decide)
      simp only [bt0]
      rw [m_asides]
      simp only [Option.bind_some]
      have ml : ∀ (q j k : Nat), j + q = n → q < k → f_X8_comes_28 h (nI a) (nI n) k (nI j) (itr h nd nc na nw m j now) (cpx now ad 0 47) = some (itr h nd nc na nw m n now (30 + 2 * a), cpx (cpx now ad 0 47) (itr h nd nc na nw m n now) 0 47, cpx now ad 0 47) := by
        intro q
        induction q with
        | zero =>
          intro j k hj hk
          obtain ⟨k, rfl⟩ : ∃ z, k = z + 1 := ⟨k - 1, by omega⟩
          have : j = n := by omega
          subst this
          rw [f_X8_comes_28, if_pos ((nI_leI (by omega) (by omega)).mpr (Nat.le_refl _)), mulL, addL, rd_ok (by omega) (by omega), Option.bind_some, m_backs, Option.bind_some]
        | succ q ih =>
          intro j k hj hk
          obtain ⟨k, rfl⟩ : ∃ z, k = z + 1 := ⟨k - 1, by omega⟩
          rw [f_X8_comes_28, if_neg (by rw [nI_leI (by omega) (by omega)]; omega), m_nxt hH (NI_itr hH hN j) (by omega) (itr_0 hnc em j), addR]
          exact ih (j + 1) k (by omega) (by omega)
      have cl : ∀ (q j k : Nat), j + q = n → q < k → ∃ z : Nat → Int32, f_X1_stageIn_11 (rowOf now) (nI nd) (nI nc) (nI na) (nI nw) t1 t2 tnn tar trr twi (nI a) (nI n) k (nI j) (rowOf (itr h nd nc na nw m j now)) = some (itr h nd nc na nw m n now (30 + 2 * a), rowOf z) := by
        intro q
        induction q with
        | zero =>
          intro j k hj hk
          obtain ⟨k, rfl⟩ : ∃ z, k = z + 1 := ⟨k - 1, by omega⟩
          have : j = n := by omega
          subst this
          rw [f_X1_stageIn_11, if_pos ((nI_leI (by omega) (by omega)).mpr (Nat.le_refl _))]
          unfold f_X1_stageIn_50
          rw [c_stage (by omega), Option.bind_some]
          exact ⟨_, rfl⟩
        | succ q ih =>
          intro j k hj hk
          obtain ⟨k, rfl⟩ : ∃ z, k = z + 1 := ⟨k - 1, by omega⟩
          rw [f_X1_stageIn_11, if_neg (by rw [nI_leI (by omega) (by omega)]; omega), c_stage (by omega), Option.bind_some]
          by_cases c : itr h nd nc na nw m j now (30 + 2 * a) = 1
          · rw [if_pos c, c_nxt hH hT (NI_itr hH hN j) (by omega) (itr_0 hnc em j), addR]
            exact ih (j + 1) k (by omega) (by omega)
          · rw [if_neg c]
            unfold f_X1_stageIn_50
            rw [c_stage (by omega), Option.bind_some, ← itr_stay hnc (by omega) c n (by omega)]
            exact ⟨_, rfl⟩
      have l1 := ml n 0 fl_ (by omega) (fl_lt (by omega))
      obtain ⟨z, l2⟩ := cl n 0 fl_ (by omega) (fl_lt (by omega))
      rw [show nI 0 = (0 : Int32) from rfl, show itr h nd nc na nw m 0 now = now from rfl] at l1 l2
      refine ⟨_, rowOf z, _, _, ?_, l1, fun i hi => row_big hi, put_back⟩
      unfold f_X1_stageIn
      rw [c_copy hq, Option.bind_some, l2]
      rfl
