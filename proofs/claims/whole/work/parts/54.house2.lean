/-! the reader: a text; house -/
theorem both_read {n : Nat} {t : Nat → Nat} {at_ bt_ : Nat → Int32} {x1 und wan : Int32} {hou now kep : Nat → Int32} (hT : TX n t at_ bt_) : ∀ (q p i k1 k2 : Nat) (rp rk rv gb gt gd : Int32) (nr nd nc na nw : Nat) (o s l cr ne wo ar re wi h : Nat → Int32), p ≤ n → n - p < q → q ≤ k1 → q ≤ k2 → i ≤ p → DR h nr nd nc na nw o s l cr ne wo ar re wi →
    ∃ (r : Int32) (pl : Nat) (a' k' v' : Int32) (nr' nd' nc' na' nw' : Nat) (o' s' l' cr' ne' wo' ar' re' wi' h' : Nat → Int32) (ga gb' gt' gd' : Int32), f_X6_read_29 bt_ x1 k1 (nI i) (nI i) rp (nI n) (nI p) rk rv (nI nr) (nI nd) (nI nc) (nI na) (nI nw) o s l cr ne wo ar re wi = some (r, nI pl, nI n, a', k', v', nI nr', nI nd', nI nc', nI na', nI nw', o', s', l', cr', ne', wo', ar', re', wi') ∧
      ((∃ c, c ≤ 200 ∧ r = nI c ∧ DR h' nr' nd' nc' na' nw' o' s' l' cr' ne' wo' ar' re' wi' ∧ ((f_X8_reads (nI n) (nI p) gb gt gd at_).bind fun q5 => f_X8_house_15 at_ k2 (nI i) (nI n) q5.1 q5.2.1 q5.2.2.1 q5.2.2.2 und wan h hou now kep) = (f_X8_takes und wan h' hou now kep).bind fun q2 => some (r, 0, ga, gb', gt', gd', q2.1, q2.2.1, h', q2.2.2.1, q2.2.2.2.1, q2.2.2.2.2)) ∨
       (r = -1 ∧ ((f_X8_reads (nI n) (nI p) gb gt gd at_).bind fun q5 => f_X8_house_15 at_ k2 (nI i) (nI n) q5.1 q5.2.1 q5.2.2.1 q5.2.2.2 und wan h hou now kep) = some (-10 - nI pl, nI n, ga, gb', gt', gd', und, wan, h', hou, now, kep))) := by
  have hn := hT.1
  intro q
  induction q with
  | zero => intro p i k1 k2 rp rk rv gb gt gd nr nd nc na nw o s l cr ne wo ar re wi h hp hq; exact absurd hq (Nat.not_lt_zero _)
  | succ q ih =>
    intro p i k1 k2 rp rk rv gb gt gd nr nd nc na nw o s l cr ne wo ar re wi h hp hq hk1 hk2 hi hD
    obtain ⟨k1, rfl⟩ : ∃ z, k1 = z + 1 := ⟨k1 - 1, by omega⟩
    obtain ⟨k2, rfl⟩ : ∃ z, k2 = z + 1 := ⟨k2 - 1, by omega⟩
    obtain ⟨b, p1, p2, kc, vc, km, vm, s1, s2, s3, s4⟩ := both_step hT hp rp rk rv gb gt gd
    rw [f_X6_read_29, if_neg (fun z => by have := (nI_ltI (by omega) (by omega)).mp z; omega), s1, s2, Option.bind_some, Option.bind_some]
    dsimp only
    rw [f_X8_house_15]
    by_cases c : kc = 0
    · have hm : km = 0 := by
        rcases s4 with ⟨h1, h2⟩ | ⟨a1, a2, a3, h⟩ | ⟨h2, h1⟩
        · exact h2
        · rcases h with ⟨h1, h2, -, -⟩ | ⟨h1, h2, -⟩ | ⟨h1, h2⟩
          · rw [h1] at c; exact absurd c (by decide)
          · rw [h1] at c; exact absurd c (by decide)
          · rw [h1] at c; exact absurd c (by decide)
        · rcases h1 with h1 | ⟨h1, -⟩
          · rw [h1] at c; exact absurd c (by decide)
          · rw [h1] at c; exact absurd c (by decide)
      rw [if_pos c, if_pos hm]
      exact ⟨nI i, b, _, _, _, nr, nd, nc, na, nw, o, s, l, cr, ne, wo, ar, re, wi, h, _, _, _, _, rfl, Or.inl ⟨i, by omega, rfl, hD, rfl⟩⟩
    · have hm : ¬ km = 0 := by
        rcases s4 with ⟨h1, h2⟩ | ⟨a1, a2, a3, h⟩ | ⟨h2, h1⟩
        · exact absurd h1 c
        · rcases h with ⟨h1, h2, -, -⟩ | ⟨h1, h2, -⟩ | ⟨h1, h2⟩
          · rw [h2]; decide
          · rw [h2]; decide
          · rw [h2]; decide
        · rw [h2]; decide
      obtain ⟨f, b', p3, p4, kc', vc', km', vm', nr', nd', nc', na', nw', o', s', l', cr', ne', wo', ar', re', wi', h', y1, y2, y3⟩ := both_item hT s4 c hD
      rw [if_neg c, if_neg hm, y1, y2, Option.bind_some, Option.bind_some]
      dsimp only
      cases f with
      | false =>
        rw [bf0, bf0]
        exact ⟨-1, b', _, _, _, nr', nd', nc', na', nw', o', s', l', cr', ne', wo', ar', re', wi', h', _, _, _, _, rfl, Or.inr ⟨rfl, rfl⟩⟩
      | true =>
        obtain ⟨z1, z2, z3, z4⟩ := y3 rfl
        subst z3
        rw [bt0, bt0, nI_1]
        exact ih p4 (i + 1) k1 k2 (nI b') kc' vc' (nI b') km' vm' nr' nd' nc' na' nw' o' s' l' cr' ne' wo' ar' re' wi' h' z2 (by omega) (by omega) (by omega) (by omega) z4
/-- what the model lays down for a new house -/
def nz0 (now : Nat → Int32) (j : Nat) : Nat → Int32 := fun i => if i < j then 0 else now i
def nzc (h : Nat → Int32) (now : Nat → Int32) : Nat → (Nat → Int32)
  | 0 => nz0 now 47
  | c + 1 => upd (upd (nzc h now c) (1 + 4 * c) (h (15 + 2 * c))) (2 + 4 * c) (h (15 + 2 * c + 1))
theorem nz0_s (now : Nat → Int32) (j : Nat) : upd (nz0 now j) j 0 = nz0 now (j + 1) := by
  funext i
  by_cases e : i = j
  · subst e; rw [pk_us]; unfold nz0; rw [if_pos (by omega)]
  · rw [pk_un e]; unfold nz0
    by_cases c : i < j
    · rw [if_pos c, if_pos (by omega)]
    · rw [if_neg c, if_neg (by omega)]
theorem nz0_0 (now : Nat → Int32) : nz0 now 0 = now := by funext i; exact if_neg (by omega)
theorem m_plain {r : Nat → Int32} : ∃ r', f_X8_plain r = some r' ∧ ∀ k, k < 59 → r' k = 0 := by
  have loop : ∀ (q j k : Nat), j + q = 59 → q < k → f_X8_plain_2 k (nI j) (nz0 r j) = some (nz0 r 59) := by
    intro q
    induction q with
    | zero =>
      intro j k hj hk
      obtain ⟨k, rfl⟩ : ∃ z, k = z + 1 := ⟨k - 1, by omega⟩
      have : j = 59 := by omega
      subst this
      rw [f_X8_plain_2, if_pos (by decide)]
    | succ q ih =>
      intro j k hj hk
      obtain ⟨k, rfl⟩ : ∃ z, k = z + 1 := ⟨k - 1, by omega⟩
      rw [f_X8_plain_2, if_neg (show ¬ (59 : Int32) ≤ nI j by rw [show (59 : Int32) = nI 59 from rfl, nI_leI (by decide) (by omega)]; omega), wr_ok (by omega) (by omega), Option.bind_some, nz0_s, nI_1]
      exact ih (j + 1) k (by omega) (by omega)
  have l := loop 59 0 fl_ (by omega) (fl_lt (by omega))
  rw [nz0_0] at l
  exact ⟨_, l, fun k hk => if_pos hk⟩
theorem m_takes {und wan : Int32} {r hou now kep : Nat → Int32} {nc : Nat} (e2 : r 2 = nI nc) (hnc : nc ≤ 6) : f_X8_takes und wan r hou now kep = some (0, 0, cpx r hou 0 59, nzc (cpx r hou 0 59) now nc, upd (upd kep 0 0) 519 0) := by
  have eh : cpx r hou 0 59 2 = nI nc := by
    have := cpx_in (f := r) (g := hou) (b := 0) (n := 59) (i := 2) (by decide)
    rw [Nat.zero_add] at this
    rw [this, e2]
  have l49 : ∀ (q j k : Nat), j + q = nc → q < k → f_X8_takes_49 r k (nI j) und wan (cpx r hou 0 59) (nzc (cpx r hou 0 59) now j) kep = some (0, 0, cpx r hou 0 59, nzc (cpx r hou 0 59) now nc, upd (upd kep 0 0) 519 0) := by
    intro q
    induction q with
    | zero =>
      intro j k hj hk
      obtain ⟨k, rfl⟩ : ∃ z, k = z + 1 := ⟨k - 1, by omega⟩
      have : j = nc := by omega
      subst this
      rw [f_X8_takes_49, (show rd_ (cpx r hou 0 59) 59 2 = some (nI j) by rw [rdL (by omega) (by omega)]; exact congrArg some eh), Option.bind_some, if_pos ((nI_leI (by omega) (by omega)).mpr (Nat.le_refl _)), wrL (by omega) (by omega), Option.bind_some, wrL (by omega) (by omega), Option.bind_some]
    | succ q ih =>
      intro j k hj hk
      obtain ⟨k, rfl⟩ : ∃ z, k = z + 1 := ⟨k - 1, by omega⟩
      rw [f_X8_takes_49, (show rd_ (cpx r hou 0 59) 59 2 = some (nI nc) by rw [rdL (by omega) (by omega)]; exact congrArg some eh), Option.bind_some, if_neg (fun z => by have := (nI_leI (by omega) (by omega)).mp z; omega)]
      simp (disch := omega) only [mulL, addL, addR, rd_ok, wr_ok, Option.bind_some]
      exact ih (j + 1) k (by omega) (by omega)
  have l28 : ∀ (q j k : Nat), j + q = 47 → q < k → f_X8_takes_28 r k (nI j) und wan (cpx r hou 0 59) (nz0 now j) kep = some (0, 0, cpx r hou 0 59, nzc (cpx r hou 0 59) now nc, upd (upd kep 0 0) 519 0) := by
    intro q
    induction q with
    | zero =>
      intro j k hj hk
      obtain ⟨k, rfl⟩ : ∃ z, k = z + 1 := ⟨k - 1, by omega⟩
      have : j = 47 := by omega
      subst this
      rw [f_X8_takes_28, if_pos (by decide)]
      exact l49 nc 0 fl_ (by omega) (fl_lt (by omega))
    | succ q ih =>
      intro j k hj hk
      obtain ⟨k, rfl⟩ : ∃ z, k = z + 1 := ⟨k - 1, by omega⟩
      rw [f_X8_takes_28, if_neg (show ¬ (47 : Int32) ≤ nI j by rw [show (47 : Int32) = nI 47 from rfl, nI_leI (by decide) (by omega)]; omega), wr_ok (by omega) (by omega), Option.bind_some, nz0_s, nI_1]
      exact ih (j + 1) k (by omega) (by omega)
  have l2 : ∀ (q j k : Nat), j + q = 59 → q < k → f_X8_takes_2 r k (nI j) und wan (cpx r hou 0 j) now kep = some (0, 0, cpx r hou 0 59, nzc (cpx r hou 0 59) now nc, upd (upd kep 0 0) 519 0) := by
    intro q
    induction q with
    | zero =>
      intro j k hj hk
      obtain ⟨k, rfl⟩ : ∃ z, k = z + 1 := ⟨k - 1, by omega⟩
      have : j = 59 := by omega
      subst this
      rw [f_X8_takes_2, if_pos (by decide)]
      have l := l28 47 0 fl_ (by omega) (fl_lt (by omega))
      rw [nz0_0] at l
      exact l
    | succ q ih =>
      intro j k hj hk
      obtain ⟨k, rfl⟩ : ∃ z, k = z + 1 := ⟨k - 1, by omega⟩
      have es := cpx_s r hou 0 j
      rw [Nat.zero_add] at es
      rw [f_X8_takes_2, if_neg (show ¬ (59 : Int32) ≤ nI j by rw [show (59 : Int32) = nI 59 from rfl, nI_leI (by decide) (by omega)]; omega), rd_ok (by omega) (by omega), Option.bind_some, wr_ok (by omega) (by omega), Option.bind_some, es, nI_1]
      exact ih (j + 1) k (by omega) (by omega)
  have l := l2 59 0 fl_ (by omega) (fl_lt (by omega))
  rw [cpx_0] at l
  exact l
theorem nzc_out {h now : Nat → Int32} {k : Nat} : ∀ {j : Nat}, (∀ c, c < j → k ≠ 1 + 4 * c ∧ k ≠ 2 + 4 * c) → nzc h now j k = nz0 now 47 k
  | 0, _ => rfl
  | j + 1, hk => by
    show upd (upd (nzc h now j) (1 + 4 * j) (h (15 + 2 * j))) (2 + 4 * j) (h (15 + 2 * j + 1)) k = _
    rw [pk_un (hk j (by omega)).2, pk_un (hk j (by omega)).1]
    exact nzc_out (fun c hc => hk c (by omega))
theorem nzc_in {h now : Nat → Int32} {c : Nat} : ∀ {j : Nat}, c < j → nzc h now j (1 + 4 * c) = h (15 + 2 * c) ∧ nzc h now j (2 + 4 * c) = h (15 + 2 * c + 1)
  | 0, hc => absurd hc (by omega)
  | j + 1, hc => by
    show upd (upd (nzc h now j) (1 + 4 * j) (h (15 + 2 * j))) (2 + 4 * j) (h (15 + 2 * j + 1)) (1 + 4 * c) = _ ∧ upd (upd (nzc h now j) (1 + 4 * j) (h (15 + 2 * j))) (2 + 4 * j) (h (15 + 2 * j + 1)) (2 + 4 * c) = _
    by_cases e : c = j
    · subst e
      rw [pk_un (by omega), pk_us, pk_us]
      exact ⟨rfl, rfl⟩
    · rw [pk_un (by omega), pk_un (by omega), pk_un (by omega), pk_un (by omega)]
      exact nzc_in (by omega)
theorem nz_47 {now : Nat → Int32} {k : Nat} (h : k < 47) : nz0 now 47 k = 0 := if_pos h
theorem row_z {z : Nat → Int32} (hz : ∀ k, k < 47 → z k = 0) : rowOf z = fun _ => 0 := by
  rw [row_ext (b := fun _ => 0) hz]
  funext i
  unfold rowOf
  have e1 : mk_ (litB (fun _ => 0)) 6 = 0 := by decide
  have e2 : mk_ (shdB (fun _ => 0)) 6 = 0 := by decide
  have e3 : mk_ (opnB (fun _ => 0)) 5 = 0 := by decide
  rw [e1, e2, e3]
  cases src_ i with
  | none => split <;> (try rfl); split <;> (try rfl); split <;> rfl
  | some k => split <;> (try rfl); split <;> (try rfl); split <;> rfl
theorem HH_ext {h h' : Nat → Int32} {nr nd nc na nw : Nat} (hx : ∀ k, k < 59 → h' k = h k) (hH : HH h nr nd nc na nw) : HH h' nr nd nc na nw := by
  obtain ⟨⟨h0, h1, h2, h3, h4⟩, ⟨l0, l1, l2, l3, l4⟩, a1, a2, a3, a4⟩ := hH
  refine ⟨⟨?_, ?_, ?_, ?_, ?_⟩, ⟨l0, l1, l2, l3, l4⟩, fun d hd => ?_, fun c hc => ?_, fun a ha => ?_, fun w hw => ?_⟩
  · rw [hx 0 (by omega)]; exact h0
  · rw [hx 1 (by omega)]; exact h1
  · rw [hx 2 (by omega)]; exact h2
  · rw [hx 3 (by omega)]; exact h3
  · rw [hx 4 (by omega)]; exact h4
  · rw [hx _ (by omega), hx _ (by omega)]; exact a1 d hd
  · rw [hx _ (by omega), hx _ (by omega)]; exact a2 c hc
  · rw [hx _ (by omega), hx _ (by omega), hx _ (by omega), hx _ (by omega)]; exact a3 a ha
  · rw [hx _ (by omega)]; exact a4 w hw
theorem NI_new {h now : Nat → Int32} {nr nd nc na nw : Nat} (hH : HH h nr nd nc na nw) : NI h nr nd nc na (nzc h now nc) := by
  obtain ⟨-, ⟨l0, l1, l2, l3, l4⟩, a1, a2, a3, a4⟩ := hH
  have z : ∀ k, k < 47 → (∀ c, c < nc → k ≠ 1 + 4 * c ∧ k ≠ 2 + 4 * c) → nzc h now nc k = 0 := fun k hk hc => by rw [nzc_out hc, nz_47 hk]
  refine ⟨fun c hc => ?_, fun c hc => ?_, fun d hd => ?_, fun c hc => ?_, fun a ha => ?_, fun c h1 h2 => ?_⟩
  · rw [z (3 + 4 * c) (by omega) (fun c' _ => ⟨by omega, by omega⟩)]
    exact ⟨Or.inl rfl, fun _ => rfl⟩
  · rw [z (4 + 4 * c) (by omega) (fun c' _ => ⟨by omega, by omega⟩)]
    exact ⟨Or.inl rfl, fun _ => rfl⟩
  · rw [z (25 + d) (by omega) (fun c' _ => ⟨by omega, by omega⟩)]
    exact ⟨Or.inl rfl, fun _ => rfl⟩
  · obtain ⟨q1, q2⟩ := nzc_in (h := h) (now := now) hc
    obtain ⟨⟨l, g1, g2, g3⟩, g4⟩ := a2 c hc
    rw [q1, q2]
    exact ⟨g4, l, g2, g3, fun _ => g1⟩
  · obtain ⟨⟨v, g1, g2, g3⟩, -⟩ := a3 a ha
    rw [z (30 + 2 * a) (by omega) (fun c' _ => ⟨by omega, by omega⟩), z (30 + 2 * a + 1) (by omega) (fun c' _ => ⟨by omega, by omega⟩)]
    exact ⟨⟨0, by omega, rfl⟩, 0, v, by omega, g2, rfl, g3, fun _ => rfl, fun y => absurd y (by decide)⟩
  · exact z (1 + 4 * c) (by omega) (fun c' hc' => ⟨by omega, by omega⟩)
theorem c_fill {u : Nat → Int32} (hu : ∀ i, 33 ≤ i → u i = 0) : f_J7_fill_53178 u 0 = some (fun _ => 0) := by
  have loop : ∀ (q j k : Nat), j + q = 33 → q < k → f_J7_fill_53178_5 0 k (nI j) 33 (nz0 u j) = some (nz0 u 33) := by
    intro q
    induction q with
    | zero =>
      intro j k hj hk
      obtain ⟨k, rfl⟩ : ∃ z, k = z + 1 := ⟨k - 1, by omega⟩
      have : j = 33 := by omega
      subst this
      rw [f_J7_fill_53178_5, if_pos (by decide)]
    | succ q ih =>
      intro j k hj hk
      obtain ⟨k, rfl⟩ : ∃ z, k = z + 1 := ⟨k - 1, by omega⟩
      rw [f_J7_fill_53178_5, if_neg (show ¬ (33 : Int32) ≤ nI j by rw [show (33 : Int32) = nI 33 from rfl, nI_leI (by decide) (by omega)]; omega), wr_ok (by omega) (by omega), Option.bind_some, nz0_s, nI_1]
      exact ih (j + 1) k (by omega) (by omega)
  have l := loop 33 0 fl_ (by omega) (fl_lt (by omega))
  rw [nz0_0] at l
  unfold f_J7_fill_53178
  have e : nz0 u 33 = fun _ => 0 := by
    funext i
    unfold nz0
    by_cases c : i < 33
    · rw [if_pos c]
    · rw [if_neg c]; exact hu i (by omega)
  rw [← e]
  exact l
theorem c_anew {h now0 now tl tc : Nat → Int32} {nc : Nat} (hnc : nc ≤ 6) (hL : ∀ c, c < nc → tl c = h (15 + 2 * c) ∧ tc c = h (15 + 2 * c + 1)) : f_X4_startAnew (rowOf now0) (nI nc) tl tc = some (rowOf (nzc h now nc)) := by
  unfold f_X4_startAnew
  rw [c_fill (fun i hi => row_big hi), Option.bind_some]
  have loop : ∀ (q j k : Nat), j + q = nc → q < k → f_X4_startAnew_10 (nI nc) tl tc k (nI j) (rowOf (nzc h now j)) = some (rowOf (nzc h now nc)) := by
    intro q
    induction q with
    | zero =>
      intro j k hj hk
      obtain ⟨k, rfl⟩ : ∃ z, k = z + 1 := ⟨k - 1, by omega⟩
      have : j = nc := by omega
      subst this
      rw [f_X4_startAnew_10, if_pos ((nI_leI (by omega) (by omega)).mpr (Nat.le_refl _))]
    | succ q ih =>
      intro j k hj hk
      obtain ⟨k, rfl⟩ : ∃ z, k = z + 1 := ⟨k - 1, by omega⟩
      have ih' := ih (j + 1) k (by omega) (by omega)
      have es : rowOf (nzc h now (j + 1)) = upd (upd (rowOf (nzc h now j)) (4 + j) (h (15 + 2 * j))) (10 + j) (h (15 + 2 * j + 1)) := by
        show rowOf (upd (upd (nzc h now j) (1 + 4 * j) (h (15 + 2 * j))) (2 + 4 * j) (h (15 + 2 * j + 1))) = _
        rw [rowu_w j (by omega), rowu_l j (by omega)]
      rw [es] at ih'
      rw [f_X4_startAnew_10, if_neg (fun z => by have := (nI_leI (by omega) (by omega)).mp z; omega)]
      simp (disch := omega) only [addL, addR, rd_ok, wr_ok, Option.bind_some]
      rw [(hL j (by omega)).1, (hL j (by omega)).2]
      exact ih'
  have e0 : rowOf (nzc h now 0) = fun _ => 0 := row_z (fun k hk => nz_47 hk)
  have l := loop nc 0 fl_ (by omega) (fl_lt (by omega))
  rw [e0] at l
  exact l
