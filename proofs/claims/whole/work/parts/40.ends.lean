/-! an act in the end -/
theorem upd_upd (f : Nat → Int32) (k : Nat) (x y : Int32) : upd (upd f k x) k y = upd f k y := by
  funext i
  by_cases e : i = k
  · subst e; rw [pk_us, pk_us]
  · rw [pk_un e, pk_un e, pk_un e]
/-- the wind of the first n minutes told by g -/
def gst (h : Nat → Int32) (nw m g n j : Nat) : Bool := if j < n then g.testBit j else wnd h nw (m + j)
def itg (h : Nat → Int32) (nd nc na nw m g n : Nat) : Nat → (Nat → Int32) → (Nat → Int32)
  | 0, now => now
  | j + 1, now => stp h nd nc na (gst h nw m g n j) (itg h nd nc na nw m g n j now)
theorem NI_itg {h now : Nat → Int32} {nr nd nc na nw m g n : Nat} (hH : HH h nr nd nc na nw) (hN : NI h nr nd nc na now) : ∀ j, NI h nr nd nc na (itg h nd nc na nw m g n j now)
  | 0 => hN
  | j + 1 => NI_stp hH (NI_itg hH hN j) _
theorem itg_0 {h now : Nat → Int32} {nd nc na nw m g n : Nat} (hc : nc ≤ 6) (em : now 0 = nI m) : ∀ j, itg h nd nc na nw m g n j now 0 = nI (m + j)
  | 0 => em
  | j + 1 => by
    show stp h nd nc na (gst h nw m g n j) (itg h nd nc na nw m g n j now) 0 = _
    rw [stp_0 hc, itg_0 hc em j, nI_1]
    rfl
theorem itg_stay {h now : Nat → Int32} {nd nc na nw m g n a i : Nat} (hc : nc ≤ 6) (ha : a < 6) (hx : itg h nd nc na nw m g n i now (30 + 2 * a) ≠ 1) : ∀ j, i ≤ j → itg h nd nc na nw m g n j now (30 + 2 * a) = itg h nd nc na nw m g n i now (30 + 2 * a)
  | 0, hj => by rw [show i = 0 by omega]
  | j + 1, hj => by
    by_cases e : i = j + 1
    · rw [e]
    · have ih := itg_stay (h := h) (now := now) (nd := nd) (nc := nc) (na := na) (nw := nw) (m := m) (g := g) (n := n) hc ha hx j (by omega)
      show stp h nd nc na (gst h nw m g n j) (itg h nd nc na nw m g n j now) (30 + 2 * a) = _
      rw [stp_stay hc ha _ (by rw [ih]; exact hx), ih]
def bgn (a : Nat) (now : Nat → Int32) : Nat → Int32 := if now (30 + 2 * a) = 0 then upd now (30 + 2 * a) 1 else now
theorem NI_bgn {h now : Nat → Int32} {nr nd nc na nw a : Nat} (hH : HH h nr nd nc na nw) (hN : NI h nr nd nc na now) (han : a < na) : NI h nr nd nc na (bgn a now) := by
  obtain ⟨hnr, hnd, hnc, hna, hnw⟩ := hH.2.1
  unfold bgn
  by_cases c3 : now (30 + 2 * a) = 0
  · rw [if_pos c3]
    obtain ⟨-, kh, nn, k1, k2, k3, k4, k5, k6⟩ := hN.2.2.2.2.1 a han
    obtain ⟨⟨nn', p1, p2, p3⟩, -⟩ := hH.2.2.2.2.1 a han
    have hnn : nn = nn' := (nI_eq (by omega) (by omega)).mp (k4.symm.trans p3)
    have := NI_act (x := now (30 + 2 * a + 1)) (y := 1) hN han hna hnc (ix4 (v := 1) (by decide)) ⟨kh, nn, k1, k2, k3, k4, fun e => absurd e (by decide), fun _ => by have := k5 c3; omega⟩
    rw [upd_self] at this
    exact this
  · rw [if_neg c3]; exact hN
theorem bgn_0 {a m : Nat} {now : Nat → Int32} (em : now 0 = nI m) : bgn a now 0 = nI m := by
  unfold bgn
  by_cases c3 : now (30 + 2 * a) = 0
  · rw [if_pos c3, pk_un (by omega)]; exact em
  · rw [if_neg c3]; exact em
theorem c_bgn {a : Nat} {now : Nat → Int32} (ha : a < 6) : f_X4_beginIfNot (rowOf now) (nI a) = some (rowOf (bgn a now)) := by
  unfold f_X4_beginIfNot bgn
  rw [c_stage ha, Option.bind_some]
  by_cases c : now (30 + 2 * a) = 0
  · rw [if_pos c, if_pos c, addL, wr_ok (by omega) (by omega), Option.bind_some, ← rowu_s a ha]
  · rw [if_neg c, if_neg c]
theorem c_isEnded {a : Nat} {now : Nat → Int32} (ha : a < 6) : f_X4_isEnded (rowOf now) (nI a) = some (b2i (decide (now (30 + 2 * a) = 2) || decide (now (30 + 2 * a) = 3))) := by
  unfold f_X4_isEnded
  rw [c_stage ha, Option.bind_some, Option.bind_some]
  by_cases c : now (30 + 2 * a) = 2
  · rw [if_pos c, decide_eq_true c]; rfl
  · rw [if_neg c, decide_eq_false c]
    by_cases d : now (30 + 2 * a) = 3
    · rw [if_pos d, decide_eq_true d]; rfl
    · rw [if_neg d, decide_eq_false d]; rfl
/-- the act is whole in the end -/
def fin_ (h : Nat → Int32) (nd nc na nw m g n a : Nat) (now : Nat → Int32) : Bool := decide (itg h nd nc na nw m g n 60 (bgn a now) (30 + 2 * a) = 2)
theorem c_ends {h now t1 t2 tnn tar trr twi : Nat → Int32} {nr nd nc na nw m g n a : Nat} (hH : HH h nr nd nc na nw) (hT : HT h nd na nw t1 t2 tnn tar trr twi) (hN : NI h nr nd nc na now) (hm : m ≤ 999) (em : now 0 = nI m) (han : a < na) (hg : g < 64) (hn : n ≤ 6) : ∃ z : Nat → Int32, f_X1_endsWhole (rowOf now) (nI nd) (nI nc) (nI na) (nI nw) t1 t2 tnn tar trr twi (nI a) (nI g) (nI n) = some (b2i (fin_ h nd nc na nw m g n a now), rowOf z) := by
  obtain ⟨hnr, hnd, hnc, hna, hnw⟩ := hH.2.1
  unfold f_X1_endsWhole
  rw [c_bgn (by omega), Option.bind_some]
  have hNI : ∀ j, NI h nr nd nc na (itg h nd nc na nw m g n j (bgn a now)) := fun j => NI_itg hH (NI_bgn hH hN han) j
  have hI0 : ∀ j, itg h nd nc na nw m g n j (bgn a now) 0 = nI (m + j) := fun j => itg_0 hnc (bgn_0 em) j
  have last : ∀ j, itg h nd nc na nw m g n j (bgn a now) (30 + 2 * a) = itg h nd nc na nw m g n 60 (bgn a now) (30 + 2 * a) → ∃ z : Nat → Int32, f_X1_endsWhole_74 (nI nd) (nI nc) (nI na) (nI nw) t1 t2 tnn tar trr twi (nI a) (nI g) (nI n) (rowOf (itg h nd nc na nw m g n j (bgn a now))) = some (b2i (fin_ h nd nc na nw m g n a now), rowOf z) := fun j hj => by
    unfold f_X1_endsWhole_74 fin_
    rw [c_stage (by omega), Option.bind_some, hj]
    by_cases c : itg h nd nc na nw m g n 60 (bgn a now) (30 + 2 * a) = 2
    · rw [if_pos c, decide_eq_true c]; exact ⟨_, rfl⟩
    · rw [if_neg c, decide_eq_false c]; exact ⟨_, rfl⟩
  have loop : ∀ (q j k : Nat), j + q = 60 → q < k → ∃ z : Nat → Int32, f_X1_endsWhole_11 (nI nd) (nI nc) (nI na) (nI nw) t1 t2 tnn tar trr twi (nI a) (nI g) (nI n) k (nI j) (rowOf (itg h nd nc na nw m g n j (bgn a now))) = some (b2i (fin_ h nd nc na nw m g n a now), rowOf z) := by
    intro q
    induction q with
    | zero =>
      intro j k hj hk
      obtain ⟨k, rfl⟩ : ∃ z, k = z + 1 := ⟨k - 1, by omega⟩
      have : j = 60 := by omega
      subst this
      rw [f_X1_endsWhole_11, if_pos (by decide)]
      exact last 60 rfl
    | succ q ih =>
      intro j k hj hk
      obtain ⟨k, rfl⟩ : ∃ z, k = z + 1 := ⟨k - 1, by omega⟩
      have ih' := ih (j + 1) k (by omega) (by omega)
      rw [f_X1_endsWhole_11, if_neg (show ¬ (60 : Int32) ≤ nI j by rw [show (60 : Int32) = nI 60 from rfl, nI_leI (by omega) (by omega)]; omega), c_isEnded (by omega), Option.bind_some]
      cases hb : (decide (itg h nd nc na nw m g n j (bgn a now) (30 + 2 * a) = 2) || decide (itg h nd nc na nw m g n j (bgn a now) (30 + 2 * a) = 3)) with
      | true =>
        rw [bt0]
        refine last j (itg_stay hnc (by omega) ?_ 60 (by omega)).symm
        intro e
        rw [e] at hb
        exact absurd hb (by decide)
      | false =>
        rw [bf0]
        have step : ∀ w : Bool, gst h nw m g n j = w → ∃ z : Nat → Int32, f_X1_endsWhole_64 (nI nd) (nI nc) (nI na) (nI nw) t1 t2 tnn tar trr twi (nI a) (nI g) (nI n) (f_X1_endsWhole_11 (nI nd) (nI nc) (nI na) (nI nw) t1 t2 tnn tar trr twi (nI a) (nI g) (nI n) k) (nI j) (b2i w) (rowOf (itg h nd nc na nw m g n j (bgn a now))) = some (b2i (fin_ h nd nc na nw m g n a now), rowOf z) := fun w hw => by
          unfold f_X1_endsWhole_64
          rw [c_pass hH hT.1 hT.2.1 (hNI j), Option.bind_some, addR, ← hw]
          exact ih'
        by_cases c : n ≤ j
        · rw [if_pos ((nI_leI (by omega) (by omega)).mpr c), c_wind hnw (by omega) (hI0 j) hT.2.2, Option.bind_some]
          exact step _ (by unfold gst; rw [if_neg (by omega)])
        · rw [if_neg (fun q => c ((nI_leI (by omega) (by omega)).mp q)), c_bit hg (by omega), Option.bind_some]
          have hw : gst h nw m g n j = g.testBit j := by unfold gst; rw [if_pos (by omega)]
          cases hc : g.testBit j with
          | true => rw [bt1]; exact step true (by rw [hw, hc])
          | false => rw [bf1]; exact step false (by rw [hw, hc])
  have l := loop 60 0 fl_ (by omega) (fl_lt (by omega))
  rw [show nI 0 = (0 : Int32) from rfl, show itg h nd nc na nw m g n 0 (bgn a now) = bgn a now from rfl] at l
  exact l
theorem b2i_inj {a b : Bool} (h : b2i a = b2i b) : a = b := by
  cases a <;> cases b <;> first | rfl | exact absurd h (by decide)
/-- the same night, the same end -/
theorem fin_ext {h a b : Nat → Int32} {nr nd nc na nw m g n x : Nat} (hH : HH h nr nd nc na nw) (hx : ∀ k, k < 47 → a k = b k) (hN : NI h nr nd nc na a) (hm : m ≤ 999) (em : a 0 = nI m) (han : x < na) (hg : g < 64) (hn : n ≤ 6) : fin_ h nd nc na nw m g n x a = fin_ h nd nc na nw m g n x b := by
  obtain ⟨hnr, hnd, hnc, hna, hnw⟩ := hH.2.1
  have hT : HT h nd na nw (fun d => h (5 + 2 * d)) (fun d => h (5 + 2 * d + 1)) (fun a => h (27 + 4 * a)) (fun a => h (27 + 4 * a + 2)) (fun a => h (27 + 4 * a + 3)) (fun w => h (51 + w)) := ⟨fun _ _ => ⟨rfl, rfl⟩, fun _ _ => ⟨rfl, rfl, rfl⟩, fun _ _ => rfl⟩
  obtain ⟨z1, q1⟩ := c_ends (g := g) (n := n) hH hT hN hm em han hg hn
  obtain ⟨z2, q2⟩ := c_ends (g := g) (n := n) hH hT (NI_ext hx hnc hna hN) hm (by rw [← hx 0 (by omega)]; exact em) han hg hn
  rw [row_ext hx, q2] at q1
  have := Option.some.inj q1
  exact (b2i_inj (congrArg Prod.fst this)).symm
/-- the model's -/
theorem m_isWhole {h now : Nat → Int32} {nr nd nc na nw m a : Nat} (hH : HH h nr nd nc na nw) (hN : NI h nr nd nc na now) (hm : m ≤ 999) (em : now 0 = nI m) (han : a < na) : ∃ z : Nat → Int32, f_X8_isWhole h now (nI a) = some (b2i (fin_ h nd nc na nw m 0 0 a now), z) := by
  obtain ⟨hnr, hnd, hnc, hna, hnw⟩ := hH.2.1
  have hNI : ∀ j, NI h nr nd nc na (itg h nd nc na nw m 0 0 j (bgn a now)) := fun j => NI_itg hH (NI_bgn hH hN han) j
  have hI0 : ∀ j, itg h nd nc na nw m 0 0 j (bgn a now) 0 = nI (m + j) := fun j => itg_0 hnc (bgn_0 em) j
  have last : ∀ j, itg h nd nc na nw m 0 0 j (bgn a now) (30 + 2 * a) = itg h nd nc na nw m 0 0 60 (bgn a now) (30 + 2 * a) → ∃ z : Nat → Int32, f_X8_isWhole_83 h (nI a) (itg h nd nc na nw m 0 0 j (bgn a now)) = some (b2i (fin_ h nd nc na nw m 0 0 a now), z) := fun j hj => by
    unfold f_X8_isWhole_83 fin_
    rw [mulL, addL, rd_ok (by omega) (by omega), Option.bind_some, hj]
    by_cases c : itg h nd nc na nw m 0 0 60 (bgn a now) (30 + 2 * a) = 2
    · rw [if_pos c, decide_eq_true c]; exact ⟨_, rfl⟩
    · rw [if_neg c, decide_eq_false c]; exact ⟨_, rfl⟩
  have loop : ∀ (q j k : Nat), j + q = 60 → q < k → ∃ z : Nat → Int32, f_X8_isWhole_42 h (nI a) k (nI j) (itg h nd nc na nw m 0 0 j (bgn a now)) = some (b2i (fin_ h nd nc na nw m 0 0 a now), z) := by
    intro q
    induction q with
    | zero =>
      intro j k hj hk
      obtain ⟨k, rfl⟩ : ∃ z, k = z + 1 := ⟨k - 1, by omega⟩
      have : j = 60 := by omega
      subst this
      rw [f_X8_isWhole_42, if_pos (by decide)]
      exact last 60 rfl
    | succ q ih =>
      intro j k hj hk
      obtain ⟨k, rfl⟩ : ∃ z, k = z + 1 := ⟨k - 1, by omega⟩
      have ih' := ih (j + 1) k (by omega) (by omega)
      rw [f_X8_isWhole_42, if_neg (show ¬ (60 : Int32) ≤ nI j by rw [show (60 : Int32) = nI 60 from rfl, nI_leI (by omega) (by omega)]; omega), mulL, addL, rd_ok (by omega) (by omega), Option.bind_some]
      by_cases c : itg h nd nc na nw m 0 0 j (bgn a now) (30 + 2 * a) = 1
      · rw [if_pos c, m_nxt hH (hNI j) (by omega) (hI0 j), addR]
        exact ih'
      · rw [if_neg c]
        exact last j (itg_stay hnc (by omega) c 60 (by omega)).symm
  have l := loop 60 0 fl_ (by omega) (fl_lt (by omega))
  rw [show nI 0 = (0 : Int32) from rfl, show itg h nd nc na nw m 0 0 0 (bgn a now) = bgn a now from rfl] at l
  obtain ⟨z, l⟩ := l
  refine ⟨z, ?_⟩
  unfold f_X8_isWhole f_X8_isWhole_39
  rw [mulL, addL, rd_ok (by omega) (by omega), Option.bind_some, Option.bind_some, wr_ok (by omega) (by omega), wr_ok (by omega) (by omega), Option.bind_some, Option.bind_some]
  rw [← l]
  unfold bgn
  by_cases c : now (30 + 2 * a) = 0
  · rw [if_pos c, if_pos c]
  · rw [if_neg c, if_neg c, upd_self]
