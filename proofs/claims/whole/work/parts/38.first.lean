/-! first -/
def ad_ (x y : Nat) : Nat := mk_ (fun j => x.testBit j && !y.testBit j) 6
theorem andn_d : ∀ x, x < 64 → ∀ y, y < 64 → nI x &&& (nI y ^^^ (-1)) = nI (ad_ x y) := by decide +kernel
theorem ntz_d : ∀ m, m < 64 → m ≠ 0 → ∃ j, j < 6 ∧ (m.testBit j = true ∧ (∀ i, i < j → m.testBit i = false) ∧ f_J6_numberOfTrailingZeros_0f7a4 (nI m) = some (nI j)) := by decide +kernel
theorem ad_bit {x y j : Nat} (hj : j < 6) : (ad_ x y).testBit j = (x.testBit j && !y.testBit j) := mk_bit hj
theorem ad_64 (x y : Nat) : ad_ x y < 64 := mk_64 (Nat.le_refl 6)
theorem mk_zero {p : Nat → Bool} {n : Nat} : mk_ p n = 0 ↔ ∀ j, j < n → p j = false := by
  constructor
  · intro h j hj
    have := mk_bit (p := p) hj
    rw [h, Nat.zero_testBit] at this
    exact this.symm
  · intro h
    rw [mk_ext (q := fun _ => false) h, mk_false]
theorem pcn_mono {p q : Nat → Bool} : ∀ {n : Nat}, (∀ j, j < n → p j = true → q j = true) → pcn_ p n ≤ pcn_ q n
  | 0, _ => Nat.le_refl _
  | n + 1, h => by
    have ih := pcn_mono (n := n) (fun j hj => h j (by omega))
    have hn := h n (by omega)
    unfold pcn_
    cases hp : p n
    · rw [if_neg (by decide)]; omega
    · rw [if_pos rfl, if_pos (hn hp)]; omega
theorem pcn_lt {p q : Nat → Bool} {i : Nat} : ∀ {n : Nat}, (∀ j, j < n → p j = true → q j = true) → i < n → p i = false → q i = true → pcn_ p n < pcn_ q n
  | 0, _, hi, _, _ => absurd hi (by omega)
  | n + 1, h, hi, h1, h2 => by
    have hn := h n (by omega)
    by_cases e : i = n
    · subst e
      have ih := pcn_mono (n := i) (p := p) (q := q) (fun j hj => h j (by omega))
      unfold pcn_
      rw [h1, h2, if_neg (by decide), if_pos rfl]; omega
    · have ih := pcn_lt (n := n) (fun j hj => h j (by omega)) (by omega) h1 h2
      unfold pcn_
      cases hp : p n
      · rw [if_neg (by decide)]; omega
      · rw [if_pos rfl, if_pos (hn hp)]; omega
theorem ne_m9 : ∀ a, a < 6 → ¬ nI a = (-9 : Int32) := by decide
theorem m_fi_none {h nw as_ : Nat → Int32} {na : Nat} {v1 n : Int32} {K : Int32 → Int32 → Int32 → (Nat → Int32) → (Nat → Int32) → Option (Int32 × (Nat → Int32) × (Nat → Int32))} (e3 : h 3 = nI na) (hna : na ≤ 6) (hf : ∀ a, a < na → ¬ (nw (30 + 2 * a) = 3 ∧ ¬ as_ (30 + 2 * a) = 3)) : ∀ (q j k : Nat), j + q = na → q < k → f_X8_first_55 h v1 K k (-9) (-9) n (nI j) nw as_ = K (-9) (-9) (n + 1) nw as_ := by
  intro q
  induction q with
  | zero =>
    intro j k hj hk
    obtain ⟨k, rfl⟩ : ∃ z, k = z + 1 := ⟨k - 1, by omega⟩
    rw [f_X8_first_55, rdL (by omega) (by omega), Option.bind_some, if_pos (by show h 3 ≤ nI j; rw [e3, nI_leI (by omega) (by omega)]; omega)]
    rfl
  | succ q ih =>
    intro j k hj hk
    obtain ⟨k, rfl⟩ : ∃ z, k = z + 1 := ⟨k - 1, by omega⟩
    have ih' := ih (j + 1) k (by omega) (by omega)
    have hfj := hf j (by omega)
    rw [f_X8_first_55, rdL (by omega) (by omega), Option.bind_some, if_neg (by show ¬ h 3 ≤ nI j; rw [e3, nI_leI (by omega) (by omega)]; omega), if_pos rfl, mulL, addL, rd_ok (by omega) (by omega), Option.bind_some]
    have e8 : f_X8_first_108 h v1 K (f_X8_first_55 h v1 K k) (-9) (-9) n (nI j) nw as_ = K (-9) (-9) (n + 1) nw as_ := by
      unfold f_X8_first_108 f_X8_first_109
      rw [if_pos rfl]
      unfold f_X8_first_122
      rw [if_pos rfl]
      unfold f_X8_first_134
      rw [addR]
      exact ih'
    by_cases c : nw (30 + 2 * j) = 3
    · have d : as_ (30 + 2 * j) = 3 := Classical.byContradiction fun q => hfj ⟨c, q⟩
      rw [if_pos c, rd_ok (by omega) (by omega), Option.bind_some, if_pos d, e8]
    · rw [if_neg c, e8]
theorem m_fi_some {h nw as_ : Nat → Int32} {na a0 : Nat} {v1 n : Int32} {K : Int32 → Int32 → Int32 → (Nat → Int32) → (Nat → Int32) → Option (Int32 × (Nat → Int32) × (Nat → Int32))} (e3 : h 3 = nI na) (hna : na ≤ 6) (ha : a0 < na) (h0 : nw (30 + 2 * a0) = 3 ∧ ¬ as_ (30 + 2 * a0) = 3) (hf : ∀ a, a < a0 → ¬ (nw (30 + 2 * a) = 3 ∧ ¬ as_ (30 + 2 * a) = 3)) : ∀ (q j k : Nat), j + q = a0 → q + 1 < k → f_X8_first_55 h v1 K k (-9) (-9) n (nI j) nw as_ = K (nI a0) n (n + 1) nw as_ := by
  intro q
  induction q with
  | zero =>
    intro j k hj hk
    obtain ⟨k, rfl⟩ : ∃ z, k = z + 1 := ⟨k - 1, by omega⟩
    obtain ⟨k, rfl⟩ : ∃ z, k = z + 1 := ⟨k - 1, by omega⟩
    have : j = a0 := by omega
    subst this
    rw [f_X8_first_55, rdL (by omega) (by omega), Option.bind_some, if_neg (by show ¬ h 3 ≤ nI j; rw [e3, nI_leI (by omega) (by omega)]; omega), if_pos rfl, mulL, addL, rd_ok (by omega) (by omega), Option.bind_some, if_pos h0.1, rd_ok (by omega) (by omega), Option.bind_some, if_neg h0.2]
    unfold f_X8_first_109
    rw [if_neg (by decide)]
    unfold f_X8_first_122
    rw [if_neg (by decide)]
    unfold f_X8_first_134
    rw [f_X8_first_55, rdL (by omega) (by omega), Option.bind_some, if_neg (ne_m9 j (by omega))]
    by_cases c : h (OfNat.ofNat 3) ≤ nI j + 1
    · rw [if_pos c]; rfl
    · rw [if_neg c]; rfl
  | succ q ih =>
    intro j k hj hk
    obtain ⟨k, rfl⟩ : ∃ z, k = z + 1 := ⟨k - 1, by omega⟩
    have ih' := ih (j + 1) k (by omega) (by omega)
    have hfj := hf j (by omega)
    rw [f_X8_first_55, rdL (by omega) (by omega), Option.bind_some, if_neg (by show ¬ h 3 ≤ nI j; rw [e3, nI_leI (by omega) (by omega)]; omega), if_pos rfl, mulL, addL, rd_ok (by omega) (by omega), Option.bind_some]
    have e8 : f_X8_first_108 h v1 K (f_X8_first_55 h v1 K k) (-9) (-9) n (nI j) nw as_ = K (nI a0) n (n + 1) nw as_ := by
      unfold f_X8_first_108 f_X8_first_109
      rw [if_pos rfl]
      unfold f_X8_first_122
      rw [if_pos rfl]
      unfold f_X8_first_134
      rw [addR]
      exact ih'
    by_cases c : nw (30 + 2 * j) = 3
    · have d : as_ (30 + 2 * j) = 3 := Classical.byContradiction fun q => hfj ⟨c, q⟩
      rw [if_pos c, rd_ok (by omega) (by omega), Option.bind_some, if_pos d, e8]
    · rw [if_neg c, e8]
theorem least_of {P : Nat → Prop} : ∀ n, P n → ∃ a, a ≤ n ∧ P a ∧ ∀ i, i < a → ¬ P i := by
  intro n
  induction n using Nat.strongRecOn with
  | ind n ih =>
    intro h
    by_cases c : ∃ i, i < n ∧ P i
    · obtain ⟨i, hi, hp⟩ := c
      obtain ⟨a, h1, h2, h3⟩ := ih i hi hp
      exact ⟨a, by omega, h2, h3⟩
    · exact ⟨n, Nat.le_refl _, h, fun i hi hp => c ⟨i, hi, hp⟩⟩
theorem m_fi_end {h nw as_ : Nat → Int32} {v1 a n z : Int32} {k : Nat} (hk : 0 < k) (ha : ¬ a = -9) : f_X8_first_25 h v1 k a n z nw as_ = some (if v1 = 0 then a else n, cpx as_ nw 0 47, as_) := by
  obtain ⟨k, rfl⟩ : ∃ z, k = z + 1 := ⟨k - 1, by omega⟩
  have e : f_X8_first_147 h v1 a n nw as_ = some (if v1 = 0 then a else n, cpx as_ nw 0 47, as_) := by
    unfold f_X8_first_147
    rw [m_backs, Option.bind_some]
    by_cases c : v1 = 0
    · rw [if_pos c, if_pos c]
    · rw [if_neg c, if_neg c]
  rw [f_X8_first_25, if_neg ha, e]
  by_cases c : (61 : Int32) ≤ z
  · rw [if_pos c]
  · rw [if_neg c]
theorem m_fi_stop {h nw as_ : Nat → Int32} {v1 : Int32} {k : Nat} (hk : 0 < k) : f_X8_first_25 h v1 k (-9) (-9) (nI 61) nw as_ = some (-9, cpx as_ nw 0 47, as_) := by
  obtain ⟨k, rfl⟩ : ∃ z, k = z + 1 := ⟨k - 1, by omega⟩
  rw [f_X8_first_25, if_pos (by decide)]
  unfold f_X8_first_147
  rw [m_backs, Option.bind_some]
  by_cases c : v1 = 0
  · rw [if_pos c]
  · rw [if_neg c]
theorem o_first {h now t1 t2 tnn tar trr twi q_row ad : Nat → Int32} {nr nd nc na nw m : Nat} (hH : HH h nr nd nc na nw) (hT : HT h nd na nw t1 t2 tnn tar trr twi) (hN : NI h nr nd nc na now) (hm : m ≤ 999) (em : now 0 = nI m) (hq : ∀ i, 33 ≤ i → q_row i = 0) (v1 : Int32) : ∃ r q' now' ad', f_X7_first (nI nd) (nI nc) (nI na) (nI nw) t1 t2 tnn tar trr twi (rowOf now) q_row v1 = some (r, q') ∧ f_X8_first h now ad v1 = some (r, now', ad') ∧ (∀ i, 33 ≤ i → q' i = 0) ∧ ∀ k, k < 47 → now' k = now k := by
  obtain ⟨e0, e1, e2, e3, e4⟩ := hH.1
  obtain ⟨hnr, hnd, hnc, hna, hnw⟩ := hH.2.1
  unfold f_X7_first f_X8_first
  have ei : f_X8_in v1.toInt64 0 1 = some (b2i (rg v1 0 1)) := in_rg (by decide) (by decide)
  have ew : f_X7_within v1 0 1 = some (b2i (rg v1 0 1)) := wt_rg (by decide) (by decide)
  rw [ei, ew, Option.bind_some, Option.bind_some]
  cases c1 : rg v1 0 1 with
  | false => exact ⟨-1, q_row, now, ad, by rw [bf0], by rw [bf0], hq, fun _ _ => rfl⟩
  | true =>
    rw [bt0, bt0, m_asides, Option.bind_some]
    let I := fun j => itr h nd nc na nw m j now
    have hI0 : I 0 = now := rfl
    have hIs : ∀ j, nxt h nd nc na nw (m + j) (I j) = I (j + 1) := fun _ => rfl
    have hNI : ∀ j, NI h nr nd nc na (I j) := fun j => NI_itr hH hN j
    have hI00 : ∀ j, I j 0 = nI (m + j) := fun j => itr_0 hnc em j
    have hstay : ∀ {i a : Nat}, a < 6 → I i (30 + 2 * a) ≠ 1 → ∀ j, i ≤ j → I j (30 + 2 * a) = I i (30 + 2 * a) := fun ha hx j hj => itr_stay hnc ha hx j hj
    have hst3 : ∀ {i a : Nat}, a < 6 → I i (30 + 2 * a) = 3 → ∀ j, i ≤ j → I j (30 + 2 * a) = 3 := fun ha hx j hj => by
      rw [hstay ha (by rw [hx]; decide) j hj, hx]
    have hcn : ∀ j, cntV na (I (j + 1)) = cntV na (I j) + vds h nc na (if wnd h nw (m + j) then blw h nd nc (I j) else I j) := fun j => cnt_stp hnc hna _
    have has : ∀ a, a < 6 → cpx now ad 0 47 (30 + 2 * a) = now (30 + 2 * a) := fun a ha => cpx_47 (by omega)
    have hpb : ∀ j k, k < 47 → cpx (cpx now ad 0 47) (I j) 0 47 k = now k := fun j => put_back
    clear_value I
    -- nothing is begun any more
    have dead : ∀ (q i k : Nat), i + q = 61 → q < k → 1 ≤ i → (∀ a, a < na → I (i - 1) (30 + 2 * a) ≠ 1) → (∀ a, a < na → I (i - 1) (30 + 2 * a) = 3 → now (30 + 2 * a) = 3) → ∃ now', f_X8_first_25 h v1 k (-9) (-9) (nI i) (I (i - 1)) (cpx now ad 0 47) = some (-9, now', cpx now ad 0 47) ∧ ∀ k, k < 47 → now' k = now k := by
      intro q
      induction q with
      | zero =>
        intro i k hi hk h1 _ _
        have : i = 61 := by omega
        subst this
        exact ⟨_, m_fi_stop (by omega), hpb _⟩
      | succ q ih =>
        intro i k hi hk h1 hd hp
        obtain ⟨k, rfl⟩ : ∃ z, k = z + 1 := ⟨k - 1, by omega⟩
        obtain ⟨i, rfl⟩ : ∃ z, i = z + 1 := ⟨i - 1, by omega⟩
        rw [Nat.add_sub_cancel] at hd hp ⊢
        have hs : ∀ a, a < na → I (i + 1) (30 + 2 * a) = I i (30 + 2 * a) := fun a ha => hstay (by omega) (hd a ha) (i + 1) (by omega)
        rw [f_X8_first_25, if_neg (by rw [show (61 : Int32) = nI 61 from rfl, nI_leI (by omega) (by omega)]; omega), if_pos rfl, m_nxt hH (hNI i) (by omega) (hI00 i), hIs, show (0 : Int32) = nI 0 from rfl, m_fi_none e3 hna (fun a ha => ?_) na 0 fl_ (by omega) (fl_lt (by omega)), addR]
        · exact ih (i + 1 + 1) k (by omega) (by omega) (by omega) (fun a ha => by rw [Nat.add_sub_cancel, hs a ha]; exact hd a ha) (fun a ha hx => by rw [Nat.add_sub_cancel, hs a ha] at hx; exact hp a ha hx)
        · rw [has a (by omega), hs a ha]; exact fun q => q.2 (hp a ha q.1)
    have main : ∀ (s : Int32), (v1 = 0 ∧ s = 1) ∨ (¬ v1 = 0 ∧ s = 0) → ∀ (q i k : Nat), i + q = 61 → q < k → 1 ≤ i → (∀ a, a < na → I (i - 1) (30 + 2 * a) = 3 → now (30 + 2 * a) = 3) → ∃ r z now', f_X1_firstVoid_20 (rowOf now) (nI nd) (nI nc) (nI na) (nI nw) t1 t2 tnn tar trr twi s k (nI (mk_ (fun i => decide (now (30 + 2 * i) = 3)) na)) (nI i) (rowOf (I (i - 1))) = some (r, rowOf z) ∧ f_X8_first_25 h v1 k (-9) (-9) (nI i) (I (i - 1)) (cpx now ad 0 47) = some (r, now', cpx now ad 0 47) ∧ ∀ k, k < 47 → now' k = now k := by
      intro s hs q
      induction q with
      | zero =>
        intro i k hi hk h1 _
        have : i = 61 := by omega
        subst this
        obtain ⟨k, rfl⟩ : ∃ z, k = z + 1 := ⟨k - 1, by omega⟩
        refine ⟨-9, I (61 - 1), _, ?_, m_fi_stop (by omega), hpb _⟩
        rw [f_X1_firstVoid_20, if_pos (by decide)]
      | succ q ih =>
        intro i k hi hk h1 hp
        have hk0 := hk
        obtain ⟨k, rfl⟩ : ∃ z, k = z + 1 := ⟨k - 1, by omega⟩
        rw [f_X1_firstVoid_20, if_neg (show ¬ (60 : Int32) < nI i by rw [show (60 : Int32) = nI 60 from rfl, nI_ltI (by omega) (by omega)]; omega), c_acts_are hna, Option.bind_some]
        by_cases cb : ∀ a, a < na → I (i - 1) (30 + 2 * a) ≠ 1
        · have ez : mk_ (fun a => decide (I (i - 1) (30 + 2 * a) = 1)) na = 0 := mk_zero.mpr (fun a ha => decide_eq_false (cb a ha))
          rw [ez, if_pos (show nI 0 = (0 : Int32) from rfl)]
          obtain ⟨now', q1, q2⟩ := dead (q + 1) i (k + 1) hi hk0 h1 cb hp
          exact ⟨-9, _, now', rfl, q1, q2⟩
        · have ez : ¬ nI (mk_ (fun a => decide (I (i - 1) (30 + 2 * a) = 1)) na) = 0 := fun e => by
            have e' := (nI_eq (b := 0) (by have := mk_64 (p := fun a => decide (I (i - 1) (30 + 2 * a) = 1)) hna; omega) (by decide)).mp e
            exact cb (fun a ha => of_decide_eq_false (mk_zero.mp e' a ha))
          rw [if_neg ez]
          obtain ⟨i, rfl⟩ : ∃ z, i = z + 1 := ⟨i - 1, by omega⟩
          rw [Nat.add_sub_cancel] at hp ⊢
          have hv := hcn i
          rw [c_nxt hH hT (hNI i) (by omega) (hI00 i), hIs]
          generalize hV : vds h nc na (if wnd h nw (m + i) then blw h nd nc (I i) else I i) = V at hv ⊢
          have hV6 : V ≤ 6 := by have := cntV_le (na := na) (now := I (i + 1)); omega
          rw [f_X8_first_25, if_neg (show ¬ (61 : Int32) ≤ nI (i + 1) by rw [show (61 : Int32) = nI 61 from rfl, nI_leI (by omega) (by omega)]; omega), if_pos rfl, m_nxt hH (hNI i) (by omega) (hI00 i), hIs, show (0 : Int32) = nI 0 from rfl]
          by_cases cf : ∀ a, a < na → ¬ (I (i + 1) (30 + 2 * a) = 3 ∧ ¬ cpx now ad 0 47 (30 + 2 * a) = 3)
          · have hp' : ∀ a, a < na → I (i + 1) (30 + 2 * a) = 3 → now (30 + 2 * a) = 3 := fun a ha hx => Classical.byContradiction fun q => cf a ha ⟨hx, by rw [has a (by omega)]; exact q⟩
            have h3 : ∀ a, a < na → now (30 + 2 * a) = 3 → I i (30 + 2 * a) = 3 := fun a ha hx => hst3 (i := 0) (by omega) (by rw [hI0]; exact hx) i (by omega)
            have h4 : cntV na (I (i + 1)) ≤ cntV na (I i) := pcn_mono (fun a ha hx => decide_eq_true (h3 a ha (hp' a ha (of_decide_eq_true hx))))
            have hV0 : V = 0 := by omega
            subst hV0
            rw [if_pos (show nI 0 ≤ nI 0 by decide), m_fi_none e3 hna cf na 0 fl_ (by omega) (fl_lt (by omega)), addR]
            exact ih (i + 1 + 1) k (by omega) (by omega) (by omega) hp'
          · obtain ⟨a, ha, hfa⟩ : ∃ a, a < na ∧ (I (i + 1) (30 + 2 * a) = 3 ∧ ¬ cpx now ad 0 47 (30 + 2 * a) = 3) := Classical.byContradiction fun q => cf (fun a ha hx => q ⟨a, ha, hx⟩)
            obtain ⟨a0, ha0, hf0, hl0⟩ := least_of (P := fun a => I (i + 1) (30 + 2 * a) = 3 ∧ ¬ cpx now ad 0 47 (30 + 2 * a) = 3) a hfa
            have ha1 : a0 < na := by omega
            rw [has a0 (by omega)] at hf0
            have h3 : ∀ b, b < na → I i (30 + 2 * b) = 3 → I (i + 1) (30 + 2 * b) = 3 := fun b hb hx => hst3 (by omega) hx (i + 1) (by omega)
            have hlt : cntV na (I i) < cntV na (I (i + 1)) := pcn_lt (i := a0) (fun b hb hx => decide_eq_true (h3 b hb (of_decide_eq_true hx))) ha1 (decide_eq_false (fun e => hf0.2 (hp a0 ha1 e))) (decide_eq_true hf0.1)
            rw [if_neg (show ¬ nI V ≤ nI 0 by rw [nI_leI (by omega) (by omega)]; omega), c_acts_are hna, Option.bind_some]
            rw [m_fi_some e3 hna ha1 (by rw [has a0 (by omega)]; exact hf0) hl0 a0 0 fl_ (by omega) (fl_lt (by omega)), m_fi_end (by omega) (ne_m9 a0 (by omega))]
            have hx1 : mk_ (fun i_1 => decide (I (i + 1) (30 + 2 * i_1) = 3)) na < 64 := mk_64 hna
            have hx2 : mk_ (fun i => decide (now (30 + 2 * i) = 3)) na < 64 := mk_64 hna
            rcases hs with ⟨s1, s2⟩ | ⟨s1, s2⟩
            · subst s2
              rw [if_neg (by decide), if_pos s1, andn_d _ hx1 _ hx2]
              generalize hX : mk_ (fun i_1 => decide (I (i + 1) (30 + 2 * i_1) = 3)) na = X at hx1 ⊢
              generalize hY : mk_ (fun i => decide (now (30 + 2 * i) = 3)) na = Y at hx2 ⊢
              have hXY : ∀ b, b < na → (ad_ X Y).testBit b = (decide (I (i + 1) (30 + 2 * b) = 3) && !decide (now (30 + 2 * b) = 3)) := fun b hb => by
                rw [ad_bit (by omega), ← hX, ← hY, mk_bit hb, mk_bit hb]
              have hb0 : (ad_ X Y).testBit a0 = true := by rw [hXY a0 ha1]; simp [hf0.1, hf0.2]
              have hne : ad_ X Y ≠ 0 := fun e => by rw [e, Nat.zero_testBit] at hb0; cases hb0
              obtain ⟨j, hj, j1, j2, j3⟩ := ntz_d (ad_ X Y) (ad_64 X Y) hne
              have hja : j = a0 := by
                rcases Nat.lt_trichotomy j a0 with z | z | z
                · have := hl0 j z
                  rw [hXY j (by omega)] at j1
                  simp only [Bool.and_eq_true, decide_eq_true_eq, Bool.not_eq_true', decide_eq_false_iff_not] at j1
                  exact absurd ⟨j1.1, by rw [has j (by omega)]; exact j1.2⟩ this
                · exact z
                · rw [j2 a0 z] at hb0; cases hb0
              subst hja
              rw [j3, Option.bind_some]
              exact ⟨_, _, _, rfl, rfl, hpb _⟩
            · subst s2
              rw [if_pos (show (0 : Int32) = nI 0 from rfl), if_neg s1]
              exact ⟨_, _, _, rfl, rfl, hpb _⟩
    have fin : ∀ s : Int32, ((v1 = 0 ∧ s = 1) ∨ (¬ v1 = 0 ∧ s = 0)) → ∃ r q' now' ad', f_X7_first_28 (nI nd) (nI nc) (nI na) (nI nw) t1 t2 tnn tar trr twi (rowOf now) v1 s q_row = some (r, q') ∧ f_X8_first_25 h v1 fl_ (-9) (-9) 1 now (cpx now ad 0 47) = some (r, now', ad') ∧ (∀ i, 33 ≤ i → q' i = 0) ∧ ∀ k, k < 47 → now' k = now k := by
      intro s hs
      obtain ⟨r, z, now', q1, q2, q3⟩ := main s hs 60 1 fl_ (by omega) (fl_lt (by omega)) (by omega) (fun a ha hx => by rw [show 1 - 1 = 0 from rfl, hI0] at hx; exact hx)
      rw [show 1 - 1 = 0 from rfl, hI0, show nI 1 = (1 : Int32) from rfl] at q1 q2
      refine ⟨r, rowOf z, now', _, ?_, q2, fun i hi => row_big hi, q3⟩
      unfold f_X7_first_28 f_X1_firstVoid
      rw [c_copy hq, Option.bind_some, c_acts_are hna, Option.bind_some, q1]
      rfl
    by_cases c : v1 = 0
    · rw [if_pos c]; exact fin 1 (Or.inl ⟨c, rfl⟩)
    · rw [if_neg c]; exact fin 0 (Or.inr ⟨c, rfl⟩)
