/-! cut: the two searches end alike -/
theorem pw_le {nc w : Nat} (h1 : nc ≤ 6) (h2 : w ≤ 6) : nc ^ w ≤ 46656 :=
  Nat.le_trans (Nat.pow_le_pow_left h1 w) (Nat.le_trans (Nat.pow_le_pow_right (by decide) h2) (by decide))
def cutA (v1 v3 v4 : Int32) (by_ over : Nat → Int32) : Option (Int32 × (Nat → Int32) × (Nat → Int32)) := if v3 = 99 then some (-9, by_, over) else (if v1 = -1 then some (v3, by_, over) else (if v1 = -2 then some (v4, by_, over) else ((rd_ by_ 6 v1).bind fun x7 => some (x7, by_, over))))
theorem m_rows {h now wn : Nat → Int32} {nr nd nc na w N : Nat} {L : Nat → Nat} {v1 : Int32} {st0 : Nat × Nat × (Nat → Nat)} (e2 : h 2 = nI nc) (hN : NI h nr nd nc na now) (hnc : nc ≤ 6) (hw : w ≤ 6) (hL : ∀ i, i < w → 1 ≤ L i ∧ L i ≤ 60 ∧ wn i = nI (L i)) (hN1 : N ≤ 46656) (hN0 : 0 < N → 0 < w → 0 < nc) : ∀ (q R k : Nat), R + q = N → q < k → ∀ (v3 v4 : Int32) (by_ over : Nat → Int32), RM L w (fo (fun i => U_ nc L (Sf now) w i) R st0) v3 v4 by_ → ∃ v3' v4' by' over', f_X8_cut_56 (nI w) h now wn v1 k (nI N) v3 v4 (nI R) by_ over = cutA v1 v3' v4' by' over' ∧ RM L w (fo (fun i => U_ nc L (Sf now) w i) N st0) v3' v4' by' := by
  intro q
  induction q with
  | zero =>
    intro R k hR hk v3 v4 by_ over hst
    obtain ⟨k, rfl⟩ : ∃ z, k = z + 1 := ⟨k - 1, by omega⟩
    have : R = N := by omega
    subst this
    rw [f_X8_cut_56, if_pos ((nI_leI (by omega) (by omega)).mpr (Nat.le_refl _))]
    exact ⟨v3, v4, by_, over, rfl, hst⟩
  | succ q ih =>
    intro R k hR hk v3 v4 by_ over hst
    obtain ⟨k, rfl⟩ : ∃ z, k = z + 1 := ⟨k - 1, by omega⟩
    obtain ⟨v3', v4', by', over', f1, f2⟩ := m_row (h := h) (now := now) (wn := wn) (R := R) (v1 := v1) (v2 := nI N) (K := f_X8_cut_56 (nI w) h now wn v1 k) (over := over) e2 hN hnc hw hL (by omega) (hN0 (by omega)) hst
    rw [f_X8_cut_56, if_neg (fun z => by have := (nI_leI (by omega) (by omega)).mp z; omega), f1]
    exact ih (R + 1) k (by omega) (by omega) v3' v4' by' over' f2
theorem m_pow {h now wn by_ over : Nat → Int32} {nc w : Nat} {v1 : Int32} (e2 : h 2 = nI nc) (hw : w ≤ 6) : ∀ (q j k : Nat), j + q = w → q < k → f_X8_cut_24 (nI w) h now wn v1 k (nI (nc ^ j)) (nI j) by_ over = f_X8_cut_56 (nI w) h now wn v1 fl_ (nI (nc ^ w)) 99 0 0 by_ over := by
  intro q
  induction q with
  | zero =>
    intro j k hj hk
    obtain ⟨k, rfl⟩ : ∃ z, k = z + 1 := ⟨k - 1, by omega⟩
    have : j = w := by omega
    subst this
    rw [f_X8_cut_24, if_pos ((nI_leI (by omega) (by omega)).mpr (Nat.le_refl _))]
  | succ q ih =>
    intro j k hj hk
    obtain ⟨k, rfl⟩ : ∃ z, k = z + 1 := ⟨k - 1, by omega⟩
    have ih' := ih (j + 1) k (by omega) (by omega)
    rw [f_X8_cut_24, if_neg (fun z => by have := (nI_leI (by omega) (by omega)).mp z; omega), rdL (by omega) (by omega), Option.bind_some]
    show f_X8_cut_24 (nI w) h now wn v1 k (nI (nc ^ j) * h 2) (nI j + 1) by_ over = _
    rw [e2, pk_mul, ← Nat.pow_succ, nI_1]
    exact ih'
theorem o_cut {h now aw bw bway stock rem way by_ over : Nat → Int32} {nr nd nc na nw w : Nat} {bc bs : Int32} (hH : HH h nr nd nc na nw) (hN : NI h nr nd nc na now) (hw : w ≤ 6) (he : ∀ i, i < w → aw i = bw i ∧ ∃ l, 1 ≤ l ∧ l ≤ 60 ∧ aw i = nI l) (v1 : Int32) : ∃ r bc' bs' bway' stock' rem' way' by' over', f_X7_cut (rowOf now) (nI w) bc bs bw bway stock rem way v1 = some (r, bc', bs', bway', stock', rem', way') ∧ f_X8_cut (nI w) h now aw by_ over v1 = some (r, by', over') := by
  obtain ⟨-, -, hnc, -, -⟩ := hH.2.1
  have e2 : h 2 = nI nc := hH.1.2.2.1
  have hL : ∀ i, i < w → 1 ≤ tn (aw i) ∧ tn (aw i) ≤ 60 ∧ aw i = nI (tn (aw i)) := fun i hi => by
    obtain ⟨-, l, l1, l2, l3⟩ := he i hi
    rw [l3, tn_nI (by omega)]
    exact ⟨l1, l2, rfl⟩
  have hLb : ∀ i, i < w → 1 ≤ tn (aw i) ∧ tn (aw i) ≤ 60 ∧ bw i = nI (tn (aw i)) := fun i hi => by
    obtain ⟨a, b, c⟩ := hL i hi
    exact ⟨a, b, by rw [← (he i hi).1]; exact c⟩
  have ein : f_X8_in v1.toInt64 (-2) ((nI w - 1).toInt64) = some (if (-2 : Int32).toInt ≤ v1.toInt ∧ v1.toInt ≤ (nI w - 1).toInt then 1 else 0) := by
    rw [show (-2 : Int64) = (-2 : Int32).toInt64 by decide]
    exact in_spec
  have ewt : f_X7_within v1 (-2) (nI w - 1) = some (if (-2 : Int32).toInt ≤ v1.toInt ∧ v1.toInt ≤ (nI w - 1).toInt then 1 else 0) := within_spec
  unfold f_X7_cut f_X8_cut
  rw [ein, ewt, Option.bind_some, Option.bind_some]
  by_cases hc : (-2 : Int32).toInt ≤ v1.toInt ∧ v1.toInt ≤ (nI w - 1).toInt
  · rw [if_pos hc, if_neg (show ¬ (1 : Int32) = 0 by decide), if_neg (show ¬ (1 : Int32) = 0 by decide)]
    obtain ⟨bway', stock', rem', way', c1, c2, c3, c4⟩ := c_find (L := fun i => tn (aw i)) (wn := bw) (bway := bway) (stock := stock) (rem := rem) (way := way) (bc0 := bc) (bs0 := bs) hN hnc hw hLb
    rw [c1, Option.bind_some]
    have l := m_pow (h := h) (now := now) (wn := aw) (by_ := by_) (over := over) (nc := nc) (v1 := v1) e2 hw w 0 fl_ (by omega) (fl_lt (by omega))
    rw [Nat.pow_zero, show nI 1 = (1 : Int32) from rfl, show nI 0 = (0 : Int32) from rfl] at l
    rw [l]
    obtain ⟨v3, v4, by', over', m1, m2⟩ := m_rows (h := h) (now := now) (wn := aw) (L := fun i => tn (aw i)) (v1 := v1) (N := nc ^ w) (st0 := (7, 0, fun _ => 0)) e2 hN hnc hw hL (pw_le hnc hw) (fun h1 h2 => by
      rcases Nat.eq_zero_or_pos nc with z | z
      · rw [z, Nat.zero_pow h2] at h1; omega
      · exact z) (nc ^ w) 0 fl_ (by omega) (fl_lt (by have := pw_le hnc hw; omega)) 99 0 by_ over ⟨Nat.le_refl 7, Nat.zero_le 360, rfl, fun z => absurd z (Nat.lt_irrefl 7)⟩
    rw [show nI 0 = (0 : Int32) from rfl] at m1
    rw [m1]
    have eF : FB nc (fun i => tn (aw i)) (Sf now) w w 0 (7, 0, fun _ => 0) = fo (fun i => U_ nc (fun i => tn (aw i)) (Sf now) w i) (nc ^ w) (7, 0, fun _ => 0) := by
      rw [FB_rows]
      exact fo_ext (fun i s _ => by rw [Nat.zero_mul, Nat.zero_add])
    rw [← eF] at m2
    clear c1 m1 l eF
    generalize FB nc (fun i => tn (aw i)) (Sf now) w w 0 (7, 0, fun _ => 0) = F at *
    obtain ⟨a1, a2, a3, a4⟩ := m2
    unfold cutA
    dsimp only
    by_cases e7 : F.1 = 7
    · rw [if_pos e7] at a3
      rw [a3, decide_eq_false (show ¬ F.1 ≤ 6 by omega), bf0, if_pos (show nI 99 = (99 : Int32) from rfl)]
      exact ⟨_, _, _, _, _, _, _, _, _, rfl, rfl⟩
    · rw [if_neg e7] at a3
      obtain ⟨b1, b2, b3⟩ := a4 (by omega)
      rw [a3, decide_eq_true (show F.1 ≤ 6 by omega), bt0, if_neg (show ¬ nI F.1 = (99 : Int32) from fun z => by rw [show (99 : Int32) = nI 99 from rfl, nI_eq (by omega) (by decide)] at z; omega)]
      by_cases k1 : v1 = -1
      · rw [if_pos k1, if_pos k1]
        exact ⟨_, _, _, _, _, _, _, _, _, rfl, rfl⟩
      · rw [if_neg k1, if_neg k1]
        by_cases k2 : v1 = -2
        · rw [if_pos k2, if_pos k2]
          unfold f_X0_over
          rw [c_len (L := fun i => tn (aw i)) hw hLb, Option.bind_some, Option.bind_some, pk_sub b1, b2]
          exact ⟨_, _, _, _, _, _, _, _, _, rfl, rfl⟩
        · rw [if_neg k2, if_neg k2]
          have hpw : (nI w - 1).toInt = (w : Int) - 1 := toInt_pred (by omega)
          have hm2 : (-2 : Int32).toInt = -2 := by decide
          have n1 : ¬ v1.toInt = -1 := fun z => k1 (Int32.toInt_inj.mp (z.trans (by decide)))
          have n2 : ¬ v1.toInt = -2 := fun z => k2 (Int32.toInt_inj.mp (z.trans (by decide)))
          rw [hpw, hm2] at hc
          obtain ⟨j, hj, rfl⟩ : ixb v1 w := (ixb_iff (by omega)).mpr ⟨by omega, by omega⟩
          rw [rd_ok (by omega) (by omega), rd_ok (by omega) (by omega), Option.bind_some, Option.bind_some, c4 (by omega) j hj, b3 j hj]
          exact ⟨_, _, _, _, _, _, _, _, _, rfl, rfl⟩
  · rw [if_neg hc, if_pos rfl, if_pos rfl]
    exact ⟨_, _, _, _, _, _, _, _, _, rfl, rfl⟩
