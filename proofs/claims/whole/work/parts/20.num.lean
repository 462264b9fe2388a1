/-! LEVEL 2: numbers and bits -/
theorem oN (n : Nat) : (no_index (OfNat.ofNat n) : Int32) = nI (OfNat.ofNat n : Nat) := rfl
def tn (x : Int32) : Nat := x.toNatClampNeg
theorem tn_nI {n : Nat} (h : n < 2 ^ 31) : tn (nI n) = n := nI_clamp h
theorem rd_ok {a : Nat → Int32} {n i : Nat} (h : i < n) (hn : n < 2 ^ 31) : rd_ a n (nI i) = some (a i) := by
  unfold rd_
  rw [if_neg (nI_in h hn), nI_clamp (Nat.lt_trans h hn)]
theorem wr_ok {a : Nat → Int32} {n i : Nat} {x : Int32} (h : i < n) (hn : n < 2 ^ 31) : wr_ a n (nI i) x = some (upd a i x) := by
  unfold wr_
  rw [if_neg (nI_in h hn), nI_clamp (Nat.lt_trans h hn)]
theorem nz_ok {y : Int32} (h : ¬ y = 0) : nz_ y = some () := by unfold nz_; rw [if_neg h]
theorem zb_0 : zb_ 0 = some 0 := by decide
theorem zb_1 : zb_ 1 = some 1 := by decide
theorem zb_if {c : Prop} {i : Decidable c} : zb_ (@ite _ c i 1 0) = some (@ite _ c i 1 0) := by
  by_cases h : c
  · rw [if_pos h]; exact zb_1
  · rw [if_neg h]; exact zb_0
theorem fl_lt {n : Nat} (h : n ≤ 60000) : n < fl_ := by unfold fl_; omega
/-- in a range of indices -/
def ixb (x : Int32) (n : Nat) : Prop := ∃ j : Nat, j < n ∧ x = nI j
theorem ixb_or (x : Int32) (n : Nat) : ixb x n ∨ ¬ ixb x n := Classical.em _
theorem ixb_iff {x : Int32} {n : Nat} (hn : n < 2 ^ 31) : ixb x n ↔ 0 ≤ x.toInt ∧ x.toInt < n := by
  constructor
  · rintro ⟨j, hj, rfl⟩
    rw [nI_toInt (Nat.lt_trans hj hn)]
    omega
  · intro ⟨h0, h1⟩
    obtain ⟨j, hj, rfl⟩ := nI_of (x := x) (fun h => by rw [Int32.lt_iff_toInt_lt] at h; have : (0 : Int32).toInt = 0 := rfl; omega)
    rw [nI_toInt hj] at h1
    exact ⟨j, by omega, rfl⟩
theorem toInt_pred {n : Nat} (hn : n < 2 ^ 30) : (nI n - 1).toInt = (n : Int) - 1 := by
  exact pk_sub_toInt (a := n) (b := 1) hn (by decide)
theorem in_spec {x : Int32} {lo hi : Int32} : f_X8_in x.toInt64 lo.toInt64 hi.toInt64 = some (if lo.toInt ≤ x.toInt ∧ x.toInt ≤ hi.toInt then 1 else 0) := by
  unfold f_X8_in
  have e : ∀ y : Int32, y.toInt64.toInt = y.toInt := fun y => Int32.toInt_toInt64 y
  by_cases h1 : x.toInt < lo.toInt
  · rw [if_pos (by rw [lg_cmp_lt, Int64.lt_iff_toInt_lt, e, e]; exact h1), if_neg (by omega)]
  · rw [if_neg (by rw [lg_cmp_lt, Int64.lt_iff_toInt_lt, e, e]; exact h1)]
    by_cases h2 : hi.toInt < x.toInt
    · rw [if_pos (by rw [lg_cmp_gt, Int64.lt_iff_toInt_lt, e, e]; exact h2), if_neg (by omega)]
    · rw [if_neg (by rw [lg_cmp_gt, Int64.lt_iff_toInt_lt, e, e]; exact h2), if_pos (by omega)]
theorem within_spec {x lo hi : Int32} : f_X7_within x lo hi = some (if lo.toInt ≤ x.toInt ∧ x.toInt ≤ hi.toInt then 1 else 0) := by
  unfold f_X7_within
  by_cases h1 : x.toInt < lo.toInt
  · rw [if_pos (Int32.lt_iff_toInt_lt.mpr h1), if_neg (by omega)]
  · rw [if_neg (fun h => h1 (Int32.lt_iff_toInt_lt.mp h))]
    by_cases h2 : hi.toInt < x.toInt
    · rw [if_pos (Int32.lt_iff_toInt_lt.mpr h2), if_neg (by omega)]
    · rw [if_neg (fun h => h2 (Int32.lt_iff_toInt_lt.mp h)), if_pos (by omega)]
theorem addL (k j : Nat) : (no_index (OfNat.ofNat k) : Int32) + nI j = nI ((OfNat.ofNat k : Nat) + j) := nI_add k j
theorem addR (k j : Nat) : nI j + (no_index (OfNat.ofNat k) : Int32) = nI (j + (OfNat.ofNat k : Nat)) := nI_add j k
theorem mulL (k j : Nat) : (no_index (OfNat.ofNat k) : Int32) * nI j = nI ((OfNat.ofNat k : Nat) * j) := pk_mul k j
theorem rdL {a : Nat → Int32} {n k : Nat} (h : (OfNat.ofNat k : Nat) < n) (hn : n < 2 ^ 31) : rd_ a n (no_index (OfNat.ofNat k) : Int32) = some (a (OfNat.ofNat k : Nat)) := rd_ok h hn
theorem wrL {a : Nat → Int32} {n k : Nat} {x : Int32} (h : (OfNat.ofNat k : Nat) < n) (hn : n < 2 ^ 31) : wr_ a n (no_index (OfNat.ofNat k) : Int32) x = some (upd a (OfNat.ofNat k : Nat) x) := wr_ok h hn
theorem leR (k j : Nat) (hj : j < 2 ^ 31) (hk : (OfNat.ofNat k : Nat) < 2 ^ 31) : nI j ≤ (no_index (OfNat.ofNat k) : Int32) ↔ j ≤ (OfNat.ofNat k : Nat) := nI_leI hj hk
theorem leL (k j : Nat) (hj : j < 2 ^ 31) (hk : (OfNat.ofNat k : Nat) < 2 ^ 31) : (no_index (OfNat.ofNat k) : Int32) ≤ nI j ↔ (OfNat.ofNat k : Nat) ≤ j := nI_leI hk hj
theorem ltR (k j : Nat) (hj : j < 2 ^ 31) (hk : (OfNat.ofNat k : Nat) < 2 ^ 31) : nI j < (no_index (OfNat.ofNat k) : Int32) ↔ j < (OfNat.ofNat k : Nat) := nI_ltI hj hk
theorem ltL (k j : Nat) (hj : j < 2 ^ 31) (hk : (OfNat.ofNat k : Nat) < 2 ^ 31) : (no_index (OfNat.ofNat k) : Int32) < nI j ↔ (OfNat.ofNat k : Nat) < j := nI_ltI hk hj
theorem eqR (k j : Nat) (hj : j < 2 ^ 31) (hk : (OfNat.ofNat k : Nat) < 2 ^ 31) : nI j = (no_index (OfNat.ofNat k) : Int32) ↔ j = (OfNat.ofNat k : Nat) := nI_eq hj hk
theorem upd_self (f : Nat → Int32) (k : Nat) : upd f k (f k) = f := by
  funext i
  by_cases e : i = k
  · subst e; rw [pk_us]
  · rw [pk_un e]
