/-! sets as bits -/
def mk_ (p : Nat → Bool) : Nat → Nat
  | 0 => 0
  | n + 1 => mk_ p n + (if p n then 2 ^ n else 0)
theorem mk_lt (p : Nat → Bool) : ∀ n, mk_ p n < 2 ^ n
  | 0 => Nat.one_pos
  | n + 1 => by
    have h := mk_lt p n
    have e : 2 ^ (n + 1) = 2 ^ n + 2 ^ n := by rw [Nat.pow_succ]; omega
    unfold mk_
    by_cases c : p n = true
    · rw [if_pos c, e]; omega
    · rw [if_neg c, e]; omega
theorem mk_bit {p : Nat → Bool} : ∀ {n j : Nat}, j < n → (mk_ p n).testBit j = p j
  | 0, j, h => absurd h (Nat.not_lt_zero _)
  | n + 1, j, h => by
    have hl := mk_lt p n
    unfold mk_
    by_cases e : j = n
    · subst e
      by_cases c : p j = true
      · rw [if_pos c, Nat.add_comm, Nat.testBit_two_pow_add_eq, Nat.testBit_lt_two_pow hl, c]; rfl
      · rw [if_neg c, Nat.add_zero, Nat.testBit_lt_two_pow hl]; simpa using c
    · have hj : j < n := by omega
      by_cases c : p n = true
      · rw [if_pos c, Nat.add_comm, Nat.testBit_two_pow_add_gt hj]; exact mk_bit hj
      · rw [if_neg c, Nat.add_zero]; exact mk_bit hj
theorem mk_big {p : Nat → Bool} {n j : Nat} (h : n ≤ j) : (mk_ p n).testBit j = false :=
  Nat.testBit_lt_two_pow (Nat.lt_of_lt_of_le (mk_lt p n) (Nat.pow_le_pow_right (by decide) h))
theorem mk_ext {p q : Nat → Bool} : ∀ {n : Nat}, (∀ j, j < n → p j = q j) → mk_ p n = mk_ q n
  | 0, _ => rfl
  | n + 1, h => by unfold mk_; rw [mk_ext (n := n) (fun j hj => h j (by omega)), h n (by omega)]
theorem mk_of {p : Nat → Bool} {n m : Nat} (hm : m < 2 ^ n) (h : ∀ j, j < n → m.testBit j = p j) : m = mk_ p n := by
  apply Nat.eq_of_testBit_eq
  intro j
  by_cases hj : j < n
  · rw [mk_bit hj, h j hj]
  · rw [mk_big (by omega), Nat.testBit_lt_two_pow (Nat.lt_of_lt_of_le hm (Nat.pow_le_pow_right (by decide) (by omega)))]
theorem mk_64 {p : Nat → Bool} {n : Nat} (h : n ≤ 6) : mk_ p n < 64 :=
  Nat.lt_of_lt_of_le (mk_lt p n) (Nat.pow_le_pow_right (n := 2) (by decide) h)
def clr_ (m j : Nat) : Nat := if m.testBit j then m - 2 ^ j else m
def flp_ (m j : Nat) : Nat := if m.testBit j then m - 2 ^ j else m + 2 ^ j
def pop_ (m : Nat) : Nat := (if m.testBit 0 then 1 else 0) + (if m.testBit 1 then 1 else 0) + (if m.testBit 2 then 1 else 0) + (if m.testBit 3 then 1 else 0) + (if m.testBit 4 then 1 else 0) + (if m.testBit 5 then 1 else 0)
theorem bit_d : ∀ m, m < 64 → ∀ j, j < 6 → (nI m >>> (nI j &&& 31)) &&& 1 = if m.testBit j then 1 else 0 := by decide +kernel
theorem shl_d : ∀ j, j < 6 → (1 : Int32) <<< (nI j &&& 31) = nI (2 ^ j) := by decide +kernel
theorem or_d : ∀ m, m < 64 → ∀ j, j < 6 → nI m ||| nI (2 ^ j) = nI (m ||| 2 ^ j) := by decide +kernel
theorem clr_d : ∀ m, m < 64 → ∀ j, j < 6 → nI m &&& (nI (2 ^ j) ^^^ (-1)) = nI (clr_ m j) := by decide +kernel
theorem flp_d : ∀ m, m < 64 → ∀ j, j < 6 → nI m ^^^ nI (2 ^ j) = nI (flp_ m j) := by decide +kernel
theorem pop_d : ∀ m, m < 64 → f_J6_bitCount_0f7a4 (nI m) = some (nI (pop_ m)) := by decide +kernel
theorem ones_d : ∀ m, m < 64 → f_X8_ones (nI m) = some (nI (pop_ m)) := by decide +kernel
theorem orp_d : ∀ j, j < 6 → ∀ m, m < 64 → m < 2 ^ j → nI m ||| nI (2 ^ j) = nI (m + 2 ^ j) := by decide +kernel
theorem or0_d : ∀ m, m < 64 → nI m ||| 0 = nI m := by decide +kernel
theorem clr_bit : ∀ m, m < 64 → ∀ j, j < 6 → clr_ m j < 64 ∧ ∀ k, k < 6 → (clr_ m j).testBit k = (m.testBit k && !(k == j)) := by decide +kernel
theorem flp_bit : ∀ m, m < 64 → ∀ j, j < 6 → flp_ m j < 64 ∧ ∀ k, k < 6 → (flp_ m j).testBit k = (m.testBit k ^^ (k == j)) := by decide +kernel
theorem or_bit : ∀ m, m < 64 → ∀ j, j < 6 → (m ||| 2 ^ j) < 64 ∧ ∀ k, k < 6 → (m ||| 2 ^ j).testBit k = (m.testBit k || (k == j)) := by decide +kernel
def pcn_ (p : Nat → Bool) : Nat → Nat
  | 0 => 0
  | n + 1 => pcn_ p n + (if p n then 1 else 0)
theorem pop_mk {p : Nat → Bool} {n : Nat} (h : n ≤ 6) : pop_ (mk_ p n) = pcn_ p n := by
  have key : ∀ j, (mk_ p n).testBit j = (decide (j < n) && p j) := fun j => by
    by_cases hj : j < n
    · rw [mk_bit hj]; simp [hj]
    · rw [mk_big (by omega)]; simp [hj]
  unfold pop_
  rw [key, key, key, key, key, key]
  match n, h with
  | 0, _ => simp [pcn_]
  | 1, _ => simp [pcn_]
  | 2, _ => simp [pcn_]
  | 3, _ => simp [pcn_]
  | 4, _ => simp [pcn_]
  | 5, _ => simp [pcn_]
  | 6, _ => simp [pcn_]
  | n + 7, h => omega
