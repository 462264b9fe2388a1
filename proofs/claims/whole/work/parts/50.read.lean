/-! the reader: tokens -/
def lt_ (b : Nat) : Bool := decide (97 ≤ b) && decide (b ≤ 122)
def fg_ (b : Nat) : Bool := decide (48 ≤ b) && decide (b ≤ 57)
def by8 (b : Nat) : Int32 := (nI b).toInt8.toInt32
theorem b32_d : ∀ b, b < 256 → ((¬ by8 b < 32 ∧ ¬ 32 < by8 b) ↔ decide (b = 32) = true) := by decide +kernel
theorem b97_d : ∀ b, b < 256 → ((¬ by8 b < 97 ∧ ¬ 122 < by8 b) ↔ lt_ b = true) := by decide +kernel
theorem b48_d : ∀ b, b < 256 → ((¬ by8 b < 48 ∧ ¬ 57 < by8 b) ↔ fg_ b = true) := by decide +kernel
theorem b59_d : ∀ b, b < 256 → (by8 b = 59 ↔ b = 59) := by decide +kernel
theorem bs_d : ∀ b, b < 128 → by8 b = nI b := by decide +kernel
theorem let_d : ∀ b, b < 256 → f_X8_isLetter (nI b) = some (b2i (lt_ b)) := by decide +kernel
theorem fig_d : ∀ b, b < 256 → f_X8_isFigure (nI b) = some (b2i (fg_ b)) := by decide +kernel
theorem lt_t {b : Nat} (h : lt_ b = true) : 97 ≤ b ∧ b ≤ 122 := by
  unfold lt_ at h
  rw [Bool.and_eq_true, decide_eq_true_iff, decide_eq_true_iff] at h
  exact h
theorem fg_t {b : Nat} (h : fg_ b = true) : 48 ≤ b ∧ b ≤ 57 := by
  unfold fg_ at h
  rw [Bool.and_eq_true, decide_eq_true_iff, decide_eq_true_iff] at h
  exact h
def TX (n : Nat) (t : Nat → Nat) (at_ bt_ : Nat → Int32) : Prop := n ≤ 200 ∧ ∀ i, i < n → t i < 256 ∧ at_ i = nI (t i) ∧ bt_ i = by8 (t i)
def rn (P : Nat → Bool) : Nat → Nat → Nat
  | 0, p => p
  | q + 1, p => if P p then rn P q (p + 1) else p
theorem rn_t {P : Nat → Bool} {q p : Nat} (h : P p = true) : rn P (q + 1) p = rn P q (p + 1) := by
  show (if P p then rn P q (p + 1) else p) = _
  rw [h]; rfl
theorem rn_f {P : Nat → Bool} {q p : Nat} (h : P p = false) : rn P (q + 1) p = p := by
  show (if P p then rn P q (p + 1) else p) = _
  rw [h]; rfl
theorem rn_ge {P : Nat → Bool} : ∀ q p, p ≤ rn P q p
  | 0, p => Nat.le_refl _
  | q + 1, p => by
    cases h : P p with
    | true => rw [rn_t h]; have := rn_ge (P := P) q (p + 1); omega
    | false => rw [rn_f h]; exact Nat.le_refl _
theorem rn_le {P : Nat → Bool} : ∀ q p, rn P q p ≤ p + q
  | 0, p => Nat.le_refl _
  | q + 1, p => by
    cases h : P p with
    | true => rw [rn_t h]; have := rn_le (P := P) q (p + 1); omega
    | false => rw [rn_f h]; omega
theorem rn_in {P : Nat → Bool} : ∀ q p i, p ≤ i → i < rn P q p → P i = true
  | 0, p, i, h1, h2 => by have e : rn P 0 p = p := rfl; rw [e] at h2; omega
  | q + 1, p, i, h1, h2 => by
    cases h : P p with
    | true =>
      rw [rn_t h] at h2
      by_cases e : i = p
      · rw [e]; exact h
      · exact rn_in q (p + 1) i (by omega) h2
    | false => rw [rn_f h] at h2; omega
theorem c_skip {n : Nat} {t : Nat → Nat} {at_ bt_ : Nat → Int32} (hT : TX n t at_ bt_) {P : Nat → Bool} {lo hi : Int32} (hP : ∀ i, i < n → ((¬ bt_ i < lo ∧ ¬ hi < bt_ i) ↔ P i = true)) : ∀ (q p k : Nat), p + q = n → q < k → f_X6_skipRun_0 (nI n) bt_ lo hi k (nI p) = some (nI (rn P q p)) := by
  have hn := hT.1
  intro q
  induction q with
  | zero =>
    intro p k hp hk
    obtain ⟨k, rfl⟩ : ∃ z, k = z + 1 := ⟨k - 1, by omega⟩
    have : p = n := by omega
    subst this
    rw [f_X6_skipRun_0, if_pos ((nI_leI (by omega) (by omega)).mpr (Nat.le_refl _))]
    rfl
  | succ q ih =>
    intro p k hp hk
    obtain ⟨k, rfl⟩ : ∃ z, k = z + 1 := ⟨k - 1, by omega⟩
    have ih' := ih (p + 1) k (by omega) (by omega)
    rw [f_X6_skipRun_0, if_neg (fun z => by have := (nI_leI (by omega) (by omega)).mp z; omega), rd_ok (by omega) (by omega), Option.bind_some, Option.bind_some, addR]
    cases hb : P p with
    | true =>
      obtain ⟨h1, h2⟩ := (hP p (by omega)).mpr hb
      rw [if_neg h1, if_neg h2, rn_t hb]
      exact ih'
    | false =>
      have h3 : ¬ (¬ bt_ p < lo ∧ ¬ hi < bt_ p) := fun z => by rw [(hP p (by omega)).mp z] at hb; cases hb
      rw [rn_f hb]
      by_cases c1 : bt_ p < lo
      · rw [if_pos c1]
      · rw [if_neg c1, if_pos (Classical.byContradiction (fun c2 => h3 ⟨c1, c2⟩))]
theorem m_blank {n : Nat} {t : Nat → Nat} {at_ bt_ : Nat → Int32} (hT : TX n t at_ bt_) {gb gt gd : Int32} : ∀ (q p k : Nat), p + q = n → q < k → f_X8_reads_0 (nI n) at_ k (nI p) gb gt gd = f_X8_reads_38 (nI n) at_ (nI (rn (fun i => decide (t i = 32)) q p)) gb gt gd := by
  have hn := hT.1
  intro q
  induction q with
  | zero =>
    intro p k hp hk
    obtain ⟨k, rfl⟩ : ∃ z, k = z + 1 := ⟨k - 1, by omega⟩
    have : p = n := by omega
    subst this
    rw [f_X8_reads_0, if_pos ((nI_leI (by omega) (by omega)).mpr (Nat.le_refl _))]
    rfl
  | succ q ih =>
    intro p k hp hk
    obtain ⟨k, rfl⟩ : ∃ z, k = z + 1 := ⟨k - 1, by omega⟩
    have ih' := ih (p + 1) k (by omega) (by omega)
    obtain ⟨t1, t2, t3⟩ := hT.2 p (by omega)
    rw [f_X8_reads_0, if_neg (fun z => by have := (nI_leI (by omega) (by omega)).mp z; omega), rd_ok (by omega) (by omega), Option.bind_some, t2, addR]
    by_cases c : t p = 32
    · rw [if_pos (show nI (t p) = (32 : Int32) by rw [c]; rfl), rn_t (P := fun i => decide (t i = 32)) (decide_eq_true c)]
      exact ih'
    · rw [if_neg (show ¬ nI (t p) = (32 : Int32) from fun z => by rw [show (32 : Int32) = nI 32 from rfl, nI_eq (by omega) (by decide)] at z; exact c z), rn_f (P := fun i => decide (t i = 32)) (decide_eq_false c)]
theorem m_letters {n : Nat} {t : Nat → Nat} {at_ bt_ : Nat → Int32} (hT : TX n t at_ bt_) {gb gt gd : Int32} : ∀ (q p k : Nat), p + q = n → q < k → f_X8_readLetters_13 (nI n) gb at_ k (nI p) gt gd = f_X8_readLetters_52 (nI n) gb at_ (nI (rn (fun i => lt_ (t i)) q p)) gt gd := by
  have hn := hT.1
  intro q
  induction q with
  | zero =>
    intro p k hp hk
    obtain ⟨k, rfl⟩ : ∃ z, k = z + 1 := ⟨k - 1, by omega⟩
    have : p = n := by omega
    subst this
    rw [f_X8_readLetters_13, if_pos ((nI_leI (by omega) (by omega)).mpr (Nat.le_refl _))]
    rfl
  | succ q ih =>
    intro p k hp hk
    obtain ⟨k, rfl⟩ : ∃ z, k = z + 1 := ⟨k - 1, by omega⟩
    have ih' := ih (p + 1) k (by omega) (by omega)
    obtain ⟨t1, t2, t3⟩ := hT.2 p (by omega)
    rw [f_X8_readLetters_13, if_neg (fun z => by have := (nI_leI (by omega) (by omega)).mp z; omega), rd_ok (by omega) (by omega), Option.bind_some, t2, let_d _ t1, Option.bind_some, addR]
    cases hb : lt_ (t p) with
    | true =>
      rw [bt0, rn_t (P := fun i => lt_ (t i)) hb]
      exact ih'
    | false => rw [bf0, rn_f (P := fun i => lt_ (t i)) hb]
def ac (t : Nat → Nat) (b : Nat) : Nat → Nat
  | 0 => 0
  | j + 1 => if 99 < ac t b j then ac t b j else 10 * ac t b j + (t (b + j) - 48)
theorem m_digits {n b : Nat} {t : Nat → Nat} {at_ bt_ : Nat → Int32} (hT : TX n t at_ bt_) {gb gt gd : Int32} : ∀ (q j k : Nat), b + j + q = n → q < k → ac t b j ≤ 999 → ∃ j', rn (fun i => fg_ (t i)) q (b + j) = b + j' ∧ ac t b j' ≤ 999 ∧ f_X8_readNumber_2 (nI n) gb at_ k (nI (ac t b j)) (nI (b + j)) gt gd = f_X8_readNumber_69 (nI n) gb at_ (nI (ac t b j')) (nI (b + j')) gt gd := by
  have hn := hT.1
  intro q
  induction q with
  | zero =>
    intro j k hp hk ha
    obtain ⟨k, rfl⟩ : ∃ z, k = z + 1 := ⟨k - 1, by omega⟩
    have : b + j = n := by omega
    refine ⟨j, rfl, ha, ?_⟩
    rw [f_X8_readNumber_2, if_pos ((nI_leI (by omega) (by omega)).mpr (by omega))]
  | succ q ih =>
    intro j k hp hk ha
    obtain ⟨k, rfl⟩ : ∃ z, k = z + 1 := ⟨k - 1, by omega⟩
    obtain ⟨t1, t2, t3⟩ := hT.2 (b + j) (by omega)
    have eS : ac t b (j + 1) = if 99 < ac t b j then ac t b j else 10 * ac t b j + (t (b + j) - 48) := rfl
    rw [f_X8_readNumber_2, if_neg (fun z => by have := (nI_leI (by omega) (by omega)).mp z; omega), rd_ok (by omega) (by omega), Option.bind_some, t2, fig_d _ t1, Option.bind_some]
    cases hb : fg_ (t (b + j)) with
    | true =>
      obtain ⟨f1, f2⟩ := fg_t hb
      rw [bt0, rn_t (P := fun i => fg_ (t i)) hb]
      unfold f_X8_readNumber_55
      rw [addR]
      by_cases c : ac t b j ≤ 99
      · rw [if_neg (show ¬ 99 < ac t b j by omega)] at eS
        rw [if_pos (show nI (ac t b j) ≤ (99 : Int32) by rw [show (99 : Int32) = nI 99 from rfl, nI_leI (by omega) (by decide)]; exact c), Option.bind_some]
        have ev : ((10 : Int32) * nI (ac t b j) + nI (t (b + j))) - 48 = nI (ac t b (j + 1)) := by
          rw [eS, mulL, nI_add, show (48 : Int32) = nI 48 from rfl, pk_sub (by omega)]
          congr 1
          omega
        rw [ev]
        exact ih (j + 1) k (by omega) (by omega) (by rw [eS]; omega)
      · rw [if_pos (show 99 < ac t b j by omega)] at eS
        rw [if_neg (show ¬ nI (ac t b j) ≤ (99 : Int32) by rw [show (99 : Int32) = nI 99 from rfl, nI_leI (by omega) (by decide)]; exact c), ← eS]
        exact ih (j + 1) k (by omega) (by omega) (by rw [eS]; omega)
    | false =>
      refine ⟨j, rn_f (P := fun i => fg_ (t i)) hb, ha, ?_⟩
      rw [bf0]
theorem ac_1 {t : Nat → Nat} {b : Nat} : ac t b 1 = t b - 48 := by
  show (if 99 < ac t b 0 then ac t b 0 else 10 * ac t b 0 + (t (b + 0) - 48)) = _
  have e : ac t b 0 = 0 := rfl
  rw [e, if_neg (by decide)]
  show 10 * 0 + (t b - 48) = _
  omega
theorem ac_2 {t : Nat → Nat} {b : Nat} (h : t b ≤ 57) : ac t b 2 = 10 * (t b - 48) + (t (b + 1) - 48) := by
  show (if 99 < ac t b 1 then ac t b 1 else 10 * ac t b 1 + (t (b + 1) - 48)) = _
  rw [ac_1, if_neg (by omega)]
theorem ac_3 {t : Nat → Nat} {b : Nat} (h1 : 49 ≤ t b) (h2 : t b ≤ 57) (h3 : t (b + 1) ≤ 57) : ∀ j, 99 < ac t b (j + 3)
  | 0 => by
    show 99 < (if 99 < ac t b 2 then ac t b 2 else 10 * ac t b 2 + (t (b + 2) - 48))
    rw [ac_2 h2]
    split <;> omega
  | j + 1 => by
    have ih := ac_3 h1 h2 h3 j
    show 99 < (if 99 < ac t b (j + 3) then ac t b (j + 3) else 10 * ac t b (j + 3) + (t (b + (j + 3)) - 48))
    rw [if_pos ih]
    exact ih
theorem if2 {α : Type} {c d : Prop} {i1 : Decidable c} {i2 : Decidable d} {A B : α} (h : ¬ (¬ c ∧ ¬ d)) : (@ite _ c i1 A (@ite _ d i2 A B)) = A := by
  by_cases hc : c
  · rw [if_pos hc]
  · rw [if_neg hc, if_pos (Classical.byContradiction (fun c2 => h ⟨hc, c2⟩))]
def isLt (x : Int32) : Prop := x = 114 ∨ x = 100 ∨ x = 99 ∨ x = 97 ∨ x = 119
theorem m_52 {n b e : Nat} {x gt : Int32} {at_ : Nat → Int32} : (isLt x → f_X8_readLetters_52 (nI n) (nI b) at_ (nI e) gt x = some (nI e, (if nI e - nI b = 1 then 1 else 4), x)) ∧ (¬ isLt x → f_X8_readLetters_52 (nI n) (nI b) at_ (nI e) gt x = some (nI e, 4, x)) := by
  have yes : f_X8_readLetters_97 (nI n) (nI b) at_ (nI e) gt x = some (nI e, (if nI e - nI b = 1 then 1 else 4), x) := by
    unfold f_X8_readLetters_97 f_X8_readLetters_102 f_X8_readLetters_125 f_X8_readLetters_126
    rw [if_neg (by decide)]
    split <;> rfl
  have no : f_X8_readLetters_102 (nI n) (nI b) at_ 0 (nI e) gt x = some (nI e, 4, x) := by
    unfold f_X8_readLetters_102 f_X8_readLetters_125 f_X8_readLetters_126
    rw [if_pos rfl]
  unfold f_X8_readLetters_52
  rw [yes, no]
  unfold isLt
  constructor
  · intro h
    by_cases h1 : x = 114
    · rw [if_pos h1]
    rw [if_neg h1]
    by_cases h2 : x = 100
    · rw [if_pos h2]
    rw [if_neg h2]
    by_cases h3 : x = 99
    · rw [if_pos h3]
    rw [if_neg h3]
    by_cases h4 : x = 97
    · rw [if_pos h4]
    rw [if_neg h4]
    by_cases h5 : x = 119
    · rw [if_pos h5]
    rcases h with h | h | h | h | h
    · exact absurd h h1
    · exact absurd h h2
    · exact absurd h h3
    · exact absurd h h4
    · exact absurd h h5
  · intro h
    rw [if_neg (fun z => h (Or.inl z)), if_neg (fun z => h (Or.inr (Or.inl z))), if_neg (fun z => h (Or.inr (Or.inr (Or.inl z)))), if_neg (fun z => h (Or.inr (Or.inr (Or.inr (Or.inl z))))), if_neg (fun z => h (Or.inr (Or.inr (Or.inr (Or.inr z)))))]
/-- a token, as the class and as the model have it -/
def TR (n b p1 p2 : Nat) (kc vc km vm : Int32) : Prop :=
  (kc = 0 ∧ km = 0) ∨ (b < p1 ∧ p1 ≤ n ∧ p2 = p1 ∧ ((kc = 1 ∧ km = 1 ∧ vc = vm ∧ isLt vm) ∨ (kc = 2 ∧ km = 2 ∧ vc = vm ∧ ∃ v, v ≤ 99 ∧ vm = nI v) ∨ (kc = 3 ∧ km = 3))) ∨ (km = 4 ∧ (kc = 4 ∨ (kc = 1 ∧ ¬ isLt vc)))
theorem not0 : ¬ isLt 0 := by unfold isLt; decide
theorem mulR (k j : Nat) : nI j * (no_index (OfNat.ofNat k) : Int32) = nI (j * (OfNat.ofNat k : Nat)) := pk_mul j k
theorem c_take1 {b v : Nat} {rk rv : Int32} {bt_ : Nat → Int32} : f_X6_takeNumber (nI b) rk rv bt_ (nI v) (nI 1) = some (2, nI v) := by
  unfold f_X6_takeNumber f_X6_takeNumber_15 f_X6_takeNumber_20 f_X6_takeNumber_52
  rw [if_pos (show nI 1 = (1 : Int32) from rfl), if_pos (show nI 1 = (1 : Int32) from rfl)]
theorem c_take2 {b v : Nat} {rk rv : Int32} {bt_ : Nat → Int32} (hb : b + 1 < 200) (hv : v ≤ 9) : f_X6_takeNumber (nI b) rk rv bt_ (nI v) (nI 2) = some (if v = 0 then 4 else 2, (nI v * 10 + bt_ (b + 1)) - 48) := by
  unfold f_X6_takeNumber f_X6_takeNumber_15 f_X6_takeNumber_19 f_X6_takeNumber_20 f_X6_takeNumber_52
  have n1 : ¬ nI 2 = (1 : Int32) := by decide
  rw [if_neg n1, if_pos (show nI 2 = (2 : Int32) from rfl), if_neg n1, if_neg n1, addR, rd_ok (by omega) (by omega), Option.bind_some, Option.bind_some]
  by_cases c : v = 0
  · subst c
    rw [if_pos (show nI 0 ≤ (0 : Int32) by decide), if_pos rfl]
  · rw [if_neg (show ¬ nI v ≤ (0 : Int32) by rw [show (0 : Int32) = nI 0 from rfl, nI_leI (by omega) (by decide)]; omega), if_neg c]
theorem c_take3 {b v d : Nat} {rk rv : Int32} {bt_ : Nat → Int32} (hb : b + 1 < 200) (hd : 3 ≤ d) (hd2 : d ≤ 200) : ∃ z, f_X6_takeNumber (nI b) rk rv bt_ (nI v) (nI d) = some (4, z) := by
  unfold f_X6_takeNumber f_X6_takeNumber_15 f_X6_takeNumber_19 f_X6_takeNumber_20 f_X6_takeNumber_52
  have n1 : ¬ nI d = (1 : Int32) := fun z => by rw [show (1 : Int32) = nI 1 from rfl, nI_eq (by omega) (by decide)] at z; omega
  have n2 : ¬ nI d = (2 : Int32) := fun z => by rw [show (2 : Int32) = nI 2 from rfl, nI_eq (by omega) (by decide)] at z; omega
  rw [if_neg n1, if_neg n2, if_neg n1, addR, rd_ok (by omega) (by omega), Option.bind_some]
  exact ⟨_, rfl⟩
