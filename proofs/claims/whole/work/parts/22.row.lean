/-! the class's row of a night, out of the model's -/
def src_ (i : Nat) : Option Nat := if i = 0 then some 0 else if i < 4 then none else if i < 10 then some (1 + 4 * (i - 4)) else if i < 16 then some (2 + 4 * (i - 10)) else if i < 22 then some (30 + 2 * (i - 16)) else if i < 28 then some (30 + 2 * (i - 22) + 1) else if i < 33 then some (42 + (i - 28)) else none
def litB (now : Nat → Int32) (c : Nat) : Bool := decide (now (3 + 4 * c) = 1)
def shdB (now : Nat → Int32) (c : Nat) : Bool := decide (now (4 + 4 * c) = 1)
def opnB (now : Nat → Int32) (d : Nat) : Bool := decide (now (25 + d) = 1)
def rowOf (now : Nat → Int32) : Nat → Int32 := fun i => if i = 1 then nI (mk_ (litB now) 6) else if i = 2 then nI (mk_ (shdB now) 6) else if i = 3 then nI (mk_ (opnB now) 5) else match src_ i with
  | some k => now k
  | none => 0
theorem row_1 (now : Nat → Int32) : rowOf now 1 = nI (mk_ (litB now) 6) := rfl
theorem row_2 (now : Nat → Int32) : rowOf now 2 = nI (mk_ (shdB now) 6) := rfl
theorem row_3 (now : Nat → Int32) : rowOf now 3 = nI (mk_ (opnB now) 5) := rfl
theorem row_0 (now : Nat → Int32) : rowOf now 0 = now 0 := rfl
theorem row_at {now : Nat → Int32} {i k : Nat} (h : src_ i = some k) : rowOf now i = now k := by
  unfold rowOf
  have h1 : i ≠ 1 := fun e => by subst e; have e9 : src_ 1 = none := rfl; rw [e9] at h; cases h
  have h2 : i ≠ 2 := fun e => by subst e; have e9 : src_ 2 = none := rfl; rw [e9] at h; cases h
  have h3 : i ≠ 3 := fun e => by subst e; have e9 : src_ 3 = none := rfl; rw [e9] at h; cases h
  rw [if_neg h1, if_neg h2, if_neg h3, h]
theorem src_l : ∀ c, c < 6 → src_ (4 + c) = some (1 + 4 * c) := by decide
theorem src_w : ∀ c, c < 6 → src_ (10 + c) = some (2 + 4 * c) := by decide
theorem src_s : ∀ a, a < 6 → src_ (16 + a) = some (30 + 2 * a) := by decide
theorem src_h : ∀ a, a < 6 → src_ (22 + a) = some (30 + 2 * a + 1) := by decide
theorem src_x : ∀ r, r < 5 → src_ (28 + r) = some (42 + r) := by decide
theorem src_big {i : Nat} (h : 33 ≤ i) : src_ i = none := by
  unfold src_
  rw [if_neg (by omega), if_neg (by omega), if_neg (by omega), if_neg (by omega), if_neg (by omega), if_neg (by omega), if_neg (by omega)]
theorem row_big {now : Nat → Int32} {i : Nat} (h : 33 ≤ i) : rowOf now i = 0 := by
  unfold rowOf
  rw [if_neg (by omega), if_neg (by omega), if_neg (by omega), src_big h]
theorem row_l (now : Nat → Int32) {c : Nat} (h : c < 6) : rowOf now (4 + c) = now (1 + 4 * c) := row_at (src_l c h)
theorem row_w (now : Nat → Int32) {c : Nat} (h : c < 6) : rowOf now (10 + c) = now (2 + 4 * c) := row_at (src_w c h)
theorem row_s (now : Nat → Int32) {c : Nat} (h : c < 6) : rowOf now (16 + c) = now (30 + 2 * c) := row_at (src_s c h)
theorem row_h (now : Nat → Int32) {c : Nat} (h : c < 6) : rowOf now (22 + c) = now (30 + 2 * c + 1) := row_at (src_h c h)
theorem row_x (now : Nat → Int32) {c : Nat} (h : c < 5) : rowOf now (28 + c) = now (42 + c) := row_at (src_x c h)
/-- a change of the model's night that is no bit -/
theorem row_upd {now : Nat → Int32} {k d : Nat} {v : Int32} (hs : ∀ i, src_ i = some k ↔ i = d) (h1 : ∀ j, j < 6 → 3 + 4 * j ≠ k) (h2 : ∀ j, j < 6 → 4 + 4 * j ≠ k) (h3 : ∀ j, j < 5 → 25 + j ≠ k) : rowOf (upd now k v) = upd (rowOf now) d v := by
  funext i
  have hd : src_ d = some k := (hs d).mpr rfl
  have e1 : mk_ (litB (upd now k v)) 6 = mk_ (litB now) 6 := mk_ext (fun j hj => by unfold litB; rw [pk_un (h1 j hj)])
  have e2 : mk_ (shdB (upd now k v)) 6 = mk_ (shdB now) 6 := mk_ext (fun j hj => by unfold shdB; rw [pk_un (h2 j hj)])
  have e3 : mk_ (opnB (upd now k v)) 5 = mk_ (opnB now) 5 := mk_ext (fun j hj => by unfold opnB; rw [pk_un (h3 j hj)])
  by_cases e : i = d
  · subst e
    rw [row_at hd, pk_us, pk_us]
  · rw [pk_un e]
    unfold rowOf
    rw [e1, e2, e3]
    cases hq : src_ i with
    | none => rfl
    | some q =>
      have hne : q ≠ k := fun h => e ((hs i).mp (by rw [hq, h]))
      simp only [pk_un hne]
theorem src_inv {i k : Nat} (h : src_ i = some k) : i < 33 := by
  rcases Nat.lt_or_ge i 33 with q | q
  · exact q
  · rw [src_big q] at h; cases h
theorem src_iff {d k : Nat} (hd : d < 33) (h : (List.range 33).all (fun i => decide (src_ i = some k ↔ i = d)) = true) : ∀ i, src_ i = some k ↔ i = d := by
  intro i
  by_cases hi : i < 33
  · have := List.all_eq_true.mp h i (List.mem_range.mpr hi)
    simpa using this
  · constructor
    · intro e; exact absurd (src_inv e) hi
    · intro e; omega
theorem rowu_l : ∀ c, c < 6 → ∀ (now : Nat → Int32) (v : Int32), rowOf (upd now (1 + 4 * c) v) = upd (rowOf now) (4 + c) v := fun c hc now v =>
  row_upd (src_iff (by omega) (by revert c; decide)) (fun j _ => by omega) (fun j _ => by omega) (fun j _ => by omega)
theorem rowu_w : ∀ c, c < 6 → ∀ (now : Nat → Int32) (v : Int32), rowOf (upd now (2 + 4 * c) v) = upd (rowOf now) (10 + c) v := fun c hc now v =>
  row_upd (src_iff (by omega) (by revert c; decide)) (fun j _ => by omega) (fun j _ => by omega) (fun j _ => by omega)
theorem rowu_s : ∀ c, c < 6 → ∀ (now : Nat → Int32) (v : Int32), rowOf (upd now (30 + 2 * c) v) = upd (rowOf now) (16 + c) v := fun c hc now v =>
  row_upd (src_iff (by omega) (by revert c; decide)) (fun j _ => by omega) (fun j _ => by omega) (fun j _ => by omega)
theorem rowu_h : ∀ c, c < 6 → ∀ (now : Nat → Int32) (v : Int32), rowOf (upd now (30 + 2 * c + 1) v) = upd (rowOf now) (22 + c) v := fun c hc now v =>
  row_upd (src_iff (by omega) (by revert c; decide)) (fun j _ => by omega) (fun j _ => by omega) (fun j _ => by omega)
theorem rowu_x : ∀ c, c < 5 → ∀ (now : Nat → Int32) (v : Int32), rowOf (upd now (42 + c) v) = upd (rowOf now) (28 + c) v := fun c hc now v =>
  row_upd (src_iff (by omega) (by revert c; decide)) (fun j _ => by omega) (fun j _ => by omega) (fun j _ => by omega)
theorem rowu_0 (now : Nat → Int32) (v : Int32) : rowOf (upd now 0 v) = upd (rowOf now) 0 v :=
  row_upd (src_iff (by decide) (by decide)) (fun j _ => by omega) (fun j _ => by omega) (fun j _ => by omega)
