/-! the class's minute -/
theorem or2_d : ∀ x, x < 6 → ∀ y, y < 6 → ∀ m, m < 64 → nI m ||| (nI (2 ^ x) ||| nI (2 ^ y)) = nI ((m ||| 2 ^ x) ||| 2 ^ y) := by decide +kernel
theorem shl0_d : ∀ j, j < 6 → (0 : Int32) <<< (nI j &&& 31) = 0 := by decide +kernel
theorem c_bit {m j : Nat} (hm : m < 64) (hj : j < 6) : f_X7_bit (nI m) (nI j) = some (b2i (m.testBit j)) := by
  unfold f_X7_bit b2i
  rw [bit_d m hm j hj]
theorem c_roomOf {now : Nat → Int32} {c : Nat} (h : c < 6) : f_X4_roomOf (rowOf now) (nI c) = some (now (2 + 4 * c)) := by
  unfold f_X4_roomOf
  simp (disch := omega) only [addL, rd_ok, Option.bind_some, row_w]
theorem c_left {now : Nat → Int32} {c : Nat} (h : c < 6) : f_X4_left (rowOf now) (nI c) = some (now (1 + 4 * c)) := by
  unfold f_X4_left
  simp (disch := omega) only [addL, rd_ok, Option.bind_some, row_l]
theorem c_stage {now : Nat → Int32} {c : Nat} (h : c < 6) : f_X4_stage (rowOf now) (nI c) = some (now (30 + 2 * c)) := by
  unfold f_X4_stage
  simp (disch := omega) only [addL, rd_ok, Option.bind_some, row_s]
theorem row_bits {now : Nat → Int32} {k : Nat} {v : Int32} (hs : ∀ i, src_ i ≠ some k) : ∀ i, i ≠ 1 → i ≠ 2 → i ≠ 3 → rowOf (upd now k v) i = rowOf now i := by
  intro i h1 h2 h3
  unfold rowOf
  rw [if_neg h1, if_neg h2, if_neg h3, if_neg h1, if_neg h2, if_neg h3]
  cases hq : src_ i with
  | none => rfl
  | some q =>
    have hne : q ≠ k := fun h => hs i (by rw [hq, h])
    simp only [pk_un hne]
theorem src_no {k : Nat} (h : (List.range 33).all (fun i => decide (src_ i ≠ some k)) = true) : ∀ i, src_ i ≠ some k := by
  intro i
  by_cases hi : i < 33
  · have := List.all_eq_true.mp h i (List.mem_range.mpr hi)
    simpa using this
  · rw [src_big (by omega)]; simp
theorem rowu_lit : ∀ c, c < 6 → ∀ (now : Nat → Int32) (v : Int32), rowOf (upd now (3 + 4 * c) v) = upd (rowOf now) 1 (nI (mk_ (litB (upd now (3 + 4 * c) v)) 6)) := by
  intro c hc now v
  funext i
  by_cases e1 : i = 1
  · subst e1; rw [pk_us]; rfl
  · rw [pk_un e1]
    by_cases e2 : i = 2
    · subst e2; rw [row_2, row_2]; congr 1; exact mk_ext (fun j hj => by unfold shdB; rw [pk_un (by omega)])
    · by_cases e3 : i = 3
      · subst e3; rw [row_3, row_3]; congr 1; exact mk_ext (fun j hj => by unfold opnB; rw [pk_un (by omega)])
      · exact row_bits (src_no (by revert c; decide)) i e1 e2 e3
theorem rowu_shd : ∀ c, c < 6 → ∀ (now : Nat → Int32) (v : Int32), rowOf (upd now (4 + 4 * c) v) = upd (rowOf now) 2 (nI (mk_ (shdB (upd now (4 + 4 * c) v)) 6)) := by
  intro c hc now v
  funext i
  by_cases e1 : i = 2
  · subst e1; rw [pk_us]; rfl
  · rw [pk_un e1]
    by_cases e2 : i = 1
    · subst e2; rw [row_1, row_1]; congr 1; exact mk_ext (fun j hj => by unfold litB; rw [pk_un (by omega)])
    · by_cases e3 : i = 3
      · subst e3; rw [row_3, row_3]; congr 1; exact mk_ext (fun j hj => by unfold opnB; rw [pk_un (by omega)])
      · exact row_bits (src_no (by revert c; decide)) i e2 e1 e3
theorem rowu_opn : ∀ d, d < 5 → ∀ (now : Nat → Int32) (v : Int32), rowOf (upd now (25 + d) v) = upd (rowOf now) 3 (nI (mk_ (opnB (upd now (25 + d) v)) 5)) := by
  intro c hc now v
  funext i
  by_cases e1 : i = 3
  · subst e1; rw [pk_us]; rfl
  · rw [pk_un e1]
    by_cases e2 : i = 1
    · subst e2; rw [row_1, row_1]; congr 1; exact mk_ext (fun j hj => by unfold litB; rw [pk_un (by omega)])
    · by_cases e3 : i = 2
      · subst e3; rw [row_2, row_2]; congr 1; exact mk_ext (fun j hj => by unfold shdB; rw [pk_un (by omega)])
      · exact row_bits (src_no (by revert c; decide)) i e2 e3 e1
theorem lit_clr {now : Nat → Int32} {c : Nat} (hc : c < 6) : mk_ (litB (upd now (3 + 4 * c) 0)) 6 = clr_ (mk_ (litB now) 6) c := by
  have hm := mk_64 (p := litB now) (n := 6) (Nat.le_refl _)
  obtain ⟨h1, h2⟩ := clr_bit _ hm c hc
  refine (mk_of (n := 6) h1 (fun k hk => ?_)).symm
  rw [h2 k hk, mk_bit hk]
  unfold litB
  by_cases e : k = c
  · subst e; rw [pk_us]; simp
  · rw [pk_un (by omega)]; simp [e]
theorem dec_nI {x r : Nat} (hx : x < 2 ^ 31) (hr : r < 2 ^ 31) : decide (nI x = nI r) = (r == x) := by
  by_cases e : r = x
  · subst e; simp
  · have : ¬ nI x = nI r := fun h => e ((nI_eq hx hr).mp h).symm
    simp [this, e]
theorem c_dr_loop {h now ta1 ta2 : Nat → Int32} {nd : Nat} (hd : nd ≤ 5) (ht : ∀ d, d < nd → ta1 d = h (5 + 2 * d) ∧ ta2 d = h (5 + 2 * d + 1)) (hx : ∀ d, d < nd → ixb (h (5 + 2 * d)) 5 ∧ ixb (h (5 + 2 * d + 1)) 5) : ∀ (q j k : Nat), j + q = nd → q < k → f_X4_draughtyRooms_4 (rowOf now) (nI nd) ta1 ta2 k (nI (mk_ (fun r => drF h now (nI r) j) 6)) (nI j) = some (nI (mk_ (fun r => drF h now (nI r) nd) 6)) := by
  intro q
  induction q with
  | zero =>
    intro j k hj hk
    obtain ⟨k, rfl⟩ : ∃ z, k = z + 1 := ⟨k - 1, by omega⟩
    have : j = nd := by omega
    subst this
    rw [f_X4_draughtyRooms_4]
    simp (disch := omega) only [nI_leI, Nat.le_refl, if_true]
  | succ q ih =>
    intro j k hj hk
    obtain ⟨k, rfl⟩ : ∃ z, k = z + 1 := ⟨k - 1, by omega⟩
    have ih' := ih (j + 1) k (by omega) (by omega)
    rw [f_X4_draughtyRooms_4, if_neg (by rw [nI_leI (by omega) (by omega)]; omega), rdL (by omega) (by omega), Option.bind_some]
    show ((f_X7_bit (rowOf now 3) (nI j)).bind _) = _
    rw [row_3, c_bit (mk_64 (by omega)) (by omega), Option.bind_some, mk_bit (by omega)]
    unfold f_X4_draughtyRooms_55
    obtain ⟨⟨x, hx5, ex⟩, ⟨y, hy5, ey⟩⟩ := hx j (by omega)
    obtain ⟨t1, t2⟩ := ht j (by omega)
    by_cases c : now (25 + j) = 1
    · have cb : opnB now j = true := by unfold opnB; simp [c]
      rw [cb, if_pos (by decide)]
      simp (disch := omega) only [rd_ok, Option.bind_some, t1, t2, ex, ey, addR]
      have hm := mk_64 (p := fun r => drF h now (nI r) j) (n := 6) (Nat.le_refl _)
      rw [shl_d x (by omega), shl_d y (by omega), or2_d x (by omega) y (by omega) _ hm]
      obtain ⟨b1, b2⟩ := or_bit _ hm x (by omega)
      obtain ⟨b3, b4⟩ := or_bit _ b1 y (by omega)
      rw [mk_of (n := 6) (p := fun r => drF h now (nI r) (j + 1)) b3 (fun r hr => by
        rw [b4 r hr, b2 r hr, mk_bit hr]
        show _ = (drF h now (nI r) j || (decide (now (25 + j) = 1) && (decide (h (5 + 2 * j) = nI r) || decide (h (5 + 2 * j + 1) = nI r))))
        rw [ex, ey, dec_nI (by omega) (by omega), dec_nI (by omega) (by omega)]
        simp [c, Bool.or_assoc])]
      exact ih'
    · have cb : opnB now j = false := by unfold opnB; simp [c]
      rw [cb, if_neg (by decide)]
      simp only [addR]
      rw [mk_ext (p := fun r => drF h now (nI r) j) (q := fun r => drF h now (nI r) (j + 1)) (fun r hr => by
        show drF h now (nI r) j = (drF h now (nI r) j || (decide (now (25 + j) = 1) && (decide (h (5 + 2 * j) = nI r) || decide (h (5 + 2 * j + 1) = nI r))))
        simp [c])]
      exact ih'
theorem mk_false : ∀ n, mk_ (fun _ => false) n = 0
  | 0 => rfl
  | n + 1 => by unfold mk_; rw [mk_false n]; rfl
theorem c_draughty {h now ta1 ta2 : Nat → Int32} {nd : Nat} (hd : nd ≤ 5) (ht : ∀ d, d < nd → ta1 d = h (5 + 2 * d) ∧ ta2 d = h (5 + 2 * d + 1)) (hx : ∀ d, d < nd → ixb (h (5 + 2 * d)) 5 ∧ ixb (h (5 + 2 * d + 1)) 5) : f_X4_draughtyRooms (rowOf now) (nI nd) ta1 ta2 = some (nI (mk_ (fun r => drF h now (nI r) nd) 6)) := by
  unfold f_X4_draughtyRooms
  have := c_dr_loop (now := now) hd ht hx nd 0 fl_ (by omega) (fl_lt (by omega))
  rw [show mk_ (fun r => drF h now (nI r) 0) 6 = 0 from mk_false 6] at this
  exact this
theorem c_bright_loop {now : Nat → Int32} {nc : Nat} (hc : nc ≤ 6) (hr : ∀ c, c < nc → ixb (now (2 + 4 * c)) 5) : ∀ (q j k : Nat), j + q = nc → q < k → f_X4_brightRooms_4 (rowOf now) (nI nc) k (nI (mk_ (fun r => ltF now (nI r) j) 6)) (nI j) = some (nI (mk_ (fun r => ltF now (nI r) nc) 6)) := by
  intro q
  induction q with
  | zero =>
    intro j k hj hk
    obtain ⟨k, rfl⟩ : ∃ z, k = z + 1 := ⟨k - 1, by omega⟩
    have : j = nc := by omega
    subst this
    rw [f_X4_brightRooms_4]
    simp (disch := omega) only [nI_leI, Nat.le_refl, if_true]
  | succ q ih =>
    intro j k hj hk
    obtain ⟨k, rfl⟩ : ∃ z, k = z + 1 := ⟨k - 1, by omega⟩
    have ih' := ih (j + 1) k (by omega) (by omega)
    rw [f_X4_brightRooms_4, if_neg (by rw [nI_leI (by omega) (by omega)]; omega), rdL (by omega) (by omega), Option.bind_some]
    show ((f_X7_bit (rowOf now 1) (nI j)).bind _) = _
    obtain ⟨x, hx5, ex⟩ := hr j (by omega)
    rw [row_1, c_bit (mk_64 (by omega)) (by omega), Option.bind_some, mk_bit (by omega), c_roomOf (by omega), Option.bind_some, ex]
    have hm := mk_64 (p := fun r => ltF now (nI r) j) (n := 6) (Nat.le_refl _)
    by_cases c : now (3 + 4 * j) = 1
    · have cb : litB now j = true := by unfold litB; simp [c]
      rw [cb]
      show f_X4_brightRooms_4 _ _ _ (_ ||| ((1 : Int32) <<< (nI x &&& 31))) _ = _
      rw [shl_d x (by omega), or_d _ hm x (by omega)]
      obtain ⟨b1, b2⟩ := or_bit _ hm x (by omega)
      rw [mk_of (n := 6) (p := fun r => ltF now (nI r) (j + 1)) b1 (fun r hr => by
        rw [b2 r hr, mk_bit hr]
        show _ = (ltF now (nI r) j || (decide (now (3 + 4 * j) = 1) && decide (now (2 + 4 * j) = nI r)))
        rw [ex, dec_nI (by omega) (by omega)]
        simp [c])]
      simp only [addR]
      exact ih'
    · have cb : litB now j = false := by unfold litB; simp [c]
      rw [cb]
      show f_X4_brightRooms_4 _ _ _ (_ ||| ((0 : Int32) <<< (nI x &&& 31))) _ = _
      rw [shl0_d x (by omega), or0_d _ hm]
      rw [mk_ext (p := fun r => ltF now (nI r) j) (q := fun r => ltF now (nI r) (j + 1)) (fun r hr => by
        show ltF now (nI r) j = (ltF now (nI r) j || (decide (now (3 + 4 * j) = 1) && decide (now (2 + 4 * j) = nI r)))
        simp [c])]
      simp only [addR]
      exact ih'
theorem c_bright {now : Nat → Int32} {nc : Nat} (hc : nc ≤ 6) (hr : ∀ c, c < nc → ixb (now (2 + 4 * c)) 5) : f_X4_brightRooms (rowOf now) (nI nc) = some (nI (mk_ (fun r => ltF now (nI r) nc) 6)) := by
  unfold f_X4_brightRooms
  have := c_bright_loop (now := now) hc hr nc 0 fl_ (by omega) (fl_lt (by omega))
  rw [show mk_ (fun r => ltF now (nI r) 0) 6 = 0 from mk_false 6] at this
  exact this
