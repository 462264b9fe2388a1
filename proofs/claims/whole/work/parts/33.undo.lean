/-! what may be undone -/
/-- n places of f from b on, over g -/
def cpx (f g : Nat → Int32) (b n : Nat) : Nat → Int32 := fun i => if b ≤ i ∧ i < b + n then f (i - b) else g i
theorem cpx_0 (f g : Nat → Int32) (b : Nat) : cpx f g b 0 = g := by funext i; exact if_neg (by omega)
theorem cpx_s (f g : Nat → Int32) (b n : Nat) : upd (cpx f g b n) (b + n) (f n) = cpx f g b (n + 1) := by
  funext i
  by_cases e : i = b + n
  · subst e
    rw [pk_us]
    unfold cpx
    rw [if_pos (by omega), Nat.add_sub_cancel_left]
  · rw [pk_un e]
    unfold cpx
    by_cases c : b ≤ i ∧ i < b + n
    · rw [if_pos c, if_pos (by omega)]
    · rw [if_neg c, if_neg (by omega)]
theorem cpx_in {f g : Nat → Int32} {b n i : Nat} (h : i < n) : cpx f g b n (b + i) = f i := by
  unfold cpx
  rw [if_pos (by omega), Nat.add_sub_cancel_left]
theorem cpx_out {f g : Nat → Int32} {b n i : Nat} (h : i < b ∨ b + n ≤ i) : cpx f g b n i = g i := if_neg (by omega)
def shf (u : Nat → Int32) (j : Nat) : Nat → Int32 := fun i => if i + 47 < j then u (i + 47) else u i
theorem m_note_copy {now u : Nat → Int32} {s : Nat} (hs : s < 10) : ∀ (q j k : Nat), j + q = 47 → q < k → f_X8_notes_48 now k (nI j) (nI s) (cpx now u (47 * s) j) = some (nI (s + 1), cpx now u (47 * s) 47) := by
  intro q
  induction q with
  | zero =>
    intro j k hj hk
    obtain ⟨k, rfl⟩ : ∃ z, k = z + 1 := ⟨k - 1, by omega⟩
    have : j = 47 := by omega
    subst this
    rw [f_X8_notes_48, if_pos (by decide), nI_1]
  | succ q ih =>
    intro j k hj hk
    obtain ⟨k, rfl⟩ : ∃ z, k = z + 1 := ⟨k - 1, by omega⟩
    have ih' := ih (j + 1) k (by omega) (by omega)
    rw [f_X8_notes_48, if_neg (by rw [show (47 : Int32) = nI 47 from rfl, nI_leI (by omega) (by omega)]; omega), rd_ok (by omega) (by omega), Option.bind_some, mulL, nI_add, wr_ok (by omega) (by omega), Option.bind_some, nI_1]
    show f_X8_notes_48 now k (nI (j + 1)) (nI s) (upd (cpx now u (47 * s) j) (47 * s + j) (now j)) = _
    rw [cpx_s]
    exact ih'
theorem m_note_shift {now u : Nat → Int32} {g : Int32} : ∀ (q j k : Nat), j + q = 470 → 47 ≤ j → q < k → f_X8_notes_12 now k (nI j) g (shf u j) = f_X8_notes_46 now 9 (shf u 470) := by
  intro q
  induction q with
  | zero =>
    intro j k hj h47 hk
    obtain ⟨k, rfl⟩ : ∃ z, k = z + 1 := ⟨k - 1, by omega⟩
    have : j = 470 := by omega
    subst this
    rw [f_X8_notes_12, if_pos (by decide)]
  | succ q ih =>
    intro j k hj h47 hk
    obtain ⟨k, rfl⟩ : ∃ z, k = z + 1 := ⟨k - 1, by omega⟩
    have ih' := ih (j + 1) k (by omega) (by omega) (by omega)
    rw [f_X8_notes_12, if_neg (by rw [show (470 : Int32) = nI 470 from rfl, nI_leI (by omega) (by omega)]; omega), rd_ok (by omega) (by omega), Option.bind_some, show (47 : Int32) = nI 47 from rfl, pk_sub h47, wr_ok (by omega) (by omega), Option.bind_some, nI_1]
    have e : upd (shf u j) (j - 47) (shf u j j) = shf u (j + 1) := by
      funext i
      by_cases c : i = j - 47
      · subst c
        rw [pk_us]
        unfold shf
        rw [if_neg (by omega), if_pos (by omega), Nat.sub_add_cancel h47]
      · rw [pk_un c]
        unfold shf
        by_cases d : i + 47 < j
        · rw [if_pos d, if_pos (by omega)]
        · rw [if_neg d, if_neg (by omega)]
    rw [e]
    exact ih'
def undN (u : Nat → Int32) (i : Nat) : Nat → Int32 := fun k => u (47 * i + k)
/-- the model's note: u', with how many there are then -/
theorem m_notes {now u : Nat → Int32} {sz : Nat} (hs : sz ≤ 10) : ∃ u', f_X8_notes (nI sz) now u = some (nI (if sz = 10 then 10 else sz + 1), u') ∧ (∀ k, k < 47 → undN u' (if sz = 10 then 9 else sz) k = now k) ∧ (∀ i k, i < (if sz = 10 then 9 else sz) → k < 47 → undN u' i k = undN u (if sz = 10 then i + 1 else i) k) := by
  unfold f_X8_notes
  by_cases c : sz = 10
  · subst c
    rw [if_pos (by decide), if_pos rfl, if_pos rfl]
    refine ⟨cpx now (shf u 470) (47 * 9) 47, ?_, fun k hk => ?_, fun i k hi hk => ?_⟩
    · have h0 : shf u 47 = u := by funext i; exact if_neg (by omega)
      have h1 := m_note_shift (now := now) (u := u) (g := nI 10) 423 47 fl_ (by omega) (by omega) (fl_lt (by omega))
      rw [h0] at h1
      have h1' : f_X8_notes_12 now fl_ 47 (nI 10) u = f_X8_notes_46 now 9 (shf u 470) := h1
      rw [h1']
      unfold f_X8_notes_46
      have h2 := m_note_copy (now := now) (u := shf u 470) (s := 9) (by omega) 47 0 fl_ (by omega) (fl_lt (by omega))
      rw [cpx_0] at h2
      exact h2
    · unfold undN; exact cpx_in hk
    · unfold undN
      rw [cpx_out (by omega)]
      unfold shf
      rw [if_pos rfl, if_pos (by omega)]
      congr 1
      omega
  · rw [if_neg (show ¬ nI sz = 10 from fun q => c ((nI_eq (a := sz) (b := 10) (by omega) (by decide)).mp q)), if_neg c, if_neg c]
    refine ⟨cpx now u (47 * sz) 47, ?_, fun k hk => ?_, fun i k hi hk => ?_⟩
    · unfold f_X8_notes_46
      have h2 := m_note_copy (now := now) (u := u) (s := sz) (by omega) 47 0 fl_ (by omega) (fl_lt (by omega))
      rw [cpx_0] at h2
      exact h2
    · unfold undN; exact cpx_in hk
    · unfold undN
      rw [cpx_out (by omega), if_neg c]
theorem cpy_row {now : Nat → Int32} {g : Nat → Int32} (hg : ∀ i, 33 ≤ i → g i = 0) : va_cpy (rowOf now) g 0 0 33 = rowOf now := by
  funext i
  by_cases c : i < 33
  · rw [pk_cpy_in (Nat.zero_le _) (by omega)]; simp
  · rw [pk_cpy_out (by omega), hg i (by omega), row_big (by omega)]
theorem nz10 : nz_ 10 = some () := by decide
theorem min_10 : ∀ sz, sz ≤ 10 → (if (10 : Int32) < nI sz + 1 then (10 : Int32) else nI sz + 1) = nI (if sz = 10 then 10 else sz + 1) := by decide +kernel
theorem nxt_10 : ∀ nx, nx < 10 → (nI nx + 1) - (nI nx + 1) / 10 * 10 = nI ((nx + 1) % 10) := by decide +kernel
theorem prv_10 : ∀ nx, nx < 10 → ((nI nx + 10) - 1) - ((nI nx + 10) - 1) / 10 * 10 = nI ((nx + 9) % 10) := by decide +kernel
theorem c_remember {now : Nat → Int32} {rows : Nat → Nat → Int32} {sz nx : Nat} (hs : sz ≤ 10) (hx : nx < 10) (ht : ∀ j i, 33 ≤ i → rows j i = 0) : f_X5_remember (nI sz) (nI nx) rows (rowOf now) = some (nI (if sz = 10 then 10 else sz + 1), nI ((nx + 1) % 10), va_up rows nx (rowOf now)) := by
  unfold f_X5_remember
  rw [min_10 sz hs, nxt_10 nx hx, nz10]
  simp only [Option.bind_some]
  rw [cpy_row (ht 0), cpy_row (ht 1), cpy_row (ht 2), cpy_row (ht 3), cpy_row (ht 4), cpy_row (ht 5), cpy_row (ht 6), cpy_row (ht 7), cpy_row (ht 8), cpy_row (ht 9)]
  rcases (show nx = 0 ∨ nx = 1 ∨ nx = 2 ∨ nx = 3 ∨ nx = 4 ∨ nx = 5 ∨ nx = 6 ∨ nx = 7 ∨ nx = 8 ∨ nx = 9 by omega) with rfl | rfl | rfl | rfl | rfl | rfl | rfl | rfl | rfl | rfl
  · rw [show nI 0 = (0 : Int32) from rfl, if_pos rfl]
  · rw [show nI 1 = (1 : Int32) from rfl, if_neg (by decide), if_pos rfl]
  · rw [show nI 2 = (2 : Int32) from rfl, if_neg (by decide), if_neg (by decide), if_pos rfl]
  · rw [show nI 3 = (3 : Int32) from rfl, if_neg (by decide), if_neg (by decide), if_neg (by decide), if_pos rfl]
  · rw [show nI 4 = (4 : Int32) from rfl, if_neg (by decide), if_neg (by decide), if_neg (by decide), if_neg (by decide), if_pos rfl]
  · rw [show nI 5 = (5 : Int32) from rfl, if_neg (by decide), if_neg (by decide), if_neg (by decide), if_neg (by decide), if_neg (by decide), if_pos rfl]
  · rw [show nI 6 = (6 : Int32) from rfl, if_neg (by decide), if_neg (by decide), if_neg (by decide), if_neg (by decide), if_neg (by decide), if_neg (by decide), if_pos rfl]
  · rw [show nI 7 = (7 : Int32) from rfl, if_neg (by decide), if_neg (by decide), if_neg (by decide), if_neg (by decide), if_neg (by decide), if_neg (by decide), if_neg (by decide), if_pos rfl]
  · rw [show nI 8 = (8 : Int32) from rfl, if_neg (by decide), if_neg (by decide), if_neg (by decide), if_neg (by decide), if_neg (by decide), if_neg (by decide), if_neg (by decide), if_neg (by decide), if_pos rfl]
  · rw [show nI 9 = (9 : Int32) from rfl, if_neg (by decide), if_neg (by decide), if_neg (by decide), if_neg (by decide), if_neg (by decide), if_neg (by decide), if_neg (by decide), if_neg (by decide), if_neg (by decide), if_pos rfl]
theorem c_takeBack {und now : Nat → Int32} {rows : Nat → Nat → Int32} {sz nx : Nat} (hx : nx < 10) (he : rows ((nx + 9) % 10) = rowOf und) : f_X5_takeBack (nI (sz + 1)) (nI nx) rows (rowOf now) = some (nI sz, nI ((nx + 9) % 10), rowOf und) := by
  unfold f_X5_takeBack
  rw [prv_10 nx hx, nz10, nI_pred]
  simp only [Option.bind_some]
  generalize hq : (nx + 9) % 10 = q at he ⊢
  have hq10 : q < 10 := by omega
  have hc : va_cpy (rows q) (rowOf now) 0 0 33 = rowOf und := by rw [he]; exact cpy_row (fun i hi => row_big hi)
  rcases (show q = 0 ∨ q = 1 ∨ q = 2 ∨ q = 3 ∨ q = 4 ∨ q = 5 ∨ q = 6 ∨ q = 7 ∨ q = 8 ∨ q = 9 by omega) with rfl | rfl | rfl | rfl | rfl | rfl | rfl | rfl | rfl | rfl
  · rw [show nI 0 = (0 : Int32) from rfl, if_pos rfl, hc]
  · rw [show nI 1 = (1 : Int32) from rfl, if_neg (by decide), if_pos rfl, hc]
  · rw [show nI 2 = (2 : Int32) from rfl, if_neg (by decide), if_neg (by decide), if_pos rfl, hc]
  · rw [show nI 3 = (3 : Int32) from rfl, if_neg (by decide), if_neg (by decide), if_neg (by decide), if_pos rfl, hc]
  · rw [show nI 4 = (4 : Int32) from rfl, if_neg (by decide), if_neg (by decide), if_neg (by decide), if_neg (by decide), if_pos rfl, hc]
  · rw [show nI 5 = (5 : Int32) from rfl, if_neg (by decide), if_neg (by decide), if_neg (by decide), if_neg (by decide), if_neg (by decide), if_pos rfl, hc]
  · rw [show nI 6 = (6 : Int32) from rfl, if_neg (by decide), if_neg (by decide), if_neg (by decide), if_neg (by decide), if_neg (by decide), if_neg (by decide), if_pos rfl, hc]
  · rw [show nI 7 = (7 : Int32) from rfl, if_neg (by decide), if_neg (by decide), if_neg (by decide), if_neg (by decide), if_neg (by decide), if_neg (by decide), if_neg (by decide), if_pos rfl, hc]
  · rw [show nI 8 = (8 : Int32) from rfl, if_neg (by decide), if_neg (by decide), if_neg (by decide), if_neg (by decide), if_neg (by decide), if_neg (by decide), if_neg (by decide), if_neg (by decide), if_pos rfl, hc]
  · rw [show nI 9 = (9 : Int32) from rfl, if_neg (by decide), if_neg (by decide), if_neg (by decide), if_neg (by decide), if_neg (by decide), if_neg (by decide), if_neg (by decide), if_neg (by decide), if_neg (by decide), if_pos rfl, hc]
theorem row_ext {a b : Nat → Int32} (h : ∀ k, k < 47 → a k = b k) : rowOf a = rowOf b := by
  funext i
  unfold rowOf
  rw [mk_ext (p := litB a) (q := litB b) (fun j hj => by unfold litB; rw [h _ (by omega)]), mk_ext (p := shdB a) (q := shdB b) (fun j hj => by unfold shdB; rw [h _ (by omega)]), mk_ext (p := opnB a) (q := opnB b) (fun j hj => by unfold opnB; rw [h _ (by omega)])]
  cases hq : src_ i with
  | none => rfl
  | some q =>
    have : q < 47 := by
      have hi := src_inv hq
      have key : ∀ i, i < 33 → ∀ q, q ∈ (src_ i).toList → q < 47 := by decide
      exact key i hi q (by rw [hq]; simp)
    simp only [h q this]
theorem NI_ext {h a b : Nat → Int32} {nr nd nc na : Nat} (hx : ∀ k, k < 47 → a k = b k) (hnc : nc ≤ 6) (hna : na ≤ 6) (hN : NI h nr nd nc na a) : NI h nr nd nc na b := by
  obtain ⟨n1, n2, n3, n4, n5, n6⟩ := hN
  refine ⟨fun c hc => ?_, fun c hc => ?_, fun d hd => ?_, fun c hc => ?_, fun a ha => ?_, fun c h1 h2 => ?_⟩
  · rw [← hx _ (by omega)]; exact n1 c hc
  · rw [← hx _ (by omega)]; exact n2 c hc
  · rw [← hx _ (by omega)]; exact n3 d hd
  · rw [← hx _ (by omega), ← hx _ (by omega), ← hx _ (by omega)]; exact n4 c hc
  · rw [← hx _ (by omega), ← hx _ (by omega)]; exact n5 a ha
  · rw [← hx _ (by omega)]; exact n6 c h1 h2
/-- what may be undone, in the class and in the model -/
def PRel (h : Nat → Int32) (nr nd nc na sz nx : Nat) (rows und : Nat → Nat → Int32) : Prop :=
  sz ≤ 10 ∧ nx < 10 ∧ (∀ j i, 33 ≤ i → rows j i = 0) ∧ ∀ i, i < sz → rows ((nx + 10 - sz + i) % 10) = rowOf (und i) ∧ NI h nr nd nc na (und i) ∧ ∃ m, m ≤ 999 ∧ und i 0 = nI m
theorem PRel_note {h now : Nat → Int32} {nr nd nc na sz nx m : Nat} {rows und und' : Nat → Nat → Int32} (hnc : nc ≤ 6) (hna : na ≤ 6) (hP : PRel h nr nd nc na sz nx rows und) (hN : NI h nr nd nc na now) (hm : m ≤ 999) (em : now 0 = nI m) (h1 : ∀ k, k < 47 → und' (if sz = 10 then 9 else sz) k = now k) (h2 : ∀ i k, i < (if sz = 10 then 9 else sz) → k < 47 → und' i k = und (if sz = 10 then i + 1 else i) k) : PRel h nr nd nc na (if sz = 10 then 10 else sz + 1) ((nx + 1) % 10) (va_up rows nx (rowOf now)) und' := by
  obtain ⟨p1, p2, p3, p4⟩ := hP
  refine ⟨by split <;> omega, by omega, fun j i hi => ?_, fun i hi => ?_⟩
  · unfold va_up
    split
    · exact row_big hi
    · exact p3 j i hi
  · have hlast : ∀ i, i = (if sz = 10 then 9 else sz) → rowOf (und' i) = rowOf now ∧ NI h nr nd nc na (und' i) ∧ ∃ m, m ≤ 999 ∧ und' i 0 = nI m := fun i e => by
      subst e
      exact ⟨row_ext h1, NI_ext (fun k hk => (h1 k hk).symm) hnc hna hN, m, hm, (h1 0 (by omega)).trans em⟩
    have hold : ∀ i, i < (if sz = 10 then 9 else sz) → rows ((nx + 10 - sz + (if sz = 10 then i + 1 else i)) % 10) = rowOf (und' i) ∧ NI h nr nd nc na (und' i) ∧ ∃ m, m ≤ 999 ∧ und' i 0 = nI m := fun i hi => by
      obtain ⟨q1, q2, m', q3, q4⟩ := p4 (if sz = 10 then i + 1 else i) (by split at hi <;> split <;> omega)
      refine ⟨q1.trans (row_ext (fun k hk => (h2 i k hi hk).symm)), NI_ext (fun k hk => (h2 i k hi hk).symm) hnc hna q2, m', q3, (h2 i 0 hi (by omega)).trans q4⟩
    by_cases c : sz = 10
    · simp only [c, if_true] at hi hlast hold ⊢
      by_cases e : i = 9
      · obtain ⟨q1, q2, q3⟩ := hlast i e
        refine ⟨?_, q2, q3⟩
        rw [show ((nx + 1) % 10 + 10 - 10 + i) % 10 = nx by omega, q1]
        exact if_pos rfl
      · obtain ⟨q1, q2, q3⟩ := hold i (by omega)
        refine ⟨?_, q2, q3⟩
        rw [show ((nx + 1) % 10 + 10 - 10 + i) % 10 = (nx + 10 - 10 + (i + 1)) % 10 by omega, ← q1]
        exact if_neg (by omega)
    · simp only [c, if_false] at hi hlast hold ⊢
      by_cases e : i = sz
      · obtain ⟨q1, q2, q3⟩ := hlast i e
        refine ⟨?_, q2, q3⟩
        rw [show ((nx + 1) % 10 + 10 - (sz + 1) + i) % 10 = nx by omega, q1]
        exact if_pos rfl
      · obtain ⟨q1, q2, q3⟩ := hold i (by omega)
        refine ⟨?_, q2, q3⟩
        rw [show ((nx + 1) % 10 + 10 - (sz + 1) + i) % 10 = (nx + 10 - sz + i) % 10 by omega, ← q1]
        exact if_neg (by omega)
