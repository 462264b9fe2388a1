/-! the house, draughts and light -/
def HH (h : Nat → Int32) (nr nd nc na nw : Nat) : Prop :=
  (h 0 = nI nr ∧ h 1 = nI nd ∧ h 2 = nI nc ∧ h 3 = nI na ∧ h 4 = nI nw) ∧ (nr ≤ 5 ∧ nd ≤ 5 ∧ nc ≤ 6 ∧ na ≤ 6 ∧ nw ≤ 8) ∧
  (∀ d, d < nd → ixb (h (5 + 2 * d)) nr ∧ ixb (h (5 + 2 * d + 1)) nr) ∧
  (∀ c, c < nc → (∃ l, 1 ≤ l ∧ l ≤ 60 ∧ h (15 + 2 * c) = nI l) ∧ ixb (h (15 + 2 * c + 1)) nr) ∧
  (∀ a, a < na → (∃ n, 1 ≤ n ∧ n ≤ 20 ∧ h (27 + 4 * a) = nI n) ∧ (∃ w, w ≤ 9 ∧ h (27 + 4 * a + 1) = nI w) ∧ ixb (h (27 + 4 * a + 2)) nr ∧ (h (27 + 4 * a + 3) = 9 ∨ ixb (h (27 + 4 * a + 3)) a)) ∧
  (∀ w, w < nw → h (51 + w) = 0 ∨ h (51 + w) = 1)
/-- the class's house beside the model's -/
def HR (h : Nat → Int32) (nr nd nc na nw : Nat) (t_rooms t_doors t_candles t_acts t_windBits : Int32) (ta_oneSide ta_otherSide ta_length ta_candleRoom ta_needs ta_worth ta_actRoom ta_restsOn ta_wind : Nat → Int32) : Prop :=
  (t_rooms = nI nr ∧ t_doors = nI nd ∧ t_candles = nI nc ∧ t_acts = nI na ∧ t_windBits = nI nw) ∧
  (∀ d, d < nd → ta_oneSide d = h (5 + 2 * d) ∧ ta_otherSide d = h (5 + 2 * d + 1)) ∧
  (∀ c, c < nc → ta_length c = h (15 + 2 * c) ∧ ta_candleRoom c = h (15 + 2 * c + 1)) ∧
  (∀ a, a < na → ta_needs a = h (27 + 4 * a) ∧ ta_worth a = h (27 + 4 * a + 1) ∧ ta_actRoom a = h (27 + 4 * a + 2) ∧ ta_restsOn a = h (27 + 4 * a + 3)) ∧
  (∀ w, w < nw → ta_wind w = h (51 + w))
def drF (h now : Nat → Int32) (r : Int32) : Nat → Bool
  | 0 => false
  | d + 1 => drF h now r d || (decide (now (25 + d) = 1) && (decide (h (5 + 2 * d) = r) || decide (h (5 + 2 * d + 1) = r)))
def ltF (now : Nat → Int32) (r : Int32) : Nat → Bool
  | 0 => false
  | c + 1 => ltF now r c || (decide (now (3 + 4 * c) = 1) && decide (now (2 + 4 * c) = r))
def b2i (b : Bool) : Int32 := if b then 1 else 0
theorem zb_b (b : Bool) : zb_ (b2i b) = some (b2i b) := by cases b <;> decide
theorem b2i_0 (b : Bool) : b2i b = 0 ↔ b = false := by cases b <;> decide
theorem b2i_1 (b : Bool) : b2i b = 1 ↔ b = true := by cases b <;> decide
theorem m_isLit {now : Nat → Int32} {c : Nat} (h : c < 6) : f_X8_isLit now (nI c) = some (b2i (decide (now (3 + 4 * c) = 1))) := by
  unfold f_X8_isLit b2i
  simp (disch := omega) only [mulL, addL, rd_ok, Option.bind_some]
  by_cases e : now (3 + 4 * c) = 1
  · simp [e]
  · simp [e]
theorem m_roomOf {now : Nat → Int32} {c : Nat} (h : c < 6) : f_X8_roomOf now (nI c) = some (now (2 + 4 * c)) := by
  unfold f_X8_roomOf
  simp (disch := omega) only [mulL, addL, rd_ok, Option.bind_some]
theorem m_left {now : Nat → Int32} {c : Nat} (h : c < 6) : f_X8_left now (nI c) = some (now (1 + 4 * c)) := by
  unfold f_X8_left
  simp (disch := omega) only [mulL, addL, rd_ok, Option.bind_some]
theorem m_dr_loop {h now : Nat → Int32} {nd : Nat} {r : Int32} (e1 : h 1 = nI nd) (hd : nd ≤ 5) : ∀ (q j k : Nat), j + q = nd → q < k → f_X8_isDraughty_4 h now r k (b2i (drF h now r j)) (nI j) = some (b2i (drF h now r nd)) := by
  intro q
  induction q with
  | zero =>
    intro j k hj hk
    obtain ⟨k, rfl⟩ : ∃ z, k = z + 1 := ⟨k - 1, by omega⟩
    have : j = nd := by omega
    subst this
    rw [f_X8_isDraughty_4]
    simp (disch := omega) only [rdL, Option.bind_some, e1, nI_leI, Nat.le_refl, if_true, zb_b]
  | succ q ih =>
    intro j k hj hk
    obtain ⟨k, rfl⟩ : ∃ z, k = z + 1 := ⟨k - 1, by omega⟩
    rw [f_X8_isDraughty_4]
    have hn : ¬ nd ≤ j := by omega
    have ih' := ih (j + 1) k (by omega) (by omega)
    simp (disch := omega) only [rdL, Option.bind_some, e1, nI_leI, hn, if_false, mulL, addL, addR, rd_ok]
    unfold f_X8_isDraughty_61 f_X8_isDraughty_65 f_X8_isDraughty_66
    simp only [addR]
    have e0 : (0 : Int32) = b2i false := rfl
    have e11 : (1 : Int32) = b2i true := rfl
    cases hb : drF h now r j with
    | true =>
      have hs : drF h now r (j + 1) = true := by unfold drF; rw [hb]; rfl
      rw [if_neg (by decide), e11, ← hs]; exact ih'
    | false =>
      rw [if_pos (by decide)]
      by_cases c1 : now (25 + j) = 1
      · rw [if_pos c1]
        by_cases c2 : h (5 + 2 * j) = r
        · have hs : drF h now r (j + 1) = true := by unfold drF; rw [hb]; simp [c1, c2]
          rw [if_pos c2, e11, ← hs]; exact ih'
        · rw [if_neg c2]
          by_cases c3 : h (5 + 2 * j + 1) = r
          · have hs : drF h now r (j + 1) = true := by unfold drF; rw [hb]; simp [c1, c3]
            rw [if_pos c3, e11, ← hs]; exact ih'
          · have hs : drF h now r (j + 1) = false := by unfold drF; rw [hb]; simp [c2, c3]
            rw [if_neg c3, e0, ← hs]; exact ih'
      · have hs : drF h now r (j + 1) = false := by unfold drF; rw [hb]; simp [c1]
        rw [if_neg c1, e0, ← hs]; exact ih'
theorem m_isDraughty {h now : Nat → Int32} {nd : Nat} {r : Int32} (e1 : h 1 = nI nd) (hd : nd ≤ 5) : f_X8_isDraughty h now r = some (b2i (drF h now r nd)) := by
  unfold f_X8_isDraughty
  exact m_dr_loop e1 hd nd 0 fl_ (by omega) (fl_lt (by omega))
