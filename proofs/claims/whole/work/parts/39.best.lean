/-! bestActs -/
theorem orr_d : ∀ x, x < 64 → ∀ y, y < 64 → nI x ||| nI y = nI (x ||| y) ∧ x ||| y < 64 := by decide +kernel
def alF (h : Nat → Int32) (set whole : Nat) : Nat → Bool
  | 0 => true
  | a + 1 => alF h set whole a && (!set.testBit a || (decide (h (27 + 4 * a + 3) = 9) || (set ||| whole).testBit (tn (h (27 + 4 * a + 3)))))
theorem alF_no {h : Nat → Int32} {s w j : Nat} (hj : alF h s w j = false) : ∀ {n : Nat}, j ≤ n → alF h s w n = false
  | 0, hn => by rw [show j = 0 by omega] at hj; exact hj
  | n + 1, hn => by
    by_cases e : j = n + 1
    · rw [← e]; exact hj
    · unfold alF; rw [alF_no hj (n := n) (by omega), Bool.false_and]
theorem c_can_loop {h now ts : Nat → Int32} {na s w : Nat} (hna : na ≤ 6) (hs : s < 64) (hw : w < 64) (hL : ∀ a, a < na → ts a = h (27 + 4 * a + 3)) (hR : ∀ a, a < na → h (27 + 4 * a + 3) = 9 ∨ ixb (h (27 + 4 * a + 3)) a) : ∀ (q j k : Nat), j + q = na → q < k → alF h s w j = true → f_X7_canBeDone_28 (nI na) ts (rowOf now) (nI s) k (nI w) (nI j) = some (b2i (alF h s w na)) := by
  intro q
  induction q with
  | zero =>
    intro j k hj hk ht
    obtain ⟨k, rfl⟩ : ∃ z, k = z + 1 := ⟨k - 1, by omega⟩
    have : j = na := by omega
    subst this
    rw [f_X7_canBeDone_28, if_pos ((nI_leI (by omega) (by omega)).mpr (Nat.le_refl _)), ht]
    rfl
  | succ q ih =>
    intro j k hj hk ht
    obtain ⟨k, rfl⟩ : ∃ z, k = z + 1 := ⟨k - 1, by omega⟩
    have ih' := ih (j + 1) k (by omega) (by omega)
    obtain ⟨o1, o2⟩ := orr_d s hs w hw
    have hs1 : alF h s w (j + 1) = (!s.testBit j || (decide (h (27 + 4 * j + 3) = 9) || (s ||| w).testBit (tn (h (27 + 4 * j + 3))))) := by rw [alF, ht, Bool.true_and]
    rw [f_X7_canBeDone_28, if_neg (by rw [nI_leI (by omega) (by omega)]; omega), rd_ok (by omega) (by omega), Option.bind_some, c_bit hs (by omega), Option.bind_some, hL j (by omega)]
    unfold f_X7_canBeDone_79
    rw [addR]
    cases hb : s.testBit j with
    | false =>
      rw [bf1]
      exact ih' (by rw [hs1, hb]; rfl)
    | true =>
      rw [bt1]
      rcases hR j (by omega) with e | ⟨x, hx, e⟩
      · rw [if_pos e]
        exact ih' (by rw [hs1, e]; simp)
      · have h9 : ¬ h (27 + 4 * j + 3) = 9 := fun z => by
          rw [e] at z
          have := (nI_eq (a := x) (b := 9) (by omega) (by decide)).mp z
          omega
        rw [if_neg h9, o1, e, c_bit o2 (by omega), Option.bind_some]
        rw [hb, e, tn_nI (by omega)] at hs1
        cases hc : (s ||| w).testBit x with
        | false =>
          rw [bf0]
          have : alF h s w (j + 1) = false := by rw [hs1, hc, decide_eq_false (by rw [← e]; exact h9)]; rfl
          rw [alF_no this (by omega)]
          rfl
        | true =>
          rw [bt0]
          exact ih' (by rw [hs1, hc]; simp)
theorem c_can {h now ts : Nat → Int32} {na s : Nat} (hna : na ≤ 6) (hs : s < 64) (hL : ∀ a, a < na → ts a = h (27 + 4 * a + 3)) (hR : ∀ a, a < na → h (27 + 4 * a + 3) = 9 ∨ ixb (h (27 + 4 * a + 3)) a) : f_X7_canBeDone (nI na) ts (rowOf now) (nI s) = some (b2i (decide (nI s &&& (nI (mk_ (fun i => decide (now (30 + 2 * i) = 2)) na) ||| nI (mk_ (fun i => decide (now (30 + 2 * i) = 3)) na)) = 0) && alF h s (mk_ (fun i => decide (now (30 + 2 * i) = 2)) na) na)) := by
  unfold f_X7_canBeDone
  rw [c_acts_are hna, Option.bind_some, c_acts_are hna, Option.bind_some]
  by_cases c : nI s &&& (nI (mk_ (fun i => decide (now (30 + 2 * i) = 2)) na) ||| nI (mk_ (fun i => decide (now (30 + 2 * i) = 3)) na)) = 0
  · rw [if_pos c, decide_eq_true c, Bool.true_and]
    have l := c_can_loop (now := now) (w := mk_ (fun i => decide (now (30 + 2 * i) = 2)) na) hna hs (mk_64 hna) hL hR na 0 fl_ (by omega) (fl_lt (by omega)) rfl
    rw [show nI 0 = (0 : Int32) from rfl] at l
    exact l
  · rw [if_neg c, decide_eq_false c, Bool.false_and]
    rfl
theorem m_best_in {h now : Nat → Int32} {na s w : Nat} {v1 v2 v3 v4 v5 v7 : Int32} {g : Bool} {K : Int32 → Int32 → Int32 → Int32 → Int32 → Int32 → Option Int32} (e3 : h 3 = nI na) (hna : na ≤ 6) (hs : s < 64) (hw : w < 64) (hR : ∀ a, a < na → h (27 + 4 * a + 3) = 9 ∨ ixb (h (27 + 4 * a + 3)) a) : ∀ (q j k : Nat), j + q = na → q < k → f_X8_bestActs_107 h now v1 v2 K k v3 v4 v5 (nI w) v7 (nI s) (b2i (g && alF h s w j)) (sm_ (fun i => s.testBit i) (fun a => h (27 + 4 * a + 1)) j) (sm_ (fun i => s.testBit i) (fun a => h (27 + 4 * a)) j) (nI j) = (if (g && alF h s w na) = true ∧ ¬ v1 < sm_ (fun i => s.testBit i) (fun a => h (27 + 4 * a)) na ∧ (v4 < sm_ (fun i => s.testBit i) (fun a => h (27 + 4 * a + 1)) na ∨ (sm_ (fun i => s.testBit i) (fun a => h (27 + 4 * a + 1)) na = v4 ∧ ¬ v5 ≤ sm_ (fun i => s.testBit i) (fun a => h (27 + 4 * a)) na)) then K (nI s) (sm_ (fun i => s.testBit i) (fun a => h (27 + 4 * a + 1)) na) (sm_ (fun i => s.testBit i) (fun a => h (27 + 4 * a)) na) (nI w) v7 (nI (s + 1)) else K v3 v4 v5 (nI w) v7 (nI (s + 1))) := by
  intro q
  induction q with
  | zero =>
    intro j k hj hk
    obtain ⟨k, rfl⟩ : ∃ z, k = z + 1 := ⟨k - 1, by omega⟩
    have : j = na := by omega
    subst this
    rw [f_X8_bestActs_107, rdL (by omega) (by omega), Option.bind_some, if_pos (by show h 3 ≤ nI j; rw [e3, nI_leI (by omega) (by omega)]; omega)]
    generalize sm_ (fun i => s.testBit i) (fun a => h (27 + 4 * a + 1)) j = own
    generalize sm_ (fun i => s.testBit i) (fun a => h (27 + 4 * a)) j = sum
    have e10 : ¬ (1 : Int32) = 0 := by decide
    have no : f_X8_bestActs_256 h now v1 v2 K v3 v4 v5 (nI w) v7 (nI s) own sum = K v3 v4 v5 (nI w) v7 (nI (s + 1)) := by
      unfold f_X8_bestActs_256 f_X8_bestActs_257 f_X8_bestActs_270 f_X8_bestActs_283 f_X8_bestActs_297
      rw [if_pos rfl, addR, if_pos rfl, if_pos rfl]
    have yes : f_X8_bestActs_252 h now v1 v2 K v3 v4 v5 (nI w) v7 (nI s) own sum = K (nI s) own sum (nI w) v7 (nI (s + 1)) := by
      unfold f_X8_bestActs_252 f_X8_bestActs_257 f_X8_bestActs_270 f_X8_bestActs_283 f_X8_bestActs_297
      rw [if_neg e10, addR, if_neg e10, if_neg e10]
    cases hb : (g && alF h s w j) with
    | false => rw [bf0, if_neg (fun q => by cases q.1), no]
    | true =>
      rw [bt0]
      by_cases c1 : v1 < sum
      · rw [if_pos c1, if_neg (fun q => q.2.1 c1), no]
      · rw [if_neg c1]
        by_cases c2 : v4 < own
        · rw [if_pos c2, if_pos ⟨rfl, c1, Or.inl c2⟩, yes]
        · rw [if_neg c2]
          by_cases c3 : own = v4
          · rw [if_pos c3]
            by_cases c4 : v5 ≤ sum
            · rw [if_pos c4, if_neg (fun q => q.2.2.elim c2 (fun z => z.2 c4)), no]
            · rw [if_neg c4, if_pos ⟨rfl, c1, Or.inr ⟨c3, c4⟩⟩, yes]
          · rw [if_neg c3, if_neg (fun q => q.2.2.elim c2 (fun z => c3 z.1)), no]
  | succ q ih =>
    intro j k hj hk
    obtain ⟨k, rfl⟩ : ∃ z, k = z + 1 := ⟨k - 1, by omega⟩
    have ih' := ih (j + 1) k (by omega) (by omega)
    obtain ⟨o1, o2⟩ := orr_d s hs w hw
    generalize hRES : (if (g && alF h s w na) = true ∧ ¬ v1 < sm_ (fun i => s.testBit i) (fun a => h (27 + 4 * a)) na ∧ (v4 < sm_ (fun i => s.testBit i) (fun a => h (27 + 4 * a + 1)) na ∨ (sm_ (fun i => s.testBit i) (fun a => h (27 + 4 * a + 1)) na = v4 ∧ ¬ v5 ≤ sm_ (fun i => s.testBit i) (fun a => h (27 + 4 * a)) na)) then K (nI s) (sm_ (fun i => s.testBit i) (fun a => h (27 + 4 * a + 1)) na) (sm_ (fun i => s.testBit i) (fun a => h (27 + 4 * a)) na) (nI w) v7 (nI (s + 1)) else K v3 v4 v5 (nI w) v7 (nI (s + 1))) = RES at ih' ⊢
    clear hRES ih
    rw [f_X8_bestActs_107, rdL (by omega) (by omega), Option.bind_some, if_neg (by show ¬ h 3 ≤ nI j; rw [e3, nI_leI (by omega) (by omega)]; omega)]
    have eb : (nI s >>> (nI j &&& 31)) &&& 1 = b2i (s.testBit j) := by rw [bit_d s hs j (by omega)]; rfl
    rw [eb]
    rw [sm_s, sm_s, alF] at ih'
    cases hb : s.testBit j with
    | false =>
      rw [bf1]
      unfold f_X8_bestActs_214
      rw [addR]
      rw [hb, if_neg (by decide), if_neg (by decide), Int32.add_zero, Int32.add_zero, Bool.not_false, Bool.true_or, Bool.and_true] at ih'
      exact ih'
    | true =>
      rw [hb, if_pos rfl, if_pos rfl, Bool.not_true, Bool.false_or] at ih'
      rw [bt1, mulL, addL, addR, rd_ok (by omega) (by omega), Option.bind_some]
      have fin : ∀ b : Bool, (g && (alF h s w j && (decide (h (27 + 4 * j + 3) = 9) || (s ||| w).testBit (tn (h (27 + 4 * j + 3)))))) = b → f_X8_bestActs_176 h now v1 v2 K (f_X8_bestActs_107 h now v1 v2 K k) v3 v4 v5 (nI w) v7 (nI s) (sm_ (fun i => s.testBit i) (fun a => h (27 + 4 * a + 1)) j) (sm_ (fun i => s.testBit i) (fun a => h (27 + 4 * a)) j) (nI j) (b2i b) = RES := fun b hbb => by
        unfold f_X8_bestActs_176 f_X8_bestActs_214
        rw [mulL, addL, addR, rd_ok (by omega) (by omega), Option.bind_some, rd_ok (by omega) (by omega), Option.bind_some, addR, ← hbb]
        exact ih'
      unfold f_X8_bestActs_175 f_X8_bestActs_171
      cases hg : (g && alF h s w j) with
      | false =>
        rw [bf0]
        exact fin false (by rw [← Bool.and_assoc, hg, Bool.false_and])
      | true =>
        rw [bt0]
        rcases hR j (by omega) with e | ⟨x, hx, e⟩
        · rw [if_pos e]
          exact fin true (by rw [← Bool.and_assoc, hg, e]; simp)
        · have h9 : ¬ h (27 + 4 * j + 3) = 9 := fun z => by
            rw [e] at z
            have := (nI_eq (a := x) (b := 9) (by omega) (by decide)).mp z
            omega
          have ex : (nI (s ||| w) >>> (nI x &&& 31)) &&& 1 = b2i ((s ||| w).testBit x) := by rw [bit_d _ o2 x (by omega)]; rfl
          have et : tn (h (27 + 4 * j + 3)) = x := by rw [e]; exact tn_nI (by omega)
          rw [if_neg h9, o1]
          have ex' : (nI (s ||| w) >>> (h (27 + 4 * j + 3) &&& 31)) &&& 1 = b2i ((s ||| w).testBit x) := by rw [e]; exact ex
          rw [ex']
          have hbv : (g && (alF h s w j && (decide (h (27 + 4 * j + 3) = 9) || (s ||| w).testBit (tn (h (27 + 4 * j + 3)))))) = (s ||| w).testBit x := by
            rw [← Bool.and_assoc, hg, Bool.true_and, decide_eq_false h9, Bool.false_or, et]
          cases hc : (s ||| w).testBit x with
          | false => rw [bf1]; exact fin false (by rw [hbv, hc])
          | true => rw [bt1]; exact fin true (by rw [hbv, hc])
theorem o_best {h now tnn tw ts : Nat → Int32} {nr nd nc na nw : Nat} (hH : HH h nr nd nc na nw) (hL : ∀ a, a < na → tnn a = h (27 + 4 * a) ∧ tw a = h (27 + 4 * a + 1) ∧ ts a = h (27 + 4 * a + 3)) (v1 v2 : Int32) : ∃ r, f_X7_bestActs (nI na) tnn tw ts (rowOf now) v1 v2 = some r ∧ f_X8_bestActs h now v1 v2 = some r := by
  obtain ⟨e0, e1, e2, e3, e4⟩ := hH.1
  obtain ⟨hnr, hnd, hnc, hna, hnw⟩ := hH.2.1
  have hR : ∀ a, a < na → h (27 + 4 * a + 3) = 9 ∨ ixb (h (27 + 4 * a + 3)) a := fun a ha => (hH.2.2.2.2.1 a ha).2.2.2
  unfold f_X7_bestActs f_X8_bestActs
  have ei : f_X8_in v1.toInt64 0 99 = some (b2i (rg v1 0 99)) := in_rg (by decide) (by decide)
  have ew : f_X7_within v1 0 99 = some (b2i (rg v1 0 99)) := wt_rg (by decide) (by decide)
  have ei2 : f_X8_in v2.toInt64 0 1 = some (b2i (rg v2 0 1)) := in_rg (by decide) (by decide)
  have ew2 : f_X7_within v2 0 1 = some (b2i (rg v2 0 1)) := wt_rg (by decide) (by decide)
  rw [ei, ew, ei2, ew2, Option.bind_some, Option.bind_some, Option.bind_some, Option.bind_some]
  cases c1 : rg v1 0 99 with
  | false => exact ⟨-1, by rw [bf0], by rw [bf0]⟩
  | true =>
    rw [bt0, bt0]
    cases c2 : rg v2 0 1 with
    | false => exact ⟨-1, by rw [bf0], by rw [bf0]⟩
    | true =>
      rw [bt0, bt0, rdL (by omega) (by omega), Option.bind_some]
      have eb : ∀ v : Int32, f_X8_bits now 30 2 (h (OfNat.ofNat 3)) v = some (nI (mk_ (fun i => decide (now (30 + 2 * i) = v)) na)) := fun v => by
        show f_X8_bits now (nI 30) (nI 2) (h 3) v = _
        rw [e3]
        exact m_bits hna (fun k hk => by omega)
      rw [eb, Option.bind_some, Option.bind_some, eb, Option.bind_some]
      have hp := p64 hna
      have loop : ∀ (q s k : Nat), s + q = 2 ^ na → q < k → ∀ v3 v4 v5 : Int32, ∃ x, f_X7_bestActs_32 (nI na) tnn tw ts (rowOf now) v1 v2 k v3 v4 v5 (nI s) = some x ∧ f_X8_bestActs_70 h now v1 v2 k v3 v4 v5 (nI (mk_ (fun i => decide (now (30 + 2 * i) = 2)) na)) (nI (mk_ (fun i => decide (now (30 + 2 * i) = 2)) na) ||| nI (mk_ (fun i => decide (now (30 + 2 * i) = 3)) na)) (nI s) = some x := by
        intro q
        induction q with
        | zero =>
          intro s k hs hk v3 v4 v5
          obtain ⟨k, rfl⟩ : ∃ z, k = z + 1 := ⟨k - 1, by omega⟩
          have ex : (1 : Int32) <<< (h (OfNat.ofNat 3) &&& 31) = nI (2 ^ na) := by
            show (1 : Int32) <<< (h 3 &&& 31) = _
            rw [e3]; exact shl_7 na (by omega)
          have hle : nI (2 ^ na) ≤ nI s := (nI_leI (by omega) (by omega)).mpr (by omega)
          rw [f_X7_bestActs_32, f_X8_bestActs_70, rdL (by omega) (by omega), Option.bind_some, shl_7 na (by omega), ex, if_pos hle, if_pos hle]
          by_cases d : v2 = 0
          · rw [if_pos d]; exact ⟨_, rfl, rfl⟩
          · rw [if_neg d]; exact ⟨_, rfl, rfl⟩
        | succ q ih =>
          intro s k hs hk v3 v4 v5
          obtain ⟨k, rfl⟩ : ∃ z, k = z + 1 := ⟨k - 1, by omega⟩
          have ex : (1 : Int32) <<< (h (OfNat.ofNat 3) &&& 31) = nI (2 ^ na) := by
            show (1 : Int32) <<< (h 3 &&& 31) = _
            rw [e3]; exact shl_7 na (by omega)
          have hle : ¬ nI (2 ^ na) ≤ nI s := fun z => by have := (nI_leI (by omega) (by omega)).mp z; omega
          have hs64 : s < 64 := by omega
          have hbit : ∀ j, na ≤ j → s.testBit j = false := fun j hj => Nat.testBit_lt_two_pow (Nat.lt_of_lt_of_le (show s < 2 ^ na by omega) (Nat.pow_le_pow_right (by decide) hj))
          have sn : sm_ (fun i => s.testBit i) tnn 6 = sm_ (fun i => s.testBit i) (fun a => h (27 + 4 * a)) na := by
            rw [sm_trunc hna (fun j h1 _ => hbit j h1)]
            exact sm_ext (fun j hj => ⟨rfl, fun _ => (hL j hj).1⟩)
          have sw : sm_ (fun i => s.testBit i) tw 6 = sm_ (fun i => s.testBit i) (fun a => h (27 + 4 * a + 1)) na := by
            rw [sm_trunc hna (fun j h1 _ => hbit j h1)]
            exact sm_ext (fun j hj => ⟨rfl, fun _ => (hL j hj).2.1⟩)
          have ih' := fun v3 v4 v5 => ih (s + 1) k (by omega) (by omega) v3 v4 v5
          clear ih
          rw [f_X7_bestActs_32, f_X8_bestActs_70, rdL (by omega) (by omega), Option.bind_some, shl_7 na (by omega), ex, if_neg hle, if_neg hle, c_sum hs64, Option.bind_some, c_sum hs64, sn, sw, c_can hna hs64 (fun a ha => (hL a ha).2.2) hR, Option.bind_some, Option.bind_some]
          unfold f_X8_bestActs_96
          have hin := fun g : Bool => m_best_in (h := h) (now := now) (na := na) (s := s) (w := mk_ (fun i => decide (now (30 + 2 * i) = 2)) na) (v1 := v1) (v2 := v2) (v3 := v3) (v4 := v4) (v5 := v5) (v7 := nI (mk_ (fun i => decide (now (30 + 2 * i) = 2)) na) ||| nI (mk_ (fun i => decide (now (30 + 2 * i) = 3)) na)) (g := g) (K := f_X8_bestActs_70 h now v1 v2 k) e3 hna hs64 (mk_64 hna) hR na 0 fl_ (by omega) (fl_lt (by omega))
          have hin' : (if nI s &&& (nI (mk_ (fun i => decide (now (30 + 2 * i) = 2)) na) ||| nI (mk_ (fun i => decide (now (30 + 2 * i) = 3)) na)) = 0 then f_X8_bestActs_107 h now v1 v2 (f_X8_bestActs_70 h now v1 v2 k) fl_ v3 v4 v5 (nI (mk_ (fun i => decide (now (30 + 2 * i) = 2)) na)) (nI (mk_ (fun i => decide (now (30 + 2 * i) = 2)) na) ||| nI (mk_ (fun i => decide (now (30 + 2 * i) = 3)) na)) (nI s) 1 0 0 0 else f_X8_bestActs_107 h now v1 v2 (f_X8_bestActs_70 h now v1 v2 k) fl_ v3 v4 v5 (nI (mk_ (fun i => decide (now (30 + 2 * i) = 2)) na)) (nI (mk_ (fun i => decide (now (30 + 2 * i) = 2)) na) ||| nI (mk_ (fun i => decide (now (30 + 2 * i) = 3)) na)) (nI s) 0 0 0 0) = f_X8_bestActs_107 h now v1 v2 (f_X8_bestActs_70 h now v1 v2 k) fl_ v3 v4 v5 (nI (mk_ (fun i => decide (now (30 + 2 * i) = 2)) na)) (nI (mk_ (fun i => decide (now (30 + 2 * i) = 2)) na) ||| nI (mk_ (fun i => decide (now (30 + 2 * i) = 3)) na)) (nI s) (b2i (decide (nI s &&& (nI (mk_ (fun i => decide (now (30 + 2 * i) = 2)) na) ||| nI (mk_ (fun i => decide (now (30 + 2 * i) = 3)) na)) = 0) && alF h s (mk_ (fun i => decide (now (30 + 2 * i) = 2)) na) 0)) (sm_ (fun i => s.testBit i) (fun a => h (27 + 4 * a + 1)) 0) (sm_ (fun i => s.testBit i) (fun a => h (27 + 4 * a)) 0) (nI 0) := by
            by_cases c : nI s &&& (nI (mk_ (fun i => decide (now (30 + 2 * i) = 2)) na) ||| nI (mk_ (fun i => decide (now (30 + 2 * i) = 3)) na)) = 0
            · rw [if_pos c, decide_eq_true c]
              rw [show (true && alF h s (mk_ (fun i => decide (now (30 + 2 * i) = 2)) na) 0) = true from rfl, show b2i true = 1 from rfl, show nI 0 = (0 : Int32) from rfl, show sm_ (fun i => s.testBit i) (fun a => h (27 + 4 * a + 1)) 0 = 0 from rfl, show sm_ (fun i => s.testBit i) (fun a => h (27 + 4 * a)) 0 = 0 from rfl]
            · rw [if_neg c, decide_eq_false c]
              rw [show (false && alF h s (mk_ (fun i => decide (now (30 + 2 * i) = 2)) na) 0) = false from rfl, show b2i false = 0 from rfl, show nI 0 = (0 : Int32) from rfl, show sm_ (fun i => s.testBit i) (fun a => h (27 + 4 * a + 1)) 0 = 0 from rfl, show sm_ (fun i => s.testBit i) (fun a => h (27 + 4 * a)) 0 = 0 from rfl]
          rw [hin', hin]
          clear hin hin'
          generalize sm_ (fun i => s.testBit i) (fun a => h (27 + 4 * a + 1)) na = own
          generalize sm_ (fun i => s.testBit i) (fun a => h (27 + 4 * a)) na = sum
          generalize (decide (nI s &&& (nI (mk_ (fun i => decide (now (30 + 2 * i) = 2)) na) ||| nI (mk_ (fun i => decide (now (30 + 2 * i) = 3)) na)) = 0) && alF h s (mk_ (fun i => decide (now (30 + 2 * i) = 2)) na) na) = can
          unfold f_X7_bestActs_113 f_X7_bestActs_124
          rw [addR]
          by_cases d1 : v1 < sum
          · rw [if_pos d1, if_neg (fun z => z.2.1 d1)]; exact ih' v3 v4 v5
          · rw [if_neg d1]
            cases can with
            | false => rw [bf0, if_neg (fun z => by cases z.1)]; exact ih' v3 v4 v5
            | true =>
              rw [bt0]
              by_cases d2 : v4 < own
              · rw [if_pos d2, if_pos ⟨rfl, d1, Or.inl d2⟩]; exact ih' _ _ _
              · rw [if_neg d2]
                by_cases d3 : own = v4
                · rw [if_pos d3]
                  by_cases d4 : v5 ≤ sum
                  · rw [if_pos d4, if_neg (fun z => z.2.2.elim d2 (fun y => y.2 d4))]; exact ih' v3 v4 v5
                  · rw [if_neg d4, if_pos ⟨rfl, d1, Or.inr ⟨d3, d4⟩⟩]; exact ih' _ _ _
                · rw [if_neg d3, if_neg (fun z => z.2.2.elim d2 (fun y => d3 y.1))]; exact ih' v3 v4 v5
      have l := loop (2 ^ na - 1) 1 fl_ (by have : 0 < 2 ^ na := Nat.pow_pos (by decide); omega) (fl_lt (by omega)) 0 0 0
      exact l
