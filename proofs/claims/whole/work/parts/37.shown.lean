/-! shown -/
theorem shl_7 : ∀ j, j < 7 → (1 : Int32) <<< (nI j &&& 31) = nI (2 ^ j) := by decide +kernel
theorem p64 {n : Nat} (h : n ≤ 6) : 2 ^ n ≤ 64 := Nat.pow_le_pow_right (n := 2) (by decide) h
theorem b_mul (b : Bool) (x : Int32) : b2i b * x = if b then x else 0 := by
  cases b
  · show (0 : Int32) * x = 0; exact Int32.zero_mul
  · show (1 : Int32) * x = x; exact Int32.one_mul _
theorem c_burned_loop {now tl : Nat → Int32} {nc m : Nat} (hnc : nc ≤ 6) (hm : m < 64) : ∀ (q j k : Nat), j + q = nc → q < k → f_X4_burnedBy_4 (rowOf now) (nI nc) tl (nI m) k (sm_ (fun i => m.testBit i) (fun i => tl i - now (1 + 4 * i)) j) (nI j) = some (sm_ (fun i => m.testBit i) (fun i => tl i - now (1 + 4 * i)) nc) := by
  intro q
  induction q with
  | zero =>
    intro j k hj hk
    obtain ⟨k, rfl⟩ : ∃ z, k = z + 1 := ⟨k - 1, by omega⟩
    have : j = nc := by omega
    subst this
    rw [f_X4_burnedBy_4, if_pos ((nI_leI (by omega) (by omega)).mpr (Nat.le_refl _))]
  | succ q ih =>
    intro j k hj hk
    obtain ⟨k, rfl⟩ : ∃ z, k = z + 1 := ⟨k - 1, by omega⟩
    rw [f_X4_burnedBy_4, if_neg (by rw [nI_leI (by omega) (by omega)]; omega), c_bit hm (by omega), Option.bind_some, rd_ok (by omega) (by omega), Option.bind_some, c_left (by omega), Option.bind_some, b_mul, addR]
    exact ih (j + 1) k (by omega) (by omega)
theorem c_burned {now tl : Nat → Int32} {nc m : Nat} (hnc : nc ≤ 6) (hm : m < 64) : f_X4_burnedBy (rowOf now) (nI nc) tl (nI m) = some (sm_ (fun i => m.testBit i) (fun i => tl i - now (1 + 4 * i)) nc) := by
  unfold f_X4_burnedBy
  have l := c_burned_loop (now := now) (tl := tl) hnc hm nc 0 fl_ (by omega) (fl_lt (by omega))
  rw [show nI 0 = (0 : Int32) from rfl] at l
  exact l
theorem m_shown_in {h now : Nat → Int32} {nc m r : Nat} {v2 v3 v4 : Int32} (e2 : h 2 = nI nc) (hnc : nc ≤ 6) (hm : m < 64) (hr : r < 5) (kk : Int32 → Int32 → Int32 → Option Int32) : ∀ (q j k : Nat), j + q = nc → q < k → f_X8_shown_48 h now (nI r) v2 kk k v3 v4 (nI m) (sm_ (fun i => m.testBit i) (fun i => h (15 + 2 * i) - now (1 + 4 * i)) j) (nI j) = (if sm_ (fun i => m.testBit i) (fun i => h (15 + 2 * i) - now (1 + 4 * i)) nc = now (42 + r) then kk (v3 + 1) (if v3 = 0 then nI m else v4) (nI (m + 1)) else kk v3 v4 (nI (m + 1))) := by
  intro q
  induction q with
  | zero =>
    intro j k hj hk
    obtain ⟨k, rfl⟩ : ∃ z, k = z + 1 := ⟨k - 1, by omega⟩
    have : j = nc := by omega
    subst this
    rw [f_X8_shown_48, rdL (by omega) (by omega), Option.bind_some, if_pos (by show h 2 ≤ nI j; rw [e2, nI_leI (by omega) (by omega)]; exact Nat.le_refl _), addL, rd_ok (by omega) (by omega), Option.bind_some]
    have e10 : ¬ (1 : Int32) = 0 := by decide
    unfold f_X8_shown_123 f_X8_shown_139 f_X8_shown_141 f_X8_shown_154
    simp only [e10, if_false, if_true, addR]
    by_cases c : sm_ (fun i => m.testBit i) (fun i => h (15 + 2 * i) - now (1 + 4 * i)) j = now (42 + r)
    · rw [if_pos c, if_pos c]
      by_cases d : v3 = 0
      · rw [if_pos d, if_pos d]
      · rw [if_neg d, if_neg d]
    · rw [if_neg c, if_neg c]
      have ez : v3 + 0 = v3 := Int32.add_zero _
      rw [ez]
  | succ q ih =>
    intro j k hj hk
    obtain ⟨k, rfl⟩ : ∃ z, k = z + 1 := ⟨k - 1, by omega⟩
    have ih' := ih (j + 1) k (by omega) (by omega)
    rw [f_X8_shown_48, rdL (by omega) (by omega), Option.bind_some, if_neg (by show ¬ h 2 ≤ nI j; rw [e2, nI_leI (by omega) (by omega)]; omega)]
    have eb : (nI m >>> (nI j &&& 31)) &&& 1 = b2i (m.testBit j) := by rw [bit_d m hm j (by omega)]; rfl
    unfold f_X8_shown_95
    rw [eb, mulL, addL, rd_ok (by omega) (by omega), m_left (by omega), Option.bind_some, Option.bind_some, addR]
    rw [sm_s] at ih'
    cases hb : m.testBit j
    · rw [bf1]
      rw [hb, if_neg (by decide)] at ih'
      exact ih'
    · rw [bt1]
      rw [hb, if_pos rfl] at ih'
      exact ih'
theorem o_shown {h now tl : Nat → Int32} {nr nd nc na nw : Nat} (hH : HH h nr nd nc na nw) (hL : ∀ c, c < nc → tl c = h (15 + 2 * c)) (v1 v2 : Int32) : ∃ r, f_X7_shown (nI nr) (nI nc) tl (rowOf now) v1 v2 = some r ∧ f_X8_shown h now v1 v2 = some r := by
  obtain ⟨e0, e1, e2, e3, e4⟩ := hH.1
  obtain ⟨hnr, hnd, hnc, hna, hnw⟩ := hH.2.1
  unfold f_X7_shown f_X8_shown
  have ei : f_X8_in v2.toInt64 0 1 = some (b2i (rg v2 0 1)) := in_rg (by decide) (by decide)
  have ew : f_X7_within v2 0 1 = some (b2i (rg v2 0 1)) := wt_rg (by decide) (by decide)
  rw [wt_ix (by omega), m_isRoom e0 (by omega), Option.bind_some, Option.bind_some, ei, ew]
  cases c1 : ixd v1 nr with
  | false => exact ⟨-1, by rw [bf0], by rw [bf0]⟩
  | true =>
    obtain ⟨r, hrn, rfl⟩ := ixd_t c1 (by omega)
    rw [bt0, bt0, Option.bind_some, Option.bind_some]
    cases c2 : rg v2 0 1 with
    | false => exact ⟨-1, by rw [bf0], by rw [bf0]⟩
    | true =>
      rw [bt0, bt0]
      have hp := p64 hnc
      have loop : ∀ (q j k : Nat), j + q = 2 ^ nc → q < k → ∀ v3 v4 : Int32, ∃ x, f_X7_shown_37 (nI nr) (nI nc) tl (rowOf now) (nI r) v2 k v3 v4 (nI j) = some x ∧ f_X8_shown_29 h now (nI r) v2 k v3 v4 (nI j) = some x := by
        intro q
        induction q with
        | zero =>
          intro j k hj hk v3 v4
          obtain ⟨k, rfl⟩ : ∃ z, k = z + 1 := ⟨k - 1, by omega⟩
          rw [f_X7_shown_37, f_X8_shown_29, rdL (by omega) (by omega), Option.bind_some, shl_7 nc (by omega)]
          have ex : (1 : Int32) <<< (h (OfNat.ofNat 2) &&& 31) = nI (2 ^ nc) := by
            show (1 : Int32) <<< (h 2 &&& 31) = _
            rw [e2]; exact shl_7 nc (by omega)
          have hle : nI (2 ^ nc) ≤ nI j := (nI_leI (by omega) (by omega)).mpr (by omega)
          rw [ex, if_pos hle, if_pos hle]
          by_cases d : v2 = 0
          · rw [if_pos d]; exact ⟨_, rfl, rfl⟩
          · rw [if_neg d]; exact ⟨_, rfl, rfl⟩
        | succ q ih =>
          intro j k hj hk v3 v4
          obtain ⟨k, rfl⟩ : ∃ z, k = z + 1 := ⟨k - 1, by omega⟩
          rw [f_X7_shown_37, f_X8_shown_29, rdL (by omega) (by omega), Option.bind_some, shl_7 nc (by omega)]
          have ex : (1 : Int32) <<< (h (OfNat.ofNat 2) &&& 31) = nI (2 ^ nc) := by
            show (1 : Int32) <<< (h 2 &&& 31) = _
            rw [e2]; exact shl_7 nc (by omega)
          have hle : ¬ nI (2 ^ nc) ≤ nI j := by rw [nI_leI (by omega) (by omega)]; omega
          rw [ex, if_neg hle, if_neg hle, c_burned hnc (by omega), Option.bind_some]
          unfold f_X4_wax f_X7_shown_82 f_X7_shown_87
          rw [addL, rd_ok (by omega) (by omega), Option.bind_some, Option.bind_some, row_x now (by omega)]
          have hin := m_shown_in (h := h) (now := now) (nc := nc) (m := j) (r := r) (v2 := v2) (v3 := v3) (v4 := v4) e2 hnc (by omega) (by omega) (f_X8_shown_29 h now (nI r) v2 k) nc 0 fl_ (by omega) (fl_lt (by omega))
          rw [show nI 0 = (0 : Int32) from rfl, show sm_ (fun i => j.testBit i) (fun i => h (15 + 2 * i) - now (1 + 4 * i)) 0 = 0 from rfl] at hin
          rw [hin]
          have es : sm_ (fun i => j.testBit i) (fun i => tl i - now (1 + 4 * i)) nc = sm_ (fun i => j.testBit i) (fun i => h (15 + 2 * i) - now (1 + 4 * i)) nc := sm_ext (fun i hi => ⟨rfl, fun _ => by rw [hL i hi]⟩)
          rw [es]
          simp only [addR]
          by_cases c : sm_ (fun i => j.testBit i) (fun i => h (15 + 2 * i) - now (1 + 4 * i)) nc = now (42 + r)
          · rw [if_pos c, if_pos c]
            by_cases d : v3 = 0
            · rw [if_pos d, if_pos d]; exact ih (j + 1) k (by omega) (by omega) _ _
            · rw [if_neg d, if_neg d]; exact ih (j + 1) k (by omega) (by omega) _ _
          · rw [if_neg c, if_neg c]; exact ih (j + 1) k (by omega) (by omega) _ _
      have l := loop (2 ^ nc) 0 fl_ (by omega) (fl_lt (by omega)) 0 (-9)
      rw [show nI 0 = (0 : Int32) from rfl] at l
      exact l
