/-! room, falls, mark, wants, type -/
theorem and_d : ∀ x, x < 64 → ∀ y, y < 64 → nI x &&& nI y = nI (x &&& y) := by decide +kernel
theorem o_room {h now t1 t2 : Nat → Int32} {nr nd nc na nw : Nat} (hH : HH h nr nd nc na nw) (hN : NI h nr nd nc na now) (hD : ∀ d, d < nd → t1 d = h (5 + 2 * d) ∧ t2 d = h (5 + 2 * d + 1)) (v1 v2 : Int32) : ∃ r, f_X7_room (nI nr) (nI nd) (nI nc) t1 t2 (rowOf now) v1 v2 = some r ∧ f_X8_room h now v1 v2 = some r := by
  obtain ⟨e0, e1, e2, e3, e4⟩ := hH.1
  obtain ⟨hnr, hnd, hnc, hna, hnw⟩ := hH.2.1
  unfold f_X7_room f_X8_room
  rw [wt_ix (by omega), m_isRoom e0 (by omega), in_rg (by omega) (by omega)]
  simp only [Option.bind_some]
  cases c1 : ixd v1 nr with
  | false => exact ⟨-1, by rw [bf0], by rw [bf0]⟩
  | true =>
    obtain ⟨r, hrn, rfl⟩ := ixd_t c1 (by omega)
    simp only [bt0]
    have w5 : ∀ {x : Int32}, ixb x nr → ixb x 5 := fun ⟨j, hj, e⟩ => ⟨j, by omega, e⟩
    have loop : ∀ (q j k : Nat), j + q = nc → q < k → f_X8_room_30 h now (nI r) v2 k (nI (mk_ (fun i => decide (now (2 + 4 * i) = nI r)) j)) (nI (mk_ (fun i => decide (now (2 + 4 * i) = nI r) && litB now i) j)) (nI j) = (if v2 = 0 then some (now (42 + r)) else (if v2 = 1 then some (nI (mk_ (fun i => decide (now (2 + 4 * i) = nI r)) nc)) else (if v2 = 2 then some (nI (mk_ (fun i => decide (now (2 + 4 * i) = nI r) && litB now i) nc)) else some (b2i (drF h now (nI r) nd))))) := by
      intro q
      induction q with
      | zero =>
        intro j k hj hk
        obtain ⟨k, rfl⟩ : ∃ z, k = z + 1 := ⟨k - 1, by omega⟩
        have : j = nc := by omega
        subst this
        rw [f_X8_room_30, rdL (by omega) (by omega), Option.bind_some, if_pos (by show h 2 ≤ nI j; rw [e2, nI_leI (by omega) (by omega)]; exact Nat.le_refl _), addL, rd_ok (by omega) (by omega), Option.bind_some, m_isDraughty e1 hnd, Option.bind_some]
        have e : (if b2i (drF h now (nI r) nd) = 0 then some (0 : Int32) else some 1) = some (b2i (drF h now (nI r) nd)) := by cases drF h now (nI r) nd <;> rfl
        rw [e]
      | succ q ih =>
        intro j k hj hk
        obtain ⟨k, rfl⟩ : ∃ z, k = z + 1 := ⟨k - 1, by omega⟩
        have ih' := ih (j + 1) k (by omega) (by omega)
        rw [f_X8_room_30, rdL (by omega) (by omega), Option.bind_some, if_neg (by show ¬ h 2 ≤ nI j; rw [e2, nI_leI (by omega) (by omega)]; omega), m_roomOf (by omega), Option.bind_some]
        unfold f_X8_room_60 f_X8_room_90 f_X8_room_91
        rw [m_roomOf (by omega), m_isLit (by omega)]
        simp only [Option.bind_some]
        rw [← or_next (p := fun i => decide (now (2 + 4 * i) = nI r)) (k := j) (by omega) _ rfl, ← or_next (p := fun i => decide (now (2 + 4 * i) = nI r) && litB now i) (k := j) (by omega) _ rfl] at ih'
        by_cases c : now (2 + 4 * j) = nI r
        · simp only [c, if_true]
          by_cases cl : now (3 + 4 * j) = 1
          · have e5 : litB now j = true := by unfold litB; simp [cl]
            simp only [c, e5, decide_true, Bool.and_true, if_true] at ih'
            simp only [cl, decide_true, bt0, addR]
            exact ih'
          · have e5 : litB now j = false := by unfold litB; simp [cl]
            simp only [c, e5, decide_true, Bool.and_false, if_true] at ih'
            simp only [cl, decide_false, bf0, addR]
            exact ih'
        · simp only [c, decide_false, Bool.false_and] at ih'
          simp only [c, if_false, addR]
          exact ih'
    have l0 : f_X8_room_30 h now (nI r) v2 fl_ 0 0 0 = _ := loop nc 0 fl_ (by omega) (fl_lt (by omega))
    cases c2 : rg v2 0 3 with
    | false =>
      have f := fun k hk => rg_f (k := k) c2 hk (by decide)
      exact ⟨-1, by rw [if_neg (show ¬ v2 = 0 from f 0 (by decide)), if_neg (show ¬ v2 = 1 from f 1 (by decide)), if_neg (show ¬ v2 = 2 from f 2 (by decide)), if_neg (show ¬ v2 = 3 from f 3 (by decide))], by rw [bf0]⟩
    | true =>
      obtain ⟨j, -, hj, rfl⟩ := rg_t c2 (by decide)
      rw [bt0, l0]
      match j, hj with
      | 0, _ =>
        refine ⟨now (42 + r), ?_, ?_⟩
        · rw [show nI 0 = (0 : Int32) from rfl, if_pos rfl]
          unfold f_X4_wax
          simp (disch := omega) only [addL, rd_ok, Option.bind_some, row_x]
        · rw [show nI 0 = (0 : Int32) from rfl, if_pos rfl]
      | 1, _ =>
        refine ⟨nI (mk_ (fun i => decide (now (2 + 4 * i) = nI r)) nc), ?_, ?_⟩
        · rw [show nI 1 = (1 : Int32) from rfl, if_neg (by decide), if_pos rfl, c_cand hnc, Option.bind_some]
        · rw [show nI 1 = (1 : Int32) from rfl, if_neg (by decide), if_pos rfl]
      | 2, _ =>
        refine ⟨nI (mk_ (fun i => decide (now (2 + 4 * i) = nI r) && litB now i) nc), ?_, ?_⟩
        · rw [show nI 2 = (2 : Int32) from rfl, if_neg (by decide), if_neg (by decide), if_pos rfl, c_cand hnc, Option.bind_some, rdL (by omega) (by omega), Option.bind_some]
          show some (_ &&& rowOf now 1) = _
          rw [row_1, and_d _ (mk_64 hnc) _ (mk_64 (by omega))]
          refine congrArg (fun x => some (nI x)) (mk_of (Nat.lt_of_le_of_lt Nat.and_le_left (mk_lt _ nc)) (fun k hk => ?_))
          rw [Nat.testBit_and, mk_bit hk, mk_bit (by omega)]
        · rw [show nI 2 = (2 : Int32) from rfl, if_neg (by decide), if_neg (by decide), if_pos rfl]
      | 3, _ =>
        refine ⟨b2i (drF h now (nI r) nd), ?_, ?_⟩
        · rw [show nI 3 = (3 : Int32) from rfl, if_neg (by decide), if_neg (by decide), if_neg (by decide), if_pos rfl, c_draughty hnd hD (fun d hd => ⟨w5 (hH.2.2.1 d hd).1, w5 (hH.2.2.1 d hd).2⟩), Option.bind_some, c_bit (mk_64 (by omega)) (by omega), Option.bind_some, mk_bit (by omega)]
        · rw [show nI 3 = (3 : Int32) from rfl, if_neg (by decide), if_neg (by decide), if_neg (by decide)]
      | j + 4, hj => omega
theorem o_falls {h ts : Nat → Int32} {nr nd nc na nw : Nat} (hH : HH h nr nd nc na nw) (hL : ∀ a, a < na → ts a = h (27 + 4 * a + 3)) (v1 : Int32) : ∃ r, f_X7_falls (nI na) ts v1 = some r ∧ f_X8_falls h v1 = some r := by
  have e3 : h 3 = nI na := hH.1.2.2.2.1
  have hna : na ≤ 6 := hH.2.1.2.2.2.1
  unfold f_X7_falls f_X8_falls
  rw [wt_ix (by omega), m_isAct e3 (by omega)]
  simp only [Option.bind_some]
  cases c1 : ixd v1 na with
  | false => exact ⟨-1, by rw [bf0], by rw [bf0]⟩
  | true =>
    obtain ⟨a, han, rfl⟩ := ixd_t c1 (by omega)
    simp only [bt0]
    have loop : ∀ (q j k : Nat), j + q = na → q < k → ∀ m, m < 64 → ∃ r, f_X7_falls_27 (nI na) ts (nI a) k (nI m) (nI j) = some r ∧ f_X8_falls_18 h (nI a) k (nI m) (nI j) = some r := by
      intro q
      induction q with
      | zero =>
        intro j k hj hk m hm
        obtain ⟨k, rfl⟩ : ∃ z, k = z + 1 := ⟨k - 1, by omega⟩
        have : j = na := by omega
        subst this
        rw [f_X7_falls_27, f_X8_falls_18, rdL (by omega) (by omega), Option.bind_some, if_pos ((nI_leI (by omega) (by omega)).mpr (Nat.le_refl _)), if_pos (by show h 3 ≤ nI j; rw [e3, nI_leI (by omega) (by omega)]; exact Nat.le_refl _)]
        exact ⟨_, rfl, rfl⟩
      | succ q ih =>
        intro j k hj hk m hm
        obtain ⟨k, rfl⟩ : ∃ z, k = z + 1 := ⟨k - 1, by omega⟩
        have ih' := ih (j + 1) k (by omega) (by omega)
        rw [f_X7_falls_27, f_X8_falls_18, rdL (by omega) (by omega), Option.bind_some, if_neg (by rw [nI_leI (by omega) (by omega)]; omega), if_neg (by show ¬ h 3 ≤ nI j; rw [e3, nI_leI (by omega) (by omega)]; omega)]
        unfold f_X7_falls_75 f_X8_falls_67 f_X8_falls_68
        simp (disch := omega) only [mulL, addL, addR, rd_ok, Option.bind_some]
        rw [hL j (by omega)]
        obtain ⟨-, -, -, hres⟩ := hH.2.2.2.2.1 j (by omega)
        rcases hres with h9 | ⟨s, hs, es⟩
        · rw [if_pos h9, if_pos (by rw [h9]; decide), or0_d m hm]
          exact ih' m hm
        · have h9 : ¬ nI s = 9 := fun e => by
            have := (nI_eq (a := s) (b := 9) (by omega) (by decide)).mp e
            omega
          have h9' : ¬ (9 : Int32) ≤ nI s := fun e => by
            have := (nI_leI (a := 9) (b := s) (by decide) (by omega)).mp e
            omega
          rw [es, if_neg h9, if_neg h9', c_bit hm (by omega), Option.bind_some]
          have eb : (nI m >>> (nI s &&& 31)) &&& 1 = b2i (m.testBit s) := by rw [bit_d m hm s (by omega)]; rfl
          rw [eb]
          obtain ⟨b1, -⟩ := or_bit m hm j (by omega)
          cases m.testBit s
          · rw [bf1, bf1, or0_d m hm]
            exact ih' m hm
          · rw [bt1, bt1, shl_d j (by omega), or_d m hm j (by omega)]
            exact ih' _ b1
    rw [shl_d a (by omega), addR]
    have h2 : 2 ^ a < 64 := Nat.lt_of_lt_of_le (Nat.pow_lt_pow_right (by decide) (show a < 6 by omega)) (by decide)
    exact loop (na - (a + 1)) (a + 1) fl_ (by omega) (fl_lt (by omega)) (2 ^ a) h2
theorem o_wants {w : Nat} {aw bw : Nat → Int32} (hw : w ≤ 6) (he : ∀ i, i < w → aw i = bw i ∧ ∃ l, 1 ≤ l ∧ l ≤ 60 ∧ aw i = nI l) (v1 : Int32) : ∃ (r : Int32) (w' : Nat) (aw' bw' : Nat → Int32), f_X7_wants (nI w) bw v1 = some (r, nI w', bw') ∧ f_X8_wants (nI w) aw v1 = some (r, nI w', aw') ∧ w' ≤ 6 ∧ ∀ i, i < w' → aw' i = bw' i ∧ ∃ l, 1 ≤ l ∧ l ≤ 60 ∧ aw' i = nI l := by
  unfold f_X7_wants f_X8_wants
  have ei : f_X8_in v1.toInt64 1 60 = some (b2i (rg v1 1 60)) := in_rg (by decide) (by decide)
  have ew : f_X7_within v1 1 60 = some (b2i (rg v1 1 60)) := wt_rg (by decide) (by decide)
  rw [ei, ew]
  simp only [Option.bind_some]
  cases c1 : rg v1 1 60 with
  | false => exact ⟨-1, w, aw, bw, by rw [bf0], by rw [bf0], hw, he⟩
  | true =>
    obtain ⟨l, l1, l2, rfl⟩ := rg_t c1 (by decide)
    simp only [bt0]
    by_cases c2 : w = 6
    · subst c2
      exact ⟨-3, 6, aw, bw, by rw [if_neg (by decide)], by rw [if_pos (by rfl)], by decide, he⟩
    · refine ⟨nI (w + 1), w + 1, upd aw w (nI l), upd bw w (nI l), ?_, ?_, by omega, fun i hi => ?_⟩
      · rw [if_pos (by rw [show (6 : Int32) = nI 6 from rfl, nI_ltI (by omega) (by omega)]; omega), wr_ok (by omega) (by omega), Option.bind_some, nI_1]
      · rw [if_neg (fun q => c2 ((nI_eq (a := w) (b := 6) (by omega) (by decide)).mp q)), wr_ok (by omega) (by omega), Option.bind_some, nI_1]
      · by_cases e : i = w
        · subst e; rw [pk_us, pk_us]; exact ⟨rfl, l, l1, l2, rfl⟩
        · rw [pk_un e, pk_un e]; exact he i (by omega)
