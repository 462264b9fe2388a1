/-! room, falls, mark, wants, type -/
theorem and_d : ∀ x, x < 64 → ∀ y, y < 64 → nI x &&& nI y = nI (x &&& y) := by decide +kernel
theorem o_room {h now t1 t2 : Nat → Int32} {nr nd nc na nw : Nat} (hH : HH h nr nd nc na nw) (hN : NI h nr nd nc na now) (hD : ∀ d, d < nd → t1 d = h (5 + 2 * d) ∧ t2 d = h (5 + 2 * d + 1)) (v1 v2 : Int32) : ∃ r, f_X7_room (nI nr) (nI nd) (nI nc) t1 t2 (rowOf now) v1 v2 = some r ∧ f_X8_room h now v1 v2 = some r := by
  obtain ⟨e0, e1, e2, e3, e4⟩ := hH.1
  obtain ⟨hnr, hnd, hnc, hna, hnw⟩ := hH.2.1
  unfold f_X7_room f_X8_room
  rw [wt_ix (by omega), m_isRoom e0 (by omega), in_rg (by omega) (by omega)]
  simp only [Option.bind_some]
  cases c1 : ixd v1 nr with
  | false => exact ⟨-1, by rw [bf0], by rw [bf0]⟩
  | true =>
    obtain ⟨r, hrn, rfl⟩ := ixd_t c1 (by omega)
    simp only [bt0]
    have w5 : ∀ {x : Int32}, ixb x nr → ixb x 5 := fun ⟨j, hj, e⟩ => ⟨j, by omega, e⟩
    have loop : ∀ (q j k : Nat), j + q = nc → q < k → f_X8_room_30 h now (nI r) v2 k (nI (mk_ (fun i => decide (now (2 + 4 * i) = nI r)) j)) (nI (mk_ (fun i => decide (now (2 + 4 * i) = nI r) && litB now i) j)) (nI j) = (if v2 = 0 then some (now (42 + r)) else (if v2 = 1 then some (nI (mk_ (fun i => decide (now (2 + 4 * i) = nI r)) nc)) else (if v2 = 2 then some (nI (mk_ (fun i => decide (now (2 + 4 * i) = nI r) && litB now i) nc)) else some (b2i (drF h now (nI r) nd))))) := by
      intro q
      induction q with
      | zero =>
        intro j k hj hk
        obtain ⟨k, rfl⟩ : ∃ z, k = z + 1 := ⟨k - 1, by omega⟩
        have : j = nc := by omega
        subst this
        rw [f_X8_room_30, rdL (by omega) (by omega), Option.bind_some, if_pos (by show h 2 ≤ nI j; rw [e2, nI_leI (by omega) (by omega)]; exact Nat.le_refl _), addL, rd_ok (by omega) (by omega), Option.bind_some, m_isDraughty e1 hnd, Option.bind_some]
        have e : (if b2i (drF h now (nI r) nd) = 0 then some (0 : Int32) else some 1) = some (b2i (drF h now (nI r) nd)) := by cases drF h now (nI r) nd <;> rfl
        rw [e]
      | succ q ih =>
        intro j k hj hk
        obtain ⟨k, rfl⟩ : ∃ z, k = z + 1 := ⟨k - 1, by omega⟩
        have ih' := ih (j + 1) k (by omega) (by omega)
        rw [f_X8_room_30, rdL (by omega) (by omega), Option.bind_some, if_neg (by show ¬ h 2 ≤ nI j; rw [e2, nI_leI (by omega) (by omega)]; omega), m_roomOf (by omega), Option.bind_some]
        unfold f_X8_room_60 f_X8_room_90 f_X8_room_91
        rw [m_roomOf (by omega), m_isLit (by omega)]
        simp only [Option.bind_some]
        rw [← or_next (p := fun i => decide (now (2 + 4 * i) = nI r)) (k := j) (by omega) _ rfl, ← or_next (p := fun i => decide (now (2 + 4 * i) = nI r) && litB now i) (k := j) (by omega) _ rfl] at ih'
        by_cases c : now (2 + 4 * j) = nI r
        · simp only [c, if_true]
          by_cases cl : now (3 + 4 * j) = 1
          · have e5 : litB now j = true := by unfold litB; simp [cl]
            simp only [c, e5, decide_true, Bool.and_true, if_true] at ih'
            simp only [cl, decide_true, bt0, addR]
            exact ih'
          · have e5 : litB now j = false := by unfold litB; simp [cl]
            simp only [c, e5, decide_true, Bool.and_false, if_true] at ih'
            simp only [cl, decide_false, bf0, addR]
            exact ih'
        · simp only [c, decide_false, Bool.false_and] at ih'
          simp only [c, if_false, addR]
          exact ih'
    have l0 : f_X8_room_30 h now (nI r) v2 fl_ 0 0 0 = _ := loop nc 0 fl_ (by omega) (fl_lt (by omega))
    cases c2 : rg v2 0 3 with
    | false =>
      have f := fun k hk => rg_f (k := k) c2 hk (by decide)
      exact ⟨-1, by rw [if_neg (show ¬ v2 = 0 from f 0 (by decide)), if_neg (show ¬ v2 = 1 from f 1 (by decide)), if_neg (show ¬ v2 = 2 from f 2 (by decide)), if_neg (show ¬ v2 = 3 from f 3 (by decide))], by rw [bf0]⟩
    | true =>
      obtain ⟨j, -, hj, rfl⟩ := rg_t c2 (by decide)
      rw [bt0, l0]
      clear l0 loop
      match j, hj with
      | 0, _ =>
        refine ⟨now (42 + r), ?_, ?_⟩
        · rw [show nI 0 = (0 : Int32) from rfl, if_pos rfl]
          unfold f_X4_wax
          simp (disch := omega) only [addL, rd_ok, Option.bind_some, row_x]
        · rw [show nI 0 = (0 : Int32) from rfl, if_pos rfl]
      | 1, _ =>
        refine ⟨nI (mk_ (fun i => decide (now (2 + 4 * i) = nI r)) nc), ?_, ?_⟩
        · rw [show nI 1 = (1 : Int32) from rfl, if_neg (by decide), if_pos rfl, c_cand hnc, Option.bind_some]
        · rw [show nI 1 = (1 : Int32) from rfl, if_neg (by decide), if_pos rfl]
      | 2, _ =>
        refine ⟨nI (mk_ (fun i => decide (now (2 + 4 * i) = nI r) && litB now i) nc), ?_, ?_⟩
        · rw [show nI 2 = (2 : Int32) from rfl, if_neg (by decide), if_neg (by decide), if_pos rfl, c_cand hnc, Option.bind_some, rdL (by omega) (by omega), Option.bind_some]
          show some (_ &&& rowOf now 1) = _
          rw [row_1, and_d _ (mk_64 hnc) _ (mk_64 (by omega))]
          refine congrArg (fun x => some (nI x)) (mk_of (Nat.lt_of_le_of_lt Nat.and_le_left (mk_lt _ nc)) (fun k hk => ?_))
          rw [Nat.testBit_and, mk_bit hk, mk_bit (by omega)]
        · rw [show nI 2 = (2 : Int32) from rfl, if_neg (by decide), if_neg (by decide), if_pos rfl]
      | 3, _ =>
        refine ⟨b2i (drF h now (nI r) nd), ?_, ?_⟩
        · rw [show nI 3 = (3 : Int32) from rfl, if_neg (by decide), if_neg (by decide), if_neg (by decide), if_pos rfl, c_draughty hnd hD (fun d hd => ⟨w5 (hH.2.2.1 d hd).1, w5 (hH.2.2.1 d hd).2⟩), Option.bind_some, c_bit (mk_64 (by omega)) (by omega), Option.bind_some, mk_bit (by omega)]
        · rw [show nI 3 = (3 : Int32) from rfl, if_neg (by decide), if_neg (by decide), if_neg (by decide)]
      | j + 4, hj => omega
theorem o_falls {h ts : Nat → Int32} {nr nd nc na nw : Nat} (hH : HH h nr nd nc na nw) (hL : ∀ a, a < na → ts a = h (27 + 4 * a + 3)) (v1 : Int32) : ∃ r, f_X7_falls (nI na) ts v1 = some r ∧ f_X8_falls h v1 = some r := by
  have e3 : h 3 = nI na := hH.1.2.2.2.1
  have hna : na ≤ 6 := hH.2.1.2.2.2.1
  unfold f_X7_falls f_X8_falls
  rw [wt_ix (by omega), m_isAct e3 (by omega)]
  simp only [Option.bind_some]
  cases c1 : ixd v1 na with
  | false => exact ⟨-1, by rw [bf0], by rw [bf0]⟩
  | true =>
    obtain ⟨a, han, rfl⟩ := ixd_t c1 (by omega)
    simp only [bt0]
    have loop : ∀ (q j k : Nat), j + q = na → q < k → ∀ m, m < 64 → ∃ r, f_X7_falls_27 (nI na) ts (nI a) k (nI m) (nI j) = some r ∧ f_X8_falls_18 h (nI a) k (nI m) (nI j) = some r := by
      intro q
      induction q with
      | zero =>
        intro j k hj hk m hm
        obtain ⟨k, rfl⟩ : ∃ z, k = z + 1 := ⟨k - 1, by omega⟩
        have : j = na := by omega
        subst this
        rw [f_X7_falls_27, f_X8_falls_18, rdL (by omega) (by omega), Option.bind_some, if_pos ((nI_leI (by omega) (by omega)).mpr (Nat.le_refl _)), if_pos (by show h 3 ≤ nI j; rw [e3, nI_leI (by omega) (by omega)]; exact Nat.le_refl _)]
        exact ⟨_, rfl, rfl⟩
      | succ q ih =>
        intro j k hj hk m hm
        obtain ⟨k, rfl⟩ : ∃ z, k = z + 1 := ⟨k - 1, by omega⟩
        have ih' := ih (j + 1) k (by omega) (by omega)
        rw [f_X7_falls_27, f_X8_falls_18, rdL (by omega) (by omega), Option.bind_some, if_neg (by rw [nI_leI (by omega) (by omega)]; omega), if_neg (by show ¬ h 3 ≤ nI j; rw [e3, nI_leI (by omega) (by omega)]; omega)]
        unfold f_X7_falls_75 f_X8_falls_67 f_X8_falls_68
        simp (disch := omega) only [mulL, addL, addR, rd_ok, Option.bind_some]
        rw [hL j (by omega)]
        obtain ⟨-, -, -, hres⟩ := hH.2.2.2.2.1 j (by omega)
        rcases hres with h9 | ⟨s, hs, es⟩
        · rw [if_pos h9, if_pos (by rw [h9]; decide), or0_d m hm]
          exact ih' m hm
        · have h9 : ¬ nI s = 9 := fun e => by
            have := (nI_eq (a := s) (b := 9) (by omega) (by decide)).mp e
            omega
          have h9' : ¬ (9 : Int32) ≤ nI s := fun e => by
            have := (nI_leI (a := 9) (b := s) (by decide) (by omega)).mp e
            omega
          rw [es, if_neg h9, if_neg h9', c_bit hm (by omega), Option.bind_some]
          have eb : (nI m >>> (nI s &&& 31)) &&& 1 = b2i (m.testBit s) := by rw [bit_d m hm s (by omega)]; rfl
          rw [eb]
          obtain ⟨b1, -⟩ := or_bit m hm j (by omega)
          cases m.testBit s
          · rw [bf1, bf1, or0_d m hm]
            exact ih' m hm
          · rw [bt1, bt1, shl_d j (by omega), or_d m hm j (by omega)]
            exact ih' _ b1
    rw [shl_d a (by omega), addR]
    have h2 : 2 ^ a < 64 := Nat.lt_of_lt_of_le (Nat.pow_lt_pow_right (by decide) (show a < 6 by omega)) (by decide)
    exact loop (na - (a + 1)) (a + 1) fl_ (by omega) (fl_lt (by omega)) (2 ^ a) h2
theorem o_wants {w : Nat} {aw bw : Nat → Int32} (hw : w ≤ 6) (he : ∀ i, i < w → aw i = bw i ∧ ∃ l, 1 ≤ l ∧ l ≤ 60 ∧ aw i = nI l) (v1 : Int32) : ∃ (r : Int32) (w' : Nat) (aw' bw' : Nat → Int32), f_X7_wants (nI w) bw v1 = some (r, nI w', bw') ∧ f_X8_wants (nI w) aw v1 = some (r, nI w', aw') ∧ w' ≤ 6 ∧ ∀ i, i < w' → aw' i = bw' i ∧ ∃ l, 1 ≤ l ∧ l ≤ 60 ∧ aw' i = nI l := by
  unfold f_X7_wants f_X8_wants
  have ei : f_X8_in v1.toInt64 1 60 = some (b2i (rg v1 1 60)) := in_rg (by decide) (by decide)
  have ew : f_X7_within v1 1 60 = some (b2i (rg v1 1 60)) := wt_rg (by decide) (by decide)
  rw [ei, ew]
  simp only [Option.bind_some]
  cases c1 : rg v1 1 60 with
  | false => exact ⟨-1, w, aw, bw, by rw [bf0], by rw [bf0], hw, he⟩
  | true =>
    obtain ⟨l, l1, l2, rfl⟩ := rg_t c1 (by decide)
    simp only [bt0]
    by_cases c2 : w = 6
    · subst c2
      exact ⟨-3, 6, aw, bw, by rw [if_neg (by decide)], by rw [if_pos (by rfl)], by decide, he⟩
    · refine ⟨nI (w + 1), w + 1, upd aw w (nI l), upd bw w (nI l), ?_, ?_, by omega, fun i hi => ?_⟩
      · rw [if_pos (by rw [show (6 : Int32) = nI 6 from rfl, nI_ltI (by omega) (by omega)]; omega), wr_ok (by omega) (by omega), Option.bind_some, nI_1]
      · rw [if_neg (show ¬ nI w = 6 from fun q => c2 ((nI_eq (a := w) (b := 6) (by omega) (by decide)).mp q)), wr_ok (by omega) (by omega), Option.bind_some, nI_1]
      · by_cases e : i = w
        · subst e; rw [pk_us, pk_us]; exact ⟨rfl, l, l1, l2, rfl⟩
        · rw [pk_un e, pk_un e]; exact he i (by omega)
theorem byte_d : ∀ n, n < 256 → vp_nar .byte (nI n).toInt8.toInt32 = (nI n).toInt8.toInt32 := fun n _ => pk_vb _
theorem o_type {n : Nat} {at_ bt_ : Nat → Int32} (hn : n ≤ 200) (he : ∀ i, i < n → ∃ b, b < 256 ∧ at_ i = nI b ∧ bt_ i = (nI b).toInt8.toInt32) (v1 : Int32) : ∃ (r : Int32) (n' : Nat) (at' bt' : Nat → Int32), f_X7_type (nI n) bt_ v1 = some (r, nI n', bt') ∧ f_X8_type (nI n) at_ v1 = some (r, nI n', at') ∧ n' ≤ 200 ∧ ∀ i, i < n' → ∃ b, b < 256 ∧ at' i = nI b ∧ bt' i = (nI b).toInt8.toInt32 := by
  unfold f_X7_type f_X8_type
  have ei : f_X8_in v1.toInt64 0 255 = some (b2i (rg v1 0 255)) := in_rg (by decide) (by decide)
  have ew : f_X7_within v1 0 255 = some (b2i (rg v1 0 255)) := wt_rg (by decide) (by decide)
  rw [ei, ew]
  simp only [Option.bind_some]
  cases c1 : rg v1 0 255 with
  | false => exact ⟨-1, n, at_, bt_, by rw [bf0], by rw [bf0], hn, he⟩
  | true =>
    obtain ⟨l, -, l2, rfl⟩ := rg_t c1 (by decide)
    simp only [bt0]
    by_cases c2 : n = 200
    · subst c2
      exact ⟨-3, 200, at_, bt_, by rw [if_neg (by decide)], by rw [if_pos (by rfl)], by decide, he⟩
    · refine ⟨nI (n + 1), n + 1, upd at_ n (nI l), upd bt_ n ((nI l).toInt8.toInt32), ?_, ?_, by omega, fun i hi => ?_⟩
      · rw [if_pos (by rw [show (200 : Int32) = nI 200 from rfl, nI_ltI (by omega) (by omega)]; omega), wr_ok (by omega) (by omega), Option.bind_some, nI_1, byte_d l (by omega)]
      · rw [if_neg (show ¬ nI n = 200 from fun q => c2 ((nI_eq (a := n) (b := 200) (by omega) (by decide)).mp q)), wr_ok (by omega) (by omega), Option.bind_some, nI_1]
      · by_cases e : i = n
        · subst e; rw [pk_us, pk_us]; exact ⟨l, by omega, rfl, rfl⟩
        · rw [pk_un e, pk_un e]; exact he i (by omega)
theorem pcn_ext {p q : Nat → Bool} : ∀ {n : Nat}, (∀ j, j < n → p j = q j) → pcn_ p n = pcn_ q n
  | 0, _ => rfl
  | n + 1, h => by unfold pcn_; rw [pcn_ext (n := n) (fun j hj => h j (by omega)), h n (by omega)]
theorem c_litcount {h now : Nat → Int32} {nr nd nc na : Nat} (hN : NI h nr nd nc na now) (hnc : nc ≤ 6) : f_J6_bitCount_0f7a4 (rowOf now 1) = some (nI (pcn_ (fun i => decide (now (3 + 4 * i) = 1)) nc)) := by
  rw [row_1, pop_d _ (mk_64 (by omega)), mk_trunc (n := nc) (N := 6) hnc (fun j h1 h2 => by unfold litB; rw [(hN.1 j h2).2 h1]; decide), pop_mk hnc]
  rfl
theorem o_mark {h now tl : Nat → Int32} {nr nd nc na nw : Nat} (hH : HH h nr nd nc na nw) (hN : NI h nr nd nc na now) (hL : ∀ c, c < nc → tl c = h (15 + 2 * c)) (t : Int64) (v1 v2 : Int32) : ∃ r t', f_X7_mark t (nI nc) tl (rowOf now) v1 v2 = some (r, t') ∧ f_X8_mark t h now v1 v2 = some (r, t') := by
  obtain ⟨e0, e1, e2, e3, e4⟩ := hH.1
  obtain ⟨hnr, hnd, hnc, hna, hnw⟩ := hH.2.1
  unfold f_X7_mark f_X8_mark
  have ei : f_X8_in v1.toInt64 0 5 = some (b2i (rg v1 0 5)) := in_rg (by decide) (by decide)
  rw [wt_ix (by omega), m_isCandle e2 (by omega), ei]
  simp only [Option.bind_some]
  cases c1 : ixd v2 nc with
  | false =>
    refine ⟨-1000000, t, by rw [bf0], ?_⟩
    cases rg v1 0 5
    · rw [bf0]
    · rw [bt0, bf0]
  | true =>
    obtain ⟨c, hcn, rfl⟩ := ixd_t c1 (by omega)
    simp only [bt0]
    have hl6 : c < 6 := by omega
    cases c2 : rg v1 0 5 with
    | false =>
      have f := fun k hk => rg_f (k := k) c2 hk (by decide)
      exact ⟨-1000000, t, by rw [if_neg (show ¬ v1 = 0 from f 0 (by decide)), if_neg (show ¬ v1 = 1 from f 1 (by decide)), if_neg (show ¬ v1 = 2 from f 2 (by decide)), if_neg (show ¬ v1 = 3 from f 3 (by decide)), if_neg (show ¬ v1 = 4 from f 4 (by decide)), if_neg (show ¬ v1 = 5 from f 5 (by decide))], by rw [bf0]⟩
    | true =>
      obtain ⟨j, -, hj, rfl⟩ := rg_t c2 (by decide)
      rw [bt0]
      unfold f_X8_mark_83
      have x1 : rd_ h 59 (15 + 2 * nI c) = some (h (15 + 2 * c)) := by rw [mulL, addL]; exact rd_ok (by omega) (by omega)
      have kl : f_X4_left (rowOf now) (nI c) = some (now (1 + 4 * c)) := c_left hl6
      have kr : f_X4_roomOf (rowOf now) (nI c) = some (now (2 + 4 * c)) := c_roomOf hl6
      have ml : f_X8_left now (nI c) = some (now (1 + 4 * c)) := m_left hl6
      have mr : f_X8_roomOf now (nI c) = some (now (2 + 4 * c)) := m_roomOf hl6
      have kt : rd_ tl 6 (nI c) = some (h (15 + 2 * c)) := by rw [rd_ok (by omega) (by omega), hL c hcn]
      have kb : ((rd_ (rowOf now) 33 1).bind fun x2 => f_J6_bitCount_0f7a4 x2) = some (nI (pcn_ (fun i => decide (now (3 + 4 * i) = 1)) nc)) := by
        rw [rdL (by omega) (by omega), Option.bind_some]; exact c_litcount hN hnc
      have mb : ((rd_ h 59 2).bind fun x13 => f_X8_many now 3 4 x13 1) = some (nI (pcn_ (fun i => decide (now (3 + 4 * i) = 1)) nc)) := by
        rw [rdL (by omega) (by omega), Option.bind_some]
        show f_X8_many now (nI 3) (nI 4) (h 2) 1 = _
        rw [e2]; exact m_many hnc (fun k hk => by omega)
      have m0 : rd_ now 47 0 = some (now 0) := rdL (by omega) (by omega)
      have as1 : ∀ a b d : Int64, a + b = d → t + a + b = t + d := fun a b d e => by rw [Int64.add_assoc, e]
      rcases (show j = 0 ∨ j = 1 ∨ j = 2 ∨ j = 3 ∨ j = 4 ∨ j = 5 by omega) with rfl | rfl | rfl | rfl | rfl | rfl
      · clear c1 c2 hj
        refine ⟨now (1 + 4 * c), t + 1, ?_, ?_⟩
        · rw [show nI 0 = (0 : Int32) from rfl, if_pos rfl]
          unfold f_X7_candleMark
          rw [kl]
          simp only [Option.bind_some]
        · rw [show nI 0 = (0 : Int32) from rfl, if_pos rfl, x1, Option.bind_some, if_pos rfl, ml]
          simp only [Option.bind_some]
      · clear c1 c2 hj
        refine ⟨now (1 + 4 * c) + h (15 + 2 * c), t + 11, ?_, ?_⟩
        · rw [show nI 1 = (1 : Int32) from rfl, if_neg (by decide), if_pos rfl]
          unfold f_X7_tallowMark f_X7_candleMark
          rw [kl, kt]
          simp only [Option.bind_some]
          rw [as1 10 1 11 (by decide)]
        · rw [show nI 1 = (1 : Int32) from rfl, if_neg (by decide), if_pos rfl, x1, Option.bind_some, if_neg (by decide), if_pos rfl, ml]
          simp only [Option.bind_some]
      · clear c1 c2 hj
        refine ⟨now (1 + 4 * c) - now (2 + 4 * c), t + 101, ?_, ?_⟩
        · rw [show nI 2 = (2 : Int32) from rfl, if_neg (by decide), if_neg (by decide), if_pos rfl]
          unfold f_X7_beeswaxMark f_X7_candleMark
          rw [kl, kr]
          simp only [Option.bind_some]
          rw [as1 100 1 101 (by decide)]
        · rw [show nI 2 = (2 : Int32) from rfl, if_neg (by decide), if_neg (by decide), if_pos rfl, x1, Option.bind_some, if_neg (by decide), if_neg (by decide), if_pos rfl, ml, mr]
          simp only [Option.bind_some]
      · clear c1 c2 hj
        refine ⟨2 * (now (1 + 4 * c) + h (15 + 2 * c)), t + 1011, ?_, ?_⟩
        · rw [show nI 3 = (3 : Int32) from rfl, if_neg (by decide), if_neg (by decide), if_neg (by decide), if_pos rfl]
          unfold f_X7_stubMark f_X7_tallowMark f_X7_candleMark
          rw [kl, kt]
          simp only [Option.bind_some]
          rw [as1 1000 10 1010 (by decide), as1 1010 1 1011 (by decide), Int32.mul_comm]
        · rw [show nI 3 = (3 : Int32) from rfl, if_neg (by decide), if_neg (by decide), if_neg (by decide), if_pos rfl, x1, Option.bind_some, if_neg (by decide), if_neg (by decide), if_neg (by decide), if_pos rfl, ml]
          simp only [Option.bind_some]
      · clear c1 c2 hj
        refine ⟨now (1 + 4 * c) - now (2 + 4 * c) + nI (pcn_ (fun i => decide (now (3 + 4 * i) = 1)) nc), t + 10101, ?_, ?_⟩
        · rw [show nI 4 = (4 : Int32) from rfl, if_neg (by decide), if_neg (by decide), if_neg (by decide), if_neg (by decide), if_pos rfl]
          unfold f_X7_churchMark f_X7_beeswaxMark f_X7_candleMark
          rw [kl, kr]
          obtain ⟨y, y1, y2⟩ := ob_some kb
          rw [y1]
          simp only [Option.bind_some]
          rw [y2]
          simp only [Option.bind_some]
          rw [as1 10000 100 10100 (by decide), as1 10100 1 10101 (by decide)]
        · rw [show nI 4 = (4 : Int32) from rfl, if_neg (by decide), if_neg (by decide), if_neg (by decide), if_neg (by decide), if_pos rfl, x1, Option.bind_some, if_neg (by decide), if_neg (by decide), if_neg (by decide), if_neg (by decide), if_pos rfl, ml, mr]
          obtain ⟨y, y1, y2⟩ := ob_some mb
          rw [y1]
          simp only [Option.bind_some]
          rw [y2]
          simp only [Option.bind_some]
      · clear c1 c2 hj
        refine ⟨now (1 + 4 * c) + now 0, t + 100001, ?_, ?_⟩
        · rw [show nI 5 = (5 : Int32) from rfl, if_neg (by decide), if_neg (by decide), if_neg (by decide), if_neg (by decide), if_neg (by decide), if_pos rfl]
          unfold f_X7_lampMark f_X7_candleMark
          rw [kl, c_minute]
          simp only [Option.bind_some]
          rw [as1 100000 1 100001 (by decide)]
        · rw [show nI 5 = (5 : Int32) from rfl, if_neg (by decide), if_neg (by decide), if_neg (by decide), if_neg (by decide), if_neg (by decide), x1, Option.bind_some, if_neg (by decide), if_neg (by decide), if_neg (by decide), if_neg (by decide), if_neg (by decide), ml, m0]
          simp only [Option.bind_some]
