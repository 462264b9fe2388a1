theorem h71 (a_txt : Nat → Int32) (k : Nat) (v1 : Int32) (x_bytes : Int32) (t_rooms : Int32) (t_doors : Int32) (t_candles : Int32) (t_acts : Int32) (t_windBits : Int32) (ta_oneSide : Nat → Int32) (ta_otherSide : Nat → Int32) (ta_length : Nat → Int32) (ta_candleRoom : Nat → Int32) (ta_needs : Nat → Int32) (ta_worth : Nat → Int32) (ta_actRoom : Nat → Int32) (ta_restsOn : Nat → Int32) (ta_wind : Nat → Int32) (r_place : Int32) (r_size : Int32) (r_at : Int32) (r_kind : Int32) (r_value : Int32) (d_rooms : Int32) (d_doors : Int32) (d_candles : Int32) (d_acts : Int32) (d_windBits : Int32) (da_oneSide : Nat → Int32) (da_otherSide : Nat → Int32) (da_length : Nat → Int32) (da_candleRoom : Nat → Int32) (da_needs : Nat → Int32) (da_worth : Nat → Int32) (da_actRoom : Nat → Int32) (da_restsOn : Nat → Int32) (da_wind : Nat → Int32) (n_row : Nat → Int32) (p_size : Int32) (i_kept : Int32) (j_kept : Int32) (b_pieces : Int32) : f_X7_house_71 a_txt (k + 3) v1 0 x_bytes t_rooms t_doors t_candles t_acts t_windBits ta_oneSide ta_otherSide ta_length ta_candleRoom ta_needs ta_worth ta_actRoom ta_restsOn ta_wind r_place r_size r_at r_kind r_value d_rooms d_doors d_candles d_acts d_windBits da_oneSide da_otherSide da_length da_candleRoom da_needs da_worth da_actRoom da_restsOn da_wind n_row p_size i_kept j_kept b_pieces = some (v1, x_bytes, t_rooms, t_doors, t_candles, t_acts, t_windBits, ta_oneSide, ta_otherSide, ta_length, ta_candleRoom, ta_needs, ta_worth, ta_actRoom, ta_restsOn, ta_wind, r_place, r_size, r_at, r_kind, r_value, d_rooms, d_doors, d_candles, d_acts, d_windBits, da_oneSide, da_otherSide, da_length, da_candleRoom, da_needs, da_worth, da_actRoom, da_restsOn, da_wind, n_row, p_size, 0, 0, b_pieces) := by
  rw [f_X7_house_71, if_neg (show ¬ (2 : Int32) ≤ 0 by decide), if_pos rfl, f_X7_house_71, if_neg (show ¬ (2 : Int32) ≤ 0 + 1 by decide), if_neg (show ¬ (0 + 1 : Int32) = 0 by decide), if_pos (show (0 + 1 : Int32) = 1 by decide), f_X7_house_71, if_pos (show (2 : Int32) ≤ 0 + 1 + 1 by decide)]
set_option maxHeartbeats 4000000 in
theorem o_house {x_bytes : Int32} {x_traced : Int64} {a_txt : Nat → Int32} {t_rooms : Int32} {t_doors : Int32} {t_candles : Int32} {t_acts : Int32} {t_windBits : Int32} {ta_oneSide : Nat → Int32} {ta_otherSide : Nat → Int32} {ta_length : Nat → Int32} {ta_candleRoom : Nat → Int32} {ta_needs : Nat → Int32} {ta_worth : Nat → Int32} {ta_actRoom : Nat → Int32} {ta_restsOn : Nat → Int32} {ta_wind : Nat → Int32} {r_place : Int32} {r_size : Int32} {r_at : Int32} {r_kind : Int32} {r_value : Int32} {d_rooms : Int32} {d_doors : Int32} {d_candles : Int32} {d_acts : Int32} {d_windBits : Int32} {da_oneSide : Nat → Int32} {da_otherSide : Nat → Int32} {da_length : Nat → Int32} {da_candleRoom : Nat → Int32} {da_needs : Nat → Int32} {da_worth : Nat → Int32} {da_actRoom : Nat → Int32} {da_restsOn : Nat → Int32} {da_wind : Nat → Int32} {n_row : Nat → Int32} {p_size : Int32} {p_next : Int32} {p_rows : Nat → Nat → Int32} {i_kept : Int32} {i_row : Nat → Int32} {ip_size : Int32} {ip_next : Int32} {ip_rows : Nat → Nat → Int32} {j_kept : Int32} {j_row : Nat → Int32} {jp_size : Int32} {jp_next : Int32} {jp_rows : Nat → Nat → Int32} {q_row : Nat → Int32} {b_pieces : Int32} {ba_wanted : Nat → Int32} {g_size : Int32} {g_at : Int32} {g_begin : Int32} {g_token : Int32} {g_told : Int32} {g_undos : Int32} {g_wanted : Int32} {g_trace : Int64} {a_text : Nat → Int32} {a_read : Nat → Int32} {a_house : Nat → Int32} {a_now : Nat → Int32} {a_undone : Nat → Int32} {a_want : Nat → Int32} {a_kept : Nat → Int32} (hI : INV x_bytes x_traced a_txt t_rooms t_doors t_candles t_acts t_windBits ta_oneSide ta_otherSide ta_length ta_candleRoom ta_needs ta_worth ta_actRoom ta_restsOn ta_wind n_row p_size p_next p_rows i_kept i_row ip_size ip_next ip_rows j_kept j_row jp_size jp_next jp_rows q_row b_pieces ba_wanted g_size g_undos g_wanted g_trace a_text a_house a_now a_undone a_want a_kept) : ∃ q13 q14, f_X7_house x_bytes a_txt t_rooms t_doors t_candles t_acts t_windBits ta_oneSide ta_otherSide ta_length ta_candleRoom ta_needs ta_worth ta_actRoom ta_restsOn ta_wind r_place r_size r_at r_kind r_value d_rooms d_doors d_candles d_acts d_windBits da_oneSide da_otherSide da_length da_candleRoom da_needs da_worth da_actRoom da_restsOn da_wind n_row p_size i_kept j_kept b_pieces = some q13 ∧ f_X8_house g_size g_at g_begin g_token g_told g_undos g_wanted a_text a_read a_house a_now a_kept = some q14 ∧ q13.1 = q14.1 ∧ INV q13.2.1 x_traced a_txt q13.2.2.1 q13.2.2.2.1 q13.2.2.2.2.1 q13.2.2.2.2.2.1 q13.2.2.2.2.2.2.1 q13.2.2.2.2.2.2.2.1 q13.2.2.2.2.2.2.2.2.1 q13.2.2.2.2.2.2.2.2.2.1 q13.2.2.2.2.2.2.2.2.2.2.1 q13.2.2.2.2.2.2.2.2.2.2.2.1 q13.2.2.2.2.2.2.2.2.2.2.2.2.1 q13.2.2.2.2.2.2.2.2.2.2.2.2.2.1 q13.2.2.2.2.2.2.2.2.2.2.2.2.2.2.1 q13.2.2.2.2.2.2.2.2.2.2.2.2.2.2.2.1 q13.2.2.2.2.2.2.2.2.2.2.2.2.2.2.2.2.2.2.2.2.2.2.2.2.2.2.2.2.2.2.2.2.2.2.2.1 q13.2.2.2.2.2.2.2.2.2.2.2.2.2.2.2.2.2.2.2.2.2.2.2.2.2.2.2.2.2.2.2.2.2.2.2.2.1 p_next p_rows q13.2.2.2.2.2.2.2.2.2.2.2.2.2.2.2.2.2.2.2.2.2.2.2.2.2.2.2.2.2.2.2.2.2.2.2.2.2.1 i_row ip_size ip_next ip_rows q13.2.2.2.2.2.2.2.2.2.2.2.2.2.2.2.2.2.2.2.2.2.2.2.2.2.2.2.2.2.2.2.2.2.2.2.2.2.2.1 j_row jp_size jp_next jp_rows q_row q13.2.2.2.2.2.2.2.2.2.2.2.2.2.2.2.2.2.2.2.2.2.2.2.2.2.2.2.2.2.2.2.2.2.2.2.2.2.2.2 ba_wanted q14.2.1 q14.2.2.2.2.2.2.1 q14.2.2.2.2.2.2.2.1 g_trace a_text q14.2.2.2.2.2.2.2.2.2.1 q14.2.2.2.2.2.2.2.2.2.2.1 a_undone a_want q14.2.2.2.2.2.2.2.2.2.2.2 := by
  obtain ⟨n, nr, nd, nc, na, nw, sz, nx, w, ⟨rfl, rfl, rfl, rfl, rfl, rfl, rfl, rfl, rfl⟩, hX, hH, hR, hS, hJ, hJ2, hq, hW⟩ := hI
  have hX0 := hX
  obtain ⟨hn, hx⟩ := hX
  have hT : TX n (fun i => tn (a_text i)) a_text a_txt := ⟨hn, fun i hi => by
    obtain ⟨b, b1, b2, b3⟩ := hx i hi
    have e : tn (a_text i) = b := by rw [b2, tn_nI (by omega)]
    show tn (a_text i) < 256 ∧ a_text i = nI (tn (a_text i)) ∧ a_txt i = by8 (tn (a_text i))
    rw [e]
    exact ⟨b1, b2, b3⟩⟩
  obtain ⟨r0, hpl, hz⟩ := m_plain (r := a_read)
  have hD0 : DR r0 0 0 0 0 0 da_oneSide da_otherSide da_length da_candleRoom da_needs da_worth da_actRoom da_restsOn da_wind := by
    refine ⟨⟨⟨hz 0 (by decide), hz 1 (by decide), hz 2 (by decide), hz 3 (by decide), hz 4 (by decide)⟩, ⟨by decide, by decide, by decide, by decide, by decide⟩, fun d hd => absurd hd (by omega), fun d hd => absurd hd (by omega), fun d hd => absurd hd (by omega), fun d hd => absurd hd (by omega)⟩, ⟨⟨rfl, rfl, rfl, rfl, rfl⟩, fun d hd => absurd hd (by omega), fun d hd => absurd hd (by omega), fun d hd => absurd hd (by omega), fun d hd => absurd hd (by omega)⟩⟩
  obtain ⟨r, pl, a', k', v', nr', nd', nc', na', nw', o', s', l', cr', ne', wo', ar', re', wi', h', ga, gb', gt', gd', E, F⟩ := both_read (x1 := nI n) (und := nI sz) (wan := nI w) (hou := a_house) (now := a_now) (kep := a_kept) hT (n + 1) 0 0 fl_ fl_ r_place r_kind r_value g_begin g_token g_told 0 0 0 0 0 da_oneSide da_otherSide da_length da_candleRoom da_needs da_worth da_actRoom da_restsOn da_wind r0 (by omega) (by omega) (Nat.le_of_lt (fl_lt (by omega))) (Nat.le_of_lt (fl_lt (by omega))) (by omega) hD0
  have E' : f_X6_read r_place r_size r_at r_kind r_value a_txt d_rooms d_doors d_candles d_acts d_windBits da_oneSide da_otherSide da_length da_candleRoom da_needs da_worth da_actRoom da_restsOn da_wind (nI n) = some (r, nI pl, nI n, a', k', v', nI nr', nI nd', nI nc', nI na', nI nw', o', s', l', cr', ne', wo', ar', re', wi') := by
    unfold f_X6_read f_X2_empty
    rw [Option.bind_some, if_neg (show ¬ (200 : Int32) < nI n from fun z => by rw [show (200 : Int32) = nI 200 from rfl] at z; have := (nI_ltI (by decide) (by omega)).mp z; omega)]
    exact E
  rcases F with ⟨c, hc, rfl, hD, F⟩ | ⟨rfl, F⟩
  · obtain ⟨hH', hR'⟩ := hD
    have hnc' : nc' ≤ 6 := hH'.2.1.2.2.1
    have e2 : h' 2 = nI nc' := hH'.1.2.2.1
    have hx5 : ∀ k, k < 59 → cpx h' a_house 0 59 k = h' k := fun k hk => by
      have := cpx_in (f := h') (g := a_house) (b := 0) (n := 59) hk
      rw [Nat.zero_add] at this
      exact this
    obtain ⟨l0, l1, l2, l3, l4⟩ := hH'.2.1
    obtain ⟨-, t1, t2, t3, t4⟩ := hR'
    have T1 : ∀ d, d < nd' → va_cpy o' ta_oneSide 0 0 5 d = cpx h' a_house 0 59 (5 + 2 * d) ∧ va_cpy s' ta_otherSide 0 0 5 d = cpx h' a_house 0 59 (5 + 2 * d + 1) := fun d hd => by
      rw [cpy_at (by omega), cpy_at (by omega), hx5 _ (by omega), hx5 _ (by omega)]; exact t1 d hd
    have T2 : ∀ c, c < nc' → va_cpy l' ta_length 0 0 6 c = cpx h' a_house 0 59 (15 + 2 * c) ∧ va_cpy cr' ta_candleRoom 0 0 6 c = cpx h' a_house 0 59 (15 + 2 * c + 1) := fun d hd => by
      rw [cpy_at (by omega), cpy_at (by omega), hx5 _ (by omega), hx5 _ (by omega)]; exact t2 d hd
    have T3 : ∀ a, a < na' → va_cpy ne' ta_needs 0 0 6 a = cpx h' a_house 0 59 (27 + 4 * a) ∧ va_cpy wo' ta_worth 0 0 6 a = cpx h' a_house 0 59 (27 + 4 * a + 1) ∧ va_cpy ar' ta_actRoom 0 0 6 a = cpx h' a_house 0 59 (27 + 4 * a + 2) ∧ va_cpy re' ta_restsOn 0 0 6 a = cpx h' a_house 0 59 (27 + 4 * a + 3) := fun d hd => by
      rw [cpy_at (by omega), cpy_at (by omega), cpy_at (by omega), cpy_at (by omega), hx5 _ (by omega), hx5 _ (by omega), hx5 _ (by omega), hx5 _ (by omega)]; exact t3 d hd
    have T4 : ∀ w, w < nw' → va_cpy wi' ta_wind 0 0 8 w = cpx h' a_house 0 59 (51 + w) := fun d hd => by
      rw [cpy_at (by omega), hx5 _ (by omega)]; exact t4 d hd
    have hHn := HH_ext hx5 hH'
    have em : nzc (cpx h' a_house 0 59) a_now nc' 0 = 0 := by rw [nzc_out (fun c _ => ⟨by omega, by omega⟩), nz_47 (by decide)]
    refine ⟨?_, ?_, ?_, ?_, ?_, ?_⟩
    rotate_left 2
    · unfold f_X7_house
      refine bd E' ?_
      refine it1 (show (0 : Int32) ≤ nI c from nI_pos' (by omega)) ?_
      refine bd rfl ?_
      refine bd (c_anew (h := cpx h' a_house 0 59) (now := a_now) (now0 := a_now) (nc := nc') (tl := va_cpy l' ta_length 0 0 6) (tc := va_cpy cr' ta_candleRoom 0 0 6) hnc' T2) ?_
      exact h71 a_txt 99997 _ _ _ _ _ _ _ _ _ _ _ _ _ _ _ _ _ _ _ _ _ _ _ _ _ _ _ _ _ _ _ _ _ _ _ _ _ _ _ _
    · unfold f_X8_house
      refine bd hpl ?_
      refine Eq.trans F ?_
      refine bd (m_takes e2 hnc') ?_
      rfl
    · rfl
    · exact ⟨0, nr', nd', nc', na', nw', 0, nx, 0, ⟨rfl, rfl, rfl, rfl, rfl, rfl, rfl, rfl, rfl⟩, ⟨by omega, fun i hi => absurd hi (by omega)⟩, hHn, ⟨⟨rfl, rfl, rfl, rfl, rfl⟩, T1, T2, T3, T4⟩, ⟨NI_new hHn, ⟨0, by omega, em⟩, ⟨by omega, hS.2.2.2.1, hS.2.2.2.2.1, fun i hi => absurd hi (by omega)⟩⟩, IR_no hJ (show upd (upd a_kept 0 0) 519 0 0 = 0 by rw [pk_un (by decide), pk_us]), IR_no hJ2 (show upd (upd a_kept 0 0) 519 0 519 = 0 from pk_us), hq, ⟨by omega, fun i hi => absurd hi (by omega)⟩⟩
  · refine ⟨?_, ?_, ?_, ?_, ?_, ?_⟩
    rotate_left 2
    · unfold f_X7_house
      refine bd E' ?_
      refine it0 (show ¬ (0 : Int32) ≤ -1 by decide) ?_
      rfl
    · unfold f_X8_house
      refine bd hpl ?_
      exact F
    · rfl
    · exact ⟨n, nr, nd, nc, na, nw, sz, nx, w, ⟨rfl, rfl, rfl, rfl, rfl, rfl, rfl, rfl, rfl⟩, hX0, hH, hR, hS, hJ, hJ2, hq, hW⟩
