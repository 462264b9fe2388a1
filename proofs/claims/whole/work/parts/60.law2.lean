/-! every call keeps the invariant, and both answer alike -/
theorem lg_same (x : Int64) : lg_cmp x x = 0 := (lg_cmp_eq x x).mpr rfl
set_option maxHeartbeats 40000000 in
set_option maxRecDepth 100000 in
theorem law_all (xs : Nat → Int32) (L : Nat) (hL : L ≤ 2560) : ∀ (q i k : Nat) (x_bytes : Int32) (x_traced : Int64) (a_txt : Nat → Int32) (t_rooms : Int32) (t_doors : Int32) (t_candles : Int32) (t_acts : Int32) (t_windBits : Int32) (ta_oneSide : Nat → Int32) (ta_otherSide : Nat → Int32) (ta_length : Nat → Int32) (ta_candleRoom : Nat → Int32) (ta_needs : Nat → Int32) (ta_worth : Nat → Int32) (ta_actRoom : Nat → Int32) (ta_restsOn : Nat → Int32) (ta_wind : Nat → Int32) (r_place : Int32) (r_size : Int32) (r_at : Int32) (r_kind : Int32) (r_value : Int32) (d_rooms : Int32) (d_doors : Int32) (d_candles : Int32) (d_acts : Int32) (d_windBits : Int32) (da_oneSide : Nat → Int32) (da_otherSide : Nat → Int32) (da_length : Nat → Int32) (da_candleRoom : Nat → Int32) (da_needs : Nat → Int32) (da_worth : Nat → Int32) (da_actRoom : Nat → Int32) (da_restsOn : Nat → Int32) (da_wind : Nat → Int32) (n_row : Nat → Int32) (p_size : Int32) (p_next : Int32) (p_rows : Nat → Nat → Int32) (i_kept : Int32) (i_row : Nat → Int32) (ip_size : Int32) (ip_next : Int32) (ip_rows : Nat → Nat → Int32) (j_kept : Int32) (j_row : Nat → Int32) (jp_size : Int32) (jp_next : Int32) (jp_rows : Nat → Nat → Int32) (q_row : Nat → Int32) (b_pieces : Int32) (b_bestCandles : Int32) (b_bestStock : Int32) (ba_wanted : Nat → Int32) (ba_bestWay : Nat → Int32) (ba_stock : Nat → Int32) (ba_remains : Nat → Int32) (ba_way : Nat → Int32) (g_size : Int32) (g_at : Int32) (g_begin : Int32) (g_token : Int32) (g_told : Int32) (g_undos : Int32) (g_wanted : Int32) (g_trace : Int64) (a_text : Nat → Int32) (a_read : Nat → Int32) (a_house : Nat → Int32) (a_now : Nat → Int32) (a_undone : Nat → Int32) (a_aside : Nat → Int32) (a_want : Nat → Int32) (a_by : Nat → Int32) (a_over : Nat → Int32) (a_kept : Nat → Int32), L ≤ i + q → i ≤ L + 5 → q < k → INV x_bytes x_traced a_txt t_rooms t_doors t_candles t_acts t_windBits ta_oneSide ta_otherSide ta_length ta_candleRoom ta_needs ta_worth ta_actRoom ta_restsOn ta_wind n_row p_size p_next p_rows i_kept i_row ip_size ip_next ip_rows j_kept j_row jp_size jp_next jp_rows q_row b_pieces ba_wanted g_size g_undos g_wanted g_trace a_text a_house a_now a_undone a_want a_kept → f_L_law_18 xs L k (nI i) x_bytes x_traced a_txt t_rooms t_doors t_candles t_acts t_windBits ta_oneSide ta_otherSide ta_length ta_candleRoom ta_needs ta_worth ta_actRoom ta_restsOn ta_wind r_place r_size r_at r_kind r_value d_rooms d_doors d_candles d_acts d_windBits da_oneSide da_otherSide da_length da_candleRoom da_needs da_worth da_actRoom da_restsOn da_wind n_row p_size p_next p_rows i_kept i_row ip_size ip_next ip_rows j_kept j_row jp_size jp_next jp_rows q_row b_pieces b_bestCandles b_bestStock ba_wanted ba_bestWay ba_stock ba_remains ba_way g_size g_at g_begin g_token g_told g_undos g_wanted g_trace a_text a_read a_house a_now a_undone a_aside a_want a_by a_over a_kept = some 1 := by
  intro q
  induction q using Nat.strongRecOn with
  | _ q ihq =>
    intro i k x_bytes x_traced a_txt t_rooms t_doors t_candles t_acts t_windBits ta_oneSide ta_otherSide ta_length ta_candleRoom ta_needs ta_worth ta_actRoom ta_restsOn ta_wind r_place r_size r_at r_kind r_value d_rooms d_doors d_candles d_acts d_windBits da_oneSide da_otherSide da_length da_candleRoom da_needs da_worth da_actRoom da_restsOn da_wind n_row p_size p_next p_rows i_kept i_row ip_size ip_next ip_rows j_kept j_row jp_size jp_next jp_rows q_row b_pieces b_bestCandles b_bestStock ba_wanted ba_bestWay ba_stock ba_remains ba_way g_size g_at g_begin g_token g_told g_undos g_wanted g_trace a_text a_read a_house a_now a_undone a_aside a_want a_by a_over a_kept hq1 hi hk hI
    obtain ⟨k, rfl⟩ : ∃ z, k = z + 1 := ⟨k - 1, by omega⟩
    rw [f_L_law_18]
    have hlt : ((Int32.ofNat L) - 5 < nI i) ↔ (L : Int) - 5 < i := by
      rw [Int32.lt_iff_toInt_lt, nI_toInt (by omega)]
      have := pk_sub_toInt (a := L) (b := 5) (by omega) (by decide)
      rw [show (Int32.ofNat L - 5).toInt = (L : Int) - 5 from this]
    refine it2 (fun _ => rfl) (fun c => ?_)
    have hi5 : i + 5 ≤ L := by
      rw [hlt] at c
      omega
    have r0 : rd_ xs L (nI i) = some (xs i) := rd_ok (by omega) (by omega)
    have r1 : rd_ xs L (nI i + 1) = some (xs (i + 1)) := by rw [addR]; exact rd_ok (by omega) (by omega)
    have r2 : rd_ xs L (nI i + 2) = some (xs (i + 2)) := by rw [addR]; exact rd_ok (by omega) (by omega)
    have r3 : rd_ xs L (nI i + 3) = some (xs (i + 3)) := by rw [addR]; exact rd_ok (by omega) (by omega)
    have r4 : rd_ xs L (nI i + 4) = some (xs (i + 4)) := by rw [addR]; exact rd_ok (by omega) (by omega)
    have cont : ∀ (x_bytes : Int32) (x_traced : Int64) (a_txt : Nat → Int32) (t_rooms : Int32) (t_doors : Int32) (t_candles : Int32) (t_acts : Int32) (t_windBits : Int32) (ta_oneSide : Nat → Int32) (ta_otherSide : Nat → Int32) (ta_length : Nat → Int32) (ta_candleRoom : Nat → Int32) (ta_needs : Nat → Int32) (ta_worth : Nat → Int32) (ta_actRoom : Nat → Int32) (ta_restsOn : Nat → Int32) (ta_wind : Nat → Int32) (r_place : Int32) (r_size : Int32) (r_at : Int32) (r_kind : Int32) (r_value : Int32) (d_rooms : Int32) (d_doors : Int32) (d_candles : Int32) (d_acts : Int32) (d_windBits : Int32) (da_oneSide : Nat → Int32) (da_otherSide : Nat → Int32) (da_length : Nat → Int32) (da_candleRoom : Nat → Int32) (da_needs : Nat → Int32) (da_worth : Nat → Int32) (da_actRoom : Nat → Int32) (da_restsOn : Nat → Int32) (da_wind : Nat → Int32) (n_row : Nat → Int32) (p_size : Int32) (p_next : Int32) (p_rows : Nat → Nat → Int32) (i_kept : Int32) (i_row : Nat → Int32) (ip_size : Int32) (ip_next : Int32) (ip_rows : Nat → Nat → Int32) (j_kept : Int32) (j_row : Nat → Int32) (jp_size : Int32) (jp_next : Int32) (jp_rows : Nat → Nat → Int32) (q_row : Nat → Int32) (b_pieces : Int32) (b_bestCandles : Int32) (b_bestStock : Int32) (ba_wanted : Nat → Int32) (ba_bestWay : Nat → Int32) (ba_stock : Nat → Int32) (ba_remains : Nat → Int32) (ba_way : Nat → Int32) (g_size : Int32) (g_at : Int32) (g_begin : Int32) (g_token : Int32) (g_told : Int32) (g_undos : Int32) (g_wanted : Int32) (g_trace : Int64) (a_text : Nat → Int32) (a_read : Nat → Int32) (a_house : Nat → Int32) (a_now : Nat → Int32) (a_undone : Nat → Int32) (a_aside : Nat → Int32) (a_want : Nat → Int32) (a_by : Nat → Int32) (a_over : Nat → Int32) (a_kept : Nat → Int32), INV x_bytes x_traced a_txt t_rooms t_doors t_candles t_acts t_windBits ta_oneSide ta_otherSide ta_length ta_candleRoom ta_needs ta_worth ta_actRoom ta_restsOn ta_wind n_row p_size p_next p_rows i_kept i_row ip_size ip_next ip_rows j_kept j_row jp_size jp_next jp_rows q_row b_pieces ba_wanted g_size g_undos g_wanted g_trace a_text a_house a_now a_undone a_want a_kept → f_L_law_986 xs L (f_L_law_18 xs L k) (nI i) x_bytes x_traced a_txt t_rooms t_doors t_candles t_acts t_windBits ta_oneSide ta_otherSide ta_length ta_candleRoom ta_needs ta_worth ta_actRoom ta_restsOn ta_wind r_place r_size r_at r_kind r_value d_rooms d_doors d_candles d_acts d_windBits da_oneSide da_otherSide da_length da_candleRoom da_needs da_worth da_actRoom da_restsOn da_wind n_row p_size p_next p_rows i_kept i_row ip_size ip_next ip_rows j_kept j_row jp_size jp_next jp_rows q_row b_pieces b_bestCandles b_bestStock ba_wanted ba_bestWay ba_stock ba_remains ba_way g_size g_at g_begin g_token g_told g_undos g_wanted g_trace a_text a_read a_house a_now a_undone a_aside a_want a_by a_over a_kept = some 1 := by
      intro x_bytes x_traced a_txt t_rooms t_doors t_candles t_acts t_windBits ta_oneSide ta_otherSide ta_length ta_candleRoom ta_needs ta_worth ta_actRoom ta_restsOn ta_wind r_place r_size r_at r_kind r_value d_rooms d_doors d_candles d_acts d_windBits da_oneSide da_otherSide da_length da_candleRoom da_needs da_worth da_actRoom da_restsOn da_wind n_row p_size p_next p_rows i_kept i_row ip_size ip_next ip_rows j_kept j_row jp_size jp_next jp_rows q_row b_pieces b_bestCandles b_bestStock ba_wanted ba_bestWay ba_stock ba_remains ba_way g_size g_at g_begin g_token g_told g_undos g_wanted g_trace a_text a_read a_house a_now a_undone a_aside a_want a_by a_over a_kept hI
      unfold f_L_law_986
      rw [show nI i + 5 = nI (i + 5) from addR 5 i]
      exact ihq (q - 5) (by omega) (i + 5) k x_bytes x_traced a_txt t_rooms t_doors t_candles t_acts t_windBits ta_oneSide ta_otherSide ta_length ta_candleRoom ta_needs ta_worth ta_actRoom ta_restsOn ta_wind r_place r_size r_at r_kind r_value d_rooms d_doors d_candles d_acts d_windBits da_oneSide da_otherSide da_length da_candleRoom da_needs da_worth da_actRoom da_restsOn da_wind n_row p_size p_next p_rows i_kept i_row ip_size ip_next ip_rows j_kept j_row jp_size jp_next jp_rows q_row b_pieces b_bestCandles b_bestStock ba_wanted ba_bestWay ba_stock ba_remains ba_way g_size g_at g_begin g_token g_told g_undos g_wanted g_trace a_text a_read a_house a_now a_undone a_aside a_want a_by a_over a_kept (by omega) (by omega) (by omega) hI
    clear ihq
    refine bd r0 ?_
    refine it2 (fun _ => ?_) (fun _ => ?_)
    · obtain ⟨n, nr, nd, nc, na, nw, sz, nx, w, ⟨rfl, rfl, rfl, rfl, rfl, rfl, rfl, rfl, rfl⟩, hX, hH, ⟨⟨rfl, rfl, rfl, rfl, rfl⟩, t1, t2, t3, t4⟩, hS, hJ, hJ2, hq, hW⟩ := hI
      obtain ⟨r, n', at', bt', e1, e2, g1, g2⟩ := o_type hX.1 hX.2 (xs (i + 1))
      refine bd r1 ?_
      refine bd e1 ?_
      refine bd r1 ?_
      refine bd e2 ?_
      refine it1 rfl ?_
      refine cont _ _ _ _ _ _ _ _ _ _ _ _ _ _ _ _ _ _ _ _ _ _ _ _ _ _ _ _ _ _ _ _ _ _ _ _ _ _ _ _ _ _ _ _ _ _ _ _ _ _ _ _ _ _ _ _ _ _ _ _ _ _ _ _ _ _ _ _ _ _ _ _ _ _ _ _ _ ?_
      exact ⟨n', nr, nd, nc, na, nw, sz, nx, w, ⟨rfl, rfl, rfl, rfl, rfl, rfl, rfl, rfl, rfl⟩, ⟨g1, g2⟩, hH, ⟨⟨rfl, rfl, rfl, rfl, rfl⟩, t1, t2, t3, t4⟩, hS, hJ, hJ2, hq, hW⟩
    refine it2 (fun _ => ?_) (fun _ => ?_)
    · obtain ⟨n, nr, nd, nc, na, nw, sz, nx, w, ⟨rfl, rfl, rfl, rfl, rfl, rfl, rfl, rfl, rfl⟩, hX, hH, ⟨⟨rfl, rfl, rfl, rfl, rfl⟩, t1, t2, t3, t4⟩, hS, hJ, hJ2, hq, hW⟩ := hI
      refine bd rfl ?_
      refine bd rfl ?_
      refine it1 rfl ?_
      refine cont _ _ _ _ _ _ _ _ _ _ _ _ _ _ _ _ _ _ _ _ _ _ _ _ _ _ _ _ _ _ _ _ _ _ _ _ _ _ _ _ _ _ _ _ _ _ _ _ _ _ _ _ _ _ _ _ _ _ _ _ _ _ _ _ _ _ _ _ _ _ _ _ _ _ _ _ _ ?_
      exact ⟨0, nr, nd, nc, na, nw, sz, nx, w, ⟨rfl, rfl, rfl, rfl, rfl, rfl, rfl, rfl, rfl⟩, ⟨by omega, fun i hi => absurd hi (by omega)⟩, hH, ⟨⟨rfl, rfl, rfl, rfl, rfl⟩, t1, t2, t3, t4⟩, hS, hJ, hJ2, hq, hW⟩
    refine it2 (fun _ => ?_) (fun _ => ?_)
    · obtain ⟨q13, q14, e1, e2, e3, e4⟩ := o_house (r_place := r_place) (r_size := r_size) (r_at := r_at) (r_kind := r_kind) (r_value := r_value) (d_rooms := d_rooms) (d_doors := d_doors) (d_candles := d_candles) (d_acts := d_acts) (d_windBits := d_windBits) (da_oneSide := da_oneSide) (da_otherSide := da_otherSide) (da_length := da_length) (da_candleRoom := da_candleRoom) (da_needs := da_needs) (da_worth := da_worth) (da_actRoom := da_actRoom) (da_restsOn := da_restsOn) (da_wind := da_wind) (g_at := g_at) (g_begin := g_begin) (g_token := g_token) (g_told := g_told) (a_read := a_read) hI
      refine bd e1 ?_
      refine bd e2 ?_
      refine it1 e3 ?_
      exact cont _ _ _ _ _ _ _ _ _ _ _ _ _ _ _ _ _ _ _ _ _ _ _ _ _ _ _ _ _ _ _ _ _ _ _ _ _ _ _ _ _ _ _ _ _ _ _ _ _ _ _ _ _ _ _ _ _ _ _ _ _ _ _ _ _ _ _ _ _ _ _ _ _ _ _ _ _ e4
    refine it2 (fun _ => ?_) (fun _ => ?_)
    · obtain ⟨n, nr, nd, nc, na, nw, sz, nx, w, ⟨rfl, rfl, rfl, rfl, rfl, rfl, rfl, rfl, rfl⟩, hX, hH, ⟨⟨rfl, rfl, rfl, rfl, rfl⟩, t1, t2, t3, t4⟩, hS, hJ, hJ2, hq, hW⟩ := hI
      obtain ⟨r, e1, e2⟩ := o_candle hH hS.1 (fun c hc => (t2 c hc).1) (xs (i + 1)) (xs (i + 2))
      refine bd r1 ?_
      refine bd r2 ?_
      refine bd e1 ?_
      refine bd r1 ?_
      refine bd r2 ?_
      refine bd e2 ?_
      refine it1 rfl ?_
      refine cont _ _ _ _ _ _ _ _ _ _ _ _ _ _ _ _ _ _ _ _ _ _ _ _ _ _ _ _ _ _ _ _ _ _ _ _ _ _ _ _ _ _ _ _ _ _ _ _ _ _ _ _ _ _ _ _ _ _ _ _ _ _ _ _ _ _ _ _ _ _ _ _ _ _ _ _ _ ?_
      exact ⟨n, nr, nd, nc, na, nw, sz, nx, w, ⟨rfl, rfl, rfl, rfl, rfl, rfl, rfl, rfl, rfl⟩, hX, hH, ⟨⟨rfl, rfl, rfl, rfl, rfl⟩, t1, t2, t3, t4⟩, hS, hJ, hJ2, hq, hW⟩
    refine it2 (fun _ => ?_) (fun _ => ?_)
    · obtain ⟨n, nr, nd, nc, na, nw, sz, nx, w, ⟨rfl, rfl, rfl, rfl, rfl, rfl, rfl, rfl, rfl⟩, hX, hH, ⟨⟨rfl, rfl, rfl, rfl, rfl⟩, t1, t2, t3, t4⟩, hS, hJ, hJ2, hq, hW⟩ := hI
      obtain ⟨r, e1, e2⟩ := o_door hH hS.1 t1 (xs (i + 1)) (xs (i + 2))
      refine bd r1 ?_
      refine bd r2 ?_
      refine bd e1 ?_
      refine bd r1 ?_
      refine bd r2 ?_
      refine bd e2 ?_
      refine it1 rfl ?_
      refine cont _ _ _ _ _ _ _ _ _ _ _ _ _ _ _ _ _ _ _ _ _ _ _ _ _ _ _ _ _ _ _ _ _ _ _ _ _ _ _ _ _ _ _ _ _ _ _ _ _ _ _ _ _ _ _ _ _ _ _ _ _ _ _ _ _ _ _ _ _ _ _ _ _ _ _ _ _ ?_
      exact ⟨n, nr, nd, nc, na, nw, sz, nx, w, ⟨rfl, rfl, rfl, rfl, rfl, rfl, rfl, rfl, rfl⟩, hX, hH, ⟨⟨rfl, rfl, rfl, rfl, rfl⟩, t1, t2, t3, t4⟩, hS, hJ, hJ2, hq, hW⟩
    refine it2 (fun _ => ?_) (fun _ => ?_)
    · obtain ⟨n, nr, nd, nc, na, nw, sz, nx, w, ⟨rfl, rfl, rfl, rfl, rfl, rfl, rfl, rfl, rfl⟩, hX, hH, ⟨⟨rfl, rfl, rfl, rfl, rfl⟩, t1, t2, t3, t4⟩, hS, hJ, hJ2, hq, hW⟩ := hI
      obtain ⟨r, e1, e2⟩ := o_act (now := a_now) hH t3 (xs (i + 1)) (xs (i + 2))
      refine bd r1 ?_
      refine bd r2 ?_
      refine bd e1 ?_
      refine bd r1 ?_
      refine bd r2 ?_
      refine bd e2 ?_
      refine it1 rfl ?_
      refine cont _ _ _ _ _ _ _ _ _ _ _ _ _ _ _ _ _ _ _ _ _ _ _ _ _ _ _ _ _ _ _ _ _ _ _ _ _ _ _ _ _ _ _ _ _ _ _ _ _ _ _ _ _ _ _ _ _ _ _ _ _ _ _ _ _ _ _ _ _ _ _ _ _ _ _ _ _ ?_
      exact ⟨n, nr, nd, nc, na, nw, sz, nx, w, ⟨rfl, rfl, rfl, rfl, rfl, rfl, rfl, rfl, rfl⟩, hX, hH, ⟨⟨rfl, rfl, rfl, rfl, rfl⟩, t1, t2, t3, t4⟩, hS, hJ, hJ2, hq, hW⟩
    refine it2 (fun _ => ?_) (fun _ => ?_)
    · obtain ⟨n, nr, nd, nc, na, nw, sz, nx, w, ⟨rfl, rfl, rfl, rfl, rfl, rfl, rfl, rfl, rfl⟩, hX, hH, ⟨⟨rfl, rfl, rfl, rfl, rfl⟩, t1, t2, t3, t4⟩, hS, hJ, hJ2, hq, hW⟩ := hI
      obtain ⟨r, e1, e2⟩ := o_room hH hS.1 t1 (xs (i + 1)) (xs (i + 2))
      refine bd r1 ?_
      refine bd r2 ?_
      refine bd e1 ?_
      refine bd r1 ?_
      refine bd r2 ?_
      refine bd e2 ?_
      refine it1 rfl ?_
      refine cont _ _ _ _ _ _ _ _ _ _ _ _ _ _ _ _ _ _ _ _ _ _ _ _ _ _ _ _ _ _ _ _ _ _ _ _ _ _ _ _ _ _ _ _ _ _ _ _ _ _ _ _ _ _ _ _ _ _ _ _ _ _ _ _ _ _ _ _ _ _ _ _ _ _ _ _ _ ?_
      exact ⟨n, nr, nd, nc, na, nw, sz, nx, w, ⟨rfl, rfl, rfl, rfl, rfl, rfl, rfl, rfl, rfl⟩, hX, hH, ⟨⟨rfl, rfl, rfl, rfl, rfl⟩, t1, t2, t3, t4⟩, hS, hJ, hJ2, hq, hW⟩
    refine it2 (fun _ => ?_) (fun _ => ?_)
    · obtain ⟨n, nr, nd, nc, na, nw, sz, nx, w, ⟨rfl, rfl, rfl, rfl, rfl, rfl, rfl, rfl, rfl⟩, hX, hH, ⟨⟨rfl, rfl, rfl, rfl, rfl⟩, t1, t2, t3, t4⟩, hS, hJ, hJ2, hq, hW⟩ := hI
      obtain ⟨r, now', sz', nx', rows', u', e1, e2, g1⟩ := o_lights hH hS (xs (i + 1)) (xs (i + 2))
      refine bd r1 ?_
      refine bd r2 ?_
      refine bd e1 ?_
      refine bd r1 ?_
      refine bd r2 ?_
      refine bd e2 ?_
      refine it1 rfl ?_
      refine cont _ _ _ _ _ _ _ _ _ _ _ _ _ _ _ _ _ _ _ _ _ _ _ _ _ _ _ _ _ _ _ _ _ _ _ _ _ _ _ _ _ _ _ _ _ _ _ _ _ _ _ _ _ _ _ _ _ _ _ _ _ _ _ _ _ _ _ _ _ _ _ _ _ _ _ _ _ ?_
      exact ⟨n, nr, nd, nc, na, nw, sz', nx', w, ⟨rfl, rfl, rfl, rfl, rfl, rfl, rfl, rfl, rfl⟩, hX, hH, ⟨⟨rfl, rfl, rfl, rfl, rfl⟩, t1, t2, t3, t4⟩, g1, hJ, hJ2, hq, hW⟩
    refine it2 (fun _ => ?_) (fun _ => ?_)
    · obtain ⟨n, nr, nd, nc, na, nw, sz, nx, w, ⟨rfl, rfl, rfl, rfl, rfl, rfl, rfl, rfl, rfl⟩, hX, hH, ⟨⟨rfl, rfl, rfl, rfl, rfl⟩, t1, t2, t3, t4⟩, hS, hJ, hJ2, hq, hW⟩ := hI
      obtain ⟨r, now', sz', nx', rows', u', e1, e2, g1⟩ := o_carries hH t1 hS (xs (i + 1)) (xs (i + 2))
      refine bd r1 ?_
      refine bd r2 ?_
      refine bd e1 ?_
      refine bd r1 ?_
      refine bd r2 ?_
      refine bd e2 ?_
      refine it1 rfl ?_
      refine cont _ _ _ _ _ _ _ _ _ _ _ _ _ _ _ _ _ _ _ _ _ _ _ _ _ _ _ _ _ _ _ _ _ _ _ _ _ _ _ _ _ _ _ _ _ _ _ _ _ _ _ _ _ _ _ _ _ _ _ _ _ _ _ _ _ _ _ _ _ _ _ _ _ _ _ _ _ ?_
      exact ⟨n, nr, nd, nc, na, nw, sz', nx', w, ⟨rfl, rfl, rfl, rfl, rfl, rfl, rfl, rfl, rfl⟩, hX, hH, ⟨⟨rfl, rfl, rfl, rfl, rfl⟩, t1, t2, t3, t4⟩, g1, hJ, hJ2, hq, hW⟩
    refine it2 (fun _ => ?_) (fun _ => ?_)
    · obtain ⟨n, nr, nd, nc, na, nw, sz, nx, w, ⟨rfl, rfl, rfl, rfl, rfl, rfl, rfl, rfl, rfl⟩, hX, hH, ⟨⟨rfl, rfl, rfl, rfl, rfl⟩, t1, t2, t3, t4⟩, hS, hJ, hJ2, hq, hW⟩ := hI
      obtain ⟨r, now', sz', nx', rows', u', e1, e2, g1⟩ := o_shields hH hS (xs (i + 1)) (xs (i + 2))
      refine bd r1 ?_
      refine bd r2 ?_
      refine bd e1 ?_
      refine bd r1 ?_
      refine bd r2 ?_
      refine bd e2 ?_
      refine it1 rfl ?_
      refine cont _ _ _ _ _ _ _ _ _ _ _ _ _ _ _ _ _ _ _ _ _ _ _ _ _ _ _ _ _ _ _ _ _ _ _ _ _ _ _ _ _ _ _ _ _ _ _ _ _ _ _ _ _ _ _ _ _ _ _ _ _ _ _ _ _ _ _ _ _ _ _ _ _ _ _ _ _ ?_
      exact ⟨n, nr, nd, nc, na, nw, sz', nx', w, ⟨rfl, rfl, rfl, rfl, rfl, rfl, rfl, rfl, rfl⟩, hX, hH, ⟨⟨rfl, rfl, rfl, rfl, rfl⟩, t1, t2, t3, t4⟩, g1, hJ, hJ2, hq, hW⟩
    refine it2 (fun _ => ?_) (fun _ => ?_)
    · obtain ⟨n, nr, nd, nc, na, nw, sz, nx, w, ⟨rfl, rfl, rfl, rfl, rfl, rfl, rfl, rfl, rfl⟩, hX, hH, ⟨⟨rfl, rfl, rfl, rfl, rfl⟩, t1, t2, t3, t4⟩, hS, hJ, hJ2, hq, hW⟩ := hI
      obtain ⟨r, now', sz', nx', rows', u', e1, e2, g1⟩ := o_opens hH hS (xs (i + 1)) (xs (i + 2))
      refine bd r1 ?_
      refine bd r2 ?_
      refine bd e1 ?_
      refine bd r1 ?_
      refine bd r2 ?_
      refine bd e2 ?_
      refine it1 rfl ?_
      refine cont _ _ _ _ _ _ _ _ _ _ _ _ _ _ _ _ _ _ _ _ _ _ _ _ _ _ _ _ _ _ _ _ _ _ _ _ _ _ _ _ _ _ _ _ _ _ _ _ _ _ _ _ _ _ _ _ _ _ _ _ _ _ _ _ _ _ _ _ _ _ _ _ _ _ _ _ _ ?_
      exact ⟨n, nr, nd, nc, na, nw, sz', nx', w, ⟨rfl, rfl, rfl, rfl, rfl, rfl, rfl, rfl, rfl⟩, hX, hH, ⟨⟨rfl, rfl, rfl, rfl, rfl⟩, t1, t2, t3, t4⟩, g1, hJ, hJ2, hq, hW⟩
    refine it2 (fun _ => ?_) (fun _ => ?_)
    · obtain ⟨n, nr, nd, nc, na, nw, sz, nx, w, ⟨rfl, rfl, rfl, rfl, rfl, rfl, rfl, rfl, rfl⟩, hX, hH, ⟨⟨rfl, rfl, rfl, rfl, rfl⟩, t1, t2, t3, t4⟩, hS, hJ, hJ2, hq, hW⟩ := hI
      obtain ⟨r, now', sz', nx', rows', u', e1, e2, g1⟩ := o_begins hH hS (xs (i + 1))
      refine bd r1 ?_
      refine bd e1 ?_
      refine bd r1 ?_
      refine bd e2 ?_
      refine it1 rfl ?_
      refine cont _ _ _ _ _ _ _ _ _ _ _ _ _ _ _ _ _ _ _ _ _ _ _ _ _ _ _ _ _ _ _ _ _ _ _ _ _ _ _ _ _ _ _ _ _ _ _ _ _ _ _ _ _ _ _ _ _ _ _ _ _ _ _ _ _ _ _ _ _ _ _ _ _ _ _ _ _ ?_
      exact ⟨n, nr, nd, nc, na, nw, sz', nx', w, ⟨rfl, rfl, rfl, rfl, rfl, rfl, rfl, rfl, rfl⟩, hX, hH, ⟨⟨rfl, rfl, rfl, rfl, rfl⟩, t1, t2, t3, t4⟩, g1, hJ, hJ2, hq, hW⟩
    refine it2 (fun _ => ?_) (fun _ => ?_)
    · obtain ⟨n, nr, nd, nc, na, nw, sz, nx, w, ⟨rfl, rfl, rfl, rfl, rfl, rfl, rfl, rfl, rfl⟩, hX, hH, ⟨⟨rfl, rfl, rfl, rfl, rfl⟩, t1, t2, t3, t4⟩, hS, hJ, hJ2, hq, hW⟩ := hI
      obtain ⟨m, hm, em⟩ := hS.2.1
      have hm2 : m < 2 ^ 31 := by omega
      have hHT : HT a_house nd na nw ta_oneSide ta_otherSide ta_needs ta_actRoom ta_restsOn ta_wind := ⟨t1, fun a ha => ⟨(t3 a ha).1, (t3 a ha).2.2.1, (t3 a ha).2.2.2⟩, t4⟩
      obtain ⟨r, now', sz', nx', rows', u', e1, e2, g1⟩ := o_minutes hH hHT hS (xs (i + 1))
      refine bd r1 ?_
      refine bd e1 ?_
      refine bd r1 ?_
      refine bd e2 ?_
      refine it1 rfl ?_
      refine cont _ _ _ _ _ _ _ _ _ _ _ _ _ _ _ _ _ _ _ _ _ _ _ _ _ _ _ _ _ _ _ _ _ _ _ _ _ _ _ _ _ _ _ _ _ _ _ _ _ _ _ _ _ _ _ _ _ _ _ _ _ _ _ _ _ _ _ _ _ _ _ _ _ _ _ _ _ ?_
      exact ⟨n, nr, nd, nc, na, nw, sz', nx', w, ⟨rfl, rfl, rfl, rfl, rfl, rfl, rfl, rfl, rfl⟩, hX, hH, ⟨⟨rfl, rfl, rfl, rfl, rfl⟩, t1, t2, t3, t4⟩, g1, hJ, hJ2, hq, hW⟩
    refine it2 (fun _ => ?_) (fun _ => ?_)
    · obtain ⟨n, nr, nd, nc, na, nw, sz, nx, w, ⟨rfl, rfl, rfl, rfl, rfl, rfl, rfl, rfl, rfl⟩, hX, hH, ⟨⟨rfl, rfl, rfl, rfl, rfl⟩, t1, t2, t3, t4⟩, hS, hJ, hJ2, hq, hW⟩ := hI
      obtain ⟨r, now', sz', nx', e1, e2, g1⟩ := o_undo hH hS
      refine bd e1 ?_
      refine bd e2 ?_
      refine it1 rfl ?_
      refine cont _ _ _ _ _ _ _ _ _ _ _ _ _ _ _ _ _ _ _ _ _ _ _ _ _ _ _ _ _ _ _ _ _ _ _ _ _ _ _ _ _ _ _ _ _ _ _ _ _ _ _ _ _ _ _ _ _ _ _ _ _ _ _ _ _ _ _ _ _ _ _ _ _ _ _ _ _ ?_
      exact ⟨n, nr, nd, nc, na, nw, sz', nx', w, ⟨rfl, rfl, rfl, rfl, rfl, rfl, rfl, rfl, rfl⟩, hX, hH, ⟨⟨rfl, rfl, rfl, rfl, rfl⟩, t1, t2, t3, t4⟩, g1, hJ, hJ2, hq, hW⟩
    refine it2 (fun _ => ?_) (fun _ => ?_)
    · obtain ⟨n, nr, nd, nc, na, nw, sz, nx, w, ⟨rfl, rfl, rfl, rfl, rfl, rfl, rfl, rfl, rfl⟩, hX, hH, ⟨⟨rfl, rfl, rfl, rfl, rfl⟩, t1, t2, t3, t4⟩, hS, hJ, hJ2, hq, hW⟩ := hI
      obtain ⟨m, hm, em⟩ := hS.2.1
      have hm2 : m < 2 ^ 31 := by omega
      have hHT : HT a_house nd na nw ta_oneSide ta_otherSide ta_needs ta_actRoom ta_restsOn ta_wind := ⟨t1, fun a ha => ⟨(t3 a ha).1, (t3 a ha).2.2.1, (t3 a ha).2.2.2⟩, t4⟩
      obtain ⟨r, e1, e2⟩ := o_now hH hS.1 hm2 em (fun a ha => (t3 a ha).2.1) t4 (xs (i + 1))
      refine bd r1 ?_
      refine bd e1 ?_
      refine bd r1 ?_
      refine bd e2 ?_
      refine it1 rfl ?_
      refine cont _ _ _ _ _ _ _ _ _ _ _ _ _ _ _ _ _ _ _ _ _ _ _ _ _ _ _ _ _ _ _ _ _ _ _ _ _ _ _ _ _ _ _ _ _ _ _ _ _ _ _ _ _ _ _ _ _ _ _ _ _ _ _ _ _ _ _ _ _ _ _ _ _ _ _ _ _ ?_
      exact ⟨n, nr, nd, nc, na, nw, sz, nx, w, ⟨rfl, rfl, rfl, rfl, rfl, rfl, rfl, rfl, rfl⟩, hX, hH, ⟨⟨rfl, rfl, rfl, rfl, rfl⟩, t1, t2, t3, t4⟩, hS, hJ, hJ2, hq, hW⟩
    refine it2 (fun _ => ?_) (fun _ => ?_)
    · obtain ⟨n, nr, nd, nc, na, nw, sz, nx, w, ⟨rfl, rfl, rfl, rfl, rfl, rfl, rfl, rfl, rfl⟩, hX, hH, ⟨⟨rfl, rfl, rfl, rfl, rfl⟩, t1, t2, t3, t4⟩, hS, hJ, hJ2, hq, hW⟩ := hI
      obtain ⟨m, hm, em⟩ := hS.2.1
      have hm2 : m < 2 ^ 31 := by omega
      have hHT : HT a_house nd na nw ta_oneSide ta_otherSide ta_needs ta_actRoom ta_restsOn ta_wind := ⟨t1, fun a ha => ⟨(t3 a ha).1, (t3 a ha).2.2.1, (t3 a ha).2.2.2⟩, t4⟩
      obtain ⟨r, q', now', ad', e1, e2, g1, g2⟩ := o_comes (ad := a_aside) hH hHT hS.1 hm em hq (xs (i + 1)) (xs (i + 2))
      refine bd r1 ?_
      refine bd r2 ?_
      refine bd e1 ?_
      refine bd r1 ?_
      refine bd r2 ?_
      refine bd e2 ?_
      refine it1 rfl ?_
      have hnc6 : nc ≤ 6 := hH.2.1.2.2.1
      have hna6 : na ≤ 6 := hH.2.1.2.2.2.1
      refine cont _ _ _ _ _ _ _ _ _ _ _ _ _ _ _ _ _ _ _ _ _ _ _ _ _ _ _ _ _ _ _ _ _ _ _ _ _ _ _ _ _ _ _ _ _ _ _ _ _ _ _ _ _ _ _ _ _ _ _ _ _ _ _ _ _ _ _ _ _ _ _ _ _ _ _ _ _ ?_
      exact ⟨n, nr, nd, nc, na, nw, sz, nx, w, ⟨rfl, rfl, rfl, (row_ext (fun k hk => (g2 k hk).symm)), rfl, rfl, rfl, rfl, rfl⟩, hX, hH, ⟨⟨rfl, rfl, rfl, rfl, rfl⟩, t1, t2, t3, t4⟩, (ST_ext hnc6 hna6 (fun k hk => (g2 k hk).symm) (fun _ _ => rfl) (fun _ _ => rfl) hS.2.2.2.2.1 hS), hJ, hJ2, g1, hW⟩
    refine it2 (fun _ => ?_) (fun _ => ?_)
    · obtain ⟨n, nr, nd, nc, na, nw, sz, nx, w, ⟨rfl, rfl, rfl, rfl, rfl, rfl, rfl, rfl, rfl⟩, hX, hH, ⟨⟨rfl, rfl, rfl, rfl, rfl⟩, t1, t2, t3, t4⟩, hS, hJ, hJ2, hq, hW⟩ := hI
      obtain ⟨m, hm, em⟩ := hS.2.1
      have hm2 : m < 2 ^ 31 := by omega
      have hHT : HT a_house nd na nw ta_oneSide ta_otherSide ta_needs ta_actRoom ta_restsOn ta_wind := ⟨t1, fun a ha => ⟨(t3 a ha).1, (t3 a ha).2.2.1, (t3 a ha).2.2.2⟩, t4⟩
      obtain ⟨r, q', now', ad', e1, e2, g1, g2⟩ := o_first (ad := a_aside) hH hHT hS.1 hm em hq (xs (i + 1))
      refine bd r1 ?_
      refine bd e1 ?_
      refine bd r1 ?_
      refine bd e2 ?_
      refine it1 rfl ?_
      have hnc6 : nc ≤ 6 := hH.2.1.2.2.1
      have hna6 : na ≤ 6 := hH.2.1.2.2.2.1
      refine cont _ _ _ _ _ _ _ _ _ _ _ _ _ _ _ _ _ _ _ _ _ _ _ _ _ _ _ _ _ _ _ _ _ _ _ _ _ _ _ _ _ _ _ _ _ _ _ _ _ _ _ _ _ _ _ _ _ _ _ _ _ _ _ _ _ _ _ _ _ _ _ _ _ _ _ _ _ ?_
      exact ⟨n, nr, nd, nc, na, nw, sz, nx, w, ⟨rfl, rfl, rfl, (row_ext (fun k hk => (g2 k hk).symm)), rfl, rfl, rfl, rfl, rfl⟩, hX, hH, ⟨⟨rfl, rfl, rfl, rfl, rfl⟩, t1, t2, t3, t4⟩, (ST_ext hnc6 hna6 (fun k hk => (g2 k hk).symm) (fun _ _ => rfl) (fun _ _ => rfl) hS.2.2.2.2.1 hS), hJ, hJ2, g1, hW⟩
    refine it2 (fun _ => ?_) (fun _ => ?_)
    · obtain ⟨n, nr, nd, nc, na, nw, sz, nx, w, ⟨rfl, rfl, rfl, rfl, rfl, rfl, rfl, rfl, rfl⟩, hX, hH, ⟨⟨rfl, rfl, rfl, rfl, rfl⟩, t1, t2, t3, t4⟩, hS, hJ, hJ2, hq, hW⟩ := hI
      obtain ⟨r, e1, e2⟩ := o_best (now := a_now) hH (fun a ha => ⟨(t3 a ha).1, (t3 a ha).2.1, (t3 a ha).2.2.2⟩) (xs (i + 1)) (xs (i + 2))
      refine bd r1 ?_
      refine bd r2 ?_
      refine bd e1 ?_
      refine bd r1 ?_
      refine bd r2 ?_
      refine bd e2 ?_
      refine it1 rfl ?_
      refine cont _ _ _ _ _ _ _ _ _ _ _ _ _ _ _ _ _ _ _ _ _ _ _ _ _ _ _ _ _ _ _ _ _ _ _ _ _ _ _ _ _ _ _ _ _ _ _ _ _ _ _ _ _ _ _ _ _ _ _ _ _ _ _ _ _ _ _ _ _ _ _ _ _ _ _ _ _ ?_
      exact ⟨n, nr, nd, nc, na, nw, sz, nx, w, ⟨rfl, rfl, rfl, rfl, rfl, rfl, rfl, rfl, rfl⟩, hX, hH, ⟨⟨rfl, rfl, rfl, rfl, rfl⟩, t1, t2, t3, t4⟩, hS, hJ, hJ2, hq, hW⟩
    refine it2 (fun _ => ?_) (fun _ => ?_)
    · obtain ⟨n, nr, nd, nc, na, nw, sz, nx, w, ⟨rfl, rfl, rfl, rfl, rfl, rfl, rfl, rfl, rfl⟩, hX, hH, ⟨⟨rfl, rfl, rfl, rfl, rfl⟩, t1, t2, t3, t4⟩, hS, hJ, hJ2, hq, hW⟩ := hI
      obtain ⟨m, hm, em⟩ := hS.2.1
      have hm2 : m < 2 ^ 31 := by omega
      have hHT : HT a_house nd na nw ta_oneSide ta_otherSide ta_needs ta_actRoom ta_restsOn ta_wind := ⟨t1, fun a ha => ⟨(t3 a ha).1, (t3 a ha).2.2.1, (t3 a ha).2.2.2⟩, t4⟩
      obtain ⟨r, q', now', ad', e1, e2, g1, g2⟩ := o_plot (ad := a_aside) hH hHT hS.1 hm em hq (xs (i + 1))
      refine bd r1 ?_
      refine bd e1 ?_
      refine bd r1 ?_
      refine bd e2 ?_
      refine it1 rfl ?_
      have hnc6 : nc ≤ 6 := hH.2.1.2.2.1
      have hna6 : na ≤ 6 := hH.2.1.2.2.2.1
      refine cont _ _ _ _ _ _ _ _ _ _ _ _ _ _ _ _ _ _ _ _ _ _ _ _ _ _ _ _ _ _ _ _ _ _ _ _ _ _ _ _ _ _ _ _ _ _ _ _ _ _ _ _ _ _ _ _ _ _ _ _ _ _ _ _ _ _ _ _ _ _ _ _ _ _ _ _ _ ?_
      exact ⟨n, nr, nd, nc, na, nw, sz, nx, w, ⟨rfl, rfl, rfl, (row_ext (fun k hk => (g2 k hk).symm)), rfl, rfl, rfl, rfl, rfl⟩, hX, hH, ⟨⟨rfl, rfl, rfl, rfl, rfl⟩, t1, t2, t3, t4⟩, (ST_ext hnc6 hna6 (fun k hk => (g2 k hk).symm) (fun _ _ => rfl) (fun _ _ => rfl) hS.2.2.2.2.1 hS), hJ, hJ2, g1, hW⟩
    refine it2 (fun _ => ?_) (fun _ => ?_)
    · obtain ⟨n, nr, nd, nc, na, nw, sz, nx, w, ⟨rfl, rfl, rfl, rfl, rfl, rfl, rfl, rfl, rfl⟩, hX, hH, ⟨⟨rfl, rfl, rfl, rfl, rfl⟩, t1, t2, t3, t4⟩, hS, hJ, hJ2, hq, hW⟩ := hI
      obtain ⟨m, hm, em⟩ := hS.2.1
      have hm2 : m < 2 ^ 31 := by omega
      have hHT : HT a_house nd na nw ta_oneSide ta_otherSide ta_needs ta_actRoom ta_restsOn ta_wind := ⟨t1, fun a ha => ⟨(t3 a ha).1, (t3 a ha).2.2.1, (t3 a ha).2.2.2⟩, t4⟩
      obtain ⟨r, q', now', ad', e1, e2, g1, g2⟩ := o_guard (ad := a_aside) hH hHT hS.1 hm em hq (xs (i + 1))
      refine bd r1 ?_
      refine bd e1 ?_
      refine bd r1 ?_
      refine bd e2 ?_
      refine it1 rfl ?_
      have hnc6 : nc ≤ 6 := hH.2.1.2.2.1
      have hna6 : na ≤ 6 := hH.2.1.2.2.2.1
      refine cont _ _ _ _ _ _ _ _ _ _ _ _ _ _ _ _ _ _ _ _ _ _ _ _ _ _ _ _ _ _ _ _ _ _ _ _ _ _ _ _ _ _ _ _ _ _ _ _ _ _ _ _ _ _ _ _ _ _ _ _ _ _ _ _ _ _ _ _ _ _ _ _ _ _ _ _ _ ?_
      exact ⟨n, nr, nd, nc, na, nw, sz, nx, w, ⟨rfl, rfl, rfl, (row_ext (fun k hk => (g2 k hk).symm)), rfl, rfl, rfl, rfl, rfl⟩, hX, hH, ⟨⟨rfl, rfl, rfl, rfl, rfl⟩, t1, t2, t3, t4⟩, (ST_ext hnc6 hna6 (fun k hk => (g2 k hk).symm) (fun _ _ => rfl) (fun _ _ => rfl) hS.2.2.2.2.1 hS), hJ, hJ2, g1, hW⟩
    refine it2 (fun _ => ?_) (fun _ => ?_)
    · obtain ⟨n, nr, nd, nc, na, nw, sz, nx, w, ⟨rfl, rfl, rfl, rfl, rfl, rfl, rfl, rfl, rfl⟩, hX, hH, ⟨⟨rfl, rfl, rfl, rfl, rfl⟩, t1, t2, t3, t4⟩, hS, hJ, hJ2, hq, hW⟩ := hI
      obtain ⟨r, e1, e2⟩ := o_falls hH (fun a ha => (t3 a ha).2.2.2) (xs (i + 1))
      refine bd r1 ?_
      refine bd e1 ?_
      refine bd r1 ?_
      refine bd e2 ?_
      refine it1 rfl ?_
      refine cont _ _ _ _ _ _ _ _ _ _ _ _ _ _ _ _ _ _ _ _ _ _ _ _ _ _ _ _ _ _ _ _ _ _ _ _ _ _ _ _ _ _ _ _ _ _ _ _ _ _ _ _ _ _ _ _ _ _ _ _ _ _ _ _ _ _ _ _ _ _ _ _ _ _ _ _ _ ?_
      exact ⟨n, nr, nd, nc, na, nw, sz, nx, w, ⟨rfl, rfl, rfl, rfl, rfl, rfl, rfl, rfl, rfl⟩, hX, hH, ⟨⟨rfl, rfl, rfl, rfl, rfl⟩, t1, t2, t3, t4⟩, hS, hJ, hJ2, hq, hW⟩
    refine it2 (fun _ => ?_) (fun _ => ?_)
    · obtain ⟨n, nr, nd, nc, na, nw, sz, nx, w, ⟨rfl, rfl, rfl, rfl, rfl, rfl, rfl, rfl, rfl⟩, hX, hH, ⟨⟨rfl, rfl, rfl, rfl, rfl⟩, t1, t2, t3, t4⟩, hS, hJ, hJ2, hq, hW⟩ := hI
      obtain ⟨r, w', aw', bw', e1, e2, g1, g2⟩ := o_wants hW.1 hW.2 (xs (i + 1))
      refine bd r1 ?_
      refine bd e1 ?_
      refine bd r1 ?_
      refine bd e2 ?_
      refine it1 rfl ?_
      refine cont _ _ _ _ _ _ _ _ _ _ _ _ _ _ _ _ _ _ _ _ _ _ _ _ _ _ _ _ _ _ _ _ _ _ _ _ _ _ _ _ _ _ _ _ _ _ _ _ _ _ _ _ _ _ _ _ _ _ _ _ _ _ _ _ _ _ _ _ _ _ _ _ _ _ _ _ _ ?_
      exact ⟨n, nr, nd, nc, na, nw, sz, nx, w', ⟨rfl, rfl, rfl, rfl, rfl, rfl, rfl, rfl, rfl⟩, hX, hH, ⟨⟨rfl, rfl, rfl, rfl, rfl⟩, t1, t2, t3, t4⟩, hS, hJ, hJ2, hq, ⟨g1, g2⟩⟩
    refine it2 (fun _ => ?_) (fun _ => ?_)
    · obtain ⟨n, nr, nd, nc, na, nw, sz, nx, w, ⟨rfl, rfl, rfl, rfl, rfl, rfl, rfl, rfl, rfl⟩, hX, hH, ⟨⟨rfl, rfl, rfl, rfl, rfl⟩, t1, t2, t3, t4⟩, hS, hJ, hJ2, hq, hW⟩ := hI
      refine bd rfl ?_
      refine bd rfl ?_
      refine it1 rfl ?_
      refine cont _ _ _ _ _ _ _ _ _ _ _ _ _ _ _ _ _ _ _ _ _ _ _ _ _ _ _ _ _ _ _ _ _ _ _ _ _ _ _ _ _ _ _ _ _ _ _ _ _ _ _ _ _ _ _ _ _ _ _ _ _ _ _ _ _ _ _ _ _ _ _ _ _ _ _ _ _ ?_
      exact ⟨n, nr, nd, nc, na, nw, sz, nx, 0, ⟨rfl, rfl, rfl, rfl, rfl, rfl, rfl, rfl, rfl⟩, hX, hH, ⟨⟨rfl, rfl, rfl, rfl, rfl⟩, t1, t2, t3, t4⟩, hS, hJ, hJ2, hq, ⟨by omega, fun i hi => absurd hi (by omega)⟩⟩
    refine it2 (fun _ => ?_) (fun _ => ?_)
    · obtain ⟨n, nr, nd, nc, na, nw, sz, nx, w, ⟨rfl, rfl, rfl, rfl, rfl, rfl, rfl, rfl, rfl⟩, hX, hH, ⟨⟨rfl, rfl, rfl, rfl, rfl⟩, t1, t2, t3, t4⟩, hS, hJ, hJ2, hq, hW⟩ := hI
      obtain ⟨r, bc', bs', bway', stock', rem', way', by', over', e1, e2⟩ := o_cut (bway := ba_bestWay) (stock := ba_stock) (rem := ba_remains) (way := ba_way) (by_ := a_by) (over := a_over) (bc := b_bestCandles) (bs := b_bestStock) hH hS.1 hW.1 hW.2 (xs (i + 1))
      refine bd r1 ?_
      refine bd e1 ?_
      refine bd r1 ?_
      refine bd e2 ?_
      refine it1 rfl ?_
      refine cont _ _ _ _ _ _ _ _ _ _ _ _ _ _ _ _ _ _ _ _ _ _ _ _ _ _ _ _ _ _ _ _ _ _ _ _ _ _ _ _ _ _ _ _ _ _ _ _ _ _ _ _ _ _ _ _ _ _ _ _ _ _ _ _ _ _ _ _ _ _ _ _ _ _ _ _ _ ?_
      exact ⟨n, nr, nd, nc, na, nw, sz, nx, w, ⟨rfl, rfl, rfl, rfl, rfl, rfl, rfl, rfl, rfl⟩, hX, hH, ⟨⟨rfl, rfl, rfl, rfl, rfl⟩, t1, t2, t3, t4⟩, hS, hJ, hJ2, hq, hW⟩
    refine it2 (fun _ => ?_) (fun _ => ?_)
    · obtain ⟨n, nr, nd, nc, na, nw, sz, nx, w, ⟨rfl, rfl, rfl, rfl, rfl, rfl, rfl, rfl, rfl⟩, hX, hH, ⟨⟨rfl, rfl, rfl, rfl, rfl⟩, t1, t2, t3, t4⟩, hS, hJ, hJ2, hq, hW⟩ := hI
      obtain ⟨r, e1, e2⟩ := o_shown (now := a_now) hH (fun c hc => (t2 c hc).1) (xs (i + 1)) (xs (i + 2))
      refine bd r1 ?_
      refine bd r2 ?_
      refine bd e1 ?_
      refine bd r1 ?_
      refine bd r2 ?_
      refine bd e2 ?_
      refine it1 rfl ?_
      refine cont _ _ _ _ _ _ _ _ _ _ _ _ _ _ _ _ _ _ _ _ _ _ _ _ _ _ _ _ _ _ _ _ _ _ _ _ _ _ _ _ _ _ _ _ _ _ _ _ _ _ _ _ _ _ _ _ _ _ _ _ _ _ _ _ _ _ _ _ _ _ _ _ _ _ _ _ _ ?_
      exact ⟨n, nr, nd, nc, na, nw, sz, nx, w, ⟨rfl, rfl, rfl, rfl, rfl, rfl, rfl, rfl, rfl⟩, hX, hH, ⟨⟨rfl, rfl, rfl, rfl, rfl⟩, t1, t2, t3, t4⟩, hS, hJ, hJ2, hq, hW⟩
    refine it2 (fun _ => ?_) (fun _ => ?_)
    · obtain ⟨n, nr, nd, nc, na, nw, sz, nx, w, ⟨rfl, rfl, rfl, rfl, rfl, rfl, rfl, rfl, rfl⟩, hX, hH, ⟨⟨rfl, rfl, rfl, rfl, rfl⟩, t1, t2, t3, t4⟩, hS, hJ, hJ2, hq, hW⟩ := hI
      obtain ⟨m, hm, em⟩ := hS.2.1
      have hm2 : m < 2 ^ 31 := by omega
      have hHT : HT a_house nd na nw ta_oneSide ta_otherSide ta_needs ta_actRoom ta_restsOn ta_wind := ⟨t1, fun a ha => ⟨(t3 a ha).1, (t3 a ha).2.2.1, (t3 a ha).2.2.2⟩, t4⟩
      obtain ⟨r, q', now', ad', e1, e2, g1, g2⟩ := o_odds (ad := a_aside) hH hHT hS.1 hm em hq (xs (i + 1)) (xs (i + 2)) (xs (i + 3)) (xs (i + 4))
      refine bd r1 ?_
      refine bd r2 ?_
      refine bd r3 ?_
      refine bd r4 ?_
      refine bd e1 ?_
      refine bd r1 ?_
      refine bd r2 ?_
      refine bd r3 ?_
      refine bd r4 ?_
      refine bd e2 ?_
      refine it1 rfl ?_
      have hnc6 : nc ≤ 6 := hH.2.1.2.2.1
      have hna6 : na ≤ 6 := hH.2.1.2.2.2.1
      refine cont _ _ _ _ _ _ _ _ _ _ _ _ _ _ _ _ _ _ _ _ _ _ _ _ _ _ _ _ _ _ _ _ _ _ _ _ _ _ _ _ _ _ _ _ _ _ _ _ _ _ _ _ _ _ _ _ _ _ _ _ _ _ _ _ _ _ _ _ _ _ _ _ _ _ _ _ _ ?_
      exact ⟨n, nr, nd, nc, na, nw, sz, nx, w, ⟨rfl, rfl, rfl, (row_ext (fun k hk => (g2 k hk).symm)), rfl, rfl, rfl, rfl, rfl⟩, hX, hH, ⟨⟨rfl, rfl, rfl, rfl, rfl⟩, t1, t2, t3, t4⟩, (ST_ext hnc6 hna6 (fun k hk => (g2 k hk).symm) (fun _ _ => rfl) (fun _ _ => rfl) hS.2.2.2.2.1 hS), hJ, hJ2, g1, hW⟩
    refine it2 (fun _ => ?_) (fun _ => ?_)
    · obtain ⟨n, nr, nd, nc, na, nw, sz, nx, w, ⟨rfl, rfl, htr, rfl, rfl, rfl, rfl, rfl, rfl⟩, hX, hH, ⟨⟨rfl, rfl, rfl, rfl, rfl⟩, t1, t2, t3, t4⟩, hS, hJ, hJ2, hq, hW⟩ := hI
      obtain ⟨r, tr', e1, e2⟩ := o_mark hH hS.1 (fun c hc => (t2 c hc).1) x_traced (xs (i + 1)) (xs (i + 2))
      refine bd r1 ?_
      refine bd r2 ?_
      refine bd e1 ?_
      refine bd r1 ?_
      refine bd r2 ?_
      refine bd (show f_X8_mark g_trace a_house a_now (xs (i + 1)) (xs (i + 2)) = _ by rw [htr]; exact e2) ?_
      refine it1 rfl ?_
      refine cont _ _ _ _ _ _ _ _ _ _ _ _ _ _ _ _ _ _ _ _ _ _ _ _ _ _ _ _ _ _ _ _ _ _ _ _ _ _ _ _ _ _ _ _ _ _ _ _ _ _ _ _ _ _ _ _ _ _ _ _ _ _ _ _ _ _ _ _ _ _ _ _ _ _ _ _ _ ?_
      exact ⟨n, nr, nd, nc, na, nw, sz, nx, w, ⟨rfl, rfl, rfl, rfl, rfl, rfl, rfl, rfl, rfl⟩, hX, hH, ⟨⟨rfl, rfl, rfl, rfl, rfl⟩, t1, t2, t3, t4⟩, hS, hJ, hJ2, hq, hW⟩
    refine it2 (fun _ => ?_) (fun _ => ?_)
    · obtain ⟨n, nr, nd, nc, na, nw, sz, nx, w, ⟨rfl, rfl, rfl, rfl, rfl, rfl, rfl, rfl, rfl⟩, hX, hH, ⟨⟨rfl, rfl, rfl, rfl, rfl⟩, t1, t2, t3, t4⟩, hS, hJ, hJ2, hq, hW⟩ := hI
      obtain ⟨r, ik', irow', is', in', irows', jk', jrow', js', jn', jrows', kept', e1, e2, g1, g2⟩ := o_keep hH hS hJ hJ2 (xs (i + 1))
      refine bd r1 ?_
      refine bd e1 ?_
      refine bd r1 ?_
      refine bd e2 ?_
      refine it1 rfl ?_
      refine cont _ _ _ _ _ _ _ _ _ _ _ _ _ _ _ _ _ _ _ _ _ _ _ _ _ _ _ _ _ _ _ _ _ _ _ _ _ _ _ _ _ _ _ _ _ _ _ _ _ _ _ _ _ _ _ _ _ _ _ _ _ _ _ _ _ _ _ _ _ _ _ _ _ _ _ _ _ ?_
      exact ⟨n, nr, nd, nc, na, nw, sz, nx, w, ⟨rfl, rfl, rfl, rfl, rfl, rfl, rfl, rfl, rfl⟩, hX, hH, ⟨⟨rfl, rfl, rfl, rfl, rfl⟩, t1, t2, t3, t4⟩, hS, g1, g2, hq, hW⟩
    refine it2 (fun _ => ?_) (fun _ => ?_)
    · obtain ⟨n, nr, nd, nc, na, nw, sz, nx, w, ⟨rfl, rfl, rfl, rfl, rfl, rfl, rfl, rfl, rfl⟩, hX, hH, ⟨⟨rfl, rfl, rfl, rfl, rfl⟩, t1, t2, t3, t4⟩, hS, hJ, hJ2, hq, hW⟩ := hI
      obtain ⟨r, now', sz', nx', rows', u', e1, e2, g1⟩ := o_back hH hS hJ hJ2 (xs (i + 1))
      refine bd r1 ?_
      refine bd e1 ?_
      refine bd r1 ?_
      refine bd e2 ?_
      refine it1 rfl ?_
      refine cont _ _ _ _ _ _ _ _ _ _ _ _ _ _ _ _ _ _ _ _ _ _ _ _ _ _ _ _ _ _ _ _ _ _ _ _ _ _ _ _ _ _ _ _ _ _ _ _ _ _ _ _ _ _ _ _ _ _ _ _ _ _ _ _ _ _ _ _ _ _ _ _ _ _ _ _ _ ?_
      exact ⟨n, nr, nd, nc, na, nw, sz', nx', w, ⟨rfl, rfl, rfl, rfl, rfl, rfl, rfl, rfl, rfl⟩, hX, hH, ⟨⟨rfl, rfl, rfl, rfl, rfl⟩, t1, t2, t3, t4⟩, g1, hJ, hJ2, hq, hW⟩
    refine it2 (fun _ => ?_) (fun _ => ?_)
    · obtain ⟨n, nr, nd, nc, na, nw, sz, nx, w, ⟨rfl, rfl, rfl, rfl, rfl, rfl, rfl, rfl, rfl⟩, hX, hH, ⟨⟨rfl, rfl, rfl, rfl, rfl⟩, t1, t2, t3, t4⟩, hS, hJ, hJ2, hq, hW⟩ := hI
      obtain ⟨r, e1, e2⟩ := o_count hH (nI n) (nI sz) (nI w) (xs (i + 1))
      refine bd r1 ?_
      refine bd e1 ?_
      refine bd r1 ?_
      refine bd e2 ?_
      refine it1 rfl ?_
      refine cont _ _ _ _ _ _ _ _ _ _ _ _ _ _ _ _ _ _ _ _ _ _ _ _ _ _ _ _ _ _ _ _ _ _ _ _ _ _ _ _ _ _ _ _ _ _ _ _ _ _ _ _ _ _ _ _ _ _ _ _ _ _ _ _ _ _ _ _ _ _ _ _ _ _ _ _ _ ?_
      exact ⟨n, nr, nd, nc, na, nw, sz, nx, w, ⟨rfl, rfl, rfl, rfl, rfl, rfl, rfl, rfl, rfl⟩, hX, hH, ⟨⟨rfl, rfl, rfl, rfl, rfl⟩, t1, t2, t3, t4⟩, hS, hJ, hJ2, hq, hW⟩
    refine it2 (fun _ => ?_) (fun _ => ?_)
    · obtain ⟨n, nr, nd, nc, na, nw, sz, nx, w, ⟨rfl, rfl, rfl, rfl, rfl, rfl, rfl, rfl, rfl⟩, hX, hH, ⟨⟨rfl, rfl, rfl, rfl, rfl⟩, t1, t2, t3, t4⟩, hS, hJ, hJ2, hq, hW⟩ := hI
      refine bd rfl ?_
      refine bd rfl ?_
      refine it1 (lg_same _) ?_
      refine cont _ _ _ _ _ _ _ _ _ _ _ _ _ _ _ _ _ _ _ _ _ _ _ _ _ _ _ _ _ _ _ _ _ _ _ _ _ _ _ _ _ _ _ _ _ _ _ _ _ _ _ _ _ _ _ _ _ _ _ _ _ _ _ _ _ _ _ _ _ _ _ _ _ _ _ _ _ ?_
      exact ⟨n, nr, nd, nc, na, nw, sz, nx, w, ⟨rfl, rfl, rfl, rfl, rfl, rfl, rfl, rfl, rfl⟩, hX, hH, ⟨⟨rfl, rfl, rfl, rfl, rfl⟩, t1, t2, t3, t4⟩, hS, hJ, hJ2, hq, hW⟩
    exact cont _ _ _ _ _ _ _ _ _ _ _ _ _ _ _ _ _ _ _ _ _ _ _ _ _ _ _ _ _ _ _ _ _ _ _ _ _ _ _ _ _ _ _ _ _ _ _ _ _ _ _ _ _ _ _ _ _ _ _ _ _ _ _ _ _ _ _ _ _ _ _ _ _ _ _ _ _ hI
