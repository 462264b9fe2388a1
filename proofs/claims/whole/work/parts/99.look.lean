abbrev wM (h0 h1 h2 h3 h4 h5 h6 h7 h8 h9 h10 : Nat) (cI cB cM cR : ClassId) (g_size : Int32) (g_at : Int32) (g_begin : Int32) (g_token : Int32) (g_told : Int32) (g_undos : Int32) (g_wanted : Int32) (g_trace : Int64) (a_text : Nat → Int32) (a_read : Nat → Int32) (a_house : Nat → Int32) (a_now : Nat → Int32) (a_undone : Nat → Int32) (a_aside : Nat → Int32) (a_want : Nat → Int32) (a_by : Nat → Int32) (a_over : Nat → Int32) (a_kept : Nat → Int32) : va_W := [(h0, .inr (8, [.ref h1, .int g_size, .int g_at, .int g_begin, .int g_token, .int g_told, .ref h2, .ref h3, .ref h4, .ref h5, .int g_undos, .ref h6, .int g_wanted, .ref h7, .ref h8, .ref h9, .long g_trace, .ref h10])), (h1, .inl (cI, 200, .inl a_text)), (h2, .inl (cI, 59, .inl a_read)), (h3, .inl (cI, 59, .inl a_house)), (h4, .inl (cI, 47, .inl a_now)), (h5, .inl (cI, 470, .inl a_undone)), (h6, .inl (cI, 47, .inl a_aside)), (h7, .inl (cI, 6, .inl a_want)), (h8, .inl (cI, 6, .inl a_by)), (h9, .inl (cI, 6, .inl a_over)), (h10, .inl (cI, 1038, .inl a_kept))]
def f_X8_in  (v0 : Int64) (v2 : Int64) (v4 : Int64) : Option (Int32) := if (lg_cmp v0 v2) < 0 then (some 0) else (if 0 < (lg_cmp v0 v4) then (some 0) else (some 1))
set_option maxHeartbeats 40000000 in
set_option maxRecDepth 100000 in
theorem cm_X8_in (l : Launch) (D : va_G) (cI cB cM cR : ClassId) (sz : Nat)  (v0 : Int64) (v2 : Int64) (v4 : Int64) (out : Int32) (hf : f_X8_in v0 v2 v4 = some out) : Met l yX8_in wsX8_in ({ frames := 0, cells := 0, slots := 0, locals := 0 }) (PcW D (tyL cI cB cM cR) [.long v0, .long v2, .long v4] sz []) (QiW D (tyL cI cB cM cR) out [] (va_A [] sz)) 0 0 (va_A [] sz) := by
  refine x_met (Qf := fun A => QiW D (tyL cI cB cM cR) out [] A) (by decide) rfl (Nat.le_of_ble_eq_true rfl) ?_
  intro p e s m below meth c A hx hb hr hts hown hml hlocks hA hNW hK hP hD hS ls hl
  have hl : lv_has ls 6 [(0, .long v0), (2, .long v2), (4, .long v4)] := hl
  unfold f_X8_in at hf
  refine lv_lload_n hx hb dX8_in_0 rfl (lv_at hl 0 rfl) ?_
  refine lv_lload_n hx hb dX8_in_1 rfl (lv_at hl 1 rfl) ?_
  refine W.lcmp hx hb dX8_in_2 ?_
  refine lv_if_lt (tgt := 17) hx hb dX8_in_3 (by decide) (fun c1 => ?_) (fun c1 => ?_)
  · replace hf := it_ c1 hf
    refine lv_iconst (v := 0) hx hb dX8_in_17 (by decide) ?_
    exact x_zret (Rf := fun (o : Int32) => o) (Wf := fun (o : Int32) => []) hx hb hr (by decide) hlocks hf rfl hK hP hD hS dX8_in_18
  · replace hf := ie_ c1 hf
    refine lv_lload_n hx hb dX8_in_6 rfl (lv_at hl 0 rfl) ?_
    refine lv_lload hx hb dX8_in_7 (lv_at hl 2 rfl) ?_
    refine W.lcmp hx hb dX8_in_9 ?_
    refine lv_if_gt (tgt := 17) hx hb dX8_in_10 (by decide) (fun c2 => ?_) (fun c2 => ?_)
    · replace hf := it_ c2 hf
      refine lv_iconst (v := 0) hx hb dX8_in_17 (by decide) ?_
      exact x_zret (Rf := fun (o : Int32) => o) (Wf := fun (o : Int32) => []) hx hb hr (by decide) hlocks hf rfl hK hP hD hS dX8_in_18
    · replace hf := ie_ c2 hf
      refine lv_iconst (v := 1) hx hb dX8_in_13 (by decide) ?_
      refine lv_goto (tgt := 18) hx hb dX8_in_14 (by decide) ?_
      exact x_zret (Rf := fun (o : Int32) => o) (Wf := fun (o : Int32) => []) hx hb hr (by decide) hlocks hf rfl hK hP hD hS dX8_in_18
def f_X8_type (g_size : Int32) (a_text : Nat → Int32) (v1 : Int32) : Option (Int32 × Int32 × (Nat → Int32)) := (f_X8_in v1.toInt64 0 255).bind fun q1 => if q1 = 0 then (some ((-1), g_size, a_text)) else (if g_size = 200 then (some ((-3), g_size, a_text)) else ((wr_ a_text 200 g_size v1).bind fun y4 => some (g_size + 1, g_size + 1, y4)))
set_option maxHeartbeats 40000000 in
set_option maxRecDepth 100000 in
theorem cm_X8_type (l : Launch) (D : va_G) (cI cB cM cR : ClassId) (h0 h1 h2 h3 h4 h5 h6 h7 h8 h9 h10 : Nat) (sz : Nat) (g_size : Int32) (g_at : Int32) (g_begin : Int32) (g_token : Int32) (g_told : Int32) (g_undos : Int32) (g_wanted : Int32) (g_trace : Int64) (a_text : Nat → Int32) (a_read : Nat → Int32) (a_house : Nat → Int32) (a_now : Nat → Int32) (a_undone : Nat → Int32) (a_aside : Nat → Int32) (a_want : Nat → Int32) (a_by : Nat → Int32) (a_over : Nat → Int32) (a_kept : Nat → Int32) (v1 : Int32) (out : Int32 × Int32 × (Nat → Int32)) (hf : f_X8_type g_size a_text v1 = some out) : Met l yX8_type wsX8_type ({ frames := 1, cells := 0, slots := 0, locals := 25 }) (PcW D (tyL cI cB cM cR) [.ref h0, .int v1] sz (wM h0 h1 h2 h3 h4 h5 h6 h7 h8 h9 h10 cI cB cM cR g_size g_at g_begin g_token g_told g_undos g_wanted g_trace a_text a_read a_house a_now a_undone a_aside a_want a_by a_over a_kept)) (QiW D (tyL cI cB cM cR) out.1 (wM h0 h1 h2 h3 h4 h5 h6 h7 h8 h9 h10 cI cB cM cR out.2.1 g_at g_begin g_token g_told g_undos g_wanted g_trace out.2.2 a_read a_house a_now a_undone a_aside a_want a_by a_over a_kept) (va_A (wM h0 h1 h2 h3 h4 h5 h6 h7 h8 h9 h10 cI cB cM cR g_size g_at g_begin g_token g_told g_undos g_wanted g_trace a_text a_read a_house a_now a_undone a_aside a_want a_by a_over a_kept) sz)) 0 0 (va_A (wM h0 h1 h2 h3 h4 h5 h6 h7 h8 h9 h10 cI cB cM cR g_size g_at g_begin g_token g_told g_undos g_wanted g_trace a_text a_read a_house a_now a_undone a_aside a_want a_by a_over a_kept) sz) := by
  refine x_met (Qf := fun A => QiW D (tyL cI cB cM cR) out.1 (wM h0 h1 h2 h3 h4 h5 h6 h7 h8 h9 h10 cI cB cM cR out.2.1 g_at g_begin g_token g_told g_undos g_wanted g_trace out.2.2 a_read a_house a_now a_undone a_aside a_want a_by a_over a_kept) A) (by decide) rfl (Nat.le_of_ble_eq_true rfl) ?_
  intro p e s m below meth c A hx hb hr hts hown hml hlocks hA hNW hK hP hD hS ls hl
  have hl : lv_has ls 2 [(0, .ref h0), (1, .int v1)] := hl
  have kl_46 := hts (.constantLong RX8 46 255) (by decide +kernel)
  have fk_52 := hts (.fieldLink RX8 52 "LitWickModel" "size" "I") (by decide +kernel)
  have hw_X8 : ∀ w ∈ wsX80, w ∈ wsX8_type := by decide +kernel
  have fk_7 := hts (.fieldLink RX8 7 "LitWickModel" "text" "[I") (by decide +kernel)
  unfold f_X8_type at hf
  refine lv_iload_n hx hb dX8_type_0 rfl (lv_at hl 1 rfl) ?_
  refine lv_i2l (v := v1.toInt64) hx hb dX8_type_1 rfl ?_
  refine lv_lconst (v := 0) hx hb dX8_type_2 (by decide) ?_
  refine lv_ldc2 hx hb hown kl_46 dX8_type_3 ?_
  obtain ⟨q1, hq1, hf⟩ := ob_some hf
  refine x_Si (As := [.long v1.toInt64, .long 0, .long 255]) (rest := []) (wr := [(h0, .inr (8, [.ref h1, .int g_size, .int g_at, .int g_begin, .int g_token, .int g_told, .ref h2, .ref h3, .ref h4, .ref h5, .int g_undos, .ref h6, .int g_wanted, .ref h7, .ref h8, .ref h9, .long g_trace, .ref h10])), (h1, .inl (cI, 200, .inl a_text)), (h2, .inl (cI, 59, .inl a_read)), (h3, .inl (cI, 59, .inl a_house)), (h4, .inl (cI, 47, .inl a_now)), (h5, .inl (cI, 470, .inl a_undone)), (h6, .inl (cI, 47, .inl a_aside)), (h7, .inl (cI, 6, .inl a_want)), (h8, .inl (cI, 6, .inl a_by)), (h9, .inl (cI, 6, .inl a_over)), (h10, .inl (cI, 1038, .inl a_kept))]) (w2 := (wM h0 h1 h2 h3 h4 h5 h6 h7 h8 h9 h10 cI cB cM cR g_size g_at g_begin g_token g_told g_undos g_wanted g_trace a_text a_read a_house a_now a_undone a_aside a_want a_by a_over a_kept)) ⟨hx, hb, hml, hown, hts⟩ (cm_X8_in l D cI cB cM cR  H.size v1.toInt64 0 255 q1 hq1) (va_cwS 3 hts gX8_type_X8_in rfl rfl rfl (by decide +kernel) ⟨Nat.le_of_ble_eq_true rfl, Nat.le_of_ble_eq_true rfl⟩) hNW hK hP hD hS hA [] [0, 1, 2, 3, 4, 5, 6, 7, 8, 9, 10] [0, 1, 2, 3, 4, 5, 6, 7, 8, 9, 10] rfl rfl rfl rfl rfl rfl (by decide) rfl hl.1 rfl (Nat.le_of_ble_eq_true rfl) dX8_type_6 ⟨Nat.le_of_ble_eq_true rfl, Nat.le_of_ble_eq_true rfl⟩ (fun H locs hP hD hS => ?_)
  refine lv_if_ne (tgt := 14) hx hb dX8_type_9 (by decide) (fun c2 => ?_) (fun c2 => ?_)
  · replace hf := ie_ c2 hf
    refine lv_aload_n hx hb dX8_type_14 rfl (lv_at hl 0 rfl) ?_
    refine va_get (D := D) (ci := 8) (C := RX8) (T := TX8) (N := 18) hx hb hts hw_X8 hown hK hP 0 rfl rfl 1 (by decide) fk_52 (fun _ h => h) rfl dX8_type_15 ?_
    refine lv_sipush (v := 200) hx hb dX8_type_18 (by decide) ?_
    refine lv_icmp_ne (tgt := 27) hx hb dX8_type_21 (by decide) (fun c3 => ?_) (fun c3 => ?_)
    · replace hf := ie_ c3 hf
      refine lv_aload_n hx hb dX8_type_27 rfl (lv_at hl 0 rfl) ?_
      refine va_get (D := D) (ci := 8) (C := RX8) (T := TX8) (N := 18) hx hb hts hw_X8 hown hK hP 0 rfl rfl 0 (by decide) fk_7 (fun _ h => h) rfl dX8_type_28 ?_
      refine lv_aload_n hx hb dX8_type_31 rfl (lv_at hl 0 rfl) ?_
      refine va_get (D := D) (ci := 8) (C := RX8) (T := TX8) (N := 18) hx hb hts hw_X8 hown hK hP 0 rfl rfl 1 (by decide) fk_52 (fun _ h => h) rfl dX8_type_32 ?_
      refine lv_iload_n hx hb dX8_type_35 rfl (lv_at hl 1 rfl) ?_
      obtain ⟨y4, hy4, hf⟩ := ob_some hf
      refine x_iast hx hb hK hP hD hS 1 0 rfl rfl hy4 dX8_type_36 (fun H locs hP hD hS => ?_)
      have hP : va_P D vwCl (wM h0 h1 h2 h3 h4 h5 h6 h7 h8 h9 h10 cI cB cM cR g_size g_at g_begin g_token g_told g_undos g_wanted g_trace y4 a_read a_house a_now a_undone a_aside a_want a_by a_over a_kept) H := hP
      have hD : va_D A (wM h0 h1 h2 h3 h4 h5 h6 h7 h8 h9 h10 cI cB cM cR g_size g_at g_begin g_token g_told g_undos g_wanted g_trace y4 a_read a_house a_now a_undone a_aside a_want a_by a_over a_kept) := hD
      refine lv_aload_n hx hb dX8_type_37 rfl (lv_at hl 0 rfl) ?_
      refine lv_dup hx hb dX8_type_38 rfl ?_
      refine va_get (D := D) (ci := 8) (C := RX8) (T := TX8) (N := 18) hx hb hts hw_X8 hown hK hP 0 rfl rfl 1 (by decide) fk_52 (fun _ h => h) rfl dX8_type_39 ?_
      refine lv_iconst (v := 1) hx hb dX8_type_42 (by decide) ?_
      refine lv_iadd hx hb dX8_type_43 ?_
      refine va_put (D := D) (ci := 8) (v := .int (g_size + 1)) (ty := .int) (C := RX8) (T := TX8) (N := 18) hx hb hts hw_X8 tyX8 tyX8_ok nmX8 hown hK hP hD hS 0 rfl rfl 1 (by decide) fk_52 (fun _ h => h) rfl (by decide +kernel) rfl rfl (Nat.le_of_ble_eq_true rfl) dX8_type_44 (fun H locs hP hD hS => ?_)
      have hP : va_P D vwCl (wM h0 h1 h2 h3 h4 h5 h6 h7 h8 h9 h10 cI cB cM cR (g_size + 1) g_at g_begin g_token g_told g_undos g_wanted g_trace y4 a_read a_house a_now a_undone a_aside a_want a_by a_over a_kept) H := hP
      have hD : va_D A (wM h0 h1 h2 h3 h4 h5 h6 h7 h8 h9 h10 cI cB cM cR (g_size + 1) g_at g_begin g_token g_told g_undos g_wanted g_trace y4 a_read a_house a_now a_undone a_aside a_want a_by a_over a_kept) := hD
      refine lv_aload_n hx hb dX8_type_47 rfl (lv_at hl 0 rfl) ?_
      refine va_get (D := D) (ci := 8) (C := RX8) (T := TX8) (N := 18) hx hb hts hw_X8 hown hK hP 0 rfl rfl 1 (by decide) fk_52 (fun _ h => h) rfl dX8_type_48 ?_
      exact x_iret (Rf := fun (o : Int32 × Int32 × (Nat → Int32)) => o.1) (Wf := fun (o : Int32 × Int32 × (Nat → Int32)) => (wM h0 h1 h2 h3 h4 h5 h6 h7 h8 h9 h10 cI cB cM cR o.2.1 g_at g_begin g_token g_told g_undos g_wanted g_trace o.2.2 a_read a_house a_now a_undone a_aside a_want a_by a_over a_kept)) hx hb hr hlocks hf rfl hK hP hD hS dX8_type_51
    · replace hf := it_ c3 hf
      refine lv_bipush (v := (-3)) hx hb dX8_type_24 (by decide) ?_
      exact x_iret (Rf := fun (o : Int32 × Int32 × (Nat → Int32)) => o.1) (Wf := fun (o : Int32 × Int32 × (Nat → Int32)) => (wM h0 h1 h2 h3 h4 h5 h6 h7 h8 h9 h10 cI cB cM cR o.2.1 g_at g_begin g_token g_told g_undos g_wanted g_trace o.2.2 a_read a_house a_now a_undone a_aside a_want a_by a_over a_kept)) hx hb hr hlocks hf rfl hK hP hD hS dX8_type_26
  · replace hf := it_ c2 hf
    refine lv_iconst (v := (-1)) hx hb dX8_type_12 (by decide) ?_
    exact x_iret (Rf := fun (o : Int32 × Int32 × (Nat → Int32)) => o.1) (Wf := fun (o : Int32 × Int32 × (Nat → Int32)) => (wM h0 h1 h2 h3 h4 h5 h6 h7 h8 h9 h10 cI cB cM cR o.2.1 g_at g_begin g_token g_told g_undos g_wanted g_trace o.2.2 a_read a_house a_now a_undone a_aside a_want a_by a_over a_kept)) hx hb hr hlocks hf rfl hK hP hD hS dX8_type_13
def f_X8_isLit (a_now : Nat → Int32) (v1 : Int32) : Option (Int32) := (rd_ a_now 47 (3 + (4 * v1))).bind fun x1 => if x1 = 1 then (some 1) else (some 0)
set_option maxHeartbeats 40000000 in
set_option maxRecDepth 100000 in
theorem cm_X8_isLit (l : Launch) (D : va_G) (cI cB cM cR : ClassId) (h0 h1 h2 h3 h4 h5 h6 h7 h8 h9 h10 : Nat) (sz : Nat) (g_size : Int32) (g_at : Int32) (g_begin : Int32) (g_token : Int32) (g_told : Int32) (g_undos : Int32) (g_wanted : Int32) (g_trace : Int64) (a_text : Nat → Int32) (a_read : Nat → Int32) (a_house : Nat → Int32) (a_now : Nat → Int32) (a_undone : Nat → Int32) (a_aside : Nat → Int32) (a_want : Nat → Int32) (a_by : Nat → Int32) (a_over : Nat → Int32) (a_kept : Nat → Int32) (v1 : Int32) (out : Int32) (hf : f_X8_isLit a_now v1 = some out) : Met l yX8_isLit wsX8_isLit ({ frames := 0, cells := 0, slots := 0, locals := 0 }) (PcW D (tyL cI cB cM cR) [.ref h0, .int v1] sz (wM h0 h1 h2 h3 h4 h5 h6 h7 h8 h9 h10 cI cB cM cR g_size g_at g_begin g_token g_told g_undos g_wanted g_trace a_text a_read a_house a_now a_undone a_aside a_want a_by a_over a_kept)) (QiW D (tyL cI cB cM cR) out (wM h0 h1 h2 h3 h4 h5 h6 h7 h8 h9 h10 cI cB cM cR g_size g_at g_begin g_token g_told g_undos g_wanted g_trace a_text a_read a_house a_now a_undone a_aside a_want a_by a_over a_kept) (va_A (wM h0 h1 h2 h3 h4 h5 h6 h7 h8 h9 h10 cI cB cM cR g_size g_at g_begin g_token g_told g_undos g_wanted g_trace a_text a_read a_house a_now a_undone a_aside a_want a_by a_over a_kept) sz)) 0 0 (va_A (wM h0 h1 h2 h3 h4 h5 h6 h7 h8 h9 h10 cI cB cM cR g_size g_at g_begin g_token g_told g_undos g_wanted g_trace a_text a_read a_house a_now a_undone a_aside a_want a_by a_over a_kept) sz) := by
  refine x_met (Qf := fun A => QiW D (tyL cI cB cM cR) out (wM h0 h1 h2 h3 h4 h5 h6 h7 h8 h9 h10 cI cB cM cR g_size g_at g_begin g_token g_told g_undos g_wanted g_trace a_text a_read a_house a_now a_undone a_aside a_want a_by a_over a_kept) A) (by decide) rfl (Nat.le_of_ble_eq_true rfl) ?_
  intro p e s m below meth c A hx hb hr hts hown hml hlocks hA hNW hK hP hD hS ls hl
  have hl : lv_has ls 2 [(0, .ref h0), (1, .int v1)] := hl
  have fk_19 := hts (.fieldLink RX8 19 "LitWickModel" "now" "[I") (by decide +kernel)
  have hw_X8 : ∀ w ∈ wsX80, w ∈ wsX8_isLit := by decide +kernel
  unfold f_X8_isLit at hf
  refine lv_aload_n hx hb dX8_isLit_0 rfl (lv_at hl 0 rfl) ?_
  refine va_get (D := D) (ci := 8) (C := RX8) (T := TX8) (N := 18) hx hb hts hw_X8 hown hK hP 0 rfl rfl 8 (by decide) fk_19 (fun _ h => h) rfl dX8_isLit_1 ?_
  refine lv_iconst (v := 3) hx hb dX8_isLit_4 (by decide) ?_
  refine lv_iconst (v := 4) hx hb dX8_isLit_5 (by decide) ?_
  refine lv_iload_n hx hb dX8_isLit_6 rfl (lv_at hl 1 rfl) ?_
  refine lv_imul hx hb dX8_isLit_7 ?_
  refine lv_iadd hx hb dX8_isLit_8 ?_
  obtain ⟨x1, hx1, hf⟩ := ob_some hf
  refine x_iald hx hb hK hP 4 0 rfl rfl hx1 dX8_isLit_9 ?_
  refine lv_iconst (v := 1) hx hb dX8_isLit_10 (by decide) ?_
  refine lv_icmp_ne (tgt := 18) hx hb dX8_isLit_11 (by decide) (fun c2 => ?_) (fun c2 => ?_)
  · replace hf := ie_ c2 hf
    refine lv_iconst (v := 0) hx hb dX8_isLit_18 (by decide) ?_
    exact x_zret (Rf := fun (o : Int32) => o) (Wf := fun (o : Int32) => (wM h0 h1 h2 h3 h4 h5 h6 h7 h8 h9 h10 cI cB cM cR g_size g_at g_begin g_token g_told g_undos g_wanted g_trace a_text a_read a_house a_now a_undone a_aside a_want a_by a_over a_kept)) hx hb hr (by decide) hlocks hf rfl hK hP hD hS dX8_isLit_19
  · replace hf := it_ c2 hf
    refine lv_iconst (v := 1) hx hb dX8_isLit_14 (by decide) ?_
    refine lv_goto (tgt := 19) hx hb dX8_isLit_15 (by decide) ?_
    exact x_zret (Rf := fun (o : Int32) => o) (Wf := fun (o : Int32) => (wM h0 h1 h2 h3 h4 h5 h6 h7 h8 h9 h10 cI cB cM cR g_size g_at g_begin g_token g_told g_undos g_wanted g_trace a_text a_read a_house a_now a_undone a_aside a_want a_by a_over a_kept)) hx hb hr (by decide) hlocks hf rfl hK hP hD hS dX8_isLit_19
def f_X8_left (a_now : Nat → Int32) (v1 : Int32) : Option (Int32) := (rd_ a_now 47 (1 + (4 * v1))).bind fun x1 => some x1
set_option maxHeartbeats 40000000 in
set_option maxRecDepth 100000 in
theorem cm_X8_left (l : Launch) (D : va_G) (cI cB cM cR : ClassId) (h0 h1 h2 h3 h4 h5 h6 h7 h8 h9 h10 : Nat) (sz : Nat) (g_size : Int32) (g_at : Int32) (g_begin : Int32) (g_token : Int32) (g_told : Int32) (g_undos : Int32) (g_wanted : Int32) (g_trace : Int64) (a_text : Nat → Int32) (a_read : Nat → Int32) (a_house : Nat → Int32) (a_now : Nat → Int32) (a_undone : Nat → Int32) (a_aside : Nat → Int32) (a_want : Nat → Int32) (a_by : Nat → Int32) (a_over : Nat → Int32) (a_kept : Nat → Int32) (v1 : Int32) (out : Int32) (hf : f_X8_left a_now v1 = some out) : Met l yX8_left wsX8_left ({ frames := 0, cells := 0, slots := 0, locals := 0 }) (PcW D (tyL cI cB cM cR) [.ref h0, .int v1] sz (wM h0 h1 h2 h3 h4 h5 h6 h7 h8 h9 h10 cI cB cM cR g_size g_at g_begin g_token g_told g_undos g_wanted g_trace a_text a_read a_house a_now a_undone a_aside a_want a_by a_over a_kept)) (QiW D (tyL cI cB cM cR) out (wM h0 h1 h2 h3 h4 h5 h6 h7 h8 h9 h10 cI cB cM cR g_size g_at g_begin g_token g_told g_undos g_wanted g_trace a_text a_read a_house a_now a_undone a_aside a_want a_by a_over a_kept) (va_A (wM h0 h1 h2 h3 h4 h5 h6 h7 h8 h9 h10 cI cB cM cR g_size g_at g_begin g_token g_told g_undos g_wanted g_trace a_text a_read a_house a_now a_undone a_aside a_want a_by a_over a_kept) sz)) 0 0 (va_A (wM h0 h1 h2 h3 h4 h5 h6 h7 h8 h9 h10 cI cB cM cR g_size g_at g_begin g_token g_told g_undos g_wanted g_trace a_text a_read a_house a_now a_undone a_aside a_want a_by a_over a_kept) sz) := by
  refine x_met (Qf := fun A => QiW D (tyL cI cB cM cR) out (wM h0 h1 h2 h3 h4 h5 h6 h7 h8 h9 h10 cI cB cM cR g_size g_at g_begin g_token g_told g_undos g_wanted g_trace a_text a_read a_house a_now a_undone a_aside a_want a_by a_over a_kept) A) (by decide) rfl (Nat.le_of_ble_eq_true rfl) ?_
  intro p e s m below meth c A hx hb hr hts hown hml hlocks hA hNW hK hP hD hS ls hl
  have hl : lv_has ls 2 [(0, .ref h0), (1, .int v1)] := hl
  have fk_19 := hts (.fieldLink RX8 19 "LitWickModel" "now" "[I") (by decide +kernel)
  have hw_X8 : ∀ w ∈ wsX80, w ∈ wsX8_left := by decide +kernel
  unfold f_X8_left at hf
  refine lv_aload_n hx hb dX8_left_0 rfl (lv_at hl 0 rfl) ?_
  refine va_get (D := D) (ci := 8) (C := RX8) (T := TX8) (N := 18) hx hb hts hw_X8 hown hK hP 0 rfl rfl 8 (by decide) fk_19 (fun _ h => h) rfl dX8_left_1 ?_
  refine lv_iconst (v := 1) hx hb dX8_left_4 (by decide) ?_
  refine lv_iconst (v := 4) hx hb dX8_left_5 (by decide) ?_
  refine lv_iload_n hx hb dX8_left_6 rfl (lv_at hl 1 rfl) ?_
  refine lv_imul hx hb dX8_left_7 ?_
  refine lv_iadd hx hb dX8_left_8 ?_
  obtain ⟨x1, hx1, hf⟩ := ob_some hf
  refine x_iald hx hb hK hP 4 0 rfl rfl hx1 dX8_left_9 ?_
  exact x_iret (Rf := fun (o : Int32) => o) (Wf := fun (o : Int32) => (wM h0 h1 h2 h3 h4 h5 h6 h7 h8 h9 h10 cI cB cM cR g_size g_at g_begin g_token g_told g_undos g_wanted g_trace a_text a_read a_house a_now a_undone a_aside a_want a_by a_over a_kept)) hx hb hr hlocks hf rfl hK hP hD hS dX8_left_10
def f_X8_many_35 (a_now : Nat → Int32) (v1 : Int32) (v2 : Int32) (v3 : Int32) (v4 : Int32) (k_6 : Int32 → Int32 → Option (Int32)) (v6 : Int32) (s0 : Int32) (s1 : Int32) : Option (Int32) := k_6 (s1 + s0) (v6 + 1)
def f_X8_many_6 (a_now : Nat → Int32) (v1 : Int32) (v2 : Int32) (v3 : Int32) (v4 : Int32)  : Nat → Int32 → Int32 → Option (Int32)
  | 0, _, _ => none
  | n_6 + 1, v5, v6 => if v3 ≤ v6 then (some v5) else ((rd_ a_now 47 (v1 + (v2 * v6))).bind fun x2 => if x2 = v4 then (f_X8_many_35 a_now v1 v2 v3 v4 (f_X8_many_6 a_now v1 v2 v3 v4 n_6) v6 1 v5) else (f_X8_many_35 a_now v1 v2 v3 v4 (f_X8_many_6 a_now v1 v2 v3 v4 n_6) v6 0 v5))
def f_X8_many (a_now : Nat → Int32) (v1 : Int32) (v2 : Int32) (v3 : Int32) (v4 : Int32) : Option (Int32) := f_X8_many_6 a_now v1 v2 v3 v4 fl_ 0 0
set_option maxHeartbeats 40000000 in
set_option maxRecDepth 100000 in
theorem cm_X8_many (l : Launch) (D : va_G) (cI cB cM cR : ClassId) (h0 h1 h2 h3 h4 h5 h6 h7 h8 h9 h10 : Nat) (sz : Nat) (g_size : Int32) (g_at : Int32) (g_begin : Int32) (g_token : Int32) (g_told : Int32) (g_undos : Int32) (g_wanted : Int32) (g_trace : Int64) (a_text : Nat → Int32) (a_read : Nat → Int32) (a_house : Nat → Int32) (a_now : Nat → Int32) (a_undone : Nat → Int32) (a_aside : Nat → Int32) (a_want : Nat → Int32) (a_by : Nat → Int32) (a_over : Nat → Int32) (a_kept : Nat → Int32) (v1 : Int32) (v2 : Int32) (v3 : Int32) (v4 : Int32) (out : Int32) (hf : f_X8_many a_now v1 v2 v3 v4 = some out) : Met l yX8_many wsX8_many ({ frames := 0, cells := 0, slots := 0, locals := 0 }) (PcW D (tyL cI cB cM cR) [.ref h0, .int v1, .int v2, .int v3, .int v4] sz (wM h0 h1 h2 h3 h4 h5 h6 h7 h8 h9 h10 cI cB cM cR g_size g_at g_begin g_token g_told g_undos g_wanted g_trace a_text a_read a_house a_now a_undone a_aside a_want a_by a_over a_kept)) (QiW D (tyL cI cB cM cR) out (wM h0 h1 h2 h3 h4 h5 h6 h7 h8 h9 h10 cI cB cM cR g_size g_at g_begin g_token g_told g_undos g_wanted g_trace a_text a_read a_house a_now a_undone a_aside a_want a_by a_over a_kept) (va_A (wM h0 h1 h2 h3 h4 h5 h6 h7 h8 h9 h10 cI cB cM cR g_size g_at g_begin g_token g_told g_undos g_wanted g_trace a_text a_read a_house a_now a_undone a_aside a_want a_by a_over a_kept) sz)) 0 0 (va_A (wM h0 h1 h2 h3 h4 h5 h6 h7 h8 h9 h10 cI cB cM cR g_size g_at g_begin g_token g_told g_undos g_wanted g_trace a_text a_read a_house a_now a_undone a_aside a_want a_by a_over a_kept) sz) := by
  refine x_met (Qf := fun A => QiW D (tyL cI cB cM cR) out (wM h0 h1 h2 h3 h4 h5 h6 h7 h8 h9 h10 cI cB cM cR g_size g_at g_begin g_token g_told g_undos g_wanted g_trace a_text a_read a_house a_now a_undone a_aside a_want a_by a_over a_kept) A) (by decide) rfl (Nat.le_of_ble_eq_true rfl) ?_
  intro p e s m below meth c A hx hb hr hts hown hml hlocks hA hNW hK hP hD hS ls hl
  have hl : lv_has ls 7 [(0, .ref h0), (1, .int v1), (2, .int v2), (3, .int v3), (4, .int v4)] := hl
  have fk_19 := hts (.fieldLink RX8 19 "LitWickModel" "now" "[I") (by decide +kernel)
  have hw_X8 : ∀ w ∈ wsX80, w ∈ wsX8_many := by decide +kernel
  have B_6 : ∀ (n_6 : Nat) (v5 : Int32) (v6 : Int32) (H : Heap) (locs : List Loc) (ls : Array Slot), va_P D vwCl (wM h0 h1 h2 h3 h4 h5 h6 h7 h8 h9 h10 cI cB cM cR g_size g_at g_begin g_token g_told g_undos g_wanted g_trace a_text a_read a_house a_now a_undone a_aside a_want a_by a_over a_kept) H → va_D A (wM h0 h1 h2 h3 h4 h5 h6 h7 h8 h9 h10 cI cB cM cR g_size g_at g_begin g_token g_told g_undos g_wanted g_trace a_text a_read a_house a_now a_undone a_aside a_want a_by a_over a_kept) → va_S A s.heap H locs → lv_has ls 7 [(0, .ref h0), (1, .int v1), (2, .int v2), (3, .int v3), (4, .int v4), (5, .int v5), (6, .int v6)] → f_X8_many_6 a_now v1 v2 v3 v4 n_6 v5 v6 = some out → W p l e (headSpec wsX8_many ({ frames := 0, cells := 0, slots := 0, locals := 0 })).room s m ([.ref h0, .int v1, .int v2, .int v3, .int v4] : List Value).toArray below meth c H locs 0 0 (MQ below (QiW D (tyL cI cB cM cR) out (wM h0 h1 h2 h3 h4 h5 h6 h7 h8 h9 h10 cI cB cM cR g_size g_at g_begin g_token g_told g_undos g_wanted g_trace a_text a_read a_house a_now a_undone a_aside a_want a_by a_over a_kept) A) ([.ref h0, .int v1, .int v2, .int v3, .int v4] : List Value).toArray s 0 0 A) (F0 m 6 ls []) := by
    intro n_6
    induction n_6 with
    | zero => intro v5 v6 H locs ls hP hD hS hl hf; rw [f_X8_many_6] at hf; cases hf
    | succ n_6 ih_6 =>
      have B_35 : ∀ (v6 : Int32) (s0 : Int32) (s1 : Int32) (H : Heap) (locs : List Loc) (ls : Array Slot), va_P D vwCl (wM h0 h1 h2 h3 h4 h5 h6 h7 h8 h9 h10 cI cB cM cR g_size g_at g_begin g_token g_told g_undos g_wanted g_trace a_text a_read a_house a_now a_undone a_aside a_want a_by a_over a_kept) H → va_D A (wM h0 h1 h2 h3 h4 h5 h6 h7 h8 h9 h10 cI cB cM cR g_size g_at g_begin g_token g_told g_undos g_wanted g_trace a_text a_read a_house a_now a_undone a_aside a_want a_by a_over a_kept) → va_S A s.heap H locs → lv_has ls 7 [(0, .ref h0), (1, .int v1), (2, .int v2), (3, .int v3), (4, .int v4), (6, .int v6)] → f_X8_many_35 a_now v1 v2 v3 v4 (f_X8_many_6 a_now v1 v2 v3 v4 n_6) v6 s0 s1 = some out → W p l e (headSpec wsX8_many ({ frames := 0, cells := 0, slots := 0, locals := 0 })).room s m ([.ref h0, .int v1, .int v2, .int v3, .int v4] : List Value).toArray below meth c H locs 0 0 (MQ below (QiW D (tyL cI cB cM cR) out (wM h0 h1 h2 h3 h4 h5 h6 h7 h8 h9 h10 cI cB cM cR g_size g_at g_begin g_token g_told g_undos g_wanted g_trace a_text a_read a_house a_now a_undone a_aside a_want a_by a_over a_kept) A) ([.ref h0, .int v1, .int v2, .int v3, .int v4] : List Value).toArray s 0 0 A) (F0 m 35 ls [.int s0, .int s1]) := by
        intro v6 s0 s1 H locs ls hP hD hS hl hf
        unfold f_X8_many_35 at hf
        refine lv_iadd hx hb dX8_many_35 ?_
        refine lv_istore (lv' := [(5, .int (s1 + s0)), (0, .ref h0), (1, .int v1), (2, .int v2), (3, .int v3), (4, .int v4), (6, .int v6)]) hx hb dX8_many_36 hl (by decide) rfl (fun ls hl => ?_)
        refine lv_iinc (v := v6 + 1) (lv' := [(6, .int (v6 + 1)), (5, .int (s1 + s0)), (0, .ref h0), (1, .int v1), (2, .int v2), (3, .int v3), (4, .int v4)]) hx hb dX8_many_38 hl (k := 6) rfl rfl (by decide) rfl (fun ls hl => ?_)
        refine lv_goto (tgt := 6) hx hb dX8_many_41 (by decide) ?_
        exact ih_6 (s1 + s0) (v6 + 1) _ _ _ hP hD hS (lv_sub hl [2, 3, 4, 5, 6, 1, 0] rfl) hf
      intro v5 v6 H locs ls hP hD hS hl hf
      rw [f_X8_many_6] at hf
      refine lv_iload hx hb dX8_many_6 (lv_at hl 6 rfl) ?_
      refine lv_iload_n hx hb dX8_many_8 rfl (lv_at hl 3 rfl) ?_
      refine lv_icmp_ge (tgt := 44) hx hb dX8_many_9 (by decide) (fun c1 => ?_) (fun c1 => ?_)
      · replace hf := it_ c1 hf
        refine lv_iload hx hb dX8_many_44 (lv_at hl 5 rfl) ?_
        exact x_iret (Rf := fun (o : Int32) => o) (Wf := fun (o : Int32) => (wM h0 h1 h2 h3 h4 h5 h6 h7 h8 h9 h10 cI cB cM cR g_size g_at g_begin g_token g_told g_undos g_wanted g_trace a_text a_read a_house a_now a_undone a_aside a_want a_by a_over a_kept)) hx hb hr hlocks hf rfl hK hP hD hS dX8_many_46
      · replace hf := ie_ c1 hf
        refine lv_iload hx hb dX8_many_12 (lv_at hl 5 rfl) ?_
        refine lv_aload_n hx hb dX8_many_14 rfl (lv_at hl 0 rfl) ?_
        refine va_get (D := D) (ci := 8) (C := RX8) (T := TX8) (N := 18) hx hb hts hw_X8 hown hK hP 0 rfl rfl 8 (by decide) fk_19 (fun _ h => h) rfl dX8_many_15 ?_
        refine lv_iload_n hx hb dX8_many_18 rfl (lv_at hl 1 rfl) ?_
        refine lv_iload_n hx hb dX8_many_19 rfl (lv_at hl 2 rfl) ?_
        refine lv_iload hx hb dX8_many_20 (lv_at hl 6 rfl) ?_
        refine lv_imul hx hb dX8_many_22 ?_
        refine lv_iadd hx hb dX8_many_23 ?_
        obtain ⟨x2, hx2, hf⟩ := ob_some hf
        refine x_iald hx hb hK hP 4 0 rfl rfl hx2 dX8_many_24 ?_
        refine lv_iload hx hb dX8_many_25 (lv_at hl 4 rfl) ?_
        refine lv_icmp_ne (tgt := 34) hx hb dX8_many_27 (by decide) (fun c3 => ?_) (fun c3 => ?_)
        · replace hf := ie_ c3 hf
          refine lv_iconst (v := 0) hx hb dX8_many_34 (by decide) ?_
          exact B_35 v6 0 v5 _ _ _ hP hD hS (lv_sub hl [0, 1, 2, 3, 4, 6] rfl) hf
        · replace hf := it_ c3 hf
          refine lv_iconst (v := 1) hx hb dX8_many_30 (by decide) ?_
          refine lv_goto (tgt := 35) hx hb dX8_many_31 (by decide) ?_
          exact B_35 v6 1 v5 _ _ _ hP hD hS (lv_sub hl [0, 1, 2, 3, 4, 6] rfl) hf
  unfold f_X8_many at hf
  refine lv_iconst (v := 0) hx hb dX8_many_0 (by decide) ?_
  refine lv_istore (lv' := [(5, .int 0), (0, .ref h0), (1, .int v1), (2, .int v2), (3, .int v3), (4, .int v4)]) hx hb dX8_many_1 hl (by decide) rfl (fun ls hl => ?_)
  refine lv_iconst (v := 0) hx hb dX8_many_3 (by decide) ?_
  refine lv_istore (lv' := [(6, .int 0), (5, .int 0), (0, .ref h0), (1, .int v1), (2, .int v2), (3, .int v3), (4, .int v4)]) hx hb dX8_many_4 hl (by decide) rfl (fun ls hl => ?_)
  exact B_6 fl_ 0 0 _ _ _ hP hD hS (lv_sub hl [2, 3, 4, 5, 6, 1, 0] rfl) hf
