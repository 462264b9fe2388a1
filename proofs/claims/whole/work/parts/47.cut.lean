/-! cut -/
theorem mk_or {p : Nat → Bool} {c : Nat} (hc : c < 6) : mk_ p 6 ||| 2 ^ c = mk_ (fun k => p k || decide (c = k)) 6 := by
  obtain ⟨o1, o2⟩ := or_bit (mk_ p 6) (mk_64 (Nat.le_refl 6)) c hc
  refine mk_of (n := 6) o1 (fun k hk => ?_)
  rw [o2 k hk, mk_bit hk]
  congr 1
  by_cases e : c = k
  · rw [decide_eq_true e, e]; simp
  · rw [decide_eq_false e]; simp; omega
theorem sa_px' {L d : Nat → Nat} : ∀ {j : Nat}, (∀ k, k < j → d k < 6) → sa (px L d j) 6 = ln_ L j
  | 0, _ => rfl
  | j + 1, hd => by
    show sa (fun c => px L d j c + (if d j = c then L j else 0)) 6 = _
    rw [sa_one (hd j (by omega)), sa_px' (fun k hk => hd k (by omega))]
    rfl
theorem ub_no {d : Nat → Nat} {nc c : Nat} (hc : nc ≤ c) : ∀ {j : Nat}, (∀ k, k < j → d k < nc) → ub d j c = false
  | 0, _ => rfl
  | j + 1, hd => by
    unfold ub
    rw [ub_no hc (fun k hk => hd k (by omega)), decide_eq_false (by have := hd j (by omega); omega)]
    rfl
theorem left_over' {nc w : Nat} {L S d : Nat → Nat} (hd : ∀ k, k < w → d k < nc) (hnc : nc ≤ 6) (hf : fea nc L S w d) : sn (ub d w) (fun c => S c - px L d w c) 6 + ln_ L w = stk S d w := by
  rw [← sa_px' (L := L) (d := d) (fun k hk => Nat.lt_of_lt_of_le (hd k hk) hnc)]
  refine sn_split (fun c hc => ⟨fun hp => ?_, fun hp => px_no hp⟩)
  by_cases e : c < nc
  · exact hf c e
  · rw [ub_no (by omega) hd] at hp
    cases hp
theorem sn_trunc {p : Nat → Bool} {f : Nat → Nat} {n : Nat} : ∀ {N : Nat}, n ≤ N → (∀ j, n ≤ j → j < N → p j = false) → sn p f N = sn p f n
  | 0, h, _ => by rw [show n = 0 by omega]
  | N + 1, h, hp => by
    by_cases e : n = N + 1
    · rw [e]
    · rw [sn_s, hp N (by omega) (by omega), if_neg (by decide), Nat.add_zero, sn_trunc (N := N) (by omega) (fun j h1 h2 => hp j h1 (by omega))]
def ov_ (now : Nat → Int32) (c : Nat) : Int32 := if now (3 + 4 * c) = 1 then -1 else now (1 + 4 * c)
theorem m_fill {h now wn by_ : Nat → Int32} {nc : Nat} {g v1 v2 v3 v4 v5 : Int32} {K : Int32 → Int32 → Int32 → Int32 → (Nat → Int32) → (Nat → Int32) → Option (Int32 × (Nat → Int32) × (Nat → Int32))} (e2 : h 2 = nI nc) (hnc : nc ≤ 6) : ∀ (q j k : Nat), j + q = nc → q < k → ∀ over : Nat → Int32, (∀ c, c < j → over c = ov_ now c) → ∃ over', f_X8_cut_65 g h now wn v1 K k v2 v3 v4 v5 (nI j) by_ over = f_X8_cut_126 g h now wn v1 K fl_ v2 v3 v4 v5 0 v5 1 (g - 1) by_ over' ∧ ∀ c, c < nc → over' c = ov_ now c := by
  intro q
  induction q with
  | zero =>
    intro j k hj hk over ho
    obtain ⟨k, rfl⟩ : ∃ z, k = z + 1 := ⟨k - 1, by omega⟩
    have : j = nc := by omega
    subst this
    rw [f_X8_cut_65, rdL (by omega) (by omega), Option.bind_some, if_pos (by show h 2 ≤ nI j; rw [e2, nI_leI (by omega) (by omega)]; omega)]
    exact ⟨over, rfl, ho⟩
  | succ q ih =>
    intro j k hj hk over ho
    obtain ⟨k, rfl⟩ : ∃ z, k = z + 1 := ⟨k - 1, by omega⟩
    have fin : ∀ x : Int32, x = ov_ now j → ∃ over', f_X8_cut_101 g h now wn v1 K (f_X8_cut_65 g h now wn v1 K k) v2 v3 v4 v5 (nI j) x (nI j) by_ over = f_X8_cut_126 g h now wn v1 K fl_ v2 v3 v4 v5 0 v5 1 (g - 1) by_ over' ∧ ∀ c, c < nc → over' c = ov_ now c := fun x hx => by
      unfold f_X8_cut_101
      rw [wr_ok (by omega) (by omega), Option.bind_some, addR]
      refine ih (j + 1) k (by omega) (by omega) _ (fun c hc => ?_)
      by_cases e : c = j
      · subst e; rw [pk_us, hx]
      · rw [pk_un e]; exact ho c (by omega)
    rw [f_X8_cut_65, rdL (by omega) (by omega), Option.bind_some, if_neg (by show ¬ h 2 ≤ nI j; rw [e2, nI_leI (by omega) (by omega)]; omega), m_isLit (by omega), Option.bind_some, m_left (by omega), Option.bind_some]
    by_cases c : now (3 + 4 * j) = 1
    · rw [decide_eq_true c, bt0]
      exact fin _ (by unfold ov_; rw [if_pos c])
    · rw [decide_eq_false c, bf0]
      exact fin _ (by unfold ov_; rw [if_neg c])
theorem m_126 {h now wn by_ : Nat → Int32} {nr nd nc na w R : Nat} {L : Nat → Nat} {v1 v2 v3 v4 : Int32} {K : Int32 → Int32 → Int32 → Int32 → (Nat → Int32) → (Nat → Int32) → Option (Int32 × (Nat → Int32) × (Nat → Int32))} (e2 : h 2 = nI nc) (hN : NI h nr nd nc na now) (hnc : nc ≤ 6) (hw : w ≤ 6) (hL : ∀ i, i < w → 1 ≤ L i ∧ L i ≤ 60 ∧ wn i = nI (L i)) (hR : R < 2 ^ 31) (h0 : 0 < w → 0 < nc) : ∀ (q n k : Nat), n + q = w → q < k → ∀ over : Nat → Int32, (∀ c, c < nc → (sb (dg nc w R) w n c = true → now (3 + 4 * c) ≠ 1) ∧ sx L (dg nc w R) w n c ≤ Sf now c ∧ over c = (if now (3 + 4 * c) = 1 then -1 else nI (Sf now c - sx L (dg nc w R) w n c))) → (fea nc L (Sf now) w (dg nc w R) ∧ ∃ over', f_X8_cut_126 (nI w) h now wn v1 K k v2 v3 v4 (nI R) (nI (mk_ (sb (dg nc w R) w n) 6)) (nI (R / nc ^ n)) 1 (nI q - 1) by_ over = f_X8_cut_213 (nI w) h now wn v1 K fl_ v2 v3 v4 (nI R) (nI (mkd (dg nc w R) w)) 1 0 0 by_ over' ∧ ∀ c, c < nc → ub (dg nc w R) w c = true → over' c = nI (Sf now c - px L (dg nc w R) w c)) ∨ (¬ fea nc L (Sf now) w (dg nc w R) ∧ ∃ over', f_X8_cut_126 (nI w) h now wn v1 K k v2 v3 v4 (nI R) (nI (mk_ (sb (dg nc w R) w n) 6)) (nI (R / nc ^ n)) 1 (nI q - 1) by_ over = K v2 v3 v4 (nI (R + 1)) by_ over') := by
  obtain ⟨s1, s2, s3⟩ := Sf_is hN
  intro q
  induction q with
  | zero =>
    intro n k hn hk over ho
    obtain ⟨k, rfl⟩ : ∃ z, k = z + 1 := ⟨k - 1, by omega⟩
    have : n = w := by omega
    subst this
    refine Or.inl ⟨fun c hc => by rw [← sx_w]; exact (ho c hc).2.1, over, ?_, fun c hc hu => ?_⟩
    · rw [f_X8_cut_126, if_pos lt_m1, mk_ext (q := ub (dg nc n R) n) (fun c _ => sb_w)]
      rfl
    · obtain ⟨o1, o2, o3⟩ := ho c hc
      rw [o3, if_neg (o1 (by rw [sb_w]; exact hu)), sx_w]
  | succ q ih =>
    intro n k hn hk over ho
    obtain ⟨k, rfl⟩ : ∃ z, k = z + 1 := ⟨k - 1, by omega⟩
    have ih' := ih (n + 1) k (by omega) (by omega)
    have hnc0 := h0 (by omega)
    have hq : R / nc ^ n < 2 ^ 31 := Nat.lt_of_le_of_lt (Nat.div_le_self _ _) hR
    have hnz : ¬ nI nc = 0 := nI_ne0 hnc0 (by omega)
    have hc : (R / nc ^ n) % nc < nc := Nat.mod_lt _ hnc0
    have hdc : dg nc w R (w - 1 - n) = (R / nc ^ n) % nc := dg_w (by omega)
    have hwq : w - 1 - n = q := by omega
    obtain ⟨l1, l2, l3⟩ := hL q (by omega)
    have esx : ∀ c, sx L (dg nc w R) w (n + 1) c = sx L (dg nc w R) w n c + (if (R / nc ^ n) % nc = c then L q else 0) := fun c => by
      show sx L (dg nc w R) w n c + (if dg nc w R (w - 1 - n) = c then L (w - 1 - n) else 0) = _
      rw [hdc, hwq]
    have esb : ∀ c, sb (dg nc w R) w (n + 1) c = (sb (dg nc w R) w n c || decide ((R / nc ^ n) % nc = c)) := fun c => by
      show (sb (dg nc w R) w n c || decide (dg nc w R (w - 1 - n) = c)) = _
      rw [hdc]
    have emk : mk_ (sb (dg nc w R) w (n + 1)) 6 = mk_ (sb (dg nc w R) w n) 6 ||| 2 ^ ((R / nc ^ n) % nc) := by
      rw [mk_or (by omega)]
      exact mk_ext (fun c _ => esb c)
    have ediv : R / nc ^ n / nc = R / nc ^ (n + 1) := by rw [Nat.div_div_eq_div_mul, ← Nat.pow_succ]
    rw [emk, ← ediv] at ih'
    generalize hcc : (R / nc ^ n) % nc = c at hc hdc esx esb emk ih'
    obtain ⟨o1, o2, o3⟩ := ho c hc
    have hSc := s1 c (by omega)
    rw [f_X8_cut_126, nI_pred, if_neg (nI_pos (by omega)), if_neg (by decide), rdL (by omega) (by omega), Option.bind_some, Option.bind_some]
    show (_ ∧ ∃ over', ((nz_ (h 2)).bind fun _ => (nz_ (h 2)).bind fun _ => (rd_ over 6 (nI (R / nc ^ n) - nI (R / nc ^ n) / h 2 * h 2)).bind fun x20 => (rd_ wn 6 (nI q)).bind fun x21 => (wr_ over 6 (nI (R / nc ^ n) - nI (R / nc ^ n) / h 2 * h 2) (x20 - x21)).bind fun y22 => (rd_ y22 6 (nI (R / nc ^ n) - nI (R / nc ^ n) / h 2 * h 2)).bind fun x23 => if x23 < 0 then (f_X8_cut_199 (nI w) h now wn v1 K (f_X8_cut_126 (nI w) h now wn v1 K k) v2 v3 v4 (nI R) (nI (mk_ (sb (dg nc w R) w n) 6) ||| (1 <<< ((nI (R / nc ^ n) - nI (R / nc ^ n) / h 2 * h 2) &&& 31))) (nI (R / nc ^ n) / h 2) (nI q) 0 by_ y22) else (f_X8_cut_199 (nI w) h now wn v1 K (f_X8_cut_126 (nI w) h now wn v1 K k) v2 v3 v4 (nI R) (nI (mk_ (sb (dg nc w R) w n) 6) ||| (1 <<< ((nI (R / nc ^ n) - nI (R / nc ^ n) / h 2 * h 2) &&& 31))) (nI (R / nc ^ n) / h 2) (nI q) 1 by_ y22)) = _ ∧ _) ∨ (_ ∧ ∃ over', ((nz_ (h 2)).bind fun _ => (nz_ (h 2)).bind fun _ => (rd_ over 6 (nI (R / nc ^ n) - nI (R / nc ^ n) / h 2 * h 2)).bind fun x20 => (rd_ wn 6 (nI q)).bind fun x21 => (wr_ over 6 (nI (R / nc ^ n) - nI (R / nc ^ n) / h 2 * h 2) (x20 - x21)).bind fun y22 => (rd_ y22 6 (nI (R / nc ^ n) - nI (R / nc ^ n) / h 2 * h 2)).bind fun x23 => if x23 < 0 then (f_X8_cut_199 (nI w) h now wn v1 K (f_X8_cut_126 (nI w) h now wn v1 K k) v2 v3 v4 (nI R) (nI (mk_ (sb (dg nc w R) w n) 6) ||| (1 <<< ((nI (R / nc ^ n) - nI (R / nc ^ n) / h 2 * h 2) &&& 31))) (nI (R / nc ^ n) / h 2) (nI q) 0 by_ y22) else (f_X8_cut_199 (nI w) h now wn v1 K (f_X8_cut_126 (nI w) h now wn v1 K k) v2 v3 v4 (nI R) (nI (mk_ (sb (dg nc w R) w n) 6) ||| (1 <<< ((nI (R / nc ^ n) - nI (R / nc ^ n) / h 2 * h 2) &&& 31))) (nI (R / nc ^ n) / h 2) (nI q) 1 by_ y22)) = _)
    rw [e2, nz_ok hnz, Option.bind_some, Option.bind_some, pk_rem hq hnc0 (by omega), hcc, rd_ok (by omega) (by omega), Option.bind_some, rd_ok (by omega) (by omega), Option.bind_some, wr_ok (by omega) (by omega), Option.bind_some, rd_ok (by omega) (by omega), Option.bind_some, pk_us, l3, pk_div hq hnc0 (by omega), shl_d c (by omega), or_d _ (mk_64 (by omega)) c (by omega)]
    unfold f_X8_cut_199
    rw [dec_1 q (by omega)]
    -- no way
    have no : ¬ fea nc L (Sf now) w (dg nc w R) → (over c - nI (L q) < 0) → (fea nc L (Sf now) w (dg nc w R) ∧ ∃ over', (if over c - nI (L q) < 0 then f_X8_cut_126 (nI w) h now wn v1 K k v2 v3 v4 (nI R) (nI (mk_ (sb (dg nc w R) w n) 6 ||| 2 ^ c)) (nI (R / nc ^ n / nc)) 0 (nI q - 1) by_ (upd over c (over c - nI (L q))) else f_X8_cut_126 (nI w) h now wn v1 K k v2 v3 v4 (nI R) (nI (mk_ (sb (dg nc w R) w n) 6 ||| 2 ^ c)) (nI (R / nc ^ n / nc)) 1 (nI q - 1) by_ (upd over c (over c - nI (L q)))) = f_X8_cut_213 (nI w) h now wn v1 K fl_ v2 v3 v4 (nI R) (nI (mkd (dg nc w R) w)) 1 0 0 by_ over' ∧ ∀ c, c < nc → ub (dg nc w R) w c = true → over' c = nI (Sf now c - px L (dg nc w R) w c)) ∨ (¬ fea nc L (Sf now) w (dg nc w R) ∧ ∃ over', (if over c - nI (L q) < 0 then f_X8_cut_126 (nI w) h now wn v1 K k v2 v3 v4 (nI R) (nI (mk_ (sb (dg nc w R) w n) 6 ||| 2 ^ c)) (nI (R / nc ^ n / nc)) 0 (nI q - 1) by_ (upd over c (over c - nI (L q))) else f_X8_cut_126 (nI w) h now wn v1 K k v2 v3 v4 (nI R) (nI (mk_ (sb (dg nc w R) w n) 6 ||| 2 ^ c)) (nI (R / nc ^ n / nc)) 1 (nI q - 1) by_ (upd over c (over c - nI (L q)))) = K v2 v3 v4 (nI (R + 1)) by_ over') := fun hf hlt => by
      refine Or.inr ⟨hf, upd over c (over c - nI (L q)), ?_⟩
      rw [if_pos hlt]
      obtain ⟨k, rfl⟩ : ∃ z, k = z + 1 := ⟨k - 1, by omega⟩
      have e7 : ∀ v6 : Int32, f_X8_cut_207 (nI w) h now wn v1 K v2 v3 v4 (nI R) v6 0 by_ (upd over c (over c - nI (L q))) = K v2 v3 v4 (nI (R + 1)) by_ (upd over c (over c - nI (L q))) := fun v6 => by
        unfold f_X8_cut_207
        have l := m_213_no (h := h) (now := now) (wn := wn) (nc := nc) (g := nI w) (v1 := v1) (v2 := v2) (v3 := v3) (v4 := v4) (v5 := nI R) (v6 := v6) (K := K) (by_ := by_) (over := upd over c (over c - nI (L q))) e2 hnc nc 0 fl_ (by omega) (fl_lt (by omega)) 0
        rw [show nI 0 = (0 : Int32) from rfl, nI_1] at l
        exact l
      rw [f_X8_cut_126, if_pos rfl, e7]
      split <;> rfl
    by_cases hlit : now (3 + 4 * c) = 1
    · rw [if_pos hlit] at o3
      refine no (fun hf => ?_) (by rw [o3]; exact neg_1 _ (by omega))
      have h1 := hf c hc
      have h2 := sx_mono (L := L) (d := dg nc w R) (w := w) (c := c) (n := n + 1) (m := w) (by omega)
      rw [sx_w, esx c, if_pos rfl] at h2
      have h3 : Sf now c = 0 := by unfold Sf; rw [if_pos hlit]
      omega
    · rw [if_neg hlit] at o3
      by_cases hle : L q ≤ Sf now c - sx L (dg nc w R) w n c
      · have hv : over c - nI (L q) = nI (Sf now c - sx L (dg nc w R) w n c - L q) := by rw [o3, pk_sub hle]
        rw [hv, if_neg (nI_pos (by omega))]
        refine ih' _ (fun c' hc' => ?_)
        obtain ⟨p1, p2, p3⟩ := ho c' hc'
        rw [esb c', esx c']
        by_cases e : c = c'
        · subst e
          rw [pk_us, if_pos rfl, if_neg hlit]
          exact ⟨fun _ => hlit, by omega, by rw [Nat.sub_sub]⟩
        · rw [pk_un (fun z => e z.symm), if_neg e, decide_eq_false e, Bool.or_false, Nat.add_zero]
          exact ⟨p1, p2, p3⟩
      · refine no (fun hf => ?_) (by rw [o3]; exact neg_2 _ (by omega) _ (by omega) (by omega))
        have h1 := hf c hc
        have h2 := sx_mono (L := L) (d := dg nc w R) (w := w) (c := c) (n := n + 1) (m := w) (by omega)
        rw [sx_w, esx c, if_pos rfl] at h2
        omega
theorem m_row {h now wn : Nat → Int32} {nr nd nc na w R : Nat} {L : Nat → Nat} {v1 v2 v3 v4 : Int32} {K : Int32 → Int32 → Int32 → Int32 → (Nat → Int32) → (Nat → Int32) → Option (Int32 × (Nat → Int32) × (Nat → Int32))} {by_ over : Nat → Int32} {st : Nat × Nat × (Nat → Nat)} (e2 : h 2 = nI nc) (hN : NI h nr nd nc na now) (hnc : nc ≤ 6) (hw : w ≤ 6) (hL : ∀ i, i < w → 1 ≤ L i ∧ L i ≤ 60 ∧ wn i = nI (L i)) (hR : R < 2 ^ 31) (h0 : 0 < w → 0 < nc) (hst : RM L w st v3 v4 by_) : ∃ v3' v4' by' over', f_X8_cut_65 (nI w) h now wn v1 K fl_ v2 v3 v4 (nI R) 0 by_ over = K v2 v3' v4' (nI (R + 1)) by' over' ∧ RM L w (U_ nc L (Sf now) w R st) v3' v4' by' := by
  obtain ⟨s1, s2, s3⟩ := Sf_is hN
  obtain ⟨over1, f1, f2⟩ := m_fill (h := h) (now := now) (wn := wn) (by_ := by_) (nc := nc) (g := nI w) (v1 := v1) (v2 := v2) (v3 := v3) (v4 := v4) (v5 := nI R) (K := K) e2 hnc nc 0 fl_ (by omega) (fl_lt (by omega)) over (fun c hc => absurd hc (by omega))
  rw [show nI 0 = (0 : Int32) from rfl] at f1
  rw [f1]
  have l := m_126 (h := h) (now := now) (wn := wn) (by_ := by_) (R := R) (v1 := v1) (v2 := v2) (v3 := v3) (v4 := v4) (K := K) e2 hN hnc hw hL hR h0 w 0 fl_ (by omega) (fl_lt (by omega)) over1 (fun c hc => by
    refine ⟨fun z => absurd z (by show ¬ false = true; decide), Nat.zero_le _, ?_⟩
    rw [f2 c hc]
    unfold ov_
    by_cases e : now (3 + 4 * c) = 1
    · rw [if_pos e, if_pos e]
    · rw [if_neg e, if_neg e]
      exact s3 c (by omega) e)
  rw [Nat.pow_zero, Nat.div_one, show mk_ (sb (dg nc w R) w 0) 6 = 0 from mk_false 6, show nI 0 = (0 : Int32) from rfl] at l
  rcases l with ⟨hf, over2, g1, g2⟩ | ⟨hf, over2, g1⟩
  · rw [g1]
    have hd : ∀ k, k < w → dg nc w R k < nc := fun k hk => dg_lt (h0 (by omega))
    have hbit : ∀ c, c < 6 → (mkd (dg nc w R) w).testBit c = ub (dg nc w R) w c := fun c hc => mk_bit hc
    have l2 := m_213_yes (h := h) (now := now) (wn := wn) (nc := nc) (m := mkd (dg nc w R) w) (g := nI w) (v1 := v1) (v2 := v2) (v3 := v3) (v4 := v4) (v5 := nI R) (K := K) (by_ := by_) (over := over2) (f := fun c => Sf now c - px L (dg nc w R) w c) e2 hnc (mkd_64 _ _) (fun c hc hb => g2 c hc (by rw [← hbit c (by omega)]; exact hb)) nc 0 fl_ (by omega) (fl_lt (by omega))
    have hT : sn (fun c => (mkd (dg nc w R) w).testBit c) (fun c => Sf now c - px L (dg nc w R) w c) nc + ln_ L w = stk (Sf now) (dg nc w R) w := by
      rw [← left_over' hd hnc hf, sn_trunc (p := ub (dg nc w R) w) (n := nc) (N := 6) hnc (fun j h1 _ => ub_no h1 hd)]
      rw [sn_ext (q := ub (dg nc w R) w) (fun j hj => ⟨hbit j (by omega), fun _ => rfl⟩)]
    rw [show sn (fun c => (mkd (dg nc w R) w).testBit c) (fun c => Sf now c - px L (dg nc w R) w c) 0 = 0 from rfl, show nI 0 = (0 : Int32) from rfl] at l2
    rw [l2]
    clear l2
    generalize sn (fun c => (mkd (dg nc w R) w).testBit c) (fun c => Sf now c - px L (dg nc w R) w c) nc = T at hT
    have hp6 := mkd_le (dg nc w R) w
    have hs360 := stk_le (S := Sf now) (d := dg nc w R) (j := w) s1
    obtain ⟨a1, a2, a3, a4⟩ := hst
    have yes : bt (mkd (dg nc w R) w) (stk (Sf now) (dg nc w R) w) st → ∃ v3' v4' by' over', f_X8_cut_287 (nI w) h now wn v1 K v2 (nI R) (nI (mkd (dg nc w R) w)) (nI T) by_ over2 = K v2 v3' v4' (nI (R + 1)) by' over' ∧ RM L w (U_ nc L (Sf now) w R st) v3' v4' by' := fun hb => by
      unfold f_X8_cut_287
      rw [ones_d _ (mkd_64 _ _), Option.bind_some, U_yes ⟨hf, hb⟩]
      obtain ⟨by', q1, q2⟩ := m_309 (h := h) (now := now) (wn := wn) (R := R) (v1 := v1) (v2 := v2) (v3 := nI (pop_ (mkd (dg nc w R) w))) (v4 := nI T) (v5 := nI R) (K := K) (over := over2) e2 hnc hw hR h0 w 0 fl_ (by omega) (fl_lt (by omega)) by_ (fun i hi => absurd hi (by omega))
      rw [Nat.pow_zero, Nat.div_one, nI_1] at q1
      refine ⟨_, _, by', _, q1, ?_, hs360, ?_, fun _ => ⟨?_, ?_, q2⟩⟩
      · show pop_ _ ≤ 7; omega
      · show nI _ = nI (if pop_ _ = 7 then 99 else pop_ _)
        rw [if_neg (by omega)]
      · show _ ≤ stk _ _ _; omega
      · show nI T = nI (stk _ _ _ - _)
        congr 1; omega
    have no : ¬ bt (mkd (dg nc w R) w) (stk (Sf now) (dg nc w R) w) st → ∃ v3' v4' by' over', K v2 v3 v4 (nI R + 1) by_ over2 = K v2 v3' v4' (nI (R + 1)) by' over' ∧ RM L w (U_ nc L (Sf now) w R st) v3' v4' by' := fun hb => by
      rw [U_no (fun z => hb z.2), nI_1]
      exact ⟨_, _, _, _, rfl, a1, a2, a3, a4⟩
    by_cases e7 : st.1 = 7
    · rw [if_pos e7] at a3
      rw [a3, if_pos ((nI_ltI (by omega) (by omega)).mpr (by omega))]
      exact yes (Or.inl (by omega))
    · rw [if_neg e7] at a3
      obtain ⟨b1, b2, b3⟩ := a4 (by omega)
      rw [a3] at no ⊢
      by_cases c1 : pop_ (mkd (dg nc w R) w) < st.1
      · rw [if_pos ((nI_ltI (by omega) (by omega)).mpr c1)]
        exact yes (Or.inl c1)
      · rw [if_neg (fun z => c1 ((nI_ltI (by omega) (by omega)).mp z))]
        by_cases c2 : pop_ (mkd (dg nc w R) w) = st.1
        · rw [if_pos (by rw [c2])]
          by_cases c3 : st.2.1 - ln_ L w ≤ T
          · rw [if_pos (by rw [b2]; exact (nI_leI (by omega) (by omega)).mpr c3)]
            exact no (fun z => by unfold bt at z; omega)
          · rw [if_neg (fun z => c3 (by rw [b2] at z; exact (nI_leI (by omega) (by omega)).mp z))]
            exact yes (Or.inr ⟨c2, by omega⟩)
        · rw [if_neg (fun z => c2 ((nI_eq (by omega) (by omega)).mp z))]
          exact no (fun z => by unfold bt at z; omega)
  · rw [g1]
    refine ⟨_, _, _, _, rfl, ?_⟩
    rw [U_no (fun z => hf z.1)]
    exact hst
