/-! what a minute keeps -/
theorem NI_lit0 {h now : Nat → Int32} {nr nd nc na c : Nat} (hN : NI h nr nd nc na now) (hc : c < 6) : NI h nr nd nc na (upd now (3 + 4 * c) 0) := by
  obtain ⟨n1, n2, n3, n4, n5, n6⟩ := hN
  have hz : ∀ c', upd now (3 + 4 * c) 0 (3 + 4 * c') = 0 ∨ upd now (3 + 4 * c) 0 (3 + 4 * c') = now (3 + 4 * c') := fun c' => by
    by_cases e : c' = c
    · subst e; rw [pk_us]; exact Or.inl rfl
    · rw [pk_un (by omega)]; exact Or.inr rfl
  refine ⟨fun c' hc' => ?_, fun c' hc' => ?_, fun d hd => ?_, fun c' hc' => ?_, fun a ha => ?_, fun c' h1 h2 => ?_⟩
  · rcases hz c' with e | e
    · rw [e]; exact ⟨Or.inl rfl, fun _ => rfl⟩
    · rw [e]; exact n1 c' hc'
  · rw [pk_un (by omega)]; exact n2 c' hc'
  · rw [pk_un (by omega)]; exact n3 d hd
  · obtain ⟨q1, l, q2, q3, q4⟩ := n4 c' hc'
    rw [pk_un (by omega), pk_un (by omega)]
    refine ⟨q1, l, q2, q3, fun q => ?_⟩
    rcases hz c' with e | e
    · rw [e] at q; exact absurd q (by decide)
    · rw [e] at q; exact q4 q
  · rw [pk_un (by omega), pk_un (by omega)]; exact n5 a ha
  · rw [pk_un (by omega)]; exact n6 c' h1 h2
theorem NI_blw {h now : Nat → Int32} {nr nd nc na : Nat} (hN : NI h nr nd nc na now) : ∀ {j : Nat}, j ≤ 6 → NI h nr nd nc na (blw h nd j now)
  | 0, _ => hN
  | j + 1, hj => by
    have ih := NI_blw hN (j := j) (by omega)
    unfold blw
    by_cases q : blw h nd j now (4 + 4 * j) = 0 ∧ drF h (blw h nd j now) (blw h nd j now (2 + 4 * j)) nd = true
    · rw [if_pos q]; exact NI_lit0 ih (by omega)
    · rw [if_neg q, upd_self]; exact ih
theorem ix4 {v : Nat} (h : v < 4) : ixb (nI v) 4 := ⟨v, h, rfl⟩
/-- an act's two numbers change -/
theorem NI_act {h now : Nat → Int32} {nr nd nc na a : Nat} (hN : NI h nr nd nc na now) (ha : a < na) (hna : na ≤ 6) (hnc : nc ≤ 6) {x y : Int32} (hy : ixb y 4) (hx : ∃ kh nn, kh ≤ nn ∧ nn ≤ 20 ∧ x = nI kh ∧ h (27 + 4 * a) = nI nn ∧ (y = 0 → kh = 0) ∧ (y = 1 → kh < nn)) : NI h nr nd nc na (upd (upd now (30 + 2 * a + 1) x) (30 + 2 * a) y) := by
  obtain ⟨n1, n2, n3, n4, n5, n6⟩ := hN
  refine ⟨fun c' hc' => ?_, fun c' hc' => ?_, fun d hd => ?_, fun c' hc' => ?_, fun b hb => ?_, fun c' h1 h2 => ?_⟩
  · rw [pk_un (by omega), pk_un (by omega)]; exact n1 c' hc'
  · rw [pk_un (by omega), pk_un (by omega)]; exact n2 c' hc'
  · rw [pk_un (by omega), pk_un (by omega)]; exact n3 d hd
  · obtain ⟨⟨r, hr, er⟩, q⟩ := n4 c' hc'
    rw [pk_un (by omega), pk_un (by omega), pk_un (show 1 + 4 * c' ≠ 30 + 2 * a by omega), pk_un (show 1 + 4 * c' ≠ 30 + 2 * a + 1 by omega), pk_un (show 3 + 4 * c' ≠ 30 + 2 * a by omega), pk_un (show 3 + 4 * c' ≠ 30 + 2 * a + 1 by omega)]
    exact ⟨⟨r, hr, er⟩, q⟩
  · by_cases e : b = a
    · subst e
      rw [pk_us, pk_un (by omega), pk_us]
      exact ⟨hy, hx⟩
    · rw [pk_un (by omega), pk_un (by omega), pk_un (show 30 + 2 * b + 1 ≠ 30 + 2 * a by omega), pk_un (show 30 + 2 * b + 1 ≠ 30 + 2 * a + 1 by omega)]
      exact n5 b hb
  · rw [pk_un (by omega), pk_un (by omega)]; exact n6 c' h1 h2
theorem NI_jd1 {h now : Nat → Int32} {nr nd nc na nw a : Nat} (hH : HH h nr nd nc na nw) (hN : NI h nr nd nc na now) (ha : a < na) : NI h nr nd nc na (jd1 h nc a now) := by
  obtain ⟨-, -, hc, hna, -⟩ := hH.2.1
  obtain ⟨⟨s, hs, es⟩, kh, nn, q1, q2, q3, q4, q5, q6⟩ := hN.2.2.2.2.1 a ha
  unfold jd1
  by_cases c1 : now (30 + 2 * a) = 1
  · rw [if_pos c1]
    have hk := q6 c1
    by_cases c2 : ltF now (h (27 + 4 * a + 2)) nc = true
    · rw [if_pos c2, q3, nI_1]
      have e2 : ∀ P : Prop, [Decidable P] → ixb (if P then (2 : Int32) else 3) 4 := fun P _ => by
        by_cases p : P
        · rw [if_pos p]; exact ix4 (v := 2) (by decide)
        · rw [if_neg p]; exact ix4 (v := 3) (by decide)
      by_cases c3 : nI (kh + 1) = h (27 + 4 * a)
      · rw [if_pos c3]
        refine NI_act hN ha hna hc ?_ ⟨kh + 1, nn, by omega, q2, rfl, q4, ?_, ?_⟩
        · split
          · exact ix4 (v := 2) (by decide)
          · exact ix4 (v := 3) (by decide)
        · intro e; split at e <;> exact absurd e (by decide)
        · intro e; split at e <;> exact absurd e (by decide)
      · rw [if_neg c3]
        have hlt : kh + 1 < nn := by
          rcases Nat.lt_or_ge (kh + 1) nn with z | z
          · exact z
          · exact absurd (by rw [q4, show kh + 1 = nn by omega]) c3
        exact NI_act hN ha hna hc (ix4 (v := 1) (by decide)) ⟨kh + 1, nn, by omega, q2, rfl, q4, fun e => absurd e (by decide), fun _ => hlt⟩
    · rw [if_neg c2]
      have := NI_act (x := now (30 + 2 * a + 1)) (y := 3) hN ha hna hc (ix4 (v := 3) (by decide)) ⟨kh, nn, q1, q2, q3, q4, fun e => absurd e (by decide), fun e => absurd e (by decide)⟩
      rw [upd_self] at this
      exact this
  · rw [if_neg c1]; exact hN
theorem NI_jdg {h now : Nat → Int32} {nr nd nc na nw : Nat} (hH : HH h nr nd nc na nw) (hN : NI h nr nd nc na now) : ∀ {j : Nat}, j ≤ na → NI h nr nd nc na (jdg h nc j now)
  | 0, _ => hN
  | j + 1, hj => NI_jd1 hH (NI_jdg hH hN (j := j) (by omega)) (by omega)
theorem NI_br1 {h now : Nat → Int32} {nr nd nc na c : Nat} (hN : NI h nr nd nc na now) (hcn : c < nc) (hnc : nc ≤ 6) (hna : na ≤ 6) : NI h nr nd nc na (br1 c now) := by
  obtain ⟨n1, n2, n3, n4, n5, n6⟩ := hN
  unfold br1
  by_cases c1 : now (3 + 4 * c) = 1
  · rw [if_pos c1]
    obtain ⟨-, l, l1, l2, l3⟩ := n4 c hcn
    have hl1 := l3 c1
    have e3 : now (1 + 4 * c) - 1 = nI (l - 1) := by rw [l2]; exact pk_sub (a := l) (b := 1) hl1
    rw [e3]
    have hv : (if nI (l - 1) ≤ 0 then (0 : Int32) else 1) = if l - 1 = 0 then 0 else 1 := by
      by_cases z : l - 1 = 0
      · rw [if_pos z, z, if_pos (by decide)]
      · rw [if_neg z, if_neg (show ¬ nI (l - 1) ≤ 0 from fun q => by have := (nI_leI (a := l - 1) (b := 0) (by omega) (by decide)).mp q; omega)]
    rw [hv]
    generalize hW : 42 + tn (now (2 + 4 * c)) = W
    have hW42 : 42 ≤ W := by omega
    refine ⟨fun c' hc' => ?_, fun c' hc' => ?_, fun d hd => ?_, fun c' hc' => ?_, fun a ha => ?_, fun c' h1 h2 => ?_⟩
    · by_cases e : c' = c
      · subst e
        rw [pk_us]
        refine ⟨?_, fun q => by omega⟩
        split
        · exact Or.inl rfl
        · exact Or.inr rfl
      · rw [pk_un (by omega), pk_un (by omega), pk_un (by omega)]; exact n1 c' hc'
    · rw [pk_un (by omega), pk_un (by omega), pk_un (by omega)]; exact n2 c' hc'
    · rw [pk_un (by omega), pk_un (by omega), pk_un (by omega)]; exact n3 d hd
    · obtain ⟨qr, l', p1, p2, p3⟩ := n4 c' hc'
      rw [pk_un (by omega), pk_un (by omega), pk_un (by omega)]
      refine ⟨qr, ?_⟩
      by_cases e : c' = c
      · subst e
        rw [pk_us, pk_un (show 1 + 4 * c' ≠ 3 + 4 * c' by omega), pk_un (show 1 + 4 * c' ≠ W by omega), pk_us]
        refine ⟨l - 1, by omega, rfl, fun q => ?_⟩
        by_cases z : l - 1 = 0
        · rw [if_pos z] at q; exact absurd q (by decide)
        · omega
      · rw [pk_un (show 1 + 4 * c' ≠ 3 + 4 * c by omega), pk_un (show 1 + 4 * c' ≠ W by omega), pk_un (show 1 + 4 * c' ≠ 1 + 4 * c by omega), pk_un (show 3 + 4 * c' ≠ 3 + 4 * c by omega), pk_un (show 3 + 4 * c' ≠ W by omega), pk_un (show 3 + 4 * c' ≠ 1 + 4 * c by omega)]
        exact ⟨l', p1, p2, p3⟩
    · rw [pk_un (by omega), pk_un (by omega), pk_un (by omega), pk_un (show 30 + 2 * a + 1 ≠ 3 + 4 * c by omega), pk_un (show 30 + 2 * a + 1 ≠ W by omega), pk_un (show 30 + 2 * a + 1 ≠ 1 + 4 * c by omega)]
      exact n5 a ha
    · rw [pk_un (by omega), pk_un (by omega), pk_un (by omega)]; exact n6 c' h1 h2
  · rw [if_neg c1]; exact ⟨n1, n2, n3, n4, n5, n6⟩
theorem NI_brn {h now : Nat → Int32} {nr nd nc na : Nat} (hN : NI h nr nd nc na now) (hnc : nc ≤ 6) (hna : na ≤ 6) : ∀ {j : Nat}, j ≤ nc → NI h nr nd nc na (brn j now)
  | 0, _ => hN
  | j + 1, hj => NI_br1 (NI_brn hN hnc hna (j := j) (by omega)) (by omega) hnc hna
theorem NI_min {h now : Nat → Int32} {nr nd nc na : Nat} {v : Int32} (hN : NI h nr nd nc na now) : NI h nr nd nc na (upd now 0 v) := by
  obtain ⟨n1, n2, n3, n4, n5, n6⟩ := hN
  refine ⟨fun c' hc' => ?_, fun c' hc' => ?_, fun d hd => ?_, fun c' hc' => ?_, fun a ha => ?_, fun c' h1 h2 => ?_⟩
  · rw [pk_un (by omega)]; exact n1 c' hc'
  · rw [pk_un (by omega)]; exact n2 c' hc'
  · rw [pk_un (by omega)]; exact n3 d hd
  · rw [pk_un (by omega), pk_un (by omega), pk_un (by omega)]; exact n4 c' hc'
  · rw [pk_un (by omega), pk_un (by omega)]; exact n5 a ha
  · rw [pk_un (by omega)]; exact n6 c' h1 h2
theorem NI_stp {h now : Nat → Int32} {nr nd nc na nw : Nat} (hH : HH h nr nd nc na nw) (hN : NI h nr nd nc na now) (w : Bool) : NI h nr nd nc na (stp h nd nc na w now) := by
  obtain ⟨-, -, hc, hna, -⟩ := hH.2.1
  unfold stp
  refine NI_min (NI_brn (NI_jdg hH ?_ (Nat.le_refl _)) hc hna (Nat.le_refl _))
  cases w with
  | true => exact NI_blw hN hc
  | false => exact hN
theorem stp_0 {h now : Nat → Int32} {nd nc na : Nat} (hc : nc ≤ 6) (w : Bool) : stp h nd nc na w now 0 = now 0 + 1 := by
  unfold stp
  show upd (brn nc (jdg h nc na (if w then blw h nd nc now else now))) 0 (brn nc (jdg h nc na (if w then blw h nd nc now else now)) 0 + 1) 0 = _
  rw [pk_us, brn_out hc (by omega) (fun c _ => by omega), jdg_out (fun a _ => by omega)]
  cases w with
  | true => rw [if_pos rfl, blw_out (fun c _ => by omega)]
  | false => rfl
/-- acts that are not begun, or have ended, stay -/
theorem jdg_stay {h now : Nat → Int32} {nc a : Nat} : ∀ {j : Nat}, now (30 + 2 * a) ≠ 1 → jdg h nc j now (30 + 2 * a) = now (30 + 2 * a)
  | 0, _ => rfl
  | j + 1, hx => by
    have ih := jdg_stay (h := h) (nc := nc) (j := j) hx
    show jd1 h nc j (jdg h nc j now) (30 + 2 * a) = _
    by_cases e : a = j
    · subst e
      unfold jd1
      rw [if_neg (by rw [ih]; exact hx)]; exact ih
    · rw [jd1_out (by omega) (by omega)]; exact ih
theorem stp_stay {h now : Nat → Int32} {nd nc na a : Nat} (hc : nc ≤ 6) (ha : a < 6) (w : Bool) (hx : now (30 + 2 * a) ≠ 1) : stp h nd nc na w now (30 + 2 * a) = now (30 + 2 * a) := by
  unfold stp
  show upd (brn nc (jdg h nc na (if w then blw h nd nc now else now))) 0 _ (30 + 2 * a) = _
  rw [pk_un (by omega), brn_out hc (by omega) (fun c _ => by omega)]
  cases w with
  | true =>
    rw [if_pos rfl]
    have e : blw h nd nc now (30 + 2 * a) = now (30 + 2 * a) := blw_out (fun c _ => by omega)
    rw [jdg_stay (by rw [e]; exact hx), e]
  | false => exact jdg_stay hx
