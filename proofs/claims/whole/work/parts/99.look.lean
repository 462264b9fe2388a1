/-! what is done: lights, shields, opens, begins, undo -/
def ST (h : Nat → Int32) (nr nd nc na sz nx : Nat) (now : Nat → Int32) (rows : Nat → Nat → Int32) (u : Nat → Int32) : Prop :=
  NI h nr nd nc na now ∧ (∃ m, m ≤ 999 ∧ now 0 = nI m) ∧ PRel h nr nd nc na sz nx rows (undN u)
theorem both_note {h now u : Nat → Int32} {nr nd nc na nw sz nx : Nat} {rows : Nat → Nat → Int32} (hH : HH h nr nd nc na nw) (hS : ST h nr nd nc na sz nx now rows u) : ∃ sz' nx' rows' u', f_X8_notes (nI sz) now u = some (nI sz', u') ∧ f_X5_remember (nI sz) (nI nx) rows (rowOf now) = some (nI sz', nI nx', rows') ∧ PRel h nr nd nc na sz' nx' rows' (undN u') := by
  obtain ⟨hN, ⟨m, hm, em⟩, hP⟩ := hS
  obtain ⟨-, -, hnc, hna, -⟩ := hH.2.1
  obtain ⟨u', q1, q2, q3⟩ := m_notes (now := now) (u := u) hP.1
  exact ⟨_, _, _, u', q1, c_remember hP.1 hP.2.1 hP.2.2.1, PRel_note hnc hna hP hN hm em q2 q3⟩
theorem NI_litv {h now : Nat → Int32} {nr nd nc na c : Nat} {v : Int32} (hN : NI h nr nd nc na now) (hnc : nc ≤ 6) (hc : c < nc) (hv : v = 0 ∨ v = 1) (hl : ∀ l, now (1 + 4 * c) = nI l → l ≤ 60 → 1 ≤ l) : NI h nr nd nc na (upd now (3 + 4 * c) v) := by
  obtain ⟨n1, n2, n3, n4, n5, n6⟩ := hN
  refine ⟨fun c' hc' => ?_, fun c' hc' => ?_, fun d hd => ?_, fun c' hc' => ?_, fun a ha => ?_, fun c' h1 h2 => ?_⟩
  · by_cases e : c' = c
    · subst e; rw [pk_us]; exact ⟨hv, fun q => by omega⟩
    · rw [pk_un (by omega)]; exact n1 c' hc'
  · rw [pk_un (by omega)]; exact n2 c' hc'
  · rw [pk_un (by omega)]; exact n3 d hd
  · obtain ⟨q1, l, q2, q3, q4⟩ := n4 c' hc'
    rw [pk_un (by omega), pk_un (by omega)]
    refine ⟨q1, l, q2, q3, fun q => ?_⟩
    by_cases e : c' = c
    · subst e; exact hl l q3 q2
    · rw [pk_un (by omega)] at q; exact q4 q
  · rw [pk_un (by omega), pk_un (by omega)]; exact n5 a ha
  · rw [pk_un (by omega)]; exact n6 c' h1 h2
theorem NI_shd {h now : Nat → Int32} {nr nd nc na c : Nat} {v : Int32} (hN : NI h nr nd nc na now) (hnc : nc ≤ 6) (hc : c < nc) (hv : v = 0 ∨ v = 1) : NI h nr nd nc na (upd now (4 + 4 * c) v) := by
  obtain ⟨n1, n2, n3, n4, n5, n6⟩ := hN
  refine ⟨fun c' hc' => ?_, fun c' hc' => ?_, fun d hd => ?_, fun c' hc' => ?_, fun a ha => ?_, fun c' h1 h2 => ?_⟩
  · rw [pk_un (by omega)]; exact n1 c' hc'
  · by_cases e : c' = c
    · subst e; rw [pk_us]; exact ⟨hv, fun q => by omega⟩
    · rw [pk_un (by omega)]; exact n2 c' hc'
  · rw [pk_un (by omega)]; exact n3 d hd
  · rw [pk_un (by omega), pk_un (by omega), pk_un (by omega)]; exact n4 c' hc'
  · rw [pk_un (by omega), pk_un (by omega)]; exact n5 a ha
  · rw [pk_un (by omega)]; exact n6 c' h1 h2
theorem NI_opn {h now : Nat → Int32} {nr nd nc na d : Nat} {v : Int32} (hN : NI h nr nd nc na now) (hnc : nc ≤ 6) (hnd : nd ≤ 5) (hd : d < nd) (hv : v = 0 ∨ v = 1) : NI h nr nd nc na (upd now (25 + d) v) := by
  obtain ⟨n1, n2, n3, n4, n5, n6⟩ := hN
  refine ⟨fun c' hc' => ?_, fun c' hc' => ?_, fun d' hd' => ?_, fun c' hc' => ?_, fun a ha => ?_, fun c' h1 h2 => ?_⟩
  · rw [pk_un (by omega)]; exact n1 c' hc'
  · rw [pk_un (by omega)]; exact n2 c' hc'
  · by_cases e : d' = d
    · subst e; rw [pk_us]; exact ⟨hv, fun q => by omega⟩
    · rw [pk_un (by omega)]; exact n3 d' hd'
  · rw [pk_un (by omega), pk_un (by omega), pk_un (by omega)]; exact n4 c' hc'
  · rw [pk_un (by omega), pk_un (by omega)]; exact n5 a ha
  · rw [pk_un (by omega)]; exact n6 c' h1 h2
theorem NI_rm {h now : Nat → Int32} {nr nd nc na c : Nat} {v : Int32} (hN : NI h nr nd nc na now) (hnc : nc ≤ 6) (hc : c < nc) (hv : ixb v nr) : NI h nr nd nc na (upd now (2 + 4 * c) v) := by
  obtain ⟨n1, n2, n3, n4, n5, n6⟩ := hN
  refine ⟨fun c' hc' => ?_, fun c' hc' => ?_, fun d hd => ?_, fun c' hc' => ?_, fun a ha => ?_, fun c' h1 h2 => ?_⟩
  · rw [pk_un (by omega)]; exact n1 c' hc'
  · rw [pk_un (by omega)]; exact n2 c' hc'
  · rw [pk_un (by omega)]; exact n3 d hd
  · obtain ⟨q1, q2⟩ := n4 c' hc'
    rw [pk_un (show 1 + 4 * c' ≠ 2 + 4 * c by omega), pk_un (show 3 + 4 * c' ≠ 2 + 4 * c by omega)]
    refine ⟨?_, q2⟩
    by_cases e : c' = c
    · subst e; rw [pk_us]; exact hv
    · rw [pk_un (by omega)]; exact q1
  · rw [pk_un (by omega), pk_un (by omega)]; exact n5 a ha
  · rw [pk_un (by omega)]; exact n6 c' h1 h2
theorem flp_is {p q : Nat → Bool} {c n : Nat} (hn : n ≤ 6) (hc : c < n) (h : ∀ k, k < n → q k = (p k ^^ (k == c))) : mk_ q n = flp_ (mk_ p n) c := by
  have hm := mk_64 (p := p) hn
  obtain ⟨h1, h2⟩ := flp_bit _ hm c (by omega)
  have hb : flp_ (mk_ p n) c < 2 ^ n := by
    unfold flp_
    have hl := mk_lt p n
    by_cases t : (mk_ p n).testBit c = true
    · rw [if_pos t]; exact Nat.lt_of_le_of_lt (Nat.sub_le _ _) hl
    · rw [if_neg t]
      have : mk_ p n + 2 ^ c = mk_ (fun k => p k || (k == c)) n := by
        have h0 : p c = false := by rw [mk_bit hc] at t; simpa using t
        clear h h1 h2 hm hl t
        have gen : ∀ n, c < n → mk_ p n + 2 ^ c = mk_ (fun k => p k || (k == c)) n := by
          intro n
          induction n with
          | zero => intro z; omega
          | succ n ih =>
            intro z
            rw [mk_s, mk_s]
            by_cases e : c = n
            · subst e
              rw [h0, if_neg (by decide), if_pos (by simp), Nat.add_zero]
              congr 1
              exact mk_ext (fun j hj => by have : ¬ j = c := by omega
                                           simp [this])
            · have e9 : (n == c) = false := by simp; omega
              rw [← ih (by omega), e9, Bool.or_false]
              omega
        exact gen n hc
      rw [this]; exact mk_lt _ n
  exact (mk_of hb (fun k hk => by rw [h2 k (by omega), mk_bit hk, h k hk])).symm
theorem ne01 {x v : Int32} (hx : x = 0 ∨ x = 1) (hv : v = 0 ∨ v = 1) (h : ¬ x = v) : decide (v = 1) = !decide (x = 1) := by
  rcases hx with rfl | rfl <;> rcases hv with rfl | rfl
  · exact absurd rfl h
  · rfl
  · rfl
  · exact absurd rfl h
theorem rg01 {x : Int32} (h : rg x 0 1 = true) : x = 0 ∨ x = 1 := by
  obtain ⟨j, -, hj, rfl⟩ := rg_t h (by decide)
  rcases (show j = 0 ∨ j = 1 by omega) with rfl | rfl
  · exact Or.inl rfl
  · exact Or.inr rfl
theorem c_turn {now : Nat → Int32} {rows rows' : Nat → Nat → Int32} {ps pn a b : Int32} {k : Nat} {v : Int32} (hk : k < 33) (q2 : f_X5_remember ps pn rows (rowOf now) = some (a, b, rows')) : f_X7_turn (rowOf now) ps pn rows (nI k) v = (f_J6_bitCount_0f7a4 (rowOf now k ^^^ (1 : Int32) <<< (v &&& 31))).bind fun q5 => some (q5, upd (rowOf now) k (rowOf now k ^^^ (1 : Int32) <<< (v &&& 31)), a, b, rows') := by
  unfold f_X7_turn
  rw [q2, rd_ok hk (by omega)]
  simp only [Option.bind_some]
  rw [wr_ok hk (by omega)]
  simp only [Option.bind_some]
  rw [rd_ok hk (by omega)]
  simp only [Option.bind_some, pk_us]
theorem c_shdcount {h now : Nat → Int32} {nr nd nc na : Nat} (hN : NI h nr nd nc na now) (hnc : nc ≤ 6) : f_J6_bitCount_0f7a4 (rowOf now 2) = some (nI (pcn_ (fun i => decide (now (4 + 4 * i) = 1)) nc)) := by
  rw [row_2, pop_d _ (mk_64 (by omega)), mk_trunc (n := nc) (N := 6) hnc (fun j h1 h2 => by unfold shdB; rw [(hN.2.1 j h2).2 h1]; decide), pop_mk hnc]
  rfl
theorem c_opncount {h now : Nat → Int32} {nr nd nc na : Nat} (hN : NI h nr nd nc na now) (hnd : nd ≤ 5) : f_J6_bitCount_0f7a4 (rowOf now 3) = some (nI (pcn_ (fun i => decide (now (25 + 1 * i) = 1)) nd)) := by
  rw [row_3, pop_d _ (mk_64 (by omega)), mk_trunc (n := nd) (N := 5) hnd (fun j h1 h2 => by unfold opnB; rw [(hN.2.2.1 j h2).2 h1]; decide), pop_mk (by omega)]
  refine congrArg (fun z => some (nI z)) (pcn_ext (fun j hj => ?_))
  unfold opnB
  rw [Nat.one_mul]
theorem o_lights {h now u : Nat → Int32} {nr nd nc na nw sz nx : Nat} {rows : Nat → Nat → Int32} (hH : HH h nr nd nc na nw) (hS : ST h nr nd nc na sz nx now rows u) (v1 v2 : Int32) : ∃ r now' sz' nx' rows' u', f_X7_lights (nI nc) (rowOf now) (nI sz) (nI nx) rows v1 v2 = some (r, rowOf now', nI sz', nI nx', rows') ∧ f_X8_lights (nI sz) h now u v1 v2 = some (r, nI sz', now', u') ∧ ST h nr nd nc na sz' nx' now' rows' u' := by
  obtain ⟨e0, e1, e2, e3, e4⟩ := hH.1
  obtain ⟨hnr, hnd, hnc, hna, hnw⟩ := hH.2.1
  have hN := hS.1
  obtain ⟨m, hm, em⟩ := hS.2.1
  unfold f_X7_lights f_X8_lights
  have ei : f_X8_in v2.toInt64 0 1 = some (b2i (rg v2 0 1)) := in_rg (by decide) (by decide)
  have ew : f_X7_within v2 0 1 = some (b2i (rg v2 0 1)) := wt_rg (by decide) (by decide)
  rw [wt_ix (by omega), m_isCandle e2 (by omega), ei, ew]
  simp only [Option.bind_some]
  cases c1 : ixd v1 nc with
  | false => exact ⟨-1, now, sz, nx, rows, u, by rw [bf0], by rw [bf0], hS⟩
  | true =>
    obtain ⟨c, hcn, rfl⟩ := ixd_t c1 (by omega)
    simp only [bt0]
    cases c2 : rg v2 0 1 with
    | false => exact ⟨-1, now, sz, nx, rows, u, by rw [bf0], by rw [bf0], hS⟩
    | true =>
      have hv := rg01 c2
      simp only [bt0]
      have hlit : f_X7_bit (rowOf now 1) (nI c) = some (now (3 + 4 * c)) := by
        rw [row_1, c_bit (mk_64 (by omega)) (by omega), mk_bit (by omega)]
        exact congrArg some (b2_eq (hN.1 c (by omega)).1)
      rw [rdL (by omega) (by omega), Option.bind_some]
      have hl2 : f_X7_bit (rowOf now (OfNat.ofNat 1)) (nI c) = some (now (3 + 4 * c)) := hlit
      rw [hl2, mulL, addL, rd_ok (by omega) (by omega)]
      simp only [Option.bind_some]
      by_cases c3 : now (3 + 4 * c) = v2
      · exact ⟨-2, now, sz, nx, rows, u, by rw [if_pos c3], by rw [if_pos c3], hS⟩
      · rw [if_neg c3, if_neg c3]
        rw [c_left (by omega), m_left (by omega)]
        simp only [Option.bind_some]
        by_cases c4 : now (1 + 4 * c) = 0
        · exact ⟨-2, now, sz, nx, rows, u, by rw [if_pos c4], by rw [if_pos c4], hS⟩
        rw [if_neg c4, if_neg c4]
        obtain ⟨sz', nx', rows', u', q1, q2, q3⟩ := both_note hH hS
        have ht : f_X7_turn (rowOf now) (nI sz) (nI nx) rows 1 (nI c) = _ := c_turn (k := 1) (v := nI c) (by omega) q2
        rw [q1, wr_ok (by omega) (by omega), rdL (by omega) (by omega), ht]
        simp only [Option.bind_some]
        have hN' := NI_litv hN hnc hcn hv (fun l e _ => by
          rcases Nat.eq_zero_or_pos l with z | z
          · subst z; exact absurd e c4
          · exact z)
        have em2 : mk_ (litB (upd now (3 + 4 * c) v2)) 6 = flp_ (mk_ (litB now) 6) c := flp_is (by omega) (by omega) (fun k hk => by
          unfold litB
          by_cases e : k = c
          · subst e; rw [pk_us, ne01 (hN.1 k (by omega)).1 hv c3]; simp
          · rw [pk_un (by omega), show (k == c) = false from beq_false_of_ne e, Bool.xor_false])
        have er : rowOf now 1 ^^^ (1 : Int32) <<< (nI c &&& 31) = rowOf (upd now (3 + 4 * c) v2) 1 := by
          rw [row_1, shl_d c (by omega), flp_d _ (mk_64 (by omega)) c (by omega), row_1, em2]
        have er2 : upd (rowOf now) 1 (rowOf now 1 ^^^ (1 : Int32) <<< (nI c &&& 31)) = rowOf (upd now (3 + 4 * c) v2) := by
          rw [er, row_1, ← rowu_lit c (by omega)]
        refine ⟨nI (pcn_ (fun i => decide (upd now (3 + 4 * c) v2 (3 + 4 * i) = 1)) nc), upd now (3 + 4 * c) v2, sz', nx', rows', u', ?_, ?_, hN', ⟨m, hm, by rw [pk_un (by omega)]; exact em⟩, q3⟩
        · rw [er2, er, c_litcount hN' hnc]
          simp only [Option.bind_some]
        · show ((f_X8_many (upd now (3 + 4 * c) v2) (nI 3) (nI 4) (h 2) 1).bind _) = _
          rw [e2, m_many (by omega) (fun k hk => by omega)]
          rfl
theorem o_shields {h now u : Nat → Int32} {nr nd nc na nw sz nx : Nat} {rows : Nat → Nat → Int32} (hH : HH h nr nd nc na nw) (hS : ST h nr nd nc na sz nx now rows u) (v1 v2 : Int32) : ∃ r now' sz' nx' rows' u', f_X7_shields (nI nc) (rowOf now) (nI sz) (nI nx) rows v1 v2 = some (r, rowOf now', nI sz', nI nx', rows') ∧ f_X8_shields (nI sz) h now u v1 v2 = some (r, nI sz', now', u') ∧ ST h nr nd nc na sz' nx' now' rows' u' := by
  obtain ⟨e0, e1, e2, e3, e4⟩ := hH.1
  obtain ⟨hnr, hnd, hnc, hna, hnw⟩ := hH.2.1
  have hN := hS.1
  obtain ⟨m, hm, em⟩ := hS.2.1
  unfold f_X7_shields f_X8_shields
  have ei : f_X8_in v2.toInt64 0 1 = some (b2i (rg v2 0 1)) := in_rg (by decide) (by decide)
  have ew : f_X7_within v2 0 1 = some (b2i (rg v2 0 1)) := wt_rg (by decide) (by decide)
  rw [wt_ix (by omega), m_isCandle e2 (by omega), ei, ew]
  simp only [Option.bind_some]
  cases c1 : ixd v1 nc with
  | false => exact ⟨-1, now, sz, nx, rows, u, by rw [bf0], by rw [bf0], hS⟩
  | true =>
    obtain ⟨c, hcn, rfl⟩ := ixd_t c1 (by omega)
    simp only [bt0]
    cases c2 : rg v2 0 1 with
    | false => exact ⟨-1, now, sz, nx, rows, u, by rw [bf0], by rw [bf0], hS⟩
    | true =>
      have hv := rg01 c2
      simp only [bt0]
      have hlit : f_X7_bit (rowOf now 2) (nI c) = some (now (4 + 4 * c)) := by
        rw [row_2, c_bit (mk_64 (by omega)) (by omega), mk_bit (by omega)]
        exact congrArg some (b2_eq (hN.2.1 c (by omega)).1)
      rw [rdL (by omega) (by omega), Option.bind_some]
      have hl2 : f_X7_bit (rowOf now (OfNat.ofNat 2)) (nI c) = some (now (4 + 4 * c)) := hlit
      rw [hl2, mulL, addL, rd_ok (by omega) (by omega)]
      simp only [Option.bind_some]
      by_cases c3 : now (4 + 4 * c) = v2
      · exact ⟨-2, now, sz, nx, rows, u, by rw [if_pos c3], by rw [if_pos c3], hS⟩
      · rw [if_neg c3, if_neg c3]
        obtain ⟨sz', nx', rows', u', q1, q2, q3⟩ := both_note hH hS
        have ht : f_X7_turn (rowOf now) (nI sz) (nI nx) rows 2 (nI c) = _ := c_turn (k := 2) (v := nI c) (by omega) q2
        rw [q1, wr_ok (by omega) (by omega), rdL (by omega) (by omega), ht]
        simp only [Option.bind_some]
        have hN' := NI_shd hN hnc hcn hv
        have em2 : mk_ (shdB (upd now (4 + 4 * c) v2)) 6 = flp_ (mk_ (shdB now) 6) c := flp_is (by omega) (by omega) (fun k hk => by
          unfold shdB
          by_cases e : k = c
          · subst e; rw [pk_us, ne01 (hN.2.1 k (by omega)).1 hv c3]; simp
          · rw [pk_un (by omega), show (k == c) = false from beq_false_of_ne e, Bool.xor_false])
        have er : rowOf now 2 ^^^ (1 : Int32) <<< (nI c &&& 31) = rowOf (upd now (4 + 4 * c) v2) 2 := by
          rw [row_2, shl_d c (by omega), flp_d _ (mk_64 (by omega)) c (by omega), row_2, em2]
        have er2 : upd (rowOf now) 2 (rowOf now 2 ^^^ (1 : Int32) <<< (nI c &&& 31)) = rowOf (upd now (4 + 4 * c) v2) := by
          rw [er, row_2, ← rowu_shd c (by omega)]
        refine ⟨nI (pcn_ (fun i => decide (upd now (4 + 4 * c) v2 (4 + 4 * i) = 1)) nc), upd now (4 + 4 * c) v2, sz', nx', rows', u', ?_, ?_, hN', ⟨m, hm, by rw [pk_un (by omega)]; exact em⟩, q3⟩
        · rw [er2, er, c_shdcount hN' hnc]
          simp only [Option.bind_some]
        · show ((f_X8_many (upd now (4 + 4 * c) v2) (nI 4) (nI 4) (h 2) 1).bind _) = _
          rw [e2, m_many (by omega) (fun k hk => by omega)]
          rfl
theorem o_opens {h now u : Nat → Int32} {nr nd nc na nw sz nx : Nat} {rows : Nat → Nat → Int32} (hH : HH h nr nd nc na nw) (hS : ST h nr nd nc na sz nx now rows u) (v1 v2 : Int32) : ∃ r now' sz' nx' rows' u', f_X7_opens (nI nd) (rowOf now) (nI sz) (nI nx) rows v1 v2 = some (r, rowOf now', nI sz', nI nx', rows') ∧ f_X8_opens (nI sz) h now u v1 v2 = some (r, nI sz', now', u') ∧ ST h nr nd nc na sz' nx' now' rows' u' := by
  obtain ⟨e0, e1, e2, e3, e4⟩ := hH.1
  obtain ⟨hnr, hnd, hnc, hna, hnw⟩ := hH.2.1
  have hN := hS.1
  obtain ⟨m, hm, em⟩ := hS.2.1
  unfold f_X7_opens f_X8_opens
  have ei : f_X8_in v2.toInt64 0 1 = some (b2i (rg v2 0 1)) := in_rg (by decide) (by decide)
  have ew : f_X7_within v2 0 1 = some (b2i (rg v2 0 1)) := wt_rg (by decide) (by decide)
  rw [wt_ix (by omega), m_isDoor e1 (by omega), ei, ew]
  simp only [Option.bind_some]
  cases c1 : ixd v1 nd with
  | false => exact ⟨-1, now, sz, nx, rows, u, by rw [bf0], by rw [bf0], hS⟩
  | true =>
    obtain ⟨c, hcn, rfl⟩ := ixd_t c1 (by omega)
    simp only [bt0]
    cases c2 : rg v2 0 1 with
    | false => exact ⟨-1, now, sz, nx, rows, u, by rw [bf0], by rw [bf0], hS⟩
    | true =>
      have hv := rg01 c2
      simp only [bt0]
      have hlit : f_X7_bit (rowOf now 3) (nI c) = some (now (25 + c)) := by
        rw [row_3, c_bit (mk_64 (by omega)) (by omega), mk_bit (by omega)]
        exact congrArg some (b2_eq (hN.2.2.1 c (by omega)).1)
      rw [rdL (by omega) (by omega), Option.bind_some]
      have hl2 : f_X7_bit (rowOf now (OfNat.ofNat 3)) (nI c) = some (now (25 + c)) := hlit
      rw [hl2, addL, rd_ok (by omega) (by omega)]
      simp only [Option.bind_some]
      by_cases c3 : now (25 + c) = v2
      · exact ⟨-2, now, sz, nx, rows, u, by rw [if_pos c3], by rw [if_pos c3], hS⟩
      · rw [if_neg c3, if_neg c3]
        obtain ⟨sz', nx', rows', u', q1, q2, q3⟩ := both_note hH hS
        have ht : f_X7_turn (rowOf now) (nI sz) (nI nx) rows 3 (nI c) = _ := c_turn (k := 3) (v := nI c) (by omega) q2
        rw [q1, wr_ok (by omega) (by omega), rdL (by omega) (by omega), ht]
        simp only [Option.bind_some]
        have hN' := NI_opn hN hnc hnd hcn hv
        have em2 : mk_ (opnB (upd now (25 + c) v2)) 5 = flp_ (mk_ (opnB now) 5) c := flp_is (by omega) (by omega) (fun k hk => by
          unfold opnB
          by_cases e : k = c
          · subst e; rw [pk_us, ne01 (hN.2.2.1 k (by omega)).1 hv c3]; simp
          · rw [pk_un (by omega), show (k == c) = false from beq_false_of_ne e, Bool.xor_false])
        have er : rowOf now 3 ^^^ (1 : Int32) <<< (nI c &&& 31) = rowOf (upd now (25 + c) v2) 3 := by
          rw [row_3, shl_d c (by omega), flp_d _ (mk_64 (by omega)) c (by omega), row_3, em2]
        have er2 : upd (rowOf now) 3 (rowOf now 3 ^^^ (1 : Int32) <<< (nI c &&& 31)) = rowOf (upd now (25 + c) v2) := by
          rw [er, row_3, ← rowu_opn c (by omega)]
        refine ⟨nI (pcn_ (fun i => decide (upd now (25 + c) v2 (25 + 1 * i) = 1)) nd), upd now (25 + c) v2, sz', nx', rows', u', ?_, ?_, hN', ⟨m, hm, by rw [pk_un (by omega)]; exact em⟩, q3⟩
        · rw [er2, er, c_opncount hN' hnd]
          simp only [Option.bind_some]
        · show ((f_X8_many (upd now (25 + c) v2) (nI 25) (nI 1) (h 1) 1).bind _) = _
          rw [e1, m_many (by omega) (fun k hk => by omega)]
          rfl
theorem o_begins {h now u : Nat → Int32} {nr nd nc na nw sz nx : Nat} {rows : Nat → Nat → Int32} (hH : HH h nr nd nc na nw) (hS : ST h nr nd nc na sz nx now rows u) (v1 : Int32) : ∃ r now' sz' nx' rows' u', f_X7_begins (nI na) (rowOf now) (nI sz) (nI nx) rows v1 = some (r, rowOf now', nI sz', nI nx', rows') ∧ f_X8_begins (nI sz) h now u v1 = some (r, nI sz', now', u') ∧ ST h nr nd nc na sz' nx' now' rows' u' := by
  obtain ⟨e0, e1, e2, e3, e4⟩ := hH.1
  obtain ⟨hnr, hnd, hnc, hna, hnw⟩ := hH.2.1
  have hN := hS.1
  obtain ⟨m, hm, em⟩ := hS.2.1
  unfold f_X7_begins f_X8_begins
  rw [wt_ix (by omega), m_isAct e3 (by omega)]
  simp only [Option.bind_some]
  cases c1 : ixd v1 na with
  | false => exact ⟨-1, now, sz, nx, rows, u, by rw [bf0], by rw [bf0], hS⟩
  | true =>
    obtain ⟨a, han, rfl⟩ := ixd_t c1 (by omega)
    simp only [bt0]
    rw [c_stage (by omega), mulL, addL, rd_ok (by omega) (by omega)]
    simp only [Option.bind_some]
    by_cases c3 : now (30 + 2 * a) = 0
    · rw [if_pos c3, if_pos c3]
      obtain ⟨sz', nx', rows', u', q1, q2, q3⟩ := both_note hH hS
      unfold f_X4_beginIfNot
      rw [q1, q2, c_stage (by omega), wr_ok (by omega) (by omega), rdL (by omega) (by omega)]
      simp only [Option.bind_some]
      rw [if_pos c3, addL, wr_ok (by omega) (by omega)]
      simp only [Option.bind_some]
      rw [← rowu_s a (by omega), c_acts_are hna]
      simp only [Option.bind_some]
      rw [pop_d _ (mk_64 hna), pop_mk hna]
      obtain ⟨-, kh, nn, k1, k2, k3, k4, k5, k6⟩ := hN.2.2.2.2.1 a han
      obtain ⟨⟨nn', p1, p2, p3⟩, -⟩ := hH.2.2.2.2.1 a han
      have hnn : nn = nn' := (nI_eq (by omega) (by omega)).mp (k4.symm.trans p3)
      have hN' : NI h nr nd nc na (upd now (30 + 2 * a) 1) := by
        have := NI_act (x := now (30 + 2 * a + 1)) (y := 1) hN han hna hnc (ix4 (v := 1) (by decide)) ⟨kh, nn, k1, k2, k3, k4, fun e => absurd e (by decide), fun _ => by have := k5 c3; omega⟩
        rw [upd_self] at this
        exact this
      refine ⟨_, upd now (30 + 2 * a) 1, sz', nx', rows', u', rfl, ?_, hN', ⟨m, hm, by rw [pk_un (by omega)]; exact em⟩, q3⟩
      show ((f_X8_many (upd now (30 + 2 * a) 1) (nI 30) (nI 2) (h 3) 1).bind _) = _
      rw [e3, m_many hna (fun k hk => by omega)]
      rfl
    · exact ⟨-2, now, sz, nx, rows, u, by rw [if_neg c3], by rw [if_neg c3], hS⟩
theorem m_undo_copy {now u : Nat → Int32} {s : Nat} (hs : s < 10) : ∀ (q j k : Nat), j + q = 47 → q < k → f_X8_undo_22 u k (nI j) (nI s) (cpx (undN u s) now 0 j) = some (nI s, nI s, cpx (undN u s) now 0 47) := by
  intro q
  induction q with
  | zero =>
    intro j k hj hk
    obtain ⟨k, rfl⟩ : ∃ z, k = z + 1 := ⟨k - 1, by omega⟩
    have : j = 47 := by omega
    subst this
    rw [f_X8_undo_22, if_pos (by decide)]
  | succ q ih =>
    intro j k hj hk
    obtain ⟨k, rfl⟩ : ∃ z, k = z + 1 := ⟨k - 1, by omega⟩
    have ih' := ih (j + 1) k (by omega) (by omega)
    rw [f_X8_undo_22, if_neg (by rw [show (47 : Int32) = nI 47 from rfl, nI_leI (by omega) (by omega)]; omega), mulL, nI_add, rd_ok (by omega) (by omega), Option.bind_some, wr_ok (by omega) (by omega), Option.bind_some, nI_1]
    have e := cpx_s (undN u s) now 0 j
    rw [Nat.zero_add] at e
    show f_X8_undo_22 u k (nI (j + 1)) (nI s) (upd (cpx (undN u s) now 0 j) j (undN u s j)) = _
    rw [e]
    exact ih'
theorem o_undo {h now u : Nat → Int32} {nr nd nc na nw sz nx : Nat} {rows : Nat → Nat → Int32} (hH : HH h nr nd nc na nw) (hS : ST h nr nd nc na sz nx now rows u) : ∃ r now' sz' nx', f_X7_undo (rowOf now) (nI sz) (nI nx) rows = some (r, rowOf now', nI sz', nI nx') ∧ f_X8_undo (nI sz) now u = some (r, nI sz', now') ∧ ST h nr nd nc na sz' nx' now' rows u := by
  obtain ⟨hnr, hnd, hnc, hna, hnw⟩ := hH.2.1
  obtain ⟨hN, hm, p1, p2, p3, p4⟩ := hS
  unfold f_X7_undo f_X8_undo
  by_cases c : sz = 0
  · subst c
    exact ⟨-2, now, 0, nx, by rw [if_pos (show nI 0 = 0 from rfl)], by rw [if_pos (show nI 0 = 0 from rfl)], hN, hm, p1, p2, p3, p4⟩
  · obtain ⟨s, rfl⟩ : ∃ s, sz = s + 1 := ⟨sz - 1, by omega⟩
    have hne : ¬ nI (s + 1) = 0 := fun q => c ((nI_eq (a := s + 1) (b := 0) (by omega) (by decide)).mp q)
    obtain ⟨q1, q2, q3⟩ := p4 s (by omega)
    have hrow : rows ((nx + 9) % 10) = rowOf (undN u s) := by
      rw [← q1]; congr 1; omega
    have hm2 := m_undo_copy (now := now) (u := u) (s := s) (by omega) 47 0 fl_ (by omega) (fl_lt (by omega))
    rw [cpx_0] at hm2
    have hx : ∀ k, k < 47 → undN u s k = cpx (undN u s) now 0 47 k := fun k hk => by
      have := cpx_in (f := undN u s) (g := now) (b := 0) hk
      rw [Nat.zero_add] at this
      exact this.symm
    refine ⟨nI s, cpx (undN u s) now 0 47, s, (nx + 9) % 10, ?_, ?_, NI_ext hx hnc hna q2, ?_, ?_⟩
    · rw [if_neg hne, c_takeBack p2 hrow]
      simp only [Option.bind_some]
      rw [row_ext hx]
    · rw [if_neg hne, nI_pred]
      exact hm2
    · obtain ⟨m, h1, h2⟩ := q3
      exact ⟨m, h1, by rw [← hx 0 (by omega)]; exact h2⟩
    · refine ⟨by omega, by omega, p3, fun i hi => ?_⟩
      obtain ⟨z1, z2⟩ := p4 i (by omega)
      refine ⟨?_, z2⟩
      rw [← z1]; congr 1; omega
