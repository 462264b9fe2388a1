/-! keep, back -/
theorem cpy_any {f g : Nat → Int32} (hf : ∀ i, 33 ≤ i → f i = 0) (hg : ∀ i, 33 ≤ i → g i = 0) : va_cpy f g 0 0 33 = f := by
  funext i
  by_cases c : i < 33
  · rw [pk_cpy_in (Nat.zero_le _) (by omega)]; simp
  · rw [pk_cpy_out (by omega), hg i (by omega), hf i (by omega)]
theorem c_past_step {os on ps pn : Int32} {o p : Nat → Nat → Int32} {j k : Nat} (hj : j < 10) : f_X5_copyFrom_18 os on o (k + 1) (nI j) ps pn p = f_X5_copyFrom_18 os on o k (nI (j + 1)) ps pn (va_up p j (va_cpy (o j) (p j) 0 0 33)) := by
  rw [f_X5_copyFrom_18, addR]
  rcases (show j = 0 ∨ j = 1 ∨ j = 2 ∨ j = 3 ∨ j = 4 ∨ j = 5 ∨ j = 6 ∨ j = 7 ∨ j = 8 ∨ j = 9 by omega) with rfl | rfl | rfl | rfl | rfl | rfl | rfl | rfl | rfl | rfl
  · rw [if_neg (by decide), if_pos (by decide)]
  · rw [if_neg (by decide), if_neg (by decide), if_pos (by decide)]
  · rw [if_neg (by decide), if_neg (by decide), if_neg (by decide), if_pos (by decide)]
  · rw [if_neg (by decide), if_neg (by decide), if_neg (by decide), if_neg (by decide), if_pos (by decide)]
  · rw [if_neg (by decide), if_neg (by decide), if_neg (by decide), if_neg (by decide), if_neg (by decide), if_pos (by decide)]
  · rw [if_neg (by decide), if_neg (by decide), if_neg (by decide), if_neg (by decide), if_neg (by decide), if_neg (by decide), if_pos (by decide)]
  · rw [if_neg (by decide), if_neg (by decide), if_neg (by decide), if_neg (by decide), if_neg (by decide), if_neg (by decide), if_neg (by decide), if_pos (by decide)]
  · rw [if_neg (by decide), if_neg (by decide), if_neg (by decide), if_neg (by decide), if_neg (by decide), if_neg (by decide), if_neg (by decide), if_neg (by decide), if_pos (by decide)]
  · rw [if_neg (by decide), if_neg (by decide), if_neg (by decide), if_neg (by decide), if_neg (by decide), if_neg (by decide), if_neg (by decide), if_neg (by decide), if_neg (by decide), if_pos (by decide)]
  · rw [if_neg (by decide), if_neg (by decide), if_neg (by decide), if_neg (by decide), if_neg (by decide), if_neg (by decide), if_neg (by decide), if_neg (by decide), if_neg (by decide), if_neg (by decide), if_pos (by decide)]
theorem c_past {ps pn os on : Int32} {p o : Nat → Nat → Int32} (hp : ∀ j i, 33 ≤ i → p j i = 0) (ho : ∀ j i, 33 ≤ i → o j i = 0) : ∃ p' : Nat → Nat → Int32, f_X5_copyFrom ps pn p os on o = some (os, on, p') ∧ (∀ j, j < 10 → p' j = o j) ∧ ∀ j i, 33 ≤ i → p' j i = 0 := by
  unfold f_X5_copyFrom
  have loop : ∀ (q j k : Nat), j + q = 10 → q < k → ∀ p : Nat → Nat → Int32, (∀ j i, 33 ≤ i → p j i = 0) → (∀ i, i < j → p i = o i) → ∃ p' : Nat → Nat → Int32, f_X5_copyFrom_18 os on o k (nI j) os on p = some (os, on, p') ∧ (∀ j, j < 10 → p' j = o j) ∧ ∀ j i, 33 ≤ i → p' j i = 0 := by
    intro q
    induction q with
    | zero =>
      intro j k hj hk p hp he
      obtain ⟨k, rfl⟩ : ∃ z, k = z + 1 := ⟨k - 1, by omega⟩
      have : j = 10 := by omega
      subst this
      rw [f_X5_copyFrom_18, if_pos (by decide)]
      exact ⟨_, rfl, he, hp⟩
    | succ q ih =>
      intro j k hj hk p hp he
      obtain ⟨k, rfl⟩ : ∃ z, k = z + 1 := ⟨k - 1, by omega⟩
      rw [c_past_step (by omega), cpy_any (ho j) (hp j)]
      refine ih (j + 1) k (by omega) (by omega) _ (fun j' i hi => ?_) (fun i hi => ?_)
      · unfold va_up
        split
        · exact ho j i hi
        · exact hp j' i hi
      · by_cases e : i = j
        · subst e; exact va_up_self _ _ _
        · rw [va_up_ne _ _ e]; exact he i (by omega)
  have l := loop 10 0 fl_ (by omega) (fl_lt (by omega)) p hp (fun i hi => absurd hi (by omega))
  rw [show nI 0 = (0 : Int32) from rfl] at l
  exact l
theorem ST_ext {h now now' u u' : Nat → Int32} {rows rows' : Nat → Nat → Int32} {nr nd nc na sz nx : Nat} (hnc : nc ≤ 6) (hna : na ≤ 6) (h1 : ∀ k, k < 47 → now k = now' k) (h2 : ∀ k, k < 470 → u k = u' k) (h3 : ∀ j, j < 10 → rows j = rows' j) (h4 : ∀ j i, 33 ≤ i → rows' j i = 0) (hS : ST h nr nd nc na sz nx now rows u) : ST h nr nd nc na sz nx now' rows' u' := by
  obtain ⟨s1, ⟨m, hm, em⟩, p1, p2, p3, p4⟩ := hS
  refine ⟨NI_ext h1 hnc hna s1, ⟨m, hm, by rw [← h1 0 (by omega)]; exact em⟩, p1, p2, h4, fun i hi => ?_⟩
  obtain ⟨q1, q2, m', q3, q4⟩ := p4 i hi
  have hu : ∀ k, k < 47 → undN u i k = undN u' i k := fun k hk => h2 _ (by omega)
  refine ⟨?_, NI_ext hu hnc hna q2, m', q3, by rw [← hu 0 (by omega)]; exact q4⟩
  rw [← h3 _ (Nat.mod_lt _ (by decide)), q1]
  exact row_ext hu
/-- an image, in the class and in the model -/
def IR (h : Nat → Int32) (nr nd nc na : Nat) (kept : Nat → Int32) (b : Nat) (ik : Int32) (irow : Nat → Int32) (is_ in_ : Int32) (irows : Nat → Nat → Int32) : Prop :=
  ((∀ i, 33 ≤ i → irow i = 0) ∧ ∀ j i, 33 ≤ i → irows j i = 0) ∧ ((kept b = 0 ∧ ik = 0) ∨ (kept b = 1 ∧ ik = 1 ∧ ∃ sz nx, is_ = nI sz ∧ in_ = nI nx ∧ kept (b + 1) = nI sz ∧ irow = rowOf (fun k => kept (b + 2 + k)) ∧ ST h nr nd nc na sz nx (fun k => kept (b + 2 + k)) irows (fun k => kept (b + 49 + k))))
theorem IR_ext {h kept kept' : Nat → Int32} {nr nd nc na b : Nat} {ik is_ in_ : Int32} {irow : Nat → Int32} {irows : Nat → Nat → Int32} (hnc : nc ≤ 6) (hna : na ≤ 6) (he : ∀ k, k < 519 → kept (b + k) = kept' (b + k)) (hI : IR h nr nd nc na kept b ik irow is_ in_ irows) : IR h nr nd nc na kept' b ik irow is_ in_ irows := by
  obtain ⟨ht, hI⟩ := hI
  refine ⟨ht, ?_⟩
  have e0 := he 0 (by omega)
  rw [Nat.add_zero] at e0
  have e2 : ∀ k, k < 47 → kept (b + 2 + k) = kept' (b + 2 + k) := fun k hk => by rw [Nat.add_assoc]; exact he _ (by omega)
  have e3 : ∀ k, k < 470 → kept (b + 49 + k) = kept' (b + 49 + k) := fun k hk => by rw [Nat.add_assoc]; exact he _ (by omega)
  rcases hI with ⟨a1, a2⟩ | ⟨a1, a2, sz, nx, a3, a4, a5, a6, a7⟩
  · exact Or.inl ⟨by rw [← e0]; exact a1, a2⟩
  · exact Or.inr ⟨by rw [← e0]; exact a1, a2, sz, nx, a3, a4, by rw [← he 1 (by omega)]; exact a5, a6.trans (row_ext e2), ST_ext hnc hna e2 e3 (fun _ _ => rfl) a7.2.2.2.2.1 a7⟩
theorem IR_no {h h' kept kept' : Nat → Int32} {nr nd nc na nr' nd' nc' na' b : Nat} {ik is_ in_ : Int32} {irow : Nat → Int32} {irows : Nat → Nat → Int32} (hI : IR h nr nd nc na kept b ik irow is_ in_ irows) (hk : kept' b = 0) : IR h' nr' nd' nc' na' kept' b 0 irow is_ in_ irows := ⟨hI.1, Or.inl ⟨hk, rfl⟩⟩
theorem m_keep_69 {now u kept : Nat → Int32} {b : Nat} {g v1 : Int32} (hb : b ≤ 519) : ∀ (q j k : Nat), j + q = 470 → q < k → f_X8_keep_69 g now u v1 k (nI b) (nI j) (cpx u kept (b + 49) j) = some (now 0, cpx u kept (b + 49) 470) := by
  intro q
  induction q with
  | zero =>
    intro j k hj hk
    obtain ⟨k, rfl⟩ : ∃ z, k = z + 1 := ⟨k - 1, by omega⟩
    have : j = 470 := by omega
    subst this
    rw [f_X8_keep_69, if_pos (by decide), rdL (by omega) (by omega), Option.bind_some]
  | succ q ih =>
    intro j k hj hk
    obtain ⟨k, rfl⟩ : ∃ z, k = z + 1 := ⟨k - 1, by omega⟩
    have ih' := ih (j + 1) k (by omega) (by omega)
    rw [f_X8_keep_69, if_neg (by rw [show (470 : Int32) = nI 470 from rfl, nI_leI (by omega) (by omega)]; omega), rd_ok (by omega) (by omega), Option.bind_some, addR, nI_add, wr_ok (by omega) (by omega), Option.bind_some, addR, cpx_s]
    exact ih'
theorem m_keep_39 {now u kept : Nat → Int32} {b : Nat} {g v1 : Int32} (hb : b ≤ 519) : ∀ (q j k : Nat), j + q = 47 → q < k → f_X8_keep_39 g now u v1 k (nI b) (nI j) (cpx now kept (b + 2) j) = some (now 0, cpx u (cpx now kept (b + 2) 47) (b + 49) 470) := by
  intro q
  induction q with
  | zero =>
    intro j k hj hk
    obtain ⟨k, rfl⟩ : ∃ z, k = z + 1 := ⟨k - 1, by omega⟩
    have : j = 47 := by omega
    subst this
    rw [f_X8_keep_39, if_pos (by decide)]
    have l := m_keep_69 (now := now) (u := u) (kept := cpx now kept (b + 2) 47) (g := g) (v1 := v1) hb 470 0 fl_ (by omega) (fl_lt (by omega))
    rw [show nI 0 = (0 : Int32) from rfl, cpx_0] at l
    exact l
  | succ q ih =>
    intro j k hj hk
    obtain ⟨k, rfl⟩ : ∃ z, k = z + 1 := ⟨k - 1, by omega⟩
    have ih' := ih (j + 1) k (by omega) (by omega)
    rw [f_X8_keep_39, if_neg (by rw [show (47 : Int32) = nI 47 from rfl, nI_leI (by omega) (by omega)]; omega), rd_ok (by omega) (by omega), Option.bind_some, addR, nI_add, wr_ok (by omega) (by omega), Option.bind_some, addR, cpx_s]
    exact ih'
def kpt (now u kept : Nat → Int32) (b : Nat) (g : Int32) : Nat → Int32 := cpx u (cpx now (upd (upd kept b 1) (b + 1) g) (b + 2) 47) (b + 49) 470
theorem m_keep {now u kept : Nat → Int32} {i : Nat} {g : Int32} (hi : i ≤ 1) : ((wr_ kept 1038 (519 * nI i) 1).bind fun y10 => (wr_ y10 1038 ((519 * nI i) + 1) g).bind fun y11 => f_X8_keep_39 g now u (nI i) fl_ (519 * nI i) 0 y11) = some (now 0, kpt now u kept (519 * i) g) := by
  rw [mulL, wr_ok (by omega) (by omega), Option.bind_some, addR, wr_ok (by omega) (by omega), Option.bind_some]
  have l := m_keep_39 (now := now) (u := u) (kept := upd (upd kept (519 * i) 1) (519 * i + 1) g) (g := g) (v1 := nI i) (b := 519 * i) (by omega) 47 0 fl_ (by omega) (fl_lt (by omega))
  rw [show nI 0 = (0 : Int32) from rfl, cpx_0] at l
  exact l
theorem kpt_out {now u kept : Nat → Int32} {b k : Nat} {g : Int32} (h : k < b ∨ b + 519 ≤ k) : kpt now u kept b g k = kept k := by
  unfold kpt
  rw [cpx_out (by omega), cpx_out (by omega), pk_un (by omega), pk_un (by omega)]
theorem kpt_is {h now u kept irow0 : Nat → Int32} {rows irows irows0 : Nat → Nat → Int32} {nr nd nc na sz nx b : Nat} (hnc : nc ≤ 6) (hna : na ≤ 6) (hS : ST h nr nd nc na sz nx now rows u) (h3 : ∀ j, j < 10 → irows j = rows j) (h4 : ∀ j i, 33 ≤ i → irows j i = 0) : IR h nr nd nc na (kpt now u kept b (nI sz)) b 1 (rowOf now) (nI sz) (nI nx) irows := by
  refine ⟨⟨fun i hi => row_big hi, h4⟩, Or.inr ⟨?_, rfl, sz, nx, rfl, rfl, ?_, row_ext (fun k hk => ?_), ST_ext hnc hna (fun k hk => ?_) (fun k hk => ?_) (fun j hj => (h3 j hj).symm) h4 hS⟩⟩
  · unfold kpt
    rw [cpx_out (by omega), cpx_out (by omega), pk_un (by omega), pk_us]
  · unfold kpt
    rw [cpx_out (by omega), cpx_out (by omega), pk_us]
  · unfold kpt
    rw [cpx_out (by omega), cpx_in hk]
  · unfold kpt
    show now k = cpx u _ (b + 49) 470 (b + 2 + k)
    rw [cpx_out (by omega), cpx_in hk]
  · unfold kpt
    show u k = cpx u _ (b + 49) 470 (b + 49 + k)
    rw [cpx_in hk]
theorem o_keep {h now u kept irow jrow : Nat → Int32} {rows irows jrows : Nat → Nat → Int32} {nr nd nc na nw sz nx : Nat} {ik is_ in_ jk js jn : Int32} (hH : HH h nr nd nc na nw) (hS : ST h nr nd nc na sz nx now rows u) (hI : IR h nr nd nc na kept 0 ik irow is_ in_ irows) (hJ : IR h nr nd nc na kept 519 jk jrow js jn jrows) (v1 : Int32) : ∃ r ik' irow' is' in' irows' jk' jrow' js' jn' jrows' kept', f_X7_keep (rowOf now) (nI sz) (nI nx) rows ik irow is_ in_ irows jk jrow js jn jrows v1 = some (r, ik', irow', is', in', irows', jk', jrow', js', jn', jrows') ∧ f_X8_keep (nI sz) now u kept v1 = some (r, kept') ∧ IR h nr nd nc na kept' 0 ik' irow' is' in' irows' ∧ IR h nr nd nc na kept' 519 jk' jrow' js' jn' jrows' := by
  obtain ⟨hnr, hnd, hnc, hna, hnw⟩ := hH.2.1
  unfold f_X7_keep f_X8_keep
  have ei : f_X8_in v1.toInt64 0 1 = some (b2i (rg v1 0 1)) := in_rg (by decide) (by decide)
  have ew : f_X7_within v1 0 1 = some (b2i (rg v1 0 1)) := wt_rg (by decide) (by decide)
  rw [ei, ew, Option.bind_some, Option.bind_some]
  cases c1 : rg v1 0 1 with
  | false => rw [bf0, bf0]; exact ⟨_, _, _, _, _, _, _, _, _, _, _, _, rfl, rfl, hI, hJ⟩
  | true =>
    rw [bt0, bt0]
    unfold f_X3_take
    rcases rg01 c1 with rfl | rfl
    · obtain ⟨p', q1, q2, q3⟩ := c_past (ps := is_) (pn := in_) (os := nI sz) (on := nI nx) hI.1.2 hS.2.2.2.2.1
      have lk := m_keep (now := now) (u := u) (kept := kept) (i := 0) (g := nI sz) (by omega)
      rw [show nI 0 = (0 : Int32) from rfl] at lk
      rw [if_pos rfl, q1, Option.bind_some, Option.bind_some, c_minute, Option.bind_some, lk, cpy_row hI.1.1]
      exact ⟨_, _, _, _, _, _, _, _, _, _, _, _, rfl, rfl, kpt_is (irow0 := irow) (irows0 := irows) hnc hna hS q2 q3, IR_ext hnc hna (fun k hk => (kpt_out (by omega)).symm) hJ⟩
    · obtain ⟨p', q1, q2, q3⟩ := c_past (ps := js) (pn := jn) (os := nI sz) (on := nI nx) hJ.1.2 hS.2.2.2.2.1
      have lk := m_keep (now := now) (u := u) (kept := kept) (i := 1) (g := nI sz) (by omega)
      rw [show nI 1 = (1 : Int32) from rfl] at lk
      rw [if_neg (by decide), if_pos rfl, q1, Option.bind_some, Option.bind_some, c_minute, Option.bind_some, lk, cpy_row hJ.1.1]
      exact ⟨_, _, _, _, _, _, _, _, _, _, _, _, rfl, rfl, IR_ext hnc hna (fun k hk => (kpt_out (by omega)).symm) hI, kpt_is (irow0 := jrow) (irows0 := jrows) hnc hna hS q2 q3⟩
theorem m_back_74 {kept u : Nat → Int32} {b : Nat} {v1 g : Int32} {now : Nat → Int32} (hb : b ≤ 519) : ∀ (q j k : Nat), j + q = 470 → q < k → f_X8_back_74 kept v1 k (nI b) (nI j) g now (cpx (fun k => kept (b + 49 + k)) u 0 j) = some (now 0, g, now, cpx (fun k => kept (b + 49 + k)) u 0 470) := by
  intro q
  induction q with
  | zero =>
    intro j k hj hk
    obtain ⟨k, rfl⟩ : ∃ z, k = z + 1 := ⟨k - 1, by omega⟩
    have : j = 470 := by omega
    subst this
    rw [f_X8_back_74, if_pos (by decide), rdL (by omega) (by omega), Option.bind_some]
  | succ q ih =>
    intro j k hj hk
    obtain ⟨k, rfl⟩ : ∃ z, k = z + 1 := ⟨k - 1, by omega⟩
    have ih' := ih (j + 1) k (by omega) (by omega)
    have e := cpx_s (fun k => kept (b + 49 + k)) u 0 j
    rw [Nat.zero_add] at e
    rw [f_X8_back_74, if_neg (by rw [show (470 : Int32) = nI 470 from rfl, nI_leI (by omega) (by omega)]; omega), addR, nI_add, rd_ok (by omega) (by omega), Option.bind_some, wr_ok (by omega) (by omega), Option.bind_some, addR]
    show f_X8_back_74 kept v1 k (nI b) (nI (j + 1)) g now (upd (cpx (fun k => kept (b + 49 + k)) u 0 j) j ((fun k => kept (b + 49 + k)) j)) = _
    rw [e]
    exact ih'
theorem m_back_44 {kept u now : Nat → Int32} {b : Nat} {v1 g : Int32} (hb : b ≤ 519) : ∀ (q j k : Nat), j + q = 47 → q < k → f_X8_back_44 kept v1 k (nI b) (nI j) g (cpx (fun k => kept (b + 2 + k)) now 0 j) u = some (cpx (fun k => kept (b + 2 + k)) now 0 47 0, g, cpx (fun k => kept (b + 2 + k)) now 0 47, cpx (fun k => kept (b + 49 + k)) u 0 470) := by
  intro q
  induction q with
  | zero =>
    intro j k hj hk
    obtain ⟨k, rfl⟩ : ∃ z, k = z + 1 := ⟨k - 1, by omega⟩
    have : j = 47 := by omega
    subst this
    rw [f_X8_back_44, if_pos (by decide)]
    have l := m_back_74 (kept := kept) (u := u) (v1 := v1) (g := g) (now := cpx (fun k => kept (b + 2 + k)) now 0 47) hb 470 0 fl_ (by omega) (fl_lt (by omega))
    rw [show nI 0 = (0 : Int32) from rfl, cpx_0] at l
    exact l
  | succ q ih =>
    intro j k hj hk
    obtain ⟨k, rfl⟩ : ∃ z, k = z + 1 := ⟨k - 1, by omega⟩
    have ih' := ih (j + 1) k (by omega) (by omega)
    have e := cpx_s (fun k => kept (b + 2 + k)) now 0 j
    rw [Nat.zero_add] at e
    rw [f_X8_back_44, if_neg (by rw [show (47 : Int32) = nI 47 from rfl, nI_leI (by omega) (by omega)]; omega), addR, nI_add, rd_ok (by omega) (by omega), Option.bind_some, wr_ok (by omega) (by omega), Option.bind_some, addR]
    show f_X8_back_44 kept v1 k (nI b) (nI (j + 1)) g (upd (cpx (fun k => kept (b + 2 + k)) now 0 j) j ((fun k => kept (b + 2 + k)) j)) u = _
    rw [e]
    exact ih'
theorem o_back {h now u kept irow jrow : Nat → Int32} {rows irows jrows : Nat → Nat → Int32} {nr nd nc na nw sz nx : Nat} {ik is_ in_ jk js jn : Int32} (hH : HH h nr nd nc na nw) (hS : ST h nr nd nc na sz nx now rows u) (hI : IR h nr nd nc na kept 0 ik irow is_ in_ irows) (hJ : IR h nr nd nc na kept 519 jk jrow js jn jrows) (v1 : Int32) : ∃ r now' sz' nx' rows' u', f_X7_back (rowOf now) (nI sz) (nI nx) rows ik irow is_ in_ irows jk jrow js jn jrows v1 = some (r, rowOf now', nI sz', nI nx', rows') ∧ f_X8_back (nI sz) now u kept v1 = some (r, nI sz', now', u') ∧ ST h nr nd nc na sz' nx' now' rows' u' := by
  obtain ⟨hnr, hnd, hnc, hna, hnw⟩ := hH.2.1
  unfold f_X7_back f_X8_back
  have ei : f_X8_in v1.toInt64 0 1 = some (b2i (rg v1 0 1)) := in_rg (by decide) (by decide)
  have ew : f_X7_within v1 0 1 = some (b2i (rg v1 0 1)) := wt_rg (by decide) (by decide)
  rw [ei, ew, Option.bind_some, Option.bind_some]
  cases c1 : rg v1 0 1 with
  | false => rw [bf0, bf0]; exact ⟨_, now, sz, nx, rows, u, rfl, rfl, hS⟩
  | true =>
    rw [bt0, bt0]
    have one : ∀ (i : Nat) (ik : Int32) (irow : Nat → Int32) (is_ in_ : Int32) (irows : Nat → Nat → Int32), i ≤ 1 → IR h nr nd nc na kept (519 * i) ik irow is_ in_ irows → ∃ r now' sz' nx' rows' u', (if ik = 0 then (some ((-2 : Int32), rowOf now, nI sz, nI nx, rows)) else ((f_X3_giveTo irow is_ in_ irows (rowOf now) (nI sz) (nI nx) rows).bind fun q5 => (f_X4_minute q5.1).bind fun q6 => some (q6, q5.1, q5.2.1, q5.2.2.1, q5.2.2.2))) = some (r, rowOf now', nI sz', nI nx', rows') ∧ ((rd_ kept 1038 (519 * nI i)).bind fun x10 => if x10 = 0 then (some ((-2 : Int32), nI sz, now, u)) else ((rd_ kept 1038 ((519 * nI i) + 1)).bind fun x12 => f_X8_back_44 kept (nI i) fl_ (519 * nI i) 0 x12 now u)) = some (r, nI sz', now', u') ∧ ST h nr nd nc na sz' nx' now' rows' u' := by
      intro i ik irow is_ in_ irows hi hI
      rw [mulL, rd_ok (by omega) (by omega), Option.bind_some, addR, rd_ok (by omega) (by omega), Option.bind_some]
      rcases hI.2 with ⟨a1, a2⟩ | ⟨a1, a2, sz', nx', a3, a4, a5, a6, a7⟩
      · rw [if_pos a2, if_pos a1]
        exact ⟨_, now, sz, nx, rows, u, rfl, rfl, hS⟩
      · rw [if_neg (by rw [a2]; decide), if_neg (by show ¬ kept (519 * i) = 0; rw [a1]; decide)]
        unfold f_X3_giveTo
        obtain ⟨p', q1, q2, q3⟩ := c_past (ps := nI sz) (pn := nI nx) (os := is_) (on := in_) hS.2.2.2.2.1 hI.1.2
        rw [q1, Option.bind_some, Option.bind_some, a6, cpy_row (fun i hi => row_big hi)]
        show ∃ r now' sz' nx' rows' u', ((f_X4_minute (rowOf (fun k => kept (519 * i + 2 + k)))).bind _) = _ ∧ _
        rw [c_minute, Option.bind_some]
        have lb := m_back_44 (kept := kept) (u := u) (now := now) (v1 := nI i) (g := kept (519 * i + 1)) (b := 519 * i) (by omega) 47 0 fl_ (by omega) (fl_lt (by omega))
        rw [show nI 0 = (0 : Int32) from rfl, cpx_0] at lb
        rw [show kept (519 * i + OfNat.ofNat 1) = kept (519 * i + 1) from rfl, lb, a5, cpx_47 (by omega)]
        refine ⟨_, cpx (fun k => kept (519 * i + 2 + k)) now 0 47, sz', nx', p', _, ?_, rfl, ST_ext hnc hna (fun k hk => (cpx_47 hk).symm) (fun k hk => ?_) (fun j hj => (q2 j hj).symm) q3 a7⟩
        · rw [a3, a4, row_ext (fun k hk => cpx_47 hk)]
        · have := cpx_in (f := fun k => kept (519 * i + 49 + k)) (g := u) (b := 0) hk
          rw [Nat.zero_add] at this
          exact this.symm
    rcases rg01 c1 with rfl | rfl
    · rw [if_pos rfl]
      exact one 0 ik irow is_ in_ irows (by omega) hI
    · rw [if_neg (by decide), if_pos rfl]
      exact one 1 jk jrow js jn jrows (by omega) hJ
