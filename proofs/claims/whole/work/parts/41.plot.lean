/-! plot, guard -/
theorem xor_d : ∀ x, x < 64 → ∀ y, y < 64 → nI x ^^^ nI y = nI (x ^^^ y) ∧ x ^^^ y < 64 := by decide +kernel
theorem pop_le_d : ∀ n, n < 7 → ∀ s, s < 64 → s < 2 ^ n → pop_ s ≤ n := by decide +kernel
/-- doors turned -/
def opx (s : Nat) : Nat → (Nat → Int32) → (Nat → Int32)
  | 0, now => now
  | d + 1, now => upd (opx s d now) (25 + d) (opx s d now (25 + d) ^^^ b2i (s.testBit d))
theorem opx_out {s k : Nat} {now : Nat → Int32} : ∀ {j : Nat}, (∀ d, d < j → k ≠ 25 + d) → opx s j now k = now k
  | 0, _ => rfl
  | j + 1, hx => by
    unfold opx
    rw [pk_un (hx j (by omega))]
    exact opx_out (fun d hd => hx d (by omega))
theorem opx_in {s d : Nat} {now : Nat → Int32} : ∀ {j : Nat}, d < j → opx s j now (25 + d) = now (25 + d) ^^^ b2i (s.testBit d)
  | 0, h => absurd h (by omega)
  | j + 1, h => by
    unfold opx
    by_cases e : d = j
    · subst e
      rw [pk_us, opx_out (fun d' hd' => by omega)]
    · rw [pk_un (by omega)]
      exact opx_in (by omega)
theorem x01 {x : Int32} {b : Bool} (h : x = 0 ∨ x = 1) : (x ^^^ b2i b = 0 ∨ x ^^^ b2i b = 1) ∧ decide (x ^^^ b2i b = 1) = (decide (x = 1) ^^ b) := by
  rcases h with rfl | rfl <;> cases b <;> decide
theorem NI_opx {h now : Nat → Int32} {nr nd nc na s : Nat} (hN : NI h nr nd nc na now) (hnc : nc ≤ 6) (hnd : nd ≤ 5) : ∀ {j : Nat}, j ≤ nd → NI h nr nd nc na (opx s j now)
  | 0, _ => hN
  | j + 1, hj => by
    have ih := NI_opx (s := s) hN hnc hnd (j := j) (by omega)
    unfold opx
    exact NI_opn ih hnc hnd (by omega) (x01 (ih.2.2.1 j (by omega)).1).1
theorem row_opx {s : Nat} {now : Nat → Int32} : ∀ {j : Nat}, j ≤ 5 → rowOf (opx s j now) = upd (rowOf now) 3 (nI (mk_ (opnB (opx s j now)) 5))
  | 0, _ => by
    show rowOf now = upd (rowOf now) 3 (nI (mk_ (opnB now) 5))
    rw [← row_3, upd_self]
  | j + 1, hj => by
    have ih := row_opx (s := s) (now := now) (j := j) (by omega)
    unfold opx
    rw [rowu_opn j (by omega), ih, upd_upd]
theorem row_turn {h now : Nat → Int32} {nr nd nc na s : Nat} (hN : NI h nr nd nc na now) (hnd : nd ≤ 5) (hs : s < 2 ^ nd) : upd (rowOf now) 3 (rowOf now 3 ^^^ nI s) = rowOf (opx s nd now) := by
  have h64 : s < 64 := Nat.lt_of_lt_of_le hs (p64 (by omega))
  rw [row_opx hnd, row_3, (xor_d _ (mk_64 (by omega)) s h64).1]
  congr 2
  apply Nat.eq_of_testBit_eq
  intro d
  rw [Nat.testBit_xor]
  by_cases hd : d < 5
  · rw [mk_bit hd, mk_bit hd]
    unfold opnB
    by_cases hdn : d < nd
    · rw [opx_in hdn, (x01 (hN.2.2.1 d hd).1).2]
    · rw [opx_out (fun d' hd' => by omega), Nat.testBit_lt_two_pow (Nat.lt_of_lt_of_le hs (Nat.pow_le_pow_right (by decide) (by omega))), Bool.xor_false]
  · rw [mk_big (by omega), mk_big (by omega), Nat.testBit_lt_two_pow (Nat.lt_of_lt_of_le hs (Nat.pow_le_pow_right (by decide) (by omega)))]
    rfl
/-- the model turns doors -/
theorem m_turn {h aside : Nat → Int32} {nd a s : Nat} {v2 v3 v4 v5 : Int32} {K : Int32 → Int32 → Int32 → (Nat → Int32) → (Nat → Int32) → Option (Int32 × (Nat → Int32) × (Nat → Int32))} {now : Nat → Int32} (e1 : h 1 = nI nd) (hnd : nd ≤ 5) (hs : s < 64) : ∀ (q j k : Nat), j + q = nd → q < k → f_X8_turns_67 h (nI a) v2 v3 K k v4 v5 (nI s) (nI j) (opx s j now) aside = ((f_X8_isWhole h (opx s nd now) (nI a)).bind fun q9 => if q9.1 = v3 then (f_X8_turns_120 h (nI a) v2 v3 K v4 (nI s) (nI s) q9.2 aside) else (f_X8_turns_120 h (nI a) v2 v3 K v4 (nI s) v5 q9.2 aside)) := by
  intro q
  induction q with
  | zero =>
    intro j k hj hk
    obtain ⟨k, rfl⟩ : ∃ z, k = z + 1 := ⟨k - 1, by omega⟩
    have : j = nd := by omega
    subst this
    rw [f_X8_turns_67, rdL (by omega) (by omega), Option.bind_some, if_pos (by show h 1 ≤ nI j; rw [e1, nI_leI (by omega) (by omega)]; omega)]
  | succ q ih =>
    intro j k hj hk
    obtain ⟨k, rfl⟩ : ∃ z, k = z + 1 := ⟨k - 1, by omega⟩
    have ih' := ih (j + 1) k (by omega) (by omega)
    have eb : (nI s >>> (nI j &&& 31)) &&& 1 = b2i (s.testBit j) := by rw [bit_d s hs j (by omega)]; rfl
    rw [f_X8_turns_67, rdL (by omega) (by omega), Option.bind_some, if_neg (by show ¬ h 1 ≤ nI j; rw [e1, nI_leI (by omega) (by omega)]; omega), addL, rd_ok (by omega) (by omega), Option.bind_some, wr_ok (by omega) (by omega), Option.bind_some, eb, addR]
    exact ih'
/-- the best of some sets: fewest, then least -/
def isB (N : Nat) (ok : Nat → Prop) (r : Int32) : Prop := (r = -9 ∧ ∀ s, s < N → ¬ ok s) ∨ ∃ b, b < N ∧ r = nI b ∧ ok b ∧ ∀ s, s < N → ok s → pop_ b < pop_ s ∨ (pop_ b = pop_ s ∧ b ≤ s)
theorem isB_one {N : Nat} {ok : Nat → Prop} {r r' : Int32} (h1 : isB N ok r) (h2 : isB N ok r') : r = r' := by
  rcases h1 with ⟨a1, a2⟩ | ⟨b, b1, b2, b3, b4⟩
  · rcases h2 with ⟨c1, c2⟩ | ⟨d, d1, d2, d3, d4⟩
    · rw [a1, c1]
    · exact absurd d3 (a2 d d1)
  · rcases h2 with ⟨c1, c2⟩ | ⟨d, d1, d2, d3, d4⟩
    · exact absurd b3 (c2 b b1)
    · have x1 := b4 d d1 d3
      have x2 := d4 b b1 b3
      rw [b2, d2, show b = d by omega]
theorem ne_m9' {b : Nat} (h : b < 64) : ¬ nI b = (-9 : Int32) := by
  have : ∀ b, b < 64 → ¬ nI b = (-9 : Int32) := by decide +kernel
  exact this b h
theorem c_few {h now t1 t2 tnn tar trr twi q_row : Nat → Int32} {nr nd nc na nw m a : Nat} {some_ : Int32} {w : Bool} {C : Nat → Bool} (hH : HH h nr nd nc na nw) (hT : HT h nd na nw t1 t2 tnn tar trr twi) (hN : NI h nr nd nc na now) (hm : m ≤ 999) (em : now 0 = nI m) (han : a < na) (hq : ∀ i, 33 ≤ i → q_row i = 0) (hC : ∀ s, s < 2 ^ nd → (nI s &&& (some_ ^^^ (-1)) = 0 ↔ C s = true)) : ∃ r q', f_X1_fewestTurned q_row (rowOf now) (nI nd) (nI nc) (nI na) (nI nw) t1 t2 tnn tar trr twi (nI a) some_ (b2i w) = some (r, q') ∧ (∀ i, 33 ≤ i → q' i = 0) ∧ isB (2 ^ nd) (fun s => C s = true ∧ fin_ h nd nc na nw m 0 0 a (opx s nd now) = w) r := by
  obtain ⟨hnr, hnd, hnc, hna, hnw⟩ := hH.2.1
  have hp := p64 (show nd ≤ 6 by omega)
  -- one size
  have inner : ∀ (K : Int32 → (Nat → Int32) → Option (Int32 × (Nat → Int32))) (sz : Nat), sz ≤ nd → (∀ s, s < 2 ^ nd → pop_ s < sz → ¬ (C s = true ∧ fin_ h nd nc na nw m 0 0 a (opx s nd now) = w)) → (∀ q_row : Nat → Int32, (∀ i, 33 ≤ i → q_row i = 0) → (∀ s, s < 2 ^ nd → pop_ s < sz + 1 → ¬ (C s = true ∧ fin_ h nd nc na nw m 0 0 a (opx s nd now) = w)) → ∃ r q', K (nI (sz + 1)) q_row = some (r, q') ∧ (∀ i, 33 ≤ i → q' i = 0) ∧ isB (2 ^ nd) (fun s => C s = true ∧ fin_ h nd nc na nw m 0 0 a (opx s nd now) = w) r) → ∀ (q s k : Nat), s + q = 2 ^ nd → q < k → (∀ t, t < s → pop_ t = sz → ¬ (C t = true ∧ fin_ h nd nc na nw m 0 0 a (opx t nd now) = w)) → ∀ q_row : Nat → Int32, (∀ i, 33 ≤ i → q_row i = 0) → ∃ r q', f_X1_fewestTurned_18 (rowOf now) (nI nd) (nI nc) (nI na) (nI nw) t1 t2 tnn tar trr twi (nI a) some_ (b2i w) K k (nI sz) (nI s) q_row = some (r, q') ∧ (∀ i, 33 ≤ i → q' i = 0) ∧ isB (2 ^ nd) (fun s => C s = true ∧ fin_ h nd nc na nw m 0 0 a (opx s nd now) = w) r := by
    intro K sz hsz hlow hK q
    induction q with
    | zero =>
      intro s k hs hk hno q_row hq
      obtain ⟨k, rfl⟩ : ∃ z, k = z + 1 := ⟨k - 1, by omega⟩
      rw [f_X1_fewestTurned_18, shl_7 nd (by omega), if_pos ((nI_leI (by omega) (by omega)).mpr (by omega)), addR]
      refine hK q_row hq (fun t ht hpt => ?_)
      by_cases e : pop_ t = sz
      · exact hno t (by omega) e
      · exact hlow t ht (by omega)
    | succ q ih =>
      intro s k hs hk hno q_row hq
      obtain ⟨k, rfl⟩ : ∃ z, k = z + 1 := ⟨k - 1, by omega⟩
      have hs64 : s < 64 := by omega
      have hps : pop_ s ≤ 6 := pop_le_d 6 (by decide) s hs64 (by omega)
      have next : ∀ q_row : Nat → Int32, (∀ i, 33 ≤ i → q_row i = 0) → (pop_ s = sz → ¬ (C s = true ∧ fin_ h nd nc na nw m 0 0 a (opx s nd now) = w)) → ∃ r q', f_X1_fewestTurned_88 (rowOf now) (nI nd) (nI nc) (nI na) (nI nw) t1 t2 tnn tar trr twi (nI a) some_ (b2i w) K (f_X1_fewestTurned_18 (rowOf now) (nI nd) (nI nc) (nI na) (nI nw) t1 t2 tnn tar trr twi (nI a) some_ (b2i w) K k) (nI sz) (nI s) q_row = some (r, q') ∧ (∀ i, 33 ≤ i → q' i = 0) ∧ isB (2 ^ nd) (fun s => C s = true ∧ fin_ h nd nc na nw m 0 0 a (opx s nd now) = w) r := fun q_row hq hns => by
        unfold f_X1_fewestTurned_88
        rw [addR]
        refine ih (s + 1) k (by omega) (by omega) (fun t ht hpt => ?_) q_row hq
        by_cases e : t = s
        · subst e; exact hns hpt
        · exact hno t (by omega) hpt
      rw [f_X1_fewestTurned_18, shl_7 nd (by omega), if_neg (fun z => by have := (nI_leI (by omega) (by omega)).mp z; omega), pop_d s hs64, Option.bind_some]
      by_cases c1 : pop_ s = sz
      · rw [if_pos (by rw [c1])]
        by_cases c2 : nI s &&& (some_ ^^^ (-1)) = 0
        · rw [if_pos c2, c_copy hq, Option.bind_some, rdL (by omega) (by omega), Option.bind_some, wrL (by omega) (by omega), Option.bind_some]
          show ∃ r q', ((f_X1_endsWhole (upd (rowOf now) 3 (rowOf now 3 ^^^ nI s)) (nI nd) (nI nc) (nI na) (nI nw) t1 t2 tnn tar trr twi (nI a) 0 0).bind _) = _ ∧ _
          rw [row_turn hN hnd (by omega)]
          obtain ⟨z, hz⟩ := c_ends (g := 0) (n := 0) hH hT (NI_opx (s := s) hN hnc hnd (Nat.le_refl _)) hm (by rw [opx_out (fun d _ => by omega)]; exact em) han (by decide) (by decide)
          rw [show nI 0 = (0 : Int32) from rfl] at hz
          rw [hz, Option.bind_some]
          by_cases c3 : fin_ h nd nc na nw m 0 0 a (opx s nd now) = w
          · rw [if_pos (by rw [c3])]
            refine ⟨_, _, rfl, fun i hi => row_big hi, Or.inr ⟨s, by omega, rfl, ⟨(hC s (by omega)).mp c2, c3⟩, fun t ht hok => ?_⟩⟩
            rcases Nat.lt_trichotomy (pop_ t) sz with z | z | z
            · exact absurd hok (hlow t ht z)
            · rcases Nat.lt_or_ge t s with y | y
              · exact absurd hok (hno t y z)
              · omega
            · omega
          · rw [if_neg (fun z => c3 (b2i_inj z))]
            exact next _ (fun i hi => row_big hi) (fun _ z => c3 z.2)
        · rw [if_neg c2]
          exact next _ hq (fun _ z => c2 ((hC s (by omega)).mpr z.1))
      · rw [if_neg (fun z => c1 ((nI_eq (by omega) (by omega)).mp z))]
        exact next _ hq (fun z => absurd z c1)
  have outer : ∀ (q sz k : Nat), sz + q = nd + 1 → q < k → (∀ s, s < 2 ^ nd → pop_ s < sz → ¬ (C s = true ∧ fin_ h nd nc na nw m 0 0 a (opx s nd now) = w)) → ∀ q_row : Nat → Int32, (∀ i, 33 ≤ i → q_row i = 0) → ∃ r q', f_X1_fewestTurned_3 (rowOf now) (nI nd) (nI nc) (nI na) (nI nw) t1 t2 tnn tar trr twi (nI a) some_ (b2i w) k (nI sz) q_row = some (r, q') ∧ (∀ i, 33 ≤ i → q' i = 0) ∧ isB (2 ^ nd) (fun s => C s = true ∧ fin_ h nd nc na nw m 0 0 a (opx s nd now) = w) r := by
    intro q
    induction q with
    | zero =>
      intro sz k hs hk hlow q_row hq
      obtain ⟨k, rfl⟩ : ∃ z, k = z + 1 := ⟨k - 1, by omega⟩
      rw [f_X1_fewestTurned_3, if_pos ((nI_ltI (by omega) (by omega)).mpr (by omega))]
      refine ⟨_, _, rfl, hq, Or.inl ⟨rfl, fun s hs' => hlow s hs' ?_⟩⟩
      have := pop_le_d nd (by omega) s (by omega) hs'
      omega
    | succ q ih =>
      intro sz k hs hk hlow q_row hq
      obtain ⟨k, rfl⟩ : ∃ z, k = z + 1 := ⟨k - 1, by omega⟩
      rw [f_X1_fewestTurned_3, if_neg (fun z => by have := (nI_ltI (by omega) (by omega)).mp z; omega)]
      have l := inner (f_X1_fewestTurned_3 (rowOf now) (nI nd) (nI nc) (nI na) (nI nw) t1 t2 tnn tar trr twi (nI a) some_ (b2i w) k) sz (by omega) hlow (fun q_row hq hl => ih (sz + 1) k (by omega) (by omega) hl q_row hq) (2 ^ nd) 0 fl_ (by omega) (fl_lt (by omega)) (fun t ht _ => absurd ht (by omega)) q_row hq
      rw [show nI 0 = (0 : Int32) from rfl] at l
      exact l
  have l := outer (nd + 1) 0 fl_ (by omega) (fl_lt (by omega)) (fun s _ z => absurd z (by omega)) q_row hq
  rw [show nI 0 = (0 : Int32) from rfl] at l
  exact l
theorem sub_d : ∀ x, x < 64 → ∀ y, y < 64 → ((nI x &&& (nI y ^^^ (-1)) = 0) → x ≤ y) := by decide +kernel
theorem m_few {h now ad : Nat → Int32} {nr nd nc na nw m a may : Nat} {v2 : Int32} {w : Bool} {C : Nat → Bool} (hH : HH h nr nd nc na nw) (hN : NI h nr nd nc na now) (hm : m ≤ 999) (em : now 0 = nI m) (han : a < na) (hmay : may < 2 ^ nd) (had : ∀ k, k < 47 → ad k = now k) (hC : ∀ s, s < 2 ^ nd → (nI s &&& (nI may ^^^ (-1)) = 0 ↔ C s = true)) : ∃ r now', f_X8_turns_27 h (nI a) v2 (b2i w) fl_ (nI may) (-9) 0 now ad = some (r, now', ad) ∧ (∀ k, k < 47 → now' k = now k) ∧ isB (2 ^ nd) (fun s => C s = true ∧ fin_ h nd nc na nw m 0 0 a (opx s nd now) = w) r := by
  obtain ⟨hnr, hnd, hnc, hna, hnw⟩ := hH.2.1
  have e1 := hH.1.2.1
  have hp := p64 (show nd ≤ 6 by omega)
  have hgt : ∀ s, s < 2 ^ nd → may < s → ¬ C s = true := fun s hs hlt z => by
    have := sub_d s (by omega) may (by omega) ((hC s hs).mpr z)
    omega
  have loop : ∀ (q s k : Nat), s + q = may + 1 → q < k → ∀ (best : Int32) (now1 : Nat → Int32), (∀ k, k < 47 → now1 k = now k) → isB s (fun s => C s = true ∧ fin_ h nd nc na nw m 0 0 a (opx s nd now) = w) best → ∃ r now', f_X8_turns_27 h (nI a) v2 (b2i w) k (nI may) best (nI s) now1 ad = some (r, now', ad) ∧ (∀ k, k < 47 → now' k = now k) ∧ isB (may + 1) (fun s => C s = true ∧ fin_ h nd nc na nw m 0 0 a (opx s nd now) = w) r := by
    intro q
    induction q with
    | zero =>
      intro s k hs hk best now1 h1 hb
      obtain ⟨k, rfl⟩ : ∃ z, k = z + 1 := ⟨k - 1, by omega⟩
      have : s = may + 1 := by omega
      subst this
      rw [f_X8_turns_27, if_pos ((nI_ltI (by omega) (by omega)).mpr (by omega))]
      exact ⟨_, _, rfl, h1, hb⟩
    | succ q ih =>
      intro s k hs hk best now1 h1 hb
      obtain ⟨k, rfl⟩ : ∃ z, k = z + 1 := ⟨k - 1, by omega⟩
      have hs64 : s < 64 := by omega
      have keep : ∀ now1 : Nat → Int32, (∀ k, k < 47 → now1 k = now k) → (¬ (C s = true ∧ fin_ h nd nc na nw m 0 0 a (opx s nd now) = w) ∨ ∃ b, b < s ∧ best = nI b ∧ (C b = true ∧ fin_ h nd nc na nw m 0 0 a (opx b nd now) = w) ∧ pop_ b ≤ pop_ s) → ∃ r now', f_X8_turns_126 h (nI a) v2 (b2i w) (f_X8_turns_27 h (nI a) v2 (b2i w) k) (nI may) best (nI s) now1 ad = some (r, now', ad) ∧ (∀ k, k < 47 → now' k = now k) ∧ isB (may + 1) (fun s => C s = true ∧ fin_ h nd nc na nw m 0 0 a (opx s nd now) = w) r := fun now1 h1 hx => by
        unfold f_X8_turns_126
        rw [addR]
        refine ih (s + 1) k (by omega) (by omega) best now1 h1 ?_
        rcases hb with ⟨b1, b2⟩ | ⟨b, b1, b2, b3, b4⟩
        · refine Or.inl ⟨b1, fun t ht => ?_⟩
          by_cases e : t = s
          · subst e
            rcases hx with z | ⟨b, y1, y2, y3, -⟩
            · exact z
            · exact absurd (y2.symm.trans b1) (ne_m9' (by omega))
          · exact b2 t (by omega)
        · refine Or.inr ⟨b, by omega, b2, b3, fun t ht hok => ?_⟩
          by_cases e : t = s
          · subst e
            rcases hx with z | ⟨b', y1, y2, y3, y4⟩
            · exact absurd hok z
            · have : b = b' := (nI_eq (by omega) (by omega)).mp (b2.symm.trans y2)
              subst this
              omega
          · exact b4 t (by omega) hok
      rw [f_X8_turns_27, if_neg (fun z => by have := (nI_ltI (by omega) (by omega)).mp z; omega)]
      by_cases c1 : nI s &&& (nI may ^^^ (-1)) = 0
      · rw [if_pos c1]
        have hCs := (hC s (by omega)).mp c1
        have hN1 : NI h nr nd nc na now1 := NI_ext (fun k hk => (h1 k hk).symm) hnc hna hN
        have em1 : now1 0 = nI m := by rw [h1 0 (by omega)]; exact em
        -- the try
        have try_ : (best = -9 ∨ ∃ b, b < s ∧ best = nI b ∧ pop_ s < pop_ b) → ∃ r now', f_X8_turns_64 h (nI a) v2 (b2i w) (f_X8_turns_27 h (nI a) v2 (b2i w) k) (nI may) best (nI s) now1 ad = some (r, now', ad) ∧ (∀ k, k < 47 → now' k = now k) ∧ isB (may + 1) (fun s => C s = true ∧ fin_ h nd nc na nw m 0 0 a (opx s nd now) = w) r := fun hx => by
          unfold f_X8_turns_64
          have l := m_turn (h := h) (aside := ad) (nd := nd) (a := a) (s := s) (v2 := v2) (v3 := b2i w) (v4 := nI may) (v5 := best) (K := f_X8_turns_27 h (nI a) v2 (b2i w) k) (now := now1) e1 hnd hs64 nd 0 fl_ (by omega) (fl_lt (by omega))
          rw [show nI 0 = (0 : Int32) from rfl, show opx s 0 now1 = now1 from rfl] at l
          rw [l]
          clear l
          obtain ⟨z, hz⟩ := m_isWhole hH (NI_opx (s := s) hN1 hnc hnd (Nat.le_refl _)) hm (by rw [opx_out (fun d _ => by omega)]; exact em1) han
          have hee : fin_ h nd nc na nw m 0 0 a (opx s nd now1) = fin_ h nd nc na nw m 0 0 a (opx s nd now) := fin_ext hH (fun k hk => by
            by_cases e : ∃ d, d < nd ∧ k = 25 + d
            · obtain ⟨d, hd, rfl⟩ := e
              rw [opx_in hd, opx_in hd, h1 _ hk]
            · rw [opx_out (fun d hd z => e ⟨d, hd, z⟩), opx_out (fun d hd z => e ⟨d, hd, z⟩), h1 _ hk]) (NI_opx (s := s) hN1 hnc hnd (Nat.le_refl _)) hm (by rw [opx_out (fun d _ => by omega)]; exact em1) han (by decide) (by decide)
          rw [hz, Option.bind_some, hee]
          have hbk : ∀ k, k < 47 → cpx ad z 0 47 k = now k := fun k hk => by rw [cpx_47 hk, had k hk]
          unfold f_X8_turns_120
          rw [m_backs, Option.bind_some]
          by_cases c3 : fin_ h nd nc na nw m 0 0 a (opx s nd now) = w
          · rw [if_pos (by rw [c3])]
            unfold f_X8_turns_126
            rw [addR]
            refine ih (s + 1) k (by omega) (by omega) (nI s) _ hbk (Or.inr ⟨s, by omega, rfl, ⟨hCs, c3⟩, fun t ht hok => ?_⟩)
            by_cases e : t = s
            · subst e; omega
            · rcases hb with ⟨b1, b2⟩ | ⟨b, b1, b2, b3, b4⟩
              · exact absurd hok (b2 t (by omega))
              · have := b4 t (by omega) hok
                rcases hx with y | ⟨b', y1, y2, y3⟩
                · exact absurd (b2.symm.trans y) (ne_m9' (by omega))
                · have : b = b' := (nI_eq (by omega) (by omega)).mp (b2.symm.trans y2)
                  subst this
                  omega
          · rw [if_neg (fun z => c3 (b2i_inj z))]
            exact keep _ hbk (Or.inl (fun z => c3 z.2))
        by_cases c2 : best = -9
        · rw [if_pos c2]
          exact try_ (Or.inl c2)
        · rw [if_neg c2]
          rcases hb with ⟨b1, b2⟩ | ⟨b, b1, b2, b3, b4⟩
          · exact absurd b1 c2
          · have hp1 := pop_le_d 6 (by decide) s hs64 (by omega)
            have hp2 := pop_le_d 6 (by decide) b (by omega) (by omega)
            rw [ones_d s hs64, b2, ones_d b (by omega), Option.bind_some, Option.bind_some, ← b2]
            by_cases c4 : pop_ b ≤ pop_ s
            · rw [if_pos ((nI_leI (by omega) (by omega)).mpr c4)]
              exact keep _ h1 (Or.inr ⟨b, b1, b2, b3, c4⟩)
            · rw [if_neg (fun z => c4 ((nI_leI (by omega) (by omega)).mp z))]
              exact try_ (Or.inr ⟨b, b1, b2, by omega⟩)
      · rw [if_neg c1]
        exact keep _ h1 (Or.inl (fun z => c1 ((hC s (by omega)).mpr z.1)))
  obtain ⟨r, now', q1, q2, q3⟩ := loop (may + 1) 0 fl_ (by omega) (fl_lt (by omega)) (-9) now (fun _ _ => rfl) (Or.inl ⟨rfl, fun s hs => absurd hs (by omega)⟩)
  rw [show nI 0 = (0 : Int32) from rfl] at q1
  refine ⟨r, now', q1, q2, ?_⟩
  rcases q3 with ⟨b1, b2⟩ | ⟨b, b1, b2, b3, b4⟩
  · refine Or.inl ⟨b1, fun s hs hok => ?_⟩
    by_cases e : s < may + 1
    · exact b2 s e hok
    · exact hgt s hs (by omega) hok.1
  · refine Or.inr ⟨b, by omega, b2, b3, fun s hs hok => ?_⟩
    by_cases e : s < may + 1
    · exact b4 s e hok
    · exact absurd hok.1 (hgt s hs (by omega))
theorem sub_b : ∀ x, x < 64 → ∀ y, y < 64 → ((nI x &&& (nI y ^^^ (-1)) = 0) ↔ ∀ j, j < 6 → (x.testBit j = true → y.testBit j = true)) := by decide +kernel
theorem dis_b : ∀ x, x < 64 → ∀ y, y < 64 → ((nI x &&& ((nI y ^^^ (-1)) ^^^ (-1)) = 0) ↔ ∀ j, j < 6 → (x.testBit j = true → y.testBit j = false)) := by decide +kernel
theorem m_isOver {h now : Nat → Int32} {nr nd nc na a : Nat} (hN : NI h nr nd nc na now) (hna : na ≤ 6) (han : a < na) : f_X8_isOver now (nI a) = some (b2i (decide (now (30 + 2 * a) = 2) || decide (now (30 + 2 * a) = 3))) := by
  unfold f_X8_isOver
  rw [mulL, addL, rd_ok (by omega) (by omega), Option.bind_some]
  obtain ⟨⟨j, hj, e⟩, -⟩ := hN.2.2.2.2.1 a han
  rw [e]
  have : ∀ j, j < 4 → (if nI j ≤ 1 then some (0 : Int32) else some 1) = some (b2i (decide (nI j = 2) || decide (nI j = 3))) := by decide
  exact this j hj
theorem o_plot {h now t1 t2 tnn tar trr twi q_row ad : Nat → Int32} {nr nd nc na nw m : Nat} (hH : HH h nr nd nc na nw) (hT : HT h nd na nw t1 t2 tnn tar trr twi) (hN : NI h nr nd nc na now) (hm : m ≤ 999) (em : now 0 = nI m) (hq : ∀ i, 33 ≤ i → q_row i = 0) (v1 : Int32) : ∃ r q' now' ad', f_X7_plot (nI nd) (nI nc) (nI na) (nI nw) t1 t2 tnn tar trr twi (rowOf now) q_row v1 = some (r, q') ∧ f_X8_plot h now ad v1 = some (r, now', ad') ∧ (∀ i, 33 ≤ i → q' i = 0) ∧ ∀ k, k < 47 → now' k = now k := by
  obtain ⟨e0, e1, e2, e3, e4⟩ := hH.1
  obtain ⟨hnr, hnd, hnc, hna, hnw⟩ := hH.2.1
  unfold f_X7_plot f_X8_plot
  rw [wt_ix (by omega), m_isAct e3 (by omega), Option.bind_some, Option.bind_some]
  cases c1 : ixd v1 na with
  | false => exact ⟨-1, q_row, now, ad, by rw [bf0], by rw [bf0], hq, fun _ _ => rfl⟩
  | true =>
    obtain ⟨a, han, rfl⟩ := ixd_t c1 (by omega)
    rw [bt0, bt0, c_isEnded (by omega), m_isOver hN hna han, Option.bind_some, Option.bind_some]
    cases c2 : (decide (now (30 + 2 * a) = 2) || decide (now (30 + 2 * a) = 3)) with
    | true => exact ⟨-2, q_row, now, ad, by rw [bt0], by rw [bt0], hq, fun _ _ => rfl⟩
    | false =>
      have hp := p64 (show nd ≤ 6 by omega)
      have hmy : mk_ (fun i => decide (now (25 + 1 * i) = 0)) nd < 2 ^ nd := mk_lt _ _
      have hO : mk_ (opnB now) 5 < 64 := mk_64 (by omega)
      rw [bf0, bf0, rdL (by omega) (by omega), Option.bind_some]
      show ∃ r q' now' ad', ((f_X1_fewestTurned q_row (rowOf now) (nI nd) (nI nc) (nI na) (nI nw) t1 t2 tnn tar trr twi (nI a) (rowOf now 3 ^^^ (-1)) (b2i false)).bind _) = _ ∧ _
      rw [row_3]
      obtain ⟨r, q', k1, k2, k3⟩ := c_few (w := false) (C := fun s => decide (nI s &&& (nI (mk_ (fun i => decide (now (25 + 1 * i) = 0)) nd) ^^^ (-1)) = 0)) (some_ := nI (mk_ (opnB now) 5) ^^^ (-1)) hH hT hN hm em han hq (fun s hs => by
        rw [decide_eq_true_eq, sub_b s (by omega) _ (by omega), dis_b s (by omega) _ hO]
        have hbit : ∀ j, nd ≤ j → s.testBit j = false := fun j hj => Nat.testBit_lt_two_pow (Nat.lt_of_lt_of_le hs (Nat.pow_le_pow_right (by decide) hj))
        constructor
        · intro hx j hj hb
          have hjn : j < nd := by
            rcases Nat.lt_or_ge j nd with z | z
            · exact z
            · rw [hbit j z] at hb; cases hb
          have := hx j hj hb
          rw [mk_bit (by omega)] at this
          rw [mk_bit hjn, Nat.one_mul]
          rcases (hN.2.2.1 j (by omega)).1 with z | z
          · exact decide_eq_true z
          · unfold opnB at this; rw [z] at this; exact absurd this (by decide)
        · intro hx j hj hb
          have hjn : j < nd := by
            rcases Nat.lt_or_ge j nd with z | z
            · exact z
            · rw [hbit j z] at hb; cases hb
          have := hx j hj hb
          rw [mk_bit hjn, Nat.one_mul] at this
          rw [mk_bit (by omega)]
          unfold opnB
          rw [of_decide_eq_true this]
          decide)
      rw [k1, Option.bind_some]
      unfold f_X8_turns
      rw [m_asides, Option.bind_some, rdL (by omega) (by omega), Option.bind_some]
      show ∃ r q' now' ad', _ ∧ (((f_X8_bits now (nI 25) (nI 1) (h 1) 0).bind fun q16 => f_X8_turns_27 h (nI a) 0 (b2i false) fl_ q16 (-9) 0 now (cpx now ad 0 47)).bind _) = _ ∧ _
      rw [e1, m_bits (by omega) (fun k hk => by omega), Option.bind_some]
      obtain ⟨r', now', l1, l2, l3⟩ := m_few (ad := cpx now ad 0 47) (v2 := 0) (w := false) (C := fun s => decide (nI s &&& (nI (mk_ (fun i => decide (now (25 + 1 * i) = 0)) nd) ^^^ (-1)) = 0)) hH hN hm em han hmy (fun k hk => cpx_47 hk) (fun s hs => by rw [decide_eq_true_eq])
      rw [l1, Option.bind_some]
      have := isB_one k3 l3
      subst this
      exact ⟨_, _, _, _, rfl, rfl, k2, l2⟩
theorem o_guard {h now t1 t2 tnn tar trr twi q_row ad : Nat → Int32} {nr nd nc na nw m : Nat} (hH : HH h nr nd nc na nw) (hT : HT h nd na nw t1 t2 tnn tar trr twi) (hN : NI h nr nd nc na now) (hm : m ≤ 999) (em : now 0 = nI m) (hq : ∀ i, 33 ≤ i → q_row i = 0) (v1 : Int32) : ∃ r q' now' ad', f_X7_guard (nI nd) (nI nc) (nI na) (nI nw) t1 t2 tnn tar trr twi (rowOf now) q_row v1 = some (r, q') ∧ f_X8_guard h now ad v1 = some (r, now', ad') ∧ (∀ i, 33 ≤ i → q' i = 0) ∧ ∀ k, k < 47 → now' k = now k := by
  obtain ⟨e0, e1, e2, e3, e4⟩ := hH.1
  obtain ⟨hnr, hnd, hnc, hna, hnw⟩ := hH.2.1
  unfold f_X7_guard f_X8_guard
  rw [wt_ix (by omega), m_isAct e3 (by omega), Option.bind_some, Option.bind_some]
  cases c1 : ixd v1 na with
  | false => exact ⟨-1, q_row, now, ad, by rw [bf0], by rw [bf0], hq, fun _ _ => rfl⟩
  | true =>
    obtain ⟨a, han, rfl⟩ := ixd_t c1 (by omega)
    rw [bt0, bt0, c_isEnded (by omega), m_isOver hN hna han, Option.bind_some, Option.bind_some]
    cases c2 : (decide (now (30 + 2 * a) = 2) || decide (now (30 + 2 * a) = 3)) with
    | true => exact ⟨-2, q_row, now, ad, by rw [bt0], by rw [bt0], hq, fun _ _ => rfl⟩
    | false =>
      have hmy : mk_ (fun i => decide (now (25 + 1 * i) = 1)) nd < 2 ^ nd := mk_lt _ _
      have hO : mk_ (opnB now) 5 = mk_ (fun i => decide (now (25 + 1 * i) = 1)) nd := by
        rw [mk_trunc hnd (fun j h1 h2 => by unfold opnB; rw [(hN.2.2.1 j h2).2 h1]; decide)]
        exact mk_ext (fun j hj => by unfold opnB; rw [Nat.one_mul])
      rw [bf0, bf0, rdL (by omega) (by omega), Option.bind_some]
      show ∃ r q' now' ad', ((f_X1_fewestTurned q_row (rowOf now) (nI nd) (nI nc) (nI na) (nI nw) t1 t2 tnn tar trr twi (nI a) (rowOf now 3) (b2i true)).bind _) = _ ∧ _
      rw [row_3, hO]
      obtain ⟨r, q', k1, k2, k3⟩ := c_few (w := true) (C := fun s => decide (nI s &&& (nI (mk_ (fun i => decide (now (25 + 1 * i) = 1)) nd) ^^^ (-1)) = 0)) (some_ := nI (mk_ (fun i => decide (now (25 + 1 * i) = 1)) nd)) hH hT hN hm em han hq (fun s hs => by rw [decide_eq_true_eq])
      rw [k1, Option.bind_some]
      unfold f_X8_turns
      rw [m_asides, Option.bind_some, rdL (by omega) (by omega), Option.bind_some]
      show ∃ r q' now' ad', _ ∧ (((f_X8_bits now (nI 25) (nI 1) (h 1) 1).bind fun q16 => f_X8_turns_27 h (nI a) 1 (b2i true) fl_ q16 (-9) 0 now (cpx now ad 0 47)).bind _) = _ ∧ _
      rw [e1, m_bits (by omega) (fun k hk => by omega), Option.bind_some]
      obtain ⟨r', now', l1, l2, l3⟩ := m_few (ad := cpx now ad 0 47) (v2 := 1) (w := true) (C := fun s => decide (nI s &&& (nI (mk_ (fun i => decide (now (25 + 1 * i) = 1)) nd) ^^^ (-1)) = 0)) hH hN hm em han hmy (fun k hk => cpx_47 hk) (fun s hs => by rw [decide_eq_true_eq])
      rw [l1, Option.bind_some]
      have := isB_one k3 l3
      subst this
      exact ⟨_, _, _, _, rfl, rfl, k2, l2⟩
