/-! cut: the model's search -/
def sx (L d : Nat → Nat) (w : Nat) : Nat → Nat → Nat
  | 0, _ => 0
  | n + 1, c => sx L d w n c + (if d (w - 1 - n) = c then L (w - 1 - n) else 0)
def sb (d : Nat → Nat) (w : Nat) : Nat → Nat → Bool
  | 0, _ => false
  | n + 1, c => sb d w n c || decide (d (w - 1 - n) = c)
theorem sx_px {L d : Nat → Nat} {w c : Nat} : ∀ {n : Nat}, n ≤ w → px L d (w - n) c + sx L d w n c = px L d w c
  | 0, _ => rfl
  | n + 1, h => by
    have ih := sx_px (L := L) (d := d) (w := w) (c := c) (n := n) (by omega)
    have e : px L d (w - n) c = px L d (w - (n + 1)) c + (if d (w - 1 - n) = c then L (w - 1 - n) else 0) := by
      rw [show w - n = (w - (n + 1)) + 1 by omega, show w - 1 - n = w - (n + 1) by omega]
      rfl
    unfold sx
    omega
theorem sb_ub {d : Nat → Nat} {w c : Nat} : ∀ {n : Nat}, n ≤ w → (ub d (w - n) c || sb d w n c) = ub d w c
  | 0, _ => by show (ub d w c || false) = _; rw [Bool.or_false]
  | n + 1, h => by
    have ih := sb_ub (d := d) (w := w) (c := c) (n := n) (by omega)
    have e : ub d (w - n) c = (ub d (w - (n + 1)) c || decide (d (w - 1 - n) = c)) := by
      rw [show w - n = (w - (n + 1)) + 1 by omega, show w - 1 - n = w - (n + 1) by omega]
      rfl
    rw [← ih, e]
    show (ub d (w - (n + 1)) c || (sb d w n c || decide (d (w - 1 - n) = c))) = _
    cases ub d (w - (n + 1)) c <;> cases sb d w n c <;> cases decide (d (w - 1 - n) = c) <;> rfl
theorem sx_w {L d : Nat → Nat} {w c : Nat} : sx L d w w c = px L d w c := by
  have := sx_px (L := L) (d := d) (c := c) (Nat.le_refl w)
  rw [Nat.sub_self] at this
  have e : px L d 0 c = 0 := rfl
  omega
theorem sb_w {d : Nat → Nat} {w c : Nat} : sb d w w c = ub d w c := by
  have := sb_ub (d := d) (c := c) (Nat.le_refl w)
  rw [Nat.sub_self] at this
  rw [← this]
  rfl
theorem sx_mono {L d : Nat → Nat} {w c n : Nat} : ∀ {m : Nat}, n ≤ m → sx L d w n c ≤ sx L d w m c
  | 0, h => by rw [show n = 0 by omega]; exact Nat.le_refl _
  | m + 1, h => by
    by_cases e : n = m + 1
    · rw [e]; exact Nat.le_refl _
    · have := sx_mono (L := L) (d := d) (w := w) (c := c) (n := n) (m := m) (by omega)
      show _ ≤ sx L d w m c + _
      omega
theorem sn_s (p : Nat → Bool) (f : Nat → Nat) (n : Nat) : sn p f (n + 1) = sn p f n + (if p n then f n else 0) := rfl
theorem neg_1 : ∀ l, l < 61 → (-1 : Int32) - nI l < 0 := by decide +kernel
theorem neg_2 : ∀ x, x < 61 → ∀ l, l < 61 → x < l → nI x - nI l < 0 := by decide +kernel
theorem dec_1 : ∀ k, k < 7 → nI k + (-1) = nI k - 1 := by decide +kernel
theorem lt_m1 : (nI 0 - 1 : Int32) < 0 := by decide
theorem dg_w {nc w R n : Nat} (hn : n < w) : dg nc w R (w - 1 - n) = (R / nc ^ n) % nc := by
  unfold dg
  rw [if_pos (by omega), show w - 1 - (w - 1 - n) = n by omega]
/-- an answer that is no way: nothing changes -/
theorem m_213_no {h now wn : Nat → Int32} {nc : Nat} {g v1 v2 v3 v4 v5 v6 : Int32} {K : Int32 → Int32 → Int32 → Int32 → (Nat → Int32) → (Nat → Int32) → Option (Int32 × (Nat → Int32) × (Nat → Int32))} {by_ over : Nat → Int32} (e2 : h 2 = nI nc) (hnc : nc ≤ 6) : ∀ (q j k : Nat), j + q = nc → q < k → ∀ v9 : Int32, f_X8_cut_213 g h now wn v1 K k v2 v3 v4 v5 v6 0 v9 (nI j) by_ over = K v2 v3 v4 (v5 + 1) by_ over := by
  intro q
  induction q with
  | zero =>
    intro j k hj hk v9
    obtain ⟨k, rfl⟩ : ∃ z, k = z + 1 := ⟨k - 1, by omega⟩
    rw [f_X8_cut_213, rdL (by omega) (by omega), Option.bind_some, if_pos (by show h 2 ≤ nI j; rw [e2, nI_leI (by omega) (by omega)]; omega), if_pos rfl]
    rfl
  | succ q ih =>
    intro j k hj hk v9
    obtain ⟨k, rfl⟩ : ∃ z, k = z + 1 := ⟨k - 1, by omega⟩
    have ih' := ih (j + 1) k (by omega) (by omega)
    rw [f_X8_cut_213, rdL (by omega) (by omega), Option.bind_some, if_neg (by show ¬ h 2 ≤ nI j; rw [e2, nI_leI (by omega) (by omega)]; omega)]
    unfold f_X8_cut_248
    rw [rd_ok (by omega) (by omega), Option.bind_some, addR, ih', ih']
    split <;> rfl
/-- the sum of what is left over -/
theorem m_213_yes {h now wn : Nat → Int32} {nc m : Nat} {g v1 v2 v3 v4 v5 : Int32} {K : Int32 → Int32 → Int32 → Int32 → (Nat → Int32) → (Nat → Int32) → Option (Int32 × (Nat → Int32) × (Nat → Int32))} {by_ over : Nat → Int32} {f : Nat → Nat} (e2 : h 2 = nI nc) (hnc : nc ≤ 6) (hm : m < 64) (ho : ∀ c, c < nc → m.testBit c = true → over c = nI (f c)) : ∀ (q j k : Nat), j + q = nc → q < k → f_X8_cut_213 g h now wn v1 K k v2 v3 v4 v5 (nI m) 1 (nI (sn (fun c => m.testBit c) f j)) (nI j) by_ over = (if nI (pop_ m) < v3 then f_X8_cut_287 g h now wn v1 K v2 v5 (nI m) (nI (sn (fun c => m.testBit c) f nc)) by_ over else (if nI (pop_ m) = v3 then (if v4 ≤ nI (sn (fun c => m.testBit c) f nc) then K v2 v3 v4 (v5 + 1) by_ over else f_X8_cut_287 g h now wn v1 K v2 v5 (nI m) (nI (sn (fun c => m.testBit c) f nc)) by_ over) else K v2 v3 v4 (v5 + 1) by_ over)) := by
  intro q
  induction q with
  | zero =>
    intro j k hj hk
    obtain ⟨k, rfl⟩ : ∃ z, k = z + 1 := ⟨k - 1, by omega⟩
    have : j = nc := by omega
    subst this
    rw [f_X8_cut_213, rdL (by omega) (by omega), Option.bind_some, if_pos (by show h 2 ≤ nI j; rw [e2, nI_leI (by omega) (by omega)]; omega), if_neg (by decide), ones_d m hm, Option.bind_some, Option.bind_some]
    rfl
  | succ q ih =>
    intro j k hj hk
    obtain ⟨k, rfl⟩ : ∃ z, k = z + 1 := ⟨k - 1, by omega⟩
    have ih' := ih (j + 1) k (by omega) (by omega)
    have eb : (nI m >>> (nI j &&& 31)) &&& 1 = b2i (m.testBit j) := by rw [bit_d m hm j (by omega)]; rfl
    rw [f_X8_cut_213, rdL (by omega) (by omega), Option.bind_some, if_neg (by show ¬ h 2 ≤ nI j; rw [e2, nI_leI (by omega) (by omega)]; omega), eb, rd_ok (by omega) (by omega), Option.bind_some]
    unfold f_X8_cut_248
    rw [sn_s] at ih'
    cases hb : m.testBit j with
    | false =>
      rw [hb, if_neg (by decide), Nat.add_zero] at ih'
      rw [bf1, Int32.add_zero, addR]
      exact ih'
    | true =>
      rw [hb, if_pos rfl] at ih'
      rw [bt1, ho j (by omega) hb, nI_add, addR]
      exact ih'
/-- the digits are written down -/
theorem m_309 {h now wn : Nat → Int32} {nc w R : Nat} {v1 v2 v3 v4 v5 : Int32} {K : Int32 → Int32 → Int32 → Int32 → (Nat → Int32) → (Nat → Int32) → Option (Int32 × (Nat → Int32) × (Nat → Int32))} {over : Nat → Int32} (e2 : h 2 = nI nc) (hnc : nc ≤ 6) (hw : w ≤ 6) (hR : R < 2 ^ 31) (h0 : 0 < w → 0 < nc) : ∀ (q n k : Nat), n + q = w → q < k → ∀ by_ : Nat → Int32, (∀ i, i < n → by_ (w - 1 - i) = nI (dg nc w R (w - 1 - i))) → ∃ by' : Nat → Int32, f_X8_cut_309 (nI w) h now wn v1 K k v2 v3 v4 v5 (nI (R / nc ^ n)) (nI q - 1) by_ over = K v2 v3 v4 (v5 + 1) by' over ∧ ∀ k, k < w → by' k = nI (dg nc w R k) := by
  intro q
  induction q with
  | zero =>
    intro n k hn hk by_ hb
    obtain ⟨k, rfl⟩ : ∃ z, k = z + 1 := ⟨k - 1, by omega⟩
    rw [f_X8_cut_309, if_pos lt_m1]
    refine ⟨by_, rfl, fun k hk => ?_⟩
    have := hb (w - 1 - k) (by omega)
    rw [show w - 1 - (w - 1 - k) = k by omega] at this
    exact this
  | succ q ih =>
    intro n k hn hk by_ hb
    obtain ⟨k, rfl⟩ : ∃ z, k = z + 1 := ⟨k - 1, by omega⟩
    have hnc0 := h0 (by omega)
    have hq : R / nc ^ n < 2 ^ 31 := Nat.lt_of_le_of_lt (Nat.div_le_self _ _) hR
    have hnz : ¬ nI nc = 0 := nI_ne0 hnc0 (by omega)
    rw [f_X8_cut_309, nI_pred, if_neg (nI_pos (by omega)), rdL (by omega) (by omega), Option.bind_some]
    show ∃ by', ((nz_ (h 2)).bind fun _ => (wr_ by_ 6 (nI q) (nI (R / nc ^ n) - nI (R / nc ^ n) / h 2 * h 2)).bind fun y39 => (rd_ h 59 2).bind fun x40 => (nz_ x40).bind fun _ => f_X8_cut_309 (nI w) h now wn v1 K k v2 v3 v4 v5 (nI (R / nc ^ n) / x40) (nI q + (-1)) y39 over) = _ ∧ _
    rw [e2, nz_ok hnz, Option.bind_some, pk_rem hq hnc0 (by omega), wr_ok (by omega) (by omega), Option.bind_some, rdL (by omega) (by omega), Option.bind_some]
    show ∃ by', ((nz_ (h 2)).bind fun _ => f_X8_cut_309 (nI w) h now wn v1 K k v2 v3 v4 v5 (nI (R / nc ^ n) / h 2) (nI q + (-1)) _ over) = _ ∧ _
    rw [e2, nz_ok hnz, Option.bind_some, pk_div hq hnc0 (by omega), dec_1 q (by omega), Nat.div_div_eq_div_mul, ← Nat.pow_succ]
    refine ih (n + 1) k (by omega) (by omega) _ (fun i hi => ?_)
    by_cases e : i = n
    · subst e
      rw [show w - 1 - i = q by omega, pk_us, show q = w - 1 - i by omega, dg_w (by omega)]
    · rw [pk_un (by omega)]
      exact hb i (by omega)
/-- what the model remembers, beside the pure search -/
def RM (L : Nat → Nat) (w : Nat) (st : Nat × Nat × (Nat → Nat)) (v3 v4 : Int32) (by_ : Nat → Int32) : Prop := st.1 ≤ 7 ∧ st.2.1 ≤ 360 ∧ v3 = nI (if st.1 = 7 then 99 else st.1) ∧ (st.1 < 7 → ln_ L w ≤ st.2.1 ∧ v4 = nI (st.2.1 - ln_ L w) ∧ ∀ k, k < w → by_ k = nI (st.2.2 k))
