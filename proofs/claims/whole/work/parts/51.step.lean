/-! the reader: a step of both -/
theorem b_digits {n b : Nat} {t : Nat → Nat} {at_ bt_ : Nat → Int32} {rk gt gd : Int32} (hT : TX n t at_ bt_) (hb : b < n) (hf : fg_ (t b) = true) : ∃ (p1 : Nat) (kc vc km vm : Int32), ((f_X6_skipRun_0 (nI n) bt_ 48 57 fl_ (nI (b + 1))).bind fun q3 => (f_X6_takeNumber (nI b) rk 0 bt_ (by8 (t b) - 48) (q3 - nI b)).bind fun q4 => some (nI b, q3, q4.1, q4.2)) = some (nI b, nI p1, kc, vc) ∧ ((f_X8_readNumber_2 (nI n) (nI b) at_ fl_ 0 (nI b) gt gd).bind fun q13 => some (q13.1, nI b, q13.2.1, q13.2.2)) = some (nI p1, nI b, km, vm) ∧ TR n b p1 p1 kc vc km vm := by
  have hn := hT.1
  obtain ⟨q, hq⟩ : ∃ q, b + 1 + q = n := ⟨n - b - 1, by omega⟩
  obtain ⟨f1, f2⟩ := fg_t hf
  obtain ⟨t1, t2, t3⟩ := hT.2 b hb
  have hP : ∀ i, i < n → ((¬ bt_ i < 48 ∧ ¬ 57 < bt_ i) ↔ (fun i => fg_ (t i)) i = true) := fun i hi => by
    rw [(hT.2 i hi).2.2]
    exact b48_d _ (hT.2 i hi).1
  obtain ⟨j, r1, r2, r3⟩ := m_digits (b := b) hT (gb := nI b) (gt := gt) (gd := gd) (q + 1) 0 fl_ (by omega) (fl_lt (by omega)) (Nat.zero_le _)
  rw [Nat.add_zero b, rn_t (P := fun i => fg_ (t i)) hf] at r1
  rw [Nat.add_zero b, show ac t b 0 = 0 from rfl, show nI 0 = (0 : Int32) from rfl] at r3
  have g1 := rn_ge (P := fun i => fg_ (t i)) q (b + 1)
  have g2 := rn_le (P := fun i => fg_ (t i)) q (b + 1)
  have g3 := rn_in (P := fun i => fg_ (t i)) q (b + 1)
  rw [c_skip hT hP q (b + 1) fl_ hq (fl_lt (by omega)), Option.bind_some, r3]
  rw [r1] at g1 g2 g3 ⊢
  rw [pk_sub (by omega), show b + j - b = j by omega, bs_d _ (by omega), show (48 : Int32) = nI 48 from rfl, pk_sub f1]
  unfold f_X8_readNumber_69 f_X8_readNumber_103 f_X8_readNumber_107 f_X8_readNumber_108
  rw [pk_sub (show b ≤ b + j by omega), show b + j - b = j by omega, rd_ok (by omega) (by omega), Option.bind_some, t2]
  have e99 : ∀ a, a ≤ 999 → (99 < a → (99 : Int32) < nI a) ∧ (¬ 99 < a → ¬ (99 : Int32) < nI a) := fun a ha => by
    rw [show (99 : Int32) = nI 99 from rfl, nI_ltI (by decide) (by omega)]
    exact ⟨id, id⟩
  have e1 : (j ≤ 1 → nI j ≤ (1 : Int32)) ∧ (¬ j ≤ 1 → ¬ nI j ≤ (1 : Int32)) := by
    rw [show (1 : Int32) = nI 1 from rfl, nI_leI (by omega) (by decide)]
    exact ⟨id, id⟩
  by_cases j1 : j = 1
  · subst j1
    rw [c_take1, Option.bind_some, ac_1, if_neg ((e99 _ (by omega)).2 (by omega)), if_pos (e1.1 (by omega)), Option.bind_some]
    exact ⟨b + 1, 2, nI (t b - 48), 2, nI (t b - 48), rfl, rfl, Or.inr (Or.inl ⟨by omega, by omega, rfl, Or.inr (Or.inl ⟨rfl, rfl, rfl, t b - 48, by omega, rfl⟩)⟩)⟩
  · by_cases j2 : j = 2
    · subst j2
      obtain ⟨u1, u2⟩ := fg_t (g3 (b + 1) (by omega) (by omega))
      obtain ⟨s1, s2, s3⟩ := hT.2 (b + 1) (by omega)
      have ev : nI (t b - 48) * 10 + nI (t (b + 1)) - 48 = nI (10 * (t b - 48) + (t (b + 1) - 48)) := by
        rw [mulR, nI_add, show (48 : Int32) = nI 48 from rfl, pk_sub (by omega)]
        congr 1
        omega
      rw [c_take2 (by omega) (by omega), Option.bind_some, ac_2 f2, s3, bs_d _ (by omega), ev, if_neg ((e99 _ (by omega)).2 (by omega)), if_neg (e1.2 (by omega))]
      by_cases z : t b = 48
      · rw [if_pos (show t b - 48 = 0 by omega), if_pos (show nI (t b) = (48 : Int32) by rw [z]; rfl), Option.bind_some]
        exact ⟨b + 2, _, _, _, _, rfl, rfl, Or.inr (Or.inr ⟨rfl, Or.inl rfl⟩)⟩
      · rw [if_neg (show ¬ t b - 48 = 0 by omega), if_neg (show ¬ nI (t b) = (48 : Int32) from fun y => by rw [show (48 : Int32) = nI 48 from rfl, nI_eq (by omega) (by decide)] at y; exact z y), Option.bind_some]
        exact ⟨b + 2, _, _, _, _, rfl, rfl, Or.inr (Or.inl ⟨by omega, by omega, rfl, Or.inr (Or.inl ⟨rfl, rfl, rfl, _, by omega, rfl⟩)⟩)⟩
    · obtain ⟨u1, u2⟩ := fg_t (g3 (b + 1) (by omega) (by omega))
      obtain ⟨z, hz⟩ := c_take3 (b := b) (v := t b - 48) (d := j) (rk := rk) (rv := 0) (bt_ := bt_) (by omega) (by omega) (by omega)
      rw [hz, Option.bind_some]
      by_cases y : t b = 48
      · by_cases x : 99 < ac t b j
        · rw [if_pos ((e99 _ r2).1 x), Option.bind_some]
          exact ⟨b + j, _, _, _, _, rfl, rfl, Or.inr (Or.inr ⟨rfl, Or.inl rfl⟩)⟩
        · rw [if_neg ((e99 _ r2).2 x), if_neg (e1.2 (by omega)), if_pos (show nI (t b) = (48 : Int32) by rw [y]; rfl), Option.bind_some]
          exact ⟨b + j, _, _, _, _, rfl, rfl, Or.inr (Or.inr ⟨rfl, Or.inl rfl⟩)⟩
      · have x := ac_3 (t := t) (b := b) (by omega) f2 u2 (j - 3)
        rw [show j - 3 + 3 = j by omega] at x
        rw [if_pos ((e99 _ r2).1 x), Option.bind_some]
        exact ⟨b + j, _, _, _, _, rfl, rfl, Or.inr (Or.inr ⟨rfl, Or.inl rfl⟩)⟩
theorem b_letters {n b : Nat} {t : Nat → Nat} {at_ bt_ : Nat → Int32} {gt gd : Int32} (hT : TX n t at_ bt_) (hb : b < n) (hl : lt_ (t b) = true) : ∃ (p1 : Nat) (kc vc km vm : Int32), ((f_X6_skipRun_0 (nI n) bt_ 97 122 fl_ (nI (b + 1))).bind fun q11 => if q11 = nI (b + 1) then (some (nI b, q11, 1, by8 (t b))) else (some (nI b, q11, 1, 0))) = some (nI b, nI p1, kc, vc) ∧ ((f_X8_readLetters_13 (nI n) (nI b) at_ fl_ (nI b) gt (nI (t b))).bind fun q14 => some (q14.1, nI b, q14.2.1, q14.2.2)) = some (nI p1, nI b, km, vm) ∧ TR n b p1 p1 kc vc km vm := by
  have hn := hT.1
  obtain ⟨q, hq⟩ : ∃ q, b + 1 + q = n := ⟨n - b - 1, by omega⟩
  obtain ⟨f1, f2⟩ := lt_t hl
  have hP : ∀ i, i < n → ((¬ bt_ i < 97 ∧ ¬ 122 < bt_ i) ↔ (fun i => lt_ (t i)) i = true) := fun i hi => by
    rw [(hT.2 i hi).2.2]
    exact b97_d _ (hT.2 i hi).1
  rw [c_skip hT hP q (b + 1) fl_ hq (fl_lt (by omega)), Option.bind_some, m_letters hT (q + 1) b fl_ (by omega) (fl_lt (by omega)), rn_t (P := fun i => lt_ (t i)) hl, bs_d _ (by omega)]
  have g1 := rn_ge (P := fun i => lt_ (t i)) q (b + 1)
  have g2 := rn_le (P := fun i => lt_ (t i)) q (b + 1)
  generalize rn (fun i => lt_ (t i)) q (b + 1) = e at g1 g2 ⊢
  obtain ⟨y1, y2⟩ := m_52 (n := n) (b := b) (e := e) (x := nI (t b)) (gt := gt) (at_ := at_)
  by_cases c : e = b + 1
  · subst c
    rw [if_pos rfl]
    by_cases w : isLt (nI (t b))
    · rw [y1 w, Option.bind_some, if_pos (show nI (b + 1) - nI b = (1 : Int32) by rw [pk_sub (by omega), show b + 1 - b = 1 by omega]; rfl)]
      exact ⟨b + 1, _, _, _, _, rfl, rfl, Or.inr (Or.inl ⟨by omega, by omega, rfl, Or.inl ⟨rfl, rfl, rfl, w⟩⟩)⟩
    · rw [y2 w, Option.bind_some]
      exact ⟨b + 1, _, _, _, _, rfl, rfl, Or.inr (Or.inr ⟨rfl, Or.inr ⟨rfl, w⟩⟩)⟩
  · rw [if_neg (fun z => c ((nI_eq (by omega) (by omega)).mp z))]
    by_cases w : isLt (nI (t b))
    · rw [y1 w, Option.bind_some, if_neg (show ¬ nI e - nI b = (1 : Int32) from fun z => by rw [pk_sub (by omega), show (1 : Int32) = nI 1 from rfl, nI_eq (by omega) (by decide)] at z; omega)]
      exact ⟨e, _, _, _, _, rfl, rfl, Or.inr (Or.inr ⟨rfl, Or.inr ⟨rfl, not0⟩⟩)⟩
    · rw [y2 w, Option.bind_some]
      exact ⟨e, _, _, _, _, rfl, rfl, Or.inr (Or.inr ⟨rfl, Or.inr ⟨rfl, not0⟩⟩)⟩
theorem both_step {n p : Nat} {t : Nat → Nat} {at_ bt_ : Nat → Int32} (hT : TX n t at_ bt_) (hp : p ≤ n) (rp rk rv gb gt gd : Int32) : ∃ (b p1 p2 : Nat) (kc vc km vm : Int32), f_X6_step rp (nI n) (nI p) rk rv bt_ = some (nI b, nI p1, kc, vc) ∧ f_X8_reads (nI n) (nI p) gb gt gd at_ = some (nI p2, nI b, km, vm) ∧ p ≤ b ∧ TR n b p1 p2 kc vc km vm := by
  have hn := hT.1
  obtain ⟨q, hq⟩ : ∃ q, p + q = n := ⟨n - p, by omega⟩
  have hP : ∀ i, i < n → ((¬ bt_ i < 32 ∧ ¬ 32 < bt_ i) ↔ (fun i => decide (t i = 32)) i = true) := fun i hi => by
    rw [(hT.2 i hi).2.2]
    exact b32_d _ (hT.2 i hi).1
  unfold f_X6_step f_X6_skipRun f_X8_reads
  rw [c_skip hT hP q p fl_ hq (fl_lt (by omega)), Option.bind_some, m_blank hT q p fl_ hq (fl_lt (by omega))]
  have g1 := rn_ge (P := fun i => decide (t i = 32)) q p
  have g2 := rn_le (P := fun i => decide (t i = 32)) q p
  generalize rn (fun i => decide (t i = 32)) q p = b at g1 g2 ⊢
  unfold f_X8_reads_38
  by_cases e : b = n
  · subst e
    rw [if_neg (fun z => by have := (nI_ltI (by omega) (by omega)).mp z; omega), if_pos rfl]
    exact ⟨b, b, b, 0, 0, 0, gd, rfl, rfl, g1, Or.inl ⟨rfl, rfl⟩⟩
  · have hb : b < n := by omega
    obtain ⟨t1, t2, t3⟩ := hT.2 b hb
    have ea : rd_ at_ 200 (nI b) = some (nI (t b)) := by rw [rd_ok (by omega) (by omega), t2]
    have eb : rd_ bt_ 200 (nI b) = some (by8 (t b)) := by rw [rd_ok (by omega) (by omega), t3]
    rw [if_pos ((nI_ltI (by omega) (by omega)).mpr hb), if_neg (fun z => e ((nI_eq (by omega) (by omega)).mp z)), ea, eb, Option.bind_some, Option.bind_some, let_d _ t1, Option.bind_some, addR]
    cases hl : lt_ (t b) with
    | true =>
      obtain ⟨c1, c2⟩ := (b97_d _ t1).mpr hl
      rw [if_neg c1, if_neg c2, bt0]
      unfold f_X8_readLetters f_X6_step_102
      rw [ea, Option.bind_some]
      obtain ⟨p1, kc, vc, km, vm, x1, x2, x3⟩ := b_letters (gt := gt) (gd := gd) hT hb hl
      exact ⟨b, p1, p1, kc, vc, km, vm, x1, x2, g1, x3⟩
    | false =>
      rw [if2 (fun z => by rw [(b97_d _ t1).mp z] at hl; cases hl), bf0, Option.bind_some, fig_d _ t1, Option.bind_some]
      unfold f_X6_step_108 f_X6_skipRun
      cases hf : fg_ (t b) with
      | true =>
        obtain ⟨c1, c2⟩ := (b48_d _ t1).mpr hf
        rw [if_neg c1, if_neg c2, bt0]
        unfold f_X8_readNumber
        obtain ⟨p1, kc, vc, km, vm, x1, x2, x3⟩ := b_digits (rk := rk) (gt := gt) (gd := gd) hT hb hf
        exact ⟨b, p1, p1, kc, vc, km, vm, x1, x2, g1, x3⟩
      | false =>
        rw [if2 (fun z => by rw [(b48_d _ t1).mp z] at hf; cases hf), bf0, Option.bind_some]
        unfold f_X6_step_148 f_X6_step_160 f_X8_reads_129 f_X8_reads_150
        by_cases c : t b = 59
        · rw [if_pos ((b59_d _ t1).mpr c), if_pos (show nI (t b) = (59 : Int32) by rw [c]; rfl), if_pos rfl, addR]
          exact ⟨b, b + 1, b + 1, 3, 0, 3, gd, rfl, rfl, g1, Or.inr (Or.inl ⟨by omega, by omega, rfl, Or.inr (Or.inr ⟨rfl, rfl⟩)⟩)⟩
        · rw [if_neg (fun z => c ((b59_d _ t1).mp z)), if_neg (show ¬ nI (t b) = (59 : Int32) from fun z => by rw [show (59 : Int32) = nI 59 from rfl, nI_eq (by omega) (by decide)] at z; exact c z), if_neg (show ¬ (4 : Int32) = 3 by decide), Int32.add_zero]
          exact ⟨b, b + 1, b, 4, 0, 4, gd, rfl, rfl, g1, Or.inr (Or.inr ⟨rfl, Or.inl rfl⟩)⟩
theorem both_number {n p : Nat} {t : Nat → Nat} {at_ bt_ : Nat → Int32} (hT : TX n t at_ bt_) (hp : p ≤ n) (rp rk rv gb gt gd v1 v2 : Int32) : ∃ (f : Bool) (b p1 p2 : Nat) (kc vc km vm : Int32), f_X6_readsNumber rp (nI n) (nI p) rk rv bt_ v1 v2 = some (b2i f, nI b, nI p1, kc, vc) ∧ f_X8_number (nI n) (nI p) gb gt gd at_ v1 v2 = some (b2i f, nI p2, nI b, km, vm) ∧ (f = true → p < p1 ∧ p1 ≤ n ∧ p2 = p1 ∧ vc = vm ∧ km = 2 ∧ ∃ v, v ≤ 99 ∧ vm = nI v ∧ v1.toInt ≤ (v : Int) ∧ (v : Int) ≤ v2.toInt) := by
  obtain ⟨b, p1, p2, kc, vc, km, vm, s1, s2, s3, s4⟩ := both_step hT hp rp rk rv gb gt gd
  unfold f_X6_readsNumber f_X8_number
  rw [s1, s2, Option.bind_some, Option.bind_some]
  dsimp only
  have no : ∀ (kc km : Int32), ¬ kc = 2 → ¬ km = 2 → ∃ (f : Bool) (b' p1' p2' : Nat) (kc' vc' km' vm' : Int32), (if kc = 2 then ((f_X7_within vc v1 v2).bind fun q3 => if q3 = 0 then (some ((0 : Int32), nI b, nI p1, kc, vc)) else (some (1, nI b, nI p1, kc, vc))) else (some (0, nI b, nI p1, kc, vc))) = some (b2i f, nI b', nI p1', kc', vc') ∧ (if km = 2 then ((f_X8_in vm.toInt64 v1.toInt64 v2.toInt64).bind fun q3 => if q3 = 0 then (some ((0 : Int32), nI p2, nI b, km, vm)) else (some (1, nI p2, nI b, km, vm))) else (some (0, nI p2, nI b, km, vm))) = some (b2i f, nI p2', nI b', km', vm') ∧ (f = true → p < p1' ∧ p1' ≤ n ∧ p2' = p1' ∧ vc' = vm' ∧ km' = 2 ∧ ∃ v, v ≤ 99 ∧ vm' = nI v ∧ v1.toInt ≤ (v : Int) ∧ (v : Int) ≤ v2.toInt) := fun kc km h1 h2 => by
    rw [if_neg h1, if_neg h2]
    exact ⟨false, b, p1, p2, kc, vc, km, vm, rfl, rfl, fun h => by cases h⟩
  rcases s4 with ⟨h1, h2⟩ | ⟨a1, a2, a3, h⟩ | ⟨h2, h1⟩
  · exact no kc km (by rw [h1]; decide) (by rw [h2]; decide)
  · rcases h with ⟨h1, h2, -, -⟩ | ⟨h1, h2, h3, v, h4, h5⟩ | ⟨h1, h2⟩
    · exact no kc km (by rw [h1]; decide) (by rw [h2]; decide)
    · subst h3
      rw [if_pos h1, if_pos h2, within_spec, in_spec, Option.bind_some, Option.bind_some]
      by_cases hc : v1.toInt ≤ vc.toInt ∧ vc.toInt ≤ v2.toInt
      · rw [if_pos hc, if_neg (show ¬ (1 : Int32) = 0 by decide), if_neg (show ¬ (1 : Int32) = 0 by decide)]
        have hv : vc.toInt = (v : Int) := by rw [h5]; exact nI_toInt (by omega)
        rw [hv] at hc
        exact ⟨true, b, p1, p2, kc, vc, km, vc, rfl, rfl, fun _ => ⟨by omega, a2, a3, rfl, h2, v, h4, h5, hc.1, hc.2⟩⟩
      · rw [if_neg hc, if_pos rfl, if_pos rfl]
        exact ⟨false, b, p1, p2, kc, vc, km, vc, rfl, rfl, fun h => by cases h⟩
    · exact no kc km (by rw [h1]; decide) (by rw [h2]; decide)
  · rcases h1 with h1 | ⟨h1, -⟩
    · exact no kc km (by rw [h1]; decide) (by rw [h2]; decide)
    · exact no kc km (by rw [h1]; decide) (by rw [h2]; decide)
theorem both_end {n p : Nat} {t : Nat → Nat} {at_ bt_ : Nat → Int32} (hT : TX n t at_ bt_) (hp : p ≤ n) (rp rk rv gb gt gd : Int32) : ∃ (f : Bool) (b p1 p2 : Nat) (kc vc km vm : Int32), f_X6_readsEnd rp (nI n) (nI p) rk rv bt_ = some (b2i f, nI b, nI p1, kc, vc) ∧ f_X8_ends (nI n) (nI p) gb gt gd at_ = some (b2i f, nI p2, nI b, km, vm) ∧ (f = true → p < p1 ∧ p1 ≤ n ∧ p2 = p1) := by
  obtain ⟨b, p1, p2, kc, vc, km, vm, s1, s2, s3, s4⟩ := both_step hT hp rp rk rv gb gt gd
  unfold f_X6_readsEnd f_X8_ends
  rw [s1, s2, Option.bind_some, Option.bind_some]
  dsimp only
  by_cases c : kc = 3
  · have hm : km = 3 ∧ b < p1 ∧ p1 ≤ n ∧ p2 = p1 := by
      rcases s4 with ⟨h1, h2⟩ | ⟨a1, a2, a3, h⟩ | ⟨h2, h1⟩
      · rw [h1] at c; exact absurd c (by decide)
      · rcases h with ⟨h1, h2, -, -⟩ | ⟨h1, h2, -⟩ | ⟨h1, h2⟩
        · rw [h1] at c; exact absurd c (by decide)
        · rw [h1] at c; exact absurd c (by decide)
        · exact ⟨h2, a1, a2, a3⟩
      · rcases h1 with h1 | ⟨h1, -⟩
        · rw [h1] at c; exact absurd c (by decide)
        · rw [h1] at c; exact absurd c (by decide)
    rw [if_pos c, if_pos hm.1]
    exact ⟨true, b, p1, p2, kc, vc, km, vm, rfl, rfl, fun _ => ⟨by omega, hm.2.2.1, hm.2.2.2⟩⟩
  · have hm : ¬ km = 3 := by
      rcases s4 with ⟨h1, h2⟩ | ⟨a1, a2, a3, h⟩ | ⟨h2, h1⟩
      · rw [h2]; decide
      · rcases h with ⟨h1, h2, -, -⟩ | ⟨h1, h2, -⟩ | ⟨h1, h2⟩
        · rw [h2]; decide
        · rw [h2]; decide
        · exact absurd h1 c
      · rw [h2]; decide
    rw [if_neg c, if_neg hm]
    exact ⟨false, b, p1, p2, kc, vc, km, vm, rfl, rfl, fun h => by cases h⟩
