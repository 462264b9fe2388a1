/-! odds -/
theorem c_power {b t : Nat} (ht : t ≤ 6) : f_X7_power (nI b) (nI t) = some (nI (b ^ t)) := by
  unfold f_X7_power
  have loop : ∀ (q j k : Nat), j + q = t → q < k → f_X7_power_4 (nI b) (nI t) k (nI (b ^ j)) (nI j) = some (nI (b ^ t)) := by
    intro q
    induction q with
    | zero =>
      intro j k hj hk
      obtain ⟨k, rfl⟩ : ∃ z, k = z + 1 := ⟨k - 1, by omega⟩
      have : j = t := by omega
      subst this
      rw [f_X7_power_4, if_pos ((nI_leI (by omega) (by omega)).mpr (Nat.le_refl _))]
    | succ q ih =>
      intro j k hj hk
      obtain ⟨k, rfl⟩ : ∃ z, k = z + 1 := ⟨k - 1, by omega⟩
      rw [f_X7_power_4, if_neg (fun z => by have := (nI_leI (by omega) (by omega)).mp z; omega), pk_mul, addR, ← Nat.pow_succ]
      exact ih (j + 1) k (by omega) (by omega)
  have l := loop t 0 fl_ (by omega) (fl_lt (by omega))
  rw [show nI 0 = (0 : Int32) from rfl, Nat.pow_zero, show nI 1 = (1 : Int32) from rfl] at l
  exact l
theorem gcd_stp (p q : Nat) : Nat.gcd p q = Nat.gcd q (p % q) := by
  rw [Nat.gcd_comm p q, Nat.gcd_rec q p, Nat.gcd_comm]
theorem half_rem {q r : Nat} (hr : 0 < r) (h : r < q) : 2 * (q % r) < q := by
  have h1 := Nat.div_add_mod q r
  have h2 := Nat.mod_lt q hr
  have h3 : 1 ≤ q / r := (Nat.le_div_iff_mul_le hr).mpr (by omega)
  have h4 : r * 1 ≤ r * (q / r) := Nat.mul_le_mul_left r h3
  omega
theorem c_gcd {v0 v1 : Int32} : ∀ (t p q j k : Nat), q < 2 ^ t → p < 2 ^ 31 → q < 2 ^ 31 → j + 2 * t < 64 → 2 * t < k → f_X7_greatestDivisor_7 v0 v1 k (nI p) (nI q) (nI j) = some (nI (Nat.gcd p q)) := by
  have e64 : (64 : Int32) = nI 64 := rfl
  intro t
  induction t with
  | zero =>
    intro p q j k hq hp hq' hj hk
    obtain ⟨k, rfl⟩ : ∃ z, k = z + 1 := ⟨k - 1, by omega⟩
    have : q = 0 := by have : 2 ^ 0 = 1 := rfl; omega
    subst this
    rw [f_X7_greatestDivisor_7, if_neg (fun z => by rw [e64] at z; have := (nI_leI (by omega) (by omega)).mp z; omega), if_pos (show nI 0 = (0 : Int32) from rfl), Nat.gcd_zero_right]
  | succ t ih =>
    intro p q j k hq hp hq' hj hk
    obtain ⟨k, rfl⟩ : ∃ z, k = z + 1 := ⟨k - 1, by omega⟩
    rw [f_X7_greatestDivisor_7, if_neg (fun z => by rw [e64] at z; have := (nI_leI (by omega) (by omega)).mp z; omega)]
    by_cases c : q = 0
    · subst c
      rw [if_pos (show nI 0 = (0 : Int32) from rfl), Nat.gcd_zero_right]
    · have hne : ¬ nI q = 0 := nI_ne0 (by omega) hq'
      rw [if_neg hne, nz_ok hne, Option.bind_some, pk_rem hp (by omega) hq', addR, gcd_stp p q]
      obtain ⟨k, rfl⟩ : ∃ z, k = z + 1 := ⟨k - 1, by omega⟩
      have hr : p % q < q := Nat.mod_lt _ (by omega)
      generalize p % q = r at hr ⊢
      rw [f_X7_greatestDivisor_7, if_neg (fun z => by rw [e64] at z; have := (nI_leI (by omega) (by omega)).mp z; omega)]
      by_cases d : r = 0
      · subst d
        rw [if_pos (show nI 0 = (0 : Int32) from rfl), Nat.gcd_zero_right]
      · have hne2 : ¬ nI r = 0 := nI_ne0 (by omega) (by omega)
        have hh := half_rem (q := q) (r := r) (by omega) hr
        have h2 : 2 ^ (t + 1) = 2 * 2 ^ t := by rw [Nat.pow_succ]; omega
        rw [if_neg hne2, nz_ok hne2, Option.bind_some, pk_rem hq' (by omega) (by omega), addR, gcd_stp q r]
        exact ih r (q % r) (j + 1 + 1) k (by omega) (by omega) (by omega) (by omega) (by omega)
theorem m_gcd {h : Nat → Int32} {v1 v2 v3 v4 : Int32} {A B : Nat} {now ad : Nat → Int32} : ∀ (t p q k : Nat), q < 2 ^ t → p < 2 ^ 31 → q < 2 ^ 31 → 2 * t < k → 0 < Nat.gcd p q → f_X8_odds_273 h v1 v2 v3 v4 k (nI A) (nI B) (nI p) (nI q) now ad = some (if v4 = 0 then nI A / nI (Nat.gcd p q) else nI B / nI (Nat.gcd p q), now, ad) := by
  have fin : ∀ p : Nat, p < 2 ^ 31 → 0 < p → (if v4 = 0 then ((nz_ (nI p)).bind fun _ => some (nI A / nI p, now, ad)) else ((nz_ (nI p)).bind fun _ => some (nI B / nI p, now, ad))) = some (if v4 = 0 then nI A / nI p else nI B / nI p, now, ad) := fun p hp h0 => by
    rw [nz_ok (nI_ne0 h0 hp), Option.bind_some, Option.bind_some]
    by_cases c : v4 = 0
    · rw [if_pos c, if_pos c]
    · rw [if_neg c, if_neg c]
  intro t
  induction t with
  | zero =>
    intro p q k hq hp hq' hk h0
    obtain ⟨k, rfl⟩ : ∃ z, k = z + 1 := ⟨k - 1, by omega⟩
    have : q = 0 := by have : 2 ^ 0 = 1 := rfl; omega
    subst this
    rw [Nat.gcd_zero_right] at h0 ⊢
    rw [f_X8_odds_273, if_pos (show nI 0 = (0 : Int32) from rfl)]
    exact fin p hp h0
  | succ t ih =>
    intro p q k hq hp hq' hk h0
    obtain ⟨k, rfl⟩ : ∃ z, k = z + 1 := ⟨k - 1, by omega⟩
    by_cases c : q = 0
    · subst c
      rw [Nat.gcd_zero_right] at h0 ⊢
      rw [f_X8_odds_273, if_pos (show nI 0 = (0 : Int32) from rfl)]
      exact fin p hp h0
    · have hne : ¬ nI q = 0 := nI_ne0 (by omega) hq'
      rw [gcd_stp p q] at h0 ⊢
      rw [f_X8_odds_273, if_neg hne, nz_ok hne, Option.bind_some, pk_rem hp (by omega) hq']
      obtain ⟨k, rfl⟩ : ∃ z, k = z + 1 := ⟨k - 1, by omega⟩
      have hr : p % q < q := Nat.mod_lt _ (by omega)
      generalize p % q = r at hr h0 ⊢
      by_cases d : r = 0
      · subst d
        rw [Nat.gcd_zero_right] at h0 ⊢
        rw [f_X8_odds_273, if_pos (show nI 0 = (0 : Int32) from rfl)]
        exact fin q hq' h0
      · have hne2 : ¬ nI r = 0 := nI_ne0 (by omega) (by omega)
        have hh := half_rem (q := q) (r := r) (by omega) hr
        have h2 : 2 ^ (t + 1) = 2 * 2 ^ t := by rw [Nat.pow_succ]; omega
        rw [gcd_stp q r] at h0 ⊢
        rw [f_X8_odds_273, if_neg hne2, nz_ok hne2, Option.bind_some, pk_rem hq' (by omega) (by omega)]
        exact ih r (q % r) k (by omega) (by omega) (by omega) (by omega) h0
def wt_ (x n g : Nat) : Nat := x ^ pop_ g * (10 - x) ^ (n - pop_ g)
def pp_ (x g : Nat) : Nat → Nat
  | 0 => 1
  | k + 1 => pp_ x g k * (if g.testBit k then x else 10 - x)
theorem pp_eq {x g : Nat} : ∀ k, pp_ x g k = x ^ pcn_ (fun i => g.testBit i) k * (10 - x) ^ (k - pcn_ (fun i => g.testBit i) k)
  | 0 => rfl
  | k + 1 => by
    have hl := pcn_le (fun i => g.testBit i) k
    unfold pp_ pcn_
    rw [pp_eq k]
    cases g.testBit k
    · rw [if_neg (by decide), if_neg (by decide), Nat.add_zero, show k + 1 - pcn_ (fun i => g.testBit i) k = (k - pcn_ (fun i => g.testBit i) k) + 1 by omega, Nat.pow_succ (10 - x), Nat.mul_assoc]
    · rw [if_pos rfl, if_pos rfl, show k + 1 - (pcn_ (fun i => g.testBit i) k + 1) = k - pcn_ (fun i => g.testBit i) k by omega, Nat.pow_succ, Nat.mul_assoc, Nat.mul_assoc, Nat.mul_comm x]
theorem wt_pp {x n g : Nat} (hn : n ≤ 6) (hg : g < 2 ^ n) : wt_ x n g = pp_ x g n := by
  have e : pop_ g = pcn_ (fun i => g.testBit i) n := by
    rw [← pop_mk hn, ← mk_of hg (fun j _ => rfl)]
  unfold wt_
  rw [pp_eq, e]
theorem wt_le {x n g : Nat} (hx : x ≤ 10) (hn : n ≤ 6) (hg : g < 2 ^ n) (h64 : g < 64) : wt_ x n g ≤ 1000000 := by
  have hp := pop_le_d n (by omega) g h64 hg
  unfold wt_
  have h1 : x ^ pop_ g ≤ 10 ^ pop_ g := Nat.pow_le_pow_left hx _
  have h2 : (10 - x) ^ (n - pop_ g) ≤ 10 ^ (n - pop_ g) := Nat.pow_le_pow_left (by omega) _
  have h3 : 10 ^ pop_ g * 10 ^ (n - pop_ g) = 10 ^ n := by rw [← Nat.pow_add]; congr 1; omega
  have h4 : 10 ^ n ≤ 10 ^ 6 := Nat.pow_le_pow_right (by decide) hn
  calc x ^ pop_ g * (10 - x) ^ (n - pop_ g) ≤ 10 ^ pop_ g * 10 ^ (n - pop_ g) := Nat.mul_le_mul h1 h2
    _ = 10 ^ n := h3
    _ ≤ 1000000 := h4
def acc_ (f : Nat → Bool) (x n : Nat) : Nat → Nat
  | 0 => 0
  | s + 1 => acc_ f x n s + (if f s then wt_ x n s else 0)
theorem acc_le {f : Nat → Bool} {x n : Nat} (hx : x ≤ 10) (hn : n ≤ 6) : ∀ {s : Nat}, s ≤ 2 ^ n → acc_ f x n s ≤ s * 1000000
  | 0, _ => Nat.le_refl _
  | s + 1, hs => by
    have ih := acc_le (f := f) hx hn (s := s) (by omega)
    have hw := wt_le hx hn (g := s) (by omega) (by have := p64 hn; omega)
    unfold acc_
    refine Nat.le_trans (Nat.add_le_add ih (?_ : _ ≤ 1000000)) (by rw [Nat.succ_mul]; exact Nat.le_refl _)
    split
    · exact hw
    · exact Nat.zero_le _
theorem c_ways {h now t1 t2 tnn tar trr twi q_row : Nat → Int32} {nr nd nc na nw m a x n : Nat} (hH : HH h nr nd nc na nw) (hT : HT h nd na nw t1 t2 tnn tar trr twi) (hN : NI h nr nd nc na now) (hm : m ≤ 999) (em : now 0 = nI m) (han : a < na) (hq : ∀ i, 33 ≤ i → q_row i = 0) (hx : x ≤ 10) (hn : n ≤ 6) : ∃ q', f_X1_waysWhole q_row (rowOf now) (nI nd) (nI nc) (nI na) (nI nw) t1 t2 tnn tar trr twi (nI a) (nI x) (nI n) = some (nI (acc_ (fun s => fin_ h nd nc na nw m s n a now) x n (2 ^ n)), q') ∧ (∀ i, 33 ≤ i → q' i = 0) := by
  have hp := p64 hn
  unfold f_X1_waysWhole
  have loop : ∀ (q s k : Nat), s + q = 2 ^ n → q < k → ∀ q_row : Nat → Int32, (∀ i, 33 ≤ i → q_row i = 0) → ∃ q', f_X1_waysWhole_6 (rowOf now) (nI nd) (nI nc) (nI na) (nI nw) t1 t2 tnn tar trr twi (nI a) (nI x) (nI n) k (nI (acc_ (fun s => fin_ h nd nc na nw m s n a now) x n s)) (nI s) q_row = some (nI (acc_ (fun s => fin_ h nd nc na nw m s n a now) x n (2 ^ n)), q') ∧ (∀ i, 33 ≤ i → q' i = 0) := by
    intro q
    induction q with
    | zero =>
      intro s k hs hk q_row hq
      obtain ⟨k, rfl⟩ : ∃ z, k = z + 1 := ⟨k - 1, by omega⟩
      have : s = 2 ^ n := by omega
      subst this
      rw [f_X1_waysWhole_6, shl_7 n (by omega), if_pos ((nI_leI (by omega) (by omega)).mpr (Nat.le_refl _))]
      exact ⟨_, rfl, hq⟩
    | succ q ih =>
      intro s k hs hk q_row hq
      obtain ⟨k, rfl⟩ : ∃ z, k = z + 1 := ⟨k - 1, by omega⟩
      have hs64 : s < 64 := by omega
      have hpn := pop_le_d n (by omega) s hs64 (by omega)
      have hw := wt_le hx hn (g := s) (by omega) hs64
      have ih' := ih (s + 1) k (by omega) (by omega)
      rw [f_X1_waysWhole_6, shl_7 n (by omega), if_neg (fun z => by have := (nI_leI (by omega) (by omega)).mp z; omega), pop_d s hs64, Option.bind_some, c_power (by omega), Option.bind_some, show (10 : Int32) = nI 10 from rfl, pk_sub hx, pk_sub hpn, c_power (by omega), Option.bind_some, pk_mul]
      show ∃ q', (if nI (wt_ x n s) ≤ 0 then _ else _) = _ ∧ _
      have ea : acc_ (fun s => fin_ h nd nc na nw m s n a now) x n (s + 1) = acc_ (fun s => fin_ h nd nc na nw m s n a now) x n s + (if fin_ h nd nc na nw m s n a now then wt_ x n s else 0) := rfl
      by_cases c : wt_ x n s = 0
      · rw [if_pos (by rw [c]; decide)]
        unfold f_X1_waysWhole_79
        rw [addR]
        have : acc_ (fun s => fin_ h nd nc na nw m s n a now) x n (s + 1) = acc_ (fun s => fin_ h nd nc na nw m s n a now) x n s := by
          rw [ea, c]
          cases fin_ h nd nc na nw m s n a now <;> rfl
        rw [this] at ih'
        exact ih' q_row hq
      · rw [if_neg (nI_nle (by omega) (by omega)), c_copy hq, Option.bind_some]
        obtain ⟨z, hz⟩ := c_ends (g := s) (n := n) hH hT hN hm em han hs64 hn
        rw [hz, Option.bind_some]
        unfold f_X1_waysWhole_76 f_X1_waysWhole_79
        rw [ea] at ih'
        cases hf : fin_ h nd nc na nw m s n a now with
        | false =>
          rw [hf, if_neg (by decide), Nat.add_zero] at ih'
          rw [bf0, Int32.add_zero, addR]
          exact ih' _ (fun i hi => row_big hi)
        | true =>
          rw [hf, if_pos rfl] at ih'
          rw [bt0, nI_add, addR]
          exact ih' _ (fun i hi => row_big hi)
  have l := loop (2 ^ n) 0 fl_ (by omega) (fl_lt (by omega)) q_row hq
  rw [show nI 0 = (0 : Int32) from rfl, show acc_ (fun s => fin_ h nd nc na nw m s n a now) x n 0 = 0 from rfl, show nI 0 = (0 : Int32) from rfl] at l
  exact l
theorem m_odds_row {h ad : Nat → Int32} {nr nd nc na nw m a x n s A : Nat} {v4 v6 : Int32} {K : Int32 → Int32 → Int32 → (Nat → Int32) → (Nat → Int32) → Option (Int32 × (Nat → Int32) × (Nat → Int32))} {now : Nat → Int32} (hH : HH h nr nd nc na nw) (hN : NI h nr nd nc na now) (hm : m ≤ 999) (em : now 0 = nI m) (han : a < na) (hx : x ≤ 10) (hn : n ≤ 6) (hs : s < 2 ^ n) : ∃ z : Nat → Int32, f_X8_odds_145 h (nI a) (nI x) (nI n) v4 K fl_ (nI A) v6 (nI s) 1 0 (bgn a now) ad = K (nI (A + (if fin_ h nd nc na nw m s n a now then wt_ x n s else 0))) v6 (nI (s + 1)) (cpx ad z 0 47) ad := by
  obtain ⟨hnr, hnd, hnc, hna, hnw⟩ := hH.2.1
  have hp := p64 hn
  have hs64 : s < 64 := by omega
  have hNI : ∀ j, NI h nr nd nc na (itg h nd nc na nw m s n j (bgn a now)) := fun j => NI_itg hH (NI_bgn hH hN han) j
  have hI0 : ∀ j, itg h nd nc na nw m s n j (bgn a now) 0 = nI (m + j) := fun j => itg_0 hnc (bgn_0 em) j
  refine ⟨itg h nd nc na nw m s n 60 (bgn a now), ?_⟩
  have l2 : ∀ (q j k : Nat), j + q = 60 → n ≤ j → q < k → f_X8_odds_202 h (nI a) (nI x) (nI n) v4 K k (nI A) v6 (nI s) (nI (wt_ x n s)) (nI j) (itg h nd nc na nw m s n j (bgn a now)) ad = K (nI (A + (if fin_ h nd nc na nw m s n a now then wt_ x n s else 0))) v6 (nI (s + 1)) (cpx ad (itg h nd nc na nw m s n 60 (bgn a now)) 0 47) ad := by
    intro q
    induction q with
    | zero =>
      intro j k hj hnj hk
      obtain ⟨k, rfl⟩ : ∃ z, k = z + 1 := ⟨k - 1, by omega⟩
      have : j = 60 := by omega
      subst this
      rw [f_X8_odds_202, if_pos (by decide), mulL, addL, rd_ok (by omega) (by omega), Option.bind_some]
      unfold f_X8_odds_252 fin_
      rw [m_backs, Option.bind_some, Option.bind_some, nI_add, Int32.add_zero, addR]
      by_cases c : itg h nd nc na nw m s n 60 (bgn a now) (30 + 2 * a) = 2
      · rw [if_pos c, decide_eq_true c, if_pos rfl]
      · rw [if_neg c, decide_eq_false c, if_neg (by decide)]; rfl
    | succ q ih =>
      intro j k hj hnj hk
      obtain ⟨k, rfl⟩ : ∃ z, k = z + 1 := ⟨k - 1, by omega⟩
      have ih' := ih (j + 1) k (by omega) (by omega) (by omega)
      have hw : gst h nw m s n j = wnd h nw (m + j) := by unfold gst; rw [if_neg (by omega)]
      rw [f_X8_odds_202, if_neg (show ¬ (60 : Int32) ≤ nI j by rw [show (60 : Int32) = nI 60 from rfl, nI_leI (by omega) (by omega)]; omega), m_nxt hH (hNI j) (by omega) (hI0 j), addR]
      unfold nxt
      rw [← hw]
      exact ih'
  have l1 : ∀ (q j k : Nat), j + q = n → q < k → f_X8_odds_145 h (nI a) (nI x) (nI n) v4 K k (nI A) v6 (nI s) (nI (pp_ x s j)) (nI j) (itg h nd nc na nw m s n j (bgn a now)) ad = K (nI (A + (if fin_ h nd nc na nw m s n a now then wt_ x n s else 0))) v6 (nI (s + 1)) (cpx ad (itg h nd nc na nw m s n 60 (bgn a now)) 0 47) ad := by
    intro q
    induction q with
    | zero =>
      intro j k hj hk
      obtain ⟨k, rfl⟩ : ∃ z, k = z + 1 := ⟨k - 1, by omega⟩
      have : j = n := by omega
      subst this
      rw [f_X8_odds_145, if_pos ((nI_leI (by omega) (by omega)).mpr (Nat.le_refl _)), ← wt_pp hn hs]
      exact l2 (60 - j) j fl_ (by omega) (Nat.le_refl _) (fl_lt (by omega))
    | succ q ih =>
      intro j k hj hk
      obtain ⟨k, rfl⟩ : ∃ z, k = z + 1 := ⟨k - 1, by omega⟩
      have ih' := ih (j + 1) k (by omega) (by omega)
      have hw : gst h nw m s n j = s.testBit j := by unfold gst; rw [if_pos (by omega)]
      have eb : (nI s >>> (nI j &&& 31)) &&& 1 = b2i (s.testBit j) := by rw [bit_d s hs64 j (by omega)]; rfl
      have est : stp h nd nc na (gst h nw m s n j) (itg h nd nc na nw m s n j (bgn a now)) = itg h nd nc na nw m s n (j + 1) (bgn a now) := rfl
      rw [hw] at est
      have epp : pp_ x s (j + 1) = pp_ x s j * (if s.testBit j then x else 10 - x) := rfl
      rw [f_X8_odds_145, if_neg (fun z => by have := (nI_leI (by omega) (by omega)).mp z; omega), eb]
      unfold f_X8_odds_167 f_X8_odds_184
      have hr := fun c hc => ((hNI j).2.2.2.1 c hc).1
      cases hb : s.testBit j with
      | false =>
        rw [hb] at est epp
        rw [bf1, if_pos rfl, show f_X8_goesOn h (itg h nd nc na nw m s n j (bgn a now)) 0 = f_X8_goesOn h (itg h nd nc na nw m s n j (bgn a now)) (b2i false) from rfl, m_goesOn hH hr, Option.bind_some, est, show (10 : Int32) = nI 10 from rfl, pk_sub hx, pk_mul, addR]
        rw [epp, if_neg (by decide)] at ih'
        exact ih'
      | true =>
        rw [hb] at est epp
        rw [bt1, if_neg (by decide), show f_X8_goesOn h (itg h nd nc na nw m s n j (bgn a now)) 1 = f_X8_goesOn h (itg h nd nc na nw m s n j (bgn a now)) (b2i true) from rfl, m_goesOn hH hr, Option.bind_some, est, pk_mul, addR]
        rw [epp, if_pos rfl] at ih'
        exact ih'
  have l := l1 n 0 fl_ (by omega) (fl_lt (by omega))
  rw [show nI 0 = (0 : Int32) from rfl, show pp_ x s 0 = 1 from rfl, show nI 1 = (1 : Int32) from rfl, show itg h nd nc na nw m s n 0 (bgn a now) = bgn a now from rfl] at l
  exact l
theorem o_odds {h now t1 t2 tnn tar trr twi q_row ad : Nat → Int32} {nr nd nc na nw m : Nat} (hH : HH h nr nd nc na nw) (hT : HT h nd na nw t1 t2 tnn tar trr twi) (hN : NI h nr nd nc na now) (hm : m ≤ 999) (em : now 0 = nI m) (hq : ∀ i, 33 ≤ i → q_row i = 0) (v1 v2 v3 v4 : Int32) : ∃ r q' now' ad', f_X7_odds (nI nd) (nI nc) (nI na) (nI nw) t1 t2 tnn tar trr twi (rowOf now) q_row v1 v2 v3 v4 = some (r, q') ∧ f_X8_odds h now ad v1 v2 v3 v4 = some (r, now', ad') ∧ (∀ i, 33 ≤ i → q' i = 0) ∧ ∀ k, k < 47 → now' k = now k := by
  obtain ⟨e0, e1, e2, e3, e4⟩ := hH.1
  obtain ⟨hnr, hnd, hnc, hna, hnw⟩ := hH.2.1
  unfold f_X7_odds f_X8_odds
  have ei2 : f_X8_in v2.toInt64 0 10 = some (b2i (rg v2 0 10)) := in_rg (by decide) (by decide)
  have ew2 : f_X7_within v2 0 10 = some (b2i (rg v2 0 10)) := wt_rg (by decide) (by decide)
  have ei3 : f_X8_in v3.toInt64 0 6 = some (b2i (rg v3 0 6)) := in_rg (by decide) (by decide)
  have ew3 : f_X7_within v3 0 6 = some (b2i (rg v3 0 6)) := wt_rg (by decide) (by decide)
  have ei4 : f_X8_in v4.toInt64 0 1 = some (b2i (rg v4 0 1)) := in_rg (by decide) (by decide)
  have ew4 : f_X7_within v4 0 1 = some (b2i (rg v4 0 1)) := wt_rg (by decide) (by decide)
  rw [wt_ix (by omega), m_isAct e3 (by omega), ei2, ew2, ei3, ew3, ei4, ew4, Option.bind_some, Option.bind_some, Option.bind_some, Option.bind_some, Option.bind_some, Option.bind_some, Option.bind_some, Option.bind_some]
  cases c1 : ixd v1 na with
  | false => exact ⟨-1, q_row, now, ad, by rw [bf0], by rw [bf0], hq, fun _ _ => rfl⟩
  | true =>
    rw [bt0, bt0]
    cases c2 : rg v2 0 10 with
    | false => exact ⟨-1, q_row, now, ad, by rw [bf0], by rw [bf0], hq, fun _ _ => rfl⟩
    | true =>
      rw [bt0, bt0]
      cases c3 : rg v3 0 6 with
      | false => exact ⟨-1, q_row, now, ad, by rw [bf0], by rw [bf0], hq, fun _ _ => rfl⟩
      | true =>
        rw [bt0, bt0]
        cases c4 : rg v4 0 1 with
        | false => exact ⟨-1, q_row, now, ad, by rw [bf0], by rw [bf0], hq, fun _ _ => rfl⟩
        | true =>
          obtain ⟨a, han, rfl⟩ := ixd_t c1 (by omega)
          obtain ⟨x, -, hx, rfl⟩ := rg_t c2 (by decide)
          obtain ⟨n, -, hn, rfl⟩ := rg_t c3 (by decide)
          rw [bt0, bt0, c_isEnded (by omega), m_isOver hN hna han, Option.bind_some, Option.bind_some]
          cases c5 : (decide (now (30 + 2 * a) = 2) || decide (now (30 + 2 * a) = 3)) with
          | true => exact ⟨-2, q_row, now, ad, by rw [bt0], by rw [bt0], hq, fun _ _ => rfl⟩
          | false =>
            have hp := p64 hn
            obtain ⟨q', w1, w2⟩ := c_ways (x := x) (n := n) hH hT hN hm em han hq hx hn
            have hAl : acc_ (fun s => fin_ h nd nc na nw m s n a now) x n (2 ^ n) ≤ 64000000 := by
              have := acc_le (f := fun s => fin_ h nd nc na nw m s n a now) hx hn (Nat.le_refl (2 ^ n))
              omega
            have h10 : 10 ^ n ≤ 10 ^ 6 := Nat.pow_le_pow_right (by decide) hn
            have h10' : 0 < 10 ^ n := Nat.pow_pos (by decide)
            have hg0 : 0 < Nat.gcd (acc_ (fun s => fin_ h nd nc na nw m s n a now) x n (2 ^ n)) (10 ^ n) := Nat.gcd_pos_of_pos_right _ h10'
            have hgl : Nat.gcd (acc_ (fun s => fin_ h nd nc na nw m s n a now) x n (2 ^ n)) (10 ^ n) ≤ 10 ^ n := Nat.gcd_le_right _ h10'
            rw [bf0, bf0, w1, Option.bind_some, show (10 : Int32) = nI 10 from rfl, c_power hn, Option.bind_some, m_asides, Option.bind_some]
            unfold f_X7_greatestDivisor
            have lg := c_gcd (v0 := nI (acc_ (fun s => fin_ h nd nc na nw m s n a now) x n (2 ^ n))) (v1 := nI (10 ^ n)) 20 (acc_ (fun s => fin_ h nd nc na nw m s n a now) x n (2 ^ n)) (10 ^ n) 0 fl_ (by omega) (by omega) (by omega) (by omega) (fl_lt (by omega))
            rw [show nI 0 = (0 : Int32) from rfl] at lg
            show ∃ r q'_1 now' ad', ((f_X7_greatestDivisor_7 (nI (acc_ (fun s => fin_ h nd nc na nw m s n a now) x n (2 ^ n))) (nI (10 ^ n)) fl_ (nI (acc_ (fun s => fin_ h nd nc na nw m s n a now) x n (2 ^ n))) (nI (10 ^ n)) 0).bind _) = _ ∧ _
            rw [lg, Option.bind_some, if_pos (show (1 : Int32) ≤ nI (Nat.gcd (acc_ (fun s => fin_ h nd nc na nw m s n a now) x n (2 ^ n)) (10 ^ n)) from (nI_leI (a := 1) (by decide) (by omega)).mpr hg0), nz_ok (nI_ne0 hg0 (by omega)), Option.bind_some, Option.bind_some]
            -- the model
            have rows : ∀ (q s k : Nat), s + q = 2 ^ n → q < k → ∀ now1 : Nat → Int32, (∀ k, k < 47 → now1 k = now k) → ∃ now', f_X8_odds_91 h (nI a) (nI x) (nI n) v4 k (nI (acc_ (fun s => fin_ h nd nc na nw m s n a now) x n s)) (nI (10 ^ n)) (nI s) now1 (cpx now ad 0 47) = some (if v4 = 0 then nI (acc_ (fun s => fin_ h nd nc na nw m s n a now) x n (2 ^ n)) / nI (Nat.gcd (acc_ (fun s => fin_ h nd nc na nw m s n a now) x n (2 ^ n)) (10 ^ n)) else nI (10 ^ n) / nI (Nat.gcd (acc_ (fun s => fin_ h nd nc na nw m s n a now) x n (2 ^ n)) (10 ^ n)), now', cpx now ad 0 47) ∧ ∀ k, k < 47 → now' k = now k := by
              intro q
              induction q with
              | zero =>
                intro s k hs hk now1 h1
                obtain ⟨k, rfl⟩ : ∃ z, k = z + 1 := ⟨k - 1, by omega⟩
                have : s = 2 ^ n := by omega
                subst this
                rw [f_X8_odds_91, shl_7 n (by omega), if_pos ((nI_leI (by omega) (by omega)).mpr (Nat.le_refl _)), m_gcd 20 _ _ fl_ (by omega) (by omega) (by omega) (fl_lt (by omega)) hg0]
                exact ⟨_, rfl, h1⟩
              | succ q ih =>
                intro s k hs hk now1 h1
                obtain ⟨k, rfl⟩ : ∃ z, k = z + 1 := ⟨k - 1, by omega⟩
                have ih' := ih (s + 1) k (by omega) (by omega)
                have hN1 : NI h nr nd nc na now1 := NI_ext (fun k hk => (h1 k hk).symm) hnc hna hN
                have em1 : now1 0 = nI m := by rw [h1 0 (by omega)]; exact em
                rw [f_X8_odds_91, shl_7 n (by omega), if_neg (fun z => by have := (nI_leI (by omega) (by omega)).mp z; omega), mulL, addL, rd_ok (by omega) (by omega), Option.bind_some, Option.bind_some]
                unfold f_X8_odds_138
                rw [wr_ok (by omega) (by omega), wr_ok (by omega) (by omega), Option.bind_some, Option.bind_some]
                have eb : (if now1 (30 + 2 * a) = 0 then f_X8_odds_145 h (nI a) (nI x) (nI n) v4 (f_X8_odds_91 h (nI a) (nI x) (nI n) v4 k) fl_ (nI (acc_ (fun s => fin_ h nd nc na nw m s n a now) x n s)) (nI (10 ^ n)) (nI s) 1 0 (upd now1 (30 + 2 * a) 1) (cpx now ad 0 47) else f_X8_odds_145 h (nI a) (nI x) (nI n) v4 (f_X8_odds_91 h (nI a) (nI x) (nI n) v4 k) fl_ (nI (acc_ (fun s => fin_ h nd nc na nw m s n a now) x n s)) (nI (10 ^ n)) (nI s) 1 0 (upd now1 (30 + 2 * a) (now1 (30 + 2 * a))) (cpx now ad 0 47)) = f_X8_odds_145 h (nI a) (nI x) (nI n) v4 (f_X8_odds_91 h (nI a) (nI x) (nI n) v4 k) fl_ (nI (acc_ (fun s => fin_ h nd nc na nw m s n a now) x n s)) (nI (10 ^ n)) (nI s) 1 0 (bgn a now1) (cpx now ad 0 47) := by
                  unfold bgn
                  by_cases c : now1 (30 + 2 * a) = 0
                  · rw [if_pos c, if_pos c]
                  · rw [if_neg c, if_neg c, upd_self]
                rw [eb]
                obtain ⟨z, hz⟩ := m_odds_row (ad := cpx now ad 0 47) (x := x) (n := n) (s := s) (A := acc_ (fun s => fin_ h nd nc na nw m s n a now) x n s) (v4 := v4) (v6 := nI (10 ^ n)) (K := f_X8_odds_91 h (nI a) (nI x) (nI n) v4 k) hH hN1 hm em1 han hx hn (by omega)
                rw [hz, fin_ext hH h1 hN1 hm em1 han (by omega) hn]
                exact ih' _ (fun k hk => by rw [cpx_47 hk, cpx_47 hk])
            have below : ∀ (q j k : Nat), j + q = n → q < k → f_X8_odds_69 h (nI a) (nI x) (nI n) v4 k 0 (nI (10 ^ j)) (nI j) now (cpx now ad 0 47) = f_X8_odds_91 h (nI a) (nI x) (nI n) v4 fl_ 0 (nI (10 ^ n)) 0 now (cpx now ad 0 47) := by
              intro q
              induction q with
              | zero =>
                intro j k hj hk
                obtain ⟨k, rfl⟩ : ∃ z, k = z + 1 := ⟨k - 1, by omega⟩
                have : j = n := by omega
                subst this
                rw [f_X8_odds_69, if_pos ((nI_leI (by omega) (by omega)).mpr (Nat.le_refl _))]
              | succ q ih =>
                intro j k hj hk
                obtain ⟨k, rfl⟩ : ∃ z, k = z + 1 := ⟨k - 1, by omega⟩
                rw [f_X8_odds_69, if_neg (fun z => by have := (nI_leI (by omega) (by omega)).mp z; omega), show (10 : Int32) = nI 10 from rfl, pk_mul, addR, ← Nat.pow_succ]
                exact ih (j + 1) k (by omega) (by omega)
            have lb := below n 0 fl_ (by omega) (fl_lt (by omega))
            rw [show nI 0 = (0 : Int32) from rfl, Nat.pow_zero, show nI 1 = (1 : Int32) from rfl] at lb
            obtain ⟨now', lr, lk⟩ := rows (2 ^ n) 0 fl_ (by omega) (fl_lt (by omega)) now (fun _ _ => rfl)
            rw [show nI 0 = (0 : Int32) from rfl, show acc_ (fun s => fin_ h nd nc na nw m s n a now) x n 0 = 0 from rfl, show nI 0 = (0 : Int32) from rfl] at lr
            rw [lb, lr]
            by_cases c : v4 = 0
            · rw [if_pos c, if_pos c]; exact ⟨_, _, _, _, rfl, rfl, w2, lk⟩
            · rw [if_neg c, if_neg c]; exact ⟨_, _, _, _, rfl, rfl, w2, lk⟩
