/-! burning; the model's minute whole -/
theorem brn_out {k : Nat} : ∀ {j : Nat} {now : Nat → Int32}, j ≤ 6 → k < 42 → (∀ c, c < j → k ≠ 1 + 4 * c ∧ k ≠ 3 + 4 * c) → brn j now k = now k
  | 0, _, _, _, _ => rfl
  | j + 1, now, hj, hk, hx => by
    unfold brn br1
    by_cases c : brn j now (3 + 4 * j) = 1
    · rw [if_pos c, pk_un (hx j (by omega)).2, pk_un (by omega), pk_un (hx j (by omega)).1]
      exact brn_out (by omega) hk (fun c hc => hx c (by omega))
    · rw [if_neg c]
      exact brn_out (by omega) hk (fun c hc => hx c (by omega))
theorem m_burn1 {h : Nat → Int32} {w : Int32} {now : Nat → Int32} {c r : Nat} (hc : c < 6) (hr : r < 5) (er : now (2 + 4 * c) = nI r) (kk : Int32 → (Nat → Int32) → Option (Nat → Int32)) :
    ((f_X8_isLit now (nI c)).bind fun q37 => if q37 = 0 then (f_X8_goesOn_334 h w kk (nI c) now) else ((rd_ now 47 (1 + (4 * nI c))).bind fun x39 => (wr_ now 47 (1 + (4 * nI c)) (x39 - 1)).bind fun y40 => (f_X8_roomOf y40 (nI c)).bind fun q41 => (rd_ y40 47 (42 + q41)).bind fun x42 => (wr_ y40 47 (42 + q41) (x42 + 1)).bind fun y43 => (f_X8_left y43 (nI c)).bind fun q44 => if q44 ≤ 0 then (f_X8_goesOn_333 h w kk (nI c) 0 (3 + (4 * nI c)) y43) else (f_X8_goesOn_333 h w kk (nI c) 1 (3 + (4 * nI c)) y43))) = kk (nI (c + 1)) (br1 c now) := by
  unfold br1
  have et : tn (now (2 + 4 * c)) = r := by rw [er]; exact tn_nI (by omega)
  simp (disch := omega) only [m_isLit, Option.bind_some]
  by_cases c1 : now (3 + 4 * c) = 1
  · rw [if_neg (by rw [b2i_0]; simp [c1]), if_pos c1, et]
    simp (disch := omega) only [mulL, addL, rd_ok, wr_ok, Option.bind_some, m_roomOf, m_left]
    have e4 : upd now (1 + 4 * c) (now (1 + 4 * c) - 1) (2 + 4 * c) = nI r := by rw [pk_un (by omega), er]
    rw [e4]
    simp (disch := omega) only [addL, rd_ok, wr_ok, Option.bind_some, m_left]
    have e5 : upd now (1 + 4 * c) (now (1 + 4 * c) - 1) (42 + r) = now (42 + r) := pk_un (by omega)
    have e6 : upd (upd now (1 + 4 * c) (now (1 + 4 * c) - 1)) (42 + r) (now (42 + r) + 1) (1 + 4 * c) = now (1 + 4 * c) - 1 := by rw [pk_un (by omega), pk_us]
    rw [e5, e6]
    unfold f_X8_goesOn_333 f_X8_goesOn_334
    simp (disch := omega) only [wr_ok, Option.bind_some, addR]
    by_cases c2 : now (1 + 4 * c) - 1 ≤ 0
    · rw [if_pos c2, if_pos c2]
    · rw [if_neg c2, if_neg c2]
  · rw [if_pos (by rw [b2i_0]; simp [c1]), if_neg c1]
    unfold f_X8_goesOn_334
    simp only [addR]
theorem m_burn_loop {h : Nat → Int32} {nc : Nat} {w : Int32} {now : Nat → Int32} (e2 : h 2 = nI nc) (hc : nc ≤ 6) (hr : ∀ c, c < nc → ixb (now (2 + 4 * c)) 5) : ∀ (q j k : Nat), j + q = nc → q < k → f_X8_goesOn_262 h w k (nI j) (brn j now) = some (upd (brn nc now) 0 (brn nc now 0 + 1)) := by
  intro q
  induction q with
  | zero =>
    intro j k hj hk
    obtain ⟨k, rfl⟩ : ∃ z, k = z + 1 := ⟨k - 1, by omega⟩
    have : j = nc := by omega
    subst this
    rw [f_X8_goesOn_262]
    simp (disch := omega) only [rdL, wrL, Option.bind_some, e2, nI_leI, Nat.le_refl, if_true]
  | succ q ih =>
    intro j k hj hk
    obtain ⟨k, rfl⟩ : ∃ z, k = z + 1 := ⟨k - 1, by omega⟩
    obtain ⟨r, hr5, er⟩ := hr j (by omega)
    have er' : brn j now (2 + 4 * j) = nI r := by rw [brn_out (by omega) (by omega) (fun c _ => by omega)]; exact er
    rw [f_X8_goesOn_262, rdL (by omega) (by omega), Option.bind_some, e2, if_neg (by rw [nI_leI (by omega) (by omega)]; omega), m_burn1 (by omega) hr5 er']
    exact ih (j + 1) k (by omega) (by omega)
theorem blw_out {h : Nat → Int32} {nd k : Nat} : ∀ {j : Nat} {now : Nat → Int32}, (∀ c, c < j → k ≠ 3 + 4 * c) → blw h nd j now k = now k
  | 0, _, _ => rfl
  | j + 1, now, hx => by
    unfold blw
    rw [pk_un (hx j (by omega))]
    exact blw_out (fun c hc => hx c (by omega))
theorem jd1_out {h now : Nat → Int32} {nc a k : Nat} (h1 : k ≠ 30 + 2 * a) (h2 : k ≠ 30 + 2 * a + 1) : jd1 h nc a now k = now k := by
  unfold jd1
  by_cases c1 : now (30 + 2 * a) = 1
  · rw [if_pos c1]
    by_cases c2 : ltF now (h (27 + 4 * a + 2)) nc = true
    · rw [if_pos c2]
      by_cases c3 : now (30 + 2 * a + 1) + 1 = h (27 + 4 * a)
      · rw [if_pos c3, pk_un h1, pk_un h2]
      · rw [if_neg c3, pk_un h1, pk_un h2]
    · rw [if_neg c2, pk_un h1]
  · rw [if_neg c1]
theorem jdg_out {h : Nat → Int32} {nc k : Nat} : ∀ {j : Nat} {now : Nat → Int32}, (∀ a, a < j → k ≠ 30 + 2 * a ∧ k ≠ 30 + 2 * a + 1) → jdg h nc j now k = now k
  | 0, _, _ => rfl
  | j + 1, now, hx => by
    unfold jdg
    rw [jd1_out (hx j (by omega)).1 (hx j (by omega)).2]
    exact jdg_out (fun c hc => hx c (by omega))
theorem m_goesOn {h : Nat → Int32} {nr nd nc na nw : Nat} (hH : HH h nr nd nc na nw) {now : Nat → Int32} (hr : ∀ c, c < nc → ixb (now (2 + 4 * c)) nr) (w : Bool) : f_X8_goesOn h now (b2i w) = some (stp h nd nc na w now) := by
  have e1 : h 1 = nI nd := hH.1.2.1
  have e2 : h 2 = nI nc := hH.1.2.2.1
  obtain ⟨hnr, hd, hc, hna, -⟩ := hH.2.1
  unfold f_X8_goesOn
  have key : f_X8_goesOn_2 h (b2i w) fl_ 0 now = f_X8_goesOn_73 h (b2i w) fl_ 0 (if w then blw h nd nc now else now) := by
    cases w with
    | true => exact m_blow_loop e1 e2 hd hc (by decide) nc 0 fl_ (by omega) (fl_lt (by omega))
    | false => exact m_goesOn_0 e2 hc
  rw [key]
  have k2 := m_acts_loop hH (w := b2i w) (now := if w then blw h nd nc now else now) na 0 fl_ (by omega) (fl_lt (by omega))
  rw [show (0 : Int32) = nI 0 from rfl]
  rw [show (if w then blw h nd nc now else now) = jdg h nc 0 (if w then blw h nd nc now else now) from rfl, k2]
  refine m_burn_loop e2 hc (fun c hcc => ?_) nc 0 fl_ (by omega) (fl_lt (by omega))
  obtain ⟨r, hr5, er⟩ := hr c hcc
  refine ⟨r, by omega, ?_⟩
  rw [jdg_out (fun a _ => by omega)]
  cases w with
  | true => exact (blw_out (fun c' _ => by omega)).trans er
  | false => exact er
