/-! light; the minute's three steps in the model -/
theorem m_lt_loop {h now : Nat → Int32} {nc : Nat} {r : Int32} (e2 : h 2 = nI nc) (hc : nc ≤ 6) : ∀ (q j k : Nat), j + q = nc → q < k → f_X8_isLight_4 h now r k (b2i (ltF now r j)) (nI j) = some (b2i (ltF now r nc)) := by
  intro q
  induction q with
  | zero =>
    intro j k hj hk
    obtain ⟨k, rfl⟩ : ∃ z, k = z + 1 := ⟨k - 1, by omega⟩
    have : j = nc := by omega
    subst this
    rw [f_X8_isLight_4]
    simp (disch := omega) only [rdL, Option.bind_some, e2, nI_leI, Nat.le_refl, if_true, zb_b]
  | succ q ih =>
    intro j k hj hk
    obtain ⟨k, rfl⟩ : ∃ z, k = z + 1 := ⟨k - 1, by omega⟩
    rw [f_X8_isLight_4]
    have hn : ¬ nc ≤ j := by omega
    have ih' := ih (j + 1) k (by omega) (by omega)
    simp (disch := omega) only [rdL, Option.bind_some, e2, nI_leI, hn, if_false, m_isLit, m_roomOf]
    unfold f_X8_isLight_35 f_X8_isLight_39 f_X8_isLight_40
    simp only [addR]
    have e0 : (0 : Int32) = b2i false := rfl
    have e11 : (1 : Int32) = b2i true := rfl
    cases hb : ltF now r j with
    | true =>
      have hs : ltF now r (j + 1) = true := by unfold ltF; rw [hb]; rfl
      rw [if_neg (by decide), e11, ← hs]; exact ih'
    | false =>
      rw [if_pos (by decide)]
      by_cases c1 : now (3 + 4 * j) = 1
      · rw [if_neg (by rw [b2i_0]; simp [c1])]
        by_cases c2 : now (2 + 4 * j) = r
        · have hs : ltF now r (j + 1) = true := by unfold ltF; rw [hb]; simp [c1, c2]
          rw [if_pos c2, e11, ← hs]; exact ih'
        · have hs : ltF now r (j + 1) = false := by unfold ltF; rw [hb]; simp [c2]
          rw [if_neg c2, e0, ← hs]; exact ih'
      · have hs : ltF now r (j + 1) = false := by unfold ltF; rw [hb]; simp [c1]
        rw [if_pos (by rw [b2i_0]; simp [c1]), e0, ← hs]; exact ih'
theorem m_isLight {h now : Nat → Int32} {nc : Nat} {r : Int32} (e2 : h 2 = nI nc) (hc : nc ≤ 6) : f_X8_isLight h now r = some (b2i (ltF now r nc)) := by
  unfold f_X8_isLight
  exact m_lt_loop e2 hc nc 0 fl_ (by omega) (fl_lt (by omega))
/-- the wind's part -/
def blw (h : Nat → Int32) (nd : Nat) : Nat → (Nat → Int32) → (Nat → Int32)
  | 0, now => now
  | c + 1, now => upd (blw h nd c now) (3 + 4 * c) (if blw h nd c now (4 + 4 * c) = 0 ∧ drF h (blw h nd c now) (blw h nd c now (2 + 4 * c)) nd = true then 0 else blw h nd c now (3 + 4 * c))
/-- one act's judgement -/
def jd1 (h : Nat → Int32) (nc a : Nat) (now : Nat → Int32) : Nat → Int32 :=
  if now (30 + 2 * a) = 1 then
    (if ltF now (h (27 + 4 * a + 2)) nc = true then
      (if now (30 + 2 * a + 1) + 1 = h (27 + 4 * a) then
        upd (upd now (30 + 2 * a + 1) (now (30 + 2 * a + 1) + 1)) (30 + 2 * a) (if h (27 + 4 * a + 3) = 9 ∨ now (30 + 2 * tn (h (27 + 4 * a + 3))) = 2 then 2 else 3)
      else upd (upd now (30 + 2 * a + 1) (now (30 + 2 * a + 1) + 1)) (30 + 2 * a) 1)
    else upd now (30 + 2 * a) 3)
  else now
def jdg (h : Nat → Int32) (nc : Nat) : Nat → (Nat → Int32) → (Nat → Int32)
  | 0, now => now
  | a + 1, now => jd1 h nc a (jdg h nc a now)
/-- one candle's burning -/
def br1 (c : Nat) (now : Nat → Int32) : Nat → Int32 :=
  if now (3 + 4 * c) = 1 then
    upd (upd (upd now (1 + 4 * c) (now (1 + 4 * c) - 1)) (42 + tn (now (2 + 4 * c))) (now (42 + tn (now (2 + 4 * c))) + 1)) (3 + 4 * c) (if now (1 + 4 * c) - 1 ≤ 0 then 0 else 1)
  else now
def brn : Nat → (Nat → Int32) → (Nat → Int32)
  | 0, now => now
  | c + 1, now => br1 c (brn c now)
def stp (h : Nat → Int32) (nd nc na : Nat) (w : Bool) (now : Nat → Int32) : Nat → Int32 :=
  let n1 := jdg h nc na (if w then blw h nd nc now else now)
  let n2 := brn nc n1
  upd n2 0 (n2 0 + 1)
theorem drF_ext {h now now' : Nat → Int32} {r : Int32} : ∀ {n : Nat}, (∀ d, d < n → now' (25 + d) = now (25 + d)) → drF h now' r n = drF h now r n
  | 0, _ => rfl
  | n + 1, hx => by unfold drF; rw [drF_ext (n := n) (fun d hd => hx d (by omega)), hx n (by omega)]
theorem ltF_ext {now now' : Nat → Int32} {r : Int32} : ∀ {n : Nat}, (∀ c, c < n → now' (3 + 4 * c) = now (3 + 4 * c) ∧ now' (2 + 4 * c) = now (2 + 4 * c)) → ltF now' r n = ltF now r n
  | 0, _ => rfl
  | n + 1, hx => by unfold ltF; rw [ltF_ext (n := n) (fun d hd => hx d (by omega)), (hx n (by omega)).1, (hx n (by omega)).2]
/-- the model's wind loop -/
theorem m_blow_loop {h : Nat → Int32} {nd nc : Nat} {w : Int32} {now : Nat → Int32} (e1 : h 1 = nI nd) (e2 : h 2 = nI nc) (hd : nd ≤ 5) (hc : nc ≤ 6) (hw : ¬ w = 0) : ∀ (q j k : Nat), j + q = nc → q < k → f_X8_goesOn_2 h w k (nI j) (blw h nd j now) = f_X8_goesOn_73 h w fl_ 0 (blw h nd nc now) := by
  intro q
  induction q with
  | zero =>
    intro j k hj hk
    obtain ⟨k, rfl⟩ : ∃ z, k = z + 1 := ⟨k - 1, by omega⟩
    have : j = nc := by omega
    subst this
    rw [f_X8_goesOn_2]
    simp (disch := omega) only [rdL, Option.bind_some, e2, nI_leI, Nat.le_refl, if_true]
    rfl
  | succ q ih =>
    intro j k hj hk
    obtain ⟨k, rfl⟩ : ∃ z, k = z + 1 := ⟨k - 1, by omega⟩
    rw [f_X8_goesOn_2]
    have hn : ¬ nc ≤ j := by omega
    have ih' := ih (j + 1) k (by omega) (by omega)
    simp (disch := omega) only [rdL, Option.bind_some, e2, nI_leI, hn, if_false, hw, mulL, addL, rd_ok, m_roomOf, m_isDraughty e1 hd]
    unfold f_X8_goesOn_54 f_X8_goesOn_64
    simp (disch := omega) only [mulL, addL, addR, rd_ok, wr_ok, Option.bind_some]
    rw [blw] at ih'
    by_cases c1 : blw h nd j now (4 + 4 * j) = 0
    · rw [if_pos c1]
      cases c2 : drF h (blw h nd j now) (blw h nd j now (2 + 4 * j)) nd with
      | true => rw [if_neg (by decide)]; rw [if_pos ⟨c1, c2⟩] at ih'; exact ih'
      | false => rw [if_pos (by decide)]; rw [if_neg (by rw [c2]; simp)] at ih'; exact ih'
    · rw [if_neg c1]
      rw [if_neg (fun q => c1 q.1)] at ih'; exact ih'
theorem m_goesOn_0 {h : Nat → Int32} {nc : Nat} {now : Nat → Int32} (e2 : h 2 = nI nc) (hc : nc ≤ 6) : f_X8_goesOn_2 h 0 fl_ 0 now = f_X8_goesOn_73 h 0 fl_ 0 now := by
  obtain ⟨k, hk⟩ : ∃ z, fl_ = z + 1 := ⟨99999, rfl⟩
  rw [hk, f_X8_goesOn_2]
  simp (disch := omega) only [rdL, Option.bind_some, e2, if_true]
  by_cases c : nI nc ≤ 0
  · rw [if_pos c, f_X8_goesOn_71, hk]
  · rw [if_neg c, f_X8_goesOn_71, hk]
/-- the model's acts -/
theorem m_253 {h : Nat → Int32} {w x : Int32} {kk : Int32 → (Nat → Int32) → Option (Nat → Int32)} {now : Nat → Int32} {a k : Nat} (hk : k < 47) : f_X8_goesOn_253 h w kk (nI a) x (nI k) now = kk (nI (a + 1)) (upd now k x) := by
  unfold f_X8_goesOn_253 f_X8_goesOn_254
  simp (disch := omega) only [wr_ok, Option.bind_some, addR]
theorem m_217 {h : Nat → Int32} {w v4 v6 s0 : Int32} {kk : Int32 → (Nat → Int32) → Option (Nat → Int32)} {now : Nat → Int32} {a k : Nat} (hk : k < 47) : f_X8_goesOn_217 h w kk (nI a) (nI k) v4 v6 s0 now = kk (nI (a + 1)) (upd now k (if v4 = 0 then 3 else if v6 = 0 then 1 else if s0 = 0 then 3 else 2)) := by
  unfold f_X8_goesOn_217 f_X8_goesOn_239 f_X8_goesOn_243
  simp (disch := omega) only [m_253]
  by_cases c1 : v4 = 0
  · simp only [c1, if_true]
  · by_cases c2 : v6 = 0
    · simp only [c1, c2, if_true, if_false]
    · by_cases c3 : s0 = 0
      · simp only [c1, c2, c3, if_true, if_false]
      · simp only [c1, c2, c3, if_false]
theorem m_187 {h : Nat → Int32} {w v4 v5 s0 : Int32} {kk : Int32 → (Nat → Int32) → Option (Nat → Int32)} {now : Nat → Int32} {a k : Nat} (hk : k < 47) (ha : a < 6) (h5 : v5 = 9 ∨ ixb v5 a) : f_X8_goesOn_187 h w kk (nI a) (nI k) v4 v5 s0 now = kk (nI (a + 1)) (upd now k (if v4 = 0 then 3 else if s0 = 0 then 1 else if v5 = 9 ∨ now (30 + 2 * tn v5) = 2 then 2 else 3)) := by
  unfold f_X8_goesOn_187 f_X8_goesOn_212
  simp (disch := omega) only [m_217]
  have e1 : ¬ (1 : Int32) = 0 := by decide
  have e0 : ((0 : Int32) = 0) := rfl
  rcases h5 with h5 | ⟨s, hs, h5⟩
  · subst h5
    simp only [if_true, true_or, e1, if_false]
  · subst h5
    have h9 : ¬ nI s = 9 := fun e => by
      have := (nI_eq (a := s) (b := 9) (by omega) (by decide)).mp e
      omega
    have et : tn (nI s) = s := tn_nI (by omega)
    simp (disch := omega) only [h9, if_false, mulL, addL, rd_ok, Option.bind_some, et, false_or]
    by_cases c : now (30 + 2 * s) = 2
    · simp only [c, if_true, e1, if_false]
    · simp only [c, if_false, if_true]
theorem m_act {h : Nat → Int32} {nr nd nc na nw : Nat} (hH : HH h nr nd nc na nw) {w : Int32} {now : Nat → Int32} {a : Nat} (ha : a < na) (kk : Int32 → (Nat → Int32) → Option (Nat → Int32)) :
    ((rd_ now 47 (30 + (2 * nI a))).bind fun x13 => if x13 = 1 then ((rd_ h 59 ((27 + (4 * nI a)) + 2)).bind fun x15 => (f_X8_isLight h now x15).bind fun q16 => (rd_ h 59 ((27 + (4 * nI a)) + 3)).bind fun x17 => (rd_ now 47 ((30 + (2 * nI a)) + 1)).bind fun x18 => if q16 = 0 then (f_X8_goesOn_153 h w kk (nI a) (30 + (2 * nI a)) q16 x17 0 x18 ((30 + (2 * nI a)) + 1) now) else (f_X8_goesOn_153 h w kk (nI a) (30 + (2 * nI a)) q16 x17 1 x18 ((30 + (2 * nI a)) + 1) now)) else (f_X8_goesOn_254 h w kk (nI a) now)) = kk (nI (a + 1)) (jd1 h nc a now) := by
  obtain ⟨⟨-, -, e2, -, -⟩, ⟨-, -, hc, hna, -⟩, -, -, hA, -⟩ := hH
  obtain ⟨-, -, -, hres⟩ := hA a ha
  simp (disch := omega) only [mulL, addL, addR, rd_ok, Option.bind_some]
  unfold jd1
  have e1 : ¬ (1 : Int32) = 0 := by decide
  by_cases c1 : now (30 + 2 * a) = 1
  · rw [if_pos c1, if_pos c1]
    simp (disch := omega) only [m_isLight e2 hc, Option.bind_some]
    cases c2 : ltF now (h (27 + 4 * a + 2)) nc with
    | false =>
      rw [if_pos (by decide), if_neg (by decide)]
      unfold f_X8_goesOn_153 f_X8_goesOn_186
      simp (disch := omega) only [wr_ok, Option.bind_some]
      have ez : now (30 + 2 * a + 1) + 0 = now (30 + 2 * a + 1) := Int32.add_zero _
      rw [ez, upd_self, if_pos (by decide), m_187 (by omega) (by omega) hres, if_pos (by decide)]
    | true =>
      rw [if_neg (by decide), if_pos rfl]
      unfold f_X8_goesOn_153 f_X8_goesOn_186
      simp (disch := omega) only [wr_ok, Option.bind_some, addR, rd_ok, pk_us, mulL, addL]
      have eb : ¬ b2i true = 0 := by decide
      rw [if_neg eb]
      have hsub : ∀ v : Int32, (h (27 + 4 * a + 3) = 9 ∨ upd now (30 + 2 * a + 1) v (30 + 2 * tn (h (27 + 4 * a + 3))) = 2) = (h (27 + 4 * a + 3) = 9 ∨ now (30 + 2 * tn (h (27 + 4 * a + 3))) = 2) := fun v => by rw [pk_un (by omega)]
      by_cases c3 : now (30 + 2 * a + 1) + 1 = h (27 + 4 * a)
      · rw [if_pos c3, if_pos c3, m_187 (by omega) (by omega) hres, if_neg eb, if_neg e1]
        simp only [hsub]
      · rw [if_neg c3, if_neg c3, m_187 (by omega) (by omega) hres, if_neg eb, if_pos rfl]
  · rw [if_neg c1, if_neg c1]
    unfold f_X8_goesOn_254
    simp only [addR]
theorem m_acts_loop {h : Nat → Int32} {nr nd nc na nw : Nat} (hH : HH h nr nd nc na nw) {w : Int32} {now : Nat → Int32} : ∀ (q j k : Nat), j + q = na → q < k → f_X8_goesOn_73 h w k (nI j) (jdg h nc j now) = f_X8_goesOn_262 h w fl_ 0 (jdg h nc na now) := by
  have e3 : h 3 = nI na := hH.1.2.2.2.1
  have hna : na ≤ 6 := hH.2.1.2.2.2.1
  intro q
  induction q with
  | zero =>
    intro j k hj hk
    obtain ⟨k, rfl⟩ : ∃ z, k = z + 1 := ⟨k - 1, by omega⟩
    have : j = na := by omega
    subst this
    rw [f_X8_goesOn_73]
    simp (disch := omega) only [rdL, Option.bind_some, e3, nI_leI, Nat.le_refl, if_true]
  | succ q ih =>
    intro j k hj hk
    obtain ⟨k, rfl⟩ : ∃ z, k = z + 1 := ⟨k - 1, by omega⟩
    rw [f_X8_goesOn_73, rdL (by omega) (by omega), Option.bind_some, e3, if_neg (by rw [nI_leI (by omega) (by omega)]; omega), m_act hH (by omega)]
    exact ih (j + 1) k (by omega) (by omega)
