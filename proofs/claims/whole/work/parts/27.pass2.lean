/-! the class's minute, whole -/
theorem c_blow_loop {h : Nat → Int32} {nd nc : Nat} {td : Int32} {ta1 ta2 now : Nat → Int32} (hc : nc ≤ 6) (hr : ∀ c, c < nc → ixb (now (2 + 4 * c)) 5) (hs : ∀ c, c < 6 → now (4 + 4 * c) = 0 ∨ now (4 + 4 * c) = 1) : ∀ (q j k : Nat), j + q = nc → q < k → f_X4_blowOut_7 td (nI nc) ta1 ta2 k (nI (mk_ (fun r => drF h now (nI r) nd) 6)) (nI j) (rowOf (blw h nd j now)) = some (rowOf (blw h nd nc now)) := by
  intro q
  induction q with
  | zero =>
    intro j k hj hk
    obtain ⟨k, rfl⟩ : ∃ z, k = z + 1 := ⟨k - 1, by omega⟩
    have : j = nc := by omega
    subst this
    rw [f_X4_blowOut_7]
    simp (disch := omega) only [nI_leI, Nat.le_refl, if_true]
  | succ q ih =>
    intro j k hj hk
    obtain ⟨k, rfl⟩ : ∃ z, k = z + 1 := ⟨k - 1, by omega⟩
    have ih' := ih (j + 1) k (by omega) (by omega)
    obtain ⟨x, hx5, ex⟩ := hr j (by omega)
    have er : blw h nd j now (2 + 4 * j) = nI x := (blw_out (fun c _ => by omega)).trans ex
    have es : blw h nd j now (4 + 4 * j) = now (4 + 4 * j) := blw_out (fun c _ => by omega)
    have ed : drF h (blw h nd j now) (nI x) nd = drF h now (nI x) nd := drF_ext (fun d _ => blw_out (fun c _ => by omega))
    rw [f_X4_blowOut_7, if_neg (by rw [nI_leI (by omega) (by omega)]; omega), c_roomOf (by omega), Option.bind_some, er, c_bit (mk_64 (by omega)) (by omega), Option.bind_some, mk_bit (by omega)]
    unfold f_X4_blowOut_58
    rw [blw, er, es, ed] at ih'
    cases c1 : drF h now (nI x) nd with
    | true =>
      rw [if_pos (by decide), rdL (by omega) (by omega), Option.bind_some]
      show ((f_X7_bit (rowOf (blw h nd j now) 2) (nI j)).bind _) = _
      rw [row_2, c_bit (mk_64 (by omega)) (by omega), Option.bind_some, mk_bit (by omega)]
      rcases hs j (by omega) with c2 | c2
      · have cb : shdB (blw h nd j now) j = false := by unfold shdB; rw [es, c2]; decide
        rw [cb, if_pos (by decide), rdL (by omega) (by omega), Option.bind_some]
        rw [if_pos ⟨c2, c1⟩] at ih'
        rw [wrL (by omega) (by omega), Option.bind_some]
        show f_X4_blowOut_7 _ _ _ _ _ _ (nI j + 1) (upd (rowOf (blw h nd j now)) 1 (rowOf (blw h nd j now) 1 &&& _)) = _
        rw [row_1, shl_d j (by omega), clr_d _ (mk_64 (by omega)) j (by omega), ← lit_clr (by omega), ← rowu_lit j (by omega)]
        simp only [addR]
        exact ih'
      · have cb : shdB (blw h nd j now) j = true := by unfold shdB; rw [es, c2]; decide
        rw [cb, if_neg (by decide)]
        rw [if_neg (fun q => absurd (c2.symm.trans q.1) (by decide)), upd_self] at ih'
        simp only [addR]
        exact ih'
    | false =>
      rw [if_neg (by decide)]
      rw [if_neg (by rw [c1]; simp), upd_self] at ih'
      simp only [addR]
      exact ih'
theorem c_blow {h : Nat → Int32} {nd nc : Nat} {ta1 ta2 now : Nat → Int32} (hd : nd ≤ 5) (hc : nc ≤ 6) (ht : ∀ d, d < nd → ta1 d = h (5 + 2 * d) ∧ ta2 d = h (5 + 2 * d + 1)) (hx : ∀ d, d < nd → ixb (h (5 + 2 * d)) 5 ∧ ixb (h (5 + 2 * d + 1)) 5) (hr : ∀ c, c < nc → ixb (now (2 + 4 * c)) 5) (hs : ∀ c, c < 6 → now (4 + 4 * c) = 0 ∨ now (4 + 4 * c) = 1) : f_X4_blowOut (rowOf now) (nI nd) (nI nc) ta1 ta2 = some (rowOf (blw h nd nc now)) := by
  unfold f_X4_blowOut
  rw [c_draughty hd ht hx, Option.bind_some]
  exact c_blow_loop hc hr hs nc 0 fl_ (by omega) (fl_lt (by omega))
theorem c_judge {h : Nat → Int32} {nc na a kh nn : Nat} {tn_ tr_ now : Nat → Int32} (ha : a < 6) (haa : a < na) (e1 : now (30 + 2 * a) = 1) (ek : now (30 + 2 * a + 1) = nI kh) (hk : kh < nn) (hn : nn ≤ 20) (en : h (27 + 4 * a) = nI nn) (et : tn_ a = h (27 + 4 * a)) (er : tr_ a = h (27 + 4 * a + 3)) (hres : h (27 + 4 * a + 3) = 9 ∨ ixb (h (27 + 4 * a + 3)) a) : f_X4_judge (rowOf now) tn_ tr_ (nI a) (b2i (ltF now (h (27 + 4 * a + 2)) nc)) = some (rowOf (jd1 h nc a now)) := by
  unfold f_X4_judge jd1
  rw [if_pos e1]
  have e1' : ¬ (1 : Int32) = 0 := by decide
  cases c2 : ltF now (h (27 + 4 * a + 2)) nc with
  | false =>
    rw [if_pos (by decide), if_neg (by decide)]
    simp (disch := omega) only [addL, wr_ok, Option.bind_some]
    rw [rowu_s a ha]
  | true =>
    rw [if_neg (by decide), if_pos rfl]
    simp (disch := omega) only [addL, rd_ok, wr_ok, Option.bind_some, row_h, pk_us]
    rw [← rowu_h a ha]
    simp (disch := omega) only [rd_ok, Option.bind_some, et, er]
    rw [ek, en, nI_1]
    by_cases c3 : kh + 1 < nn
    · have hne : ¬ nI (kh + 1) = nI nn := fun e => by have := (nI_eq (by omega) (by omega)).mp e; omega
      rw [if_pos ((nI_ltI (by omega) (by omega)).mpr c3), if_neg hne]
      have e5 : upd (upd now (30 + 2 * a + 1) (nI (kh + 1))) (30 + 2 * a) 1 = upd now (30 + 2 * a + 1) (nI (kh + 1)) := by
        have : upd now (30 + 2 * a + 1) (nI (kh + 1)) (30 + 2 * a) = 1 := by rw [pk_un (by omega), e1]
        rw [← this]; exact upd_self _ _
      rw [e5]
    · have heq : kh + 1 = nn := by omega
      rw [if_neg (fun q => c3 ((nI_ltI (by omega) (by omega)).mp q)), if_pos (show nI (kh + 1) = nI nn by rw [heq])]
      unfold f_X4_judge_74 f_X4_judge_79 f_X4_judge_99
      simp (disch := omega) only [addL, wr_ok, Option.bind_some]
      rcases hres with h9 | ⟨s, hs, es⟩
      · rw [if_pos h9, if_neg e1', if_pos (Or.inl h9), ← rowu_s a ha]
      · have h9 : ¬ h (27 + 4 * a + 3) = 9 := fun e => by
          rw [es] at e
          have := (nI_eq (a := s) (b := 9) (by omega) (by decide)).mp e
          omega
        have ets : tn (nI s) = s := tn_nI (by omega)
        rw [if_neg h9, es, c_stage (by omega), Option.bind_some, pk_un (by omega), ets]
        rw [es] at h9
        by_cases c4 : now (30 + 2 * s) = 2
        · rw [if_pos c4, if_neg e1', if_pos (Or.inr c4), ← rowu_s a ha]
        · rw [if_neg c4, if_pos trivial, if_neg (fun q => q.elim h9 c4), ← rowu_s a ha]
def vds (h : Nat → Int32) (nc : Nat) : Nat → (Nat → Int32) → Nat
  | 0, _ => 0
  | a + 1, now => vds h nc a now + (if jdg h nc a now (30 + 2 * a) = 1 ∧ jdg h nc (a + 1) now (30 + 2 * a) = 3 then 1 else 0)
theorem vds_le {h : Nat → Int32} {nc : Nat} : ∀ {a : Nat} {now : Nat → Int32}, vds h nc a now ≤ a
  | 0, _ => Nat.le_refl _
  | a + 1, now => by
    have := vds_le (h := h) (nc := nc) (a := a) (now := now)
    unfold vds
    by_cases c : jdg h nc a now (30 + 2 * a) = 1 ∧ jdg h nc (a + 1) now (30 + 2 * a) = 3
    · rw [if_pos c]; omega
    · rw [if_neg c]; omega
theorem c_acts_loop {h : Nat → Int32} {nr nd nc na nw : Nat} (hH : HH h nr nd nc na nw) {tc : Int32} {tnn tar trr now : Nat → Int32} (hT : ∀ a, a < na → tnn a = h (27 + 4 * a) ∧ tar a = h (27 + 4 * a + 2) ∧ trr a = h (27 + 4 * a + 3)) (hN : ∀ a, a < na → now (30 + 2 * a) = 1 → ∃ kh nn, kh < nn ∧ nn ≤ 20 ∧ now (30 + 2 * a + 1) = nI kh ∧ h (27 + 4 * a) = nI nn) : ∀ (q j k : Nat), j + q = na → q < k → f_X4_judgeActs_9 tc (nI na) tnn tar trr k (nI (mk_ (fun r => ltF now (nI r) nc) 6)) (nI (vds h nc j now)) (nI j) (rowOf (jdg h nc j now)) = some (nI (vds h nc na now), rowOf (jdg h nc na now)) := by
  obtain ⟨hnr, -, hc, hna, -⟩ := hH.2.1
  intro q
  induction q with
  | zero =>
    intro j k hj hk
    obtain ⟨k, rfl⟩ : ∃ z, k = z + 1 := ⟨k - 1, by omega⟩
    have : j = na := by omega
    subst this
    rw [f_X4_judgeActs_9]
    simp (disch := omega) only [nI_leI, Nat.le_refl, if_true]
  | succ q ih =>
    intro j k hj hk
    obtain ⟨k, rfl⟩ : ∃ z, k = z + 1 := ⟨k - 1, by omega⟩
    have ih' := ih (j + 1) k (by omega) (by omega)
    have hja : j < na := by omega
    obtain ⟨-, -, ⟨x, hx, ex⟩, hres⟩ := hH.2.2.2.2.1 j hja
    obtain ⟨t1, t2, t3⟩ := hT j hja
    have o1 : jdg h nc j now (30 + 2 * j) = now (30 + 2 * j) := jdg_out (fun a _ => by omega)
    have o2 : jdg h nc j now (30 + 2 * j + 1) = now (30 + 2 * j + 1) := jdg_out (fun a _ => by omega)
    have ol : ltF (jdg h nc j now) (nI x) nc = ltF now (nI x) nc := ltF_ext (fun c _ => ⟨jdg_out (fun a _ => by omega), jdg_out (fun a _ => by omega)⟩)
    rw [f_X4_judgeActs_9, if_neg (by rw [nI_leI (by omega) (by omega)]; omega), c_stage (by omega), Option.bind_some, o1]
    by_cases c1 : now (30 + 2 * j) = 1
    · obtain ⟨kh, nn, k1, k2, k3, k4⟩ := hN j hja c1
      rw [if_pos c1, rd_ok (by omega) (by omega), Option.bind_some, t2, ex, c_bit (mk_64 (by omega)) (by omega), Option.bind_some, mk_bit (by omega)]
      have hj2 := c_judge (h := h) (nc := nc) (na := na) (a := j) (kh := kh) (nn := nn) (tn_ := tnn) (tr_ := trr) (now := jdg h nc j now) (by omega) hja (o1.trans c1) (o2.trans k3) k1 k2 k4 t1 t3 hres
      rw [ex, ol] at hj2
      have ev : vds h nc (j + 1) now = vds h nc j now + (if jdg h nc (j + 1) now (30 + 2 * j) = 3 then 1 else 0) := by
        rw [vds]
        congr 1
        by_cases c : jdg h nc (j + 1) now (30 + 2 * j) = 3
        · rw [if_pos c, if_pos ⟨o1.trans c1, c⟩]
        · rw [if_neg c, if_neg (fun q => c q.2)]
      rw [ev] at ih'
      have fin : ∀ z : Int32, z = b2i (ltF now (nI x) nc) → f_X4_judgeActs_53 tc (nI na) tnn tar trr (f_X4_judgeActs_9 tc (nI na) tnn tar trr k) (nI (mk_ (fun r => ltF now (nI r) nc) 6)) (nI (vds h nc j now)) (nI j) z (nI j) (rowOf (jdg h nc j now)) = some (nI (vds h nc na now), rowOf (jdg h nc na now)) := fun z hz => by
        subst hz
        unfold f_X4_judgeActs_53 f_X4_judgeActs_71 f_X4_judgeActs_73
        rw [hj2, Option.bind_some, c_stage (by omega), Option.bind_some]
        show (if jdg h nc (j + 1) now (30 + 2 * j) = 3 then _ else _) = _
        by_cases c : jdg h nc (j + 1) now (30 + 2 * j) = 3
        · rw [if_pos c]
          rw [if_pos c] at ih'
          simp only [addR]
          exact ih'
        · rw [if_neg c]
          rw [if_neg c] at ih'
          simp only [addR]
          exact ih'
      cases c2 : ltF now (nI x) nc with
      | true => rw [if_pos (by decide)]; exact fin 1 (by rw [c2]; rfl)
      | false => rw [if_neg (by decide)]; exact fin 0 (by rw [c2]; rfl)
    · rw [if_neg c1]
      unfold f_X4_judgeActs_73
      simp only [addR]
      have ej : jdg h nc (j + 1) now = jdg h nc j now := by
        show jd1 h nc j (jdg h nc j now) = _
        unfold jd1
        rw [if_neg (by rw [o1]; exact c1)]
      have ev : vds h nc (j + 1) now = vds h nc j now := by
        rw [vds, if_neg (fun q => c1 (o1.symm.trans q.1)), Nat.add_zero]
      rw [ev, ej] at ih'
      exact ih'
theorem c_burn1 {now : Nat → Int32} {tc : Int32} {c r l : Nat} (hc : c < 6) (hr : r < 5) (er : now (2 + 4 * c) = nI r) (hl : l ≤ 60) (el : now (1 + 4 * c) = nI l) (h1 : now (3 + 4 * c) = 1 → 1 ≤ l) (kk : Int32 → (Nat → Int32) → Option (Nat → Int32)) :
    ((rd_ (rowOf now) 33 1).bind fun x2 => (f_X7_bit x2 (nI c)).bind fun q3 => if q3 = 1 then ((rd_ (rowOf now) 33 (4 + nI c)).bind fun x5 => (wr_ (rowOf now) 33 (4 + nI c) (x5 - 1)).bind fun y6 => (f_X4_roomOf y6 (nI c)).bind fun q7 => (rd_ y6 33 (28 + q7)).bind fun x8 => (wr_ y6 33 (28 + q7) (x8 + 1)).bind fun y9 => (f_X4_left y9 (nI c)).bind fun q10 => if q10 = 0 then ((rd_ y9 33 1).bind fun x12 => (wr_ y9 33 1 (x12 &&& ((1 <<< (nI c &&& 31)) ^^^ ((-1))))).bind fun y13 => f_X4_burn_78 tc kk (nI c) y13) else (f_X4_burn_78 tc kk (nI c) y9)) else (f_X4_burn_78 tc kk (nI c) (rowOf now))) = kk (nI (c + 1)) (rowOf (br1 c now)) := by
  unfold br1 f_X4_burn_78
  have et : tn (now (2 + 4 * c)) = r := by rw [er]; exact tn_nI (by omega)
  rw [rdL (by omega) (by omega), Option.bind_some]
  show ((f_X7_bit (rowOf now 1) (nI c)).bind _) = _
  rw [row_1, c_bit (mk_64 (by omega)) (by omega), Option.bind_some, mk_bit (by omega)]
  by_cases c1 : now (3 + 4 * c) = 1
  · have cb : litB now c = true := by unfold litB; simp [c1]
    have hl1 := h1 c1
    rw [cb, if_pos (by decide), if_pos c1, et]
    simp (disch := omega) only [addL, rd_ok, wr_ok, Option.bind_some, row_l]
    rw [← rowu_l c hc, c_roomOf hc, Option.bind_some, pk_un (by omega), er]
    simp (disch := omega) only [addL, rd_ok, wr_ok, Option.bind_some, row_x]
    rw [← rowu_x r hr, c_left hc, Option.bind_some, pk_un (by omega), pk_us, pk_un (show 42 + r ≠ 1 + 4 * c by omega)]
    have e3 : now (1 + 4 * c) - 1 = nI (l - 1) := by
      rw [el]; exact pk_sub (a := l) (b := 1) hl1
    rw [e3]
    by_cases c2 : l - 1 = 0
    · rw [c2, if_pos (show nI 0 = 0 from rfl), if_pos (show nI 0 ≤ 0 by decide), rdL (by omega) (by omega), Option.bind_some]
      rw [wrL (by omega) (by omega), Option.bind_some]
      show kk (nI c + 1) (upd (rowOf _) 1 (rowOf _ 1 &&& _)) = _
      rw [row_1, shl_d c hc, clr_d _ (mk_64 (by omega)) c hc, ← lit_clr hc, ← rowu_lit c hc]
      simp only [addR]
    · rw [if_neg (show ¬ nI (l - 1) = 0 from fun q => c2 ((nI_eq (a := l - 1) (b := 0) (by omega) (by decide)).mp q)), if_neg (show ¬ nI (l - 1) ≤ 0 from fun q => by have := (nI_leI (a := l - 1) (b := 0) (by omega) (by decide)).mp q; omega)]
      simp only [addR]
      have e5 : ∀ n : Nat → Int32, n (3 + 4 * c) = 1 → upd n (3 + 4 * c) 1 = n := fun n hn => by rw [← hn]; exact upd_self _ _
      rw [e5 _ (by rw [pk_un (by omega), pk_un (by omega)]; exact c1)]
  · have cb : litB now c = false := by unfold litB; simp [c1]
    rw [cb, if_neg (by decide), if_neg c1]
    simp only [addR]
theorem c_burn_loop {nc : Nat} {now : Nat → Int32} (hc : nc ≤ 6) (hr : ∀ c, c < nc → ixb (now (2 + 4 * c)) 5) (hl : ∀ c, c < nc → ∃ l, l ≤ 60 ∧ now (1 + 4 * c) = nI l ∧ (now (3 + 4 * c) = 1 → 1 ≤ l)) : ∀ (q j k : Nat), j + q = nc → q < k → f_X4_burn_2 (nI nc) k (nI j) (rowOf (brn j now)) = some (rowOf (brn nc now)) := by
  intro q
  induction q with
  | zero =>
    intro j k hj hk
    obtain ⟨k, rfl⟩ : ∃ z, k = z + 1 := ⟨k - 1, by omega⟩
    have : j = nc := by omega
    subst this
    rw [f_X4_burn_2]
    simp (disch := omega) only [nI_leI, Nat.le_refl, if_true]
  | succ q ih =>
    intro j k hj hk
    obtain ⟨k, rfl⟩ : ∃ z, k = z + 1 := ⟨k - 1, by omega⟩
    obtain ⟨r, hr5, er⟩ := hr j (by omega)
    obtain ⟨l, hl6, el, h1⟩ := hl j (by omega)
    have o1 : brn j now (1 + 4 * j) = now (1 + 4 * j) := brn_out (by omega) (by omega) (fun c _ => by omega)
    have o2 : brn j now (2 + 4 * j) = now (2 + 4 * j) := brn_out (by omega) (by omega) (fun c _ => by omega)
    have o3 : brn j now (3 + 4 * j) = now (3 + 4 * j) := brn_out (by omega) (by omega) (fun c _ => by omega)
    rw [f_X4_burn_2, if_neg (by rw [nI_leI (by omega) (by omega)]; omega), c_burn1 (by omega) hr5 (o2.trans er) hl6 (o1.trans el) (fun q => h1 (o3.symm.trans q))]
    exact ih (j + 1) k (by omega) (by omega)
theorem blw_lit {h : Nat → Int32} {nd c : Nat} : ∀ {j : Nat} {now : Nat → Int32}, blw h nd j now (3 + 4 * c) = 0 ∨ blw h nd j now (3 + 4 * c) = now (3 + 4 * c)
  | 0, _ => Or.inr rfl
  | j + 1, now => by
    unfold blw
    by_cases e : c = j
    · subst e
      rw [pk_us]
      by_cases q : blw h nd c now (4 + 4 * c) = 0 ∧ drF h (blw h nd c now) (blw h nd c now (2 + 4 * c)) nd = true
      · rw [if_pos q]; exact Or.inl rfl
      · rw [if_neg q]; exact blw_lit
    · rw [pk_un (by omega)]; exact blw_lit
/-- what a night keeps -/
def NI (h : Nat → Int32) (nr nd nc na : Nat) (now : Nat → Int32) : Prop :=
  (∀ c, c < 6 → (now (3 + 4 * c) = 0 ∨ now (3 + 4 * c) = 1) ∧ (nc ≤ c → now (3 + 4 * c) = 0)) ∧
  (∀ c, c < 6 → (now (4 + 4 * c) = 0 ∨ now (4 + 4 * c) = 1) ∧ (nc ≤ c → now (4 + 4 * c) = 0)) ∧
  (∀ d, d < 5 → (now (25 + d) = 0 ∨ now (25 + d) = 1) ∧ (nd ≤ d → now (25 + d) = 0)) ∧
  (∀ c, c < nc → ixb (now (2 + 4 * c)) nr ∧ ∃ l, l ≤ 60 ∧ now (1 + 4 * c) = nI l ∧ (now (3 + 4 * c) = 1 → 1 ≤ l)) ∧
  (∀ a, a < na → ixb (now (30 + 2 * a)) 4 ∧ ∃ kh nn, kh ≤ nn ∧ nn ≤ 20 ∧ now (30 + 2 * a + 1) = nI kh ∧ h (27 + 4 * a) = nI nn ∧ (now (30 + 2 * a) = 0 → kh = 0) ∧ (now (30 + 2 * a) = 1 → kh < nn)) ∧
  (∀ c, nc ≤ c → c < 6 → now (1 + 4 * c) = 0)
theorem c_pass {h : Nat → Int32} {nr nd nc na nw : Nat} (hH : HH h nr nd nc na nw) {ta1 ta2 tnn tar trr now : Nat → Int32} (hD : ∀ d, d < nd → ta1 d = h (5 + 2 * d) ∧ ta2 d = h (5 + 2 * d + 1)) (hT : ∀ a, a < na → tnn a = h (27 + 4 * a) ∧ tar a = h (27 + 4 * a + 2) ∧ trr a = h (27 + 4 * a + 3)) (hN : NI h nr nd nc na now) (w : Bool) :
    f_X4_pass (rowOf now) (nI nd) (nI nc) (nI na) ta1 ta2 tnn tar trr (b2i w) = some (nI (vds h nc na (if w then blw h nd nc now else now)), rowOf (stp h nd nc na w now)) := by
  obtain ⟨hnr, hnd, hc, hna, -⟩ := hH.2.1
  obtain ⟨n1, n2, n3, n4, n5, -⟩ := hN
  have w5 : ∀ {x : Int32}, ixb x nr → ixb x 5 := fun ⟨j, hj, e⟩ => ⟨j, by omega, e⟩
  have key : ∀ n0 : Nat → Int32, (∀ c, c < nc → n0 (2 + 4 * c) = now (2 + 4 * c)) → (∀ c, c < nc → n0 (1 + 4 * c) = now (1 + 4 * c)) → (∀ c, c < nc → n0 (3 + 4 * c) = 1 → now (3 + 4 * c) = 1) → (∀ a, a < na → n0 (30 + 2 * a) = now (30 + 2 * a) ∧ n0 (30 + 2 * a + 1) = now (30 + 2 * a + 1)) →
      f_X4_pass_8 (nI nd) (nI nc) (nI na) ta1 ta2 tnn tar trr (b2i w) (rowOf n0) = some (nI (vds h nc na n0), rowOf (upd (brn nc (jdg h nc na n0)) 0 (brn nc (jdg h nc na n0) 0 + 1))) := by
    intro n0 k1 k2 k3 k4
    unfold f_X4_pass_8 f_X4_judgeActs
    have hr0 : ∀ c, c < nc → ixb (n0 (2 + 4 * c)) 5 := fun c hcc => by rw [k1 c hcc]; exact w5 (n4 c hcc).1
    rw [c_bright hc hr0, Option.bind_some]
    have hacts := c_acts_loop hH (tc := nI nc) (tnn := tnn) (tar := tar) (trr := trr) (now := n0) hT (fun a haa ha1 => by
      obtain ⟨-, kh, nn, q1, q2, q3, q4, -, q6⟩ := n5 a haa
      exact ⟨kh, nn, q6 ((k4 a haa).1.symm.trans ha1), q2, (k4 a haa).2.trans q3, q4⟩) na 0 fl_ (by omega) (fl_lt (by omega))
    have hacts' : f_X4_judgeActs_9 (nI nc) (nI na) tnn tar trr fl_ (nI (mk_ (fun r => ltF n0 (nI r) nc) 6)) 0 0 (rowOf n0) = some (nI (vds h nc na n0), rowOf (jdg h nc na n0)) := hacts
    rw [hacts', Option.bind_some]
    unfold f_X4_burn
    have hb := c_burn_loop (nc := nc) (now := jdg h nc na n0) hc (fun c hcc => by rw [jdg_out (fun a _ => by omega)]; exact hr0 c hcc) (fun c hcc => by
      obtain ⟨-, l, q1, q2, q3⟩ := n4 c hcc
      refine ⟨l, q1, ?_, fun q => ?_⟩
      · rw [jdg_out (fun a _ => by omega), k2 c hcc]; exact q2
      · rw [jdg_out (fun a _ => by omega)] at q
        exact q3 (k3 c hcc q)) nc 0 fl_ (by omega) (fl_lt (by omega))
    have hb' : f_X4_burn_2 (nI nc) fl_ 0 (rowOf (jdg h nc na n0)) = some (rowOf (brn nc (jdg h nc na n0))) := hb
    show ((f_X4_burn_2 (nI nc) fl_ 0 (rowOf (jdg h nc na n0))).bind _) = _
    rw [hb', Option.bind_some, rdL (by omega) (by omega), Option.bind_some, wrL (by omega) (by omega), Option.bind_some]
    show some (_, upd (rowOf _) 0 (rowOf _ 0 + 1)) = _
    rw [row_0, ← rowu_0]
  unfold f_X4_pass
  cases w with
  | true =>
    rw [if_neg (by decide), c_blow hnd hc hD (fun d hd => ⟨w5 (hH.2.2.1 d hd).1, w5 (hH.2.2.1 d hd).2⟩) (fun c hcc => w5 (n4 c hcc).1) (fun c hcc => (n2 c hcc).1), Option.bind_some]
    refine key _ (fun c _ => blw_out (fun c' _ => by omega)) (fun c _ => blw_out (fun c' _ => by omega)) (fun c hcc q => ?_) (fun a _ => ⟨blw_out (fun c' _ => by omega), blw_out (fun c' _ => by omega)⟩)
    rcases blw_lit (h := h) (nd := nd) (c := c) (j := nc) (now := now) with e | e
    · rw [e] at q; exact absurd q (by decide)
    · rw [e] at q; exact q
  | false =>
    rw [if_pos (by decide)]
    exact key _ (fun c _ => rfl) (fun c _ => rfl) (fun c _ q => q) (fun a _ => ⟨rfl, rfl⟩)
