/-! carries, minutes -/
def obF (h now : Nat → Int32) (r s : Int32) : Nat → Bool
  | 0 => false
  | d + 1 => obF h now r s d || (decide (now (25 + d) = 1) && ((decide (h (5 + 2 * d) = r) && decide (h (5 + 2 * d + 1) = s)) || (decide (h (5 + 2 * d) = s) && decide (h (5 + 2 * d + 1) = r))))
theorem c_ob_loop {h now t1 t2 : Nat → Int32} {nd : Nat} {r s : Int32} (hd : nd ≤ 5) (ht : ∀ d, d < nd → t1 d = h (5 + 2 * d) ∧ t2 d = h (5 + 2 * d + 1)) : ∀ (q j k : Nat), j + q = nd → q < k → obF h now r s j = false → f_X4_openBetween_2 (rowOf now) (nI nd) t1 t2 r s k (nI j) = some (b2i (obF h now r s nd)) := by
  have mono : ∀ i j, i ≤ j → obF h now r s i = true → obF h now r s j = true := by
    intro i j hij hi
    induction j with
    | zero => rw [show i = 0 by omega] at hi; exact hi
    | succ j ih =>
      by_cases e : i = j + 1
      · rw [← e]; exact hi
      · unfold obF; rw [ih (by omega)]; rfl
  intro q
  induction q with
  | zero =>
    intro j k hj hk hf
    obtain ⟨k, rfl⟩ : ∃ z, k = z + 1 := ⟨k - 1, by omega⟩
    have : j = nd := by omega
    subst this
    rw [f_X4_openBetween_2, if_pos ((nI_leI (by omega) (by omega)).mpr (Nat.le_refl _)), hf]; rfl
  | succ q ih =>
    intro j k hj hk hf
    obtain ⟨k, rfl⟩ : ∃ z, k = z + 1 := ⟨k - 1, by omega⟩
    have ih' := ih (j + 1) k (by omega) (by omega)
    obtain ⟨x1, x2⟩ := ht j (by omega)
    have hbit : f_X7_bit (rowOf now (OfNat.ofNat 3)) (nI j) = some (b2i (decide (now (25 + j) = 1))) := by
      show f_X7_bit (rowOf now 3) (nI j) = _
      rw [row_3, c_bit (mk_64 (by omega)) (by omega), mk_bit (by omega)]; rfl
    rw [f_X4_openBetween_2, if_neg (by rw [nI_leI (by omega) (by omega)]; omega)]
    unfold f_X4_openBetween_65 f_X4_openBetween_39 f_X4_openBetween_69 f_X4_openBetween_65 f_X4_openBetween_70 f_X4_openBetween_93
    rw [rd_ok (by omega) (by omega), rd_ok (by omega) (by omega), rdL (by omega) (by omega), x1, x2]
    simp only [Option.bind_some]
    rw [hbit]
    simp only [Option.bind_some, addR]
    have hs : obF h now r s (j + 1) = (decide (now (25 + j) = 1) && ((decide (h (5 + 2 * j) = r) && decide (h (5 + 2 * j + 1) = s)) || (decide (h (5 + 2 * j) = s) && decide (h (5 + 2 * j + 1) = r)))) := by
      rw [obF, hf, Bool.false_or]
    have e10 : ¬ (1 : Int32) = 0 := by decide
    have yes : obF h now r s (j + 1) = true → some (1 : Int32) = some (b2i (obF h now r s nd)) := fun hy => by
      rw [mono (j + 1) nd (by omega) hy]; rfl
    by_cases co : now (25 + j) = 1
    · have eo : (if b2i (decide (now (25 + j) = 1)) = 1 then some (1 : Int32) else f_X4_openBetween_2 (rowOf now) (nI nd) t1 t2 r s k (nI (j + 1))) = some 1 := if_pos (by rw [decide_eq_true co]; decide)
      rw [eo]
      simp only [e10, if_false, if_true]
      by_cases a1 : h (5 + 2 * j) = r
      · rw [if_pos a1]
        by_cases a2 : h (5 + 2 * j + 1) = s
        · rw [if_pos a2]; exact yes (by rw [hs]; simp [co, a1, a2])
        · rw [if_neg a2]
          by_cases a3 : h (5 + 2 * j) = s
          · rw [if_pos a3]
            by_cases a4 : h (5 + 2 * j + 1) = r
            · rw [if_pos a4]; exact yes (by rw [hs]; simp [co, a3, a4])
            · rw [if_neg a4]; exact ih' (by rw [hs]; simp [a2, a4])
          · rw [if_neg a3]; exact ih' (by rw [hs]; simp [a2, a3])
      · rw [if_neg a1]
        by_cases a3 : h (5 + 2 * j) = s
        · rw [if_pos a3]
          by_cases a4 : h (5 + 2 * j + 1) = r
          · rw [if_pos a4]; exact yes (by rw [hs]; simp [co, a3, a4])
          · rw [if_neg a4]; exact ih' (by rw [hs]; simp [a1, a4])
        · rw [if_neg a3]; exact ih' (by rw [hs]; simp [a1, a3])
    · have eo : (if b2i (decide (now (25 + j) = 1)) = 1 then some (1 : Int32) else f_X4_openBetween_2 (rowOf now) (nI nd) t1 t2 r s k (nI (j + 1))) = f_X4_openBetween_2 (rowOf now) (nI nd) t1 t2 r s k (nI (j + 1)) := if_neg (by rw [decide_eq_false co]; decide)
      rw [eo]
      simp only [e10, if_false, if_true, ite_self]
      exact ih' (by rw [hs]; simp [co])
theorem stp_cnt {h : Nat → Int32} {nc : Nat} {n0 : Nat → Int32} : ∀ {j : Nat}, pcn_ (fun i => decide (jdg h nc j n0 (30 + 2 * i) = 3)) j = pcn_ (fun i => decide (n0 (30 + 2 * i) = 3)) j + vds h nc j n0
  | 0 => rfl
  | j + 1 => by
    have ih := stp_cnt (h := h) (nc := nc) (n0 := n0) (j := j)
    have e : pcn_ (fun i => decide (jdg h nc (j + 1) n0 (30 + 2 * i) = 3)) j = pcn_ (fun i => decide (jdg h nc j n0 (30 + 2 * i) = 3)) j := pcn_ext (fun i hi => by
      show decide (jd1 h nc j (jdg h nc j n0) (30 + 2 * i) = 3) = _
      rw [jd1_out (by omega) (by omega)])
    have o1 : jdg h nc j n0 (30 + 2 * j) = n0 (30 + 2 * j) := jdg_out (fun a _ => by omega)
    rw [pcn_, e, ih, pcn_, vds, o1]
    by_cases c1 : n0 (30 + 2 * j) = 1
    · have n3 : ¬ n0 (30 + 2 * j) = 3 := by rw [c1]; decide
      by_cases c2 : jdg h nc (j + 1) n0 (30 + 2 * j) = 3
      · rw [if_pos (decide_eq_true c2), if_neg (by simp [n3]), if_pos ⟨c1, c2⟩]; omega
      · rw [if_neg (by simp [c2]), if_neg (by simp [n3]), if_neg (fun q => c2 q.2)]; omega
    · have es : jdg h nc (j + 1) n0 (30 + 2 * j) = n0 (30 + 2 * j) := by
        show jd1 h nc j (jdg h nc j n0) (30 + 2 * j) = _
        unfold jd1
        rw [if_neg (by rw [o1]; exact c1), o1]
      rw [es, if_neg (show ¬ (n0 (30 + 2 * j) = 1 ∧ n0 (30 + 2 * j) = 3) from fun q => c1 q.1)]
      omega
def cntV (na : Nat) (now : Nat → Int32) : Nat := pcn_ (fun i => decide (now (30 + 2 * i) = 3)) na
theorem cnt_stp {h now : Nat → Int32} {nd nc na : Nat} (hc : nc ≤ 6) (hna : na ≤ 6) (w : Bool) : cntV na (stp h nd nc na w now) = cntV na now + vds h nc na (if w then blw h nd nc now else now) := by
  unfold cntV
  have e1 : pcn_ (fun i => decide (stp h nd nc na w now (30 + 2 * i) = 3)) na = pcn_ (fun i => decide (jdg h nc na (if w then blw h nd nc now else now) (30 + 2 * i) = 3)) na := pcn_ext (fun i hi => by
    unfold stp
    show decide (upd (brn nc (jdg h nc na (if w then blw h nd nc now else now))) 0 _ (30 + 2 * i) = 3) = _
    rw [pk_un (by omega), brn_out hc (by omega) (fun c _ => by omega)])
  rw [e1, stp_cnt]
  congr 1
  refine pcn_ext (fun i hi => ?_)
  cases w with
  | true => show decide (blw h nd nc now (30 + 2 * i) = 3) = _; rw [blw_out (fun c _ => by omega)]
  | false => rfl
theorem cntV_le {na : Nat} {now : Nat → Int32} : cntV na now ≤ na := pcn_le _ na
/-- a minute by the house's own wind, on both sides -/
def nxt (h : Nat → Int32) (nd nc na nw : Nat) (m : Nat) (now : Nat → Int32) : Nat → Int32 := stp h nd nc na (wnd h nw m) now
theorem m_nxt {α : Type} {h now : Nat → Int32} {nr nd nc na nw m : Nat} (hH : HH h nr nd nc na nw) (hN : NI h nr nd nc na now) (hm : m < 2 ^ 31) (em : now 0 = nI m) (K : (Nat → Int32) → Option α) : ((rd_ now 47 0).bind fun x => (f_X8_isWind h x).bind fun q => (f_X8_goesOn h now q).bind K) = K (nxt h nd nc na nw m now) := by
  rw [rdL (by omega) (by omega), Option.bind_some]
  show ((f_X8_isWind h (now 0)).bind _) = _
  rw [em, m_isWind hH.1.2.2.2.2 hH.2.1.2.2.2.2 hm, Option.bind_some, m_goesOn hH (fun c hc => (hN.2.2.2.1 c hc).1), Option.bind_some]
  rfl
/-- the class's house, as far as a minute asks it -/
def HT (h : Nat → Int32) (nd na nw : Nat) (t1 t2 tnn tar trr twi : Nat → Int32) : Prop :=
  (∀ d, d < nd → t1 d = h (5 + 2 * d) ∧ t2 d = h (5 + 2 * d + 1)) ∧ (∀ a, a < na → tnn a = h (27 + 4 * a) ∧ tar a = h (27 + 4 * a + 2) ∧ trr a = h (27 + 4 * a + 3)) ∧ ∀ w, w < nw → twi w = h (51 + w)
theorem c_nxt {α : Type} {h now t1 t2 tnn tar trr twi : Nat → Int32} {nr nd nc na nw m : Nat} (hH : HH h nr nd nc na nw) (hT : HT h nd na nw t1 t2 tnn tar trr twi) (hN : NI h nr nd nc na now) (hm : m < 2 ^ 31) (em : now 0 = nI m) (K : Int32 × (Nat → Int32) → Option α) : ((f_X4_windBlows (rowOf now) (nI nw) twi).bind fun q => (f_X4_pass (rowOf now) (nI nd) (nI nc) (nI na) t1 t2 tnn tar trr q).bind K) = K (nI (vds h nc na (if wnd h nw m then blw h nd nc now else now)), rowOf (nxt h nd nc na nw m now)) := by
  rw [c_wind hH.2.1.2.2.2.2 hm em hT.2.2, Option.bind_some, c_pass hH hT.1 hT.2.1 hN, Option.bind_some]
  rfl
theorem NI_nxt {h now : Nat → Int32} {nr nd nc na nw m : Nat} (hH : HH h nr nd nc na nw) (hN : NI h nr nd nc na now) : NI h nr nd nc na (nxt h nd nc na nw m now) := NI_stp hH hN _
theorem nxt_0 {h now : Nat → Int32} {nd nc na nw m : Nat} (hc : nc ≤ 6) (em : now 0 = nI m) : nxt h nd nc na nw m now 0 = nI (m + 1) := by
  unfold nxt
  rw [stp_0 hc, em, nI_1]
theorem sub_add_l (a b c : Nat) : nI a - nI c + nI b = nI (a + b) - nI c := by
  rw [← nI_add, Int32.sub_eq_add_neg, Int32.sub_eq_add_neg, Int32.add_assoc, Int32.add_comm (-nI c), ← Int32.add_assoc]
theorem o_minutes {h now u t1 t2 tnn tar trr twi : Nat → Int32} {nr nd nc na nw sz nx : Nat} {rows : Nat → Nat → Int32} (hH : HH h nr nd nc na nw) (hT : HT h nd na nw t1 t2 tnn tar trr twi) (hS : ST h nr nd nc na sz nx now rows u) (v1 : Int32) : ∃ r now' sz' nx' rows' u', f_X7_minutes (nI nd) (nI nc) (nI na) (nI nw) t1 t2 tnn tar trr twi (rowOf now) (nI sz) (nI nx) rows v1 = some (r, rowOf now', nI sz', nI nx', rows') ∧ f_X8_minutes (nI sz) h now u v1 = some (r, nI sz', now', u') ∧ ST h nr nd nc na sz' nx' now' rows' u' := by
  obtain ⟨e0, e1, e2, e3, e4⟩ := hH.1
  obtain ⟨hnr, hnd, hnc, hna, hnw⟩ := hH.2.1
  obtain ⟨m, hm, em⟩ := hS.2.1
  unfold f_X7_minutes f_X8_minutes
  have ei : f_X8_in v1.toInt64 1 60 = some (b2i (rg v1 1 60)) := in_rg (by decide) (by decide)
  have ew : f_X7_within v1 1 60 = some (b2i (rg v1 1 60)) := wt_rg (by decide) (by decide)
  rw [ei, ew]
  simp only [Option.bind_some]
  cases c1 : rg v1 1 60 with
  | false => exact ⟨-1, now, sz, nx, rows, u, by rw [bf0], by rw [bf0], hS⟩
  | true =>
    obtain ⟨n, n1, n2, rfl⟩ := rg_t c1 (by decide)
    simp only [bt0]
    rw [c_minute, rdL (by omega) (by omega)]
    simp only [Option.bind_some]
    have emn : now (OfNat.ofNat 0) = nI m := em
    rw [emn, nI_add]
    have hcnd : (nI (m + n) ≤ 999) ↔ m + n ≤ 999 := nI_leI (b := 999) (by omega) (by decide)
    by_cases c2 : m + n ≤ 999
    · rw [if_pos (hcnd.mpr c2), if_pos (hcnd.mpr c2), rdL (by omega) (by omega), Option.bind_some]
      have hmany : ∀ z : Nat → Int32, f_X8_many z 30 2 (h (OfNat.ofNat 3)) 3 = some (nI (cntV na z)) := fun z => by
        show f_X8_many z (nI 30) (nI 2) (h 3) 3 = _
        rw [e3]; exact m_many hna (fun k hk => by omega)
      rw [hmany, Option.bind_some]
      have loop : ∀ (q j k : Nat), j + q = n → q < k → ∀ (nw_ : Nat → Int32) (sz nx : Nat) (rows : Nat → Nat → Int32) (u : Nat → Int32), ST h nr nd nc na sz nx nw_ rows u → nw_ 0 = nI (m + j) → ∃ r now' sz' nx' rows' u', f_X7_minutes_34 (nI nd) (nI nc) (nI na) (nI nw) t1 t2 tnn tar trr twi (nI n) k (nI (cntV na nw_) - nI (cntV na now)) (nI j) (rowOf nw_) (nI sz) (nI nx) rows = some (r, rowOf now', nI sz', nI nx', rows') ∧ f_X8_minutes_48 h (nI n) k (nI (cntV na now)) (nI j) (nI sz) nw_ u = some (r, nI sz', now', u') ∧ ST h nr nd nc na sz' nx' now' rows' u' := by
        intro q
        induction q with
        | zero =>
          intro j k hj hk nw_ sz nx rows u hS hz
          obtain ⟨k, rfl⟩ : ∃ z, k = z + 1 := ⟨k - 1, by omega⟩
          have : j = n := by omega
          subst this
          rw [f_X7_minutes_34, f_X8_minutes_48, if_pos ((nI_leI (by omega) (by omega)).mpr (Nat.le_refl _)), if_pos ((nI_leI (by omega) (by omega)).mpr (Nat.le_refl _)), rdL (by omega) (by omega), Option.bind_some, hmany, Option.bind_some]
          exact ⟨_, nw_, sz, nx, rows, u, rfl, rfl, hS⟩
        | succ q ih =>
          intro j k hj hk nw_ sz nx rows u hS hz
          obtain ⟨k, rfl⟩ : ∃ z, k = z + 1 := ⟨k - 1, by omega⟩
          have hlt : ¬ nI n ≤ nI j := by rw [nI_leI (by omega) (by omega)]; omega
          obtain ⟨sz', nx', rows', u', q1, q2, q3⟩ := both_note hH hS
          rw [f_X7_minutes_34, f_X8_minutes_48, if_neg hlt, if_neg hlt, q1, q2]
          simp only [Option.bind_some]
          rw [m_nxt hH hS.1 (by omega) hz, c_nxt hH hT hS.1 (by omega) hz]
          have hS' : ST h nr nd nc na sz' nx' (nxt h nd nc na nw (m + j) nw_) rows' u' := ⟨NI_nxt hH hS.1, ⟨m + j + 1, by omega, nxt_0 hnc hz⟩, q3⟩
          have ih' := ih (j + 1) k (by omega) (by omega) _ sz' nx' rows' u' hS' (nxt_0 hnc hz)
          have ec : cntV na (nxt h nd nc na nw (m + j) nw_) = cntV na nw_ + vds h nc na (if wnd h nw (m + j) then blw h nd nc nw_ else nw_) := cnt_stp hnc hna _
          rw [ec, ← sub_add_l] at ih'
          simp only [addR]
          exact ih'
      have l0 := loop n 0 fl_ (by omega) (fl_lt (by omega)) now sz nx rows u hS em
      rw [Int32.sub_self] at l0
      exact l0
    · rw [if_neg (fun q => c2 (hcnd.mp q)), if_neg (fun q => c2 (hcnd.mp q))]
      exact ⟨-2, now, sz, nx, rows, u, rfl, rfl, hS⟩
