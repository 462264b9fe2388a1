/-! ranges of arguments; calls that only read -/
def ixd (x : Int32) (n : Nat) : Bool := decide (0 ≤ x.toInt ∧ x.toInt < n)
def rg (x : Int32) (lo hi : Nat) : Bool := decide ((lo : Int) ≤ x.toInt ∧ x.toInt ≤ hi)
theorem ixd_t {x : Int32} {n : Nat} (h : ixd x n = true) (hn : n < 2 ^ 31) : ∃ j, j < n ∧ x = nI j := (ixb_iff hn).mpr (of_decide_eq_true h)
theorem rg_t {x : Int32} {lo hi : Nat} (h : rg x lo hi = true) (hn : hi < 2 ^ 30) : ∃ j, lo ≤ j ∧ j ≤ hi ∧ x = nI j := by
  have h := of_decide_eq_true h
  obtain ⟨j, hj, e⟩ := (ixb_iff (x := x) (n := hi + 1) (by omega)).mpr ⟨by omega, by omega⟩
  refine ⟨j, ?_, by omega, e⟩
  have := h.1
  rw [e, nI_toInt (by omega)] at this
  omega
theorem in64 {x : Int32} {a b : Int64} : f_X8_in x.toInt64 a b = some (b2i (decide (a.toInt ≤ x.toInt ∧ x.toInt ≤ b.toInt))) := by
  unfold f_X8_in
  have e : ∀ y : Int32, y.toInt64.toInt = y.toInt := fun y => Int32.toInt_toInt64 y
  by_cases h1 : x.toInt < a.toInt
  · rw [if_pos (by rw [lg_cmp_lt, Int64.lt_iff_toInt_lt, e]; exact h1), decide_eq_false (by omega)]; rfl
  · rw [if_neg (by rw [lg_cmp_lt, Int64.lt_iff_toInt_lt, e]; exact h1)]
    by_cases h2 : b.toInt < x.toInt
    · rw [if_pos (by rw [lg_cmp_gt, Int64.lt_iff_toInt_lt, e]; exact h2), decide_eq_false (by omega)]; rfl
    · rw [if_neg (by rw [lg_cmp_gt, Int64.lt_iff_toInt_lt, e]; exact h2), decide_eq_true (by omega)]; rfl
theorem in_rg {x : Int32} {lo hi : Nat} (h1 : (OfNat.ofNat lo : Nat) < 2 ^ 31) (h2 : (OfNat.ofNat hi : Nat) < 2 ^ 31) : f_X8_in x.toInt64 (no_index (OfNat.ofNat lo) : Int64) (no_index (OfNat.ofNat hi) : Int64) = some (b2i (rg x (OfNat.ofNat lo) (OfNat.ofNat hi))) := by
  rw [in64]
  have e1 : (OfNat.ofNat lo : Int64).toInt = lo := lN_toInt h1
  have e2 : (OfNat.ofNat hi : Int64).toInt = hi := lN_toInt h2
  rw [e1, e2]
  rfl
theorem wt_rg {x : Int32} {lo hi : Nat} (h1 : (OfNat.ofNat lo : Nat) < 2 ^ 31) (h2 : (OfNat.ofNat hi : Nat) < 2 ^ 31) : f_X7_within x (no_index (OfNat.ofNat lo) : Int32) (no_index (OfNat.ofNat hi) : Int32) = some (b2i (rg x (OfNat.ofNat lo) (OfNat.ofNat hi))) := by
  rw [within_spec]
  have e1 : (OfNat.ofNat lo : Int32).toInt = lo := nI_toInt h1
  have e2 : (OfNat.ofNat hi : Int32).toInt = hi := nI_toInt h2
  rw [e1, e2]
  unfold rg b2i
  by_cases c : (lo : Int) ≤ x.toInt ∧ x.toInt ≤ hi
  · rw [if_pos c]; exact congrArg some (if_pos (decide_eq_true c)).symm
  · rw [if_neg c]; exact congrArg some (if_neg (fun q => c (of_decide_eq_true q))).symm
theorem in_ix {x : Int32} {n : Nat} (hn : n < 2 ^ 30) : f_X8_in x.toInt64 0 ((nI n - 1).toInt64) = some (b2i (ixd x n)) := by
  rw [in64]
  have e1 : (0 : Int64).toInt = 0 := rfl
  rw [e1, Int32.toInt_toInt64, toInt_pred hn]
  unfold ixd
  congr 2
  rw [decide_eq_decide]
  constructor <;> intro h <;> omega
theorem wt_ix {x : Int32} {n : Nat} (hn : n < 2 ^ 30) : f_X7_within x 0 (nI n - 1) = some (b2i (ixd x n)) := by
  rw [within_spec]
  have e1 : (0 : Int32).toInt = 0 := rfl
  rw [e1, toInt_pred hn]
  unfold ixd b2i
  by_cases c : 0 ≤ x.toInt ∧ x.toInt < n
  · rw [if_pos (by omega), decide_eq_true c]; rfl
  · rw [if_neg (by omega), decide_eq_false c]; rfl
theorem m_isRoom {h : Nat → Int32} {n : Nat} {v : Int32} (e : h 0 = nI n) (hn : n < 2 ^ 30) : f_X8_isRoom h v = some (b2i (ixd v n)) := by
  unfold f_X8_isRoom
  rw [rdL (by omega) (by omega), Option.bind_some]
  show ((f_X8_in v.toInt64 0 ((h 0 - 1).toInt64)).bind _) = _
  rw [e, in_ix hn, Option.bind_some, zb_b, Option.bind_some]
theorem m_isDoor {h : Nat → Int32} {n : Nat} {v : Int32} (e : h 1 = nI n) (hn : n < 2 ^ 30) : f_X8_isDoor h v = some (b2i (ixd v n)) := by
  unfold f_X8_isDoor
  rw [rdL (by omega) (by omega), Option.bind_some]
  show ((f_X8_in v.toInt64 0 ((h 1 - 1).toInt64)).bind _) = _
  rw [e, in_ix hn, Option.bind_some, zb_b, Option.bind_some]
theorem m_isCandle {h : Nat → Int32} {n : Nat} {v : Int32} (e : h 2 = nI n) (hn : n < 2 ^ 30) : f_X8_isCandle h v = some (b2i (ixd v n)) := by
  unfold f_X8_isCandle
  rw [rdL (by omega) (by omega), Option.bind_some]
  show ((f_X8_in v.toInt64 0 ((h 2 - 1).toInt64)).bind _) = _
  rw [e, in_ix hn, Option.bind_some, zb_b, Option.bind_some]
theorem m_isAct {h : Nat → Int32} {n : Nat} {v : Int32} (e : h 3 = nI n) (hn : n < 2 ^ 30) : f_X8_isAct h v = some (b2i (ixd v n)) := by
  unfold f_X8_isAct
  rw [rdL (by omega) (by omega), Option.bind_some]
  show ((f_X8_in v.toInt64 0 ((h 3 - 1).toInt64)).bind _) = _
  rw [e, in_ix hn, Option.bind_some, zb_b, Option.bind_some]
theorem bf0 {α : Type} {A B : α} : (if b2i false = 0 then A else B) = A := if_pos (by decide)
theorem bt0 {α : Type} {A B : α} : (if b2i true = 0 then A else B) = B := if_neg (by decide)
theorem bf1 {α : Type} {A B : α} : (if b2i false = 1 then A else B) = B := if_neg (by decide)
theorem bt1 {α : Type} {A B : α} : (if b2i true = 1 then A else B) = A := if_pos (by decide)
/-- a number that none of the first ones is -/
theorem rg_f {x : Int32} {hi k : Nat} (h : rg x 0 hi = false) (hk : k ≤ hi) (hh : hi < 2 ^ 30) : ¬ x = nI k := fun e => by
  have h := of_decide_eq_false h
  rw [e, nI_toInt (by omega)] at h
  omega
theorem b2_eq {x : Int32} (h : x = 0 ∨ x = 1) : b2i (decide (x = 1)) = x := by
  rcases h with h | h
  · subst h; decide
  · subst h; decide
theorem o_candle {h now tl : Nat → Int32} {nr nd nc na nw : Nat} (hH : HH h nr nd nc na nw) (hN : NI h nr nd nc na now) (hL : ∀ c, c < nc → tl c = h (15 + 2 * c)) (v1 v2 : Int32) : ∃ r, f_X7_candle (nI nc) tl (rowOf now) v1 v2 = some r ∧ f_X8_candle h now v1 v2 = some r := by
  have e2 : h 2 = nI nc := hH.1.2.2.1
  have hc : nc ≤ 6 := hH.2.1.2.2.1
  unfold f_X7_candle f_X8_candle
  rw [wt_ix (by omega), m_isCandle e2 (by omega), in_rg (by omega) (by omega)]
  simp only [Option.bind_some]
  cases c1 : ixd v1 nc with
  | false => exact ⟨-1, by rw [bf0], by rw [bf0]⟩
  | true =>
    obtain ⟨c, hcn, rfl⟩ := ixd_t c1 (by omega)
    simp only [bt0]
    cases c2 : rg v2 0 4 with
    | false =>
      have f := fun k hk => rg_f (k := k) c2 hk (by decide)
      exact ⟨-1, by rw [if_neg (show ¬ v2 = 0 from f 0 (by decide)), if_neg (show ¬ v2 = 1 from f 1 (by decide)), if_neg (show ¬ v2 = 2 from f 2 (by decide)), if_neg (show ¬ v2 = 3 from f 3 (by decide)), if_neg (show ¬ v2 = 4 from f 4 (by decide))], by rw [bf0]⟩
    | true =>
      obtain ⟨j, -, hj, rfl⟩ := rg_t c2 (by decide)
      rw [bt0]
      have hlit : f_X7_bit (rowOf now 1) (nI c) = some (now (3 + 4 * c)) := by
        rw [row_1, c_bit (mk_64 (by omega)) (by omega), mk_bit (by omega)]
        exact congrArg some (b2_eq (hN.1 c (by omega)).1)
      have hshd : f_X7_bit (rowOf now 2) (nI c) = some (now (4 + 4 * c)) := by
        rw [row_2, c_bit (mk_64 (by omega)) (by omega), mk_bit (by omega)]
        exact congrArg some (b2_eq (hN.2.1 c (by omega)).1)
      match j, hj with
      | 0, _ =>
        refine ⟨h (15 + 2 * c), ?_, ?_⟩
        · rw [show nI 0 = (0 : Int32) from rfl, if_pos rfl, rd_ok (by omega) (by omega), Option.bind_some, hL c hcn]
        · rw [show nI 0 = (0 : Int32) from rfl, if_pos rfl, mulL, addL, rd_ok (by omega) (by omega), Option.bind_some]
      | 1, _ =>
        refine ⟨now (1 + 4 * c), ?_, ?_⟩
        · rw [show nI 1 = (1 : Int32) from rfl, if_neg (by decide), if_pos rfl, c_left (by omega), Option.bind_some]
        · rw [show nI 1 = (1 : Int32) from rfl, if_neg (by decide), mulL, addR, rd_ok (by omega) (by omega), Option.bind_some, Nat.add_comm]
      | 2, _ =>
        refine ⟨now (2 + 4 * c), ?_, ?_⟩
        · rw [show nI 2 = (2 : Int32) from rfl, if_neg (by decide), if_neg (by decide), if_pos rfl, c_roomOf (by omega), Option.bind_some]
        · rw [show nI 2 = (2 : Int32) from rfl, if_neg (by decide), mulL, addR, rd_ok (by omega) (by omega), Option.bind_some, Nat.add_comm]
      | 3, _ =>
        refine ⟨now (3 + 4 * c), ?_, ?_⟩
        · rw [show nI 3 = (3 : Int32) from rfl, if_neg (by decide), if_neg (by decide), if_neg (by decide), if_pos rfl, rdL (by omega) (by omega), Option.bind_some]
          show ((f_X7_bit (rowOf now 1) (nI c)).bind _) = _
          rw [hlit, Option.bind_some]
        · rw [show nI 3 = (3 : Int32) from rfl, if_neg (by decide), mulL, addR, rd_ok (by omega) (by omega), Option.bind_some, Nat.add_comm]
      | 4, _ =>
        refine ⟨now (4 + 4 * c), ?_, ?_⟩
        · rw [show nI 4 = (4 : Int32) from rfl, if_neg (by decide), if_neg (by decide), if_neg (by decide), if_neg (by decide), if_pos rfl, rdL (by omega) (by omega), Option.bind_some]
          show ((f_X7_bit (rowOf now 2) (nI c)).bind _) = _
          rw [hshd, Option.bind_some]
        · rw [show nI 4 = (4 : Int32) from rfl, if_neg (by decide), mulL, addR, rd_ok (by omega) (by omega), Option.bind_some, Nat.add_comm]
      | j + 5, hj => omega
theorem o_door {h now t1 t2 : Nat → Int32} {nr nd nc na nw : Nat} (hH : HH h nr nd nc na nw) (hN : NI h nr nd nc na now) (hL : ∀ d, d < nd → t1 d = h (5 + 2 * d) ∧ t2 d = h (5 + 2 * d + 1)) (v1 v2 : Int32) : ∃ r, f_X7_door (nI nd) t1 t2 (rowOf now) v1 v2 = some r ∧ f_X8_door h now v1 v2 = some r := by
  have e2 : h 1 = nI nd := hH.1.2.1
  have hc : nd ≤ 5 := hH.2.1.2.1
  unfold f_X7_door f_X8_door
  rw [wt_ix (by omega), m_isDoor e2 (by omega), in_rg (by omega) (by omega)]
  simp only [Option.bind_some]
  cases c1 : ixd v1 nd with
  | false => exact ⟨-1, by rw [bf0], by rw [bf0]⟩
  | true =>
    obtain ⟨d, hdn, rfl⟩ := ixd_t c1 (by omega)
    simp only [bt0]
    cases c2 : rg v2 0 2 with
    | false =>
      have f := fun k hk => rg_f (k := k) c2 hk (by decide)
      exact ⟨-1, by rw [if_neg (show ¬ v2 = 0 from f 0 (by decide)), if_neg (show ¬ v2 = 1 from f 1 (by decide)), if_neg (show ¬ v2 = 2 from f 2 (by decide))], by rw [bf0]⟩
    | true =>
      obtain ⟨j, -, hj, rfl⟩ := rg_t c2 (by decide)
      rw [bt0]
      have hopn : f_X7_bit (rowOf now 3) (nI d) = some (now (25 + d)) := by
        rw [row_3, c_bit (mk_64 (by omega)) (by omega), mk_bit (by omega)]
        exact congrArg some (b2_eq (hN.2.2.1 d (by omega)).1)
      match j, hj with
      | 0, _ =>
        refine ⟨h (5 + 2 * d), ?_, ?_⟩
        · rw [show nI 0 = (0 : Int32) from rfl, if_pos rfl, rd_ok (by omega) (by omega), Option.bind_some, (hL d hdn).1]
        · rw [show nI 0 = (0 : Int32) from rfl, if_neg (by decide), mulL, addL, addR, rd_ok (by omega) (by omega), Option.bind_some]
          rfl
      | 1, _ =>
        refine ⟨h (5 + 2 * d + 1), ?_, ?_⟩
        · rw [show nI 1 = (1 : Int32) from rfl, if_neg (by decide), if_pos rfl, rd_ok (by omega) (by omega), Option.bind_some, (hL d hdn).2]
        · rw [show nI 1 = (1 : Int32) from rfl, if_neg (by decide), mulL, addL, addR, rd_ok (by omega) (by omega), Option.bind_some]
      | 2, _ =>
        refine ⟨now (25 + d), ?_, ?_⟩
        · rw [show nI 2 = (2 : Int32) from rfl, if_neg (by decide), if_neg (by decide), if_pos rfl, rdL (by omega) (by omega), Option.bind_some]
          show ((f_X7_bit (rowOf now 3) (nI d)).bind _) = _
          rw [hopn, Option.bind_some]
        · rw [show nI 2 = (2 : Int32) from rfl, if_pos rfl, addL, rd_ok (by omega) (by omega), Option.bind_some]
      | j + 3, hj => omega
theorem o_act {h now tn1 tw tr ts : Nat → Int32} {nr nd nc na nw : Nat} (hH : HH h nr nd nc na nw) (hL : ∀ a, a < na → tn1 a = h (27 + 4 * a) ∧ tw a = h (27 + 4 * a + 1) ∧ tr a = h (27 + 4 * a + 2) ∧ ts a = h (27 + 4 * a + 3)) (v1 v2 : Int32) : ∃ r, f_X7_act (nI na) tn1 tw tr ts (rowOf now) v1 v2 = some r ∧ f_X8_act h now v1 v2 = some r := by
  have e2 : h 3 = nI na := hH.1.2.2.2.1
  have hc : na ≤ 6 := hH.2.1.2.2.2.1
  unfold f_X7_act f_X8_act
  rw [wt_ix (by omega), m_isAct e2 (by omega), in_rg (by omega) (by omega)]
  simp only [Option.bind_some]
  cases c1 : ixd v1 na with
  | false => exact ⟨-1, by rw [bf0], by rw [bf0]⟩
  | true =>
    obtain ⟨a, han, rfl⟩ := ixd_t c1 (by omega)
    obtain ⟨l1, l2, l3, l4⟩ := hL a han
    simp only [bt0]
    cases c2 : rg v2 0 5 with
    | false =>
      have f := fun k hk => rg_f (k := k) c2 hk (by decide)
      exact ⟨-1, by rw [if_neg (show ¬ v2 = 0 from f 0 (by decide)), if_neg (show ¬ v2 = 1 from f 1 (by decide)), if_neg (show ¬ v2 = 2 from f 2 (by decide)), if_neg (show ¬ v2 = 3 from f 3 (by decide)), if_neg (show ¬ v2 = 4 from f 4 (by decide)), if_neg (show ¬ v2 = 5 from f 5 (by decide))], by rw [bf0]⟩
    | true =>
      obtain ⟨j, -, hj, rfl⟩ := rg_t c2 (by decide)
      rw [bt0]
      match j, hj with
      | 0, _ =>
        refine ⟨h (27 + 4 * a), ?_, ?_⟩
        · rw [show nI 0 = (0 : Int32) from rfl, if_pos rfl, rd_ok (by omega) (by omega), Option.bind_some, l1]
        · rw [show nI 0 = (0 : Int32) from rfl, if_neg (by decide), mulL, addL, addR, rd_ok (by omega) (by omega), Option.bind_some]
          rfl
      | 1, _ =>
        refine ⟨h (27 + 4 * a + 1), ?_, ?_⟩
        · rw [show nI 1 = (1 : Int32) from rfl, if_neg (by decide), if_pos rfl, rd_ok (by omega) (by omega), Option.bind_some, l2]
        · rw [show nI 1 = (1 : Int32) from rfl, if_neg (by decide), mulL, addL, addR, rd_ok (by omega) (by omega), Option.bind_some]
      | 2, _ =>
        refine ⟨h (27 + 4 * a + 2), ?_, ?_⟩
        · rw [show nI 2 = (2 : Int32) from rfl, if_neg (by decide), if_neg (by decide), if_pos rfl, rd_ok (by omega) (by omega), Option.bind_some, l3]
        · rw [show nI 2 = (2 : Int32) from rfl, if_neg (by decide), mulL, addL, addR, rd_ok (by omega) (by omega), Option.bind_some]
      | 3, _ =>
        refine ⟨h (27 + 4 * a + 3), ?_, ?_⟩
        · rw [show nI 3 = (3 : Int32) from rfl, if_neg (by decide), if_neg (by decide), if_neg (by decide), if_pos rfl, rd_ok (by omega) (by omega), Option.bind_some, l4]
        · rw [show nI 3 = (3 : Int32) from rfl, if_neg (by decide), mulL, addL, addR, rd_ok (by omega) (by omega), Option.bind_some]
      | 4, _ =>
        refine ⟨now (30 + 2 * a), ?_, ?_⟩
        · rw [show nI 4 = (4 : Int32) from rfl, if_neg (by decide), if_neg (by decide), if_neg (by decide), if_neg (by decide), if_pos rfl, c_stage (by omega), Option.bind_some]
        · rw [show nI 4 = (4 : Int32) from rfl, if_pos (by decide), mulL, addL, addR, show (4 : Int32) = nI 4 from rfl, pk_sub (by omega), Nat.add_sub_cancel, rd_ok (by omega) (by omega), Option.bind_some]
      | 5, _ =>
        refine ⟨now (30 + 2 * a + 1), ?_, ?_⟩
        · rw [show nI 5 = (5 : Int32) from rfl, if_neg (by decide), if_neg (by decide), if_neg (by decide), if_neg (by decide), if_neg (by decide), if_pos rfl, addL, rd_ok (by omega) (by omega), Option.bind_some, row_h now (by omega)]
        · rw [show nI 5 = (5 : Int32) from rfl, if_pos (by decide), mulL, addL, addR, show (4 : Int32) = nI 4 from rfl, pk_sub (by omega), rd_ok (by omega) (by omega), Option.bind_some]
          rfl
      | j + 6, hj => omega
theorem o_count {h : Nat → Int32} {nr nd nc na nw : Nat} (hH : HH h nr nd nc na nw) (xb ps bp v1 : Int32) : ∃ r, f_X7_count xb (nI nr) (nI nd) (nI nc) (nI na) (nI nw) ps bp v1 = some r ∧ f_X8_count xb ps bp h v1 = some r := by
  obtain ⟨e0, e1, e2, e3, e4⟩ := hH.1
  unfold f_X7_count f_X8_count f_X8_count_48
  by_cases c0 : v1 = 0
  · subst c0; exact ⟨nI nr, by rw [if_pos rfl], by rw [if_pos rfl, rdL (by omega) (by omega), Option.bind_some]; exact congrArg some e0⟩
  by_cases c1 : v1 = 1
  · subst c1; exact ⟨nI nd, by rw [if_neg (by decide), if_pos rfl], by rw [if_neg (by decide), if_pos rfl, rdL (by omega) (by omega), Option.bind_some]; exact congrArg some e1⟩
  by_cases c2 : v1 = 2
  · subst c2; exact ⟨nI nc, by rw [if_neg (by decide), if_neg (by decide), if_pos rfl], by rw [if_neg (by decide), if_neg (by decide), if_pos rfl, rdL (by omega) (by omega), Option.bind_some]; exact congrArg some e2⟩
  by_cases c3 : v1 = 3
  · subst c3; exact ⟨nI na, by rw [if_neg (by decide), if_neg (by decide), if_neg (by decide), if_pos rfl], by rw [if_neg (by decide), if_neg (by decide), if_neg (by decide), if_pos rfl, rdL (by omega) (by omega), Option.bind_some]; exact congrArg some e3⟩
  by_cases c4 : v1 = 4
  · subst c4; exact ⟨nI nw, by rw [if_neg (by decide), if_neg (by decide), if_neg (by decide), if_neg (by decide), if_pos rfl], by rw [if_neg (by decide), if_neg (by decide), if_neg (by decide), if_neg (by decide), if_pos rfl, rdL (by omega) (by omega), Option.bind_some]; exact congrArg some e4⟩
  rw [if_neg c0, if_neg c1, if_neg c2, if_neg c3, if_neg c4, if_neg c0, if_neg c1, if_neg c2, if_neg c3, if_neg c4]
  by_cases c5 : v1 = 5
  · rw [if_pos c5]; exact ⟨_, rfl, rfl⟩
  rw [if_neg c5]
  by_cases c6 : v1 = 6
  · rw [if_pos c6]; exact ⟨_, rfl, rfl⟩
  rw [if_neg c6]
  by_cases c7 : v1 = 7
  · rw [if_pos c7]; exact ⟨_, rfl, rfl⟩
  rw [if_neg c7]
  exact ⟨_, rfl, rfl⟩
