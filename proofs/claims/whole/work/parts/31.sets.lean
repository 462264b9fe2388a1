/-! sets, counts, sums, wind -/
theorem mk_s (p : Nat → Bool) (n : Nat) : mk_ p (n + 1) = mk_ p n + (if p n then 2 ^ n else 0) := rfl
theorem mk_trunc {p : Nat → Bool} {n : Nat} : ∀ {N : Nat}, n ≤ N → (∀ j, n ≤ j → j < N → p j = false) → mk_ p N = mk_ p n
  | 0, h, _ => by rw [show n = 0 by omega]
  | N + 1, h, hx => by
    by_cases e : n = N + 1
    · rw [e]
    · rw [mk_s, hx N (by omega) (by omega), mk_trunc (N := N) (by omega) (fun j h1 h2 => hx j h1 (by omega))]
      rfl
/-- one more in a set that is laid from below -/
theorem or_next {p : Nat → Bool} {k : Nat} (hk : k < 6) (x : Int32) (hx : x = if p k then (1 : Int32) <<< (nI k &&& 31) else 0) : nI (mk_ p k) ||| x = nI (mk_ p (k + 1)) := by
  subst hx
  rw [mk_s]
  by_cases c : p k = true
  · rw [if_pos c, if_pos c, shl_d k hk, orp_d k hk _ (mk_64 (by omega)) (mk_lt p k)]
  · rw [if_neg c, if_neg c, or0_d _ (mk_64 (by omega))]; rfl
theorem m_bits_loop {now : Nat → Int32} {b s n : Nat} {v : Int32} (hn : n ≤ 6) (hb : ∀ k, k < n → b + s * k < 47) : ∀ (q j k : Nat), j + q = n → q < k → f_X8_bits_6 now (nI b) (nI s) (nI n) v k (nI (mk_ (fun i => decide (now (b + s * i) = v)) j)) (nI j) = some (nI (mk_ (fun i => decide (now (b + s * i) = v)) n)) := by
  intro q
  induction q with
  | zero =>
    intro j k hj hk
    obtain ⟨k, rfl⟩ : ∃ z, k = z + 1 := ⟨k - 1, by omega⟩
    have : j = n := by omega
    subst this
    rw [f_X8_bits_6, if_pos ((nI_leI (by omega) (by omega)).mpr (Nat.le_refl _))]
  | succ q ih =>
    intro j k hj hk
    obtain ⟨k, rfl⟩ : ∃ z, k = z + 1 := ⟨k - 1, by omega⟩
    have hbj := hb j (by omega)
    have ih' := ih (j + 1) k (by omega) (by omega)
    rw [f_X8_bits_6, if_neg (by rw [nI_leI (by omega) (by omega)]; omega), pk_mul, nI_add, rd_ok hbj (by omega), Option.bind_some]
    unfold f_X8_bits_38
    rw [← or_next (p := fun i => decide (now (b + s * i) = v)) (k := j) (by omega) _ rfl] at ih'
    by_cases c : now (b + s * j) = v
    · rw [if_pos c]
      rw [if_pos (by simp [c])] at ih'
      simp only [addR]
      exact ih'
    · rw [if_neg c]
      rw [if_neg (by simp [c])] at ih'
      simp only [addR]
      exact ih'
theorem m_bits {now : Nat → Int32} {b s n : Nat} {v : Int32} (hn : n ≤ 6) (hb : ∀ k, k < n → b + s * k < 47) : f_X8_bits now (nI b) (nI s) (nI n) v = some (nI (mk_ (fun i => decide (now (b + s * i) = v)) n)) := by
  unfold f_X8_bits
  exact m_bits_loop hn hb n 0 fl_ (by omega) (fl_lt (by omega))
theorem pcn_le (p : Nat → Bool) : ∀ n, pcn_ p n ≤ n
  | 0 => Nat.le_refl _
  | n + 1 => by
    have := pcn_le p n
    unfold pcn_
    split <;> omega
theorem m_many_loop {now : Nat → Int32} {b s n : Nat} {v : Int32} (hn : n ≤ 6) (hb : ∀ k, k < n → b + s * k < 47) : ∀ (q j k : Nat), j + q = n → q < k → f_X8_many_6 now (nI b) (nI s) (nI n) v k (nI (pcn_ (fun i => decide (now (b + s * i) = v)) j)) (nI j) = some (nI (pcn_ (fun i => decide (now (b + s * i) = v)) n)) := by
  intro q
  induction q with
  | zero =>
    intro j k hj hk
    obtain ⟨k, rfl⟩ : ∃ z, k = z + 1 := ⟨k - 1, by omega⟩
    have : j = n := by omega
    subst this
    rw [f_X8_many_6, if_pos ((nI_leI (by omega) (by omega)).mpr (Nat.le_refl _))]
  | succ q ih =>
    intro j k hj hk
    obtain ⟨k, rfl⟩ : ∃ z, k = z + 1 := ⟨k - 1, by omega⟩
    have hbj := hb j (by omega)
    have ih' := ih (j + 1) k (by omega) (by omega)
    rw [f_X8_many_6, if_neg (by rw [nI_leI (by omega) (by omega)]; omega), pk_mul, nI_add, rd_ok hbj (by omega), Option.bind_some]
    unfold f_X8_many_35
    rw [pcn_] at ih'
    by_cases c : now (b + s * j) = v
    · rw [if_pos c]
      rw [if_pos (by simp [c])] at ih'
      simp only [addR]
      exact ih'
    · rw [if_neg c]
      rw [if_neg (by simp [c])] at ih'
      simp only [addR]
      exact ih'
theorem m_many {now : Nat → Int32} {b s n : Nat} {v : Int32} (hn : n ≤ 6) (hb : ∀ k, k < n → b + s * k < 47) : f_X8_many now (nI b) (nI s) (nI n) v = some (nI (pcn_ (fun i => decide (now (b + s * i) = v)) n)) := by
  unfold f_X8_many
  exact m_many_loop hn hb n 0 fl_ (by omega) (fl_lt (by omega))
theorem c_acts_are_loop {now : Nat → Int32} {n : Nat} {v : Int32} (hn : n ≤ 6) : ∀ (q j k : Nat), j + q = n → q < k → f_X4_actsThatAre_4 (rowOf now) (nI n) v k (nI (mk_ (fun i => decide (now (30 + 2 * i) = v)) j)) (nI j) = some (nI (mk_ (fun i => decide (now (30 + 2 * i) = v)) n)) := by
  intro q
  induction q with
  | zero =>
    intro j k hj hk
    obtain ⟨k, rfl⟩ : ∃ z, k = z + 1 := ⟨k - 1, by omega⟩
    have : j = n := by omega
    subst this
    rw [f_X4_actsThatAre_4, if_pos ((nI_leI (by omega) (by omega)).mpr (Nat.le_refl _))]
  | succ q ih =>
    intro j k hj hk
    obtain ⟨k, rfl⟩ : ∃ z, k = z + 1 := ⟨k - 1, by omega⟩
    have ih' := ih (j + 1) k (by omega) (by omega)
    rw [f_X4_actsThatAre_4, if_neg (by rw [nI_leI (by omega) (by omega)]; omega), c_stage (by omega), Option.bind_some]
    unfold f_X4_actsThatAre_32
    rw [← or_next (p := fun i => decide (now (30 + 2 * i) = v)) (k := j) (by omega) _ rfl] at ih'
    by_cases c : now (30 + 2 * j) = v
    · rw [if_pos c]
      rw [if_pos (by simp [c])] at ih'
      simp only [addR]
      exact ih'
    · rw [if_neg c]
      rw [if_neg (by simp [c])] at ih'
      simp only [addR]
      exact ih'
theorem c_acts_are {now : Nat → Int32} {n : Nat} {v : Int32} (hn : n ≤ 6) : f_X4_actsThatAre (rowOf now) (nI n) v = some (nI (mk_ (fun i => decide (now (30 + 2 * i) = v)) n)) := by
  unfold f_X4_actsThatAre
  exact c_acts_are_loop hn n 0 fl_ (by omega) (fl_lt (by omega))
theorem c_cand_loop {now : Nat → Int32} {n : Nat} {v : Int32} (hn : n ≤ 6) : ∀ (q j k : Nat), j + q = n → q < k → f_X4_candlesIn_4 (rowOf now) (nI n) v k (nI (mk_ (fun i => decide (now (2 + 4 * i) = v)) j)) (nI j) = some (nI (mk_ (fun i => decide (now (2 + 4 * i) = v)) n)) := by
  intro q
  induction q with
  | zero =>
    intro j k hj hk
    obtain ⟨k, rfl⟩ : ∃ z, k = z + 1 := ⟨k - 1, by omega⟩
    have : j = n := by omega
    subst this
    rw [f_X4_candlesIn_4, if_pos ((nI_leI (by omega) (by omega)).mpr (Nat.le_refl _))]
  | succ q ih =>
    intro j k hj hk
    obtain ⟨k, rfl⟩ : ∃ z, k = z + 1 := ⟨k - 1, by omega⟩
    have ih' := ih (j + 1) k (by omega) (by omega)
    rw [f_X4_candlesIn_4, if_neg (by rw [nI_leI (by omega) (by omega)]; omega), c_roomOf (by omega), Option.bind_some]
    unfold f_X4_candlesIn_32
    rw [← or_next (p := fun i => decide (now (2 + 4 * i) = v)) (k := j) (by omega) _ rfl] at ih'
    by_cases c : now (2 + 4 * j) = v
    · rw [if_pos c]
      rw [if_pos (by simp [c])] at ih'
      simp only [addR]
      exact ih'
    · rw [if_neg c]
      rw [if_neg (by simp [c])] at ih'
      simp only [addR]
      exact ih'
theorem c_cand {now : Nat → Int32} {n : Nat} {v : Int32} (hn : n ≤ 6) : f_X4_candlesIn (rowOf now) (nI n) v = some (nI (mk_ (fun i => decide (now (2 + 4 * i) = v)) n)) := by
  unfold f_X4_candlesIn
  exact c_cand_loop hn n 0 fl_ (by omega) (fl_lt (by omega))
def wnd (h : Nat → Int32) (nw m : Nat) : Bool := decide (0 < nw) && decide (h (51 + m % nw) = 1)
theorem m_isWind {h : Nat → Int32} {nw m : Nat} (e4 : h 4 = nI nw) (hw : nw ≤ 8) (hm : m < 2 ^ 31) : f_X8_isWind h (nI m) = some (b2i (wnd h nw m)) := by
  unfold f_X8_isWind wnd
  rw [rdL (by omega) (by omega), Option.bind_some, Option.bind_some]
  show (if h 4 ≤ 0 then _ else _) = _
  rw [e4]
  by_cases c : nw = 0
  · subst c; rw [if_pos (by decide)]; rfl
  · rw [if_neg (by rw [show (0 : Int32) = nI 0 from rfl, nI_leI (by omega) (by omega)]; omega)]
    rw [nz_ok (fun q => c ((nI_eq (a := nw) (b := 0) (by omega) (by decide)).mp q)), Option.bind_some, pk_rem hm (by omega) (by omega), addL]
    have hlt : m % nw < nw := Nat.mod_lt _ (by omega)
    rw [rd_ok (by omega) (by omega), Option.bind_some]
    have hp : (decide (0 < nw)) = true := decide_eq_true (by omega)
    rw [hp, Bool.true_and]
    by_cases c2 : h (51 + m % nw) = 1
    · rw [if_pos c2, decide_eq_true c2]; rfl
    · rw [if_neg c2, decide_eq_false c2]; rfl
theorem c_minute (now : Nat → Int32) : f_X4_minute (rowOf now) = some (now 0) := by
  unfold f_X4_minute
  rw [rdL (by omega) (by omega), Option.bind_some]
  rfl
theorem c_wind {h now tw : Nat → Int32} {nw m : Nat} (hw : nw ≤ 8) (hm : m < 2 ^ 31) (em : now 0 = nI m) (ht : ∀ w, w < nw → tw w = h (51 + w)) : f_X4_windBlows (rowOf now) (nI nw) tw = some (b2i (wnd h nw m)) := by
  unfold f_X4_windBlows wnd
  by_cases c : nw = 0
  · subst c; rw [if_pos (by decide)]; rfl
  · rw [if_neg (by rw [show (0 : Int32) = nI 0 from rfl, nI_leI (by omega) (by omega)]; omega), c_minute, Option.bind_some, nz_ok (fun q => c ((nI_eq (a := nw) (b := 0) (by omega) (by decide)).mp q)), Option.bind_some, em, pk_rem hm (by omega) (by omega)]
    have hlt : m % nw < nw := Nat.mod_lt _ (by omega)
    rw [rd_ok (by omega) (by omega), Option.bind_some, ht _ hlt]
    have hp : (decide (0 < nw)) = true := decide_eq_true (by omega)
    rw [hp, Bool.true_and]
    by_cases c2 : h (51 + m % nw) = 1
    · rw [if_pos c2, decide_eq_true c2]; rfl
    · rw [if_neg c2, decide_eq_false c2]; rfl
/-- a sum over a set -/
def sm_ (p : Nat → Bool) (f : Nat → Int32) : Nat → Int32
  | 0 => 0
  | n + 1 => sm_ p f n + (if p n then f n else 0)
theorem sm_ext {p q : Nat → Bool} {f g : Nat → Int32} : ∀ {n : Nat}, (∀ j, j < n → p j = q j ∧ (p j = true → f j = g j)) → sm_ p f n = sm_ q g n
  | 0, _ => rfl
  | n + 1, h => by
    unfold sm_
    rw [sm_ext (n := n) (fun j hj => h j (by omega))]
    obtain ⟨h1, h2⟩ := h n (by omega)
    rw [← h1]
    by_cases c : p n = true
    · rw [if_pos c, if_pos c, h2 c]
    · rw [if_neg c, if_neg c]
theorem sm_s (p : Nat → Bool) (f : Nat → Int32) (n : Nat) : sm_ p f (n + 1) = sm_ p f n + (if p n then f n else 0) := rfl
theorem sm_trunc {p : Nat → Bool} {f : Nat → Int32} {n : Nat} : ∀ {N : Nat}, n ≤ N → (∀ j, n ≤ j → j < N → p j = false) → sm_ p f N = sm_ p f n
  | 0, h, _ => by rw [show n = 0 by omega]
  | N + 1, h, hx => by
    by_cases e : n = N + 1
    · rw [e]
    · rw [sm_s, hx N (by omega) (by omega), sm_trunc (N := N) (by omega) (fun j h1 h2 => hx j h1 (by omega)), if_neg (by decide), Int32.add_zero]
theorem c_sum_loop {f : Nat → Int32} {m : Nat} (hm : m < 64) : ∀ (q j k : Nat), j + q = 6 → q < k → f_X7_sumOver_4 f (nI m) k (sm_ (fun i => m.testBit i) f j) (nI j) = some (sm_ (fun i => m.testBit i) f 6) := by
  intro q
  induction q with
  | zero =>
    intro j k hj hk
    obtain ⟨k, rfl⟩ : ∃ z, k = z + 1 := ⟨k - 1, by omega⟩
    have : j = 6 := by omega
    subst this
    rw [f_X7_sumOver_4, if_pos (by decide)]
  | succ q ih =>
    intro j k hj hk
    obtain ⟨k, rfl⟩ : ∃ z, k = z + 1 := ⟨k - 1, by omega⟩
    have ih' := ih (j + 1) k (by omega) (by omega)
    rw [f_X7_sumOver_4, if_neg (by rw [show (6 : Int32) = nI 6 from rfl, nI_leI (by omega) (by omega)]; omega), c_bit hm (by omega), Option.bind_some, rd_ok (by omega) (by omega), Option.bind_some]
    have e : b2i (m.testBit j) * f j = if m.testBit j then f j else 0 := by
      cases m.testBit j
      · show (0 : Int32) * f j = 0; exact Int32.zero_mul
      · show (1 : Int32) * f j = f j; exact Int32.one_mul _
    rw [e, addR]
    exact ih'
theorem c_sum {f : Nat → Int32} {m : Nat} (hm : m < 64) : f_X7_sumOver f (nI m) = some (sm_ (fun i => m.testBit i) f 6) := by
  unfold f_X7_sumOver
  exact c_sum_loop hm 6 0 fl_ (by omega) (fl_lt (by omega))
theorem o_now {h now tw twi : Nat → Int32} {nr nd nc na nw m : Nat} (hH : HH h nr nd nc na nw) (hN : NI h nr nd nc na now) (hm : m < 2 ^ 31) (em : now 0 = nI m) (hW : ∀ a, a < na → tw a = h (27 + 4 * a + 1)) (hWi : ∀ w, w < nw → twi w = h (51 + w)) (v1 : Int32) : ∃ r, f_X7_now (nI na) (nI nw) tw twi (rowOf now) v1 = some r ∧ f_X8_now h now v1 = some r := by
  obtain ⟨e0, e1, e2, e3, e4⟩ := hH.1
  obtain ⟨hnr, hnd, hnc, hna, hnw⟩ := hH.2.1
  unfold f_X7_now f_X8_now
  by_cases c0 : v1 = 0
  · rw [if_pos c0, if_pos c0, c_minute, rdL (by omega) (by omega)]; exact ⟨_, rfl, rfl⟩
  rw [if_neg c0, if_neg c0]
  by_cases c1 : v1 = 1
  · rw [if_pos c1, if_pos c1, c_wind hnw hm em hWi, rdL (by omega) (by omega), Option.bind_some, Option.bind_some]
    refine ⟨b2i (wnd h nw m), by cases wnd h nw m <;> rfl, ?_⟩
    show ((f_X8_isWind h (now 0)).bind _) = _
    rw [em, m_isWind e4 hnw hm, Option.bind_some]
    cases wnd h nw m <;> rfl
  rw [if_neg c1, if_neg c1]
  by_cases c2 : v1 = 2
  · rw [if_pos c2, if_pos c2, rdL (by omega) (by omega), rdL (by omega) (by omega), Option.bind_some, Option.bind_some]
    refine ⟨_, rfl, ?_⟩
    show ((f_X8_bits now (nI 3) (nI 4) (h 2) 1).bind _) = some (rowOf now 1)
    rw [e2, m_bits hnc (fun k hk => by omega), Option.bind_some, row_1, mk_trunc (n := nc) (N := 6) hnc (fun j h1 h2 => by unfold litB; rw [(hN.1 j h2).2 h1]; decide)]
    rfl
  rw [if_neg c2, if_neg c2]
  by_cases c3 : v1 = 3
  · rw [if_pos c3, if_pos c3, rdL (by omega) (by omega), rdL (by omega) (by omega), Option.bind_some, Option.bind_some]
    refine ⟨_, rfl, ?_⟩
    show ((f_X8_bits now (nI 25) (nI 1) (h 1) 1).bind _) = some (rowOf now 3)
    rw [e1, m_bits (by omega) (fun k hk => by omega), Option.bind_some, row_3, mk_trunc (n := nd) (N := 5) hnd (fun j h1 h2 => by unfold opnB; rw [(hN.2.2.1 j h2).2 h1]; decide)]
    refine congrArg (fun x => some (nI x)) (mk_ext (fun j hj => ?_))
    show decide (now (25 + 1 * j) = 1) = decide (now (25 + j) = 1)
    rw [Nat.one_mul]
  rw [if_neg c3, if_neg c3]
  by_cases c4 : v1 = 4
  · rw [if_pos c4, if_pos c4, c_acts_are hna, rdL (by omega) (by omega), Option.bind_some, Option.bind_some]
    refine ⟨_, rfl, ?_⟩
    show ((f_X8_bits now (nI 30) (nI 2) (h 3) 2).bind _) = _
    rw [e3, m_bits hna (fun k hk => by omega), Option.bind_some]
  rw [if_neg c4, if_neg c4]
  by_cases c5 : v1 = 5
  · rw [if_pos c5, if_pos c5, c_acts_are hna, rdL (by omega) (by omega), Option.bind_some, Option.bind_some]
    refine ⟨_, rfl, ?_⟩
    show ((f_X8_bits now (nI 30) (nI 2) (h 3) 3).bind _) = _
    rw [e3, m_bits hna (fun k hk => by omega), Option.bind_some]
  rw [if_neg c5, if_neg c5]
  by_cases c6 : v1 = 6
  · rw [if_pos c6, if_pos c6, c_acts_are hna, Option.bind_some, c_sum (mk_64 hna), Option.bind_some]
    refine ⟨_, rfl, ?_⟩
    have loop : ∀ (q j k : Nat), j + q = na → q < k → f_X8_now_133 h now v1 k (sm_ (fun i => decide (now (30 + 2 * i) = 2)) (fun i => h (27 + 4 * i + 1)) j) (nI j) = some (sm_ (fun i => decide (now (30 + 2 * i) = 2)) (fun i => h (27 + 4 * i + 1)) na) := by
      intro q
      induction q with
      | zero =>
        intro j k hj hk
        obtain ⟨k, rfl⟩ : ∃ z, k = z + 1 := ⟨k - 1, by omega⟩
        have : j = na := by omega
        subst this
        rw [f_X8_now_133, rdL (by omega) (by omega), Option.bind_some]
        exact if_pos (by show h 3 ≤ nI j; rw [e3, nI_leI (by omega) (by omega)]; exact Nat.le_refl _)
      | succ q ih =>
        intro j k hj hk
        obtain ⟨k, rfl⟩ : ∃ z, k = z + 1 := ⟨k - 1, by omega⟩
        have ih' := ih (j + 1) k (by omega) (by omega)
        rw [f_X8_now_133, rdL (by omega) (by omega), Option.bind_some, if_neg (by show ¬ h 3 ≤ nI j; rw [e3, nI_leI (by omega) (by omega)]; omega)]
        unfold f_X8_now_176
        simp (disch := omega) only [mulL, addL, addR, rd_ok, Option.bind_some]
        rw [sm_s] at ih'
        by_cases c : now (30 + 2 * j) = 2
        · rw [if_pos c]
          rw [if_pos (by simp [c])] at ih'
          exact ih'
        · rw [if_neg c]
          rw [if_neg (by simp [c])] at ih'
          exact ih'
    have l0 := loop na 0 fl_ (by omega) (fl_lt (by omega))
    have l0' : f_X8_now_133 h now v1 fl_ 0 0 = some (sm_ (fun i => decide (now (30 + 2 * i) = 2)) (fun i => h (27 + 4 * i + 1)) na) := l0
    rw [l0', sm_trunc (n := na) (N := 6) hna (fun j h1 h2 => mk_big h1)]
    refine congrArg some (sm_ext (fun j hj => ⟨?_, fun _ => (hW j hj).symm⟩))
    rw [mk_bit hj]
  rw [if_neg c6, if_neg c6]
  exact ⟨_, rfl, rfl⟩
