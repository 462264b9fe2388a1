/-! the reader: items -/
def DR (h : Nat → Int32) (nr nd nc na nw : Nat) (o s l cr ne wo ar re wi : Nat → Int32) : Prop := HH h nr nd nc na nw ∧ HR h nr nd nc na nw (nI nr) (nI nd) (nI nc) (nI na) (nI nw) o s l cr ne wo ar re wi
theorem ixb_mono {x : Int32} {n m : Nat} (h : ixb x n) (hm : n ≤ m) : ixb x m := by
  obtain ⟨j, hj, e⟩ := h
  exact ⟨j, by omega, e⟩
theorem DR_room {h o s l cr ne wo ar re wi : Nat → Int32} {nr nd nc na nw : Nat} (hD : DR h nr nd nc na nw o s l cr ne wo ar re wi) (hn : nr < 5) : DR (upd h 0 (nI (nr + 1))) (nr + 1) nd nc na nw o s l cr ne wo ar re wi := by
  obtain ⟨⟨⟨h0, h1, h2, h3, h4⟩, ⟨l0, l1, l2, l3, l4⟩, a1, a2, a3, a4⟩, ⟨-, b1, b2, b3, b4⟩⟩ := hD
  refine ⟨⟨⟨pk_us, ?_, ?_, ?_, ?_⟩, ⟨by omega, l1, l2, l3, l4⟩, fun d hd => ?_, fun c hc => ?_, fun a ha => ?_, fun w hw => ?_⟩, ⟨⟨rfl, rfl, rfl, rfl, rfl⟩, fun d hd => ?_, fun c hc => ?_, fun a ha => ?_, fun w hw => ?_⟩⟩
  · rw [pk_un (by omega)]; exact h1
  · rw [pk_un (by omega)]; exact h2
  · rw [pk_un (by omega)]; exact h3
  · rw [pk_un (by omega)]; exact h4
  · rw [pk_un (by omega), pk_un (by omega)]
    exact ⟨ixb_mono (a1 d hd).1 (by omega), ixb_mono (a1 d hd).2 (by omega)⟩
  · rw [pk_un (by omega), pk_un (by omega)]
    exact ⟨(a2 c hc).1, ixb_mono (a2 c hc).2 (by omega)⟩
  · rw [pk_un (by omega), pk_un (by omega), pk_un (by omega), pk_un (by omega)]
    exact ⟨(a3 a ha).1, (a3 a ha).2.1, ixb_mono (a3 a ha).2.2.1 (by omega), (a3 a ha).2.2.2⟩
  · rw [pk_un (by omega)]; exact a4 w hw
  · rw [pk_un (by omega), pk_un (by omega)]; exact b1 d hd
  · rw [pk_un (by omega), pk_un (by omega)]; exact b2 c hc
  · rw [pk_un (by omega), pk_un (by omega), pk_un (by omega), pk_un (by omega)]; exact b3 a ha
  · rw [pk_un (by omega)]; exact b4 w hw
theorem DR_door {h o s l cr ne wo ar re wi : Nat → Int32} {nr nd nc na nw : Nat} {x y : Int32} (hD : DR h nr nd nc na nw o s l cr ne wo ar re wi) (hn : nd < 5) (hx : ixb x nr) (hy : ixb y nr) : DR (upd (upd (upd h (5 + 2 * nd) x) (5 + 2 * nd + 1) y) 1 (nI (nd + 1))) nr (nd + 1) nc na nw (upd o nd x) (upd s nd y) l cr ne wo ar re wi := by
  obtain ⟨⟨⟨h0, h1, h2, h3, h4⟩, ⟨l0, l1, l2, l3, l4⟩, a1, a2, a3, a4⟩, ⟨-, b1, b2, b3, b4⟩⟩ := hD
  have out : ∀ k, k ≠ 1 → k ≠ 5 + 2 * nd → k ≠ 5 + 2 * nd + 1 → upd (upd (upd h (5 + 2 * nd) x) (5 + 2 * nd + 1) y) 1 (nI (nd + 1)) k = h k := fun k k1 k2 k3 => by rw [pk_un k1, pk_un k3, pk_un k2]
  have in0 : upd (upd (upd h (5 + 2 * nd) x) (5 + 2 * nd + 1) y) 1 (nI (nd + 1)) (5 + 2 * nd) = x := by rw [pk_un (by omega), pk_un (by omega), pk_us]
  have in1 : upd (upd (upd h (5 + 2 * nd) x) (5 + 2 * nd + 1) y) 1 (nI (nd + 1)) (5 + 2 * nd + 1) = y := by rw [pk_un (by omega), pk_us]
  refine ⟨⟨⟨?_, pk_us, ?_, ?_, ?_⟩, ⟨l0, by omega, l2, l3, l4⟩, fun d hd => ?_, fun c hc => ?_, fun a ha => ?_, fun w hw => ?_⟩, ⟨⟨rfl, rfl, rfl, rfl, rfl⟩, fun d hd => ?_, fun c hc => ?_, fun a ha => ?_, fun w hw => ?_⟩⟩
  · rw [out 0 (by omega) (by omega) (by omega)]; exact h0
  · rw [out 2 (by omega) (by omega) (by omega)]; exact h2
  · rw [out 3 (by omega) (by omega) (by omega)]; exact h3
  · rw [out 4 (by omega) (by omega) (by omega)]; exact h4
  · by_cases e : d = nd
    · subst e; rw [in0, in1]; exact ⟨hx, hy⟩
    · rw [out _ (by omega) (by omega) (by omega), out _ (by omega) (by omega) (by omega)]; exact a1 d (by omega)
  · rw [out _ (by omega) (by omega) (by omega), out _ (by omega) (by omega) (by omega)]; exact a2 c hc
  · rw [out _ (by omega) (by omega) (by omega), out _ (by omega) (by omega) (by omega), out _ (by omega) (by omega) (by omega), out _ (by omega) (by omega) (by omega)]; exact a3 a ha
  · rw [out _ (by omega) (by omega) (by omega)]; exact a4 w hw
  · by_cases e : d = nd
    · subst e; rw [in0, in1, pk_us, pk_us]; exact ⟨rfl, rfl⟩
    · rw [out _ (by omega) (by omega) (by omega), out _ (by omega) (by omega) (by omega), pk_un e, pk_un e]; exact b1 d (by omega)
  · rw [out _ (by omega) (by omega) (by omega), out _ (by omega) (by omega) (by omega)]; exact b2 c hc
  · rw [out _ (by omega) (by omega) (by omega), out _ (by omega) (by omega) (by omega), out _ (by omega) (by omega) (by omega), out _ (by omega) (by omega) (by omega)]; exact b3 a ha
  · rw [out _ (by omega) (by omega) (by omega)]; exact b4 w hw
theorem DR_candle {h o s l cr ne wo ar re wi : Nat → Int32} {nr nd nc na nw v : Nat} {y : Int32} (hD : DR h nr nd nc na nw o s l cr ne wo ar re wi) (hn : nc < 6) (hv : 1 ≤ v ∧ v ≤ 60) (hy : ixb y nr) : DR (upd (upd (upd h (15 + 2 * nc) (nI v)) (15 + 2 * nc + 1) y) 2 (nI (nc + 1))) nr nd (nc + 1) na nw o s (upd l nc (nI v)) (upd cr nc y) ne wo ar re wi := by
  obtain ⟨⟨⟨h0, h1, h2, h3, h4⟩, ⟨l0, l1, l2, l3, l4⟩, a1, a2, a3, a4⟩, ⟨-, b1, b2, b3, b4⟩⟩ := hD
  have out : ∀ k, k ≠ 2 → k ≠ 15 + 2 * nc → k ≠ 15 + 2 * nc + 1 → upd (upd (upd h (15 + 2 * nc) (nI v)) (15 + 2 * nc + 1) y) 2 (nI (nc + 1)) k = h k := fun k k1 k2 k3 => by rw [pk_un k1, pk_un k3, pk_un k2]
  have in0 : upd (upd (upd h (15 + 2 * nc) (nI v)) (15 + 2 * nc + 1) y) 2 (nI (nc + 1)) (15 + 2 * nc) = nI v := by rw [pk_un (by omega), pk_un (by omega), pk_us]
  have in1 : upd (upd (upd h (15 + 2 * nc) (nI v)) (15 + 2 * nc + 1) y) 2 (nI (nc + 1)) (15 + 2 * nc + 1) = y := by rw [pk_un (by omega), pk_us]
  refine ⟨⟨⟨?_, ?_, pk_us, ?_, ?_⟩, ⟨l0, l1, by omega, l3, l4⟩, fun d hd => ?_, fun c hc => ?_, fun a ha => ?_, fun w hw => ?_⟩, ⟨⟨rfl, rfl, rfl, rfl, rfl⟩, fun d hd => ?_, fun c hc => ?_, fun a ha => ?_, fun w hw => ?_⟩⟩
  · rw [out 0 (by omega) (by omega) (by omega)]; exact h0
  · rw [out 1 (by omega) (by omega) (by omega)]; exact h1
  · rw [out 3 (by omega) (by omega) (by omega)]; exact h3
  · rw [out 4 (by omega) (by omega) (by omega)]; exact h4
  · rw [out _ (by omega) (by omega) (by omega), out _ (by omega) (by omega) (by omega)]; exact a1 d hd
  · by_cases e : c = nc
    · subst e; rw [in0, in1]; exact ⟨⟨v, hv.1, hv.2, rfl⟩, hy⟩
    · rw [out _ (by omega) (by omega) (by omega), out _ (by omega) (by omega) (by omega)]; exact a2 c (by omega)
  · rw [out _ (by omega) (by omega) (by omega), out _ (by omega) (by omega) (by omega), out _ (by omega) (by omega) (by omega), out _ (by omega) (by omega) (by omega)]; exact a3 a ha
  · rw [out _ (by omega) (by omega) (by omega)]; exact a4 w hw
  · rw [out _ (by omega) (by omega) (by omega), out _ (by omega) (by omega) (by omega)]; exact b1 d hd
  · by_cases e : c = nc
    · subst e; rw [in0, in1, pk_us, pk_us]; exact ⟨rfl, rfl⟩
    · rw [out _ (by omega) (by omega) (by omega), out _ (by omega) (by omega) (by omega), pk_un e, pk_un e]; exact b2 c (by omega)
  · rw [out _ (by omega) (by omega) (by omega), out _ (by omega) (by omega) (by omega), out _ (by omega) (by omega) (by omega), out _ (by omega) (by omega) (by omega)]; exact b3 a ha
  · rw [out _ (by omega) (by omega) (by omega)]; exact b4 w hw
theorem DR_act {h o s l cr ne wo ar re wi : Nat → Int32} {nr nd nc na nw v w0 : Nat} {y z : Int32} (hD : DR h nr nd nc na nw o s l cr ne wo ar re wi) (hn : na < 6) (hv : 1 ≤ v ∧ v ≤ 20) (hw0 : w0 ≤ 9) (hy : ixb y nr) (hz : z = 9 ∨ ixb z na) : DR (upd (upd (upd (upd (upd h (27 + 4 * na) (nI v)) (27 + 4 * na + 1) (nI w0)) (27 + 4 * na + 2) y) (27 + 4 * na + 3) z) 3 (nI (na + 1))) nr nd nc (na + 1) nw o s l cr (upd ne na (nI v)) (upd wo na (nI w0)) (upd ar na y) (upd re na z) wi := by
  obtain ⟨⟨⟨h0, h1, h2, h3, h4⟩, ⟨l0, l1, l2, l3, l4⟩, a1, a2, a3, a4⟩, ⟨-, b1, b2, b3, b4⟩⟩ := hD
  have out : ∀ k, k ≠ 3 → k ≠ 27 + 4 * na → k ≠ 27 + 4 * na + 1 → k ≠ 27 + 4 * na + 2 → k ≠ 27 + 4 * na + 3 → upd (upd (upd (upd (upd h (27 + 4 * na) (nI v)) (27 + 4 * na + 1) (nI w0)) (27 + 4 * na + 2) y) (27 + 4 * na + 3) z) 3 (nI (na + 1)) k = h k := fun k k1 k2 k3 k4 k5 => by rw [pk_un k1, pk_un k5, pk_un k4, pk_un k3, pk_un k2]
  have in0 : upd (upd (upd (upd (upd h (27 + 4 * na) (nI v)) (27 + 4 * na + 1) (nI w0)) (27 + 4 * na + 2) y) (27 + 4 * na + 3) z) 3 (nI (na + 1)) (27 + 4 * na) = nI v := by rw [pk_un (by omega), pk_un (by omega), pk_un (by omega), pk_un (by omega), pk_us]
  have in1 : upd (upd (upd (upd (upd h (27 + 4 * na) (nI v)) (27 + 4 * na + 1) (nI w0)) (27 + 4 * na + 2) y) (27 + 4 * na + 3) z) 3 (nI (na + 1)) (27 + 4 * na + 1) = nI w0 := by rw [pk_un (by omega), pk_un (by omega), pk_un (by omega), pk_us]
  have in2 : upd (upd (upd (upd (upd h (27 + 4 * na) (nI v)) (27 + 4 * na + 1) (nI w0)) (27 + 4 * na + 2) y) (27 + 4 * na + 3) z) 3 (nI (na + 1)) (27 + 4 * na + 2) = y := by rw [pk_un (by omega), pk_un (by omega), pk_us]
  have in3 : upd (upd (upd (upd (upd h (27 + 4 * na) (nI v)) (27 + 4 * na + 1) (nI w0)) (27 + 4 * na + 2) y) (27 + 4 * na + 3) z) 3 (nI (na + 1)) (27 + 4 * na + 3) = z := by rw [pk_un (by omega), pk_us]
  refine ⟨⟨⟨?_, ?_, ?_, pk_us, ?_⟩, ⟨l0, l1, l2, by omega, l4⟩, fun d hd => ?_, fun c hc => ?_, fun a ha => ?_, fun w hw => ?_⟩, ⟨⟨rfl, rfl, rfl, rfl, rfl⟩, fun d hd => ?_, fun c hc => ?_, fun a ha => ?_, fun w hw => ?_⟩⟩
  · rw [out 0 (by omega) (by omega) (by omega) (by omega) (by omega)]; exact h0
  · rw [out 1 (by omega) (by omega) (by omega) (by omega) (by omega)]; exact h1
  · rw [out 2 (by omega) (by omega) (by omega) (by omega) (by omega)]; exact h2
  · rw [out 4 (by omega) (by omega) (by omega) (by omega) (by omega)]; exact h4
  · rw [out (5 + 2 * d) (by omega) (by omega) (by omega) (by omega) (by omega), out (5 + 2 * d + 1) (by omega) (by omega) (by omega) (by omega) (by omega)]; exact a1 d hd
  · rw [out (15 + 2 * c) (by omega) (by omega) (by omega) (by omega) (by omega), out (15 + 2 * c + 1) (by omega) (by omega) (by omega) (by omega) (by omega)]; exact a2 c hc
  · by_cases e : a = na
    · subst e; rw [in0, in1, in2, in3]; exact ⟨⟨v, hv.1, hv.2, rfl⟩, ⟨w0, hw0, rfl⟩, hy, hz⟩
    · rw [out (27 + 4 * a) (by omega) (by omega) (by omega) (by omega) (by omega), out (27 + 4 * a + 1) (by omega) (by omega) (by omega) (by omega) (by omega), out (27 + 4 * a + 2) (by omega) (by omega) (by omega) (by omega) (by omega), out (27 + 4 * a + 3) (by omega) (by omega) (by omega) (by omega) (by omega)]; exact a3 a (by omega)
  · rw [out (51 + w) (by omega) (by omega) (by omega) (by omega) (by omega)]; exact a4 w hw
  · rw [out (5 + 2 * d) (by omega) (by omega) (by omega) (by omega) (by omega), out (5 + 2 * d + 1) (by omega) (by omega) (by omega) (by omega) (by omega)]; exact b1 d hd
  · rw [out (15 + 2 * c) (by omega) (by omega) (by omega) (by omega) (by omega), out (15 + 2 * c + 1) (by omega) (by omega) (by omega) (by omega) (by omega)]; exact b2 c hc
  · by_cases e : a = na
    · subst e; rw [in0, in1, in2, in3, pk_us, pk_us, pk_us, pk_us]; exact ⟨rfl, rfl, rfl, rfl⟩
    · rw [out (27 + 4 * a) (by omega) (by omega) (by omega) (by omega) (by omega), out (27 + 4 * a + 1) (by omega) (by omega) (by omega) (by omega) (by omega), out (27 + 4 * a + 2) (by omega) (by omega) (by omega) (by omega) (by omega), out (27 + 4 * a + 3) (by omega) (by omega) (by omega) (by omega) (by omega), pk_un e, pk_un e, pk_un e, pk_un e]; exact b3 a (by omega)
  · rw [out (51 + w) (by omega) (by omega) (by omega) (by omega) (by omega)]; exact b4 w hw
theorem DR_wind {h o s l cr ne wo ar re wi : Nat → Int32} {nr nd nc na nw : Nat} {x : Int32} (hD : DR h nr nd nc na nw o s l cr ne wo ar re wi) (hn : nw < 8) (hx : x = 0 ∨ x = 1) : DR (upd (upd h (51 + nw) x) 4 (nI (nw + 1))) nr nd nc na (nw + 1) o s l cr ne wo ar re (upd wi nw x) := by
  obtain ⟨⟨⟨h0, h1, h2, h3, h4⟩, ⟨l0, l1, l2, l3, l4⟩, a1, a2, a3, a4⟩, ⟨-, b1, b2, b3, b4⟩⟩ := hD
  have out : ∀ k, k ≠ 4 → k ≠ 51 + nw → upd (upd h (51 + nw) x) 4 (nI (nw + 1)) k = h k := fun k k1 k2 => by rw [pk_un k1, pk_un k2]
  have in0 : upd (upd h (51 + nw) x) 4 (nI (nw + 1)) (51 + nw) = x := by rw [pk_un (by omega), pk_us]
  refine ⟨⟨⟨?_, ?_, ?_, ?_, pk_us⟩, ⟨l0, l1, l2, l3, by omega⟩, fun d hd => ?_, fun c hc => ?_, fun a ha => ?_, fun w hw => ?_⟩, ⟨⟨rfl, rfl, rfl, rfl, rfl⟩, fun d hd => ?_, fun c hc => ?_, fun a ha => ?_, fun w hw => ?_⟩⟩
  · rw [out 0 (by omega) (by omega)]; exact h0
  · rw [out 1 (by omega) (by omega)]; exact h1
  · rw [out 2 (by omega) (by omega)]; exact h2
  · rw [out 3 (by omega) (by omega)]; exact h3
  · rw [out (5 + 2 * d) (by omega) (by omega), out (5 + 2 * d + 1) (by omega) (by omega)]; exact a1 d hd
  · rw [out (15 + 2 * c) (by omega) (by omega), out (15 + 2 * c + 1) (by omega) (by omega)]; exact a2 c hc
  · rw [out (27 + 4 * a) (by omega) (by omega), out (27 + 4 * a + 1) (by omega) (by omega), out (27 + 4 * a + 2) (by omega) (by omega), out (27 + 4 * a + 3) (by omega) (by omega)]; exact a3 a ha
  · by_cases e : w = nw
    · subst e; rw [in0]; exact hx
    · rw [out (51 + w) (by omega) (by omega)]; exact a4 w (by omega)
  · rw [out (5 + 2 * d) (by omega) (by omega), out (5 + 2 * d + 1) (by omega) (by omega)]; exact b1 d hd
  · rw [out (15 + 2 * c) (by omega) (by omega), out (15 + 2 * c + 1) (by omega) (by omega)]; exact b2 c hc
  · rw [out (27 + 4 * a) (by omega) (by omega), out (27 + 4 * a + 1) (by omega) (by omega), out (27 + 4 * a + 2) (by omega) (by omega), out (27 + 4 * a + 3) (by omega) (by omega)]; exact b3 a ha
  · by_cases e : w = nw
    · subst e; rw [in0, pk_us]
    · rw [out (51 + w) (by omega) (by omega), pk_un e]; exact b4 w (by omega)
theorem num_ix {vm : Int32} {nr : Nat} (hnr : nr ≤ 5) (h : ∃ v, v ≤ 99 ∧ vm = nI v ∧ (0 : Int32).toInt ≤ (v : Int) ∧ (v : Int) ≤ (nI nr - 1).toInt) : ixb vm nr := by
  obtain ⟨v, h1, h2, -, h4⟩ := h
  rw [toInt_pred (by omega)] at h4
  exact ⟨v, by omega, h2⟩
theorem num_rg {vm : Int32} {lo hi : Nat} (hl : lo < 100) (hh : hi < 100) (h : ∃ v, v ≤ 99 ∧ vm = nI v ∧ (nI lo).toInt ≤ (v : Int) ∧ (v : Int) ≤ (nI hi).toInt) : ∃ v, vm = nI v ∧ lo ≤ v ∧ v ≤ hi := by
  obtain ⟨v, h1, h2, h3, h4⟩ := h
  rw [nI_toInt (by omega)] at h3 h4
  exact ⟨v, h2, by omega, by omega⟩
theorem both_room {n p b0 : Nat} {t : Nat → Nat} {at_ bt_ h o s l cr ne wo ar re wi : Nat → Int32} {nr nd nc na nw : Nat} (hT : TX n t at_ bt_) (hp : p ≤ n) (hD : DR h nr nd nc na nw o s l cr ne wo ar re wi) (rk rv gt gd : Int32) : ∃ (f : Bool) (b p1 p2 : Nat) (kc vc km vm : Int32) (nr' : Nat) (h' : Nat → Int32), f_X6_readsRoom (nI b0) (nI n) (nI p) rk rv bt_ (nI nr) = some (b2i f, nI b, nI p1, kc, vc, nI nr') ∧ ((rd_ h 59 0).bind fun x11 => if x11 = 5 then (some (0, nI p, nI b0, gt, gd, h)) else ((rd_ h 59 0).bind fun x13 => (wr_ h 59 0 (x13 + 1)).bind fun y14 => (f_X8_ends (nI n) (nI p) (nI b0) gt gd at_).bind fun q15 => (zb_ q15.1).bind fun z16 => some (z16, q15.2.1, q15.2.2.1, q15.2.2.2.1, q15.2.2.2.2, y14))) = some (b2i f, nI p2, nI b, km, vm, h') ∧ (f = true → p < p1 ∧ p1 ≤ n ∧ p2 = p1 ∧ DR h' nr' nd nc na nw o s l cr ne wo ar re wi) := by
  have h0 : h 0 = nI nr := hD.1.1.1
  have l0 : nr ≤ 5 := hD.1.2.1.1
  have e0 : rd_ h 59 0 = some (nI nr) := by rw [rdL (by omega) (by omega)]; exact congrArg some h0
  unfold f_X6_readsRoom
  rw [e0, Option.bind_some, Option.bind_some]
  by_cases c : nr = 5
  · subst c
    rw [if_neg (by decide), if_pos (by decide)]
    exact ⟨false, b0, p, p, rk, rv, gt, gd, 5, h, rfl, rfl, fun z => by cases z⟩
  · rw [if_pos (show nI nr < (5 : Int32) by rw [show (5 : Int32) = nI 5 from rfl, nI_ltI (by omega) (by decide)]; omega), if_neg (show ¬ nI nr = (5 : Int32) from fun z => by rw [show (5 : Int32) = nI 5 from rfl, nI_eq (by omega) (by decide)] at z; exact c z), addR, wrL (by omega) (by omega), Option.bind_some]
    obtain ⟨f, b, p1, p2, kc, vc, km, vm, s1, s2, s3⟩ := both_end hT hp (nI b0) rk rv (nI b0) gt gd
    rw [s1, s2, Option.bind_some, Option.bind_some]
    dsimp only
    rw [zb_b, Option.bind_some, Option.bind_some]
    exact ⟨f, b, p1, p2, kc, vc, km, vm, nr + 1, _, rfl, rfl, fun z => ⟨(s3 z).1, (s3 z).2.1, (s3 z).2.2, DR_room hD (by omega)⟩⟩
theorem both_door {n p b0 : Nat} {t : Nat → Nat} {at_ bt_ h o s l cr ne wo ar re wi : Nat → Int32} {nr nd nc na nw : Nat} (hT : TX n t at_ bt_) (hp : p ≤ n) (hD : DR h nr nd nc na nw o s l cr ne wo ar re wi) (rk rv gt gd : Int32) : ∃ (f : Bool) (b p1 p2 : Nat) (kc vc km vm : Int32) (nd' : Nat) (o' s' h' : Nat → Int32), f_X6_readsDoor (nI b0) (nI n) (nI p) rk rv bt_ (nI nr) (nI nd) o s = some (b2i f, nI b, nI p1, kc, vc, nI nd', o', s') ∧ f_X8_readDoor (nI n) (nI p) (nI b0) gt gd at_ h = some (b2i f, nI p2, nI b, km, vm, h') ∧ (f = true → p < p1 ∧ p1 ≤ n ∧ p2 = p1 ∧ DR h' nr nd' nc na nw o' s' l cr ne wo ar re wi) := by
  have h0 : h 0 = nI nr := hD.1.1.1
  have h1 : h 1 = nI nd := hD.1.1.2.1
  obtain ⟨l0, l1, l2, l3, l4⟩ := hD.1.2.1
  unfold f_X6_readsDoor f_X8_readDoor
  rw [(show rd_ h 59 1 = some (nI nd) by rw [rdL (by omega) (by omega)]; exact congrArg some h1), (show rd_ h 59 0 = some (nI nr) by rw [rdL (by omega) (by omega)]; exact congrArg some h0), Option.bind_some, Option.bind_some]
  by_cases c : nd = 5
  · subst c
    rw [if_pos (by decide), if_pos (by decide)]
    exact ⟨false, b0, p, p, rk, rv, gt, gd, 5, o, s, h, rfl, rfl, fun z => by cases z⟩
  · rw [if_neg (show ¬ (5 : Int32) ≤ nI nd by rw [show (5 : Int32) = nI 5 from rfl, nI_leI (by decide) (by omega)]; omega), if_neg (show ¬ nI nd = (5 : Int32) from fun z => by rw [show (5 : Int32) = nI 5 from rfl, nI_eq (by omega) (by decide)] at z; exact c z), Option.bind_some, mulL, addL]
    obtain ⟨f, b, p1, p2, kc, vc, km, vm, s1, s2, s3⟩ := both_number hT hp (nI b0) rk rv (nI b0) gt gd 0 (nI nr - 1)
    rw [s1, s2, Option.bind_some, Option.bind_some]
    dsimp only
    cases f with
    | false =>
      rw [bf0, bf0]
      exact ⟨false, b, p1, p2, kc, vc, km, vm, nd, o, s, h, rfl, rfl, fun z => by cases z⟩
    | true =>
      obtain ⟨u1, u2, u3, u4, u5, u6⟩ := s3 rfl
      subst u3 u4
      rw [bt0, bt0, wr_ok (by omega) (by omega), Option.bind_some, wr_ok (by omega) (by omega), Option.bind_some, (show rd_ (upd h (5 + 2 * nd) vc) 59 0 = some (nI nr) by rw [rdL (by omega) (by omega)]; exact congrArg some ((pk_un (by omega)).trans h0)), Option.bind_some]
      obtain ⟨f2, b2, p3, p4, kc2, vc2, km2, vm2, s4, s5, s6⟩ := both_number hT u2 (nI b) kc vc (nI b) km vc 0 (nI nr - 1)
      rw [s4, s5, Option.bind_some, Option.bind_some]
      dsimp only
      cases f2 with
      | false =>
        rw [bf0, bf0]
        exact ⟨false, b2, p3, p4, kc2, vc2, km2, vm2, nd, _, s, _, rfl, rfl, fun z => by cases z⟩
      | true =>
        obtain ⟨w1, w2, w3, w4, w5, w6⟩ := s6 rfl
        subst w3 w4
        rw [bt0, bt0, wr_ok (by omega) (by omega), Option.bind_some, nI_1 (5 + 2 * nd), wr_ok (by omega) (by omega), Option.bind_some, (show rd_ (upd (upd h (5 + 2 * nd) vc) (5 + 2 * nd + 1) vc2) 59 1 = some (nI nd) by rw [rdL (by omega) (by omega)]; exact congrArg some ((pk_un (by omega)).trans ((pk_un (by omega)).trans h1))), Option.bind_some, nI_1 nd, wrL (by omega) (by omega), Option.bind_some]
        obtain ⟨f3, b3, p5, p6, kc3, vc3, km3, vm3, s7, s8, s9⟩ := both_end hT w2 (nI b2) kc2 vc2 (nI b2) km2 vc2
        rw [s7, s8, Option.bind_some, Option.bind_some]
        dsimp only
        rw [zb_b, Option.bind_some, Option.bind_some]
        exact ⟨f3, b3, p5, p6, kc3, vc3, km3, vm3, nd + 1, _, _, _, rfl, rfl, fun z => ⟨by have := (s9 z).1; omega, (s9 z).2.1, (s9 z).2.2, DR_door hD (by omega) (num_ix l0 u6) (num_ix l0 w6)⟩⟩
theorem both_candle {n p b0 : Nat} {t : Nat → Nat} {at_ bt_ h o s l cr ne wo ar re wi : Nat → Int32} {nr nd nc na nw : Nat} (hT : TX n t at_ bt_) (hp : p ≤ n) (hD : DR h nr nd nc na nw o s l cr ne wo ar re wi) (rk rv gt gd : Int32) : ∃ (f : Bool) (b p1 p2 : Nat) (kc vc km vm : Int32) (nc' : Nat) (l' cr' h' : Nat → Int32), f_X6_readsCandle (nI b0) (nI n) (nI p) rk rv bt_ (nI nr) (nI nc) l cr = some (b2i f, nI b, nI p1, kc, vc, nI nc', l', cr') ∧ f_X8_readCandle (nI n) (nI p) (nI b0) gt gd at_ h = some (b2i f, nI p2, nI b, km, vm, h') ∧ (f = true → p < p1 ∧ p1 ≤ n ∧ p2 = p1 ∧ DR h' nr nd nc' na nw o s l' cr' ne wo ar re wi) := by
  have h0 : h 0 = nI nr := hD.1.1.1
  have h1 : h 2 = nI nc := hD.1.1.2.2.1
  obtain ⟨l0, l1, l2, l3, l4⟩ := hD.1.2.1
  unfold f_X6_readsCandle f_X8_readCandle
  rw [(show rd_ h 59 2 = some (nI nc) by rw [rdL (by omega) (by omega)]; exact congrArg some h1), Option.bind_some, Option.bind_some]
  by_cases c : nc = 6
  · subst c
    rw [if_pos (by decide), if_pos (by decide)]
    exact ⟨false, b0, p, p, rk, rv, gt, gd, 6, l, cr, h, rfl, rfl, fun z => by cases z⟩
  · rw [if_neg (show ¬ (6 : Int32) ≤ nI nc by rw [show (6 : Int32) = nI 6 from rfl, nI_leI (by decide) (by omega)]; omega), if_neg (show ¬ nI nc = (6 : Int32) from fun z => by rw [show (6 : Int32) = nI 6 from rfl, nI_eq (by omega) (by decide)] at z; exact c z), mulL, addL]
    obtain ⟨f, b, p1, p2, kc, vc, km, vm, s1, s2, s3⟩ := both_number hT hp (nI b0) rk rv (nI b0) gt gd 1 60
    rw [s1, s2, Option.bind_some, Option.bind_some]
    dsimp only
    cases f with
    | false =>
      rw [bf0, bf0]
      exact ⟨false, b, p1, p2, kc, vc, km, vm, nc, l, cr, h, rfl, rfl, fun z => by cases z⟩
    | true =>
      obtain ⟨u1, u2, u3, u4, u5, u6⟩ := s3 rfl
      obtain ⟨v, v1, v2, v3⟩ := num_rg (lo := 1) (hi := 60) (by decide) (by decide) u6
      subst u3 u4 v1
      rw [bt0, bt0, wr_ok (by omega) (by omega), Option.bind_some, wr_ok (by omega) (by omega), Option.bind_some, (show rd_ (upd h (15 + 2 * nc) (nI v)) 59 0 = some (nI nr) by rw [rdL (by omega) (by omega)]; exact congrArg some ((pk_un (by omega)).trans h0)), Option.bind_some]
      obtain ⟨f2, b2, p3, p4, kc2, vc2, km2, vm2, s4, s5, s6⟩ := both_number hT u2 (nI b) kc (nI v) (nI b) km (nI v) 0 (nI nr - 1)
      rw [s4, s5, Option.bind_some, Option.bind_some]
      dsimp only
      cases f2 with
      | false =>
        rw [bf0, bf0]
        exact ⟨false, b2, p3, p4, kc2, vc2, km2, vm2, nc, _, cr, _, rfl, rfl, fun z => by cases z⟩
      | true =>
        obtain ⟨w1, w2, w3, w4, w5, w6⟩ := s6 rfl
        subst w3 w4
        rw [bt0, bt0, wr_ok (by omega) (by omega), Option.bind_some, nI_1 (15 + 2 * nc), wr_ok (by omega) (by omega), Option.bind_some, (show rd_ (upd (upd h (15 + 2 * nc) (nI v)) (15 + 2 * nc + 1) vc2) 59 2 = some (nI nc) by rw [rdL (by omega) (by omega)]; exact congrArg some ((pk_un (by omega)).trans ((pk_un (by omega)).trans h1))), Option.bind_some, nI_1 nc, wrL (by omega) (by omega), Option.bind_some]
        obtain ⟨f3, b3, p5, p6, kc3, vc3, km3, vm3, s7, s8, s9⟩ := both_end hT w2 (nI b2) kc2 vc2 (nI b2) km2 vc2
        rw [s7, s8, Option.bind_some, Option.bind_some]
        dsimp only
        rw [zb_b, Option.bind_some, Option.bind_some]
        exact ⟨f3, b3, p5, p6, kc3, vc3, km3, vm3, nc + 1, _, _, _, rfl, rfl, fun z => ⟨by have := (s9 z).1; omega, (s9 z).2.1, (s9 z).2.2, DR_candle hD (by omega) ⟨v2, v3⟩ (num_ix l0 w6)⟩⟩
