/-! cut: the class's search -/
theorem c_better {bc bs x t : Nat} (h1 : bc ≤ 99) (h2 : bs ≤ 1000) (h3 : x ≤ 99) (h4 : t ≤ 1000) : (x < bc ∨ (x = bc ∧ t < bs) → f_X0_isBetter (nI bc) (nI bs) (nI x) (nI t) = some 1) ∧ (¬ (x < bc ∨ (x = bc ∧ t < bs)) → f_X0_isBetter (nI bc) (nI bs) (nI x) (nI t) = some 0) := by
  unfold f_X0_isBetter
  have e1 : (nI x < nI bc) = (x < bc) := propext (nI_ltI (by omega) (by omega))
  have e2 : (nI x = nI bc) = (x = bc) := propext (nI_eq (by omega) (by omega))
  have e3 : (nI bs ≤ nI t) = (bs ≤ t) := propext (nI_leI (by omega) (by omega))
  simp only [e1, e2, e3]
  constructor
  · intro h
    by_cases c1 : x < bc
    · rw [if_pos c1]
    · rw [if_neg c1, if_pos (by omega), if_neg (by omega)]
  · intro h
    rw [if_neg (by omega)]
    by_cases c2 : x = bc
    · rw [if_pos c2, if_pos (by omega)]
    · rw [if_neg c2]
theorem mkd_64 (d : Nat → Nat) (j : Nat) : mkd d j < 64 := mk_64 (Nat.le_refl 6)
theorem mkd_le (d : Nat → Nat) (j : Nat) : pop_ (mkd d j) ≤ 6 := pop_le_d 6 (by decide) _ (mkd_64 d j) (mkd_64 d j)
theorem stk_le {S d : Nat → Nat} {j : Nat} (hS : ∀ c, c < 6 → S c ≤ 60) : stk S d j ≤ 360 := sn_le (B := 60) hS
theorem mkd_ext {d e : Nat → Nat} {j : Nat} (h : ∀ k, k < j → d k = e k) : mkd d j = mkd e j := mk_ext (fun _ _ => ub_ext h)
theorem stk_ext {S d e : Nat → Nat} {j : Nat} (h : ∀ k, k < j → d k = e k) : stk S d j = stk S e j := sn_ext (fun _ _ => ⟨ub_ext h, fun _ => rfl⟩)
noncomputable def Gc (nc : Nat) (L S : Nat → Nat) (w q a : Nat) (st : Nat × Nat × (Nat → Nat)) (c : Nat) : Nat × Nat × (Nat → Nat) := fo (fun c => FB nc L S w q (a * nc + c)) (min c nc) st
theorem Gc_0 {nc w q a : Nat} {L S : Nat → Nat} {st : Nat × Nat × (Nat → Nat)} : Gc nc L S w q a st 0 = st := by unfold Gc; rw [Nat.zero_min]; rfl
theorem Gc_6 {nc w q a : Nat} {L S : Nat → Nat} {st : Nat × Nat × (Nat → Nat)} (h : nc ≤ 6) : Gc nc L S w q a st 6 = FB nc L S w (q + 1) a st := by unfold Gc; rw [show min 6 nc = nc by omega]; rfl
theorem Gc_s {nc w q a : Nat} {L S : Nat → Nat} {st : Nat × Nat × (Nat → Nat)} (c : Nat) : Gc nc L S w q a st (c + 1) = if c < nc then FB nc L S w q (a * nc + c) (Gc nc L S w q a st c) else Gc nc L S w q a st c := by
  unfold Gc
  by_cases e : c < nc
  · rw [if_pos e, show min (c + 1) nc = c + 1 by omega, show min c nc = c by omega]
    rfl
  · rw [if_neg e, show min (c + 1) nc = nc by omega, show min c nc = nc by omega]
theorem c_place {nc w : Nat} {L S : Nat → Nat} {wn stock : Nat → Int32} (hnc : nc ≤ 6) (hw : w ≤ 6) (hL : ∀ i, i < w → 1 ≤ L i ∧ L i ≤ 60 ∧ wn i = nI (L i)) (hS : ∀ c, c < 6 → S c ≤ 60 ∧ stock c = nI (S c)) (hS0 : ∀ c, nc ≤ c → c < 6 → S c = 0) : ∀ (q p a n : Nat) (st : Nat × Nat × (Nat → Nat)) (bway rem way : Nat → Int32), p + q = w → q < n → st.1 ≤ 7 → st.2.1 ≤ 360 → (st.1 < 7 → ∀ k, k < w → bway k = nI (st.2.2 k)) → (∀ c, c < 6 → px L (dg nc p a) p c ≤ S c ∧ rem c = nI (S c - px L (dg nc p a) p c)) → (∀ k, k < p → way k = nI (dg nc p a k)) → ∃ bway' way', f_X0_place n (nI w) (nI st.1) (nI st.2.1) wn bway stock rem way (nI p) (nI (mkd (dg nc p a) p)) (nI (stk S (dg nc p a) p)) = some (nI (FB nc L S w q a st).1, nI (FB nc L S w q a st).2.1, bway', rem, way') ∧ (FB nc L S w q a st).1 ≤ 7 ∧ (FB nc L S w q a st).2.1 ≤ 360 ∧ ((FB nc L S w q a st).1 < 7 → ∀ k, k < w → bway' k = nI ((FB nc L S w q a st).2.2 k)) ∧ (∀ k, k < p → way' k = nI (dg nc p a k)) := by
  have hS6 : ∀ c, c < 6 → S c ≤ 60 := fun c hc => (hS c hc).1
  intro q
  induction q with
  | zero =>
    intro p a n st bway rem way hp hn s1 s2 s3 hrem hway
    obtain ⟨n, rfl⟩ : ∃ z, n = z + 1 := ⟨n - 1, by omega⟩
    have : p = w := by omega
    subst this
    have k1 := mkd_le (dg nc p a) p
    have k2 := stk_le (d := dg nc p a) (j := p) hS6
    obtain ⟨b1, b2⟩ := c_better (bc := st.1) (bs := st.2.1) (x := pop_ (mkd (dg nc p a) p)) (t := stk S (dg nc p a) p) (by omega) (by omega) (by omega) (by omega)
    rw [f_X0_place]
    unfold f_X0_place_b f_X0_place_27
    rw [pop_d _ (mkd_64 _ _), Option.bind_some]
    by_cases hb : bt (mkd (dg nc p a) p) (stk S (dg nc p a) p) st
    · have eU : FB nc L S p 0 a st = (pop_ (mkd (dg nc p a) p), stk S (dg nc p a) p, dg nc p a) := U_yes ⟨fun c hc => (hrem c (by omega)).1, hb⟩
      rw [eU, b1 hb, Option.bind_some, if_neg (by decide), if_pos ((nI_leI (by omega) (by omega)).mpr (Nat.le_refl _)), Option.bind_some]
      refine ⟨_, _, rfl, by show pop_ _ ≤ 7; omega, k2, fun _ k hk => ?_, hway⟩
      rw [pk_cpy_in (Nat.zero_le _) (by omega), Nat.sub_zero, Nat.zero_add]
      exact hway k hk
    · have eU : FB nc L S p 0 a st = st := U_no (fun h => hb h.2)
      rw [eU, b2 hb, Option.bind_some, if_pos rfl]
      exact ⟨_, _, rfl, s1, s2, s3, hway⟩
  | succ q ih =>
    intro p a n st bway rem way hp hn s1 s2 s3 hrem hway
    obtain ⟨n, rfl⟩ : ∃ z, n = z + 1 := ⟨n - 1, by omega⟩
    have k1 := mkd_le (dg nc p a) p
    have k2 := stk_le (d := dg nc p a) (j := p) hS6
    obtain ⟨b1, b2⟩ := c_better (bc := st.1) (bs := st.2.1) (x := pop_ (mkd (dg nc p a) p)) (t := stk S (dg nc p a) p) (by omega) (by omega) (by omega) (by omega)
    rw [f_X0_place]
    unfold f_X0_place_b
    rw [pop_d _ (mkd_64 _ _), Option.bind_some]
    by_cases hb : bt (mkd (dg nc p a) p) (stk S (dg nc p a) p) st
    · obtain ⟨l1, l2, l3⟩ := hL p (by omega)
      rw [b1 hb, Option.bind_some, if_neg (by decide), if_neg (fun z => by have := (nI_leI (by omega) (by omega)).mp z; omega), if_pos (show nI p < 6 by rw [show (6 : Int32) = nI 6 from rfl, nI_ltI (by omega) (by omega)]; omega), rd_ok (by omega) (by omega), Option.bind_some, l3]
      have inner : ∀ (r c k : Nat), c + r = 6 → r < k → ∀ (bway way : Nat → Int32), (Gc nc L S w q a st c).1 ≤ 7 → (Gc nc L S w q a st c).2.1 ≤ 360 → ((Gc nc L S w q a st c).1 < 7 → ∀ k, k < w → bway k = nI ((Gc nc L S w q a st c).2.2 k)) → (∀ k, k < p → way k = nI (dg nc p a k)) → ∃ bway' way', f_X0_place_67 (f_X0_place n) (nI w) wn stock (nI p) (nI (mkd (dg nc p a) p)) (nI (stk S (dg nc p a) p)) k (nI (L p)) (nI c) (nI (Gc nc L S w q a st c).1) (nI (Gc nc L S w q a st c).2.1) bway rem way = some (nI (FB nc L S w (q + 1) a st).1, nI (FB nc L S w (q + 1) a st).2.1, bway', rem, way') ∧ (FB nc L S w (q + 1) a st).1 ≤ 7 ∧ (FB nc L S w (q + 1) a st).2.1 ≤ 360 ∧ ((FB nc L S w (q + 1) a st).1 < 7 → ∀ k, k < w → bway' k = nI ((FB nc L S w (q + 1) a st).2.2 k)) ∧ (∀ k, k < p → way' k = nI (dg nc p a k)) := by
        intro r
        induction r with
        | zero =>
          intro c k hc hk bway way g1 g2 g3 hway
          obtain ⟨k, rfl⟩ : ∃ z, k = z + 1 := ⟨k - 1, by omega⟩
          have : c = 6 := by omega
          subst this
          rw [Gc_6 hnc] at g1 g2 g3 ⊢
          rw [f_X0_place_67, if_pos (by decide)]
          exact ⟨_, _, rfl, g1, g2, g3, hway⟩
        | succ r ihr =>
          intro c k hc hk bway way g1 g2 g3 hway
          obtain ⟨k, rfl⟩ : ∃ z, k = z + 1 := ⟨k - 1, by omega⟩
          have ihr' := ihr (c + 1) k (by omega) (by omega)
          clear ihr
          obtain ⟨r1, r2⟩ := hrem c (by omega)
          have hSc := hS6 c (by omega)
          rw [f_X0_place_67, if_neg (show ¬ (6 : Int32) ≤ nI c by rw [show (6 : Int32) = nI 6 from rfl, nI_leI (by omega) (by omega)]; omega), rd_ok (by omega) (by omega), Option.bind_some, r2]
          unfold f_X0_place_107 f_X0_place_158
          rw [addR]
          by_cases c1 : S c - px L (dg nc p a) p c < L p
          · rw [if_pos ((nI_ltI (by omega) (by omega)).mpr c1)]
            have eG : Gc nc L S w q a st (c + 1) = Gc nc L S w q a st c := by
              rw [Gc_s]
              by_cases e : c < nc
              · rw [if_pos e]
                refine FB_skip (p := p + 1) (by omega) (fun d hd hf _ => ?_)
                have h1 := hf c e
                have h2 := px_mono (L := L) (d := d) (c := c) (p := p + 1) (w := w) (by omega)
                have h3 : px L d (p + 1) c = px L (dg nc p a) p c + L p := by
                  show px L d p c + _ = _
                  rw [px_ext (L := L) (c := c) (fun k hk => (hd k (by omega)).trans ((dg_next e k).trans (if_neg (by omega)))), hd p (by omega), dg_next e, if_pos rfl, if_pos rfl]
                omega
              · rw [if_neg e]
            rw [eG] at ihr'
            exact ihr' bway way g1 g2 g3 hway
          · have e : c < nc := by
              rcases Nat.lt_or_ge c nc with z | z
              · exact z
              · have := hS0 c z (by omega); omega
            have hd0 : ∀ k, k < p → dg nc (p + 1) (a * nc + c) k = dg nc p a k := fun k hk => by rw [dg_next e, if_neg (by omega)]
            have hdp : dg nc (p + 1) (a * nc + c) p = c := by rw [dg_next e, if_pos rfl]
            rw [if_neg (fun z => c1 ((nI_ltI (by omega) (by omega)).mp z)), c_bit (mkd_64 _ _) (by omega), Option.bind_some, rd_ok (by omega) (by omega), Option.bind_some, rd_ok (by omega) (by omega), Option.bind_some, wr_ok (by omega) (by omega), Option.bind_some, wr_ok (by omega) (by omega), Option.bind_some, r2, pk_sub (by omega), shl_d c (by omega), or_d _ (mkd_64 _ _) c (by omega), addR]
            have em : mkd (dg nc p a) p ||| 2 ^ c = mkd (dg nc (p + 1) (a * nc + c)) (p + 1) := by
              have := mkd_next (d := dg nc (p + 1) (a * nc + c)) (j := p) (by rw [hdp]; omega)
              rw [hdp, mkd_ext hd0] at this
              exact this
            have es := stk_next (S := S) (d := dg nc (p + 1) (a * nc + c)) (j := p) (by rw [hdp]; omega)
            rw [hdp, stk_ext hd0, ub_ext hd0] at es
            have ebit : (mkd (dg nc p a) p).testBit c = ub (dg nc p a) p c := mk_bit (by omega)
            have epx : ∀ c', px L (dg nc (p + 1) (a * nc + c)) (p + 1) c' = px L (dg nc p a) p c' + (if c = c' then L p else 0) := fun c' => by
              show px L (dg nc (p + 1) (a * nc + c)) p c' + (if dg nc (p + 1) (a * nc + c) p = c' then L p else 0) = _
              rw [px_ext hd0, hdp]
            obtain ⟨bway', way', f1, f2, f3, f4, f5⟩ := ih (p + 1) (a * nc + c) n (Gc nc L S w q a st c) bway (upd rem c (nI (S c - px L (dg nc p a) p c - L p))) (upd way p (nI c)) (by omega) (by omega) g1 g2 g3 (fun c' hc' => by
              rw [epx c']
              obtain ⟨y1, y2⟩ := hrem c' hc'
              by_cases z : c = c'
              · subst z
                rw [if_pos rfl, pk_us]
                exact ⟨by omega, by rw [Nat.sub_sub]⟩
              · rw [if_neg z, pk_un (fun y => z y.symm), Nat.add_zero]
                exact ⟨y1, y2⟩) (fun k hk => by
              by_cases z : k = p
              · subst z
                rw [pk_us, hdp]
              · rw [pk_un z, hd0 k (by omega)]
                exact hway k (by omega))
            have eG : Gc nc L S w q a st (c + 1) = FB nc L S w q (a * nc + c) (Gc nc L S w q a st c) := by rw [Gc_s, if_pos e]
            rw [eG] at ihr'
            have hback : upd (upd rem c (nI (S c - px L (dg nc p a) p c - L p))) c (upd rem c (nI (S c - px L (dg nc p a) p c - L p)) c + nI (L p)) = rem := by
              rw [pk_us, nI_add, upd_upd, show S c - px L (dg nc p a) p c - L p + L p = S c - px L (dg nc p a) p c by omega, ← r2, upd_self]
            have go : ∀ x : Nat, x = stk S (dg nc (p + 1) (a * nc + c)) (p + 1) → ∃ bway' way', ((f_X0_place n (nI w) (nI (Gc nc L S w q a st c).1) (nI (Gc nc L S w q a st c).2.1) wn bway stock (upd rem c (nI (S c - px L (dg nc p a) p c - L p))) (upd way p (nI c)) (nI (p + 1)) (nI (mkd (dg nc p a) p ||| 2 ^ c)) (nI x)).bind fun q11 => (rd_ q11.2.2.2.1 6 (nI c)).bind fun x12 => (wr_ q11.2.2.2.1 6 (nI c) (x12 + nI (L p))).bind fun y13 => f_X0_place_67 (f_X0_place n) (nI w) wn stock (nI p) (nI (mkd (dg nc p a) p)) (nI (stk S (dg nc p a) p)) k (nI (L p)) (nI (c + 1)) q11.1 q11.2.1 q11.2.2.1 y13 q11.2.2.2.2) = some (nI (FB nc L S w (q + 1) a st).1, nI (FB nc L S w (q + 1) a st).2.1, bway', rem, way') ∧ (FB nc L S w (q + 1) a st).1 ≤ 7 ∧ (FB nc L S w (q + 1) a st).2.1 ≤ 360 ∧ ((FB nc L S w (q + 1) a st).1 < 7 → ∀ k, k < w → bway' k = nI ((FB nc L S w (q + 1) a st).2.2 k)) ∧ (∀ k, k < p → way' k = nI (dg nc p a k)) := fun x hx => by
              rw [em, hx, f1, Option.bind_some]
              show ∃ bway'_1 way'_1, ((rd_ (upd rem c (nI (S c - px L (dg nc p a) p c - L p))) 6 (nI c)).bind fun x12 => (wr_ (upd rem c (nI (S c - px L (dg nc p a) p c - L p))) 6 (nI c) (x12 + nI (L p))).bind fun y13 => f_X0_place_67 (f_X0_place n) (nI w) wn stock (nI p) (nI (mkd (dg nc p a) p)) (nI (stk S (dg nc p a) p)) k (nI (L p)) (nI (c + 1)) (nI (FB nc L S w q (a * nc + c) (Gc nc L S w q a st c)).1) (nI (FB nc L S w q (a * nc + c) (Gc nc L S w q a st c)).2.1) bway' y13 way') = _ ∧ _
              rw [rd_ok (by omega) (by omega), Option.bind_some, wr_ok (by omega) (by omega), Option.bind_some, hback]
              exact ihr' bway' way' f2 f3 f4 (fun k hk => by rw [f5 k (by omega), hd0 k hk])
            cases hu : ub (dg nc p a) p c with
            | true =>
              rw [hu, if_pos rfl, Nat.add_zero] at es
              rw [ebit, hu, bt1, Int32.add_zero]
              exact go _ es.symm
            | false =>
              rw [hu, if_neg (by decide)] at es
              rw [ebit, hu, bf1, (hS c (by omega)).2, nI_add, Option.bind_some, pk_sub (by omega), wr_ok (by omega) (by omega), Option.bind_some, Option.bind_some]
              exact go _ es.symm
      have l := inner 6 0 fl_ (by omega) (fl_lt (by omega)) bway way (by rw [Gc_0]; exact s1) (by rw [Gc_0]; exact s2) (by rw [Gc_0]; exact s3) hway
      rw [Gc_0, show nI 0 = (0 : Int32) from rfl] at l
      exact l
    · have eU : FB nc L S w (q + 1) a st = st := FB_skip hp.symm (fun d hd _ hx => hb (bt_mono (mkd_pop (by omega) (fun k hk => (hd k hk).symm)) (stk_mono (by omega) (fun k hk => (hd k hk).symm)) hx))
      rw [eU, b2 hb, Option.bind_some, if_pos rfl]
      exact ⟨_, _, rfl, s1, s2, s3, hway⟩
theorem c_len {w : Nat} {L : Nat → Nat} {wn : Nat → Int32} (hw : w ≤ 6) (hL : ∀ i, i < w → 1 ≤ L i ∧ L i ≤ 60 ∧ wn i = nI (L i)) : f_X0_length (nI w) wn = some (nI (ln_ L w)) := by
  unfold f_X0_length
  have loop : ∀ (q j k : Nat), j + q = w → q < k → f_X0_length_4 (nI w) wn k (nI (ln_ L j)) (nI j) = some (nI (ln_ L w)) := by
    intro q
    induction q with
    | zero =>
      intro j k hj hk
      obtain ⟨k, rfl⟩ : ∃ z, k = z + 1 := ⟨k - 1, by omega⟩
      have : j = w := by omega
      subst this
      rw [f_X0_length_4, if_pos ((nI_leI (by omega) (by omega)).mpr (Nat.le_refl _))]
    | succ q ih =>
      intro j k hj hk
      obtain ⟨k, rfl⟩ : ∃ z, k = z + 1 := ⟨k - 1, by omega⟩
      rw [f_X0_length_4, if_neg (fun z => by have := (nI_leI (by omega) (by omega)).mp z; omega), rd_ok (by omega) (by omega), Option.bind_some, (hL j (by omega)).2.2, nI_add, addR]
      exact ih (j + 1) k (by omega) (by omega)
  have l := loop w 0 fl_ (by omega) (fl_lt (by omega))
  rw [show nI 0 = (0 : Int32) from rfl, show ln_ L 0 = 0 from rfl, show nI 0 = (0 : Int32) from rfl] at l
  exact l
theorem ln_le {L : Nat → Nat} {w : Nat} : ∀ {j : Nat}, (∀ i, i < j → L i ≤ 60) → ln_ L j ≤ j * 60
  | 0, _ => Nat.zero_le _
  | j + 1, h => by
    have := ln_le (L := L) (w := w) (j := j) (fun i hi => h i (by omega))
    have := h j (by omega)
    unfold ln_
    omega
/-- what may be cut from: the candles that are not lit -/
def Sf (now : Nat → Int32) (c : Nat) : Nat := if now (3 + 4 * c) = 1 then 0 else tn (now (1 + 4 * c))
theorem Sf_is {h now : Nat → Int32} {nr nd nc na : Nat} (hN : NI h nr nd nc na now) : (∀ c, c < 6 → Sf now c ≤ 60) ∧ (∀ c, nc ≤ c → c < 6 → Sf now c = 0) ∧ ∀ c, c < 6 → now (3 + 4 * c) ≠ 1 → now (1 + 4 * c) = nI (Sf now c) := by
  have key : ∀ c, c < 6 → ∃ l, l ≤ 60 ∧ now (1 + 4 * c) = nI l ∧ (nc ≤ c → l = 0) := fun c hc => by
    by_cases e : c < nc
    · obtain ⟨-, l, l1, l2, -⟩ := hN.2.2.2.1 c e
      exact ⟨l, l1, l2, fun z => absurd z (by omega)⟩
    · exact ⟨0, by omega, hN.2.2.2.2.2 c (by omega) hc, fun _ => rfl⟩
  refine ⟨fun c hc => ?_, fun c h1 hc => ?_, fun c hc hl => ?_⟩
  · obtain ⟨l, l1, l2, -⟩ := key c hc
    unfold Sf
    split
    · omega
    · rw [l2, tn_nI (by omega)]; exact l1
  · obtain ⟨l, l1, l2, l3⟩ := key c hc
    unfold Sf
    rw [if_neg (by rw [(hN.1 c hc).2 h1]; decide), l2, tn_nI (by omega)]
    exact l3 h1
  · obtain ⟨l, l1, l2, -⟩ := key c hc
    unfold Sf
    rw [if_neg hl, l2, tn_nI (by omega)]
theorem c_find {h now wn bway stock rem way : Nat → Int32} {nr nd nc na w : Nat} {L : Nat → Nat} {bc0 bs0 : Int32} (hN : NI h nr nd nc na now) (hnc : nc ≤ 6) (hw : w ≤ 6) (hL : ∀ i, i < w → 1 ≤ L i ∧ L i ≤ 60 ∧ wn i = nI (L i)) : ∃ bway' stock' rem' way', f_X0_findWay (nI w) bc0 bs0 wn bway stock rem way (rowOf now) = some (b2i (decide ((FB nc L (Sf now) w w 0 (7, 0, fun _ => 0)).1 ≤ 6)), nI (FB nc L (Sf now) w w 0 (7, 0, fun _ => 0)).1, nI (FB nc L (Sf now) w w 0 (7, 0, fun _ => 0)).2.1, bway', stock', rem', way') ∧ (FB nc L (Sf now) w w 0 (7, 0, fun _ => 0)).1 ≤ 7 ∧ (FB nc L (Sf now) w w 0 (7, 0, fun _ => 0)).2.1 ≤ 360 ∧ ((FB nc L (Sf now) w w 0 (7, 0, fun _ => 0)).1 < 7 → ∀ k, k < w → bway' k = nI ((FB nc L (Sf now) w w 0 (7, 0, fun _ => 0)).2.2 k)) := by
  obtain ⟨s1, s2, s3⟩ := Sf_is hN
  unfold f_X0_findWay
  have hln : ln_ L w ≤ w * 60 := ln_le (w := w) (fun i hi => (hL i hi).2.1)
  have hsa : ∀ j, j ≤ 6 → sa (Sf now) j ≤ j * 60 := by
    intro j
    induction j with
    | zero => intro _; exact Nat.zero_le _
    | succ j ih => intro hj; have := ih (by omega); have := s1 j (by omega); unfold sa; omega
  have e92 : ∀ (bc bs : Nat) (bway stock rem way : Nat → Int32), bc ≤ 7 → f_X0_findWay_92 (nI w) wn (rowOf now) (nI bc) (nI bs) bway stock rem way = some (b2i (decide (bc ≤ 6)), nI bc, nI bs, bway, stock, rem, way) := fun bc bs bway stock rem way hb => by
    unfold f_X0_findWay_92
    by_cases c : bc ≤ 6
    · rw [if_neg (show ¬ (6 : Int32) < nI bc by rw [show (6 : Int32) = nI 6 from rfl, nI_ltI (by omega) (by omega)]; omega), decide_eq_true c]; rfl
    · rw [if_pos (show (6 : Int32) < nI bc by rw [show (6 : Int32) = nI 6 from rfl, nI_ltI (by omega) (by omega)]; omega), decide_eq_false c]; rfl
  have loop : ∀ (q j k : Nat), j + q = 6 → q < k → ∀ (bc bs : Int32) (stock rem : Nat → Int32), (∀ c, c < j → stock c = nI (Sf now c) ∧ rem c = nI (Sf now c)) → ∃ bway' stock' rem' way', f_X0_findWay_4 (nI w) wn (rowOf now) k (nI (sa (Sf now) j)) (nI j) bc bs bway stock rem way = some (b2i (decide ((FB nc L (Sf now) w w 0 (7, 0, fun _ => 0)).1 ≤ 6)), nI (FB nc L (Sf now) w w 0 (7, 0, fun _ => 0)).1, nI (FB nc L (Sf now) w w 0 (7, 0, fun _ => 0)).2.1, bway', stock', rem', way') ∧ (FB nc L (Sf now) w w 0 (7, 0, fun _ => 0)).1 ≤ 7 ∧ (FB nc L (Sf now) w w 0 (7, 0, fun _ => 0)).2.1 ≤ 360 ∧ ((FB nc L (Sf now) w w 0 (7, 0, fun _ => 0)).1 < 7 → ∀ k, k < w → bway' k = nI ((FB nc L (Sf now) w w 0 (7, 0, fun _ => 0)).2.2 k)) := by
    intro q
    induction q with
    | zero =>
      intro j k hj hk bc bs stock rem hst
      obtain ⟨k, rfl⟩ : ∃ z, k = z + 1 := ⟨k - 1, by omega⟩
      have : j = 6 := by omega
      subst this
      have h6 := hsa 6 (by omega)
      rw [f_X0_findWay_4, if_pos (by decide), c_len hw hL, Option.bind_some]
      by_cases c : sa (Sf now) 6 < ln_ L w
      · have eF : FB nc L (Sf now) w w 0 (7, 0, fun _ => 0) = (7, 0, fun _ => 0) := by
          rw [FB_rows]
          refine fo_id (fun i hi => U_no (fun hx => ?_))
          have hn0 : 0 < nc := by
            rcases Nat.eq_zero_or_pos nc with z | z
            · exfalso
              rw [z] at hi
              rcases Nat.eq_zero_or_pos w with y | y
              · rw [y] at c
                exact absurd c (by show ¬ _ < 0; omega)
              · rw [Nat.zero_pow y] at hi
                omega
            · exact z
          have := all_le (fun k => dg_lt hn0) hnc hx.1
          omega
        rw [if_pos ((nI_ltI (by omega) (by omega)).mpr c), eF]
        have e := e92 7 0 bway stock rem way (by omega)
        rw [show nI 7 = (7 : Int32) from rfl, show nI 0 = (0 : Int32) from rfl] at e
        rw [e]
        exact ⟨_, _, _, _, rfl, by decide, by decide, fun z => absurd z (by decide)⟩
      · rw [if_neg (fun z => c ((nI_ltI (by omega) (by omega)).mp z))]
        obtain ⟨bway', way', f1, f2, f3, f4, -⟩ := c_place (L := L) (S := Sf now) (wn := wn) (stock := stock) hnc hw hL (fun c hc => ⟨s1 c hc, (hst c hc).1⟩) s2 w 0 0 8 (7, 0, fun _ => 0) bway rem way (by omega) (by omega) (by decide) (by decide) (fun z => absurd z (by decide)) (fun c hc => ⟨Nat.zero_le _, (hst c hc).2⟩) (fun k hk => absurd hk (by omega))
        have f1' : f_X0_place 8 (nI w) 7 0 wn bway stock rem way 0 0 0 = some (nI (FB nc L (Sf now) w w 0 (7, 0, fun _ => 0)).1, nI (FB nc L (Sf now) w w 0 (7, 0, fun _ => 0)).2.1, bway', rem, way') := f1
        rw [f1', Option.bind_some]
        show ∃ bway'_1 stock' rem' way'_1, f_X0_findWay_92 (nI w) wn (rowOf now) (nI (FB nc L (Sf now) w w 0 (7, 0, fun _ => 0)).1) (nI (FB nc L (Sf now) w w 0 (7, 0, fun _ => 0)).2.1) bway' stock rem way' = _ ∧ _
        rw [e92 _ _ _ _ _ _ f2]
        exact ⟨_, _, _, _, rfl, f2, f3, f4⟩
    | succ q ih =>
      intro j k hj hk bc bs stock rem hst
      obtain ⟨k, rfl⟩ : ∃ z, k = z + 1 := ⟨k - 1, by omega⟩
      have ih' := ih (j + 1) k (by omega) (by omega)
      have fin : ∀ x : Int32, x = nI (Sf now j) → ∃ bway' stock' rem' way', f_X0_findWay_38 (nI w) wn (rowOf now) (f_X0_findWay_4 (nI w) wn (rowOf now) k) (nI (sa (Sf now) j)) (nI j) x (nI j) bc bs bway stock rem way = some (b2i (decide ((FB nc L (Sf now) w w 0 (7, 0, fun _ => 0)).1 ≤ 6)), nI (FB nc L (Sf now) w w 0 (7, 0, fun _ => 0)).1, nI (FB nc L (Sf now) w w 0 (7, 0, fun _ => 0)).2.1, bway', stock', rem', way') ∧ (FB nc L (Sf now) w w 0 (7, 0, fun _ => 0)).1 ≤ 7 ∧ (FB nc L (Sf now) w w 0 (7, 0, fun _ => 0)).2.1 ≤ 360 ∧ ((FB nc L (Sf now) w w 0 (7, 0, fun _ => 0)).1 < 7 → ∀ k, k < w → bway' k = nI ((FB nc L (Sf now) w w 0 (7, 0, fun _ => 0)).2.2 k)) := fun x hx => by
        subst hx
        unfold f_X0_findWay_38
        rw [wr_ok (by omega) (by omega), Option.bind_some, rd_ok (by omega) (by omega), Option.bind_some, wr_ok (by omega) (by omega), Option.bind_some, Option.bind_some, pk_us, nI_add, addR]
        refine ih' bc bs _ _ (fun c hc => ?_)
        by_cases e : c = j
        · subst e; rw [pk_us, pk_us]; exact ⟨rfl, rfl⟩
        · rw [pk_un e, pk_un e]; exact hst c (by omega)
      rw [f_X0_findWay_4, if_neg (show ¬ (6 : Int32) ≤ nI j by rw [show (6 : Int32) = nI 6 from rfl, nI_leI (by omega) (by omega)]; omega), rdL (by omega) (by omega), Option.bind_some]
      show ∃ bway' stock' rem' way', ((f_X7_bit (rowOf now 1) (nI j)).bind _) = _ ∧ _
      rw [row_1, c_bit (mk_64 (by omega)) (by omega), Option.bind_some, mk_bit (by omega), c_left (by omega), Option.bind_some]
      unfold litB
      by_cases c : now (3 + 4 * j) = 1
      · rw [decide_eq_true c, bt1]
        exact fin 0 (by unfold Sf; rw [if_pos c]; rfl)
      · rw [decide_eq_false c, bf1]
        exact fin _ (s3 j (by omega) c)
  have l := loop 6 0 fl_ (by omega) (fl_lt (by omega)) bc0 bs0 stock rem (fun c hc => absurd hc (by omega))
  rw [show nI 0 = (0 : Int32) from rfl, show sa (Sf now) 0 = 0 from rfl, show nI 0 = (0 : Int32) from rfl] at l
  exact l
