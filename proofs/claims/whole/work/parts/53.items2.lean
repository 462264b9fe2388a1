/-! the reader: acts, wind, an item -/
theorem both_act {n p b0 : Nat} {t : Nat → Nat} {at_ bt_ h o s l cr ne wo ar re wi : Nat → Int32} {nr nd nc na nw : Nat} (hT : TX n t at_ bt_) (hp : p ≤ n) (hD : DR h nr nd nc na nw o s l cr ne wo ar re wi) (rk rv gt gd : Int32) : ∃ (f : Bool) (b p1 p2 : Nat) (kc vc km vm : Int32) (na' : Nat) (ne' wo' ar' re' h' : Nat → Int32), f_X6_readsAct (nI b0) (nI n) (nI p) rk rv bt_ (nI nr) (nI na) ne wo ar re = some (b2i f, nI b, nI p1, kc, vc, nI na', ne', wo', ar', re') ∧ f_X8_readAct (nI n) (nI p) (nI b0) gt gd at_ h = some (b2i f, nI p2, nI b, km, vm, h') ∧ (f = true → p < p1 ∧ p1 ≤ n ∧ p2 = p1 ∧ DR h' nr nd nc na' nw o s l cr ne' wo' ar' re' wi) := by
  have h0 : h 0 = nI nr := hD.1.1.1
  have h1 : h 3 = nI na := hD.1.1.2.2.2.1
  obtain ⟨l0, l1, l2, l3, l4⟩ := hD.1.2.1
  unfold f_X6_readsAct f_X8_readAct
  rw [(show rd_ h 59 3 = some (nI na) by rw [rdL (by omega) (by omega)]; exact congrArg some h1), Option.bind_some, Option.bind_some]
  by_cases c : na = 6
  · subst c
    rw [if_pos (by decide), if_pos (by decide)]
    exact ⟨false, b0, p, p, rk, rv, gt, gd, 6, ne, wo, ar, re, h, rfl, rfl, fun z => by cases z⟩
  · rw [if_neg (show ¬ (6 : Int32) ≤ nI na by rw [show (6 : Int32) = nI 6 from rfl, nI_leI (by decide) (by omega)]; omega), if_neg (show ¬ nI na = (6 : Int32) from fun z => by rw [show (6 : Int32) = nI 6 from rfl, nI_eq (by omega) (by decide)] at z; exact c z), mulL, addL]
    obtain ⟨f, b, p1, p2, kc, vc, km, vm, s1, s2, s3⟩ := both_number hT hp (nI b0) rk rv (nI b0) gt gd 1 20
    rw [s1, s2, Option.bind_some, Option.bind_some]
    dsimp only
    cases f with
    | false =>
      rw [bf0, bf0]
      exact ⟨false, b, p1, p2, kc, vc, km, vm, na, ne, wo, ar, re, h, rfl, rfl, fun z => by cases z⟩
    | true =>
      obtain ⟨u1, u2, u3, u4, u5, u6⟩ := s3 rfl
      obtain ⟨v, v1, v2, v3⟩ := num_rg (lo := 1) (hi := 20) (by decide) (by decide) u6
      clear u6
      subst u3 u4 v1
      rw [bt0, bt0, wr_ok (by omega) (by omega), Option.bind_some, wr_ok (by omega) (by omega), Option.bind_some]
      obtain ⟨f2, b2, p3, p4, kc2, vc2, km2, vm2, s4, s5, s6⟩ := both_number hT u2 (nI b) kc (nI v) (nI b) km (nI v) 0 9
      rw [s4, s5, Option.bind_some, Option.bind_some]
      dsimp only
      cases f2 with
      | false =>
        rw [bf0, bf0]
        exact ⟨false, b2, p3, p4, kc2, vc2, km2, vm2, na, _, wo, ar, re, _, rfl, rfl, fun z => by cases z⟩
      | true =>
        obtain ⟨w1, w2, w3, w4, w5, w6⟩ := s6 rfl
        obtain ⟨x, x1, x2, x3⟩ := num_rg (lo := 0) (hi := 9) (by decide) (by decide) w6
        clear w6
        subst w3 w4 x1
        rw [bt0, bt0, wr_ok (by omega) (by omega), Option.bind_some, nI_1 (27 + 4 * na), wr_ok (by omega) (by omega), Option.bind_some, (show rd_ (upd (upd h (27 + 4 * na) (nI v)) (27 + 4 * na + 1) (nI x)) 59 0 = some (nI nr) by rw [rdL (by omega) (by omega)]; exact congrArg some ((pk_un (by omega)).trans ((pk_un (by omega)).trans h0))), Option.bind_some]
        obtain ⟨f3, b3, p5, p6, kc3, vc3, km3, vm3, s7, s8, s9⟩ := both_number hT w2 (nI b2) kc2 (nI x) (nI b2) km2 (nI x) 0 (nI nr - 1)
        rw [s7, s8, Option.bind_some, Option.bind_some]
        dsimp only
        cases f3 with
        | false =>
          rw [bf0, bf0]
          exact ⟨false, b3, p5, p6, kc3, vc3, km3, vm3, na, _, _, ar, re, _, rfl, rfl, fun z => by cases z⟩
        | true =>
          obtain ⟨y1, y2, y3, y4, y5, y6⟩ := s9 rfl
          subst y3 y4
          have y7 := num_ix l0 y6
          clear y6
          rw [bt0, bt0, wr_ok (by omega) (by omega), Option.bind_some, (show nI (27 + 4 * na) + 2 = nI (27 + 4 * na + 2) from nI_add (27 + 4 * na) 2), wr_ok (by omega) (by omega), Option.bind_some]
          obtain ⟨b4, p7, p8, kc4, vc4, km4, vm4, z1, z2, z3, z4⟩ := both_step hT y2 (nI b3) kc3 vc3 (nI b3) km3 vc3
          rw [z1, z2, Option.bind_some, Option.bind_some]
          dsimp only
          have no : ¬ kc4 = 2 → ¬ km4 = 2 → ∃ (f : Bool) (b p1 p2 : Nat) (kc vc km vm : Int32) (na' : Nat) (ne' wo' ar' re' h' : Nat → Int32), (if kc4 = 2 then (if vc4 < nI na then (f_X6_readsAct_127 (nI n) bt_ (nI nr) (nI na) (nI b4) (nI p7) kc4 vc4 (nI na) (upd ne na (nI v)) (upd wo na (nI x)) (upd ar na vc3) re) else (if vc4 = 9 then (f_X6_readsAct_127 (nI n) bt_ (nI nr) (nI na) (nI b4) (nI p7) kc4 vc4 (nI na) (upd ne na (nI v)) (upd wo na (nI x)) (upd ar na vc3) re) else (some (0, nI b4, nI p7, kc4, vc4, nI na, upd ne na (nI v), upd wo na (nI x), upd ar na vc3, re)))) else (some (0, nI b4, nI p7, kc4, vc4, nI na, upd ne na (nI v), upd wo na (nI x), upd ar na vc3, re))) = some (b2i f, nI b, nI p1, kc, vc, nI na', ne', wo', ar', re') ∧ (if km4 = 2 then (if vm4 = 9 then (f_X8_readAct_135 (nI n) at_ (nI (27 + 4 * na)) (nI p8) (nI b4) km4 vm4 (upd (upd (upd h (27 + 4 * na) (nI v)) (27 + 4 * na + 1) (nI x)) (27 + 4 * na + 2) vc3)) else ((rd_ (upd (upd (upd h (27 + 4 * na) (nI v)) (27 + 4 * na + 1) (nI x)) (27 + 4 * na + 2) vc3) 59 3).bind fun x22 => if vm4 < x22 then (f_X8_readAct_135 (nI n) at_ (nI (27 + 4 * na)) (nI p8) (nI b4) km4 vm4 (upd (upd (upd h (27 + 4 * na) (nI v)) (27 + 4 * na + 1) (nI x)) (27 + 4 * na + 2) vc3)) else (some (0, nI p8, nI b4, km4, vm4, (upd (upd (upd h (27 + 4 * na) (nI v)) (27 + 4 * na + 1) (nI x)) (27 + 4 * na + 2) vc3))))) else (some (0, nI p8, nI b4, km4, vm4, (upd (upd (upd h (27 + 4 * na) (nI v)) (27 + 4 * na + 1) (nI x)) (27 + 4 * na + 2) vc3)))) = some (b2i f, nI p2, nI b, km, vm, h') ∧ (f = true → p < p1 ∧ p1 ≤ n ∧ p2 = p1 ∧ DR h' nr nd nc na' nw o s l cr ne' wo' ar' re' wi) := fun a1 a2 => by
            rw [if_neg a1, if_neg a2]
            exact ⟨false, b4, p7, p8, kc4, vc4, km4, vm4, na, _, _, _, re, _, rfl, rfl, fun z => by cases z⟩
          rcases z4 with ⟨g1, g2⟩ | ⟨a1, a2, a3, g⟩ | ⟨g2, g1⟩
          · exact no (by rw [g1]; decide) (by rw [g2]; decide)
          · rcases g with ⟨g1, g2, -, -⟩ | ⟨g1, g2, g3, k, g4, g5⟩ | ⟨g1, g2⟩
            · exact no (by rw [g1]; decide) (by rw [g2]; decide)
            · clear no
              subst g3 a3 g5
              have ok : (nI k = 9 ∨ ixb (nI k) na) → ∃ (f : Bool) (b p1 p2 : Nat) (kc vc km vm : Int32) (na' : Nat) (ne' wo' ar' re' h' : Nat → Int32), f_X6_readsAct_127 (nI n) bt_ (nI nr) (nI na) (nI b4) (nI p8) kc4 (nI k) (nI na) (upd ne na (nI v)) (upd wo na (nI x)) (upd ar na vc3) re = some (b2i f, nI b, nI p1, kc, vc, nI na', ne', wo', ar', re') ∧ f_X8_readAct_135 (nI n) at_ (nI (27 + 4 * na)) (nI p8) (nI b4) km4 (nI k) (upd (upd (upd h (27 + 4 * na) (nI v)) (27 + 4 * na + 1) (nI x)) (27 + 4 * na + 2) vc3) = some (b2i f, nI p2, nI b, km, vm, h') ∧ (f = true → p < p1 ∧ p1 ≤ n ∧ p2 = p1 ∧ DR h' nr nd nc na' nw o s l cr ne' wo' ar' re' wi) := fun hk => by
                unfold f_X6_readsAct_127 f_X8_readAct_135
                rw [wr_ok (by omega) (by omega), Option.bind_some, (show nI (27 + 4 * na) + 3 = nI (27 + 4 * na + 3) from nI_add (27 + 4 * na) 3), wr_ok (by omega) (by omega), Option.bind_some, (show rd_ (upd (upd (upd (upd h (27 + 4 * na) (nI v)) (27 + 4 * na + 1) (nI x)) (27 + 4 * na + 2) vc3) (27 + 4 * na + 3) (nI k)) 59 3 = some (nI na) by rw [rdL (by omega) (by omega)]; exact congrArg some ((pk_un (by omega)).trans ((pk_un (by omega)).trans ((pk_un (by omega)).trans ((pk_un (by omega)).trans h1))))), Option.bind_some, nI_1 na, wrL (by omega) (by omega), Option.bind_some]
                obtain ⟨f5, b5, p9, p10, kc5, vc5, km5, vm5, s10, s11, s12⟩ := both_end hT a2 (nI b4) kc4 (nI k) (nI b4) km4 (nI k)
                rw [s10, s11, Option.bind_some, Option.bind_some]
                dsimp only
                rw [zb_b, Option.bind_some, Option.bind_some]
                exact ⟨f5, b5, p9, p10, kc5, vc5, km5, vm5, na + 1, _, _, _, _, _, rfl, rfl, fun z => ⟨by have := (s12 z).1; omega, (s12 z).2.1, (s12 z).2.2, DR_act hD (by omega) ⟨v2, v3⟩ x3 y7 hk⟩⟩
              rw [if_pos g1, if_pos g2, (show rd_ (upd (upd (upd h (27 + 4 * na) (nI v)) (27 + 4 * na + 1) (nI x)) (27 + 4 * na + 2) vc3) 59 3 = some (nI na) by rw [rdL (by omega) (by omega)]; exact congrArg some ((pk_un (by omega)).trans ((pk_un (by omega)).trans ((pk_un (by omega)).trans h1)))), Option.bind_some]
              by_cases k9 : k = 9
              · have e9 : nI k = (9 : Int32) := by rw [k9]; rfl
                rw [if_neg (show ¬ nI k < nI na from fun z => by have := (nI_ltI (by omega) (by omega)).mp z; omega), if_pos e9, if_pos e9]
                exact ok (Or.inl e9)
              · have e9 : ¬ nI k = (9 : Int32) := fun z => by rw [show (9 : Int32) = nI 9 from rfl, nI_eq (by omega) (by decide)] at z; exact k9 z
                rw [if_neg e9, if_neg e9]
                by_cases kn : k < na
                · rw [if_pos ((nI_ltI (by omega) (by omega)).mpr kn), if_pos ((nI_ltI (by omega) (by omega)).mpr kn)]
                  exact ok (Or.inr ⟨k, kn, rfl⟩)
                · rw [if_neg (fun z => kn ((nI_ltI (by omega) (by omega)).mp z)), if_neg (fun z => kn ((nI_ltI (by omega) (by omega)).mp z))]
                  exact ⟨false, b4, p8, p8, kc4, nI k, km4, nI k, na, _, _, _, re, _, rfl, rfl, fun z => by cases z⟩
            · exact no (by rw [g1]; decide) (by rw [g2]; decide)
          · rcases g1 with g1 | ⟨g1, -⟩
            · exact no (by rw [g1]; decide) (by rw [g2]; decide)
            · exact no (by rw [g1]; decide) (by rw [g2]; decide)
theorem both_wind_loop {n p0 : Nat} {t : Nat → Nat} {at_ bt_ o s l cr ne wo ar re : Nat → Int32} {nr nd nc na : Nat} (hT : TX n t at_ bt_) : ∀ (q j p k1 k2 b0 : Nat) (rk rv gt gd : Int32) (h wi : Nat → Int32), j + q = 8 → 1 ≤ j → q < k1 → q < k2 → p0 < p → p ≤ n → DR h nr nd nc na j o s l cr ne wo ar re wi → ∃ (f : Bool) (b p1 p2 : Nat) (kc vc km vm : Int32) (nw' : Nat) (wi' h' : Nat → Int32), f_X6_readsWind_44 (nI n) bt_ k1 (nI j) (nI b0) (nI p) rk rv (nI j) wi = some (b2i f, nI b, nI p1, kc, vc, nI nw', wi') ∧ ((f_X8_reads (nI n) (nI p) (nI b0) gt gd at_).bind fun q10 => f_X8_readWind_20 (nI n) at_ k2 q10.1 q10.2.1 q10.2.2.1 q10.2.2.2 h) = some (b2i f, nI p2, nI b, km, vm, h') ∧ (f = true → p0 < p1 ∧ p1 ≤ n ∧ p2 = p1 ∧ DR h' nr nd nc na nw' o s l cr ne wo ar re wi') := by
  intro q
  induction q with
  | zero =>
    intro j p k1 k2 b0 rk rv gt gd h wi hj h1j hk1 hk2 hp0 hp hD
    obtain ⟨k1, rfl⟩ : ∃ z, k1 = z + 1 := ⟨k1 - 1, by omega⟩
    obtain ⟨k2, rfl⟩ : ∃ z, k2 = z + 1 := ⟨k2 - 1, by omega⟩
    have e : j = 8 := by omega
    subst e
    have h4 : h 4 = nI 8 := hD.1.1.2.2.2.2
    obtain ⟨b, p1, p2, kc, vc, km, vm, s1, s2, s3, s4⟩ := both_step hT hp (nI b0) rk rv (nI b0) gt gd
    rw [f_X6_readsWind_44, if_pos (by decide), s2, Option.bind_some]
    unfold f_X6_readsEnd
    rw [s1, Option.bind_some]
    dsimp only
    rw [f_X8_readWind_20, (show rd_ h 59 4 = some (nI 8) by rw [rdL (by omega) (by omega)]; exact congrArg some h4), Option.bind_some, if_pos (show nI 8 = (8 : Int32) from rfl)]
    by_cases c : kc = 3
    · have hm : km = 3 ∧ b < p1 ∧ p1 ≤ n ∧ p2 = p1 := by
        rcases s4 with ⟨h1, h2⟩ | ⟨a1, a2, a3, h⟩ | ⟨h2, h1⟩
        · rw [h1] at c; exact absurd c (by decide)
        · rcases h with ⟨h1, h2, -, -⟩ | ⟨h1, h2, -⟩ | ⟨h1, h2⟩
          · rw [h1] at c; exact absurd c (by decide)
          · rw [h1] at c; exact absurd c (by decide)
          · exact ⟨h2, a1, a2, a3⟩
        · rcases h1 with h1 | ⟨h1, -⟩
          · rw [h1] at c; exact absurd c (by decide)
          · rw [h1] at c; exact absurd c (by decide)
      rw [if_pos c, if_neg (show ¬ km = 2 by rw [hm.1]; decide), if_pos hm.1, Option.bind_some]
      dsimp only
      rw [zb_1, Option.bind_some]
      exact ⟨true, b, p1, p2, kc, vc, km, vm, 8, wi, h, rfl, rfl, fun _ => ⟨by omega, hm.2.2.1, hm.2.2.2, hD⟩⟩
    · have hm : ¬ km = 3 := by
        rcases s4 with ⟨h1, h2⟩ | ⟨a1, a2, a3, h⟩ | ⟨h2, h1⟩
        · rw [h2]; decide
        · rcases h with ⟨h1, h2, -, -⟩ | ⟨h1, h2, -⟩ | ⟨h1, h2⟩
          · rw [h2]; decide
          · rw [h2]; decide
          · exact absurd h1 c
        · rw [h2]; decide
      rw [if_neg c, if_neg hm, Option.bind_some]
      dsimp only
      rw [zb_0, Option.bind_some]
      refine ⟨false, b, p1, p2, kc, vc, km, vm, 8, wi, h, rfl, ?_, fun z => by cases z⟩
      split <;> rfl
  | succ q ih =>
    intro j p k1 k2 b0 rk rv gt gd h wi hj h1j hk1 hk2 hp0 hp hD
    obtain ⟨k1, rfl⟩ : ∃ z, k1 = z + 1 := ⟨k1 - 1, by omega⟩
    obtain ⟨k2, rfl⟩ : ∃ z, k2 = z + 1 := ⟨k2 - 1, by omega⟩
    have h4 : h 4 = nI j := hD.1.1.2.2.2.2
    obtain ⟨b, p1, p2, kc, vc, km, vm, s1, s2, s3, s4⟩ := both_step hT hp (nI b0) rk rv (nI b0) gt gd
    rw [f_X6_readsWind_44, if_neg (show ¬ (8 : Int32) ≤ nI j by rw [show (8 : Int32) = nI 8 from rfl, nI_leI (by decide) (by omega)]; omega), s1, s2, Option.bind_some, Option.bind_some]
    dsimp only
    rw [f_X8_readWind_20, (show rd_ h 59 4 = some (nI j) by rw [rdL (by omega) (by omega)]; exact congrArg some h4), Option.bind_some, if_neg (show ¬ nI j = (8 : Int32) from fun z => by rw [show (8 : Int32) = nI 8 from rfl, nI_eq (by omega) (by decide)] at z; omega), Option.bind_some]
    rcases s4 with ⟨g1, g2⟩ | ⟨a1, a2, a3, g⟩ | ⟨g2, g1⟩
    · rw [if_neg (show ¬ kc = 3 by rw [g1]; decide), if_neg (show ¬ kc = 2 by rw [g1]; decide), if_neg (show ¬ km = 2 by rw [g2]; decide), if_neg (show ¬ km = 3 by rw [g2]; decide)]
      exact ⟨false, b, p1, p2, kc, vc, km, vm, j, wi, h, rfl, rfl, fun z => by cases z⟩
    · rcases g with ⟨g1, g2, -, -⟩ | ⟨g1, g2, g3, v, g4, g5⟩ | ⟨g1, g2⟩
      · rw [if_neg (show ¬ kc = 3 by rw [g1]; decide), if_neg (show ¬ kc = 2 by rw [g1]; decide), if_neg (show ¬ km = 2 by rw [g2]; decide), if_neg (show ¬ km = 3 by rw [g2]; decide)]
        exact ⟨false, b, p1, p2, kc, vc, km, vm, j, wi, h, rfl, rfl, fun z => by cases z⟩
      · subst g3 a3 g5
        rw [if_neg (show ¬ kc = 3 by rw [g1]; decide), if_pos g1, if_pos g2]
        have e1 : (nI v ≤ (1 : Int32)) = (v ≤ 1) := by rw [show (1 : Int32) = nI 1 from rfl]; exact propext (nI_leI (by omega) (by decide))
        by_cases c : v ≤ 1
        · have hv : nI v = 0 ∨ nI v = 1 := by
            rcases (show v = 0 ∨ v = 1 by omega) with y | y
            · rw [y]; exact Or.inl rfl
            · rw [y]; exact Or.inr rfl
          rw [if_pos (show nI v ≤ (1 : Int32) by rw [e1]; exact c), if_pos (show nI v ≤ (1 : Int32) by rw [e1]; exact c), wr_ok (by omega) (by omega), Option.bind_some, addL, wr_ok (by omega) (by omega), Option.bind_some, (show rd_ (upd h (51 + j) (nI v)) 59 4 = some (nI j) by rw [rdL (by omega) (by omega)]; exact congrArg some ((pk_un (by omega)).trans h4)), Option.bind_some, nI_1 j, wrL (by omega) (by omega), Option.bind_some]
          exact ih (j + 1) p2 k1 k2 b kc (nI v) km (nI v) _ _ (by omega) (by omega) (by omega) (by omega) (by omega) a2 (DR_wind hD (by omega) hv)
        · rw [if_neg (show ¬ nI v ≤ (1 : Int32) by rw [e1]; exact c), if_neg (show ¬ nI v ≤ (1 : Int32) by rw [e1]; exact c)]
          exact ⟨false, b, p2, p2, kc, nI v, km, nI v, j, wi, h, rfl, rfl, fun z => by cases z⟩
      · rw [if_pos g1, if_neg (show ¬ km = 2 by rw [g2]; decide), if_pos g2]
        exact ⟨true, b, p1, p2, kc, vc, km, vm, j, wi, h, rfl, rfl, fun _ => ⟨by omega, a2, a3, hD⟩⟩
    · have g3 : ¬ kc = 3 := by
        rcases g1 with g1 | ⟨g1, -⟩
        · rw [g1]; decide
        · rw [g1]; decide
      have g4 : ¬ kc = 2 := by
        rcases g1 with g1 | ⟨g1, -⟩
        · rw [g1]; decide
        · rw [g1]; decide
      rw [if_neg g3, if_neg g4, if_neg (show ¬ km = 2 by rw [g2]; decide), if_neg (show ¬ km = 3 by rw [g2]; decide)]
      exact ⟨false, b, p1, p2, kc, vc, km, vm, j, wi, h, rfl, rfl, fun z => by cases z⟩
theorem both_wind {n p b0 : Nat} {t : Nat → Nat} {at_ bt_ h o s l cr ne wo ar re wi : Nat → Int32} {nr nd nc na nw : Nat} (hT : TX n t at_ bt_) (hp : p ≤ n) (hD : DR h nr nd nc na nw o s l cr ne wo ar re wi) (rk rv gt gd : Int32) : ∃ (f : Bool) (b p1 p2 : Nat) (kc vc km vm : Int32) (nw' : Nat) (wi' h' : Nat → Int32), f_X6_readsWind (nI b0) (nI n) (nI p) rk rv bt_ (nI nw) wi = some (b2i f, nI b, nI p1, kc, vc, nI nw', wi') ∧ f_X8_readWind (nI n) (nI p) (nI b0) gt gd at_ h = some (b2i f, nI p2, nI b, km, vm, h') ∧ (f = true → p < p1 ∧ p1 ≤ n ∧ p2 = p1 ∧ DR h' nr nd nc na nw' o s l cr ne wo ar re wi') := by
  have h4 : h 4 = nI nw := hD.1.1.2.2.2.2
  obtain ⟨l0, l1, l2, l3, l4⟩ := hD.1.2.1
  unfold f_X6_readsWind f_X8_readWind
  rw [(show rd_ h 59 4 = some (nI nw) by rw [rdL (by omega) (by omega)]; exact congrArg some h4), Option.bind_some]
  by_cases c : 0 < nw
  · have e : (0 : Int32) < nI nw := by rw [show (0 : Int32) = nI 0 from rfl, nI_ltI (by decide) (by omega)]; exact c
    rw [if_pos e, if_pos e]
    exact ⟨false, b0, p, p, rk, rv, gt, gd, nw, wi, h, rfl, rfl, fun z => by cases z⟩
  · have hz : nw = 0 := by omega
    subst hz
    rw [if_neg (show ¬ (0 : Int32) < nI 0 by decide), if_neg (show ¬ (0 : Int32) < nI 0 by decide)]
    obtain ⟨f, b, p1, p2, kc, vc, km, vm, s1, s2, s3⟩ := both_number hT hp (nI b0) rk rv (nI b0) gt gd 0 1
    rw [s1, s2, Option.bind_some, Option.bind_some]
    dsimp only
    cases f with
    | false =>
      rw [bf0, bf0]
      exact ⟨false, b, p1, p2, kc, vc, km, vm, 0, wi, h, rfl, rfl, fun z => by cases z⟩
    | true =>
      obtain ⟨u1, u2, u3, u4, u5, u6⟩ := s3 rfl
      obtain ⟨v, v1, v2, v3⟩ := num_rg (lo := 0) (hi := 1) (by decide) (by decide) u6
      clear u6
      subst u3 u4 v1
      have hv : nI v = 0 ∨ nI v = 1 := by
        rcases (show v = 0 ∨ v = 1 by omega) with y | y
        · rw [y]; exact Or.inl rfl
        · rw [y]; exact Or.inr rfl
      obtain ⟨k, hk⟩ : ∃ k, fl_ = k + 1 := ⟨99999, rfl⟩
      have hkk : 8 < k := by have : fl_ = 100000 := rfl; omega
      rw [bt0, bt0, wrL (by omega) (by omega), Option.bind_some, hk, f_X8_readWind_20, if_pos u5, (show rd_ h 59 4 = some (nI 0) by rw [rdL (by omega) (by omega)]; exact congrArg some h4), Option.bind_some, if_neg (show ¬ nI 0 = (8 : Int32) by decide), if_pos (show nI v ≤ (1 : Int32) by rcases hv with y | y <;> rw [y] <;> decide), Option.bind_some, addL, wr_ok (by omega) (by omega), Option.bind_some, (show rd_ (upd h (51 + 0) (nI v)) 59 4 = some (nI 0) by rw [rdL (by omega) (by omega)]; exact congrArg some ((pk_un (by omega)).trans h4)), Option.bind_some, nI_1 0, wrL (by omega) (by omega), Option.bind_some]
      obtain ⟨f, b', p1', p2', kc', vc', km', vm', nw', wi', h', x1, x2, x3⟩ := both_wind_loop (p0 := p) hT 7 1 p2 (k + 1) k b kc (nI v) km (nI v) _ _ (by omega) (by omega) (by omega) (by omega) u1 u2 (DR_wind hD (by omega) hv)
      exact ⟨f, b', p1', p2', kc', vc', km', vm', nw', wi', h', x1, x2, x3⟩
theorem both_item {n p p2 b0 : Nat} {t : Nat → Nat} {at_ bt_ h o s l cr ne wo ar re wi : Nat → Int32} {nr nd nc na nw : Nat} {kc vc km vm : Int32} (hT : TX n t at_ bt_) (hR : TR n b0 p p2 kc vc km vm) (hk : ¬ kc = 0) (hD : DR h nr nd nc na nw o s l cr ne wo ar re wi) : ∃ (f : Bool) (b p1 p2' : Nat) (kc' vc' km' vm' : Int32) (nr' nd' nc' na' nw' : Nat) (o' s' l' cr' ne' wo' ar' re' wi' h' : Nat → Int32), f_X6_readsItem (nI b0) (nI n) (nI p) kc vc bt_ (nI nr) (nI nd) (nI nc) (nI na) (nI nw) o s l cr ne wo ar re wi = some (b2i f, nI b, nI p1, kc', vc', nI nr', nI nd', nI nc', nI na', nI nw', o', s', l', cr', ne', wo', ar', re', wi') ∧ f_X8_readItem (nI n) (nI p2) (nI b0) km vm at_ h = some (b2i f, nI p2', nI b, km', vm', h') ∧ (f = true → b0 < p1 ∧ p1 ≤ n ∧ p2' = p1 ∧ DR h' nr' nd' nc' na' nw' o' s' l' cr' ne' wo' ar' re' wi') := by
  unfold f_X6_readsItem f_X8_readItem
  rcases hR with ⟨g1, g2⟩ | ⟨a1, a2, a3, g⟩ | ⟨g2, g1⟩
  · exact absurd g1 hk
  · rcases g with ⟨g1, g2, g3, g4⟩ | ⟨g1, g2, -⟩ | ⟨g1, g2⟩
    · subst g3 a3
      rw [if_pos g1, if_pos g2]
      rcases g4 with g | g | g | g | g
      · subst g
        rw [if_neg (show ¬ (114 : Int32) = 97 by decide), if_neg (show ¬ (114 : Int32) = 99 by decide), if_neg (show ¬ (114 : Int32) = 100 by decide), if_pos rfl, if_neg (show ¬ (114 : Int32) = 97 by decide), if_neg (show ¬ (114 : Int32) = 99 by decide), if_neg (show ¬ (114 : Int32) = 100 by decide), if_pos rfl]
        obtain ⟨f, b, q1, q2, c1, c2, c3, c4, nr', h', x1, x2, x3⟩ := both_room (b0 := b0) hT a2 hD kc 114 km 114
        rw [x1, x2, Option.bind_some]
        dsimp only
        rw [zb_b, Option.bind_some]
        exact ⟨f, b, q1, q2, c1, c2, c3, c4, nr', nd, nc, na, nw, o, s, l, cr, ne, wo, ar, re, wi, h', rfl, rfl, fun z => ⟨by have := (x3 z).1; omega, (x3 z).2⟩⟩
      · subst g
        rw [if_neg (show ¬ (100 : Int32) = 97 by decide), if_neg (show ¬ (100 : Int32) = 99 by decide), if_pos rfl, if_neg (show ¬ (100 : Int32) = 97 by decide), if_neg (show ¬ (100 : Int32) = 99 by decide), if_pos rfl]
        obtain ⟨f, b, q1, q2, c1, c2, c3, c4, nd', o', s', h', x1, x2, x3⟩ := both_door (b0 := b0) hT a2 hD kc 100 km 100
        rw [x1, x2, Option.bind_some, Option.bind_some]
        dsimp only
        rw [zb_b, Option.bind_some, Option.bind_some]
        exact ⟨f, b, q1, q2, c1, c2, c3, c4, nr, nd', nc, na, nw, o', s', l, cr, ne, wo, ar, re, wi, h', rfl, rfl, fun z => ⟨by have := (x3 z).1; omega, (x3 z).2⟩⟩
      · subst g
        rw [if_neg (show ¬ (99 : Int32) = 97 by decide), if_pos rfl, if_neg (show ¬ (99 : Int32) = 97 by decide), if_pos rfl]
        obtain ⟨f, b, q1, q2, c1, c2, c3, c4, nc', l', cr', h', x1, x2, x3⟩ := both_candle (b0 := b0) hT a2 hD kc 99 km 99
        rw [x1, x2, Option.bind_some, Option.bind_some]
        dsimp only
        rw [zb_b, Option.bind_some, Option.bind_some]
        exact ⟨f, b, q1, q2, c1, c2, c3, c4, nr, nd, nc', na, nw, o, s, l', cr', ne, wo, ar, re, wi, h', rfl, rfl, fun z => ⟨by have := (x3 z).1; omega, (x3 z).2⟩⟩
      · subst g
        rw [if_pos rfl, if_pos rfl]
        obtain ⟨f, b, q1, q2, c1, c2, c3, c4, na', ne', wo', ar', re', h', x1, x2, x3⟩ := both_act (b0 := b0) hT a2 hD kc 97 km 97
        rw [x1, x2, Option.bind_some, Option.bind_some]
        dsimp only
        rw [zb_b, Option.bind_some, Option.bind_some]
        exact ⟨f, b, q1, q2, c1, c2, c3, c4, nr, nd, nc, na', nw, o, s, l, cr, ne', wo', ar', re', wi, h', rfl, rfl, fun z => ⟨by have := (x3 z).1; omega, (x3 z).2⟩⟩
      · subst g
        rw [if_neg (show ¬ (119 : Int32) = 97 by decide), if_neg (show ¬ (119 : Int32) = 99 by decide), if_neg (show ¬ (119 : Int32) = 100 by decide), if_neg (show ¬ (119 : Int32) = 114 by decide), if_pos rfl, if_neg (show ¬ (119 : Int32) = 97 by decide), if_neg (show ¬ (119 : Int32) = 99 by decide), if_neg (show ¬ (119 : Int32) = 100 by decide), if_neg (show ¬ (119 : Int32) = 114 by decide)]
        obtain ⟨f, b, q1, q2, c1, c2, c3, c4, nw', wi', h', x1, x2, x3⟩ := both_wind (b0 := b0) hT a2 hD kc 119 km 119
        rw [x1, x2, Option.bind_some, Option.bind_some]
        dsimp only
        rw [zb_b, Option.bind_some, Option.bind_some]
        exact ⟨f, b, q1, q2, c1, c2, c3, c4, nr, nd, nc, na, nw', o, s, l, cr, ne, wo, ar, re, wi', h', rfl, rfl, fun z => ⟨by have := (x3 z).1; omega, (x3 z).2⟩⟩
    · rw [if_neg (show ¬ kc = 1 by rw [g1]; decide), if_neg (show ¬ km = 1 by rw [g2]; decide)]
      exact ⟨false, b0, p, p2, kc, vc, km, vm, nr, nd, nc, na, nw, o, s, l, cr, ne, wo, ar, re, wi, h, rfl, rfl, fun z => by cases z⟩
    · rw [if_neg (show ¬ kc = 1 by rw [g1]; decide), if_neg (show ¬ km = 1 by rw [g2]; decide)]
      exact ⟨false, b0, p, p2, kc, vc, km, vm, nr, nd, nc, na, nw, o, s, l, cr, ne, wo, ar, re, wi, h, rfl, rfl, fun z => by cases z⟩
  · rw [if_neg (show ¬ km = 1 by rw [g2]; decide)]
    rcases g1 with g1 | ⟨g1, g3⟩
    · rw [if_neg (show ¬ kc = 1 by rw [g1]; decide)]
      exact ⟨false, b0, p, p2, kc, vc, km, vm, nr, nd, nc, na, nw, o, s, l, cr, ne, wo, ar, re, wi, h, rfl, rfl, fun z => by cases z⟩
    · rw [if_pos g1, if_neg (fun z => g3 (Or.inr (Or.inr (Or.inr (Or.inl z))))), if_neg (fun z => g3 (Or.inr (Or.inr (Or.inl z)))), if_neg (fun z => g3 (Or.inr (Or.inl z))), if_neg (fun z => g3 (Or.inl z)), if_neg (fun z => g3 (Or.inr (Or.inr (Or.inr (Or.inr z)))))]
      exact ⟨false, b0, p, p2, kc, vc, km, vm, nr, nd, nc, na, nw, o, s, l, cr, ne, wo, ar, re, wi, h, rfl, rfl, fun z => by cases z⟩
