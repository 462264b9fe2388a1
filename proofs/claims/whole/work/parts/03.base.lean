/-! base of the walks: partial functions, contracts in worlds, calls -/
theorem ob_some {α β : Type} {x : Option α} {k : α → Option β} {b : β} (h : x.bind k = some b) : ∃ a, x = some a ∧ k a = some b := Option.bind_eq_some_iff.mp h
theorem it_ {c : Prop} {α : Type} {i : Decidable c} {A B : Option α} {o : α} (hc : c) (h : (@ite _ c i A B) = some o) : A = some o := by rw [if_pos hc] at h; exact h
theorem ie_ {c : Prop} {α : Type} {i : Decidable c} {A B : Option α} {o : α} (hc : ¬ c) (h : (@ite _ c i A B) = some o) : B = some o := by rw [if_neg hc] at h; exact h
def rd_ (a : Nat → Int32) (n : Nat) (i : Int32) : Option Int32 := if i < 0 ∨ n ≤ i.toNatClampNeg then none else some (a i.toNatClampNeg)
def wr_ (a : Nat → Int32) (n : Nat) (i x : Int32) : Option (Nat → Int32) := if i < 0 ∨ n ≤ i.toNatClampNeg then none else some (upd a i.toNatClampNeg x)
def nz_ (y : Int32) : Option Unit := if y = 0 then none else some ()
def zb_ (v : Int32) : Option Int32 := if v = 0 ∨ v = 1 then some v else none
def fl_ : Nat := 100000
theorem rd_some {a : Nat → Int32} {n : Nat} {i v : Int32} (h : rd_ a n i = some v) : vp_in i n ∧ v = a i.toNatClampNeg := by
  unfold rd_ at h
  by_cases hc : i < 0 ∨ n ≤ i.toNatClampNeg
  · rw [if_pos hc] at h; cases h
  · rw [if_neg hc] at h; exact ⟨hc, (Option.some.inj h).symm⟩
theorem wr_some {a b : Nat → Int32} {n : Nat} {i x : Int32} (h : wr_ a n i x = some b) : vp_in i n ∧ b = upd a i.toNatClampNeg x := by
  unfold wr_ at h
  by_cases hc : i < 0 ∨ n ≤ i.toNatClampNeg
  · rw [if_pos hc] at h; cases h
  · rw [if_neg hc] at h; exact ⟨hc, (Option.some.inj h).symm⟩
theorem nz_some {y : Int32} {u : Unit} (h : nz_ y = some u) : ¬ y = 0 := by
  unfold nz_ at h
  by_cases hc : y = 0
  · rw [if_pos hc] at h; cases h
  · exact hc
theorem zb_some {v w : Int32} (h : zb_ v = some w) : v = w ∧ (w = 0 ∨ w = 1) := by
  unfold zb_ at h
  by_cases hc : v = 0 ∨ v = 1
  · rw [if_pos hc] at h; cases h; exact ⟨rfl, hc⟩
  · rw [if_neg hc] at h; cases h
theorem zb_nar {w : Int32} (h : w = 0 ∨ w = 1) : narrow .boolean (.int w) = .int w := by rcases h with rfl | rfl <;> rfl
/-- the links of private members of nest mates -/
abbrev nk0_ : Cond := .methodLinkNest "LitWick" 15 ⟨"LitWick$House", "<init>", "()V"⟩ "LitWick"
abbrev nk1_ : Cond := .methodLinkNest "LitWick$Reader" 11 ⟨"LitWick$House", "<init>", "()V"⟩ "LitWick"
abbrev nk2_ : Cond := .methodLinkNest "LitWick" 40 ⟨"LitWick$Past", "<init>", "()V"⟩ "LitWick"
abbrev nk3_ : Cond := .methodLinkNest "LitWick" 60 ⟨"LitWick$Bench", "<init>", "()V"⟩ "LitWick"
abbrev nk4_ : Cond := .methodLinkNest "LitWick" 65 ⟨"LitWick$Image", "<init>", "()V"⟩ "LitWick"
abbrev nk5_ : Cond := .methodLinkNest "LitWick$Image" 17 ⟨"LitWick$Past", "<init>", "()V"⟩ "LitWick"
abbrev nk6_ : Cond := .methodLinkNest "LitWick$Reader" 116 ⟨"LitWick", "within", "(III)Z"⟩ "LitWick"
abbrev nk7_ : Cond := .methodLinkNest "LitWick$Night" 63 ⟨"LitWick", "bit", "(II)I"⟩ "LitWick"
abbrev nk8_ : Cond := .methodLinkNest "LitWick$Foresight" 77 ⟨"LitWick", "bit", "(II)I"⟩ "LitWick"
abbrev nk9_ : Cond := .methodLinkNest "LitWick$Bench" 32 ⟨"LitWick", "bit", "(II)I"⟩ "LitWick"
abbrev nk10_ : Cond := .methodLinkNest "LitWick$Foresight" 65 ⟨"LitWick", "power", "(II)I"⟩ "LitWick"
def NW (U : State) : Prop := va_Nw nk0_ U ∧ va_Nw nk1_ U ∧ va_Nw nk2_ U ∧ va_Nw nk3_ U ∧ va_Nw nk4_ U ∧ va_Nw nk5_ U ∧ va_Nw nk6_ U ∧ va_Nw nk7_ U ∧ va_Nw nk8_ U ∧ va_Nw nk9_ U ∧ va_Nw nk10_ U
theorem NW.warm {s U : State} (hW : s.WarmedH U.vm) (h : NW s) : NW U := by
  obtain ⟨h0, h1, h2, h3, h4, h5, h6, h7, h8, h9, h10⟩ := h
  exact ⟨va_Nw.warmM hW h0, va_Nw.warmM hW h1, va_Nw.warmM hW h2, va_Nw.warmM hW h3, va_Nw.warmM hW h4, va_Nw.warmM hW h5, va_Nw.warmM hW h6, va_Nw.warmM hW h7, va_Nw.warmM hW h8, va_Nw.warmM hW h9, va_Nw.warmM hW h10⟩
theorem NW.same {s U : State} (e : s.vm = U.vm) (h : NW s) : NW U := by
  obtain ⟨h0, h1, h2, h3, h4, h5, h6, h7, h8, h9, h10⟩ := h
  exact ⟨va_Nw.same rfl e h0, va_Nw.same rfl e h1, va_Nw.same rfl e h2, va_Nw.same rfl e h3, va_Nw.same rfl e h4, va_Nw.same rfl e h5, va_Nw.same rfl e h6, va_Nw.same rfl e h7, va_Nw.same rfl e h8, va_Nw.same rfl e h9, va_Nw.same rfl e h10⟩
theorem nw_0 {s : State} (h : NW s) : va_Nw nk0_ s := h.1
theorem nw_1 {s : State} (h : NW s) : va_Nw nk1_ s := h.2.1
theorem nw_2 {s : State} (h : NW s) : va_Nw nk2_ s := h.2.2.1
theorem nw_3 {s : State} (h : NW s) : va_Nw nk3_ s := h.2.2.2.1
theorem nw_4 {s : State} (h : NW s) : va_Nw nk4_ s := h.2.2.2.2.1
theorem nw_5 {s : State} (h : NW s) : va_Nw nk5_ s := h.2.2.2.2.2.1
theorem nw_6 {s : State} (h : NW s) : va_Nw nk6_ s := h.2.2.2.2.2.2.1
theorem nw_7 {s : State} (h : NW s) : va_Nw nk7_ s := h.2.2.2.2.2.2.2.1
theorem nw_8 {s : State} (h : NW s) : va_Nw nk8_ s := h.2.2.2.2.2.2.2.2.1
theorem nw_9 {s : State} (h : NW s) : va_Nw nk9_ s := h.2.2.2.2.2.2.2.2.2.1
theorem nw_10 {s : State} (h : NW s) : va_Nw nk10_ s := h.2.2.2.2.2.2.2.2.2.2
abbrev PcW (D : va_G) (tys : List (ClassId × FieldType)) (av : List Value) (sz : Nat) (ws : va_W) : Array Value → State → Prop := va_Pc av (fun U => U.heap.size = sz ∧ va_P D vwCl ws U.heap ∧ va_K D vwCl tys U ∧ va_D (fun _ => True) ws ∧ NW U)
abbrev BW (D : va_G) (tys : List (ClassId × FieldType)) (A : Nat → Prop) (w1 : va_W) (t : State) : Prop := va_P D vwCl w1 t.heap ∧ va_K D vwCl tys t ∧ va_D A w1
abbrev QiW (D : va_G) (tys : List (ClassId × FieldType)) (r : Int32) (w1 : va_W) (A : Nat → Prop) : Array Value → State → Outcome → State → Prop := va_Qi (fun (x : Int32) (_ : Unit) => x = r) (fun _ t => BW D tys A w1 t) A
abbrev QlW (D : va_G) (tys : List (ClassId × FieldType)) (r : Int64) (w1 : va_W) (A : Nat → Prop) : Array Value → State → Outcome → State → Prop := va_Ql (fun (x : Int64) (_ : Unit) => x = r) (fun _ t => BW D tys A w1 t) A
abbrev QvW (D : va_G) (tys : List (ClassId × FieldType)) (w1 : va_W) (A : Nat → Prop) : Array Value → State → Outcome → State → Prop := va_Qv (fun (_ : Unit) => True) (fun _ t => BW D tys A w1 t) A
/-- a method's walk from its entry -/
theorem x_met {l : Launch} {y : MethodName} {ws ws' : List Cond} {rm : Room} {cc : ByteArray} {maxL : Nat} {ret : Option FieldType} {D : va_G} {tys : List (ClassId × FieldType)} {av : List Value} {sz : Nat} {w0 : va_W} {Qf : (Nat → Prop) → Array Value → State → Outcome → State → Prop} {mc ms : Nat}
    (hy : plainName y.cls = true) (hw : ws = Cond.code y cc maxL ret :: ws') (hlen : (lg_sl av).length ≤ maxL)
    (body : ∀ (p : Program) (e : Env) (s : State) (m : MethodId) (below : List Frame) (meth : Method) (c : Code) (A : Nat → Prop), p.tables.exec = Jvm.exec → c.code = cc → meth.sig.returnType = ret → (∀ w ∈ ws, w.before av.toArray s = true) → s.vm.findClass y.cls = some m.cls → c.maxLocals = maxL → meth.locks = false → (∀ q, s.heap.size ≤ q → A q) → NW s → va_K D vwCl tys s → va_P D vwCl w0 s.heap → va_D A w0 → va_S A s.heap s.heap [] → ∀ ls : Array Slot, lv_has ls maxL (lv_args 0 av) → W p l e (headSpec ws rm).room s m av.toArray below meth c s.heap [] 0 0 (MQ below (Qf A) av.toArray s mc ms A) (F0 m 0 ls [])) :
    Met l y ws rm (PcW D tys av sz w0) (Qf (va_A w0 sz)) mc ms (va_A w0 sz) := by
  refine Met.ofW (cc := cc) (maxL := maxL) (ret := ret) hy hw ?_
  intro p e s m args below meth c s₁ B hml hv
  obtain ⟨rfl, hsz, hP, hK, hD0, hNW⟩ := hv
  have hts := atoms_spec (ws := ws) B.pre
  have hown : s.vm.findClass y.cls = some m.cls := findClass_of_methodNamed B.named
  subst hsz
  have hD := hD0.self (sz := s.heap.size)
  have hl := lv_entry av (n := maxL) hlen
  rw [lg_entry_eq]
  exact body p e s m below meth c _ B.exec B.bytes B.returns hts hown hml B.notSynchronized (fun q h => Or.inr h) hNW hK hP hD va_S.rf _ hl
section XR
variable {p : Program} {l : Launch} {e : Env} {R : Room} {s : State} {m : MethodId} {args : Array Value} {below : List Frame} {meth : Method} {c : Code} {H : Heap} {locs : List Loc} {cells slots : Nat} {Q : State → Prop}
variable {cc : ByteArray} {pc : Nat} {ls : Array Slot} {rest : List Value} {D : va_G} {cl : List vw_C} {A : Nat → Prop} {a : Nat} {tys : List (ClassId × FieldType)} {ws : va_W} {H0 : Heap}
theorem x_iald (hexec : p.tables.exec = Jvm.exec) (hb : c.code = cc) (hK : va_K D cl tys s) (hP : va_P D cl ws H) (q0 t0 : Nat) {cA : ClassId} {n : Nat} {f : Nat → Int32} (ha : ws[q0]? = some (a, .inl (cA, n, .inl f))) (ht : tys[t0]? = some (cA, .int)) {i v : Int32} (hin : rd_ f n i = some v) (hdg : decode cc pc = .ok (.iaload, 1))
    (kk : W p l e R s m args below meth c H locs cells slots Q (F0 m (pc + 1) ls (.int v :: rest))) : W p l e R s m args below meth c H locs cells slots Q (F0 m pc ls (.int i :: .ref a :: rest)) := by
  obtain ⟨h1, rfl⟩ := rd_some hin
  exact va_iald hexec hb hK hP q0 t0 ha ht h1 hdg kk
theorem x_bald (hexec : p.tables.exec = Jvm.exec) (hb : c.code = cc) (hK : va_K D cl tys s) (hP : va_P D cl ws H) (q0 t0 : Nat) {cA : ClassId} {n : Nat} {f : Nat → Int32} (ha : ws[q0]? = some (a, .inl (cA, n, .inl f))) (ht : tys[t0]? = some (cA, .byte)) {i v : Int32} (hin : rd_ f n i = some v) (hdg : decode cc pc = .ok (.baload, 1))
    (kk : W p l e R s m args below meth c H locs cells slots Q (F0 m (pc + 1) ls (.int v :: rest))) : W p l e R s m args below meth c H locs cells slots Q (F0 m pc ls (.int i :: .ref a :: rest)) := by
  obtain ⟨h1, rfl⟩ := rd_some hin
  exact va_bald hexec hb hK hP q0 t0 ha ht h1 hdg kk
theorem x_iast (hexec : p.tables.exec = Jvm.exec) (hb : c.code = cc) (hK : va_K D cl tys s) (hP : va_P D cl ws H) (hD : va_D A ws) (hS : va_S A H0 H locs) (q0 t0 : Nat) {cA : ClassId} {n : Nat} {f g : Nat → Int32} (ha : ws[q0]? = some (a, .inl (cA, n, .inl f))) (ht : tys[t0]? = some (cA, .int)) {i x : Int32} (hin : wr_ f n i x = some g) (hdg : decode cc pc = .ok (.iastore, 1))
    (kk : ∀ (H1 : Heap) (locs1 : List Loc), va_P D cl (ws.set q0 (a, .inl (cA, n, .inl g))) H1 → va_D A (ws.set q0 (a, .inl (cA, n, .inl g))) → va_S A H0 H1 locs1 → W p l e R s m args below meth c H1 locs1 cells slots Q (F0 m (pc + 1) ls rest)) : W p l e R s m args below meth c H locs cells slots Q (F0 m pc ls (.int x :: .int i :: .ref a :: rest)) := by
  obtain ⟨h1, rfl⟩ := wr_some hin
  exact va_iast hexec hb hK hP hD hS q0 t0 ha ht h1 hdg kk
theorem x_bast (hexec : p.tables.exec = Jvm.exec) (hb : c.code = cc) (hK : va_K D cl tys s) (hP : va_P D cl ws H) (hD : va_D A ws) (hS : va_S A H0 H locs) (q0 t0 : Nat) {cA : ClassId} {n : Nat} {f g : Nat → Int32} (ha : ws[q0]? = some (a, .inl (cA, n, .inl f))) (ht : tys[t0]? = some (cA, .byte)) {i x : Int32} (hin : wr_ f n i (vp_nar .byte x) = some g) (hdg : decode cc pc = .ok (.bastore, 1))
    (kk : ∀ (H1 : Heap) (locs1 : List Loc), va_P D cl (ws.set q0 (a, .inl (cA, n, .inl g))) H1 → va_D A (ws.set q0 (a, .inl (cA, n, .inl g))) → va_S A H0 H1 locs1 → W p l e R s m args below meth c H1 locs1 cells slots Q (F0 m (pc + 1) ls rest)) : W p l e R s m args below meth c H locs cells slots Q (F0 m pc ls (.int x :: .int i :: .ref a :: rest)) := by
  obtain ⟨h1, rfl⟩ := wr_some hin
  exact va_bast hexec hb hK hP hD hS q0 t0 ha ht h1 hdg kk
theorem x_aaldq (hexec : p.tables.exec = Jvm.exec) (hb : c.code = cc) (hK : va_K D cl tys s) (hP : va_P D cl ws H) (q0 t0 : Nat) {cA : ClassId} {C : String} {n j v : Nat} {f : Nat → Option Nat} (ha : ws[q0]? = some (a, .inl (cA, n, .inr (.inr (.inr (.inr f)))))) (ht : tys[t0]? = some (cA, .object C)) {i : Int32} (hi : i = nI j) (hj : j < n) (hn : n < 2 ^ 31) (hv : f j = some v) (hdg : decode cc pc = .ok (.aaload, 1))
    (kk : W p l e R s m args below meth c H locs cells slots Q (F0 m (pc + 1) ls (.ref v :: rest))) : W p l e R s m args below meth c H locs cells slots Q (F0 m pc ls (.int i :: .ref a :: rest)) := by
  subst hi
  refine va_aldq hexec hb hK hP q0 t0 ha ht (vp_in_nI hj hn) hdg ?_
  rw [nI_clamp (Nat.lt_trans hj hn), hv]
  exact kk
theorem x_aaldA (hexec : p.tables.exec = Jvm.exec) (hb : c.code = cc) (hK : va_K D cl tys s) (hP : va_P D cl ws H) (q0 t0 : Nat) {cA : ClassId} {n j v : Nat} {f : Nat → Option Nat} (ha : ws[q0]? = some (a, .inl (cA, n, .inr (.inr (.inr (.inr f)))))) (ht : tys[t0]? = some (cA, .array .int)) {i : Int32} (hi : i = nI j) (hj : j < n) (hn : n < 2 ^ 31) (hv : f j = some v) (hdg : decode cc pc = .ok (.aaload, 1))
    (kk : W p l e R s m args below meth c H locs cells slots Q (F0 m (pc + 1) ls (.ref v :: rest))) : W p l e R s m args below meth c H locs cells slots Q (F0 m pc ls (.int i :: .ref a :: rest)) := by
  subst hi
  have e : (nI j).toNatClampNeg = j := nI_clamp (Nat.lt_trans hj hn)
  have hin : vp_in (nI j) n := vp_in_nI hj hn
  exact W.aald (v := .ref v) (ty := .array .int) hexec hb (hP q0 _ ha) ((hK.2 t0 _ ht).1 n (fun j => va_rf (f j))) rfl (fun q => by cases q) (by show ¬ (nI j < 0 ∨ (arrV _ _ _).slots.size ≤ _); rw [arrV_size]; exact hin) (by show (arrV _ _ _).slots[_]? = _; rw [arrV_read _ _ (by rw [e]; exact hj), e, hv]; rfl) rfl rfl hdg kk
theorem x_cpy {k : Nat} (hexec : p.tables.exec = Jvm.exec) (hb : c.code = cc) (hml : c.maxLocals = ls.size) {own : String} {index : Nat} (hown : s.vm.findClass own = some m.cls) (hlink : (Cond.methodLink own index arraycopyName).before args s = true) (hnat : (Cond.native arraycopyName).before args s = true) (hstat : (Cond.static arraycopyName).before args s = true) (hini : (Cond.initialized "java/lang/System").before args s = true)
    (hK : va_K D cl tys s) (hP : va_P D cl ws H) (hD : va_D A ws) (hS : va_S A H0 H locs) (q0 q1 t0 : Nat) {a0 : Nat} {c0 : ClassId} {n0 n1 : Nat} {f g : Nat → Int32} (ha0 : ws[q0]? = some (a0, .inl (c0, n0, .inl f))) (ha1 : ws[q1]? = some (a, .inl (c0, n1, .inl g))) (ht0 : tys[t0]? = some (c0, .int))
    {n : Int32} (h3 : ¬ n < 0) (hk : n.toNatClampNeg = k) (h4 : k ≤ n0) (h5 : k ≤ n1)
    (hframes : 1 ≤ R.frames) (hlocals : (rest.map fun v => v.category).sum + (nativeFrameWords "java/lang/System" "arraycopy" 5 + 11) ≤ R.locals) (hdg : decode cc pc = .ok (.invokestatic index, 3))
    (kk : ∀ (H1 : Heap) (locs1 : List Loc), va_P D cl (ws.set q1 (a, .inl (c0, n1, .inl (va_cpy f g 0 0 k)))) H1 → va_D A (ws.set q1 (a, .inl (c0, n1, .inl (va_cpy f g 0 0 k)))) → va_S A H0 H1 locs1 → W p l e R s m args below meth c H1 locs1 cells slots Q (F0 m (pc + 3) ls rest)) : W p l e R s m args below meth c H locs cells slots Q (F0 m pc ls (.int n :: .int 0 :: .ref a :: .int 0 :: .ref a0 :: rest)) := by
  have e0 : (0 : Int32).toNatClampNeg = 0 := by decide
  refine va_copyi (ty := .int) hexec hb hml hown hlink hnat hstat hini hK hP hD hS q0 q1 t0 t0 ha0 ha1 ht0 ht0 rfl (by decide) (by decide) h3 (by rw [e0, hk]; omega) (by rw [e0, hk]; omega) (fun _ _ => rfl) hframes hlocals hdg ?_
  rw [e0, hk]
  exact kk
theorem x_fm {α β : Type} {f : α → Option β} : ∀ {l : List α} {w : List β}, l.map f = w.map some → l.filterMap f = w
  | [], [], _ => rfl
  | [], _ :: _, h => by cases h
  | _ :: _, [], h => by cases h
  | a :: l, b :: w, h => by
    have h1 : f a = some b := (List.cons.inj h).1
    have h2 : l.map f = w.map some := (List.cons.inj h).2
    rw [List.filterMap_cons_some h1, x_fm h2]
theorem x_Vi {nL n index maxL q0 ci : Nat} {Ts wsy : List Cond} {own C : String} {y : MethodName} {rm : Room} {bytes : ByteArray} {ret : Option FieldType} {b : Addr} {As st0 : List Value} {w0 w1 wr w2 : va_W} {r : Int32} {T : u_T} {N : Nat} {fs : List Value}
    (S : CallFix p m c cc nL s args Ts own) (hM : Met l y wsy rm (PcW D tys (.ref b :: As) H.size w0) (QiW D tys r w1 (va_A w0 H.size)) 0 0 (va_A w0 H.size)) (cw : CallW R s args own C index y bytes maxL ret wsy rm 0 0 n)
    (hNW : NW s) (hK : va_K D vwCl tys s) (hP : va_P D vwCl ws H) (hD : va_D A ws) (hS : va_S A H0 H locs) (hA : ∀ q, H0.size ≤ q → A q) (isC isR isP : List Nat) (hC : isC.map (fun i => ws[i]?) = w0.map some) (hR : isR.map (fun i => ws[i]?) = wr.map some) (hN : isP.map (fun i => (wr ++ w1)[i]?) = w2.map some) (hnC : va_nd isC = true) (hnR : va_nd isR = true) (hnP : va_nd isP = true) (hdis : ∀ i ∈ isR, i ∉ isC)
    (hq0 : w0[q0]? = some (b, .inr (ci, fs))) (hc : vwCl[ci]? = some (C, T, N)) (hn : As.length = n) (hsz : ls.size = nL) (hst : st0 = As.reverse ++ .ref b :: rest) (hW : (rest.map fun v => v.category).sum ≤ 8) (hdg : decode cc pc = .ok (.invokevirtual index, 3)) (hf : cells + 0 ≤ R.cells ∧ slots + 0 ≤ R.slots)
    (kk : ∀ (H1 : Heap) (locs1 : List Loc), va_P D vwCl w2 H1 → va_D A w2 → va_S A H0 H1 locs1 → W p l e R s m args below meth c H1 locs1 cells slots Q (F0 m (pc + 3) ls (.int r :: rest))) : W p l e R s m args below meth c H locs cells slots Q (F0 m pc ls st0) := by
  subst hst
  have hPc : va_P D vwCl w0 H := hP.sub isC (x_fm hC)
  have hDc : va_D A w0 := hD.sub isC hnC hC
  have hFc := va_free (wc := w0) hD hS hA isC hC
  refine va_calli (va_runV (As := As) (rest := rest) S hM cw ⟨fun a U g mk q => by obtain ⟨q0, q1, qP, qK, qD, qN⟩ := q; exact ⟨q0, q1, qP, va_K.moved (u := U) (U := U.calling g mk a) (Vm.Alike.refl U.vm) qK, qD, NW.same (s := U) (U := U.calling g mk a) rfl qN⟩, va_recv hK hPc hc hq0, fun U hU hW => ⟨rfl, by rw [hU], by rw [hU]; exact hPc, va_K.moved hW.alike hK, hDc.weaken (fun _ _ _ _ => trivial), NW.warm hW hNW⟩⟩ rfl hn hsz rfl (lv_room hW) hdg hf) hS (fun q _ h => hFc q h) hFc (fun r u t H1 locs ht hvm hw hB hz1 hk1 hS => ?_)
  obtain ⟨hP1, hK1, hD1⟩ := hB
  rw [ht] at hP1
  subst hw
  obtain ⟨hP2, hD2⟩ := va_join (wr := wr) (w1 := w1) hP hD isC isR hC hR hnR hdis hk1 hFc hP1 hD1
  exact kk _ _ (hP2.sub isP (x_fm hN)) (hD2.sub isP hnP hN) hS
theorem x_Vv {nL n index maxL q0 ci : Nat} {Ts wsy : List Cond} {own C : String} {y : MethodName} {rm : Room} {bytes : ByteArray} {ret : Option FieldType} {b : Addr} {As st0 : List Value} {w0 w1 wr w2 : va_W} {T : u_T} {N : Nat} {fs : List Value}
    (S : CallFix p m c cc nL s args Ts own) (hM : Met l y wsy rm (PcW D tys (.ref b :: As) H.size w0) (QvW D tys w1 (va_A w0 H.size)) 0 0 (va_A w0 H.size)) (cw : CallW R s args own C index y bytes maxL ret wsy rm 0 0 n)
    (hNW : NW s) (hK : va_K D vwCl tys s) (hP : va_P D vwCl ws H) (hD : va_D A ws) (hS : va_S A H0 H locs) (hA : ∀ q, H0.size ≤ q → A q) (isC isR isP : List Nat) (hC : isC.map (fun i => ws[i]?) = w0.map some) (hR : isR.map (fun i => ws[i]?) = wr.map some) (hN : isP.map (fun i => (wr ++ w1)[i]?) = w2.map some) (hnC : va_nd isC = true) (hnR : va_nd isR = true) (hnP : va_nd isP = true) (hdis : ∀ i ∈ isR, i ∉ isC)
    (hq0 : w0[q0]? = some (b, .inr (ci, fs))) (hc : vwCl[ci]? = some (C, T, N)) (hn : As.length = n) (hsz : ls.size = nL) (hst : st0 = As.reverse ++ .ref b :: rest) (hW : (rest.map fun v => v.category).sum ≤ 8) (hdg : decode cc pc = .ok (.invokevirtual index, 3)) (hf : cells + 0 ≤ R.cells ∧ slots + 0 ≤ R.slots)
    (kk : ∀ (H1 : Heap) (locs1 : List Loc), va_P D vwCl w2 H1 → va_D A w2 → va_S A H0 H1 locs1 → W p l e R s m args below meth c H1 locs1 cells slots Q (F0 m (pc + 3) ls (rest))) : W p l e R s m args below meth c H locs cells slots Q (F0 m pc ls st0) := by
  subst hst
  have hPc : va_P D vwCl w0 H := hP.sub isC (x_fm hC)
  have hDc : va_D A w0 := hD.sub isC hnC hC
  have hFc := va_free (wc := w0) hD hS hA isC hC
  refine va_callv (va_runV (As := As) (rest := rest) S hM cw ⟨fun a U g mk q => by obtain ⟨q0, q1, qP, qK, qD, qN⟩ := q; exact ⟨q0, q1, qP, va_K.moved (u := U) (U := U.calling g mk a) (Vm.Alike.refl U.vm) qK, qD, NW.same (s := U) (U := U.calling g mk a) rfl qN⟩, va_recv hK hPc hc hq0, fun U hU hW => ⟨rfl, by rw [hU], by rw [hU]; exact hPc, va_K.moved hW.alike hK, hDc.weaken (fun _ _ _ _ => trivial), NW.warm hW hNW⟩⟩ rfl hn hsz rfl (lv_room hW) hdg hf) hS (fun q _ h => hFc q h) hFc (fun u t H1 locs ht hvm hw hB hz1 hk1 hS => ?_)
  obtain ⟨hP1, hK1, hD1⟩ := hB
  rw [ht] at hP1
  obtain ⟨hP2, hD2⟩ := va_join (wr := wr) (w1 := w1) hP hD isC isR hC hR hnR hdis hk1 hFc hP1 hD1
  exact kk _ _ (hP2.sub isP (x_fm hN)) (hD2.sub isP hnP hN) hS
theorem x_Vl {nL n index maxL q0 ci : Nat} {Ts wsy : List Cond} {own C : String} {y : MethodName} {rm : Room} {bytes : ByteArray} {ret : Option FieldType} {b : Addr} {As st0 : List Value} {w0 w1 wr w2 : va_W} {r : Int64} {T : u_T} {N : Nat} {fs : List Value}
    (S : CallFix p m c cc nL s args Ts own) (hM : Met l y wsy rm (PcW D tys (.ref b :: As) H.size w0) (QlW D tys r w1 (va_A w0 H.size)) 0 0 (va_A w0 H.size)) (cw : CallW R s args own C index y bytes maxL ret wsy rm 0 0 n)
    (hNW : NW s) (hK : va_K D vwCl tys s) (hP : va_P D vwCl ws H) (hD : va_D A ws) (hS : va_S A H0 H locs) (hA : ∀ q, H0.size ≤ q → A q) (isC isR isP : List Nat) (hC : isC.map (fun i => ws[i]?) = w0.map some) (hR : isR.map (fun i => ws[i]?) = wr.map some) (hN : isP.map (fun i => (wr ++ w1)[i]?) = w2.map some) (hnC : va_nd isC = true) (hnR : va_nd isR = true) (hnP : va_nd isP = true) (hdis : ∀ i ∈ isR, i ∉ isC)
    (hq0 : w0[q0]? = some (b, .inr (ci, fs))) (hc : vwCl[ci]? = some (C, T, N)) (hn : As.length = n) (hsz : ls.size = nL) (hst : st0 = As.reverse ++ .ref b :: rest) (hW : (rest.map fun v => v.category).sum ≤ 8) (hdg : decode cc pc = .ok (.invokevirtual index, 3)) (hf : cells + 0 ≤ R.cells ∧ slots + 0 ≤ R.slots)
    (kk : ∀ (H1 : Heap) (locs1 : List Loc), va_P D vwCl w2 H1 → va_D A w2 → va_S A H0 H1 locs1 → W p l e R s m args below meth c H1 locs1 cells slots Q (F0 m (pc + 3) ls (.long r :: rest))) : W p l e R s m args below meth c H locs cells slots Q (F0 m pc ls st0) := by
  subst hst
  have hPc : va_P D vwCl w0 H := hP.sub isC (x_fm hC)
  have hDc : va_D A w0 := hD.sub isC hnC hC
  have hFc := va_free (wc := w0) hD hS hA isC hC
  refine va_calll (va_runV (As := As) (rest := rest) S hM cw ⟨fun a U g mk q => by obtain ⟨q0, q1, qP, qK, qD, qN⟩ := q; exact ⟨q0, q1, qP, va_K.moved (u := U) (U := U.calling g mk a) (Vm.Alike.refl U.vm) qK, qD, NW.same (s := U) (U := U.calling g mk a) rfl qN⟩, va_recv hK hPc hc hq0, fun U hU hW => ⟨rfl, by rw [hU], by rw [hU]; exact hPc, va_K.moved hW.alike hK, hDc.weaken (fun _ _ _ _ => trivial), NW.warm hW hNW⟩⟩ rfl hn hsz rfl (lv_room hW) hdg hf) hS (fun q _ h => hFc q h) hFc (fun r u t H1 locs ht hvm hw hB hz1 hk1 hS => ?_)
  obtain ⟨hP1, hK1, hD1⟩ := hB
  rw [ht] at hP1
  subst hw
  obtain ⟨hP2, hD2⟩ := va_join (wr := wr) (w1 := w1) hP hD isC isR hC hR hnR hdis hk1 hFc hP1 hD1
  exact kk _ _ (hP2.sub isP (x_fm hN)) (hD2.sub isP hnP hN) hS
theorem x_Si {nL n index maxL : Nat} {Ts wsy : List Cond} {own : String} {y : MethodName} {rm : Room} {bytes : ByteArray} {ret : Option FieldType} {As st0 : List Value} {w0 w1 wr w2 : va_W} {r : Int32} 
    (S : CallFix p m c cc nL s args Ts own) (hM : Met l y wsy rm (PcW D tys (As) H.size w0) (QiW D tys r w1 (va_A w0 H.size)) 0 0 (va_A w0 H.size)) (cw : CallB R s args own index y bytes maxL ret wsy rm 0 0 n ∧ (Cond.static y).before args s = true)
    (hNW : NW s) (hK : va_K D vwCl tys s) (hP : va_P D vwCl ws H) (hD : va_D A ws) (hS : va_S A H0 H locs) (hA : ∀ q, H0.size ≤ q → A q) (isC isR isP : List Nat) (hC : isC.map (fun i => ws[i]?) = w0.map some) (hR : isR.map (fun i => ws[i]?) = wr.map some) (hN : isP.map (fun i => (wr ++ w1)[i]?) = w2.map some) (hnC : va_nd isC = true) (hnR : va_nd isR = true) (hnP : va_nd isP = true) (hdis : ∀ i ∈ isR, i ∉ isC)
    (hn : As.length = n) (hsz : ls.size = nL) (hst : st0 = As.reverse ++ rest) (hW : (rest.map fun v => v.category).sum ≤ 8) (hdg : decode cc pc = .ok (.invokestatic index, 3)) (hf : cells + 0 ≤ R.cells ∧ slots + 0 ≤ R.slots)
    (kk : ∀ (H1 : Heap) (locs1 : List Loc), va_P D vwCl w2 H1 → va_D A w2 → va_S A H0 H1 locs1 → W p l e R s m args below meth c H1 locs1 cells slots Q (F0 m (pc + 3) ls (.int r :: rest))) : W p l e R s m args below meth c H locs cells slots Q (F0 m pc ls st0) := by
  subst hst
  have hPc : va_P D vwCl w0 H := hP.sub isC (x_fm hC)
  have hDc : va_D A w0 := hD.sub isC hnC hC
  have hFc := va_free (wc := w0) hD hS hA isC hC
  refine va_calli (va_runS (As := As) (rest := rest) S hM cw ⟨fun a U g mk q => by obtain ⟨q0, q1, qP, qK, qD, qN⟩ := q; exact ⟨q0, q1, qP, va_K.moved (u := U) (U := U.calling g mk a) (Vm.Alike.refl U.vm) qK, qD, NW.same (s := U) (U := U.calling g mk a) rfl qN⟩, fun U hU hW => ⟨rfl, by rw [hU], by rw [hU]; exact hPc, va_K.moved hW.alike hK, hDc.weaken (fun _ _ _ _ => trivial), NW.warm hW hNW⟩⟩ rfl hn hsz rfl (lv_room hW) hdg hf) hS (fun q _ h => hFc q h) hFc (fun r u t H1 locs ht hvm hw hB hz1 hk1 hS => ?_)
  obtain ⟨hP1, hK1, hD1⟩ := hB
  rw [ht] at hP1
  subst hw
  obtain ⟨hP2, hD2⟩ := va_join (wr := wr) (w1 := w1) hP hD isC isR hC hR hnR hdis hk1 hFc hP1 hD1
  exact kk _ _ (hP2.sub isP (x_fm hN)) (hD2.sub isP hnP hN) hS
theorem x_Sv {nL n index maxL : Nat} {Ts wsy : List Cond} {own : String} {y : MethodName} {rm : Room} {bytes : ByteArray} {ret : Option FieldType} {As st0 : List Value} {w0 w1 wr w2 : va_W} 
    (S : CallFix p m c cc nL s args Ts own) (hM : Met l y wsy rm (PcW D tys (As) H.size w0) (QvW D tys w1 (va_A w0 H.size)) 0 0 (va_A w0 H.size)) (cw : CallB R s args own index y bytes maxL ret wsy rm 0 0 n ∧ (Cond.static y).before args s = true)
    (hNW : NW s) (hK : va_K D vwCl tys s) (hP : va_P D vwCl ws H) (hD : va_D A ws) (hS : va_S A H0 H locs) (hA : ∀ q, H0.size ≤ q → A q) (isC isR isP : List Nat) (hC : isC.map (fun i => ws[i]?) = w0.map some) (hR : isR.map (fun i => ws[i]?) = wr.map some) (hN : isP.map (fun i => (wr ++ w1)[i]?) = w2.map some) (hnC : va_nd isC = true) (hnR : va_nd isR = true) (hnP : va_nd isP = true) (hdis : ∀ i ∈ isR, i ∉ isC)
    (hn : As.length = n) (hsz : ls.size = nL) (hst : st0 = As.reverse ++ rest) (hW : (rest.map fun v => v.category).sum ≤ 8) (hdg : decode cc pc = .ok (.invokestatic index, 3)) (hf : cells + 0 ≤ R.cells ∧ slots + 0 ≤ R.slots)
    (kk : ∀ (H1 : Heap) (locs1 : List Loc), va_P D vwCl w2 H1 → va_D A w2 → va_S A H0 H1 locs1 → W p l e R s m args below meth c H1 locs1 cells slots Q (F0 m (pc + 3) ls (rest))) : W p l e R s m args below meth c H locs cells slots Q (F0 m pc ls st0) := by
  subst hst
  have hPc : va_P D vwCl w0 H := hP.sub isC (x_fm hC)
  have hDc : va_D A w0 := hD.sub isC hnC hC
  have hFc := va_free (wc := w0) hD hS hA isC hC
  refine va_callv (va_runS (As := As) (rest := rest) S hM cw ⟨fun a U g mk q => by obtain ⟨q0, q1, qP, qK, qD, qN⟩ := q; exact ⟨q0, q1, qP, va_K.moved (u := U) (U := U.calling g mk a) (Vm.Alike.refl U.vm) qK, qD, NW.same (s := U) (U := U.calling g mk a) rfl qN⟩, fun U hU hW => ⟨rfl, by rw [hU], by rw [hU]; exact hPc, va_K.moved hW.alike hK, hDc.weaken (fun _ _ _ _ => trivial), NW.warm hW hNW⟩⟩ rfl hn hsz rfl (lv_room hW) hdg hf) hS (fun q _ h => hFc q h) hFc (fun u t H1 locs ht hvm hw hB hz1 hk1 hS => ?_)
  obtain ⟨hP1, hK1, hD1⟩ := hB
  rw [ht] at hP1
  obtain ⟨hP2, hD2⟩ := va_join (wr := wr) (w1 := w1) hP hD isC isR hC hR hnR hdis hk1 hFc hP1 hD1
  exact kk _ _ (hP2.sub isP (x_fm hN)) (hD2.sub isP hnP hN) hS
theorem x_Sl {nL n index maxL : Nat} {Ts wsy : List Cond} {own : String} {y : MethodName} {rm : Room} {bytes : ByteArray} {ret : Option FieldType} {As st0 : List Value} {w0 w1 wr w2 : va_W} {r : Int64} 
    (S : CallFix p m c cc nL s args Ts own) (hM : Met l y wsy rm (PcW D tys (As) H.size w0) (QlW D tys r w1 (va_A w0 H.size)) 0 0 (va_A w0 H.size)) (cw : CallB R s args own index y bytes maxL ret wsy rm 0 0 n ∧ (Cond.static y).before args s = true)
    (hNW : NW s) (hK : va_K D vwCl tys s) (hP : va_P D vwCl ws H) (hD : va_D A ws) (hS : va_S A H0 H locs) (hA : ∀ q, H0.size ≤ q → A q) (isC isR isP : List Nat) (hC : isC.map (fun i => ws[i]?) = w0.map some) (hR : isR.map (fun i => ws[i]?) = wr.map some) (hN : isP.map (fun i => (wr ++ w1)[i]?) = w2.map some) (hnC : va_nd isC = true) (hnR : va_nd isR = true) (hnP : va_nd isP = true) (hdis : ∀ i ∈ isR, i ∉ isC)
    (hn : As.length = n) (hsz : ls.size = nL) (hst : st0 = As.reverse ++ rest) (hW : (rest.map fun v => v.category).sum ≤ 8) (hdg : decode cc pc = .ok (.invokestatic index, 3)) (hf : cells + 0 ≤ R.cells ∧ slots + 0 ≤ R.slots)
    (kk : ∀ (H1 : Heap) (locs1 : List Loc), va_P D vwCl w2 H1 → va_D A w2 → va_S A H0 H1 locs1 → W p l e R s m args below meth c H1 locs1 cells slots Q (F0 m (pc + 3) ls (.long r :: rest))) : W p l e R s m args below meth c H locs cells slots Q (F0 m pc ls st0) := by
  subst hst
  have hPc : va_P D vwCl w0 H := hP.sub isC (x_fm hC)
  have hDc : va_D A w0 := hD.sub isC hnC hC
  have hFc := va_free (wc := w0) hD hS hA isC hC
  refine va_calll (va_runS (As := As) (rest := rest) S hM cw ⟨fun a U g mk q => by obtain ⟨q0, q1, qP, qK, qD, qN⟩ := q; exact ⟨q0, q1, qP, va_K.moved (u := U) (U := U.calling g mk a) (Vm.Alike.refl U.vm) qK, qD, NW.same (s := U) (U := U.calling g mk a) rfl qN⟩, fun U hU hW => ⟨rfl, by rw [hU], by rw [hU]; exact hPc, va_K.moved hW.alike hK, hDc.weaken (fun _ _ _ _ => trivial), NW.warm hW hNW⟩⟩ rfl hn hsz rfl (lv_room hW) hdg hf) hS (fun q _ h => hFc q h) hFc (fun r u t H1 locs ht hvm hw hB hz1 hk1 hS => ?_)
  obtain ⟨hP1, hK1, hD1⟩ := hB
  rw [ht] at hP1
  subst hw
  obtain ⟨hP2, hD2⟩ := va_join (wr := wr) (w1 := w1) hP hD isC isR hC hR hnR hdis hk1 hFc hP1 hD1
  exact kk _ _ (hP2.sub isP (x_fm hN)) (hD2.sub isP hnP hN) hS
theorem x_VNi {nL n index maxL q0 ci : Nat} {Ts wsy : List Cond} {own C host : String} {y : MethodName} {rm : Room} {bytes : ByteArray} {ret : Option FieldType} {b : Addr} {As st0 : List Value} {w0 w1 wr w2 : va_W} {r : Int32} {T : u_T} {N : Nat} {fs : List Value}
    (S : CallFix p m c cc nL s args Ts own) (hM : Met l y wsy rm (PcW D tys (.ref b :: As) H.size w0) (QiW D tys r w1 (va_A w0 H.size)) 0 0 (va_A w0 H.size)) (cw : va_CN R s args own index y host bytes maxL ret wsy rm 0 0 n ∧ (Cond.instanceMethod y).before args s = true ∧ (Cond.selects C y y).before args s = true)
    (hNW : NW s) (hK : va_K D vwCl tys s) (hP : va_P D vwCl ws H) (hD : va_D A ws) (hS : va_S A H0 H locs) (hA : ∀ q, H0.size ≤ q → A q) (isC isR isP : List Nat) (hC : isC.map (fun i => ws[i]?) = w0.map some) (hR : isR.map (fun i => ws[i]?) = wr.map some) (hN : isP.map (fun i => (wr ++ w1)[i]?) = w2.map some) (hnC : va_nd isC = true) (hnR : va_nd isR = true) (hnP : va_nd isP = true) (hdis : ∀ i ∈ isR, i ∉ isC)
    (hq0 : w0[q0]? = some (b, .inr (ci, fs))) (hc : vwCl[ci]? = some (C, T, N)) (hn : As.length = n) (hsz : ls.size = nL) (hst : st0 = As.reverse ++ .ref b :: rest) (hW : (rest.map fun v => v.category).sum ≤ 8) (hdg : decode cc pc = .ok (.invokevirtual index, 3)) (hf : cells + 0 ≤ R.cells ∧ slots + 0 ≤ R.slots)
    (kk : ∀ (H1 : Heap) (locs1 : List Loc), va_P D vwCl w2 H1 → va_D A w2 → va_S A H0 H1 locs1 → W p l e R s m args below meth c H1 locs1 cells slots Q (F0 m (pc + 3) ls (.int r :: rest))) : W p l e R s m args below meth c H locs cells slots Q (F0 m pc ls st0) := by
  subst hst
  have hPc : va_P D vwCl w0 H := hP.sub isC (x_fm hC)
  have hDc : va_D A w0 := hD.sub isC hnC hC
  have hFc := va_free (wc := w0) hD hS hA isC hC
  refine va_calli (va_runVN (As := As) (rest := rest) S hM cw ⟨fun a U g mk q => by obtain ⟨q0, q1, qP, qK, qD, qN⟩ := q; exact ⟨q0, q1, qP, va_K.moved (u := U) (U := U.calling g mk a) (Vm.Alike.refl U.vm) qK, qD, NW.same (s := U) (U := U.calling g mk a) rfl qN⟩, va_recv hK hPc hc hq0, fun U hU hW => ⟨rfl, by rw [hU], by rw [hU]; exact hPc, va_K.moved hW.alike hK, hDc.weaken (fun _ _ _ _ => trivial), NW.warm hW hNW⟩⟩ rfl hn hsz rfl (lv_room hW) hdg hf) hS (fun q _ h => hFc q h) hFc (fun r u t H1 locs ht hvm hw hB hz1 hk1 hS => ?_)
  obtain ⟨hP1, hK1, hD1⟩ := hB
  rw [ht] at hP1
  subst hw
  obtain ⟨hP2, hD2⟩ := va_join (wr := wr) (w1 := w1) hP hD isC isR hC hR hnR hdis hk1 hFc hP1 hD1
  exact kk _ _ (hP2.sub isP (x_fm hN)) (hD2.sub isP hnP hN) hS
theorem x_VNv {nL n index maxL q0 ci : Nat} {Ts wsy : List Cond} {own C host : String} {y : MethodName} {rm : Room} {bytes : ByteArray} {ret : Option FieldType} {b : Addr} {As st0 : List Value} {w0 w1 wr w2 : va_W} {T : u_T} {N : Nat} {fs : List Value}
    (S : CallFix p m c cc nL s args Ts own) (hM : Met l y wsy rm (PcW D tys (.ref b :: As) H.size w0) (QvW D tys w1 (va_A w0 H.size)) 0 0 (va_A w0 H.size)) (cw : va_CN R s args own index y host bytes maxL ret wsy rm 0 0 n ∧ (Cond.instanceMethod y).before args s = true ∧ (Cond.selects C y y).before args s = true)
    (hNW : NW s) (hK : va_K D vwCl tys s) (hP : va_P D vwCl ws H) (hD : va_D A ws) (hS : va_S A H0 H locs) (hA : ∀ q, H0.size ≤ q → A q) (isC isR isP : List Nat) (hC : isC.map (fun i => ws[i]?) = w0.map some) (hR : isR.map (fun i => ws[i]?) = wr.map some) (hN : isP.map (fun i => (wr ++ w1)[i]?) = w2.map some) (hnC : va_nd isC = true) (hnR : va_nd isR = true) (hnP : va_nd isP = true) (hdis : ∀ i ∈ isR, i ∉ isC)
    (hq0 : w0[q0]? = some (b, .inr (ci, fs))) (hc : vwCl[ci]? = some (C, T, N)) (hn : As.length = n) (hsz : ls.size = nL) (hst : st0 = As.reverse ++ .ref b :: rest) (hW : (rest.map fun v => v.category).sum ≤ 8) (hdg : decode cc pc = .ok (.invokevirtual index, 3)) (hf : cells + 0 ≤ R.cells ∧ slots + 0 ≤ R.slots)
    (kk : ∀ (H1 : Heap) (locs1 : List Loc), va_P D vwCl w2 H1 → va_D A w2 → va_S A H0 H1 locs1 → W p l e R s m args below meth c H1 locs1 cells slots Q (F0 m (pc + 3) ls (rest))) : W p l e R s m args below meth c H locs cells slots Q (F0 m pc ls st0) := by
  subst hst
  have hPc : va_P D vwCl w0 H := hP.sub isC (x_fm hC)
  have hDc : va_D A w0 := hD.sub isC hnC hC
  have hFc := va_free (wc := w0) hD hS hA isC hC
  refine va_callv (va_runVN (As := As) (rest := rest) S hM cw ⟨fun a U g mk q => by obtain ⟨q0, q1, qP, qK, qD, qN⟩ := q; exact ⟨q0, q1, qP, va_K.moved (u := U) (U := U.calling g mk a) (Vm.Alike.refl U.vm) qK, qD, NW.same (s := U) (U := U.calling g mk a) rfl qN⟩, va_recv hK hPc hc hq0, fun U hU hW => ⟨rfl, by rw [hU], by rw [hU]; exact hPc, va_K.moved hW.alike hK, hDc.weaken (fun _ _ _ _ => trivial), NW.warm hW hNW⟩⟩ rfl hn hsz rfl (lv_room hW) hdg hf) hS (fun q _ h => hFc q h) hFc (fun u t H1 locs ht hvm hw hB hz1 hk1 hS => ?_)
  obtain ⟨hP1, hK1, hD1⟩ := hB
  rw [ht] at hP1
  obtain ⟨hP2, hD2⟩ := va_join (wr := wr) (w1 := w1) hP hD isC isR hC hR hnR hdis hk1 hFc hP1 hD1
  exact kk _ _ (hP2.sub isP (x_fm hN)) (hD2.sub isP hnP hN) hS
theorem x_VNl {nL n index maxL q0 ci : Nat} {Ts wsy : List Cond} {own C host : String} {y : MethodName} {rm : Room} {bytes : ByteArray} {ret : Option FieldType} {b : Addr} {As st0 : List Value} {w0 w1 wr w2 : va_W} {r : Int64} {T : u_T} {N : Nat} {fs : List Value}
    (S : CallFix p m c cc nL s args Ts own) (hM : Met l y wsy rm (PcW D tys (.ref b :: As) H.size w0) (QlW D tys r w1 (va_A w0 H.size)) 0 0 (va_A w0 H.size)) (cw : va_CN R s args own index y host bytes maxL ret wsy rm 0 0 n ∧ (Cond.instanceMethod y).before args s = true ∧ (Cond.selects C y y).before args s = true)
    (hNW : NW s) (hK : va_K D vwCl tys s) (hP : va_P D vwCl ws H) (hD : va_D A ws) (hS : va_S A H0 H locs) (hA : ∀ q, H0.size ≤ q → A q) (isC isR isP : List Nat) (hC : isC.map (fun i => ws[i]?) = w0.map some) (hR : isR.map (fun i => ws[i]?) = wr.map some) (hN : isP.map (fun i => (wr ++ w1)[i]?) = w2.map some) (hnC : va_nd isC = true) (hnR : va_nd isR = true) (hnP : va_nd isP = true) (hdis : ∀ i ∈ isR, i ∉ isC)
    (hq0 : w0[q0]? = some (b, .inr (ci, fs))) (hc : vwCl[ci]? = some (C, T, N)) (hn : As.length = n) (hsz : ls.size = nL) (hst : st0 = As.reverse ++ .ref b :: rest) (hW : (rest.map fun v => v.category).sum ≤ 8) (hdg : decode cc pc = .ok (.invokevirtual index, 3)) (hf : cells + 0 ≤ R.cells ∧ slots + 0 ≤ R.slots)
    (kk : ∀ (H1 : Heap) (locs1 : List Loc), va_P D vwCl w2 H1 → va_D A w2 → va_S A H0 H1 locs1 → W p l e R s m args below meth c H1 locs1 cells slots Q (F0 m (pc + 3) ls (.long r :: rest))) : W p l e R s m args below meth c H locs cells slots Q (F0 m pc ls st0) := by
  subst hst
  have hPc : va_P D vwCl w0 H := hP.sub isC (x_fm hC)
  have hDc : va_D A w0 := hD.sub isC hnC hC
  have hFc := va_free (wc := w0) hD hS hA isC hC
  refine va_calll (va_runVN (As := As) (rest := rest) S hM cw ⟨fun a U g mk q => by obtain ⟨q0, q1, qP, qK, qD, qN⟩ := q; exact ⟨q0, q1, qP, va_K.moved (u := U) (U := U.calling g mk a) (Vm.Alike.refl U.vm) qK, qD, NW.same (s := U) (U := U.calling g mk a) rfl qN⟩, va_recv hK hPc hc hq0, fun U hU hW => ⟨rfl, by rw [hU], by rw [hU]; exact hPc, va_K.moved hW.alike hK, hDc.weaken (fun _ _ _ _ => trivial), NW.warm hW hNW⟩⟩ rfl hn hsz rfl (lv_room hW) hdg hf) hS (fun q _ h => hFc q h) hFc (fun r u t H1 locs ht hvm hw hB hz1 hk1 hS => ?_)
  obtain ⟨hP1, hK1, hD1⟩ := hB
  rw [ht] at hP1
  subst hw
  obtain ⟨hP2, hD2⟩ := va_join (wr := wr) (w1 := w1) hP hD isC isR hC hR hnR hdis hk1 hFc hP1 hD1
  exact kk _ _ (hP2.sub isP (x_fm hN)) (hD2.sub isP hnP hN) hS
theorem x_SNi {nL n index maxL : Nat} {Ts wsy : List Cond} {own host : String} {y : MethodName} {rm : Room} {bytes : ByteArray} {ret : Option FieldType} {As st0 : List Value} {w0 w1 wr w2 : va_W} {r : Int32} 
    (S : CallFix p m c cc nL s args Ts own) (hM : Met l y wsy rm (PcW D tys (As) H.size w0) (QiW D tys r w1 (va_A w0 H.size)) 0 0 (va_A w0 H.size)) (cw : va_CN R s args own index y host bytes maxL ret wsy rm 0 0 n ∧ (Cond.static y).before args s = true ∧ True)
    (hNW : NW s) (hK : va_K D vwCl tys s) (hP : va_P D vwCl ws H) (hD : va_D A ws) (hS : va_S A H0 H locs) (hA : ∀ q, H0.size ≤ q → A q) (isC isR isP : List Nat) (hC : isC.map (fun i => ws[i]?) = w0.map some) (hR : isR.map (fun i => ws[i]?) = wr.map some) (hN : isP.map (fun i => (wr ++ w1)[i]?) = w2.map some) (hnC : va_nd isC = true) (hnR : va_nd isR = true) (hnP : va_nd isP = true) (hdis : ∀ i ∈ isR, i ∉ isC)
    (hn : As.length = n) (hsz : ls.size = nL) (hst : st0 = As.reverse ++ rest) (hW : (rest.map fun v => v.category).sum ≤ 8) (hdg : decode cc pc = .ok (.invokestatic index, 3)) (hf : cells + 0 ≤ R.cells ∧ slots + 0 ≤ R.slots)
    (kk : ∀ (H1 : Heap) (locs1 : List Loc), va_P D vwCl w2 H1 → va_D A w2 → va_S A H0 H1 locs1 → W p l e R s m args below meth c H1 locs1 cells slots Q (F0 m (pc + 3) ls (.int r :: rest))) : W p l e R s m args below meth c H locs cells slots Q (F0 m pc ls st0) := by
  subst hst
  have hPc : va_P D vwCl w0 H := hP.sub isC (x_fm hC)
  have hDc : va_D A w0 := hD.sub isC hnC hC
  have hFc := va_free (wc := w0) hD hS hA isC hC
  refine va_calli (va_runSN (As := As) (rest := rest) S hM cw ⟨fun a U g mk q => by obtain ⟨q0, q1, qP, qK, qD, qN⟩ := q; exact ⟨q0, q1, qP, va_K.moved (u := U) (U := U.calling g mk a) (Vm.Alike.refl U.vm) qK, qD, NW.same (s := U) (U := U.calling g mk a) rfl qN⟩, fun U hU hW => ⟨rfl, by rw [hU], by rw [hU]; exact hPc, va_K.moved hW.alike hK, hDc.weaken (fun _ _ _ _ => trivial), NW.warm hW hNW⟩⟩ rfl hn hsz rfl (lv_room hW) hdg hf) hS (fun q _ h => hFc q h) hFc (fun r u t H1 locs ht hvm hw hB hz1 hk1 hS => ?_)
  obtain ⟨hP1, hK1, hD1⟩ := hB
  rw [ht] at hP1
  subst hw
  obtain ⟨hP2, hD2⟩ := va_join (wr := wr) (w1 := w1) hP hD isC isR hC hR hnR hdis hk1 hFc hP1 hD1
  exact kk _ _ (hP2.sub isP (x_fm hN)) (hD2.sub isP hnP hN) hS
theorem x_SNv {nL n index maxL : Nat} {Ts wsy : List Cond} {own host : String} {y : MethodName} {rm : Room} {bytes : ByteArray} {ret : Option FieldType} {As st0 : List Value} {w0 w1 wr w2 : va_W} 
    (S : CallFix p m c cc nL s args Ts own) (hM : Met l y wsy rm (PcW D tys (As) H.size w0) (QvW D tys w1 (va_A w0 H.size)) 0 0 (va_A w0 H.size)) (cw : va_CN R s args own index y host bytes maxL ret wsy rm 0 0 n ∧ (Cond.static y).before args s = true ∧ True)
    (hNW : NW s) (hK : va_K D vwCl tys s) (hP : va_P D vwCl ws H) (hD : va_D A ws) (hS : va_S A H0 H locs) (hA : ∀ q, H0.size ≤ q → A q) (isC isR isP : List Nat) (hC : isC.map (fun i => ws[i]?) = w0.map some) (hR : isR.map (fun i => ws[i]?) = wr.map some) (hN : isP.map (fun i => (wr ++ w1)[i]?) = w2.map some) (hnC : va_nd isC = true) (hnR : va_nd isR = true) (hnP : va_nd isP = true) (hdis : ∀ i ∈ isR, i ∉ isC)
    (hn : As.length = n) (hsz : ls.size = nL) (hst : st0 = As.reverse ++ rest) (hW : (rest.map fun v => v.category).sum ≤ 8) (hdg : decode cc pc = .ok (.invokestatic index, 3)) (hf : cells + 0 ≤ R.cells ∧ slots + 0 ≤ R.slots)
    (kk : ∀ (H1 : Heap) (locs1 : List Loc), va_P D vwCl w2 H1 → va_D A w2 → va_S A H0 H1 locs1 → W p l e R s m args below meth c H1 locs1 cells slots Q (F0 m (pc + 3) ls (rest))) : W p l e R s m args below meth c H locs cells slots Q (F0 m pc ls st0) := by
  subst hst
  have hPc : va_P D vwCl w0 H := hP.sub isC (x_fm hC)
  have hDc : va_D A w0 := hD.sub isC hnC hC
  have hFc := va_free (wc := w0) hD hS hA isC hC
  refine va_callv (va_runSN (As := As) (rest := rest) S hM cw ⟨fun a U g mk q => by obtain ⟨q0, q1, qP, qK, qD, qN⟩ := q; exact ⟨q0, q1, qP, va_K.moved (u := U) (U := U.calling g mk a) (Vm.Alike.refl U.vm) qK, qD, NW.same (s := U) (U := U.calling g mk a) rfl qN⟩, fun U hU hW => ⟨rfl, by rw [hU], by rw [hU]; exact hPc, va_K.moved hW.alike hK, hDc.weaken (fun _ _ _ _ => trivial), NW.warm hW hNW⟩⟩ rfl hn hsz rfl (lv_room hW) hdg hf) hS (fun q _ h => hFc q h) hFc (fun u t H1 locs ht hvm hw hB hz1 hk1 hS => ?_)
  obtain ⟨hP1, hK1, hD1⟩ := hB
  rw [ht] at hP1
  obtain ⟨hP2, hD2⟩ := va_join (wr := wr) (w1 := w1) hP hD isC isR hC hR hnR hdis hk1 hFc hP1 hD1
  exact kk _ _ (hP2.sub isP (x_fm hN)) (hD2.sub isP hnP hN) hS
theorem x_SNl {nL n index maxL : Nat} {Ts wsy : List Cond} {own host : String} {y : MethodName} {rm : Room} {bytes : ByteArray} {ret : Option FieldType} {As st0 : List Value} {w0 w1 wr w2 : va_W} {r : Int64} 
    (S : CallFix p m c cc nL s args Ts own) (hM : Met l y wsy rm (PcW D tys (As) H.size w0) (QlW D tys r w1 (va_A w0 H.size)) 0 0 (va_A w0 H.size)) (cw : va_CN R s args own index y host bytes maxL ret wsy rm 0 0 n ∧ (Cond.static y).before args s = true ∧ True)
    (hNW : NW s) (hK : va_K D vwCl tys s) (hP : va_P D vwCl ws H) (hD : va_D A ws) (hS : va_S A H0 H locs) (hA : ∀ q, H0.size ≤ q → A q) (isC isR isP : List Nat) (hC : isC.map (fun i => ws[i]?) = w0.map some) (hR : isR.map (fun i => ws[i]?) = wr.map some) (hN : isP.map (fun i => (wr ++ w1)[i]?) = w2.map some) (hnC : va_nd isC = true) (hnR : va_nd isR = true) (hnP : va_nd isP = true) (hdis : ∀ i ∈ isR, i ∉ isC)
    (hn : As.length = n) (hsz : ls.size = nL) (hst : st0 = As.reverse ++ rest) (hW : (rest.map fun v => v.category).sum ≤ 8) (hdg : decode cc pc = .ok (.invokestatic index, 3)) (hf : cells + 0 ≤ R.cells ∧ slots + 0 ≤ R.slots)
    (kk : ∀ (H1 : Heap) (locs1 : List Loc), va_P D vwCl w2 H1 → va_D A w2 → va_S A H0 H1 locs1 → W p l e R s m args below meth c H1 locs1 cells slots Q (F0 m (pc + 3) ls (.long r :: rest))) : W p l e R s m args below meth c H locs cells slots Q (F0 m pc ls st0) := by
  subst hst
  have hPc : va_P D vwCl w0 H := hP.sub isC (x_fm hC)
  have hDc : va_D A w0 := hD.sub isC hnC hC
  have hFc := va_free (wc := w0) hD hS hA isC hC
  refine va_calll (va_runSN (As := As) (rest := rest) S hM cw ⟨fun a U g mk q => by obtain ⟨q0, q1, qP, qK, qD, qN⟩ := q; exact ⟨q0, q1, qP, va_K.moved (u := U) (U := U.calling g mk a) (Vm.Alike.refl U.vm) qK, qD, NW.same (s := U) (U := U.calling g mk a) rfl qN⟩, fun U hU hW => ⟨rfl, by rw [hU], by rw [hU]; exact hPc, va_K.moved hW.alike hK, hDc.weaken (fun _ _ _ _ => trivial), NW.warm hW hNW⟩⟩ rfl hn hsz rfl (lv_room hW) hdg hf) hS (fun q _ h => hFc q h) hFc (fun r u t H1 locs ht hvm hw hB hz1 hk1 hS => ?_)
  obtain ⟨hP1, hK1, hD1⟩ := hB
  rw [ht] at hP1
  subst hw
  obtain ⟨hP2, hD2⟩ := va_join (wr := wr) (w1 := w1) hP hD isC isR hC hR hnR hdis hk1 hFc hP1 hD1
  exact kk _ _ (hP2.sub isP (x_fm hN)) (hD2.sub isP hnP hN) hS
theorem x_iret {O : Type} {out o' : O} {v : Int32} {Rf : O → Int32} {Wf : O → va_W} (hexec : p.tables.exec = Jvm.exec) (hb : c.code = cc) (hr : meth.sig.returnType = some .int) (hlocks : meth.locks = false) (hf : some o' = some out) (hv : Rf o' = v) (hK : va_K D vwCl tys s) (hP : va_P D vwCl (Wf o') H) (hD : va_D A (Wf o')) (hS : va_S A s.heap H locs) (hdg : decode cc pc = .ok (.ireturn, 1)) : W p l e R s m args below meth c H locs cells slots (MQ below (QiW D tys (Rf out) (Wf out) A) args s cells slots A) (F0 m pc ls [.int v]) := by
  cases hf
  subst hv
  exact W.iret hexec hb hr (fun t ht hW => ⟨⟨_, (), rfl, rfl, by rw [ht]; exact hP, va_K.moved hW.alike hK, hD⟩, hS.F ht⟩) hS.2.2 hdg hlocks
theorem x_zret {O : Type} {out o' : O} {v : Int32} {Rf : O → Int32} {Wf : O → va_W} (hexec : p.tables.exec = Jvm.exec) (hb : c.code = cc) (hr : meth.sig.returnType = some .boolean) (hn : narrow .boolean (.int v) = .int v) (hlocks : meth.locks = false) (hf : some o' = some out) (hv : Rf o' = v) (hK : va_K D vwCl tys s) (hP : va_P D vwCl (Wf o') H) (hD : va_D A (Wf o')) (hS : va_S A s.heap H locs) (hdg : decode cc pc = .ok (.ireturn, 1)) : W p l e R s m args below meth c H locs cells slots (MQ below (QiW D tys (Rf out) (Wf out) A) args s cells slots A) (F0 m pc ls [.int v]) := by
  cases hf
  subst hv
  exact W.zret hexec hb hr hn (fun t ht hW => ⟨⟨_, (), rfl, rfl, by rw [ht]; exact hP, va_K.moved hW.alike hK, hD⟩, hS.F ht⟩) hS.2.2 hdg hlocks
theorem x_lret {O : Type} {out o' : O} {v : Int64} {Rf : O → Int64} {Wf : O → va_W} (hexec : p.tables.exec = Jvm.exec) (hb : c.code = cc) (hr : meth.sig.returnType = some .long) (hlocks : meth.locks = false) (hf : some o' = some out) (hv : Rf o' = v) (hK : va_K D vwCl tys s) (hP : va_P D vwCl (Wf o') H) (hD : va_D A (Wf o')) (hS : va_S A s.heap H locs) (hdg : decode cc pc = .ok (.lreturn, 1)) : W p l e R s m args below meth c H locs cells slots (MQ below (QlW D tys (Rf out) (Wf out) A) args s cells slots A) (F0 m pc ls [.long v]) := by
  cases hf
  subst hv
  exact W.lret hexec hb hr (fun t ht hW => ⟨⟨_, (), rfl, rfl, by rw [ht]; exact hP, va_K.moved hW.alike hK, hD⟩, hS.F ht⟩) hS.2.2 hdg hlocks
theorem x_vret {O : Type} {out o' : O} {Wf : O → va_W} (hexec : p.tables.exec = Jvm.exec) (hb : c.code = cc) (hr : meth.sig.returnType = none) (hlocks : meth.locks = false) (hf : some o' = some out) (hK : va_K D vwCl tys s) (hP : va_P D vwCl (Wf o') H) (hD : va_D A (Wf o')) (hS : va_S A s.heap H locs) (hdg : decode cc pc = .ok (.return_, 1)) : W p l e R s m args below meth c H locs cells slots (MQ below (QvW D tys (Wf out) A) args s cells slots A) (F0 m pc ls []) := by
  cases hf
  exact W.vret hexec hb hr (fun t ht hW => ⟨⟨(), rfl, trivial, by rw [ht]; exact hP, va_K.moved hW.alike hK, hD⟩, hS.F ht⟩) hS.2.2 hdg hlocks
end XR
theorem tb_gen {x : Int32} (n : Nat) (hn : n < 2 ^ 31) (h : ∀ k : Nat, k < n → ¬ x = nI k) : x.toInt < 0 ∨ (n : Int) ≤ x.toInt := by
  by_cases h0 : x < 0
  · exact Or.inl (Int32.lt_iff_toInt_lt.mp h0)
  · obtain ⟨j, hj, rfl⟩ := nI_of h0
    rw [nI_toInt hj]
    rcases Nat.lt_or_ge j n with q | q
    · exact absurd rfl (h j q)
    · exact Or.inr (by omega)
theorem tb_out3 {x : Int32} (c0 : ¬ x = 0) (c1 : ¬ x = 1) (c2 : ¬ x = 2) : x.toInt < 0 ∨ 2 < x.toInt := by
  rcases tb_gen (x := x) 3 (by decide) (fun k hk e => by
    match k, hk, e with
    | 0, _, e => exact c0 e
    | 1, _, e => exact c1 e
    | 2, _, e => exact c2 e
    | k + 3, hk, _ => omega) with q | q
  · exact Or.inl q
  · exact Or.inr (by omega)
theorem tb_out4 {x : Int32} (c0 : ¬ x = 0) (c1 : ¬ x = 1) (c2 : ¬ x = 2) (c3 : ¬ x = 3) : x.toInt < 0 ∨ 3 < x.toInt := by
  rcases tb_gen (x := x) 4 (by decide) (fun k hk e => by
    match k, hk, e with
    | 0, _, e => exact c0 e
    | 1, _, e => exact c1 e
    | 2, _, e => exact c2 e
    | 3, _, e => exact c3 e
    | k + 4, hk, _ => omega) with q | q
  · exact Or.inl q
  · exact Or.inr (by omega)
theorem tb_out5 {x : Int32} (c0 : ¬ x = 0) (c1 : ¬ x = 1) (c2 : ¬ x = 2) (c3 : ¬ x = 3) (c4 : ¬ x = 4) : x.toInt < 0 ∨ 4 < x.toInt := by
  rcases tb_gen (x := x) 5 (by decide) (fun k hk e => by
    match k, hk, e with
    | 0, _, e => exact c0 e
    | 1, _, e => exact c1 e
    | 2, _, e => exact c2 e
    | 3, _, e => exact c3 e
    | 4, _, e => exact c4 e
    | k + 5, hk, _ => omega) with q | q
  · exact Or.inl q
  · exact Or.inr (by omega)
theorem tb_out6 {x : Int32} (c0 : ¬ x = 0) (c1 : ¬ x = 1) (c2 : ¬ x = 2) (c3 : ¬ x = 3) (c4 : ¬ x = 4) (c5 : ¬ x = 5) : x.toInt < 0 ∨ 5 < x.toInt := by
  rcases tb_gen (x := x) 6 (by decide) (fun k hk e => by
    match k, hk, e with
    | 0, _, e => exact c0 e
    | 1, _, e => exact c1 e
    | 2, _, e => exact c2 e
    | 3, _, e => exact c3 e
    | 4, _, e => exact c4 e
    | 5, _, e => exact c5 e
    | k + 6, hk, _ => omega) with q | q
  · exact Or.inl q
  · exact Or.inr (by omega)
theorem tb_out7 {x : Int32} (c0 : ¬ x = 0) (c1 : ¬ x = 1) (c2 : ¬ x = 2) (c3 : ¬ x = 3) (c4 : ¬ x = 4) (c5 : ¬ x = 5) (c6 : ¬ x = 6) : x.toInt < 0 ∨ 6 < x.toInt := by
  rcases tb_gen (x := x) 7 (by decide) (fun k hk e => by
    match k, hk, e with
    | 0, _, e => exact c0 e
    | 1, _, e => exact c1 e
    | 2, _, e => exact c2 e
    | 3, _, e => exact c3 e
    | 4, _, e => exact c4 e
    | 5, _, e => exact c5 e
    | 6, _, e => exact c6 e
    | k + 7, hk, _ => omega) with q | q
  · exact Or.inl q
  · exact Or.inr (by omega)
theorem tb_out8 {x : Int32} (c0 : ¬ x = 0) (c1 : ¬ x = 1) (c2 : ¬ x = 2) (c3 : ¬ x = 3) (c4 : ¬ x = 4) (c5 : ¬ x = 5) (c6 : ¬ x = 6) (c7 : ¬ x = 7) : x.toInt < 0 ∨ 7 < x.toInt := by
  rcases tb_gen (x := x) 8 (by decide) (fun k hk e => by
    match k, hk, e with
    | 0, _, e => exact c0 e
    | 1, _, e => exact c1 e
    | 2, _, e => exact c2 e
    | 3, _, e => exact c3 e
    | 4, _, e => exact c4 e
    | 5, _, e => exact c5 e
    | 6, _, e => exact c6 e
    | 7, _, e => exact c7 e
    | k + 8, hk, _ => omega) with q | q
  · exact Or.inl q
  · exact Or.inr (by omega)
theorem tb_out31 {x : Int32} (c0 : ¬ x = 0) (c1 : ¬ x = 1) (c2 : ¬ x = 2) (c3 : ¬ x = 3) (c4 : ¬ x = 4) (c5 : ¬ x = 5) (c6 : ¬ x = 6) (c7 : ¬ x = 7) (c8 : ¬ x = 8) (c9 : ¬ x = 9) (c10 : ¬ x = 10) (c11 : ¬ x = 11) (c12 : ¬ x = 12) (c13 : ¬ x = 13) (c14 : ¬ x = 14) (c15 : ¬ x = 15) (c16 : ¬ x = 16) (c17 : ¬ x = 17) (c18 : ¬ x = 18) (c19 : ¬ x = 19) (c20 : ¬ x = 20) (c21 : ¬ x = 21) (c22 : ¬ x = 22) (c23 : ¬ x = 23) (c24 : ¬ x = 24) (c25 : ¬ x = 25) (c26 : ¬ x = 26) (c27 : ¬ x = 27) (c28 : ¬ x = 28) (c29 : ¬ x = 29) (c30 : ¬ x = 30) : x.toInt < 0 ∨ 30 < x.toInt := by
  rcases tb_gen (x := x) 31 (by decide) (fun k hk e => by
    match k, hk, e with
    | 0, _, e => exact c0 e
    | 1, _, e => exact c1 e
    | 2, _, e => exact c2 e
    | 3, _, e => exact c3 e
    | 4, _, e => exact c4 e
    | 5, _, e => exact c5 e
    | 6, _, e => exact c6 e
    | 7, _, e => exact c7 e
    | 8, _, e => exact c8 e
    | 9, _, e => exact c9 e
    | 10, _, e => exact c10 e
    | 11, _, e => exact c11 e
    | 12, _, e => exact c12 e
    | 13, _, e => exact c13 e
    | 14, _, e => exact c14 e
    | 15, _, e => exact c15 e
    | 16, _, e => exact c16 e
    | 17, _, e => exact c17 e
    | 18, _, e => exact c18 e
    | 19, _, e => exact c19 e
    | 20, _, e => exact c20 e
    | 21, _, e => exact c21 e
    | 22, _, e => exact c22 e
    | 23, _, e => exact c23 e
    | 24, _, e => exact c24 e
    | 25, _, e => exact c25 e
    | 26, _, e => exact c26 e
    | 27, _, e => exact c27 e
    | 28, _, e => exact c28 e
    | 29, _, e => exact c29 e
    | 30, _, e => exact c30 e
    | k + 31, hk, _ => omega) with q | q
  · exact Or.inl q
  · exact Or.inr (by omega)
abbrev tyL (cI cB cM cR : ClassId) : List (ClassId × FieldType) := [(cI, .int), (cB, .byte), (cM, .object "LitWick$Image"), (cR, .array .int)]
abbrev q2_ (a b : Nat) : Nat → Option Nat := fun i => match i with | 0 => some a | 1 => some b | _ => none
abbrev q10_ (a b c d e f g h i j : Nat) : Nat → Option Nat := fun x => match x with | 0 => some a | 1 => some b | 2 => some c | 3 => some d | 4 => some e | 5 => some f | 6 => some g | 7 => some h | 8 => some i | 9 => some j | _ => none
