/-! new T[n][k] over the machine's own step: rows of mine; nothing of the library's folder Shelf42 is used -/
/-- the outer row, its first i places filled: the rows lie behind it, one after another -/
def mn_o (cA : ClassId) (N h i : Nat) : Cell := arrV cA N (fun j => va_rf (if j < i then some (h + 1 + j) else none))
theorem mn_o_size (cA : ClassId) (N h i : Nat) : (mn_o cA N h i).slots.size = N := arrV_size _ _ _
theorem mn_o_new (cA : ClassId) (N h : Nat) : ({ cls := cA, slots := Array.replicate N .null } : Cell) = mn_o cA N h 0 := by
  refine (arrV_new cA N .null).trans ?_
  exact congrArg (arrV cA N) (funext fun j => by rw [if_neg (Nat.not_lt_zero j)]; rfl)
theorem mn_o_next (cA : ClassId) (N h i : Nat) : (mn_o cA N h i).setSlot i (.ref (h + 1 + i)) = mn_o cA N h (i + 1) := by
  unfold mn_o
  rw [arrV_store]
  refine congrArg (arrV cA N) (funext fun j => ?_)
  unfold updV
  by_cases e : j = i
  · rw [if_pos e, e, if_pos (Nat.lt_succ_self i)]; rfl
  · rw [if_neg e]
    show va_rf (if j < i then some (h + 1 + j) else none) = va_rf (if j < i + 1 then some (h + 1 + j) else none)
    by_cases q : j < i
    · rw [if_pos q, if_pos (Nat.lt_succ_of_lt q)]
    · rw [if_neg q, if_neg (by omega)]
theorem mn_arr {α : Type} (A : Array α) (a b r : α) (i : Nat) : ((A.push a ++ Array.replicate i r).push r).setIfInBounds A.size b = A.push b ++ Array.replicate (i + 1) r := by
  apply Array.ext_getElem?
  intro j
  rcases Nat.lt_trichotomy j A.size with h | h | h
  · rw [Array.getElem?_setIfInBounds_ne (by omega)]
    rw [Array.getElem?_push, if_neg (by rw [Array.size_append, Array.size_push]; omega), Array.getElem?_append_left (by rw [Array.size_push]; omega), Array.getElem?_append_left (by rw [Array.size_push]; omega), Array.getElem?_push, Array.getElem?_push, if_neg (by omega), if_neg (by omega)]
  · subst h
    simp [Array.getElem?_append]
  · rw [Array.getElem?_setIfInBounds_ne (by omega)]
    simp only [Array.getElem?_push, Array.getElem?_append, Array.size_append, Array.size_push, Array.size_replicate, Array.getElem?_replicate, if_neg (show ¬ j < A.size + 1 by omega)]
    by_cases h1 : j = A.size + 1 + i
    · rw [if_pos h1, if_pos (by omega)]
    · rw [if_neg h1]
      by_cases h2 : j - (A.size + 1) < i
      · rw [if_pos h2, if_pos (by omega)]
      · rw [if_neg h2, if_neg (by omega)]
/-- U with the outer row and i rows behind it -/
def mn_S (U : State) (cA cy : ClassId) (N K : Nat) (v : Value) (i : Nat) : State :=
  { U with heap := U.heap.push (mn_o cA N U.heap.size i) ++ Array.replicate i (arrV cy K (fun _ => v)), slotsUsed := U.slotsUsed + N + i * K }
section MNS
variable (U : State) (cA cy : ClassId) (N K : Nat) (v : Value)
theorem mn_S_new : U.pushCell (mn_o cA N U.heap.size 0) = mn_S U cA cy N K v 0 := by
  show ({ U with heap := U.heap.push (mn_o cA N U.heap.size 0), slotsUsed := U.slotsUsed + (mn_o cA N U.heap.size 0).slots.size } : State) = { U with heap := U.heap.push (mn_o cA N U.heap.size 0) ++ Array.replicate 0 (arrV cy K (fun _ => v)), slotsUsed := U.slotsUsed + N + 0 * K }
  rw [mn_o_size, Nat.zero_mul, Nat.add_zero (U.slotsUsed + N), show (Array.replicate 0 (arrV cy K (fun _ => v))) = #[] from rfl, Array.append_empty]
theorem mn_S_next (i : Nat) : ((mn_S U cA cy N K v i).pushCell (arrV cy K (fun _ => v))).setCell U.heap.size (mn_o cA N U.heap.size (i + 1)) = mn_S U cA cy N K v (i + 1) := by
  have e2 : U.slotsUsed + N + i * K + (arrV cy K (fun _ => v)).slots.size = U.slotsUsed + N + (i + 1) * K := by rw [arrV_size, Nat.succ_mul, Nat.add_assoc (U.slotsUsed + N)]
  show ({ U with heap := ((U.heap.push (mn_o cA N U.heap.size i) ++ Array.replicate i (arrV cy K (fun _ => v))).push (arrV cy K (fun _ => v))).setIfInBounds U.heap.size (mn_o cA N U.heap.size (i + 1)), slotsUsed := U.slotsUsed + N + i * K + (arrV cy K (fun _ => v)).slots.size } : State) = { U with heap := U.heap.push (mn_o cA N U.heap.size (i + 1)) ++ Array.replicate (i + 1) (arrV cy K (fun _ => v)), slotsUsed := U.slotsUsed + N + (i + 1) * K }
  rw [mn_arr, e2]
theorem mn_S_size (i : Nat) : (mn_S U cA cy N K v i).heap.size = U.heap.size + 1 + i := by
  show (U.heap.push _ ++ Array.replicate i _).size = _
  rw [Array.size_append, Array.size_push, Array.size_replicate]
theorem mn_S_outer (i : Nat) : (mn_S U cA cy N K v i).heap[U.heap.size]? = some (mn_o cA N U.heap.size i) := by
  show (U.heap.push _ ++ Array.replicate i _)[U.heap.size]? = _
  rw [Array.getElem?_append_left (by rw [Array.size_push]; omega), Array.getElem?_push_size]
theorem mn_S_old (i : Nat) {x : Nat} (h : x < U.heap.size) : (mn_S U cA cy N K v i).heap[x]? = U.heap[x]? := by
  show (U.heap.push _ ++ Array.replicate i _)[x]? = _
  rw [Array.getElem?_append_left (by rw [Array.size_push]; omega), Array.getElem?_push, if_neg (by omega)]
theorem mn_S_row {i j : Nat} (h : j < i) : (mn_S U cA cy N K v i).heap[U.heap.size + 1 + j]? = some (arrV cy K (fun _ => v)) := by
  show (U.heap.push _ ++ Array.replicate i _)[U.heap.size + 1 + j]? = _
  rw [Array.getElem?_append_right (by rw [Array.size_push]; omega), Array.size_push, Nat.add_sub_cancel_left, Array.getElem?_replicate, if_pos h]
theorem mn_S_top (f : JFrame) (i : Nat) : mn_S (U.setTop f) cA cy N K v i = (mn_S U cA cy N K v i).setTop f := rfl
end MNS
section MNX
variable {p : Program} {l : Launch} {e : Env} {R : Room} {s : State} {m : MethodId} {args : Array Value} {below : List Frame} {meth : Method} {c : Code} {T : State} {locs : List Loc} {cells slots : Nat}
theorem mn_stand (X : Stand p l e R s m args below meth c T locs cells slots) (cA cy : ClassId) (N K : Nat) (v : Value) : ∀ i : Nat, Stand p l e R s m args below meth c (mn_S T cA cy N K v i) locs (cells + 1 + i) (slots + N + i * K)
  | 0 => by
    have h := X.pushed (mn_o cA N T.heap.size 0)
    rw [mn_o_size, mn_S_new T cA cy N K v] at h
    rw [Nat.zero_mul]
    exact h
  | i + 1 => by
    have h := (mn_stand X cA cy N K v i).pushed (arrV cy K (fun _ => v))
    have hc : ((mn_S T cA cy N K v i).pushCell (arrV cy K (fun _ => v))).heap[T.heap.size]? = some (mn_o cA N T.heap.size i) := by
      have hl : T.heap.size < (mn_S T cA cy N K v i).heap.size := by rw [mn_S_size]; omega
      rw [State.heap_pushCell_of_lt (h := hl)]
      exact mn_S_outer T cA cy N K v i
    have h2 := h.stored hc i (.ref (T.heap.size + 1 + i))
    rw [mn_o_next, mn_S_next, arrV_size] at h2
    have h3 := h2.dropFresh (fun x hx => by
      rw [List.mem_singleton] at hx
      rw [hx]
      exact X.heapGrown)
    rw [Nat.succ_mul, ← Nat.add_assoc (slots + N)]
    exact h3
end MNX
section MNL
variable {E : CtlPost} {e : Env}
/-- a loop over the numbers i .. N - 1, its states given one by one -/
theorem mn_loop {N : Nat} {f : Nat → PUnit → Sem (ForInStep PUnit)} {S : Nat → State} {Q : PUnit → Pre}
    (hs : ∀ (i : Nat), i < N → ∀ (d : Bool) (acts : List Action) (Q' : ForInStep PUnit → Pre), (∀ (d' : Bool) (acts' : List Action), Q' (ForInStep.yield PUnit.unit) d' acts' (S (i + 1))) → wp (f i PUnit.unit) Q' E e d acts (S i))
    (hq : ∀ (d : Bool) (acts : List Action), Q PUnit.unit d acts (S N)) : ∀ (k i : Nat) (d : Bool) (acts : List Action), i + k = N → wp (forIn (List.range' i k) PUnit.unit f) Q E e d acts (S i)
  | 0, i, d, acts, h => by
    have e1 : i = N := h
    subst e1
    rw [List.range'_zero, List.forIn_nil, wp_pure']
    exact hq d acts
  | k + 1, i, d, acts, h => by
    rw [List.range'_succ, List.forIn_cons, wp_bind']
    exact hs i (by omega) d acts _ (fun d' acts' => mn_loop hs hq k (i + 1) d' acts' (by omega))
variable {d : Bool} {acts : List Action} {U : State} {Q : Addr → Pre} {cA cy cz : ClassId} {kA kC : Class} {ty : FieldType} {n k : Int32}
theorem mn_row (hc : U.vm.classes[cy]? = some kC) (hkc : kC.kind = .array cz ty) (hk : ¬ k < 0) (h1 : ¬ k.toNatClampNeg > e.platform.arrayLengthLimit) (h2 : ¬ k.toNatClampNeg * componentBytes ty > e.platform.maxHeapBytes) (h3 : U.heap.size < e.platform.maxCells) (h4 : U.slotsUsed + k.toNatClampNeg ≤ e.platform.maxSlots) (hf : fits ty (defaultValue ty) = true)
    (hq : ∀ acts' : List Action, Q U.heap.size d acts' (U.pushCell (arrV cy k.toNatClampNeg (fun _ => defaultValue ty)))) : wp (multianewarray.make cy [k]) Q E e d acts U := by
  rw [multianewarray.make]
  simp only [wp_bind', W.ite, hk, if_false, wp_pure', W.theClass, hc, hkc, Option.some.injEq, exists_eq_left']
  refine W.newArray_of hc hkc h1 h2 h3 h4 hf (fun acts' => ?_)
  have h := hq acts'
  rw [← arrV_new] at h
  exact h
theorem mn_make (hA : U.vm.classes[cA]? = some kA) (hkA : kA.kind = .array cy (.array ty)) (hc : U.vm.classes[cy]? = some kC) (hkc : kC.kind = .array cz ty) (hn : ¬ n < 0) (hk : ¬ k < 0)
    (h1 : ¬ n.toNatClampNeg > e.platform.arrayLengthLimit) (h2 : ¬ n.toNatClampNeg * componentBytes (.array ty) > e.platform.maxHeapBytes) (h3 : ¬ k.toNatClampNeg > e.platform.arrayLengthLimit) (h4 : ¬ k.toNatClampNeg * componentBytes ty > e.platform.maxHeapBytes)
    (h5 : U.heap.size + (1 + n.toNatClampNeg) ≤ e.platform.maxCells) (h6 : U.slotsUsed + (n.toNatClampNeg + n.toNatClampNeg * k.toNatClampNeg) ≤ e.platform.maxSlots) (hf : fits ty (defaultValue ty) = true)
    (hq : ∀ (d' : Bool) (acts' : List Action), Q U.heap.size d' acts' (mn_S U cA cy n.toNatClampNeg k.toNatClampNeg (defaultValue ty) n.toNatClampNeg)) : wp (multianewarray.make cA [n, k]) Q E e d acts U := by
  have hno : ([k].find? (· < 0)) = none := List.find?_eq_none.mpr (fun x hx => by rw [List.mem_singleton] at hx; rw [hx]; simpa using hk)
  rw [multianewarray.make]
  simp only [wp_bind', W.ite, hn, if_false, wp_pure', W.theClass, hA, hkA, Option.some.injEq, exists_eq_left', hno, ite_self]
  refine W.newArray_of hA hkA h1 h2 (by omega) (by omega) rfl (fun acts0 => ?_)
  rw [mn_o_new cA n.toNatClampNeg U.heap.size, mn_S_new U cA cy n.toNatClampNeg k.toNatClampNeg (defaultValue ty), Std.Legacy.Range.forIn_eq_forIn_range']
  have hsz : ([:n.toNatClampNeg] : Std.Legacy.Range).size = n.toNatClampNeg := by simp [Std.Legacy.Range.size]
  rw [hsz, wp_bind']
  refine mn_loop (N := n.toNatClampNeg) (S := mn_S U cA cy n.toNatClampNeg k.toNatClampNeg (defaultValue ty)) (fun i hi d1 acts1 Q' hy => ?_) ?_ n.toNatClampNeg 0 d acts0 (Nat.zero_add _)
  rotate_left
  · intro d1 acts1
    rw [wp_pure']
    exact hq d1 acts1
  have hm : i * k.toNatClampNeg + k.toNatClampNeg ≤ n.toNatClampNeg * k.toNatClampNeg := by
    rw [← Nat.succ_mul]
    exact Nat.mul_le_mul_right _ hi
  rw [wp_bind']
  refine mn_row (kC := kC) (cz := cz) hc hkc hk h3 h4 (by rw [mn_S_size]; omega) (by show U.slotsUsed + n.toNatClampNeg + i * k.toNatClampNeg + k.toNatClampNeg ≤ _; omega) hf (fun acts2 => ?_)
  rw [wp_bind', W.writeLoc]
  refine ⟨mn_o cA n.toNatClampNeg U.heap.size i, ?_, (fun h => by cases h), by rw [mn_o_size]; exact hi, ?_, ?_⟩
  · have hl : U.heap.size < (mn_S U cA cy n.toNatClampNeg k.toNatClampNeg (defaultValue ty) i).heap.size := by rw [mn_S_size]; omega
    rw [State.heap_pushCell_of_lt (h := hl)]
    exact mn_S_outer U cA cy _ _ _ i
  · have hfit : ∀ (V : State) (a : Addr), V.vm = U.vm → V.fitsSlot cA .none i (.ref a) = true := fun V a hV => by
      simp [State.fitsSlot, State.slotType?, hV, hA, hkA, fits]
    exact hfit _ _ rfl
  · rw [wp_pure', mn_S_size, mn_o_next, mn_S_next]
    exact hy _ _
end MNL
/-! what is known of the class of arrays of arrays -/
def va_AOA (ty : FieldType) (U : State) : Prop := (Cond.arrayOver (.array ty)).before #[] U = true
theorem va_AOA.use {ty : FieldType} {A : Array Value} {U : State} (h : va_AOA ty U) : (Cond.arrayOver (.array ty)).before A U = true := h
theorem va_AOA.of {ty : FieldType} {A : Array Value} {U : State} (h : (Cond.arrayOver (.array ty)).before A U = true) : va_AOA ty U := h
theorem mn_AOA {ty : FieldType} {U : State} (h : va_AOA ty U) : ∃ (cy cA : ClassId) (kA : Class), U.vm.findClass (FieldType.array ty).toString = some cy ∧ U.vm.classes[cA]? = some kA ∧ kA.kind = .array cy (.array ty) ∧ U.vm.findClass ("[" ++ (FieldType.array ty).toString) = some cA := by
  unfold va_AOA Cond.before at h
  simp only [Cond.holds, Cond.value, beq_iff_eq, Option.bind_eq_some_iff, Option.map_eq_some_iff] at h
  obtain ⟨cy, hcy, cA, hi, kA, hkA, hb⟩ := h
  have hp := (Array.findIdx?_eq_some_iff_getElem.mp hi).2.1
  rw [(Array.getElem?_eq_some_iff.mp hkA).2] at hp
  have key : ∀ K : Kind, kA.kind = K → K = .array cy (.array ty) ∧ U.vm.findClass ("[" ++ (FieldType.array ty).toString) = some cA := fun K hK => by
    rw [hK] at hp hb
    cases K <;> simp at hp hb
    exact ⟨by rw [hp, hb.1], hb.2⟩
  exact ⟨cy, cA, kA, hcy, hkA, (key _ rfl).1, (key _ rfl).2⟩
section MNX2
variable {p : Program} {l : Launch} {e : Env} {R : Room} {s : State} {m : MethodId} {args : Array Value} {below : List Frame} {meth : Method} {c : Code} {T : State} {locs : List Loc} {cells slots : Nat}
theorem mn_step (X : Stand p l e R s m args below meth c T locs cells slots) (hexec : p.tables.exec = Jvm.exec) {own : String} {index : Nat} {ty : FieldType} {n k : Int32} {rest : List Value} {g : JFrame} (hg : g.method = m) (hst : g.stack = .int k :: .int n :: rest) (hdg : decode c.code g.pc = .ok (.multianewarray index 2, 4))
    (hown : s.vm.findClass own = some m.cls) (hlink : (Cond.classLink own index ("[" ++ (FieldType.array ty).toString)).before args s = true) (hover : va_AOA ty s) (harr : (Cond.arrayClass ty).before args s = true) (hn : ¬ n < 0) (hk : ¬ k < 0)
    (b1 : n.toNatClampNeg * 4 ≤ 536870912) (b2 : k.toNatClampNeg * componentBytes ty ≤ 536870912) (b3 : k.toNatClampNeg ≤ 536870912) (hf : fits ty (defaultValue ty) = true) (hc : cells + (1 + n.toNatClampNeg) ≤ R.cells) (hs : slots + (n.toNatClampNeg + n.toNatClampNeg * k.toNatClampNeg) ≤ R.slots) :
    ∃ (F : State) (cA cy : ClassId), (s.vm.findClass ("[" ++ (FieldType.array ty).toString) = some cA ∧ ArrOfT s cA (.array ty) ∧ s.vm.findClass (FieldType.array ty).toString = some cy) ∧
      (F.heap.size = T.heap.size + 1 + n.toNatClampNeg ∧ F.heap[T.heap.size]? = some (mn_o cA n.toNatClampNeg T.heap.size n.toNatClampNeg) ∧ (∀ x : Nat, x < T.heap.size → F.heap[x]? = T.heap[x]?) ∧ ∀ j : Nat, j < n.toNatClampNeg → F.heap[T.heap.size + 1 + j]? = some (arrV cy k.toNatClampNeg (fun _ => defaultValue ty))) ∧
      Stand p l e R s m args below meth c F locs (cells + 1 + n.toNatClampNeg) (slots + n.toNatClampNeg + n.toNatClampNeg * k.toNatClampNeg) ∧
      ∀ t : State, Steps p.tables e below (F.setTop { g with pc := g.pc + 4, stack := .ref T.heap.size :: rest }) t → Steps p.tables e below (T.setTop g) t := by
  subst hg
  obtain ⟨cy, cA, kA, hcy, hkA, hA, hcA⟩ := mn_AOA hover
  obtain ⟨cy', kC, cz, hcy', hkC, hC⟩ := Cond.arrayClass_spec harr
  have ey : cy' = cy := Option.some.inj (hcy'.symm.trans hcy)
  subst ey
  obtain ⟨cL, hcL, hL⟩ := Cond.classLink_spec hown hlink e.platform (by rw [X.admits.platform])
  have eL : cL = cA := Option.some.inj (hcL.symm.trans hcA)
  subst eL
  obtain ⟨hgive, hwarm, -⟩ := State.classEntry (e := e) X.warmed hL
  generalize T.vm.noted g.method.cls index (.cls cL) = vm1 at hgive hwarm
  obtain ⟨kA1, hkA1, eA1⟩ := hwarm.alike.2.2 _ _ hkA
  obtain ⟨kC1, hkC1, eC1⟩ := hwarm.alike.2.2 _ _ hkC
  have hA1 : kA1.kind = .array cy' (.array ty) := by rw [eA1]; exact hA
  have hC1 : kC1.kind = .array cz ty := by rw [eC1]; exact hC
  obtain ⟨r1, r2⟩ := X.roomAbove hc hs
  have lim : e.platform.arrayLengthLimit = 2147483645 := Launch.admits_arrayLengthLimit X.admits
  have XF := mn_stand (X.noted hwarm) cL cy' n.toNatClampNeg k.toNatClampNeg (defaultValue ty) n.toNatClampNeg
  refine ⟨mn_S (T.setVm vm1) cL cy' n.toNatClampNeg k.toNatClampNeg (defaultValue ty) n.toNatClampNeg, cL, cy', ⟨hcA, fun N9 z9 => ⟨fun q hq => (by cases hq), kA, hkA, cy', hA⟩, hcy⟩, ⟨mn_S_size _ _ _ _ _ _ _, mn_S_outer _ _ _ _ _ _ _, fun x hx => mn_S_old (T.setVm vm1) _ _ _ _ _ _ hx, fun j hj => mn_S_row (T.setVm vm1) _ _ _ _ _ hj⟩, XF, fun t ht => ?_⟩
  jvm_step X.here [hexec, hdg]
  simp only [multianewarray.sem, wp_bind', W.resolveClassAt_links (State.method?_setTop g X.here.top) hgive]
  rw [W.popN, if_neg (by decide)]
  refine ⟨g, State.topJava?_setTop' (s := T.setVm vm1) g X.here.top, [.int n, .int k], rest, rfl, hst, ?_⟩
  simp only [List.mapM_cons, List.mapM_nil, wp_bind', wp_pure']
  refine mn_make (kA := kA1) (kC := kC1) (cy := cy') (cz := cz) (ty := ty) hkA1 hA1 hkC1 hC1 hn hk (by rw [lim]; omega) (by rw [Launch.admits_maxHeapBytes X.admits]; show ¬ n.toNatClampNeg * 4 > 536870912; omega) (by rw [lim]; omega) (by rw [Launch.admits_maxHeapBytes X.admits]; omega) r1 r2 hf (fun d1 acts1 => ?_)
  have eS : ((T.setTop g).setVm vm1).setTop { g with stack := rest } = (T.setVm vm1).setTop { g with stack := rest } := State.setTop_setTop (s := T.setVm vm1) ..
  rw [eS, mn_S_top]
  rw [wp_bind', W.mark, W.pushRef]
  refine ⟨{ g with stack := rest }, State.topJava?_setTop' _ XF.here.top, ?_⟩
  rw [State.setTop_setTop]
  intro acts2
  simp only [jvm, XF.here.top]
  exact ht
end MNX2
