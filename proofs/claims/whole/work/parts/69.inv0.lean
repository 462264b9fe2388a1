/-! the law from its entry -/
theorem ar_prim {ty : FieldType} {A : Array Value} {s : State} (h : (Cond.arrayClass ty).before A s = true) : ∃ cA : ClassId, ArrOfT s cA ty ∧ s.vm.findClass ("[" ++ ty.toString) = some cA := by
  obtain ⟨c, k, comp, h1, h2, h3⟩ := Cond.arrayClass_spec h
  exact ⟨c, fun n z => ⟨fun k' e => (by cases e), k, h2, comp, h3⟩, h1⟩
theorem ar_obj {C : String} {s : State} (h : va_AO C s) : ∃ cA : ClassId, ArrOfT s cA (.object C) ∧ va_RA s cA (.object C) := by
  obtain ⟨comp, c, k, h1, -, h3, h4, h5⟩ := Cond.arrayOver_spec h
  exact ⟨c, fun n z => ⟨fun k' e => (by cases e), k, h3, comp, h4⟩, ⟨k, comp, h3, h4, h1, h5⟩⟩
theorem ar_arr {ty : FieldType} {s : State} (h : va_AOA ty s) : ∃ cA : ClassId, ArrOfT s cA (.array ty) ∧ s.vm.findClass ("[" ++ (FieldType.array ty).toString) = some cA := by
  obtain ⟨cy, cA, kA, -, hk, hkind, hf⟩ := mn_AOA h
  exact ⟨cA, fun n z => ⟨fun q hq => (by cases hq), kA, hk, cy, hkind⟩, hf⟩
theorem INV_0 : ∃ (o1 : Nat → Int32) (o2 : Int32 × Int32 × (Nat → Int32) × (Nat → Int32) × (Nat → Int32)), f_X8_plain (fun _ => 0) = some o1 ∧ f_X8_takes 0 0 o1 (fun _ => 0) (fun _ => 0) (fun _ => 0) = some o2 ∧ INV 0 0 (fun _ => 0) 0 0 0 0 0 (fun _ => 0) (fun _ => 0) (fun _ => 0) (fun _ => 0) (fun _ => 0) (fun _ => 0) (fun _ => 0) (fun _ => 0) (fun _ => 0) (fun _ => 0) 0 0 (fun _ _ => 0) 0 (fun _ => 0) 0 0 (fun _ _ => 0) 0 (fun _ => 0) 0 0 (fun _ _ => 0) (fun _ => 0) 0 (fun _ => 0) 0 o2.1 o2.2.1 0 (fun _ => 0) o2.2.2.1 o2.2.2.2.1 (fun _ => 0) (fun _ => 0) o2.2.2.2.2 := by
  obtain ⟨o1, h1, hz⟩ := m_plain (r := fun _ => 0)
  have h2 := m_takes (und := 0) (wan := 0) (r := o1) (hou := fun _ => 0) (now := fun _ => 0) (kep := fun _ => 0) (nc := 0) (hz 2 (by decide)) (by decide)
  have hx5 : ∀ k, k < 59 → cpx o1 (fun _ => 0) 0 59 k = o1 k := fun k hk => by
    have := cpx_in (f := o1) (g := fun _ => 0) (b := 0) (n := 59) hk
    rw [Nat.zero_add] at this
    exact this
  have hH0 : HH o1 0 0 0 0 0 := ⟨⟨hz 0 (by decide), hz 1 (by decide), hz 2 (by decide), hz 3 (by decide), hz 4 (by decide)⟩, ⟨by decide, by decide, by decide, by decide, by decide⟩, fun d hd => absurd hd (by omega), fun d hd => absurd hd (by omega), fun d hd => absurd hd (by omega), fun d hd => absurd hd (by omega)⟩
  have hH := HH_ext hx5 hH0
  have hrow : (fun _ => 0) = rowOf (nzc (cpx o1 (fun _ => 0) 0 59) (fun _ => 0) 0) := (row_z (fun k hk => nz_47 hk)).symm
  have hN := NI_new (now := fun _ => 0) hH
  refine ⟨o1, _, h1, h2, ?_⟩
  exact ⟨0, 0, 0, 0, 0, 0, 0, 0, 0, ⟨rfl, rfl, rfl, hrow, rfl, rfl, rfl, rfl, rfl⟩, ⟨by omega, fun i hi => absurd hi (by omega)⟩, hH, ⟨⟨rfl, rfl, rfl, rfl, rfl⟩, fun d hd => absurd hd (by omega), fun d hd => absurd hd (by omega), fun d hd => absurd hd (by omega), fun d hd => absurd hd (by omega)⟩, ⟨hN, ⟨0, by omega, rfl⟩, ⟨by omega, by omega, fun _ _ _ => rfl, fun i hi => absurd hi (by omega)⟩⟩, ⟨⟨fun _ _ => rfl, fun _ _ _ => rfl⟩, Or.inl ⟨rfl, rfl⟩⟩, ⟨⟨fun _ _ => rfl, fun _ _ _ => rfl⟩, Or.inl ⟨rfl, rfl⟩⟩, fun _ _ => rfl, ⟨by omega, fun i hi => absurd hi (by omega)⟩⟩
