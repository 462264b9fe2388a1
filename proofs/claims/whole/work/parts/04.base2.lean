theorem lk4 {x k0 k1 k2 k3 : Int32} {a0 o0 a1 o1 a2 o2 a3 o3 d : Int} (c0 : ¬ x = k0) (c1 : ¬ x = k1) (c2 : ¬ x = k2) (c3 : ¬ x = k3) (e0 : k0.toInt = a0) (e1 : k1.toInt = a1) (e2 : k2.toInt = a2) (e3 : k3.toInt = a3) : Op.lookupswitch.offset [(a0, o0), (a1, o1), (a2, o2), (a3, o3)] d x.toInt = d := by
  rw [Op.lookupswitch.offset_cons, if_neg (fun h => c0 (Int32.toInt_inj.mp (h.symm.trans e0.symm)))]
  rw [Op.lookupswitch.offset_cons, if_neg (fun h => c1 (Int32.toInt_inj.mp (h.symm.trans e1.symm)))]
  rw [Op.lookupswitch.offset_cons, if_neg (fun h => c2 (Int32.toInt_inj.mp (h.symm.trans e2.symm)))]
  rw [Op.lookupswitch.offset_cons, if_neg (fun h => c3 (Int32.toInt_inj.mp (h.symm.trans e3.symm)))]
  rfl
theorem lk5 {x k0 k1 k2 k3 k4 : Int32} {a0 o0 a1 o1 a2 o2 a3 o3 a4 o4 d : Int} (c0 : ¬ x = k0) (c1 : ¬ x = k1) (c2 : ¬ x = k2) (c3 : ¬ x = k3) (c4 : ¬ x = k4) (e0 : k0.toInt = a0) (e1 : k1.toInt = a1) (e2 : k2.toInt = a2) (e3 : k3.toInt = a3) (e4 : k4.toInt = a4) : Op.lookupswitch.offset [(a0, o0), (a1, o1), (a2, o2), (a3, o3), (a4, o4)] d x.toInt = d := by
  rw [Op.lookupswitch.offset_cons, if_neg (fun h => c0 (Int32.toInt_inj.mp (h.symm.trans e0.symm)))]
  rw [Op.lookupswitch.offset_cons, if_neg (fun h => c1 (Int32.toInt_inj.mp (h.symm.trans e1.symm)))]
  rw [Op.lookupswitch.offset_cons, if_neg (fun h => c2 (Int32.toInt_inj.mp (h.symm.trans e2.symm)))]
  rw [Op.lookupswitch.offset_cons, if_neg (fun h => c3 (Int32.toInt_inj.mp (h.symm.trans e3.symm)))]
  rw [Op.lookupswitch.offset_cons, if_neg (fun h => c4 (Int32.toInt_inj.mp (h.symm.trans e4.symm)))]
  rfl
