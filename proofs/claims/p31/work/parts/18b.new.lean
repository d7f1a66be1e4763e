/-! NEW OBJECTS and rows: a row each site -/
theorem is_X11 : Cond.instantiable RX11 15 ∈ m_TW := m_in (t_in1 (List.mem_of_getElem? (i := 32) rfl)) rfl
theorem is_X9 : Cond.instantiable RX9 5 ∈ m_TW := m_in (t_in1 (List.mem_of_getElem? (i := 40) rfl)) rfl
theorem is_X5 : Cond.instantiable RX5 8 ∈ m_TW := m_in (t_in1 (List.mem_of_getElem? (i := 118) rfl)) rfl
theorem is_X7 : Cond.instantiable RX7 17 ∈ m_TW := m_in (t_in1 (List.mem_of_getElem? (i := 127) rfl)) rfl
theorem is_X8 : Cond.instantiable RX8 4 ∈ m_TW := m_in (t_in1 (List.mem_of_getElem? (i := 133) rfl)) rfl
theorem is_X10 : Cond.instantiable RX10 6 ∈ m_TW := m_in (t_in1 (List.mem_of_getElem? (i := 155) rfl)) rfl
theorem is_X0 : Cond.instantiable RX0 5 ∈ m_TW := m_in (t_in2 (List.mem_of_getElem? (i := 21) rfl)) rfl
theorem is_X3 : Cond.instantiable RX3 14 ∈ m_TW := m_in (t_in2 (List.mem_of_getElem? (i := 85) rfl)) rfl
theorem is_X4 : Cond.instantiable RX4 8 ∈ m_TW := m_in (t_in2 (List.mem_of_getElem? (i := 136) rfl)) rfl
theorem is_X1 : Cond.instantiable RX1 10 ∈ m_TW := m_in (t_in2 (List.mem_of_getElem? (i := 167) rfl)) rfl
theorem is_X6 : Cond.instantiable RX6 5 ∈ m_TW := m_in (t_in2 (List.mem_of_getElem? (i := 174) rfl)) rfl
theorem is_X2 : Cond.instantiable RX2 4 ∈ m_TW := m_in (t_in3 (List.mem_of_getElem? (i := 7) rfl)) rfl
theorem is_J4 : Cond.instantiable RJ4 4 ∈ m_TW := m_in (t_in6 (List.mem_of_getElem? (i := 87) rfl)) rfl
theorem is_J0 : Cond.instantiable RJ0 4 ∈ m_TW := m_in (t_in6 (List.mem_of_getElem? (i := 234) rfl)) rfl
theorem cl_L_20 : Cond.classLink RL 20 RX11 ∈ m_TW := m_in (t_in1 (List.mem_of_getElem? (i := 31) rfl)) rfl
theorem nw_L_20 {x : Cxt} {cc : ByteArray} {nL pc pc' : Nat} {y : MethodName} {ret : Option FieldType} {hh : List (Nat × Nat × Nat × Nat)} {lv : List (Nat × Value)} {st : List Value} {h : Hp} {kc ks dd Mc Ms : Nat} (hrm : m_rm dd Mc Ms x) (hd : decode cc pc = .ok (.new 20, 3)) (hp : pc + 3 = pc') (hmc : kc + 1 ≤ Mc) (hms : ks + 15 ≤ Ms) (k : ∀ q : Nat, ¬ m_K h q < 28 → wp x (RL, cc, nL, y, ret, hh) pc' lv (.ref q :: st) (n_O h q 11) (kc + 1) (ks + 15)) : wp x (RL, cc, nL, y, ret, hh) pc lv st h kc ks :=
  w_new (C := RX11) (T := TX11) (N := 15) (ci := 11) hrm tyX11 hd hp cl_L_20 is_X11 ini_RX11 rfl (by decide) rfl in_X11 tyX11_ok (by decide +kernel) hmc hms k
theorem cl_X11_13 : Cond.classLink RX11 13 RX9 ∈ m_TW := m_in (t_in1 (List.mem_of_getElem? (i := 39) rfl)) rfl
theorem nw_X11_13 {x : Cxt} {cc : ByteArray} {nL pc pc' : Nat} {y : MethodName} {ret : Option FieldType} {hh : List (Nat × Nat × Nat × Nat)} {lv : List (Nat × Value)} {st : List Value} {h : Hp} {kc ks dd Mc Ms : Nat} (hrm : m_rm dd Mc Ms x) (hd : decode cc pc = .ok (.new 13, 3)) (hp : pc + 3 = pc') (hmc : kc + 1 ≤ Mc) (hms : ks + 5 ≤ Ms) (k : ∀ q : Nat, ¬ m_K h q < 28 → wp x (RX11, cc, nL, y, ret, hh) pc' lv (.ref q :: st) (n_O h q 9) (kc + 1) (ks + 5)) : wp x (RX11, cc, nL, y, ret, hh) pc lv st h kc ks :=
  w_new (C := RX9) (T := TX9) (N := 5) (ci := 9) hrm tyX9 hd hp cl_X11_13 is_X9 ini_RX9 rfl (by decide) rfl in_X9 tyX9_ok (by decide +kernel) hmc hms k
theorem cl_X11_20 : Cond.classLink RX11 20 RX5 ∈ m_TW := m_in (t_in1 (List.mem_of_getElem? (i := 117) rfl)) rfl
theorem nw_X11_20 {x : Cxt} {cc : ByteArray} {nL pc pc' : Nat} {y : MethodName} {ret : Option FieldType} {hh : List (Nat × Nat × Nat × Nat)} {lv : List (Nat × Value)} {st : List Value} {h : Hp} {kc ks dd Mc Ms : Nat} (hrm : m_rm dd Mc Ms x) (hd : decode cc pc = .ok (.new 20, 3)) (hp : pc + 3 = pc') (hmc : kc + 1 ≤ Mc) (hms : ks + 8 ≤ Ms) (k : ∀ q : Nat, ¬ m_K h q < 28 → wp x (RX11, cc, nL, y, ret, hh) pc' lv (.ref q :: st) (n_O h q 5) (kc + 1) (ks + 8)) : wp x (RX11, cc, nL, y, ret, hh) pc lv st h kc ks :=
  w_new (C := RX5) (T := TX5) (N := 8) (ci := 5) hrm tyX5 hd hp cl_X11_20 is_X5 ini_RX5 rfl (by decide) rfl in_X5 tyX5_ok (by decide +kernel) hmc hms k
theorem cl_X5_9 : Cond.classLink RX5 9 RX7 ∈ m_TW := m_in (t_in1 (List.mem_of_getElem? (i := 123) rfl)) rfl
theorem nw_X5_9 {x : Cxt} {cc : ByteArray} {nL pc pc' : Nat} {y : MethodName} {ret : Option FieldType} {hh : List (Nat × Nat × Nat × Nat)} {lv : List (Nat × Value)} {st : List Value} {h : Hp} {kc ks dd Mc Ms : Nat} (hrm : m_rm dd Mc Ms x) (hd : decode cc pc = .ok (.new 9, 3)) (hp : pc + 3 = pc') (hmc : kc + 1 ≤ Mc) (hms : ks + 17 ≤ Ms) (k : ∀ q : Nat, ¬ m_K h q < 28 → wp x (RX5, cc, nL, y, ret, hh) pc' lv (.ref q :: st) (n_O h q 7) (kc + 1) (ks + 17)) : wp x (RX5, cc, nL, y, ret, hh) pc lv st h kc ks :=
  w_new (C := RX7) (T := TX7) (N := 17) (ci := 7) hrm tyX7 hd hp cl_X5_9 is_X7 ini_RX7 rfl (by decide) rfl in_X7 tyX7_ok (by decide +kernel) hmc hms k
theorem cl_X5_17 : Cond.classLink RX5 17 RX0 ∈ m_TW := m_in (t_in1 (List.mem_of_getElem? (i := 125) rfl)) rfl
theorem nw_X5_17 {x : Cxt} {cc : ByteArray} {nL pc pc' : Nat} {y : MethodName} {ret : Option FieldType} {hh : List (Nat × Nat × Nat × Nat)} {lv : List (Nat × Value)} {st : List Value} {h : Hp} {kc ks dd Mc Ms : Nat} (hrm : m_rm dd Mc Ms x) (hd : decode cc pc = .ok (.new 17, 3)) (hp : pc + 3 = pc') (hmc : kc + 1 ≤ Mc) (hms : ks + 5 ≤ Ms) (k : ∀ q : Nat, ¬ m_K h q < 28 → wp x (RX5, cc, nL, y, ret, hh) pc' lv (.ref q :: st) (n_O h q 0) (kc + 1) (ks + 5)) : wp x (RX5, cc, nL, y, ret, hh) pc lv st h kc ks :=
  w_new (C := RX0) (T := TX0) (N := 5) (ci := 0) hrm tyX0 hd hp cl_X5_17 is_X0 ini_RX0 rfl (by decide) rfl in_X0 tyX0_ok (by decide +kernel) hmc hms k
theorem cl_X7_28 : Cond.classLink RX7 28 RX8 ∈ m_TW := m_in (t_in1 (List.mem_of_getElem? (i := 132) rfl)) rfl
theorem nw_X7_28 {x : Cxt} {cc : ByteArray} {nL pc pc' : Nat} {y : MethodName} {ret : Option FieldType} {hh : List (Nat × Nat × Nat × Nat)} {lv : List (Nat × Value)} {st : List Value} {h : Hp} {kc ks dd Mc Ms : Nat} (hrm : m_rm dd Mc Ms x) (hd : decode cc pc = .ok (.new 28, 3)) (hp : pc + 3 = pc') (hmc : kc + 1 ≤ Mc) (hms : ks + 4 ≤ Ms) (k : ∀ q : Nat, ¬ m_K h q < 28 → wp x (RX7, cc, nL, y, ret, hh) pc' lv (.ref q :: st) (n_O h q 8) (kc + 1) (ks + 4)) : wp x (RX7, cc, nL, y, ret, hh) pc lv st h kc ks :=
  w_new (C := RX8) (T := TX8) (N := 4) (ci := 8) hrm tyX8 hd hp cl_X7_28 is_X8 ini_RX8 rfl (by decide) rfl in_X8 tyX8_ok (by decide +kernel) hmc hms k
theorem cl_X7_42 : Cond.classLink RX7 42 RX10 ∈ m_TW := m_in (t_in1 (List.mem_of_getElem? (i := 154) rfl)) rfl
theorem nw_X7_42 {x : Cxt} {cc : ByteArray} {nL pc pc' : Nat} {y : MethodName} {ret : Option FieldType} {hh : List (Nat × Nat × Nat × Nat)} {lv : List (Nat × Value)} {st : List Value} {h : Hp} {kc ks dd Mc Ms : Nat} (hrm : m_rm dd Mc Ms x) (hd : decode cc pc = .ok (.new 42, 3)) (hp : pc + 3 = pc') (hmc : kc + 1 ≤ Mc) (hms : ks + 6 ≤ Ms) (k : ∀ q : Nat, ¬ m_K h q < 28 → wp x (RX7, cc, nL, y, ret, hh) pc' lv (.ref q :: st) (n_O h q 10) (kc + 1) (ks + 6)) : wp x (RX7, cc, nL, y, ret, hh) pc lv st h kc ks :=
  w_new (C := RX10) (T := TX10) (N := 6) (ci := 10) hrm tyX10 hd hp cl_X7_42 is_X10 ini_RX10 rfl (by decide) rfl in_X10 tyX10_ok (by decide +kernel) hmc hms k
theorem cl_X11_33 : Cond.classLink RX11 33 RX3 ∈ m_TW := m_in (t_in2 (List.mem_of_getElem? (i := 84) rfl)) rfl
theorem nw_X11_33 {x : Cxt} {cc : ByteArray} {nL pc pc' : Nat} {y : MethodName} {ret : Option FieldType} {hh : List (Nat × Nat × Nat × Nat)} {lv : List (Nat × Value)} {st : List Value} {h : Hp} {kc ks dd Mc Ms : Nat} (hrm : m_rm dd Mc Ms x) (hd : decode cc pc = .ok (.new 33, 3)) (hp : pc + 3 = pc') (hmc : kc + 1 ≤ Mc) (hms : ks + 14 ≤ Ms) (k : ∀ q : Nat, ¬ m_K h q < 28 → wp x (RX11, cc, nL, y, ret, hh) pc' lv (.ref q :: st) (n_O h q 3) (kc + 1) (ks + 14)) : wp x (RX11, cc, nL, y, ret, hh) pc lv st h kc ks :=
  w_new (C := RX3) (T := TX3) (N := 14) (ci := 3) hrm tyX3 hd hp cl_X11_33 is_X3 ini_RX3 rfl (by decide) rfl in_X3 tyX3_ok (by decide +kernel) hmc hms k
theorem cl_X11_42 : Cond.classLink RX11 42 RX4 ∈ m_TW := m_in (t_in2 (List.mem_of_getElem? (i := 135) rfl)) rfl
theorem nw_X11_42 {x : Cxt} {cc : ByteArray} {nL pc pc' : Nat} {y : MethodName} {ret : Option FieldType} {hh : List (Nat × Nat × Nat × Nat)} {lv : List (Nat × Value)} {st : List Value} {h : Hp} {kc ks dd Mc Ms : Nat} (hrm : m_rm dd Mc Ms x) (hd : decode cc pc = .ok (.new 42, 3)) (hp : pc + 3 = pc') (hmc : kc + 1 ≤ Mc) (hms : ks + 8 ≤ Ms) (k : ∀ q : Nat, ¬ m_K h q < 28 → wp x (RX11, cc, nL, y, ret, hh) pc' lv (.ref q :: st) (n_O h q 4) (kc + 1) (ks + 8)) : wp x (RX11, cc, nL, y, ret, hh) pc lv st h kc ks :=
  w_new (C := RX4) (T := TX4) (N := 8) (ci := 4) hrm tyX4 hd hp cl_X11_42 is_X4 ini_RX4 rfl (by decide) rfl in_X4 tyX4_ok (by decide +kernel) hmc hms k
theorem cl_X11_55 : Cond.classLink RX11 55 RX1 ∈ m_TW := m_in (t_in2 (List.mem_of_getElem? (i := 166) rfl)) rfl
theorem nw_X11_55 {x : Cxt} {cc : ByteArray} {nL pc pc' : Nat} {y : MethodName} {ret : Option FieldType} {hh : List (Nat × Nat × Nat × Nat)} {lv : List (Nat × Value)} {st : List Value} {h : Hp} {kc ks dd Mc Ms : Nat} (hrm : m_rm dd Mc Ms x) (hd : decode cc pc = .ok (.new 55, 3)) (hp : pc + 3 = pc') (hmc : kc + 1 ≤ Mc) (hms : ks + 10 ≤ Ms) (k : ∀ q : Nat, ¬ m_K h q < 28 → wp x (RX11, cc, nL, y, ret, hh) pc' lv (.ref q :: st) (n_O h q 1) (kc + 1) (ks + 10)) : wp x (RX11, cc, nL, y, ret, hh) pc lv st h kc ks :=
  w_new (C := RX1) (T := TX1) (N := 10) (ci := 1) hrm tyX1 hd hp cl_X11_55 is_X1 ini_RX1 rfl (by decide) rfl in_X1 tyX1_ok (by decide +kernel) hmc hms k
theorem cl_X1_9 : Cond.classLink RX1 9 RX6 ∈ m_TW := m_in (t_in2 (List.mem_of_getElem? (i := 172) rfl)) rfl
theorem nw_X1_9 {x : Cxt} {cc : ByteArray} {nL pc pc' : Nat} {y : MethodName} {ret : Option FieldType} {hh : List (Nat × Nat × Nat × Nat)} {lv : List (Nat × Value)} {st : List Value} {h : Hp} {kc ks dd Mc Ms : Nat} (hrm : m_rm dd Mc Ms x) (hd : decode cc pc = .ok (.new 9, 3)) (hp : pc + 3 = pc') (hmc : kc + 1 ≤ Mc) (hms : ks + 5 ≤ Ms) (k : ∀ q : Nat, ¬ m_K h q < 28 → wp x (RX1, cc, nL, y, ret, hh) pc' lv (.ref q :: st) (n_O h q 6) (kc + 1) (ks + 5)) : wp x (RX1, cc, nL, y, ret, hh) pc lv st h kc ks :=
  w_new (C := RX6) (T := TX6) (N := 5) (ci := 6) hrm tyX6 hd hp cl_X1_9 is_X6 ini_RX6 rfl (by decide) rfl in_X6 tyX6_ok (by decide +kernel) hmc hms k
theorem cl_X11_62 : Cond.classLink RX11 62 RX6 ∈ m_TW := m_in (t_in3 (List.mem_of_getElem? (i := 3) rfl)) rfl
theorem nw_X11_62 {x : Cxt} {cc : ByteArray} {nL pc pc' : Nat} {y : MethodName} {ret : Option FieldType} {hh : List (Nat × Nat × Nat × Nat)} {lv : List (Nat × Value)} {st : List Value} {h : Hp} {kc ks dd Mc Ms : Nat} (hrm : m_rm dd Mc Ms x) (hd : decode cc pc = .ok (.new 62, 3)) (hp : pc + 3 = pc') (hmc : kc + 1 ≤ Mc) (hms : ks + 5 ≤ Ms) (k : ∀ q : Nat, ¬ m_K h q < 28 → wp x (RX11, cc, nL, y, ret, hh) pc' lv (.ref q :: st) (n_O h q 6) (kc + 1) (ks + 5)) : wp x (RX11, cc, nL, y, ret, hh) pc lv st h kc ks :=
  w_new (C := RX6) (T := TX6) (N := 5) (ci := 6) hrm tyX6 hd hp cl_X11_62 is_X6 ini_RX6 rfl (by decide) rfl in_X6 tyX6_ok (by decide +kernel) hmc hms k
theorem cl_X11_69 : Cond.classLink RX11 69 RX2 ∈ m_TW := m_in (t_in3 (List.mem_of_getElem? (i := 5) rfl)) rfl
theorem nw_X11_69 {x : Cxt} {cc : ByteArray} {nL pc pc' : Nat} {y : MethodName} {ret : Option FieldType} {hh : List (Nat × Nat × Nat × Nat)} {lv : List (Nat × Value)} {st : List Value} {h : Hp} {kc ks dd Mc Ms : Nat} (hrm : m_rm dd Mc Ms x) (hd : decode cc pc = .ok (.new 69, 3)) (hp : pc + 3 = pc') (hmc : kc + 1 ≤ Mc) (hms : ks + 4 ≤ Ms) (k : ∀ q : Nat, ¬ m_K h q < 28 → wp x (RX11, cc, nL, y, ret, hh) pc' lv (.ref q :: st) (n_O h q 2) (kc + 1) (ks + 4)) : wp x (RX11, cc, nL, y, ret, hh) pc lv st h kc ks :=
  w_new (C := RX2) (T := TX2) (N := 4) (ci := 2) hrm tyX2 hd hp cl_X11_69 is_X2 ini_RX2 rfl (by decide) rfl in_X2 tyX2_ok (by decide +kernel) hmc hms k
theorem cl_X2_7 : Cond.classLink RX2 7 RX6 ∈ m_TW := m_in (t_in3 (List.mem_of_getElem? (i := 12) rfl)) rfl
theorem nw_X2_7 {x : Cxt} {cc : ByteArray} {nL pc pc' : Nat} {y : MethodName} {ret : Option FieldType} {hh : List (Nat × Nat × Nat × Nat)} {lv : List (Nat × Value)} {st : List Value} {h : Hp} {kc ks dd Mc Ms : Nat} (hrm : m_rm dd Mc Ms x) (hd : decode cc pc = .ok (.new 7, 3)) (hp : pc + 3 = pc') (hmc : kc + 1 ≤ Mc) (hms : ks + 5 ≤ Ms) (k : ∀ q : Nat, ¬ m_K h q < 28 → wp x (RX2, cc, nL, y, ret, hh) pc' lv (.ref q :: st) (n_O h q 6) (kc + 1) (ks + 5)) : wp x (RX2, cc, nL, y, ret, hh) pc lv st h kc ks :=
  w_new (C := RX6) (T := TX6) (N := 5) (ci := 6) hrm tyX6 hd hp cl_X2_7 is_X6 ini_RX6 rfl (by decide) rfl in_X6 tyX6_ok (by decide +kernel) hmc hms k
theorem cl_L_56 : Cond.classLink RL 56 RJ4 ∈ m_TW := m_in (t_in6 (List.mem_of_getElem? (i := 86) rfl)) rfl
theorem nw_L_56 {x : Cxt} {cc : ByteArray} {nL pc pc' : Nat} {y : MethodName} {ret : Option FieldType} {hh : List (Nat × Nat × Nat × Nat)} {lv : List (Nat × Value)} {st : List Value} {h : Hp} {kc ks dd Mc Ms : Nat} (hrm : m_rm dd Mc Ms x) (hd : decode cc pc = .ok (.new 56, 3)) (hp : pc + 3 = pc') (hmc : kc + 1 ≤ Mc) (hms : ks + 4 ≤ Ms) (k : ∀ q : Nat, ¬ m_K h q < 28 → wp x (RL, cc, nL, y, ret, hh) pc' lv (.ref q :: st) (n_O h q 13) (kc + 1) (ks + 4)) : wp x (RL, cc, nL, y, ret, hh) pc lv st h kc ks :=
  w_new (C := RJ4) (T := TJ4) (N := 4) (ci := 13) hrm tyJ4 hd hp cl_L_56 is_J4 ini_RJ4 rfl (by decide) rfl in_J4 tyJ4_ok (by decide +kernel) hmc hms k
theorem cl_J4_18 : Cond.classLink RJ4 18 RJ0 ∈ m_TW := m_in (t_in6 (List.mem_of_getElem? (i := 233) rfl)) rfl
theorem nw_J4_18 {x : Cxt} {cc : ByteArray} {nL pc pc' : Nat} {y : MethodName} {ret : Option FieldType} {hh : List (Nat × Nat × Nat × Nat)} {lv : List (Nat × Value)} {st : List Value} {h : Hp} {kc ks dd Mc Ms : Nat} (hrm : m_rm dd Mc Ms x) (hd : decode cc pc = .ok (.new 18, 3)) (hp : pc + 3 = pc') (hmc : kc + 1 ≤ Mc) (hms : ks + 4 ≤ Ms) (k : ∀ q : Nat, ¬ m_K h q < 28 → wp x (RJ4, cc, nL, y, ret, hh) pc' lv (.ref q :: st) (n_O h q 12) (kc + 1) (ks + 4)) : wp x (RJ4, cc, nL, y, ret, hh) pc lv st h kc ks :=
  w_new (C := RJ0) (T := TJ0) (N := 4) (ci := 12) hrm tyJ0 hd hp cl_J4_18 is_J0 ini_RJ0 rfl (by decide) rfl in_J0 tyJ0_ok (by decide +kernel) hmc hms k
theorem ao_X7 : Cond.arrayOver (.object RX7) ∈ m_NW := List.mem_filter.mpr ⟨List.mem_append_left _ (List.mem_of_getElem? (i := 124) rfl), rfl⟩
theorem ao_X0 : Cond.arrayOver (.object RX0) ∈ m_NW := List.mem_filter.mpr ⟨List.mem_append_left _ (List.mem_of_getElem? (i := 126) rfl), rfl⟩
theorem ao_X6 : Cond.arrayOver (.object RX6) ∈ m_NW := List.mem_filter.mpr ⟨List.mem_append_right _ (List.mem_append_left _ (List.mem_of_getElem? (i := 173) rfl)), rfl⟩
theorem ao_X2 : Cond.arrayOver (.object RX2) ∈ m_NW := List.mem_filter.mpr ⟨List.mem_append_right _ (List.mem_append_right _ (List.mem_append_left _ (List.mem_of_getElem? (i := 6) rfl))), rfl⟩
/-! foreign cells -/
theorem arr_k {f k n : Nat} (h : arr f = some (k, n)) : k < 28 := by
  unfold arr at h
  split at h <;> (cases h; try decide)
section FG
variable {A : Nat → Nat → Nat → Nat} {h : Hp} {σ ρ : Zs}
theorem Lay.old {c p s : Nat} (hL : Lay A h) (hv : vc (A 16 0 0) c p s) : m_K h (A c p s) < 28 := by
  rcases Nat.lt_or_ge c 1024 with q | q
  · rw [hL.2.1 c p s (hv.1 q).1 (hv.1 q).2]
    have := (hv.1 q).1
    omega
  · obtain ⟨f, rfl⟩ := Nat.exists_eq_add_of_le q
    obtain ⟨h1, h2⟩ := hv.2 q
    rw [Nat.add_sub_cancel_left] at h1 h2
    obtain ⟨⟨k, n⟩, ha⟩ := Option.isSome_iff_exists.mp h2
    have hf : f < 1024 := by have := vdb_c h1; omega
    rw [(hL.2.2.1 f p s k n ha hf h1).2.1]
    exact arr_k ha
theorem Lay.ne {c p s q : Nat} (hL : Lay A h) (hv : vc (A 16 0 0) c p s) (hq : ¬ m_K h q < 28) : A c p s ≠ q := fun e => hq (e ▸ hL.old hv)
/-- a change at cells that the layout doesn't hold -/
theorem Rp.far0 {h' : Hp} (hz : Rp A h σ ρ) (hF : ∀ c p s, vc (A 16 0 0) c p s → m_K h' (A c p s) = m_K h (A c p s) ∧ m_N h' (A c p s) = m_N h (A c p s) ∧ (∀ f, m_I h' f (A c p s) = m_I h f (A c p s)) ∧ (∀ f, m_J h' f (A c p s) = m_J h f (A c p s)) ∧ (∀ f, m_R h' f (A c p s) = m_R h f (A c p s)) ∧ (∀ i, m_X h' (A c p s) i = m_X h (A c p s) i) ∧ (∀ i, m_Y h' (A c p s) i = m_Y h (A c p s) i) ∧ (∀ i, m_Z h' (A c p s) i = m_Z h (A c p s) i)) : Rp0 A h' σ ρ := by
  obtain ⟨⟨l1, l2, l3, l4, l5⟩, ⟨v1, v2⟩, d1, d2⟩ := hz.r0
  have ho : ∀ {f p s : Nat}, f < 960 → vdb (A 16 0 0) (f / 64) p s = true → vc (A 16 0 0) (f / 64) p s := fun hf hv => vc_o (by omega) hv
  refine ⟨⟨l1, fun c p s hc hv => ?_, fun f p s k n ha hf hv => ⟨fun q => ?_, ?_, ?_⟩, fun f p s c' p' s' hs hv => ?_, fun f p i c' p' s' k n hs ha hi hv => ?_⟩, ⟨fun f p s hf hv => ⟨?_, ?_⟩, fun f p s i hf hv ha => ⟨?_, ?_⟩⟩, fun f p s c hd hv hm => ?_, fun i hi => ?_⟩
  · rw [(hF c p s (vc_o hc hv)).1]; exact l2 c p s hc hv
  · rw [(hF (f / 64) p s (vc_o q hv)).2.2.2.2.1]; exact (l3 f p s k n ha hf hv).1 q
  · rw [(hF _ p s (vc_a hf hv (by rw [ha]; rfl))).1]; exact (l3 f p s k n ha hf hv).2.1
  · rw [(hF _ p s (vc_a hf hv (by rw [ha]; rfl))).2.1]; exact (l3 f p s k n ha hf hv).2.2
  · have hc : f / 64 < 15 := by
      have h1 := vdb_c hv
      rcases Nat.lt_or_ge (f / 64) 15 with q | q
      · exact q
      · exfalso
        have : f / 64 = 15 := by omega
        unfold sro at hs
        split at hs <;> first | omega | cases hs
    rw [(hF _ p s (vc_o hc hv)).2.2.2.2.1]; exact l4 f p s c' p' s' hs hv
  · have hf : f < 1024 := by have := vdb_c hv; omega
    rw [(hF _ p 0 (vc_a hf hv (by rw [ha]; rfl))).2.2.2.2.2.2.2]; exact l5 f p i c' p' s' k n hs ha hi hv
  · rw [(hF _ p s (ho hf hv)).2.2.1]; exact (v1 f p s hf hv).1
  · rw [(hF _ p s (ho hf hv)).2.2.2.1]; exact (v1 f p s hf hv).2
  · rw [(hF _ p s (vc_a hf hv ha)).2.2.2.2.2.1]; exact (v2 f p s i hf hv ha).1
  · rw [(hF _ p s (vc_a hf hv ha)).2.2.2.2.2.2.1]; exact (v2 f p s i hf hv ha).2
  · have hc : f / 64 < 15 := by
      have h1 := vdb_c hv
      rcases Nat.lt_or_ge (f / 64) 15 with q | q
      · exact q
      · exfalso
        have : f / 64 = 15 := by omega
        unfold dro at hd
        split at hd <;> first | omega | cases hd
    rw [(hF _ p s (vc_o hc hv)).2.2.2.2.1]; exact d1 f p s c hd hv hm
  · rw [(hF 1089 0 0 (vc_a (f := 65) (by decide) rfl rfl)).2.2.2.2.2.2.2]; exact d2 i hi
theorem Rp.far {h' : Hp} (hz : Rp A h σ ρ) (hF : ∀ c p s, vc (A 16 0 0) c p s → m_K h' (A c p s) = m_K h (A c p s) ∧ m_N h' (A c p s) = m_N h (A c p s) ∧ (∀ f, m_I h' f (A c p s) = m_I h f (A c p s)) ∧ (∀ f, m_J h' f (A c p s) = m_J h f (A c p s)) ∧ (∀ f, m_R h' f (A c p s) = m_R h f (A c p s)) ∧ (∀ i, m_X h' (A c p s) i = m_X h (A c p s) i) ∧ (∀ i, m_Y h' (A c p s) i = m_Y h (A c p s) i) ∧ (∀ i, m_Z h' (A c p s) i = m_Z h (A c p s) i)) : Rp A h' σ (ecd h' ρ) := (hz.far0 hF).ec
theorem Rp.newO {q c : Nat} (hz : Rp A h σ ρ) (hq : ¬ m_K h q < 28) : Rp A (n_O h q c) σ (ecd (n_O h q c) ρ) := by
  refine hz.far (fun c' p s hv => ?_)
  have hn := hz.1.ne hv hq
  exact ⟨va_up_ne _ _ hn, rfl, fun f => if_neg hn, fun f => if_neg hn, fun f => if_neg hn, fun _ => rfl, fun _ => rfl, fun _ => rfl⟩
theorem Rp.newA {q c n : Nat} (hz : Rp A h σ ρ) (hq : ¬ m_K h q < 28) : Rp A (n_A h q c n) σ (ecd (n_A h q c n) ρ) := by
  refine hz.far (fun c' p s hv => ?_)
  have hn := hz.1.ne hv hq
  exact ⟨va_up_ne _ _ hn, va_up_ne _ _ hn, fun _ => rfl, fun _ => rfl, fun _ => rfl, fun _ => if_neg hn, fun _ => if_neg hn, fun _ => if_neg hn⟩
theorem Rp.fg {q : Nat} (hz : Rp A h σ ρ) (hq : ¬ m_K h q < 28) : fgn A q := fun _ _ _ hv => hz.1.ne hv hq
theorem Rp.fI {q f : Nat} {v : Int32} (hz : Rp A h σ ρ) (hq : fgn A q) : Rp A (p_I h f q v) σ (ecd (p_I h f q v) ρ) := hz.far (fun c p s hv => ⟨rfl, rfl, fun _ => if_neg (fun z => hq c p s hv z.2), fun _ => rfl, fun _ => rfl, fun _ => rfl, fun _ => rfl, fun _ => rfl⟩)
theorem Rp.fR {q f : Nat} {v : Option Nat} (hz : Rp A h σ ρ) (hq : fgn A q) : Rp A (p_R h f q v) σ (ecd (p_R h f q v) ρ) := hz.far (fun c p s hv => ⟨rfl, rfl, fun _ => rfl, fun _ => rfl, fun _ => if_neg (fun z => hq c p s hv z.2), fun _ => rfl, fun _ => rfl, fun _ => rfl⟩)
theorem Rp.fX {q i : Nat} {v : Int32} (hz : Rp A h σ ρ) (hq : fgn A q) : Rp A (p_X h q i v) σ (ecd (p_X h q i v) ρ) := hz.far (fun c p s hv => ⟨rfl, rfl, fun _ => rfl, fun _ => rfl, fun _ => rfl, fun _ => if_neg (fun z => hq c p s hv z.1), fun _ => rfl, fun _ => rfl⟩)
end FG
