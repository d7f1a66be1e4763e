/-! MORE ROWS: weaker ends, bytes and booleans, new rows, catches -/
theorem Sp.mono {l : Launch} {M : MI} {d mc ms : Nat} {av : List Value} {h : Hp} {Qv Qv' : Option Value → Hp → Prop} {Xv Xv' : String → Hp → Prop} (h1 : Sp l M d mc ms av h Qv Xv) (hq : ∀ v h', Qv v h' → Qv' v h') (hx : ∀ E h', Xv E h' → Xv' E h') : Sp l M d mc ms av h Qv' Xv' := by
  intro hst D ca aK aV L sz
  have h2 := h1 hst D ca aK aV L sz
  intro p e a1 a2 a3 s m args below hf happ hP hK
  obtain ⟨n, o, c1, c2, c3, c4⟩ := h2 p e a1 a2 a3 s m args below hf happ hP hK
  refine ⟨n, o, c1, c2, c3, ?_⟩
  rcases c4 with ⟨⟨⟨v, h', L', e1, e2, e3⟩, e4⟩, e5⟩ | ⟨q, e1, E, ce, L', ⟨⟨h', L2, e2, e6, e3⟩, e4⟩, e5⟩
  · exact Or.inl ⟨⟨⟨v, h', L', e1, hq _ _ e2, e3⟩, e4⟩, e5⟩
  · exact Or.inr ⟨q, e1, E, ce, L', ⟨⟨h', L2, hx _ _ e2, e6, e3⟩, e4⟩, e5⟩
section K16
variable {x : Cxt} {M : MI} {pc pc' : Nat} {lv lv' : List (Nat × Value)} {st : List Value} {h : Hp} {kc ks : Nat}
theorem w_bast {a : Nat} {i v u : Int32} (hd : decode M.2.1 pc = .ok (.bastore, 1)) (hp : pc + 1 = pc') (hk : m_K h a = 22) (hin : vp_in i (m_N h a)) (hv : vp_nar .byte v = u) (k : wp x M pc' lv st (p_X h a i.toNatClampNeg u) kc ks) : wp x M pc lv (.int v :: .int i :: .ref a :: st) h kc ks := by
  subst hv
  obtain ⟨p, l, e, R, s, m, args, below, meth, cd, Q, A, D, ca, aK, aV⟩ := x
  obtain ⟨own, cc, nL, y, ret, hh⟩ := M
  subst hp
  intro ok H locs ls L hw hS hl
  obtain ⟨k0, hk0⟩ := m_at hw hk (by omega)
  have hk1 := hk0
  rw [m_E_22 hk] at hk1
  refine va_bast ok.1 ok.2.1 ok.2.2.2.2.2.1 hw.1 hw.2.1 hS k0 2 hk1 rfl hin hd (fun H1 locs1 hP1 hD1 hS1 => ?_)
  exact k ok H1 locs1 ls L (m_set hw hk (by omega) hk0 (h' := p_X h a i.toNatClampNeg (vp_nar .byte v)) rfl (m_putaB hk) hP1 hD1) hS1 hl
theorem w_zast {a : Nat} {i v u : Int32} (hd : decode M.2.1 pc = .ok (.bastore, 1)) (hp : pc + 1 = pc') (hk : m_K h a = 23) (hin : vp_in i (m_N h a)) (hv : vp_nar .boolean v = u) (k : wp x M pc' lv st (p_X h a i.toNatClampNeg u) kc ks) : wp x M pc lv (.int v :: .int i :: .ref a :: st) h kc ks := by
  subst hv
  obtain ⟨p, l, e, R, s, m, args, below, meth, cd, Q, A, D, ca, aK, aV⟩ := x
  obtain ⟨own, cc, nL, y, ret, hh⟩ := M
  subst hp
  intro ok H locs ls L hw hS hl
  obtain ⟨k0, hk0⟩ := m_at hw hk (by omega)
  have hk1 := hk0
  rw [m_E_23 hk] at hk1
  refine va_zast ok.1 ok.2.1 ok.2.2.2.2.2.1 hw.1 hw.2.1 hS k0 3 hk1 rfl hin hd (fun H1 locs1 hP1 hD1 hS1 => ?_)
  exact k ok H1 locs1 ls L (m_set hw hk (by omega) hk0 (h' := p_X h a i.toNatClampNeg (vp_nar .boolean v)) rfl (m_putaT hk) hP1 hD1) hS1 hl
theorem m_fresh {L : List Nat} {f : Nat → va_E} {A : Nat → Prop} {q : Nat} {e : va_E} (hD1 : va_D A (va_pl L f ++ [(q, e)])) : q ∉ L := fun z => by
  obtain ⟨k0, hk0⟩ := va_pl_get (X := []) (f := f) z
  have hk0 : (va_pl L f)[k0]? = some (q, f q) := hk0
  have l0 := (List.getElem?_eq_some_iff.mp hk0).1
  have g0 : (va_pl L f ++ [(q, e)])[k0]? = some (q, f q) := by rw [List.getElem?_append_left l0]; exact hk0
  have g1 : (va_pl L f ++ [(q, e)])[(va_pl L f).length]? = some (q, e) := by rw [List.getElem?_append_right (Nat.le_refl _), Nat.sub_self]; rfl
  have := hD1.1 _ _ _ _ g0 g1 rfl
  omega
theorem m_newA_E {ca : Nat → ClassId} {h : Hp} {q c n : Nat} {b : Nat} (hb : b ≠ q) : m_E ca (n_A h q c n) b = m_E ca h b := by
  have e0 : m_K (n_A h q c n) b = m_K h b := va_up_ne _ _ hb
  have e1 : m_N (n_A h q c n) b = m_N h b := va_up_ne _ _ hb
  have e2 : m_X (n_A h q c n) b = m_X h b := funext fun j => if_neg hb
  have e3 : m_Y (n_A h q c n) b = m_Y h b := funext fun j => if_neg hb
  have e4 : m_Z (n_A h q c n) b = m_Z h b := funext fun j => if_neg hb
  have e5 : ∀ d, m_f (n_A h q c n) d b = m_f h d b := fun d => rfl
  unfold m_E
  rw [e0, e1, e2, e3, e4]
  simp only [e5]
theorem w_newI {n dd Mc Ms : Nat} {v : Int32} (hrm : m_rm dd Mc Ms x) (hd : decode M.2.1 pc = .ok (.newarray .int, 2)) (hp : pc + 2 = pc') (h1 : Cond.arrayClass .int ∈ m_TW) (hv0 : ¬ v < 0) (hvn : v.toNatClampNeg = n) (hby : n * 4 ≤ 536870912) (hmc : kc + 1 ≤ Mc) (hms : ks + n ≤ Ms) (k : ∀ q : Nat, ¬ m_K h q < 28 → wp x M pc' lv (.ref q :: st) (n_A h q 20 n) (kc + 1) (ks + n)) : wp x M pc lv (.int v :: st) h kc ks := by
  obtain ⟨p, l, e, R, s, m, args, below, meth, cd, Q, A, D, ca, aK, aV⟩ := x
  obtain ⟨own, cc, nL, y, ret, hh⟩ := M
  subst hp
  intro ok H locs ls L hw hS hl
  obtain ⟨r1, r2, r3, r4⟩ := hrm
  refine va_newa (ty := .int) (N' := n) (a0 := (n, .inl (fun _ => 0))) ok.1 ok.2.1 (atype := .int) (ok.2.2.2.2.1 _ h1) rfl ok.2.2.2.2.2.1 hw.1 hw.2.1 hS ok.2.2.2.2.2.2.2.1 (fun _ => rfl) hv0 hvn hby (Nat.le_trans hmc r3) (Nat.le_trans hms r4) hd (fun q cA H1 hK1 hP1 hD1 hS1 => ?_)
  have hq : q ∉ L := m_fresh hD1
  have hc1 : s.vm.findClass ("[" ++ (.int : FieldType).toString) = some (ca 20) := (ok.2.2.2.2.2.1.2 0 _ rfl).2
  have hc2 : s.vm.findClass ("[" ++ (.int : FieldType).toString) = some cA := (hK1.2 8 _ rfl).2
  have hc3 : cA = ca 20 := Option.some.inj (hc2.symm.trans hc1)
  subst hc3
  refine k q (fun z => hq ((hw.2.2 q).mpr z)) ok H1 locs ls (L ++ [q]) (m_push hw hq (c := 20) (h' := n_A h q 20 n) (by decide) rfl (fun b => ?_) hP1 hD1) hS1 hl
  by_cases hb : b = q
  · subst hb
    rw [va_up_self, m_E_20 (show m_K (n_A h b 20 n) b = 20 from va_up_self _ _ _)]
    have e1 : m_N (n_A h b 20 n) b = n := va_up_self _ _ _
    have e2 : m_X (n_A h b 20 n) b = (fun _ => (0 : Int32)) := funext fun j => if_pos rfl
    rw [e1, e2]
  · rw [va_up_ne _ _ hb, m_newA_E hb]
theorem w_newJ {n dd Mc Ms : Nat} {v : Int32} (hrm : m_rm dd Mc Ms x) (hd : decode M.2.1 pc = .ok (.newarray .long, 2)) (hp : pc + 2 = pc') (h1 : Cond.arrayClass .long ∈ m_TW) (hv0 : ¬ v < 0) (hvn : v.toNatClampNeg = n) (hby : n * 8 ≤ 536870912) (hmc : kc + 1 ≤ Mc) (hms : ks + n ≤ Ms) (k : ∀ q : Nat, ¬ m_K h q < 28 → wp x M pc' lv (.ref q :: st) (n_A h q 21 n) (kc + 1) (ks + n)) : wp x M pc lv (.int v :: st) h kc ks := by
  obtain ⟨p, l, e, R, s, m, args, below, meth, cd, Q, A, D, ca, aK, aV⟩ := x
  obtain ⟨own, cc, nL, y, ret, hh⟩ := M
  subst hp
  intro ok H locs ls L hw hS hl
  obtain ⟨r1, r2, r3, r4⟩ := hrm
  refine va_newa (ty := .long) (N' := n) (a0 := (n, .inr (.inl (fun _ => 0)))) ok.1 ok.2.1 (atype := .long) (ok.2.2.2.2.1 _ h1) rfl ok.2.2.2.2.2.1 hw.1 hw.2.1 hS ok.2.2.2.2.2.2.2.1 (fun _ => rfl) hv0 hvn hby (Nat.le_trans hmc r3) (Nat.le_trans hms r4) hd (fun q cA H1 hK1 hP1 hD1 hS1 => ?_)
  have hq : q ∉ L := m_fresh hD1
  have hc1 : s.vm.findClass ("[" ++ (.long : FieldType).toString) = some (ca 21) := (ok.2.2.2.2.2.1.2 1 _ rfl).2
  have hc2 : s.vm.findClass ("[" ++ (.long : FieldType).toString) = some cA := (hK1.2 8 _ rfl).2
  have hc3 : cA = ca 21 := Option.some.inj (hc2.symm.trans hc1)
  subst hc3
  refine k q (fun z => hq ((hw.2.2 q).mpr z)) ok H1 locs ls (L ++ [q]) (m_push hw hq (c := 21) (h' := n_A h q 21 n) (by decide) rfl (fun b => ?_) hP1 hD1) hS1 hl
  by_cases hb : b = q
  · subst hb
    rw [va_up_self, m_E_21 (show m_K (n_A h b 21 n) b = 21 from va_up_self _ _ _)]
    have e1 : m_N (n_A h b 21 n) b = n := va_up_self _ _ _
    have e2 : m_Y (n_A h b 21 n) b = (fun _ => (0 : Int64)) := funext fun j => if_pos rfl
    rw [e1, e2]
  · rw [va_up_ne _ _ hb, m_newA_E hb]
theorem w_newB {n dd Mc Ms : Nat} {v : Int32} (hrm : m_rm dd Mc Ms x) (hd : decode M.2.1 pc = .ok (.newarray .byte, 2)) (hp : pc + 2 = pc') (h1 : Cond.arrayClass .byte ∈ m_TW) (hv0 : ¬ v < 0) (hvn : v.toNatClampNeg = n) (hby : n * 1 ≤ 536870912) (hmc : kc + 1 ≤ Mc) (hms : ks + n ≤ Ms) (k : ∀ q : Nat, ¬ m_K h q < 28 → wp x M pc' lv (.ref q :: st) (n_A h q 22 n) (kc + 1) (ks + n)) : wp x M pc lv (.int v :: st) h kc ks := by
  obtain ⟨p, l, e, R, s, m, args, below, meth, cd, Q, A, D, ca, aK, aV⟩ := x
  obtain ⟨own, cc, nL, y, ret, hh⟩ := M
  subst hp
  intro ok H locs ls L hw hS hl
  obtain ⟨r1, r2, r3, r4⟩ := hrm
  refine va_newa (ty := .byte) (N' := n) (a0 := (n, .inl (fun _ => 0))) ok.1 ok.2.1 (atype := .byte) (ok.2.2.2.2.1 _ h1) rfl ok.2.2.2.2.2.1 hw.1 hw.2.1 hS ok.2.2.2.2.2.2.2.1 (fun _ => rfl) hv0 hvn hby (Nat.le_trans hmc r3) (Nat.le_trans hms r4) hd (fun q cA H1 hK1 hP1 hD1 hS1 => ?_)
  have hq : q ∉ L := m_fresh hD1
  have hc1 : s.vm.findClass ("[" ++ (.byte : FieldType).toString) = some (ca 22) := (ok.2.2.2.2.2.1.2 2 _ rfl).2
  have hc2 : s.vm.findClass ("[" ++ (.byte : FieldType).toString) = some cA := (hK1.2 8 _ rfl).2
  have hc3 : cA = ca 22 := Option.some.inj (hc2.symm.trans hc1)
  subst hc3
  refine k q (fun z => hq ((hw.2.2 q).mpr z)) ok H1 locs ls (L ++ [q]) (m_push hw hq (c := 22) (h' := n_A h q 22 n) (by decide) rfl (fun b => ?_) hP1 hD1) hS1 hl
  by_cases hb : b = q
  · subst hb
    rw [va_up_self, m_E_22 (show m_K (n_A h b 22 n) b = 22 from va_up_self _ _ _)]
    have e1 : m_N (n_A h b 22 n) b = n := va_up_self _ _ _
    have e2 : m_X (n_A h b 22 n) b = (fun _ => (0 : Int32)) := funext fun j => if_pos rfl
    rw [e1, e2]
  · rw [va_up_ne _ _ hb, m_newA_E hb]
theorem w_newZ {n dd Mc Ms : Nat} {v : Int32} (hrm : m_rm dd Mc Ms x) (hd : decode M.2.1 pc = .ok (.newarray .boolean, 2)) (hp : pc + 2 = pc') (h1 : Cond.arrayClass .boolean ∈ m_TW) (hv0 : ¬ v < 0) (hvn : v.toNatClampNeg = n) (hby : n * 1 ≤ 536870912) (hmc : kc + 1 ≤ Mc) (hms : ks + n ≤ Ms) (k : ∀ q : Nat, ¬ m_K h q < 28 → wp x M pc' lv (.ref q :: st) (n_A h q 23 n) (kc + 1) (ks + n)) : wp x M pc lv (.int v :: st) h kc ks := by
  obtain ⟨p, l, e, R, s, m, args, below, meth, cd, Q, A, D, ca, aK, aV⟩ := x
  obtain ⟨own, cc, nL, y, ret, hh⟩ := M
  subst hp
  intro ok H locs ls L hw hS hl
  obtain ⟨r1, r2, r3, r4⟩ := hrm
  refine va_newa (ty := .boolean) (N' := n) (a0 := (n, .inl (fun _ => 0))) ok.1 ok.2.1 (atype := .boolean) (ok.2.2.2.2.1 _ h1) rfl ok.2.2.2.2.2.1 hw.1 hw.2.1 hS ok.2.2.2.2.2.2.2.1 (fun _ => rfl) hv0 hvn hby (Nat.le_trans hmc r3) (Nat.le_trans hms r4) hd (fun q cA H1 hK1 hP1 hD1 hS1 => ?_)
  have hq : q ∉ L := m_fresh hD1
  have hc1 : s.vm.findClass ("[" ++ (.boolean : FieldType).toString) = some (ca 23) := (ok.2.2.2.2.2.1.2 3 _ rfl).2
  have hc2 : s.vm.findClass ("[" ++ (.boolean : FieldType).toString) = some cA := (hK1.2 8 _ rfl).2
  have hc3 : cA = ca 23 := Option.some.inj (hc2.symm.trans hc1)
  subst hc3
  refine k q (fun z => hq ((hw.2.2 q).mpr z)) ok H1 locs ls (L ++ [q]) (m_push hw hq (c := 23) (h' := n_A h q 23 n) (by decide) rfl (fun b => ?_) hP1 hD1) hS1 hl
  by_cases hb : b = q
  · subst hb
    rw [va_up_self, m_E_23 (show m_K (n_A h b 23 n) b = 23 from va_up_self _ _ _)]
    have e1 : m_N (n_A h b 23 n) b = n := va_up_self _ _ _
    have e2 : m_X (n_A h b 23 n) b = (fun _ => (0 : Int32)) := funext fun j => if_pos rfl
    rw [e1, e2]
  · rw [va_up_ne _ _ hb, m_newA_E hb]
theorem w_newQ {n dd Mc Ms index c : Nat} {C : String} {v : Int32} (t0 : Nat) (hrm : m_rm dd Mc Ms x) (hd : decode M.2.1 pc = .ok (.anewarray index, 3)) (hp : pc + 3 = pc') (h1 : Cond.classLink M.1 index C ∈ m_TW) (h2 : Cond.arrayOver (.object C) ∈ m_NW) (hc : 23 < c) (hcc : c < 28) (ht : ∀ ca : Nat → ClassId, (m_tys ca)[t0]? = some (ca c, .object C)) (hv0 : ¬ v < 0) (hvn : v.toNatClampNeg = n) (hby : n * 4 ≤ 536870912) (hmc : kc + 1 ≤ Mc) (hms : ks + n ≤ Ms) (k : ∀ q : Nat, ¬ m_K h q < 28 → wp x M pc' lv (.ref q :: st) (n_A h q c n) (kc + 1) (ks + n)) : wp x M pc lv (.int v :: st) h kc ks := by
  obtain ⟨p, l, e, R, s, m, args, below, meth, cd, Q, A, D, ca, aK, aV⟩ := x
  obtain ⟨own, cc, nL, y, ret, hh⟩ := M
  subst hp
  intro ok H locs ls L hw hS hl
  obtain ⟨r1, r2, r3, r4⟩ := hrm
  refine va_newq ok.1 ok.2.1 ok.2.2.2.1 (ok.2.2.2.2.1 _ h1) (ok.2.2.2.2.2.2.1 _ h2) ok.2.2.2.2.2.1 hw.1 hw.2.1 hS ok.2.2.2.2.2.2.2.1 hv0 hvn hby (Nat.le_trans hmc r3) (Nat.le_trans hms r4) hd (fun q cA H1 hK1 hP1 hD1 hS1 => ?_)
  have hq : q ∉ L := m_fresh hD1
  obtain ⟨kA1, comp1, -, -, -, hc1⟩ := (ok.2.2.2.2.2.1.2 t0 _ (ht ca)).2
  obtain ⟨kA2, comp2, -, -, -, hc2⟩ := (hK1.2 8 _ rfl).2
  have hc3 : cA = ca c := Option.some.inj (hc2.symm.trans hc1)
  subst hc3
  refine k q (fun z => hq ((hw.2.2 q).mpr z)) ok H1 locs ls (L ++ [q]) (m_push hw hq (c := c) (h' := n_A h q c n) hcc rfl (fun b => ?_) hP1 hD1) hS1 hl
  by_cases hb : b = q
  · subst hb
    rw [va_up_self, m_E_q (show m_K (n_A h b c n) b = c from va_up_self _ _ _) hc]
    have e1 : m_N (n_A h b c n) b = n := va_up_self _ _ _
    have e2 : m_Z (n_A h b c n) b = (fun _ => none) := funext fun j => if_pos rfl
    rw [e1, e2]
  · rw [va_up_ne _ _ hb, m_newA_E hb]
end K16
theorem a_int : Cond.arrayClass .int ∈ m_TW := m_in (t_in1 (List.mem_of_getElem? (i := 115) rfl)) rfl
theorem a_long : Cond.arrayClass .long ∈ m_TW := m_in (t_in1 (List.mem_of_getElem? (i := 116) rfl)) rfl
theorem a_byte : Cond.arrayClass .byte ∈ m_TW := m_in (t_in1 (List.mem_of_getElem? (i := 114) rfl)) rfl
theorem a_boolean : Cond.arrayClass .boolean ∈ m_TW := m_in (t_in1 (List.mem_of_getElem? (i := 179) rfl)) rfl
