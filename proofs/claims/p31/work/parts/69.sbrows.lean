/-! STRINGBUILDER: words, calls, copies, statics -/
theorem pm_J5_ensureCapacityInternal_d00df : Cond.privateMethod yJ5_ensureCapacityInternal_d00df ∈ m_NW := List.mem_filter.mpr ⟨List.mem_append_right _ (List.mem_append_right _ (List.mem_append_right _ (List.mem_append_right _ (List.mem_append_right _ (List.mem_append_left _ (List.mem_of_getElem? (i := 128) rfl)))))), rfl⟩
theorem sm_J5_ensureCapacityInternal_d00df : Cond.sameMethod yJ5_ensureCapacityInternal_d00df.cls yJ5_ensureCapacityInternal_d00df.cls yJ5_ensureCapacityInternal_d00df.name yJ5_ensureCapacityInternal_d00df.desc ∈ m_TW := m_in (t_in7 (List.mem_of_getElem? (i := 54) rfl)) rfl
theorem pm_J5_newCapacity_0f7a4 : Cond.privateMethod yJ5_newCapacity_0f7a4 ∈ m_NW := List.mem_filter.mpr ⟨List.mem_append_right _ (List.mem_append_right _ (List.mem_append_right _ (List.mem_append_right _ (List.mem_append_right _ (List.mem_append_left _ (List.mem_of_getElem? (i := 132) rfl)))))), rfl⟩
theorem sm_J5_newCapacity_0f7a4 : Cond.sameMethod yJ5_newCapacity_0f7a4.cls yJ5_newCapacity_0f7a4.cls yJ5_newCapacity_0f7a4.name yJ5_newCapacity_0f7a4.desc ∈ m_TW := m_in (t_in7 (List.mem_of_getElem? (i := 55) rfl)) rfl
theorem pm_J5_putStringAt_47b60 : Cond.privateMethod yJ5_putStringAt_47b60 ∈ m_NW := List.mem_filter.mpr ⟨List.mem_append_right _ (List.mem_append_right _ (List.mem_append_right _ (List.mem_append_right _ (List.mem_append_right _ (List.mem_append_left _ (List.mem_of_getElem? (i := 171) rfl)))))), rfl⟩
theorem sm_J5_putStringAt_47b60 : Cond.sameMethod yJ5_putStringAt_47b60.cls yJ5_putStringAt_47b60.cls yJ5_putStringAt_47b60.name yJ5_putStringAt_47b60.desc ∈ m_TW := m_in (t_in7 (List.mem_of_getElem? (i := 56) rfl)) rfl
theorem pm_J5_inflateIfNeededFor_a7421 : Cond.privateMethod yJ5_inflateIfNeededFor_a7421 ∈ m_NW := List.mem_filter.mpr ⟨List.mem_append_right _ (List.mem_append_right _ (List.mem_append_right _ (List.mem_append_right _ (List.mem_append_right _ (List.mem_append_left _ (List.mem_of_getElem? (i := 175) rfl)))))), rfl⟩
theorem sm_J5_inflateIfNeededFor_a7421 : Cond.sameMethod yJ5_inflateIfNeededFor_a7421.cls yJ5_inflateIfNeededFor_a7421.cls yJ5_inflateIfNeededFor_a7421.name yJ5_inflateIfNeededFor_a7421.desc ∈ m_TW := m_in (t_in7 (List.mem_of_getElem? (i := 57) rfl)) rfl
theorem sm_J5_append_cf1ce : Cond.sameMethod yJ5_append_cf1ce.cls yJ5_append_cf1ce.cls yJ5_append_cf1ce.name yJ5_append_cf1ce.desc ∈ m_TW := m_in (t_in7 (List.mem_of_getElem? (i := 52) rfl)) rfl
theorem sm_J5_append_c97b9 : Cond.sameMethod yJ5_append_c97b9.cls yJ5_append_c97b9.cls yJ5_append_c97b9.name yJ5_append_c97b9.desc ∈ m_TW := m_in (t_in7 (List.mem_of_getElem? (i := 59) rfl)) rfl
theorem sm_J5_getValue_6d5f1 : Cond.sameMethod yJ5_getValue_6d5f1.cls yJ5_getValue_6d5f1.cls yJ5_getValue_6d5f1.name yJ5_getValue_6d5f1.desc ∈ m_TW := m_in (t_in7 (List.mem_of_getElem? (i := 4) rfl)) rfl
theorem sm_J5_length_8abf5 : Cond.sameMethod yJ5_length_8abf5.cls yJ5_length_8abf5.cls yJ5_length_8abf5.name yJ5_length_8abf5.desc ∈ m_TW := m_in (t_in7 (List.mem_of_getElem? (i := 9) rfl)) rfl
theorem sm_J5_isLatin1_aae02 : Cond.sameMethod yJ5_isLatin1_aae02.cls yJ5_isLatin1_aae02.cls yJ5_isLatin1_aae02.name yJ5_isLatin1_aae02.desc ∈ m_TW := m_in (t_in6 (List.mem_of_getElem? (i := 160) rfl)) rfl
theorem sl_J5_isLatin1 : Cond.selects RJ4 yJ5_isLatin1_aae02 yJ5_isLatin1_aae02 ∈ m_TW := m_in (t_in6 (List.mem_of_getElem? (i := 161) rfl)) rfl
theorem sl_J5_getValue : Cond.selects RJ4 yJ5_getValue_6d5f1 yJ5_getValue_6d5f1 ∈ m_TW := m_in (t_in7 (List.mem_of_getElem? (i := 5) rfl)) rfl
theorem sl_J5_length : Cond.selects RJ4 yJ5_length_8abf5 yJ4_length_8abf5 ∈ m_TW := m_in (t_in7 (List.mem_of_getElem? (i := 10) rfl)) rfl
theorem x9_im_J4_length : Cond.instanceMethod yJ4_length_8abf5 ∈ m_TW := m_in (t_in7 (List.mem_of_getElem? (i := 11) rfl)) rfl
theorem x9_co_J4_length : Cond.code yJ4_length_8abf5 cJ4_length_8abf5 1 (some .int) ∈ m_TW := m_in (t_in7 (List.mem_of_getElem? (i := 12) rfl)) rfl
theorem x9_ml_J4_343 : Cond.methodLink RJ4 343 yJ5_length_8abf5 ∈ m_TW := m_in (t_in7 (List.mem_of_getElem? (i := 13) rfl)) rfl
theorem x9_sup : Cond.superclass RJ4 RJ5 ∈ m_TW := m_in (t_in6 (List.mem_of_getElem? (i := 115) rfl)) rfl
theorem x9_ml_J4_29 : Cond.methodLink RJ4 29 yJ5_append_cf1ce ∈ m_TW := m_in (t_in6 (List.mem_of_getElem? (i := 120) rfl)) rfl
theorem x9_im_J5_append_cf1ce : Cond.instanceMethod yJ5_append_cf1ce ∈ m_TW := m_in (t_in6 (List.mem_of_getElem? (i := 121) rfl)) rfl
theorem x9_co_J5_append_cf1ce : Cond.code yJ5_append_cf1ce cJ5_append_cf1ce 3 (some (.object "java/lang/AbstractStringBuilder")) ∈ m_TW := m_in (t_in6 (List.mem_of_getElem? (i := 122) rfl)) rfl
theorem x9_ml_J4_53 : Cond.methodLink RJ4 53 yJ5_append_c97b9 ∈ m_TW := m_in (t_in6 (List.mem_of_getElem? (i := 208) rfl)) rfl
theorem x9_im_J5_append_c97b9 : Cond.instanceMethod yJ5_append_c97b9 ∈ m_TW := m_in (t_in6 (List.mem_of_getElem? (i := 209) rfl)) rfl
theorem x9_co_J5_append_c97b9 : Cond.code yJ5_append_c97b9 cJ5_append_c97b9 4 (some (.object "java/lang/AbstractStringBuilder")) ∈ m_TW := m_in (t_in6 (List.mem_of_getElem? (i := 210) rfl)) rfl
theorem x9_im_getBytes : Cond.instanceMethod yJ0_getBytes_840e7 ∈ m_TW := m_in (t_in6 (List.mem_of_getElem? (i := 199) rfl)) rfl
theorem x9_se_getBytes : Cond.selects RJ0 yJ0_getBytes_840e7 yJ0_getBytes_840e7 ∈ m_TW := m_in (t_in6 (List.mem_of_getElem? (i := 200) rfl)) rfl
theorem x9_co_getBytes : Cond.code yJ0_getBytes_840e7 cJ0_getBytes_840e7 4 none ∈ m_TW := m_in (t_in6 (List.mem_of_getElem? (i := 201) rfl)) rfl
theorem x9_fs5 : Cond.fieldLink RJ5 18 "java/lang/String" "COMPACT_STRINGS" "Z" ∈ m_TW := m_in (t_in6 (List.mem_of_getElem? (i := 95) rfl)) rfl
theorem x9_do : Cond.fieldLink RJ6 83 "java/lang/Integer" "DigitOnes" "[B" ∈ m_TW := m_in (t_in6 (List.mem_of_getElem? (i := 217) rfl)) rfl
theorem x9_dt : Cond.fieldLink RJ6 87 "java/lang/Integer" "DigitTens" "[B" ∈ m_TW := m_in (t_in6 (List.mem_of_getElem? (i := 219) rfl)) rfl
theorem x9_k39 : Cond.constant RJ5 39 (2147483647) ∈ m_TW := m_in (t_in6 (List.mem_of_getElem? (i := 143) rfl)) rfl
theorem x9_k200 : Cond.constant RJ8 200 (2147483639) ∈ m_TW := m_in (t_in6 (List.mem_of_getElem? (i := 139) rfl)) rfl
theorem x9_acl7 : Cond.methodLink RJ7 150 arraycopyName ∈ m_TW := m_in (t_in6 (List.mem_of_getElem? (i := 155) rfl)) rfl
theorem x9_acs : Cond.static arraycopyName ∈ m_TW := m_in (t_in6 (List.mem_of_getElem? (i := 156) rfl)) rfl
theorem x9_acn : Cond.native arraycopyName ∈ m_TW := m_in (t_in6 (List.mem_of_getElem? (i := 157) rfl)) rfl
theorem x9_acl0 : Cond.methodLink RJ0 212 arraycopyName ∈ m_TW := m_in (t_in6 (List.mem_of_getElem? (i := 202) rfl)) rfl
theorem x9_aci : Cond.initialized "java/lang/System" ∈ m_TW := m_in (t_in1 (List.mem_of_getElem? (i := 22) rfl)) rfl
theorem x9_acw : nativeFrameWords "java/lang/System" "arraycopy" 5 ≤ 300 := by decide +kernel
/-- a private method of the builder's superclass is what is selected -/
theorem sb_sel {s : State} {args : Array Value} {y : MethodName} (hyn : y.cls ≠ "java/lang/invoke/MethodHandle" ∧ y.cls ≠ "java/lang/invoke/VarHandle") (hts : ∀ w ∈ m_TW, w.before args s = true) (hn : ∀ w ∈ m_NW, va_Nw w s) (hp : Cond.privateMethod y ∈ m_NW) (hi : Cond.instanceMethod y ∈ m_TW) (hsm : Cond.sameMethod y.cls y.cls y.name y.desc ∈ m_TW) : (Cond.selects RJ4 y y).before args s = true := by
  obtain ⟨c, k, hc, hk, -⟩ := Cond.instantiable_spec (hts _ is_J4)
  obtain ⟨mk, methM, hnamed, hmethM, -, -⟩ := Cond.instanceMethod_spec (hts _ hi)
  obtain ⟨cn, ck, r1, hcn, hck, hni, hf, hn1⟩ := Cond.sameMethod_found (hts _ hsm)
  have hfound : s.methodFound? y.cls y.name y.desc = some mk := State.methodFound?_of_named hnamed hyn
  have hcls : mk.cls = cn := Option.some.inj ((findClass_of_methodNamed hnamed).symm.trans hcn)
  have hpm : (Cond.privateMethod y).before args s = true := va_Nw.use rfl (hn _ hp)
  have hsel : selectMethod {} s.vm c mk = .method mk := selectMethod_private hmethM (Cond.privateMethod_at hpm mk methM hnamed hmethM)
  simp only [Cond.before, Cond.holds, Cond.value, hc, hfound, hnamed, hsel, hcls, hck]
  simp; exact hni
section K69
variable {x : Cxt} {M : MI} {pc pc' : Nat} {lv lv' : List (Nat × Value)} {st : List Value} {h : Hp} {kc ks dd Mc Ms index : Nat}
variable {cc : ByteArray} {nL : Nat} {y : MethodName} {ret : Option FieldType} {hh : List (Nat × Nat × Nat × Nat)}
variable {n d mc ms nL2 b : Nat} {cc2 : ByteArray} {x2 y2 : MethodName} {ret2 : Option FieldType} {rest : List Value} {C : String} {Qv : Option Value → Hp → Prop} {Xv : String → Hp → Prop} {As : (Nat → Nat) → (Nat → Nat) → List Value}
/-- invokevirtual of a method x2 of the builder's superclass; y2 runs -/
theorem w_callG {b0 : ByteArray} {m0 : Nat} {r0 : Option FieldType} (hsp : ∀ l : Launch, SpK l (C, cc2, nL2, y2, ret2, []) d mc ms (fun aK aV => .ref b :: As aK aV) h Qv Xv) (hrm : m_rm dd Mc Ms x) (hd : decode M.2.1 pc = .ok (.invokevirtual index, 3)) (hp : pc + 3 = pc') (h1 : Cond.methodLink M.1 index x2 ∈ m_TW) (h2 : Cond.instanceMethod y2 ∈ m_TW) (h2x : Cond.instanceMethod x2 ∈ m_TW) (h0 : Cond.code x2 b0 m0 r0 ∈ m_TW) (h3 : ∀ (s : State) (args : Array Value), (∀ w ∈ m_TW, w.before args s = true) → (∀ w ∈ m_NW, va_Nw w s) → (Cond.selects RJ4 x2 y2).before args s = true) (h4 : Cond.sameMethod x2.cls x2.cls x2.name x2.desc ∈ m_TW) (h5 : Cond.code y2 cc2 nL2 ret2 ∈ m_TW) (h6 : Cond.initialized y2.cls ∈ m_TW) (hyd : x2.cls ≠ "java/lang/invoke/MethodHandle" ∧ x2.cls ≠ "java/lang/invoke/VarHandle" ∧ (parseMethodDescriptor x2.desc).map (fun d => d.parameters.length) = some n) (hn : ∀ aK aV, (As aK aV).length = n) (hdd : d + 1 ≤ dd) (hnL : nL2 ≤ 21) (hmc : kc + mc ≤ Mc) (hms : ks + ms ≤ Ms) (hb : m_K h b = 13) (hst : st = (As (xK x) (xV x)).reverse ++ .ref b :: rest) (hcat : (rest.map fun v => v.category).sum ≤ 8) (kk : ∀ (v : Option Value) (h' : Hp), Qv v h' → wp x M pc' lv (v.toList ++ rest) h' (kc + mc) (ks + ms)) (kx : ∀ (E : String) (h' : Hp), Xv E h' → wx x M pc lv E h' (kc + mc) (ks + ms)) : wp x M pc lv st h kc ks := by
  obtain ⟨p, l, e, R, s, m, args, below, meth, cd, Q, A, D, ca, aK, aV⟩ := x
  obtain ⟨own, cc, nL, y, ret, hh⟩ := M
  subst hp
  intro ok H locs ls L hw hS hl
  obtain ⟨r1, r2, r3, r4⟩ := hrm
  subst hst
  have hM := hsp l ok.2.2.2.2.2.2.2.2.2.2.2.1 D ca aK aV L H.size
  rw [m_cw0] at hM
  obtain ⟨k0, hk0⟩ := m_at hw hb (by omega)
  rw [m_E_o hb (by decide)] at hk0
  have hrecv := va_recv ok.2.2.2.2.2.1 hw.1 (show vwCl[13]? = some (RJ4, TJ4, 4) from rfl) hk0
  have hts := ok.2.2.2.2.1
  have cw : va_CU R s args own RJ4 x2.cls index x2 y2 cc2 nL2 ret2 (Cond.code y2 cc2 nL2 ret2 :: m_TW) (m_room d mc ms) mc ms n := by
    refine ⟨⟨rfl, rfl, Nat.le_trans hdd r1, (show 8 + (nL2 + 11) + 40 * d ≤ R.locals by omega), pay_in hts (m_gC h5), List.mem_cons_self⟩, hts _ h5, hts _ h6, ⟨hyd.1, hyd.2.1⟩, fun sig e1 => ?_, hts _ h1, hts _ h4, va_Decl.of (hts _ h2x) (hts _ h0), h3 s args hts ok.2.2.2.2.2.2.1, hts _ h2⟩
    have e2 := hyd.2.2
    rw [e1] at e2
    exact (Option.some.inj e2).symm
  have hrun := vx_runU (e := e) (below := below) (meth := meth) (locs := locs) (cells := kc) (slots := ks) (g := F0 m pc ls ((As aK aV).reverse ++ .ref b :: rest)) (rest := rest) ⟨ok.1, ok.2.1, ok.2.2.1, ok.2.2.2.1, ok.2.2.2.2.1⟩ hM cw ⟨m_pre_blind, hrecv, fun U hU hW => ⟨rfl, m_go hw hS ok.2.2.2.2.2.1 ok.2.2.2.2.2.2.1 ok.2.2.2.2.2.2.2.2.2.2.2.2.1 U hU hW⟩⟩ rfl (hn aK aV) hl.1 rfl (lv_room hcat) hd ⟨Nat.le_trans hmc r3, Nat.le_trans hms r4⟩
  exact m_ret hw hS ok.2.2.2.2.2.2.2.1 hrun (fun v h' H1 locs1 L1 hq hw1 hS1 => kk v h' hq ok H1 locs1 ls L1 hw1 hS1 hl) (fun E h' H1 locs1 L1 q ce hq hgh hw1 hS1 g1 g2 g3 => kx E h' hq ok H1 locs1 ls L1 q ce rest hgh hw1 hS1 hl g1 g2 g3)
/-- super.m(..) out of the builder -/
theorem w_callSU (hsp : ∀ l : Launch, SpK l (C, cc2, nL2, y2, ret2, []) d mc ms (fun aK aV => .ref b :: As aK aV) h Qv Xv) (hrm : m_rm dd Mc Ms x) (hd : decode cc pc = .ok (.invokespecial index, 3)) (hp : pc + 3 = pc') (h1 : Cond.methodLink RJ4 index y2 ∈ m_TW) (h2 : Cond.instanceMethod y2 ∈ m_TW) (h4 : Cond.sameMethod y2.cls y2.cls y2.name y2.desc ∈ m_TW) (h5 : Cond.code y2 cc2 nL2 ret2 ∈ m_TW) (hyd : y2.cls = RJ5 ∧ y2.name ≠ "<init>" ∧ (parseMethodDescriptor y2.desc).map (fun d => d.parameters.length) = some n) (hn : ∀ aK aV, (As aK aV).length = n) (hdd : d + 1 ≤ dd) (hnL : nL2 ≤ 21) (hmc : kc + mc ≤ Mc) (hms : ks + ms ≤ Ms) (hb : m_K h b = 13) (hst : st = (As (xK x) (xV x)).reverse ++ .ref b :: rest) (hcat : (rest.map fun v => v.category).sum ≤ 8) (kk : ∀ (v : Option Value) (h' : Hp), Qv v h' → wp x (RJ4, cc, nL, y, ret, hh) pc' lv (v.toList ++ rest) h' (kc + mc) (ks + ms)) (kx : ∀ (E : String) (h' : Hp), Xv E h' → wx x (RJ4, cc, nL, y, ret, hh) pc lv E h' (kc + mc) (ks + ms)) : wp x (RJ4, cc, nL, y, ret, hh) pc lv st h kc ks := by
  obtain ⟨p, l, e, R, s, m, args, below, meth, cd, Q, A, D, ca, aK, aV⟩ := x
  subst hp
  intro ok H locs ls L hw hS hl
  obtain ⟨r1, r2, r3, r4⟩ := hrm
  subst hst
  have hM := hsp l ok.2.2.2.2.2.2.2.2.2.2.2.1 D ca aK aV L H.size
  rw [m_cw0] at hM
  obtain ⟨k0, hk0⟩ := m_at hw hb (by omega)
  rw [m_E_o hb (by decide)] at hk0
  have hrecv := va_recv ok.2.2.2.2.2.1 hw.1 (show vwCl[13]? = some (RJ4, TJ4, 4) from rfl) hk0
  have hat := (ok.2.2.2.2.2.1.1 13 _ (show vwCl[13]? = some (RJ4, TJ4, 4) from rfl)).2
  have hts := ok.2.2.2.2.1
  have cw : va_CS R s args RJ4 index y2 cc2 nL2 ret2 (Cond.code y2 cc2 nL2 ret2 :: m_TW) (m_room d mc ms) mc ms n := by
    refine ⟨⟨rfl, rfl, Nat.le_trans hdd r1, (show 8 + (nL2 + 11) + 40 * d ≤ R.locals by omega), pay_in hts (m_gC h5), List.mem_cons_self⟩, hts _ h1, hts _ h4, hyd.1 ▸ hts _ x9_sup, hts _ h2, hyd.1 ▸ hts _ ini_RJ5, hts _ h5, hyd.2.1, fun sig e1 => ?_⟩
    have e2 := hyd.2.2
    rw [e1] at e2
    exact (Option.some.inj e2).symm
  have hrun := vx_runSU (e := e) (below := below) (meth := meth) (locs := locs) (cells := kc) (slots := ks) (g := F0 m pc ls ((As aK aV).reverse ++ .ref b :: rest)) (rest := rest) hat ⟨ok.1, ok.2.1, ok.2.2.1, ok.2.2.2.1, ok.2.2.2.2.1⟩ hM cw ⟨m_pre_blind, hrecv, fun U hU hW => ⟨rfl, m_go hw hS ok.2.2.2.2.2.1 ok.2.2.2.2.2.2.1 ok.2.2.2.2.2.2.2.2.2.2.2.2.1 U hU hW⟩⟩ rfl (hn aK aV) hl.1 rfl (lv_room hcat) hd ⟨Nat.le_trans hmc r3, Nat.le_trans hms r4⟩
  exact m_ret hw hS ok.2.2.2.2.2.2.2.1 hrun (fun v h' H1 locs1 L1 hq hw1 hS1 => kk v h' hq ok H1 locs1 ls L1 hw1 hS1 hl) (fun E h' H1 locs1 L1 q ce hq hgh hw1 hS1 g1 g2 g3 => kx E h' hq ok H1 locs1 ls L1 q ce rest hgh hw1 hS1 hl g1 g2 g3)
/-- a method of the builder itself -/
theorem w_callB (hsp : ∀ l : Launch, SpK l (RJ4, cc2, nL2, y2, ret2, []) d mc ms (fun aK aV => .ref b :: As aK aV) h Qv Xv) (hrm : m_rm dd Mc Ms x) (hd : decode M.2.1 pc = .ok (.invokevirtual index, 3)) (hp : pc + 3 = pc') (h1 : Cond.methodLink M.1 index y2 ∈ m_TW) (h2 : Cond.instanceMethod y2 ∈ m_TW) (h3 : Cond.selects RJ4 y2 y2 ∈ m_TW) (h5 : Cond.code y2 cc2 nL2 ret2 ∈ m_TW) (hyd : y2.cls = RJ4 ∧ y2.cls ≠ "java/lang/invoke/MethodHandle" ∧ y2.cls ≠ "java/lang/invoke/VarHandle" ∧ (parseMethodDescriptor y2.desc).map (fun d => d.parameters.length) = some n) (hn : ∀ aK aV, (As aK aV).length = n) (hdd : d + 1 ≤ dd) (hnL : nL2 ≤ 21) (hmc : kc + mc ≤ Mc) (hms : ks + ms ≤ Ms) (hb : m_K h b = 13) (hst : st = (As (xK x) (xV x)).reverse ++ .ref b :: rest) (hcat : (rest.map fun v => v.category).sum ≤ 8) (kk : ∀ (v : Option Value) (h' : Hp), Qv v h' → wp x M pc' lv (v.toList ++ rest) h' (kc + mc) (ks + ms)) (kx : ∀ (E : String) (h' : Hp), Xv E h' → wx x M pc lv E h' (kc + mc) (ks + ms)) : wp x M pc lv st h kc ks := by
  obtain ⟨p, l, e, R, s, m, args, below, meth, cd, Q, A, D, ca, aK, aV⟩ := x
  obtain ⟨own, cc, nL, y, ret, hh⟩ := M
  subst hp
  intro ok H locs ls L hw hS hl
  obtain ⟨r1, r2, r3, r4⟩ := hrm
  subst hst
  have hM := hsp l ok.2.2.2.2.2.2.2.2.2.2.2.1 D ca aK aV L H.size
  rw [m_cw0] at hM
  obtain ⟨k0, hk0⟩ := m_at hw hb (by omega)
  rw [m_E_o hb (by decide)] at hk0
  have hrecv := va_recv ok.2.2.2.2.2.1 hw.1 (show vwCl[13]? = some (RJ4, TJ4, 4) from rfl) hk0
  have hrun := vx_runV (e := e) (below := below) (meth := meth) (locs := locs) (cells := kc) (slots := ks) (g := F0 m pc ls ((As aK aV).reverse ++ .ref b :: rest)) (rest := rest) ⟨ok.1, ok.2.1, ok.2.2.1, ok.2.2.2.1, ok.2.2.2.2.1⟩ hM (cwV n ok.2.2.2.2.1 (m_gV (nL2 := nL2) h1 h2 h3 ini_RJ4 h5) rfl rfl rfl hyd ⟨Nat.le_trans hdd r1, (show 8 + (nL2 + 11) + 40 * d ≤ R.locals by omega)⟩) ⟨m_pre_blind, hrecv, fun U hU hW => ⟨rfl, m_go hw hS ok.2.2.2.2.2.1 ok.2.2.2.2.2.2.1 ok.2.2.2.2.2.2.2.2.2.2.2.2.1 U hU hW⟩⟩ rfl (hn aK aV) hl.1 rfl (lv_room hcat) hd ⟨Nat.le_trans hmc r3, Nat.le_trans hms r4⟩
  exact m_ret hw hS ok.2.2.2.2.2.2.2.1 hrun (fun v h' H1 locs1 L1 hq hw1 hS1 => kk v h' hq ok H1 locs1 ls L1 hw1 hS1 hl) (fun E h' H1 locs1 L1 q ce hq hgh hw1 hS1 g1 g2 g3 => kx E h' hq ok H1 locs1 ls L1 q ce rest hgh hw1 hS1 hl g1 g2 g3)
/-- a method of a constant's, with arguments -/
theorem w_callVL {i : Nat} (hi : i < 6) (hsp : ∀ l : Launch, SpK l (RJ0, cc2, nL2, y2, ret2, []) d mc ms (fun aK aV => .ref (aK i) :: As aK aV) h Qv Xv) (hrm : m_rm dd Mc Ms x) (hd : decode M.2.1 pc = .ok (.invokevirtual index, 3)) (hp : pc + 3 = pc') (h1 : Cond.methodLink M.1 index y2 ∈ m_TW) (h2 : Cond.instanceMethod y2 ∈ m_TW) (h3 : Cond.selects RJ0 y2 y2 ∈ m_TW) (h5 : Cond.code y2 cc2 nL2 ret2 ∈ m_TW) (hyd : y2.cls = RJ0 ∧ y2.cls ≠ "java/lang/invoke/MethodHandle" ∧ y2.cls ≠ "java/lang/invoke/VarHandle" ∧ (parseMethodDescriptor y2.desc).map (fun d => d.parameters.length) = some n) (hn : ∀ aK aV, (As aK aV).length = n) (hdd : d + 1 ≤ dd) (hnL : nL2 ≤ 21) (hmc : kc + mc ≤ Mc) (hms : ks + ms ≤ Ms) (hst : st = (As (xK x) (xV x)).reverse ++ .ref (xK x i) :: rest) (hcat : (rest.map fun v => v.category).sum ≤ 8) (kk : ∀ (v : Option Value) (h' : Hp), Qv v h' → wp x M pc' lv (v.toList ++ rest) h' (kc + mc) (ks + ms)) (kx : ∀ (E : String) (h' : Hp), Xv E h' → wx x M pc lv E h' (kc + mc) (ks + ms)) : wp x M pc lv st h kc ks := by
  obtain ⟨p, l, e, R, s, m, args, below, meth, cd, Q, A, D, ca, aK, aV⟩ := x
  obtain ⟨own, cc, nL, y, ret, hh⟩ := M
  subst hp
  intro ok H locs ls L hw hS hl
  obtain ⟨r1, r2, r3, r4⟩ := hrm
  subst hst
  have hM := hsp l ok.2.2.2.2.2.2.2.2.2.2.2.1 D ca aK aV L H.size
  rw [m_cw0] at hM
  have hrecv := vk_recv ok.2.2.2.2.2.2.2.2.2.2.2.2.1.2.1.1 hi hS
  have hrun := vx_runV (e := e) (below := below) (meth := meth) (locs := locs) (cells := kc) (slots := ks) (g := F0 m pc ls ((As aK aV).reverse ++ .ref (aK i) :: rest)) (rest := rest) ⟨ok.1, ok.2.1, ok.2.2.1, ok.2.2.2.1, ok.2.2.2.2.1⟩ hM (cwV n ok.2.2.2.2.1 (m_gV (nL2 := nL2) h1 h2 h3 x_in_RJ0 h5) rfl rfl rfl hyd ⟨Nat.le_trans hdd r1, (show 8 + (nL2 + 11) + 40 * d ≤ R.locals by omega)⟩) ⟨m_pre_blind, hrecv, fun U hU hW => ⟨rfl, m_go hw hS ok.2.2.2.2.2.1 ok.2.2.2.2.2.2.1 ok.2.2.2.2.2.2.2.2.2.2.2.2.1 U hU hW⟩⟩ rfl (hn aK aV) hl.1 rfl (lv_room hcat) hd ⟨Nat.le_trans hmc r3, Nat.le_trans hms r4⟩
  exact m_ret hw hS ok.2.2.2.2.2.2.2.1 hrun (fun v h' H1 locs1 L1 hq hw1 hS1 => kk v h' hq ok H1 locs1 ls L1 hw1 hS1 hl) (fun E h' H1 locs1 L1 q ce hq hgh hw1 hS1 g1 g2 g3 => kx E h' hq ok H1 locs1 ls L1 q ce rest hgh hw1 hS1 hl g1 g2 g3)
theorem w_gC5 (hd : decode cc pc = .ok (.getstatic 18, 3)) (hp : pc + 3 = pc') (k : wp x (RJ5, cc, nL, y, ret, hh) pc' lv (.int 1 :: st) h kc ks) : wp x (RJ5, cc, nL, y, ret, hh) pc lv st h kc ks := by
  obtain ⟨p, l, e, R, s, m, args, below, meth, cd, Q, A, D, ca, aK, aV⟩ := x
  subst hp
  intro ok H locs ls L hw hS hl
  exact va_gets ok.1 ok.2.1 ok.2.2.2.2.2.2.2.2.2.2.2.2.1.2.1.2.1 hS ok.2.2.2.1 (ok.2.2.2.2.1 _ x9_fs5) (fun _ q => q) hd (k ok H locs ls L hw hS hl)
theorem w_gDO (hd : decode cc pc = .ok (.getstatic 83, 3)) (hp : pc + 3 = pc') (k : wp x (RJ6, cc, nL, y, ret, hh) pc' lv (.ref (xV x 6) :: st) h kc ks) : wp x (RJ6, cc, nL, y, ret, hh) pc lv st h kc ks := by
  obtain ⟨p, l, e, R, s, m, args, below, meth, cd, Q, A, D, ca, aK, aV⟩ := x
  subst hp
  intro ok H locs ls L hw hS hl
  exact va_gets ok.1 ok.2.1 ok.2.2.2.2.2.2.2.2.2.2.2.2.1.2.2.2.1.1 hS ok.2.2.2.1 (ok.2.2.2.2.1 _ x9_do) (fun _ q => q) hd (k ok H locs ls L hw hS hl)
theorem w_gDT (hd : decode cc pc = .ok (.getstatic 87, 3)) (hp : pc + 3 = pc') (k : wp x (RJ6, cc, nL, y, ret, hh) pc' lv (.ref (xV x 7) :: st) h kc ks) : wp x (RJ6, cc, nL, y, ret, hh) pc lv st h kc ks := by
  obtain ⟨p, l, e, R, s, m, args, below, meth, cd, Q, A, D, ca, aK, aV⟩ := x
  subst hp
  intro ok H locs ls L hw hS hl
  exact va_gets ok.1 ok.2.1 ok.2.2.2.2.2.2.2.2.2.2.2.2.1.2.2.2.2.1 hS ok.2.2.2.1 (ok.2.2.2.2.1 _ x9_dt) (fun _ q => q) hd (k ok H locs ls L hw hS hl)
theorem w_tDO {i : Nat} (hi : i < 100) (hd : decode M.2.1 pc = .ok (.baload, 1)) (hp : pc + 1 = pc') (k : wp x M pc' lv (.int (nI (48 + i % 10)) :: st) h kc ks) : wp x M pc lv (.int (nI i) :: .ref (xV x 6) :: st) h kc ks := by
  obtain ⟨p, l, e, R, s, m, args, below, meth, cd, Q, A, D, ca, aK, aV⟩ := x
  obtain ⟨own, cc, nL, y, ret, hh⟩ := M
  subst hp
  intro ok H locs ls L hw hS hl
  exact va_tb ok.1 ok.2.1 ok.2.2.2.2.2.2.2.2.2.2.2.2.1.2.2.2.1.2 hS (vp_in_nI hi (by decide)) (v := .int (nI (48 + i % 10))) (by rw [n_cl (by omega)]) hd (k ok H locs ls L hw hS hl)
theorem w_tDT {i : Nat} (hi : i < 100) (hd : decode M.2.1 pc = .ok (.baload, 1)) (hp : pc + 1 = pc') (k : wp x M pc' lv (.int (nI (48 + i / 10)) :: st) h kc ks) : wp x M pc lv (.int (nI i) :: .ref (xV x 7) :: st) h kc ks := by
  obtain ⟨p, l, e, R, s, m, args, below, meth, cd, Q, A, D, ca, aK, aV⟩ := x
  obtain ⟨own, cc, nL, y, ret, hh⟩ := M
  subst hp
  intro ok H locs ls L hw hS hl
  exact va_tb ok.1 ok.2.1 ok.2.2.2.2.2.2.2.2.2.2.2.2.1.2.2.2.2.2 hS (vp_in_nI hi (by decide)) (v := .int (nI (48 + i / 10))) (by rw [n_cl (by omega)]) hd (k ok H locs ls L hw hS hl)
end K69
/-- System.arraycopy of bytes, out of the letters f -/
def p_CF (h : Hp) (f : Nat → Int32) (b sp dp n : Nat) : Hp := some (m_K h, m_N h, m_I h, m_J h, m_R h, (fun d j => if d = b then va_cpy f (m_X h b) sp dp n j else m_X h d j), m_Y h, m_Z h)
theorem m_copyF {ca : Nat → ClassId} {h : Hp} {f : Nat → Int32} {b sp dp n : Nat} (hK : m_K h b = 22) : ∀ d, va_up (m_E ca h) b (.inl (ca 22, m_N h b, .inl (va_cpy f (m_X h b) sp dp n))) d = m_E ca (p_CF h f b sp dp n) d := by
  intro d
  by_cases hb : d = b
  · subst hb
    rw [va_up_self, m_E_22 (show m_K (p_CF h f d sp dp n) d = 22 from hK)]
    show _ = (Sum.inl (ca 22, m_N h d, Sum.inl (fun j => if d = d then va_cpy f (m_X h d) sp dp n j else m_X h d j)) : va_E)
    simp only [if_true]
  · rw [va_up_ne _ _ hb]
    have e3 : m_X (p_CF h f b sp dp n) d = m_X h d := funext fun j => if_neg hb
    unfold m_E
    rw [e3]
    rfl
theorem g_XC {h : Hp} {f : Nat → Int32} {b sp dp n j : Nat} : m_X (p_CF h f b sp dp n) b j = va_cpy f (m_X h b) sp dp n j := if_pos rfl
theorem Rp.fC {A : Nat → Nat → Nat → Nat} {h : Hp} {σ ρ : Zs} {f : Nat → Int32} {q sp dp n : Nat} (hz : Rp A h σ ρ) (hq : fgn A q) : Rp A (p_CF h f q sp dp n) σ (ecd (p_CF h f q sp dp n) ρ) := hz.far (fun c p s hv => ⟨rfl, rfl, fun _ => rfl, fun _ => rfl, fun _ => rfl, fun _ => if_neg (hq c p s hv), fun _ => rfl, fun _ => rfl⟩)
theorem smC {h : Hp} {f : Nat → Int32} {a q sp dp n : Nat} (ne : a ≠ q) : smF (p_CF h f a sp dp n) h q := ⟨rfl, rfl, fun _ _ => ⟨rfl, rfl, rfl⟩, fun _ => ⟨if_neg (fun e => ne e.symm), rfl, rfl⟩⟩
/-- all letters are bytes -/
def bF (f : Nat → Int32) : Prop := ∀ i, fits .byte (.int (f i)) = true
theorem bF_cpy {f g : Nat → Int32} {sp dp n : Nat} (h1 : bF f) (h2 : bF g) : bF (va_cpy f g sp dp n) := by
  intro i
  unfold va_cpy
  split
  · exact h1 _
  · exact h2 _
theorem bF_n : ∀ t, t < 128 → fits .byte (.int (nI t)) = true := by decide
theorem bF_t : ∀ i, i < 6 → (tx_b i).all (fun b => fits .byte (.int b)) = true := by decide +kernel
theorem bF_k {i : Nat} (hi : i < 6) : bF (fun j => (tx_b i).getD j 0) := by
  intro j
  have h1 := bF_t i hi
  rw [List.all_eq_true] at h1
  rcases Nat.lt_or_ge j (tx_b i).length with q | q
  · show fits .byte (.int ((tx_b i).getD j 0)) = true
    rw [List.getD_eq_getElem?_getD, List.getElem?_eq_getElem q]
    exact h1 _ (List.getElem_mem q)
  · show fits .byte (.int ((tx_b i).getD j 0)) = true
    rw [List.getD_eq_getElem?_getD, List.getElem?_eq_none q]
    rfl
section K69b
variable {x : Cxt} {M : MI} {pc pc' : Nat} {lv : List (Nat × Value)} {st : List Value} {h : Hp} {kc ks dd Mc Ms index : Nat}
theorem w_copyb {a b n0 n1 : Nat} {sp dp n : Int32} (hrm : m_rm dd Mc Ms x) (hdd : 10 ≤ dd) (hd : decode M.2.1 pc = .ok (.invokestatic index, 3)) (hp : pc + 3 = pc') (h1 : Cond.methodLink M.1 index arraycopyName ∈ m_TW) (hka : m_K h a = 22) (hkb : m_K h b = 22) (hna : m_N h a = n0) (hnb : m_N h b = n1) (hf : bF (m_X h a)) (hg : gcp sp dp n n0 n1) (hcat : (st.map fun v => v.category).sum ≤ 8) (k : wp x M pc' lv st (p_CF h (m_X h a) b sp.toNatClampNeg dp.toNatClampNeg n.toNatClampNeg) kc ks) : wp x M pc lv (.int n :: .int dp :: .ref b :: .int sp :: .ref a :: st) h kc ks := by
  obtain ⟨p, l, e, R, s, m, args, below, meth, cd, Q, A, D, ca, aK, aV⟩ := x
  obtain ⟨own, cc, nL, y, ret, hh⟩ := M
  subst hp
  subst hna
  subst hnb
  intro ok H locs ls L hw hS hl
  obtain ⟨r1, r2, r3, r4⟩ := hrm
  obtain ⟨g1, g2, g3, g4, g5⟩ := hg
  obtain ⟨k0, hk0⟩ := m_at hw hka (by omega)
  obtain ⟨k1, hk1⟩ := m_at hw hkb (by omega)
  have hk0' := hk0
  have hk1' := hk1
  rw [m_E_22 hka] at hk0'
  rw [m_E_22 hkb] at hk1'
  have := x9_acw
  refine va_copyi ok.1 ok.2.1 (ok.2.2.1.trans hl.1.symm) ok.2.2.2.1 (ok.2.2.2.2.1 _ h1) (ok.2.2.2.2.1 _ x9_acn) (ok.2.2.2.2.1 _ x9_acs) (ok.2.2.2.2.1 _ x9_aci) ok.2.2.2.2.2.1 hw.1 hw.2.1 hS k0 k1 2 2 (ty := .byte) hk0' hk1' rfl rfl rfl g1 g2 g3 g4 g5 (fun _ _ => hf _) (by omega) (by omega) hd (fun H1 locs1 hP1 hD1 hS1 => ?_)
  exact k ok H1 locs1 ls L (m_set hw hkb (by omega) hk1 (h' := p_CF h (m_X h a) b sp.toNatClampNeg dp.toNatClampNeg n.toNatClampNeg) rfl (m_copyF hkb) hP1 hD1) hS1 hl
theorem w_copyk {i b n1 : Nat} {sp dp n : Int32} (hi : i < 6) (hrm : m_rm dd Mc Ms x) (hdd : 10 ≤ dd) (hd : decode M.2.1 pc = .ok (.invokestatic index, 3)) (hp : pc + 3 = pc') (h1 : Cond.methodLink M.1 index arraycopyName ∈ m_TW) (hkb : m_K h b = 22) (hnb : m_N h b = n1) (hg : gcp sp dp n (m_len.getD i 0) n1) (hcat : (st.map fun v => v.category).sum ≤ 8) (k : wp x M pc' lv st (p_CF h (fun j => (tx_b i).getD j 0) b sp.toNatClampNeg dp.toNatClampNeg n.toNatClampNeg) kc ks) : wp x M pc lv (.int n :: .int dp :: .ref b :: .int sp :: .ref (xV x i) :: st) h kc ks := by
  obtain ⟨p, l, e, R, s, m, args, below, meth, cd, Q, A, D, ca, aK, aV⟩ := x
  obtain ⟨own, cc, nL, y, ret, hh⟩ := M
  subst hp
  subst hnb
  intro ok H locs ls L hw hS hl
  obtain ⟨r1, r2, r3, r4⟩ := hrm
  obtain ⟨g1, g2, g3, g4, g5⟩ := hg
  obtain ⟨k1, hk1⟩ := m_at hw hkb (by omega)
  have hk1' := hk1
  rw [m_E_22 hkb] at hk1'
  have := x9_acw
  refine vk_copyt ok.1 ok.2.1 (ok.2.2.1.trans hl.1.symm) ok.2.2.2.1 (ok.2.2.2.2.1 _ h1) (ok.2.2.2.2.1 _ x9_acn) (ok.2.2.2.2.1 _ x9_acs) (ok.2.2.2.2.1 _ x9_aci) ok.2.2.2.2.2.1 hw.1 hw.2.1 hS (f := fun j => (tx_b i).getD j 0) (ok.2.2.2.2.2.2.2.2.2.2.2.2.1.2.1.1.1 i hi).2.2.2 k1 2 hk1' rfl g1 g2 g3 g4 g5 (fun _ _ => bF_k hi _) (by omega) (by omega) hd (fun H1 locs1 hP1 hD1 hS1 => ?_)
  exact k ok H1 locs1 ls L (m_set hw hkb (by omega) hk1 (h' := p_CF h (fun j => (tx_b i).getD j 0) b sp.toNatClampNeg dp.toNatClampNeg n.toNatClampNeg) rfl (m_copyF hkb) hP1 hD1) hS1 hl
end K69b
