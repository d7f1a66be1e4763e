/-! CALLS over wp; what is made -/
theorem m_cw0 {own : String} {cc : ByteArray} {nL : Nat} {y : MethodName} {ret : Option FieldType} : m_cw (own, cc, nL, y, ret, []) = .code y cc nL ret := by
  unfold m_cw
  exact if_pos rfl
theorem m_cwH {own : String} {cc : ByteArray} {nL : Nat} {y : MethodName} {ret : Option FieldType} {hh : List (Nat × Nat × Nat × Nat)} (h : hh ≠ []) : m_cw (own, cc, nL, y, ret, hh) = .codeWith y cc nL ret hh := by
  unfold m_cw
  exact if_neg h
section K13
variable {p : Program} {l : Launch} {e : Env} {R : Room} {s : State} {m : MethodId} {args : Array Value} {below : List Frame} {meth : Method} {c : Code} {Q : State → Prop} {A : Nat → Prop} {D : va_G} {ca : Nat → ClassId} {aK aV : Nat → Nat}
theorem m_AA {h : Hp} {L : List Nat} {H : Heap} {locs : List Loc} (hw : m_W D ca h L A H) (hS : va_S A s.heap H locs) (hA : ∀ q, s.heap.size ≤ q → A q) : ∀ q, va_A (va_pl L (m_E ca h)) H.size q → A q := by
  intro q hq
  rcases hq with ⟨k, e, hk⟩ | hq
  · exact hw.2.1.2 k _ hk
  · exact hA q (Nat.le_trans hS.1 hq)
theorem m_ret {H : Heap} {locs : List Loc} {h : Hp} {L : List Nat} {kc ks mc ms pc : Nat} {Qv : Option Value → Hp → Prop} {Xv : String → Hp → Prop} {a : Array Value} {ls : Array Slot} {st0 rest : List Value} (hw : m_W D ca h L A H) (hS : va_S A s.heap H locs) (hA : ∀ q, s.heap.size ≤ q → A q)
    (hr : vx_Run p l e R s m args below meth c H locs kc ks mc ms (F0 m pc ls st0) rest (m_Qc D ca (va_A (va_pl L (m_E ca h)) H.size) Qv a) (m_Xc D ca (va_A (va_pl L (m_E ca h)) H.size) Xv) (va_A (va_pl L (m_E ca h)) H.size))
    (kk : ∀ (v : Option Value) (h' : Hp) (H1 : Heap) (locs1 : List Loc) (L1 : List Nat), Qv v h' → m_W D ca h' L1 A H1 → va_S A s.heap H1 locs1 → W p l e R s m args below meth c H1 locs1 (kc + mc) (ks + ms) Q (F0 m (pc + 3) ls (v.toList ++ rest)))
    (kx : ∀ (E : String) (h' : Hp) (H1 : Heap) (locs1 : List Loc) (L1 : List Nat) (q : Nat) (ce : Cell), Xv E h' → m_R h' 1023 0 = some q → m_W D ca h' L1 A H1 → va_S A s.heap H1 locs1 → H1[q]? = some ce → ce.vm = .none → s.vm.findClass E = some ce.cls → vx_W p l e R s m args below meth c H1 locs1 (kc + mc) (ks + ms) Q (F0 m pc ls rest) q) :
    W p l e R s m args below meth c H locs kc ks Q (F0 m pc ls st0) := by
  have hF := m_AA hw hS hA
  intro T hT X
  rcases hr T hT X with ⟨v, st₀, t, T', L', h0, X', hL, e1, e2, ⟨⟨v', h', L1, hv, hp, hb⟩, hz⟩, st⟩ | ⟨q, st₀, t, T', L', E, ce, h0, X', hL, e1, e2, ⟨⟨h', L1, hp, hgh, hb⟩, hz⟩, hce, hcv, hcl, st⟩
  · cases hv
    obtain ⟨k1, k2, k3⟩ := vx_keep h0 e1 hS (fun q _ => hF q) hF hL hz
    obtain ⟨t2, a1, b1⟩ := kk v h' T'.heap (locs ++ L') L1 hp ⟨by rw [e1]; exact hb.1, hb.2.1.weaken (fun _ q _ => hF q.1), hb.2.2⟩ k3 T' rfl X'
    exact ⟨t2, st t2 a1, b1⟩
  · obtain ⟨k1, k2, k3⟩ := vx_keep h0 e1 hS (fun q _ => hF q) hF hL hz
    obtain ⟨t2, a1, b1⟩ := kx E h' T'.heap (locs ++ L') L1 q ce hp hgh ⟨by rw [e1]; exact hb.1, hb.2.1.weaken (fun _ q _ => hF q.1), hb.2.2⟩ k3 (by rw [e1]; exact hce) hcv hcl T' rfl X'
    exact ⟨t2, st.trans a1, b1⟩
theorem m_go {h : Hp} {L : List Nat} {H : Heap} {locs : List Loc} (hw : m_W D ca h L A H) (hS : va_S A s.heap H locs) (hK : va_K D vwCl (m_tys ca) s) (hN : ∀ w ∈ m_NW, va_Nw w s) (hE : m_ex aK aV A s s.heap) : ∀ U : State, U.heap = H → s.WarmedH U.vm → m_pre D ca aK aV h L H.size U := by
  intro U hU hW
  refine ⟨by rw [hU], ⟨by rw [hU]; exact hw.1, hw.2.1.weaken (fun _ _ _ _ => trivial), hw.2.2⟩, va_K.moved hW.alike hK, m_nw_warm hW hN, ?_⟩
  rw [hU]
  refine m_ex.next hW hS.2.1 (fun q hq => ?_) hE
  obtain ⟨k, hk⟩ := va_pl_get (X := []) (f := m_E ca h) hq
  exact hw.2.1.2 k _ hk
end K13
theorem m_gV {own C : String} {index nL2 : Nat} {y2 : MethodName} {cw : Cond} (h1 : Cond.methodLink own index y2 ∈ m_TW) (h2 : Cond.instanceMethod y2 ∈ m_TW) (h3 : Cond.selects C y2 y2 ∈ m_TW) (h4 : Cond.initialized C ∈ m_TW) (h5 : cw ∈ m_TW) : GoodIn m_TW (wsV own index C y2 (cw :: m_TW)) := by
  intro w hw
  refine m_TWg w ?_
  rcases List.mem_append.mp hw with q | q
  · simp only [List.mem_cons, List.not_mem_nil, or_false] at q
    rcases q with rfl | rfl | rfl | rfl <;> assumption
  · rcases List.mem_cons.mp q with rfl | q
    · exact h5
    · exact q
theorem m_gS {own : String} {index : Nat} {y2 : MethodName} {cw : Cond} (h1 : Cond.methodLink own index y2 ∈ m_TW) (h3 : Cond.static y2 ∈ m_TW) (h4 : Cond.initialized y2.cls ∈ m_TW) (h5 : cw ∈ m_TW) : GoodIn m_TW (va_wsS own index y2 (cw :: m_TW)) := by
  intro w hw
  refine m_TWg w ?_
  rcases List.mem_append.mp hw with q | q
  · simp only [List.mem_cons, List.not_mem_nil, or_false] at q
    rcases q with rfl | rfl | rfl <;> assumption
  · rcases List.mem_cons.mp q with rfl | q
    · exact h5
    · exact q
theorem m_gC {cw : Cond} (h5 : cw ∈ m_TW) : GoodIn m_TW (cw :: m_TW) := by
  intro w hw
  refine m_TWg w ?_
  rcases List.mem_cons.mp hw with rfl | q
  · exact h5
  · exact q
section K14
variable {x : Cxt} {M : MI} {pc pc' : Nat} {lv lv' : List (Nat × Value)} {st : List Value} {h : Hp} {kc ks : Nat}
variable {index n d dd mc ms Mc Ms nL2 b ci N : Nat} {C host : String} {T : u_T} {cc2 : ByteArray} {y2 : MethodName} {ret2 : Option FieldType} {hh2 : List (Nat × Nat × Nat × Nat)} {As rest : List Value} {Qv : Option Value → Hp → Prop} {Xv : String → Hp → Prop}
theorem w_callV (hsp : ∀ l : Launch, Sp l (C, cc2, nL2, y2, ret2, []) d mc ms (.ref b :: As) h Qv Xv) (hrm : m_rm dd Mc Ms x) (hd : decode M.2.1 pc = .ok (.invokevirtual index, 3)) (hp : pc + 3 = pc') (h1 : Cond.methodLink M.1 index y2 ∈ m_TW) (h2 : Cond.instanceMethod y2 ∈ m_TW) (h3 : Cond.selects C y2 y2 ∈ m_TW) (h4 : Cond.initialized C ∈ m_TW) (h5 : Cond.code y2 cc2 nL2 ret2 ∈ m_TW) (hyd : y2.cls = C ∧ y2.cls ≠ "java/lang/invoke/MethodHandle" ∧ y2.cls ≠ "java/lang/invoke/VarHandle" ∧ (parseMethodDescriptor y2.desc).map (fun d => d.parameters.length) = some n) (hn : As.length = n) (hdd : d + 1 ≤ dd) (hnL : nL2 ≤ 21) (hmc : kc + mc ≤ Mc) (hms : ks + ms ≤ Ms) (hcl : vwCl[ci]? = some (C, T, N)) (hc : ci < 15) (hb : m_K h b = ci) (hst : st = As.reverse ++ .ref b :: rest) (hcat : (rest.map fun v => v.category).sum ≤ 8) (kk : ∀ (v : Option Value) (h' : Hp), Qv v h' → wp x M pc' lv (v.toList ++ rest) h' (kc + mc) (ks + ms)) (kx : ∀ (E : String) (h' : Hp), Xv E h' → wx x M pc lv E h' (kc + mc) (ks + ms)) : wp x M pc lv st h kc ks := by
  obtain ⟨p, l, e, R, s, m, args, below, meth, cd, Q, A, D, ca, aK, aV⟩ := x
  obtain ⟨own, cc, nL, y, ret, hh⟩ := M
  subst hp
  intro ok H locs ls L hw hS hl
  obtain ⟨r1, r2, r3, r4⟩ := hrm
  subst hst
  have hM := hsp l ok.2.2.2.2.2.2.2.2.2.2.2.1 D ca aK aV L H.size
  rw [m_cw0] at hM
  obtain ⟨k0, hk0⟩ := m_at hw hb (by omega)
  rw [m_E_o hb hc] at hk0
  have hrecv := va_recv ok.2.2.2.2.2.1 hw.1 hcl hk0
  have hrun := vx_runV (e := e) (below := below) (meth := meth) (locs := locs) (cells := kc) (slots := ks) (g := F0 m pc ls (As.reverse ++ .ref b :: rest)) (rest := rest) ⟨ok.1, ok.2.1, ok.2.2.1, ok.2.2.2.1, ok.2.2.2.2.1⟩ hM (cwV n ok.2.2.2.2.1 (m_gV (nL2 := nL2) h1 h2 h3 h4 h5) rfl rfl rfl hyd ⟨Nat.le_trans hdd r1, (show 8 + (nL2 + 11) + 40 * d ≤ R.locals by omega)⟩) ⟨m_pre_blind, hrecv, fun U hU hW => ⟨rfl, m_go hw hS ok.2.2.2.2.2.1 ok.2.2.2.2.2.2.1 ok.2.2.2.2.2.2.2.2.2.2.2.2.1 U hU hW⟩⟩ rfl hn hl.1 rfl (lv_room hcat) hd ⟨Nat.le_trans hmc r3, Nat.le_trans hms r4⟩
  exact m_ret hw hS ok.2.2.2.2.2.2.2.1 hrun (fun v h' H1 locs1 L1 hq hw1 hS1 => kk v h' hq ok H1 locs1 ls L1 hw1 hS1 hl) (fun E h' H1 locs1 L1 q ce hq hgh hw1 hS1 g1 g2 g3 => kx E h' hq ok H1 locs1 ls L1 q ce rest hgh hw1 hS1 hl g1 g2 g3)
theorem w_callVX (hsp : ∀ l : Launch, Sp l (C, cc2, nL2, y2, ret2, hh2) d mc ms (.ref b :: As) h Qv Xv) (hrm : m_rm dd Mc Ms x) (hd : decode M.2.1 pc = .ok (.invokevirtual index, 3)) (hp : pc + 3 = pc') (h1 : Cond.methodLink M.1 index y2 ∈ m_TW) (h2 : Cond.instanceMethod y2 ∈ m_TW) (h3 : Cond.selects C y2 y2 ∈ m_TW) (h4 : Cond.initialized C ∈ m_TW) (h5 : Cond.codeWith y2 cc2 nL2 ret2 hh2 ∈ m_TW) (hyd : y2.cls = C ∧ y2.cls ≠ "java/lang/invoke/MethodHandle" ∧ y2.cls ≠ "java/lang/invoke/VarHandle" ∧ (parseMethodDescriptor y2.desc).map (fun d => d.parameters.length) = some n) (hn : As.length = n) (hdd : d + 1 ≤ dd) (hnL : nL2 ≤ 21) (hmc : kc + mc ≤ Mc) (hms : ks + ms ≤ Ms) (hcl : vwCl[ci]? = some (C, T, N)) (hc : ci < 15) (hb : m_K h b = ci) (hne : hh2 ≠ []) (hst : st = As.reverse ++ .ref b :: rest) (hcat : (rest.map fun v => v.category).sum ≤ 8) (kk : ∀ (v : Option Value) (h' : Hp), Qv v h' → wp x M pc' lv (v.toList ++ rest) h' (kc + mc) (ks + ms)) (kx : ∀ (E : String) (h' : Hp), Xv E h' → wx x M pc lv E h' (kc + mc) (ks + ms)) : wp x M pc lv st h kc ks := by
  obtain ⟨p, l, e, R, s, m, args, below, meth, cd, Q, A, D, ca, aK, aV⟩ := x
  obtain ⟨own, cc, nL, y, ret, hh⟩ := M
  subst hp
  intro ok H locs ls L hw hS hl
  obtain ⟨r1, r2, r3, r4⟩ := hrm
  subst hst
  have hM := hsp l ok.2.2.2.2.2.2.2.2.2.2.2.1 D ca aK aV L H.size
  rw [m_cwH hne] at hM
  obtain ⟨k0, hk0⟩ := m_at hw hb (by omega)
  rw [m_E_o hb hc] at hk0
  have hrecv := va_recv ok.2.2.2.2.2.1 hw.1 hcl hk0
  have hrun := vx_runVX (e := e) (below := below) (meth := meth) (locs := locs) (cells := kc) (slots := ks) (g := F0 m pc ls (As.reverse ++ .ref b :: rest)) (rest := rest) ⟨ok.1, ok.2.1, ok.2.2.1, ok.2.2.2.1, ok.2.2.2.2.1⟩ hM (vx_cwVW n ok.2.2.2.2.1 (m_gV (nL2 := nL2) h1 h2 h3 h4 h5) rfl rfl rfl hyd ⟨Nat.le_trans hdd r1, (show 8 + (nL2 + 11) + 40 * d ≤ R.locals by omega)⟩) ⟨m_pre_blind, hrecv, fun U hU hW => ⟨rfl, m_go hw hS ok.2.2.2.2.2.1 ok.2.2.2.2.2.2.1 ok.2.2.2.2.2.2.2.2.2.2.2.2.1 U hU hW⟩⟩ rfl hn hl.1 rfl (lv_room hcat) hd ⟨Nat.le_trans hmc r3, Nat.le_trans hms r4⟩
  exact m_ret hw hS ok.2.2.2.2.2.2.2.1 hrun (fun v h' H1 locs1 L1 hq hw1 hS1 => kk v h' hq ok H1 locs1 ls L1 hw1 hS1 hl) (fun E h' H1 locs1 L1 q ce hq hgh hw1 hS1 g1 g2 g3 => kx E h' hq ok H1 locs1 ls L1 q ce rest hgh hw1 hS1 hl g1 g2 g3)
theorem w_callS (hsp : ∀ l : Launch, Sp l (C, cc2, nL2, y2, ret2, []) d mc ms As h Qv Xv) (hrm : m_rm dd Mc Ms x) (hd : decode M.2.1 pc = .ok (.invokestatic index, 3)) (hp : pc + 3 = pc') (h1 : Cond.methodLink M.1 index y2 ∈ m_TW) (h3 : Cond.static y2 ∈ m_TW) (h4 : Cond.initialized y2.cls ∈ m_TW) (h5 : Cond.code y2 cc2 nL2 ret2 ∈ m_TW) (hyd : y2.cls ≠ "java/lang/invoke/MethodHandle" ∧ y2.cls ≠ "java/lang/invoke/VarHandle" ∧ (parseMethodDescriptor y2.desc).map (fun d => d.parameters.length) = some n) (hn : As.length = n) (hdd : d + 1 ≤ dd) (hnL : nL2 ≤ 21) (hmc : kc + mc ≤ Mc) (hms : ks + ms ≤ Ms) (hst : st = As.reverse ++ rest) (hcat : (rest.map fun v => v.category).sum ≤ 8) (kk : ∀ (v : Option Value) (h' : Hp), Qv v h' → wp x M pc' lv (v.toList ++ rest) h' (kc + mc) (ks + ms)) (kx : ∀ (E : String) (h' : Hp), Xv E h' → wx x M pc lv E h' (kc + mc) (ks + ms)) : wp x M pc lv st h kc ks := by
  obtain ⟨p, l, e, R, s, m, args, below, meth, cd, Q, A, D, ca, aK, aV⟩ := x
  obtain ⟨own, cc, nL, y, ret, hh⟩ := M
  subst hp
  intro ok H locs ls L hw hS hl
  obtain ⟨r1, r2, r3, r4⟩ := hrm
  subst hst
  have hM := hsp l ok.2.2.2.2.2.2.2.2.2.2.2.1 D ca aK aV L H.size
  rw [m_cw0] at hM
  have hrun := vx_runS (e := e) (below := below) (meth := meth) (locs := locs) (cells := kc) (slots := ks) (g := F0 m pc ls (As.reverse ++ rest)) (rest := rest) ⟨ok.1, ok.2.1, ok.2.2.1, ok.2.2.2.1, ok.2.2.2.2.1⟩ hM (va_cwS n ok.2.2.2.2.1 (m_gS h1 h3 h4 h5) rfl rfl rfl hyd ⟨Nat.le_trans hdd r1, (show 8 + (nL2 + 11) + 40 * d ≤ R.locals by omega)⟩) ⟨m_pre_blind, fun U hU hW => ⟨rfl, m_go hw hS ok.2.2.2.2.2.1 ok.2.2.2.2.2.2.1 ok.2.2.2.2.2.2.2.2.2.2.2.2.1 U hU hW⟩⟩ rfl hn hl.1 rfl (lv_room hcat) hd ⟨Nat.le_trans hmc r3, Nat.le_trans hms r4⟩
  exact m_ret hw hS ok.2.2.2.2.2.2.2.1 hrun (fun v h' H1 locs1 L1 hq hw1 hS1 => kk v h' hq ok H1 locs1 ls L1 hw1 hS1 hl) (fun E h' H1 locs1 L1 q ce hq hgh hw1 hS1 g1 g2 g3 => kx E h' hq ok H1 locs1 ls L1 q ce rest hgh hw1 hS1 hl g1 g2 g3)
theorem w_callSX (hsp : ∀ l : Launch, Sp l (C, cc2, nL2, y2, ret2, hh2) d mc ms As h Qv Xv) (hrm : m_rm dd Mc Ms x) (hd : decode M.2.1 pc = .ok (.invokestatic index, 3)) (hp : pc + 3 = pc') (h1 : Cond.methodLink M.1 index y2 ∈ m_TW) (h3 : Cond.static y2 ∈ m_TW) (h4 : Cond.initialized y2.cls ∈ m_TW) (h5 : Cond.codeWith y2 cc2 nL2 ret2 hh2 ∈ m_TW) (hyd : y2.cls ≠ "java/lang/invoke/MethodHandle" ∧ y2.cls ≠ "java/lang/invoke/VarHandle" ∧ (parseMethodDescriptor y2.desc).map (fun d => d.parameters.length) = some n) (hn : As.length = n) (hdd : d + 1 ≤ dd) (hnL : nL2 ≤ 21) (hmc : kc + mc ≤ Mc) (hms : ks + ms ≤ Ms) (hne : hh2 ≠ []) (hst : st = As.reverse ++ rest) (hcat : (rest.map fun v => v.category).sum ≤ 8) (kk : ∀ (v : Option Value) (h' : Hp), Qv v h' → wp x M pc' lv (v.toList ++ rest) h' (kc + mc) (ks + ms)) (kx : ∀ (E : String) (h' : Hp), Xv E h' → wx x M pc lv E h' (kc + mc) (ks + ms)) : wp x M pc lv st h kc ks := by
  obtain ⟨p, l, e, R, s, m, args, below, meth, cd, Q, A, D, ca, aK, aV⟩ := x
  obtain ⟨own, cc, nL, y, ret, hh⟩ := M
  subst hp
  intro ok H locs ls L hw hS hl
  obtain ⟨r1, r2, r3, r4⟩ := hrm
  subst hst
  have hM := hsp l ok.2.2.2.2.2.2.2.2.2.2.2.1 D ca aK aV L H.size
  rw [m_cwH hne] at hM
  have hrun := vx_runSX (e := e) (below := below) (meth := meth) (locs := locs) (cells := kc) (slots := ks) (g := F0 m pc ls (As.reverse ++ rest)) (rest := rest) ⟨ok.1, ok.2.1, ok.2.2.1, ok.2.2.2.1, ok.2.2.2.2.1⟩ hM (vx_cwSW n ok.2.2.2.2.1 (m_gS h1 h3 h4 h5) rfl rfl rfl hyd ⟨Nat.le_trans hdd r1, (show 8 + (nL2 + 11) + 40 * d ≤ R.locals by omega)⟩) ⟨m_pre_blind, fun U hU hW => ⟨rfl, m_go hw hS ok.2.2.2.2.2.1 ok.2.2.2.2.2.2.1 ok.2.2.2.2.2.2.2.2.2.2.2.2.1 U hU hW⟩⟩ rfl hn hl.1 rfl (lv_room hcat) hd ⟨Nat.le_trans hmc r3, Nat.le_trans hms r4⟩
  exact m_ret hw hS ok.2.2.2.2.2.2.2.1 hrun (fun v h' H1 locs1 L1 hq hw1 hS1 => kk v h' hq ok H1 locs1 ls L1 hw1 hS1 hl) (fun E h' H1 locs1 L1 q ce hq hgh hw1 hS1 g1 g2 g3 => kx E h' hq ok H1 locs1 ls L1 q ce rest hgh hw1 hS1 hl g1 g2 g3)
theorem w_callSN (hsp : ∀ l : Launch, Sp l (C, cc2, nL2, y2, ret2, []) d mc ms As h Qv Xv) (hrm : m_rm dd Mc Ms x) (hd : decode M.2.1 pc = .ok (.invokestatic index, 3)) (hp : pc + 3 = pc') (h1 : Cond.methodLinkNest M.1 index y2 host ∈ m_NW) (h3 : Cond.static y2 ∈ m_TW) (h4 : Cond.initialized y2.cls ∈ m_TW) (h5 : Cond.code y2 cc2 nL2 ret2 ∈ m_TW) (hyd : y2.cls ≠ "java/lang/invoke/MethodHandle" ∧ y2.cls ≠ "java/lang/invoke/VarHandle" ∧ (parseMethodDescriptor y2.desc).map (fun d => d.parameters.length) = some n) (hn : As.length = n) (hdd : d + 1 ≤ dd) (hnL : nL2 ≤ 21) (hmc : kc + mc ≤ Mc) (hms : ks + ms ≤ Ms) (hst : st = As.reverse ++ rest) (hcat : (rest.map fun v => v.category).sum ≤ 8) (kk : ∀ (v : Option Value) (h' : Hp), Qv v h' → wp x M pc' lv (v.toList ++ rest) h' (kc + mc) (ks + ms)) (kx : ∀ (E : String) (h' : Hp), Xv E h' → wx x M pc lv E h' (kc + mc) (ks + ms)) : wp x M pc lv st h kc ks := by
  obtain ⟨p, l, e, R, s, m, args, below, meth, cd, Q, A, D, ca, aK, aV⟩ := x
  obtain ⟨own, cc, nL, y, ret, hh⟩ := M
  subst hp
  intro ok H locs ls L hw hS hl
  obtain ⟨r1, r2, r3, r4⟩ := hrm
  subst hst
  have hM := hsp l ok.2.2.2.2.2.2.2.2.2.2.2.1 D ca aK aV L H.size
  rw [m_cw0] at hM
  have hrun := vx_runSN (e := e) (below := below) (meth := meth) (locs := locs) (cells := kc) (slots := ks) (g := F0 m pc ls (As.reverse ++ rest)) (rest := rest) ⟨ok.1, ok.2.1, ok.2.2.1, ok.2.2.2.1, ok.2.2.2.2.1⟩ hM ⟨va_cnB n ok.2.2.2.2.1 (m_gC h5) rfl rfl rfl (ok.2.2.2.2.2.2.1 _ h1) (ok.2.2.2.2.1 _ h4) hyd ⟨Nat.le_trans hdd r1, (show 8 + (nL2 + 11) + 40 * d ≤ R.locals by omega)⟩, ok.2.2.2.2.1 _ h3, trivial⟩ ⟨m_pre_blind, fun U hU hW => ⟨rfl, m_go hw hS ok.2.2.2.2.2.1 ok.2.2.2.2.2.2.1 ok.2.2.2.2.2.2.2.2.2.2.2.2.1 U hU hW⟩⟩ rfl hn hl.1 rfl (lv_room hcat) hd ⟨Nat.le_trans hmc r3, Nat.le_trans hms r4⟩
  exact m_ret hw hS ok.2.2.2.2.2.2.2.1 hrun (fun v h' H1 locs1 L1 hq hw1 hS1 => kk v h' hq ok H1 locs1 ls L1 hw1 hS1 hl) (fun E h' H1 locs1 L1 q ce hq hgh hw1 hS1 g1 g2 g3 => kx E h' hq ok H1 locs1 ls L1 q ce rest hgh hw1 hS1 hl g1 g2 g3)
theorem w_callI (hsp : ∀ l : Launch, Sp l (C, cc2, nL2, y2, none, []) d mc ms (.ref b :: As) h Qv Xv) (hrm : m_rm dd Mc Ms x) (hd : decode M.2.1 pc = .ok (.invokespecial index, 3)) (hp : pc + 3 = pc') (h1 : Cond.methodLink M.1 index y2 ∈ m_TW) (h2 : Cond.instanceMethod y2 ∈ m_TW) (h4 : Cond.initialized y2.cls ∈ m_TW) (h5 : Cond.code y2 cc2 nL2 none ∈ m_TW) (hini : y2.name = "<init>") (hyd : y2.cls ≠ "java/lang/invoke/MethodHandle" ∧ y2.cls ≠ "java/lang/invoke/VarHandle" ∧ (parseMethodDescriptor y2.desc).map (fun d => d.parameters.length) = some n) (hn : As.length = n) (hdd : d + 1 ≤ dd) (hnL : nL2 ≤ 21) (hmc : kc + mc ≤ Mc) (hms : ks + ms ≤ Ms) (hst : st = As.reverse ++ .ref b :: rest) (hcat : (rest.map fun v => v.category).sum ≤ 8) (kk : ∀ (v : Option Value) (h' : Hp), Qv v h' → wp x M pc' lv (v.toList ++ rest) h' (kc + mc) (ks + ms)) (kx : ∀ (E : String) (h' : Hp), Xv E h' → wx x M pc lv E h' (kc + mc) (ks + ms)) : wp x M pc lv st h kc ks := by
  obtain ⟨p, l, e, R, s, m, args, below, meth, cd, Q, A, D, ca, aK, aV⟩ := x
  obtain ⟨own, cc, nL, y, ret, hh⟩ := M
  subst hp
  intro ok H locs ls L hw hS hl
  obtain ⟨r1, r2, r3, r4⟩ := hrm
  subst hst
  have hM := hsp l ok.2.2.2.2.2.2.2.2.2.2.2.1 D ca aK aV L H.size
  rw [m_cw0] at hM
  have hrun := vx_runI (e := e) (below := below) (meth := meth) (locs := locs) (cells := kc) (slots := ks) (g := F0 m pc ls (As.reverse ++ .ref b :: rest)) (rest := rest) ⟨ok.1, ok.2.1, ok.2.2.1, ok.2.2.2.1, ok.2.2.2.2.1⟩ hM (cwI n ok.2.2.2.2.1 (m_gC h5) rfl rfl rfl (ok.2.2.2.2.1 _ h4) (ok.2.2.2.2.1 _ h1) (ok.2.2.2.2.1 _ h2) hini hyd ⟨Nat.le_trans hdd r1, (show 8 + (nL2 + 11) + 40 * d ≤ R.locals by omega)⟩) ⟨m_pre_blind, fun U hU hW => ⟨rfl, m_go hw hS ok.2.2.2.2.2.1 ok.2.2.2.2.2.2.1 ok.2.2.2.2.2.2.2.2.2.2.2.2.1 U hU hW⟩⟩ rfl hn hl.1 rfl (lv_room hcat) hd ⟨Nat.le_trans hmc r3, Nat.le_trans hms r4⟩
  exact m_ret hw hS ok.2.2.2.2.2.2.2.1 hrun (fun v h' H1 locs1 L1 hq hw1 hS1 => kk v h' hq ok H1 locs1 ls L1 hw1 hS1 hl) (fun E h' H1 locs1 L1 q ce hq hgh hw1 hS1 g1 g2 g3 => kx E h' hq ok H1 locs1 ls L1 q ce rest hgh hw1 hS1 hl g1 g2 g3)
theorem w_callIN (hsp : ∀ l : Launch, Sp l (C, cc2, nL2, y2, none, []) d mc ms (.ref b :: As) h Qv Xv) (hrm : m_rm dd Mc Ms x) (hd : decode M.2.1 pc = .ok (.invokespecial index, 3)) (hp : pc + 3 = pc') (h1 : Cond.methodLinkNest M.1 index y2 host ∈ m_NW) (h2 : Cond.instanceMethod y2 ∈ m_TW) (h4 : Cond.initialized y2.cls ∈ m_TW) (h5 : Cond.code y2 cc2 nL2 none ∈ m_TW) (hini : y2.name = "<init>") (hyd : y2.cls ≠ "java/lang/invoke/MethodHandle" ∧ y2.cls ≠ "java/lang/invoke/VarHandle" ∧ (parseMethodDescriptor y2.desc).map (fun d => d.parameters.length) = some n) (hn : As.length = n) (hdd : d + 1 ≤ dd) (hnL : nL2 ≤ 21) (hmc : kc + mc ≤ Mc) (hms : ks + ms ≤ Ms) (hst : st = As.reverse ++ .ref b :: rest) (hcat : (rest.map fun v => v.category).sum ≤ 8) (kk : ∀ (v : Option Value) (h' : Hp), Qv v h' → wp x M pc' lv (v.toList ++ rest) h' (kc + mc) (ks + ms)) (kx : ∀ (E : String) (h' : Hp), Xv E h' → wx x M pc lv E h' (kc + mc) (ks + ms)) : wp x M pc lv st h kc ks := by
  obtain ⟨p, l, e, R, s, m, args, below, meth, cd, Q, A, D, ca, aK, aV⟩ := x
  obtain ⟨own, cc, nL, y, ret, hh⟩ := M
  subst hp
  intro ok H locs ls L hw hS hl
  obtain ⟨r1, r2, r3, r4⟩ := hrm
  subst hst
  have hM := hsp l ok.2.2.2.2.2.2.2.2.2.2.2.1 D ca aK aV L H.size
  rw [m_cw0] at hM
  have hrun := vx_runIN (e := e) (below := below) (meth := meth) (locs := locs) (cells := kc) (slots := ks) (g := F0 m pc ls (As.reverse ++ .ref b :: rest)) (rest := rest) ⟨ok.1, ok.2.1, ok.2.2.1, ok.2.2.2.1, ok.2.2.2.2.1⟩ hM ⟨va_cnB n ok.2.2.2.2.1 (m_gC h5) rfl rfl rfl (ok.2.2.2.2.2.2.1 _ h1) (ok.2.2.2.2.1 _ h4) hyd ⟨Nat.le_trans hdd r1, (show 8 + (nL2 + 11) + 40 * d ≤ R.locals by omega)⟩, hini, ok.2.2.2.2.1 _ h2⟩ ⟨m_pre_blind, fun U hU hW => ⟨rfl, m_go hw hS ok.2.2.2.2.2.1 ok.2.2.2.2.2.2.1 ok.2.2.2.2.2.2.2.2.2.2.2.2.1 U hU hW⟩⟩ rfl hn hl.1 rfl (lv_room hcat) hd ⟨Nat.le_trans hmc r3, Nat.le_trans hms r4⟩
  exact m_ret hw hS ok.2.2.2.2.2.2.2.1 hrun (fun v h' H1 locs1 L1 hq hw1 hS1 => kk v h' hq ok H1 locs1 ls L1 hw1 hS1 hl) (fun E h' H1 locs1 L1 q ce hq hgh hw1 hS1 g1 g2 g3 => kx E h' hq ok H1 locs1 ls L1 q ce rest hgh hw1 hS1 hl g1 g2 g3)
theorem w_objInit {a : Nat} (hrm : m_rm dd Mc Ms x) (hdd : 1 ≤ dd) (hd : decode M.2.1 pc = .ok (.invokespecial index, 3)) (hp : pc + 3 = pc') (h1 : Cond.methodLink M.1 index objectInit ∈ m_TW) (h2 : Cond.instanceMethod objectInit ∈ m_TW) (h5 : Cond.code objectInit ⟨#[0xb1]⟩ 1 none ∈ m_TW) (hcat : (st.map fun v => v.category).sum ≤ 8) (k : wp x M pc' lv st h kc ks) : wp x M pc lv (.ref a :: st) h kc ks := by
  obtain ⟨p, l, e, R, s, m, args, below, meth, cd, Q, A, D, ca, aK, aV⟩ := x
  obtain ⟨own, cc, nL, y, ret, hh⟩ := M
  subst hp
  intro ok H locs ls L hw hS hl
  obtain ⟨r1, r2, r3, r4⟩ := hrm
  refine W.objInit ok.1 ok.2.1 ok.2.2.2.1 (ok.2.2.2.2.1 _ h1) (ok.2.2.2.2.1 _ h2) (ok.2.2.2.2.1 _ h5) rfl (by rw [ok.2.2.1]; exact hl.1) rfl hd (by omega) ?_ ?_
  · have h9 := lv_room (m := m) (pc := pc) (ls := ls) (rest := .ref a :: st) hcat
    omega
  · exact W.eq (g2 := F0 m (pc + 3) ls st) rfl (k ok H locs ls L hw hS hl)
theorem m_new_E {ca : Nat → ClassId} {h : Hp} {q c : Nat} (hc : c < 15) : ∀ b, va_up (m_E ca h) q (.inr (c, m_f (n_O h q c) c q)) b = m_E ca (n_O h q c) b := by
  intro b
  by_cases hb : b = q
  · subst hb
    rw [va_up_self, m_E_o (c := c) (by show va_up (m_K h) b c b = c; rw [va_up_self]) hc]
  · rw [va_up_ne _ _ hb]
    have e0 : m_K (n_O h q c) b = m_K h b := va_up_ne _ _ hb
    have e1 : ∀ d k, m_v (n_O h q c) d b k = m_v h d b k := fun d k => by
      unfold m_v
      have f1 : m_I (n_O h q c) (d * 64 + k) b = m_I h (d * 64 + k) b := if_neg hb
      have f2 : m_J (n_O h q c) (d * 64 + k) b = m_J h (d * 64 + k) b := if_neg hb
      have f3 : m_R (n_O h q c) (d * 64 + k) b = m_R h (d * 64 + k) b := if_neg hb
      rw [f1, f2, f3]
    have e2 : ∀ d, m_f (n_O h q c) d b = m_f h d b := fun d => List.map_congr_left (fun k _ => e1 d k)
    unfold m_E
    rw [e0]
    simp only [e2]
    rfl
theorem w_new (hrm : m_rm dd Mc Ms x) (tyf : Nat → FieldType) (hd : decode M.2.1 pc = .ok (.new index, 3)) (hp : pc + 3 = pc') (h1 : Cond.classLink M.1 index C ∈ m_TW) (h2 : Cond.instantiable C N ∈ m_TW) (h3 : Cond.initialized C ∈ m_TW) (hcl : vwCl[ci]? = some (C, T, N)) (hc : ci < 15) (hN : (m_ty ci).length = N) (hin : ∀ w ∈ u_ws C T N, w ∈ m_TW) (hty : ∀ i, i < N → parseFieldDescriptor (T i).2.2.1 = some (tyf i)) (hdf : ∀ j, j < N → defaultValue (tyf j) = (match (m_ty ci).getD j 0 with | 0 => .int 0 | 1 => .long 0 | _ => .null)) (hmc : kc + 1 ≤ Mc) (hms : ks + N ≤ Ms)
    (k : ∀ q : Nat, ¬ m_K h q < 28 → wp x M pc' lv (.ref q :: st) (n_O h q ci) (kc + 1) (ks + N)) : wp x M pc lv st h kc ks := by
  obtain ⟨p, l, e, R, s, m, args, below, meth, cd, Q, A, D, ca, aK, aV⟩ := x
  obtain ⟨own, cc, nL, y, ret, hh⟩ := M
  subst hp
  intro ok H locs ls L hw hS hl
  obtain ⟨r1, r2, r3, r4⟩ := hrm
  have hv : ∀ (q j : Nat), j < N → defaultValue (tyf j) = vp_V (m_f (n_O h q ci) ci q) j := fun q j hj => by
    rw [hdf j hj]
    have e1 : (m_f (n_O h q ci) ci q)[j]? = some (m_v (n_O h q ci) ci q j) := m_f_get (by omega)
    have e2 : vp_V (m_f (n_O h q ci) ci q) j = m_v (n_O h q ci) ci q j := by
      unfold vp_V
      rw [List.getD_eq_getElem?_getD, e1]
      rfl
    rw [e2]
    unfold m_v
    have f1 : m_I (n_O h q ci) (ci * 64 + j) q = 0 := if_pos rfl
    have f2 : m_J (n_O h q ci) (ci * 64 + j) q = 0 := if_pos rfl
    have f3 : m_R (n_O h q ci) (ci * 64 + j) q = none := if_pos rfl
    rw [f1, f2, f3]
    generalize (m_ty ci).getD j 0 = z
    rcases z with _ | _ | z <;> rfl
  refine va_new ok.1 ok.2.1 ok.2.2.2.2.1 hin tyf hty ok.2.2.2.1 (ok.2.2.2.2.1 _ h1) (ok.2.2.2.2.1 _ h2) (ok.2.2.2.2.1 _ h3) ok.2.2.2.2.2.1 hw.1 hw.2.1 hS ok.2.2.2.2.2.2.2.1 hcl (fs := m_f (n_O h H.size ci) ci H.size) (hv H.size) (Nat.le_trans hmc r3) (Nat.le_trans hms r4) hd (fun q H1 hP1 hD1 hS1 => ?_)
  have hq : q ∉ L := fun z => by
    obtain ⟨k0, hk0⟩ := va_pl_get (X := []) (f := m_E ca h) z
    have hk0 : (va_pl L (m_E ca h))[k0]? = some (q, m_E ca h q) := hk0
    have l0 := (List.getElem?_eq_some_iff.mp hk0).1
    have g0 : (va_pl L (m_E ca h) ++ [(q, (.inr (ci, m_f (n_O h H.size ci) ci H.size) : va_E))])[k0]? = some (q, m_E ca h q) := by rw [List.getElem?_append_left l0]; exact hk0
    have g1 : (va_pl L (m_E ca h) ++ [(q, (.inr (ci, m_f (n_O h H.size ci) ci H.size) : va_E))])[(va_pl L (m_E ca h)).length]? = some (q, .inr (ci, m_f (n_O h H.size ci) ci H.size)) := by rw [List.getElem?_append_right (Nat.le_refl _), Nat.sub_self]; rfl
    have := hD1.1 _ _ _ _ g0 g1 rfl
    omega
  have ef : m_f (n_O h H.size ci) ci H.size = m_f (n_O h q ci) ci q := by
    unfold m_f
    refine List.map_congr_left (fun j _ => ?_)
    unfold m_v
    have f1 : ∀ u, m_I (n_O h u ci) (ci * 64 + j) u = 0 := fun u => if_pos rfl
    have f2 : ∀ u, m_J (n_O h u ci) (ci * 64 + j) u = 0 := fun u => if_pos rfl
    have f3 : ∀ u, m_R (n_O h u ci) (ci * 64 + j) u = none := fun u => if_pos rfl
    rw [f1, f2, f3, f1, f2, f3]
  rw [ef] at hP1 hD1
  exact k q (fun z => hq ((hw.2.2 q).mpr z)) ok H1 locs ls (L ++ [q]) (m_push hw hq (c := ci) (by omega) rfl (m_new_E hc) hP1 hD1) hS1 hl
theorem w_ldc {v : Int32} (hd : decode M.2.1 pc = .ok (.ldc index, 2)) (hp : pc + 2 = pc') (h1 : Cond.constant M.1 index v ∈ m_TW) (k : wp x M pc' lv (.int v :: st) h kc ks) : wp x M pc lv st h kc ks := by
  obtain ⟨p, l, e, R, s, m, args, below, meth, cd, Q, A, D, ca, aK, aV⟩ := x
  obtain ⟨own, cc, nL, y, ret, hh⟩ := M
  subst hp
  intro ok H locs ls L hw hS hl
  exact lv_ldc ok.1 ok.2.1 ok.2.2.2.1 (ok.2.2.2.2.1 _ h1) hd (k ok H locs ls L hw hS hl)
theorem w_ldc2 {v : Int64} (hd : decode M.2.1 pc = .ok (.ldc2_w index, 3)) (hp : pc + 3 = pc') (h1 : Cond.constantLong M.1 index v ∈ m_TW) (k : wp x M pc' lv (.long v :: st) h kc ks) : wp x M pc lv st h kc ks := by
  obtain ⟨p, l, e, R, s, m, args, below, meth, cd, Q, A, D, ca, aK, aV⟩ := x
  obtain ⟨own, cc, nL, y, ret, hh⟩ := M
  subst hp
  intro ok H locs ls L hw hS hl
  exact lv_ldc2 ok.1 ok.2.1 ok.2.2.2.1 (ok.2.2.2.2.1 _ h1) hd (k ok H locs ls L hw hS hl)
end K14
