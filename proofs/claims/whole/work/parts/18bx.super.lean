/-! THE SUPERCLASS'S CONSTRUCTOR OF THE LAW'S OWN EXCEPTION: a fresh object's monitor is free -/
def mfree (b : Nat) (H : Heap) : Prop := ∀ cell : Cell, H[b]? = some cell → cell.monitor.owner = none ∧ cell.monitor.count = 0
def wm (b : Nat) (x : Cxt) (M : MI) (pc : Nat) (lv : List (Nat × Value)) (st : List Value) (h : Hp) (kc ks : Nat) : Prop := match x, M with
  | (p, l, e, R, s, m, args, below, meth, c, Q, A, D, ca, aK, aV), (own, cc, nL, y, ret, hh) =>
    okc (p, l, e, R, s, m, args, below, meth, c, Q, A, D, ca, aK, aV) (own, cc, nL, y, ret, hh) → ∀ (H : Heap) (locs : List Loc) (ls : Array Slot) (L : List Nat), m_W D ca h L A H → va_S A s.heap H locs → lv_has ls nL lv → mfree b H → W p l e R s m args below meth c H locs kc ks Q (F0 m pc ls st)
section K21
variable {b : Nat} {x : Cxt} {M : MI} {pc pc' : Nat} {lv lv' : List (Nat × Value)} {st : List Value} {h : Hp} {kc ks : Nat}
variable {index n d dd mc ms Mc Ms nL2 ci N : Nat} {C host : String} {T : u_T} {cc2 : ByteArray} {y2 : MethodName} {As rest : List Value} {Qv : Option Value → Hp → Prop} {Xv : String → Hp → Prop}
theorem wm_iconst {n : Int} (v : Int32) (hd : decode M.2.1 pc = .ok (.iconst n, 1)) (hp : pc + 1 = pc') (hv : Int32.ofInt n = v) (k : wm b x M pc' lv (.int v :: st) h kc ks) : wm b x M pc lv (st) h kc ks := by
  obtain ⟨p, l, e, R, s, m, args, below, meth, cd, Q, A, D, ca, aK, aV⟩ := x
  obtain ⟨own, cc, nL, y, ret, hh⟩ := M
  subst hp
  intro ok H locs ls L hw hS hl hm
  exact lv_iconst ok.1 ok.2.1 hd hv (k ok H locs ls L hw hS hl hm)
theorem wm_aload_n {j : Fin 4} {i : Nat} {v : Nat} (k0 : Nat) (hd : decode M.2.1 pc = .ok (.aload_n j, 1)) (hp : pc + 1 = pc') (hi : (j : Nat) = i) (hv : lv[k0]? = some (i, .ref v)) (k : wm b x M pc' lv (.ref v :: st) h kc ks) : wm b x M pc lv st h kc ks := by
  obtain ⟨p, l, e, R, s, m, args, below, meth, cd, Q, A, D, ca, aK, aV⟩ := x
  obtain ⟨own, cc, nL, y, ret, hh⟩ := M
  subst hp
  intro ok H locs ls L hw hS hl hm
  exact lv_aload_n ok.1 ok.2.1 hd hi (lv_at hl k0 hv) (k ok H locs ls L hw hS hl hm)
theorem wm_iload_n {j : Fin 4} {i : Nat} {v : Int32} (k0 : Nat) (hd : decode M.2.1 pc = .ok (.iload_n j, 1)) (hp : pc + 1 = pc') (hi : (j : Nat) = i) (hv : lv[k0]? = some (i, .int v)) (k : wm b x M pc' lv (.int v :: st) h kc ks) : wm b x M pc lv st h kc ks := by
  obtain ⟨p, l, e, R, s, m, args, below, meth, cd, Q, A, D, ca, aK, aV⟩ := x
  obtain ⟨own, cc, nL, y, ret, hh⟩ := M
  subst hp
  intro ok H locs ls L hw hS hl hm
  exact lv_iload_n ok.1 ok.2.1 hd hi (lv_at hl k0 hv) (k ok H locs ls L hw hS hl hm)
theorem wm_dup {v : Value} (hd : decode M.2.1 pc = .ok (.dup, 1)) (hp : pc + 1 = pc') (hv : v.category = 1) (k : wm b x M pc' lv (v :: v :: st) h kc ks) : wm b x M pc lv (v :: st) h kc ks := by
  obtain ⟨p, l, e, R, s, m, args, below, meth, cd, Q, A, D, ca, aK, aV⟩ := x
  obtain ⟨own, cc, nL, y, ret, hh⟩ := M
  subst hp
  intro ok H locs ls L hw hS hl hm
  exact lv_dup ok.1 ok.2.1 hd hv (k ok H locs ls L hw hS hl hm)
theorem wm_iald {a : Nat} {i : Int32} {v : Int32} (hd : decode M.2.1 pc = .ok (.iaload, 1)) (hp : pc + 1 = pc') (hk : m_K h a = 20) (hin : vp_in i (m_N h a)) (hv : m_X h a i.toNatClampNeg = v) (k : wm b x M pc' lv (.int v :: st) h kc ks) : wm b x M pc lv (.int i :: .ref a :: st) h kc ks := by
  subst hv
  obtain ⟨p, l, e, R, s, m, args, below, meth, cd, Q, A, D, ca, aK, aV⟩ := x
  obtain ⟨own, cc, nL, y, ret, hh⟩ := M
  subst hp
  intro ok H locs ls L hw hS hl hm
  obtain ⟨k0, hk0⟩ := m_at hw hk (by omega)
  rw [m_E_20 hk] at hk0
  exact va_iald ok.1 ok.2.1 ok.2.2.2.2.2.1 hw.1 k0 0 hk0 rfl hin hd (k ok H locs ls L hw hS hl hm)
theorem wm_get {a index c j N : Nat} {ref C n0 d0 : String} {T : u_T} (hd : decode M.2.1 pc = .ok (.getfield index, 3)) (hp : pc + 3 = pc') (hlk : Cond.fieldLink M.1 index ref n0 d0 ∈ m_TW) (hcl : vwCl[c]? = some (C, T, N)) (hT : T j = (ref, n0, d0, (T j).2.2.2)) (hj : j < N) (hN : (m_ty c).length = N) (hc : c < 15) (hin : ∀ w ∈ u_ws C T N, w ∈ m_TW) (hk : m_K h a = c) (k : wm b x M pc' lv (m_v h c a j :: st) h kc ks) : wm b x M pc lv (.ref a :: st) h kc ks := by
  obtain ⟨p, l, e, R, s, m, args, below, meth, cd, Q, A, D, ca, aK, aV⟩ := x
  obtain ⟨own, cc, nL, y, ret, hh⟩ := M
  subst hp
  intro ok H locs ls L hw hS hl hm
  obtain ⟨k0, hk0⟩ := m_at hw hk (by omega)
  rw [m_E_o hk hc] at hk0
  exact va_get ok.1 ok.2.1 ok.2.2.2.2.1 hin ok.2.2.2.1 ok.2.2.2.2.2.1 hw.1 k0 hk0 hcl j hj (ref := ref) (by rw [hT]; exact (ok.2.2.2.2.1 _ hlk)) (fun q hq => by rw [hT] at hq ⊢; exact hq) (m_f_get (by omega)) hd (k ok H locs ls L hw hS hl hm)
theorem gm_X14_27 {cc : ByteArray} {nL : Nat} {y : MethodName} {ret : Option FieldType} {hh : List (Nat × Nat × Nat × Nat)} {a b2 : Nat} (hd : decode cc pc = .ok (.getfield 27, 3)) (hp : pc + 3 = pc') (hk : m_K h a = 14) (hr : m_R h 903 a = some b2) (k : wm b x (RX14, cc, nL, y, ret, hh) pc' lv (.ref b2 :: st) h kc ks) : wm b x (RX14, cc, nL, y, ret, hh) pc lv (.ref a :: st) h kc ks := wm_get (C := RX14) (T := TX14) (N := 59) (j := 7) hd hp fl_X14_27 rfl rfl (by decide) rfl (by decide) in_X14 hk (by rw [show m_v h 14 a 7 = va_rf (m_R h 903 a) from rfl, hr]; exact k)
theorem gm_X14_204 {cc : ByteArray} {nL : Nat} {y : MethodName} {ret : Option FieldType} {hh : List (Nat × Nat × Nat × Nat)} {a : Nat} {v : Int32} (hd : decode cc pc = .ok (.getfield 204, 3)) (hp : pc + 3 = pc') (hk : m_K h a = 14) (hv : m_I h 905 a = v) (k : wm b x (RX14, cc, nL, y, ret, hh) pc' lv (.int v :: st) h kc ks) : wm b x (RX14, cc, nL, y, ret, hh) pc lv (.ref a :: st) h kc ks := wm_get (C := RX14) (T := TX14) (N := 59) (j := 9) hd hp fl_X14_204 rfl rfl (by decide) rfl (by decide) in_X14 hk (by subst hv; exact k)
section VAL9
variable {p : Program} {l : Launch} {e : Env} {R : Room} {s : State} {m : MethodId} {args : Array Value} {below : List Frame} {meth : Method} {c : Code} {H : Heap} {locs : List Loc} {cells slots : Nat} {Q : State → Prop}
variable {cc : ByteArray} {pc : Nat} {ls : Array Slot} {rest : List Value} {D : va_G} {cl : List vw_C} {A : Nat → Prop} {a : Nat} {tys : List (ClassId × FieldType)} {ws : va_W} {H0 : Heap}
/-- the kit's row of 'new', which tells of the monitor too -/
theorem va_newM {c0 : Code} (hexec : p.tables.exec = Jvm.exec) (hb : c0.code = cc) {own C : String} {T : u_T} {N ci index : Nat} {Ts : List Cond} (hts : ∀ w ∈ Ts, w.before args s = true) (hin : ∀ w ∈ u_ws C T N, w ∈ Ts) (ty : Nat → FieldType) (hty : ∀ k, k < N → parseFieldDescriptor (T k).2.2.1 = some (ty k)) (hown : s.vm.findClass own = some m.cls) (hcl : (Cond.classLink own index C).before args s = true) (hinst : (Cond.instantiable C N).before args s = true) (hini : (Cond.initialized C).before args s = true)
    (hK : va_K D cl tys s) (hP : va_P D cl ws H) (hD : va_D A ws) (hS : va_S A H0 H locs) (hA : ∀ q, H0.size ≤ q → A q) (hc : cl[ci]? = some (C, T, N)) {fs : List Value} (hfs : ∀ j, j < N → defaultValue (ty j) = vp_V fs j) (hcells : cells + 1 ≤ R.cells) (hslots : slots + N ≤ R.slots) (hdg : decode cc pc = .ok (.new index, 3))
    (kk : ∀ (q : Nat) (H1 : Heap), va_P D cl (ws ++ [(q, .inr (ci, fs))]) H1 → va_D A (ws ++ [(q, .inr (ci, fs))]) → va_S A H0 H1 locs → mfree q H1 →
      W p l e R s m args below meth c0 H1 locs (cells + 1) (slots + N) Q (F0 m (pc + 3) ls (.ref q :: rest))) : W p l e R s m args below meth c0 H locs cells slots Q (F0 m pc ls rest) := by
  have hKn := hK.1 ci _ hc
  refine W.newcK hexec hb hown hcl hinst hini rfl hdg hcells hslots hKn.2.1 rfl fun H1 kC hkC e1 z1 o1 => ?_
  have hk : ∀ (k : Nat) (x : Nat × va_E), ws[k]? = some x → H1[x.1]? = H[x.1]? := fun k x hx => o1 x.1 ((hP k x hx).lt)
  refine kk H.size H1 ((hP.kept hk).app (fun k x hx => ?_)) (hD.push hP rfl (hA _ hS.1)) ⟨Nat.le_trans hS.1 (by omega), fun x h1 h2 => (o1 x (Nat.lt_of_lt_of_le h1 hS.1)).trans (hS.2.1 x h1 h2), hS.2.2⟩ (fun cell hcell => ?_)
  · have hz : k < 1 := (List.getElem?_eq_some_iff.mp hx).1
    rw [show k = 0 by omega] at hx
    cases hx
    exact ⟨_, hc, (u_born ty hts hin hKn hkC e1 hty).to hfs⟩
  · cases Option.some.inj (hcell.symm.trans e1)
    exact ⟨rfl, rfl⟩
end VAL9
theorem wm_new (hrm : m_rm dd Mc Ms x) (tyf : Nat → FieldType) (hd : decode M.2.1 pc = .ok (.new index, 3)) (hp : pc + 3 = pc') (h1 : Cond.classLink M.1 index C ∈ m_TW) (h2 : Cond.instantiable C N ∈ m_TW) (h3 : Cond.initialized C ∈ m_TW) (hcl : vwCl[ci]? = some (C, T, N)) (hc : ci < 15) (hN : (m_ty ci).length = N) (hin : ∀ w ∈ u_ws C T N, w ∈ m_TW) (hty : ∀ i, i < N → parseFieldDescriptor (T i).2.2.1 = some (tyf i)) (hdf : ∀ j, j < N → defaultValue (tyf j) = (match (m_ty ci).getD j 0 with | 0 => .int 0 | 1 => .long 0 | _ => .null)) (hmc : kc + 1 ≤ Mc) (hms : ks + N ≤ Ms)
    (k : ∀ q : Nat, ¬ m_K h q < 28 → wm q x M pc' lv (.ref q :: st) (n_O h q ci) (kc + 1) (ks + N)) : wp x M pc lv st h kc ks := by
  obtain ⟨p, l, e, R, s, m, args, below, meth, cd, Q, A, D, ca, aK, aV⟩ := x
  obtain ⟨own, cc, nL, y, ret, hh⟩ := M
  subst hp
  intro ok H locs ls L hw hS hl
  obtain ⟨r1, r2, r3, r4⟩ := hrm
  have hv : ∀ (q j : Nat), j < N → defaultValue (tyf j) = vp_V (m_f (n_O h q ci) ci q) j := fun q j hj => by
    rw [hdf j hj]
    have e1 : (m_f (n_O h q ci) ci q)[j]? = some (m_v (n_O h q ci) ci q j) := m_f_get (by omega)
    have e2 : vp_V (m_f (n_O h q ci) ci q) j = m_v (n_O h q ci) ci q j := by
      unfold vp_V
      rw [List.getD_eq_getElem?_getD, e1]
      rfl
    rw [e2]
    unfold m_v
    have f1 : m_I (n_O h q ci) (ci * 64 + j) q = 0 := if_pos rfl
    have f2 : m_J (n_O h q ci) (ci * 64 + j) q = 0 := if_pos rfl
    have f3 : m_R (n_O h q ci) (ci * 64 + j) q = none := if_pos rfl
    rw [f1, f2, f3]
    generalize (m_ty ci).getD j 0 = z
    rcases z with _ | _ | z <;> rfl
  refine va_newM ok.1 ok.2.1 ok.2.2.2.2.1 hin tyf hty ok.2.2.2.1 (ok.2.2.2.2.1 _ h1) (ok.2.2.2.2.1 _ h2) (ok.2.2.2.2.1 _ h3) ok.2.2.2.2.2.1 hw.1 hw.2.1 hS ok.2.2.2.2.2.2.2.1 hcl (fs := m_f (n_O h H.size ci) ci H.size) (hv H.size) (Nat.le_trans hmc r3) (Nat.le_trans hms r4) hd (fun q H1 hP1 hD1 hS1 hm1 => ?_)
  have hq : q ∉ L := fun z => by
    obtain ⟨k0, hk0⟩ := va_pl_get (X := []) (f := m_E ca h) z
    have hk0 : (va_pl L (m_E ca h))[k0]? = some (q, m_E ca h q) := hk0
    have l0 := (List.getElem?_eq_some_iff.mp hk0).1
    have g0 : (va_pl L (m_E ca h) ++ [(q, (.inr (ci, m_f (n_O h H.size ci) ci H.size) : va_E))])[k0]? = some (q, m_E ca h q) := by rw [List.getElem?_append_left l0]; exact hk0
    have g1 : (va_pl L (m_E ca h) ++ [(q, (.inr (ci, m_f (n_O h H.size ci) ci H.size) : va_E))])[(va_pl L (m_E ca h)).length]? = some (q, .inr (ci, m_f (n_O h H.size ci) ci H.size)) := by rw [List.getElem?_append_right (Nat.le_refl _), Nat.sub_self]; rfl
    have := hD1.1 _ _ _ _ g0 g1 rfl
    omega
  have ef : m_f (n_O h H.size ci) ci H.size = m_f (n_O h q ci) ci q := by
    unfold m_f
    refine List.map_congr_left (fun j _ => ?_)
    unfold m_v
    have f1 : ∀ u, m_I (n_O h u ci) (ci * 64 + j) u = 0 := fun u => if_pos rfl
    have f2 : ∀ u, m_J (n_O h u ci) (ci * 64 + j) u = 0 := fun u => if_pos rfl
    have f3 : ∀ u, m_R (n_O h u ci) (ci * 64 + j) u = none := fun u => if_pos rfl
    rw [f1, f2, f3, f1, f2, f3]
  rw [ef] at hP1 hD1
  exact k q (fun z => hq ((hw.2.2 q).mpr z)) ok H1 locs ls (L ++ [q]) (m_push hw hq (c := ci) (by omega) rfl (m_new_E hc) hP1 hD1) hS1 hl hm1
/-- a contract whose object is fresh -/
def SpM (l : Launch) (M : MI) (d mc ms : Nat) (b : Nat) (av : List Value) (h : Hp) (Qv : Option Value → Hp → Prop) (Xv : String → Hp → Prop) : Prop :=
  l.stackTraces = false → ∀ (D : va_G) (ca : Nat → ClassId) (aK aV : Nat → Nat) (L : List Nat) (sz : Nat), vx_Met l M.2.2.2.1 (m_cw M :: m_TW) (m_room d mc ms) (va_Pc av (fun U => m_pre D ca aK aV h L sz U ∧ mfree b U.heap)) (m_Qc D ca (va_A (va_pl L (m_E ca h)) sz) Qv) (m_Xc D ca (va_A (va_pl L (m_E ca h)) sz) Xv) mc ms (va_A (va_pl L (m_E ca h)) sz)
theorem m_pre_blindM {av : List Value} {D : va_G} {ca : Nat → ClassId} {aK aV : Nat → Nat} {h : Hp} {L : List Nat} {sz b : Nat} : FrameBlind (va_Pc av (fun U => m_pre D ca aK aV h L sz U ∧ mfree b U.heap)) := by
  intro a U g mk q
  obtain ⟨q0, q1, q2⟩ := q
  exact ⟨q0, (m_pre_blind (av := av) a U g mk ⟨q0, q1⟩).2, q2⟩
theorem SpM.of {l : Launch} {own : String} {cc : ByteArray} {nL : Nat} {y : MethodName} {ret : Option FieldType} {d mc ms b : Nat} {av : List Value} {h : Hp} {Qv : Option Value → Hp → Prop} {Xv : String → Hp → Prop} (hy : plainName y.cls = true) (ho : y.cls = own) {lv : List (Nat × Value)} (hn : (lg_sl av).length ≤ nL) (hl : lv_args 0 av = lv)
    (body : ∀ x : Cxt, m_fin mc ms Qv Xv x → m_rm d mc ms x → wm b x (own, cc, nL, y, ret, []) 0 lv [] h 0 0) : SpM l (own, cc, nL, y, ret, []) d mc ms b av h Qv Xv := by
  intro hst D ca aK aV L sz
  refine vx_ofW (cc := cc) (maxL := nL) (ret := ret) hy rfl ?_
  intro p e s m args below meth c s₁ B hml hxt hv
  obtain ⟨rfl, ⟨hsz, hW0, hK, hN, hE⟩, hmf⟩ := hv
  have hts := atoms_spec (ws := m_cw (own, cc, nL, y, ret, []) :: m_TW) B.pre
  have hown : s.vm.findClass own = some m.cls := by rw [← ho]; exact findClass_of_methodNamed B.named
  subst hsz
  subst hl
  have hD := hW0.2.1.self (sz := s.heap.size)
  have hle := lv_entry av (n := nL) hn
  rw [lg_entry_eq]
  generalize (lg_sl av ++ List.replicate (nL - (lg_sl av).length) Slot.unset).toArray = ls at hle ⊢
  have hx : c.exceptionTable.toList = tableOf [] := by
    cases hc : c.exceptionTable.toList with
    | nil => rfl
    | cons z zs => exact (hxt z (by rw [hc]; exact List.mem_cons_self)).elim
  exact body (p, l, e, _, s, m, av.toArray, below, meth, c, _, va_A (va_pl L (m_E ca h)) s.heap.size, D, ca, aK, aV) rfl ⟨Nat.le_refl _, Nat.le_refl _, Nat.le_refl _, Nat.le_refl _⟩ ⟨B.exec, B.bytes, hml, hown, fun w hw => hts w (List.mem_cons_of_mem _ hw), hK, hN, fun q hq => Or.inr hq, B.returns, B.notSynchronized, (name_of_methodNamed B.named B.method).1, hst, m_ex.widen (fun q hq => m_plA.mp hq) hE, hx⟩ s.heap [] ls L ⟨hW0.1, hD, hW0.2.2⟩ va_S.rf hle hmf
theorem wm_callIN (hsp : ∀ l : Launch, SpM l (C, cc2, nL2, y2, none, []) d mc ms b (.ref b :: As) h Qv Xv) (hrm : m_rm dd Mc Ms x) (hd : decode M.2.1 pc = .ok (.invokespecial index, 3)) (hp : pc + 3 = pc') (h1 : Cond.methodLinkNest M.1 index y2 host ∈ m_NW) (h2 : Cond.instanceMethod y2 ∈ m_TW) (h4 : Cond.initialized y2.cls ∈ m_TW) (h5 : Cond.code y2 cc2 nL2 none ∈ m_TW) (hini : y2.name = "<init>") (hyd : y2.cls ≠ "java/lang/invoke/MethodHandle" ∧ y2.cls ≠ "java/lang/invoke/VarHandle" ∧ (parseMethodDescriptor y2.desc).map (fun d => d.parameters.length) = some n) (hn : As.length = n) (hdd : d + 1 ≤ dd) (hnL : nL2 ≤ 21) (hmc : kc + mc ≤ Mc) (hms : ks + ms ≤ Ms) (hst : st = As.reverse ++ .ref b :: rest) (hcat : (rest.map fun v => v.category).sum ≤ 8) (kk : ∀ (v : Option Value) (h' : Hp), Qv v h' → wp x M pc' lv (v.toList ++ rest) h' (kc + mc) (ks + ms)) (kx : ∀ (E : String) (h' : Hp), Xv E h' → wx x M pc lv E h' (kc + mc) (ks + ms)) : wm b x M pc lv st h kc ks := by
  obtain ⟨p, l, e, R, s, m, args, below, meth, cd, Q, A, D, ca, aK, aV⟩ := x
  obtain ⟨own, cc, nL, y, ret, hh⟩ := M
  subst hp
  intro ok H locs ls L hw hS hl hm
  obtain ⟨r1, r2, r3, r4⟩ := hrm
  subst hst
  have hM := hsp l ok.2.2.2.2.2.2.2.2.2.2.2.1 D ca aK aV L H.size
  rw [m_cw0] at hM
  have hrun := vx_runIN (e := e) (below := below) (meth := meth) (locs := locs) (cells := kc) (slots := ks) (g := F0 m pc ls (As.reverse ++ .ref b :: rest)) (rest := rest) ⟨ok.1, ok.2.1, ok.2.2.1, ok.2.2.2.1, ok.2.2.2.2.1⟩ hM ⟨va_cnB n ok.2.2.2.2.1 (m_gC h5) rfl rfl rfl (ok.2.2.2.2.2.2.1 _ h1) (ok.2.2.2.2.1 _ h4) hyd ⟨Nat.le_trans hdd r1, (show 8 + (nL2 + 11) + 40 * d ≤ R.locals by omega)⟩, hini, ok.2.2.2.2.1 _ h2⟩ ⟨m_pre_blindM, fun U hU hW => ⟨rfl, m_go hw hS ok.2.2.2.2.2.1 ok.2.2.2.2.2.2.1 ok.2.2.2.2.2.2.2.2.2.2.2.2.1 U hU hW, (by rw [hU]; exact hm)⟩⟩ rfl hn hl.1 rfl (lv_room hcat) hd ⟨Nat.le_trans hmc r3, Nat.le_trans hms r4⟩
  exact m_ret hw hS ok.2.2.2.2.2.2.2.1 hrun (fun v h' H1 locs1 L1 hq hw1 hS1 => kk v h' hq ok H1 locs1 ls L1 hw1 hS1 hl) (fun E h' H1 locs1 L1 q ce hq hgh hw1 hS1 g1 g2 g3 => kx E h' hq ok H1 locs1 ls L1 q ce rest hgh hw1 hS1 hl g1 g2 g3)
end K21
/-- the frame from a rebased start, what was written kept -/
theorem vx_back8 {p : Program} {l : Launch} {e : Env} {R : Room} {s : State} {m : MethodId} {args : Array Value} {below : List Frame} {meth : Method} {c : Code} {locs : List Loc} {cells slots : Nat} {T S : State} {R' : Room} {k n : Nat} {L9 : List Loc} (X : Stand p l e R s m args below meth c T locs cells slots) (Y : Stand p l e R' ((T.setVm s.vm).setFrames (.invoking m args :: below)) m args below meth c T [] 0 0) (Z : Stand p l e R' ((T.setVm s.vm).setFrames (.invoking m args :: below)) m args below meth c S L9 k n) :
    Stand p l e R s m args below meth c S (locs ++ L9) (cells + k) (slots + n) := by
  have hW0 : s.WarmedH ((T.setVm s.vm).setFrames (.invoking m args :: below)).vm := State.WarmedH.refl s
  refine { admits := X.admits, cas := X.cas, clock := X.clock, frames := X.frames, room := X.room, hears := X.hears, method := X.method, code := X.code, here := Z.here, tail := Z.tail, warmed := State.WarmedH.trans hW0 Z.warmed, limits := Z.limits.trans (Y.limits.symm.trans X.limits), bytes := Z.bytes.trans (Y.bytes.symm.trans X.bytes), same := ?_ }
  obtain ⟨e1, e2⟩ := Z.same
  rw [State.setFrames_setFrames] at e1
  have h2 : (T.setVm s.vm).sameButNew (S.setVm s.vm) L9 k n := ⟨e1, e2⟩
  exact X.same.trans h2
def x_L13 : List Cond := Bundle.throwableAtoms ++ Bundle.chain0Atoms "java/lang/RuntimeException" ["java/lang/Exception"] ++ [.methodLink RX13 1 (Bundle.init0 "java/lang/RuntimeException"), .selects RX13 Bundle.tFill0 Bundle.tFill0, .selects RX13 Bundle.tFill Bundle.tFill, .lays RX13 Bundle.tN "cause" "Ljava/lang/Throwable;", .lays RX13 Bundle.tN "stackTrace" Bundle.steD, .lays RX13 Bundle.tN "suppressedExceptions" Bundle.listD, .isRef (.static Bundle.tN "UNASSIGNED_STACK" Bundle.steD), .isRef (.static Bundle.tN "SUPPRESSED_SENTINEL" Bundle.listD), .fieldLink Bundle.tN 198 Bundle.tN "backtrace" "Ljava/lang/Object;", .lays Bundle.tN Bundle.tN "backtrace" "Ljava/lang/Object;"]
theorem x_at13 : ∀ w ∈ (x_L13.filter vx_no).filter goodWord, w ∈ m_TW := fun w h => m_in ((show ∀ w ∈ (x_L13.filter vx_no).filter goodWord, w ∈ lw_tbl by decide +kernel) w h) (List.mem_filter.mp h).2
theorem x_ng13 : ∀ w ∈ (x_L13.filter vx_no).filter (fun w => !goodWord w), w ∈ [Cond.declares ⟨"java/lang/RuntimeException", "<init>", "()V"⟩, Cond.declares ⟨"java/lang/Exception", "<init>", "()V"⟩, Cond.declares ⟨"java/lang/Throwable", "<init>", "()V"⟩] := by decide +kernel
theorem x_ot13 : ∀ w ∈ x_L13.filter vx_no, vx_ot w = true := by decide +kernel
theorem x_li13 {w : Cond} (h : w ∈ [Cond.methodLink RX13 1 (Bundle.init0 "java/lang/RuntimeException"), .selects RX13 Bundle.tFill0 Bundle.tFill0, .selects RX13 Bundle.tFill Bundle.tFill, .lays RX13 Bundle.tN "cause" "Ljava/lang/Throwable;", .lays RX13 Bundle.tN "stackTrace" Bundle.steD, .lays RX13 Bundle.tN "suppressedExceptions" Bundle.listD, .isRef (.static Bundle.tN "UNASSIGNED_STACK" Bundle.steD), .isRef (.static Bundle.tN "SUPPRESSED_SENTINEL" Bundle.listD), .fieldLink Bundle.tN 198 Bundle.tN "backtrace" "Ljava/lang/Object;", .lays Bundle.tN Bundle.tN "backtrace" "Ljava/lang/Object;"]) : w ∈ x_L13 := List.mem_append_right _ h
def rfO (u : RefV) : Option Nat := match u.v with
  | .ref a => some a
  | _ => none
theorem rfO_v (u : RefV) : va_rf (rfO u) = u.v := by
  obtain ⟨v, h⟩ := u
  cases v <;> first | rfl | (simp [Value.isRef] at h; done)
theorem m_f_R (ca : Nat → ClassId) {h : Hp} {c a k : Nat} {v : Option Nat} (hK : m_K h a = c) (hc : c < 15) (hk : k < (m_ty c).length) (ht : (m_ty c).getD k 0 = 2) : m_f (p_R h (c * 64 + k) a v) c a = (m_f h c a).set k (va_rf v) := by
  have z := m_putR (ca := ca) (v := v) hK hc hk ht a
  rw [m_E_o (h := p_R h (c * 64 + k) a v) hK hc] at z
  have z2 : (Sum.inr (c, (m_f h c a).set k (va_rf v)) : va_E) = .inr (c, m_f (p_R h (c * 64 + k) a v) c a) := (if_pos rfl).symm.trans z
  exact (Prod.mk.inj (Sum.inr.inj z2)).2.symm
set_option maxHeartbeats 2000000 in
theorem w_super13 {x : Cxt} {b : Nat} {lv : List (Nat × Value)} {h : Hp} {kc ks dd Mc Ms : Nat} (hrm : m_rm dd Mc Ms x) (hdd : 8 ≤ dd) (hmc : kc ≤ Mc) (hms : ks ≤ Ms) (hb : m_K h b = 13) (hbt : m_R h 836 b = none)
    (k : ∀ r1 r2 : Option Nat, wp x mX13_init 4 lv [] (p_R (p_R (p_R (p_R h 832 b (some b)) 833 b r1) 834 b r2) 833 b r1) kc ks) : wm b x mX13_init 1 lv [.ref b] h kc ks := by
  obtain ⟨p, l, e, R, s, m, args, below, meth, c, Q, A, D, ca, aK, aV⟩ := x
  intro ok H locs ls L hw hS hl hm
  obtain ⟨r1, r2, r3, r4⟩ := hrm
  intro T hT X
  subst hT
  have hexec := ok.1
  have htr : e.platform.stackTraces = false := (show e.platform.stackTraces = l.stackTraces by rw [X.admits.platform]).trans ok.2.2.2.2.2.2.2.2.2.2.2.1
  have hE := ok.2.2.2.2.2.2.2.2.2.2.2.2.1
  have Y := vx_rebase X (R' := { frames := R.frames, locals := R.locals, cells := 0, slots := 0 }) (Nat.le_refl _) (Nat.le_refl _) (show kc + 0 ≤ R.cells by omega) (show ks + 0 ≤ R.slots by omega)
  obtain ⟨s', hA'⟩ : ∃ z, z = (T.setVm s.vm).setFrames (.invoking m args :: below) := ⟨_, rfl⟩
  rw [← hA'] at Y
  have hvm : s'.vm = s.vm := by rw [hA']; rfl
  have hhp : s'.heap = T.heap := by rw [hA']; rfl
  have hW0 : s.WarmedH s'.vm := by rw [hvm]; exact State.WarmedH.refl s
  have hat : ∀ w ∈ x_L13.filter vx_no, w.before args s = true := vx_hat (fun w hw => ok.2.2.2.2.1 w (x_at13 w hw)) x_ng13 (vx_c (va_Nw.use rfl (ok.2.2.2.2.2.2.1 _ x_deRE)) (vx_c (va_Nw.use rfl (ok.2.2.2.2.2.2.1 _ x_deEX)) (vx_c (va_Nw.use rfl (ok.2.2.2.2.2.2.1 _ x_deTH)) vx_n)))
  have hat' : ∀ w ∈ x_L13.filter vx_no, w.before args s' = true := fun w hw => vx_ot_at hW0 hvm.symm (x_ot13 w hw) (hat w hw)
  have hU' : vx_Zq Bundle.tN "UNASSIGNED_STACK" Bundle.steD A s' s'.heap := by rw [hhp]; exact vx_Zq.moved hW0.alike (hE.1.1.kept hS.2.1)
  have hN' : vx_Zq Bundle.tN "SUPPRESSED_SENTINEL" Bundle.listD A s' s'.heap := by rw [hhp]; exact vx_Zq.moved hW0.alike (hE.1.2.kept hS.2.1)
  have hwd : ∀ w ∈ x_L13, w.before args s' = true := vx_own hat' (vx_isRefq hU'.1) (vx_isRefq hN'.1) hU'.2.word hN'.2.word
  have a' : ∀ w, w ∈ x_L13 → w.holds args s' none s' [] = true := fun w hw => hwd w hw
  have howns : e.platform.frameOwnsMonitors = true := by rw [X.admits.platform]
  have hfin : e.platform.finalization = false := by rw [X.admits.platform]
  have hpl : e.platform.magicAccessors = ({} : Platform).magicAccessors := by rw [X.admits.platform]
  obtain ⟨T0, Z, L0, LZ, Yt⟩ := ThrowableC.of_atoms (args := args) (s := s') howns hfin hpl (fun w hw => hwd w (List.mem_append_left _ (List.mem_append_left _ hw)))
  obtain ⟨P1, Ps, hlen, L1, hL, hP1m, hlink1, hlink⟩ := Bundle.chain0 (args := args) (s := s') hpl Yt.init0 ["java/lang/Exception"] "java/lang/RuntimeException" (by decide +kernel) (fun n hn => by rcases List.mem_singleton.mp hn with rfl; decide +kernel) (fun w hw => hwd w (List.mem_append_left _ (List.mem_append_right _ hw)))
  obtain ⟨k0, hk0⟩ := m_at hw hb (by omega)
  have hk1 := hk0
  rw [m_E_o hb (by decide)] at hk1
  obtain ⟨r, hr, cell, c1, c2, c3, c4⟩ := hw.1 k0 _ hk1
  have hr2 : r = (RX13, TX13, 8) := Option.some.inj (hr.symm.trans rfl)
  subst hr2
  obtain ⟨hSl, hfc, kX, hkX, hord⟩ := ok.2.2.2.2.2.1.1 13 _ hr
  have hfc' : s'.vm.findClass RX13 = some (D.1 13) := by rw [hvm]; exact hfc
  have hkX' : s'.vm.classes[D.1 13]? = some kX := by rw [hvm]; exact hkX
  have hap := va_apart (own := RX13) ok.2.2.2.2.1 in_X13 tyX13 tyX13_ok nmX13 ok.2.2.2.2.2.1 hr
  obtain ⟨hfree, hcount⟩ := hm cell c1
  have hsel0 : selectMethod e.platform s'.vm cell.cls T0.fill0 = .method T0.fill0 := by
    rw [show cell.cls = D.1 13 from c2]
    obtain ⟨c9, r9, m9, q1, q2, q3, q4, -⟩ := Cond.selects_spec (a' (.selects RX13 Bundle.tFill0 Bundle.tFill0) (x_li13 (by simp)))
    cases Option.some.inj (q1.symm.trans hfc')
    cases Option.some.inj (q2.symm.trans (State.methodFound?_of_named Yt.fill0 (by decide)))
    cases Option.some.inj (q3.symm.trans Yt.fill0)
    rw [Launch.admits_selectMethod X.admits]; exact q4
  have hselF : selectMethod e.platform s'.vm cell.cls T0.fill = .method T0.fill := by
    rw [show cell.cls = D.1 13 from c2]
    obtain ⟨c9, r9, m9, q1, q2, q3, q4, -⟩ := Cond.selects_spec (a' (.selects RX13 Bundle.tFill Bundle.tFill) (x_li13 (by simp)))
    cases Option.some.inj (q1.symm.trans hfc')
    cases Option.some.inj (q2.symm.trans (State.methodFound?_of_named Yt.fill (by decide)))
    cases Option.some.inj (q3.symm.trans Yt.fill)
    rw [Launch.admits_selectMethod X.admits]; exact q4
  have f0 : T0.fCause.slot = D.2 13 0 := by
    obtain ⟨cf, kf, fi, fd, e1, e2⟩ := slotIs_moved hW0.alike (hSl 0 (by decide))
    cases Option.some.inj (e1.symm.trans Yt.cause)
    exact e2
  have f1 : T0.fStack.slot = D.2 13 1 := by
    obtain ⟨cf, kf, fi, fd, e1, e2⟩ := slotIs_moved hW0.alike (hSl 1 (by decide))
    cases Option.some.inj (e1.symm.trans Yt.stack)
    exact e2
  have f2 : T0.fSupp.slot = D.2 13 2 := by
    obtain ⟨cf, kf, fi, fd, e1, e2⟩ := slotIs_moved hW0.alike (hSl 2 (by decide))
    cases Option.some.inj (e1.symm.trans Yt.supp)
    exact e2
  obtain ⟨ci198, i198, fB, hk198, hg198, ha198, hsB, -, hnB, htB, hffB⟩ := Cond.ownField (t := .object "java/lang/Object") Yt.found L0.cls (by decide +kernel) (a' (.fieldLink Bundle.tN 198 Bundle.tN "backtrace" "Ljava/lang/Object;") (x_li13 (by simp))) (a' (.lays Bundle.tN Bundle.tN "backtrace" "Ljava/lang/Object;") (x_li13 (by simp))) e.platform hpl
  have f4 : fB.slot = D.2 13 4 := by
    obtain ⟨cf, kf, fi, fd, e1, e2⟩ := slotIs_moved hW0.alike (hSl 4 (by decide))
    cases Option.some.inj (e1.symm.trans hffB)
    exact e2
  obtain ⟨tyC, -⟩ := Cond.laysAt hfc' hkX' Yt.cause (a' (.lays RX13 Bundle.tN "cause" "Ljava/lang/Throwable;") (x_li13 (by simp)))
  obtain ⟨tyS, -⟩ := Cond.laysAt hfc' hkX' Yt.stack (a' (.lays RX13 Bundle.tN "stackTrace" Bundle.steD) (x_li13 (by simp)))
  obtain ⟨tyP, -⟩ := Cond.laysAt hfc' hkX' Yt.supp (a' (.lays RX13 Bundle.tN "suppressedExceptions" Bundle.listD) (x_li13 (by simp)))
  obtain ⟨cellS0, hcS0, hiss⟩ := Yt.statics
  obtain ⟨u0, hu0⟩ := Cond.staticRefV Yt.unassigned L0.unassignedStatic L0.statics hcS0 hiss (a' (.isRef (.static Bundle.tN "UNASSIGNED_STACK" Bundle.steD)) (x_li13 (by simp)))
  obtain ⟨sen, hsen⟩ := Cond.staticRefV Yt.sentinel L0.sentinelStatic L0.statics hcS0 hiss (a' (.isRef (.static Bundle.tN "SUPPRESSED_SENTINEL" Bundle.listD)) (x_li13 (by simp)))
  have hcellS : T.heap[T0.aS]? = some cellS0 := by rw [← hhp]; exact hcS0
  have hneS : T0.aS ≠ b := fun q => by
    rw [q] at hcellS
    cases Option.some.inj (hcellS.symm.trans c1)
    rw [c3] at hiss
    cases hiss
  have hknownS : cellS0.vm ≠ .unknown := fun hu => by
    rw [hu] at hiss
    cases hiss
  have tk : ∀ (f : Field) (j : Nat) (v : Value), f.slot = D.2 13 j → j < 8 → kX.instanceTypes[f.slot]? = some f.type → fits f.type v = true → Takes s' cell f v := fun f j v hf hj hty hfit => ⟨by rw [hf]; exact (Array.getElem?_eq_some_iff.mp (c4 j hj)).1, by simp [State.fitsSlot, State.slotType?, c2, c3, hkX', hord, hty, hfit]⟩
  have v4 : cell.slots[D.2 13 4]? = some .null := by
    rw [c4 4 (by decide)]
    have e4 : vp_V (m_f h 13 b) 4 = va_rf (m_R h 836 b) := rfl
    rw [e4, hbt]
    rfl
  have hskip : SkipFacts T0 e.platform s' (fun u => u) u0 ((preparedCellV T0.toThrowableT cell b u0 sen).withEntry T.cur) :=
    ⟨{ ci198 := ci198, i198 := i198, fBack := fB }, ⟨hk198, hg198, ha198, hsB⟩, by
      have n0 := hap 4 0 (by decide) (by decide) (by decide)
      have n1 := hap 4 1 (by decide) (by decide) (by decide)
      have n2 := hap 4 2 (by decide) (by decide) (by decide)
      simpa [preparedCellV, Cell.setSlot, Cell.withEntry, Array.getElem?_setIfInBounds, f0, f1, f2, f4, n0.symm, n1.symm, n2.symm] using v4, fun _ _ => rfl⟩
  have hd6 : decode c.code 1 = .ok (.invokespecial 1, 3) := by rw [ok.2.1]; exact dX13_init_1
  have hown' : s'.vm.findClass RX13 = some m.cls := by rw [hvm]; exact ok.2.2.2.1
  obtain ⟨tm, methC, cdC, kC, vm₁, hnC, -, -, -, -, -, -, -, hW₁, st1⟩ := Steps.initCold (tb := p.tables) (e := e) (below := below) (s := s') (U := T) Y.here hexec Y.warmed hpl hown' (t := Bundle.init0 "java/lang/RuntimeException") rfl rfl (Bundle.fit_spec (show Bundle.fit "java/lang/RuntimeException" = true by decide +kernel)).2
    (a' (.methodLink RX13 1 (Bundle.init0 "java/lang/RuntimeException")) (x_li13 (by simp))) (hwd (.instanceMethod (Bundle.init0 "java/lang/RuntimeException")) (List.mem_append_left _ (List.mem_append_right _ (by simp [Bundle.chain0Atoms, Bundle.passAtoms])))) (bytes := Bundle.five) (maxL := 1) (hwd (.code (Bundle.init0 "java/lang/RuntimeException") Bundle.five 1 none) (List.mem_append_left _ (List.mem_append_right _ (by simp [Bundle.chain0Atoms, Bundle.passAtoms]))))
    (f := F0 m 1 ls [.ref b]) rfl (a := b) (rest := []) rfl hd6
  cases Option.some.inj (hnC.symm.trans hP1m)
  have X₁ := Y.noted hW₁
  obtain ⟨vm₂, X₂, st2⟩ := X₁.ctorPlainOffV hexec (g := F0 m 1 ls []) rfl (hl.1.trans ok.2.2.1.symm) T0 L0 Z LZ (P1 :: Ps)
    (fun P hP => by rcases List.mem_cons.mp hP with rfl | hP; exact L1; exact hL P hP) ⟨hlink1, hlink⟩ (u0 := u0) (sen := sen) (self := b) (cell := cell) (cellS := cellS0)
    c1 (fun _ => by rw [c3]; simp) (by rw [c3]; simp) hfree hcount hsel0 hselF hcellS hneS hknownS hu0 hsen
    (tk _ 0 _ f0 (by decide) tyC (by rw [Yt.causeType]; rfl)) (tk _ 1 _ f1 (by decide) tyS (by rw [Yt.stackType]; exact fits_refV_array _ u0)) (tk _ 2 _ f2 (by decide) tyP (by rw [Yt.suppType]; exact fits_refV_object _ sen)) Yt.objLocals hskip htr [] hd6
    (by simp only [List.length_cons, hlen, List.length_nil]; show _ < R.frames; omega) (by simp only [List.length_cons, hlen, List.length_nil]; show 2 * 0 + 0 + _ ≤ R.locals; omega)
  subst hA'
  have X5 := vx_back8 X Y X₂
  rw [Nat.add_zero, Nat.add_zero] at X5
  generalize hce : (preparedCellV T0.toThrowableT cell b u0 sen).setSlot T0.fStack.slot u0.v = ce at X5 st2
  have hblt : b < T.heap.size := (Array.getElem?_eq_some_iff.mp c1).1
  have hcell9 : ∀ q : Nat, (((T.setVm vm₁).setVm vm₂).setCell b ce).heap[q]? = if q = b then some ce else T.heap[q]? := fun q => by
    by_cases hq : q = b
    · rw [if_pos hq, hq]
      exact heapAt_setCell_self (s := (T.setVm vm₁).setVm vm₂) ce hblt
    · rw [if_neg hq]
      show (T.heap.setIfInBounds b ce)[q]? = T.heap[q]?
      simp [Array.getElem?_setIfInBounds, Ne.symm hq]
  have hsl : ∀ j, j < 8 → ce.slots[D.2 13 j]? = some (updV (updV (updV (updV (vp_V (m_f h 13 b)) 0 (.ref b)) 1 u0.v) 2 sen.v) 1 u0.v j) := by
    intro j hj
    rw [← hce, f1]
    refine t_set (iS := D.2 13) (N := 8) ?_ hap (by decide) u0.v j hj
    intro j hj
    show ((((cell.setSlot T0.fCause.slot (.ref b)).setSlot T0.fStack.slot u0.v).setSlot T0.fSupp.slot sen.v).slots[D.2 13 j]?) = _
    rw [f0, f1, f2]
    refine t_set (iS := D.2 13) (N := 8) ?_ hap (by decide) sen.v j hj
    intro j hj
    refine t_set (iS := D.2 13) (N := 8) ?_ hap (by decide) u0.v j hj
    intro j hj
    exact t_set (iS := D.2 13) (N := 8) c4 hap (by decide) (.ref b) j hj
  have hfl : (m_f h 13 b).length = 8 := by rw [m_f_len]; rfl
  have hat9 : va_at D vwCl (b, .inr (13, ((((m_f h 13 b).set 0 (.ref b)).set 1 u0.v).set 2 sen.v).set 1 u0.v)) (((T.setVm vm₁).setVm vm₂).setCell b ce).heap := by
    refine ⟨_, hr, ce, by rw [hcell9, if_pos rfl], by rw [← hce]; exact c2, by rw [← hce]; exact c3, fun j hj => ?_⟩
    rw [hsl j hj]
    congr 1
    rw [← vp_updV_set (by simp [hfl]), ← funext (fun j => vp_updV_set (fs := ((m_f h 13 b).set 0 (.ref b)).set 1 u0.v) (k := 2) (by simp [hfl]) sen.v j), ← funext (fun j => vp_updV_set (fs := (m_f h 13 b).set 0 (.ref b)) (k := 1) (by simp [hfl]) u0.v j), ← funext (fun j => vp_updV_set (fs := m_f h 13 b) (k := 0) (by simp [hfl]) (.ref b) j)]
  have oq : ∀ q : Nat, q ≠ b → (((T.setVm vm₁).setVm vm₂).setCell b ce).heap[q]? = T.heap[q]? := fun q hq => by rw [hcell9, if_neg hq]
  have hP1 := hw.1.set hw.2.1 hk1 hat9 oq
  have hD1 := hw.2.1.set (e := .inr (13, ((((m_f h 13 b).set 0 (.ref b)).set 1 u0.v).set 2 sen.v).set 1 u0.v)) hk1
  have hAb : A b := hw.2.1.2 k0 _ hk0
  have s1 : ∀ (h9 : Hp) (k9 : Nat) (v9 : Option Nat), m_K h9 b = 13 → k9 < 8 → (m_ty 13).getD k9 0 = 2 → ∀ q, q ≠ b → m_E ca (p_R h9 (13 * 64 + k9) b v9) q = m_E ca h9 q := fun h9 k9 v9 z1 z2 z3 q hq => by
    rw [← m_putR z1 (by decide) z2 z3 q]
    exact if_neg hq
  have hu : ∀ q, va_up (m_E ca h) b (.inr (13, ((((m_f h 13 b).set 0 (.ref b)).set 1 u0.v).set 2 sen.v).set 1 u0.v)) q = m_E ca (p_R (p_R (p_R (p_R h 832 b (some b)) 833 b (rfO u0)) 834 b (rfO sen)) 833 b (rfO u0)) q := by
    intro q
    by_cases hq : q = b
    · subst hq
      have e4 : m_f (p_R (p_R (p_R (p_R h 832 q (some q)) 833 q (rfO u0)) 834 q (rfO sen)) 833 q (rfO u0)) 13 q = ((((m_f h 13 q).set 0 (.ref q)).set 1 u0.v).set 2 sen.v).set 1 u0.v := by
        have e1 : m_f (p_R h 832 q (some q)) 13 q = (m_f h 13 q).set 0 (.ref q) := m_f_R ca (h := h) (c := 13) (k := 0) hb (by decide) (by decide) rfl
        have e2 : m_f (p_R (p_R h 832 q (some q)) 833 q (rfO u0)) 13 q = ((m_f h 13 q).set 0 (.ref q)).set 1 u0.v := by
          rw [← rfO_v u0, ← e1]
          exact m_f_R ca (h := p_R h 832 q (some q)) (c := 13) (k := 1) hb (by decide) (by decide) rfl
        have e3 : m_f (p_R (p_R (p_R h 832 q (some q)) 833 q (rfO u0)) 834 q (rfO sen)) 13 q = (((m_f h 13 q).set 0 (.ref q)).set 1 u0.v).set 2 sen.v := by
          rw [← rfO_v sen, ← e2]
          exact m_f_R ca (h := p_R (p_R h 832 q (some q)) 833 q (rfO u0)) (c := 13) (k := 2) hb (by decide) (by decide) rfl
        rw [← e3, ← rfO_v u0]
        exact m_f_R ca (h := p_R (p_R (p_R h 832 q (some q)) 833 q (rfO u0)) 834 q (rfO sen)) (c := 13) (k := 1) hb (by decide) (by decide) rfl
      rw [m_E_o (h := p_R (p_R (p_R (p_R h 832 q (some q)) 833 q (rfO u0)) 834 q (rfO sen)) 833 q (rfO u0)) hb (by decide), e4]
      exact if_pos rfl
    · have t1 := s1 h 0 (some b) hb (by decide) rfl q hq
      have t2 := s1 (p_R h 832 b (some b)) 1 (rfO u0) hb (by decide) rfl q hq
      have t3 := s1 (p_R (p_R h 832 b (some b)) 833 b (rfO u0)) 2 (rfO sen) hb (by decide) rfl q hq
      have t4 := s1 (p_R (p_R (p_R h 832 b (some b)) 833 b (rfO u0)) 834 b (rfO sen)) 1 (rfO u0) hb (by decide) rfl q hq
      exact (if_neg hq).trans (t4.trans (t3.trans (t2.trans t1))).symm
  have hsz9 : (((T.setVm vm₁).setVm vm₂).setCell b ce).heap.size = T.heap.size := by
    show (T.heap.setIfInBounds b ce).size = T.heap.size
    simp
  obtain ⟨t, a1, b1⟩ := k (rfO u0) (rfO sen) ok _ _ ls L (m_set hw hb (by omega) hk0 rfl hu hP1 hD1) ⟨by rw [hsz9]; exact hS.1, fun q g1 g2 => (oq q (fun z => g2 (z ▸ hAb))).trans (hS.2.1 q g1 g2), fun z hz => by
    rcases List.mem_append.mp hz with z1 | z1
    · exact hS.2.2 z z1
    · simp only [List.nil_append, List.mem_cons, List.not_mem_nil, or_false] at z1
      rcases z1 with rfl | rfl | rfl | rfl <;> exact hAb⟩ hl _ rfl X5
  exact ⟨t, st1 _ (fun acts => by rw [doInvoke_state]; exact st2 _ a1), b1⟩
def tw (h : Hp) (b : Nat) (r1 r2 : Option Nat) : Hp := p_R (p_R (p_R (p_R h 832 b (some b)) 833 b r1) 834 b r2) 833 b r1
theorem s_X13_init {h : Hp} {q : Nat} {a b : Int32} (hk : m_K h q = 13) (hbt : m_R h 836 q = none) : ∀ l : Launch, SpM l mX13_init 9 0 0 q [.ref q, .int a, .int b] h (fun r h' => r = none ∧ ∃ r1 r2, h' = p_I (p_I (tw h q r1 r2) 838 q a) 839 q b) X0 := by
  intro l
  refine SpM.of rfl rfl (lv := [(0, .ref q), (1, .int a), (2, .int b)]) (Nat.le_of_ble_eq_true rfl) rfl (fun x hf hrm => ?_)
  refine wm_aload_n 0 dX13_init_0 rfl rfl rfl ?_
  refine w_super13 hrm (Nat.le_of_ble_eq_true rfl) (Nat.le_of_ble_eq_true rfl) (Nat.le_of_ble_eq_true rfl) hk hbt (fun r1 r2 => ?_)
  refine w_aload_n 0 dX13_init_4 rfl rfl rfl ?_
  refine w_iload_n 1 dX13_init_5 rfl rfl rfl ?_
  refine p_X13_7 dX13_init_6 rfl hk rfl ?_
  refine w_aload_n 0 dX13_init_9 rfl rfl rfl ?_
  refine w_iload_n 2 dX13_init_10 rfl rfl rfl ?_
  refine p_X13_13 dX13_init_11 rfl hk rfl ?_
  refine w_vret hf dX13_init_14 rfl (Nat.le_of_ble_eq_true rfl) (Nat.le_of_ble_eq_true rfl) ?_
  exact ⟨rfl, r1, r2, rfl⟩
