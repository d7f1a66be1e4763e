/-! THE LAW'S OWN WALK: its end; from its entry to the loop -/
def R_law : String := "StreamDeskLaw"
def lw_P (b : Addr) (xs : List Int32) (args : Array Value) (s : State) : Prop := args = #[.ref b] ∧ s.IntsAt b xs ∧ xs.length ≤ 260 ∧ (Jvm.Cond.and given_1 narrow_1).before args s = true
/-- what a walk over the start with the record d0 says of its end, said of the start itself -/
theorem lw_closed {s t : State} {o : Outcome} {d0 : Drawn} {L : List Loc} {k n : Nat} (hd0 : s.drawn.sameBut d0 lw_cs) (hv : ∃ v, o = .returned v) (hW : (s.setDrawn d0).WarmedH t.vm) (hs : (s.setDrawn d0).sameButNew ({ t with vm := s.vm } : State) L k n) : State.butDraws s t lw_cs (fun t1 => Framed s o t1 L k n) := by
  have h2 : t.drawn = d0 := congrArg State.drawn hs.1
  refine ⟨⟨hv, hW, State.sameButNew.setDrawn hs s.drawn⟩, ?_, by decide⟩
  rw [h2]
  exact hd0
def lw_Q (_ : Array Value) (s : State) (o : Outcome) (t : State) : Prop := o = .returned (some (.int 1)) ∧ State.butDraws s t lw_cs (fun t1 => Framed s o t1 [] 600086 7301442)
def lw_Z (below : List Frame) (a : Array Value) (s : State) : State → Prop := fun t => ∃ o, t.status = .running ∧ Ended t below o ∧ lw_Q a s o t
/-- the law's own end, with 1 on the stack, nothing written that was there before, its room as the claim has it; d0: the record of draws at this point (at the entry s.drawn: begin with 'refine W.base ?_' and 'have hd0 := Drawn.sameBut.refl s.drawn lw_cs') -/
theorem lw_ret {p : Program} {l : Launch} {e : Env} {s : State} {m : MethodId} {below : List Frame} {meth : Method} {c : Code} {b : Nat} {d0 : Drawn} (hd0 : s.drawn.sameBut d0 lw_cs) (hx : p.tables.exec = Jvm.exec) (hb : c.code = code) (hr : meth.sig.returnType = ret) (hlocks : meth.locks = false) {pc : Nat} {H : Heap} {ls : Array Slot} (hdg : decode code pc = .ok (.ireturn, 1)) : W p l e room_1 (s.setDrawn d0) m #[Value.ref b] below meth c H [] 600086 7301442 (lw_Z below #[Value.ref b] s) (F0 m pc ls [.int 1]) := by
  intro T hT X
  obtain ⟨fs, hret, hrun, hended, hW, hframe⟩ := X.leave (v := some (.int 1)) (hlocks := hlocks) (fun h => by rw [hr] at h; cases h)
  have hmeth' : T.vm.method? m = some meth := X.method'
  refine ⟨T.setFrames fs, ?_, .returned (some (.int 1)), hrun, hended, rfl, lw_closed hd0 ⟨_, rfl⟩ hW hframe⟩
  jvm_step X.here [X.here.top, hx, hb, hdg, hmeth', hr, ret, narrow_b1]
  (try refine ⟨rfl, ?_⟩); (try refine ⟨rfl, ?_⟩)
  first | (intro acts; rw [hret _ acts rfl rfl rfl]) | rw [hret _ _ rfl rfl rfl]
  exact Steps.refl _
/-- what holds at the law's entry: the machine, the code, the tables' words (any of lw_tbl by 'hts w (by decide +kernel)'), the script of L ints xs at the cell b, what the Statement gives of the start (any of its parts by flat_of_before) -/
def finL (x : Cxt) : Prop := match x with
  | (_, _, _, R, s, _, args, below, _, _, Q, A, _, _, _, _) => R = room_1 ∧ ∃ (s0 : State) (d0 : Drawn) (b : Nat), s = s0.setDrawn d0 ∧ s0.drawn.sameBut d0 lw_cs ∧ args = #[Value.ref b] ∧ Q = lw_Z below #[Value.ref b] s0 ∧ ∀ q, A q → s.heap.size ≤ q
/-- the end -/
theorem w_lawret {x : Cxt} {pc kc ks : Nat} {lv : List (Nat × Value)} {h : Hp} (hf : finL x) (hd : decode code pc = .ok (.ireturn, 1)) (h1 : kc ≤ 600086) (h2 : ks ≤ 7301442) : wp x mLaw pc lv [.int 1] h kc ks := by
  obtain ⟨p, l, e, R, s, m, args, below, meth, cd, Q, A, D, ca, aK, aV⟩ := x
  obtain ⟨rfl, s0, d0, b, rfl, hd0, rfl, rfl, hA⟩ := hf
  intro ok H locs ls Ls hw hS hl
  refine va_forget (fun q hq => hA _ (hS.2.2 q hq)) ?_
  refine W.widen h1 h2 ?_
  exact lw_ret hd0 ok.1 ok.2.1 ok.2.2.2.2.2.2.2.2.1 ok.2.2.2.2.2.2.2.2.2.1 hd
theorem rg_GTok {c p9 s9 : Nat} (q : GTok c p9 s9) : c < 11 ∨ (1024 ≤ c ∧ c < 1792) := by
  unfold GTok at q
  rcases q with q | q | q | q
  · omega
  · omega
  · omega
  · omega
theorem rg_GTab {p : Nat} {s : Nat} {c p9 s9 : Nat} (q : GTab p s c p9 s9) : c < 11 ∨ (1024 ≤ c ∧ c < 1792) := by
  unfold GTab at q
  rcases q with q | q
  · omega
  · omega
theorem rg_GWin {p : Nat} {s : Nat} {c p9 s9 : Nat} (q : GWin p s c p9 s9) : c < 11 ∨ (1024 ≤ c ∧ c < 1792) := by
  unfold GWin at q
  rcases q with q | q | q | q | q
  · omega
  · omega
  · omega
  · omega
  · omega
theorem rg_GStr {p : Nat} {s : Nat} {c p9 s9 : Nat} (q : GStr p s c p9 s9) : c < 11 ∨ (1024 ≤ c ∧ c < 1792) := by
  unfold GStr at q
  rcases q with q | q | q | q | q | q | q | q | q | q | q
  · omega
  · omega
  · omega
  · omega
  · omega
  · omega
  · exact rg_GTab q
  · omega
  · omega
  · omega
  · exact rg_GWin q
theorem rg_L5a {p : Nat} {i : Nat} {c p9 s9 : Nat} (q : L5a p i c p9 s9) : c < 11 ∨ (1024 ≤ c ∧ c < 1792) := by
  unfold L5a at q
  rcases q with q | q
  · omega
  · exact rg_GStr q
theorem rg_L5b {p : Nat} {i : Nat} {c p9 s9 : Nat} (q : L5b p i c p9 s9) : c < 11 ∨ (1024 ≤ c ∧ c < 1792) := by
  unfold L5b at q
  omega
theorem rg_GPro {p : Nat} {c p9 s9 : Nat} (q : GPro p c p9 s9) : c < 11 ∨ (1024 ≤ c ∧ c < 1792) := by
  unfold GPro at q
  rcases q with q | q | q | q | q | q | q
  · omega
  · omega
  · omega
  · omega
  · omega
  · obtain ⟨i, _, q⟩ := lpG_ex q
    exact rg_L5a q
  · obtain ⟨i, _, q⟩ := lpG_ex q
    exact rg_L5b q
theorem rg_GMea {c p9 s9 : Nat} (q : GMea c p9 s9) : c < 11 ∨ (1024 ≤ c ∧ c < 1792) := by
  unfold GMea at q
  omega
theorem rg_GPar {c p9 s9 : Nat} (q : GPar c p9 s9) : c < 11 ∨ (1024 ≤ c ∧ c < 1792) := by
  exact q.elim
theorem rg_GRow {p : Nat} {s : Nat} {c p9 s9 : Nat} (q : GRow p s c p9 s9) : c < 11 ∨ (1024 ≤ c ∧ c < 1792) := by
  unfold GRow at q
  omega
theorem rg_L1h {i : Nat} {c p9 s9 : Nat} (q : L1h i c p9 s9) : c < 11 ∨ (1024 ≤ c ∧ c < 1792) := by
  unfold L1h at q
  rcases q with q | q
  · omega
  · exact rg_GRow q
theorem rg_GEng {c p9 s9 : Nat} (q : GEng c p9 s9) : c < 11 ∨ (1024 ≤ c ∧ c < 1792) := by
  unfold GEng at q
  rcases q with q | q | q | q | q | q | q | q
  · omega
  · omega
  · exact rg_GRow q
  · omega
  · exact rg_GRow q
  · omega
  · exact rg_GRow q
  · obtain ⟨i, _, q⟩ := lpG_ex q
    exact rg_L1h q
theorem rg_GEnt {s : Nat} {c p9 s9 : Nat} (q : GEnt s c p9 s9) : c < 11 ∨ (1024 ≤ c ∧ c < 1792) := by
  unfold GEnt at q
  rcases q with q | q
  · omega
  · exact rg_GRow q
theorem rg_L11e {i : Nat} {c p9 s9 : Nat} (q : L11e i c p9 s9) : c < 11 ∨ (1024 ≤ c ∧ c < 1792) := by
  unfold L11e at q
  rcases q with q | q
  · omega
  · exact rg_GEnt q
theorem rg_GDes {c p9 s9 : Nat} (q : GDes c p9 s9) : c < 11 ∨ (1024 ≤ c ∧ c < 1792) := by
  unfold GDes at q
  rcases q with q | q | q | q | q | q | q | q | q | q | q | q | q | q | q | q | q | q | q | q
  · omega
  · omega
  · exact rg_GTok q
  · omega
  · exact rg_GPro q
  · omega
  · exact rg_GPro q
  · omega
  · exact rg_GPro q
  · omega
  · exact rg_GMea q
  · omega
  · exact rg_GPar q
  · omega
  · exact rg_GEng q
  · omega
  · exact rg_GRow q
  · omega
  · omega
  · obtain ⟨i, _, q⟩ := lpG_ex q
    exact rg_L11e q
theorem zr_0 {c p s : Nat} : Zr z0 c p s := ⟨fun _ _ => ⟨rfl, rfl⟩, fun _ => ⟨rfl, rfl⟩⟩
theorem mz_sf (z : Zs) : mz z z = z := zs_ext (fun _ _ _ _ => ite_self _) (fun _ _ _ _ => ite_self _) (fun _ _ _ _ => ite_self _)
theorem rp_0 {A : Nat → Nat → Nat → Nat} {h : Hp} (hz : Pl A S5 F5 E5 h (zDes z0)) : Rp A h (zDes z0) (ecd h (zDes z0)) := by
  have hz : Pl A S5 F5 E5 h (mz (zDes z0) (zDes z0)) := by rw [mz_sf]; exact hz
  refine hz.rp (fun c p s hc => ?_) (fun f p s hv hf hc => ?_) (fun f p i hv hc => ?_) (fun f p s hd hv hm => ?_)
  · by_cases q : c < 1024
    · exact cov_o (hc.1 q).1 (hc.1 q).2
    · obtain ⟨f, rfl⟩ : ∃ f, c = 1024 + f := ⟨c - 1024, by omega⟩
      obtain ⟨hv, ha⟩ := hc.2 (by omega)
      rw [Nat.add_sub_cancel_left] at hv ha
      exact cov_a ha hv
  · rcases hc with ha | ha | ⟨ha, h9⟩
    · exact cov_f1 ha hf hv
    · exact cov_f2 ha hv
    · refine cov_f3 ha (fun e => ?_) hv
      rw [e] at ha
      cases ha
  · rcases hc with ⟨k, n, t, ha, hi, hs⟩ | ⟨rfl, rfl, hi⟩
    · exact cov_e ha hi hs hv
    · exact cov_h hi
  · unfold dro at hd
    split at hd <;> cases hd
theorem run_t31 {lim n : Nat} (hl : lim < 9) (h1 : 1 ≤ n) (h2 : n ≤ 20) : ckT lim n (tT_compile (txL lim n) T0) = true := by
  have h : n = 1 ∨ n = 2 ∨ n = 3 ∨ n = 4 ∨ n = 5 ∨ n = 6 ∨ n = 7 ∨ n = 8 ∨ n = 9 ∨ n = 10 ∨ n = 11 ∨ n = 12 ∨ n = 13 ∨ n = 14 ∨ n = 15 ∨ n = 16 ∨ n = 17 ∨ n = 18 ∨ n = 19 ∨ n = 20 := by omega
  rcases h with rfl | rfl | rfl | rfl | rfl | rfl | rfl | rfl | rfl | rfl | rfl | rfl | rfl | rfl | rfl | rfl | rfl | rfl | rfl | rfl
  · exact run_1 lim hl
  · exact run_2 lim hl
  · exact run_3 lim hl
  · exact run_4 lim hl
  · exact run_5 lim hl
  · exact run_6 lim hl
  · exact run_7 lim hl
  · exact run_8 lim hl
  · exact run_9 lim hl
  · exact run_10 lim hl
  · exact run_11 lim hl
  · exact run_12 lim hl
  · exact run_13 lim hl
  · exact run_14 lim hl
  · exact run_15 lim hl
  · exact run_16 lim hl
  · exact run_17 lim hl
  · exact run_18 lim hl
  · exact run_19 lim hl
  · exact run_20 lim hl
section LH
variable {x : Cxt} {b N : Nat} {xs : Nat → Int32} {h : Hp}
theorem law_head (hsc : scrOk x b N xs) (hN : N ≤ 65536) (hrm : m_rm 2048 600086 7301442 x) (hf : finL x) (hh : ∀ a, ¬ m_K h a < 28) : wp x mLaw 0 [(0, .ref b)] [] h 0 0 := by
  have hz : Pl (fun _ _ _ => 0) (fun _ _ _ => False) (fun _ _ _ => False) (fun _ _ _ => False) h z0 := ⟨⟨fun _ _ _ _ _ _ q => q.elim, fun _ _ _ q => q.elim, fun _ _ _ q => q.elim, fun _ _ _ _ _ q => q.elim, fun _ _ _ _ q => q.elim, fun _ _ _ _ q => q.elim⟩, fun _ _ _ q => q.elim, fun _ _ _ q => q.elim⟩
  obtain ⟨n1, n2⟩ := nO_b (N := N) (xs := xs)
  have l1 := limO_b (N := N) (xs := xs)
  refine nw_L_20 hrm dL_law_0 rfl (Nat.le_of_ble_eq_true rfl) (Nat.le_of_ble_eq_true rfl) (fun q hq => ?_)
  refine i_addO hz hq (c0 := 11) (p0 := 0) (s0 := 0) (by decide) rfl id zr_0 (fun A1 h hA1 hz => ?_)
  refine w_dup dL_law_3 rfl rfl ?_
  refine c_L_48 (b := A1 11 0 0) (As := []) (rest := [.ref (A1 11 0 0)]) (fun l => s_X11_init (Or.inr ⟨rfl, rfl, rfl⟩) (fun _ => rfl) (fun c p9 s9 hc q => by
    rcases q with q | q
    · exact q
    · omega) (fun _ _ _ _ => zr_0) hz l) hrm dL_law_4 rfl rfl (Nat.le_of_ble_eq_true rfl) (Nat.le_of_ble_eq_true rfl) (Nat.le_of_ble_eq_true rfl) rfl (Nat.le_of_ble_eq_true rfl) (fun vr h2 hq => ?_) (fun _ _ hq => hq.elim)
  obtain ⟨rfl, A2, hA2, hz⟩ := hq
  show wp _ _ 7 [(0, .ref b)] [.ref (A1 11 0 0)] _ _ _
  rw [← hA2 11 0 0 (Or.inr ⟨rfl, rfl, rfl⟩)]
  have hR := rp_0 hz
  refine w_astore_n [(1, .ref (A2 11 0 0)), (0, .ref b)] dL_law_7 rfl rfl (by decide) rfl ?_
  refine w_iconst (nI 1) dL_law_8 rfl rfl ?_
  refine w_aload_n 1 dL_law_9 rfl rfl rfl ?_
  refine w_iconst (nI 0) dL_law_10 rfl rfl ?_
  refine w_cell (d := 2047) hsc hrm dL_law_11 rfl (by decide) hN (Nat.le_of_ble_eq_true rfl) (Nat.le_of_ble_eq_true rfl) (Nat.le_of_ble_eq_true rfl) ?_
  refine w_bipush (nI 20) dL_law_14 rfl (by decide) ?_
  refine c_L_53 (b := 0) (As := [.int (cellV N xs 0), .int (nI 20)]) (rest := [.int (nI 1)]) (fun l => s_L_below (by decide) l) hrm dL_law_16 rfl rfl (Nat.le_of_ble_eq_true rfl) (Nat.le_of_ble_eq_true rfl) (Nat.le_of_ble_eq_true rfl) rfl (Nat.le_of_ble_eq_true rfl) (fun vr h9 hq => ?_) (fun _ _ hq => hq.elim)
  obtain ⟨rfl, e9⟩ := hq; obtain rfl := e9.symm
  rw [blw_n (by decide) (by decide)]
  refine w_iadd dL_law_19 rfl ?_
  rw [n_add, show 1 + blN (cellV N xs 0) 20 = nO N xs from rfl]
  refine w_istore_n [(2, .int (nI (nO N xs))), (1, .ref (A2 11 0 0)), (0, .ref b)] dL_law_20 rfl rfl (by decide) rfl ?_
  refine w_aload_n 2 dL_law_21 rfl rfl rfl ?_
  refine w_iconst (nI 0) dL_law_22 rfl rfl ?_
  refine w_cell (d := 2047) hsc hrm dL_law_23 rfl (by decide) hN (Nat.le_of_ble_eq_true rfl) (Nat.le_of_ble_eq_true rfl) (Nat.le_of_ble_eq_true rfl) ?_
  refine w_iconst (nI 5) dL_law_26 rfl rfl ?_
  refine w_ishr dL_law_27 rfl ?_
  refine w_bipush (nI 9) dL_law_28 rfl (by decide) ?_
  refine c_L_53 (b := 0) (As := [.int (cellV N xs 0 >>> (nI 5 &&& 31)), .int (nI 9)]) (rest := []) (fun l => s_L_below (by decide) l) hrm dL_law_30 rfl rfl (Nat.le_of_ble_eq_true rfl) (Nat.le_of_ble_eq_true rfl) (Nat.le_of_ble_eq_true rfl) rfl (Nat.le_of_ble_eq_true rfl) (fun vr h9 hq => ?_) (fun _ _ hq => hq.elim)
  obtain ⟨rfl, e9⟩ := hq; obtain rfl := e9.symm
  rw [blw_n (by decide) (by decide), show blN (cellV N xs 0 >>> (nI 5 &&& 31)) 9 = limO N xs from rfl]
  refine w_istore_n (lvT (A2 11 0 0) b (limO N xs) (nO N xs)) dL_law_33 rfl rfl (by decide) rfl ?_
  generalize nO N xs = n at *
  generalize limO N xs = lim at *
  obtain ⟨z, ez, hok⟩ := run_c (run_t31 l1 n1 n2)
  have hlen : (txL lim n).length < 240 := by
    rw [txL_len (by omega), dg_L]
    split <;> omega
  refine lw_text (m_rm_le hrm (Nat.le_of_ble_eq_true rfl)) hR l1 n1 n2 (Nat.le_of_ble_eq_true rfl) (Nat.le_of_ble_eq_true rfl) (fun q tb h3 ρ3 hz3 ht hfq hft => ?_)
  refine c_L_78 (b := 0) (As := [.ref (A2 11 0 0), .ref q]) (rest := []) (fun l => s_L_compile hlen (fun j hj => (txN_at (txL lim n) j (fun b hb => Nat.lt_of_lt_of_le (txL_b (by omega) (by omega) b hb) (by decide)) hj).symm) hz3 ht hfq hft ez l) hrm dL_law_77 rfl rfl (Nat.le_of_ble_eq_true rfl) (Nat.le_of_ble_eq_true rfl) (Nat.le_of_ble_eq_true rfl) rfl (Nat.le_of_ble_eq_true rfl) (fun vr h4 hq => ?_) (fun _ _ hq => hq.elim)
  obtain ⟨rfl, ρ4, hz4⟩ := hq
  refine w_if_eq 85 dL_law_80 rfl rfl (fun _ => ?_) (fun z => absurd rfl z)
  exact lw_all hsc hN (m_rm_le hrm (Nat.le_of_ble_eq_true rfl)) hz4 hok.st n1 n2 (Nat.le_of_ble_eq_true rfl) (Nat.le_of_ble_eq_true rfl) (fun h5 lv => w_lawret hf dL_law_653 (Nat.le_of_ble_eq_true rfl) (Nat.le_of_ble_eq_true rfl))
end LH
