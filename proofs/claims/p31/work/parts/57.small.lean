/-! THE LAW'S SMALL METHODS: below, cell -/
def scrOk (x : Cxt) (b L : Nat) (xs : Nat → Int32) : Prop := match x with
  | (_, _, _, _, s, _, _, _, _, _, _, A, _, _, _, _) => va_X b L xs s s.heap ∧ b < s.heap.size ∧ ¬ A b
def blw (v n : Int32) : Int32 := (v &&& 2147483647) - (v &&& 2147483647) / n * n
/-- a number of the script, or one that is made up -/
def cellV (n : Nat) (xs : Nat → Int32) (k : Nat) : Int32 := if k < n then xs k else 790386105 * (nI k + 3)
section SML
variable {x : Cxt} {M : MI} {pc pc' kc ks b n : Nat} {xs : Nat → Int32} {lv : List (Nat × Value)} {st : List Value} {h : Hp}
theorem w_sld {i : Nat} (hsc : scrOk x b n xs) (hi : i < n) (hn : n ≤ 65536) (hd : decode M.2.1 pc = .ok (.iaload, 1)) (hp : pc + 1 = pc') (k : wp x M pc' lv (.int (xs i) :: st) h kc ks) : wp x M pc lv (.int (nI i) :: .ref b :: st) h kc ks := by
  obtain ⟨p, l, e, R, s, m, args, below, meth, cd, Q, A, D, ca, aK, aV⟩ := x
  obtain ⟨own, cc, nL, y, ret, hh⟩ := M
  subst hp
  intro ok H locs ls Ls hw hS hl
  obtain ⟨h1, h2, h3⟩ := hsc
  have e1 : Int32.toNatClampNeg (nI i) = i := n_cl (by omega)
  refine va_sld ok.1 ok.2.1 h1 h2 h3 hS (vp_in_nI hi (by omega)) hd ?_
  rw [e1]
  exact k ok H locs ls Ls hw hS hl
theorem w_slen (hsc : scrOk x b n xs) (hd : decode M.2.1 pc = .ok (.arraylength, 1)) (hp : pc + 1 = pc') (k : wp x M pc' lv (.int (nI n) :: st) h kc ks) : wp x M pc lv (.ref b :: st) h kc ks := by
  obtain ⟨p, l, e, R, s, m, args, below, meth, cd, Q, A, D, ca, aK, aV⟩ := x
  obtain ⟨own, cc, nL, y, ret, hh⟩ := M
  subst hp
  intro ok H locs ls Ls hw hS hl
  obtain ⟨h1, h2, h3⟩ := hsc
  exact va_slen ok.1 ok.2.1 h1 h2 h3 hS hd (k ok H locs ls Ls hw hS hl)
theorem s_L_below {v m : Int32} (hm : ¬ m = 0) : ∀ l : Launch, Sp l mL_below 0 0 0 [.int v, .int m] h (fun r h' => r = some (.int (blw v m)) ∧ h' = h) X0 := by
  intro l
  refine Sp.of rfl rfl (lv := [(0, .int v), (1, .int m)]) (Nat.le_of_ble_eq_true rfl) rfl (fun x hf hrm => ?_)
  refine w_iload_n 0 dL_below_0 rfl rfl rfl ?_
  refine w_ldc dL_below_1 rfl k_L_7 ?_
  refine w_iand dL_below_3 rfl ?_
  refine w_iload_n 1 dL_below_4 rfl rfl rfl ?_
  refine w_irem dL_below_5 rfl hm ?_
  exact w_iret hf dL_below_6 rfl (Nat.le_refl _) (Nat.le_refl _) ⟨rfl, rfl⟩
theorem b_cell {k : Nat} (hk : k < 1000) (hn : n ≤ 65536) (hf : m_fin 0 0 (fun r h' => r = some (.int (cellV n xs k)) ∧ h' = h) X0 x) (hsc : scrOk x b n xs) : wp x mL_cell 0 [(0, .ref b), (1, .int (nI k))] [] h 0 0 := by
  refine w_iload_n 1 dL_cell_0 rfl rfl rfl ?_
  refine w_aload_n 0 dL_cell_1 rfl rfl rfl ?_
  refine w_slen hsc dL_cell_2 rfl ?_
  refine w_icmp_ge 12 dL_cell_3 rfl rfl (fun q => ?_) (fun q => ?_)
  · have q' : ¬ k < n := by have := (n_le (by omega) (by omega)).mp q; omega
    refine w_ldc dL_cell_12 rfl k_L_8 ?_
    refine w_iload_n 1 dL_cell_14 rfl rfl rfl ?_
    refine w_iconst 3 dL_cell_15 rfl rfl ?_
    refine w_iadd dL_cell_16 rfl ?_
    refine w_imul dL_cell_17 rfl ?_
    refine w_iret hf dL_cell_18 rfl (Nat.le_refl _) (Nat.le_refl _) ⟨?_, rfl⟩
    unfold cellV
    rw [if_neg q']
  · have q' : k < n := by
      rcases Nat.lt_or_ge k n with w | w
      · exact w
      · exact absurd ((n_le (by omega) (by omega)).mpr w) q
    refine w_aload_n 0 dL_cell_6 rfl rfl rfl ?_
    refine w_iload_n 1 dL_cell_7 rfl rfl rfl ?_
    refine w_sld hsc q' hn dL_cell_8 rfl ?_
    refine w_goto 18 dL_cell_9 rfl ?_
    refine w_iret hf dL_cell_18 rfl (Nat.le_refl _) (Nat.le_refl _) ⟨?_, rfl⟩
    unfold cellV
    rw [if_pos q']
/-- cell's contract: the script is there to be read -/
theorem m_cell {k : Nat} {l : Launch} (hst : l.stackTraces = false) (hk : k < 1000) (hn : n ≤ 65536) (D : va_G) (ca : Nat → ClassId) (aK aV : Nat → Nat) (L : List Nat) (sz : Nat) : vx_Met l yL_cell (m_cw mL_cell :: m_TW) (m_room 0 0 0) (va_Pc [.ref b, .int (nI k)] (fun U => m_pre D ca aK aV h L sz U ∧ va_X b n xs U U.heap ∧ b < sz ∧ b ∉ L)) (m_Qc D ca (va_A (va_pl L (m_E ca h)) sz) (fun r h' => r = some (.int (cellV n xs k)) ∧ h' = h)) (m_Xc D ca (va_A (va_pl L (m_E ca h)) sz) X0) 0 0 (va_A (va_pl L (m_E ca h)) sz) := by
  refine vx_ofW (cc := cL_cell) (maxL := 2) (ret := some .int) rfl rfl ?_
  intro p e s m args below meth c s₁ B hml hxt hv
  obtain ⟨rfl, ⟨hsz, hW0, hK, hN, hE⟩, hX, hb, hbL⟩ := hv
  have hts := atoms_spec (ws := m_cw mL_cell :: m_TW) B.pre
  have hown : s.vm.findClass RL = some m.cls := findClass_of_methodNamed B.named
  subst hsz
  have hD := hW0.2.1.self (sz := s.heap.size)
  have hle := lv_entry [Value.ref b, Value.int (nI k)] (n := 2) (Nat.le_of_ble_eq_true rfl)
  rw [lg_entry_eq]
  generalize (lg_sl [Value.ref b, Value.int (nI k)] ++ List.replicate (2 - (lg_sl [Value.ref b, Value.int (nI k)]).length) Slot.unset).toArray = ls at hle ⊢
  have hx : c.exceptionTable.toList = tableOf [] := by
    cases hc : c.exceptionTable.toList with
    | nil => rfl
    | cons z zs => exact (hxt z (by rw [hc]; exact List.mem_cons_self)).elim
  have hbA : ¬ va_A (va_pl L (m_E ca h)) s.heap.size b := fun q => by
    rcases m_plA.mp q with q | q
    · exact hbL q
    · omega
  exact b_cell (x := (p, l, e, _, s, m, [Value.ref b, Value.int (nI k)].toArray, below, meth, c, _, va_A (va_pl L (m_E ca h)) s.heap.size, D, ca, aK, aV)) hk hn rfl ⟨hX, hb, hbA⟩ ⟨B.exec, B.bytes, hml, hown, fun w hw => hts w (List.mem_cons_of_mem _ hw), hK, hN, fun q hq => Or.inr hq, B.returns, B.notSynchronized, (name_of_methodNamed B.named B.method).1, hst, m_ex.widen (fun q hq => m_plA.mp hq) hE, hx⟩ s.heap [] ls L ⟨hW0.1, hD, hW0.2.2⟩ va_S.rf hle
theorem w_cell {k d Mc Ms : Nat} {cc : ByteArray} {nL : Nat} {y : MethodName} {ret : Option FieldType} {hh : List (Nat × Nat × Nat × Nat)} {rest : List Value} (hsc : scrOk x b n xs) (hrm : m_rm (d + 1) Mc Ms x) (hd : decode cc pc = .ok (.invokestatic 49, 3)) (hp : pc + 3 = pc') (hk : k < 1000) (hn : n ≤ 65536) (hmc : kc ≤ Mc) (hms : ks ≤ Ms) (hcat : (rest.map fun v => v.category).sum ≤ 8) (kk : wp x (RL, cc, nL, y, ret, hh) pc' lv (.int (cellV n xs k) :: rest) h kc ks) : wp x (RL, cc, nL, y, ret, hh) pc lv (.int (nI k) :: .ref b :: rest) h kc ks := by
  obtain ⟨p, l, e, R, s, m, args, below, meth, cd, Q, A, D, ca, aK, aV⟩ := x
  subst hp
  intro ok H locs ls L hw hS hl
  obtain ⟨r1, r2, r3, r4⟩ := hrm
  obtain ⟨x1, x2, x3⟩ := hsc
  have hM := m_cell (xs := xs) (h := h) (b := b) (n := n) (k := k) ok.2.2.2.2.2.2.2.2.2.2.2.1 hk hn D ca aK aV L H.size
  rw [m_cw0] at hM
  have hbL : b ∉ L := fun q => by
    obtain ⟨j, hj⟩ := va_pl_get (X := []) (f := m_E ca h) q
    exact x3 (hw.2.1.2 j _ hj)
  have hbH : b < H.size := Nat.lt_of_lt_of_le x2 hS.1
  have hrun := vx_runS (e := e) (below := below) (meth := meth) (locs := locs) (cells := kc) (slots := ks) (g := F0 m pc ls ([Value.ref b, Value.int (nI k)].reverse ++ rest)) (rest := rest) ⟨ok.1, ok.2.1, ok.2.2.1, ok.2.2.2.1, ok.2.2.2.2.1⟩ hM (va_cwS 2 ok.2.2.2.2.1 (m_gS ml_L_49 st_L_cell ini_RL co_L_cell) rfl rfl rfl (by decide +kernel) ⟨(show 0 + 1 ≤ R.frames by omega), (show 8 + (2 + 11) + 40 * 0 ≤ R.locals by omega)⟩) ⟨fun {a U g mk} q => by
      obtain ⟨q0, ⟨q1, qW, qK, qN, qE⟩, qX, qb, qL⟩ := q
      exact ⟨q0, ⟨q1, qW, va_K.moved (u := U) (U := U.calling g mk a) (Vm.Alike.refl U.vm) qK, m_nw_same (u := U) (U := U.calling g mk a) rfl qN, m_ex.same (u := U) (U := U.calling g mk a) rfl qE⟩, va_X.moved (u := U) (U := U.calling g mk a) (Vm.Alike.refl U.vm) qX, qb, qL⟩, fun U hU hW => ⟨rfl, m_go hw hS ok.2.2.2.2.2.1 ok.2.2.2.2.2.2.1 ok.2.2.2.2.2.2.2.2.2.2.2.2.1 U hU hW, by rw [hU]; exact va_X.moved hW.alike (x1.kept (hS.2.1 b x2 x3)), hbH, hbL⟩⟩ rfl rfl hl.1 rfl (lv_room hcat) hd ⟨Nat.le_trans hmc r3, Nat.le_trans hms r4⟩
  exact m_ret hw hS ok.2.2.2.2.2.2.2.1 hrun (fun v h' H1 locs1 L1 hq hw1 hS1 => by
    obtain ⟨rfl, rfl⟩ := hq
    exact kk ok H1 locs1 ls L1 hw1 hS1 hl) (fun E h' H1 locs1 L1 q ce hq hgh hw1 hS1 g1 g2 g3 => hq.elim)
end SML
