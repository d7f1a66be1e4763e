/-! THE REFERENCE'S EXCEPTION -/
section K20
variable {x : Cxt} {cc : ByteArray} {nL pc pc' : Nat} {own : String} {y : MethodName} {ret : Option FieldType} {hh : List (Nat × Nat × Nat × Nat)} {lv : List (Nat × Value)} {st : List Value} {h : Hp} {kc ks dd Mc Ms : Nat}
theorem w_athrow {q : Nat} (hd : decode cc pc = .ok (.athrow, 1)) (hk : m_K h q = 13) (k : wx x (own, cc, nL, y, ret, hh) pc lv RX13 (p_R h 1023 0 (some q)) kc ks) : wp x (own, cc, nL, y, ret, hh) pc lv (.ref q :: st) h kc ks := by
  obtain ⟨p, l, e, R, s, m, args, below, meth, cd, Q, A, D, ca, aK, aV⟩ := x
  intro ok H locs ls L hw hS hl
  obtain ⟨k0, hk0⟩ := m_at hw hk (by omega)
  rw [m_E_o hk (by decide)] at hk0
  obtain ⟨q', h1, cell, g1, g2, g3, -⟩ := hw.1 k0 _ hk0
  refine vx_athrow ok.1 ok.2.1 hd ?_
  exact k ok H locs ls L q cell st g_RRs hw.gh hS hl g1 (by rw [g3]) (by
    have e9 : q'.1 = RX13 := congrArg Prod.fst (Option.some.inj (h1.symm.trans (show vwCl[13]? = some (RX13, TX13, 8) from rfl)))
    rw [g2, ← e9]
    exact (ok.2.2.2.2.2.1.1 13 _ h1).2.1)
end K20
def WR (A : Nat → Nat → Nat → Nat) (q : Nat) (w : Int32 × Int32) (σ ρ : Zs) (h : Hp) : Prop := m_K h q = 13 ∧ m_I h 838 q = w.1 ∧ m_I h 839 q = w.2 ∧ Rp A h σ ρ
/-- .. of a method that throws it -/
def XW (A : Nat → Nat → Nat → Nat) (w : Int32 × Int32) (σ ρ : Zs) : String → Hp → Prop := fun E h => E = RX13 ∧ ∃ q, m_R h 1023 0 = some q ∧ WR A q w σ ρ h
def QF : Option Value → Hp → Prop := fun _ _ => False
theorem WR.gh {A : Nat → Nat → Nat → Nat} {q : Nat} {w : Int32 × Int32} {σ ρ : Zs} {h : Hp} (hw : WR A q w σ ρ h) : XW A w σ ρ RX13 (p_R h 1023 0 (some q)) := ⟨rfl, q, g_RRs, hw.1, hw.2.1, hw.2.2.1, hw.2.2.2.gh⟩
theorem WR.made {A : Nat → Nat → Nat → Nat} {q : Nat} {a b : Int32} {σ ρ : Zs} {h : Hp} {r1 r2 : Option Nat} (hk : m_K h q = 13) (hz : Rp A h σ ρ) (hq : fgn A q) : WR A q (a, b) σ ρ (p_I (p_I (tw h q r1 r2) 838 q a) 839 q b) :=
  ⟨hk, g_IIc (by decide) g_IIs, g_IIs, ((((((hz.fR hq).fR hq).fR hq).fR hq).fI hq).fI hq)⟩
noncomputable def fX14_wrong (ρ : Zs) : Option ((Int32 × Int32) × Zs) := if gi (zI ρ 905 0 0 0) 1501 then some ((1, zI ρ 1927 0 0 (Int32.toNatClampNeg (zI ρ 905 0 0 0))), ρ) else none
theorem s_X14_wrong {A : Nat → Nat → Nat → Nat} {h : Hp} {σ ρ ρ' : Zs} {w : Int32 × Int32} (hz : Rp A h σ ρ) (hr : fX14_wrong ρ = some (w, ρ')) : ∀ l : Launch, Sp l mX14_wrong 13 1 8 [.ref (A 14 0 0)] h (fun r h' => ∃ q, r = some (.ref q) ∧ WR A q w σ ρ' h') X0 := by
  intro l
  unfold fX14_wrong at hr
  obtain ⟨g, hr⟩ := gd hr
  obtain ⟨rfl, rfl⟩ := ret_inj hr
  refine Sp.of rfl rfl (lv := [(0, .ref (A 14 0 0))]) (Nat.le_of_ble_eq_true rfl) rfl (fun x hf hrm => ?_)
  refine wm_new (C := RX13) (T := TX13) (N := 8) (ci := 13) hrm tyX13 dX14_wrong_0 rfl cl_X14_207 is_X13 ini_RX13 rfl (by decide) rfl in_X13 tyX13_ok (by decide +kernel) (Nat.le_of_ble_eq_true rfl) (Nat.le_of_ble_eq_true rfl) (fun q hq => ?_)
  have hg := hz.fg hq
  have hz := hz.newO (c := 13) hq
  have hk : m_K (n_O h q 13) q = 13 := va_up_self _ _ _
  refine wm_dup dX14_wrong_3 rfl rfl ?_
  refine wm_iconst 1 dX14_wrong_4 rfl rfl ?_
  refine wm_aload_n 0 dX14_wrong_5 rfl rfl rfl ?_
  refine gm_X14_27 dX14_wrong_6 rfl (hz.o14 rfl) (hz.r903 rfl) ?_
  refine wm_aload_n 0 dX14_wrong_9 rfl rfl rfl ?_
  refine gm_X14_204 dX14_wrong_10 rfl (hz.o14 rfl) (hz.i905 rfl) ?_
  refine wm_iald dX14_wrong_13 rfl (hz.k903 rfl) (gin (hz.n903 rfl) g) (hz.x903 rfl) ?_
  refine wm_callIN (n := 2) (b := q) (As := [.int 1, .int (zI ρ 1927 0 0 (Int32.toNatClampNeg (zI ρ 905 0 0 0)))]) (rest := [.ref q]) (fun l => s_X13_init hk (if_pos rfl) l) hrm dX14_wrong_14 rfl ml_X14_209 im_X13_init ini_RX13 co_X13_init rfl (by decide +kernel) rfl (Nat.le_of_ble_eq_true rfl) (by decide) (Nat.le_of_ble_eq_true rfl) (Nat.le_of_ble_eq_true rfl) rfl (Nat.le_of_ble_eq_true rfl) (fun vr h2 hq => ?_) (fun E9 h9 hq => hq.elim)
  obtain ⟨rfl, r1, r2, rfl⟩ := hq
  refine w_aret hf dX14_wrong_17 rfl (Or.inl ⟨_, rfl⟩) (Or.inr ⟨_, rfl⟩) (Nat.le_of_ble_eq_true rfl) (Nat.le_of_ble_eq_true rfl) ?_
  exact ⟨q, rfl, WR.made hk hz hg⟩
def bwk {α β : Type} (v : Except (Int32 × Int32) α) (z : Zs) (k : α → Zs → Option (Except (Int32 × Int32) β × Zs)) : Option (Except (Int32 × Int32) β × Zs) := match v with
  | .ok w => k w z
  | .error e => some (.error e, z)
def bw {α β : Type} (o : Option (Except (Int32 × Int32) α × Zs)) (k : α → Zs → Option (Except (Int32 × Int32) β × Zs)) : Option (Except (Int32 × Int32) β × Zs) := match o with
  | some (v, z) => bwk v z k
  | none => none
theorem bw_some {α β : Type} {o : Option (Except (Int32 × Int32) α × Zs)} {k : α → Zs → Option (Except (Int32 × Int32) β × Zs)} {r : Except (Int32 × Int32) β × Zs} (h : bw o k = some r) : ∃ v z, o = some (v, z) ∧ bwk v z k = some r := by
  rcases o with _ | ⟨v, z⟩
  · cases h
  · exact ⟨v, z, rfl, h⟩
theorem bw_ok {α β : Type} {w : α} {z : Zs} {k : α → Zs → Option (Except (Int32 × Int32) β × Zs)} {r : Option (Except (Int32 × Int32) β × Zs)} (h : bwk (.ok w) z k = r) : k w z = r := h
theorem bw_er {α β : Type} {e : Int32 × Int32} {z : Zs} {k : α → Zs → Option (Except (Int32 × Int32) β × Zs)} {r : Option (Except (Int32 × Int32) β × Zs)} (h : bwk (.error e) z k = r) : some (.error e, z) = r := h
noncomputable def fX14_must (x1 x2 x3 : Int32) (ρ : Zs) : Option (Except (Int32 × Int32) Unit × Zs) := if zI ρ 906 0 0 0 = 0 then some (.ok (), ρ) else (if x1 = 0 then some (.error (x2, x3), ρ) else some (.ok (), ρ))
theorem retw {α ε : Type} {v w : α} {z y : Zs} (h : some ((Except.ok v : Except ε α), z) = some (Except.ok w, y)) : v = w ∧ z = y := by cases h; exact ⟨rfl, rfl⟩
theorem rete {α ε : Type} {v w : ε} {z y : Zs} (h : some ((Except.error v : Except ε α), z) = some (Except.error w, y)) : v = w ∧ z = y := by cases h; exact ⟨rfl, rfl⟩
theorem noko {α ε : Type} {e : ε} {z y : Zs} {v : α} {P : Prop} (h : some (Except.error e, z) = some (Except.ok v, y)) : P := by cases h
theorem noek {α ε : Type} {e : ε} {z y : Zs} {v : α} {P : Prop} (h : some (Except.ok v, z) = some (Except.error e, y)) : P := by cases h
theorem t_X14_must {A : Nat → Nat → Nat → Nat} {h : Hp} {σ ρ ρ' : Zs} {v : Unit} {x1 x2 x3 : Int32} (hz : Rp A h σ ρ) (hr : fX14_must x1 x2 x3 ρ = some (.ok v, ρ')) : ∀ l : Launch, Sp l mX14_must 13 0 0 [.ref (A 14 0 0), .int x1, .int x2, .int x3] h (QV A v σ ρ') X0 := by
  intro l
  unfold fX14_must at hr
  refine Sp.of rfl rfl (lv := [(0, .ref (A 14 0 0)), (1, .int x1), (2, .int x2), (3, .int x3)]) (Nat.le_of_ble_eq_true rfl) rfl (fun x hf hrm => ?_)
  refine w_aload_n 0 dX14_must_0 rfl rfl rfl ?_
  refine g_X14_212 dX14_must_1 rfl (hz.o14 rfl) (hz.i906 rfl) ?_
  refine w_if_eq 21 dX14_must_4 rfl rfl (fun q4 => ?_) (fun q4 => ?_)
  · have hr := bt q4 hr
    refine w_vret hf dX14_must_21 rfl (Nat.le_of_ble_eq_true rfl) (Nat.le_of_ble_eq_true rfl) ?_
    obtain ⟨rfl, rfl⟩ := retw hr
    exact ⟨rfl, hz⟩
  · have hr := bf q4 hr
    refine w_iload_n 1 dX14_must_7 rfl rfl rfl ?_
    refine w_if_ne 21 dX14_must_8 rfl rfl (fun q8 => ?_) (fun q8 => ?_)
    · have hr := bf q8 hr
      refine w_vret hf dX14_must_21 rfl (Nat.le_of_ble_eq_true rfl) (Nat.le_of_ble_eq_true rfl) ?_
      obtain ⟨rfl, rfl⟩ := retw hr
      exact ⟨rfl, hz⟩
    · have hr := bt q8 hr
      exact noko hr
theorem e_X14_must {A : Nat → Nat → Nat → Nat} {h : Hp} {σ ρ ρ' : Zs} {v : Int32 × Int32} {x1 x2 x3 : Int32} (hz : Rp A h σ ρ) (hr : fX14_must x1 x2 x3 ρ = some (.error v, ρ')) : ∀ l : Launch, Sp l mX14_must 13 1 8 [.ref (A 14 0 0), .int x1, .int x2, .int x3] h QF (XW A v σ ρ') := by
  intro l
  unfold fX14_must at hr
  refine Sp.of rfl rfl (lv := [(0, .ref (A 14 0 0)), (1, .int x1), (2, .int x2), (3, .int x3)]) (Nat.le_of_ble_eq_true rfl) rfl (fun x hf hrm => ?_)
  refine w_aload_n 0 dX14_must_0 rfl rfl rfl ?_
  refine g_X14_212 dX14_must_1 rfl (hz.o14 rfl) (hz.i906 rfl) ?_
  refine w_if_eq 21 dX14_must_4 rfl rfl (fun q4 => ?_) (fun q4 => ?_)
  · have hr := bt q4 hr
    exact noek hr
  · have hr := bf q4 hr
    refine w_iload_n 1 dX14_must_7 rfl rfl rfl ?_
    refine w_if_ne 21 dX14_must_8 rfl rfl (fun q8 => ?_) (fun q8 => ?_)
    · have hr := bf q8 hr
      exact noek hr
    · have hr := bt q8 hr
      obtain ⟨rfl, rfl⟩ := rete hr
      refine wm_new (C := RX13) (T := TX13) (N := 8) (ci := 13) hrm tyX13 dX14_must_11 rfl cl_X14_207 is_X13 ini_RX13 rfl (by decide) rfl in_X13 tyX13_ok (by decide +kernel) (Nat.le_of_ble_eq_true rfl) (Nat.le_of_ble_eq_true rfl) (fun q hq => ?_)
      have hg := hz.fg hq
      have hz := hz.newO (c := 13) hq
      have hk : m_K (n_O h q 13) q = 13 := va_up_self _ _ _
      refine wm_dup dX14_must_14 rfl rfl ?_
      refine wm_iload_n 2 dX14_must_15 rfl rfl rfl ?_
      refine wm_iload_n 3 dX14_must_16 rfl rfl rfl ?_
      refine wm_callIN (n := 2) (b := q) (As := [.int x2, .int x3]) (rest := [.ref q]) (fun l => s_X13_init hk (if_pos rfl) l) hrm dX14_must_17 rfl ml_X14_209 im_X13_init ini_RX13 co_X13_init rfl (by decide +kernel) rfl (Nat.le_of_ble_eq_true rfl) (by decide) (Nat.le_of_ble_eq_true rfl) (Nat.le_of_ble_eq_true rfl) rfl (Nat.le_of_ble_eq_true rfl) (fun vr h2 hq => ?_) (fun E9 h9 hq => hq.elim)
      obtain ⟨rfl, r1, r2, rfl⟩ := hq
      refine w_athrow dX14_must_20 (q := q) hk ?_
      exact w_out hf (Nat.le_of_ble_eq_true rfl) (Nat.le_of_ble_eq_true rfl) (WR.made hk hz hg).gh
