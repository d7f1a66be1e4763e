/-! THE LAW'S OWN WALK: rows -/
def R_law : String := "StreamDeskLaw"
def lw_P (b : Addr) (xs : List Int32) (args : Array Value) (s : State) : Prop := args = #[.ref b] ∧ s.IntsAt b xs ∧ xs.length ≤ 3072 ∧ (Jvm.Cond.and given_1 narrow_1).before args s = true
/-- what a walk over the start with the record d0 says of its end, said of the start itself -/
theorem lw_closed {s t : State} {o : Outcome} {d0 : Drawn} {L : List Loc} {k n : Nat} (hd0 : s.drawn.sameBut d0 lw_cs) (hv : ∃ v, o = .returned v) (hW : (s.setDrawn d0).WarmedH t.vm) (hs : (s.setDrawn d0).sameButNew ({ t with vm := s.vm } : State) L k n) : State.butDraws s t lw_cs (fun t1 => Framed s o t1 L k n) := by
  have h2 : t.drawn = d0 := congrArg State.drawn hs.1
  refine ⟨⟨hv, hW, State.sameButNew.setDrawn hs s.drawn⟩, ?_, by decide⟩
  rw [h2]
  exact hd0
def lw_Q (_ : Array Value) (s : State) (o : Outcome) (t : State) : Prop := o = .returned (some (.int 1)) ∧ State.butDraws s t lw_cs (fun t1 => Framed s o t1 [] 177588 8563342)
def lw_Z (below : List Frame) (a : Array Value) (s : State) : State → Prop := fun t => ∃ o, t.status = .running ∧ Ended t below o ∧ lw_Q a s o t
/-- the law's own end, with 1 on the stack, nothing written that was there before, its room as the claim has it; d0: the record of draws at this point (at the entry s.drawn: begin with 'refine W.base ?_' and 'have hd0 := Drawn.sameBut.refl s.drawn lw_cs') -/
theorem lw_ret {p : Program} {l : Launch} {e : Env} {s : State} {m : MethodId} {below : List Frame} {meth : Method} {c : Code} {b : Nat} {d0 : Drawn} (hd0 : s.drawn.sameBut d0 lw_cs) (hx : p.tables.exec = Jvm.exec) (hb : c.code = code) (hr : meth.sig.returnType = ret) (hlocks : meth.locks = false) {pc : Nat} {H : Heap} {ls : Array Slot} (hdg : decode code pc = .ok (.ireturn, 1)) : W p l e room_1 (s.setDrawn d0) m #[Value.ref b] below meth c H [] 177588 8563342 (lw_Z below #[Value.ref b] s) (F0 m pc ls [.int 1]) := by
  intro T hT X
  obtain ⟨fs, hret, hrun, hended, hW, hframe⟩ := X.leave (v := some (.int 1)) (hlocks := hlocks) (fun h => by rw [hr] at h; cases h)
  have hmeth' : T.vm.method? m = some meth := X.method'
  refine ⟨T.setFrames fs, ?_, .returned (some (.int 1)), hrun, hended, rfl, lw_closed hd0 ⟨_, rfl⟩ hW hframe⟩
  jvm_step X.here [X.here.top, hx, hb, hdg, hmeth', hr, ret, narrow_b1]
  (try refine ⟨rfl, ?_⟩); (try refine ⟨rfl, ?_⟩)
  first | (intro acts; rw [hret _ acts rfl rfl rfl]) | rw [hret _ _ rfl rfl rfl]
  exact Steps.refl _
abbrev mLaw : MI := (RL, code, 9, yL_law, ret, [])
def scrOk (x : Cxt) (b L : Nat) (xs : Nat → Int32) : Prop := match x with
  | (_, _, _, _, s, _, _, _, _, _, _, A, _, _, _, _) => va_X b L xs s s.heap ∧ b < s.heap.size ∧ ¬ A b
def finL (x : Cxt) : Prop := match x with
  | (_, _, _, R, s, _, args, below, _, _, Q, A, _, _, _, _) => R = room_1 ∧ ∃ (s0 : State) (d0 : Drawn) (b : Nat), s = s0.setDrawn d0 ∧ s0.drawn.sameBut d0 lw_cs ∧ args = #[Value.ref b] ∧ Q = lw_Z below #[Value.ref b] s0 ∧ ∀ q, A q → s.heap.size ≤ q
section LR
variable {x : Cxt} {M : MI} {pc pc' kc ks b L : Nat} {xs : Nat → Int32} {lv : List (Nat × Value)} {st : List Value} {h : Hp}
theorem w_sld {i : Nat} (hsc : scrOk x b L xs) (hi : i < L) (hL : L ≤ 3072) (hd : decode M.2.1 pc = .ok (.iaload, 1)) (hp : pc + 1 = pc') (k : wp x M pc' lv (.int (xs i) :: st) h kc ks) : wp x M pc lv (.int (nI i) :: .ref b :: st) h kc ks := by
  obtain ⟨p, l, e, R, s, m, args, below, meth, cd, Q, A, D, ca, aK, aV⟩ := x
  obtain ⟨own, cc, nL, y, ret, hh⟩ := M
  subst hp
  intro ok H locs ls Ls hw hS hl
  obtain ⟨h1, h2, h3⟩ := hsc
  have e1 : Int32.toNatClampNeg (nI i) = i := n_cl (by omega)
  refine va_sld ok.1 ok.2.1 h1 h2 h3 hS (vp_in_nI hi (by omega)) hd ?_
  rw [e1]
  exact k ok H locs ls Ls hw hS hl
theorem w_slen (hsc : scrOk x b L xs) (hd : decode M.2.1 pc = .ok (.arraylength, 1)) (hp : pc + 1 = pc') (k : wp x M pc' lv (.int (nI L) :: st) h kc ks) : wp x M pc lv (.ref b :: st) h kc ks := by
  obtain ⟨p, l, e, R, s, m, args, below, meth, cd, Q, A, D, ca, aK, aV⟩ := x
  obtain ⟨own, cc, nL, y, ret, hh⟩ := M
  subst hp
  intro ok H locs ls Ls hw hS hl
  obtain ⟨h1, h2, h3⟩ := hsc
  exact va_slen ok.1 ok.2.1 h1 h2 h3 hS hd (k ok H locs ls Ls hw hS hl)
/-- the end -/
theorem w_lawret (hf : finL x) (hd : decode code pc = .ok (.ireturn, 1)) (h1 : kc ≤ 177588) (h2 : ks ≤ 8563342) : wp x mLaw pc lv [.int 1] h kc ks := by
  obtain ⟨p, l, e, R, s, m, args, below, meth, cd, Q, A, D, ca, aK, aV⟩ := x
  obtain ⟨rfl, s0, d0, b, rfl, hd0, rfl, rfl, hA⟩ := hf
  intro ok H locs ls Ls hw hS hl
  refine va_forget (fun q hq => hA _ (hS.2.2 q hq)) ?_
  refine W.widen h1 h2 ?_
  exact lw_ret hd0 ok.1 ok.2.1 ok.2.2.2.2.2.2.2.2.1 ok.2.2.2.2.2.2.2.2.2.1 hd
/-- an argument out of the script -/
theorem w_sarg {i c : Nat} {cI : Int} (k0 k4 : Nat) (hsc : scrOk x b L xs) (hL : L ≤ 3072) (hi : i + c < L) (h0 : lv[k0]? = some (0, .ref b)) (h4 : lv[k4]? = some (4, .int (nI i))) (hc : Int32.ofInt cI = nI c) (d0 : decode code pc = .ok (.aload_n 0, 1)) (d1 : decode code (pc + 1) = .ok (.iload 4, 2)) (d2 : decode code (pc + 3) = .ok (.iconst cI, 1)) (d3 : decode code (pc + 4) = .ok (.iadd, 1)) (d4 : decode code (pc + 5) = .ok (.iaload, 1)) (hp : pc + 6 = pc') (k : wp x mLaw pc' lv (.int (xs (i + c)) :: st) h kc ks) : wp x mLaw pc lv st h kc ks := by
  refine w_aload_n k0 d0 rfl rfl h0 ?_
  refine w_iload k4 d1 rfl h4 ?_
  refine w_iconst (nI c) d2 rfl hc ?_
  refine w_iadd d3 rfl ?_
  rw [n_add]
  exact w_sld hsc hi hL d4 hp k
/-- a number as a truth -/
theorem w_bit {z : Int32} (d0 : decode code pc = .ok (.ifCond .eq 7, 3)) (d1 : decode code (pc + 3) = .ok (.iconst 1, 1)) (d2 : decode code (pc + 4) = .ok (.goto 4, 3)) (d3 : decode code (pc + 7) = .ok (.iconst 0, 1)) (hp : pc + 8 = pc') (k : wp x mLaw pc' lv (.int (if z = 0 then 0 else 1) :: st) h kc ks) : wp x mLaw pc lv (.int z :: st) h kc ks := by
  subst hp
  refine w_if_eq (pc + 7) d0 rfl (by omega) (fun q => ?_) (fun q => ?_)
  · rw [if_pos q] at k
    exact w_iconst 0 d3 rfl rfl k
  · rw [if_neg q] at k
    refine w_iconst 1 d1 rfl rfl ?_
    exact w_goto (pc + 8) d2 (by omega) k
end LR
def LI (b : Nat) (A : Nat → Nat → Nat → Nat) (i : Nat) : List (Nat × Value) := [(4, .int (nI i)), (3, .ref (A 1984 0 0)), (2, .ref (A 14 0 0)), (1, .ref (A 11 0 0)), (0, .ref b)]
/-- the walk goes on at the loop's end -/
def NX (x : Cxt) (b i T kc ks : Nat) : Prop := ∀ (A' : Nat → Nat → Nat → Nat) (h' : Hp) (σ' ρ' : Zs) (T' kc' ks' : Nat), Rp A' h' σ' ρ' → Rel T' σ' ρ' → kc' + 3 * T' ≤ kc + 3 * T + 210 → ks' + 22 * T' ≤ ks + 22 * T + 8000 → wp x mLaw 1563 (LI b A' i) [] h' kc' ks'
def kO (Ls : List String) (v : Except String Int64) : Int32 := match v with
  | .ok _ => 0
  | .error E => codL Ls 1 E
def oS (v : Except String Int64) (σ : Zs) : Zs := match v with
  | .ok a => sJ σ 1984 0 0 0 a
  | .error _ => σ
theorem qw_n {A : Nat → Nat → Nat → Nat} {Ls : List String} {v : Except String Int64} {σ ρ : Zs} {r : Option Value} {h : Hp} (hq : QW A (codL Ls 1) v σ ρ r h) : r = some (.int (kO Ls v)) ∧ Rp A h (oS v σ) ρ := by
  cases v <;> exact hq
theorem Rl.o1984 {B P Q S g L : Nat} {d : Pd} {X : Nat → Nat → Nat} {σ ρ : Zs} (h : Rl B P Q S g L d X σ ρ) {a : Int64} : Rl B P Q S g L d X (sJ σ 1984 0 0 0 a) ρ := by
  obtain ⟨h1, h2, h3, h4, h5, h6, h7⟩ := h
  exact ⟨h1, ⟨h2.1, h2.2.1, h2.2.2.1, h2.2.2.2⟩, h3.sw h3.2.2.2, h4, h5, h6, h7⟩
theorem rel_o {B : Nat} {σ ρ : Zs} {v : Except String Int64} (h : Rel B σ ρ) : Rel B (oS v σ) ρ := by
  obtain ⟨P, Q, S, g, L, d, X, h⟩ := h
  cases v with
  | ok a => exact h.o1984.rel
  | error E => exact h.rel
theorem ans_E {α : Type} {Ls : List String} {v : Except String α} {w : α} {t : Int32} (h : Ans Ls v w t) : okE v Ls := by
  rintro E rfl
  exact h.1
theorem ans_I {Ls : List String} {v : Except String Int32} {w t : Int32} (h : Ans Ls v w t) : Ans Ls (toJ v) w.toInt64 t := by
  cases v with
  | ok a => exact ⟨h.1, by rw [h.2]⟩
  | error E => exact h
theorem ans_k {Ls : List String} {v : Except String Int64} {w : Int64} {t : Int32} (h : Ans Ls v w t) : t = kO Ls v := by
  cases v with
  | ok a => exact h.1
  | error E => exact h.2
/-- what stands in the row when nothing was thrown -/
theorem ans_o {Ls : List String} {v : Except String Int64} {w : Int64} {t : Int32} {σ : Zs} (h : Ans Ls v w t) (hn : ∀ E, E ∈ Ls → codL Ls 1 E ≠ 0) (h0 : kO Ls v = 0) : zJ (oS v σ) 1984 0 0 0 = w := by
  cases v with
  | ok a =>
    show zJ (sJ σ 1984 0 0 0 a) 1984 0 0 0 = w
    rw [zJ_sJ, if_pos ⟨rfl, rfl, rfl, rfl⟩]
    exact h.2
  | error E => exact absurd h0 (hn E h.1)
theorem lg_self (a : Int64) : lg_cmp a a = 0 := l_cmp0.mpr rfl
section LT
variable {x : Cxt} {b i kc ks p : Nat} {A : Nat → Nat → Nat → Nat} {h : Hp} {σ ρ : Zs} {Ls : List String} {v : Except String Int64}
/-- both answers compared: ints -/
theorem tail_i {w : Int32} (hrm : m_rm 2048 177588 8563342 x) (hz : Rp A h (oS v σ) ρ) (hA : Ans Ls v w.toInt64 (zI ρ 896 0 0 0)) (hn : ∀ E, E ∈ Ls → codL Ls 1 E ≠ 0) (hk1 : kc ≤ 177588) (hk2 : ks ≤ 8563342) {off : Int}
    (d0 : decode code p = .ok (.istore 6, 2)) (d1 : decode code (p + 2) = .ok (.aload_n 2, 1)) (d2 : decode code (p + 3) = .ok (.invokevirtual 93, 3)) (d3 : decode code (p + 6) = .ok (.iload 5, 2)) (d4 : decode code (p + 8) = .ok (.if_icmp .eq 5, 3)) (d5 : decode code (p + 13) = .ok (.iload 5, 2)) (d6 : decode code (p + 15) = .ok (.ifCond .ne 15, 3)) (d7 : decode code (p + 18) = .ok (.aload_n 3, 1)) (d8 : decode code (p + 19) = .ok (.iconst 0, 1)) (d9 : decode code (p + 20) = .ok (.laload, 1)) (d10 : decode code (p + 21) = .ok (.iload 6, 2)) (d11 : decode code (p + 23) = .ok (.i2l, 1)) (d12 : decode code (p + 24) = .ok (.lcmp, 1)) (d13 : decode code (p + 25) = .ok (.ifCond .eq 5, 3)) (d14 : decode code (p + 30) = .ok (.goto off, 3)) (ho : ((p + 30 : Nat) : Int) + off = ((1563 : Nat) : Int))
    (k : ∀ h2, Rp A h2 (oS v σ) ρ → wp x mLaw 1563 (LI b A i) [] h2 kc ks) : wp x mLaw p ((5, .int (kO Ls v)) :: LI b A i) [.int w] h kc ks := by
  refine w_istore ((6, .int w) :: (5, .int (kO Ls v)) :: LI b A i) d0 rfl (by decide) rfl ?_
  refine w_aload_n 4 d1 rfl rfl rfl ?_
  refine c_L_93 (b := A 14 0 0) (As := []) (rest := []) (fun l => s_X14_thrown hz rfl l) hrm d2 rfl rfl (by decide) hk1 hk2 (hz.o14 rfl) rfl (by decide) (fun vr h2 hq => ?_) (fun _ _ hq => hq.elim)
  obtain ⟨rfl, hz2⟩ := hq
  refine w_iload 1 d3 rfl rfl ?_
  have hLV : ∀ {pc : Nat}, wp x mLaw pc (LI b A i) [] h2 kc ks → wp x mLaw pc ((6, .int w) :: (5, .int (kO Ls v)) :: LI b A i) [] h2 kc ks := fun k => w_lv _ [2, 3, 4, 5, 6] rfl k
  refine w_icmp_eq (p + 13) d4 rfl (by omega) (fun _ => ?_) (fun q => absurd (ans_k hA) q)
  refine w_iload 1 d5 rfl rfl ?_
  refine w_if_ne (p + 30) d6 rfl (by omega) (fun _ => ?_) (fun q => ?_)
  · exact w_goto 1563 d14 ho (hLV (k h2 hz2))
  · refine w_aload_n 3 d7 rfl rfl rfl ?_
    refine w_iconst 0 d8 rfl rfl ?_
    refine w_lald (v := w.toInt64) d9 rfl (hz2.k960 rfl) (gin (hz2.n960 rfl) (by decide)) ((hz2.x960 rfl).trans (ans_o hA hn q)) ?_
    refine w_iload 0 d10 rfl rfl ?_
    refine w_i2l d11 rfl ?_
    refine w_lcmp d12 rfl ?_
    refine w_if_eq (p + 30) d13 rfl (by omega) (fun _ => ?_) (fun q => absurd (lg_self _) q)
    exact w_goto 1563 d14 ho (hLV (k h2 hz2))
/-- .. longs -/
theorem tail_j {w : Int64} (hrm : m_rm 2048 177588 8563342 x) (hz : Rp A h (oS v σ) ρ) (hA : Ans Ls v w (zI ρ 896 0 0 0)) (hn : ∀ E, E ∈ Ls → codL Ls 1 E ≠ 0) (hk1 : kc ≤ 177588) (hk2 : ks ≤ 8563342) {off : Int}
    (d0 : decode code p = .ok (.lstore 6, 2)) (d1 : decode code (p + 2) = .ok (.aload_n 2, 1)) (d2 : decode code (p + 3) = .ok (.invokevirtual 93, 3)) (d3 : decode code (p + 6) = .ok (.iload 5, 2)) (d4 : decode code (p + 8) = .ok (.if_icmp .eq 5, 3)) (d5 : decode code (p + 13) = .ok (.iload 5, 2)) (d6 : decode code (p + 15) = .ok (.ifCond .ne 14, 3)) (d7 : decode code (p + 18) = .ok (.aload_n 3, 1)) (d8 : decode code (p + 19) = .ok (.iconst 0, 1)) (d9 : decode code (p + 20) = .ok (.laload, 1)) (d10 : decode code (p + 21) = .ok (.lload 6, 2)) (d12 : decode code (p + 23) = .ok (.lcmp, 1)) (d13 : decode code (p + 24) = .ok (.ifCond .eq 5, 3)) (d14 : decode code (p + 29) = .ok (.goto off, 3)) (ho : ((p + 29 : Nat) : Int) + off = ((1563 : Nat) : Int))
    (k : ∀ h2, Rp A h2 (oS v σ) ρ → wp x mLaw 1563 (LI b A i) [] h2 kc ks) : wp x mLaw p ((5, .int (kO Ls v)) :: LI b A i) [.long w] h kc ks := by
  refine w_lstore ((6, .long w) :: (5, .int (kO Ls v)) :: LI b A i) d0 rfl (by decide) rfl ?_
  refine w_aload_n 4 d1 rfl rfl rfl ?_
  refine c_L_93 (b := A 14 0 0) (As := []) (rest := []) (fun l => s_X14_thrown hz rfl l) hrm d2 rfl rfl (by decide) hk1 hk2 (hz.o14 rfl) rfl (by decide) (fun vr h2 hq => ?_) (fun _ _ hq => hq.elim)
  obtain ⟨rfl, hz2⟩ := hq
  refine w_iload 1 d3 rfl rfl ?_
  have hLV : ∀ {pc : Nat}, wp x mLaw pc (LI b A i) [] h2 kc ks → wp x mLaw pc ((6, .long w) :: (5, .int (kO Ls v)) :: LI b A i) [] h2 kc ks := fun k => w_lv _ [2, 3, 4, 5, 6] rfl k
  refine w_icmp_eq (p + 13) d4 rfl (by omega) (fun _ => ?_) (fun q => absurd (ans_k hA) q)
  refine w_iload 1 d5 rfl rfl ?_
  refine w_if_ne (p + 29) d6 rfl (by omega) (fun _ => ?_) (fun q => ?_)
  · exact w_goto 1563 d14 ho (hLV (k h2 hz2))
  · refine w_aload_n 3 d7 rfl rfl rfl ?_
    refine w_iconst 0 d8 rfl rfl ?_
    refine w_lald (v := w) d9 rfl (hz2.k960 rfl) (gin (hz2.n960 rfl) (by decide)) ((hz2.x960 rfl).trans (ans_o hA hn q)) ?_
    refine w_lload 0 d10 rfl rfl ?_
    refine w_lcmp d12 rfl ?_
    refine w_if_eq (p + 29) d13 rfl (by omega) (fun _ => ?_) (fun q => absurd (lg_self _) q)
    exact w_goto 1563 d14 ho (hLV (k h2 hz2))
end LT
theorem cn_S : ∀ E, E ∈ ["java/lang/IllegalStateException"] → codL ["java/lang/IllegalStateException"] 1 E ≠ 0 := by
  intro E hE
  simp only [List.mem_cons, List.not_mem_nil, or_false] at hE
  subst hE; decide
theorem cn_A : ∀ E, E ∈ ["java/lang/IllegalArgumentException"] → codL ["java/lang/IllegalArgumentException"] 1 E ≠ 0 := by
  intro E hE
  simp only [List.mem_cons, List.not_mem_nil, or_false] at hE
  subst hE; decide
theorem cn_I : ∀ E, E ∈ ["java/lang/IndexOutOfBoundsException"] → codL ["java/lang/IndexOutOfBoundsException"] 1 E ≠ 0 := by
  intro E hE
  simp only [List.mem_cons, List.not_mem_nil, or_false] at hE
  subst hE; decide
theorem cn_IAS : ∀ E, E ∈ ["java/lang/IndexOutOfBoundsException", "java/lang/IllegalArgumentException", "java/lang/IllegalStateException"] → codL ["java/lang/IndexOutOfBoundsException", "java/lang/IllegalArgumentException", "java/lang/IllegalStateException"] 1 E ≠ 0 := by
  intro E hE
  simp only [List.mem_cons, List.not_mem_nil, or_false] at hE
  rcases hE with rfl | rfl | rfl <;> decide
theorem cn_IS : ∀ E, E ∈ ["java/lang/IndexOutOfBoundsException", "java/lang/IllegalStateException"] → codL ["java/lang/IndexOutOfBoundsException", "java/lang/IllegalStateException"] 1 E ≠ 0 := by
  intro E hE
  simp only [List.mem_cons, List.not_mem_nil, or_false] at hE
  rcases hE with rfl | rfl <;> decide
