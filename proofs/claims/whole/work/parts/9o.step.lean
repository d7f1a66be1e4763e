/-! ITEMS, both: a step's work, from its word to behind its first input -/
section ST
variable {x : Cx} {t : Nat} {σ ρ : Zs} {d : Pd}
/-- what stands while a step is made -/
def HB (x : Cx) (d : Pd) (L z : Nat) (nm : Int64) (σb ρb : Zs) : Prop := GoodD d ∧ OLD x d L z σb ρb ∧ dN d < 12 ∧ isName nm ∧ ∀ s, s < dN d → dNm d s ≠ nm
/-- behind its = -/
def SW0 (x : Cx) (d : Pd) (L z : Nat) (σb ρb : Zs) (nm : Int64) (np t : Nat) (σ ρ : Zs) : Prop :=
  (qM x = 0 → M0 x ρ ∧ zI ρ 911 0 0 0 = nI 0) ∧ (qM x = 1 → HB x d L z nm σb ρb ∧ SIx x d L z σb ρb t σ ρ ∧ zJ σ 448 (qS x) (dN d) 0 = nm ∧ zI σ 1476 (qS x) (dN d) 1 = -1 ∧ zI σ 202 0 0 0 = nI np ∧ zI σ 201 0 0 0 = nI 0 ∧ zI ρ 1798 (qG x) 0 (dN d) = -1 ∧ zI ρ 911 0 0 0 = nI 0)
/-- behind its first input -/
def SWK (x : Cx) (d : Pd) (L z : Nat) (σb ρb : Zs) (nm : Int64) (np K A wp t : Nat) (σ ρ : Zs) : Prop :=
  (qM x = 0 → M0 x ρ ∧ zI ρ 911 0 0 0 = nI 0 ∧ A = 0) ∧ (qM x = 1 → HB x d L z nm σb ρb ∧ SIx x d L z σb ρb t σ ρ ∧ A < dN d ∧ zJ σ 448 (qS x) (dN d) 0 = nm ∧ zI σ 449 (qS x) (dN d) 0 = nI K ∧ zI σ 1476 (qS x) (dN d) 0 = nI A ∧ zI σ 1476 (qS x) (dN d) 1 = -1 ∧ zI σ 202 0 0 0 = nI np ∧ zI σ 203 0 0 0 = nI wp ∧ zR σ 198 0 0 0 = (qS x, A)
    ∧ zI ρ 1794 (qG x) 0 (dN d) = nI K ∧ zI ρ 1797 (qG x) 0 (dN d) = nI A ∧ zI ρ 1798 (qG x) 0 (dN d) = -1 ∧ zI ρ 910 0 0 0 = nI A ∧ zI ρ 911 0 0 0 = nI 0 ∧ (K = 3 ∨ K = 7 → zI σ 201 0 0 0 = nI 0) ∧ (¬ (K = 3 ∨ K = 7) → zI σ 201 0 0 0 = nI (dW d A) ∧ ∀ j, j < dW d A → zJ σ 1224 0 0 j = dCn d A j))
theorem SIx.old {L z : Nat} {nm : Int64} {σb ρb : Zs} (h : SIx x d L z σb ρb t σ ρ) (hB : HB x d L z nm σb ρb) : OLD x d L z σ ρ := hB.2.1.fr h.2.2.2.1 h.2.2.2.2.1 (Nat.le_refl _) (Nat.le_refl _)
theorem OLD.col {L z s : Nat} (h : OLD x d L z σ ρ) (hG : GoodD d) (hs : s < dN d) : COL x s (dW d s) σ ρ ∧ (∀ c, c < dW d s → zJ σ 1475 (qS x) s c = dCn d s c) ∧ (∀ c, c < dW d s → zJ ρ 1796 (qG x) 0 (6 * s + c) = dCn d s c) ∧ 1 ≤ dW d s := by
  have hW := hG.1.2.2.1 s hs
  have hN := hG.1.1
  have c1 := (h.2.2.2.2.1 s hs)
  have c2 := (h.2.2.2.2.2.2.1 s hs)
  exact ⟨⟨by omega, hW.2.2.1, c1.2.2.1, c2.2.2.1, fun c hc => (c1.2.2.2.1 c hc).trans (c2.2.2.2.1 c hc).symm⟩, c1.2.2.2.1, c2.2.2.2.1, hW.2.1⟩
theorem M0.I {c i : Nat} {v : Int32} (h : M0 x ρ) (hn : c ≠ 768 ∧ c ≠ 781 ∧ c ≠ 1795) {q s : Nat} : M0 x (sI ρ c q s i v) := by
  obtain ⟨h1, h2, h3⟩ := h
  exact ⟨by rw [sI_c (fun z => hn.1 z.symm)]; exact h1, by rw [sI_c (fun z => hn.2.1 z.symm)]; exact h2, by rw [sI_c (fun z => hn.2.2 z.symm)]; exact h3⟩
/-- the law's words of a step -/
noncomputable def lWk (x1 w12 K : Int32) (B : Zs → Option (Except (Int32 × Int32) Unit × Zs)) (ρ9 : Zs) : Option (Except (Int32 × Int32) Unit × Zs) := if (zR ρ9 909 0 0 0).2 = 0 then if gi x1 12 then lt (sI ρ9 1794 ((zR ρ9 909 0 0 0).1) 0 (Int32.toNatClampNeg x1) K) fun ρ16 => if (zR ρ16 909 0 0 0).2 = 0 then if gi x1 12 then lt (sI ρ16 1797 ((zR ρ16 909 0 0 0).1) 0 (Int32.toNatClampNeg x1) w12) fun ρ21 => lt (sI ρ21 910 0 0 0 w12) fun ρ23 => B ρ23 else none else none else none else none
theorem lWk_e {n K : Nat} {w : Int32} {B : Zs → Option (Except (Int32 × Int32) Unit × Zs)} (hg : zR ρ 909 0 0 0 = (qG x, 0)) (hn : n < 12) : lWk (nI n) w (nI K) B ρ = B (sI (sI (sI ρ 1794 (qG x) 0 n (nI K)) 1797 (qG x) 0 n w) 910 0 0 0 w) := by
  have g : gi (nI n) 12 := (n_gi (by omega)).mpr hn
  have r2 : (zR ρ 909 0 0 0).2 = 0 := by rw [hg]
  have r1 : (zR ρ 909 0 0 0).1 = qG x := by rw [hg]
  have p2 : ∀ p i v, (zR (sI ρ 1794 p 0 i v) 909 0 0 0).2 = 0 := fun _ _ _ => r2
  have p1 : ∀ p i v, (zR (sI ρ 1794 p 0 i v) 909 0 0 0).1 = qG x := fun _ _ _ => r1
  unfold lWk
  rw [if_pos r2, if_pos g, lt_k, if_pos (p2 _ _ _), if_pos g, lt_k, lt_k, p1, r1, n_cl (show n < 2147483648 by omega)]
theorem s_wk (hc : Cok x) {σw : Zs} (hσw : σw = σ) {L z np K kd : Nat} {nm : Int64} {σb ρb : Zs} (hkd : kd < 32) (hK : 1 ≤ K ∧ K ≤ 7) (h : IP x 0 t σ ρ) (hD : SW0 x d L z σb ρb nm np t σ ρ) (hq : qk x t = kd) {R : Zs → Option (Unit × Zs)} (hR : ∀ σ0 z, St (qS x) 0 σ0 z → Wp1 (R z) fun _ => St0 (qS x) σ0) {B : Int32 → Zs → Option (Except (Int32 × Int32) Unit × Zs)} {Q : Unit → Zs → Unit → Zs → Prop}
    (g : ∀ A σ ρ, IP x 0 (t + 1 + 1) σ ρ → SWK x d L z σb ρb nm np K A (qp x t) (t + 1 + 1) σ ρ → (qM x = 1 → zI σ 456 (qS x) (dN d) 0 = zI σw 456 (qS x) (dN d) 0) → SM (Er0 x) (R σ) (B (nI A) ρ) Q) :
    SM (Er0 x) (bq (fX3_startWork (nI K) (nI (qp x t)) σ) fun _ z => bq (fX4_take (ck kd) z) fun _ z => bq (fX4_takeName 2 z) fun _ z => R z) (bw (fX14_take ρ) fun _ ρ4 => bw (fX14_streamNamed ρ4) fun w12 ρ9 => lWk (nI (sIdx x d)) w12 (nI K) (B w12) ρ9) Q := by
  obtain ⟨σ1, b1, b2, b3, b4, b5⟩ := s_work h (K := nI K) (p := nI (qp x t))
  have hI1 : IP x 0 t σ1 ρ := h.mf b2 b3
  obtain ⟨σ2, a1, a2, a3, ⟨ka, kp', kw, a4⟩, _⟩ := s_tk hc hI1 (by omega)
  rw [bq_e b1, bq_e (a1 (ck kd) (by rw [hq])), bw_e a2]
  -- the state behind the word, in the second reading
  have hm : qM x = 1 → HB x d L z nm σb ρb ∧ SIx x d L z σb ρb (t + 1) σ2 (sI ρ 905 0 0 0 (nI (t + 1))) ∧ zJ σ2 448 (qS x) (dN d) 0 = nm ∧ zI σ2 449 (qS x) (dN d) 0 = nI K ∧ zI σ2 1476 (qS x) (dN d) 1 = -1 ∧ zI σ2 202 0 0 0 = nI np ∧ zI σ2 201 0 0 0 = nI 0 ∧ zI σ2 203 0 0 0 = nI (qp x t) := fun m => by
    obtain ⟨g1, g2, g3, g4, g5, g6, g7, g8⟩ := hD.2 m
    have e1 : σ1 = sI (sI σ 449 (qS x) (dN d) 0 (nI K)) 203 0 0 0 (nI (qp x t)) := by rw [b4 g2.1, g2.2.2.1]
    have s1 : SIx x d L z σb ρb t σ1 ρ := by rw [e1]; exact (g2.cI (wI_S rfl) (by decide)).cI (wI_0 rfl) (by decide)
    rw [a4]
    refine ⟨g1, s1.av (Nat.le_succ t), ?_, ?_, ?_, ?_, ?_, ?_⟩
    · show zJ σ1 448 (qS x) (dN d) 0 = _; rw [e1]; exact g3
    · show zI σ1 449 (qS x) (dN d) 0 = _; rw [e1, sI_c (by decide), zI_sI, if_pos ⟨rfl, rfl, rfl, rfl⟩]
    · show zI σ1 1476 (qS x) (dN d) 1 = _; rw [e1, sI_c (by decide), sI_c (by decide)]; exact g4
    · show zI σ1 202 0 0 0 = _; rw [e1, sI_c (by decide), sI_c (by decide)]; exact g5
    · show zI σ1 201 0 0 0 = _; rw [e1, sI_c (by decide), sI_c (by decide)]; exact g6
    · show zI σ1 203 0 0 0 = _; rw [e1, zI_sI, if_pos ⟨rfl, rfl, rfl, rfl⟩]
  have hop : qM x = 1 → ∀ A, A < dN d → fX5_streamNamed (qS x) (qw x (t + 1)) σ2 = some (nI A, σ2) → ∃ σ3, fX3_lookAtName 2 (qw x (t + 1)) (nI (qp x (t + 1))) σ2 = some ((), σ3) ∧ FIn (qS x) (dN d) K A (dW d A) σ2 σ3 := fun m A hA hs => by
    obtain ⟨g1, g2, g3, g4, g5, g6, g7, g8⟩ := hm m
    obtain ⟨c1, _⟩ := (g2.old g1).col g1.1 hA
    have hN := g1.1.1.1
    exact fi_C g2.1 g2.2.1 g2.2.2.1 a3.1.2.1.1 g4 (by omega) (by omega) hs c1.2.2.1 c1.2.1
  have hno : qM x = 1 → fX5_streamNamed (qS x) (qw x (t + 1)) σ2 = some (-nI 1, σ2) → fX3_lookAtName 2 (qw x (t + 1)) (nI (qp x (t + 1))) σ2 = bq (fX3_report 2 (nI (qp x (t + 1))) σ2) fun _ z => some ((), z) := fun m hs => by
    obtain ⟨g1, g2, g3, g4, g5, g6, g7, g8⟩ := hm m
    exact fi_no g2.1 a3.1.2.1.1 hs
  have hnm : qM x = 1 → zI σ2 192 0 0 0 = 0 ∧ NMS x d σ2 (sI ρ 905 0 0 0 (nI (t + 1))) := fun m => by
    obtain ⟨g1, g2, _⟩ := hm m
    exact ⟨g2.1, (g2.old g1).nms g1.1.1.1⟩
  refine sm_b (s_strm (Q := fun A z => FIn (qS x) (dN d) K A (dW d A) σ2 z) hc a3 (by omega) (Or.inl rfl) hnm hop hno) (fun _ σ3 w ρ3 q => ?_) (fun _ _ _ _ q => q.go0 fun h => hR _ _ h)
  obtain ⟨q1, q2, q3, q4, q5⟩ := q
  have hs12 : sIdx x d < 12 := by
    rcases m01 hc with m | m
    · unfold sIdx; rw [if_pos m]; decide
    · rw [sIdx_1 m]; exact (hm m).1.2.2.1
  rw [lWk_e (hc.g q3.2.1) hs12]
  have hL : ∀ w, LFr x (sI (sI (sI ρ3 1794 (qG x) 0 (sIdx x d) (nI K)) 1797 (qG x) 0 (sIdx x d) w) 910 0 0 0 w) := fun w => ((q3.2.1.I (wlG rfl)).I (wlG rfl)).I (wl0 rfl)
  rcases m01 hc with m | m
  · rw [q4 m]
    refine g 0 _ _ (q3.lw (hL _) rfl rfl rfl) ⟨fun _ => ⟨?_, ?_, rfl⟩, fun q => by omega⟩ (fun q => by omega)
    · exact (((by rw [q2]; exact (hD.1 m).1 : M0 x ρ3).I (by decide)).I (by decide)).I (by decide)
    · rw [q2]; exact (hD.1 m).2
  · obtain ⟨A, σ4, u1, u2, u3, k, p, v, u4⟩ := q5 m
    rw [u2]
    refine g A _ _ (q3.lw (hL _) rfl rfl rfl) ⟨fun q => by omega, fun _ => ?_⟩ (fun _ => ?_)
    rotate_left
    · obtain ⟨v1, v2, v3, v4, v5, v6, v7⟩ := u3
      rw [u4, hσw]
      refine (v4 456 _ _ _ (by omega) (by omega)).trans ?_
      rw [a4]
      show zI σ1 456 (qS x) (dN d) 0 = _
      rw [b4 (hD.2 m).2.1.1, sI_c (by decide), sI_c (by decide)]
    obtain ⟨g1, g2, g3, g4, g5, g6, g7, g8⟩ := hm m
    obtain ⟨_, _, _, _, _, _, f1798, f911⟩ := hD.2 m
    have s4 := g2.fi u3
    obtain ⟨v1, v2, v3, v4, v5, v6, v7⟩ := u3
    have hn : ¬ (∃ c : Nat, c = 1476 ∧ c = 201) := by rintro ⟨c, h1, h2⟩; omega
    rw [u4, q2, sIdx_1 m]
    refine ⟨g1, (((s4.av (Nat.le_succ _)).lI (wJ_G rfl) (by decide)).lI (wJ_G rfl) (by decide)).lI (wJ_0 rfl) (by decide), u1, ?_, ?_, ?_, ?_, ?_, ?_, ?_, ?_, ?_, ?_, ?_, ?_, fun q => ?_, fun q => ⟨?_, fun j hj => ?_⟩⟩
    · exact (v5 _ _ _ _ (by omega)).trans g3
    · exact (v4 _ _ _ _ (by omega) (by omega)).trans g4
    · exact v3
    · exact (v4 _ _ _ _ (by omega) (by omega)).trans g5
    · exact (v4 _ _ _ _ (by omega) (by omega)).trans g6
    · exact (v4 _ _ _ _ (by omega) (by omega)).trans g8
    · exact v1
    · rw [sI_c (by decide), sI_c (by decide), zI_sI, if_pos ⟨rfl, rfl, rfl, rfl⟩]
    · rw [sI_c (by decide), zI_sI, if_pos ⟨rfl, rfl, rfl, rfl⟩]
    · rw [sI_c (by decide), sI_c (by decide), sI_c (by decide)]; exact f1798
    · rw [zI_sI, if_pos ⟨rfl, rfl, rfl, rfl⟩]
    · rw [sI_c (by decide), sI_c (by decide), sI_c (by decide)]; exact f911
    · exact (v6 q).trans g7
    · exact (v7 q).1
    · have h1475 := ((g2.old g1).col g1.1 u1).2.1 j hj
      exact ((v7 q).2 j hj).trans h1475
end ST
