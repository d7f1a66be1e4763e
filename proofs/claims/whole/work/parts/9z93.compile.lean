/-! COMPILE, both -/
/-- the class takes the spare program -/
def tsC (z : Zs) (P Q S : Nat) : Zs := sI (sR (sR (sR z 708 0 0 0 (P, 0)) 707 0 0 0 (S, 0)) 709 0 0 0 (Q, 0)) 718 0 0 0 0
def tsR (z : Zs) (g N : Nat) : Zs := sI (sR (kF z g N) 898 0 0 0 (1 - g, 0)) 946 0 0 0 0
theorem takeS_C {z σ' : Zs} {P Q S : Nat} (h1 : zR z 707 0 0 0 = (P, 0)) (h2 : zR z 708 0 0 0 = (Q, 0)) (h3 : zR z 709 0 0 0 = (S, 0)) (h : fX1_start S (tsC z P Q S) = some ((), σ')) : fX11_takeSpareProgram z = some ((), σ') := by
  unfold fX11_takeSpareProgram
  simp only [lt_k]
  rw [h1, h2]
  have e3 : zR (sR z 708 0 0 0 (P, 0)) 709 0 0 0 = (S, 0) := h3
  rw [e3]
  show bq (fX1_start S (tsC z P Q S)) _ = _
  rw [bq_e h]
section CP
variable {B P Q S g L : Nat} {d d' : Pd} {X : Nat → Nat → Nat} {σ σ1 σ' ρ ρ2 ρ' : Zs}
theorem rl_new (h : Rl B P Q S g L d X σ ρ) (f : FrC S σ σ1) (k : FrR (1 - g) ρ ρ2) (hPC' : PC S d' σ1) (hPR' : PR (1 - g) d' ρ2) (hW' : WFd d') (hNm' : NmOk d') (h705 : zI σ1 705 0 0 0 = nI 0) (h712 : zI σ1 712 0 0 0 = zI ρ2 915 0 0 0) (hS : San0 σ1) :
    ∃ σ' ρ', fX11_takeSpareProgram σ1 = some ((), σ') ∧ fX14_keepOld ρ2 = some ((), kF ρ2 g (dN d)) ∧ fX14_empty (tsR ρ2 g (dN d)) = some ((), ρ') ∧ Rel 0 σ' (sI ρ' 900 0 0 0 0) ∧ zI σ' 192 0 0 0 = zI σ1 192 0 0 0 ∧ zI ρ' 896 0 0 0 = zI ρ2 896 0 0 0 := by
  obtain ⟨⟨p1, p2, p3, p4, p5, p6, p7⟩, ⟨hW, hPC, hPR, hz, hz3, hP⟩, hE, hG, hF, hNm, ⟨r1, r2, r3⟩, hL, hM, hV, hT, hO, hK, h12⟩ := h
  have fe := f.eq
  have ke := k.eq
  have hN := hW.1
  have hgg : g ≠ 1 - g := by omega
  have hPC1 : PC P d σ1 := hPC.frC f p5
  have hPR1 : PR g d ρ2 := hPR.frR k hgg
  have q1 : zR σ1 707 0 0 0 = (P, 0) := ((fe 707 rfl rfl 0 0 0).2.2).trans r1
  have q2 : zR σ1 708 0 0 0 = (Q, 0) := ((fe 708 rfl rfl 0 0 0).2.2).trans r2
  have q3 : zR σ1 709 0 0 0 = (S, 0) := ((fe 709 rfl rfl 0 0 0).2.2).trans r3
  have q4 : zR ρ2 898 0 0 0 = (g, 0) := ((ke 898 rfl rfl 0 0 0).2.2).trans hz3
  have hk := keep_R hN q4 hPR1.1
  have hp : HPm (tsC σ1 P Q S) := by
    obtain ⟨π, a1, a2⟩ := hE.hp
    exact ⟨π, fun j hj => ⟨(a1 j hj).1, ((fe 1089 rfl rfl 0 0 j).2.2).trans (a1 j hj).2⟩, a2⟩
  have hPR2 : PR (1 - g) d' (tsR ρ2 g (dN d)) := hPR'.fr fun c hc s i => by
    have hc' : c ≠ 950 ∧ c ≠ 1975 ∧ c ≠ 1976 ∧ c ≠ 1977 ∧ c ≠ 1978 ∧ c ≠ 946 := by
      refine ⟨?_, ?_, ?_, ?_, ?_, ?_⟩ <;> rintro rfl <;> cases hc
    have := kf_o (ρ := ρ2) (g := g) (N := dN d) (c := c) (q := 1 - g) (s := s) (i := i) ⟨hc'.1, hc'.2.1, hc'.2.2.1, hc'.2.2.2.1, hc'.2.2.2.2.1⟩
    refine ⟨?_, this.2.1⟩
    unfold tsR
    rw [zI_sI, if_neg (fun z => hc'.2.2.2.2.2 z.1)]
    exact this.1
  obtain ⟨σ', ρ', u1, u2, u3, u4, u5, u6, u7, u8⟩ := r_start (P := S) (g := 1 - g) (d := d') (σ := tsC σ1 P Q S) (ρ := tsR ρ2 g (dN d)) hW' (hPC'.fr fun c hc s i => ⟨by
    unfold tsC
    rw [zI_sI, if_neg (fun z => by rw [z.1] at hc; cases hc)]; rfl, rfl⟩) hPR2 rfl p3 hp
  refine ⟨σ', ρ', takeS_C q1 q2 q3 u1, hk, u2, ?_, ?_, ?_⟩
  · -- the class's frame and the law's
    have w1 : ∀ c q s i, c ≠ 513 → c ≠ 718 → zI (w13 (sR (tsC σ1 P Q S) 64 0 0 0 (S, 0)) S (dN d')) c q s i = zI σ1 c q s i := fun c q s i n1 n2 => by
      rw [zI_w13, if_neg (fun z => n1 z.1)]
      show zI (sI _ 718 0 0 0 0) c q s i = _
      rw [zI_sI, if_neg (fun z => n2 z.1)]
      rfl
    have w2 : ∀ q s i, q ≠ S → zI (w13 (sR (tsC σ1 P Q S) 64 0 0 0 (S, 0)) S (dN d')) 513 q s i = zI σ1 513 q s i := fun q s i n1 => by
      rw [zI_w13, if_neg (fun z => n1 z.2.2.1)]
      rfl
    have w3 : ∀ c q s i, c ≠ 64 → c ≠ 707 → c ≠ 708 → c ≠ 709 → zR (w13 (sR (tsC σ1 P Q S) 64 0 0 0 (S, 0)) S (dN d')) c q s i = zR σ1 c q s i := fun c q s i n1 n2 n3 n4 => by
      show zR (sR (sR (sR (sR σ1 708 0 0 0 (P, 0)) 707 0 0 0 (S, 0)) 709 0 0 0 (Q, 0)) 64 0 0 0 (S, 0)) c q s i = _
      rw [zR_sR, if_neg (fun z => n1 z.1), zR_sR, if_neg (fun z => n4 z.1), zR_sR, if_neg (fun z => n2 z.1), zR_sR, if_neg (fun z => n3 z.1)]
    have fU : EqC lU σ (w13 (sR (tsC σ1 P Q S) 64 0 0 0 (S, 0)) S (dN d')) := fun c hc hx q s i => by
      simp only [lU, List.contains_cons, List.contains_nil, Bool.or_false, Bool.or_eq_false_iff, beq_eq_false_iff_ne] at hx
      obtain ⟨x1, x2, x3, x4, x5, x6⟩ := hx
      exact (fe c hc rfl q s i).tr ⟨w1 c q s i x2 x6, rfl, w3 c q s i x1 x3 x4 x5⟩
    have kU : EqR lY ρ (tsR ρ2 g (dN d)) := fun c hc hx q s i => by
      simp only [lY, List.contains_cons, List.contains_nil, Bool.or_false, Bool.or_eq_false_iff, beq_eq_false_iff_ne] at hx
      obtain ⟨x1, x2, x3, x4, x5, x6, x7⟩ := hx
      have := kf_o (ρ := ρ2) (g := g) (N := dN d) (c := c) (q := q) (s := s) (i := i) ⟨x1, x2, x3, x4, x5⟩
      refine (ke c hc rfl q s i).tr ⟨?_, this.2.1, ?_⟩
      · unfold tsR
        rw [zI_sI, if_neg (fun z => x7 z.1)]
        exact this.1
      · unfold tsR
        show zR (sR (kF ρ2 g (dN d)) 898 0 0 0 (1 - g, 0)) c q s i = _
        rw [zR_sR, if_neg (fun z => x6 z.1)]
        exact this.2.2
    have hO' : ROld P (w13 (sR (tsC σ1 P Q S) 64 0 0 0 (S, 0)) S (dN d')) (tsR ρ2 g (dN d)) := by
      have hT1 := (hE.eq fe ke).2.2.2.1
      obtain ⟨c1, c2, Lc, c3, c4, c5, c6⟩ := hPC1
      refine ⟨dN d, hN, (w1 321 P 0 0 (by decide) (by decide)).trans c1, rfl, fun s hs => ?_⟩
      obtain ⟨t1, t2, t3, t4, t5⟩ := hT1 s hs
      obtain ⟨m1, m2, m3⟩ := kf_c (ρ := ρ2) (g := g) hs
      have hPs := c5 s hs
      have hRs := hPR1.2.2.1 s hs
      have hwf := hW.2.2.1 s hs
      refine ⟨dW d s, X 0 s, ?_, hwf.2.2.1, t1, (w2 P s 0 p5).trans t3, m2.trans hRs.2.2.1, (w1 512 P s 0 (by decide) (by decide)).trans t2, m3.trans t4, fun i hi => ?_⟩
      · exact (hPs.1.trans hRs.1.symm).trans m1.symm
      · obtain ⟨⟨t, b1, b2, b3⟩, b4⟩ := t5 i hi
        have hs12 : s < 12 := by omega
        refine ⟨⟨t, ?_, (w1 1538 P s i (by decide) (by decide)).trans b2, ?_⟩, fun c hc => ?_⟩
        · unfold TB at b1; omega
        · have := kf_d (ρ := ρ2) (g := g) (N := dN d) (j := (200 * s + i) * 7) (by omega)
          exact this.trans b3
        · have hc6 : c < 6 := by have := hwf.2.2.1; omega
          have := kf_d (ρ := ρ2) (g := g) (N := dN d) (j := (200 * s + i) * 7 + 1 + c) (by omega)
          exact (b4 c hc).trans this.symm
    have hLg := (hL.eq fU kU).fr u7 u8
    have hVv := (hV.eq fU kU).fr p3 u7 u8
    have hOo := hO'.fr p5.symm u7 u8
    have hKk := (hK.eq fU kU).fr u7 u8
    have hSs : San0 σ' := by
      refine San0.fr (P := S) (σ := w13 (sR (tsC σ1 P Q S) 64 0 0 0 (S, 0)) S (dN d')) ?_ u7
      obtain ⟨⟨w, a1, a2⟩, a3⟩ := hS
      refine ⟨⟨w, a1, (w1 201 0 0 0 (by decide) (by decide)).trans a2⟩, fun p s => ?_⟩
      obtain ⟨v, b1, b2⟩ := a3 p s
      exact ⟨v, b1, (w1 450 p s 0 (by decide) (by decide)).trans b2⟩
    obtain ⟨e1, e2, e3, e4, e5, e6⟩ := u3
    refine ⟨S, P, Q, 1 - g, L, d', XZ, ⟨p3, p1, p2, p5.symm, p6.symm, p4, by omega⟩, ⟨e1, e2, e3, e4, e5, e6⟩, u4.sw u4.2.2.2, u5.up (Nat.zero_le L), u6, hNm', ⟨?_, ?_, ?_⟩, hLg, ⟨0, fun _ => 0, Nat.zero_le _, ?_, ?_, fun j hj => absurd hj (Nat.not_lt_zero _), fun _ k _ hk => absurd hk (Nat.not_lt_zero _)⟩, hVv, ⟨0, fun _ => 0, ⟨Nat.le_refl _, Nat.zero_le _⟩, ?_, rfl, fun i hi => absurd hi (Nat.not_lt_zero _)⟩, hOo, hKk, ?_, hSs⟩
    · exact ((u7 707 0 (by simp [wC]) 0 0).2.2).trans rfl
    · exact ((u7 708 0 (by simp [wC]) 0 0).2.2).trans rfl
    · exact ((u7 709 0 (by simp [wC]) 0 0).2.2).trans rfl
    · refine ((u7 718 0 (by simp [wC]) 0 0).1).trans ?_
      rw [zI_w13, if_neg (fun z => absurd z.1 (by decide))]
      rfl
    · exact ((u8 946 (by decide) 0 0 0).1).trans rfl
    · exact ((u7 705 0 (by simp [wC]) 0 0).1).trans ((w1 705 0 0 0 (by decide) (by decide)).trans h705)
    · have a := ((u7 712 0 (by simp [wC]) 0 0).1).trans ((w1 712 0 0 0 (by decide) (by decide)).trans h712)
      have b := (u8 915 (by decide) 0 0 0).1
      have e : zI (tsR ρ2 g (dN d)) 915 0 0 0 = zI ρ2 915 0 0 0 := (kf_o (ρ := ρ2) (g := g) (N := dN d) (c := 915) (q := 0) (s := 0) (i := 0) (by decide)).1
      exact a.trans (b.trans e).symm
  · have a := (u7 192 0 (by simp [wC]) 0 0).1
    rw [zI_w13, if_neg (fun z => absurd z.1 (by decide))] at a
    exact a
  · have e : zI (tsR ρ2 g (dN d)) 896 0 0 0 = zI ρ2 896 0 0 0 := (kf_o (ρ := ρ2) (g := g) (N := dN d) (c := 896) (q := 0) (s := 0) (i := 0) (by decide)).1
    exact ((u8 896 (by decide) 0 0 0).1).trans e
end CP
