/-! ITEMS, both: heads and ends of streams -/
theorem bq_if {α β : Type} {c : Prop} [Decidable c] {a b : Option (α × Zs)} {k : α → Zs → Option β} : bq (if c then a else b) k = if c then bq a k else bq b k := by
  by_cases q : c
  · rw [if_pos q, if_pos q]
  · rw [if_neg q, if_neg q]
def sIdx (x : Cx) (d : Pd) : Nat := if qM x = 0 then 0 else dN d
section SH
variable {x : Cx} {t : Nat} {σ ρ σ1 : Zs} {d : Pd}
theorem s_head (hc : Cok x) {K : Nat} (hK : qk x t = K) (hK2 : K = 0 ∨ K = 2) (h : IP x 0 t σ1 ρ) (h0 : qM x = 0 → M0 x ρ)
    (hm : qM x = 1 → (zI ρ 768 (qG x) 0 0 = nI (dN d) ∧ dN d ≤ 12) ∧ ((dN d < 12 ∧ zI σ1 192 0 0 0 = 0 ∧ zR σ1 195 0 0 0 = (qS x, dN d) ∧ NMS x d σ1 ρ) ∨ (¬ dN d < 12 ∧ Ew x (4, nI (qp x t)) σ1)))
    {R : Zs → Option (Unit × Zs)} {Q' : Unit → Zs → Unit → Zs → Prop} (hR : ∀ σ0 z, St (qS x) 0 σ0 z → Wp1 (R z) fun _ => St0 (qS x) σ0)
    (g : ∀ σ ρ', qk x (t + 1) = 200 → IP x 0 (t + 1 + 1) σ ρ' → ρ' = sI (sI (sI ρ 905 0 0 0 (nI (t + 1))) 905 0 0 0 (nI (t + 1 + 1))) 911 0 0 0 0 → (qM x = 1 → dN d < 12 ∧ (∀ s, s < dN d → dNm d s ≠ qw x (t + 1)) ∧ ∃ a p w a2 p2 w2, σ = avC (sI (sJ (avC σ1 t a p w) 448 (qS x) (dN d) 0 (qw x (t + 1))) 202 0 0 0 (nI (qp x (t + 1)))) (t + 1) a2 p2 w2) → SM (Er0 x) (R σ) (fX14_item_157 (nI K) (qw x (t + 1)) (nI (qp x (t + 1))) (nI (sIdx x d)) ρ') Q') :
    SM (Er0 x) (bq (fX4_take (ck K) σ1) fun _ z => bq (fX4_takeName 0 z) fun _ z => R z) (fX14_item ρ) Q' := by
  have kR : ∀ σ0 z, St (qS x) 0 σ0 z → Wp1 (bq (fX4_takeName 0 z) fun _ z => R z) fun _ => St0 (qS x) σ0 := fun σ0 z h => kb (k_takeName h (by omega) (Or.inr rfl)) fun _ _ h => hR _ _ h
  obtain ⟨σ2, a1, a2, a3, ⟨ka, kp', kw, a4⟩, _⟩ := s_tk hc h (by rcases hK2 with q | q <;> omega)
  have hg2 : (zR (sI ρ 905 0 0 0 (nI (t + 1))) 909 0 0 0).2 = 0 := by show (zR ρ 909 0 0 0).2 = 0; rw [hc.g h.2.1]
  have hg1 : (zR (sI ρ 905 0 0 0 (nI (t + 1))) 909 0 0 0).1 = qG x := by show (zR ρ 909 0 0 0).1 = qG x; rw [hc.g h.2.1]
  have hitem : fX14_item ρ = if (12 : Int32) ≤ zI ρ 768 (qG x) 0 0 then fX14_item_68 (nI K) (nI (qp x t)) 0 (sI ρ 905 0 0 0 (nI (t + 1))) else fX14_item_68 (nI K) (nI (qp x t)) 1 (sI ρ 905 0 0 0 (nI (t + 1))) := by
    unfold fX14_item
    rw [if_pos (h.g5 hc), if_pos (h.g5 hc), h.k9 hc, h.p9 hc, hK, bw_e a2]
    rw [if_pos hg2, hg1]
    rcases hK2 with rfl | rfl
    · rw [if_neg (by decide), if_pos (by decide)]; rfl
    · rw [if_neg (by decide), if_neg (by decide), if_pos (by decide)]; rfl
  rw [hitem, bq_e (a1 (ck K) (by rw [hK]))]
  have ok : (qM x = 1 → dN d < 12 ∧ zI σ1 192 0 0 0 = 0 ∧ zR σ1 195 0 0 0 = (qS x, dN d) ∧ NMS x d σ1 ρ) → SM (Er0 x) (bq (fX4_takeName 0 σ2) fun _ z => R z) (fX14_item_68 (nI K) (nI (qp x t)) 1 (sI ρ 905 0 0 0 (nI (t + 1)))) Q' := by
    intro hm1
    unfold fX14_item_68
    rw [bw_e must_1, bq_e (show fX14_is 200 (sI ρ 905 0 0 0 (nI (t + 1))) = _ from a3.is hc 200 (by decide))]
    by_cases q : qk x (t + 1) = 200
    · rw [if_pos q, if10, if_pos (a3.g5 hc), if_pos (a3.g5 hc), a3.w9 hc, a3.p9 hc]
      have fin : ∀ σL, fX3_lookAtName 0 (qw x (t + 1)) (nI (qp x (t + 1))) σ2 = some ((), σL) → St (qS x) 0 (qC x) σL → (qM x = 1 → dN d < 12 ∧ (∀ s, s < dN d → dNm d s ≠ qw x (t + 1)) ∧ σL = sI (sJ σ2 448 (qS x) (dN d) 0 (qw x (t + 1))) 202 0 0 0 (nI (qp x (t + 1)))) → zI ρ 768 (qG x) 0 0 = nI (sIdx x d) → SM (Er0 x) (bq (fX4_takeName 0 σ2) fun _ z => R z) (fX14_item_124 (nI K) (qw x (t + 1)) (nI (qp x (t + 1))) 1 (sI ρ 905 0 0 0 (nI (t + 1)))) Q' := by
        intro σL e1 e2 e3 e5
        obtain ⟨σ', b1, b2, b3, k2, p2, w2, b4⟩ := s_nm hc a3 q e1 e2
        have hL3 : LFr x (sI (sI (sI ρ 905 0 0 0 (nI (t + 1))) 905 0 0 0 (nI (t + 1 + 1))) 911 0 0 0 0) := b3.2.1.I (wl0 rfl)
        have r2 : (zR (sI (sI (sI ρ 905 0 0 0 (nI (t + 1))) 905 0 0 0 (nI (t + 1 + 1))) 911 0 0 0 0) 909 0 0 0).2 = 0 := hg2
        have r1 : (zR (sI (sI (sI ρ 905 0 0 0 (nI (t + 1))) 905 0 0 0 (nI (t + 1 + 1))) 911 0 0 0 0) 909 0 0 0).1 = qG x := hg1
        have r7 : zI (sI (sI (sI ρ 905 0 0 0 (nI (t + 1))) 905 0 0 0 (nI (t + 1 + 1))) 911 0 0 0 0) 768 (qG x) 0 0 = nI (sIdx x d) := e5
        unfold fX14_item_124
        rw [bw_e must_1, bw_e b2, lt_k, hc.m hL3, bq_e b1]
        have g' := g σ' _ q (b3.lw hL3 rfl rfl rfl) rfl (fun m => ⟨(e3 m).1, (e3 m).2.1, ka, kp', kw, k2, p2, w2, by rw [b4, (e3 m).2.2, a4]⟩)
        rcases m01 hc with m | m
        · have e0 : sIdx x d = 0 := by unfold sIdx; rw [if_pos m]
          rw [m, if_pos (by rfl)]
          rw [e0] at g'
          exact g'
        · rw [m, if_neg (by decide), if_pos r2, r1, r7]
          exact g'
      rcases m01 hc with m | m
      · obtain ⟨σL, e1, e2⟩ := s_look0 a3 (by omega) (r := 0) (Or.inr rfl)
        have e768 : zI ρ 768 (qG x) 0 0 = nI 0 := (h0 m).1
        have hso : fX14_streamOf (qw x (t + 1)) (sI ρ 905 0 0 0 (nI (t + 1))) = some (-nI 1, sI ρ 905 0 0 0 (nI (t + 1))) := by
          have hix := name_R (c := 1793) (p := qG x) (s := 0) (n0 := 12) (off := 0) (N := 0) (w := qw x (t + 1)) (ρ := sI ρ 905 0 0 0 (nI (t + 1))) (by omega) (by decide) (by omega)
          have e768' : zI (sI ρ 905 0 0 0 (nI (t + 1))) 768 (qG x) 0 0 = nI 0 := e768
          unfold fX14_streamOf
          rw [if_pos hg2, if_pos hg2, hg1, e768', bq_e (show fX14_indexOf 1793 (qG x) 0 12 0 (nI 0) (qw x (t + 1)) (sI ρ 905 0 0 0 (nI (t + 1))) = _ from hix)]
          rfl
        rw [bq_e hso, if_pos (show (-nI 1 : Int32) = -1 from rfl)]
        exact fin σL e1 e2 (fun q => by omega) (by unfold sIdx; rw [if_pos m]; exact e768)
      · obtain ⟨n1, n2, n3, n4⟩ := hm1 m
        have n4' : NMS x d σ2 (sI ρ 905 0 0 0 (nI (t + 1))) := by rw [a4]; exact n4
        have n2' : zI σ2 192 0 0 0 = 0 := by rw [a4]; exact n2
        have s1 : (zR σ2 195 0 0 0).1 = qS x := by rw [a4]; show (zR σ1 195 0 0 0).1 = _; rw [n3]
        have s2 : (zR σ2 195 0 0 0).2 = dN d := by rw [a4]; show (zR σ1 195 0 0 0).2 = _; rw [n3]
        rw [bq_e (n4'.L (hc.g a3.2.1) _)]
        have hlk : fX3_lookAtName 0 (qw x (t + 1)) (nI (qp x (t + 1))) σ2 = bq (fX3_nameStream (qw x (t + 1)) (nI (qp x (t + 1))) σ2) fun _ z => some ((), z) := by
          unfold fX3_lookAtName
          rw [if_pos n2', if_pos rfl]
        rcases nix_s (f := dNm d) (w := qw x (t + 1)) (dN d) 0 with ⟨e, e2⟩ | ⟨j, _, hj, ej, e, _⟩
        · have hlk2 : fX3_lookAtName 0 (qw x (t + 1)) (nI (qp x (t + 1))) σ2 = some ((), sI (sJ σ2 448 (qS x) (dN d) 0 (qw x (t + 1))) 202 0 0 0 (nI (qp x (t + 1)))) := by
            rw [hlk]
            unfold fX3_nameStream
            rw [a3.1.s4, bq_e (n4'.C _), e, if_pos (show (-nI 1 : Int32) < 0 by decide), lt_k, lt_k, bq_s, s1, s2]
          have hSt : St (qS x) 0 (qC x) (sI (sJ σ2 448 (qS x) (dN d) 0 (qw x (t + 1))) 202 0 0 0 (nI (qp x (t + 1)))) := (a3.1.J (wS rfl)).I (w0 rfl) rfl
          rw [e, if_pos (show (-nI 1 : Int32) = -1 from rfl)]
          exact fin _ hlk2 hSt (fun _ => ⟨n1, fun s hs => e2 s (Nat.zero_le _) (by omega), rfl⟩) (by unfold sIdx; rw [if_neg (by omega)]; exact n4.2.2.1)
        · obtain ⟨⟨⟩, σL, eL, kL⟩ := wp_ex (k_lookAtName a3.1 (by omega) (Or.inr rfl : (0 : Int32) = 2 ∨ 0 = 0) (w := qw x (t + 1)) (y := nI (qp x (t + 1))))
          have hEw : Ew x (5, nI (qp x (t + 1))) σL := by
            have eL' := eL
            rw [hlk] at eL'
            unfold fX3_nameStream fX3_report at eL'
            rw [a3.1.s4, bq_e (n4'.C _), e, if_neg (m1_lt (by omega)), if_pos n2'] at eL'
            simp only [lt_k, bq_s] at eL'
            cases eL'
            exact Or.inr ⟨m, (show ¬ (5 : Int32) = 1 by decide), rfl, rfl, (show ¬ (5 : Int32) = 0 by decide)⟩
          have w1 := s_nmE hc a3 q eL ⟨kL, a3.2.1, hEw⟩
          obtain ⟨⟨⟩, z, w2, w3⟩ := wp_ex w1
          rw [e, if_neg (n_mx (a := j) (by omega)), bq_e w2]
          unfold fX14_item_124
          exact sm_xw (must_e m hc a3.2.1) (w3.go0 fun h => hR _ _ h)
    · obtain ⟨z, b1, b2⟩ := s_nmN hc a3 q (r := 0)
      rw [if_neg q, if00, bq_e (a3.wr hc), bq_e b1]
      exact sm_x (b2.go0 fun h => hR _ _ h)
  rcases m01 hc with m | m
  · have e768 : zI ρ 768 (qG x) 0 0 = nI 0 := (h0 m).1
    rw [e768, if_neg (by decide)]
    exact ok (fun q => by omega)
  · obtain ⟨⟨g1, g2⟩, g3⟩ := hm m
    rw [g1]
    rcases g3 with ⟨g4, g5⟩ | ⟨g4, g5⟩
    · rw [if_neg (show ¬ (12 : Int32) ≤ nI (dN d) by rw [show (12 : Int32) = nI 12 from rfl, n_le (by omega) (by omega)]; omega)]
      exact ok (fun _ => ⟨g4, g5⟩)
    · rw [if_pos (show (12 : Int32) ≤ nI (dN d) by rw [show (12 : Int32) = nI 12 from rfl, n_le (by omega) (by omega)]; omega)]
      have hE : Er x 0 (4, nI (qp x t)) σ1 (sI ρ 905 0 0 0 (nI (t + 1))) := ⟨h.1, a3.2.1, g5⟩
      have w1 := hE.go (o := fX4_take (ck K) σ1) fun h => k_take h
      rw [a1 (ck K) (by rw [hK])] at w1
      unfold fX14_item_68
      exact sm_xw (must_e m hc a3.2.1) (Er.go0 (show Er x 0 (4, nI (qp x t)) σ2 (sI ρ 905 0 0 0 (nI (t + 1))) from w1) fun h => kR _ _ h)
/-- all that is needed of a stream at its end -/
def NEWp (x : Cx) (d : Pd) (t w : Nat) (nm : Int64) (σ ρ : Zs) : Prop := zI σ 192 0 0 0 = 0 ∧ zI σ 201 0 0 0 = nI w ∧ zI ρ 911 0 0 0 = nI w ∧ w ≤ 1500 ∧ (w ≤ 6 → GoodD d ∧ dN d < 12 ∧ ∃ (L z L2 z2 K A B Sp La Y Z : Nat) (P : Nat → Nat) (cn : Nat → Int64) (o : Nat → List Op) (σb ρb : Zs), OLD x d L z σb ρb
    ∧ zR σ 195 0 0 0 = (qS x, dN d) ∧ IFC (qS x) (dN d) (dM d) L σb σ ∧ IFL (qG x) (dN d) z ρb ρ ∧ L ≤ L2 ∧ L2 ≤ t ∧ z ≤ z2 ∧ z2 ≤ 2 * t ∧ zI σ 326 (qS x) 0 0 = nI L2 ∧ zI ρ 785 (qG x) 0 0 = nI z2
    ∧ (∀ c, c < w → zJ σ 1224 0 0 c = cn c ∧ zJ ρ 1936 0 0 c = cn c) ∧ (∀ i j, i < w → j < w → cn i = cn j → i = j) ∧ (A < dN d ∨ 50 ≤ A) ∧ (B < dN d ∨ 50 ≤ B)
    ∧ PCn (qS x) (dN d) K w (dW d A) A B Sp La Y Z P nm o L2 σ ∧ PRn (qG x) (dN d) K w (dW d A) A B Sp La Y Z P o z2 ρ ∧ WFn d K w A B Sp La Y Z P o ∧ isName nm ∧ ∀ s, s < dN d → dNm d s ≠ nm)
theorem s_fin (hc : Cok x) {w : Nat} {nm : Int64} {np : Nat} (h : IP x 0 t σ ρ) (h0 : qM x = 0 → M0 x ρ ∧ zI ρ 911 0 0 0 = nI 0) (hm : qM x = 1 → zI σ 202 0 0 0 = nI np ∧ NEWp x d t w nm σ ρ) : SM (Er0 x) (bq (fX3_endStream_63 σ) fun _ z => some ((), z)) (if (6 : Int32) < zI ρ 911 0 0 0 then fX14_item_221 nm (nI np) (nI (sIdx x d)) 0 ρ else fX14_item_221 nm (nI np) (nI (sIdx x d)) 1 ρ) (fun _ σ' _ ρ' => ∃ d', ITm x d' t σ' ρ') := by
  rcases m01 hc with m | m
  · obtain ⟨⟨⟩, σ', e1, k1, k2⟩ := wp_ex (wp_an (k_es63 h.1) (mf_X3_endStream_63 MF.rf))
    rw [bq_e e1, (h0 m).2, if_neg (by decide)]
    unfold fX14_item_221
    rw [bw_e must_1, hc.m h.2.1, m, if_pos (by rfl)]
    exact sm_ok ⟨d, k1, h.2.1, h.2.2.1.mf k2, h.2.2.2.1, h.2.2.2.2, fun _ => (h0 m).1, fun q => by omega⟩
  · obtain ⟨g1, g2, g3, g4, g5, g6⟩ := hm m
    have hsi : sIdx x d = dN d := by unfold sIdx; rw [if_neg (by omega)]
    rw [g4, hsi]
    by_cases q : w ≤ 6
    · obtain ⟨u1, u2, L, z, L2, z2, K, A, B, Sp, La, Y, Z, P, cn, o, σb, ρb, v1, v2, v3, v4, v5, v6, v7, v8, v9, v10, v11, v12, v13, v14, v15, v16, v17, v18, v19⟩ := g6 q
      obtain ⟨σ', ρ', e1, e2, e3, e4, e5, e6, e7⟩ := s_new (p := nI np) hc m u1 u2 v1 g2 v2 v3 v4 v5 v6 v7 v8 v9 v10 g3 g4 v11 v12 h.1 h.2.1 v13 v14 v15 v16 v17 v18 v19
      have k2 := mf_X3_endStream_63 (MF.rf (z := σ)) _ _ e1
      have k1 := k_es63 h.1
      rw [e1] at k1
      rw [bq_e e1, if_neg (show ¬ (6 : Int32) < nI w by rw [i_6, n_lt (by omega) (by omega)]; omega), e2]
      have hp := h.2.2.1.mf k2
      exact sm_ok ⟨_, k1, e4, ⟨hp.1, hp.2.1, hp.2.2.1, hp.2.2.2.1, hp.2.2.2.2.1, hp.2.2.2.2.2.1, e5.trans hp.2.2.2.2.2.2⟩, e7.trans h.2.2.2.1, e6.trans h.2.2.2.2, fun q => by omega, fun _ => e3⟩
    · obtain ⟨zz, r1, r2⟩ := rep_E (E := (0, 0, 0, 0, 0, σ, σ)) m h.1 h.2.1 g2 (a := 4) (b := nI np) (by decide) (by decide)
      have hEw := r2.2.2
      have c1 : bq (fX3_endStream_63 σ) (fun _ z => some ((), z)) = some ((), zz) := by
        unfold fX3_endStream_63
        rw [if_pos g2, g3, i_6, if_neg (fun z => q ((n_le (by omega) (by omega)).mp z)), g1, bq_e r1]
        unfold fX3_endStream_88
        have nz : ¬ zI zz 192 0 0 0 = 0 := by
          rcases hEw with ⟨e1, _⟩ | ⟨_, _, e1, _, e2⟩
          · exact absurd e1 (show ¬ (4 : Int32) = 1 by decide)
          · exact e2
        rw [if_neg nz, bq_s]
      rw [c1, if_pos (show (6 : Int32) < nI w by rw [i_6, n_lt (by omega) (by omega)]; omega)]
      unfold fX14_item_221
      exact sm_xw (must_e m hc h.2.1) ⟨r2.1.2, r2.2.1, hEw⟩
end SH
