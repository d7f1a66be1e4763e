/-! ITEMS, both: join, whole -/
noncomputable def lJ4 (x1 x2 y3 y4 y5 y6 : Int32) (ρ33 : Zs) : Option (Except (Int32 × Int32) Unit × Zs) := if (zR ρ33 909 0 0 0).2 = 0 then if gi x1 12 then lt (sI ρ33 1798 ((zR ρ33 909 0 0 0).1) 0 (Int32.toNatClampNeg x1) y4) fun ρ40 => if (zR ρ40 909 0 0 0).2 = 0 then if gi x1 12 then lt (sI ρ40 1801 ((zR ρ40 909 0 0 0).1) 0 (Int32.toNatClampNeg x1) y5) fun ρ45 => if (zR ρ45 909 0 0 0).2 = 0 then if gi x1 12 then lt (sI ρ45 1802 ((zR ρ45 909 0 0 0).1) 0 (Int32.toNatClampNeg x1) y6) fun ρ50 => if (zR ρ50 909 0 0 0).2 = 0 then bw (fX14_numberIn 0 ρ50) fun w58 ρ55 => if gi x1 12 then lt (sI ρ55 1799 ((zR ρ50 909 0 0 0).1) 0 (Int32.toNatClampNeg x1) w58) fun ρ60 => if (zI ρ60 906 0 0 0) = 0 then (some (.ok (), ρ60)) else (bq (fX14_sayAll x2 (-1) ρ60) fun v62 ρ63 => bq (fX14_sayAll y4 y6 ρ63) fun v66 ρ67 => fX14_join_218 x1 x2 FU y3 (zI ρ63 911 0 0 0) (zI ρ63 911 0 0 0) ρ67) else none else none else none else none else none else none else none else none
section JB
variable {x : Cx} {t : Nat} {σ ρ : Zs} {d : Pd}
theorem join_e {x1 x2 : Int32} : fX14_join x1 x2 ρ = bw (fX14_take_ 102 ρ) fun _ ρ2 => if gi (zI ρ2 905 0 0 0) 1501 then bw (fX14_streamNamed ρ2) fun w11 ρ8 => bw (fX14_take_ 10 ρ8) fun _ ρ13 => lJ2 x1 x2 (zI ρ2 1927 0 0 (Int32.toNatClampNeg (zI ρ2 905 0 0 0))) w11 ρ13 else none := rfl
noncomputable def cJn (z : Zs) : Option (Unit × Zs) := bq (fX4_takeRange 139 z) fun _ z => cEnd z
theorem k_cJn {S : Nat} {σ0 z : Zs} (h : St S 0 σ0 z) : Wp1 (cJn z) fun _ => St0 S σ0 := kb (k_takeRange h) fun _ _ h => kb0 (k_endStream h) fun _ _ h => h
/-- the law's words of a join -/
def ljR (ρ : Zs) (g n B Y Z : Nat) : Zs := sI (sI (sI ρ 1798 g 0 n (nI B)) 1801 g 0 n (nI Y)) 1802 g 0 n (nI Z)
theorem lJ3_e {x1 x2 y3 y4 y5 y6 : Int32} : lJ3 x1 x2 y3 y4 y5 y6 ρ = bw (fX14_take_ 11 ρ) fun _ ρ33 => lJ4 x1 x2 y3 y4 y5 y6 ρ33 := rfl
theorem lJ4_e {n B Y Z : Nat} {x2 y3 : Int32} (hn : n < 12) (hc : Cok x) {ρ' : Zs} (h1 : LFr x ρ') : lJ4 (nI n) x2 y3 (nI B) (nI Y) (nI Z) ρ' = bw (fX14_numberIn 0 (ljR ρ' (qG x) n B Y Z)) fun w58 ρ55 => if gi (nI n) 12 then lt (sI ρ55 1799 (qG x) 0 (Int32.toNatClampNeg (nI n)) w58) fun ρ60 => if (zI ρ60 906 0 0 0) = 0 then (some (.ok (), ρ60)) else (bq (fX14_sayAll x2 (-1) ρ60) fun v62 ρ63 => bq (fX14_sayAll (nI B) (nI Z) ρ63) fun v66 ρ67 => fX14_join_218 (nI n) x2 FU y3 (zI ρ63 911 0 0 0) (zI ρ63 911 0 0 0) ρ67) else none := by
  have g : gi (nI n) 12 := (n_gi (by omega)).mpr hn
  have r2 : (zR ρ' 909 0 0 0).2 = 0 := by rw [hc.g h1]
  have r1 : (zR ρ' 909 0 0 0).1 = qG x := by rw [hc.g h1]
  have a2 : ∀ p i v, (zR (sI ρ' 1798 p 0 i v) 909 0 0 0).2 = 0 := fun _ _ _ => r2
  have a1 : ∀ p i v, (zR (sI ρ' 1798 p 0 i v) 909 0 0 0).1 = qG x := fun _ _ _ => r1
  have b2 : ∀ p i v p' i' v', (zR (sI (sI ρ' 1798 p 0 i v) 1801 p' 0 i' v') 909 0 0 0).2 = 0 := fun _ _ _ _ _ _ => r2
  have b1 : ∀ p i v p' i' v', (zR (sI (sI ρ' 1798 p 0 i v) 1801 p' 0 i' v') 909 0 0 0).1 = qG x := fun _ _ _ _ _ _ => r1
  have c2 : ∀ p i v p' i' v' p2 i2 v2, (zR (sI (sI (sI ρ' 1798 p 0 i v) 1801 p' 0 i' v') 1802 p2 0 i2 v2) 909 0 0 0).2 = 0 := fun _ _ _ _ _ _ _ _ _ => r2
  have c1 : ∀ p i v p' i' v' p2 i2 v2, (zR (sI (sI (sI ρ' 1798 p 0 i v) 1801 p' 0 i' v') 1802 p2 0 i2 v2) 909 0 0 0).1 = qG x := fun _ _ _ _ _ _ _ _ _ => r1
  have el : sI (sI (sI ρ' 1798 (qG x) 0 (Int32.toNatClampNeg (nI n)) (nI B)) 1801 (qG x) 0 (Int32.toNatClampNeg (nI n)) (nI Y)) 1802 (qG x) 0 (Int32.toNatClampNeg (nI n)) (nI Z) = ljR ρ' (qG x) n B Y Z := by rw [n_cl (show n < 2147483648 by omega)]; rfl
  unfold lJ4
  rw [if_pos r2, if_pos g, lt_k, if_pos (a2 _ _ _), if_pos g, lt_k, if_pos (b2 _ _ _ _ _ _), if_pos g, lt_k, if_pos (c2 _ _ _ _ _ _ _ _ _), c1, b1, a1, r1, el]
theorem x_join (hc : Cok x) {L z np A wp : Nat} {nm : Int64} {σb ρb : Zs} (h : IP x 0 t σ ρ) (hD : SWK x d L z σb ρb nm np 5 A wp t σ ρ) : SM (Er0 x) (bq (fX4_secondInput σ) fun _ z => bq (oKey 138 z) fun _ z => cJn z) (bw (fX14_join (nI (sIdx x d)) (nI A) ρ) fun _ ρ => lEnd nm (nI np) (nI (sIdx x d)) ρ) (fun _ σ' _ ρ' => ∃ t' d', t ≤ t' ∧ ITm x d' t' σ' ρ') := by
  have hs12 : sIdx x d < 12 := sIdx12 hc fun m => (hD.2 m).1
  have gs : gi (nI (sIdx x d)) 12 := (n_gi (by omega)).mpr hs12
  have kk : ∀ σ0 z, St (qS x) 0 σ0 z → Wp1 (bq (oKey 138 z) fun _ z => cJn z) fun _ => St0 (qS x) σ0 := fun σ0 z h => kb (k_key h) fun _ _ h => k_cJn h
  rw [join_e, bw_as2]
  unfold fX4_secondInput
  rw [bq_as]
  refine sm_b (s_take hc h (K := 102) rfl (by decide) (show ck 102 = 44 from rfl)) (fun _ σ2 _ ρ2 q => ?_) (fun _ _ _ _ g => g.go0 fun h => kb (kb (k_takeName h (by omega) (Or.inr rfl)) fun _ _ h => h) fun _ _ h => kk _ _ h)
  obtain ⟨q1, q2, ⟨ka, kp, kw, q3⟩, q4⟩ := q
  have D2 : SWK x d L z σb ρb nm np 5 A wp (t + 1) σ2 ρ2 := by rw [q3, q4]; exact hD.av (Nat.le_succ t)
  rw [if_pos (q2.g5 hc), q2.p9 hc, bq_as, bw_as2]
  refine sm_b (s_second hc (Or.inr rfl) q2 D2) (fun _ σ3 w ρ3 g => ?_) (fun _ _ _ _ g => g.go0 fun h => by rw [bq_s]; exact kk _ _ h)
  obtain ⟨B, rfl, g2, D3⟩ := g
  rw [bq_s, bw_as2]
  unfold oKey
  rw [bq_as]
  refine sm_b (s_take hc g2 (K := 10) rfl (by decide) (show ck 10 = 138 from rfl)) (fun _ σ4 _ ρ4 q => ?_) (fun _ _ _ _ g => g.go0 fun h => kb (kb (k_takeName h (by omega) (Or.inr rfl)) fun _ _ h => h) fun _ _ h => k_cJn h)
  obtain ⟨p1, p2, ⟨ka2, kp2, kw2, p3⟩, p4⟩ := q
  have D4 : SW2 x d L z σb ρb nm np 5 A B wp (qp x (t + 1)) (t + 1 + 1 + 1) σ4 ρ4 := by rw [p3, p4]; exact D3.av (Nat.le_succ _)
  rw [bq_as]
  refine s_key5 (R := fun z => bq (some ((), z)) fun _ z => cJn z) hc p2 D4 (fun _ _ h => by rw [bq_s]; exact k_cJn h) (fun Y Z σ5 ρ5 hI5 D5 hYZ => ?_)
  rw [bq_s]
  unfold cJn
  rw [range_num, bq_as]
  rw [lJ3_e, bw_as2]
  refine sm_b (s_take hc hI5 (K := 11) rfl (by decide) (show ck 11 = 139 from rfl)) (fun _ σ6 _ ρ6 q => ?_) (fun _ _ _ _ g => g.go0 fun h => kb (k_cnum h) fun _ _ h => kb0 (k_endStream h) fun _ _ h => h)
  obtain ⟨u1, hI6, ⟨ka3, kp3, kw3, u3⟩, u4⟩ := q
  have D6 : SW2 x d L z σb ρb nm np 5 A B wp (qp x (t + 1)) (t + 1 + 1 + 1 + 1 + 1) σ6 ρ6 := by rw [u3, u4]; exact D5.av (Nat.le_succ _)
  rw [lJ4_e hs12 hc hI6.2.1, bw_as2]
  have hL7 : LFr x (ljR ρ6 (qG x) (sIdx x d) B Y Z) := ((hI6.2.1.I (wlG rfl)).I (wlG rfl)).I (wlG rfl)
  have hI7 : IP x 0 (t + 1 + 1 + 1 + 1 + 1) σ6 (ljR ρ6 (qG x) (sIdx x d) B Y Z) := hI6.lw hL7 rfl rfl rfl
  have D7 : SW2 x d L z σb ρb nm np 5 A B wp (qp x (t + 1)) (t + 1 + 1 + 1 + 1 + 1) σ6 (ljR ρ6 (qG x) (sIdx x d) B Y Z) := ((D6.lI (sIdx_w rfl) rfl).lI (sIdx_w rfl) rfl).lI (sIdx_w rfl) rfl
  have hm7 : qM x = 1 → zI σ6 192 0 0 0 = 0 ∧ zR σ6 195 0 0 0 = (qS x, dN d) := fun m => ⟨(D7.2 m).2.1.1, (D7.2 m).2.1.2.2.1⟩
  refine sm_b (s_num hc hI7 (wd := 139) (lo := 0) (n := dN d) rfl hm7) (fun _ σ8 v8 ρ8 g => ?_) (fun _ _ _ _ g => g.go0 fun h => kb0 (k_endStream h) fun _ _ h => h)
  obtain ⟨g1, g2, g3, g4⟩ := g
  rw [if_pos gs, lt_k, n_cl (show sIdx x d < 2147483648 by omega)]
  obtain ⟨ρ9, hρ9⟩ : ∃ y, y = sI ρ8 1799 (qG x) 0 (sIdx x d) v8 := ⟨_, rfl⟩
  rw [← hρ9]
  have hI9 : IP x 0 (t + 1 + 1 + 1 + 1 + 1 + 1) σ8 ρ9 := by rw [hρ9]; exact g3.lw (g3.2.1.I (wlG rfl)) rfl rfl rfl
  have D9 : SW2 x d L z σb ρb nm np 5 A B wp (qp x (t + 1)) (t + 1 + 1 + 1 + 1 + 1 + 1) σ8 ρ9 := by
    rw [hρ9]
    refine SW2.lI ?_ (sIdx_w rfl) rfl
    rcases m01 hc with m | m
    · refine ⟨fun _ => ?_, fun q => by omega⟩
      rw [g2]; exact D7.1 m
    · obtain ⟨v, _, _, _, k, p, w, j4⟩ := g4 m
      rw [j4, g2]
      exact (D7.cI (wI_S rfl) rfl).av (Nat.le_succ _)
  rcases m01 hc with m | m
  · rw [hc.m hI9.2.1, m, if_pos (by rfl), bw_e rfl]
    exact sm_m (s_finN hc hI9 ⟨fun m => ⟨(D9.1 m).1, (D9.1 m).2.1⟩, fun q => by omega⟩) fun _ _ _ _ ⟨d', q⟩ => ⟨_, d', by omega, q⟩
  · obtain ⟨d1, d2, d3, d4, d5, d6, d7, d8, d9, d10, d11, d12, d13, d14, d15, d16, d17, d18⟩ := D9.2 m
    obtain ⟨y1, y2, y3, y4⟩ := hYZ m
    obtain ⟨v, _, v1, v2, kq, pq, wq, v3⟩ := g4 m
    obtain ⟨cA, nA, lA, wA⟩ := (d2.old d1).col d1.1 d3
    obtain ⟨cB, nB, lB, wB⟩ := (d2.old d1).col d1.1 d4
    have hWA := cA.2.1
    have hWB := cB.2.1
    have e453 : zI σ8 453 (qS x) (dN d) 0 = nI Y := by
      rw [v3]
      show zI (sI σ6 455 (qS x) (dN d) 0 (nI v)) 453 (qS x) (dN d) 0 = _
      rw [sI_c (by decide), u3]; exact y3
    have e454 : zI σ8 454 (qS x) (dN d) 0 = nI Z := by
      rw [v3]
      show zI (sI σ6 455 (qS x) (dN d) 0 (nI v)) 454 (qS x) (dN d) 0 = _
      rw [sI_c (by decide), u3]; exact y4
    have e455 : zI σ8 455 (qS x) (dN d) 0 = nI v := by
      rw [v3]
      show zI (sI σ6 455 (qS x) (dN d) 0 (nI v)) 455 (qS x) (dN d) 0 = _
      rw [zI_sI, if_pos ⟨rfl, rfl, rfl, rfl⟩]
    have e1799 : zI ρ9 1799 (qG x) 0 (dN d) = nI v := by rw [hρ9, sIdx_1 m, zI_sI, if_pos ⟨rfl, rfl, rfl, rfl⟩, v2]
    have e1798 : zI ρ9 1798 (qG x) 0 (dN d) = nI B := by
      rw [hρ9, sI_c (by decide), g2, sI_c (by decide), sIdx_1 m]
      unfold ljR
      rw [sI_c (by decide), sI_c (by decide), zI_sI, if_pos ⟨rfl, rfl, rfl, rfl⟩]
    have e1801 : zI ρ9 1801 (qG x) 0 (dN d) = nI Y := by
      rw [hρ9, sI_c (by decide), g2, sI_c (by decide), sIdx_1 m]
      unfold ljR
      rw [sI_c (by decide), zI_sI, if_pos ⟨rfl, rfl, rfl, rfl⟩]
    have e1802 : zI ρ9 1802 (qG x) 0 (dN d) = nI Z := by
      rw [hρ9, sI_c (by decide), g2, sI_c (by decide), sIdx_1 m]
      unfold ljR
      rw [zI_sI, if_pos ⟨rfl, rfl, rfl, rfl⟩]
    obtain ⟨ρ10, a1, a2, a3, a4, a5, a6, a7, a8⟩ := s_all hc m d1 d3 d2 hI9 d16
    have hB12 := cB.1
    obtain ⟨ρ11, b1, b2, b3, b4, b5, b6, b7, b8, b9⟩ := sa_1 (ρ := ρ10) (A := B) (W := dW d B) (w0 := dW d A) (Z := Z) (x2 := nI Z) (P := fun r => SIx x d L z σb ρb (t + 1 + 1 + 1 + 1 + 1 + 1) σ8 r ∧ IP x 0 (t + 1 + 1 + 1 + 1 + 1 + 1) σ8 r) (by rw [hc.m a8.2.1, m]) (hc.g a8.2.1) hB12 hWB ((a4 1795 _ _ _ (by decide)).trans cB.2.2.2.1) a2 (by omega) (fun c hcc => n_eq (by omega) (by omega)) (fun ρ w a s u q => ⟨q.1.sayR, q.2.lw q.2.2.1.sayR rfl rfl rfl⟩) ⟨a7, a8⟩
    have hdl : dl Z (dW d B) = 1 := by unfold dl; rw [if_pos y2]
    rw [hdl] at b2 b3
    have nA1 : ∀ j, j < dW d A → zJ ρ11 1936 0 0 j = dCn d A j := fun j hj => (b4 j hj).1.trans (a3 j hj).1
    have nB1 : ∀ j, j < dW d B - 1 → zJ ρ11 1936 0 0 (dW d A + j) = dCn d B (skc Z j) := fun j hj => by
      have hs := (skc_lt (Z := Z) (y := dW d B) (j := j) (by rw [hdl]; exact hj)).1
      rw [(b3 j hj).1, a5 _ _ _ _ (by decide)]
      exact lB _ hs
    have hdisB : ∀ i j, i < dW d B → j < dW d B → zJ σ8 1475 (qS x) B i = zJ σ8 1475 (qS x) B j → i = j := fun i j hi hj e => d1.1.2.2.1 B d4 i j hi hj (by rw [← nB i hi, ← nB j hj]; exact e)
    rw [hc.m hI9.2.1, m, if_neg (show ¬ (nI 1 : Int32) = 0 by decide), bq_bw, bq_e a1, bq_bw, bq_e b1, a2]
    have z1 : (zR σ8 195 0 0 0).1 = qS x := by rw [d2.2.2.1]
    have z2 : (zR σ8 195 0 0 0).2 = dN d := by rw [d2.2.2.1]
    have n4 : ¬ zI σ8 449 ((zR σ8 195 0 0 0).1) ((zR σ8 195 0 0 0).2) 0 = 4 := by rw [z1, z2, d6]; decide
    have n5 : zI σ8 449 ((zR σ8 195 0 0 0).1) ((zR σ8 195 0 0 0).2) 0 = 5 := by rw [z1, z2, d6]; rfl
    have hend : fX3_endStream σ8 = bq (fX3_addOtherColumns σ8) fun _ z => fX3_endStream_63 z := by
      unfold fX3_endStream
      rw [if_pos d2.1, if_neg n4, if_pos d2.1, if_pos n5]
    have hce : ∀ z, fX3_addOtherColumns σ8 = some ((), z) → cEnd σ8 = bq (fX3_endStream_63 z) fun _ z => some ((), z) := fun z hz => by
      unfold cEnd
      rw [hend, bq_e hz]
    have hAO0 : AO (qS x) B (dW d A) Z σ8 0 σ8 := ⟨by rw [show 0 - dl Z 0 = 0 by omega]; exact d17, fun j hj => by omega, fun _ _ => rfl, fun _ _ _ _ _ => rfl, fun _ _ _ _ _ => rfl, rfl⟩
    have hcl := ao_2 (W := dW d B) d2.1 d2.2.2.1 d13 cB.2.2.1 hWB e454 (by omega) (by omega) hdisB (dW d B) 0 FU σ8 (by omega) (by unfold FU; omega) hAO0
    have hlw := j_218 (x1 := nI (sIdx x d)) (x2 := nI A) (p := nI (qp x (t + 1))) hc m b9.2.1 (w0 := dW d A) b2 (by omega) (by omega) (dW d B - 1) (dW d A) FU (by omega) (by unfold FU; omega)
    obtain ⟨⟨⟩, zz, k1, k2⟩ := wp_ex (k_addOther hI9.1)
    rcases hcl with ⟨σ9, c1, c2, c3⟩ | ⟨σ9, c1, c2, c3, c, j, c4, c5, c6, c7, c8⟩
    · -- all of them are new
      have c1' : fX3_addOtherColumns σ8 = some ((), σ9) := c1
      have ezz : zz = σ9 := by rw [c1'] at k1; cases k1; rfl
      subst ezz
      obtain ⟨o1, o2, o3, o4, o5, o6⟩ := c2
      rw [hdl] at o1 o2
      have fresh : ∀ c, c < dW d B - 1 → ∀ j, j < dW d A → dCn d A j ≠ dCn d B (skc Z c) := fun c hcw j hj he => by
        obtain ⟨q1, q2⟩ := skc_lt (Z := Z) (y := dW d B) (j := c) (by rw [hdl]; exact hcw)
        exact c3 _ (Nat.zero_le _) q1 q2 j hj (by rw [d18 j hj, nB _ q1]; exact he)
      have hok : fX14_join_218 (nI (sIdx x d)) (nI A) FU (nI (qp x (t + 1))) (nI (dW d A)) (nI (dW d A)) ρ11 = some (.ok (), ρ11) := by
        rcases hlw with ⟨e, _⟩ | ⟨_, c, j, e1, e2, e3, e4⟩
        · exact e
        · exfalso
          obtain ⟨i, rfl⟩ : ∃ i, c = dW d A + i := ⟨c - dW d A, by omega⟩
          rw [nA1 j e3, nB1 i (by omega)] at e4
          exact fresh i (by omega) j e3 e4
      rw [hok, bw_e rfl, hce zz c1']
      obtain ⟨f1, f2, f3, f4, f5, L', z', f6, f7, f8, f9, f10, f11⟩ := b8
      have hIFC : IFC (qS x) (dN d) (dM d) L σ8 zz := by
        refine ⟨fun c q s hw i => ⟨o4 c q s i ?_, o5 c q s i ?_, by rw [o6]⟩, fun j hj => ⟨o4 _ _ _ _ (by omega), o5 _ _ _ _ (by omega)⟩⟩
        · rintro ⟨rfl, rfl, _⟩; rw [wI_0 rfl] at hw; cases hw
        · rintro ⟨rfl, rfl, _⟩; rw [wI_0 rfl] at hw; cases hw
      have hMF : MF σ8 zz := fun c hcm q s i => ⟨o4 c q s i (by rintro ⟨rfl, _⟩; cases hcm), o5 c q s i (by rintro ⟨rfl, _⟩; cases hcm)⟩
      have hI11 : IP x 0 (t + 1 + 1 + 1 + 1 + 1 + 1) zz ρ11 := b9.mf k2 hMF
      have nA2 : ∀ j, j < dW d A → zJ zz 1224 0 0 j = dCn d A j := fun j hj => (o3 j hj).trans (d18 j hj)
      have nB2 : ∀ j, j < dW d B - 1 → zJ zz 1224 0 0 (dW d A + j) = dCn d B (skc Z j) := fun j hj => by
        have hs := (skc_lt (Z := Z) (y := dW d B) (j := j) (by rw [hdl]; exact hj)).1
        rw [o2 j hj]; exact nB _ hs
      have hsk : ∀ i j, skc Z i = skc Z j → i = j := fun i j he => by
        unfold skc at he
        by_cases h1 : i < Z
        · rw [if_pos h1] at he
          by_cases h2 : j < Z
          · rw [if_pos h2] at he; exact he
          · rw [if_neg h2] at he; omega
        · rw [if_neg h1] at he
          by_cases h2 : j < Z
          · rw [if_pos h2] at he; omega
          · rw [if_neg h2] at he; omega
      obtain ⟨g1', gG, gN, gM, gd⟩ := id d1
      refine sm_m (s_fin (d := d) (w := dW d A + (dW d B - 1)) hc hI11 (fun q => by omega) (fun _ => ⟨(o4 202 _ _ _ (by omega)).trans d9, (o4 192 _ _ _ (by omega)).trans d2.1, o1, b2, by omega, fun w6 => ⟨g1', gN, L, z, L', z', 5, A, B, v, 0, Y, Z, fun _ => 0, fun c => zJ zz 1224 0 0 c, fun _ => [], σb, ρb, gG, ?_, f4.tr hIFC, f5, f6, f8, f7, f9, (o4 326 _ _ _ (by omega)).trans f10, f11, fun c hcw => ⟨rfl, ?_⟩, fun i j hi hj he => ?_, Or.inl d3, Or.inl d4, ?_, ?_, ?_, gM, gd⟩⟩)) fun _ _ _ _ ⟨d', q⟩ => ⟨_, d', by omega, q⟩
      · rw [o6]; exact d2.2.2.1
      · by_cases qc : c < dW d A
        · exact (nA1 c qc).trans (nA2 c qc).symm
        · obtain ⟨i, rfl⟩ : ∃ i, c = dW d A + i := ⟨c - dW d A, by omega⟩
          exact (nB1 i (by omega)).trans (nB2 i (by omega)).symm
      · dsimp only at he
        by_cases qi : i < dW d A
        · by_cases qj : j < dW d A
          · rw [nA2 i qi, nA2 j qj] at he
            exact d1.1.2.2.1 A d3 i j qi qj he
          · obtain ⟨b, rfl⟩ : ∃ b, j = dW d A + b := ⟨j - dW d A, by omega⟩
            rw [nA2 i qi, nB2 b (by omega)] at he
            exact absurd he (fresh b (by omega) i qi)
        · obtain ⟨a, rfl⟩ : ∃ a, i = dW d A + a := ⟨i - dW d A, by omega⟩
          by_cases qj : j < dW d A
          · rw [nA2 j qj, nB2 a (by omega)] at he
            exact absurd he.symm (fresh a (by omega) j qj)
          · obtain ⟨b, rfl⟩ : ∃ b, j = dW d A + b := ⟨j - dW d A, by omega⟩
            rw [nB2 a (by omega), nB2 b (by omega)] at he
            have h1 := (skc_lt (Z := Z) (y := dW d B) (j := a) (by rw [hdl]; omega)).1
            have h2 := (skc_lt (Z := Z) (y := dW d B) (j := b) (by rw [hdl]; omega)).1
            have := hsk a b (d1.1.2.2.1 B d4 _ _ h1 h2 he)
            omega
      · refine ⟨(o5 448 _ _ _ (by omega)).trans d5, (o4 449 _ _ _ (by omega)).trans d6, ?_, ?_, fun _ => (o4 453 _ _ _ (by omega)).trans e453, fun _ => (o4 454 _ _ _ (by omega)).trans e454, fun _ => (o4 455 _ _ _ (by omega)).trans e455, fun q => by omega, fun q => by omega, fun q => by omega, fun c q => by omega⟩
        · rw [if_neg (by decide)]; exact (o4 1476 _ _ _ (by omega)).trans d7
        · rw [if_pos (by decide)]; exact (o4 1476 _ _ _ (by omega)).trans d8
      · have fl : ∀ c, c ≠ 911 ∧ c ≠ 1937 ∧ c ≠ 1938 → ∀ q s i, zI ρ11 c q s i = zI ρ9 c q s i := fun c hn q s i => (b5 c q s i hn).trans (a4 c q s i hn)
        refine ⟨(fl _ (by decide) _ _ _).trans d14, ?_, ?_, fun _ => (fl _ (by decide) _ _ _).trans e1801, fun _ => (fl _ (by decide) _ _ _).trans e1802, fun _ => (fl _ (by decide) _ _ _).trans e1799, fun q => by omega, fun q => by omega, fun q => by omega, fun q => by omega, fun c q => by omega⟩
        · rw [if_neg (by decide)]; exact (fl _ (by decide) _ _ _).trans d15
        · rw [if_pos (by decide)]; exact (fl _ (by decide) _ _ _).trans e1798
      · exact ⟨by decide, by omega, w6, v1, by omega, fun _ => d3, fun _ => d4, fun q => by omega, fun q => by omega, fun q => by omega, fun q => by omega, fun _ => ⟨y1, y2, by omega⟩, fun q => by omega, fun q => by omega⟩
    · -- a name is there already
      have c1' : fX3_addOtherColumns σ8 = some ((), σ9) := c1
      have ezz : zz = σ9 := by rw [c1'] at k1; cases k1; rfl
      subst ezz
      have hbad : fX14_join_218 (nI (sIdx x d)) (nI A) FU (nI (qp x (t + 1))) (nI (dW d A)) (nI (dW d A)) ρ11 = some (.error (5, nI (qp x (t + 1))), ρ11) := by
        rcases hlw with ⟨_, e⟩ | ⟨e, _⟩
        · exfalso
          obtain ⟨i, hi, hsi⟩ : ∃ i, i < dW d B - 1 ∧ skc Z i = c := by
            unfold skc
            by_cases q : c < Z
            · exact ⟨c, by omega, by rw [if_pos q]⟩
            · exact ⟨c - 1, by omega, by rw [if_neg (by omega)]; omega⟩
          have := e (dW d A + i) (by omega) (by omega) j c7
          rw [nA1 j c7, nB1 i hi, hsi] at this
          rw [d18 j c7, nB c c5] at c8
          exact this c8
        · exact e
      have hE : Er x 0 (5, nI (qp x (t + 1))) zz ρ11 := ⟨k2, b9.2.1, Or.inr ⟨m, (show ¬ (5 : Int32) = 1 by decide), c2, c3.trans d11, by rw [c2]; decide⟩⟩
      rw [hbad, hce zz c1']
      obtain ⟨⟨⟩, z3, w2, w3⟩ := wp_ex (end_e hE)
      rw [bq_e w2]
      exact sm_xw rfl w3
end JB
