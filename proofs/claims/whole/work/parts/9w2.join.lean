/-! ITEMS, both: join, whole -/
noncomputable def lJ4 (x1 x2 y3 y4 y5 y6 : Int32) (ρ33 : Zs) : Option (Except (Int32 × Int32) Unit × Zs) := if (zR ρ33 909 0 0 0).2 = 0 then if gi x1 12 then lt (sI ρ33 1798 ((zR ρ33 909 0 0 0).1) 0 (Int32.toNatClampNeg x1) y4) fun ρ40 => if (zR ρ40 909 0 0 0).2 = 0 then if gi x1 12 then lt (sI ρ40 1801 ((zR ρ40 909 0 0 0).1) 0 (Int32.toNatClampNeg x1) y5) fun ρ45 => if (zR ρ45 909 0 0 0).2 = 0 then if gi x1 12 then lt (sI ρ45 1802 ((zR ρ45 909 0 0 0).1) 0 (Int32.toNatClampNeg x1) y6) fun ρ50 => if (zR ρ50 909 0 0 0).2 = 0 then bw (fX14_numberIn 0 ρ50) fun w58 ρ55 => if gi x1 12 then lt (sI ρ55 1799 ((zR ρ50 909 0 0 0).1) 0 (Int32.toNatClampNeg x1) w58) fun ρ60 => if (zI ρ60 906 0 0 0) = 0 then (some (.ok (), ρ60)) else (bq (fX14_sayAll x2 (-1) ρ60) fun v62 ρ63 => bq (fX14_sayAll y4 y6 ρ63) fun v66 ρ67 => fX14_join_218 x1 x2 FU y3 (zI ρ63 911 0 0 0) (zI ρ63 911 0 0 0) ρ67) else none else none else none else none else none else none else none else none
section JB
variable {x : Cx} {t : Nat} {σ ρ : Zs} {d : Pd}
theorem join_e {x1 x2 : Int32} : fX14_join x1 x2 ρ = bw (fX14_take_ 102 ρ) fun _ ρ2 => if gi (zI ρ2 905 0 0 0) 1501 then bw (fX14_streamNamed ρ2) fun w11 ρ8 => bw (fX14_take_ 10 ρ8) fun _ ρ13 => lJ2 x1 x2 (zI ρ2 1927 0 0 (Int32.toNatClampNeg (zI ρ2 905 0 0 0))) w11 ρ13 else none := rfl
noncomputable def cJn (z : Zs) : Option (Unit × Zs) := bq (fX4_takeRange 139 z) fun _ z => cEnd z
theorem k_cJn {S : Nat} {σ0 z : Zs} (h : St S 0 σ0 z) : Wp1 (cJn z) fun _ => St0 S σ0 := kb (k_takeRange h) fun _ _ h => kb0 (k_endStream h) fun _ _ h => h
/-- the law's words of a join -/
def ljR (ρ : Zs) (g n B Y Z : Nat) : Zs := sI (sI (sI ρ 1798 g 0 n (nI B)) 1801 g 0 n (nI Y)) 1802 g 0 n (nI Z)
theorem lJ3_e {x1 x2 y3 y4 y5 y6 : Int32} : lJ3 x1 x2 y3 y4 y5 y6 ρ = bw (fX14_take_ 11 ρ) fun _ ρ33 => lJ4 x1 x2 y3 y4 y5 y6 ρ33 := rfl
theorem lJ4_e {n B Y Z : Nat} {x2 y3 : Int32} (hn : n < 12) (hc : Cok x) {ρ' : Zs} (h1 : LFr x ρ') : lJ4 (nI n) x2 y3 (nI B) (nI Y) (nI Z) ρ' = bw (fX14_numberIn 0 (ljR ρ' (qG x) n B Y Z)) fun w58 ρ55 => if gi (nI n) 12 then lt (sI ρ55 1799 (qG x) 0 (Int32.toNatClampNeg (nI n)) w58) fun ρ60 => if (zI ρ60 906 0 0 0) = 0 then (some (.ok (), ρ60)) else (bq (fX14_sayAll x2 (-1) ρ60) fun v62 ρ63 => bq (fX14_sayAll (nI B) (nI Z) ρ63) fun v66 ρ67 => fX14_join_218 (nI n) x2 FU y3 (zI ρ63 911 0 0 0) (zI ρ63 911 0 0 0) ρ67) else none := by
  have g : gi (nI n) 12 := (n_gi (by omega)).mpr hn
  have r2 : (zR ρ' 909 0 0 0).2 = 0 := by rw [hc.g h1]
  have r1 : (zR ρ' 909 0 0 0).1 = qG x := by rw [hc.g h1]
  have a2 : ∀ p i v, (zR (sI ρ' 1798 p 0 i v) 909 0 0 0).2 = 0 := fun _ _ _ => r2
  have a1 : ∀ p i v, (zR (sI ρ' 1798 p 0 i v) 909 0 0 0).1 = qG x := fun _ _ _ => r1
  have b2 : ∀ p i v p' i' v', (zR (sI (sI ρ' 1798 p 0 i v) 1801 p' 0 i' v') 909 0 0 0).2 = 0 := fun _ _ _ _ _ _ => r2
  have b1 : ∀ p i v p' i' v', (zR (sI (sI ρ' 1798 p 0 i v) 1801 p' 0 i' v') 909 0 0 0).1 = qG x := fun _ _ _ _ _ _ => r1
  have c2 : ∀ p i v p' i' v' p2 i2 v2, (zR (sI (sI (sI ρ' 1798 p 0 i v) 1801 p' 0 i' v') 1802 p2 0 i2 v2) 909 0 0 0).2 = 0 := fun _ _ _ _ _ _ _ _ _ => r2
  have c1 : ∀ p i v p' i' v' p2 i2 v2, (zR (sI (sI (sI ρ' 1798 p 0 i v) 1801 p' 0 i' v') 1802 p2 0 i2 v2) 909 0 0 0).1 = qG x := fun _ _ _ _ _ _ _ _ _ => r1
  have el : sI (sI (sI ρ' 1798 (qG x) 0 (Int32.toNatClampNeg (nI n)) (nI B)) 1801 (qG x) 0 (Int32.toNatClampNeg (nI n)) (nI Y)) 1802 (qG x) 0 (Int32.toNatClampNeg (nI n)) (nI Z) = ljR ρ' (qG x) n B Y Z := by rw [n_cl (show n < 2147483648 by omega)]; rfl
  unfold lJ4
  rw [if_pos r2, if_pos g, lt_k, if_pos (a2 _ _ _), if_pos g, lt_k, if_pos (b2 _ _ _ _ _ _), if_pos g, lt_k, if_pos (c2 _ _ _ _ _ _ _ _ _), c1, b1, a1, r1, el]
theorem x_join (hc : Cok x) {L z np A wp : Nat} {nm : Int64} {σb ρb : Zs} (h : IP x 0 t σ ρ) (hD : SWK x d L z σb ρb nm np 5 A wp t σ ρ) : SM (Er0 x) (bq (fX4_secondInput σ) fun _ z => bq (fX4_key 138 z) fun _ z => cJn z) (bw (fX14_join (nI (sIdx x d)) (nI A) ρ) fun _ ρ => lEnd nm (nI np) (nI (sIdx x d)) ρ) (fun _ σ' _ ρ' => ∃ t' d', t ≤ t' ∧ ITm x d' t' σ' ρ') := by
  have hs12 : sIdx x d < 12 := sIdx12 hc fun m => (hD.2 m).1
  have gs : gi (nI (sIdx x d)) 12 := (n_gi (by omega)).mpr hs12
  have kk : ∀ σ0 z, St (qS x) 0 σ0 z → Wp1 (bq (fX4_key 138 z) fun _ z => cJn z) fun _ => St0 (qS x) σ0 := fun σ0 z h => kb (k_key h) fun _ _ h => k_cJn h
  rw [join_e, bw_as2]
  unfold fX4_secondInput
  rw [bq_as]
  refine sm_b (s_take hc h (K := 102) rfl (by decide) (show ck 102 = 44 from rfl)) (fun _ σ2 _ ρ2 q => ?_) (fun _ _ _ _ g => g.go0 fun h => kb (kb (k_takeName h (by omega) (Or.inr rfl)) fun _ _ h => h) fun _ _ h => kk _ _ h)
  obtain ⟨q1, q2, ⟨ka, kp, kw, q3⟩, q4⟩ := q
  have D2 : SWK x d L z σb ρb nm np 5 A wp (t + 1) σ2 ρ2 := by rw [q3, q4]; exact hD.av (Nat.le_succ t)
  rw [if_pos (q2.g5 hc), q2.p9 hc, bq_as, bw_as2]
  refine sm_b (s_second hc (Or.inr rfl) q2 D2) (fun _ σ3 w ρ3 g => ?_) (fun _ _ _ _ g => g.go0 fun h => by rw [bq_s]; exact kk _ _ h)
  obtain ⟨B, rfl, g2, D3⟩ := g
  rw [bq_s, bw_as2]
  unfold fX4_key
  rw [bq_as]
  refine sm_b (s_take hc g2 (K := 10) rfl (by decide) (show ck 10 = 138 from rfl)) (fun _ σ4 _ ρ4 q => ?_) (fun _ _ _ _ g => g.go0 fun h => kb (kb (k_takeName h (by omega) (Or.inr rfl)) fun _ _ h => h) fun _ _ h => k_cJn h)
  obtain ⟨p1, p2, ⟨ka2, kp2, kw2, p3⟩, p4⟩ := q
  have D4 : SW2 x d L z σb ρb nm np 5 A B wp (qp x (t + 1)) (t + 1 + 1 + 1) σ4 ρ4 := by rw [p3, p4]; exact D3.av (Nat.le_succ _)
  rw [bq_as]
  refine s_key5 (R := fun z => bq (some ((), z)) fun _ z => cJn z) hc p2 D4 (fun _ _ h => by rw [bq_s]; exact k_cJn h) (fun Y Z σ5 ρ5 hI5 D5 hYZ => ?_)
  rw [bq_s]
  unfold cJn
  rw [range_num, bq_as]
  rw [lJ3_e, bw_as2]
  refine sm_b (s_take hc hI5 (K := 11) rfl (by decide) (show ck 11 = 139 from rfl)) (fun _ σ6 _ ρ6 q => ?_) (fun _ _ _ _ g => g.go0 fun h => kb (k_cnum h) fun _ _ h => kb0 (k_endStream h) fun _ _ h => h)
  obtain ⟨u1, hI6, ⟨ka3, kp3, kw3, u3⟩, u4⟩ := q
  have D6 : SW2 x d L z σb ρb nm np 5 A B wp (qp x (t + 1)) (t + 1 + 1 + 1 + 1 + 1) σ6 ρ6 := by rw [u3, u4]; exact D5.av (Nat.le_succ _)
  rw [lJ4_e hs12 hc hI6.2.1, bw_as2]
  have hL7 : LFr x (ljR ρ6 (qG x) (sIdx x d) B Y Z) := ((hI6.2.1.I (wlG rfl)).I (wlG rfl)).I (wlG rfl)
  have hI7 : IP x 0 (t + 1 + 1 + 1 + 1 + 1) σ6 (ljR ρ6 (qG x) (sIdx x d) B Y Z) := hI6.lw hL7 rfl rfl rfl
  have D7 : SW2 x d L z σb ρb nm np 5 A B wp (qp x (t + 1)) (t + 1 + 1 + 1 + 1 + 1) σ6 (ljR ρ6 (qG x) (sIdx x d) B Y Z) := ((D6.lI (sIdx_w rfl) rfl).lI (sIdx_w rfl) rfl).lI (sIdx_w rfl) rfl
  have hm7 : qM x = 1 → zI σ6 192 0 0 0 = 0 ∧ zR σ6 195 0 0 0 = (qS x, dN d) := fun m => ⟨(D7.2 m).2.1.1, (D7.2 m).2.1.2.2.1⟩
  refine sm_b (s_num hc hI7 (wd := 139) (lo := 0) (n := dN d) rfl hm7) (fun _ σ8 v8 ρ8 g => ?_) (fun _ _ _ _ g => g.go0 fun h => kb0 (k_endStream h) fun _ _ h => h)
  obtain ⟨g1, g2, g3, g4⟩ := g
  rw [if_pos gs, lt_k, n_cl (show sIdx x d < 2147483648 by omega)]
  obtain ⟨ρ9, hρ9⟩ : ∃ y, y = sI ρ8 1799 (qG x) 0 (sIdx x d) v8 := ⟨_, rfl⟩
  rw [← hρ9]
  have hI9 : IP x 0 (t + 1 + 1 + 1 + 1 + 1 + 1) σ8 ρ9 := by rw [hρ9]; exact g3.lw (g3.2.1.I (wlG rfl)) rfl rfl rfl
  have D9 : SW2 x d L z σb ρb nm np 5 A B wp (qp x (t + 1)) (t + 1 + 1 + 1 + 1 + 1 + 1) σ8 ρ9 := by
    rw [hρ9]
    refine SW2.lI ?_ (sIdx_w rfl) rfl
    rcases m01 hc with m | m
    · refine ⟨fun _ => ?_, fun q => by omega⟩
      rw [g2]; exact D7.1 m
    · obtain ⟨v, _, _, _, k, p, w, j4⟩ := g4 m
      rw [j4, g2]
      exact (D7.cI (wI_S rfl) rfl).av (Nat.le_succ _)
  rcases m01 hc with m | m
  · rw [hc.m hI9.2.1, m, if_pos (by rfl), bw_e rfl]
    exact sm_m (s_finN hc hI9 ⟨fun m => ⟨(D9.1 m).1, (D9.1 m).2.1⟩, fun q => by omega⟩) fun _ _ _ _ ⟨d', q⟩ => ⟨_, d', by omega, q⟩
  · sorry
end JB
