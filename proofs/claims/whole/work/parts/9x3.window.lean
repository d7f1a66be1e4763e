/-! ITEMS, both: window, whole -/
noncomputable def cW4 (z : Zs) : Option (Unit × Zs) := bq (fX4_take 40 z) fun _ z => fX4_window_44 FU 0 z
noncomputable def cW3 (σ6 : Zs) : Option (Unit × Zs) := if (zI σ6 260 0 0 0) = 144 then (bq (fX4_takeRange 144 σ6) fun _ z => cW4 z) else cW4 σ6
noncomputable def cWr (z : Zs) : Option (Unit × Zs) := bq (fX4_takeRange 143 z) fun _ z => cW3 z
theorem win_e {σ : Zs} : fX4_window σ = bq (oKey 141 σ) fun _ z => cWr z := by
  rw [oKey_q]
  rfl
theorem k_cW4 {S : Nat} {σ0 z : Zs} (h : St S 0 σ0 z) : Wp1 (cW4 z) fun _ => St S 0 σ0 := kb (k_take h) fun _ _ h => kl_win 1500 0 FU _ (by omega) (by unfold FU; omega) h
theorem k_cW3 {S : Nat} {σ0 z : Zs} (h : St S 0 σ0 z) : Wp1 (cW3 z) fun _ => St S 0 σ0 := wp_ite (kb (k_takeRange h) fun _ _ h => k_cW4 h) (k_cW4 h)
theorem k_cWr {S : Nat} {σ0 z : Zs} (h : St S 0 σ0 z) : Wp1 (cWr z) fun _ => St S 0 σ0 := kb (k_takeRange h) fun _ _ h => k_cW3 h
noncomputable def lW6 (x1 x2 : Int32) (y4 : Int64) (ρ41 : Zs) : Option (Except (Int32 × Int32) Unit × Zs) := bq (fX14_is 16 ρ41) fun v43 ρ44 => if v43 = 0 then (fX14_window_118 x1 x2 y4 ρ44) else (bw (fX14_take  ρ44) fun w88 ρ85 => if (zR ρ85 909 0 0 0).2 = 0 then bw (fX14_numberIn 0 ρ85) fun w95 ρ92 => if gi x1 12 then lt (sI ρ92 1800 ((zR ρ85 909 0 0 0).1) 0 (Int32.toNatClampNeg x1) w95) fun ρ97 => fX14_window_118 x1 x2 y4 ρ97 else none else none)
noncomputable def lW5 (x1 x2 : Int32) (y4 : Int64) (ρ19 : Zs) : Option (Except (Int32 × Int32) Unit × Zs) := bw (fX14_take_ 15 ρ19) fun w27 ρ24 => if (zR ρ24 909 0 0 0).2 = 0 then bw (fX14_numberIn 1 ρ24) fun w34 ρ31 => if gi x1 12 then lt (sI ρ31 1799 ((zR ρ24 909 0 0 0).1) 0 (Int32.toNatClampNeg x1) w34) fun ρ36 => if (zR ρ36 909 0 0 0).2 = 0 then if gi x1 12 then lt (sI ρ36 1800 ((zR ρ36 909 0 0 0).1) 0 (Int32.toNatClampNeg x1) 0) fun ρ41 => lW6 x1 x2 y4 ρ41 else none else none else none else none
theorem w56_e {x1 x2 y3 : Int32} {y4 : Int64} {z0 : Int32} {ρ : Zs} : fX14_window_56 x1 x2 y3 y4 z0 ρ = bw (fX14_must z0 5 y3 ρ) fun _ ρ => lW5 x1 x2 y4 ρ := rfl
section WL
variable {x : Cx} {t : Nat} {σ ρ : Zs} {d : Pd}
theorem s_wrest (hc : Cok x) {L z np A Y : Nat} {nm : Int64} {σb ρb : Zs} {a : Int64} {s2 : Int32} (ht2 : 2 ≤ t) (h : IP x 0 t σ ρ) (hD : SW7 x d L z σb ρb nm np A a t σ ρ) (hY : qM x = 1 → Y < dW d A ∧ zI σ 453 (qS x) (dN d) 0 = nI Y ∧ zI σ 456 (qS x) (dN d) 0 = nI 0 ∧ zI ρ 1801 (qG x) 0 (dN d) = nI Y) : SM (Er x 0) (cWr σ) (lW5 (nI (sIdx x d)) s2 a ρ) (fun _ σ' _ ρ' => ∃ t', t ≤ t' ∧ IP x 0 t' σ' ρ' ∧ FIN x d t' nm np σ' ρ') := by
  have hs12 : sIdx x d < 12 := sIdx12 hc fun m => (hD.2 m).1
  have gs : gi (nI (sIdx x d)) 12 := (n_gi (by omega)).mpr hs12
  unfold cWr lW5
  rw [range_num, bq_as]
  refine sm_b (s_take hc h (K := 15) rfl (by decide) (show ck 15 = 143 from rfl)) (fun _ σ2 _ ρ2 q => ?_) (fun _ _ _ _ g => g.go fun h => kb (k_cnum h) fun _ _ h => k_cW3 h)
  obtain ⟨q1, q2, ⟨ka, kp, kw, q3⟩, q4⟩ := q
  have D2 : SW7 x d L z σb ρb nm np A a (t + 1) σ2 ρ2 := by rw [q3, q4]; exact hD.av (Nat.le_succ t)
  have r2 : (zR ρ2 909 0 0 0).2 = 0 := by rw [hc.g q2.2.1]
  have r1 : (zR ρ2 909 0 0 0).1 = qG x := by rw [hc.g q2.2.1]
  rw [if_pos r2, r1]
  have hm2 : qM x = 1 → zI σ2 192 0 0 0 = 0 ∧ zR σ2 195 0 0 0 = (qS x, dN d) := fun m => ⟨(D2.2 m).2.1.1, (D2.2 m).2.1.2.2.1⟩
  refine sm_b (s_num hc q2 (wd := 143) (lo := 1) (n := dN d) rfl hm2) (fun _ σ3 v3 ρ3 g => ?_) (fun _ _ _ _ q => q.go fun h => k_cW3 h)
  obtain ⟨g1, g2, g3, g4⟩ := g
  have es3 : sI ρ3 1799 (qG x) 0 (Int32.toNatClampNeg (nI (sIdx x d))) v3 = sI ρ3 1799 (qG x) 0 (sIdx x d) v3 := by rw [n_cl (show sIdx x d < 2147483648 by omega)]
  obtain ⟨ρ4, hρ4⟩ : ∃ y, y = sI (sI ρ3 1799 (qG x) 0 (sIdx x d) v3) 1800 (qG x) 0 (sIdx x d) 0 := ⟨_, rfl⟩
  have hL3 : LFr x (sI ρ3 1799 (qG x) 0 (sIdx x d) v3) := g3.2.1.I (wlG rfl)
  have t2 : (zR (sI ρ3 1799 (qG x) 0 (sIdx x d) v3) 909 0 0 0).2 = 0 := by rw [hc.g hL3]
  have t1 : (zR (sI ρ3 1799 (qG x) 0 (sIdx x d) v3) 909 0 0 0).1 = qG x := by rw [hc.g hL3]
  have es4 : sI (sI ρ3 1799 (qG x) 0 (sIdx x d) v3) 1800 (qG x) 0 (Int32.toNatClampNeg (nI (sIdx x d))) 0 = ρ4 := by rw [hρ4, n_cl (show sIdx x d < 2147483648 by omega)]
  rw [if_pos gs, lt_k, es3, if_pos t2, if_pos gs, lt_k, t1, es4]
  have hI4 : IP x 0 (t + 1 + 1) σ3 ρ4 := by rw [hρ4]; exact (g3.lw hL3 rfl rfl rfl).lw (hL3.I (wlG rfl)) rfl rfl rfl
  have D4 : SW7 x d L z σb ρb nm np A a (t + 1 + 1) σ3 ρ4 := by
    rw [hρ4]
    refine SW7.lI (SW7.lI ?_ (sIdx_w rfl) rfl) (sIdx_w rfl) rfl
    rcases m01 hc with m | m
    · refine ⟨fun _ => ?_, fun q => by omega⟩
      rw [g2]; exact D2.1 m
    · obtain ⟨v, _, _, _, k, p, w, j4⟩ := g4 m
      rw [j4, g2]
      exact (D2.cI (wI_S rfl) rfl).av (Nat.le_succ _)
  obtain ⟨Sp, hX4, hSp⟩ : ∃ Sp, WX x d Y Sp 0 σ3 ρ4 ∧ (qM x = 1 → 1 ≤ Sp ∧ Sp ≤ 1000) := by
    rcases m01 hc with m | m
    · exact ⟨0, fun q => by omega, fun q => by omega⟩
    · obtain ⟨v, v1, v2, v3', k, p, w, j4⟩ := g4 m
      obtain ⟨h1, h2, h3, h4⟩ := hY m
      refine ⟨v, fun _ => ?_, fun _ => ⟨v1, v2⟩⟩
      have x453 : zI σ2 453 (qS x) (dN d) 0 = nI Y := by rw [q3]; exact h2
      have x456 : zI σ2 456 (qS x) (dN d) 0 = nI 0 := by rw [q3]; exact h3
      have x1801 : zI ρ3 1801 (qG x) 0 (dN d) = nI Y := by rw [g2, q4]; exact h4
      rw [j4, hρ4, sIdx_1 m]
      refine ⟨⟨?_, ?_, ?_⟩, ?_, ?_, ?_⟩
      · show zI (sI σ2 455 (qS x) (dN d) 0 (nI v)) 453 (qS x) (dN d) 0 = _; rw [sI_c (by decide)]; exact x453
      · show zI (sI σ2 455 (qS x) (dN d) 0 (nI v)) 455 (qS x) (dN d) 0 = _; rw [zI_sI, if_pos ⟨rfl, rfl, rfl, rfl⟩]
      · show zI (sI σ2 455 (qS x) (dN d) 0 (nI v)) 456 (qS x) (dN d) 0 = _; rw [sI_c (by decide)]; exact x456
      · rw [sI_c (by decide), sI_c (by decide)]; exact x1801
      · rw [sI_c (by decide), zI_sI, if_pos ⟨rfl, rfl, rfl, rfl⟩, v3']
      · rw [zI_sI, if_pos ⟨rfl, rfl, rfl, rfl⟩]; rfl
  have hv := hI4.vk hc
  unfold cW3 lW6
  rw [hI4.c0, bq_e (show fX14_is 16 ρ4 = _ from hI4.is hc 16 (by decide))]
  by_cases qk16 : qk x (t + 1 + 1) = 16
  · rw [if_pos (show ck (qk x (t + 1 + 1)) = 144 by rw [qk16]; rfl), if_pos qk16, if10, range_num]
    obtain ⟨σ5, a1, a2, a3, ⟨kb', kp', kw', a4⟩, _⟩ := s_tk hc hI4 (by omega)
    have u2 : (zR (sI ρ4 905 0 0 0 (nI (t + 1 + 1 + 1))) 909 0 0 0).2 = 0 := by rw [hc.g a3.2.1]
    have u1 : (zR (sI ρ4 905 0 0 0 (nI (t + 1 + 1 + 1))) 909 0 0 0).1 = qG x := by rw [hc.g a3.2.1]
    rw [bw_e a2, bq_as, bq_e (a1 144 (by rw [qk16]; rfl)), if_pos u2, u1]
    have D5 : SW7 x d L z σb ρb nm np A a (t + 1 + 1 + 1) σ5 (sI ρ4 905 0 0 0 (nI (t + 1 + 1 + 1))) := by rw [a4]; exact D4.av (Nat.le_succ _)
    have hm5 : qM x = 1 → zI σ5 192 0 0 0 = 0 ∧ zR σ5 195 0 0 0 = (qS x, dN d) := fun m => ⟨(D5.2 m).2.1.1, (D5.2 m).2.1.2.2.1⟩
    refine sm_b (s_num hc a3 (wd := 144) (lo := 0) (n := dN d) rfl hm5) (fun _ σ6 v6 ρ6 g => ?_) (fun _ _ _ _ q => q.go fun h => k_cW4 h)
    obtain ⟨f1, f2, f3, f4⟩ := g
    rw [if_pos gs, lt_k, n_cl (show sIdx x d < 2147483648 by omega)]
    have hI7 : IP x 0 (t + 1 + 1 + 1 + 1) σ6 (sI ρ6 1800 (qG x) 0 (sIdx x d) v6) := f3.lw (f3.2.1.I (wlG rfl)) rfl rfl rfl
    have D7 : SW7 x d L z σb ρb nm np A a (t + 1 + 1 + 1 + 1) σ6 (sI ρ6 1800 (qG x) 0 (sIdx x d) v6) := by
      refine SW7.lI ?_ (sIdx_w rfl) rfl
      rcases m01 hc with m | m
      · refine ⟨fun _ => ?_, fun q => by omega⟩
        rw [f2]; exact D5.1 m
      · obtain ⟨v, _, _, _, k, p, w, j4⟩ := f4 m
        rw [j4, f2]
        exact (D5.cI (wI_S rfl) rfl).av (Nat.le_succ _)
    obtain ⟨La, hX7, hLa⟩ : ∃ La, WX x d Y Sp La σ6 (sI ρ6 1800 (qG x) 0 (sIdx x d) v6) ∧ (qM x = 1 → La ≤ 1000) := by
      rcases m01 hc with m | m
      · exact ⟨0, fun q => by omega, fun q => by omega⟩
      · obtain ⟨v, _, v2, v3', k, p, w, j4⟩ := f4 m
        obtain ⟨⟨x1, x2, x3⟩, x4, x5, x6⟩ := hX4 m
        refine ⟨v, fun _ => ?_, fun _ => v2⟩
        rw [j4, f2, sIdx_1 m]
        refine ⟨⟨?_, ?_, ?_⟩, ?_, ?_, ?_⟩
        · show zI (sI σ5 456 (qS x) (dN d) 0 (nI v)) 453 (qS x) (dN d) 0 = _; rw [sI_c (by decide), a4]; exact x1
        · show zI (sI σ5 456 (qS x) (dN d) 0 (nI v)) 455 (qS x) (dN d) 0 = _; rw [sI_c (by decide), a4]; exact x2
        · show zI (sI σ5 456 (qS x) (dN d) 0 (nI v)) 456 (qS x) (dN d) 0 = _; rw [zI_sI, if_pos ⟨rfl, rfl, rfl, rfl⟩]
        · rw [sI_c (by decide)]; exact x4
        · rw [sI_c (by decide)]; exact x5
        · rw [zI_sI, if_pos ⟨rfl, rfl, rfl, rfl⟩, v3']
    refine sm_m (s_wtail hc (by omega) hI7 D7 hX7 (fun m => ⟨(hY m).1, (hSp m).1, (hSp m).2, hLa m⟩)) (fun _ _ _ _ ⟨t', e1, e2⟩ => ⟨t', by omega, e2⟩)
  · rw [if_neg (show ¬ ck (qk x (t + 1 + 1)) = 144 from ck_ne (j := 16) hv.1 rfl qk16), if_neg qk16, if00]
    exact sm_m (s_wtail hc (by omega) hI4 D4 hX4 (fun m => ⟨(hY m).1, (hSp m).1, (hSp m).2, by decide⟩)) (fun _ _ _ _ ⟨t', e1, e2⟩ => ⟨t', by omega, e2⟩)
end WL
