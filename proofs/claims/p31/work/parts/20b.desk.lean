/-! THE DESK'S CONSTRUCTOR -/
theorem Zr.kZ {z : Zs} {c p s k : Nat} {g : Nat → Int64} (h : Zr z c p s) (h1 : k ≠ c) (h2 : k / 64 ≠ c) : Zr (kZ k z g) c p s :=
  ⟨fun f' hf => ⟨(h.1 f' hf).1, by
    show (if f' = k ∧ p = 0 ∧ s = 0 then g 0 else zJ z f' p s 0) = 0
    rw [if_neg (fun q => h2 (by rw [← q.1]; exact hf))]
    exact (h.1 f' hf).2⟩, fun i => ⟨(h.2 i).1, by
    show (if c = k ∧ p = 0 ∧ s = 0 then g i else zJ z c p s i) = 0
    rw [if_neg (fun q => h1 q.1.symm)]
    exact (h.2 i).2⟩⟩
theorem Pl.rD {A : Nat → Nat → Nat → Nat} {S F E : C3} {h : Hp} {z : Zs} {f p s c p' s' : Nat} (hz : Pl A S F E h z) (hF : F f p s) (hd : dro f = some c) (e : zR z f p s 0 = (p', s')) : m_R h f (A (f / 64) p s) = some (A c p' s') := by
  obtain ⟨-, -, c1, p1, s1, -, q2, -, -, q4⟩ := hz.2.1 f p s hF
  obtain ⟨rfl, e2⟩ := q4 c hd
  rw [e] at e2
  cases e2
  exact q2
def L11e (i : Nat) : C3 := fun c p9 s9 => (c = 2 ∧ p9 = 0 ∧ s9 = i) ∨ GEnt i c p9 s9
def FL11e (i : Nat) : C3 := fun c p9 s9 => FGEnt i c p9 s9
def EL11e (i : Nat) : C3 := fun c p9 s9 => (c = 715 ∧ p9 = 0 ∧ s9 = i)
set_option maxRecDepth 20000 in
set_option maxHeartbeats 4000000 in
theorem l_X11_init_e {x : Cxt} {A0 : Nat → Nat → Nat → Nat} {S0 S F E : C3} {z : Zs} {dd MC MS Ma Mb : Nat} (hrm : m_rm dd MC MS x) (hMa : Ma ≤ MC) (hMb : Mb ≤ MS) (hdd : 3 ≤ dd) (hv : vdb 2 11 0 0 = true) (h0S : ∀ c p9 s9, S0 c p9 s9 → S c p9 s9) (hS : S 11 0 0) (hSa : S 1739 0 0) (hF : F 715 0 0) (hN : ∀ c p9 s9, (c = 2 ∧ p9 = 0 ∨ (c = 6 ∨ c = 1410) ∧ p9 = 5) → ¬ S c p9 s9) (hZ : ∀ c p9 s9, (c = 2 ∧ p9 = 0 ∨ (c = 6 ∨ c = 1410) ∧ p9 = 5) → Zr z c p9 s9) (kk : ∀ (A : Nat → Nat → Nat → Nat) (h : Hp), Ax A0 A S0 → Pl A (Su S (lpG (L11e) 200)) (Su F (lpG (FL11e) 200)) (Su E (lpG (EL11e) 200)) h z → wp x mX11_init 170 [(1, .int (nI 200)), (0, .ref (A 11 0 0))] [] h Ma Mb) : ∀ (n j : Nat) (A : Nat → Nat → Nat → Nat) (h : Hp) (kc ks : Nat), j + n = 200 → Ax A0 A S0 → Pl A (Su S (lpG (L11e) j)) (Su F (lpG (FL11e) j)) (Su E (lpG (EL11e) j)) h z → kc + 3 * n ≤ Ma → ks + 15 * n ≤ Mb → wp x mX11_init 142 [(1, .int (nI j)), (0, .ref (A 11 0 0))] [] h kc ks
  | 0, j, A, h, kc, ks => fun e hX hz hkc hks => by
    obtain rfl : j = 200 := by omega
    refine w_iload_n 0 dX11_init_142 rfl rfl rfl ?_
    refine w_aload_n 1 dX11_init_143 rfl rfl rfl ?_
    refine g_X11_71 dX11_init_144 rfl (hz.kO (Or.inl hS) (by decide)) (hz.rA (f := 715) (Or.inl hF) rfl) ?_
    refine w_alen 5 dX11_init_147 rfl (by decide) (by decide) (fun _ => rfl) (hz.kA (f := 715) (Or.inl hSa) rfl) (v := nI 200) (by rw [hz.nA (f := 715) (Or.inl hSa) rfl]; rfl) ?_
    refine w_icmp_ge 170 dX11_init_148 rfl rfl (fun q1 => ?_) (fun q1 => ?_)
    · exact w_widen (by omega) (by omega) (kk _ _ hX hz)
    · exact absurd (Int32.le_refl _) q1
  | n + 1, j, A, h, kc, ks => fun e hX hz hkc hks => by
    have ih := l_X11_init_e hrm hMa hMb hdd hv h0S hS hSa hF hN hZ kk n
    refine w_iload_n 0 dX11_init_142 rfl rfl rfl ?_
    refine w_aload_n 1 dX11_init_143 rfl rfl rfl ?_
    refine g_X11_71 dX11_init_144 rfl (hz.kO (Or.inl hS) (by decide)) (hz.rA (f := 715) (Or.inl hF) rfl) ?_
    refine w_alen 5 dX11_init_147 rfl (by decide) (by decide) (fun _ => rfl) (hz.kA (f := 715) (Or.inl hSa) rfl) (v := nI 200) (by rw [hz.nA (f := 715) (Or.inl hSa) rfl]; rfl) ?_
    refine w_icmp_ge 170 dX11_init_148 rfl rfl (fun q1 => ?_) (fun q1 => ?_)
    · exfalso
      have := b_le (a := 200) (b := j) (by omega) (by omega) q1
      omega
    · refine w_aload_n 1 dX11_init_151 rfl rfl rfl ?_
      refine g_X11_71 dX11_init_152 rfl (hz.kO (Or.inl hS) (by decide)) (hz.rA (f := 715) (Or.inl hF) rfl) ?_
      refine w_iload_n 0 dX11_init_155 rfl rfl rfl ?_
      have hve : vdb 2 2 0 j = true := (by simp [vdb]; omega)
      refine nw_X11_69 hrm dX11_init_156 rfl (by omega) (by omega) (fun q hq => ?_)
      refine i_addO hz hq (c0 := 2) (p0 := 0) (s0 := j) (by decide) hve ?_ (hZ _ _ _ (by omega)) (fun A2 h hA1 hz => ?_)
      · intro q
        rcases q with q | q
        rotate_left
        · obtain ⟨i, hi, q⟩ := lpG_ex q
          simp only [L11e, GEnt, GRow] at q
          omega
        exact hN _ _ _ (by omega) q
      have hX := hX.trans hA1 (fun _ _ _ q => Or.inl (h0S _ _ _ q))
      rw [← hA1 11 0 0 (Or.inl hS)]
      rw [← hA1 1739 0 0 (Or.inl hSa)]
      refine w_dup dX11_init_159 rfl rfl ?_
      refine c_X11_79 (b := A2 2 0 j) (As := []) (rest := [.ref (A2 2 0 j), .int (nI j), .ref (A2 1739 0 0)]) (fun l => s_X2_init (Or.inr ⟨rfl, rfl, rfl⟩) hve (fun c p9 s9 hc q => by
            rcases q with q | q
            rotate_left
            · omega
            rcases q with q | q
            rotate_left
            · obtain ⟨i, hi, q⟩ := lpG_ex q
              simp only [L11e, GEnt, GRow] at q
              omega
            exact hN _ _ _ (by omega) q) (fun c p9 s9 hc => hZ _ _ _ (by omega)) hz l) hrm dX11_init_160 rfl rfl (Nat.le_trans (Nat.le_of_ble_eq_true rfl) hdd) (by omega) (by omega) rfl (Nat.le_of_ble_eq_true rfl) (fun vr h2 hq => ?_) (fun E9 h9 hq => hq.elim)
      obtain ⟨rfl, A5, hA4, hz⟩ := hq
      show wp _ _ 163 [(1, .int (nI j)), (0, .ref (A2 11 0 0))] [.ref (A2 2 0 j), .int (nI j), .ref (A2 1739 0 0)] _ _ _
      have hX := hX.trans hA4 (fun _ _ _ q => Or.inl (Or.inl (h0S _ _ _ q)))
      rw [← hA4 11 0 0 (Or.inl (Or.inl hS))]
      rw [← hA4 2 0 j (Or.inr ⟨rfl, rfl, rfl⟩)]
      rw [← hA4 1739 0 0 (Or.inl (Or.inl hSa))]
      refine w_aast 5 dX11_init_163 rfl (by decide) (by decide) (fun _ => rfl) (hz.kA (f := 715) (Or.inl (Or.inl (Or.inl hSa))) rfl) (hz.kO (Or.inl (Or.inr ⟨rfl, rfl, rfl⟩)) (by decide)) (by decide) rfl (gin (hz.nA (f := 715) (Or.inl (Or.inl (Or.inl hSa))) rfl) (gi_nI (by omega) (by decide))) ?_
      rw [show (nI j).toNatClampNeg = j from i_cl (by omega)]
      refine i_fg (hz.setZ (f := 715) (p := 0) (i := j) (Or.inl (Or.inl (Or.inl hSa))) (Or.inl (Or.inr ⟨rfl, rfl, rfl⟩)) (et_s (f := 715) (by decide) rfl)) (fun h hz => ?_)
      refine w_iinc 0 (nI (j + 1)) [(1, .int (nI (j + 1))), (0, .ref (A5 11 0 0))] dX11_init_164 rfl rfl (nI_1 j) (by decide) rfl ?_
      refine w_goto 142 dX11_init_167 rfl ?_
      refine ih (j + 1) _ _ _ _ (by omega) hX (hz.congr (fun c p9 s9 => ?_) (fun c p9 s9 q => ?_) (fun c p9 s9 q => ?_)) (by omega) (by omega)
      · simp only [Sa, Su, lpG, L11e, or_assoc]
      · simpa only [Sa, Su, lpG, FL11e, or_assoc, or_false] using q
      · simpa only [Sa, Su, lpG, EL11e, or_assoc] using q

def GDes : C3 := fun c p9 s9 => (c = 1728 ∧ p9 = 0 ∧ s9 = 0) ∨ (c = 9 ∧ p9 = 0 ∧ s9 = 0) ∨ GTok c p9 s9 ∨ (c = 5 ∧ p9 = 0 ∧ s9 = 0) ∨ GPro 0 c p9 s9 ∨ (c = 5 ∧ p9 = 1 ∧ s9 = 0) ∨ GPro 1 c p9 s9 ∨ (c = 5 ∧ p9 = 2 ∧ s9 = 0) ∨ GPro 2 c p9 s9 ∨ (c = 3 ∧ p9 = 0 ∧ s9 = 0) ∨ GMea c p9 s9 ∨ (c = 4 ∧ p9 = 0 ∧ s9 = 0) ∨ GPar c p9 s9 ∨ (c = 1 ∧ p9 = 0 ∧ s9 = 0) ∨ GEng c p9 s9 ∨ (c = 6 ∧ p9 = 3 ∧ s9 = 0) ∨ GRow 3 0 c p9 s9 ∨ (c = 1739 ∧ p9 = 0 ∧ s9 = 0) ∨ (c = 1741 ∧ p9 = 0 ∧ s9 = 0) ∨ lpG (L11e) 200 c p9 s9
def FGDes : C3 := fun c p9 s9 => (c = 704 ∧ p9 = 0 ∧ s9 = 0) ∨ FGTok c p9 s9 ∨ (c = 706 ∧ p9 = 0 ∧ s9 = 0) ∨ FGPro 0 c p9 s9 ∨ (c = 707 ∧ p9 = 0 ∧ s9 = 0) ∨ FGPro 1 c p9 s9 ∨ (c = 708 ∧ p9 = 0 ∧ s9 = 0) ∨ FGPro 2 c p9 s9 ∨ (c = 709 ∧ p9 = 0 ∧ s9 = 0) ∨ FGMea c p9 s9 ∨ (c = 710 ∧ p9 = 0 ∧ s9 = 0) ∨ FGPar c p9 s9 ∨ (c = 711 ∧ p9 = 0 ∧ s9 = 0) ∨ FGEng c p9 s9 ∨ (c = 713 ∧ p9 = 0 ∧ s9 = 0) ∨ FGRow 3 0 c p9 s9 ∨ (c = 714 ∧ p9 = 0 ∧ s9 = 0) ∨ (c = 715 ∧ p9 = 0 ∧ s9 = 0) ∨ (c = 717 ∧ p9 = 0 ∧ s9 = 0) ∨ lpG (FL11e) 200 c p9 s9
def EGDes : C3 := fun c p9 s9 => EGPro 0 c p9 s9 ∨ EGPro 1 c p9 s9 ∨ EGPro 2 c p9 s9 ∨ EGEng c p9 s9 ∨ lpG (EL11e) 200 c p9 s9
def zDes (z : Zs) : Zs := (sR (sI (sR (sR (sR (sR (sR (sR (sR (sR (kZ 1603 z kwG) 707 0 0 0 (0, 0)) 708 0 0 0 (1, 0)) 709 0 0 0 (2, 0)) 194 0 0 0 (2, 0)) 195 0 0 0 (2, 0)) 198 0 0 0 (2, 0)) 199 0 0 0 (2, 0)) 196 0 0 0 (2, 0)) 712 0 0 0 (-1)) 64 0 0 0 (0, 0))
set_option maxRecDepth 20000 in
set_option maxHeartbeats 4000000 in
theorem s_X11_init {A : Nat → Nat → Nat → Nat} {S F E : C3} {h : Hp} {z : Zs}  (hS : S 11 0 0) (hR : ∀ j, zR z 1089 0 0 j = (4, j)) (hN : ∀ c p9 s9, (c < 11 ∨ 1024 ≤ c ∧ c < 1792) → ¬ S c p9 s9) (hZ : ∀ c p9 s9, (c < 11 ∨ 1024 ≤ c ∧ c < 1792) → Zr z c p9 s9) (hz : Pl A S F E h z) : ∀ l : Launch, Sp l mX11_init 12 1395 97788 [.ref (A 11 0 0)] h (fun r h1 => r = none ∧ ∃ A1, Ax A A1 S ∧ Pl A1 (Su S (GDes)) (Su F (FGDes)) (Su E EGDes) h1 (zDes z)) X0 := by
  intro l
  refine Sp.of rfl rfl (lv := [(0, .ref (A 11 0 0))]) (Nat.le_of_ble_eq_true rfl) rfl (fun x hf hrm => ?_)
  have hX : Ax A A S := fun _ _ _ _ => rfl
  have hv : vdb 2 11 0 0 = true := rfl
  refine w_aload_n 0 dX11_init_0 rfl rfl rfl ?_
  refine w_objInit hrm (by decide) dX11_init_1 rfl ml_X11_3 im_objectInit co_objectInit (Nat.le_of_ble_eq_true rfl) ?_
  refine w_aload_n 0 dX11_init_4 rfl rfl rfl ?_
  refine w_sipush 1500 dX11_init_5 rfl rfl ?_
  refine w_newB (n := 1500) hrm dX11_init_8 rfl a_byte (by decide) rfl (by decide) (Nat.le_of_ble_eq_true rfl) (Nat.le_of_ble_eq_true rfl) (fun q hq => ?_)
  refine i_addA hz hq (f0 := 704) (p0 := 0) (s0 := 0) rfl (by decide) rfl ?_ (hZ _ _ _ (by omega)) (fun A2 h hA1 hz => ?_)
  · intro q
    exact hN _ _ _ (by omega) q
  have hX := hX.trans hA1 (fun _ _ _ q => q)
  rw [← hA1 11 0 0 hS]
  refine p_X11_9 dX11_init_10 rfl (hz.kO (Or.inl hS) (by decide)) rfl ?_
  refine i_fg (hz.setR (f := 704) (by decide) (Or.inl hS) (Or.inr ⟨rfl, rfl, rfl⟩) (rt_a (f := 704) rfl rfl rfl)) (fun h hz => ?_)
  refine w_aload_n 0 dX11_init_13 rfl rfl rfl ?_
  refine nw_X11_13 hrm dX11_init_14 rfl (Nat.le_of_ble_eq_true rfl) (Nat.le_of_ble_eq_true rfl) (fun q hq => ?_)
  refine i_addO hz hq (c0 := 9) (p0 := 0) (s0 := 0) (by decide) rfl ?_ (hZ _ _ _ (by omega)) (fun A5 h hA4 hz => ?_)
  · intro q
    rcases q with q | q
    rotate_left
    · omega
    exact hN _ _ _ (by omega) q
  have hX := hX.trans hA4 (fun _ _ _ q => Or.inl (q))
  rw [← hA4 11 0 0 (Or.inl hS)]
  refine w_dup dX11_init_17 rfl rfl ?_
  refine c_X11_15 (b := A5 9 0 0) (As := []) (rest := [.ref (A5 9 0 0), .ref (A5 11 0 0)]) (fun l => s_X9_init (Or.inr ⟨rfl, rfl, rfl⟩) (fun c p9 s9 hc q => by
        rcases q with q | q
        rotate_left
        · omega
        rcases q with q | q
        rotate_left
        · omega
        exact hN _ _ _ (by omega) q) (fun c p9 s9 hc => hZ _ _ _ (by omega)) hz l) hrm dX11_init_18 rfl rfl (Nat.le_of_ble_eq_true rfl) (Nat.le_of_ble_eq_true rfl) (Nat.le_of_ble_eq_true rfl) rfl (Nat.le_of_ble_eq_true rfl) (fun vr h2 hq => ?_) (fun E9 h9 hq => hq.elim)
  obtain ⟨rfl, A8, hA7, hz⟩ := hq
  show wp _ _ 21 [(0, .ref (A5 11 0 0))] [.ref (A5 9 0 0), .ref (A5 11 0 0)] _ _ _
  have hX := hX.trans hA7 (fun _ _ _ q => Or.inl (Or.inl (q)))
  rw [← hA7 11 0 0 (Or.inl (Or.inl hS))]
  rw [← hA7 9 0 0 (Or.inr ⟨rfl, rfl, rfl⟩)]
  refine p_X11_16 dX11_init_21 rfl (hz.kO (Or.inl (Or.inl (Or.inl hS))) (by decide)) rfl ?_
  refine i_fg (hz.setR (f := 706) (by decide) (Or.inl (Or.inl (Or.inl hS))) (Or.inl (Or.inr ⟨rfl, rfl, rfl⟩)) (rt_s (f := 706) rfl rfl rfl)) (fun h hz => ?_)
  refine w_aload_n 0 dX11_init_24 rfl rfl rfl ?_
  refine nw_X11_20 hrm dX11_init_25 rfl (Nat.le_of_ble_eq_true rfl) (Nat.le_of_ble_eq_true rfl) (fun q hq => ?_)
  refine i_addO hz hq (c0 := 5) (p0 := 0) (s0 := 0) (by decide) rfl ?_ (Zr.kZ (hZ _ _ _ (by omega)) (by omega) (by omega)) (fun A10 h hA9 hz => ?_)
  · intro q
    rcases q with q | q
    rotate_left
    · simp only [GTok] at q; omega
    rcases q with q | q
    rotate_left
    · omega
    rcases q with q | q
    rotate_left
    · omega
    exact hN _ _ _ (by omega) q
  have hX := hX.trans hA9 (fun _ _ _ q => Or.inl (Or.inl (Or.inl (q))))
  rw [← hA9 11 0 0 (Or.inl (Or.inl (Or.inl hS)))]
  refine w_dup dX11_init_28 rfl rfl ?_
  refine c_X11_22 (b := A10 5 0 0) (As := []) (rest := [.ref (A10 5 0 0), .ref (A10 11 0 0)]) (fun l => s_X5_init (Or.inr ⟨rfl, rfl, rfl⟩) rfl (fun c p9 s9 hc q => by
        rcases q with q | q
        rotate_left
        · omega
        rcases q with q | q
        rotate_left
        · simp only [GTok] at q; omega
        rcases q with q | q
        rotate_left
        · omega
        rcases q with q | q
        rotate_left
        · omega
        exact hN _ _ _ (by omega) q) (fun c p9 s9 hc => Zr.kZ (hZ _ _ _ (by omega)) (by omega) (by omega)) hz l) hrm dX11_init_29 rfl rfl (Nat.le_of_ble_eq_true rfl) (Nat.le_of_ble_eq_true rfl) (Nat.le_of_ble_eq_true rfl) rfl (Nat.le_of_ble_eq_true rfl) (fun vr h2 hq => ?_) (fun E9 h9 hq => hq.elim)
  obtain ⟨rfl, A13, hA12, hz⟩ := hq
  show wp _ _ 32 [(0, .ref (A10 11 0 0))] [.ref (A10 5 0 0), .ref (A10 11 0 0)] _ _ _
  have hX := hX.trans hA12 (fun _ _ _ q => Or.inl (Or.inl (Or.inl (Or.inl (q)))))
  rw [← hA12 11 0 0 (Or.inl (Or.inl (Or.inl (Or.inl hS))))]
  rw [← hA12 5 0 0 (Or.inr ⟨rfl, rfl, rfl⟩)]
  refine p_X11_23 dX11_init_32 rfl (hz.kO (Or.inl (Or.inl (Or.inl (Or.inl (Or.inl hS))))) (by decide)) ?_
  refine i_fg (hz.putR (f := 707) (by decide) (Or.inl (Or.inl (Or.inl (Or.inl (Or.inl hS))))) (Or.inl (Or.inr ⟨rfl, rfl, rfl⟩)) rfl rfl (fun _ _ => rfl)) (fun h hz => ?_)
  refine w_aload_n 0 dX11_init_35 rfl rfl rfl ?_
  refine nw_X11_20 hrm dX11_init_36 rfl (Nat.le_of_ble_eq_true rfl) (Nat.le_of_ble_eq_true rfl) (fun q hq => ?_)
  refine i_addO hz hq (c0 := 5) (p0 := 1) (s0 := 0) (by decide) rfl ?_ (Zr.sR (Zr.kZ (hZ _ _ _ (by omega)) (by omega) (by omega))) (fun A15 h hA14 hz => ?_)
  · intro q
    rcases q with q | q
    rotate_left
    · simp only [GPro] at q
      rcases q with q | q | q | q | q | q | q
      · omega
      · omega
      · omega
      · omega
      · omega
      · obtain ⟨i, hi, q⟩ := lpG_ex q
        simp only [L5a, GStr, GTab, GWin] at q
        omega
      · obtain ⟨i, hi, q⟩ := lpG_ex q
        simp only [L5b] at q
        omega
    rcases q with q | q
    rotate_left
    · omega
    rcases q with q | q
    rotate_left
    · simp only [GTok] at q; omega
    rcases q with q | q
    rotate_left
    · omega
    rcases q with q | q
    rotate_left
    · omega
    exact hN _ _ _ (by omega) q
  have hX := hX.trans hA14 (fun _ _ _ q => Or.inl (Or.inl (Or.inl (Or.inl (Or.inl (q))))))
  rw [← hA14 11 0 0 (Or.inl (Or.inl (Or.inl (Or.inl (Or.inl hS)))))]
  refine w_dup dX11_init_39 rfl rfl ?_
  refine c_X11_22 (b := A15 5 1 0) (As := []) (rest := [.ref (A15 5 1 0), .ref (A15 11 0 0)]) (fun l => s_X5_init (Or.inr ⟨rfl, rfl, rfl⟩) rfl (fun c p9 s9 hc q => by
        rcases q with q | q
        rotate_left
        · omega
        rcases q with q | q
        rotate_left
        · simp only [GPro] at q
          rcases q with q | q | q | q | q | q | q
          · omega
          · omega
          · omega
          · omega
          · omega
          · obtain ⟨i, hi, q⟩ := lpG_ex q
            simp only [L5a, GStr, GTab, GWin] at q
            omega
          · obtain ⟨i, hi, q⟩ := lpG_ex q
            simp only [L5b] at q
            omega
        rcases q with q | q
        rotate_left
        · omega
        rcases q with q | q
        rotate_left
        · simp only [GTok] at q; omega
        rcases q with q | q
        rotate_left
        · omega
        rcases q with q | q
        rotate_left
        · omega
        exact hN _ _ _ (by omega) q) (fun c p9 s9 hc => Zr.sR (Zr.kZ (hZ _ _ _ (by omega)) (by omega) (by omega))) hz l) hrm dX11_init_40 rfl rfl (Nat.le_of_ble_eq_true rfl) (Nat.le_of_ble_eq_true rfl) (Nat.le_of_ble_eq_true rfl) rfl (Nat.le_of_ble_eq_true rfl) (fun vr h2 hq => ?_) (fun E9 h9 hq => hq.elim)
  obtain ⟨rfl, A18, hA17, hz⟩ := hq
  show wp _ _ 43 [(0, .ref (A15 11 0 0))] [.ref (A15 5 1 0), .ref (A15 11 0 0)] _ _ _
  have hX := hX.trans hA17 (fun _ _ _ q => Or.inl (Or.inl (Or.inl (Or.inl (Or.inl (Or.inl (q)))))))
  rw [← hA17 11 0 0 (Or.inl (Or.inl (Or.inl (Or.inl (Or.inl (Or.inl hS))))))]
  rw [← hA17 5 1 0 (Or.inr ⟨rfl, rfl, rfl⟩)]
  refine p_X11_27 dX11_init_43 rfl (hz.kO (Or.inl (Or.inl (Or.inl (Or.inl (Or.inl (Or.inl (Or.inl hS))))))) (by decide)) ?_
  refine i_fg (hz.putR (f := 708) (by decide) (Or.inl (Or.inl (Or.inl (Or.inl (Or.inl (Or.inl (Or.inl hS))))))) (Or.inl (Or.inr ⟨rfl, rfl, rfl⟩)) rfl rfl (fun _ _ => rfl)) (fun h hz => ?_)
  refine w_aload_n 0 dX11_init_46 rfl rfl rfl ?_
  refine nw_X11_20 hrm dX11_init_47 rfl (Nat.le_of_ble_eq_true rfl) (Nat.le_of_ble_eq_true rfl) (fun q hq => ?_)
  refine i_addO hz hq (c0 := 5) (p0 := 2) (s0 := 0) (by decide) rfl ?_ (Zr.sR (Zr.sR (Zr.kZ (hZ _ _ _ (by omega)) (by omega) (by omega)))) (fun A20 h hA19 hz => ?_)
  · intro q
    rcases q with q | q
    rotate_left
    · simp only [GPro] at q
      rcases q with q | q | q | q | q | q | q
      · omega
      · omega
      · omega
      · omega
      · omega
      · obtain ⟨i, hi, q⟩ := lpG_ex q
        simp only [L5a, GStr, GTab, GWin] at q
        omega
      · obtain ⟨i, hi, q⟩ := lpG_ex q
        simp only [L5b] at q
        omega
    rcases q with q | q
    rotate_left
    · omega
    rcases q with q | q
    rotate_left
    · simp only [GPro] at q
      rcases q with q | q | q | q | q | q | q
      · omega
      · omega
      · omega
      · omega
      · omega
      · obtain ⟨i, hi, q⟩ := lpG_ex q
        simp only [L5a, GStr, GTab, GWin] at q
        omega
      · obtain ⟨i, hi, q⟩ := lpG_ex q
        simp only [L5b] at q
        omega
    rcases q with q | q
    rotate_left
    · omega
    rcases q with q | q
    rotate_left
    · simp only [GTok] at q; omega
    rcases q with q | q
    rotate_left
    · omega
    rcases q with q | q
    rotate_left
    · omega
    exact hN _ _ _ (by omega) q
  have hX := hX.trans hA19 (fun _ _ _ q => Or.inl (Or.inl (Or.inl (Or.inl (Or.inl (Or.inl (Or.inl (q))))))))
  rw [← hA19 11 0 0 (Or.inl (Or.inl (Or.inl (Or.inl (Or.inl (Or.inl (Or.inl hS)))))))]
  refine w_dup dX11_init_50 rfl rfl ?_
  refine c_X11_22 (b := A20 5 2 0) (As := []) (rest := [.ref (A20 5 2 0), .ref (A20 11 0 0)]) (fun l => s_X5_init (Or.inr ⟨rfl, rfl, rfl⟩) rfl (fun c p9 s9 hc q => by
        rcases q with q | q
        rotate_left
        · omega
        rcases q with q | q
        rotate_left
        · simp only [GPro] at q
          rcases q with q | q | q | q | q | q | q
          · omega
          · omega
          · omega
          · omega
          · omega
          · obtain ⟨i, hi, q⟩ := lpG_ex q
            simp only [L5a, GStr, GTab, GWin] at q
            omega
          · obtain ⟨i, hi, q⟩ := lpG_ex q
            simp only [L5b] at q
            omega
        rcases q with q | q
        rotate_left
        · omega
        rcases q with q | q
        rotate_left
        · simp only [GPro] at q
          rcases q with q | q | q | q | q | q | q
          · omega
          · omega
          · omega
          · omega
          · omega
          · obtain ⟨i, hi, q⟩ := lpG_ex q
            simp only [L5a, GStr, GTab, GWin] at q
            omega
          · obtain ⟨i, hi, q⟩ := lpG_ex q
            simp only [L5b] at q
            omega
        rcases q with q | q
        rotate_left
        · omega
        rcases q with q | q
        rotate_left
        · simp only [GTok] at q; omega
        rcases q with q | q
        rotate_left
        · omega
        rcases q with q | q
        rotate_left
        · omega
        exact hN _ _ _ (by omega) q) (fun c p9 s9 hc => Zr.sR (Zr.sR (Zr.kZ (hZ _ _ _ (by omega)) (by omega) (by omega)))) hz l) hrm dX11_init_51 rfl rfl (Nat.le_of_ble_eq_true rfl) (Nat.le_of_ble_eq_true rfl) (Nat.le_of_ble_eq_true rfl) rfl (Nat.le_of_ble_eq_true rfl) (fun vr h2 hq => ?_) (fun E9 h9 hq => hq.elim)
  obtain ⟨rfl, A23, hA22, hz⟩ := hq
  show wp _ _ 54 [(0, .ref (A20 11 0 0))] [.ref (A20 5 2 0), .ref (A20 11 0 0)] _ _ _
  have hX := hX.trans hA22 (fun _ _ _ q => Or.inl (Or.inl (Or.inl (Or.inl (Or.inl (Or.inl (Or.inl (Or.inl (q)))))))))
  rw [← hA22 11 0 0 (Or.inl (Or.inl (Or.inl (Or.inl (Or.inl (Or.inl (Or.inl (Or.inl hS))))))))]
  rw [← hA22 5 2 0 (Or.inr ⟨rfl, rfl, rfl⟩)]
  refine p_X11_30 dX11_init_54 rfl (hz.kO (Or.inl (Or.inl (Or.inl (Or.inl (Or.inl (Or.inl (Or.inl (Or.inl (Or.inl hS))))))))) (by decide)) ?_
  refine i_fg (hz.putR (f := 709) (by decide) (Or.inl (Or.inl (Or.inl (Or.inl (Or.inl (Or.inl (Or.inl (Or.inl (Or.inl hS))))))))) (Or.inl (Or.inr ⟨rfl, rfl, rfl⟩)) rfl rfl (fun _ _ => rfl)) (fun h hz => ?_)
  refine w_aload_n 0 dX11_init_57 rfl rfl rfl ?_
  refine nw_X11_33 hrm dX11_init_58 rfl (Nat.le_of_ble_eq_true rfl) (Nat.le_of_ble_eq_true rfl) (fun q hq => ?_)
  refine i_addO hz hq (c0 := 3) (p0 := 0) (s0 := 0) (by decide) rfl ?_ (Zr.sR (Zr.sR (Zr.sR (Zr.kZ (hZ _ _ _ (by omega)) (by omega) (by omega))))) (fun A25 h hA24 hz => ?_)
  · intro q
    rcases q with q | q
    rotate_left
    · simp only [GPro] at q
      rcases q with q | q | q | q | q | q | q
      · omega
      · omega
      · omega
      · omega
      · omega
      · obtain ⟨i, hi, q⟩ := lpG_ex q
        simp only [L5a, GStr, GTab, GWin] at q
        omega
      · obtain ⟨i, hi, q⟩ := lpG_ex q
        simp only [L5b] at q
        omega
    rcases q with q | q
    rotate_left
    · omega
    rcases q with q | q
    rotate_left
    · simp only [GPro] at q
      rcases q with q | q | q | q | q | q | q
      · omega
      · omega
      · omega
      · omega
      · omega
      · obtain ⟨i, hi, q⟩ := lpG_ex q
        simp only [L5a, GStr, GTab, GWin] at q
        omega
      · obtain ⟨i, hi, q⟩ := lpG_ex q
        simp only [L5b] at q
        omega
    rcases q with q | q
    rotate_left
    · omega
    rcases q with q | q
    rotate_left
    · simp only [GPro] at q
      rcases q with q | q | q | q | q | q | q
      · omega
      · omega
      · omega
      · omega
      · omega
      · obtain ⟨i, hi, q⟩ := lpG_ex q
        simp only [L5a, GStr, GTab, GWin] at q
        omega
      · obtain ⟨i, hi, q⟩ := lpG_ex q
        simp only [L5b] at q
        omega
    rcases q with q | q
    rotate_left
    · omega
    rcases q with q | q
    rotate_left
    · simp only [GTok] at q; omega
    rcases q with q | q
    rotate_left
    · omega
    rcases q with q | q
    rotate_left
    · omega
    exact hN _ _ _ (by omega) q
  have hX := hX.trans hA24 (fun _ _ _ q => Or.inl (Or.inl (Or.inl (Or.inl (Or.inl (Or.inl (Or.inl (Or.inl (Or.inl (q))))))))))
  rw [← hA24 11 0 0 (Or.inl (Or.inl (Or.inl (Or.inl (Or.inl (Or.inl (Or.inl (Or.inl (Or.inl hS)))))))))]
  refine w_dup dX11_init_61 rfl rfl ?_
  refine w_aload_n 0 dX11_init_62 rfl rfl rfl ?_
  refine g_X11_30 dX11_init_63 rfl (hz.kO (Or.inl (Or.inl (Or.inl (Or.inl (Or.inl (Or.inl (Or.inl (Or.inl (Or.inl (Or.inl hS)))))))))) (by decide)) (hz.rD (f := 709) (Or.inr ⟨rfl, rfl, rfl⟩) rfl rfl) ?_
  refine c_X11_35 (b := A25 3 0 0) (As := [.ref (A25 5 2 0)]) (rest := [.ref (A25 3 0 0), .ref (A25 11 0 0)]) (fun l => s_X3_init (Or.inr ⟨rfl, rfl, rfl⟩) (Or.inl (Or.inl (Or.inr ⟨rfl, rfl, rfl⟩))) (Or.inl (Or.inr (Or.inl ⟨rfl, rfl, rfl⟩))) (Or.inl (Or.inr (Or.inr (Or.inl ⟨rfl, rfl, rfl⟩)))) (Or.inl (Or.inr (Or.inr (Or.inr (Or.inr (Or.inr (Or.inr (Or.inl (lpG_of (i := 0) (by decide) (Or.inl ⟨rfl, rfl, rfl⟩)))))))))) (Or.inl (Or.inr (Or.inr (Or.inr (Or.inr (Or.inr (Or.inr (Or.inr (lpG_of (i := 0) (by decide) ⟨rfl, rfl, rfl⟩))))))))) (Or.inl (Or.inr (Or.inl ⟨rfl, rfl, rfl⟩))) (Or.inl (Or.inr (Or.inr (Or.inl ⟨rfl, rfl, rfl⟩)))) (Or.inr (Or.inl (lpG_of (i := 0) (by decide) ⟨rfl, rfl, rfl⟩))) (Or.inr (Or.inr (lpG_of (i := 0) (by decide) ⟨rfl, rfl, rfl⟩))) (fun c p9 s9 hc q => by
        rcases q with q | q
        rotate_left
        · omega
        rcases q with q | q
        rotate_left
        · simp only [GPro] at q
          rcases q with q | q | q | q | q | q | q
          · omega
          · omega
          · omega
          · omega
          · omega
          · obtain ⟨i, hi, q⟩ := lpG_ex q
            simp only [L5a, GStr, GTab, GWin] at q
            omega
          · obtain ⟨i, hi, q⟩ := lpG_ex q
            simp only [L5b] at q
            omega
        rcases q with q | q
        rotate_left
        · omega
        rcases q with q | q
        rotate_left
        · simp only [GPro] at q
          rcases q with q | q | q | q | q | q | q
          · omega
          · omega
          · omega
          · omega
          · omega
          · obtain ⟨i, hi, q⟩ := lpG_ex q
            simp only [L5a, GStr, GTab, GWin] at q
            omega
          · obtain ⟨i, hi, q⟩ := lpG_ex q
            simp only [L5b] at q
            omega
        rcases q with q | q
        rotate_left
        · omega
        rcases q with q | q
        rotate_left
        · simp only [GPro] at q
          rcases q with q | q | q | q | q | q | q
          · omega
          · omega
          · omega
          · omega
          · omega
          · obtain ⟨i, hi, q⟩ := lpG_ex q
            simp only [L5a, GStr, GTab, GWin] at q
            omega
          · obtain ⟨i, hi, q⟩ := lpG_ex q
            simp only [L5b] at q
            omega
        rcases q with q | q
        rotate_left
        · omega
        rcases q with q | q
        rotate_left
        · simp only [GTok] at q; omega
        rcases q with q | q
        rotate_left
        · omega
        rcases q with q | q
        rotate_left
        · omega
        exact hN _ _ _ (by omega) q) (fun c p9 s9 hc => Zr.sR (Zr.sR (Zr.sR (Zr.kZ (hZ _ _ _ (by omega)) (by omega) (by omega))))) hz l) hrm dX11_init_66 rfl rfl (Nat.le_of_ble_eq_true rfl) (Nat.le_of_ble_eq_true rfl) (Nat.le_of_ble_eq_true rfl) rfl (Nat.le_of_ble_eq_true rfl) (fun vr h2 hq => ?_) (fun E9 h9 hq => hq.elim)
  obtain ⟨rfl, A28, hA27, hz⟩ := hq
  show wp _ _ 69 [(0, .ref (A25 11 0 0))] [.ref (A25 3 0 0), .ref (A25 11 0 0)] _ _ _
  have hX := hX.trans hA27 (fun _ _ _ q => Or.inl (Or.inl (Or.inl (Or.inl (Or.inl (Or.inl (Or.inl (Or.inl (Or.inl (Or.inl (q)))))))))))
  rw [← hA27 11 0 0 (Or.inl (Or.inl (Or.inl (Or.inl (Or.inl (Or.inl (Or.inl (Or.inl (Or.inl (Or.inl hS))))))))))]
  rw [← hA27 3 0 0 (Or.inr ⟨rfl, rfl, rfl⟩)]
  refine p_X11_38 dX11_init_69 rfl (hz.kO (Or.inl (Or.inl (Or.inl (Or.inl (Or.inl (Or.inl (Or.inl (Or.inl (Or.inl (Or.inl (Or.inl hS))))))))))) (by decide)) rfl ?_
  refine i_fg (hz.setR (f := 710) (by decide) (Or.inl (Or.inl (Or.inl (Or.inl (Or.inl (Or.inl (Or.inl (Or.inl (Or.inl (Or.inl (Or.inl hS))))))))))) (Or.inl (Or.inr ⟨rfl, rfl, rfl⟩)) (rt_s (f := 710) rfl rfl rfl)) (fun h hz => ?_)
  refine w_aload_n 0 dX11_init_72 rfl rfl rfl ?_
  refine nw_X11_42 hrm dX11_init_73 rfl (Nat.le_of_ble_eq_true rfl) (Nat.le_of_ble_eq_true rfl) (fun q hq => ?_)
  refine i_addO hz hq (c0 := 4) (p0 := 0) (s0 := 0) (by decide) rfl ?_ (Zr.sR (Zr.sR (Zr.sR (Zr.sR (Zr.sR (Zr.sR (Zr.sR (Zr.sR (Zr.kZ (hZ _ _ _ (by omega)) (by omega) (by omega)))))))))) (fun A30 h hA29 hz => ?_)
  · intro q
    rcases q with q | q
    rotate_left
    · simp only [GMea] at q; omega
    rcases q with q | q
    rotate_left
    · omega
    rcases q with q | q
    rotate_left
    · simp only [GPro] at q
      rcases q with q | q | q | q | q | q | q
      · omega
      · omega
      · omega
      · omega
      · omega
      · obtain ⟨i, hi, q⟩ := lpG_ex q
        simp only [L5a, GStr, GTab, GWin] at q
        omega
      · obtain ⟨i, hi, q⟩ := lpG_ex q
        simp only [L5b] at q
        omega
    rcases q with q | q
    rotate_left
    · omega
    rcases q with q | q
    rotate_left
    · simp only [GPro] at q
      rcases q with q | q | q | q | q | q | q
      · omega
      · omega
      · omega
      · omega
      · omega
      · obtain ⟨i, hi, q⟩ := lpG_ex q
        simp only [L5a, GStr, GTab, GWin] at q
        omega
      · obtain ⟨i, hi, q⟩ := lpG_ex q
        simp only [L5b] at q
        omega
    rcases q with q | q
    rotate_left
    · omega
    rcases q with q | q
    rotate_left
    · simp only [GPro] at q
      rcases q with q | q | q | q | q | q | q
      · omega
      · omega
      · omega
      · omega
      · omega
      · obtain ⟨i, hi, q⟩ := lpG_ex q
        simp only [L5a, GStr, GTab, GWin] at q
        omega
      · obtain ⟨i, hi, q⟩ := lpG_ex q
        simp only [L5b] at q
        omega
    rcases q with q | q
    rotate_left
    · omega
    rcases q with q | q
    rotate_left
    · simp only [GTok] at q; omega
    rcases q with q | q
    rotate_left
    · omega
    rcases q with q | q
    rotate_left
    · omega
    exact hN _ _ _ (by omega) q
  have hX := hX.trans hA29 (fun _ _ _ q => Or.inl (Or.inl (Or.inl (Or.inl (Or.inl (Or.inl (Or.inl (Or.inl (Or.inl (Or.inl (Or.inl (q))))))))))))
  rw [← hA29 11 0 0 (Or.inl (Or.inl (Or.inl (Or.inl (Or.inl (Or.inl (Or.inl (Or.inl (Or.inl (Or.inl (Or.inl hS)))))))))))]
  refine w_dup dX11_init_76 rfl rfl ?_
  refine w_aload_n 0 dX11_init_77 rfl rfl rfl ?_
  refine g_X11_16 dX11_init_78 rfl (hz.kO (Or.inl (Or.inl (Or.inl (Or.inl (Or.inl (Or.inl (Or.inl (Or.inl (Or.inl (Or.inl (Or.inl (Or.inl hS)))))))))))) (by decide)) (hz.rO (f := 706) (Or.inl (Or.inl (Or.inl (Or.inl (Or.inl (Or.inl (Or.inl (Or.inl (Or.inr ⟨rfl, rfl, rfl⟩))))))))) rfl) ?_
  refine w_aload_n 0 dX11_init_81 rfl rfl rfl ?_
  refine g_X11_38 dX11_init_82 rfl (hz.kO (Or.inl (Or.inl (Or.inl (Or.inl (Or.inl (Or.inl (Or.inl (Or.inl (Or.inl (Or.inl (Or.inl (Or.inl hS)))))))))))) (by decide)) (hz.rO (f := 710) (Or.inr ⟨rfl, rfl, rfl⟩) rfl) ?_
  refine c_X11_44 (b := A30 4 0 0) (As := [.ref (A30 9 0 0), .ref (A30 3 0 0)]) (rest := [.ref (A30 4 0 0), .ref (A30 11 0 0)]) (fun l => s_X4_init (Or.inr ⟨rfl, rfl, rfl⟩) (Or.inl (Or.inl (Or.inl (Or.inl (Or.inl (Or.inl (Or.inl (Or.inl (Or.inl (Or.inl (Or.inr ⟨rfl, rfl, rfl⟩))))))))))) (Or.inl (Or.inl (Or.inr ⟨rfl, rfl, rfl⟩))) (fun c p9 s9 hc => hc.elim) (fun c p9 s9 hc => hc.elim) hz l) hrm dX11_init_85 rfl rfl (Nat.le_of_ble_eq_true rfl) (Nat.le_of_ble_eq_true rfl) (Nat.le_of_ble_eq_true rfl) rfl (Nat.le_of_ble_eq_true rfl) (fun vr h2 hq => ?_) (fun E9 h9 hq => hq.elim)
  obtain ⟨rfl, A33, hA32, hz⟩ := hq
  show wp _ _ 88 [(0, .ref (A30 11 0 0))] [.ref (A30 4 0 0), .ref (A30 11 0 0)] _ _ _
  have hX := hX.trans hA32 (fun _ _ _ q => Or.inl (Or.inl (Or.inl (Or.inl (Or.inl (Or.inl (Or.inl (Or.inl (Or.inl (Or.inl (Or.inl (Or.inl (q)))))))))))))
  rw [← hA32 11 0 0 (Or.inl (Or.inl (Or.inl (Or.inl (Or.inl (Or.inl (Or.inl (Or.inl (Or.inl (Or.inl (Or.inl (Or.inl hS))))))))))))]
  rw [← hA32 4 0 0 (Or.inr ⟨rfl, rfl, rfl⟩)]
  refine p_X11_47 dX11_init_88 rfl (hz.kO (Or.inl (Or.inl (Or.inl (Or.inl (Or.inl (Or.inl (Or.inl (Or.inl (Or.inl (Or.inl (Or.inl (Or.inl (Or.inl hS))))))))))))) (by decide)) rfl ?_
  refine i_fg (hz.setR (f := 711) (by decide) (Or.inl (Or.inl (Or.inl (Or.inl (Or.inl (Or.inl (Or.inl (Or.inl (Or.inl (Or.inl (Or.inl (Or.inl (Or.inl hS))))))))))))) (Or.inl (Or.inr ⟨rfl, rfl, rfl⟩)) (rt_s (f := 711) rfl rfl rfl)) (fun h hz => ?_)
  refine w_aload_n 0 dX11_init_91 rfl rfl rfl ?_
  refine w_iconst (-1) dX11_init_92 rfl rfl ?_
  refine p_X11_51 dX11_init_93 rfl (hz.kO (Or.inl (Or.inl (Or.inl (Or.inl (Or.inl (Or.inl (Or.inl (Or.inl (Or.inl (Or.inl (Or.inl (Or.inl (Or.inl hS))))))))))))) (by decide)) ?_
  refine i_fg (hz.setI (f := 712) (v := (-1)) (by decide) (Or.inl (Or.inl (Or.inl (Or.inl (Or.inl (Or.inl (Or.inl (Or.inl (Or.inl (Or.inl (Or.inl (Or.inl (Or.inl hS)))))))))))))) (fun h hz => ?_)
  refine w_aload_n 0 dX11_init_96 rfl rfl rfl ?_
  refine nw_X11_55 hrm dX11_init_97 rfl (Nat.le_of_ble_eq_true rfl) (Nat.le_of_ble_eq_true rfl) (fun q hq => ?_)
  refine i_addO hz hq (c0 := 1) (p0 := 0) (s0 := 0) (by decide) rfl ?_ (Zr.sI (Zr.sR (Zr.sR (Zr.sR (Zr.sR (Zr.sR (Zr.sR (Zr.sR (Zr.sR (Zr.kZ (hZ _ _ _ (by omega)) (by omega) (by omega)))))))))) (by omega) (by omega)) (fun A35 h hA34 hz => ?_)
  · intro q
    rcases q with q | q
    rotate_left
    · exact q.elim
    rcases q with q | q
    rotate_left
    · omega
    rcases q with q | q
    rotate_left
    · simp only [GMea] at q; omega
    rcases q with q | q
    rotate_left
    · omega
    rcases q with q | q
    rotate_left
    · simp only [GPro] at q
      rcases q with q | q | q | q | q | q | q
      · omega
      · omega
      · omega
      · omega
      · omega
      · obtain ⟨i, hi, q⟩ := lpG_ex q
        simp only [L5a, GStr, GTab, GWin] at q
        omega
      · obtain ⟨i, hi, q⟩ := lpG_ex q
        simp only [L5b] at q
        omega
    rcases q with q | q
    rotate_left
    · omega
    rcases q with q | q
    rotate_left
    · simp only [GPro] at q
      rcases q with q | q | q | q | q | q | q
      · omega
      · omega
      · omega
      · omega
      · omega
      · obtain ⟨i, hi, q⟩ := lpG_ex q
        simp only [L5a, GStr, GTab, GWin] at q
        omega
      · obtain ⟨i, hi, q⟩ := lpG_ex q
        simp only [L5b] at q
        omega
    rcases q with q | q
    rotate_left
    · omega
    rcases q with q | q
    rotate_left
    · simp only [GPro] at q
      rcases q with q | q | q | q | q | q | q
      · omega
      · omega
      · omega
      · omega
      · omega
      · obtain ⟨i, hi, q⟩ := lpG_ex q
        simp only [L5a, GStr, GTab, GWin] at q
        omega
      · obtain ⟨i, hi, q⟩ := lpG_ex q
        simp only [L5b] at q
        omega
    rcases q with q | q
    rotate_left
    · omega
    rcases q with q | q
    rotate_left
    · simp only [GTok] at q; omega
    rcases q with q | q
    rotate_left
    · omega
    rcases q with q | q
    rotate_left
    · omega
    exact hN _ _ _ (by omega) q
  have hX := hX.trans hA34 (fun _ _ _ q => Or.inl (Or.inl (Or.inl (Or.inl (Or.inl (Or.inl (Or.inl (Or.inl (Or.inl (Or.inl (Or.inl (Or.inl (Or.inl (q))))))))))))))
  rw [← hA34 11 0 0 (Or.inl (Or.inl (Or.inl (Or.inl (Or.inl (Or.inl (Or.inl (Or.inl (Or.inl (Or.inl (Or.inl (Or.inl (Or.inl hS)))))))))))))]
  refine w_dup dX11_init_100 rfl rfl ?_
  refine w_aload_n 0 dX11_init_101 rfl rfl rfl ?_
  refine g_X11_23 dX11_init_102 rfl (hz.kO (Or.inl (Or.inl (Or.inl (Or.inl (Or.inl (Or.inl (Or.inl (Or.inl (Or.inl (Or.inl (Or.inl (Or.inl (Or.inl (Or.inl hS)))))))))))))) (by decide)) (hz.rD (f := 707) (Or.inl (Or.inl (Or.inl (Or.inl (Or.inl (Or.inl (Or.inl (Or.inl (Or.inr ⟨rfl, rfl, rfl⟩))))))))) rfl rfl) ?_
  refine c_X11_57 (b := A35 1 0 0) (As := [.ref (A35 5 0 0)]) (rest := [.ref (A35 1 0 0), .ref (A35 11 0 0)]) (fun l => s_X1_init (z := (sI (sR (sR (sR (sR (sR (sR (sR (sR (kZ 1603 z kwG) 707 0 0 0 (0, 0)) 708 0 0 0 (1, 0)) 709 0 0 0 (2, 0)) 194 0 0 0 (2, 0)) 195 0 0 0 (2, 0)) 198 0 0 0 (2, 0)) 199 0 0 0 (2, 0)) 196 0 0 0 (2, 0)) 712 0 0 0 (-1))) (Or.inr ⟨rfl, rfl, rfl⟩) (Or.inl (Or.inl (Or.inl (Or.inl (Or.inl (Or.inl (Or.inl (Or.inl (Or.inl (Or.inl (Or.inr ⟨rfl, rfl, rfl⟩))))))))))) (fun j => hR j) (fun c p9 s9 hc q => by
        rcases q with q | q
        rotate_left
        · omega
        rcases q with q | q
        rotate_left
        · exact q.elim
        rcases q with q | q
        rotate_left
        · omega
        rcases q with q | q
        rotate_left
        · simp only [GMea] at q; omega
        rcases q with q | q
        rotate_left
        · omega
        rcases q with q | q
        rotate_left
        · simp only [GPro] at q
          rcases q with q | q | q | q | q | q | q
          · omega
          · omega
          · omega
          · omega
          · omega
          · obtain ⟨i, hi, q⟩ := lpG_ex q
            simp only [L5a, GStr, GTab, GWin] at q
            omega
          · obtain ⟨i, hi, q⟩ := lpG_ex q
            simp only [L5b] at q
            omega
        rcases q with q | q
        rotate_left
        · omega
        rcases q with q | q
        rotate_left
        · simp only [GPro] at q
          rcases q with q | q | q | q | q | q | q
          · omega
          · omega
          · omega
          · omega
          · omega
          · obtain ⟨i, hi, q⟩ := lpG_ex q
            simp only [L5a, GStr, GTab, GWin] at q
            omega
          · obtain ⟨i, hi, q⟩ := lpG_ex q
            simp only [L5b] at q
            omega
        rcases q with q | q
        rotate_left
        · omega
        rcases q with q | q
        rotate_left
        · simp only [GPro] at q
          rcases q with q | q | q | q | q | q | q
          · omega
          · omega
          · omega
          · omega
          · omega
          · obtain ⟨i, hi, q⟩ := lpG_ex q
            simp only [L5a, GStr, GTab, GWin] at q
            omega
          · obtain ⟨i, hi, q⟩ := lpG_ex q
            simp only [L5b] at q
            omega
        rcases q with q | q
        rotate_left
        · omega
        rcases q with q | q
        rotate_left
        · simp only [GTok] at q; omega
        rcases q with q | q
        rotate_left
        · omega
        rcases q with q | q
        rotate_left
        · omega
        exact hN _ _ _ (by omega) q) (fun c p9 s9 hc => Zr.sI (Zr.sR (Zr.sR (Zr.sR (Zr.sR (Zr.sR (Zr.sR (Zr.sR (Zr.sR (Zr.kZ (hZ _ _ _ (by omega)) (by omega) (by omega)))))))))) (by omega) (by omega)) hz l) hrm dX11_init_105 rfl rfl (Nat.le_of_ble_eq_true rfl) (Nat.le_of_ble_eq_true rfl) (Nat.le_of_ble_eq_true rfl) rfl (Nat.le_of_ble_eq_true rfl) (fun vr h2 hq => ?_) (fun E9 h9 hq => hq.elim)
  obtain ⟨rfl, A38, hA37, hz⟩ := hq
  show wp _ _ 108 [(0, .ref (A35 11 0 0))] [.ref (A35 1 0 0), .ref (A35 11 0 0)] _ _ _
  have hX := hX.trans hA37 (fun _ _ _ q => Or.inl (Or.inl (Or.inl (Or.inl (Or.inl (Or.inl (Or.inl (Or.inl (Or.inl (Or.inl (Or.inl (Or.inl (Or.inl (Or.inl (q)))))))))))))))
  rw [← hA37 11 0 0 (Or.inl (Or.inl (Or.inl (Or.inl (Or.inl (Or.inl (Or.inl (Or.inl (Or.inl (Or.inl (Or.inl (Or.inl (Or.inl (Or.inl hS))))))))))))))]
  rw [← hA37 1 0 0 (Or.inr ⟨rfl, rfl, rfl⟩)]
  refine p_X11_58 dX11_init_108 rfl (hz.kO (Or.inl (Or.inl (Or.inl (Or.inl (Or.inl (Or.inl (Or.inl (Or.inl (Or.inl (Or.inl (Or.inl (Or.inl (Or.inl (Or.inl (Or.inl hS))))))))))))))) (by decide)) rfl ?_
  refine i_fg (hz.setR (f := 713) (by decide) (Or.inl (Or.inl (Or.inl (Or.inl (Or.inl (Or.inl (Or.inl (Or.inl (Or.inl (Or.inl (Or.inl (Or.inl (Or.inl (Or.inl (Or.inl hS))))))))))))))) (Or.inl (Or.inr ⟨rfl, rfl, rfl⟩)) (rt_s (f := 713) rfl rfl rfl)) (fun h hz => ?_)
  refine w_aload_n 0 dX11_init_111 rfl rfl rfl ?_
  refine nw_X11_62 hrm dX11_init_112 rfl (Nat.le_of_ble_eq_true rfl) (Nat.le_of_ble_eq_true rfl) (fun q hq => ?_)
  refine i_addO hz hq (c0 := 6) (p0 := 3) (s0 := 0) (by decide) rfl ?_ (Zr.sR (Zr.sI (Zr.sR (Zr.sR (Zr.sR (Zr.sR (Zr.sR (Zr.sR (Zr.sR (Zr.sR (Zr.kZ (hZ _ _ _ (by omega)) (by omega) (by omega)))))))))) (by omega) (by omega))) (fun A40 h hA39 hz => ?_)
  · intro q
    rcases q with q | q
    rotate_left
    · simp only [GEng, GRow] at q
      rcases q with q | q | q | q | q | q | q | q
      · omega
      · omega
      · omega
      · omega
      · omega
      · omega
      · omega
      · obtain ⟨i, hi, q⟩ := lpG_ex q
        simp only [L1h, GRow] at q
        omega
    rcases q with q | q
    rotate_left
    · omega
    rcases q with q | q
    rotate_left
    · exact q.elim
    rcases q with q | q
    rotate_left
    · omega
    rcases q with q | q
    rotate_left
    · simp only [GMea] at q; omega
    rcases q with q | q
    rotate_left
    · omega
    rcases q with q | q
    rotate_left
    · simp only [GPro] at q
      rcases q with q | q | q | q | q | q | q
      · omega
      · omega
      · omega
      · omega
      · omega
      · obtain ⟨i, hi, q⟩ := lpG_ex q
        simp only [L5a, GStr, GTab, GWin] at q
        omega
      · obtain ⟨i, hi, q⟩ := lpG_ex q
        simp only [L5b] at q
        omega
    rcases q with q | q
    rotate_left
    · omega
    rcases q with q | q
    rotate_left
    · simp only [GPro] at q
      rcases q with q | q | q | q | q | q | q
      · omega
      · omega
      · omega
      · omega
      · omega
      · obtain ⟨i, hi, q⟩ := lpG_ex q
        simp only [L5a, GStr, GTab, GWin] at q
        omega
      · obtain ⟨i, hi, q⟩ := lpG_ex q
        simp only [L5b] at q
        omega
    rcases q with q | q
    rotate_left
    · omega
    rcases q with q | q
    rotate_left
    · simp only [GPro] at q
      rcases q with q | q | q | q | q | q | q
      · omega
      · omega
      · omega
      · omega
      · omega
      · obtain ⟨i, hi, q⟩ := lpG_ex q
        simp only [L5a, GStr, GTab, GWin] at q
        omega
      · obtain ⟨i, hi, q⟩ := lpG_ex q
        simp only [L5b] at q
        omega
    rcases q with q | q
    rotate_left
    · omega
    rcases q with q | q
    rotate_left
    · simp only [GTok] at q; omega
    rcases q with q | q
    rotate_left
    · omega
    rcases q with q | q
    rotate_left
    · omega
    exact hN _ _ _ (by omega) q
  have hX := hX.trans hA39 (fun _ _ _ q => Or.inl (Or.inl (Or.inl (Or.inl (Or.inl (Or.inl (Or.inl (Or.inl (Or.inl (Or.inl (Or.inl (Or.inl (Or.inl (Or.inl (Or.inl (q))))))))))))))))
  rw [← hA39 11 0 0 (Or.inl (Or.inl (Or.inl (Or.inl (Or.inl (Or.inl (Or.inl (Or.inl (Or.inl (Or.inl (Or.inl (Or.inl (Or.inl (Or.inl (Or.inl hS)))))))))))))))]
  refine w_dup dX11_init_115 rfl rfl ?_
  refine c_X11_64 (b := A40 6 3 0) (As := []) (rest := [.ref (A40 6 3 0), .ref (A40 11 0 0)]) (fun l => s_X6_init (Or.inr ⟨rfl, rfl, rfl⟩) rfl (fun c p9 s9 hc q => by
        rcases q with q | q
        rotate_left
        · omega
        rcases q with q | q
        rotate_left
        · simp only [GEng, GRow] at q
          rcases q with q | q | q | q | q | q | q | q
          · omega
          · omega
          · omega
          · omega
          · omega
          · omega
          · omega
          · obtain ⟨i, hi, q⟩ := lpG_ex q
            simp only [L1h, GRow] at q
            omega
        rcases q with q | q
        rotate_left
        · omega
        rcases q with q | q
        rotate_left
        · exact q.elim
        rcases q with q | q
        rotate_left
        · omega
        rcases q with q | q
        rotate_left
        · simp only [GMea] at q; omega
        rcases q with q | q
        rotate_left
        · omega
        rcases q with q | q
        rotate_left
        · simp only [GPro] at q
          rcases q with q | q | q | q | q | q | q
          · omega
          · omega
          · omega
          · omega
          · omega
          · obtain ⟨i, hi, q⟩ := lpG_ex q
            simp only [L5a, GStr, GTab, GWin] at q
            omega
          · obtain ⟨i, hi, q⟩ := lpG_ex q
            simp only [L5b] at q
            omega
        rcases q with q | q
        rotate_left
        · omega
        rcases q with q | q
        rotate_left
        · simp only [GPro] at q
          rcases q with q | q | q | q | q | q | q
          · omega
          · omega
          · omega
          · omega
          · omega
          · obtain ⟨i, hi, q⟩ := lpG_ex q
            simp only [L5a, GStr, GTab, GWin] at q
            omega
          · obtain ⟨i, hi, q⟩ := lpG_ex q
            simp only [L5b] at q
            omega
        rcases q with q | q
        rotate_left
        · omega
        rcases q with q | q
        rotate_left
        · simp only [GPro] at q
          rcases q with q | q | q | q | q | q | q
          · omega
          · omega
          · omega
          · omega
          · omega
          · obtain ⟨i, hi, q⟩ := lpG_ex q
            simp only [L5a, GStr, GTab, GWin] at q
            omega
          · obtain ⟨i, hi, q⟩ := lpG_ex q
            simp only [L5b] at q
            omega
        rcases q with q | q
        rotate_left
        · omega
        rcases q with q | q
        rotate_left
        · simp only [GTok] at q; omega
        rcases q with q | q
        rotate_left
        · omega
        rcases q with q | q
        rotate_left
        · omega
        exact hN _ _ _ (by omega) q) (fun c p9 s9 hc => Zr.sR (Zr.sI (Zr.sR (Zr.sR (Zr.sR (Zr.sR (Zr.sR (Zr.sR (Zr.sR (Zr.sR (Zr.kZ (hZ _ _ _ (by omega)) (by omega) (by omega)))))))))) (by omega) (by omega))) hz l) hrm dX11_init_116 rfl rfl (Nat.le_of_ble_eq_true rfl) (Nat.le_of_ble_eq_true rfl) (Nat.le_of_ble_eq_true rfl) rfl (Nat.le_of_ble_eq_true rfl) (fun vr h2 hq => ?_) (fun E9 h9 hq => hq.elim)
  obtain ⟨rfl, A43, hA42, hz⟩ := hq
  show wp _ _ 119 [(0, .ref (A40 11 0 0))] [.ref (A40 6 3 0), .ref (A40 11 0 0)] _ _ _
  have hX := hX.trans hA42 (fun _ _ _ q => Or.inl (Or.inl (Or.inl (Or.inl (Or.inl (Or.inl (Or.inl (Or.inl (Or.inl (Or.inl (Or.inl (Or.inl (Or.inl (Or.inl (Or.inl (Or.inl (q)))))))))))))))))
  rw [← hA42 11 0 0 (Or.inl (Or.inl (Or.inl (Or.inl (Or.inl (Or.inl (Or.inl (Or.inl (Or.inl (Or.inl (Or.inl (Or.inl (Or.inl (Or.inl (Or.inl (Or.inl hS))))))))))))))))]
  rw [← hA42 6 3 0 (Or.inr ⟨rfl, rfl, rfl⟩)]
  refine p_X11_65 dX11_init_119 rfl (hz.kO (Or.inl (Or.inl (Or.inl (Or.inl (Or.inl (Or.inl (Or.inl (Or.inl (Or.inl (Or.inl (Or.inl (Or.inl (Or.inl (Or.inl (Or.inl (Or.inl (Or.inl hS))))))))))))))))) (by decide)) rfl ?_
  refine i_fg (hz.setR (f := 714) (by decide) (Or.inl (Or.inl (Or.inl (Or.inl (Or.inl (Or.inl (Or.inl (Or.inl (Or.inl (Or.inl (Or.inl (Or.inl (Or.inl (Or.inl (Or.inl (Or.inl (Or.inl hS))))))))))))))))) (Or.inl (Or.inr ⟨rfl, rfl, rfl⟩)) (rt_s (f := 714) rfl rfl rfl)) (fun h hz => ?_)
  refine w_aload_n 0 dX11_init_122 rfl rfl rfl ?_
  refine w_sipush 200 dX11_init_123 rfl rfl ?_
  refine w_newQ (n := 200) (c := 25) 5 hrm dX11_init_126 rfl cl_X11_69 ao_X2 (by decide) (by decide) (fun _ => rfl) (by decide) rfl (by decide) (Nat.le_of_ble_eq_true rfl) (Nat.le_of_ble_eq_true rfl) (fun q hq => ?_)
  refine i_addA hz hq (f0 := 715) (p0 := 0) (s0 := 0) rfl (by decide) rfl ?_ (Zr.sR (Zr.sI (Zr.sR (Zr.sR (Zr.sR (Zr.sR (Zr.sR (Zr.sR (Zr.sR (Zr.sR (Zr.kZ (hZ _ _ _ (by omega)) (by omega) (by omega)))))))))) (by omega) (by omega))) (fun A45 h hA44 hz => ?_)
  · intro q
    rcases q with q | q
    rotate_left
    · simp only [GRow] at q; omega
    rcases q with q | q
    rotate_left
    · omega
    rcases q with q | q
    rotate_left
    · simp only [GEng, GRow] at q
      rcases q with q | q | q | q | q | q | q | q
      · omega
      · omega
      · omega
      · omega
      · omega
      · omega
      · omega
      · obtain ⟨i, hi, q⟩ := lpG_ex q
        simp only [L1h, GRow] at q
        omega
    rcases q with q | q
    rotate_left
    · omega
    rcases q with q | q
    rotate_left
    · exact q.elim
    rcases q with q | q
    rotate_left
    · omega
    rcases q with q | q
    rotate_left
    · simp only [GMea] at q; omega
    rcases q with q | q
    rotate_left
    · omega
    rcases q with q | q
    rotate_left
    · simp only [GPro] at q
      rcases q with q | q | q | q | q | q | q
      · omega
      · omega
      · omega
      · omega
      · omega
      · obtain ⟨i, hi, q⟩ := lpG_ex q
        simp only [L5a, GStr, GTab, GWin] at q
        omega
      · obtain ⟨i, hi, q⟩ := lpG_ex q
        simp only [L5b] at q
        omega
    rcases q with q | q
    rotate_left
    · omega
    rcases q with q | q
    rotate_left
    · simp only [GPro] at q
      rcases q with q | q | q | q | q | q | q
      · omega
      · omega
      · omega
      · omega
      · omega
      · obtain ⟨i, hi, q⟩ := lpG_ex q
        simp only [L5a, GStr, GTab, GWin] at q
        omega
      · obtain ⟨i, hi, q⟩ := lpG_ex q
        simp only [L5b] at q
        omega
    rcases q with q | q
    rotate_left
    · omega
    rcases q with q | q
    rotate_left
    · simp only [GPro] at q
      rcases q with q | q | q | q | q | q | q
      · omega
      · omega
      · omega
      · omega
      · omega
      · obtain ⟨i, hi, q⟩ := lpG_ex q
        simp only [L5a, GStr, GTab, GWin] at q
        omega
      · obtain ⟨i, hi, q⟩ := lpG_ex q
        simp only [L5b] at q
        omega
    rcases q with q | q
    rotate_left
    · omega
    rcases q with q | q
    rotate_left
    · simp only [GTok] at q; omega
    rcases q with q | q
    rotate_left
    · omega
    rcases q with q | q
    rotate_left
    · omega
    exact hN _ _ _ (by omega) q
  have hX := hX.trans hA44 (fun _ _ _ q => Or.inl (Or.inl (Or.inl (Or.inl (Or.inl (Or.inl (Or.inl (Or.inl (Or.inl (Or.inl (Or.inl (Or.inl (Or.inl (Or.inl (Or.inl (Or.inl (Or.inl (q))))))))))))))))))
  rw [← hA44 11 0 0 (Or.inl (Or.inl (Or.inl (Or.inl (Or.inl (Or.inl (Or.inl (Or.inl (Or.inl (Or.inl (Or.inl (Or.inl (Or.inl (Or.inl (Or.inl (Or.inl (Or.inl hS)))))))))))))))))]
  refine p_X11_71 dX11_init_129 rfl (hz.kO (Or.inl (Or.inl (Or.inl (Or.inl (Or.inl (Or.inl (Or.inl (Or.inl (Or.inl (Or.inl (Or.inl (Or.inl (Or.inl (Or.inl (Or.inl (Or.inl (Or.inl (Or.inl hS)))))))))))))))))) (by decide)) rfl ?_
  refine i_fg (hz.setR (f := 715) (by decide) (Or.inl (Or.inl (Or.inl (Or.inl (Or.inl (Or.inl (Or.inl (Or.inl (Or.inl (Or.inl (Or.inl (Or.inl (Or.inl (Or.inl (Or.inl (Or.inl (Or.inl (Or.inl hS)))))))))))))))))) (Or.inr ⟨rfl, rfl, rfl⟩) (rt_a (f := 715) rfl rfl rfl)) (fun h hz => ?_)
  refine w_aload_n 0 dX11_init_132 rfl rfl rfl ?_
  refine w_bipush 8 dX11_init_133 rfl rfl ?_
  refine w_newI (n := 8) hrm dX11_init_135 rfl a_int (by decide) rfl (by decide) (Nat.le_of_ble_eq_true rfl) (Nat.le_of_ble_eq_true rfl) (fun q hq => ?_)
  refine i_addA hz hq (f0 := 717) (p0 := 0) (s0 := 0) rfl (by decide) rfl ?_ (Zr.sR (Zr.sI (Zr.sR (Zr.sR (Zr.sR (Zr.sR (Zr.sR (Zr.sR (Zr.sR (Zr.sR (Zr.kZ (hZ _ _ _ (by omega)) (by omega) (by omega)))))))))) (by omega) (by omega))) (fun A48 h hA47 hz => ?_)
  · intro q
    rcases q with q | q
    rotate_left
    · omega
    rcases q with q | q
    rotate_left
    · simp only [GRow] at q; omega
    rcases q with q | q
    rotate_left
    · omega
    rcases q with q | q
    rotate_left
    · simp only [GEng, GRow] at q
      rcases q with q | q | q | q | q | q | q | q
      · omega
      · omega
      · omega
      · omega
      · omega
      · omega
      · omega
      · obtain ⟨i, hi, q⟩ := lpG_ex q
        simp only [L1h, GRow] at q
        omega
    rcases q with q | q
    rotate_left
    · omega
    rcases q with q | q
    rotate_left
    · exact q.elim
    rcases q with q | q
    rotate_left
    · omega
    rcases q with q | q
    rotate_left
    · simp only [GMea] at q; omega
    rcases q with q | q
    rotate_left
    · omega
    rcases q with q | q
    rotate_left
    · simp only [GPro] at q
      rcases q with q | q | q | q | q | q | q
      · omega
      · omega
      · omega
      · omega
      · omega
      · obtain ⟨i, hi, q⟩ := lpG_ex q
        simp only [L5a, GStr, GTab, GWin] at q
        omega
      · obtain ⟨i, hi, q⟩ := lpG_ex q
        simp only [L5b] at q
        omega
    rcases q with q | q
    rotate_left
    · omega
    rcases q with q | q
    rotate_left
    · simp only [GPro] at q
      rcases q with q | q | q | q | q | q | q
      · omega
      · omega
      · omega
      · omega
      · omega
      · obtain ⟨i, hi, q⟩ := lpG_ex q
        simp only [L5a, GStr, GTab, GWin] at q
        omega
      · obtain ⟨i, hi, q⟩ := lpG_ex q
        simp only [L5b] at q
        omega
    rcases q with q | q
    rotate_left
    · omega
    rcases q with q | q
    rotate_left
    · simp only [GPro] at q
      rcases q with q | q | q | q | q | q | q
      · omega
      · omega
      · omega
      · omega
      · omega
      · obtain ⟨i, hi, q⟩ := lpG_ex q
        simp only [L5a, GStr, GTab, GWin] at q
        omega
      · obtain ⟨i, hi, q⟩ := lpG_ex q
        simp only [L5b] at q
        omega
    rcases q with q | q
    rotate_left
    · omega
    rcases q with q | q
    rotate_left
    · simp only [GTok] at q; omega
    rcases q with q | q
    rotate_left
    · omega
    rcases q with q | q
    rotate_left
    · omega
    exact hN _ _ _ (by omega) q
  have hX := hX.trans hA47 (fun _ _ _ q => Or.inl (Or.inl (Or.inl (Or.inl (Or.inl (Or.inl (Or.inl (Or.inl (Or.inl (Or.inl (Or.inl (Or.inl (Or.inl (Or.inl (Or.inl (Or.inl (Or.inl (Or.inl (q)))))))))))))))))))
  rw [← hA47 11 0 0 (Or.inl (Or.inl (Or.inl (Or.inl (Or.inl (Or.inl (Or.inl (Or.inl (Or.inl (Or.inl (Or.inl (Or.inl (Or.inl (Or.inl (Or.inl (Or.inl (Or.inl (Or.inl hS))))))))))))))))))]
  refine p_X11_75 dX11_init_137 rfl (hz.kO (Or.inl (Or.inl (Or.inl (Or.inl (Or.inl (Or.inl (Or.inl (Or.inl (Or.inl (Or.inl (Or.inl (Or.inl (Or.inl (Or.inl (Or.inl (Or.inl (Or.inl (Or.inl (Or.inl hS))))))))))))))))))) (by decide)) rfl ?_
  refine i_fg (hz.setR (f := 717) (by decide) (Or.inl (Or.inl (Or.inl (Or.inl (Or.inl (Or.inl (Or.inl (Or.inl (Or.inl (Or.inl (Or.inl (Or.inl (Or.inl (Or.inl (Or.inl (Or.inl (Or.inl (Or.inl (Or.inl hS))))))))))))))))))) (Or.inr ⟨rfl, rfl, rfl⟩) (rt_a (f := 717) rfl rfl rfl)) (fun h hz => ?_)
  refine w_iconst 0 dX11_init_140 rfl rfl ?_
  refine w_istore_n [(1, .int 0), (0, .ref (A48 11 0 0))] dX11_init_141 rfl rfl (by decide) rfl ?_
  refine w_lv [(1, .int 0), (0, .ref (A48 11 0 0))] [0, 1] rfl ?_
  refine l_X11_init_e hrm (Ma := 1395) (Mb := 97788) (S0 := S) (S := (Sa (Sa (Su (Sa (Su (Sa (Su (Sa (Su (Sa (Su (Sa (Su (Sa (Su (Sa (Su (Sa (Sa S 1728 0 0) 9 0 0) (GTok)) 5 0 0) (GPro 0)) 5 1 0) (GPro 1)) 5 2 0) (GPro 2)) 3 0 0) (GMea)) 4 0 0) (GPar)) 1 0 0) (GEng)) 6 3 0) (GRow 3 0)) 1739 0 0) 1741 0 0)) (F := (Sa (Sa (Sa (Su (Sa (Su (Sa (Su (Sa (Su (Sa (Su (Sa (Su (Sa (Su (Sa (Su (Sa F 704 0 0) (FGTok)) 706 0 0) (FGPro 0)) 707 0 0) (FGPro 1)) 708 0 0) (FGPro 2)) 709 0 0) (FGMea)) 710 0 0) (FGPar)) 711 0 0) (FGEng)) 713 0 0) (FGRow 3 0)) 714 0 0) 715 0 0) 717 0 0)) (E := (Su (Su (Su (Su E (EGPro 0)) (EGPro 1)) (EGPro 2)) (EGEng))) (z := (sR (sI (sR (sR (sR (sR (sR (sR (sR (sR (kZ 1603 z kwG) 707 0 0 0 (0, 0)) 708 0 0 0 (1, 0)) 709 0 0 0 (2, 0)) 194 0 0 0 (2, 0)) 195 0 0 0 (2, 0)) 198 0 0 0 (2, 0)) 199 0 0 0 (2, 0)) 196 0 0 0 (2, 0)) 712 0 0 0 (-1)) 64 0 0 0 (0, 0))) (Nat.le_of_ble_eq_true rfl) (Nat.le_of_ble_eq_true rfl) (Nat.le_of_ble_eq_true rfl) hv (fun _ _ _ q => Or.inl (Or.inl (Or.inl (Or.inl (Or.inl (Or.inl (Or.inl (Or.inl (Or.inl (Or.inl (Or.inl (Or.inl (Or.inl (Or.inl (Or.inl (Or.inl (Or.inl (Or.inl (Or.inl (q)))))))))))))))))))) (Or.inl (Or.inl (Or.inl (Or.inl (Or.inl (Or.inl (Or.inl (Or.inl (Or.inl (Or.inl (Or.inl (Or.inl (Or.inl (Or.inl (Or.inl (Or.inl (Or.inl (Or.inl (Or.inl hS))))))))))))))))))) (Or.inl (Or.inr ⟨rfl, rfl, rfl⟩)) (Or.inl (Or.inr ⟨rfl, rfl, rfl⟩)) (fun c p9 s9 hc q => by
        rcases q with q | q
        rotate_left
        · omega
        rcases q with q | q
        rotate_left
        · omega
        rcases q with q | q
        rotate_left
        · simp only [GRow] at q; omega
        rcases q with q | q
        rotate_left
        · omega
        rcases q with q | q
        rotate_left
        · simp only [GEng, GRow] at q
          rcases q with q | q | q | q | q | q | q | q
          · omega
          · omega
          · omega
          · omega
          · omega
          · omega
          · omega
          · obtain ⟨i, hi, q⟩ := lpG_ex q
            simp only [L1h, GRow] at q
            omega
        rcases q with q | q
        rotate_left
        · omega
        rcases q with q | q
        rotate_left
        · exact q.elim
        rcases q with q | q
        rotate_left
        · omega
        rcases q with q | q
        rotate_left
        · simp only [GMea] at q; omega
        rcases q with q | q
        rotate_left
        · omega
        rcases q with q | q
        rotate_left
        · simp only [GPro] at q
          rcases q with q | q | q | q | q | q | q
          · omega
          · omega
          · omega
          · omega
          · omega
          · obtain ⟨i, hi, q⟩ := lpG_ex q
            simp only [L5a, GStr, GTab, GWin] at q
            omega
          · obtain ⟨i, hi, q⟩ := lpG_ex q
            simp only [L5b] at q
            omega
        rcases q with q | q
        rotate_left
        · omega
        rcases q with q | q
        rotate_left
        · simp only [GPro] at q
          rcases q with q | q | q | q | q | q | q
          · omega
          · omega
          · omega
          · omega
          · omega
          · obtain ⟨i, hi, q⟩ := lpG_ex q
            simp only [L5a, GStr, GTab, GWin] at q
            omega
          · obtain ⟨i, hi, q⟩ := lpG_ex q
            simp only [L5b] at q
            omega
        rcases q with q | q
        rotate_left
        · omega
        rcases q with q | q
        rotate_left
        · simp only [GPro] at q
          rcases q with q | q | q | q | q | q | q
          · omega
          · omega
          · omega
          · omega
          · omega
          · obtain ⟨i, hi, q⟩ := lpG_ex q
            simp only [L5a, GStr, GTab, GWin] at q
            omega
          · obtain ⟨i, hi, q⟩ := lpG_ex q
            simp only [L5b] at q
            omega
        rcases q with q | q
        rotate_left
        · omega
        rcases q with q | q
        rotate_left
        · simp only [GTok] at q; omega
        rcases q with q | q
        rotate_left
        · omega
        rcases q with q | q
        rotate_left
        · omega
        exact hN _ _ _ (by omega) q) (fun c p9 s9 hc => Zr.sR (Zr.sI (Zr.sR (Zr.sR (Zr.sR (Zr.sR (Zr.sR (Zr.sR (Zr.sR (Zr.sR (Zr.kZ (hZ _ _ _ (by omega)) (by omega) (by omega)))))))))) (by omega) (by omega))) (fun Ae h hX hz => ?_) 200 0 _ _ _ _ rfl hX hz.s0 (Nat.le_of_ble_eq_true rfl) (Nat.le_of_ble_eq_true rfl)
  refine w_vret hf dX11_init_170 rfl (Nat.le_of_ble_eq_true rfl) (Nat.le_of_ble_eq_true rfl) ?_
  refine ⟨rfl, _, hX, hz.congr (fun c p9 s9 => ?_) (fun c p9 s9 q => ?_) (fun c p9 s9 q => ?_)⟩
  · simp only [Sa, Su, GDes, or_assoc]
  · simpa only [Sa, Su, FGDes, or_assoc] using q
  · simpa only [Sa, Su, EGDes, or_assoc] using q

