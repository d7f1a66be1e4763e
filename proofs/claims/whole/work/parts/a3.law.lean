/-! THE LAW'S WALK: the calls, 3 -/
section LC
variable {x : Cxt} {b L i kc ks T : Nat} {xs : Nat → Int32} {A : Nat → Nat → Nat → Nat} {h : Hp} {σ ρ : Zs}
theorem law_errorAt (hsc : scrOk x b L xs) (hrm : m_rm 2048 177588 8563342 x) (hL : L ≤ 3072) (hi : i + 6 ≤ L) (hz : Rp A h σ ρ) (hR : Rel T σ ρ) (h1 : kc + 3 * T + 210 ≤ 177588) (h2 : ks + 22 * T + 8000 ≤ 8563342) (nx : NX x b i T kc ks) : wp x mLaw 341 (LI b A i) [] h kc ks := by
  obtain ⟨P, Q, S, g, Lg, d, X, hRl⟩ := id hR
  obtain ⟨v, σ1, ρ1, e1, e2, hR1⟩ := f_errorAt hRl
  refine w_aload_n 3 dL_law_341 rfl rfl rfl ?_
  refine c_L_104 (b := A 11 0 0) (As := []) (rest := []) (fun l => s_X11_errorAt hz e1 l) hrm dL_law_342 rfl rfl (by decide) (by omega) (by omega) (hz.o11 rfl) rfl (by decide) (fun vr h9 hq => ?_) (fun _ _ hq => hq.elim)
  obtain ⟨rfl, hz1⟩ := hq
  refine w_aload_n 2 dL_law_345 rfl rfl rfl ?_
  refine c_L_107 (b := A 14 0 0) (As := []) (rest := [.int v]) (fun l => s_X14_errorAt hz1 e2 l) hrm dL_law_346 rfl rfl (by decide) (by omega) (by omega) (hz1.o14 rfl) rfl (Nat.le_of_ble_eq_true rfl) (fun vr h9 hq => ?_) (fun _ _ hq => hq.elim)
  obtain ⟨rfl, hz2⟩ := hq
  refine w_icmp_eq 1563 dL_law_349 rfl (by decide) (fun _ => ?_) (fun q => absurd rfl q)
  exact nx A h9 σ1 ρ1 T _ _ hz2 hR1 (by omega) (by omega)
theorem law_find (hsc : scrOk x b L xs) (hrm : m_rm 2048 177588 8563342 x) (hL : L ≤ 3072) (hi : i + 6 ≤ L) (hz : Rp A h σ ρ) (hR : Rel T σ ρ) (h1 : kc + 3 * T + 210 ≤ 177588) (h2 : ks + 22 * T + 8000 ≤ 8563342) (nx : NX x b i T kc ks) : wp x mLaw 354 (LI b A i) [] h kc ks := by
  obtain ⟨P, Q, S, g, Lg, d, X, hRl⟩ := id hR
  obtain ⟨v, σ1, ρ1, e1, e2, hR1⟩ := f_find hRl
  refine w_aload_n 3 dL_law_354 rfl rfl rfl ?_
  refine c_L_108 (b := A 11 0 0) (As := []) (rest := []) (fun l => s_X11_find hz e1 l) hrm dL_law_355 rfl rfl (by decide) (by omega) (by omega) (hz.o11 rfl) rfl (by decide) (fun vr h9 hq => ?_) (fun _ _ hq => hq.elim)
  obtain ⟨rfl, hz1⟩ := hq
  refine w_aload_n 2 dL_law_358 rfl rfl rfl ?_
  refine c_L_111 (b := A 14 0 0) (As := []) (rest := [.int v]) (fun l => s_X14_find hz1 e2 l) hrm dL_law_359 rfl rfl (by decide) (by omega) (by omega) (hz1.o14 rfl) rfl (Nat.le_of_ble_eq_true rfl) (fun vr h9 hq => ?_) (fun _ _ hq => hq.elim)
  obtain ⟨rfl, hz2⟩ := hq
  refine w_icmp_eq 1563 dL_law_362 rfl (by decide) (fun _ => ?_) (fun q => absurd rfl q)
  exact nx A h9 σ1 ρ1 T _ _ hz2 hR1 (by omega) (by omega)
theorem law_forget (hsc : scrOk x b L xs) (hrm : m_rm 2048 177588 8563342 x) (hL : L ≤ 3072) (hi : i + 6 ≤ L) (hz : Rp A h σ ρ) (hR : Rel T σ ρ) (h1 : kc + 3 * T + 210 ≤ 177588) (h2 : ks + 22 * T + 8000 ≤ 8563342) (nx : NX x b i T kc ks) : wp x mLaw 579 (LI b A i) [] h kc ks := by
  obtain ⟨P, Q, S, g, Lg, d, X, hRl⟩ := id hR
  obtain ⟨v, σ1, ρ1, e1, e2, hR1⟩ := f_forget hRl
  refine w_aload_n 3 dL_law_579 rfl rfl rfl ?_
  refine c_L_125 (b := A 11 0 0) (As := []) (rest := []) (fun l => s_X11_forget hz e1 l) hrm dL_law_580 rfl rfl (by decide) (by omega) (by omega) (hz.o11 rfl) rfl (by decide) (fun vr h9 hq => ?_) (fun _ _ hq => hq.elim)
  obtain ⟨rfl, hz1⟩ := hq
  refine w_aload_n 2 dL_law_583 rfl rfl rfl ?_
  refine c_L_128 (b := A 14 0 0) (As := []) (rest := [.int v]) (fun l => s_X14_forget hz1 e2 l) hrm dL_law_584 rfl rfl (by decide) (by omega) (by omega) (hz1.o14 rfl) rfl (Nat.le_of_ble_eq_true rfl) (fun vr h9 hq => ?_) (fun _ _ hq => hq.elim)
  obtain ⟨rfl, hz2⟩ := hq
  refine w_icmp_eq 1563 dL_law_587 rfl (by decide) (fun _ => ?_) (fun q => absurd rfl q)
  exact nx A h9 σ1 ρ1 T _ _ hz2 hR1 (by omega) (by omega)
theorem law_lost (hsc : scrOk x b L xs) (hrm : m_rm 2048 177588 8563342 x) (hL : L ≤ 3072) (hi : i + 6 ≤ L) (hz : Rp A h σ ρ) (hR : Rel T σ ρ) (h1 : kc + 3 * T + 210 ≤ 177588) (h2 : ks + 22 * T + 8000 ≤ 8563342) (nx : NX x b i T kc ks) : wp x mLaw 1238 (LI b A i) [] h kc ks := by
  obtain ⟨P, Q, S, g, Lg, d, X, hRl⟩ := id hR
  obtain ⟨v, σ1, ρ1, e1, e2, hR1⟩ := f_lost hRl
  refine w_aload_n 3 dL_law_1238 rfl rfl rfl ?_
  refine c_L_161 (b := A 11 0 0) (As := []) (rest := []) (fun l => s_X11_lost hz e1 l) hrm dL_law_1239 rfl rfl (by decide) (by omega) (by omega) (hz.o11 rfl) rfl (by decide) (fun vr h9 hq => ?_) (fun _ _ hq => hq.elim)
  obtain ⟨rfl, hz1⟩ := hq
  refine w_aload_n 2 dL_law_1242 rfl rfl rfl ?_
  refine c_L_164 (b := A 14 0 0) (As := []) (rest := [.int v]) (fun l => s_X14_lost hz1 e2 l) hrm dL_law_1243 rfl rfl (by decide) (by omega) (by omega) (hz1.o14 rfl) rfl (Nat.le_of_ble_eq_true rfl) (fun vr h9 hq => ?_) (fun _ _ hq => hq.elim)
  obtain ⟨rfl, hz2⟩ := hq
  refine w_icmp_eq 1563 dL_law_1246 rfl (by decide) (fun _ => ?_) (fun q => absurd rfl q)
  exact nx A h9 σ1 ρ1 T _ _ hz2 hR1 (by omega) (by omega)
theorem law_isStopped (hsc : scrOk x b L xs) (hrm : m_rm 2048 177588 8563342 x) (hL : L ≤ 3072) (hi : i + 6 ≤ L) (hz : Rp A h σ ρ) (hR : Rel T σ ρ) (h1 : kc + 3 * T + 210 ≤ 177588) (h2 : ks + 22 * T + 8000 ≤ 8563342) (nx : NX x b i T kc ks) : wp x mLaw 1251 (LI b A i) [] h kc ks := by
  obtain ⟨P, Q, S, g, Lg, d, X, hRl⟩ := id hR
  obtain ⟨v, σ1, ρ1, e1, e2, hR1⟩ := f_isStopped hRl
  refine w_aload_n 3 dL_law_1251 rfl rfl rfl ?_
  refine c_L_165 (b := A 11 0 0) (As := []) (rest := []) (fun l => s_X11_isStopped hz e1 l) hrm dL_law_1252 rfl rfl (by decide) (by omega) (by omega) (hz.o11 rfl) rfl (by decide) (fun vr h9 hq => ?_) (fun _ _ hq => hq.elim)
  obtain ⟨rfl, hz1⟩ := hq
  refine w_aload_n 2 dL_law_1255 rfl rfl rfl ?_
  refine c_L_169 (b := A 14 0 0) (As := []) (rest := [.int v]) (fun l => s_X14_isStopped hz1 e2 l) hrm dL_law_1256 rfl rfl (by decide) (by omega) (by omega) (hz1.o14 rfl) rfl (Nat.le_of_ble_eq_true rfl) (fun vr h9 hq => ?_) (fun _ _ hq => hq.elim)
  obtain ⟨rfl, hz2⟩ := hq
  refine w_icmp_eq 1563 dL_law_1259 rfl (by decide) (fun _ => ?_) (fun q => absurd rfl q)
  exact nx A h9 σ1 ρ1 T _ _ hz2 hR1 (by omega) (by omega)
theorem law_taken (hsc : scrOk x b L xs) (hrm : m_rm 2048 177588 8563342 x) (hL : L ≤ 3072) (hi : i + 6 ≤ L) (hz : Rp A h σ ρ) (hR : Rel T σ ρ) (h1 : kc + 3 * T + 210 ≤ 177588) (h2 : ks + 22 * T + 8000 ≤ 8563342) (nx : NX x b i T kc ks) : wp x mLaw 1508 (LI b A i) [] h kc ks := by
  obtain ⟨P, Q, S, g, Lg, d, X, hRl⟩ := id hR
  obtain ⟨v, σ1, ρ1, e1, e2, hR1⟩ := f_taken hRl
  refine w_aload_n 3 dL_law_1508 rfl rfl rfl ?_
  refine c_L_186 (b := A 11 0 0) (As := []) (rest := []) (fun l => s_X11_taken hz e1 l) hrm dL_law_1509 rfl rfl (by decide) (by omega) (by omega) (hz.o11 rfl) rfl (by decide) (fun vr h9 hq => ?_) (fun _ _ hq => hq.elim)
  obtain ⟨rfl, hz1⟩ := hq
  refine w_dstore ((5, .double v) :: LI b A i) dL_law_1512 rfl (by decide) rfl ?_
  refine w_aload_n 3 dL_law_1514 rfl rfl rfl ?_
  refine c_L_190 (b := A 14 0 0) (As := []) (rest := []) (fun l => s_X14_taken hz1 e2 l) hrm dL_law_1515 rfl rfl (by decide) (by omega) (by omega) (hz1.o14 rfl) rfl (by decide) (fun vr h9 hq => ?_) (fun _ _ hq => hq.elim)
  obtain ⟨rfl, hz2⟩ := hq
  refine w_dstore ((7, .double v) :: (5, .double v) :: LI b A i) dL_law_1518 rfl (by decide) rfl ?_
  have fin : wp x mLaw 1546 ((7, .double v) :: (5, .double v) :: LI b A i) [] h9 (kc + 0 + 0) (ks + 0 + 0) := by
    refine w_lv _ [2, 3, 4, 5, 6] rfl ?_
    refine w_goto 1563 dL_law_1546 (by decide) ?_
    exact nx A h9 σ1 ρ1 T _ _ hz2 hR1 (by omega) (by omega)
  refine w_dload 1 dL_law_1520 rfl rfl ?_
  refine w_dload 0 dL_law_1522 rfl rfl ?_
  refine w_dcmp dL_law_1524 rfl ?_
  refine w_if_eq 1546 dL_law_1525 rfl (by decide) (fun _ => fin) (fun q => ?_)
  refine w_dload 1 dL_law_1528 rfl rfl ?_
  refine w_dload 1 dL_law_1530 rfl rfl ?_
  refine w_dcmp dL_law_1532 rfl ?_
  refine w_if_eq 1544 dL_law_1533 rfl (by decide) (fun q2 => absurd q2 q) (fun _ => ?_)
  refine w_dload 0 dL_law_1536 rfl rfl ?_
  refine w_dload 0 dL_law_1538 rfl rfl ?_
  refine w_dcmp dL_law_1540 rfl ?_
  exact w_if_ne 1546 dL_law_1541 rfl (by decide) (fun _ => fin) (fun q2 => absurd q2 q)
theorem law_digest (hsc : scrOk x b L xs) (hrm : m_rm 2048 177588 8563342 x) (hL : L ≤ 3072) (hi : i + 6 ≤ L) (hz : Rp A h σ ρ) (hR : Rel T σ ρ) (h1 : kc + 3 * T + 210 ≤ 177588) (h2 : ks + 22 * T + 8000 ≤ 8563342) (nx : NX x b i T kc ks) : wp x mLaw 1549 (LI b A i) [] h kc ks := by
  obtain ⟨P, Q, S, g, Lg, d, X, hRl⟩ := id hR
  obtain ⟨v, σ1, ρ1, e1, e2, hR1⟩ := f_digest hRl
  refine w_aload_n 3 dL_law_1549 rfl rfl rfl ?_
  refine c_L_191 (b := A 11 0 0) (As := []) (rest := []) (fun l => t_X11_digest hz e1 l) hrm dL_law_1550 rfl rfl (by decide) (by omega) (by omega) (hz.o11 rfl) rfl (by decide) (fun vr h9 hq => ?_) (fun _ _ hq => hq.elim)
  obtain ⟨rfl, hz1⟩ := hq
  refine w_aload_n 2 dL_law_1553 rfl rfl rfl ?_
  refine c_L_195 (b := A 14 0 0) (As := []) (rest := [.long v]) (fun l => s_X14_digest hz1 e2 l) hrm dL_law_1554 rfl rfl (by decide) (by omega) (by omega) (hz1.o14 rfl) rfl (Nat.le_of_ble_eq_true rfl) (fun vr h9 hq => ?_) (fun _ _ hq => hq.elim)
  obtain ⟨rfl, hz2⟩ := hq
  refine w_lcmp dL_law_1557 rfl ?_
  refine w_if_eq 1563 dL_law_1558 rfl (by decide) (fun _ => ?_) (fun q => absurd (lg_self _) q)
  exact nx A h9 σ1 ρ1 T _ _ hz2 hR1 (by omega) (by omega)
theorem law_compile (hsc : scrOk x b L xs) (hrm : m_rm 2048 177588 8563342 x) (hL : L ≤ 3072) (hi : i + 6 ≤ L) (hz : Rp A h σ ρ) (hR : Rel T σ ρ) (h1 : kc + 3 * T + 210 ≤ 177588) (h2 : ks + 22 * T + 8000 ≤ 8563342) (nx : NX x b i T kc ks) : wp x mLaw 328 (LI b A i) [] h kc ks := by
  obtain ⟨P, Q, S, g, Lg, d, X, hRl⟩ := id hR
  obtain ⟨v, n, σ1, ρ1, e1, e2, hn, _, hR1⟩ := f_compile hRl
  refine w_aload_n 3 dL_law_328 rfl rfl rfl ?_
  refine c_L_100 (b := A 11 0 0) (As := []) (rest := []) (fun l => s_X11_compile hz e1 l) hrm dL_law_329 rfl rfl (by decide) (by omega) (by omega) (hz.o11 rfl) rfl (by decide) (fun vr h9 hq => ?_) (fun _ _ hq => hq.elim)
  obtain ⟨rfl, hz1⟩ := hq
  refine w_aload_n 2 dL_law_332 rfl rfl rfl ?_
  refine c_L_103 (b := A 14 0 0) (As := []) (rest := [.int v]) (fun l => s_X14_compile hz1 e2 l) hrm dL_law_333 rfl rfl (by decide) (by omega) (by omega) (hz1.o14 rfl) rfl (Nat.le_of_ble_eq_true rfl) (fun vr h9 hq => ?_) (fun _ _ hq => hq.elim)
  obtain ⟨rfl, A', hAx, hz2⟩ := hq
  refine w_icmp_eq 1563 dL_law_336 rfl (by decide) (fun _ => ?_) (fun q => absurd rfl q)
  have E11 : A' 11 0 0 = A 11 0 0 := hAx 11 0 0 (vc_o (by decide) rfl) (by decide)
  have E14 : A' 14 0 0 = A 14 0 0 := hAx 14 0 0 (vc_o (by decide) rfl) (by decide)
  have E84 : A' 1984 0 0 = A 1984 0 0 := hAx 1984 0 0 (vc_a (f := 960) (by decide) rfl rfl) (by decide)
  have eLI : LI b A i = LI b A' i := by unfold LI; rw [E11, E14, E84]
  rw [eLI]
  exact nx A' h9 σ1 ρ1 0 _ _ hz2 hR1 (by omega) (by omega)
end LC
