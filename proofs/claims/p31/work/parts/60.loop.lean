/-! THE LAW'S FIRST LOOP -/
abbrev mLaw : MI := (RL, code, 14, yL_law, ret, [])
theorem Rp.fY {A : Nat → Nat → Nat → Nat} {h : Hp} {σ ρ : Zs} {q i : Nat} {v : Int64} (hz : Rp A h σ ρ) (hq : fgn A q) : Rp A (p_Y h q i v) σ (ecd (p_Y h q i v) ρ) := hz.far (fun c p s hv => ⟨rfl, rfl, fun _ => rfl, fun _ => rfl, fun _ => rfl, fun _ => rfl, fun _ => if_neg (fun z => hq c p s hv z.1), fun _ => rfl⟩)
def lvL (b d n lim i : Nat) (sm : Int64) : List (Nat × Value) := [(7, .int (nI i)), (5, .long sm), (4, .int (nI i)), (3, .int (nI lim)), (2, .int (nI n)), (1, .ref d), (0, .ref b)]
section LOP
variable {x : Cxt} {b N kc ks lim n i Mc Ms : Nat} {xs : Nat → Int32} {A : Nat → Nat → Nat → Nat} {h : Hp} {σ ρ : Zs} {X : Dk} {f : Nat → Rw}
theorem lw_tail {T : Nat} (hi : i < 40) (hrm : m_rm 20 Mc Ms x) (hz : Rp A h σ ρ) (hS : St lim n X (i + 1) f σ) (hI : Iv n T (i + 1) X) (h1 : kc + 10 ≤ Mc) (h2 : ks + 60 ≤ Ms) (k : ∀ h', Rp A h' σ ρ → wp x mLaw 94 (lvL b (A 11 0 0) n lim (i + 1) (smO X)) [] h' (kc + 6) (ks + 36)) : wp x mLaw 273 [(7, .int (nI i)), (5, .long (smO X)), (4, .int (nI (i + 1))), (3, .int (nI lim)), (2, .int (nI n)), (1, .ref (A 11 0 0)), (0, .ref b)] [] h kc ks := by
  obtain ⟨i1, i2, i3, -, -, -⟩ := hI.1
  refine w_aload_n 5 dL_law_273 rfl rfl rfl ?_
  refine w_iconst (nI 0) dL_law_274 rfl rfl ?_
  refine c_L_81 (b := A 11 0 0) (As := [.int (nI 0)]) (rest := []) (fun l => s_X11_rows hz (show fX11_rows (nI 0) _ = _ from rows_C (s := 0) hS.1.1 (by decide) hS.1.2.2.1.1) l) hrm dL_law_275 rfl rfl (by decide) (by omega) (by omega) (hz.o11 rfl) rfl (Nat.le_of_ble_eq_true rfl) (fun vr h1 hq => ?_) (fun _ _ hq => ?_)
  rotate_left; · exact absurd hq.1 (by intro q9; cases q9)
  obtain ⟨w9, hw9, rfl, hz1⟩ := hq; cases hw9
  refine w_aload_n 5 dL_law_278 rfl rfl rfl ?_
  refine w_iconst (nI 0) dL_law_279 rfl rfl ?_
  refine c_L_90 (b := A 11 0 0) (As := [.int (nI 0)]) (rest := [.int (nI (kS X).1)]) (fun l => s_X11_broken hz1 (show fX11_broken (nI 0) _ = _ from brk0_C hS) l) hrm dL_law_280 rfl rfl (by decide) (by omega) (by omega) (hz1.o11 rfl) rfl (Nat.le_of_ble_eq_true rfl) (fun vr h2 hq => ?_) (fun _ _ hq => ?_)
  rotate_left; · exact absurd hq.1 (by intro q9; cases q9)
  obtain ⟨w9, hw9, rfl, hz2⟩ := hq; cases hw9
  refine w_iadd dL_law_283 rfl ?_
  rw [n_add]
  refine w_aload_n 5 dL_law_284 rfl rfl rfl ?_
  refine w_iconst (nI 1) dL_law_285 rfl rfl ?_
  refine c_L_90 (b := A 11 0 0) (As := [.int (nI 1)]) (rest := [.int (nI ((kS X).1 + k0 X))]) (fun l => s_X11_broken hz2 (show fX11_broken (nI 1) _ = _ from brk1_C hS) l) hrm dL_law_286 rfl rfl (by decide) (by omega) (by omega) (hz2.o11 rfl) rfl (Nat.le_of_ble_eq_true rfl) (fun vr h3 hq => ?_) (fun _ _ hq => ?_)
  rotate_left; · exact absurd hq.1 (by intro q9; cases q9)
  obtain ⟨w9, hw9, rfl, hz3⟩ := hq; cases hw9
  refine w_iadd dL_law_289 rfl ?_
  rw [n_add, i1]
  refine w_iload 2 dL_law_290 rfl rfl ?_
  refine w_icmp_ne 321 dL_law_292 rfl rfl (fun q => absurd rfl q) (fun _ => ?_)
  refine w_aload_n 5 dL_law_295 rfl rfl rfl ?_
  refine w_iconst (nI 1) dL_law_296 rfl rfl ?_
  refine c_L_81 (b := A 11 0 0) (As := [.int (nI 1)]) (rest := []) (fun l => s_X11_rows hz3 (show fX11_rows (nI 1) _ = _ from rows_C (s := 1) hS.1.1 (by decide) hS.1.2.2.1.2.1) l) hrm dL_law_297 rfl rfl (by decide) (by omega) (by omega) (hz3.o11 rfl) rfl (Nat.le_of_ble_eq_true rfl) (fun vr h4 hq => ?_) (fun _ _ hq => ?_)
  rotate_left; · exact absurd hq.1 (by intro q9; cases q9)
  obtain ⟨w9, hw9, rfl, hz4⟩ := hq; cases hw9
  refine w_aload_n 5 dL_law_300 rfl rfl rfl ?_
  refine w_iconst (nI 2) dL_law_301 rfl rfl ?_
  refine c_L_81 (b := A 11 0 0) (As := [.int (nI 2)]) (rest := [.int (nI (kA X).1)]) (fun l => s_X11_rows hz4 (show fX11_rows (nI 2) _ = _ from rows_C (s := 2) hS.1.1 (by decide) hS.1.2.2.1.2.2.1) l) hrm dL_law_302 rfl rfl (by decide) (by omega) (by omega) (hz4.o11 rfl) rfl (Nat.le_of_ble_eq_true rfl) (fun vr h5 hq => ?_) (fun _ _ hq => ?_)
  rotate_left; · exact absurd hq.1 (by intro q9; cases q9)
  obtain ⟨w9, hw9, rfl, hz5⟩ := hq; cases hw9
  refine w_iadd dL_law_305 rfl ?_
  rw [n_add, i3]
  refine w_aload_n 5 dL_law_306 rfl rfl rfl ?_
  refine w_iconst (nI 0) dL_law_307 rfl rfl ?_
  refine c_L_81 (b := A 11 0 0) (As := [.int (nI 0)]) (rest := [.int (nI (kS X).1)]) (fun l => s_X11_rows hz5 (show fX11_rows (nI 0) _ = _ from rows_C (s := 0) hS.1.1 (by decide) hS.1.2.2.1.1) l) hrm dL_law_308 rfl rfl (by decide) (by omega) (by omega) (hz5.o11 rfl) rfl (Nat.le_of_ble_eq_true rfl) (fun vr h6 hq => ?_) (fun _ _ hq => ?_)
  rotate_left; · exact absurd hq.1 (by intro q9; cases q9)
  obtain ⟨w9, hw9, rfl, hz6⟩ := hq; cases hw9
  refine w_icmp_ne 321 dL_law_311 rfl rfl (fun q => absurd rfl q) (fun _ => ?_)
  refine w_aload_n 5 dL_law_314 rfl rfl rfl ?_
  refine c_L_93 (b := A 11 0 0) (As := []) (rest := []) (fun l => s_X11_lost hz6 (lost_C hS) l) hrm dL_law_315 rfl rfl (by decide) (by omega) (by omega) (hz6.o11 rfl) rfl (Nat.le_of_ble_eq_true rfl) (fun vr h7 hq => ?_) (fun _ _ hq => ?_)
  rotate_left; · exact hq.elim
  obtain ⟨rfl, hz7⟩ := hq
  refine w_if_eq 323 dL_law_318 rfl rfl (fun _ => ?_) (fun q => absurd rfl q)
  refine w_iinc 0 (nI (i + 1)) [(7, .int (nI (i + 1))), (5, .long (smO X)), (4, .int (nI (i + 1))), (3, .int (nI lim)), (2, .int (nI n)), (1, .ref (A 11 0 0)), (0, .ref b)] dL_law_323 rfl rfl (nI_1 i) (by decide) rfl ?_
  refine w_goto 94 dL_law_326 rfl ?_
  exact w_widen (by omega) (by omega) (k _ hz7)
theorem lw_v2 {T q : Nat} {v xv : Int32} {X0 : Dk} (hi : i < 40) (hrm : m_rm 20 Mc Ms x) (hz : Rp A h σ ρ) (hS : St lim n X (i + 1) f σ) (hI : Iv n T (i + 1) X) (hv : v = 2) (hS0 : kS X = kS X0) (hk : 1 ≤ k0 X) (hkb : k0 X < 1000) (hH : (kH X0).1 ≤ (kH X).1) (hHb : (kH X).1 < 1000) (hsm : smO X = smO X0) (h1 : kc + 20 ≤ Mc) (h2 : ks + 120 ≤ Ms) (k : ∀ h', Rp A h' σ ρ → wp x mLaw 94 (lvL b (A 11 0 0) n lim (i + 1) (smO X)) [] h' (kc + 9) (ks + 54)) : wp x mLaw 204 [(4, .int (nI (i + 1))), (12, .int (nI q)), (11, .int (nI (kH X0).1)), (10, .int (nI (kS X0).1)), (9, .int v), (8, .int xv), (7, .int (nI i)), (5, .long (smO X0)), (3, .int (nI lim)), (2, .int (nI n)), (1, .ref (A 11 0 0)), (0, .ref b)] [] h kc ks := by
  subst hv
  refine w_aload_n 10 dL_law_204 rfl rfl rfl ?_
  refine w_iconst (nI 0) dL_law_205 rfl rfl ?_
  refine c_L_81 (b := A 11 0 0) (As := [.int (nI 0)]) (rest := []) (fun l => s_X11_rows hz (show fX11_rows (nI 0) _ = _ from rows_C (s := 0) hS.1.1 (by decide) hS.1.2.2.1.1) l) hrm dL_law_206 rfl rfl (by decide) (by omega) (by omega) (hz.o11 rfl) rfl (Nat.le_of_ble_eq_true rfl) (fun vr h1 hq => ?_) (fun _ _ hq => ?_)
  rotate_left; · exact absurd hq.1 (by intro q9; cases q9)
  obtain ⟨w9, hw9, rfl, hz1⟩ := hq; cases hw9
  refine w_iload 3 dL_law_209 rfl rfl ?_
  rw [hS0]
  refine w_icmp_ne 243 dL_law_211 rfl rfl (fun q => absurd rfl q) (fun _ => ?_)
  refine w_aload_n 10 dL_law_214 rfl rfl rfl ?_
  refine w_iload 4 dL_law_215 rfl rfl ?_
  refine w_iconst (nI 2) dL_law_217 rfl rfl ?_
  refine w_icmp_ne 225 dL_law_218 rfl rfl (fun q => absurd rfl q) (fun _ => ?_)
  refine w_iconst (nI 0) dL_law_221 rfl rfl ?_
  refine w_goto 226 dL_law_222 rfl ?_
  refine c_L_90 (b := A 11 0 0) (As := [.int (nI 0)]) (rest := []) (fun l => s_X11_broken hz1 (show fX11_broken (nI 0) _ = _ from brk0_C hS) l) hrm dL_law_226 rfl rfl (by decide) (by omega) (by omega) (hz1.o11 rfl) rfl (Nat.le_of_ble_eq_true rfl) (fun vr h2 hq => ?_) (fun _ _ hq => ?_)
  rotate_left; · exact absurd hq.1 (by intro q9; cases q9)
  obtain ⟨w9, hw9, rfl, hz2⟩ := hq; cases hw9
  refine w_iconst (nI 1) dL_law_229 rfl rfl ?_
  refine w_icmp_lt 243 dL_law_230 rfl rfl (fun q => absurd ((n_lt (by omega) (by omega)).mp q) (by omega)) (fun _ => ?_)
  refine w_aload_n 10 dL_law_233 rfl rfl rfl ?_
  refine w_iconst (nI 5) dL_law_234 rfl rfl ?_
  refine c_L_84 (b := A 11 0 0) (As := [.int (nI 5)]) (rest := []) (fun l => s_X11_count hz2 (show fX11_count (nI 5) _ = _ from cnt5_C hS) l) hrm dL_law_235 rfl rfl (by decide) (by omega) (by omega) (hz2.o11 rfl) rfl (Nat.le_of_ble_eq_true rfl) (fun vr h3 hq => ?_) (fun _ _ hq => ?_)
  rotate_left; · exact absurd hq.1 (by intro q9; cases q9)
  obtain ⟨w9, hw9, rfl, hz3⟩ := hq; cases hw9
  refine w_iload 2 dL_law_238 rfl rfl ?_
  refine w_icmp_ge 273 dL_law_240 rfl rfl (fun _ => ?_) (fun q => absurd ((n_le (by omega) (by omega)).mpr hH) q)
  rw [← hsm]
  refine w_lv [(7, .int (nI i)), (5, .long (smO X)), (4, .int (nI (i + 1))), (3, .int (nI lim)), (2, .int (nI n)), (1, .ref (A 11 0 0)), (0, .ref b)] [6, 7, 0, 8, 9, 10, 11] rfl ?_
  exact lw_tail hi hrm hz3 hS hI (by omega) (by omega) (fun h9 hz9 => w_widen (by omega) (by omega) (k h9 hz9))
theorem lw_v5 {T q : Nat} {v xv : Int32} {X0 : Dk} (hi : i < 40) (hrm : m_rm 20 Mc Ms x) (hz : Rp A h σ ρ) (hS : St lim n X (i + 1) f σ) (hI : Iv n T (i + 1) X) (hv : v = 5) (hS0 : kS X = kS X0) (hk : 1 ≤ k1 X) (hkb : k1 X < 1000) (hH : (kH X0).1 ≤ (kH X).1) (hHb : (kH X).1 < 1000) (hsm : smO X = smO X0) (h1 : kc + 20 ≤ Mc) (h2 : ks + 120 ≤ Ms) (k : ∀ h', Rp A h' σ ρ → wp x mLaw 94 (lvL b (A 11 0 0) n lim (i + 1) (smO X)) [] h' (kc + 9) (ks + 54)) : wp x mLaw 204 [(4, .int (nI (i + 1))), (12, .int (nI q)), (11, .int (nI (kH X0).1)), (10, .int (nI (kS X0).1)), (9, .int v), (8, .int xv), (7, .int (nI i)), (5, .long (smO X0)), (3, .int (nI lim)), (2, .int (nI n)), (1, .ref (A 11 0 0)), (0, .ref b)] [] h kc ks := by
  subst hv
  refine w_aload_n 10 dL_law_204 rfl rfl rfl ?_
  refine w_iconst (nI 0) dL_law_205 rfl rfl ?_
  refine c_L_81 (b := A 11 0 0) (As := [.int (nI 0)]) (rest := []) (fun l => s_X11_rows hz (show fX11_rows (nI 0) _ = _ from rows_C (s := 0) hS.1.1 (by decide) hS.1.2.2.1.1) l) hrm dL_law_206 rfl rfl (by decide) (by omega) (by omega) (hz.o11 rfl) rfl (Nat.le_of_ble_eq_true rfl) (fun vr h1 hq => ?_) (fun _ _ hq => ?_)
  rotate_left; · exact absurd hq.1 (by intro q9; cases q9)
  obtain ⟨w9, hw9, rfl, hz1⟩ := hq; cases hw9
  refine w_iload 3 dL_law_209 rfl rfl ?_
  rw [hS0]
  refine w_icmp_ne 243 dL_law_211 rfl rfl (fun q => absurd rfl q) (fun _ => ?_)
  refine w_aload_n 10 dL_law_214 rfl rfl rfl ?_
  refine w_iload 4 dL_law_215 rfl rfl ?_
  refine w_iconst (nI 2) dL_law_217 rfl rfl ?_
  refine w_icmp_ne 225 dL_law_218 rfl rfl (fun _ => ?_) (fun q => absurd q (by decide))
  refine w_iconst (nI 1) dL_law_225 rfl rfl ?_
  refine c_L_90 (b := A 11 0 0) (As := [.int (nI 1)]) (rest := []) (fun l => s_X11_broken hz1 (show fX11_broken (nI 1) _ = _ from brk1_C hS) l) hrm dL_law_226 rfl rfl (by decide) (by omega) (by omega) (hz1.o11 rfl) rfl (Nat.le_of_ble_eq_true rfl) (fun vr h2 hq => ?_) (fun _ _ hq => ?_)
  rotate_left; · exact absurd hq.1 (by intro q9; cases q9)
  obtain ⟨w9, hw9, rfl, hz2⟩ := hq; cases hw9
  refine w_iconst (nI 1) dL_law_229 rfl rfl ?_
  refine w_icmp_lt 243 dL_law_230 rfl rfl (fun q => absurd ((n_lt (by omega) (by omega)).mp q) (by omega)) (fun _ => ?_)
  refine w_aload_n 10 dL_law_233 rfl rfl rfl ?_
  refine w_iconst (nI 5) dL_law_234 rfl rfl ?_
  refine c_L_84 (b := A 11 0 0) (As := [.int (nI 5)]) (rest := []) (fun l => s_X11_count hz2 (show fX11_count (nI 5) _ = _ from cnt5_C hS) l) hrm dL_law_235 rfl rfl (by decide) (by omega) (by omega) (hz2.o11 rfl) rfl (Nat.le_of_ble_eq_true rfl) (fun vr h3 hq => ?_) (fun _ _ hq => ?_)
  rotate_left; · exact absurd hq.1 (by intro q9; cases q9)
  obtain ⟨w9, hw9, rfl, hz3⟩ := hq; cases hw9
  refine w_iload 2 dL_law_238 rfl rfl ?_
  refine w_icmp_ge 273 dL_law_240 rfl rfl (fun _ => ?_) (fun q => absurd ((n_le (by omega) (by omega)).mpr hH) q)
  rw [← hsm]
  refine w_lv [(7, .int (nI i)), (5, .long (smO X)), (4, .int (nI (i + 1))), (3, .int (nI lim)), (2, .int (nI n)), (1, .ref (A 11 0 0)), (0, .ref b)] [6, 7, 0, 8, 9, 10, 11] rfl ?_
  exact lw_tail hi hrm hz3 hS hI (by omega) (by omega) (fun h9 hz9 => w_widen (by omega) (by omega) (k h9 hz9))
theorem lw_vn {T q : Nat} {v xv : Int32} {X0 : Dk} (hi : i < 40) (hrm : m_rm 20 Mc Ms x) (hz : Rp A h σ ρ) (hS : St lim n X (i + 1) f σ) (hI : Iv n T (i + 1) X) (hS0 : (kS X).1 = (kS X0).1 + 1) (hq2 : 2 ≤ q) (hqb : q ≤ 62) (hsm : smO X0 + v.toInt64 = smO X) (h1 : kc + 20 ≤ Mc) (h2 : ks + 120 ≤ Ms) (k : ∀ h', Rp A h' σ ρ → wp x mLaw 94 (lvL b (A 11 0 0) n lim (i + 1) (smO X)) [] h' (kc + 9) (ks + 54)) : wp x mLaw 245 [(4, .int (nI (i + 1))), (12, .int (nI q)), (11, .int (nI (kH X0).1)), (10, .int (nI (kS X0).1)), (9, .int v), (8, .int xv), (7, .int (nI i)), (5, .long (smO X0)), (3, .int (nI lim)), (2, .int (nI n)), (1, .ref (A 11 0 0)), (0, .ref b)] [] h kc ks := by
  refine w_lload 7 dL_law_245 rfl rfl ?_
  refine w_iload 4 dL_law_247 rfl rfl ?_
  refine w_i2l dL_law_249 rfl ?_
  refine w_ladd dL_law_250 rfl ?_
  rw [hsm]
  refine w_lstore [(5, .long (smO X)), (4, .int (nI (i + 1))), (12, .int (nI q)), (11, .int (nI (kH X0).1)), (10, .int (nI (kS X0).1)), (9, .int v), (8, .int xv), (7, .int (nI i)), (3, .int (nI lim)), (2, .int (nI n)), (1, .ref (A 11 0 0)), (0, .ref b)] dL_law_251 rfl (by decide) rfl ?_
  refine w_aload_n 10 dL_law_253 rfl rfl rfl ?_
  refine w_iconst (nI 0) dL_law_254 rfl rfl ?_
  refine c_L_81 (b := A 11 0 0) (As := [.int (nI 0)]) (rest := []) (fun l => s_X11_rows hz (show fX11_rows (nI 0) _ = _ from rows_C (s := 0) hS.1.1 (by decide) hS.1.2.2.1.1) l) hrm dL_law_255 rfl rfl (by decide) (by omega) (by omega) (hz.o11 rfl) rfl (Nat.le_of_ble_eq_true rfl) (fun vr h1 hq => ?_) (fun _ _ hq => ?_)
  rotate_left; · exact absurd hq.1 (by intro q9; cases q9)
  obtain ⟨w9, hw9, rfl, hz1⟩ := hq; cases hw9
  refine w_iload 4 dL_law_258 rfl rfl ?_
  refine w_iconst (nI 1) dL_law_260 rfl rfl ?_
  refine w_iadd dL_law_261 rfl ?_
  rw [n_add, hS0]
  refine w_icmp_ne 271 dL_law_262 rfl rfl (fun q => absurd rfl q) (fun _ => ?_)
  refine w_iload 2 dL_law_265 rfl rfl ?_
  refine w_iconst (nI 2) dL_law_267 rfl rfl ?_
  refine w_icmp_ge 273 dL_law_268 rfl rfl (fun _ => ?_) (fun q => absurd ((n_le (by omega) (by omega)).mpr hq2) q)
  refine w_lv [(7, .int (nI i)), (5, .long (smO X)), (4, .int (nI (i + 1))), (3, .int (nI lim)), (2, .int (nI n)), (1, .ref (A 11 0 0)), (0, .ref b)] [7, 0, 1, 8, 9, 10, 11] rfl ?_
  exact lw_tail hi hrm hz1 hS hI (by omega) (by omega) (fun h9 hz9 => w_widen (by omega) (by omega) (k h9 hz9))
theorem lw_it (hi : i < 40) (hsc : scrOk x b N xs) (hN : N ≤ 65536) (hrm : m_rm 20 Mc Ms x) (hz : Rp A h σ ρ) (hS : St lim n (runD lim n (FO N xs) i) i (FO N xs) σ) (hn : 0 < n) (hn2 : n ≤ 20) (h1 : kc + 40 ≤ Mc) (h2 : ks + 300 ≤ Ms) (k : ∀ h' σ' ρ', Rp A h' σ' ρ' → St lim n (runD lim n (FO N xs) (i + 1)) (i + 1) (FO N xs) σ' → wp x mLaw 94 (lvL b (A 11 0 0) n lim (i + 1) (smO (runD lim n (FO N xs) (i + 1)))) [] h' (kc + 20) (ks + 140)) : wp x mLaw 94 (lvL b (A 11 0 0) n lim i (smO (runD lim n (FO N xs) i))) [] h kc ks := by
  have hI2 := run_I (lim := lim) (N := N) (xs := xs) hn hn2 (i + 1) (by omega)
  have hI1 := run_I (lim := lim) (N := N) (xs := xs) hn hn2 i (by omega)
  have hR := run_rm (lim := lim) (N := N) (xs := xs) hn hn2 (i := i) (by omega)
  have hv2 := FO_v2 (N := N) (xs := xs) hi
  have hv5 := FO_v5 (N := N) (xs := xs) hi
  have hFO := FO_lt (N := N) (xs := xs) hi
  have hX : runD lim n (FO N xs) (i + 1) = stp lim n (runD lim n (FO N xs) i) (FO N xs i) := rfl
  obtain ⟨y1, v1, s1⟩ := val_C (x := kO N xs i) (hS.v (g := fun _ => 0)) (by decide)
  obtain ⟨y2, v2, s2⟩ := val_C (x := (vO N xs i).toInt64) s1 (by decide)
  obtain ⟨y3, q, p1, p2, p3, p4⟩ := push_C (t := tO N xs i) s2 (by omega) (by have := tO_le (N := N) (xs := xs) hi; omega) hR hn (by omega)
  have eF : (tO N xs i, pushF 1 (pushF 0 (fun _ => 0) (kO N xs i)) (vO N xs i).toInt64 0, pushF 1 (pushF 0 (fun _ => 0) (kO N xs i)) (vO N xs i).toInt64 1) = FO N xs i := hFO.symm
  rw [eF] at p2
  have eP : pushF i (FO N xs) (FO N xs i) = FO N xs := by
    funext j
    unfold pushF
    split
    · rename_i e9; rw [e9]
    · rfl
  rw [← hX, eP] at p2
  have p4' : ¬ (vO N xs i = 2 ∨ vO N xs i = 5) → 2 ≤ q := fun e => p4 (fun e2 => e (e2.imp (fun w => hv2.mp (by rw [hFO]; exact w)) (fun w => hv5.mp (by rw [hFO]; exact w))))
  generalize hX0 : runD lim n (FO N xs) i = X0 at *
  generalize hX1 : runD lim n (FO N xs) (i + 1) = X1 at *
  obtain ⟨a1, a2, a3, a4, a5, a6⟩ := hI2.1
  obtain ⟨c1, c2, c3, c4, c5, c6⟩ := hI1.1
  unfold lvL
  refine w_iload 0 dL_law_94 rfl rfl ?_
  refine w_bipush (nI 40) dL_law_96 rfl (by decide) ?_
  refine w_icmp_ge 329 dL_law_98 rfl rfl (fun q9 => absurd ((n_le (by omega) (by omega)).mp q9) (by omega)) (fun _ => ?_)
  refine w_aload_n 6 dL_law_101 rfl rfl rfl ?_
  refine w_iconst (nI 1) dL_law_102 rfl rfl ?_
  refine w_iload 0 dL_law_103 rfl rfl ?_
  refine w_bipush (nI 15) dL_law_105 rfl (by decide) ?_
  refine w_irem dL_law_107 rfl (by decide) ?_
  rw [pk_rem (by omega) (by decide) (by decide)]
  refine w_iadd dL_law_108 rfl ?_
  rw [n_add]
  refine w_cell (d := 19) hsc hrm dL_law_109 rfl (by omega) hN (by omega) (by omega) (Nat.le_of_ble_eq_true rfl) ?_
  refine w_iload 0 dL_law_112 rfl rfl ?_
  refine w_bipush (nI 15) dL_law_114 rfl (by decide) ?_
  refine w_idiv dL_law_116 rfl (by decide) ?_
  rw [pk_div (by omega) (by decide) (by decide)]
  refine w_bipush (nI 9) dL_law_117 rfl (by decide) ?_
  refine w_imul dL_law_119 rfl ?_
  rw [n_mul]
  refine w_ishr dL_law_120 rfl ?_
  rw [show cellV N xs (1 + i % 15) >>> (nI (i / 15 * 9) &&& 31) = xvO N xs i from rfl]
  refine w_istore [(8, .int (xvO N xs i)), (7, .int (nI i)), (5, .long (smO X0)), (4, .int (nI i)), (3, .int (nI lim)), (2, .int (nI n)), (1, .ref (A 11 0 0)), (0, .ref b)] dL_law_121 rfl (by decide) rfl ?_
  refine w_iload 0 dL_law_123 rfl rfl ?_
  refine w_bipush (nI 11) dL_law_125 rfl (by decide) ?_
  refine c_L_53 (b := 0) (As := [.int (xvO N xs i), .int (nI 11)]) (rest := []) (fun l => s_L_below (by decide) l) hrm dL_law_127 rfl rfl (by decide) (by omega) (by omega) rfl (Nat.le_of_ble_eq_true rfl) (fun vr h9 hq => ?_) (fun _ _ hq => hq.elim)
  obtain ⟨rfl, rfl⟩ := hq
  rw [blw_n (by decide) (by decide)]
  refine w_iconst (nI 2) dL_law_130 rfl rfl ?_
  refine w_isub dL_law_131 rfl ?_
  rw [show nI (blN (xvO N xs i) 11) - nI 2 = vO N xs i from rfl]
  refine w_istore [(9, .int (vO N xs i)), (8, .int (xvO N xs i)), (7, .int (nI i)), (5, .long (smO X0)), (4, .int (nI i)), (3, .int (nI lim)), (2, .int (nI n)), (1, .ref (A 11 0 0)), (0, .ref b)] dL_law_132 rfl (by decide) rfl ?_
  refine w_aload_n 7 dL_law_134 rfl rfl rfl ?_
  refine w_iconst (nI 0) dL_law_135 rfl rfl ?_
  refine c_L_81 (b := A 11 0 0) (As := [.int (nI 0)]) (rest := []) (fun l => s_X11_rows hz (show fX11_rows (nI 0) _ = _ from rows_C (s := 0) hS.1.1 (by decide) hS.1.2.2.1.1) l) hrm dL_law_136 rfl rfl (by decide) (by omega) (by omega) (hz.o11 rfl) rfl (Nat.le_of_ble_eq_true rfl) (fun vr h1 hq => ?_) (fun _ _ hq => ?_)
  rotate_left; · exact absurd hq.1 (by intro q9; cases q9)
  obtain ⟨w9, hw9, rfl, hz1⟩ := hq; cases hw9
  refine w_istore [(10, .int (nI (kS X0).1)), (9, .int (vO N xs i)), (8, .int (xvO N xs i)), (7, .int (nI i)), (5, .long (smO X0)), (4, .int (nI i)), (3, .int (nI lim)), (2, .int (nI n)), (1, .ref (A 11 0 0)), (0, .ref b)] dL_law_139 rfl (by decide) rfl ?_
  refine w_aload_n 8 dL_law_141 rfl rfl rfl ?_
  refine w_iconst (nI 5) dL_law_142 rfl rfl ?_
  refine c_L_84 (b := A 11 0 0) (As := [.int (nI 5)]) (rest := []) (fun l => s_X11_count hz1 (show fX11_count (nI 5) _ = _ from cnt5_C hS) l) hrm dL_law_143 rfl rfl (by decide) (by omega) (by omega) (hz1.o11 rfl) rfl (Nat.le_of_ble_eq_true rfl) (fun vr h2 hq => ?_) (fun _ _ hq => ?_)
  rotate_left; · exact absurd hq.1 (by intro q9; cases q9)
  obtain ⟨w9, hw9, rfl, hz2⟩ := hq; cases hw9
  refine w_istore [(11, .int (nI (kH X0).1)), (10, .int (nI (kS X0).1)), (9, .int (vO N xs i)), (8, .int (xvO N xs i)), (7, .int (nI i)), (5, .long (smO X0)), (4, .int (nI i)), (3, .int (nI lim)), (2, .int (nI n)), (1, .ref (A 11 0 0)), (0, .ref b)] dL_law_146 rfl (by decide) rfl ?_
  refine w_aload_n 9 dL_law_148 rfl rfl rfl ?_
  refine w_iconst (nI 0) dL_law_149 rfl rfl ?_
  refine w_iload 4 dL_law_150 rfl rfl ?_
  refine w_iload 3 dL_law_152 rfl rfl ?_
  refine w_iconst (nI 4) dL_law_154 rfl rfl ?_
  refine w_ishr dL_law_155 rfl ?_
  refine w_bipush (nI 12) dL_law_156 rfl (by decide) ?_
  refine c_L_53 (b := 0) (As := [.int ((xvO N xs i) >>> ((nI 4) &&& 31)), .int (nI 12)]) (rest := [.int (nI i), .int (nI 0), .ref (A 11 0 0)]) (fun l => s_L_below (by decide) l) hrm dL_law_158 rfl rfl (by decide) (by omega) (by omega) rfl (Nat.le_of_ble_eq_true rfl) (fun vr h9 hq => ?_) (fun _ _ hq => hq.elim)
  obtain ⟨rfl, rfl⟩ := hq
  rw [blw_n (by decide) (by decide)]
  refine w_iadd dL_law_161 rfl ?_
  rw [n_add, show i + blN (xvO N xs i >>> (nI 4 &&& 31)) 12 = tO N xs i from rfl]
  refine w_iconst (nI 2) dL_law_162 rfl rfl ?_
  refine w_newJ (n := 2) hrm dL_law_163 rfl a_long (by decide) (by decide) (by decide) (by omega) (by omega) (fun qa hqa => ?_)
  have hf := hz2.fg hqa
  refine w_dup dL_law_165 rfl rfl ?_
  refine w_iconst (nI 0) dL_law_166 rfl rfl ?_
  refine w_iload 3 dL_law_167 rfl rfl ?_
  refine w_bipush (nI 8) dL_law_169 rfl (by decide) ?_
  refine w_ishr dL_law_171 rfl ?_
  refine w_iconst (nI 3) dL_law_172 rfl rfl ?_
  refine c_L_53 (b := 0) (As := [.int ((xvO N xs i) >>> ((nI 8) &&& 31)), .int (nI 3)]) (rest := [.int (nI 0), .ref qa, .ref qa, .int (nI (tO N xs i)), .int (nI 0), .ref (A 11 0 0)]) (fun l => s_L_below (by decide) l) hrm dL_law_173 rfl rfl (by decide) (by omega) (by omega) rfl (Nat.le_of_ble_eq_true rfl) (fun vr h9 hq => ?_) (fun _ _ hq => hq.elim)
  obtain ⟨rfl, rfl⟩ := hq
  rw [blw_n (by decide) (by decide)]
  refine w_i2l dL_law_176 rfl ?_
  rw [show (nI (blN (xvO N xs i >>> (nI 8 &&& 31)) 3)).toInt64 = kO N xs i from rfl]
  refine w_last dL_law_177 rfl (va_up_self _ _ _) (gin (va_up_self _ _ _) (show gi (nI 0) 2 by decide)) ?_
  refine w_dup dL_law_178 rfl rfl ?_
  refine w_iconst (nI 1) dL_law_179 rfl rfl ?_
  refine w_iload 2 dL_law_180 rfl rfl ?_
  refine w_i2l dL_law_182 rfl ?_
  refine w_last dL_law_183 rfl (va_up_self _ _ _) (gin (va_up_self _ _ _) (show gi (nI 1) 2 by decide)) ?_
  have hz9 := ((hz2.newA (c := 21) (n := 2) hqa).fY (i := (nI 0).toNatClampNeg) (v := kO N xs i) hf).fY (i := (nI 1).toNatClampNeg) (v := (vO N xs i).toInt64) hf
  refine c_L_87 (b := 0) (As := [.ref (A 11 0 0), .int (nI 0), .int (nI (tO N xs i)), .ref qa]) (rest := []) (fun l => s_L_push hz9 hf (va_up_self _ _ _) (va_up_self _ _ _) ((if_neg (fun e => absurd e.2 (by decide))).trans (if_pos ⟨rfl, rfl⟩)) (if_pos ⟨rfl, rfl⟩) v1 v2 p1 l) hrm dL_law_184 rfl rfl (by decide) (by omega) (by omega) rfl (Nat.le_of_ble_eq_true rfl) (fun vr h9 hq => ?_) (fun _ _ hq => hq.elim)
  obtain ⟨rfl, hz8⟩ := hq
  refine w_istore [(12, .int (nI q)), (11, .int (nI (kH X0).1)), (10, .int (nI (kS X0).1)), (9, .int (vO N xs i)), (8, .int (xvO N xs i)), (7, .int (nI i)), (5, .long (smO X0)), (4, .int (nI i)), (3, .int (nI lim)), (2, .int (nI n)), (1, .ref (A 11 0 0)), (0, .ref b)] dL_law_187 rfl (by decide) rfl ?_
  refine w_iinc 7 (nI (i + 1)) [(4, .int (nI (i + 1))), (12, .int (nI q)), (11, .int (nI (kH X0).1)), (10, .int (nI (kS X0).1)), (9, .int (vO N xs i)), (8, .int (xvO N xs i)), (7, .int (nI i)), (5, .long (smO X0)), (3, .int (nI lim)), (2, .int (nI n)), (1, .ref (A 11 0 0)), (0, .ref b)] dL_law_189 rfl rfl (nI_1 i) (by decide) rfl ?_
  refine w_iload 4 dL_law_192 rfl rfl ?_
  refine w_iconst (nI 2) dL_law_194 rfl rfl ?_
  refine w_icmp_eq 204 dL_law_195 rfl rfl (fun ev => ?_) (fun ev => ?_)
  · obtain ⟨t1, t2, t3, t4⟩ := stp_2 (lim := lim) (n := n) (X := X0) (hv2.mpr ev)
    rw [← hX] at t1 t2 t3 t4
    have hsm : smO X1 = smO X0 := by rw [hX]; exact smO_o (Or.inl (hv2.mpr ev))
    exact lw_v2 hi hrm hz8 p2 hI2 ev t4 (by omega) (by omega) (by rw [t3]; exact Nat.le_refl _) (by omega) hsm (by omega) (by omega) (fun h9 hz9 => w_widen (by omega) (by omega) (k h9 _ _ hz9 p2))
  · skip
    refine w_iload 4 dL_law_198 rfl rfl ?_
    refine w_iconst (nI 5) dL_law_200 rfl rfl ?_
    refine w_icmp_ne 245 dL_law_201 rfl rfl (fun ev5 => ?_) (fun ev5 => ?_)
    · have hnv : ¬ (vO N xs i = 2 ∨ vO N xs i = 5) := fun e => e.elim ev ev5
      have hnf : ¬ ((FO N xs i).2.2 = 2 ∨ (FO N xs i).2.2 = 5) := fun e => hnv (e.imp hv2.mp hv5.mp)
      have t1 := stp_n (lim := lim) (n := n) (X := X0) hnf
      have t2 := smO_n (lim := lim) (n := n) (X := X0) hnf
      rw [← hX] at t1 t2
      rw [hFO] at t2
      exact lw_vn hi hrm hz8 p2 hI2 (by rw [t1]) (p4' hnv) p3 t2.symm (by omega) (by omega) (fun h9 hz9 => w_widen (by omega) (by omega) (k h9 _ _ hz9 p2))
    · obtain ⟨t1, t2, t3⟩ := stp_5 (lim := lim) (n := n) (X := X0) (hv5.mpr ev5)
      rw [← hX] at t1 t2 t3
      have hsm : smO X1 = smO X0 := by rw [hX]; exact smO_o (Or.inr (hv5.mpr ev5))
      exact lw_v5 hi hrm hz8 p2 hI2 ev5 t3 (by omega) (by omega) (by omega) (by omega) hsm (by omega) (by omega) (fun h9 hz9 => w_widen (by omega) (by omega) (k h9 _ _ hz9 p2))
end LOP
