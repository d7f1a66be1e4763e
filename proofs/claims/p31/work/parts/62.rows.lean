/-! THE LOOP; THE LAST PUSH; THE ROWS OF w -/
section LO2
variable {x : Cxt} {b N lim n Mc Ms : Nat} {xs : Nat → Int32} {A : Nat → Nat → Nat → Nat}
theorem lw_loop (hsc : scrOk x b N xs) (hN : N ≤ 65536) (hrm : m_rm 20 Mc Ms x) (hn : 0 < n) (hn2 : n ≤ 20) : ∀ (m i kc ks : Nat) (h : Hp) (σ ρ : Zs), i + m = 40 → Rp A h σ ρ → St lim n (runD lim n (FO N xs) i) i (FO N xs) σ → kc + 20 * m + 60 ≤ Mc → ks + 140 * m + 300 ≤ Ms → (∀ h' σ' ρ', Rp A h' σ' ρ' → St lim n (runD lim n (FO N xs) 40) 40 (FO N xs) σ' → wp x mLaw 329 (lvL b (A 11 0 0) n lim 40 (smO (runD lim n (FO N xs) 40))) [] h' (kc + 20 * m) (ks + 140 * m)) → wp x mLaw 94 (lvL b (A 11 0 0) n lim i (smO (runD lim n (FO N xs) i))) [] h kc ks := by
  intro m
  induction m with
  | zero =>
    intro i kc ks h σ ρ hi hz hS h1 h2 k
    obtain rfl : i = 40 := by omega
    unfold lvL
    refine w_iload 0 dL_law_94 rfl rfl ?_
    refine w_bipush (nI 40) dL_law_96 rfl (by decide) ?_
    exact w_icmp_ge 329 dL_law_98 rfl rfl (fun _ => k h σ ρ hz hS) (fun q => absurd (by decide) q)
  | succ m ih =>
    intro i kc ks h σ ρ hi hz hS h1 h2 k
    refine lw_it (by omega) hsc hN hrm hz hS hn hn2 (by omega) (by omega) (fun h' σ' ρ' hz' hS' => ?_)
    exact ih (i + 1) (kc + 20) (ks + 140) h' σ' ρ' (by omega) hz' hS' (by omega) (by omega) (fun h9 σ9 ρ9 hz9 hS9 => w_widen (by omega) (by omega) (k h9 σ9 ρ9 hz9 hS9))
/-- what the locals hold behind the last push -/
def lvR (b d n lim r : Nat) (sm all many : Int64) : List (Nat × Value) := [(11, .int (nI r)), (9, .long many), (7, .long all), (5, .long sm), (4, .int (nI 40)), (3, .int (nI lim)), (2, .int (nI n)), (1, .ref d), (0, .ref b)]
variable {kc ks : Nat} {h : Hp} {σ ρ : Zs} {X : Dk} {f : Nat → Rw}
theorem lw_last {sm : Int64} (hrm : m_rm 20 Mc Ms x) (hz : Rp A h σ ρ) (hS : St lim n (runD lim n (FO N xs) 40) 40 (FO N xs) σ) (hn : 0 < n) (hn2 : n ≤ 20) (h1 : kc + 40 ≤ Mc) (h2 : ks + 300 ≤ Ms) (k : ∀ h' σ' ρ', Rp A h' σ' ρ' → St lim n (runD lim n (FO N xs) 41) 41 (FO N xs) σ' → wp x mLaw 360 (lvR b (A 11 0 0) n lim 0 sm 0 0) [] h' (kc + 5) (ks + 26)) : wp x mLaw 329 (lvL b (A 11 0 0) n lim 40 sm) [] h kc ks := by
  have hR := run_rm (lim := lim) (N := N) (xs := xs) hn hn2 (i := 40) (by decide)
  obtain ⟨y1, v1, s1⟩ := val_C (x := 9) (hS.v (g := fun _ => 0)) (by decide)
  obtain ⟨y2, v2, s2⟩ := val_C (x := 0) s1 (by decide)
  obtain ⟨y3, q, p1, p2, p3, p4⟩ := push_C (t := 1000) s2 (by decide) (by decide) hR hn (by omega)
  have eP : pushF 40 (FO N xs) (1000, 9, 0) = FO N xs := by
    funext j
    unfold pushF
    split
    · rename_i e9; rw [e9]; rfl
    · rfl
  have p2' : St lim n (stp lim n (runD lim n (FO N xs) 40) (1000, 9, 0)) 41 (pushF 40 (FO N xs) (1000, 9, 0)) y3 := p2
  rw [← run_41, eP] at p2'
  unfold lvL
  refine w_aload_n 5 dL_law_329 rfl rfl rfl ?_
  refine w_iconst (nI 0) dL_law_330 rfl rfl ?_
  refine w_sipush (nI 1000) dL_law_331 rfl (by decide) ?_
  refine w_iconst (nI 2) dL_law_334 rfl rfl ?_
  refine w_newJ (n := 2) hrm dL_law_335 rfl a_long (by decide) (by decide) (by decide) (by omega) (by omega) (fun qa hqa => ?_)
  have hf := hz.fg hqa
  refine w_dup dL_law_337 rfl rfl ?_
  refine w_iconst (nI 0) dL_law_338 rfl rfl ?_
  refine w_ldc2 dL_law_339 rfl k_L_96 ?_
  refine w_last dL_law_342 rfl (va_up_self _ _ _) (gin (va_up_self _ _ _) (show gi (nI 0) 2 by decide)) ?_
  refine w_dup dL_law_343 rfl rfl ?_
  refine w_iconst (nI 1) dL_law_344 rfl rfl ?_
  refine w_lconst 0 dL_law_345 rfl rfl ?_
  refine w_last dL_law_346 rfl (va_up_self _ _ _) (gin (va_up_self _ _ _) (show gi (nI 1) 2 by decide)) ?_
  have hz9 := ((hz.newA (c := 21) (n := 2) hqa).fY (i := (nI 0).toNatClampNeg) (v := 9) hf).fY (i := (nI 1).toNatClampNeg) (v := 0) hf
  refine c_L_87 (b := 0) (As := [.ref (A 11 0 0), .int (nI 0), .int (nI 1000), .ref qa]) (rest := []) (fun l => s_L_push hz9 hf (va_up_self _ _ _) (va_up_self _ _ _) ((if_neg (fun e => absurd e.2 (by decide))).trans (if_pos ⟨rfl, rfl⟩)) (if_pos ⟨rfl, rfl⟩) v1 v2 p1 l) hrm dL_law_347 rfl rfl (by decide) (by omega) (by omega) rfl (Nat.le_of_ble_eq_true rfl) (fun vr h9 hq => ?_) (fun _ _ hq => hq.elim)
  obtain ⟨rfl, hz8⟩ := hq
  refine w_pop dL_law_350 rfl rfl ?_
  refine w_lconst 0 dL_law_351 rfl rfl ?_
  refine w_lstore [(7, .long 0), (5, .long sm), (4, .int (nI 40)), (3, .int (nI lim)), (2, .int (nI n)), (1, .ref (A 11 0 0)), (0, .ref b)] dL_law_352 rfl (by decide) rfl ?_
  refine w_lconst 0 dL_law_354 rfl rfl ?_
  refine w_lstore [(9, .long 0), (7, .long 0), (5, .long sm), (4, .int (nI 40)), (3, .int (nI lim)), (2, .int (nI n)), (1, .ref (A 11 0 0)), (0, .ref b)] dL_law_355 rfl (by decide) rfl ?_
  refine w_iconst (nI 0) dL_law_357 rfl rfl ?_
  refine w_istore [(11, .int (nI 0)), (9, .long 0), (7, .long 0), (5, .long sm), (4, .int (nI 40)), (3, .int (nI lim)), (2, .int (nI n)), (1, .ref (A 11 0 0)), (0, .ref b)] dL_law_358 rfl (by decide) rfl ?_
  exact w_widen (by omega) (by omega) (k _ _ _ hz8 p2')
theorem lg_s (a : Int64) : lg_cmp a a = 0 := l_cmp0.mpr rfl
theorem lw_row {k0 r : Nat} {sm all many : Int64} (hr : r < (kR X).1) (hRb : (kR X).1 ≤ 200) (hrm : m_rm 20 Mc Ms x) (hz : Rp A h σ ρ) (hS : St lim n X k0 f σ) (hn : 0 < n) (hn2 : n ≤ 20) (hP : ∀ i, i < (kR X).1 → Pw n 2000 100 ((kR X).2 i)) (ha : ∀ i, i + 1 < (kR X).1 → ((kR X).2 i).2.1 ≤ ((kR X).2 (i + 1)).2.1) (h1 : kc + 40 ≤ Mc) (h2 : ks + 300 ≤ Ms) (k : ∀ h', Rp A h' σ ρ → wp x mLaw 360 (lvR b (A 11 0 0) n lim (r + 1) sm (all + ((kR X).2 r).2.2.2) (many + lN ((kR X).2 r).2.2.1)) [] h' (kc + 20) (ks + 120)) : wp x mLaw 360 (lvR b (A 11 0 0) n lim r sm all many) [] h kc ks := by
  obtain ⟨g1, g2, g3, g4, g5⟩ := hP r hr
  have hd := hS.1.1
  have ht := hS.1.2.2.1.2.2.2
  have e1 : (nI ((kR X).2 r).2.1).toInt64 = lN ((kR X).2 r).2.1 := nI_l (by omega)
  have en : (nI n).toInt64 = lN n := nI_l (by omega)
  have c1 := cel_C (s := 3) (r := r) (c := 1) hd (by decide) ht hRb hr (by decide) (by decide)
  have c2 := cel_C (s := 3) (r := r) (c := 2) hd (by decide) ht hRb hr (by decide) (by decide)
  have c3 := cel_C (s := 3) (r := r) (c := 3) hd (by decide) ht hRb hr (by decide) (by decide)
  have cm := tim_C (s := 3) (r := r) hd (by decide) ht hRb hr (by decide)
  unfold lvR
  refine w_iload 0 dL_law_360 rfl rfl ?_
  refine w_aload_n 7 dL_law_362 rfl rfl rfl ?_
  refine w_iconst (nI 3) dL_law_363 rfl rfl ?_
  refine c_L_81 (b := A 11 0 0) (As := [.int (nI 3)]) (rest := [.int (nI r)]) (fun l => s_X11_rows hz (show fX11_rows (nI 3) _ = _ from rows_C (s := 3) hS.1.1 (by decide) hS.1.2.2.1.2.2.2) l) hrm dL_law_364 rfl rfl (by decide) (by omega) (by omega) (hz.o11 rfl) rfl (Nat.le_of_ble_eq_true rfl) (fun vr h1 hq => ?_) (fun _ _ hq => ?_)
  rotate_left; · exact absurd hq.1 (by intro q9; cases q9)
  obtain ⟨w9, hw9, rfl, hz1⟩ := hq; cases hw9
  refine w_icmp_ge 481 dL_law_367 rfl rfl (fun q9 => absurd ((n_le (by omega) (by omega)).mp q9) (by omega)) (fun _ => ?_)
  refine w_aload_n 7 dL_law_370 rfl rfl rfl ?_
  refine w_iconst (nI 3) dL_law_371 rfl rfl ?_
  refine w_iload 0 dL_law_372 rfl rfl ?_
  refine w_iconst (nI 1) dL_law_374 rfl rfl ?_
  refine c_L_98 (b := A 11 0 0) (As := [.int (nI 3), .int (nI r), .int (nI 1)]) (rest := []) (fun l => s_X11_cell hz1 (show fX11_cell (nI 3) (nI r) (nI 1) _ = some (.ok (lN (((kR X).2 r).2.1 - n)), _) from c1) l) hrm dL_law_375 rfl rfl (by decide) (by omega) (by omega) (hz1.o11 rfl) rfl (Nat.le_of_ble_eq_true rfl) (fun vr h2 hq => ?_) (fun _ _ hq => ?_)
  rotate_left; · exact absurd hq.1 (by intro q9; cases q9)
  obtain ⟨w9, hw9, rfl, hz2⟩ := hq; cases hw9
  refine w_lstore [(12, .long (lN (((kR X).2 r).2.1 - n))), (11, .int (nI r)), (9, .long many), (7, .long all), (5, .long sm), (4, .int (nI 40)), (3, .int (nI lim)), (2, .int (nI n)), (1, .ref (A 11 0 0)), (0, .ref b)] dL_law_378 rfl (by decide) rfl ?_
  refine w_aload_n 8 dL_law_380 rfl rfl rfl ?_
  refine w_iconst (nI 3) dL_law_381 rfl rfl ?_
  refine w_iload 1 dL_law_382 rfl rfl ?_
  refine w_iconst (-1) dL_law_384 rfl rfl ?_
  refine c_L_98 (b := A 11 0 0) (As := [.int (nI 3), .int (nI r), .int (-1)]) (rest := []) (fun l => s_X11_cell hz2 (cm) l) hrm dL_law_385 rfl rfl (by decide) (by omega) (by omega) (hz2.o11 rfl) rfl (Nat.le_of_ble_eq_true rfl) (fun vr h3 hq => ?_) (fun _ _ hq => ?_)
  rotate_left; · exact absurd hq.1 (by intro q9; cases q9)
  obtain ⟨w9, hw9, rfl, hz3⟩ := hq; cases hw9
  rw [e1]
  refine w_lload 0 dL_law_388 rfl rfl ?_
  refine w_iload_n 7 dL_law_390 rfl rfl rfl ?_
  refine w_i2l dL_law_391 rfl ?_
  rw [en]
  refine w_ladd dL_law_392 rfl ?_
  rw [lN_add, Nat.sub_add_cancel g1]
  refine w_lcmp dL_law_393 rfl ?_
  rw [lg_s]
  refine w_if_ne 447 dL_law_394 rfl rfl (fun q => absurd rfl q) (fun _ => ?_)
  refine w_lload 0 dL_law_397 rfl rfl ?_
  refine w_iload_n 7 dL_law_399 rfl rfl rfl ?_
  refine w_i2l dL_law_400 rfl ?_
  rw [en]
  refine w_lrem dL_law_401 rfl (lN_ne0 hn (by omega)) ?_
  rw [pk_lRem (by omega) hn (by omega), show (((kR X).2 r).2.1 - n) % n = 0 from by rw [← Nat.mod_eq_sub_mod g1]; exact g2]
  refine w_lconst 0 dL_law_402 rfl rfl ?_
  refine w_lcmp dL_law_403 rfl ?_
  rw [show lg_cmp (lN 0) 0 = 0 from lg_s 0]
  refine w_if_ne 447 dL_law_404 rfl rfl (fun q => absurd rfl q) (fun _ => ?_)
  refine w_aload_n 8 dL_law_407 rfl rfl rfl ?_
  refine w_iconst (nI 3) dL_law_408 rfl rfl ?_
  refine w_iload 1 dL_law_409 rfl rfl ?_
  refine w_iconst (nI 2) dL_law_411 rfl rfl ?_
  refine c_L_98 (b := A 11 0 0) (As := [.int (nI 3), .int (nI r), .int (nI 2)]) (rest := []) (fun l => s_X11_cell hz3 (show fX11_cell (nI 3) (nI r) (nI 2) _ = some (.ok (lN ((kR X).2 r).2.2.1), _) from c2) l) hrm dL_law_412 rfl rfl (by decide) (by omega) (by omega) (hz3.o11 rfl) rfl (Nat.le_of_ble_eq_true rfl) (fun vr h4 hq => ?_) (fun _ _ hq => ?_)
  rotate_left; · exact absurd hq.1 (by intro q9; cases q9)
  obtain ⟨w9, hw9, rfl, hz4⟩ := hq; cases hw9
  refine w_lconst 1 dL_law_415 rfl rfl ?_
  refine w_lcmp dL_law_416 rfl ?_
  refine w_if_lt 447 dL_law_417 rfl rfl (fun q => absurd (l_cmplt.mp q) (fun w8 => absurd ((lN_lt (b := 1) (by omega) (by decide)).mp w8) (by omega))) (fun _ => ?_)
  have fin : ∀ (h9 : Hp) (kc9 ks9 : Nat), Rp A h9 σ ρ → kc9 ≤ kc + 16 → ks9 ≤ ks + 90 → wp x mLaw 449 [(12, .long (lN (((kR X).2 r).2.1 - n))), (11, .int (nI r)), (9, .long many), (7, .long all), (5, .long sm), (4, .int (nI 40)), (3, .int (nI lim)), (2, .int (nI n)), (1, .ref (A 11 0 0)), (0, .ref b)] [] h9 kc9 ks9 := by
    intro h9 kc9 ks9 hz9 hk1 hk2
    refine w_lload 2 dL_law_449 rfl rfl ?_
    refine w_aload_n 8 dL_law_451 rfl rfl rfl ?_
    refine w_iconst (nI 3) dL_law_452 rfl rfl ?_
    refine w_iload 1 dL_law_453 rfl rfl ?_
    refine w_iconst (nI 2) dL_law_455 rfl rfl ?_
    refine c_L_98 (b := A 11 0 0) (As := [.int (nI 3), .int (nI r), .int (nI 2)]) (rest := [.long many]) (fun l => s_X11_cell hz9 (show fX11_cell (nI 3) (nI r) (nI 2) _ = some (.ok (lN ((kR X).2 r).2.2.1), _) from c2) l) hrm dL_law_456 rfl rfl (by decide) (by omega) (by omega) (hz9.o11 rfl) rfl (Nat.le_of_ble_eq_true rfl) (fun vr h21 hq => ?_) (fun _ _ hq => ?_)
    rotate_left; · exact absurd hq.1 (by intro q9; cases q9)
    obtain ⟨w9, hw9, rfl, hz21⟩ := hq; cases hw9
    refine w_ladd dL_law_459 rfl ?_
    refine w_lstore [(9, .long (many + (lN ((kR X).2 r).2.2.1))), (12, .long (lN (((kR X).2 r).2.1 - n))), (11, .int (nI r)), (7, .long all), (5, .long sm), (4, .int (nI 40)), (3, .int (nI lim)), (2, .int (nI n)), (1, .ref (A 11 0 0)), (0, .ref b)] dL_law_460 rfl (by decide) rfl ?_
    refine w_lload 3 dL_law_462 rfl rfl ?_
    refine w_aload_n 8 dL_law_464 rfl rfl rfl ?_
    refine w_iconst (nI 3) dL_law_465 rfl rfl ?_
    refine w_iload 2 dL_law_466 rfl rfl ?_
    refine w_iconst (nI 3) dL_law_468 rfl rfl ?_
    refine c_L_98 (b := A 11 0 0) (As := [.int (nI 3), .int (nI r), .int (nI 3)]) (rest := [.long all]) (fun l => s_X11_cell hz21 (show fX11_cell (nI 3) (nI r) (nI 3) _ = some (.ok ((kR X).2 r).2.2.2, _) from c3) l) hrm dL_law_469 rfl rfl (by decide) (by omega) (by omega) (hz21.o11 rfl) rfl (Nat.le_of_ble_eq_true rfl) (fun vr h22 hq => ?_) (fun _ _ hq => ?_)
    rotate_left; · exact absurd hq.1 (by intro q9; cases q9)
    obtain ⟨w9, hw9, rfl, hz22⟩ := hq; cases hw9
    refine w_ladd dL_law_472 rfl ?_
    refine w_lstore [(7, .long (all + (((kR X).2 r).2.2.2))), (9, .long (many + (lN ((kR X).2 r).2.2.1))), (12, .long (lN (((kR X).2 r).2.1 - n))), (11, .int (nI r)), (5, .long sm), (4, .int (nI 40)), (3, .int (nI lim)), (2, .int (nI n)), (1, .ref (A 11 0 0)), (0, .ref b)] dL_law_473 rfl (by decide) rfl ?_
    refine w_iinc 3 (nI (r + 1)) [(11, .int (nI (r + 1))), (7, .long (all + (((kR X).2 r).2.2.2))), (9, .long (many + (lN ((kR X).2 r).2.2.1))), (12, .long (lN (((kR X).2 r).2.1 - n))), (5, .long sm), (4, .int (nI 40)), (3, .int (nI lim)), (2, .int (nI n)), (1, .ref (A 11 0 0)), (0, .ref b)] dL_law_475 rfl rfl (nI_1 r) (by decide) rfl ?_
    refine w_goto 360 dL_law_478 rfl ?_
    refine w_lv _ [0, 2, 1, 4, 5, 6, 7, 8, 9] rfl ?_
    exact w_widen (by omega) (by omega) (k _ hz22)
  refine w_iload 1 dL_law_420 rfl rfl ?_
  refine w_if_le 449 dL_law_422 rfl rfl (fun _ => fin _ _ _ hz4 (by omega) (by omega)) (fun q0 => ?_)
  have hr1 : 1 ≤ r := by
    rcases Nat.lt_or_ge 0 r with w8 | w8
    · exact w8
    · exact absurd ((n_le (b := 0) (by omega) (by decide)).mpr w8) q0
  have cp := tim_C (s := 3) (r := r - 1) hd (by decide) ht hRb (by omega) (by decide)
  have ha1 := ha (r - 1) (by omega)
  rw [Nat.sub_add_cancel hr1] at ha1
  have e2 : (nI ((kR X).2 (r - 1)).2.1).toInt64 = lN ((kR X).2 (r - 1)).2.1 := nI_l (by omega)
  refine w_aload_n 8 dL_law_425 rfl rfl rfl ?_
  refine w_iconst (nI 3) dL_law_426 rfl rfl ?_
  refine w_iload 1 dL_law_427 rfl rfl ?_
  refine w_iconst (-1) dL_law_429 rfl rfl ?_
  refine c_L_98 (b := A 11 0 0) (As := [.int (nI 3), .int (nI r), .int (-1)]) (rest := []) (fun l => s_X11_cell hz4 (cm) l) hrm dL_law_430 rfl rfl (by decide) (by omega) (by omega) (hz4.o11 rfl) rfl (Nat.le_of_ble_eq_true rfl) (fun vr h5 hq => ?_) (fun _ _ hq => ?_)
  rotate_left; · exact absurd hq.1 (by intro q9; cases q9)
  obtain ⟨w9, hw9, rfl, hz5⟩ := hq; cases hw9
  refine w_aload_n 8 dL_law_433 rfl rfl rfl ?_
  refine w_iconst (nI 3) dL_law_434 rfl rfl ?_
  refine w_iload 1 dL_law_435 rfl rfl ?_
  refine w_iconst (nI 1) dL_law_437 rfl rfl ?_
  refine w_isub dL_law_438 rfl ?_
  rw [n_sub hr1]
  refine w_iconst (-1) dL_law_439 rfl rfl ?_
  refine c_L_98 (b := A 11 0 0) (As := [.int (nI 3), .int (nI (r - 1)), .int (-1)]) (rest := [.long ((nI ((kR X).2 r).2.1).toInt64)]) (fun l => s_X11_cell hz5 (cp) l) hrm dL_law_440 rfl rfl (by decide) (by omega) (by omega) (hz5.o11 rfl) rfl (Nat.le_of_ble_eq_true rfl) (fun vr h6 hq => ?_) (fun _ _ hq => ?_)
  rotate_left; · exact absurd hq.1 (by intro q9; cases q9)
  obtain ⟨w9, hw9, rfl, hz6⟩ := hq; cases hw9
  rw [e1, e2]
  refine w_lcmp dL_law_443 rfl ?_
  refine w_if_ge 449 dL_law_444 rfl rfl (fun _ => fin _ _ _ hz6 (by omega) (by omega)) (fun q9 => absurd (l_cmpge.mpr ((lN_le (by omega) (by omega)).mpr ha1)) q9)
end LO2
