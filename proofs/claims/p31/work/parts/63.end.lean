/-! ALL ROWS OF w, HELD ROWS, THE END -/
def lvH (b d n lim hh late : Nat) (sm all many : Int64) : List (Nat × Value) := [(12, .int (nI hh)), (11, .int (nI late)), (9, .long many), (7, .long all), (5, .long sm), (4, .int (nI 40)), (3, .int (nI lim)), (2, .int (nI n)), (1, .ref d), (0, .ref b)]
section LEN
variable {x : Cxt} {b N lim n Mc Ms kc ks : Nat} {xs : Nat → Int32} {A : Nat → Nat → Nat → Nat} {h : Hp} {σ ρ : Zs} {X : Dk} {f : Nat → Rw}
theorem lw_rows {k0 : Nat} {sm : Int64} (hRb : (kR X).1 ≤ 200) (hrm : m_rm 20 Mc Ms x) (hS : St lim n X k0 f σ) (hn : 0 < n) (hn2 : n ≤ 20) (hP : ∀ i, i < (kR X).1 → Pw n 2000 100 ((kR X).2 i)) (ha : ∀ i, i + 1 < (kR X).1 → ((kR X).2 i).2.1 ≤ ((kR X).2 (i + 1)).2.1) : ∀ (m r kc ks : Nat) (h : Hp), r + m = (kR X).1 → Rp A h σ ρ → kc + 20 * m + 60 ≤ Mc → ks + 120 * m + 300 ≤ Ms → (∀ h', Rp A h' σ ρ → wp x mLaw 487 (lvH b (A 11 0 0) n lim 0 0 sm (sg (kR X).1 (fun i => ((kR X).2 i).2.2.2)) (sg (kR X).1 (fun i => lN ((kR X).2 i).2.2.1))) [] h' (kc + 20 * m + 1) (ks + 120 * m + 6)) → wp x mLaw 360 (lvR b (A 11 0 0) n lim r sm (sg r (fun i => ((kR X).2 i).2.2.2)) (sg r (fun i => lN ((kR X).2 i).2.2.1))) [] h kc ks := by
  intro m
  induction m with
  | zero =>
    intro r kc ks h hr hz h1 h2 k
    obtain rfl : r = (kR X).1 := by omega
    unfold lvR
    refine w_iload 0 dL_law_360 rfl rfl ?_
    refine w_aload_n 7 dL_law_362 rfl rfl rfl ?_
    refine w_iconst (nI 3) dL_law_363 rfl rfl ?_
    refine c_L_81 (b := A 11 0 0) (As := [.int (nI 3)]) (rest := [.int (nI (kR X).1)]) (fun l => s_X11_rows hz (show fX11_rows (nI 3) _ = _ from rows_C (s := 3) hS.1.1 (by decide) hS.1.2.2.1.2.2.2) l) hrm dL_law_364 rfl rfl (by decide) (by omega) (by omega) (hz.o11 rfl) rfl (Nat.le_of_ble_eq_true rfl) (fun vr h1 hq => ?_) (fun _ _ hq => ?_)
    rotate_left; · exact absurd hq.1 (by intro q9; cases q9)
    obtain ⟨w9, hw9, rfl, hz1⟩ := hq; cases hw9
    refine w_icmp_ge 481 dL_law_367 rfl rfl (fun _ => ?_) (fun q9 => absurd ((n_le (by omega) (by omega)).mpr (Nat.le_refl _)) q9)
    refine w_iconst (nI 0) dL_law_481 rfl rfl ?_
    refine w_istore [(11, .int (nI 0)), (9, .long (sg (kR X).1 (fun i => lN ((kR X).2 i).2.2.1))), (7, .long (sg (kR X).1 (fun i => ((kR X).2 i).2.2.2))), (5, .long sm), (4, .int (nI 40)), (3, .int (nI lim)), (2, .int (nI n)), (1, .ref (A 11 0 0)), (0, .ref b)] dL_law_482 rfl (by decide) rfl ?_
    refine w_iconst (nI 0) dL_law_484 rfl rfl ?_
    refine w_istore [(12, .int (nI 0)), (11, .int (nI 0)), (9, .long (sg (kR X).1 (fun i => lN ((kR X).2 i).2.2.1))), (7, .long (sg (kR X).1 (fun i => ((kR X).2 i).2.2.2))), (5, .long sm), (4, .int (nI 40)), (3, .int (nI lim)), (2, .int (nI n)), (1, .ref (A 11 0 0)), (0, .ref b)] dL_law_485 rfl (by decide) rfl ?_
    exact w_widen (by omega) (by omega) (k _ hz1)
  | succ m ih =>
    intro r kc ks h hr hz h1 h2 k
    refine lw_row (by omega) hRb hrm hz hS hn hn2 hP ha (by omega) (by omega) (fun h' hz' => ?_)
    exact ih (r + 1) (kc + 20) (ks + 120) h' (by omega) hz' (by omega) (by omega) (fun h9 hz9 => w_widen (by omega) (by omega) (k h9 hz9))
def lat (p : Nat × (Nat → Bool × Rw)) (i : Nat) : Int64 := if (p.2 i).1 then (p.2 i).2.2.2 else 0
theorem lw_held {k0 hh late : Nat} {sm all many : Int64} (hh1 : hh < (kH X).1) (hH : (kH X).1 ≤ 60) (hl : late ≤ hh) (hrm : m_rm 20 Mc Ms x) (hz : Rp A h σ ρ) (hS : St lim n X k0 f σ) (h1 : kc + 40 ≤ Mc) (h2 : ks + 300 ≤ Ms) (k : ∀ h', Rp A h' σ ρ → wp x mLaw 487 (lvH b (A 11 0 0) n lim (hh + 1) (late + (if ((kH X).2 hh).1 then 1 else 0)) sm (all + lat (kH X) hh) many) [] h' (kc + 12) (ks + 80)) : wp x mLaw 487 (lvH b (A 11 0 0) n lim hh late sm all many) [] h kc ks := by
  have q1 := held1_C hS hh1 hH
  have q0 := held0_C hS hh1 hH
  have qv := hv_C hS hh1 hH
  unfold lat at k
  unfold lvH
  refine w_iload 0 dL_law_487 rfl rfl ?_
  refine w_aload_n 8 dL_law_489 rfl rfl rfl ?_
  refine w_iconst (nI 5) dL_law_490 rfl rfl ?_
  refine c_L_84 (b := A 11 0 0) (As := [.int (nI 5)]) (rest := [.int (nI hh)]) (fun l => s_X11_count hz (show fX11_count (nI 5) _ = _ from cnt5_C hS) l) hrm dL_law_491 rfl rfl (by decide) (by omega) (by omega) (hz.o11 rfl) rfl (Nat.le_of_ble_eq_true rfl) (fun vr h1 hq => ?_) (fun _ _ hq => ?_)
  rotate_left; · exact absurd hq.1 (by intro q9; cases q9)
  obtain ⟨w9, hw9, rfl, hz1⟩ := hq; cases hw9
  refine w_icmp_ge 556 dL_law_494 rfl rfl (fun q9 => absurd ((n_le (by omega) (by omega)).mp q9) (by omega)) (fun _ => ?_)
  cases hb : ((kH X).2 hh).1 with
  | false =>
    rw [hb, if_neg (by decide)] at q1
    rw [hb, if_neg (by decide), if_neg (by decide), Int64.add_zero] at k
    refine w_aload_n 8 dL_law_497 rfl rfl rfl ?_
    refine w_iload 0 dL_law_498 rfl rfl ?_
    refine w_iconst (nI 1) dL_law_500 rfl rfl ?_
    refine c_L_101 (b := A 11 0 0) (As := [.int (nI hh), .int (nI 1)]) (rest := []) (fun l => s_X11_held hz1 (show fX11_held (nI hh) (nI 1) _ = _ from q1) l) hrm dL_law_501 rfl rfl (by decide) (by omega) (by omega) (hz1.o11 rfl) rfl (Nat.le_of_ble_eq_true rfl) (fun vr h2 hq => ?_) (fun _ _ hq => ?_)
    rotate_left; · exact absurd hq.1 (by intro q9; cases q9)
    obtain ⟨w9, hw9, rfl, hz2⟩ := hq; cases hw9
    refine w_iconst (nI 1) dL_law_504 rfl rfl ?_
    refine w_icmp_ne 511 dL_law_505 rfl rfl (fun q => absurd rfl q) (fun _ => ?_)
    refine w_goto 550 dL_law_508 rfl ?_
    refine w_iinc 0 (nI (hh + 1)) [(12, .int (nI (hh + 1))), (11, .int (nI late)), (9, .long many), (7, .long all), (5, .long sm), (4, .int (nI 40)), (3, .int (nI lim)), (2, .int (nI n)), (1, .ref (A 11 0 0)), (0, .ref b)] dL_law_550 rfl rfl (nI_1 hh) (by decide) rfl ?_
    refine w_goto 487 dL_law_553 rfl ?_
    refine w_lv _ [0, 1, 2, 3, 4, 5, 6, 7, 8, 9] rfl ?_
    exact w_widen (by omega) (by omega) (k _ hz2)
  | true =>
    rw [hb, if_pos rfl] at q1 q0
    rw [hb, if_pos rfl, if_pos rfl] at k
    refine w_aload_n 8 dL_law_497 rfl rfl rfl ?_
    refine w_iload 0 dL_law_498 rfl rfl ?_
    refine w_iconst (nI 1) dL_law_500 rfl rfl ?_
    refine c_L_101 (b := A 11 0 0) (As := [.int (nI hh), .int (nI 1)]) (rest := []) (fun l => s_X11_held hz1 (show fX11_held (nI hh) (nI 1) _ = _ from q1) l) hrm dL_law_501 rfl rfl (by decide) (by omega) (by omega) (hz1.o11 rfl) rfl (Nat.le_of_ble_eq_true rfl) (fun vr h2 hq => ?_) (fun _ _ hq => ?_)
    rotate_left; · exact absurd hq.1 (by intro q9; cases q9)
    obtain ⟨w9, hw9, rfl, hz2⟩ := hq; cases hw9
    refine w_iconst (nI 1) dL_law_504 rfl rfl ?_
    refine w_icmp_ne 511 dL_law_505 rfl rfl (fun _ => ?_) (fun q => absurd q (by decide))
    refine w_aload_n 8 dL_law_511 rfl rfl rfl ?_
    refine w_iload 0 dL_law_512 rfl rfl ?_
    refine w_iconst (nI 0) dL_law_514 rfl rfl ?_
    refine c_L_101 (b := A 11 0 0) (As := [.int (nI hh), .int (nI 0)]) (rest := []) (fun l => s_X11_held hz2 (show fX11_held (nI hh) (nI 0) _ = _ from q0) l) hrm dL_law_515 rfl rfl (by decide) (by omega) (by omega) (hz2.o11 rfl) rfl (Nat.le_of_ble_eq_true rfl) (fun vr h3 hq => ?_) (fun _ _ hq => ?_)
    rotate_left; · exact absurd hq.1 (by intro q9; cases q9)
    obtain ⟨w9, hw9, rfl, hz3⟩ := hq; cases hw9
    refine w_iconst (nI 3) dL_law_518 rfl rfl ?_
    refine w_icmp_ne 533 dL_law_519 rfl rfl (fun q => absurd rfl q) (fun _ => ?_)
    refine w_aload_n 8 dL_law_522 rfl rfl rfl ?_
    refine w_iload 0 dL_law_523 rfl rfl ?_
    refine w_iconst (nI 1) dL_law_525 rfl rfl ?_
    refine c_L_101 (b := A 11 0 0) (As := [.int (nI hh), .int (nI 1)]) (rest := []) (fun l => s_X11_held hz3 (show fX11_held (nI hh) (nI 1) _ = _ from q1) l) hrm dL_law_526 rfl rfl (by decide) (by omega) (by omega) (hz3.o11 rfl) rfl (Nat.le_of_ble_eq_true rfl) (fun vr h4 hq => ?_) (fun _ _ hq => ?_)
    rotate_left; · exact absurd hq.1 (by intro q9; cases q9)
    obtain ⟨w9, hw9, rfl, hz4⟩ := hq; cases hw9
    refine w_iconst (-1) dL_law_529 rfl rfl ?_
    refine w_icmp_eq 535 dL_law_530 rfl rfl (fun _ => ?_) (fun q => absurd rfl q)
    refine w_iinc 1 (nI (late + 1)) [(11, .int (nI (late + 1))), (12, .int (nI hh)), (9, .long many), (7, .long all), (5, .long sm), (4, .int (nI 40)), (3, .int (nI lim)), (2, .int (nI n)), (1, .ref (A 11 0 0)), (0, .ref b)] dL_law_535 rfl rfl (nI_1 late) (by decide) rfl ?_
    refine w_lload 3 dL_law_538 rfl rfl ?_
    refine w_aload_n 8 dL_law_540 rfl rfl rfl ?_
    refine w_iload 1 dL_law_541 rfl rfl ?_
    refine w_iconst (nI 1) dL_law_543 rfl rfl ?_
    refine c_L_104 (b := A 11 0 0) (As := [.int (nI hh), .int (nI 1)]) (rest := [.long all]) (fun l => s_X11_heldValue hz4 (show fX11_heldValue (nI hh) (nI 1) _ = _ from qv) l) hrm dL_law_544 rfl rfl (by decide) (by omega) (by omega) (hz4.o11 rfl) rfl (Nat.le_of_ble_eq_true rfl) (fun vr h5 hq => ?_) (fun _ _ hq => ?_)
    rotate_left; · exact absurd hq.1 (by intro q9; cases q9)
    obtain ⟨w9, hw9, rfl, hz5⟩ := hq; cases hw9
    refine w_ladd dL_law_547 rfl ?_
    refine w_lstore [(7, .long (all + (((kH X).2 hh).2.2.2))), (11, .int (nI (late + 1))), (12, .int (nI hh)), (9, .long many), (5, .long sm), (4, .int (nI 40)), (3, .int (nI lim)), (2, .int (nI n)), (1, .ref (A 11 0 0)), (0, .ref b)] dL_law_548 rfl (by decide) rfl ?_
    refine w_iinc 2 (nI (hh + 1)) [(12, .int (nI (hh + 1))), (7, .long (all + (((kH X).2 hh).2.2.2))), (11, .int (nI (late + 1))), (9, .long many), (5, .long sm), (4, .int (nI 40)), (3, .int (nI lim)), (2, .int (nI n)), (1, .ref (A 11 0 0)), (0, .ref b)] dL_law_550 rfl rfl (nI_1 hh) (by decide) rfl ?_
    refine w_goto 487 dL_law_553 rfl ?_
    refine w_lv _ [0, 2, 3, 1, 4, 5, 6, 7, 8, 9] rfl ?_
    exact w_widen (by omega) (by omega) (k _ hz5)
theorem lw_helds {k0 : Nat} {sm many : Int64} {a0 : Int64} (hH : (kH X).1 ≤ 60) (hrm : m_rm 20 Mc Ms x) (hS : St lim n X k0 f σ) : ∀ (m hh kc ks : Nat) (h : Hp), hh + m = (kH X).1 → Rp A h σ ρ → kc + 12 * m + 60 ≤ Mc → ks + 80 * m + 300 ≤ Ms → (∀ h', Rp A h' σ ρ → wp x mLaw 556 (lvH b (A 11 0 0) n lim (kH X).1 (ltc (kH X) (kH X).1) sm (a0 + sg (kH X).1 (lat (kH X))) many) [] h' (kc + 12 * m + 1) (ks + 80 * m + 6)) → wp x mLaw 487 (lvH b (A 11 0 0) n lim hh (ltc (kH X) hh) sm (a0 + sg hh (lat (kH X))) many) [] h kc ks := by
  intro m
  induction m with
  | zero =>
    intro hh kc ks h hr hz h1 h2 k
    obtain rfl : hh = (kH X).1 := by omega
    unfold lvH at k ⊢
    refine w_iload 0 dL_law_487 rfl rfl ?_
    refine w_aload_n 8 dL_law_489 rfl rfl rfl ?_
    refine w_iconst (nI 5) dL_law_490 rfl rfl ?_
    refine c_L_84 (b := A 11 0 0) (As := [.int (nI 5)]) (rest := [.int (nI (kH X).1)]) (fun l => s_X11_count hz (show fX11_count (nI 5) _ = _ from cnt5_C hS) l) hrm dL_law_491 rfl rfl (by decide) (by omega) (by omega) (hz.o11 rfl) rfl (Nat.le_of_ble_eq_true rfl) (fun vr h1 hq => ?_) (fun _ _ hq => ?_)
    rotate_left; · exact absurd hq.1 (by intro q9; cases q9)
    obtain ⟨w9, hw9, rfl, hz1⟩ := hq; cases hw9
    refine w_icmp_ge 556 dL_law_494 rfl rfl (fun _ => ?_) (fun q9 => absurd ((n_le (by omega) (by omega)).mpr (Nat.le_refl _)) q9)
    exact w_widen (by omega) (by omega) (k _ hz1)
  | succ m ih =>
    intro hh kc ks h hr hz h1 h2 k
    refine lw_held (by omega) hH (ltc_le hh) hrm hz hS (by omega) (by omega) (fun h' hz' => ?_)
    rw [Int64.add_assoc]
    exact ih (hh + 1) (kc + 12) (ks + 80) h' (by omega) hz' (by omega) (by omega) (fun h9 hz9 => w_widen (by omega) (by omega) (k h9 hz9))
theorem lw_end {late S0 hq0 : Nat} {sm many : Int64} (hrm : m_rm 20 Mc Ms x) (hz : Rp A h σ ρ) (hS : St lim n (runD lim n f 41) 41 f σ) (hX : runD lim n f 41 = X) (hI : Iv n 2000 41 X) (hm : many + lN late = lN S0) (hl : late < 1000) (hS0 : (kS X).1 = S0 + 1) (hW : (kW X).1 = 1) (hr : ∀ j, j < 41 → Rm n (runD lim n f j)) (ht : ∀ j, j < 41 → (f j).1 ≤ 1000) (hn : 0 < n) (hn2 : n ≤ 20) (h1 : kc + 40 ≤ Mc) (h2 : ks + 300 ≤ Ms) (k : ∀ (h' : Hp) (lv : List (Nat × Value)), wp x mLaw 653 lv [.int 1] h' (kc + 10) (ks + 60)) : wp x mLaw 556 (lvH b (A 11 0 0) n lim hq0 late sm sm many) [] h kc ks := by
  obtain ⟨σ2, r1, r2⟩ := rep_C hS (by decide) hr ht hn (by omega)
  rw [hX] at hS r2
  obtain ⟨a1, a2, a3, a4, a5, a6⟩ := hI.1
  have d1 := dig_C hS (by omega) (by omega) (by omega) (by omega) (by omega)
  have d2 := dig_C r2 (by omega) (by omega) (by omega) (by omega) (by omega)
  have tk := tak_C hS (by omega) (by omega)
  have w0 := win_C hS (by omega) (nI 0)
  have w1 := win_C hS (by omega) (nI 1)
  rw [if_pos (show nI 0 = (0 : Int32) from rfl), hW] at w0
  rw [if_neg (by decide)] at w1
  have el : (nI late).toInt64 = lN late := nI_l (by omega)
  have es : (nI S0).toInt64 = lN S0 := nI_l (by omega)
  rw [a2] at tk
  unfold lvH
  refine w_lload 3 dL_law_556 rfl rfl ?_
  refine w_lload 4 dL_law_558 rfl rfl ?_
  refine w_lcmp dL_law_560 rfl ?_
  rw [lg_s]
  refine w_if_ne 601 dL_law_561 rfl rfl (fun q => absurd rfl q) (fun _ => ?_)
  refine w_lload 2 dL_law_564 rfl rfl ?_
  refine w_iload 1 dL_law_566 rfl rfl ?_
  refine w_i2l dL_law_568 rfl ?_
  rw [el]
  refine w_ladd dL_law_569 rfl ?_
  rw [hm]
  refine w_aload_n 8 dL_law_570 rfl rfl rfl ?_
  refine w_iconst (nI 0) dL_law_571 rfl rfl ?_
  refine c_L_81 (b := A 11 0 0) (As := [.int (nI 0)]) (rest := [.long (lN S0)]) (fun l => s_X11_rows hz (show fX11_rows (nI 0) _ = _ from rows_C (s := 0) hS.1.1 (by decide) hS.1.2.2.1.1) l) hrm dL_law_572 rfl rfl (by decide) (by omega) (by omega) (hz.o11 rfl) rfl (Nat.le_of_ble_eq_true rfl) (fun vr h1 hq => ?_) (fun _ _ hq => ?_)
  rotate_left; · exact absurd hq.1 (by intro q9; cases q9)
  obtain ⟨w9, hw9, rfl, hz1⟩ := hq; cases hw9
  refine w_iconst (nI 1) dL_law_575 rfl rfl ?_
  refine w_isub dL_law_576 rfl ?_
  rw [hS0, n_sub (by omega), Nat.add_sub_cancel]
  refine w_i2l dL_law_577 rfl ?_
  rw [es]
  refine w_lcmp dL_law_578 rfl ?_
  rw [lg_s]
  refine w_if_ne 601 dL_law_579 rfl rfl (fun q => absurd rfl q) (fun _ => ?_)
  refine w_aload_n 8 dL_law_582 rfl rfl rfl ?_
  refine w_iconst (nI 3) dL_law_583 rfl rfl ?_
  refine w_iconst (nI 0) dL_law_584 rfl rfl ?_
  refine c_L_108 (b := A 11 0 0) (As := [.int (nI 3), .int (nI 0)]) (rest := []) (fun l => s_X11_windows hz1 (show fX11_windows (nI 3) (nI 0) _ = _ from w0) l) hrm dL_law_585 rfl rfl (by decide) (by omega) (by omega) (hz1.o11 rfl) rfl (Nat.le_of_ble_eq_true rfl) (fun vr h2 hq => ?_) (fun _ _ hq => ?_)
  rotate_left; · exact absurd hq.1 (by intro q9; cases q9)
  obtain ⟨w9, hw9, rfl, hz2⟩ := hq; cases hw9
  refine w_iconst (nI 1) dL_law_588 rfl rfl ?_
  refine w_icmp_ne 601 dL_law_589 rfl rfl (fun q => absurd rfl q) (fun _ => ?_)
  refine w_aload_n 8 dL_law_592 rfl rfl rfl ?_
  refine w_iconst (nI 3) dL_law_593 rfl rfl ?_
  refine w_iconst (nI 1) dL_law_594 rfl rfl ?_
  refine c_L_108 (b := A 11 0 0) (As := [.int (nI 3), .int (nI 1)]) (rest := []) (fun l => s_X11_windows hz2 (show fX11_windows (nI 3) (nI 1) _ = _ from w1) l) hrm dL_law_595 rfl rfl (by decide) (by omega) (by omega) (hz2.o11 rfl) rfl (Nat.le_of_ble_eq_true rfl) (fun vr h3 hq => ?_) (fun _ _ hq => ?_)
  rotate_left; · exact absurd hq.1 (by intro q9; cases q9)
  obtain ⟨w9, hw9, rfl, hz3⟩ := hq; cases hw9
  refine w_if_eq 603 dL_law_598 rfl rfl (fun _ => ?_) (fun q => absurd rfl q)
  refine w_aload_n 8 dL_law_603 rfl rfl rfl ?_
  refine c_L_112 (b := A 11 0 0) (As := []) (rest := []) (fun l => s_X11_taken hz3 (tk) l) hrm dL_law_604 rfl rfl (by decide) (by omega) (by omega) (hz3.o11 rfl) rfl (Nat.le_of_ble_eq_true rfl) (fun vr h4 hq => ?_) (fun _ _ hq => ?_)
  rotate_left; · exact hq.elim
  obtain ⟨rfl, hz4⟩ := hq
  refine w_aload_n 8 dL_law_607 rfl rfl rfl ?_
  refine w_iconst (nI 0) dL_law_608 rfl rfl ?_
  refine c_L_81 (b := A 11 0 0) (As := [.int (nI 0)]) (rest := [.double (FP.ddiv (FP.i2d (nI (kS X).1)) (FP.i2d (nI 41)))]) (fun l => s_X11_rows hz4 (show fX11_rows (nI 0) _ = _ from rows_C (s := 0) hS.1.1 (by decide) hS.1.2.2.1.1) l) hrm dL_law_609 rfl rfl (by decide) (by omega) (by omega) (hz4.o11 rfl) rfl (Nat.le_of_ble_eq_true rfl) (fun vr h5 hq => ?_) (fun _ _ hq => ?_)
  rotate_left; · exact absurd hq.1 (by intro q9; cases q9)
  obtain ⟨w9, hw9, rfl, hz5⟩ := hq; cases hw9
  refine w_i2d dL_law_612 rfl ?_
  refine w_iload 5 dL_law_613 rfl rfl ?_
  refine w_iconst (nI 1) dL_law_615 rfl rfl ?_
  refine w_iadd dL_law_616 rfl ?_
  rw [n_add]
  refine w_i2d dL_law_617 rfl ?_
  refine w_ddiv dL_law_618 rfl (n64_q (by decide)) ?_
  refine w_dcmp dL_law_619 rfl ?_
  rw [dc_self (n64_q (by decide))]
  refine w_if_eq 625 dL_law_620 rfl rfl (fun _ => ?_) (fun q => absurd rfl q)
  refine w_aload_n 8 dL_law_625 rfl rfl rfl ?_
  refine c_L_116 (b := A 11 0 0) (As := []) (rest := []) (fun l => t_X11_digest hz5 (d1) l) hrm dL_law_626 rfl rfl (by decide) (by omega) (by omega) (hz5.o11 rfl) rfl (Nat.le_of_ble_eq_true rfl) (fun vr h6 hq => ?_) (fun _ _ hq => ?_)
  rotate_left; · exact hq.elim
  obtain ⟨rfl, hz6⟩ := hq
  refine w_lstore [(12, .long (dig n X 41)), (11, .int (nI late)), (9, .long many), (7, .long sm), (5, .long sm), (4, .int (nI 40)), (3, .int (nI lim)), (2, .int (nI n)), (1, .ref (A 11 0 0)), (0, .ref b)] dL_law_629 rfl (by decide) rfl ?_
  refine w_aload_n 8 dL_law_631 rfl rfl rfl ?_
  refine c_L_120 (b := A 11 0 0) (As := []) (rest := []) (fun l => s_X11_replay hz6 (r1) l) hrm dL_law_632 rfl rfl (by decide) (by omega) (by omega) (hz6.o11 rfl) rfl (Nat.le_of_ble_eq_true rfl) (fun vr h7 hq => ?_) (fun _ _ hq => ?_)
  rotate_left; · exact absurd hq.1 (by intro q9; cases q9)
  obtain ⟨w9, hw9, rfl, hz7⟩ := hq; cases hw9
  refine w_if_ne 652 dL_law_635 rfl rfl (fun q => absurd rfl q) (fun _ => ?_)
  refine w_aload_n 8 dL_law_638 rfl rfl rfl ?_
  refine c_L_116 (b := A 11 0 0) (As := []) (rest := []) (fun l => t_X11_digest hz7 (d2) l) hrm dL_law_639 rfl rfl (by decide) (by omega) (by omega) (hz7.o11 rfl) rfl (Nat.le_of_ble_eq_true rfl) (fun vr h8 hq => ?_) (fun _ _ hq => ?_)
  rotate_left; · exact hq.elim
  obtain ⟨rfl, hz8⟩ := hq
  refine w_lload 0 dL_law_642 rfl rfl ?_
  refine w_lcmp dL_law_644 rfl ?_
  rw [lg_s]
  refine w_if_ne 652 dL_law_645 rfl rfl (fun q => absurd rfl q) (fun _ => ?_)
  refine w_iconst (nI 1) dL_law_648 rfl rfl ?_
  refine w_goto 653 dL_law_649 rfl ?_
  exact w_widen (by omega) (by omega) (k _ _)
end LEN
