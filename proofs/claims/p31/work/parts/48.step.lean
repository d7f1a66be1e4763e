/-! A PUSH AND ALL STEPS -/
theorem wmI_i {k : Nat} (hk : k < 1073741824) : (wmI k).toInt = (k : Int) - 1 := by
  rw [wm_add]
  cases k with
  | zero => rfl
  | succ k => rw [n_p1 (by omega), nI_toInt (by omega)]; omega
theorem pmax_i (a b : Int32) : (p_max a b).toInt = max a.toInt b.toInt := by
  unfold p_max
  by_cases q : a < b
  · rw [if_pos q]
    rw [Int32.lt_iff_toInt_lt] at q
    omega
  · rw [if_neg q]
    rw [Int32.lt_iff_toInt_lt] at q
    omega
theorem wm_max {k t n : Nat} (hk : k < 1073741824) (ht : t < 1073741824 - 1) (hn : n < 1073741824) : p_max (wmI k) (nI t - nI n) = wmI (max k (t + 1 - n)) := by
  apply Int32.toInt_inj.mp
  rw [pmax_i, wmI_i hk, wmI_i (by omega), pk_sub_toInt (by omega) (by omega)]
  omega
/-- the source's mark, the count of pushes -/
def mrk (X : Dk) (r : Rw) : Dk := sM (sNk X (kN X + 1)) (max (kM X) (r.1 + 1 - 3))
def psh (X : Dk) (r : Rw) : Dk := if r.2.2 = 2 then s0k (mrk X r) (k0 X + 1) else if r.2.2 = 5 then sH (s1k (mrk X r) (k1 X + 1)) ((kH X).1 + 1, pushF (kH X).1 (kH X).2 (false, r)) else sS (mrk X r) ((kS X).1 + 1, pushF (kS X).1 (kS X).2 r)
def stp (lim n : Nat) (X : Dk) (r : Rw) : Dk := cls (kM (psh X r)) (if r.2.2 = 2 ∨ r.2.2 = 5 then psh X r else spW n (kM X) (spB lim (spA lim (psh X r) r) r) r)
section STP
variable {o z : Zs} {lim n e1 e2 e3 m1 m2 m3 k s : Nat} {X : Dk} {f : Nat → Rw}
theorem Dc.lg {g : Nat → Bool} (h : Dc o g lim n X e1 e2 e3 m1 m2 m3 z) (hl : Lg o k f) : Lg z k f := by
  have q := h.2.1.2
  exact hl.fr (q _ _ _ _ rfl).1 (fun _ => (q _ _ _ _ rfl).1) (fun _ => (q _ _ _ _ rfl).1) (fun _ _ => (q _ _ _ _ rfl).2) (fun _ => (q _ _ _ _ rfl).1) (fun _ => (q _ _ _ _ rfl).2)
theorem nam_C (h : Dx o lim n X e1 e2 e3 m1 m2 m3 z) : fX5_streamNamed 2 115 z = some (0, z) := by
  rw [name_C (N := 4) (by decide) h.1.i321_0_0]
  have e : nix (fun s => zJ z 448 2 s 0) 115 4 0 = nI 0 := if_pos h.1.j448_0_0
  rw [e]; rfl
theorem per_C (h : Dx o lim n X e1 e2 e3 m1 m2 m3 z) (hl : Lg o k f) (hs : s < k) (ht : (f s).1 < 1000000) (hM : kM X < 1000000) (hS : (kS X).1 < 200) (hH : (kH X).1 < 60) : ∃ x, fX1_perform s z = some (1, x) ∧ Dx o lim n (psh X (f s)) e1 e2 e3 m1 m2 m3 x ∧ zI x 70 0 0 0 = (if (f s).2.2 = 2 ∨ (f s).2.2 = 5 then 0 else 1) := by
  have h1 : Dx o lim n X e1 e2 e3 m1 m2 m3 (sI z 70 0 0 0 0) := h.s70
  obtain ⟨l1, l2⟩ := (h1.lg hl).2 s hs |>.imp id id
  obtain ⟨l2, l3⟩ := l2
  have h3 : Dx o lim n (mrk X (f s)) e1 e2 e3 m1 m2 m3 (sI (sI (sI z 70 0 0 0 0) 69 0 0 0 (nI (kN X + 1))) 461 2 0 0 (wmI (max (kM X) ((f s).1 + 1 - 3)))) := (h1.kN (m := kN X + 1)).w0 (m := max (kM X) ((f s).1 + 1 - 3))
  generalize hz3 : sI (sI (sI z 70 0 0 0 0) 69 0 0 0 (nI (kN X + 1))) 461 2 0 0 (wmI (max (kM X) ((f s).1 + 1 - 3))) = z3 at h3
  obtain ⟨t1, t2⟩ := (h3.lg hl).2 s hs |>.imp id id
  obtain ⟨t2, t3⟩ := t2
  have z70 : zI z3 70 0 0 0 = 0 := by rw [← hz3, sI_c (by decide), sI_c (by decide), zI_sI, if_pos ⟨rfl, rfl, rfl, rfl⟩]
  have hg : ∃ x, fX1_give 0 5 s z3 = some ((), x) ∧ Dx o lim n (psh X (f s)) e1 e2 e3 m1 m2 m3 x ∧ zI x 70 0 0 0 = (if (f s).2.2 = 2 ∨ (f s).2.2 = 5 then 0 else 1) := by
    unfold psh
    by_cases q2 : (f s).2.2 = 2
    · obtain ⟨y, y1, y2⟩ := give_2 (p2 := 5) (s2 := s) h3.1 (t3.2.2.2.trans q2)
      refine ⟨_, y2, ?_, ?_⟩
      · rw [if_pos q2, show zI z3 4 2 0 0 = nI (k0 X) from h3.2.2.2.2.2.2.2.1, i_1, n_add]
        exact (h3.ck y1).k0
      · rw [if_pos (Or.inl q2), sI_c (by decide), y1.I rfl, z70]
    · rw [if_neg q2]
      by_cases q5 : (f s).2.2 = 5
      · obtain ⟨y, y1, y2⟩ := give_5 (p2 := 5) (s2 := s) h3.1 (t3.2.2.2.trans q5) (by decide) hH h3.2.2.2.2.1.1
        have d1 := (h3.ck y1).k1 (m := k1 X + 1)
        have t4 : Rr (sI y 4 2 1 0 (nI (k1 X + 1))) 5 s (f s) := (t3.ot y1 rfl).ot (Ot.sI (cs := [(4, 2)]) rfl) rfl
        refine ⟨_, y2, ?_, ?_⟩
        · rw [if_pos q5, show zI z3 4 2 1 0 = nI (k1 X) from h3.2.2.2.2.2.2.2.2.1, i_1, n_add]
          exact d1.hold (b := false) (r := f s) rfl rfl t4.1 t4.2.1 t4.2.2.1 t4.2.2.2
        · rw [if_pos (Or.inr q5)]
          unfold holdC
          rw [sI_c (by decide), sI_c (by decide), sI_c (by decide), wR_c (by decide), sI_c (by decide), y1.I rfl, z70]
      · obtain ⟨y, y1, y2⟩ := give_n (p2 := 5) (s2 := s) h3.1 (fun e => q2 (t3.2.2.2.symm.trans e)) (fun e => q5 (t3.2.2.2.symm.trans e)) hS h3.2.2.1.1.1
        have t4 : Rr y 5 s (f s) := t3.ot y1 rfl
        refine ⟨_, y2, ?_, ?_⟩
        · rw [if_neg q5]
          exact ((h3.ck y1).tS t4.1 t4.2.2.1 t4.2.2.2).s70
        · rw [if_neg (fun e => e.elim q2 q5), zI_sI, if_pos ⟨rfl, rfl, rfl, rfl⟩, z70]; rfl
  obtain ⟨x, x1, x2, x3⟩ := hg
  refine ⟨x, ?_, x2, x3⟩
  have w0 : zI (sI z 70 0 0 0 0) 461 2 0 0 = wmI (kM X) := h1.2.2.2.2.2.1.1
  have w1 : zI (sI z 70 0 0 0 0) 69 0 0 0 = nI (kN X) := h1.2.2.2.2.2.2.2.2.2
  have w2 : zI (sI (sI z 70 0 0 0 0) 69 0 0 0 (nI (kN X + 1))) 461 2 (Int32.toNatClampNeg 0) 0 = wmI (kM X) := w0
  have w3 : zI (sI (sI z 70 0 0 0 0) 69 0 0 0 (nI (kN X + 1))) 384 5 s 0 = nI (f s).1 := l3.1
  have w4 : zI (sI (sI z 70 0 0 0 0) 69 0 0 0 (nI (kN X + 1))) 455 2 (Int32.toNatClampNeg 0) 0 = nI 3 := h1.1.i455_0_0
  have w5 : zI (sI z 70 0 0 0 0) 449 2 (Int32.toNatClampNeg 0) 0 = 0 := h1.1.i449_0_0
  have w6 : zI (sI z 70 0 0 0 0) 450 2 (Int32.toNatClampNeg 0) 0 = nI 2 := h1.1.i450_0_0
  unfold fX1_perform
  rw [lt_k, l1, if_pos rfl]
  unfold fX1_doPush
  rw [h1.1.r64, l2, bq_e (nam_C h1), h1.2.1.1.2.1, if_pos rfl, if_pos (by decide), if_pos (show gi 0 12 by decide), h1.1.r64, w5, if_pos rfl, w6, l3.2.1, if_pos rfl, w1, lt_k, i_1, n_add, w2, w3, w4, wm_max (by omega) (by omega) (by decide), show Int32.toNatClampNeg 0 = 0 from rfl, lt_k, hz3, bq_e x1, bq_s, if_pos (Or.inr rfl)]
end STP
