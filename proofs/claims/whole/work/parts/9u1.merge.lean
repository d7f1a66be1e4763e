/-! ITEMS, both: merge -/
section MF2
variable {x : Cx} {t : Nat} {σ ρ : Zs} {d : Pd}
/-- the same columns? the law -/
theorem hm_0 (hc : Cok x) (m : qM x = 1) (hl : LFr x ρ) {n A W k : Nat} {p : Int32} (y : Nat) (hA : A < 12) (h1 : zI ρ 1795 (qG x) 0 A = nI W) : fX14_work_333 (nI n) (k + 1) p (nI A) 0 (nI y) ρ = some (.error (3, p), ρ) := by
  have r2 : (zR ρ 909 0 0 0).2 = 0 := by rw [hc.g hl]
  have gA : gi (nI A) 12 := (n_gi (by omega)).mpr hA
  rw [fX14_work_333, if_pos r2, if_pos gA]
  split
  · exact bw_x (must_e m hc hl)
  · rw [if_pos rfl]; exact bw_x (must_e m hc hl)
theorem hm_L (hc : Cok x) (m : qM x = 1) (hl : LFr x ρ) {n A B W : Nat} {p : Int32} (hn : n < 12) (hA : A < 12) (hB : B < 12) (hW : W ≤ 6) (h1 : zI ρ 1795 (qG x) 0 A = nI W) (h2 : zI ρ 1798 (qG x) 0 n = nI B) :
    ∀ (k y n9 : Nat), y + k = W → k + 1 < n9 → ((∀ c, y ≤ c → c < W → zJ ρ 1796 (qG x) 0 (6 * A + c) = zJ ρ 1796 (qG x) 0 (6 * B + c)) ∧ fX14_work_333 (nI n) n9 p (nI A) 1 (nI y) ρ = bq (fX14_sayAll (nI A) (-1) ρ) fun _ ρ => some (.ok (), ρ)) ∨ ((∃ c, y ≤ c ∧ c < W ∧ zJ ρ 1796 (qG x) 0 (6 * A + c) ≠ zJ ρ 1796 (qG x) 0 (6 * B + c)) ∧ fX14_work_333 (nI n) n9 p (nI A) 1 (nI y) ρ = some (.error (3, p), ρ)) := by
  have r2 : (zR ρ 909 0 0 0).2 = 0 := by rw [hc.g hl]
  have r1 : (zR ρ 909 0 0 0).1 = qG x := by rw [hc.g hl]
  have gA : gi (nI A) 12 := (n_gi (by omega)).mpr hA
  have gn : gi (nI n) 12 := (n_gi (by omega)).mpr hn
  intro k
  induction k with
  | zero =>
    intro y n9 q1 q2
    obtain ⟨n9, rfl⟩ : ∃ j, n9 = j + 1 := ⟨n9 - 1, by omega⟩
    refine Or.inl ⟨fun c h1 h2 => by omega, ?_⟩
    rw [fX14_work_333, if_pos r2, if_pos gA, r1, n_cl (show A < 2147483648 by omega), h1, if_pos ((n_le (by omega) (by omega)).mpr (by omega)), bw_e must_1]
  | succ k ih =>
    intro y n9 q1 q2
    obtain ⟨n9, rfl⟩ : ∃ j, n9 = j + 1 := ⟨n9 - 1, by omega⟩
    have g1 : gi ((6 * nI A) + nI y) 72 := by rw [i_6, n_mul, n_add]; exact (n_gi (by omega)).mpr (by omega)
    have g2 : gi ((6 * nI B) + nI y) 72 := by rw [i_6, n_mul, n_add]; exact (n_gi (by omega)).mpr (by omega)
    have hc1 : Int32.toNatClampNeg ((6 * nI A : Int32) + nI y) = 6 * A + y := by rw [i_6, n_mul, n_add, n_cl (by omega)]
    have hc2 : Int32.toNatClampNeg ((6 * nI B : Int32) + nI y) = 6 * B + y := by rw [i_6, n_mul, n_add, n_cl (by omega)]
    have e98 : zI ρ 1798 ((zR ρ 909 0 0 0).1) 0 (Int32.toNatClampNeg (nI n)) = nI B := by rw [r1, n_cl (by omega)]; exact h2
    have e95 : zI ρ 1795 ((zR ρ 909 0 0 0).1) 0 (Int32.toNatClampNeg (nI A)) = nI W := by rw [r1, n_cl (by omega)]; exact h1
    have e1 : fX14_work_333 (nI n) (n9 + 1) p (nI A) 1 (nI y) ρ = if zJ ρ 1796 (qG x) 0 (6 * A + y) = zJ ρ 1796 (qG x) 0 (6 * B + y) then fX14_work_333 (nI n) n9 p (nI A) 1 (nI (y + 1)) ρ else fX14_work_333 (nI n) n9 p (nI A) 0 (nI (y + 1)) ρ := by
      rw [fX14_work_333, if_pos r2, if_pos gA, e95, if_neg (fun z => by have := (n_le (by omega) (by omega)).mp z; omega), if_neg (by decide), if_pos r2, if_pos g1, if_pos r2, if_pos r2, if_pos gn, e98, if_pos g2, r1, hc1, hc2, i_1, n_add]
      by_cases q : zJ ρ 1796 (qG x) 0 (6 * A + y) = zJ ρ 1796 (qG x) 0 (6 * B + y)
      · rw [if_pos (l_cmp0.mpr q), if_pos q]
      · rw [if_neg (fun z => q (l_cmp0.mp z)), if_neg q]
    rw [e1]
    by_cases q : zJ ρ 1796 (qG x) 0 (6 * A + y) = zJ ρ 1796 (qG x) 0 (6 * B + y)
    · rw [if_pos q]
      rcases ih (y + 1) n9 (by omega) (by omega) with ⟨a1, a2⟩ | ⟨⟨c, b1, b2, b3⟩, a2⟩
      · refine Or.inl ⟨fun c h1 h2 => ?_, a2⟩
        by_cases e : c = y
        · rw [e]; exact q
        · exact a1 c (by omega) h2
      · exact Or.inr ⟨⟨c, by omega, b2, b3⟩, a2⟩
    · rw [if_neg q]
      obtain ⟨n9, rfl⟩ : ∃ j, n9 = j + 1 := ⟨n9 - 1, by omega⟩
      exact Or.inr ⟨⟨y, Nat.le_refl _, by omega, q⟩, hm_0 hc m hl (y + 1) hA h1⟩
noncomputable def lMerge (n p0 w12 : Int32) (ρ23 : Zs) : Option (Except (Int32 × Int32) Unit × Zs) := bw (fX14_take_ 102 ρ23) fun w73 ρ70 => if (zR ρ70 909 0 0 0).2 = 0 then bw (fX14_streamNamed  ρ70) fun w80 ρ77 => if gi n 12 then lt (sI ρ77 1798 ((zR ρ70 909 0 0 0).1) 0 (Int32.toNatClampNeg n) w80) fun ρ82 => if (zR ρ82 909 0 0 0).2 = 0 then if gi w12 12 then if (zR ρ82 909 0 0 0).2 = 0 then if (zR ρ82 909 0 0 0).2 = 0 then if gi n 12 then if gi (zI ρ82 1798 ((zR ρ82 909 0 0 0).1) 0 (Int32.toNatClampNeg n)) 12 then if (zI ρ82 1795 ((zR ρ82 909 0 0 0).1) 0 (Int32.toNatClampNeg w12)) = (zI ρ82 1795 ((zR ρ82 909 0 0 0).1) 0 (Int32.toNatClampNeg (zI ρ82 1798 ((zR ρ82 909 0 0 0).1) 0 (Int32.toNatClampNeg n)))) then (fX14_work_333 n  FU p0 w12 1 0 ρ82) else (fX14_work_333 n  FU p0 w12 0 0 ρ82) else none else none else none else none else none else none else none else none
/-- the law's merge behind its second input -/
theorem lm_2 (hc : Cok x) {n A B WA WB : Nat} {p : Int32} (hl : LFr x ρ) (hn : n < 12) (hA : A < 12) (hB : B < 12) (h1 : zI ρ 1795 (qG x) 0 A = nI WA) (h2 : zI ρ 1795 (qG x) 0 B = nI WB) {o : Zs} (ho : o = sI ρ 1798 (qG x) 0 n (nI B)) {r1 : Nat} (hr : r1 = qG x) : (if gi (nI n) 12 then lt (sI ρ 1798 r1 0 (Int32.toNatClampNeg (nI n)) (nI B)) fun ρ82 => if (zR ρ82 909 0 0 0).2 = 0 then if gi (nI A) 12 then if (zR ρ82 909 0 0 0).2 = 0 then if (zR ρ82 909 0 0 0).2 = 0 then if gi (nI n) 12 then if gi (zI ρ82 1798 ((zR ρ82 909 0 0 0).1) 0 (Int32.toNatClampNeg (nI n))) 12 then if (zI ρ82 1795 ((zR ρ82 909 0 0 0).1) 0 (Int32.toNatClampNeg (nI A))) = (zI ρ82 1795 ((zR ρ82 909 0 0 0).1) 0 (Int32.toNatClampNeg (zI ρ82 1798 ((zR ρ82 909 0 0 0).1) 0 (Int32.toNatClampNeg (nI n))))) then (fX14_work_333 (nI n)  FU p (nI A) 1 0 ρ82) else (fX14_work_333 (nI n)  FU p (nI A) 0 0 ρ82) else none else none else none else none else none else none else none) = if nI WA = nI WB then fX14_work_333 (nI n) FU p (nI A) 1 0 o else fX14_work_333 (nI n) FU p (nI A) 0 0 o := by
  have gn : gi (nI n) 12 := (n_gi (by omega)).mpr hn
  have gA : gi (nI A) 12 := (n_gi (by omega)).mpr hA
  have gB : gi (nI B) 12 := (n_gi (by omega)).mpr hB
  have eo : sI ρ 1798 r1 0 (Int32.toNatClampNeg (nI n)) (nI B) = o := by rw [hr, ho, n_cl (by omega)]
  have hlo : LFr x o := by rw [ho]; exact hl.I (wlG rfl)
  have r2 : (zR o 909 0 0 0).2 = 0 := by rw [hc.g hlo]
  have r3 : (zR o 909 0 0 0).1 = qG x := by rw [hc.g hlo]
  have e98 : zI o 1798 ((zR o 909 0 0 0).1) 0 (Int32.toNatClampNeg (nI n)) = nI B := by rw [r3, n_cl (by omega), ho, zI_sI, if_pos ⟨rfl, rfl, rfl, rfl⟩]
  have eA : zI o 1795 ((zR o 909 0 0 0).1) 0 (Int32.toNatClampNeg (nI A)) = nI WA := by rw [r3, n_cl (by omega), ho, sI_c (by decide)]; exact h1
  have eB : zI o 1795 ((zR o 909 0 0 0).1) 0 (Int32.toNatClampNeg (nI B)) = nI WB := by rw [r3, n_cl (by omega), ho, sI_c (by decide)]; exact h2
  rw [if_pos gn, lt_k, eo, if_pos r2, if_pos gA, if_pos r2, if_pos r2, if_pos gn, e98, if_pos gB, eA, eB]
end MF2
