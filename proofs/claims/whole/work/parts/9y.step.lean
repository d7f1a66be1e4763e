/-! ITEMS, both: a step, its work by the word -/
section SS9
variable {x : Cx} {t : Nat} {σ ρ : Zs} {d : Pd}
theorem lWk_bw {x1 w12 K : Int32} {B : Zs → Option (Except (Int32 × Int32) Unit × Zs)} {E : Unit → Zs → Option (Except (Int32 × Int32) Unit × Zs)} : bw (lWk x1 w12 K B ρ) E = lWk x1 w12 K (fun ρ => bw (B ρ) E) ρ := by
  unfold lWk
  simp only [lt_k]
  repeat' split
  all_goals rfl
/-- the law's work, by the word -/
noncomputable def lBody (kd : Nat) (n p0 w12 : Int32) (ρ23 : Zs) : Option (Except (Int32 × Int32) Unit × Zs) := if kd = 3 then lKeep n w12 ρ23 else if kd = 5 then lMake n w12 ρ23 else if kd = 7 then lPick n w12 ρ23 else if kd = 8 then lMerge n p0 w12 ρ23 else if kd = 9 then bw (fX14_join n w12 ρ23) fun _ ρ65 => some (.ok (), ρ65) else if kd = 12 then lFirst n w12 ρ23 else bw (fX14_window n w12 ρ23) fun _ ρ26 => some (.ok (), ρ26)
def wdK (kd : Nat) : Nat := if kd = 3 then 1 else if kd = 5 then 2 else if kd = 7 then 3 else if kd = 8 then 4 else if kd = 9 then 5 else if kd = 12 then 6 else if kd = 14 then 7 else 0
theorem work_e (hc : Cok x) {n : Int32} (h : IP x 0 t σ ρ) {kd : Nat} (hk : qk x t = kd) (hd : kd = 3 ∨ kd = 5 ∨ kd = 7 ∨ kd = 8 ∨ kd = 9 ∨ kd = 12 ∨ kd = 14) : fX14_work n ρ = bw (fX14_take ρ) fun _ ρ4 => bw (fX14_streamNamed ρ4) fun w12 ρ9 => lWk n w12 (nI (wdK kd)) (lBody kd n (nI (qp x t)) w12) ρ9 := by
  unfold fX14_work lWk
  rw [if_pos (h.g5 hc), if_pos (h.g5 hc), h.k9 hc, h.p9 hc, hk]
  rcases hd with rfl | rfl | rfl | rfl | rfl | rfl | rfl
  · rw [if_neg (by decide)]; rfl
  · rw [if_neg (by decide)]; rfl
  · rw [if_neg (by decide)]; rfl
  · rw [if_neg (by decide)]; rfl
  · rw [if_neg (by decide)]; rfl
  · rw [if_neg (by decide)]; rfl
  · rw [if_neg (by decide)]; rfl
theorem work_no (hc : Cok x) {n : Int32} (h : IP x 0 t σ ρ) {kd : Nat} (hk : qk x t = kd) (hk2 : kd < 204) (hd : ¬ (kd = 3 ∨ kd = 5 ∨ kd = 7 ∨ kd = 8 ∨ kd = 9 ∨ kd = 12 ∨ kd = 14)) : fX14_work n ρ = some (.error (1, nI (qp x t)), ρ) := by
  unfold fX14_work
  have hw : wkj 7 (nI kd) = -1 := by
    have l : ∀ k, k < 204 → ¬ (k = 3 ∨ k = 5 ∨ k = 7 ∨ k = 8 ∨ k = 9 ∨ k = 12 ∨ k = 14) → wkj 7 (nI k) = -1 := by decide +kernel
    exact l kd hk2 hd
  rw [if_pos (h.g5 hc), if_pos (h.g5 hc), h.k9 hc, hk, if_pos hw, bq_e (h.wr hc)]
end SS9
