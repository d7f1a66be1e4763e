/-! AT THE START: both as the constructors leave them -/
def z0 : Zs := (fun _ _ _ _ => 0, fun _ _ _ _ => 0, fun c _ _ i => if c = 1089 then (4, i) else if c = 909 then (0, 1) else (0, 0))
def zIni : Zs := kZ 1921 (sI (sR (zDes z0) 898 0 0 0 (0, 0)) 915 0 0 0 (-1)) kmG
theorem zJ_kZ (c : Nat) (z : Zs) (g : Nat → Int64) (c' p s j : Nat) : zJ (kZ c z g) c' p s j = if c' = c ∧ p = 0 ∧ s = 0 then g j else zJ z c' p s j := rfl
theorem key_0 : RKey zIni zIni := fun i _ => by
  refine ⟨?_, ?_⟩
  · unfold zIni
    rw [zJ_kZ, if_neg (by decide)]
    rw [zJ_sI, zJ_sR]
    unfold zDes
    rw [zJ_sR, zJ_sI, zJ_sR, zJ_sR, zJ_sR, zJ_sR, zJ_sR, zJ_sR, zJ_sR, zJ_sR, zJ_kZ, if_pos ⟨rfl, rfl, rfl⟩]
  · unfold zIni
    rw [zJ_kZ, if_pos ⟨rfl, rfl, rfl⟩]
theorem rel_0 : Rel 0 zIni zIni := by
  refine ⟨0, 1, 2, 0, 0, d0, XZ, ⟨by decide, by decide, by decide, by decide, by decide, by decide, by decide⟩, ⟨good_0.1, ⟨rfl, rfl, 0, by decide, rfl, fun s hs => absurd hs (Nat.not_lt_zero _), fun s hs => absurd hs (Nat.not_lt_zero _)⟩, ⟨rfl, rfl, fun s hs => absurd hs (Nat.not_lt_zero _), fun s hs => absurd hs (Nat.not_lt_zero _)⟩, rfl, rfl, by decide⟩, ⟨False.elim, EFC.rf, EFR.rf, fun s hs => absurd hs (Nat.not_lt_zero _), fun s hs => absurd hs (Nat.not_lt_zero _), fun s hs => absurd hs (Nat.not_lt_zero _), ⟨Nat.zero_le _, rfl, rfl, fun j => j, fun j hj => ⟨hj, rfl⟩, fun _ _ _ _ e => e, fun j hj => absurd hj (Nat.not_lt_zero _)⟩, fun s hs => absurd hs (Nat.not_lt_zero _), ⟨rfl, ⟨0, by decide, rfl, rfl⟩, rfl⟩, fun s hs => absurd hs (Nat.not_lt_zero _)⟩, ⟨rfl, fun s hs => absurd hs (Nat.not_lt_zero _)⟩, fun s hs => absurd hs (Nat.not_lt_zero _), good_0.2.1, ⟨rfl, rfl, rfl⟩, ⟨Nat.zero_le _, rfl, rfl, fun e he => absurd he (Nat.not_lt_zero _)⟩, ⟨0, fun _ => 0, Nat.zero_le _, rfl, rfl, fun j hj => absurd hj (Nat.not_lt_zero _), fun _ _ _ hk => absurd hk (Nat.not_lt_zero _)⟩, ⟨0, Nat.zero_le _, rfl, rfl, fun c hc => absurd hc (Nat.not_lt_zero _)⟩, ⟨0, fun _ => 0, ⟨Nat.le_refl _, Nat.zero_le _⟩, rfl, rfl, fun i hi => absurd hi (Nat.not_lt_zero _)⟩, ⟨0, Nat.zero_le _, rfl, rfl, fun s hs => absurd hs (Nat.not_lt_zero _)⟩, key_0, rfl, ⟨0, Nat.zero_le _, rfl⟩, fun p s => ⟨0, Nat.zero_le _, rfl⟩⟩
