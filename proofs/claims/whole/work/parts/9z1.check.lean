/-! ITEMS, both: a check that is done -/
section CL
variable {x : Cx} {b t : Nat} {σ ρ : Zs} {d : Pd} {a f : Nat} {o : List Op} {s c : Nat}
theorem PCs.chk {S L : Nat} (h : PCs S d s L σ) (hs : s < 12) : PCs S (dChk d a f o) s L σ := by
  obtain ⟨h1, h2, h3, h4, h5, h6, h7, h8, h9, h10, h11, h12, h13⟩ := h
  exact ⟨h1, h2, h3, h4, h5, h6, h7, h8, h9, h10, h11, h12, fun c q => by rw [dc_O hs]; exact h13 c q⟩
theorem PRsz.chk {g z : Nat} (h : PRsz g d s z ρ) (hs : s < 12) : PRsz g (dChk d a f o) s z ρ := by
  obtain ⟨h1, h2, h3, h4, h5, h6, h7, h8, h9, h10, h11, h12, h13, h14⟩ := h
  exact ⟨h1, h2, h3, h4, h5, h6, h7, h8, h9, h10, h11, h12, fun q => by rw [dc_O hs]; exact h13 q, fun c q => by rw [dc_O hs]; exact h14 c q⟩
theorem WFs.chk (h : WFs d s) (hs : s < 12) : WFs (dChk d a f o) s := by
  obtain ⟨h1, h2, h3, h4, h5, h6, h7, h8, h9, h10, h11, h12, h13, h14⟩ := h
  exact ⟨h1, h2, h3, h4, h5, h6, h7, fun q => by rw [dc_O hs]; exact h8 q, fun q => ⟨(h9 q).1, fun c k1 k2 => by rw [dc_O hs]; exact (h9 q).2 c k1 k2⟩, h10, h11, h12, h13, fun q => ⟨(h14 q).1, (h14 q).2.1, (h14 q).2.2.1, fun c k1 k2 => ⟨((h14 q).2.2.2 c k1 k2).1, ((h14 q).2.2.2 c k1 k2).2.1, fun k3 => by rw [dc_O hs]; exact ((h14 q).2.2.2 c k1 k2).2.2 k3⟩⟩⟩
theorem PCc.chk {S L : Nat} (h : PCc S d c L σ) (hs : c ≠ dM d) : PCc S (dChk d a f o) c L σ := by
  unfold PCc at h ⊢
  rw [dc_CS, dc_CF, dc_CO, if_neg hs, if_neg hs, if_neg hs]
  exact h
theorem PRcz.chk {g z : Nat} (h : PRcz g d c z ρ) (hs : c ≠ dM d) : PRcz g (dChk d a f o) c z ρ := by
  unfold PRcz at h ⊢
  rw [dc_CS, dc_CF, dc_CO, if_neg hs, if_neg hs, if_neg hs]
  exact h
theorem GoodD.chk (h : GoodD d) (hM : dM d < 8) (ha : a < dN d) (hf : 19 ≤ f ∧ f ≤ 21) (ho : okO (dW d a) o) : GoodD (dChk d a f o) := by
  obtain ⟨⟨h1, h2, h3, h4⟩, h5, h6, h7⟩ := h
  refine ⟨⟨h1, by rw [dc_M]; omega, fun s hs => (h3 s hs).chk (Nat.lt_of_lt_of_le hs h1), fun c hcc => ?_⟩, h5, h6, h7⟩
  rw [dc_CS, dc_CF, dc_CO, dc_N]
  by_cases q : c = dM d
  · rw [if_pos q, if_pos q, if_pos q]
    exact ⟨ha, hf.1, hf.2, ho⟩
  · rw [if_neg q, if_neg q, if_neg q]
    exact h4 c (by rw [dc_M] at hcc; omega)
end CL
