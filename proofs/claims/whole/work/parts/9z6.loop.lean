/-! ITEMS, both: all of them -/
section LP
variable {x : Cx} {t : Nat} {σ ρ : Zs} {d : Pd}
/-- both parsers' loops, behind the first item -/
def LOK (x : Cx) (σ' ρ' : Zs) : Prop := ∃ t' d', ITm x d' t' σ' ρ' ∧ qk x t' = 202
theorem x_items (hc : Cok x) : ∀ (r t y n m : Nat) (d : Pd) (σ ρ : Zs), r + t = 1501 → 1 ≤ y → 2 * y ≤ t → 1500 < n + y → r < m → ITm x d t σ ρ → SM (Er0 x) (fX4_parse_16 n (nI y) σ) (fX14_readAll_19 m ρ) (fun v σ' _ ρ' => v = -nI 1 ∧ LOK x σ' ρ') := by
  intro r
  induction r using Nat.strongRecOn with
  | ind r ih =>
    intro t y n m d σ ρ h1 h3 h4 h5 h6 h
    obtain ⟨i1, i2, i3, i4, i5, i6, i7⟩ := id h
    have ht := hc.n i3.1
    have hv := PSt.k204 hc i3.1
    obtain ⟨n, rfl⟩ : ∃ j, n = j + 1 := ⟨n - 1, by omega⟩
    obtain ⟨m, rfl⟩ : ∃ j, m = j + 1 := ⟨m - 1, by omega⟩
    have e260 : zI σ 260 0 0 0 = ck (qk x t) := i3.2.2.2.1
    have his : fX14_is 202 ρ = some (if qk x t = 202 then 1 else 0, ρ) := by
      rcases i3.is hc i1.2.1 i2 202 with e | e
      · exact e
      · omega
    have n0 : ¬ (0 : Int32) ≤ zI σ 258 0 0 0 := by rw [i3.2.1]; decide
    rw [fX4_parse_16, i_1500, if_neg (fun z => by have := (n_le (by omega) (by omega)).mp z; omega), if_neg n0, if_neg (show ¬ (nI y : Int32) = 0 by rw [i_0, n_eq (by omega) (by omega)]; omega), e260, fX14_readAll_19, bq_e (show fX14_is 202 ρ = _ from his)]
    by_cases q : qk x t = 202
    · rw [if_pos (show ck (qk x t) = 0 by rw [q]; rfl), if_pos q, if10, i3.2.1]
      exact sm_ok ⟨rfl, t, d, h, q⟩
    · rw [if_neg (show ¬ ck (qk x t) = 0 from ck_ne (j := 202) hv.1 rfl q), if_neg q, if00, p41_e]
      refine sm_b (x_item hc h) (fun _ σ2 _ ρ2 g => ?_) (fun _ σ2 e ρ2 g => ?_)
      · obtain ⟨t', d', g1, g2⟩ := g
        have ht' := hc.n g2.2.2.1.1
        rw [i_1, n_add]
        exact ih (1501 - t') (by omega) t' (y + 1) n m d' σ2 ρ2 (by omega) (by omega) (by omega) (by omega) (by omega) g2
      · rw [i_1, n_add]
        exact g.go0 fun h => wp_m (k_parse16 (1500 - (y + 1)) (y + 1) n _ (by omega) (by omega) h) fun _ _ q => q.1
end LP
