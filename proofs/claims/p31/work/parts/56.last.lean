/-! ONE PUSH, THE LAST PUSH: WHAT THE LAW ASKS -/
section LST
variable {lim n T j : Nat} {X : Dk} {r : Rw}
theorem stp_2 (h : r.2.2 = 2) : k0 (stp lim n X r) = k0 X + 1 ∧ k1 (stp lim n X r) = k1 X ∧ kH (stp lim n X r) = kH X ∧ kS (stp lim n X r) = kS X := by
  unfold stp
  rw [if_pos (Or.inl h)]
  unfold psh
  rw [if_pos h]
  exact ⟨rfl, rfl, rfl, rfl⟩
theorem stp_5 (h : r.2.2 = 5) : k1 (stp lim n X r) = k1 X + 1 ∧ (kH (stp lim n X r)).1 = (kH X).1 + 1 ∧ kS (stp lim n X r) = kS X := by
  unfold stp
  rw [if_pos (Or.inr h)]
  unfold psh
  rw [if_neg (by rw [h]; decide), if_pos h]
  exact ⟨rfl, rfl, rfl⟩
theorem stp_n (h : ¬ (r.2.2 = 2 ∨ r.2.2 = 5)) : kS (stp lim n X r) = ((kS X).1 + 1, pushF (kS X).1 (kS X).2 r) := by
  rw [stp_S, if_neg h]
/-- the last row's window alone is left -/
theorem lst_W (h : Iv n T j X) (hT : T ≤ 100) (hj : j < 60) (hn : 0 < n) (hn2 : n ≤ 20) : ∃ f e, kW (stp lim n X (1000, 9, 0)) = (1, f) ∧ f 0 = (9, e, 1, 0) := by
  obtain ⟨⟨a1, a2, a3, a4, a5, a6⟩, b, c, d, s⟩ := h
  have h9 : ¬ ((0 : Int64) = 2 ∨ (0 : Int64) = 5) := by decide
  have hb : 1000 < 1000 / n * n + n := by
    have h1 := Nat.div_add_mod 1000 n
    have h2 := Nat.mod_lt 1000 hn
    rw [Nat.mul_comm] at h1
    omega
  generalize he : 1000 / n * n + n = e at hb
  have hY : kW (psh X (1000, 9, 0)) = kW X ∧ kM (psh X (1000, 9, 0)) = 998 := ⟨psh_S.2.2.2.1, by rw [psh_S.2.2.2.2.1]; show max (kM X) 998 = 998; omega⟩
  have hp : plc (kW X).2 9 e (kW X).1 0 = (kW X).1 := by
    have h1 := plc_le (f := (kW X).2) (key := 9) (e := e) (kW X).1 0
    by_cases q : plc (kW X).2 9 e (kW X).1 0 < 0 + (kW X).1
    · have h2 := (plc_m (f := (kW X).2) (key := 9) (e := e) (kW X).1 0 q).2
      have h3 := (b (plc (kW X).2 9 e (kW X).1 0) (by omega)).1.2.2.1
      omega
    · omega
  have hw : kW (spW n (kM X) (spB lim (spA lim (psh X (1000, 9, 0)) (1000, 9, 0)) (1000, 9, 0)) (1000, 9, 0)) = ((kW X).1 + 1, pushF (kW X).1 (kW X).2 (9, e, 1, 0)) := by
    unfold spW
    rw [if_pos (show kM X ≤ 1000 / n * n + n by omega)]
    show wnk (kW (spB lim (spA lim (psh X (1000, 9, 0)) (1000, 9, 0)) (1000, 9, 0))).1 (kW (spB lim (spA lim (psh X (1000, 9, 0)) (1000, 9, 0)) (1000, 9, 0))).2 9 (1000 / n * n + n) 0 = _
    rw [spB_S.2.1, spA_S.2.1, hY.1, he]
    unfold wnk
    rw [if_pos hp]
  refine ⟨pushF 0 (pushF (kW X).1 (kW X).2 (9, e, 1, 0)) (9, e, 1, 0), e, ?_, pushF_s⟩
  unfold stp
  rw [if_neg h9, hY.2]
  show rmg 998 (kW (spW n (kM X) (spB lim (spA lim (psh X (1000, 9, 0)) (1000, 9, 0)) (1000, 9, 0)) (1000, 9, 0))).1 0 0 (kW (spW n (kM X) (spB lim (spA lim (psh X (1000, 9, 0)) (1000, 9, 0)) (1000, 9, 0)) (1000, 9, 0))).2 = _
  rw [hw]
  show rmg 998 ((kW X).1 + 1) 0 0 (pushF (kW X).1 (kW X).2 (9, e, 1, 0)) = _
  rw [rmg_1 (kW X).1 0 _ (fun i _ hi => by
    rw [pushF_n (by omega)]
    have := (b i (by omega)).1.2.2.1
    omega) (by rw [Nat.zero_add, pushF_s]; show ¬ e < 998; omega), Nat.zero_add, pushF_s]
/-- late rows -/
def ltc (p : Nat × (Nat → Bool × Rw)) : Nat → Nat
  | 0 => 0
  | k + 1 => ltc p k + (if (p.2 k).1 then 1 else 0)
theorem ltc_s {p : Nat × (Nat → Bool × Rw)} : ∀ k, sg k (fun i => if (p.2 i).1 then (1 : Int64) else 0) = lN (ltc p k)
  | 0 => rfl
  | k + 1 => by
    show sg k _ + (if (p.2 k).1 then (1 : Int64) else 0) = lN (ltc p k + (if (p.2 k).1 then 1 else 0))
    rw [ltc_s k]
    cases (p.2 k).1 with
    | true => exact lN_1 _
    | false => exact Int64.add_zero _
theorem ltc_le {p : Nat × (Nat → Bool × Rw)} : ∀ k, ltc p k ≤ k
  | 0 => Nat.le_refl _
  | k + 1 => by unfold ltc; have := ltc_le (p := p) k; split <;> omega
/-- after the last push: sums -/
theorem lst_S (h : Iv n T j X) (hT : T ≤ 100) (hj : j < 59) (hn : 0 < n) (hn2 : n ≤ 20) : sg (kR (stp lim n X (1000, 9, 0))).1 (fun i => ((kR (stp lim n X (1000, 9, 0))).2 i).2.2.2) + sg (kH (stp lim n X (1000, 9, 0))).1 (fun i => if ((kH (stp lim n X (1000, 9, 0))).2 i).1 then ((kH (stp lim n X (1000, 9, 0))).2 i).2.2.2 else 0) = sg (kS X).1 (fun i => ((kS X).2 i).2.2) ∧ sg (kR (stp lim n X (1000, 9, 0))).1 (fun i => lN ((kR (stp lim n X (1000, 9, 0))).2 i).2.2.1) + lN (ltc (kH (stp lim n X (1000, 9, 0))) (kH (stp lim n X (1000, 9, 0))).1) = lN (kS X).1 := by
  obtain ⟨f, e, w1, w2⟩ := lst_W (lim := lim) h hT (by omega) hn hn2
  have hI : Iv n 2000 (j + 1) (stp lim n X (1000, 9, 0)) := stp_I (h.up (T' := 2000) (by omega)) hn (by show 1000 + n ≤ 2000; omega) (by omega)
  have s := hI.2.2.2.2
  have hS := stp_n (lim := lim) (n := n) (X := X) (r := (1000, 9, 0)) (by decide)
  generalize stp lim n X (1000, 9, 0) = Y at *
  have key : ∀ φ ψ, Gd φ ψ → sg (kR Y).1 (fun i => φ ((kR Y).2 i)) + hsum ψ (kH Y) = sg (kS X).1 (fun i => ψ ((kS X).2 i)) := by
    intro φ ψ hg
    have h1 := s φ ψ hg
    have e1 : sg (kW Y).1 (fun i => φ ((kW Y).2 i)) = ψ (1000, 9, 0) := by
      rw [w1]
      show 0 + φ (f 0) = _
      rw [w2, Int64.zero_add]
      exact hg.1 9 e 0 1000
    have e2 : sg (kS Y).1 (fun i => ψ ((kS Y).2 i)) = sg (kS X).1 (fun i => ψ ((kS X).2 i)) + ψ (1000, 9, 0) := by
      rw [hS]
      exact sg_p
    rw [e1, e2, Int64.add_assoc, Int64.add_comm (ψ (1000, 9, 0)), ← Int64.add_assoc] at h1
    exact (Int64.add_left_inj _).mp h1
  constructor
  · exact key (fun u => u.2.2.2) (fun r => r.2.2) gd_s
  · have := key (fun u => lN u.2.2.1) (fun _ => 1) gd_c
    unfold hsum at this
    rw [ltc_s, sg_1] at this
    exact this
end LST
