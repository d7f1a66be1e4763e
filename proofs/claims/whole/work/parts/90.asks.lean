/-! FIND -/
theorem in_R {a lo hi : Nat} {ρ : Zs} (ha : a < 2147483648) (hl : lo < 2147483648) (hh : hi < 2147483648) : fX14_isIn (nI a).toInt64 (lN lo) (lN hi) ρ = some (if lo ≤ a ∧ a ≤ hi then 1 else 0, ρ) := by
  unfold fX14_isIn
  have e1 : lg_cmp (lN a) (lN lo) < 0 ↔ a < lo := by rw [l_cmplt, lN_lt ha hl]
  have e2 : (0 : Int32) < lg_cmp (lN a) (lN hi) ↔ hi < a := by rw [l_cmpgt, lN_lt hh ha]
  rw [n_i64 ha]
  by_cases q : a < lo
  · rw [if_pos (e1.mpr q), if_neg (by omega)]
  · rw [if_neg (fun z => q (e1.mp z))]
    by_cases q2 : hi < a
    · rw [if_pos (e2.mpr q2), if_neg (by omega)]
    · rw [if_neg (fun z => q2 (e2.mp z)), if_pos (by omega)]
theorem let_R {b : Nat} {ρ : Zs} (hb : b < 256) : fX14_isLetter (nI b) ρ = some (if 97 ≤ b ∧ b ≤ 122 then 1 else 0, ρ) := by
  unfold fX14_isLetter
  rw [bq_e (show fX14_isIn (nI b).toInt64 97 122 ρ = _ from in_R (lo := 97) (hi := 122) (by omega) (by decide) (by decide)), if_pos]
  split
  · exact Or.inr rfl
  · exact Or.inl rfl
theorem dig_R {b : Nat} {ρ : Zs} (hb : b < 256) : fX14_isDigit (nI b) ρ = some (if 48 ≤ b ∧ b ≤ 57 then 1 else 0, ρ) := by
  unfold fX14_isDigit
  rw [bq_e (show fX14_isIn (nI b).toInt64 48 57 ρ = _ from in_R (lo := 48) (hi := 57) (by omega) (by decide) (by decide)), if_pos]
  split
  · exact Or.inr rfl
  · exact Or.inl rfl
theorem rng_C {b lo hi : Nat} (hb : b < 256) (hl : lo < 128) (hl0 : 0 < lo) (hh : hi < 128) {α : Type} {x y : α} : (if sby b < nI lo then x else if nI hi < sby b then x else y) = if lo ≤ b ∧ b ≤ hi then y else x := by
  have e1 : sby b < nI lo ↔ (b < lo ∨ 128 ≤ b) := by
    rw [Int32.lt_iff_toInt_lt, sby_i hb, nI_toInt (by omega)]
    split <;> omega
  have e2 : nI hi < sby b ↔ (hi < b ∧ b < 128) := by
    rw [Int32.lt_iff_toInt_lt, sby_i hb, nI_toInt (by omega)]
    split <;> omega
  rw [ite_congr (propext e1) (fun _ => rfl) (fun _ => rfl), ite_congr (propext e2) (fun _ => rfl) (fun _ => rfl)]
  by_cases q : lo ≤ b ∧ b ≤ hi
  · rw [if_pos q, if_neg (by omega), if_neg (by omega)]
  · rw [if_neg q]
    split
    · rfl
    · rw [if_pos (by omega)]
theorem let_C {b : Nat} {σ : Zs} (hb : b < 256) : fX11_isLetter (sby b) σ = some (if 97 ≤ b ∧ b ≤ 122 then 1 else 0, σ) := by
  unfold fX11_isLetter
  rw [i_97, i_122, rng_C hb (by decide) (by decide) (by decide)]
  split <;> rfl
theorem dig_C {b : Nat} {σ : Zs} (hb : b < 256) : fX11_isDigit (sby b) σ = some (if 48 ≤ b ∧ b ≤ 57 then 1 else 0, σ) := by
  unfold fX11_isDigit
  rw [i_48, i_57, rng_C hb (by decide) (by decide) (by decide)]
  split <;> rfl
theorem wby_C {b : Nat} {σ : Zs} (hb : b < 256) : (wByte b ∧ fX11_isWordByte (sby b) σ = some (1, σ)) ∨ (¬ wByte b ∧ fX11_isWordByte (sby b) σ = some (0, σ)) := by
  unfold fX11_isWordByte
  rw [bq_e (let_C hb)]
  by_cases q : 97 ≤ b ∧ b ≤ 122
  · refine Or.inl ⟨Or.inl q, ?_⟩
    rw [if_pos q, if10]
  · rw [if_neg q, if00, bq_e (dig_C hb)]
    by_cases q2 : 48 ≤ b ∧ b ≤ 57
    · refine Or.inl ⟨Or.inr q2, ?_⟩
      rw [if_pos q2, if10]
    · refine Or.inr ⟨fun z => z.elim q q2, ?_⟩
      rw [if_neg q2, if00]
theorem sby_l {b : Nat} (h : wByte b) : (sby b).toInt64 = lN b := by
  have := wB h
  unfold sby
  rw [if_pos this.2, n_i64 (by omega)]
section FI
variable {B P Q S g L N T : Nat} {d : Pd} {X : Nat → Nat → Nat} {σ ρ : Zs} {f : Nat → Nat}
theorem pkw_55 {y : Nat} (hy : y < 8) (h : ∀ i, i < y → wByte (f i)) : pkw y f < 2 ^ 55 := by
  obtain ⟨h1, h2⟩ := pkw_lt y (fun i hi => (wB (h i hi)).2)
  by_cases q : y = 0
  · subst q; simp [pkw]
  · have e : 2 ^ (8 * y) ≤ 2 ^ 56 := Nat.pow_le_pow_right (by decide) (by omega)
    have := h2 (by omega)
    omega
theorem find_C (hT : zI σ 705 0 0 0 = nI T) (h8 : T ≤ 8) (hf : ∀ i, i < T → f i < 256 ∧ zI σ 1728 0 0 i = sby (f i)) : ∀ (k y n : Nat), y + k = T → k < n → (∀ i, i < y → wByte (f i)) →
    ((∀ i, i < T → wByte (f i)) ∧ fX11_wordOnTape_15 n (lN (pkw y f)) (nI y) σ = some (lN (pkw T f), σ)) ∨ ((¬ ∀ i, i < T → wByte (f i)) ∧ fX11_wordOnTape_15 n (lN (pkw y f)) (nI y) σ = some (0, σ)) := by
  intro k
  induction k with
  | zero =>
    intro y n h1 h2 h3
    obtain ⟨n, rfl⟩ : ∃ j, n = j + 1 := ⟨n - 1, by omega⟩
    have ey : y = T := by omega
    subst ey
    refine Or.inl ⟨h3, ?_⟩
    rw [fX11_wordOnTape_15, hT, if_pos ((n_le (by omega) (by omega)).mpr (Nat.le_refl _))]
  | succ k ih =>
    intro y n h1 h2 h3
    obtain ⟨n, rfl⟩ : ∃ j, n = j + 1 := ⟨n - 1, by omega⟩
    have b1 : ¬ T ≤ y := by omega
    have b2 : y < 1500 := by omega
    obtain ⟨c1, c2⟩ := hf y (by omega)
    rw [fX11_wordOnTape_15]
    simp (disch := omega) only [hT, n_le, n_gi, n_cl, b1, b2, c2, ↓reduceIte]
    rcases wby_C (σ := σ) c1 with ⟨w1, w2⟩ | ⟨w1, w2⟩
    · rw [bq_e w2, if10]
      simp only [c2]
      rw [sby_l w1, sh8 (pkw_55 (by omega) h3) (by omega), i_1, n_add]
      refine ih (y + 1) n (by omega) (by omega) (fun i hi => ?_)
      by_cases e : i = y
      · subst e; exact w1
      · exact h3 i (by omega)
    · rw [bq_e w2, if00]
      exact Or.inr ⟨fun z => w1 (z y (by omega)), rfl⟩
theorem find_R (hT : zI ρ 900 0 0 0 = nI T) (h8 : T ≤ 8) (hf : ∀ i, i < T → f i < 256 ∧ zI ρ 1923 0 0 i = nI (f i)) : ∀ (k y n : Nat), y + k = T → k + 1 < n → (∀ i, i < y → wByte (f i)) → (0 < y → 97 ≤ f 0) →
    ((∀ i, i < T → wByte (f i)) ∧ (0 < T → 97 ≤ f 0) ∧ fX14_find_23 n (lN (pkw y f)) 1 (nI y) ρ = fX14_find_93 (lN (pkw T f)) 1 ρ) ∨ (¬ ((∀ i, i < T → wByte (f i)) ∧ (0 < T → 97 ≤ f 0)) ∧ ∃ w, fX14_find_23 n (lN (pkw y f)) 1 (nI y) ρ = fX14_find_93 w 0 ρ) := by
  have z0 : ∀ (n : Nat) (w : Int64) (y : Nat), fX14_find_23 (n + 1) w 0 (nI y) ρ = fX14_find_93 w 0 ρ := fun n w y => by
    rw [fX14_find_23, if00]
    exact ite_self _
  intro k
  induction k with
  | zero =>
    intro y n h1 h2 h3 h4
    obtain ⟨n, rfl⟩ : ∃ j, n = j + 1 := ⟨n - 1, by omega⟩
    have ey : y = T := by omega
    subst ey
    refine Or.inl ⟨h3, h4, ?_⟩
    rw [fX14_find_23, hT, if_pos ((n_le (by omega) (by omega)).mpr (Nat.le_refl _))]
  | succ k ih =>
    intro y n h1 h2 h3 h4
    obtain ⟨n, rfl⟩ : ∃ j, n = j + 2 := ⟨n - 2, by omega⟩
    have b1 : ¬ T ≤ y := by omega
    have b2 : y < 1500 := by omega
    obtain ⟨c1, c2⟩ := hf y (by omega)
    have nx : ∀ v : Int32, fX14_find_72 (fun by1 by3 by4 ρb => fX14_find_23 (n + 1) by1 by3 by4 ρb) (lN (pkw y f)) (nI y) v ρ = fX14_find_23 (n + 1) ((lN (pkw y f) <<< ((8 : Int32).toInt64 &&& 63)) ||| lN (f y)) v (nI (y + 1)) ρ := fun v => by
      unfold fX14_find_72
      rw [if_pos ((n_gi (by omega)).mpr b2), n_cl (by omega), c2, n_i64 (by omega), i_1, n_add]
    rw [fX14_find_23]
    simp (disch := omega) only [hT, n_le, n_gi, n_cl, b1, b2, c2, ↓reduceIte]
    rw [if10, bq_e (let_R c1)]
    by_cases q : 97 ≤ f y ∧ f y ≤ 122
    · have w1 : wByte (f y) := Or.inl q
      rw [if_pos q, if10, nx, sh8 (pkw_55 (by omega) h3) (by omega)]
      refine ih (y + 1) (n + 1) (by omega) (by omega) (fun i hi => ?_) (fun _ => ?_)
      · by_cases e : i = y
        · subst e; exact w1
        · exact h3 i (by omega)
      · by_cases e : y = 0
        · subst e; exact q.1
        · exact h4 (by omega)
    · simp only [c2]
      rw [if_neg q, if00, bq_e (dig_R c1)]
      by_cases q2 : 48 ≤ f y ∧ f y ≤ 57
      · rw [if_pos q2, if10]
        by_cases e : y = 0
        · subst e
          rw [if_pos (by decide), nx, z0]
          exact Or.inr ⟨fun z => by have := z.2 (by omega); omega, _, rfl⟩
        · have w1 : wByte (f y) := Or.inr q2
          rw [if_neg (by rw [i_0, n_le (by omega) (by omega)]; omega), nx, sh8 (pkw_55 (by omega) h3) (by omega)]
          refine ih (y + 1) (n + 1) (by omega) (by omega) (fun i hi => ?_) (fun _ => h4 (by omega))
          by_cases e : i = y
          · subst e; exact w1
          · exact h3 i (by omega)
      · rw [if_neg q2, if00, nx, z0]
        exact Or.inr ⟨fun z => (z.1 y (by omega)).elim q q2, _, rfl⟩
theorem nix_no {h : Nat → Int64} {w : Int64} {k : Nat} (q : ∀ s, s < k → h s ≠ w) : nix h w k 0 = -nI 1 := by
  rcases nix_s (f := h) (w := w) k 0 with ⟨a, _⟩ | ⟨s, _, hs, e, _⟩
  · exact a
  · exact absurd e (q s (by omega))
theorem f_find (h : Rl B P Q S g L d X σ ρ) : Fp B (fX11_find σ) (fX14_find ρ) := by
  have h1 := h.thr (v := 0)
  unfold fX11_find fX14_find
  obtain ⟨hp, ⟨hW, hPC, hPR, hz, hz3, hP⟩, hE, hG, hF, hNm, h7, hL, hM, hV, hTp, hO, hK, h12⟩ := h1
  obtain ⟨T, f, t1, t2, t3, t4⟩ := hTp
  have hN := hW.1
  have hR' : Rel B (sI σ 705 0 0 0 0) (sI (sI ρ 896 0 0 0 0) 900 0 0 0 0) := ⟨P, Q, S, g, L, d, X, hp, ⟨hW, hPC, hPR, hz, hz3, hP⟩, hE.sw hE.2.2.2, hG, hF, hNm, h7, hL, hM, hV, ⟨0, f, by omega, rfl, rfl, fun i hi => absurd hi (Nat.not_lt_zero _)⟩, hO, hK, h12⟩
  have eP : (zR σ 707 0 0 0).1 = P := by rw [h7.1]
  have hC : ∀ w, fX5_streamNamed P w σ = some (nix (dNm d) w (dN d) 0, σ) := fun w => by
    rw [name_C (N := dN d) hN hPC.1]
    rw [nix_c _ _ (fun s _ hs => (hPC.2.2.choose_spec.2.2.1 s (by omega)).1)]
  have hRn : ∀ w, fX14_indexOf 1793 g 0 12 0 (nI (dN d)) w (sI (sI ρ 896 0 0 0 0) 900 0 0 0 0) = some (nix (dNm d) w (dN d) 0, sI (sI ρ 896 0 0 0 0) 900 0 0 0 0) := fun w => by
    have := name_R (c := 1793) (p := g) (s := 0) (n0 := 12) (off := 0) (N := dN d) (w := w) (ρ := sI (sI ρ 896 0 0 0 0) 900 0 0 0 0) (by omega) (by decide) (by omega)
    rw [nix_c (g := dNm d) _ _ (fun s _ hs => by rw [Nat.zero_add]; exact (hPR.2.2.1 s (by omega)).1)] at this
    exact this
  have h93 : ∀ w, fX14_find_93 w 0 (sI ρ 896 0 0 0 0) = some (-1, sI (sI ρ 896 0 0 0 0) 900 0 0 0 0) := fun w => by
    unfold fX14_find_93
    rw [lt_k, if00]
  have g93 : ∀ w, fX14_find_93 w 1 (sI ρ 896 0 0 0 0) = some (nix (dNm d) w (dN d) 0, sI (sI ρ 896 0 0 0 0) 900 0 0 0 0) := fun w => by
    have e1 : (zR (sI (sI ρ 896 0 0 0 0) 900 0 0 0 0) 898 0 0 0).1 = g := by show (zR ρ 898 0 0 0).1 = g; rw [show zR ρ 898 0 0 0 = (g, 0) from hz3]
    have e2 : zI (sI (sI ρ 896 0 0 0 0) 900 0 0 0 0) 768 g 0 0 = nI (dN d) := hPR.1
    unfold fX14_find_93
    rw [lt_k, if10, e1, e2, bq_e (hRn w)]
  have end0 : ∀ w, (∀ s, s < dN d → dNm d s ≠ w) → bq (fX5_streamNamed P w σ) (fun v6 σ7 => lt (sI σ7 705 0 0 0 0) fun σ10 => some (v6, σ10)) = some ((-1 : Int32), sI σ 705 0 0 0 0) := fun w hw => by
    rw [bq_e (hC w), nix_no hw, lt_k]
    rfl
  have end1 : ∀ w, bq (fX5_streamNamed P w σ) (fun v6 σ7 => lt (sI σ7 705 0 0 0 0) fun σ10 => some (v6, σ10)) = some (nix (dNm d) w (dN d) 0, sI σ 705 0 0 0 0) := fun w => by
    rw [bq_e (hC w), lt_k]
  have t3' : zI (sI ρ 896 0 0 0 0) 900 0 0 0 = nI T := t3
  have hi : fX14_isIn (zI (sI ρ 896 0 0 0 0) 900 0 0 0).toInt64 1 8 (sI ρ 896 0 0 0 0) = some (if 1 ≤ T ∧ T ≤ 8 then 1 else 0, sI ρ 896 0 0 0 0) := by
    rw [t3']; exact in_R (lo := 1) (hi := 8) (by omega) (by decide) (by decide)
  rw [lt_k, bq_e hi, eP]
  have n0 : ∀ s, s < dN d → dNm d s ≠ 0 := fun s hs => not_name0 (hNm s hs).1
  have z0 : fX14_find_23 FU 0 0 0 (sI ρ 896 0 0 0 0) = fX14_find_93 0 0 (sI ρ 896 0 0 0 0) := by
    rw [show FU = 19999 + 1 from rfl, fX14_find_23, if00]
    exact ite_self _
  unfold fX11_wordOnTape
  rw [t2, i_8]
  by_cases q8 : T ≤ 8
  · have ff : T + 1 < FU := by unfold FU; omega
    rw [if_pos ((n_le (by omega) (by omega)).mpr q8)]
    have u0 := find_C (σ := σ) (f := f) t2 q8 (fun i hi => ⟨(t4 i hi).1, (t4 i hi).2.2⟩) T 0 FU (by omega) (by omega) (fun i hi => absurd hi (Nat.not_lt_zero _))
    by_cases q0 : T = 0
    · subst q0
      rw [if_neg (by omega), z0, h93]
      rcases u0 with ⟨_, u⟩ | ⟨_, u⟩
      · rw [bq_e (show fX11_wordOnTape_15 FU 0 0 σ = _ from u), end0 (lN (pkw 0 f)) n0]
        exact ⟨_, _, _, rfl, rfl, hR'⟩
      · rw [bq_e (show fX11_wordOnTape_15 FU 0 0 σ = _ from u), end0 _ n0]
        exact ⟨_, _, _, rfl, rfl, hR'⟩
    · rw [if_pos (by omega)]
      have r0 := find_R (ρ := sI ρ 896 0 0 0 0) (f := f) t3' q8 (fun i hi => ⟨(t4 i hi).1, (t4 i hi).2.1⟩) T 0 FU (by omega) ff (fun i hi => absurd hi (Nat.not_lt_zero _)) (fun z => absurd z (Nat.lt_irrefl 0))
      rcases r0 with ⟨r1, r2, r3⟩ | ⟨r1, w, r3⟩
      · rw [show fX14_find_23 FU 0 1 0 (sI ρ 896 0 0 0 0) = _ from r3, g93]
        rcases u0 with ⟨_, u⟩ | ⟨u1, _⟩
        · rw [bq_e (show fX11_wordOnTape_15 FU 0 0 σ = _ from u), end1]
          exact ⟨_, _, _, rfl, rfl, hR'⟩
        · exact absurd r1 u1
      · rw [show fX14_find_23 FU 0 1 0 (sI ρ 896 0 0 0 0) = _ from r3, h93]
        rcases u0 with ⟨u1, u⟩ | ⟨_, u⟩
        · rw [bq_e (show fX11_wordOnTape_15 FU 0 0 σ = _ from u), end0]
          · exact ⟨_, _, _, rfl, rfl, hR'⟩
          · intro s hs e
            have hn := (hNm s hs).1
            rw [e] at hn
            refine not_name1 q8 u1 ?_ hn
            have := fun z => r1 ⟨u1, z⟩
            by_cases c : 97 ≤ f 0
            · exact absurd (fun _ => c) this
            · omega
        · rw [bq_e (show fX11_wordOnTape_15 FU 0 0 σ = _ from u), end0 _ n0]
          exact ⟨_, _, _, rfl, rfl, hR'⟩
  · rw [if_neg (fun z => q8 ((n_le (by omega) (by omega)).mp z)), if_neg (by omega), bq_s, end0 _ n0, z0, h93]
    exact ⟨_, _, _, rfl, rfl, hR'⟩
end FI
