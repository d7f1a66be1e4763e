/-! TOKENS: one token, all of them -/
theorem bq_as {α β γ : Type} {o : Option (α × Zs)} {k : α → Zs → Option (β × Zs)} {l : β → Zs → Option γ} : bq (bq o k) l = bq o fun v z => bq (k v z) l := by
  rcases o with _ | ⟨v, z⟩
  · rfl
  · rfl
theorem bq_id {α : Type} {o : Option (α × Zs)} : bq o (fun v z => some (v, z)) = o := by
  rcases o with _ | ⟨v, z⟩
  · rfl
  · rfl
section SC
variable {T a : Nat} {σ ρ : Zs} {f : Nat → Nat}
def TOK (T a : Nat) (σ ρ : Zs) (k e : Nat) (w w' : Int64) : Prop := a < e ∧ e ≤ T ∧ vk k = true ∧ k ≠ 202 ∧ (k ≠ 203 → w' = w) ∧ (k = 200 → isName w) ∧ (k = 201 → ∃ n, n < 1000000000 ∧ w = lN n)
    ∧ fX9_scanToken (nI T) (nI a) σ = bq (fX9_addToken (ck k) (nI a) w' σ) (fun _ z => some (nI e, z))
    ∧ ∀ n k7, fX14_cutTokens_31 k7 (n + 1) (nI a) ρ = bq (fX14_token (nI k) (nI a) w ρ) (fun _ z => k7 (nI e) z)
theorem cut_31 (h : Tp T f σ ρ) (ha : a < T) (h32 : f a ≠ 32) (h10 : f a ≠ 10) (n : Nat) (k7 : Int32 → Zs → Option (Unit × Zs)) : fX14_cutTokens_31 k7 (n + 1) (nI a) ρ = if 97 ≤ f a ∧ f a ≤ 122 then fX14_cutTokens_95 k7 FU (nI a) (nI a) 0 ρ else if 48 ≤ f a ∧ f a ≤ 57 then fX14_cutTokens_199 k7 FU (nI a) (nI a) 0 ρ else bq (fX14_symbol (nI a) ρ) fun v z => k7 v z := by
  obtain ⟨c1, c2, c3⟩ := h.2.2 a ha
  have hb := byt_R h ha
  have i32' : (32 : Int32) = nI 32 := rfl
  have i10' : (10 : Int32) = nI 10 := rfl
  rw [fX14_cutTokens_31, bq_e hb, i32', if_neg (fun z => h32 ((n_eq (by omega) (by omega)).mp z)), bq_e hb, i10', if_neg (fun z => h10 ((n_eq (by omega) (by omega)).mp z)), bq_e hb, if_neg (n_mx (a := f a) (by omega)), bq_e (let_R c1)]
  by_cases q : 97 ≤ f a ∧ f a ≤ 122
  · rw [if_pos q, if_pos q, if10]
  · rw [if_neg q, if_neg q, if00, bq_e (dig_R c1)]
    by_cases q2 : 48 ≤ f a ∧ f a ≤ 57
    · rw [if_pos q2, if_pos q2, if10]
    · rw [if_neg q2, if_neg q2, if00]
theorem scan_T (h : Tp T f σ ρ) (ha : a < T) : fX9_scanToken (nI T) (nI a) σ = if 97 ≤ f a ∧ f a ≤ 122 then fX9_scanWord (nI T) (nI a) σ else if 48 ≤ f a ∧ f a ≤ 57 then fX9_scanNumber (nI T) (nI a) σ else fX9_scanToken_63 (nI T) (nI a) (nI (f a)) (nI (if a + 1 < T then f (a + 1) else 0)) σ := by
  obtain ⟨hT, _, hf⟩ := id h
  obtain ⟨c1, c2, c3⟩ := hf a ha
  have g : gi (nI a) 1500 := (n_gi (by omega)).mpr (by omega)
  unfold fX9_scanToken
  have c3' : zI σ 1728 0 0 (Int32.toNatClampNeg (nI a)) = sby (f a) := by rw [n_cl (by omega)]; exact c3
  rw [if_pos g, c3', bq_e (let_C c1)]
  by_cases q : 97 ≤ f a ∧ f a ≤ 122
  · rw [if_pos q, if_pos q, if10, bq_id]
  · rw [if_neg q, if_neg q, if00, if_pos g, c3', bq_e (dig_C c1)]
    by_cases q2 : 48 ≤ f a ∧ f a ≤ 57
    · rw [if_pos q2, if_pos q2, if10, bq_id]
    · rw [if_neg q2, if_neg q2, if00, if_pos g, c3', i_1, n_add, sby_and _ c1]
      by_cases q3 : a + 1 < T
      · obtain ⟨d1, d2, d3⟩ := hf (a + 1) q3
        rw [if_pos q3, if_neg (fun z => by have := (n_le (by omega) (by omega)).mp z; omega), if_pos ((n_gi (by omega)).mpr (by omega)), show zI σ 1728 0 0 (Int32.toNatClampNeg (nI (a + 1))) = sby (f (a + 1)) by rw [n_cl (by omega)]; exact d3, sby_and _ d1]
      · rw [if_neg q3, if_pos ((n_le (by omega) (by omega)).mpr (by omega))]
        rfl
theorem tok_w (h : Tp T f σ ρ) (hK : ∀ i, i < 32 → zJ σ 1603 0 0 i = kwG i ∧ zJ ρ 1921 0 0 i = kmG i) (ha : a < T) (h32 : f a ≠ 32) (h10 : f a ≠ 10) (q : 97 ≤ f a ∧ f a ≤ 122) : ∃ k e w w', TOK T a σ ρ k e w w' := by
  have hT := h.1
  have hFU : ∀ k, k ≤ 1500 → k < FU := fun k hk => by unfold FU; omega
  obtain ⟨e, e1, e2, e3, e4, e5, e6⟩ := wrd_l h ha (T - a) a (by omega) (Nat.le_refl _) (fun i h1 h2 => by omega)
  have hae : a < e := by
    rcases Nat.lt_or_ge a e with q1 | q1
    · exact q1
    · have ee : e = a := by omega
      subst ee
      exact absurd (Or.inl q) (e4 ha)
  obtain ⟨w, hw⟩ : ∃ w, w = pwI f a (e - a) := ⟨_, rfl⟩
  have ez : pwI f a (a - a) = 0 := by rw [Nat.sub_self]; rfl
  rw [ez, ← hw] at e5 e6
  have hC := e5 FU (hFU _ (by omega))
  have hRk : ∀ i, i < 32 → zJ ρ 1921 0 0 (0 + i) = kwG i := fun i hi => by rw [Nat.zero_add, (hK i hi).2, kw_same i hi]
  have hix := name_R (c := 1921) (p := 0) (s := 0) (n0 := 32) (off := 0) (N := 32) (w := w) (ρ := ρ) (by decide) (by decide) (by decide)
  rw [nix_c (g := kwG) _ _ (fun i _ hi => hRk i (by omega))] at hix
  have hL : ∀ n k7, fX14_cutTokens_31 k7 (n + 1) (nI a) ρ = fiR e a w k7 (nix kwG w 32 0) ρ := fun n k7 => by
    rw [cut_31 h ha h32 h10, if_pos q, e6 FU k7 (hFU _ (by omega)), bq_e (show fX14_indexOf 1921 0 0 32 0 32 w ρ = _ from hix)]
  have hS : fX9_scanToken (nI T) (nI a) σ = fX9_scanWord_47 (nI T) (nI a) FU (nI e) w 2 0 σ := by
    rw [scan_T h ha, if_pos q]
    unfold fX9_scanWord
    exact hC
  have hKc : ∀ i, i < 32 → zJ σ 1603 0 0 i = kwG i := fun i hi => (hK i hi).1
  by_cases q8 : e - a ≤ 8
  · by_cases hq : ∃ j, j < 32 ∧ kwG j = w
    · obtain ⟨j, hj, hj2⟩ := hq
      refine ⟨j, e, w, w, hae, e2, ?_, by omega, fun _ => rfl, fun z => by omega, fun z => by omega, ?_, fun n k7 => ?_⟩
      · unfold vk
        rw [decide_eq_true hj]; rfl
      · have := kw_l1 (T := T) (w := w) (Nat.le_of_lt hae) (by omega) hKc hj hj2 j 0 FU 2 (by omega) (by unfold FU; omega)
        rw [hS, show fX9_scanWord_47 (nI T) (nI a) FU (nI e) w 2 0 σ = _ from this]
        unfold fiC ck
        rw [if_pos q8, if_pos hj]
      · have hn : nix kwG w 32 0 = nI j := by
          rcases nix_s (f := kwG) (w := w) 32 0 with ⟨_, n2⟩ | ⟨i, _, hi, n3, n1, _⟩
          · exact absurd hj2 (n2 j (Nat.zero_le _) (by omega))
          · rw [n1, kw_inj (show i < 32 by omega) hj (n3.trans hj2.symm)]
        rw [hL, hn]
        unfold fiR
        rw [if_pos q8, if_neg (n_mx (a := j) (by omega))]
    · have hq' : ∀ j, 0 ≤ j → j < 32 → kwG j ≠ w := fun j _ hj z => hq ⟨j, hj, z⟩
      refine ⟨200, e, w, w, hae, e2, rfl, by decide, fun _ => rfl, fun _ => ?_, fun z => by omega, ?_, fun n k7 => ?_⟩
      · refine ⟨e - a, fun i => f (a + i), by omega, q8, fun i hi => e3 (a + i) (by omega) (by omega), ?_, ?_⟩
        · exact q.1
        · rw [hw, pwI_n (e - a) q8 (fun i hi => e3 (a + i) (by omega) (by omega))]
      · have := kw_l0 (T := T) (w := w) (Nat.le_of_lt hae) (show e ≤ 1500 by omega) hKc 32 0 FU 2 (by omega) (by unfold FU; omega) hq'
        rw [hS, show fX9_scanWord_47 (nI T) (nI a) FU (nI e) w 2 0 σ = _ from this]
        unfold fiC
        rw [if_pos q8]
        rfl
      · have hn : nix kwG w 32 0 = -nI 1 := nix_no (fun s hs => hq' s (Nat.zero_le _) hs)
        rw [hL, hn]
        unfold fiR
        rw [if_pos q8, if_pos (show (-nI 1 : Int32) = -1 from rfl)]
        rfl
  · refine ⟨203, e, w, w, hae, e2, rfl, by decide, fun _ => rfl, fun z => by omega, fun z => by omega, ?_, fun n k7 => ?_⟩
    · rw [hS]
      by_cases hq : ∃ j, j < 32 ∧ kwG j = w
      · obtain ⟨j, hj, hj2⟩ := hq
        have := kw_l1 (T := T) (w := w) (Nat.le_of_lt hae) (show e ≤ 1500 by omega) hKc hj hj2 j 0 FU 2 (by omega) (by unfold FU; omega)
        rw [show fX9_scanWord_47 (nI T) (nI a) FU (nI e) w 2 0 σ = _ from this]
        unfold fiC
        rw [if_neg q8]
        rfl
      · have := kw_l0 (T := T) (w := w) (Nat.le_of_lt hae) (show e ≤ 1500 by omega) hKc 32 0 FU 2 (by omega) (by unfold FU; omega) (fun j _ hj z => hq ⟨j, hj, z⟩)
        rw [show fX9_scanWord_47 (nI T) (nI a) FU (nI e) w 2 0 σ = _ from this]
        unfold fiC
        rw [if_neg q8]
        rfl
    · rw [hL]
      unfold fiR
      rw [if_neg q8]
      rfl
theorem tok_n (h : Tp T f σ ρ) (ha : a < T) (h32 : f a ≠ 32) (h10 : f a ≠ 10) (q : 48 ≤ f a ∧ f a ≤ 57) : ∃ k e w w', TOK T a σ ρ k e w w' := by
  have hT := h.1
  have q0 : ¬ (97 ≤ f a ∧ f a ≤ 122) := by omega
  have hFU : ∀ k, k ≤ 1500 → k < FU := fun k hk => by unfold FU; omega
  obtain ⟨e, wc, wr, e1, e2, e3, e4, e7, e5, e6⟩ := num_l h ha (T - a) a (by omega) (Nat.le_refl _) (fun i h1 h2 => by omega) 0 0 (fun _ => by rw [Nat.sub_self]; exact ⟨rfl, rfl⟩)
  have hae : a < e := by
    rcases Nat.lt_or_ge a e with q1 | q1
    · exact q1
    · have ee : e = a := by omega
      subst ee
      exact absurd q (e7 ha)
  have hS : fX9_scanToken (nI T) (nI a) σ = fX9_scanNumber_45 (nI T) (nI a) (nI e) wc σ := by
    rw [scan_T h ha, if_neg q0, if_pos q]
    unfold fX9_scanNumber
    exact e5 FU (hFU _ (by omega))
  have hL : ∀ n k7, fX14_cutTokens_31 k7 (n + 1) (nI a) ρ = (if e - a ≤ 9 then bq (fX14_token 201 (nI a) wr ρ) (fun _ z => k7 (nI e) z) else bq (fX14_token 203 (nI a) wr ρ) fun _ z => k7 (nI e) z) := fun n k7 => by
    rw [cut_31 h ha h32 h10, if_neg q0, if_pos q]
    exact e6 FU k7 (hFU _ (by omega))
  by_cases q9 : e - a ≤ 9
  · obtain ⟨v1, v2⟩ := e4 q9
    refine ⟨201, e, wr, wc, hae, e2, rfl, by decide, fun _ => by rw [v1, v2], fun z => by omega, fun _ => ⟨nuN f a (e - a), ?_, v2⟩, ?_, fun n k7 => ?_⟩
    · have := Nat.lt_of_lt_of_le (nuN_lt (f := f) (a := a) (e - a) (fun i hi => e3 (a + i) (by omega) (by omega))) (Nat.pow_le_pow_right (by decide) q9)
      exact this
    · rw [hS]
      unfold fX9_scanNumber_45
      rw [i_9, if_pos ((sub_8 (Nat.le_of_lt hae) (by omega) (by omega)).mpr q9)]
      rfl
    · rw [hL, if_pos q9]; rfl
  · refine ⟨203, e, wr, wc, hae, e2, rfl, by decide, fun z => absurd rfl z, fun z => by omega, fun z => by omega, ?_, fun n k7 => ?_⟩
    · rw [hS]
      unfold fX9_scanNumber_45
      rw [i_9, if_neg (fun z => q9 ((sub_8 (Nat.le_of_lt hae) (by omega) (by omega)).mp z))]
      rfl
    · rw [hL, if_neg q9]; rfl
theorem tok_s (h : Tp T f σ ρ) (ha : a < T) (h32 : f a ≠ 32) (h10 : f a ≠ 10) (q1 : ¬ (97 ≤ f a ∧ f a ≤ 122)) (q2 : ¬ (48 ≤ f a ∧ f a ≤ 57)) : ∃ k e w w', TOK T a σ ρ k e w w' := by
  obtain ⟨hT, _, hf⟩ := id h
  obtain ⟨c1, c2, c3⟩ := hf a ha
  have hS : fX9_scanToken (nI T) (nI a) σ = fX9_scanToken_63 (nI T) (nI a) (nI (f a)) (nI (if a + 1 < T then f (a + 1) else 0)) σ := by
    rw [scan_T h ha, if_neg q1, if_neg q2]
  have hL : ∀ n k7, fX14_cutTokens_31 k7 (n + 1) (nI a) ρ = bq (fX14_symbol (nI a) ρ) fun v z => k7 v z := fun n k7 => by
    rw [cut_31 h ha h32 h10, if_neg q1, if_neg q2]
  have i60' : (60 : Int32) = nI 60 := rfl
  have i61' : (61 : Int32) = nI 61 := rfl
  have i62' : (62 : Int32) = nI 62 := rfl
  have s2 : ((nI a : Int32) + 2) = nI (a + 2) := by rw [i_2, n_add]
  have s1 : ((nI a : Int32) + 1) = nI (a + 1) := by rw [i_1, n_add]
  -- the byte behind
  obtain ⟨d, b5, hd1, hd2, hd3, hd4⟩ : ∃ (d : Nat) (b5 : Int32), (if a + 1 < T then f (a + 1) else 0) = d ∧ d < 256 ∧ fX14_byteAt (nI (a + 1)) ρ = some (b5, ρ) ∧ ∀ k, 0 < k → k < 128 → ((b5 = nI k ↔ d = k) ∧ (d = k → a + 1 < T)) := by
    by_cases q3 : a + 1 < T
    · rw [if_pos q3]
      exact ⟨f (a + 1), nI (f (a + 1)), rfl, (hf (a + 1) q3).1, byt_R h q3, fun k _ hk => ⟨n_eq (by have := (hf (a + 1) q3).1; omega) (by omega), fun _ => q3⟩⟩
    · rw [if_neg q3]
      refine ⟨0, -1, rfl, by decide, byt_E h (by omega) (by omega), fun k h0 hk => ⟨⟨fun z => ?_, fun z => by omega⟩, fun z => by omega⟩⟩
      exact absurd (show (nI k : Int32) = -nI 1 from z.symm) (by rw [n_m1 (by omega)]; exact id)
  rw [hd1] at hS
  have hp : ∀ {κ : Int32} {w : Int64}, bq (fX9_addToken κ (nI a) w σ) (fun _ z => some ((nI a : Int32) + 2, z)) = bq (fX9_addToken κ (nI a) w σ) fun _ z => some (nI (a + 2), z) := by
    intro κ w; rw [s2]
  have hpr : ((nI (f a) : Int32) * 256) + nI d = nI (f a * 256 + d) := by rw [i_256, n_mul, n_add]
  have k15421 : (15421 : Int32) = nI 15421 := rfl
  have k15933 : (15933 : Int32) = nI 15933 := rfl
  have k15422 : (15422 : Int32) = nI 15422 := rfl
  unfold fX9_scanToken_63 at hS
  rw [hpr, k15421, k15933, k15422] at hS
  have hsy : fX14_symbol (nI a) ρ = (if nI (f a) = (60 : Int32) then (fX14_symbol_26 (nI a) (nI (f a)) b5 ρ) else (if nI (f a) = (62 : Int32) then (fX14_symbol_26 (nI a) (nI (f a)) b5 ρ) else (if nI (f a) = (60 : Int32) then (if b5 = 62 then (fX14_symbol_49 (nI a) (nI (f a)) b5 1 ρ) else (fX14_symbol_49 (nI a) (nI (f a)) b5 0 ρ)) else (fX14_symbol_49 (nI a) (nI (f a)) b5 0 ρ)))) := by
    unfold fX14_symbol
    rw [bq_e (byt_R h ha), s1, bq_e hd3]
  have e60 : (nI (f a) : Int32) = 60 ↔ f a = 60 := n_eq (a := f a) (b := 60) (by omega) (by omega)
  have e62 : (nI (f a) : Int32) = 62 ↔ f a = 62 := n_eq (a := f a) (b := 62) (by omega) (by omega)
  have d61 : b5 = 61 ↔ d = 61 := (hd4 61 (by decide) (by decide)).1
  have d62 : b5 = 62 ↔ d = 62 := (hd4 62 (by decide) (by decide)).1
  have two : ∀ k, fX14_symbol_89 (nI a) 1 (nI k) ρ = bq (fX14_token (nI k) (nI a) 0 ρ) fun _ z => some (nI (a + 2), z) := fun k => by
    unfold fX14_symbol_89
    refine congrArg _ (funext fun v => funext fun z => ?_)
    rw [if10, s2]
  have bk : ∀ (o : Option (Unit × Zs)) (e : Nat) (k7 : Int32 → Zs → Option (Unit × Zs)), bq (bq o fun _ z => some ((nI e : Int32), z)) (fun v z => k7 v z) = bq o fun _ z => k7 (nI e) z := fun o e k7 => by rw [bq_as]; rfl
  by_cases p1 : f a = 60 ∧ d = 61
  · refine ⟨112, a + 2, 0, 0, by omega, ?_, rfl, by decide, fun _ => rfl, fun z => by omega, fun z => by omega, ?_, fun n k7 => ?_⟩
    · have := (hd4 61 (by decide) (by decide)).2 p1.2; omega
    · rw [hS, if_pos (by rw [p1.1, p1.2]), s2, p1.1, p1.2]; rfl
    · rw [hL, hsy, if_pos (e60.mpr p1.1)]
      unfold fX14_symbol_26 fX14_symbol_49
      rw [if_pos (d61.mpr p1.2), if10, if_neg (fun z => by have := e62.mp z; omega), if_pos (d61.mpr p1.2)]
      rw [show fX14_symbol_89 (nI a) 1 112 ρ = _ from two 112, bk]
  · by_cases p2 : f a = 62 ∧ d = 61
    · refine ⟨113, a + 2, 0, 0, by omega, ?_, rfl, by decide, fun _ => rfl, fun z => by omega, fun z => by omega, ?_, fun n k7 => ?_⟩
      · have := (hd4 61 (by decide) (by decide)).2 p2.2; omega
      · rw [hS, if_neg (fun z => by have := (n_eq (by omega) (by omega)).mp z; omega), if_pos (by rw [p2.1, p2.2]), s2, p2.1, p2.2]; rfl
      · rw [hL, hsy, if_neg (fun z => by have := e60.mp z; omega), if_pos (e62.mpr p2.1)]
        unfold fX14_symbol_26 fX14_symbol_49
        rw [if_pos (d61.mpr p2.2), if10, if_pos (e62.mpr p2.1)]
        rw [show fX14_symbol_89 (nI a) 1 113 ρ = _ from two 113, bk]
    · by_cases p3 : f a = 60 ∧ d = 62
      · refine ⟨114, a + 2, 0, 0, by omega, ?_, rfl, by decide, fun _ => rfl, fun z => by omega, fun z => by omega, ?_, fun n k7 => ?_⟩
        · have := (hd4 62 (by decide) (by decide)).2 p3.2; omega
        · rw [hS, if_neg (fun z => by have := (n_eq (by omega) (by omega)).mp z; omega), if_neg (fun z => by have := (n_eq (by omega) (by omega)).mp z; omega), if_pos (by rw [p3.1, p3.2]), s2, p3.1, p3.2]; rfl
        · rw [hL, hsy, if_pos (e60.mpr p3.1)]
          unfold fX14_symbol_26 fX14_symbol_49
          rw [if_neg (fun z => by have := d61.mp z; omega), if_pos (e60.mpr p3.1), if_pos (d62.mpr p3.2), if10, if_neg (fun z => by have := e62.mp z; omega), if_neg (fun z => by have := d61.mp z; omega)]
          rw [show fX14_symbol_89 (nI a) 1 114 ρ = _ from two 114, bk]
      · have hS2 : fX9_scanToken (nI T) (nI a) σ = if tx_ix 1 (nI (f a)) < 0 then (bq (fX9_addToken 1 (nI a) 0 σ) fun _ z => some (nI (a + 1), z)) else (bq (fX9_addToken (nI (f a)) (nI a) 0 σ) fun _ z => some (nI (a + 1), z)) := by
          rw [hS, if_neg (fun z => by have := (n_eq (by omega) (by omega)).mp z; omega), if_neg (fun z => by have := (n_eq (by omega) (by omega)).mp z; omega), if_neg (fun z => by have := (n_eq (by omega) (by omega)).mp z; omega), sym_u _ c1, s1]
        have hy : fX14_symbol (nI a) ρ = fX14_symbol_49 (nI a) (nI (f a)) b5 0 ρ := by
          rw [hsy]
          have g26 : fX14_symbol_26 (nI a) (nI (f a)) b5 ρ = (if b5 = 61 then fX14_symbol_49 (nI a) (nI (f a)) b5 1 ρ else if (nI (f a) : Int32) = 60 then (if b5 = 62 then fX14_symbol_49 (nI a) (nI (f a)) b5 1 ρ else fX14_symbol_49 (nI a) (nI (f a)) b5 0 ρ) else fX14_symbol_49 (nI a) (nI (f a)) b5 0 ρ) := rfl
          by_cases r1 : f a = 60
          · have r2 : ¬ b5 = 61 := fun z => p1 ⟨r1, d61.mp z⟩
            have r3 : ¬ b5 = 62 := fun z => p3 ⟨r1, d62.mp z⟩
            rw [if_pos (e60.mpr r1), g26, if_neg r2, if_pos (e60.mpr r1), if_neg r3]
          · have r0 : ¬ (nI (f a) : Int32) = 60 := fun z => r1 (e60.mp z)
            by_cases r4 : f a = 62
            · have r2 : ¬ b5 = 61 := fun z => p2 ⟨r4, d61.mp z⟩
              rw [if_neg r0, if_pos (e62.mpr r4), g26, if_neg r2, if_neg r0]
            · rw [if_neg r0, if_neg (fun z => r4 (e62.mp z)), if_neg r0]
        have hy2 : fX14_symbol (nI a) ρ = if (0 : Int32) ≤ tx_ix 1 (nI (f a)) then bq (fX14_token (100 + tx_ix 1 (nI (f a))) (nI a) 0 ρ) (fun _ z => some (nI (a + 1), z)) else bq (fX14_token 203 (nI a) 0 ρ) fun _ z => some (nI (a + 1), z) := by
          rw [hy]
          unfold fX14_symbol_49 fX14_symbol_114
          rw [if00, s1]
          simp only [if_true]
        rcases sym_ix _ c1 with m1 | ⟨j, hj, m1, m2⟩
        · refine ⟨203, a + 1, 0, 0, by omega, by omega, rfl, by decide, fun _ => rfl, fun z => by omega, fun z => by omega, ?_, fun n k7 => ?_⟩
          · rw [hS2, m1, if_pos (by decide)]; rfl
          · rw [hL, hy2, m1, if_neg (by decide), bk]; rfl
        · refine ⟨100 + j, a + 1, 0, 0, by omega, by omega, ?_, by omega, fun _ => rfl, fun z => by omega, fun z => by omega, ?_, fun n k7 => ?_⟩
          · unfold vk
            rw [decide_eq_true (show 100 ≤ 100 + j by omega), decide_eq_true (show 100 + j < 115 by omega)]
            simp
          · rw [hS2, m1, if_neg (m1_lt (by omega)), m2]
          · rw [hL, hy2, m1, if_pos (by rw [i_0, n_le (by omega) (by omega)]; omega), i_100, n_add, bk]
theorem tok_1 (h : Tp T f σ ρ) (hK : ∀ i, i < 32 → zJ σ 1603 0 0 i = kwG i ∧ zJ ρ 1921 0 0 i = kmG i) (ha : a < T) (h32 : f a ≠ 32) (h10 : f a ≠ 10) : ∃ k e w w', TOK T a σ ρ k e w w' := by
  by_cases q1 : 97 ≤ f a ∧ f a ≤ 122
  · exact tok_w h hK ha h32 h10 q1
  · by_cases q2 : 48 ≤ f a ∧ f a ≤ 57
    · exact tok_n h ha h32 h10 q2
    · exact tok_s h ha h32 h10 q1 q2
end SC
