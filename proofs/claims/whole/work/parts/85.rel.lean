/-! HOW BOTH STAND TO ONE ANOTHER BETWEEN CALLS -/
/-- a word of a tape: a letter, then letters and digits -/
def wByte (b : Nat) : Prop := (97 ≤ b ∧ b ≤ 122) ∨ (48 ≤ b ∧ b ≤ 57)
def pkw : Nat → (Nat → Nat) → Nat
  | 0, _ => 0
  | n + 1, f => 256 * pkw n f + f n
def isName (w : Int64) : Prop := ∃ (n : Nat) (f : Nat → Nat), 1 ≤ n ∧ n ≤ 8 ∧ (∀ i, i < n → wByte (f i)) ∧ 97 ≤ f 0 ∧ w = lN (pkw n f)
def NmOk (d : Pd) : Prop := ∀ s, s < dN d → isName (dNm d s) ∧ ∀ t, t < dN d → dNm d s = dNm d t → s = t
def RLog (L : Nat) (σ ρ : Zs) : Prop := L ≤ 200 ∧ zI σ 716 0 0 0 = nI L ∧ zI ρ 940 0 0 0 = nI L ∧ ∀ e, e < L → Ent σ ρ e
def RMark (L : Nat) (σ ρ : Zs) : Prop := ∃ (K : Nat) (m : Nat → Nat), K ≤ 8 ∧ zI σ 718 0 0 0 = nI K ∧ zI ρ 946 0 0 0 = nI K ∧ (∀ k, k < K → zI σ 1741 0 0 k = nI (m k) ∧ zI ρ 1971 0 0 k = nI (m k) ∧ m k ≤ L) ∧ ∀ j k : Nat, j ≤ k → k < K → m j ≤ m k
def RVal (σ ρ : Zs) : Prop := ∃ v, v ≤ 6 ∧ zI σ 385 3 0 0 = nI v ∧ zI ρ 948 0 0 0 = nI v ∧ ∀ c, c < v → zJ σ 1410 3 0 c = zJ ρ 1973 0 0 c
def sby (b : Nat) : Int32 := if b < 128 then nI b else nI b - nI 256
def RTape (B : Nat) (σ ρ : Zs) : Prop := ∃ (T : Nat) (f : Nat → Nat), (T ≤ B ∧ T ≤ 1500) ∧ zI σ 705 0 0 0 = nI T ∧ zI ρ 900 0 0 0 = nI T ∧ ∀ i : Nat, i < T → f i < 256 ∧ zI ρ 1923 0 0 i = nI (f i) ∧ zI σ 1728 0 0 i = sby (f i)
def ROld1 (Q s w r : Nat) (σ ρ : Zs) : Prop := zJ σ 448 Q s 0 = zJ ρ 1975 0 0 s ∧ w ≤ 6 ∧ r ≤ 200 ∧ zI σ 513 Q s 0 = nI w ∧ zI ρ 1976 0 0 s = nI w ∧ zI σ 512 Q s 0 = nI r ∧ zI ρ 1977 0 0 s = nI r
  ∧ ∀ i, i < r → (∃ t, t < 2147483648 ∧ zI σ 1538 Q s i = nI t ∧ zJ ρ 1978 0 0 ((200 * s + i) * 7) = lN t) ∧ ∀ c, c < w → zJ σ 1539 Q s (i * 6 + c) = zJ ρ 1978 0 0 ((200 * s + i) * 7 + 1 + c)
def ROld (Q : Nat) (σ ρ : Zs) : Prop := ∃ o, o ≤ 12 ∧ zI σ 321 Q 0 0 = nI o ∧ zI ρ 950 0 0 0 = nI o ∧ ∀ s, s < o → ∃ w r, ROld1 Q s w r σ ρ
def RKey (σ ρ : Zs) : Prop := ∀ i, i < 32 → zJ σ 1603 0 0 i = kwG i ∧ zJ ρ 1921 0 0 i = kmG i
/-- what is sane of the parser's cells between calls -/
def San0 (σ : Zs) : Prop := (∃ w, w ≤ 1500 ∧ zI σ 201 0 0 0 = nI w) ∧ ∀ p s, ∃ w, w ≤ 6 ∧ zI σ 450 p s 0 = nI w
def RB (B P Q S L : Nat) (σ ρ : Zs) : Prop := (zR σ 707 0 0 0 = (P, 0) ∧ zR σ 708 0 0 0 = (Q, 0) ∧ zR σ 709 0 0 0 = (S, 0)) ∧ RLog L σ ρ ∧ RMark L σ ρ ∧ RVal σ ρ ∧ RTape B σ ρ ∧ ROld Q σ ρ ∧ RKey σ ρ ∧ zI σ 712 0 0 0 = zI ρ 915 0 0 0 ∧ San0 σ
def Rl (B P Q S g L : Nat) (d : Pd) (X : Nat → Nat → Nat) (σ ρ : Zs) : Prop := (P < 3 ∧ Q < 3 ∧ S < 3 ∧ P ≠ Q ∧ P ≠ S ∧ Q ≠ S ∧ g < 2) ∧ EB P g d σ ρ ∧ ER P d σ ρ False X σ ρ ∧ Good d L X ∧ Setl d X ∧ NmOk d ∧ RB B P Q S L σ ρ
def Rel (B : Nat) (σ ρ : Zs) : Prop := ∃ P Q S g L d X, Rl B P Q S g L d X σ ρ
-- frames
section RF
variable {B P Q S L : Nat} {σ ρ σ' ρ' : Zs}
theorem RLog.fr (h : RLog L σ ρ) (f : EFC P σ σ') (k : EFR ρ ρ') : RLog L σ' ρ' := ⟨h.1, ((f 716 0 (by simp [wC]) 0 0).1).trans h.2.1, ((k 940 (by decide) 0 0 0).1).trans h.2.2.1, fun e he => (h.2.2.2 e he).fr f k⟩
theorem RMark.fr (h : RMark L σ ρ) (f : EFC P σ σ') (k : EFR ρ ρ') : RMark L σ' ρ' := by
  obtain ⟨K, m, h1, h2, h3, h4, h5⟩ := h
  exact ⟨K, m, h1, ((f 718 0 (by simp [wC]) 0 0).1).trans h2, ((k 946 (by decide) 0 0 0).1).trans h3, fun j hj => ⟨((f 1741 0 (by simp [wC]) 0 j).1).trans (h4 j hj).1, ((k 1971 (by decide) 0 0 j).1).trans (h4 j hj).2.1, (h4 j hj).2.2⟩, h5⟩
theorem RVal.fr (h : RVal σ ρ) (hP : P < 3) (f : EFC P σ σ') (k : EFR ρ ρ') : RVal σ' ρ' := by
  obtain ⟨v, h1, h2, h3, h4⟩ := h
  refine ⟨v, h1, ((f 385 3 (by simp [wC]) 0 0).1).trans h2, ((k 948 (by decide) 0 0 0).1).trans h3, fun c hc => ?_⟩
  rw [(f 1410 3 (by simp [wC]) 0 c).2.1, (k 1973 (by decide) 0 0 c).2.1]
  exact h4 c hc
theorem RTape.fr (h : RTape B σ ρ) (f : EFC P σ σ') (k : EFR ρ ρ') : RTape B σ' ρ' := by
  obtain ⟨T, b, h1, h2, h3, h4⟩ := h
  exact ⟨T, b, h1, ((f 705 0 (by simp [wC]) 0 0).1).trans h2, ((k 900 (by decide) 0 0 0).1).trans h3, fun i hi => ⟨(h4 i hi).1, ((k 1923 (by decide) 0 0 i).1).trans (h4 i hi).2.1, ((f 1728 0 (by simp [wC]) 0 i).1).trans (h4 i hi).2.2⟩⟩
theorem ROld1.fr {s w r : Nat} (h : ROld1 Q s w r σ ρ) (hPQ : P ≠ Q) (f : EFC P σ σ') (k : EFR ρ ρ') : ROld1 Q s w r σ' ρ' := by
  have hQ : ¬ Q = P := fun q => hPQ q.symm
  obtain ⟨h1, h2, h3, h4, h5, h6, h7, h8⟩ := h
  refine ⟨?_, h2, h3, ((f 513 Q (by simp [wC, hQ]) s 0).1).trans h4, ((k 1976 (by decide) 0 0 s).1).trans h5, ((f 512 Q (by simp [wC, hQ]) s 0).1).trans h6, ((k 1977 (by decide) 0 0 s).1).trans h7, fun i hi => ?_⟩
  · rw [(f 448 Q (by simp [wC, hQ]) s 0).2.1, (k 1975 (by decide) 0 0 s).2.1]; exact h1
  · obtain ⟨⟨t, t1, t2, t3⟩, t4⟩ := h8 i hi
    refine ⟨⟨t, t1, ((f 1538 Q (by simp [wC, hQ]) s i).1).trans t2, ((k 1978 (by decide) 0 0 _).2.1).trans t3⟩, fun c hc => ?_⟩
    rw [(f 1539 Q (by simp [wC, hQ]) s _).2.1, (k 1978 (by decide) 0 0 _).2.1]; exact t4 c hc
theorem ROld.fr (h : ROld Q σ ρ) (hPQ : P ≠ Q) (f : EFC P σ σ') (k : EFR ρ ρ') : ROld Q σ' ρ' := by
  have hQ : ¬ Q = P := fun q => hPQ q.symm
  obtain ⟨o, h1, h2, h3, h4⟩ := h
  refine ⟨o, h1, ((f 321 Q (by simp [wC, hQ]) 0 0).1).trans h2, ((k 950 (by decide) 0 0 0).1).trans h3, fun s hs => ?_⟩
  obtain ⟨w, r, h5⟩ := h4 s hs
  exact ⟨w, r, h5.fr hPQ f k⟩
theorem RKey.fr (h : RKey σ ρ) (f : EFC P σ σ') (k : EFR ρ ρ') : RKey σ' ρ' := fun i hi => ⟨((f 1603 0 (by simp [wC]) 0 i).2.1).trans (h i hi).1, ((k 1921 (by decide) 0 0 i).2.1).trans (h i hi).2⟩
theorem San0.fr (h : San0 σ) (f : EFC P σ σ') : San0 σ' := by
  obtain ⟨⟨w, h1, h2⟩, h3⟩ := h
  refine ⟨⟨w, h1, ((f 201 0 (by simp [wC]) 0 0).1).trans h2⟩, fun p s => ?_⟩
  obtain ⟨v, k1, k2⟩ := h3 p s
  exact ⟨v, k1, ((f 450 p (by simp [wC]) s 0).1).trans k2⟩
theorem RB.fr (h : RB B P Q S L σ ρ) (hP : P < 3) (hPQ : P ≠ Q) (f : EFC P σ σ') (k : EFR ρ ρ') : RB B P Q S L σ' ρ' := by
  obtain ⟨⟨a1, a2, a3⟩, h1, h2, h3, h4, h5, h6, h7, h8⟩ := h
  refine ⟨⟨((f 707 0 (by simp [wC]) 0 0).2.2).trans a1, ((f 708 0 (by simp [wC]) 0 0).2.2).trans a2, ((f 709 0 (by simp [wC]) 0 0).2.2).trans a3⟩, h1.fr f k, h2.fr f k, h3.fr hP f k, h4.fr f k, h5.fr hPQ f k, h6.fr f k, ?_, h8.fr f⟩
  rw [(f 712 0 (by simp [wC]) 0 0).1, (k 915 (by decide) 0 0 0).1]; exact h7
end RF
/-- the answers of a call: the class's, the law's and what the law says was thrown -/
def Ans {α : Type} (Ls : List String) (v : Except String α) (w : α) (t : Int32) : Prop := match v with
  | .ok a => t = 0 ∧ a = w
  | .error e => e ∈ Ls ∧ t = codL Ls 1 e
section RC
variable {B P Q S g L N : Nat} {d : Pd} {X : Nat → Nat → Nat} {σ ρ : Zs}
theorem Rl.rel (h : Rl B P Q S g L d X σ ρ) : Rel B σ ρ := ⟨P, Q, S, g, L, d, X, h⟩
theorem RTape.mono {B' : Nat} (h : RTape B σ ρ) (hB : B ≤ B') : RTape B' σ ρ := by
  obtain ⟨T, f, h1, h2⟩ := h
  exact ⟨T, f, ⟨by omega, h1.2⟩, h2⟩
theorem Rl.mono {B' : Nat} (h : Rl B P Q S g L d X σ ρ) (hB : B ≤ B') : Rl B' P Q S g L d X σ ρ := by
  obtain ⟨h1, h2, h3, h4, h5, h6, h7, h8, h9, h10, h11, h12⟩ := h
  exact ⟨h1, h2, h3, h4, h5, h6, h7, h8, h9, h10, h11.mono hB, h12⟩
theorem ER.sw {τ : Prop} {σ0 ρ0 : Zs} (h : ER P d σ0 ρ0 τ X σ ρ) {σ' ρ' : Zs} (k : ETab P d X σ' ρ' ∧ ESeen P d X σ' ρ' ∧ EWin P d X σ' ρ' ∧ EHeld d X σ' ρ' ∧ EChk P d σ' ρ' ∧ EScal σ' ρ' ∧ EGiv P d X σ' ρ') : ER P d σ' ρ' False X σ' ρ' := ⟨False.elim, EFC.rf, EFR.rf, k⟩
/-- another number thrown -/
theorem Rl.thr (h : Rl B P Q S g L d X σ ρ) {v : Int32} : Rl B P Q S g L d X σ (sI ρ 896 0 0 0 v) := by
  obtain ⟨h1, h2, h3, h4, h5, h6, h7⟩ := h
  exact ⟨h1, ⟨h2.1, h2.2.1, h2.2.2.1, h2.2.2.2⟩, h3.sw h3.2.2.2, h4, h5, h6, h7⟩
theorem i32_c (x : Int32) : x < 0 ∨ ∃ a, a < 2147483648 ∧ x = nI a := by
  by_cases q : x < 0
  · exact Or.inl q
  · rw [Int32.lt_iff_toInt_lt] at q
    have h0 : (0 : Int32).toInt = 0 := rfl
    have h1 := x.toInt_lt
    refine Or.inr ⟨x.toInt.toNat, by omega, ?_⟩
    apply Int32.toInt_inj.mp
    rw [nI_toInt (by omega)]
    omega
/-- a number of a range 0 .. N - 1, or not -/
theorem isIn_x {x : Int32} (hN : N < 2147483648) : (∃ a, a < N ∧ x = nI a ∧ ∀ ρ, fX14_isIn x.toInt64 0 ((nI N - 1 : Int32).toInt64) ρ = some (1, ρ)) ∨ ((x < 0 ∨ ∃ a, a < 2147483648 ∧ N ≤ a ∧ x = nI a) ∧ ∀ ρ, fX14_isIn x.toInt64 0 ((nI N - 1 : Int32).toInt64) ρ = some (0, ρ)) := by
  rcases i32_c x with q | ⟨a, ha, rfl⟩
  · refine Or.inr ⟨Or.inl q, fun ρ => ?_⟩
    unfold fX14_isIn
    rw [if_pos]
    rw [l_cmplt, Int64.lt_iff_toInt_lt, Int32.toInt_toInt64]
    rw [Int32.lt_iff_toInt_lt] at q
    exact q
  · by_cases e : a < N
    · exact Or.inl ⟨a, e, rfl, fun ρ => by rw [isIn_R ha hN, if_pos e]⟩
    · exact Or.inr ⟨Or.inr ⟨a, ha, by omega, rfl⟩, fun ρ => by rw [isIn_R ha hN, if_neg e]⟩
/-- not of the range: what the class's comparisons say -/
theorem out_C {α : Type} {x : Int32} {A B : α} (hN : N < 2147483648) (h : x < 0 ∨ ∃ a, a < 2147483648 ∧ N ≤ a ∧ x = nI a) : (if x < 0 then A else if x < nI N then B else A) = A := by
  rcases h with q | ⟨a, ha, h2, rfl⟩
  · rw [if_pos q]
  · split
    · rfl
    · rw [if_neg]
      rw [n_lt ha hN]; omega
theorem in_C {α : Type} {a : Nat} {A B : α} (hN : N < 2147483648) (h : a < N) : (if (nI a : Int32) < 0 then A else if (nI a : Int32) < nI N then B else A) = B := by
  rw [if_neg, if_pos]
  · rw [n_lt (by omega) hN]; exact h
  · rw [i_0, n_lt (by omega) (by omega)]; omega
theorem Rl.n12 (h : Rl B P Q S g L d X σ ρ) : dN d ≤ 12 := h.2.1.1.1
/-- a stream that is asked for -/
theorem Rl.at (h : Rl B P Q S g L d X σ ρ) (x : Int32) : (∃ a, a < dN d ∧ x = nI a ∧ fX11_streamAt x σ = some (.ok (P, a), σ) ∧ fX14_isStream x ρ = some (1, ρ)) ∨ (fX11_streamAt x σ = some (.error "java/lang/IndexOutOfBoundsException", σ) ∧ fX14_isStream x ρ = some (0, ρ)) := by
  obtain ⟨h1, ⟨hW, hPC, hPR, hz, hz3, hP⟩, h3, h4, h5, h6, h7⟩ := h
  have hN := hW.1
  have h707 := h7.1.1
  have h321 := hPC.1
  have h768 := hPR.1
  have e1 : (zR σ 707 0 0 0).1 = P := by rw [h707]
  have e2 : (zR ρ 898 0 0 0).1 = g := by rw [hz3]
  unfold fX11_streamAt fX14_isStream
  rw [e1, e2, h321, h768]
  rcases isIn_x (x := x) (N := dN d) (by omega) with ⟨a, ha, rfl, k⟩ | ⟨q, k⟩
  · refine Or.inl ⟨a, ha, rfl, ?_, ?_⟩
    · rw [in_C (by omega) ha, if_pos ((n_gi (by omega)).mpr (by omega)), n_cl (by omega)]
    · rw [bq_e (k ρ), if_pos (Or.inr rfl)]
  · refine Or.inr ⟨?_, ?_⟩
    · rw [out_C (by omega) q]
    · rw [bq_e (k ρ), if_pos (Or.inl rfl)]
end RC
