/-! THE TAPE -/
theorem by_1 (y : Int32) : ∃ b, b < 256 ∧ (y &&& 255 : Int32) = nI b ∧ vp_nar .byte (y.toInt8.toInt32) = sby b := by
  have ht : y.toInt = if 2 * y.toBitVec.toNat < 2 ^ 32 then (y.toBitVec.toNat : Int) else (y.toBitVec.toNat : Int) - ((2 ^ 32 : Nat) : Int) := BitVec.toInt_eq_toNat_cond _
  have hm : y.toBitVec.toNat % 256 < 256 := Nat.mod_lt _ (by decide)
  refine ⟨y.toBitVec.toNat % 256, hm, ?_, ?_⟩
  · apply Int32.toBitVec_inj.mp
    apply BitVec.eq_of_toNat_eq
    rw [Int32.toBitVec_and, BitVec.toNat_and]
    show y.toBitVec.toNat &&& 255 = (BitVec.ofNat 32 (y.toBitVec.toNat % 256)).toNat
    rw [BitVec.toNat_ofNat, Nat.mod_eq_of_lt (by omega)]
    exact Nat.and_two_pow_sub_one_eq_mod _ 8
  · rw [pk_vb]
    apply Int32.toInt_inj.mp
    rw [Int8.toInt_toInt32, Int32.toInt_toInt8]
    have e : ((2 ^ 8 : Nat) : Int) = 256 := rfl
    have e2 : ((2 ^ 32 : Nat) : Int) = 4294967296 := rfl
    rw [e2] at ht
    unfold sby
    by_cases q : y.toBitVec.toNat % 256 < 128
    · rw [if_pos q, nI_toInt (by omega), Int.bmod_def]
      split at ht <;> split <;> omega
    · rw [if_neg q, pk_sub_toInt (by omega) (by omega), Int.bmod_def]
      split at ht <;> split <;> omega
theorem sby_i {b : Nat} (h : b < 256) : (sby b).toInt = if b < 128 then (b : Int) else (b : Int) - 256 := by
  unfold sby
  by_cases q : b < 128
  · rw [if_pos q, if_pos q, nI_toInt (by omega)]
  · rw [if_neg q, if_neg q, pk_sub_toInt (by omega) (by omega)]; rfl
section TA
variable {B P Q S g L N : Nat} {d : Pd} {X : Nat → Nat → Nat} {σ ρ : Zs}
theorem byte_1 (h : Rl B P Q S g L d X σ ρ) {T : Nat} (hT : zI σ 705 0 0 0 = nI T) (hT5 : T < 1500) {x y : Int32} (hy : ¬ y < 0) (n m : Nat) : ∃ σ' ρ', fX11_appendBytes_3 x (n + 1) y σ = fX11_appendBytes_3 x n (y + (-8)) σ' ∧ fX14_four_3 x (m + 1) y ρ = fX14_four_3 x m (y + (-8)) ρ' ∧ Rl (B + 1) P Q S g L d X σ' ρ' ∧ zI σ' 705 0 0 0 = nI (T + 1) ∧ zI ρ' 896 0 0 0 = zI ρ 896 0 0 0 ∧ zI ρ' 900 0 0 0 = nI (T + 1) := by
  obtain ⟨hp, ⟨hW, hPC, hPR, hz, hz3, hP⟩, hE, hG, hF, hNm, h7, hL, hM, hV, hTp, hO, hK, h12⟩ := h
  obtain ⟨T', f, t1, t2, t3, t4⟩ := hTp
  have eT : T' = T := (n_eq (by omega) (by omega)).mp (t2.symm.trans hT)
  subst eT
  obtain ⟨b, b1, b2, b3⟩ := by_1 (x >>> (y &&& 31))
  have c1 : ¬ 1500 ≤ T' := by omega
  have f1 : ∀ v, zI (sI σ 1728 0 0 T' v) 705 0 0 0 = nI T' := fun _ => t2
  have f2 : ∀ v, zI (sI ρ 1923 0 0 T' v) 900 0 0 0 = nI T' := fun _ => t3
  refine ⟨sI (sI σ 1728 0 0 T' (sby b)) 705 0 0 0 (nI (T' + 1)), sI (sI ρ 1923 0 0 T' (nI b)) 900 0 0 0 (nI (T' + 1)), ?_, ?_, ?_, rfl, rfl, rfl⟩
  · rw [fX11_appendBytes_3]
    simp (disch := omega) only [hy, t2, f1, i_1500, i_1, n_le, n_gi, n_cl, n_add, c1, hT5, lt_k, b3, ↓reduceIte]
  · rw [fX14_four_3]
    simp (disch := omega) only [hy, t3, f2, i_1, n_gi, n_cl, n_add, hT5, lt_k, b2, ↓reduceIte]
  · refine ⟨hp, ⟨hW, hPC, hPR, hz, hz3, hP⟩, hE.sw hE.2.2.2, hG, hF, hNm, h7, hL, hM, hV, ⟨T' + 1, fun i => if i = T' then b else f i, by omega, rfl, rfl, fun i hi => ?_⟩, hO, hK, h12⟩
    show (if i = T' then b else f i) < 256 ∧ zI (sI ρ 1923 0 0 T' (nI b)) 1923 0 0 i = nI (if i = T' then b else f i) ∧ zI (sI σ 1728 0 0 T' (sby b)) 1728 0 0 i = sby (if i = T' then b else f i)
    rw [zI_sI, zI_sI]
    by_cases e : i = T'
    · rw [if_pos e, if_pos ⟨rfl, rfl, rfl, e⟩, if_pos ⟨rfl, rfl, rfl, e⟩]
      exact ⟨b1, rfl, rfl⟩
    · rw [if_neg e, if_neg (fun z => e z.2.2.2), if_neg (fun z => e z.2.2.2)]
      exact t4 i (by omega)
theorem four_1 (h : Rl B P Q S g L d X σ ρ) {T : Nat} (hT : zI σ 705 0 0 0 = nI T) (hT5 : T + 4 ≤ 1500) (x : Int32) : ∃ σ' ρ', fX11_appendBytes x σ = some ((), σ') ∧ fX14_four x ρ = some ((), ρ') ∧ Rl (B + 4) P Q S g L d X σ' ρ' ∧ zI σ' 705 0 0 0 = nI (T + 4) ∧ zI ρ' 896 0 0 0 = zI ρ 896 0 0 0 ∧ zI ρ' 900 0 0 0 = nI (T + 4) := by
  have eF : FU = 19995 + 5 := rfl
  obtain ⟨σ1, ρ1, a1, a2, a3, a4, a5, _⟩ := byte_1 h hT (by omega) (x := x) (y := 24) (by decide) 19999 19999
  obtain ⟨σ2, ρ2, b1, b2, b3, b4, b5, _⟩ := byte_1 a3 a4 (by omega) (x := x) (y := 16) (by decide) 19998 19998
  obtain ⟨σ3, ρ3, c1, c2, c3, c4, c5, _⟩ := byte_1 b3 b4 (by omega) (x := x) (y := 8) (by decide) 19997 19997
  obtain ⟨σ4, ρ4, d1, d2, d3, d4, d5, d6⟩ := byte_1 c3 c4 (by omega) (x := x) (y := 0) (by decide) 19996 19996
  refine ⟨σ4, ρ4, ?_, ?_, d3, d4, ?_, d6⟩
  · unfold fX11_appendBytes
    rw [show FU = 19999 + 1 from rfl, a1]
    show fX11_appendBytes_3 x (19998 + 1) 16 σ1 = _
    rw [b1]
    show fX11_appendBytes_3 x (19997 + 1) 8 σ2 = _
    rw [c1]
    show fX11_appendBytes_3 x (19996 + 1) 0 σ3 = _
    rw [d1]
    show fX11_appendBytes_3 x (19995 + 1) (-8) σ4 = _
    rw [fX11_appendBytes_3, if_pos (by decide)]
  · unfold fX14_four
    rw [show FU = 19999 + 1 from rfl, a2]
    show fX14_four_3 x (19998 + 1) 16 ρ1 = _
    rw [b2]
    show fX14_four_3 x (19997 + 1) 8 ρ2 = _
    rw [c2]
    show fX14_four_3 x (19996 + 1) 0 ρ3 = _
    rw [d2]
    show fX14_four_3 x (19995 + 1) (-8) ρ4 = _
    rw [fX14_four_3, if_pos (by decide)]
  · rw [d5, c5, b5, a5]
theorem f_feed (h : Rl B P Q S g L d X σ ρ) (x1 x2 x3 x4 x5 : Int32) : Fc (B + 20) ["java/lang/IllegalStateException"] (fX11_feed x1 x2 x3 x4 x5 σ) (fX14_feed x1 x2 x3 x4 x5 ρ) := by
  have h1 := h.thr (v := 0)
  unfold fX11_feed fX14_feed
  obtain ⟨T, f, t1, t2, t3, _⟩ := h1.2.2.2.2.2.2.2.2.2.2.1
  rw [lt_k, t2, t3]
  have e20 : (20 : Int32) = nI 20 := rfl
  rw [i_1480, i_1500, e20, n_add]
  by_cases q : T ≤ 1480
  · obtain ⟨σ1, ρ1, a1, a2, a3, a4, a5, _⟩ := four_1 h1 t2 (by omega) x1
    obtain ⟨σ2, ρ2, b1, b2, b3, b4, b5, _⟩ := four_1 a3 a4 (by omega) x2
    obtain ⟨σ3, ρ3, c1, c2, c3, c4, c5, _⟩ := four_1 b3 b4 (by omega) x3
    obtain ⟨σ4, ρ4, d1, d2, d3, d4, d5, _⟩ := four_1 c3 c4 (by omega) x4
    obtain ⟨σ5, ρ5, e1, e2, e3, e4, e5, e6⟩ := four_1 d3 d4 (by omega) x5
    rw [if_pos ((n_le (by omega) (by omega)).mpr q), if_pos ((n_le (by omega) (by omega)).mpr (by omega)), bq_e a1, bq_e b1, bq_e c1, bq_e d1, bq_e e1, bq_e a2, bq_e b2, bq_e c2, bq_e d2, bq_e e2]
    refine ⟨_, _, _, _, rfl, rfl, ⟨?_, e4.trans e6.symm⟩, e3.rel⟩
    rw [e5, d5, c5, b5, a5]
    rfl
  · rw [if_neg (fun z => q ((n_le (by omega) (by omega)).mp z)), if_neg (fun z => q (by have := (n_le (by omega) (by omega)).mp z; omega)), fail_R, bq_s]
    exact (h1.mono (Nat.le_add_right B 20)).no rfl rfl (by decide) rfl
end TA
/-! WORDS: eight bits a letter -/
theorem lN_inj {a b : Nat} (ha : a < 2 ^ 63) (hb : b < 2 ^ 63) (h : lN a = lN b) : a = b := by
  have e : (lN a).toInt = (lN b).toInt := by rw [h]
  unfold lN at e
  rw [lg_ofNat_toInt ha, lg_ofNat_toInt hb] at e
  omega
theorem sh8 {a b : Nat} (ha : a < 2 ^ 55) (hb : b < 256) : ((lN a <<< ((8 : Int32).toInt64 &&& 63)) ||| lN b : Int64) = lN (256 * a + b) := by
  have e8 : ((8 : Int32).toInt64 &&& 63 : Int64) = 8 := by decide
  rw [e8]
  apply Int64.toBitVec_inj.mp
  apply BitVec.eq_of_toNat_eq
  rw [Int64.toBitVec_or, Int64.toBitVec_shiftLeft, BitVec.toNat_or]
  have e9 : (8 : Int64).toBitVec.smod 64 = 8#64 := by decide
  rw [e9]
  show (BitVec.ofNat 64 a <<< 8#64).toNat ||| (BitVec.ofNat 64 b).toNat = (BitVec.ofNat 64 (256 * a + b)).toNat
  rw [BitVec.shiftLeft_eq', BitVec.toNat_shiftLeft, BitVec.toNat_ofNat, BitVec.toNat_ofNat, BitVec.toNat_ofNat, BitVec.toNat_ofNat]
  have e10 : 8 % 2 ^ 64 = 8 := by decide
  rw [e10, Nat.mod_eq_of_lt (show a < 2 ^ 64 by omega), Nat.mod_eq_of_lt (show b < 2 ^ 64 by omega), Nat.mod_eq_of_lt (show 256 * a + b < 2 ^ 64 by omega), Nat.shiftLeft_eq, Nat.mod_eq_of_lt (by omega)]
  have := Nat.two_pow_add_eq_or_of_lt (i := 8) (b := b) (by omega) a
  rw [Nat.mul_comm a, ← this]
theorem pkw_lt {f : Nat → Nat} : ∀ n, (∀ i, i < n → f i < 128) → pkw n f < 2 ^ (8 * n) ∧ (1 ≤ n → 2 * pkw n f < 2 ^ (8 * n)) := by
  intro n
  induction n with
  | zero => intro _; exact ⟨by simp [pkw], fun h => absurd h (by decide)⟩
  | succ n ih =>
    intro h
    obtain ⟨i1, i2⟩ := ih (fun i hi => h i (by omega))
    have hn := h n (by omega)
    have e : 2 ^ (8 * (n + 1)) = 2 ^ (8 * n) * 256 := by rw [Nat.mul_add, Nat.pow_add]
    rw [e]
    unfold pkw
    by_cases q : n = 0
    · subst q
      simp only [pkw]
      omega
    · have := i2 (by omega)
      omega
theorem pkw_inj {f g : Nat → Nat} : ∀ (n m : Nat), (∀ i, i < n → 0 < f i ∧ f i < 256) → (∀ i, i < m → 0 < g i ∧ g i < 256) → pkw n f = pkw m g → n = m ∧ ∀ i, i < n → f i = g i := by
  intro n
  induction n with
  | zero =>
    intro m h1 h2 h3
    cases m with
    | zero => exact ⟨rfl, fun i hi => absurd hi (Nat.not_lt_zero _)⟩
    | succ m =>
      have := h2 m (by omega)
      simp only [pkw] at h3
      omega
  | succ n ih =>
    intro m h1 h2 h3
    cases m with
    | zero =>
      have := h1 n (by omega)
      simp only [pkw] at h3
      omega
    | succ m =>
      have a1 := h1 n (by omega)
      have a2 := h2 m (by omega)
      simp only [pkw] at h3
      obtain ⟨j1, j2⟩ := ih m (fun i hi => h1 i (by omega)) (fun i hi => h2 i (by omega)) (by omega)
      subst j1
      refine ⟨rfl, fun i hi => ?_⟩
      by_cases q : i = n
      · subst q; omega
      · exact j2 i (by omega)
theorem wB {b : Nat} (h : wByte b) : 0 < b ∧ b < 128 := by
  unfold wByte at h
  omega
/-- the number of a word -/
theorem wrd_63 {n : Nat} {f : Nat → Nat} (h : n ≤ 8) (hf : ∀ i, i < n → f i < 128) : pkw n f < 2 ^ 63 := by
  obtain ⟨h1, h2⟩ := pkw_lt n hf
  have e : 2 ^ (8 * n) ≤ 2 ^ 64 := Nat.pow_le_pow_right (by decide) (by omega)
  by_cases q : n = 0
  · subst q; simp [pkw]
  · have := h2 (by omega)
    omega
theorem not_name0 {w : Int64} (h : isName w) : w ≠ 0 := by
  obtain ⟨n, f, h1, h2, h3, h4, rfl⟩ := h
  intro e
  have := lN_inj (wrd_63 h2 (fun i hi => (wB (h3 i hi)).2)) (show 0 < 2 ^ 63 by decide) e
  obtain ⟨j1, _⟩ := pkw_inj n 0 (fun i hi => ⟨(wB (h3 i hi)).1, by have := (wB (h3 i hi)).2; omega⟩) (fun i hi => absurd hi (Nat.not_lt_zero _)) (show pkw n f = pkw 0 f from this)
  omega
theorem not_name1 {n : Nat} {f : Nat → Nat} (h2 : n ≤ 8) (h3 : ∀ i, i < n → wByte (f i)) (h4 : f 0 < 97) (h : isName (lN (pkw n f))) : False := by
  obtain ⟨m, g, k1, k2, k3, k4, e⟩ := h
  have := lN_inj (wrd_63 h2 (fun i hi => (wB (h3 i hi)).2)) (wrd_63 k2 (fun i hi => (wB (k3 i hi)).2)) e
  obtain ⟨j1, j2⟩ := pkw_inj n m (fun i hi => ⟨(wB (h3 i hi)).1, by have := (wB (h3 i hi)).2; omega⟩) (fun i hi => ⟨(wB (k3 i hi)).1, by have := (wB (k3 i hi)).2; omega⟩) this
  have := j2 0 (by omega)
  omega
