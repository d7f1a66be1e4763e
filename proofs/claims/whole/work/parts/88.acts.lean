/-! THE CALLS THAT ACT -/
theorem Ent.cg {σ ρ σ' ρ' : Zs} {e : Nat} (h : Ent σ ρ e) (h1 : zI σ' 128 0 e 0 = zI σ 128 0 e 0) (h2 : zI σ' 131 0 e 0 = zI σ 131 0 e 0) (h3 : zI σ' 384 5 e 0 = zI σ 384 5 e 0) (h4 : zI σ' 385 5 e 0 = zI σ 385 5 e 0) (h5 : zJ σ' 129 0 e 0 = zJ σ 129 0 e 0) (h6 : ∀ c, zJ σ' 1410 5 e c = zJ σ 1410 5 e c) (k1 : zI ρ' 1965 0 0 e = zI ρ 1965 0 0 e) (k2 : zI ρ' 1966 0 0 e = zI ρ 1966 0 0 e) (k3 : zI ρ' 1967 0 0 e = zI ρ 1967 0 0 e) (k4 : zJ ρ' 1968 0 0 e = zJ ρ 1968 0 0 e) (k5 : ∀ c, c < 6 → zJ ρ' 1969 0 0 (6 * e + c) = zJ ρ 1969 0 0 (6 * e + c)) : Ent σ' ρ' e := by
  obtain ⟨k, u1, u2, u3, u4, u5⟩ := h
  refine ⟨k, u1, h1.trans u2, k1.trans u3, fun q => ?_, fun q => ?_⟩
  · obtain ⟨t, w, v1, v2, v3, v4, v5, v6, v7, v8⟩ := u4 q
    refine ⟨t, w, ?_, v2, h3.trans v3, k2.trans v4, v5, h4.trans v6, k3.trans v7, fun c hc => ?_⟩
    · rw [h5, k4]; exact v1
    · rw [h6, k5 c (by omega)]; exact v8 c hc
  · obtain ⟨a, v1, v2, v3⟩ := u5 q
    exact ⟨a, v1, h2.trans v2, k2.trans v3⟩
def neC (z : Zs) (L k : Nat) : Zs := sI (sI z 716 0 0 0 (nI (L + 1))) 128 0 L 0 (nI k)
def wrR (z : Zs) (L k : Nat) (x : Int32) : Zs := sI (sI (sI z 1965 0 0 L (nI k)) 1966 0 0 L x) 940 0 0 0 (nI (L + 1))
theorem new_C {z : Zs} {L k : Nat} (h : zI z 716 0 0 0 = nI L) (hL : L < 200) : fX11_newEntry (nI k) z = some (.ok (0, L), neC z L k) := by
  unfold fX11_newEntry
  simp (disch := omega) only [h, i_1, i_200, n_lt, n_gi, n_cl, n_add, hL, ↓reduceIte, lt_k]
  rfl
theorem new_Cf {z : Zs} {x : Int32} (h : zI z 716 0 0 0 = nI 200) : fX11_newEntry x z = some (.error "java/lang/IllegalStateException", z) := by
  unfold fX11_newEntry
  rw [h, if_neg (by decide)]
theorem write_R {z : Zs} {L k : Nat} {x : Int32} (h : zI z 940 0 0 0 = nI L) (hL : L < 200) : fX14_write (nI k) x z = some ((), wrR z L k x) := by
  unfold fX14_write
  have f1 : ∀ v, zI (sI z 1965 0 0 L v) 940 0 0 0 = nI L := fun _ => h
  have f2 : ∀ v w, zI (sI (sI z 1965 0 0 L v) 1966 0 0 L w) 940 0 0 0 = nI L := fun _ _ => h
  simp (disch := omega) only [h, f1, f2, i_1, n_gi, n_cl, n_add, hL, ↓reduceIte, lt_k]
  rfl
theorem if200 {α : Type} {L : Nat} {a b : α} (hL : L < 200) : (if (nI L : Int32) = 200 then a else b) = b := if_neg (by rw [i_200, n_eq (by omega) (by omega)]; omega)
section AC
variable {B P Q S g L N : Nat} {d : Pd} {X : Nat → Nat → Nat} {σ ρ : Zs} {α : Type}
theorem RMark.up {M : Nat} (h : RMark L σ ρ) (k : L ≤ M) : RMark M σ ρ := by
  obtain ⟨K, m, h1, h2, h3, h4, h5⟩ := h
  exact ⟨K, m, h1, h2, h3, fun j hj => ⟨(h4 j hj).1, (h4 j hj).2.1, Nat.le_trans (h4 j hj).2.2 k⟩, h5⟩
theorem Rl.entry (h : Rl B P Q S g L d X σ ρ) (hL : L < 200) {k a : Nat} (hk : k = 1 ∨ k = 2) (ha : a < 60) : Rl B P Q S g (L + 1) d X (sI (neC σ L k) 131 0 L 0 (nI a)) (wrR ρ L k (nI a)) := by
  obtain ⟨hp, ⟨hW, hPC, hPR, hz, hz3, hP⟩, hE, hG, hF, hNm, h7, hLg, hM, hV, hT, hO, hK, h12⟩ := h
  obtain ⟨l1, l2, l3, l4⟩ := hLg
  refine ⟨hp, ⟨hW, hPC, hPR, hz, hz3, hP⟩, hE.sw hE.2.2.2, hG.up (Nat.le_succ L), hF, hNm, h7, ⟨by omega, rfl, rfl, fun e he => ?_⟩, hM.up (Nat.le_succ L), hV, hT, hO, hK, h12⟩
  by_cases q : e = L
  · subst q
    refine ⟨k, by omega, ?_, ?_, fun z => by omega, fun _ => ⟨a, ha, ?_, ?_⟩⟩
    · show zI (neC σ e k) 128 0 e 0 = nI k
      unfold neC
      rw [zI_sI, if_pos ⟨rfl, rfl, rfl, rfl⟩]
    · show zI (sI ρ 1965 0 0 e (nI k)) 1965 0 0 e = nI k
      rw [zI_sI, if_pos ⟨rfl, rfl, rfl, rfl⟩]
    · rw [zI_sI, if_pos ⟨rfl, rfl, rfl, rfl⟩]
    · show zI (sI (sI ρ 1965 0 0 e (nI k)) 1966 0 0 e (nI a)) 1966 0 0 e = nI a
      rw [zI_sI, if_pos ⟨rfl, rfl, rfl, rfl⟩]
  · refine (l4 e (by omega)).cg ?_ ?_ rfl rfl rfl (fun _ => rfl) ?_ ?_ rfl rfl (fun _ _ => rfl)
    · show zI (neC σ L k) 128 0 e 0 = _
      unfold neC
      rw [zI_sI, if_neg (fun z => q z.2.2.1)]; rfl
    · rw [zI_sI, if_neg (fun z => q z.2.2.1)]; rfl
    · show zI (sI ρ 1965 0 0 L (nI k)) 1965 0 0 e = _
      rw [zI_sI, if_neg (fun z => q z.2.2.2)]
    · show zI (sI (sI ρ 1965 0 0 L (nI k)) 1966 0 0 L (nI a)) 1966 0 0 e = _
      rw [zI_sI, if_neg (fun z => q z.2.2.2)]; rfl
theorem Rl.entry3 (h : Rl B P Q S g L d X σ ρ) (hL : L < 200) {x : Int32} : Rl B P Q S g (L + 1) d X (neC σ L 3) (wrR ρ L 3 x) := by
  obtain ⟨hp, ⟨hW, hPC, hPR, hz, hz3, hP⟩, hE, hG, hF, hNm, h7, hLg, hM, hV, hT, hO, hK, h12⟩ := h
  obtain ⟨l1, l2, l3, l4⟩ := hLg
  refine ⟨hp, ⟨hW, hPC, hPR, hz, hz3, hP⟩, hE.sw hE.2.2.2, hG.up (Nat.le_succ L), hF, hNm, h7, ⟨by omega, rfl, rfl, fun e he => ?_⟩, hM.up (Nat.le_succ L), hV, hT, hO, hK, h12⟩
  by_cases q : e = L
  · subst q
    refine ⟨3, by omega, ?_, ?_, fun z => by omega, fun z => by omega⟩
    · unfold neC
      rw [zI_sI, if_pos ⟨rfl, rfl, rfl, rfl⟩]
    · show zI (sI ρ 1965 0 0 e (nI 3)) 1965 0 0 e = nI 3
      rw [zI_sI, if_pos ⟨rfl, rfl, rfl, rfl⟩]
  · refine (l4 e (by omega)).cg ?_ rfl rfl rfl rfl (fun _ => rfl) ?_ ?_ rfl rfl (fun _ _ => rfl)
    · unfold neC
      rw [zI_sI, if_neg (fun z => q z.2.2.1)]; rfl
    · show zI (sI ρ 1965 0 0 L (nI 3)) 1965 0 0 e = _
      rw [zI_sI, if_neg (fun z => q z.2.2.2)]
    · show zI (sI (sI ρ 1965 0 0 L (nI 3)) 1966 0 0 L x) 1966 0 0 e = _
      rw [zI_sI, if_neg (fun z => q z.2.2.2)]; rfl
theorem Rl.eng {τ : Prop} {X' : Nat → Nat → Nat} {σ' ρ' : Zs} (h : Rl B P Q S g L d X σ ρ) (hE : ER P d σ ρ τ X' σ' ρ') (hG : Good d L X') (hF : Setl d X') : Rl B P Q S g L d X' σ' ρ' := by
  obtain ⟨hp, hB, _, _, _, hNm, hRB⟩ := h
  exact ⟨hp, hB.fr hE, hE.re.wk (fun q => q.elim), hG, hF, hNm, hRB.fr hp.1 hp.2.2.2.1 hE.2.1 hE.2.2.1⟩
theorem ER.t89 {τ : Prop} {σ0 ρ0 : Zs} (h : ER P d σ0 ρ0 τ X σ ρ) : zI ρ 896 0 0 0 = zI ρ0 896 0 0 0 := (h.2.2.1 896 (by decide) 0 0 0).1
theorem f_release (h : Rl B P Q S g L d X σ ρ) (x : Int32) : Fc B ["java/lang/IndexOutOfBoundsException", "java/lang/IllegalStateException"] (fX11_release x σ) (fX14_release x ρ) := by
  have h1 := h.thr (v := 0)
  unfold fX11_release fX14_release
  rw [lt_k]
  rcases h1.hd x with ⟨a, p, ha, ha60, rfl, _, k1, k2, _⟩ | ⟨_, k1, k2⟩
  · rw [bx_e k1, bq_e k2, if10]
    obtain ⟨l1, l2, l3, l4⟩ := h1.2.2.2.2.2.2.2.1
    rw [l3]
    by_cases q : L < 200
    · have h2 := h1.entry (k := 1) (a := a) q (Or.inl rfl) ha60
      rw [if200 q, bx_e (show fX11_newEntry 1 σ = _ from new_C l2 q), bq_e (show fX14_write 1 (nI a) (sI ρ 896 0 0 0 0) = _ from write_R l3 q), lt_k]
      obtain ⟨σ2, σ', ρ', X', u1, u2, u3, u4, u5, u6⟩ := r_release (P := P) (g := g) (d := d) (E := L) (a := a) h2.2.1 h2.2.2.1 (h.2.2.2.1) (by omega) ha
      rw [bq_e u3]
      refine ⟨.ok (zI σ' 70 0 0 0), σ', _, ρ', ?_, rfl, ⟨u4.t89.trans rfl, u4.1 trivial⟩, (h2.eng u4 u5 u6).rel⟩
      unfold fX11_rowsTakenBy fX1_perform
      have z128 : ∀ v, zI (sI (sI (neC σ L 1) 131 0 L 0 (nI a)) 70 0 0 0 v) 128 0 L 0 = nI 1 := fun v => by
        show zI (neC σ L 1) 128 0 L 0 = nI 1
        unfold neC
        rw [zI_sI, if_pos ⟨rfl, rfl, rfl, rfl⟩]
      have z131 : ∀ v, zI (sI (sI (neC σ L 1) 131 0 L 0 (nI a)) 70 0 0 0 v) 131 0 L 0 = nI a := fun v => by
        show zI (sI (neC σ L 1) 131 0 L 0 (nI a)) 131 0 L 0 = nI a
        rw [zI_sI, if_pos ⟨rfl, rfl, rfl, rfl⟩]
      rw [lt_k, z128, if_neg (by decide), if_pos (by decide), z131, bq_e (show fX1_doRelease (nI a) (sI (sI (neC σ L 1) 131 0 L 0 (nI a)) 70 0 0 0 0) = _ from u1), if_pos (Or.inr rfl), bq_s, bq_e u2, bq_s]
    · have e : L = 200 := by omega
      rw [e] at l2 l3 ⊢
      rw [if_pos (by decide), bx_x (new_Cf l2), fail_R, bq_s]
      exact h1.no rfl rfl (by decide) rfl
  · rw [bx_x k1, bq_e k2, if00, fail_R, bq_s]
    exact h1.no rfl rfl (by decide) rfl
theorem f_discard (h : Rl B P Q S g L d X σ ρ) (x : Int32) : Fc B ["java/lang/IndexOutOfBoundsException", "java/lang/IllegalStateException"] (fX11_discard x σ) (fX14_discard x ρ) := by
  have h1 := h.thr (v := 0)
  unfold fX11_discard fX14_discard
  rw [lt_k]
  rcases h1.hd x with ⟨a, p, ha, ha60, rfl, k1, _, k2, s, t, w, q1, q2, q3, q4, q5, q6, q7, q8, q9⟩ | ⟨k1, _, k2⟩
  · rw [bx_e k1, bq_e k2, if10]
    obtain ⟨l1, l2, l3, l4⟩ := h1.2.2.2.2.2.2.2.1
    rw [l3]
    by_cases q : L < 200
    · have h2 := h1.entry (k := 2) (a := a) q (Or.inr rfl) ha60
      rw [if200 q, bx_e (show fX11_newEntry 2 σ = _ from new_C l2 q), bq_e (show fX14_write 2 (nI a) (sI ρ 896 0 0 0 0) = _ from write_R l3 q), lt_k, if_pos ((n_gi (by omega)).mpr ha60)]
      obtain ⟨σ', ρ', X', u1, u2, u3, u4, u5, u6⟩ := r_away (E := L + 1) h2.2.1 h2.2.2.1.a70 (h2.2.2.2.1) h2.2.2.2.2.1 ha
      rw [bq_e u2]
      refine ⟨.ok (zI σ 388 4 p 0), σ', _, ρ', ?_, rfl, ⟨u3.t89.trans rfl, ?_⟩, (h2.eng u3 u4 u5).rel⟩
      · unfold fX1_perform
        have z128 : ∀ v, zI (sI (sI (neC σ L 2) 131 0 L 0 (nI a)) 70 0 0 0 v) 128 0 L 0 = nI 2 := fun v => by
          show zI (neC σ L 2) 128 0 L 0 = nI 2
          unfold neC
          rw [zI_sI, if_pos ⟨rfl, rfl, rfl, rfl⟩]
        have z131 : ∀ v, zI (sI (sI (neC σ L 2) 131 0 L 0 (nI a)) 70 0 0 0 v) 131 0 L 0 = nI a := fun v => by
          show zI (sI (neC σ L 2) 131 0 L 0 (nI a)) 131 0 L 0 = nI a
          rw [zI_sI, if_pos ⟨rfl, rfl, rfl, rfl⟩]
        rw [lt_k, z128, if_neg (by decide), if_neg (by decide), if_pos (by decide), z131, bq_e (show fX1_removeHeld (nI a) (sI (sI (neC σ L 2) 131 0 L 0 (nI a)) 70 0 0 0 0) = _ from u1), if_pos (Or.inr rfl), bq_s]
      · rw [n_cl (by omega)]
        show zI σ 388 4 p 0 = zI ρ 1949 0 0 a
        rcases q9 with ⟨v1, v2, _⟩ | ⟨c, _, v1, v2, _⟩
        · exact v1.trans v2.symm
        · exact v1.trans v2.symm
    · have e : L = 200 := by omega
      rw [e] at l2 l3 ⊢
      rw [if_pos (by decide), bx_x (new_Cf l2), fail_R, bq_s]
      exact h1.no rfl rfl (by decide) rfl
  · rw [bx_x k1, bq_e k2, if00, fail_R, bq_s]
    exact h1.no rfl rfl (by decide) rfl
theorem f_go (h : Rl B P Q S g L d X σ ρ) : Fc B ["java/lang/IllegalStateException"] (fX11_go σ) (fX14_go ρ) := by
  have h1 := h.thr (v := 0)
  unfold fX11_go fX14_go
  rw [lt_k]
  obtain ⟨b, b1, b2, b3⟩ := h1.2.2.1.2.2.2.2.2.2.2.2.1.2.1
  obtain ⟨l1, l2, l3, l4⟩ := h1.2.2.2.2.2.2.2.1
  rw [b2, b3]
  by_cases c : b = 0
  · subst c
    rw [if_pos (by decide), if_pos (by decide), fail_R, bq_s]
    exact h1.no rfl rfl (by decide) rfl
  · have e : b = 1 := by omega
    subst e
    rw [if_neg (by decide), if_neg (by decide), l3]
    by_cases q : L < 200
    · rw [if200 q, bx_e (show fX11_newEntry 3 σ = _ from new_C l2 q), bq_e (show fX14_write 3 0 (sI ρ 896 0 0 0 0) = _ from write_R l3 q), lt_k]
      have h2 := h1.entry3 (x := 0) q
      have hS : ER P d (neC σ L 3) (wrR (sI ρ 896 0 0 0 0) L 3 0) False X (sI (sI (neC σ L 3) 70 0 0 0 0) 68 0 0 0 0) (sI (wrR (sI ρ 896 0 0 0 0) L 3 0) 929 0 0 0 0) := h2.2.2.1.a70.stop (b := 0) (by decide)
      refine ⟨.ok (zI σ 66 0 0 0), sI (sI (neC σ L 3) 70 0 0 0 0) 68 0 0 0 0, _, _, ?_, rfl, ⟨hS.t89.trans rfl, ?_⟩, (h2.eng hS h2.2.2.2.1 h2.2.2.2.2.1).rel⟩
      · unfold fX1_perform
        have z128 : ∀ v, zI (sI (neC σ L 3) 70 0 0 0 v) 128 0 L 0 = nI 3 := fun v => by
          show zI (neC σ L 3) 128 0 L 0 = nI 3
          unfold neC
          rw [zI_sI, if_pos ⟨rfl, rfl, rfl, rfl⟩]
        have z68 : ∀ v, zI (sI (neC σ L 3) 70 0 0 0 v) 68 0 0 0 = nI 1 := fun v => b2
        rw [lt_k, z128, if_neg (by decide), if_neg (by decide), if_neg (by decide), lt_k, z68, if_pos (show (nI 1 : Int32) = 0 ∨ (nI 1 : Int32) = 1 from Or.inr rfl), bq_s]
        rfl
      · have hh := h.2.2.1.2.2.2.2.2.2.1
        exact hh.2.1.trans hh.2.2.1.symm
    · have e : L = 200 := by omega
      rw [e] at l2 l3 ⊢
      rw [if_pos (by decide), bx_x (new_Cf l2), fail_R, bq_s]
      exact h1.no rfl rfl (by decide) rfl
/-- all of the log anew -/
theorem anew_of (hp : P < 3 ∧ Q < 3 ∧ S < 3 ∧ P ≠ Q ∧ P ≠ S ∧ Q ≠ S ∧ g < 2) (hB : EB P g d σ ρ) (hh : HPm σ) (h513 : ∀ s, s < dN d → zI σ 513 P s 0 = nI (dW d s)) (hNm : NmOk d) (hRB : RB B P Q S L σ ρ) : ∃ v σ' ρ' X', fX11_doLogAnew σ = some (nI v, σ') ∧ fX14_doAgain ρ = some (nI v, ρ') ∧ v ≤ L ∧ Rl B P Q S g L d X' σ' ρ' ∧ zI ρ' 896 0 0 0 = zI ρ 896 0 0 0 := by
  obtain ⟨hW, hPC, hPR, hz, hz3, hP⟩ := hB
  obtain ⟨h7, hLg, _⟩ := id hRB
  obtain ⟨l1, l2, l3, l4⟩ := hLg
  obtain ⟨v, σ', ρ', X', u1, u2, u3, u4, u5, u6, u7, u8, u9⟩ := r_anew hW hPC hPR hz hz3 hP hh h513 h7.1 l1 l2 l3 l4
  exact ⟨v, σ', ρ', X', u1, u2, u3, ⟨hp, u4, u5, u6, u7, hNm, hRB.fr hp.1 hp.2.2.2.1 u8 u9⟩, (u9 896 (by decide) 0 0 0).1⟩
theorem Rl.anew (h : Rl B P Q S g L d X σ ρ) : ∃ v σ' ρ' X', fX11_doLogAnew σ = some (nI v, σ') ∧ fX14_doAgain ρ = some (nI v, ρ') ∧ v ≤ L ∧ Rl B P Q S g L d X' σ' ρ' ∧ zI ρ' 896 0 0 0 = zI ρ 896 0 0 0 := by
  obtain ⟨hp, hB, hE, hG, hF, hNm, hRB⟩ := h
  exact anew_of hp hB hE.hp (fun s hs => (hE.2.2.2.1 s hs).2.2.1) hNm hRB
theorem f_replay (h : Rl B P Q S g L d X σ ρ) : Fc B ["java/lang/IllegalStateException"] (fX11_replay σ) (fX14_replay ρ) := by
  have h1 := h.thr (v := 0)
  unfold fX11_replay fX14_replay
  rw [lt_k]
  have e1 : (zR σ 707 0 0 0).1 = P := by rw [h.2.2.2.2.2.2.1.1]
  have e2 : (zR (sI ρ 896 0 0 0 0) 898 0 0 0).1 = g := by show (zR ρ 898 0 0 0).1 = g; rw [h.2.1.2.2.2.2.1]
  have e3 : zI (sI ρ 896 0 0 0 0) 768 g 0 0 = nI (dN d) := h.2.1.2.2.1.1
  rw [e1, e2, h.2.1.2.1.1, e3]
  by_cases q : (nI (dN d) : Int32) = 0
  · rw [if_pos q, if_pos q, fail_R, bq_s]
    exact h1.no rfl rfl (by decide) rfl
  · rw [if_neg q, if_neg q]
    obtain ⟨v, σ', ρ', X', u1, u2, _, u3, u4⟩ := h1.anew
    rw [bq_e u1, bq_e u2]
    exact ⟨_, _, _, _, rfl, rfl, ⟨u4.trans rfl, rfl⟩, u3.rel⟩
theorem f_back (h : Rl B P Q S g L d X σ ρ) (x : Int32) : Fc B ["java/lang/IndexOutOfBoundsException"] (fX11_back x σ) (fX14_back x ρ) := by
  have h1 := h.thr (v := 0)
  unfold fX11_back fX14_back
  obtain ⟨hp, hB, hE, hG, hF, hNm, h7, hLg, hM, hV, hT, hO, hK, h12⟩ := h
  obtain ⟨l1, l2, l3, l4⟩ := hLg
  obtain ⟨K, m, m1, m2, m3, m4, m5⟩ := hM
  have e4 : zI (sI ρ 896 0 0 0 0) 946 0 0 0 = nI K := m3
  rw [lt_k (z := sI ρ 896 0 0 0 0), e4, m2]
  rcases isIn_x (x := x) (N := K) (by omega) with ⟨a, ha, rfl, k⟩ | ⟨q, k⟩
  · have g8 : gi (nI a) 8 := (n_gi (by omega)).mpr (by omega)
    obtain ⟨n1, n2, n3⟩ := m4 a ha
    have n2' : zI (sI ρ 896 0 0 0 0) 1971 0 0 a = nI (m a) := n2
    have l3' : zI (sI ρ 896 0 0 0 0) 940 0 0 0 = nI L := l3
    rw [bq_e (k _), if10, in_C (by omega) ha, if_pos g8, if_pos g8, if_pos g8, if_pos g8]
    simp only [lt_k]
    rw [n_cl (by omega), n1, n2', l2, l3', i_1, n_add]
    have hRB : RB B P Q S (m a) (sI (sI σ 716 0 0 0 (nI (m a))) 718 0 0 0 (nI (a + 1))) (sI (sI (sI ρ 896 0 0 0 0) 940 0 0 0 (nI (m a))) 946 0 0 0 (nI (a + 1))) :=
      ⟨h7, ⟨by omega, rfl, rfl, fun e he => l4 e (by omega)⟩, ⟨a + 1, m, by omega, rfl, rfl, fun j hj => ⟨(m4 j (by omega)).1, (m4 j (by omega)).2.1, m5 j a (by omega) ha⟩, fun j k hj hk => m5 j k hj (by omega)⟩, hV, hT, hO, hK, h12⟩
    obtain ⟨v, σ', ρ', X', u1, u2, u5, u3, u4⟩ := anew_of (σ := sI (sI σ 716 0 0 0 (nI (m a))) 718 0 0 0 (nI (a + 1))) (ρ := sI (sI (sI ρ 896 0 0 0 0) 940 0 0 0 (nI (m a))) 946 0 0 0 (nI (a + 1))) hp ⟨hB.1, hB.2.1, hB.2.2.1, hB.2.2.2⟩ hE.hp (fun s hs => (hE.2.2.2.1 s hs).2.2.1) hNm hRB
    rw [bq_e u1, bq_e u2, if_pos]
    · exact ⟨_, _, _, _, rfl, rfl, ⟨u4.trans rfl, rfl⟩, u3.rel⟩
    · rw [i_0, n_le (by omega) (by omega)]; exact Nat.zero_le _
  · rw [bq_e (k _), if00, out_C (by omega) q, fail_R, bq_s]
    exact h1.no rfl rfl (by decide) rfl
/-- the states with a push written into the log -/
def psC (σ : Zs) (L v a : Nat) (nm : Int64) : Zs := sI (sI (wRow (sJ (neC σ L 0) 129 0 L 0 nm) 5 L (zI σ 384 3 0 0) (nI v) (fun j => if j < 6 then zJ σ 1410 3 0 j else zJ σ 1410 5 L j)) 384 5 L 0 (nI a)) 385 3 0 0 0
def psR (ρ : Zs) (L v a : Nat) (nm : Int64) : Zs := sI (wrR (jJ (sI (sJ ρ 1968 0 0 L nm) 1967 0 0 L (nI v)) 1969 0 0 (va_cpy (zJ ρ 1973 0 0) (zJ ρ 1969 0 0) 0 (6 * L) 6)) L 0 (nI a)) 948 0 0 0 0
theorem ps_EntP {v a : Nat} {nm : Int64} (hL : L < 200) (hv6 : v ≤ 6) (ha : a ≤ 1000000) (hV : ∀ c, c < v → zJ σ 1410 3 0 c = zJ ρ 1973 0 0 c) : EntP (psC σ L v a nm) (psR ρ L v a nm) L a v := by
  unfold psC psR
  refine ⟨?_, ha, ?_, ?_, hv6, ?_, ?_, fun c hc => ?_⟩
  · show zJ (sJ (neC σ L 0) 129 0 L 0 nm) 129 0 L 0 = zJ (sJ ρ 1968 0 0 L nm) 1968 0 0 L
    rw [zJ_sJ, zJ_sJ, if_pos ⟨rfl, rfl, rfl, rfl⟩, if_pos ⟨rfl, rfl, rfl, rfl⟩]
  · rw [zI_sI, if_neg (by omega), zI_sI, if_pos ⟨rfl, rfl, rfl, rfl⟩]
  · show zI (sI (sI ρ 1965 0 0 L (nI 0)) 1966 0 0 L (nI a)) 1966 0 0 L = nI a
    rw [zI_sI, if_pos ⟨rfl, rfl, rfl, rfl⟩]
  · rw [zI_sI, if_neg (by omega), zI_sI, if_neg (by omega), zI_wRow, if_neg (by omega), if_pos ⟨rfl, rfl, rfl, rfl⟩]
  · show zI (sI (sJ ρ 1968 0 0 L nm) 1967 0 0 L (nI v)) 1967 0 0 L = nI v
    rw [zI_sI, if_pos ⟨rfl, rfl, rfl, rfl⟩]
  · show (if 1410 = 1410 ∧ 5 = 5 ∧ L = L then (if c < 6 then zJ σ 1410 3 0 c else zJ σ 1410 5 L c) else _) = zJ (jJ _ 1969 0 0 _) 1969 0 0 (6 * L + c)
    rw [if_pos ⟨rfl, rfl, rfl⟩, if_pos (by omega), zJ_jJ, if_pos ⟨rfl, rfl, rfl⟩, pk_cpy_in (by omega) (by omega), hV c hc, Nat.add_sub_cancel_left, Nat.zero_add]
theorem Rl.psh (h : Rl B P Q S g L d X σ ρ) (hL : L < 200) {v a : Nat} {nm : Int64} (hv6 : v ≤ 6) (ha : a ≤ 1000000) (hV : ∀ c, c < v → zJ σ 1410 3 0 c = zJ ρ 1973 0 0 c) : Rl B P Q S g (L + 1) d X (psC σ L v a nm) (psR ρ L v a nm) := by
  have hN := ps_EntP (nm := nm) hL hv6 ha hV
  obtain ⟨hp, ⟨hW, hPC, hPR, hz, hz3, hP⟩, hE, hG, hF, hNm, h7, hLg, hM, _, hT, hO, hK, h12⟩ := h
  obtain ⟨l1, l2, l3, l4⟩ := hLg
  refine ⟨hp, ⟨hW, hPC, hPR, hz, hz3, hP⟩, hE.sw hE.2.2.2, hG.up (Nat.le_succ L), hF, hNm, h7, ⟨by omega, rfl, rfl, fun e he => ?_⟩, hM.up (Nat.le_succ L), ⟨0, by decide, rfl, rfl, fun c hc => absurd hc (Nat.not_lt_zero _)⟩, hT, hO, hK, h12⟩
  by_cases q : e = L
  · subst q
    refine ⟨0, by omega, ?_, ?_, fun _ => ⟨a, v, hN⟩, fun z => by omega⟩
    · show zI (neC σ e 0) 128 0 e 0 = nI 0
      unfold neC
      rw [zI_sI, if_pos ⟨rfl, rfl, rfl, rfl⟩]
    · show zI (sI _ 1965 0 0 e (nI 0)) 1965 0 0 e = nI 0
      rw [zI_sI, if_pos ⟨rfl, rfl, rfl, rfl⟩]
  · have qs : ∀ {A B C : Prop}, ¬ (A ∧ B ∧ e = L ∧ C) := fun z => q z.2.2.1
    unfold psC psR
    refine (l4 e (by omega)).cg ?_ rfl ?_ ?_ ?_ (fun c => ?_) ?_ ?_ ?_ ?_ (fun c hc => ?_)
    · show zI (neC σ L 0) 128 0 e 0 = _
      unfold neC
      rw [zI_sI, if_neg qs]; rfl
    · rw [zI_sI, if_neg (by omega), zI_sI, if_neg qs, zI_wRow, if_neg qs, if_neg (by omega)]; rfl
    · rw [zI_sI, if_neg (by omega), zI_sI, if_neg qs, zI_wRow, if_neg (by omega), if_neg qs]; rfl
    · show zJ (sJ (neC σ L 0) 129 0 L 0 nm) 129 0 e 0 = _
      rw [zJ_sJ, if_neg qs]; rfl
    · show (if 1410 = 1410 ∧ 5 = 5 ∧ e = L then _ else zJ σ 1410 5 e c) = _
      rw [if_neg (fun z => q z.2.2)]
    · show zI (sI _ 1965 0 0 L (nI 0)) 1965 0 0 e = _
      rw [zI_sI, if_neg (fun z => q z.2.2.2)]; rfl
    · show zI (sI (sI _ 1965 0 0 L (nI 0)) 1966 0 0 L (nI a)) 1966 0 0 e = _
      rw [zI_sI, if_neg (fun z => q z.2.2.2)]; rfl
    · show zI (sI (sJ ρ 1968 0 0 L nm) 1967 0 0 L (nI v)) 1967 0 0 e = _
      rw [zI_sI, if_neg (fun z => q z.2.2.2)]; rfl
    · show zJ (sJ ρ 1968 0 0 L nm) 1968 0 0 e = _
      rw [zJ_sJ, if_neg (fun z => q z.2.2.2)]
    · show zJ (jJ _ 1969 0 0 _) 1969 0 0 (6 * e + c) = _
      rw [zJ_jJ, if_pos ⟨rfl, rfl, rfl⟩, pk_cpy_out (by omega)]
theorem f_push (h : Rl B P Q S g L d X σ ρ) (x y : Int32) : Fc B ["java/lang/IndexOutOfBoundsException", "java/lang/IllegalArgumentException", "java/lang/IllegalStateException"] (fX11_push x y σ) (fX14_push x y ρ) := by
  have h1 := h.thr (v := 0)
  have hN := h.n12
  have eM : (1000000 : Int64) = ((nI 1000001 - 1 : Int32).toInt64) := by decide
  unfold fX11_push fX14_push
  rw [lt_k, eM]
  rcases h1.at x with ⟨s, hs, rfl, k1, k2⟩ | ⟨k1, k2⟩
  · have b2 : s < 12 := by omega
    have g2 : gi (nI s) 12 := (n_gi (by omega)).mpr b2
    obtain ⟨hp, ⟨hW, hPC, hPR, hz, hz3, hP⟩, hE, hG, hF, hNm, h7, hLg, hM, hV, hT, hO, hK, h12⟩ := id h1
    have hCs := hPC.2.2.choose_spec.2.2.1 s hs
    have hRs := hPR.2.2.1 s hs
    have h449 : zI σ 449 (P, s).1 (P, s).2 0 = nI (dK d s) := hCs.2.1
    have h450 : zI σ 450 (P, s).1 (P, s).2 0 = nI (dW d s) := hCs.2.2.1
    have c898 : (zR (sI ρ 896 0 0 0 0) 898 0 0 0).1 = g := by rw [hz3]
    have h1794 : zI (sI ρ 896 0 0 0 0) 1794 g 0 (Int32.toNatClampNeg (nI s)) = nI (dK d s) := by rw [n_cl (by omega)]; exact hRs.2.1
    have h1795 : zI (sI ρ 896 0 0 0 0) 1795 g 0 (Int32.toNatClampNeg (nI s)) = nI (dW d s) := by rw [n_cl (by omega)]; exact hRs.2.2.1
    have hW6 := hW.w6 hs
    obtain ⟨v, v1, v2, v3, v4⟩ := hV
    obtain ⟨l1, l2, l3, l4⟩ := hLg
    obtain ⟨b, b1, b2', b3⟩ := hE.2.2.2.2.2.2.2.2.1.2.1
    rw [bx_e k1, bq_e k2, if10, if_pos g2, c898, h1794, h449]
    by_cases c0 : (nI (dK d s) : Int32) = 0
    · rw [if_pos c0, if_pos c0]
      rcases isIn_x (x := y) (N := 1000001) (by decide) with ⟨a, ha, rfl, k⟩ | ⟨q, k⟩
      · have d1 : ¬ (nI a : Int32) < 0 := by rw [i_0, n_lt (by omega) (by omega)]; omega
        have d2 : ¬ 1000000 < (nI a : Int32) := by rw [i_1000000, n_lt (by omega) (by omega)]; omega
        rw [bq_e (k _), if10, if_pos g2, c898, h1795, h450, v2, v3, if_neg d1, if_neg d2]
        by_cases cw : (nI v : Int32) = nI (dW d s)
        · rw [if_pos cw, if_pos cw, b2', b3]
          have cw' : v = dW d s := (n_eq (by omega) (by omega)).mp cw
          by_cases cb : (nI b : Int32) = 0
          · rw [if_pos cb, if_pos cb, l3]
            by_cases q : L < 200
            · have hQ := h1.psh (v := v) (a := a) (nm := dNm d s) q v1 (by omega) v4
              obtain ⟨σ5, hσ5⟩ : ∃ z, z = psC σ L v a (dNm d s) := ⟨_, rfl⟩
              obtain ⟨ρ5, hρ5⟩ : ∃ z, z = psR (sI ρ 896 0 0 0 0) L v a (dNm d s) := ⟨_, rfl⟩
              have hEp : EntP σ5 ρ5 L a (dW d s) := by
                rw [hσ5, hρ5, ← cw']; exact ps_EntP q v1 (by omega) v4
              have e129 : zJ σ5 129 0 L 0 = dNm d s := by
                rw [hσ5]
                show zJ (sJ (neC σ L 0) 129 0 L 0 (dNm d s)) 129 0 L 0 = _
                rw [zJ_sJ, if_pos ⟨rfl, rfl, rfl, rfl⟩]
              have e68 : zI σ5 68 0 0 0 = nI 0 := by
                rw [hσ5]; exact b2'.trans cb
              have e128 : zI σ5 128 0 L 0 = nI 0 := by
                rw [hσ5]
                show zI (neC σ L 0) 128 0 L 0 = nI 0
                unfold neC
                rw [zI_sI, if_pos ⟨rfl, rfl, rfl, rfl⟩]
              have hQ5 : Rl B P Q S g (L + 1) d X σ5 ρ5 := by rw [hσ5, hρ5]; exact hQ
              have hnm : fX5_streamNamed P (zJ σ5 129 0 L 0) (sI σ5 70 0 0 0 (nI 0)) = some (nI s, sI σ5 70 0 0 0 (nI 0)) := by
                rw [name_C (N := dN d) hN (show zI (sI σ5 70 0 0 0 (nI 0)) 321 P 0 0 = _ from hQ5.2.1.2.1.1), e129]
                have ec : nix (fun s => zJ (sI σ5 70 0 0 0 (nI 0)) 448 P s 0) (dNm d s) (dN d) 0 = nix (dNm d) (dNm d s) (dN d) 0 := by
                  refine nix_c _ _ (fun j _ hj => ?_)
                  exact (hQ5.2.1.2.1.2.2.choose_spec.2.2.1 j (by omega)).1
                rw [ec]
                rcases nix_s (f := dNm d) (w := dNm d s) (dN d) 0 with ⟨_, n2⟩ | ⟨j, _, hj, n3, n1, _⟩
                · exact absurd rfl (n2 s (Nat.zero_le _) (by omega))
                · rw [n1, (hNm j (by omega)).2 s hs n3]
              obtain ⟨σ2, σ', ρ', X', u1, u2, u3, u4, u5, u6⟩ := r_push hQ5.2.1 hQ5.2.2.1 hQ5.2.2.2.1 (by omega) hs ((n_eq (a := dK d s) (b := 0) (by have := (hW.2.2.1 s hs).1; omega) (by decide)).mp c0) q hnm e68 hEp
              refine ⟨.ok (zI σ' 70 0 0 0), σ', zI ρ' 930 0 0 0, ρ', ?_, ?_, ⟨?_, u4.1 trivial⟩, (hQ5.eng u4 u5 u6).rel⟩
              · have hcp := row_copy (p := 5) (s := L) (p1 := 3) (s1 := 0) (σ := sJ (neC σ L 0) 129 0 L 0 (zJ (neC σ L 0) 448 P s 0)) (by omega)
                have e448 : zJ (neC σ L 0) 448 P s 0 = dNm d s := hCs.1
                have e385 : zI (sJ (neC σ L 0) 129 0 L 0 (dNm d s)) 385 3 0 0 = nI v := v2
                rw [e448, e385] at hcp
                have w1 : fX1_doPush L (sI σ5 70 0 0 0 0) = some (1, σ2) := u1
                rw [bx_e (show fX11_newEntry 0 σ = _ from new_C l2 q), lt_k, e448, bq_e hcp, lt_k, lt_k]
                show bq (fX11_rowsTakenBy L (psC σ L v a (dNm d s))) _ = _
                rw [← hσ5]
                unfold fX11_rowsTakenBy fX1_perform
                have z128 : ∀ v, zI (sI σ5 70 0 0 0 v) 128 0 L 0 = nI 0 := fun _ => e128
                rw [lt_k, z128, if_pos (by decide), bq_e w1, if_pos (Or.inr rfl), bq_s, bq_e u2, bq_s]
              · have gL : gi (nI L) 200 := (n_gi (by omega)).mpr q
                have e940 : ∀ a b, zI (sI (sJ (sI ρ 896 0 0 0 0) 1968 0 0 L a) 1967 0 0 L b) 940 0 0 0 = nI L := fun _ _ => l3
                have e940' : ∀ a, zI (sJ (sI ρ 896 0 0 0 0) 1968 0 0 L a) 940 0 0 0 = nI L := fun _ => l3
                have e948 : ∀ a, zI (sJ (sI ρ 896 0 0 0 0) 1968 0 0 L a) 948 0 0 0 = nI v := fun _ => v3
                have e793 : zJ (sI ρ 896 0 0 0 0) 1793 g 0 s = dNm d s := hRs.1
                have gc : gcp 0 (nI (6 * L)) 6 6 1200 := (n_gcp (a := 0) (b := 6 * L) (c := 6) (by omega) (by omega) (by omega)).mpr (by omega)
                rw [if200 q, if_pos gL, if_pos g2]
                simp only [lt_k, n_cl (show L < 2147483648 by omega), n_cl (show s < 2147483648 by omega), e793, e940, e940', e948]
                rw [if_pos gL]
                have hg6 : (6 : Int32) * nI L = nI (6 * L) := by rw [i_6, n_mul]
                have hsc : sC (sI (sJ (sI ρ 896 0 0 0 0) 1968 0 0 L (dNm d s)) 1967 0 0 L (nI v)) 1973 0 0 1969 0 0 (Int32.toNatClampNeg 0) (Int32.toNatClampNeg (nI (6 * L))) (Int32.toNatClampNeg 6) = jJ (sI (sJ (sI ρ 896 0 0 0 0) 1968 0 0 L (dNm d s)) 1967 0 0 L (nI v)) 1969 0 0 (va_cpy (zJ ρ 1973 0 0) (zJ ρ 1969 0 0) 0 (6 * L) 6) := by
                  rw [sC_j, n_cl (by omega)]; rfl
                have hwr : fX14_write 0 (nI a) (jJ (sI (sJ (sI ρ 896 0 0 0 0) 1968 0 0 L (dNm d s)) 1967 0 0 L (nI v)) 1969 0 0 (va_cpy (zJ ρ 1973 0 0) (zJ ρ 1969 0 0) 0 (6 * L) 6)) = some ((), wrR (jJ (sI (sJ (sI ρ 896 0 0 0 0) 1968 0 0 L (dNm d s)) 1967 0 0 L (nI v)) 1969 0 0 (va_cpy (zJ ρ 1973 0 0) (zJ ρ 1969 0 0) 0 (6 * L) 6)) L 0 (nI a)) := write_R (k := 0) l3 q
                rw [hg6, if_pos gc, hsc, bq_e hwr]
                have e40 : zI ρ5 940 0 0 0 = nI (L + 1) := by rw [hρ5]; rfl
                have e46 : (6 : Int32) * (zI ρ5 940 0 0 0 - 1) = nI (6 * L) := by rw [e40, i_1, n_sub (by omega), i_6, n_mul, Nat.add_sub_cancel]
                show bq (fX14_doPush (nI s) (nI a) (6 * (zI (psR (sI ρ 896 0 0 0 0) L v a (dNm d s)) 940 0 0 0 - 1)) (psR (sI ρ 896 0 0 0 0) L v a (dNm d s))) _ = _
                rw [← hρ5, e46, bq_e u3]
              · rw [u4.t89, hρ5]; rfl
            · have e : L = 200 := by omega
              rw [e] at l2 l3 ⊢
              rw [if_pos (by decide), bx_x (new_Cf l2), fail_R, bq_s]
              exact h1.no rfl rfl (by decide) rfl
          · rw [if_neg cb, if_neg cb, fail_R, bq_s]
            exact h1.no rfl rfl (by decide) rfl
        · rw [if_neg cw, if_neg cw, fail_R, bq_s]
          exact h1.no rfl rfl (by decide) rfl
      · rw [bq_e (k _), if00, fail_R, bq_s]
        refine h1.no (E := "java/lang/IllegalArgumentException") ?_ rfl (by decide) rfl
        rcases q with q | ⟨a, a1, a2, rfl⟩
        · rw [if_pos q]
        · rw [if_neg, if_pos]
          · rw [i_1000000, n_lt (by omega) (by omega)]; omega
          · rw [i_0, n_lt (by omega) (by omega)]; omega
    · rw [if_neg c0, if_neg c0, fail_R, bq_s]
      exact h1.no rfl rfl (by decide) rfl
  · rw [bx_x k1, bq_e k2, if00, fail_R, bq_s]
    exact h1.no rfl rfl (by decide) rfl
end AC
