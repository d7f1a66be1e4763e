/-! ITEMS, both: a column's expression; make -/
def coC (z : Zs) (S n w a b : Nat) : Zs := if w < 6 then sI (sI z 1481 S n w (nI a)) 1482 S n w (nI b) else z
section MA
variable {x : Cx} {t : Nat} {σ ρ : Zs} {d : Pd}
theorem end_co {S n w a b : Nat} (h1 : zI σ 192 0 0 0 = 0) (h2 : zI σ 197 0 0 0 = 0) (h3 : zR σ 195 0 0 0 = (S, n)) (h4 : zR σ 194 0 0 0 = (S, 0)) (h5 : zI σ 205 0 0 0 = nI a) (h6 : zI σ 326 S 0 0 = nI b) (hk : ¬ zI σ 449 S n 0 = 1) (h201 : zI σ 201 0 0 0 = nI (w + 1)) (hw : w < 2000) : fX3_endExpression σ = some ((), coC σ S n w a b) := by
  unfold coC
  by_cases q : w < 6
  · rw [if_pos q]; exact end_code h1 h2 h3 h4 h5 h6 (Or.inr ⟨hk, h201⟩) q
  · rw [if_neg q]
    have s1 : (zR σ 195 0 0 0).1 = S := by rw [h3]
    have s2 : (zR σ 195 0 0 0).2 = n := by rw [h3]
    have s4 : (zR σ 194 0 0 0).1 = S := by rw [h4]
    have e : (nI (w + 1) : Int32) - 1 = nI w := by rw [i_1, n_sub (by omega)]; rfl
    have hsc : ∀ y y2, fX7_setCode S n (nI w) y y2 σ = some ((), σ) := fun y y2 => by
      unfold fX7_setCode
      rw [if_neg (m1_lt (by omega)), i_6, if_pos ((n_le (by omega) (by omega)).mpr (by omega))]
    unfold fX3_endExpression
    rw [if_pos h1, if_pos h2, s1, s2, if_neg hk, h201, e, bq_e (hsc _ _)]
theorem s_colx (hc : Cok x) {L z A K w : Nat} {nm : Int64} {σb ρb : Zs} (h : IP x 0 t σ ρ) (hw : w < 1500) (hm : qM x = 1 → HB x d L z nm σb ρb ∧ SIx x d L z σb ρb t σ ρ ∧ A < dN d ∧ zR σ 198 0 0 0 = (qS x, A) ∧ zI ρ 910 0 0 0 = nI A ∧ zI σ 449 (qS x) (dN d) 0 = nI K ∧ (K = 2 ∨ K = 7) ∧ zI σ 201 0 0 0 = nI (w + 1)) :
    SM (Er x 0) (fX4_wholeExpression σ) (fX14_whole ρ) (fun _ σ' s ρ' => ∃ t', t + 1 ≤ t' ∧ IP x 0 t' σ' ρ' ∧ (∃ z0, XFL (qG x) z0 ρ ρ') ∧ (qM x = 1 → ∃ σ4 L0 z0 l, L ≤ L0 ∧ z ≤ z0 ∧ zI σ 326 (qS x) 0 0 = nI L0 ∧ zI ρ 785 (qG x) 0 0 = nI z0 ∧ L0 ≤ t ∧ z0 ≤ 2 * t ∧ σ' = coC σ4 (qS x) (dN d) w L0 (L0 + l.length) ∧ WQ x (dW d A) L0 z0 t' l σ ρ σ4 s ρ' ∧ SIx x d L z σb ρb t' σ' ρ')) := by
  obtain ⟨L0, z0, hm2⟩ : ∃ L0 z0, qM x = 1 → L ≤ L0 ∧ z ≤ z0 ∧ zI σ 326 (qS x) 0 0 = nI L0 ∧ zI ρ 785 (qG x) 0 0 = nI z0 ∧ L0 ≤ t ∧ z0 ≤ 2 * t := by
    rcases m01 hc with m | m
    · exact ⟨0, 0, fun q => by omega⟩
    · obtain ⟨_, ⟨_, _, _, _, _, L', z', c6, c7, c8, c9, c10, c11⟩, _⟩ := hm m
      exact ⟨L', z', fun _ => ⟨c6, c7, c10, c11, c8, c9⟩⟩
  have hs : qM x = 1 → zI σ 192 0 0 0 = 0 ∧ Scp x A (dW d A) σ ρ ∧ zI σ 326 (qS x) 0 0 = nI L0 ∧ zI ρ 785 (qG x) 0 0 = nI z0 ∧ L0 ≤ t ∧ z0 ≤ 2 * t := fun m => by
    obtain ⟨g1, g2, g3, g4, g5, g6⟩ := hm m
    obtain ⟨k1, k2, k3⟩ := hm2 m
    exact ⟨g2.1, g2.scp g1 g3 g4 g5, k3⟩
  refine sm_m (x_whole hc h (by omega) hs) (fun _ σ5 s ρ5 g => ?_)
  obtain ⟨t', σ4, l, g1, g2, g3, g4, g5, g6⟩ := g
  refine ⟨t', g1, g3, ⟨z0, g5⟩, fun m => ?_⟩
  obtain ⟨e1, e2, e3, e4, e5, e6, e7, e8⟩ := hm m
  obtain ⟨k1, k2, k3, k4, k5, k6⟩ := hm2 m
  have wq := g6 m
  obtain ⟨w1, w2, w3, w4, w5, w6, w7, w8, w9, w10, w11, w12⟩ := id wq
  have s4 : SIx x d L z σb ρb t' σ4 ρ5 := e2.wh wq k1 k2
  have t449 : zI σ4 449 (qS x) (dN d) 0 = nI K := ((w11.1 449 _ (wW_n rfl rfl) _ _).1).trans e6
  have t201 : zI σ4 201 0 0 0 = nI (w + 1) := ((w11.1 201 _ (wW_n rfl rfl) _ _).1).trans e8
  have hco := end_co s4.1 s4.2.1 s4.2.2.1 g2.1.2.1.1 w3 w4 (by rw [t449, show (1 : Int32) = nI 1 from rfl, n_eq (by omega) (by omega)]; omega) t201 (by omega)
  rw [g4] at hco
  have hσ : σ5 = coC σ4 (qS x) (dN d) w L0 (L0 + l.length) := by cases hco; rfl
  refine ⟨σ4, L0, z0, l, k1, k2, k3, k4, k5, k6, hσ, wq, ?_⟩
  rw [hσ]
  unfold coC
  by_cases q : w < 6
  · rw [if_pos q]; exact (s4.cI (wI_S rfl) (by decide)).cI (wI_S rfl) (by decide)
  · rw [if_neg q]; exact s4
/-- the codes of the columns made so far -/
def MKP (x : Cx) (d : Pd) (A lo w : Nat) (σ ρ : Zs) : Prop := qM x = 1 → ∃ Lc zc, Lc ≤ 1500 ∧ zc ≤ 3000 ∧ zI σ 326 (qS x) 0 0 = nI Lc ∧ zI ρ 785 (qG x) 0 0 = nI zc ∧ ∀ c, lo ≤ c → c < w → c < 6 → zI ρ 1938 0 0 c ≠ 23 → ∃ a b l, zI σ 1481 (qS x) (dN d) c = nI a ∧ zI σ 1482 (qS x) (dN d) c = nI (a + l.length) ∧ a + l.length ≤ Lc ∧ Cg (qS x) σ a l ∧ zI ρ 1937 0 0 c = nI b ∧ b + l.length < zc ∧ Rg (qG x) ρ b l ∧ okO (dW d A) l
/-- one more code -/
theorem MKP.add {A lo w L0 z0 t' : Nat} {l : List Op} {s u : Int32} {a : Int64} {σ4 ρ5 : Zs} (h : MKP x d A lo w σ ρ) (m : qM x = 1) (e1 : zI σ 326 (qS x) 0 0 = nI L0) (e2 : zI ρ 785 (qG x) 0 0 = nI z0) (q : WQ x (dW d A) L0 z0 t' l σ ρ σ4 s ρ5) (hL : L0 ≤ 1500) (hz : z0 ≤ 3000) (ht : t' ≤ 1500) : MKP x d A lo (w + 1) (coC σ4 (qS x) (dN d) w L0 (L0 + l.length)) (sayR ρ5 w a s u) := by
  intro _
  obtain ⟨Lc, zc, h1, h2, h3, h4, h5⟩ := h m
  obtain ⟨w1, w2, w3, w4, w5, w6, w7, w8, w9, w10, w11, w12⟩ := q
  have eL : Lc = L0 := (n_eq (by omega) (by omega)).mp (h3.symm.trans e1)
  have ez : zc = z0 := (n_eq (by omega) (by omega)).mp (h4.symm.trans e2)
  subst eL ez
  have fI : ∀ c q s i, c ≠ 1481 ∧ c ≠ 1482 → zI (coC σ4 (qS x) (dN d) w Lc (Lc + l.length)) c q s i = zI σ4 c q s i := fun c q s i hn => by
    unfold coC
    by_cases q6 : w < 6
    · rw [if_pos q6, sI_c hn.2, sI_c hn.1]
    · rw [if_neg q6]
  have fJ : ∀ c q s i, zJ (coC σ4 (qS x) (dN d) w Lc (Lc + l.length)) c q s i = zJ σ4 c q s i := fun c q s i => by
    unfold coC
    by_cases q6 : w < 6
    · rw [if_pos q6]; rfl
    · rw [if_neg q6]
  have fw : ∀ c, c ≠ w → zI (coC σ4 (qS x) (dN d) w Lc (Lc + l.length)) 1481 (qS x) (dN d) c = zI σ4 1481 (qS x) (dN d) c ∧ zI (coC σ4 (qS x) (dN d) w Lc (Lc + l.length)) 1482 (qS x) (dN d) c = zI σ4 1482 (qS x) (dN d) c := fun c hn => by
    unfold coC
    by_cases q6 : w < 6
    · rw [if_pos q6]
      refine ⟨?_, ?_⟩
      · rw [sI_c (by decide), zI_sI, if_neg (fun z => hn z.2.2.2)]
      · rw [zI_sI, if_neg (fun z => hn z.2.2.2), sI_c (by decide)]
    · rw [if_neg q6]; exact ⟨rfl, rfl⟩
  have cg : ∀ a k, Cg (qS x) σ4 a k → Cg (qS x) (coC σ4 (qS x) (dN d) w Lc (Lc + l.length)) a k := fun a k hk j hj => by
    rw [fI 1348 _ _ _ (by decide), fJ]; exact hk j hj
  have rg : ∀ b k, Rg (qG x) ρ5 b k → Rg (qG x) (sayR ρ5 w a s u) b k := fun b k hk => by
    refine ⟨fun j hj => ?_, ?_⟩
    · rw [sayR_I (by decide), sayR_J (by decide)]; exact hk.1 j hj
    · rw [sayR_I (by decide)]; exact hk.2
  refine ⟨Lc + l.length, zc + l.length + 1, by omega, by omega, (fI _ _ _ _ (by decide)).trans w4, (sayR_I (by decide)).trans w7, fun c c1 c2 c3 c4 => ?_⟩
  obtain ⟨_, y2, y3⟩ := sayR_j (ρ := ρ5) (w := w) (j := c) (a := a) (s := s) (u := u)
  rw [y3] at c4
  by_cases qc : c = w
  · subst qc
    refine ⟨Lc, zc, l, ?_, ?_, Nat.le_refl _, cg _ _ w5, ?_, by omega, rg _ _ w6, w8⟩
    · unfold coC
      rw [if_pos c3, sI_c (by decide), zI_sI, if_pos ⟨rfl, rfl, rfl, rfl⟩]
    · unfold coC
      rw [if_pos c3, zI_sI, if_pos ⟨rfl, rfl, rfl, rfl⟩]
    · rw [y2, if_pos rfl]; exact w1
  · rw [if_neg qc, (w12.1 1938 0 (x_wYn rfl rfl) 0 c).1] at c4
    obtain ⟨b1, b2, b3, b4, b5, b6, b7, b8, b9, b10, b11⟩ := h5 c c1 (by omega) c3 c4
    refine ⟨b1, b2, b3, ?_, ?_, by omega, cg _ _ (b7.fr (n := dN d) (k := dM d) w11.ifc b6), ?_, by omega, rg _ _ (b10.fr (n := dN d) w12.ifl b9), b11⟩
    · rw [(fw c qc).1, (w11.1 1481 _ (wW_n rfl rfl) _ _).1]; exact b4
    · rw [(fw c qc).2, (w11.1 1482 _ (wW_n rfl rfl) _ _).1]; exact b5
    · rw [y2, if_neg qc, (w12.1 1937 0 (x_wYn rfl rfl) 0 c).1]; exact b8
end MA
