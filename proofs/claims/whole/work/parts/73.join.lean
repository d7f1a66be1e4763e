/-! STEPS: join -/
theorem max_C {a b : Nat} (ha : a < 1073741824) (hb : b < 1073741824) : p_max (nI a) (nI b) = nI (max a b) := by
  unfold p_max
  by_cases q : a < b
  · rw [if_pos ((n_lt (by omega) (by omega)).mpr q), Nat.max_eq_right (by omega)]
  · rw [if_neg (fun z => q ((n_lt (by omega) (by omega)).mp z)), Nat.max_eq_left (by omega)]
theorem max_L {a b : Nat} (ha : a < 1073741824) (hb : b < 1073741824) : p_lmax (lN a) (lN b) = lN (max a b) := by
  unfold p_lmax
  by_cases q : b < a
  · rw [if_pos ((lN_lt (by omega) (by omega)).mpr q), Nat.max_eq_left (by omega)]
  · rw [if_neg (fun z => q ((lN_lt (by omega) (by omega)).mp z)), Nat.max_eq_right (by omega)]
section JO
variable {P g : Nat} {d : Pd} {σ0 ρ0 : Zs} {τ : Prop} {X : Nat → Nat → Nat} {σ ρ : Zs} {s t off offb a r : Nat} {pa sa : Nat} {x4 : Int32}
theorem made_l {pl pr wa wb z t : Nat} {b : Nat} (hs : s < 12) (hb : b < 12) (hoff : offb + 7 ≤ 16800) (hpr : ¬ pr = 2) (hw : wa + wb ≤ 7) (hwb : wb ≤ 6) (hz : z < wb) : ∀ (k y n m pos : Nat) (σ ρ : Zs), y + k = wb → k < n → k < m → pos = wa + y - (if z < y then 1 else 0) →
    zR ρ 898 0 0 0 = (g, 0) → zI ρ 1798 g 0 s = nI b → zI ρ 1795 g 0 b = nI wb → zI ρ 1802 g 0 s = nI z → zI σ 454 P s 0 = nI z → zI σ 385 pr 0 0 = nI wb → (∀ c, c < wb → zJ σ 1410 pr 0 c = zJ ρ 1940 0 0 (offb + 1 + c)) → RW 2 0 t pos σ ρ →
    ∃ f f2, fX1_makeJoined_29 P s pl 0 pr 0 n (nI y) σ = some ((), wRow σ 2 0 (nI t) (nI (wa + wb - 1)) f) ∧ fX14_pair_123 (nI s) (nI off) (nI offb) m (nI pos) (nI y) ρ = bq (fX14_offer (nI s) (jJ ρ 1957 0 0 f2)) (fun _ z => some ((), z)) ∧ RW 2 0 t (wa + wb - 1) (wRow σ 2 0 (nI t) (nI (wa + wb - 1)) f) (jJ ρ 1957 0 0 f2) := by
  intro k
  induction k with
  | zero =>
    intro y n m pos σ ρ h1 h2 h3 hp hz3 h4 h5 h6 h7 h8 h9 hR
    obtain ⟨n, rfl⟩ : ∃ j, n = j + 1 := ⟨n - 1, by omega⟩
    obtain ⟨m, rfl⟩ : ∃ j, m = j + 1 := ⟨m - 1, by omega⟩
    have e : y = wb := by omega
    subst e
    rw [if_pos hz] at hp
    subst hp
    have b1 : y ≤ y := Nat.le_refl _
    have hid : wRow σ 2 0 (nI t) (nI (wa + y - 1)) (zJ σ 1410 2 0) = σ := by
      refine (wRow_of (fun c p' s' i => ?_) (fun c p' s' i => ?_) (fun _ _ _ _ => rfl)).symm
      · split
        · rename_i q; obtain ⟨rfl, rfl, rfl, rfl⟩ := q; exact hR.1
        · split
          · rename_i q; obtain ⟨rfl, rfl, rfl, rfl⟩ := q; exact hR.2.1
          · rfl
      · split
        · rename_i q; obtain ⟨rfl, rfl, rfl⟩ := q; rfl
        · rfl
    refine ⟨zJ σ 1410 2 0, zJ ρ 1957 0 0, ?_, ?_, ?_⟩
    · rw [hid, fX1_makeJoined_29]
      simp (disch := omega) only [h8, n_le, b1, ↓reduceIte]
    · rw [jJ_self, fX14_pair_123]
      simp (disch := omega) only [hz3, h4, h5, i_12, n_gi, n_cl, n_le, hs, hb, b1, ↓reduceIte]
    · rw [hid, jJ_self]; exact hR
  | succ k ih =>
    intro y n m pos σ ρ h1 h2 h3 hp hz3 h4 h5 h6 h7 h8 h9 hR
    obtain ⟨n, rfl⟩ : ∃ j, n = j + 1 := ⟨n - 1, by omega⟩
    obtain ⟨m, rfl⟩ : ∃ j, m = j + 1 := ⟨m - 1, by omega⟩
    have b1 : ¬ wb ≤ y := by omega
    have b5 : offb + 1 + y < 16800 := by omega
    rw [fX1_makeJoined_29, fX14_pair_123]
    by_cases e : y = z
    · have hp2 : pos = wa + (y + 1) - (if z < y + 1 then 1 else 0) := by
        rw [if_pos (by omega)]; rw [if_neg (by omega)] at hp; omega
      subst e
      simp (disch := omega) only [hz3, h4, h5, h6, h7, h8, i_1, i_12, n_gi, n_cl, n_le, n_eq, n_mul, n_add, hs, hb, b1, ↓reduceIte]
      exact ih (y + 1) n m pos σ ρ (by omega) (by omega) (by omega) hp2 hz3 h4 h5 h6 h7 h8 h9 hR
    · have hpos : pos < 6 := by
        rw [hp]; split <;> omega
      have b6 : 1 + pos < 7 := by omega
      simp (disch := omega) only [hz3, h4, h5, h6, h7, h8, i_1, i_12, n_gi, n_cl, n_le, n_eq, n_mul, n_add, hs, hb, b1, b5, b6, e, ↓reduceIte, lt_k]
      rw [bq_e (row_num (by omega)), bq_e (row_app hR.2.1 (by omega)), hR.1]
      have hR2 : RW 2 0 t (pos + 1) (wRow σ 2 0 (nI t) (nI (pos + 1)) fun j => if j = pos then zJ σ 1410 pr 0 y else zJ σ 1410 2 0 j) (sJ ρ 1957 0 0 (1 + pos) (zJ ρ 1940 0 0 (offb + 1 + y))) := by
        refine ⟨?_, ?_, ?_, fun i hi => ?_⟩
        · rw [zI_wRow, if_pos ⟨rfl, rfl, rfl, rfl⟩]
        · rw [zI_wRow, if_neg (by omega), if_pos ⟨rfl, rfl, rfl, rfl⟩]
        · rw [zJ_sJ, if_neg (by omega)]; exact hR.2.2.1
        · rw [zJ_wRow, if_pos ⟨rfl, rfl, rfl⟩, zJ_sJ]
          by_cases e : i = pos
          · subst e
            rw [if_pos rfl, if_pos ⟨rfl, rfl, rfl, rfl⟩]; exact h9 y (by omega)
          · rw [if_neg e, if_neg (fun q => e (by omega))]; exact hR.2.2.2 i (by omega)
      have hp2 : pos + 1 = wa + (y + 1) - (if z < y + 1 then 1 else 0) := by
        by_cases q : z < y
        · rw [if_pos (by omega)]; rw [if_pos q] at hp; omega
        · rw [if_neg (by omega)]; rw [if_neg q] at hp; omega
      obtain ⟨f, f2, u1, u2, u3⟩ := ih (y + 1) n m (pos + 1) _ _ (by omega) (by omega) (by omega) hp2 (by exact hz3) (by exact h4) (by exact h5) (by exact h6) (by exact h7) (by
        rw [zI_wRow, if_neg (by omega), if_neg (by omega)]; exact h8) (fun c hc => by
        rw [zJ_wRow, if_neg (by omega)]; exact h9 c hc) hR2
      refine ⟨f, f2, ?_, ?_, ?_⟩
      · rw [u1, wRow_w]
      · rw [u2, sJ_j, jJ_jJ]
      · rw [wRow_w, sJ_j, jJ_jJ] at u3; exact u3
/-- a row of the class's that is the law's row at off, with w numbers -/
def AtR (p t w off : Nat) (σ ρ : Zs) : Prop := zI σ 384 p 0 0 = nI t ∧ zI σ 385 p 0 0 = nI w ∧ zJ ρ 1940 0 0 off = lN t ∧ ∀ c, c < w → zJ σ 1410 p 0 c = zJ ρ 1940 0 0 (off + 1 + c)
/-- two rows that fit: they are joined, and the stream would get the row -/
theorem r_pairT {pl pr ta tb : Nat} (hB : EB P g d σ0 ρ0) (h : ER P d σ0 ρ0 τ X σ ρ) (hs : s < dN d) (hk : dK d s = 5) (hpl : ¬ pl = 2) (hpr : ¬ pr = 2) (hoa : off + 7 ≤ 16800) (hob : offb + 7 ≤ 16800) (hA : AtR pl ta (dW d (dA d s)) off σ ρ) (hBr : AtR pr tb (dW d (dB d s)) offb σ ρ) (hta : ta ≤ TB (dA d s)) (htb : tb ≤ TB (dB d s))
    (hkey : zJ ρ 1940 0 0 (off + 1 + dY d s) = zJ ρ 1940 0 0 (offb + 1 + dZ d s)) (hnear : near ta tb (dS d s)) :
    ∃ σ2 σ3 ρ3 X3, fX1_makeJoined P s pl 0 pr 0 σ = some ((), σ2) ∧ fX1_give (nI s) 2 0 σ2 = some ((), σ3) ∧ fX14_pair (nI s) (nI off) (nI offb) ρ = some ((), ρ3) ∧ ER P d σ0 ρ0 τ X3 σ3 ρ3 ∧ XO s X X3 ∧ KG P X σ σ3 := by
  obtain ⟨hW, hPC, hPR, hz, hz3, hP⟩ := hB.fr h
  have hC := hPC.2.2.choose_spec.2.2.1 s hs
  have hR := hPR.2.2.1 s hs
  have hN := hW.n
  have hAs := hW.a hs (by omega)
  obtain ⟨_, _, wS6, hS1000, _, _, hBs, _, _, _, _, hop, _⟩ := hW.2.2.1 s hs
  have hBs := hBs (Or.inr hk)
  obtain ⟨o1, o2, o3⟩ := hop hk
  have hA6 := hW.w6 (Nat.lt_trans hAs hs)
  have hB6 := hW.w6 (Nat.lt_trans hBs hs)
  have h454 : zI σ 454 P s 0 = nI (dZ d s) := hC.2.2.2.2.2.2.2.1 hk
  have h1801 : zI ρ 1801 g 0 s = nI (dY d s) := hR.2.2.2.2.2.2.1 (by omega)
  have h1802 : zI ρ 1802 g 0 s = nI (dZ d s) := hR.2.2.2.2.2.2.2.1 hk
  have h1799 : zI ρ 1799 g 0 s = nI (dS d s) := hR.2.2.2.2.2.2.2.2.1 (by omega)
  have h1797 := hR.2.2.2.2.1
  have h1798 := hR.2.2.2.2.2.1
  rw [if_neg (by omega)] at h1797
  rw [if_pos (Or.inr hk)] at h1798
  have h1795A := (hPR.2.2.1 (dA d s) (by omega)).2.2.1
  have h1795B := (hPR.2.2.1 (dB d s) (by omega)).2.2.1
  have hta2 : ta < 1073741824 := by unfold TB at hta; omega
  have htb2 : tb < 1073741824 := by unfold TB at htb; omega
  have htm : max ta tb ≤ TB s := by
    have a1 := TB_le (Nat.le_of_lt hAs)
    have a2 := TB_le (Nat.le_of_lt hBs)
    exact Nat.max_le.mpr ⟨by omega, by omega⟩
  have b0 : s < 12 := by omega
  have b1 : dA d s < 12 := by omega
  have b2 : off + 1 + dY d s < 16800 := by omega
  have b3 : offb + 1 + dZ d s < 16800 := by omega
  have b4 : off < 16800 := by omega
  have b5 : offb < 16800 := by omega
  have b6 : 0 < 7 := by omega
  have hcp := row_copy (p := 2) (s := 0) (p1 := pl) (s1 := 0) (σ := σ) (fun q => hpl q.1)
  rw [hA.1, hA.2.1] at hcp
  obtain ⟨f, hf, hcp⟩ : ∃ f, (∀ j, j < 6 → f j = zJ σ 1410 pl 0 j) ∧ fX6_copyFrom 2 0 pl 0 σ = some ((), wRow σ 2 0 (nI ta) (nI (dW d (dA d s))) f) := ⟨_, fun j hj => if_pos hj, hcp⟩
  have hst : sI (wRow σ 2 0 (nI ta) (nI (dW d (dA d s))) f) 384 2 0 0 (nI (max ta tb)) = wRow σ 2 0 (nI (max ta tb)) (nI (dW d (dA d s))) f := by
    refine zs_ext (fun c p s i => ?_) (fun _ _ _ _ => rfl) (fun _ _ _ _ => rfl)
    simp only [zI_sI, zI_wRow]
    grind
  have hR0 : RW 2 0 (max ta tb) (dW d (dA d s)) (wRow σ 2 0 (nI (max ta tb)) (nI (dW d (dA d s))) f) (sJ (loadR ρ 1940 off) 1957 0 0 0 (lN (max ta tb))) := by
    refine ⟨?_, ?_, ?_, fun i hi => ?_⟩
    · rw [zI_wRow, if_pos ⟨rfl, rfl, rfl, rfl⟩]
    · rw [zI_wRow, if_neg (by omega), if_pos ⟨rfl, rfl, rfl, rfl⟩]
    · rw [zJ_sJ, if_pos ⟨rfl, rfl, rfl, rfl⟩]
    · rw [zJ_wRow, if_pos ⟨rfl, rfl, rfl⟩, zJ_sJ, if_neg (by omega), load_i (by omega), hf i (by omega)]
      exact hA.2.2.2 i hi
  have ff : dW d (dB d s) < FU := by unfold FU; omega
  have hw7 : dW d (dA d s) + dW d (dB d s) ≤ 7 := by omega
  have hw0 : dW d (dA d s) = dW d (dA d s) + 0 - (if dZ d s < 0 then 1 else 0) := by rw [if_neg (by omega)]; rfl
  obtain ⟨f1, f2, u1, u2, u3⟩ := made_l (P := P) (g := g) (off := off) (offb := offb) (pl := pl) (pr := pr) (wa := dW d (dA d s)) (wb := dW d (dB d s)) (z := dZ d s) (b := dB d s) b0 (by omega) hob hpr hw7 hB6 o2 (dW d (dB d s)) 0 FU FU (dW d (dA d s)) (wRow σ 2 0 (nI (max ta tb)) (nI (dW d (dA d s))) f) (sJ (loadR ρ 1940 off) 1957 0 0 0 (lN (max ta tb))) (by omega) ff ff hw0 (by exact hz3) (by exact h1798) (by exact h1795B) (by exact h1802) (by exact h454) (by
    rw [zI_wRow, if_neg (by omega), if_neg (by omega)]; exact hBr.2.1) (fun c hc => by
    rw [zJ_wRow, if_neg (by omega)]; exact hBr.2.2.2 c hc) hR0
  rw [wRow_w] at u1 u3
  have ew : dW d (dA d s) + dW d (dB d s) - 1 = dW d s := by omega
  rw [ew] at u1 u3
  have hE : ER P d σ0 ρ0 τ X (wRow σ 2 0 (nI (max ta tb)) (nI (dW d s)) f1) (jJ (sJ (loadR ρ 1940 off) 1957 0 0 0 (lN (max ta tb))) 1957 0 0 f2) := by
    rw [sJ_j]
    exact (((h.r2).k57).k57).k57
  obtain ⟨σ3, ρ3, X3, g1, g2, g3, g4, g5⟩ := r_giveK hB hE hs u3 htm (Or.inr (Or.inl rfl))
  have hkg : KG P X σ (wRow σ 2 0 (nI (max ta tb)) (nI (dW d s)) f1) := KG.rf
  refine ⟨_, σ3, ρ3, X3, ?_, g1, ?_, g3, g4, hkg.tr g5⟩
  · unfold fX1_makeJoined
    rw [bq_e hcp]
    have e2 : zI (wRow σ 2 0 (nI ta) (nI (dW d (dA d s))) f) 384 2 0 0 = nI ta := by rw [zI_wRow, if_pos ⟨rfl, rfl, rfl, rfl⟩]
    have e3 : zI (wRow σ 2 0 (nI ta) (nI (dW d (dA d s))) f) 384 pr 0 0 = nI tb := by rw [zI_wRow, if_neg (by omega), if_neg (by omega)]; exact hBr.1
    have e4 : zI (wRow σ 2 0 (nI ta) (nI (dW d (dA d s))) f) 384 pl 0 0 = nI ta := by rw [zI_wRow, if_neg (by omega), if_neg (by omega)]; exact hA.1
    simp only [e2, e3, e4, lt_k]
    rw [max_C hta2 htb2, hst]
    exact u1
  · unfold fX14_pair
    have hl0 : lg_cmp (zJ ρ 1940 0 0 (off + 1 + dY d s)) (zJ ρ 1940 0 0 (offb + 1 + dZ d s)) = 0 := l_cmp0.mpr hkey
    have hnq : lg_cmp (p_labs (lN ta - lN tb)) ((nI (dS d s)).toInt64) ≤ 0 := by rw [near_Q hta2 htb2 (by omega)]; exact hnear
    simp (disch := omega) only [hz3, h1801, h1802, h1799, i_1, i_12, n_gi, n_cl, n_add, b0, b2, b3, b4, b5, hl0, hA.2.2.1, hBr.2.2.1, hnq, ↓reduceIte]
    rw [bq_e (load_R hoa)]
    have e5 : zJ (loadR ρ 1940 off) 1940 0 0 off = lN ta := hA.2.2.1
    have e6 : zJ (loadR ρ 1940 off) 1940 0 0 offb = lN tb := hBr.2.2.1
    simp (disch := omega) only [n_gi, n_cl, i_0, b0, b4, b5, b6, e5, e6, ↓reduceIte, lt_k, max_L hta2 htb2]
    simp (disch := omega) only [zI_sJ, zR_sJ, zI_load, zR_load, hz3, h1797, h1795A, n_gi, n_cl, b0, b1, ↓reduceIte]
    exact u2.trans (by rw [bq_e g2])
end JO
