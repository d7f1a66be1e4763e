/-! CONSTRUCTORS -/
def Su (S G : C3) : C3 := fun c p s => S c p s ∨ G c p s
def lpG (P : Nat → C3) : Nat → C3
  | 0 => fun _ _ _ => False
  | j + 1 => fun c p s => lpG P j c p s ∨ P j c p s
theorem lpG_ex {P : Nat → C3} : ∀ {j : Nat} {c p s : Nat}, lpG P j c p s → ∃ i, i < j ∧ P i c p s
  | 0, _, _, _ => fun h => h.elim
  | j + 1, _, _, _ => fun h => by
    rcases h with h | h
    · obtain ⟨i, hi, h⟩ := lpG_ex h
      exact ⟨i, by omega, h⟩
    · exact ⟨j, by omega, h⟩
theorem lpG_of {P : Nat → C3} : ∀ {j i : Nat} {c p s : Nat}, i < j → P i c p s → lpG P j c p s
  | 0, _, _, _, _ => fun h => absurd h (Nat.not_lt_zero _)
  | j + 1, i, _, _, _ => fun hi h => by
    rcases Nat.lt_or_ge i j with q | q
    · exact Or.inl (lpG_of q h)
    · obtain rfl : i = j := by omega
      exact Or.inr h
def Zr (z : Zs) (c p s : Nat) : Prop := (∀ f, f / 64 = c → zI z f p s 0 = 0 ∧ zJ z f p s 0 = 0) ∧ ∀ i, zI z c p s i = 0 ∧ zJ z c p s i = 0
section K22
variable {A : Nat → Nat → Nat → Nat} {S F E : C3} {h : Hp} {z : Zs} {x : Cxt} {M : MI} {pc kc ks : Nat} {lv : List (Nat × Value)} {st : List Value}
theorem i_fg {F' E' : C3} {z' : Zs} (hz : Pl A S F' E' h z') (k : ∀ h1, Pl A S F' E' h1 z' → wp x M pc lv st h1 kc ks) : wp x M pc lv st h kc ks := k h hz
theorem i_addO {c0 p0 s0 q : Nat} (hz : Pl A S F E h z) (hq : ¬ m_K h q < 28) (hc : c0 < 15) (hv : vdb 2 c0 p0 s0 = true) (hS : ¬ S c0 p0 s0) (h0 : Zr z c0 p0 s0) (k : ∀ A1 h1, Ax A A1 S → Pl A1 (Sa S c0 p0 s0) F E h1 z → wp x M pc lv (.ref (A1 c0 p0 s0) :: st) h1 kc ks) : wp x M pc lv (.ref q :: st) (n_O h q c0) kc ks := by
  have h1 := k (upA A c0 p0 s0 q) _ (upA_x hS) (hz.addO hq hc hv hS h0.1)
  rw [upA_s] at h1
  exact h1
theorem i_addA {f0 p0 s0 q kd n : Nat} (hz : Pl A S F E h z) (hq : ¬ m_K h q < 28) (ha0 : arr f0 = some (kd, n)) (hf0 : f0 < 1024) (hv : vdb 2 (f0 / 64) p0 s0 = true) (hS : ¬ S (1024 + f0) p0 s0) (h0 : Zr z (1024 + f0) p0 s0) (k : ∀ A1 h1, Ax A A1 S → Pl A1 (Sa S (1024 + f0) p0 s0) F E h1 z → wp x M pc lv (.ref (A1 (1024 + f0) p0 s0) :: st) h1 kc ks) : wp x M pc lv (.ref q :: st) (n_A h q kd n) kc ks := by
  have h1 := k (upA A (1024 + f0) p0 s0 q) _ (upA_x hS) (hz.addA hq ha0 hf0 hv hS h0.2)
  rw [upA_s] at h1
  exact h1
theorem Pl.kO {c p s : Nat} (hz : Pl A S F E h z) (hS : S c p s) (hc : c < 15) : m_K h (A c p s) = c := hz.1.2.2.1 c p s hS hc
theorem Pl.kA {f p s k n : Nat} (hz : Pl A S F E h z) (hS : S (1024 + f) p s) (ha : arr f = some (k, n)) : m_K h (A (1024 + f) p s) = k := (hz.1.2.2.2.1 f p s k n hS ha).1
theorem Pl.nA {f p s k n : Nat} (hz : Pl A S F E h z) (hS : S (1024 + f) p s) (ha : arr f = some (k, n)) : m_N h (A (1024 + f) p s) = n := (hz.1.2.2.2.1 f p s k n hS ha).2
theorem rt_a {f p s k n : Nat} (h1 : arr f = some (k, n)) (h2 : sro f p s = none) (h3 : dro f = none) : RT z f p s (1024 + f) p s := ⟨fun _ _ _ => ⟨rfl, rfl, rfl⟩, fun _ q => (by rw [h2] at q; cases q), fun _ q => (by rw [h3] at q; cases q)⟩
theorem rt_s {f p s c' p' s' : Nat} (h1 : arr f = none) (h2 : sro f p s = some (c', p', s')) (h3 : dro f = none) : RT z f p s c' p' s' := ⟨fun _ _ q => (by rw [h1] at q; cases q), fun _ q => (by rw [h2] at q; exact (Option.some.inj q).symm), fun _ q => (by rw [h3] at q; cases q)⟩
theorem et_s {f p i c' p' s' : Nat} (h1 : f ≠ 65) (h2 : sre f p i = some (c', p', s')) : ET z f p i c' p' s' := ⟨fun _ q => (by rw [h2] at q; exact (Option.some.inj q).symm), fun q => absurd q h1⟩
theorem Pl.rA {f p s k n : Nat} (hz : Pl A S F E h z) (hF : F f p s) (ha : arr f = some (k, n)) : m_R h f (A (f / 64) p s) = some (A (1024 + f) p s) := by
  obtain ⟨-, -, c', p', s', -, q2, q3, -, -⟩ := hz.2.1 f p s hF
  obtain ⟨rfl, rfl, rfl⟩ := q3 k n ha
  exact q2
theorem Pl.rO {f p s c' p' s' : Nat} (hz : Pl A S F E h z) (hF : F f p s) (ha : sro f p s = some (c', p', s')) : m_R h f (A (f / 64) p s) = some (A c' p' s') := by
  obtain ⟨-, -, c1, p1, s1, -, q2, -, q3, -⟩ := hz.2.1 f p s hF
  have := q3 _ ha
  cases this
  exact q2
theorem Pl.rE {f p i c' p' s' : Nat} (hz : Pl A S F E h z) (hE : E f p i) (ha : sre f p i = some (c', p', s')) : m_Z h (A (1024 + f) p 0) i = some (A c' p' s') := by
  obtain ⟨-, c1, p1, s1, -, q2, q3, -⟩ := hz.2.2 f p i hE
  have := q3 _ ha
  cases this
  exact q2
theorem Ax.trans {A1 A2 A3 : Nat → Nat → Nat → Nat} {S1 S2 : C3} (h1 : Ax A1 A2 S1) (h2 : Ax A2 A3 S2) (h : ∀ c p s, S1 c p s → S2 c p s) : Ax A1 A3 S1 := fun c p s q => (h2 c p s (h c p s q)).trans (h1 c p s q)
end K22
def GRow (p s : Nat) : C3 := fun c p9 s9 => (c = 1410 ∧ p9 = p ∧ s9 = s)
def FGRow (p s : Nat) : C3 := fun c p9 s9 => (c = 386 ∧ p9 = p ∧ s9 = s)
set_option maxRecDepth 20000 in
set_option maxHeartbeats 4000000 in
theorem s_X6_init {A : Nat → Nat → Nat → Nat} {S F E : C3} {h : Hp} {z : Zs} {p s : Nat} (hS : S 6 p s) (hv : vdb 2 6 p s = true) (hN : ∀ c p9 s9, (c = 1410 ∧ p9 = p ∧ s9 = s) → ¬ S c p9 s9) (hZ : ∀ c p9 s9, (c = 1410 ∧ p9 = p ∧ s9 = s) → Zr z c p9 s9) (hz : Pl A S F E h z) : ∀ l : Launch, Sp l mX6_init 1 1 6 [.ref (A 6 p s)] h (fun r h1 => r = none ∧ ∃ A1, Ax A A1 S ∧ Pl A1 (Su S (GRow p s)) (Su F (FGRow p s)) E h1 z) X0 := by
  intro l
  refine Sp.of rfl rfl (lv := [(0, .ref (A 6 p s))]) (Nat.le_of_ble_eq_true rfl) rfl (fun x hf hrm => ?_)
  have hX : Ax A A S := fun _ _ _ _ => rfl
  refine w_aload_n 0 dX6_init_0 rfl rfl rfl ?_
  refine w_objInit hrm (by decide) dX6_init_1 rfl ml_X6_3 im_objectInit co_objectInit (Nat.le_of_ble_eq_true rfl) ?_
  refine w_aload_n 0 dX6_init_4 rfl rfl rfl ?_
  refine w_bipush 6 dX6_init_5 rfl rfl ?_
  refine w_newJ (n := 6) hrm dX6_init_7 rfl a_long (by decide) rfl (by decide) (Nat.le_of_ble_eq_true rfl) (Nat.le_of_ble_eq_true rfl) (fun q hq => ?_)
  refine i_addA hz hq (f0 := 386) (p0 := p) (s0 := s) rfl (by decide) hv ?_ (hZ _ _ _ (by omega)) (fun A2 h hA1 hz => ?_)
  · intro q
    exact hN _ _ _ (by omega) q
  have hX := hX.trans hA1 (fun _ _ _ q => q)
  rw [← hA1 6 p s hS]
  refine p_X6_9 dX6_init_9 rfl (hz.kO (Or.inl hS) (by decide)) rfl ?_
  refine i_fg (hz.setR (f := 386) (by decide) (Or.inl hS) (Or.inr ⟨rfl, rfl, rfl⟩) (rt_a (f := 386) rfl rfl rfl)) (fun h hz => ?_)
  refine w_vret hf dX6_init_12 rfl (Nat.le_of_ble_eq_true rfl) (Nat.le_of_ble_eq_true rfl) ?_
  refine ⟨rfl, _, hX, hz.congr (fun c p9 s9 => ?_) (fun c p9 s9 q => ?_) (fun c p9 s9 q => ?_)⟩
  · simp only [Sa, Su, GRow, or_assoc]
  · simpa only [Sa, Su, FGRow, or_assoc] using q
  · exact q

def GTab (p s : Nat) : C3 := fun c p9 s9 => (c = 1538 ∧ p9 = p ∧ s9 = s) ∨ (c = 1539 ∧ p9 = p ∧ s9 = s)
def FGTab (p s : Nat) : C3 := fun c p9 s9 => (c = 514 ∧ p9 = p ∧ s9 = s) ∨ (c = 515 ∧ p9 = p ∧ s9 = s)
set_option maxRecDepth 20000 in
set_option maxHeartbeats 4000000 in
theorem s_X8_init {A : Nat → Nat → Nat → Nat} {S F E : C3} {h : Hp} {z : Zs} {p s : Nat} (hS : S 8 p s) (hv : vdb 2 8 p s = true) (hN : ∀ c p9 s9, (1536 ≤ c ∧ c < 1600 ∧ p9 = p ∧ s9 = s) → ¬ S c p9 s9) (hZ : ∀ c p9 s9, (1536 ≤ c ∧ c < 1600 ∧ p9 = p ∧ s9 = s) → Zr z c p9 s9) (hz : Pl A S F E h z) : ∀ l : Launch, Sp l mX8_init 1 2 1400 [.ref (A 8 p s)] h (fun r h1 => r = none ∧ ∃ A1, Ax A A1 S ∧ Pl A1 (Su S (GTab p s)) (Su F (FGTab p s)) E h1 z) X0 := by
  intro l
  refine Sp.of rfl rfl (lv := [(0, .ref (A 8 p s))]) (Nat.le_of_ble_eq_true rfl) rfl (fun x hf hrm => ?_)
  have hX : Ax A A S := fun _ _ _ _ => rfl
  refine w_aload_n 0 dX8_init_0 rfl rfl rfl ?_
  refine w_objInit hrm (by decide) dX8_init_1 rfl ml_X8_3 im_objectInit co_objectInit (Nat.le_of_ble_eq_true rfl) ?_
  refine w_aload_n 0 dX8_init_4 rfl rfl rfl ?_
  refine w_sipush 200 dX8_init_5 rfl rfl ?_
  refine w_newI (n := 200) hrm dX8_init_8 rfl a_int (by decide) rfl (by decide) (Nat.le_of_ble_eq_true rfl) (Nat.le_of_ble_eq_true rfl) (fun q hq => ?_)
  refine i_addA hz hq (f0 := 514) (p0 := p) (s0 := s) rfl (by decide) hv ?_ (hZ _ _ _ (by omega)) (fun A2 h hA1 hz => ?_)
  · intro q
    exact hN _ _ _ (by omega) q
  have hX := hX.trans hA1 (fun _ _ _ q => q)
  rw [← hA1 8 p s hS]
  refine p_X8_9 dX8_init_10 rfl (hz.kO (Or.inl hS) (by decide)) rfl ?_
  refine i_fg (hz.setR (f := 514) (by decide) (Or.inl hS) (Or.inr ⟨rfl, rfl, rfl⟩) (rt_a (f := 514) rfl rfl rfl)) (fun h hz => ?_)
  refine w_aload_n 0 dX8_init_13 rfl rfl rfl ?_
  refine w_sipush 1200 dX8_init_14 rfl rfl ?_
  refine w_newJ (n := 1200) hrm dX8_init_17 rfl a_long (by decide) rfl (by decide) (Nat.le_of_ble_eq_true rfl) (Nat.le_of_ble_eq_true rfl) (fun q hq => ?_)
  refine i_addA hz hq (f0 := 515) (p0 := p) (s0 := s) rfl (by decide) hv ?_ (hZ _ _ _ (by omega)) (fun A5 h hA4 hz => ?_)
  · intro q
    rcases q with q | q
    rotate_left
    · omega
    exact hN _ _ _ (by omega) q
  have hX := hX.trans hA4 (fun _ _ _ q => Or.inl (q))
  rw [← hA4 8 p s (Or.inl hS)]
  refine p_X8_15 dX8_init_19 rfl (hz.kO (Or.inl (Or.inl hS)) (by decide)) rfl ?_
  refine i_fg (hz.setR (f := 515) (by decide) (Or.inl (Or.inl hS)) (Or.inr ⟨rfl, rfl, rfl⟩) (rt_a (f := 515) rfl rfl rfl)) (fun h hz => ?_)
  refine w_vret hf dX8_init_22 rfl (Nat.le_of_ble_eq_true rfl) (Nat.le_of_ble_eq_true rfl) ?_
  refine ⟨rfl, _, hX, hz.congr (fun c p9 s9 => ?_) (fun c p9 s9 q => ?_) (fun c p9 s9 q => ?_)⟩
  · simp only [Sa, Su, GTab, or_assoc]
  · simpa only [Sa, Su, FGTab, or_assoc] using q
  · exact q

def GWin (p s : Nat) : C3 := fun c p9 s9 => (c = 1665 ∧ p9 = p ∧ s9 = s) ∨ (c = 1666 ∧ p9 = p ∧ s9 = s) ∨ (c = 1667 ∧ p9 = p ∧ s9 = s) ∨ (c = 1668 ∧ p9 = p ∧ s9 = s) ∨ (c = 1669 ∧ p9 = p ∧ s9 = s)
def FGWin (p s : Nat) : C3 := fun c p9 s9 => (c = 641 ∧ p9 = p ∧ s9 = s) ∨ (c = 642 ∧ p9 = p ∧ s9 = s) ∨ (c = 643 ∧ p9 = p ∧ s9 = s) ∨ (c = 644 ∧ p9 = p ∧ s9 = s) ∨ (c = 645 ∧ p9 = p ∧ s9 = s)
set_option maxRecDepth 20000 in
set_option maxHeartbeats 4000000 in
theorem s_X10_init {A : Nat → Nat → Nat → Nat} {S F E : C3} {h : Hp} {z : Zs} {p s : Nat} (hS : S 10 p s) (hv : vdb 2 10 p s = true) (hN : ∀ c p9 s9, (1664 ≤ c ∧ c < 1728 ∧ p9 = p ∧ s9 = s) → ¬ S c p9 s9) (hZ : ∀ c p9 s9, (1664 ≤ c ∧ c < 1728 ∧ p9 = p ∧ s9 = s) → Zr z c p9 s9) (hz : Pl A S F E h z) : ∀ l : Launch, Sp l mX10_init 1 5 480 [.ref (A 10 p s)] h (fun r h1 => r = none ∧ ∃ A1, Ax A A1 S ∧ Pl A1 (Su S (GWin p s)) (Su F (FGWin p s)) E h1 z) X0 := by
  intro l
  refine Sp.of rfl rfl (lv := [(0, .ref (A 10 p s))]) (Nat.le_of_ble_eq_true rfl) rfl (fun x hf hrm => ?_)
  have hX : Ax A A S := fun _ _ _ _ => rfl
  refine w_aload_n 0 dX10_init_0 rfl rfl rfl ?_
  refine w_objInit hrm (by decide) dX10_init_1 rfl ml_X10_3 im_objectInit co_objectInit (Nat.le_of_ble_eq_true rfl) ?_
  refine w_aload_n 0 dX10_init_4 rfl rfl rfl ?_
  refine w_bipush 60 dX10_init_5 rfl rfl ?_
  refine w_newJ (n := 60) hrm dX10_init_7 rfl a_long (by decide) rfl (by decide) (Nat.le_of_ble_eq_true rfl) (Nat.le_of_ble_eq_true rfl) (fun q hq => ?_)
  refine i_addA hz hq (f0 := 641) (p0 := p) (s0 := s) rfl (by decide) hv ?_ (hZ _ _ _ (by omega)) (fun A2 h hA1 hz => ?_)
  · intro q
    exact hN _ _ _ (by omega) q
  have hX := hX.trans hA1 (fun _ _ _ q => q)
  rw [← hA1 10 p s hS]
  refine p_X10_9 dX10_init_9 rfl (hz.kO (Or.inl hS) (by decide)) rfl ?_
  refine i_fg (hz.setR (f := 641) (by decide) (Or.inl hS) (Or.inr ⟨rfl, rfl, rfl⟩) (rt_a (f := 641) rfl rfl rfl)) (fun h hz => ?_)
  refine w_aload_n 0 dX10_init_12 rfl rfl rfl ?_
  refine w_bipush 60 dX10_init_13 rfl rfl ?_
  refine w_newI (n := 60) hrm dX10_init_15 rfl a_int (by decide) rfl (by decide) (Nat.le_of_ble_eq_true rfl) (Nat.le_of_ble_eq_true rfl) (fun q hq => ?_)
  refine i_addA hz hq (f0 := 642) (p0 := p) (s0 := s) rfl (by decide) hv ?_ (hZ _ _ _ (by omega)) (fun A5 h hA4 hz => ?_)
  · intro q
    rcases q with q | q
    rotate_left
    · omega
    exact hN _ _ _ (by omega) q
  have hX := hX.trans hA4 (fun _ _ _ q => Or.inl (q))
  rw [← hA4 10 p s (Or.inl hS)]
  refine p_X10_15 dX10_init_17 rfl (hz.kO (Or.inl (Or.inl hS)) (by decide)) rfl ?_
  refine i_fg (hz.setR (f := 642) (by decide) (Or.inl (Or.inl hS)) (Or.inr ⟨rfl, rfl, rfl⟩) (rt_a (f := 642) rfl rfl rfl)) (fun h hz => ?_)
  refine w_aload_n 0 dX10_init_20 rfl rfl rfl ?_
  refine w_bipush 60 dX10_init_21 rfl rfl ?_
  refine w_newZ (n := 60) hrm dX10_init_23 rfl a_boolean (by decide) rfl (by decide) (Nat.le_of_ble_eq_true rfl) (Nat.le_of_ble_eq_true rfl) (fun q hq => ?_)
  refine i_addA hz hq (f0 := 643) (p0 := p) (s0 := s) rfl (by decide) hv ?_ (hZ _ _ _ (by omega)) (fun A8 h hA7 hz => ?_)
  · intro q
    rcases q with q | q
    rotate_left
    · omega
    rcases q with q | q
    rotate_left
    · omega
    exact hN _ _ _ (by omega) q
  have hX := hX.trans hA7 (fun _ _ _ q => Or.inl (Or.inl (q)))
  rw [← hA7 10 p s (Or.inl (Or.inl hS))]
  refine p_X10_19 dX10_init_25 rfl (hz.kO (Or.inl (Or.inl (Or.inl hS))) (by decide)) rfl ?_
  refine i_fg (hz.setR (f := 643) (by decide) (Or.inl (Or.inl (Or.inl hS))) (Or.inr ⟨rfl, rfl, rfl⟩) (rt_a (f := 643) rfl rfl rfl)) (fun h hz => ?_)
  refine w_aload_n 0 dX10_init_28 rfl rfl rfl ?_
  refine w_bipush 60 dX10_init_29 rfl rfl ?_
  refine w_newI (n := 60) hrm dX10_init_31 rfl a_int (by decide) rfl (by decide) (Nat.le_of_ble_eq_true rfl) (Nat.le_of_ble_eq_true rfl) (fun q hq => ?_)
  refine i_addA hz hq (f0 := 644) (p0 := p) (s0 := s) rfl (by decide) hv ?_ (hZ _ _ _ (by omega)) (fun A11 h hA10 hz => ?_)
  · intro q
    rcases q with q | q
    rotate_left
    · omega
    rcases q with q | q
    rotate_left
    · omega
    rcases q with q | q
    rotate_left
    · omega
    exact hN _ _ _ (by omega) q
  have hX := hX.trans hA10 (fun _ _ _ q => Or.inl (Or.inl (Or.inl (q))))
  rw [← hA10 10 p s (Or.inl (Or.inl (Or.inl hS)))]
  refine p_X10_23 dX10_init_33 rfl (hz.kO (Or.inl (Or.inl (Or.inl (Or.inl hS)))) (by decide)) rfl ?_
  refine i_fg (hz.setR (f := 644) (by decide) (Or.inl (Or.inl (Or.inl (Or.inl hS)))) (Or.inr ⟨rfl, rfl, rfl⟩) (rt_a (f := 644) rfl rfl rfl)) (fun h hz => ?_)
  refine w_aload_n 0 dX10_init_36 rfl rfl rfl ?_
  refine w_sipush 240 dX10_init_37 rfl rfl ?_
  refine w_newJ (n := 240) hrm dX10_init_40 rfl a_long (by decide) rfl (by decide) (Nat.le_of_ble_eq_true rfl) (Nat.le_of_ble_eq_true rfl) (fun q hq => ?_)
  refine i_addA hz hq (f0 := 645) (p0 := p) (s0 := s) rfl (by decide) hv ?_ (hZ _ _ _ (by omega)) (fun A14 h hA13 hz => ?_)
  · intro q
    rcases q with q | q
    rotate_left
    · omega
    rcases q with q | q
    rotate_left
    · omega
    rcases q with q | q
    rotate_left
    · omega
    rcases q with q | q
    rotate_left
    · omega
    exact hN _ _ _ (by omega) q
  have hX := hX.trans hA13 (fun _ _ _ q => Or.inl (Or.inl (Or.inl (Or.inl (q)))))
  rw [← hA13 10 p s (Or.inl (Or.inl (Or.inl (Or.inl hS))))]
  refine p_X10_26 dX10_init_42 rfl (hz.kO (Or.inl (Or.inl (Or.inl (Or.inl (Or.inl hS))))) (by decide)) rfl ?_
  refine i_fg (hz.setR (f := 645) (by decide) (Or.inl (Or.inl (Or.inl (Or.inl (Or.inl hS))))) (Or.inr ⟨rfl, rfl, rfl⟩) (rt_a (f := 645) rfl rfl rfl)) (fun h hz => ?_)
  refine w_vret hf dX10_init_45 rfl (Nat.le_of_ble_eq_true rfl) (Nat.le_of_ble_eq_true rfl) ?_
  refine ⟨rfl, _, hX, hz.congr (fun c p9 s9 => ?_) (fun c p9 s9 q => ?_) (fun c p9 s9 q => ?_)⟩
  · simp only [Sa, Su, GWin, or_assoc]
  · simpa only [Sa, Su, FGWin, or_assoc] using q
  · exact q

def GStr (p s : Nat) : C3 := fun c p9 s9 => (c = 1475 ∧ p9 = p ∧ s9 = s) ∨ (c = 1476 ∧ p9 = p ∧ s9 = s) ∨ (c = 1481 ∧ p9 = p ∧ s9 = s) ∨ (c = 1482 ∧ p9 = p ∧ s9 = s) ∨ (c = 1483 ∧ p9 = p ∧ s9 = s) ∨ (c = 8 ∧ p9 = p ∧ s9 = s) ∨ GTab p s c p9 s9 ∨ (c = 1486 ∧ p9 = p ∧ s9 = s) ∨ (c = 1487 ∧ p9 = p ∧ s9 = s) ∨ (c = 10 ∧ p9 = p ∧ s9 = s) ∨ GWin p s c p9 s9
def FGStr (p s : Nat) : C3 := fun c p9 s9 => (c = 451 ∧ p9 = p ∧ s9 = s) ∨ (c = 452 ∧ p9 = p ∧ s9 = s) ∨ (c = 457 ∧ p9 = p ∧ s9 = s) ∨ (c = 458 ∧ p9 = p ∧ s9 = s) ∨ (c = 459 ∧ p9 = p ∧ s9 = s) ∨ FGTab p s c p9 s9 ∨ (c = 460 ∧ p9 = p ∧ s9 = s) ∨ (c = 462 ∧ p9 = p ∧ s9 = s) ∨ (c = 463 ∧ p9 = p ∧ s9 = s) ∨ FGWin p s c p9 s9 ∨ (c = 464 ∧ p9 = p ∧ s9 = s)
set_option maxRecDepth 20000 in
set_option maxHeartbeats 4000000 in
theorem s_X7_init {A : Nat → Nat → Nat → Nat} {S F E : C3} {h : Hp} {z : Zs} {p s : Nat} (hS : S 7 p s) (hv : vdb 2 7 p s = true) (hN : ∀ c p9 s9, ((1472 ≤ c ∧ c < 1600 ∨ 1664 ≤ c ∧ c < 1728 ∨ c = 8 ∨ c = 10) ∧ p9 = p ∧ s9 = s) → ¬ S c p9 s9) (hZ : ∀ c p9 s9, ((1472 ≤ c ∧ c < 1600 ∨ 1664 ≤ c ∧ c < 1728 ∨ c = 8 ∨ c = 10) ∧ p9 = p ∧ s9 = s) → Zr z c p9 s9) (hz : Pl A S F E h z) : ∀ l : Launch, Sp l mX7_init 2 16 2118 [.ref (A 7 p s)] h (fun r h1 => r = none ∧ ∃ A1, Ax A A1 S ∧ Pl A1 (Su S (GStr p s)) (Su F (FGStr p s)) E h1 z) X0 := by
  intro l
  refine Sp.of rfl rfl (lv := [(0, .ref (A 7 p s))]) (Nat.le_of_ble_eq_true rfl) rfl (fun x hf hrm => ?_)
  have hX : Ax A A S := fun _ _ _ _ => rfl
  refine w_aload_n 0 dX7_init_0 rfl rfl rfl ?_
  refine w_objInit hrm (by decide) dX7_init_1 rfl ml_X7_3 im_objectInit co_objectInit (Nat.le_of_ble_eq_true rfl) ?_
  refine w_aload_n 0 dX7_init_4 rfl rfl rfl ?_
  refine w_bipush 6 dX7_init_5 rfl rfl ?_
  refine w_newJ (n := 6) hrm dX7_init_7 rfl a_long (by decide) rfl (by decide) (Nat.le_of_ble_eq_true rfl) (Nat.le_of_ble_eq_true rfl) (fun q hq => ?_)
  refine i_addA hz hq (f0 := 451) (p0 := p) (s0 := s) rfl (by decide) hv ?_ (hZ _ _ _ (by omega)) (fun A2 h hA1 hz => ?_)
  · intro q
    exact hN _ _ _ (by omega) q
  have hX := hX.trans hA1 (fun _ _ _ q => q)
  rw [← hA1 7 p s hS]
  refine p_X7_9 dX7_init_9 rfl (hz.kO (Or.inl hS) (by decide)) rfl ?_
  refine i_fg (hz.setR (f := 451) (by decide) (Or.inl hS) (Or.inr ⟨rfl, rfl, rfl⟩) (rt_a (f := 451) rfl rfl rfl)) (fun h hz => ?_)
  refine w_aload_n 0 dX7_init_12 rfl rfl rfl ?_
  refine w_iconst 2 dX7_init_13 rfl rfl ?_
  refine w_newI (n := 2) hrm dX7_init_14 rfl a_int (by decide) rfl (by decide) (Nat.le_of_ble_eq_true rfl) (Nat.le_of_ble_eq_true rfl) (fun q hq => ?_)
  refine i_addA hz hq (f0 := 452) (p0 := p) (s0 := s) rfl (by decide) hv ?_ (hZ _ _ _ (by omega)) (fun A5 h hA4 hz => ?_)
  · intro q
    rcases q with q | q
    rotate_left
    · omega
    exact hN _ _ _ (by omega) q
  have hX := hX.trans hA4 (fun _ _ _ q => Or.inl (q))
  rw [← hA4 7 p s (Or.inl hS)]
  refine p_X7_15 dX7_init_16 rfl (hz.kO (Or.inl (Or.inl hS)) (by decide)) rfl ?_
  refine i_fg (hz.setR (f := 452) (by decide) (Or.inl (Or.inl hS)) (Or.inr ⟨rfl, rfl, rfl⟩) (rt_a (f := 452) rfl rfl rfl)) (fun h hz => ?_)
  refine w_aload_n 0 dX7_init_19 rfl rfl rfl ?_
  refine w_bipush 6 dX7_init_20 rfl rfl ?_
  refine w_newI (n := 6) hrm dX7_init_22 rfl a_int (by decide) rfl (by decide) (Nat.le_of_ble_eq_true rfl) (Nat.le_of_ble_eq_true rfl) (fun q hq => ?_)
  refine i_addA hz hq (f0 := 457) (p0 := p) (s0 := s) rfl (by decide) hv ?_ (hZ _ _ _ (by omega)) (fun A8 h hA7 hz => ?_)
  · intro q
    rcases q with q | q
    rotate_left
    · omega
    rcases q with q | q
    rotate_left
    · omega
    exact hN _ _ _ (by omega) q
  have hX := hX.trans hA7 (fun _ _ _ q => Or.inl (Or.inl (q)))
  rw [← hA7 7 p s (Or.inl (Or.inl hS))]
  refine p_X7_19 dX7_init_24 rfl (hz.kO (Or.inl (Or.inl (Or.inl hS))) (by decide)) rfl ?_
  refine i_fg (hz.setR (f := 457) (by decide) (Or.inl (Or.inl (Or.inl hS))) (Or.inr ⟨rfl, rfl, rfl⟩) (rt_a (f := 457) rfl rfl rfl)) (fun h hz => ?_)
  refine w_aload_n 0 dX7_init_27 rfl rfl rfl ?_
  refine w_bipush 6 dX7_init_28 rfl rfl ?_
  refine w_newI (n := 6) hrm dX7_init_30 rfl a_int (by decide) rfl (by decide) (Nat.le_of_ble_eq_true rfl) (Nat.le_of_ble_eq_true rfl) (fun q hq => ?_)
  refine i_addA hz hq (f0 := 458) (p0 := p) (s0 := s) rfl (by decide) hv ?_ (hZ _ _ _ (by omega)) (fun A11 h hA10 hz => ?_)
  · intro q
    rcases q with q | q
    rotate_left
    · omega
    rcases q with q | q
    rotate_left
    · omega
    rcases q with q | q
    rotate_left
    · omega
    exact hN _ _ _ (by omega) q
  have hX := hX.trans hA10 (fun _ _ _ q => Or.inl (Or.inl (Or.inl (q))))
  rw [← hA10 7 p s (Or.inl (Or.inl (Or.inl hS)))]
  refine p_X7_22 dX7_init_32 rfl (hz.kO (Or.inl (Or.inl (Or.inl (Or.inl hS)))) (by decide)) rfl ?_
  refine i_fg (hz.setR (f := 458) (by decide) (Or.inl (Or.inl (Or.inl (Or.inl hS)))) (Or.inr ⟨rfl, rfl, rfl⟩) (rt_a (f := 458) rfl rfl rfl)) (fun h hz => ?_)
  refine w_aload_n 0 dX7_init_35 rfl rfl rfl ?_
  refine w_bipush 6 dX7_init_36 rfl rfl ?_
  refine w_newI (n := 6) hrm dX7_init_38 rfl a_int (by decide) rfl (by decide) (Nat.le_of_ble_eq_true rfl) (Nat.le_of_ble_eq_true rfl) (fun q hq => ?_)
  refine i_addA hz hq (f0 := 459) (p0 := p) (s0 := s) rfl (by decide) hv ?_ (hZ _ _ _ (by omega)) (fun A14 h hA13 hz => ?_)
  · intro q
    rcases q with q | q
    rotate_left
    · omega
    rcases q with q | q
    rotate_left
    · omega
    rcases q with q | q
    rotate_left
    · omega
    rcases q with q | q
    rotate_left
    · omega
    exact hN _ _ _ (by omega) q
  have hX := hX.trans hA13 (fun _ _ _ q => Or.inl (Or.inl (Or.inl (Or.inl (q)))))
  rw [← hA13 7 p s (Or.inl (Or.inl (Or.inl (Or.inl hS))))]
  refine p_X7_25 dX7_init_40 rfl (hz.kO (Or.inl (Or.inl (Or.inl (Or.inl (Or.inl hS))))) (by decide)) rfl ?_
  refine i_fg (hz.setR (f := 459) (by decide) (Or.inl (Or.inl (Or.inl (Or.inl (Or.inl hS))))) (Or.inr ⟨rfl, rfl, rfl⟩) (rt_a (f := 459) rfl rfl rfl)) (fun h hz => ?_)
  refine w_aload_n 0 dX7_init_43 rfl rfl rfl ?_
  refine nw_X7_28 hrm dX7_init_44 rfl (Nat.le_of_ble_eq_true rfl) (Nat.le_of_ble_eq_true rfl) (fun q hq => ?_)
  refine i_addO hz hq (c0 := 8) (p0 := p) (s0 := s) (by decide) hv ?_ (hZ _ _ _ (by omega)) (fun A17 h hA16 hz => ?_)
  · intro q
    rcases q with q | q
    rotate_left
    · omega
    rcases q with q | q
    rotate_left
    · omega
    rcases q with q | q
    rotate_left
    · omega
    rcases q with q | q
    rotate_left
    · omega
    rcases q with q | q
    rotate_left
    · omega
    exact hN _ _ _ (by omega) q
  have hX := hX.trans hA16 (fun _ _ _ q => Or.inl (Or.inl (Or.inl (Or.inl (Or.inl (q))))))
  rw [← hA16 7 p s (Or.inl (Or.inl (Or.inl (Or.inl (Or.inl hS)))))]
  refine w_dup dX7_init_47 rfl rfl ?_
  refine c_X7_30 (b := A17 8 p s) (As := []) (rest := [.ref (A17 8 p s), .ref (A17 7 p s)]) (fun l => s_X8_init (Or.inr ⟨rfl, rfl, rfl⟩) hv (fun c p9 s9 hc q => by
        rcases q with q | q
        rotate_left
        · omega
        rcases q with q | q
        rotate_left
        · omega
        rcases q with q | q
        rotate_left
        · omega
        rcases q with q | q
        rotate_left
        · omega
        rcases q with q | q
        rotate_left
        · omega
        rcases q with q | q
        rotate_left
        · omega
        exact hN _ _ _ (by omega) q) (fun c p9 s9 hc => hZ _ _ _ (by omega)) hz l) hrm dX7_init_48 rfl rfl (Nat.le_of_ble_eq_true rfl) (Nat.le_of_ble_eq_true rfl) (Nat.le_of_ble_eq_true rfl) rfl (Nat.le_of_ble_eq_true rfl) (fun vr h2 hq => ?_) (fun E9 h9 hq => hq.elim)
  obtain ⟨rfl, A20, hA19, hz⟩ := hq
  show wp _ _ 51 [(0, .ref (A17 7 p s))] [.ref (A17 8 p s), .ref (A17 7 p s)] _ _ _
  have hX := hX.trans hA19 (fun _ _ _ q => Or.inl (Or.inl (Or.inl (Or.inl (Or.inl (Or.inl (q)))))))
  rw [← hA19 7 p s (Or.inl (Or.inl (Or.inl (Or.inl (Or.inl (Or.inl hS))))))]
  rw [← hA19 8 p s (Or.inr ⟨rfl, rfl, rfl⟩)]
  refine p_X7_31 dX7_init_51 rfl (hz.kO (Or.inl (Or.inl (Or.inl (Or.inl (Or.inl (Or.inl (Or.inl hS))))))) (by decide)) rfl ?_
  refine i_fg (hz.setR (f := 460) (by decide) (Or.inl (Or.inl (Or.inl (Or.inl (Or.inl (Or.inl (Or.inl hS))))))) (Or.inl (Or.inr ⟨rfl, rfl, rfl⟩)) (rt_s (f := 460) rfl rfl rfl)) (fun h hz => ?_)
  refine w_aload_n 0 dX7_init_54 rfl rfl rfl ?_
  refine w_iconst 2 dX7_init_55 rfl rfl ?_
  refine w_newI (n := 2) hrm dX7_init_56 rfl a_int (by decide) rfl (by decide) (Nat.le_of_ble_eq_true rfl) (Nat.le_of_ble_eq_true rfl) (fun q hq => ?_)
  refine i_addA hz hq (f0 := 462) (p0 := p) (s0 := s) rfl (by decide) hv ?_ (hZ _ _ _ (by omega)) (fun A22 h hA21 hz => ?_)
  · intro q
    rcases q with q | q
    rotate_left
    · simp only [GTab] at q; omega
    rcases q with q | q
    rotate_left
    · omega
    rcases q with q | q
    rotate_left
    · omega
    rcases q with q | q
    rotate_left
    · omega
    rcases q with q | q
    rotate_left
    · omega
    rcases q with q | q
    rotate_left
    · omega
    rcases q with q | q
    rotate_left
    · omega
    exact hN _ _ _ (by omega) q
  have hX := hX.trans hA21 (fun _ _ _ q => Or.inl (Or.inl (Or.inl (Or.inl (Or.inl (Or.inl (Or.inl (q))))))))
  rw [← hA21 7 p s (Or.inl (Or.inl (Or.inl (Or.inl (Or.inl (Or.inl (Or.inl hS)))))))]
  refine p_X7_35 dX7_init_58 rfl (hz.kO (Or.inl (Or.inl (Or.inl (Or.inl (Or.inl (Or.inl (Or.inl (Or.inl hS)))))))) (by decide)) rfl ?_
  refine i_fg (hz.setR (f := 462) (by decide) (Or.inl (Or.inl (Or.inl (Or.inl (Or.inl (Or.inl (Or.inl (Or.inl hS)))))))) (Or.inr ⟨rfl, rfl, rfl⟩) (rt_a (f := 462) rfl rfl rfl)) (fun h hz => ?_)
  refine w_aload_n 0 dX7_init_61 rfl rfl rfl ?_
  refine w_sipush 200 dX7_init_62 rfl rfl ?_
  refine w_newZ (n := 200) hrm dX7_init_65 rfl a_boolean (by decide) rfl (by decide) (Nat.le_of_ble_eq_true rfl) (Nat.le_of_ble_eq_true rfl) (fun q hq => ?_)
  refine i_addA hz hq (f0 := 463) (p0 := p) (s0 := s) rfl (by decide) hv ?_ (hZ _ _ _ (by omega)) (fun A25 h hA24 hz => ?_)
  · intro q
    rcases q with q | q
    rotate_left
    · omega
    rcases q with q | q
    rotate_left
    · simp only [GTab] at q; omega
    rcases q with q | q
    rotate_left
    · omega
    rcases q with q | q
    rotate_left
    · omega
    rcases q with q | q
    rotate_left
    · omega
    rcases q with q | q
    rotate_left
    · omega
    rcases q with q | q
    rotate_left
    · omega
    rcases q with q | q
    rotate_left
    · omega
    exact hN _ _ _ (by omega) q
  have hX := hX.trans hA24 (fun _ _ _ q => Or.inl (Or.inl (Or.inl (Or.inl (Or.inl (Or.inl (Or.inl (Or.inl (q)))))))))
  rw [← hA24 7 p s (Or.inl (Or.inl (Or.inl (Or.inl (Or.inl (Or.inl (Or.inl (Or.inl hS))))))))]
  refine p_X7_38 dX7_init_67 rfl (hz.kO (Or.inl (Or.inl (Or.inl (Or.inl (Or.inl (Or.inl (Or.inl (Or.inl (Or.inl hS))))))))) (by decide)) rfl ?_
  refine i_fg (hz.setR (f := 463) (by decide) (Or.inl (Or.inl (Or.inl (Or.inl (Or.inl (Or.inl (Or.inl (Or.inl (Or.inl hS))))))))) (Or.inr ⟨rfl, rfl, rfl⟩) (rt_a (f := 463) rfl rfl rfl)) (fun h hz => ?_)
  refine w_aload_n 0 dX7_init_70 rfl rfl rfl ?_
  refine nw_X7_42 hrm dX7_init_71 rfl (Nat.le_of_ble_eq_true rfl) (Nat.le_of_ble_eq_true rfl) (fun q hq => ?_)
  refine i_addO hz hq (c0 := 10) (p0 := p) (s0 := s) (by decide) hv ?_ (hZ _ _ _ (by omega)) (fun A28 h hA27 hz => ?_)
  · intro q
    rcases q with q | q
    rotate_left
    · omega
    rcases q with q | q
    rotate_left
    · omega
    rcases q with q | q
    rotate_left
    · simp only [GTab] at q; omega
    rcases q with q | q
    rotate_left
    · omega
    rcases q with q | q
    rotate_left
    · omega
    rcases q with q | q
    rotate_left
    · omega
    rcases q with q | q
    rotate_left
    · omega
    rcases q with q | q
    rotate_left
    · omega
    rcases q with q | q
    rotate_left
    · omega
    exact hN _ _ _ (by omega) q
  have hX := hX.trans hA27 (fun _ _ _ q => Or.inl (Or.inl (Or.inl (Or.inl (Or.inl (Or.inl (Or.inl (Or.inl (Or.inl (q))))))))))
  rw [← hA27 7 p s (Or.inl (Or.inl (Or.inl (Or.inl (Or.inl (Or.inl (Or.inl (Or.inl (Or.inl hS)))))))))]
  refine w_dup dX7_init_74 rfl rfl ?_
  refine c_X7_44 (b := A28 10 p s) (As := []) (rest := [.ref (A28 10 p s), .ref (A28 7 p s)]) (fun l => s_X10_init (Or.inr ⟨rfl, rfl, rfl⟩) hv (fun c p9 s9 hc q => by
        rcases q with q | q
        rotate_left
        · omega
        rcases q with q | q
        rotate_left
        · omega
        rcases q with q | q
        rotate_left
        · omega
        rcases q with q | q
        rotate_left
        · simp only [GTab] at q; omega
        rcases q with q | q
        rotate_left
        · omega
        rcases q with q | q
        rotate_left
        · omega
        rcases q with q | q
        rotate_left
        · omega
        rcases q with q | q
        rotate_left
        · omega
        rcases q with q | q
        rotate_left
        · omega
        rcases q with q | q
        rotate_left
        · omega
        exact hN _ _ _ (by omega) q) (fun c p9 s9 hc => hZ _ _ _ (by omega)) hz l) hrm dX7_init_75 rfl rfl (Nat.le_of_ble_eq_true rfl) (Nat.le_of_ble_eq_true rfl) (Nat.le_of_ble_eq_true rfl) rfl (Nat.le_of_ble_eq_true rfl) (fun vr h2 hq => ?_) (fun E9 h9 hq => hq.elim)
  obtain ⟨rfl, A31, hA30, hz⟩ := hq
  show wp _ _ 78 [(0, .ref (A28 7 p s))] [.ref (A28 10 p s), .ref (A28 7 p s)] _ _ _
  have hX := hX.trans hA30 (fun _ _ _ q => Or.inl (Or.inl (Or.inl (Or.inl (Or.inl (Or.inl (Or.inl (Or.inl (Or.inl (Or.inl (q)))))))))))
  rw [← hA30 7 p s (Or.inl (Or.inl (Or.inl (Or.inl (Or.inl (Or.inl (Or.inl (Or.inl (Or.inl (Or.inl hS))))))))))]
  rw [← hA30 10 p s (Or.inr ⟨rfl, rfl, rfl⟩)]
  refine p_X7_45 dX7_init_78 rfl (hz.kO (Or.inl (Or.inl (Or.inl (Or.inl (Or.inl (Or.inl (Or.inl (Or.inl (Or.inl (Or.inl (Or.inl hS))))))))))) (by decide)) rfl ?_
  refine i_fg (hz.setR (f := 464) (by decide) (Or.inl (Or.inl (Or.inl (Or.inl (Or.inl (Or.inl (Or.inl (Or.inl (Or.inl (Or.inl (Or.inl hS))))))))))) (Or.inl (Or.inr ⟨rfl, rfl, rfl⟩)) (rt_s (f := 464) rfl rfl rfl)) (fun h hz => ?_)
  refine w_vret hf dX7_init_81 rfl (Nat.le_of_ble_eq_true rfl) (Nat.le_of_ble_eq_true rfl) ?_
  refine ⟨rfl, _, hX, hz.congr (fun c p9 s9 => ?_) (fun c p9 s9 q => ?_) (fun c p9 s9 q => ?_)⟩
  · simp only [Sa, Su, GStr, or_assoc]
  · simpa only [Sa, Su, FGStr, or_assoc] using q
  · exact q

def GEnt (s : Nat) : C3 := fun c p9 s9 => (c = 6 ∧ p9 = 5 ∧ s9 = s) ∨ GRow 5 s c p9 s9
def FGEnt (s : Nat) : C3 := fun c p9 s9 => FGRow 5 s c p9 s9 ∨ (c = 130 ∧ p9 = 0 ∧ s9 = s)
set_option maxRecDepth 20000 in
set_option maxHeartbeats 4000000 in
theorem s_X2_init {A : Nat → Nat → Nat → Nat} {S F E : C3} {h : Hp} {z : Zs} {s : Nat} (hS : S 2 0 s) (hv : vdb 2 2 0 s = true) (hN : ∀ c p9 s9, ((c = 6 ∨ c = 1410) ∧ p9 = 5 ∧ s9 = s) → ¬ S c p9 s9) (hZ : ∀ c p9 s9, ((c = 6 ∨ c = 1410) ∧ p9 = 5 ∧ s9 = s) → Zr z c p9 s9) (hz : Pl A S F E h z) : ∀ l : Launch, Sp l mX2_init 2 2 11 [.ref (A 2 0 s)] h (fun r h1 => r = none ∧ ∃ A1, Ax A A1 S ∧ Pl A1 (Su S (GEnt s)) (Su F (FGEnt s)) E h1 z) X0 := by
  intro l
  refine Sp.of rfl rfl (lv := [(0, .ref (A 2 0 s))]) (Nat.le_of_ble_eq_true rfl) rfl (fun x hf hrm => ?_)
  have hX : Ax A A S := fun _ _ _ _ => rfl
  refine w_aload_n 0 dX2_init_0 rfl rfl rfl ?_
  refine w_objInit hrm (by decide) dX2_init_1 rfl ml_X2_1 im_objectInit co_objectInit (Nat.le_of_ble_eq_true rfl) ?_
  refine w_aload_n 0 dX2_init_4 rfl rfl rfl ?_
  refine nw_X2_7 hrm dX2_init_5 rfl (Nat.le_of_ble_eq_true rfl) (Nat.le_of_ble_eq_true rfl) (fun q hq => ?_)
  refine i_addO hz hq (c0 := 6) (p0 := 5) (s0 := s) (by decide) (vdb_e hv) ?_ (hZ _ _ _ (by omega)) (fun A2 h hA1 hz => ?_)
  · intro q
    exact hN _ _ _ (by omega) q
  have hX := hX.trans hA1 (fun _ _ _ q => q)
  rw [← hA1 2 0 s hS]
  refine w_dup dX2_init_8 rfl rfl ?_
  refine c_X2_9 (b := A2 6 5 s) (As := []) (rest := [.ref (A2 6 5 s), .ref (A2 2 0 s)]) (fun l => s_X6_init (Or.inr ⟨rfl, rfl, rfl⟩) (vdb_e hv) (fun c p9 s9 hc q => by
        rcases q with q | q
        rotate_left
        · omega
        exact hN _ _ _ (by omega) q) (fun c p9 s9 hc => hZ _ _ _ (by omega)) hz l) hrm dX2_init_9 rfl rfl (Nat.le_of_ble_eq_true rfl) (Nat.le_of_ble_eq_true rfl) (Nat.le_of_ble_eq_true rfl) rfl (Nat.le_of_ble_eq_true rfl) (fun vr h2 hq => ?_) (fun E9 h9 hq => hq.elim)
  obtain ⟨rfl, A5, hA4, hz⟩ := hq
  show wp _ _ 12 [(0, .ref (A2 2 0 s))] [.ref (A2 6 5 s), .ref (A2 2 0 s)] _ _ _
  have hX := hX.trans hA4 (fun _ _ _ q => Or.inl (q))
  rw [← hA4 2 0 s (Or.inl hS)]
  rw [← hA4 6 5 s (Or.inr ⟨rfl, rfl, rfl⟩)]
  refine p_X2_10 dX2_init_12 rfl (hz.kO (Or.inl (Or.inl hS)) (by decide)) rfl ?_
  refine i_fg (hz.setR (f := 130) (by decide) (Or.inl (Or.inl hS)) (Or.inl (Or.inr ⟨rfl, rfl, rfl⟩)) (rt_s (f := 130) rfl rfl rfl)) (fun h hz => ?_)
  refine w_vret hf dX2_init_15 rfl (Nat.le_of_ble_eq_true rfl) (Nat.le_of_ble_eq_true rfl) ?_
  refine ⟨rfl, _, hX, hz.congr (fun c p9 s9 => ?_) (fun c p9 s9 q => ?_) (fun c p9 s9 q => ?_)⟩
  · simp only [Sa, Su, GEnt, or_assoc]
  · simpa only [Sa, Su, FGEnt, or_assoc] using q
  · exact q

theorem gi_nI {j n : Nat} (h : j < n) (h2 : n < 2 ^ 31) : gi (nI j) n := vp_in_nI h h2
theorem Ax.rfl' {A : Nat → Nat → Nat → Nat} {S : C3} : Ax A A S := fun _ _ _ _ => rfl
theorem s_X0_init {h : Hp} {a : Nat} (hk : m_K h a = 0) : ∀ l : Launch, Sp l mX0_init 1 0 0 [.ref a] h (fun r h1 => r = none ∧ h1 = h) X0 := by
  intro l
  refine Sp.of rfl rfl (lv := [(0, .ref a)]) (Nat.le_of_ble_eq_true rfl) rfl (fun x hf hrm => ?_)
  refine w_aload_n 0 dX0_init_0 rfl rfl rfl ?_
  refine w_objInit hrm (by decide) dX0_init_1 rfl ml_X0_1 im_objectInit co_objectInit (Nat.le_of_ble_eq_true rfl) ?_
  refine w_vret hf dX0_init_4 rfl (Nat.le_of_ble_eq_true rfl) (Nat.le_of_ble_eq_true rfl) ?_
  exact ⟨rfl, rfl⟩

def L5a (p : Nat) (i : Nat) : C3 := fun c p9 s9 => (c = 7 ∧ p9 = p ∧ s9 = i) ∨ GStr p i c p9 s9
def FL5a (p : Nat) (i : Nat) : C3 := fun c p9 s9 => FGStr p i c p9 s9
def EL5a (p : Nat) (i : Nat) : C3 := fun c p9 s9 => (c = 320 ∧ p9 = p ∧ s9 = i)
set_option maxRecDepth 20000 in
set_option maxHeartbeats 4000000 in
theorem l_X5_init_a {x : Cxt} {A0 : Nat → Nat → Nat → Nat} {S0 S F E : C3} {z : Zs} {p dd MC MS Ma Mb : Nat} (hrm : m_rm dd MC MS x) (hMa : Ma ≤ MC) (hMb : Mb ≤ MS) (hdd : 3 ≤ dd) (hv : vdb 2 5 p 0 = true) (h0S : ∀ c p9 s9, S0 c p9 s9 → S c p9 s9) (hS : S 5 p 0) (hSa : S 1344 p 0) (hF : F 320 p 0) (hN : ∀ c p9 s9, ((1472 ≤ c ∧ c < 1600 ∨ 1664 ≤ c ∧ c < 1728 ∨ c = 7 ∨ c = 8 ∨ c = 10) ∧ p9 = p) → ¬ S c p9 s9) (hZ : ∀ c p9 s9, ((1472 ≤ c ∧ c < 1600 ∨ 1664 ≤ c ∧ c < 1728 ∨ c = 7 ∨ c = 8 ∨ c = 10) ∧ p9 = p) → Zr z c p9 s9) (kk : ∀ (A : Nat → Nat → Nat → Nat) (h : Hp), Ax A0 A S0 → Pl A (Su S (lpG (L5a p) 12)) (Su F (lpG (FL5a p) 12)) (Su E (lpG (EL5a p) 12)) h z → wp x mX5_init 78 [(1, .int (nI 12)), (0, .ref (A 5 p 0))] [] h Ma Mb) : ∀ (n j : Nat) (A : Nat → Nat → Nat → Nat) (h : Hp) (kc ks : Nat), j + n = 12 → Ax A0 A S0 → Pl A (Su S (lpG (L5a p) j)) (Su F (lpG (FL5a p) j)) (Su E (lpG (EL5a p) j)) h z → kc + 17 * n ≤ Ma → ks + 2135 * n ≤ Mb → wp x mX5_init 50 [(1, .int (nI j)), (0, .ref (A 5 p 0))] [] h kc ks
  | 0, j, A, h, kc, ks => fun e hX hz hkc hks => by
    obtain rfl : j = 12 := by omega
    refine w_iload_n 0 dX5_init_50 rfl rfl rfl ?_
    refine w_aload_n 1 dX5_init_51 rfl rfl rfl ?_
    refine g_X5_11 dX5_init_52 rfl (hz.kO (Or.inl hS) (by decide)) (hz.rA (f := 320) (Or.inl hF) rfl) ?_
    refine w_alen 7 dX5_init_55 rfl (by decide) (by decide) (fun _ => rfl) (hz.kA (f := 320) (Or.inl hSa) rfl) (v := nI 12) (by rw [hz.nA (f := 320) (Or.inl hSa) rfl]; rfl) ?_
    refine w_icmp_ge 78 dX5_init_56 rfl rfl (fun q1 => ?_) (fun q1 => ?_)
    · exact w_widen (by omega) (by omega) (kk _ _ hX hz)
    · exact absurd (Int32.le_refl _) q1
  | n + 1, j, A, h, kc, ks => fun e hX hz hkc hks => by
    have ih := l_X5_init_a hrm hMa hMb hdd hv h0S hS hSa hF hN hZ kk n
    refine w_iload_n 0 dX5_init_50 rfl rfl rfl ?_
    refine w_aload_n 1 dX5_init_51 rfl rfl rfl ?_
    refine g_X5_11 dX5_init_52 rfl (hz.kO (Or.inl hS) (by decide)) (hz.rA (f := 320) (Or.inl hF) rfl) ?_
    refine w_alen 7 dX5_init_55 rfl (by decide) (by decide) (fun _ => rfl) (hz.kA (f := 320) (Or.inl hSa) rfl) (v := nI 12) (by rw [hz.nA (f := 320) (Or.inl hSa) rfl]; rfl) ?_
    refine w_icmp_ge 78 dX5_init_56 rfl rfl (fun q1 => ?_) (fun q1 => ?_)
    · exfalso
      have := b_le (a := 12) (b := j) (by omega) (by omega) q1
      omega
    · refine w_aload_n 1 dX5_init_59 rfl rfl rfl ?_
      refine g_X5_11 dX5_init_60 rfl (hz.kO (Or.inl hS) (by decide)) (hz.rA (f := 320) (Or.inl hF) rfl) ?_
      refine w_iload_n 0 dX5_init_63 rfl rfl rfl ?_
      have hve : vdb 2 7 p j = true := vdb_320 hv (by omega)
      refine nw_X5_9 hrm dX5_init_64 rfl (by omega) (by omega) (fun q hq => ?_)
      refine i_addO hz hq (c0 := 7) (p0 := p) (s0 := j) (by decide) hve ?_ (hZ _ _ _ (by omega)) (fun A2 h hA1 hz => ?_)
      · intro q
        rcases q with q | q
        rotate_left
        · obtain ⟨i, hi, q⟩ := lpG_ex q
          simp only [L5a, GStr, GTab, GWin] at q
          omega
        exact hN _ _ _ (by omega) q
      have hX := hX.trans hA1 (fun _ _ _ q => Or.inl (h0S _ _ _ q))
      rw [← hA1 5 p 0 (Or.inl hS)]
      rw [← hA1 1344 p 0 (Or.inl hSa)]
      refine w_dup dX5_init_67 rfl rfl ?_
      refine c_X5_34 (b := A2 7 p j) (As := []) (rest := [.ref (A2 7 p j), .int (nI j), .ref (A2 1344 p 0)]) (fun l => s_X7_init (Or.inr ⟨rfl, rfl, rfl⟩) hve (fun c p9 s9 hc q => by
            rcases q with q | q
            rotate_left
            · omega
            rcases q with q | q
            rotate_left
            · obtain ⟨i, hi, q⟩ := lpG_ex q
              simp only [L5a, GStr, GTab, GWin] at q
              omega
            exact hN _ _ _ (by omega) q) (fun c p9 s9 hc => hZ _ _ _ (by omega)) hz l) hrm dX5_init_68 rfl rfl (Nat.le_trans (Nat.le_of_ble_eq_true rfl) hdd) (by omega) (by omega) rfl (Nat.le_of_ble_eq_true rfl) (fun vr h2 hq => ?_) (fun E9 h9 hq => hq.elim)
      obtain ⟨rfl, A5, hA4, hz⟩ := hq
      show wp _ _ 71 [(1, .int (nI j)), (0, .ref (A2 5 p 0))] [.ref (A2 7 p j), .int (nI j), .ref (A2 1344 p 0)] _ _ _
      have hX := hX.trans hA4 (fun _ _ _ q => Or.inl (Or.inl (h0S _ _ _ q)))
      rw [← hA4 5 p 0 (Or.inl (Or.inl hS))]
      rw [← hA4 7 p j (Or.inr ⟨rfl, rfl, rfl⟩)]
      rw [← hA4 1344 p 0 (Or.inl (Or.inl hSa))]
      refine w_aast 7 dX5_init_71 rfl (by decide) (by decide) (fun _ => rfl) (hz.kA (f := 320) (Or.inl (Or.inl (Or.inl hSa))) rfl) (hz.kO (Or.inl (Or.inr ⟨rfl, rfl, rfl⟩)) (by decide)) (by decide) rfl (gin (hz.nA (f := 320) (Or.inl (Or.inl (Or.inl hSa))) rfl) (gi_nI (by omega) (by decide))) ?_
      rw [show (nI j).toNatClampNeg = j from i_cl (by omega)]
      refine i_fg (hz.setZ (f := 320) (p := p) (i := j) (Or.inl (Or.inl (Or.inl hSa))) (Or.inl (Or.inr ⟨rfl, rfl, rfl⟩)) (et_s (f := 320) (by decide) rfl)) (fun h hz => ?_)
      refine w_iinc 0 (nI (j + 1)) [(1, .int (nI (j + 1))), (0, .ref (A5 5 p 0))] dX5_init_72 rfl rfl (nI_1 j) (by decide) rfl ?_
      refine w_goto 50 dX5_init_75 rfl ?_
      refine ih (j + 1) _ _ _ _ (by omega) hX (hz.congr (fun c p9 s9 => ?_) (fun c p9 s9 q => ?_) (fun c p9 s9 q => ?_)) (by omega) (by omega)
      · simp only [Sa, Su, lpG, L5a, or_assoc]
      · simpa only [Sa, Su, lpG, FL5a, or_assoc, or_false] using q
      · simpa only [Sa, Su, lpG, EL5a, or_assoc] using q

def L5b (p : Nat) (i : Nat) : C3 := fun c p9 s9 => (c = 0 ∧ p9 = p ∧ s9 = i)
def FL5b (p : Nat) (i : Nat) : C3 := fun c p9 s9 => False
def EL5b (p : Nat) (i : Nat) : C3 := fun c p9 s9 => (c = 322 ∧ p9 = p ∧ s9 = i)
set_option maxRecDepth 20000 in
set_option maxHeartbeats 4000000 in
theorem l_X5_init_b {x : Cxt} {A0 : Nat → Nat → Nat → Nat} {S0 S F E : C3} {z : Zs} {p dd MC MS Ma Mb : Nat} (hrm : m_rm dd MC MS x) (hMa : Ma ≤ MC) (hMb : Mb ≤ MS) (hdd : 2 ≤ dd) (hv : vdb 2 5 p 0 = true) (h0S : ∀ c p9 s9, S0 c p9 s9 → S c p9 s9) (hS : S 5 p 0) (hSa : S 1346 p 0) (hF : F 322 p 0) (hN : ∀ c p9 s9, (c = 0 ∧ p9 = p) → ¬ S c p9 s9) (hZ : ∀ c p9 s9, (c = 0 ∧ p9 = p) → Zr z c p9 s9) (kk : ∀ (A : Nat → Nat → Nat → Nat) (h : Hp), Ax A0 A S0 → Pl A (Su S (lpG (L5b p) 8)) (Su F (lpG (FL5b p) 8)) (Su E (lpG (EL5b p) 8)) h z → wp x mX5_init 108 [(1, .int (nI 8)), (0, .ref (A 5 p 0))] [] h Ma Mb) : ∀ (n j : Nat) (A : Nat → Nat → Nat → Nat) (h : Hp) (kc ks : Nat), j + n = 8 → Ax A0 A S0 → Pl A (Su S (lpG (L5b p) j)) (Su F (lpG (FL5b p) j)) (Su E (lpG (EL5b p) j)) h z → kc + 1 * n ≤ Ma → ks + 5 * n ≤ Mb → wp x mX5_init 80 [(1, .int (nI j)), (0, .ref (A 5 p 0))] [] h kc ks
  | 0, j, A, h, kc, ks => fun e hX hz hkc hks => by
    obtain rfl : j = 8 := by omega
    refine w_iload_n 0 dX5_init_80 rfl rfl rfl ?_
    refine w_aload_n 1 dX5_init_81 rfl rfl rfl ?_
    refine g_X5_19 dX5_init_82 rfl (hz.kO (Or.inl hS) (by decide)) (hz.rA (f := 322) (Or.inl hF) rfl) ?_
    refine w_alen 4 dX5_init_85 rfl (by decide) (by decide) (fun _ => rfl) (hz.kA (f := 322) (Or.inl hSa) rfl) (v := nI 8) (by rw [hz.nA (f := 322) (Or.inl hSa) rfl]; rfl) ?_
    refine w_icmp_ge 108 dX5_init_86 rfl rfl (fun q1 => ?_) (fun q1 => ?_)
    · exact w_widen (by omega) (by omega) (kk _ _ hX hz)
    · exact absurd (Int32.le_refl _) q1
  | n + 1, j, A, h, kc, ks => fun e hX hz hkc hks => by
    have ih := l_X5_init_b hrm hMa hMb hdd hv h0S hS hSa hF hN hZ kk n
    refine w_iload_n 0 dX5_init_80 rfl rfl rfl ?_
    refine w_aload_n 1 dX5_init_81 rfl rfl rfl ?_
    refine g_X5_19 dX5_init_82 rfl (hz.kO (Or.inl hS) (by decide)) (hz.rA (f := 322) (Or.inl hF) rfl) ?_
    refine w_alen 4 dX5_init_85 rfl (by decide) (by decide) (fun _ => rfl) (hz.kA (f := 322) (Or.inl hSa) rfl) (v := nI 8) (by rw [hz.nA (f := 322) (Or.inl hSa) rfl]; rfl) ?_
    refine w_icmp_ge 108 dX5_init_86 rfl rfl (fun q1 => ?_) (fun q1 => ?_)
    · exfalso
      have := b_le (a := 8) (b := j) (by omega) (by omega) q1
      omega
    · refine w_aload_n 1 dX5_init_89 rfl rfl rfl ?_
      refine g_X5_19 dX5_init_90 rfl (hz.kO (Or.inl hS) (by decide)) (hz.rA (f := 322) (Or.inl hF) rfl) ?_
      refine w_iload_n 0 dX5_init_93 rfl rfl rfl ?_
      have hve : vdb 2 0 p j = true := vdb_322 hv (by omega)
      refine nw_X5_17 hrm dX5_init_94 rfl (by omega) (by omega) (fun q hq => ?_)
      refine i_addO hz hq (c0 := 0) (p0 := p) (s0 := j) (by decide) hve ?_ (hZ _ _ _ (by omega)) (fun A2 h hA1 hz => ?_)
      · intro q
        rcases q with q | q
        rotate_left
        · obtain ⟨i, hi, q⟩ := lpG_ex q
          simp only [L5b] at q
          omega
        exact hN _ _ _ (by omega) q
      have hX := hX.trans hA1 (fun _ _ _ q => Or.inl (h0S _ _ _ q))
      rw [← hA1 5 p 0 (Or.inl hS)]
      rw [← hA1 1346 p 0 (Or.inl hSa)]
      refine w_dup dX5_init_97 rfl rfl ?_
      refine c_X5_35 (b := A2 0 p j) (As := []) (rest := [.ref (A2 0 p j), .int (nI j), .ref (A2 1346 p 0)]) (fun l => s_X0_init (hz.kO (Or.inr ⟨rfl, rfl, rfl⟩) (by decide)) l) hrm dX5_init_98 rfl rfl (Nat.le_trans (Nat.le_of_ble_eq_true rfl) hdd) (by omega) (by omega) rfl (Nat.le_of_ble_eq_true rfl) (fun vr h2 hq => ?_) (fun E9 h9 hq => hq.elim)
      obtain ⟨rfl, rfl⟩ := hq
      show wp _ _ 101 [(1, .int (nI j)), (0, .ref (A2 5 p 0))] [.ref (A2 0 p j), .int (nI j), .ref (A2 1346 p 0)] _ _ _
      refine w_aast 4 dX5_init_101 rfl (by decide) (by decide) (fun _ => rfl) (hz.kA (f := 322) (Or.inl (Or.inl hSa)) rfl) (hz.kO (Or.inr ⟨rfl, rfl, rfl⟩) (by decide)) (by decide) rfl (gin (hz.nA (f := 322) (Or.inl (Or.inl hSa)) rfl) (gi_nI (by omega) (by decide))) ?_
      rw [show (nI j).toNatClampNeg = j from i_cl (by omega)]
      refine i_fg (hz.setZ (f := 322) (p := p) (i := j) (Or.inl (Or.inl hSa)) (Or.inr ⟨rfl, rfl, rfl⟩) (et_s (f := 322) (by decide) rfl)) (fun h hz => ?_)
      refine w_iinc 0 (nI (j + 1)) [(1, .int (nI (j + 1))), (0, .ref (A2 5 p 0))] dX5_init_102 rfl rfl (nI_1 j) (by decide) rfl ?_
      refine w_goto 80 dX5_init_105 rfl ?_
      refine ih (j + 1) _ _ _ _ (by omega) hX (hz.congr (fun c p9 s9 => ?_) (fun c p9 s9 q => ?_) (fun c p9 s9 q => ?_)) (by omega) (by omega)
      · simp only [Sa, Su, lpG, L5b, or_assoc]
      · simpa only [Sa, Su, lpG, FL5b, or_assoc, or_false] using q
      · simpa only [Sa, Su, lpG, EL5b, or_assoc] using q

theorem Pl.s0 {A : Nat → Nat → Nat → Nat} {S F E : C3} {h : Hp} {z : Zs} {P Q T : Nat → C3} (hz : Pl A S F E h z) : Pl A (Su S (lpG P 0)) (Su F (lpG Q 0)) (Su E (lpG T 0)) h z := hz.congr (fun _ _ _ => ⟨Or.inl, fun q => q.elim id False.elim⟩) (fun _ _ _ q => q.elim id False.elim) (fun _ _ _ q => q.elim id False.elim)
def GPro (p : Nat) : C3 := fun c p9 s9 => (c = 1344 ∧ p9 = p ∧ s9 = 0) ∨ (c = 1346 ∧ p9 = p ∧ s9 = 0) ∨ (c = 1348 ∧ p9 = p ∧ s9 = 0) ∨ (c = 1349 ∧ p9 = p ∧ s9 = 0) ∨ (c = 1351 ∧ p9 = p ∧ s9 = 0) ∨ lpG (L5a p) 12 c p9 s9 ∨ lpG (L5b p) 8 c p9 s9
def FGPro (p : Nat) : C3 := fun c p9 s9 => (c = 320 ∧ p9 = p ∧ s9 = 0) ∨ (c = 322 ∧ p9 = p ∧ s9 = 0) ∨ (c = 324 ∧ p9 = p ∧ s9 = 0) ∨ (c = 325 ∧ p9 = p ∧ s9 = 0) ∨ (c = 327 ∧ p9 = p ∧ s9 = 0) ∨ lpG (FL5a p) 12 c p9 s9 ∨ lpG (FL5b p) 8 c p9 s9
def EGPro (p : Nat) : C3 := fun c p9 s9 => lpG (EL5a p) 12 c p9 s9 ∨ lpG (EL5b p) 8 c p9 s9
set_option maxRecDepth 20000 in
set_option maxHeartbeats 4000000 in
theorem s_X5_init {A : Nat → Nat → Nat → Nat} {S F E : C3} {h : Hp} {z : Zs} {p : Nat} (hS : S 5 p 0) (hv : vdb 2 5 p 0 = true) (hN : ∀ c p9 s9, ((1344 ≤ c ∧ c < 1408 ∨ 1472 ≤ c ∧ c < 1600 ∨ 1664 ≤ c ∧ c < 1728 ∨ c = 7 ∨ c = 8 ∨ c = 10 ∨ c = 0) ∧ p9 = p) → ¬ S c p9 s9) (hZ : ∀ c p9 s9, ((1344 ≤ c ∧ c < 1408 ∨ 1472 ≤ c ∧ c < 1600 ∨ 1664 ≤ c ∧ c < 1728 ∨ c = 7 ∨ c = 8 ∨ c = 10 ∨ c = 0) ∧ p9 = p) → Zr z c p9 s9) (hz : Pl A S F E h z) : ∀ l : Launch, Sp l mX5_init 3 217 28740 [.ref (A 5 p 0)] h (fun r h1 => r = none ∧ ∃ A1, Ax A A1 S ∧ Pl A1 (Su S (GPro p)) (Su F (FGPro p)) (Su E (EGPro p)) h1 z) X0 := by
  intro l
  refine Sp.of rfl rfl (lv := [(0, .ref (A 5 p 0))]) (Nat.le_of_ble_eq_true rfl) rfl (fun x hf hrm => ?_)
  have hX : Ax A A S := fun _ _ _ _ => rfl
  refine w_aload_n 0 dX5_init_0 rfl rfl rfl ?_
  refine w_objInit hrm (by decide) dX5_init_1 rfl ml_X5_3 im_objectInit co_objectInit (Nat.le_of_ble_eq_true rfl) ?_
  refine w_aload_n 0 dX5_init_4 rfl rfl rfl ?_
  refine w_bipush 12 dX5_init_5 rfl rfl ?_
  refine w_newQ (n := 12) (c := 27) 7 hrm dX5_init_7 rfl cl_X5_9 ao_X7 (by decide) (by decide) (fun _ => rfl) (by decide) rfl (by decide) (Nat.le_of_ble_eq_true rfl) (Nat.le_of_ble_eq_true rfl) (fun q hq => ?_)
  refine i_addA hz hq (f0 := 320) (p0 := p) (s0 := 0) rfl (by decide) hv ?_ (hZ _ _ _ (by omega)) (fun A2 h hA1 hz => ?_)
  · intro q
    exact hN _ _ _ (by omega) q
  have hX := hX.trans hA1 (fun _ _ _ q => q)
  rw [← hA1 5 p 0 hS]
  refine p_X5_11 dX5_init_10 rfl (hz.kO (Or.inl hS) (by decide)) rfl ?_
  refine i_fg (hz.setR (f := 320) (by decide) (Or.inl hS) (Or.inr ⟨rfl, rfl, rfl⟩) (rt_a (f := 320) rfl rfl rfl)) (fun h hz => ?_)
  refine w_aload_n 0 dX5_init_13 rfl rfl rfl ?_
  refine w_bipush 8 dX5_init_14 rfl rfl ?_
  refine w_newQ (n := 8) (c := 24) 4 hrm dX5_init_16 rfl cl_X5_17 ao_X0 (by decide) (by decide) (fun _ => rfl) (by decide) rfl (by decide) (Nat.le_of_ble_eq_true rfl) (Nat.le_of_ble_eq_true rfl) (fun q hq => ?_)
  refine i_addA hz hq (f0 := 322) (p0 := p) (s0 := 0) rfl (by decide) hv ?_ (hZ _ _ _ (by omega)) (fun A5 h hA4 hz => ?_)
  · intro q
    rcases q with q | q
    rotate_left
    · omega
    exact hN _ _ _ (by omega) q
  have hX := hX.trans hA4 (fun _ _ _ q => Or.inl (q))
  rw [← hA4 5 p 0 (Or.inl hS)]
  refine p_X5_19 dX5_init_19 rfl (hz.kO (Or.inl (Or.inl hS)) (by decide)) rfl ?_
  refine i_fg (hz.setR (f := 322) (by decide) (Or.inl (Or.inl hS)) (Or.inr ⟨rfl, rfl, rfl⟩) (rt_a (f := 322) rfl rfl rfl)) (fun h hz => ?_)
  refine w_aload_n 0 dX5_init_22 rfl rfl rfl ?_
  refine w_sipush 1500 dX5_init_23 rfl rfl ?_
  refine w_newI (n := 1500) hrm dX5_init_26 rfl a_int (by decide) rfl (by decide) (Nat.le_of_ble_eq_true rfl) (Nat.le_of_ble_eq_true rfl) (fun q hq => ?_)
  refine i_addA hz hq (f0 := 324) (p0 := p) (s0 := 0) rfl (by decide) hv ?_ (hZ _ _ _ (by omega)) (fun A8 h hA7 hz => ?_)
  · intro q
    rcases q with q | q
    rotate_left
    · omega
    rcases q with q | q
    rotate_left
    · omega
    exact hN _ _ _ (by omega) q
  have hX := hX.trans hA7 (fun _ _ _ q => Or.inl (Or.inl (q)))
  rw [← hA7 5 p 0 (Or.inl (Or.inl hS))]
  refine p_X5_23 dX5_init_28 rfl (hz.kO (Or.inl (Or.inl (Or.inl hS))) (by decide)) rfl ?_
  refine i_fg (hz.setR (f := 324) (by decide) (Or.inl (Or.inl (Or.inl hS))) (Or.inr ⟨rfl, rfl, rfl⟩) (rt_a (f := 324) rfl rfl rfl)) (fun h hz => ?_)
  refine w_aload_n 0 dX5_init_31 rfl rfl rfl ?_
  refine w_sipush 1500 dX5_init_32 rfl rfl ?_
  refine w_newJ (n := 1500) hrm dX5_init_35 rfl a_long (by decide) rfl (by decide) (Nat.le_of_ble_eq_true rfl) (Nat.le_of_ble_eq_true rfl) (fun q hq => ?_)
  refine i_addA hz hq (f0 := 325) (p0 := p) (s0 := 0) rfl (by decide) hv ?_ (hZ _ _ _ (by omega)) (fun A11 h hA10 hz => ?_)
  · intro q
    rcases q with q | q
    rotate_left
    · omega
    rcases q with q | q
    rotate_left
    · omega
    rcases q with q | q
    rotate_left
    · omega
    exact hN _ _ _ (by omega) q
  have hX := hX.trans hA10 (fun _ _ _ q => Or.inl (Or.inl (Or.inl (q))))
  rw [← hA10 5 p 0 (Or.inl (Or.inl (Or.inl hS)))]
  refine p_X5_27 dX5_init_37 rfl (hz.kO (Or.inl (Or.inl (Or.inl (Or.inl hS)))) (by decide)) rfl ?_
  refine i_fg (hz.setR (f := 325) (by decide) (Or.inl (Or.inl (Or.inl (Or.inl hS)))) (Or.inr ⟨rfl, rfl, rfl⟩) (rt_a (f := 325) rfl rfl rfl)) (fun h hz => ?_)
  refine w_aload_n 0 dX5_init_40 rfl rfl rfl ?_
  refine w_bipush 60 dX5_init_41 rfl rfl ?_
  refine w_newJ (n := 60) hrm dX5_init_43 rfl a_long (by decide) rfl (by decide) (Nat.le_of_ble_eq_true rfl) (Nat.le_of_ble_eq_true rfl) (fun q hq => ?_)
  refine i_addA hz hq (f0 := 327) (p0 := p) (s0 := 0) rfl (by decide) hv ?_ (hZ _ _ _ (by omega)) (fun A14 h hA13 hz => ?_)
  · intro q
    rcases q with q | q
    rotate_left
    · omega
    rcases q with q | q
    rotate_left
    · omega
    rcases q with q | q
    rotate_left
    · omega
    rcases q with q | q
    rotate_left
    · omega
    exact hN _ _ _ (by omega) q
  have hX := hX.trans hA13 (fun _ _ _ q => Or.inl (Or.inl (Or.inl (Or.inl (q)))))
  rw [← hA13 5 p 0 (Or.inl (Or.inl (Or.inl (Or.inl hS))))]
  refine p_X5_31 dX5_init_45 rfl (hz.kO (Or.inl (Or.inl (Or.inl (Or.inl (Or.inl hS))))) (by decide)) rfl ?_
  refine i_fg (hz.setR (f := 327) (by decide) (Or.inl (Or.inl (Or.inl (Or.inl (Or.inl hS))))) (Or.inr ⟨rfl, rfl, rfl⟩) (rt_a (f := 327) rfl rfl rfl)) (fun h hz => ?_)
  refine w_iconst 0 dX5_init_48 rfl rfl ?_
  refine w_istore_n [(1, .int 0), (0, .ref (A14 5 p 0))] dX5_init_49 rfl rfl (by decide) rfl ?_
  refine w_lv [(1, .int 0), (0, .ref (A14 5 p 0))] [0, 1] rfl ?_
  refine l_X5_init_a hrm (Ma := 209) (Mb := 28700) (S0 := S) (S := (Sa (Sa (Sa (Sa (Sa S 1344 p 0) 1346 p 0) 1348 p 0) 1349 p 0) 1351 p 0)) (F := (Sa (Sa (Sa (Sa (Sa F 320 p 0) 322 p 0) 324 p 0) 325 p 0) 327 p 0)) (E := E) (z := z) (Nat.le_of_ble_eq_true rfl) (Nat.le_of_ble_eq_true rfl) (Nat.le_of_ble_eq_true rfl) hv (fun _ _ _ q => Or.inl (Or.inl (Or.inl (Or.inl (Or.inl (q)))))) (Or.inl (Or.inl (Or.inl (Or.inl (Or.inl hS))))) (Or.inl (Or.inl (Or.inl (Or.inl (Or.inr ⟨rfl, rfl, rfl⟩))))) (Or.inl (Or.inl (Or.inl (Or.inl (Or.inr ⟨rfl, rfl, rfl⟩))))) (fun c p9 s9 hc q => by
        rcases q with q | q
        rotate_left
        · omega
        rcases q with q | q
        rotate_left
        · omega
        rcases q with q | q
        rotate_left
        · omega
        rcases q with q | q
        rotate_left
        · omega
        rcases q with q | q
        rotate_left
        · omega
        exact hN _ _ _ (by omega) q) (fun c p9 s9 hc => hZ _ _ _ (by omega)) (fun Aa h hX hz => ?_) 12 0 _ _ _ _ rfl hX hz.s0 (Nat.le_of_ble_eq_true rfl) (Nat.le_of_ble_eq_true rfl)
  refine w_iconst 0 dX5_init_78 rfl rfl ?_
  refine w_istore_n [(1, .int 0), (0, .ref (Aa 5 p 0))] dX5_init_79 rfl rfl (by decide) rfl ?_
  refine w_lv [(1, .int 0), (0, .ref (Aa 5 p 0))] [0, 1] rfl ?_
  refine l_X5_init_b hrm (Ma := 217) (Mb := 28740) (S0 := S) (S := (Su (Sa (Sa (Sa (Sa (Sa S 1344 p 0) 1346 p 0) 1348 p 0) 1349 p 0) 1351 p 0) (lpG (L5a p) 12))) (F := (Su (Sa (Sa (Sa (Sa (Sa F 320 p 0) 322 p 0) 324 p 0) 325 p 0) 327 p 0) (lpG (FL5a p) 12))) (E := (Su E (lpG (EL5a p) 12))) (z := z) (Nat.le_of_ble_eq_true rfl) (Nat.le_of_ble_eq_true rfl) (Nat.le_of_ble_eq_true rfl) hv (fun _ _ _ q => Or.inl (Or.inl (Or.inl (Or.inl (Or.inl (Or.inl (q))))))) (Or.inl (Or.inl (Or.inl (Or.inl (Or.inl (Or.inl hS)))))) (Or.inl (Or.inl (Or.inl (Or.inl (Or.inr ⟨rfl, rfl, rfl⟩))))) (Or.inl (Or.inl (Or.inl (Or.inl (Or.inr ⟨rfl, rfl, rfl⟩))))) (fun c p9 s9 hc q => by
        rcases q with q | q
        rotate_left
        · obtain ⟨i, hi, q⟩ := lpG_ex q
          simp only [L5a, GStr, GTab, GWin] at q
          omega
        rcases q with q | q
        rotate_left
        · omega
        rcases q with q | q
        rotate_left
        · omega
        rcases q with q | q
        rotate_left
        · omega
        rcases q with q | q
        rotate_left
        · omega
        rcases q with q | q
        rotate_left
        · omega
        exact hN _ _ _ (by omega) q) (fun c p9 s9 hc => hZ _ _ _ (by omega)) (fun Ab h hX hz => ?_) 8 0 _ _ _ _ rfl hX hz.s0 (Nat.le_of_ble_eq_true rfl) (Nat.le_of_ble_eq_true rfl)
  refine w_vret hf dX5_init_108 rfl (Nat.le_of_ble_eq_true rfl) (Nat.le_of_ble_eq_true rfl) ?_
  refine ⟨rfl, _, hX, hz.congr (fun c p9 s9 => ?_) (fun c p9 s9 q => ?_) (fun c p9 s9 q => ?_)⟩
  · simp only [Sa, Su, GPro, or_assoc]
  · simpa only [Sa, Su, FGPro, or_assoc] using q
  · simpa only [Sa, Su, EGPro, or_assoc] using q

def L1h (i : Nat) : C3 := fun c p9 s9 => (c = 6 ∧ p9 = 4 ∧ s9 = i) ∨ GRow 4 i c p9 s9
def FL1h (i : Nat) : C3 := fun c p9 s9 => FGRow 4 i c p9 s9
def EL1h (i : Nat) : C3 := fun c p9 s9 => (c = 65 ∧ p9 = 0 ∧ s9 = i)
set_option maxRecDepth 20000 in
set_option maxHeartbeats 4000000 in
theorem l_X1_init_h {x : Cxt} {A0 : Nat → Nat → Nat → Nat} {S0 S F E : C3} {z : Zs} {dd MC MS Ma Mb : Nat} (hrm : m_rm dd MC MS x) (hMa : Ma ≤ MC) (hMb : Mb ≤ MS) (hdd : 2 ≤ dd) (hv : vdb 2 1 0 0 = true) (h0S : ∀ c p9 s9, S0 c p9 s9 → S c p9 s9) (hS : S 1 0 0) (hSa : S 1089 0 0) (hF : F 65 0 0) (hN : ∀ c p9 s9, ((c = 6 ∨ c = 1410) ∧ p9 = 4) → ¬ S c p9 s9) (hZ : ∀ c p9 s9, ((c = 6 ∨ c = 1410) ∧ p9 = 4) → Zr z c p9 s9) (hR : ∀ j, zR z 1089 0 0 j = (4, j)) (kk : ∀ (A : Nat → Nat → Nat → Nat) (h : Hp), Ax A0 A S0 → Pl A (Su S (lpG (L1h) 60)) (Su F (lpG (FL1h) 60)) (Su E (lpG (EL1h) 60)) h z → wp x mX1_init 81 [(2, .int (nI 60)), (0, .ref (A 1 0 0))] [] h Ma Mb) : ∀ (n j : Nat) (A : Nat → Nat → Nat → Nat) (h : Hp) (kc ks : Nat), j + n = 60 → Ax A0 A S0 → Pl A (Su S (lpG (L1h) j)) (Su F (lpG (FL1h) j)) (Su E (lpG (EL1h) j)) h z → kc + 2 * n ≤ Ma → ks + 11 * n ≤ Mb → wp x mX1_init 53 [(2, .int (nI j)), (0, .ref (A 1 0 0))] [] h kc ks
  | 0, j, A, h, kc, ks => fun e hX hz hkc hks => by
    obtain rfl : j = 60 := by omega
    refine w_iload_n 0 dX1_init_53 rfl rfl rfl ?_
    refine w_aload_n 1 dX1_init_54 rfl rfl rfl ?_
    refine g_X1_11 dX1_init_55 rfl (hz.kO (Or.inl hS) (by decide)) (hz.rA (f := 65) (Or.inl hF) rfl) ?_
    refine w_alen 6 dX1_init_58 rfl (by decide) (by decide) (fun _ => rfl) (hz.kA (f := 65) (Or.inl hSa) rfl) (v := nI 60) (by rw [hz.nA (f := 65) (Or.inl hSa) rfl]; rfl) ?_
    refine w_icmp_ge 81 dX1_init_59 rfl rfl (fun q1 => ?_) (fun q1 => ?_)
    · exact w_widen (by omega) (by omega) (kk _ _ hX hz)
    · exact absurd (Int32.le_refl _) q1
  | n + 1, j, A, h, kc, ks => fun e hX hz hkc hks => by
    have ih := l_X1_init_h hrm hMa hMb hdd hv h0S hS hSa hF hN hZ hR kk n
    refine w_iload_n 0 dX1_init_53 rfl rfl rfl ?_
    refine w_aload_n 1 dX1_init_54 rfl rfl rfl ?_
    refine g_X1_11 dX1_init_55 rfl (hz.kO (Or.inl hS) (by decide)) (hz.rA (f := 65) (Or.inl hF) rfl) ?_
    refine w_alen 6 dX1_init_58 rfl (by decide) (by decide) (fun _ => rfl) (hz.kA (f := 65) (Or.inl hSa) rfl) (v := nI 60) (by rw [hz.nA (f := 65) (Or.inl hSa) rfl]; rfl) ?_
    refine w_icmp_ge 81 dX1_init_59 rfl rfl (fun q1 => ?_) (fun q1 => ?_)
    · exfalso
      have := b_le (a := 60) (b := j) (by omega) (by omega) q1
      omega
    · refine w_aload_n 1 dX1_init_62 rfl rfl rfl ?_
      refine g_X1_11 dX1_init_63 rfl (hz.kO (Or.inl hS) (by decide)) (hz.rA (f := 65) (Or.inl hF) rfl) ?_
      refine w_iload_n 0 dX1_init_66 rfl rfl rfl ?_
      have hve : vdb 2 6 4 j = true := (by simp [vdb]; omega)
      refine nw_X1_9 hrm dX1_init_67 rfl (by omega) (by omega) (fun q hq => ?_)
      refine i_addO hz hq (c0 := 6) (p0 := 4) (s0 := j) (by decide) hve ?_ (hZ _ _ _ (by omega)) (fun A2 h hA1 hz => ?_)
      · intro q
        rcases q with q | q
        rotate_left
        · obtain ⟨i, hi, q⟩ := lpG_ex q
          simp only [L1h, GRow] at q
          omega
        exact hN _ _ _ (by omega) q
      have hX := hX.trans hA1 (fun _ _ _ q => Or.inl (h0S _ _ _ q))
      rw [← hA1 1 0 0 (Or.inl hS)]
      rw [← hA1 1089 0 0 (Or.inl hSa)]
      refine w_dup dX1_init_70 rfl rfl ?_
      refine c_X1_17 (b := A2 6 4 j) (As := []) (rest := [.ref (A2 6 4 j), .int (nI j), .ref (A2 1089 0 0)]) (fun l => s_X6_init (Or.inr ⟨rfl, rfl, rfl⟩) hve (fun c p9 s9 hc q => by
            rcases q with q | q
            rotate_left
            · omega
            rcases q with q | q
            rotate_left
            · obtain ⟨i, hi, q⟩ := lpG_ex q
              simp only [L1h, GRow] at q
              omega
            exact hN _ _ _ (by omega) q) (fun c p9 s9 hc => hZ _ _ _ (by omega)) hz l) hrm dX1_init_71 rfl rfl (Nat.le_trans (Nat.le_of_ble_eq_true rfl) hdd) (by omega) (by omega) rfl (Nat.le_of_ble_eq_true rfl) (fun vr h2 hq => ?_) (fun E9 h9 hq => hq.elim)
      obtain ⟨rfl, A5, hA4, hz⟩ := hq
      show wp _ _ 74 [(2, .int (nI j)), (0, .ref (A2 1 0 0))] [.ref (A2 6 4 j), .int (nI j), .ref (A2 1089 0 0)] _ _ _
      have hX := hX.trans hA4 (fun _ _ _ q => Or.inl (Or.inl (h0S _ _ _ q)))
      rw [← hA4 1 0 0 (Or.inl (Or.inl hS))]
      rw [← hA4 6 4 j (Or.inr ⟨rfl, rfl, rfl⟩)]
      rw [← hA4 1089 0 0 (Or.inl (Or.inl hSa))]
      refine w_aast 6 dX1_init_74 rfl (by decide) (by decide) (fun _ => rfl) (hz.kA (f := 65) (Or.inl (Or.inl (Or.inl hSa))) rfl) (hz.kO (Or.inl (Or.inr ⟨rfl, rfl, rfl⟩)) (by decide)) (by decide) rfl (gin (hz.nA (f := 65) (Or.inl (Or.inl (Or.inl hSa))) rfl) (gi_nI (by omega) (by decide))) ?_
      rw [show (nI j).toNatClampNeg = j from i_cl (by omega)]
      refine i_fg (hz.setZ (f := 65) (p := 0) (i := j) (Or.inl (Or.inl (Or.inl hSa))) (Or.inl (Or.inr ⟨rfl, rfl, rfl⟩)) ⟨fun _ q => (by cases q), fun _ => ⟨rfl, hR j⟩⟩) (fun h hz => ?_)
      refine w_iinc 0 (nI (j + 1)) [(2, .int (nI (j + 1))), (0, .ref (A5 1 0 0))] dX1_init_75 rfl rfl (nI_1 j) (by decide) rfl ?_
      refine w_goto 53 dX1_init_78 rfl ?_
      refine ih (j + 1) _ _ _ _ (by omega) hX (hz.congr (fun c p9 s9 => ?_) (fun c p9 s9 q => ?_) (fun c p9 s9 q => ?_)) (by omega) (by omega)
      · simp only [Sa, Su, lpG, L1h, or_assoc]
      · simpa only [Sa, Su, lpG, FL1h, or_assoc, or_false] using q
      · simpa only [Sa, Su, lpG, EL1h, or_assoc] using q

def GEng : C3 := fun c p9 s9 => (c = 1089 ∧ p9 = 0 ∧ s9 = 0) ∨ (c = 6 ∧ p9 = 0 ∧ s9 = 0) ∨ GRow 0 0 c p9 s9 ∨ (c = 6 ∧ p9 = 1 ∧ s9 = 0) ∨ GRow 1 0 c p9 s9 ∨ (c = 6 ∧ p9 = 2 ∧ s9 = 0) ∨ GRow 2 0 c p9 s9 ∨ lpG (L1h) 60 c p9 s9
def FGEng : C3 := fun c p9 s9 => (c = 65 ∧ p9 = 0 ∧ s9 = 0) ∨ FGRow 0 0 c p9 s9 ∨ (c = 71 ∧ p9 = 0 ∧ s9 = 0) ∨ FGRow 1 0 c p9 s9 ∨ (c = 72 ∧ p9 = 0 ∧ s9 = 0) ∨ FGRow 2 0 c p9 s9 ∨ (c = 73 ∧ p9 = 0 ∧ s9 = 0) ∨ (c = 64 ∧ p9 = 0 ∧ s9 = 0) ∨ lpG (FL1h) 60 c p9 s9
def EGEng : C3 := fun c p9 s9 => lpG (EL1h) 60 c p9 s9
set_option maxRecDepth 20000 in
set_option maxHeartbeats 4000000 in
theorem s_X1_init {A : Nat → Nat → Nat → Nat} {S F E : C3} {h : Hp} {z : Zs} {pg : Nat} (hS : S 1 0 0) (hSp : S 5 pg 0) (hR : ∀ j, zR z 1089 0 0 j = (4, j)) (hN : ∀ c p9 s9, (c = 1089 ∧ p9 = 0 ∧ s9 = 0 ∨ (c = 6 ∨ c = 1410) ∧ (p9 = 0 ∨ p9 = 1 ∨ p9 = 2 ∨ p9 = 4)) → ¬ S c p9 s9) (hZ : ∀ c p9 s9, (c = 1089 ∧ p9 = 0 ∧ s9 = 0 ∨ (c = 6 ∨ c = 1410) ∧ (p9 = 0 ∨ p9 = 1 ∨ p9 = 2 ∨ p9 = 4)) → Zr z c p9 s9) (hz : Pl A S F E h z) : ∀ l : Launch, Sp l mX1_init 2 127 753 [.ref (A 1 0 0), .ref (A 5 pg 0)] h (fun r h1 => r = none ∧ ∃ A1, Ax A A1 S ∧ Pl A1 (Su S (GEng)) (Su F (FGEng)) (Su E EGEng) h1 (sR z 64 0 0 0 (pg, 0))) X0 := by
  intro l
  refine Sp.of rfl rfl (lv := [(0, .ref (A 1 0 0)), (1, .ref (A 5 pg 0))]) (Nat.le_of_ble_eq_true rfl) rfl (fun x hf hrm => ?_)
  have hX : Ax A A S := fun _ _ _ _ => rfl
  have hv : vdb 2 1 0 0 = true := rfl
  refine w_aload_n 0 dX1_init_0 rfl rfl rfl ?_
  refine w_objInit hrm (by decide) dX1_init_1 rfl ml_X1_3 im_objectInit co_objectInit (Nat.le_of_ble_eq_true rfl) ?_
  refine w_aload_n 0 dX1_init_4 rfl rfl rfl ?_
  refine w_bipush 60 dX1_init_5 rfl rfl ?_
  refine w_newQ (n := 60) (c := 26) 6 hrm dX1_init_7 rfl cl_X1_9 ao_X6 (by decide) (by decide) (fun _ => rfl) (by decide) rfl (by decide) (Nat.le_of_ble_eq_true rfl) (Nat.le_of_ble_eq_true rfl) (fun q hq => ?_)
  refine i_addA hz hq (f0 := 65) (p0 := 0) (s0 := 0) rfl (by decide) rfl ?_ (hZ _ _ _ (by omega)) (fun A2 h hA1 hz => ?_)
  · intro q
    exact hN _ _ _ (by omega) q
  have hX := hX.trans hA1 (fun _ _ _ q => q)
  rw [← hA1 1 0 0 hS]
  rw [← hA1 5 pg 0 hSp]
  refine p_X1_11 dX1_init_10 rfl (hz.kO (Or.inl hS) (by decide)) rfl ?_
  refine i_fg (hz.setR (f := 65) (by decide) (Or.inl hS) (Or.inr ⟨rfl, rfl, rfl⟩) (rt_a (f := 65) rfl rfl rfl)) (fun h hz => ?_)
  refine w_aload_n 0 dX1_init_13 rfl rfl rfl ?_
  refine nw_X1_9 hrm dX1_init_14 rfl (Nat.le_of_ble_eq_true rfl) (Nat.le_of_ble_eq_true rfl) (fun q hq => ?_)
  refine i_addO hz hq (c0 := 6) (p0 := 0) (s0 := 0) (by decide) rfl ?_ (hZ _ _ _ (by omega)) (fun A5 h hA4 hz => ?_)
  · intro q
    rcases q with q | q
    rotate_left
    · omega
    exact hN _ _ _ (by omega) q
  have hX := hX.trans hA4 (fun _ _ _ q => Or.inl (q))
  rw [← hA4 1 0 0 (Or.inl hS)]
  rw [← hA4 5 pg 0 (Or.inl hSp)]
  refine w_dup dX1_init_17 rfl rfl ?_
  refine c_X1_17 (b := A5 6 0 0) (As := []) (rest := [.ref (A5 6 0 0), .ref (A5 1 0 0)]) (fun l => s_X6_init (Or.inr ⟨rfl, rfl, rfl⟩) rfl (fun c p9 s9 hc q => by
        rcases q with q | q
        rotate_left
        · omega
        rcases q with q | q
        rotate_left
        · omega
        exact hN _ _ _ (by omega) q) (fun c p9 s9 hc => hZ _ _ _ (by omega)) hz l) hrm dX1_init_18 rfl rfl (Nat.le_of_ble_eq_true rfl) (Nat.le_of_ble_eq_true rfl) (Nat.le_of_ble_eq_true rfl) rfl (Nat.le_of_ble_eq_true rfl) (fun vr h2 hq => ?_) (fun E9 h9 hq => hq.elim)
  obtain ⟨rfl, A8, hA7, hz⟩ := hq
  show wp _ _ 21 [(0, .ref (A5 1 0 0)), (1, .ref (A5 5 pg 0))] [.ref (A5 6 0 0), .ref (A5 1 0 0)] _ _ _
  have hX := hX.trans hA7 (fun _ _ _ q => Or.inl (Or.inl (q)))
  rw [← hA7 1 0 0 (Or.inl (Or.inl hS))]
  rw [← hA7 5 pg 0 (Or.inl (Or.inl hSp))]
  rw [← hA7 6 0 0 (Or.inr ⟨rfl, rfl, rfl⟩)]
  refine p_X1_18 dX1_init_21 rfl (hz.kO (Or.inl (Or.inl (Or.inl hS))) (by decide)) rfl ?_
  refine i_fg (hz.setR (f := 71) (by decide) (Or.inl (Or.inl (Or.inl hS))) (Or.inl (Or.inr ⟨rfl, rfl, rfl⟩)) (rt_s (f := 71) rfl rfl rfl)) (fun h hz => ?_)
  refine w_aload_n 0 dX1_init_24 rfl rfl rfl ?_
  refine nw_X1_9 hrm dX1_init_25 rfl (Nat.le_of_ble_eq_true rfl) (Nat.le_of_ble_eq_true rfl) (fun q hq => ?_)
  refine i_addO hz hq (c0 := 6) (p0 := 1) (s0 := 0) (by decide) rfl ?_ (hZ _ _ _ (by omega)) (fun A10 h hA9 hz => ?_)
  · intro q
    rcases q with q | q
    rotate_left
    · simp only [GRow] at q; omega
    rcases q with q | q
    rotate_left
    · omega
    rcases q with q | q
    rotate_left
    · omega
    exact hN _ _ _ (by omega) q
  have hX := hX.trans hA9 (fun _ _ _ q => Or.inl (Or.inl (Or.inl (q))))
  rw [← hA9 1 0 0 (Or.inl (Or.inl (Or.inl hS)))]
  rw [← hA9 5 pg 0 (Or.inl (Or.inl (Or.inl hSp)))]
  refine w_dup dX1_init_28 rfl rfl ?_
  refine c_X1_17 (b := A10 6 1 0) (As := []) (rest := [.ref (A10 6 1 0), .ref (A10 1 0 0)]) (fun l => s_X6_init (Or.inr ⟨rfl, rfl, rfl⟩) rfl (fun c p9 s9 hc q => by
        rcases q with q | q
        rotate_left
        · omega
        rcases q with q | q
        rotate_left
        · simp only [GRow] at q; omega
        rcases q with q | q
        rotate_left
        · omega
        rcases q with q | q
        rotate_left
        · omega
        exact hN _ _ _ (by omega) q) (fun c p9 s9 hc => hZ _ _ _ (by omega)) hz l) hrm dX1_init_29 rfl rfl (Nat.le_of_ble_eq_true rfl) (Nat.le_of_ble_eq_true rfl) (Nat.le_of_ble_eq_true rfl) rfl (Nat.le_of_ble_eq_true rfl) (fun vr h2 hq => ?_) (fun E9 h9 hq => hq.elim)
  obtain ⟨rfl, A13, hA12, hz⟩ := hq
  show wp _ _ 32 [(0, .ref (A10 1 0 0)), (1, .ref (A10 5 pg 0))] [.ref (A10 6 1 0), .ref (A10 1 0 0)] _ _ _
  have hX := hX.trans hA12 (fun _ _ _ q => Or.inl (Or.inl (Or.inl (Or.inl (q)))))
  rw [← hA12 1 0 0 (Or.inl (Or.inl (Or.inl (Or.inl hS))))]
  rw [← hA12 5 pg 0 (Or.inl (Or.inl (Or.inl (Or.inl hSp))))]
  rw [← hA12 6 1 0 (Or.inr ⟨rfl, rfl, rfl⟩)]
  refine p_X1_22 dX1_init_32 rfl (hz.kO (Or.inl (Or.inl (Or.inl (Or.inl (Or.inl hS))))) (by decide)) rfl ?_
  refine i_fg (hz.setR (f := 72) (by decide) (Or.inl (Or.inl (Or.inl (Or.inl (Or.inl hS))))) (Or.inl (Or.inr ⟨rfl, rfl, rfl⟩)) (rt_s (f := 72) rfl rfl rfl)) (fun h hz => ?_)
  refine w_aload_n 0 dX1_init_35 rfl rfl rfl ?_
  refine nw_X1_9 hrm dX1_init_36 rfl (Nat.le_of_ble_eq_true rfl) (Nat.le_of_ble_eq_true rfl) (fun q hq => ?_)
  refine i_addO hz hq (c0 := 6) (p0 := 2) (s0 := 0) (by decide) rfl ?_ (hZ _ _ _ (by omega)) (fun A15 h hA14 hz => ?_)
  · intro q
    rcases q with q | q
    rotate_left
    · simp only [GRow] at q; omega
    rcases q with q | q
    rotate_left
    · omega
    rcases q with q | q
    rotate_left
    · simp only [GRow] at q; omega
    rcases q with q | q
    rotate_left
    · omega
    rcases q with q | q
    rotate_left
    · omega
    exact hN _ _ _ (by omega) q
  have hX := hX.trans hA14 (fun _ _ _ q => Or.inl (Or.inl (Or.inl (Or.inl (Or.inl (q))))))
  rw [← hA14 1 0 0 (Or.inl (Or.inl (Or.inl (Or.inl (Or.inl hS)))))]
  rw [← hA14 5 pg 0 (Or.inl (Or.inl (Or.inl (Or.inl (Or.inl hSp)))))]
  refine w_dup dX1_init_39 rfl rfl ?_
  refine c_X1_17 (b := A15 6 2 0) (As := []) (rest := [.ref (A15 6 2 0), .ref (A15 1 0 0)]) (fun l => s_X6_init (Or.inr ⟨rfl, rfl, rfl⟩) rfl (fun c p9 s9 hc q => by
        rcases q with q | q
        rotate_left
        · omega
        rcases q with q | q
        rotate_left
        · simp only [GRow] at q; omega
        rcases q with q | q
        rotate_left
        · omega
        rcases q with q | q
        rotate_left
        · simp only [GRow] at q; omega
        rcases q with q | q
        rotate_left
        · omega
        rcases q with q | q
        rotate_left
        · omega
        exact hN _ _ _ (by omega) q) (fun c p9 s9 hc => hZ _ _ _ (by omega)) hz l) hrm dX1_init_40 rfl rfl (Nat.le_of_ble_eq_true rfl) (Nat.le_of_ble_eq_true rfl) (Nat.le_of_ble_eq_true rfl) rfl (Nat.le_of_ble_eq_true rfl) (fun vr h2 hq => ?_) (fun E9 h9 hq => hq.elim)
  obtain ⟨rfl, A18, hA17, hz⟩ := hq
  show wp _ _ 43 [(0, .ref (A15 1 0 0)), (1, .ref (A15 5 pg 0))] [.ref (A15 6 2 0), .ref (A15 1 0 0)] _ _ _
  have hX := hX.trans hA17 (fun _ _ _ q => Or.inl (Or.inl (Or.inl (Or.inl (Or.inl (Or.inl (q)))))))
  rw [← hA17 1 0 0 (Or.inl (Or.inl (Or.inl (Or.inl (Or.inl (Or.inl hS))))))]
  rw [← hA17 5 pg 0 (Or.inl (Or.inl (Or.inl (Or.inl (Or.inl (Or.inl hSp))))))]
  rw [← hA17 6 2 0 (Or.inr ⟨rfl, rfl, rfl⟩)]
  refine p_X1_25 dX1_init_43 rfl (hz.kO (Or.inl (Or.inl (Or.inl (Or.inl (Or.inl (Or.inl (Or.inl hS))))))) (by decide)) rfl ?_
  refine i_fg (hz.setR (f := 73) (by decide) (Or.inl (Or.inl (Or.inl (Or.inl (Or.inl (Or.inl (Or.inl hS))))))) (Or.inl (Or.inr ⟨rfl, rfl, rfl⟩)) (rt_s (f := 73) rfl rfl rfl)) (fun h hz => ?_)
  refine w_aload_n 0 dX1_init_46 rfl rfl rfl ?_
  refine w_aload_n 1 dX1_init_47 rfl rfl rfl ?_
  refine p_X1_28 dX1_init_48 rfl (hz.kO (Or.inl (Or.inl (Or.inl (Or.inl (Or.inl (Or.inl (Or.inl hS))))))) (by decide)) ?_
  refine i_fg (hz.putR (f := 64) (by decide) (Or.inl (Or.inl (Or.inl (Or.inl (Or.inl (Or.inl (Or.inl hS))))))) (Or.inl (Or.inl (Or.inl (Or.inl (Or.inl (Or.inl (Or.inl hSp))))))) rfl rfl (fun _ _ => rfl)) (fun h hz => ?_)
  refine w_iconst 0 dX1_init_51 rfl rfl ?_
  refine w_istore_n [(2, .int 0), (0, .ref (A18 1 0 0)), (1, .ref (A18 5 pg 0))] dX1_init_52 rfl rfl (by decide) rfl ?_
  refine w_lv [(2, .int 0), (0, .ref (A18 1 0 0))] [0, 1] rfl ?_
  refine l_X1_init_h hrm (Ma := 127) (Mb := 753) (S0 := S) (S := (Su (Sa (Su (Sa (Su (Sa (Sa S 1089 0 0) 6 0 0) (GRow 0 0)) 6 1 0) (GRow 1 0)) 6 2 0) (GRow 2 0))) (F := (Sa (Sa (Su (Sa (Su (Sa (Su (Sa F 65 0 0) (FGRow 0 0)) 71 0 0) (FGRow 1 0)) 72 0 0) (FGRow 2 0)) 73 0 0) 64 0 0)) (E := E) (z := (sR z 64 0 0 0 (pg, 0))) (Nat.le_of_ble_eq_true rfl) (Nat.le_of_ble_eq_true rfl) (Nat.le_of_ble_eq_true rfl) hv (fun _ _ _ q => Or.inl (Or.inl (Or.inl (Or.inl (Or.inl (Or.inl (Or.inl (q)))))))) (Or.inl (Or.inl (Or.inl (Or.inl (Or.inl (Or.inl (Or.inl hS))))))) (Or.inl (Or.inl (Or.inl (Or.inl (Or.inl (Or.inl (Or.inr ⟨rfl, rfl, rfl⟩))))))) (Or.inl (Or.inl (Or.inl (Or.inl (Or.inl (Or.inl (Or.inl (Or.inr ⟨rfl, rfl, rfl⟩)))))))) (fun c p9 s9 hc q => by
        rcases q with q | q
        rotate_left
        · simp only [GRow] at q; omega
        rcases q with q | q
        rotate_left
        · omega
        rcases q with q | q
        rotate_left
        · simp only [GRow] at q; omega
        rcases q with q | q
        rotate_left
        · omega
        rcases q with q | q
        rotate_left
        · simp only [GRow] at q; omega
        rcases q with q | q
        rotate_left
        · omega
        rcases q with q | q
        rotate_left
        · omega
        exact hN _ _ _ (by omega) q) (fun c p9 s9 hc => hZ _ _ _ (by omega)) (fun j => (by rw [zR_sR, if_neg (fun q => absurd q.1 (by decide))]; exact hR j)) (fun Ah h hX hz => ?_) 60 0 _ _ _ _ rfl hX hz.s0 (Nat.le_of_ble_eq_true rfl) (Nat.le_of_ble_eq_true rfl)
  refine w_vret hf dX1_init_81 rfl (Nat.le_of_ble_eq_true rfl) (Nat.le_of_ble_eq_true rfl) ?_
  refine ⟨rfl, _, hX, hz.congr (fun c p9 s9 => ?_) (fun c p9 s9 q => ?_) (fun c p9 s9 q => ?_)⟩
  · simp only [Sa, Su, GEng, or_assoc]
  · simpa only [Sa, Su, FGEng, or_assoc] using q
  · simpa only [Sa, Su, EGEng, or_assoc] using q

def GMea : C3 := fun c p9 s9 => (c = 1224 ∧ p9 = 0 ∧ s9 = 0)
def FGMea : C3 := fun c p9 s9 => (c = 200 ∧ p9 = 0 ∧ s9 = 0) ∨ (c = 194 ∧ p9 = 0 ∧ s9 = 0) ∨ (c = 195 ∧ p9 = 0 ∧ s9 = 0) ∨ (c = 198 ∧ p9 = 0 ∧ s9 = 0) ∨ (c = 199 ∧ p9 = 0 ∧ s9 = 0) ∨ (c = 196 ∧ p9 = 0 ∧ s9 = 0)
set_option maxRecDepth 20000 in
set_option maxHeartbeats 4000000 in
theorem s_X3_init {A : Nat → Nat → Nat → Nat} {S F E : C3} {h : Hp} {z : Zs} {pg : Nat} (hS : S 3 0 0) (hSp : S 5 pg 0) (hS1 : S 1344 pg 0) (hS2 : S 1346 pg 0) (hS3 : S 7 pg 0) (hS4 : S 0 pg 0) (hF1 : F 320 pg 0) (hF2 : F 322 pg 0) (hE1 : E 320 pg 0) (hE2 : E 322 pg 0) (hN : ∀ c p9 s9, (c = 1224 ∧ p9 = 0 ∧ s9 = 0) → ¬ S c p9 s9) (hZ : ∀ c p9 s9, (c = 1224 ∧ p9 = 0 ∧ s9 = 0) → Zr z c p9 s9) (hz : Pl A S F E h z) : ∀ l : Launch, Sp l mX3_init 1 1 1500 [.ref (A 3 0 0), .ref (A 5 pg 0)] h (fun r h1 => r = none ∧ ∃ A1, Ax A A1 S ∧ Pl A1 (Su S (GMea)) (Su F (FGMea)) E h1 (sR (sR (sR (sR (sR z 194 0 0 0 (pg, 0)) 195 0 0 0 (pg, 0)) 198 0 0 0 (pg, 0)) 199 0 0 0 (pg, 0)) 196 0 0 0 (pg, 0))) X0 := by
  intro l
  refine Sp.of rfl rfl (lv := [(0, .ref (A 3 0 0)), (1, .ref (A 5 pg 0))]) (Nat.le_of_ble_eq_true rfl) rfl (fun x hf hrm => ?_)
  have hX : Ax A A S := fun _ _ _ _ => rfl
  refine w_aload_n 0 dX3_init_0 rfl rfl rfl ?_
  refine w_objInit hrm (by decide) dX3_init_1 rfl ml_X3_3 im_objectInit co_objectInit (Nat.le_of_ble_eq_true rfl) ?_
  refine w_aload_n 0 dX3_init_4 rfl rfl rfl ?_
  refine w_sipush 1500 dX3_init_5 rfl rfl ?_
  refine w_newJ (n := 1500) hrm dX3_init_8 rfl a_long (by decide) rfl (by decide) (Nat.le_of_ble_eq_true rfl) (Nat.le_of_ble_eq_true rfl) (fun q hq => ?_)
  refine i_addA hz hq (f0 := 200) (p0 := 0) (s0 := 0) rfl (by decide) rfl ?_ (hZ _ _ _ (by omega)) (fun A2 h hA1 hz => ?_)
  · intro q
    exact hN _ _ _ (by omega) q
  have hX := hX.trans hA1 (fun _ _ _ q => q)
  rw [← hA1 3 0 0 hS]
  rw [← hA1 5 pg 0 hSp]
  refine p_X3_9 dX3_init_10 rfl (hz.kO (Or.inl hS) (by decide)) rfl ?_
  refine i_fg (hz.setR (f := 200) (by decide) (Or.inl hS) (Or.inr ⟨rfl, rfl, rfl⟩) (rt_a (f := 200) rfl rfl rfl)) (fun h hz => ?_)
  refine w_aload_n 0 dX3_init_13 rfl rfl rfl ?_
  refine w_aload_n 1 dX3_init_14 rfl rfl rfl ?_
  refine p_X3_15 dX3_init_15 rfl (hz.kO (Or.inl hS) (by decide)) ?_
  refine i_fg (hz.putR (f := 194) (by decide) (Or.inl hS) (Or.inl hSp) rfl rfl (fun _ _ => rfl)) (fun h hz => ?_)
  refine w_aload_n 0 dX3_init_18 rfl rfl rfl ?_
  refine w_aload_n 1 dX3_init_19 rfl rfl rfl ?_
  refine g_X3_19 dX3_init_20 rfl (hz.kO (Or.inl hSp) (by decide)) (hz.rA (f := 320) (Or.inl (Or.inl hF1)) rfl) ?_
  refine w_iconst 0 dX3_init_23 rfl rfl ?_
  refine w_aald 7 dX3_init_24 rfl (by decide) (by decide) (fun _ => rfl) (hz.kA (f := 320) (Or.inl hS1) rfl) (gin (hz.nA (f := 320) (Or.inl hS1) rfl) (by decide)) (hz.rE (f := 320) hE1 rfl) ?_
  refine p_X3_25 dX3_init_25 rfl (hz.kO (Or.inl hS) (by decide)) ?_
  refine i_fg (hz.putR (f := 195) (by decide) (Or.inl hS) (Or.inl hS3) rfl rfl (fun _ _ => rfl)) (fun h hz => ?_)
  refine w_aload_n 0 dX3_init_28 rfl rfl rfl ?_
  refine w_aload_n 1 dX3_init_29 rfl rfl rfl ?_
  refine g_X3_19 dX3_init_30 rfl (hz.kO (Or.inl hSp) (by decide)) (hz.rA (f := 320) (Or.inl (Or.inl (Or.inl hF1))) rfl) ?_
  refine w_iconst 0 dX3_init_33 rfl rfl ?_
  refine w_aald 7 dX3_init_34 rfl (by decide) (by decide) (fun _ => rfl) (hz.kA (f := 320) (Or.inl hS1) rfl) (gin (hz.nA (f := 320) (Or.inl hS1) rfl) (by decide)) (hz.rE (f := 320) hE1 rfl) ?_
  refine p_X3_29 dX3_init_35 rfl (hz.kO (Or.inl hS) (by decide)) ?_
  refine i_fg (hz.putR (f := 198) (by decide) (Or.inl hS) (Or.inl hS3) rfl rfl (fun _ _ => rfl)) (fun h hz => ?_)
  refine w_aload_n 0 dX3_init_38 rfl rfl rfl ?_
  refine w_aload_n 1 dX3_init_39 rfl rfl rfl ?_
  refine g_X3_19 dX3_init_40 rfl (hz.kO (Or.inl hSp) (by decide)) (hz.rA (f := 320) (Or.inl (Or.inl (Or.inl (Or.inl hF1)))) rfl) ?_
  refine w_iconst 0 dX3_init_43 rfl rfl ?_
  refine w_aald 7 dX3_init_44 rfl (by decide) (by decide) (fun _ => rfl) (hz.kA (f := 320) (Or.inl hS1) rfl) (gin (hz.nA (f := 320) (Or.inl hS1) rfl) (by decide)) (hz.rE (f := 320) hE1 rfl) ?_
  refine p_X3_32 dX3_init_45 rfl (hz.kO (Or.inl hS) (by decide)) ?_
  refine i_fg (hz.putR (f := 199) (by decide) (Or.inl hS) (Or.inl hS3) rfl rfl (fun _ _ => rfl)) (fun h hz => ?_)
  refine w_aload_n 0 dX3_init_48 rfl rfl rfl ?_
  refine w_aload_n 1 dX3_init_49 rfl rfl rfl ?_
  refine g_X3_35 dX3_init_50 rfl (hz.kO (Or.inl hSp) (by decide)) (hz.rA (f := 322) (Or.inl (Or.inl (Or.inl (Or.inl (Or.inl hF2))))) rfl) ?_
  refine w_iconst 0 dX3_init_53 rfl rfl ?_
  refine w_aald 4 dX3_init_54 rfl (by decide) (by decide) (fun _ => rfl) (hz.kA (f := 322) (Or.inl hS2) rfl) (gin (hz.nA (f := 322) (Or.inl hS2) rfl) (by decide)) (hz.rE (f := 322) hE2 rfl) ?_
  refine p_X3_39 dX3_init_55 rfl (hz.kO (Or.inl hS) (by decide)) ?_
  refine i_fg (hz.putR (f := 196) (by decide) (Or.inl hS) (Or.inl hS4) rfl rfl (fun _ _ => rfl)) (fun h hz => ?_)
  refine w_vret hf dX3_init_58 rfl (Nat.le_of_ble_eq_true rfl) (Nat.le_of_ble_eq_true rfl) ?_
  refine ⟨rfl, _, hX, hz.congr (fun c p9 s9 => ?_) (fun c p9 s9 q => ?_) (fun c p9 s9 q => ?_)⟩
  · simp only [Sa, Su, GMea, or_assoc]
  · simpa only [Sa, Su, FGMea, or_assoc] using q
  · exact q

def GPar : C3 := fun _ _ _ => False
def FGPar : C3 := fun c p9 s9 => (c = 256 ∧ p9 = 0 ∧ s9 = 0) ∨ (c = 257 ∧ p9 = 0 ∧ s9 = 0)
set_option maxRecDepth 20000 in
set_option maxHeartbeats 4000000 in
theorem s_X4_init {A : Nat → Nat → Nat → Nat} {S F E : C3} {h : Hp} {z : Zs}  (hS : S 4 0 0) (hS1 : S 9 0 0) (hS2 : S 3 0 0) (hN : ∀ c p9 s9, False → ¬ S c p9 s9) (hZ : ∀ c p9 s9, False → Zr z c p9 s9) (hz : Pl A S F E h z) : ∀ l : Launch, Sp l mX4_init 1 0 0 [.ref (A 4 0 0), .ref (A 9 0 0), .ref (A 3 0 0)] h (fun r h1 => r = none ∧ ∃ A1, Ax A A1 S ∧ Pl A1 (Su S (GPar)) (Su F (FGPar)) E h1 (z)) X0 := by
  intro l
  refine Sp.of rfl rfl (lv := [(0, .ref (A 4 0 0)), (1, .ref (A 9 0 0)), (2, .ref (A 3 0 0))]) (Nat.le_of_ble_eq_true rfl) rfl (fun x hf hrm => ?_)
  have hX : Ax A A S := fun _ _ _ _ => rfl
  refine w_aload_n 0 dX4_init_0 rfl rfl rfl ?_
  refine w_objInit hrm (by decide) dX4_init_1 rfl ml_X4_3 im_objectInit co_objectInit (Nat.le_of_ble_eq_true rfl) ?_
  refine w_aload_n 0 dX4_init_4 rfl rfl rfl ?_
  refine w_aload_n 1 dX4_init_5 rfl rfl rfl ?_
  refine p_X4_9 dX4_init_6 rfl (hz.kO hS (by decide)) rfl ?_
  refine i_fg (hz.setR (f := 256) (by decide) hS hS1 (rt_s (f := 256) rfl rfl rfl)) (fun h hz => ?_)
  refine w_aload_n 0 dX4_init_9 rfl rfl rfl ?_
  refine w_aload_n 2 dX4_init_10 rfl rfl rfl ?_
  refine p_X4_15 dX4_init_11 rfl (hz.kO hS (by decide)) rfl ?_
  refine i_fg (hz.setR (f := 257) (by decide) hS hS2 (rt_s (f := 257) rfl rfl rfl)) (fun h hz => ?_)
  refine w_vret hf dX4_init_14 rfl (Nat.le_of_ble_eq_true rfl) (Nat.le_of_ble_eq_true rfl) ?_
  refine ⟨rfl, _, hX, hz.congr (fun c p9 s9 => ⟨Or.inl, fun q => q.elim id False.elim⟩) (fun c p9 s9 q => ?_) (fun c p9 s9 q => q)⟩
  simpa only [Sa, Su, FGPar, or_assoc] using q

