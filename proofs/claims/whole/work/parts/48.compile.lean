/-! COMPILE OF THE LAW'S PROGRAM: a new program at the free place, its codes zero -/
theorem x_ca13 : Cond.castable RX13 RX13 ∈ m_NW := List.mem_filter.mpr ⟨List.mem_append_right _ (List.mem_append_right _ (List.mem_append_right _ (List.mem_append_right _ (List.mem_append_right _ (List.mem_append_right _ (List.mem_append_right _ (List.mem_append_left _ (List.mem_of_getElem? (i := 67) rfl)))))))), rfl⟩
def isP (c : Nat) : Bool := decide (c / 64 = 12) || (decide (1792 ≤ c) && decide (c < 1856))
def zP (ρ : Zs) (g : Nat) : Zs := (fun c p s i => if isP c = true ∧ p = g ∧ s = 0 then 0 else zI ρ c p s i, fun c p s i => if isP c = true ∧ p = g ∧ s = 0 then 0 else zJ ρ c p s i, zR ρ)
def AxC (A A' : Nat → Nat → Nat → Nat) : Prop := ∀ c p s, vc 2 c p s → ¬ (c = 12 ∨ (1792 ≤ c ∧ c < 1856)) → A' c p s = A c p s
theorem arr_lt {f k n : Nat} (h : arr f = some (k, n)) : f < 1024 := by
  unfold arr at h
  split at h <;> first | omega | cases h
theorem arr_dis {f k n : Nat} (h : arr f = some (k, n)) (p s : Nat) : sro f p s = none ∧ dro f = none := by
  unfold arr at h
  split at h <;> first | exact ⟨rfl, rfl⟩ | cases h
theorem sro_dis {f p s : Nat} {t : Nat × Nat × Nat} (h : sro f p s = some t) : arr f = none ∧ dro f = none := by
  unfold sro at h
  split at h <;> first | exact ⟨rfl, rfl⟩ | cases h
theorem dro_dis {f c : Nat} (h : dro f = some c) (p s : Nat) : arr f = none ∧ sro f p s = none := by
  unfold dro at h
  split at h <;> first | exact ⟨rfl, rfl⟩ | cases h
theorem sro_v {N f p s c' p' s' : Nat} (h : sro f p s = some (c', p', s')) (hv : vdb N (f / 64) p s = true) : c' < 12 ∧ vdb N c' p' s' = true := by
  unfold sro at h
  split at h <;> cases h <;> first | exact ⟨by decide, rfl⟩ | (refine ⟨by decide, ?_⟩; simpa [vdb] using hv) | (refine ⟨by decide, ?_⟩; simp [vdb] at hv ⊢; omega)
theorem sre_v {N f p i c' p' s' k n : Nat} (h : sre f p i = some (c', p', s')) (ha : arr f = some (k, n)) (hi : i < n) (hv : vdb N (f / 64) p 0 = true) : c' < 12 ∧ vdb N c' p' s' = true := by
  unfold sre at h
  split at h <;> cases h <;> (simp [arr] at ha; refine ⟨by decide, ?_⟩; simp [vdb] at hv ⊢; omega)
theorem dro_c {f c : Nat} (h : dro f = some c) : f = 898 ∨ f = 909 ∨ c < 12 := by
  unfold dro at h
  split at h <;> cases h <;> simp
def SdP (N g : Nat) : C3 := fun c p s => vc N c p s ∧ ¬ ((c = 12 ∨ (1792 ≤ c ∧ c < 1856)) ∧ p = g ∧ s = 0)
def FdP (N g : Nat) : C3 := fun f p s => vdb N (f / 64) p s = true ∧ f < 960 ∧ ((arr f).isSome = true ∨ (sro f p s).isSome = true ∨ (dro f).isSome = true) ∧ f ≠ 909 ∧ ¬ (f / 64 = 12 ∧ p = g ∧ s = 0)
def EdP (N : Nat) : C3 := fun f p i => vdb N (f / 64) p 0 = true ∧ ((∃ k n t, arr f = some (k, n) ∧ i < n ∧ sre f p i = some t) ∨ (f = 65 ∧ p = 0 ∧ i < 60))
theorem zP_I {σ ρ : Zs} {g c p s i : Nat} (h : ¬ (isP c = true ∧ p = g ∧ s = 0)) : zI (mz σ (zP ρ g)) c p s i = zI (mz σ ρ) c p s i := by
  show (if isr c = true then (if isP c = true ∧ p = g ∧ s = 0 then 0 else zI ρ c p s i) else zI σ c p s i) = if isr c = true then zI ρ c p s i else zI σ c p s i
  rw [if_neg h]
theorem zP_J {σ ρ : Zs} {g c p s i : Nat} (h : ¬ (isP c = true ∧ p = g ∧ s = 0)) : zJ (mz σ (zP ρ g)) c p s i = zJ (mz σ ρ) c p s i := by
  show (if isr c = true then (if isP c = true ∧ p = g ∧ s = 0 then 0 else zJ ρ c p s i) else zJ σ c p s i) = if isr c = true then zJ ρ c p s i else zJ σ c p s i
  rw [if_neg h]
theorem zP_R {σ ρ : Zs} {g c p s i : Nat} : zR (mz σ (zP ρ g)) c p s i = zR (mz σ ρ) c p s i := rfl
theorem vdb_2 {N c p s : Nat} (h : vdb N c p s = true) : vdb 2 c p s = true := by
  by_cases q : c = 12
  · subst q
    simp [vdb] at h ⊢
    omega
  · exact vdb_n q h
theorem vc_2 {N c p s : Nat} (h : vc N c p s) : vc 2 c p s := ⟨fun q => ⟨(h.1 q).1, vdb_2 (h.1 q).2⟩, fun q => ⟨vdb_2 (h.2 q).1, (h.2 q).2⟩⟩
def stp (A : Nat → Nat → Nat → Nat) : Nat → Nat → Nat → Nat := fun c p s => if c = 16 then 2 else A c p s
theorem Rp.drop {A : Nat → Nat → Nat → Nat} {h : Hp} {σ ρ : Zs} {g : Nat} (hz : Rp A h σ ρ) (hg : (zR ρ 898 0 0 0).1 ≠ g) : Pl A (SdP (A 16 0 0) g) (FdP (A 16 0 0) g) (EdP (A 16 0 0)) h (mz σ (zP ρ g)) := by
  obtain ⟨⟨l1, l2, l3, l4, l5⟩, ⟨v1, v2⟩, d1, d2⟩ := hz
  have hO : ∀ {f p s : Nat}, f < 960 → vdb (A 16 0 0) (f / 64) p s = true → ¬ (f / 64 = 12 ∧ p = g ∧ s = 0) → SdP (A 16 0 0) g (f / 64) p s := fun {f p s} hf hv hn => ⟨vc_o (by omega) hv, fun q => by
    rcases q with ⟨q | q, q2⟩
    · exact hn ⟨q, q2⟩
    · have := vdb_c hv
      omega⟩
  refine ⟨⟨fun c p s c' p' s' h1 h2 e => l1 c p s c' p' s' h1.1 h2.1 e, fun c p s h1 => vc_2 h1.1, fun c p s h1 hc => l2 c p s hc ((h1.1.1 (by omega)).2), fun f p s k n h1 ha => ?_, fun f p s hf h1 => ?_, fun f p s i h1 => ?_⟩, fun f p s hF => ?_, fun f p i hE => ?_⟩
  · have h9 := (h1.1.2 (by omega)).1
    rw [Nat.add_sub_cancel_left] at h9
    exact (l3 f p s k n ha (arr_lt ha) h9).2
  · have hv : vdb (A 16 0 0) (f / 64) p s = true := (h1.1.1 (by omega)).2
    have hn : ¬ (isP f = true ∧ p = g ∧ s = 0) := fun q => by
      have q1 := q.1
      simp only [isP, Bool.or_eq_true, Bool.and_eq_true, decide_eq_true_eq] at q1
      exact h1.2 ⟨Or.inl (by omega), q.2⟩
    rw [zP_I hn, zP_J hn]
    exact v1 f p s hf hv
  · have h9 := h1.1.2 (by omega)
    rw [Nat.add_sub_cancel_left] at h9
    obtain ⟨k, hk⟩ := Option.isSome_iff_exists.mp h9.2
    have hn : ¬ (isP (1024 + f) = true ∧ p = g ∧ s = 0) := fun q => by
      have q1 := q.1
      have := arr_lt (show arr f = some (k.1, k.2) from hk)
      simp only [isP, Bool.or_eq_true, Bool.and_eq_true, decide_eq_true_eq] at q1
      exact h1.2 ⟨Or.inr (by omega), q.2⟩
    rw [zP_I hn, zP_J hn]
    exact v2 f p s i (arr_lt (show arr f = some (k.1, k.2) from hk)) h9.1 h9.2
  · obtain ⟨hv, hf, hc, h909, hn⟩ := hF
    refine ⟨hO hf hv hn, hf, ?_⟩
    have hn2 : ¬ ((1024 + f = 12 ∨ (1792 ≤ 1024 + f ∧ 1024 + f < 1856)) ∧ p = g ∧ s = 0) := fun q => hn ⟨by omega, q.2⟩
    rcases hc with hc | hc | hc
    · obtain ⟨k, hk⟩ := Option.isSome_iff_exists.mp hc
      obtain ⟨e1, e2⟩ := arr_dis (show arr f = some (k.1, k.2) from hk) p s
      have := vdb_c hv
      exact ⟨1024 + f, p, s, ⟨vc_a (by omega) hv hc, hn2⟩, (l3 f p s k.1 k.2 hk (by omega) hv).1 (by omega), fun _ _ _ => ⟨rfl, rfl, rfl⟩, fun _ q => (by rw [e1] at q; cases q), fun _ q => (by rw [e2] at q; cases q)⟩
    · obtain ⟨⟨c', p', s'⟩, hk⟩ := Option.isSome_iff_exists.mp hc
      obtain ⟨e1, e2⟩ := sro_dis hk
      obtain ⟨w1, w2⟩ := sro_v hk hv
      exact ⟨c', p', s', ⟨vc_o (by omega) w2, fun q => by omega⟩, l4 f p s c' p' s' hk hv, fun _ _ q => (by rw [e1] at q; cases q), fun _ q => (by rw [hk] at q; exact (Option.some.inj q).symm), fun _ q => (by rw [e2] at q; cases q)⟩
    · obtain ⟨c', hk⟩ := Option.isSome_iff_exists.mp hc
      obtain ⟨e1, e2⟩ := dro_dis hk p s
      obtain ⟨w1, w2⟩ := d1 f p s c' hk hv (fun q => absurd q h909)
      have hc15 : c' < 15 := by
        unfold dro at hk
        split at hk <;> cases hk <;> decide
      refine ⟨c', (zR (mz σ ρ) f p s 0).1, (zR (mz σ ρ) f p s 0).2, ⟨vc_o hc15 w1, fun q => ?_⟩, w2, fun _ _ q => (by rw [e1] at q; cases q), fun _ q => (by rw [e2] at q; cases q), fun c q => (by rw [hk] at q; exact ⟨Option.some.inj q, rfl⟩)⟩
      rcases dro_c hk with rfl | rfl | q9
      · have hp : p = 0 ∧ s = 0 := by simp [vdb] at hv; exact hv
        obtain ⟨rfl, rfl⟩ := hp
        exact hg q.2.1
      · exact h909 rfl
      · have := vdb_c w1
        omega
  · obtain ⟨hv, hc⟩ := hE
    rcases hc with ⟨k, n, ⟨c', p', s'⟩, ha, hi, hs⟩ | ⟨rfl, rfl, hi⟩
    · obtain ⟨w1, w2⟩ := sre_v hs ha hi hv
      have h65 : f ≠ 65 := fun q => by subst q; cases hs
      have hfl : f / 64 ≠ 12 := fun q => by
        unfold sre at hs
        split at hs <;> first | omega | cases hs
      exact ⟨⟨vc_a (arr_lt ha) hv (by rw [ha]; rfl), fun q => hfl (by omega)⟩, c', p', s', ⟨vc_o (by omega) w2, fun q => by omega⟩, l5 f p i c' p' s' k n hs ha hi hv, fun _ q => (by rw [hs] at q; exact (Option.some.inj q).symm), fun q => absurd q h65⟩
    · obtain ⟨w1, w2⟩ := d2 i hi
      exact ⟨⟨vc_a (f := 65) (by decide) hv rfl, fun q => by omega⟩, 6, _, _, ⟨vc_o (by decide) w1, fun q => by omega⟩, w2, fun _ q => (by cases q), fun _ => ⟨rfl, rfl⟩⟩
theorem zP_0 {σ ρ : Zs} {g c' i : Nat} (q1 : isP c' = true) (q2 : isr c' = true) : zI (mz σ (zP ρ g)) c' g 0 i = 0 ∧ zJ (mz σ (zP ρ g)) c' g 0 i = 0 := by
  refine ⟨?_, ?_⟩
  · show (if isr c' = true then (if isP c' = true ∧ g = g ∧ 0 = 0 then (0 : Int32) else zI ρ c' g 0 i) else zI σ c' g 0 i) = 0
    rw [if_pos q2, if_pos ⟨q1, rfl, rfl⟩]
  · show (if isr c' = true then (if isP c' = true ∧ g = g ∧ 0 = 0 then (0 : Int64) else zJ ρ c' g 0 i) else zJ σ c' g 0 i) = 0
    rw [if_pos q2, if_pos ⟨q1, rfl, rfl⟩]
/-- zero where a new thing is to stand -/
def Zq (z : Zs) (c p s : Nat) : Prop := (c < 15 → ∀ f, f / 64 = c → zI z f p s 0 = 0 ∧ zJ z f p s 0 = 0) ∧ (1024 ≤ c → ∀ i, zI z c p s i = 0 ∧ zJ z c p s i = 0)
theorem zP_zq {σ ρ : Zs} {g c p s : Nat} (hc : (c = 12 ∨ (1792 ≤ c ∧ c < 1856)) ∧ p = g ∧ s = 0) : Zq (mz σ (zP ρ g)) c p s := by
  obtain ⟨hc, rfl, rfl⟩ := hc
  refine ⟨fun h f hf => zP_0 ?_ ?_, fun h i => zP_0 ?_ ?_⟩
  · simp only [isP, Bool.or_eq_true, Bool.and_eq_true, decide_eq_true_eq]; omega
  · simp only [isr, Bool.and_eq_true, decide_eq_true_eq]; omega
  · simp only [isP, Bool.or_eq_true, Bool.and_eq_true, decide_eq_true_eq]; omega
  · simp only [isr, Bool.and_eq_true, decide_eq_true_eq]; omega
section K47
variable {A : Nat → Nat → Nat → Nat} {S F E : C3} {h : Hp} {z : Zs} {x : Cxt} {M : MI} {pc kc ks : Nat} {lv : List (Nat × Value)} {st : List Value}
theorem i_addO9 {c0 p0 s0 q : Nat} (hz : Pl A S F E h z) (hq : ¬ m_K h q < 28) (hc : c0 < 15) (hv : vdb 2 c0 p0 s0 = true) (hS : ¬ S c0 p0 s0) (h0 : Zq z c0 p0 s0) (k : ∀ A1 h1, Ax A A1 S → Pl A1 (Sa S c0 p0 s0) F E h1 z → wp x M pc lv (.ref (A1 c0 p0 s0) :: st) h1 kc ks) : wp x M pc lv (.ref q :: st) (n_O h q c0) kc ks := by
  have h1 := k (upA A c0 p0 s0 q) _ (upA_x hS) (hz.addO hq hc hv hS (h0.1 hc))
  rw [upA_s] at h1
  exact h1
theorem i_addA9 {f0 p0 s0 q kd n : Nat} (hz : Pl A S F E h z) (hq : ¬ m_K h q < 28) (ha0 : arr f0 = some (kd, n)) (hf0 : f0 < 1024) (hv : vdb 2 (f0 / 64) p0 s0 = true) (hS : ¬ S (1024 + f0) p0 s0) (h0 : Zq z (1024 + f0) p0 s0) (k : ∀ A1 h1, Ax A A1 S → Pl A1 (Sa S (1024 + f0) p0 s0) F E h1 z → wp x M pc lv (.ref (A1 (1024 + f0) p0 s0) :: st) h1 kc ks) : wp x M pc lv (.ref q :: st) (n_A h q kd n) kc ks := by
  have h1 := k (upA A (1024 + f0) p0 s0 q) _ (upA_x hS) (hz.addA hq ha0 hf0 hv hS (h0.2 (by omega)))
  rw [upA_s] at h1
  exact h1
end K47
def GPrn (p : Nat) : C3 := fun c p9 s9 => (c = 1793 ∧ p9 = p ∧ s9 = 0) ∨ (c = 1794 ∧ p9 = p ∧ s9 = 0) ∨ (c = 1795 ∧ p9 = p ∧ s9 = 0) ∨ (c = 1796 ∧ p9 = p ∧ s9 = 0) ∨ (c = 1797 ∧ p9 = p ∧ s9 = 0) ∨ (c = 1798 ∧ p9 = p ∧ s9 = 0) ∨ (c = 1799 ∧ p9 = p ∧ s9 = 0) ∨ (c = 1800 ∧ p9 = p ∧ s9 = 0) ∨ (c = 1801 ∧ p9 = p ∧ s9 = 0) ∨ (c = 1802 ∧ p9 = p ∧ s9 = 0) ∨ (c = 1803 ∧ p9 = p ∧ s9 = 0) ∨ (c = 1804 ∧ p9 = p ∧ s9 = 0) ∨ (c = 1806 ∧ p9 = p ∧ s9 = 0) ∨ (c = 1807 ∧ p9 = p ∧ s9 = 0) ∨ (c = 1808 ∧ p9 = p ∧ s9 = 0) ∨ (c = 1810 ∧ p9 = p ∧ s9 = 0) ∨ (c = 1811 ∧ p9 = p ∧ s9 = 0)
def FGPrn (p : Nat) : C3 := fun c p9 s9 => (c = 769 ∧ p9 = p ∧ s9 = 0) ∨ (c = 770 ∧ p9 = p ∧ s9 = 0) ∨ (c = 771 ∧ p9 = p ∧ s9 = 0) ∨ (c = 772 ∧ p9 = p ∧ s9 = 0) ∨ (c = 773 ∧ p9 = p ∧ s9 = 0) ∨ (c = 774 ∧ p9 = p ∧ s9 = 0) ∨ (c = 775 ∧ p9 = p ∧ s9 = 0) ∨ (c = 776 ∧ p9 = p ∧ s9 = 0) ∨ (c = 777 ∧ p9 = p ∧ s9 = 0) ∨ (c = 778 ∧ p9 = p ∧ s9 = 0) ∨ (c = 779 ∧ p9 = p ∧ s9 = 0) ∨ (c = 780 ∧ p9 = p ∧ s9 = 0) ∨ (c = 782 ∧ p9 = p ∧ s9 = 0) ∨ (c = 783 ∧ p9 = p ∧ s9 = 0) ∨ (c = 784 ∧ p9 = p ∧ s9 = 0) ∨ (c = 786 ∧ p9 = p ∧ s9 = 0) ∨ (c = 787 ∧ p9 = p ∧ s9 = 0)
set_option maxRecDepth 20000 in
set_option maxHeartbeats 4000000 in
theorem s_X12_new {A : Nat → Nat → Nat → Nat} {S F E : C3} {h : Hp} {z : Zs} {p : Nat} (hS : S 12 p 0) (hv : vdb 2 12 p 0 = true) (hN : ∀ c p9 s9, (1792 ≤ c ∧ c < 1856 ∧ p9 = p ∧ s9 = 0) → ¬ S c p9 s9) (hZ : ∀ c p9 s9, (1792 ≤ c ∧ c < 1856 ∧ p9 = p ∧ s9 = 0) → Zq z c p9 s9) (hz : Pl A S F E h z) : ∀ l : Launch, Sp l mX12_init 1 17 6348 [.ref (A 12 p 0)] h (fun r h1 => r = none ∧ ∃ A1, Ax A A1 S ∧ Pl A1 (Su S (GPrn p)) (Su F (FGPrn p)) E h1 z) X0 := by
  intro l
  refine Sp.of rfl rfl (lv := [(0, .ref (A 12 p 0))]) (Nat.le_of_ble_eq_true rfl) rfl (fun x hf hrm => ?_)
  have hX : Ax A A S := fun _ _ _ _ => rfl
  refine w_aload_n 0 dX12_init_0 rfl rfl rfl ?_
  refine w_objInit hrm (by decide) dX12_init_1 rfl ml_X12_3 im_objectInit co_objectInit (Nat.le_of_ble_eq_true rfl) ?_
  refine w_aload_n 0 dX12_init_4 rfl rfl rfl ?_
  refine w_bipush 12 dX12_init_5 rfl rfl ?_
  refine w_newJ (n := 12) hrm dX12_init_7 rfl a_long (by decide) rfl (by decide) (Nat.le_of_ble_eq_true rfl) (Nat.le_of_ble_eq_true rfl) (fun q hq => ?_)
  refine i_addA9 hz hq (f0 := 769) (p0 := p) (s0 := 0) rfl (by decide) hv ?_ (hZ _ _ _ (by omega)) (fun A2 h hA1 hz => ?_)
  · intro q
    exact hN _ _ _ (by omega) q
  have hX := hX.trans hA1 (fun _ _ _ q => q)
  rw [← hA1 12 p 0 hS]
  refine p_X12_9 dX12_init_9 rfl (hz.kO (Or.inl hS) (by decide)) rfl ?_
  refine i_fg (hz.setR (f := 769) (by decide) (Or.inl hS) (Or.inr ⟨rfl, rfl, rfl⟩) (rt_a (f := 769) rfl rfl rfl)) (fun h hz => ?_)
  refine w_aload_n 0 dX12_init_12 rfl rfl rfl ?_
  refine w_bipush 12 dX12_init_13 rfl rfl ?_
  refine w_newI (n := 12) hrm dX12_init_15 rfl a_int (by decide) rfl (by decide) (Nat.le_of_ble_eq_true rfl) (Nat.le_of_ble_eq_true rfl) (fun q hq => ?_)
  refine i_addA9 hz hq (f0 := 770) (p0 := p) (s0 := 0) rfl (by decide) hv ?_ (hZ _ _ _ (by omega)) (fun A5 h hA4 hz => ?_)
  · intro q
    rcases q with q | q
    rotate_left
    · omega
    exact hN _ _ _ (by omega) q
  have hX := hX.trans hA4 (fun _ _ _ q => Or.inl (q))
  rw [← hA4 12 p 0 (Or.inl hS)]
  refine p_X12_15 dX12_init_17 rfl (hz.kO (Or.inl (Or.inl hS)) (by decide)) rfl ?_
  refine i_fg (hz.setR (f := 770) (by decide) (Or.inl (Or.inl hS)) (Or.inr ⟨rfl, rfl, rfl⟩) (rt_a (f := 770) rfl rfl rfl)) (fun h hz => ?_)
  refine w_aload_n 0 dX12_init_20 rfl rfl rfl ?_
  refine w_bipush 12 dX12_init_21 rfl rfl ?_
  refine w_newI (n := 12) hrm dX12_init_23 rfl a_int (by decide) rfl (by decide) (Nat.le_of_ble_eq_true rfl) (Nat.le_of_ble_eq_true rfl) (fun q hq => ?_)
  refine i_addA9 hz hq (f0 := 771) (p0 := p) (s0 := 0) rfl (by decide) hv ?_ (hZ _ _ _ (by omega)) (fun A8 h hA7 hz => ?_)
  · intro q
    rcases q with q | q
    rotate_left
    · omega
    rcases q with q | q
    rotate_left
    · omega
    exact hN _ _ _ (by omega) q
  have hX := hX.trans hA7 (fun _ _ _ q => Or.inl (Or.inl (q)))
  rw [← hA7 12 p 0 (Or.inl (Or.inl hS))]
  refine p_X12_19 dX12_init_25 rfl (hz.kO (Or.inl (Or.inl (Or.inl hS))) (by decide)) rfl ?_
  refine i_fg (hz.setR (f := 771) (by decide) (Or.inl (Or.inl (Or.inl hS))) (Or.inr ⟨rfl, rfl, rfl⟩) (rt_a (f := 771) rfl rfl rfl)) (fun h hz => ?_)
  refine w_aload_n 0 dX12_init_28 rfl rfl rfl ?_
  refine w_bipush 72 dX12_init_29 rfl rfl ?_
  refine w_newJ (n := 72) hrm dX12_init_31 rfl a_long (by decide) rfl (by decide) (Nat.le_of_ble_eq_true rfl) (Nat.le_of_ble_eq_true rfl) (fun q hq => ?_)
  refine i_addA9 hz hq (f0 := 772) (p0 := p) (s0 := 0) rfl (by decide) hv ?_ (hZ _ _ _ (by omega)) (fun A11 h hA10 hz => ?_)
  · intro q
    rcases q with q | q
    rotate_left
    · omega
    rcases q with q | q
    rotate_left
    · omega
    rcases q with q | q
    rotate_left
    · omega
    exact hN _ _ _ (by omega) q
  have hX := hX.trans hA10 (fun _ _ _ q => Or.inl (Or.inl (Or.inl (q))))
  rw [← hA10 12 p 0 (Or.inl (Or.inl (Or.inl hS)))]
  refine p_X12_22 dX12_init_33 rfl (hz.kO (Or.inl (Or.inl (Or.inl (Or.inl hS)))) (by decide)) rfl ?_
  refine i_fg (hz.setR (f := 772) (by decide) (Or.inl (Or.inl (Or.inl (Or.inl hS)))) (Or.inr ⟨rfl, rfl, rfl⟩) (rt_a (f := 772) rfl rfl rfl)) (fun h hz => ?_)
  refine w_aload_n 0 dX12_init_36 rfl rfl rfl ?_
  refine w_bipush 12 dX12_init_37 rfl rfl ?_
  refine w_newI (n := 12) hrm dX12_init_39 rfl a_int (by decide) rfl (by decide) (Nat.le_of_ble_eq_true rfl) (Nat.le_of_ble_eq_true rfl) (fun q hq => ?_)
  refine i_addA9 hz hq (f0 := 773) (p0 := p) (s0 := 0) rfl (by decide) hv ?_ (hZ _ _ _ (by omega)) (fun A14 h hA13 hz => ?_)
  · intro q
    rcases q with q | q
    rotate_left
    · omega
    rcases q with q | q
    rotate_left
    · omega
    rcases q with q | q
    rotate_left
    · omega
    rcases q with q | q
    rotate_left
    · omega
    exact hN _ _ _ (by omega) q
  have hX := hX.trans hA13 (fun _ _ _ q => Or.inl (Or.inl (Or.inl (Or.inl (q)))))
  rw [← hA13 12 p 0 (Or.inl (Or.inl (Or.inl (Or.inl hS))))]
  refine p_X12_25 dX12_init_41 rfl (hz.kO (Or.inl (Or.inl (Or.inl (Or.inl (Or.inl hS))))) (by decide)) rfl ?_
  refine i_fg (hz.setR (f := 773) (by decide) (Or.inl (Or.inl (Or.inl (Or.inl (Or.inl hS))))) (Or.inr ⟨rfl, rfl, rfl⟩) (rt_a (f := 773) rfl rfl rfl)) (fun h hz => ?_)
  refine w_aload_n 0 dX12_init_44 rfl rfl rfl ?_
  refine w_bipush 12 dX12_init_45 rfl rfl ?_
  refine w_newI (n := 12) hrm dX12_init_47 rfl a_int (by decide) rfl (by decide) (Nat.le_of_ble_eq_true rfl) (Nat.le_of_ble_eq_true rfl) (fun q hq => ?_)
  refine i_addA9 hz hq (f0 := 774) (p0 := p) (s0 := 0) rfl (by decide) hv ?_ (hZ _ _ _ (by omega)) (fun A17 h hA16 hz => ?_)
  · intro q
    rcases q with q | q
    rotate_left
    · omega
    rcases q with q | q
    rotate_left
    · omega
    rcases q with q | q
    rotate_left
    · omega
    rcases q with q | q
    rotate_left
    · omega
    rcases q with q | q
    rotate_left
    · omega
    exact hN _ _ _ (by omega) q
  have hX := hX.trans hA16 (fun _ _ _ q => Or.inl (Or.inl (Or.inl (Or.inl (Or.inl (q))))))
  rw [← hA16 12 p 0 (Or.inl (Or.inl (Or.inl (Or.inl (Or.inl hS)))))]
  refine p_X12_28 dX12_init_49 rfl (hz.kO (Or.inl (Or.inl (Or.inl (Or.inl (Or.inl (Or.inl hS)))))) (by decide)) rfl ?_
  refine i_fg (hz.setR (f := 774) (by decide) (Or.inl (Or.inl (Or.inl (Or.inl (Or.inl (Or.inl hS)))))) (Or.inr ⟨rfl, rfl, rfl⟩) (rt_a (f := 774) rfl rfl rfl)) (fun h hz => ?_)
  refine w_aload_n 0 dX12_init_52 rfl rfl rfl ?_
  refine w_bipush 12 dX12_init_53 rfl rfl ?_
  refine w_newI (n := 12) hrm dX12_init_55 rfl a_int (by decide) rfl (by decide) (Nat.le_of_ble_eq_true rfl) (Nat.le_of_ble_eq_true rfl) (fun q hq => ?_)
  refine i_addA9 hz hq (f0 := 775) (p0 := p) (s0 := 0) rfl (by decide) hv ?_ (hZ _ _ _ (by omega)) (fun A20 h hA19 hz => ?_)
  · intro q
    rcases q with q | q
    rotate_left
    · omega
    rcases q with q | q
    rotate_left
    · omega
    rcases q with q | q
    rotate_left
    · omega
    rcases q with q | q
    rotate_left
    · omega
    rcases q with q | q
    rotate_left
    · omega
    rcases q with q | q
    rotate_left
    · omega
    exact hN _ _ _ (by omega) q
  have hX := hX.trans hA19 (fun _ _ _ q => Or.inl (Or.inl (Or.inl (Or.inl (Or.inl (Or.inl (q)))))))
  rw [← hA19 12 p 0 (Or.inl (Or.inl (Or.inl (Or.inl (Or.inl (Or.inl hS))))))]
  refine p_X12_31 dX12_init_57 rfl (hz.kO (Or.inl (Or.inl (Or.inl (Or.inl (Or.inl (Or.inl (Or.inl hS))))))) (by decide)) rfl ?_
  refine i_fg (hz.setR (f := 775) (by decide) (Or.inl (Or.inl (Or.inl (Or.inl (Or.inl (Or.inl (Or.inl hS))))))) (Or.inr ⟨rfl, rfl, rfl⟩) (rt_a (f := 775) rfl rfl rfl)) (fun h hz => ?_)
  refine w_aload_n 0 dX12_init_60 rfl rfl rfl ?_
  refine w_bipush 12 dX12_init_61 rfl rfl ?_
  refine w_newI (n := 12) hrm dX12_init_63 rfl a_int (by decide) rfl (by decide) (Nat.le_of_ble_eq_true rfl) (Nat.le_of_ble_eq_true rfl) (fun q hq => ?_)
  refine i_addA9 hz hq (f0 := 776) (p0 := p) (s0 := 0) rfl (by decide) hv ?_ (hZ _ _ _ (by omega)) (fun A23 h hA22 hz => ?_)
  · intro q
    rcases q with q | q
    rotate_left
    · omega
    rcases q with q | q
    rotate_left
    · omega
    rcases q with q | q
    rotate_left
    · omega
    rcases q with q | q
    rotate_left
    · omega
    rcases q with q | q
    rotate_left
    · omega
    rcases q with q | q
    rotate_left
    · omega
    rcases q with q | q
    rotate_left
    · omega
    exact hN _ _ _ (by omega) q
  have hX := hX.trans hA22 (fun _ _ _ q => Or.inl (Or.inl (Or.inl (Or.inl (Or.inl (Or.inl (Or.inl (q))))))))
  rw [← hA22 12 p 0 (Or.inl (Or.inl (Or.inl (Or.inl (Or.inl (Or.inl (Or.inl hS)))))))]
  refine p_X12_34 dX12_init_65 rfl (hz.kO (Or.inl (Or.inl (Or.inl (Or.inl (Or.inl (Or.inl (Or.inl (Or.inl hS)))))))) (by decide)) rfl ?_
  refine i_fg (hz.setR (f := 776) (by decide) (Or.inl (Or.inl (Or.inl (Or.inl (Or.inl (Or.inl (Or.inl (Or.inl hS)))))))) (Or.inr ⟨rfl, rfl, rfl⟩) (rt_a (f := 776) rfl rfl rfl)) (fun h hz => ?_)
  refine w_aload_n 0 dX12_init_68 rfl rfl rfl ?_
  refine w_bipush 12 dX12_init_69 rfl rfl ?_
  refine w_newI (n := 12) hrm dX12_init_71 rfl a_int (by decide) rfl (by decide) (Nat.le_of_ble_eq_true rfl) (Nat.le_of_ble_eq_true rfl) (fun q hq => ?_)
  refine i_addA9 hz hq (f0 := 777) (p0 := p) (s0 := 0) rfl (by decide) hv ?_ (hZ _ _ _ (by omega)) (fun A26 h hA25 hz => ?_)
  · intro q
    rcases q with q | q
    rotate_left
    · omega
    rcases q with q | q
    rotate_left
    · omega
    rcases q with q | q
    rotate_left
    · omega
    rcases q with q | q
    rotate_left
    · omega
    rcases q with q | q
    rotate_left
    · omega
    rcases q with q | q
    rotate_left
    · omega
    rcases q with q | q
    rotate_left
    · omega
    rcases q with q | q
    rotate_left
    · omega
    exact hN _ _ _ (by omega) q
  have hX := hX.trans hA25 (fun _ _ _ q => Or.inl (Or.inl (Or.inl (Or.inl (Or.inl (Or.inl (Or.inl (Or.inl (q)))))))))
  rw [← hA25 12 p 0 (Or.inl (Or.inl (Or.inl (Or.inl (Or.inl (Or.inl (Or.inl (Or.inl hS))))))))]
  refine p_X12_37 dX12_init_73 rfl (hz.kO (Or.inl (Or.inl (Or.inl (Or.inl (Or.inl (Or.inl (Or.inl (Or.inl (Or.inl hS))))))))) (by decide)) rfl ?_
  refine i_fg (hz.setR (f := 777) (by decide) (Or.inl (Or.inl (Or.inl (Or.inl (Or.inl (Or.inl (Or.inl (Or.inl (Or.inl hS))))))))) (Or.inr ⟨rfl, rfl, rfl⟩) (rt_a (f := 777) rfl rfl rfl)) (fun h hz => ?_)
  refine w_aload_n 0 dX12_init_76 rfl rfl rfl ?_
  refine w_bipush 12 dX12_init_77 rfl rfl ?_
  refine w_newI (n := 12) hrm dX12_init_79 rfl a_int (by decide) rfl (by decide) (Nat.le_of_ble_eq_true rfl) (Nat.le_of_ble_eq_true rfl) (fun q hq => ?_)
  refine i_addA9 hz hq (f0 := 778) (p0 := p) (s0 := 0) rfl (by decide) hv ?_ (hZ _ _ _ (by omega)) (fun A29 h hA28 hz => ?_)
  · intro q
    rcases q with q | q
    rotate_left
    · omega
    rcases q with q | q
    rotate_left
    · omega
    rcases q with q | q
    rotate_left
    · omega
    rcases q with q | q
    rotate_left
    · omega
    rcases q with q | q
    rotate_left
    · omega
    rcases q with q | q
    rotate_left
    · omega
    rcases q with q | q
    rotate_left
    · omega
    rcases q with q | q
    rotate_left
    · omega
    rcases q with q | q
    rotate_left
    · omega
    exact hN _ _ _ (by omega) q
  have hX := hX.trans hA28 (fun _ _ _ q => Or.inl (Or.inl (Or.inl (Or.inl (Or.inl (Or.inl (Or.inl (Or.inl (Or.inl (q))))))))))
  rw [← hA28 12 p 0 (Or.inl (Or.inl (Or.inl (Or.inl (Or.inl (Or.inl (Or.inl (Or.inl (Or.inl hS)))))))))]
  refine p_X12_40 dX12_init_81 rfl (hz.kO (Or.inl (Or.inl (Or.inl (Or.inl (Or.inl (Or.inl (Or.inl (Or.inl (Or.inl (Or.inl hS)))))))))) (by decide)) rfl ?_
  refine i_fg (hz.setR (f := 778) (by decide) (Or.inl (Or.inl (Or.inl (Or.inl (Or.inl (Or.inl (Or.inl (Or.inl (Or.inl (Or.inl hS)))))))))) (Or.inr ⟨rfl, rfl, rfl⟩) (rt_a (f := 778) rfl rfl rfl)) (fun h hz => ?_)
  refine w_aload_n 0 dX12_init_84 rfl rfl rfl ?_
  refine w_bipush 72 dX12_init_85 rfl rfl ?_
  refine w_newI (n := 72) hrm dX12_init_87 rfl a_int (by decide) rfl (by decide) (Nat.le_of_ble_eq_true rfl) (Nat.le_of_ble_eq_true rfl) (fun q hq => ?_)
  refine i_addA9 hz hq (f0 := 779) (p0 := p) (s0 := 0) rfl (by decide) hv ?_ (hZ _ _ _ (by omega)) (fun A32 h hA31 hz => ?_)
  · intro q
    rcases q with q | q
    rotate_left
    · omega
    rcases q with q | q
    rotate_left
    · omega
    rcases q with q | q
    rotate_left
    · omega
    rcases q with q | q
    rotate_left
    · omega
    rcases q with q | q
    rotate_left
    · omega
    rcases q with q | q
    rotate_left
    · omega
    rcases q with q | q
    rotate_left
    · omega
    rcases q with q | q
    rotate_left
    · omega
    rcases q with q | q
    rotate_left
    · omega
    rcases q with q | q
    rotate_left
    · omega
    exact hN _ _ _ (by omega) q
  have hX := hX.trans hA31 (fun _ _ _ q => Or.inl (Or.inl (Or.inl (Or.inl (Or.inl (Or.inl (Or.inl (Or.inl (Or.inl (Or.inl (q)))))))))))
  rw [← hA31 12 p 0 (Or.inl (Or.inl (Or.inl (Or.inl (Or.inl (Or.inl (Or.inl (Or.inl (Or.inl (Or.inl hS))))))))))]
  refine p_X12_43 dX12_init_89 rfl (hz.kO (Or.inl (Or.inl (Or.inl (Or.inl (Or.inl (Or.inl (Or.inl (Or.inl (Or.inl (Or.inl (Or.inl hS))))))))))) (by decide)) rfl ?_
  refine i_fg (hz.setR (f := 779) (by decide) (Or.inl (Or.inl (Or.inl (Or.inl (Or.inl (Or.inl (Or.inl (Or.inl (Or.inl (Or.inl (Or.inl hS))))))))))) (Or.inr ⟨rfl, rfl, rfl⟩) (rt_a (f := 779) rfl rfl rfl)) (fun h hz => ?_)
  refine w_aload_n 0 dX12_init_92 rfl rfl rfl ?_
  refine w_bipush 72 dX12_init_93 rfl rfl ?_
  refine w_newI (n := 72) hrm dX12_init_95 rfl a_int (by decide) rfl (by decide) (Nat.le_of_ble_eq_true rfl) (Nat.le_of_ble_eq_true rfl) (fun q hq => ?_)
  refine i_addA9 hz hq (f0 := 780) (p0 := p) (s0 := 0) rfl (by decide) hv ?_ (hZ _ _ _ (by omega)) (fun A35 h hA34 hz => ?_)
  · intro q
    rcases q with q | q
    rotate_left
    · omega
    rcases q with q | q
    rotate_left
    · omega
    rcases q with q | q
    rotate_left
    · omega
    rcases q with q | q
    rotate_left
    · omega
    rcases q with q | q
    rotate_left
    · omega
    rcases q with q | q
    rotate_left
    · omega
    rcases q with q | q
    rotate_left
    · omega
    rcases q with q | q
    rotate_left
    · omega
    rcases q with q | q
    rotate_left
    · omega
    rcases q with q | q
    rotate_left
    · omega
    rcases q with q | q
    rotate_left
    · omega
    exact hN _ _ _ (by omega) q
  have hX := hX.trans hA34 (fun _ _ _ q => Or.inl (Or.inl (Or.inl (Or.inl (Or.inl (Or.inl (Or.inl (Or.inl (Or.inl (Or.inl (Or.inl (q))))))))))))
  rw [← hA34 12 p 0 (Or.inl (Or.inl (Or.inl (Or.inl (Or.inl (Or.inl (Or.inl (Or.inl (Or.inl (Or.inl (Or.inl hS)))))))))))]
  refine p_X12_46 dX12_init_97 rfl (hz.kO (Or.inl (Or.inl (Or.inl (Or.inl (Or.inl (Or.inl (Or.inl (Or.inl (Or.inl (Or.inl (Or.inl (Or.inl hS)))))))))))) (by decide)) rfl ?_
  refine i_fg (hz.setR (f := 780) (by decide) (Or.inl (Or.inl (Or.inl (Or.inl (Or.inl (Or.inl (Or.inl (Or.inl (Or.inl (Or.inl (Or.inl (Or.inl hS)))))))))))) (Or.inr ⟨rfl, rfl, rfl⟩) (rt_a (f := 780) rfl rfl rfl)) (fun h hz => ?_)
  refine w_aload_n 0 dX12_init_100 rfl rfl rfl ?_
  refine w_bipush 8 dX12_init_101 rfl rfl ?_
  refine w_newI (n := 8) hrm dX12_init_103 rfl a_int (by decide) rfl (by decide) (Nat.le_of_ble_eq_true rfl) (Nat.le_of_ble_eq_true rfl) (fun q hq => ?_)
  refine i_addA9 hz hq (f0 := 782) (p0 := p) (s0 := 0) rfl (by decide) hv ?_ (hZ _ _ _ (by omega)) (fun A38 h hA37 hz => ?_)
  · intro q
    rcases q with q | q
    rotate_left
    · omega
    rcases q with q | q
    rotate_left
    · omega
    rcases q with q | q
    rotate_left
    · omega
    rcases q with q | q
    rotate_left
    · omega
    rcases q with q | q
    rotate_left
    · omega
    rcases q with q | q
    rotate_left
    · omega
    rcases q with q | q
    rotate_left
    · omega
    rcases q with q | q
    rotate_left
    · omega
    rcases q with q | q
    rotate_left
    · omega
    rcases q with q | q
    rotate_left
    · omega
    rcases q with q | q
    rotate_left
    · omega
    rcases q with q | q
    rotate_left
    · omega
    exact hN _ _ _ (by omega) q
  have hX := hX.trans hA37 (fun _ _ _ q => Or.inl (Or.inl (Or.inl (Or.inl (Or.inl (Or.inl (Or.inl (Or.inl (Or.inl (Or.inl (Or.inl (Or.inl (q)))))))))))))
  rw [← hA37 12 p 0 (Or.inl (Or.inl (Or.inl (Or.inl (Or.inl (Or.inl (Or.inl (Or.inl (Or.inl (Or.inl (Or.inl (Or.inl hS))))))))))))]
  refine p_X12_49 dX12_init_105 rfl (hz.kO (Or.inl (Or.inl (Or.inl (Or.inl (Or.inl (Or.inl (Or.inl (Or.inl (Or.inl (Or.inl (Or.inl (Or.inl (Or.inl hS))))))))))))) (by decide)) rfl ?_
  refine i_fg (hz.setR (f := 782) (by decide) (Or.inl (Or.inl (Or.inl (Or.inl (Or.inl (Or.inl (Or.inl (Or.inl (Or.inl (Or.inl (Or.inl (Or.inl (Or.inl hS))))))))))))) (Or.inr ⟨rfl, rfl, rfl⟩) (rt_a (f := 782) rfl rfl rfl)) (fun h hz => ?_)
  refine w_aload_n 0 dX12_init_108 rfl rfl rfl ?_
  refine w_bipush 8 dX12_init_109 rfl rfl ?_
  refine w_newI (n := 8) hrm dX12_init_111 rfl a_int (by decide) rfl (by decide) (Nat.le_of_ble_eq_true rfl) (Nat.le_of_ble_eq_true rfl) (fun q hq => ?_)
  refine i_addA9 hz hq (f0 := 783) (p0 := p) (s0 := 0) rfl (by decide) hv ?_ (hZ _ _ _ (by omega)) (fun A41 h hA40 hz => ?_)
  · intro q
    rcases q with q | q
    rotate_left
    · omega
    rcases q with q | q
    rotate_left
    · omega
    rcases q with q | q
    rotate_left
    · omega
    rcases q with q | q
    rotate_left
    · omega
    rcases q with q | q
    rotate_left
    · omega
    rcases q with q | q
    rotate_left
    · omega
    rcases q with q | q
    rotate_left
    · omega
    rcases q with q | q
    rotate_left
    · omega
    rcases q with q | q
    rotate_left
    · omega
    rcases q with q | q
    rotate_left
    · omega
    rcases q with q | q
    rotate_left
    · omega
    rcases q with q | q
    rotate_left
    · omega
    rcases q with q | q
    rotate_left
    · omega
    exact hN _ _ _ (by omega) q
  have hX := hX.trans hA40 (fun _ _ _ q => Or.inl (Or.inl (Or.inl (Or.inl (Or.inl (Or.inl (Or.inl (Or.inl (Or.inl (Or.inl (Or.inl (Or.inl (Or.inl (q))))))))))))))
  rw [← hA40 12 p 0 (Or.inl (Or.inl (Or.inl (Or.inl (Or.inl (Or.inl (Or.inl (Or.inl (Or.inl (Or.inl (Or.inl (Or.inl (Or.inl hS)))))))))))))]
  refine p_X12_52 dX12_init_113 rfl (hz.kO (Or.inl (Or.inl (Or.inl (Or.inl (Or.inl (Or.inl (Or.inl (Or.inl (Or.inl (Or.inl (Or.inl (Or.inl (Or.inl (Or.inl hS)))))))))))))) (by decide)) rfl ?_
  refine i_fg (hz.setR (f := 783) (by decide) (Or.inl (Or.inl (Or.inl (Or.inl (Or.inl (Or.inl (Or.inl (Or.inl (Or.inl (Or.inl (Or.inl (Or.inl (Or.inl (Or.inl hS)))))))))))))) (Or.inr ⟨rfl, rfl, rfl⟩) (rt_a (f := 783) rfl rfl rfl)) (fun h hz => ?_)
  refine w_aload_n 0 dX12_init_116 rfl rfl rfl ?_
  refine w_bipush 8 dX12_init_117 rfl rfl ?_
  refine w_newI (n := 8) hrm dX12_init_119 rfl a_int (by decide) rfl (by decide) (Nat.le_of_ble_eq_true rfl) (Nat.le_of_ble_eq_true rfl) (fun q hq => ?_)
  refine i_addA9 hz hq (f0 := 784) (p0 := p) (s0 := 0) rfl (by decide) hv ?_ (hZ _ _ _ (by omega)) (fun A44 h hA43 hz => ?_)
  · intro q
    rcases q with q | q
    rotate_left
    · omega
    rcases q with q | q
    rotate_left
    · omega
    rcases q with q | q
    rotate_left
    · omega
    rcases q with q | q
    rotate_left
    · omega
    rcases q with q | q
    rotate_left
    · omega
    rcases q with q | q
    rotate_left
    · omega
    rcases q with q | q
    rotate_left
    · omega
    rcases q with q | q
    rotate_left
    · omega
    rcases q with q | q
    rotate_left
    · omega
    rcases q with q | q
    rotate_left
    · omega
    rcases q with q | q
    rotate_left
    · omega
    rcases q with q | q
    rotate_left
    · omega
    rcases q with q | q
    rotate_left
    · omega
    rcases q with q | q
    rotate_left
    · omega
    exact hN _ _ _ (by omega) q
  have hX := hX.trans hA43 (fun _ _ _ q => Or.inl (Or.inl (Or.inl (Or.inl (Or.inl (Or.inl (Or.inl (Or.inl (Or.inl (Or.inl (Or.inl (Or.inl (Or.inl (Or.inl (q)))))))))))))))
  rw [← hA43 12 p 0 (Or.inl (Or.inl (Or.inl (Or.inl (Or.inl (Or.inl (Or.inl (Or.inl (Or.inl (Or.inl (Or.inl (Or.inl (Or.inl (Or.inl hS))))))))))))))]
  refine p_X12_55 dX12_init_121 rfl (hz.kO (Or.inl (Or.inl (Or.inl (Or.inl (Or.inl (Or.inl (Or.inl (Or.inl (Or.inl (Or.inl (Or.inl (Or.inl (Or.inl (Or.inl (Or.inl hS))))))))))))))) (by decide)) rfl ?_
  refine i_fg (hz.setR (f := 784) (by decide) (Or.inl (Or.inl (Or.inl (Or.inl (Or.inl (Or.inl (Or.inl (Or.inl (Or.inl (Or.inl (Or.inl (Or.inl (Or.inl (Or.inl (Or.inl hS))))))))))))))) (Or.inr ⟨rfl, rfl, rfl⟩) (rt_a (f := 784) rfl rfl rfl)) (fun h hz => ?_)
  refine w_aload_n 0 dX12_init_124 rfl rfl rfl ?_
  refine w_sipush 3000 dX12_init_125 rfl rfl ?_
  refine w_newI (n := 3000) hrm dX12_init_128 rfl a_int (by decide) rfl (by decide) (Nat.le_of_ble_eq_true rfl) (Nat.le_of_ble_eq_true rfl) (fun q hq => ?_)
  refine i_addA9 hz hq (f0 := 786) (p0 := p) (s0 := 0) rfl (by decide) hv ?_ (hZ _ _ _ (by omega)) (fun A47 h hA46 hz => ?_)
  · intro q
    rcases q with q | q
    rotate_left
    · omega
    rcases q with q | q
    rotate_left
    · omega
    rcases q with q | q
    rotate_left
    · omega
    rcases q with q | q
    rotate_left
    · omega
    rcases q with q | q
    rotate_left
    · omega
    rcases q with q | q
    rotate_left
    · omega
    rcases q with q | q
    rotate_left
    · omega
    rcases q with q | q
    rotate_left
    · omega
    rcases q with q | q
    rotate_left
    · omega
    rcases q with q | q
    rotate_left
    · omega
    rcases q with q | q
    rotate_left
    · omega
    rcases q with q | q
    rotate_left
    · omega
    rcases q with q | q
    rotate_left
    · omega
    rcases q with q | q
    rotate_left
    · omega
    rcases q with q | q
    rotate_left
    · omega
    exact hN _ _ _ (by omega) q
  have hX := hX.trans hA46 (fun _ _ _ q => Or.inl (Or.inl (Or.inl (Or.inl (Or.inl (Or.inl (Or.inl (Or.inl (Or.inl (Or.inl (Or.inl (Or.inl (Or.inl (Or.inl (Or.inl (q))))))))))))))))
  rw [← hA46 12 p 0 (Or.inl (Or.inl (Or.inl (Or.inl (Or.inl (Or.inl (Or.inl (Or.inl (Or.inl (Or.inl (Or.inl (Or.inl (Or.inl (Or.inl (Or.inl hS)))))))))))))))]
  refine p_X12_58 dX12_init_130 rfl (hz.kO (Or.inl (Or.inl (Or.inl (Or.inl (Or.inl (Or.inl (Or.inl (Or.inl (Or.inl (Or.inl (Or.inl (Or.inl (Or.inl (Or.inl (Or.inl (Or.inl hS)))))))))))))))) (by decide)) rfl ?_
  refine i_fg (hz.setR (f := 786) (by decide) (Or.inl (Or.inl (Or.inl (Or.inl (Or.inl (Or.inl (Or.inl (Or.inl (Or.inl (Or.inl (Or.inl (Or.inl (Or.inl (Or.inl (Or.inl (Or.inl hS)))))))))))))))) (Or.inr ⟨rfl, rfl, rfl⟩) (rt_a (f := 786) rfl rfl rfl)) (fun h hz => ?_)
  refine w_aload_n 0 dX12_init_133 rfl rfl rfl ?_
  refine w_sipush 3000 dX12_init_134 rfl rfl ?_
  refine w_newJ (n := 3000) hrm dX12_init_137 rfl a_long (by decide) rfl (by decide) (Nat.le_of_ble_eq_true rfl) (Nat.le_of_ble_eq_true rfl) (fun q hq => ?_)
  refine i_addA9 hz hq (f0 := 787) (p0 := p) (s0 := 0) rfl (by decide) hv ?_ (hZ _ _ _ (by omega)) (fun A50 h hA49 hz => ?_)
  · intro q
    rcases q with q | q
    rotate_left
    · omega
    rcases q with q | q
    rotate_left
    · omega
    rcases q with q | q
    rotate_left
    · omega
    rcases q with q | q
    rotate_left
    · omega
    rcases q with q | q
    rotate_left
    · omega
    rcases q with q | q
    rotate_left
    · omega
    rcases q with q | q
    rotate_left
    · omega
    rcases q with q | q
    rotate_left
    · omega
    rcases q with q | q
    rotate_left
    · omega
    rcases q with q | q
    rotate_left
    · omega
    rcases q with q | q
    rotate_left
    · omega
    rcases q with q | q
    rotate_left
    · omega
    rcases q with q | q
    rotate_left
    · omega
    rcases q with q | q
    rotate_left
    · omega
    rcases q with q | q
    rotate_left
    · omega
    rcases q with q | q
    rotate_left
    · omega
    exact hN _ _ _ (by omega) q
  have hX := hX.trans hA49 (fun _ _ _ q => Or.inl (Or.inl (Or.inl (Or.inl (Or.inl (Or.inl (Or.inl (Or.inl (Or.inl (Or.inl (Or.inl (Or.inl (Or.inl (Or.inl (Or.inl (Or.inl (q)))))))))))))))))
  rw [← hA49 12 p 0 (Or.inl (Or.inl (Or.inl (Or.inl (Or.inl (Or.inl (Or.inl (Or.inl (Or.inl (Or.inl (Or.inl (Or.inl (Or.inl (Or.inl (Or.inl (Or.inl hS))))))))))))))))]
  refine p_X12_61 dX12_init_139 rfl (hz.kO (Or.inl (Or.inl (Or.inl (Or.inl (Or.inl (Or.inl (Or.inl (Or.inl (Or.inl (Or.inl (Or.inl (Or.inl (Or.inl (Or.inl (Or.inl (Or.inl (Or.inl hS))))))))))))))))) (by decide)) rfl ?_
  refine i_fg (hz.setR (f := 787) (by decide) (Or.inl (Or.inl (Or.inl (Or.inl (Or.inl (Or.inl (Or.inl (Or.inl (Or.inl (Or.inl (Or.inl (Or.inl (Or.inl (Or.inl (Or.inl (Or.inl (Or.inl hS))))))))))))))))) (Or.inr ⟨rfl, rfl, rfl⟩) (rt_a (f := 787) rfl rfl rfl)) (fun h hz => ?_)
  refine w_vret hf dX12_init_142 rfl (Nat.le_of_ble_eq_true rfl) (Nat.le_of_ble_eq_true rfl) ?_
  refine ⟨rfl, _, hX, hz.congr (fun c p9 s9 => ?_) (fun c p9 s9 q => ?_) (fun c p9 s9 q => ?_)⟩
  · simp only [Sa, Su, GPrn, or_assoc]
  · simpa only [Sa, Su, FGPrn, or_assoc] using q
  · exact q
theorem arr_12 {f : Nat} (h : (arr f).isSome = true) (h2 : f / 64 = 12) (p : Nat) : GPrn p (1024 + f) p 0 ∧ FGPrn p f p 0 := by
  obtain ⟨k, hk⟩ := Option.isSome_iff_exists.mp h
  unfold arr at hk
  unfold GPrn FGPrn
  split at hk <;> first | (exfalso; omega) | (exfalso; cases hk; done) | (constructor <;> simp)
theorem sd_12 {f p s : Nat} {t : Nat × Nat × Nat} (h : sro f p s = some t) : f / 64 ≠ 12 := by
  unfold sro at h
  split at h <;> first | decide | cases h
theorem dd_12 {f c : Nat} (h : dro f = some c) : f / 64 ≠ 12 := by
  unfold dro at h
  split at h <;> first | decide | cases h
/-- the program made, all stands again -/
theorem Pl.made {A2 : Nat → Nat → Nat → Nat} {h2 : Hp} {σ ρ : Zs} {N g : Nat} (hg2 : g < 2) (hcur : vdb N 12 (1 - g) 0 = true) (h8 : vdb N 12 (zR ρ 898 0 0 0).1 (zR ρ 898 0 0 0).2 = true) (hz : Pl A2 (Su (Sa (SdP N g) 12 g 0) (GPrn g)) (Sa (Su (FdP N g) (FGPrn g)) 909 0 0) (EdP N) h2 (sR (mz σ (zP ρ g)) 909 0 0 0 (g, 0))) : Rp (stp A2) h2 σ (sR (zP ρ g) 909 0 0 0 (g, 0)) := by
  rw [mz_rR (by decide)] at hz
  have hvc := hz.1.2.1
  have hz := hz.ext (A' := stp A2) (fun c p s q => by
    have h9 := hvc c p s q
    have : c ≠ 16 := fun e => by
      have := (h9.1 (by omega)).1
      omega
    exact if_neg this)
  have hN : ∀ {c p s : Nat}, vdb 2 c p s = true → ¬ (c = 12 ∧ p = g ∧ s = 0) → vdb N c p s = true := fun {c p s} q1 q2 => by
    by_cases e : c = 12
    · subst e
      have q3 : (p = 0 ∨ p = 1) ∧ s = 0 := by simp [vdb] at q1; omega
      obtain ⟨q3, rfl⟩ := q3
      have : p = 1 - g := by
        have : p ≠ g := fun e => q2 ⟨rfl, e, rfl⟩
        omega
      rw [this]
      exact hcur
    · exact vdb_n e q1
  refine hz.rp (fun c p s hc => ?_) (fun f p s hv2 hf hc => ?_) (fun f p i hv2 hc => ⟨?_, hc⟩) (fun f p s hd hv2 hm => ?_)
  · have hc : vc 2 c p s := hc
    by_cases q : (c = 12 ∨ (1792 ≤ c ∧ c < 1856)) ∧ p = g ∧ s = 0
    · obtain ⟨q, rfl, rfl⟩ := q
      rcases q with rfl | q
      · exact Or.inl (Or.inr ⟨rfl, rfl, rfl⟩)
      · have h9 := hc.2 (by omega)
        have := (arr_12 h9.2 (by omega) p).1
        rw [show 1024 + (c - 1024) = c by omega] at this
        exact Or.inr this
    · exact Or.inl (Or.inl ⟨⟨fun z => ⟨(hc.1 z).1, hN (hc.1 z).2 (fun e => q ⟨Or.inl e.1, e.2⟩)⟩, fun z => ⟨hN (hc.2 z).1 (fun e => q ⟨Or.inr (by omega), e.2⟩), (hc.2 z).2⟩⟩, q⟩)
  · have hv2 : vdb 2 (f / 64) p s = true := hv2
    by_cases q9 : f = 909
    · subst q9
      have hp : p = 0 ∧ s = 0 := by simp [vdb] at hv2; exact hv2
      obtain ⟨rfl, rfl⟩ := hp
      exact Or.inr ⟨rfl, rfl, rfl⟩
    · have hc2 : (arr f).isSome = true ∨ (sro f p s).isSome = true ∨ (dro f).isSome = true := by
        rcases hc with q | q | q
        · exact Or.inl q
        · exact Or.inr (Or.inl q)
        · exact Or.inr (Or.inr q.1)
      by_cases q : f / 64 = 12 ∧ p = g ∧ s = 0
      · obtain ⟨q, rfl, rfl⟩ := q
        rcases hc2 with h9 | h9 | h9
        · exact Or.inl (Or.inr (arr_12 h9 q p).2)
        · obtain ⟨t, ht⟩ := Option.isSome_iff_exists.mp h9
          exact absurd q (sd_12 ht)
        · obtain ⟨t, ht⟩ := Option.isSome_iff_exists.mp h9
          exact absurd q (dd_12 ht)
      · exact Or.inl (Or.inl ⟨hN hv2 q, hf, hc2, q9, q⟩)
  · have hv2 : vdb 2 (f / 64) p 0 = true := hv2
    refine vdb_n (fun e => ?_) hv2
    rcases hc with ⟨k, n, t, ha, hi, hs⟩ | ⟨rfl, -, -⟩
    · unfold sre at hs
      split at hs <;> first | omega | cases hs
    · omega
  · have hv2 : vdb 2 (f / 64) p s = true := hv2
    show vdb 2 12 _ _ = true
    rcases dro_c hd with rfl | rfl | q
    · have hp : p = 0 ∧ s = 0 := by simp [vdb] at hv2; exact hv2
      obtain ⟨rfl, rfl⟩ := hp
      exact vdb_2 h8
    · have hp : p = 0 ∧ s = 0 := by simp [vdb] at hv2; exact hv2
      obtain ⟨rfl, rfl⟩ := hp
      have : g = 0 ∨ g = 1 := by omega
      rcases this with rfl | rfl <;> rfl
    · omega
noncomputable def fX14_compile_b (ρ : Zs) : Option ((Int32 × Nat) × Zs) := match fX14_readAll ρ with
  | none => none
  | some (.error w, ρ5) => some ((w.1, cR ρ), sI (sI ρ5 915 0 0 0 w.2) 900 0 0 0 0)
  | some (.ok _, ρ5) => match fX14_readAll (sI ρ5 906 0 0 0 1) with
    | none => none
    | some (.error w, ρ6) => some ((w.1, cR ρ + cR (sI ρ5 906 0 0 0 1)), sI (sI ρ6 915 0 0 0 w.2) 900 0 0 0 0)
    | some (.ok _, ρ6) => match fX14_keepOld ρ6 with
      | none => none
      | some (_, ρ7) => if (zR ρ7 909 0 0 0).2 = 0 then (match fX14_empty (sI (sR ρ7 898 0 0 0 ((zR ρ7 909 0 0 0).1, 0)) 946 0 0 0 0) with
        | none => none
        | some (_, ρ8) => some ((0, cR ρ + cR (sI ρ5 906 0 0 0 1)), sI ρ8 900 0 0 0 0)) else none
def cmG (ρ : Zs) : Nat := 1 - (zR ρ 898 0 0 0).1
def cmZ (ρ : Zs) : Zs := sI (sI (sR (zP ρ (cmG ρ)) 909 0 0 0 (cmG ρ, 0)) 915 0 0 0 (-1)) 906 0 0 0 0
noncomputable def fX14_compile (ρ : Zs) : Option ((Int32 × Nat) × Zs) := match fX14_cutTokens (sI ρ 896 0 0 0 0) with
  | none => none
  | some (_, ρ1) => fX14_compile_b (cmZ ρ1)
def QC (A : Nat → Nat → Nat → Nat) (v : Int32) (σ ρ : Zs) : Option Value → Hp → Prop := fun r h => r = some (.int v) ∧ ∃ A', AxC A A' ∧ Rp A' h σ ρ
section K48
variable {A0 A : Nat → Nat → Nat → Nat} {h : Hp} {σ ρ ρ' : Zs} {x : Cxt} {kc ks dd Mc Ms mc ms : Nat} {v : Int32}
/-- the end -/
theorem x_cmp_t {lv : List (Nat × Value)} (hlv : lv_pick lv [0, lv.length - 1] = [(1, .int v), (0, .ref (A 14 0 0))]) (hA : AxC A0 A) (hz : Rp A h σ ρ) (hf : m_fin mc ms (QC A0 v σ (sI ρ 900 0 0 0 0)) X0 x) (h1 : kc ≤ mc) (h2 : ks ≤ ms) : wp x mX14_compile 83 lv [] h kc ks := by
  refine w_lv _ _ hlv ?_
  refine w_aload_n 1 dX14_compile_83 rfl rfl rfl ?_
  refine w_iconst 0 dX14_compile_84 rfl rfl ?_
  refine p_X14_152 dX14_compile_85 rfl (hz.o14 rfl) ?_
  have hz := hz.s900 (p := 0) (s := 0) (v := 0) rfl
  refine w_iload_n 0 dX14_compile_88 rfl rfl rfl ?_
  exact w_iret hf dX14_compile_89 rfl h1 h2 ⟨rfl, A, hA, hz⟩
/-- the catch -/
theorem x_cmp_e {w : Int32 × Int32} {E9 : String} {pc : Nat} (hp : 27 ≤ pc ∧ pc < 66) (hA : AxC A0 A) (hf : m_fin mc ms (QC A0 w.1 σ (sI (sI ρ 915 0 0 0 w.2) 900 0 0 0 0)) X0 x) (h1 : kc ≤ mc) (h2 : ks ≤ ms) (hq : XW A w σ ρ E9 h) : wx x mX14_compile pc [(1, .int 0), (0, .ref (A 14 0 0))] E9 h kc ks := by
  obtain ⟨rfl, q, hgh, hk, hi, hj, hz⟩ := hq
  refine w_catch hp (by decide) cl_X14_207 x_ca13 (fun q2 hq2 => ?_)
  cases Option.some.inj (hgh.symm.trans hq2)
  refine w_astore_n [(2, .ref q), (1, .int 0), (0, .ref (A 14 0 0))] dX14_compile_69 rfl rfl (by decide) rfl ?_
  refine w_aload_n 0 dX14_compile_70 rfl rfl rfl ?_
  refine g_X14_429 dX14_compile_71 rfl hk hi ?_
  refine w_istore_n [(1, .int w.1), (2, .ref q), (0, .ref (A 14 0 0))] dX14_compile_74 rfl rfl (by decide) rfl ?_
  refine w_aload_n 2 dX14_compile_75 rfl rfl rfl ?_
  refine w_aload_n 1 dX14_compile_76 rfl rfl rfl ?_
  refine g_X14_432 dX14_compile_77 rfl hk hj ?_
  refine p_X14_42 dX14_compile_80 rfl (hz.o14 rfl) ?_
  have hz := hz.s915 (p := 0) (s := 0) (v := w.2) rfl
  exact x_cmp_t rfl hA hz hf h1 h2
theorem x_cmp_b {n : Nat} (hrm : m_rm dd Mc Ms x) (hdd : 103 ≤ dd) (hA : AxC A0 A) (hz : Rp A h σ ρ) (hr : fX14_compile_b ρ = some ((v, n), ρ')) (hf : m_fin mc ms (QC A0 v σ ρ') X0 x) (h1 : kc + 3 * n ≤ mc) (h2 : ks + 22 * n ≤ ms) (h3 : mc ≤ Mc) (h4 : ms ≤ Ms) : wp x mX14_compile 32 [(1, .int 0), (0, .ref (A 14 0 0))] [] h kc ks := by
  unfold fX14_compile_b at hr
  rcases e1 : fX14_readAll ρ with _ | ⟨w | u, ρ5⟩
  · rw [e1] at hr; cases hr
  · rw [e1] at hr
    cases hr
    refine w_aload_n 1 dX14_compile_32 rfl rfl rfl ?_
    refine c_X14_417 (b := A 14 0 0) (As := []) (rest := []) (fun l => e_X14_readAll hz e1 l) hrm dX14_compile_33 rfl rfl (by omega) (by omega) (by omega) (hz.o14 rfl) rfl (Nat.le_of_ble_eq_true rfl) (fun vr h2 hq => hq.elim) (fun E9 h9 hq => ?_)
    exact x_cmp_e (by decide) hA hf (by omega) (by omega) hq
  · rw [e1] at hr
    have hr : (match fX14_readAll (sI ρ5 906 0 0 0 1) with
      | none => none
      | some (.error w, ρ6) => some ((w.1, cR ρ + cR (sI ρ5 906 0 0 0 1)), sI (sI ρ6 915 0 0 0 w.2) 900 0 0 0 0)
      | some (.ok _, ρ6) => match fX14_keepOld ρ6 with
        | none => none
        | some (_, ρ7) => if (zR ρ7 909 0 0 0).2 = 0 then (match fX14_empty (sI (sR ρ7 898 0 0 0 ((zR ρ7 909 0 0 0).1, 0)) 946 0 0 0 0) with
          | none => none
          | some (_, ρ8) => some ((0, cR ρ + cR (sI ρ5 906 0 0 0 1)), sI ρ8 900 0 0 0 0)) else none) = some ((v, n), ρ') := hr
    have hn : n = cR ρ + cR (sI ρ5 906 0 0 0 1) := by
      rcases e2 : fX14_readAll (sI ρ5 906 0 0 0 1) with _ | ⟨w | u2, ρ6⟩
      · rw [e2] at hr; cases hr
      · rw [e2] at hr; cases hr; rfl
      · rw [e2] at hr
        rcases e3 : fX14_keepOld ρ6 with _ | ⟨u3, ρ7⟩
        · simp only [e3] at hr; cases hr
        · simp only [e3] at hr
          split at hr
          · rcases e4 : fX14_empty (sI (sR ρ7 898 0 0 0 ((zR ρ7 909 0 0 0).1, 0)) 946 0 0 0 0) with _ | ⟨u4, ρ8⟩
            · simp only [e4] at hr; cases hr
            · simp only [e4] at hr; cases hr; rfl
          · cases hr
    subst hn
    refine w_aload_n 1 dX14_compile_32 rfl rfl rfl ?_
    refine c_X14_417 (b := A 14 0 0) (As := []) (rest := []) (fun l => t_X14_readAll hz e1 l) hrm dX14_compile_33 rfl rfl (by omega) (by omega) (by omega) (hz.o14 rfl) rfl (Nat.le_of_ble_eq_true rfl) (fun vr hh2 hq => ?_) (fun E9 h9 hq => hq.elim)
    obtain ⟨rfl, hz⟩ := hq
    show wp _ _ 36 [(1, .int 0), (0, .ref (A 14 0 0))] [] _ _ _
    refine w_aload_n 1 dX14_compile_36 rfl rfl rfl ?_
    refine w_iconst 1 dX14_compile_37 rfl rfl ?_
    refine p_X14_212 dX14_compile_38 rfl (hz.o14 rfl) (Or.inr rfl) ?_
    have hz := hz.s906 (p := 0) (s := 0) (v := 1) rfl
    refine w_aload_n 1 dX14_compile_41 rfl rfl rfl ?_
    rcases e2 : fX14_readAll (sI ρ5 906 0 0 0 1) with _ | ⟨w | u2, ρ6⟩
    · rw [e2] at hr; cases hr
    · rw [e2] at hr
      cases hr
      refine c_X14_417 (b := A 14 0 0) (As := []) (rest := []) (fun l => e_X14_readAll hz e2 l) hrm dX14_compile_42 rfl rfl (by omega) (by omega) (by omega) (hz.o14 rfl) rfl (Nat.le_of_ble_eq_true rfl) (fun vr h2 hq => hq.elim) (fun E9 h9 hq => ?_)
      exact x_cmp_e (by decide) hA hf (by omega) (by omega) hq
    · rw [e2] at hr
      refine c_X14_417 (b := A 14 0 0) (As := []) (rest := []) (fun l => t_X14_readAll hz e2 l) hrm dX14_compile_42 rfl rfl (by omega) (by omega) (by omega) (hz.o14 rfl) rfl (Nat.le_of_ble_eq_true rfl) (fun vr hh2 hq => ?_) (fun E9 h9 hq => hq.elim)
      obtain ⟨rfl, hz⟩ := hq
      show wp _ _ 45 [(1, .int 0), (0, .ref (A 14 0 0))] [] _ _ _
      rcases e3 : fX14_keepOld ρ6 with _ | ⟨u3, ρ7⟩
      · simp only [e3] at hr; cases hr
      · simp only [e3] at hr
        refine w_aload_n 1 dX14_compile_45 rfl rfl rfl ?_
        refine c_X14_420 (b := A 14 0 0) (As := []) (rest := []) (fun l => s_X14_keepOld hz e3 l) hrm dX14_compile_46 rfl rfl (by omega) (by omega) (by omega) (hz.o14 rfl) rfl (Nat.le_of_ble_eq_true rfl) (fun vr hh2 hq => ?_) (fun E9 h9 hq => hq.elim)
        obtain ⟨rfl, hz⟩ := hq
        show wp _ _ 49 [(1, .int 0), (0, .ref (A 14 0 0))] [] _ _ _
        split at hr
        · rename_i hm
          rcases e4 : fX14_empty (sI (sR ρ7 898 0 0 0 ((zR ρ7 909 0 0 0).1, 0)) 946 0 0 0 0) with _ | ⟨u4, ρ8⟩
          · simp only [e4] at hr; cases hr
          · simp only [e4] at hr
            cases hr
            have hv9 := hz.ww909 (p := 0) (s := 0) rfl hm
            refine w_aload_n 1 dX14_compile_49 rfl rfl rfl ?_
            refine w_aload_n 1 dX14_compile_50 rfl rfl rfl ?_
            refine g_X14_232 dX14_compile_51 rfl (hz.o14 rfl) (hz.rr909 rfl hm) ?_
            refine p_X14_16 dX14_compile_54 rfl (hz.o14 rfl) ?_
            have hz := hz.s898 (p := 0) (s := 0) rfl hv9
            refine w_aload_n 1 dX14_compile_57 rfl rfl rfl ?_
            refine w_iconst 0 dX14_compile_58 rfl rfl ?_
            refine p_X14_423 dX14_compile_59 rfl (hz.o14 rfl) ?_
            have hz := hz.s946 (p := 0) (s := 0) (v := 0) rfl
            refine w_aload_n 1 dX14_compile_62 rfl rfl rfl ?_
            refine c_X14_426 (b := A 14 0 0) (As := []) (rest := []) (fun l => s_X14_empty hz e4 l) hrm dX14_compile_63 rfl rfl (by omega) (by omega) (by omega) (hz.o14 rfl) rfl (Nat.le_of_ble_eq_true rfl) (fun vr hh2 hq => ?_) (fun E9 h9 hq => hq.elim)
            obtain ⟨rfl, hz⟩ := hq
            show wp _ _ 66 [(1, .int 0), (0, .ref (A 14 0 0))] [] _ _ _
            refine w_goto 83 dX14_compile_66 rfl ?_
            exact x_cmp_t rfl hA hz hf (by omega) (by omega)
        · cases hr
theorem s_X14_compile {n : Nat} (hz : Rp A h σ ρ) (hr : fX14_compile ρ = some ((v, n), ρ')) : ∀ l : Launch, Sp l mX14_compile 103 (18 + 3 * n) (6368 + 22 * n) [.ref (A 14 0 0)] h (QC A v σ ρ') X0 := by
  intro l
  refine Sp.ofH (by decide) rfl rfl (lv := [(0, .ref (A 14 0 0))]) (Nat.le_of_ble_eq_true rfl) rfl (fun x hf hrm => ?_)
  unfold fX14_compile at hr
  rcases e1 : fX14_cutTokens (sI ρ 896 0 0 0 0) with _ | ⟨u1, ρ1⟩
  · rw [e1] at hr; cases hr
  rw [e1] at hr
  have hr : fX14_compile_b (cmZ ρ1) = some ((v, n), ρ') := hr
  refine w_aload_n 0 dX14_compile_0 rfl rfl rfl ?_
  refine w_iconst 0 dX14_compile_1 rfl rfl ?_
  refine p_X14_149 dX14_compile_2 rfl (hz.o14 rfl) ?_
  have hz := hz.s896 (p := 0) (s := 0) (v := 0) rfl
  refine w_aload_n 0 dX14_compile_5 rfl rfl rfl ?_
  refine c_X14_414 (b := A 14 0 0) (As := []) (rest := []) (fun l => s_X14_cutTokens hz e1 l) hrm dX14_compile_6 rfl rfl (by omega) (by omega) (by omega) (hz.o14 rfl) rfl (Nat.le_of_ble_eq_true rfl) (fun vr hh2 hq => ?_) (fun E9 h9 hq => hq.elim)
  obtain ⟨rfl, hz⟩ := hq
  show wp _ _ 9 [(0, .ref (A 14 0 0))] [] _ _ _
  have hw8 := hz.ww898 (p := 0) (s := 0) rfl
  have hlt : (zR ρ1 898 0 0 0).1 < 2 := by simp [vdb] at hw8; omega
  have hg : (zR ρ1 898 0 0 0).1 ≠ cmG ρ1 := by unfold cmG; omega
  have hg2 : cmG ρ1 < 2 := by unfold cmG; omega
  have hgv : vdb 2 12 (cmG ρ1) 0 = true := by simp [vdb]; omega
  have hcur : vdb (A 16 0 0) 12 (1 - cmG ρ1) 0 = true := by
    rw [show 1 - cmG ρ1 = (zR ρ1 898 0 0 0).1 by unfold cmG; omega]
    exact hw8
  have h8 := hz.w898 (p := 0) (s := 0) rfl
  have hp := hz.drop hg
  refine w_aload_n 0 dX14_compile_9 rfl rfl rfl ?_
  refine nw_X14_13 hrm dX14_compile_10 rfl (by omega) (by omega) (fun q hq => ?_)
  have hS14 : SdP (A 16 0 0) (cmG ρ1) 14 0 0 := ⟨vc_o (by decide) rfl, fun q => by omega⟩
  refine i_addO9 hp hq (c0 := 12) (p0 := cmG ρ1) (s0 := 0) (by decide) hgv (fun q => q.2 ⟨Or.inl rfl, rfl, rfl⟩) (zP_zq ⟨Or.inl rfl, rfl, rfl⟩) (fun A1 h1 hA1 hp => ?_)
  refine w_dup dX14_compile_13 rfl rfl ?_
  refine c_X14_15 (b := A1 12 (cmG ρ1) 0) (As := []) (rest := [.ref (A1 12 (cmG ρ1) 0), .ref (A 14 0 0)]) (fun l => s_X12_new (Or.inr ⟨rfl, rfl, rfl⟩) hgv (fun c p9 s9 hc q => by
    rcases q with q | q
    · exact q.2 ⟨Or.inr ⟨hc.1, hc.2.1⟩, hc.2.2.1, hc.2.2.2⟩
    · omega) (fun c p9 s9 hc => zP_zq ⟨Or.inr ⟨hc.1, hc.2.1⟩, hc.2.2.1, hc.2.2.2⟩) hp l) hrm dX14_compile_14 rfl rfl (by omega) (by omega) (by omega) rfl (Nat.le_of_ble_eq_true rfl) (fun vr hh3 hq => ?_) (fun E9 h9 hq => hq.elim)
  obtain ⟨rfl, A2, hA2, hp⟩ := hq
  show wp _ _ 17 [(0, .ref (A 14 0 0))] [.ref (A1 12 (cmG ρ1) 0), .ref (A 14 0 0)] _ _ _
  have e14 : A2 14 0 0 = A 14 0 0 := (hA2 _ _ _ (Or.inl hS14)).trans (hA1 _ _ _ hS14)
  have e12 : A2 12 (cmG ρ1) 0 = A1 12 (cmG ρ1) 0 := hA2 _ _ _ (Or.inr ⟨rfl, rfl, rfl⟩)
  rw [← e14, ← e12]
  refine p_X14_232 dX14_compile_17 rfl (hp.kO (Or.inl (Or.inl hS14)) (by decide)) ?_
  have hp := hp.putR (f := 909) (p := 0) (s := 0) (p' := cmG ρ1) (s' := 0) (by decide) (Or.inl (Or.inl hS14)) (Or.inl (Or.inr ⟨rfl, rfl, rfl⟩)) rfl rfl (fun _ _ => rfl)
  have hz := Pl.made hg2 hcur h8 hp
  have hA : AxC A (stp A2) := fun c p s hv hn => by
    have h16 : c ≠ 16 := fun e => by
      have := (hv.1 (by omega)).1
      omega
    have hv9 : vc (A 16 0 0) c p s := ⟨fun q => ⟨(hv.1 q).1, vdb_n (fun e => hn (Or.inl e)) (hv.1 q).2⟩, fun q => ⟨vdb_n (fun e => hn (Or.inr (by omega))) (hv.2 q).1, (hv.2 q).2⟩⟩
    exact (if_neg h16).trans ((hA2 _ _ _ (Or.inl ⟨hv9, fun q => hn q.1⟩)).trans (hA1 _ _ _ ⟨hv9, fun q => hn q.1⟩))
  refine w_aload_n 0 dX14_compile_20 rfl rfl rfl ?_
  refine w_iconst (-1) dX14_compile_21 rfl rfl ?_
  refine p_X14_42 dX14_compile_22 rfl (hz.o14 rfl) ?_
  have hz := hz.s915 (p := 0) (s := 0) (v := -1) rfl
  refine w_iconst 0 dX14_compile_25 rfl rfl ?_
  refine w_istore_n [(1, .int 0), (0, .ref (A2 14 0 0))] dX14_compile_26 rfl rfl (by decide) rfl ?_
  refine w_aload_n 1 dX14_compile_27 rfl rfl rfl ?_
  refine w_iconst 0 dX14_compile_28 rfl rfl ?_
  refine p_X14_212 dX14_compile_29 rfl (hz.o14 rfl) (Or.inl rfl) ?_
  have hz := hz.s906 (p := 0) (s := 0) (v := 0) rfl
  exact x_cmp_b (A := stp A2) hrm (Nat.le_refl _) hA hz hr hf (by omega) (by omega) (Nat.le_refl _) (Nat.le_refl _)
end K48
