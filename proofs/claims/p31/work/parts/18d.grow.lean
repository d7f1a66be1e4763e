/-! A LAYOUT THAT GROWS: which codes stand (S), which links (F), which elements (E) -/
theorem vdb_n {N M : Nat} {c p s : Nat} (h : c ≠ 12) (hv : vdb N c p s = true) : vdb M c p s = true := by
  have e : vdb N c p s = vdb M c p s := by
    unfold vdb
    split <;> first | rfl | exact absurd rfl h
  rw [← e]
  exact hv
def RT (z : Zs) (f p s c' p' s' : Nat) : Prop := (∀ k n, arr f = some (k, n) → c' = 1024 + f ∧ p' = p ∧ s' = s) ∧ (∀ t, sro f p s = some t → t = (c', p', s')) ∧ (∀ c, dro f = some c → c' = c ∧ zR z f p s 0 = (p', s'))
def ET (z : Zs) (f p i c' p' s' : Nat) : Prop := (∀ t, sre f p i = some t → t = (c', p', s')) ∧ (f = 65 → c' = 6 ∧ zR z 1089 0 0 i = (p', s'))
abbrev C3 : Type := Nat → Nat → Nat → Prop
def P1 (A : Nat → Nat → Nat → Nat) (S : C3) (h : Hp) (z : Zs) : Prop :=
  (∀ c p s c' p' s', S c p s → S c' p' s' → A c p s = A c' p' s' → c = c' ∧ p = p' ∧ s = s') ∧
  (∀ c p s, S c p s → vc 2 c p s) ∧
  (∀ c p s, S c p s → c < 15 → m_K h (A c p s) = c) ∧
  (∀ f p s k n, S (1024 + f) p s → arr f = some (k, n) → m_K h (A (1024 + f) p s) = k ∧ m_N h (A (1024 + f) p s) = n) ∧
  (∀ f p s, f < 960 → S (f / 64) p s → m_I h f (A (f / 64) p s) = zI z f p s 0 ∧ m_J h f (A (f / 64) p s) = zJ z f p s 0) ∧
  (∀ f p s i, S (1024 + f) p s → m_X h (A (1024 + f) p s) i = zI z (1024 + f) p s i ∧ m_Y h (A (1024 + f) p s) i = zJ z (1024 + f) p s i)
def P2 (A : Nat → Nat → Nat → Nat) (S F : C3) (h : Hp) (z : Zs) : Prop := ∀ f p s, F f p s → S (f / 64) p s ∧ f < 960 ∧ ∃ c' p' s', S c' p' s' ∧ m_R h f (A (f / 64) p s) = some (A c' p' s') ∧ RT z f p s c' p' s'
def P3 (A : Nat → Nat → Nat → Nat) (S E : C3) (h : Hp) (z : Zs) : Prop := ∀ f p i, E f p i → S (1024 + f) p 0 ∧ ∃ c' p' s', S c' p' s' ∧ m_Z h (A (1024 + f) p 0) i = some (A c' p' s') ∧ ET z f p i c' p' s'
def Pl (A : Nat → Nat → Nat → Nat) (S F E : C3) (h : Hp) (z : Zs) : Prop := P1 A S h z ∧ P2 A S F h z ∧ P3 A S E h z
def Ax (A A' : Nat → Nat → Nat → Nat) (S : C3) : Prop := ∀ c p s, S c p s → A' c p s = A c p s
def Sa (S : C3) (c0 p0 s0 : Nat) : C3 := fun c p s => S c p s ∨ (c = c0 ∧ p = p0 ∧ s = s0)
def upA (A : Nat → Nat → Nat → Nat) (c0 p0 s0 q : Nat) : Nat → Nat → Nat → Nat := fun c p s => if c = c0 ∧ p = p0 ∧ s = s0 then q else A c p s
theorem upA_s {A : Nat → Nat → Nat → Nat} {c0 p0 s0 q : Nat} : upA A c0 p0 s0 q c0 p0 s0 = q := if_pos ⟨rfl, rfl, rfl⟩
theorem upA_x {A : Nat → Nat → Nat → Nat} {S : C3} {c0 p0 s0 q : Nat} (hS : ¬ S c0 p0 s0) : Ax A (upA A c0 p0 s0 q) S := fun c p s h => if_neg (fun e => hS (by rw [← e.1, ← e.2.1, ← e.2.2]; exact h))
section PLS
variable {A A' : Nat → Nat → Nat → Nat} {S F E : C3} {h h' : Hp} {z : Zs}
theorem Pl.ext (hz : Pl A S F E h z) (hA : Ax A A' S) : Pl A' S F E h z := by
  obtain ⟨⟨a1, a2, a3, a4, a5, a6⟩, b, c⟩ := hz
  refine ⟨⟨fun c p s c' p' s' h1 h2 e => a1 c p s c' p' s' h1 h2 (by rw [← hA _ _ _ h1, ← hA _ _ _ h2]; exact e), a2, fun c p s h1 hc => by rw [hA _ _ _ h1]; exact a3 c p s h1 hc, fun f p s k n h1 ha => by rw [hA _ _ _ h1]; exact a4 f p s k n h1 ha, fun f p s hf h1 => by rw [hA _ _ _ h1]; exact a5 f p s hf h1, fun f p s i h1 => by rw [hA _ _ _ h1]; exact a6 f p s i h1⟩, fun f p s hf => ?_, fun f p i he => ?_⟩
  · obtain ⟨h1, h2, c', p', s', h3, h4, h5⟩ := b f p s hf
    exact ⟨h1, h2, c', p', s', h3, by rw [hA _ _ _ h1, hA _ _ _ h3]; exact h4, h5⟩
  · obtain ⟨h1, c', p', s', h3, h4, h5⟩ := c f p i he
    exact ⟨h1, c', p', s', h3, by rw [hA _ _ _ h1, hA _ _ _ h3]; exact h4, h5⟩
theorem Pl.far (hz : Pl A S F E h z) (hF : ∀ c p s, S c p s → m_K h' (A c p s) = m_K h (A c p s) ∧ m_N h' (A c p s) = m_N h (A c p s) ∧ (∀ f, m_I h' f (A c p s) = m_I h f (A c p s)) ∧ (∀ f, m_J h' f (A c p s) = m_J h f (A c p s)) ∧ (∀ f, m_R h' f (A c p s) = m_R h f (A c p s)) ∧ (∀ i, m_X h' (A c p s) i = m_X h (A c p s) i) ∧ (∀ i, m_Y h' (A c p s) i = m_Y h (A c p s) i) ∧ (∀ i, m_Z h' (A c p s) i = m_Z h (A c p s) i)) : Pl A S F E h' z := by
  obtain ⟨⟨a1, a2, a3, a4, a5, a6⟩, b, c⟩ := hz
  refine ⟨⟨a1, a2, fun c p s h1 hc => by rw [(hF _ _ _ h1).1]; exact a3 c p s h1 hc, fun f p s k n h1 ha => by rw [(hF _ _ _ h1).1, (hF _ _ _ h1).2.1]; exact a4 f p s k n h1 ha, fun f p s hf h1 => by rw [(hF _ _ _ h1).2.2.1, (hF _ _ _ h1).2.2.2.1]; exact a5 f p s hf h1, fun f p s i h1 => by rw [(hF _ _ _ h1).2.2.2.2.2.1, (hF _ _ _ h1).2.2.2.2.2.2.1]; exact a6 f p s i h1⟩, fun f p s hf => ?_, fun f p i he => ?_⟩
  · obtain ⟨h1, h2, c', p', s', h3, h4, h5⟩ := b f p s hf
    exact ⟨h1, h2, c', p', s', h3, by rw [(hF _ _ _ h1).2.2.2.2.1]; exact h4, h5⟩
  · obtain ⟨h1, c', p', s', h3, h4, h5⟩ := c f p i he
    exact ⟨h1, c', p', s', h3, by rw [(hF _ _ _ h1).2.2.2.2.2.2.2]; exact h4, h5⟩
theorem Pl.old (hz : Pl A S F E h z) {c p s : Nat} (hS : S c p s) : m_K h (A c p s) < 28 := by
  obtain ⟨⟨a1, a2, a3, a4, a5, a6⟩, b, d⟩ := hz
  have hv := a2 c p s hS
  rcases Nat.lt_or_ge c 1024 with q | q
  · have := (hv.1 q).1
    rw [a3 c p s hS this]
    omega
  · obtain ⟨f, rfl⟩ := Nat.exists_eq_add_of_le q
    obtain ⟨h1, h2⟩ := hv.2 q
    rw [Nat.add_sub_cancel_left] at h2
    obtain ⟨⟨k, n⟩, ha⟩ := Option.isSome_iff_exists.mp h2
    rw [(a4 f p s k n hS ha).1]
    exact arr_k ha
theorem Pl.ne (hz : Pl A S F E h z) {c p s q : Nat} (hS : S c p s) (hq : ¬ m_K h q < 28) : A c p s ≠ q := fun e => hq (e ▸ hz.old hS)
theorem Pl.addO {c0 p0 s0 q : Nat} (hz : Pl A S F E h z) (hq : ¬ m_K h q < 28) (hc : c0 < 15) (hv : vdb 2 c0 p0 s0 = true) (hS : ¬ S c0 p0 s0) (h0 : ∀ f, f / 64 = c0 → zI z f p0 s0 0 = 0 ∧ zJ z f p0 s0 0 = 0) : Pl (upA A c0 p0 s0 q) (Sa S c0 p0 s0) F E (n_O h q c0) z := by
  have hz1 : Pl (upA A c0 p0 s0 q) S F E (n_O h q c0) z := by
    refine (hz.ext (upA_x hS)).far (fun c p s h1 => ?_)
    have hn : upA A c0 p0 s0 q c p s ≠ q := by rw [upA_x hS _ _ _ h1]; exact hz.ne h1 hq
    exact ⟨va_up_ne _ _ hn, rfl, fun f => if_neg hn, fun f => if_neg hn, fun f => if_neg hn, fun _ => rfl, fun _ => rfl, fun _ => rfl⟩
  have hne : ∀ c p s, S c p s → upA A c0 p0 s0 q c p s ≠ q := fun c p s h1 => by rw [upA_x hS _ _ _ h1]; exact hz.ne h1 hq
  obtain ⟨⟨a1, a2, a3, a4, a5, a6⟩, b, d⟩ := hz1
  refine ⟨⟨fun c p s c' p' s' h1 h2 e => ?_, fun c p s h1 => ?_, fun c p s h1 hc1 => ?_, fun f p s k n h1 ha => ?_, fun f p s hf h1 => ?_, fun f p s i h1 => ?_⟩, fun f p s hf => ?_, fun f p i he => ?_⟩
  · rcases h1 with h1 | ⟨rfl, rfl, rfl⟩ <;> rcases h2 with h2 | ⟨rfl, rfl, rfl⟩
    · exact a1 _ _ _ _ _ _ h1 h2 e
    · rw [upA_s] at e; exact absurd e (hne _ _ _ h1)
    · rw [upA_s] at e; exact absurd e.symm (hne _ _ _ h2)
    · exact ⟨rfl, rfl, rfl⟩
  · rcases h1 with h1 | ⟨rfl, rfl, rfl⟩
    · exact a2 _ _ _ h1
    · exact vc_o hc hv
  · rcases h1 with h1 | ⟨rfl, rfl, rfl⟩
    · exact a3 _ _ _ h1 hc1
    · rw [upA_s]; exact va_up_self _ _ _
  · rcases h1 with h1 | ⟨e, -, -⟩
    · exact a4 _ _ _ _ _ h1 ha
    · omega
  · rcases h1 with h1 | ⟨e, rfl, rfl⟩
    · exact a5 _ _ _ hf h1
    · rw [e, upA_s, (h0 f e).1, (h0 f e).2]
      exact ⟨if_pos rfl, if_pos rfl⟩
  · rcases h1 with h1 | ⟨e, -, -⟩
    · exact a6 _ _ _ _ h1
    · omega
  · obtain ⟨h1, h2, c', p', s', h3, h4, h5⟩ := b f p s hf
    exact ⟨Or.inl h1, h2, c', p', s', Or.inl h3, h4, h5⟩
  · obtain ⟨h1, c', p', s', h3, h4, h5⟩ := d f p i he
    exact ⟨Or.inl h1, c', p', s', Or.inl h3, h4, h5⟩
theorem Pl.addA {f0 p0 s0 q k n : Nat} (hz : Pl A S F E h z) (hq : ¬ m_K h q < 28) (ha0 : arr f0 = some (k, n)) (hf0 : f0 < 1024) (hv : vdb 2 (f0 / 64) p0 s0 = true) (hS : ¬ S (1024 + f0) p0 s0) (h0 : ∀ i, zI z (1024 + f0) p0 s0 i = 0 ∧ zJ z (1024 + f0) p0 s0 i = 0) : Pl (upA A (1024 + f0) p0 s0 q) (Sa S (1024 + f0) p0 s0) F E (n_A h q k n) z := by
  have hz1 : Pl (upA A (1024 + f0) p0 s0 q) S F E (n_A h q k n) z := by
    refine (hz.ext (upA_x hS)).far (fun c p s h1 => ?_)
    have hn : upA A (1024 + f0) p0 s0 q c p s ≠ q := by rw [upA_x hS _ _ _ h1]; exact hz.ne h1 hq
    exact ⟨va_up_ne _ _ hn, va_up_ne _ _ hn, fun _ => rfl, fun _ => rfl, fun _ => rfl, fun _ => if_neg hn, fun _ => if_neg hn, fun _ => if_neg hn⟩
  have hne : ∀ c p s, S c p s → upA A (1024 + f0) p0 s0 q c p s ≠ q := fun c p s h1 => by rw [upA_x hS _ _ _ h1]; exact hz.ne h1 hq
  obtain ⟨⟨a1, a2, a3, a4, a5, a6⟩, b, d⟩ := hz1
  refine ⟨⟨fun c p s c' p' s' h1 h2 e => ?_, fun c p s h1 => ?_, fun c p s h1 hc1 => ?_, fun f p s k' n' h1 ha => ?_, fun f p s hf h1 => ?_, fun f p s i h1 => ?_⟩, fun f p s hf => ?_, fun f p i he => ?_⟩
  · rcases h1 with h1 | ⟨rfl, rfl, rfl⟩ <;> rcases h2 with h2 | ⟨rfl, rfl, rfl⟩
    · exact a1 _ _ _ _ _ _ h1 h2 e
    · rw [upA_s] at e; exact absurd e (hne _ _ _ h1)
    · rw [upA_s] at e; exact absurd e.symm (hne _ _ _ h2)
    · exact ⟨rfl, rfl, rfl⟩
  · rcases h1 with h1 | ⟨rfl, rfl, rfl⟩
    · exact a2 _ _ _ h1
    · exact vc_a hf0 hv (by rw [ha0]; rfl)
  · rcases h1 with h1 | ⟨e, -, -⟩
    · exact a3 _ _ _ h1 hc1
    · omega
  · rcases h1 with h1 | ⟨e, rfl, rfl⟩
    · exact a4 _ _ _ _ _ h1 ha
    · obtain rfl : f = f0 := by omega
      rw [ha0] at ha
      cases ha
      rw [upA_s]
      exact ⟨va_up_self _ _ _, va_up_self _ _ _⟩
  · rcases h1 with h1 | ⟨e, rfl, rfl⟩
    · exact a5 _ _ _ hf h1
    · omega
  · rcases h1 with h1 | ⟨e, rfl, rfl⟩
    · exact a6 _ _ _ _ h1
    · obtain rfl : f = f0 := by omega
      rw [upA_s, (h0 i).1, (h0 i).2]
      exact ⟨if_pos rfl, if_pos rfl⟩
  · obtain ⟨h1, h2, c', p', s', h3, h4, h5⟩ := b f p s hf
    exact ⟨Or.inl h1, h2, c', p', s', Or.inl h3, h4, h5⟩
  · obtain ⟨h1, c', p', s', h3, h4, h5⟩ := d f p i he
    exact ⟨Or.inl h1, c', p', s', Or.inl h3, h4, h5⟩
theorem Pl.setR {f p s c' p' s' : Nat} (hz : Pl A S F E h z) (hf : f < 960) (hS : S (f / 64) p s) (hS' : S c' p' s') (hT : RT z f p s c' p' s') : Pl A S (Sa F f p s) E (p_R h f (A (f / 64) p s) (some (A c' p' s'))) z := by
  obtain ⟨⟨a1, a2, a3, a4, a5, a6⟩, b, d⟩ := hz
  refine ⟨⟨a1, a2, a3, a4, a5, a6⟩, fun f1 p1 s1 hf1 => ?_, d⟩
  by_cases e : f1 = f ∧ p1 = p ∧ s1 = s
  · obtain ⟨rfl, rfl, rfl⟩ := e
    exact ⟨hS, hf, c', p', s', hS', g_RRs, hT⟩
  · rcases hf1 with hf1 | hf1
    · obtain ⟨h1, h2, c1, p2, s2, h3, h4, h5⟩ := b f1 p1 s1 hf1
      refine ⟨h1, h2, c1, p2, s2, h3, ?_, h5⟩
      rw [g_RR, if_neg (fun q => e ?_)]
      · exact h4
      · obtain ⟨q1, q2⟩ := q
        subst q1
        obtain ⟨-, e1, e2⟩ := a1 _ _ _ _ _ _ h1 hS q2
        exact ⟨rfl, e1, e2⟩
    · exact absurd hf1 e
theorem Pl.putR {f p s c' p' s' : Nat} (hz : Pl A S F E h z) (hf : f < 960) (hS : S (f / 64) p s) (hS' : S c' p' s') (hd : dro f = some c') (ha : arr f = none) (hs : ∀ p s, sro f p s = none) : Pl A S (Sa F f p s) E (p_R h f (A (f / 64) p s) (some (A c' p' s'))) (sR z f p s 0 (p', s')) := by
  obtain ⟨⟨a1, a2, a3, a4, a5, a6⟩, b, d⟩ := hz
  refine ⟨⟨a1, a2, a3, a4, a5, a6⟩, fun f1 p1 s1 hf1 => ?_, fun f1 p1 i he => ?_⟩
  · by_cases e : f1 = f ∧ p1 = p ∧ s1 = s
    · obtain ⟨rfl, rfl, rfl⟩ := e
      refine ⟨hS, hf, c', p', s', hS', g_RRs, fun k n q => (by rw [ha] at q; cases q), fun t q => (by rw [hs] at q; cases q), fun c q => ?_⟩
      rw [hd] at q
      cases q
      rw [zR_sR, if_pos ⟨rfl, rfl, rfl, rfl⟩]
      exact ⟨rfl, rfl⟩
    · rcases hf1 with hf1 | hf1
      · obtain ⟨h1, h2, c1, p2, s2, h3, h4, h5, h6, h7⟩ := b f1 p1 s1 hf1
        refine ⟨h1, h2, c1, p2, s2, h3, ?_, h5, h6, fun c q => ?_⟩
        · rw [g_RR, if_neg (fun q => e ?_)]
          · exact h4
          · obtain ⟨q1, q2⟩ := q
            subst q1
            obtain ⟨-, e1, e2⟩ := a1 _ _ _ _ _ _ h1 hS q2
            exact ⟨rfl, e1, e2⟩
        · rw [zR_sR, if_neg (fun q => e ⟨q.1, q.2.1, q.2.2.1⟩)]
          exact h7 c q
      · exact absurd hf1 e
  · obtain ⟨h1, c1, p2, s2, h3, h4, h5, h6⟩ := d f1 p1 i he
    refine ⟨h1, c1, p2, s2, h3, h4, h5, fun q => ?_⟩
    rw [zR_sR, if_neg (fun q => by omega)]
    exact h6 q
theorem Pl.setZ {f p i c' p' s' : Nat} (hz : Pl A S F E h z) (hS : S (1024 + f) p 0) (hS' : S c' p' s') (hT : ET z f p i c' p' s') : Pl A S F (Sa E f p i) (p_Z h (A (1024 + f) p 0) i (some (A c' p' s'))) z := by
  obtain ⟨⟨a1, a2, a3, a4, a5, a6⟩, b, d⟩ := hz
  refine ⟨⟨a1, a2, a3, a4, a5, a6⟩, b, fun f1 p1 j he => ?_⟩
  by_cases e : f1 = f ∧ p1 = p ∧ j = i
  · obtain ⟨rfl, rfl, rfl⟩ := e
    exact ⟨hS, c', p', s', hS', g_ZZs, hT⟩
  · rcases he with he | he
    · obtain ⟨h1, c1, p2, s2, h3, h4, h5⟩ := d f1 p1 j he
      refine ⟨h1, c1, p2, s2, h3, ?_, h5⟩
      rw [g_ZZ, if_neg (fun q => e ?_)]
      · exact h4
      · obtain ⟨q1, q2⟩ := q
        obtain ⟨e0, e1, -⟩ := a1 _ _ _ _ _ _ h1 hS q1
        exact ⟨by omega, e1, q2⟩
    · exact absurd he e
theorem Pl.setI {f p s : Nat} {v : Int32} (hz : Pl A S F E h z) (hf : f < 960) (hS : S (f / 64) p s) : Pl A S F E (p_I h f (A (f / 64) p s) v) (sI z f p s 0 v) := by
  obtain ⟨⟨a1, a2, a3, a4, a5, a6⟩, b, d⟩ := hz
  refine ⟨⟨a1, a2, a3, a4, fun f1 p1 s1 hf1 h1 => ⟨?_, (a5 f1 p1 s1 hf1 h1).2⟩, fun f1 p1 s1 i h1 => ⟨?_, (a6 f1 p1 s1 i h1).2⟩⟩, b, d⟩
  · rw [g_II, zI_sI]
    by_cases e : f1 = f ∧ p1 = p ∧ s1 = s
    · obtain ⟨rfl, rfl, rfl⟩ := e
      rw [if_pos ⟨rfl, rfl⟩, if_pos ⟨rfl, rfl, rfl, rfl⟩]
    · rw [if_neg (fun q => e ?_), if_neg (fun q => e ⟨q.1, q.2.1, q.2.2.1⟩)]
      · exact (a5 f1 p1 s1 hf1 h1).1
      · obtain ⟨q1, q2⟩ := q
        subst q1
        obtain ⟨-, e1, e2⟩ := a1 _ _ _ _ _ _ h1 hS q2
        exact ⟨rfl, e1, e2⟩
  · rw [zI_sI, if_neg (fun q => by omega)]
    exact (a6 f1 p1 s1 i h1).1
theorem Pl.setX {f p s j : Nat} {v : Int32} (hz : Pl A S F E h z) (hS : S (1024 + f) p s) : Pl A S F E (p_X h (A (1024 + f) p s) j v) (sI z (1024 + f) p s j v) := by
  obtain ⟨⟨a1, a2, a3, a4, a5, a6⟩, b, d⟩ := hz
  refine ⟨⟨a1, a2, a3, a4, fun f1 p1 s1 hf1 h1 => ⟨?_, (a5 f1 p1 s1 hf1 h1).2⟩, fun f1 p1 s1 i h1 => ⟨?_, (a6 f1 p1 s1 i h1).2⟩⟩, b, d⟩
  · rw [zI_sI, if_neg (fun q => by omega)]
    exact (a5 f1 p1 s1 hf1 h1).1
  · rw [g_XX, zI_sI]
    by_cases e : f1 = f ∧ p1 = p ∧ s1 = s
    · obtain ⟨rfl, rfl, rfl⟩ := e
      by_cases e2 : i = j
      · rw [if_pos ⟨rfl, e2⟩, if_pos ⟨rfl, rfl, rfl, e2⟩]
      · rw [if_neg (fun q => e2 q.2), if_neg (fun q => e2 q.2.2.2)]
        exact (a6 f1 p1 s1 i h1).1
    · rw [if_neg (fun q => e ?_), if_neg (fun q => e ⟨by omega, q.2.1, q.2.2.1⟩)]
      · exact (a6 f1 p1 s1 i h1).1
      · obtain ⟨e0, e1, e2⟩ := a1 _ _ _ _ _ _ h1 hS q.1
        exact ⟨by omega, e1, e2⟩
theorem Pl.setY {f p s j : Nat} {v : Int64} (hz : Pl A S F E h z) (hS : S (1024 + f) p s) : Pl A S F E (p_Y h (A (1024 + f) p s) j v) (sJ z (1024 + f) p s j v) := by
  obtain ⟨⟨a1, a2, a3, a4, a5, a6⟩, b, d⟩ := hz
  refine ⟨⟨a1, a2, a3, a4, fun f1 p1 s1 hf1 h1 => ⟨(a5 f1 p1 s1 hf1 h1).1, ?_⟩, fun f1 p1 s1 i h1 => ⟨(a6 f1 p1 s1 i h1).1, ?_⟩⟩, b, d⟩
  · rw [zJ_sJ, if_neg (fun q => by omega)]
    exact (a5 f1 p1 s1 hf1 h1).2
  · rw [g_YY, zJ_sJ]
    by_cases e : f1 = f ∧ p1 = p ∧ s1 = s
    · obtain ⟨rfl, rfl, rfl⟩ := e
      by_cases e2 : i = j
      · rw [if_pos ⟨rfl, e2⟩, if_pos ⟨rfl, rfl, rfl, e2⟩]
      · rw [if_neg (fun q => e2 q.2), if_neg (fun q => e2 q.2.2.2)]
        exact (a6 f1 p1 s1 i h1).2
    · rw [if_neg (fun q => e ?_), if_neg (fun q => e ⟨by omega, q.2.1, q.2.2.1⟩)]
      · exact (a6 f1 p1 s1 i h1).2
      · obtain ⟨e0, e1, e2⟩ := a1 _ _ _ _ _ _ h1 hS q.1
        exact ⟨by omega, e1, e2⟩
theorem Pl.congr {S' F' E' : C3} (hz : Pl A S F E h z) (h1 : ∀ c p s, S c p s ↔ S' c p s) (h2 : ∀ f p s, F' f p s → F f p s) (h3 : ∀ f p s, E' f p s → E f p s) : Pl A S' F' E' h z := by
  have e : S = S' := by funext c p s; exact propext (h1 c p s)
  subst e
  exact ⟨hz.1, fun f p s q => hz.2.1 f p s (h2 f p s q), fun f p s q => hz.2.2 f p s (h3 f p s q)⟩
/-- all stands -/
theorem Pl.rp0 {σ ρ : Zs} (hz : Pl A S F E h (mz σ ρ)) (h1 : ∀ c p s, vc (A 16 0 0) c p s → S c p s) (h2 : ∀ f p s, vdb (A 16 0 0) (f / 64) p s = true → f < 960 → ((arr f).isSome = true ∨ (sro f p s).isSome = true ∨ ((dro f).isSome = true ∧ (f = 909 → (zR (mz σ ρ) 909 0 0 0).2 = 0))) → F f p s) (h3 : ∀ f p i, vdb (A 16 0 0) (f / 64) p 0 = true → ((∃ k n t, arr f = some (k, n) ∧ i < n ∧ sre f p i = some t) ∨ (f = 65 ∧ p = 0 ∧ i < 60)) → E f p i) (h4 : ∀ f p s, dro f = some 12 → vdb (A 16 0 0) (f / 64) p s = true → (f = 909 → (zR (mz σ ρ) 909 0 0 0).2 = 0) → vdb (A 16 0 0) 12 (zR (mz σ ρ) f p s 0).1 (zR (mz σ ρ) f p s 0).2 = true) : Rp0 A h σ ρ := by
  obtain ⟨⟨a1, a2, a3, a4, a5, a6⟩, b, d⟩ := hz
  refine ⟨⟨fun c p s c' p' s' q1 q2 e => a1 _ _ _ _ _ _ (h1 _ _ _ q1) (h1 _ _ _ q2) e, fun c p s hc hv => a3 c p s (h1 _ _ _ (vc_o hc hv)) hc, fun f p s k n ha hf hv => ⟨fun q => ?_, a4 f p s k n (h1 _ _ _ (vc_a hf hv (by rw [ha]; rfl))) ha⟩, fun f p s c' p' s' hs hv => ?_, fun f p i c' p' s' k n hs ha hi hv => ?_⟩, ⟨fun f p s hf hv => a5 f p s hf (h1 _ _ _ (vc_o (by omega) hv)), fun f p s i hf hv ha => a6 f p s i (h1 _ _ _ (vc_a hf hv ha))⟩, fun f p s c hd hv hm => ?_, fun i hi => ?_⟩
  · obtain ⟨-, -, c', p', s', -, q2, q3, -, -⟩ := b f p s (h2 f p s hv (by omega) (Or.inl (by rw [ha]; rfl)))
    obtain ⟨rfl, rfl, rfl⟩ := q3 k n ha
    exact q2
  · have hf : f < 960 := by
      have h9 := vdb_c hv
      rcases Nat.lt_or_ge f 960 with q | q
      · exact q
      · exfalso
        unfold sro at hs
        split at hs <;> first | omega | cases hs
    obtain ⟨-, -, c1, p1, s1, -, q2, -, q3, -⟩ := b f p s (h2 f p s hv hf (Or.inr (Or.inl (by rw [hs]; rfl))))
    have := q3 _ hs
    cases this
    exact q2
  · obtain ⟨-, c1, p1, s1, -, q2, q3, -⟩ := d f p i (h3 f p i hv (Or.inl ⟨k, n, _, ha, hi, hs⟩))
    have := q3 _ hs
    cases this
    exact q2
  · have hf : f < 960 := by
      have h9 := vdb_c hv
      rcases Nat.lt_or_ge f 960 with q | q
      · exact q
      · exfalso
        unfold dro at hd
        split at hd <;> first | omega | cases hd
    obtain ⟨-, -, c1, p1, s1, q0, q2, -, -, q3⟩ := b f p s (h2 f p s hv hf (Or.inr (Or.inr ⟨by rw [hd]; rfl, hm⟩)))
    obtain ⟨rfl, e⟩ := q3 c hd
    rw [e]
    refine ⟨?_, q2⟩
    have hv1 := a2 _ _ _ q0
    have hc : c1 < 1024 := by
      unfold dro at hd
      split at hd <;> cases hd <;> decide
    by_cases h12 : c1 = 12
    · have h9 := h4 f p s (by rw [hd, h12]) hv hm
      rw [e] at h9
      rw [h12]
      exact h9
    · exact vdb_n h12 (hv1.1 hc).2
  · obtain ⟨-, c1, p1, s1, q0, q2, -, q3⟩ := d 65 0 i (h3 65 0 i rfl (Or.inr ⟨rfl, rfl, hi⟩))
    obtain ⟨rfl, e⟩ := q3 rfl
    rw [e]
    exact ⟨vdb_n (by decide) ((a2 _ _ _ q0).1 (by decide)).2, q2⟩
theorem Pl.rp {σ ρ : Zs} (hz : Pl A S F E h (mz σ ρ)) (h1 : ∀ c p s, vc (A 16 0 0) c p s → S c p s) (h2 : ∀ f p s, vdb (A 16 0 0) (f / 64) p s = true → f < 960 → ((arr f).isSome = true ∨ (sro f p s).isSome = true ∨ ((dro f).isSome = true ∧ (f = 909 → (zR (mz σ ρ) 909 0 0 0).2 = 0))) → F f p s) (h3 : ∀ f p i, vdb (A 16 0 0) (f / 64) p 0 = true → ((∃ k n t, arr f = some (k, n) ∧ i < n ∧ sre f p i = some t) ∨ (f = 65 ∧ p = 0 ∧ i < 60)) → E f p i) (h4 : ∀ f p s, dro f = some 12 → vdb (A 16 0 0) (f / 64) p s = true → (f = 909 → (zR (mz σ ρ) 909 0 0 0).2 = 0) → vdb (A 16 0 0) 12 (zR (mz σ ρ) f p s 0).1 (zR (mz σ ρ) f p s 0).2 = true) : Rp A h σ (ecd h ρ) := (hz.rp0 h1 h2 h3 h4).ec
end PLS
