/-! THE CODES: what the cells hold, without addresses. A cell is named by its field's number (an element of a row by 1024 more), its object's pair, its place. -/
abbrev Zs : Type := (Nat → Nat → Nat → Nat → Int32) × (Nat → Nat → Nat → Nat → Int64) × (Nat → Nat → Nat → Nat → Nat × Nat)
def zI (z : Zs) (c p s i : Nat) : Int32 := z.1 c p s i
def zJ (z : Zs) (c p s i : Nat) : Int64 := z.2.1 c p s i
def zR (z : Zs) (c p s i : Nat) : Nat × Nat := z.2.2 c p s i
def sI (z : Zs) (c p s i : Nat) (v : Int32) : Zs := (fun c' p' s' i' => if c' = c ∧ p' = p ∧ s' = s ∧ i' = i then v else zI z c' p' s' i', zJ z, zR z)
def sJ (z : Zs) (c p s i : Nat) (v : Int64) : Zs := (zI z, fun c' p' s' i' => if c' = c ∧ p' = p ∧ s' = s ∧ i' = i then v else zJ z c' p' s' i', zR z)
def sR (z : Zs) (c p s i : Nat) (v : Nat × Nat) : Zs := (zI z, zJ z, fun c' p' s' i' => if c' = c ∧ p' = p ∧ s' = s ∧ i' = i then v else zR z c' p' s' i')
theorem zI_sI (z : Zs) (c p s i c' p' s' i' : Nat) (v : Int32) : zI (sI z c p s i v) c' p' s' i' = if c' = c ∧ p' = p ∧ s' = s ∧ i' = i then v else zI z c' p' s' i' := rfl
theorem zJ_sJ (z : Zs) (c p s i c' p' s' i' : Nat) (v : Int64) : zJ (sJ z c p s i v) c' p' s' i' = if c' = c ∧ p' = p ∧ s' = s ∧ i' = i then v else zJ z c' p' s' i' := rfl
theorem zR_sR (z : Zs) (c p s i c' p' s' i' : Nat) (v : Nat × Nat) : zR (sR z c p s i v) c' p' s' i' = if c' = c ∧ p' = p ∧ s' = s ∧ i' = i then v else zR z c' p' s' i' := rfl
theorem zI_sJ (z : Zs) (c p s i : Nat) (v : Int64) : zI (sJ z c p s i v) = zI z := rfl
theorem zI_sR (z : Zs) (c p s i : Nat) (v : Nat × Nat) : zI (sR z c p s i v) = zI z := rfl
theorem zJ_sI (z : Zs) (c p s i : Nat) (v : Int32) : zJ (sI z c p s i v) = zJ z := rfl
theorem zJ_sR (z : Zs) (c p s i : Nat) (v : Nat × Nat) : zJ (sR z c p s i v) = zJ z := rfl
theorem zR_sI (z : Zs) (c p s i : Nat) (v : Int32) : zR (sI z c p s i v) = zR z := rfl
theorem zR_sJ (z : Zs) (c p s i : Nat) (v : Int64) : zR (sJ z c p s i v) = zR z := rfl
/-- which objects of a class there are -/
def vdb (N c p s : Nat) : Bool := match c with
  | 0 => decide (p < 3) && decide (s < 8)
  | 1 => decide (p < 1) && decide (s < 1)
  | 2 => decide (p < 1) && decide (s < 200)
  | 3 => decide (p < 1) && decide (s < 1)
  | 4 => decide (p < 1) && decide (s < 1)
  | 5 => decide (p < 3) && decide (s < 1)
  | 7 => decide (p < 3) && decide (s < 12)
  | 8 => decide (p < 3) && decide (s < 12)
  | 9 => decide (p < 1) && decide (s < 1)
  | 10 => decide (p < 3) && decide (s < 12)
  | 11 => decide (p < 1) && decide (s < 1)
  | 6 => (decide (p < 4) && decide (s < 1)) || (decide (p = 4) && decide (s < 60)) || (decide (p = 5) && decide (s < 200))
  | _ => false
/-- the rows: kind and length, by the field that holds them -/
def arr (f : Nat) : Option (Nat × Nat) := match f with
  | 65 => some (26, 60)
  | 200 => some (21, 1500)
  | 320 => some (27, 12)
  | 322 => some (24, 8)
  | 324 => some (20, 1500)
  | 325 => some (21, 1500)
  | 327 => some (21, 60)
  | 386 => some (21, 6)
  | 451 => some (21, 6)
  | 452 => some (20, 2)
  | 457 => some (20, 6)
  | 458 => some (20, 6)
  | 459 => some (20, 6)
  | 462 => some (20, 2)
  | 463 => some (23, 200)
  | 514 => some (20, 200)
  | 515 => some (21, 1200)
  | 576 => some (20, 1501)
  | 577 => some (20, 1501)
  | 578 => some (21, 1501)
  | 579 => some (21, 32)
  | 641 => some (21, 60)
  | 642 => some (20, 60)
  | 643 => some (23, 60)
  | 644 => some (20, 60)
  | 645 => some (21, 240)
  | 704 => some (22, 1500)
  | 715 => some (25, 200)
  | 717 => some (20, 8)
  | _ => none
def sro (f p s : Nat) : Option (Nat × Nat × Nat) := match f with
  | 71 => some (6, 0, 0)
  | 72 => some (6, 1, 0)
  | 73 => some (6, 2, 0)
  | 130 => some (6, 5, s)
  | 256 => some (9, 0, 0)
  | 257 => some (3, 0, 0)
  | 460 => some (8, p, s)
  | 464 => some (10, p, s)
  | 706 => some (9, 0, 0)
  | 710 => some (3, 0, 0)
  | 711 => some (4, 0, 0)
  | 713 => some (1, 0, 0)
  | 714 => some (6, 3, 0)
  | _ => none
def sre (f p i : Nat) : Option (Nat × Nat × Nat) := match f with
  | 320 => some (7, p, i)
  | 322 => some (0, p, i)
  | 715 => some (2, 0, i)
  | _ => none
def dro (f : Nat) : Option Nat := match f with
  | 64 => some 5
  | 194 => some 5
  | 195 => some 7
  | 196 => some 0
  | 198 => some 7
  | 199 => some 7
  | 707 => some 5
  | 708 => some 5
  | 709 => some 5
  | _ => none
def isr (c : Nat) : Bool := decide (768 ≤ c % 1024) && decide (c % 1024 < 960)
def mz (σ ρ : Zs) : Zs := (fun c p s i => if isr c = true then zI ρ c p s i else zI σ c p s i, fun c p s i => if isr c = true then zJ ρ c p s i else zJ σ c p s i, fun c p s i => if isr c = true then zR ρ c p s i else zR σ c p s i)
def vc (N : Nat) (c p s : Nat) : Prop := (c < 1024 → c < 15 ∧ vdb N c p s = true) ∧ (1024 ≤ c → vdb N ((c - 1024) / 64) p s = true ∧ (arr (c - 1024)).isSome = true)
/-- the objects and rows stand at A, their kinds, lengths and fixed links -/
def Lay (A : Nat → Nat → Nat → Nat) (h : Hp) : Prop :=
  (∀ c p s c' p' s', vc (A 16 0 0) c p s → vc (A 16 0 0) c' p' s' → A c p s = A c' p' s' → c = c' ∧ p = p' ∧ s = s') ∧
  (∀ c p s, c < 15 → vdb (A 16 0 0) c p s = true → m_K h (A c p s) = c) ∧
  (∀ f p s k n, arr f = some (k, n) → f < 1024 → vdb (A 16 0 0) (f / 64) p s = true → (f / 64 < 15 → m_R h f (A (f / 64) p s) = some (A (1024 + f) p s)) ∧ m_K h (A (1024 + f) p s) = k ∧ m_N h (A (1024 + f) p s) = n) ∧
  (∀ f p s c' p' s', sro f p s = some (c', p', s') → vdb (A 16 0 0) (f / 64) p s = true → m_R h f (A (f / 64) p s) = some (A c' p' s')) ∧
  (∀ f p i c' p' s' k n, sre f p i = some (c', p', s') → arr f = some (k, n) → i < n → vdb (A 16 0 0) (f / 64) p 0 = true → m_Z h (A (1024 + f) p 0) i = some (A c' p' s'))
def Val (A : Nat → Nat → Nat → Nat) (h : Hp) (z : Zs) : Prop :=
  (∀ f p s, f < 960 → vdb (A 16 0 0) (f / 64) p s = true → m_I h f (A (f / 64) p s) = zI z f p s 0 ∧ m_J h f (A (f / 64) p s) = zJ z f p s 0) ∧
  (∀ f p s i, f < 1024 → vdb (A 16 0 0) (f / 64) p s = true → (arr f).isSome = true → m_X h (A (1024 + f) p s) i = zI z (1024 + f) p s i ∧ m_Y h (A (1024 + f) p s) i = zJ z (1024 + f) p s i)
/-- a cell that is none of the layout's -/
def fgn (A : Nat → Nat → Nat → Nat) (q : Nat) : Prop := ∀ c p s, vc (A 16 0 0) c p s → A c p s ≠ q
def dcR (v : Nat × Nat) : Option Nat := if v.1 = 1 then some v.2 else none
def enR (v : Option Nat) : Nat × Nat := match v with
  | some q => (1, q)
  | none => (0, 0)
theorem dc_en (v : Option Nat) : dcR (enR v) = v := by cases v <;> rfl
/-- all other cells are those that ρ tells -/
def Ext (A : Nat → Nat → Nat → Nat) (h : Hp) (z : Zs) : Prop := ∀ q, fgn A q → m_K h q = (zR z 3841 q 0 0).1 ∧ m_N h q = (zR z 3841 q 0 0).2 ∧ (∀ f, f < 1023 → m_I h f q = zI z 3841 q f 0 ∧ m_J h f q = zJ z 3841 q f 0 ∧ m_R h f q = dcR (zR z 3842 q f 0)) ∧ ∀ i, m_X h q i = zI z 3843 q i 0 ∧ m_Y h q i = zJ z 3843 q i 0 ∧ m_Z h q i = dcR (zR z 3843 q i 0)
/-- at this cell nothing differs -/
def smF (h' h : Hp) (q : Nat) : Prop := m_K h' q = m_K h q ∧ m_N h' q = m_N h q ∧ (∀ f, f < 1023 → m_I h' f q = m_I h f q ∧ m_J h' f q = m_J h f q ∧ m_R h' f q = m_R h f q) ∧ ∀ i, m_X h' q i = m_X h q i ∧ m_Y h' q i = m_Y h q i ∧ m_Z h' q i = m_Z h q i
theorem Ext.t {A : Nat → Nat → Nat → Nat} {z z' : Zs} {h h' : Hp} (hz : Ext A h z) (hX : ∀ q, fgn A q → smF h' h q) (e1 : ∀ c p s i, 3000 ≤ c → zI z' c p s i = zI z c p s i) (e2 : ∀ c p s i, 3000 ≤ c → zJ z' c p s i = zJ z c p s i) (e3 : ∀ c p s i, 3000 ≤ c → zR z' c p s i = zR z c p s i) : Ext A h' z' := by
  intro q hq
  obtain ⟨a1, a2, a3, a4⟩ := hz q hq
  obtain ⟨b1, b2, b3, b4⟩ := hX q hq
  refine ⟨?_, ?_, fun f hf => ⟨?_, ?_, ?_⟩, fun i => ⟨?_, ?_, ?_⟩⟩
  · rw [b1, a1, e3 _ _ _ _ (by decide)]
  · rw [b2, a2, e3 _ _ _ _ (by decide)]
  · rw [(b3 f hf).1, (a3 f hf).1, e1 _ _ _ _ (by decide)]
  · rw [(b3 f hf).2.1, (a3 f hf).2.1, e2 _ _ _ _ (by decide)]
  · rw [(b3 f hf).2.2, (a3 f hf).2.2, e3 _ _ _ _ (by decide)]
  · rw [(b4 i).1, (a4 i).1, e1 _ _ _ _ (by decide)]
  · rw [(b4 i).2.1, (a4 i).2.1, e2 _ _ _ _ (by decide)]
  · rw [(b4 i).2.2, (a4 i).2.2, e3 _ _ _ _ (by decide)]
theorem smI {h : Hp} {f a q : Nat} {v : Int32} (n : a ≠ q) : smF (p_I h f a v) h q := ⟨rfl, rfl, fun _ _ => ⟨if_neg (fun e => n e.2.symm), rfl, rfl⟩, fun _ => ⟨rfl, rfl, rfl⟩⟩
theorem smJ {h : Hp} {f a q : Nat} {v : Int64} (n : a ≠ q) : smF (p_J h f a v) h q := ⟨rfl, rfl, fun _ _ => ⟨rfl, if_neg (fun e => n e.2.symm), rfl⟩, fun _ => ⟨rfl, rfl, rfl⟩⟩
theorem smR {h : Hp} {f a q : Nat} {v : Option Nat} (n : a ≠ q) : smF (p_R h f a v) h q := ⟨rfl, rfl, fun _ _ => ⟨rfl, rfl, if_neg (fun e => n e.2.symm)⟩, fun _ => ⟨rfl, rfl, rfl⟩⟩
theorem smX {h : Hp} {a i q : Nat} {v : Int32} (n : a ≠ q) : smF (p_X h a i v) h q := ⟨rfl, rfl, fun _ _ => ⟨rfl, rfl, rfl⟩, fun _ => ⟨if_neg (fun e => n e.1.symm), rfl, rfl⟩⟩
theorem smY {h : Hp} {a i q : Nat} {v : Int64} (n : a ≠ q) : smF (p_Y h a i v) h q := ⟨rfl, rfl, fun _ _ => ⟨rfl, rfl, rfl⟩, fun _ => ⟨rfl, if_neg (fun e => n e.1.symm), rfl⟩⟩
theorem smZ {h : Hp} {a i q : Nat} {v : Option Nat} (n : a ≠ q) : smF (p_Z h a i v) h q := ⟨rfl, rfl, fun _ _ => ⟨rfl, rfl, rfl⟩, fun _ => ⟨rfl, rfl, if_neg (fun e => n e.1.symm)⟩⟩
def Dy0 (A : Nat → Nat → Nat → Nat) (h : Hp) (z : Zs) : Prop :=
  (∀ f p s c, dro f = some c → vdb (A 16 0 0) (f / 64) p s = true → (f = 909 → (zR z 909 0 0 0).2 = 0) → vdb (A 16 0 0) c (zR z f p s 0).1 (zR z f p s 0).2 = true ∧ m_R h f (A (f / 64) p s) = some (A c (zR z f p s 0).1 (zR z f p s 0).2)) ∧
  (∀ i, i < 60 → vdb (A 16 0 0) 6 (zR z 1089 0 0 i).1 (zR z 1089 0 0 i).2 = true ∧ m_Z h (A 1089 0 0) i = some (A 6 (zR z 1089 0 0 i).1 (zR z 1089 0 0 i).2))
def Dyn (A : Nat → Nat → Nat → Nat) (h : Hp) (z : Zs) : Prop :=
  (∀ f p s c, dro f = some c → vdb (A 16 0 0) (f / 64) p s = true → (f = 909 → (zR z 909 0 0 0).2 = 0) → vdb (A 16 0 0) c (zR z f p s 0).1 (zR z f p s 0).2 = true ∧ m_R h f (A (f / 64) p s) = some (A c (zR z f p s 0).1 (zR z f p s 0).2)) ∧
  (∀ i, i < 60 → vdb (A 16 0 0) 6 (zR z 1089 0 0 i).1 (zR z 1089 0 0 i).2 = true ∧ m_Z h (A 1089 0 0) i = some (A 6 (zR z 1089 0 0 i).1 (zR z 1089 0 0 i).2)) ∧
  Ext A h z
def Rp0 (A : Nat → Nat → Nat → Nat) (h : Hp) (σ ρ : Zs) : Prop := Lay A h ∧ Val A h (mz σ ρ) ∧ Dy0 A h (mz σ ρ)
def Rp (A : Nat → Nat → Nat → Nat) (h : Hp) (σ ρ : Zs) : Prop := Lay A h ∧ Val A h (mz σ ρ) ∧ Dyn A h (mz σ ρ)
theorem vc_o {N : Nat} {c p s : Nat} (hc : c < 15) (hv : vdb N c p s = true) : vc N c p s := ⟨fun _ => ⟨hc, hv⟩, fun q => by omega⟩
theorem vc_a {N : Nat} {f p s : Nat} (hf : f < 1024) (hv : vdb N (f / 64) p s = true) (ha : (arr f).isSome = true) : vc N (1024 + f) p s := ⟨fun q => by omega, fun _ => by rw [Nat.add_sub_cancel_left]; exact ⟨hv, ha⟩⟩
theorem vdb_c {N : Nat} {c p s : Nat} (hv : vdb N c p s = true) : c < 16 := by
  rcases Nat.lt_or_ge c 16 with q | q
  · exact q
  · obtain ⟨d, rfl⟩ := Nat.exists_eq_add_of_le q
    exfalso
    rw [Nat.add_comm] at hv
    simp [vdb] at hv
theorem Val.tI {A : Nat → Nat → Nat → Nat} {h : Hp} {z : Zs} {f p s : Nat} {v : Int32} (hL : Lay A h) (hz : Val A h z) (hf : f < 960) (hv : vdb (A 16 0 0) (f / 64) p s = true) : Val A (p_I h f (A (f / 64) p s) v) (sI z f p s 0 v) := by
  refine ⟨fun f' p' s' hf' hv' => ⟨?_, ?_⟩, fun f' p' s' i hf' hv' ha' => ⟨?_, ?_⟩⟩
  · rw [g_II, zI_sI]
    by_cases e : f' = f
    · subst e
      by_cases e2 : A (f' / 64) p' s' = A (f' / 64) p s
      · obtain ⟨-, rfl, rfl⟩ := hL.1 _ _ _ _ _ _ (vc_o (by omega) hv') (vc_o (by omega) hv) e2
        rw [if_pos ⟨rfl, rfl⟩, if_pos ⟨rfl, rfl, rfl, rfl⟩]
      · rw [if_neg (fun q => e2 q.2), if_neg (fun q => e2 (by rw [q.2.1, q.2.2.1]))]
        exact (hz.1 f' p' s' hf' hv').1
    · rw [if_neg (fun q => e q.1), if_neg (fun q => e q.1)]
      exact (hz.1 f' p' s' hf' hv').1
  · exact (hz.1 f' p' s' hf' hv').2
  · rw [zI_sI, if_neg (fun q => by omega)]
    exact (hz.2 f' p' s' i hf' hv' ha').1
  · exact (hz.2 f' p' s' i hf' hv' ha').2
theorem Val.tJ {A : Nat → Nat → Nat → Nat} {h : Hp} {z : Zs} {f p s : Nat} {v : Int64} (hL : Lay A h) (hz : Val A h z) (hf : f < 960) (hv : vdb (A 16 0 0) (f / 64) p s = true) : Val A (p_J h f (A (f / 64) p s) v) (sJ z f p s 0 v) := by
  refine ⟨fun f' p' s' hf' hv' => ⟨?_, ?_⟩, fun f' p' s' i hf' hv' ha' => ⟨?_, ?_⟩⟩
  · exact (hz.1 f' p' s' hf' hv').1
  · rw [g_JJ, zJ_sJ]
    by_cases e : f' = f
    · subst e
      by_cases e2 : A (f' / 64) p' s' = A (f' / 64) p s
      · obtain ⟨-, rfl, rfl⟩ := hL.1 _ _ _ _ _ _ (vc_o (by omega) hv') (vc_o (by omega) hv) e2
        rw [if_pos ⟨rfl, rfl⟩, if_pos ⟨rfl, rfl, rfl, rfl⟩]
      · rw [if_neg (fun q => e2 q.2), if_neg (fun q => e2 (by rw [q.2.1, q.2.2.1]))]
        exact (hz.1 f' p' s' hf' hv').2
    · rw [if_neg (fun q => e q.1), if_neg (fun q => e q.1)]
      exact (hz.1 f' p' s' hf' hv').2
  · exact (hz.2 f' p' s' i hf' hv' ha').1
  · rw [zJ_sJ, if_neg (fun q => by omega)]
    exact (hz.2 f' p' s' i hf' hv' ha').2
theorem Val.tX {A : Nat → Nat → Nat → Nat} {h : Hp} {z : Zs} {f p s j : Nat} {v : Int32} (hL : Lay A h) (hz : Val A h z) (hf : f < 1024) (hv : vdb (A 16 0 0) (f / 64) p s = true) (ha : (arr f).isSome = true) : Val A (p_X h (A (1024 + f) p s) j v) (sI z (1024 + f) p s j v) := by
  refine ⟨fun f' p' s' hf' hv' => ⟨?_, ?_⟩, fun f' p' s' i hf' hv' ha' => ⟨?_, ?_⟩⟩
  · rw [zI_sI, if_neg (fun q => by omega)]
    exact (hz.1 f' p' s' hf' hv').1
  · exact (hz.1 f' p' s' hf' hv').2
  · rw [g_XX, zI_sI]
    by_cases e2 : A (1024 + f') p' s' = A (1024 + f) p s
    · obtain ⟨e3, rfl, rfl⟩ := hL.1 _ _ _ _ _ _ (vc_a hf' hv' ha') (vc_a hf hv ha) e2
      obtain rfl : f' = f := by omega
      by_cases e : i = j
      · rw [if_pos ⟨rfl, e⟩, if_pos ⟨rfl, rfl, rfl, e⟩]
      · rw [if_neg (fun q => e q.2), if_neg (fun q => e q.2.2.2)]
        exact (hz.2 f' p' s' i hf' hv' ha').1
    · rw [if_neg (fun q => e2 q.1), if_neg (fun q => e2 (by rw [q.1, q.2.1, q.2.2.1]))]
      exact (hz.2 f' p' s' i hf' hv' ha').1
  · exact (hz.2 f' p' s' i hf' hv' ha').2
theorem Val.tY {A : Nat → Nat → Nat → Nat} {h : Hp} {z : Zs} {f p s j : Nat} {v : Int64} (hL : Lay A h) (hz : Val A h z) (hf : f < 1024) (hv : vdb (A 16 0 0) (f / 64) p s = true) (ha : (arr f).isSome = true) : Val A (p_Y h (A (1024 + f) p s) j v) (sJ z (1024 + f) p s j v) := by
  refine ⟨fun f' p' s' hf' hv' => ⟨?_, ?_⟩, fun f' p' s' i hf' hv' ha' => ⟨?_, ?_⟩⟩
  · exact (hz.1 f' p' s' hf' hv').1
  · rw [zJ_sJ, if_neg (fun q => by omega)]
    exact (hz.1 f' p' s' hf' hv').2
  · exact (hz.2 f' p' s' i hf' hv' ha').1
  · rw [g_YY, zJ_sJ]
    by_cases e2 : A (1024 + f') p' s' = A (1024 + f) p s
    · obtain ⟨e3, rfl, rfl⟩ := hL.1 _ _ _ _ _ _ (vc_a hf' hv' ha') (vc_a hf hv ha) e2
      obtain rfl : f' = f := by omega
      by_cases e : i = j
      · rw [if_pos ⟨rfl, e⟩, if_pos ⟨rfl, rfl, rfl, e⟩]
      · rw [if_neg (fun q => e q.2), if_neg (fun q => e q.2.2.2)]
        exact (hz.2 f' p' s' i hf' hv' ha').2
    · rw [if_neg (fun q => e2 q.1), if_neg (fun q => e2 (by rw [q.1, q.2.1, q.2.2.1]))]
      exact (hz.2 f' p' s' i hf' hv' ha').2
theorem zext {z w : Zs} (h1 : ∀ c p s i, zI z c p s i = zI w c p s i) (h2 : ∀ c p s i, zJ z c p s i = zJ w c p s i) (h3 : ∀ c p s i, zR z c p s i = zR w c p s i) : z = w := by
  obtain ⟨a, b, c⟩ := z
  obtain ⟨a', b', c'⟩ := w
  obtain rfl : a = a' := by funext c p s i; exact h1 c p s i
  obtain rfl : b = b' := by funext c p s i; exact h2 c p s i
  obtain rfl : c = c' := by funext c p s i; exact h3 c p s i
  rfl
theorem zI_mz (σ ρ : Zs) (c p s i : Nat) : zI (mz σ ρ) c p s i = if isr c = true then zI ρ c p s i else zI σ c p s i := rfl
theorem zJ_mz (σ ρ : Zs) (c p s i : Nat) : zJ (mz σ ρ) c p s i = if isr c = true then zJ ρ c p s i else zJ σ c p s i := rfl
theorem zR_mz (σ ρ : Zs) (c p s i : Nat) : zR (mz σ ρ) c p s i = if isr c = true then zR ρ c p s i else zR σ c p s i := rfl
theorem mz_sI {σ ρ : Zs} {c p s i : Nat} {v : Int32} (hc : isr c = false) : sI (mz σ ρ) c p s i v = mz (sI σ c p s i v) ρ := by
  refine zext ?_ ?_ ?_
  · intro c' p' s' i'
    rw [zI_sI, zI_mz, zI_mz, zI_sI]
    by_cases e : c' = c ∧ p' = p ∧ s' = s ∧ i' = i
    · rw [if_pos e, if_pos e, e.1, hc]; rfl
    · rw [if_neg e, if_neg e]
  · intros; rfl
  · intros; rfl
theorem mz_rI {σ ρ : Zs} {c p s i : Nat} {v : Int32} (hc : isr c = true) : sI (mz σ ρ) c p s i v = mz σ (sI ρ c p s i v) := by
  refine zext ?_ ?_ ?_
  · intro c' p' s' i'
    rw [zI_sI, zI_mz, zI_mz, zI_sI]
    by_cases e : c' = c ∧ p' = p ∧ s' = s ∧ i' = i
    · rw [if_pos e, if_pos e, e.1, hc]; rfl
    · rw [if_neg e, if_neg e]
  · intros; rfl
  · intros; rfl
theorem mz_sJ {σ ρ : Zs} {c p s i : Nat} {v : Int64} (hc : isr c = false) : sJ (mz σ ρ) c p s i v = mz (sJ σ c p s i v) ρ := by
  refine zext ?_ ?_ ?_
  · intros; rfl
  · intro c' p' s' i'
    rw [zJ_sJ, zJ_mz, zJ_mz, zJ_sJ]
    by_cases e : c' = c ∧ p' = p ∧ s' = s ∧ i' = i
    · rw [if_pos e, if_pos e, e.1, hc]; rfl
    · rw [if_neg e, if_neg e]
  · intros; rfl
theorem mz_rJ {σ ρ : Zs} {c p s i : Nat} {v : Int64} (hc : isr c = true) : sJ (mz σ ρ) c p s i v = mz σ (sJ ρ c p s i v) := by
  refine zext ?_ ?_ ?_
  · intros; rfl
  · intro c' p' s' i'
    rw [zJ_sJ, zJ_mz, zJ_mz, zJ_sJ]
    by_cases e : c' = c ∧ p' = p ∧ s' = s ∧ i' = i
    · rw [if_pos e, if_pos e, e.1, hc]; rfl
    · rw [if_neg e, if_neg e]
  · intros; rfl
theorem mz_sR {σ ρ : Zs} {c p s i : Nat} {v : Nat × Nat} (hc : isr c = false) : sR (mz σ ρ) c p s i v = mz (sR σ c p s i v) ρ := by
  refine zext ?_ ?_ ?_
  · intros; rfl
  · intros; rfl
  · intro c' p' s' i'
    rw [zR_sR, zR_mz, zR_mz, zR_sR]
    by_cases e : c' = c ∧ p' = p ∧ s' = s ∧ i' = i
    · rw [if_pos e, if_pos e, e.1, hc]; rfl
    · rw [if_neg e, if_neg e]
theorem mz_rR {σ ρ : Zs} {c p s i : Nat} {v : Nat × Nat} (hc : isr c = true) : sR (mz σ ρ) c p s i v = mz σ (sR ρ c p s i v) := by
  refine zext ?_ ?_ ?_
  · intros; rfl
  · intros; rfl
  · intro c' p' s' i'
    rw [zR_sR, zR_mz, zR_mz, zR_sR]
    by_cases e : c' = c ∧ p' = p ∧ s' = s ∧ i' = i
    · rw [if_pos e, if_pos e, e.1, hc]; rfl
    · rw [if_neg e, if_neg e]
section RP
variable {A : Nat → Nat → Nat → Nat} {h : Hp} {σ ρ : Zs}
theorem Dyn.tI {z : Zs} {h' : Hp} {f p s i : Nat} {v : Int32} (_ : f ≠ 909) (hR : m_R h' = m_R h) (hZ : m_Z h' = m_Z h) (hX : ∀ q, fgn A q → smF h' h q) (hc : f < 3000) (hz : Dyn A h z) : Dyn A h' (sI z f p s i v) := by
  refine ⟨fun f' p' s' c hd hv hm => ?_, fun i hi => ?_, hz.2.2.t hX (fun c p s i q => by rw [zI_sI, if_neg (fun e => by omega)]) (fun _ _ _ _ _ => rfl) (fun _ _ _ _ _ => rfl)⟩
  · rw [hR]
    exact hz.1 f' p' s' c hd hv hm
  · rw [hZ]
    exact hz.2.1 i hi
theorem Dyn.tJ {z : Zs} {h' : Hp} {f p s i : Nat} {v : Int64} (hR : m_R h' = m_R h) (hZ : m_Z h' = m_Z h) (hX : ∀ q, fgn A q → smF h' h q) (hc : f < 3000) (hz : Dyn A h z) : Dyn A h' (sJ z f p s i v) := by
  refine ⟨fun f' p' s' c hd hv hm => ?_, fun i hi => ?_, hz.2.2.t hX (fun _ _ _ _ _ => rfl) (fun c p s i q => by rw [zJ_sJ, if_neg (fun e => by omega)]) (fun _ _ _ _ _ => rfl)⟩
  · rw [hR]
    exact hz.1 f' p' s' c hd hv hm
  · rw [hZ]
    exact hz.2.1 i hi
theorem Rp.uI {f p s : Nat} {v : Int32} (hz : Rp A h σ ρ) (hv : vdb (A 16 0 0) (f / 64) p s = true) (hf : f < 960) (hm : f ≠ 909) (hc : isr f = false) : Rp A (p_I h f (A (f / 64) p s) v) (sI σ f p s 0 v) ρ :=
  ⟨hz.1, by rw [← mz_sI hc]; exact hz.2.1.tI hz.1 hf hv, by rw [← mz_sI hc]; exact hz.2.2.tI (h := h) hm rfl rfl (fun q hq => smI (hq _ _ _ (vc_o (by omega) hv))) (by omega)⟩
theorem Rp.vI {f p s : Nat} {v : Int32} (hz : Rp A h σ ρ) (hv : vdb (A 16 0 0) (f / 64) p s = true) (hf : f < 960) (hm : f ≠ 909) (hc : isr f = true) : Rp A (p_I h f (A (f / 64) p s) v) σ (sI ρ f p s 0 v) :=
  ⟨hz.1, by rw [← mz_rI hc]; exact hz.2.1.tI hz.1 hf hv, by rw [← mz_rI hc]; exact hz.2.2.tI (h := h) hm rfl rfl (fun q hq => smI (hq _ _ _ (vc_o (by omega) hv))) (by omega)⟩
theorem Rp.uJ {f p s : Nat} {v : Int64} (hz : Rp A h σ ρ) (hv : vdb (A 16 0 0) (f / 64) p s = true) (hf : f < 960) (hc : isr f = false) : Rp A (p_J h f (A (f / 64) p s) v) (sJ σ f p s 0 v) ρ :=
  ⟨hz.1, by rw [← mz_sJ hc]; exact hz.2.1.tJ hz.1 hf hv, by rw [← mz_sJ hc]; exact hz.2.2.tJ (h := h) rfl rfl (fun q hq => smJ (hq _ _ _ (vc_o (by omega) hv))) (by omega)⟩
theorem Rp.vJ {f p s : Nat} {v : Int64} (hz : Rp A h σ ρ) (hv : vdb (A 16 0 0) (f / 64) p s = true) (hf : f < 960) (hc : isr f = true) : Rp A (p_J h f (A (f / 64) p s) v) σ (sJ ρ f p s 0 v) :=
  ⟨hz.1, by rw [← mz_rJ hc]; exact hz.2.1.tJ hz.1 hf hv, by rw [← mz_rJ hc]; exact hz.2.2.tJ (h := h) rfl rfl (fun q hq => smJ (hq _ _ _ (vc_o (by omega) hv))) (by omega)⟩
theorem Rp.uX {f p s i : Nat} {v : Int32} (hz : Rp A h σ ρ) (hv : vdb (A 16 0 0) (f / 64) p s = true) (hf : f < 1024) (ha : (arr f).isSome = true) (hc : isr (1024 + f) = false) : Rp A (p_X h (A (1024 + f) p s) i v) (sI σ (1024 + f) p s i v) ρ :=
  ⟨hz.1, by rw [← mz_sI hc]; exact hz.2.1.tX hz.1 hf hv ha, by rw [← mz_sI hc]; exact hz.2.2.tI (h := h) (by omega) rfl rfl (fun q hq => smX (hq _ _ _ (vc_a hf hv ha))) (by omega)⟩
theorem Rp.vX {f p s i : Nat} {v : Int32} (hz : Rp A h σ ρ) (hv : vdb (A 16 0 0) (f / 64) p s = true) (hf : f < 1024) (ha : (arr f).isSome = true) (hc : isr (1024 + f) = true) : Rp A (p_X h (A (1024 + f) p s) i v) σ (sI ρ (1024 + f) p s i v) :=
  ⟨hz.1, by rw [← mz_rI hc]; exact hz.2.1.tX hz.1 hf hv ha, by rw [← mz_rI hc]; exact hz.2.2.tI (h := h) (by omega) rfl rfl (fun q hq => smX (hq _ _ _ (vc_a hf hv ha))) (by omega)⟩
theorem Rp.uY {f p s i : Nat} {v : Int64} (hz : Rp A h σ ρ) (hv : vdb (A 16 0 0) (f / 64) p s = true) (hf : f < 1024) (ha : (arr f).isSome = true) (hc : isr (1024 + f) = false) : Rp A (p_Y h (A (1024 + f) p s) i v) (sJ σ (1024 + f) p s i v) ρ :=
  ⟨hz.1, by rw [← mz_sJ hc]; exact hz.2.1.tY hz.1 hf hv ha, by rw [← mz_sJ hc]; exact hz.2.2.tJ (h := h) rfl rfl (fun q hq => smY (hq _ _ _ (vc_a hf hv ha))) (by omega)⟩
theorem Rp.vY {f p s i : Nat} {v : Int64} (hz : Rp A h σ ρ) (hv : vdb (A 16 0 0) (f / 64) p s = true) (hf : f < 1024) (ha : (arr f).isSome = true) (hc : isr (1024 + f) = true) : Rp A (p_Y h (A (1024 + f) p s) i v) σ (sJ ρ (1024 + f) p s i v) :=
  ⟨hz.1, by rw [← mz_rJ hc]; exact hz.2.1.tY hz.1 hf hv ha, by rw [← mz_rJ hc]; exact hz.2.2.tJ (h := h) rfl rfl (fun q hq => smY (hq _ _ _ (vc_a hf hv ha))) (by omega)⟩
theorem Lay.uR {f a : Nat} {v : Option Nat} (hz : Lay A h) (h1 : arr f = none) (h2 : ∀ p s, sro f p s = none) : Lay A (p_R h f a v) := by
  obtain ⟨l1, l2, l3, l4, l5⟩ := hz
  refine ⟨l1, l2, fun f' p s k n ha hf hv => ⟨fun q => ?_, (l3 f' p s k n ha hf hv).2⟩, fun f' p s c' p' s' hs hv => ?_, l5⟩
  · rw [g_RR, if_neg (fun z => by rw [z.1, h1] at ha; cases ha)]
    exact (l3 f' p s k n ha hf hv).1 q
  · rw [g_RR, if_neg (fun z => by rw [z.1, h2] at hs; cases hs)]
    exact l4 f' p s c' p' s' hs hv
theorem Dyn.uR {z : Zs} {f p s c p2 s2 : Nat} (hL : Lay A h) (hz : Dyn A h z) (hd : dro f = some c) (hf : f < 960) (hv : vdb (A 16 0 0) (f / 64) p s = true) (hv2 : vdb (A 16 0 0) c p2 s2 = true) : Dyn A (p_R h f (A (f / 64) p s) (some (A c p2 s2))) (sR z f p s 0 (p2, s2)) := by
  refine ⟨fun f' p' s' c' hd' hv' hm => ?_, fun i hi => ?_, hz.2.2.t (fun q hq => smR (hq _ _ _ (vc_o (by omega) hv))) (fun _ _ _ _ _ => rfl) (fun _ _ _ _ _ => rfl) (fun c p s i q => by rw [zR_sR, if_neg (fun e => by omega)])⟩
  · rw [g_RR, zR_sR]
    by_cases e : f' = f
    · subst e
      obtain rfl : c' = c := Option.some.inj (hd'.symm.trans hd)
      by_cases e2 : A (f' / 64) p' s' = A (f' / 64) p s
      · obtain ⟨-, rfl, rfl⟩ := hL.1 _ _ _ _ _ _ (vc_o (by omega) hv') (vc_o (by omega) hv) e2
        rw [if_pos ⟨rfl, rfl, rfl, rfl⟩, if_pos ⟨rfl, rfl⟩]
        exact ⟨hv2, rfl⟩
      · rw [if_neg (fun q => e2 (by rw [q.2.1, q.2.2.1])), if_neg (fun q => e2 q.2)]
        refine hz.1 f' p' s' c' hd' hv' (fun q => ?_)
        exfalso
        subst q
        refine e2 ?_
        have h3 : vdb (A 16 0 0) 14 p' s' = true := hv'
        simp [vdb] at h3
    · rw [if_neg (fun q => e q.1), if_neg (fun q => e q.1)]
      refine hz.1 f' p' s' c' hd' hv' (fun q => ?_)
      have h9 := hm q
      rw [zR_sR, if_neg (fun z => e (by rw [q]; exact z.1))] at h9
      exact h9
  · rw [zR_sR, if_neg (fun q => by omega)]
    exact hz.2.1 i hi
theorem Rp.uR {f p s c p2 s2 : Nat} (hz : Rp A h σ ρ) (hv : vdb (A 16 0 0) (f / 64) p s = true) (hf : f < 960) (h1 : arr f = none) (h2 : ∀ p s, sro f p s = none) (hd : dro f = some c) (hv2 : vdb (A 16 0 0) c p2 s2 = true) (hc : isr f = false) : Rp A (p_R h f (A (f / 64) p s) (some (A c p2 s2))) (sR σ f p s 0 (p2, s2)) ρ :=
  ⟨hz.1.uR h1 h2, by rw [← mz_sR hc]; exact hz.2.1, by rw [← mz_sR hc]; exact hz.2.2.uR hz.1 hd hf hv hv2⟩
theorem Rp.vR {f p s c p2 s2 : Nat} (hz : Rp A h σ ρ) (hv : vdb (A 16 0 0) (f / 64) p s = true) (hf : f < 960) (h1 : arr f = none) (h2 : ∀ p s, sro f p s = none) (hd : dro f = some c) (hv2 : vdb (A 16 0 0) c p2 s2 = true) (hc : isr f = true) : Rp A (p_R h f (A (f / 64) p s) (some (A c p2 s2))) σ (sR ρ f p s 0 (p2, s2)) :=
  ⟨hz.1.uR h1 h2, by rw [← mz_rR hc]; exact hz.2.1, by rw [← mz_rR hc]; exact hz.2.2.uR hz.1 hd hf hv hv2⟩
theorem Rp.uZ {i p2 s2 : Nat} (hz : Rp A h σ ρ) (hi : i < 60) (hv2 : vdb (A 16 0 0) 6 p2 s2 = true) : Rp A (p_Z h (A 1089 0 0) i (some (A 6 p2 s2))) (sR σ 1089 0 0 i (p2, s2)) ρ := by
  obtain ⟨⟨l1, l2, l3, l4, l5⟩, hV, hD⟩ := hz
  refine ⟨⟨l1, l2, l3, l4, fun f p i c' p' s' k n hs ha hi hv => ?_⟩, by rw [← mz_sR rfl]; exact hV, ?_⟩
  · rw [g_ZZ, if_neg (fun z => ?_)]
    · exact l5 f p i c' p' s' k n hs ha hi hv
    · have hf : f < 1024 := by have := vdb_c hv; omega
      have := (l1 _ _ _ _ _ _ (vc_a hf hv (by rw [ha]; rfl)) (vc_a (f := 65) (by decide) rfl rfl) z.1).1
      obtain rfl : f = 65 := by omega
      cases hs
  · rw [← mz_sR rfl]
    refine ⟨fun f' p' s' c' hd' hv' hm => ?_, fun j hj => ?_, hD.2.2.t (fun q hq => smZ (hq _ _ _ (vc_a (f := 65) (by decide) rfl rfl))) (fun _ _ _ _ _ => rfl) (fun _ _ _ _ _ => rfl) (fun c p s i q => by rw [zR_sR, if_neg (fun e => by omega)])⟩
    · rw [zR_sR, if_neg (fun q => ?_)]
      · refine hD.1 f' p' s' c' hd' hv' (fun q => ?_)
        have h9 := hm q
        rw [zR_sR, if_neg (fun z => absurd z.1 (by decide))] at h9
        exact h9
      · have h1 := vdb_c hv'
        have : f' = 1089 := q.1
        omega
    · rw [g_ZZ, zR_sR]
      by_cases e : j = i
      · rw [if_pos ⟨rfl, rfl, rfl, e⟩, if_pos ⟨rfl, e⟩]
        exact ⟨hv2, rfl⟩
      · rw [if_neg (fun q => e q.2.2.2), if_neg (fun q => e q.2)]
        exact hD.2.1 j hj
/-- ρ with all cells of h -/
def ecd (h : Hp) (ρ : Zs) : Zs := (fun c p s i => if c = 3841 then m_I h s p else if c = 3843 then m_X h p s else zI ρ c p s i, fun c p s i => if c = 3841 then m_J h s p else if c = 3843 then m_Y h p s else zJ ρ c p s i, fun c p s i => if c = 3841 then (m_K h p, m_N h p) else if c = 3842 then enR (m_R h s p) else if c = 3843 then enR (m_Z h p s) else zR ρ c p s i)
theorem ec_I {c p s i : Nat} (hc : c < 3000) : zI (mz σ (ecd h ρ)) c p s i = zI (mz σ ρ) c p s i := by
  have : zI (ecd h ρ) c p s i = zI ρ c p s i := by
    show (if c = 3841 then m_I h s p else if c = 3843 then m_X h p s else zI ρ c p s i) = _
    rw [if_neg (by omega), if_neg (by omega)]
  rw [zI_mz, zI_mz, this]
theorem ec_J {c p s i : Nat} (hc : c < 3000) : zJ (mz σ (ecd h ρ)) c p s i = zJ (mz σ ρ) c p s i := by
  have : zJ (ecd h ρ) c p s i = zJ ρ c p s i := by
    show (if c = 3841 then m_J h s p else if c = 3843 then m_Y h p s else zJ ρ c p s i) = _
    rw [if_neg (by omega), if_neg (by omega)]
  rw [zJ_mz, zJ_mz, this]
theorem ec_R {c p s i : Nat} (hc : c < 3000) : zR (mz σ (ecd h ρ)) c p s i = zR (mz σ ρ) c p s i := by
  have : zR (ecd h ρ) c p s i = zR ρ c p s i := by
    show (if c = 3841 then (m_K h p, m_N h p) else if c = 3842 then enR (m_R h s p) else if c = 3843 then enR (m_Z h p s) else zR ρ c p s i) = _
    rw [if_neg (by omega), if_neg (by omega), if_neg (by omega)]
  rw [zR_mz, zR_mz, this]
theorem dro_lt {f c : Nat} (h : dro f = some c) : f < 3000 := by
  unfold dro at h
  split at h <;> first | decide | cases h
theorem Rp0.ec (hz : Rp0 A h σ ρ) : Rp A h σ (ecd h ρ) := by
  obtain ⟨hL, ⟨v1, v2⟩, d1, d2⟩ := hz
  refine ⟨hL, ⟨fun f p s hf hv => ?_, fun f p s i hf hv ha => ?_⟩, fun f p s c hd hv hm => ?_, fun i hi => ?_, fun q hq => ⟨rfl, rfl, fun f hf => ⟨rfl, rfl, (dc_en _).symm⟩, fun i => ⟨rfl, rfl, (dc_en _).symm⟩⟩⟩
  · rw [ec_I (by omega), ec_J (by omega)]; exact v1 f p s hf hv
  · rw [ec_I (by omega), ec_J (by omega)]; exact v2 f p s i hf hv ha
  · have := dro_lt hd
    rw [ec_R this]
    exact d1 f p s c hd hv (fun q => by have := hm q; rw [ec_R (by decide)] at this; exact this)
  · rw [ec_R (by decide)]; exact d2 i hi
theorem Rp.r0 (hz : Rp A h σ ρ) : Rp0 A h σ ρ := ⟨hz.1, hz.2.1, hz.2.2.1, hz.2.2.2.1⟩
/-- what the layout doesn't hold is as ρ tells -/
theorem Rp.ex (hz : Rp A h σ ρ) : Ext A h (mz σ ρ) := hz.2.2.2.2
/-- .. so it is the same in two stores with one ρ -/
theorem Rp.sm {h' : Hp} {σ' : Zs} {q : Nat} (hz : Rp A h σ ρ) (hy : Rp A h' σ' ρ) (hq : fgn A q) : smF h' h q := by
  obtain ⟨a1, a2, a3, a4⟩ := hz.ex q hq
  obtain ⟨b1, b2, b3, b4⟩ := hy.ex q hq
  exact ⟨b1.trans a1.symm, b2.trans a2.symm, fun f hf => ⟨(b3 f hf).1.trans (a3 f hf).1.symm, (b3 f hf).2.1.trans (a3 f hf).2.1.symm, (b3 f hf).2.2.trans (a3 f hf).2.2.symm⟩, fun i => ⟨(b4 i).1.trans (a4 i).1.symm, (b4 i).2.1.trans (a4 i).2.1.symm, (b4 i).2.2.trans (a4 i).2.2.symm⟩⟩
theorem Rp.o0 {p s : Nat} (hz : Rp A h σ ρ) (hv : vdb (A 16 0 0) 0 p s = true) : m_K h (A 0 p s) = 0 := hz.1.2.1 0 p s (by decide) hv
theorem Rp.o1 {p s : Nat} (hz : Rp A h σ ρ) (hv : vdb (A 16 0 0) 1 p s = true) : m_K h (A 1 p s) = 1 := hz.1.2.1 1 p s (by decide) hv
theorem Rp.o2 {p s : Nat} (hz : Rp A h σ ρ) (hv : vdb (A 16 0 0) 2 p s = true) : m_K h (A 2 p s) = 2 := hz.1.2.1 2 p s (by decide) hv
theorem Rp.o3 {p s : Nat} (hz : Rp A h σ ρ) (hv : vdb (A 16 0 0) 3 p s = true) : m_K h (A 3 p s) = 3 := hz.1.2.1 3 p s (by decide) hv
theorem Rp.o4 {p s : Nat} (hz : Rp A h σ ρ) (hv : vdb (A 16 0 0) 4 p s = true) : m_K h (A 4 p s) = 4 := hz.1.2.1 4 p s (by decide) hv
theorem Rp.o5 {p s : Nat} (hz : Rp A h σ ρ) (hv : vdb (A 16 0 0) 5 p s = true) : m_K h (A 5 p s) = 5 := hz.1.2.1 5 p s (by decide) hv
theorem Rp.o7 {p s : Nat} (hz : Rp A h σ ρ) (hv : vdb (A 16 0 0) 7 p s = true) : m_K h (A 7 p s) = 7 := hz.1.2.1 7 p s (by decide) hv
theorem Rp.o8 {p s : Nat} (hz : Rp A h σ ρ) (hv : vdb (A 16 0 0) 8 p s = true) : m_K h (A 8 p s) = 8 := hz.1.2.1 8 p s (by decide) hv
theorem Rp.o9 {p s : Nat} (hz : Rp A h σ ρ) (hv : vdb (A 16 0 0) 9 p s = true) : m_K h (A 9 p s) = 9 := hz.1.2.1 9 p s (by decide) hv
theorem Rp.o10 {p s : Nat} (hz : Rp A h σ ρ) (hv : vdb (A 16 0 0) 10 p s = true) : m_K h (A 10 p s) = 10 := hz.1.2.1 10 p s (by decide) hv
theorem Rp.o11 {p s : Nat} (hz : Rp A h σ ρ) (hv : vdb (A 16 0 0) 11 p s = true) : m_K h (A 11 p s) = 11 := hz.1.2.1 11 p s (by decide) hv
theorem Rp.o6 {p s : Nat} (hz : Rp A h σ ρ) (hv : vdb (A 16 0 0) 6 p s = true) : m_K h (A 6 p s) = 6 := hz.1.2.1 6 p s (by decide) hv
theorem Rp.r65 {p s : Nat} (hz : Rp A h σ ρ) (hv : vdb (A 16 0 0) 1 p s = true) : m_R h 65 (A 1 p s) = some (A 1089 p s) := (hz.1.2.2.1 65 p s 26 60 rfl (by decide) hv).1 (by decide)
theorem Rp.k65 {p s : Nat} (hz : Rp A h σ ρ) (hv : vdb (A 16 0 0) 1 p s = true) : m_K h (A 1089 p s) = 26 := (hz.1.2.2.1 65 p s 26 60 rfl (by decide) hv).2.1
theorem Rp.n65 {p s : Nat} (hz : Rp A h σ ρ) (hv : vdb (A 16 0 0) 1 p s = true) : m_N h (A 1089 p s) = 60 := (hz.1.2.2.1 65 p s 26 60 rfl (by decide) hv).2.2
theorem Rp.r200 {p s : Nat} (hz : Rp A h σ ρ) (hv : vdb (A 16 0 0) 3 p s = true) : m_R h 200 (A 3 p s) = some (A 1224 p s) := (hz.1.2.2.1 200 p s 21 1500 rfl (by decide) hv).1 (by decide)
theorem Rp.k200 {p s : Nat} (hz : Rp A h σ ρ) (hv : vdb (A 16 0 0) 3 p s = true) : m_K h (A 1224 p s) = 21 := (hz.1.2.2.1 200 p s 21 1500 rfl (by decide) hv).2.1
theorem Rp.n200 {p s : Nat} (hz : Rp A h σ ρ) (hv : vdb (A 16 0 0) 3 p s = true) : m_N h (A 1224 p s) = 1500 := (hz.1.2.2.1 200 p s 21 1500 rfl (by decide) hv).2.2
theorem Rp.x200 {p s i : Nat} (hz : Rp A h σ ρ) (hv : vdb (A 16 0 0) 3 p s = true) : m_Y h (A 1224 p s) i = zJ σ 1224 p s i := (hz.2.1.2 200 p s i (by decide) hv rfl).2
theorem Rp.s200 {p s i : Nat} {v : Int64} (hz : Rp A h σ ρ) (hv : vdb (A 16 0 0) 3 p s = true) : Rp A (p_Y h (A 1224 p s) i v) (sJ σ 1224 p s i v) ρ := hz.uY (f := 200) hv (by decide) rfl rfl
theorem Rp.r320 {p s : Nat} (hz : Rp A h σ ρ) (hv : vdb (A 16 0 0) 5 p s = true) : m_R h 320 (A 5 p s) = some (A 1344 p s) := (hz.1.2.2.1 320 p s 27 12 rfl (by decide) hv).1 (by decide)
theorem Rp.k320 {p s : Nat} (hz : Rp A h σ ρ) (hv : vdb (A 16 0 0) 5 p s = true) : m_K h (A 1344 p s) = 27 := (hz.1.2.2.1 320 p s 27 12 rfl (by decide) hv).2.1
theorem Rp.n320 {p s : Nat} (hz : Rp A h σ ρ) (hv : vdb (A 16 0 0) 5 p s = true) : m_N h (A 1344 p s) = 12 := (hz.1.2.2.1 320 p s 27 12 rfl (by decide) hv).2.2
theorem Rp.r322 {p s : Nat} (hz : Rp A h σ ρ) (hv : vdb (A 16 0 0) 5 p s = true) : m_R h 322 (A 5 p s) = some (A 1346 p s) := (hz.1.2.2.1 322 p s 24 8 rfl (by decide) hv).1 (by decide)
theorem Rp.k322 {p s : Nat} (hz : Rp A h σ ρ) (hv : vdb (A 16 0 0) 5 p s = true) : m_K h (A 1346 p s) = 24 := (hz.1.2.2.1 322 p s 24 8 rfl (by decide) hv).2.1
theorem Rp.n322 {p s : Nat} (hz : Rp A h σ ρ) (hv : vdb (A 16 0 0) 5 p s = true) : m_N h (A 1346 p s) = 8 := (hz.1.2.2.1 322 p s 24 8 rfl (by decide) hv).2.2
theorem Rp.r324 {p s : Nat} (hz : Rp A h σ ρ) (hv : vdb (A 16 0 0) 5 p s = true) : m_R h 324 (A 5 p s) = some (A 1348 p s) := (hz.1.2.2.1 324 p s 20 1500 rfl (by decide) hv).1 (by decide)
theorem Rp.k324 {p s : Nat} (hz : Rp A h σ ρ) (hv : vdb (A 16 0 0) 5 p s = true) : m_K h (A 1348 p s) = 20 := (hz.1.2.2.1 324 p s 20 1500 rfl (by decide) hv).2.1
theorem Rp.n324 {p s : Nat} (hz : Rp A h σ ρ) (hv : vdb (A 16 0 0) 5 p s = true) : m_N h (A 1348 p s) = 1500 := (hz.1.2.2.1 324 p s 20 1500 rfl (by decide) hv).2.2
theorem Rp.x324 {p s i : Nat} (hz : Rp A h σ ρ) (hv : vdb (A 16 0 0) 5 p s = true) : m_X h (A 1348 p s) i = zI σ 1348 p s i := (hz.2.1.2 324 p s i (by decide) hv rfl).1
theorem Rp.s324 {p s i : Nat} {v : Int32} (hz : Rp A h σ ρ) (hv : vdb (A 16 0 0) 5 p s = true) : Rp A (p_X h (A 1348 p s) i v) (sI σ 1348 p s i v) ρ := hz.uX (f := 324) hv (by decide) rfl rfl
theorem Rp.r325 {p s : Nat} (hz : Rp A h σ ρ) (hv : vdb (A 16 0 0) 5 p s = true) : m_R h 325 (A 5 p s) = some (A 1349 p s) := (hz.1.2.2.1 325 p s 21 1500 rfl (by decide) hv).1 (by decide)
theorem Rp.k325 {p s : Nat} (hz : Rp A h σ ρ) (hv : vdb (A 16 0 0) 5 p s = true) : m_K h (A 1349 p s) = 21 := (hz.1.2.2.1 325 p s 21 1500 rfl (by decide) hv).2.1
theorem Rp.n325 {p s : Nat} (hz : Rp A h σ ρ) (hv : vdb (A 16 0 0) 5 p s = true) : m_N h (A 1349 p s) = 1500 := (hz.1.2.2.1 325 p s 21 1500 rfl (by decide) hv).2.2
theorem Rp.x325 {p s i : Nat} (hz : Rp A h σ ρ) (hv : vdb (A 16 0 0) 5 p s = true) : m_Y h (A 1349 p s) i = zJ σ 1349 p s i := (hz.2.1.2 325 p s i (by decide) hv rfl).2
theorem Rp.s325 {p s i : Nat} {v : Int64} (hz : Rp A h σ ρ) (hv : vdb (A 16 0 0) 5 p s = true) : Rp A (p_Y h (A 1349 p s) i v) (sJ σ 1349 p s i v) ρ := hz.uY (f := 325) hv (by decide) rfl rfl
theorem Rp.r327 {p s : Nat} (hz : Rp A h σ ρ) (hv : vdb (A 16 0 0) 5 p s = true) : m_R h 327 (A 5 p s) = some (A 1351 p s) := (hz.1.2.2.1 327 p s 21 60 rfl (by decide) hv).1 (by decide)
theorem Rp.k327 {p s : Nat} (hz : Rp A h σ ρ) (hv : vdb (A 16 0 0) 5 p s = true) : m_K h (A 1351 p s) = 21 := (hz.1.2.2.1 327 p s 21 60 rfl (by decide) hv).2.1
theorem Rp.n327 {p s : Nat} (hz : Rp A h σ ρ) (hv : vdb (A 16 0 0) 5 p s = true) : m_N h (A 1351 p s) = 60 := (hz.1.2.2.1 327 p s 21 60 rfl (by decide) hv).2.2
theorem Rp.x327 {p s i : Nat} (hz : Rp A h σ ρ) (hv : vdb (A 16 0 0) 5 p s = true) : m_Y h (A 1351 p s) i = zJ σ 1351 p s i := (hz.2.1.2 327 p s i (by decide) hv rfl).2
theorem Rp.s327 {p s i : Nat} {v : Int64} (hz : Rp A h σ ρ) (hv : vdb (A 16 0 0) 5 p s = true) : Rp A (p_Y h (A 1351 p s) i v) (sJ σ 1351 p s i v) ρ := hz.uY (f := 327) hv (by decide) rfl rfl
theorem Rp.r386 {p s : Nat} (hz : Rp A h σ ρ) (hv : vdb (A 16 0 0) 6 p s = true) : m_R h 386 (A 6 p s) = some (A 1410 p s) := (hz.1.2.2.1 386 p s 21 6 rfl (by decide) hv).1 (by decide)
theorem Rp.k386 {p s : Nat} (hz : Rp A h σ ρ) (hv : vdb (A 16 0 0) 6 p s = true) : m_K h (A 1410 p s) = 21 := (hz.1.2.2.1 386 p s 21 6 rfl (by decide) hv).2.1
theorem Rp.n386 {p s : Nat} (hz : Rp A h σ ρ) (hv : vdb (A 16 0 0) 6 p s = true) : m_N h (A 1410 p s) = 6 := (hz.1.2.2.1 386 p s 21 6 rfl (by decide) hv).2.2
theorem Rp.x386 {p s i : Nat} (hz : Rp A h σ ρ) (hv : vdb (A 16 0 0) 6 p s = true) : m_Y h (A 1410 p s) i = zJ σ 1410 p s i := (hz.2.1.2 386 p s i (by decide) hv rfl).2
theorem Rp.s386 {p s i : Nat} {v : Int64} (hz : Rp A h σ ρ) (hv : vdb (A 16 0 0) 6 p s = true) : Rp A (p_Y h (A 1410 p s) i v) (sJ σ 1410 p s i v) ρ := hz.uY (f := 386) hv (by decide) rfl rfl
theorem Rp.r451 {p s : Nat} (hz : Rp A h σ ρ) (hv : vdb (A 16 0 0) 7 p s = true) : m_R h 451 (A 7 p s) = some (A 1475 p s) := (hz.1.2.2.1 451 p s 21 6 rfl (by decide) hv).1 (by decide)
theorem Rp.k451 {p s : Nat} (hz : Rp A h σ ρ) (hv : vdb (A 16 0 0) 7 p s = true) : m_K h (A 1475 p s) = 21 := (hz.1.2.2.1 451 p s 21 6 rfl (by decide) hv).2.1
theorem Rp.n451 {p s : Nat} (hz : Rp A h σ ρ) (hv : vdb (A 16 0 0) 7 p s = true) : m_N h (A 1475 p s) = 6 := (hz.1.2.2.1 451 p s 21 6 rfl (by decide) hv).2.2
theorem Rp.x451 {p s i : Nat} (hz : Rp A h σ ρ) (hv : vdb (A 16 0 0) 7 p s = true) : m_Y h (A 1475 p s) i = zJ σ 1475 p s i := (hz.2.1.2 451 p s i (by decide) hv rfl).2
theorem Rp.s451 {p s i : Nat} {v : Int64} (hz : Rp A h σ ρ) (hv : vdb (A 16 0 0) 7 p s = true) : Rp A (p_Y h (A 1475 p s) i v) (sJ σ 1475 p s i v) ρ := hz.uY (f := 451) hv (by decide) rfl rfl
theorem Rp.r452 {p s : Nat} (hz : Rp A h σ ρ) (hv : vdb (A 16 0 0) 7 p s = true) : m_R h 452 (A 7 p s) = some (A 1476 p s) := (hz.1.2.2.1 452 p s 20 2 rfl (by decide) hv).1 (by decide)
theorem Rp.k452 {p s : Nat} (hz : Rp A h σ ρ) (hv : vdb (A 16 0 0) 7 p s = true) : m_K h (A 1476 p s) = 20 := (hz.1.2.2.1 452 p s 20 2 rfl (by decide) hv).2.1
theorem Rp.n452 {p s : Nat} (hz : Rp A h σ ρ) (hv : vdb (A 16 0 0) 7 p s = true) : m_N h (A 1476 p s) = 2 := (hz.1.2.2.1 452 p s 20 2 rfl (by decide) hv).2.2
theorem Rp.x452 {p s i : Nat} (hz : Rp A h σ ρ) (hv : vdb (A 16 0 0) 7 p s = true) : m_X h (A 1476 p s) i = zI σ 1476 p s i := (hz.2.1.2 452 p s i (by decide) hv rfl).1
theorem Rp.s452 {p s i : Nat} {v : Int32} (hz : Rp A h σ ρ) (hv : vdb (A 16 0 0) 7 p s = true) : Rp A (p_X h (A 1476 p s) i v) (sI σ 1476 p s i v) ρ := hz.uX (f := 452) hv (by decide) rfl rfl
theorem Rp.r457 {p s : Nat} (hz : Rp A h σ ρ) (hv : vdb (A 16 0 0) 7 p s = true) : m_R h 457 (A 7 p s) = some (A 1481 p s) := (hz.1.2.2.1 457 p s 20 6 rfl (by decide) hv).1 (by decide)
theorem Rp.k457 {p s : Nat} (hz : Rp A h σ ρ) (hv : vdb (A 16 0 0) 7 p s = true) : m_K h (A 1481 p s) = 20 := (hz.1.2.2.1 457 p s 20 6 rfl (by decide) hv).2.1
theorem Rp.n457 {p s : Nat} (hz : Rp A h σ ρ) (hv : vdb (A 16 0 0) 7 p s = true) : m_N h (A 1481 p s) = 6 := (hz.1.2.2.1 457 p s 20 6 rfl (by decide) hv).2.2
theorem Rp.x457 {p s i : Nat} (hz : Rp A h σ ρ) (hv : vdb (A 16 0 0) 7 p s = true) : m_X h (A 1481 p s) i = zI σ 1481 p s i := (hz.2.1.2 457 p s i (by decide) hv rfl).1
theorem Rp.s457 {p s i : Nat} {v : Int32} (hz : Rp A h σ ρ) (hv : vdb (A 16 0 0) 7 p s = true) : Rp A (p_X h (A 1481 p s) i v) (sI σ 1481 p s i v) ρ := hz.uX (f := 457) hv (by decide) rfl rfl
theorem Rp.r458 {p s : Nat} (hz : Rp A h σ ρ) (hv : vdb (A 16 0 0) 7 p s = true) : m_R h 458 (A 7 p s) = some (A 1482 p s) := (hz.1.2.2.1 458 p s 20 6 rfl (by decide) hv).1 (by decide)
theorem Rp.k458 {p s : Nat} (hz : Rp A h σ ρ) (hv : vdb (A 16 0 0) 7 p s = true) : m_K h (A 1482 p s) = 20 := (hz.1.2.2.1 458 p s 20 6 rfl (by decide) hv).2.1
theorem Rp.n458 {p s : Nat} (hz : Rp A h σ ρ) (hv : vdb (A 16 0 0) 7 p s = true) : m_N h (A 1482 p s) = 6 := (hz.1.2.2.1 458 p s 20 6 rfl (by decide) hv).2.2
theorem Rp.x458 {p s i : Nat} (hz : Rp A h σ ρ) (hv : vdb (A 16 0 0) 7 p s = true) : m_X h (A 1482 p s) i = zI σ 1482 p s i := (hz.2.1.2 458 p s i (by decide) hv rfl).1
theorem Rp.s458 {p s i : Nat} {v : Int32} (hz : Rp A h σ ρ) (hv : vdb (A 16 0 0) 7 p s = true) : Rp A (p_X h (A 1482 p s) i v) (sI σ 1482 p s i v) ρ := hz.uX (f := 458) hv (by decide) rfl rfl
theorem Rp.r459 {p s : Nat} (hz : Rp A h σ ρ) (hv : vdb (A 16 0 0) 7 p s = true) : m_R h 459 (A 7 p s) = some (A 1483 p s) := (hz.1.2.2.1 459 p s 20 6 rfl (by decide) hv).1 (by decide)
theorem Rp.k459 {p s : Nat} (hz : Rp A h σ ρ) (hv : vdb (A 16 0 0) 7 p s = true) : m_K h (A 1483 p s) = 20 := (hz.1.2.2.1 459 p s 20 6 rfl (by decide) hv).2.1
theorem Rp.n459 {p s : Nat} (hz : Rp A h σ ρ) (hv : vdb (A 16 0 0) 7 p s = true) : m_N h (A 1483 p s) = 6 := (hz.1.2.2.1 459 p s 20 6 rfl (by decide) hv).2.2
theorem Rp.x459 {p s i : Nat} (hz : Rp A h σ ρ) (hv : vdb (A 16 0 0) 7 p s = true) : m_X h (A 1483 p s) i = zI σ 1483 p s i := (hz.2.1.2 459 p s i (by decide) hv rfl).1
theorem Rp.s459 {p s i : Nat} {v : Int32} (hz : Rp A h σ ρ) (hv : vdb (A 16 0 0) 7 p s = true) : Rp A (p_X h (A 1483 p s) i v) (sI σ 1483 p s i v) ρ := hz.uX (f := 459) hv (by decide) rfl rfl
theorem Rp.r462 {p s : Nat} (hz : Rp A h σ ρ) (hv : vdb (A 16 0 0) 7 p s = true) : m_R h 462 (A 7 p s) = some (A 1486 p s) := (hz.1.2.2.1 462 p s 20 2 rfl (by decide) hv).1 (by decide)
theorem Rp.k462 {p s : Nat} (hz : Rp A h σ ρ) (hv : vdb (A 16 0 0) 7 p s = true) : m_K h (A 1486 p s) = 20 := (hz.1.2.2.1 462 p s 20 2 rfl (by decide) hv).2.1
theorem Rp.n462 {p s : Nat} (hz : Rp A h σ ρ) (hv : vdb (A 16 0 0) 7 p s = true) : m_N h (A 1486 p s) = 2 := (hz.1.2.2.1 462 p s 20 2 rfl (by decide) hv).2.2
theorem Rp.x462 {p s i : Nat} (hz : Rp A h σ ρ) (hv : vdb (A 16 0 0) 7 p s = true) : m_X h (A 1486 p s) i = zI σ 1486 p s i := (hz.2.1.2 462 p s i (by decide) hv rfl).1
theorem Rp.s462 {p s i : Nat} {v : Int32} (hz : Rp A h σ ρ) (hv : vdb (A 16 0 0) 7 p s = true) : Rp A (p_X h (A 1486 p s) i v) (sI σ 1486 p s i v) ρ := hz.uX (f := 462) hv (by decide) rfl rfl
theorem Rp.r463 {p s : Nat} (hz : Rp A h σ ρ) (hv : vdb (A 16 0 0) 7 p s = true) : m_R h 463 (A 7 p s) = some (A 1487 p s) := (hz.1.2.2.1 463 p s 23 200 rfl (by decide) hv).1 (by decide)
theorem Rp.k463 {p s : Nat} (hz : Rp A h σ ρ) (hv : vdb (A 16 0 0) 7 p s = true) : m_K h (A 1487 p s) = 23 := (hz.1.2.2.1 463 p s 23 200 rfl (by decide) hv).2.1
theorem Rp.n463 {p s : Nat} (hz : Rp A h σ ρ) (hv : vdb (A 16 0 0) 7 p s = true) : m_N h (A 1487 p s) = 200 := (hz.1.2.2.1 463 p s 23 200 rfl (by decide) hv).2.2
theorem Rp.x463 {p s i : Nat} (hz : Rp A h σ ρ) (hv : vdb (A 16 0 0) 7 p s = true) : m_X h (A 1487 p s) i = zI σ 1487 p s i := (hz.2.1.2 463 p s i (by decide) hv rfl).1
theorem Rp.s463 {p s i : Nat} {v : Int32} (hz : Rp A h σ ρ) (hv : vdb (A 16 0 0) 7 p s = true) : Rp A (p_X h (A 1487 p s) i v) (sI σ 1487 p s i v) ρ := hz.uX (f := 463) hv (by decide) rfl rfl
theorem Rp.r514 {p s : Nat} (hz : Rp A h σ ρ) (hv : vdb (A 16 0 0) 8 p s = true) : m_R h 514 (A 8 p s) = some (A 1538 p s) := (hz.1.2.2.1 514 p s 20 200 rfl (by decide) hv).1 (by decide)
theorem Rp.k514 {p s : Nat} (hz : Rp A h σ ρ) (hv : vdb (A 16 0 0) 8 p s = true) : m_K h (A 1538 p s) = 20 := (hz.1.2.2.1 514 p s 20 200 rfl (by decide) hv).2.1
theorem Rp.n514 {p s : Nat} (hz : Rp A h σ ρ) (hv : vdb (A 16 0 0) 8 p s = true) : m_N h (A 1538 p s) = 200 := (hz.1.2.2.1 514 p s 20 200 rfl (by decide) hv).2.2
theorem Rp.x514 {p s i : Nat} (hz : Rp A h σ ρ) (hv : vdb (A 16 0 0) 8 p s = true) : m_X h (A 1538 p s) i = zI σ 1538 p s i := (hz.2.1.2 514 p s i (by decide) hv rfl).1
theorem Rp.s514 {p s i : Nat} {v : Int32} (hz : Rp A h σ ρ) (hv : vdb (A 16 0 0) 8 p s = true) : Rp A (p_X h (A 1538 p s) i v) (sI σ 1538 p s i v) ρ := hz.uX (f := 514) hv (by decide) rfl rfl
theorem Rp.r515 {p s : Nat} (hz : Rp A h σ ρ) (hv : vdb (A 16 0 0) 8 p s = true) : m_R h 515 (A 8 p s) = some (A 1539 p s) := (hz.1.2.2.1 515 p s 21 1200 rfl (by decide) hv).1 (by decide)
theorem Rp.k515 {p s : Nat} (hz : Rp A h σ ρ) (hv : vdb (A 16 0 0) 8 p s = true) : m_K h (A 1539 p s) = 21 := (hz.1.2.2.1 515 p s 21 1200 rfl (by decide) hv).2.1
theorem Rp.n515 {p s : Nat} (hz : Rp A h σ ρ) (hv : vdb (A 16 0 0) 8 p s = true) : m_N h (A 1539 p s) = 1200 := (hz.1.2.2.1 515 p s 21 1200 rfl (by decide) hv).2.2
theorem Rp.x515 {p s i : Nat} (hz : Rp A h σ ρ) (hv : vdb (A 16 0 0) 8 p s = true) : m_Y h (A 1539 p s) i = zJ σ 1539 p s i := (hz.2.1.2 515 p s i (by decide) hv rfl).2
theorem Rp.s515 {p s i : Nat} {v : Int64} (hz : Rp A h σ ρ) (hv : vdb (A 16 0 0) 8 p s = true) : Rp A (p_Y h (A 1539 p s) i v) (sJ σ 1539 p s i v) ρ := hz.uY (f := 515) hv (by decide) rfl rfl
theorem Rp.r576 {p s : Nat} (hz : Rp A h σ ρ) (hv : vdb (A 16 0 0) 9 p s = true) : m_R h 576 (A 9 p s) = some (A 1600 p s) := (hz.1.2.2.1 576 p s 20 1501 rfl (by decide) hv).1 (by decide)
theorem Rp.k576 {p s : Nat} (hz : Rp A h σ ρ) (hv : vdb (A 16 0 0) 9 p s = true) : m_K h (A 1600 p s) = 20 := (hz.1.2.2.1 576 p s 20 1501 rfl (by decide) hv).2.1
theorem Rp.n576 {p s : Nat} (hz : Rp A h σ ρ) (hv : vdb (A 16 0 0) 9 p s = true) : m_N h (A 1600 p s) = 1501 := (hz.1.2.2.1 576 p s 20 1501 rfl (by decide) hv).2.2
theorem Rp.x576 {p s i : Nat} (hz : Rp A h σ ρ) (hv : vdb (A 16 0 0) 9 p s = true) : m_X h (A 1600 p s) i = zI σ 1600 p s i := (hz.2.1.2 576 p s i (by decide) hv rfl).1
theorem Rp.s576 {p s i : Nat} {v : Int32} (hz : Rp A h σ ρ) (hv : vdb (A 16 0 0) 9 p s = true) : Rp A (p_X h (A 1600 p s) i v) (sI σ 1600 p s i v) ρ := hz.uX (f := 576) hv (by decide) rfl rfl
theorem Rp.r577 {p s : Nat} (hz : Rp A h σ ρ) (hv : vdb (A 16 0 0) 9 p s = true) : m_R h 577 (A 9 p s) = some (A 1601 p s) := (hz.1.2.2.1 577 p s 20 1501 rfl (by decide) hv).1 (by decide)
theorem Rp.k577 {p s : Nat} (hz : Rp A h σ ρ) (hv : vdb (A 16 0 0) 9 p s = true) : m_K h (A 1601 p s) = 20 := (hz.1.2.2.1 577 p s 20 1501 rfl (by decide) hv).2.1
theorem Rp.n577 {p s : Nat} (hz : Rp A h σ ρ) (hv : vdb (A 16 0 0) 9 p s = true) : m_N h (A 1601 p s) = 1501 := (hz.1.2.2.1 577 p s 20 1501 rfl (by decide) hv).2.2
theorem Rp.x577 {p s i : Nat} (hz : Rp A h σ ρ) (hv : vdb (A 16 0 0) 9 p s = true) : m_X h (A 1601 p s) i = zI σ 1601 p s i := (hz.2.1.2 577 p s i (by decide) hv rfl).1
theorem Rp.s577 {p s i : Nat} {v : Int32} (hz : Rp A h σ ρ) (hv : vdb (A 16 0 0) 9 p s = true) : Rp A (p_X h (A 1601 p s) i v) (sI σ 1601 p s i v) ρ := hz.uX (f := 577) hv (by decide) rfl rfl
theorem Rp.r578 {p s : Nat} (hz : Rp A h σ ρ) (hv : vdb (A 16 0 0) 9 p s = true) : m_R h 578 (A 9 p s) = some (A 1602 p s) := (hz.1.2.2.1 578 p s 21 1501 rfl (by decide) hv).1 (by decide)
theorem Rp.k578 {p s : Nat} (hz : Rp A h σ ρ) (hv : vdb (A 16 0 0) 9 p s = true) : m_K h (A 1602 p s) = 21 := (hz.1.2.2.1 578 p s 21 1501 rfl (by decide) hv).2.1
theorem Rp.n578 {p s : Nat} (hz : Rp A h σ ρ) (hv : vdb (A 16 0 0) 9 p s = true) : m_N h (A 1602 p s) = 1501 := (hz.1.2.2.1 578 p s 21 1501 rfl (by decide) hv).2.2
theorem Rp.x578 {p s i : Nat} (hz : Rp A h σ ρ) (hv : vdb (A 16 0 0) 9 p s = true) : m_Y h (A 1602 p s) i = zJ σ 1602 p s i := (hz.2.1.2 578 p s i (by decide) hv rfl).2
theorem Rp.s578 {p s i : Nat} {v : Int64} (hz : Rp A h σ ρ) (hv : vdb (A 16 0 0) 9 p s = true) : Rp A (p_Y h (A 1602 p s) i v) (sJ σ 1602 p s i v) ρ := hz.uY (f := 578) hv (by decide) rfl rfl
theorem Rp.r579 {p s : Nat} (hz : Rp A h σ ρ) (hv : vdb (A 16 0 0) 9 p s = true) : m_R h 579 (A 9 p s) = some (A 1603 p s) := (hz.1.2.2.1 579 p s 21 32 rfl (by decide) hv).1 (by decide)
theorem Rp.k579 {p s : Nat} (hz : Rp A h σ ρ) (hv : vdb (A 16 0 0) 9 p s = true) : m_K h (A 1603 p s) = 21 := (hz.1.2.2.1 579 p s 21 32 rfl (by decide) hv).2.1
theorem Rp.n579 {p s : Nat} (hz : Rp A h σ ρ) (hv : vdb (A 16 0 0) 9 p s = true) : m_N h (A 1603 p s) = 32 := (hz.1.2.2.1 579 p s 21 32 rfl (by decide) hv).2.2
theorem Rp.x579 {p s i : Nat} (hz : Rp A h σ ρ) (hv : vdb (A 16 0 0) 9 p s = true) : m_Y h (A 1603 p s) i = zJ σ 1603 p s i := (hz.2.1.2 579 p s i (by decide) hv rfl).2
theorem Rp.s579 {p s i : Nat} {v : Int64} (hz : Rp A h σ ρ) (hv : vdb (A 16 0 0) 9 p s = true) : Rp A (p_Y h (A 1603 p s) i v) (sJ σ 1603 p s i v) ρ := hz.uY (f := 579) hv (by decide) rfl rfl
theorem Rp.r641 {p s : Nat} (hz : Rp A h σ ρ) (hv : vdb (A 16 0 0) 10 p s = true) : m_R h 641 (A 10 p s) = some (A 1665 p s) := (hz.1.2.2.1 641 p s 21 60 rfl (by decide) hv).1 (by decide)
theorem Rp.k641 {p s : Nat} (hz : Rp A h σ ρ) (hv : vdb (A 16 0 0) 10 p s = true) : m_K h (A 1665 p s) = 21 := (hz.1.2.2.1 641 p s 21 60 rfl (by decide) hv).2.1
theorem Rp.n641 {p s : Nat} (hz : Rp A h σ ρ) (hv : vdb (A 16 0 0) 10 p s = true) : m_N h (A 1665 p s) = 60 := (hz.1.2.2.1 641 p s 21 60 rfl (by decide) hv).2.2
theorem Rp.x641 {p s i : Nat} (hz : Rp A h σ ρ) (hv : vdb (A 16 0 0) 10 p s = true) : m_Y h (A 1665 p s) i = zJ σ 1665 p s i := (hz.2.1.2 641 p s i (by decide) hv rfl).2
theorem Rp.s641 {p s i : Nat} {v : Int64} (hz : Rp A h σ ρ) (hv : vdb (A 16 0 0) 10 p s = true) : Rp A (p_Y h (A 1665 p s) i v) (sJ σ 1665 p s i v) ρ := hz.uY (f := 641) hv (by decide) rfl rfl
theorem Rp.r642 {p s : Nat} (hz : Rp A h σ ρ) (hv : vdb (A 16 0 0) 10 p s = true) : m_R h 642 (A 10 p s) = some (A 1666 p s) := (hz.1.2.2.1 642 p s 20 60 rfl (by decide) hv).1 (by decide)
theorem Rp.k642 {p s : Nat} (hz : Rp A h σ ρ) (hv : vdb (A 16 0 0) 10 p s = true) : m_K h (A 1666 p s) = 20 := (hz.1.2.2.1 642 p s 20 60 rfl (by decide) hv).2.1
theorem Rp.n642 {p s : Nat} (hz : Rp A h σ ρ) (hv : vdb (A 16 0 0) 10 p s = true) : m_N h (A 1666 p s) = 60 := (hz.1.2.2.1 642 p s 20 60 rfl (by decide) hv).2.2
theorem Rp.x642 {p s i : Nat} (hz : Rp A h σ ρ) (hv : vdb (A 16 0 0) 10 p s = true) : m_X h (A 1666 p s) i = zI σ 1666 p s i := (hz.2.1.2 642 p s i (by decide) hv rfl).1
theorem Rp.s642 {p s i : Nat} {v : Int32} (hz : Rp A h σ ρ) (hv : vdb (A 16 0 0) 10 p s = true) : Rp A (p_X h (A 1666 p s) i v) (sI σ 1666 p s i v) ρ := hz.uX (f := 642) hv (by decide) rfl rfl
theorem Rp.r643 {p s : Nat} (hz : Rp A h σ ρ) (hv : vdb (A 16 0 0) 10 p s = true) : m_R h 643 (A 10 p s) = some (A 1667 p s) := (hz.1.2.2.1 643 p s 23 60 rfl (by decide) hv).1 (by decide)
theorem Rp.k643 {p s : Nat} (hz : Rp A h σ ρ) (hv : vdb (A 16 0 0) 10 p s = true) : m_K h (A 1667 p s) = 23 := (hz.1.2.2.1 643 p s 23 60 rfl (by decide) hv).2.1
theorem Rp.n643 {p s : Nat} (hz : Rp A h σ ρ) (hv : vdb (A 16 0 0) 10 p s = true) : m_N h (A 1667 p s) = 60 := (hz.1.2.2.1 643 p s 23 60 rfl (by decide) hv).2.2
theorem Rp.x643 {p s i : Nat} (hz : Rp A h σ ρ) (hv : vdb (A 16 0 0) 10 p s = true) : m_X h (A 1667 p s) i = zI σ 1667 p s i := (hz.2.1.2 643 p s i (by decide) hv rfl).1
theorem Rp.s643 {p s i : Nat} {v : Int32} (hz : Rp A h σ ρ) (hv : vdb (A 16 0 0) 10 p s = true) : Rp A (p_X h (A 1667 p s) i v) (sI σ 1667 p s i v) ρ := hz.uX (f := 643) hv (by decide) rfl rfl
theorem Rp.r644 {p s : Nat} (hz : Rp A h σ ρ) (hv : vdb (A 16 0 0) 10 p s = true) : m_R h 644 (A 10 p s) = some (A 1668 p s) := (hz.1.2.2.1 644 p s 20 60 rfl (by decide) hv).1 (by decide)
theorem Rp.k644 {p s : Nat} (hz : Rp A h σ ρ) (hv : vdb (A 16 0 0) 10 p s = true) : m_K h (A 1668 p s) = 20 := (hz.1.2.2.1 644 p s 20 60 rfl (by decide) hv).2.1
theorem Rp.n644 {p s : Nat} (hz : Rp A h σ ρ) (hv : vdb (A 16 0 0) 10 p s = true) : m_N h (A 1668 p s) = 60 := (hz.1.2.2.1 644 p s 20 60 rfl (by decide) hv).2.2
theorem Rp.x644 {p s i : Nat} (hz : Rp A h σ ρ) (hv : vdb (A 16 0 0) 10 p s = true) : m_X h (A 1668 p s) i = zI σ 1668 p s i := (hz.2.1.2 644 p s i (by decide) hv rfl).1
theorem Rp.s644 {p s i : Nat} {v : Int32} (hz : Rp A h σ ρ) (hv : vdb (A 16 0 0) 10 p s = true) : Rp A (p_X h (A 1668 p s) i v) (sI σ 1668 p s i v) ρ := hz.uX (f := 644) hv (by decide) rfl rfl
theorem Rp.r645 {p s : Nat} (hz : Rp A h σ ρ) (hv : vdb (A 16 0 0) 10 p s = true) : m_R h 645 (A 10 p s) = some (A 1669 p s) := (hz.1.2.2.1 645 p s 21 240 rfl (by decide) hv).1 (by decide)
theorem Rp.k645 {p s : Nat} (hz : Rp A h σ ρ) (hv : vdb (A 16 0 0) 10 p s = true) : m_K h (A 1669 p s) = 21 := (hz.1.2.2.1 645 p s 21 240 rfl (by decide) hv).2.1
theorem Rp.n645 {p s : Nat} (hz : Rp A h σ ρ) (hv : vdb (A 16 0 0) 10 p s = true) : m_N h (A 1669 p s) = 240 := (hz.1.2.2.1 645 p s 21 240 rfl (by decide) hv).2.2
theorem Rp.x645 {p s i : Nat} (hz : Rp A h σ ρ) (hv : vdb (A 16 0 0) 10 p s = true) : m_Y h (A 1669 p s) i = zJ σ 1669 p s i := (hz.2.1.2 645 p s i (by decide) hv rfl).2
theorem Rp.s645 {p s i : Nat} {v : Int64} (hz : Rp A h σ ρ) (hv : vdb (A 16 0 0) 10 p s = true) : Rp A (p_Y h (A 1669 p s) i v) (sJ σ 1669 p s i v) ρ := hz.uY (f := 645) hv (by decide) rfl rfl
theorem Rp.r704 {p s : Nat} (hz : Rp A h σ ρ) (hv : vdb (A 16 0 0) 11 p s = true) : m_R h 704 (A 11 p s) = some (A 1728 p s) := (hz.1.2.2.1 704 p s 22 1500 rfl (by decide) hv).1 (by decide)
theorem Rp.k704 {p s : Nat} (hz : Rp A h σ ρ) (hv : vdb (A 16 0 0) 11 p s = true) : m_K h (A 1728 p s) = 22 := (hz.1.2.2.1 704 p s 22 1500 rfl (by decide) hv).2.1
theorem Rp.n704 {p s : Nat} (hz : Rp A h σ ρ) (hv : vdb (A 16 0 0) 11 p s = true) : m_N h (A 1728 p s) = 1500 := (hz.1.2.2.1 704 p s 22 1500 rfl (by decide) hv).2.2
theorem Rp.x704 {p s i : Nat} (hz : Rp A h σ ρ) (hv : vdb (A 16 0 0) 11 p s = true) : m_X h (A 1728 p s) i = zI σ 1728 p s i := (hz.2.1.2 704 p s i (by decide) hv rfl).1
theorem Rp.s704 {p s i : Nat} {v : Int32} (hz : Rp A h σ ρ) (hv : vdb (A 16 0 0) 11 p s = true) : Rp A (p_X h (A 1728 p s) i v) (sI σ 1728 p s i v) ρ := hz.uX (f := 704) hv (by decide) rfl rfl
theorem Rp.r715 {p s : Nat} (hz : Rp A h σ ρ) (hv : vdb (A 16 0 0) 11 p s = true) : m_R h 715 (A 11 p s) = some (A 1739 p s) := (hz.1.2.2.1 715 p s 25 200 rfl (by decide) hv).1 (by decide)
theorem Rp.k715 {p s : Nat} (hz : Rp A h σ ρ) (hv : vdb (A 16 0 0) 11 p s = true) : m_K h (A 1739 p s) = 25 := (hz.1.2.2.1 715 p s 25 200 rfl (by decide) hv).2.1
theorem Rp.n715 {p s : Nat} (hz : Rp A h σ ρ) (hv : vdb (A 16 0 0) 11 p s = true) : m_N h (A 1739 p s) = 200 := (hz.1.2.2.1 715 p s 25 200 rfl (by decide) hv).2.2
theorem Rp.r717 {p s : Nat} (hz : Rp A h σ ρ) (hv : vdb (A 16 0 0) 11 p s = true) : m_R h 717 (A 11 p s) = some (A 1741 p s) := (hz.1.2.2.1 717 p s 20 8 rfl (by decide) hv).1 (by decide)
theorem Rp.k717 {p s : Nat} (hz : Rp A h σ ρ) (hv : vdb (A 16 0 0) 11 p s = true) : m_K h (A 1741 p s) = 20 := (hz.1.2.2.1 717 p s 20 8 rfl (by decide) hv).2.1
theorem Rp.n717 {p s : Nat} (hz : Rp A h σ ρ) (hv : vdb (A 16 0 0) 11 p s = true) : m_N h (A 1741 p s) = 8 := (hz.1.2.2.1 717 p s 20 8 rfl (by decide) hv).2.2
theorem Rp.x717 {p s i : Nat} (hz : Rp A h σ ρ) (hv : vdb (A 16 0 0) 11 p s = true) : m_X h (A 1741 p s) i = zI σ 1741 p s i := (hz.2.1.2 717 p s i (by decide) hv rfl).1
theorem Rp.s717 {p s i : Nat} {v : Int32} (hz : Rp A h σ ρ) (hv : vdb (A 16 0 0) 11 p s = true) : Rp A (p_X h (A 1741 p s) i v) (sI σ 1741 p s i v) ρ := hz.uX (f := 717) hv (by decide) rfl rfl
theorem Rp.i0 {p s : Nat} (hz : Rp A h σ ρ) (hv : vdb (A 16 0 0) 0 p s = true) : m_I h 0 (A 0 p s) = zI σ 0 p s 0 := (hz.2.1.1 0 p s (by decide) hv).1
theorem Rp.s0 {p s : Nat} {v : Int32} (hz : Rp A h σ ρ) (hv : vdb (A 16 0 0) 0 p s = true) : Rp A (p_I h 0 (A 0 p s) v) (sI σ 0 p s 0 v) ρ := hz.uI (f := 0) hv (by decide) (by decide) rfl
theorem Rp.i1 {p s : Nat} (hz : Rp A h σ ρ) (hv : vdb (A 16 0 0) 0 p s = true) : m_I h 1 (A 0 p s) = zI σ 1 p s 0 := (hz.2.1.1 1 p s (by decide) hv).1
theorem Rp.s1 {p s : Nat} {v : Int32} (hz : Rp A h σ ρ) (hv : vdb (A 16 0 0) 0 p s = true) : Rp A (p_I h 1 (A 0 p s) v) (sI σ 1 p s 0 v) ρ := hz.uI (f := 1) hv (by decide) (by decide) rfl
theorem Rp.i2 {p s : Nat} (hz : Rp A h σ ρ) (hv : vdb (A 16 0 0) 0 p s = true) : m_I h 2 (A 0 p s) = zI σ 2 p s 0 := (hz.2.1.1 2 p s (by decide) hv).1
theorem Rp.s2 {p s : Nat} {v : Int32} (hz : Rp A h σ ρ) (hv : vdb (A 16 0 0) 0 p s = true) : Rp A (p_I h 2 (A 0 p s) v) (sI σ 2 p s 0 v) ρ := hz.uI (f := 2) hv (by decide) (by decide) rfl
theorem Rp.i3 {p s : Nat} (hz : Rp A h σ ρ) (hv : vdb (A 16 0 0) 0 p s = true) : m_I h 3 (A 0 p s) = zI σ 3 p s 0 := (hz.2.1.1 3 p s (by decide) hv).1
theorem Rp.s3 {p s : Nat} {v : Int32} (hz : Rp A h σ ρ) (hv : vdb (A 16 0 0) 0 p s = true) : Rp A (p_I h 3 (A 0 p s) v) (sI σ 3 p s 0 v) ρ := hz.uI (f := 3) hv (by decide) (by decide) rfl
theorem Rp.i4 {p s : Nat} (hz : Rp A h σ ρ) (hv : vdb (A 16 0 0) 0 p s = true) : m_I h 4 (A 0 p s) = zI σ 4 p s 0 := (hz.2.1.1 4 p s (by decide) hv).1
theorem Rp.s4 {p s : Nat} {v : Int32} (hz : Rp A h σ ρ) (hv : vdb (A 16 0 0) 0 p s = true) : Rp A (p_I h 4 (A 0 p s) v) (sI σ 4 p s 0 v) ρ := hz.uI (f := 4) hv (by decide) (by decide) rfl
theorem Rp.r64 {p s : Nat} (hz : Rp A h σ ρ) (hv : vdb (A 16 0 0) 1 p s = true) : m_R h 64 (A 1 p s) = some (A 5 (zR σ 64 p s 0).1 (zR σ 64 p s 0).2) := (hz.2.2.1 64 p s 5 rfl hv (fun q => absurd q (by decide))).2
theorem Rp.w64 {p s : Nat} (hz : Rp A h σ ρ) (hv : vdb (A 16 0 0) 1 p s = true) : vdb (A 16 0 0) 5 (zR σ 64 p s 0).1 (zR σ 64 p s 0).2 = true := (hz.2.2.1 64 p s 5 rfl hv (fun q => absurd q (by decide))).1
theorem Rp.s64 {p s p2 s2 : Nat} (hz : Rp A h σ ρ) (hv : vdb (A 16 0 0) 1 p s = true) (hv2 : vdb (A 16 0 0) 5 p2 s2 = true) : Rp A (p_R h 64 (A 1 p s) (some (A 5 p2 s2))) (sR σ 64 p s 0 (p2, s2)) ρ := hz.uR (f := 64) hv (by decide) rfl (fun _ _ => rfl) rfl hv2 rfl
theorem Rp.i66 {p s : Nat} (hz : Rp A h σ ρ) (hv : vdb (A 16 0 0) 1 p s = true) : m_I h 66 (A 1 p s) = zI σ 66 p s 0 := (hz.2.1.1 66 p s (by decide) hv).1
theorem Rp.s66 {p s : Nat} {v : Int32} (hz : Rp A h σ ρ) (hv : vdb (A 16 0 0) 1 p s = true) : Rp A (p_I h 66 (A 1 p s) v) (sI σ 66 p s 0 v) ρ := hz.uI (f := 66) hv (by decide) (by decide) rfl
theorem Rp.i67 {p s : Nat} (hz : Rp A h σ ρ) (hv : vdb (A 16 0 0) 1 p s = true) : m_I h 67 (A 1 p s) = zI σ 67 p s 0 := (hz.2.1.1 67 p s (by decide) hv).1
theorem Rp.s67 {p s : Nat} {v : Int32} (hz : Rp A h σ ρ) (hv : vdb (A 16 0 0) 1 p s = true) : Rp A (p_I h 67 (A 1 p s) v) (sI σ 67 p s 0 v) ρ := hz.uI (f := 67) hv (by decide) (by decide) rfl
theorem Rp.i68 {p s : Nat} (hz : Rp A h σ ρ) (hv : vdb (A 16 0 0) 1 p s = true) : m_I h 68 (A 1 p s) = zI σ 68 p s 0 := (hz.2.1.1 68 p s (by decide) hv).1
theorem Rp.s68 {p s : Nat} {v : Int32} (hz : Rp A h σ ρ) (hv : vdb (A 16 0 0) 1 p s = true) : Rp A (p_I h 68 (A 1 p s) v) (sI σ 68 p s 0 v) ρ := hz.uI (f := 68) hv (by decide) (by decide) rfl
theorem Rp.i69 {p s : Nat} (hz : Rp A h σ ρ) (hv : vdb (A 16 0 0) 1 p s = true) : m_I h 69 (A 1 p s) = zI σ 69 p s 0 := (hz.2.1.1 69 p s (by decide) hv).1
theorem Rp.s69 {p s : Nat} {v : Int32} (hz : Rp A h σ ρ) (hv : vdb (A 16 0 0) 1 p s = true) : Rp A (p_I h 69 (A 1 p s) v) (sI σ 69 p s 0 v) ρ := hz.uI (f := 69) hv (by decide) (by decide) rfl
theorem Rp.i70 {p s : Nat} (hz : Rp A h σ ρ) (hv : vdb (A 16 0 0) 1 p s = true) : m_I h 70 (A 1 p s) = zI σ 70 p s 0 := (hz.2.1.1 70 p s (by decide) hv).1
theorem Rp.s70 {p s : Nat} {v : Int32} (hz : Rp A h σ ρ) (hv : vdb (A 16 0 0) 1 p s = true) : Rp A (p_I h 70 (A 1 p s) v) (sI σ 70 p s 0 v) ρ := hz.uI (f := 70) hv (by decide) (by decide) rfl
theorem Rp.r71 {p s : Nat} (hz : Rp A h σ ρ) (hv : vdb (A 16 0 0) 1 p s = true) : m_R h 71 (A 1 p s) = some (A 6 0 0) := hz.1.2.2.2.1 71 p s 6 0 0 rfl hv
theorem Rp.r72 {p s : Nat} (hz : Rp A h σ ρ) (hv : vdb (A 16 0 0) 1 p s = true) : m_R h 72 (A 1 p s) = some (A 6 1 0) := hz.1.2.2.2.1 72 p s 6 1 0 rfl hv
theorem Rp.r73 {p s : Nat} (hz : Rp A h σ ρ) (hv : vdb (A 16 0 0) 1 p s = true) : m_R h 73 (A 1 p s) = some (A 6 2 0) := hz.1.2.2.2.1 73 p s 6 2 0 rfl hv
theorem Rp.i128 {p s : Nat} (hz : Rp A h σ ρ) (hv : vdb (A 16 0 0) 2 p s = true) : m_I h 128 (A 2 p s) = zI σ 128 p s 0 := (hz.2.1.1 128 p s (by decide) hv).1
theorem Rp.s128 {p s : Nat} {v : Int32} (hz : Rp A h σ ρ) (hv : vdb (A 16 0 0) 2 p s = true) : Rp A (p_I h 128 (A 2 p s) v) (sI σ 128 p s 0 v) ρ := hz.uI (f := 128) hv (by decide) (by decide) rfl
theorem Rp.i129 {p s : Nat} (hz : Rp A h σ ρ) (hv : vdb (A 16 0 0) 2 p s = true) : m_J h 129 (A 2 p s) = zJ σ 129 p s 0 := (hz.2.1.1 129 p s (by decide) hv).2
theorem Rp.s129 {p s : Nat} {v : Int64} (hz : Rp A h σ ρ) (hv : vdb (A 16 0 0) 2 p s = true) : Rp A (p_J h 129 (A 2 p s) v) (sJ σ 129 p s 0 v) ρ := hz.uJ (f := 129) hv (by decide) rfl
theorem Rp.r130 {p s : Nat} (hz : Rp A h σ ρ) (hv : vdb (A 16 0 0) 2 p s = true) : m_R h 130 (A 2 p s) = some (A 6 5 s) := hz.1.2.2.2.1 130 p s 6 5 s rfl hv
theorem Rp.i131 {p s : Nat} (hz : Rp A h σ ρ) (hv : vdb (A 16 0 0) 2 p s = true) : m_I h 131 (A 2 p s) = zI σ 131 p s 0 := (hz.2.1.1 131 p s (by decide) hv).1
theorem Rp.s131 {p s : Nat} {v : Int32} (hz : Rp A h σ ρ) (hv : vdb (A 16 0 0) 2 p s = true) : Rp A (p_I h 131 (A 2 p s) v) (sI σ 131 p s 0 v) ρ := hz.uI (f := 131) hv (by decide) (by decide) rfl
theorem Rp.i192 {p s : Nat} (hz : Rp A h σ ρ) (hv : vdb (A 16 0 0) 3 p s = true) : m_I h 192 (A 3 p s) = zI σ 192 p s 0 := (hz.2.1.1 192 p s (by decide) hv).1
theorem Rp.s192 {p s : Nat} {v : Int32} (hz : Rp A h σ ρ) (hv : vdb (A 16 0 0) 3 p s = true) : Rp A (p_I h 192 (A 3 p s) v) (sI σ 192 p s 0 v) ρ := hz.uI (f := 192) hv (by decide) (by decide) rfl
theorem Rp.i193 {p s : Nat} (hz : Rp A h σ ρ) (hv : vdb (A 16 0 0) 3 p s = true) : m_I h 193 (A 3 p s) = zI σ 193 p s 0 := (hz.2.1.1 193 p s (by decide) hv).1
theorem Rp.s193 {p s : Nat} {v : Int32} (hz : Rp A h σ ρ) (hv : vdb (A 16 0 0) 3 p s = true) : Rp A (p_I h 193 (A 3 p s) v) (sI σ 193 p s 0 v) ρ := hz.uI (f := 193) hv (by decide) (by decide) rfl
theorem Rp.r194 {p s : Nat} (hz : Rp A h σ ρ) (hv : vdb (A 16 0 0) 3 p s = true) : m_R h 194 (A 3 p s) = some (A 5 (zR σ 194 p s 0).1 (zR σ 194 p s 0).2) := (hz.2.2.1 194 p s 5 rfl hv (fun q => absurd q (by decide))).2
theorem Rp.w194 {p s : Nat} (hz : Rp A h σ ρ) (hv : vdb (A 16 0 0) 3 p s = true) : vdb (A 16 0 0) 5 (zR σ 194 p s 0).1 (zR σ 194 p s 0).2 = true := (hz.2.2.1 194 p s 5 rfl hv (fun q => absurd q (by decide))).1
theorem Rp.s194 {p s p2 s2 : Nat} (hz : Rp A h σ ρ) (hv : vdb (A 16 0 0) 3 p s = true) (hv2 : vdb (A 16 0 0) 5 p2 s2 = true) : Rp A (p_R h 194 (A 3 p s) (some (A 5 p2 s2))) (sR σ 194 p s 0 (p2, s2)) ρ := hz.uR (f := 194) hv (by decide) rfl (fun _ _ => rfl) rfl hv2 rfl
theorem Rp.r195 {p s : Nat} (hz : Rp A h σ ρ) (hv : vdb (A 16 0 0) 3 p s = true) : m_R h 195 (A 3 p s) = some (A 7 (zR σ 195 p s 0).1 (zR σ 195 p s 0).2) := (hz.2.2.1 195 p s 7 rfl hv (fun q => absurd q (by decide))).2
theorem Rp.w195 {p s : Nat} (hz : Rp A h σ ρ) (hv : vdb (A 16 0 0) 3 p s = true) : vdb (A 16 0 0) 7 (zR σ 195 p s 0).1 (zR σ 195 p s 0).2 = true := (hz.2.2.1 195 p s 7 rfl hv (fun q => absurd q (by decide))).1
theorem Rp.s195 {p s p2 s2 : Nat} (hz : Rp A h σ ρ) (hv : vdb (A 16 0 0) 3 p s = true) (hv2 : vdb (A 16 0 0) 7 p2 s2 = true) : Rp A (p_R h 195 (A 3 p s) (some (A 7 p2 s2))) (sR σ 195 p s 0 (p2, s2)) ρ := hz.uR (f := 195) hv (by decide) rfl (fun _ _ => rfl) rfl hv2 rfl
theorem Rp.r196 {p s : Nat} (hz : Rp A h σ ρ) (hv : vdb (A 16 0 0) 3 p s = true) : m_R h 196 (A 3 p s) = some (A 0 (zR σ 196 p s 0).1 (zR σ 196 p s 0).2) := (hz.2.2.1 196 p s 0 rfl hv (fun q => absurd q (by decide))).2
theorem Rp.w196 {p s : Nat} (hz : Rp A h σ ρ) (hv : vdb (A 16 0 0) 3 p s = true) : vdb (A 16 0 0) 0 (zR σ 196 p s 0).1 (zR σ 196 p s 0).2 = true := (hz.2.2.1 196 p s 0 rfl hv (fun q => absurd q (by decide))).1
theorem Rp.s196 {p s p2 s2 : Nat} (hz : Rp A h σ ρ) (hv : vdb (A 16 0 0) 3 p s = true) (hv2 : vdb (A 16 0 0) 0 p2 s2 = true) : Rp A (p_R h 196 (A 3 p s) (some (A 0 p2 s2))) (sR σ 196 p s 0 (p2, s2)) ρ := hz.uR (f := 196) hv (by decide) rfl (fun _ _ => rfl) rfl hv2 rfl
theorem Rp.i197 {p s : Nat} (hz : Rp A h σ ρ) (hv : vdb (A 16 0 0) 3 p s = true) : m_I h 197 (A 3 p s) = zI σ 197 p s 0 := (hz.2.1.1 197 p s (by decide) hv).1
theorem Rp.s197 {p s : Nat} {v : Int32} (hz : Rp A h σ ρ) (hv : vdb (A 16 0 0) 3 p s = true) : Rp A (p_I h 197 (A 3 p s) v) (sI σ 197 p s 0 v) ρ := hz.uI (f := 197) hv (by decide) (by decide) rfl
theorem Rp.r198 {p s : Nat} (hz : Rp A h σ ρ) (hv : vdb (A 16 0 0) 3 p s = true) : m_R h 198 (A 3 p s) = some (A 7 (zR σ 198 p s 0).1 (zR σ 198 p s 0).2) := (hz.2.2.1 198 p s 7 rfl hv (fun q => absurd q (by decide))).2
theorem Rp.w198 {p s : Nat} (hz : Rp A h σ ρ) (hv : vdb (A 16 0 0) 3 p s = true) : vdb (A 16 0 0) 7 (zR σ 198 p s 0).1 (zR σ 198 p s 0).2 = true := (hz.2.2.1 198 p s 7 rfl hv (fun q => absurd q (by decide))).1
theorem Rp.s198 {p s p2 s2 : Nat} (hz : Rp A h σ ρ) (hv : vdb (A 16 0 0) 3 p s = true) (hv2 : vdb (A 16 0 0) 7 p2 s2 = true) : Rp A (p_R h 198 (A 3 p s) (some (A 7 p2 s2))) (sR σ 198 p s 0 (p2, s2)) ρ := hz.uR (f := 198) hv (by decide) rfl (fun _ _ => rfl) rfl hv2 rfl
theorem Rp.r199 {p s : Nat} (hz : Rp A h σ ρ) (hv : vdb (A 16 0 0) 3 p s = true) : m_R h 199 (A 3 p s) = some (A 7 (zR σ 199 p s 0).1 (zR σ 199 p s 0).2) := (hz.2.2.1 199 p s 7 rfl hv (fun q => absurd q (by decide))).2
theorem Rp.w199 {p s : Nat} (hz : Rp A h σ ρ) (hv : vdb (A 16 0 0) 3 p s = true) : vdb (A 16 0 0) 7 (zR σ 199 p s 0).1 (zR σ 199 p s 0).2 = true := (hz.2.2.1 199 p s 7 rfl hv (fun q => absurd q (by decide))).1
theorem Rp.s199 {p s p2 s2 : Nat} (hz : Rp A h σ ρ) (hv : vdb (A 16 0 0) 3 p s = true) (hv2 : vdb (A 16 0 0) 7 p2 s2 = true) : Rp A (p_R h 199 (A 3 p s) (some (A 7 p2 s2))) (sR σ 199 p s 0 (p2, s2)) ρ := hz.uR (f := 199) hv (by decide) rfl (fun _ _ => rfl) rfl hv2 rfl
theorem Rp.i201 {p s : Nat} (hz : Rp A h σ ρ) (hv : vdb (A 16 0 0) 3 p s = true) : m_I h 201 (A 3 p s) = zI σ 201 p s 0 := (hz.2.1.1 201 p s (by decide) hv).1
theorem Rp.s201 {p s : Nat} {v : Int32} (hz : Rp A h σ ρ) (hv : vdb (A 16 0 0) 3 p s = true) : Rp A (p_I h 201 (A 3 p s) v) (sI σ 201 p s 0 v) ρ := hz.uI (f := 201) hv (by decide) (by decide) rfl
theorem Rp.i202 {p s : Nat} (hz : Rp A h σ ρ) (hv : vdb (A 16 0 0) 3 p s = true) : m_I h 202 (A 3 p s) = zI σ 202 p s 0 := (hz.2.1.1 202 p s (by decide) hv).1
theorem Rp.s202 {p s : Nat} {v : Int32} (hz : Rp A h σ ρ) (hv : vdb (A 16 0 0) 3 p s = true) : Rp A (p_I h 202 (A 3 p s) v) (sI σ 202 p s 0 v) ρ := hz.uI (f := 202) hv (by decide) (by decide) rfl
theorem Rp.i203 {p s : Nat} (hz : Rp A h σ ρ) (hv : vdb (A 16 0 0) 3 p s = true) : m_I h 203 (A 3 p s) = zI σ 203 p s 0 := (hz.2.1.1 203 p s (by decide) hv).1
theorem Rp.s203 {p s : Nat} {v : Int32} (hz : Rp A h σ ρ) (hv : vdb (A 16 0 0) 3 p s = true) : Rp A (p_I h 203 (A 3 p s) v) (sI σ 203 p s 0 v) ρ := hz.uI (f := 203) hv (by decide) (by decide) rfl
theorem Rp.i204 {p s : Nat} (hz : Rp A h σ ρ) (hv : vdb (A 16 0 0) 3 p s = true) : m_I h 204 (A 3 p s) = zI σ 204 p s 0 := (hz.2.1.1 204 p s (by decide) hv).1
theorem Rp.s204 {p s : Nat} {v : Int32} (hz : Rp A h σ ρ) (hv : vdb (A 16 0 0) 3 p s = true) : Rp A (p_I h 204 (A 3 p s) v) (sI σ 204 p s 0 v) ρ := hz.uI (f := 204) hv (by decide) (by decide) rfl
theorem Rp.i205 {p s : Nat} (hz : Rp A h σ ρ) (hv : vdb (A 16 0 0) 3 p s = true) : m_I h 205 (A 3 p s) = zI σ 205 p s 0 := (hz.2.1.1 205 p s (by decide) hv).1
theorem Rp.s205 {p s : Nat} {v : Int32} (hz : Rp A h σ ρ) (hv : vdb (A 16 0 0) 3 p s = true) : Rp A (p_I h 205 (A 3 p s) v) (sI σ 205 p s 0 v) ρ := hz.uI (f := 205) hv (by decide) (by decide) rfl
theorem Rp.r256 {p s : Nat} (hz : Rp A h σ ρ) (hv : vdb (A 16 0 0) 4 p s = true) : m_R h 256 (A 4 p s) = some (A 9 0 0) := hz.1.2.2.2.1 256 p s 9 0 0 rfl hv
theorem Rp.r257 {p s : Nat} (hz : Rp A h σ ρ) (hv : vdb (A 16 0 0) 4 p s = true) : m_R h 257 (A 4 p s) = some (A 3 0 0) := hz.1.2.2.2.1 257 p s 3 0 0 rfl hv
theorem Rp.i258 {p s : Nat} (hz : Rp A h σ ρ) (hv : vdb (A 16 0 0) 4 p s = true) : m_I h 258 (A 4 p s) = zI σ 258 p s 0 := (hz.2.1.1 258 p s (by decide) hv).1
theorem Rp.s258 {p s : Nat} {v : Int32} (hz : Rp A h σ ρ) (hv : vdb (A 16 0 0) 4 p s = true) : Rp A (p_I h 258 (A 4 p s) v) (sI σ 258 p s 0 v) ρ := hz.uI (f := 258) hv (by decide) (by decide) rfl
theorem Rp.i259 {p s : Nat} (hz : Rp A h σ ρ) (hv : vdb (A 16 0 0) 4 p s = true) : m_I h 259 (A 4 p s) = zI σ 259 p s 0 := (hz.2.1.1 259 p s (by decide) hv).1
theorem Rp.s259 {p s : Nat} {v : Int32} (hz : Rp A h σ ρ) (hv : vdb (A 16 0 0) 4 p s = true) : Rp A (p_I h 259 (A 4 p s) v) (sI σ 259 p s 0 v) ρ := hz.uI (f := 259) hv (by decide) (by decide) rfl
theorem Rp.i260 {p s : Nat} (hz : Rp A h σ ρ) (hv : vdb (A 16 0 0) 4 p s = true) : m_I h 260 (A 4 p s) = zI σ 260 p s 0 := (hz.2.1.1 260 p s (by decide) hv).1
theorem Rp.s260 {p s : Nat} {v : Int32} (hz : Rp A h σ ρ) (hv : vdb (A 16 0 0) 4 p s = true) : Rp A (p_I h 260 (A 4 p s) v) (sI σ 260 p s 0 v) ρ := hz.uI (f := 260) hv (by decide) (by decide) rfl
theorem Rp.i261 {p s : Nat} (hz : Rp A h σ ρ) (hv : vdb (A 16 0 0) 4 p s = true) : m_I h 261 (A 4 p s) = zI σ 261 p s 0 := (hz.2.1.1 261 p s (by decide) hv).1
theorem Rp.s261 {p s : Nat} {v : Int32} (hz : Rp A h σ ρ) (hv : vdb (A 16 0 0) 4 p s = true) : Rp A (p_I h 261 (A 4 p s) v) (sI σ 261 p s 0 v) ρ := hz.uI (f := 261) hv (by decide) (by decide) rfl
theorem Rp.i262 {p s : Nat} (hz : Rp A h σ ρ) (hv : vdb (A 16 0 0) 4 p s = true) : m_J h 262 (A 4 p s) = zJ σ 262 p s 0 := (hz.2.1.1 262 p s (by decide) hv).2
theorem Rp.s262 {p s : Nat} {v : Int64} (hz : Rp A h σ ρ) (hv : vdb (A 16 0 0) 4 p s = true) : Rp A (p_J h 262 (A 4 p s) v) (sJ σ 262 p s 0 v) ρ := hz.uJ (f := 262) hv (by decide) rfl
theorem Rp.i263 {p s : Nat} (hz : Rp A h σ ρ) (hv : vdb (A 16 0 0) 4 p s = true) : m_I h 263 (A 4 p s) = zI σ 263 p s 0 := (hz.2.1.1 263 p s (by decide) hv).1
theorem Rp.s263 {p s : Nat} {v : Int32} (hz : Rp A h σ ρ) (hv : vdb (A 16 0 0) 4 p s = true) : Rp A (p_I h 263 (A 4 p s) v) (sI σ 263 p s 0 v) ρ := hz.uI (f := 263) hv (by decide) (by decide) rfl
theorem Rp.i321 {p s : Nat} (hz : Rp A h σ ρ) (hv : vdb (A 16 0 0) 5 p s = true) : m_I h 321 (A 5 p s) = zI σ 321 p s 0 := (hz.2.1.1 321 p s (by decide) hv).1
theorem Rp.s321 {p s : Nat} {v : Int32} (hz : Rp A h σ ρ) (hv : vdb (A 16 0 0) 5 p s = true) : Rp A (p_I h 321 (A 5 p s) v) (sI σ 321 p s 0 v) ρ := hz.uI (f := 321) hv (by decide) (by decide) rfl
theorem Rp.i323 {p s : Nat} (hz : Rp A h σ ρ) (hv : vdb (A 16 0 0) 5 p s = true) : m_I h 323 (A 5 p s) = zI σ 323 p s 0 := (hz.2.1.1 323 p s (by decide) hv).1
theorem Rp.s323 {p s : Nat} {v : Int32} (hz : Rp A h σ ρ) (hv : vdb (A 16 0 0) 5 p s = true) : Rp A (p_I h 323 (A 5 p s) v) (sI σ 323 p s 0 v) ρ := hz.uI (f := 323) hv (by decide) (by decide) rfl
theorem Rp.i326 {p s : Nat} (hz : Rp A h σ ρ) (hv : vdb (A 16 0 0) 5 p s = true) : m_I h 326 (A 5 p s) = zI σ 326 p s 0 := (hz.2.1.1 326 p s (by decide) hv).1
theorem Rp.s326 {p s : Nat} {v : Int32} (hz : Rp A h σ ρ) (hv : vdb (A 16 0 0) 5 p s = true) : Rp A (p_I h 326 (A 5 p s) v) (sI σ 326 p s 0 v) ρ := hz.uI (f := 326) hv (by decide) (by decide) rfl
theorem Rp.i384 {p s : Nat} (hz : Rp A h σ ρ) (hv : vdb (A 16 0 0) 6 p s = true) : m_I h 384 (A 6 p s) = zI σ 384 p s 0 := (hz.2.1.1 384 p s (by decide) hv).1
theorem Rp.s384 {p s : Nat} {v : Int32} (hz : Rp A h σ ρ) (hv : vdb (A 16 0 0) 6 p s = true) : Rp A (p_I h 384 (A 6 p s) v) (sI σ 384 p s 0 v) ρ := hz.uI (f := 384) hv (by decide) (by decide) rfl
theorem Rp.i385 {p s : Nat} (hz : Rp A h σ ρ) (hv : vdb (A 16 0 0) 6 p s = true) : m_I h 385 (A 6 p s) = zI σ 385 p s 0 := (hz.2.1.1 385 p s (by decide) hv).1
theorem Rp.s385 {p s : Nat} {v : Int32} (hz : Rp A h σ ρ) (hv : vdb (A 16 0 0) 6 p s = true) : Rp A (p_I h 385 (A 6 p s) v) (sI σ 385 p s 0 v) ρ := hz.uI (f := 385) hv (by decide) (by decide) rfl
theorem Rp.i387 {p s : Nat} (hz : Rp A h σ ρ) (hv : vdb (A 16 0 0) 6 p s = true) : m_I h 387 (A 6 p s) = zI σ 387 p s 0 := (hz.2.1.1 387 p s (by decide) hv).1
theorem Rp.s387 {p s : Nat} {v : Int32} (hz : Rp A h σ ρ) (hv : vdb (A 16 0 0) 6 p s = true) : Rp A (p_I h 387 (A 6 p s) v) (sI σ 387 p s 0 v) ρ := hz.uI (f := 387) hv (by decide) (by decide) rfl
theorem Rp.i388 {p s : Nat} (hz : Rp A h σ ρ) (hv : vdb (A 16 0 0) 6 p s = true) : m_I h 388 (A 6 p s) = zI σ 388 p s 0 := (hz.2.1.1 388 p s (by decide) hv).1
theorem Rp.s388 {p s : Nat} {v : Int32} (hz : Rp A h σ ρ) (hv : vdb (A 16 0 0) 6 p s = true) : Rp A (p_I h 388 (A 6 p s) v) (sI σ 388 p s 0 v) ρ := hz.uI (f := 388) hv (by decide) (by decide) rfl
theorem Rp.i448 {p s : Nat} (hz : Rp A h σ ρ) (hv : vdb (A 16 0 0) 7 p s = true) : m_J h 448 (A 7 p s) = zJ σ 448 p s 0 := (hz.2.1.1 448 p s (by decide) hv).2
theorem Rp.s448 {p s : Nat} {v : Int64} (hz : Rp A h σ ρ) (hv : vdb (A 16 0 0) 7 p s = true) : Rp A (p_J h 448 (A 7 p s) v) (sJ σ 448 p s 0 v) ρ := hz.uJ (f := 448) hv (by decide) rfl
theorem Rp.i449 {p s : Nat} (hz : Rp A h σ ρ) (hv : vdb (A 16 0 0) 7 p s = true) : m_I h 449 (A 7 p s) = zI σ 449 p s 0 := (hz.2.1.1 449 p s (by decide) hv).1
theorem Rp.s449 {p s : Nat} {v : Int32} (hz : Rp A h σ ρ) (hv : vdb (A 16 0 0) 7 p s = true) : Rp A (p_I h 449 (A 7 p s) v) (sI σ 449 p s 0 v) ρ := hz.uI (f := 449) hv (by decide) (by decide) rfl
theorem Rp.i450 {p s : Nat} (hz : Rp A h σ ρ) (hv : vdb (A 16 0 0) 7 p s = true) : m_I h 450 (A 7 p s) = zI σ 450 p s 0 := (hz.2.1.1 450 p s (by decide) hv).1
theorem Rp.s450 {p s : Nat} {v : Int32} (hz : Rp A h σ ρ) (hv : vdb (A 16 0 0) 7 p s = true) : Rp A (p_I h 450 (A 7 p s) v) (sI σ 450 p s 0 v) ρ := hz.uI (f := 450) hv (by decide) (by decide) rfl
theorem Rp.i453 {p s : Nat} (hz : Rp A h σ ρ) (hv : vdb (A 16 0 0) 7 p s = true) : m_I h 453 (A 7 p s) = zI σ 453 p s 0 := (hz.2.1.1 453 p s (by decide) hv).1
theorem Rp.s453 {p s : Nat} {v : Int32} (hz : Rp A h σ ρ) (hv : vdb (A 16 0 0) 7 p s = true) : Rp A (p_I h 453 (A 7 p s) v) (sI σ 453 p s 0 v) ρ := hz.uI (f := 453) hv (by decide) (by decide) rfl
theorem Rp.i454 {p s : Nat} (hz : Rp A h σ ρ) (hv : vdb (A 16 0 0) 7 p s = true) : m_I h 454 (A 7 p s) = zI σ 454 p s 0 := (hz.2.1.1 454 p s (by decide) hv).1
theorem Rp.s454 {p s : Nat} {v : Int32} (hz : Rp A h σ ρ) (hv : vdb (A 16 0 0) 7 p s = true) : Rp A (p_I h 454 (A 7 p s) v) (sI σ 454 p s 0 v) ρ := hz.uI (f := 454) hv (by decide) (by decide) rfl
theorem Rp.i455 {p s : Nat} (hz : Rp A h σ ρ) (hv : vdb (A 16 0 0) 7 p s = true) : m_I h 455 (A 7 p s) = zI σ 455 p s 0 := (hz.2.1.1 455 p s (by decide) hv).1
theorem Rp.s455 {p s : Nat} {v : Int32} (hz : Rp A h σ ρ) (hv : vdb (A 16 0 0) 7 p s = true) : Rp A (p_I h 455 (A 7 p s) v) (sI σ 455 p s 0 v) ρ := hz.uI (f := 455) hv (by decide) (by decide) rfl
theorem Rp.i456 {p s : Nat} (hz : Rp A h σ ρ) (hv : vdb (A 16 0 0) 7 p s = true) : m_I h 456 (A 7 p s) = zI σ 456 p s 0 := (hz.2.1.1 456 p s (by decide) hv).1
theorem Rp.s456 {p s : Nat} {v : Int32} (hz : Rp A h σ ρ) (hv : vdb (A 16 0 0) 7 p s = true) : Rp A (p_I h 456 (A 7 p s) v) (sI σ 456 p s 0 v) ρ := hz.uI (f := 456) hv (by decide) (by decide) rfl
theorem Rp.r460 {p s : Nat} (hz : Rp A h σ ρ) (hv : vdb (A 16 0 0) 7 p s = true) : m_R h 460 (A 7 p s) = some (A 8 p s) := hz.1.2.2.2.1 460 p s 8 p s rfl hv
theorem Rp.i461 {p s : Nat} (hz : Rp A h σ ρ) (hv : vdb (A 16 0 0) 7 p s = true) : m_I h 461 (A 7 p s) = zI σ 461 p s 0 := (hz.2.1.1 461 p s (by decide) hv).1
theorem Rp.s461 {p s : Nat} {v : Int32} (hz : Rp A h σ ρ) (hv : vdb (A 16 0 0) 7 p s = true) : Rp A (p_I h 461 (A 7 p s) v) (sI σ 461 p s 0 v) ρ := hz.uI (f := 461) hv (by decide) (by decide) rfl
theorem Rp.r464 {p s : Nat} (hz : Rp A h σ ρ) (hv : vdb (A 16 0 0) 7 p s = true) : m_R h 464 (A 7 p s) = some (A 10 p s) := hz.1.2.2.2.1 464 p s 10 p s rfl hv
theorem Rp.i512 {p s : Nat} (hz : Rp A h σ ρ) (hv : vdb (A 16 0 0) 8 p s = true) : m_I h 512 (A 8 p s) = zI σ 512 p s 0 := (hz.2.1.1 512 p s (by decide) hv).1
theorem Rp.s512 {p s : Nat} {v : Int32} (hz : Rp A h σ ρ) (hv : vdb (A 16 0 0) 8 p s = true) : Rp A (p_I h 512 (A 8 p s) v) (sI σ 512 p s 0 v) ρ := hz.uI (f := 512) hv (by decide) (by decide) rfl
theorem Rp.i513 {p s : Nat} (hz : Rp A h σ ρ) (hv : vdb (A 16 0 0) 8 p s = true) : m_I h 513 (A 8 p s) = zI σ 513 p s 0 := (hz.2.1.1 513 p s (by decide) hv).1
theorem Rp.s513 {p s : Nat} {v : Int32} (hz : Rp A h σ ρ) (hv : vdb (A 16 0 0) 8 p s = true) : Rp A (p_I h 513 (A 8 p s) v) (sI σ 513 p s 0 v) ρ := hz.uI (f := 513) hv (by decide) (by decide) rfl
theorem Rp.i580 {p s : Nat} (hz : Rp A h σ ρ) (hv : vdb (A 16 0 0) 9 p s = true) : m_I h 580 (A 9 p s) = zI σ 580 p s 0 := (hz.2.1.1 580 p s (by decide) hv).1
theorem Rp.s580 {p s : Nat} {v : Int32} (hz : Rp A h σ ρ) (hv : vdb (A 16 0 0) 9 p s = true) : Rp A (p_I h 580 (A 9 p s) v) (sI σ 580 p s 0 v) ρ := hz.uI (f := 580) hv (by decide) (by decide) rfl
theorem Rp.i640 {p s : Nat} (hz : Rp A h σ ρ) (hv : vdb (A 16 0 0) 10 p s = true) : m_I h 640 (A 10 p s) = zI σ 640 p s 0 := (hz.2.1.1 640 p s (by decide) hv).1
theorem Rp.s640 {p s : Nat} {v : Int32} (hz : Rp A h σ ρ) (hv : vdb (A 16 0 0) 10 p s = true) : Rp A (p_I h 640 (A 10 p s) v) (sI σ 640 p s 0 v) ρ := hz.uI (f := 640) hv (by decide) (by decide) rfl
theorem Rp.i705 {p s : Nat} (hz : Rp A h σ ρ) (hv : vdb (A 16 0 0) 11 p s = true) : m_I h 705 (A 11 p s) = zI σ 705 p s 0 := (hz.2.1.1 705 p s (by decide) hv).1
theorem Rp.s705 {p s : Nat} {v : Int32} (hz : Rp A h σ ρ) (hv : vdb (A 16 0 0) 11 p s = true) : Rp A (p_I h 705 (A 11 p s) v) (sI σ 705 p s 0 v) ρ := hz.uI (f := 705) hv (by decide) (by decide) rfl
theorem Rp.r706 {p s : Nat} (hz : Rp A h σ ρ) (hv : vdb (A 16 0 0) 11 p s = true) : m_R h 706 (A 11 p s) = some (A 9 0 0) := hz.1.2.2.2.1 706 p s 9 0 0 rfl hv
theorem Rp.r707 {p s : Nat} (hz : Rp A h σ ρ) (hv : vdb (A 16 0 0) 11 p s = true) : m_R h 707 (A 11 p s) = some (A 5 (zR σ 707 p s 0).1 (zR σ 707 p s 0).2) := (hz.2.2.1 707 p s 5 rfl hv (fun q => absurd q (by decide))).2
theorem Rp.w707 {p s : Nat} (hz : Rp A h σ ρ) (hv : vdb (A 16 0 0) 11 p s = true) : vdb (A 16 0 0) 5 (zR σ 707 p s 0).1 (zR σ 707 p s 0).2 = true := (hz.2.2.1 707 p s 5 rfl hv (fun q => absurd q (by decide))).1
theorem Rp.s707 {p s p2 s2 : Nat} (hz : Rp A h σ ρ) (hv : vdb (A 16 0 0) 11 p s = true) (hv2 : vdb (A 16 0 0) 5 p2 s2 = true) : Rp A (p_R h 707 (A 11 p s) (some (A 5 p2 s2))) (sR σ 707 p s 0 (p2, s2)) ρ := hz.uR (f := 707) hv (by decide) rfl (fun _ _ => rfl) rfl hv2 rfl
theorem Rp.r708 {p s : Nat} (hz : Rp A h σ ρ) (hv : vdb (A 16 0 0) 11 p s = true) : m_R h 708 (A 11 p s) = some (A 5 (zR σ 708 p s 0).1 (zR σ 708 p s 0).2) := (hz.2.2.1 708 p s 5 rfl hv (fun q => absurd q (by decide))).2
theorem Rp.w708 {p s : Nat} (hz : Rp A h σ ρ) (hv : vdb (A 16 0 0) 11 p s = true) : vdb (A 16 0 0) 5 (zR σ 708 p s 0).1 (zR σ 708 p s 0).2 = true := (hz.2.2.1 708 p s 5 rfl hv (fun q => absurd q (by decide))).1
theorem Rp.s708 {p s p2 s2 : Nat} (hz : Rp A h σ ρ) (hv : vdb (A 16 0 0) 11 p s = true) (hv2 : vdb (A 16 0 0) 5 p2 s2 = true) : Rp A (p_R h 708 (A 11 p s) (some (A 5 p2 s2))) (sR σ 708 p s 0 (p2, s2)) ρ := hz.uR (f := 708) hv (by decide) rfl (fun _ _ => rfl) rfl hv2 rfl
theorem Rp.r709 {p s : Nat} (hz : Rp A h σ ρ) (hv : vdb (A 16 0 0) 11 p s = true) : m_R h 709 (A 11 p s) = some (A 5 (zR σ 709 p s 0).1 (zR σ 709 p s 0).2) := (hz.2.2.1 709 p s 5 rfl hv (fun q => absurd q (by decide))).2
theorem Rp.w709 {p s : Nat} (hz : Rp A h σ ρ) (hv : vdb (A 16 0 0) 11 p s = true) : vdb (A 16 0 0) 5 (zR σ 709 p s 0).1 (zR σ 709 p s 0).2 = true := (hz.2.2.1 709 p s 5 rfl hv (fun q => absurd q (by decide))).1
theorem Rp.s709 {p s p2 s2 : Nat} (hz : Rp A h σ ρ) (hv : vdb (A 16 0 0) 11 p s = true) (hv2 : vdb (A 16 0 0) 5 p2 s2 = true) : Rp A (p_R h 709 (A 11 p s) (some (A 5 p2 s2))) (sR σ 709 p s 0 (p2, s2)) ρ := hz.uR (f := 709) hv (by decide) rfl (fun _ _ => rfl) rfl hv2 rfl
theorem Rp.r710 {p s : Nat} (hz : Rp A h σ ρ) (hv : vdb (A 16 0 0) 11 p s = true) : m_R h 710 (A 11 p s) = some (A 3 0 0) := hz.1.2.2.2.1 710 p s 3 0 0 rfl hv
theorem Rp.r711 {p s : Nat} (hz : Rp A h σ ρ) (hv : vdb (A 16 0 0) 11 p s = true) : m_R h 711 (A 11 p s) = some (A 4 0 0) := hz.1.2.2.2.1 711 p s 4 0 0 rfl hv
theorem Rp.i712 {p s : Nat} (hz : Rp A h σ ρ) (hv : vdb (A 16 0 0) 11 p s = true) : m_I h 712 (A 11 p s) = zI σ 712 p s 0 := (hz.2.1.1 712 p s (by decide) hv).1
theorem Rp.s712 {p s : Nat} {v : Int32} (hz : Rp A h σ ρ) (hv : vdb (A 16 0 0) 11 p s = true) : Rp A (p_I h 712 (A 11 p s) v) (sI σ 712 p s 0 v) ρ := hz.uI (f := 712) hv (by decide) (by decide) rfl
theorem Rp.r713 {p s : Nat} (hz : Rp A h σ ρ) (hv : vdb (A 16 0 0) 11 p s = true) : m_R h 713 (A 11 p s) = some (A 1 0 0) := hz.1.2.2.2.1 713 p s 1 0 0 rfl hv
theorem Rp.r714 {p s : Nat} (hz : Rp A h σ ρ) (hv : vdb (A 16 0 0) 11 p s = true) : m_R h 714 (A 11 p s) = some (A 6 3 0) := hz.1.2.2.2.1 714 p s 6 3 0 rfl hv
theorem Rp.i716 {p s : Nat} (hz : Rp A h σ ρ) (hv : vdb (A 16 0 0) 11 p s = true) : m_I h 716 (A 11 p s) = zI σ 716 p s 0 := (hz.2.1.1 716 p s (by decide) hv).1
theorem Rp.s716 {p s : Nat} {v : Int32} (hz : Rp A h σ ρ) (hv : vdb (A 16 0 0) 11 p s = true) : Rp A (p_I h 716 (A 11 p s) v) (sI σ 716 p s 0 v) ρ := hz.uI (f := 716) hv (by decide) (by decide) rfl
theorem Rp.i718 {p s : Nat} (hz : Rp A h σ ρ) (hv : vdb (A 16 0 0) 11 p s = true) : m_I h 718 (A 11 p s) = zI σ 718 p s 0 := (hz.2.1.1 718 p s (by decide) hv).1
theorem Rp.s718 {p s : Nat} {v : Int32} (hz : Rp A h σ ρ) (hv : vdb (A 16 0 0) 11 p s = true) : Rp A (p_I h 718 (A 11 p s) v) (sI σ 718 p s 0 v) ρ := hz.uI (f := 718) hv (by decide) (by decide) rfl
theorem Rp.e320 {p i : Nat} (hz : Rp A h σ ρ) (hv : vdb (A 16 0 0) 5 p 0 = true) (hi : i < 12) : m_Z h (A 1344 p 0) i = some (A 7 p i) := hz.1.2.2.2.2 320 p i 7 p i 27 12 rfl rfl hi hv
theorem Rp.e322 {p i : Nat} (hz : Rp A h σ ρ) (hv : vdb (A 16 0 0) 5 p 0 = true) (hi : i < 8) : m_Z h (A 1346 p 0) i = some (A 0 p i) := hz.1.2.2.2.2 322 p i 0 p i 24 8 rfl rfl hi hv
theorem Rp.e715 {p i : Nat} (hz : Rp A h σ ρ) (hv : vdb (A 16 0 0) 11 p 0 = true) (hi : i < 200) : m_Z h (A 1739 p 0) i = some (A 2 0 i) := hz.1.2.2.2.2 715 p i 2 0 i 25 200 rfl rfl hi hv
theorem Rp.e65 {i : Nat} (hz : Rp A h σ ρ) (hi : i < 60) : m_Z h (A 1089 0 0) i = some (A 6 (zR σ 1089 0 0 i).1 (zR σ 1089 0 0 i).2) := (hz.2.2.2.1 i hi).2
theorem Rp.we65 {i : Nat} (hz : Rp A h σ ρ) (hi : i < 60) : vdb (A 16 0 0) 6 (zR σ 1089 0 0 i).1 (zR σ 1089 0 0 i).2 = true := (hz.2.2.2.1 i hi).1
end RP
/-! what a lifted method is put together of -/
def bq {α β : Type} (o : Option (α × Zs)) (k : α → Zs → Option β) : Option β := match o with
  | some (v, z) => k v z
  | none => none
theorem bq_some {α β : Type} {o : Option (α × Zs)} {k : α → Zs → Option β} {r : β} (h : bq o k = some r) : ∃ v z, o = some (v, z) ∧ k v z = some r := by
  rcases o with _ | ⟨v, z⟩
  · cases h
  · exact ⟨v, z, rfl, h⟩
theorem gd {c : Prop} [Decidable c] {α : Type} {a : Option α} {r : α} (h : (if c then a else none) = some r) : c ∧ a = some r := by
  by_cases q : c
  · rw [if_pos q] at h; exact ⟨q, h⟩
  · rw [if_neg q] at h; cases h
theorem bt {c : Prop} [Decidable c] {α : Type} {a b : Option α} {r : Option α} (q : c) (h : (if c then a else b) = r) : a = r := by rw [if_pos q] at h; exact h
theorem bf {c : Prop} [Decidable c] {α : Type} {a b : Option α} {r : Option α} (q : ¬ c) (h : (if c then a else b) = r) : b = r := by rw [if_neg q] at h; exact h
theorem ret_inj {α : Type} {v w : α} {z y : Zs} (h : some (v, z) = some (w, y)) : v = w ∧ z = y := ⟨congrArg Prod.fst (Option.some.inj h), congrArg Prod.snd (Option.some.inj h)⟩
theorem nono {α : Type} {r : α} {P : Prop} (h : (none : Option α) = some r) : P := by cases h
/-- ends: an int, a long, nothing, an object; the world behind it -/
def QI (A : Nat → Nat → Nat → Nat) (v : Int32) (σ ρ : Zs) : Option Value → Hp → Prop := fun r h => r = some (.int v) ∧ Rp A h σ ρ
def QJ (A : Nat → Nat → Nat → Nat) (v : Int64) (σ ρ : Zs) : Option Value → Hp → Prop := fun r h => r = some (.long v) ∧ Rp A h σ ρ
def QD (A : Nat → Nat → Nat → Nat) (v : UInt64) (σ ρ : Zs) : Option Value → Hp → Prop := fun r h => r = some (.double v) ∧ Rp A h σ ρ
def QV (A : Nat → Nat → Nat → Nat) (_ : Unit) (σ ρ : Zs) : Option Value → Hp → Prop := fun r h => r = none ∧ Rp A h σ ρ
def QO (c : Nat) (A : Nat → Nat → Nat → Nat) (v : Nat × Nat) (σ ρ : Zs) : Option Value → Hp → Prop := fun r h => r = some (.ref (A c v.1 v.2)) ∧ vdb (A 16 0 0) c v.1 v.2 = true ∧ Rp A h σ ρ
def QN (c : Nat) (A : Nat → Nat → Nat → Nat) (v : Option (Nat × Nat)) (σ ρ : Zs) : Option Value → Hp → Prop := fun r h => (match v with | none => r = some .null | some q => r = some (.ref (A c q.1 q.2)) ∧ vdb (A 16 0 0) c q.1 q.2 = true) ∧ Rp A h σ ρ
def X0 : String → Hp → Prop := fun _ _ => False
/-- .. of a method that may throw -/
def QE {α : Type} (Q : (Nat → Nat → Nat → Nat) → α → Zs → Zs → Option Value → Hp → Prop) (A : Nat → Nat → Nat → Nat) (v : Except String α) (σ ρ : Zs) : Option Value → Hp → Prop := fun r h => ∃ w, v = .ok w ∧ Q A w σ ρ r h
def XE {α : Type} (A : Nat → Nat → Nat → Nat) (v : Except String α) (σ ρ : Zs) : String → Hp → Prop := fun E h => v = .error E ∧ Rp A h σ ρ
