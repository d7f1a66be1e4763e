/-! ALL STEPS, WITH AND WITHOUT A NEW ROW -/
theorem spA_S {lim : Nat} {X : Dk} {r : Rw} : kS (spA lim X r) = kS X ∧ kW (spA lim X r) = kW X ∧ kH (spA lim X r) = kH X ∧ kM (spA lim X r) = kM X ∧ kB (spA lim X r) = kB X ∧ kR (spA lim X r) = kR X := by
  unfold spA; split <;> exact ⟨rfl, rfl, rfl, rfl, rfl, rfl⟩
theorem spB_S {lim : Nat} {X : Dk} {r : Rw} : kS (spB lim X r) = kS X ∧ kW (spB lim X r) = kW X ∧ kH (spB lim X r) = kH X ∧ kM (spB lim X r) = kM X ∧ kA (spB lim X r) = kA X ∧ kR (spB lim X r) = kR X := by
  unfold spB; split <;> exact ⟨rfl, rfl, rfl, rfl, rfl, rfl⟩
theorem spW_S {n M : Nat} {X : Dk} {r : Rw} : kS (spW n M X r) = kS X ∧ kA (spW n M X r) = kA X ∧ kB (spW n M X r) = kB X ∧ kM (spW n M X r) = kM X ∧ kR (spW n M X r) = kR X := by
  unfold spW; split <;> exact ⟨rfl, rfl, rfl, rfl, rfl⟩
/-- windows' bounds -/
def Wb (n : Nat) (p : Nat × (Nat → Wn)) : Prop := ∀ i, i < p.1 → n ≤ (p.2 i).2.1 ∧ (p.2 i).2.1 < 1073741824 ∧ (p.2 i).2.2.1 < 1000000
theorem wnk_le {k : Nat} {f : Nat → Wn} {key : Int64} {e : Nat} {v : Int64} : (wnk k f key e v).1 ≤ k + 1 := by
  unfold wnk; split <;> simp
theorem wnk_end {k n : Nat} {f : Nat → Wn} {key : Int64} {e : Nat} {v : Int64} (h : ∀ i, i < k → n ≤ (f i).2.1 ∧ (f i).2.1 < 1073741824) (he : n ≤ e ∧ e < 1073741824) : ∀ i, i < (wnk k f key e v).1 → n ≤ ((wnk k f key e v).2 i).2.1 ∧ ((wnk k f key e v).2 i).2.1 < 1073741824 := by
  unfold wnk
  split
  · intro i hi
    show n ≤ (pushF k f (key, e, 1, v) i).2.1 ∧ (pushF k f (key, e, 1, v) i).2.1 < 1073741824
    by_cases q : i = k
    · rw [q, pushF_s]; exact he
    · rw [pushF_n q]; exact h i (by have : i < k + 1 := hi; omega)
  · intro i hi
    generalize plc f key e k 0 = w
    show n ≤ (pushF w f _ i).2.1 ∧ (pushF w f _ i).2.1 < 1073741824
    by_cases q : i = w
    · rw [q, pushF_s]; exact he
    · rw [pushF_n q]; exact h i hi
section RUN
variable {o z : Zs} {lim n e m : Nat} {Y : Dk}
theorem run_new (h : Dx o lim n Y e e e m m m z) (he : e + 1 = (kS Y).1) (hS : (kS Y).1 ≤ 200) (hA : (kA Y).1 < 200) (hBc : (kB Y).1 < 200) (hH : (kH Y).1 < 60) (hW : (kW Y).1 < 60) (hR : (kR Y).1 ≤ 140) (hn : 0 < n) (hn2 : n ≤ 1000) (ht : ((kS Y).2 e).1 < 1000000) (hm : m < 1073741824) (hM : kM Y < 1073741824) (hB : Wb n (kW Y)) : ∃ x, fX1_runSteps z = some ((), x) ∧ Dx o lim n (cls (kM Y) (spW n m (spB lim (spA lim Y ((kS Y).2 e)) ((kS Y).2 e)) ((kS Y).2 e))) (kS Y).1 (kS Y).1 (kS Y).1 (kM Y) (kM Y) (kM Y) x ∧ ∃ d, d ≤ 60 ∧ zI x 70 0 0 0 = zI z 70 0 0 0 + 1 + nI d := by
  generalize hr : (kS Y).2 e = r at *
  obtain ⟨x1, l1, d1, s1⟩ := look_1 h he hS hA
  rw [hr] at d1 s1
  obtain ⟨A1, A2, A3, A4, A5, A6⟩ := spA_S (lim := lim) (X := Y) (r := r)
  obtain ⟨B1, B2, B3, B4, B5, B6⟩ := spB_S (lim := lim) (X := spA lim Y r) (r := r)
  obtain ⟨C1, C2, C3, C4, C5⟩ := spW_S (n := n) (M := m) (X := spB lim (spA lim Y r) r) (r := r)
  have d1' := d1.w1 (m := kM (spA lim Y r))
  obtain ⟨x2, l2, d2, s2⟩ := look_2 d1' (by rw [A1]; exact he) (by rw [A1]; exact hS) (by rw [A5]; exact hBc)
  rw [A1, hr] at d2 s2
  have d2' := d2.w2 (m := kM (spB lim (spA lim Y r) r))
  obtain ⟨x3, l3, d3, s3⟩ := look_3 d2' (by rw [B1, A1]; exact he) (by rw [B1, A1]; exact hS) (by rw [B3, A3]; exact hH) (by rw [B2, A2]; exact hW) hn hn2 (by rw [B1, A1, hr]; exact ht) hm (by rw [B2, A2]; exact fun i hi => ⟨(hB i hi).2.1, (hB i hi).2.2⟩)
  rw [B1, A1, hr] at d3
  have d3' := d3.w3 (m := kM (spW n m (spB lim (spA lim Y r) r) r))
  have hWk : (kW (spW n m (spB lim (spA lim Y r) r) r)).1 ≤ 60 ∧ ∀ i, i < (kW (spW n m (spB lim (spA lim Y r) r) r)).1 → n ≤ ((kW (spW n m (spB lim (spA lim Y r) r) r)).2 i).2.1 ∧ ((kW (spW n m (spB lim (spA lim Y r) r) r)).2 i).2.1 < 1073741824 := by
    have hb := Nat.div_mul_le_self r.1 n
    unfold spW
    split
    · show (wnk (kW (spB lim (spA lim Y r) r)).1 (kW (spB lim (spA lim Y r) r)).2 r.2.1 (r.1 / n * n + n) r.2.2).1 ≤ 60 ∧ ∀ i, i < (wnk (kW (spB lim (spA lim Y r) r)).1 (kW (spB lim (spA lim Y r) r)).2 r.2.1 (r.1 / n * n + n) r.2.2).1 → n ≤ ((wnk (kW (spB lim (spA lim Y r) r)).1 (kW (spB lim (spA lim Y r) r)).2 r.2.1 (r.1 / n * n + n) r.2.2).2 i).2.1 ∧ ((wnk (kW (spB lim (spA lim Y r) r)).1 (kW (spB lim (spA lim Y r) r)).2 r.2.1 (r.1 / n * n + n) r.2.2).2 i).2.1 < 1073741824
      rw [B2, A2]
      exact ⟨Nat.le_trans wnk_le (by omega), wnk_end (fun i hi => ⟨(hB i hi).1, (hB i hi).2.1⟩) ⟨by omega, by omega⟩⟩
    · show (kW (spB lim (spA lim Y r) r)).1 ≤ 60 ∧ ∀ i, i < (kW (spB lim (spA lim Y r) r)).1 → n ≤ ((kW (spB lim (spA lim Y r) r)).2 i).2.1 ∧ ((kW (spB lim (spA lim Y r) r)).2 i).2.1 < 1073741824
      rw [B2, A2]
      exact ⟨by omega, fun i hi => ⟨(hB i hi).1, (hB i hi).2.1⟩⟩
  have hM3 : kM (spW n m (spB lim (spA lim Y r) r) r) = kM Y := by rw [C4, B4, A4]
  obtain ⟨x, d, c1, c2, c3, c4⟩ := cls_C d3' hWk.1 hn hWk.2 (by rw [hM3]; exact hM) (by rw [C5, B6, A6]; exact hR)
  refine ⟨x, ?_, ?_, d, c4, ?_⟩
  · exact run_all h.1 l1 d1 l2 d2 l3 d3 c1 c2.1
  · rw [hM3, B4, A4] at c2
    exact c2
  · rw [c3, sI_c (by decide), s3, sI_c (by decide), s2, sI_c (by decide), s1]
    by_cases q : lN lim < r.2.2
    · rw [if_pos q, if_pos q, Int32.add_zero]
    · rw [if_neg q, if_neg q, Int32.add_zero]
theorem run_old (h : Dx o lim n Y e e e m m m z) (he : e = (kS Y).1) (hS : (kS Y).1 ≤ 200) (hW : (kW Y).1 ≤ 60) (hR : (kR Y).1 ≤ 140) (hn : 0 < n) (hM : kM Y < 1073741824) (hB : Wb n (kW Y)) : ∃ x, fX1_runSteps z = some ((), x) ∧ Dx o lim n (cls (kM Y) Y) (kS Y).1 (kS Y).1 (kS Y).1 (kM Y) (kM Y) (kM Y) x ∧ ∃ d, d ≤ 60 ∧ zI x 70 0 0 0 = zI z 70 0 0 0 + nI d := by
  obtain ⟨x1, l1, d1, s1⟩ := look0_1 h he hS
  have d1' := d1.w1 (m := kM Y)
  obtain ⟨x2, l2, d2, s2⟩ := look0_2 d1' he hS
  have d2' := d2.w2 (m := kM Y)
  obtain ⟨x3, l3, d3, s3⟩ := look0_3 d2' he hS
  have d3' := d3.w3 (m := kM Y)
  obtain ⟨x, d, c1, c2, c3, c4⟩ := cls_C d3' hW hn (fun i hi => ⟨(hB i hi).1, (hB i hi).2.1⟩) hM hR
  refine ⟨x, run_all h.1 l1 d1 l2 d2 l3 d3 c1 c2.1, c2, d, c4, ?_⟩
  rw [c3, sI_c (by decide), s3, sI_c (by decide), s2, sI_c (by decide), s1]
end RUN
