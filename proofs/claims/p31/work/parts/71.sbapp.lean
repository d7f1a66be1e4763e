/-! STRINGBUILDER: append -/
/-- a constant's letters -/
def tN (i : Nat) : List Nat := (tx_b i).map Int32.toNatClampNeg
theorem tN_e : ∀ i, i < 6 → tx_b i = (tN i).map nI ∧ (tN i).length = m_len.getD i 0 := by decide +kernel
theorem tN_at {i j : Nat} (hi : i < 6) (hj : j < m_len.getD i 0) : (tx_b i).getD j 0 = nI ((tN i).getD j 0) := by
  obtain ⟨e1, e2⟩ := tN_e i hi
  rw [e1, List.getD_eq_getElem?_getD, List.getElem?_map, List.getD_eq_getElem?_getD, List.getElem?_eq_getElem (by omega : j < (tN i).length)]
  rfl
theorem tN_l : ∀ i, i < 6 → m_len.getD i 0 ≤ 200 := by decide
def gcS (h : Hp) (a idx v : Nat) : Hp := if v < 10 then p_X h a (idx - 1) (nI (48 + v)) else p_X (p_X h a (idx - 1) (nI (48 + v % 10))) a (idx - 2) (nI (48 + v / 10))
theorem dg_1 : ∀ v, v < 100 → (¬ (nI v) < 0 ∧ (-(nI v) ≤ (-10 : Int32) ↔ 10 ≤ v) ∧ ¬ -(nI v) ≤ nI 10 * (-10 : Int32) ∧ ((-100 : Int32) < -(nI v)) ∧ ((-9 : Int32) ≤ -(nI v) ↔ v < 10) ∧ - -(nI v) = nI v) := by decide +kernel
theorem dec_1 {k : Nat} (h : 1 ≤ k) : nI k + Int32.ofInt (-1) = nI (k - 1) := by
  rw [← n_sub h, Int32.sub_eq_add_neg, show Int32.ofInt (-1) = -nI 1 by decide]
theorem dg_n : ∀ t, t < 128 → vp_nar .byte (nI t) = nI t := by decide
theorem dg_L (v : Nat) : (dgT v).length = if v < 10 then 1 else 2 := by
  unfold dgT
  split <;> rfl
section SBA
variable {A : Nat → Nat → Nat → Nat} {h : Hp} {σ ρ : Zs} {sb a m q n i v idx : Nat} {T : List Nat}
theorem getD_app {L M : List Nat} {j : Nat} : (L ++ M).getD j 0 = if j < L.length then L.getD j 0 else M.getD (j - L.length) 0 := by
  rw [List.getD_eq_getElem?_getD, List.getD_eq_getElem?_getD, List.getD_eq_getElem?_getD]
  by_cases e : j < L.length
  · rw [if_pos e, List.getElem?_append_left e]
  · rw [if_neg e, List.getElem?_append_right (by omega)]
theorem sb_put {f : Nat → Int32} {L : List Nat} (hS : SBd h sb a m T) (hl : T.length + L.length ≤ m) (hf : bF f) (hL : ∀ j, j < L.length → f j = nI (L.getD j 0)) : SBd (p_I (p_CF h f a 0 T.length L.length) 835 sb (nI (T.length + L.length))) sb a m (T ++ L) := by
  obtain ⟨k1, k2, k3, k4, k5, k6, k7, k8, k9⟩ := hS
  have eX : ∀ j, m_X (p_I (p_CF h f a 0 T.length L.length) 835 sb (nI (T.length + L.length))) a j = va_cpy f (m_X h a) 0 T.length L.length j := fun j => if_pos rfl
  refine ⟨k1, k2, g_IIc (by decide) k3, ?_, k5, k6, by rw [List.length_append]; exact hl, fun i => ?_, fun i hi => ?_⟩
  · rw [List.length_append]
    exact g_IIs
  · rw [eX]
    exact bF_cpy hf k8 i
  · rw [eX, getD_app]
    rw [List.length_append] at hi
    by_cases e : i < T.length
    · rw [if_pos e, pk_cpy_out (by omega)]
      exact k9 i e
    · rw [if_neg e, pk_cpy_in (by omega) (by omega), show 0 + (i - T.length) = i - T.length by omega]
      exact hL _ (by omega)
theorem sb_dig (hS : SBd h sb a m T) (hv : v < 100) (hl : T.length + (dgT v).length ≤ m) : SBd (p_I (gcS h a (T.length + (dgT v).length) v) 835 sb (nI (T.length + (dgT v).length))) sb a m (T ++ dgT v) := by
  obtain ⟨k1, k2, k3, k4, k5, k6, k7, k8, k9⟩ := hS
  rw [dg_L] at hl ⊢
  by_cases hv1 : v < 10
  · rw [if_pos hv1] at hl ⊢
    have eg : gcS h a (T.length + 1) v = p_X h a T.length (nI (48 + v)) := if_pos hv1
    have ed : dgT v = [48 + v] := if_pos hv1
    rw [eg, ed]
    have eX : ∀ j, m_X (p_I (p_X h a T.length (nI (48 + v))) 835 sb (nI (T.length + 1))) a j = if j = T.length then nI (48 + v) else m_X h a j := fun j => by
      show (if a = a ∧ j = T.length then nI (48 + v) else m_X h a j) = _
      by_cases e : j = T.length
      · rw [if_pos ⟨rfl, e⟩, if_pos e]
      · rw [if_neg (fun z => e z.2), if_neg e]
    refine ⟨k1, k2, g_IIc (by decide) k3, ?_, k5, k6, by rw [List.length_append]; exact hl, fun i => ?_, fun i hi => ?_⟩
    · rw [List.length_append]
      exact g_IIs
    · rw [eX]
      split
      · exact bF_n _ (by omega)
      · exact k8 i
    · rw [eX, getD_app]
      rw [List.length_append] at hi
      have hi : i < T.length + 1 := hi
      by_cases e : i = T.length
      · rw [if_pos e, if_neg (by omega), e, Nat.sub_self]
        rfl
      · rw [if_neg e, if_pos (by omega)]
        exact k9 i (by omega)
  · rw [if_neg hv1] at hl ⊢
    have eg : gcS h a (T.length + 2) v = p_X (p_X h a (T.length + 1) (nI (48 + v % 10))) a T.length (nI (48 + v / 10)) := if_neg hv1
    have ed : dgT v = [48 + v / 10, 48 + v % 10] := if_neg hv1
    rw [eg, ed]
    have eX : ∀ j, m_X (p_I (p_X (p_X h a (T.length + 1) (nI (48 + v % 10))) a T.length (nI (48 + v / 10))) 835 sb (nI (T.length + 2))) a j = if j = T.length then nI (48 + v / 10) else if j = T.length + 1 then nI (48 + v % 10) else m_X h a j := fun j => by
      show (if a = a ∧ j = T.length then nI (48 + v / 10) else if a = a ∧ j = T.length + 1 then nI (48 + v % 10) else m_X h a j) = _
      by_cases e : j = T.length
      · rw [if_pos ⟨rfl, e⟩, if_pos e]
      · rw [if_neg (fun z => e z.2), if_neg e]
        by_cases e2 : j = T.length + 1
        · rw [if_pos ⟨rfl, e2⟩, if_pos e2]
        · rw [if_neg (fun z => e2 z.2), if_neg e2]
    refine ⟨k1, k2, g_IIc (by decide) k3, ?_, k5, k6, by rw [List.length_append]; exact hl, fun i => ?_, fun i hi => ?_⟩
    · rw [List.length_append]
      exact g_IIs
    · rw [eX]
      split
      · exact bF_n _ (by omega)
      · split
        · exact bF_n _ (by omega)
        · exact k8 i
    · rw [eX, getD_app]
      rw [List.length_append] at hi
      have hi : i < T.length + 2 := hi
      by_cases e : i = T.length
      · rw [if_pos e, if_neg (by omega), e, Nat.sub_self]
        rfl
      · rw [if_neg e]
        by_cases e2 : i = T.length + 1
        · rw [if_pos e2, if_neg (by omega), e2, show T.length + 1 - T.length = 1 by omega]
          rfl
        · rw [if_neg e2, if_pos (by omega)]
          exact k9 i (by omega)
theorem Rp.gc (hz : Rp A h σ ρ) (hq : fgn A a) : ∃ ρ', Rp A (gcS h a idx v) σ ρ' := by
  unfold gcS
  split
  · exact ⟨_, hz.fX hq⟩
  · exact ⟨_, (hz.fX hq).fX hq⟩
theorem gc_K : m_K (gcS h a idx v) = m_K h := by
  unfold gcS
  split <;> rfl
theorem s_J5_appS (hi : i < 6) (hz : Rp A h σ ρ) (hS : SBd h sb a m T) (hfs : fgn A sb) (hfa : fgn A a) (hm : m ≤ 1000) (hT : T.length ≤ 200) (hc : capS m (T.length + m_len.getD i 0) ≤ 1000) : ∀ l : Launch, SpK l mJ5_append_cf1ce 12 1 1000 (fun aK _ => [.ref sb, .ref (aK i)]) h (fun r h' => r = some (.ref sb) ∧ ∃ a' ρ', Rp A h' σ ρ' ∧ SBd h' sb a' (capS m (T.length + m_len.getD i 0)) (T ++ tN i) ∧ fgn A a') X0 := by
  intro l
  refine SpK.of (by decide +kernel) rfl (lv := fun aK _ => [(0, .ref sb), (1, .ref (aK i))]) (fun aK aV => (Nat.le_of_ble_eq_true rfl)) (fun aK aV => rfl) (fun x hf hrm => ?_)
  have hl := tN_l i hi
  have hL := (tN_e i hi).2
  have hS0 := hS
  obtain ⟨k1, k2, k3, k4, k5, k6, k7, k8, k9⟩ := hS
  refine w_aload_n 1 dJ5_append_cf1ce_0 rfl rfl rfl ?_
  refine w_ifnonnull 9 dJ5_append_cf1ce_1 rfl ?_
  refine w_aload_n 1 dJ5_append_cf1ce_9 rfl rfl rfl ?_
  refine w_callVL (n := 0) (As := fun _ _ => []) (rest := []) hi (fun l => s_J0_length_8abf5 hi l) hrm dJ5_append_cf1ce_10 rfl ml_J5_32 x_im_J0_length_8abf5 x_se_J0_length_8abf5 x_co_J0_length_8abf5 ⟨rfl, by decide +kernel, by decide +kernel, by decide +kernel⟩ (fun _ _ => rfl) (by decide) (by decide) (by decide) (by decide) rfl (Nat.le_of_ble_eq_true rfl) (fun vr h9 hq => ?_) (fun _ _ hq => hq.elim)
  obtain ⟨rfl, rfl⟩ := hq
  show wp x _ _ _ [.int (nI (m_len.getD i 0))] _ _ _
  refine w_istore_n [(2, .int (nI (m_len.getD i 0))), (0, .ref sb), (1, .ref (xK x i))] dJ5_append_cf1ce_13 rfl rfl (by decide) rfl ?_
  refine w_aload_n 1 dJ5_append_cf1ce_14 rfl rfl rfl ?_
  refine w_aload_n 1 dJ5_append_cf1ce_15 rfl rfl rfl ?_
  refine g_J5_79 dJ5_append_cf1ce_16 rfl k1 k4 ?_
  refine w_iload_n 0 dJ5_append_cf1ce_19 rfl rfl rfl ?_
  refine w_iadd dJ5_append_cf1ce_20 rfl ?_
  rw [n_add]
  refine w_callG (x2 := yJ5_ensureCapacityInternal_d00df) (b := sb) (n := 1) (As := fun aK _ => [.int (nI (T.length + m_len.getD i 0))]) (rest := []) (fun l => (s_J5_ensure hz hS0 hfs hfa hm (by omega) (by omega) l).k) hrm dJ5_append_cf1ce_21 rfl ml_J5_100 im_J5_ensureCapacityInternal_d00df im_J5_ensureCapacityInternal_d00df co_J5_ensureCapacityInternal_d00df (fun s args u v => sb_sel (by decide +kernel) u v pm_J5_ensureCapacityInternal_d00df im_J5_ensureCapacityInternal_d00df sm_J5_ensureCapacityInternal_d00df) sm_J5_ensureCapacityInternal_d00df co_J5_ensureCapacityInternal_d00df ini_RJ5 (by decide +kernel) (fun _ _ => rfl) (by decide) (by decide) (by decide) (by decide) k1 rfl (Nat.le_of_ble_eq_true rfl) (fun vr h9 hq => ?_) (fun _ _ hq => hq.elim)
  obtain ⟨rfl, a2, ρ2, hz2, hS2, hf2⟩ := hq
  have hcap : T.length + m_len.getD i 0 ≤ capS m (T.length + m_len.getD i 0) := by unfold capS; split; omega; split <;> omega
  generalize capS m (T.length + m_len.getD i 0) = m2 at hf hS2 hcap hc ⊢
  have hS3 := hS2
  obtain ⟨j1, j2, j3, j4, j5, j6, j7, j8, j9⟩ := hS2
  refine w_aload_n 1 dJ5_append_cf1ce_24 rfl rfl rfl ?_
  refine w_aload_n 1 dJ5_append_cf1ce_25 rfl rfl rfl ?_
  refine g_J5_79 dJ5_append_cf1ce_26 rfl j1 j4 ?_
  refine w_aload_n 2 dJ5_append_cf1ce_29 rfl rfl rfl ?_
  refine w_callG (x2 := yJ5_putStringAt_47b60) (b := sb) (n := 2) (As := fun aK _ => [.int (nI T.length), .ref (aK i)]) (rest := []) (fun l => s_J5_put hi hS3 hcap hc l) hrm dJ5_append_cf1ce_30 rfl ml_J5_208 im_J5_putStringAt_47b60 im_J5_putStringAt_47b60 co_J5_putStringAt_47b60 (fun s args u v => sb_sel (by decide +kernel) u v pm_J5_putStringAt_47b60 im_J5_putStringAt_47b60 sm_J5_putStringAt_47b60) sm_J5_putStringAt_47b60 co_J5_putStringAt_47b60 ini_RJ5 (by decide +kernel) (fun _ _ => rfl) (by decide) (by decide) (by decide) (by decide) j1 rfl (Nat.le_of_ble_eq_true rfl) (fun vr h9 hq => ?_) (fun _ _ hq => hq.elim)
  obtain ⟨rfl, rfl⟩ := hq
  refine w_aload_n 1 dJ5_append_cf1ce_33 rfl rfl rfl ?_
  refine w_dup dJ5_append_cf1ce_34 rfl rfl ?_
  refine g_J5_79 dJ5_append_cf1ce_35 rfl j1 j4 ?_
  refine w_iload_n 0 dJ5_append_cf1ce_38 rfl rfl rfl ?_
  refine w_iadd dJ5_append_cf1ce_39 rfl ?_
  rw [n_add]
  refine p_J5_79 dJ5_append_cf1ce_40 rfl j1 ?_
  refine w_aload_n 1 dJ5_append_cf1ce_43 rfl rfl rfl ?_
  have hS5 := sb_put (f := fun j => (tx_b i).getD j 0) (L := tN i) hS3 (by rw [hL]; exact hcap) (bF_k hi) (fun j hj => tN_at hi (by omega))
  rw [hL] at hS5
  exact w_aret hf dJ5_append_cf1ce_44 rfl (Or.inl ⟨_, rfl⟩) (Or.inr ⟨_, rfl⟩) (by decide) (by decide) ⟨rfl, a2, _, (hz2.fC hf2).fI hfs, hS5, hf2⟩
theorem s_J4_appS (hi : i < 6) (hz : Rp A h σ ρ) (hS : SBd h sb a m T) (hfs : fgn A sb) (hfa : fgn A a) (hm : m ≤ 1000) (hT : T.length ≤ 200) (hc : capS m (T.length + m_len.getD i 0) ≤ 1000) : ∀ l : Launch, SpK l mJ4_append_15ec4 13 1 1000 (fun aK _ => [.ref sb, .ref (aK i)]) h (fun r h' => r = some (.ref sb) ∧ ∃ a' ρ', Rp A h' σ ρ' ∧ SBd h' sb a' (capS m (T.length + m_len.getD i 0)) (T ++ tN i) ∧ fgn A a') X0 := by
  intro l
  refine SpK.of (by decide +kernel) rfl (lv := fun aK _ => [(0, .ref sb), (1, .ref (aK i))]) (fun aK aV => (Nat.le_of_ble_eq_true rfl)) (fun aK aV => rfl) (fun x hf hrm => ?_)
  refine w_aload_n 0 dJ4_append_15ec4_0 rfl rfl rfl ?_
  refine w_aload_n 1 dJ4_append_15ec4_1 rfl rfl rfl ?_
  refine w_callSU (b := sb) (n := 1) (As := fun aK _ => [.ref (aK i)]) (rest := []) (fun l => s_J5_appS hi hz hS hfs hfa hm hT hc l) hrm dJ4_append_15ec4_2 rfl x9_ml_J4_29 x9_im_J5_append_cf1ce sm_J5_append_cf1ce x9_co_J5_append_cf1ce ⟨rfl, by decide +kernel, by decide +kernel⟩ (fun _ _ => rfl) (by decide) (by decide) (by decide) (by decide) hS.1 rfl (Nat.le_of_ble_eq_true rfl) (fun vr h9 hq => ?_) (fun _ _ hq => hq.elim)
  obtain ⟨rfl, hq⟩ := hq
  refine w_pop dJ4_append_15ec4_5 rfl rfl ?_
  refine w_aload_n 0 dJ4_append_15ec4_6 rfl rfl rfl ?_
  exact w_aret hf dJ4_append_15ec4_7 rfl (Or.inl ⟨_, rfl⟩) (Or.inr ⟨_, rfl⟩) (by decide) (by decide) ⟨rfl, hq⟩
theorem s_J6_size (hv : v < 100) : ∀ l : Launch, Sp l mJ6_stringSize_0f7a4 0 0 0 [.int (nI v)] h (Qt h (nI (dgT v).length)) X0 := by
  intro l
  refine Sp.of (by decide +kernel) rfl (lv := [(0, .int (nI v))]) (Nat.le_of_ble_eq_true rfl) rfl (fun x hf hrm => ?_)
  obtain ⟨d1, d2, d3, d4, d5, d6⟩ := dg_1 v hv
  rw [dg_L] at hf
  refine w_iconst (nI 1) dJ6_stringSize_0f7a4_0 rfl rfl ?_
  refine w_istore_n [(1, .int (nI 1)), (0, .int (nI v))] dJ6_stringSize_0f7a4_1 rfl rfl (by decide) rfl ?_
  refine w_iload_n 1 dJ6_stringSize_0f7a4_2 rfl rfl rfl ?_
  refine w_if_lt 11 dJ6_stringSize_0f7a4_3 rfl rfl (fun z => absurd z d1) (fun _ => ?_)
  refine w_iconst (nI 0) dJ6_stringSize_0f7a4_6 rfl rfl ?_
  refine w_istore_n [(1, .int (nI 0)), (0, .int (nI v))] dJ6_stringSize_0f7a4_7 rfl rfl (by decide) rfl ?_
  refine w_iload_n 1 dJ6_stringSize_0f7a4_8 rfl rfl rfl ?_
  refine w_ineg dJ6_stringSize_0f7a4_9 rfl ?_
  refine w_istore_n [(0, .int (-(nI v))), (1, .int (nI 0))] dJ6_stringSize_0f7a4_10 rfl rfl (by decide) rfl ?_
  refine w_bipush ((-10)) dJ6_stringSize_0f7a4_11 rfl (by decide) ?_
  refine w_istore_n [(2, .int ((-10))), (0, .int (-(nI v))), (1, .int (nI 0))] dJ6_stringSize_0f7a4_13 rfl rfl (by decide) rfl ?_
  refine w_iconst (nI 1) dJ6_stringSize_0f7a4_14 rfl rfl ?_
  refine w_istore_n [(3, .int (nI 1)), (2, .int ((-10))), (0, .int (-(nI v))), (1, .int (nI 0))] dJ6_stringSize_0f7a4_15 rfl rfl (by decide) rfl ?_
  refine w_iload_n 0 dJ6_stringSize_0f7a4_16 rfl rfl rfl ?_
  refine w_bipush (nI 10) dJ6_stringSize_0f7a4_17 rfl (by decide) ?_
  refine w_icmp_ge 42 dJ6_stringSize_0f7a4_19 rfl rfl (fun z => absurd z (by decide)) (fun _ => ?_)
  refine w_iload_n 2 dJ6_stringSize_0f7a4_22 rfl rfl rfl ?_
  refine w_iload_n 1 dJ6_stringSize_0f7a4_23 rfl rfl rfl ?_
  refine w_icmp_le 31 dJ6_stringSize_0f7a4_24 rfl rfl (fun z => ?_) (fun z => ?_)
  · have hv2 := d2.mp z
    rw [if_neg (by omega)] at hf
    refine w_bipush (nI 10) dJ6_stringSize_0f7a4_31 rfl (by decide) ?_
    refine w_iload_n 1 dJ6_stringSize_0f7a4_33 rfl rfl rfl ?_
    refine w_imul dJ6_stringSize_0f7a4_34 rfl ?_
    refine w_istore_n [(2, .int ((nI 10) * ((-10)))), (3, .int (nI 1)), (0, .int (-(nI v))), (1, .int (nI 0))] dJ6_stringSize_0f7a4_35 rfl rfl (by decide) rfl ?_
    refine w_iinc 1 (nI 2) [(3, .int (nI 2)), (2, .int ((nI 10) * ((-10)))), (0, .int (-(nI v))), (1, .int (nI 0))] dJ6_stringSize_0f7a4_36 rfl rfl (by decide) (by decide) rfl ?_
    refine w_goto 16 dJ6_stringSize_0f7a4_39 rfl ?_
    refine w_iload_n 0 dJ6_stringSize_0f7a4_16 rfl rfl rfl ?_
    refine w_bipush (nI 10) dJ6_stringSize_0f7a4_17 rfl (by decide) ?_
    refine w_icmp_ge 42 dJ6_stringSize_0f7a4_19 rfl rfl (fun z => absurd z (by decide)) (fun _ => ?_)
    refine w_iload_n 2 dJ6_stringSize_0f7a4_22 rfl rfl rfl ?_
    refine w_iload_n 1 dJ6_stringSize_0f7a4_23 rfl rfl rfl ?_
    refine w_icmp_le 31 dJ6_stringSize_0f7a4_24 rfl rfl (fun z => absurd z d3) (fun _ => ?_)
    refine w_iload_n 0 dJ6_stringSize_0f7a4_27 rfl rfl rfl ?_
    refine w_iload_n 3 dJ6_stringSize_0f7a4_28 rfl rfl rfl ?_
    refine w_iadd dJ6_stringSize_0f7a4_29 rfl ?_
    exact w_iret hf dJ6_stringSize_0f7a4_30 rfl (by decide) (by decide) ⟨rfl, rfl⟩
  · have hv2 : v < 10 := by
      rcases Nat.lt_or_ge v 10 with y | y
      · exact y
      · exact absurd (d2.mpr y) z
    rw [if_pos hv2] at hf
    refine w_iload_n 0 dJ6_stringSize_0f7a4_27 rfl rfl rfl ?_
    refine w_iload_n 3 dJ6_stringSize_0f7a4_28 rfl rfl rfl ?_
    refine w_iadd dJ6_stringSize_0f7a4_29 rfl ?_
    exact w_iret hf dJ6_stringSize_0f7a4_30 rfl (by decide) (by decide) ⟨rfl, rfl⟩
theorem s_J6_chars (hv : v < 100) (hk : m_K h a = 22) (hn : m_N h a = m) (h1 : (dgT v).length ≤ idx) (h2 : idx ≤ m) (h3 : m ≤ 1000) : ∀ l : Launch, Sp l mJ6_getChars_ba4f3 0 0 0 [.int (nI v), .int (nI idx), .ref a] h (fun r h' => (∃ w, r = some (.int w)) ∧ h' = gcS h a idx v) X0 := by
  intro l
  refine Sp.of (by decide +kernel) rfl (lv := [(0, .int (nI v)), (1, .int (nI idx)), (2, .ref a)]) (Nat.le_of_ble_eq_true rfl) rfl (fun x hf hrm => ?_)
  obtain ⟨d1, d2, d3, d4, d5, d6⟩ := dg_1 v hv
  rw [dg_L] at h1
  have hi1 : 1 ≤ idx := by split at h1 <;> omega
  refine w_iload_n 1 dJ6_getChars_ba4f3_0 rfl rfl rfl ?_
  refine w_istore [(5, .int (nI idx)), (0, .int (nI v)), (1, .int (nI idx)), (2, .ref a)] dJ6_getChars_ba4f3_1 rfl (by decide) rfl ?_
  refine w_iload_n 1 dJ6_getChars_ba4f3_3 rfl rfl rfl ?_
  refine w_if_ge 11 dJ6_getChars_ba4f3_4 rfl rfl (fun _ => ?_) (fun z => absurd (Int32.not_lt.mp d1) z)
  refine w_iconst (nI 0) dJ6_getChars_ba4f3_11 rfl rfl ?_
  refine w_istore [(6, .int (nI 0)), (5, .int (nI idx)), (0, .int (nI v)), (1, .int (nI idx)), (2, .ref a)] dJ6_getChars_ba4f3_12 rfl (by decide) rfl ?_
  refine w_iload 0 dJ6_getChars_ba4f3_14 rfl rfl ?_
  refine w_if_ne 22 dJ6_getChars_ba4f3_16 rfl rfl (fun z => absurd rfl z) (fun _ => ?_)
  refine w_iload_n 2 dJ6_getChars_ba4f3_19 rfl rfl rfl ?_
  refine w_ineg dJ6_getChars_ba4f3_20 rfl ?_
  refine w_istore_n [(0, .int (-(nI v))), (6, .int (nI 0)), (5, .int (nI idx)), (1, .int (nI idx)), (2, .ref a)] dJ6_getChars_ba4f3_21 rfl rfl (by decide) rfl ?_
  refine w_iload_n 0 dJ6_getChars_ba4f3_22 rfl rfl rfl ?_
  refine w_bipush ((-100)) dJ6_getChars_ba4f3_23 rfl (by decide) ?_
  refine w_icmp_gt 72 dJ6_getChars_ba4f3_25 rfl rfl (fun _ => ?_) (fun z => absurd d4 z)
  refine w_aload_n 4 dJ6_getChars_ba4f3_72 rfl rfl rfl ?_
  have ei : nI idx + Int32.ofInt (-1) = nI (idx - 1) := dec_1 hi1
  refine w_iinc 2 (nI (idx - 1)) [(5, .int (nI (idx - 1))), (0, .int (-(nI v))), (6, .int (nI 0)), (1, .int (nI idx)), (2, .ref a)] dJ6_getChars_ba4f3_73 rfl rfl (ei) (by decide) rfl ?_
  refine w_iload 0 dJ6_getChars_ba4f3_76 rfl rfl ?_
  refine w_gDO dJ6_getChars_ba4f3_78 rfl ?_
  refine w_iload_n 1 dJ6_getChars_ba4f3_81 rfl rfl rfl ?_
  refine w_ineg dJ6_getChars_ba4f3_82 rfl ?_
  rw [d6]
  refine w_tDO (i := v) hv dJ6_getChars_ba4f3_83 rfl ?_
  refine w_bast dJ6_getChars_ba4f3_84 rfl hk (by rw [hn]; exact vp_in_nI (by omega) (by omega)) (dg_n _ (by omega)) ?_
  rw [n_cl (show idx - 1 < 2147483648 by omega)]
  refine w_iload_n 1 dJ6_getChars_ba4f3_85 rfl rfl rfl ?_
  refine w_bipush ((-9)) dJ6_getChars_ba4f3_86 rfl (by decide) ?_
  refine w_icmp_ge 104 dJ6_getChars_ba4f3_88 rfl rfl (fun z => ?_) (fun z => ?_)
  · have hv2 := d5.mp z
    refine w_iload 2 dJ6_getChars_ba4f3_104 rfl rfl ?_
    refine w_if_eq 118 dJ6_getChars_ba4f3_106 rfl rfl (fun _ => ?_) (fun z => absurd rfl z)
    refine w_iload 0 dJ6_getChars_ba4f3_118 rfl rfl ?_
    exact w_iret hf dJ6_getChars_ba4f3_120 rfl (by decide) (by decide) ⟨⟨_, rfl⟩, by unfold gcS; rw [if_pos hv2, Nat.mod_eq_of_lt hv2]⟩
  · have hv2 : ¬ v < 10 := fun y => z (d5.mpr y)
    have hi2 : 2 ≤ idx := by rw [if_neg hv2] at h1; exact h1
    refine w_aload_n 4 dJ6_getChars_ba4f3_91 rfl rfl rfl ?_
    have ei2 : nI (idx - 1) + Int32.ofInt (-1) = nI (idx - 2) := (dec_1 (by omega)).trans (by rw [show idx - 1 - 1 = idx - 2 by omega])
    refine w_iinc 0 (nI (idx - 2)) [(5, .int (nI (idx - 2))), (0, .int (-(nI v))), (6, .int (nI 0)), (1, .int (nI idx)), (2, .ref a)] dJ6_getChars_ba4f3_92 rfl rfl (ei2) (by decide) rfl ?_
    refine w_iload 0 dJ6_getChars_ba4f3_95 rfl rfl ?_
    refine w_gDT dJ6_getChars_ba4f3_97 rfl ?_
    refine w_iload_n 1 dJ6_getChars_ba4f3_100 rfl rfl rfl ?_
    refine w_ineg dJ6_getChars_ba4f3_101 rfl ?_
    rw [d6]
    refine w_tDT (i := v) hv dJ6_getChars_ba4f3_102 rfl ?_
    refine w_bast dJ6_getChars_ba4f3_103 rfl hk (by show vp_in _ (m_N h a); rw [hn]; exact vp_in_nI (by omega) (by omega)) (dg_n _ (by omega)) ?_
    rw [n_cl (show idx - 2 < 2147483648 by omega)]
    refine w_iload 2 dJ6_getChars_ba4f3_104 rfl rfl ?_
    refine w_if_eq 118 dJ6_getChars_ba4f3_106 rfl rfl (fun _ => ?_) (fun z => absurd rfl z)
    refine w_iload 0 dJ6_getChars_ba4f3_118 rfl rfl ?_
    exact w_iret hf dJ6_getChars_ba4f3_120 rfl (by decide) (by decide) ⟨⟨_, rfl⟩, by unfold gcS; rw [if_neg hv2]⟩
theorem s_J5_appI (hv : v < 100) (hz : Rp A h σ ρ) (hS : SBd h sb a m T) (hfs : fgn A sb) (hfa : fgn A a) (hm : m ≤ 1000) (hT : T.length ≤ 200) (hc : capS m (T.length + (dgT v).length) ≤ 1000) : ∀ l : Launch, Sp l mJ5_append_c97b9 12 1 1000 [.ref sb, .int (nI v)] h (fun r h' => r = some (.ref sb) ∧ ∃ a' ρ', Rp A h' σ ρ' ∧ SBd h' sb a' (capS m (T.length + (dgT v).length)) (T ++ dgT v) ∧ fgn A a') X0 := by
  intro l
  refine Sp.of (by decide +kernel) rfl (lv := [(0, .ref sb), (1, .int (nI v))]) (Nat.le_of_ble_eq_true rfl) rfl (fun x hf hrm => ?_)
  have hl : (dgT v).length ≤ 2 := by rw [dg_L]; split <;> decide
  have hS0 := hS
  obtain ⟨k1, k2, k3, k4, k5, k6, k7, k8, k9⟩ := hS
  refine w_aload_n 0 dJ5_append_c97b9_0 rfl rfl rfl ?_
  refine g_J5_79 dJ5_append_c97b9_1 rfl k1 k4 ?_
  refine w_istore_n [(2, .int (nI T.length)), (0, .ref sb), (1, .int (nI v))] dJ5_append_c97b9_4 rfl rfl (by decide) rfl ?_
  refine w_iload_n 0 dJ5_append_c97b9_5 rfl rfl rfl ?_
  refine w_iload_n 2 dJ5_append_c97b9_6 rfl rfl rfl ?_
  refine c_J5_245 (b := 0) (As := [.int (nI v)]) (rest := [.int (nI T.length)]) (fun l => s_J6_size hv l) hrm dJ5_append_c97b9_7 rfl rfl (by decide) (by decide) (by decide) rfl (Nat.le_of_ble_eq_true rfl) (fun vr h9 hq => ?_) (fun _ _ hq => hq.elim)
  obtain ⟨rfl, rfl⟩ := hq
  generalize hw : (dgT v).length = w at hf hl hc ⊢
  show wp x _ _ _ [.int (nI w), .int (nI T.length)] _ _ _
  refine w_iadd dJ5_append_c97b9_10 rfl ?_
  rw [n_add]
  refine w_istore_n [(3, .int (nI (T.length + w))), (2, .int (nI T.length)), (0, .ref sb), (1, .int (nI v))] dJ5_append_c97b9_11 rfl rfl (by decide) rfl ?_
  refine w_aload_n 2 dJ5_append_c97b9_12 rfl rfl rfl ?_
  refine w_iload_n 0 dJ5_append_c97b9_13 rfl rfl rfl ?_
  refine w_callG (x2 := yJ5_ensureCapacityInternal_d00df) (b := sb) (n := 1) (As := fun aK _ => [.int (nI (T.length + w))]) (rest := []) (fun l => (s_J5_ensure hz hS0 hfs hfa hm (by omega) (by omega) l).k) hrm dJ5_append_c97b9_14 rfl ml_J5_100 im_J5_ensureCapacityInternal_d00df im_J5_ensureCapacityInternal_d00df co_J5_ensureCapacityInternal_d00df (fun s args u v => sb_sel (by decide +kernel) u v pm_J5_ensureCapacityInternal_d00df im_J5_ensureCapacityInternal_d00df sm_J5_ensureCapacityInternal_d00df) sm_J5_ensureCapacityInternal_d00df co_J5_ensureCapacityInternal_d00df ini_RJ5 (by decide +kernel) (fun _ _ => rfl) (by decide) (by decide) (by decide) (by decide) k1 rfl (Nat.le_of_ble_eq_true rfl) (fun vr h9 hq => ?_) (fun _ _ hq => hq.elim)
  obtain ⟨rfl, a2, ρ2, hz2, hS2, hf2⟩ := hq
  have hcap : T.length + w ≤ capS m (T.length + w) := by unfold capS; split; omega; split <;> omega
  generalize capS m (T.length + w) = m2 at hf hS2 hcap hc ⊢
  have hS3 := hS2
  obtain ⟨j1, j2, j3, j4, j5, j6, j7, j8, j9⟩ := hS2
  refine w_aload_n 2 dJ5_append_c97b9_17 rfl rfl rfl ?_
  refine w_callG (x2 := yJ5_isLatin1_aae02) (b := sb) (n := 0) (As := fun aK _ => []) (rest := []) (fun l => (s_J5_lat hS3 l).k) hrm dJ5_append_c97b9_18 rfl ml_J5_83 im_J5_isLatin1_aae02 im_J5_isLatin1_aae02 co_J5_isLatin1_aae02 (fun s args u _ => u _ sl_J5_isLatin1) sm_J5_isLatin1_aae02 co_J5_isLatin1_aae02 ini_RJ5 (by decide +kernel) (fun _ _ => rfl) (by decide) (by decide) (by decide) (by decide) j1 rfl (Nat.le_of_ble_eq_true rfl) (fun vr h9 hq => ?_) (fun _ _ hq => hq.elim)
  obtain ⟨rfl, rfl⟩ := hq
  refine w_if_eq 37 dJ5_append_c97b9_21 rfl rfl (fun z => absurd z (by decide)) (fun _ => ?_)
  refine w_iload_n 3 dJ5_append_c97b9_24 rfl rfl rfl ?_
  refine w_iload_n 0 dJ5_append_c97b9_25 rfl rfl rfl ?_
  refine w_aload_n 2 dJ5_append_c97b9_26 rfl rfl rfl ?_
  refine g_J5_15 dJ5_append_c97b9_27 rfl j1 j2 ?_
  refine c_J5_248 (b := 0) (As := [.int (nI v), .int (nI (T.length + w)), .ref a2]) (rest := []) (fun l => s_J6_chars hv j5 j6 (by omega) hcap hc l) hrm dJ5_append_c97b9_30 rfl rfl (by decide) (by decide) (by decide) rfl (Nat.le_of_ble_eq_true rfl) (fun vr h9 hq => ?_) (fun _ _ hq => hq.elim)
  obtain ⟨⟨w9, rfl⟩, rfl⟩ := hq
  refine w_pop dJ5_append_c97b9_33 rfl rfl ?_
  refine w_goto 48 dJ5_append_c97b9_34 rfl ?_
  refine w_aload_n 2 dJ5_append_c97b9_48 rfl rfl rfl ?_
  refine w_iload_n 0 dJ5_append_c97b9_49 rfl rfl rfl ?_
  refine p_J5_79 dJ5_append_c97b9_50 rfl (by rw [gc_K]; exact j1) ?_
  refine w_aload_n 2 dJ5_append_c97b9_53 rfl rfl rfl ?_
  have hS5 := sb_dig hS3 hv (by rw [hw]; exact hcap)
  rw [hw] at hS5
  obtain ⟨ρ3, hz3⟩ := hz2.gc (idx := T.length + w) (v := v) hf2
  exact w_aret hf dJ5_append_c97b9_54 rfl (Or.inl ⟨_, rfl⟩) (Or.inr ⟨_, rfl⟩) (by decide) (by decide) ⟨rfl, a2, _, hz3.fI hfs, hS5, hf2⟩
theorem s_J4_appI (hv : v < 100) (hz : Rp A h σ ρ) (hS : SBd h sb a m T) (hfs : fgn A sb) (hfa : fgn A a) (hm : m ≤ 1000) (hT : T.length ≤ 200) (hc : capS m (T.length + (dgT v).length) ≤ 1000) : ∀ l : Launch, Sp l mJ4_append_bf812 13 1 1000 [.ref sb, .int (nI v)] h (fun r h' => r = some (.ref sb) ∧ ∃ a' ρ', Rp A h' σ ρ' ∧ SBd h' sb a' (capS m (T.length + (dgT v).length)) (T ++ dgT v) ∧ fgn A a') X0 := by
  intro l
  refine Sp.of (by decide +kernel) rfl (lv := [(0, .ref sb), (1, .int (nI v))]) (Nat.le_of_ble_eq_true rfl) rfl (fun x hf hrm => ?_)
  refine w_aload_n 0 dJ4_append_bf812_0 rfl rfl rfl ?_
  refine w_iload_n 1 dJ4_append_bf812_1 rfl rfl rfl ?_
  refine w_callSU (b := sb) (n := 1) (As := fun _ _ => [.int (nI v)]) (rest := []) (fun l => (s_J5_appI hv hz hS hfs hfa hm hT hc l).k) hrm dJ4_append_bf812_2 rfl x9_ml_J4_53 x9_im_J5_append_c97b9 sm_J5_append_c97b9 x9_co_J5_append_c97b9 ⟨rfl, by decide +kernel, by decide +kernel⟩ (fun _ _ => rfl) (by decide) (by decide) (by decide) (by decide) hS.1 rfl (Nat.le_of_ble_eq_true rfl) (fun vr h9 hq => ?_) (fun _ _ hq => hq.elim)
  obtain ⟨rfl, hq⟩ := hq
  refine w_pop dJ4_append_bf812_5 rfl rfl ?_
  refine w_aload_n 0 dJ4_append_bf812_6 rfl rfl rfl ?_
  exact w_aret hf dJ4_append_bf812_7 rfl (Or.inl ⟨_, rfl⟩) (Or.inr ⟨_, rfl⟩) (by decide) (by decide) ⟨rfl, hq⟩
end SBA
