/-! STRINGBUILDER: the builder's picture; what its methods do -/
theorem Sp.k {l : Launch} {M : MI} {d mc ms : Nat} {av : List Value} {h : Hp} {Qv : Option Value → Hp → Prop} {Xv : String → Hp → Prop} (k : Sp l M d mc ms av h Qv Xv) : SpK l M d mc ms (fun _ _ => av) h Qv Xv := k
/-- a builder at sb, its letters T in the row a of m places -/
def SBd (h : Hp) (sb a m : Nat) (T : List Nat) : Prop := m_K h sb = 13 ∧ m_R h 832 sb = some a ∧ m_I h 833 sb = 0 ∧ m_I h 835 sb = nI T.length ∧ m_K h a = 22 ∧ m_N h a = m ∧ T.length ≤ m ∧ bF (m_X h a) ∧ ∀ i, i < T.length → m_X h a i = nI (T.getD i 0)
def capS (m q : Nat) : Nat := if q ≤ m then m else m + (if q - m < m + 2 then m + 2 else q - m)
theorem p_max_n {a b : Nat} (ha : a < 2147483648) (hb : b < 2147483648) : p_max (nI a) (nI b) = nI (if a < b then b else a) := by
  unfold p_max
  by_cases e : a < b
  · rw [if_pos ((n_lt ha hb).mpr e), if_pos e]
  · rw [if_neg (fun q => e ((n_lt ha hb).mp q)), if_neg e]
theorem p_min_n {a b : Nat} (ha : a < 2147483648) (hb : b < 2147483648) : p_min (nI a) (nI b) = nI (if b < a then b else a) := by
  unfold p_min
  by_cases e : b < a
  · rw [if_pos ((n_lt hb ha).mpr e), if_pos e]
  · rw [if_neg (fun q => e ((n_lt hb ha).mp q)), if_neg e]
section SBM
variable {A : Nat → Nat → Nat → Nat} {h : Hp} {σ ρ : Zs} {sb a m q n i : Nat} {T : List Nat}
theorem s_J5_init (hz : Rp A h σ ρ) (hk : m_K h sb = 13) (hc : m_I h 835 sb = 0) (hfs : fgn A sb) : ∀ l : Launch, Sp l mJ5_init_d00df 2 1 16 [.ref sb, .int (nI 16)] h (fun r h' => r = none ∧ ∃ a ρ', Rp A h' σ ρ' ∧ SBd h' sb a 16 [] ∧ fgn A a) X0 := by
  intro l
  refine Sp.of (by decide +kernel) rfl (lv := [(0, .ref sb), (1, .int (nI 16))]) (Nat.le_of_ble_eq_true rfl) rfl (fun x hf hrm => ?_)
  refine w_aload_n 0 dJ5_init_d00df_0 rfl rfl rfl ?_
  refine w_objInit hrm (by decide) dJ5_init_d00df_1 rfl ml_J5_3 im_objectInit co_objectInit (Nat.le_of_ble_eq_true rfl) ?_
  refine w_gC5 dJ5_init_d00df_4 rfl ?_
  refine w_if_eq 25 dJ5_init_d00df_7 rfl rfl (fun q => absurd q (by decide)) (fun _ => ?_)
  refine w_aload_n 0 dJ5_init_d00df_10 rfl rfl rfl ?_
  refine w_iload_n 1 dJ5_init_d00df_11 rfl rfl rfl ?_
  refine w_newB (n := 16) hrm dJ5_init_d00df_12 rfl a_byte (by decide) (by decide) (by decide) (by decide) (by decide) (fun a ha => ?_)
  have ne : sb ≠ a := fun e => ha (by rw [← e, hk]; decide)
  have hk1 : m_K (n_A h a 22 16) sb = 13 := (va_up_ne _ _ ne).trans hk
  refine p_J5_15 dJ5_init_d00df_14 rfl hk1 ?_
  refine w_aload_n 0 dJ5_init_d00df_17 rfl rfl rfl ?_
  refine w_iconst (nI 0) dJ5_init_d00df_18 rfl rfl ?_
  refine p_J5_22 dJ5_init_d00df_19 rfl hk1 (Or.inl rfl) ?_
  refine w_goto 38 dJ5_init_d00df_22 rfl ?_
  refine w_vret hf dJ5_init_d00df_38 rfl (by decide) (by decide) ⟨rfl, a, _, ((hz.newA ha).fR hfs).fI hfs, ⟨hk1, g_RRs, g_IIs, ?_, va_up_self _ _ _, va_up_self _ _ _, Nat.zero_le _, fun i => ?_, fun i hi => absurd hi (Nat.not_lt_zero i)⟩, hz.fg ha⟩
  · exact g_IIc (by decide) hc
  · have e1 : m_X (p_I (p_R (n_A h a 22 16) 832 sb (some a)) 833 sb (nI 0)) a i = 0 := if_pos rfl
    rw [e1]
    rfl
theorem s_J4_init (hz : Rp A h σ ρ) (hk : m_K h sb = 13) (hc : m_I h 835 sb = 0) (hfs : fgn A sb) : ∀ l : Launch, Sp l mJ4_init_da8c8 3 1 16 [.ref sb] h (fun r h' => r = none ∧ ∃ a ρ', Rp A h' σ ρ' ∧ SBd h' sb a 16 [] ∧ fgn A a) X0 := by
  intro l
  refine Sp.of (by decide +kernel) rfl (lv := [(0, .ref sb)]) (Nat.le_of_ble_eq_true rfl) rfl (fun x hf hrm => ?_)
  refine w_aload_n 0 dJ4_init_da8c8_0 rfl rfl rfl ?_
  refine w_bipush (nI 16) dJ4_init_da8c8_1 rfl (by decide) ?_
  refine c_J4_1 (b := sb) (As := [.int (nI 16)]) (rest := []) (fun l => s_J5_init hz hk hc hfs l) hrm dJ4_init_da8c8_3 rfl rfl (by decide) (by decide) (by decide) rfl (Nat.le_of_ble_eq_true rfl) (fun vr h9 hq => ?_) (fun _ _ hq => hq.elim)
  obtain ⟨rfl, hq⟩ := hq
  exact w_vret hf dJ4_init_da8c8_6 rfl (by decide) (by decide) ⟨rfl, hq⟩
theorem s_J8_newLength {b c : Nat} (h1 : a < 100000) (h2 : b < 100000) (h3 : c < 100000) (h4 : 0 < c) : ∀ l : Launch, Sp l mJ8_newLength_cabcc 1 0 0 [.int (nI a), .int (nI b), .int (nI c)] h (Qt h (nI (a + (if b < c then c else b)))) X0 := by
  intro l
  refine Sp.of (by decide +kernel) rfl (lv := [(0, .int (nI a)), (1, .int (nI b)), (2, .int (nI c))]) (Nat.le_of_ble_eq_true rfl) rfl (fun x hf hrm => ?_)
  refine w_iload_n 0 dJ8_newLength_cabcc_0 rfl rfl rfl ?_
  refine w_iload_n 1 dJ8_newLength_cabcc_1 rfl rfl rfl ?_
  refine w_iload_n 2 dJ8_newLength_cabcc_2 rfl rfl rfl ?_
  refine w_mmax hrm (by decide) dJ8_newLength_cabcc_3 rfl ml_J8_194 (Nat.le_of_ble_eq_true rfl) (by decide) (by decide) ?_
  rw [p_max_n (by omega) (by omega)]
  refine w_iadd dJ8_newLength_cabcc_6 rfl ?_
  rw [n_add]
  have hx : a + (if b < c then c else b) < 200000 ∧ 0 < a + (if b < c then c else b) := by split <;> omega
  generalize a + (if b < c then c else b) = g at hf hx ⊢
  refine w_istore_n [(3, .int (nI g)), (0, .int (nI a)), (1, .int (nI b)), (2, .int (nI c))] dJ8_newLength_cabcc_7 rfl rfl (by decide) rfl ?_
  refine w_iconst (nI 0) dJ8_newLength_cabcc_8 rfl rfl ?_
  refine w_iload_n 0 dJ8_newLength_cabcc_9 rfl rfl rfl ?_
  refine w_icmp_ge 21 dJ8_newLength_cabcc_10 rfl rfl (fun z => absurd ((n_le (by omega) (by omega)).mp z) (by omega)) (fun _ => ?_)
  refine w_iload_n 0 dJ8_newLength_cabcc_13 rfl rfl rfl ?_
  refine w_ldc dJ8_newLength_cabcc_14 rfl x9_k200 ?_
  refine w_icmp_gt 21 dJ8_newLength_cabcc_16 rfl rfl (fun z => absurd ((n_lt (a := 2147483639) (by decide) (by omega)).mp z) (by omega)) (fun _ => ?_)
  refine w_iload_n 0 dJ8_newLength_cabcc_19 rfl rfl rfl ?_
  exact w_iret hf dJ8_newLength_cabcc_20 rfl (by decide) (by decide) ⟨rfl, rfl⟩
theorem s_J5_newCap (hS : SBd h sb a m T) (hm : m < q) (hq1 : q ≤ 1000) : ∀ l : Launch, Sp l mJ5_newCapacity_0f7a4 2 0 0 [.ref sb, .int (nI q)] h (Qt h (nI (m + (if q - m < m + 2 then m + 2 else q - m)))) X0 := by
  intro l
  refine Sp.of (by decide +kernel) rfl (lv := [(0, .ref sb), (1, .int (nI q))]) (Nat.le_of_ble_eq_true rfl) rfl (fun x hf hrm => ?_)
  obtain ⟨k1, k2, k3, k4, k5, k6, k7, k8, k9⟩ := hS
  refine w_aload_n 0 dJ5_newCapacity_0f7a4_0 rfl rfl rfl ?_
  refine g_J5_15 dJ5_newCapacity_0f7a4_1 rfl k1 k2 ?_
  refine w_alen (c := 22) 2 dJ5_newCapacity_0f7a4_4 rfl (by decide) (by decide) (fun _ => rfl) k5 (v := nI m) (by rw [k6]; rfl) ?_
  refine w_istore_n [(2, .int (nI m)), (0, .ref sb), (1, .int (nI q))] dJ5_newCapacity_0f7a4_5 rfl rfl (by decide) rfl ?_
  refine w_iload_n 2 dJ5_newCapacity_0f7a4_6 rfl rfl rfl ?_
  refine w_aload_n 1 dJ5_newCapacity_0f7a4_7 rfl rfl rfl ?_
  refine g_J5_22 dJ5_newCapacity_0f7a4_8 rfl k1 k3 ?_
  refine w_ishl dJ5_newCapacity_0f7a4_11 rfl ?_
  rw [sb_shl0]
  refine w_istore_n [(3, .int (nI q)), (2, .int (nI m)), (0, .ref sb), (1, .int (nI q))] dJ5_newCapacity_0f7a4_12 rfl rfl (by decide) rfl ?_
  refine w_iload_n 0 dJ5_newCapacity_0f7a4_13 rfl rfl rfl ?_
  refine w_iload_n 1 dJ5_newCapacity_0f7a4_14 rfl rfl rfl ?_
  refine w_isub dJ5_newCapacity_0f7a4_15 rfl ?_
  rw [n_sub (by omega)]
  refine w_istore [(4, .int (nI (q - m))), (3, .int (nI q)), (2, .int (nI m)), (0, .ref sb), (1, .int (nI q))] dJ5_newCapacity_0f7a4_16 rfl (by decide) rfl ?_
  refine w_iload_n 2 dJ5_newCapacity_0f7a4_18 rfl rfl rfl ?_
  refine w_iload 0 dJ5_newCapacity_0f7a4_19 rfl rfl ?_
  refine w_iload_n 2 dJ5_newCapacity_0f7a4_21 rfl rfl rfl ?_
  refine w_iconst (nI 2) dJ5_newCapacity_0f7a4_22 rfl rfl ?_
  refine w_aload_n 3 dJ5_newCapacity_0f7a4_23 rfl rfl rfl ?_
  refine g_J5_22 dJ5_newCapacity_0f7a4_24 rfl k1 k3 ?_
  refine w_ishl dJ5_newCapacity_0f7a4_27 rfl ?_
  rw [sb_shl0]
  refine w_iadd dJ5_newCapacity_0f7a4_28 rfl ?_
  rw [n_add]
  refine c_J5_114 (b := 0) (As := [.int (nI m), .int (nI (q - m)), .int (nI (m + 2))]) (rest := []) (fun l => s_J8_newLength (a := m) (b := q - m) (c := m + 2) (by omega) (by omega) (by omega) (by omega) l) hrm dJ5_newCapacity_0f7a4_29 rfl rfl (by decide) (by decide) (by decide) rfl (Nat.le_of_ble_eq_true rfl) (fun vr h9 hq => ?_) (fun _ _ hq => hq.elim)
  obtain ⟨rfl, rfl⟩ := hq
  have hx : m + (if q - m < m + 2 then m + 2 else q - m) < 3000 := by split <;> omega
  generalize m + (if q - m < m + 2 then m + 2 else q - m) = g at hf hx ⊢
  show wp x _ _ _ [.int (nI g)] _ _ _
  refine w_istore [(5, .int (nI g)), (4, .int (nI (q - m))), (3, .int (nI q)), (2, .int (nI m)), (0, .ref sb), (1, .int (nI q))] dJ5_newCapacity_0f7a4_32 rfl (by decide) rfl ?_
  refine w_iload 0 dJ5_newCapacity_0f7a4_34 rfl rfl ?_
  refine w_ldc dJ5_newCapacity_0f7a4_36 rfl x9_k39 ?_
  refine w_icmp_ne 51 dJ5_newCapacity_0f7a4_38 rfl rfl (fun _ => ?_) (fun z => absurd ((n_eq (a := g) (b := 2147483647) (by omega) (by decide)).mp z) (by omega))
  refine w_iload 0 dJ5_newCapacity_0f7a4_51 rfl rfl ?_
  refine w_aload_n 4 dJ5_newCapacity_0f7a4_53 rfl rfl rfl ?_
  refine g_J5_22 dJ5_newCapacity_0f7a4_54 rfl k1 k3 ?_
  refine w_ishr dJ5_newCapacity_0f7a4_57 rfl ?_
  rw [sb_shr0]
  exact w_iret hf dJ5_newCapacity_0f7a4_58 rfl (by decide) (by decide) ⟨rfl, rfl⟩
theorem s_J7_copyOf (hk : m_K h a = 22) (hn : m_N h a = m) (hb : bF (m_X h a)) (h1 : m < q) (h2 : q ≤ 3000) : ∀ l : Launch, Sp l mJ7_copyOf_9075b 10 1 q [.ref a, .int (nI q)] h (fun r h' => ∃ b, r = some (.ref b) ∧ ¬ m_K h b < 28 ∧ h' = p_CF (n_A h b 22 q) (m_X h a) b 0 0 m) X0 := by
  intro l
  refine Sp.of (by decide +kernel) rfl (lv := [(0, .ref a), (1, .int (nI q))]) (Nat.le_of_ble_eq_true rfl) rfl (fun x hf hrm => ?_)
  refine w_iload_n 1 dJ7_copyOf_9075b_0 rfl rfl rfl ?_
  refine w_aload_n 0 dJ7_copyOf_9075b_1 rfl rfl rfl ?_
  refine w_alen (c := 22) 2 dJ7_copyOf_9075b_2 rfl (by decide) (by decide) (fun _ => rfl) hk (v := nI m) (by rw [hn]; rfl) ?_
  refine w_icmp_ne 14 dJ7_copyOf_9075b_3 rfl rfl (fun _ => ?_) (fun z => absurd ((n_eq (by omega) (by omega)).mp z) (by omega))
  refine w_iload_n 1 dJ7_copyOf_9075b_14 rfl rfl rfl ?_
  refine w_newB (n := q) hrm dJ7_copyOf_9075b_15 rfl a_byte (nI_pos (by omega)) (n_cl (by omega)) (by omega) (by omega) (by omega) (fun b hb2 => ?_)
  have ne : a ≠ b := fun e => hb2 (by rw [← e, hk]; decide)
  have hk1 : m_K (n_A h b 22 q) a = 22 := (va_up_ne _ _ ne).trans hk
  have hn1 : m_N (n_A h b 22 q) a = m := (va_up_ne _ _ ne).trans hn
  have hX : m_X (n_A h b 22 q) a = m_X h a := funext fun j => if_neg ne
  refine w_astore_n [(2, .ref b), (0, .ref a), (1, .int (nI q))] dJ7_copyOf_9075b_17 rfl rfl (by decide) rfl ?_
  refine w_aload_n 1 dJ7_copyOf_9075b_18 rfl rfl rfl ?_
  refine w_iconst (nI 0) dJ7_copyOf_9075b_19 rfl rfl ?_
  refine w_aload_n 0 dJ7_copyOf_9075b_20 rfl rfl rfl ?_
  refine w_iconst (nI 0) dJ7_copyOf_9075b_21 rfl rfl ?_
  refine w_aload_n 1 dJ7_copyOf_9075b_22 rfl rfl rfl ?_
  refine w_alen (c := 22) 2 dJ7_copyOf_9075b_23 rfl (by decide) (by decide) (fun _ => rfl) hk1 (v := nI m) (by rw [hn1]; rfl) ?_
  refine w_iload_n 2 dJ7_copyOf_9075b_24 rfl rfl rfl ?_
  refine w_mmin hrm (by decide) dJ7_copyOf_9075b_25 rfl ml_J7_304 (Nat.le_of_ble_eq_true rfl) (by omega) (by omega) ?_
  rw [p_min_n (by omega) (by omega), if_neg (by omega)]
  refine w_copyb hrm (by decide) dJ7_copyOf_9075b_28 rfl x9_acl7 hk1 (va_up_self _ _ _) hn1 (va_up_self _ _ _) (by rw [hX]; exact hb) ⟨by decide, by decide, nI_pos (by omega), ?_, ?_⟩ (Nat.le_of_ble_eq_true rfl) ?_
  · rw [n_cl (by omega), n_cl (by omega)]; omega
  · rw [n_cl (by omega), n_cl (by omega)]; omega
  rw [hX, n_cl (show m < 2147483648 by omega), show Int32.toNatClampNeg (nI 0) = 0 from rfl]
  refine w_aload_n 0 dJ7_copyOf_9075b_31 rfl rfl rfl ?_
  exact w_aret hf dJ7_copyOf_9075b_32 rfl (Or.inr ⟨_, rfl⟩) (Or.inr ⟨_, rfl⟩) (by omega) (by omega) ⟨b, rfl, hb2, rfl⟩
theorem sb_grow {b q2 : Nat} (hS : SBd h sb a m T) (hb : ¬ m_K h b < 28) (hq : T.length ≤ q2) : SBd (p_R (p_CF (n_A h b 22 q2) (m_X h a) b 0 0 m) 832 sb (some b)) sb b q2 T := by
  obtain ⟨k1, k2, k3, k4, k5, k6, k7, k8, k9⟩ := hS
  have ne : sb ≠ b := fun e => hb (by rw [← e, k1]; decide)
  have eX : ∀ j, m_X (p_R (p_CF (n_A h b 22 q2) (m_X h a) b 0 0 m) 832 sb (some b)) b j = va_cpy (m_X h a) (fun _ => 0) 0 0 m j := fun j => by
    show (if b = b then va_cpy (m_X h a) (m_X (n_A h b 22 q2) b) 0 0 m j else _) = _
    rw [if_pos rfl, show m_X (n_A h b 22 q2) b = fun _ => 0 from funext fun j => if_pos rfl]
  refine ⟨(va_up_ne _ _ ne).trans k1, g_RRs, k3, k4, va_up_self _ _ _, va_up_self _ _ _, hq, fun i => ?_, fun i hi => ?_⟩
  · rw [eX]
    exact bF_cpy (g := fun _ => 0) k8 (fun _ => rfl) i
  · rw [eX, pk_cpy_in (by omega) (by omega), show 0 + (i - 0) = i by omega]
    exact k9 i hi
theorem s_J5_ensure (hz : Rp A h σ ρ) (hS : SBd h sb a m T) (hfs : fgn A sb) (hfa : fgn A a) (hm : m ≤ 1000) (hq1 : q ≤ 400) (hT : T.length ≤ q) : ∀ l : Launch, Sp l mJ5_ensureCapacityInternal_d00df 11 1 1000 [.ref sb, .int (nI q)] h (fun r h' => r = none ∧ ∃ a' ρ', Rp A h' σ ρ' ∧ SBd h' sb a' (capS m q) T ∧ fgn A a') X0 := by
  intro l
  refine Sp.of (by decide +kernel) rfl (lv := [(0, .ref sb), (1, .int (nI q))]) (Nat.le_of_ble_eq_true rfl) rfl (fun x hf hrm => ?_)
  have hS0 := hS
  obtain ⟨k1, k2, k3, k4, k5, k6, k7, k8, k9⟩ := hS
  refine w_aload_n 0 dJ5_ensureCapacityInternal_d00df_0 rfl rfl rfl ?_
  refine g_J5_15 dJ5_ensureCapacityInternal_d00df_1 rfl k1 k2 ?_
  refine w_alen (c := 22) 2 dJ5_ensureCapacityInternal_d00df_4 rfl (by decide) (by decide) (fun _ => rfl) k5 (v := nI m) (by rw [k6]; rfl) ?_
  refine w_aload_n 0 dJ5_ensureCapacityInternal_d00df_5 rfl rfl rfl ?_
  refine g_J5_22 dJ5_ensureCapacityInternal_d00df_6 rfl k1 k3 ?_
  refine w_ishr dJ5_ensureCapacityInternal_d00df_9 rfl ?_
  rw [sb_shr0]
  refine w_istore_n [(2, .int (nI m)), (0, .ref sb), (1, .int (nI q))] dJ5_ensureCapacityInternal_d00df_10 rfl rfl (by decide) rfl ?_
  refine w_iload_n 2 dJ5_ensureCapacityInternal_d00df_11 rfl rfl rfl ?_
  refine w_iload_n 0 dJ5_ensureCapacityInternal_d00df_12 rfl rfl rfl ?_
  refine w_isub dJ5_ensureCapacityInternal_d00df_13 rfl ?_
  have e1 : (nI q - nI m).toInt = (q : Int) - m := pk_sub_toInt (by omega) (by omega)
  refine w_if_le 38 dJ5_ensureCapacityInternal_d00df_14 rfl rfl (fun z => ?_) (fun z => ?_)
  · have hle : q ≤ m := by rw [Int32.le_iff_toInt_le, e1, Int32.toInt_zero] at z; omega
    refine w_vret hf dJ5_ensureCapacityInternal_d00df_38 rfl (by decide) (by decide) ⟨rfl, a, ρ, hz, ?_, hfa⟩
    unfold capS
    rw [if_pos hle]
    exact hS0
  · have hlt : m < q := by
      rcases Nat.lt_or_ge m q with u | u
      · exact u
      · exact absurd (by rw [Int32.le_iff_toInt_le, e1, Int32.toInt_zero]; omega) z
    have ec : capS m q = m + (if q - m < m + 2 then m + 2 else q - m) := if_neg (by omega)
    rw [ec] at hf
    have hx : m + (if q - m < m + 2 then m + 2 else q - m) ≤ 1000 ∧ q ≤ m + (if q - m < m + 2 then m + 2 else q - m) := by split <;> omega
    refine w_aload_n 1 dJ5_ensureCapacityInternal_d00df_17 rfl rfl rfl ?_
    refine w_aload_n 1 dJ5_ensureCapacityInternal_d00df_18 rfl rfl rfl ?_
    refine g_J5_15 dJ5_ensureCapacityInternal_d00df_19 rfl k1 k2 ?_
    refine w_aload_n 1 dJ5_ensureCapacityInternal_d00df_22 rfl rfl rfl ?_
    refine w_iload_n 2 dJ5_ensureCapacityInternal_d00df_23 rfl rfl rfl ?_
    refine w_callG (x2 := yJ5_newCapacity_0f7a4) (b := sb) (n := 1) (As := fun aK _ => [.int (nI q)]) (rest := [.ref a, .ref sb]) (fun l => (s_J5_newCap hS0 hlt (by omega) l).k) hrm dJ5_ensureCapacityInternal_d00df_24 rfl ml_J5_104 im_J5_newCapacity_0f7a4 im_J5_newCapacity_0f7a4 co_J5_newCapacity_0f7a4 (fun s args u v => sb_sel (by decide +kernel) u v pm_J5_newCapacity_0f7a4 im_J5_newCapacity_0f7a4 sm_J5_newCapacity_0f7a4) sm_J5_newCapacity_0f7a4 co_J5_newCapacity_0f7a4 ini_RJ5 (by decide +kernel) (fun _ _ => rfl) (by decide) (by decide) (by omega) (by omega) k1 rfl (Nat.le_of_ble_eq_true rfl) (fun vr h9 hq => ?_) (fun _ _ hq => hq.elim)
    obtain ⟨rfl, rfl⟩ := hq
    generalize m + (if q - m < m + 2 then m + 2 else q - m) = g at hf hx ⊢
    show wp x _ _ _ [.int (nI g), .ref a, .ref sb] _ _ _
    refine w_aload_n 1 dJ5_ensureCapacityInternal_d00df_27 rfl rfl rfl ?_
    refine g_J5_22 dJ5_ensureCapacityInternal_d00df_28 rfl k1 k3 ?_
    refine w_ishl dJ5_ensureCapacityInternal_d00df_31 rfl ?_
    rw [sb_shl0]
    refine c_J5_108 (b := 0) (As := [.ref a, .int (nI g)]) (rest := [.ref sb]) (fun l => s_J7_copyOf k5 k6 k8 (by omega) (by omega) l) hrm dJ5_ensureCapacityInternal_d00df_32 rfl rfl (by decide) (by omega) (by omega) rfl (Nat.le_of_ble_eq_true rfl) (fun vr h9 hq => ?_) (fun _ _ hq => hq.elim)
    obtain ⟨b, rfl, hb, rfl⟩ := hq
    have hS2 := sb_grow hS0 hb (q2 := g) (by omega)
    refine p_J5_15 dJ5_ensureCapacityInternal_d00df_35 rfl hS2.1 ?_
    exact w_vret hf dJ5_ensureCapacityInternal_d00df_38 rfl (by omega) (by omega) ⟨rfl, b, _, ((hz.newA hb).fC (hz.fg hb)).fR hfs, hS2, hz.fg hb⟩
theorem s_J5_lat (hS : SBd h sb a m T) : ∀ l : Launch, Sp l mJ5_isLatin1_aae02 0 0 0 [.ref sb] h (Qt h 1) X0 := by
  intro l
  refine Sp.of (by decide +kernel) rfl (lv := [(0, .ref sb)]) (Nat.le_of_ble_eq_true rfl) rfl (fun x hf hrm => ?_)
  obtain ⟨k1, k2, k3, k4, k5, k6, k7, k8, k9⟩ := hS
  refine w_gC5 dJ5_isLatin1_aae02_0 rfl ?_
  refine w_if_eq 17 dJ5_isLatin1_aae02_3 rfl rfl (fun q => absurd q (by decide)) (fun _ => ?_)
  refine w_aload_n 0 dJ5_isLatin1_aae02_6 rfl rfl rfl ?_
  refine g_J5_22 dJ5_isLatin1_aae02_7 rfl k1 k3 ?_
  refine w_if_ne 17 dJ5_isLatin1_aae02_10 rfl rfl (fun q => absurd rfl q) (fun _ => ?_)
  refine w_iconst 1 dJ5_isLatin1_aae02_13 rfl rfl ?_
  refine w_goto 18 dJ5_isLatin1_aae02_14 rfl ?_
  exact w_zret hf dJ5_isLatin1_aae02_18 rfl rfl (by decide) (by decide) ⟨rfl, rfl⟩
theorem s_J5_infl (hi : i < 6) (hS : SBd h sb a m T) : ∀ l : Launch, SpK l mJ5_inflateIfNeededFor_a7421 1 0 0 (fun aK _ => [.ref sb, .ref (aK i)]) h (fun r h' => r = none ∧ h' = h) X0 := by
  intro l
  refine SpK.of (by decide +kernel) rfl (lv := fun aK _ => [(0, .ref sb), (1, .ref (aK i))]) (fun aK aV => (Nat.le_of_ble_eq_true rfl)) (fun aK aV => rfl) (fun x hf hrm => ?_)
  obtain ⟨k1, k2, k3, k4, k5, k6, k7, k8, k9⟩ := hS
  refine w_gC5 dJ5_inflateIfNeededFor_a7421_0 rfl ?_
  refine w_if_eq 21 dJ5_inflateIfNeededFor_a7421_3 rfl rfl (fun q => absurd q (by decide)) (fun _ => ?_)
  refine w_aload_n 0 dJ5_inflateIfNeededFor_a7421_6 rfl rfl rfl ?_
  refine g_J5_22 dJ5_inflateIfNeededFor_a7421_7 rfl k1 k3 ?_
  refine w_aload_n 1 dJ5_inflateIfNeededFor_a7421_10 rfl rfl rfl ?_
  refine w_callVL (n := 0) (As := fun _ _ => []) (rest := [.int 0]) hi (fun l => s_J0_coder_7d493 hi l) hrm dJ5_inflateIfNeededFor_a7421_11 rfl ml_J5_40 x_im_J0_coder_7d493 x_se_J0_coder_7d493 x_co_J0_coder_7d493 ⟨rfl, by decide +kernel, by decide +kernel, by decide +kernel⟩ (fun _ _ => rfl) (by decide) (by decide) (by decide) (by decide) rfl (Nat.le_of_ble_eq_true rfl) (fun vr h9 hq => ?_) (fun _ _ hq => hq.elim)
  obtain ⟨rfl, rfl⟩ := hq
  refine w_icmp_eq 21 dJ5_inflateIfNeededFor_a7421_14 rfl rfl (fun _ => ?_) (fun q => absurd rfl q)
  exact w_vret hf dJ5_inflateIfNeededFor_a7421_21 rfl (by decide) (by decide) ⟨rfl, rfl⟩
theorem s_J0_getBytes (hi : i < 6) (hk : m_K h a = 22) (hn : m_N h a = m) (h1 : n + m_len.getD i 0 ≤ m) (h2 : m ≤ 1000) : ∀ l : Launch, SpK l mJ0_getBytes_840e7 10 0 0 (fun aK _ => [.ref (aK i), .ref a, .int (nI n), .int 0]) h (fun r h' => r = none ∧ h' = p_CF h (fun j => (tx_b i).getD j 0) a 0 n (m_len.getD i 0)) X0 := by
  intro l
  refine SpK.of (by decide +kernel) rfl (lv := fun aK _ => [(0, .ref (aK i)), (1, .ref a), (2, .int (nI n)), (3, .int 0)]) (fun aK aV => (Nat.le_of_ble_eq_true rfl)) (fun aK aV => rfl) (fun x hf hrm => ?_)
  refine w_aload_n 0 dJ0_getBytes_840e7_0 rfl rfl rfl ?_
  refine w_callVL (n := 0) (As := fun _ _ => []) (rest := []) hi (fun l => s_J0_coder_7d493 hi l) hrm dJ0_getBytes_840e7_1 rfl x_ml_RJ0_335 x_im_J0_coder_7d493 x_se_J0_coder_7d493 x_co_J0_coder_7d493 ⟨rfl, by decide +kernel, by decide +kernel, by decide +kernel⟩ (fun _ _ => rfl) (by decide) (by decide) (by decide) (by decide) rfl (Nat.le_of_ble_eq_true rfl) (fun vr h9 hq => ?_) (fun _ _ hq => hq.elim)
  obtain ⟨rfl, rfl⟩ := hq
  refine w_iload_n 3 dJ0_getBytes_840e7_4 rfl rfl rfl ?_
  refine w_icmp_ne 28 dJ0_getBytes_840e7_5 rfl rfl (fun q => absurd rfl q) (fun _ => ?_)
  refine w_aload_n 0 dJ0_getBytes_840e7_8 rfl rfl rfl ?_
  refine w_tv hi dJ0_getBytes_840e7_9 rfl ?_
  refine w_iconst (nI 0) dJ0_getBytes_840e7_12 rfl rfl ?_
  refine w_aload_n 1 dJ0_getBytes_840e7_13 rfl rfl rfl ?_
  refine w_iload_n 2 dJ0_getBytes_840e7_14 rfl rfl rfl ?_
  refine w_iload_n 3 dJ0_getBytes_840e7_15 rfl rfl rfl ?_
  refine w_ishl dJ0_getBytes_840e7_16 rfl ?_
  rw [sb_shl0]
  refine w_aload_n 0 dJ0_getBytes_840e7_17 rfl rfl rfl ?_
  refine w_tv hi dJ0_getBytes_840e7_18 rfl ?_
  refine w_tlen hi dJ0_getBytes_840e7_21 rfl ?_
  have e9 : (tx_len i).toNatClampNeg = m_len.getD i 0 := n_cl (by omega)
  refine w_copyk hi hrm (by decide) dJ0_getBytes_840e7_22 rfl x9_acl0 hk hn ⟨by decide, nI_pos (by omega), nI_pos (by omega), ?_, ?_⟩ (Nat.le_of_ble_eq_true rfl) ?_
  · rw [e9, show Int32.toNatClampNeg (nI 0) = 0 from rfl]; omega
  · rw [e9, n_cl (by omega)]; omega
  rw [e9, n_cl (show n < 2147483648 by omega), show Int32.toNatClampNeg (nI 0) = 0 from rfl]
  refine w_goto 43 dJ0_getBytes_840e7_25 rfl ?_
  exact w_vret hf dJ0_getBytes_840e7_43 rfl (by decide) (by decide) ⟨rfl, rfl⟩
theorem s_J5_put (hi : i < 6) (hS : SBd h sb a m T) (h1 : n + m_len.getD i 0 ≤ m) (h2 : m ≤ 1000) : ∀ l : Launch, SpK l mJ5_putStringAt_47b60 11 0 0 (fun aK _ => [.ref sb, .int (nI n), .ref (aK i)]) h (fun r h' => r = none ∧ h' = p_CF h (fun j => (tx_b i).getD j 0) a 0 n (m_len.getD i 0)) X0 := by
  intro l
  refine SpK.of (by decide +kernel) rfl (lv := fun aK _ => [(0, .ref sb), (1, .int (nI n)), (2, .ref (aK i))]) (fun aK aV => (Nat.le_of_ble_eq_true rfl)) (fun aK aV => rfl) (fun x hf hrm => ?_)
  have hS0 := hS
  obtain ⟨k1, k2, k3, k4, k5, k6, k7, k8, k9⟩ := hS
  refine w_aload_n 0 dJ5_putStringAt_47b60_0 rfl rfl rfl ?_
  refine w_aload_n 2 dJ5_putStringAt_47b60_1 rfl rfl rfl ?_
  refine w_callG (x2 := yJ5_inflateIfNeededFor_a7421) (b := sb) (n := 1) (As := fun aK _ => [.ref (aK i)]) (rest := []) (fun l => s_J5_infl hi hS0 l) hrm dJ5_putStringAt_47b60_2 rfl ml_J5_397 im_J5_inflateIfNeededFor_a7421 im_J5_inflateIfNeededFor_a7421 co_J5_inflateIfNeededFor_a7421 (fun s args u v => sb_sel (by decide +kernel) u v pm_J5_inflateIfNeededFor_a7421 im_J5_inflateIfNeededFor_a7421 sm_J5_inflateIfNeededFor_a7421) sm_J5_inflateIfNeededFor_a7421 co_J5_inflateIfNeededFor_a7421 ini_RJ5 (by decide +kernel) (fun _ _ => rfl) (by decide) (by decide) (by decide) (by decide) k1 rfl (Nat.le_of_ble_eq_true rfl) (fun vr h9 hq => ?_) (fun _ _ hq => hq.elim)
  obtain ⟨rfl, rfl⟩ := hq
  refine w_aload_n 2 dJ5_putStringAt_47b60_5 rfl rfl rfl ?_
  refine w_aload_n 0 dJ5_putStringAt_47b60_6 rfl rfl rfl ?_
  refine g_J5_15 dJ5_putStringAt_47b60_7 rfl k1 k2 ?_
  refine w_iload_n 1 dJ5_putStringAt_47b60_10 rfl rfl rfl ?_
  refine w_aload_n 0 dJ5_putStringAt_47b60_11 rfl rfl rfl ?_
  refine g_J5_22 dJ5_putStringAt_47b60_12 rfl k1 k3 ?_
  refine w_callVL (n := 3) (As := fun _ _ => [.ref a, .int (nI n), .int 0]) (rest := []) hi (fun l => s_J0_getBytes hi k5 k6 h1 h2 l) hrm dJ5_putStringAt_47b60_15 rfl ml_J5_399 x9_im_getBytes x9_se_getBytes x9_co_getBytes ⟨rfl, by decide +kernel, by decide +kernel, by decide +kernel⟩ (fun _ _ => rfl) (by decide) (by decide) (by decide) (by decide) rfl (Nat.le_of_ble_eq_true rfl) (fun vr h9 hq => ?_) (fun _ _ hq => hq.elim)
  obtain ⟨rfl, rfl⟩ := hq
  exact w_vret hf dJ5_putStringAt_47b60_18 rfl (by decide) (by decide) ⟨rfl, rfl⟩
end SBM
