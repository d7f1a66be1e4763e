/-! STRINGBUILDER: toString -/
section SBT
variable {A : Nat → Nat → Nat → Nat} {h : Hp} {σ ρ : Zs} {sb a m n : Nat} {T : List Nat}
theorem s_J7_chk (hn : n < 100000) : ∀ l : Launch, Sp l mJ7_checkLength_df160 0 0 0 [.int (nI 0), .int (nI n)] h (fun r h' => r = none ∧ h' = h) X0 := by
  intro l
  refine Sp.of (by decide +kernel) rfl (lv := [(0, .int (nI 0)), (1, .int (nI n))]) (Nat.le_of_ble_eq_true rfl) rfl (fun x hf hrm => ?_)
  refine w_iload_n 1 dJ7_checkLength_df160_0 rfl rfl rfl ?_
  refine w_iload_n 0 dJ7_checkLength_df160_1 rfl rfl rfl ?_
  refine w_icmp_ge 37 dJ7_checkLength_df160_2 rfl rfl (fun _ => ?_) (fun z => absurd ((n_le (a := 0) (by decide) (by omega)).mpr (Nat.zero_le _)) z)
  exact w_vret hf dJ7_checkLength_df160_37 rfl (by decide) (by decide) ⟨rfl, rfl⟩
theorem s_J7_corb (hk : m_K h a = 22) (hN : m_N h a = m) (hb : bF (m_X h a)) (h1 : n < m) (h2 : m ≤ 3000) : ∀ l : Launch, Sp l mJ7_copyOfRangeByte_39247 10 1 n [.ref a, .int (nI 0), .int (nI n)] h (fun r h' => ∃ b, r = some (.ref b) ∧ ¬ m_K h b < 28 ∧ h' = p_CF (n_A h b 22 n) (m_X h a) b 0 0 n) X0 := by
  intro l
  refine Sp.of (by decide +kernel) rfl (lv := [(0, .ref a), (1, .int (nI 0)), (2, .int (nI n))]) (Nat.le_of_ble_eq_true rfl) rfl (fun x hf hrm => ?_)
  refine w_iload_n 1 dJ7_copyOfRangeByte_39247_0 rfl rfl rfl ?_
  refine w_iload_n 2 dJ7_copyOfRangeByte_39247_1 rfl rfl rfl ?_
  refine c_J7_343 (b := 0) (As := [.int (nI 0), .int (nI n)]) (rest := []) (fun l => s_J7_chk (n := n) (by omega) l) hrm dJ7_copyOfRangeByte_39247_2 rfl rfl (by decide) (by omega) (by omega) rfl (Nat.le_of_ble_eq_true rfl) (fun vr h9 hq => ?_) (fun _ _ hq => hq.elim)
  obtain ⟨rfl, e9⟩ := hq; obtain rfl := e9.symm
  refine w_iload_n 2 dJ7_copyOfRangeByte_39247_5 rfl rfl rfl ?_
  refine w_iload_n 1 dJ7_copyOfRangeByte_39247_6 rfl rfl rfl ?_
  refine w_isub dJ7_copyOfRangeByte_39247_7 rfl ?_
  rw [show nI n - nI 0 = nI n from (n_sub (Nat.zero_le _)).trans (by rw [Nat.sub_zero])]
  refine w_istore_n [(3, .int (nI n)), (0, .ref a), (1, .int (nI 0)), (2, .int (nI n))] dJ7_copyOfRangeByte_39247_8 rfl rfl (by decide) rfl ?_
  refine w_iload_n 0 dJ7_copyOfRangeByte_39247_9 rfl rfl rfl ?_
  refine w_newB (n := n) hrm dJ7_copyOfRangeByte_39247_10 rfl a_byte (nI_pos (by omega)) (n_cl (by omega)) (by omega) (by omega) (by omega) (fun b hb2 => ?_)
  have ne : a ≠ b := fun e => hb2 (by rw [← e, hk]; decide)
  have hk1 : m_K (n_A h b 22 n) a = 22 := (va_up_ne _ _ ne).trans hk
  have hn1 : m_N (n_A h b 22 n) a = m := (va_up_ne _ _ ne).trans hN
  have hX : m_X (n_A h b 22 n) a = m_X h a := funext fun j => if_neg ne
  refine w_astore [(4, .ref b), (3, .int (nI n)), (0, .ref a), (1, .int (nI 0)), (2, .int (nI n))] dJ7_copyOfRangeByte_39247_12 rfl (by decide) rfl ?_
  refine w_aload_n 2 dJ7_copyOfRangeByte_39247_14 rfl rfl rfl ?_
  refine w_iload_n 3 dJ7_copyOfRangeByte_39247_15 rfl rfl rfl ?_
  refine w_aload 0 dJ7_copyOfRangeByte_39247_16 rfl rfl ?_
  refine w_iconst (nI 0) dJ7_copyOfRangeByte_39247_18 rfl rfl ?_
  refine w_aload_n 2 dJ7_copyOfRangeByte_39247_19 rfl rfl rfl ?_
  refine w_alen (c := 22) 2 dJ7_copyOfRangeByte_39247_20 rfl (by decide) (by decide) (fun _ => rfl) hk1 (v := nI m) (by rw [hn1]; rfl) ?_
  refine w_iload_n 3 dJ7_copyOfRangeByte_39247_21 rfl rfl rfl ?_
  refine w_isub dJ7_copyOfRangeByte_39247_22 rfl ?_
  rw [show nI m - nI 0 = nI m from (n_sub (Nat.zero_le _)).trans (by rw [Nat.sub_zero])]
  refine w_iload_n 1 dJ7_copyOfRangeByte_39247_23 rfl rfl rfl ?_
  refine w_mmin hrm (by decide) dJ7_copyOfRangeByte_39247_24 rfl ml_J7_304 (Nat.le_of_ble_eq_true rfl) (by omega) (by omega) ?_
  rw [p_min_n (by omega) (by omega), if_pos h1]
  refine w_copyb hrm (by decide) dJ7_copyOfRangeByte_39247_27 rfl x9_acl7 hk1 (va_up_self _ _ _) hn1 (va_up_self _ _ _) (by rw [hX]; exact hb) ⟨by decide, by decide, nI_pos (by omega), ?_, ?_⟩ (Nat.le_of_ble_eq_true rfl) ?_
  · rw [n_cl (by omega), n_cl (by omega)]; omega
  · rw [n_cl (by omega), n_cl (by omega)]; omega
  rw [hX, n_cl (show n < 2147483648 by omega), show Int32.toNatClampNeg (nI 0) = 0 from rfl]
  refine w_aload 0 dJ7_copyOfRangeByte_39247_30 rfl rfl ?_
  exact w_aret hf dJ7_copyOfRangeByte_39247_32 rfl (Or.inr ⟨_, rfl⟩) (Or.inr ⟨_, rfl⟩) (by omega) (by omega) ⟨b, rfl, hb2, rfl⟩
theorem s_J7_cor (hk : m_K h a = 22) (hN : m_N h a = m) (hb : bF (m_X h a)) (h1 : n < m) (h2 : m ≤ 3000) : ∀ l : Launch, Sp l mJ7_copyOfRange_39247 11 1 n [.ref a, .int (nI 0), .int (nI n)] h (fun r h' => ∃ b, r = some (.ref b) ∧ ¬ m_K h b < 28 ∧ h' = p_CF (n_A h b 22 n) (m_X h a) b 0 0 n) X0 := by
  intro l
  refine Sp.of (by decide +kernel) rfl (lv := [(0, .ref a), (1, .int (nI 0)), (2, .int (nI n))]) (Nat.le_of_ble_eq_true rfl) rfl (fun x hf hrm => ?_)
  refine w_iload_n 1 dJ7_copyOfRange_39247_0 rfl rfl rfl ?_
  refine w_if_ne 10 dJ7_copyOfRange_39247_1 rfl rfl (fun z => absurd rfl z) (fun _ => ?_)
  refine w_iload_n 2 dJ7_copyOfRange_39247_4 rfl rfl rfl ?_
  refine w_aload_n 0 dJ7_copyOfRange_39247_5 rfl rfl rfl ?_
  refine w_alen (c := 22) 2 dJ7_copyOfRange_39247_6 rfl (by decide) (by decide) (fun _ => rfl) hk (v := nI m) (by rw [hN]; rfl) ?_
  refine w_icmp_eq 17 dJ7_copyOfRange_39247_7 rfl rfl (fun z => absurd ((n_eq (by omega) (by omega)).mp z) (by omega)) (fun _ => ?_)
  refine w_aload_n 0 dJ7_copyOfRange_39247_10 rfl rfl rfl ?_
  refine w_iload_n 1 dJ7_copyOfRange_39247_11 rfl rfl rfl ?_
  refine w_iload_n 2 dJ7_copyOfRange_39247_12 rfl rfl rfl ?_
  refine c_J7_339 (b := 0) (As := [.ref a, .int (nI 0), .int (nI n)]) (rest := []) (fun l => s_J7_corb hk hN hb h1 h2 l) hrm dJ7_copyOfRange_39247_13 rfl rfl (by decide) (by omega) (by omega) rfl (Nat.le_of_ble_eq_true rfl) (fun vr h9 hq => ?_) (fun _ _ hq => hq.elim)
  obtain ⟨b, rfl, hb2, rfl⟩ := hq
  exact w_aret hf dJ7_copyOfRange_39247_16 rfl (Or.inr ⟨_, rfl⟩) (Or.inr ⟨_, rfl⟩) (by omega) (by omega) ⟨b, rfl, hb2, rfl⟩
theorem s_J5_getV (hS : SBd h sb a m T) : ∀ l : Launch, Sp l mJ5_getValue_6d5f1 0 0 0 [.ref sb] h (fun r h' => r = some (.ref a) ∧ h' = h) X0 := by
  intro l
  refine Sp.of (by decide +kernel) rfl (lv := [(0, .ref sb)]) (Nat.le_of_ble_eq_true rfl) rfl (fun x hf hrm => ?_)
  obtain ⟨k1, k2, k3, k4, k5, k6, k7, k8, k9⟩ := hS
  refine w_aload_n 0 dJ5_getValue_6d5f1_0 rfl rfl rfl ?_
  refine g_J5_15 dJ5_getValue_6d5f1_1 rfl k1 k2 ?_
  exact w_aret hf dJ5_getValue_6d5f1_4 rfl (Or.inr ⟨_, rfl⟩) (Or.inr ⟨_, rfl⟩) (by decide) (by decide) ⟨rfl, rfl⟩
theorem s_J5_len (hS : SBd h sb a m T) : ∀ l : Launch, Sp l mJ5_length_8abf5 0 0 0 [.ref sb] h (Qt h (nI T.length)) X0 := by
  intro l
  refine Sp.of (by decide +kernel) rfl (lv := [(0, .ref sb)]) (Nat.le_of_ble_eq_true rfl) rfl (fun x hf hrm => ?_)
  obtain ⟨k1, k2, k3, k4, k5, k6, k7, k8, k9⟩ := hS
  refine w_aload_n 0 dJ5_length_8abf5_0 rfl rfl rfl ?_
  refine g_J5_79 dJ5_length_8abf5_1 rfl k1 k4 ?_
  exact w_iret hf dJ5_length_8abf5_4 rfl (by decide) (by decide) ⟨rfl, rfl⟩
theorem s_J4_len (hS : SBd h sb a m T) : ∀ l : Launch, Sp l mJ4_length_8abf5 1 0 0 [.ref sb] h (Qt h (nI T.length)) X0 := by
  intro l
  refine Sp.of (by decide +kernel) rfl (lv := [(0, .ref sb)]) (Nat.le_of_ble_eq_true rfl) rfl (fun x hf hrm => ?_)
  refine w_aload_n 0 dJ4_length_8abf5_0 rfl rfl rfl ?_
  refine w_callSU (b := sb) (n := 0) (As := fun _ _ => []) (rest := []) (fun l => (s_J5_len hS l).k) hrm dJ4_length_8abf5_1 rfl x9_ml_J4_343 im_J5_length_8abf5 sm_J5_length_8abf5 co_J5_length_8abf5 ⟨rfl, by decide +kernel, by decide +kernel⟩ (fun _ _ => rfl) (by decide) (by decide) (by decide) (by decide) hS.1 rfl (Nat.le_of_ble_eq_true rfl) (fun vr h9 hq => ?_) (fun _ _ hq => hq.elim)
  obtain ⟨rfl, e9⟩ := hq; obtain rfl := e9.symm
  exact w_iret hf dJ4_length_8abf5_4 rfl (by decide) (by decide) ⟨rfl, rfl⟩
theorem sb_text {q b : Nat} {h0 : Hp} (hS : SBd h sb a m T) (hT : ∀ j, j < T.length → T.getD j 0 < 128) (hk : m_K h q = 12) (hb : ¬ m_K h b < 28) : TxO (p_R (p_CF (n_A (p_I h 769 q (nI 0)) b 22 T.length) (m_X h a) b 0 0 T.length) 768 q (some b)) q b T.length (fun j => T.getD j 0) := by
  obtain ⟨k1, k2, k3, k4, k5, k6, k7, k8, k9⟩ := hS
  have ne : q ≠ b := fun e => hb (by rw [← e, hk]; decide)
  have eX : ∀ j, m_X (p_R (p_CF (n_A (p_I h 769 q (nI 0)) b 22 T.length) (m_X h a) b 0 0 T.length) 768 q (some b)) b j = va_cpy (m_X h a) (m_X (n_A (p_I h 769 q (nI 0)) b 22 T.length) b) 0 0 T.length j := fun j => if_pos rfl
  refine ⟨(va_up_ne _ _ ne).trans hk, g_RRs, g_IIs, va_up_self _ _ _, va_up_self _ _ _, fun i hi => ⟨hT i hi, ?_⟩⟩
  rw [eX, pk_cpy_in (by omega) (by omega), show 0 + (i - 0) = i by omega]
  exact k9 i hi
theorem s_J0_init2 {q : Nat} (hz : Rp A h σ ρ) (hS : SBd h sb a m T) (hlt : T.length < m) (hm : m ≤ 1000) (hT : ∀ j, j < T.length → T.getD j 0 < 128) (hk : m_K h q = 12) (hfq : fgn A q) : ∀ l : Launch, Sp l mJ0_init_db425 12 1 1000 [.ref q, .ref sb, .null] h (fun r h' => r = none ∧ ∃ b ρ', Rp A h' σ ρ' ∧ TxO h' q b T.length (fun j => T.getD j 0) ∧ fgn A b) X0 := by
  intro l
  refine Sp.of (by decide +kernel) rfl (lv := [(0, .ref q), (1, .ref sb), (2, .null)]) (Nat.le_of_ble_eq_true rfl) rfl (fun x hf hrm => ?_)
  have hS0 := hS
  obtain ⟨k1, k2, k3, k4, k5, k6, k7, k8, k9⟩ := hS
  refine w_aload_n 0 dJ0_init_db425_0 rfl rfl rfl ?_
  refine w_objInit hrm (by decide) dJ0_init_db425_1 rfl ml_J0_1 im_objectInit co_objectInit (Nat.le_of_ble_eq_true rfl) ?_
  refine w_aload_n 1 dJ0_init_db425_4 rfl rfl rfl ?_
  refine w_callG (x2 := yJ5_getValue_6d5f1) (b := sb) (n := 0) (As := fun aK _ => []) (rest := []) (fun l => (s_J5_getV hS0 l).k) hrm dJ0_init_db425_5 rfl ml_J0_552 im_J5_getValue_6d5f1 im_J5_getValue_6d5f1 co_J5_getValue_6d5f1 (fun s args u _ => u _ sl_J5_getValue) sm_J5_getValue_6d5f1 co_J5_getValue_6d5f1 ini_RJ5 (by decide +kernel) (fun _ _ => rfl) (by decide) (by decide) (by decide) (by decide) k1 rfl (Nat.le_of_ble_eq_true rfl) (fun vr h9 hq => ?_) (fun _ _ hq => hq.elim)
  obtain ⟨rfl, e9⟩ := hq; obtain rfl := e9.symm
  refine w_astore_n [(3, .ref a), (0, .ref q), (1, .ref sb), (2, .null)] dJ0_init_db425_8 rfl rfl (by decide) rfl ?_
  refine w_aload_n 2 dJ0_init_db425_9 rfl rfl rfl ?_
  refine w_callG (x2 := yJ5_length_8abf5) (b := sb) (n := 0) (As := fun aK _ => []) (rest := []) (fun l => (s_J4_len hS0 l).k) hrm dJ0_init_db425_10 rfl ml_J0_549 x9_im_J4_length im_J5_length_8abf5 co_J5_length_8abf5 (fun s args u _ => u _ sl_J5_length) sm_J5_length_8abf5 x9_co_J4_length ini_RJ4 (by decide +kernel) (fun _ _ => rfl) (by decide) (by decide) (by decide) (by decide) k1 rfl (Nat.le_of_ble_eq_true rfl) (fun vr h9 hq => ?_) (fun _ _ hq => hq.elim)
  obtain ⟨rfl, e9⟩ := hq; obtain rfl := e9.symm
  refine w_istore [(4, .int (nI T.length)), (3, .ref a), (0, .ref q), (1, .ref sb), (2, .null)] dJ0_init_db425_13 rfl (by decide) rfl ?_
  refine w_aload_n 3 dJ0_init_db425_15 rfl rfl rfl ?_
  refine w_callG (x2 := yJ5_isLatin1_aae02) (b := sb) (n := 0) (As := fun aK _ => []) (rest := []) (fun l => (s_J5_lat hS0 l).k) hrm dJ0_init_db425_16 rfl ml_J0_1047 im_J5_isLatin1_aae02 im_J5_isLatin1_aae02 co_J5_isLatin1_aae02 (fun s args u _ => u _ sl_J5_isLatin1) sm_J5_isLatin1_aae02 co_J5_isLatin1_aae02 ini_RJ5 (by decide +kernel) (fun _ _ => rfl) (by decide) (by decide) (by decide) (by decide) k1 rfl (Nat.le_of_ble_eq_true rfl) (fun vr h9 hq => ?_) (fun _ _ hq => hq.elim)
  obtain ⟨rfl, e9⟩ := hq; obtain rfl := e9.symm
  refine w_if_eq 41 dJ0_init_db425_19 rfl rfl (fun z => absurd z (by decide)) (fun _ => ?_)
  refine w_aload_n 2 dJ0_init_db425_22 rfl rfl rfl ?_
  refine w_iconst (nI 0) dJ0_init_db425_23 rfl rfl ?_
  refine p_J0_15 dJ0_init_db425_24 rfl hk rfl (Or.inl rfl) ?_
  refine w_aload_n 2 dJ0_init_db425_27 rfl rfl rfl ?_
  refine w_aload_n 1 dJ0_init_db425_28 rfl rfl rfl ?_
  refine w_iconst (nI 0) dJ0_init_db425_29 rfl rfl ?_
  refine w_iload 0 dJ0_init_db425_30 rfl rfl ?_
  refine c_J0_54 (b := 0) (As := [.ref a, .int (nI 0), .int (nI T.length)]) (rest := [.ref q]) (fun l => s_J7_cor (h := p_I h 769 q (nI 0)) k5 k6 k8 hlt (by omega) l) hrm dJ0_init_db425_32 rfl rfl (by decide) (by omega) (by omega) rfl (Nat.le_of_ble_eq_true rfl) (fun vr h9 hq => ?_) (fun _ _ hq => hq.elim)
  obtain ⟨b, rfl, hb2, rfl⟩ := hq
  have ne : q ≠ b := fun e => hb2 (by rw [← e]; show m_K h q < 28; rw [hk]; decide)
  refine p_J0_9 dJ0_init_db425_35 rfl ((va_up_ne _ _ ne).trans hk) rfl ?_
  refine w_goto 97 dJ0_init_db425_38 rfl ?_
  exact w_vret hf dJ0_init_db425_97 rfl (by omega) (by omega) ⟨rfl, b, _, (((hz.fI hfq).newA hb2).fC (hz.fg hb2)).fR hfq, sb_text (h0 := h) hS0 hT hk hb2, hz.fg hb2⟩
theorem s_J0_init1 {q : Nat} (hz : Rp A h σ ρ) (hS : SBd h sb a m T) (hlt : T.length < m) (hm : m ≤ 1000) (hT : ∀ j, j < T.length → T.getD j 0 < 128) (hk : m_K h q = 12) (hfq : fgn A q) : ∀ l : Launch, Sp l mJ0_init_81219 13 1 1000 [.ref q, .ref sb] h (fun r h' => r = none ∧ ∃ b ρ', Rp A h' σ ρ' ∧ TxO h' q b T.length (fun j => T.getD j 0) ∧ fgn A b) X0 := by
  intro l
  refine Sp.of (by decide +kernel) rfl (lv := [(0, .ref q), (1, .ref sb)]) (Nat.le_of_ble_eq_true rfl) rfl (fun x hf hrm => ?_)
  refine w_aload_n 0 dJ0_init_81219_0 rfl rfl rfl ?_
  refine w_aload_n 1 dJ0_init_81219_1 rfl rfl rfl ?_
  refine w_null dJ0_init_81219_2 rfl ?_
  refine c_J0_489 (b := q) (As := [.ref sb, .null]) (rest := []) (fun l => s_J0_init2 hz hS hlt hm hT hk hfq l) hrm dJ0_init_81219_3 rfl rfl (by decide) (by decide) (by decide) rfl (Nat.le_of_ble_eq_true rfl) (fun vr h9 hq => ?_) (fun _ _ hq => hq.elim)
  obtain ⟨rfl, hq⟩ := hq
  exact w_vret hf dJ0_init_81219_6 rfl (by decide) (by decide) ⟨rfl, hq⟩
theorem s_J4_toString (hz : Rp A h σ ρ) (hS : SBd h sb a m T) (hlt : T.length < m) (hm : m ≤ 1000) (hT : ∀ j, j < T.length → T.getD j 0 < 128) (hfs : fgn A sb) (hfa : fgn A a) : ∀ l : Launch, Sp l mJ4_toString_0e30d 14 2 1010 [.ref sb] h (fun r h' => ∃ q b ρ', r = some (.ref q) ∧ Rp A h' σ ρ' ∧ TxO h' q b T.length (fun j => T.getD j 0) ∧ fgn A q ∧ fgn A b) X0 := by
  intro l
  refine Sp.of (by decide +kernel) rfl (lv := [(0, .ref sb)]) (Nat.le_of_ble_eq_true rfl) rfl (fun x hf hrm => ?_)
  refine nw_J4_18 hrm dJ4_toString_0e30d_0 rfl (by decide) (by decide) (fun q hq0 => ?_)
  have hk := hS.1
  have ne : sb ≠ q := fun e => hq0 (by rw [← e, hk]; decide)
  have nea : a ≠ q := fun e => hq0 (by rw [← e, hS.2.2.2.2.1]; decide)
  have hS1 : SBd (n_O h q 12) sb a m T := by
    obtain ⟨k1, k2, k3, k4, k5, k6, k7, k8, k9⟩ := hS
    exact ⟨(va_up_ne _ _ ne).trans k1, (if_neg ne).trans k2, (if_neg ne).trans k3, (if_neg ne).trans k4, (va_up_ne _ _ nea).trans k5, k6, k7, k8, k9⟩
  refine w_dup dJ4_toString_0e30d_3 rfl rfl ?_
  refine w_aload_n 0 dJ4_toString_0e30d_4 rfl rfl rfl ?_
  refine c_J4_137 (b := q) (As := [.ref sb]) (rest := [.ref q]) (fun l => s_J0_init1 (hz.newO hq0) hS1 hlt hm hT (va_up_self _ _ _) (hz.fg hq0) l) hrm dJ4_toString_0e30d_5 rfl rfl (by decide) (by decide) (by decide) rfl (Nat.le_of_ble_eq_true rfl) (fun vr h9 hq => ?_) (fun _ _ hq => hq.elim)
  obtain ⟨rfl, b, ρ2, hz2, ht, hfb⟩ := hq
  exact w_aret hf dJ4_toString_0e30d_8 rfl (Or.inl ⟨_, rfl⟩) (Or.inr ⟨_, rfl⟩) (by decide) (by decide) ⟨q, b, ρ2, rfl, hz2, ht, hz.fg hq0, hfb⟩
end SBT
