/-! A TEXT THAT WAS MADE: length, charAt -/
/-- at tx stands a text of w letters t -/
def TxO (h : Hp) (tx tb w : Nat) (t : Nat → Nat) : Prop := m_K h tx = 12 ∧ m_R h 768 tx = some tb ∧ m_I h 769 tx = 0 ∧ m_K h tb = 22 ∧ m_N h tb = w ∧ ∀ i, i < w → t i < 128 ∧ m_X h tb i = nI (t i)
theorem TxO.sm {h h' : Hp} {tx tb w : Nat} {t : Nat → Nat} (k : TxO h tx tb w t) (h1 : smF h' h tx) (h2 : smF h' h tb) : TxO h' tx tb w t := by
  obtain ⟨a1, a2, a3, a4, a5, a6⟩ := k
  exact ⟨h1.1.trans a1, (h1.2.2.1 768 (by decide)).2.2.trans a2, (h1.2.2.1 769 (by decide)).1.trans a3, h2.1.trans a4, h2.2.1.trans a5, fun i hi => ⟨(a6 i hi).1, ((h2.2.2.2 i).1).trans (a6 i hi).2⟩⟩
theorem t_and : ∀ t, t < 128 → nI t &&& 255 = nI t := by decide
section TXT
variable {h : Hp} {tx tb w : Nat} {t : Nat → Nat}
theorem s_T_coder (k : TxO h tx tb w t) : ∀ l : Launch, Sp l mJ0_coder_7d493 0 0 0 [.ref tx] h (Qt h 0) X0 := by
  intro l
  refine Sp.of (by decide +kernel) rfl (lv := [(0, .ref tx)]) (Nat.le_of_ble_eq_true rfl) rfl (fun x hf hrm => ?_)
  refine w_gCS dJ0_coder_7d493_0 rfl ?_
  refine w_if_eq 13 dJ0_coder_7d493_3 rfl rfl (fun q => absurd q (by decide)) (fun _ => ?_)
  refine w_aload_n 0 dJ0_coder_7d493_6 rfl rfl rfl ?_
  refine g_J0_15 dJ0_coder_7d493_7 rfl k.1 k.2.2.1 ?_
  refine w_goto 14 dJ0_coder_7d493_10 rfl ?_
  exact w_zret hf dJ0_coder_7d493_14 rfl rfl (Nat.le_of_ble_eq_true rfl) (Nat.le_of_ble_eq_true rfl) ⟨rfl, rfl⟩
theorem s_T_lat (k : TxO h tx tb w t) : ∀ l : Launch, Sp l mJ0_isLatin1_aae02 0 0 0 [.ref tx] h (Qt h 1) X0 := by
  intro l
  refine Sp.of (by decide +kernel) rfl (lv := [(0, .ref tx)]) (Nat.le_of_ble_eq_true rfl) rfl (fun x hf hrm => ?_)
  refine w_gCS dJ0_isLatin1_aae02_0 rfl ?_
  refine w_if_eq 17 dJ0_isLatin1_aae02_3 rfl rfl (fun q => absurd q (by decide)) (fun _ => ?_)
  refine w_aload_n 0 dJ0_isLatin1_aae02_6 rfl rfl rfl ?_
  refine g_J0_15 dJ0_isLatin1_aae02_7 rfl k.1 k.2.2.1 ?_
  refine w_if_ne 17 dJ0_isLatin1_aae02_10 rfl rfl (fun q => absurd rfl q) (fun _ => ?_)
  refine w_iconst 1 dJ0_isLatin1_aae02_13 rfl rfl ?_
  refine w_goto 18 dJ0_isLatin1_aae02_14 rfl ?_
  exact w_zret hf dJ0_isLatin1_aae02_18 rfl rfl (Nat.le_of_ble_eq_true rfl) (Nat.le_of_ble_eq_true rfl) ⟨rfl, rfl⟩
theorem s_T_len (k : TxO h tx tb w t) (hw : w < 65536) : ∀ l : Launch, Sp l mJ0_length_8abf5 1 0 0 [.ref tx] h (Qt h (nI w)) X0 := by
  intro l
  refine Sp.of (by decide +kernel) rfl (lv := [(0, .ref tx)]) (Nat.le_of_ble_eq_true rfl) rfl (fun x hf hrm => ?_)
  refine w_aload_n 0 dJ0_length_8abf5_0 rfl rfl rfl ?_
  refine g_J0_9 dJ0_length_8abf5_1 rfl k.1 k.2.1 ?_
  refine w_alen (c := 22) 2 dJ0_length_8abf5_4 rfl (by decide) (by decide) (fun _ => rfl) k.2.2.2.1 (v := nI w) (by rw [k.2.2.2.2.1]; rfl) ?_
  refine w_aload_n 0 dJ0_length_8abf5_5 rfl rfl rfl ?_
  refine c_J0_335 (b := tx) (As := []) (rest := [.int (nI w)]) (fun l => s_T_coder k l) hrm dJ0_length_8abf5_6 rfl rfl (by decide) (by decide) (by decide) k.1 rfl (Nat.le_of_ble_eq_true rfl) (fun vr h9 hq => ?_) (fun _ _ hq => hq.elim)
  obtain ⟨rfl, rfl⟩ := hq
  refine w_ishr dJ0_length_8abf5_9 rfl ?_
  rw [show nI w >>> ((0 : Int32) &&& 31) = nI w from sc_shr0 (by omega)]
  exact w_iret hf dJ0_length_8abf5_10 rfl (Nat.le_of_ble_eq_true rfl) (Nat.le_of_ble_eq_true rfl) ⟨rfl, rfl⟩
theorem s_T_at1 {i : Nat} (k : TxO h tx tb w t) (hw : w < 65536) (hi : i < w) : ∀ l : Launch, Sp l mJ1_charAt_3b067 2 0 0 [.ref tb, .int (nI i)] h (Qt h (nI (t i))) X0 := by
  intro l
  obtain ⟨k1, k2, k3, k4, k5, k6⟩ := k
  obtain ⟨t1, t2⟩ := k6 i hi
  refine Sp.of (by decide +kernel) rfl (lv := [(0, .ref tb), (1, .int (nI i))]) (Nat.le_of_ble_eq_true rfl) rfl (fun x hf hrm => ?_)
  refine w_iload_n 1 dJ1_charAt_3b067_0 rfl rfl rfl ?_
  refine w_aload_n 0 dJ1_charAt_3b067_1 rfl rfl rfl ?_
  refine w_alen (c := 22) 2 dJ1_charAt_3b067_2 rfl (by decide) (by decide) (fun _ => rfl) k4 (v := nI w) (by rw [k5]; rfl) ?_
  refine w_callS (n := 2) (As := [.int (nI i), .int (nI w)]) (rest := []) (fun l => s_J0_checkIndex_df160 (m1_lt (by omega)) ((n_lt (by omega) (by omega)).mpr hi) l) hrm dJ1_charAt_3b067_3 rfl x_ml_RJ1_9 x_st_J0_checkIndex_df160 x_in_RJ0 x_co_J0_checkIndex_df160 ⟨by decide +kernel, by decide +kernel, by decide +kernel⟩ rfl (Nat.le_of_ble_eq_true rfl) (Nat.le_of_ble_eq_true rfl) (Nat.le_of_ble_eq_true rfl) (Nat.le_of_ble_eq_true rfl) rfl (Nat.le_of_ble_eq_true rfl) (fun vr h9 hq => ?_) (fun _ _ hq => hq.elim)
  obtain ⟨rfl, rfl⟩ := hq
  refine w_aload_n 0 dJ1_charAt_3b067_6 rfl rfl rfl ?_
  refine w_iload_n 1 dJ1_charAt_3b067_7 rfl rfl rfl ?_
  refine w_bald (v := nI (t i)) dJ1_charAt_3b067_8 rfl k4 (by rw [k5]; exact vp_in_nI hi (by omega)) (by rw [n_cl (by omega)]; exact t2) ?_
  refine w_sipush 255 dJ1_charAt_3b067_9 rfl rfl ?_
  refine w_iand dJ1_charAt_3b067_12 rfl ?_
  refine w_i2c dJ1_charAt_3b067_13 rfl ?_
  rw [sc_c2]
  refine w_zret hf dJ1_charAt_3b067_14 rfl (sc_nar _) (Nat.le_of_ble_eq_true rfl) (Nat.le_of_ble_eq_true rfl) ⟨?_, rfl⟩
  rw [t_and _ t1]
theorem s_T_at {i : Nat} (k : TxO h tx tb w t) (hw : w < 65536) (hi : i < w) : ∀ l : Launch, Sp l mJ0_charAt_5068e 3 0 0 [.ref tx, .int (nI i)] h (Qt h (nI (t i))) X0 := by
  intro l
  refine Sp.of (by decide +kernel) rfl (lv := [(0, .ref tx), (1, .int (nI i))]) (Nat.le_of_ble_eq_true rfl) rfl (fun x hf hrm => ?_)
  refine w_aload_n 0 dJ0_charAt_5068e_0 rfl rfl rfl ?_
  refine c_J0_492 (b := tx) (As := []) (rest := []) (fun l => s_T_lat k l) hrm dJ0_charAt_5068e_1 rfl rfl (by decide) (by decide) (by decide) k.1 rfl (Nat.le_of_ble_eq_true rfl) (fun vr h9 hq => ?_) (fun _ _ hq => hq.elim)
  obtain ⟨rfl, rfl⟩ := hq
  refine w_if_eq 16 dJ0_charAt_5068e_4 rfl rfl (fun q => absurd q (by decide)) (fun _ => ?_)
  refine w_aload_n 0 dJ0_charAt_5068e_7 rfl rfl rfl ?_
  refine g_J0_9 dJ0_charAt_5068e_8 rfl k.1 k.2.1 ?_
  refine w_iload_n 1 dJ0_charAt_5068e_11 rfl rfl rfl ?_
  refine w_callS (n := 2) (As := [.ref tb, .int (nI i)]) (rest := []) (fun l => s_T_at1 k hw hi l) hrm dJ0_charAt_5068e_12 rfl x_ml_RJ0_495 x_st_J1_charAt_3b067 x_in_RJ1 x_co_J1_charAt_3b067 ⟨by decide +kernel, by decide +kernel, by decide +kernel⟩ rfl (Nat.le_of_ble_eq_true rfl) (Nat.le_of_ble_eq_true rfl) (Nat.le_of_ble_eq_true rfl) (Nat.le_of_ble_eq_true rfl) rfl (Nat.le_of_ble_eq_true rfl) (fun vr h9 hq => ?_) (fun _ _ hq => hq.elim)
  obtain ⟨rfl, rfl⟩ := hq
  have hnar : narrow .char (.int (nI (t i))) = .int (nI (t i)) := by
    rw [← t_and _ (k.2.2.2.2.2 i hi).1]
    exact sc_nar _
  exact w_zret hf dJ0_charAt_5068e_15 rfl hnar (Nat.le_of_ble_eq_true rfl) (Nat.le_of_ble_eq_true rfl) ⟨rfl, rfl⟩
end TXT
