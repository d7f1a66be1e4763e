/-! Row (class 6) and Table (class 8): what their methods do -/
set_option maxRecDepth 20000 in
set_option maxHeartbeats 2000000 in
theorem s_X6_append {h : Hp} {a n : Nat} {w : Int32} {v : Int64} (hk : m_K h a = 6) (hn : m_R h 386 a = some n) (hkn : m_K h n = 21) (hln : m_N h n = 6) (hw : m_I h 385 a = w) : ∀ l : Launch, Sp l mX6_append 0 0 0 [.ref a, .long v] h (fun r h' => r = none ∧ h' = if 0 ≤ w ∧ w < 6 then p_I (p_Y h n w.toNatClampNeg v) 385 a (w + 1) else h) (fun _ _ => False) := by
  intro l
  refine Sp.of rfl rfl (lv := [(0, .ref a), (1, .long v)]) (Nat.le_of_ble_eq_true rfl) rfl (fun x hf hrm => ?_)
  refine w_aload_n 0 dX6_append_0 rfl rfl rfl ?_
  refine g_X6_19 dX6_append_1 rfl hk hw ?_
  refine w_if_lt 39 dX6_append_4 rfl rfl (fun q4 => ?_) (fun q4 => ?_)
  · refine w_vret hf dX6_append_39 rfl (by decide) (by decide) ?_
    first | exact ⟨rfl, (if_neg (fun z => absurd z.1 (Int32.not_le.mpr q4))).symm⟩ | exact ⟨rfl, (if_neg (fun z => absurd z.2 (Int32.not_lt.mpr q16))).symm⟩
  · refine w_aload_n 0 dX6_append_7 rfl rfl rfl ?_
    refine g_X6_19 dX6_append_8 rfl hk hw ?_
    refine w_aload_n 0 dX6_append_11 rfl rfl rfl ?_
    refine g_X6_9 dX6_append_12 rfl hk hn ?_
    refine w_alen 1 dX6_append_15 rfl (by decide) (by decide) (fun _ => rfl) hkn (v := 6) (by rw [hln]; rfl) ?_
    refine w_icmp_ge 39 dX6_append_16 rfl rfl (fun q16 => ?_) (fun q16 => ?_)
    · refine w_vret hf dX6_append_39 rfl (by decide) (by decide) ?_
      first | exact ⟨rfl, (if_neg (fun z => absurd z.1 (Int32.not_le.mpr q4))).symm⟩ | exact ⟨rfl, (if_neg (fun z => absurd z.2 (Int32.not_lt.mpr q16))).symm⟩
    · refine w_aload_n 0 dX6_append_19 rfl rfl rfl ?_
      refine g_X6_9 dX6_append_20 rfl hk hn ?_
      refine w_aload_n 0 dX6_append_23 rfl rfl rfl ?_
      refine g_X6_19 dX6_append_24 rfl hk hw ?_
      refine w_lload_n 1 dX6_append_27 rfl rfl rfl ?_
      refine w_last dX6_append_28 rfl hkn (by rw [hln]; exact (b_in (n := 6) (by decide) q4 q16)) ?_
      refine w_aload_n 0 dX6_append_29 rfl rfl rfl ?_
      refine w_dup dX6_append_30 rfl rfl ?_
      refine g_X6_19 dX6_append_31 rfl hk hw ?_
      refine w_iconst 1 dX6_append_34 rfl rfl ?_
      refine w_iadd dX6_append_35 rfl ?_
      refine p_X6_19 dX6_append_36 rfl hk ?_
      refine w_vret hf dX6_append_39 rfl (by decide) (by decide) ?_
      exact ⟨rfl, (if_pos ⟨b_ge0 q4, Int32.not_le.mp q16⟩).symm⟩

set_option maxRecDepth 20000 in
set_option maxHeartbeats 2000000 in
theorem s_X6_startAt {h : Hp} {a : Nat} {t : Int32} (hk : m_K h a = 6) : ∀ l : Launch, Sp l mX6_startAt 0 0 0 [.ref a, .int t] h (fun r h' => r = none ∧ h' = p_I (p_I h 384 a t) 385 a 0) (fun _ _ => False) := by
  intro l
  refine Sp.of rfl rfl (lv := [(0, .ref a), (1, .int t)]) (Nat.le_of_ble_eq_true rfl) rfl (fun x hf hrm => ?_)
  refine w_aload_n 0 dX6_startAt_0 rfl rfl rfl ?_
  refine w_iload_n 1 dX6_startAt_1 rfl rfl rfl ?_
  refine p_X6_15 dX6_startAt_2 rfl hk ?_
  refine w_aload_n 0 dX6_startAt_5 rfl rfl rfl ?_
  refine w_iconst 0 dX6_startAt_6 rfl rfl ?_
  refine p_X6_19 dX6_startAt_7 rfl hk ?_
  refine w_vret hf dX6_startAt_10 rfl (by decide) (by decide) ?_
  exact ⟨rfl, rfl⟩

/-- the number of a row at a column -/
def v_num (h : Hp) (n : Nat) (c : Int32) : Int64 := if 0 ≤ c ∧ c < 6 then m_Y h n c.toNatClampNeg else 0
set_option maxRecDepth 20000 in
set_option maxHeartbeats 2000000 in
theorem s_X6_numberAt {h : Hp} {a n : Nat} {c : Int32} (hk : m_K h a = 6) (hn : m_R h 386 a = some n) (hkn : m_K h n = 21) (hln : m_N h n = 6) : ∀ l : Launch, Sp l mX6_numberAt 0 0 0 [.ref a, .int c] h (fun r h' => r = some (.long (v_num h n c)) ∧ h' = h) (fun _ _ => False) := by
  intro l
  refine Sp.of rfl rfl (lv := [(0, .ref a), (1, .int c)]) (Nat.le_of_ble_eq_true rfl) rfl (fun x hf hrm => ?_)
  refine w_iload_n 1 dX6_numberAt_0 rfl rfl rfl ?_
  refine w_if_lt 22 dX6_numberAt_1 rfl rfl (fun q1 => ?_) (fun q1 => ?_)
  · refine w_lconst 0 dX6_numberAt_22 rfl rfl ?_
    refine w_lret hf dX6_numberAt_23 rfl (by decide) (by decide) ?_
    first | exact ⟨congrArg (fun z => some (Value.long z)) (if_neg (fun z => absurd z.1 (Int32.not_le.mpr q1))).symm, rfl⟩ | exact ⟨congrArg (fun z => some (Value.long z)) (if_neg (fun z => absurd z.2 (Int32.not_lt.mpr q10))).symm, rfl⟩
  · refine w_iload_n 1 dX6_numberAt_4 rfl rfl rfl ?_
    refine w_aload_n 0 dX6_numberAt_5 rfl rfl rfl ?_
    refine g_X6_9 dX6_numberAt_6 rfl hk hn ?_
    refine w_alen 1 dX6_numberAt_9 rfl (by decide) (by decide) (fun _ => rfl) hkn (v := 6) (by rw [hln]; rfl) ?_
    refine w_icmp_ge 22 dX6_numberAt_10 rfl rfl (fun q10 => ?_) (fun q10 => ?_)
    · refine w_lconst 0 dX6_numberAt_22 rfl rfl ?_
      refine w_lret hf dX6_numberAt_23 rfl (by decide) (by decide) ?_
      first | exact ⟨congrArg (fun z => some (Value.long z)) (if_neg (fun z => absurd z.1 (Int32.not_le.mpr q1))).symm, rfl⟩ | exact ⟨congrArg (fun z => some (Value.long z)) (if_neg (fun z => absurd z.2 (Int32.not_lt.mpr q10))).symm, rfl⟩
    · refine w_aload_n 0 dX6_numberAt_13 rfl rfl rfl ?_
      refine g_X6_9 dX6_numberAt_14 rfl hk hn ?_
      refine w_iload_n 1 dX6_numberAt_17 rfl rfl rfl ?_
      refine w_lald dX6_numberAt_18 rfl hkn (by rw [hln]; exact (b_in (n := 6) (by decide) q1 q10)) (v := (m_Y h n (c : Int32).toNatClampNeg)) rfl ?_
      refine w_goto 23 dX6_numberAt_19 rfl ?_
      refine w_lret hf dX6_numberAt_23 rfl (by decide) (by decide) ?_
      exact ⟨congrArg (fun z => some (Value.long z)) (if_pos ⟨b_ge0 q1, Int32.not_le.mp q10⟩).symm, rfl⟩

/-- j numbers from place k on of the row n2 laid into the row n -/
def v_cp (n n2 : Nat) : Nat → Nat → Hp → Hp
  | _, 0, h => h
  | k, j + 1, h => v_cp n n2 (k + 1) j (p_Y h n k (m_Y h n2 k))
set_option maxRecDepth 20000 in
set_option maxHeartbeats 2000000 in
theorem l_X6_copyFrom {x : Cxt} {a b n n2 : Nat} {kc ks : Nat} : ∀ (j k : Nat) (h : Hp), k + j = 6 → m_K h a = 6 → m_R h 386 a = some n → m_K h n = 21 → m_N h n = 6 → m_K h b = 6 → m_R h 386 b = some n2 → m_K h n2 = 21 → m_N h n2 = 6 → wp x mX6_copyFrom 54 [(2, .int (nI 6)), (0, .ref a), (1, .ref b)] [] (v_cp n n2 k j h) kc ks → wp x mX6_copyFrom 18 [(2, .int (nI k)), (0, .ref a), (1, .ref b)] [] h kc ks
  | 0, k, h => fun hj hk hn hkn hln hb hm hkm hlm kk => by
    refine w_iload_n 0 dX6_copyFrom_18 rfl rfl rfl ?_
    refine w_aload_n 1 dX6_copyFrom_19 rfl rfl rfl ?_
    refine g_X6_9 dX6_copyFrom_20 rfl hk hn ?_
    refine w_alen 1 dX6_copyFrom_23 rfl (by decide) (by decide) (fun _ => rfl) hkn (v := 6) (by rw [hln]; rfl) ?_
    refine w_icmp_ge 54 dX6_copyFrom_24 rfl rfl (fun q24 => ?_) (fun q24 => ?_)
    · have q24 := b_le (a := 6) (b := k) (by omega) (by omega) q24
      refine w_lv [(2, .int (nI k)), (0, .ref a), (1, .ref b)] [0, 1, 2] rfl ?_
      obtain rfl : k = 6 := by omega
      exact kk
    · have q24 := b_nle (a := 6) (b := k) (by omega) (by omega) q24
      refine w_iload_n 0 dX6_copyFrom_27 rfl rfl rfl ?_
      refine w_aload_n 2 dX6_copyFrom_28 rfl rfl rfl ?_
      refine g_X6_9 dX6_copyFrom_29 rfl hb hm ?_
      refine w_alen 1 dX6_copyFrom_32 rfl (by decide) (by decide) (fun _ => rfl) hkm (v := 6) (by rw [hlm]; rfl) ?_
      refine w_icmp_ge 54 dX6_copyFrom_33 rfl rfl (fun q33 => ?_) (fun q33 => ?_)
      · have q33 := b_le (a := 6) (b := k) (by omega) (by omega) q33
        refine w_lv [(2, .int (nI k)), (0, .ref a), (1, .ref b)] [0, 1, 2] rfl ?_
        obtain rfl : k = 6 := by omega
        exact kk
      · have q33 := b_nle (a := 6) (b := k) (by omega) (by omega) q33
        refine w_aload_n 1 dX6_copyFrom_36 rfl rfl rfl ?_
        refine g_X6_9 dX6_copyFrom_37 rfl hk hn ?_
        refine w_iload_n 0 dX6_copyFrom_40 rfl rfl rfl ?_
        refine w_aload_n 2 dX6_copyFrom_41 rfl rfl rfl ?_
        refine g_X6_9 dX6_copyFrom_42 rfl hb hm ?_
        refine w_iload_n 0 dX6_copyFrom_45 rfl rfl rfl ?_
        refine w_lald dX6_copyFrom_46 rfl hkm (by rw [hlm]; exact (vp_in_nI (n := k) (by omega) (by omega))) (v := (m_Y h n2 k)) (by rw [show ((nI k) : Int32).toNatClampNeg = k from i_cl (n := k) (by omega)]) ?_
        refine w_last dX6_copyFrom_47 rfl hkn (by rw [hln]; exact (vp_in_nI (n := k) (by omega) (by omega))) ?_
        rw [show ((nI k) : Int32).toNatClampNeg = k from i_cl (n := k) (by omega)]
        refine w_iinc 0 (nI (k + 1)) [(2, .int (nI (k + 1))), (0, .ref a), (1, .ref b)] dX6_copyFrom_48 rfl rfl (nI_1 k) (by decide) rfl ?_
        refine w_goto 18 dX6_copyFrom_51 rfl ?_
        exfalso; omega
  | j + 1, k, h => fun hj hk hn hkn hln hb hm hkm hlm kk => by
    have ih := fun k' h' => l_X6_copyFrom (x := x) (a := a) (b := b) (n := n) (n2 := n2) (kc := kc) (ks := ks) j k' h'
    refine w_iload_n 0 dX6_copyFrom_18 rfl rfl rfl ?_
    refine w_aload_n 1 dX6_copyFrom_19 rfl rfl rfl ?_
    refine g_X6_9 dX6_copyFrom_20 rfl hk hn ?_
    refine w_alen 1 dX6_copyFrom_23 rfl (by decide) (by decide) (fun _ => rfl) hkn (v := 6) (by rw [hln]; rfl) ?_
    refine w_icmp_ge 54 dX6_copyFrom_24 rfl rfl (fun q24 => ?_) (fun q24 => ?_)
    · have q24 := b_le (a := 6) (b := k) (by omega) (by omega) q24
      exfalso; omega
    · have q24 := b_nle (a := 6) (b := k) (by omega) (by omega) q24
      refine w_iload_n 0 dX6_copyFrom_27 rfl rfl rfl ?_
      refine w_aload_n 2 dX6_copyFrom_28 rfl rfl rfl ?_
      refine g_X6_9 dX6_copyFrom_29 rfl hb hm ?_
      refine w_alen 1 dX6_copyFrom_32 rfl (by decide) (by decide) (fun _ => rfl) hkm (v := 6) (by rw [hlm]; rfl) ?_
      refine w_icmp_ge 54 dX6_copyFrom_33 rfl rfl (fun q33 => ?_) (fun q33 => ?_)
      · have q33 := b_le (a := 6) (b := k) (by omega) (by omega) q33
        exfalso; omega
      · have q33 := b_nle (a := 6) (b := k) (by omega) (by omega) q33
        refine w_aload_n 1 dX6_copyFrom_36 rfl rfl rfl ?_
        refine g_X6_9 dX6_copyFrom_37 rfl hk hn ?_
        refine w_iload_n 0 dX6_copyFrom_40 rfl rfl rfl ?_
        refine w_aload_n 2 dX6_copyFrom_41 rfl rfl rfl ?_
        refine g_X6_9 dX6_copyFrom_42 rfl hb hm ?_
        refine w_iload_n 0 dX6_copyFrom_45 rfl rfl rfl ?_
        refine w_lald dX6_copyFrom_46 rfl hkm (by rw [hlm]; exact (vp_in_nI (n := k) (by omega) (by omega))) (v := (m_Y h n2 k)) (by rw [show ((nI k) : Int32).toNatClampNeg = k from i_cl (n := k) (by omega)]) ?_
        refine w_last dX6_copyFrom_47 rfl hkn (by rw [hln]; exact (vp_in_nI (n := k) (by omega) (by omega))) ?_
        rw [show ((nI k) : Int32).toNatClampNeg = k from i_cl (n := k) (by omega)]
        refine w_iinc 0 (nI (k + 1)) [(2, .int (nI (k + 1))), (0, .ref a), (1, .ref b)] dX6_copyFrom_48 rfl rfl (nI_1 k) (by decide) rfl ?_
        refine w_goto 18 dX6_copyFrom_51 rfl ?_
        refine w_lv [(2, .int (nI (k + 1))), (0, .ref a), (1, .ref b)] [0, 1, 2] rfl ?_
        exact ih (k + 1) _ (by omega) hk hn hkn hln hb hm hkm hlm kk
set_option maxRecDepth 20000 in
set_option maxHeartbeats 2000000 in
theorem s_X6_copyFrom {h : Hp} {a b n n2 : Nat} {t w : Int32} (hk : m_K h a = 6) (hn : m_R h 386 a = some n) (hkn : m_K h n = 21) (hln : m_N h n = 6) (hb : m_K h b = 6) (hm : m_R h 386 b = some n2) (hkm : m_K h n2 = 21) (hlm : m_N h n2 = 6) (ht : m_I h 384 b = t) (hw : m_I h 385 b = w) : ∀ l : Launch, Sp l mX6_copyFrom 0 0 0 [.ref a, .ref b] h (fun r h' => r = none ∧ h' = v_cp n n2 0 6 (p_I (p_I h 384 a t) 385 a w)) (fun _ _ => False) := by
  intro l
  refine Sp.of rfl rfl (lv := [(0, .ref a), (1, .ref b)]) (Nat.le_of_ble_eq_true rfl) rfl (fun x hf hrm => ?_)
  refine w_aload_n 0 dX6_copyFrom_0 rfl rfl rfl ?_
  refine w_aload_n 1 dX6_copyFrom_1 rfl rfl rfl ?_
  refine g_X6_15 dX6_copyFrom_2 rfl hb ht ?_
  refine p_X6_15 dX6_copyFrom_5 rfl hk ?_
  refine w_aload_n 0 dX6_copyFrom_8 rfl rfl rfl ?_
  refine w_aload_n 1 dX6_copyFrom_9 rfl rfl rfl ?_
  refine g_X6_19 dX6_copyFrom_10 rfl hb (g_IIc (by decide) hw) ?_
  refine p_X6_19 dX6_copyFrom_13 rfl hk ?_
  refine w_iconst 0 dX6_copyFrom_16 rfl rfl ?_
  refine w_istore_n [(2, .int 0), (0, .ref a), (1, .ref b)] dX6_copyFrom_17 rfl rfl (by decide) rfl ?_
  refine w_lv [(2, .int 0), (0, .ref a), (1, .ref b)] [0, 1, 2] rfl ?_
  refine l_X6_copyFrom 6 0 _ (by omega) hk hn hkn hln hb hm hkm hlm ?_
  refine w_vret hf dX6_copyFrom_54 rfl (by decide) (by decide) ?_
  exact ⟨rfl, rfl⟩

set_option maxRecDepth 20000 in
set_option maxHeartbeats 2000000 in
theorem s_X6_app {h : Hp} {a n k : Nat} {v : Int64} (hc : k < 6) (hk : m_K h a = 6) (hn : m_R h 386 a = some n) (hkn : m_K h n = 21) (hln : m_N h n = 6) (hw : m_I h 385 a = nI k) : ∀ l : Launch, Sp l mX6_append 0 0 0 [.ref a, .long v] h (fun r h' => r = none ∧ h' = p_I (p_Y h n k v) 385 a (nI (k + 1))) (fun _ _ => False) := by
  intro l
  refine Sp.of rfl rfl (lv := [(0, .ref a), (1, .long v)]) (Nat.le_of_ble_eq_true rfl) rfl (fun x hf hrm => ?_)
  refine w_aload_n 0 dX6_append_0 rfl rfl rfl ?_
  refine g_X6_19 dX6_append_1 rfl hk hw ?_
  refine w_if_lt 39 dX6_append_4 rfl rfl (fun q4 => absurd q4 (nI_pos (by omega))) (fun q4 => ?_)
  refine w_aload_n 0 dX6_append_7 rfl rfl rfl ?_
  refine g_X6_19 dX6_append_8 rfl hk hw ?_
  refine w_aload_n 0 dX6_append_11 rfl rfl rfl ?_
  refine g_X6_9 dX6_append_12 rfl hk hn ?_
  refine w_alen 1 dX6_append_15 rfl (by decide) (by decide) (fun _ => rfl) hkn (v := 6) (by rw [hln]; rfl) ?_
  refine w_icmp_ge 39 dX6_append_16 rfl rfl (fun q16 => ?_) (fun q16 => ?_)
  · have q16 := b_le (a := 6) (b := k) (by omega) (by omega) q16
    refine w_vret hf dX6_append_39 rfl (by decide) (by decide) ?_
    exfalso; omega
  · have q16 := b_nle (a := 6) (b := k) (by omega) (by omega) q16
    refine w_aload_n 0 dX6_append_19 rfl rfl rfl ?_
    refine g_X6_9 dX6_append_20 rfl hk hn ?_
    refine w_aload_n 0 dX6_append_23 rfl rfl rfl ?_
    refine g_X6_19 dX6_append_24 rfl hk hw ?_
    refine w_lload_n 1 dX6_append_27 rfl rfl rfl ?_
    refine w_last dX6_append_28 rfl hkn (by rw [hln]; exact (vp_in_nI (n := k) (by omega) (by omega))) ?_
    rw [show ((nI k) : Int32).toNatClampNeg = k from i_cl (n := k) (by omega)]
    refine w_aload_n 0 dX6_append_29 rfl rfl rfl ?_
    refine w_dup dX6_append_30 rfl rfl ?_
    refine g_X6_19 dX6_append_31 rfl hk hw ?_
    refine w_iconst 1 dX6_append_34 rfl rfl ?_
    refine w_iadd dX6_append_35 rfl ?_
    rw [show ((nI k) + 1 : Int32) = (nI (k + 1)) from nI_add k 1]
    refine p_X6_19 dX6_append_36 rfl hk ?_
    refine w_vret hf dX6_append_39 rfl (by decide) (by decide) ?_
    exact ⟨rfl, rfl⟩

set_option maxRecDepth 20000 in
set_option maxHeartbeats 2000000 in
theorem s_X6_num {h : Hp} {a n c : Nat} (hc : c < 6) (hk : m_K h a = 6) (hn : m_R h 386 a = some n) (hkn : m_K h n = 21) (hln : m_N h n = 6) : ∀ l : Launch, Sp l mX6_numberAt 0 0 0 [.ref a, .int (nI c)] h (fun r h' => r = some (.long (m_Y h n c)) ∧ h' = h) (fun _ _ => False) := by
  intro l
  refine Sp.of rfl rfl (lv := [(0, .ref a), (1, .int (nI c))]) (Nat.le_of_ble_eq_true rfl) rfl (fun x hf hrm => ?_)
  refine w_iload_n 1 dX6_numberAt_0 rfl rfl rfl ?_
  refine w_if_lt 22 dX6_numberAt_1 rfl rfl (fun q1 => absurd q1 (nI_pos (by omega))) (fun q1 => ?_)
  refine w_iload_n 1 dX6_numberAt_4 rfl rfl rfl ?_
  refine w_aload_n 0 dX6_numberAt_5 rfl rfl rfl ?_
  refine g_X6_9 dX6_numberAt_6 rfl hk hn ?_
  refine w_alen 1 dX6_numberAt_9 rfl (by decide) (by decide) (fun _ => rfl) hkn (v := 6) (by rw [hln]; rfl) ?_
  refine w_icmp_ge 22 dX6_numberAt_10 rfl rfl (fun q10 => ?_) (fun q10 => ?_)
  · have q10 := b_le (a := 6) (b := c) (by omega) (by omega) q10
    refine w_lconst 0 dX6_numberAt_22 rfl rfl ?_
    refine w_lret hf dX6_numberAt_23 rfl (by decide) (by decide) ?_
    exfalso; omega
  · have q10 := b_nle (a := 6) (b := c) (by omega) (by omega) q10
    refine w_aload_n 0 dX6_numberAt_13 rfl rfl rfl ?_
    refine g_X6_9 dX6_numberAt_14 rfl hk hn ?_
    refine w_iload_n 1 dX6_numberAt_17 rfl rfl rfl ?_
    refine w_lald dX6_numberAt_18 rfl hkn (by rw [hln]; exact (vp_in_nI (n := c) (by omega) (by omega))) (v := (m_Y h n c)) (by rw [show ((nI c) : Int32).toNatClampNeg = c from i_cl (n := c) (by omega)]) ?_
    refine w_goto 23 dX6_numberAt_19 rfl ?_
    refine w_lret hf dX6_numberAt_23 rfl (by decide) (by decide) ?_
    exact ⟨rfl, rfl⟩

/-- the checksum d, gone on with j numbers of a row from place k on -/
def v_mx (h : Hp) (n : Nat) : Nat → Nat → Int64 → Int64
  | _, 0, d => d
  | k, j + 1, d => v_mx h n (k + 1) j (d * 31 + m_Y h n k)
set_option maxRecDepth 20000 in
set_option maxHeartbeats 2000000 in
theorem l_X6_mixedInto {x : Cxt} {a n w dd Mc Ms : Nat} {h : Hp} {d0 : Int64} {kc ks : Nat} (hrm : m_rm dd Mc Ms x) (hdd : 1 ≤ dd) (hw6 : w ≤ 6) (hk : m_K h a = 6) (hn : m_R h 386 a = some n) (hkn : m_K h n = 21) (hln : m_N h n = 6) (hw : m_I h 385 a = nI w) (hkc : kc ≤ Mc) (hks : ks ≤ Ms) : ∀ (j k : Nat) (d : Int64), k + j = w → wp x mX6_mixedInto 65 [(3, .long (v_mx h n k j d)), (5, .int (nI w)), (0, .ref a), (1, .long d0)] [] h kc ks → wp x mX6_mixedInto 37 [(3, .long d), (5, .int (nI k)), (0, .ref a), (1, .long d0)] [] h kc ks
  | 0, k, d => fun hj kk => by
    refine w_iload 1 dX6_mixedInto_37 rfl rfl ?_
    refine w_aload_n 2 dX6_mixedInto_39 rfl rfl rfl ?_
    refine g_X6_19 dX6_mixedInto_40 rfl hk hw ?_
    refine w_icmp_ge 65 dX6_mixedInto_43 rfl rfl (fun q43 => ?_) (fun q43 => ?_)
    · have q43 := b_le (a := w) (b := k) (by omega) (by omega) q43
      refine w_lv [(3, .long d), (5, .int (nI k)), (0, .ref a), (1, .long d0)] [0, 1, 2, 3] rfl ?_
      obtain rfl : k = w := by omega
      exact kk
    · have q43 := b_nle (a := w) (b := k) (by omega) (by omega) q43
      refine w_lload_n 0 dX6_mixedInto_46 rfl rfl rfl ?_
      refine w_ldc2 dX6_mixedInto_47 rfl k_X6_22 ?_
      refine w_lmul dX6_mixedInto_50 rfl ?_
      refine w_aload_n 2 dX6_mixedInto_51 rfl rfl rfl ?_
      refine w_iload 1 dX6_mixedInto_52 rfl rfl ?_
      refine c_X6_30 (As := [.int (nI k)]) (rest := [.long (d * 31)]) (fun l => s_X6_num (c := k) (h := h) (by omega) hk hn hkn hln l) hrm dX6_mixedInto_54 rfl rfl (by omega) (by omega) (by omega) hk rfl (Nat.le_of_ble_eq_true rfl) (fun vr hr hq => ?_) (fun E9 h9 hq => hq.elim)
      obtain ⟨e8, e9⟩ := hq
      subst vr
      subst hr
      show wp _ _ 57 [(3, .long d), (5, .int (nI k)), (0, .ref a), (1, .long d0)] [.long (m_Y h n k), .long (d * 31)] _ _ _
      refine w_ladd dX6_mixedInto_57 rfl ?_
      refine w_lstore_n [(3, .long ((d * 31) + (m_Y h n k))), (5, .int (nI k)), (0, .ref a), (1, .long d0)] dX6_mixedInto_58 rfl rfl (by decide) rfl ?_
      refine w_iinc 1 (nI (k + 1)) [(5, .int (nI (k + 1))), (3, .long ((d * 31) + (m_Y h n k))), (0, .ref a), (1, .long d0)] dX6_mixedInto_59 rfl rfl (nI_1 k) (by decide) rfl ?_
      refine w_goto 37 dX6_mixedInto_62 rfl ?_
      exfalso; omega
  | j + 1, k, d => fun hj kk => by
    have ih := fun k' d' => l_X6_mixedInto (x := x) (kc := kc) (ks := ks) (d0 := d0) hrm hdd hw6 hk hn hkn hln hw hkc hks j k' d'
    refine w_iload 1 dX6_mixedInto_37 rfl rfl ?_
    refine w_aload_n 2 dX6_mixedInto_39 rfl rfl rfl ?_
    refine g_X6_19 dX6_mixedInto_40 rfl hk hw ?_
    refine w_icmp_ge 65 dX6_mixedInto_43 rfl rfl (fun q43 => ?_) (fun q43 => ?_)
    · have q43 := b_le (a := w) (b := k) (by omega) (by omega) q43
      exfalso; omega
    · have q43 := b_nle (a := w) (b := k) (by omega) (by omega) q43
      refine w_lload_n 0 dX6_mixedInto_46 rfl rfl rfl ?_
      refine w_ldc2 dX6_mixedInto_47 rfl k_X6_22 ?_
      refine w_lmul dX6_mixedInto_50 rfl ?_
      refine w_aload_n 2 dX6_mixedInto_51 rfl rfl rfl ?_
      refine w_iload 1 dX6_mixedInto_52 rfl rfl ?_
      refine c_X6_30 (As := [.int (nI k)]) (rest := [.long (d * 31)]) (fun l => s_X6_num (c := k) (h := h) (by omega) hk hn hkn hln l) hrm dX6_mixedInto_54 rfl rfl (by omega) (by omega) (by omega) hk rfl (Nat.le_of_ble_eq_true rfl) (fun vr hr hq => ?_) (fun E9 h9 hq => hq.elim)
      obtain ⟨e8, e9⟩ := hq
      subst vr
      subst hr
      show wp _ _ 57 [(3, .long d), (5, .int (nI k)), (0, .ref a), (1, .long d0)] [.long (m_Y h n k), .long (d * 31)] _ _ _
      refine w_ladd dX6_mixedInto_57 rfl ?_
      refine w_lstore_n [(3, .long ((d * 31) + (m_Y h n k))), (5, .int (nI k)), (0, .ref a), (1, .long d0)] dX6_mixedInto_58 rfl rfl (by decide) rfl ?_
      refine w_iinc 1 (nI (k + 1)) [(5, .int (nI (k + 1))), (3, .long ((d * 31) + (m_Y h n k))), (0, .ref a), (1, .long d0)] dX6_mixedInto_59 rfl rfl (nI_1 k) (by decide) rfl ?_
      refine w_goto 37 dX6_mixedInto_62 rfl ?_
      refine w_lv [(3, .long ((d * 31) + (m_Y h n k))), (5, .int (nI (k + 1))), (0, .ref a), (1, .long d0)] [1, 0, 2, 3] rfl ?_
      exact ih (k + 1) _ (by omega) kk
set_option maxRecDepth 20000 in
set_option maxHeartbeats 2000000 in
theorem s_X6_mixedInto {h : Hp} {a n w : Nat} {t si re : Int32} {d : Int64} (hw6 : w ≤ 6) (hk : m_K h a = 6) (hn : m_R h 386 a = some n) (hkn : m_K h n = 21) (hln : m_N h n = 6) (ht : m_I h 384 a = t) (hw : m_I h 385 a = nI w) (hsi : m_I h 387 a = si) (hre : m_I h 388 a = re) : ∀ l : Launch, Sp l mX6_mixedInto 1 0 0 [.ref a, .long d] h (fun r h' => r = some (.long (v_mx h n 0 w (((d * 31 + si.toInt64) * 31 + re.toInt64) * 31 + t.toInt64))) ∧ h' = h) (fun _ _ => False) := by
  intro l
  refine Sp.of rfl rfl (lv := [(0, .ref a), (1, .long d)]) (Nat.le_of_ble_eq_true rfl) rfl (fun x hf hrm => ?_)
  refine w_lload_n 1 dX6_mixedInto_0 rfl rfl rfl ?_
  refine w_ldc2 dX6_mixedInto_1 rfl k_X6_22 ?_
  refine w_lmul dX6_mixedInto_4 rfl ?_
  refine w_aload_n 0 dX6_mixedInto_5 rfl rfl rfl ?_
  refine g_X6_24 dX6_mixedInto_6 rfl hk hsi ?_
  refine w_i2l dX6_mixedInto_9 rfl ?_
  refine w_ladd dX6_mixedInto_10 rfl ?_
  refine w_ldc2 dX6_mixedInto_11 rfl k_X6_22 ?_
  refine w_lmul dX6_mixedInto_14 rfl ?_
  refine w_aload_n 0 dX6_mixedInto_15 rfl rfl rfl ?_
  refine g_X6_27 dX6_mixedInto_16 rfl hk hre ?_
  refine w_i2l dX6_mixedInto_19 rfl ?_
  refine w_ladd dX6_mixedInto_20 rfl ?_
  refine w_lstore_n [(3, .long ((((d * 31) + ((si : Int32).toInt64)) * 31) + ((re : Int32).toInt64))), (0, .ref a), (1, .long d)] dX6_mixedInto_21 rfl rfl (by decide) rfl ?_
  refine w_lload_n 0 dX6_mixedInto_22 rfl rfl rfl ?_
  refine w_ldc2 dX6_mixedInto_23 rfl k_X6_22 ?_
  refine w_lmul dX6_mixedInto_26 rfl ?_
  refine w_aload_n 1 dX6_mixedInto_27 rfl rfl rfl ?_
  refine g_X6_15 dX6_mixedInto_28 rfl hk ht ?_
  refine w_i2l dX6_mixedInto_31 rfl ?_
  refine w_ladd dX6_mixedInto_32 rfl ?_
  refine w_lstore_n [(3, .long ((((((d * 31) + ((si : Int32).toInt64)) * 31) + ((re : Int32).toInt64)) * 31) + ((t : Int32).toInt64))), (0, .ref a), (1, .long d)] dX6_mixedInto_33 rfl rfl (by decide) rfl ?_
  refine w_iconst 0 dX6_mixedInto_34 rfl rfl ?_
  refine w_istore [(5, .int 0), (3, .long ((((((d * 31) + ((si : Int32).toInt64)) * 31) + ((re : Int32).toInt64)) * 31) + ((t : Int32).toInt64))), (0, .ref a), (1, .long d)] dX6_mixedInto_35 rfl (by decide) rfl ?_
  refine w_lv [(3, .long ((((((d * 31) + ((si : Int32).toInt64)) * 31) + ((re : Int32).toInt64)) * 31) + ((t : Int32).toInt64))), (5, .int 0), (0, .ref a), (1, .long d)] [1, 0, 2, 3] rfl ?_
  refine l_X6_mixedInto hrm (by decide) hw6 hk hn hkn hln hw (by decide) (by decide) w 0 _ (by omega) ?_
  refine w_lload_n 0 dX6_mixedInto_65 rfl rfl rfl ?_
  refine w_lret hf dX6_mixedInto_66 rfl (by decide) (by decide) ?_
  exact ⟨rfl, rfl⟩
