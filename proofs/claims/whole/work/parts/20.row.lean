set_option maxRecDepth 20000 in
set_option maxHeartbeats 2000000 in
theorem s_X6_append {h : Hp} {a n : Nat} {w : Int32} {v : Int64} (hk : m_K h a = 6) (hw : m_I h 385 a = w) (hn : m_R h 386 a = some n) (hkn : m_K h n = 21) (hln : m_N h n = 6) : ∀ l : Launch, Sp l mX6_append 0 0 0 [.ref a, .long v] h (fun r h' => r = none ∧ h' = if 0 ≤ w ∧ w < 6 then p_I (p_Y h n w.toNatClampNeg v) 385 a (w + 1) else h) (fun _ _ => False) := by
  intro l
  refine Sp.of rfl rfl (lv := [(0, .ref a), (1, .long v)]) (Nat.le_of_ble_eq_true rfl) rfl (fun x hf hrm => ?_)
  refine w_aload_n 0 dX6_append_0 rfl rfl rfl ?_
  refine g_X6_19 dX6_append_1 rfl hk hw ?_
  refine w_if_lt 39 dX6_append_4 rfl rfl (fun q4 => ?_) (fun q4 => ?_)
  · refine w_vret hf dX6_append_39 rfl (by decide) (by decide) ?_
    exact ⟨rfl, by first | (rw [if_pos (by first | exact ⟨Int32.not_lt.mp q4, Int32.not_le.mp q16⟩ | assumption)]) | (rw [if_neg (by intro z; first | exact absurd z.1 (Int32.not_le.mpr q4) | exact absurd z.2 (Int32.not_lt.mpr q16))])⟩
  · refine w_aload_n 0 dX6_append_7 rfl rfl rfl ?_
    refine g_X6_19 dX6_append_8 rfl hk hw ?_
    refine w_aload_n 0 dX6_append_11 rfl rfl rfl ?_
    refine g_X6_9 dX6_append_12 rfl hk hn ?_
    refine w_alen 1 dX6_append_15 rfl (by decide) (by decide) (fun _ => rfl) hkn (v := 6) (by rw [hln]; rfl) ?_
    refine w_icmp_ge 39 dX6_append_16 rfl rfl (fun q16 => ?_) (fun q16 => ?_)
    · refine w_vret hf dX6_append_39 rfl (by decide) (by decide) ?_
      exact ⟨rfl, by first | (rw [if_pos (by first | exact ⟨Int32.not_lt.mp q4, Int32.not_le.mp q16⟩ | assumption)]) | (rw [if_neg (by intro z; first | exact absurd z.1 (Int32.not_le.mpr q4) | exact absurd z.2 (Int32.not_lt.mpr q16))])⟩
    · refine w_aload_n 0 dX6_append_19 rfl rfl rfl ?_
      refine g_X6_9 dX6_append_20 rfl hk hn ?_
      refine w_aload_n 0 dX6_append_23 rfl rfl rfl ?_
      refine g_X6_19 dX6_append_24 rfl hk hw ?_
      refine w_lload_n 1 dX6_append_27 rfl rfl rfl ?_
      refine w_last dX6_append_28 rfl hkn (by rw [hln]; exact (vp_in_iff.mpr ⟨by have := Int32.not_lt.mp q4; simpa [Int32.le_iff_toInt_le] using this, by have := Int32.not_le.mp q16; simpa [Int32.lt_iff_toInt_lt] using this⟩)) ?_
      refine w_aload_n 0 dX6_append_29 rfl rfl rfl ?_
      refine w_dup dX6_append_30 rfl rfl ?_
      refine g_X6_19 dX6_append_31 rfl hk hw ?_
      refine w_iconst 1 dX6_append_34 rfl rfl ?_
      refine w_iadd dX6_append_35 rfl ?_
      refine p_X6_19 dX6_append_36 rfl hk ?_
      refine w_vret hf dX6_append_39 rfl (by decide) (by decide) ?_
      exact ⟨rfl, by first | (rw [if_pos (by first | exact ⟨Int32.not_lt.mp q4, Int32.not_le.mp q16⟩ | assumption)]) | (rw [if_neg (by intro z; first | exact absurd z.1 (Int32.not_le.mpr q4) | exact absurd z.2 (Int32.not_lt.mpr q16))])⟩
