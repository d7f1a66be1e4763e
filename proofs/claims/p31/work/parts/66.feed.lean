/-! THE LAW'S feed -/
def acc (L : List Nat) (k : Nat) : Nat → Int32
  | 0 => 0
  | c + 1 => (acc L k c <<< ((8 : Int32) &&& 31)) ||| txC L (k + c)
theorem acc_4 {L : List Nat} {i : Nat} : acc L i 4 = tx4 L i := rfl
def lvF (d tx w k q i : Nat) : List (Nat × Value) := [(5, .int (nI i)), (4, .ref q), (3, .int (nI k)), (2, .int (nI w)), (1, .ref tx), (0, .ref d)]
section FEE
variable {x : Cxt} {A : Nat → Nat → Nat → Nat} {h : Hp} {σ ρ : Zs} {L : List Nat} {tx tb k q Mc Ms kc ks : Nat} {t : Nat → Nat}
theorem fd_ch {i : Nat} (hT : ∀ j, j < L.length → t j = (txN L >>> (8 * j)) % 256) (hi : i < L.length) : nI (t i) = txC L i := by
  unfold txC
  rw [if_pos hi, hT i hi]
theorem fd_in {i : Nat} (hi : i < 20) (hk : k < 1000) (hw : L.length < 1000) (hT : ∀ j, j < L.length → t j = (txN L >>> (8 * j)) % 256) (hrm : m_rm 8 Mc Ms x) (hc : kc ≤ Mc) (hs : ks ≤ Ms) (hz : Rp A h σ ρ) (ht : TxO h tx tb L.length t) (hx : tx ≠ q ∧ tb ≠ q) (hf : fgn A q) (hq : m_K h q = 20) (hn : m_N h q = 5) (hv : ∀ j, j < 5 → m_X h q j = acc L (k + 4 * j) (min 4 (i - 4 * j))) (kk : ∀ h' ρ', Rp A h' σ ρ' → TxO h' tx tb L.length t → m_K h' q = 20 → m_N h' q = 5 → (∀ j, j < 5 → m_X h' q j = acc L (k + 4 * j) (min 4 (i + 1 - 4 * j))) → wp x mL_feed 20 (lvF (A 11 0 0) tx L.length k q (i + 1)) [] h' kc ks) : wp x mL_feed 20 (lvF (A 11 0 0) tx L.length k q i) [] h kc ks := by
  have hd : i / 4 < 5 := by omega
  have hc4 : (nI (i / 4)).toNatClampNeg = i / 4 := n_cl (by omega)
  have fin : wp x mL_feed 64 (lvF (A 11 0 0) tx L.length k q i) [.int (txC L (k + i)), .int (acc L (k + 4 * (i / 4)) (i % 4) <<< (nI 8 &&& 31)), .int (nI (i / 4)), .ref q] h kc ks := by
    refine w_ior dL_feed_64 rfl ?_
    refine w_iast dL_feed_65 rfl hq (by rw [hn]; exact vp_in_nI hd (by decide)) ?_
    refine w_iinc 0 (nI (i + 1)) (lvF (A 11 0 0) tx L.length k q (i + 1)) dL_feed_66 rfl rfl (nI_1 i) (by decide) rfl ?_
    refine w_goto 20 dL_feed_69 rfl ?_
    rw [hc4]
    refine kk _ _ (hz.fX hf) (ht.sm (smX (fun e => hx.1 e.symm)) (smX (fun e => hx.2 e.symm))) hq hn (fun j hj => ?_)
    rw [g_XX]
    by_cases e : j = i / 4
    · rw [if_pos ⟨rfl, e⟩, e, show min 4 (i + 1 - 4 * (i / 4)) = i % 4 + 1 by omega]
      show _ = (acc L (k + 4 * (i / 4)) (i % 4) <<< ((8 : Int32) &&& 31)) ||| txC L (k + 4 * (i / 4) + i % 4)
      rw [show k + 4 * (i / 4) + i % 4 = k + i by omega]
      rfl
    · rw [if_neg (fun w8 => e w8.2), hv j hj, show min 4 (i + 1 - 4 * j) = min 4 (i - 4 * j) by omega]
  refine w_iload 0 dL_feed_20 rfl rfl ?_
  refine w_bipush (nI 20) dL_feed_22 rfl (by decide) ?_
  refine w_icmp_ge 72 dL_feed_24 rfl rfl (fun c => absurd ((n_le (by omega) (by omega)).mp c) (by omega)) (fun _ => ?_)
  refine w_aload 1 dL_feed_27 rfl rfl ?_
  refine w_iload 0 dL_feed_29 rfl rfl ?_
  refine w_iconst (nI 4) dL_feed_31 rfl rfl ?_
  refine w_idiv dL_feed_32 rfl (by decide) ?_
  rw [pk_div (by omega) (by decide) (by decide)]
  refine w_aload 1 dL_feed_33 rfl rfl ?_
  refine w_iload 0 dL_feed_35 rfl rfl ?_
  refine w_iconst (nI 4) dL_feed_37 rfl rfl ?_
  refine w_idiv dL_feed_38 rfl (by decide) ?_
  rw [pk_div (by omega) (by decide) (by decide)]
  refine w_iald (v := acc L (k + 4 * (i / 4)) (i % 4)) dL_feed_39 rfl hq (by rw [hn]; exact vp_in_nI hd (by decide)) (by rw [hc4, hv _ hd, show min 4 (i - 4 * (i / 4)) = i % 4 by omega]) ?_
  refine w_bipush (nI 8) dL_feed_40 rfl (by decide) ?_
  refine w_ishl dL_feed_42 rfl ?_
  refine w_iload_n 2 dL_feed_43 rfl rfl rfl ?_
  refine w_iload 0 dL_feed_44 rfl rfl ?_
  refine w_iadd dL_feed_46 rfl ?_
  rw [n_add]
  refine w_iload_n 3 dL_feed_47 rfl rfl rfl ?_
  refine w_icmp_ge 62 dL_feed_48 rfl rfl (fun c => ?_) (fun c => ?_)
  · have c' : ¬ k + i < L.length := by have := (n_le (by omega) (by omega)).mp c; omega
    refine w_bipush (nI 32) dL_feed_62 rfl (by decide) ?_
    have e : txC L (k + i) = nI 32 := by unfold txC; rw [if_neg c']; rfl
    rw [← e]
    exact fin
  · have c' : k + i < L.length := by
      rcases Nat.lt_or_ge (k + i) L.length with w8 | w8
      · exact w8
      · exact absurd ((n_le (by omega) (by omega)).mpr w8) c
    refine w_aload_n 4 dL_feed_51 rfl rfl rfl ?_
    refine w_iload_n 2 dL_feed_52 rfl rfl rfl ?_
    refine w_iload 0 dL_feed_53 rfl rfl ?_
    refine w_iadd dL_feed_55 rfl ?_
    rw [n_add]
    refine c_L_15 (b := tx) (As := [.int (nI (k + i))]) (rest := [.int (acc L (k + 4 * (i / 4)) (i % 4) <<< (nI 8 &&& 31)), .int (nI (i / 4)), .ref q]) (fun l => s_T_at ht (by omega) c' l) hrm dL_feed_56 rfl rfl (by decide) (by omega) (by omega) ht.1 rfl (Nat.le_of_ble_eq_true rfl) (fun vr h9 hq9 => ?_) (fun _ _ hq9 => hq9.elim)
    obtain ⟨rfl, rfl⟩ := hq9
    refine w_goto 64 dL_feed_59 rfl ?_
    rw [fd_ch hT c']
    exact fin
end FEE
