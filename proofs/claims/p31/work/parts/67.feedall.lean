/-! ALL OF feed -/
theorem smA {h : Hp} {q c n a : Nat} (hn : a ≠ q) : smF (n_A h q c n) h a := ⟨va_up_ne _ _ hn, va_up_ne _ _ hn, fun _ _ => ⟨rfl, rfl, rfl⟩, fun _ => ⟨if_neg hn, if_neg hn, if_neg hn⟩⟩
theorem ft_s {L : List Nat} {m k : Nat} {z y : Zs} (e : fT_feed L (m + 1) k z = some ((), y)) : ∃ r z1, fX11_feed (tx4 L k) (tx4 L (k + 4)) (tx4 L (k + 8)) (tx4 L (k + 12)) (tx4 L (k + 16)) z = some (.ok r, z1) ∧ fT_feed L m (k + 20) z1 = some ((), y) := by
  unfold fT_feed at e
  cases hf : fX11_feed (tx4 L k) (tx4 L (k + 4)) (tx4 L (k + 8)) (tx4 L (k + 12)) (tx4 L (k + 16)) z with
  | none => rw [hf] at e; cases e
  | some p =>
    obtain ⟨r, z1⟩ := p
    rw [bq_e hf] at e
    cases r with
    | ok v => exact ⟨v, z1, rfl, e⟩
    | error E => cases e
section FEA
variable {x : Cxt} {A : Nat → Nat → Nat → Nat} {L : List Nat} {tx tb k q Mc Ms : Nat} {t : Nat → Nat} {σ : Zs}
theorem fd_all (hk : k < 1000) (hw : L.length < 1000) (hT : ∀ j, j < L.length → t j = (txN L >>> (8 * j)) % 256) (hrm : m_rm 8 Mc Ms x) (hx : tx ≠ q ∧ tb ≠ q) (hf : fgn A q) : ∀ (m i kc ks : Nat) (h : Hp) (ρ : Zs), i + m = 20 → kc ≤ Mc → ks ≤ Ms → Rp A h σ ρ → TxO h tx tb L.length t → m_K h q = 20 → m_N h q = 5 → (∀ j, j < 5 → m_X h q j = acc L (k + 4 * j) (min 4 (i - 4 * j))) → (∀ h' ρ', Rp A h' σ ρ' → TxO h' tx tb L.length t → m_K h' q = 20 → m_N h' q = 5 → (∀ j, j < 5 → m_X h' q j = tx4 L (k + 4 * j)) → wp x mL_feed 72 (lvF (A 11 0 0) tx L.length k q 20) [] h' kc ks) → wp x mL_feed 20 (lvF (A 11 0 0) tx L.length k q i) [] h kc ks := by
  intro m
  induction m with
  | zero =>
    intro i kc ks h ρ hi hc hs hz ht hq hn hv kk
    obtain rfl : i = 20 := by omega
    refine w_iload 0 dL_feed_20 rfl rfl ?_
    refine w_bipush (nI 20) dL_feed_22 rfl (by decide) ?_
    refine w_icmp_ge 72 dL_feed_24 rfl rfl (fun _ => kk h ρ hz ht hq hn (fun j hj => ?_)) (fun c => absurd (by decide) c)
    rw [hv j hj, show min 4 (20 - 4 * j) = 4 by omega]
    exact acc_4
  | succ m ih =>
    intro i kc ks h ρ hi hc hs hz ht hq hn hv kk
    exact fd_in (by omega) hk hw hT hrm hc hs hz ht hx hf hq hn hv (fun h' ρ' hz' ht' hq' hn' hv' => ih (i + 1) kc ks h' ρ' (by omega) hc hs hz' ht' hq' hn' hv' kk)
def lvG (d tx w k : Nat) : List (Nat × Value) := [(3, .int (nI k)), (2, .int (nI w)), (1, .ref tx), (0, .ref d)]
theorem fd_loop (hw : L.length < 900) (hT : ∀ j, j < L.length → t j = (txN L >>> (8 * j)) % 256) (hrm : m_rm 8 Mc Ms x) (hf1 : fgn A tx) (hf2 : fgn A tb) {σ2 : Zs} : ∀ (m k kc ks : Nat) (h : Hp) (σ ρ : Zs), L.length ≤ k + 20 * m → (m = 0 ∨ k + 20 * (m - 1) < L.length) → kc + 2 * m ≤ Mc → ks + 11 * m ≤ Ms → Rp A h σ ρ → TxO h tx tb L.length t → fT_feed L m k σ = some ((), σ2) → (∀ h' ρ' k', Rp A h' σ2 ρ' → wp x mL_feed 103 (lvG (A 11 0 0) tx L.length k') [] h' (kc + 2 * m) (ks + 11 * m)) → k < 1000 → wp x mL_feed 7 (lvG (A 11 0 0) tx L.length k) [] h kc ks := by
  intro m
  induction m with
  | zero =>
    intro k kc ks h σ ρ h1 h2 hc hs hz ht e kk hk
    have e' : σ = σ2 := by
      unfold fT_feed at e
      cases e
      rfl
    subst e'
    refine w_iload_n 0 dL_feed_7 rfl rfl rfl ?_
    refine w_iload_n 1 dL_feed_8 rfl rfl rfl ?_
    exact w_icmp_ge 103 dL_feed_9 rfl rfl (fun _ => kk h ρ k hz) (fun c => absurd ((n_le (by omega) (by omega)).mpr (by omega)) c)
  | succ m ih =>
    intro k kc ks h σ ρ h1 h2 hc hs hz ht e kk hk
    obtain ⟨r, σ1, e1, e2⟩ := ft_s e
    refine w_iload_n 0 dL_feed_7 rfl rfl rfl ?_
    refine w_iload_n 1 dL_feed_8 rfl rfl rfl ?_
    refine w_icmp_ge 103 dL_feed_9 rfl rfl (fun c => absurd ((n_le (by omega) (by omega)).mp c) (by omega)) (fun _ => ?_)
    refine w_iconst (nI 5) dL_feed_12 rfl rfl ?_
    refine w_newI (n := 5) hrm dL_feed_13 rfl a_int (by decide) (by decide) (by decide) (by omega) (by omega) (fun q hq => ?_)
    have n1 : tx ≠ q := fun c => hq (by rw [← c, ht.1]; decide)
    have n2 : tb ≠ q := fun c => hq (by rw [← c, ht.2.2.2.1]; decide)
    have hf := hz.fg hq
    refine w_astore [(4, .ref q), (3, .int (nI k)), (2, .int (nI L.length)), (1, .ref tx), (0, .ref (A 11 0 0))] dL_feed_15 rfl (by decide) rfl ?_
    refine w_iconst (nI 0) dL_feed_17 rfl rfl ?_
    refine w_istore (lvF (A 11 0 0) tx L.length k q 0) dL_feed_18 rfl (by decide) rfl ?_
    refine fd_all hk (by omega) hT hrm ⟨n1, n2⟩ hf 20 0 (kc + 1) (ks + 5) (n_A h q 20 5) _ rfl (by omega) (by omega) (hz.newA hq) (ht.sm (smA n1) (smA n2)) (va_up_self _ _ _) (va_up_self _ _ _) (fun j hj => ?_) (fun h3 ρ3 hz3 ht3 hq3 hn3 hv3 => ?_)
    · rw [show min 4 (0 - 4 * j) = 0 by omega]
      exact if_pos rfl
    refine w_aload_n 5 dL_feed_72 rfl rfl rfl ?_
    refine w_aload 1 dL_feed_73 rfl rfl ?_
    refine w_iconst (nI 0) dL_feed_75 rfl rfl ?_
    refine w_iald (v := tx4 L k) dL_feed_76 rfl hq3 (gin hn3 (show gi (nI 0) 5 by decide)) (hv3 0 (by decide)) ?_
    refine w_aload 1 dL_feed_77 rfl rfl ?_
    refine w_iconst (nI 1) dL_feed_79 rfl rfl ?_
    refine w_iald (v := tx4 L (k + 4)) dL_feed_80 rfl hq3 (gin hn3 (show gi (nI 1) 5 by decide)) (hv3 1 (by decide)) ?_
    refine w_aload 1 dL_feed_81 rfl rfl ?_
    refine w_iconst (nI 2) dL_feed_83 rfl rfl ?_
    refine w_iald (v := tx4 L (k + 8)) dL_feed_84 rfl hq3 (gin hn3 (show gi (nI 2) 5 by decide)) (hv3 2 (by decide)) ?_
    refine w_aload 1 dL_feed_85 rfl rfl ?_
    refine w_iconst (nI 3) dL_feed_87 rfl rfl ?_
    refine w_iald (v := tx4 L (k + 12)) dL_feed_88 rfl hq3 (gin hn3 (show gi (nI 3) 5 by decide)) (hv3 3 (by decide)) ?_
    refine w_aload 1 dL_feed_89 rfl rfl ?_
    refine w_iconst (nI 4) dL_feed_91 rfl rfl ?_
    refine w_iald (v := tx4 L (k + 16)) dL_feed_92 rfl hq3 (gin hn3 (show gi (nI 4) 5 by decide)) (hv3 4 (by decide)) ?_
    refine c_L_19 (b := A 11 0 0) (As := [.int (tx4 L k), .int (tx4 L (k + 4)), .int (tx4 L (k + 8)), .int (tx4 L (k + 12)), .int (tx4 L (k + 16))]) (rest := []) (fun l => s_X11_feed hz3 e1 l) hrm dL_feed_93 rfl rfl (by decide) (by omega) (by omega) (hz3.o11 rfl) rfl (Nat.le_of_ble_eq_true rfl) (fun vr h9 hq9 => ?_) (fun _ _ hq9 => ?_)
    rotate_left; · exact absurd hq9.1 (by intro q9; cases q9)
    obtain ⟨w9, hw9, rfl, hz4⟩ := hq9; cases hw9
    have ht4 := ht3.sm (hz3.sm hz4 hf1) (hz3.sm hz4 hf2)
    refine w_pop dL_feed_96 rfl rfl ?_
    refine w_iinc 2 (nI (k + 20)) [(3, .int (nI (k + 20))), (5, .int (nI 20)), (4, .ref q), (2, .int (nI L.length)), (1, .ref tx), (0, .ref (A 11 0 0))] dL_feed_97 rfl rfl (n_add k 20) (by decide) rfl ?_
    refine w_goto 7 dL_feed_100 rfl ?_
    refine w_lv (lvG (A 11 0 0) tx L.length (k + 20)) [0, 3, 4, 5] rfl ?_
    exact ih (k + 20) _ _ _ σ1 ρ3 (by omega) (by omega) (by omega) (by omega) hz4 ht4 e2 (fun h' ρ' k' hz' => w_widen (by omega) (by omega) (kk h' ρ' k' hz')) (by omega)
/-- feed: the tape is the text -/
theorem s_L_feed {h : Hp} {ρ σ2 σ3 : Zs} {r : Int32} (hw : L.length < 240) (hT : ∀ j, j < L.length → t j = (txN L >>> (8 * j)) % 256) (hz : Rp A h σ ρ) (ht : TxO h tx tb L.length t) (hf1 : fgn A tx) (hf2 : fgn A tb) (e1 : fT_feed L ((L.length + 19) / 20) 0 σ = some ((), σ2)) (e2 : fX11_trim (nI L.length) σ2 = some (.ok r, σ3)) : ∀ l : Launch, Sp l mL_feed 8 30 200 [.ref (A 11 0 0), .ref tx] h (fun v h' => v = none ∧ ∃ ρ', Rp A h' σ3 ρ') X0 := by
  intro l
  refine Sp.of rfl rfl (lv := [(0, .ref (A 11 0 0)), (1, .ref tx)]) (Nat.le_of_ble_eq_true rfl) rfl (fun x hf hrm => ?_)
  refine w_aload_n 1 dL_feed_0 rfl rfl rfl ?_
  refine c_L_9 (b := tx) (As := []) (rest := []) (fun l => s_T_len ht (by omega) l) hrm dL_feed_1 rfl rfl (by decide) (by decide) (by decide) ht.1 rfl (Nat.le_of_ble_eq_true rfl) (fun vr h9 hq9 => ?_) (fun _ _ hq9 => hq9.elim)
  obtain ⟨rfl, rfl⟩ := hq9
  refine w_istore_n [(2, .int (nI L.length)), (0, .ref (A 11 0 0)), (1, .ref tx)] dL_feed_4 rfl rfl (by decide) rfl ?_
  refine w_iconst (nI 0) dL_feed_5 rfl rfl ?_
  refine w_istore_n [(3, .int (nI 0)), (2, .int (nI L.length)), (0, .ref (A 11 0 0)), (1, .ref tx)] dL_feed_6 rfl rfl (by decide) rfl ?_
  refine w_lv (lvG (A 11 0 0) tx L.length 0) [0, 1, 3, 2] rfl ?_
  refine fd_loop (by omega) hT hrm hf1 hf2 ((L.length + 19) / 20) 0 _ _ _ σ ρ (by omega) (by omega) (by omega) (by omega) hz ht e1 (fun h' ρ' k' hz' => ?_) (by decide)
  refine w_aload_n 3 dL_feed_103 rfl rfl rfl ?_
  refine w_iload_n 1 dL_feed_104 rfl rfl rfl ?_
  refine c_L_25 (b := A 11 0 0) (As := [.int (nI L.length)]) (rest := []) (fun l => s_X11_trim hz' e2 l) hrm dL_feed_105 rfl rfl (by decide) (by omega) (by omega) (hz'.o11 rfl) rfl (Nat.le_of_ble_eq_true rfl) (fun vr h9 hq9 => ?_) (fun _ _ hq9 => ?_)
  rotate_left; · exact absurd hq9.1 (by intro q9; cases q9)
  obtain ⟨w9, hw9, rfl, hz5⟩ := hq9; cases hw9
  refine w_pop dL_feed_108 rfl rfl ?_
  exact w_vret hf dL_feed_109 rfl (by omega) (by omega) ⟨rfl, ρ', hz5⟩
end FEA
