/-! CONSTRUCTORS THAT READ TEXTS; the desk's own -/
def kZ (c : Nat) (z : Zs) (g : Nat → Int64) : Zs := (zI z, fun c' p s j => if c' = c ∧ p = 0 ∧ s = 0 then g j else zJ z c' p s j, zR z)
theorem kZ_0 {c : Nat} {z : Zs} (h : ∀ i, zJ z c 0 0 i = 0) : kZ c z (fun _ => 0) = z := by
  refine Prod.ext rfl (Prod.ext ?_ rfl)
  funext c' p s j
  show (if c' = c ∧ p = 0 ∧ s = 0 then (0 : Int64) else zJ z c' p s j) = z.2.1 c' p s j
  by_cases q : c' = c ∧ p = 0 ∧ s = 0
  · rw [if_pos q, q.1, q.2.1, q.2.2]
    exact (h j).symm
  · rw [if_neg q]
    rfl
theorem kZ_s {c : Nat} {z : Zs} {g : Nat → Int64} {i : Nat} {v : Int64} : sJ (kZ c z g) c 0 0 i v = kZ c z (fun j => if j = i then v else g j) := by
  refine Prod.ext rfl (Prod.ext ?_ rfl)
  funext c' p s j
  show (if c' = c ∧ p = 0 ∧ s = 0 ∧ j = i then v else if c' = c ∧ p = 0 ∧ s = 0 then g j else zJ z c' p s j) = if c' = c ∧ p = 0 ∧ s = 0 then (if j = i then v else g j) else zJ z c' p s j
  by_cases q : c' = c ∧ p = 0 ∧ s = 0
  · obtain ⟨rfl, rfl, rfl⟩ := q
    by_cases q2 : j = i <;> simp [q2]
  · rw [if_neg (fun t => q ⟨t.1, t.2.1, t.2.2.1⟩), if_neg q, if_neg q]
theorem Zr.sR {z : Zs} {c p s f p0 s0 i0 : Nat} {v : Nat × Nat} (h : Zr z c p s) : Zr (sR z f p0 s0 i0 v) c p s := h
theorem Zr.sI {z : Zs} {c p s f p0 s0 i0 : Nat} {v : Int32} (h : Zr z c p s) (h1 : f ≠ c) (h2 : f / 64 ≠ c) : Zr (sI z f p0 s0 i0 v) c p s :=
  ⟨fun f' hf => ⟨by rw [zI_sI, if_neg (fun q => h2 (by rw [← q.1]; exact hf))]; exact (h.1 f' hf).1, (h.1 f' hf).2⟩, fun i => ⟨by rw [zI_sI, if_neg (fun q => h1 q.1.symm)]; exact (h.2 i).1, (h.2 i).2⟩⟩
theorem kZ_g {c : Nat} {z : Zs} {g : Nat → Int64} {i : Nat} : zJ (kZ c z g) c 0 0 i = g i := if_pos ⟨rfl, rfl, rfl⟩
def kwC (s : Nat × (Nat → Int64)) (c : Int32) : Nat × (Nat → Int64) := if c = 32 then (s.1 + 1, s.2) else if s.1 < 32 then (s.1, fun j => if j = s.1 then ((s.2 s.1 <<< ((8 : Int32).toInt64 &&& 63)) ||| c.toInt64) else s.2 j) else s
def kwF : List Int32 → Nat × (Nat → Int64) → Nat × (Nat → Int64)
  | [], s => s
  | b :: l, s => kwF l (kwC s (b &&& 255))
/-- the class's key words -/
def kwG : Nat → Int64 := (kwF (tx_b 0) (0, fun _ => 0)).2
section K20
variable {x : Cxt} {A : Nat → Nat → Nat → Nat} {S F E : C3} {z : Zs} {kc ks dd Mc Ms : Nat}
set_option maxHeartbeats 4000000 in
theorem l_X9_init (hS : S 9 0 0) (hSa : S 1603 0 0) (hF : F 579 0 0) (hrm : m_rm dd Mc Ms x) (hdd : 10 ≤ dd) (hmc : kc ≤ Mc) (hms : ks ≤ Ms) (kk : ∀ h, Pl A S F E h (kZ 1603 z kwG) → wp x mX9_init 104 [(0, .ref (A 9 0 0))] [] h kc ks) : ∀ (l : List Int32) (k w : Nat) (g : Nat → Int64) (h : Hp), (tx_b 0).drop k = l → k ≤ 163 → w ≤ k → kwF l (w, g) = kwF (tx_b 0) (0, fun _ => 0) → Pl A S F E h (kZ 1603 z g) → wp x mX9_init 43 [(2, .int (nI k)), (1, .int (nI w)), (0, .ref (A 9 0 0))] [] h kc ks := by
  obtain ⟨hl, hL, hb⟩ := tx_all 0 (by decide)
  have h163 : (tx_b 0).length = 163 := by rw [← hl]; rfl
  intro l
  induction l with
  | nil =>
    intro k w g h e hk hw hg hz
    have q : (tx_b 0).length ≤ k := List.drop_eq_nil_iff.mp e
    refine w_iload_n 0 dX9_init_43 rfl rfl rfl ?_
    refine w_ldcS (tx := m_kw) 0 dX9_init_44 rfl (fun e => e.1) ?_
    refine w_tx_len 0 hrm hdd dX9_init_46 rfl ml_X9_27 (by decide) (Nat.le_of_ble_eq_true rfl) hmc hms ?_
    refine w_icmp_ge 104 dX9_init_49 rfl rfl (fun _ => ?_) (fun t => absurd (show nI 163 ≤ nI k from nI_le (by omega) (by omega)) t)
    refine w_lv [(0, .ref (A 9 0 0))] [2] rfl ?_
    refine kk h ?_
    have e2 : g = kwG := congrArg Prod.snd hg
    rw [← e2]
    exact hz
  | cons b l ih =>
    intro k w g h e hk hw hg hz
    obtain ⟨h1, h2, h3, h4⟩ := sc_dropC e
    have hwi : w < 2 ^ 31 := by omega
    refine w_iload_n 0 dX9_init_43 rfl rfl rfl ?_
    refine w_ldcS (tx := m_kw) 0 dX9_init_44 rfl (fun e => e.1) ?_
    refine w_tx_len 0 hrm hdd dX9_init_46 rfl ml_X9_27 (by decide) (Nat.le_of_ble_eq_true rfl) hmc hms ?_
    refine w_icmp_ge 104 dX9_init_49 rfl rfl (fun t => absurd (show nI 163 ≤ nI k from t) (nI_ge (by omega) (by omega))) (fun _ => ?_)
    refine w_ldcS (tx := m_kw) 0 dX9_init_52 rfl (fun e => e.1) ?_
    refine w_iload_n 0 dX9_init_54 rfl rfl rfl ?_
    refine w_tx_at 0 hrm hdd dX9_init_55 rfl ml_X9_33 (by decide) (gi_nI (n := 163) (by omega) (by decide)) (Nat.le_of_ble_eq_true rfl) hmc hms ?_
    rw [show tx_at 0 (nI k) = b &&& 255 by rw [tx_at, nI_clamp (by omega), h2]]
    refine w_istore_n [(3, .int (b &&& 255)), (2, .int (nI k)), (1, .int (nI w)), (0, .ref (A 9 0 0))] dX9_init_58 rfl rfl (by decide) rfl ?_
    refine w_iload_n 0 dX9_init_59 rfl rfl rfl ?_
    refine w_bipush 32 dX9_init_60 rfl rfl ?_
    have tail : ∀ (w2 : Nat) (g2 : Nat → Int64) (h2 : Hp), w2 ≤ k + 1 → kwF l (w2, g2) = kwF (tx_b 0) (0, fun _ => 0) → Pl A S F E h2 (kZ 1603 z g2) → wp x mX9_init 98 [(2, .int (nI k)), (1, .int (nI w2)), (0, .ref (A 9 0 0))] [] h2 kc ks := by
      intro w2 g2 h2 q1 q2 q3
      refine w_iinc 0 (nI (k + 1)) [(2, .int (nI (k + 1))), (1, .int (nI w2)), (0, .ref (A 9 0 0))] dX9_init_98 rfl rfl (nI_1 k) (by decide) rfl ?_
      refine w_goto 43 dX9_init_101 rfl ?_
      exact ih (k + 1) w2 g2 h2 h3 (by omega) q1 q2 q3
    have hg2 : kwF l (kwC (w, g) (b &&& 255)) = kwF (tx_b 0) (0, fun _ => 0) := hg
    refine w_icmp_ne 71 dX9_init_62 rfl rfl (fun t => ?_) (fun t => ?_)
    · rw [kwC, if_neg t] at hg2
      refine w_iload_n 2 dX9_init_71 rfl rfl rfl ?_
      refine w_aload_n 3 dX9_init_72 rfl rfl rfl ?_
      refine g_X9_22 dX9_init_73 rfl (hz.kO hS (by decide)) (hz.rA (f := 579) hF rfl) ?_
      refine w_alen 1 dX9_init_76 rfl (by decide) (by decide) (fun _ => rfl) (hz.kA (f := 579) hSa rfl) (v := nI 32) (by rw [hz.nA (f := 579) hSa rfl]; rfl) ?_
      refine w_icmp_ge 98 dX9_init_77 rfl rfl (fun t2 => ?_) (fun t2 => ?_)
      · have hw32 : 32 ≤ w := b_le (by omega) hwi t2
        rw [if_neg (by show ¬ w < 32; omega)] at hg2
        refine w_lv [(2, .int (nI k)), (1, .int (nI w)), (0, .ref (A 9 0 0))] [1, 2, 3] rfl ?_
        exact tail w g h (by omega) hg2 hz
      · have hw32 : w < 32 := b_nle (by omega) hwi t2
        rw [if_pos (show (w, g).1 < 32 from hw32)] at hg2
        refine w_aload_n 3 dX9_init_80 rfl rfl rfl ?_
        refine g_X9_22 dX9_init_81 rfl (hz.kO hS (by decide)) (hz.rA (f := 579) hF rfl) ?_
        refine w_iload_n 2 dX9_init_84 rfl rfl rfl ?_
        refine w_aload_n 3 dX9_init_85 rfl rfl rfl ?_
        refine g_X9_22 dX9_init_86 rfl (hz.kO hS (by decide)) (hz.rA (f := 579) hF rfl) ?_
        refine w_iload_n 2 dX9_init_89 rfl rfl rfl ?_
        refine w_lald dX9_init_90 rfl (hz.kA (f := 579) hSa rfl) (gin (hz.nA (f := 579) hSa rfl) (gi_nI hw32 (by decide))) (v := g w) (by rw [i_cl hwi]; exact ((hz.1.2.2.2.2.2 579 0 0 w hSa).2).trans kZ_g) ?_
        refine w_bipush 8 dX9_init_91 rfl rfl ?_
        refine w_lshl dX9_init_93 rfl ?_
        refine w_iload_n 0 dX9_init_94 rfl rfl rfl ?_
        refine w_i2l dX9_init_95 rfl ?_
        refine w_lor dX9_init_96 rfl ?_
        refine w_last dX9_init_97 rfl (hz.kA (f := 579) hSa rfl) (gin (hz.nA (f := 579) hSa rfl) (gi_nI hw32 (by decide))) ?_
        rw [i_cl hwi]
        have hz2 := hz.setY (f := 579) (j := w) (v := (g w <<< ((8 : Int32).toInt64 &&& 63)) ||| (b &&& 255).toInt64) hSa
        rw [show 1024 + 579 = 1603 from rfl, kZ_s] at hz2
        refine w_lv [(2, .int (nI k)), (1, .int (nI w)), (0, .ref (A 9 0 0))] [1, 2, 3] rfl ?_
        exact tail w _ _ (by omega) hg2 hz2
    · rw [kwC, if_pos t] at hg2
      refine w_iinc 2 (nI (w + 1)) [(1, .int (nI (w + 1))), (3, .int (b &&& 255)), (2, .int (nI k)), (0, .ref (A 9 0 0))] dX9_init_65 rfl rfl (nI_1 w) (by decide) rfl ?_
      refine w_goto 98 dX9_init_68 rfl ?_
      refine w_lv [(2, .int (nI k)), (1, .int (nI (w + 1))), (0, .ref (A 9 0 0))] [2, 0, 3] rfl ?_
      exact tail (w + 1) g h (by omega) hg2 hz
end K20
def GTok : C3 := fun c p9 s9 => (c = 1600 ∧ p9 = 0 ∧ s9 = 0) ∨ (c = 1601 ∧ p9 = 0 ∧ s9 = 0) ∨ (c = 1602 ∧ p9 = 0 ∧ s9 = 0) ∨ (c = 1603 ∧ p9 = 0 ∧ s9 = 0)
def FGTok : C3 := fun c p9 s9 => (c = 576 ∧ p9 = 0 ∧ s9 = 0) ∨ (c = 577 ∧ p9 = 0 ∧ s9 = 0) ∨ (c = 578 ∧ p9 = 0 ∧ s9 = 0) ∨ (c = 579 ∧ p9 = 0 ∧ s9 = 0)
set_option maxRecDepth 20000 in
set_option maxHeartbeats 4000000 in
theorem s_X9_init {A : Nat → Nat → Nat → Nat} {S F E : C3} {h : Hp} {z : Zs}  (hS : S 9 0 0) (hN : ∀ c p9 s9, (1600 ≤ c ∧ c < 1664 ∧ p9 = 0 ∧ s9 = 0) → ¬ S c p9 s9) (hZ : ∀ c p9 s9, (1600 ≤ c ∧ c < 1664 ∧ p9 = 0 ∧ s9 = 0) → Zr z c p9 s9) (hz : Pl A S F E h z) : ∀ l : Launch, Sp l mX9_init 11 4 4535 [.ref (A 9 0 0)] h (fun r h1 => r = none ∧ ∃ A1, Ax A A1 S ∧ Pl A1 (Su S (GTok)) (Su F (FGTok)) E h1 (kZ 1603 z kwG)) X0 := by
  intro l
  refine Sp.of rfl rfl (lv := [(0, .ref (A 9 0 0))]) (Nat.le_of_ble_eq_true rfl) rfl (fun x hf hrm => ?_)
  have hX : Ax A A S := fun _ _ _ _ => rfl
  refine w_aload_n 0 dX9_init_0 rfl rfl rfl ?_
  refine w_objInit hrm (by decide) dX9_init_1 rfl ml_X9_3 im_objectInit co_objectInit (Nat.le_of_ble_eq_true rfl) ?_
  refine w_aload_n 0 dX9_init_4 rfl rfl rfl ?_
  refine w_sipush 1501 dX9_init_5 rfl rfl ?_
  refine w_newI (n := 1501) hrm dX9_init_8 rfl a_int (by decide) rfl (by decide) (Nat.le_of_ble_eq_true rfl) (Nat.le_of_ble_eq_true rfl) (fun q hq => ?_)
  refine i_addA hz hq (f0 := 576) (p0 := 0) (s0 := 0) rfl (by decide) rfl ?_ (hZ _ _ _ (by omega)) (fun A2 h hA1 hz => ?_)
  · intro q
    exact hN _ _ _ (by omega) q
  have hX := hX.trans hA1 (fun _ _ _ q => q)
  rw [← hA1 9 0 0 hS]
  refine p_X9_9 dX9_init_10 rfl (hz.kO (Or.inl hS) (by decide)) rfl ?_
  refine i_fg (hz.setR (f := 576) (by decide) (Or.inl hS) (Or.inr ⟨rfl, rfl, rfl⟩) (rt_a (f := 576) rfl rfl rfl)) (fun h hz => ?_)
  refine w_aload_n 0 dX9_init_13 rfl rfl rfl ?_
  refine w_sipush 1501 dX9_init_14 rfl rfl ?_
  refine w_newI (n := 1501) hrm dX9_init_17 rfl a_int (by decide) rfl (by decide) (Nat.le_of_ble_eq_true rfl) (Nat.le_of_ble_eq_true rfl) (fun q hq => ?_)
  refine i_addA hz hq (f0 := 577) (p0 := 0) (s0 := 0) rfl (by decide) rfl ?_ (hZ _ _ _ (by omega)) (fun A5 h hA4 hz => ?_)
  · intro q
    rcases q with q | q
    rotate_left
    · omega
    exact hN _ _ _ (by omega) q
  have hX := hX.trans hA4 (fun _ _ _ q => Or.inl (q))
  rw [← hA4 9 0 0 (Or.inl hS)]
  refine p_X9_15 dX9_init_19 rfl (hz.kO (Or.inl (Or.inl hS)) (by decide)) rfl ?_
  refine i_fg (hz.setR (f := 577) (by decide) (Or.inl (Or.inl hS)) (Or.inr ⟨rfl, rfl, rfl⟩) (rt_a (f := 577) rfl rfl rfl)) (fun h hz => ?_)
  refine w_aload_n 0 dX9_init_22 rfl rfl rfl ?_
  refine w_sipush 1501 dX9_init_23 rfl rfl ?_
  refine w_newJ (n := 1501) hrm dX9_init_26 rfl a_long (by decide) rfl (by decide) (Nat.le_of_ble_eq_true rfl) (Nat.le_of_ble_eq_true rfl) (fun q hq => ?_)
  refine i_addA hz hq (f0 := 578) (p0 := 0) (s0 := 0) rfl (by decide) rfl ?_ (hZ _ _ _ (by omega)) (fun A8 h hA7 hz => ?_)
  · intro q
    rcases q with q | q
    rotate_left
    · omega
    rcases q with q | q
    rotate_left
    · omega
    exact hN _ _ _ (by omega) q
  have hX := hX.trans hA7 (fun _ _ _ q => Or.inl (Or.inl (q)))
  rw [← hA7 9 0 0 (Or.inl (Or.inl hS))]
  refine p_X9_18 dX9_init_28 rfl (hz.kO (Or.inl (Or.inl (Or.inl hS))) (by decide)) rfl ?_
  refine i_fg (hz.setR (f := 578) (by decide) (Or.inl (Or.inl (Or.inl hS))) (Or.inr ⟨rfl, rfl, rfl⟩) (rt_a (f := 578) rfl rfl rfl)) (fun h hz => ?_)
  refine w_aload_n 0 dX9_init_31 rfl rfl rfl ?_
  refine w_bipush 32 dX9_init_32 rfl rfl ?_
  refine w_newJ (n := 32) hrm dX9_init_34 rfl a_long (by decide) rfl (by decide) (Nat.le_of_ble_eq_true rfl) (Nat.le_of_ble_eq_true rfl) (fun q hq => ?_)
  refine i_addA hz hq (f0 := 579) (p0 := 0) (s0 := 0) rfl (by decide) rfl ?_ (hZ _ _ _ (by omega)) (fun A11 h hA10 hz => ?_)
  · intro q
    rcases q with q | q
    rotate_left
    · omega
    rcases q with q | q
    rotate_left
    · omega
    rcases q with q | q
    rotate_left
    · omega
    exact hN _ _ _ (by omega) q
  have hX := hX.trans hA10 (fun _ _ _ q => Or.inl (Or.inl (Or.inl (q))))
  rw [← hA10 9 0 0 (Or.inl (Or.inl (Or.inl hS)))]
  refine p_X9_22 dX9_init_36 rfl (hz.kO (Or.inl (Or.inl (Or.inl (Or.inl hS)))) (by decide)) rfl ?_
  refine i_fg (hz.setR (f := 579) (by decide) (Or.inl (Or.inl (Or.inl (Or.inl hS)))) (Or.inr ⟨rfl, rfl, rfl⟩) (rt_a (f := 579) rfl rfl rfl)) (fun h hz => ?_)
  refine w_iconst 0 dX9_init_39 rfl rfl ?_
  refine w_istore_n [(1, .int 0), (0, .ref (A11 9 0 0))] dX9_init_40 rfl rfl (by decide) rfl ?_
  refine w_iconst 0 dX9_init_41 rfl rfl ?_
  refine w_istore_n [(2, .int 0), (1, .int 0), (0, .ref (A11 9 0 0))] dX9_init_42 rfl rfl (by decide) rfl ?_
  rw [← kZ_0 (c := 1603) (z := z) (fun i => ((hZ 1603 0 0 (by omega)).2 i).2)] at hz
  refine l_X9_init (Or.inl (Or.inl (Or.inl (Or.inl hS)))) (Or.inr ⟨rfl, rfl, rfl⟩) (Or.inr ⟨rfl, rfl, rfl⟩) hrm (by decide) (Nat.le_of_ble_eq_true rfl) (Nat.le_of_ble_eq_true rfl) (fun h hz => ?_) _ 0 0 _ h rfl (by decide) (by decide) rfl hz
  refine w_vret hf dX9_init_104 rfl (Nat.le_of_ble_eq_true rfl) (Nat.le_of_ble_eq_true rfl) ?_
  refine ⟨rfl, _, hX, hz.congr (fun c p9 s9 => ?_) (fun c p9 s9 q => ?_) (fun c p9 s9 q => ?_)⟩
  · simp only [Sa, Su, GTok, or_assoc]
  · simpa only [Sa, Su, FGTok, or_assoc] using q
  · exact q

