/-! CONSTRUCTORS THAT READ TEXTS; the desk's own -/
def kZ (c : Nat) (z : Zs) (g : Nat → Int64) : Zs := (zI z, fun c' p s j => if c' = c ∧ p = 0 ∧ s = 0 then g j else zJ z c' p s j, zR z)
theorem kZ_0 {c : Nat} {z : Zs} (h : ∀ i, zJ z c 0 0 i = 0) : kZ c z (fun _ => 0) = z := by
  refine Prod.ext rfl (Prod.ext ?_ rfl)
  funext c' p s j
  show (if c' = c ∧ p = 0 ∧ s = 0 then (0 : Int64) else zJ z c' p s j) = z.2.1 c' p s j
  by_cases q : c' = c ∧ p = 0 ∧ s = 0
  · rw [if_pos q, q.1, q.2.1, q.2.2]
    exact (h j).symm
  · rw [if_neg q]
    rfl
theorem kZ_s {c : Nat} {z : Zs} {g : Nat → Int64} {i : Nat} {v : Int64} : sJ (kZ c z g) c 0 0 i v = kZ c z (fun j => if j = i then v else g j) := by
  refine Prod.ext rfl (Prod.ext ?_ rfl)
  funext c' p s j
  show (if c' = c ∧ p = 0 ∧ s = 0 ∧ j = i then v else if c' = c ∧ p = 0 ∧ s = 0 then g j else zJ z c' p s j) = if c' = c ∧ p = 0 ∧ s = 0 then (if j = i then v else g j) else zJ z c' p s j
  by_cases q : c' = c ∧ p = 0 ∧ s = 0
  · obtain ⟨rfl, rfl, rfl⟩ := q
    by_cases q2 : j = i <;> simp [q2]
  · rw [if_neg (fun t => q ⟨t.1, t.2.1, t.2.2.1⟩), if_neg q, if_neg q]
theorem Zr.sR {z : Zs} {c p s f p0 s0 i0 : Nat} {v : Nat × Nat} (h : Zr z c p s) : Zr (sR z f p0 s0 i0 v) c p s := h
theorem Zr.sI {z : Zs} {c p s f p0 s0 i0 : Nat} {v : Int32} (h : Zr z c p s) (h1 : f ≠ c) (h2 : f / 64 ≠ c) : Zr (sI z f p0 s0 i0 v) c p s :=
  ⟨fun f' hf => ⟨by rw [zI_sI, if_neg (fun q => h2 (by rw [← q.1]; exact hf))]; exact (h.1 f' hf).1, (h.1 f' hf).2⟩, fun i => ⟨by rw [zI_sI, if_neg (fun q => h1 q.1.symm)]; exact (h.2 i).1, (h.2 i).2⟩⟩
theorem kZ_g {c : Nat} {z : Zs} {g : Nat → Int64} {i : Nat} : zJ (kZ c z g) c 0 0 i = g i := if_pos ⟨rfl, rfl, rfl⟩
def kwC (s : Nat × (Nat → Int64)) (c : Int32) : Nat × (Nat → Int64) := if c = 32 then (s.1 + 1, s.2) else if s.1 < 32 then (s.1, fun j => if j = s.1 then ((s.2 s.1 <<< ((8 : Int32).toInt64 &&& 63)) ||| c.toInt64) else s.2 j) else s
def kwF : List Int32 → Nat × (Nat → Int64) → Nat × (Nat → Int64)
  | [], s => s
  | b :: l, s => kwF l (kwC s (b &&& 255))
/-- the class's key words -/
def kwG : Nat → Int64 := (kwF (tx_b 0) (0, fun _ => 0)).2
def kmW : List Int32 → Int64 → Int64
  | [], v => v
  | b :: l, v => kmW l ((v <<< ((8 : Int32).toInt64 &&& 63)) ||| (b &&& 255).toInt64)
def kmF : List Nat := [0, 7, 13, 18, 23, 29, 34, 39, 44, 50, 55, 58, 65, 71, 74, 81, 87, 92, 98, 103, 108, 113, 118, 122, 128, 134, 139, 144, 149, 153, 156, 160, 164]
def kmE : List Nat := [6, 12, 17, 22, 28, 33, 38, 43, 49, 54, 57, 64, 70, 73, 80, 86, 91, 97, 102, 107, 112, 117, 121, 127, 133, 138, 143, 148, 152, 155, 159, 163]
/-- the law's key words -/
def kmG (j : Nat) : Int64 := if j < 32 then kmW (((tx_b 2).drop (kmF.getD j 0)).take (kmE.getD j 0 - kmF.getD j 0)) 0 else 0
theorem km_all : ∀ i, i < 32 → (tx_ixf 2 32 (nI (kmF.getD i 0)) = nI (kmE.getD i 0) ∧ kmE.getD i 0 + 1 = kmF.getD (i + 1) 0 ∧ kmF.getD i 0 ≤ kmE.getD i 0 ∧ kmE.getD i 0 < 164) := by decide +kernel
theorem kw_same : ∀ i, i < 32 → kwG i = kmG i := by decide +kernel
section K20
variable {x : Cxt} {A : Nat → Nat → Nat → Nat} {S F E : C3} {z : Zs} {kc ks dd Mc Ms : Nat}
set_option maxHeartbeats 4000000 in
theorem l_X9_init (hS : S 9 0 0) (hSa : S 1603 0 0) (hF : F 579 0 0) (hrm : m_rm dd Mc Ms x) (hdd : 10 ≤ dd) (hmc : kc ≤ Mc) (hms : ks ≤ Ms) (kk : ∀ h, Pl A S F E h (kZ 1603 z kwG) → wp x mX9_init 104 [(0, .ref (A 9 0 0))] [] h kc ks) : ∀ (l : List Int32) (k w : Nat) (g : Nat → Int64) (h : Hp), (tx_b 0).drop k = l → k ≤ 163 → w ≤ k → kwF l (w, g) = kwF (tx_b 0) (0, fun _ => 0) → Pl A S F E h (kZ 1603 z g) → wp x mX9_init 43 [(2, .int (nI k)), (1, .int (nI w)), (0, .ref (A 9 0 0))] [] h kc ks := by
  obtain ⟨hl, hL, hb⟩ := tx_all 0 (by decide)
  have h163 : (tx_b 0).length = 163 := by rw [← hl]; rfl
  intro l
  induction l with
  | nil =>
    intro k w g h e hk hw hg hz
    have q : (tx_b 0).length ≤ k := List.drop_eq_nil_iff.mp e
    refine w_iload_n 0 dX9_init_43 rfl rfl rfl ?_
    refine w_ldcS (tx := m_kw) 0 dX9_init_44 rfl (fun e => e.1) ?_
    refine w_tx_len 0 hrm hdd dX9_init_46 rfl ml_X9_27 (by decide) (Nat.le_of_ble_eq_true rfl) hmc hms ?_
    refine w_icmp_ge 104 dX9_init_49 rfl rfl (fun _ => ?_) (fun t => absurd (show nI 163 ≤ nI k from nI_le (by omega) (by omega)) t)
    refine w_lv [(0, .ref (A 9 0 0))] [2] rfl ?_
    refine kk h ?_
    have e2 : g = kwG := congrArg Prod.snd hg
    rw [← e2]
    exact hz
  | cons b l ih =>
    intro k w g h e hk hw hg hz
    obtain ⟨h1, h2, h3, h4⟩ := sc_dropC e
    have hwi : w < 2 ^ 31 := by omega
    refine w_iload_n 0 dX9_init_43 rfl rfl rfl ?_
    refine w_ldcS (tx := m_kw) 0 dX9_init_44 rfl (fun e => e.1) ?_
    refine w_tx_len 0 hrm hdd dX9_init_46 rfl ml_X9_27 (by decide) (Nat.le_of_ble_eq_true rfl) hmc hms ?_
    refine w_icmp_ge 104 dX9_init_49 rfl rfl (fun t => absurd (show nI 163 ≤ nI k from t) (nI_ge (by omega) (by omega))) (fun _ => ?_)
    refine w_ldcS (tx := m_kw) 0 dX9_init_52 rfl (fun e => e.1) ?_
    refine w_iload_n 0 dX9_init_54 rfl rfl rfl ?_
    refine w_tx_at 0 hrm hdd dX9_init_55 rfl ml_X9_33 (by decide) (gi_nI (n := 163) (by omega) (by decide)) (Nat.le_of_ble_eq_true rfl) hmc hms ?_
    rw [show tx_at 0 (nI k) = b &&& 255 by rw [tx_at, nI_clamp (by omega), h2]]
    refine w_istore_n [(3, .int (b &&& 255)), (2, .int (nI k)), (1, .int (nI w)), (0, .ref (A 9 0 0))] dX9_init_58 rfl rfl (by decide) rfl ?_
    refine w_iload_n 0 dX9_init_59 rfl rfl rfl ?_
    refine w_bipush 32 dX9_init_60 rfl rfl ?_
    have tail : ∀ (w2 : Nat) (g2 : Nat → Int64) (h2 : Hp), w2 ≤ k + 1 → kwF l (w2, g2) = kwF (tx_b 0) (0, fun _ => 0) → Pl A S F E h2 (kZ 1603 z g2) → wp x mX9_init 98 [(2, .int (nI k)), (1, .int (nI w2)), (0, .ref (A 9 0 0))] [] h2 kc ks := by
      intro w2 g2 h2 q1 q2 q3
      refine w_iinc 0 (nI (k + 1)) [(2, .int (nI (k + 1))), (1, .int (nI w2)), (0, .ref (A 9 0 0))] dX9_init_98 rfl rfl (nI_1 k) (by decide) rfl ?_
      refine w_goto 43 dX9_init_101 rfl ?_
      exact ih (k + 1) w2 g2 h2 h3 (by omega) q1 q2 q3
    have hg2 : kwF l (kwC (w, g) (b &&& 255)) = kwF (tx_b 0) (0, fun _ => 0) := hg
    refine w_icmp_ne 71 dX9_init_62 rfl rfl (fun t => ?_) (fun t => ?_)
    · rw [kwC, if_neg t] at hg2
      refine w_iload_n 2 dX9_init_71 rfl rfl rfl ?_
      refine w_aload_n 3 dX9_init_72 rfl rfl rfl ?_
      refine g_X9_22 dX9_init_73 rfl (hz.kO hS (by decide)) (hz.rA (f := 579) hF rfl) ?_
      refine w_alen 1 dX9_init_76 rfl (by decide) (by decide) (fun _ => rfl) (hz.kA (f := 579) hSa rfl) (v := nI 32) (by rw [hz.nA (f := 579) hSa rfl]; rfl) ?_
      refine w_icmp_ge 98 dX9_init_77 rfl rfl (fun t2 => ?_) (fun t2 => ?_)
      · have hw32 : 32 ≤ w := b_le (by omega) hwi t2
        rw [if_neg (by show ¬ w < 32; omega)] at hg2
        refine w_lv [(2, .int (nI k)), (1, .int (nI w)), (0, .ref (A 9 0 0))] [1, 2, 3] rfl ?_
        exact tail w g h (by omega) hg2 hz
      · have hw32 : w < 32 := b_nle (by omega) hwi t2
        rw [if_pos (show (w, g).1 < 32 from hw32)] at hg2
        refine w_aload_n 3 dX9_init_80 rfl rfl rfl ?_
        refine g_X9_22 dX9_init_81 rfl (hz.kO hS (by decide)) (hz.rA (f := 579) hF rfl) ?_
        refine w_iload_n 2 dX9_init_84 rfl rfl rfl ?_
        refine w_aload_n 3 dX9_init_85 rfl rfl rfl ?_
        refine g_X9_22 dX9_init_86 rfl (hz.kO hS (by decide)) (hz.rA (f := 579) hF rfl) ?_
        refine w_iload_n 2 dX9_init_89 rfl rfl rfl ?_
        refine w_lald dX9_init_90 rfl (hz.kA (f := 579) hSa rfl) (gin (hz.nA (f := 579) hSa rfl) (gi_nI hw32 (by decide))) (v := g w) (by rw [i_cl hwi]; exact ((hz.1.2.2.2.2.2 579 0 0 w hSa).2).trans kZ_g) ?_
        refine w_bipush 8 dX9_init_91 rfl rfl ?_
        refine w_lshl dX9_init_93 rfl ?_
        refine w_iload_n 0 dX9_init_94 rfl rfl rfl ?_
        refine w_i2l dX9_init_95 rfl ?_
        refine w_lor dX9_init_96 rfl ?_
        refine w_last dX9_init_97 rfl (hz.kA (f := 579) hSa rfl) (gin (hz.nA (f := 579) hSa rfl) (gi_nI hw32 (by decide))) ?_
        rw [i_cl hwi]
        have hz2 := hz.setY (f := 579) (j := w) (v := (g w <<< ((8 : Int32).toInt64 &&& 63)) ||| (b &&& 255).toInt64) hSa
        rw [show 1024 + 579 = 1603 from rfl, kZ_s] at hz2
        refine w_lv [(2, .int (nI k)), (1, .int (nI w)), (0, .ref (A 9 0 0))] [1, 2, 3] rfl ?_
        exact tail w _ _ (by omega) hg2 hz2
    · rw [kwC, if_pos t] at hg2
      refine w_iinc 2 (nI (w + 1)) [(1, .int (nI (w + 1))), (3, .int (b &&& 255)), (2, .int (nI k)), (0, .ref (A 9 0 0))] dX9_init_65 rfl rfl (nI_1 w) (by decide) rfl ?_
      refine w_goto 98 dX9_init_68 rfl ?_
      refine w_lv [(2, .int (nI k)), (1, .int (nI (w + 1))), (0, .ref (A 9 0 0))] [2, 0, 3] rfl ?_
      exact tail (w + 1) g h (by omega) hg2 hz
set_option maxHeartbeats 4000000 in
theorem l_X14_in (hS : S 14 0 0) (hSa : S 1921 0 0) (hF : F 897 0 0) (hrm : m_rm dd Mc Ms x) (hdd : 10 ≤ dd) (hmc : kc ≤ Mc) (hms : ks ≤ Ms) {i e f : Nat} (hi : i < 32) (he : e < 164) {g : Nat → Int64} {vE : Int64} (kk : ∀ h, Pl A S F E h (kZ 1921 z (fun j => if j = i then vE else g j)) → wp x mX14_init 406 [(4, .int (nI e)), (3, .int (nI e)), (2, .int (nI i)), (1, .int (nI f)), (0, .ref (A 14 0 0))] [] h kc ks) : ∀ (n k : Nat) (v : Int64) (h : Hp), k + n = e → kmW (((tx_b 2).drop k).take n) v = vE → Pl A S F E h (kZ 1921 z (fun j => if j = i then v else g j)) → wp x mX14_init 370 [(4, .int (nI k)), (3, .int (nI e)), (2, .int (nI i)), (1, .int (nI f)), (0, .ref (A 14 0 0))] [] h kc ks := by
  obtain ⟨hl, hL, hb⟩ := tx_all 2 (by decide)
  have h164 : (tx_b 2).length = 164 := by rw [← hl]; rfl
  have hii : i < 2 ^ 31 := by omega
  intro n
  induction n with
  | zero =>
    intro k v h q1 q2 hz
    obtain rfl : k = e := q1
    have q3 : v = vE := q2
    subst q3
    refine w_iload 0 dX14_init_370 rfl rfl ?_
    refine w_iload_n 1 dX14_init_372 rfl rfl rfl ?_
    refine w_icmp_ge 406 dX14_init_373 rfl rfl (fun _ => kk h hz) (fun t => absurd (Int32.le_refl _) t)
  | succ n ih =>
    intro k v h q1 q2 hz
    have hk : k < 164 := by omega
    have hdr : (tx_b 2).drop k = (tx_b 2).getD k 0 :: (tx_b 2).drop (k + 1) := by
      rw [List.drop_eq_getElem_cons (by omega), List.getD_eq_getElem?_getD, List.getElem?_eq_getElem (by omega)]
      rfl
    rw [hdr] at q2
    refine w_iload 0 dX14_init_370 rfl rfl ?_
    refine w_iload_n 1 dX14_init_372 rfl rfl rfl ?_
    refine w_icmp_ge 406 dX14_init_373 rfl rfl (fun t => absurd t (nI_ge (by omega) (by omega))) (fun _ => ?_)
    refine w_aload_n 4 dX14_init_376 rfl rfl rfl ?_
    refine g_X14_9 dX14_init_377 rfl (hz.kO hS (by decide)) (hz.rA (f := 897) hF rfl) ?_
    refine w_iload_n 2 dX14_init_380 rfl rfl rfl ?_
    refine w_aload_n 4 dX14_init_381 rfl rfl rfl ?_
    refine g_X14_9 dX14_init_382 rfl (hz.kO hS (by decide)) (hz.rA (f := 897) hF rfl) ?_
    refine w_iload_n 2 dX14_init_385 rfl rfl rfl ?_
    refine w_lald dX14_init_386 rfl (hz.kA (f := 897) hSa rfl) (gin (hz.nA (f := 897) hSa rfl) (gi_nI hi (by decide))) (v := v) (by rw [i_cl hii]; exact (((hz.1.2.2.2.2.2 897 0 0 i hSa).2).trans kZ_g).trans (if_pos rfl)) ?_
    refine w_bipush 8 dX14_init_387 rfl rfl ?_
    refine w_lshl dX14_init_389 rfl ?_
    refine w_ldcS (tx := m_kw2) 2 dX14_init_390 rfl (fun e => e.2.2.1) ?_
    refine w_iload 0 dX14_init_392 rfl rfl ?_
    refine w_tx_at 2 hrm hdd dX14_init_394 rfl ml_X14_145 (by decide) (gi_nI (n := 164) (by omega) (by decide)) (Nat.le_of_ble_eq_true rfl) hmc hms ?_
    rw [show tx_at 2 (nI k) = (tx_b 2).getD k 0 &&& 255 by rw [tx_at, nI_clamp (by omega)]]
    refine w_i2l dX14_init_397 rfl ?_
    refine w_lor dX14_init_398 rfl ?_
    refine w_last dX14_init_399 rfl (hz.kA (f := 897) hSa rfl) (gin (hz.nA (f := 897) hSa rfl) (gi_nI hi (by decide))) ?_
    rw [i_cl hii]
    have hz2 := hz.setY (f := 897) (j := i) (v := (v <<< ((8 : Int32).toInt64 &&& 63)) ||| ((tx_b 2).getD k 0 &&& 255).toInt64) hSa
    rw [show 1024 + 897 = 1921 from rfl, kZ_s] at hz2
    rw [show (fun j => if j = i then (v <<< ((8 : Int32).toInt64 &&& 63)) ||| ((tx_b 2).getD k 0 &&& 255).toInt64 else if j = i then v else g j) = (fun j => if j = i then (v <<< ((8 : Int32).toInt64 &&& 63)) ||| ((tx_b 2).getD k 0 &&& 255).toInt64 else g j) from funext (fun j => by by_cases q : j = i <;> simp [q])] at hz2
    refine w_iinc 0 (nI (k + 1)) [(4, .int (nI (k + 1))), (3, .int (nI e)), (2, .int (nI i)), (1, .int (nI f)), (0, .ref (A 14 0 0))] dX14_init_400 rfl rfl (nI_1 k) (by decide) rfl ?_
    refine w_goto 370 dX14_init_403 rfl ?_
    exact ih (k + 1) _ _ (by omega) q2 hz2
set_option maxHeartbeats 4000000 in
theorem l_X14_init (hS : S 14 0 0) (hSa : S 1921 0 0) (hF : F 897 0 0) (hrm : m_rm dd Mc Ms x) (hdd : 10 ≤ dd) (hmc : kc ≤ Mc) (hms : ks ≤ Ms) (kk : ∀ h, Pl A S F E h (kZ 1921 z kmG) → wp x mX14_init 416 [(0, .ref (A 14 0 0))] [] h kc ks) : ∀ (n i : Nat) (h : Hp) (lv : List (Nat × Value)), i + n = 32 → lv_pick lv [0, 1, 2] = [(2, .int (nI i)), (1, .int (nI (kmF.getD i 0))), (0, .ref (A 14 0 0))] → Pl A S F E h (kZ 1921 z (fun j => if j < i then kmG j else 0)) → wp x mX14_init 349 lv [] h kc ks := by
  intro n
  induction n with
  | zero =>
    intro i h lv q1 q2 hz
    obtain rfl : i = 32 := q1
    refine w_lv _ [0, 1, 2] q2 ?_
    refine w_iload_n 0 dX14_init_349 rfl rfl rfl ?_
    refine w_aload_n 2 dX14_init_350 rfl rfl rfl ?_
    refine g_X14_9 dX14_init_351 rfl (hz.kO hS (by decide)) (hz.rA (f := 897) hF rfl) ?_
    refine w_alen 1 dX14_init_354 rfl (by decide) (by decide) (fun _ => rfl) (hz.kA (f := 897) hSa rfl) (v := nI 32) (by rw [hz.nA (f := 897) hSa rfl]; rfl) ?_
    refine w_icmp_ge 416 dX14_init_355 rfl rfl (fun _ => ?_) (fun t => absurd (Int32.le_refl _) t)
    refine w_lv [(0, .ref (A 14 0 0))] [2] rfl ?_
    refine kk h ?_
    rw [show kmG = (fun j => if j < 32 then kmG j else 0) from funext (fun j => by by_cases q : j < 32 <;> simp [q, kmG])]
    exact hz
  | succ n ih =>
    intro i h lv q1 q2 hz
    have hi : i < 32 := by omega
    obtain ⟨a1, a2, a3, a4⟩ := km_all i hi
    refine w_lv _ [0, 1, 2] q2 ?_
    refine w_iload_n 0 dX14_init_349 rfl rfl rfl ?_
    refine w_aload_n 2 dX14_init_350 rfl rfl rfl ?_
    refine g_X14_9 dX14_init_351 rfl (hz.kO hS (by decide)) (hz.rA (f := 897) hF rfl) ?_
    refine w_alen 1 dX14_init_354 rfl (by decide) (by decide) (fun _ => rfl) (hz.kA (f := 897) hSa rfl) (v := nI 32) (by rw [hz.nA (f := 897) hSa rfl]; rfl) ?_
    refine w_icmp_ge 416 dX14_init_355 rfl rfl (fun t => absurd t (nI_ge hi (by decide))) (fun _ => ?_)
    refine w_ldcS (tx := m_kw2) 2 dX14_init_358 rfl (fun e => e.2.2.1) ?_
    refine w_bipush 32 dX14_init_360 rfl rfl ?_
    refine w_iload_n 1 dX14_init_362 rfl rfl rfl ?_
    refine w_tx_ixf 2 hrm hdd dX14_init_363 rfl ml_X14_139 (by decide) (nI_pos' (by omega)) (Nat.le_of_ble_eq_true rfl) hmc hms ?_
    rw [a1]
    refine w_istore_n [(3, .int (nI (kmE.getD i 0))), (2, .int (nI i)), (1, .int (nI (kmF.getD i 0))), (0, .ref (A 14 0 0))] dX14_init_366 rfl rfl (by decide) rfl ?_
    refine w_iload_n 2 dX14_init_367 rfl rfl rfl ?_
    refine w_istore [(4, .int (nI (kmF.getD i 0))), (3, .int (nI (kmE.getD i 0))), (2, .int (nI i)), (1, .int (nI (kmF.getD i 0))), (0, .ref (A 14 0 0))] dX14_init_368 rfl (by decide) rfl ?_
    refine l_X14_in (E := E) (z := z) hS hSa hF hrm hdd hmc hms hi a4 (g := fun j => if j < i then kmG j else 0) (vE := kmG i) (fun h hz => ?_) (kmE.getD i 0 - kmF.getD i 0) (kmF.getD i 0) 0 h (by omega) (by rw [kmG, if_pos hi]) ?_
    · refine w_iload_n 1 dX14_init_406 rfl rfl rfl ?_
      refine w_iconst 1 dX14_init_407 rfl rfl ?_
      refine w_iadd dX14_init_408 rfl ?_
      rw [show nI (kmE.getD i 0) + 1 = nI (kmF.getD (i + 1) 0) by rw [← a2]; exact nI_1 _]
      refine w_istore_n [(1, .int (nI (kmF.getD (i + 1) 0))), (4, .int (nI (kmE.getD i 0))), (3, .int (nI (kmE.getD i 0))), (2, .int (nI i)), (0, .ref (A 14 0 0))] dX14_init_409 rfl rfl (by decide) rfl ?_
      refine w_iinc 3 (nI (i + 1)) [(2, .int (nI (i + 1))), (1, .int (nI (kmF.getD (i + 1) 0))), (4, .int (nI (kmE.getD i 0))), (3, .int (nI (kmE.getD i 0))), (0, .ref (A 14 0 0))] dX14_init_410 rfl rfl (nI_1 i) (by decide) rfl ?_
      refine w_goto 349 dX14_init_413 rfl ?_
      refine w_lv [(2, .int (nI (i + 1))), (1, .int (nI (kmF.getD (i + 1) 0))), (0, .ref (A 14 0 0))] [0, 1, 4] rfl ?_
      refine ih (i + 1) h _ (by omega) rfl ?_
      rw [show (fun j => if j < i + 1 then kmG j else 0) = (fun j => if j = i then kmG i else if j < i then kmG j else 0) from funext (fun j => by
        by_cases q : j = i
        · subst q; simp
        · by_cases q3 : j < i
          · simp [q, q3, show j < i + 1 by omega]
          · simp [q, q3, show ¬ j < i + 1 by omega])]
      exact hz
    · rw [show (fun j => if j = i then (0 : Int64) else if j < i then kmG j else 0) = (fun j => if j < i then kmG j else 0) from funext (fun j => by
        by_cases q : j = i
        · subst q; simp
        · simp [q])]
      exact hz
end K20
def GTok : C3 := fun c p9 s9 => (c = 1600 ∧ p9 = 0 ∧ s9 = 0) ∨ (c = 1601 ∧ p9 = 0 ∧ s9 = 0) ∨ (c = 1602 ∧ p9 = 0 ∧ s9 = 0) ∨ (c = 1603 ∧ p9 = 0 ∧ s9 = 0)
def FGTok : C3 := fun c p9 s9 => (c = 576 ∧ p9 = 0 ∧ s9 = 0) ∨ (c = 577 ∧ p9 = 0 ∧ s9 = 0) ∨ (c = 578 ∧ p9 = 0 ∧ s9 = 0) ∨ (c = 579 ∧ p9 = 0 ∧ s9 = 0)
set_option maxRecDepth 20000 in
set_option maxHeartbeats 4000000 in
theorem s_X9_init {A : Nat → Nat → Nat → Nat} {S F E : C3} {h : Hp} {z : Zs}  (hS : S 9 0 0) (hN : ∀ c p9 s9, (1600 ≤ c ∧ c < 1664 ∧ p9 = 0 ∧ s9 = 0) → ¬ S c p9 s9) (hZ : ∀ c p9 s9, (1600 ≤ c ∧ c < 1664 ∧ p9 = 0 ∧ s9 = 0) → Zr z c p9 s9) (hz : Pl A S F E h z) : ∀ l : Launch, Sp l mX9_init 11 4 4535 [.ref (A 9 0 0)] h (fun r h1 => r = none ∧ ∃ A1, Ax A A1 S ∧ Pl A1 (Su S (GTok)) (Su F (FGTok)) E h1 (kZ 1603 z kwG)) X0 := by
  intro l
  refine Sp.of rfl rfl (lv := [(0, .ref (A 9 0 0))]) (Nat.le_of_ble_eq_true rfl) rfl (fun x hf hrm => ?_)
  have hX : Ax A A S := fun _ _ _ _ => rfl
  refine w_aload_n 0 dX9_init_0 rfl rfl rfl ?_
  refine w_objInit hrm (by decide) dX9_init_1 rfl ml_X9_3 im_objectInit co_objectInit (Nat.le_of_ble_eq_true rfl) ?_
  refine w_aload_n 0 dX9_init_4 rfl rfl rfl ?_
  refine w_sipush 1501 dX9_init_5 rfl rfl ?_
  refine w_newI (n := 1501) hrm dX9_init_8 rfl a_int (by decide) rfl (by decide) (Nat.le_of_ble_eq_true rfl) (Nat.le_of_ble_eq_true rfl) (fun q hq => ?_)
  refine i_addA hz hq (f0 := 576) (p0 := 0) (s0 := 0) rfl (by decide) rfl ?_ (hZ _ _ _ (by omega)) (fun A2 h hA1 hz => ?_)
  · intro q
    exact hN _ _ _ (by omega) q
  have hX := hX.trans hA1 (fun _ _ _ q => q)
  rw [← hA1 9 0 0 hS]
  refine p_X9_9 dX9_init_10 rfl (hz.kO (Or.inl hS) (by decide)) rfl ?_
  refine i_fg (hz.setR (f := 576) (by decide) (Or.inl hS) (Or.inr ⟨rfl, rfl, rfl⟩) (rt_a (f := 576) rfl rfl rfl)) (fun h hz => ?_)
  refine w_aload_n 0 dX9_init_13 rfl rfl rfl ?_
  refine w_sipush 1501 dX9_init_14 rfl rfl ?_
  refine w_newI (n := 1501) hrm dX9_init_17 rfl a_int (by decide) rfl (by decide) (Nat.le_of_ble_eq_true rfl) (Nat.le_of_ble_eq_true rfl) (fun q hq => ?_)
  refine i_addA hz hq (f0 := 577) (p0 := 0) (s0 := 0) rfl (by decide) rfl ?_ (hZ _ _ _ (by omega)) (fun A5 h hA4 hz => ?_)
  · intro q
    rcases q with q | q
    rotate_left
    · omega
    exact hN _ _ _ (by omega) q
  have hX := hX.trans hA4 (fun _ _ _ q => Or.inl (q))
  rw [← hA4 9 0 0 (Or.inl hS)]
  refine p_X9_15 dX9_init_19 rfl (hz.kO (Or.inl (Or.inl hS)) (by decide)) rfl ?_
  refine i_fg (hz.setR (f := 577) (by decide) (Or.inl (Or.inl hS)) (Or.inr ⟨rfl, rfl, rfl⟩) (rt_a (f := 577) rfl rfl rfl)) (fun h hz => ?_)
  refine w_aload_n 0 dX9_init_22 rfl rfl rfl ?_
  refine w_sipush 1501 dX9_init_23 rfl rfl ?_
  refine w_newJ (n := 1501) hrm dX9_init_26 rfl a_long (by decide) rfl (by decide) (Nat.le_of_ble_eq_true rfl) (Nat.le_of_ble_eq_true rfl) (fun q hq => ?_)
  refine i_addA hz hq (f0 := 578) (p0 := 0) (s0 := 0) rfl (by decide) rfl ?_ (hZ _ _ _ (by omega)) (fun A8 h hA7 hz => ?_)
  · intro q
    rcases q with q | q
    rotate_left
    · omega
    rcases q with q | q
    rotate_left
    · omega
    exact hN _ _ _ (by omega) q
  have hX := hX.trans hA7 (fun _ _ _ q => Or.inl (Or.inl (q)))
  rw [← hA7 9 0 0 (Or.inl (Or.inl hS))]
  refine p_X9_18 dX9_init_28 rfl (hz.kO (Or.inl (Or.inl (Or.inl hS))) (by decide)) rfl ?_
  refine i_fg (hz.setR (f := 578) (by decide) (Or.inl (Or.inl (Or.inl hS))) (Or.inr ⟨rfl, rfl, rfl⟩) (rt_a (f := 578) rfl rfl rfl)) (fun h hz => ?_)
  refine w_aload_n 0 dX9_init_31 rfl rfl rfl ?_
  refine w_bipush 32 dX9_init_32 rfl rfl ?_
  refine w_newJ (n := 32) hrm dX9_init_34 rfl a_long (by decide) rfl (by decide) (Nat.le_of_ble_eq_true rfl) (Nat.le_of_ble_eq_true rfl) (fun q hq => ?_)
  refine i_addA hz hq (f0 := 579) (p0 := 0) (s0 := 0) rfl (by decide) rfl ?_ (hZ _ _ _ (by omega)) (fun A11 h hA10 hz => ?_)
  · intro q
    rcases q with q | q
    rotate_left
    · omega
    rcases q with q | q
    rotate_left
    · omega
    rcases q with q | q
    rotate_left
    · omega
    exact hN _ _ _ (by omega) q
  have hX := hX.trans hA10 (fun _ _ _ q => Or.inl (Or.inl (Or.inl (q))))
  rw [← hA10 9 0 0 (Or.inl (Or.inl (Or.inl hS)))]
  refine p_X9_22 dX9_init_36 rfl (hz.kO (Or.inl (Or.inl (Or.inl (Or.inl hS)))) (by decide)) rfl ?_
  refine i_fg (hz.setR (f := 579) (by decide) (Or.inl (Or.inl (Or.inl (Or.inl hS)))) (Or.inr ⟨rfl, rfl, rfl⟩) (rt_a (f := 579) rfl rfl rfl)) (fun h hz => ?_)
  refine w_iconst 0 dX9_init_39 rfl rfl ?_
  refine w_istore_n [(1, .int 0), (0, .ref (A11 9 0 0))] dX9_init_40 rfl rfl (by decide) rfl ?_
  refine w_iconst 0 dX9_init_41 rfl rfl ?_
  refine w_istore_n [(2, .int 0), (1, .int 0), (0, .ref (A11 9 0 0))] dX9_init_42 rfl rfl (by decide) rfl ?_
  rw [← kZ_0 (c := 1603) (z := z) (fun i => ((hZ 1603 0 0 (by omega)).2 i).2)] at hz
  refine l_X9_init (Or.inl (Or.inl (Or.inl (Or.inl hS)))) (Or.inr ⟨rfl, rfl, rfl⟩) (Or.inr ⟨rfl, rfl, rfl⟩) hrm (by decide) (Nat.le_of_ble_eq_true rfl) (Nat.le_of_ble_eq_true rfl) (fun h hz => ?_) _ 0 0 _ h rfl (by decide) (by decide) rfl hz
  refine w_vret hf dX9_init_104 rfl (Nat.le_of_ble_eq_true rfl) (Nat.le_of_ble_eq_true rfl) ?_
  refine ⟨rfl, _, hX, hz.congr (fun c p9 s9 => ?_) (fun c p9 s9 q => ?_) (fun c p9 s9 q => ?_)⟩
  · simp only [Sa, Su, GTok, or_assoc]
  · simpa only [Sa, Su, FGTok, or_assoc] using q
  · exact q

def GMod : C3 := fun c p9 s9 => (c = 1921 ∧ p9 = 0 ∧ s9 = 0) ∨ (c = 12 ∧ p9 = 0 ∧ s9 = 0) ∨ GPrg 0 c p9 s9 ∨ (c = 1923 ∧ p9 = 0 ∧ s9 = 0) ∨ (c = 1926 ∧ p9 = 0 ∧ s9 = 0) ∨ (c = 1927 ∧ p9 = 0 ∧ s9 = 0) ∨ (c = 1928 ∧ p9 = 0 ∧ s9 = 0) ∨ (c = 1936 ∧ p9 = 0 ∧ s9 = 0) ∨ (c = 1937 ∧ p9 = 0 ∧ s9 = 0) ∨ (c = 1938 ∧ p9 = 0 ∧ s9 = 0) ∨ (c = 1940 ∧ p9 = 0 ∧ s9 = 0) ∨ (c = 1941 ∧ p9 = 0 ∧ s9 = 0) ∨ (c = 1942 ∧ p9 = 0 ∧ s9 = 0) ∨ (c = 1943 ∧ p9 = 0 ∧ s9 = 0) ∨ (c = 1944 ∧ p9 = 0 ∧ s9 = 0) ∨ (c = 1945 ∧ p9 = 0 ∧ s9 = 0) ∨ (c = 1946 ∧ p9 = 0 ∧ s9 = 0) ∨ (c = 1948 ∧ p9 = 0 ∧ s9 = 0) ∨ (c = 1949 ∧ p9 = 0 ∧ s9 = 0) ∨ (c = 1950 ∧ p9 = 0 ∧ s9 = 0) ∨ (c = 1951 ∧ p9 = 0 ∧ s9 = 0) ∨ (c = 1956 ∧ p9 = 0 ∧ s9 = 0) ∨ (c = 1957 ∧ p9 = 0 ∧ s9 = 0) ∨ (c = 1958 ∧ p9 = 0 ∧ s9 = 0) ∨ (c = 1959 ∧ p9 = 0 ∧ s9 = 0) ∨ (c = 1960 ∧ p9 = 0 ∧ s9 = 0) ∨ (c = 1961 ∧ p9 = 0 ∧ s9 = 0) ∨ (c = 1962 ∧ p9 = 0 ∧ s9 = 0) ∨ (c = 1963 ∧ p9 = 0 ∧ s9 = 0) ∨ (c = 1965 ∧ p9 = 0 ∧ s9 = 0) ∨ (c = 1966 ∧ p9 = 0 ∧ s9 = 0) ∨ (c = 1967 ∧ p9 = 0 ∧ s9 = 0) ∨ (c = 1968 ∧ p9 = 0 ∧ s9 = 0) ∨ (c = 1969 ∧ p9 = 0 ∧ s9 = 0) ∨ (c = 1971 ∧ p9 = 0 ∧ s9 = 0) ∨ (c = 1973 ∧ p9 = 0 ∧ s9 = 0) ∨ (c = 1975 ∧ p9 = 0 ∧ s9 = 0) ∨ (c = 1976 ∧ p9 = 0 ∧ s9 = 0) ∨ (c = 1977 ∧ p9 = 0 ∧ s9 = 0) ∨ (c = 1978 ∧ p9 = 0 ∧ s9 = 0)
def FGMod : C3 := fun c p9 s9 => (c = 897 ∧ p9 = 0 ∧ s9 = 0) ∨ FGPrg 0 c p9 s9 ∨ (c = 898 ∧ p9 = 0 ∧ s9 = 0) ∨ (c = 899 ∧ p9 = 0 ∧ s9 = 0) ∨ (c = 902 ∧ p9 = 0 ∧ s9 = 0) ∨ (c = 903 ∧ p9 = 0 ∧ s9 = 0) ∨ (c = 904 ∧ p9 = 0 ∧ s9 = 0) ∨ (c = 912 ∧ p9 = 0 ∧ s9 = 0) ∨ (c = 913 ∧ p9 = 0 ∧ s9 = 0) ∨ (c = 914 ∧ p9 = 0 ∧ s9 = 0) ∨ (c = 916 ∧ p9 = 0 ∧ s9 = 0) ∨ (c = 917 ∧ p9 = 0 ∧ s9 = 0) ∨ (c = 918 ∧ p9 = 0 ∧ s9 = 0) ∨ (c = 919 ∧ p9 = 0 ∧ s9 = 0) ∨ (c = 920 ∧ p9 = 0 ∧ s9 = 0) ∨ (c = 921 ∧ p9 = 0 ∧ s9 = 0) ∨ (c = 922 ∧ p9 = 0 ∧ s9 = 0) ∨ (c = 924 ∧ p9 = 0 ∧ s9 = 0) ∨ (c = 925 ∧ p9 = 0 ∧ s9 = 0) ∨ (c = 926 ∧ p9 = 0 ∧ s9 = 0) ∨ (c = 927 ∧ p9 = 0 ∧ s9 = 0) ∨ (c = 932 ∧ p9 = 0 ∧ s9 = 0) ∨ (c = 933 ∧ p9 = 0 ∧ s9 = 0) ∨ (c = 934 ∧ p9 = 0 ∧ s9 = 0) ∨ (c = 935 ∧ p9 = 0 ∧ s9 = 0) ∨ (c = 936 ∧ p9 = 0 ∧ s9 = 0) ∨ (c = 937 ∧ p9 = 0 ∧ s9 = 0) ∨ (c = 938 ∧ p9 = 0 ∧ s9 = 0) ∨ (c = 939 ∧ p9 = 0 ∧ s9 = 0) ∨ (c = 941 ∧ p9 = 0 ∧ s9 = 0) ∨ (c = 942 ∧ p9 = 0 ∧ s9 = 0) ∨ (c = 943 ∧ p9 = 0 ∧ s9 = 0) ∨ (c = 944 ∧ p9 = 0 ∧ s9 = 0) ∨ (c = 945 ∧ p9 = 0 ∧ s9 = 0) ∨ (c = 947 ∧ p9 = 0 ∧ s9 = 0) ∨ (c = 949 ∧ p9 = 0 ∧ s9 = 0) ∨ (c = 951 ∧ p9 = 0 ∧ s9 = 0) ∨ (c = 952 ∧ p9 = 0 ∧ s9 = 0) ∨ (c = 953 ∧ p9 = 0 ∧ s9 = 0) ∨ (c = 954 ∧ p9 = 0 ∧ s9 = 0)
set_option maxRecDepth 20000 in
set_option maxHeartbeats 4000000 in
theorem s_X14_init {A : Nat → Nat → Nat → Nat} {S F E : C3} {h : Hp} {z : Zs}  (hS : S 14 0 0) (hN : ∀ c p9 s9, ((c = 12 ∨ 1792 ≤ c ∧ c < 1856 ∨ 1920 ≤ c ∧ c < 1984) ∧ p9 = 0 ∧ s9 = 0) → ¬ S c p9 s9) (hZ : ∀ c p9 s9, ((c = 12 ∨ 1792 ≤ c ∧ c < 1856 ∨ 1920 ≤ c ∧ c < 1984) ∧ p9 = 0 ∧ s9 = 0) → Zr z c p9 s9) (hz : Pl A S F E h z) : ∀ l : Launch, Sp l mX14_init 11 56 65244 [.ref (A 14 0 0)] h (fun r h1 => r = none ∧ ∃ A1, Ax A A1 S ∧ Pl A1 (Su S (GMod)) (Su F (FGMod)) E h1 (kZ 1921 ((sI (sR z 898 0 0 0 (0, 0)) 915 0 0 0 (-1))) kmG)) X0 := by
  intro l
  refine Sp.of rfl rfl (lv := [(0, .ref (A 14 0 0))]) (Nat.le_of_ble_eq_true rfl) rfl (fun x hf hrm => ?_)
  have hX : Ax A A S := fun _ _ _ _ => rfl
  refine w_aload_n 0 dX14_init_0 rfl rfl rfl ?_
  refine w_objInit hrm (by decide) dX14_init_1 rfl ml_X14_3 im_objectInit co_objectInit (Nat.le_of_ble_eq_true rfl) ?_
  refine w_aload_n 0 dX14_init_4 rfl rfl rfl ?_
  refine w_bipush 32 dX14_init_5 rfl rfl ?_
  refine w_newJ (n := 32) hrm dX14_init_7 rfl a_long (by decide) rfl (by decide) (Nat.le_of_ble_eq_true rfl) (Nat.le_of_ble_eq_true rfl) (fun q hq => ?_)
  refine i_addA hz hq (f0 := 897) (p0 := 0) (s0 := 0) rfl (by decide) rfl ?_ (hZ _ _ _ (by omega)) (fun A2 h hA1 hz => ?_)
  · intro q
    exact hN _ _ _ (by omega) q
  have hX := hX.trans hA1 (fun _ _ _ q => q)
  rw [← hA1 14 0 0 hS]
  refine p_X14_9 dX14_init_9 rfl (hz.kO (Or.inl hS) (by decide)) rfl ?_
  refine i_fg (hz.setR (f := 897) (by decide) (Or.inl hS) (Or.inr ⟨rfl, rfl, rfl⟩) (rt_a (f := 897) rfl rfl rfl)) (fun h hz => ?_)
  refine w_aload_n 0 dX14_init_12 rfl rfl rfl ?_
  refine nw_X14_13 hrm dX14_init_13 rfl (Nat.le_of_ble_eq_true rfl) (Nat.le_of_ble_eq_true rfl) (fun q hq => ?_)
  refine i_addO hz hq (c0 := 12) (p0 := 0) (s0 := 0) (by decide) rfl ?_ (hZ _ _ _ (by omega)) (fun A5 h hA4 hz => ?_)
  · intro q
    rcases q with q | q
    rotate_left
    · omega
    exact hN _ _ _ (by omega) q
  have hX := hX.trans hA4 (fun _ _ _ q => Or.inl (q))
  rw [← hA4 14 0 0 (Or.inl hS)]
  refine w_dup dX14_init_16 rfl rfl ?_
  refine c_X14_15 (b := A5 12 0 0) (As := []) (rest := [.ref (A5 12 0 0), .ref (A5 14 0 0)]) (fun l => s_X12_init (Or.inr ⟨rfl, rfl, rfl⟩) rfl (fun c p9 s9 hc q => by
        rcases q with q | q
        rotate_left
        · omega
        rcases q with q | q
        rotate_left
        · omega
        exact hN _ _ _ (by omega) q) (fun c p9 s9 hc => hZ _ _ _ (by omega)) hz l) hrm dX14_init_17 rfl rfl (Nat.le_of_ble_eq_true rfl) (Nat.le_of_ble_eq_true rfl) (Nat.le_of_ble_eq_true rfl) rfl (Nat.le_of_ble_eq_true rfl) (fun vr h2 hq => ?_) (fun E9 h9 hq => hq.elim)
  obtain ⟨rfl, A8, hA7, hz⟩ := hq
  show wp _ _ 20 [(0, .ref (A5 14 0 0))] [.ref (A5 12 0 0), .ref (A5 14 0 0)] _ _ _
  have hX := hX.trans hA7 (fun _ _ _ q => Or.inl (Or.inl (q)))
  rw [← hA7 14 0 0 (Or.inl (Or.inl hS))]
  rw [← hA7 12 0 0 (Or.inr ⟨rfl, rfl, rfl⟩)]
  refine p_X14_16 dX14_init_20 rfl (hz.kO (Or.inl (Or.inl (Or.inl hS))) (by decide)) ?_
  refine i_fg (hz.putR (f := 898) (by decide) (Or.inl (Or.inl (Or.inl hS))) (Or.inl (Or.inr ⟨rfl, rfl, rfl⟩)) rfl rfl (fun _ _ => rfl)) (fun h hz => ?_)
  refine w_aload_n 0 dX14_init_23 rfl rfl rfl ?_
  refine w_sipush 1500 dX14_init_24 rfl rfl ?_
  refine w_newI (n := 1500) hrm dX14_init_27 rfl a_int (by decide) rfl (by decide) (Nat.le_of_ble_eq_true rfl) (Nat.le_of_ble_eq_true rfl) (fun q hq => ?_)
  refine i_addA hz hq (f0 := 899) (p0 := 0) (s0 := 0) rfl (by decide) rfl ?_ (Zr.sR (hZ _ _ _ (by omega))) (fun A10 h hA9 hz => ?_)
  · intro q
    rcases q with q | q
    rotate_left
    · simp only [GPrg] at q; omega
    rcases q with q | q
    rotate_left
    · omega
    rcases q with q | q
    rotate_left
    · omega
    exact hN _ _ _ (by omega) q
  have hX := hX.trans hA9 (fun _ _ _ q => Or.inl (Or.inl (Or.inl (q))))
  rw [← hA9 14 0 0 (Or.inl (Or.inl (Or.inl hS)))]
  refine p_X14_20 dX14_init_29 rfl (hz.kO (Or.inl (Or.inl (Or.inl (Or.inl hS)))) (by decide)) rfl ?_
  refine i_fg (hz.setR (f := 899) (by decide) (Or.inl (Or.inl (Or.inl (Or.inl hS)))) (Or.inr ⟨rfl, rfl, rfl⟩) (rt_a (f := 899) rfl rfl rfl)) (fun h hz => ?_)
  refine w_aload_n 0 dX14_init_32 rfl rfl rfl ?_
  refine w_sipush 1501 dX14_init_33 rfl rfl ?_
  refine w_newI (n := 1501) hrm dX14_init_36 rfl a_int (by decide) rfl (by decide) (Nat.le_of_ble_eq_true rfl) (Nat.le_of_ble_eq_true rfl) (fun q hq => ?_)
  refine i_addA hz hq (f0 := 902) (p0 := 0) (s0 := 0) rfl (by decide) rfl ?_ (Zr.sR (hZ _ _ _ (by omega))) (fun A13 h hA12 hz => ?_)
  · intro q
    rcases q with q | q
    rotate_left
    · omega
    rcases q with q | q
    rotate_left
    · simp only [GPrg] at q; omega
    rcases q with q | q
    rotate_left
    · omega
    rcases q with q | q
    rotate_left
    · omega
    exact hN _ _ _ (by omega) q
  have hX := hX.trans hA12 (fun _ _ _ q => Or.inl (Or.inl (Or.inl (Or.inl (q)))))
  rw [← hA12 14 0 0 (Or.inl (Or.inl (Or.inl (Or.inl hS))))]
  refine p_X14_24 dX14_init_38 rfl (hz.kO (Or.inl (Or.inl (Or.inl (Or.inl (Or.inl hS))))) (by decide)) rfl ?_
  refine i_fg (hz.setR (f := 902) (by decide) (Or.inl (Or.inl (Or.inl (Or.inl (Or.inl hS))))) (Or.inr ⟨rfl, rfl, rfl⟩) (rt_a (f := 902) rfl rfl rfl)) (fun h hz => ?_)
  refine w_aload_n 0 dX14_init_41 rfl rfl rfl ?_
  refine w_sipush 1501 dX14_init_42 rfl rfl ?_
  refine w_newI (n := 1501) hrm dX14_init_45 rfl a_int (by decide) rfl (by decide) (Nat.le_of_ble_eq_true rfl) (Nat.le_of_ble_eq_true rfl) (fun q hq => ?_)
  refine i_addA hz hq (f0 := 903) (p0 := 0) (s0 := 0) rfl (by decide) rfl ?_ (Zr.sR (hZ _ _ _ (by omega))) (fun A16 h hA15 hz => ?_)
  · intro q
    rcases q with q | q
    rotate_left
    · omega
    rcases q with q | q
    rotate_left
    · omega
    rcases q with q | q
    rotate_left
    · simp only [GPrg] at q; omega
    rcases q with q | q
    rotate_left
    · omega
    rcases q with q | q
    rotate_left
    · omega
    exact hN _ _ _ (by omega) q
  have hX := hX.trans hA15 (fun _ _ _ q => Or.inl (Or.inl (Or.inl (Or.inl (Or.inl (q))))))
  rw [← hA15 14 0 0 (Or.inl (Or.inl (Or.inl (Or.inl (Or.inl hS)))))]
  refine p_X14_27 dX14_init_47 rfl (hz.kO (Or.inl (Or.inl (Or.inl (Or.inl (Or.inl (Or.inl hS)))))) (by decide)) rfl ?_
  refine i_fg (hz.setR (f := 903) (by decide) (Or.inl (Or.inl (Or.inl (Or.inl (Or.inl (Or.inl hS)))))) (Or.inr ⟨rfl, rfl, rfl⟩) (rt_a (f := 903) rfl rfl rfl)) (fun h hz => ?_)
  refine w_aload_n 0 dX14_init_50 rfl rfl rfl ?_
  refine w_sipush 1501 dX14_init_51 rfl rfl ?_
  refine w_newJ (n := 1501) hrm dX14_init_54 rfl a_long (by decide) rfl (by decide) (Nat.le_of_ble_eq_true rfl) (Nat.le_of_ble_eq_true rfl) (fun q hq => ?_)
  refine i_addA hz hq (f0 := 904) (p0 := 0) (s0 := 0) rfl (by decide) rfl ?_ (Zr.sR (hZ _ _ _ (by omega))) (fun A19 h hA18 hz => ?_)
  · intro q
    rcases q with q | q
    rotate_left
    · omega
    rcases q with q | q
    rotate_left
    · omega
    rcases q with q | q
    rotate_left
    · omega
    rcases q with q | q
    rotate_left
    · simp only [GPrg] at q; omega
    rcases q with q | q
    rotate_left
    · omega
    rcases q with q | q
    rotate_left
    · omega
    exact hN _ _ _ (by omega) q
  have hX := hX.trans hA18 (fun _ _ _ q => Or.inl (Or.inl (Or.inl (Or.inl (Or.inl (Or.inl (q)))))))
  rw [← hA18 14 0 0 (Or.inl (Or.inl (Or.inl (Or.inl (Or.inl (Or.inl hS))))))]
  refine p_X14_30 dX14_init_56 rfl (hz.kO (Or.inl (Or.inl (Or.inl (Or.inl (Or.inl (Or.inl (Or.inl hS))))))) (by decide)) rfl ?_
  refine i_fg (hz.setR (f := 904) (by decide) (Or.inl (Or.inl (Or.inl (Or.inl (Or.inl (Or.inl (Or.inl hS))))))) (Or.inr ⟨rfl, rfl, rfl⟩) (rt_a (f := 904) rfl rfl rfl)) (fun h hz => ?_)
  refine w_aload_n 0 dX14_init_59 rfl rfl rfl ?_
  refine w_sipush 1500 dX14_init_60 rfl rfl ?_
  refine w_newJ (n := 1500) hrm dX14_init_63 rfl a_long (by decide) rfl (by decide) (Nat.le_of_ble_eq_true rfl) (Nat.le_of_ble_eq_true rfl) (fun q hq => ?_)
  refine i_addA hz hq (f0 := 912) (p0 := 0) (s0 := 0) rfl (by decide) rfl ?_ (Zr.sR (hZ _ _ _ (by omega))) (fun A22 h hA21 hz => ?_)
  · intro q
    rcases q with q | q
    rotate_left
    · omega
    rcases q with q | q
    rotate_left
    · omega
    rcases q with q | q
    rotate_left
    · omega
    rcases q with q | q
    rotate_left
    · omega
    rcases q with q | q
    rotate_left
    · simp only [GPrg] at q; omega
    rcases q with q | q
    rotate_left
    · omega
    rcases q with q | q
    rotate_left
    · omega
    exact hN _ _ _ (by omega) q
  have hX := hX.trans hA21 (fun _ _ _ q => Or.inl (Or.inl (Or.inl (Or.inl (Or.inl (Or.inl (Or.inl (q))))))))
  rw [← hA21 14 0 0 (Or.inl (Or.inl (Or.inl (Or.inl (Or.inl (Or.inl (Or.inl hS)))))))]
  refine p_X14_33 dX14_init_65 rfl (hz.kO (Or.inl (Or.inl (Or.inl (Or.inl (Or.inl (Or.inl (Or.inl (Or.inl hS)))))))) (by decide)) rfl ?_
  refine i_fg (hz.setR (f := 912) (by decide) (Or.inl (Or.inl (Or.inl (Or.inl (Or.inl (Or.inl (Or.inl (Or.inl hS)))))))) (Or.inr ⟨rfl, rfl, rfl⟩) (rt_a (f := 912) rfl rfl rfl)) (fun h hz => ?_)
  refine w_aload_n 0 dX14_init_68 rfl rfl rfl ?_
  refine w_sipush 1500 dX14_init_69 rfl rfl ?_
  refine w_newI (n := 1500) hrm dX14_init_72 rfl a_int (by decide) rfl (by decide) (Nat.le_of_ble_eq_true rfl) (Nat.le_of_ble_eq_true rfl) (fun q hq => ?_)
  refine i_addA hz hq (f0 := 913) (p0 := 0) (s0 := 0) rfl (by decide) rfl ?_ (Zr.sR (hZ _ _ _ (by omega))) (fun A25 h hA24 hz => ?_)
  · intro q
    rcases q with q | q
    rotate_left
    · omega
    rcases q with q | q
    rotate_left
    · omega
    rcases q with q | q
    rotate_left
    · omega
    rcases q with q | q
    rotate_left
    · omega
    rcases q with q | q
    rotate_left
    · omega
    rcases q with q | q
    rotate_left
    · simp only [GPrg] at q; omega
    rcases q with q | q
    rotate_left
    · omega
    rcases q with q | q
    rotate_left
    · omega
    exact hN _ _ _ (by omega) q
  have hX := hX.trans hA24 (fun _ _ _ q => Or.inl (Or.inl (Or.inl (Or.inl (Or.inl (Or.inl (Or.inl (Or.inl (q)))))))))
  rw [← hA24 14 0 0 (Or.inl (Or.inl (Or.inl (Or.inl (Or.inl (Or.inl (Or.inl (Or.inl hS))))))))]
  refine p_X14_36 dX14_init_74 rfl (hz.kO (Or.inl (Or.inl (Or.inl (Or.inl (Or.inl (Or.inl (Or.inl (Or.inl (Or.inl hS))))))))) (by decide)) rfl ?_
  refine i_fg (hz.setR (f := 913) (by decide) (Or.inl (Or.inl (Or.inl (Or.inl (Or.inl (Or.inl (Or.inl (Or.inl (Or.inl hS))))))))) (Or.inr ⟨rfl, rfl, rfl⟩) (rt_a (f := 913) rfl rfl rfl)) (fun h hz => ?_)
  refine w_aload_n 0 dX14_init_77 rfl rfl rfl ?_
  refine w_sipush 1500 dX14_init_78 rfl rfl ?_
  refine w_newI (n := 1500) hrm dX14_init_81 rfl a_int (by decide) rfl (by decide) (Nat.le_of_ble_eq_true rfl) (Nat.le_of_ble_eq_true rfl) (fun q hq => ?_)
  refine i_addA hz hq (f0 := 914) (p0 := 0) (s0 := 0) rfl (by decide) rfl ?_ (Zr.sR (hZ _ _ _ (by omega))) (fun A28 h hA27 hz => ?_)
  · intro q
    rcases q with q | q
    rotate_left
    · omega
    rcases q with q | q
    rotate_left
    · omega
    rcases q with q | q
    rotate_left
    · omega
    rcases q with q | q
    rotate_left
    · omega
    rcases q with q | q
    rotate_left
    · omega
    rcases q with q | q
    rotate_left
    · omega
    rcases q with q | q
    rotate_left
    · simp only [GPrg] at q; omega
    rcases q with q | q
    rotate_left
    · omega
    rcases q with q | q
    rotate_left
    · omega
    exact hN _ _ _ (by omega) q
  have hX := hX.trans hA27 (fun _ _ _ q => Or.inl (Or.inl (Or.inl (Or.inl (Or.inl (Or.inl (Or.inl (Or.inl (Or.inl (q))))))))))
  rw [← hA27 14 0 0 (Or.inl (Or.inl (Or.inl (Or.inl (Or.inl (Or.inl (Or.inl (Or.inl (Or.inl hS)))))))))]
  refine p_X14_39 dX14_init_83 rfl (hz.kO (Or.inl (Or.inl (Or.inl (Or.inl (Or.inl (Or.inl (Or.inl (Or.inl (Or.inl (Or.inl hS)))))))))) (by decide)) rfl ?_
  refine i_fg (hz.setR (f := 914) (by decide) (Or.inl (Or.inl (Or.inl (Or.inl (Or.inl (Or.inl (Or.inl (Or.inl (Or.inl (Or.inl hS)))))))))) (Or.inr ⟨rfl, rfl, rfl⟩) (rt_a (f := 914) rfl rfl rfl)) (fun h hz => ?_)
  refine w_aload_n 0 dX14_init_86 rfl rfl rfl ?_
  refine w_iconst (-1) dX14_init_87 rfl rfl ?_
  refine p_X14_42 dX14_init_88 rfl (hz.kO (Or.inl (Or.inl (Or.inl (Or.inl (Or.inl (Or.inl (Or.inl (Or.inl (Or.inl (Or.inl hS)))))))))) (by decide)) ?_
  refine i_fg (hz.setI (f := 915) (v := (-1)) (by decide) (Or.inl (Or.inl (Or.inl (Or.inl (Or.inl (Or.inl (Or.inl (Or.inl (Or.inl (Or.inl hS))))))))))) (fun h hz => ?_)
  refine w_aload_n 0 dX14_init_91 rfl rfl rfl ?_
  refine w_sipush 16800 dX14_init_92 rfl rfl ?_
  refine w_newJ (n := 16800) hrm dX14_init_95 rfl a_long (by decide) rfl (by decide) (Nat.le_of_ble_eq_true rfl) (Nat.le_of_ble_eq_true rfl) (fun q hq => ?_)
  refine i_addA hz hq (f0 := 916) (p0 := 0) (s0 := 0) rfl (by decide) rfl ?_ (Zr.sI (Zr.sR (hZ _ _ _ (by omega))) (by decide) (by decide)) (fun A31 h hA30 hz => ?_)
  · intro q
    rcases q with q | q
    rotate_left
    · omega
    rcases q with q | q
    rotate_left
    · omega
    rcases q with q | q
    rotate_left
    · omega
    rcases q with q | q
    rotate_left
    · omega
    rcases q with q | q
    rotate_left
    · omega
    rcases q with q | q
    rotate_left
    · omega
    rcases q with q | q
    rotate_left
    · omega
    rcases q with q | q
    rotate_left
    · simp only [GPrg] at q; omega
    rcases q with q | q
    rotate_left
    · omega
    rcases q with q | q
    rotate_left
    · omega
    exact hN _ _ _ (by omega) q
  have hX := hX.trans hA30 (fun _ _ _ q => Or.inl (Or.inl (Or.inl (Or.inl (Or.inl (Or.inl (Or.inl (Or.inl (Or.inl (Or.inl (q)))))))))))
  rw [← hA30 14 0 0 (Or.inl (Or.inl (Or.inl (Or.inl (Or.inl (Or.inl (Or.inl (Or.inl (Or.inl (Or.inl hS))))))))))]
  refine p_X14_46 dX14_init_97 rfl (hz.kO (Or.inl (Or.inl (Or.inl (Or.inl (Or.inl (Or.inl (Or.inl (Or.inl (Or.inl (Or.inl (Or.inl hS))))))))))) (by decide)) rfl ?_
  refine i_fg (hz.setR (f := 916) (by decide) (Or.inl (Or.inl (Or.inl (Or.inl (Or.inl (Or.inl (Or.inl (Or.inl (Or.inl (Or.inl (Or.inl hS))))))))))) (Or.inr ⟨rfl, rfl, rfl⟩) (rt_a (f := 916) rfl rfl rfl)) (fun h hz => ?_)
  refine w_aload_n 0 dX14_init_100 rfl rfl rfl ?_
  refine w_bipush 12 dX14_init_101 rfl rfl ?_
  refine w_newI (n := 12) hrm dX14_init_103 rfl a_int (by decide) rfl (by decide) (Nat.le_of_ble_eq_true rfl) (Nat.le_of_ble_eq_true rfl) (fun q hq => ?_)
  refine i_addA hz hq (f0 := 917) (p0 := 0) (s0 := 0) rfl (by decide) rfl ?_ (Zr.sI (Zr.sR (hZ _ _ _ (by omega))) (by decide) (by decide)) (fun A34 h hA33 hz => ?_)
  · intro q
    rcases q with q | q
    rotate_left
    · omega
    rcases q with q | q
    rotate_left
    · omega
    rcases q with q | q
    rotate_left
    · omega
    rcases q with q | q
    rotate_left
    · omega
    rcases q with q | q
    rotate_left
    · omega
    rcases q with q | q
    rotate_left
    · omega
    rcases q with q | q
    rotate_left
    · omega
    rcases q with q | q
    rotate_left
    · omega
    rcases q with q | q
    rotate_left
    · simp only [GPrg] at q; omega
    rcases q with q | q
    rotate_left
    · omega
    rcases q with q | q
    rotate_left
    · omega
    exact hN _ _ _ (by omega) q
  have hX := hX.trans hA33 (fun _ _ _ q => Or.inl (Or.inl (Or.inl (Or.inl (Or.inl (Or.inl (Or.inl (Or.inl (Or.inl (Or.inl (Or.inl (q))))))))))))
  rw [← hA33 14 0 0 (Or.inl (Or.inl (Or.inl (Or.inl (Or.inl (Or.inl (Or.inl (Or.inl (Or.inl (Or.inl (Or.inl hS)))))))))))]
  refine p_X14_49 dX14_init_105 rfl (hz.kO (Or.inl (Or.inl (Or.inl (Or.inl (Or.inl (Or.inl (Or.inl (Or.inl (Or.inl (Or.inl (Or.inl (Or.inl hS)))))))))))) (by decide)) rfl ?_
  refine i_fg (hz.setR (f := 917) (by decide) (Or.inl (Or.inl (Or.inl (Or.inl (Or.inl (Or.inl (Or.inl (Or.inl (Or.inl (Or.inl (Or.inl (Or.inl hS)))))))))))) (Or.inr ⟨rfl, rfl, rfl⟩) (rt_a (f := 917) rfl rfl rfl)) (fun h hz => ?_)
  refine w_aload_n 0 dX14_init_108 rfl rfl rfl ?_
  refine w_bipush 12 dX14_init_109 rfl rfl ?_
  refine w_newI (n := 12) hrm dX14_init_111 rfl a_int (by decide) rfl (by decide) (Nat.le_of_ble_eq_true rfl) (Nat.le_of_ble_eq_true rfl) (fun q hq => ?_)
  refine i_addA hz hq (f0 := 918) (p0 := 0) (s0 := 0) rfl (by decide) rfl ?_ (Zr.sI (Zr.sR (hZ _ _ _ (by omega))) (by decide) (by decide)) (fun A37 h hA36 hz => ?_)
  · intro q
    rcases q with q | q
    rotate_left
    · omega
    rcases q with q | q
    rotate_left
    · omega
    rcases q with q | q
    rotate_left
    · omega
    rcases q with q | q
    rotate_left
    · omega
    rcases q with q | q
    rotate_left
    · omega
    rcases q with q | q
    rotate_left
    · omega
    rcases q with q | q
    rotate_left
    · omega
    rcases q with q | q
    rotate_left
    · omega
    rcases q with q | q
    rotate_left
    · omega
    rcases q with q | q
    rotate_left
    · simp only [GPrg] at q; omega
    rcases q with q | q
    rotate_left
    · omega
    rcases q with q | q
    rotate_left
    · omega
    exact hN _ _ _ (by omega) q
  have hX := hX.trans hA36 (fun _ _ _ q => Or.inl (Or.inl (Or.inl (Or.inl (Or.inl (Or.inl (Or.inl (Or.inl (Or.inl (Or.inl (Or.inl (Or.inl (q)))))))))))))
  rw [← hA36 14 0 0 (Or.inl (Or.inl (Or.inl (Or.inl (Or.inl (Or.inl (Or.inl (Or.inl (Or.inl (Or.inl (Or.inl (Or.inl hS))))))))))))]
  refine p_X14_52 dX14_init_113 rfl (hz.kO (Or.inl (Or.inl (Or.inl (Or.inl (Or.inl (Or.inl (Or.inl (Or.inl (Or.inl (Or.inl (Or.inl (Or.inl (Or.inl hS))))))))))))) (by decide)) rfl ?_
  refine i_fg (hz.setR (f := 918) (by decide) (Or.inl (Or.inl (Or.inl (Or.inl (Or.inl (Or.inl (Or.inl (Or.inl (Or.inl (Or.inl (Or.inl (Or.inl (Or.inl hS))))))))))))) (Or.inr ⟨rfl, rfl, rfl⟩) (rt_a (f := 918) rfl rfl rfl)) (fun h hz => ?_)
  refine w_aload_n 0 dX14_init_116 rfl rfl rfl ?_
  refine w_bipush 12 dX14_init_117 rfl rfl ?_
  refine w_newI (n := 12) hrm dX14_init_119 rfl a_int (by decide) rfl (by decide) (Nat.le_of_ble_eq_true rfl) (Nat.le_of_ble_eq_true rfl) (fun q hq => ?_)
  refine i_addA hz hq (f0 := 919) (p0 := 0) (s0 := 0) rfl (by decide) rfl ?_ (Zr.sI (Zr.sR (hZ _ _ _ (by omega))) (by decide) (by decide)) (fun A40 h hA39 hz => ?_)
  · intro q
    rcases q with q | q
    rotate_left
    · omega
    rcases q with q | q
    rotate_left
    · omega
    rcases q with q | q
    rotate_left
    · omega
    rcases q with q | q
    rotate_left
    · omega
    rcases q with q | q
    rotate_left
    · omega
    rcases q with q | q
    rotate_left
    · omega
    rcases q with q | q
    rotate_left
    · omega
    rcases q with q | q
    rotate_left
    · omega
    rcases q with q | q
    rotate_left
    · omega
    rcases q with q | q
    rotate_left
    · omega
    rcases q with q | q
    rotate_left
    · simp only [GPrg] at q; omega
    rcases q with q | q
    rotate_left
    · omega
    rcases q with q | q
    rotate_left
    · omega
    exact hN _ _ _ (by omega) q
  have hX := hX.trans hA39 (fun _ _ _ q => Or.inl (Or.inl (Or.inl (Or.inl (Or.inl (Or.inl (Or.inl (Or.inl (Or.inl (Or.inl (Or.inl (Or.inl (Or.inl (q))))))))))))))
  rw [← hA39 14 0 0 (Or.inl (Or.inl (Or.inl (Or.inl (Or.inl (Or.inl (Or.inl (Or.inl (Or.inl (Or.inl (Or.inl (Or.inl (Or.inl hS)))))))))))))]
  refine p_X14_55 dX14_init_121 rfl (hz.kO (Or.inl (Or.inl (Or.inl (Or.inl (Or.inl (Or.inl (Or.inl (Or.inl (Or.inl (Or.inl (Or.inl (Or.inl (Or.inl (Or.inl hS)))))))))))))) (by decide)) rfl ?_
  refine i_fg (hz.setR (f := 919) (by decide) (Or.inl (Or.inl (Or.inl (Or.inl (Or.inl (Or.inl (Or.inl (Or.inl (Or.inl (Or.inl (Or.inl (Or.inl (Or.inl (Or.inl hS)))))))))))))) (Or.inr ⟨rfl, rfl, rfl⟩) (rt_a (f := 919) rfl rfl rfl)) (fun h hz => ?_)
  refine w_aload_n 0 dX14_init_124 rfl rfl rfl ?_
  refine w_bipush 12 dX14_init_125 rfl rfl ?_
  refine w_newI (n := 12) hrm dX14_init_127 rfl a_int (by decide) rfl (by decide) (Nat.le_of_ble_eq_true rfl) (Nat.le_of_ble_eq_true rfl) (fun q hq => ?_)
  refine i_addA hz hq (f0 := 920) (p0 := 0) (s0 := 0) rfl (by decide) rfl ?_ (Zr.sI (Zr.sR (hZ _ _ _ (by omega))) (by decide) (by decide)) (fun A43 h hA42 hz => ?_)
  · intro q
    rcases q with q | q
    rotate_left
    · omega
    rcases q with q | q
    rotate_left
    · omega
    rcases q with q | q
    rotate_left
    · omega
    rcases q with q | q
    rotate_left
    · omega
    rcases q with q | q
    rotate_left
    · omega
    rcases q with q | q
    rotate_left
    · omega
    rcases q with q | q
    rotate_left
    · omega
    rcases q with q | q
    rotate_left
    · omega
    rcases q with q | q
    rotate_left
    · omega
    rcases q with q | q
    rotate_left
    · omega
    rcases q with q | q
    rotate_left
    · omega
    rcases q with q | q
    rotate_left
    · simp only [GPrg] at q; omega
    rcases q with q | q
    rotate_left
    · omega
    rcases q with q | q
    rotate_left
    · omega
    exact hN _ _ _ (by omega) q
  have hX := hX.trans hA42 (fun _ _ _ q => Or.inl (Or.inl (Or.inl (Or.inl (Or.inl (Or.inl (Or.inl (Or.inl (Or.inl (Or.inl (Or.inl (Or.inl (Or.inl (Or.inl (q)))))))))))))))
  rw [← hA42 14 0 0 (Or.inl (Or.inl (Or.inl (Or.inl (Or.inl (Or.inl (Or.inl (Or.inl (Or.inl (Or.inl (Or.inl (Or.inl (Or.inl (Or.inl hS))))))))))))))]
  refine p_X14_58 dX14_init_129 rfl (hz.kO (Or.inl (Or.inl (Or.inl (Or.inl (Or.inl (Or.inl (Or.inl (Or.inl (Or.inl (Or.inl (Or.inl (Or.inl (Or.inl (Or.inl (Or.inl hS))))))))))))))) (by decide)) rfl ?_
  refine i_fg (hz.setR (f := 920) (by decide) (Or.inl (Or.inl (Or.inl (Or.inl (Or.inl (Or.inl (Or.inl (Or.inl (Or.inl (Or.inl (Or.inl (Or.inl (Or.inl (Or.inl (Or.inl hS))))))))))))))) (Or.inr ⟨rfl, rfl, rfl⟩) (rt_a (f := 920) rfl rfl rfl)) (fun h hz => ?_)
  refine w_aload_n 0 dX14_init_132 rfl rfl rfl ?_
  refine w_sipush 4800 dX14_init_133 rfl rfl ?_
  refine w_newJ (n := 4800) hrm dX14_init_136 rfl a_long (by decide) rfl (by decide) (Nat.le_of_ble_eq_true rfl) (Nat.le_of_ble_eq_true rfl) (fun q hq => ?_)
  refine i_addA hz hq (f0 := 921) (p0 := 0) (s0 := 0) rfl (by decide) rfl ?_ (Zr.sI (Zr.sR (hZ _ _ _ (by omega))) (by decide) (by decide)) (fun A46 h hA45 hz => ?_)
  · intro q
    rcases q with q | q
    rotate_left
    · omega
    rcases q with q | q
    rotate_left
    · omega
    rcases q with q | q
    rotate_left
    · omega
    rcases q with q | q
    rotate_left
    · omega
    rcases q with q | q
    rotate_left
    · omega
    rcases q with q | q
    rotate_left
    · omega
    rcases q with q | q
    rotate_left
    · omega
    rcases q with q | q
    rotate_left
    · omega
    rcases q with q | q
    rotate_left
    · omega
    rcases q with q | q
    rotate_left
    · omega
    rcases q with q | q
    rotate_left
    · omega
    rcases q with q | q
    rotate_left
    · omega
    rcases q with q | q
    rotate_left
    · simp only [GPrg] at q; omega
    rcases q with q | q
    rotate_left
    · omega
    rcases q with q | q
    rotate_left
    · omega
    exact hN _ _ _ (by omega) q
  have hX := hX.trans hA45 (fun _ _ _ q => Or.inl (Or.inl (Or.inl (Or.inl (Or.inl (Or.inl (Or.inl (Or.inl (Or.inl (Or.inl (Or.inl (Or.inl (Or.inl (Or.inl (Or.inl (q))))))))))))))))
  rw [← hA45 14 0 0 (Or.inl (Or.inl (Or.inl (Or.inl (Or.inl (Or.inl (Or.inl (Or.inl (Or.inl (Or.inl (Or.inl (Or.inl (Or.inl (Or.inl (Or.inl hS)))))))))))))))]
  refine p_X14_61 dX14_init_138 rfl (hz.kO (Or.inl (Or.inl (Or.inl (Or.inl (Or.inl (Or.inl (Or.inl (Or.inl (Or.inl (Or.inl (Or.inl (Or.inl (Or.inl (Or.inl (Or.inl (Or.inl hS)))))))))))))))) (by decide)) rfl ?_
  refine i_fg (hz.setR (f := 921) (by decide) (Or.inl (Or.inl (Or.inl (Or.inl (Or.inl (Or.inl (Or.inl (Or.inl (Or.inl (Or.inl (Or.inl (Or.inl (Or.inl (Or.inl (Or.inl (Or.inl hS)))))))))))))))) (Or.inr ⟨rfl, rfl, rfl⟩) (rt_a (f := 921) rfl rfl rfl)) (fun h hz => ?_)
  refine w_aload_n 0 dX14_init_141 rfl rfl rfl ?_
  refine w_bipush 12 dX14_init_142 rfl rfl ?_
  refine w_newI (n := 12) hrm dX14_init_144 rfl a_int (by decide) rfl (by decide) (Nat.le_of_ble_eq_true rfl) (Nat.le_of_ble_eq_true rfl) (fun q hq => ?_)
  refine i_addA hz hq (f0 := 922) (p0 := 0) (s0 := 0) rfl (by decide) rfl ?_ (Zr.sI (Zr.sR (hZ _ _ _ (by omega))) (by decide) (by decide)) (fun A49 h hA48 hz => ?_)
  · intro q
    rcases q with q | q
    rotate_left
    · omega
    rcases q with q | q
    rotate_left
    · omega
    rcases q with q | q
    rotate_left
    · omega
    rcases q with q | q
    rotate_left
    · omega
    rcases q with q | q
    rotate_left
    · omega
    rcases q with q | q
    rotate_left
    · omega
    rcases q with q | q
    rotate_left
    · omega
    rcases q with q | q
    rotate_left
    · omega
    rcases q with q | q
    rotate_left
    · omega
    rcases q with q | q
    rotate_left
    · omega
    rcases q with q | q
    rotate_left
    · omega
    rcases q with q | q
    rotate_left
    · omega
    rcases q with q | q
    rotate_left
    · omega
    rcases q with q | q
    rotate_left
    · simp only [GPrg] at q; omega
    rcases q with q | q
    rotate_left
    · omega
    rcases q with q | q
    rotate_left
    · omega
    exact hN _ _ _ (by omega) q
  have hX := hX.trans hA48 (fun _ _ _ q => Or.inl (Or.inl (Or.inl (Or.inl (Or.inl (Or.inl (Or.inl (Or.inl (Or.inl (Or.inl (Or.inl (Or.inl (Or.inl (Or.inl (Or.inl (Or.inl (q)))))))))))))))))
  rw [← hA48 14 0 0 (Or.inl (Or.inl (Or.inl (Or.inl (Or.inl (Or.inl (Or.inl (Or.inl (Or.inl (Or.inl (Or.inl (Or.inl (Or.inl (Or.inl (Or.inl (Or.inl hS))))))))))))))))]
  refine p_X14_64 dX14_init_146 rfl (hz.kO (Or.inl (Or.inl (Or.inl (Or.inl (Or.inl (Or.inl (Or.inl (Or.inl (Or.inl (Or.inl (Or.inl (Or.inl (Or.inl (Or.inl (Or.inl (Or.inl (Or.inl hS))))))))))))))))) (by decide)) rfl ?_
  refine i_fg (hz.setR (f := 922) (by decide) (Or.inl (Or.inl (Or.inl (Or.inl (Or.inl (Or.inl (Or.inl (Or.inl (Or.inl (Or.inl (Or.inl (Or.inl (Or.inl (Or.inl (Or.inl (Or.inl (Or.inl hS))))))))))))))))) (Or.inr ⟨rfl, rfl, rfl⟩) (rt_a (f := 922) rfl rfl rfl)) (fun h hz => ?_)
  refine w_aload_n 0 dX14_init_149 rfl rfl rfl ?_
  refine w_bipush 60 dX14_init_150 rfl rfl ?_
  refine w_newI (n := 60) hrm dX14_init_152 rfl a_int (by decide) rfl (by decide) (Nat.le_of_ble_eq_true rfl) (Nat.le_of_ble_eq_true rfl) (fun q hq => ?_)
  refine i_addA hz hq (f0 := 924) (p0 := 0) (s0 := 0) rfl (by decide) rfl ?_ (Zr.sI (Zr.sR (hZ _ _ _ (by omega))) (by decide) (by decide)) (fun A52 h hA51 hz => ?_)
  · intro q
    rcases q with q | q
    rotate_left
    · omega
    rcases q with q | q
    rotate_left
    · omega
    rcases q with q | q
    rotate_left
    · omega
    rcases q with q | q
    rotate_left
    · omega
    rcases q with q | q
    rotate_left
    · omega
    rcases q with q | q
    rotate_left
    · omega
    rcases q with q | q
    rotate_left
    · omega
    rcases q with q | q
    rotate_left
    · omega
    rcases q with q | q
    rotate_left
    · omega
    rcases q with q | q
    rotate_left
    · omega
    rcases q with q | q
    rotate_left
    · omega
    rcases q with q | q
    rotate_left
    · omega
    rcases q with q | q
    rotate_left
    · omega
    rcases q with q | q
    rotate_left
    · omega
    rcases q with q | q
    rotate_left
    · simp only [GPrg] at q; omega
    rcases q with q | q
    rotate_left
    · omega
    rcases q with q | q
    rotate_left
    · omega
    exact hN _ _ _ (by omega) q
  have hX := hX.trans hA51 (fun _ _ _ q => Or.inl (Or.inl (Or.inl (Or.inl (Or.inl (Or.inl (Or.inl (Or.inl (Or.inl (Or.inl (Or.inl (Or.inl (Or.inl (Or.inl (Or.inl (Or.inl (Or.inl (q))))))))))))))))))
  rw [← hA51 14 0 0 (Or.inl (Or.inl (Or.inl (Or.inl (Or.inl (Or.inl (Or.inl (Or.inl (Or.inl (Or.inl (Or.inl (Or.inl (Or.inl (Or.inl (Or.inl (Or.inl (Or.inl hS)))))))))))))))))]
  refine p_X14_67 dX14_init_154 rfl (hz.kO (Or.inl (Or.inl (Or.inl (Or.inl (Or.inl (Or.inl (Or.inl (Or.inl (Or.inl (Or.inl (Or.inl (Or.inl (Or.inl (Or.inl (Or.inl (Or.inl (Or.inl (Or.inl hS)))))))))))))))))) (by decide)) rfl ?_
  refine i_fg (hz.setR (f := 924) (by decide) (Or.inl (Or.inl (Or.inl (Or.inl (Or.inl (Or.inl (Or.inl (Or.inl (Or.inl (Or.inl (Or.inl (Or.inl (Or.inl (Or.inl (Or.inl (Or.inl (Or.inl (Or.inl hS)))))))))))))))))) (Or.inr ⟨rfl, rfl, rfl⟩) (rt_a (f := 924) rfl rfl rfl)) (fun h hz => ?_)
  refine w_aload_n 0 dX14_init_157 rfl rfl rfl ?_
  refine w_bipush 60 dX14_init_158 rfl rfl ?_
  refine w_newI (n := 60) hrm dX14_init_160 rfl a_int (by decide) rfl (by decide) (Nat.le_of_ble_eq_true rfl) (Nat.le_of_ble_eq_true rfl) (fun q hq => ?_)
  refine i_addA hz hq (f0 := 925) (p0 := 0) (s0 := 0) rfl (by decide) rfl ?_ (Zr.sI (Zr.sR (hZ _ _ _ (by omega))) (by decide) (by decide)) (fun A55 h hA54 hz => ?_)
  · intro q
    rcases q with q | q
    rotate_left
    · omega
    rcases q with q | q
    rotate_left
    · omega
    rcases q with q | q
    rotate_left
    · omega
    rcases q with q | q
    rotate_left
    · omega
    rcases q with q | q
    rotate_left
    · omega
    rcases q with q | q
    rotate_left
    · omega
    rcases q with q | q
    rotate_left
    · omega
    rcases q with q | q
    rotate_left
    · omega
    rcases q with q | q
    rotate_left
    · omega
    rcases q with q | q
    rotate_left
    · omega
    rcases q with q | q
    rotate_left
    · omega
    rcases q with q | q
    rotate_left
    · omega
    rcases q with q | q
    rotate_left
    · omega
    rcases q with q | q
    rotate_left
    · omega
    rcases q with q | q
    rotate_left
    · omega
    rcases q with q | q
    rotate_left
    · simp only [GPrg] at q; omega
    rcases q with q | q
    rotate_left
    · omega
    rcases q with q | q
    rotate_left
    · omega
    exact hN _ _ _ (by omega) q
  have hX := hX.trans hA54 (fun _ _ _ q => Or.inl (Or.inl (Or.inl (Or.inl (Or.inl (Or.inl (Or.inl (Or.inl (Or.inl (Or.inl (Or.inl (Or.inl (Or.inl (Or.inl (Or.inl (Or.inl (Or.inl (Or.inl (q)))))))))))))))))))
  rw [← hA54 14 0 0 (Or.inl (Or.inl (Or.inl (Or.inl (Or.inl (Or.inl (Or.inl (Or.inl (Or.inl (Or.inl (Or.inl (Or.inl (Or.inl (Or.inl (Or.inl (Or.inl (Or.inl (Or.inl hS))))))))))))))))))]
  refine p_X14_70 dX14_init_162 rfl (hz.kO (Or.inl (Or.inl (Or.inl (Or.inl (Or.inl (Or.inl (Or.inl (Or.inl (Or.inl (Or.inl (Or.inl (Or.inl (Or.inl (Or.inl (Or.inl (Or.inl (Or.inl (Or.inl (Or.inl hS))))))))))))))))))) (by decide)) rfl ?_
  refine i_fg (hz.setR (f := 925) (by decide) (Or.inl (Or.inl (Or.inl (Or.inl (Or.inl (Or.inl (Or.inl (Or.inl (Or.inl (Or.inl (Or.inl (Or.inl (Or.inl (Or.inl (Or.inl (Or.inl (Or.inl (Or.inl (Or.inl hS))))))))))))))))))) (Or.inr ⟨rfl, rfl, rfl⟩) (rt_a (f := 925) rfl rfl rfl)) (fun h hz => ?_)
  refine w_aload_n 0 dX14_init_165 rfl rfl rfl ?_
  refine w_sipush 420 dX14_init_166 rfl rfl ?_
  refine w_newJ (n := 420) hrm dX14_init_169 rfl a_long (by decide) rfl (by decide) (Nat.le_of_ble_eq_true rfl) (Nat.le_of_ble_eq_true rfl) (fun q hq => ?_)
  refine i_addA hz hq (f0 := 926) (p0 := 0) (s0 := 0) rfl (by decide) rfl ?_ (Zr.sI (Zr.sR (hZ _ _ _ (by omega))) (by decide) (by decide)) (fun A58 h hA57 hz => ?_)
  · intro q
    rcases q with q | q
    rotate_left
    · omega
    rcases q with q | q
    rotate_left
    · omega
    rcases q with q | q
    rotate_left
    · omega
    rcases q with q | q
    rotate_left
    · omega
    rcases q with q | q
    rotate_left
    · omega
    rcases q with q | q
    rotate_left
    · omega
    rcases q with q | q
    rotate_left
    · omega
    rcases q with q | q
    rotate_left
    · omega
    rcases q with q | q
    rotate_left
    · omega
    rcases q with q | q
    rotate_left
    · omega
    rcases q with q | q
    rotate_left
    · omega
    rcases q with q | q
    rotate_left
    · omega
    rcases q with q | q
    rotate_left
    · omega
    rcases q with q | q
    rotate_left
    · omega
    rcases q with q | q
    rotate_left
    · omega
    rcases q with q | q
    rotate_left
    · omega
    rcases q with q | q
    rotate_left
    · simp only [GPrg] at q; omega
    rcases q with q | q
    rotate_left
    · omega
    rcases q with q | q
    rotate_left
    · omega
    exact hN _ _ _ (by omega) q
  have hX := hX.trans hA57 (fun _ _ _ q => Or.inl (Or.inl (Or.inl (Or.inl (Or.inl (Or.inl (Or.inl (Or.inl (Or.inl (Or.inl (Or.inl (Or.inl (Or.inl (Or.inl (Or.inl (Or.inl (Or.inl (Or.inl (Or.inl (q))))))))))))))))))))
  rw [← hA57 14 0 0 (Or.inl (Or.inl (Or.inl (Or.inl (Or.inl (Or.inl (Or.inl (Or.inl (Or.inl (Or.inl (Or.inl (Or.inl (Or.inl (Or.inl (Or.inl (Or.inl (Or.inl (Or.inl (Or.inl hS)))))))))))))))))))]
  refine p_X14_73 dX14_init_171 rfl (hz.kO (Or.inl (Or.inl (Or.inl (Or.inl (Or.inl (Or.inl (Or.inl (Or.inl (Or.inl (Or.inl (Or.inl (Or.inl (Or.inl (Or.inl (Or.inl (Or.inl (Or.inl (Or.inl (Or.inl (Or.inl hS)))))))))))))))))))) (by decide)) rfl ?_
  refine i_fg (hz.setR (f := 926) (by decide) (Or.inl (Or.inl (Or.inl (Or.inl (Or.inl (Or.inl (Or.inl (Or.inl (Or.inl (Or.inl (Or.inl (Or.inl (Or.inl (Or.inl (Or.inl (Or.inl (Or.inl (Or.inl (Or.inl (Or.inl hS)))))))))))))))))))) (Or.inr ⟨rfl, rfl, rfl⟩) (rt_a (f := 926) rfl rfl rfl)) (fun h hz => ?_)
  refine w_aload_n 0 dX14_init_174 rfl rfl rfl ?_
  refine w_bipush 8 dX14_init_175 rfl rfl ?_
  refine w_newI (n := 8) hrm dX14_init_177 rfl a_int (by decide) rfl (by decide) (Nat.le_of_ble_eq_true rfl) (Nat.le_of_ble_eq_true rfl) (fun q hq => ?_)
  refine i_addA hz hq (f0 := 927) (p0 := 0) (s0 := 0) rfl (by decide) rfl ?_ (Zr.sI (Zr.sR (hZ _ _ _ (by omega))) (by decide) (by decide)) (fun A61 h hA60 hz => ?_)
  · intro q
    rcases q with q | q
    rotate_left
    · omega
    rcases q with q | q
    rotate_left
    · omega
    rcases q with q | q
    rotate_left
    · omega
    rcases q with q | q
    rotate_left
    · omega
    rcases q with q | q
    rotate_left
    · omega
    rcases q with q | q
    rotate_left
    · omega
    rcases q with q | q
    rotate_left
    · omega
    rcases q with q | q
    rotate_left
    · omega
    rcases q with q | q
    rotate_left
    · omega
    rcases q with q | q
    rotate_left
    · omega
    rcases q with q | q
    rotate_left
    · omega
    rcases q with q | q
    rotate_left
    · omega
    rcases q with q | q
    rotate_left
    · omega
    rcases q with q | q
    rotate_left
    · omega
    rcases q with q | q
    rotate_left
    · omega
    rcases q with q | q
    rotate_left
    · omega
    rcases q with q | q
    rotate_left
    · omega
    rcases q with q | q
    rotate_left
    · simp only [GPrg] at q; omega
    rcases q with q | q
    rotate_left
    · omega
    rcases q with q | q
    rotate_left
    · omega
    exact hN _ _ _ (by omega) q
  have hX := hX.trans hA60 (fun _ _ _ q => Or.inl (Or.inl (Or.inl (Or.inl (Or.inl (Or.inl (Or.inl (Or.inl (Or.inl (Or.inl (Or.inl (Or.inl (Or.inl (Or.inl (Or.inl (Or.inl (Or.inl (Or.inl (Or.inl (Or.inl (q)))))))))))))))))))))
  rw [← hA60 14 0 0 (Or.inl (Or.inl (Or.inl (Or.inl (Or.inl (Or.inl (Or.inl (Or.inl (Or.inl (Or.inl (Or.inl (Or.inl (Or.inl (Or.inl (Or.inl (Or.inl (Or.inl (Or.inl (Or.inl (Or.inl hS))))))))))))))))))))]
  refine p_X14_76 dX14_init_179 rfl (hz.kO (Or.inl (Or.inl (Or.inl (Or.inl (Or.inl (Or.inl (Or.inl (Or.inl (Or.inl (Or.inl (Or.inl (Or.inl (Or.inl (Or.inl (Or.inl (Or.inl (Or.inl (Or.inl (Or.inl (Or.inl (Or.inl hS))))))))))))))))))))) (by decide)) rfl ?_
  refine i_fg (hz.setR (f := 927) (by decide) (Or.inl (Or.inl (Or.inl (Or.inl (Or.inl (Or.inl (Or.inl (Or.inl (Or.inl (Or.inl (Or.inl (Or.inl (Or.inl (Or.inl (Or.inl (Or.inl (Or.inl (Or.inl (Or.inl (Or.inl (Or.inl hS))))))))))))))))))))) (Or.inr ⟨rfl, rfl, rfl⟩) (rt_a (f := 927) rfl rfl rfl)) (fun h hz => ?_)
  refine w_aload_n 0 dX14_init_182 rfl rfl rfl ?_
  refine w_bipush 64 dX14_init_183 rfl rfl ?_
  refine w_newJ (n := 64) hrm dX14_init_185 rfl a_long (by decide) rfl (by decide) (Nat.le_of_ble_eq_true rfl) (Nat.le_of_ble_eq_true rfl) (fun q hq => ?_)
  refine i_addA hz hq (f0 := 932) (p0 := 0) (s0 := 0) rfl (by decide) rfl ?_ (Zr.sI (Zr.sR (hZ _ _ _ (by omega))) (by decide) (by decide)) (fun A64 h hA63 hz => ?_)
  · intro q
    rcases q with q | q
    rotate_left
    · omega
    rcases q with q | q
    rotate_left
    · omega
    rcases q with q | q
    rotate_left
    · omega
    rcases q with q | q
    rotate_left
    · omega
    rcases q with q | q
    rotate_left
    · omega
    rcases q with q | q
    rotate_left
    · omega
    rcases q with q | q
    rotate_left
    · omega
    rcases q with q | q
    rotate_left
    · omega
    rcases q with q | q
    rotate_left
    · omega
    rcases q with q | q
    rotate_left
    · omega
    rcases q with q | q
    rotate_left
    · omega
    rcases q with q | q
    rotate_left
    · omega
    rcases q with q | q
    rotate_left
    · omega
    rcases q with q | q
    rotate_left
    · omega
    rcases q with q | q
    rotate_left
    · omega
    rcases q with q | q
    rotate_left
    · omega
    rcases q with q | q
    rotate_left
    · omega
    rcases q with q | q
    rotate_left
    · omega
    rcases q with q | q
    rotate_left
    · simp only [GPrg] at q; omega
    rcases q with q | q
    rotate_left
    · omega
    rcases q with q | q
    rotate_left
    · omega
    exact hN _ _ _ (by omega) q
  have hX := hX.trans hA63 (fun _ _ _ q => Or.inl (Or.inl (Or.inl (Or.inl (Or.inl (Or.inl (Or.inl (Or.inl (Or.inl (Or.inl (Or.inl (Or.inl (Or.inl (Or.inl (Or.inl (Or.inl (Or.inl (Or.inl (Or.inl (Or.inl (Or.inl (q))))))))))))))))))))))
  rw [← hA63 14 0 0 (Or.inl (Or.inl (Or.inl (Or.inl (Or.inl (Or.inl (Or.inl (Or.inl (Or.inl (Or.inl (Or.inl (Or.inl (Or.inl (Or.inl (Or.inl (Or.inl (Or.inl (Or.inl (Or.inl (Or.inl (Or.inl hS)))))))))))))))))))))]
  refine p_X14_79 dX14_init_187 rfl (hz.kO (Or.inl (Or.inl (Or.inl (Or.inl (Or.inl (Or.inl (Or.inl (Or.inl (Or.inl (Or.inl (Or.inl (Or.inl (Or.inl (Or.inl (Or.inl (Or.inl (Or.inl (Or.inl (Or.inl (Or.inl (Or.inl (Or.inl hS)))))))))))))))))))))) (by decide)) rfl ?_
  refine i_fg (hz.setR (f := 932) (by decide) (Or.inl (Or.inl (Or.inl (Or.inl (Or.inl (Or.inl (Or.inl (Or.inl (Or.inl (Or.inl (Or.inl (Or.inl (Or.inl (Or.inl (Or.inl (Or.inl (Or.inl (Or.inl (Or.inl (Or.inl (Or.inl (Or.inl hS)))))))))))))))))))))) (Or.inr ⟨rfl, rfl, rfl⟩) (rt_a (f := 932) rfl rfl rfl)) (fun h hz => ?_)
  refine w_aload_n 0 dX14_init_190 rfl rfl rfl ?_
  refine w_bipush 7 dX14_init_191 rfl rfl ?_
  refine w_newJ (n := 7) hrm dX14_init_193 rfl a_long (by decide) rfl (by decide) (Nat.le_of_ble_eq_true rfl) (Nat.le_of_ble_eq_true rfl) (fun q hq => ?_)
  refine i_addA hz hq (f0 := 933) (p0 := 0) (s0 := 0) rfl (by decide) rfl ?_ (Zr.sI (Zr.sR (hZ _ _ _ (by omega))) (by decide) (by decide)) (fun A67 h hA66 hz => ?_)
  · intro q
    rcases q with q | q
    rotate_left
    · omega
    rcases q with q | q
    rotate_left
    · omega
    rcases q with q | q
    rotate_left
    · omega
    rcases q with q | q
    rotate_left
    · omega
    rcases q with q | q
    rotate_left
    · omega
    rcases q with q | q
    rotate_left
    · omega
    rcases q with q | q
    rotate_left
    · omega
    rcases q with q | q
    rotate_left
    · omega
    rcases q with q | q
    rotate_left
    · omega
    rcases q with q | q
    rotate_left
    · omega
    rcases q with q | q
    rotate_left
    · omega
    rcases q with q | q
    rotate_left
    · omega
    rcases q with q | q
    rotate_left
    · omega
    rcases q with q | q
    rotate_left
    · omega
    rcases q with q | q
    rotate_left
    · omega
    rcases q with q | q
    rotate_left
    · omega
    rcases q with q | q
    rotate_left
    · omega
    rcases q with q | q
    rotate_left
    · omega
    rcases q with q | q
    rotate_left
    · omega
    rcases q with q | q
    rotate_left
    · simp only [GPrg] at q; omega
    rcases q with q | q
    rotate_left
    · omega
    rcases q with q | q
    rotate_left
    · omega
    exact hN _ _ _ (by omega) q
  have hX := hX.trans hA66 (fun _ _ _ q => Or.inl (Or.inl (Or.inl (Or.inl (Or.inl (Or.inl (Or.inl (Or.inl (Or.inl (Or.inl (Or.inl (Or.inl (Or.inl (Or.inl (Or.inl (Or.inl (Or.inl (Or.inl (Or.inl (Or.inl (Or.inl (Or.inl (q)))))))))))))))))))))))
  rw [← hA66 14 0 0 (Or.inl (Or.inl (Or.inl (Or.inl (Or.inl (Or.inl (Or.inl (Or.inl (Or.inl (Or.inl (Or.inl (Or.inl (Or.inl (Or.inl (Or.inl (Or.inl (Or.inl (Or.inl (Or.inl (Or.inl (Or.inl (Or.inl hS))))))))))))))))))))))]
  refine p_X14_82 dX14_init_195 rfl (hz.kO (Or.inl (Or.inl (Or.inl (Or.inl (Or.inl (Or.inl (Or.inl (Or.inl (Or.inl (Or.inl (Or.inl (Or.inl (Or.inl (Or.inl (Or.inl (Or.inl (Or.inl (Or.inl (Or.inl (Or.inl (Or.inl (Or.inl (Or.inl hS))))))))))))))))))))))) (by decide)) rfl ?_
  refine i_fg (hz.setR (f := 933) (by decide) (Or.inl (Or.inl (Or.inl (Or.inl (Or.inl (Or.inl (Or.inl (Or.inl (Or.inl (Or.inl (Or.inl (Or.inl (Or.inl (Or.inl (Or.inl (Or.inl (Or.inl (Or.inl (Or.inl (Or.inl (Or.inl (Or.inl (Or.inl hS))))))))))))))))))))))) (Or.inr ⟨rfl, rfl, rfl⟩) (rt_a (f := 933) rfl rfl rfl)) (fun h hz => ?_)
  refine w_aload_n 0 dX14_init_198 rfl rfl rfl ?_
  refine w_bipush 12 dX14_init_199 rfl rfl ?_
  refine w_newI (n := 12) hrm dX14_init_201 rfl a_int (by decide) rfl (by decide) (Nat.le_of_ble_eq_true rfl) (Nat.le_of_ble_eq_true rfl) (fun q hq => ?_)
  refine i_addA hz hq (f0 := 934) (p0 := 0) (s0 := 0) rfl (by decide) rfl ?_ (Zr.sI (Zr.sR (hZ _ _ _ (by omega))) (by decide) (by decide)) (fun A70 h hA69 hz => ?_)
  · intro q
    rcases q with q | q
    rotate_left
    · omega
    rcases q with q | q
    rotate_left
    · omega
    rcases q with q | q
    rotate_left
    · omega
    rcases q with q | q
    rotate_left
    · omega
    rcases q with q | q
    rotate_left
    · omega
    rcases q with q | q
    rotate_left
    · omega
    rcases q with q | q
    rotate_left
    · omega
    rcases q with q | q
    rotate_left
    · omega
    rcases q with q | q
    rotate_left
    · omega
    rcases q with q | q
    rotate_left
    · omega
    rcases q with q | q
    rotate_left
    · omega
    rcases q with q | q
    rotate_left
    · omega
    rcases q with q | q
    rotate_left
    · omega
    rcases q with q | q
    rotate_left
    · omega
    rcases q with q | q
    rotate_left
    · omega
    rcases q with q | q
    rotate_left
    · omega
    rcases q with q | q
    rotate_left
    · omega
    rcases q with q | q
    rotate_left
    · omega
    rcases q with q | q
    rotate_left
    · omega
    rcases q with q | q
    rotate_left
    · omega
    rcases q with q | q
    rotate_left
    · simp only [GPrg] at q; omega
    rcases q with q | q
    rotate_left
    · omega
    rcases q with q | q
    rotate_left
    · omega
    exact hN _ _ _ (by omega) q
  have hX := hX.trans hA69 (fun _ _ _ q => Or.inl (Or.inl (Or.inl (Or.inl (Or.inl (Or.inl (Or.inl (Or.inl (Or.inl (Or.inl (Or.inl (Or.inl (Or.inl (Or.inl (Or.inl (Or.inl (Or.inl (Or.inl (Or.inl (Or.inl (Or.inl (Or.inl (Or.inl (q))))))))))))))))))))))))
  rw [← hA69 14 0 0 (Or.inl (Or.inl (Or.inl (Or.inl (Or.inl (Or.inl (Or.inl (Or.inl (Or.inl (Or.inl (Or.inl (Or.inl (Or.inl (Or.inl (Or.inl (Or.inl (Or.inl (Or.inl (Or.inl (Or.inl (Or.inl (Or.inl (Or.inl hS)))))))))))))))))))))))]
  refine p_X14_85 dX14_init_203 rfl (hz.kO (Or.inl (Or.inl (Or.inl (Or.inl (Or.inl (Or.inl (Or.inl (Or.inl (Or.inl (Or.inl (Or.inl (Or.inl (Or.inl (Or.inl (Or.inl (Or.inl (Or.inl (Or.inl (Or.inl (Or.inl (Or.inl (Or.inl (Or.inl (Or.inl hS)))))))))))))))))))))))) (by decide)) rfl ?_
  refine i_fg (hz.setR (f := 934) (by decide) (Or.inl (Or.inl (Or.inl (Or.inl (Or.inl (Or.inl (Or.inl (Or.inl (Or.inl (Or.inl (Or.inl (Or.inl (Or.inl (Or.inl (Or.inl (Or.inl (Or.inl (Or.inl (Or.inl (Or.inl (Or.inl (Or.inl (Or.inl (Or.inl hS)))))))))))))))))))))))) (Or.inr ⟨rfl, rfl, rfl⟩) (rt_a (f := 934) rfl rfl rfl)) (fun h hz => ?_)
  refine w_aload_n 0 dX14_init_206 rfl rfl rfl ?_
  refine w_sipush 720 dX14_init_207 rfl rfl ?_
  refine w_newJ (n := 720) hrm dX14_init_210 rfl a_long (by decide) rfl (by decide) (Nat.le_of_ble_eq_true rfl) (Nat.le_of_ble_eq_true rfl) (fun q hq => ?_)
  refine i_addA hz hq (f0 := 935) (p0 := 0) (s0 := 0) rfl (by decide) rfl ?_ (Zr.sI (Zr.sR (hZ _ _ _ (by omega))) (by decide) (by decide)) (fun A73 h hA72 hz => ?_)
  · intro q
    rcases q with q | q
    rotate_left
    · omega
    rcases q with q | q
    rotate_left
    · omega
    rcases q with q | q
    rotate_left
    · omega
    rcases q with q | q
    rotate_left
    · omega
    rcases q with q | q
    rotate_left
    · omega
    rcases q with q | q
    rotate_left
    · omega
    rcases q with q | q
    rotate_left
    · omega
    rcases q with q | q
    rotate_left
    · omega
    rcases q with q | q
    rotate_left
    · omega
    rcases q with q | q
    rotate_left
    · omega
    rcases q with q | q
    rotate_left
    · omega
    rcases q with q | q
    rotate_left
    · omega
    rcases q with q | q
    rotate_left
    · omega
    rcases q with q | q
    rotate_left
    · omega
    rcases q with q | q
    rotate_left
    · omega
    rcases q with q | q
    rotate_left
    · omega
    rcases q with q | q
    rotate_left
    · omega
    rcases q with q | q
    rotate_left
    · omega
    rcases q with q | q
    rotate_left
    · omega
    rcases q with q | q
    rotate_left
    · omega
    rcases q with q | q
    rotate_left
    · omega
    rcases q with q | q
    rotate_left
    · simp only [GPrg] at q; omega
    rcases q with q | q
    rotate_left
    · omega
    rcases q with q | q
    rotate_left
    · omega
    exact hN _ _ _ (by omega) q
  have hX := hX.trans hA72 (fun _ _ _ q => Or.inl (Or.inl (Or.inl (Or.inl (Or.inl (Or.inl (Or.inl (Or.inl (Or.inl (Or.inl (Or.inl (Or.inl (Or.inl (Or.inl (Or.inl (Or.inl (Or.inl (Or.inl (Or.inl (Or.inl (Or.inl (Or.inl (Or.inl (Or.inl (q)))))))))))))))))))))))))
  rw [← hA72 14 0 0 (Or.inl (Or.inl (Or.inl (Or.inl (Or.inl (Or.inl (Or.inl (Or.inl (Or.inl (Or.inl (Or.inl (Or.inl (Or.inl (Or.inl (Or.inl (Or.inl (Or.inl (Or.inl (Or.inl (Or.inl (Or.inl (Or.inl (Or.inl (Or.inl hS))))))))))))))))))))))))]
  refine p_X14_88 dX14_init_212 rfl (hz.kO (Or.inl (Or.inl (Or.inl (Or.inl (Or.inl (Or.inl (Or.inl (Or.inl (Or.inl (Or.inl (Or.inl (Or.inl (Or.inl (Or.inl (Or.inl (Or.inl (Or.inl (Or.inl (Or.inl (Or.inl (Or.inl (Or.inl (Or.inl (Or.inl (Or.inl hS))))))))))))))))))))))))) (by decide)) rfl ?_
  refine i_fg (hz.setR (f := 935) (by decide) (Or.inl (Or.inl (Or.inl (Or.inl (Or.inl (Or.inl (Or.inl (Or.inl (Or.inl (Or.inl (Or.inl (Or.inl (Or.inl (Or.inl (Or.inl (Or.inl (Or.inl (Or.inl (Or.inl (Or.inl (Or.inl (Or.inl (Or.inl (Or.inl (Or.inl hS))))))))))))))))))))))))) (Or.inr ⟨rfl, rfl, rfl⟩) (rt_a (f := 935) rfl rfl rfl)) (fun h hz => ?_)
  refine w_aload_n 0 dX14_init_215 rfl rfl rfl ?_
  refine w_sipush 720 dX14_init_216 rfl rfl ?_
  refine w_newI (n := 720) hrm dX14_init_219 rfl a_int (by decide) rfl (by decide) (Nat.le_of_ble_eq_true rfl) (Nat.le_of_ble_eq_true rfl) (fun q hq => ?_)
  refine i_addA hz hq (f0 := 936) (p0 := 0) (s0 := 0) rfl (by decide) rfl ?_ (Zr.sI (Zr.sR (hZ _ _ _ (by omega))) (by decide) (by decide)) (fun A76 h hA75 hz => ?_)
  · intro q
    rcases q with q | q
    rotate_left
    · omega
    rcases q with q | q
    rotate_left
    · omega
    rcases q with q | q
    rotate_left
    · omega
    rcases q with q | q
    rotate_left
    · omega
    rcases q with q | q
    rotate_left
    · omega
    rcases q with q | q
    rotate_left
    · omega
    rcases q with q | q
    rotate_left
    · omega
    rcases q with q | q
    rotate_left
    · omega
    rcases q with q | q
    rotate_left
    · omega
    rcases q with q | q
    rotate_left
    · omega
    rcases q with q | q
    rotate_left
    · omega
    rcases q with q | q
    rotate_left
    · omega
    rcases q with q | q
    rotate_left
    · omega
    rcases q with q | q
    rotate_left
    · omega
    rcases q with q | q
    rotate_left
    · omega
    rcases q with q | q
    rotate_left
    · omega
    rcases q with q | q
    rotate_left
    · omega
    rcases q with q | q
    rotate_left
    · omega
    rcases q with q | q
    rotate_left
    · omega
    rcases q with q | q
    rotate_left
    · omega
    rcases q with q | q
    rotate_left
    · omega
    rcases q with q | q
    rotate_left
    · omega
    rcases q with q | q
    rotate_left
    · simp only [GPrg] at q; omega
    rcases q with q | q
    rotate_left
    · omega
    rcases q with q | q
    rotate_left
    · omega
    exact hN _ _ _ (by omega) q
  have hX := hX.trans hA75 (fun _ _ _ q => Or.inl (Or.inl (Or.inl (Or.inl (Or.inl (Or.inl (Or.inl (Or.inl (Or.inl (Or.inl (Or.inl (Or.inl (Or.inl (Or.inl (Or.inl (Or.inl (Or.inl (Or.inl (Or.inl (Or.inl (Or.inl (Or.inl (Or.inl (Or.inl (Or.inl (q))))))))))))))))))))))))))
  rw [← hA75 14 0 0 (Or.inl (Or.inl (Or.inl (Or.inl (Or.inl (Or.inl (Or.inl (Or.inl (Or.inl (Or.inl (Or.inl (Or.inl (Or.inl (Or.inl (Or.inl (Or.inl (Or.inl (Or.inl (Or.inl (Or.inl (Or.inl (Or.inl (Or.inl (Or.inl (Or.inl hS)))))))))))))))))))))))))]
  refine p_X14_91 dX14_init_221 rfl (hz.kO (Or.inl (Or.inl (Or.inl (Or.inl (Or.inl (Or.inl (Or.inl (Or.inl (Or.inl (Or.inl (Or.inl (Or.inl (Or.inl (Or.inl (Or.inl (Or.inl (Or.inl (Or.inl (Or.inl (Or.inl (Or.inl (Or.inl (Or.inl (Or.inl (Or.inl (Or.inl hS)))))))))))))))))))))))))) (by decide)) rfl ?_
  refine i_fg (hz.setR (f := 936) (by decide) (Or.inl (Or.inl (Or.inl (Or.inl (Or.inl (Or.inl (Or.inl (Or.inl (Or.inl (Or.inl (Or.inl (Or.inl (Or.inl (Or.inl (Or.inl (Or.inl (Or.inl (Or.inl (Or.inl (Or.inl (Or.inl (Or.inl (Or.inl (Or.inl (Or.inl (Or.inl hS)))))))))))))))))))))))))) (Or.inr ⟨rfl, rfl, rfl⟩) (rt_a (f := 936) rfl rfl rfl)) (fun h hz => ?_)
  refine w_aload_n 0 dX14_init_224 rfl rfl rfl ?_
  refine w_sipush 720 dX14_init_225 rfl rfl ?_
  refine w_newZ (n := 720) hrm dX14_init_228 rfl a_boolean (by decide) rfl (by decide) (Nat.le_of_ble_eq_true rfl) (Nat.le_of_ble_eq_true rfl) (fun q hq => ?_)
  refine i_addA hz hq (f0 := 937) (p0 := 0) (s0 := 0) rfl (by decide) rfl ?_ (Zr.sI (Zr.sR (hZ _ _ _ (by omega))) (by decide) (by decide)) (fun A79 h hA78 hz => ?_)
  · intro q
    rcases q with q | q
    rotate_left
    · omega
    rcases q with q | q
    rotate_left
    · omega
    rcases q with q | q
    rotate_left
    · omega
    rcases q with q | q
    rotate_left
    · omega
    rcases q with q | q
    rotate_left
    · omega
    rcases q with q | q
    rotate_left
    · omega
    rcases q with q | q
    rotate_left
    · omega
    rcases q with q | q
    rotate_left
    · omega
    rcases q with q | q
    rotate_left
    · omega
    rcases q with q | q
    rotate_left
    · omega
    rcases q with q | q
    rotate_left
    · omega
    rcases q with q | q
    rotate_left
    · omega
    rcases q with q | q
    rotate_left
    · omega
    rcases q with q | q
    rotate_left
    · omega
    rcases q with q | q
    rotate_left
    · omega
    rcases q with q | q
    rotate_left
    · omega
    rcases q with q | q
    rotate_left
    · omega
    rcases q with q | q
    rotate_left
    · omega
    rcases q with q | q
    rotate_left
    · omega
    rcases q with q | q
    rotate_left
    · omega
    rcases q with q | q
    rotate_left
    · omega
    rcases q with q | q
    rotate_left
    · omega
    rcases q with q | q
    rotate_left
    · omega
    rcases q with q | q
    rotate_left
    · simp only [GPrg] at q; omega
    rcases q with q | q
    rotate_left
    · omega
    rcases q with q | q
    rotate_left
    · omega
    exact hN _ _ _ (by omega) q
  have hX := hX.trans hA78 (fun _ _ _ q => Or.inl (Or.inl (Or.inl (Or.inl (Or.inl (Or.inl (Or.inl (Or.inl (Or.inl (Or.inl (Or.inl (Or.inl (Or.inl (Or.inl (Or.inl (Or.inl (Or.inl (Or.inl (Or.inl (Or.inl (Or.inl (Or.inl (Or.inl (Or.inl (Or.inl (Or.inl (q)))))))))))))))))))))))))))
  rw [← hA78 14 0 0 (Or.inl (Or.inl (Or.inl (Or.inl (Or.inl (Or.inl (Or.inl (Or.inl (Or.inl (Or.inl (Or.inl (Or.inl (Or.inl (Or.inl (Or.inl (Or.inl (Or.inl (Or.inl (Or.inl (Or.inl (Or.inl (Or.inl (Or.inl (Or.inl (Or.inl (Or.inl hS))))))))))))))))))))))))))]
  refine p_X14_94 dX14_init_230 rfl (hz.kO (Or.inl (Or.inl (Or.inl (Or.inl (Or.inl (Or.inl (Or.inl (Or.inl (Or.inl (Or.inl (Or.inl (Or.inl (Or.inl (Or.inl (Or.inl (Or.inl (Or.inl (Or.inl (Or.inl (Or.inl (Or.inl (Or.inl (Or.inl (Or.inl (Or.inl (Or.inl (Or.inl hS))))))))))))))))))))))))))) (by decide)) rfl ?_
  refine i_fg (hz.setR (f := 937) (by decide) (Or.inl (Or.inl (Or.inl (Or.inl (Or.inl (Or.inl (Or.inl (Or.inl (Or.inl (Or.inl (Or.inl (Or.inl (Or.inl (Or.inl (Or.inl (Or.inl (Or.inl (Or.inl (Or.inl (Or.inl (Or.inl (Or.inl (Or.inl (Or.inl (Or.inl (Or.inl (Or.inl hS))))))))))))))))))))))))))) (Or.inr ⟨rfl, rfl, rfl⟩) (rt_a (f := 937) rfl rfl rfl)) (fun h hz => ?_)
  refine w_aload_n 0 dX14_init_233 rfl rfl rfl ?_
  refine w_sipush 4320 dX14_init_234 rfl rfl ?_
  refine w_newJ (n := 4320) hrm dX14_init_237 rfl a_long (by decide) rfl (by decide) (Nat.le_of_ble_eq_true rfl) (Nat.le_of_ble_eq_true rfl) (fun q hq => ?_)
  refine i_addA hz hq (f0 := 938) (p0 := 0) (s0 := 0) rfl (by decide) rfl ?_ (Zr.sI (Zr.sR (hZ _ _ _ (by omega))) (by decide) (by decide)) (fun A82 h hA81 hz => ?_)
  · intro q
    rcases q with q | q
    rotate_left
    · omega
    rcases q with q | q
    rotate_left
    · omega
    rcases q with q | q
    rotate_left
    · omega
    rcases q with q | q
    rotate_left
    · omega
    rcases q with q | q
    rotate_left
    · omega
    rcases q with q | q
    rotate_left
    · omega
    rcases q with q | q
    rotate_left
    · omega
    rcases q with q | q
    rotate_left
    · omega
    rcases q with q | q
    rotate_left
    · omega
    rcases q with q | q
    rotate_left
    · omega
    rcases q with q | q
    rotate_left
    · omega
    rcases q with q | q
    rotate_left
    · omega
    rcases q with q | q
    rotate_left
    · omega
    rcases q with q | q
    rotate_left
    · omega
    rcases q with q | q
    rotate_left
    · omega
    rcases q with q | q
    rotate_left
    · omega
    rcases q with q | q
    rotate_left
    · omega
    rcases q with q | q
    rotate_left
    · omega
    rcases q with q | q
    rotate_left
    · omega
    rcases q with q | q
    rotate_left
    · omega
    rcases q with q | q
    rotate_left
    · omega
    rcases q with q | q
    rotate_left
    · omega
    rcases q with q | q
    rotate_left
    · omega
    rcases q with q | q
    rotate_left
    · omega
    rcases q with q | q
    rotate_left
    · simp only [GPrg] at q; omega
    rcases q with q | q
    rotate_left
    · omega
    rcases q with q | q
    rotate_left
    · omega
    exact hN _ _ _ (by omega) q
  have hX := hX.trans hA81 (fun _ _ _ q => Or.inl (Or.inl (Or.inl (Or.inl (Or.inl (Or.inl (Or.inl (Or.inl (Or.inl (Or.inl (Or.inl (Or.inl (Or.inl (Or.inl (Or.inl (Or.inl (Or.inl (Or.inl (Or.inl (Or.inl (Or.inl (Or.inl (Or.inl (Or.inl (Or.inl (Or.inl (Or.inl (q))))))))))))))))))))))))))))
  rw [← hA81 14 0 0 (Or.inl (Or.inl (Or.inl (Or.inl (Or.inl (Or.inl (Or.inl (Or.inl (Or.inl (Or.inl (Or.inl (Or.inl (Or.inl (Or.inl (Or.inl (Or.inl (Or.inl (Or.inl (Or.inl (Or.inl (Or.inl (Or.inl (Or.inl (Or.inl (Or.inl (Or.inl (Or.inl hS)))))))))))))))))))))))))))]
  refine p_X14_98 dX14_init_239 rfl (hz.kO (Or.inl (Or.inl (Or.inl (Or.inl (Or.inl (Or.inl (Or.inl (Or.inl (Or.inl (Or.inl (Or.inl (Or.inl (Or.inl (Or.inl (Or.inl (Or.inl (Or.inl (Or.inl (Or.inl (Or.inl (Or.inl (Or.inl (Or.inl (Or.inl (Or.inl (Or.inl (Or.inl (Or.inl hS)))))))))))))))))))))))))))) (by decide)) rfl ?_
  refine i_fg (hz.setR (f := 938) (by decide) (Or.inl (Or.inl (Or.inl (Or.inl (Or.inl (Or.inl (Or.inl (Or.inl (Or.inl (Or.inl (Or.inl (Or.inl (Or.inl (Or.inl (Or.inl (Or.inl (Or.inl (Or.inl (Or.inl (Or.inl (Or.inl (Or.inl (Or.inl (Or.inl (Or.inl (Or.inl (Or.inl (Or.inl hS)))))))))))))))))))))))))))) (Or.inr ⟨rfl, rfl, rfl⟩) (rt_a (f := 938) rfl rfl rfl)) (fun h hz => ?_)
  refine w_aload_n 0 dX14_init_242 rfl rfl rfl ?_
  refine w_sipush 720 dX14_init_243 rfl rfl ?_
  refine w_newI (n := 720) hrm dX14_init_246 rfl a_int (by decide) rfl (by decide) (Nat.le_of_ble_eq_true rfl) (Nat.le_of_ble_eq_true rfl) (fun q hq => ?_)
  refine i_addA hz hq (f0 := 939) (p0 := 0) (s0 := 0) rfl (by decide) rfl ?_ (Zr.sI (Zr.sR (hZ _ _ _ (by omega))) (by decide) (by decide)) (fun A85 h hA84 hz => ?_)
  · intro q
    rcases q with q | q
    rotate_left
    · omega
    rcases q with q | q
    rotate_left
    · omega
    rcases q with q | q
    rotate_left
    · omega
    rcases q with q | q
    rotate_left
    · omega
    rcases q with q | q
    rotate_left
    · omega
    rcases q with q | q
    rotate_left
    · omega
    rcases q with q | q
    rotate_left
    · omega
    rcases q with q | q
    rotate_left
    · omega
    rcases q with q | q
    rotate_left
    · omega
    rcases q with q | q
    rotate_left
    · omega
    rcases q with q | q
    rotate_left
    · omega
    rcases q with q | q
    rotate_left
    · omega
    rcases q with q | q
    rotate_left
    · omega
    rcases q with q | q
    rotate_left
    · omega
    rcases q with q | q
    rotate_left
    · omega
    rcases q with q | q
    rotate_left
    · omega
    rcases q with q | q
    rotate_left
    · omega
    rcases q with q | q
    rotate_left
    · omega
    rcases q with q | q
    rotate_left
    · omega
    rcases q with q | q
    rotate_left
    · omega
    rcases q with q | q
    rotate_left
    · omega
    rcases q with q | q
    rotate_left
    · omega
    rcases q with q | q
    rotate_left
    · omega
    rcases q with q | q
    rotate_left
    · omega
    rcases q with q | q
    rotate_left
    · omega
    rcases q with q | q
    rotate_left
    · simp only [GPrg] at q; omega
    rcases q with q | q
    rotate_left
    · omega
    rcases q with q | q
    rotate_left
    · omega
    exact hN _ _ _ (by omega) q
  have hX := hX.trans hA84 (fun _ _ _ q => Or.inl (Or.inl (Or.inl (Or.inl (Or.inl (Or.inl (Or.inl (Or.inl (Or.inl (Or.inl (Or.inl (Or.inl (Or.inl (Or.inl (Or.inl (Or.inl (Or.inl (Or.inl (Or.inl (Or.inl (Or.inl (Or.inl (Or.inl (Or.inl (Or.inl (Or.inl (Or.inl (Or.inl (q)))))))))))))))))))))))))))))
  rw [← hA84 14 0 0 (Or.inl (Or.inl (Or.inl (Or.inl (Or.inl (Or.inl (Or.inl (Or.inl (Or.inl (Or.inl (Or.inl (Or.inl (Or.inl (Or.inl (Or.inl (Or.inl (Or.inl (Or.inl (Or.inl (Or.inl (Or.inl (Or.inl (Or.inl (Or.inl (Or.inl (Or.inl (Or.inl (Or.inl hS))))))))))))))))))))))))))))]
  refine p_X14_101 dX14_init_248 rfl (hz.kO (Or.inl (Or.inl (Or.inl (Or.inl (Or.inl (Or.inl (Or.inl (Or.inl (Or.inl (Or.inl (Or.inl (Or.inl (Or.inl (Or.inl (Or.inl (Or.inl (Or.inl (Or.inl (Or.inl (Or.inl (Or.inl (Or.inl (Or.inl (Or.inl (Or.inl (Or.inl (Or.inl (Or.inl (Or.inl hS))))))))))))))))))))))))))))) (by decide)) rfl ?_
  refine i_fg (hz.setR (f := 939) (by decide) (Or.inl (Or.inl (Or.inl (Or.inl (Or.inl (Or.inl (Or.inl (Or.inl (Or.inl (Or.inl (Or.inl (Or.inl (Or.inl (Or.inl (Or.inl (Or.inl (Or.inl (Or.inl (Or.inl (Or.inl (Or.inl (Or.inl (Or.inl (Or.inl (Or.inl (Or.inl (Or.inl (Or.inl (Or.inl hS))))))))))))))))))))))))))))) (Or.inr ⟨rfl, rfl, rfl⟩) (rt_a (f := 939) rfl rfl rfl)) (fun h hz => ?_)
  refine w_aload_n 0 dX14_init_251 rfl rfl rfl ?_
  refine w_sipush 200 dX14_init_252 rfl rfl ?_
  refine w_newI (n := 200) hrm dX14_init_255 rfl a_int (by decide) rfl (by decide) (Nat.le_of_ble_eq_true rfl) (Nat.le_of_ble_eq_true rfl) (fun q hq => ?_)
  refine i_addA hz hq (f0 := 941) (p0 := 0) (s0 := 0) rfl (by decide) rfl ?_ (Zr.sI (Zr.sR (hZ _ _ _ (by omega))) (by decide) (by decide)) (fun A88 h hA87 hz => ?_)
  · intro q
    rcases q with q | q
    rotate_left
    · omega
    rcases q with q | q
    rotate_left
    · omega
    rcases q with q | q
    rotate_left
    · omega
    rcases q with q | q
    rotate_left
    · omega
    rcases q with q | q
    rotate_left
    · omega
    rcases q with q | q
    rotate_left
    · omega
    rcases q with q | q
    rotate_left
    · omega
    rcases q with q | q
    rotate_left
    · omega
    rcases q with q | q
    rotate_left
    · omega
    rcases q with q | q
    rotate_left
    · omega
    rcases q with q | q
    rotate_left
    · omega
    rcases q with q | q
    rotate_left
    · omega
    rcases q with q | q
    rotate_left
    · omega
    rcases q with q | q
    rotate_left
    · omega
    rcases q with q | q
    rotate_left
    · omega
    rcases q with q | q
    rotate_left
    · omega
    rcases q with q | q
    rotate_left
    · omega
    rcases q with q | q
    rotate_left
    · omega
    rcases q with q | q
    rotate_left
    · omega
    rcases q with q | q
    rotate_left
    · omega
    rcases q with q | q
    rotate_left
    · omega
    rcases q with q | q
    rotate_left
    · omega
    rcases q with q | q
    rotate_left
    · omega
    rcases q with q | q
    rotate_left
    · omega
    rcases q with q | q
    rotate_left
    · omega
    rcases q with q | q
    rotate_left
    · omega
    rcases q with q | q
    rotate_left
    · simp only [GPrg] at q; omega
    rcases q with q | q
    rotate_left
    · omega
    rcases q with q | q
    rotate_left
    · omega
    exact hN _ _ _ (by omega) q
  have hX := hX.trans hA87 (fun _ _ _ q => Or.inl (Or.inl (Or.inl (Or.inl (Or.inl (Or.inl (Or.inl (Or.inl (Or.inl (Or.inl (Or.inl (Or.inl (Or.inl (Or.inl (Or.inl (Or.inl (Or.inl (Or.inl (Or.inl (Or.inl (Or.inl (Or.inl (Or.inl (Or.inl (Or.inl (Or.inl (Or.inl (Or.inl (Or.inl (q))))))))))))))))))))))))))))))
  rw [← hA87 14 0 0 (Or.inl (Or.inl (Or.inl (Or.inl (Or.inl (Or.inl (Or.inl (Or.inl (Or.inl (Or.inl (Or.inl (Or.inl (Or.inl (Or.inl (Or.inl (Or.inl (Or.inl (Or.inl (Or.inl (Or.inl (Or.inl (Or.inl (Or.inl (Or.inl (Or.inl (Or.inl (Or.inl (Or.inl (Or.inl hS)))))))))))))))))))))))))))))]
  refine p_X14_104 dX14_init_257 rfl (hz.kO (Or.inl (Or.inl (Or.inl (Or.inl (Or.inl (Or.inl (Or.inl (Or.inl (Or.inl (Or.inl (Or.inl (Or.inl (Or.inl (Or.inl (Or.inl (Or.inl (Or.inl (Or.inl (Or.inl (Or.inl (Or.inl (Or.inl (Or.inl (Or.inl (Or.inl (Or.inl (Or.inl (Or.inl (Or.inl (Or.inl hS)))))))))))))))))))))))))))))) (by decide)) rfl ?_
  refine i_fg (hz.setR (f := 941) (by decide) (Or.inl (Or.inl (Or.inl (Or.inl (Or.inl (Or.inl (Or.inl (Or.inl (Or.inl (Or.inl (Or.inl (Or.inl (Or.inl (Or.inl (Or.inl (Or.inl (Or.inl (Or.inl (Or.inl (Or.inl (Or.inl (Or.inl (Or.inl (Or.inl (Or.inl (Or.inl (Or.inl (Or.inl (Or.inl (Or.inl hS)))))))))))))))))))))))))))))) (Or.inr ⟨rfl, rfl, rfl⟩) (rt_a (f := 941) rfl rfl rfl)) (fun h hz => ?_)
  refine w_aload_n 0 dX14_init_260 rfl rfl rfl ?_
  refine w_sipush 200 dX14_init_261 rfl rfl ?_
  refine w_newI (n := 200) hrm dX14_init_264 rfl a_int (by decide) rfl (by decide) (Nat.le_of_ble_eq_true rfl) (Nat.le_of_ble_eq_true rfl) (fun q hq => ?_)
  refine i_addA hz hq (f0 := 942) (p0 := 0) (s0 := 0) rfl (by decide) rfl ?_ (Zr.sI (Zr.sR (hZ _ _ _ (by omega))) (by decide) (by decide)) (fun A91 h hA90 hz => ?_)
  · intro q
    rcases q with q | q
    rotate_left
    · omega
    rcases q with q | q
    rotate_left
    · omega
    rcases q with q | q
    rotate_left
    · omega
    rcases q with q | q
    rotate_left
    · omega
    rcases q with q | q
    rotate_left
    · omega
    rcases q with q | q
    rotate_left
    · omega
    rcases q with q | q
    rotate_left
    · omega
    rcases q with q | q
    rotate_left
    · omega
    rcases q with q | q
    rotate_left
    · omega
    rcases q with q | q
    rotate_left
    · omega
    rcases q with q | q
    rotate_left
    · omega
    rcases q with q | q
    rotate_left
    · omega
    rcases q with q | q
    rotate_left
    · omega
    rcases q with q | q
    rotate_left
    · omega
    rcases q with q | q
    rotate_left
    · omega
    rcases q with q | q
    rotate_left
    · omega
    rcases q with q | q
    rotate_left
    · omega
    rcases q with q | q
    rotate_left
    · omega
    rcases q with q | q
    rotate_left
    · omega
    rcases q with q | q
    rotate_left
    · omega
    rcases q with q | q
    rotate_left
    · omega
    rcases q with q | q
    rotate_left
    · omega
    rcases q with q | q
    rotate_left
    · omega
    rcases q with q | q
    rotate_left
    · omega
    rcases q with q | q
    rotate_left
    · omega
    rcases q with q | q
    rotate_left
    · omega
    rcases q with q | q
    rotate_left
    · omega
    rcases q with q | q
    rotate_left
    · simp only [GPrg] at q; omega
    rcases q with q | q
    rotate_left
    · omega
    rcases q with q | q
    rotate_left
    · omega
    exact hN _ _ _ (by omega) q
  have hX := hX.trans hA90 (fun _ _ _ q => Or.inl (Or.inl (Or.inl (Or.inl (Or.inl (Or.inl (Or.inl (Or.inl (Or.inl (Or.inl (Or.inl (Or.inl (Or.inl (Or.inl (Or.inl (Or.inl (Or.inl (Or.inl (Or.inl (Or.inl (Or.inl (Or.inl (Or.inl (Or.inl (Or.inl (Or.inl (Or.inl (Or.inl (Or.inl (Or.inl (q)))))))))))))))))))))))))))))))
  rw [← hA90 14 0 0 (Or.inl (Or.inl (Or.inl (Or.inl (Or.inl (Or.inl (Or.inl (Or.inl (Or.inl (Or.inl (Or.inl (Or.inl (Or.inl (Or.inl (Or.inl (Or.inl (Or.inl (Or.inl (Or.inl (Or.inl (Or.inl (Or.inl (Or.inl (Or.inl (Or.inl (Or.inl (Or.inl (Or.inl (Or.inl (Or.inl hS))))))))))))))))))))))))))))))]
  refine p_X14_107 dX14_init_266 rfl (hz.kO (Or.inl (Or.inl (Or.inl (Or.inl (Or.inl (Or.inl (Or.inl (Or.inl (Or.inl (Or.inl (Or.inl (Or.inl (Or.inl (Or.inl (Or.inl (Or.inl (Or.inl (Or.inl (Or.inl (Or.inl (Or.inl (Or.inl (Or.inl (Or.inl (Or.inl (Or.inl (Or.inl (Or.inl (Or.inl (Or.inl (Or.inl hS))))))))))))))))))))))))))))))) (by decide)) rfl ?_
  refine i_fg (hz.setR (f := 942) (by decide) (Or.inl (Or.inl (Or.inl (Or.inl (Or.inl (Or.inl (Or.inl (Or.inl (Or.inl (Or.inl (Or.inl (Or.inl (Or.inl (Or.inl (Or.inl (Or.inl (Or.inl (Or.inl (Or.inl (Or.inl (Or.inl (Or.inl (Or.inl (Or.inl (Or.inl (Or.inl (Or.inl (Or.inl (Or.inl (Or.inl (Or.inl hS))))))))))))))))))))))))))))))) (Or.inr ⟨rfl, rfl, rfl⟩) (rt_a (f := 942) rfl rfl rfl)) (fun h hz => ?_)
  refine w_aload_n 0 dX14_init_269 rfl rfl rfl ?_
  refine w_sipush 200 dX14_init_270 rfl rfl ?_
  refine w_newI (n := 200) hrm dX14_init_273 rfl a_int (by decide) rfl (by decide) (Nat.le_of_ble_eq_true rfl) (Nat.le_of_ble_eq_true rfl) (fun q hq => ?_)
  refine i_addA hz hq (f0 := 943) (p0 := 0) (s0 := 0) rfl (by decide) rfl ?_ (Zr.sI (Zr.sR (hZ _ _ _ (by omega))) (by decide) (by decide)) (fun A94 h hA93 hz => ?_)
  · intro q
    rcases q with q | q
    rotate_left
    · omega
    rcases q with q | q
    rotate_left
    · omega
    rcases q with q | q
    rotate_left
    · omega
    rcases q with q | q
    rotate_left
    · omega
    rcases q with q | q
    rotate_left
    · omega
    rcases q with q | q
    rotate_left
    · omega
    rcases q with q | q
    rotate_left
    · omega
    rcases q with q | q
    rotate_left
    · omega
    rcases q with q | q
    rotate_left
    · omega
    rcases q with q | q
    rotate_left
    · omega
    rcases q with q | q
    rotate_left
    · omega
    rcases q with q | q
    rotate_left
    · omega
    rcases q with q | q
    rotate_left
    · omega
    rcases q with q | q
    rotate_left
    · omega
    rcases q with q | q
    rotate_left
    · omega
    rcases q with q | q
    rotate_left
    · omega
    rcases q with q | q
    rotate_left
    · omega
    rcases q with q | q
    rotate_left
    · omega
    rcases q with q | q
    rotate_left
    · omega
    rcases q with q | q
    rotate_left
    · omega
    rcases q with q | q
    rotate_left
    · omega
    rcases q with q | q
    rotate_left
    · omega
    rcases q with q | q
    rotate_left
    · omega
    rcases q with q | q
    rotate_left
    · omega
    rcases q with q | q
    rotate_left
    · omega
    rcases q with q | q
    rotate_left
    · omega
    rcases q with q | q
    rotate_left
    · omega
    rcases q with q | q
    rotate_left
    · omega
    rcases q with q | q
    rotate_left
    · simp only [GPrg] at q; omega
    rcases q with q | q
    rotate_left
    · omega
    rcases q with q | q
    rotate_left
    · omega
    exact hN _ _ _ (by omega) q
  have hX := hX.trans hA93 (fun _ _ _ q => Or.inl (Or.inl (Or.inl (Or.inl (Or.inl (Or.inl (Or.inl (Or.inl (Or.inl (Or.inl (Or.inl (Or.inl (Or.inl (Or.inl (Or.inl (Or.inl (Or.inl (Or.inl (Or.inl (Or.inl (Or.inl (Or.inl (Or.inl (Or.inl (Or.inl (Or.inl (Or.inl (Or.inl (Or.inl (Or.inl (Or.inl (q))))))))))))))))))))))))))))))))
  rw [← hA93 14 0 0 (Or.inl (Or.inl (Or.inl (Or.inl (Or.inl (Or.inl (Or.inl (Or.inl (Or.inl (Or.inl (Or.inl (Or.inl (Or.inl (Or.inl (Or.inl (Or.inl (Or.inl (Or.inl (Or.inl (Or.inl (Or.inl (Or.inl (Or.inl (Or.inl (Or.inl (Or.inl (Or.inl (Or.inl (Or.inl (Or.inl (Or.inl hS)))))))))))))))))))))))))))))))]
  refine p_X14_110 dX14_init_275 rfl (hz.kO (Or.inl (Or.inl (Or.inl (Or.inl (Or.inl (Or.inl (Or.inl (Or.inl (Or.inl (Or.inl (Or.inl (Or.inl (Or.inl (Or.inl (Or.inl (Or.inl (Or.inl (Or.inl (Or.inl (Or.inl (Or.inl (Or.inl (Or.inl (Or.inl (Or.inl (Or.inl (Or.inl (Or.inl (Or.inl (Or.inl (Or.inl (Or.inl hS)))))))))))))))))))))))))))))))) (by decide)) rfl ?_
  refine i_fg (hz.setR (f := 943) (by decide) (Or.inl (Or.inl (Or.inl (Or.inl (Or.inl (Or.inl (Or.inl (Or.inl (Or.inl (Or.inl (Or.inl (Or.inl (Or.inl (Or.inl (Or.inl (Or.inl (Or.inl (Or.inl (Or.inl (Or.inl (Or.inl (Or.inl (Or.inl (Or.inl (Or.inl (Or.inl (Or.inl (Or.inl (Or.inl (Or.inl (Or.inl (Or.inl hS)))))))))))))))))))))))))))))))) (Or.inr ⟨rfl, rfl, rfl⟩) (rt_a (f := 943) rfl rfl rfl)) (fun h hz => ?_)
  refine w_aload_n 0 dX14_init_278 rfl rfl rfl ?_
  refine w_sipush 200 dX14_init_279 rfl rfl ?_
  refine w_newJ (n := 200) hrm dX14_init_282 rfl a_long (by decide) rfl (by decide) (Nat.le_of_ble_eq_true rfl) (Nat.le_of_ble_eq_true rfl) (fun q hq => ?_)
  refine i_addA hz hq (f0 := 944) (p0 := 0) (s0 := 0) rfl (by decide) rfl ?_ (Zr.sI (Zr.sR (hZ _ _ _ (by omega))) (by decide) (by decide)) (fun A97 h hA96 hz => ?_)
  · intro q
    rcases q with q | q
    rotate_left
    · omega
    rcases q with q | q
    rotate_left
    · omega
    rcases q with q | q
    rotate_left
    · omega
    rcases q with q | q
    rotate_left
    · omega
    rcases q with q | q
    rotate_left
    · omega
    rcases q with q | q
    rotate_left
    · omega
    rcases q with q | q
    rotate_left
    · omega
    rcases q with q | q
    rotate_left
    · omega
    rcases q with q | q
    rotate_left
    · omega
    rcases q with q | q
    rotate_left
    · omega
    rcases q with q | q
    rotate_left
    · omega
    rcases q with q | q
    rotate_left
    · omega
    rcases q with q | q
    rotate_left
    · omega
    rcases q with q | q
    rotate_left
    · omega
    rcases q with q | q
    rotate_left
    · omega
    rcases q with q | q
    rotate_left
    · omega
    rcases q with q | q
    rotate_left
    · omega
    rcases q with q | q
    rotate_left
    · omega
    rcases q with q | q
    rotate_left
    · omega
    rcases q with q | q
    rotate_left
    · omega
    rcases q with q | q
    rotate_left
    · omega
    rcases q with q | q
    rotate_left
    · omega
    rcases q with q | q
    rotate_left
    · omega
    rcases q with q | q
    rotate_left
    · omega
    rcases q with q | q
    rotate_left
    · omega
    rcases q with q | q
    rotate_left
    · omega
    rcases q with q | q
    rotate_left
    · omega
    rcases q with q | q
    rotate_left
    · omega
    rcases q with q | q
    rotate_left
    · omega
    rcases q with q | q
    rotate_left
    · simp only [GPrg] at q; omega
    rcases q with q | q
    rotate_left
    · omega
    rcases q with q | q
    rotate_left
    · omega
    exact hN _ _ _ (by omega) q
  have hX := hX.trans hA96 (fun _ _ _ q => Or.inl (Or.inl (Or.inl (Or.inl (Or.inl (Or.inl (Or.inl (Or.inl (Or.inl (Or.inl (Or.inl (Or.inl (Or.inl (Or.inl (Or.inl (Or.inl (Or.inl (Or.inl (Or.inl (Or.inl (Or.inl (Or.inl (Or.inl (Or.inl (Or.inl (Or.inl (Or.inl (Or.inl (Or.inl (Or.inl (Or.inl (Or.inl (q)))))))))))))))))))))))))))))))))
  rw [← hA96 14 0 0 (Or.inl (Or.inl (Or.inl (Or.inl (Or.inl (Or.inl (Or.inl (Or.inl (Or.inl (Or.inl (Or.inl (Or.inl (Or.inl (Or.inl (Or.inl (Or.inl (Or.inl (Or.inl (Or.inl (Or.inl (Or.inl (Or.inl (Or.inl (Or.inl (Or.inl (Or.inl (Or.inl (Or.inl (Or.inl (Or.inl (Or.inl (Or.inl hS))))))))))))))))))))))))))))))))]
  refine p_X14_113 dX14_init_284 rfl (hz.kO (Or.inl (Or.inl (Or.inl (Or.inl (Or.inl (Or.inl (Or.inl (Or.inl (Or.inl (Or.inl (Or.inl (Or.inl (Or.inl (Or.inl (Or.inl (Or.inl (Or.inl (Or.inl (Or.inl (Or.inl (Or.inl (Or.inl (Or.inl (Or.inl (Or.inl (Or.inl (Or.inl (Or.inl (Or.inl (Or.inl (Or.inl (Or.inl (Or.inl hS))))))))))))))))))))))))))))))))) (by decide)) rfl ?_
  refine i_fg (hz.setR (f := 944) (by decide) (Or.inl (Or.inl (Or.inl (Or.inl (Or.inl (Or.inl (Or.inl (Or.inl (Or.inl (Or.inl (Or.inl (Or.inl (Or.inl (Or.inl (Or.inl (Or.inl (Or.inl (Or.inl (Or.inl (Or.inl (Or.inl (Or.inl (Or.inl (Or.inl (Or.inl (Or.inl (Or.inl (Or.inl (Or.inl (Or.inl (Or.inl (Or.inl (Or.inl hS))))))))))))))))))))))))))))))))) (Or.inr ⟨rfl, rfl, rfl⟩) (rt_a (f := 944) rfl rfl rfl)) (fun h hz => ?_)
  refine w_aload_n 0 dX14_init_287 rfl rfl rfl ?_
  refine w_sipush 1200 dX14_init_288 rfl rfl ?_
  refine w_newJ (n := 1200) hrm dX14_init_291 rfl a_long (by decide) rfl (by decide) (Nat.le_of_ble_eq_true rfl) (Nat.le_of_ble_eq_true rfl) (fun q hq => ?_)
  refine i_addA hz hq (f0 := 945) (p0 := 0) (s0 := 0) rfl (by decide) rfl ?_ (Zr.sI (Zr.sR (hZ _ _ _ (by omega))) (by decide) (by decide)) (fun A100 h hA99 hz => ?_)
  · intro q
    rcases q with q | q
    rotate_left
    · omega
    rcases q with q | q
    rotate_left
    · omega
    rcases q with q | q
    rotate_left
    · omega
    rcases q with q | q
    rotate_left
    · omega
    rcases q with q | q
    rotate_left
    · omega
    rcases q with q | q
    rotate_left
    · omega
    rcases q with q | q
    rotate_left
    · omega
    rcases q with q | q
    rotate_left
    · omega
    rcases q with q | q
    rotate_left
    · omega
    rcases q with q | q
    rotate_left
    · omega
    rcases q with q | q
    rotate_left
    · omega
    rcases q with q | q
    rotate_left
    · omega
    rcases q with q | q
    rotate_left
    · omega
    rcases q with q | q
    rotate_left
    · omega
    rcases q with q | q
    rotate_left
    · omega
    rcases q with q | q
    rotate_left
    · omega
    rcases q with q | q
    rotate_left
    · omega
    rcases q with q | q
    rotate_left
    · omega
    rcases q with q | q
    rotate_left
    · omega
    rcases q with q | q
    rotate_left
    · omega
    rcases q with q | q
    rotate_left
    · omega
    rcases q with q | q
    rotate_left
    · omega
    rcases q with q | q
    rotate_left
    · omega
    rcases q with q | q
    rotate_left
    · omega
    rcases q with q | q
    rotate_left
    · omega
    rcases q with q | q
    rotate_left
    · omega
    rcases q with q | q
    rotate_left
    · omega
    rcases q with q | q
    rotate_left
    · omega
    rcases q with q | q
    rotate_left
    · omega
    rcases q with q | q
    rotate_left
    · omega
    rcases q with q | q
    rotate_left
    · simp only [GPrg] at q; omega
    rcases q with q | q
    rotate_left
    · omega
    rcases q with q | q
    rotate_left
    · omega
    exact hN _ _ _ (by omega) q
  have hX := hX.trans hA99 (fun _ _ _ q => Or.inl (Or.inl (Or.inl (Or.inl (Or.inl (Or.inl (Or.inl (Or.inl (Or.inl (Or.inl (Or.inl (Or.inl (Or.inl (Or.inl (Or.inl (Or.inl (Or.inl (Or.inl (Or.inl (Or.inl (Or.inl (Or.inl (Or.inl (Or.inl (Or.inl (Or.inl (Or.inl (Or.inl (Or.inl (Or.inl (Or.inl (Or.inl (Or.inl (q))))))))))))))))))))))))))))))))))
  rw [← hA99 14 0 0 (Or.inl (Or.inl (Or.inl (Or.inl (Or.inl (Or.inl (Or.inl (Or.inl (Or.inl (Or.inl (Or.inl (Or.inl (Or.inl (Or.inl (Or.inl (Or.inl (Or.inl (Or.inl (Or.inl (Or.inl (Or.inl (Or.inl (Or.inl (Or.inl (Or.inl (Or.inl (Or.inl (Or.inl (Or.inl (Or.inl (Or.inl (Or.inl (Or.inl hS)))))))))))))))))))))))))))))))))]
  refine p_X14_116 dX14_init_293 rfl (hz.kO (Or.inl (Or.inl (Or.inl (Or.inl (Or.inl (Or.inl (Or.inl (Or.inl (Or.inl (Or.inl (Or.inl (Or.inl (Or.inl (Or.inl (Or.inl (Or.inl (Or.inl (Or.inl (Or.inl (Or.inl (Or.inl (Or.inl (Or.inl (Or.inl (Or.inl (Or.inl (Or.inl (Or.inl (Or.inl (Or.inl (Or.inl (Or.inl (Or.inl (Or.inl hS)))))))))))))))))))))))))))))))))) (by decide)) rfl ?_
  refine i_fg (hz.setR (f := 945) (by decide) (Or.inl (Or.inl (Or.inl (Or.inl (Or.inl (Or.inl (Or.inl (Or.inl (Or.inl (Or.inl (Or.inl (Or.inl (Or.inl (Or.inl (Or.inl (Or.inl (Or.inl (Or.inl (Or.inl (Or.inl (Or.inl (Or.inl (Or.inl (Or.inl (Or.inl (Or.inl (Or.inl (Or.inl (Or.inl (Or.inl (Or.inl (Or.inl (Or.inl (Or.inl hS)))))))))))))))))))))))))))))))))) (Or.inr ⟨rfl, rfl, rfl⟩) (rt_a (f := 945) rfl rfl rfl)) (fun h hz => ?_)
  refine w_aload_n 0 dX14_init_296 rfl rfl rfl ?_
  refine w_bipush 8 dX14_init_297 rfl rfl ?_
  refine w_newI (n := 8) hrm dX14_init_299 rfl a_int (by decide) rfl (by decide) (Nat.le_of_ble_eq_true rfl) (Nat.le_of_ble_eq_true rfl) (fun q hq => ?_)
  refine i_addA hz hq (f0 := 947) (p0 := 0) (s0 := 0) rfl (by decide) rfl ?_ (Zr.sI (Zr.sR (hZ _ _ _ (by omega))) (by decide) (by decide)) (fun A103 h hA102 hz => ?_)
  · intro q
    rcases q with q | q
    rotate_left
    · omega
    rcases q with q | q
    rotate_left
    · omega
    rcases q with q | q
    rotate_left
    · omega
    rcases q with q | q
    rotate_left
    · omega
    rcases q with q | q
    rotate_left
    · omega
    rcases q with q | q
    rotate_left
    · omega
    rcases q with q | q
    rotate_left
    · omega
    rcases q with q | q
    rotate_left
    · omega
    rcases q with q | q
    rotate_left
    · omega
    rcases q with q | q
    rotate_left
    · omega
    rcases q with q | q
    rotate_left
    · omega
    rcases q with q | q
    rotate_left
    · omega
    rcases q with q | q
    rotate_left
    · omega
    rcases q with q | q
    rotate_left
    · omega
    rcases q with q | q
    rotate_left
    · omega
    rcases q with q | q
    rotate_left
    · omega
    rcases q with q | q
    rotate_left
    · omega
    rcases q with q | q
    rotate_left
    · omega
    rcases q with q | q
    rotate_left
    · omega
    rcases q with q | q
    rotate_left
    · omega
    rcases q with q | q
    rotate_left
    · omega
    rcases q with q | q
    rotate_left
    · omega
    rcases q with q | q
    rotate_left
    · omega
    rcases q with q | q
    rotate_left
    · omega
    rcases q with q | q
    rotate_left
    · omega
    rcases q with q | q
    rotate_left
    · omega
    rcases q with q | q
    rotate_left
    · omega
    rcases q with q | q
    rotate_left
    · omega
    rcases q with q | q
    rotate_left
    · omega
    rcases q with q | q
    rotate_left
    · omega
    rcases q with q | q
    rotate_left
    · omega
    rcases q with q | q
    rotate_left
    · simp only [GPrg] at q; omega
    rcases q with q | q
    rotate_left
    · omega
    rcases q with q | q
    rotate_left
    · omega
    exact hN _ _ _ (by omega) q
  have hX := hX.trans hA102 (fun _ _ _ q => Or.inl (Or.inl (Or.inl (Or.inl (Or.inl (Or.inl (Or.inl (Or.inl (Or.inl (Or.inl (Or.inl (Or.inl (Or.inl (Or.inl (Or.inl (Or.inl (Or.inl (Or.inl (Or.inl (Or.inl (Or.inl (Or.inl (Or.inl (Or.inl (Or.inl (Or.inl (Or.inl (Or.inl (Or.inl (Or.inl (Or.inl (Or.inl (Or.inl (Or.inl (q)))))))))))))))))))))))))))))))))))
  rw [← hA102 14 0 0 (Or.inl (Or.inl (Or.inl (Or.inl (Or.inl (Or.inl (Or.inl (Or.inl (Or.inl (Or.inl (Or.inl (Or.inl (Or.inl (Or.inl (Or.inl (Or.inl (Or.inl (Or.inl (Or.inl (Or.inl (Or.inl (Or.inl (Or.inl (Or.inl (Or.inl (Or.inl (Or.inl (Or.inl (Or.inl (Or.inl (Or.inl (Or.inl (Or.inl (Or.inl hS))))))))))))))))))))))))))))))))))]
  refine p_X14_119 dX14_init_301 rfl (hz.kO (Or.inl (Or.inl (Or.inl (Or.inl (Or.inl (Or.inl (Or.inl (Or.inl (Or.inl (Or.inl (Or.inl (Or.inl (Or.inl (Or.inl (Or.inl (Or.inl (Or.inl (Or.inl (Or.inl (Or.inl (Or.inl (Or.inl (Or.inl (Or.inl (Or.inl (Or.inl (Or.inl (Or.inl (Or.inl (Or.inl (Or.inl (Or.inl (Or.inl (Or.inl (Or.inl hS))))))))))))))))))))))))))))))))))) (by decide)) rfl ?_
  refine i_fg (hz.setR (f := 947) (by decide) (Or.inl (Or.inl (Or.inl (Or.inl (Or.inl (Or.inl (Or.inl (Or.inl (Or.inl (Or.inl (Or.inl (Or.inl (Or.inl (Or.inl (Or.inl (Or.inl (Or.inl (Or.inl (Or.inl (Or.inl (Or.inl (Or.inl (Or.inl (Or.inl (Or.inl (Or.inl (Or.inl (Or.inl (Or.inl (Or.inl (Or.inl (Or.inl (Or.inl (Or.inl (Or.inl hS))))))))))))))))))))))))))))))))))) (Or.inr ⟨rfl, rfl, rfl⟩) (rt_a (f := 947) rfl rfl rfl)) (fun h hz => ?_)
  refine w_aload_n 0 dX14_init_304 rfl rfl rfl ?_
  refine w_bipush 6 dX14_init_305 rfl rfl ?_
  refine w_newJ (n := 6) hrm dX14_init_307 rfl a_long (by decide) rfl (by decide) (Nat.le_of_ble_eq_true rfl) (Nat.le_of_ble_eq_true rfl) (fun q hq => ?_)
  refine i_addA hz hq (f0 := 949) (p0 := 0) (s0 := 0) rfl (by decide) rfl ?_ (Zr.sI (Zr.sR (hZ _ _ _ (by omega))) (by decide) (by decide)) (fun A106 h hA105 hz => ?_)
  · intro q
    rcases q with q | q
    rotate_left
    · omega
    rcases q with q | q
    rotate_left
    · omega
    rcases q with q | q
    rotate_left
    · omega
    rcases q with q | q
    rotate_left
    · omega
    rcases q with q | q
    rotate_left
    · omega
    rcases q with q | q
    rotate_left
    · omega
    rcases q with q | q
    rotate_left
    · omega
    rcases q with q | q
    rotate_left
    · omega
    rcases q with q | q
    rotate_left
    · omega
    rcases q with q | q
    rotate_left
    · omega
    rcases q with q | q
    rotate_left
    · omega
    rcases q with q | q
    rotate_left
    · omega
    rcases q with q | q
    rotate_left
    · omega
    rcases q with q | q
    rotate_left
    · omega
    rcases q with q | q
    rotate_left
    · omega
    rcases q with q | q
    rotate_left
    · omega
    rcases q with q | q
    rotate_left
    · omega
    rcases q with q | q
    rotate_left
    · omega
    rcases q with q | q
    rotate_left
    · omega
    rcases q with q | q
    rotate_left
    · omega
    rcases q with q | q
    rotate_left
    · omega
    rcases q with q | q
    rotate_left
    · omega
    rcases q with q | q
    rotate_left
    · omega
    rcases q with q | q
    rotate_left
    · omega
    rcases q with q | q
    rotate_left
    · omega
    rcases q with q | q
    rotate_left
    · omega
    rcases q with q | q
    rotate_left
    · omega
    rcases q with q | q
    rotate_left
    · omega
    rcases q with q | q
    rotate_left
    · omega
    rcases q with q | q
    rotate_left
    · omega
    rcases q with q | q
    rotate_left
    · omega
    rcases q with q | q
    rotate_left
    · omega
    rcases q with q | q
    rotate_left
    · simp only [GPrg] at q; omega
    rcases q with q | q
    rotate_left
    · omega
    rcases q with q | q
    rotate_left
    · omega
    exact hN _ _ _ (by omega) q
  have hX := hX.trans hA105 (fun _ _ _ q => Or.inl (Or.inl (Or.inl (Or.inl (Or.inl (Or.inl (Or.inl (Or.inl (Or.inl (Or.inl (Or.inl (Or.inl (Or.inl (Or.inl (Or.inl (Or.inl (Or.inl (Or.inl (Or.inl (Or.inl (Or.inl (Or.inl (Or.inl (Or.inl (Or.inl (Or.inl (Or.inl (Or.inl (Or.inl (Or.inl (Or.inl (Or.inl (Or.inl (Or.inl (Or.inl (q))))))))))))))))))))))))))))))))))))
  rw [← hA105 14 0 0 (Or.inl (Or.inl (Or.inl (Or.inl (Or.inl (Or.inl (Or.inl (Or.inl (Or.inl (Or.inl (Or.inl (Or.inl (Or.inl (Or.inl (Or.inl (Or.inl (Or.inl (Or.inl (Or.inl (Or.inl (Or.inl (Or.inl (Or.inl (Or.inl (Or.inl (Or.inl (Or.inl (Or.inl (Or.inl (Or.inl (Or.inl (Or.inl (Or.inl (Or.inl (Or.inl hS)))))))))))))))))))))))))))))))))))]
  refine p_X14_122 dX14_init_309 rfl (hz.kO (Or.inl (Or.inl (Or.inl (Or.inl (Or.inl (Or.inl (Or.inl (Or.inl (Or.inl (Or.inl (Or.inl (Or.inl (Or.inl (Or.inl (Or.inl (Or.inl (Or.inl (Or.inl (Or.inl (Or.inl (Or.inl (Or.inl (Or.inl (Or.inl (Or.inl (Or.inl (Or.inl (Or.inl (Or.inl (Or.inl (Or.inl (Or.inl (Or.inl (Or.inl (Or.inl (Or.inl hS)))))))))))))))))))))))))))))))))))) (by decide)) rfl ?_
  refine i_fg (hz.setR (f := 949) (by decide) (Or.inl (Or.inl (Or.inl (Or.inl (Or.inl (Or.inl (Or.inl (Or.inl (Or.inl (Or.inl (Or.inl (Or.inl (Or.inl (Or.inl (Or.inl (Or.inl (Or.inl (Or.inl (Or.inl (Or.inl (Or.inl (Or.inl (Or.inl (Or.inl (Or.inl (Or.inl (Or.inl (Or.inl (Or.inl (Or.inl (Or.inl (Or.inl (Or.inl (Or.inl (Or.inl (Or.inl hS)))))))))))))))))))))))))))))))))))) (Or.inr ⟨rfl, rfl, rfl⟩) (rt_a (f := 949) rfl rfl rfl)) (fun h hz => ?_)
  refine w_aload_n 0 dX14_init_312 rfl rfl rfl ?_
  refine w_bipush 12 dX14_init_313 rfl rfl ?_
  refine w_newJ (n := 12) hrm dX14_init_315 rfl a_long (by decide) rfl (by decide) (Nat.le_of_ble_eq_true rfl) (Nat.le_of_ble_eq_true rfl) (fun q hq => ?_)
  refine i_addA hz hq (f0 := 951) (p0 := 0) (s0 := 0) rfl (by decide) rfl ?_ (Zr.sI (Zr.sR (hZ _ _ _ (by omega))) (by decide) (by decide)) (fun A109 h hA108 hz => ?_)
  · intro q
    rcases q with q | q
    rotate_left
    · omega
    rcases q with q | q
    rotate_left
    · omega
    rcases q with q | q
    rotate_left
    · omega
    rcases q with q | q
    rotate_left
    · omega
    rcases q with q | q
    rotate_left
    · omega
    rcases q with q | q
    rotate_left
    · omega
    rcases q with q | q
    rotate_left
    · omega
    rcases q with q | q
    rotate_left
    · omega
    rcases q with q | q
    rotate_left
    · omega
    rcases q with q | q
    rotate_left
    · omega
    rcases q with q | q
    rotate_left
    · omega
    rcases q with q | q
    rotate_left
    · omega
    rcases q with q | q
    rotate_left
    · omega
    rcases q with q | q
    rotate_left
    · omega
    rcases q with q | q
    rotate_left
    · omega
    rcases q with q | q
    rotate_left
    · omega
    rcases q with q | q
    rotate_left
    · omega
    rcases q with q | q
    rotate_left
    · omega
    rcases q with q | q
    rotate_left
    · omega
    rcases q with q | q
    rotate_left
    · omega
    rcases q with q | q
    rotate_left
    · omega
    rcases q with q | q
    rotate_left
    · omega
    rcases q with q | q
    rotate_left
    · omega
    rcases q with q | q
    rotate_left
    · omega
    rcases q with q | q
    rotate_left
    · omega
    rcases q with q | q
    rotate_left
    · omega
    rcases q with q | q
    rotate_left
    · omega
    rcases q with q | q
    rotate_left
    · omega
    rcases q with q | q
    rotate_left
    · omega
    rcases q with q | q
    rotate_left
    · omega
    rcases q with q | q
    rotate_left
    · omega
    rcases q with q | q
    rotate_left
    · omega
    rcases q with q | q
    rotate_left
    · omega
    rcases q with q | q
    rotate_left
    · simp only [GPrg] at q; omega
    rcases q with q | q
    rotate_left
    · omega
    rcases q with q | q
    rotate_left
    · omega
    exact hN _ _ _ (by omega) q
  have hX := hX.trans hA108 (fun _ _ _ q => Or.inl (Or.inl (Or.inl (Or.inl (Or.inl (Or.inl (Or.inl (Or.inl (Or.inl (Or.inl (Or.inl (Or.inl (Or.inl (Or.inl (Or.inl (Or.inl (Or.inl (Or.inl (Or.inl (Or.inl (Or.inl (Or.inl (Or.inl (Or.inl (Or.inl (Or.inl (Or.inl (Or.inl (Or.inl (Or.inl (Or.inl (Or.inl (Or.inl (Or.inl (Or.inl (Or.inl (q)))))))))))))))))))))))))))))))))))))
  rw [← hA108 14 0 0 (Or.inl (Or.inl (Or.inl (Or.inl (Or.inl (Or.inl (Or.inl (Or.inl (Or.inl (Or.inl (Or.inl (Or.inl (Or.inl (Or.inl (Or.inl (Or.inl (Or.inl (Or.inl (Or.inl (Or.inl (Or.inl (Or.inl (Or.inl (Or.inl (Or.inl (Or.inl (Or.inl (Or.inl (Or.inl (Or.inl (Or.inl (Or.inl (Or.inl (Or.inl (Or.inl (Or.inl hS))))))))))))))))))))))))))))))))))))]
  refine p_X14_125 dX14_init_317 rfl (hz.kO (Or.inl (Or.inl (Or.inl (Or.inl (Or.inl (Or.inl (Or.inl (Or.inl (Or.inl (Or.inl (Or.inl (Or.inl (Or.inl (Or.inl (Or.inl (Or.inl (Or.inl (Or.inl (Or.inl (Or.inl (Or.inl (Or.inl (Or.inl (Or.inl (Or.inl (Or.inl (Or.inl (Or.inl (Or.inl (Or.inl (Or.inl (Or.inl (Or.inl (Or.inl (Or.inl (Or.inl (Or.inl hS))))))))))))))))))))))))))))))))))))) (by decide)) rfl ?_
  refine i_fg (hz.setR (f := 951) (by decide) (Or.inl (Or.inl (Or.inl (Or.inl (Or.inl (Or.inl (Or.inl (Or.inl (Or.inl (Or.inl (Or.inl (Or.inl (Or.inl (Or.inl (Or.inl (Or.inl (Or.inl (Or.inl (Or.inl (Or.inl (Or.inl (Or.inl (Or.inl (Or.inl (Or.inl (Or.inl (Or.inl (Or.inl (Or.inl (Or.inl (Or.inl (Or.inl (Or.inl (Or.inl (Or.inl (Or.inl (Or.inl hS))))))))))))))))))))))))))))))))))))) (Or.inr ⟨rfl, rfl, rfl⟩) (rt_a (f := 951) rfl rfl rfl)) (fun h hz => ?_)
  refine w_aload_n 0 dX14_init_320 rfl rfl rfl ?_
  refine w_bipush 12 dX14_init_321 rfl rfl ?_
  refine w_newI (n := 12) hrm dX14_init_323 rfl a_int (by decide) rfl (by decide) (Nat.le_of_ble_eq_true rfl) (Nat.le_of_ble_eq_true rfl) (fun q hq => ?_)
  refine i_addA hz hq (f0 := 952) (p0 := 0) (s0 := 0) rfl (by decide) rfl ?_ (Zr.sI (Zr.sR (hZ _ _ _ (by omega))) (by decide) (by decide)) (fun A112 h hA111 hz => ?_)
  · intro q
    rcases q with q | q
    rotate_left
    · omega
    rcases q with q | q
    rotate_left
    · omega
    rcases q with q | q
    rotate_left
    · omega
    rcases q with q | q
    rotate_left
    · omega
    rcases q with q | q
    rotate_left
    · omega
    rcases q with q | q
    rotate_left
    · omega
    rcases q with q | q
    rotate_left
    · omega
    rcases q with q | q
    rotate_left
    · omega
    rcases q with q | q
    rotate_left
    · omega
    rcases q with q | q
    rotate_left
    · omega
    rcases q with q | q
    rotate_left
    · omega
    rcases q with q | q
    rotate_left
    · omega
    rcases q with q | q
    rotate_left
    · omega
    rcases q with q | q
    rotate_left
    · omega
    rcases q with q | q
    rotate_left
    · omega
    rcases q with q | q
    rotate_left
    · omega
    rcases q with q | q
    rotate_left
    · omega
    rcases q with q | q
    rotate_left
    · omega
    rcases q with q | q
    rotate_left
    · omega
    rcases q with q | q
    rotate_left
    · omega
    rcases q with q | q
    rotate_left
    · omega
    rcases q with q | q
    rotate_left
    · omega
    rcases q with q | q
    rotate_left
    · omega
    rcases q with q | q
    rotate_left
    · omega
    rcases q with q | q
    rotate_left
    · omega
    rcases q with q | q
    rotate_left
    · omega
    rcases q with q | q
    rotate_left
    · omega
    rcases q with q | q
    rotate_left
    · omega
    rcases q with q | q
    rotate_left
    · omega
    rcases q with q | q
    rotate_left
    · omega
    rcases q with q | q
    rotate_left
    · omega
    rcases q with q | q
    rotate_left
    · omega
    rcases q with q | q
    rotate_left
    · omega
    rcases q with q | q
    rotate_left
    · omega
    rcases q with q | q
    rotate_left
    · simp only [GPrg] at q; omega
    rcases q with q | q
    rotate_left
    · omega
    rcases q with q | q
    rotate_left
    · omega
    exact hN _ _ _ (by omega) q
  have hX := hX.trans hA111 (fun _ _ _ q => Or.inl (Or.inl (Or.inl (Or.inl (Or.inl (Or.inl (Or.inl (Or.inl (Or.inl (Or.inl (Or.inl (Or.inl (Or.inl (Or.inl (Or.inl (Or.inl (Or.inl (Or.inl (Or.inl (Or.inl (Or.inl (Or.inl (Or.inl (Or.inl (Or.inl (Or.inl (Or.inl (Or.inl (Or.inl (Or.inl (Or.inl (Or.inl (Or.inl (Or.inl (Or.inl (Or.inl (Or.inl (q))))))))))))))))))))))))))))))))))))))
  rw [← hA111 14 0 0 (Or.inl (Or.inl (Or.inl (Or.inl (Or.inl (Or.inl (Or.inl (Or.inl (Or.inl (Or.inl (Or.inl (Or.inl (Or.inl (Or.inl (Or.inl (Or.inl (Or.inl (Or.inl (Or.inl (Or.inl (Or.inl (Or.inl (Or.inl (Or.inl (Or.inl (Or.inl (Or.inl (Or.inl (Or.inl (Or.inl (Or.inl (Or.inl (Or.inl (Or.inl (Or.inl (Or.inl (Or.inl hS)))))))))))))))))))))))))))))))))))))]
  refine p_X14_128 dX14_init_325 rfl (hz.kO (Or.inl (Or.inl (Or.inl (Or.inl (Or.inl (Or.inl (Or.inl (Or.inl (Or.inl (Or.inl (Or.inl (Or.inl (Or.inl (Or.inl (Or.inl (Or.inl (Or.inl (Or.inl (Or.inl (Or.inl (Or.inl (Or.inl (Or.inl (Or.inl (Or.inl (Or.inl (Or.inl (Or.inl (Or.inl (Or.inl (Or.inl (Or.inl (Or.inl (Or.inl (Or.inl (Or.inl (Or.inl (Or.inl hS)))))))))))))))))))))))))))))))))))))) (by decide)) rfl ?_
  refine i_fg (hz.setR (f := 952) (by decide) (Or.inl (Or.inl (Or.inl (Or.inl (Or.inl (Or.inl (Or.inl (Or.inl (Or.inl (Or.inl (Or.inl (Or.inl (Or.inl (Or.inl (Or.inl (Or.inl (Or.inl (Or.inl (Or.inl (Or.inl (Or.inl (Or.inl (Or.inl (Or.inl (Or.inl (Or.inl (Or.inl (Or.inl (Or.inl (Or.inl (Or.inl (Or.inl (Or.inl (Or.inl (Or.inl (Or.inl (Or.inl (Or.inl hS)))))))))))))))))))))))))))))))))))))) (Or.inr ⟨rfl, rfl, rfl⟩) (rt_a (f := 952) rfl rfl rfl)) (fun h hz => ?_)
  refine w_aload_n 0 dX14_init_328 rfl rfl rfl ?_
  refine w_bipush 12 dX14_init_329 rfl rfl ?_
  refine w_newI (n := 12) hrm dX14_init_331 rfl a_int (by decide) rfl (by decide) (Nat.le_of_ble_eq_true rfl) (Nat.le_of_ble_eq_true rfl) (fun q hq => ?_)
  refine i_addA hz hq (f0 := 953) (p0 := 0) (s0 := 0) rfl (by decide) rfl ?_ (Zr.sI (Zr.sR (hZ _ _ _ (by omega))) (by decide) (by decide)) (fun A115 h hA114 hz => ?_)
  · intro q
    rcases q with q | q
    rotate_left
    · omega
    rcases q with q | q
    rotate_left
    · omega
    rcases q with q | q
    rotate_left
    · omega
    rcases q with q | q
    rotate_left
    · omega
    rcases q with q | q
    rotate_left
    · omega
    rcases q with q | q
    rotate_left
    · omega
    rcases q with q | q
    rotate_left
    · omega
    rcases q with q | q
    rotate_left
    · omega
    rcases q with q | q
    rotate_left
    · omega
    rcases q with q | q
    rotate_left
    · omega
    rcases q with q | q
    rotate_left
    · omega
    rcases q with q | q
    rotate_left
    · omega
    rcases q with q | q
    rotate_left
    · omega
    rcases q with q | q
    rotate_left
    · omega
    rcases q with q | q
    rotate_left
    · omega
    rcases q with q | q
    rotate_left
    · omega
    rcases q with q | q
    rotate_left
    · omega
    rcases q with q | q
    rotate_left
    · omega
    rcases q with q | q
    rotate_left
    · omega
    rcases q with q | q
    rotate_left
    · omega
    rcases q with q | q
    rotate_left
    · omega
    rcases q with q | q
    rotate_left
    · omega
    rcases q with q | q
    rotate_left
    · omega
    rcases q with q | q
    rotate_left
    · omega
    rcases q with q | q
    rotate_left
    · omega
    rcases q with q | q
    rotate_left
    · omega
    rcases q with q | q
    rotate_left
    · omega
    rcases q with q | q
    rotate_left
    · omega
    rcases q with q | q
    rotate_left
    · omega
    rcases q with q | q
    rotate_left
    · omega
    rcases q with q | q
    rotate_left
    · omega
    rcases q with q | q
    rotate_left
    · omega
    rcases q with q | q
    rotate_left
    · omega
    rcases q with q | q
    rotate_left
    · omega
    rcases q with q | q
    rotate_left
    · omega
    rcases q with q | q
    rotate_left
    · simp only [GPrg] at q; omega
    rcases q with q | q
    rotate_left
    · omega
    rcases q with q | q
    rotate_left
    · omega
    exact hN _ _ _ (by omega) q
  have hX := hX.trans hA114 (fun _ _ _ q => Or.inl (Or.inl (Or.inl (Or.inl (Or.inl (Or.inl (Or.inl (Or.inl (Or.inl (Or.inl (Or.inl (Or.inl (Or.inl (Or.inl (Or.inl (Or.inl (Or.inl (Or.inl (Or.inl (Or.inl (Or.inl (Or.inl (Or.inl (Or.inl (Or.inl (Or.inl (Or.inl (Or.inl (Or.inl (Or.inl (Or.inl (Or.inl (Or.inl (Or.inl (Or.inl (Or.inl (Or.inl (Or.inl (q)))))))))))))))))))))))))))))))))))))))
  rw [← hA114 14 0 0 (Or.inl (Or.inl (Or.inl (Or.inl (Or.inl (Or.inl (Or.inl (Or.inl (Or.inl (Or.inl (Or.inl (Or.inl (Or.inl (Or.inl (Or.inl (Or.inl (Or.inl (Or.inl (Or.inl (Or.inl (Or.inl (Or.inl (Or.inl (Or.inl (Or.inl (Or.inl (Or.inl (Or.inl (Or.inl (Or.inl (Or.inl (Or.inl (Or.inl (Or.inl (Or.inl (Or.inl (Or.inl (Or.inl hS))))))))))))))))))))))))))))))))))))))]
  refine p_X14_131 dX14_init_333 rfl (hz.kO (Or.inl (Or.inl (Or.inl (Or.inl (Or.inl (Or.inl (Or.inl (Or.inl (Or.inl (Or.inl (Or.inl (Or.inl (Or.inl (Or.inl (Or.inl (Or.inl (Or.inl (Or.inl (Or.inl (Or.inl (Or.inl (Or.inl (Or.inl (Or.inl (Or.inl (Or.inl (Or.inl (Or.inl (Or.inl (Or.inl (Or.inl (Or.inl (Or.inl (Or.inl (Or.inl (Or.inl (Or.inl (Or.inl (Or.inl hS))))))))))))))))))))))))))))))))))))))) (by decide)) rfl ?_
  refine i_fg (hz.setR (f := 953) (by decide) (Or.inl (Or.inl (Or.inl (Or.inl (Or.inl (Or.inl (Or.inl (Or.inl (Or.inl (Or.inl (Or.inl (Or.inl (Or.inl (Or.inl (Or.inl (Or.inl (Or.inl (Or.inl (Or.inl (Or.inl (Or.inl (Or.inl (Or.inl (Or.inl (Or.inl (Or.inl (Or.inl (Or.inl (Or.inl (Or.inl (Or.inl (Or.inl (Or.inl (Or.inl (Or.inl (Or.inl (Or.inl (Or.inl (Or.inl hS))))))))))))))))))))))))))))))))))))))) (Or.inr ⟨rfl, rfl, rfl⟩) (rt_a (f := 953) rfl rfl rfl)) (fun h hz => ?_)
  refine w_aload_n 0 dX14_init_336 rfl rfl rfl ?_
  refine w_sipush 16800 dX14_init_337 rfl rfl ?_
  refine w_newJ (n := 16800) hrm dX14_init_340 rfl a_long (by decide) rfl (by decide) (Nat.le_of_ble_eq_true rfl) (Nat.le_of_ble_eq_true rfl) (fun q hq => ?_)
  refine i_addA hz hq (f0 := 954) (p0 := 0) (s0 := 0) rfl (by decide) rfl ?_ (Zr.sI (Zr.sR (hZ _ _ _ (by omega))) (by decide) (by decide)) (fun A118 h hA117 hz => ?_)
  · intro q
    rcases q with q | q
    rotate_left
    · omega
    rcases q with q | q
    rotate_left
    · omega
    rcases q with q | q
    rotate_left
    · omega
    rcases q with q | q
    rotate_left
    · omega
    rcases q with q | q
    rotate_left
    · omega
    rcases q with q | q
    rotate_left
    · omega
    rcases q with q | q
    rotate_left
    · omega
    rcases q with q | q
    rotate_left
    · omega
    rcases q with q | q
    rotate_left
    · omega
    rcases q with q | q
    rotate_left
    · omega
    rcases q with q | q
    rotate_left
    · omega
    rcases q with q | q
    rotate_left
    · omega
    rcases q with q | q
    rotate_left
    · omega
    rcases q with q | q
    rotate_left
    · omega
    rcases q with q | q
    rotate_left
    · omega
    rcases q with q | q
    rotate_left
    · omega
    rcases q with q | q
    rotate_left
    · omega
    rcases q with q | q
    rotate_left
    · omega
    rcases q with q | q
    rotate_left
    · omega
    rcases q with q | q
    rotate_left
    · omega
    rcases q with q | q
    rotate_left
    · omega
    rcases q with q | q
    rotate_left
    · omega
    rcases q with q | q
    rotate_left
    · omega
    rcases q with q | q
    rotate_left
    · omega
    rcases q with q | q
    rotate_left
    · omega
    rcases q with q | q
    rotate_left
    · omega
    rcases q with q | q
    rotate_left
    · omega
    rcases q with q | q
    rotate_left
    · omega
    rcases q with q | q
    rotate_left
    · omega
    rcases q with q | q
    rotate_left
    · omega
    rcases q with q | q
    rotate_left
    · omega
    rcases q with q | q
    rotate_left
    · omega
    rcases q with q | q
    rotate_left
    · omega
    rcases q with q | q
    rotate_left
    · omega
    rcases q with q | q
    rotate_left
    · omega
    rcases q with q | q
    rotate_left
    · omega
    rcases q with q | q
    rotate_left
    · simp only [GPrg] at q; omega
    rcases q with q | q
    rotate_left
    · omega
    rcases q with q | q
    rotate_left
    · omega
    exact hN _ _ _ (by omega) q
  have hX := hX.trans hA117 (fun _ _ _ q => Or.inl (Or.inl (Or.inl (Or.inl (Or.inl (Or.inl (Or.inl (Or.inl (Or.inl (Or.inl (Or.inl (Or.inl (Or.inl (Or.inl (Or.inl (Or.inl (Or.inl (Or.inl (Or.inl (Or.inl (Or.inl (Or.inl (Or.inl (Or.inl (Or.inl (Or.inl (Or.inl (Or.inl (Or.inl (Or.inl (Or.inl (Or.inl (Or.inl (Or.inl (Or.inl (Or.inl (Or.inl (Or.inl (Or.inl (q))))))))))))))))))))))))))))))))))))))))
  rw [← hA117 14 0 0 (Or.inl (Or.inl (Or.inl (Or.inl (Or.inl (Or.inl (Or.inl (Or.inl (Or.inl (Or.inl (Or.inl (Or.inl (Or.inl (Or.inl (Or.inl (Or.inl (Or.inl (Or.inl (Or.inl (Or.inl (Or.inl (Or.inl (Or.inl (Or.inl (Or.inl (Or.inl (Or.inl (Or.inl (Or.inl (Or.inl (Or.inl (Or.inl (Or.inl (Or.inl (Or.inl (Or.inl (Or.inl (Or.inl (Or.inl hS)))))))))))))))))))))))))))))))))))))))]
  refine p_X14_134 dX14_init_342 rfl (hz.kO (Or.inl (Or.inl (Or.inl (Or.inl (Or.inl (Or.inl (Or.inl (Or.inl (Or.inl (Or.inl (Or.inl (Or.inl (Or.inl (Or.inl (Or.inl (Or.inl (Or.inl (Or.inl (Or.inl (Or.inl (Or.inl (Or.inl (Or.inl (Or.inl (Or.inl (Or.inl (Or.inl (Or.inl (Or.inl (Or.inl (Or.inl (Or.inl (Or.inl (Or.inl (Or.inl (Or.inl (Or.inl (Or.inl (Or.inl (Or.inl hS)))))))))))))))))))))))))))))))))))))))) (by decide)) rfl ?_
  refine i_fg (hz.setR (f := 954) (by decide) (Or.inl (Or.inl (Or.inl (Or.inl (Or.inl (Or.inl (Or.inl (Or.inl (Or.inl (Or.inl (Or.inl (Or.inl (Or.inl (Or.inl (Or.inl (Or.inl (Or.inl (Or.inl (Or.inl (Or.inl (Or.inl (Or.inl (Or.inl (Or.inl (Or.inl (Or.inl (Or.inl (Or.inl (Or.inl (Or.inl (Or.inl (Or.inl (Or.inl (Or.inl (Or.inl (Or.inl (Or.inl (Or.inl (Or.inl (Or.inl hS)))))))))))))))))))))))))))))))))))))))) (Or.inr ⟨rfl, rfl, rfl⟩) (rt_a (f := 954) rfl rfl rfl)) (fun h hz => ?_)
  refine w_iconst 0 dX14_init_345 rfl rfl ?_
  refine w_istore_n [(1, .int 0), (0, .ref (A118 14 0 0))] dX14_init_346 rfl rfl (by decide) rfl ?_
  refine w_iconst 0 dX14_init_347 rfl rfl ?_
  refine w_istore_n [(2, .int 0), (1, .int 0), (0, .ref (A118 14 0 0))] dX14_init_348 rfl rfl (by decide) rfl ?_
  rw [← kZ_0 (c := 1921) (z := (sI (sR z 898 0 0 0 (0, 0)) 915 0 0 0 (-1))) (fun i => ((hZ 1921 0 0 (by omega)).2 i).2)] at hz
  refine l_X14_init (S := (Sa (Sa (Sa (Sa (Sa (Sa (Sa (Sa (Sa (Sa (Sa (Sa (Sa (Sa (Sa (Sa (Sa (Sa (Sa (Sa (Sa (Sa (Sa (Sa (Sa (Sa (Sa (Sa (Sa (Sa (Sa (Sa (Sa (Sa (Sa (Sa (Sa (Su (Sa (Sa S 1921 0 0) 12 0 0) (GPrg 0)) 1923 0 0) 1926 0 0) 1927 0 0) 1928 0 0) 1936 0 0) 1937 0 0) 1938 0 0) 1940 0 0) 1941 0 0) 1942 0 0) 1943 0 0) 1944 0 0) 1945 0 0) 1946 0 0) 1948 0 0) 1949 0 0) 1950 0 0) 1951 0 0) 1956 0 0) 1957 0 0) 1958 0 0) 1959 0 0) 1960 0 0) 1961 0 0) 1962 0 0) 1963 0 0) 1965 0 0) 1966 0 0) 1967 0 0) 1968 0 0) 1969 0 0) 1971 0 0) 1973 0 0) 1975 0 0) 1976 0 0) 1977 0 0) 1978 0 0)) (F := (Sa (Sa (Sa (Sa (Sa (Sa (Sa (Sa (Sa (Sa (Sa (Sa (Sa (Sa (Sa (Sa (Sa (Sa (Sa (Sa (Sa (Sa (Sa (Sa (Sa (Sa (Sa (Sa (Sa (Sa (Sa (Sa (Sa (Sa (Sa (Sa (Sa (Sa (Su (Sa F 897 0 0) (FGPrg 0)) 898 0 0) 899 0 0) 902 0 0) 903 0 0) 904 0 0) 912 0 0) 913 0 0) 914 0 0) 916 0 0) 917 0 0) 918 0 0) 919 0 0) 920 0 0) 921 0 0) 922 0 0) 924 0 0) 925 0 0) 926 0 0) 927 0 0) 932 0 0) 933 0 0) 934 0 0) 935 0 0) 936 0 0) 937 0 0) 938 0 0) 939 0 0) 941 0 0) 942 0 0) 943 0 0) 944 0 0) 945 0 0) 947 0 0) 949 0 0) 951 0 0) 952 0 0) 953 0 0) 954 0 0)) (E := E) (z := (sI (sR z 898 0 0 0 (0, 0)) 915 0 0 0 (-1))) (Or.inl (Or.inl (Or.inl (Or.inl (Or.inl (Or.inl (Or.inl (Or.inl (Or.inl (Or.inl (Or.inl (Or.inl (Or.inl (Or.inl (Or.inl (Or.inl (Or.inl (Or.inl (Or.inl (Or.inl (Or.inl (Or.inl (Or.inl (Or.inl (Or.inl (Or.inl (Or.inl (Or.inl (Or.inl (Or.inl (Or.inl (Or.inl (Or.inl (Or.inl (Or.inl (Or.inl (Or.inl (Or.inl (Or.inl (Or.inl hS)))))))))))))))))))))))))))))))))))))))) (Or.inl (Or.inl (Or.inl (Or.inl (Or.inl (Or.inl (Or.inl (Or.inl (Or.inl (Or.inl (Or.inl (Or.inl (Or.inl (Or.inl (Or.inl (Or.inl (Or.inl (Or.inl (Or.inl (Or.inl (Or.inl (Or.inl (Or.inl (Or.inl (Or.inl (Or.inl (Or.inl (Or.inl (Or.inl (Or.inl (Or.inl (Or.inl (Or.inl (Or.inl (Or.inl (Or.inl (Or.inl (Or.inl (Or.inl (Or.inr ⟨rfl, rfl, rfl⟩)))))))))))))))))))))))))))))))))))))))) (Or.inl (Or.inl (Or.inl (Or.inl (Or.inl (Or.inl (Or.inl (Or.inl (Or.inl (Or.inl (Or.inl (Or.inl (Or.inl (Or.inl (Or.inl (Or.inl (Or.inl (Or.inl (Or.inl (Or.inl (Or.inl (Or.inl (Or.inl (Or.inl (Or.inl (Or.inl (Or.inl (Or.inl (Or.inl (Or.inl (Or.inl (Or.inl (Or.inl (Or.inl (Or.inl (Or.inl (Or.inl (Or.inl (Or.inl (Or.inr ⟨rfl, rfl, rfl⟩)))))))))))))))))))))))))))))))))))))))) hrm (by decide) (Nat.le_of_ble_eq_true rfl) (Nat.le_of_ble_eq_true rfl) (fun h hz => ?_) 32 0 h _ rfl rfl (by rw [show (fun j => if j < 0 then kmG j else (0 : Int64)) = (fun _ => 0) from funext (fun j => if_neg (Nat.not_lt_zero j))]; exact hz)
  refine w_vret hf dX14_init_416 rfl (Nat.le_of_ble_eq_true rfl) (Nat.le_of_ble_eq_true rfl) ?_
  refine ⟨rfl, _, hX, hz.congr (fun c p9 s9 => ?_) (fun c p9 s9 q => ?_) (fun c p9 s9 q => ?_)⟩
  · simp only [Sa, Su, GMod, or_assoc]
  · simpa only [Sa, Su, FGMod, or_assoc] using q
  · exact q

