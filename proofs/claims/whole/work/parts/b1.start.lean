/-! THE LAW'S WALK: from its entry to the loop -/
theorem rg_GTok {c p9 s9 : Nat} (q : GTok c p9 s9) : c < 11 ∨ (1024 ≤ c ∧ c < 1792) := by
  unfold GTok at q
  rcases q with q | q | q | q
  · omega
  · omega
  · omega
  · omega
theorem rg_GTab {p : Nat} {s : Nat} {c p9 s9 : Nat} (q : GTab p s c p9 s9) : c < 11 ∨ (1024 ≤ c ∧ c < 1792) := by
  unfold GTab at q
  rcases q with q | q
  · omega
  · omega
theorem rg_GWin {p : Nat} {s : Nat} {c p9 s9 : Nat} (q : GWin p s c p9 s9) : c < 11 ∨ (1024 ≤ c ∧ c < 1792) := by
  unfold GWin at q
  rcases q with q | q | q | q | q
  · omega
  · omega
  · omega
  · omega
  · omega
theorem rg_GStr {p : Nat} {s : Nat} {c p9 s9 : Nat} (q : GStr p s c p9 s9) : c < 11 ∨ (1024 ≤ c ∧ c < 1792) := by
  unfold GStr at q
  rcases q with q | q | q | q | q | q | q | q | q | q | q
  · omega
  · omega
  · omega
  · omega
  · omega
  · omega
  · exact rg_GTab q
  · omega
  · omega
  · omega
  · exact rg_GWin q
theorem rg_L5a {p : Nat} {i : Nat} {c p9 s9 : Nat} (q : L5a p i c p9 s9) : c < 11 ∨ (1024 ≤ c ∧ c < 1792) := by
  unfold L5a at q
  rcases q with q | q
  · omega
  · exact rg_GStr q
theorem rg_L5b {p : Nat} {i : Nat} {c p9 s9 : Nat} (q : L5b p i c p9 s9) : c < 11 ∨ (1024 ≤ c ∧ c < 1792) := by
  unfold L5b at q
  omega
theorem rg_GPro {p : Nat} {c p9 s9 : Nat} (q : GPro p c p9 s9) : c < 11 ∨ (1024 ≤ c ∧ c < 1792) := by
  unfold GPro at q
  rcases q with q | q | q | q | q | q | q
  · omega
  · omega
  · omega
  · omega
  · omega
  · obtain ⟨i, _, q⟩ := lpG_ex q
    exact rg_L5a q
  · obtain ⟨i, _, q⟩ := lpG_ex q
    exact rg_L5b q
theorem rg_GMea {c p9 s9 : Nat} (q : GMea c p9 s9) : c < 11 ∨ (1024 ≤ c ∧ c < 1792) := by
  unfold GMea at q
  omega
theorem rg_GPar {c p9 s9 : Nat} (q : GPar c p9 s9) : c < 11 ∨ (1024 ≤ c ∧ c < 1792) := by
  exact q.elim
theorem rg_GRow {p : Nat} {s : Nat} {c p9 s9 : Nat} (q : GRow p s c p9 s9) : c < 11 ∨ (1024 ≤ c ∧ c < 1792) := by
  unfold GRow at q
  omega
theorem rg_L1h {i : Nat} {c p9 s9 : Nat} (q : L1h i c p9 s9) : c < 11 ∨ (1024 ≤ c ∧ c < 1792) := by
  unfold L1h at q
  rcases q with q | q
  · omega
  · exact rg_GRow q
theorem rg_GEng {c p9 s9 : Nat} (q : GEng c p9 s9) : c < 11 ∨ (1024 ≤ c ∧ c < 1792) := by
  unfold GEng at q
  rcases q with q | q | q | q | q | q | q | q
  · omega
  · omega
  · exact rg_GRow q
  · omega
  · exact rg_GRow q
  · omega
  · exact rg_GRow q
  · obtain ⟨i, _, q⟩ := lpG_ex q
    exact rg_L1h q
theorem rg_GEnt {s : Nat} {c p9 s9 : Nat} (q : GEnt s c p9 s9) : c < 11 ∨ (1024 ≤ c ∧ c < 1792) := by
  unfold GEnt at q
  rcases q with q | q
  · omega
  · exact rg_GRow q
theorem rg_L11e {i : Nat} {c p9 s9 : Nat} (q : L11e i c p9 s9) : c < 11 ∨ (1024 ≤ c ∧ c < 1792) := by
  unfold L11e at q
  rcases q with q | q
  · omega
  · exact rg_GEnt q
theorem rg_GDes {c p9 s9 : Nat} (q : GDes c p9 s9) : c < 11 ∨ (1024 ≤ c ∧ c < 1792) := by
  unfold GDes at q
  rcases q with q | q | q | q | q | q | q | q | q | q | q | q | q | q | q | q | q | q | q | q
  · omega
  · omega
  · exact rg_GTok q
  · omega
  · exact rg_GPro q
  · omega
  · exact rg_GPro q
  · omega
  · exact rg_GPro q
  · omega
  · exact rg_GMea q
  · omega
  · exact rg_GPar q
  · omega
  · exact rg_GEng q
  · omega
  · exact rg_GRow q
  · omega
  · omega
  · obtain ⟨i, _, q⟩ := lpG_ex q
    exact rg_L11e q
theorem rg_GPrg {p : Nat} {c p9 s9 : Nat} (q : GPrg p c p9 s9) : c = 12 ∨ (1792 ≤ c ∧ c < 1856) ∨ (1920 ≤ c ∧ c < 1984) := by
  unfold GPrg at q
  rcases q with q | q | q | q | q | q | q | q | q | q | q | q | q | q | q | q | q
  · omega
  · omega
  · omega
  · omega
  · omega
  · omega
  · omega
  · omega
  · omega
  · omega
  · omega
  · omega
  · omega
  · omega
  · omega
  · omega
  · omega
theorem rg_GMod {c p9 s9 : Nat} (q : GMod c p9 s9) : c = 12 ∨ (1792 ≤ c ∧ c < 1856) ∨ (1920 ≤ c ∧ c < 1984) := by
  unfold GMod at q
  rcases q with q | q | q | q | q | q | q | q | q | q | q | q | q | q | q | q | q | q | q | q | q | q | q | q | q | q | q | q | q | q | q | q | q | q | q | q | q | q | q | q
  · omega
  · omega
  · exact rg_GPrg q
  · omega
  · omega
  · omega
  · omega
  · omega
  · omega
  · omega
  · omega
  · omega
  · omega
  · omega
  · omega
  · omega
  · omega
  · omega
  · omega
  · omega
  · omega
  · omega
  · omega
  · omega
  · omega
  · omega
  · omega
  · omega
  · omega
  · omega
  · omega
  · omega
  · omega
  · omega
  · omega
  · omega
  · omega
  · omega
  · omega
  · omega
theorem zI_kZ (c : Nat) (z : Zs) (g : Nat → Int64) : zI (kZ c z g) = zI z := rfl
theorem zI_z0 {c p s i : Nat} : zI z0 c p s i = 0 := rfl
theorem zJ_z0 {c p s i : Nat} : zJ z0 c p s i = 0 := rfl
theorem zJ_des : zJ (zDes z0) = zJ (kZ 1603 z0 kwG) := by
  unfold zDes
  simp only [zJ_sR, zJ_sI]
theorem zr_0 {c p s : Nat} : Zr z0 c p s := ⟨fun _ _ => ⟨rfl, rfl⟩, fun _ => ⟨rfl, rfl⟩⟩
theorem des_0 {f p s i : Nat} (h1 : f ≠ 712) (h2 : f ≠ 1603) : zI (zDes z0) f p s i = 0 ∧ zJ (zDes z0) f p s i = 0 := by
  refine ⟨?_, ?_⟩
  · unfold zDes
    simp only [zI_sR, zI_sI, zI_kZ, zI_z0]
    exact if_neg (fun q => h1 q.1)
  · rw [zJ_des, zJ_kZ, if_neg (fun q => h2 q.1), zJ_z0]
theorem ini_0 {f p s i : Nat} (h1 : f ≠ 712) (h2 : f ≠ 1603) (h3 : f ≠ 915) (h4 : f ≠ 1921) : zI zIni f p s i = 0 ∧ zJ zIni f p s i = 0 := by
  obtain ⟨a, b⟩ := des_0 (p := p) (s := s) (i := i) h1 h2
  refine ⟨?_, ?_⟩
  · unfold zIni
    rw [zI_kZ, zI_sI, if_neg (fun q => h3 q.1), zI_sR]
    exact a
  · unfold zIni
    rw [zJ_kZ, if_neg (fun q => h4 q.1), zJ_sI, zJ_sR]
    exact b
theorem zr_des {c p s : Nat} (h : c ≠ 11 ∧ c ≠ 712 ∧ c ≠ 25 ∧ c ≠ 1603) : Zr (zDes z0) c p s :=
  ⟨fun f hf => des_0 (by omega) (by omega), fun _ => des_0 (by omega) (by omega)⟩
theorem zr_ini : Zr zIni (1024 + 960) 0 0 := ⟨fun f hf => ini_0 (by omega) (by omega) (by omega) (by omega), fun _ => ini_0 (by omega) (by omega) (by omega) (by omega)⟩
theorem mz_self (z : Zs) : mz z z = z := zs_ext (fun _ _ _ _ => ite_self _) (fun _ _ _ _ => ite_self _) (fun _ _ _ _ => ite_self _)
def st1 (A : Nat → Nat → Nat → Nat) : Nat → Nat → Nat → Nat := fun c p s => if c = 16 then 1 else A c p s
theorem rp_0 {A : Nat → Nat → Nat → Nat} {h : Hp} (hz : Pl A S5 F5 E5 h zIni) : Rp (st1 A) h zIni zIni := by
  have hz := hz.ext (A' := st1 A) (fun c p s q => if_neg (fun e => by
    have := hz.1.2.1 c p s q
    subst e
    exact absurd (this.1 (by decide)).1 (by decide)))
  have hz : Pl (st1 A) S5 F5 E5 h (mz zIni zIni) := by rw [mz_self]; exact hz
  have e909 : (zR (mz zIni zIni) 909 0 0 0).2 = 1 := by rw [mz_self]; rfl
  refine hz.rp (fun c p s hc => ?_) (fun f p s hv hf hc => ?_) (fun f p i hv hc => ?_) (fun f p s hd hv hm => ?_)
  · have hc : vc 1 c p s := hc
    by_cases q : c < 1024
    · exact cov_o (hc.1 q).1 (hc.1 q).2
    · obtain ⟨f, rfl⟩ : ∃ f, c = 1024 + f := ⟨c - 1024, by omega⟩
      obtain ⟨hv, ha⟩ := hc.2 (by omega)
      rw [Nat.add_sub_cancel_left] at hv ha
      exact cov_a ha hv
  · have hv : vdb 1 (f / 64) p s = true := hv
    rcases hc with ha | ha | ⟨ha, h9⟩
    · exact cov_f1 ha hf hv
    · exact cov_f2 ha hv
    · refine cov_f3 ha (fun e => ?_) hv
      rw [h9 e] at e909
      cases e909
  · have hv : vdb 1 (f / 64) p 0 = true := hv
    rcases hc with ⟨k, n, t, ha, hi, hs⟩ | ⟨rfl, rfl, hi⟩
    · exact cov_e ha hi hs hv
    · exact cov_h hi
  · have hf : f = 898 ∨ f = 909 := by
      unfold dro at hd
      split at hd <;> first | exact Or.inl rfl | exact Or.inr rfl | cases hd
    rcases hf with rfl | rfl
    · obtain ⟨rfl, rfl⟩ := vd_14 (show vdb 1 14 p s = true from hv)
      rw [mz_self]
      rfl
    · rw [hm rfl] at e909
      cases e909
section LH
variable {x : Cxt} {b L : Nat} {xs : Nat → Int32} {h : Hp}
theorem law_head (hsc : scrOk x b L xs) (hrm : m_rm 2048 177588 8563342 x) (hf : finL x) (hL : L ≤ 3072) (hh : ∀ a, ¬ m_K h a < 28) : wp x mLaw 0 [(0, .ref b)] [] h 0 0 := by
  have hz : Pl (fun _ _ _ => 0) (fun _ _ _ => False) (fun _ _ _ => False) (fun _ _ _ => False) h z0 := ⟨⟨fun _ _ _ _ _ _ q => q.elim, fun _ _ _ q => q.elim, fun _ _ _ q => q.elim, fun _ _ _ _ _ q => q.elim, fun _ _ _ _ q => q.elim, fun _ _ _ _ q => q.elim⟩, fun _ _ _ q => q.elim, fun _ _ _ q => q.elim⟩
  refine nw_L_8 hrm dL_law_0 rfl (Nat.le_of_ble_eq_true rfl) (Nat.le_of_ble_eq_true rfl) (fun q hq => ?_)
  refine i_addO hz hq (c0 := 11) (p0 := 0) (s0 := 0) (by decide) rfl id zr_0 (fun A1 h hA1 hz => ?_)
  refine w_dup dL_law_3 rfl rfl ?_
  refine c_L_83 (b := A1 11 0 0) (As := []) (rest := [.ref (A1 11 0 0)]) (fun l => s_X11_init (Or.inr ⟨rfl, rfl, rfl⟩) (fun _ => rfl) (fun c p9 s9 hc q => by
    rcases q with q | q
    · exact q
    · omega) (fun _ _ _ _ => zr_0) hz l) hrm dL_law_4 rfl rfl (Nat.le_of_ble_eq_true rfl) (Nat.le_of_ble_eq_true rfl) (Nat.le_of_ble_eq_true rfl) rfl (Nat.le_of_ble_eq_true rfl) (fun vr h2 hq => ?_) (fun _ _ hq => hq.elim)
  obtain ⟨rfl, A2, hA2, hz⟩ := hq
  show wp _ _ 7 [(0, .ref b)] [.ref (A1 11 0 0)] _ _ _
  rw [← hA2 11 0 0 (Or.inr ⟨rfl, rfl, rfl⟩)]
  refine w_astore_n [(1, .ref (A2 11 0 0)), (0, .ref b)] dL_law_7 rfl rfl (by decide) rfl ?_
  refine nw_L_84 hrm dL_law_8 rfl (Nat.le_of_ble_eq_true rfl) (Nat.le_of_ble_eq_true rfl) (fun q hq => ?_)
  refine i_addO hz hq (c0 := 14) (p0 := 0) (s0 := 0) (by decide) rfl ?_ (zr_des (by decide)) (fun A3 h hA3 hz => ?_)
  · intro q
    rcases q with (q | q) | q
    · exact q
    · omega
    · have := rg_GDes q
      omega
  rw [← hA3 11 0 0 (Or.inl (Or.inr ⟨rfl, rfl, rfl⟩))]
  refine w_dup dL_law_11 rfl rfl ?_
  refine c_L_86 (b := A3 14 0 0) (As := []) (rest := [.ref (A3 14 0 0)]) (fun l => s_X14_init (Or.inr ⟨rfl, rfl, rfl⟩) (fun c p9 s9 hc q => by
    rcases q with ((q | q) | q) | q
    · exact q
    · omega
    · have := rg_GDes q
      omega
    · omega) (fun c p9 s9 hc => zr_des (by omega)) hz l) hrm dL_law_12 rfl rfl (Nat.le_of_ble_eq_true rfl) (Nat.le_of_ble_eq_true rfl) (Nat.le_of_ble_eq_true rfl) rfl (Nat.le_of_ble_eq_true rfl) (fun vr h2 hq => ?_) (fun _ _ hq => hq.elim)
  obtain ⟨rfl, A4, hA4, hz⟩ := hq
  show wp _ _ 15 [(1, .ref (A3 11 0 0)), (0, .ref b)] [.ref (A3 14 0 0)] _ _ _
  rw [← hA4 11 0 0 (Or.inl (Or.inl (Or.inr ⟨rfl, rfl, rfl⟩))), ← hA4 14 0 0 (Or.inr ⟨rfl, rfl, rfl⟩)]
  refine w_astore_n [(2, .ref (A4 14 0 0)), (1, .ref (A4 11 0 0)), (0, .ref b)] dL_law_15 rfl rfl (by decide) rfl ?_
  refine w_iconst 1 dL_law_16 rfl rfl ?_
  refine w_newJ (n := 1) hrm dL_law_17 rfl a_long (by decide) rfl (by decide) (Nat.le_of_ble_eq_true rfl) (Nat.le_of_ble_eq_true rfl) (fun q hq => ?_)
  refine i_addA hz hq (f0 := 960) (p0 := 0) (s0 := 0) rfl (by decide) rfl ?_ zr_ini (fun A5 h hA5 hz => ?_)
  · intro q
    rcases q with (((q | q) | q) | q) | q
    · exact q
    · omega
    · have := rg_GDes q
      omega
    · omega
    · have := rg_GMod q
      omega
  rw [← hA5 11 0 0 (Or.inl (Or.inl (Or.inl (Or.inr ⟨rfl, rfl, rfl⟩)))), ← hA5 14 0 0 (Or.inl (Or.inr ⟨rfl, rfl, rfl⟩))]
  refine w_astore_n [(3, .ref (A5 1984 0 0)), (2, .ref (A5 14 0 0)), (1, .ref (A5 11 0 0)), (0, .ref b)] dL_law_19 rfl rfl (by decide) rfl ?_
  refine w_iconst 0 dL_law_20 rfl rfl ?_
  refine w_istore [(4, .int 0), (3, .ref (A5 1984 0 0)), (2, .ref (A5 14 0 0)), (1, .ref (A5 11 0 0)), (0, .ref b)] dL_law_21 rfl (by decide) rfl ?_
  exact law_loop hsc hrm hf hL 512 0 0 _ _ (st1 A5) h zIni zIni (by omega) (Nat.zero_le L) (rp_0 hz) rel_0 (Nat.le_of_ble_eq_true rfl) (Nat.le_of_ble_eq_true rfl)
end LH
