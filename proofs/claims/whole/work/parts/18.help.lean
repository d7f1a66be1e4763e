/-! HELPS for lifted methods -/
abbrev gi (i : Int32) (n : Nat) : Prop := ¬ (i < 0 ∨ n ≤ i.toNatClampNeg)
theorem gi_lt {i : Int32} {n : Nat} (h : gi i n) : i.toNatClampNeg < n := Nat.lt_of_not_le (fun q => h (Or.inr q))
theorem gin {i : Int32} {n m : Nat} (e : m = n) (g : gi i n) : vp_in i m := by subst e; exact g
abbrev n64 (r : UInt64) : Prop := r &&& 0x7fffffffffffffff ≤ 0x7ff0000000000000
def FU : Nat := 20000
def lt {α : Type} (z : Zs) (k : Zs → Option α) : Option α := k z
theorem lt_e {α : Type} {z : Zs} {k : Zs → Option α} {r : Option α} (h : lt z k = r) : ∃ y, y = z ∧ k y = r := ⟨z, rfl, h⟩
def nn {α : Type} (o : Option (Nat × Nat)) (a : Option α) (b : Nat × Nat → Option α) : Option α := match o with
  | none => a
  | some q => b q
theorem nn_n {α : Type} {a : Option α} {b : Nat × Nat → Option α} {r : Option α} (h : nn none a b = r) : a = r := h
theorem nn_s {α : Type} {a : Option α} {b : Nat × Nat → Option α} {q : Nat × Nat} {r : Option α} (h : nn (some q) a b = r) : b q = r := h
def bxk {α β : Type} (v : Except String α) (z : Zs) (k : α → Zs → Option (Except String β × Zs)) : Option (Except String β × Zs) := match v with
  | .ok w => k w z
  | .error e => some (.error e, z)
def bx {α β : Type} (o : Option (Except String α × Zs)) (k : α → Zs → Option (Except String β × Zs)) : Option (Except String β × Zs) := match o with
  | some (v, z) => bxk v z k
  | none => none
theorem bx_some {α β : Type} {o : Option (Except String α × Zs)} {k : α → Zs → Option (Except String β × Zs)} {r : Except String β × Zs} (h : bx o k = some r) : ∃ v z, o = some (v, z) ∧ bxk v z k = some r := by
  rcases o with _ | ⟨v, z⟩
  · cases h
  · exact ⟨v, z, rfl, h⟩
theorem bx_ok {α β : Type} {w : α} {z : Zs} {k : α → Zs → Option (Except String β × Zs)} {r : Option (Except String β × Zs)} (h : bxk (.ok w) z k = r) : k w z = r := h
theorem bx_er {α β : Type} {e : String} {z : Zs} {k : α → Zs → Option (Except String β × Zs)} {r : Option (Except String β × Zs)} (h : bxk (.error e) z k = r) : some (.error e, z) = r := h
theorem Rp.ts {A : Nat → Nat → Nat → Nat} {h : Hp} {σ σ' ρ : Zs} (hz : Rp A h σ ρ) (e : σ' = σ) : Rp A h σ' ρ := by rw [e]; exact hz
theorem Rp.tr {A : Nat → Nat → Nat → Nat} {h : Hp} {σ ρ ρ' : Zs} (hz : Rp A h σ ρ) (e : ρ' = ρ) : Rp A h σ ρ' := by rw [e]; exact hz
theorem zr {v : Int32} (g : v = 0 ∨ v = 1) : narrow .boolean (.int v) = .int v := by rcases g with rfl | rfl <;> rfl
theorem zn {v : Int32} (g : v = 0 ∨ v = 1) : vp_nar .boolean v = v := by rcases g with rfl | rfl <;> rfl
theorem vdb_320 {N : Nat} {p i : Nat} (hv : vdb N 5 p 0 = true) (hi : i < 12) : vdb N 7 p i = true := by simp [vdb] at hv ⊢; omega
theorem vdb_322 {N : Nat} {p i : Nat} (hv : vdb N 5 p 0 = true) (hi : i < 8) : vdb N 0 p i = true := by simp [vdb] at hv ⊢; omega
theorem vdb_715 {N : Nat} {p i : Nat} (_ : vdb N 11 p 0 = true) (hi : i < 200) : vdb N 2 0 i = true := by simp [vdb]; omega
theorem vdb_e {N : Nat} {s : Nat} (hv : vdb N 2 0 s = true) : vdb N 6 5 s = true := by simp [vdb] at hv ⊢; omega
theorem i32_ne {a : Int32} {k : Int} (h1 : -2147483648 ≤ k) (h2 : k ≤ 2147483647) (h : ¬ a = Int32.ofInt k) : a.toInt ≠ k := fun e => h (by rw [← e, Int32.ofInt_toInt])
theorem tabout {a : Int32} (lo hi : Int) (h : ∀ k : Int, lo ≤ k → k ≤ hi → ¬ a = Int32.ofInt k) : a.toInt < lo ∨ hi < a.toInt := by
  rcases Int.lt_or_le a.toInt lo with q | q
  · exact Or.inl q
  · rcases Int.lt_or_le hi a.toInt with q2 | q2
    · exact Or.inr q2
    · exact absurd (Int32.ofInt_toInt a).symm (h a.toInt q q2)
/-- a row handed over: its code says kind and length -/
def aok (N : Nat) (c p s k n : Nat) : Bool := decide (1024 ≤ c) && (decide (c < 2048) && (vdb N ((c - 1024) / 64) p s && (arr (c - 1024) == some (k, n))))
theorem aok_of {N : Nat} {f p s k n : Nat} (hf : f < 1024) (hv : vdb N (f / 64) p s = true) (ha : arr f = some (k, n)) : aok N (1024 + f) p s k n = true := by
  unfold aok
  rw [Nat.add_sub_cancel_left, hv, ha]
  simp
  omega
theorem aok_to {N : Nat} {c p s k n : Nat} (h : aok N c p s k n = true) : ∃ f, c = 1024 + f ∧ f < 1024 ∧ vdb N (f / 64) p s = true ∧ arr f = some (k, n) := by
  unfold aok at h
  simp at h
  obtain ⟨h1, h2, h3, h4⟩ := h
  exact ⟨c - 1024, by omega, by omega, h3, h4⟩
theorem Rp.gk {A : Nat → Nat → Nat → Nat} {h : Hp} {σ ρ : Zs} {c p s k n : Nat} (hz : Rp A h σ ρ) (hg : aok (A 16 0 0) c p s k n = true) : m_K h (A c p s) = k := by
  obtain ⟨f, rfl, hf, hv, ha⟩ := aok_to hg
  exact (hz.1.2.2.1 f p s k n ha hf hv).2.1
theorem Rp.gn {A : Nat → Nat → Nat → Nat} {h : Hp} {σ ρ : Zs} {c p s k n : Nat} (hz : Rp A h σ ρ) (hg : aok (A 16 0 0) c p s k n = true) : m_N h (A c p s) = n := by
  obtain ⟨f, rfl, hf, hv, ha⟩ := aok_to hg
  exact (hz.1.2.2.1 f p s k n ha hf hv).2.2
theorem Rp.gyr {A : Nat → Nat → Nat → Nat} {h : Hp} {σ ρ : Zs} {c p s k n i : Nat} (hz : Rp A h σ ρ) (hg : aok (A 16 0 0) c p s k n = true) (hc : isr c = true) : m_Y h (A c p s) i = zJ ρ c p s i := by
  obtain ⟨f, rfl, hf, hv, ha⟩ := aok_to hg
  have := (hz.2.1.2 f p s i hf hv (by rw [ha]; rfl)).2
  rw [zJ_mz, hc] at this
  exact this
theorem Rp.gys {A : Nat → Nat → Nat → Nat} {h : Hp} {σ ρ : Zs} {c p s k n i : Nat} (hz : Rp A h σ ρ) (hg : aok (A 16 0 0) c p s k n = true) (hc : isr c = false) : m_Y h (A c p s) i = zJ σ c p s i := by
  obtain ⟨f, rfl, hf, hv, ha⟩ := aok_to hg
  have := (hz.2.1.2 f p s i hf hv (by rw [ha]; rfl)).2
  rw [zJ_mz, hc] at this
  exact this
theorem aok_769 {N : Nat} {p s : Nat} (hv : vdb N 12 p s = true) : aok N 1793 p s 21 12 = true := aok_of (f := 769) (by decide) hv rfl
theorem aok_772 {N : Nat} {p s : Nat} (hv : vdb N 12 p s = true) : aok N 1796 p s 21 72 = true := aok_of (f := 772) (by decide) hv rfl
theorem aok_787 {N : Nat} {p s : Nat} (hv : vdb N 12 p s = true) : aok N 1811 p s 21 3000 = true := aok_of (f := 787) (by decide) hv rfl
theorem aok_897 {N : Nat} {p s : Nat} (hv : vdb N 14 p s = true) : aok N 1921 p s 21 32 = true := aok_of (f := 897) (by decide) hv rfl
theorem aok_904 {N : Nat} {p s : Nat} (hv : vdb N 14 p s = true) : aok N 1928 p s 21 1501 = true := aok_of (f := 904) (by decide) hv rfl
theorem aok_912 {N : Nat} {p s : Nat} (hv : vdb N 14 p s = true) : aok N 1936 p s 21 1500 = true := aok_of (f := 912) (by decide) hv rfl
theorem aok_916 {N : Nat} {p s : Nat} (hv : vdb N 14 p s = true) : aok N 1940 p s 21 16800 = true := aok_of (f := 916) (by decide) hv rfl
theorem aok_921 {N : Nat} {p s : Nat} (hv : vdb N 14 p s = true) : aok N 1945 p s 21 4800 = true := aok_of (f := 921) (by decide) hv rfl
theorem aok_926 {N : Nat} {p s : Nat} (hv : vdb N 14 p s = true) : aok N 1950 p s 21 420 = true := aok_of (f := 926) (by decide) hv rfl
theorem aok_932 {N : Nat} {p s : Nat} (hv : vdb N 14 p s = true) : aok N 1956 p s 21 64 = true := aok_of (f := 932) (by decide) hv rfl
theorem aok_933 {N : Nat} {p s : Nat} (hv : vdb N 14 p s = true) : aok N 1957 p s 21 7 = true := aok_of (f := 933) (by decide) hv rfl
theorem aok_935 {N : Nat} {p s : Nat} (hv : vdb N 14 p s = true) : aok N 1959 p s 21 720 = true := aok_of (f := 935) (by decide) hv rfl
theorem aok_938 {N : Nat} {p s : Nat} (hv : vdb N 14 p s = true) : aok N 1962 p s 21 4320 = true := aok_of (f := 938) (by decide) hv rfl
theorem aok_944 {N : Nat} {p s : Nat} (hv : vdb N 14 p s = true) : aok N 1968 p s 21 200 = true := aok_of (f := 944) (by decide) hv rfl
theorem aok_945 {N : Nat} {p s : Nat} (hv : vdb N 14 p s = true) : aok N 1969 p s 21 1200 = true := aok_of (f := 945) (by decide) hv rfl
theorem aok_949 {N : Nat} {p s : Nat} (hv : vdb N 14 p s = true) : aok N 1973 p s 21 6 = true := aok_of (f := 949) (by decide) hv rfl
theorem aok_951 {N : Nat} {p s : Nat} (hv : vdb N 14 p s = true) : aok N 1975 p s 21 12 = true := aok_of (f := 951) (by decide) hv rfl
theorem aok_954 {N : Nat} {p s : Nat} (hv : vdb N 14 p s = true) : aok N 1978 p s 21 16800 = true := aok_of (f := 954) (by decide) hv rfl
theorem vdb5_0 {N : Nat} {p s : Nat} (h : vdb N 5 p s = true) : s = 0 := by simp [vdb] at h; omega
theorem vdb12_0 {N : Nat} {p s : Nat} (h : vdb N 12 p s = true) : s = 0 := by simp [vdb] at h; omega
theorem Rp.ww64 {A : Nat → Nat → Nat → Nat} {h : Hp} {σ ρ : Zs} {p s : Nat} (hz : Rp A h σ ρ) (hv : vdb (A 16 0 0) 1 p s = true) : vdb (A 16 0 0) 5 (zR σ 64 p s 0).1 0 = true := by
  have h1 := hz.w64 hv
  have h2 := vdb5_0 h1
  rw [h2] at h1
  exact h1
theorem Rp.rr64 {A : Nat → Nat → Nat → Nat} {h : Hp} {σ ρ : Zs} {p s : Nat} (hz : Rp A h σ ρ) (hv : vdb (A 16 0 0) 1 p s = true) : m_R h 64 (A 1 p s) = some (A 5 (zR σ 64 p s 0).1 0) := by
  have h1 := hz.r64 hv
  rw [vdb5_0 (hz.w64 hv)] at h1
  exact h1
theorem Rp.ww194 {A : Nat → Nat → Nat → Nat} {h : Hp} {σ ρ : Zs} {p s : Nat} (hz : Rp A h σ ρ) (hv : vdb (A 16 0 0) 3 p s = true) : vdb (A 16 0 0) 5 (zR σ 194 p s 0).1 0 = true := by
  have h1 := hz.w194 hv
  have h2 := vdb5_0 h1
  rw [h2] at h1
  exact h1
theorem Rp.rr194 {A : Nat → Nat → Nat → Nat} {h : Hp} {σ ρ : Zs} {p s : Nat} (hz : Rp A h σ ρ) (hv : vdb (A 16 0 0) 3 p s = true) : m_R h 194 (A 3 p s) = some (A 5 (zR σ 194 p s 0).1 0) := by
  have h1 := hz.r194 hv
  rw [vdb5_0 (hz.w194 hv)] at h1
  exact h1
theorem Rp.ww707 {A : Nat → Nat → Nat → Nat} {h : Hp} {σ ρ : Zs} {p s : Nat} (hz : Rp A h σ ρ) (hv : vdb (A 16 0 0) 11 p s = true) : vdb (A 16 0 0) 5 (zR σ 707 p s 0).1 0 = true := by
  have h1 := hz.w707 hv
  have h2 := vdb5_0 h1
  rw [h2] at h1
  exact h1
theorem Rp.rr707 {A : Nat → Nat → Nat → Nat} {h : Hp} {σ ρ : Zs} {p s : Nat} (hz : Rp A h σ ρ) (hv : vdb (A 16 0 0) 11 p s = true) : m_R h 707 (A 11 p s) = some (A 5 (zR σ 707 p s 0).1 0) := by
  have h1 := hz.r707 hv
  rw [vdb5_0 (hz.w707 hv)] at h1
  exact h1
theorem Rp.ww708 {A : Nat → Nat → Nat → Nat} {h : Hp} {σ ρ : Zs} {p s : Nat} (hz : Rp A h σ ρ) (hv : vdb (A 16 0 0) 11 p s = true) : vdb (A 16 0 0) 5 (zR σ 708 p s 0).1 0 = true := by
  have h1 := hz.w708 hv
  have h2 := vdb5_0 h1
  rw [h2] at h1
  exact h1
theorem Rp.rr708 {A : Nat → Nat → Nat → Nat} {h : Hp} {σ ρ : Zs} {p s : Nat} (hz : Rp A h σ ρ) (hv : vdb (A 16 0 0) 11 p s = true) : m_R h 708 (A 11 p s) = some (A 5 (zR σ 708 p s 0).1 0) := by
  have h1 := hz.r708 hv
  rw [vdb5_0 (hz.w708 hv)] at h1
  exact h1
theorem Rp.ww709 {A : Nat → Nat → Nat → Nat} {h : Hp} {σ ρ : Zs} {p s : Nat} (hz : Rp A h σ ρ) (hv : vdb (A 16 0 0) 11 p s = true) : vdb (A 16 0 0) 5 (zR σ 709 p s 0).1 0 = true := by
  have h1 := hz.w709 hv
  have h2 := vdb5_0 h1
  rw [h2] at h1
  exact h1
theorem Rp.rr709 {A : Nat → Nat → Nat → Nat} {h : Hp} {σ ρ : Zs} {p s : Nat} (hz : Rp A h σ ρ) (hv : vdb (A 16 0 0) 11 p s = true) : m_R h 709 (A 11 p s) = some (A 5 (zR σ 709 p s 0).1 0) := by
  have h1 := hz.r709 hv
  rw [vdb5_0 (hz.w709 hv)] at h1
  exact h1
theorem Rp.ww898 {A : Nat → Nat → Nat → Nat} {h : Hp} {σ ρ : Zs} {p s : Nat} (hz : Rp A h σ ρ) (hv : vdb (A 16 0 0) 14 p s = true) : vdb (A 16 0 0) 12 (zR ρ 898 p s 0).1 0 = true := by
  have h1 := hz.w898 hv
  have h2 := vdb12_0 h1
  rw [h2] at h1
  exact h1
theorem Rp.rr898 {A : Nat → Nat → Nat → Nat} {h : Hp} {σ ρ : Zs} {p s : Nat} (hz : Rp A h σ ρ) (hv : vdb (A 16 0 0) 14 p s = true) : m_R h 898 (A 14 p s) = some (A 12 (zR ρ 898 p s 0).1 0) := by
  have h1 := hz.r898 hv
  rw [vdb12_0 (hz.w898 hv)] at h1
  exact h1
theorem Rp.ww909 {A : Nat → Nat → Nat → Nat} {h : Hp} {σ ρ : Zs} {p s : Nat} (hz : Rp A h σ ρ) (hv : vdb (A 16 0 0) 14 p s = true) (hm : (zR ρ 909 0 0 0).2 = 0) : vdb (A 16 0 0) 12 (zR ρ 909 p s 0).1 0 = true := by
  have h1 := hz.w909 hv hm
  have h2 := vdb12_0 h1
  rw [h2] at h1
  exact h1
theorem Rp.rr909 {A : Nat → Nat → Nat → Nat} {h : Hp} {σ ρ : Zs} {p s : Nat} (hz : Rp A h σ ρ) (hv : vdb (A 16 0 0) 14 p s = true) (hm : (zR ρ 909 0 0 0).2 = 0) : m_R h 909 (A 14 p s) = some (A 12 (zR ρ 909 p s 0).1 0) := by
  have h1 := hz.r909 hv hm
  rw [vdb12_0 (hz.w909 hv hm)] at h1
  exact h1
theorem vdb2_0 {N : Nat} {p s : Nat} (h : vdb N 2 p s = true) : p = 0 := by simp [vdb] at h; omega
theorem vdb2_r {N : Nat} {p s : Nat} (h : vdb N 2 p s = true) : vdb N 2 0 s = true := by simp [vdb] at h ⊢; omega
theorem noerr {α : Type} {e : String} {z y : Zs} {v : α} {P : Prop} (h : some (Except.error e, z) = some (Except.ok v, y)) : P := by cases h
theorem ret_inj2 {α : Type} {v w : α} {z y : Zs} (h : some ((Except.ok v : Except String α), z) = some (Except.ok w, y)) : v = w ∧ z = y := by cases h; exact ⟨rfl, rfl⟩
theorem Rp.gh {A : Nat → Nat → Nat → Nat} {h : Hp} {σ ρ : Zs} {v : Option Nat} (hz : Rp A h σ ρ) : Rp A (p_R h 1023 0 v) σ ρ := by
  refine ⟨⟨hz.1.1, hz.1.2.1, fun f p s k n ha hf hv => ⟨fun q => ?_, (hz.1.2.2.1 f p s k n ha hf hv).2⟩, fun f p s c' p' s' hs hv => ?_, hz.1.2.2.2.2⟩, hz.2.1, fun f p s c hd hv hm => ?_, hz.2.2.2⟩
  · rw [g_RR, if_neg (fun z => by rw [z.1] at ha; cases ha)]
    exact (hz.1.2.2.1 f p s k n ha hf hv).1 q
  · rw [g_RR, if_neg (fun z => by rw [z.1] at hs; cases hs)]
    exact hz.1.2.2.2.1 f p s c' p' s' hs hv
  · rw [g_RR, if_neg (fun z => by rw [z.1] at hd; cases hd)]
    exact hz.2.2.1 f p s c hd hv hm
def p_min (a b : Int32) : Int32 := if b < a then b else a
def p_max (a b : Int32) : Int32 := if a < b then b else a
def p_abs (a : Int32) : Int32 := if 0 ≤ a then a else 0 - a
def p_lmin (a b : Int64) : Int64 := if b < a then b else a
def p_lmax (a b : Int64) : Int64 := if b < a then a else b
def p_labs (a : Int64) : Int64 := if 0 < a then a else -a
section K18
variable {x : Cxt} {M : MI} {pc pc' : Nat} {lv lv' : List (Nat × Value)} {st : List Value} {h : Hp} {kc ks dd Mc Ms index : Nat}
theorem w_mmin {a b : Int32} (hrm : m_rm dd Mc Ms x) (hdd : 1 ≤ dd) (hd : decode M.2.1 pc = .ok (.invokestatic index, 3)) (hp : pc + 3 = pc') (h1 : Cond.methodLink M.1 index yJ9_min_7cf53 ∈ m_TW) (hcat : (st.map fun v => v.category).sum ≤ 8) (hmc : kc ≤ Mc) (hms : ks ≤ Ms) (k : wp x M pc' lv (.int (p_min a b) :: st) h kc ks) : wp x M pc lv (.int b :: .int a :: st) h kc ks := by
  obtain ⟨p, l, e, R, s, m, args, below, meth, cd, Q, A, D, ca, aK, aV⟩ := x
  obtain ⟨own, cc, nL, y, ret, hh⟩ := M
  subst hp
  intro ok H locs ls L hw hS hl
  obtain ⟨r1, r2, r3, r4⟩ := hrm
  exact va_mmin ok.1 ok.2.1 (ok.2.2.1.trans hl.1.symm) ok.2.2.2.1 (ok.2.2.2.2.1 _ h1) (ok.2.2.2.2.1 _ st_J9_min_7cf53) (ok.2.2.2.2.1 _ ini_RJ9) (ok.2.2.2.2.1 _ co_J9_min_7cf53) (Nat.le_trans hdd r1) (by omega) (Nat.le_trans hmc r3) (Nat.le_trans hms r4) hd (k ok H locs ls L hw hS hl)
theorem w_mmax {a b : Int32} (hrm : m_rm dd Mc Ms x) (hdd : 1 ≤ dd) (hd : decode M.2.1 pc = .ok (.invokestatic index, 3)) (hp : pc + 3 = pc') (h1 : Cond.methodLink M.1 index yJ9_max_7cf53 ∈ m_TW) (hcat : (st.map fun v => v.category).sum ≤ 8) (hmc : kc ≤ Mc) (hms : ks ≤ Ms) (k : wp x M pc' lv (.int (p_max a b) :: st) h kc ks) : wp x M pc lv (.int b :: .int a :: st) h kc ks := by
  obtain ⟨p, l, e, R, s, m, args, below, meth, cd, Q, A, D, ca, aK, aV⟩ := x
  obtain ⟨own, cc, nL, y, ret, hh⟩ := M
  subst hp
  intro ok H locs ls L hw hS hl
  obtain ⟨r1, r2, r3, r4⟩ := hrm
  exact va_mmax ok.1 ok.2.1 (ok.2.2.1.trans hl.1.symm) ok.2.2.2.1 (ok.2.2.2.2.1 _ h1) (ok.2.2.2.2.1 _ st_J9_max_7cf53) (ok.2.2.2.2.1 _ ini_RJ9) (ok.2.2.2.2.1 _ co_J9_max_7cf53) (Nat.le_trans hdd r1) (by omega) (Nat.le_trans hmc r3) (Nat.le_trans hms r4) hd (k ok H locs ls L hw hS hl)
theorem w_mabs {a : Int32} (hrm : m_rm dd Mc Ms x) (hdd : 1 ≤ dd) (hd : decode M.2.1 pc = .ok (.invokestatic index, 3)) (hp : pc + 3 = pc') (h1 : Cond.methodLink M.1 index yJ9_abs_0f7a4 ∈ m_TW) (hcat : (st.map fun v => v.category).sum ≤ 8) (hmc : kc ≤ Mc) (hms : ks ≤ Ms) (k : wp x M pc' lv (.int (p_abs a) :: st) h kc ks) : wp x M pc lv (.int a :: st) h kc ks := by
  obtain ⟨p, l, e, R, s, m, args, below, meth, cd, Q, A, D, ca, aK, aV⟩ := x
  obtain ⟨own, cc, nL, y, ret, hh⟩ := M
  subst hp
  intro ok H locs ls L hw hS hl
  obtain ⟨r1, r2, r3, r4⟩ := hrm
  exact va_mabs ok.1 ok.2.1 (ok.2.2.1.trans hl.1.symm) ok.2.2.2.1 (ok.2.2.2.2.1 _ h1) (ok.2.2.2.2.1 _ st_J9_abs_0f7a4) (ok.2.2.2.2.1 _ ini_RJ9) (ok.2.2.2.2.1 _ co_J9_abs_0f7a4) (Nat.le_trans hdd r1) (by omega) (Nat.le_trans hmc r3) (Nat.le_trans hms r4) hd (k ok H locs ls L hw hS hl)
theorem w_mlmin {a b : Int64} (hrm : m_rm dd Mc Ms x) (hdd : 1 ≤ dd) (hd : decode M.2.1 pc = .ok (.invokestatic index, 3)) (hp : pc + 3 = pc') (h1 : Cond.methodLink M.1 index yJ9_min_f86c9 ∈ m_TW) (hcat : (st.map fun v => v.category).sum ≤ 8) (hmc : kc ≤ Mc) (hms : ks ≤ Ms) (k : wp x M pc' lv (.long (p_lmin a b) :: st) h kc ks) : wp x M pc lv (.long b :: .long a :: st) h kc ks := by
  obtain ⟨p, l, e, R, s, m, args, below, meth, cd, Q, A, D, ca, aK, aV⟩ := x
  obtain ⟨own, cc, nL, y, ret, hh⟩ := M
  subst hp
  intro ok H locs ls L hw hS hl
  obtain ⟨r1, r2, r3, r4⟩ := hrm
  exact va_mmin_long ok.1 ok.2.1 (ok.2.2.1.trans hl.1.symm) ok.2.2.2.1 (ok.2.2.2.2.1 _ h1) (ok.2.2.2.2.1 _ st_J9_min_f86c9) (ok.2.2.2.2.1 _ ini_RJ9) (ok.2.2.2.2.1 _ co_J9_min_f86c9) (Nat.le_trans hdd r1) (by omega) (Nat.le_trans hmc r3) (Nat.le_trans hms r4) hd (k ok H locs ls L hw hS hl)
theorem w_mlmax {a b : Int64} (hrm : m_rm dd Mc Ms x) (hdd : 1 ≤ dd) (hd : decode M.2.1 pc = .ok (.invokestatic index, 3)) (hp : pc + 3 = pc') (h1 : Cond.methodLink M.1 index yJ9_max_f86c9 ∈ m_TW) (hcat : (st.map fun v => v.category).sum ≤ 8) (hmc : kc ≤ Mc) (hms : ks ≤ Ms) (k : wp x M pc' lv (.long (p_lmax a b) :: st) h kc ks) : wp x M pc lv (.long b :: .long a :: st) h kc ks := by
  obtain ⟨p, l, e, R, s, m, args, below, meth, cd, Q, A, D, ca, aK, aV⟩ := x
  obtain ⟨own, cc, nL, y, ret, hh⟩ := M
  subst hp
  intro ok H locs ls L hw hS hl
  obtain ⟨r1, r2, r3, r4⟩ := hrm
  exact va_mmax_long ok.1 ok.2.1 (ok.2.2.1.trans hl.1.symm) ok.2.2.2.1 (ok.2.2.2.2.1 _ h1) (ok.2.2.2.2.1 _ st_J9_max_f86c9) (ok.2.2.2.2.1 _ ini_RJ9) (ok.2.2.2.2.1 _ co_J9_max_f86c9) (Nat.le_trans hdd r1) (by omega) (Nat.le_trans hmc r3) (Nat.le_trans hms r4) hd (k ok H locs ls L hw hS hl)
theorem w_mlabs {a : Int64} (hrm : m_rm dd Mc Ms x) (hdd : 1 ≤ dd) (hd : decode M.2.1 pc = .ok (.invokestatic index, 3)) (hp : pc + 3 = pc') (h1 : Cond.methodLink M.1 index yJ9_abs_067f4 ∈ m_TW) (hcat : (st.map fun v => v.category).sum ≤ 8) (hmc : kc ≤ Mc) (hms : ks ≤ Ms) (k : wp x M pc' lv (.long (p_labs a) :: st) h kc ks) : wp x M pc lv (.long a :: st) h kc ks := by
  obtain ⟨p, l, e, R, s, m, args, below, meth, cd, Q, A, D, ca, aK, aV⟩ := x
  obtain ⟨own, cc, nL, y, ret, hh⟩ := M
  subst hp
  intro ok H locs ls L hw hS hl
  obtain ⟨r1, r2, r3, r4⟩ := hrm
  exact va_mabs_long ok.1 ok.2.1 (ok.2.2.1.trans hl.1.symm) ok.2.2.2.1 (ok.2.2.2.2.1 _ h1) (ok.2.2.2.2.1 _ st_J9_abs_067f4) (ok.2.2.2.2.1 _ ini_RJ9) (ok.2.2.2.2.1 _ co_J9_abs_067f4) (Nat.le_trans hdd r1) (by omega) (Nat.le_trans hmc r3) (Nat.le_trans hms r4) hd (k ok H locs ls L hw hS hl)
end K18
/-- System.arraycopy of longs -/
def p_C (h : Hp) (a b sp dp n : Nat) : Hp := some (m_K h, m_N h, m_I h, m_J h, m_R h, m_X h, fun d j => if d = b then va_cpy (m_Y h a) (m_Y h b) sp dp n j else m_Y h d j, m_Z h)
theorem m_copyE {ca : Nat → ClassId} {h : Hp} {a b sp dp n : Nat} (hK : m_K h b = 21) : ∀ d, va_up (m_E ca h) b (.inl (ca 21, m_N h b, .inr (.inl (va_cpy (m_Y h a) (m_Y h b) sp dp n)))) d = m_E ca (p_C h a b sp dp n) d := by
  intro d
  by_cases hb : d = b
  · subst hb
    rw [va_up_self, m_E_21 (show m_K (p_C h a d sp dp n) d = 21 from hK)]
    show _ = (Sum.inl (ca 21, m_N h d, Sum.inr (Sum.inl (fun j => if d = d then va_cpy (m_Y h a) (m_Y h d) sp dp n j else m_Y h d j))) : va_E)
    simp only [if_true]
  · rw [va_up_ne _ _ hb]
    have e3 : m_Y (p_C h a b sp dp n) d = m_Y h d := funext fun j => if_neg hb
    unfold m_E
    rw [e3]
    rfl
abbrev gcp (sp dp n : Int32) (n0 n1 : Nat) : Prop := ¬ sp < 0 ∧ ¬ dp < 0 ∧ ¬ n < 0 ∧ sp.toNatClampNeg + n.toNatClampNeg ≤ n0 ∧ dp.toNatClampNeg + n.toNatClampNeg ≤ n1
theorem x_acl : Cond.methodLink RX14 469 arraycopyName ∈ m_TW := m_in (t_in8 (List.mem_of_getElem? (i := 215) rfl)) rfl
theorem x_acs : Cond.static arraycopyName ∈ m_TW := m_in (t_in8 (List.mem_of_getElem? (i := 216) rfl)) rfl
theorem x_acn : Cond.native arraycopyName ∈ m_TW := m_in (t_in8 (List.mem_of_getElem? (i := 217) rfl)) rfl
theorem x_aci : Cond.initialized "java/lang/System" ∈ m_TW := m_in (t_in1 (List.mem_of_getElem? (i := 27) rfl)) rfl
theorem x_acw : nativeFrameWords "java/lang/System" "arraycopy" 5 ≤ 300 := by decide +kernel
section K18b
variable {x : Cxt} {cc : ByteArray} {nL pc pc' : Nat} {y : MethodName} {ret : Option FieldType} {hh : List (Nat × Nat × Nat × Nat)} {lv : List (Nat × Value)} {st : List Value} {h : Hp} {kc ks dd Mc Ms : Nat}
theorem w_copyl {a b n0 n1 : Nat} {sp dp n : Int32} (hrm : m_rm dd Mc Ms x) (hdd : 10 ≤ dd) (hd : decode cc pc = .ok (.invokestatic 469, 3)) (hp : pc + 3 = pc') (hka : m_K h a = 21) (hkb : m_K h b = 21) (hna : m_N h a = n0) (hnb : m_N h b = n1) (hg : gcp sp dp n n0 n1) (hcat : (st.map fun v => v.category).sum ≤ 8) (k : wp x (RX14, cc, nL, y, ret, hh) pc' lv st (p_C h a b sp.toNatClampNeg dp.toNatClampNeg n.toNatClampNeg) kc ks) : wp x (RX14, cc, nL, y, ret, hh) pc lv (.int n :: .int dp :: .ref b :: .int sp :: .ref a :: st) h kc ks := by
  obtain ⟨p, l, e, R, s, m, args, below, meth, cd, Q, A, D, ca, aK, aV⟩ := x
  subst hp
  subst hna
  subst hnb
  intro ok H locs ls L hw hS hl
  obtain ⟨r1, r2, r3, r4⟩ := hrm
  obtain ⟨g1, g2, g3, g4, g5⟩ := hg
  obtain ⟨k0, hk0⟩ := m_at hw hka (by omega)
  obtain ⟨k1, hk1⟩ := m_at hw hkb (by omega)
  have hk0' := hk0
  have hk1' := hk1
  rw [m_E_21 hka] at hk0'
  rw [m_E_21 hkb] at hk1'
  have := x_acw
  refine va_copyl ok.1 ok.2.1 (ok.2.2.1.trans hl.1.symm) ok.2.2.2.1 (ok.2.2.2.2.1 _ x_acl) (ok.2.2.2.2.1 _ x_acn) (ok.2.2.2.2.1 _ x_acs) (ok.2.2.2.2.1 _ x_aci) ok.2.2.2.2.2.1 hw.1 hw.2.1 hS k0 k1 1 1 (ty := .long) hk0' hk1' rfl rfl rfl g1 g2 g3 g4 g5 (fun _ _ => rfl) (by omega) (by omega) hd (fun H1 locs1 hP1 hD1 hS1 => ?_)
  exact k ok H1 locs1 ls L (m_set hw hkb (by omega) hk1 (h' := p_C h a b sp.toNatClampNeg dp.toNatClampNeg n.toNatClampNeg) rfl (m_copyE hkb) hP1 hD1) hS1 hl
end K18b
def sC (z : Zs) (c p s c2 p2 s2 sp dp n : Nat) : Zs := (zI z, fun c0 p0 s0 i0 => if c0 = c2 ∧ p0 = p2 ∧ s0 = s2 then va_cpy (zJ z c p s) (zJ z c2 p2 s2) sp dp n i0 else zJ z c0 p0 s0 i0, zR z)
theorem Rp.vC {A : Nat → Nat → Nat → Nat} {h : Hp} {σ ρ : Zs} {c p s n0 f2 p2 s2 sp dp n : Nat} (hz : Rp A h σ ρ) (hg : aok (A 16 0 0) c p s 21 n0 = true) (hc : isr c = true) (hv : vdb (A 16 0 0) (f2 / 64) p2 s2 = true) (hf : f2 < 1024) (ha : (arr f2).isSome = true) (hc2 : isr (1024 + f2) = true) : Rp A (p_C h (A c p s) (A (1024 + f2) p2 s2) sp dp n) σ (sC ρ c p s (1024 + f2) p2 s2 sp dp n) := by
  have e1 : m_Y h (A c p s) = zJ ρ c p s := funext fun i => hz.gyr hg hc
  have e2 : m_Y h (A (1024 + f2) p2 s2) = zJ ρ (1024 + f2) p2 s2 := funext fun i => by
    have := (hz.2.1.2 f2 p2 s2 i hf hv ha).2
    rw [zJ_mz, hc2] at this
    exact this
  refine ⟨hz.1, ⟨fun f' p' s' hf' hv' => ⟨(hz.2.1.1 f' p' s' hf' hv').1, ?_⟩, fun f' p' s' i hf' hv' ha' => ⟨(hz.2.1.2 f' p' s' i hf' hv' ha').1, ?_⟩⟩, hz.2.2⟩
  · have := (hz.2.1.1 f' p' s' hf' hv').2
    rw [zJ_mz] at this ⊢
    refine this.trans ?_
    by_cases e : isr f' = true
    · rw [if_pos e, if_pos e]
      exact (if_neg (fun q => by omega)).symm
    · rw [if_neg e, if_neg e]
  · show (if A (1024 + f') p' s' = A (1024 + f2) p2 s2 then va_cpy (m_Y h (A c p s)) (m_Y h (A (1024 + f2) p2 s2)) sp dp n i else m_Y h (A (1024 + f') p' s') i) = _
    rw [zJ_mz]
    by_cases e : A (1024 + f') p' s' = A (1024 + f2) p2 s2
    · obtain ⟨e3, rfl, rfl⟩ := hz.1.1 _ _ _ _ _ _ (vc_a hf' hv' ha') (vc_a hf hv ha) e
      obtain rfl : f' = f2 := by omega
      rw [if_pos rfl, if_pos hc2, e1, e2]
      exact (if_pos ⟨rfl, rfl, rfl⟩).symm
    · rw [if_neg e]
      have := (hz.2.1.2 f' p' s' i hf' hv' ha').2
      rw [zJ_mz] at this
      refine this.trans ?_
      by_cases e4 : isr (1024 + f') = true
      · rw [if_pos e4, if_pos e4]
        exact (if_neg (fun q => e (by rw [q.1, q.2.1, q.2.2]))).symm
      · rw [if_neg e4, if_neg e4]
/-- .. and a row of seven longs that stands by itself: its numbers are the code 1919's -/
def RpL (A : Nat → Nat → Nat → Nat) (q : Nat) (h : Hp) (σ ρ : Zs) : Prop := Rp A h σ ρ ∧ (∀ c p s, vc (A 16 0 0) c p s → A c p s ≠ q) ∧ m_K h q = 21 ∧ m_N h q = 7 ∧ ∀ i, m_Y h q i = zJ ρ 1919 0 0 i
def QIL (q : Nat) (A : Nat → Nat → Nat → Nat) (v : Int32) (σ ρ : Zs) : Option Value → Hp → Prop := fun r h => r = some (.int v) ∧ RpL A q h σ ρ
def QJL (q : Nat) (A : Nat → Nat → Nat → Nat) (v : Int64) (σ ρ : Zs) : Option Value → Hp → Prop := fun r h => r = some (.long v) ∧ RpL A q h σ ρ
def QVL (q : Nat) (A : Nat → Nat → Nat → Nat) (_ : Unit) (σ ρ : Zs) : Option Value → Hp → Prop := fun r h => r = none ∧ RpL A q h σ ρ
section RPL
variable {A : Nat → Nat → Nat → Nat} {h : Hp} {σ ρ : Zs} {q : Nat}
theorem RpL.tk (hz : RpL A q h σ ρ) : m_K h q = 21 := hz.2.2.1
theorem RpL.tn (hz : RpL A q h σ ρ) : m_N h q = 7 := hz.2.2.2.1
theorem RpL.ty {i : Nat} (hz : RpL A q h σ ρ) : m_Y h q i = zJ ρ 1919 0 0 i := hz.2.2.2.2 i
theorem RpL.tr {ρ' : Zs} (hz : RpL A q h σ ρ) (e : ρ' = ρ) : RpL A q h σ ρ' := by rw [e]; exact hz
theorem RpL.lC {f2 p2 s2 sp dp n : Nat} (hz : RpL A q h σ ρ) (hv : vdb (A 16 0 0) (f2 / 64) p2 s2 = true) (hf : f2 < 1024) (ha : (arr f2).isSome = true) (hc2 : isr (1024 + f2) = true) : RpL A q (p_C h q (A (1024 + f2) p2 s2) sp dp n) σ (sC ρ 1919 0 0 (1024 + f2) p2 s2 sp dp n) := by
  obtain ⟨hz, hq, hk, hn, hy⟩ := hz
  have e1 : m_Y h q = zJ ρ 1919 0 0 := funext fun i => hy i
  have e2 : m_Y h (A (1024 + f2) p2 s2) = zJ ρ (1024 + f2) p2 s2 := funext fun i => by
    have := (hz.2.1.2 f2 p2 s2 i hf hv ha).2
    rw [zJ_mz, hc2] at this
    exact this
  have hne : f2 ≠ 895 := fun e => by rw [e] at ha; cases ha
  refine ⟨⟨hz.1, ⟨fun f' p' s' hf' hv' => ⟨(hz.2.1.1 f' p' s' hf' hv').1, ?_⟩, fun f' p' s' i hf' hv' ha' => ⟨(hz.2.1.2 f' p' s' i hf' hv' ha').1, ?_⟩⟩, hz.2.2⟩, hq, hk, hn, fun i => ?_⟩
  · have := (hz.2.1.1 f' p' s' hf' hv').2
    rw [zJ_mz] at this ⊢
    refine this.trans ?_
    by_cases e : isr f' = true
    · rw [if_pos e, if_pos e]
      exact (if_neg (fun q => by omega)).symm
    · rw [if_neg e, if_neg e]
  · show (if A (1024 + f') p' s' = A (1024 + f2) p2 s2 then va_cpy (m_Y h q) (m_Y h (A (1024 + f2) p2 s2)) sp dp n i else m_Y h (A (1024 + f') p' s') i) = _
    rw [zJ_mz]
    by_cases e : A (1024 + f') p' s' = A (1024 + f2) p2 s2
    · obtain ⟨e3, rfl, rfl⟩ := hz.1.1 _ _ _ _ _ _ (vc_a hf' hv' ha') (vc_a hf hv ha) e
      obtain rfl : f' = f2 := by omega
      rw [if_pos rfl, if_pos hc2, e1, e2]
      exact (if_pos ⟨rfl, rfl, rfl⟩).symm
    · rw [if_neg e]
      have := (hz.2.1.2 f' p' s' i hf' hv' ha').2
      rw [zJ_mz] at this
      refine this.trans ?_
      by_cases e4 : isr (1024 + f') = true
      · rw [if_pos e4, if_pos e4]
        exact (if_neg (fun q => e (by rw [q.1, q.2.1, q.2.2]))).symm
      · rw [if_neg e4, if_neg e4]
  · show (if q = A (1024 + f2) p2 s2 then va_cpy (m_Y h q) (m_Y h (A (1024 + f2) p2 s2)) sp dp n i else m_Y h q i) = _
    rw [if_neg (fun e => hq _ _ _ (vc_a hf hv ha) e.symm), hy i]
    exact (if_neg (fun q => by omega)).symm
theorem RpL.dC {c p s n0 sp dp n : Nat} (hz : RpL A q h σ ρ) (hg : aok (A 16 0 0) c p s 21 n0 = true) (hc : isr c = true) : RpL A q (p_C h (A c p s) q sp dp n) σ (sC ρ c p s 1919 0 0 sp dp n) := by
  obtain ⟨hz, hq, hk, hn, hy⟩ := hz
  have e1 : m_Y h (A c p s) = zJ ρ c p s := funext fun i => hz.gyr hg hc
  have e2 : m_Y h q = zJ ρ 1919 0 0 := funext fun i => hy i
  refine ⟨⟨hz.1, ⟨fun f' p' s' hf' hv' => ⟨(hz.2.1.1 f' p' s' hf' hv').1, ?_⟩, fun f' p' s' i hf' hv' ha' => ⟨(hz.2.1.2 f' p' s' i hf' hv' ha').1, ?_⟩⟩, hz.2.2⟩, hq, hk, hn, fun i => ?_⟩
  · have := (hz.2.1.1 f' p' s' hf' hv').2
    rw [zJ_mz] at this ⊢
    refine this.trans ?_
    by_cases e : isr f' = true
    · rw [if_pos e, if_pos e]
      exact (if_neg (fun q => by omega)).symm
    · rw [if_neg e, if_neg e]
  · show (if A (1024 + f') p' s' = q then va_cpy (m_Y h (A c p s)) (m_Y h q) sp dp n i else m_Y h (A (1024 + f') p' s') i) = _
    rw [if_neg (hq _ _ _ (vc_a hf' hv' ha')), zJ_mz]
    have hne : f' ≠ 895 := fun e => by rw [e] at ha'; cases ha'
    have := (hz.2.1.2 f' p' s' i hf' hv' ha').2
    rw [zJ_mz] at this
    refine this.trans ?_
    by_cases e4 : isr (1024 + f') = true
    · rw [if_pos e4, if_pos e4]
      exact (if_neg (fun q => by omega)).symm
    · rw [if_neg e4, if_neg e4]
  · show (if q = q then va_cpy (m_Y h (A c p s)) (m_Y h q) sp dp n i else m_Y h q i) = _
    rw [if_pos rfl, e1, e2]
    show _ = (if (1919 : Nat) = 1919 ∧ (0 : Nat) = 0 ∧ (0 : Nat) = 0 then va_cpy (zJ ρ c p s) (zJ ρ 1919 0 0) sp dp n i else zJ ρ 1919 0 0 i)
    rw [if_pos ⟨rfl, rfl, rfl⟩]
theorem RpL.vC {c p s n0 f2 p2 s2 sp dp n : Nat} (hz : RpL A q h σ ρ) (hg : aok (A 16 0 0) c p s 21 n0 = true) (hc : isr c = true) (hv : vdb (A 16 0 0) (f2 / 64) p2 s2 = true) (hf : f2 < 1024) (ha : (arr f2).isSome = true) (hc2 : isr (1024 + f2) = true) : RpL A q (p_C h (A c p s) (A (1024 + f2) p2 s2) sp dp n) σ (sC ρ c p s (1024 + f2) p2 s2 sp dp n) := by
  have hne : f2 ≠ 895 := fun e => by rw [e] at ha; cases ha
  refine ⟨hz.1.vC hg hc hv hf ha hc2, hz.2.1, hz.2.2.1, hz.2.2.2.1, fun i => ?_⟩
  show (if q = A (1024 + f2) p2 s2 then va_cpy (m_Y h (A c p s)) (m_Y h (A (1024 + f2) p2 s2)) sp dp n i else m_Y h q i) = _
  rw [if_neg (fun e => hz.2.1 _ _ _ (vc_a hf hv ha) e.symm), hz.2.2.2.2 i]
  exact (if_neg (fun q => by omega)).symm
theorem RpL.o12 {p s : Nat} (hz : RpL A q h σ ρ) (hv : vdb (A 16 0 0) 12 p s = true) : m_K h (A 12 p s) = 12 := hz.1.o12 hv
theorem RpL.o14 {p s : Nat} (hz : RpL A q h σ ρ) (hv : vdb (A 16 0 0) 14 p s = true) : m_K h (A 14 p s) = 14 := hz.1.o14 hv
theorem RpL.r769 {p s : Nat} (hz : RpL A q h σ ρ) (hv : vdb (A 16 0 0) 12 p s = true) : m_R h 769 (A 12 p s) = some (A 1793 p s) := hz.1.r769 hv
theorem RpL.k769 {p s : Nat} (hz : RpL A q h σ ρ) (hv : vdb (A 16 0 0) 12 p s = true) : m_K h (A 1793 p s) = 21 := hz.1.k769 hv
theorem RpL.n769 {p s : Nat} (hz : RpL A q h σ ρ) (hv : vdb (A 16 0 0) 12 p s = true) : m_N h (A 1793 p s) = 12 := hz.1.n769 hv
theorem RpL.x769 {p s i : Nat} (hz : RpL A q h σ ρ) (hv : vdb (A 16 0 0) 12 p s = true) : m_Y h (A 1793 p s) i = zJ ρ 1793 p s i := hz.1.x769 hv
theorem RpL.s769 {p s i : Nat} {v : Int64} (hz : RpL A q h σ ρ) (hv : vdb (A 16 0 0) 12 p s = true) : RpL A q (p_Y h (A 1793 p s) i v) σ (sJ ρ 1793 p s i v) := ⟨hz.1.s769 hv, hz.2.1, hz.2.2.1, hz.2.2.2.1, fun j => by rw [g_YY, if_neg (fun z => hz.2.1 _ _ _ (vc_a (f := 769) (by decide) hv rfl) z.1.symm), hz.2.2.2.2 j, zJ_sJ, if_neg (fun z => absurd z.1 (by decide))]⟩
theorem RpL.r770 {p s : Nat} (hz : RpL A q h σ ρ) (hv : vdb (A 16 0 0) 12 p s = true) : m_R h 770 (A 12 p s) = some (A 1794 p s) := hz.1.r770 hv
theorem RpL.k770 {p s : Nat} (hz : RpL A q h σ ρ) (hv : vdb (A 16 0 0) 12 p s = true) : m_K h (A 1794 p s) = 20 := hz.1.k770 hv
theorem RpL.n770 {p s : Nat} (hz : RpL A q h σ ρ) (hv : vdb (A 16 0 0) 12 p s = true) : m_N h (A 1794 p s) = 12 := hz.1.n770 hv
theorem RpL.x770 {p s i : Nat} (hz : RpL A q h σ ρ) (hv : vdb (A 16 0 0) 12 p s = true) : m_X h (A 1794 p s) i = zI ρ 1794 p s i := hz.1.x770 hv
theorem RpL.s770 {p s i : Nat} {v : Int32} (hz : RpL A q h σ ρ) (hv : vdb (A 16 0 0) 12 p s = true) : RpL A q (p_X h (A 1794 p s) i v) σ (sI ρ 1794 p s i v) := ⟨hz.1.s770 hv, hz.2.1, hz.2.2.1, hz.2.2.2.1, fun j => hz.2.2.2.2 j⟩
theorem RpL.r771 {p s : Nat} (hz : RpL A q h σ ρ) (hv : vdb (A 16 0 0) 12 p s = true) : m_R h 771 (A 12 p s) = some (A 1795 p s) := hz.1.r771 hv
theorem RpL.k771 {p s : Nat} (hz : RpL A q h σ ρ) (hv : vdb (A 16 0 0) 12 p s = true) : m_K h (A 1795 p s) = 20 := hz.1.k771 hv
theorem RpL.n771 {p s : Nat} (hz : RpL A q h σ ρ) (hv : vdb (A 16 0 0) 12 p s = true) : m_N h (A 1795 p s) = 12 := hz.1.n771 hv
theorem RpL.x771 {p s i : Nat} (hz : RpL A q h σ ρ) (hv : vdb (A 16 0 0) 12 p s = true) : m_X h (A 1795 p s) i = zI ρ 1795 p s i := hz.1.x771 hv
theorem RpL.s771 {p s i : Nat} {v : Int32} (hz : RpL A q h σ ρ) (hv : vdb (A 16 0 0) 12 p s = true) : RpL A q (p_X h (A 1795 p s) i v) σ (sI ρ 1795 p s i v) := ⟨hz.1.s771 hv, hz.2.1, hz.2.2.1, hz.2.2.2.1, fun j => hz.2.2.2.2 j⟩
theorem RpL.r772 {p s : Nat} (hz : RpL A q h σ ρ) (hv : vdb (A 16 0 0) 12 p s = true) : m_R h 772 (A 12 p s) = some (A 1796 p s) := hz.1.r772 hv
theorem RpL.k772 {p s : Nat} (hz : RpL A q h σ ρ) (hv : vdb (A 16 0 0) 12 p s = true) : m_K h (A 1796 p s) = 21 := hz.1.k772 hv
theorem RpL.n772 {p s : Nat} (hz : RpL A q h σ ρ) (hv : vdb (A 16 0 0) 12 p s = true) : m_N h (A 1796 p s) = 72 := hz.1.n772 hv
theorem RpL.x772 {p s i : Nat} (hz : RpL A q h σ ρ) (hv : vdb (A 16 0 0) 12 p s = true) : m_Y h (A 1796 p s) i = zJ ρ 1796 p s i := hz.1.x772 hv
theorem RpL.s772 {p s i : Nat} {v : Int64} (hz : RpL A q h σ ρ) (hv : vdb (A 16 0 0) 12 p s = true) : RpL A q (p_Y h (A 1796 p s) i v) σ (sJ ρ 1796 p s i v) := ⟨hz.1.s772 hv, hz.2.1, hz.2.2.1, hz.2.2.2.1, fun j => by rw [g_YY, if_neg (fun z => hz.2.1 _ _ _ (vc_a (f := 772) (by decide) hv rfl) z.1.symm), hz.2.2.2.2 j, zJ_sJ, if_neg (fun z => absurd z.1 (by decide))]⟩
theorem RpL.r773 {p s : Nat} (hz : RpL A q h σ ρ) (hv : vdb (A 16 0 0) 12 p s = true) : m_R h 773 (A 12 p s) = some (A 1797 p s) := hz.1.r773 hv
theorem RpL.k773 {p s : Nat} (hz : RpL A q h σ ρ) (hv : vdb (A 16 0 0) 12 p s = true) : m_K h (A 1797 p s) = 20 := hz.1.k773 hv
theorem RpL.n773 {p s : Nat} (hz : RpL A q h σ ρ) (hv : vdb (A 16 0 0) 12 p s = true) : m_N h (A 1797 p s) = 12 := hz.1.n773 hv
theorem RpL.x773 {p s i : Nat} (hz : RpL A q h σ ρ) (hv : vdb (A 16 0 0) 12 p s = true) : m_X h (A 1797 p s) i = zI ρ 1797 p s i := hz.1.x773 hv
theorem RpL.s773 {p s i : Nat} {v : Int32} (hz : RpL A q h σ ρ) (hv : vdb (A 16 0 0) 12 p s = true) : RpL A q (p_X h (A 1797 p s) i v) σ (sI ρ 1797 p s i v) := ⟨hz.1.s773 hv, hz.2.1, hz.2.2.1, hz.2.2.2.1, fun j => hz.2.2.2.2 j⟩
theorem RpL.r774 {p s : Nat} (hz : RpL A q h σ ρ) (hv : vdb (A 16 0 0) 12 p s = true) : m_R h 774 (A 12 p s) = some (A 1798 p s) := hz.1.r774 hv
theorem RpL.k774 {p s : Nat} (hz : RpL A q h σ ρ) (hv : vdb (A 16 0 0) 12 p s = true) : m_K h (A 1798 p s) = 20 := hz.1.k774 hv
theorem RpL.n774 {p s : Nat} (hz : RpL A q h σ ρ) (hv : vdb (A 16 0 0) 12 p s = true) : m_N h (A 1798 p s) = 12 := hz.1.n774 hv
theorem RpL.x774 {p s i : Nat} (hz : RpL A q h σ ρ) (hv : vdb (A 16 0 0) 12 p s = true) : m_X h (A 1798 p s) i = zI ρ 1798 p s i := hz.1.x774 hv
theorem RpL.s774 {p s i : Nat} {v : Int32} (hz : RpL A q h σ ρ) (hv : vdb (A 16 0 0) 12 p s = true) : RpL A q (p_X h (A 1798 p s) i v) σ (sI ρ 1798 p s i v) := ⟨hz.1.s774 hv, hz.2.1, hz.2.2.1, hz.2.2.2.1, fun j => hz.2.2.2.2 j⟩
theorem RpL.r775 {p s : Nat} (hz : RpL A q h σ ρ) (hv : vdb (A 16 0 0) 12 p s = true) : m_R h 775 (A 12 p s) = some (A 1799 p s) := hz.1.r775 hv
theorem RpL.k775 {p s : Nat} (hz : RpL A q h σ ρ) (hv : vdb (A 16 0 0) 12 p s = true) : m_K h (A 1799 p s) = 20 := hz.1.k775 hv
theorem RpL.n775 {p s : Nat} (hz : RpL A q h σ ρ) (hv : vdb (A 16 0 0) 12 p s = true) : m_N h (A 1799 p s) = 12 := hz.1.n775 hv
theorem RpL.x775 {p s i : Nat} (hz : RpL A q h σ ρ) (hv : vdb (A 16 0 0) 12 p s = true) : m_X h (A 1799 p s) i = zI ρ 1799 p s i := hz.1.x775 hv
theorem RpL.s775 {p s i : Nat} {v : Int32} (hz : RpL A q h σ ρ) (hv : vdb (A 16 0 0) 12 p s = true) : RpL A q (p_X h (A 1799 p s) i v) σ (sI ρ 1799 p s i v) := ⟨hz.1.s775 hv, hz.2.1, hz.2.2.1, hz.2.2.2.1, fun j => hz.2.2.2.2 j⟩
theorem RpL.r776 {p s : Nat} (hz : RpL A q h σ ρ) (hv : vdb (A 16 0 0) 12 p s = true) : m_R h 776 (A 12 p s) = some (A 1800 p s) := hz.1.r776 hv
theorem RpL.k776 {p s : Nat} (hz : RpL A q h σ ρ) (hv : vdb (A 16 0 0) 12 p s = true) : m_K h (A 1800 p s) = 20 := hz.1.k776 hv
theorem RpL.n776 {p s : Nat} (hz : RpL A q h σ ρ) (hv : vdb (A 16 0 0) 12 p s = true) : m_N h (A 1800 p s) = 12 := hz.1.n776 hv
theorem RpL.x776 {p s i : Nat} (hz : RpL A q h σ ρ) (hv : vdb (A 16 0 0) 12 p s = true) : m_X h (A 1800 p s) i = zI ρ 1800 p s i := hz.1.x776 hv
theorem RpL.s776 {p s i : Nat} {v : Int32} (hz : RpL A q h σ ρ) (hv : vdb (A 16 0 0) 12 p s = true) : RpL A q (p_X h (A 1800 p s) i v) σ (sI ρ 1800 p s i v) := ⟨hz.1.s776 hv, hz.2.1, hz.2.2.1, hz.2.2.2.1, fun j => hz.2.2.2.2 j⟩
theorem RpL.r777 {p s : Nat} (hz : RpL A q h σ ρ) (hv : vdb (A 16 0 0) 12 p s = true) : m_R h 777 (A 12 p s) = some (A 1801 p s) := hz.1.r777 hv
theorem RpL.k777 {p s : Nat} (hz : RpL A q h σ ρ) (hv : vdb (A 16 0 0) 12 p s = true) : m_K h (A 1801 p s) = 20 := hz.1.k777 hv
theorem RpL.n777 {p s : Nat} (hz : RpL A q h σ ρ) (hv : vdb (A 16 0 0) 12 p s = true) : m_N h (A 1801 p s) = 12 := hz.1.n777 hv
theorem RpL.x777 {p s i : Nat} (hz : RpL A q h σ ρ) (hv : vdb (A 16 0 0) 12 p s = true) : m_X h (A 1801 p s) i = zI ρ 1801 p s i := hz.1.x777 hv
theorem RpL.s777 {p s i : Nat} {v : Int32} (hz : RpL A q h σ ρ) (hv : vdb (A 16 0 0) 12 p s = true) : RpL A q (p_X h (A 1801 p s) i v) σ (sI ρ 1801 p s i v) := ⟨hz.1.s777 hv, hz.2.1, hz.2.2.1, hz.2.2.2.1, fun j => hz.2.2.2.2 j⟩
theorem RpL.r778 {p s : Nat} (hz : RpL A q h σ ρ) (hv : vdb (A 16 0 0) 12 p s = true) : m_R h 778 (A 12 p s) = some (A 1802 p s) := hz.1.r778 hv
theorem RpL.k778 {p s : Nat} (hz : RpL A q h σ ρ) (hv : vdb (A 16 0 0) 12 p s = true) : m_K h (A 1802 p s) = 20 := hz.1.k778 hv
theorem RpL.n778 {p s : Nat} (hz : RpL A q h σ ρ) (hv : vdb (A 16 0 0) 12 p s = true) : m_N h (A 1802 p s) = 12 := hz.1.n778 hv
theorem RpL.x778 {p s i : Nat} (hz : RpL A q h σ ρ) (hv : vdb (A 16 0 0) 12 p s = true) : m_X h (A 1802 p s) i = zI ρ 1802 p s i := hz.1.x778 hv
theorem RpL.s778 {p s i : Nat} {v : Int32} (hz : RpL A q h σ ρ) (hv : vdb (A 16 0 0) 12 p s = true) : RpL A q (p_X h (A 1802 p s) i v) σ (sI ρ 1802 p s i v) := ⟨hz.1.s778 hv, hz.2.1, hz.2.2.1, hz.2.2.2.1, fun j => hz.2.2.2.2 j⟩
theorem RpL.r779 {p s : Nat} (hz : RpL A q h σ ρ) (hv : vdb (A 16 0 0) 12 p s = true) : m_R h 779 (A 12 p s) = some (A 1803 p s) := hz.1.r779 hv
theorem RpL.k779 {p s : Nat} (hz : RpL A q h σ ρ) (hv : vdb (A 16 0 0) 12 p s = true) : m_K h (A 1803 p s) = 20 := hz.1.k779 hv
theorem RpL.n779 {p s : Nat} (hz : RpL A q h σ ρ) (hv : vdb (A 16 0 0) 12 p s = true) : m_N h (A 1803 p s) = 72 := hz.1.n779 hv
theorem RpL.x779 {p s i : Nat} (hz : RpL A q h σ ρ) (hv : vdb (A 16 0 0) 12 p s = true) : m_X h (A 1803 p s) i = zI ρ 1803 p s i := hz.1.x779 hv
theorem RpL.s779 {p s i : Nat} {v : Int32} (hz : RpL A q h σ ρ) (hv : vdb (A 16 0 0) 12 p s = true) : RpL A q (p_X h (A 1803 p s) i v) σ (sI ρ 1803 p s i v) := ⟨hz.1.s779 hv, hz.2.1, hz.2.2.1, hz.2.2.2.1, fun j => hz.2.2.2.2 j⟩
theorem RpL.r780 {p s : Nat} (hz : RpL A q h σ ρ) (hv : vdb (A 16 0 0) 12 p s = true) : m_R h 780 (A 12 p s) = some (A 1804 p s) := hz.1.r780 hv
theorem RpL.k780 {p s : Nat} (hz : RpL A q h σ ρ) (hv : vdb (A 16 0 0) 12 p s = true) : m_K h (A 1804 p s) = 20 := hz.1.k780 hv
theorem RpL.n780 {p s : Nat} (hz : RpL A q h σ ρ) (hv : vdb (A 16 0 0) 12 p s = true) : m_N h (A 1804 p s) = 72 := hz.1.n780 hv
theorem RpL.x780 {p s i : Nat} (hz : RpL A q h σ ρ) (hv : vdb (A 16 0 0) 12 p s = true) : m_X h (A 1804 p s) i = zI ρ 1804 p s i := hz.1.x780 hv
theorem RpL.s780 {p s i : Nat} {v : Int32} (hz : RpL A q h σ ρ) (hv : vdb (A 16 0 0) 12 p s = true) : RpL A q (p_X h (A 1804 p s) i v) σ (sI ρ 1804 p s i v) := ⟨hz.1.s780 hv, hz.2.1, hz.2.2.1, hz.2.2.2.1, fun j => hz.2.2.2.2 j⟩
theorem RpL.r782 {p s : Nat} (hz : RpL A q h σ ρ) (hv : vdb (A 16 0 0) 12 p s = true) : m_R h 782 (A 12 p s) = some (A 1806 p s) := hz.1.r782 hv
theorem RpL.k782 {p s : Nat} (hz : RpL A q h σ ρ) (hv : vdb (A 16 0 0) 12 p s = true) : m_K h (A 1806 p s) = 20 := hz.1.k782 hv
theorem RpL.n782 {p s : Nat} (hz : RpL A q h σ ρ) (hv : vdb (A 16 0 0) 12 p s = true) : m_N h (A 1806 p s) = 8 := hz.1.n782 hv
theorem RpL.x782 {p s i : Nat} (hz : RpL A q h σ ρ) (hv : vdb (A 16 0 0) 12 p s = true) : m_X h (A 1806 p s) i = zI ρ 1806 p s i := hz.1.x782 hv
theorem RpL.s782 {p s i : Nat} {v : Int32} (hz : RpL A q h σ ρ) (hv : vdb (A 16 0 0) 12 p s = true) : RpL A q (p_X h (A 1806 p s) i v) σ (sI ρ 1806 p s i v) := ⟨hz.1.s782 hv, hz.2.1, hz.2.2.1, hz.2.2.2.1, fun j => hz.2.2.2.2 j⟩
theorem RpL.r783 {p s : Nat} (hz : RpL A q h σ ρ) (hv : vdb (A 16 0 0) 12 p s = true) : m_R h 783 (A 12 p s) = some (A 1807 p s) := hz.1.r783 hv
theorem RpL.k783 {p s : Nat} (hz : RpL A q h σ ρ) (hv : vdb (A 16 0 0) 12 p s = true) : m_K h (A 1807 p s) = 20 := hz.1.k783 hv
theorem RpL.n783 {p s : Nat} (hz : RpL A q h σ ρ) (hv : vdb (A 16 0 0) 12 p s = true) : m_N h (A 1807 p s) = 8 := hz.1.n783 hv
theorem RpL.x783 {p s i : Nat} (hz : RpL A q h σ ρ) (hv : vdb (A 16 0 0) 12 p s = true) : m_X h (A 1807 p s) i = zI ρ 1807 p s i := hz.1.x783 hv
theorem RpL.s783 {p s i : Nat} {v : Int32} (hz : RpL A q h σ ρ) (hv : vdb (A 16 0 0) 12 p s = true) : RpL A q (p_X h (A 1807 p s) i v) σ (sI ρ 1807 p s i v) := ⟨hz.1.s783 hv, hz.2.1, hz.2.2.1, hz.2.2.2.1, fun j => hz.2.2.2.2 j⟩
theorem RpL.r784 {p s : Nat} (hz : RpL A q h σ ρ) (hv : vdb (A 16 0 0) 12 p s = true) : m_R h 784 (A 12 p s) = some (A 1808 p s) := hz.1.r784 hv
theorem RpL.k784 {p s : Nat} (hz : RpL A q h σ ρ) (hv : vdb (A 16 0 0) 12 p s = true) : m_K h (A 1808 p s) = 20 := hz.1.k784 hv
theorem RpL.n784 {p s : Nat} (hz : RpL A q h σ ρ) (hv : vdb (A 16 0 0) 12 p s = true) : m_N h (A 1808 p s) = 8 := hz.1.n784 hv
theorem RpL.x784 {p s i : Nat} (hz : RpL A q h σ ρ) (hv : vdb (A 16 0 0) 12 p s = true) : m_X h (A 1808 p s) i = zI ρ 1808 p s i := hz.1.x784 hv
theorem RpL.s784 {p s i : Nat} {v : Int32} (hz : RpL A q h σ ρ) (hv : vdb (A 16 0 0) 12 p s = true) : RpL A q (p_X h (A 1808 p s) i v) σ (sI ρ 1808 p s i v) := ⟨hz.1.s784 hv, hz.2.1, hz.2.2.1, hz.2.2.2.1, fun j => hz.2.2.2.2 j⟩
theorem RpL.r786 {p s : Nat} (hz : RpL A q h σ ρ) (hv : vdb (A 16 0 0) 12 p s = true) : m_R h 786 (A 12 p s) = some (A 1810 p s) := hz.1.r786 hv
theorem RpL.k786 {p s : Nat} (hz : RpL A q h σ ρ) (hv : vdb (A 16 0 0) 12 p s = true) : m_K h (A 1810 p s) = 20 := hz.1.k786 hv
theorem RpL.n786 {p s : Nat} (hz : RpL A q h σ ρ) (hv : vdb (A 16 0 0) 12 p s = true) : m_N h (A 1810 p s) = 3000 := hz.1.n786 hv
theorem RpL.x786 {p s i : Nat} (hz : RpL A q h σ ρ) (hv : vdb (A 16 0 0) 12 p s = true) : m_X h (A 1810 p s) i = zI ρ 1810 p s i := hz.1.x786 hv
theorem RpL.s786 {p s i : Nat} {v : Int32} (hz : RpL A q h σ ρ) (hv : vdb (A 16 0 0) 12 p s = true) : RpL A q (p_X h (A 1810 p s) i v) σ (sI ρ 1810 p s i v) := ⟨hz.1.s786 hv, hz.2.1, hz.2.2.1, hz.2.2.2.1, fun j => hz.2.2.2.2 j⟩
theorem RpL.r787 {p s : Nat} (hz : RpL A q h σ ρ) (hv : vdb (A 16 0 0) 12 p s = true) : m_R h 787 (A 12 p s) = some (A 1811 p s) := hz.1.r787 hv
theorem RpL.k787 {p s : Nat} (hz : RpL A q h σ ρ) (hv : vdb (A 16 0 0) 12 p s = true) : m_K h (A 1811 p s) = 21 := hz.1.k787 hv
theorem RpL.n787 {p s : Nat} (hz : RpL A q h σ ρ) (hv : vdb (A 16 0 0) 12 p s = true) : m_N h (A 1811 p s) = 3000 := hz.1.n787 hv
theorem RpL.x787 {p s i : Nat} (hz : RpL A q h σ ρ) (hv : vdb (A 16 0 0) 12 p s = true) : m_Y h (A 1811 p s) i = zJ ρ 1811 p s i := hz.1.x787 hv
theorem RpL.s787 {p s i : Nat} {v : Int64} (hz : RpL A q h σ ρ) (hv : vdb (A 16 0 0) 12 p s = true) : RpL A q (p_Y h (A 1811 p s) i v) σ (sJ ρ 1811 p s i v) := ⟨hz.1.s787 hv, hz.2.1, hz.2.2.1, hz.2.2.2.1, fun j => by rw [g_YY, if_neg (fun z => hz.2.1 _ _ _ (vc_a (f := 787) (by decide) hv rfl) z.1.symm), hz.2.2.2.2 j, zJ_sJ, if_neg (fun z => absurd z.1 (by decide))]⟩
theorem RpL.r897 {p s : Nat} (hz : RpL A q h σ ρ) (hv : vdb (A 16 0 0) 14 p s = true) : m_R h 897 (A 14 p s) = some (A 1921 p s) := hz.1.r897 hv
theorem RpL.k897 {p s : Nat} (hz : RpL A q h σ ρ) (hv : vdb (A 16 0 0) 14 p s = true) : m_K h (A 1921 p s) = 21 := hz.1.k897 hv
theorem RpL.n897 {p s : Nat} (hz : RpL A q h σ ρ) (hv : vdb (A 16 0 0) 14 p s = true) : m_N h (A 1921 p s) = 32 := hz.1.n897 hv
theorem RpL.x897 {p s i : Nat} (hz : RpL A q h σ ρ) (hv : vdb (A 16 0 0) 14 p s = true) : m_Y h (A 1921 p s) i = zJ ρ 1921 p s i := hz.1.x897 hv
theorem RpL.s897 {p s i : Nat} {v : Int64} (hz : RpL A q h σ ρ) (hv : vdb (A 16 0 0) 14 p s = true) : RpL A q (p_Y h (A 1921 p s) i v) σ (sJ ρ 1921 p s i v) := ⟨hz.1.s897 hv, hz.2.1, hz.2.2.1, hz.2.2.2.1, fun j => by rw [g_YY, if_neg (fun z => hz.2.1 _ _ _ (vc_a (f := 897) (by decide) hv rfl) z.1.symm), hz.2.2.2.2 j, zJ_sJ, if_neg (fun z => absurd z.1 (by decide))]⟩
theorem RpL.r899 {p s : Nat} (hz : RpL A q h σ ρ) (hv : vdb (A 16 0 0) 14 p s = true) : m_R h 899 (A 14 p s) = some (A 1923 p s) := hz.1.r899 hv
theorem RpL.k899 {p s : Nat} (hz : RpL A q h σ ρ) (hv : vdb (A 16 0 0) 14 p s = true) : m_K h (A 1923 p s) = 20 := hz.1.k899 hv
theorem RpL.n899 {p s : Nat} (hz : RpL A q h σ ρ) (hv : vdb (A 16 0 0) 14 p s = true) : m_N h (A 1923 p s) = 1500 := hz.1.n899 hv
theorem RpL.x899 {p s i : Nat} (hz : RpL A q h σ ρ) (hv : vdb (A 16 0 0) 14 p s = true) : m_X h (A 1923 p s) i = zI ρ 1923 p s i := hz.1.x899 hv
theorem RpL.s899 {p s i : Nat} {v : Int32} (hz : RpL A q h σ ρ) (hv : vdb (A 16 0 0) 14 p s = true) : RpL A q (p_X h (A 1923 p s) i v) σ (sI ρ 1923 p s i v) := ⟨hz.1.s899 hv, hz.2.1, hz.2.2.1, hz.2.2.2.1, fun j => hz.2.2.2.2 j⟩
theorem RpL.r902 {p s : Nat} (hz : RpL A q h σ ρ) (hv : vdb (A 16 0 0) 14 p s = true) : m_R h 902 (A 14 p s) = some (A 1926 p s) := hz.1.r902 hv
theorem RpL.k902 {p s : Nat} (hz : RpL A q h σ ρ) (hv : vdb (A 16 0 0) 14 p s = true) : m_K h (A 1926 p s) = 20 := hz.1.k902 hv
theorem RpL.n902 {p s : Nat} (hz : RpL A q h σ ρ) (hv : vdb (A 16 0 0) 14 p s = true) : m_N h (A 1926 p s) = 1501 := hz.1.n902 hv
theorem RpL.x902 {p s i : Nat} (hz : RpL A q h σ ρ) (hv : vdb (A 16 0 0) 14 p s = true) : m_X h (A 1926 p s) i = zI ρ 1926 p s i := hz.1.x902 hv
theorem RpL.s902 {p s i : Nat} {v : Int32} (hz : RpL A q h σ ρ) (hv : vdb (A 16 0 0) 14 p s = true) : RpL A q (p_X h (A 1926 p s) i v) σ (sI ρ 1926 p s i v) := ⟨hz.1.s902 hv, hz.2.1, hz.2.2.1, hz.2.2.2.1, fun j => hz.2.2.2.2 j⟩
theorem RpL.r903 {p s : Nat} (hz : RpL A q h σ ρ) (hv : vdb (A 16 0 0) 14 p s = true) : m_R h 903 (A 14 p s) = some (A 1927 p s) := hz.1.r903 hv
theorem RpL.k903 {p s : Nat} (hz : RpL A q h σ ρ) (hv : vdb (A 16 0 0) 14 p s = true) : m_K h (A 1927 p s) = 20 := hz.1.k903 hv
theorem RpL.n903 {p s : Nat} (hz : RpL A q h σ ρ) (hv : vdb (A 16 0 0) 14 p s = true) : m_N h (A 1927 p s) = 1501 := hz.1.n903 hv
theorem RpL.x903 {p s i : Nat} (hz : RpL A q h σ ρ) (hv : vdb (A 16 0 0) 14 p s = true) : m_X h (A 1927 p s) i = zI ρ 1927 p s i := hz.1.x903 hv
theorem RpL.s903 {p s i : Nat} {v : Int32} (hz : RpL A q h σ ρ) (hv : vdb (A 16 0 0) 14 p s = true) : RpL A q (p_X h (A 1927 p s) i v) σ (sI ρ 1927 p s i v) := ⟨hz.1.s903 hv, hz.2.1, hz.2.2.1, hz.2.2.2.1, fun j => hz.2.2.2.2 j⟩
theorem RpL.r904 {p s : Nat} (hz : RpL A q h σ ρ) (hv : vdb (A 16 0 0) 14 p s = true) : m_R h 904 (A 14 p s) = some (A 1928 p s) := hz.1.r904 hv
theorem RpL.k904 {p s : Nat} (hz : RpL A q h σ ρ) (hv : vdb (A 16 0 0) 14 p s = true) : m_K h (A 1928 p s) = 21 := hz.1.k904 hv
theorem RpL.n904 {p s : Nat} (hz : RpL A q h σ ρ) (hv : vdb (A 16 0 0) 14 p s = true) : m_N h (A 1928 p s) = 1501 := hz.1.n904 hv
theorem RpL.x904 {p s i : Nat} (hz : RpL A q h σ ρ) (hv : vdb (A 16 0 0) 14 p s = true) : m_Y h (A 1928 p s) i = zJ ρ 1928 p s i := hz.1.x904 hv
theorem RpL.s904 {p s i : Nat} {v : Int64} (hz : RpL A q h σ ρ) (hv : vdb (A 16 0 0) 14 p s = true) : RpL A q (p_Y h (A 1928 p s) i v) σ (sJ ρ 1928 p s i v) := ⟨hz.1.s904 hv, hz.2.1, hz.2.2.1, hz.2.2.2.1, fun j => by rw [g_YY, if_neg (fun z => hz.2.1 _ _ _ (vc_a (f := 904) (by decide) hv rfl) z.1.symm), hz.2.2.2.2 j, zJ_sJ, if_neg (fun z => absurd z.1 (by decide))]⟩
theorem RpL.r912 {p s : Nat} (hz : RpL A q h σ ρ) (hv : vdb (A 16 0 0) 14 p s = true) : m_R h 912 (A 14 p s) = some (A 1936 p s) := hz.1.r912 hv
theorem RpL.k912 {p s : Nat} (hz : RpL A q h σ ρ) (hv : vdb (A 16 0 0) 14 p s = true) : m_K h (A 1936 p s) = 21 := hz.1.k912 hv
theorem RpL.n912 {p s : Nat} (hz : RpL A q h σ ρ) (hv : vdb (A 16 0 0) 14 p s = true) : m_N h (A 1936 p s) = 1500 := hz.1.n912 hv
theorem RpL.x912 {p s i : Nat} (hz : RpL A q h σ ρ) (hv : vdb (A 16 0 0) 14 p s = true) : m_Y h (A 1936 p s) i = zJ ρ 1936 p s i := hz.1.x912 hv
theorem RpL.s912 {p s i : Nat} {v : Int64} (hz : RpL A q h σ ρ) (hv : vdb (A 16 0 0) 14 p s = true) : RpL A q (p_Y h (A 1936 p s) i v) σ (sJ ρ 1936 p s i v) := ⟨hz.1.s912 hv, hz.2.1, hz.2.2.1, hz.2.2.2.1, fun j => by rw [g_YY, if_neg (fun z => hz.2.1 _ _ _ (vc_a (f := 912) (by decide) hv rfl) z.1.symm), hz.2.2.2.2 j, zJ_sJ, if_neg (fun z => absurd z.1 (by decide))]⟩
theorem RpL.r913 {p s : Nat} (hz : RpL A q h σ ρ) (hv : vdb (A 16 0 0) 14 p s = true) : m_R h 913 (A 14 p s) = some (A 1937 p s) := hz.1.r913 hv
theorem RpL.k913 {p s : Nat} (hz : RpL A q h σ ρ) (hv : vdb (A 16 0 0) 14 p s = true) : m_K h (A 1937 p s) = 20 := hz.1.k913 hv
theorem RpL.n913 {p s : Nat} (hz : RpL A q h σ ρ) (hv : vdb (A 16 0 0) 14 p s = true) : m_N h (A 1937 p s) = 1500 := hz.1.n913 hv
theorem RpL.x913 {p s i : Nat} (hz : RpL A q h σ ρ) (hv : vdb (A 16 0 0) 14 p s = true) : m_X h (A 1937 p s) i = zI ρ 1937 p s i := hz.1.x913 hv
theorem RpL.s913 {p s i : Nat} {v : Int32} (hz : RpL A q h σ ρ) (hv : vdb (A 16 0 0) 14 p s = true) : RpL A q (p_X h (A 1937 p s) i v) σ (sI ρ 1937 p s i v) := ⟨hz.1.s913 hv, hz.2.1, hz.2.2.1, hz.2.2.2.1, fun j => hz.2.2.2.2 j⟩
theorem RpL.r914 {p s : Nat} (hz : RpL A q h σ ρ) (hv : vdb (A 16 0 0) 14 p s = true) : m_R h 914 (A 14 p s) = some (A 1938 p s) := hz.1.r914 hv
theorem RpL.k914 {p s : Nat} (hz : RpL A q h σ ρ) (hv : vdb (A 16 0 0) 14 p s = true) : m_K h (A 1938 p s) = 20 := hz.1.k914 hv
theorem RpL.n914 {p s : Nat} (hz : RpL A q h σ ρ) (hv : vdb (A 16 0 0) 14 p s = true) : m_N h (A 1938 p s) = 1500 := hz.1.n914 hv
theorem RpL.x914 {p s i : Nat} (hz : RpL A q h σ ρ) (hv : vdb (A 16 0 0) 14 p s = true) : m_X h (A 1938 p s) i = zI ρ 1938 p s i := hz.1.x914 hv
theorem RpL.s914 {p s i : Nat} {v : Int32} (hz : RpL A q h σ ρ) (hv : vdb (A 16 0 0) 14 p s = true) : RpL A q (p_X h (A 1938 p s) i v) σ (sI ρ 1938 p s i v) := ⟨hz.1.s914 hv, hz.2.1, hz.2.2.1, hz.2.2.2.1, fun j => hz.2.2.2.2 j⟩
theorem RpL.r916 {p s : Nat} (hz : RpL A q h σ ρ) (hv : vdb (A 16 0 0) 14 p s = true) : m_R h 916 (A 14 p s) = some (A 1940 p s) := hz.1.r916 hv
theorem RpL.k916 {p s : Nat} (hz : RpL A q h σ ρ) (hv : vdb (A 16 0 0) 14 p s = true) : m_K h (A 1940 p s) = 21 := hz.1.k916 hv
theorem RpL.n916 {p s : Nat} (hz : RpL A q h σ ρ) (hv : vdb (A 16 0 0) 14 p s = true) : m_N h (A 1940 p s) = 16800 := hz.1.n916 hv
theorem RpL.x916 {p s i : Nat} (hz : RpL A q h σ ρ) (hv : vdb (A 16 0 0) 14 p s = true) : m_Y h (A 1940 p s) i = zJ ρ 1940 p s i := hz.1.x916 hv
theorem RpL.s916 {p s i : Nat} {v : Int64} (hz : RpL A q h σ ρ) (hv : vdb (A 16 0 0) 14 p s = true) : RpL A q (p_Y h (A 1940 p s) i v) σ (sJ ρ 1940 p s i v) := ⟨hz.1.s916 hv, hz.2.1, hz.2.2.1, hz.2.2.2.1, fun j => by rw [g_YY, if_neg (fun z => hz.2.1 _ _ _ (vc_a (f := 916) (by decide) hv rfl) z.1.symm), hz.2.2.2.2 j, zJ_sJ, if_neg (fun z => absurd z.1 (by decide))]⟩
theorem RpL.r917 {p s : Nat} (hz : RpL A q h σ ρ) (hv : vdb (A 16 0 0) 14 p s = true) : m_R h 917 (A 14 p s) = some (A 1941 p s) := hz.1.r917 hv
theorem RpL.k917 {p s : Nat} (hz : RpL A q h σ ρ) (hv : vdb (A 16 0 0) 14 p s = true) : m_K h (A 1941 p s) = 20 := hz.1.k917 hv
theorem RpL.n917 {p s : Nat} (hz : RpL A q h σ ρ) (hv : vdb (A 16 0 0) 14 p s = true) : m_N h (A 1941 p s) = 12 := hz.1.n917 hv
theorem RpL.x917 {p s i : Nat} (hz : RpL A q h σ ρ) (hv : vdb (A 16 0 0) 14 p s = true) : m_X h (A 1941 p s) i = zI ρ 1941 p s i := hz.1.x917 hv
theorem RpL.s917 {p s i : Nat} {v : Int32} (hz : RpL A q h σ ρ) (hv : vdb (A 16 0 0) 14 p s = true) : RpL A q (p_X h (A 1941 p s) i v) σ (sI ρ 1941 p s i v) := ⟨hz.1.s917 hv, hz.2.1, hz.2.2.1, hz.2.2.2.1, fun j => hz.2.2.2.2 j⟩
theorem RpL.r918 {p s : Nat} (hz : RpL A q h σ ρ) (hv : vdb (A 16 0 0) 14 p s = true) : m_R h 918 (A 14 p s) = some (A 1942 p s) := hz.1.r918 hv
theorem RpL.k918 {p s : Nat} (hz : RpL A q h σ ρ) (hv : vdb (A 16 0 0) 14 p s = true) : m_K h (A 1942 p s) = 20 := hz.1.k918 hv
theorem RpL.n918 {p s : Nat} (hz : RpL A q h σ ρ) (hv : vdb (A 16 0 0) 14 p s = true) : m_N h (A 1942 p s) = 12 := hz.1.n918 hv
theorem RpL.x918 {p s i : Nat} (hz : RpL A q h σ ρ) (hv : vdb (A 16 0 0) 14 p s = true) : m_X h (A 1942 p s) i = zI ρ 1942 p s i := hz.1.x918 hv
theorem RpL.s918 {p s i : Nat} {v : Int32} (hz : RpL A q h σ ρ) (hv : vdb (A 16 0 0) 14 p s = true) : RpL A q (p_X h (A 1942 p s) i v) σ (sI ρ 1942 p s i v) := ⟨hz.1.s918 hv, hz.2.1, hz.2.2.1, hz.2.2.2.1, fun j => hz.2.2.2.2 j⟩
theorem RpL.r919 {p s : Nat} (hz : RpL A q h σ ρ) (hv : vdb (A 16 0 0) 14 p s = true) : m_R h 919 (A 14 p s) = some (A 1943 p s) := hz.1.r919 hv
theorem RpL.k919 {p s : Nat} (hz : RpL A q h σ ρ) (hv : vdb (A 16 0 0) 14 p s = true) : m_K h (A 1943 p s) = 20 := hz.1.k919 hv
theorem RpL.n919 {p s : Nat} (hz : RpL A q h σ ρ) (hv : vdb (A 16 0 0) 14 p s = true) : m_N h (A 1943 p s) = 12 := hz.1.n919 hv
theorem RpL.x919 {p s i : Nat} (hz : RpL A q h σ ρ) (hv : vdb (A 16 0 0) 14 p s = true) : m_X h (A 1943 p s) i = zI ρ 1943 p s i := hz.1.x919 hv
theorem RpL.s919 {p s i : Nat} {v : Int32} (hz : RpL A q h σ ρ) (hv : vdb (A 16 0 0) 14 p s = true) : RpL A q (p_X h (A 1943 p s) i v) σ (sI ρ 1943 p s i v) := ⟨hz.1.s919 hv, hz.2.1, hz.2.2.1, hz.2.2.2.1, fun j => hz.2.2.2.2 j⟩
theorem RpL.r920 {p s : Nat} (hz : RpL A q h σ ρ) (hv : vdb (A 16 0 0) 14 p s = true) : m_R h 920 (A 14 p s) = some (A 1944 p s) := hz.1.r920 hv
theorem RpL.k920 {p s : Nat} (hz : RpL A q h σ ρ) (hv : vdb (A 16 0 0) 14 p s = true) : m_K h (A 1944 p s) = 20 := hz.1.k920 hv
theorem RpL.n920 {p s : Nat} (hz : RpL A q h σ ρ) (hv : vdb (A 16 0 0) 14 p s = true) : m_N h (A 1944 p s) = 12 := hz.1.n920 hv
theorem RpL.x920 {p s i : Nat} (hz : RpL A q h σ ρ) (hv : vdb (A 16 0 0) 14 p s = true) : m_X h (A 1944 p s) i = zI ρ 1944 p s i := hz.1.x920 hv
theorem RpL.s920 {p s i : Nat} {v : Int32} (hz : RpL A q h σ ρ) (hv : vdb (A 16 0 0) 14 p s = true) : RpL A q (p_X h (A 1944 p s) i v) σ (sI ρ 1944 p s i v) := ⟨hz.1.s920 hv, hz.2.1, hz.2.2.1, hz.2.2.2.1, fun j => hz.2.2.2.2 j⟩
theorem RpL.r921 {p s : Nat} (hz : RpL A q h σ ρ) (hv : vdb (A 16 0 0) 14 p s = true) : m_R h 921 (A 14 p s) = some (A 1945 p s) := hz.1.r921 hv
theorem RpL.k921 {p s : Nat} (hz : RpL A q h σ ρ) (hv : vdb (A 16 0 0) 14 p s = true) : m_K h (A 1945 p s) = 21 := hz.1.k921 hv
theorem RpL.n921 {p s : Nat} (hz : RpL A q h σ ρ) (hv : vdb (A 16 0 0) 14 p s = true) : m_N h (A 1945 p s) = 4800 := hz.1.n921 hv
theorem RpL.x921 {p s i : Nat} (hz : RpL A q h σ ρ) (hv : vdb (A 16 0 0) 14 p s = true) : m_Y h (A 1945 p s) i = zJ ρ 1945 p s i := hz.1.x921 hv
theorem RpL.s921 {p s i : Nat} {v : Int64} (hz : RpL A q h σ ρ) (hv : vdb (A 16 0 0) 14 p s = true) : RpL A q (p_Y h (A 1945 p s) i v) σ (sJ ρ 1945 p s i v) := ⟨hz.1.s921 hv, hz.2.1, hz.2.2.1, hz.2.2.2.1, fun j => by rw [g_YY, if_neg (fun z => hz.2.1 _ _ _ (vc_a (f := 921) (by decide) hv rfl) z.1.symm), hz.2.2.2.2 j, zJ_sJ, if_neg (fun z => absurd z.1 (by decide))]⟩
theorem RpL.r922 {p s : Nat} (hz : RpL A q h σ ρ) (hv : vdb (A 16 0 0) 14 p s = true) : m_R h 922 (A 14 p s) = some (A 1946 p s) := hz.1.r922 hv
theorem RpL.k922 {p s : Nat} (hz : RpL A q h σ ρ) (hv : vdb (A 16 0 0) 14 p s = true) : m_K h (A 1946 p s) = 20 := hz.1.k922 hv
theorem RpL.n922 {p s : Nat} (hz : RpL A q h σ ρ) (hv : vdb (A 16 0 0) 14 p s = true) : m_N h (A 1946 p s) = 12 := hz.1.n922 hv
theorem RpL.x922 {p s i : Nat} (hz : RpL A q h σ ρ) (hv : vdb (A 16 0 0) 14 p s = true) : m_X h (A 1946 p s) i = zI ρ 1946 p s i := hz.1.x922 hv
theorem RpL.s922 {p s i : Nat} {v : Int32} (hz : RpL A q h σ ρ) (hv : vdb (A 16 0 0) 14 p s = true) : RpL A q (p_X h (A 1946 p s) i v) σ (sI ρ 1946 p s i v) := ⟨hz.1.s922 hv, hz.2.1, hz.2.2.1, hz.2.2.2.1, fun j => hz.2.2.2.2 j⟩
theorem RpL.r924 {p s : Nat} (hz : RpL A q h σ ρ) (hv : vdb (A 16 0 0) 14 p s = true) : m_R h 924 (A 14 p s) = some (A 1948 p s) := hz.1.r924 hv
theorem RpL.k924 {p s : Nat} (hz : RpL A q h σ ρ) (hv : vdb (A 16 0 0) 14 p s = true) : m_K h (A 1948 p s) = 20 := hz.1.k924 hv
theorem RpL.n924 {p s : Nat} (hz : RpL A q h σ ρ) (hv : vdb (A 16 0 0) 14 p s = true) : m_N h (A 1948 p s) = 60 := hz.1.n924 hv
theorem RpL.x924 {p s i : Nat} (hz : RpL A q h σ ρ) (hv : vdb (A 16 0 0) 14 p s = true) : m_X h (A 1948 p s) i = zI ρ 1948 p s i := hz.1.x924 hv
theorem RpL.s924 {p s i : Nat} {v : Int32} (hz : RpL A q h σ ρ) (hv : vdb (A 16 0 0) 14 p s = true) : RpL A q (p_X h (A 1948 p s) i v) σ (sI ρ 1948 p s i v) := ⟨hz.1.s924 hv, hz.2.1, hz.2.2.1, hz.2.2.2.1, fun j => hz.2.2.2.2 j⟩
theorem RpL.r925 {p s : Nat} (hz : RpL A q h σ ρ) (hv : vdb (A 16 0 0) 14 p s = true) : m_R h 925 (A 14 p s) = some (A 1949 p s) := hz.1.r925 hv
theorem RpL.k925 {p s : Nat} (hz : RpL A q h σ ρ) (hv : vdb (A 16 0 0) 14 p s = true) : m_K h (A 1949 p s) = 20 := hz.1.k925 hv
theorem RpL.n925 {p s : Nat} (hz : RpL A q h σ ρ) (hv : vdb (A 16 0 0) 14 p s = true) : m_N h (A 1949 p s) = 60 := hz.1.n925 hv
theorem RpL.x925 {p s i : Nat} (hz : RpL A q h σ ρ) (hv : vdb (A 16 0 0) 14 p s = true) : m_X h (A 1949 p s) i = zI ρ 1949 p s i := hz.1.x925 hv
theorem RpL.s925 {p s i : Nat} {v : Int32} (hz : RpL A q h σ ρ) (hv : vdb (A 16 0 0) 14 p s = true) : RpL A q (p_X h (A 1949 p s) i v) σ (sI ρ 1949 p s i v) := ⟨hz.1.s925 hv, hz.2.1, hz.2.2.1, hz.2.2.2.1, fun j => hz.2.2.2.2 j⟩
theorem RpL.r926 {p s : Nat} (hz : RpL A q h σ ρ) (hv : vdb (A 16 0 0) 14 p s = true) : m_R h 926 (A 14 p s) = some (A 1950 p s) := hz.1.r926 hv
theorem RpL.k926 {p s : Nat} (hz : RpL A q h σ ρ) (hv : vdb (A 16 0 0) 14 p s = true) : m_K h (A 1950 p s) = 21 := hz.1.k926 hv
theorem RpL.n926 {p s : Nat} (hz : RpL A q h σ ρ) (hv : vdb (A 16 0 0) 14 p s = true) : m_N h (A 1950 p s) = 420 := hz.1.n926 hv
theorem RpL.x926 {p s i : Nat} (hz : RpL A q h σ ρ) (hv : vdb (A 16 0 0) 14 p s = true) : m_Y h (A 1950 p s) i = zJ ρ 1950 p s i := hz.1.x926 hv
theorem RpL.s926 {p s i : Nat} {v : Int64} (hz : RpL A q h σ ρ) (hv : vdb (A 16 0 0) 14 p s = true) : RpL A q (p_Y h (A 1950 p s) i v) σ (sJ ρ 1950 p s i v) := ⟨hz.1.s926 hv, hz.2.1, hz.2.2.1, hz.2.2.2.1, fun j => by rw [g_YY, if_neg (fun z => hz.2.1 _ _ _ (vc_a (f := 926) (by decide) hv rfl) z.1.symm), hz.2.2.2.2 j, zJ_sJ, if_neg (fun z => absurd z.1 (by decide))]⟩
theorem RpL.r927 {p s : Nat} (hz : RpL A q h σ ρ) (hv : vdb (A 16 0 0) 14 p s = true) : m_R h 927 (A 14 p s) = some (A 1951 p s) := hz.1.r927 hv
theorem RpL.k927 {p s : Nat} (hz : RpL A q h σ ρ) (hv : vdb (A 16 0 0) 14 p s = true) : m_K h (A 1951 p s) = 20 := hz.1.k927 hv
theorem RpL.n927 {p s : Nat} (hz : RpL A q h σ ρ) (hv : vdb (A 16 0 0) 14 p s = true) : m_N h (A 1951 p s) = 8 := hz.1.n927 hv
theorem RpL.x927 {p s i : Nat} (hz : RpL A q h σ ρ) (hv : vdb (A 16 0 0) 14 p s = true) : m_X h (A 1951 p s) i = zI ρ 1951 p s i := hz.1.x927 hv
theorem RpL.s927 {p s i : Nat} {v : Int32} (hz : RpL A q h σ ρ) (hv : vdb (A 16 0 0) 14 p s = true) : RpL A q (p_X h (A 1951 p s) i v) σ (sI ρ 1951 p s i v) := ⟨hz.1.s927 hv, hz.2.1, hz.2.2.1, hz.2.2.2.1, fun j => hz.2.2.2.2 j⟩
theorem RpL.r932 {p s : Nat} (hz : RpL A q h σ ρ) (hv : vdb (A 16 0 0) 14 p s = true) : m_R h 932 (A 14 p s) = some (A 1956 p s) := hz.1.r932 hv
theorem RpL.k932 {p s : Nat} (hz : RpL A q h σ ρ) (hv : vdb (A 16 0 0) 14 p s = true) : m_K h (A 1956 p s) = 21 := hz.1.k932 hv
theorem RpL.n932 {p s : Nat} (hz : RpL A q h σ ρ) (hv : vdb (A 16 0 0) 14 p s = true) : m_N h (A 1956 p s) = 64 := hz.1.n932 hv
theorem RpL.x932 {p s i : Nat} (hz : RpL A q h σ ρ) (hv : vdb (A 16 0 0) 14 p s = true) : m_Y h (A 1956 p s) i = zJ ρ 1956 p s i := hz.1.x932 hv
theorem RpL.s932 {p s i : Nat} {v : Int64} (hz : RpL A q h σ ρ) (hv : vdb (A 16 0 0) 14 p s = true) : RpL A q (p_Y h (A 1956 p s) i v) σ (sJ ρ 1956 p s i v) := ⟨hz.1.s932 hv, hz.2.1, hz.2.2.1, hz.2.2.2.1, fun j => by rw [g_YY, if_neg (fun z => hz.2.1 _ _ _ (vc_a (f := 932) (by decide) hv rfl) z.1.symm), hz.2.2.2.2 j, zJ_sJ, if_neg (fun z => absurd z.1 (by decide))]⟩
theorem RpL.r933 {p s : Nat} (hz : RpL A q h σ ρ) (hv : vdb (A 16 0 0) 14 p s = true) : m_R h 933 (A 14 p s) = some (A 1957 p s) := hz.1.r933 hv
theorem RpL.k933 {p s : Nat} (hz : RpL A q h σ ρ) (hv : vdb (A 16 0 0) 14 p s = true) : m_K h (A 1957 p s) = 21 := hz.1.k933 hv
theorem RpL.n933 {p s : Nat} (hz : RpL A q h σ ρ) (hv : vdb (A 16 0 0) 14 p s = true) : m_N h (A 1957 p s) = 7 := hz.1.n933 hv
theorem RpL.x933 {p s i : Nat} (hz : RpL A q h σ ρ) (hv : vdb (A 16 0 0) 14 p s = true) : m_Y h (A 1957 p s) i = zJ ρ 1957 p s i := hz.1.x933 hv
theorem RpL.s933 {p s i : Nat} {v : Int64} (hz : RpL A q h σ ρ) (hv : vdb (A 16 0 0) 14 p s = true) : RpL A q (p_Y h (A 1957 p s) i v) σ (sJ ρ 1957 p s i v) := ⟨hz.1.s933 hv, hz.2.1, hz.2.2.1, hz.2.2.2.1, fun j => by rw [g_YY, if_neg (fun z => hz.2.1 _ _ _ (vc_a (f := 933) (by decide) hv rfl) z.1.symm), hz.2.2.2.2 j, zJ_sJ, if_neg (fun z => absurd z.1 (by decide))]⟩
theorem RpL.r934 {p s : Nat} (hz : RpL A q h σ ρ) (hv : vdb (A 16 0 0) 14 p s = true) : m_R h 934 (A 14 p s) = some (A 1958 p s) := hz.1.r934 hv
theorem RpL.k934 {p s : Nat} (hz : RpL A q h σ ρ) (hv : vdb (A 16 0 0) 14 p s = true) : m_K h (A 1958 p s) = 20 := hz.1.k934 hv
theorem RpL.n934 {p s : Nat} (hz : RpL A q h σ ρ) (hv : vdb (A 16 0 0) 14 p s = true) : m_N h (A 1958 p s) = 12 := hz.1.n934 hv
theorem RpL.x934 {p s i : Nat} (hz : RpL A q h σ ρ) (hv : vdb (A 16 0 0) 14 p s = true) : m_X h (A 1958 p s) i = zI ρ 1958 p s i := hz.1.x934 hv
theorem RpL.s934 {p s i : Nat} {v : Int32} (hz : RpL A q h σ ρ) (hv : vdb (A 16 0 0) 14 p s = true) : RpL A q (p_X h (A 1958 p s) i v) σ (sI ρ 1958 p s i v) := ⟨hz.1.s934 hv, hz.2.1, hz.2.2.1, hz.2.2.2.1, fun j => hz.2.2.2.2 j⟩
theorem RpL.r935 {p s : Nat} (hz : RpL A q h σ ρ) (hv : vdb (A 16 0 0) 14 p s = true) : m_R h 935 (A 14 p s) = some (A 1959 p s) := hz.1.r935 hv
theorem RpL.k935 {p s : Nat} (hz : RpL A q h σ ρ) (hv : vdb (A 16 0 0) 14 p s = true) : m_K h (A 1959 p s) = 21 := hz.1.k935 hv
theorem RpL.n935 {p s : Nat} (hz : RpL A q h σ ρ) (hv : vdb (A 16 0 0) 14 p s = true) : m_N h (A 1959 p s) = 720 := hz.1.n935 hv
theorem RpL.x935 {p s i : Nat} (hz : RpL A q h σ ρ) (hv : vdb (A 16 0 0) 14 p s = true) : m_Y h (A 1959 p s) i = zJ ρ 1959 p s i := hz.1.x935 hv
theorem RpL.s935 {p s i : Nat} {v : Int64} (hz : RpL A q h σ ρ) (hv : vdb (A 16 0 0) 14 p s = true) : RpL A q (p_Y h (A 1959 p s) i v) σ (sJ ρ 1959 p s i v) := ⟨hz.1.s935 hv, hz.2.1, hz.2.2.1, hz.2.2.2.1, fun j => by rw [g_YY, if_neg (fun z => hz.2.1 _ _ _ (vc_a (f := 935) (by decide) hv rfl) z.1.symm), hz.2.2.2.2 j, zJ_sJ, if_neg (fun z => absurd z.1 (by decide))]⟩
theorem RpL.r936 {p s : Nat} (hz : RpL A q h σ ρ) (hv : vdb (A 16 0 0) 14 p s = true) : m_R h 936 (A 14 p s) = some (A 1960 p s) := hz.1.r936 hv
theorem RpL.k936 {p s : Nat} (hz : RpL A q h σ ρ) (hv : vdb (A 16 0 0) 14 p s = true) : m_K h (A 1960 p s) = 20 := hz.1.k936 hv
theorem RpL.n936 {p s : Nat} (hz : RpL A q h σ ρ) (hv : vdb (A 16 0 0) 14 p s = true) : m_N h (A 1960 p s) = 720 := hz.1.n936 hv
theorem RpL.x936 {p s i : Nat} (hz : RpL A q h σ ρ) (hv : vdb (A 16 0 0) 14 p s = true) : m_X h (A 1960 p s) i = zI ρ 1960 p s i := hz.1.x936 hv
theorem RpL.s936 {p s i : Nat} {v : Int32} (hz : RpL A q h σ ρ) (hv : vdb (A 16 0 0) 14 p s = true) : RpL A q (p_X h (A 1960 p s) i v) σ (sI ρ 1960 p s i v) := ⟨hz.1.s936 hv, hz.2.1, hz.2.2.1, hz.2.2.2.1, fun j => hz.2.2.2.2 j⟩
theorem RpL.r937 {p s : Nat} (hz : RpL A q h σ ρ) (hv : vdb (A 16 0 0) 14 p s = true) : m_R h 937 (A 14 p s) = some (A 1961 p s) := hz.1.r937 hv
theorem RpL.k937 {p s : Nat} (hz : RpL A q h σ ρ) (hv : vdb (A 16 0 0) 14 p s = true) : m_K h (A 1961 p s) = 23 := hz.1.k937 hv
theorem RpL.n937 {p s : Nat} (hz : RpL A q h σ ρ) (hv : vdb (A 16 0 0) 14 p s = true) : m_N h (A 1961 p s) = 720 := hz.1.n937 hv
theorem RpL.x937 {p s i : Nat} (hz : RpL A q h σ ρ) (hv : vdb (A 16 0 0) 14 p s = true) : m_X h (A 1961 p s) i = zI ρ 1961 p s i := hz.1.x937 hv
theorem RpL.s937 {p s i : Nat} {v : Int32} (hz : RpL A q h σ ρ) (hv : vdb (A 16 0 0) 14 p s = true) : RpL A q (p_X h (A 1961 p s) i v) σ (sI ρ 1961 p s i v) := ⟨hz.1.s937 hv, hz.2.1, hz.2.2.1, hz.2.2.2.1, fun j => hz.2.2.2.2 j⟩
theorem RpL.r938 {p s : Nat} (hz : RpL A q h σ ρ) (hv : vdb (A 16 0 0) 14 p s = true) : m_R h 938 (A 14 p s) = some (A 1962 p s) := hz.1.r938 hv
theorem RpL.k938 {p s : Nat} (hz : RpL A q h σ ρ) (hv : vdb (A 16 0 0) 14 p s = true) : m_K h (A 1962 p s) = 21 := hz.1.k938 hv
theorem RpL.n938 {p s : Nat} (hz : RpL A q h σ ρ) (hv : vdb (A 16 0 0) 14 p s = true) : m_N h (A 1962 p s) = 4320 := hz.1.n938 hv
theorem RpL.x938 {p s i : Nat} (hz : RpL A q h σ ρ) (hv : vdb (A 16 0 0) 14 p s = true) : m_Y h (A 1962 p s) i = zJ ρ 1962 p s i := hz.1.x938 hv
theorem RpL.s938 {p s i : Nat} {v : Int64} (hz : RpL A q h σ ρ) (hv : vdb (A 16 0 0) 14 p s = true) : RpL A q (p_Y h (A 1962 p s) i v) σ (sJ ρ 1962 p s i v) := ⟨hz.1.s938 hv, hz.2.1, hz.2.2.1, hz.2.2.2.1, fun j => by rw [g_YY, if_neg (fun z => hz.2.1 _ _ _ (vc_a (f := 938) (by decide) hv rfl) z.1.symm), hz.2.2.2.2 j, zJ_sJ, if_neg (fun z => absurd z.1 (by decide))]⟩
theorem RpL.r939 {p s : Nat} (hz : RpL A q h σ ρ) (hv : vdb (A 16 0 0) 14 p s = true) : m_R h 939 (A 14 p s) = some (A 1963 p s) := hz.1.r939 hv
theorem RpL.k939 {p s : Nat} (hz : RpL A q h σ ρ) (hv : vdb (A 16 0 0) 14 p s = true) : m_K h (A 1963 p s) = 20 := hz.1.k939 hv
theorem RpL.n939 {p s : Nat} (hz : RpL A q h σ ρ) (hv : vdb (A 16 0 0) 14 p s = true) : m_N h (A 1963 p s) = 720 := hz.1.n939 hv
theorem RpL.x939 {p s i : Nat} (hz : RpL A q h σ ρ) (hv : vdb (A 16 0 0) 14 p s = true) : m_X h (A 1963 p s) i = zI ρ 1963 p s i := hz.1.x939 hv
theorem RpL.s939 {p s i : Nat} {v : Int32} (hz : RpL A q h σ ρ) (hv : vdb (A 16 0 0) 14 p s = true) : RpL A q (p_X h (A 1963 p s) i v) σ (sI ρ 1963 p s i v) := ⟨hz.1.s939 hv, hz.2.1, hz.2.2.1, hz.2.2.2.1, fun j => hz.2.2.2.2 j⟩
theorem RpL.r941 {p s : Nat} (hz : RpL A q h σ ρ) (hv : vdb (A 16 0 0) 14 p s = true) : m_R h 941 (A 14 p s) = some (A 1965 p s) := hz.1.r941 hv
theorem RpL.k941 {p s : Nat} (hz : RpL A q h σ ρ) (hv : vdb (A 16 0 0) 14 p s = true) : m_K h (A 1965 p s) = 20 := hz.1.k941 hv
theorem RpL.n941 {p s : Nat} (hz : RpL A q h σ ρ) (hv : vdb (A 16 0 0) 14 p s = true) : m_N h (A 1965 p s) = 200 := hz.1.n941 hv
theorem RpL.x941 {p s i : Nat} (hz : RpL A q h σ ρ) (hv : vdb (A 16 0 0) 14 p s = true) : m_X h (A 1965 p s) i = zI ρ 1965 p s i := hz.1.x941 hv
theorem RpL.s941 {p s i : Nat} {v : Int32} (hz : RpL A q h σ ρ) (hv : vdb (A 16 0 0) 14 p s = true) : RpL A q (p_X h (A 1965 p s) i v) σ (sI ρ 1965 p s i v) := ⟨hz.1.s941 hv, hz.2.1, hz.2.2.1, hz.2.2.2.1, fun j => hz.2.2.2.2 j⟩
theorem RpL.r942 {p s : Nat} (hz : RpL A q h σ ρ) (hv : vdb (A 16 0 0) 14 p s = true) : m_R h 942 (A 14 p s) = some (A 1966 p s) := hz.1.r942 hv
theorem RpL.k942 {p s : Nat} (hz : RpL A q h σ ρ) (hv : vdb (A 16 0 0) 14 p s = true) : m_K h (A 1966 p s) = 20 := hz.1.k942 hv
theorem RpL.n942 {p s : Nat} (hz : RpL A q h σ ρ) (hv : vdb (A 16 0 0) 14 p s = true) : m_N h (A 1966 p s) = 200 := hz.1.n942 hv
theorem RpL.x942 {p s i : Nat} (hz : RpL A q h σ ρ) (hv : vdb (A 16 0 0) 14 p s = true) : m_X h (A 1966 p s) i = zI ρ 1966 p s i := hz.1.x942 hv
theorem RpL.s942 {p s i : Nat} {v : Int32} (hz : RpL A q h σ ρ) (hv : vdb (A 16 0 0) 14 p s = true) : RpL A q (p_X h (A 1966 p s) i v) σ (sI ρ 1966 p s i v) := ⟨hz.1.s942 hv, hz.2.1, hz.2.2.1, hz.2.2.2.1, fun j => hz.2.2.2.2 j⟩
theorem RpL.r943 {p s : Nat} (hz : RpL A q h σ ρ) (hv : vdb (A 16 0 0) 14 p s = true) : m_R h 943 (A 14 p s) = some (A 1967 p s) := hz.1.r943 hv
theorem RpL.k943 {p s : Nat} (hz : RpL A q h σ ρ) (hv : vdb (A 16 0 0) 14 p s = true) : m_K h (A 1967 p s) = 20 := hz.1.k943 hv
theorem RpL.n943 {p s : Nat} (hz : RpL A q h σ ρ) (hv : vdb (A 16 0 0) 14 p s = true) : m_N h (A 1967 p s) = 200 := hz.1.n943 hv
theorem RpL.x943 {p s i : Nat} (hz : RpL A q h σ ρ) (hv : vdb (A 16 0 0) 14 p s = true) : m_X h (A 1967 p s) i = zI ρ 1967 p s i := hz.1.x943 hv
theorem RpL.s943 {p s i : Nat} {v : Int32} (hz : RpL A q h σ ρ) (hv : vdb (A 16 0 0) 14 p s = true) : RpL A q (p_X h (A 1967 p s) i v) σ (sI ρ 1967 p s i v) := ⟨hz.1.s943 hv, hz.2.1, hz.2.2.1, hz.2.2.2.1, fun j => hz.2.2.2.2 j⟩
theorem RpL.r944 {p s : Nat} (hz : RpL A q h σ ρ) (hv : vdb (A 16 0 0) 14 p s = true) : m_R h 944 (A 14 p s) = some (A 1968 p s) := hz.1.r944 hv
theorem RpL.k944 {p s : Nat} (hz : RpL A q h σ ρ) (hv : vdb (A 16 0 0) 14 p s = true) : m_K h (A 1968 p s) = 21 := hz.1.k944 hv
theorem RpL.n944 {p s : Nat} (hz : RpL A q h σ ρ) (hv : vdb (A 16 0 0) 14 p s = true) : m_N h (A 1968 p s) = 200 := hz.1.n944 hv
theorem RpL.x944 {p s i : Nat} (hz : RpL A q h σ ρ) (hv : vdb (A 16 0 0) 14 p s = true) : m_Y h (A 1968 p s) i = zJ ρ 1968 p s i := hz.1.x944 hv
theorem RpL.s944 {p s i : Nat} {v : Int64} (hz : RpL A q h σ ρ) (hv : vdb (A 16 0 0) 14 p s = true) : RpL A q (p_Y h (A 1968 p s) i v) σ (sJ ρ 1968 p s i v) := ⟨hz.1.s944 hv, hz.2.1, hz.2.2.1, hz.2.2.2.1, fun j => by rw [g_YY, if_neg (fun z => hz.2.1 _ _ _ (vc_a (f := 944) (by decide) hv rfl) z.1.symm), hz.2.2.2.2 j, zJ_sJ, if_neg (fun z => absurd z.1 (by decide))]⟩
theorem RpL.r945 {p s : Nat} (hz : RpL A q h σ ρ) (hv : vdb (A 16 0 0) 14 p s = true) : m_R h 945 (A 14 p s) = some (A 1969 p s) := hz.1.r945 hv
theorem RpL.k945 {p s : Nat} (hz : RpL A q h σ ρ) (hv : vdb (A 16 0 0) 14 p s = true) : m_K h (A 1969 p s) = 21 := hz.1.k945 hv
theorem RpL.n945 {p s : Nat} (hz : RpL A q h σ ρ) (hv : vdb (A 16 0 0) 14 p s = true) : m_N h (A 1969 p s) = 1200 := hz.1.n945 hv
theorem RpL.x945 {p s i : Nat} (hz : RpL A q h σ ρ) (hv : vdb (A 16 0 0) 14 p s = true) : m_Y h (A 1969 p s) i = zJ ρ 1969 p s i := hz.1.x945 hv
theorem RpL.s945 {p s i : Nat} {v : Int64} (hz : RpL A q h σ ρ) (hv : vdb (A 16 0 0) 14 p s = true) : RpL A q (p_Y h (A 1969 p s) i v) σ (sJ ρ 1969 p s i v) := ⟨hz.1.s945 hv, hz.2.1, hz.2.2.1, hz.2.2.2.1, fun j => by rw [g_YY, if_neg (fun z => hz.2.1 _ _ _ (vc_a (f := 945) (by decide) hv rfl) z.1.symm), hz.2.2.2.2 j, zJ_sJ, if_neg (fun z => absurd z.1 (by decide))]⟩
theorem RpL.r947 {p s : Nat} (hz : RpL A q h σ ρ) (hv : vdb (A 16 0 0) 14 p s = true) : m_R h 947 (A 14 p s) = some (A 1971 p s) := hz.1.r947 hv
theorem RpL.k947 {p s : Nat} (hz : RpL A q h σ ρ) (hv : vdb (A 16 0 0) 14 p s = true) : m_K h (A 1971 p s) = 20 := hz.1.k947 hv
theorem RpL.n947 {p s : Nat} (hz : RpL A q h σ ρ) (hv : vdb (A 16 0 0) 14 p s = true) : m_N h (A 1971 p s) = 8 := hz.1.n947 hv
theorem RpL.x947 {p s i : Nat} (hz : RpL A q h σ ρ) (hv : vdb (A 16 0 0) 14 p s = true) : m_X h (A 1971 p s) i = zI ρ 1971 p s i := hz.1.x947 hv
theorem RpL.s947 {p s i : Nat} {v : Int32} (hz : RpL A q h σ ρ) (hv : vdb (A 16 0 0) 14 p s = true) : RpL A q (p_X h (A 1971 p s) i v) σ (sI ρ 1971 p s i v) := ⟨hz.1.s947 hv, hz.2.1, hz.2.2.1, hz.2.2.2.1, fun j => hz.2.2.2.2 j⟩
theorem RpL.r949 {p s : Nat} (hz : RpL A q h σ ρ) (hv : vdb (A 16 0 0) 14 p s = true) : m_R h 949 (A 14 p s) = some (A 1973 p s) := hz.1.r949 hv
theorem RpL.k949 {p s : Nat} (hz : RpL A q h σ ρ) (hv : vdb (A 16 0 0) 14 p s = true) : m_K h (A 1973 p s) = 21 := hz.1.k949 hv
theorem RpL.n949 {p s : Nat} (hz : RpL A q h σ ρ) (hv : vdb (A 16 0 0) 14 p s = true) : m_N h (A 1973 p s) = 6 := hz.1.n949 hv
theorem RpL.x949 {p s i : Nat} (hz : RpL A q h σ ρ) (hv : vdb (A 16 0 0) 14 p s = true) : m_Y h (A 1973 p s) i = zJ ρ 1973 p s i := hz.1.x949 hv
theorem RpL.s949 {p s i : Nat} {v : Int64} (hz : RpL A q h σ ρ) (hv : vdb (A 16 0 0) 14 p s = true) : RpL A q (p_Y h (A 1973 p s) i v) σ (sJ ρ 1973 p s i v) := ⟨hz.1.s949 hv, hz.2.1, hz.2.2.1, hz.2.2.2.1, fun j => by rw [g_YY, if_neg (fun z => hz.2.1 _ _ _ (vc_a (f := 949) (by decide) hv rfl) z.1.symm), hz.2.2.2.2 j, zJ_sJ, if_neg (fun z => absurd z.1 (by decide))]⟩
theorem RpL.r951 {p s : Nat} (hz : RpL A q h σ ρ) (hv : vdb (A 16 0 0) 14 p s = true) : m_R h 951 (A 14 p s) = some (A 1975 p s) := hz.1.r951 hv
theorem RpL.k951 {p s : Nat} (hz : RpL A q h σ ρ) (hv : vdb (A 16 0 0) 14 p s = true) : m_K h (A 1975 p s) = 21 := hz.1.k951 hv
theorem RpL.n951 {p s : Nat} (hz : RpL A q h σ ρ) (hv : vdb (A 16 0 0) 14 p s = true) : m_N h (A 1975 p s) = 12 := hz.1.n951 hv
theorem RpL.x951 {p s i : Nat} (hz : RpL A q h σ ρ) (hv : vdb (A 16 0 0) 14 p s = true) : m_Y h (A 1975 p s) i = zJ ρ 1975 p s i := hz.1.x951 hv
theorem RpL.s951 {p s i : Nat} {v : Int64} (hz : RpL A q h σ ρ) (hv : vdb (A 16 0 0) 14 p s = true) : RpL A q (p_Y h (A 1975 p s) i v) σ (sJ ρ 1975 p s i v) := ⟨hz.1.s951 hv, hz.2.1, hz.2.2.1, hz.2.2.2.1, fun j => by rw [g_YY, if_neg (fun z => hz.2.1 _ _ _ (vc_a (f := 951) (by decide) hv rfl) z.1.symm), hz.2.2.2.2 j, zJ_sJ, if_neg (fun z => absurd z.1 (by decide))]⟩
theorem RpL.r952 {p s : Nat} (hz : RpL A q h σ ρ) (hv : vdb (A 16 0 0) 14 p s = true) : m_R h 952 (A 14 p s) = some (A 1976 p s) := hz.1.r952 hv
theorem RpL.k952 {p s : Nat} (hz : RpL A q h σ ρ) (hv : vdb (A 16 0 0) 14 p s = true) : m_K h (A 1976 p s) = 20 := hz.1.k952 hv
theorem RpL.n952 {p s : Nat} (hz : RpL A q h σ ρ) (hv : vdb (A 16 0 0) 14 p s = true) : m_N h (A 1976 p s) = 12 := hz.1.n952 hv
theorem RpL.x952 {p s i : Nat} (hz : RpL A q h σ ρ) (hv : vdb (A 16 0 0) 14 p s = true) : m_X h (A 1976 p s) i = zI ρ 1976 p s i := hz.1.x952 hv
theorem RpL.s952 {p s i : Nat} {v : Int32} (hz : RpL A q h σ ρ) (hv : vdb (A 16 0 0) 14 p s = true) : RpL A q (p_X h (A 1976 p s) i v) σ (sI ρ 1976 p s i v) := ⟨hz.1.s952 hv, hz.2.1, hz.2.2.1, hz.2.2.2.1, fun j => hz.2.2.2.2 j⟩
theorem RpL.r953 {p s : Nat} (hz : RpL A q h σ ρ) (hv : vdb (A 16 0 0) 14 p s = true) : m_R h 953 (A 14 p s) = some (A 1977 p s) := hz.1.r953 hv
theorem RpL.k953 {p s : Nat} (hz : RpL A q h σ ρ) (hv : vdb (A 16 0 0) 14 p s = true) : m_K h (A 1977 p s) = 20 := hz.1.k953 hv
theorem RpL.n953 {p s : Nat} (hz : RpL A q h σ ρ) (hv : vdb (A 16 0 0) 14 p s = true) : m_N h (A 1977 p s) = 12 := hz.1.n953 hv
theorem RpL.x953 {p s i : Nat} (hz : RpL A q h σ ρ) (hv : vdb (A 16 0 0) 14 p s = true) : m_X h (A 1977 p s) i = zI ρ 1977 p s i := hz.1.x953 hv
theorem RpL.s953 {p s i : Nat} {v : Int32} (hz : RpL A q h σ ρ) (hv : vdb (A 16 0 0) 14 p s = true) : RpL A q (p_X h (A 1977 p s) i v) σ (sI ρ 1977 p s i v) := ⟨hz.1.s953 hv, hz.2.1, hz.2.2.1, hz.2.2.2.1, fun j => hz.2.2.2.2 j⟩
theorem RpL.r954 {p s : Nat} (hz : RpL A q h σ ρ) (hv : vdb (A 16 0 0) 14 p s = true) : m_R h 954 (A 14 p s) = some (A 1978 p s) := hz.1.r954 hv
theorem RpL.k954 {p s : Nat} (hz : RpL A q h σ ρ) (hv : vdb (A 16 0 0) 14 p s = true) : m_K h (A 1978 p s) = 21 := hz.1.k954 hv
theorem RpL.n954 {p s : Nat} (hz : RpL A q h σ ρ) (hv : vdb (A 16 0 0) 14 p s = true) : m_N h (A 1978 p s) = 16800 := hz.1.n954 hv
theorem RpL.x954 {p s i : Nat} (hz : RpL A q h σ ρ) (hv : vdb (A 16 0 0) 14 p s = true) : m_Y h (A 1978 p s) i = zJ ρ 1978 p s i := hz.1.x954 hv
theorem RpL.s954 {p s i : Nat} {v : Int64} (hz : RpL A q h σ ρ) (hv : vdb (A 16 0 0) 14 p s = true) : RpL A q (p_Y h (A 1978 p s) i v) σ (sJ ρ 1978 p s i v) := ⟨hz.1.s954 hv, hz.2.1, hz.2.2.1, hz.2.2.2.1, fun j => by rw [g_YY, if_neg (fun z => hz.2.1 _ _ _ (vc_a (f := 954) (by decide) hv rfl) z.1.symm), hz.2.2.2.2 j, zJ_sJ, if_neg (fun z => absurd z.1 (by decide))]⟩
theorem RpL.i768 {p s : Nat} (hz : RpL A q h σ ρ) (hv : vdb (A 16 0 0) 12 p s = true) : m_I h 768 (A 12 p s) = zI ρ 768 p s 0 := hz.1.i768 hv
theorem RpL.s768 {p s : Nat} {v : Int32} (hz : RpL A q h σ ρ) (hv : vdb (A 16 0 0) 12 p s = true) : RpL A q (p_I h 768 (A 12 p s) v) σ (sI ρ 768 p s 0 v) := ⟨hz.1.s768 hv, hz.2.1, hz.2.2.1, hz.2.2.2.1, fun j => hz.2.2.2.2 j⟩
theorem RpL.i781 {p s : Nat} (hz : RpL A q h σ ρ) (hv : vdb (A 16 0 0) 12 p s = true) : m_I h 781 (A 12 p s) = zI ρ 781 p s 0 := hz.1.i781 hv
theorem RpL.s781 {p s : Nat} {v : Int32} (hz : RpL A q h σ ρ) (hv : vdb (A 16 0 0) 12 p s = true) : RpL A q (p_I h 781 (A 12 p s) v) σ (sI ρ 781 p s 0 v) := ⟨hz.1.s781 hv, hz.2.1, hz.2.2.1, hz.2.2.2.1, fun j => hz.2.2.2.2 j⟩
theorem RpL.i785 {p s : Nat} (hz : RpL A q h σ ρ) (hv : vdb (A 16 0 0) 12 p s = true) : m_I h 785 (A 12 p s) = zI ρ 785 p s 0 := hz.1.i785 hv
theorem RpL.s785 {p s : Nat} {v : Int32} (hz : RpL A q h σ ρ) (hv : vdb (A 16 0 0) 12 p s = true) : RpL A q (p_I h 785 (A 12 p s) v) σ (sI ρ 785 p s 0 v) := ⟨hz.1.s785 hv, hz.2.1, hz.2.2.1, hz.2.2.2.1, fun j => hz.2.2.2.2 j⟩
theorem RpL.i896 {p s : Nat} (hz : RpL A q h σ ρ) (hv : vdb (A 16 0 0) 14 p s = true) : m_I h 896 (A 14 p s) = zI ρ 896 p s 0 := hz.1.i896 hv
theorem RpL.s896 {p s : Nat} {v : Int32} (hz : RpL A q h σ ρ) (hv : vdb (A 16 0 0) 14 p s = true) : RpL A q (p_I h 896 (A 14 p s) v) σ (sI ρ 896 p s 0 v) := ⟨hz.1.s896 hv, hz.2.1, hz.2.2.1, hz.2.2.2.1, fun j => hz.2.2.2.2 j⟩
theorem RpL.ww898 {p s : Nat} (hz : RpL A q h σ ρ) (hv : vdb (A 16 0 0) 14 p s = true) : vdb (A 16 0 0) 12 (zR ρ 898 p s 0).1 0 = true := hz.1.ww898 hv
theorem RpL.rr898 {p s : Nat} (hz : RpL A q h σ ρ) (hv : vdb (A 16 0 0) 14 p s = true) : m_R h 898 (A 14 p s) = some (A 12 (zR ρ 898 p s 0).1 0) := hz.1.rr898 hv
theorem RpL.i900 {p s : Nat} (hz : RpL A q h σ ρ) (hv : vdb (A 16 0 0) 14 p s = true) : m_I h 900 (A 14 p s) = zI ρ 900 p s 0 := hz.1.i900 hv
theorem RpL.s900 {p s : Nat} {v : Int32} (hz : RpL A q h σ ρ) (hv : vdb (A 16 0 0) 14 p s = true) : RpL A q (p_I h 900 (A 14 p s) v) σ (sI ρ 900 p s 0 v) := ⟨hz.1.s900 hv, hz.2.1, hz.2.2.1, hz.2.2.2.1, fun j => hz.2.2.2.2 j⟩
theorem RpL.i901 {p s : Nat} (hz : RpL A q h σ ρ) (hv : vdb (A 16 0 0) 14 p s = true) : m_I h 901 (A 14 p s) = zI ρ 901 p s 0 := hz.1.i901 hv
theorem RpL.s901 {p s : Nat} {v : Int32} (hz : RpL A q h σ ρ) (hv : vdb (A 16 0 0) 14 p s = true) : RpL A q (p_I h 901 (A 14 p s) v) σ (sI ρ 901 p s 0 v) := ⟨hz.1.s901 hv, hz.2.1, hz.2.2.1, hz.2.2.2.1, fun j => hz.2.2.2.2 j⟩
theorem RpL.i905 {p s : Nat} (hz : RpL A q h σ ρ) (hv : vdb (A 16 0 0) 14 p s = true) : m_I h 905 (A 14 p s) = zI ρ 905 p s 0 := hz.1.i905 hv
theorem RpL.s905 {p s : Nat} {v : Int32} (hz : RpL A q h σ ρ) (hv : vdb (A 16 0 0) 14 p s = true) : RpL A q (p_I h 905 (A 14 p s) v) σ (sI ρ 905 p s 0 v) := ⟨hz.1.s905 hv, hz.2.1, hz.2.2.1, hz.2.2.2.1, fun j => hz.2.2.2.2 j⟩
theorem RpL.i906 {p s : Nat} (hz : RpL A q h σ ρ) (hv : vdb (A 16 0 0) 14 p s = true) : m_I h 906 (A 14 p s) = zI ρ 906 p s 0 := hz.1.i906 hv
theorem RpL.s906 {p s : Nat} {v : Int32} (hz : RpL A q h σ ρ) (hv : vdb (A 16 0 0) 14 p s = true) : RpL A q (p_I h 906 (A 14 p s) v) σ (sI ρ 906 p s 0 v) := ⟨hz.1.s906 hv, hz.2.1, hz.2.2.1, hz.2.2.2.1, fun j => hz.2.2.2.2 j⟩
theorem RpL.i907 {p s : Nat} (hz : RpL A q h σ ρ) (hv : vdb (A 16 0 0) 14 p s = true) : m_I h 907 (A 14 p s) = zI ρ 907 p s 0 := hz.1.i907 hv
theorem RpL.s907 {p s : Nat} {v : Int32} (hz : RpL A q h σ ρ) (hv : vdb (A 16 0 0) 14 p s = true) : RpL A q (p_I h 907 (A 14 p s) v) σ (sI ρ 907 p s 0 v) := ⟨hz.1.s907 hv, hz.2.1, hz.2.2.1, hz.2.2.2.1, fun j => hz.2.2.2.2 j⟩
theorem RpL.i908 {p s : Nat} (hz : RpL A q h σ ρ) (hv : vdb (A 16 0 0) 14 p s = true) : m_I h 908 (A 14 p s) = zI ρ 908 p s 0 := hz.1.i908 hv
theorem RpL.s908 {p s : Nat} {v : Int32} (hz : RpL A q h σ ρ) (hv : vdb (A 16 0 0) 14 p s = true) : RpL A q (p_I h 908 (A 14 p s) v) σ (sI ρ 908 p s 0 v) := ⟨hz.1.s908 hv, hz.2.1, hz.2.2.1, hz.2.2.2.1, fun j => hz.2.2.2.2 j⟩
theorem RpL.i910 {p s : Nat} (hz : RpL A q h σ ρ) (hv : vdb (A 16 0 0) 14 p s = true) : m_I h 910 (A 14 p s) = zI ρ 910 p s 0 := hz.1.i910 hv
theorem RpL.s910 {p s : Nat} {v : Int32} (hz : RpL A q h σ ρ) (hv : vdb (A 16 0 0) 14 p s = true) : RpL A q (p_I h 910 (A 14 p s) v) σ (sI ρ 910 p s 0 v) := ⟨hz.1.s910 hv, hz.2.1, hz.2.2.1, hz.2.2.2.1, fun j => hz.2.2.2.2 j⟩
theorem RpL.i911 {p s : Nat} (hz : RpL A q h σ ρ) (hv : vdb (A 16 0 0) 14 p s = true) : m_I h 911 (A 14 p s) = zI ρ 911 p s 0 := hz.1.i911 hv
theorem RpL.s911 {p s : Nat} {v : Int32} (hz : RpL A q h σ ρ) (hv : vdb (A 16 0 0) 14 p s = true) : RpL A q (p_I h 911 (A 14 p s) v) σ (sI ρ 911 p s 0 v) := ⟨hz.1.s911 hv, hz.2.1, hz.2.2.1, hz.2.2.2.1, fun j => hz.2.2.2.2 j⟩
theorem RpL.i915 {p s : Nat} (hz : RpL A q h σ ρ) (hv : vdb (A 16 0 0) 14 p s = true) : m_I h 915 (A 14 p s) = zI ρ 915 p s 0 := hz.1.i915 hv
theorem RpL.s915 {p s : Nat} {v : Int32} (hz : RpL A q h σ ρ) (hv : vdb (A 16 0 0) 14 p s = true) : RpL A q (p_I h 915 (A 14 p s) v) σ (sI ρ 915 p s 0 v) := ⟨hz.1.s915 hv, hz.2.1, hz.2.2.1, hz.2.2.2.1, fun j => hz.2.2.2.2 j⟩
theorem RpL.i923 {p s : Nat} (hz : RpL A q h σ ρ) (hv : vdb (A 16 0 0) 14 p s = true) : m_I h 923 (A 14 p s) = zI ρ 923 p s 0 := hz.1.i923 hv
theorem RpL.s923 {p s : Nat} {v : Int32} (hz : RpL A q h σ ρ) (hv : vdb (A 16 0 0) 14 p s = true) : RpL A q (p_I h 923 (A 14 p s) v) σ (sI ρ 923 p s 0 v) := ⟨hz.1.s923 hv, hz.2.1, hz.2.2.1, hz.2.2.2.1, fun j => hz.2.2.2.2 j⟩
theorem RpL.i928 {p s : Nat} (hz : RpL A q h σ ρ) (hv : vdb (A 16 0 0) 14 p s = true) : m_I h 928 (A 14 p s) = zI ρ 928 p s 0 := hz.1.i928 hv
theorem RpL.s928 {p s : Nat} {v : Int32} (hz : RpL A q h σ ρ) (hv : vdb (A 16 0 0) 14 p s = true) : RpL A q (p_I h 928 (A 14 p s) v) σ (sI ρ 928 p s 0 v) := ⟨hz.1.s928 hv, hz.2.1, hz.2.2.1, hz.2.2.2.1, fun j => hz.2.2.2.2 j⟩
theorem RpL.i929 {p s : Nat} (hz : RpL A q h σ ρ) (hv : vdb (A 16 0 0) 14 p s = true) : m_I h 929 (A 14 p s) = zI ρ 929 p s 0 := hz.1.i929 hv
theorem RpL.s929 {p s : Nat} {v : Int32} (hz : RpL A q h σ ρ) (hv : vdb (A 16 0 0) 14 p s = true) : RpL A q (p_I h 929 (A 14 p s) v) σ (sI ρ 929 p s 0 v) := ⟨hz.1.s929 hv, hz.2.1, hz.2.2.1, hz.2.2.2.1, fun j => hz.2.2.2.2 j⟩
theorem RpL.i930 {p s : Nat} (hz : RpL A q h σ ρ) (hv : vdb (A 16 0 0) 14 p s = true) : m_I h 930 (A 14 p s) = zI ρ 930 p s 0 := hz.1.i930 hv
theorem RpL.s930 {p s : Nat} {v : Int32} (hz : RpL A q h σ ρ) (hv : vdb (A 16 0 0) 14 p s = true) : RpL A q (p_I h 930 (A 14 p s) v) σ (sI ρ 930 p s 0 v) := ⟨hz.1.s930 hv, hz.2.1, hz.2.2.1, hz.2.2.2.1, fun j => hz.2.2.2.2 j⟩
theorem RpL.i931 {p s : Nat} (hz : RpL A q h σ ρ) (hv : vdb (A 16 0 0) 14 p s = true) : m_I h 931 (A 14 p s) = zI ρ 931 p s 0 := hz.1.i931 hv
theorem RpL.s931 {p s : Nat} {v : Int32} (hz : RpL A q h σ ρ) (hv : vdb (A 16 0 0) 14 p s = true) : RpL A q (p_I h 931 (A 14 p s) v) σ (sI ρ 931 p s 0 v) := ⟨hz.1.s931 hv, hz.2.1, hz.2.2.1, hz.2.2.2.1, fun j => hz.2.2.2.2 j⟩
theorem RpL.i940 {p s : Nat} (hz : RpL A q h σ ρ) (hv : vdb (A 16 0 0) 14 p s = true) : m_I h 940 (A 14 p s) = zI ρ 940 p s 0 := hz.1.i940 hv
theorem RpL.s940 {p s : Nat} {v : Int32} (hz : RpL A q h σ ρ) (hv : vdb (A 16 0 0) 14 p s = true) : RpL A q (p_I h 940 (A 14 p s) v) σ (sI ρ 940 p s 0 v) := ⟨hz.1.s940 hv, hz.2.1, hz.2.2.1, hz.2.2.2.1, fun j => hz.2.2.2.2 j⟩
theorem RpL.i946 {p s : Nat} (hz : RpL A q h σ ρ) (hv : vdb (A 16 0 0) 14 p s = true) : m_I h 946 (A 14 p s) = zI ρ 946 p s 0 := hz.1.i946 hv
theorem RpL.s946 {p s : Nat} {v : Int32} (hz : RpL A q h σ ρ) (hv : vdb (A 16 0 0) 14 p s = true) : RpL A q (p_I h 946 (A 14 p s) v) σ (sI ρ 946 p s 0 v) := ⟨hz.1.s946 hv, hz.2.1, hz.2.2.1, hz.2.2.2.1, fun j => hz.2.2.2.2 j⟩
theorem RpL.i948 {p s : Nat} (hz : RpL A q h σ ρ) (hv : vdb (A 16 0 0) 14 p s = true) : m_I h 948 (A 14 p s) = zI ρ 948 p s 0 := hz.1.i948 hv
theorem RpL.s948 {p s : Nat} {v : Int32} (hz : RpL A q h σ ρ) (hv : vdb (A 16 0 0) 14 p s = true) : RpL A q (p_I h 948 (A 14 p s) v) σ (sI ρ 948 p s 0 v) := ⟨hz.1.s948 hv, hz.2.1, hz.2.2.1, hz.2.2.2.1, fun j => hz.2.2.2.2 j⟩
theorem RpL.i950 {p s : Nat} (hz : RpL A q h σ ρ) (hv : vdb (A 16 0 0) 14 p s = true) : m_I h 950 (A 14 p s) = zI ρ 950 p s 0 := hz.1.i950 hv
theorem RpL.s950 {p s : Nat} {v : Int32} (hz : RpL A q h σ ρ) (hv : vdb (A 16 0 0) 14 p s = true) : RpL A q (p_I h 950 (A 14 p s) v) σ (sI ρ 950 p s 0 v) := ⟨hz.1.s950 hv, hz.2.1, hz.2.2.1, hz.2.2.2.1, fun j => hz.2.2.2.2 j⟩
end RPL
