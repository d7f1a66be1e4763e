/-! HELPS for lifted methods -/
abbrev gi (i : Int32) (n : Nat) : Prop := ¬ (i < 0 ∨ n ≤ i.toNatClampNeg)
theorem gi_lt {i : Int32} {n : Nat} (h : gi i n) : i.toNatClampNeg < n := Nat.lt_of_not_le (fun q => h (Or.inr q))
theorem gin {i : Int32} {n m : Nat} (e : m = n) (g : gi i n) : vp_in i m := by subst e; exact g
abbrev n64 (r : UInt64) : Prop := r &&& 0x7fffffffffffffff ≤ 0x7ff0000000000000
def FU : Nat := 20000
def lt {α : Type} (z : Zs) (k : Zs → Option α) : Option α := k z
theorem lt_e {α : Type} {z : Zs} {k : Zs → Option α} {r : Option α} (h : lt z k = r) : ∃ y, y = z ∧ k y = r := ⟨z, rfl, h⟩
def nn {α : Type} (o : Option (Nat × Nat)) (a : Option α) (b : Nat × Nat → Option α) : Option α := match o with
  | none => a
  | some q => b q
theorem nn_n {α : Type} {a : Option α} {b : Nat × Nat → Option α} {r : Option α} (h : nn none a b = r) : a = r := h
theorem nn_s {α : Type} {a : Option α} {b : Nat × Nat → Option α} {q : Nat × Nat} {r : Option α} (h : nn (some q) a b = r) : b q = r := h
def bxk {α β : Type} (v : Except String α) (z : Zs) (k : α → Zs → Option (Except String β × Zs)) : Option (Except String β × Zs) := match v with
  | .ok w => k w z
  | .error e => some (.error e, z)
def bx {α β : Type} (o : Option (Except String α × Zs)) (k : α → Zs → Option (Except String β × Zs)) : Option (Except String β × Zs) := match o with
  | some (v, z) => bxk v z k
  | none => none
theorem bx_some {α β : Type} {o : Option (Except String α × Zs)} {k : α → Zs → Option (Except String β × Zs)} {r : Except String β × Zs} (h : bx o k = some r) : ∃ v z, o = some (v, z) ∧ bxk v z k = some r := by
  rcases o with _ | ⟨v, z⟩
  · cases h
  · exact ⟨v, z, rfl, h⟩
theorem bx_ok {α β : Type} {w : α} {z : Zs} {k : α → Zs → Option (Except String β × Zs)} {r : Option (Except String β × Zs)} (h : bxk (.ok w) z k = r) : k w z = r := h
theorem bx_er {α β : Type} {e : String} {z : Zs} {k : α → Zs → Option (Except String β × Zs)} {r : Option (Except String β × Zs)} (h : bxk (.error e) z k = r) : some (.error e, z) = r := h
theorem Rp.ts {A : Nat → Nat → Nat → Nat} {h : Hp} {σ σ' ρ : Zs} (hz : Rp A h σ ρ) (e : σ' = σ) : Rp A h σ' ρ := by rw [e]; exact hz
theorem Rp.tr {A : Nat → Nat → Nat → Nat} {h : Hp} {σ ρ ρ' : Zs} (hz : Rp A h σ ρ) (e : ρ' = ρ) : Rp A h σ ρ' := by rw [e]; exact hz
theorem zr {v : Int32} (g : v = 0 ∨ v = 1) : narrow .boolean (.int v) = .int v := by rcases g with rfl | rfl <;> rfl
theorem zn {v : Int32} (g : v = 0 ∨ v = 1) : vp_nar .boolean v = v := by rcases g with rfl | rfl <;> rfl
theorem vdb_320 {N : Nat} {p i : Nat} (hv : vdb N 5 p 0 = true) (hi : i < 12) : vdb N 7 p i = true := by simp [vdb] at hv ⊢; omega
theorem vdb_322 {N : Nat} {p i : Nat} (hv : vdb N 5 p 0 = true) (hi : i < 8) : vdb N 0 p i = true := by simp [vdb] at hv ⊢; omega
theorem vdb_715 {N : Nat} {p i : Nat} (_ : vdb N 11 p 0 = true) (hi : i < 200) : vdb N 2 0 i = true := by simp [vdb]; omega
theorem vdb_e {N : Nat} {s : Nat} (hv : vdb N 2 0 s = true) : vdb N 6 5 s = true := by simp [vdb] at hv ⊢; omega
theorem i32_ne {a : Int32} {k : Int} (h1 : -2147483648 ≤ k) (h2 : k ≤ 2147483647) (h : ¬ a = Int32.ofInt k) : a.toInt ≠ k := fun e => h (by rw [← e, Int32.ofInt_toInt])
theorem tabout {a : Int32} (lo hi : Int) (h : ∀ k : Int, lo ≤ k → k ≤ hi → ¬ a = Int32.ofInt k) : a.toInt < lo ∨ hi < a.toInt := by
  rcases Int.lt_or_le a.toInt lo with q | q
  · exact Or.inl q
  · rcases Int.lt_or_le hi a.toInt with q2 | q2
    · exact Or.inr q2
    · exact absurd (Int32.ofInt_toInt a).symm (h a.toInt q q2)
/-- a row handed over: its code says kind and length -/
def aok (N : Nat) (c p s k n : Nat) : Bool := decide (1024 ≤ c) && (decide (c < 2048) && (vdb N ((c - 1024) / 64) p s && (arr (c - 1024) == some (k, n))))
theorem aok_of {N : Nat} {f p s k n : Nat} (hf : f < 1024) (hv : vdb N (f / 64) p s = true) (ha : arr f = some (k, n)) : aok N (1024 + f) p s k n = true := by
  unfold aok
  rw [Nat.add_sub_cancel_left, hv, ha]
  simp
  omega
theorem aok_to {N : Nat} {c p s k n : Nat} (h : aok N c p s k n = true) : ∃ f, c = 1024 + f ∧ f < 1024 ∧ vdb N (f / 64) p s = true ∧ arr f = some (k, n) := by
  unfold aok at h
  simp at h
  obtain ⟨h1, h2, h3, h4⟩ := h
  exact ⟨c - 1024, by omega, by omega, h3, h4⟩
theorem Rp.gk {A : Nat → Nat → Nat → Nat} {h : Hp} {σ ρ : Zs} {c p s k n : Nat} (hz : Rp A h σ ρ) (hg : aok (A 16 0 0) c p s k n = true) : m_K h (A c p s) = k := by
  obtain ⟨f, rfl, hf, hv, ha⟩ := aok_to hg
  exact (hz.1.2.2.1 f p s k n ha hf hv).2.1
theorem Rp.gn {A : Nat → Nat → Nat → Nat} {h : Hp} {σ ρ : Zs} {c p s k n : Nat} (hz : Rp A h σ ρ) (hg : aok (A 16 0 0) c p s k n = true) : m_N h (A c p s) = n := by
  obtain ⟨f, rfl, hf, hv, ha⟩ := aok_to hg
  exact (hz.1.2.2.1 f p s k n ha hf hv).2.2
theorem Rp.gyr {A : Nat → Nat → Nat → Nat} {h : Hp} {σ ρ : Zs} {c p s k n i : Nat} (hz : Rp A h σ ρ) (hg : aok (A 16 0 0) c p s k n = true) (hc : isr c = true) : m_Y h (A c p s) i = zJ ρ c p s i := by
  obtain ⟨f, rfl, hf, hv, ha⟩ := aok_to hg
  have := (hz.2.1.2 f p s i hf hv (by rw [ha]; rfl)).2
  rw [zJ_mz, hc] at this
  exact this
theorem Rp.gys {A : Nat → Nat → Nat → Nat} {h : Hp} {σ ρ : Zs} {c p s k n i : Nat} (hz : Rp A h σ ρ) (hg : aok (A 16 0 0) c p s k n = true) (hc : isr c = false) : m_Y h (A c p s) i = zJ σ c p s i := by
  obtain ⟨f, rfl, hf, hv, ha⟩ := aok_to hg
  have := (hz.2.1.2 f p s i hf hv (by rw [ha]; rfl)).2
  rw [zJ_mz, hc] at this
  exact this
theorem vdb5_0 {N : Nat} {p s : Nat} (h : vdb N 5 p s = true) : s = 0 := by simp [vdb] at h; omega
theorem Rp.ww64 {A : Nat → Nat → Nat → Nat} {h : Hp} {σ ρ : Zs} {p s : Nat} (hz : Rp A h σ ρ) (hv : vdb (A 16 0 0) 1 p s = true) : vdb (A 16 0 0) 5 (zR σ 64 p s 0).1 0 = true := by
  have h1 := hz.w64 hv
  have h2 := vdb5_0 h1
  rw [h2] at h1
  exact h1
theorem Rp.rr64 {A : Nat → Nat → Nat → Nat} {h : Hp} {σ ρ : Zs} {p s : Nat} (hz : Rp A h σ ρ) (hv : vdb (A 16 0 0) 1 p s = true) : m_R h 64 (A 1 p s) = some (A 5 (zR σ 64 p s 0).1 0) := by
  have h1 := hz.r64 hv
  rw [vdb5_0 (hz.w64 hv)] at h1
  exact h1
theorem Rp.ww194 {A : Nat → Nat → Nat → Nat} {h : Hp} {σ ρ : Zs} {p s : Nat} (hz : Rp A h σ ρ) (hv : vdb (A 16 0 0) 3 p s = true) : vdb (A 16 0 0) 5 (zR σ 194 p s 0).1 0 = true := by
  have h1 := hz.w194 hv
  have h2 := vdb5_0 h1
  rw [h2] at h1
  exact h1
theorem Rp.rr194 {A : Nat → Nat → Nat → Nat} {h : Hp} {σ ρ : Zs} {p s : Nat} (hz : Rp A h σ ρ) (hv : vdb (A 16 0 0) 3 p s = true) : m_R h 194 (A 3 p s) = some (A 5 (zR σ 194 p s 0).1 0) := by
  have h1 := hz.r194 hv
  rw [vdb5_0 (hz.w194 hv)] at h1
  exact h1
theorem Rp.ww707 {A : Nat → Nat → Nat → Nat} {h : Hp} {σ ρ : Zs} {p s : Nat} (hz : Rp A h σ ρ) (hv : vdb (A 16 0 0) 11 p s = true) : vdb (A 16 0 0) 5 (zR σ 707 p s 0).1 0 = true := by
  have h1 := hz.w707 hv
  have h2 := vdb5_0 h1
  rw [h2] at h1
  exact h1
theorem Rp.rr707 {A : Nat → Nat → Nat → Nat} {h : Hp} {σ ρ : Zs} {p s : Nat} (hz : Rp A h σ ρ) (hv : vdb (A 16 0 0) 11 p s = true) : m_R h 707 (A 11 p s) = some (A 5 (zR σ 707 p s 0).1 0) := by
  have h1 := hz.r707 hv
  rw [vdb5_0 (hz.w707 hv)] at h1
  exact h1
theorem Rp.ww708 {A : Nat → Nat → Nat → Nat} {h : Hp} {σ ρ : Zs} {p s : Nat} (hz : Rp A h σ ρ) (hv : vdb (A 16 0 0) 11 p s = true) : vdb (A 16 0 0) 5 (zR σ 708 p s 0).1 0 = true := by
  have h1 := hz.w708 hv
  have h2 := vdb5_0 h1
  rw [h2] at h1
  exact h1
theorem Rp.rr708 {A : Nat → Nat → Nat → Nat} {h : Hp} {σ ρ : Zs} {p s : Nat} (hz : Rp A h σ ρ) (hv : vdb (A 16 0 0) 11 p s = true) : m_R h 708 (A 11 p s) = some (A 5 (zR σ 708 p s 0).1 0) := by
  have h1 := hz.r708 hv
  rw [vdb5_0 (hz.w708 hv)] at h1
  exact h1
theorem Rp.ww709 {A : Nat → Nat → Nat → Nat} {h : Hp} {σ ρ : Zs} {p s : Nat} (hz : Rp A h σ ρ) (hv : vdb (A 16 0 0) 11 p s = true) : vdb (A 16 0 0) 5 (zR σ 709 p s 0).1 0 = true := by
  have h1 := hz.w709 hv
  have h2 := vdb5_0 h1
  rw [h2] at h1
  exact h1
theorem Rp.rr709 {A : Nat → Nat → Nat → Nat} {h : Hp} {σ ρ : Zs} {p s : Nat} (hz : Rp A h σ ρ) (hv : vdb (A 16 0 0) 11 p s = true) : m_R h 709 (A 11 p s) = some (A 5 (zR σ 709 p s 0).1 0) := by
  have h1 := hz.r709 hv
  rw [vdb5_0 (hz.w709 hv)] at h1
  exact h1
theorem vdb2_0 {N : Nat} {p s : Nat} (h : vdb N 2 p s = true) : p = 0 := by simp [vdb] at h; omega
theorem vdb2_r {N : Nat} {p s : Nat} (h : vdb N 2 p s = true) : vdb N 2 0 s = true := by simp [vdb] at h ⊢; omega
theorem noerr {α : Type} {e : String} {z y : Zs} {v : α} {P : Prop} (h : some (Except.error e, z) = some (Except.ok v, y)) : P := by cases h
theorem ret_inj2 {α : Type} {v w : α} {z y : Zs} (h : some ((Except.ok v : Except String α), z) = some (Except.ok w, y)) : v = w ∧ z = y := by cases h; exact ⟨rfl, rfl⟩
theorem Rp.gh {A : Nat → Nat → Nat → Nat} {h : Hp} {σ ρ : Zs} {v : Option Nat} (hz : Rp A h σ ρ) : Rp A (p_R h 1023 0 v) σ ρ := by
  refine ⟨⟨hz.1.1, hz.1.2.1, fun f p s k n ha hf hv => ⟨fun q => ?_, (hz.1.2.2.1 f p s k n ha hf hv).2⟩, fun f p s c' p' s' hs hv => ?_, hz.1.2.2.2.2⟩, hz.2.1, fun f p s c hd hv hm => ?_, hz.2.2.2.1, hz.2.2.2.2.t (fun q hq => ⟨rfl, rfl, fun g hg => ⟨rfl, rfl, if_neg (fun e => by omega)⟩, fun _ => ⟨rfl, rfl, rfl⟩⟩) (fun _ _ _ _ _ => rfl) (fun _ _ _ _ _ => rfl) (fun _ _ _ _ _ => rfl)⟩
  · rw [g_RR, if_neg (fun z => by rw [z.1] at ha; cases ha)]
    exact (hz.1.2.2.1 f p s k n ha hf hv).1 q
  · rw [g_RR, if_neg (fun z => by rw [z.1] at hs; cases hs)]
    exact hz.1.2.2.2.1 f p s c' p' s' hs hv
  · rw [g_RR, if_neg (fun z => by rw [z.1] at hd; cases hd)]
    exact hz.2.2.1 f p s c hd hv hm
def p_min (a b : Int32) : Int32 := if b < a then b else a
def p_max (a b : Int32) : Int32 := if a < b then b else a
def p_abs (a : Int32) : Int32 := if 0 ≤ a then a else 0 - a
def p_lmin (a b : Int64) : Int64 := if b < a then b else a
def p_lmax (a b : Int64) : Int64 := if b < a then a else b
def p_labs (a : Int64) : Int64 := if 0 < a then a else -a
section K18
variable {x : Cxt} {M : MI} {pc pc' : Nat} {lv lv' : List (Nat × Value)} {st : List Value} {h : Hp} {kc ks dd Mc Ms index : Nat}
theorem w_mmin {a b : Int32} (hrm : m_rm dd Mc Ms x) (hdd : 1 ≤ dd) (hd : decode M.2.1 pc = .ok (.invokestatic index, 3)) (hp : pc + 3 = pc') (h1 : Cond.methodLink M.1 index yJ9_min_7cf53 ∈ m_TW) (hcat : (st.map fun v => v.category).sum ≤ 8) (hmc : kc ≤ Mc) (hms : ks ≤ Ms) (k : wp x M pc' lv (.int (p_min a b) :: st) h kc ks) : wp x M pc lv (.int b :: .int a :: st) h kc ks := by
  obtain ⟨p, l, e, R, s, m, args, below, meth, cd, Q, A, D, ca, aK, aV⟩ := x
  obtain ⟨own, cc, nL, y, ret, hh⟩ := M
  subst hp
  intro ok H locs ls L hw hS hl
  obtain ⟨r1, r2, r3, r4⟩ := hrm
  exact va_mmin ok.1 ok.2.1 (ok.2.2.1.trans hl.1.symm) ok.2.2.2.1 (ok.2.2.2.2.1 _ h1) (ok.2.2.2.2.1 _ st_J9_min_7cf53) (ok.2.2.2.2.1 _ ini_RJ9) (ok.2.2.2.2.1 _ co_J9_min_7cf53) (Nat.le_trans hdd r1) (by omega) (Nat.le_trans hmc r3) (Nat.le_trans hms r4) hd (k ok H locs ls L hw hS hl)
theorem w_mmax {a b : Int32} (hrm : m_rm dd Mc Ms x) (hdd : 1 ≤ dd) (hd : decode M.2.1 pc = .ok (.invokestatic index, 3)) (hp : pc + 3 = pc') (h1 : Cond.methodLink M.1 index yJ9_max_7cf53 ∈ m_TW) (hcat : (st.map fun v => v.category).sum ≤ 8) (hmc : kc ≤ Mc) (hms : ks ≤ Ms) (k : wp x M pc' lv (.int (p_max a b) :: st) h kc ks) : wp x M pc lv (.int b :: .int a :: st) h kc ks := by
  obtain ⟨p, l, e, R, s, m, args, below, meth, cd, Q, A, D, ca, aK, aV⟩ := x
  obtain ⟨own, cc, nL, y, ret, hh⟩ := M
  subst hp
  intro ok H locs ls L hw hS hl
  obtain ⟨r1, r2, r3, r4⟩ := hrm
  exact va_mmax ok.1 ok.2.1 (ok.2.2.1.trans hl.1.symm) ok.2.2.2.1 (ok.2.2.2.2.1 _ h1) (ok.2.2.2.2.1 _ st_J9_max_7cf53) (ok.2.2.2.2.1 _ ini_RJ9) (ok.2.2.2.2.1 _ co_J9_max_7cf53) (Nat.le_trans hdd r1) (by omega) (Nat.le_trans hmc r3) (Nat.le_trans hms r4) hd (k ok H locs ls L hw hS hl)
theorem w_mabs {a : Int32} (hrm : m_rm dd Mc Ms x) (hdd : 1 ≤ dd) (hd : decode M.2.1 pc = .ok (.invokestatic index, 3)) (hp : pc + 3 = pc') (h1 : Cond.methodLink M.1 index yJ9_abs_0f7a4 ∈ m_TW) (hcat : (st.map fun v => v.category).sum ≤ 8) (hmc : kc ≤ Mc) (hms : ks ≤ Ms) (k : wp x M pc' lv (.int (p_abs a) :: st) h kc ks) : wp x M pc lv (.int a :: st) h kc ks := by
  obtain ⟨p, l, e, R, s, m, args, below, meth, cd, Q, A, D, ca, aK, aV⟩ := x
  obtain ⟨own, cc, nL, y, ret, hh⟩ := M
  subst hp
  intro ok H locs ls L hw hS hl
  obtain ⟨r1, r2, r3, r4⟩ := hrm
  exact va_mabs ok.1 ok.2.1 (ok.2.2.1.trans hl.1.symm) ok.2.2.2.1 (ok.2.2.2.2.1 _ h1) (ok.2.2.2.2.1 _ st_J9_abs_0f7a4) (ok.2.2.2.2.1 _ ini_RJ9) (ok.2.2.2.2.1 _ co_J9_abs_0f7a4) (Nat.le_trans hdd r1) (by omega) (Nat.le_trans hmc r3) (Nat.le_trans hms r4) hd (k ok H locs ls L hw hS hl)
end K18
/-- System.arraycopy of longs -/
def p_C (h : Hp) (a b sp dp n : Nat) : Hp := some (m_K h, m_N h, m_I h, m_J h, m_R h, m_X h, fun d j => if d = b then va_cpy (m_Y h a) (m_Y h b) sp dp n j else m_Y h d j, m_Z h)
theorem m_copyE {ca : Nat → ClassId} {h : Hp} {a b sp dp n : Nat} (hK : m_K h b = 21) : ∀ d, va_up (m_E ca h) b (.inl (ca 21, m_N h b, .inr (.inl (va_cpy (m_Y h a) (m_Y h b) sp dp n)))) d = m_E ca (p_C h a b sp dp n) d := by
  intro d
  by_cases hb : d = b
  · subst hb
    rw [va_up_self, m_E_21 (show m_K (p_C h a d sp dp n) d = 21 from hK)]
    show _ = (Sum.inl (ca 21, m_N h d, Sum.inr (Sum.inl (fun j => if d = d then va_cpy (m_Y h a) (m_Y h d) sp dp n j else m_Y h d j))) : va_E)
    simp only [if_true]
  · rw [va_up_ne _ _ hb]
    have e3 : m_Y (p_C h a b sp dp n) d = m_Y h d := funext fun j => if_neg hb
    unfold m_E
    rw [e3]
    rfl
abbrev gcp (sp dp n : Int32) (n0 n1 : Nat) : Prop := ¬ sp < 0 ∧ ¬ dp < 0 ∧ ¬ n < 0 ∧ sp.toNatClampNeg + n.toNatClampNeg ≤ n0 ∧ dp.toNatClampNeg + n.toNatClampNeg ≤ n1
def sC (z : Zs) (c p s c2 p2 s2 sp dp n : Nat) : Zs := (zI z, fun c0 p0 s0 i0 => if c0 = c2 ∧ p0 = p2 ∧ s0 = s2 then va_cpy (zJ z c p s) (zJ z c2 p2 s2) sp dp n i0 else zJ z c0 p0 s0 i0, zR z)
