/-! THE ENTRY: what the Statement gives of the start -/
def nFl : List Cond := flatC narrow_1
theorem nf_in {w : Cond} (h : w ∈ nFl) : w ∈ flatC (Cond.and given_1 narrow_1) := List.mem_append_right _ h
def tmS (i : Nat) : Term := if i = 0 then Term.string "StreamDesk$Tokens" 25 else if i = 1 then Term.string "StreamDesk$Tokens" 68 else Term.string "StreamDeskModel" 137
theorem nf_2 : Cond.eq (.static "java/lang/String" "COMPACT_STRINGS" "Z") (.int 1) ∈ nFl := List.mem_of_getElem? (i := 2) (by decide +kernel)
theorem nf_3 : Cond.isRef (.static "jdk/internal/util/Preconditions" "SIOOBE_FORMATTER" "Ljava/util/function/BiFunction;") ∈ nFl := List.mem_of_getElem? (i := 3) (by decide +kernel)
theorem nf_7 : Cond.isRef (.static "java/lang/Throwable" "UNASSIGNED_STACK" "[Ljava/lang/StackTraceElement;") ∈ nFl := List.mem_of_getElem? (i := 7) (by decide +kernel)
theorem nf_8 : Cond.isRef (.static "java/lang/Throwable" "SUPPRESSED_SENTINEL" "Ljava/util/List;") ∈ nFl := List.mem_of_getElem? (i := 8) (by decide +kernel)
theorem nf_40 : Cond.not (.castable "java/lang/IllegalStateException" "java/lang/IllegalArgumentException") ∈ nFl := List.mem_of_getElem? (i := 40) (by decide +kernel)
theorem nf_57 : Cond.not (.castable "java/lang/IllegalStateException" "java/lang/IndexOutOfBoundsException") ∈ nFl := List.mem_of_getElem? (i := 57) (by decide +kernel)
theorem nf_58 : Cond.not (.castable "java/lang/IllegalArgumentException" "java/lang/IndexOutOfBoundsException") ∈ nFl := List.mem_of_getElem? (i := 58) (by decide +kernel)
theorem nf_153 : Cond.exactly (.string "StreamDesk$Tokens" 25) "java/lang/String" ∈ nFl := List.mem_of_getElem? (i := 153) (by decide +kernel)
theorem nf_154 : Cond.eq (.field (.string "StreamDesk$Tokens" 25) "java/lang/String" "coder" "B") (.int 0) ∈ nFl := List.mem_of_getElem? (i := 154) (by decide +kernel)
theorem nf_155 : Cond.arrayOf (.field (.string "StreamDesk$Tokens" 25) "java/lang/String" "value" "[B") .byte ∈ nFl := List.mem_of_getElem? (i := 155) (by decide +kernel)
theorem nf_156 : Cond.eq (.length (.field (.string "StreamDesk$Tokens" 25) "java/lang/String" "value" "[B")) (.int 163) ∈ nFl := List.mem_of_getElem? (i := 156) (by decide +kernel)
theorem nf_320 : Cond.exactly (.string "StreamDesk$Tokens" 68) "java/lang/String" ∈ nFl := List.mem_of_getElem? (i := 320) (by decide +kernel)
theorem nf_321 : Cond.eq (.field (.string "StreamDesk$Tokens" 68) "java/lang/String" "coder" "B") (.int 0) ∈ nFl := List.mem_of_getElem? (i := 321) (by decide +kernel)
theorem nf_322 : Cond.arrayOf (.field (.string "StreamDesk$Tokens" 68) "java/lang/String" "value" "[B") .byte ∈ nFl := List.mem_of_getElem? (i := 322) (by decide +kernel)
theorem nf_323 : Cond.eq (.length (.field (.string "StreamDesk$Tokens" 68) "java/lang/String" "value" "[B")) (.int 12) ∈ nFl := List.mem_of_getElem? (i := 323) (by decide +kernel)
theorem nf_337 : Cond.exactly (.string "StreamDeskModel" 137) "java/lang/String" ∈ nFl := List.mem_of_getElem? (i := 337) (by decide +kernel)
theorem nf_338 : Cond.eq (.field (.string "StreamDeskModel" 137) "java/lang/String" "coder" "B") (.int 0) ∈ nFl := List.mem_of_getElem? (i := 338) (by decide +kernel)
theorem nf_339 : Cond.arrayOf (.field (.string "StreamDeskModel" 137) "java/lang/String" "value" "[B") .byte ∈ nFl := List.mem_of_getElem? (i := 339) (by decide +kernel)
theorem nf_340 : Cond.eq (.length (.field (.string "StreamDeskModel" 137) "java/lang/String" "value" "[B")) (.int 164) ∈ nFl := List.mem_of_getElem? (i := 340) (by decide +kernel)
theorem nf_336 : Cond.not (.eq (.string "StreamDesk$Tokens" 25) (.string "StreamDesk$Tokens" 68)) ∈ nFl := List.mem_of_getElem? (i := 336) (by decide +kernel)
theorem nf_505 : Cond.not (.eq (.string "StreamDesk$Tokens" 25) (.string "StreamDeskModel" 137)) ∈ nFl := List.mem_of_getElem? (i := 505) (by decide +kernel)
theorem nf_506 : Cond.not (.eq (.string "StreamDesk$Tokens" 68) (.string "StreamDeskModel" 137)) ∈ nFl := List.mem_of_getElem? (i := 506) (by decide +kernel)
theorem nf_524 : Cond.eq (.string "StreamDesk$Tokens" 68) (.string "StreamDeskModel" 200) ∈ nFl := List.mem_of_getElem? (i := 524) (by decide +kernel)
theorem fl_e0 : (nFl.drop 157).take 163 = (List.range 163).map (fun j => Cond.eq (.elem (.field (.string "StreamDesk$Tokens" 25) "java/lang/String" "value" "[B") (.int (Int32.ofNat j))) (.int ((m_byt.getD 0 []).getD j 0))) := by decide +kernel
theorem nf_e0 {j : Nat} (hj : j < 163) : Cond.eq (.elem (.field (.string "StreamDesk$Tokens" 25) "java/lang/String" "value" "[B") (.int (Int32.ofNat j))) (.int ((m_byt.getD 0 []).getD j 0)) ∈ nFl := List.mem_of_mem_drop (List.mem_of_mem_take (by rw [fl_e0]; exact List.mem_map.mpr ⟨j, List.mem_range.mpr hj, rfl⟩))
theorem fl_e1 : (nFl.drop 324).take 12 = (List.range 12).map (fun j => Cond.eq (.elem (.field (.string "StreamDesk$Tokens" 68) "java/lang/String" "value" "[B") (.int (Int32.ofNat j))) (.int ((m_byt.getD 1 []).getD j 0))) := by decide +kernel
theorem nf_e1 {j : Nat} (hj : j < 12) : Cond.eq (.elem (.field (.string "StreamDesk$Tokens" 68) "java/lang/String" "value" "[B") (.int (Int32.ofNat j))) (.int ((m_byt.getD 1 []).getD j 0)) ∈ nFl := List.mem_of_mem_drop (List.mem_of_mem_take (by rw [fl_e1]; exact List.mem_map.mpr ⟨j, List.mem_range.mpr hj, rfl⟩))
theorem fl_e2 : (nFl.drop 341).take 164 = (List.range 164).map (fun j => Cond.eq (.elem (.field (.string "StreamDeskModel" 137) "java/lang/String" "value" "[B") (.int (Int32.ofNat j))) (.int ((m_byt.getD 2 []).getD j 0))) := by decide +kernel
theorem nf_e2 {j : Nat} (hj : j < 164) : Cond.eq (.elem (.field (.string "StreamDeskModel" 137) "java/lang/String" "value" "[B") (.int (Int32.ofNat j))) (.int ((m_byt.getD 2 []).getD j 0)) ∈ nFl := List.mem_of_mem_drop (List.mem_of_mem_take (by rw [fl_e2]; exact List.mem_map.mpr ⟨j, List.mem_range.mpr hj, rfl⟩))
def En (args : Array Value) (s : State) : Prop := (∀ w ∈ lw_tbl, w.before args s = true) ∧ ∀ w ∈ nFl, w.before args s = true
section EN
variable {args : Array Value} {s : State} {A : Nat → Prop}
theorem En.tw (h : En args s) : ∀ w ∈ m_TW, w.before args s = true := fun w hw => h.1 w (List.mem_filter.mp hw).1
theorem i012 {i : Nat} (h : i < 3) : i = 0 ∨ i = 1 ∨ i = 2 := by omega
theorem en_S (h : En args s) (hA : ∀ a : Nat, a < s.heap.size → ¬ A a) : ∃ aK aV : Nat → Nat, vk_S 3 m_len m_byt aK aV A s s.heap ∧ ∀ i : Nat, i < 3 → (tmS i).eval args s none [] s = some (.ref (aK i)) := by
  refine vk_Sof (N := 3) (tm := tmS) (len := m_len) (byt := m_byt) (fun i hi => ?_) (fun i hi => ?_) (fun i hi => ?_) (fun i hi => ?_) (fun i hi => ?_) (fun i hi j hj => ?_) (fun i j hi hj hij => ?_) hA
  · rcases i012 hi with rfl | rfl | rfl <;> decide
  · rcases i012 hi with rfl | rfl | rfl
    · exact h.2 _ nf_153
    · exact h.2 _ nf_320
    · exact h.2 _ nf_337
  · rcases i012 hi with rfl | rfl | rfl
    · exact h.2 _ nf_154
    · exact h.2 _ nf_321
    · exact h.2 _ nf_338
  · rcases i012 hi with rfl | rfl | rfl
    · exact h.2 _ nf_155
    · exact h.2 _ nf_322
    · exact h.2 _ nf_339
  · rcases i012 hi with rfl | rfl | rfl
    · exact h.2 _ nf_156
    · exact h.2 _ nf_323
    · exact h.2 _ nf_340
  · rcases i012 hi with rfl | rfl | rfl
    · exact h.2 _ (nf_e0 hj)
    · exact h.2 _ (nf_e1 hj)
    · exact h.2 _ (nf_e2 hj)
  · rcases i012 hi with rfl | rfl | rfl <;> rcases i012 hj with rfl | rfl | rfl
    · exact absurd rfl hij
    · exact Or.inl (h.2 _ nf_336)
    · exact Or.inl (h.2 _ nf_505)
    · exact Or.inr (h.2 _ nf_336)
    · exact absurd rfl hij
    · exact Or.inl (h.2 _ nf_506)
    · exact Or.inr (h.2 _ nf_505)
    · exact Or.inr (h.2 _ nf_506)
    · exact absurd rfl hij
theorem eq_R {t u : Term} {a : Nat} (h : (Cond.eq t u).before args s = true) (ht : t.eval args s none [] s = some (.ref a)) : u.eval args s none [] s = some (.ref a) := by
  cases hu : u.eval args s none [] s with
  | none => simp [Cond.before, Cond.holds, Cond.value, ht, hu] at h
  | some w =>
    simp only [Cond.before, Cond.holds, Cond.value, ht, hu] at h
    cases w <;> simp_all
theorem en_ex (h : En args s) (hA : ∀ a : Nat, a < s.heap.size → ¬ A a) : ∃ aK aV : Nat → Nat, m_ex aK aV A s s.heap := by
  obtain ⟨aK, aV, hS, ht⟩ := en_S h hA
  have e0 : (Term.string "StreamDesk$Tokens" 25).eval args s none [] s = some (.ref (aK 0)) := ht 0 (by decide)
  have e1 : (Term.string "StreamDesk$Tokens" 68).eval args s none [] s = some (.ref (aK 1)) := ht 1 (by decide)
  have e2 : (Term.string "StreamDeskModel" 137).eval args s none [] s = some (.ref (aK 2)) := ht 2 (by decide)
  have e3 := eq_R (h.2 _ nf_524) e1
  refine ⟨aK, aV, ⟨vx_Zqof (h.1 _ (t_in5 (List.mem_of_getElem? (i := 14) rfl))) (h.1 _ (t_in1 (List.mem_of_getElem? (i := 21) rfl))) (h.2 _ nf_7) hA, vx_Zqof (h.1 _ (t_in5 (List.mem_of_getElem? (i := 16) rfl))) (h.1 _ (t_in1 (List.mem_of_getElem? (i := 21) rfl))) (h.2 _ nf_8) hA⟩, ⟨hS, va_Zof (h.1 _ (t_in1 (List.mem_of_getElem? (i := 53) rfl))) (h.1 _ (t_in1 (List.mem_of_getElem? (i := 3) rfl))) (va_eqi (h.2 _ nf_2)) hA, va_Zqof (h.1 _ (t_in1 (List.mem_of_getElem? (i := 69) rfl))) (h.1 _ (t_in1 (List.mem_of_getElem? (i := 5) rfl))) (h.2 _ nf_3) hA⟩, vk_R.of (h.1 _ (t_in1 (List.mem_of_getElem? (i := 43) rfl))) e0, vk_R.of (h.1 _ (t_in3 (List.mem_of_getElem? (i := 116) rfl))) e1, vk_R.of (h.1 _ (t_in7 (List.mem_of_getElem? (i := 45) rfl))) e2, vk_R.of (h.1 _ (t_in8 (List.mem_of_getElem? (i := 44) rfl))) e3, va_Nc.of (h.2 _ nf_57), va_Nc.of (h.2 _ nf_40), va_Nc.of (h.2 _ nf_58)⟩
theorem en_NW (h : En args s) : ∀ w ∈ m_NW, va_Nw w s := by
  intro w hw
  have h1 := h.1 w (List.mem_append_right _ (List.mem_filter.mp hw).1)
  have h2 := (List.mem_filter.mp hw).2
  cases w <;> first | exact va_tabs rfl rfl h1 | exact h1 | (simp [m_nw] at h2; done)
theorem ak_p {ty : FieldType} (h : (Cond.arrayClass ty).before args s = true) : ∃ cA : ClassId, ArrOfT s cA ty ∧ s.vm.findClass ("[" ++ ty.toString) = some cA := by
  obtain ⟨c, k, comp, h1, h2, h3⟩ := Cond.arrayClass_spec h
  exact ⟨c, fun n z => ⟨fun k h => (by cases h), k, h2, comp, h3⟩, h1⟩
theorem ak_o {C : String} (h : (Cond.arrayOver (.object C)).before args s = true) : ∃ cA : ClassId, ArrOfT s cA (.object C) ∧ va_RA s cA (.object C) := by
  obtain ⟨comp, c, k, h1, _, h3, h4, h5⟩ := Cond.arrayOver_spec h
  exact ⟨c, fun n z => ⟨fun k h => (by cases h), k, h3, comp, h4⟩, k, comp, h3, h4, h1, h5⟩
theorem En.nw (h : En args s) {w : Cond} (hw : w ∈ m_NW) : w.before args s = true := h.1 w (List.mem_append_right _ (List.mem_filter.mp hw).1)
theorem en_K (h : En args s) : ∃ (D : va_G) (ca : Nat → ClassId), va_K D vwCl (m_tys ca) s := by
  obtain ⟨c0, i0, k0⟩ := u_known (C := RX0) (T := TX0) (N := 5) (n := 5) h.tw in_X0 (h.tw _ is_X0)
  obtain ⟨c1, i1, k1⟩ := u_known (C := RX1) (T := TX1) (N := 10) (n := 10) h.tw in_X1 (h.tw _ is_X1)
  obtain ⟨c2, i2, k2⟩ := u_known (C := RX2) (T := TX2) (N := 4) (n := 4) h.tw in_X2 (h.tw _ is_X2)
  obtain ⟨c3, i3, k3⟩ := u_known (C := RX3) (T := TX3) (N := 14) (n := 14) h.tw in_X3 (h.tw _ is_X3)
  obtain ⟨c4, i4, k4⟩ := u_known (C := RX4) (T := TX4) (N := 8) (n := 8) h.tw in_X4 (h.tw _ is_X4)
  obtain ⟨c5, i5, k5⟩ := u_known (C := RX5) (T := TX5) (N := 8) (n := 8) h.tw in_X5 (h.tw _ is_X5)
  obtain ⟨c6, i6, k6⟩ := u_known (C := RX6) (T := TX6) (N := 5) (n := 5) h.tw in_X6 (h.tw _ is_X6)
  obtain ⟨c7, i7, k7⟩ := u_known (C := RX7) (T := TX7) (N := 17) (n := 17) h.tw in_X7 (h.tw _ is_X7)
  obtain ⟨c8, i8, k8⟩ := u_known (C := RX8) (T := TX8) (N := 4) (n := 4) h.tw in_X8 (h.tw _ is_X8)
  obtain ⟨c9, i9, k9⟩ := u_known (C := RX9) (T := TX9) (N := 5) (n := 5) h.tw in_X9 (h.tw _ is_X9)
  obtain ⟨c10, i10, k10⟩ := u_known (C := RX10) (T := TX10) (N := 6) (n := 6) h.tw in_X10 (h.tw _ is_X10)
  obtain ⟨c11, i11, k11⟩ := u_known (C := RX11) (T := TX11) (N := 15) (n := 15) h.tw in_X11 (h.tw _ is_X11)
  obtain ⟨c12, i12, k12⟩ := u_known (C := RX12) (T := TX12) (N := 20) (n := 20) h.tw in_X12 (h.tw _ is_X12)
  obtain ⟨c13, i13, k13⟩ := u_known (C := RX13) (T := TX13) (N := 8) (n := 8) h.tw in_X13 (h.tw _ is_X13)
  obtain ⟨c14, i14, k14⟩ := u_known (C := RX14) (T := TX14) (N := 59) (n := 59) h.tw in_X14 (h.tw _ is_X14)
  obtain ⟨a20, b20, d20⟩ := ak_p (h.tw _ a_int)
  obtain ⟨a21, b21, d21⟩ := ak_p (h.tw _ a_long)
  obtain ⟨a22, b22, d22⟩ := ak_p (h.tw _ a_byte)
  obtain ⟨a23, b23, d23⟩ := ak_p (h.tw _ a_boolean)
  obtain ⟨a24, b24, d24⟩ := ak_o (h.nw ao_X0)
  obtain ⟨a25, b25, d25⟩ := ak_o (h.nw ao_X2)
  obtain ⟨a26, b26, d26⟩ := ak_o (h.nw ao_X6)
  obtain ⟨a27, b27, d27⟩ := ak_o (h.nw ao_X7)
  refine ⟨(fun k => [c0, c1, c2, c3, c4, c5, c6, c7, c8, c9, c10, c11, c12, c13, c14].getD k c0, fun k => [i0, i1, i2, i3, i4, i5, i6, i7, i8, i9, i10, i11, i12, i13, i14].getD k i0), fun c => [a20, a21, a22, a23, a24, a25, a26, a27].getD (c - 20) a20, ?_, ?_⟩
  · intro k q hq
    match k, hq with
    | 0, hq => cases hq; exact k0
    | 1, hq => cases hq; exact k1
    | 2, hq => cases hq; exact k2
    | 3, hq => cases hq; exact k3
    | 4, hq => cases hq; exact k4
    | 5, hq => cases hq; exact k5
    | 6, hq => cases hq; exact k6
    | 7, hq => cases hq; exact k7
    | 8, hq => cases hq; exact k8
    | 9, hq => cases hq; exact k9
    | 10, hq => cases hq; exact k10
    | 11, hq => cases hq; exact k11
    | 12, hq => cases hq; exact k12
    | 13, hq => cases hq; exact k13
    | 14, hq => cases hq; exact k14
    | k + 15, hq => simp [vwCl] at hq
  · intro k q hq
    match k, hq with
    | 0, hq => cases hq; exact ⟨b20, d20⟩
    | 1, hq => cases hq; exact ⟨b21, d21⟩
    | 2, hq => cases hq; exact ⟨b22, d22⟩
    | 3, hq => cases hq; exact ⟨b23, d23⟩
    | 4, hq => cases hq; exact ⟨b24, d24⟩
    | 5, hq => cases hq; exact ⟨b25, d25⟩
    | 6, hq => cases hq; exact ⟨b26, d26⟩
    | 7, hq => cases hq; exact ⟨b27, d27⟩
    | k + 8, hq => simp [m_tys] at hq
end EN
