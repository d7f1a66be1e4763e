/-! THE ENTRY: what the Statement gives of the start -/
def nFl : List Cond := flatC narrow_1
theorem nf_in {w : Cond} (h : w ∈ nFl) : w ∈ flatC (Cond.and given_1 narrow_1) := List.mem_append_right _ h
def tmS (i : Nat) : Term := if i = 0 then Term.string "StreamDesk$Tokens" 25 else if i = 1 then Term.string "StreamDesk$Tokens" 68 else if i = 2 then Term.string "StreamDeskLaw" 59 else if i = 3 then Term.string "StreamDeskLaw" 68 else if i = 4 then Term.string "StreamDeskLaw" 70 else Term.string "StreamDeskLaw" 72
theorem nf_2 : Cond.eq (.static "java/lang/String" "COMPACT_STRINGS" "Z") (.int 1) ∈ nFl := List.mem_of_getElem? (i := 2) (by decide +kernel)
theorem nf_3 : Cond.isRef (.static "jdk/internal/util/Preconditions" "SIOOBE_FORMATTER" "Ljava/util/function/BiFunction;") ∈ nFl := List.mem_of_getElem? (i := 3) (by decide +kernel)
theorem nf_7 : Cond.isRef (.static "java/lang/Throwable" "UNASSIGNED_STACK" "[Ljava/lang/StackTraceElement;") ∈ nFl := List.mem_of_getElem? (i := 7) (by decide +kernel)
theorem nf_8 : Cond.isRef (.static "java/lang/Throwable" "SUPPRESSED_SENTINEL" "Ljava/util/List;") ∈ nFl := List.mem_of_getElem? (i := 8) (by decide +kernel)
theorem nf_10 : Cond.arrayOf (.static "java/lang/Integer" "DigitOnes" "[B") .byte ∈ nFl := List.mem_of_getElem? (i := 10) (by decide +kernel)
theorem nf_11 : Cond.eq (.length (.static "java/lang/Integer" "DigitOnes" "[B")) (.int 100) ∈ nFl := List.mem_of_getElem? (i := 11) (by decide +kernel)
theorem nf_113 : Cond.arrayOf (.static "java/lang/Integer" "DigitTens" "[B") .byte ∈ nFl := List.mem_of_getElem? (i := 113) (by decide +kernel)
theorem nf_114 : Cond.eq (.length (.static "java/lang/Integer" "DigitTens" "[B")) (.int 100) ∈ nFl := List.mem_of_getElem? (i := 114) (by decide +kernel)
theorem nf_283 : Cond.exactly (.string "StreamDesk$Tokens" 25) "java/lang/String" ∈ nFl := List.mem_of_getElem? (i := 283) (by decide +kernel)
theorem nf_284 : Cond.eq (.field (.string "StreamDesk$Tokens" 25) "java/lang/String" "coder" "B") (.int 0) ∈ nFl := List.mem_of_getElem? (i := 284) (by decide +kernel)
theorem nf_285 : Cond.arrayOf (.field (.string "StreamDesk$Tokens" 25) "java/lang/String" "value" "[B") .byte ∈ nFl := List.mem_of_getElem? (i := 285) (by decide +kernel)
theorem nf_286 : Cond.eq (.length (.field (.string "StreamDesk$Tokens" 25) "java/lang/String" "value" "[B")) (.int 163) ∈ nFl := List.mem_of_getElem? (i := 286) (by decide +kernel)
theorem nf_450 : Cond.exactly (.string "StreamDesk$Tokens" 68) "java/lang/String" ∈ nFl := List.mem_of_getElem? (i := 450) (by decide +kernel)
theorem nf_451 : Cond.eq (.field (.string "StreamDesk$Tokens" 68) "java/lang/String" "coder" "B") (.int 0) ∈ nFl := List.mem_of_getElem? (i := 451) (by decide +kernel)
theorem nf_452 : Cond.arrayOf (.field (.string "StreamDesk$Tokens" 68) "java/lang/String" "value" "[B") .byte ∈ nFl := List.mem_of_getElem? (i := 452) (by decide +kernel)
theorem nf_453 : Cond.eq (.length (.field (.string "StreamDesk$Tokens" 68) "java/lang/String" "value" "[B")) (.int 12) ∈ nFl := List.mem_of_getElem? (i := 453) (by decide +kernel)
theorem nf_467 : Cond.exactly (.string "StreamDeskLaw" 59) "java/lang/String" ∈ nFl := List.mem_of_getElem? (i := 467) (by decide +kernel)
theorem nf_468 : Cond.eq (.field (.string "StreamDeskLaw" 59) "java/lang/String" "coder" "B") (.int 0) ∈ nFl := List.mem_of_getElem? (i := 468) (by decide +kernel)
theorem nf_469 : Cond.arrayOf (.field (.string "StreamDeskLaw" 59) "java/lang/String" "value" "[B") .byte ∈ nFl := List.mem_of_getElem? (i := 469) (by decide +kernel)
theorem nf_470 : Cond.eq (.length (.field (.string "StreamDeskLaw" 59) "java/lang/String" "value" "[B")) (.int 50) ∈ nFl := List.mem_of_getElem? (i := 470) (by decide +kernel)
theorem nf_523 : Cond.exactly (.string "StreamDeskLaw" 68) "java/lang/String" ∈ nFl := List.mem_of_getElem? (i := 523) (by decide +kernel)
theorem nf_524 : Cond.eq (.field (.string "StreamDeskLaw" 68) "java/lang/String" "coder" "B") (.int 0) ∈ nFl := List.mem_of_getElem? (i := 524) (by decide +kernel)
theorem nf_525 : Cond.arrayOf (.field (.string "StreamDeskLaw" 68) "java/lang/String" "value" "[B") .byte ∈ nFl := List.mem_of_getElem? (i := 525) (by decide +kernel)
theorem nf_526 : Cond.eq (.length (.field (.string "StreamDeskLaw" 68) "java/lang/String" "value" "[B")) (.int 32) ∈ nFl := List.mem_of_getElem? (i := 526) (by decide +kernel)
theorem nf_562 : Cond.exactly (.string "StreamDeskLaw" 70) "java/lang/String" ∈ nFl := List.mem_of_getElem? (i := 562) (by decide +kernel)
theorem nf_563 : Cond.eq (.field (.string "StreamDeskLaw" 70) "java/lang/String" "coder" "B") (.int 0) ∈ nFl := List.mem_of_getElem? (i := 563) (by decide +kernel)
theorem nf_564 : Cond.arrayOf (.field (.string "StreamDeskLaw" 70) "java/lang/String" "value" "[B") .byte ∈ nFl := List.mem_of_getElem? (i := 564) (by decide +kernel)
theorem nf_565 : Cond.eq (.length (.field (.string "StreamDeskLaw" 70) "java/lang/String" "value" "[B")) (.int 31) ∈ nFl := List.mem_of_getElem? (i := 565) (by decide +kernel)
theorem nf_601 : Cond.exactly (.string "StreamDeskLaw" 72) "java/lang/String" ∈ nFl := List.mem_of_getElem? (i := 601) (by decide +kernel)
theorem nf_602 : Cond.eq (.field (.string "StreamDeskLaw" 72) "java/lang/String" "coder" "B") (.int 0) ∈ nFl := List.mem_of_getElem? (i := 602) (by decide +kernel)
theorem nf_603 : Cond.arrayOf (.field (.string "StreamDeskLaw" 72) "java/lang/String" "value" "[B") .byte ∈ nFl := List.mem_of_getElem? (i := 603) (by decide +kernel)
theorem nf_604 : Cond.eq (.length (.field (.string "StreamDeskLaw" 72) "java/lang/String" "value" "[B")) (.int 75) ∈ nFl := List.mem_of_getElem? (i := 604) (by decide +kernel)
theorem nf_466 : Cond.not (.eq (.string "StreamDesk$Tokens" 25) (.string "StreamDesk$Tokens" 68)) ∈ nFl := List.mem_of_getElem? (i := 466) (by decide +kernel)
theorem nf_521 : Cond.not (.eq (.string "StreamDesk$Tokens" 25) (.string "StreamDeskLaw" 59)) ∈ nFl := List.mem_of_getElem? (i := 521) (by decide +kernel)
theorem nf_522 : Cond.not (.eq (.string "StreamDesk$Tokens" 68) (.string "StreamDeskLaw" 59)) ∈ nFl := List.mem_of_getElem? (i := 522) (by decide +kernel)
theorem nf_559 : Cond.not (.eq (.string "StreamDesk$Tokens" 25) (.string "StreamDeskLaw" 68)) ∈ nFl := List.mem_of_getElem? (i := 559) (by decide +kernel)
theorem nf_560 : Cond.not (.eq (.string "StreamDesk$Tokens" 68) (.string "StreamDeskLaw" 68)) ∈ nFl := List.mem_of_getElem? (i := 560) (by decide +kernel)
theorem nf_561 : Cond.not (.eq (.string "StreamDeskLaw" 59) (.string "StreamDeskLaw" 68)) ∈ nFl := List.mem_of_getElem? (i := 561) (by decide +kernel)
theorem nf_597 : Cond.not (.eq (.string "StreamDesk$Tokens" 25) (.string "StreamDeskLaw" 70)) ∈ nFl := List.mem_of_getElem? (i := 597) (by decide +kernel)
theorem nf_598 : Cond.not (.eq (.string "StreamDesk$Tokens" 68) (.string "StreamDeskLaw" 70)) ∈ nFl := List.mem_of_getElem? (i := 598) (by decide +kernel)
theorem nf_599 : Cond.not (.eq (.string "StreamDeskLaw" 59) (.string "StreamDeskLaw" 70)) ∈ nFl := List.mem_of_getElem? (i := 599) (by decide +kernel)
theorem nf_600 : Cond.not (.eq (.string "StreamDeskLaw" 68) (.string "StreamDeskLaw" 70)) ∈ nFl := List.mem_of_getElem? (i := 600) (by decide +kernel)
theorem nf_680 : Cond.not (.eq (.string "StreamDesk$Tokens" 25) (.string "StreamDeskLaw" 72)) ∈ nFl := List.mem_of_getElem? (i := 680) (by decide +kernel)
theorem nf_681 : Cond.not (.eq (.string "StreamDesk$Tokens" 68) (.string "StreamDeskLaw" 72)) ∈ nFl := List.mem_of_getElem? (i := 681) (by decide +kernel)
theorem nf_682 : Cond.not (.eq (.string "StreamDeskLaw" 59) (.string "StreamDeskLaw" 72)) ∈ nFl := List.mem_of_getElem? (i := 682) (by decide +kernel)
theorem nf_683 : Cond.not (.eq (.string "StreamDeskLaw" 68) (.string "StreamDeskLaw" 72)) ∈ nFl := List.mem_of_getElem? (i := 683) (by decide +kernel)
theorem nf_684 : Cond.not (.eq (.string "StreamDeskLaw" 70) (.string "StreamDeskLaw" 72)) ∈ nFl := List.mem_of_getElem? (i := 684) (by decide +kernel)
theorem fl_e0 : (nFl.drop 287).take 163 = (List.range 163).map (fun j => Cond.eq (.elem (.field (.string "StreamDesk$Tokens" 25) "java/lang/String" "value" "[B") (.int (Int32.ofNat j))) (.int ((m_byt.getD 0 []).getD j 0))) := by decide +kernel
theorem nf_e0 {j : Nat} (hj : j < 163) : Cond.eq (.elem (.field (.string "StreamDesk$Tokens" 25) "java/lang/String" "value" "[B") (.int (Int32.ofNat j))) (.int ((m_byt.getD 0 []).getD j 0)) ∈ nFl := List.mem_of_mem_drop (List.mem_of_mem_take (by rw [fl_e0]; exact List.mem_map.mpr ⟨j, List.mem_range.mpr hj, rfl⟩))
theorem fl_e1 : (nFl.drop 454).take 12 = (List.range 12).map (fun j => Cond.eq (.elem (.field (.string "StreamDesk$Tokens" 68) "java/lang/String" "value" "[B") (.int (Int32.ofNat j))) (.int ((m_byt.getD 1 []).getD j 0))) := by decide +kernel
theorem nf_e1 {j : Nat} (hj : j < 12) : Cond.eq (.elem (.field (.string "StreamDesk$Tokens" 68) "java/lang/String" "value" "[B") (.int (Int32.ofNat j))) (.int ((m_byt.getD 1 []).getD j 0)) ∈ nFl := List.mem_of_mem_drop (List.mem_of_mem_take (by rw [fl_e1]; exact List.mem_map.mpr ⟨j, List.mem_range.mpr hj, rfl⟩))
theorem fl_e2 : (nFl.drop 471).take 50 = (List.range 50).map (fun j => Cond.eq (.elem (.field (.string "StreamDeskLaw" 59) "java/lang/String" "value" "[B") (.int (Int32.ofNat j))) (.int ((m_byt.getD 2 []).getD j 0))) := by decide +kernel
theorem nf_e2 {j : Nat} (hj : j < 50) : Cond.eq (.elem (.field (.string "StreamDeskLaw" 59) "java/lang/String" "value" "[B") (.int (Int32.ofNat j))) (.int ((m_byt.getD 2 []).getD j 0)) ∈ nFl := List.mem_of_mem_drop (List.mem_of_mem_take (by rw [fl_e2]; exact List.mem_map.mpr ⟨j, List.mem_range.mpr hj, rfl⟩))
theorem fl_e3 : (nFl.drop 527).take 32 = (List.range 32).map (fun j => Cond.eq (.elem (.field (.string "StreamDeskLaw" 68) "java/lang/String" "value" "[B") (.int (Int32.ofNat j))) (.int ((m_byt.getD 3 []).getD j 0))) := by decide +kernel
theorem nf_e3 {j : Nat} (hj : j < 32) : Cond.eq (.elem (.field (.string "StreamDeskLaw" 68) "java/lang/String" "value" "[B") (.int (Int32.ofNat j))) (.int ((m_byt.getD 3 []).getD j 0)) ∈ nFl := List.mem_of_mem_drop (List.mem_of_mem_take (by rw [fl_e3]; exact List.mem_map.mpr ⟨j, List.mem_range.mpr hj, rfl⟩))
theorem fl_e4 : (nFl.drop 566).take 31 = (List.range 31).map (fun j => Cond.eq (.elem (.field (.string "StreamDeskLaw" 70) "java/lang/String" "value" "[B") (.int (Int32.ofNat j))) (.int ((m_byt.getD 4 []).getD j 0))) := by decide +kernel
theorem nf_e4 {j : Nat} (hj : j < 31) : Cond.eq (.elem (.field (.string "StreamDeskLaw" 70) "java/lang/String" "value" "[B") (.int (Int32.ofNat j))) (.int ((m_byt.getD 4 []).getD j 0)) ∈ nFl := List.mem_of_mem_drop (List.mem_of_mem_take (by rw [fl_e4]; exact List.mem_map.mpr ⟨j, List.mem_range.mpr hj, rfl⟩))
theorem fl_e5 : (nFl.drop 605).take 75 = (List.range 75).map (fun j => Cond.eq (.elem (.field (.string "StreamDeskLaw" 72) "java/lang/String" "value" "[B") (.int (Int32.ofNat j))) (.int ((m_byt.getD 5 []).getD j 0))) := by decide +kernel
theorem nf_e5 {j : Nat} (hj : j < 75) : Cond.eq (.elem (.field (.string "StreamDeskLaw" 72) "java/lang/String" "value" "[B") (.int (Int32.ofNat j))) (.int ((m_byt.getD 5 []).getD j 0)) ∈ nFl := List.mem_of_mem_drop (List.mem_of_mem_take (by rw [fl_e5]; exact List.mem_map.mpr ⟨j, List.mem_range.mpr hj, rfl⟩))
theorem fl_d10 : (nFl.drop 12).take 100 = (List.range 100).map (fun j => Cond.eq (.elem (.static "java/lang/Integer" "DigitOnes" "[B") (.int (Int32.ofNat j))) (.int (nI (48 + j % 10)))) := by decide +kernel
theorem nf_d10 {j : Nat} (hj : j < 100) : Cond.eq (.elem (.static "java/lang/Integer" "DigitOnes" "[B") (.int (Int32.ofNat j))) (.int (nI (48 + j % 10))) ∈ nFl := List.mem_of_mem_drop (List.mem_of_mem_take (by rw [fl_d10]; exact List.mem_map.mpr ⟨j, List.mem_range.mpr hj, rfl⟩))
theorem fl_d113 : (nFl.drop 115).take 100 = (List.range 100).map (fun j => Cond.eq (.elem (.static "java/lang/Integer" "DigitTens" "[B") (.int (Int32.ofNat j))) (.int (nI (48 + j / 10)))) := by decide +kernel
theorem nf_d113 {j : Nat} (hj : j < 100) : Cond.eq (.elem (.static "java/lang/Integer" "DigitTens" "[B") (.int (Int32.ofNat j))) (.int (nI (48 + j / 10))) ∈ nFl := List.mem_of_mem_drop (List.mem_of_mem_take (by rw [fl_d113]; exact List.mem_map.mpr ⟨j, List.mem_range.mpr hj, rfl⟩))
def En (args : Array Value) (s : State) : Prop := (∀ w ∈ lw_tbl, w.before args s = true) ∧ ∀ w ∈ nFl, w.before args s = true
section EN
variable {args : Array Value} {s : State} {A : Nat → Prop}
theorem En.tw (h : En args s) : ∀ w ∈ m_TW, w.before args s = true := fun w hw => h.1 w (List.mem_filter.mp hw).1
theorem i06 {i : Nat} (h : i < 6) : i = 0 ∨ i = 1 ∨ i = 2 ∨ i = 3 ∨ i = 4 ∨ i = 5 := by omega
theorem en_S (h : En args s) (hA : ∀ a : Nat, a < s.heap.size → ¬ A a) : ∃ aK aV : Nat → Nat, vk_S 6 m_len m_byt aK aV A s s.heap ∧ ∀ i : Nat, i < 6 → (tmS i).eval args s none [] s = some (.ref (aK i)) := by
  refine vk_Sof (N := 6) (tm := tmS) (len := m_len) (byt := m_byt) (fun i hi => ?_) (fun i hi => ?_) (fun i hi => ?_) (fun i hi => ?_) (fun i hi => ?_) (fun i hi j hj => ?_) (fun i j hi hj hij => ?_) hA
  · rcases i06 hi with rfl | rfl | rfl | rfl | rfl | rfl <;> decide
  · rcases i06 hi with rfl | rfl | rfl | rfl | rfl | rfl
    · exact h.2 _ nf_283
    · exact h.2 _ nf_450
    · exact h.2 _ nf_467
    · exact h.2 _ nf_523
    · exact h.2 _ nf_562
    · exact h.2 _ nf_601
  · rcases i06 hi with rfl | rfl | rfl | rfl | rfl | rfl
    · exact h.2 _ nf_284
    · exact h.2 _ nf_451
    · exact h.2 _ nf_468
    · exact h.2 _ nf_524
    · exact h.2 _ nf_563
    · exact h.2 _ nf_602
  · rcases i06 hi with rfl | rfl | rfl | rfl | rfl | rfl
    · exact h.2 _ nf_285
    · exact h.2 _ nf_452
    · exact h.2 _ nf_469
    · exact h.2 _ nf_525
    · exact h.2 _ nf_564
    · exact h.2 _ nf_603
  · rcases i06 hi with rfl | rfl | rfl | rfl | rfl | rfl
    · exact h.2 _ nf_286
    · exact h.2 _ nf_453
    · exact h.2 _ nf_470
    · exact h.2 _ nf_526
    · exact h.2 _ nf_565
    · exact h.2 _ nf_604
  · rcases i06 hi with rfl | rfl | rfl | rfl | rfl | rfl
    · exact h.2 _ (nf_e0 hj)
    · exact h.2 _ (nf_e1 hj)
    · exact h.2 _ (nf_e2 hj)
    · exact h.2 _ (nf_e3 hj)
    · exact h.2 _ (nf_e4 hj)
    · exact h.2 _ (nf_e5 hj)
  · rcases i06 hi with rfl | rfl | rfl | rfl | rfl | rfl <;> rcases i06 hj with rfl | rfl | rfl | rfl | rfl | rfl
    · exact absurd rfl hij
    · exact Or.inl (h.2 _ nf_466)
    · exact Or.inl (h.2 _ nf_521)
    · exact Or.inl (h.2 _ nf_559)
    · exact Or.inl (h.2 _ nf_597)
    · exact Or.inl (h.2 _ nf_680)
    · exact Or.inr (h.2 _ nf_466)
    · exact absurd rfl hij
    · exact Or.inl (h.2 _ nf_522)
    · exact Or.inl (h.2 _ nf_560)
    · exact Or.inl (h.2 _ nf_598)
    · exact Or.inl (h.2 _ nf_681)
    · exact Or.inr (h.2 _ nf_521)
    · exact Or.inr (h.2 _ nf_522)
    · exact absurd rfl hij
    · exact Or.inl (h.2 _ nf_561)
    · exact Or.inl (h.2 _ nf_599)
    · exact Or.inl (h.2 _ nf_682)
    · exact Or.inr (h.2 _ nf_559)
    · exact Or.inr (h.2 _ nf_560)
    · exact Or.inr (h.2 _ nf_561)
    · exact absurd rfl hij
    · exact Or.inl (h.2 _ nf_600)
    · exact Or.inl (h.2 _ nf_683)
    · exact Or.inr (h.2 _ nf_597)
    · exact Or.inr (h.2 _ nf_598)
    · exact Or.inr (h.2 _ nf_599)
    · exact Or.inr (h.2 _ nf_600)
    · exact absurd rfl hij
    · exact Or.inl (h.2 _ nf_684)
    · exact Or.inr (h.2 _ nf_680)
    · exact Or.inr (h.2 _ nf_681)
    · exact Or.inr (h.2 _ nf_682)
    · exact Or.inr (h.2 _ nf_683)
    · exact Or.inr (h.2 _ nf_684)
    · exact absurd rfl hij
theorem eq_i {t : Term} {z : Int32} (h : (Cond.eq t (.int z)).before args s = true) : t.eval args s none [] s = some (.int z) := by
  cases hv : t.eval args s none [] s with
  | none => simp [Cond.before, Cond.holds, Cond.value, hv] at h
  | some w =>
    have hz : (Term.int z).eval args s none [] s = some (.int z) := rfl
    simp only [Cond.before, Cond.holds, Cond.value, hv, hz] at h
    cases w <;> simp_all
theorem en_DigitOnes (h : En args s) (hA : ∀ a : Nat, a < s.heap.size → ¬ A a) : ∃ t : Nat, va_Z "java/lang/Integer" "DigitOnes" "[B" (.ref t) A s s.heap ∧ va_T .byte t 100 (fun j => .int (nI (48 + j % 10))) A s s.heap := by
  obtain ⟨t, e, hT⟩ := va_Tof (N := 100) (f := fun j => .int (nI (48 + j % 10))) (by decide) (h.2 _ nf_10) (eq_i (h.2 _ nf_11)) (fun j hj => eq_i (h.2 _ (nf_d10 hj))) hA
  exact ⟨t, va_Zof (h.1 _ (t_in6 (List.mem_of_getElem? (i := 218) rfl))) (h.1 _ (t_in1 (List.mem_of_getElem? (i := 23) rfl))) e hA, hT⟩
theorem en_DigitTens (h : En args s) (hA : ∀ a : Nat, a < s.heap.size → ¬ A a) : ∃ t : Nat, va_Z "java/lang/Integer" "DigitTens" "[B" (.ref t) A s s.heap ∧ va_T .byte t 100 (fun j => .int (nI (48 + j / 10))) A s s.heap := by
  obtain ⟨t, e, hT⟩ := va_Tof (N := 100) (f := fun j => .int (nI (48 + j / 10))) (by decide) (h.2 _ nf_113) (eq_i (h.2 _ nf_114)) (fun j hj => eq_i (h.2 _ (nf_d113 hj))) hA
  exact ⟨t, va_Zof (h.1 _ (t_in6 (List.mem_of_getElem? (i := 220) rfl))) (h.1 _ (t_in1 (List.mem_of_getElem? (i := 23) rfl))) e hA, hT⟩
theorem vk_V {aK aV aW : Nat → Nat} (h : vk_S 6 m_len m_byt aK aV A s s.heap) (e : ∀ i, i < 6 → aW i = aV i) : vk_S 6 m_len m_byt aK aW A s s.heap := ⟨fun i hi => by rw [e i hi]; exact h.1 i hi, h.2⟩
theorem en_ex (h : En args s) (hA : ∀ a : Nat, a < s.heap.size → ¬ A a) : ∃ aK aV : Nat → Nat, m_ex aK aV A s s.heap := by
  obtain ⟨aK, aV, hS, ht⟩ := en_S h hA
  obtain ⟨t6, z6, y6⟩ := en_DigitOnes h hA
  obtain ⟨t7, z7, y7⟩ := en_DigitTens h hA
  have e0 : (Term.string "StreamDesk$Tokens" 25).eval args s none [] s = some (.ref (aK 0)) := ht 0 (by decide)
  have e1 : (Term.string "StreamDesk$Tokens" 68).eval args s none [] s = some (.ref (aK 1)) := ht 1 (by decide)
  have e2 : (Term.string "StreamDeskLaw" 59).eval args s none [] s = some (.ref (aK 2)) := ht 2 (by decide)
  have e3 : (Term.string "StreamDeskLaw" 68).eval args s none [] s = some (.ref (aK 3)) := ht 3 (by decide)
  have e4 : (Term.string "StreamDeskLaw" 70).eval args s none [] s = some (.ref (aK 4)) := ht 4 (by decide)
  have e5 : (Term.string "StreamDeskLaw" 72).eval args s none [] s = some (.ref (aK 5)) := ht 5 (by decide)
  refine ⟨aK, fun i => if i = 6 then t6 else if i = 7 then t7 else aV i, ⟨vx_Zqof (h.1 _ (t_in3 (List.mem_of_getElem? (i := 108) rfl))) (h.1 _ (t_in1 (List.mem_of_getElem? (i := 24) rfl))) (h.2 _ nf_7) hA, vx_Zqof (h.1 _ (t_in3 (List.mem_of_getElem? (i := 110) rfl))) (h.1 _ (t_in1 (List.mem_of_getElem? (i := 24) rfl))) (h.2 _ nf_8) hA⟩, ⟨vk_V hS (fun i hi => ?_), va_Zof (h.1 _ (t_in1 (List.mem_of_getElem? (i := 55) rfl))) (h.1 _ (t_in1 (List.mem_of_getElem? (i := 3) rfl))) (va_eqi (h.2 _ nf_2)) hA, va_Zqof (h.1 _ (t_in1 (List.mem_of_getElem? (i := 71) rfl))) (h.1 _ (t_in1 (List.mem_of_getElem? (i := 5) rfl))) (h.2 _ nf_3) hA⟩, ⟨vk_R.of (h.1 _ (t_in1 (List.mem_of_getElem? (i := 45) rfl))) e0, vk_R.of (h.1 _ (t_in5 (List.mem_of_getElem? (i := 14) rfl))) e1, vk_R.of (h.1 _ (t_in7 (List.mem_of_getElem? (i := 46) rfl))) e2, vk_R.of (h.1 _ (t_in7 (List.mem_of_getElem? (i := 47) rfl))) e3, vk_R.of (h.1 _ (t_in7 (List.mem_of_getElem? (i := 48) rfl))) e4, vk_R.of (h.1 _ (t_in7 (List.mem_of_getElem? (i := 49) rfl))) e5⟩, ⟨z6, y6⟩, z7, y7⟩
  show (if i = 6 then t6 else if i = 7 then t7 else aV i) = aV i
  rw [if_neg (by omega), if_neg (by omega)]
theorem en_NW (h : En args s) : ∀ w ∈ m_NW, va_Nw w s := by
  intro w hw
  have h1 := h.1 w (List.mem_append_right _ (List.mem_filter.mp hw).1)
  have h2 := (List.mem_filter.mp hw).2
  cases w <;> first | exact va_tabs rfl rfl h1 | exact h1 | (simp [m_nw] at h2; done)
theorem ak_p {ty : FieldType} (h : (Cond.arrayClass ty).before args s = true) : ∃ cA : ClassId, ArrOfT s cA ty ∧ s.vm.findClass ("[" ++ ty.toString) = some cA := by
  obtain ⟨c, k, comp, h1, h2, h3⟩ := Cond.arrayClass_spec h
  exact ⟨c, fun n z => ⟨fun k h => (by cases h), k, h2, comp, h3⟩, h1⟩
theorem ak_o {C : String} (h : (Cond.arrayOver (.object C)).before args s = true) : ∃ cA : ClassId, ArrOfT s cA (.object C) ∧ va_RA s cA (.object C) := by
  obtain ⟨comp, c, k, h1, _, h3, h4, h5⟩ := Cond.arrayOver_spec h
  exact ⟨c, fun n z => ⟨fun k h => (by cases h), k, h3, comp, h4⟩, k, comp, h3, h4, h1, h5⟩
theorem En.nw (h : En args s) {w : Cond} (hw : w ∈ m_NW) : w.before args s = true := h.1 w (List.mem_append_right _ (List.mem_filter.mp hw).1)
theorem en_K (h : En args s) : ∃ (D : va_G) (ca : Nat → ClassId), va_K D vwCl (m_tys ca) s := by
  obtain ⟨c0, i0, k0⟩ := u_known (C := RX0) (T := TX0) (N := 5) (n := 5) h.tw in_X0 (h.tw _ is_X0)
  obtain ⟨c1, i1, k1⟩ := u_known (C := RX1) (T := TX1) (N := 10) (n := 10) h.tw in_X1 (h.tw _ is_X1)
  obtain ⟨c2, i2, k2⟩ := u_known (C := RX2) (T := TX2) (N := 4) (n := 4) h.tw in_X2 (h.tw _ is_X2)
  obtain ⟨c3, i3, k3⟩ := u_known (C := RX3) (T := TX3) (N := 14) (n := 14) h.tw in_X3 (h.tw _ is_X3)
  obtain ⟨c4, i4, k4⟩ := u_known (C := RX4) (T := TX4) (N := 8) (n := 8) h.tw in_X4 (h.tw _ is_X4)
  obtain ⟨c5, i5, k5⟩ := u_known (C := RX5) (T := TX5) (N := 8) (n := 8) h.tw in_X5 (h.tw _ is_X5)
  obtain ⟨c6, i6, k6⟩ := u_known (C := RX6) (T := TX6) (N := 5) (n := 5) h.tw in_X6 (h.tw _ is_X6)
  obtain ⟨c7, i7, k7⟩ := u_known (C := RX7) (T := TX7) (N := 17) (n := 17) h.tw in_X7 (h.tw _ is_X7)
  obtain ⟨c8, i8, k8⟩ := u_known (C := RX8) (T := TX8) (N := 4) (n := 4) h.tw in_X8 (h.tw _ is_X8)
  obtain ⟨c9, i9, k9⟩ := u_known (C := RX9) (T := TX9) (N := 5) (n := 5) h.tw in_X9 (h.tw _ is_X9)
  obtain ⟨c10, i10, k10⟩ := u_known (C := RX10) (T := TX10) (N := 6) (n := 6) h.tw in_X10 (h.tw _ is_X10)
  obtain ⟨c11, i11, k11⟩ := u_known (C := RX11) (T := TX11) (N := 15) (n := 15) h.tw in_X11 (h.tw _ is_X11)
  obtain ⟨c12, i12, k12⟩ := u_known (C := RJ0) (T := TJ0) (N := 4) (n := 4) h.tw in_J0 (h.tw _ is_J0)
  obtain ⟨c13, i13, k13⟩ := u_known (C := RJ4) (T := TJ4) (N := 4) (n := 4) h.tw in_J4 (h.tw _ is_J4)
  obtain ⟨a20, b20, d20⟩ := ak_p (h.tw _ a_int)
  obtain ⟨a21, b21, d21⟩ := ak_p (h.tw _ a_long)
  obtain ⟨a22, b22, d22⟩ := ak_p (h.tw _ a_byte)
  obtain ⟨a23, b23, d23⟩ := ak_p (h.tw _ a_boolean)
  obtain ⟨a24, b24, d24⟩ := ak_o (h.nw ao_X0)
  obtain ⟨a25, b25, d25⟩ := ak_o (h.nw ao_X2)
  obtain ⟨a26, b26, d26⟩ := ak_o (h.nw ao_X6)
  obtain ⟨a27, b27, d27⟩ := ak_o (h.nw ao_X7)
  refine ⟨(fun k => [c0, c1, c2, c3, c4, c5, c6, c7, c8, c9, c10, c11, c12, c13].getD k c0, fun k => [i0, i1, i2, i3, i4, i5, i6, i7, i8, i9, i10, i11, i12, i13].getD k i0), fun c => [a20, a21, a22, a23, a24, a25, a26, a27].getD (c - 20) a20, ?_, ?_⟩
  · intro k q hq
    match k, hq with
    | 0, hq => cases hq; exact k0
    | 1, hq => cases hq; exact k1
    | 2, hq => cases hq; exact k2
    | 3, hq => cases hq; exact k3
    | 4, hq => cases hq; exact k4
    | 5, hq => cases hq; exact k5
    | 6, hq => cases hq; exact k6
    | 7, hq => cases hq; exact k7
    | 8, hq => cases hq; exact k8
    | 9, hq => cases hq; exact k9
    | 10, hq => cases hq; exact k10
    | 11, hq => cases hq; exact k11
    | 12, hq => cases hq; exact k12
    | 13, hq => cases hq; exact k13
    | k + 14, hq => simp [vwCl] at hq
  · intro k q hq
    match k, hq with
    | 0, hq => cases hq; exact ⟨b20, d20⟩
    | 1, hq => cases hq; exact ⟨b21, d21⟩
    | 2, hq => cases hq; exact ⟨b22, d22⟩
    | 3, hq => cases hq; exact ⟨b23, d23⟩
    | 4, hq => cases hq; exact ⟨b24, d24⟩
    | 5, hq => cases hq; exact ⟨b25, d25⟩
    | 6, hq => cases hq; exact ⟨b26, d26⟩
    | 7, hq => cases hq; exact ⟨b27, d27⟩
    | k + 8, hq => simp [m_tys] at hq
end EN
