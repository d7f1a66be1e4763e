/-! THROWS, catches; constants; numbers -/
theorem k_X11_270 : Cond.constantLong RX11 270 (281) ∈ m_TW := m_in (t_in4 (List.mem_of_getElem? (i := 160) rfl)) rfl
theorem k_X11_272 : Cond.constantLong RX11 272 (31) ∈ m_TW := m_in (t_in4 (List.mem_of_getElem? (i := 161) rfl)) rfl
theorem k_X8_61 : Cond.constantLong RX8 61 (31) ∈ m_TW := m_in (t_in4 (List.mem_of_getElem? (i := 167) rfl)) rfl
theorem k_X6_22 : Cond.constantLong RX6 22 (31) ∈ m_TW := m_in (t_in4 (List.mem_of_getElem? (i := 172) rfl)) rfl
theorem k_L_7 : Cond.constant RL 7 (2147483647) ∈ m_TW := m_in (t_in4 (List.mem_of_getElem? (i := 177) rfl)) rfl
theorem k_L_8 : Cond.constant RL 8 (790386105) ∈ m_TW := m_in (t_in4 (List.mem_of_getElem? (i := 181) rfl)) rfl
theorem k_X9_77 : Cond.constantLong RX9 77 (10) ∈ m_TW := m_in (t_in5 (List.mem_of_getElem? (i := 13) rfl)) rfl
theorem k_J2_227 : Cond.constant RJ2 227 (65536) ∈ m_TW := m_in (t_in5 (List.mem_of_getElem? (i := 40) rfl)) rfl
theorem k_J11_110 : Cond.constant RJ11 110 (55232) ∈ m_TW := m_in (t_in5 (List.mem_of_getElem? (i := 65) rfl)) rfl
theorem k_J11_76 : Cond.constant RJ11 76 (56320) ∈ m_TW := m_in (t_in5 (List.mem_of_getElem? (i := 69) rfl)) rfl
theorem k_X3_179 : Cond.constantLong RX3 179 (422608071022) ∈ m_TW := m_in (t_in5 (List.mem_of_getElem? (i := 151) rfl)) rfl
theorem k_X3_100 : Cond.constantLong RX3 100 (1000) ∈ m_TW := m_in (t_in5 (List.mem_of_getElem? (i := 176) rfl)) rfl
theorem k_X11_159 : Cond.constant RX11 159 (1000000) ∈ m_TW := m_in (t_in6 (List.mem_of_getElem? (i := 76) rfl)) rfl
theorem k_J2_20 : Cond.constant RJ2 20 (1073741823) ∈ m_TW := m_in (t_in6 (List.mem_of_getElem? (i := 102) rfl)) rfl
theorem k_J8_200 : Cond.constant RJ8 200 (2147483639) ∈ m_TW := m_in (t_in6 (List.mem_of_getElem? (i := 139) rfl)) rfl
theorem k_J5_39 : Cond.constant RJ5 39 (2147483647) ∈ m_TW := m_in (t_in6 (List.mem_of_getElem? (i := 143) rfl)) rfl
theorem k_L_96 : Cond.constantLong RL 96 (9) ∈ m_TW := m_in (t_in7 (List.mem_of_getElem? (i := 50) rfl)) rfl
theorem m_E_gh {ca : Nat → ClassId} {h : Hp} {q9 b : Nat} : m_E ca (p_R h 1023 0 (some q9)) b = m_E ca h b := by
  have e : ∀ d k, d < 15 → k < 64 → m_v (p_R h 1023 0 (some q9)) d b k = m_v h d b k := fun d k hd hk => by
    unfold m_v
    simp only [g_IR, g_JR, g_RR]
    rw [if_neg (fun q => by omega)]
  have e2 : ∀ d, d < 15 → m_f (p_R h 1023 0 (some q9)) d b = m_f h d b := fun d hd => by
    unfold m_f
    refine List.map_congr_left (fun k hk => e d k hd ?_)
    have h1 := List.mem_range.mp hk
    have h2 : (m_ty d).length ≤ 63 := by
      rcases d with _ | _ | _ | _ | _ | _ | _ | _ | _ | _ | _ | _ | _ | _ | _ | d <;> first | decide | omega
    omega
  by_cases hk : m_K h b < 15
  · rw [m_E_o (h := p_R h 1023 0 (some q9)) (c := m_K h b) rfl hk, m_E_o (h := h) rfl hk, e2 _ hk]
  · unfold m_E
    rw [if_neg (show ¬ m_K (p_R h 1023 0 (some q9)) b < 15 from hk), if_neg hk]
    rfl
theorem m_W.gh {D : va_G} {ca : Nat → ClassId} {h : Hp} {L : List Nat} {A : Nat → Prop} {H : Heap} {q9 : Nat} (hw : m_W D ca h L A H) : m_W D ca (p_R h 1023 0 (some q9)) L A H := by
  have e1 : va_pl L (m_E ca (p_R h 1023 0 (some q9))) = va_pl L (m_E ca h) := va_pl_congr (fun b => m_E_gh)
  refine ⟨by rw [e1]; exact hw.1, by rw [e1]; exact hw.2.1, hw.2.2⟩
theorem x_deRE : Cond.declares ⟨"java/lang/RuntimeException", "<init>", "()V"⟩ ∈ m_NW := List.mem_filter.mpr ⟨List.mem_append_right _ (List.mem_append_right _ (List.mem_append_left _ (List.mem_of_getElem? (i := 84) rfl))), rfl⟩
theorem x_deEX : Cond.declares ⟨"java/lang/Exception", "<init>", "()V"⟩ ∈ m_NW := List.mem_filter.mpr ⟨List.mem_append_right _ (List.mem_append_right _ (List.mem_append_left _ (List.mem_of_getElem? (i := 86) rfl))), rfl⟩
theorem x_deTH : Cond.declares ⟨"java/lang/Throwable", "<init>", "()V"⟩ ∈ m_NW := List.mem_filter.mpr ⟨List.mem_append_right _ (List.mem_append_right _ (List.mem_append_left _ (List.mem_of_getElem? (i := 88) rfl))), rfl⟩
theorem x_cl85 : Cond.classLink RX11 83 "java/lang/IllegalStateException" ∈ m_TW := m_in (t_in3 (List.mem_of_getElem? (i := 204) rfl)) rfl
theorem x_in85 : Cond.initialized "java/lang/IllegalStateException" ∈ m_TW := m_in (t_in1 (List.mem_of_getElem? (i := 27) rfl)) rfl
theorem x_at85 : ∀ w ∈ (vx_at0 RX11 85 "java/lang/IllegalStateException" ["java/lang/RuntimeException", "java/lang/Exception"]).filter goodWord, w ∈ m_TW := fun w h => m_in ((show ∀ w ∈ (vx_at0 RX11 85 "java/lang/IllegalStateException" ["java/lang/RuntimeException", "java/lang/Exception"]).filter goodWord, w ∈ lw_tbl by decide +kernel) w h) (List.mem_filter.mp h).2
theorem x_ng85 : ∀ w ∈ (vx_at0 RX11 85 "java/lang/IllegalStateException" ["java/lang/RuntimeException", "java/lang/Exception"]).filter (fun w => !goodWord w), w ∈ [Cond.castable "java/lang/IllegalStateException" "java/lang/IllegalStateException", Cond.declares ⟨"java/lang/RuntimeException", "<init>", "()V"⟩, Cond.declares ⟨"java/lang/Exception", "<init>", "()V"⟩, Cond.declares ⟨"java/lang/Throwable", "<init>", "()V"⟩] := by decide +kernel
theorem x_ot85 : ∀ w ∈ Cond.classLink RX11 83 "java/lang/IllegalStateException" :: Cond.initialized "java/lang/IllegalStateException" :: vx_at0 RX11 85 "java/lang/IllegalStateException" ["java/lang/RuntimeException", "java/lang/Exception"], vx_ot w = true := by decide +kernel
theorem x_ca85 : Cond.castable "java/lang/IllegalStateException" "java/lang/IllegalStateException" ∈ m_NW := List.mem_filter.mpr ⟨List.mem_append_right _ (List.mem_append_right _ (List.mem_append_left _ (List.mem_of_getElem? (i := 206) rfl))), rfl⟩
set_option maxRecDepth 20000 in
theorem w_thr85 {x : Cxt} {cc : ByteArray} {nL pc dd mc ms Mc Ms : Nat} {y : MethodName} {ret : Option FieldType} {lv : List (Nat × Value)} {st : List Value} {h : Hp} {kc ks : Nat} {Qv : Option Value → Hp → Prop} {Xv : String → Hp → Prop} (hf : m_fin mc ms Qv Xv x) (hrm : m_rm dd Mc Ms x) (hdd : 6 ≤ dd)
    (d0 : decode cc pc = .ok (.new 83, 3)) (d3 : decode cc (pc + 3) = .ok (.dup, 1)) (d4 : decode cc (pc + 4) = .ok (.invokespecial 85, 3)) (d7 : decode cc (pc + 7) = .ok (.athrow, 1)) (hc1 : kc + 1 ≤ mc) (hs1 : ks + 6 ≤ ms) (hc2 : mc ≤ Mc) (hs2 : ms ≤ Ms) (hcat : (st.map fun v => v.category).sum ≤ 8) (hX : ∀ q9 : Nat, Xv "java/lang/IllegalStateException" (p_R h 1023 0 (some q9))) : wp x (RX11, cc, nL, y, ret, []) pc lv st h kc ks := by
  obtain ⟨p, l, e, R, s, m, args, below, meth, cd, Q, A, D, ca, aK, aV⟩ := x
  intro ok H locs ls L hw hS hl
  have hf : Q = _ := hf
  subst hf
  obtain ⟨r1, r2, r3, r4⟩ := hrm
  have hE := ok.2.2.2.2.2.2.2.2.2.2.2.2.1
  refine vx_throw0 (mc := mc) (ms := ms) (A := A) (names := ["java/lang/RuntimeException", "java/lang/Exception"]) ok.1 ok.2.1 ok.2.2.2.2.2.2.2.2.2.2.2.1 ok.2.2.2.1 (by decide +kernel) (by decide +kernel) (ok.2.2.2.2.1 _ x_cl85) (ok.2.2.2.2.1 _ x_in85) (vx_hat (fun w hw => ok.2.2.2.2.1 w (x_at85 w hw)) x_ng85 (vx_c (va_Nw.use rfl (ok.2.2.2.2.2.2.1 _ x_ca85)) (vx_c (va_Nw.use rfl (ok.2.2.2.2.2.2.1 _ x_deRE)) (vx_c (va_Nw.use rfl (ok.2.2.2.2.2.2.1 _ x_deEX)) (vx_c (va_Nw.use rfl (ok.2.2.2.2.2.2.1 _ x_deTH)) vx_n))))) x_ot85 hE.1.1 hE.1.2 hS (hl.1.trans ok.2.2.1.symm) d0 d3 d4 d7 (fun z hz => by rw [ok.2.2.2.2.2.2.2.2.2.2.2.2.2] at hz; cases hz) (by show 2 + 3 < R.frames; omega) (by show _ + (13 * (2 + 1) + 42) ≤ R.locals; omega) (by omega) (by omega) ok.2.2.2.2.2.2.2.2.2.1 (fun t ht hz hk => ?_) hS.2.2 hc1 hs1
  intro q9
  refine ⟨⟨p_R h 1023 0 (some q9), L, hX q9, g_RRs, va_P.kept (hw.gh (q9 := q9)).1 (fun k q hq => hk q.1 (((hw.gh (q9 := q9)).1 k q hq).lt)), (hw.gh (q9 := q9)).2⟩, Nat.le_trans hS.1 hz, fun q h1 h2 => ?_⟩
  rw [hk q (Nat.lt_of_lt_of_le h1 hS.1)]
  exact hS.2.1 q h1 h2
theorem x_cl92 : Cond.classLink RX11 90 "java/lang/IllegalArgumentException" ∈ m_TW := m_in (t_in4 (List.mem_of_getElem? (i := 202) rfl)) rfl
theorem x_in92 : Cond.initialized "java/lang/IllegalArgumentException" ∈ m_TW := m_in (t_in1 (List.mem_of_getElem? (i := 28) rfl)) rfl
theorem x_at92 : ∀ w ∈ (vx_at0 RX11 92 "java/lang/IllegalArgumentException" ["java/lang/RuntimeException", "java/lang/Exception"]).filter goodWord, w ∈ m_TW := fun w h => m_in ((show ∀ w ∈ (vx_at0 RX11 92 "java/lang/IllegalArgumentException" ["java/lang/RuntimeException", "java/lang/Exception"]).filter goodWord, w ∈ lw_tbl by decide +kernel) w h) (List.mem_filter.mp h).2
theorem x_ng92 : ∀ w ∈ (vx_at0 RX11 92 "java/lang/IllegalArgumentException" ["java/lang/RuntimeException", "java/lang/Exception"]).filter (fun w => !goodWord w), w ∈ [Cond.castable "java/lang/IllegalArgumentException" "java/lang/IllegalArgumentException", Cond.declares ⟨"java/lang/RuntimeException", "<init>", "()V"⟩, Cond.declares ⟨"java/lang/Exception", "<init>", "()V"⟩, Cond.declares ⟨"java/lang/Throwable", "<init>", "()V"⟩] := by decide +kernel
theorem x_ot92 : ∀ w ∈ Cond.classLink RX11 90 "java/lang/IllegalArgumentException" :: Cond.initialized "java/lang/IllegalArgumentException" :: vx_at0 RX11 92 "java/lang/IllegalArgumentException" ["java/lang/RuntimeException", "java/lang/Exception"], vx_ot w = true := by decide +kernel
theorem x_ca92 : Cond.castable "java/lang/IllegalArgumentException" "java/lang/IllegalArgumentException" ∈ m_NW := List.mem_filter.mpr ⟨List.mem_append_right _ (List.mem_append_right _ (List.mem_append_right _ (List.mem_append_left _ (List.mem_of_getElem? (i := 204) rfl)))), rfl⟩
set_option maxRecDepth 20000 in
theorem w_thr92 {x : Cxt} {cc : ByteArray} {nL pc dd mc ms Mc Ms : Nat} {y : MethodName} {ret : Option FieldType} {lv : List (Nat × Value)} {st : List Value} {h : Hp} {kc ks : Nat} {Qv : Option Value → Hp → Prop} {Xv : String → Hp → Prop} (hf : m_fin mc ms Qv Xv x) (hrm : m_rm dd Mc Ms x) (hdd : 6 ≤ dd)
    (d0 : decode cc pc = .ok (.new 90, 3)) (d3 : decode cc (pc + 3) = .ok (.dup, 1)) (d4 : decode cc (pc + 4) = .ok (.invokespecial 92, 3)) (d7 : decode cc (pc + 7) = .ok (.athrow, 1)) (hc1 : kc + 1 ≤ mc) (hs1 : ks + 6 ≤ ms) (hc2 : mc ≤ Mc) (hs2 : ms ≤ Ms) (hcat : (st.map fun v => v.category).sum ≤ 8) (hX : ∀ q9 : Nat, Xv "java/lang/IllegalArgumentException" (p_R h 1023 0 (some q9))) : wp x (RX11, cc, nL, y, ret, []) pc lv st h kc ks := by
  obtain ⟨p, l, e, R, s, m, args, below, meth, cd, Q, A, D, ca, aK, aV⟩ := x
  intro ok H locs ls L hw hS hl
  have hf : Q = _ := hf
  subst hf
  obtain ⟨r1, r2, r3, r4⟩ := hrm
  have hE := ok.2.2.2.2.2.2.2.2.2.2.2.2.1
  refine vx_throw0 (mc := mc) (ms := ms) (A := A) (names := ["java/lang/RuntimeException", "java/lang/Exception"]) ok.1 ok.2.1 ok.2.2.2.2.2.2.2.2.2.2.2.1 ok.2.2.2.1 (by decide +kernel) (by decide +kernel) (ok.2.2.2.2.1 _ x_cl92) (ok.2.2.2.2.1 _ x_in92) (vx_hat (fun w hw => ok.2.2.2.2.1 w (x_at92 w hw)) x_ng92 (vx_c (va_Nw.use rfl (ok.2.2.2.2.2.2.1 _ x_ca92)) (vx_c (va_Nw.use rfl (ok.2.2.2.2.2.2.1 _ x_deRE)) (vx_c (va_Nw.use rfl (ok.2.2.2.2.2.2.1 _ x_deEX)) (vx_c (va_Nw.use rfl (ok.2.2.2.2.2.2.1 _ x_deTH)) vx_n))))) x_ot92 hE.1.1 hE.1.2 hS (hl.1.trans ok.2.2.1.symm) d0 d3 d4 d7 (fun z hz => by rw [ok.2.2.2.2.2.2.2.2.2.2.2.2.2] at hz; cases hz) (by show 2 + 3 < R.frames; omega) (by show _ + (13 * (2 + 1) + 42) ≤ R.locals; omega) (by omega) (by omega) ok.2.2.2.2.2.2.2.2.2.1 (fun t ht hz hk => ?_) hS.2.2 hc1 hs1
  intro q9
  refine ⟨⟨p_R h 1023 0 (some q9), L, hX q9, g_RRs, va_P.kept (hw.gh (q9 := q9)).1 (fun k q hq => hk q.1 (((hw.gh (q9 := q9)).1 k q hq).lt)), (hw.gh (q9 := q9)).2⟩, Nat.le_trans hS.1 hz, fun q h1 h2 => ?_⟩
  rw [hk q (Nat.lt_of_lt_of_le h1 hS.1)]
  exact hS.2.1 q h1 h2
theorem x_cl138 : Cond.classLink RX11 136 "java/lang/IndexOutOfBoundsException" ∈ m_TW := m_in (t_in3 (List.mem_of_getElem? (i := 81) rfl)) rfl
theorem x_in138 : Cond.initialized "java/lang/IndexOutOfBoundsException" ∈ m_TW := m_in (t_in1 (List.mem_of_getElem? (i := 30) rfl)) rfl
theorem x_at138 : ∀ w ∈ (vx_at0 RX11 138 "java/lang/IndexOutOfBoundsException" ["java/lang/RuntimeException", "java/lang/Exception"]).filter goodWord, w ∈ m_TW := fun w h => m_in ((show ∀ w ∈ (vx_at0 RX11 138 "java/lang/IndexOutOfBoundsException" ["java/lang/RuntimeException", "java/lang/Exception"]).filter goodWord, w ∈ lw_tbl by decide +kernel) w h) (List.mem_filter.mp h).2
theorem x_ng138 : ∀ w ∈ (vx_at0 RX11 138 "java/lang/IndexOutOfBoundsException" ["java/lang/RuntimeException", "java/lang/Exception"]).filter (fun w => !goodWord w), w ∈ [Cond.castable "java/lang/IndexOutOfBoundsException" "java/lang/IndexOutOfBoundsException", Cond.declares ⟨"java/lang/RuntimeException", "<init>", "()V"⟩, Cond.declares ⟨"java/lang/Exception", "<init>", "()V"⟩, Cond.declares ⟨"java/lang/Throwable", "<init>", "()V"⟩] := by decide +kernel
theorem x_ot138 : ∀ w ∈ Cond.classLink RX11 136 "java/lang/IndexOutOfBoundsException" :: Cond.initialized "java/lang/IndexOutOfBoundsException" :: vx_at0 RX11 138 "java/lang/IndexOutOfBoundsException" ["java/lang/RuntimeException", "java/lang/Exception"], vx_ot w = true := by decide +kernel
theorem x_ca138 : Cond.castable "java/lang/IndexOutOfBoundsException" "java/lang/IndexOutOfBoundsException" ∈ m_NW := List.mem_filter.mpr ⟨List.mem_append_right _ (List.mem_append_right _ (List.mem_append_left _ (List.mem_of_getElem? (i := 83) rfl))), rfl⟩
set_option maxRecDepth 20000 in
theorem w_thr138 {x : Cxt} {cc : ByteArray} {nL pc dd mc ms Mc Ms : Nat} {y : MethodName} {ret : Option FieldType} {lv : List (Nat × Value)} {st : List Value} {h : Hp} {kc ks : Nat} {Qv : Option Value → Hp → Prop} {Xv : String → Hp → Prop} (hf : m_fin mc ms Qv Xv x) (hrm : m_rm dd Mc Ms x) (hdd : 6 ≤ dd)
    (d0 : decode cc pc = .ok (.new 136, 3)) (d3 : decode cc (pc + 3) = .ok (.dup, 1)) (d4 : decode cc (pc + 4) = .ok (.invokespecial 138, 3)) (d7 : decode cc (pc + 7) = .ok (.athrow, 1)) (hc1 : kc + 1 ≤ mc) (hs1 : ks + 6 ≤ ms) (hc2 : mc ≤ Mc) (hs2 : ms ≤ Ms) (hcat : (st.map fun v => v.category).sum ≤ 8) (hX : ∀ q9 : Nat, Xv "java/lang/IndexOutOfBoundsException" (p_R h 1023 0 (some q9))) : wp x (RX11, cc, nL, y, ret, []) pc lv st h kc ks := by
  obtain ⟨p, l, e, R, s, m, args, below, meth, cd, Q, A, D, ca, aK, aV⟩ := x
  intro ok H locs ls L hw hS hl
  have hf : Q = _ := hf
  subst hf
  obtain ⟨r1, r2, r3, r4⟩ := hrm
  have hE := ok.2.2.2.2.2.2.2.2.2.2.2.2.1
  refine vx_throw0 (mc := mc) (ms := ms) (A := A) (names := ["java/lang/RuntimeException", "java/lang/Exception"]) ok.1 ok.2.1 ok.2.2.2.2.2.2.2.2.2.2.2.1 ok.2.2.2.1 (by decide +kernel) (by decide +kernel) (ok.2.2.2.2.1 _ x_cl138) (ok.2.2.2.2.1 _ x_in138) (vx_hat (fun w hw => ok.2.2.2.2.1 w (x_at138 w hw)) x_ng138 (vx_c (va_Nw.use rfl (ok.2.2.2.2.2.2.1 _ x_ca138)) (vx_c (va_Nw.use rfl (ok.2.2.2.2.2.2.1 _ x_deRE)) (vx_c (va_Nw.use rfl (ok.2.2.2.2.2.2.1 _ x_deEX)) (vx_c (va_Nw.use rfl (ok.2.2.2.2.2.2.1 _ x_deTH)) vx_n))))) x_ot138 hE.1.1 hE.1.2 hS (hl.1.trans ok.2.2.1.symm) d0 d3 d4 d7 (fun z hz => by rw [ok.2.2.2.2.2.2.2.2.2.2.2.2.2] at hz; cases hz) (by show 2 + 3 < R.frames; omega) (by show _ + (13 * (2 + 1) + 42) ≤ R.locals; omega) (by omega) (by omega) ok.2.2.2.2.2.2.2.2.2.1 (fun t ht hz hk => ?_) hS.2.2 hc1 hs1
  intro q9
  refine ⟨⟨p_R h 1023 0 (some q9), L, hX q9, g_RRs, va_P.kept (hw.gh (q9 := q9)).1 (fun k q hq => hk q.1 (((hw.gh (q9 := q9)).1 k q hq).lt)), (hw.gh (q9 := q9)).2⟩, Nat.le_trans hS.1 hz, fun q h1 h2 => ?_⟩
  rw [hk q (Nat.lt_of_lt_of_le h1 hS.1)]
  exact hS.2.1 q h1 h2
/-- an exception that this method does not catch -/
theorem w_out {x : Cxt} {own : String} {cc : ByteArray} {nL pc mc ms : Nat} {y : MethodName} {ret : Option FieldType} {lv : List (Nat × Value)} {E : String} {h : Hp} {kc ks : Nat} {Qv : Option Value → Hp → Prop} {Xv : String → Hp → Prop} (hf : m_fin mc ms Qv Xv x) (hc1 : kc ≤ mc) (hs1 : ks ≤ ms) (hX : Xv E h) : wx x (own, cc, nL, y, ret, []) pc lv E h kc ks := by
  obtain ⟨p, l, e, R, s, m, args, below, meth, cd, Q, A, D, ca, aK, aV⟩ := x
  intro ok H locs ls L q ce rest hgh hw hS hl g1 g2 g3
  have hf : Q = _ := hf
  subst hf
  refine vx_out (fun z hz => by rw [ok.2.2.2.2.2.2.2.2.2.2.2.2.2] at hz; cases hz) ok.2.2.2.2.2.2.2.2.2.1 g1 g2 g3 (fun t ht _ => ?_) hS.2.2 hc1 hs1
  exact ⟨⟨h, L, hX, hgh, by rw [ht]; exact hw⟩, hS.F ht⟩
/-! numbers -/
theorem b_nle {a b : Nat} (ha : a < 2 ^ 31) (hb : b < 2 ^ 31) (q : ¬ nI a ≤ nI b) : b < a := by
  have := mt (nI_leI ha hb).mpr q
  omega
theorem b_le {a b : Nat} (ha : a < 2 ^ 31) (hb : b < 2 ^ 31) (q : nI a ≤ nI b) : a ≤ b := (nI_leI ha hb).mp q
theorem b_lt {a b : Nat} (ha : a < 2 ^ 31) (hb : b < 2 ^ 31) (q : nI a < nI b) : a < b := (nI_ltI ha hb).mp q
theorem b_nlt {a b : Nat} (ha : a < 2 ^ 31) (hb : b < 2 ^ 31) (q : ¬ nI a < nI b) : b ≤ a := by
  have := mt (nI_ltI ha hb).mpr q
  omega
theorem b_ge0 {x : Int32} (q : ¬ x < 0) : 0 ≤ x := Int32.not_lt.mp q
theorem b_in {x : Int32} {n : Nat} (hn : n < 2 ^ 31) (q1 : ¬ x < 0) (q2 : ¬ nI n ≤ x) : vp_in x n := by
  obtain ⟨j, hj, rfl⟩ := nI_of q1
  exact vp_in_nI (b_nle hn hj q2) hn
theorem b_in2 {x : Int32} {n N : Nat} (hn : n < 2 ^ 31) (hN : n ≤ N) (hN2 : N < 2 ^ 31) (q1 : ¬ x < 0) (q2 : ¬ nI n ≤ x) : vp_in x N := by
  obtain ⟨j, hj, rfl⟩ := nI_of q1
  exact vp_in_nI (Nat.lt_of_lt_of_le (b_nle hn hj q2) hN) hN2
theorem i_cl {n : Nat} (h : n < 2 ^ 31) : (nI n).toNatClampNeg = n := nI_clamp h
