/-! THE LAW'S WRAPPERS -/
theorem x_cl_L_13 : Cond.classLink RL 13 "java/lang/IllegalStateException" ∈ m_TW := m_in (t_in5 (List.mem_of_getElem? (i := 76) rfl)) rfl
theorem x_cl_L_19 : Cond.classLink RL 19 "java/lang/IllegalArgumentException" ∈ m_TW := m_in (t_in5 (List.mem_of_getElem? (i := 103) rfl)) rfl
theorem x_cl_L_24 : Cond.classLink RL 24 "java/lang/IndexOutOfBoundsException" ∈ m_TW := m_in (t_in5 (List.mem_of_getElem? (i := 126) rfl)) rfl
/-- what a wrapper answers: 0 and the answer in its row, or the number of what was thrown -/
def QW (A : Nat → Nat → Nat → Nat) (cod : String → Int32) (v : Except String Int64) (σ ρ : Zs) : Option Value → Hp → Prop := fun r h => match v with
  | .ok w => r = some (.int 0) ∧ Rp A h (sJ σ 1984 0 0 0 w) ρ
  | .error E => r = some (.int (cod E)) ∧ Rp A h σ ρ
def toJ : Except String Int32 → Except String Int64
  | .ok w => .ok w.toInt64
  | .error E => .error E
def okE {α : Type} (v : Except String α) (L : List String) : Prop := ∀ E, v = .error E → E ∈ L
def codL : List String → Int32 → String → Int32
  | [], _, _ => 0
  | a :: l, k, E => if E = a then k else codL l (k + 1) E
theorem s_L_feed {A : Nat → Nat → Nat → Nat} {h : Hp} {σ ρ σ' : Zs} {v : Except String Int32} {x1 : Int32} {x2 : Int32} {x3 : Int32} {x4 : Int32} {x5 : Int32} (hz : Rp A h σ ρ) (hr : fX11_feed x1 x2 x3 x4 x5 σ = some (v, σ')) (hE : okE v ["java/lang/IllegalStateException"]) : ∀ l : Launch, Sp l mL_feed 7 1 6 [.ref (A 11 0 0), .int x1, .int x2, .int x3, .int x4, .int x5, .ref (A 1984 0 0)] h (QW A (codL ["java/lang/IllegalStateException"] 1) (toJ v) σ' ρ) X0 := by
  intro l
  refine Sp.ofH (by decide) rfl rfl (lv := [(0, .ref (A 11 0 0)), (1, .int x1), (2, .int x2), (3, .int x3), (4, .int x4), (5, .int x5), (6, .ref (A 1984 0 0))]) (Nat.le_of_ble_eq_true rfl) rfl (fun x hf hrm => ?_)
  refine w_aload 6 dL_feed_0 rfl rfl ?_
  refine w_iconst 0 dL_feed_2 rfl rfl ?_
  refine w_aload_n 0 dL_feed_3 rfl rfl rfl ?_
  refine w_iload_n 1 dL_feed_4 rfl rfl rfl ?_
  refine w_iload_n 2 dL_feed_5 rfl rfl rfl ?_
  refine w_iload_n 3 dL_feed_6 rfl rfl rfl ?_
  refine w_iload 4 dL_feed_7 rfl rfl ?_
  refine w_iload 5 dL_feed_9 rfl rfl ?_
  refine c_L_7 (b := A 11 0 0) (As := [.int x1, .int x2, .int x3, .int x4, .int x5]) (rest := [.int 0, .ref (A 1984 0 0)]) (fun l => s_X11_feed hz hr l) hrm dL_feed_11 rfl rfl (Nat.le_of_ble_eq_true rfl) (Nat.le_of_ble_eq_true rfl) (Nat.le_of_ble_eq_true rfl) (hz.o11 rfl) rfl (Nat.le_of_ble_eq_true rfl) (fun vr h2 hq => ?_) (fun E9 h9 hq => ?_)
  · obtain ⟨w, rfl, rfl, hz⟩ := hq
    show wp _ _ 14 [(0, .ref (A 11 0 0)), (1, .int x1), (2, .int x2), (3, .int x3), (4, .int x4), (5, .int x5), (6, .ref (A 1984 0 0))] [.int w, .int 0, .ref (A 1984 0 0)] _ _ _
    refine w_i2l dL_feed_14 rfl ?_
    refine w_last dL_feed_15 rfl (hz.k960 rfl) (gin (hz.n960 rfl) (by decide)) ?_
    have hz := hz.s960 (p := 0) (s := 0) (i := 0) (v := w.toInt64) rfl
    refine w_goto 23 dL_feed_16 rfl ?_
    refine w_iconst 0 dL_feed_23 rfl rfl ?_
    exact w_iret hf dL_feed_24 rfl (Nat.le_of_ble_eq_true rfl) (Nat.le_of_ble_eq_true rfl) ⟨rfl, hz⟩
  · obtain ⟨rfl, hz⟩ := hq
    have hE9 := hE E9 rfl
    simp only [List.mem_cons, List.not_mem_nil, or_false] at hE9
    subst hE9
    refine w_catchL (pre := []) (suf := []) rfl (fun z hz9 => nomatch hz9) ⟨by decide, by decide⟩ (by decide) x_cl_L_13 x_ca85 (fun q hq => ?_)
    refine w_astore [(7, .ref q), (0, .ref (A 11 0 0)), (1, .int x1), (2, .int x2), (3, .int x3), (4, .int x4), (5, .int x5), (6, .ref (A 1984 0 0))] dL_feed_19 rfl (by decide) rfl ?_
    refine w_iconst 1 dL_feed_21 rfl rfl ?_
    exact w_iret hf dL_feed_22 rfl (Nat.le_of_ble_eq_true rfl) (Nat.le_of_ble_eq_true rfl) ⟨rfl, hz⟩
theorem s_L_trim {A : Nat → Nat → Nat → Nat} {h : Hp} {σ ρ σ' : Zs} {v : Except String Int32} {x1 : Int32} (hz : Rp A h σ ρ) (hr : fX11_trim x1 σ = some (v, σ')) (hE : okE v ["java/lang/IllegalArgumentException"]) : ∀ l : Launch, Sp l mL_trim 7 1 6 [.ref (A 11 0 0), .int x1, .ref (A 1984 0 0)] h (QW A (codL ["java/lang/IllegalArgumentException"] 1) (toJ v) σ' ρ) X0 := by
  intro l
  refine Sp.ofH (by decide) rfl rfl (lv := [(0, .ref (A 11 0 0)), (1, .int x1), (2, .ref (A 1984 0 0))]) (Nat.le_of_ble_eq_true rfl) rfl (fun x hf hrm => ?_)
  refine w_aload_n 2 dL_trim_0 rfl rfl rfl ?_
  refine w_iconst 0 dL_trim_1 rfl rfl ?_
  refine w_aload_n 0 dL_trim_2 rfl rfl rfl ?_
  refine w_iload_n 1 dL_trim_3 rfl rfl rfl ?_
  refine c_L_15 (b := A 11 0 0) (As := [.int x1]) (rest := [.int 0, .ref (A 1984 0 0)]) (fun l => s_X11_trim hz hr l) hrm dL_trim_4 rfl rfl (Nat.le_of_ble_eq_true rfl) (Nat.le_of_ble_eq_true rfl) (Nat.le_of_ble_eq_true rfl) (hz.o11 rfl) rfl (Nat.le_of_ble_eq_true rfl) (fun vr h2 hq => ?_) (fun E9 h9 hq => ?_)
  · obtain ⟨w, rfl, rfl, hz⟩ := hq
    show wp _ _ 7 [(0, .ref (A 11 0 0)), (1, .int x1), (2, .ref (A 1984 0 0))] [.int w, .int 0, .ref (A 1984 0 0)] _ _ _
    refine w_i2l dL_trim_7 rfl ?_
    refine w_last dL_trim_8 rfl (hz.k960 rfl) (gin (hz.n960 rfl) (by decide)) ?_
    have hz := hz.s960 (p := 0) (s := 0) (i := 0) (v := w.toInt64) rfl
    refine w_goto 15 dL_trim_9 rfl ?_
    refine w_iconst 0 dL_trim_15 rfl rfl ?_
    exact w_iret hf dL_trim_16 rfl (Nat.le_of_ble_eq_true rfl) (Nat.le_of_ble_eq_true rfl) ⟨rfl, hz⟩
  · obtain ⟨rfl, hz⟩ := hq
    have hE9 := hE E9 rfl
    simp only [List.mem_cons, List.not_mem_nil, or_false] at hE9
    subst hE9
    refine w_catchL (pre := []) (suf := []) rfl (fun z hz9 => nomatch hz9) ⟨by decide, by decide⟩ (by decide) x_cl_L_19 x_ca92 (fun q hq => ?_)
    refine w_astore_n [(3, .ref q), (0, .ref (A 11 0 0)), (1, .int x1), (2, .ref (A 1984 0 0))] dL_trim_12 rfl rfl (by decide) rfl ?_
    refine w_iconst 1 dL_trim_13 rfl rfl ?_
    exact w_iret hf dL_trim_14 rfl (Nat.le_of_ble_eq_true rfl) (Nat.le_of_ble_eq_true rfl) ⟨rfl, hz⟩
theorem s_L_count {A : Nat → Nat → Nat → Nat} {h : Hp} {σ ρ σ' : Zs} {v : Except String Int32} {x1 : Int32} (hz : Rp A h σ ρ) (hr : fX11_count x1 σ = some (v, σ')) (hE : okE v ["java/lang/IndexOutOfBoundsException"]) : ∀ l : Launch, Sp l mL_count 7 1 6 [.ref (A 11 0 0), .int x1, .ref (A 1984 0 0)] h (QW A (codL ["java/lang/IndexOutOfBoundsException"] 1) (toJ v) σ' ρ) X0 := by
  intro l
  refine Sp.ofH (by decide) rfl rfl (lv := [(0, .ref (A 11 0 0)), (1, .int x1), (2, .ref (A 1984 0 0))]) (Nat.le_of_ble_eq_true rfl) rfl (fun x hf hrm => ?_)
  refine w_aload_n 2 dL_count_0 rfl rfl rfl ?_
  refine w_iconst 0 dL_count_1 rfl rfl ?_
  refine w_aload_n 0 dL_count_2 rfl rfl rfl ?_
  refine w_iload_n 1 dL_count_3 rfl rfl rfl ?_
  refine c_L_21 (b := A 11 0 0) (As := [.int x1]) (rest := [.int 0, .ref (A 1984 0 0)]) (fun l => s_X11_count hz hr l) hrm dL_count_4 rfl rfl (Nat.le_of_ble_eq_true rfl) (Nat.le_of_ble_eq_true rfl) (Nat.le_of_ble_eq_true rfl) (hz.o11 rfl) rfl (Nat.le_of_ble_eq_true rfl) (fun vr h2 hq => ?_) (fun E9 h9 hq => ?_)
  · obtain ⟨w, rfl, rfl, hz⟩ := hq
    show wp _ _ 7 [(0, .ref (A 11 0 0)), (1, .int x1), (2, .ref (A 1984 0 0))] [.int w, .int 0, .ref (A 1984 0 0)] _ _ _
    refine w_i2l dL_count_7 rfl ?_
    refine w_last dL_count_8 rfl (hz.k960 rfl) (gin (hz.n960 rfl) (by decide)) ?_
    have hz := hz.s960 (p := 0) (s := 0) (i := 0) (v := w.toInt64) rfl
    refine w_goto 15 dL_count_9 rfl ?_
    refine w_iconst 0 dL_count_15 rfl rfl ?_
    exact w_iret hf dL_count_16 rfl (Nat.le_of_ble_eq_true rfl) (Nat.le_of_ble_eq_true rfl) ⟨rfl, hz⟩
  · obtain ⟨rfl, hz⟩ := hq
    have hE9 := hE E9 rfl
    simp only [List.mem_cons, List.not_mem_nil, or_false] at hE9
    subst hE9
    refine w_catchL (pre := []) (suf := []) rfl (fun z hz9 => nomatch hz9) ⟨by decide, by decide⟩ (by decide) x_cl_L_24 x_ca138 (fun q hq => ?_)
    refine w_astore_n [(3, .ref q), (0, .ref (A 11 0 0)), (1, .int x1), (2, .ref (A 1984 0 0))] dL_count_12 rfl rfl (by decide) rfl ?_
    refine w_iconst 1 dL_count_13 rfl rfl ?_
    exact w_iret hf dL_count_14 rfl (Nat.le_of_ble_eq_true rfl) (Nat.le_of_ble_eq_true rfl) ⟨rfl, hz⟩
theorem s_L_stream {A : Nat → Nat → Nat → Nat} {h : Hp} {σ ρ σ' : Zs} {v : Except String Int32} {x1 : Int32} {x2 : Int32} (hz : Rp A h σ ρ) (hr : fX11_stream x1 x2 σ = some (v, σ')) (hE : okE v ["java/lang/IndexOutOfBoundsException"]) : ∀ l : Launch, Sp l mL_stream 8 2 12 [.ref (A 11 0 0), .int x1, .int x2, .ref (A 1984 0 0)] h (QW A (codL ["java/lang/IndexOutOfBoundsException"] 1) (toJ v) σ' ρ) X0 := by
  intro l
  refine Sp.ofH (by decide) rfl rfl (lv := [(0, .ref (A 11 0 0)), (1, .int x1), (2, .int x2), (3, .ref (A 1984 0 0))]) (Nat.le_of_ble_eq_true rfl) rfl (fun x hf hrm => ?_)
  refine w_aload_n 3 dL_stream_0 rfl rfl rfl ?_
  refine w_iconst 0 dL_stream_1 rfl rfl ?_
  refine w_aload_n 0 dL_stream_2 rfl rfl rfl ?_
  refine w_iload_n 1 dL_stream_3 rfl rfl rfl ?_
  refine w_iload_n 2 dL_stream_4 rfl rfl rfl ?_
  refine c_L_26 (b := A 11 0 0) (As := [.int x1, .int x2]) (rest := [.int 0, .ref (A 1984 0 0)]) (fun l => s_X11_stream hz hr l) hrm dL_stream_5 rfl rfl (Nat.le_of_ble_eq_true rfl) (Nat.le_of_ble_eq_true rfl) (Nat.le_of_ble_eq_true rfl) (hz.o11 rfl) rfl (Nat.le_of_ble_eq_true rfl) (fun vr h2 hq => ?_) (fun E9 h9 hq => ?_)
  · obtain ⟨w, rfl, rfl, hz⟩ := hq
    show wp _ _ 8 [(0, .ref (A 11 0 0)), (1, .int x1), (2, .int x2), (3, .ref (A 1984 0 0))] [.int w, .int 0, .ref (A 1984 0 0)] _ _ _
    refine w_i2l dL_stream_8 rfl ?_
    refine w_last dL_stream_9 rfl (hz.k960 rfl) (gin (hz.n960 rfl) (by decide)) ?_
    have hz := hz.s960 (p := 0) (s := 0) (i := 0) (v := w.toInt64) rfl
    refine w_goto 17 dL_stream_10 rfl ?_
    refine w_iconst 0 dL_stream_17 rfl rfl ?_
    exact w_iret hf dL_stream_18 rfl (Nat.le_of_ble_eq_true rfl) (Nat.le_of_ble_eq_true rfl) ⟨rfl, hz⟩
  · obtain ⟨rfl, hz⟩ := hq
    have hE9 := hE E9 rfl
    simp only [List.mem_cons, List.not_mem_nil, or_false] at hE9
    subst hE9
    refine w_catchL (pre := []) (suf := []) rfl (fun z hz9 => nomatch hz9) ⟨by decide, by decide⟩ (by decide) x_cl_L_24 x_ca138 (fun q hq => ?_)
    refine w_astore [(4, .ref q), (0, .ref (A 11 0 0)), (1, .int x1), (2, .int x2), (3, .ref (A 1984 0 0))] dL_stream_13 rfl (by decide) rfl ?_
    refine w_iconst 1 dL_stream_15 rfl rfl ?_
    exact w_iret hf dL_stream_16 rfl (Nat.le_of_ble_eq_true rfl) (Nat.le_of_ble_eq_true rfl) ⟨rfl, hz⟩
theorem s_L_value {A : Nat → Nat → Nat → Nat} {h : Hp} {σ ρ σ' : Zs} {v : Except String Int32} {x1 : Int64} (hz : Rp A h σ ρ) (hr : fX11_value x1 σ = some (v, σ')) (hE : okE v ["java/lang/IllegalStateException"]) : ∀ l : Launch, Sp l mL_value 7 1 6 [.ref (A 11 0 0), .long x1, .ref (A 1984 0 0)] h (QW A (codL ["java/lang/IllegalStateException"] 1) (toJ v) σ' ρ) X0 := by
  intro l
  refine Sp.ofH (by decide) rfl rfl (lv := [(0, .ref (A 11 0 0)), (1, .long x1), (3, .ref (A 1984 0 0))]) (Nat.le_of_ble_eq_true rfl) rfl (fun x hf hrm => ?_)
  refine w_aload_n 2 dL_value_0 rfl rfl rfl ?_
  refine w_iconst 0 dL_value_1 rfl rfl ?_
  refine w_aload_n 0 dL_value_2 rfl rfl rfl ?_
  refine w_lload_n 1 dL_value_3 rfl rfl rfl ?_
  refine c_L_30 (b := A 11 0 0) (As := [.long x1]) (rest := [.int 0, .ref (A 1984 0 0)]) (fun l => s_X11_value hz hr l) hrm dL_value_4 rfl rfl (Nat.le_of_ble_eq_true rfl) (Nat.le_of_ble_eq_true rfl) (Nat.le_of_ble_eq_true rfl) (hz.o11 rfl) rfl (Nat.le_of_ble_eq_true rfl) (fun vr h2 hq => ?_) (fun E9 h9 hq => ?_)
  · obtain ⟨w, rfl, rfl, hz⟩ := hq
    show wp _ _ 7 [(0, .ref (A 11 0 0)), (1, .long x1), (3, .ref (A 1984 0 0))] [.int w, .int 0, .ref (A 1984 0 0)] _ _ _
    refine w_i2l dL_value_7 rfl ?_
    refine w_last dL_value_8 rfl (hz.k960 rfl) (gin (hz.n960 rfl) (by decide)) ?_
    have hz := hz.s960 (p := 0) (s := 0) (i := 0) (v := w.toInt64) rfl
    refine w_goto 16 dL_value_9 rfl ?_
    refine w_iconst 0 dL_value_16 rfl rfl ?_
    exact w_iret hf dL_value_17 rfl (Nat.le_of_ble_eq_true rfl) (Nat.le_of_ble_eq_true rfl) ⟨rfl, hz⟩
  · obtain ⟨rfl, hz⟩ := hq
    have hE9 := hE E9 rfl
    simp only [List.mem_cons, List.not_mem_nil, or_false] at hE9
    subst hE9
    refine w_catchL (pre := []) (suf := []) rfl (fun z hz9 => nomatch hz9) ⟨by decide, by decide⟩ (by decide) x_cl_L_13 x_ca85 (fun q hq => ?_)
    refine w_astore [(4, .ref q), (0, .ref (A 11 0 0)), (1, .long x1), (3, .ref (A 1984 0 0))] dL_value_12 rfl (by decide) rfl ?_
    refine w_iconst 1 dL_value_14 rfl rfl ?_
    exact w_iret hf dL_value_15 rfl (Nat.le_of_ble_eq_true rfl) (Nat.le_of_ble_eq_true rfl) ⟨rfl, hz⟩
theorem s_L_push {A : Nat → Nat → Nat → Nat} {h : Hp} {σ ρ σ' : Zs} {v : Except String Int32} {x1 : Int32} {x2 : Int32} (hz : Rp A h σ ρ) (hr : fX11_push x1 x2 σ = some (v, σ')) (hE : okE v ["java/lang/IndexOutOfBoundsException", "java/lang/IllegalArgumentException", "java/lang/IllegalStateException"]) : ∀ l : Launch, Sp l mL_push 8 2 12 [.ref (A 11 0 0), .int x1, .int x2, .ref (A 1984 0 0)] h (QW A (codL ["java/lang/IndexOutOfBoundsException", "java/lang/IllegalArgumentException", "java/lang/IllegalStateException"] 1) (toJ v) σ' ρ) X0 := by
  intro l
  refine Sp.ofH (by decide) rfl rfl (lv := [(0, .ref (A 11 0 0)), (1, .int x1), (2, .int x2), (3, .ref (A 1984 0 0))]) (Nat.le_of_ble_eq_true rfl) rfl (fun x hf hrm => ?_)
  refine w_aload_n 3 dL_push_0 rfl rfl rfl ?_
  refine w_iconst 0 dL_push_1 rfl rfl ?_
  refine w_aload_n 0 dL_push_2 rfl rfl rfl ?_
  refine w_iload_n 1 dL_push_3 rfl rfl rfl ?_
  refine w_iload_n 2 dL_push_4 rfl rfl rfl ?_
  refine c_L_34 (b := A 11 0 0) (As := [.int x1, .int x2]) (rest := [.int 0, .ref (A 1984 0 0)]) (fun l => s_X11_push hz hr l) hrm dL_push_5 rfl rfl (Nat.le_of_ble_eq_true rfl) (Nat.le_of_ble_eq_true rfl) (Nat.le_of_ble_eq_true rfl) (hz.o11 rfl) rfl (Nat.le_of_ble_eq_true rfl) (fun vr h2 hq => ?_) (fun E9 h9 hq => ?_)
  · obtain ⟨w, rfl, rfl, hz⟩ := hq
    show wp _ _ 8 [(0, .ref (A 11 0 0)), (1, .int x1), (2, .int x2), (3, .ref (A 1984 0 0))] [.int w, .int 0, .ref (A 1984 0 0)] _ _ _
    refine w_i2l dL_push_8 rfl ?_
    refine w_last dL_push_9 rfl (hz.k960 rfl) (gin (hz.n960 rfl) (by decide)) ?_
    have hz := hz.s960 (p := 0) (s := 0) (i := 0) (v := w.toInt64) rfl
    refine w_goto 25 dL_push_10 rfl ?_
    refine w_iconst 0 dL_push_25 rfl rfl ?_
    exact w_iret hf dL_push_26 rfl (Nat.le_of_ble_eq_true rfl) (Nat.le_of_ble_eq_true rfl) ⟨rfl, hz⟩
  · obtain ⟨rfl, hz⟩ := hq
    have hE9 := hE E9 rfl
    simp only [List.mem_cons, List.not_mem_nil, or_false] at hE9
    rcases hE9 with rfl | rfl | rfl
    · refine w_catchL (pre := []) (suf := [(0, 10, 17, 19), (0, 10, 21, 13)]) rfl (fun z hz9 => nomatch hz9) ⟨by decide, by decide⟩ (by decide) x_cl_L_24 x_ca138 (fun q hq => ?_)
      refine w_astore [(4, .ref q), (0, .ref (A 11 0 0)), (1, .int x1), (2, .int x2), (3, .ref (A 1984 0 0))] dL_push_13 rfl (by decide) rfl ?_
      refine w_iconst 1 dL_push_15 rfl rfl ?_
      exact w_iret hf dL_push_16 rfl (Nat.le_of_ble_eq_true rfl) (Nat.le_of_ble_eq_true rfl) ⟨rfl, hz⟩
    · refine w_catchL (pre := [(0, 10, 13, 24)]) (suf := [(0, 10, 21, 13)]) rfl (fun z hz9 => by rcases List.mem_singleton.mp hz9 with rfl; exact ⟨by decide, "java/lang/IndexOutOfBoundsException", x_cl_L_24, fun U n => n.2.2⟩) ⟨by decide, by decide⟩ (by decide) x_cl_L_19 x_ca92 (fun q hq => ?_)
      refine w_astore [(4, .ref q), (0, .ref (A 11 0 0)), (1, .int x1), (2, .int x2), (3, .ref (A 1984 0 0))] dL_push_17 rfl (by decide) rfl ?_
      refine w_iconst 2 dL_push_19 rfl rfl ?_
      exact w_iret hf dL_push_20 rfl (Nat.le_of_ble_eq_true rfl) (Nat.le_of_ble_eq_true rfl) ⟨rfl, hz⟩
    · refine w_catchL (pre := [(0, 10, 13, 24), (0, 10, 17, 19)]) (suf := []) rfl (fun z hz9 => by
        rcases List.mem_cons.mp hz9 with rfl | hz9
        · exact ⟨by decide, "java/lang/IndexOutOfBoundsException", x_cl_L_24, fun U n => n.1⟩
        · rcases List.mem_singleton.mp hz9 with rfl
          exact ⟨by decide, "java/lang/IllegalArgumentException", x_cl_L_19, fun U n => n.2.1⟩) ⟨by decide, by decide⟩ (by decide) x_cl_L_13 x_ca85 (fun q hq => ?_)
      refine w_astore [(4, .ref q), (0, .ref (A 11 0 0)), (1, .int x1), (2, .int x2), (3, .ref (A 1984 0 0))] dL_push_21 rfl (by decide) rfl ?_
      refine w_iconst 3 dL_push_23 rfl rfl ?_
      exact w_iret hf dL_push_24 rfl (Nat.le_of_ble_eq_true rfl) (Nat.le_of_ble_eq_true rfl) ⟨rfl, hz⟩
theorem s_L_rows {A : Nat → Nat → Nat → Nat} {h : Hp} {σ ρ σ' : Zs} {v : Except String Int32} {x1 : Int32} (hz : Rp A h σ ρ) (hr : fX11_rows x1 σ = some (v, σ')) (hE : okE v ["java/lang/IndexOutOfBoundsException"]) : ∀ l : Launch, Sp l mL_rows 8 1 6 [.ref (A 11 0 0), .int x1, .ref (A 1984 0 0)] h (QW A (codL ["java/lang/IndexOutOfBoundsException"] 1) (toJ v) σ' ρ) X0 := by
  intro l
  refine Sp.ofH (by decide) rfl rfl (lv := [(0, .ref (A 11 0 0)), (1, .int x1), (2, .ref (A 1984 0 0))]) (Nat.le_of_ble_eq_true rfl) rfl (fun x hf hrm => ?_)
  refine w_aload_n 2 dL_rows_0 rfl rfl rfl ?_
  refine w_iconst 0 dL_rows_1 rfl rfl ?_
  refine w_aload_n 0 dL_rows_2 rfl rfl rfl ?_
  refine w_iload_n 1 dL_rows_3 rfl rfl rfl ?_
  refine c_L_37 (b := A 11 0 0) (As := [.int x1]) (rest := [.int 0, .ref (A 1984 0 0)]) (fun l => s_X11_rows hz hr l) hrm dL_rows_4 rfl rfl (Nat.le_of_ble_eq_true rfl) (Nat.le_of_ble_eq_true rfl) (Nat.le_of_ble_eq_true rfl) (hz.o11 rfl) rfl (Nat.le_of_ble_eq_true rfl) (fun vr h2 hq => ?_) (fun E9 h9 hq => ?_)
  · obtain ⟨w, rfl, rfl, hz⟩ := hq
    show wp _ _ 7 [(0, .ref (A 11 0 0)), (1, .int x1), (2, .ref (A 1984 0 0))] [.int w, .int 0, .ref (A 1984 0 0)] _ _ _
    refine w_i2l dL_rows_7 rfl ?_
    refine w_last dL_rows_8 rfl (hz.k960 rfl) (gin (hz.n960 rfl) (by decide)) ?_
    have hz := hz.s960 (p := 0) (s := 0) (i := 0) (v := w.toInt64) rfl
    refine w_goto 15 dL_rows_9 rfl ?_
    refine w_iconst 0 dL_rows_15 rfl rfl ?_
    exact w_iret hf dL_rows_16 rfl (Nat.le_of_ble_eq_true rfl) (Nat.le_of_ble_eq_true rfl) ⟨rfl, hz⟩
  · obtain ⟨rfl, hz⟩ := hq
    have hE9 := hE E9 rfl
    simp only [List.mem_cons, List.not_mem_nil, or_false] at hE9
    subst hE9
    refine w_catchL (pre := []) (suf := []) rfl (fun z hz9 => nomatch hz9) ⟨by decide, by decide⟩ (by decide) x_cl_L_24 x_ca138 (fun q hq => ?_)
    refine w_astore_n [(3, .ref q), (0, .ref (A 11 0 0)), (1, .int x1), (2, .ref (A 1984 0 0))] dL_rows_12 rfl rfl (by decide) rfl ?_
    refine w_iconst 1 dL_rows_13 rfl rfl ?_
    exact w_iret hf dL_rows_14 rfl (Nat.le_of_ble_eq_true rfl) (Nat.le_of_ble_eq_true rfl) ⟨rfl, hz⟩
theorem s_L_cell {A : Nat → Nat → Nat → Nat} {h : Hp} {σ ρ σ' : Zs} {v : Except String Int64} {x1 : Int32} {x2 : Int32} {x3 : Int32} (hz : Rp A h σ ρ) (hr : fX11_cell x1 x2 x3 σ = some (v, σ')) (hE : okE v ["java/lang/IndexOutOfBoundsException"]) : ∀ l : Launch, Sp l mL_cell 8 2 12 [.ref (A 11 0 0), .int x1, .int x2, .int x3, .ref (A 1984 0 0)] h (QW A (codL ["java/lang/IndexOutOfBoundsException"] 1) v σ' ρ) X0 := by
  intro l
  refine Sp.ofH (by decide) rfl rfl (lv := [(0, .ref (A 11 0 0)), (1, .int x1), (2, .int x2), (3, .int x3), (4, .ref (A 1984 0 0))]) (Nat.le_of_ble_eq_true rfl) rfl (fun x hf hrm => ?_)
  refine w_aload 4 dL_cell_0 rfl rfl ?_
  refine w_iconst 0 dL_cell_2 rfl rfl ?_
  refine w_aload_n 0 dL_cell_3 rfl rfl rfl ?_
  refine w_iload_n 1 dL_cell_4 rfl rfl rfl ?_
  refine w_iload_n 2 dL_cell_5 rfl rfl rfl ?_
  refine w_iload_n 3 dL_cell_6 rfl rfl rfl ?_
  refine c_L_40 (b := A 11 0 0) (As := [.int x1, .int x2, .int x3]) (rest := [.int 0, .ref (A 1984 0 0)]) (fun l => s_X11_cell hz hr l) hrm dL_cell_7 rfl rfl (Nat.le_of_ble_eq_true rfl) (Nat.le_of_ble_eq_true rfl) (Nat.le_of_ble_eq_true rfl) (hz.o11 rfl) rfl (Nat.le_of_ble_eq_true rfl) (fun vr h2 hq => ?_) (fun E9 h9 hq => ?_)
  · obtain ⟨w, rfl, rfl, hz⟩ := hq
    show wp _ _ 10 [(0, .ref (A 11 0 0)), (1, .int x1), (2, .int x2), (3, .int x3), (4, .ref (A 1984 0 0))] [.long w, .int 0, .ref (A 1984 0 0)] _ _ _
    refine w_last dL_cell_10 rfl (hz.k960 rfl) (gin (hz.n960 rfl) (by decide)) ?_
    have hz := hz.s960 (p := 0) (s := 0) (i := 0) (v := w) rfl
    refine w_goto 18 dL_cell_11 rfl ?_
    refine w_iconst 0 dL_cell_18 rfl rfl ?_
    exact w_iret hf dL_cell_19 rfl (Nat.le_of_ble_eq_true rfl) (Nat.le_of_ble_eq_true rfl) ⟨rfl, hz⟩
  · obtain ⟨rfl, hz⟩ := hq
    have hE9 := hE E9 rfl
    simp only [List.mem_cons, List.not_mem_nil, or_false] at hE9
    subst hE9
    refine w_catchL (pre := []) (suf := []) rfl (fun z hz9 => nomatch hz9) ⟨by decide, by decide⟩ (by decide) x_cl_L_24 x_ca138 (fun q hq => ?_)
    refine w_astore [(5, .ref q), (0, .ref (A 11 0 0)), (1, .int x1), (2, .int x2), (3, .int x3), (4, .ref (A 1984 0 0))] dL_cell_14 rfl (by decide) rfl ?_
    refine w_iconst 1 dL_cell_16 rfl rfl ?_
    exact w_iret hf dL_cell_17 rfl (Nat.le_of_ble_eq_true rfl) (Nat.le_of_ble_eq_true rfl) ⟨rfl, hz⟩
theorem s_L_watermark {A : Nat → Nat → Nat → Nat} {h : Hp} {σ ρ σ' : Zs} {v : Except String Int32} {x1 : Int32} (hz : Rp A h σ ρ) (hr : fX11_watermark x1 σ = some (v, σ')) (hE : okE v ["java/lang/IndexOutOfBoundsException"]) : ∀ l : Launch, Sp l mL_watermark 8 1 6 [.ref (A 11 0 0), .int x1, .ref (A 1984 0 0)] h (QW A (codL ["java/lang/IndexOutOfBoundsException"] 1) (toJ v) σ' ρ) X0 := by
  intro l
  refine Sp.ofH (by decide) rfl rfl (lv := [(0, .ref (A 11 0 0)), (1, .int x1), (2, .ref (A 1984 0 0))]) (Nat.le_of_ble_eq_true rfl) rfl (fun x hf hrm => ?_)
  refine w_aload_n 2 dL_watermark_0 rfl rfl rfl ?_
  refine w_iconst 0 dL_watermark_1 rfl rfl ?_
  refine w_aload_n 0 dL_watermark_2 rfl rfl rfl ?_
  refine w_iload_n 1 dL_watermark_3 rfl rfl rfl ?_
  refine c_L_44 (b := A 11 0 0) (As := [.int x1]) (rest := [.int 0, .ref (A 1984 0 0)]) (fun l => s_X11_watermark hz hr l) hrm dL_watermark_4 rfl rfl (Nat.le_of_ble_eq_true rfl) (Nat.le_of_ble_eq_true rfl) (Nat.le_of_ble_eq_true rfl) (hz.o11 rfl) rfl (Nat.le_of_ble_eq_true rfl) (fun vr h2 hq => ?_) (fun E9 h9 hq => ?_)
  · obtain ⟨w, rfl, rfl, hz⟩ := hq
    show wp _ _ 7 [(0, .ref (A 11 0 0)), (1, .int x1), (2, .ref (A 1984 0 0))] [.int w, .int 0, .ref (A 1984 0 0)] _ _ _
    refine w_i2l dL_watermark_7 rfl ?_
    refine w_last dL_watermark_8 rfl (hz.k960 rfl) (gin (hz.n960 rfl) (by decide)) ?_
    have hz := hz.s960 (p := 0) (s := 0) (i := 0) (v := w.toInt64) rfl
    refine w_goto 15 dL_watermark_9 rfl ?_
    refine w_iconst 0 dL_watermark_15 rfl rfl ?_
    exact w_iret hf dL_watermark_16 rfl (Nat.le_of_ble_eq_true rfl) (Nat.le_of_ble_eq_true rfl) ⟨rfl, hz⟩
  · obtain ⟨rfl, hz⟩ := hq
    have hE9 := hE E9 rfl
    simp only [List.mem_cons, List.not_mem_nil, or_false] at hE9
    subst hE9
    refine w_catchL (pre := []) (suf := []) rfl (fun z hz9 => nomatch hz9) ⟨by decide, by decide⟩ (by decide) x_cl_L_24 x_ca138 (fun q hq => ?_)
    refine w_astore_n [(3, .ref q), (0, .ref (A 11 0 0)), (1, .int x1), (2, .ref (A 1984 0 0))] dL_watermark_12 rfl rfl (by decide) rfl ?_
    refine w_iconst 1 dL_watermark_13 rfl rfl ?_
    exact w_iret hf dL_watermark_14 rfl (Nat.le_of_ble_eq_true rfl) (Nat.le_of_ble_eq_true rfl) ⟨rfl, hz⟩
theorem s_L_windows {A : Nat → Nat → Nat → Nat} {h : Hp} {σ ρ σ' : Zs} {v : Except String Int32} {x1 : Int32} {x2 : Int32} (hz : Rp A h σ ρ) (hr : fX11_windows x1 x2 σ = some (v, σ')) (hE : okE v ["java/lang/IndexOutOfBoundsException"]) : ∀ l : Launch, Sp l mL_windows 8 1 6 [.ref (A 11 0 0), .int x1, .int x2, .ref (A 1984 0 0)] h (QW A (codL ["java/lang/IndexOutOfBoundsException"] 1) (toJ v) σ' ρ) X0 := by
  intro l
  refine Sp.ofH (by decide) rfl rfl (lv := [(0, .ref (A 11 0 0)), (1, .int x1), (2, .int x2), (3, .ref (A 1984 0 0))]) (Nat.le_of_ble_eq_true rfl) rfl (fun x hf hrm => ?_)
  refine w_aload_n 3 dL_windows_0 rfl rfl rfl ?_
  refine w_iconst 0 dL_windows_1 rfl rfl ?_
  refine w_aload_n 0 dL_windows_2 rfl rfl rfl ?_
  refine w_iload_n 1 dL_windows_3 rfl rfl rfl ?_
  refine w_iload_n 2 dL_windows_4 rfl rfl rfl ?_
  refine c_L_47 (b := A 11 0 0) (As := [.int x1, .int x2]) (rest := [.int 0, .ref (A 1984 0 0)]) (fun l => s_X11_windows hz hr l) hrm dL_windows_5 rfl rfl (Nat.le_of_ble_eq_true rfl) (Nat.le_of_ble_eq_true rfl) (Nat.le_of_ble_eq_true rfl) (hz.o11 rfl) rfl (Nat.le_of_ble_eq_true rfl) (fun vr h2 hq => ?_) (fun E9 h9 hq => ?_)
  · obtain ⟨w, rfl, rfl, hz⟩ := hq
    show wp _ _ 8 [(0, .ref (A 11 0 0)), (1, .int x1), (2, .int x2), (3, .ref (A 1984 0 0))] [.int w, .int 0, .ref (A 1984 0 0)] _ _ _
    refine w_i2l dL_windows_8 rfl ?_
    refine w_last dL_windows_9 rfl (hz.k960 rfl) (gin (hz.n960 rfl) (by decide)) ?_
    have hz := hz.s960 (p := 0) (s := 0) (i := 0) (v := w.toInt64) rfl
    refine w_goto 17 dL_windows_10 rfl ?_
    refine w_iconst 0 dL_windows_17 rfl rfl ?_
    exact w_iret hf dL_windows_18 rfl (Nat.le_of_ble_eq_true rfl) (Nat.le_of_ble_eq_true rfl) ⟨rfl, hz⟩
  · obtain ⟨rfl, hz⟩ := hq
    have hE9 := hE E9 rfl
    simp only [List.mem_cons, List.not_mem_nil, or_false] at hE9
    subst hE9
    refine w_catchL (pre := []) (suf := []) rfl (fun z hz9 => nomatch hz9) ⟨by decide, by decide⟩ (by decide) x_cl_L_24 x_ca138 (fun q hq => ?_)
    refine w_astore [(4, .ref q), (0, .ref (A 11 0 0)), (1, .int x1), (2, .int x2), (3, .ref (A 1984 0 0))] dL_windows_13 rfl (by decide) rfl ?_
    refine w_iconst 1 dL_windows_15 rfl rfl ?_
    exact w_iret hf dL_windows_16 rfl (Nat.le_of_ble_eq_true rfl) (Nat.le_of_ble_eq_true rfl) ⟨rfl, hz⟩
theorem s_L_held {A : Nat → Nat → Nat → Nat} {h : Hp} {σ ρ σ' : Zs} {v : Except String Int32} {x1 : Int32} {x2 : Int32} (hz : Rp A h σ ρ) (hr : fX11_held x1 x2 σ = some (v, σ')) (hE : okE v ["java/lang/IndexOutOfBoundsException"]) : ∀ l : Launch, Sp l mL_held 9 2 12 [.ref (A 11 0 0), .int x1, .int x2, .ref (A 1984 0 0)] h (QW A (codL ["java/lang/IndexOutOfBoundsException"] 1) (toJ v) σ' ρ) X0 := by
  intro l
  refine Sp.ofH (by decide) rfl rfl (lv := [(0, .ref (A 11 0 0)), (1, .int x1), (2, .int x2), (3, .ref (A 1984 0 0))]) (Nat.le_of_ble_eq_true rfl) rfl (fun x hf hrm => ?_)
  refine w_aload_n 3 dL_held_0 rfl rfl rfl ?_
  refine w_iconst 0 dL_held_1 rfl rfl ?_
  refine w_aload_n 0 dL_held_2 rfl rfl rfl ?_
  refine w_iload_n 1 dL_held_3 rfl rfl rfl ?_
  refine w_iload_n 2 dL_held_4 rfl rfl rfl ?_
  refine c_L_51 (b := A 11 0 0) (As := [.int x1, .int x2]) (rest := [.int 0, .ref (A 1984 0 0)]) (fun l => s_X11_held hz hr l) hrm dL_held_5 rfl rfl (Nat.le_of_ble_eq_true rfl) (Nat.le_of_ble_eq_true rfl) (Nat.le_of_ble_eq_true rfl) (hz.o11 rfl) rfl (Nat.le_of_ble_eq_true rfl) (fun vr h2 hq => ?_) (fun E9 h9 hq => ?_)
  · obtain ⟨w, rfl, rfl, hz⟩ := hq
    show wp _ _ 8 [(0, .ref (A 11 0 0)), (1, .int x1), (2, .int x2), (3, .ref (A 1984 0 0))] [.int w, .int 0, .ref (A 1984 0 0)] _ _ _
    refine w_i2l dL_held_8 rfl ?_
    refine w_last dL_held_9 rfl (hz.k960 rfl) (gin (hz.n960 rfl) (by decide)) ?_
    have hz := hz.s960 (p := 0) (s := 0) (i := 0) (v := w.toInt64) rfl
    refine w_goto 17 dL_held_10 rfl ?_
    refine w_iconst 0 dL_held_17 rfl rfl ?_
    exact w_iret hf dL_held_18 rfl (Nat.le_of_ble_eq_true rfl) (Nat.le_of_ble_eq_true rfl) ⟨rfl, hz⟩
  · obtain ⟨rfl, hz⟩ := hq
    have hE9 := hE E9 rfl
    simp only [List.mem_cons, List.not_mem_nil, or_false] at hE9
    subst hE9
    refine w_catchL (pre := []) (suf := []) rfl (fun z hz9 => nomatch hz9) ⟨by decide, by decide⟩ (by decide) x_cl_L_24 x_ca138 (fun q hq => ?_)
    refine w_astore [(4, .ref q), (0, .ref (A 11 0 0)), (1, .int x1), (2, .int x2), (3, .ref (A 1984 0 0))] dL_held_13 rfl (by decide) rfl ?_
    refine w_iconst 1 dL_held_15 rfl rfl ?_
    exact w_iret hf dL_held_16 rfl (Nat.le_of_ble_eq_true rfl) (Nat.le_of_ble_eq_true rfl) ⟨rfl, hz⟩
theorem s_L_heldValue {A : Nat → Nat → Nat → Nat} {h : Hp} {σ ρ σ' : Zs} {v : Except String Int64} {x1 : Int32} {x2 : Int32} (hz : Rp A h σ ρ) (hr : fX11_heldValue x1 x2 σ = some (v, σ')) (hE : okE v ["java/lang/IndexOutOfBoundsException"]) : ∀ l : Launch, Sp l mL_heldValue 9 2 12 [.ref (A 11 0 0), .int x1, .int x2, .ref (A 1984 0 0)] h (QW A (codL ["java/lang/IndexOutOfBoundsException"] 1) v σ' ρ) X0 := by
  intro l
  refine Sp.ofH (by decide) rfl rfl (lv := [(0, .ref (A 11 0 0)), (1, .int x1), (2, .int x2), (3, .ref (A 1984 0 0))]) (Nat.le_of_ble_eq_true rfl) rfl (fun x hf hrm => ?_)
  refine w_aload_n 3 dL_heldValue_0 rfl rfl rfl ?_
  refine w_iconst 0 dL_heldValue_1 rfl rfl ?_
  refine w_aload_n 0 dL_heldValue_2 rfl rfl rfl ?_
  refine w_iload_n 1 dL_heldValue_3 rfl rfl rfl ?_
  refine w_iload_n 2 dL_heldValue_4 rfl rfl rfl ?_
  refine c_L_54 (b := A 11 0 0) (As := [.int x1, .int x2]) (rest := [.int 0, .ref (A 1984 0 0)]) (fun l => s_X11_heldValue hz hr l) hrm dL_heldValue_5 rfl rfl (Nat.le_of_ble_eq_true rfl) (Nat.le_of_ble_eq_true rfl) (Nat.le_of_ble_eq_true rfl) (hz.o11 rfl) rfl (Nat.le_of_ble_eq_true rfl) (fun vr h2 hq => ?_) (fun E9 h9 hq => ?_)
  · obtain ⟨w, rfl, rfl, hz⟩ := hq
    show wp _ _ 8 [(0, .ref (A 11 0 0)), (1, .int x1), (2, .int x2), (3, .ref (A 1984 0 0))] [.long w, .int 0, .ref (A 1984 0 0)] _ _ _
    refine w_last dL_heldValue_8 rfl (hz.k960 rfl) (gin (hz.n960 rfl) (by decide)) ?_
    have hz := hz.s960 (p := 0) (s := 0) (i := 0) (v := w) rfl
    refine w_goto 16 dL_heldValue_9 rfl ?_
    refine w_iconst 0 dL_heldValue_16 rfl rfl ?_
    exact w_iret hf dL_heldValue_17 rfl (Nat.le_of_ble_eq_true rfl) (Nat.le_of_ble_eq_true rfl) ⟨rfl, hz⟩
  · obtain ⟨rfl, hz⟩ := hq
    have hE9 := hE E9 rfl
    simp only [List.mem_cons, List.not_mem_nil, or_false] at hE9
    subst hE9
    refine w_catchL (pre := []) (suf := []) rfl (fun z hz9 => nomatch hz9) ⟨by decide, by decide⟩ (by decide) x_cl_L_24 x_ca138 (fun q hq => ?_)
    refine w_astore [(4, .ref q), (0, .ref (A 11 0 0)), (1, .int x1), (2, .int x2), (3, .ref (A 1984 0 0))] dL_heldValue_12 rfl (by decide) rfl ?_
    refine w_iconst 1 dL_heldValue_14 rfl rfl ?_
    exact w_iret hf dL_heldValue_15 rfl (Nat.le_of_ble_eq_true rfl) (Nat.le_of_ble_eq_true rfl) ⟨rfl, hz⟩
theorem s_L_release {A : Nat → Nat → Nat → Nat} {h : Hp} {σ ρ σ' : Zs} {v : Except String Int32} {x1 : Int32} (hz : Rp A h σ ρ) (hr : fX11_release x1 σ = some (v, σ')) (hE : okE v ["java/lang/IndexOutOfBoundsException", "java/lang/IllegalStateException"]) : ∀ l : Launch, Sp l mL_release 8 2 12 [.ref (A 11 0 0), .int x1, .ref (A 1984 0 0)] h (QW A (codL ["java/lang/IndexOutOfBoundsException", "java/lang/IllegalStateException"] 1) (toJ v) σ' ρ) X0 := by
  intro l
  refine Sp.ofH (by decide) rfl rfl (lv := [(0, .ref (A 11 0 0)), (1, .int x1), (2, .ref (A 1984 0 0))]) (Nat.le_of_ble_eq_true rfl) rfl (fun x hf hrm => ?_)
  refine w_aload_n 2 dL_release_0 rfl rfl rfl ?_
  refine w_iconst 0 dL_release_1 rfl rfl ?_
  refine w_aload_n 0 dL_release_2 rfl rfl rfl ?_
  refine w_iload_n 1 dL_release_3 rfl rfl rfl ?_
  refine c_L_58 (b := A 11 0 0) (As := [.int x1]) (rest := [.int 0, .ref (A 1984 0 0)]) (fun l => s_X11_release hz hr l) hrm dL_release_4 rfl rfl (Nat.le_of_ble_eq_true rfl) (Nat.le_of_ble_eq_true rfl) (Nat.le_of_ble_eq_true rfl) (hz.o11 rfl) rfl (Nat.le_of_ble_eq_true rfl) (fun vr h2 hq => ?_) (fun E9 h9 hq => ?_)
  · obtain ⟨w, rfl, rfl, hz⟩ := hq
    show wp _ _ 7 [(0, .ref (A 11 0 0)), (1, .int x1), (2, .ref (A 1984 0 0))] [.int w, .int 0, .ref (A 1984 0 0)] _ _ _
    refine w_i2l dL_release_7 rfl ?_
    refine w_last dL_release_8 rfl (hz.k960 rfl) (gin (hz.n960 rfl) (by decide)) ?_
    have hz := hz.s960 (p := 0) (s := 0) (i := 0) (v := w.toInt64) rfl
    refine w_goto 18 dL_release_9 rfl ?_
    refine w_iconst 0 dL_release_18 rfl rfl ?_
    exact w_iret hf dL_release_19 rfl (Nat.le_of_ble_eq_true rfl) (Nat.le_of_ble_eq_true rfl) ⟨rfl, hz⟩
  · obtain ⟨rfl, hz⟩ := hq
    have hE9 := hE E9 rfl
    simp only [List.mem_cons, List.not_mem_nil, or_false] at hE9
    rcases hE9 with rfl | rfl
    · refine w_catchL (pre := []) (suf := [(0, 9, 15, 13)]) rfl (fun z hz9 => nomatch hz9) ⟨by decide, by decide⟩ (by decide) x_cl_L_24 x_ca138 (fun q hq => ?_)
      refine w_astore_n [(3, .ref q), (0, .ref (A 11 0 0)), (1, .int x1), (2, .ref (A 1984 0 0))] dL_release_12 rfl rfl (by decide) rfl ?_
      refine w_iconst 1 dL_release_13 rfl rfl ?_
      exact w_iret hf dL_release_14 rfl (Nat.le_of_ble_eq_true rfl) (Nat.le_of_ble_eq_true rfl) ⟨rfl, hz⟩
    · refine w_catchL (pre := [(0, 9, 12, 24)]) (suf := []) rfl (fun z hz9 => by rcases List.mem_singleton.mp hz9 with rfl; exact ⟨by decide, "java/lang/IndexOutOfBoundsException", x_cl_L_24, fun U n => n.1⟩) ⟨by decide, by decide⟩ (by decide) x_cl_L_13 x_ca85 (fun q hq => ?_)
      refine w_astore_n [(3, .ref q), (0, .ref (A 11 0 0)), (1, .int x1), (2, .ref (A 1984 0 0))] dL_release_15 rfl rfl (by decide) rfl ?_
      refine w_iconst 2 dL_release_16 rfl rfl ?_
      exact w_iret hf dL_release_17 rfl (Nat.le_of_ble_eq_true rfl) (Nat.le_of_ble_eq_true rfl) ⟨rfl, hz⟩
theorem s_L_discard {A : Nat → Nat → Nat → Nat} {h : Hp} {σ ρ σ' : Zs} {v : Except String Int32} {x1 : Int32} (hz : Rp A h σ ρ) (hr : fX11_discard x1 σ = some (v, σ')) (hE : okE v ["java/lang/IndexOutOfBoundsException", "java/lang/IllegalStateException"]) : ∀ l : Launch, Sp l mL_discard 9 2 12 [.ref (A 11 0 0), .int x1, .ref (A 1984 0 0)] h (QW A (codL ["java/lang/IndexOutOfBoundsException", "java/lang/IllegalStateException"] 1) (toJ v) σ' ρ) X0 := by
  intro l
  refine Sp.ofH (by decide) rfl rfl (lv := [(0, .ref (A 11 0 0)), (1, .int x1), (2, .ref (A 1984 0 0))]) (Nat.le_of_ble_eq_true rfl) rfl (fun x hf hrm => ?_)
  refine w_aload_n 2 dL_discard_0 rfl rfl rfl ?_
  refine w_iconst 0 dL_discard_1 rfl rfl ?_
  refine w_aload_n 0 dL_discard_2 rfl rfl rfl ?_
  refine w_iload_n 1 dL_discard_3 rfl rfl rfl ?_
  refine c_L_61 (b := A 11 0 0) (As := [.int x1]) (rest := [.int 0, .ref (A 1984 0 0)]) (fun l => s_X11_discard hz hr l) hrm dL_discard_4 rfl rfl (Nat.le_of_ble_eq_true rfl) (Nat.le_of_ble_eq_true rfl) (Nat.le_of_ble_eq_true rfl) (hz.o11 rfl) rfl (Nat.le_of_ble_eq_true rfl) (fun vr h2 hq => ?_) (fun E9 h9 hq => ?_)
  · obtain ⟨w, rfl, rfl, hz⟩ := hq
    show wp _ _ 7 [(0, .ref (A 11 0 0)), (1, .int x1), (2, .ref (A 1984 0 0))] [.int w, .int 0, .ref (A 1984 0 0)] _ _ _
    refine w_i2l dL_discard_7 rfl ?_
    refine w_last dL_discard_8 rfl (hz.k960 rfl) (gin (hz.n960 rfl) (by decide)) ?_
    have hz := hz.s960 (p := 0) (s := 0) (i := 0) (v := w.toInt64) rfl
    refine w_goto 18 dL_discard_9 rfl ?_
    refine w_iconst 0 dL_discard_18 rfl rfl ?_
    exact w_iret hf dL_discard_19 rfl (Nat.le_of_ble_eq_true rfl) (Nat.le_of_ble_eq_true rfl) ⟨rfl, hz⟩
  · obtain ⟨rfl, hz⟩ := hq
    have hE9 := hE E9 rfl
    simp only [List.mem_cons, List.not_mem_nil, or_false] at hE9
    rcases hE9 with rfl | rfl
    · refine w_catchL (pre := []) (suf := [(0, 9, 15, 13)]) rfl (fun z hz9 => nomatch hz9) ⟨by decide, by decide⟩ (by decide) x_cl_L_24 x_ca138 (fun q hq => ?_)
      refine w_astore_n [(3, .ref q), (0, .ref (A 11 0 0)), (1, .int x1), (2, .ref (A 1984 0 0))] dL_discard_12 rfl rfl (by decide) rfl ?_
      refine w_iconst 1 dL_discard_13 rfl rfl ?_
      exact w_iret hf dL_discard_14 rfl (Nat.le_of_ble_eq_true rfl) (Nat.le_of_ble_eq_true rfl) ⟨rfl, hz⟩
    · refine w_catchL (pre := [(0, 9, 12, 24)]) (suf := []) rfl (fun z hz9 => by rcases List.mem_singleton.mp hz9 with rfl; exact ⟨by decide, "java/lang/IndexOutOfBoundsException", x_cl_L_24, fun U n => n.1⟩) ⟨by decide, by decide⟩ (by decide) x_cl_L_13 x_ca85 (fun q hq => ?_)
      refine w_astore_n [(3, .ref q), (0, .ref (A 11 0 0)), (1, .int x1), (2, .ref (A 1984 0 0))] dL_discard_15 rfl rfl (by decide) rfl ?_
      refine w_iconst 2 dL_discard_16 rfl rfl ?_
      exact w_iret hf dL_discard_17 rfl (Nat.le_of_ble_eq_true rfl) (Nat.le_of_ble_eq_true rfl) ⟨rfl, hz⟩
theorem s_L_broken {A : Nat → Nat → Nat → Nat} {h : Hp} {σ ρ σ' : Zs} {v : Except String Int32} {x1 : Int32} (hz : Rp A h σ ρ) (hr : fX11_broken x1 σ = some (v, σ')) (hE : okE v ["java/lang/IndexOutOfBoundsException"]) : ∀ l : Launch, Sp l mL_broken 7 1 6 [.ref (A 11 0 0), .int x1, .ref (A 1984 0 0)] h (QW A (codL ["java/lang/IndexOutOfBoundsException"] 1) (toJ v) σ' ρ) X0 := by
  intro l
  refine Sp.ofH (by decide) rfl rfl (lv := [(0, .ref (A 11 0 0)), (1, .int x1), (2, .ref (A 1984 0 0))]) (Nat.le_of_ble_eq_true rfl) rfl (fun x hf hrm => ?_)
  refine w_aload_n 2 dL_broken_0 rfl rfl rfl ?_
  refine w_iconst 0 dL_broken_1 rfl rfl ?_
  refine w_aload_n 0 dL_broken_2 rfl rfl rfl ?_
  refine w_iload_n 1 dL_broken_3 rfl rfl rfl ?_
  refine c_L_64 (b := A 11 0 0) (As := [.int x1]) (rest := [.int 0, .ref (A 1984 0 0)]) (fun l => s_X11_broken hz hr l) hrm dL_broken_4 rfl rfl (Nat.le_of_ble_eq_true rfl) (Nat.le_of_ble_eq_true rfl) (Nat.le_of_ble_eq_true rfl) (hz.o11 rfl) rfl (Nat.le_of_ble_eq_true rfl) (fun vr h2 hq => ?_) (fun E9 h9 hq => ?_)
  · obtain ⟨w, rfl, rfl, hz⟩ := hq
    show wp _ _ 7 [(0, .ref (A 11 0 0)), (1, .int x1), (2, .ref (A 1984 0 0))] [.int w, .int 0, .ref (A 1984 0 0)] _ _ _
    refine w_i2l dL_broken_7 rfl ?_
    refine w_last dL_broken_8 rfl (hz.k960 rfl) (gin (hz.n960 rfl) (by decide)) ?_
    have hz := hz.s960 (p := 0) (s := 0) (i := 0) (v := w.toInt64) rfl
    refine w_goto 15 dL_broken_9 rfl ?_
    refine w_iconst 0 dL_broken_15 rfl rfl ?_
    exact w_iret hf dL_broken_16 rfl (Nat.le_of_ble_eq_true rfl) (Nat.le_of_ble_eq_true rfl) ⟨rfl, hz⟩
  · obtain ⟨rfl, hz⟩ := hq
    have hE9 := hE E9 rfl
    simp only [List.mem_cons, List.not_mem_nil, or_false] at hE9
    subst hE9
    refine w_catchL (pre := []) (suf := []) rfl (fun z hz9 => nomatch hz9) ⟨by decide, by decide⟩ (by decide) x_cl_L_24 x_ca138 (fun q hq => ?_)
    refine w_astore_n [(3, .ref q), (0, .ref (A 11 0 0)), (1, .int x1), (2, .ref (A 1984 0 0))] dL_broken_12 rfl rfl (by decide) rfl ?_
    refine w_iconst 1 dL_broken_13 rfl rfl ?_
    exact w_iret hf dL_broken_14 rfl (Nat.le_of_ble_eq_true rfl) (Nat.le_of_ble_eq_true rfl) ⟨rfl, hz⟩
theorem s_L_go {A : Nat → Nat → Nat → Nat} {h : Hp} {σ ρ σ' : Zs} {v : Except String Int32}  (hz : Rp A h σ ρ) (hr : fX11_go  σ = some (v, σ')) (hE : okE v ["java/lang/IllegalStateException"]) : ∀ l : Launch, Sp l mL_go 8 1 6 [.ref (A 11 0 0), .ref (A 1984 0 0)] h (QW A (codL ["java/lang/IllegalStateException"] 1) (toJ v) σ' ρ) X0 := by
  intro l
  refine Sp.ofH (by decide) rfl rfl (lv := [(0, .ref (A 11 0 0)), (1, .ref (A 1984 0 0))]) (Nat.le_of_ble_eq_true rfl) rfl (fun x hf hrm => ?_)
  refine w_aload_n 1 dL_go_0 rfl rfl rfl ?_
  refine w_iconst 0 dL_go_1 rfl rfl ?_
  refine w_aload_n 0 dL_go_2 rfl rfl rfl ?_
  refine c_L_67 (b := A 11 0 0) (As := []) (rest := [.int 0, .ref (A 1984 0 0)]) (fun l => s_X11_go hz hr l) hrm dL_go_3 rfl rfl (Nat.le_of_ble_eq_true rfl) (Nat.le_of_ble_eq_true rfl) (Nat.le_of_ble_eq_true rfl) (hz.o11 rfl) rfl (Nat.le_of_ble_eq_true rfl) (fun vr h2 hq => ?_) (fun E9 h9 hq => ?_)
  · obtain ⟨w, rfl, rfl, hz⟩ := hq
    show wp _ _ 6 [(0, .ref (A 11 0 0)), (1, .ref (A 1984 0 0))] [.int w, .int 0, .ref (A 1984 0 0)] _ _ _
    refine w_i2l dL_go_6 rfl ?_
    refine w_last dL_go_7 rfl (hz.k960 rfl) (gin (hz.n960 rfl) (by decide)) ?_
    have hz := hz.s960 (p := 0) (s := 0) (i := 0) (v := w.toInt64) rfl
    refine w_goto 14 dL_go_8 rfl ?_
    refine w_iconst 0 dL_go_14 rfl rfl ?_
    exact w_iret hf dL_go_15 rfl (Nat.le_of_ble_eq_true rfl) (Nat.le_of_ble_eq_true rfl) ⟨rfl, hz⟩
  · obtain ⟨rfl, hz⟩ := hq
    have hE9 := hE E9 rfl
    simp only [List.mem_cons, List.not_mem_nil, or_false] at hE9
    subst hE9
    refine w_catchL (pre := []) (suf := []) rfl (fun z hz9 => nomatch hz9) ⟨by decide, by decide⟩ (by decide) x_cl_L_13 x_ca85 (fun q hq => ?_)
    refine w_astore_n [(2, .ref q), (0, .ref (A 11 0 0)), (1, .ref (A 1984 0 0))] dL_go_11 rfl rfl (by decide) rfl ?_
    refine w_iconst 1 dL_go_12 rfl rfl ?_
    exact w_iret hf dL_go_13 rfl (Nat.le_of_ble_eq_true rfl) (Nat.le_of_ble_eq_true rfl) ⟨rfl, hz⟩
theorem s_L_mark {A : Nat → Nat → Nat → Nat} {h : Hp} {σ ρ σ' : Zs} {v : Except String Int32}  (hz : Rp A h σ ρ) (hr : fX11_mark  σ = some (v, σ')) (hE : okE v ["java/lang/IllegalStateException"]) : ∀ l : Launch, Sp l mL_mark 7 1 6 [.ref (A 11 0 0), .ref (A 1984 0 0)] h (QW A (codL ["java/lang/IllegalStateException"] 1) (toJ v) σ' ρ) X0 := by
  intro l
  refine Sp.ofH (by decide) rfl rfl (lv := [(0, .ref (A 11 0 0)), (1, .ref (A 1984 0 0))]) (Nat.le_of_ble_eq_true rfl) rfl (fun x hf hrm => ?_)
  refine w_aload_n 1 dL_mark_0 rfl rfl rfl ?_
  refine w_iconst 0 dL_mark_1 rfl rfl ?_
  refine w_aload_n 0 dL_mark_2 rfl rfl rfl ?_
  refine c_L_71 (b := A 11 0 0) (As := []) (rest := [.int 0, .ref (A 1984 0 0)]) (fun l => s_X11_mark hz hr l) hrm dL_mark_3 rfl rfl (Nat.le_of_ble_eq_true rfl) (Nat.le_of_ble_eq_true rfl) (Nat.le_of_ble_eq_true rfl) (hz.o11 rfl) rfl (Nat.le_of_ble_eq_true rfl) (fun vr h2 hq => ?_) (fun E9 h9 hq => ?_)
  · obtain ⟨w, rfl, rfl, hz⟩ := hq
    show wp _ _ 6 [(0, .ref (A 11 0 0)), (1, .ref (A 1984 0 0))] [.int w, .int 0, .ref (A 1984 0 0)] _ _ _
    refine w_i2l dL_mark_6 rfl ?_
    refine w_last dL_mark_7 rfl (hz.k960 rfl) (gin (hz.n960 rfl) (by decide)) ?_
    have hz := hz.s960 (p := 0) (s := 0) (i := 0) (v := w.toInt64) rfl
    refine w_goto 14 dL_mark_8 rfl ?_
    refine w_iconst 0 dL_mark_14 rfl rfl ?_
    exact w_iret hf dL_mark_15 rfl (Nat.le_of_ble_eq_true rfl) (Nat.le_of_ble_eq_true rfl) ⟨rfl, hz⟩
  · obtain ⟨rfl, hz⟩ := hq
    have hE9 := hE E9 rfl
    simp only [List.mem_cons, List.not_mem_nil, or_false] at hE9
    subst hE9
    refine w_catchL (pre := []) (suf := []) rfl (fun z hz9 => nomatch hz9) ⟨by decide, by decide⟩ (by decide) x_cl_L_13 x_ca85 (fun q hq => ?_)
    refine w_astore_n [(2, .ref q), (0, .ref (A 11 0 0)), (1, .ref (A 1984 0 0))] dL_mark_11 rfl rfl (by decide) rfl ?_
    refine w_iconst 1 dL_mark_12 rfl rfl ?_
    exact w_iret hf dL_mark_13 rfl (Nat.le_of_ble_eq_true rfl) (Nat.le_of_ble_eq_true rfl) ⟨rfl, hz⟩
theorem s_L_back {A : Nat → Nat → Nat → Nat} {h : Hp} {σ ρ σ' : Zs} {v : Except String Int32} {x1 : Int32} (hz : Rp A h σ ρ) (hr : fX11_back x1 σ = some (v, σ')) (hE : okE v ["java/lang/IndexOutOfBoundsException"]) : ∀ l : Launch, Sp l mL_back 8 1 6 [.ref (A 11 0 0), .int x1, .ref (A 1984 0 0)] h (QW A (codL ["java/lang/IndexOutOfBoundsException"] 1) (toJ v) σ' ρ) X0 := by
  intro l
  refine Sp.ofH (by decide) rfl rfl (lv := [(0, .ref (A 11 0 0)), (1, .int x1), (2, .ref (A 1984 0 0))]) (Nat.le_of_ble_eq_true rfl) rfl (fun x hf hrm => ?_)
  refine w_aload_n 2 dL_back_0 rfl rfl rfl ?_
  refine w_iconst 0 dL_back_1 rfl rfl ?_
  refine w_aload_n 0 dL_back_2 rfl rfl rfl ?_
  refine w_iload_n 1 dL_back_3 rfl rfl rfl ?_
  refine c_L_74 (b := A 11 0 0) (As := [.int x1]) (rest := [.int 0, .ref (A 1984 0 0)]) (fun l => s_X11_back hz hr l) hrm dL_back_4 rfl rfl (Nat.le_of_ble_eq_true rfl) (Nat.le_of_ble_eq_true rfl) (Nat.le_of_ble_eq_true rfl) (hz.o11 rfl) rfl (Nat.le_of_ble_eq_true rfl) (fun vr h2 hq => ?_) (fun E9 h9 hq => ?_)
  · obtain ⟨w, rfl, rfl, hz⟩ := hq
    show wp _ _ 7 [(0, .ref (A 11 0 0)), (1, .int x1), (2, .ref (A 1984 0 0))] [.int w, .int 0, .ref (A 1984 0 0)] _ _ _
    refine w_i2l dL_back_7 rfl ?_
    refine w_last dL_back_8 rfl (hz.k960 rfl) (gin (hz.n960 rfl) (by decide)) ?_
    have hz := hz.s960 (p := 0) (s := 0) (i := 0) (v := w.toInt64) rfl
    refine w_goto 15 dL_back_9 rfl ?_
    refine w_iconst 0 dL_back_15 rfl rfl ?_
    exact w_iret hf dL_back_16 rfl (Nat.le_of_ble_eq_true rfl) (Nat.le_of_ble_eq_true rfl) ⟨rfl, hz⟩
  · obtain ⟨rfl, hz⟩ := hq
    have hE9 := hE E9 rfl
    simp only [List.mem_cons, List.not_mem_nil, or_false] at hE9
    subst hE9
    refine w_catchL (pre := []) (suf := []) rfl (fun z hz9 => nomatch hz9) ⟨by decide, by decide⟩ (by decide) x_cl_L_24 x_ca138 (fun q hq => ?_)
    refine w_astore_n [(3, .ref q), (0, .ref (A 11 0 0)), (1, .int x1), (2, .ref (A 1984 0 0))] dL_back_12 rfl rfl (by decide) rfl ?_
    refine w_iconst 1 dL_back_13 rfl rfl ?_
    exact w_iret hf dL_back_14 rfl (Nat.le_of_ble_eq_true rfl) (Nat.le_of_ble_eq_true rfl) ⟨rfl, hz⟩
theorem s_L_replay {A : Nat → Nat → Nat → Nat} {h : Hp} {σ ρ σ' : Zs} {v : Except String Int32}  (hz : Rp A h σ ρ) (hr : fX11_replay  σ = some (v, σ')) (hE : okE v ["java/lang/IllegalStateException"]) : ∀ l : Launch, Sp l mL_replay 8 1 6 [.ref (A 11 0 0), .ref (A 1984 0 0)] h (QW A (codL ["java/lang/IllegalStateException"] 1) (toJ v) σ' ρ) X0 := by
  intro l
  refine Sp.ofH (by decide) rfl rfl (lv := [(0, .ref (A 11 0 0)), (1, .ref (A 1984 0 0))]) (Nat.le_of_ble_eq_true rfl) rfl (fun x hf hrm => ?_)
  refine w_aload_n 1 dL_replay_0 rfl rfl rfl ?_
  refine w_iconst 0 dL_replay_1 rfl rfl ?_
  refine w_aload_n 0 dL_replay_2 rfl rfl rfl ?_
  refine c_L_77 (b := A 11 0 0) (As := []) (rest := [.int 0, .ref (A 1984 0 0)]) (fun l => s_X11_replay hz hr l) hrm dL_replay_3 rfl rfl (Nat.le_of_ble_eq_true rfl) (Nat.le_of_ble_eq_true rfl) (Nat.le_of_ble_eq_true rfl) (hz.o11 rfl) rfl (Nat.le_of_ble_eq_true rfl) (fun vr h2 hq => ?_) (fun E9 h9 hq => ?_)
  · obtain ⟨w, rfl, rfl, hz⟩ := hq
    show wp _ _ 6 [(0, .ref (A 11 0 0)), (1, .ref (A 1984 0 0))] [.int w, .int 0, .ref (A 1984 0 0)] _ _ _
    refine w_i2l dL_replay_6 rfl ?_
    refine w_last dL_replay_7 rfl (hz.k960 rfl) (gin (hz.n960 rfl) (by decide)) ?_
    have hz := hz.s960 (p := 0) (s := 0) (i := 0) (v := w.toInt64) rfl
    refine w_goto 14 dL_replay_8 rfl ?_
    refine w_iconst 0 dL_replay_14 rfl rfl ?_
    exact w_iret hf dL_replay_15 rfl (Nat.le_of_ble_eq_true rfl) (Nat.le_of_ble_eq_true rfl) ⟨rfl, hz⟩
  · obtain ⟨rfl, hz⟩ := hq
    have hE9 := hE E9 rfl
    simp only [List.mem_cons, List.not_mem_nil, or_false] at hE9
    subst hE9
    refine w_catchL (pre := []) (suf := []) rfl (fun z hz9 => nomatch hz9) ⟨by decide, by decide⟩ (by decide) x_cl_L_13 x_ca85 (fun q hq => ?_)
    refine w_astore_n [(2, .ref q), (0, .ref (A 11 0 0)), (1, .ref (A 1984 0 0))] dL_replay_11 rfl rfl (by decide) rfl ?_
    refine w_iconst 1 dL_replay_12 rfl rfl ?_
    exact w_iret hf dL_replay_13 rfl (Nat.le_of_ble_eq_true rfl) (Nat.le_of_ble_eq_true rfl) ⟨rfl, hz⟩
theorem s_L_changed {A : Nat → Nat → Nat → Nat} {h : Hp} {σ ρ σ' : Zs} {v : Except String Int32} {x1 : Int32} (hz : Rp A h σ ρ) (hr : fX11_changed x1 σ = some (v, σ')) (hE : okE v ["java/lang/IndexOutOfBoundsException"]) : ∀ l : Launch, Sp l mL_changed 8 1 6 [.ref (A 11 0 0), .int x1, .ref (A 1984 0 0)] h (QW A (codL ["java/lang/IndexOutOfBoundsException"] 1) (toJ v) σ' ρ) X0 := by
  intro l
  refine Sp.ofH (by decide) rfl rfl (lv := [(0, .ref (A 11 0 0)), (1, .int x1), (2, .ref (A 1984 0 0))]) (Nat.le_of_ble_eq_true rfl) rfl (fun x hf hrm => ?_)
  refine w_aload_n 2 dL_changed_0 rfl rfl rfl ?_
  refine w_iconst 0 dL_changed_1 rfl rfl ?_
  refine w_aload_n 0 dL_changed_2 rfl rfl rfl ?_
  refine w_iload_n 1 dL_changed_3 rfl rfl rfl ?_
  refine c_L_80 (b := A 11 0 0) (As := [.int x1]) (rest := [.int 0, .ref (A 1984 0 0)]) (fun l => s_X11_changed hz hr l) hrm dL_changed_4 rfl rfl (Nat.le_of_ble_eq_true rfl) (Nat.le_of_ble_eq_true rfl) (Nat.le_of_ble_eq_true rfl) (hz.o11 rfl) rfl (Nat.le_of_ble_eq_true rfl) (fun vr h2 hq => ?_) (fun E9 h9 hq => ?_)
  · obtain ⟨w, rfl, rfl, hz⟩ := hq
    show wp _ _ 7 [(0, .ref (A 11 0 0)), (1, .int x1), (2, .ref (A 1984 0 0))] [.int w, .int 0, .ref (A 1984 0 0)] _ _ _
    refine w_i2l dL_changed_7 rfl ?_
    refine w_last dL_changed_8 rfl (hz.k960 rfl) (gin (hz.n960 rfl) (by decide)) ?_
    have hz := hz.s960 (p := 0) (s := 0) (i := 0) (v := w.toInt64) rfl
    refine w_goto 15 dL_changed_9 rfl ?_
    refine w_iconst 0 dL_changed_15 rfl rfl ?_
    exact w_iret hf dL_changed_16 rfl (Nat.le_of_ble_eq_true rfl) (Nat.le_of_ble_eq_true rfl) ⟨rfl, hz⟩
  · obtain ⟨rfl, hz⟩ := hq
    have hE9 := hE E9 rfl
    simp only [List.mem_cons, List.not_mem_nil, or_false] at hE9
    subst hE9
    refine w_catchL (pre := []) (suf := []) rfl (fun z hz9 => nomatch hz9) ⟨by decide, by decide⟩ (by decide) x_cl_L_24 x_ca138 (fun q hq => ?_)
    refine w_astore_n [(3, .ref q), (0, .ref (A 11 0 0)), (1, .int x1), (2, .ref (A 1984 0 0))] dL_changed_12 rfl rfl (by decide) rfl ?_
    refine w_iconst 1 dL_changed_13 rfl rfl ?_
    exact w_iret hf dL_changed_14 rfl (Nat.le_of_ble_eq_true rfl) (Nat.le_of_ble_eq_true rfl) ⟨rfl, hz⟩
