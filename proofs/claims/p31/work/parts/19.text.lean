/-! TEXTS: the class's constants, what String's methods say of them -/
def xK (x : Cxt) : Nat → Nat := match x with
  | (_, _, _, _, _, _, _, _, _, _, _, _, _, _, aK, _) => aK
def xV (x : Cxt) : Nat → Nat := match x with
  | (_, _, _, _, _, _, _, _, _, _, _, _, _, _, _, aV) => aV
def tx_b (i : Nat) : List Int32 := m_byt.getD i []
def tx_len (i : Nat) : Int32 := nI (m_len.getD i 0)
def tx_at (i : Nat) (k : Int32) : Int32 := (tx_b i).getD k.toNatClampNeg 0 &&& 255
def tx_ixF (c : Int32) : List Int32 → Nat → Int32
  | [], _ => -1
  | b :: l, k => if b &&& 255 = c then nI k else tx_ixF c l (k + 1)
def tx_ix (i : Nat) (c : Int32) : Int32 := tx_ixF c (tx_b i) 0
def tx_ixf (i : Nat) (c f : Int32) : Int32 := tx_ixF c ((tx_b i).drop f.toNatClampNeg) f.toNatClampNeg
theorem tx_all : ∀ i, i < 6 → (m_len.getD i 0 = (tx_b i).length ∧ (tx_b i).length < 2 ^ 31 ∧ ∀ b ∈ tx_b i, b.toInt8.toInt32 = b) := by decide +kernel
theorem tx_ixF_out {c : Int32} (h : ∀ b : Int32, ¬ b &&& 255 = c) : ∀ (l : List Int32) (k : Nat), tx_ixF c l k = -1 := by
  intro l
  induction l with
  | nil => intro k; rfl
  | cons b l ih => intro k; rw [tx_ixF, if_neg (h b)]; exact ih (k + 1)
/-- a contract whose arguments speak of the texts -/
def SpK (l : Launch) (M : MI) (d mc ms : Nat) (av : (Nat → Nat) → (Nat → Nat) → List Value) (h : Hp) (Qv : Option Value → Hp → Prop) (Xv : String → Hp → Prop) : Prop :=
  l.stackTraces = false → ∀ (D : va_G) (ca : Nat → ClassId) (aK aV : Nat → Nat) (L : List Nat) (sz : Nat), vx_Met l M.2.2.2.1 (m_cw M :: m_TW) (m_room d mc ms) (va_Pc (av aK aV) (m_pre D ca aK aV h L sz)) (m_Qc D ca (va_A (va_pl L (m_E ca h)) sz) Qv) (m_Xc D ca (va_A (va_pl L (m_E ca h)) sz) Xv) mc ms (va_A (va_pl L (m_E ca h)) sz)
theorem SpK.of {l : Launch} {own : String} {cc : ByteArray} {nL : Nat} {y : MethodName} {ret : Option FieldType} {d mc ms : Nat} {av : (Nat → Nat) → (Nat → Nat) → List Value} {h : Hp} {Qv : Option Value → Hp → Prop} {Xv : String → Hp → Prop} (hy : plainName y.cls = true) (ho : y.cls = own) {lv : (Nat → Nat) → (Nat → Nat) → List (Nat × Value)} (hn : ∀ aK aV, (lg_sl (av aK aV)).length ≤ nL) (hl : ∀ aK aV, lv_args 0 (av aK aV) = lv aK aV)
    (body : ∀ x : Cxt, m_fin mc ms Qv Xv x → m_rm d mc ms x → wp x (own, cc, nL, y, ret, []) 0 (lv (xK x) (xV x)) [] h 0 0) : SpK l (own, cc, nL, y, ret, []) d mc ms av h Qv Xv := by
  intro hst D ca aK aV L sz
  refine vx_ofW (cc := cc) (maxL := nL) (ret := ret) hy rfl ?_
  intro p e s m args below meth c s₁ B hml hxt hv
  obtain ⟨rfl, hsz, hW0, hK, hN, hE⟩ := hv
  have hts := atoms_spec (ws := m_cw (own, cc, nL, y, ret, []) :: m_TW) B.pre
  have hown : s.vm.findClass own = some m.cls := by rw [← ho]; exact findClass_of_methodNamed B.named
  subst hsz
  have hD := hW0.2.1.self (sz := s.heap.size)
  have hle := lv_entry (av aK aV) (n := nL) (hn aK aV)
  rw [hl aK aV] at hle
  rw [lg_entry_eq]
  have hn1 := hn aK aV
  generalize (lg_sl (av aK aV) ++ List.replicate (nL - (lg_sl (av aK aV)).length) Slot.unset).toArray = ls at hle ⊢
  have hx : c.exceptionTable.toList = tableOf [] := by
    cases hc : c.exceptionTable.toList with
    | nil => rfl
    | cons z zs => exact (hxt z (by rw [hc]; exact List.mem_cons_self)).elim
  exact body (p, l, e, _, s, m, (av aK aV).toArray, below, meth, c, _, va_A (va_pl L (m_E ca h)) s.heap.size, D, ca, aK, aV) rfl ⟨Nat.le_refl _, Nat.le_refl _, Nat.le_refl _, Nat.le_refl _⟩ ⟨B.exec, B.bytes, hml, hown, fun w hw => hts w (List.mem_cons_of_mem _ hw), hK, hN, fun q hq => Or.inr hq, B.returns, B.notSynchronized, (name_of_methodNamed B.named B.method).1, hst, m_ex.widen (fun q hq => m_plA.mp hq) hE, hx⟩ s.heap [] ls L ⟨hW0.1, hD, hW0.2.2⟩ va_S.rf hle
theorem x_fv : Cond.fieldLink RJ0 9 "java/lang/String" "value" "[B" ∈ m_TW := m_in (t_in7 (List.mem_of_getElem? (i := 35) rfl)) rfl
theorem x_fc : Cond.fieldLink RJ0 15 "java/lang/String" "coder" "B" ∈ m_TW := m_in (t_in7 (List.mem_of_getElem? (i := 36) rfl)) rfl
theorem x_fs : Cond.fieldLink RJ0 38 "java/lang/String" "COMPACT_STRINGS" "Z" ∈ m_TW := m_in (t_in1 (List.mem_of_getElem? (i := 54) rfl)) rfl
theorem x_ff : Cond.fieldLink RJ0 1053 "jdk/internal/util/Preconditions" "SIOOBE_FORMATTER" "Ljava/util/function/BiFunction;" ∈ m_TW := m_in (t_in1 (List.mem_of_getElem? (i := 70) rfl)) rfl
theorem x_co_J0_length_8abf5 : Cond.code yJ0_length_8abf5 cJ0_length_8abf5 1 (some .int) ∈ m_TW := m_in (t_in1 (List.mem_of_getElem? (i := 49) rfl)) rfl
theorem x_im_J0_length_8abf5 : Cond.instanceMethod yJ0_length_8abf5 ∈ m_TW := m_in (t_in1 (List.mem_of_getElem? (i := 47) rfl)) rfl
theorem x_se_J0_length_8abf5 : Cond.selects RJ0 yJ0_length_8abf5 yJ0_length_8abf5 ∈ m_TW := m_in (t_in1 (List.mem_of_getElem? (i := 48) rfl)) rfl
theorem x_co_J0_charAt_5068e : Cond.code yJ0_charAt_5068e cJ0_charAt_5068e 2 (some .char) ∈ m_TW := m_in (t_in1 (List.mem_of_getElem? (i := 59) rfl)) rfl
theorem x_im_J0_charAt_5068e : Cond.instanceMethod yJ0_charAt_5068e ∈ m_TW := m_in (t_in1 (List.mem_of_getElem? (i := 57) rfl)) rfl
theorem x_se_J0_charAt_5068e : Cond.selects RJ0 yJ0_charAt_5068e yJ0_charAt_5068e ∈ m_TW := m_in (t_in1 (List.mem_of_getElem? (i := 58) rfl)) rfl
theorem x_co_J0_indexOf_0f7a4 : Cond.code yJ0_indexOf_0f7a4 cJ0_indexOf_0f7a4 2 (some .int) ∈ m_TW := m_in (t_in5 (List.mem_of_getElem? (i := 18) rfl)) rfl
theorem x_im_J0_indexOf_0f7a4 : Cond.instanceMethod yJ0_indexOf_0f7a4 ∈ m_TW := m_in (t_in5 (List.mem_of_getElem? (i := 16) rfl)) rfl
theorem x_se_J0_indexOf_0f7a4 : Cond.selects RJ0 yJ0_indexOf_0f7a4 yJ0_indexOf_0f7a4 ∈ m_TW := m_in (t_in5 (List.mem_of_getElem? (i := 17) rfl)) rfl
theorem x_co_J0_indexOf_7cf53 : Cond.code yJ0_indexOf_7cf53 cJ0_indexOf_7cf53 3 (some .int) ∈ m_TW := m_in (t_in5 (List.mem_of_getElem? (i := 22) rfl)) rfl
theorem x_im_J0_indexOf_7cf53 : Cond.instanceMethod yJ0_indexOf_7cf53 ∈ m_TW := m_in (t_in5 (List.mem_of_getElem? (i := 20) rfl)) rfl
theorem x_se_J0_indexOf_7cf53 : Cond.selects RJ0 yJ0_indexOf_7cf53 yJ0_indexOf_7cf53 ∈ m_TW := m_in (t_in5 (List.mem_of_getElem? (i := 21) rfl)) rfl
theorem x_co_J0_coder_7d493 : Cond.code yJ0_coder_7d493 cJ0_coder_7d493 1 (some .byte) ∈ m_TW := m_in (t_in1 (List.mem_of_getElem? (i := 53) rfl)) rfl
theorem x_im_J0_coder_7d493 : Cond.instanceMethod yJ0_coder_7d493 ∈ m_TW := m_in (t_in1 (List.mem_of_getElem? (i := 51) rfl)) rfl
theorem x_se_J0_coder_7d493 : Cond.selects RJ0 yJ0_coder_7d493 yJ0_coder_7d493 ∈ m_TW := m_in (t_in1 (List.mem_of_getElem? (i := 52) rfl)) rfl
theorem x_co_J0_isLatin1_aae02 : Cond.code yJ0_isLatin1_aae02 cJ0_isLatin1_aae02 1 (some .boolean) ∈ m_TW := m_in (t_in1 (List.mem_of_getElem? (i := 63) rfl)) rfl
theorem x_im_J0_isLatin1_aae02 : Cond.instanceMethod yJ0_isLatin1_aae02 ∈ m_TW := m_in (t_in1 (List.mem_of_getElem? (i := 61) rfl)) rfl
theorem x_se_J0_isLatin1_aae02 : Cond.selects RJ0 yJ0_isLatin1_aae02 yJ0_isLatin1_aae02 ∈ m_TW := m_in (t_in1 (List.mem_of_getElem? (i := 62) rfl)) rfl
theorem x_co_J0_checkIndex_df160 : Cond.code yJ0_checkIndex_df160 cJ0_checkIndex_df160 2 none ∈ m_TW := m_in (t_in1 (List.mem_of_getElem? (i := 69) rfl)) rfl
theorem x_st_J0_checkIndex_df160 : Cond.static yJ0_checkIndex_df160 ∈ m_TW := m_in (t_in1 (List.mem_of_getElem? (i := 68) rfl)) rfl
theorem x_co_J1_charAt_3b067 : Cond.code yJ1_charAt_3b067 cJ1_charAt_3b067 2 (some .char) ∈ m_TW := m_in (t_in1 (List.mem_of_getElem? (i := 66) rfl)) rfl
theorem x_st_J1_charAt_3b067 : Cond.static yJ1_charAt_3b067 ∈ m_TW := m_in (t_in1 (List.mem_of_getElem? (i := 65) rfl)) rfl
theorem x_co_J1_canEncode_9a6ad : Cond.code yJ1_canEncode_9a6ad cJ1_canEncode_9a6ad 1 (some .boolean) ∈ m_TW := m_in (t_in5 (List.mem_of_getElem? (i := 29) rfl)) rfl
theorem x_st_J1_canEncode_9a6ad : Cond.static yJ1_canEncode_9a6ad ∈ m_TW := m_in (t_in5 (List.mem_of_getElem? (i := 28) rfl)) rfl
theorem x_co_J1_indexOf_4cfef : Cond.code yJ1_indexOf_4cfef cJ1_indexOf_4cfef 4 (some .int) ∈ m_TW := m_in (t_in5 (List.mem_of_getElem? (i := 26) rfl)) rfl
theorem x_st_J1_indexOf_4cfef : Cond.static yJ1_indexOf_4cfef ∈ m_TW := m_in (t_in5 (List.mem_of_getElem? (i := 25) rfl)) rfl
theorem x_co_J1_indexOfChar_4cfef : Cond.code yJ1_indexOfChar_4cfef cJ1_indexOfChar_4cfef 6 (some .int) ∈ m_TW := m_in (t_in5 (List.mem_of_getElem? (i := 34) rfl)) rfl
theorem x_st_J1_indexOfChar_4cfef : Cond.static yJ1_indexOfChar_4cfef ∈ m_TW := m_in (t_in5 (List.mem_of_getElem? (i := 33) rfl)) rfl
theorem x_co_J3_checkIndex_8e157 : Cond.code yJ3_checkIndex_8e157 cJ3_checkIndex_8e157 3 (some .int) ∈ m_TW := m_in (t_in1 (List.mem_of_getElem? (i := 74) rfl)) rfl
theorem x_st_J3_checkIndex_8e157 : Cond.static yJ3_checkIndex_8e157 ∈ m_TW := m_in (t_in1 (List.mem_of_getElem? (i := 73) rfl)) rfl
theorem x_in_RJ0 : Cond.initialized RJ0 ∈ m_TW := m_in (t_in1 (List.mem_of_getElem? (i := 3) rfl)) rfl
theorem x_in_RJ1 : Cond.initialized RJ1 ∈ m_TW := m_in (t_in1 (List.mem_of_getElem? (i := 4) rfl)) rfl
theorem x_in_RJ3 : Cond.initialized RJ3 ∈ m_TW := m_in (t_in1 (List.mem_of_getElem? (i := 5) rfl)) rfl
theorem x_ml_RJ0_335 : Cond.methodLink RJ0 335 yJ0_coder_7d493 ∈ m_TW := m_in (t_in1 (List.mem_of_getElem? (i := 50) rfl)) rfl
theorem x_ml_RJ0_492 : Cond.methodLink RJ0 492 yJ0_isLatin1_aae02 ∈ m_TW := m_in (t_in1 (List.mem_of_getElem? (i := 60) rfl)) rfl
theorem x_ml_RJ0_495 : Cond.methodLink RJ0 495 yJ1_charAt_3b067 ∈ m_TW := m_in (t_in1 (List.mem_of_getElem? (i := 64) rfl)) rfl
theorem x_ml_RJ1_9 : Cond.methodLink RJ1 9 yJ0_checkIndex_df160 ∈ m_TW := m_in (t_in1 (List.mem_of_getElem? (i := 67) rfl)) rfl
theorem x_ml_RJ0_1059 : Cond.methodLink RJ0 1059 yJ3_checkIndex_8e157 ∈ m_TW := m_in (t_in1 (List.mem_of_getElem? (i := 72) rfl)) rfl
theorem x_ml_RJ0_505 : Cond.methodLink RJ0 505 yJ0_length_8abf5 ∈ m_TW := m_in (t_in5 (List.mem_of_getElem? (i := 23) rfl)) rfl
theorem x_ml_RJ0_637 : Cond.methodLink RJ0 637 yJ1_indexOf_4cfef ∈ m_TW := m_in (t_in5 (List.mem_of_getElem? (i := 24) rfl)) rfl
theorem x_ml_RJ1_88 : Cond.methodLink RJ1 88 yJ1_canEncode_9a6ad ∈ m_TW := m_in (t_in5 (List.mem_of_getElem? (i := 27) rfl)) rfl
theorem x_ml_RJ1_95 : Cond.methodLink RJ1 95 yJ1_indexOfChar_4cfef ∈ m_TW := m_in (t_in5 (List.mem_of_getElem? (i := 32) rfl)) rfl
theorem x_ml_RJ0_633 : Cond.methodLink RJ0 633 yJ0_indexOf_7cf53 ∈ m_TW := m_in (t_in5 (List.mem_of_getElem? (i := 19) rfl)) rfl
theorem x_ml_RJ1_92 : Cond.methodLink RJ1 92 yJ9_max_7cf53 ∈ m_TW := m_in (t_in5 (List.mem_of_getElem? (i := 30) rfl)) rfl
theorem x_ml_RJ1_38 : Cond.methodLink RJ1 38 yJ9_min_7cf53 ∈ m_TW := m_in (t_in5 (List.mem_of_getElem? (i := 31) rfl)) rfl
section K19
variable {x : Cxt} {M : MI} {pc pc' : Nat} {lv lv' : List (Nat × Value)} {st : List Value} {h : Hp} {kc ks dd Mc Ms index : Nat}
variable {cc : ByteArray} {nL : Nat} {y : MethodName} {ret : Option FieldType} {hh : List (Nat × Nat × Nat × Nat)}
theorem w_ldcS {tx : String} (i : Nat) (hd : decode M.2.1 pc = .ok (.ldc index, 2)) (hp : pc + 2 = pc') (hE : (vk_R "StreamDesk$Tokens" 25 m_kw (xK x 0) x.2.2.2.2.1 ∧ vk_R "StreamDesk$Tokens" 68 m_sy (xK x 1) x.2.2.2.2.1 ∧ vk_R "StreamDeskLaw" 59 m_t1 (xK x 2) x.2.2.2.2.1 ∧ vk_R "StreamDeskLaw" 68 m_t2 (xK x 3) x.2.2.2.2.1 ∧ vk_R "StreamDeskLaw" 70 m_t3 (xK x 4) x.2.2.2.2.1 ∧ vk_R "StreamDeskLaw" 72 m_t4 (xK x 5) x.2.2.2.2.1) → vk_R M.1 index tx (xK x i) x.2.2.2.2.1) (k : wp x M pc' lv (.ref (xK x i) :: st) h kc ks) : wp x M pc lv st h kc ks := by
  obtain ⟨p, l, e, R, s, m, args, below, meth, cd, Q, A, D, ca, aK, aV⟩ := x
  obtain ⟨own, cc, nL, y, ret, hh⟩ := M
  subst hp
  intro ok H locs ls L hw hS hl
  exact va_ldcS ok.1 ok.2.1 ok.2.2.2.1 (hE ok.2.2.2.2.2.2.2.2.2.2.2.2.1.2.2.1) hd (k ok H locs ls L hw hS hl)
theorem w_tv {i : Nat} (hi : i < 6) (hd : decode cc pc = .ok (.getfield 9, 3)) (hp : pc + 3 = pc') (k : wp x (RJ0, cc, nL, y, ret, hh) pc' lv (.ref (xV x i) :: st) h kc ks) : wp x (RJ0, cc, nL, y, ret, hh) pc lv (.ref (xK x i) :: st) h kc ks := by
  obtain ⟨p, l, e, R, s, m, args, below, meth, cd, Q, A, D, ca, aK, aV⟩ := x
  subst hp
  intro ok H locs ls L hw hS hl
  exact vk_getf ok.1 ok.2.1 (ok.2.2.2.2.2.2.2.2.2.2.2.2.1.2.1.1.1 i hi).2.2.1 hS ok.2.2.2.1 (ok.2.2.2.2.1 _ x_fv) (fun _ q => q) hd (k ok H locs ls L hw hS hl)
theorem w_tc {i : Nat} (hi : i < 6) (hd : decode cc pc = .ok (.getfield 15, 3)) (hp : pc + 3 = pc') (k : wp x (RJ0, cc, nL, y, ret, hh) pc' lv (.int 0 :: st) h kc ks) : wp x (RJ0, cc, nL, y, ret, hh) pc lv (.ref (xK x i) :: st) h kc ks := by
  obtain ⟨p, l, e, R, s, m, args, below, meth, cd, Q, A, D, ca, aK, aV⟩ := x
  subst hp
  intro ok H locs ls L hw hS hl
  exact vk_getf ok.1 ok.2.1 (ok.2.2.2.2.2.2.2.2.2.2.2.2.1.2.1.1.1 i hi).2.1 hS ok.2.2.2.1 (ok.2.2.2.2.1 _ x_fc) (fun _ q => q) hd (k ok H locs ls L hw hS hl)
theorem w_gCS (hd : decode cc pc = .ok (.getstatic 38, 3)) (hp : pc + 3 = pc') (k : wp x (RJ0, cc, nL, y, ret, hh) pc' lv (.int 1 :: st) h kc ks) : wp x (RJ0, cc, nL, y, ret, hh) pc lv st h kc ks := by
  obtain ⟨p, l, e, R, s, m, args, below, meth, cd, Q, A, D, ca, aK, aV⟩ := x
  subst hp
  intro ok H locs ls L hw hS hl
  exact va_gets ok.1 ok.2.1 ok.2.2.2.2.2.2.2.2.2.2.2.2.1.2.1.2.1 hS ok.2.2.2.1 (ok.2.2.2.2.1 _ x_fs) (fun _ q => q) hd (k ok H locs ls L hw hS hl)
theorem w_gSF (hd : decode cc pc = .ok (.getstatic 1053, 3)) (hp : pc + 3 = pc') (k : ∀ v : Value, (v = .null ∨ ∃ t : Nat, v = .ref t) → wp x (RJ0, cc, nL, y, ret, hh) pc' lv (v :: st) h kc ks) : wp x (RJ0, cc, nL, y, ret, hh) pc lv st h kc ks := by
  obtain ⟨p, l, e, R, s, m, args, below, meth, cd, Q, A, D, ca, aK, aV⟩ := x
  subst hp
  intro ok H locs ls L hw hS hl
  rcases ok.2.2.2.2.2.2.2.2.2.2.2.2.1.2.1.2.2 with hz | ⟨t, hz⟩
  · exact va_gets ok.1 ok.2.1 hz hS ok.2.2.2.1 (ok.2.2.2.2.1 _ x_ff) (fun _ q => q) hd (k _ (Or.inl rfl) ok H locs ls L hw hS hl)
  · exact va_gets ok.1 ok.2.1 hz hS ok.2.2.2.1 (ok.2.2.2.2.1 _ x_ff) (fun _ q => q) hd (k _ (Or.inr ⟨t, rfl⟩) ok H locs ls L hw hS hl)
theorem w_tlen {i : Nat} (hi : i < 6) (hd : decode M.2.1 pc = .ok (.arraylength, 1)) (hp : pc + 1 = pc') (k : wp x M pc' lv (.int (tx_len i) :: st) h kc ks) : wp x M pc lv (.ref (xV x i) :: st) h kc ks := by
  obtain ⟨p, l, e, R, s, m, args, below, meth, cd, Q, A, D, ca, aK, aV⟩ := x
  obtain ⟨own, cc, nL, y, ret, hh⟩ := M
  subst hp
  intro ok H locs ls L hw hS hl
  exact va_tlen ok.1 ok.2.1 (ok.2.2.2.2.2.2.2.2.2.2.2.2.1.2.1.1.1 i hi).2.2.2 hS rfl hd (k ok H locs ls L hw hS hl)
theorem w_tb {i : Nat} {c : Int32} (hi : i < 6) (hd : decode M.2.1 pc = .ok (.baload, 1)) (hp : pc + 1 = pc') (hg : vp_in c (m_len.getD i 0)) (k : wp x M pc' lv (.int ((tx_b i).getD c.toNatClampNeg 0) :: st) h kc ks) : wp x M pc lv (.int c :: .ref (xV x i) :: st) h kc ks := by
  obtain ⟨p, l, e, R, s, m, args, below, meth, cd, Q, A, D, ca, aK, aV⟩ := x
  obtain ⟨own, cc, nL, y, ret, hh⟩ := M
  subst hp
  intro ok H locs ls L hw hS hl
  exact va_tb ok.1 ok.2.1 (ok.2.2.2.2.2.2.2.2.2.2.2.2.1.2.1.1.1 i hi).2.2.2 hS hg rfl hd (k ok H locs ls L hw hS hl)
variable {n d mc ms nL2 : Nat} {cc2 : ByteArray} {y2 : MethodName} {ret2 : Option FieldType} {rest : List Value} {C : String} {Qv : Option Value → Hp → Prop} {Xv : String → Hp → Prop}
theorem w_callVK {i : Nat} {As : List Value} (hi : i < 6) (hsp : ∀ l : Launch, SpK l (RJ0, cc2, nL2, y2, ret2, []) d mc ms (fun aK _ => .ref (aK i) :: As) h Qv Xv) (hrm : m_rm dd Mc Ms x) (hd : decode M.2.1 pc = .ok (.invokevirtual index, 3)) (hp : pc + 3 = pc') (h1 : Cond.methodLink M.1 index y2 ∈ m_TW) (h2 : Cond.instanceMethod y2 ∈ m_TW) (h3 : Cond.selects RJ0 y2 y2 ∈ m_TW) (h5 : Cond.code y2 cc2 nL2 ret2 ∈ m_TW) (hyd : y2.cls = RJ0 ∧ y2.cls ≠ "java/lang/invoke/MethodHandle" ∧ y2.cls ≠ "java/lang/invoke/VarHandle" ∧ (parseMethodDescriptor y2.desc).map (fun d => d.parameters.length) = some n) (hn : As.length = n) (hdd : d + 1 ≤ dd) (hnL : nL2 ≤ 21) (hmc : kc + mc ≤ Mc) (hms : ks + ms ≤ Ms) (hst : st = As.reverse ++ .ref (xK x i) :: rest) (hcat : (rest.map fun v => v.category).sum ≤ 8) (kk : ∀ (v : Option Value) (h' : Hp), Qv v h' → wp x M pc' lv (v.toList ++ rest) h' (kc + mc) (ks + ms)) (kx : ∀ (E : String) (h' : Hp), Xv E h' → wx x M pc lv E h' (kc + mc) (ks + ms)) : wp x M pc lv st h kc ks := by
  obtain ⟨p, l, e, R, s, m, args, below, meth, cd, Q, A, D, ca, aK, aV⟩ := x
  obtain ⟨own, cc, nL, y, ret, hh⟩ := M
  subst hp
  intro ok H locs ls L hw hS hl
  obtain ⟨r1, r2, r3, r4⟩ := hrm
  subst hst
  have hM := hsp l ok.2.2.2.2.2.2.2.2.2.2.2.1 D ca aK aV L H.size
  rw [m_cw0] at hM
  have hrecv := vk_recv ok.2.2.2.2.2.2.2.2.2.2.2.2.1.2.1.1 hi hS
  have hrun := vx_runV (e := e) (below := below) (meth := meth) (locs := locs) (cells := kc) (slots := ks) (g := F0 m pc ls (As.reverse ++ .ref (aK i) :: rest)) (rest := rest) ⟨ok.1, ok.2.1, ok.2.2.1, ok.2.2.2.1, ok.2.2.2.2.1⟩ hM (cwV n ok.2.2.2.2.1 (m_gV (nL2 := nL2) h1 h2 h3 x_in_RJ0 h5) rfl rfl rfl hyd ⟨Nat.le_trans hdd r1, (show 8 + (nL2 + 11) + 40 * d ≤ R.locals by omega)⟩) ⟨m_pre_blind, hrecv, fun U hU hW => ⟨rfl, m_go hw hS ok.2.2.2.2.2.1 ok.2.2.2.2.2.2.1 ok.2.2.2.2.2.2.2.2.2.2.2.2.1 U hU hW⟩⟩ rfl hn hl.1 rfl (lv_room hcat) hd ⟨Nat.le_trans hmc r3, Nat.le_trans hms r4⟩
  exact m_ret hw hS ok.2.2.2.2.2.2.2.1 hrun (fun v h' H1 locs1 L1 hq hw1 hS1 => kk v h' hq ok H1 locs1 ls L1 hw1 hS1 hl) (fun E h' H1 locs1 L1 q ce hq hgh hw1 hS1 g1 g2 g3 => kx E h' hq ok H1 locs1 ls L1 q ce rest hgh hw1 hS1 hl g1 g2 g3)
theorem w_callSK {As : (Nat → Nat) → (Nat → Nat) → List Value} (hsp : ∀ l : Launch, SpK l (C, cc2, nL2, y2, ret2, []) d mc ms As h Qv Xv) (hrm : m_rm dd Mc Ms x) (hd : decode M.2.1 pc = .ok (.invokestatic index, 3)) (hp : pc + 3 = pc') (h1 : Cond.methodLink M.1 index y2 ∈ m_TW) (h3 : Cond.static y2 ∈ m_TW) (h4 : Cond.initialized y2.cls ∈ m_TW) (h5 : Cond.code y2 cc2 nL2 ret2 ∈ m_TW) (hyd : y2.cls ≠ "java/lang/invoke/MethodHandle" ∧ y2.cls ≠ "java/lang/invoke/VarHandle" ∧ (parseMethodDescriptor y2.desc).map (fun d => d.parameters.length) = some n) (hn : ∀ aK aV, (As aK aV).length = n) (hdd : d + 1 ≤ dd) (hnL : nL2 ≤ 21) (hmc : kc + mc ≤ Mc) (hms : ks + ms ≤ Ms) (hst : st = (As (xK x) (xV x)).reverse ++ rest) (hcat : (rest.map fun v => v.category).sum ≤ 8) (kk : ∀ (v : Option Value) (h' : Hp), Qv v h' → wp x M pc' lv (v.toList ++ rest) h' (kc + mc) (ks + ms)) (kx : ∀ (E : String) (h' : Hp), Xv E h' → wx x M pc lv E h' (kc + mc) (ks + ms)) : wp x M pc lv st h kc ks := by
  obtain ⟨p, l, e, R, s, m, args, below, meth, cd, Q, A, D, ca, aK, aV⟩ := x
  obtain ⟨own, cc, nL, y, ret, hh⟩ := M
  subst hp
  intro ok H locs ls L hw hS hl
  obtain ⟨r1, r2, r3, r4⟩ := hrm
  subst hst
  have hM := hsp l ok.2.2.2.2.2.2.2.2.2.2.2.1 D ca aK aV L H.size
  rw [m_cw0] at hM
  have hrun := vx_runS (e := e) (below := below) (meth := meth) (locs := locs) (cells := kc) (slots := ks) (g := F0 m pc ls ((As aK aV).reverse ++ rest)) (rest := rest) ⟨ok.1, ok.2.1, ok.2.2.1, ok.2.2.2.1, ok.2.2.2.2.1⟩ hM (va_cwS n ok.2.2.2.2.1 (m_gS h1 h3 h4 h5) rfl rfl rfl hyd ⟨Nat.le_trans hdd r1, (show 8 + (nL2 + 11) + 40 * d ≤ R.locals by omega)⟩) ⟨m_pre_blind, fun U hU hW => ⟨rfl, m_go hw hS ok.2.2.2.2.2.1 ok.2.2.2.2.2.2.1 ok.2.2.2.2.2.2.2.2.2.2.2.2.1 U hU hW⟩⟩ rfl (hn aK aV) hl.1 rfl (lv_room hcat) hd ⟨Nat.le_trans hmc r3, Nat.le_trans hms r4⟩
  exact m_ret hw hS ok.2.2.2.2.2.2.2.1 hrun (fun v h' H1 locs1 L1 hq hw1 hS1 => kk v h' hq ok H1 locs1 ls L1 hw1 hS1 hl) (fun E h' H1 locs1 L1 q ce hq hgh hw1 hS1 g1 g2 g3 => kx E h' hq ok H1 locs1 ls L1 q ce rest hgh hw1 hS1 hl g1 g2 g3)
end K19
/-- an answer, the store as it was -/
def Qt (h : Hp) (v : Int32) : Option Value → Hp → Prop := fun r h' => r = some (.int v) ∧ h' = h
theorem s_J0_coder_7d493 {h : Hp} {i : Nat} (hi : i < 6) : ∀ l : Launch, SpK l mJ0_coder_7d493 0 0 0 (fun aK _ => [.ref (aK i)]) h (Qt h 0) X0 := by
  intro l
  refine SpK.of (by decide +kernel) rfl (lv := fun aK _ => [(0, .ref (aK i))]) (fun aK aV => (Nat.le_of_ble_eq_true rfl)) (fun aK aV => rfl) (fun x hf hrm => ?_)
  refine w_gCS dJ0_coder_7d493_0 rfl ?_
  refine w_if_eq 13 dJ0_coder_7d493_3 rfl rfl (fun q => absurd q (by decide)) (fun _ => ?_)
  refine w_aload_n 0 dJ0_coder_7d493_6 rfl rfl rfl ?_
  refine w_tc hi dJ0_coder_7d493_7 rfl ?_
  refine w_goto 14 dJ0_coder_7d493_10 rfl ?_
  exact w_zret hf dJ0_coder_7d493_14 rfl rfl (Nat.le_of_ble_eq_true rfl) (Nat.le_of_ble_eq_true rfl) ⟨rfl, rfl⟩
theorem s_J0_isLatin1_aae02 {h : Hp} {i : Nat} (hi : i < 6) : ∀ l : Launch, SpK l mJ0_isLatin1_aae02 0 0 0 (fun aK _ => [.ref (aK i)]) h (Qt h 1) X0 := by
  intro l
  refine SpK.of (by decide +kernel) rfl (lv := fun aK _ => [(0, .ref (aK i))]) (fun aK aV => (Nat.le_of_ble_eq_true rfl)) (fun aK aV => rfl) (fun x hf hrm => ?_)
  refine w_gCS dJ0_isLatin1_aae02_0 rfl ?_
  refine w_if_eq 17 dJ0_isLatin1_aae02_3 rfl rfl (fun q => absurd q (by decide)) (fun _ => ?_)
  refine w_aload_n 0 dJ0_isLatin1_aae02_6 rfl rfl rfl ?_
  refine w_tc hi dJ0_isLatin1_aae02_7 rfl ?_
  refine w_if_ne 17 dJ0_isLatin1_aae02_10 rfl rfl (fun q => absurd rfl q) (fun _ => ?_)
  refine w_iconst 1 dJ0_isLatin1_aae02_13 rfl rfl ?_
  refine w_goto 18 dJ0_isLatin1_aae02_14 rfl ?_
  exact w_zret hf dJ0_isLatin1_aae02_18 rfl rfl (Nat.le_of_ble_eq_true rfl) (Nat.le_of_ble_eq_true rfl) ⟨rfl, rfl⟩
theorem s_J0_length_8abf5 {h : Hp} {i : Nat} (hi : i < 6) : ∀ l : Launch, SpK l mJ0_length_8abf5 1 0 0 (fun aK _ => [.ref (aK i)]) h (Qt h (tx_len i)) X0 := by
  intro l
  refine SpK.of (by decide +kernel) rfl (lv := fun aK _ => [(0, .ref (aK i))]) (fun aK aV => (Nat.le_of_ble_eq_true rfl)) (fun aK aV => rfl) (fun x hf hrm => ?_)
  refine w_aload_n 0 dJ0_length_8abf5_0 rfl rfl rfl ?_
  refine w_tv hi dJ0_length_8abf5_1 rfl ?_
  refine w_tlen hi dJ0_length_8abf5_4 rfl ?_
  refine w_aload_n 0 dJ0_length_8abf5_5 rfl rfl rfl ?_
  refine w_callVK (n := 0) (As := []) (rest := [.int (tx_len i)]) hi (fun l => s_J0_coder_7d493 hi l) hrm dJ0_length_8abf5_6 rfl x_ml_RJ0_335 x_im_J0_coder_7d493 x_se_J0_coder_7d493 x_co_J0_coder_7d493 ⟨rfl, by decide +kernel, by decide +kernel, by decide +kernel⟩ rfl (Nat.le_of_ble_eq_true rfl) (Nat.le_of_ble_eq_true rfl) (Nat.le_of_ble_eq_true rfl) (Nat.le_of_ble_eq_true rfl) rfl (Nat.le_of_ble_eq_true rfl) (fun v h2 hq => ?_) (fun E9 h9 hq => hq.elim)
  obtain ⟨rfl, rfl⟩ := hq
  refine w_ishr dJ0_length_8abf5_9 rfl ?_
  have e : tx_len i >>> ((0 : Int32) &&& 31) = tx_len i := sc_shr0 (by obtain ⟨q1, q2, -⟩ := tx_all i hi; omega)
  rw [e]
  exact w_iret hf dJ0_length_8abf5_10 rfl (Nat.le_of_ble_eq_true rfl) (Nat.le_of_ble_eq_true rfl) ⟨rfl, rfl⟩
theorem s_J3_checkIndex_8e157 {h : Hp} {i n : Int32} {v : Value} (hv : v = .null ∨ ∃ t : Nat, v = .ref t) (h0 : ¬ i < 0) (h1 : i < n) : ∀ l : Launch, Sp l mJ3_checkIndex_8e157 0 0 0 [.int i, .int n, v] h (Qt h i) X0 := by
  intro l
  have hn : (lg_sl [.int i, .int n, v]).length ≤ 3 := by rcases hv with rfl | ⟨t, rfl⟩ <;> exact Nat.le_of_ble_eq_true rfl
  refine Sp.of (by decide +kernel) rfl (lv := [(0, .int i), (1, .int n), (2, v)]) hn rfl (fun x hf hrm => ?_)
  refine w_iload_n 0 dJ3_checkIndex_8e157_0 rfl rfl rfl ?_
  refine w_if_lt 9 dJ3_checkIndex_8e157_1 rfl rfl (fun q => absurd q h0) (fun _ => ?_)
  refine w_iload_n 0 dJ3_checkIndex_8e157_4 rfl rfl rfl ?_
  refine w_iload_n 1 dJ3_checkIndex_8e157_5 rfl rfl rfl ?_
  refine w_icmp_lt 16 dJ3_checkIndex_8e157_6 rfl rfl (fun _ => ?_) (fun q => absurd h1 q)
  refine w_iload_n 0 dJ3_checkIndex_8e157_16 rfl rfl rfl ?_
  exact w_iret hf dJ3_checkIndex_8e157_17 rfl (Nat.le_of_ble_eq_true rfl) (Nat.le_of_ble_eq_true rfl) ⟨rfl, rfl⟩
theorem s_J0_checkIndex_df160 {h : Hp} {i n : Int32} (h0 : ¬ i < 0) (h1 : i < n) : ∀ l : Launch, Sp l mJ0_checkIndex_df160 1 0 0 [.int i, .int n] h (fun r h2 => r = none ∧ h2 = h) X0 := by
  intro l
  refine Sp.of (by decide +kernel) rfl (lv := [(0, .int i), (1, .int n)]) (Nat.le_of_ble_eq_true rfl) rfl (fun x hf hrm => ?_)
  refine w_iload_n 0 dJ0_checkIndex_df160_0 rfl rfl rfl ?_
  refine w_iload_n 1 dJ0_checkIndex_df160_1 rfl rfl rfl ?_
  refine w_gSF dJ0_checkIndex_df160_2 rfl (fun v hv => ?_)
  refine w_callS (n := 3) (As := [.int i, .int n, v]) (rest := []) (fun l => s_J3_checkIndex_8e157 hv h0 h1 l) hrm dJ0_checkIndex_df160_5 rfl x_ml_RJ0_1059 x_st_J3_checkIndex_8e157 x_in_RJ3 x_co_J3_checkIndex_8e157 ⟨by decide +kernel, by decide +kernel, by decide +kernel⟩ rfl (Nat.le_of_ble_eq_true rfl) (Nat.le_of_ble_eq_true rfl) (Nat.le_of_ble_eq_true rfl) (Nat.le_of_ble_eq_true rfl) rfl (Nat.le_of_ble_eq_true rfl) (fun v h2 hq => ?_) (fun E9 h9 hq => hq.elim)
  obtain ⟨rfl, rfl⟩ := hq
  refine w_pop dJ0_checkIndex_df160_8 rfl rfl ?_
  exact w_vret hf dJ0_checkIndex_df160_9 rfl (Nat.le_of_ble_eq_true rfl) (Nat.le_of_ble_eq_true rfl) ⟨rfl, rfl⟩
theorem s_J1_charAt_3b067 {h : Hp} {i : Nat} {c : Int32} (hi : i < 6) (hg : gi c (m_len.getD i 0)) : ∀ l : Launch, SpK l mJ1_charAt_3b067 2 0 0 (fun _ aV => [.ref (aV i), .int c]) h (Qt h (tx_at i c)) X0 := by
  intro l
  refine SpK.of (by decide +kernel) rfl (lv := fun _ aV => [(0, .ref (aV i)), (1, .int c)]) (fun aK aV => (Nat.le_of_ble_eq_true rfl)) (fun aK aV => rfl) (fun x hf hrm => ?_)
  obtain ⟨hl, hL, -⟩ := tx_all i hi
  have h0 : ¬ c < 0 := fun q => hg (Or.inl q)
  have h1 : c < tx_len i := by
    obtain ⟨j, hj, rfl⟩ := nI_of h0
    have q := gi_lt hg
    rw [nI_clamp hj] at q
    exact nI_lt q (by omega)
  refine w_iload_n 1 dJ1_charAt_3b067_0 rfl rfl rfl ?_
  refine w_aload_n 0 dJ1_charAt_3b067_1 rfl rfl rfl ?_
  refine w_tlen hi dJ1_charAt_3b067_2 rfl ?_
  refine w_callS (n := 2) (As := [.int c, .int (tx_len i)]) (rest := []) (fun l => s_J0_checkIndex_df160 h0 h1 l) hrm dJ1_charAt_3b067_3 rfl x_ml_RJ1_9 x_st_J0_checkIndex_df160 x_in_RJ0 x_co_J0_checkIndex_df160 ⟨by decide +kernel, by decide +kernel, by decide +kernel⟩ rfl (Nat.le_of_ble_eq_true rfl) (Nat.le_of_ble_eq_true rfl) (Nat.le_of_ble_eq_true rfl) (Nat.le_of_ble_eq_true rfl) rfl (Nat.le_of_ble_eq_true rfl) (fun v h2 hq => ?_) (fun E9 h9 hq => hq.elim)
  obtain ⟨rfl, rfl⟩ := hq
  refine w_aload_n 0 dJ1_charAt_3b067_6 rfl rfl rfl ?_
  refine w_iload_n 1 dJ1_charAt_3b067_7 rfl rfl rfl ?_
  refine w_tb hi dJ1_charAt_3b067_8 rfl hg ?_
  refine w_sipush 255 dJ1_charAt_3b067_9 rfl rfl ?_
  refine w_iand dJ1_charAt_3b067_12 rfl ?_
  refine w_i2c dJ1_charAt_3b067_13 rfl ?_
  rw [sc_c2]
  exact w_zret hf dJ1_charAt_3b067_14 rfl (sc_nar _) (Nat.le_of_ble_eq_true rfl) (Nat.le_of_ble_eq_true rfl) ⟨rfl, rfl⟩
theorem s_J0_charAt_5068e {h : Hp} {i : Nat} {c : Int32} (hi : i < 6) (hg : gi c (m_len.getD i 0)) : ∀ l : Launch, SpK l mJ0_charAt_5068e 3 0 0 (fun aK _ => [.ref (aK i), .int c]) h (Qt h (tx_at i c)) X0 := by
  intro l
  refine SpK.of (by decide +kernel) rfl (lv := fun aK _ => [(0, .ref (aK i)), (1, .int c)]) (fun aK aV => (Nat.le_of_ble_eq_true rfl)) (fun aK aV => rfl) (fun x hf hrm => ?_)
  refine w_aload_n 0 dJ0_charAt_5068e_0 rfl rfl rfl ?_
  refine w_callVK (n := 0) (As := []) (rest := []) hi (fun l => s_J0_isLatin1_aae02 hi l) hrm dJ0_charAt_5068e_1 rfl x_ml_RJ0_492 x_im_J0_isLatin1_aae02 x_se_J0_isLatin1_aae02 x_co_J0_isLatin1_aae02 ⟨rfl, by decide +kernel, by decide +kernel, by decide +kernel⟩ rfl (Nat.le_of_ble_eq_true rfl) (Nat.le_of_ble_eq_true rfl) (Nat.le_of_ble_eq_true rfl) (Nat.le_of_ble_eq_true rfl) rfl (Nat.le_of_ble_eq_true rfl) (fun v h2 hq => ?_) (fun E9 h9 hq => hq.elim)
  obtain ⟨rfl, rfl⟩ := hq
  refine w_if_eq 16 dJ0_charAt_5068e_4 rfl rfl (fun q => absurd q (by decide)) (fun _ => ?_)
  refine w_aload_n 0 dJ0_charAt_5068e_7 rfl rfl rfl ?_
  refine w_tv hi dJ0_charAt_5068e_8 rfl ?_
  refine w_iload_n 1 dJ0_charAt_5068e_11 rfl rfl rfl ?_
  refine w_callSK (n := 2) (As := fun _ aV => [.ref (aV i), .int c]) (rest := []) (fun l => s_J1_charAt_3b067 hi hg l) hrm dJ0_charAt_5068e_12 rfl x_ml_RJ0_495 x_st_J1_charAt_3b067 x_in_RJ1 x_co_J1_charAt_3b067 ⟨by decide +kernel, by decide +kernel, by decide +kernel⟩ (fun _ _ => rfl) (Nat.le_of_ble_eq_true rfl) (Nat.le_of_ble_eq_true rfl) (Nat.le_of_ble_eq_true rfl) (Nat.le_of_ble_eq_true rfl) rfl (Nat.le_of_ble_eq_true rfl) (fun v h2 hq => ?_) (fun E9 h9 hq => hq.elim)
  obtain ⟨rfl, rfl⟩ := hq
  exact w_zret hf dJ0_charAt_5068e_15 rfl (sc_nar _) (Nat.le_of_ble_eq_true rfl) (Nat.le_of_ble_eq_true rfl) ⟨rfl, rfl⟩
theorem s_J1_canEncode_9a6ad {h : Hp} {c : Int32} : ∀ l : Launch, Sp l mJ1_canEncode_9a6ad 0 0 0 [.int c] h (Qt h (if c < 0 ∨ 255 < c then 0 else 1)) X0 := by
  intro l
  refine Sp.of (by decide +kernel) rfl (lv := [(0, .int c)]) (Nat.le_of_ble_eq_true rfl) rfl (fun x hf hrm => ?_)
  refine w_iload_n 0 dJ1_canEncode_9a6ad_0 rfl rfl rfl ?_
  refine w_if_lt 15 dJ1_canEncode_9a6ad_1 rfl rfl (fun q => ?_) (fun q => ?_)
  · rw [if_pos (Or.inl q)] at hf
    refine w_iconst 0 dJ1_canEncode_9a6ad_15 rfl rfl ?_
    exact w_zret hf dJ1_canEncode_9a6ad_16 rfl rfl (Nat.le_of_ble_eq_true rfl) (Nat.le_of_ble_eq_true rfl) ⟨rfl, rfl⟩
  refine w_iload_n 0 dJ1_canEncode_9a6ad_4 rfl rfl rfl ?_
  refine w_sipush 255 dJ1_canEncode_9a6ad_5 rfl rfl ?_
  refine w_icmp_gt 15 dJ1_canEncode_9a6ad_8 rfl rfl (fun q2 => ?_) (fun q2 => ?_)
  · rw [if_pos (Or.inr q2)] at hf
    refine w_iconst 0 dJ1_canEncode_9a6ad_15 rfl rfl ?_
    exact w_zret hf dJ1_canEncode_9a6ad_16 rfl rfl (Nat.le_of_ble_eq_true rfl) (Nat.le_of_ble_eq_true rfl) ⟨rfl, rfl⟩
  rw [if_neg (fun z => z.elim q q2)] at hf
  refine w_iconst 1 dJ1_canEncode_9a6ad_11 rfl rfl ?_
  refine w_goto 16 dJ1_canEncode_9a6ad_12 rfl ?_
  exact w_zret hf dJ1_canEncode_9a6ad_16 rfl rfl (Nat.le_of_ble_eq_true rfl) (Nat.le_of_ble_eq_true rfl) ⟨rfl, rfl⟩
theorem x_ixl {h : Hp} {i n f : Nat} {x : Cxt} {c : Int32} (hi : i < 6) (hn : n < 256) {v : Int32} (hf : m_fin 0 0 (Qt h v) X0 x) : ∀ (l : List Int32) (k : Nat), k ≤ m_len.getD i 0 → (tx_b i).drop k = l → v = tx_ixF (nI n) l k → wp x mJ1_indexOfChar_4cfef 7 [(5, .int (nI k)), (4, .int (nI n).toInt8.toInt32), (0, .ref (xV x i)), (1, .int c), (2, .int (nI f)), (3, .int (tx_len i))] [] h 0 0 := by
  obtain ⟨hl, hL, hb⟩ := tx_all i hi
  intro l
  induction l with
  | nil =>
    intro k hk e hv
    have q : (tx_b i).length ≤ k := List.drop_eq_nil_iff.mp e
    subst hv
    refine w_iload 0 dJ1_indexOfChar_4cfef_7 rfl rfl ?_
    refine w_iload_n 5 dJ1_indexOfChar_4cfef_9 rfl rfl rfl ?_
    refine w_icmp_ge 31 dJ1_indexOfChar_4cfef_10 rfl rfl (fun _ => ?_) (fun z => absurd (nI_le (by omega) (by omega)) z)
    refine w_iconst (-1) dJ1_indexOfChar_4cfef_31 rfl rfl ?_
    exact w_iret hf dJ1_indexOfChar_4cfef_32 rfl (Nat.le_of_ble_eq_true rfl) (Nat.le_of_ble_eq_true rfl) ⟨rfl, rfl⟩
  | cons b l ih =>
    intro k hk e hv
    obtain ⟨h1, h2, h3, h4⟩ := sc_dropC e
    refine w_iload 0 dJ1_indexOfChar_4cfef_7 rfl rfl ?_
    refine w_iload_n 5 dJ1_indexOfChar_4cfef_9 rfl rfl rfl ?_
    refine w_icmp_ge 31 dJ1_indexOfChar_4cfef_10 rfl rfl (fun z => absurd z (nI_ge (by omega) (by omega))) (fun _ => ?_)
    refine w_aload_n 2 dJ1_indexOfChar_4cfef_13 rfl rfl rfl ?_
    refine w_iload 0 dJ1_indexOfChar_4cfef_14 rfl rfl ?_
    refine w_tb hi dJ1_indexOfChar_4cfef_16 rfl (vp_in_nI (by omega) (by omega)) ?_
    rw [nI_clamp (by omega), h2]
    refine w_iload 1 dJ1_indexOfChar_4cfef_17 rfl rfl ?_
    rw [tx_ixF] at hv
    refine w_icmp_ne 25 dJ1_indexOfChar_4cfef_19 rfl rfl (fun z => ?_) (fun z => ?_)
    · rw [if_neg (fun q => z ((sc_eq (hb b h4) hn).mpr q))] at hv
      refine w_iinc 0 (nI (k + 1)) _ dJ1_indexOfChar_4cfef_25 rfl rfl (nI_succ _).symm (Nat.le_of_ble_eq_true rfl) rfl ?_
      refine w_goto 7 dJ1_indexOfChar_4cfef_28 rfl ?_
      exact ih (k + 1) (by omega) h3 hv
    · rw [if_pos ((sc_eq (hb b h4) hn).mp z)] at hv
      subst hv
      refine w_iload 0 dJ1_indexOfChar_4cfef_22 rfl rfl ?_
      exact w_iret hf dJ1_indexOfChar_4cfef_24 rfl (Nat.le_of_ble_eq_true rfl) (Nat.le_of_ble_eq_true rfl) ⟨rfl, rfl⟩
theorem s_J1_indexOfChar_4cfef {h : Hp} {i n f : Nat} (hi : i < 6) (hn : n < 256) (hfl : f ≤ m_len.getD i 0) : ∀ l : Launch, SpK l mJ1_indexOfChar_4cfef 0 0 0 (fun _ aV => [.ref (aV i), .int (nI n), .int (nI f), .int (tx_len i)]) h (Qt h (tx_ixF (nI n) ((tx_b i).drop f) f)) X0 := by
  intro l
  refine SpK.of (by decide +kernel) rfl (lv := fun _ aV => [(0, .ref (aV i)), (1, .int (nI n)), (2, .int (nI f)), (3, .int (tx_len i))]) (fun aK aV => (Nat.le_of_ble_eq_true rfl)) (fun aK aV => rfl) (fun x hf hrm => ?_)
  refine w_iload_n 1 dJ1_indexOfChar_4cfef_0 rfl rfl rfl ?_
  refine w_i2b dJ1_indexOfChar_4cfef_1 rfl ?_
  refine w_istore _ dJ1_indexOfChar_4cfef_2 rfl (Nat.le_of_ble_eq_true rfl) rfl ?_
  refine w_iload_n 3 dJ1_indexOfChar_4cfef_4 rfl rfl rfl ?_
  refine w_istore _ dJ1_indexOfChar_4cfef_5 rfl (Nat.le_of_ble_eq_true rfl) rfl ?_
  exact x_ixl hi hn hf _ f hfl rfl rfl
theorem s_J1_indexOf_4cfef {h : Hp} {i f : Nat} {c : Int32} (hi : i < 6) (hf31 : f < 2 ^ 31) : ∀ l : Launch, SpK l mJ1_indexOf_4cfef 1 0 0 (fun _ aV => [.ref (aV i), .int c, .int (nI f), .int (tx_len i)]) h (Qt h (tx_ixF c ((tx_b i).drop f) f)) X0 := by
  intro l
  refine SpK.of (by decide +kernel) rfl (lv := fun _ aV => [(0, .ref (aV i)), (1, .int c), (2, .int (nI f)), (3, .int (tx_len i))]) (fun aK aV => (Nat.le_of_ble_eq_true rfl)) (fun aK aV => rfl) (fun x hf hrm => ?_)
  obtain ⟨hl, hL, hb⟩ := tx_all i hi
  have out : (c < 0 ∨ 255 < c) → tx_ixF c ((tx_b i).drop f) f = -1 := by
    intro z
    refine tx_ixF_out (fun b e => ?_) _ _
    obtain ⟨j, hj, e2⟩ := pk_andE b (m := 255) 8 (by decide)
    rw [← e, e2] at z
    rcases z with z | z
    · exact nI_pos (by omega) z
    · exact nI_nlt (a := 255) (b := j) (by omega) (by omega) z
  refine w_iload_n 1 dJ1_indexOf_4cfef_0 rfl rfl rfl ?_
  refine w_callS (n := 1) (As := [.int c]) (rest := []) (fun l => s_J1_canEncode_9a6ad (c := c) l) hrm dJ1_indexOf_4cfef_1 rfl x_ml_RJ1_88 x_st_J1_canEncode_9a6ad x_in_RJ1 x_co_J1_canEncode_9a6ad ⟨by decide +kernel, by decide +kernel, by decide +kernel⟩ rfl (Nat.le_of_ble_eq_true rfl) (Nat.le_of_ble_eq_true rfl) (Nat.le_of_ble_eq_true rfl) (Nat.le_of_ble_eq_true rfl) rfl (Nat.le_of_ble_eq_true rfl) (fun v h2 hq => ?_) (fun E9 h9 hq => hq.elim)
  obtain ⟨rfl, rfl⟩ := hq
  by_cases hc : c < 0 ∨ 255 < c
  · rw [if_pos hc]
    rw [out hc] at hf
    refine w_if_ne 9 dJ1_indexOf_4cfef_4 rfl rfl (fun q => absurd rfl q) (fun _ => ?_)
    refine w_iconst (-1) dJ1_indexOf_4cfef_7 rfl rfl ?_
    exact w_iret hf dJ1_indexOf_4cfef_8 rfl (Nat.le_of_ble_eq_true rfl) (Nat.le_of_ble_eq_true rfl) ⟨rfl, rfl⟩
  rw [if_neg hc]
  refine w_if_ne 9 dJ1_indexOf_4cfef_4 rfl rfl (fun _ => ?_) (fun q => absurd q (by decide))
  obtain ⟨n, hn, rfl⟩ := nI_of (fun q => hc (Or.inl q))
  have h256 : n < 256 := by
    rcases Nat.lt_or_ge n 256 with q | q
    · exact q
    · exact absurd (Or.inr (nI_lt (a := 255) (b := n) (by omega) hn)) hc
  refine w_iload_n 2 dJ1_indexOf_4cfef_9 rfl rfl rfl ?_
  refine w_iconst 0 dJ1_indexOf_4cfef_10 rfl rfl ?_
  refine w_mmax hrm (Nat.le_of_ble_eq_true rfl) dJ1_indexOf_4cfef_11 rfl x_ml_RJ1_92 (Nat.le_of_ble_eq_true rfl) (Nat.le_of_ble_eq_true rfl) (Nat.le_of_ble_eq_true rfl) ?_
  rw [show p_max (nI f) 0 = nI f from if_neg (nI_pos hf31)]
  refine w_istore_n _ dJ1_indexOf_4cfef_14 rfl rfl (Nat.le_of_ble_eq_true rfl) rfl ?_
  refine w_iload_n 3 dJ1_indexOf_4cfef_15 rfl rfl rfl ?_
  refine w_aload_n 1 dJ1_indexOf_4cfef_16 rfl rfl rfl ?_
  refine w_tlen hi dJ1_indexOf_4cfef_17 rfl ?_
  refine w_mmin hrm (Nat.le_of_ble_eq_true rfl) dJ1_indexOf_4cfef_18 rfl x_ml_RJ1_38 (Nat.le_of_ble_eq_true rfl) (Nat.le_of_ble_eq_true rfl) (Nat.le_of_ble_eq_true rfl) ?_
  rw [show p_min (tx_len i) (tx_len i) = tx_len i from ite_self _]
  refine w_istore_n _ dJ1_indexOf_4cfef_21 rfl rfl (Nat.le_of_ble_eq_true rfl) rfl ?_
  refine w_iload_n 1 dJ1_indexOf_4cfef_22 rfl rfl rfl ?_
  refine w_iload_n 0 dJ1_indexOf_4cfef_23 rfl rfl rfl ?_
  refine w_icmp_lt 29 dJ1_indexOf_4cfef_24 rfl rfl (fun q => ?_) (fun q => ?_)
  · have hfl : f < m_len.getD i 0 := b_lt hf31 (by omega) q
    refine w_aload_n 2 dJ1_indexOf_4cfef_29 rfl rfl rfl ?_
    refine w_iload_n 3 dJ1_indexOf_4cfef_30 rfl rfl rfl ?_
    refine w_iload_n 1 dJ1_indexOf_4cfef_31 rfl rfl rfl ?_
    refine w_iload_n 0 dJ1_indexOf_4cfef_32 rfl rfl rfl ?_
    refine w_callSK (n := 4) (As := fun _ aV => [.ref (aV i), .int (nI n), .int (nI f), .int (tx_len i)]) (rest := []) (fun l => s_J1_indexOfChar_4cfef hi h256 (Nat.le_of_lt hfl) l) hrm dJ1_indexOf_4cfef_33 rfl x_ml_RJ1_95 x_st_J1_indexOfChar_4cfef x_in_RJ1 x_co_J1_indexOfChar_4cfef ⟨by decide +kernel, by decide +kernel, by decide +kernel⟩ (fun _ _ => rfl) (Nat.le_of_ble_eq_true rfl) (Nat.le_of_ble_eq_true rfl) (Nat.le_of_ble_eq_true rfl) (Nat.le_of_ble_eq_true rfl) rfl (Nat.le_of_ble_eq_true rfl) (fun v h2 hq => ?_) (fun E9 h9 hq => hq.elim)
    obtain ⟨rfl, rfl⟩ := hq
    exact w_iret hf dJ1_indexOf_4cfef_36 rfl (Nat.le_of_ble_eq_true rfl) (Nat.le_of_ble_eq_true rfl) ⟨rfl, rfl⟩
  · have hfl : m_len.getD i 0 ≤ f := b_nlt hf31 (by omega) q
    rw [show (tx_b i).drop f = [] from List.drop_eq_nil_iff.mpr (by omega)] at hf
    refine w_iconst (-1) dJ1_indexOf_4cfef_27 rfl rfl ?_
    exact w_iret hf dJ1_indexOf_4cfef_28 rfl (Nat.le_of_ble_eq_true rfl) (Nat.le_of_ble_eq_true rfl) ⟨rfl, rfl⟩
theorem s_J0_indexOf_7cf53 {h : Hp} {i f : Nat} {c : Int32} (hi : i < 6) (hf31 : f < 2 ^ 31) : ∀ l : Launch, SpK l mJ0_indexOf_7cf53 2 0 0 (fun aK _ => [.ref (aK i), .int c, .int (nI f)]) h (Qt h (tx_ixF c ((tx_b i).drop f) f)) X0 := by
  intro l
  refine SpK.of (by decide +kernel) rfl (lv := fun aK _ => [(0, .ref (aK i)), (1, .int c), (2, .int (nI f))]) (fun aK aV => (Nat.le_of_ble_eq_true rfl)) (fun aK aV => rfl) (fun x hf hrm => ?_)
  refine w_aload_n 0 dJ0_indexOf_7cf53_0 rfl rfl rfl ?_
  refine w_callVK (n := 0) (As := []) (rest := []) hi (fun l => s_J0_isLatin1_aae02 hi l) hrm dJ0_indexOf_7cf53_1 rfl x_ml_RJ0_492 x_im_J0_isLatin1_aae02 x_se_J0_isLatin1_aae02 x_co_J0_isLatin1_aae02 ⟨rfl, by decide +kernel, by decide +kernel, by decide +kernel⟩ rfl (Nat.le_of_ble_eq_true rfl) (Nat.le_of_ble_eq_true rfl) (Nat.le_of_ble_eq_true rfl) (Nat.le_of_ble_eq_true rfl) rfl (Nat.le_of_ble_eq_true rfl) (fun v h2 hq => ?_) (fun E9 h9 hq => hq.elim)
  obtain ⟨rfl, rfl⟩ := hq
  refine w_if_eq 23 dJ0_indexOf_7cf53_4 rfl rfl (fun q => absurd q (by decide)) (fun _ => ?_)
  refine w_aload_n 0 dJ0_indexOf_7cf53_7 rfl rfl rfl ?_
  refine w_tv hi dJ0_indexOf_7cf53_8 rfl ?_
  refine w_iload_n 1 dJ0_indexOf_7cf53_11 rfl rfl rfl ?_
  refine w_iload_n 2 dJ0_indexOf_7cf53_12 rfl rfl rfl ?_
  refine w_aload_n 0 dJ0_indexOf_7cf53_13 rfl rfl rfl ?_
  refine w_callVK (n := 0) (As := []) (rest := [.int (nI f), .int c, .ref (xV x i)]) hi (fun l => s_J0_length_8abf5 hi l) hrm dJ0_indexOf_7cf53_14 rfl x_ml_RJ0_505 x_im_J0_length_8abf5 x_se_J0_length_8abf5 x_co_J0_length_8abf5 ⟨rfl, by decide +kernel, by decide +kernel, by decide +kernel⟩ rfl (Nat.le_of_ble_eq_true rfl) (Nat.le_of_ble_eq_true rfl) (Nat.le_of_ble_eq_true rfl) (Nat.le_of_ble_eq_true rfl) rfl (Nat.le_of_ble_eq_true rfl) (fun v h2 hq => ?_) (fun E9 h9 hq => hq.elim)
  obtain ⟨rfl, rfl⟩ := hq
  refine w_callSK (n := 4) (As := fun _ aV => [.ref (aV i), .int c, .int (nI f), .int (tx_len i)]) (rest := []) (fun l => s_J1_indexOf_4cfef hi hf31 l) hrm dJ0_indexOf_7cf53_17 rfl x_ml_RJ0_637 x_st_J1_indexOf_4cfef x_in_RJ1 x_co_J1_indexOf_4cfef ⟨by decide +kernel, by decide +kernel, by decide +kernel⟩ (fun _ _ => rfl) (Nat.le_of_ble_eq_true rfl) (Nat.le_of_ble_eq_true rfl) (Nat.le_of_ble_eq_true rfl) (Nat.le_of_ble_eq_true rfl) rfl (Nat.le_of_ble_eq_true rfl) (fun v h2 hq => ?_) (fun E9 h9 hq => hq.elim)
  obtain ⟨rfl, rfl⟩ := hq
  refine w_goto 36 dJ0_indexOf_7cf53_20 rfl ?_
  exact w_iret hf dJ0_indexOf_7cf53_36 rfl (Nat.le_of_ble_eq_true rfl) (Nat.le_of_ble_eq_true rfl) ⟨rfl, rfl⟩
theorem s_J0_indexOf_0f7a4 {h : Hp} {i : Nat} {c : Int32} (hi : i < 6) : ∀ l : Launch, SpK l mJ0_indexOf_0f7a4 3 0 0 (fun aK _ => [.ref (aK i), .int c]) h (Qt h (tx_ix i c)) X0 := by
  intro l
  refine SpK.of (by decide +kernel) rfl (lv := fun aK _ => [(0, .ref (aK i)), (1, .int c)]) (fun aK aV => (Nat.le_of_ble_eq_true rfl)) (fun aK aV => rfl) (fun x hf hrm => ?_)
  refine w_aload_n 0 dJ0_indexOf_0f7a4_0 rfl rfl rfl ?_
  refine w_iload_n 1 dJ0_indexOf_0f7a4_1 rfl rfl rfl ?_
  refine w_iconst 0 dJ0_indexOf_0f7a4_2 rfl rfl ?_
  refine w_callVK (n := 2) (As := [.int c, .int (nI 0)]) (rest := []) hi (fun l => s_J0_indexOf_7cf53 hi (by decide) l) hrm dJ0_indexOf_0f7a4_3 rfl x_ml_RJ0_633 x_im_J0_indexOf_7cf53 x_se_J0_indexOf_7cf53 x_co_J0_indexOf_7cf53 ⟨rfl, by decide +kernel, by decide +kernel, by decide +kernel⟩ rfl (Nat.le_of_ble_eq_true rfl) (Nat.le_of_ble_eq_true rfl) (Nat.le_of_ble_eq_true rfl) (Nat.le_of_ble_eq_true rfl) rfl (Nat.le_of_ble_eq_true rfl) (fun v h2 hq => ?_) (fun E9 h9 hq => hq.elim)
  obtain ⟨rfl, rfl⟩ := hq
  exact w_iret hf dJ0_indexOf_0f7a4_6 rfl (Nat.le_of_ble_eq_true rfl) (Nat.le_of_ble_eq_true rfl) ⟨rfl, rfl⟩
section K19b
variable {x : Cxt} {M : MI} {pc pc' : Nat} {lv lv' : List (Nat × Value)} {st : List Value} {h : Hp} {kc ks dd Mc Ms index : Nat}
theorem w_tx_len (i : Nat) (hrm : m_rm dd Mc Ms x) (hdd : 10 ≤ dd) (hd : decode M.2.1 pc = .ok (.invokevirtual index, 3)) (hp : pc + 3 = pc') (h1 : Cond.methodLink M.1 index yJ0_length_8abf5 ∈ m_TW) (hi : i < 6) (hcat : (st.map fun v => v.category).sum ≤ 8) (hmc : kc ≤ Mc) (hms : ks ≤ Ms) (k : wp x M pc' lv (.int (tx_len i) :: st) h kc ks) : wp x M pc lv (.ref (xK x i) :: st) h kc ks := by
  refine w_callVK (n := 0) (As := []) (rest := st) hi (fun l => s_J0_length_8abf5 hi l) hrm hd hp h1 x_im_J0_length_8abf5 x_se_J0_length_8abf5 x_co_J0_length_8abf5 ⟨rfl, by decide +kernel, by decide +kernel, by decide +kernel⟩ rfl (Nat.le_trans (Nat.le_of_ble_eq_true rfl) hdd) (Nat.le_of_ble_eq_true rfl) hmc hms rfl hcat (fun v h2 hq => ?_) (fun E9 h9 hq => hq.elim)
  obtain ⟨rfl, rfl⟩ := hq
  exact k
theorem w_tx_at (i : Nat) {c : Int32} (hrm : m_rm dd Mc Ms x) (hdd : 10 ≤ dd) (hd : decode M.2.1 pc = .ok (.invokevirtual index, 3)) (hp : pc + 3 = pc') (h1 : Cond.methodLink M.1 index yJ0_charAt_5068e ∈ m_TW) (hi : i < 6) (hg : gi c (m_len.getD i 0)) (hcat : (st.map fun v => v.category).sum ≤ 8) (hmc : kc ≤ Mc) (hms : ks ≤ Ms) (k : wp x M pc' lv (.int (tx_at i c) :: st) h kc ks) : wp x M pc lv (.int c :: .ref (xK x i) :: st) h kc ks := by
  refine w_callVK (n := 1) (As := [.int c]) (rest := st) hi (fun l => s_J0_charAt_5068e hi hg l) hrm hd hp h1 x_im_J0_charAt_5068e x_se_J0_charAt_5068e x_co_J0_charAt_5068e ⟨rfl, by decide +kernel, by decide +kernel, by decide +kernel⟩ rfl (Nat.le_trans (Nat.le_of_ble_eq_true rfl) hdd) (Nat.le_of_ble_eq_true rfl) hmc hms rfl hcat (fun v h2 hq => ?_) (fun E9 h9 hq => hq.elim)
  obtain ⟨rfl, rfl⟩ := hq
  exact k
theorem w_tx_ix (i : Nat) {c : Int32} (hrm : m_rm dd Mc Ms x) (hdd : 10 ≤ dd) (hd : decode M.2.1 pc = .ok (.invokevirtual index, 3)) (hp : pc + 3 = pc') (h1 : Cond.methodLink M.1 index yJ0_indexOf_0f7a4 ∈ m_TW) (hi : i < 6) (hcat : (st.map fun v => v.category).sum ≤ 8) (hmc : kc ≤ Mc) (hms : ks ≤ Ms) (k : wp x M pc' lv (.int (tx_ix i c) :: st) h kc ks) : wp x M pc lv (.int c :: .ref (xK x i) :: st) h kc ks := by
  refine w_callVK (n := 1) (As := [.int c]) (rest := st) hi (fun l => s_J0_indexOf_0f7a4 hi l) hrm hd hp h1 x_im_J0_indexOf_0f7a4 x_se_J0_indexOf_0f7a4 x_co_J0_indexOf_0f7a4 ⟨rfl, by decide +kernel, by decide +kernel, by decide +kernel⟩ rfl (Nat.le_trans (Nat.le_of_ble_eq_true rfl) hdd) (Nat.le_of_ble_eq_true rfl) hmc hms rfl hcat (fun v h2 hq => ?_) (fun E9 h9 hq => hq.elim)
  obtain ⟨rfl, rfl⟩ := hq
  exact k
theorem w_tx_ixf (i : Nat) {c f : Int32} (hrm : m_rm dd Mc Ms x) (hdd : 10 ≤ dd) (hd : decode M.2.1 pc = .ok (.invokevirtual index, 3)) (hp : pc + 3 = pc') (h1 : Cond.methodLink M.1 index yJ0_indexOf_7cf53 ∈ m_TW) (hi : i < 6) (hf : 0 ≤ f) (hcat : (st.map fun v => v.category).sum ≤ 8) (hmc : kc ≤ Mc) (hms : ks ≤ Ms) (k : wp x M pc' lv (.int (tx_ixf i c f) :: st) h kc ks) : wp x M pc lv (.int f :: .int c :: .ref (xK x i) :: st) h kc ks := by
  obtain ⟨j, hj, rfl⟩ := nI_of (Int32.not_lt.mpr hf)
  refine w_callVK (n := 2) (As := [.int c, .int (nI j)]) (rest := st) hi (fun l => s_J0_indexOf_7cf53 hi hj l) hrm hd hp h1 x_im_J0_indexOf_7cf53 x_se_J0_indexOf_7cf53 x_co_J0_indexOf_7cf53 ⟨rfl, by decide +kernel, by decide +kernel, by decide +kernel⟩ rfl (Nat.le_trans (Nat.le_of_ble_eq_true rfl) hdd) (Nat.le_of_ble_eq_true rfl) hmc hms rfl hcat (fun v h2 hq => ?_) (fun E9 h9 hq => hq.elim)
  obtain ⟨rfl, rfl⟩ := hq
  rw [tx_ixf, nI_clamp hj] at k
  exact k
end K19b
