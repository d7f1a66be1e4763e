/-! THE WORLD: the store in the heap; words; contexts; wp -/
/-- the words of the tables that stay good -/
def m_TW : List Cond := lw_tbl.filter goodWord
theorem m_in {w : Cond} (h : w ∈ lw_tbl) (g : goodWord w = true) : w ∈ m_TW := List.mem_filter.mpr ⟨h, g⟩
theorem m_TWg : GoodIn m_TW m_TW := fun w h => ⟨h, good_of_word (List.mem_filter.mp h).2⟩
theorem m_TWc {ws : List Cond} (h : ∀ w ∈ ws, w ∈ m_TW) : GoodIn m_TW (ws ++ m_TW) := fun w hw => (List.mem_append.mp hw).elim (fun q => m_TWg w (h w q)) (fun q => m_TWg w q)
def m_tys (ca : Nat → ClassId) : List (ClassId × FieldType) := [(ca 20, .int), (ca 21, .long), (ca 22, .byte), (ca 23, .boolean), (ca 24, .object RX0), (ca 25, .object RX2), (ca 26, .object RX6), (ca 27, .object RX7)]
def m_W (D : va_G) (ca : Nat → ClassId) (h : Hp) (L : List Nat) (A : Nat → Prop) (H : Heap) : Prop := va_P D vwCl (va_pl L (m_E ca h)) H ∧ va_D A (va_pl L (m_E ca h)) ∧ ∀ a, a ∈ L ↔ m_K h a < 28
def m_nw : Cond → Bool
  | .fieldLinkNest .. => true
  | .methodLinkNest .. => true
  | .castable .. => true
  | .declares _ => true
  | .privateMethod _ => true
  | .arrayOver (.object _) => true
  | _ => false
def m_NW : List Cond := tables_1.filter m_nw
theorem m_pm_warm {y : MethodName} {s U : State} (hW : s.WarmedH U.vm) (h : va_Nw (.privateMethod y) s) : va_Nw (.privateMethod y) U := va_tabs (A := #[]) rfl (rfl : (s.setVm U.vm).vm = U.vm) (by
  have hal := hW.alike
  have e2 : U.vm.method? = s.vm.method? := funext hal.method?
  have h2 : (Cond.privateMethod y).before #[] s = true := h
  simp only [Cond.before, Cond.holds, Cond.value, State.methodNamed?_setVm hal, State.vm_setVm, e2] at h2 ⊢
  exact h2)
theorem m_nw_warm {s U : State} (hW : s.WarmedH U.vm) (h : ∀ w ∈ m_NW, va_Nw w s) : ∀ w ∈ m_NW, va_Nw w U := by
  intro w hw
  have h1 := h w hw
  have h2 := (List.mem_filter.mp hw).2
  cases w <;> first | exact va_Nw.warmF hW h1 | exact va_Nw.warmM hW h1 | exact va_Nw.warmC hW h1 | exact va_Nw.warmD hW h1 | exact m_pm_warm hW h1 | (simp [m_nw] at h2; done) | (rename_i ty; cases ty <;> first | exact va_AO.moved hW.alike h1 | (simp [m_nw] at h2; done))
theorem m_nw_same {u U : State} (hv : u.vm = U.vm) (h : ∀ w ∈ m_NW, va_Nw w u) : ∀ w ∈ m_NW, va_Nw w U := by
  intro w hw
  have h1 := h w hw
  have h2 := (List.mem_filter.mp hw).2
  cases w <;> first | exact va_Nw.same rfl hv h1 | (simp [m_nw] at h2; done) | (rename_i ty; cases ty <;> first | exact va_AO.moved (by rw [hv]; exact Vm.Alike.refl _) h1 | (simp [m_nw] at h2; done))
def m_kw : String := "source delay step keep where make with pick merge join on within first by window every late check else drop hold stop sum count least most last time and or not abs"
def m_sy : String := "(),:=+-*/%<>"
def m_t1 : String := "source s (k, v) delay 3 step a = keep s where v > "
def m_t2 : String := " step b = keep s where not (v > "
def m_t3 : String := ") step w = window s by k every "
def m_t4 : String := " (c = count, t = sum v) check s: v <> 2 else drop check s: v <> 5 else hold"
def m_len : List Nat := [163, 12, 50, 32, 31, 75]
def m_byt : List (List Int32) := [[115, 111, 117, 114, 99, 101, 32, 100, 101, 108, 97, 121, 32, 115, 116, 101, 112, 32, 107, 101, 101, 112, 32, 119, 104, 101, 114, 101, 32, 109, 97, 107, 101, 32, 119, 105, 116, 104, 32, 112, 105, 99, 107, 32, 109, 101, 114, 103, 101, 32, 106, 111, 105, 110, 32, 111, 110, 32, 119, 105, 116, 104, 105, 110, 32, 102, 105, 114, 115, 116, 32, 98, 121, 32, 119, 105, 110, 100, 111, 119, 32, 101, 118, 101, 114, 121, 32, 108, 97, 116, 101, 32, 99, 104, 101, 99, 107, 32, 101, 108, 115, 101, 32, 100, 114, 111, 112, 32, 104, 111, 108, 100, 32, 115, 116, 111, 112, 32, 115, 117, 109, 32, 99, 111, 117, 110, 116, 32, 108, 101, 97, 115, 116, 32, 109, 111, 115, 116, 32, 108, 97, 115, 116, 32, 116, 105, 109, 101, 32, 97, 110, 100, 32, 111, 114, 32, 110, 111, 116, 32, 97, 98, 115], [40, 41, 44, 58, 61, 43, 45, 42, 47, 37, 60, 62], [115, 111, 117, 114, 99, 101, 32, 115, 32, 40, 107, 44, 32, 118, 41, 32, 100, 101, 108, 97, 121, 32, 51, 32, 115, 116, 101, 112, 32, 97, 32, 61, 32, 107, 101, 101, 112, 32, 115, 32, 119, 104, 101, 114, 101, 32, 118, 32, 62, 32], [32, 115, 116, 101, 112, 32, 98, 32, 61, 32, 107, 101, 101, 112, 32, 115, 32, 119, 104, 101, 114, 101, 32, 110, 111, 116, 32, 40, 118, 32, 62, 32], [41, 32, 115, 116, 101, 112, 32, 119, 32, 61, 32, 119, 105, 110, 100, 111, 119, 32, 115, 32, 98, 121, 32, 107, 32, 101, 118, 101, 114, 121, 32], [32, 40, 99, 32, 61, 32, 99, 111, 117, 110, 116, 44, 32, 116, 32, 61, 32, 115, 117, 109, 32, 118, 41, 32, 99, 104, 101, 99, 107, 32, 115, 58, 32, 118, 32, 60, 62, 32, 50, 32, 101, 108, 115, 101, 32, 100, 114, 111, 112, 32, 99, 104, 101, 99, 107, 32, 115, 58, 32, 118, 32, 60, 62, 32, 53, 32, 101, 108, 115, 101, 32, 104, 111, 108, 100]]
/-- what a run of the class takes from its start and nobody writes: statics of throws, texts -/
def m_ex (aK aV : Nat → Nat) (B : Nat → Prop) (U : State) (H : Heap) : Prop :=
  (vx_Zq Bundle.tN "UNASSIGNED_STACK" Bundle.steD B U H ∧ vx_Zq Bundle.tN "SUPPRESSED_SENTINEL" Bundle.listD B U H) ∧
  (vk_S 6 m_len m_byt aK aV B U H ∧ va_Z "java/lang/String" "COMPACT_STRINGS" "Z" (.int 1) B U H ∧ va_Zq "jdk/internal/util/Preconditions" "SIOOBE_FORMATTER" "Ljava/util/function/BiFunction;" B U H) ∧
  (vk_R "StreamDesk$Tokens" 25 m_kw (aK 0) U ∧ vk_R "StreamDesk$Tokens" 68 m_sy (aK 1) U ∧ vk_R "StreamDeskLaw" 59 m_t1 (aK 2) U ∧ vk_R "StreamDeskLaw" 68 m_t2 (aK 3) U ∧ vk_R "StreamDeskLaw" 70 m_t3 (aK 4) U ∧ vk_R "StreamDeskLaw" 72 m_t4 (aK 5) U) ∧
  (va_Z "java/lang/Integer" "DigitOnes" "[B" (.ref (aV 6)) B U H ∧ va_T .byte (aV 6) 100 (fun j => .int (nI (48 + j % 10))) B U H) ∧ (va_Z "java/lang/Integer" "DigitTens" "[B" (.ref (aV 7)) B U H ∧ va_T .byte (aV 7) 100 (fun j => .int (nI (48 + j / 10))) B U H)
theorem m_ex.next {aK aV : Nat → Nat} {A B : Nat → Prop} {s U : State} {H0 H : Heap} (hW : s.WarmedH U.vm) (hk : ∀ a : Nat, a < H0.size → ¬ A a → H[a]? = H0[a]?) (hB : ∀ q, B q → A q) (h : m_ex aK aV A s H0) : m_ex aK aV B U H := by
  obtain ⟨⟨h1, h2⟩, ⟨h3, h4, h5⟩, ⟨h6, h7, h8, h9, h10, h11⟩, ⟨d1, d2⟩, d3, d4⟩ := h
  have hv := hW.alike
  exact ⟨⟨((h1.kept hk).moved hv).narrow hB, ((h2.kept hk).moved hv).narrow hB⟩, ⟨((h3.kept hk).moved hv).narrow hB, ((h4.kept hk).moved hv).narrow hB, ((h5.kept hk).moved hv).narrow hB⟩, ⟨h6.warm hW, h7.warm hW, h8.warm hW, h9.warm hW, h10.warm hW, h11.warm hW⟩, ⟨((d1.kept hk).moved hv).narrow hB, ((d2.kept hk).moved hv).narrow hB⟩, ((d3.kept hk).moved hv).narrow hB, ((d4.kept hk).moved hv).narrow hB⟩
theorem m_ex.same {aK aV : Nat → Nat} {B : Nat → Prop} {u U : State} {H : Heap} (hv : U.vm = u.vm) (h : m_ex aK aV B u H) : m_ex aK aV B U H := by
  obtain ⟨⟨h1, h2⟩, ⟨h3, h4, h5⟩, ⟨h6, h7, h8, h9, h10, h11⟩, ⟨d1, d2⟩, d3, d4⟩ := h
  have ha : u.vm.Alike U.vm := by rw [hv]; exact Vm.Alike.refl _
  exact ⟨⟨h1.moved ha, h2.moved ha⟩, ⟨h3.moved ha, h4.moved ha, h5.moved ha⟩, ⟨h6.same hv, h7.same hv, h8.same hv, h9.same hv, h10.same hv, h11.same hv⟩, ⟨d1.moved ha, d2.moved ha⟩, d3.moved ha, d4.moved ha⟩
section WID
variable {A B : Nat → Prop} {U : State} {H : Heap} (hAB : ∀ q, A q → B q ∨ H.size ≤ q)
theorem m_w_lt {a : Nat} {cell : Cell} (hAB : ∀ q, A q → B q ∨ H.size ≤ q) (h : H[a]? = some cell) (n : ¬ B a) : ¬ A a := fun q => by
  have h1 := (Array.getElem?_eq_some_iff.mp h).1
  rcases hAB a q with h2 | h2
  · exact n h2
  · omega
theorem m_w_Z {C n d : String} {v : Value} (hAB : ∀ q, A q → B q ∨ H.size ≤ q) (h : va_Z C n d v B U H) : va_Z C n d v A U H := by
  obtain ⟨cf, kf, fi, f, a, cell, h1, h2, h3, h4, h5, h6, h7, h8⟩ := h
  exact ⟨cf, kf, fi, f, a, cell, h1, h2, h3, h4, h5, h6, h7, m_w_lt hAB h5 h8⟩
theorem m_w_T {ty : FieldType} {t N : Nat} {f : Nat → Value} (hAB : ∀ q, A q → B q ∨ H.size ≤ q) (h : va_T ty t N f B U H) : va_T ty t N f A U H := by
  obtain ⟨cell, h1, h2, h3, h4, h5, h6, h7⟩ := h
  exact ⟨cell, h1, h2, h3, h4, h5, h6, m_w_lt hAB h1 h7⟩
theorem m_w_Zq {C n d : String} (hAB : ∀ q, A q → B q ∨ H.size ≤ q) (h : va_Zq C n d B U H) : va_Zq C n d A U H := by
  rcases h with h | ⟨t, h⟩
  · exact Or.inl (m_w_Z hAB h)
  · exact Or.inr ⟨t, m_w_Z hAB h⟩
theorem m_w_L {C n d : String} (hAB : ∀ q, A q → B q ∨ H.size ≤ q) (h : vx_L C n d B U H) : vx_L C n d A U H := by
  obtain ⟨c, k, i, f, a, cell, h1, h2, h3, h4, h5, h6, h7, h8, h9, h10⟩ := h
  exact ⟨c, k, i, f, a, cell, h1, h2, h3, h4, h5, h6, h7, h8, h9, m_w_lt hAB h5 h10⟩
theorem m_w_S {N : Nat} {len : List Nat} {byt : List (List Int32)} {aK aV : Nat → Nat} (hAB : ∀ q, A q → B q ∨ H.size ≤ q) (h : vk_S N len byt aK aV B U H) : vk_S N len byt aK aV A U H := by
  refine ⟨fun i hi => ?_, h.2⟩
  obtain ⟨⟨c1, a1, a2, a3, a4⟩, ⟨cf, k, j, f, c2, b1, b2, b3, b4, b5, b6⟩, ⟨cf', k', j', f', c3, d1, d2, d3, d4, d5, d6⟩, ⟨c4, e1, e2, e3, e4, e5, e6, e7⟩⟩ := h.1 i hi
  exact ⟨⟨c1, a1, a2, a3, m_w_lt hAB a1 a4⟩, ⟨cf, k, j, f, c2, b1, b2, b3, b4, b5, m_w_lt hAB b3 b6⟩, ⟨cf', k', j', f', c3, d1, d2, d3, d4, d5, m_w_lt hAB d3 d6⟩, ⟨c4, e1, e2, e3, e4, e5, e6, m_w_lt hAB e1 e7⟩⟩
end WID
theorem m_ex.widen {aK aV : Nat → Nat} {A B : Nat → Prop} {U : State} {H : Heap} (hAB : ∀ q, A q → B q ∨ H.size ≤ q) (h : m_ex aK aV B U H) : m_ex aK aV A U H := by
  obtain ⟨⟨h1, h2⟩, ⟨h3, h4, h5⟩, h6, ⟨d1, d2⟩, d3, d4⟩ := h
  exact ⟨⟨⟨m_w_Zq hAB h1.1, m_w_L hAB h1.2⟩, ⟨m_w_Zq hAB h2.1, m_w_L hAB h2.2⟩⟩, ⟨m_w_S hAB h3, m_w_Z hAB h4, m_w_Zq hAB h5⟩, h6, ⟨m_w_Z hAB d1, m_w_T hAB d2⟩, m_w_Z hAB d3, m_w_T hAB d4⟩
/-- a method: its class, its code, its locals, its name, its answer's type, its table -/
abbrev MI : Type := String × ByteArray × Nat × MethodName × Option FieldType × List (Nat × Nat × Nat × Nat)
/-- where a walk stands: program, launch, environment, room, start, method, arguments, frames below, method, code; the end; what may be written; the classes' numbers and slots; the rows' classes; the texts and their bytes -/
abbrev Cxt : Type := Program × Launch × Env × Room × State × MethodId × Array Value × List Frame × Method × Code × (State → Prop) × (Nat → Prop) × va_G × (Nat → ClassId) × (Nat → Nat) × (Nat → Nat)
def okc (x : Cxt) (M : MI) : Prop := match x, M with
  | (p, l, _, _, s, m, args, _, meth, c, _, A, D, ca, aK, aV), (own, cc, nL, y, ret, hh) =>
    p.tables.exec = Jvm.exec ∧ c.code = cc ∧ c.maxLocals = nL ∧ s.vm.findClass own = some m.cls ∧ (∀ w ∈ m_TW, w.before args s = true) ∧ va_K D vwCl (m_tys ca) s ∧ (∀ w ∈ m_NW, va_Nw w s) ∧ (∀ q, s.heap.size ≤ q → A q) ∧ meth.sig.returnType = ret ∧ meth.locks = false ∧ meth.name = y.name ∧ l.stackTraces = false ∧ m_ex aK aV A s s.heap ∧ c.exceptionTable.toList = tableOf hh
/-- from here the walk comes to its end -/
def wp (x : Cxt) (M : MI) (pc : Nat) (lv : List (Nat × Value)) (st : List Value) (h : Hp) (kc ks : Nat) : Prop := match x, M with
  | (p, l, e, R, s, m, args, below, meth, c, Q, A, D, ca, aK, aV), (own, cc, nL, y, ret, hh) =>
    okc (p, l, e, R, s, m, args, below, meth, c, Q, A, D, ca, aK, aV) (own, cc, nL, y, ret, hh) → ∀ (H : Heap) (locs : List Loc) (ls : Array Slot) (L : List Nat), m_W D ca h L A H → va_S A s.heap H locs → lv_has ls nL lv → W p l e R s m args below meth c H locs kc ks Q (F0 m pc ls st)
/-- .. with an exception of class E over the frame -/
def wx (x : Cxt) (M : MI) (pc : Nat) (lv : List (Nat × Value)) (E : String) (h : Hp) (kc ks : Nat) : Prop := match x, M with
  | (p, l, e, R, s, m, args, below, meth, c, Q, A, D, ca, aK, aV), (own, cc, nL, y, ret, hh) =>
    okc (p, l, e, R, s, m, args, below, meth, c, Q, A, D, ca, aK, aV) (own, cc, nL, y, ret, hh) → ∀ (H : Heap) (locs : List Loc) (ls : Array Slot) (L : List Nat) (q : Nat) (ce : Cell) (rest : List Value), m_R h 1023 0 = some q → m_W D ca h L A H → va_S A s.heap H locs → lv_has ls nL lv → H[q]? = some ce → ce.vm = .none → s.vm.findClass E = some ce.cls → vx_W p l e R s m args below meth c H locs kc ks Q (F0 m pc ls rest) q
def m_Qc (D : va_G) (ca : Nat → ClassId) (A : Nat → Prop) (Qv : Option Value → Hp → Prop) : Array Value → State → Outcome → State → Prop := fun _ st o t => (∃ (v : Option Value) (h : Hp) (L : List Nat), o = .returned v ∧ Qv v h ∧ m_W D ca h L A t.heap) ∧ va_F A st t
def m_Xc (D : va_G) (ca : Nat → ClassId) (A : Nat → Prop) (Xv : String → Hp → Prop) : Addr → String → State → State → Prop := fun q E st t => (∃ (h : Hp) (L : List Nat), Xv E h ∧ m_R h 1023 0 = some q ∧ m_W D ca h L A t.heap) ∧ va_F A st t
/-- the walk's end is that of a method with this answer -/
def m_fin (mc ms : Nat) (Qv : Option Value → Hp → Prop) (Xv : String → Hp → Prop) (x : Cxt) : Prop := match x with
  | (_, _, _, _, s, _, args, below, _, _, Q, A, D, ca, _, _) => Q = vx_MQ below (m_Qc D ca A Qv) (m_Xc D ca A Xv) args s mc ms A
def m_room (d mc ms : Nat) : Room := { frames := d, cells := mc, slots := ms, locals := 40 * d }
def m_rm (d mc ms : Nat) (x : Cxt) : Prop := match x with
  | (_, _, _, R, _, _, _, _, _, _, _, _, _, _, _, _) => d ≤ R.frames ∧ 40 * d ≤ R.locals ∧ mc ≤ R.cells ∧ ms ≤ R.slots
def m_cw (M : MI) : Cond := match M with
  | (_, cc, nL, y, ret, hh) => if hh = [] then .code y cc nL ret else .codeWith y cc nL ret hh
/-- how a method begins -/
def m_pre (D : va_G) (ca : Nat → ClassId) (aK aV : Nat → Nat) (h : Hp) (L : List Nat) (sz : Nat) (U : State) : Prop :=
  U.heap.size = sz ∧ m_W D ca h L (fun _ => True) U.heap ∧ va_K D vwCl (m_tys ca) U ∧ (∀ w ∈ m_NW, va_Nw w U) ∧ m_ex aK aV (fun q => q ∈ L) U U.heap
/-- A CONTRACT: the method M, called with av in the store h, at most d frames deep, comes back: it answers v in a store h' with Qv v h', or throws an E with Xv E h'; it makes at most mc cells of ms slots -/
def Sp (l : Launch) (M : MI) (d mc ms : Nat) (av : List Value) (h : Hp) (Qv : Option Value → Hp → Prop) (Xv : String → Hp → Prop) : Prop :=
  l.stackTraces = false → ∀ (D : va_G) (ca : Nat → ClassId) (aK aV : Nat → Nat) (L : List Nat) (sz : Nat), vx_Met l M.2.2.2.1 (m_cw M :: m_TW) (m_room d mc ms) (va_Pc av (m_pre D ca aK aV h L sz)) (m_Qc D ca (va_A (va_pl L (m_E ca h)) sz) Qv) (m_Xc D ca (va_A (va_pl L (m_E ca h)) sz) Xv) mc ms (va_A (va_pl L (m_E ca h)) sz)
theorem m_pre_blind {av : List Value} {D : va_G} {ca : Nat → ClassId} {aK aV : Nat → Nat} {h : Hp} {L : List Nat} {sz : Nat} : FrameBlind (va_Pc av (m_pre D ca aK aV h L sz)) := by
  intro a U g mk q
  obtain ⟨q0, q1, qW, qK, qN, qE⟩ := q
  exact ⟨q0, q1, qW, va_K.moved (u := U) (U := U.calling g mk a) (Vm.Alike.refl U.vm) qK, m_nw_same (u := U) (U := U.calling g mk a) rfl qN, m_ex.same (u := U) (U := U.calling g mk a) rfl qE⟩
theorem m_plA {ca : Nat → ClassId} {h : Hp} {L : List Nat} {sz q : Nat} : va_A (va_pl L (m_E ca h)) sz q ↔ q ∈ L ∨ sz ≤ q := by
  constructor
  · rintro (⟨k, e, hk⟩ | hq)
    · have := List.mem_of_getElem? hk
      obtain ⟨b, hb, e1⟩ := List.mem_map.mp this
      have e2 : b = q := congrArg Prod.fst e1
      exact Or.inl (e2 ▸ hb)
    · exact Or.inr hq
  · rintro (hq | hq)
    · obtain ⟨k, hk⟩ := List.getElem?_of_mem (show (q, m_E ca h q) ∈ va_pl L (m_E ca h) from List.mem_map.mpr ⟨q, hq, rfl⟩)
      exact Or.inl ⟨k, _, hk⟩
    · exact Or.inr hq
/-- a method's body: without a table of its own -/
theorem Sp.of {l : Launch} {own : String} {cc : ByteArray} {nL : Nat} {y : MethodName} {ret : Option FieldType} {d mc ms : Nat} {av : List Value} {h : Hp} {Qv : Option Value → Hp → Prop} {Xv : String → Hp → Prop} (hy : plainName y.cls = true) (ho : y.cls = own) {lv : List (Nat × Value)} (hn : (lg_sl av).length ≤ nL) (hl : lv_args 0 av = lv)
    (body : ∀ x : Cxt, m_fin mc ms Qv Xv x → m_rm d mc ms x → wp x (own, cc, nL, y, ret, []) 0 lv [] h 0 0) : Sp l (own, cc, nL, y, ret, []) d mc ms av h Qv Xv := by
  intro hst D ca aK aV L sz
  refine vx_ofW (cc := cc) (maxL := nL) (ret := ret) hy rfl ?_
  intro p e s m args below meth c s₁ B hml hxt hv
  obtain ⟨rfl, hsz, hW0, hK, hN, hE⟩ := hv
  have hts := atoms_spec (ws := m_cw (own, cc, nL, y, ret, []) :: m_TW) B.pre
  have hown : s.vm.findClass own = some m.cls := by rw [← ho]; exact findClass_of_methodNamed B.named
  subst hsz
  subst hl
  have hD := hW0.2.1.self (sz := s.heap.size)
  have hle := lv_entry av (n := nL) hn
  rw [lg_entry_eq]
  generalize (lg_sl av ++ List.replicate (nL - (lg_sl av).length) Slot.unset).toArray = ls at hle ⊢
  have hx : c.exceptionTable.toList = tableOf [] := by
    cases hc : c.exceptionTable.toList with
    | nil => rfl
    | cons z zs => exact (hxt z (by rw [hc]; exact List.mem_cons_self)).elim
  exact body (p, l, e, _, s, m, av.toArray, below, meth, c, _, va_A (va_pl L (m_E ca h)) s.heap.size, D, ca, aK, aV) rfl ⟨Nat.le_refl _, Nat.le_refl _, Nat.le_refl _, Nat.le_refl _⟩ ⟨B.exec, B.bytes, hml, hown, fun w hw => hts w (List.mem_cons_of_mem _ hw), hK, hN, fun q hq => Or.inr hq, B.returns, B.notSynchronized, (name_of_methodNamed B.named B.method).1, hst, m_ex.widen (fun q hq => m_plA.mp hq) hE, hx⟩ s.heap [] ls L ⟨hW0.1, hD, hW0.2.2⟩ va_S.rf hle
/-- .. with a table of its own -/
theorem Sp.ofH {l : Launch} {own : String} {cc : ByteArray} {nL : Nat} {y : MethodName} {ret : Option FieldType} {hh : List (Nat × Nat × Nat × Nat)} {d mc ms : Nat} {av : List Value} {h : Hp} {Qv : Option Value → Hp → Prop} {Xv : String → Hp → Prop} (hne : hh ≠ []) (hy : plainName y.cls = true) (ho : y.cls = own) {lv : List (Nat × Value)} (hn : (lg_sl av).length ≤ nL) (hl : lv_args 0 av = lv)
    (body : ∀ x : Cxt, m_fin mc ms Qv Xv x → m_rm d mc ms x → wp x (own, cc, nL, y, ret, hh) 0 lv [] h 0 0) : Sp l (own, cc, nL, y, ret, hh) d mc ms av h Qv Xv := by
  intro hst D ca aK aV L sz
  have hcw : m_cw (own, cc, nL, y, ret, hh) = .codeWith y cc nL ret hh := by
    unfold m_cw
    exact if_neg hne
  rw [hcw]
  refine vx_ofWH (cc := cc) (maxL := nL) (ret := ret) (hh := hh) hy rfl ?_
  intro p e s m args below meth c s₁ B hml hv
  obtain ⟨rfl, hsz, hW0, hK, hN, hE⟩ := hv
  have hts := atoms_spec (ws := Cond.codeWith y cc nL ret hh :: m_TW) B.pre
  have hown : s.vm.findClass own = some m.cls := by rw [← ho]; exact findClass_of_methodNamed B.named
  have hx : c.exceptionTable.toList = tableOf hh := vx_table (x := y) B (hts _ List.mem_cons_self)
  subst hsz
  subst hl
  have hD := hW0.2.1.self (sz := s.heap.size)
  have hle := lv_entry av (n := nL) hn
  rw [lg_entry_eq]
  generalize (lg_sl av ++ List.replicate (nL - (lg_sl av).length) Slot.unset).toArray = ls at hle ⊢
  exact body (p, l, e, _, s, m, av.toArray, below, meth, c, _, va_A (va_pl L (m_E ca h)) s.heap.size, D, ca, aK, aV) rfl ⟨Nat.le_refl _, Nat.le_refl _, Nat.le_refl _, Nat.le_refl _⟩ ⟨B.exec, B.bytes, hml, hown, fun w hw => hts w (List.mem_cons_of_mem _ hw), hK, hN, fun q hq => Or.inr hq, B.returns, B.notSynchronized, (name_of_methodNamed B.named B.method).1, hst, m_ex.widen (fun q hq => m_plA.mp hq) hE, hx⟩ s.heap [] ls L ⟨hW0.1, hD, hW0.2.2⟩ va_S.rf hle
