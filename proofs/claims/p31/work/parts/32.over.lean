/-! AN OVERLAY of written cells over a base: numbers that hold words of w bits -/
def rdM (w M k : Nat) : Nat := (M >>> (w * k)) % 2 ^ w
def wrM (w M k v : Nat) : Nat := M ^^^ ((rdM w M k ^^^ v) <<< (w * k))
theorem rdM_lt {w M k : Nat} : rdM w M k < 2 ^ w := Nat.mod_lt _ (Nat.two_pow_pos w)
theorem rdM_bit {w M k b : Nat} : (rdM w M k).testBit b = (decide (b < w) && M.testBit (w * k + b)) := by
  unfold rdM
  rw [Nat.testBit_mod_two_pow, Nat.testBit_shiftRight]
theorem rd_wr {w M k v j : Nat} (hv : v < 2 ^ w) : rdM w (wrM w M k v) j = if j = k then v else rdM w M j := by
  apply Nat.eq_of_testBit_eq
  intro b
  rw [rdM_bit]
  unfold wrM
  rw [Nat.testBit_xor, Nat.testBit_shiftLeft, Nat.testBit_xor, rdM_bit]
  by_cases hb : b < w
  · by_cases hj : j = k
    · subst hj
      rw [if_pos rfl, show w * j + b - w * j = b by omega]
      simp [hb]
    · rw [if_neg hj, rdM_bit]
      rcases Nat.lt_or_ge j k with q | q
      · have h1 : w * (j + 1) ≤ w * k := Nat.mul_le_mul_left w q
        rw [Nat.mul_add, Nat.mul_one] at h1
        have h2 : ¬ (w * j + b ≥ w * k) := by omega
        simp [hb, h2]
      · have h1 : w * (k + 1) ≤ w * j := Nat.mul_le_mul_left w (by omega)
        rw [Nat.mul_add, Nat.mul_one] at h1
        have h2 : w * j + b - w * k ≥ w := by omega
        have h3 : v.testBit (w * j + b - w * k) = false := Nat.testBit_lt_two_pow (Nat.lt_of_lt_of_le hv (Nat.pow_le_pow_right (by decide) h2))
        have h4 : ¬ (w * j + b - w * k < w) := by omega
        simp [hb, h3, h4]
  · have hw : 2 ^ w ≤ 2 ^ b := Nat.pow_le_pow_right (by decide) (by omega)
    have h3 : v.testBit b = false := Nat.testBit_lt_two_pow (Nat.lt_of_lt_of_le hv hw)
    by_cases hj : j = k
    · rw [if_pos hj, h3]; simp [hb]
    · rw [if_neg hj, rdM_bit]; simp [hb]
theorem ble_f {a b : Nat} (h : b < a) : Nat.ble a b = false := by
  cases q : Nat.ble a b with
  | false => rfl
  | true => exact absurd (Nat.le_of_ble_eq_true q) (by omega)
abbrev ovE : Type := Nat × Nat × Nat × Nat × Nat
def ofl (c C n p S N : Nat) : Option ovE := bif Nat.beq c C then some (C, n, p, S, N) else none
def ovIT : List ovE := [(0, 0, 2, 2, 1), (1, 9, 2, 2, 1), (2, 18, 2, 2, 1), (3, 27, 2, 2, 1), (4, 36, 2, 2, 1), (66, 45, 0, 1, 1), (67, 46, 0, 1, 1), (68, 47, 0, 1, 1), (69, 48, 0, 1, 1), (192, 49, 0, 1, 1), (193, 50, 0, 1, 1), (197, 51, 0, 1, 1), (201, 52, 0, 1, 1), (202, 53, 0, 1, 1), (203, 54, 0, 1, 1), (204, 55, 0, 1, 1), (205, 56, 0, 1, 1), (258, 57, 0, 1, 1), (259, 58, 0, 1, 1), (260, 59, 0, 1, 1), (261, 60, 0, 1, 1), (263, 61, 0, 1, 1), (321, 62, 2, 1, 1), (323, 63, 2, 1, 1), (326, 64, 2, 1, 1), (449, 65, 2, 4, 1), (450, 90, 2, 4, 1), (453, 115, 2, 4, 1), (454, 140, 2, 4, 1), (455, 165, 2, 4, 1), (456, 190, 2, 4, 1), (461, 215, 2, 4, 1), (512, 240, 2, 4, 1), (513, 265, 2, 4, 1), (580, 290, 0, 1, 1), (640, 291, 2, 4, 1), (705, 316, 0, 1, 1), (712, 317, 0, 1, 1), (718, 318, 0, 1, 1), (1348, 319, 2, 1, 32), (1476, 351, 2, 4, 2), (1481, 377, 2, 4, 6), (1482, 407, 2, 4, 6), (1483, 437, 2, 4, 6), (1486, 467, 2, 4, 2), (1600, 493, 0, 1, 100), (1601, 593, 0, 1, 100), (1728, 693, 0, 1, 240)]
def ovI (c : Nat) : Option ovE := bif Nat.ble c 1800 then (bif Nat.ble c 323 then (bif Nat.ble c 197 then (bif Nat.ble c 66 then (bif Nat.ble c 2 then (bif Nat.ble c 0 then (ofl c 0 0 2 2 1) else (bif Nat.ble c 1 then (ofl c 1 9 2 2 1) else (ofl c 2 18 2 2 1))) else (bif Nat.ble c 3 then (ofl c 3 27 2 2 1) else (bif Nat.ble c 4 then (ofl c 4 36 2 2 1) else (ofl c 66 45 0 1 1)))) else (bif Nat.ble c 69 then (bif Nat.ble c 67 then (ofl c 67 46 0 1 1) else (bif Nat.ble c 68 then (ofl c 68 47 0 1 1) else (ofl c 69 48 0 1 1))) else (bif Nat.ble c 192 then (ofl c 192 49 0 1 1) else (bif Nat.ble c 193 then (ofl c 193 50 0 1 1) else (ofl c 197 51 0 1 1))))) else (bif Nat.ble c 258 then (bif Nat.ble c 203 then (bif Nat.ble c 201 then (ofl c 201 52 0 1 1) else (bif Nat.ble c 202 then (ofl c 202 53 0 1 1) else (ofl c 203 54 0 1 1))) else (bif Nat.ble c 204 then (ofl c 204 55 0 1 1) else (bif Nat.ble c 205 then (ofl c 205 56 0 1 1) else (ofl c 258 57 0 1 1)))) else (bif Nat.ble c 261 then (bif Nat.ble c 259 then (ofl c 259 58 0 1 1) else (bif Nat.ble c 260 then (ofl c 260 59 0 1 1) else (ofl c 261 60 0 1 1))) else (bif Nat.ble c 263 then (ofl c 263 61 0 1 1) else (bif Nat.ble c 321 then (ofl c 321 62 2 1 1) else (ofl c 323 63 2 1 1)))))) else (bif Nat.ble c 640 then (bif Nat.ble c 455 then (bif Nat.ble c 450 then (bif Nat.ble c 326 then (ofl c 326 64 2 1 1) else (bif Nat.ble c 449 then (ofl c 449 65 2 4 1) else (ofl c 450 90 2 4 1))) else (bif Nat.ble c 453 then (ofl c 453 115 2 4 1) else (bif Nat.ble c 454 then (ofl c 454 140 2 4 1) else (ofl c 455 165 2 4 1)))) else (bif Nat.ble c 512 then (bif Nat.ble c 456 then (ofl c 456 190 2 4 1) else (bif Nat.ble c 461 then (ofl c 461 215 2 4 1) else (ofl c 512 240 2 4 1))) else (bif Nat.ble c 513 then (ofl c 513 265 2 4 1) else (bif Nat.ble c 580 then (ofl c 580 290 0 1 1) else (ofl c 640 291 2 4 1))))) else (bif Nat.ble c 1481 then (bif Nat.ble c 718 then (bif Nat.ble c 705 then (ofl c 705 316 0 1 1) else (bif Nat.ble c 712 then (ofl c 712 317 0 1 1) else (ofl c 718 318 0 1 1))) else (bif Nat.ble c 1348 then (ofl c 1348 319 2 1 32) else (bif Nat.ble c 1476 then (ofl c 1476 351 2 4 2) else (ofl c 1481 377 2 4 6)))) else (bif Nat.ble c 1486 then (bif Nat.ble c 1482 then (ofl c 1482 407 2 4 6) else (bif Nat.ble c 1483 then (ofl c 1483 437 2 4 6) else (ofl c 1486 467 2 4 2))) else (bif Nat.ble c 1600 then (ofl c 1600 493 0 1 100) else (bif Nat.ble c 1601 then (ofl c 1601 593 0 1 100) else (ofl c 1728 693 0 1 240))))))) else none
theorem ovI_c : ∀ c, c ≤ 1800 → (match ovI c with | none => true | some e => Nat.beq e.1 c && ovIT.contains e) = true := by decide +kernel
theorem ovI_d : (ovIT.all fun a => (Nat.ble a.2.2.2.2 8 || Nat.beq a.2.2.2.1 1) && ovIT.all fun b => Nat.beq a.1 b.1 && a == b || Nat.ble (a.2.1 + ((a.2.2.2.1 - 1) * 8 + a.2.2.2.2)) b.2.1 || Nat.ble (b.2.1 + ((b.2.2.2.1 - 1) * 8 + b.2.2.2.2)) a.2.1) = true := by decide +kernel
def ovJT : List ovE := [(262, 0, 0, 1, 1), (448, 1, 2, 4, 1), (1224, 26, 0, 1, 12), (1349, 38, 2, 1, 32), (1475, 70, 2, 4, 6), (1602, 100, 0, 1, 100), (1603, 200, 0, 1, 32)]
def ovJ (c : Nat) : Option ovE := bif Nat.ble c 1800 then (bif Nat.ble c 1224 then (bif Nat.ble c 262 then (ofl c 262 0 0 1 1) else (bif Nat.ble c 448 then (ofl c 448 1 2 4 1) else (ofl c 1224 26 0 1 12))) else (bif Nat.ble c 1475 then (bif Nat.ble c 1349 then (ofl c 1349 38 2 1 32) else (ofl c 1475 70 2 4 6)) else (bif Nat.ble c 1602 then (ofl c 1602 100 0 1 100) else (ofl c 1603 200 0 1 32)))) else none
theorem ovJ_c : ∀ c, c ≤ 1800 → (match ovJ c with | none => true | some e => Nat.beq e.1 c && ovJT.contains e) = true := by decide +kernel
theorem ovJ_d : (ovJT.all fun a => (Nat.ble a.2.2.2.2 8 || Nat.beq a.2.2.2.1 1) && ovJT.all fun b => Nat.beq a.1 b.1 && a == b || Nat.ble (a.2.1 + ((a.2.2.2.1 - 1) * 8 + a.2.2.2.2)) b.2.1 || Nat.ble (b.2.1 + ((b.2.2.2.1 - 1) * 8 + b.2.2.2.2)) a.2.1) = true := by decide +kernel
def ovRT : List ovE := [(64, 0, 0, 1, 1), (194, 1, 0, 1, 1), (195, 2, 0, 1, 1), (196, 3, 0, 1, 1), (198, 4, 0, 1, 1), (199, 5, 0, 1, 1), (707, 6, 0, 1, 1), (708, 7, 0, 1, 1), (709, 8, 0, 1, 1)]
def ovR (c : Nat) : Option ovE := bif Nat.ble c 1800 then (bif Nat.ble c 196 then (bif Nat.ble c 194 then (bif Nat.ble c 64 then (ofl c 64 0 0 1 1) else (ofl c 194 1 0 1 1)) else (bif Nat.ble c 195 then (ofl c 195 2 0 1 1) else (ofl c 196 3 0 1 1))) else (bif Nat.ble c 199 then (bif Nat.ble c 198 then (ofl c 198 4 0 1 1) else (ofl c 199 5 0 1 1)) else (bif Nat.ble c 707 then (ofl c 707 6 0 1 1) else (bif Nat.ble c 708 then (ofl c 708 7 0 1 1) else (ofl c 709 8 0 1 1))))) else none
theorem ovR_c : ∀ c, c ≤ 1800 → (match ovR c with | none => true | some e => Nat.beq e.1 c && ovRT.contains e) = true := by decide +kernel
theorem ovR_d : (ovRT.all fun a => (Nat.ble a.2.2.2.2 8 || Nat.beq a.2.2.2.1 1) && ovRT.all fun b => Nat.beq a.1 b.1 && a == b || Nat.ble (a.2.1 + ((a.2.2.2.1 - 1) * 8 + a.2.2.2.2)) b.2.1 || Nat.ble (b.2.1 + ((b.2.2.2.1 - 1) * 8 + b.2.2.2.2)) a.2.1) = true := by decide +kernel
def ovK (o : Option ovE) (p s i : Nat) : Option Nat := match o with
  | none => none
  | some e => bif Nat.beq p e.2.2.1 && (Nat.blt s e.2.2.2.1 && Nat.blt i e.2.2.2.2) then some (e.2.1 + (s * 8 + i)) else none
theorem ovK_e {o : Option ovE} {p s i k : Nat} (h : ovK o p s i = some k) : ∃ e, o = some e ∧ p = e.2.2.1 ∧ s < e.2.2.2.1 ∧ i < e.2.2.2.2 ∧ k = e.2.1 + (s * 8 + i) := by
  rcases o with _ | e
  · cases h
  · unfold ovK at h
    cases q : (Nat.beq p e.2.2.1 && (Nat.blt s e.2.2.2.1 && Nat.blt i e.2.2.2.2)) with
    | false => simp only [q, cond_false] at h; cases h
    | true =>
      simp only [q, cond_true] at h
      simp only [Bool.and_eq_true, Nat.beq_eq, Nat.blt_eq] at q
      exact ⟨e, rfl, q.1, q.2.1, q.2.2, (Option.some.inj h).symm⟩
theorem ovI_j {c p s i c' p' s' i' k : Nat} (h : ovK (ovI c) p s i = some k) (h' : ovK (ovI c') p' s' i' = some k) : c = c' ∧ p = p' ∧ s = s' ∧ i = i' := by
  obtain ⟨e, e1, e2, e3, e4, e5⟩ := ovK_e h
  obtain ⟨f, f1, f2, f3, f4, f5⟩ := ovK_e h'
  have hc : c ≤ 1800 := by
    rcases Nat.lt_or_ge 1800 c with q | q
    · unfold ovI at e1
      rw [ble_f q] at e1
      cases e1
    · exact q
  have hc' : c' ≤ 1800 := by
    rcases Nat.lt_or_ge 1800 c' with q | q
    · unfold ovI at f1
      rw [ble_f q] at f1
      cases f1
    · exact q
  have t1 := ovI_c c hc
  have t2 := ovI_c c' hc'
  rw [e1] at t1
  rw [f1] at t2
  simp only [Bool.and_eq_true, Nat.beq_eq, List.contains_iff_mem] at t1 t2
  have d := List.all_eq_true.mp ovI_d e t1.2
  simp only [Bool.and_eq_true] at d
  have d1 := d.1
  have d2 := List.all_eq_true.mp d.2 f t2.2
  have d3 := List.all_eq_true.mp ovI_d f t2.2
  simp only [Bool.and_eq_true] at d3
  have d3 := d3.1
  simp only [Bool.or_eq_true, Bool.and_eq_true, Nat.beq_eq, Nat.ble_eq, beq_iff_eq] at d1 d2 d3
  rcases d2 with (⟨d2, d4⟩ | d2) | d2
  · subst d4
    refine ⟨by omega, by omega, ?_, ?_⟩ <;> omega
  · exfalso; omega
  · exfalso; omega
theorem ovJ_j {c p s i c' p' s' i' k : Nat} (h : ovK (ovJ c) p s i = some k) (h' : ovK (ovJ c') p' s' i' = some k) : c = c' ∧ p = p' ∧ s = s' ∧ i = i' := by
  obtain ⟨e, e1, e2, e3, e4, e5⟩ := ovK_e h
  obtain ⟨f, f1, f2, f3, f4, f5⟩ := ovK_e h'
  have hc : c ≤ 1800 := by
    rcases Nat.lt_or_ge 1800 c with q | q
    · unfold ovJ at e1
      rw [ble_f q] at e1
      cases e1
    · exact q
  have hc' : c' ≤ 1800 := by
    rcases Nat.lt_or_ge 1800 c' with q | q
    · unfold ovJ at f1
      rw [ble_f q] at f1
      cases f1
    · exact q
  have t1 := ovJ_c c hc
  have t2 := ovJ_c c' hc'
  rw [e1] at t1
  rw [f1] at t2
  simp only [Bool.and_eq_true, Nat.beq_eq, List.contains_iff_mem] at t1 t2
  have d := List.all_eq_true.mp ovJ_d e t1.2
  simp only [Bool.and_eq_true] at d
  have d1 := d.1
  have d2 := List.all_eq_true.mp d.2 f t2.2
  have d3 := List.all_eq_true.mp ovJ_d f t2.2
  simp only [Bool.and_eq_true] at d3
  have d3 := d3.1
  simp only [Bool.or_eq_true, Bool.and_eq_true, Nat.beq_eq, Nat.ble_eq, beq_iff_eq] at d1 d2 d3
  rcases d2 with (⟨d2, d4⟩ | d2) | d2
  · subst d4
    refine ⟨by omega, by omega, ?_, ?_⟩ <;> omega
  · exfalso; omega
  · exfalso; omega
theorem ovR_j {c p s i c' p' s' i' k : Nat} (h : ovK (ovR c) p s i = some k) (h' : ovK (ovR c') p' s' i' = some k) : c = c' ∧ p = p' ∧ s = s' ∧ i = i' := by
  obtain ⟨e, e1, e2, e3, e4, e5⟩ := ovK_e h
  obtain ⟨f, f1, f2, f3, f4, f5⟩ := ovK_e h'
  have hc : c ≤ 1800 := by
    rcases Nat.lt_or_ge 1800 c with q | q
    · unfold ovR at e1
      rw [ble_f q] at e1
      cases e1
    · exact q
  have hc' : c' ≤ 1800 := by
    rcases Nat.lt_or_ge 1800 c' with q | q
    · unfold ovR at f1
      rw [ble_f q] at f1
      cases f1
    · exact q
  have t1 := ovR_c c hc
  have t2 := ovR_c c' hc'
  rw [e1] at t1
  rw [f1] at t2
  simp only [Bool.and_eq_true, Nat.beq_eq, List.contains_iff_mem] at t1 t2
  have d := List.all_eq_true.mp ovR_d e t1.2
  simp only [Bool.and_eq_true] at d
  have d1 := d.1
  have d2 := List.all_eq_true.mp d.2 f t2.2
  have d3 := List.all_eq_true.mp ovR_d f t2.2
  simp only [Bool.and_eq_true] at d3
  have d3 := d3.1
  simp only [Bool.or_eq_true, Bool.and_eq_true, Nat.beq_eq, Nat.ble_eq, beq_iff_eq] at d1 d2 d3
  rcases d2 with (⟨d2, d4⟩ | d2) | d2
  · subst d4
    refine ⟨by omega, by omega, ?_, ?_⟩ <;> omega
  · exfalso; omega
  · exfalso; omega
/-- the base, and three memories -/
abbrev Ts : Type := Zs × Nat × Nat × Nat
def uzI (T : Ts) (c p s i : Nat) : Int32 := match ovK (ovI c) p s i with
  | none => zI T.1 c p s i
  | some k => match rdM 33 T.2.1 k with
    | 0 => zI T.1 c p s i
    | n + 1 => Int32.ofNat n
def uzJ (T : Ts) (c p s i : Nat) : Int64 := match ovK (ovJ c) p s i with
  | none => zJ T.1 c p s i
  | some k => match rdM 65 T.2.2.1 k with
    | 0 => zJ T.1 c p s i
    | n + 1 => Int64.ofNat n
def uzR (T : Ts) (c p s i : Nat) : Nat × Nat := match ovK (ovR c) p s i with
  | none => zR T.1 c p s i
  | some k => match rdM 20 T.2.2.2 k with
    | 0 => zR T.1 c p s i
    | n + 1 => (n / 256, n % 256)
def uz (T : Ts) : Zs := (uzI T, uzJ T, uzR T)
def uI (T : Ts) (c p s i : Nat) (v : Int32) : Option Ts := match ovK (ovI c) p s i with
  | none => none
  | some k => some (T.1, wrM 33 T.2.1 k (v.toUInt32.toNat + 1), T.2.2.1, T.2.2.2)
def uJ (T : Ts) (c p s i : Nat) (v : Int64) : Option Ts := match ovK (ovJ c) p s i with
  | none => none
  | some k => some (T.1, T.2.1, wrM 65 T.2.2.1 k (v.toUInt64.toNat + 1), T.2.2.2)
def uR (T : Ts) (c p s i : Nat) (v : Nat × Nat) : Option Ts := match ovK (ovR c) p s i with
  | none => none
  | some k => bif Nat.blt v.1 256 && Nat.blt v.2 256 then some (T.1, T.2.1, T.2.2.1, wrM 20 T.2.2.2 k (v.1 * 256 + v.2 + 1)) else none
def bqT {α β : Type} (o : Option (α × Ts)) (k : α → Ts → Option β) : Option β := match o with
  | some (v, z) => k v z
  | none => none
def ltT {α : Type} (o : Option Ts) (k : Ts → Option α) : Option α := match o with
  | some z => k z
  | none => none
def bxkT {α β : Type} (v : Except String α) (z : Ts) (k : α → Ts → Option (Except String β × Ts)) : Option (Except String β × Ts) := match v with
  | .ok w => k w z
  | .error e => some (.error e, z)
def bxT {α β : Type} (o : Option (Except String α × Ts)) (k : α → Ts → Option (Except String β × Ts)) : Option (Except String β × Ts) := match o with
  | some (v, z) => bxkT v z k
  | none => none
theorem ov_i32 (v : Int32) : Int32.ofNat v.toUInt32.toNat = v := by
  obtain ⟨u⟩ := v
  first | exact congrArg Int32.ofUInt32 UInt32.ofNat_toNat | exact congrArg Int32.ofUInt32 (UInt32.ofNat_toNat u) | (simp; done)
theorem ov_i64 (v : Int64) : Int64.ofNat v.toUInt64.toNat = v := by
  obtain ⟨u⟩ := v
  first | exact congrArg Int64.ofUInt64 UInt64.ofNat_toNat | exact congrArg Int64.ofUInt64 (UInt64.ofNat_toNat u) | (simp; done)
theorem uz_I {T T' : Ts} {c p s i : Nat} {v : Int32} (h : uI T c p s i v = some T') : uz T' = sI (uz T) c p s i v := by
  unfold uI at h
  cases hk : ovK (ovI c) p s i with
  | none => rw [hk] at h; cases h
  | some k =>
    rw [hk] at h
    have h := (Option.some.inj h).symm
    subst h
    refine Prod.ext ?_ rfl
    funext c' p' s' i'
    show uzI _ c' p' s' i' = if c' = c ∧ p' = p ∧ s' = s ∧ i' = i then v else uzI T c' p' s' i'
    by_cases q : c' = c ∧ p' = p ∧ s' = s ∧ i' = i
    · obtain ⟨rfl, rfl, rfl, rfl⟩ := q
      rw [if_pos ⟨rfl, rfl, rfl, rfl⟩]
      unfold uzI
      rw [hk]
      have hv : v.toUInt32.toNat + 1 < 2 ^ 33 := by have := v.toUInt32.toNat_lt; omega
      have := rd_wr (w := 33) (M := T.2.1) (k := k) (j := k) hv
      rw [if_pos rfl] at this
      show (match rdM 33 (wrM 33 T.2.1 k (v.toUInt32.toNat + 1)) k with | 0 => zI T.1 c' p' s' i' | n + 1 => Int32.ofNat n) = v
      rw [this]
      show Int32.ofNat v.toUInt32.toNat = v
      exact ov_i32 v
    · rw [if_neg q]
      unfold uzI
      cases hk' : ovK (ovI c') p' s' i' with
      | none => rfl
      | some k' =>
        have hne : ¬ k' = k := fun e => q (ovI_j hk' (by rw [e]; exact hk))
        have hv : v.toUInt32.toNat + 1 < 2 ^ 33 := by have := v.toUInt32.toNat_lt; omega
        have := rd_wr (w := 33) (M := T.2.1) (k := k) (j := k') hv
        rw [if_neg hne] at this
        show (match rdM 33 (wrM 33 T.2.1 k (v.toUInt32.toNat + 1)) k' with | 0 => zI T.1 c' p' s' i' | n + 1 => Int32.ofNat n) = _
        rw [this]
theorem uz_J {T T' : Ts} {c p s i : Nat} {v : Int64} (h : uJ T c p s i v = some T') : uz T' = sJ (uz T) c p s i v := by
  unfold uJ at h
  cases hk : ovK (ovJ c) p s i with
  | none => rw [hk] at h; cases h
  | some k =>
    rw [hk] at h
    have h := (Option.some.inj h).symm
    subst h
    refine Prod.ext rfl (Prod.ext ?_ rfl)
    funext c' p' s' i'
    show uzJ _ c' p' s' i' = if c' = c ∧ p' = p ∧ s' = s ∧ i' = i then v else uzJ T c' p' s' i'
    by_cases q : c' = c ∧ p' = p ∧ s' = s ∧ i' = i
    · obtain ⟨rfl, rfl, rfl, rfl⟩ := q
      rw [if_pos ⟨rfl, rfl, rfl, rfl⟩]
      unfold uzJ
      rw [hk]
      have hv : v.toUInt64.toNat + 1 < 2 ^ 65 := by have := v.toUInt64.toNat_lt; omega
      have := rd_wr (w := 65) (M := T.2.2.1) (k := k) (j := k) hv
      rw [if_pos rfl] at this
      show (match rdM 65 (wrM 65 T.2.2.1 k (v.toUInt64.toNat + 1)) k with | 0 => zJ T.1 c' p' s' i' | n + 1 => Int64.ofNat n) = v
      rw [this]
      show Int64.ofNat v.toUInt64.toNat = v
      exact ov_i64 v
    · rw [if_neg q]
      unfold uzJ
      cases hk' : ovK (ovJ c') p' s' i' with
      | none => rfl
      | some k' =>
        have hne : ¬ k' = k := fun e => q (ovJ_j hk' (by rw [e]; exact hk))
        have hv : v.toUInt64.toNat + 1 < 2 ^ 65 := by have := v.toUInt64.toNat_lt; omega
        have := rd_wr (w := 65) (M := T.2.2.1) (k := k) (j := k') hv
        rw [if_neg hne] at this
        show (match rdM 65 (wrM 65 T.2.2.1 k (v.toUInt64.toNat + 1)) k' with | 0 => zJ T.1 c' p' s' i' | n + 1 => Int64.ofNat n) = _
        rw [this]
theorem uz_R {T T' : Ts} {c p s i : Nat} {v : Nat × Nat} (h : uR T c p s i v = some T') : uz T' = sR (uz T) c p s i v := by
  unfold uR at h
  cases hk : ovK (ovR c) p s i with
  | none => rw [hk] at h; cases h
  | some k =>
    rw [hk] at h
    cases hb : (Nat.blt v.1 256 && Nat.blt v.2 256) with
    | false => simp only [hb, cond_false] at h; cases h
    | true =>
      simp only [hb, cond_true] at h
      simp only [Bool.and_eq_true, Nat.blt_eq] at hb
      have h := (Option.some.inj h).symm
      subst h
      refine Prod.ext rfl (Prod.ext rfl ?_)
      funext c' p' s' i'
      show uzR _ c' p' s' i' = if c' = c ∧ p' = p ∧ s' = s ∧ i' = i then v else uzR T c' p' s' i'
      have hv : v.1 * 256 + v.2 + 1 < 2 ^ 20 := by omega
      by_cases q : c' = c ∧ p' = p ∧ s' = s ∧ i' = i
      · obtain ⟨rfl, rfl, rfl, rfl⟩ := q
        rw [if_pos ⟨rfl, rfl, rfl, rfl⟩]
        unfold uzR
        rw [hk]
        have := rd_wr (w := 20) (M := T.2.2.2) (k := k) (j := k) hv
        rw [if_pos rfl] at this
        show (match rdM 20 (wrM 20 T.2.2.2 k (v.1 * 256 + v.2 + 1)) k with | 0 => zR T.1 c' p' s' i' | n + 1 => (n / 256, n % 256)) = v
        rw [this]
        show ((v.1 * 256 + v.2) / 256, (v.1 * 256 + v.2) % 256) = v
        exact Prod.ext (by show (v.1 * 256 + v.2) / 256 = v.1; omega) (by show (v.1 * 256 + v.2) % 256 = v.2; omega)
      · rw [if_neg q]
        unfold uzR
        cases hk' : ovK (ovR c') p' s' i' with
        | none => rfl
        | some k' =>
          have hne : ¬ k' = k := fun e => q (ovR_j hk' (by rw [e]; exact hk))
          have := rd_wr (w := 20) (M := T.2.2.2) (k := k) (j := k') hv
          rw [if_neg hne] at this
          show (match rdM 20 (wrM 20 T.2.2.2 k (v.1 * 256 + v.2 + 1)) k' with | 0 => zR T.1 c' p' s' i' | n + 1 => (n / 256, n % 256)) = _
          rw [this]
/-- nothing is written yet -/
theorem uz_0 (z : Zs) : uz (z, 0, 0, 0) = z := by
  have h : ∀ w k, rdM w 0 k = 0 := fun w k => by unfold rdM; rw [Nat.zero_shiftRight, Nat.zero_mod]
  refine Prod.ext ?_ (Prod.ext ?_ ?_)
  · funext c p s i
    show uzI (z, 0, 0, 0) c p s i = zI z c p s i
    unfold uzI
    cases ovK (ovI c) p s i with
    | none => rfl
    | some k => show (match rdM 33 0 k with | 0 => zI z c p s i | n + 1 => Int32.ofNat n) = _; rw [h]
  · funext c p s i
    show uzJ (z, 0, 0, 0) c p s i = zJ z c p s i
    unfold uzJ
    cases ovK (ovJ c) p s i with
    | none => rfl
    | some k => show (match rdM 65 0 k with | 0 => zJ z c p s i | n + 1 => Int64.ofNat n) = _; rw [h]
  · funext c p s i
    show uzR (z, 0, 0, 0) c p s i = zR z c p s i
    unfold uzR
    cases ovK (ovR c) p s i with
    | none => rfl
    | some k => show (match rdM 20 0 k with | 0 => zR z c p s i | n + 1 => (n / 256, n % 256)) = _; rw [h]
