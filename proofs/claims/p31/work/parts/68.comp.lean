/-! THE LAW'S compile -/
theorem fT_c {L : List Nat} {z y : Zs} {v : Int32} (e : fT_compile L z = some (v, y)) : ∃ z1 r z2, fT_feed L ((L.length + 19) / 20) 0 z = some ((), z1) ∧ fX11_trim (nI L.length) z1 = some (.ok r, z2) ∧ fX11_compile z2 = some (v, y) := by
  unfold fT_compile at e
  cases hf : fT_feed L ((L.length + 19) / 20) 0 z with
  | none => rw [hf] at e; cases e
  | some p =>
    obtain ⟨u, z1⟩ := p
    rw [bq_e hf] at e
    cases ht : fX11_trim (nI L.length) z1 with
    | none => rw [ht] at e; cases e
    | some p =>
      obtain ⟨r, z2⟩ := p
      rw [bq_e ht] at e
      cases r with
      | ok w => exact ⟨z1, w, z2, rfl, ht, e⟩
      | error E => cases e
theorem s_L_compile {A : Nat → Nat → Nat → Nat} {L : List Nat} {tx tb : Nat} {t : Nat → Nat} {σ σ' ρ : Zs} {h : Hp} {v : Int32} (hw : L.length < 240) (hT : ∀ j, j < L.length → t j = (txN L >>> (8 * j)) % 256) (hz : Rp A h σ ρ) (ht : TxO h tx tb L.length t) (hf1 : fgn A tx) (hf2 : fgn A tb) (e : fT_compile L σ = some (v, σ')) : ∀ l : Launch, Sp l mL_compile 101 30 200 [.ref (A 11 0 0), .ref tx] h (fun r h' => r = some (.int v) ∧ ∃ ρ', Rp A h' σ' ρ') X0 := by
  intro l
  obtain ⟨z1, r, z2, e1, e2, e3⟩ := fT_c e
  refine Sp.of rfl rfl (lv := [(0, .ref (A 11 0 0)), (1, .ref tx)]) (Nat.le_of_ble_eq_true rfl) rfl (fun x hf hrm => ?_)
  refine w_aload_n 0 dL_compile_0 rfl rfl rfl ?_
  refine w_aload_n 1 dL_compile_1 rfl rfl rfl ?_
  refine c_L_29 (b := 0) (As := [.ref (A 11 0 0), .ref tx]) (rest := []) (fun l => s_L_feed hw hT hz ht hf1 hf2 e1 e2 l) hrm dL_compile_2 rfl rfl (by decide) (by decide) (by decide) rfl (Nat.le_of_ble_eq_true rfl) (fun vr h9 hq9 => ?_) (fun _ _ hq9 => hq9.elim)
  obtain ⟨rfl, ρ', hz1⟩ := hq9
  refine w_aload_n 0 dL_compile_5 rfl rfl rfl ?_
  refine c_L_34 (b := A 11 0 0) (As := []) (rest := []) (fun l => s_X11_compile hz1 e3 l) hrm dL_compile_6 rfl rfl (by decide) (by decide) (by decide) (hz1.o11 rfl) rfl (Nat.le_of_ble_eq_true rfl) (fun vr h9 hq9 => ?_) (fun _ _ hq9 => hq9.elim)
  obtain ⟨rfl, hz2⟩ := hq9
  exact w_iret hf dL_compile_9 rfl (by decide) (by decide) ⟨rfl, ρ', hz2⟩
/-- the letters of a text, out of its number -/
theorem txN_at : ∀ (L : List Nat) (i : Nat), (∀ b, b ∈ L → b < 256) → i < L.length → (txN L >>> (8 * i)) % 256 = L.getD i 0
  | [], i, _, h => absurd h (by show ¬ i < 0; omega)
  | b :: L, 0, hb, _ => by
    have := hb b List.mem_cons_self
    show ((b + 256 * txN L) >>> 0) % 256 = b
    rw [Nat.shiftRight_zero]
    omega
  | b :: L, i + 1, hb, h => by
    have hb0 := hb b List.mem_cons_self
    have ih := txN_at L i (fun c hc => hb c (List.mem_cons_of_mem _ hc)) (by have : i + 1 < L.length + 1 := h; omega)
    show ((b + 256 * txN L) >>> (8 * (i + 1))) % 256 = L.getD i 0
    rw [← ih, show 8 * (i + 1) = 8 + 8 * i by omega, Nat.shiftRight_add]
    have : (b + 256 * txN L) >>> 8 = txN L := by
      rw [Nat.shiftRight_eq_div_pow]
      show (b + 256 * txN L) / 256 = txN L
      omega
    rw [this]
