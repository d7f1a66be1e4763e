/-! THE LAW'S push -/
def lvP (i : Nat) (d q : Nat) (src t : Int32) : List (Nat × Value) := [(6, .int (nI i)), (5, .int (nI 2)), (4, .ref q), (0, .ref d), (1, .int src), (2, .int t), (3, .ref q)]
section LPU
variable {x : Cxt} {A : Nat → Nat → Nat → Nat} {h : Hp} {σ σ1 ρ : Zs} {q kc ks : Nat} {src t : Int32}
theorem l_pushv {i : Nat} {v : Int64} {w : Int32} (hi : i < 2) (hrm : m_rm 8 4 24 x) (hz : Rp A h σ ρ) (hk : m_K h q = 21) (hn : m_N h q = 2) (hv : m_Y h q i = v) (e : fX11_value v σ = some (.ok w, σ1)) (h1 : kc + 1 ≤ 4) (h2 : ks + 6 ≤ 24) (k : ∀ h', Rp A h' σ1 ρ → wp x mL_push 11 (lvP (i + 1) (A 11 0 0) q src t) [] h' (kc + 1) (ks + 6)) : wp x mL_push 11 (lvP i (A 11 0 0) q src t) [] h kc ks := by
  refine w_iload 0 dL_push_11 rfl rfl ?_
  refine w_iload 1 dL_push_13 rfl rfl ?_
  refine w_icmp_ge 38 dL_push_15 rfl rfl (fun c => absurd ((n_le (by omega) (by omega)).mp c) (by omega)) (fun _ => ?_)
  refine w_aload 2 dL_push_18 rfl rfl ?_
  refine w_iload 0 dL_push_20 rfl rfl ?_
  refine w_lald (v := v) dL_push_22 rfl hk (by rw [hn]; exact vp_in_nI hi (by decide)) (by rw [n_cl (by omega)]; exact hv) ?_
  refine w_lstore [(7, .long v), (6, .int (nI i)), (5, .int (nI 2)), (4, .ref q), (0, .ref (A 11 0 0)), (1, .int src), (2, .int t), (3, .ref q)] dL_push_23 rfl (by decide) rfl ?_
  refine w_aload_n 4 dL_push_25 rfl rfl rfl ?_
  refine w_lload 0 dL_push_26 rfl rfl ?_
  refine c_L_40 (b := A 11 0 0) (As := [.long v]) (rest := []) (fun l => s_X11_value hz e l) hrm dL_push_28 rfl rfl (by decide) (by omega) (by omega) (hz.o11 rfl) rfl (Nat.le_of_ble_eq_true rfl) (fun vr h9 hq => ?_) (fun _ _ hq => by cases hq.1)
  obtain ⟨w', hw, rfl, hz1⟩ := hq
  refine w_pop dL_push_31 rfl rfl ?_
  refine w_iinc 1 (nI (i + 1)) [(6, .int (nI (i + 1))), (7, .long v), (5, .int (nI 2)), (4, .ref q), (0, .ref (A 11 0 0)), (1, .int src), (2, .int t), (3, .ref q)] dL_push_32 rfl rfl (nI_1 i) (by decide) rfl ?_
  refine w_goto 11 dL_push_35 rfl ?_
  exact w_lv _ [0, 2, 3, 4, 5, 6, 7] rfl (k h9 hz1)
theorem s_L_push {key v : Int64} {w1 w2 ans : Int32} {σ2 σ3 : Zs} (hz : Rp A h σ ρ) (hq : fgn A q) (hk : m_K h q = 21) (hn : m_N h q = 2) (h0 : m_Y h q 0 = key) (h1 : m_Y h q 1 = v) (e1 : fX11_value key σ = some (.ok w1, σ1)) (e2 : fX11_value v σ1 = some (.ok w2, σ2)) (e3 : fX11_push src t σ2 = some (.ok ans, σ3)) : ∀ l : Launch, Sp l mL_push 8 4 24 [.ref (A 11 0 0), .int src, .int t, .ref q] h (QI A ans σ3 ρ) X0 := by
  intro l
  refine Sp.of rfl rfl (lv := [(0, .ref (A 11 0 0)), (1, .int src), (2, .int t), (3, .ref q)]) (Nat.le_of_ble_eq_true rfl) rfl (fun x hf hrm => ?_)
  refine w_aload_n 3 dL_push_0 rfl rfl rfl ?_
  refine w_astore [(4, .ref q), (0, .ref (A 11 0 0)), (1, .int src), (2, .int t), (3, .ref q)] dL_push_1 rfl (by decide) rfl ?_
  refine w_aload 0 dL_push_3 rfl rfl ?_
  refine w_alen (c := 21) 1 dL_push_5 rfl (by decide) (by decide) (fun _ => rfl) hk (v := nI 2) (by rw [hn]; rfl) ?_
  refine w_istore [(5, .int (nI 2)), (4, .ref q), (0, .ref (A 11 0 0)), (1, .int src), (2, .int t), (3, .ref q)] dL_push_6 rfl (by decide) rfl ?_
  refine w_iconst (nI 0) dL_push_8 rfl rfl ?_
  refine w_istore (lvP 0 (A 11 0 0) q src t) dL_push_9 rfl (by decide) rfl ?_
  refine l_pushv (by decide) hrm hz hk hn h0 e1 (by decide) (by decide) (fun ha hz1 => ?_)
  obtain ⟨a1, a2, a3, a4⟩ := hz.sm hz1 hq
  refine l_pushv (by decide) hrm hz1 (a1.trans hk) (a2.trans hn) ((a4 1).2.1.trans h1) e2 (by decide) (by decide) (fun hb hz2 => ?_)
  refine w_iload 0 dL_push_11 rfl rfl ?_
  refine w_iload 1 dL_push_13 rfl rfl ?_
  refine w_icmp_ge 38 dL_push_15 rfl rfl (fun _ => ?_) (fun c => absurd ((n_le (a := 2) (b := 2) (by decide) (by decide)).mpr (Nat.le_refl _)) c)
  refine w_aload_n 3 dL_push_38 rfl rfl rfl ?_
  refine w_iload_n 4 dL_push_39 rfl rfl rfl ?_
  refine w_iload_n 5 dL_push_40 rfl rfl rfl ?_
  refine c_L_44 (b := A 11 0 0) (As := [.int src, .int t]) (rest := []) (fun l => s_X11_push hz2 e3 l) hrm dL_push_41 rfl rfl (by decide) (by decide) (by decide) (hz2.o11 rfl) rfl (Nat.le_of_ble_eq_true rfl) (fun vr h9 hq => ?_) (fun _ _ hq => by cases hq.1)
  obtain ⟨w', hw, rfl, hz3⟩ := hq
  cases hw
  exact w_iret hf dL_push_44 rfl (by decide) (by decide) ⟨rfl, hz3⟩
end LPU
