/-! THE ROWS: an instruction each, over wp -/
section K12
variable {x : Cxt} {M : MI} {pc pc' : Nat} {lv lv' : List (Nat × Value)} {st : List Value} {h : Hp} {kc ks : Nat}
theorem w_iconst {n : Int} (v : Int32) (hd : decode M.2.1 pc = .ok (.iconst n, 1)) (hp : pc + 1 = pc') (hv : Int32.ofInt n = v) (k : wp x M pc' lv (.int v :: st) h kc ks) : wp x M pc lv (st) h kc ks := by
  obtain ⟨p, l, e, R, s, m, args, below, meth, cd, Q, A, D, ca, aK, aV⟩ := x
  obtain ⟨own, cc, nL, y, ret, hh⟩ := M
  subst hp
  intro ok H locs ls L hw hS hl
  exact lv_iconst ok.1 ok.2.1 hd hv (k ok H locs ls L hw hS hl)
theorem w_bipush {n : Int} (v : Int32) (hd : decode M.2.1 pc = .ok (.bipush n, 2)) (hp : pc + 2 = pc') (hv : (Int8.ofInt n).toInt32 = v) (k : wp x M pc' lv (.int v :: st) h kc ks) : wp x M pc lv (st) h kc ks := by
  obtain ⟨p, l, e, R, s, m, args, below, meth, cd, Q, A, D, ca, aK, aV⟩ := x
  obtain ⟨own, cc, nL, y, ret, hh⟩ := M
  subst hp
  intro ok H locs ls L hw hS hl
  exact lv_bipush ok.1 ok.2.1 hd hv (k ok H locs ls L hw hS hl)
theorem w_sipush {n : Int} (v : Int32) (hd : decode M.2.1 pc = .ok (.sipush n, 3)) (hp : pc + 3 = pc') (hv : (Int16.ofInt n).toInt32 = v) (k : wp x M pc' lv (.int v :: st) h kc ks) : wp x M pc lv (st) h kc ks := by
  obtain ⟨p, l, e, R, s, m, args, below, meth, cd, Q, A, D, ca, aK, aV⟩ := x
  obtain ⟨own, cc, nL, y, ret, hh⟩ := M
  subst hp
  intro ok H locs ls L hw hS hl
  exact lv_sipush ok.1 ok.2.1 hd hv (k ok H locs ls L hw hS hl)
theorem w_lconst {n : Fin 2} (v : Int64) (hd : decode M.2.1 pc = .ok (.lconst n, 1)) (hp : pc + 1 = pc') (hv : Int64.ofNat (n : Nat) = v) (k : wp x M pc' lv (.long v :: st) h kc ks) : wp x M pc lv (st) h kc ks := by
  obtain ⟨p, l, e, R, s, m, args, below, meth, cd, Q, A, D, ca, aK, aV⟩ := x
  obtain ⟨own, cc, nL, y, ret, hh⟩ := M
  subst hp
  intro ok H locs ls L hw hS hl
  exact lv_lconst ok.1 ok.2.1 hd hv (k ok H locs ls L hw hS hl)
theorem w_null (hd : decode M.2.1 pc = .ok (.aconst_null, 1)) (hp : pc + 1 = pc') (k : wp x M pc' lv (.null :: st) h kc ks) : wp x M pc lv st h kc ks := by
  obtain ⟨p, l, e, R, s, m, args, below, meth, cd, Q, A, D, ca, aK, aV⟩ := x
  obtain ⟨own, cc, nL, y, ret, hh⟩ := M
  subst hp
  intro ok H locs ls L hw hS hl
  exact lv_null ok.1 ok.2.1 hd (k ok H locs ls L hw hS hl)
theorem w_iload_n {j : Fin 4} {i : Nat} {v : Int32} (k0 : Nat) (hd : decode M.2.1 pc = .ok (.iload_n j, 1)) (hp : pc + 1 = pc') (hi : (j : Nat) = i) (hv : lv[k0]? = some (i, .int v)) (k : wp x M pc' lv (.int v :: st) h kc ks) : wp x M pc lv st h kc ks := by
  obtain ⟨p, l, e, R, s, m, args, below, meth, cd, Q, A, D, ca, aK, aV⟩ := x
  obtain ⟨own, cc, nL, y, ret, hh⟩ := M
  subst hp
  intro ok H locs ls L hw hS hl
  exact lv_iload_n ok.1 ok.2.1 hd hi (lv_at hl k0 hv) (k ok H locs ls L hw hS hl)
theorem w_iload {i : Nat} {v : Int32} (k0 : Nat) (hd : decode M.2.1 pc = .ok (.iload i, 2)) (hp : pc + 2 = pc') (hv : lv[k0]? = some (i, .int v)) (k : wp x M pc' lv (.int v :: st) h kc ks) : wp x M pc lv st h kc ks := by
  obtain ⟨p, l, e, R, s, m, args, below, meth, cd, Q, A, D, ca, aK, aV⟩ := x
  obtain ⟨own, cc, nL, y, ret, hh⟩ := M
  subst hp
  intro ok H locs ls L hw hS hl
  exact lv_iload ok.1 ok.2.1 hd (lv_at hl k0 hv) (k ok H locs ls L hw hS hl)
theorem w_lload_n {j : Fin 4} {i : Nat} {v : Int64} (k0 : Nat) (hd : decode M.2.1 pc = .ok (.lload_n j, 1)) (hp : pc + 1 = pc') (hi : (j : Nat) = i) (hv : lv[k0]? = some (i, .long v)) (k : wp x M pc' lv (.long v :: st) h kc ks) : wp x M pc lv st h kc ks := by
  obtain ⟨p, l, e, R, s, m, args, below, meth, cd, Q, A, D, ca, aK, aV⟩ := x
  obtain ⟨own, cc, nL, y, ret, hh⟩ := M
  subst hp
  intro ok H locs ls L hw hS hl
  exact lv_lload_n ok.1 ok.2.1 hd hi (lv_at hl k0 hv) (k ok H locs ls L hw hS hl)
theorem w_lload {i : Nat} {v : Int64} (k0 : Nat) (hd : decode M.2.1 pc = .ok (.lload i, 2)) (hp : pc + 2 = pc') (hv : lv[k0]? = some (i, .long v)) (k : wp x M pc' lv (.long v :: st) h kc ks) : wp x M pc lv st h kc ks := by
  obtain ⟨p, l, e, R, s, m, args, below, meth, cd, Q, A, D, ca, aK, aV⟩ := x
  obtain ⟨own, cc, nL, y, ret, hh⟩ := M
  subst hp
  intro ok H locs ls L hw hS hl
  exact lv_lload ok.1 ok.2.1 hd (lv_at hl k0 hv) (k ok H locs ls L hw hS hl)
theorem w_aload_n {j : Fin 4} {i : Nat} {v : Nat} (k0 : Nat) (hd : decode M.2.1 pc = .ok (.aload_n j, 1)) (hp : pc + 1 = pc') (hi : (j : Nat) = i) (hv : lv[k0]? = some (i, .ref v)) (k : wp x M pc' lv (.ref v :: st) h kc ks) : wp x M pc lv st h kc ks := by
  obtain ⟨p, l, e, R, s, m, args, below, meth, cd, Q, A, D, ca, aK, aV⟩ := x
  obtain ⟨own, cc, nL, y, ret, hh⟩ := M
  subst hp
  intro ok H locs ls L hw hS hl
  exact lv_aload_n ok.1 ok.2.1 hd hi (lv_at hl k0 hv) (k ok H locs ls L hw hS hl)
theorem w_aload {i : Nat} {v : Nat} (k0 : Nat) (hd : decode M.2.1 pc = .ok (.aload i, 2)) (hp : pc + 2 = pc') (hv : lv[k0]? = some (i, .ref v)) (k : wp x M pc' lv (.ref v :: st) h kc ks) : wp x M pc lv st h kc ks := by
  obtain ⟨p, l, e, R, s, m, args, below, meth, cd, Q, A, D, ca, aK, aV⟩ := x
  obtain ⟨own, cc, nL, y, ret, hh⟩ := M
  subst hp
  intro ok H locs ls L hw hS hl
  exact lv_aload ok.1 ok.2.1 hd (lv_at hl k0 hv) (k ok H locs ls L hw hS hl)
theorem w_aload_nN {j : Fin 4} {i : Nat} (k0 : Nat) (hd : decode M.2.1 pc = .ok (.aload_n j, 1)) (hp : pc + 1 = pc') (hi : (j : Nat) = i) (hv : lv[k0]? = some (i, .null)) (k : wp x M pc' lv (.null :: st) h kc ks) : wp x M pc lv st h kc ks := by
  obtain ⟨p, l, e, R, s, m, args, below, meth, cd, Q, A, D, ca, aK, aV⟩ := x
  obtain ⟨own, cc, nL, y, ret, hh⟩ := M
  subst hp
  intro ok H locs ls L hw hS hl
  exact lv_aload_nN ok.1 ok.2.1 hd hi (lv_at hl k0 hv) (k ok H locs ls L hw hS hl)
theorem w_aloadN {i : Nat} (k0 : Nat) (hd : decode M.2.1 pc = .ok (.aload i, 2)) (hp : pc + 2 = pc') (hv : lv[k0]? = some (i, .null)) (k : wp x M pc' lv (.null :: st) h kc ks) : wp x M pc lv st h kc ks := by
  obtain ⟨p, l, e, R, s, m, args, below, meth, cd, Q, A, D, ca, aK, aV⟩ := x
  obtain ⟨own, cc, nL, y, ret, hh⟩ := M
  subst hp
  intro ok H locs ls L hw hS hl
  exact lv_aloadN ok.1 ok.2.1 hd (lv_at hl k0 hv) (k ok H locs ls L hw hS hl)
theorem w_istore_n {j : Fin 4} {i : Nat} {v : Int32} (lv' : List (Nat × Value)) (hd : decode M.2.1 pc = .ok (.istore_n j, 1)) (hp : pc + 1 = pc') (hi : (j : Nat) = i) (hn : i < M.2.2.1) (hl : (i, Value.int v) :: lv.filter (fun q => !(q.1 == i) && !(q.1 + 1 == i && q.2.category == 2)) = lv') (k : wp x M pc' lv' st h kc ks) : wp x M pc lv (.int v :: st) h kc ks := by
  obtain ⟨p, l, e, R, s, m, args, below, meth, cd, Q, A, D, ca, aK, aV⟩ := x
  obtain ⟨own, cc, nL, y, ret, hh⟩ := M
  subst hp
  intro ok H locs ls L hw hS hl0
  exact lv_istore_n ok.1 ok.2.1 hd hi hl0 hn hl (fun ls' hl' => k ok H locs ls' L hw hS hl')
theorem w_istore {i : Nat} {v : Int32} (lv' : List (Nat × Value)) (hd : decode M.2.1 pc = .ok (.istore i, 2)) (hp : pc + 2 = pc') (hn : i < M.2.2.1) (hl : (i, Value.int v) :: lv.filter (fun q => !(q.1 == i) && !(q.1 + 1 == i && q.2.category == 2)) = lv') (k : wp x M pc' lv' st h kc ks) : wp x M pc lv (.int v :: st) h kc ks := by
  obtain ⟨p, l, e, R, s, m, args, below, meth, cd, Q, A, D, ca, aK, aV⟩ := x
  obtain ⟨own, cc, nL, y, ret, hh⟩ := M
  subst hp
  intro ok H locs ls L hw hS hl0
  exact lv_istore ok.1 ok.2.1 hd hl0 hn hl (fun ls' hl' => k ok H locs ls' L hw hS hl')
theorem w_lstore_n {j : Fin 4} {i : Nat} {v : Int64} (lv' : List (Nat × Value)) (hd : decode M.2.1 pc = .ok (.lstore_n j, 1)) (hp : pc + 1 = pc') (hi : (j : Nat) = i) (hn : i + 1 < M.2.2.1) (hl : (i, Value.long v) :: lv.filter (fun q => !(q.1 == i) && (!(q.1 == i + 1) && !(q.1 + 1 == i && q.2.category == 2))) = lv') (k : wp x M pc' lv' st h kc ks) : wp x M pc lv (.long v :: st) h kc ks := by
  obtain ⟨p, l, e, R, s, m, args, below, meth, cd, Q, A, D, ca, aK, aV⟩ := x
  obtain ⟨own, cc, nL, y, ret, hh⟩ := M
  subst hp
  intro ok H locs ls L hw hS hl0
  exact lv_lstore_n ok.1 ok.2.1 hd hi hl0 hn hl (fun ls' hl' => k ok H locs ls' L hw hS hl')
theorem w_lstore {i : Nat} {v : Int64} (lv' : List (Nat × Value)) (hd : decode M.2.1 pc = .ok (.lstore i, 2)) (hp : pc + 2 = pc') (hn : i + 1 < M.2.2.1) (hl : (i, Value.long v) :: lv.filter (fun q => !(q.1 == i) && (!(q.1 == i + 1) && !(q.1 + 1 == i && q.2.category == 2))) = lv') (k : wp x M pc' lv' st h kc ks) : wp x M pc lv (.long v :: st) h kc ks := by
  obtain ⟨p, l, e, R, s, m, args, below, meth, cd, Q, A, D, ca, aK, aV⟩ := x
  obtain ⟨own, cc, nL, y, ret, hh⟩ := M
  subst hp
  intro ok H locs ls L hw hS hl0
  exact lv_lstore ok.1 ok.2.1 hd hl0 hn hl (fun ls' hl' => k ok H locs ls' L hw hS hl')
theorem w_astore_n {j : Fin 4} {i : Nat} {v : Nat} (lv' : List (Nat × Value)) (hd : decode M.2.1 pc = .ok (.astore_n j, 1)) (hp : pc + 1 = pc') (hi : (j : Nat) = i) (hn : i < M.2.2.1) (hl : (i, Value.ref v) :: lv.filter (fun q => !(q.1 == i) && !(q.1 + 1 == i && q.2.category == 2)) = lv') (k : wp x M pc' lv' st h kc ks) : wp x M pc lv (.ref v :: st) h kc ks := by
  obtain ⟨p, l, e, R, s, m, args, below, meth, cd, Q, A, D, ca, aK, aV⟩ := x
  obtain ⟨own, cc, nL, y, ret, hh⟩ := M
  subst hp
  intro ok H locs ls L hw hS hl0
  exact lv_astore_n ok.1 ok.2.1 hd hi hl0 hn hl (fun ls' hl' => k ok H locs ls' L hw hS hl')
theorem w_astore {i : Nat} {v : Nat} (lv' : List (Nat × Value)) (hd : decode M.2.1 pc = .ok (.astore i, 2)) (hp : pc + 2 = pc') (hn : i < M.2.2.1) (hl : (i, Value.ref v) :: lv.filter (fun q => !(q.1 == i) && !(q.1 + 1 == i && q.2.category == 2)) = lv') (k : wp x M pc' lv' st h kc ks) : wp x M pc lv (.ref v :: st) h kc ks := by
  obtain ⟨p, l, e, R, s, m, args, below, meth, cd, Q, A, D, ca, aK, aV⟩ := x
  obtain ⟨own, cc, nL, y, ret, hh⟩ := M
  subst hp
  intro ok H locs ls L hw hS hl0
  exact lv_astore ok.1 ok.2.1 hd hl0 hn hl (fun ls' hl' => k ok H locs ls' L hw hS hl')
theorem w_astore_nN {j : Fin 4} {i : Nat} (lv' : List (Nat × Value)) (hd : decode M.2.1 pc = .ok (.astore_n j, 1)) (hp : pc + 1 = pc') (hi : (j : Nat) = i) (hn : i < M.2.2.1) (hl : (i, Value.null) :: lv.filter (fun q => !(q.1 == i) && !(q.1 + 1 == i && q.2.category == 2)) = lv') (k : wp x M pc' lv' st h kc ks) : wp x M pc lv (.null :: st) h kc ks := by
  obtain ⟨p, l, e, R, s, m, args, below, meth, cd, Q, A, D, ca, aK, aV⟩ := x
  obtain ⟨own, cc, nL, y, ret, hh⟩ := M
  subst hp
  intro ok H locs ls L hw hS hl0
  exact lv_astore_nN ok.1 ok.2.1 hd hi hl0 hn hl (fun ls' hl' => k ok H locs ls' L hw hS hl')
theorem w_astoreN {i : Nat} (lv' : List (Nat × Value)) (hd : decode M.2.1 pc = .ok (.astore i, 2)) (hp : pc + 2 = pc') (hn : i < M.2.2.1) (hl : (i, Value.null) :: lv.filter (fun q => !(q.1 == i) && !(q.1 + 1 == i && q.2.category == 2)) = lv') (k : wp x M pc' lv' st h kc ks) : wp x M pc lv (.null :: st) h kc ks := by
  obtain ⟨p, l, e, R, s, m, args, below, meth, cd, Q, A, D, ca, aK, aV⟩ := x
  obtain ⟨own, cc, nL, y, ret, hh⟩ := M
  subst hp
  intro ok H locs ls L hw hS hl0
  exact lv_astoreN ok.1 ok.2.1 hd hl0 hn hl (fun ls' hl' => k ok H locs ls' L hw hS hl')
theorem w_iinc {i : Nat} {n : Int} {u : Int32} (k0 : Nat) (v : Int32) (lv' : List (Nat × Value)) (hd : decode M.2.1 pc = .ok (.iinc i n, 3)) (hp : pc + 3 = pc') (hk : lv[k0]? = some (i, .int u)) (hv : u + Int32.ofInt n = v) (hn : i < M.2.2.1) (hl : (i, Value.int v) :: lv.filter (fun q => !(q.1 == i) && !(q.1 + 1 == i && q.2.category == 2)) = lv') (k : wp x M pc' lv' st h kc ks) : wp x M pc lv st h kc ks := by
  obtain ⟨p, l, e, R, s, m, args, below, meth, cd, Q, A, D, ca, aK, aV⟩ := x
  obtain ⟨own, cc, nL, y, ret, hh⟩ := M
  subst hp
  intro ok H locs ls L hw hS hl0
  exact lv_iinc ok.1 ok.2.1 hd hl0 hk hv hn hl (fun ls' hl' => k ok H locs ls' L hw hS hl')
theorem w_iadd {a b : Int32} (hd : decode M.2.1 pc = .ok (.iadd, 1)) (hp : pc + 1 = pc') (k : wp x M pc' lv (.int (a + b) :: st) h kc ks) : wp x M pc lv (.int b :: .int a :: st) h kc ks := by
  obtain ⟨p, l, e, R, s, m, args, below, meth, cd, Q, A, D, ca, aK, aV⟩ := x
  obtain ⟨own, cc, nL, y, ret, hh⟩ := M
  subst hp
  intro ok H locs ls L hw hS hl
  exact lv_iadd ok.1 ok.2.1 hd (k ok H locs ls L hw hS hl)
theorem w_isub {a b : Int32} (hd : decode M.2.1 pc = .ok (.isub, 1)) (hp : pc + 1 = pc') (k : wp x M pc' lv (.int (a - b) :: st) h kc ks) : wp x M pc lv (.int b :: .int a :: st) h kc ks := by
  obtain ⟨p, l, e, R, s, m, args, below, meth, cd, Q, A, D, ca, aK, aV⟩ := x
  obtain ⟨own, cc, nL, y, ret, hh⟩ := M
  subst hp
  intro ok H locs ls L hw hS hl
  exact lv_isub ok.1 ok.2.1 hd (k ok H locs ls L hw hS hl)
theorem w_imul {a b : Int32} (hd : decode M.2.1 pc = .ok (.imul, 1)) (hp : pc + 1 = pc') (k : wp x M pc' lv (.int (a * b) :: st) h kc ks) : wp x M pc lv (.int b :: .int a :: st) h kc ks := by
  obtain ⟨p, l, e, R, s, m, args, below, meth, cd, Q, A, D, ca, aK, aV⟩ := x
  obtain ⟨own, cc, nL, y, ret, hh⟩ := M
  subst hp
  intro ok H locs ls L hw hS hl
  exact lv_imul ok.1 ok.2.1 hd (k ok H locs ls L hw hS hl)
theorem w_iand {a b : Int32} (hd : decode M.2.1 pc = .ok (.iand, 1)) (hp : pc + 1 = pc') (k : wp x M pc' lv (.int (a &&& b) :: st) h kc ks) : wp x M pc lv (.int b :: .int a :: st) h kc ks := by
  obtain ⟨p, l, e, R, s, m, args, below, meth, cd, Q, A, D, ca, aK, aV⟩ := x
  obtain ⟨own, cc, nL, y, ret, hh⟩ := M
  subst hp
  intro ok H locs ls L hw hS hl
  exact lv_iand ok.1 ok.2.1 hd (k ok H locs ls L hw hS hl)
theorem w_ior {a b : Int32} (hd : decode M.2.1 pc = .ok (.ior, 1)) (hp : pc + 1 = pc') (k : wp x M pc' lv (.int (a ||| b) :: st) h kc ks) : wp x M pc lv (.int b :: .int a :: st) h kc ks := by
  obtain ⟨p, l, e, R, s, m, args, below, meth, cd, Q, A, D, ca, aK, aV⟩ := x
  obtain ⟨own, cc, nL, y, ret, hh⟩ := M
  subst hp
  intro ok H locs ls L hw hS hl
  exact lv_ior ok.1 ok.2.1 hd (k ok H locs ls L hw hS hl)
theorem w_ixor {a b : Int32} (hd : decode M.2.1 pc = .ok (.ixor, 1)) (hp : pc + 1 = pc') (k : wp x M pc' lv (.int (a ^^^ b) :: st) h kc ks) : wp x M pc lv (.int b :: .int a :: st) h kc ks := by
  obtain ⟨p, l, e, R, s, m, args, below, meth, cd, Q, A, D, ca, aK, aV⟩ := x
  obtain ⟨own, cc, nL, y, ret, hh⟩ := M
  subst hp
  intro ok H locs ls L hw hS hl
  exact lv_ixor ok.1 ok.2.1 hd (k ok H locs ls L hw hS hl)
theorem w_ladd {a b : Int64} (hd : decode M.2.1 pc = .ok (.ladd, 1)) (hp : pc + 1 = pc') (k : wp x M pc' lv (.long (a + b) :: st) h kc ks) : wp x M pc lv (.long b :: .long a :: st) h kc ks := by
  obtain ⟨p, l, e, R, s, m, args, below, meth, cd, Q, A, D, ca, aK, aV⟩ := x
  obtain ⟨own, cc, nL, y, ret, hh⟩ := M
  subst hp
  intro ok H locs ls L hw hS hl
  exact lv_ladd ok.1 ok.2.1 hd (k ok H locs ls L hw hS hl)
theorem w_lsub {a b : Int64} (hd : decode M.2.1 pc = .ok (.lsub, 1)) (hp : pc + 1 = pc') (k : wp x M pc' lv (.long (a - b) :: st) h kc ks) : wp x M pc lv (.long b :: .long a :: st) h kc ks := by
  obtain ⟨p, l, e, R, s, m, args, below, meth, cd, Q, A, D, ca, aK, aV⟩ := x
  obtain ⟨own, cc, nL, y, ret, hh⟩ := M
  subst hp
  intro ok H locs ls L hw hS hl
  exact lv_lsub ok.1 ok.2.1 hd (k ok H locs ls L hw hS hl)
theorem w_lmul {a b : Int64} (hd : decode M.2.1 pc = .ok (.lmul, 1)) (hp : pc + 1 = pc') (k : wp x M pc' lv (.long (a * b) :: st) h kc ks) : wp x M pc lv (.long b :: .long a :: st) h kc ks := by
  obtain ⟨p, l, e, R, s, m, args, below, meth, cd, Q, A, D, ca, aK, aV⟩ := x
  obtain ⟨own, cc, nL, y, ret, hh⟩ := M
  subst hp
  intro ok H locs ls L hw hS hl
  exact lv_lmul ok.1 ok.2.1 hd (k ok H locs ls L hw hS hl)
theorem w_land {a b : Int64} (hd : decode M.2.1 pc = .ok (.land, 1)) (hp : pc + 1 = pc') (k : wp x M pc' lv (.long (a &&& b) :: st) h kc ks) : wp x M pc lv (.long b :: .long a :: st) h kc ks := by
  obtain ⟨p, l, e, R, s, m, args, below, meth, cd, Q, A, D, ca, aK, aV⟩ := x
  obtain ⟨own, cc, nL, y, ret, hh⟩ := M
  subst hp
  intro ok H locs ls L hw hS hl
  exact lv_land ok.1 ok.2.1 hd (k ok H locs ls L hw hS hl)
theorem w_lor {a b : Int64} (hd : decode M.2.1 pc = .ok (.lor, 1)) (hp : pc + 1 = pc') (k : wp x M pc' lv (.long (a ||| b) :: st) h kc ks) : wp x M pc lv (.long b :: .long a :: st) h kc ks := by
  obtain ⟨p, l, e, R, s, m, args, below, meth, cd, Q, A, D, ca, aK, aV⟩ := x
  obtain ⟨own, cc, nL, y, ret, hh⟩ := M
  subst hp
  intro ok H locs ls L hw hS hl
  exact lv_lor ok.1 ok.2.1 hd (k ok H locs ls L hw hS hl)
theorem w_lxor {a b : Int64} (hd : decode M.2.1 pc = .ok (.lxor, 1)) (hp : pc + 1 = pc') (k : wp x M pc' lv (.long (a ^^^ b) :: st) h kc ks) : wp x M pc lv (.long b :: .long a :: st) h kc ks := by
  obtain ⟨p, l, e, R, s, m, args, below, meth, cd, Q, A, D, ca, aK, aV⟩ := x
  obtain ⟨own, cc, nL, y, ret, hh⟩ := M
  subst hp
  intro ok H locs ls L hw hS hl
  exact lv_lxor ok.1 ok.2.1 hd (k ok H locs ls L hw hS hl)
theorem w_ineg {a : Int32} (hd : decode M.2.1 pc = .ok (.ineg, 1)) (hp : pc + 1 = pc') (k : wp x M pc' lv (.int (-a) :: st) h kc ks) : wp x M pc lv (.int a :: st) h kc ks := by
  obtain ⟨p, l, e, R, s, m, args, below, meth, cd, Q, A, D, ca, aK, aV⟩ := x
  obtain ⟨own, cc, nL, y, ret, hh⟩ := M
  subst hp
  intro ok H locs ls L hw hS hl
  exact lv_ineg ok.1 ok.2.1 hd (k ok H locs ls L hw hS hl)
theorem w_lneg {a : Int64} (hd : decode M.2.1 pc = .ok (.lneg, 1)) (hp : pc + 1 = pc') (k : wp x M pc' lv (.long (-a) :: st) h kc ks) : wp x M pc lv (.long a :: st) h kc ks := by
  obtain ⟨p, l, e, R, s, m, args, below, meth, cd, Q, A, D, ca, aK, aV⟩ := x
  obtain ⟨own, cc, nL, y, ret, hh⟩ := M
  subst hp
  intro ok H locs ls L hw hS hl
  exact lv_lneg ok.1 ok.2.1 hd (k ok H locs ls L hw hS hl)
theorem w_idiv {a b : Int32} (hd : decode M.2.1 pc = .ok (.idiv, 1)) (hp : pc + 1 = pc') (hz : ¬ b = 0) (k : wp x M pc' lv (.int (a / b) :: st) h kc ks) : wp x M pc lv (.int b :: .int a :: st) h kc ks := by
  obtain ⟨p, l, e, R, s, m, args, below, meth, cd, Q, A, D, ca, aK, aV⟩ := x
  obtain ⟨own, cc, nL, y, ret, hh⟩ := M
  subst hp
  intro ok H locs ls L hw hS hl
  exact lv_idiv ok.1 ok.2.1 hd hz (k ok H locs ls L hw hS hl)
theorem w_irem {a b : Int32} (hd : decode M.2.1 pc = .ok (.irem, 1)) (hp : pc + 1 = pc') (hz : ¬ b = 0) (k : wp x M pc' lv (.int (a - a / b * b) :: st) h kc ks) : wp x M pc lv (.int b :: .int a :: st) h kc ks := by
  obtain ⟨p, l, e, R, s, m, args, below, meth, cd, Q, A, D, ca, aK, aV⟩ := x
  obtain ⟨own, cc, nL, y, ret, hh⟩ := M
  subst hp
  intro ok H locs ls L hw hS hl
  exact lv_irem ok.1 ok.2.1 hd hz (k ok H locs ls L hw hS hl)
theorem w_ldiv {a b : Int64} (hd : decode M.2.1 pc = .ok (.ldiv, 1)) (hp : pc + 1 = pc') (hz : ¬ b = 0) (k : wp x M pc' lv (.long (a / b) :: st) h kc ks) : wp x M pc lv (.long b :: .long a :: st) h kc ks := by
  obtain ⟨p, l, e, R, s, m, args, below, meth, cd, Q, A, D, ca, aK, aV⟩ := x
  obtain ⟨own, cc, nL, y, ret, hh⟩ := M
  subst hp
  intro ok H locs ls L hw hS hl
  exact lv_ldiv ok.1 ok.2.1 hd hz (k ok H locs ls L hw hS hl)
theorem w_lrem {a b : Int64} (hd : decode M.2.1 pc = .ok (.lrem, 1)) (hp : pc + 1 = pc') (hz : ¬ b = 0) (k : wp x M pc' lv (.long (a - a / b * b) :: st) h kc ks) : wp x M pc lv (.long b :: .long a :: st) h kc ks := by
  obtain ⟨p, l, e, R, s, m, args, below, meth, cd, Q, A, D, ca, aK, aV⟩ := x
  obtain ⟨own, cc, nL, y, ret, hh⟩ := M
  subst hp
  intro ok H locs ls L hw hS hl
  exact lv_lrem ok.1 ok.2.1 hd hz (k ok H locs ls L hw hS hl)
theorem w_ishl {a b : Int32} (hd : decode M.2.1 pc = .ok (.ishl, 1)) (hp : pc + 1 = pc') (k : wp x M pc' lv (.int (a <<< (b &&& 31)) :: st) h kc ks) : wp x M pc lv (.int b :: .int a :: st) h kc ks := by
  obtain ⟨p, l, e, R, s, m, args, below, meth, cd, Q, A, D, ca, aK, aV⟩ := x
  obtain ⟨own, cc, nL, y, ret, hh⟩ := M
  subst hp
  intro ok H locs ls L hw hS hl
  exact lv_ishl ok.1 ok.2.1 hd (k ok H locs ls L hw hS hl)
theorem w_ishr {a b : Int32} (hd : decode M.2.1 pc = .ok (.ishr, 1)) (hp : pc + 1 = pc') (k : wp x M pc' lv (.int (a >>> (b &&& 31)) :: st) h kc ks) : wp x M pc lv (.int b :: .int a :: st) h kc ks := by
  obtain ⟨p, l, e, R, s, m, args, below, meth, cd, Q, A, D, ca, aK, aV⟩ := x
  obtain ⟨own, cc, nL, y, ret, hh⟩ := M
  subst hp
  intro ok H locs ls L hw hS hl
  exact lv_ishr ok.1 ok.2.1 hd (k ok H locs ls L hw hS hl)
theorem w_iushr {a b : Int32} (hd : decode M.2.1 pc = .ok (.iushr, 1)) (hp : pc + 1 = pc') (k : wp x M pc' lv (.int ((a.toUInt32 >>> (b.toUInt32 &&& Int32.toUInt32 31)).toInt32) :: st) h kc ks) : wp x M pc lv (.int b :: .int a :: st) h kc ks := by
  obtain ⟨p, l, e, R, s, m, args, below, meth, cd, Q, A, D, ca, aK, aV⟩ := x
  obtain ⟨own, cc, nL, y, ret, hh⟩ := M
  subst hp
  intro ok H locs ls L hw hS hl
  exact lv_iushr ok.1 ok.2.1 hd rfl (k ok H locs ls L hw hS hl)
theorem w_lshl {a : Int64} {b : Int32} (hd : decode M.2.1 pc = .ok (.lshl, 1)) (hp : pc + 1 = pc') (k : wp x M pc' lv (.long (a <<< (b.toInt64 &&& 63)) :: st) h kc ks) : wp x M pc lv (.int b :: .long a :: st) h kc ks := by
  obtain ⟨p, l, e, R, s, m, args, below, meth, cd, Q, A, D, ca, aK, aV⟩ := x
  obtain ⟨own, cc, nL, y, ret, hh⟩ := M
  subst hp
  intro ok H locs ls L hw hS hl
  exact lv_lshl ok.1 ok.2.1 hd rfl (k ok H locs ls L hw hS hl)
theorem w_i2l {a : Int32} (hd : decode M.2.1 pc = .ok (.i2l, 1)) (hp : pc + 1 = pc') (k : wp x M pc' lv (.long a.toInt64 :: st) h kc ks) : wp x M pc lv (.int a :: st) h kc ks := by
  obtain ⟨p, l, e, R, s, m, args, below, meth, cd, Q, A, D, ca, aK, aV⟩ := x
  obtain ⟨own, cc, nL, y, ret, hh⟩ := M
  subst hp
  intro ok H locs ls L hw hS hl
  exact lv_i2l ok.1 ok.2.1 hd rfl (k ok H locs ls L hw hS hl)
theorem w_l2i {a : Int64} (hd : decode M.2.1 pc = .ok (.l2i, 1)) (hp : pc + 1 = pc') (k : wp x M pc' lv (.int a.toInt32 :: st) h kc ks) : wp x M pc lv (.long a :: st) h kc ks := by
  obtain ⟨p, l, e, R, s, m, args, below, meth, cd, Q, A, D, ca, aK, aV⟩ := x
  obtain ⟨own, cc, nL, y, ret, hh⟩ := M
  subst hp
  intro ok H locs ls L hw hS hl
  exact lv_l2i ok.1 ok.2.1 hd rfl (k ok H locs ls L hw hS hl)
theorem w_i2b {a : Int32} (hd : decode M.2.1 pc = .ok (.i2b, 1)) (hp : pc + 1 = pc') (k : wp x M pc' lv (.int a.toInt8.toInt32 :: st) h kc ks) : wp x M pc lv (.int a :: st) h kc ks := by
  obtain ⟨p, l, e, R, s, m, args, below, meth, cd, Q, A, D, ca, aK, aV⟩ := x
  obtain ⟨own, cc, nL, y, ret, hh⟩ := M
  subst hp
  intro ok H locs ls L hw hS hl
  exact lv_i2b ok.1 ok.2.1 hd rfl (k ok H locs ls L hw hS hl)
theorem w_i2c {a : Int32} (hd : decode M.2.1 pc = .ok (.i2c, 1)) (hp : pc + 1 = pc') (k : wp x M pc' lv (.int (a.toUInt32 % 65536).toInt32 :: st) h kc ks) : wp x M pc lv (.int a :: st) h kc ks := by
  obtain ⟨p, l, e, R, s, m, args, below, meth, cd, Q, A, D, ca, aK, aV⟩ := x
  obtain ⟨own, cc, nL, y, ret, hh⟩ := M
  subst hp
  intro ok H locs ls L hw hS hl
  exact lv_i2c ok.1 ok.2.1 hd rfl (k ok H locs ls L hw hS hl)
theorem w_lcmp {a b : Int64} (hd : decode M.2.1 pc = .ok (.lcmp, 1)) (hp : pc + 1 = pc') (k : wp x M pc' lv (.int (lg_cmp a b) :: st) h kc ks) : wp x M pc lv (.long b :: .long a :: st) h kc ks := by
  obtain ⟨p, l, e, R, s, m, args, below, meth, cd, Q, A, D, ca, aK, aV⟩ := x
  obtain ⟨own, cc, nL, y, ret, hh⟩ := M
  subst hp
  intro ok H locs ls L hw hS hl
  exact W.lcmp ok.1 ok.2.1 hd (k ok H locs ls L hw hS hl)
theorem w_i2d {a : Int32} (hd : decode M.2.1 pc = .ok (.i2d, 1)) (hp : pc + 1 = pc') (k : wp x M pc' lv (.double (FP.i2d a) :: st) h kc ks) : wp x M pc lv (.int a :: st) h kc ks := by
  obtain ⟨p, l, e, R, s, m, args, below, meth, cd, Q, A, D, ca, aK, aV⟩ := x
  obtain ⟨own, cc, nL, y, ret, hh⟩ := M
  subst hp
  intro ok H locs ls L hw hS hl
  exact lv_i2d ok.1 ok.2.1 hd (k ok H locs ls L hw hS hl)
theorem w_dconst1 (hd : decode M.2.1 pc = .ok (.dconst 1, 1)) (hp : pc + 1 = pc') (k : wp x M pc' lv (.double FP.dconst1 :: st) h kc ks) : wp x M pc lv (st) h kc ks := by
  obtain ⟨p, l, e, R, s, m, args, below, meth, cd, Q, A, D, ca, aK, aV⟩ := x
  obtain ⟨own, cc, nL, y, ret, hh⟩ := M
  subst hp
  intro ok H locs ls L hw hS hl
  exact lv_dconst1 ok.1 ok.2.1 hd (k ok H locs ls L hw hS hl)
theorem w_ddiv {a b : UInt64} (hd : decode M.2.1 pc = .ok (.ddiv, 1)) (hp : pc + 1 = pc') (hz : vf_n64 (FP.ddiv a b)) (k : wp x M pc' lv (.double (FP.ddiv a b) :: st) h kc ks) : wp x M pc lv (.double b :: .double a :: st) h kc ks := by
  obtain ⟨p, l, e, R, s, m, args, below, meth, cd, Q, A, D, ca, aK, aV⟩ := x
  obtain ⟨own, cc, nL, y, ret, hh⟩ := M
  subst hp
  intro ok H locs ls L hw hS hl
  exact lv_ddiv ok.1 ok.2.1 hd hz (k ok H locs ls L hw hS hl)
theorem w_dcmp {a b : UInt64} {op : CmpOp} (hd : decode M.2.1 pc = .ok (.dcmp op, 1)) (hp : pc + 1 = pc') (k : wp x M pc' lv (.int (Op.cmpValue (FP.dcmp a b) op) :: st) h kc ks) : wp x M pc lv (.double b :: .double a :: st) h kc ks := by
  obtain ⟨p, l, e, R, s, m, args, below, meth, cd, Q, A, D, ca, aK, aV⟩ := x
  obtain ⟨own, cc, nL, y, ret, hh⟩ := M
  subst hp
  intro ok H locs ls L hw hS hl
  exact lv_dcmp ok.1 ok.2.1 hd (k ok H locs ls L hw hS hl)
theorem w_dup {v : Value} (hd : decode M.2.1 pc = .ok (.dup, 1)) (hp : pc + 1 = pc') (hv : v.category = 1) (k : wp x M pc' lv (v :: v :: st) h kc ks) : wp x M pc lv (v :: st) h kc ks := by
  obtain ⟨p, l, e, R, s, m, args, below, meth, cd, Q, A, D, ca, aK, aV⟩ := x
  obtain ⟨own, cc, nL, y, ret, hh⟩ := M
  subst hp
  intro ok H locs ls L hw hS hl
  exact lv_dup ok.1 ok.2.1 hd hv (k ok H locs ls L hw hS hl)
theorem w_pop {v : Value} (hd : decode M.2.1 pc = .ok (.pop, 1)) (hp : pc + 1 = pc') (hv : v.category = 1) (k : wp x M pc' lv (st) h kc ks) : wp x M pc lv (v :: st) h kc ks := by
  obtain ⟨p, l, e, R, s, m, args, below, meth, cd, Q, A, D, ca, aK, aV⟩ := x
  obtain ⟨own, cc, nL, y, ret, hh⟩ := M
  subst hp
  intro ok H locs ls L hw hS hl
  exact lv_pop ok.1 ok.2.1 hd hv (k ok H locs ls L hw hS hl)
theorem w_dup2 {v u : Value} (hd : decode M.2.1 pc = .ok (.dup2, 1)) (hp : pc + 1 = pc') (hv : v.category = 1) (hu : u.category = 1) (k : wp x M pc' lv (v :: u :: v :: u :: st) h kc ks) : wp x M pc lv (v :: u :: st) h kc ks := by
  obtain ⟨p, l, e, R, s, m, args, below, meth, cd, Q, A, D, ca, aK, aV⟩ := x
  obtain ⟨own, cc, nL, y, ret, hh⟩ := M
  subst hp
  intro ok H locs ls L hw hS hl
  exact lv_dup2_11 ok.1 ok.2.1 hd hv hu (k ok H locs ls L hw hS hl)
theorem w_dup2_2 {v : Value} (hd : decode M.2.1 pc = .ok (.dup2, 1)) (hp : pc + 1 = pc') (hv : v.category = 2) (k : wp x M pc' lv (v :: v :: st) h kc ks) : wp x M pc lv (v :: st) h kc ks := by
  obtain ⟨p, l, e, R, s, m, args, below, meth, cd, Q, A, D, ca, aK, aV⟩ := x
  obtain ⟨own, cc, nL, y, ret, hh⟩ := M
  subst hp
  intro ok H locs ls L hw hS hl
  exact lv_dup2_2 ok.1 ok.2.1 hd hv (k ok H locs ls L hw hS hl)
theorem w_dload {i : Nat} {v : UInt64} (k0 : Nat) (hd : decode M.2.1 pc = .ok (.dload i, 2)) (hp : pc + 2 = pc') (hv : lv[k0]? = some (i, .double v)) (k : wp x M pc' lv (.double v :: st) h kc ks) : wp x M pc lv st h kc ks := by
  obtain ⟨p, l, e, R, s, m, args, below, meth, cd, Q, A, D, ca, aK, aV⟩ := x
  obtain ⟨own, cc, nL, y, ret, hh⟩ := M
  subst hp
  intro ok H locs ls L hw hS hl
  exact lv_dload ok.1 ok.2.1 hd (lv_at hl k0 hv) (k ok H locs ls L hw hS hl)
theorem w_dstore {i : Nat} {v : UInt64} (lv' : List (Nat × Value)) (hd : decode M.2.1 pc = .ok (.dstore i, 2)) (hp : pc + 2 = pc') (hn : i + 1 < M.2.2.1) (hl : (i, Value.double v) :: lv.filter (fun q => !(q.1 == i) && (!(q.1 == i + 1) && !(q.1 + 1 == i && q.2.category == 2))) = lv') (k : wp x M pc' lv' st h kc ks) : wp x M pc lv (.double v :: st) h kc ks := by
  obtain ⟨p, l, e, R, s, m, args, below, meth, cd, Q, A, D, ca, aK, aV⟩ := x
  obtain ⟨own, cc, nL, y, ret, hh⟩ := M
  subst hp
  intro ok H locs ls L hw hS hl0
  exact lv_dstore ok.1 ok.2.1 hd hl0 hn hl (fun ls' hl' => k ok H locs ls' L hw hS hl')
theorem w_if_eq {a : Int32} {off : Int} (tgt : Nat) (hd : decode M.2.1 pc = .ok (.ifCond .eq off, 3)) (hp : pc + 3 = pc') (ht : (pc : Int) + off = (tgt : Int)) (kt : a = 0 → wp x M tgt lv st h kc ks) (kf : ¬ a = 0 → wp x M pc' lv st h kc ks) : wp x M pc lv (.int a :: st) h kc ks := by
  obtain ⟨p, l, e, R, s, m, args, below, meth, cd, Q, A, D, ca, aK, aV⟩ := x
  obtain ⟨own, cc, nL, y, ret, hh⟩ := M
  subst hp
  intro ok H locs ls L hw hS hl
  exact lv_if_eq ok.1 ok.2.1 hd ht (fun q => kt q ok H locs ls L hw hS hl) (fun q => kf q ok H locs ls L hw hS hl)
theorem w_icmp_eq {a b : Int32} {off : Int} (tgt : Nat) (hd : decode M.2.1 pc = .ok (.if_icmp .eq off, 3)) (hp : pc + 3 = pc') (ht : (pc : Int) + off = (tgt : Int)) (kt : a = b → wp x M tgt lv st h kc ks) (kf : ¬ a = b → wp x M pc' lv st h kc ks) : wp x M pc lv (.int b :: .int a :: st) h kc ks := by
  obtain ⟨p, l, e, R, s, m, args, below, meth, cd, Q, A, D, ca, aK, aV⟩ := x
  obtain ⟨own, cc, nL, y, ret, hh⟩ := M
  subst hp
  intro ok H locs ls L hw hS hl
  exact lv_icmp_eq ok.1 ok.2.1 hd ht (fun q => kt q ok H locs ls L hw hS hl) (fun q => kf q ok H locs ls L hw hS hl)
theorem w_if_ne {a : Int32} {off : Int} (tgt : Nat) (hd : decode M.2.1 pc = .ok (.ifCond .ne off, 3)) (hp : pc + 3 = pc') (ht : (pc : Int) + off = (tgt : Int)) (kt : ¬ a = 0 → wp x M tgt lv st h kc ks) (kf : a = 0 → wp x M pc' lv st h kc ks) : wp x M pc lv (.int a :: st) h kc ks := by
  obtain ⟨p, l, e, R, s, m, args, below, meth, cd, Q, A, D, ca, aK, aV⟩ := x
  obtain ⟨own, cc, nL, y, ret, hh⟩ := M
  subst hp
  intro ok H locs ls L hw hS hl
  exact lv_if_ne ok.1 ok.2.1 hd ht (fun q => kt q ok H locs ls L hw hS hl) (fun q => kf q ok H locs ls L hw hS hl)
theorem w_icmp_ne {a b : Int32} {off : Int} (tgt : Nat) (hd : decode M.2.1 pc = .ok (.if_icmp .ne off, 3)) (hp : pc + 3 = pc') (ht : (pc : Int) + off = (tgt : Int)) (kt : ¬ a = b → wp x M tgt lv st h kc ks) (kf : a = b → wp x M pc' lv st h kc ks) : wp x M pc lv (.int b :: .int a :: st) h kc ks := by
  obtain ⟨p, l, e, R, s, m, args, below, meth, cd, Q, A, D, ca, aK, aV⟩ := x
  obtain ⟨own, cc, nL, y, ret, hh⟩ := M
  subst hp
  intro ok H locs ls L hw hS hl
  exact lv_icmp_ne ok.1 ok.2.1 hd ht (fun q => kt q ok H locs ls L hw hS hl) (fun q => kf q ok H locs ls L hw hS hl)
theorem w_if_lt {a : Int32} {off : Int} (tgt : Nat) (hd : decode M.2.1 pc = .ok (.ifCond .lt off, 3)) (hp : pc + 3 = pc') (ht : (pc : Int) + off = (tgt : Int)) (kt : a < 0 → wp x M tgt lv st h kc ks) (kf : ¬ a < 0 → wp x M pc' lv st h kc ks) : wp x M pc lv (.int a :: st) h kc ks := by
  obtain ⟨p, l, e, R, s, m, args, below, meth, cd, Q, A, D, ca, aK, aV⟩ := x
  obtain ⟨own, cc, nL, y, ret, hh⟩ := M
  subst hp
  intro ok H locs ls L hw hS hl
  exact lv_if_lt ok.1 ok.2.1 hd ht (fun q => kt q ok H locs ls L hw hS hl) (fun q => kf q ok H locs ls L hw hS hl)
theorem w_icmp_lt {a b : Int32} {off : Int} (tgt : Nat) (hd : decode M.2.1 pc = .ok (.if_icmp .lt off, 3)) (hp : pc + 3 = pc') (ht : (pc : Int) + off = (tgt : Int)) (kt : a < b → wp x M tgt lv st h kc ks) (kf : ¬ a < b → wp x M pc' lv st h kc ks) : wp x M pc lv (.int b :: .int a :: st) h kc ks := by
  obtain ⟨p, l, e, R, s, m, args, below, meth, cd, Q, A, D, ca, aK, aV⟩ := x
  obtain ⟨own, cc, nL, y, ret, hh⟩ := M
  subst hp
  intro ok H locs ls L hw hS hl
  exact lv_icmp_lt ok.1 ok.2.1 hd ht (fun q => kt q ok H locs ls L hw hS hl) (fun q => kf q ok H locs ls L hw hS hl)
theorem w_if_ge {a : Int32} {off : Int} (tgt : Nat) (hd : decode M.2.1 pc = .ok (.ifCond .ge off, 3)) (hp : pc + 3 = pc') (ht : (pc : Int) + off = (tgt : Int)) (kt : 0 ≤ a → wp x M tgt lv st h kc ks) (kf : ¬ 0 ≤ a → wp x M pc' lv st h kc ks) : wp x M pc lv (.int a :: st) h kc ks := by
  obtain ⟨p, l, e, R, s, m, args, below, meth, cd, Q, A, D, ca, aK, aV⟩ := x
  obtain ⟨own, cc, nL, y, ret, hh⟩ := M
  subst hp
  intro ok H locs ls L hw hS hl
  exact lv_if_ge ok.1 ok.2.1 hd ht (fun q => kt q ok H locs ls L hw hS hl) (fun q => kf q ok H locs ls L hw hS hl)
theorem w_icmp_ge {a b : Int32} {off : Int} (tgt : Nat) (hd : decode M.2.1 pc = .ok (.if_icmp .ge off, 3)) (hp : pc + 3 = pc') (ht : (pc : Int) + off = (tgt : Int)) (kt : b ≤ a → wp x M tgt lv st h kc ks) (kf : ¬ b ≤ a → wp x M pc' lv st h kc ks) : wp x M pc lv (.int b :: .int a :: st) h kc ks := by
  obtain ⟨p, l, e, R, s, m, args, below, meth, cd, Q, A, D, ca, aK, aV⟩ := x
  obtain ⟨own, cc, nL, y, ret, hh⟩ := M
  subst hp
  intro ok H locs ls L hw hS hl
  exact lv_icmp_ge ok.1 ok.2.1 hd ht (fun q => kt q ok H locs ls L hw hS hl) (fun q => kf q ok H locs ls L hw hS hl)
theorem w_if_gt {a : Int32} {off : Int} (tgt : Nat) (hd : decode M.2.1 pc = .ok (.ifCond .gt off, 3)) (hp : pc + 3 = pc') (ht : (pc : Int) + off = (tgt : Int)) (kt : 0 < a → wp x M tgt lv st h kc ks) (kf : ¬ 0 < a → wp x M pc' lv st h kc ks) : wp x M pc lv (.int a :: st) h kc ks := by
  obtain ⟨p, l, e, R, s, m, args, below, meth, cd, Q, A, D, ca, aK, aV⟩ := x
  obtain ⟨own, cc, nL, y, ret, hh⟩ := M
  subst hp
  intro ok H locs ls L hw hS hl
  exact lv_if_gt ok.1 ok.2.1 hd ht (fun q => kt q ok H locs ls L hw hS hl) (fun q => kf q ok H locs ls L hw hS hl)
theorem w_icmp_gt {a b : Int32} {off : Int} (tgt : Nat) (hd : decode M.2.1 pc = .ok (.if_icmp .gt off, 3)) (hp : pc + 3 = pc') (ht : (pc : Int) + off = (tgt : Int)) (kt : b < a → wp x M tgt lv st h kc ks) (kf : ¬ b < a → wp x M pc' lv st h kc ks) : wp x M pc lv (.int b :: .int a :: st) h kc ks := by
  obtain ⟨p, l, e, R, s, m, args, below, meth, cd, Q, A, D, ca, aK, aV⟩ := x
  obtain ⟨own, cc, nL, y, ret, hh⟩ := M
  subst hp
  intro ok H locs ls L hw hS hl
  exact lv_icmp_gt ok.1 ok.2.1 hd ht (fun q => kt q ok H locs ls L hw hS hl) (fun q => kf q ok H locs ls L hw hS hl)
theorem w_if_le {a : Int32} {off : Int} (tgt : Nat) (hd : decode M.2.1 pc = .ok (.ifCond .le off, 3)) (hp : pc + 3 = pc') (ht : (pc : Int) + off = (tgt : Int)) (kt : a ≤ 0 → wp x M tgt lv st h kc ks) (kf : ¬ a ≤ 0 → wp x M pc' lv st h kc ks) : wp x M pc lv (.int a :: st) h kc ks := by
  obtain ⟨p, l, e, R, s, m, args, below, meth, cd, Q, A, D, ca, aK, aV⟩ := x
  obtain ⟨own, cc, nL, y, ret, hh⟩ := M
  subst hp
  intro ok H locs ls L hw hS hl
  exact lv_if_le ok.1 ok.2.1 hd ht (fun q => kt q ok H locs ls L hw hS hl) (fun q => kf q ok H locs ls L hw hS hl)
theorem w_icmp_le {a b : Int32} {off : Int} (tgt : Nat) (hd : decode M.2.1 pc = .ok (.if_icmp .le off, 3)) (hp : pc + 3 = pc') (ht : (pc : Int) + off = (tgt : Int)) (kt : a ≤ b → wp x M tgt lv st h kc ks) (kf : ¬ a ≤ b → wp x M pc' lv st h kc ks) : wp x M pc lv (.int b :: .int a :: st) h kc ks := by
  obtain ⟨p, l, e, R, s, m, args, below, meth, cd, Q, A, D, ca, aK, aV⟩ := x
  obtain ⟨own, cc, nL, y, ret, hh⟩ := M
  subst hp
  intro ok H locs ls L hw hS hl
  exact lv_icmp_le ok.1 ok.2.1 hd ht (fun q => kt q ok H locs ls L hw hS hl) (fun q => kf q ok H locs ls L hw hS hl)
theorem w_goto {off : Int} (tgt : Nat) (hd : decode M.2.1 pc = .ok (.goto off, 3)) (ht : (pc : Int) + off = (tgt : Int)) (k : wp x M tgt lv st h kc ks) : wp x M pc lv st h kc ks := by
  obtain ⟨p, l, e, R, s, m, args, below, meth, cd, Q, A, D, ca, aK, aV⟩ := x
  obtain ⟨own, cc, nL, y, ret, hh⟩ := M
  intro ok H locs ls L hw hS hl
  exact lv_goto ok.1 ok.2.1 hd ht (k ok H locs ls L hw hS hl)
theorem w_ifnull {a : Nat} {off : Int} (hd : decode M.2.1 pc = .ok (.ifnull off, 3)) (hp : pc + 3 = pc') (k : wp x M pc' lv st h kc ks) : wp x M pc lv (.ref a :: st) h kc ks := by
  obtain ⟨p, l, e, R, s, m, args, below, meth, cd, Q, A, D, ca, aK, aV⟩ := x
  obtain ⟨own, cc, nL, y, ret, hh⟩ := M
  subst hp
  intro ok H locs ls L hw hS hl
  exact lv_ifnull ok.1 ok.2.1 hd (k ok H locs ls L hw hS hl)
theorem w_ifnonnull {a : Nat} {off : Int} (tgt : Nat) (hd : decode M.2.1 pc = .ok (.ifnonnull off, 3)) (ht : (pc : Int) + off = (tgt : Int)) (k : wp x M tgt lv st h kc ks) : wp x M pc lv (.ref a :: st) h kc ks := by
  obtain ⟨p, l, e, R, s, m, args, below, meth, cd, Q, A, D, ca, aK, aV⟩ := x
  obtain ⟨own, cc, nL, y, ret, hh⟩ := M
  intro ok H locs ls L hw hS hl
  exact lv_ifnonnull ok.1 ok.2.1 hd ht (k ok H locs ls L hw hS hl)
theorem w_ifnullN {off : Int} (tgt : Nat) (hd : decode M.2.1 pc = .ok (.ifnull off, 3)) (ht : (pc : Int) + off = (tgt : Int)) (k : wp x M tgt lv st h kc ks) : wp x M pc lv (.null :: st) h kc ks := by
  obtain ⟨p, l, e, R, s, m, args, below, meth, cd, Q, A, D, ca, aK, aV⟩ := x
  obtain ⟨own, cc, nL, y, ret, hh⟩ := M
  intro ok H locs ls L hw hS hl
  exact lv_ifnullN ok.1 ok.2.1 hd ht (k ok H locs ls L hw hS hl)
theorem w_ifnonnullN {off : Int} (hd : decode M.2.1 pc = .ok (.ifnonnull off, 3)) (hp : pc + 3 = pc') (k : wp x M pc' lv st h kc ks) : wp x M pc lv (.null :: st) h kc ks := by
  obtain ⟨p, l, e, R, s, m, args, below, meth, cd, Q, A, D, ca, aK, aV⟩ := x
  obtain ⟨own, cc, nL, y, ret, hh⟩ := M
  subst hp
  intro ok H locs ls L hw hS hl
  exact lv_ifnonnullN ok.1 ok.2.1 hd (k ok H locs ls L hw hS hl)
theorem w_tableOut {dflt lo hi : Int} {offs : Array Int} {len : Nat} {a : Int32} (tgt : Nat) (hd : decode M.2.1 pc = .ok (.tableswitch dflt lo hi offs, len)) (hv : a.toInt < lo ∨ hi < a.toInt) (ht : (pc : Int) + dflt = (tgt : Int)) (k : wp x M tgt lv st h kc ks) : wp x M pc lv (.int a :: st) h kc ks := by
  obtain ⟨p, l, e, R, s, m, args, below, meth, cd, Q, A, D, ca, aK, aV⟩ := x
  obtain ⟨own, cc, nL, y, ret, hh⟩ := M
  intro ok H locs ls L hw hS hl
  exact lv_tableOut ok.1 ok.2.1 hd hv ht (k ok H locs ls L hw hS hl)
theorem w_tableIn {dflt lo hi : Int} {offs : Array Int} {len : Nat} {a : Int32} {off : Int} (tgt : Nat) (hd : decode M.2.1 pc = .ok (.tableswitch dflt lo hi offs, len)) (h1 : ¬ a.toInt < lo) (h2 : ¬ hi < a.toInt) (ho : offs[(a.toInt - lo).toNat]? = some off) (ht : (pc : Int) + off = (tgt : Int)) (k : wp x M tgt lv st h kc ks) : wp x M pc lv (.int a :: st) h kc ks := by
  obtain ⟨p, l, e, R, s, m, args, below, meth, cd, Q, A, D, ca, aK, aV⟩ := x
  obtain ⟨own, cc, nL, y, ret, hh⟩ := M
  intro ok H locs ls L hw hS hl
  exact lv_tableIn ok.1 ok.2.1 hd h1 h2 ho ht (k ok H locs ls L hw hS hl)
theorem w_lookup {dflt : Int} {ps : Array (Int × Int)} {len : Nat} {a : Int32} {off : Int} (tgt : Nat) (hd : decode M.2.1 pc = .ok (.lookupswitch dflt ps, len)) (hs : (ps.toList.zip (ps.toList.drop 1)).all (fun (a, next) => a.1 < next.1) = true) (ho : Op.lookupswitch.offset ps.toList dflt a.toInt = off) (ht : (pc : Int) + off = (tgt : Int)) (k : wp x M tgt lv st h kc ks) : wp x M pc lv (.int a :: st) h kc ks := by
  obtain ⟨p, l, e, R, s, m, args, below, meth, cd, Q, A, D, ca, aK, aV⟩ := x
  obtain ⟨own, cc, nL, y, ret, hh⟩ := M
  intro ok H locs ls L hw hS hl
  exact lv_lookup ok.1 ok.2.1 hd hs ho ht (k ok H locs ls L hw hS hl)
theorem w_lv (lv' : List (Nat × Value)) (is : List Nat) (hl : lv_pick lv is = lv') (k : wp x M pc lv' st h kc ks) : wp x M pc lv st h kc ks := by
  obtain ⟨p, l, e, R, s, m, args, below, meth, cd, Q, A, D, ca, aK, aV⟩ := x
  obtain ⟨own, cc, nL, y, ret, hh⟩ := M
  intro ok H locs ls L hw hS hl0
  exact k ok H locs ls L hw hS (lv_sub hl0 is hl)
theorem w_okc (k : okc x M → wp x M pc lv st h kc ks) : wp x M pc lv st h kc ks := by
  obtain ⟨p, l, e, R, s, m, args, below, meth, cd, Q, A, D, ca, aK, aV⟩ := x
  obtain ⟨own, cc, nL, y, ret, hh⟩ := M
  intro ok H locs ls L hw hS hl
  exact k ok ok H locs ls L hw hS hl
theorem w_widen {kc' ks' : Nat} (h1 : kc ≤ kc') (h2 : ks ≤ ks') (k : wp x M pc lv st h kc' ks') : wp x M pc lv st h kc ks := by
  obtain ⟨p, l, e, R, s, m, args, below, meth, cd, Q, A, D, ca, aK, aV⟩ := x
  obtain ⟨own, cc, nL, y, ret, hh⟩ := M
  intro ok H locs ls L hw hS hl
  exact W.widen h1 h2 (k ok H locs ls L hw hS hl)
theorem m_at {D : va_G} {ca : Nat → ClassId} {L : List Nat} {A : Nat → Prop} {H : Heap} {a c : Nat} (hw : m_W D ca h L A H) (hk : m_K h a = c) (hc : c < 28) : ∃ k : Nat, (va_pl L (m_E ca h))[k]? = some (a, m_E ca h a) := by
  have ha : a ∈ L := (hw.2.2 a).mpr (by rw [hk]; exact hc)
  exact va_pl_get (X := []) (f := m_E ca h) ha
theorem m_set {D : va_G} {ca : Nat → ClassId} {h' : Hp} {L : List Nat} {A : Nat → Prop} {H H1 : Heap} {a c k0 : Nat} {e : va_E} (hw : m_W D ca h L A H) (hk : m_K h a = c) (hc : c < 28) (hk0 : (va_pl L (m_E ca h))[k0]? = some (a, m_E ca h a)) (hKK : m_K h' = m_K h) (hu : ∀ b, va_up (m_E ca h) a e b = m_E ca h' b)
    (hP1 : va_P D vwCl ((va_pl L (m_E ca h)).set k0 (a, e)) H1) (hD1 : va_D A ((va_pl L (m_E ca h)).set k0 (a, e))) : m_W D ca h' L A H1 := by
  have ha : a ∈ L := (hw.2.2 a).mpr (by rw [hk]; exact hc)
  have e1 : (va_pl L (m_E ca h)).set k0 (a, e) = va_pl L (m_E ca h') := by
    have e2 := va_pl_set (X := []) (f := m_E ca h) (e := e) hw.2.1 ha hk0
    exact e2.trans (va_pl_congr hu)
  rw [e1] at hP1 hD1
  exact ⟨hP1, hD1, fun b => by rw [hKK]; exact hw.2.2 b⟩
theorem m_push {D : va_G} {ca : Nat → ClassId} {h' : Hp} {L : List Nat} {A : Nat → Prop} {H H1 : Heap} {q c : Nat} {e : va_E} (hw : m_W D ca h L A H) (hq : q ∉ L) (hc : c < 28) (hKK : m_K h' = va_up (m_K h) q c) (hu : ∀ b, va_up (m_E ca h) q e b = m_E ca h' b)
    (hP1 : va_P D vwCl (va_pl L (m_E ca h) ++ [(q, e)]) H1) (hD1 : va_D A (va_pl L (m_E ca h) ++ [(q, e)])) : m_W D ca h' (L ++ [q]) A H1 := by
  have e1 : va_pl L (m_E ca h) ++ [(q, e)] = va_pl (L ++ [q]) (m_E ca h') := (va_pl_push hq).trans (va_pl_congr hu)
  rw [e1] at hP1 hD1
  refine ⟨hP1, hD1, fun b => ?_⟩
  rw [hKK]
  by_cases hb : b = q
  · subst hb
    rw [va_up_self]
    exact ⟨fun _ => hc, fun _ => List.mem_append_right _ List.mem_cons_self⟩
  · rw [va_up_ne _ _ hb, ← hw.2.2 b]
    exact ⟨fun z => (List.mem_append.mp z).elim id (fun z => absurd (List.mem_singleton.mp z) hb), fun z => List.mem_append_left _ z⟩
theorem w_get {a index c j N : Nat} {ref C n0 d0 : String} {T : u_T} (hd : decode M.2.1 pc = .ok (.getfield index, 3)) (hp : pc + 3 = pc') (hlk : Cond.fieldLink M.1 index ref n0 d0 ∈ m_TW) (hcl : vwCl[c]? = some (C, T, N)) (hT : T j = (ref, n0, d0, (T j).2.2.2)) (hj : j < N) (hN : (m_ty c).length = N) (hc : c < 15) (hin : ∀ w ∈ u_ws C T N, w ∈ m_TW) (hk : m_K h a = c) (k : wp x M pc' lv (m_v h c a j :: st) h kc ks) : wp x M pc lv (.ref a :: st) h kc ks := by
  obtain ⟨p, l, e, R, s, m, args, below, meth, cd, Q, A, D, ca, aK, aV⟩ := x
  obtain ⟨own, cc, nL, y, ret, hh⟩ := M
  subst hp
  intro ok H locs ls L hw hS hl
  obtain ⟨k0, hk0⟩ := m_at hw hk (by omega)
  rw [m_E_o hk hc] at hk0
  exact va_get ok.1 ok.2.1 ok.2.2.2.2.1 hin ok.2.2.2.1 ok.2.2.2.2.2.1 hw.1 k0 hk0 hcl j hj (ref := ref) (by rw [hT]; exact (ok.2.2.2.2.1 _ hlk)) (fun q hq => by rw [hT] at hq ⊢; exact hq) (m_f_get (by omega)) hd (k ok H locs ls L hw hS hl)
theorem w_putI {a index c j N : Nat} {v : Int32} {ref C n0 d0 : String} {T : u_T} (tyf : Nat → FieldType) (hd : decode M.2.1 pc = .ok (.putfield index, 3)) (hp : pc + 3 = pc') (hlk : Cond.fieldLink M.1 index ref n0 d0 ∈ m_TW) (hcl : vwCl[c]? = some (C, T, N)) (hT : T j = (ref, n0, d0, false)) (hj : j < N) (hN : (m_ty c).length = N) (hc : c < 15) (hin : ∀ w ∈ u_ws C T N, w ∈ m_TW) (hty : ∀ i, i < N → parseFieldDescriptor (T i).2.2.1 = some (tyf i)) (hnm : ∀ a, a < N → ∀ b, b < N → a ≠ b → (T a).2.1 ≠ (T b).2.1) (ht : (m_ty c).getD j 0 = 0) (hfit : ∃ ty : FieldType, parseFieldDescriptor d0 = some ty ∧ narrow ty (.int v) = .int v ∧ fits ty (.int v) = true) (hk : m_K h a = c) (k : wp x M pc' lv st (p_I h (c * 64 + j) a (v)) kc ks) : wp x M pc lv (.int v :: .ref a :: st) h kc ks := by
  obtain ⟨p, l, e, R, s, m, args, below, meth, cd, Q, A, D, ca, aK, aV⟩ := x
  obtain ⟨own, cc, nL, y, ret, hh⟩ := M
  subst hp
  intro ok H locs ls L hw hS hl
  obtain ⟨k0, hk0⟩ := m_at hw hk (by omega)
  have hk1 := hk0
  rw [m_E_o hk hc] at hk1
  obtain ⟨ty, f1, f2, f3⟩ := hfit
  refine va_put ok.1 ok.2.1 ok.2.2.2.2.1 hin tyf hty hnm ok.2.2.2.1 ok.2.2.2.2.2.1 hw.1 hw.2.1 hS k0 hk1 hcl j hj (ref := ref) (by rw [hT]; exact (ok.2.2.2.2.1 _ hlk)) (fun q hq => by rw [hT] at hq ⊢; exact hq) (by rw [hT]) (by rw [hT]; exact f1) f2 f3 (by rw [m_f_len]; omega) hd (fun H1 locs1 hP1 hD1 hS1 => ?_)
  exact k ok H1 locs1 ls L (m_set hw hk (by omega) hk0 (h' := p_I h (c * 64 + j) a (v)) rfl (m_putI hk hc (by omega) ht) hP1 hD1) hS1 hl
theorem w_putJ {a index c j N : Nat} {v : Int64} {ref C n0 d0 : String} {T : u_T} (tyf : Nat → FieldType) (hd : decode M.2.1 pc = .ok (.putfield index, 3)) (hp : pc + 3 = pc') (hlk : Cond.fieldLink M.1 index ref n0 d0 ∈ m_TW) (hcl : vwCl[c]? = some (C, T, N)) (hT : T j = (ref, n0, d0, false)) (hj : j < N) (hN : (m_ty c).length = N) (hc : c < 15) (hin : ∀ w ∈ u_ws C T N, w ∈ m_TW) (hty : ∀ i, i < N → parseFieldDescriptor (T i).2.2.1 = some (tyf i)) (hnm : ∀ a, a < N → ∀ b, b < N → a ≠ b → (T a).2.1 ≠ (T b).2.1) (ht : (m_ty c).getD j 0 = 1) (hfit : ∃ ty : FieldType, parseFieldDescriptor d0 = some ty ∧ narrow ty (.long v) = .long v ∧ fits ty (.long v) = true) (hk : m_K h a = c) (k : wp x M pc' lv st (p_J h (c * 64 + j) a (v)) kc ks) : wp x M pc lv (.long v :: .ref a :: st) h kc ks := by
  obtain ⟨p, l, e, R, s, m, args, below, meth, cd, Q, A, D, ca, aK, aV⟩ := x
  obtain ⟨own, cc, nL, y, ret, hh⟩ := M
  subst hp
  intro ok H locs ls L hw hS hl
  obtain ⟨k0, hk0⟩ := m_at hw hk (by omega)
  have hk1 := hk0
  rw [m_E_o hk hc] at hk1
  obtain ⟨ty, f1, f2, f3⟩ := hfit
  refine va_put ok.1 ok.2.1 ok.2.2.2.2.1 hin tyf hty hnm ok.2.2.2.1 ok.2.2.2.2.2.1 hw.1 hw.2.1 hS k0 hk1 hcl j hj (ref := ref) (by rw [hT]; exact (ok.2.2.2.2.1 _ hlk)) (fun q hq => by rw [hT] at hq ⊢; exact hq) (by rw [hT]) (by rw [hT]; exact f1) f2 f3 (by rw [m_f_len]; omega) hd (fun H1 locs1 hP1 hD1 hS1 => ?_)
  exact k ok H1 locs1 ls L (m_set hw hk (by omega) hk0 (h' := p_J h (c * 64 + j) a (v)) rfl (m_putJ hk hc (by omega) ht) hP1 hD1) hS1 hl
theorem w_putR {a index c j N : Nat} {v : Nat} {ref C n0 d0 : String} {T : u_T} (tyf : Nat → FieldType) (hd : decode M.2.1 pc = .ok (.putfield index, 3)) (hp : pc + 3 = pc') (hlk : Cond.fieldLink M.1 index ref n0 d0 ∈ m_TW) (hcl : vwCl[c]? = some (C, T, N)) (hT : T j = (ref, n0, d0, false)) (hj : j < N) (hN : (m_ty c).length = N) (hc : c < 15) (hin : ∀ w ∈ u_ws C T N, w ∈ m_TW) (hty : ∀ i, i < N → parseFieldDescriptor (T i).2.2.1 = some (tyf i)) (hnm : ∀ a, a < N → ∀ b, b < N → a ≠ b → (T a).2.1 ≠ (T b).2.1) (ht : (m_ty c).getD j 0 = 2) (hfit : ∃ ty : FieldType, parseFieldDescriptor d0 = some ty ∧ narrow ty (.ref v) = .ref v ∧ fits ty (.ref v) = true) (hk : m_K h a = c) (k : wp x M pc' lv st (p_R h (c * 64 + j) a (some v)) kc ks) : wp x M pc lv (.ref v :: .ref a :: st) h kc ks := by
  obtain ⟨p, l, e, R, s, m, args, below, meth, cd, Q, A, D, ca, aK, aV⟩ := x
  obtain ⟨own, cc, nL, y, ret, hh⟩ := M
  subst hp
  intro ok H locs ls L hw hS hl
  obtain ⟨k0, hk0⟩ := m_at hw hk (by omega)
  have hk1 := hk0
  rw [m_E_o hk hc] at hk1
  obtain ⟨ty, f1, f2, f3⟩ := hfit
  refine va_put ok.1 ok.2.1 ok.2.2.2.2.1 hin tyf hty hnm ok.2.2.2.1 ok.2.2.2.2.2.1 hw.1 hw.2.1 hS k0 hk1 hcl j hj (ref := ref) (by rw [hT]; exact (ok.2.2.2.2.1 _ hlk)) (fun q hq => by rw [hT] at hq ⊢; exact hq) (by rw [hT]) (by rw [hT]; exact f1) f2 f3 (by rw [m_f_len]; omega) hd (fun H1 locs1 hP1 hD1 hS1 => ?_)
  exact k ok H1 locs1 ls L (m_set hw hk (by omega) hk0 (h' := p_R h (c * 64 + j) a (some v)) rfl (m_putR hk hc (by omega) ht) hP1 hD1) hS1 hl
theorem w_getN {a index c j N : Nat} {ref C n0 d0 : String} {host : String} {T : u_T} (hd : decode M.2.1 pc = .ok (.getfield index, 3)) (hp : pc + 3 = pc') (hlk : Cond.fieldLinkNest M.1 index ref n0 d0 host ∈ m_NW) (hcl : vwCl[c]? = some (C, T, N)) (hT : T j = (ref, n0, d0, (T j).2.2.2)) (hj : j < N) (hN : (m_ty c).length = N) (hc : c < 15) (hin : ∀ w ∈ u_ws C T N, w ∈ m_TW) (hk : m_K h a = c) (k : wp x M pc' lv (m_v h c a j :: st) h kc ks) : wp x M pc lv (.ref a :: st) h kc ks := by
  obtain ⟨p, l, e, R, s, m, args, below, meth, cd, Q, A, D, ca, aK, aV⟩ := x
  obtain ⟨own, cc, nL, y, ret, hh⟩ := M
  subst hp
  intro ok H locs ls L hw hS hl
  obtain ⟨k0, hk0⟩ := m_at hw hk (by omega)
  rw [m_E_o hk hc] at hk0
  exact va_getN ok.1 ok.2.1 ok.2.2.2.2.1 hin ok.2.2.2.1 ok.2.2.2.2.2.1 hw.1 k0 hk0 hcl j hj (ref := ref) (by rw [hT]; exact (va_Nw.use rfl (ok.2.2.2.2.2.2.1 _ hlk))) (fun q hq => by rw [hT] at hq ⊢; exact hq) (m_f_get (by omega)) hd (k ok H locs ls L hw hS hl)
theorem w_putIN {a index c j N : Nat} {v : Int32} {ref C n0 d0 : String} {host : String} {T : u_T} (tyf : Nat → FieldType) (hd : decode M.2.1 pc = .ok (.putfield index, 3)) (hp : pc + 3 = pc') (hlk : Cond.fieldLinkNest M.1 index ref n0 d0 host ∈ m_NW) (hcl : vwCl[c]? = some (C, T, N)) (hT : T j = (ref, n0, d0, false)) (hj : j < N) (hN : (m_ty c).length = N) (hc : c < 15) (hin : ∀ w ∈ u_ws C T N, w ∈ m_TW) (hty : ∀ i, i < N → parseFieldDescriptor (T i).2.2.1 = some (tyf i)) (hnm : ∀ a, a < N → ∀ b, b < N → a ≠ b → (T a).2.1 ≠ (T b).2.1) (ht : (m_ty c).getD j 0 = 0) (hfit : ∃ ty : FieldType, parseFieldDescriptor d0 = some ty ∧ narrow ty (.int v) = .int v ∧ fits ty (.int v) = true) (hk : m_K h a = c) (k : wp x M pc' lv st (p_I h (c * 64 + j) a (v)) kc ks) : wp x M pc lv (.int v :: .ref a :: st) h kc ks := by
  obtain ⟨p, l, e, R, s, m, args, below, meth, cd, Q, A, D, ca, aK, aV⟩ := x
  obtain ⟨own, cc, nL, y, ret, hh⟩ := M
  subst hp
  intro ok H locs ls L hw hS hl
  obtain ⟨k0, hk0⟩ := m_at hw hk (by omega)
  have hk1 := hk0
  rw [m_E_o hk hc] at hk1
  obtain ⟨ty, f1, f2, f3⟩ := hfit
  refine va_putN ok.1 ok.2.1 ok.2.2.2.2.1 hin tyf hty hnm ok.2.2.2.1 ok.2.2.2.2.2.1 hw.1 hw.2.1 hS k0 hk1 hcl j hj (ref := ref) (by rw [hT]; exact (va_Nw.use rfl (ok.2.2.2.2.2.2.1 _ hlk))) (fun q hq => by rw [hT] at hq ⊢; exact hq) (by rw [hT]) (by rw [hT]; exact f1) f2 f3 (by rw [m_f_len]; omega) hd (fun H1 locs1 hP1 hD1 hS1 => ?_)
  exact k ok H1 locs1 ls L (m_set hw hk (by omega) hk0 (h' := p_I h (c * 64 + j) a (v)) rfl (m_putI hk hc (by omega) ht) hP1 hD1) hS1 hl
theorem w_putJN {a index c j N : Nat} {v : Int64} {ref C n0 d0 : String} {host : String} {T : u_T} (tyf : Nat → FieldType) (hd : decode M.2.1 pc = .ok (.putfield index, 3)) (hp : pc + 3 = pc') (hlk : Cond.fieldLinkNest M.1 index ref n0 d0 host ∈ m_NW) (hcl : vwCl[c]? = some (C, T, N)) (hT : T j = (ref, n0, d0, false)) (hj : j < N) (hN : (m_ty c).length = N) (hc : c < 15) (hin : ∀ w ∈ u_ws C T N, w ∈ m_TW) (hty : ∀ i, i < N → parseFieldDescriptor (T i).2.2.1 = some (tyf i)) (hnm : ∀ a, a < N → ∀ b, b < N → a ≠ b → (T a).2.1 ≠ (T b).2.1) (ht : (m_ty c).getD j 0 = 1) (hfit : ∃ ty : FieldType, parseFieldDescriptor d0 = some ty ∧ narrow ty (.long v) = .long v ∧ fits ty (.long v) = true) (hk : m_K h a = c) (k : wp x M pc' lv st (p_J h (c * 64 + j) a (v)) kc ks) : wp x M pc lv (.long v :: .ref a :: st) h kc ks := by
  obtain ⟨p, l, e, R, s, m, args, below, meth, cd, Q, A, D, ca, aK, aV⟩ := x
  obtain ⟨own, cc, nL, y, ret, hh⟩ := M
  subst hp
  intro ok H locs ls L hw hS hl
  obtain ⟨k0, hk0⟩ := m_at hw hk (by omega)
  have hk1 := hk0
  rw [m_E_o hk hc] at hk1
  obtain ⟨ty, f1, f2, f3⟩ := hfit
  refine va_putN ok.1 ok.2.1 ok.2.2.2.2.1 hin tyf hty hnm ok.2.2.2.1 ok.2.2.2.2.2.1 hw.1 hw.2.1 hS k0 hk1 hcl j hj (ref := ref) (by rw [hT]; exact (va_Nw.use rfl (ok.2.2.2.2.2.2.1 _ hlk))) (fun q hq => by rw [hT] at hq ⊢; exact hq) (by rw [hT]) (by rw [hT]; exact f1) f2 f3 (by rw [m_f_len]; omega) hd (fun H1 locs1 hP1 hD1 hS1 => ?_)
  exact k ok H1 locs1 ls L (m_set hw hk (by omega) hk0 (h' := p_J h (c * 64 + j) a (v)) rfl (m_putJ hk hc (by omega) ht) hP1 hD1) hS1 hl
theorem w_putRN {a index c j N : Nat} {v : Nat} {ref C n0 d0 : String} {host : String} {T : u_T} (tyf : Nat → FieldType) (hd : decode M.2.1 pc = .ok (.putfield index, 3)) (hp : pc + 3 = pc') (hlk : Cond.fieldLinkNest M.1 index ref n0 d0 host ∈ m_NW) (hcl : vwCl[c]? = some (C, T, N)) (hT : T j = (ref, n0, d0, false)) (hj : j < N) (hN : (m_ty c).length = N) (hc : c < 15) (hin : ∀ w ∈ u_ws C T N, w ∈ m_TW) (hty : ∀ i, i < N → parseFieldDescriptor (T i).2.2.1 = some (tyf i)) (hnm : ∀ a, a < N → ∀ b, b < N → a ≠ b → (T a).2.1 ≠ (T b).2.1) (ht : (m_ty c).getD j 0 = 2) (hfit : ∃ ty : FieldType, parseFieldDescriptor d0 = some ty ∧ narrow ty (.ref v) = .ref v ∧ fits ty (.ref v) = true) (hk : m_K h a = c) (k : wp x M pc' lv st (p_R h (c * 64 + j) a (some v)) kc ks) : wp x M pc lv (.ref v :: .ref a :: st) h kc ks := by
  obtain ⟨p, l, e, R, s, m, args, below, meth, cd, Q, A, D, ca, aK, aV⟩ := x
  obtain ⟨own, cc, nL, y, ret, hh⟩ := M
  subst hp
  intro ok H locs ls L hw hS hl
  obtain ⟨k0, hk0⟩ := m_at hw hk (by omega)
  have hk1 := hk0
  rw [m_E_o hk hc] at hk1
  obtain ⟨ty, f1, f2, f3⟩ := hfit
  refine va_putN ok.1 ok.2.1 ok.2.2.2.2.1 hin tyf hty hnm ok.2.2.2.1 ok.2.2.2.2.2.1 hw.1 hw.2.1 hS k0 hk1 hcl j hj (ref := ref) (by rw [hT]; exact (va_Nw.use rfl (ok.2.2.2.2.2.2.1 _ hlk))) (fun q hq => by rw [hT] at hq ⊢; exact hq) (by rw [hT]) (by rw [hT]; exact f1) f2 f3 (by rw [m_f_len]; omega) hd (fun H1 locs1 hP1 hD1 hS1 => ?_)
  exact k ok H1 locs1 ls L (m_set hw hk (by omega) hk0 (h' := p_R h (c * 64 + j) a (some v)) rfl (m_putR hk hc (by omega) ht) hP1 hD1) hS1 hl
theorem w_putFI {a index c j N : Nat} {v : Int32} {C n0 d0 : String} {T : u_T} (tyf : Nat → FieldType) (hd : decode M.2.1 pc = .ok (.putfield index, 3)) (hp : pc + 3 = pc') (hini : M.2.2.2.1.name = "<init>") (hlk : Cond.fieldLink M.1 index M.1 n0 d0 ∈ m_TW) (hcl : vwCl[c]? = some (C, T, N)) (hT : T j = (M.1, n0, d0, true)) (hj : j < N) (hN : (m_ty c).length = N) (hc : c < 15) (hin : ∀ w ∈ u_ws C T N, w ∈ m_TW) (hty : ∀ i, i < N → parseFieldDescriptor (T i).2.2.1 = some (tyf i)) (hnm : ∀ a, a < N → ∀ b, b < N → a ≠ b → (T a).2.1 ≠ (T b).2.1) (ht : (m_ty c).getD j 0 = 0) (hfit : ∃ ty : FieldType, parseFieldDescriptor d0 = some ty ∧ narrow ty (.int v) = .int v ∧ fits ty (.int v) = true) (hk : m_K h a = c) (k : wp x M pc' lv st (p_I h (c * 64 + j) a (v)) kc ks) : wp x M pc lv (.int v :: .ref a :: st) h kc ks := by
  obtain ⟨p, l, e, R, s, m, args, below, meth, cd, Q, A, D, ca, aK, aV⟩ := x
  obtain ⟨own, cc, nL, y, ret, hh⟩ := M
  subst hp
  intro ok H locs ls L hw hS hl
  obtain ⟨k0, hk0⟩ := m_at hw hk (by omega)
  have hk1 := hk0
  rw [m_E_o hk hc] at hk1
  obtain ⟨ty, f1, f2, f3⟩ := hfit
  refine va_putF ok.1 ok.2.1 ok.2.2.2.2.1 hin tyf hty hnm ok.2.2.2.1 ok.2.2.2.2.2.1 hw.1 hw.2.1 hS k0 hk1 hcl j hj (ref := own) (by rw [hT]; exact (ok.2.2.2.2.1 _ hlk)) (fun q hq => by rw [hT] at hq ⊢; exact hq) (by rw [hT]) (by rw [ok.2.2.2.2.2.2.2.2.2.2.1]; exact hini) (by rw [hT]) (by rw [hT]; exact f1) f2 f3 (by rw [m_f_len]; omega) hd (fun H1 locs1 hP1 hD1 hS1 => ?_)
  exact k ok H1 locs1 ls L (m_set hw hk (by omega) hk0 (h' := p_I h (c * 64 + j) a (v)) rfl (m_putI hk hc (by omega) ht) hP1 hD1) hS1 hl
theorem w_putFJ {a index c j N : Nat} {v : Int64} {C n0 d0 : String} {T : u_T} (tyf : Nat → FieldType) (hd : decode M.2.1 pc = .ok (.putfield index, 3)) (hp : pc + 3 = pc') (hini : M.2.2.2.1.name = "<init>") (hlk : Cond.fieldLink M.1 index M.1 n0 d0 ∈ m_TW) (hcl : vwCl[c]? = some (C, T, N)) (hT : T j = (M.1, n0, d0, true)) (hj : j < N) (hN : (m_ty c).length = N) (hc : c < 15) (hin : ∀ w ∈ u_ws C T N, w ∈ m_TW) (hty : ∀ i, i < N → parseFieldDescriptor (T i).2.2.1 = some (tyf i)) (hnm : ∀ a, a < N → ∀ b, b < N → a ≠ b → (T a).2.1 ≠ (T b).2.1) (ht : (m_ty c).getD j 0 = 1) (hfit : ∃ ty : FieldType, parseFieldDescriptor d0 = some ty ∧ narrow ty (.long v) = .long v ∧ fits ty (.long v) = true) (hk : m_K h a = c) (k : wp x M pc' lv st (p_J h (c * 64 + j) a (v)) kc ks) : wp x M pc lv (.long v :: .ref a :: st) h kc ks := by
  obtain ⟨p, l, e, R, s, m, args, below, meth, cd, Q, A, D, ca, aK, aV⟩ := x
  obtain ⟨own, cc, nL, y, ret, hh⟩ := M
  subst hp
  intro ok H locs ls L hw hS hl
  obtain ⟨k0, hk0⟩ := m_at hw hk (by omega)
  have hk1 := hk0
  rw [m_E_o hk hc] at hk1
  obtain ⟨ty, f1, f2, f3⟩ := hfit
  refine va_putF ok.1 ok.2.1 ok.2.2.2.2.1 hin tyf hty hnm ok.2.2.2.1 ok.2.2.2.2.2.1 hw.1 hw.2.1 hS k0 hk1 hcl j hj (ref := own) (by rw [hT]; exact (ok.2.2.2.2.1 _ hlk)) (fun q hq => by rw [hT] at hq ⊢; exact hq) (by rw [hT]) (by rw [ok.2.2.2.2.2.2.2.2.2.2.1]; exact hini) (by rw [hT]) (by rw [hT]; exact f1) f2 f3 (by rw [m_f_len]; omega) hd (fun H1 locs1 hP1 hD1 hS1 => ?_)
  exact k ok H1 locs1 ls L (m_set hw hk (by omega) hk0 (h' := p_J h (c * 64 + j) a (v)) rfl (m_putJ hk hc (by omega) ht) hP1 hD1) hS1 hl
theorem w_putFR {a index c j N : Nat} {v : Nat} {C n0 d0 : String} {T : u_T} (tyf : Nat → FieldType) (hd : decode M.2.1 pc = .ok (.putfield index, 3)) (hp : pc + 3 = pc') (hini : M.2.2.2.1.name = "<init>") (hlk : Cond.fieldLink M.1 index M.1 n0 d0 ∈ m_TW) (hcl : vwCl[c]? = some (C, T, N)) (hT : T j = (M.1, n0, d0, true)) (hj : j < N) (hN : (m_ty c).length = N) (hc : c < 15) (hin : ∀ w ∈ u_ws C T N, w ∈ m_TW) (hty : ∀ i, i < N → parseFieldDescriptor (T i).2.2.1 = some (tyf i)) (hnm : ∀ a, a < N → ∀ b, b < N → a ≠ b → (T a).2.1 ≠ (T b).2.1) (ht : (m_ty c).getD j 0 = 2) (hfit : ∃ ty : FieldType, parseFieldDescriptor d0 = some ty ∧ narrow ty (.ref v) = .ref v ∧ fits ty (.ref v) = true) (hk : m_K h a = c) (k : wp x M pc' lv st (p_R h (c * 64 + j) a (some v)) kc ks) : wp x M pc lv (.ref v :: .ref a :: st) h kc ks := by
  obtain ⟨p, l, e, R, s, m, args, below, meth, cd, Q, A, D, ca, aK, aV⟩ := x
  obtain ⟨own, cc, nL, y, ret, hh⟩ := M
  subst hp
  intro ok H locs ls L hw hS hl
  obtain ⟨k0, hk0⟩ := m_at hw hk (by omega)
  have hk1 := hk0
  rw [m_E_o hk hc] at hk1
  obtain ⟨ty, f1, f2, f3⟩ := hfit
  refine va_putF ok.1 ok.2.1 ok.2.2.2.2.1 hin tyf hty hnm ok.2.2.2.1 ok.2.2.2.2.2.1 hw.1 hw.2.1 hS k0 hk1 hcl j hj (ref := own) (by rw [hT]; exact (ok.2.2.2.2.1 _ hlk)) (fun q hq => by rw [hT] at hq ⊢; exact hq) (by rw [hT]) (by rw [ok.2.2.2.2.2.2.2.2.2.2.1]; exact hini) (by rw [hT]) (by rw [hT]; exact f1) f2 f3 (by rw [m_f_len]; omega) hd (fun H1 locs1 hP1 hD1 hS1 => ?_)
  exact k ok H1 locs1 ls L (m_set hw hk (by omega) hk0 (h' := p_R h (c * 64 + j) a (some v)) rfl (m_putR hk hc (by omega) ht) hP1 hD1) hS1 hl
theorem w_iald {a : Nat} {i : Int32} {v : Int32} (hd : decode M.2.1 pc = .ok (.iaload, 1)) (hp : pc + 1 = pc') (hk : m_K h a = 20) (hin : vp_in i (m_N h a)) (hv : m_X h a i.toNatClampNeg = v) (k : wp x M pc' lv (.int v :: st) h kc ks) : wp x M pc lv (.int i :: .ref a :: st) h kc ks := by
  subst hv
  obtain ⟨p, l, e, R, s, m, args, below, meth, cd, Q, A, D, ca, aK, aV⟩ := x
  obtain ⟨own, cc, nL, y, ret, hh⟩ := M
  subst hp
  intro ok H locs ls L hw hS hl
  obtain ⟨k0, hk0⟩ := m_at hw hk (by omega)
  rw [m_E_20 hk] at hk0
  exact va_iald ok.1 ok.2.1 ok.2.2.2.2.2.1 hw.1 k0 0 hk0 rfl hin hd (k ok H locs ls L hw hS hl)
theorem w_lald {a : Nat} {i : Int32} {v : Int64} (hd : decode M.2.1 pc = .ok (.laload, 1)) (hp : pc + 1 = pc') (hk : m_K h a = 21) (hin : vp_in i (m_N h a)) (hv : m_Y h a i.toNatClampNeg = v) (k : wp x M pc' lv (.long v :: st) h kc ks) : wp x M pc lv (.int i :: .ref a :: st) h kc ks := by
  subst hv
  obtain ⟨p, l, e, R, s, m, args, below, meth, cd, Q, A, D, ca, aK, aV⟩ := x
  obtain ⟨own, cc, nL, y, ret, hh⟩ := M
  subst hp
  intro ok H locs ls L hw hS hl
  obtain ⟨k0, hk0⟩ := m_at hw hk (by omega)
  rw [m_E_21 hk] at hk0
  exact va_lald ok.1 ok.2.1 ok.2.2.2.2.2.1 hw.1 k0 1 hk0 rfl hin hd (k ok H locs ls L hw hS hl)
theorem w_bald {a : Nat} {i : Int32} {v : Int32} (hd : decode M.2.1 pc = .ok (.baload, 1)) (hp : pc + 1 = pc') (hk : m_K h a = 22) (hin : vp_in i (m_N h a)) (hv : m_X h a i.toNatClampNeg = v) (k : wp x M pc' lv (.int v :: st) h kc ks) : wp x M pc lv (.int i :: .ref a :: st) h kc ks := by
  subst hv
  obtain ⟨p, l, e, R, s, m, args, below, meth, cd, Q, A, D, ca, aK, aV⟩ := x
  obtain ⟨own, cc, nL, y, ret, hh⟩ := M
  subst hp
  intro ok H locs ls L hw hS hl
  obtain ⟨k0, hk0⟩ := m_at hw hk (by omega)
  rw [m_E_22 hk] at hk0
  exact va_bald ok.1 ok.2.1 ok.2.2.2.2.2.1 hw.1 k0 2 hk0 rfl hin hd (k ok H locs ls L hw hS hl)
theorem w_zald {a : Nat} {i : Int32} {v : Int32} (hd : decode M.2.1 pc = .ok (.baload, 1)) (hp : pc + 1 = pc') (hk : m_K h a = 23) (hin : vp_in i (m_N h a)) (hv : m_X h a i.toNatClampNeg = v) (k : wp x M pc' lv (.int v :: st) h kc ks) : wp x M pc lv (.int i :: .ref a :: st) h kc ks := by
  subst hv
  obtain ⟨p, l, e, R, s, m, args, below, meth, cd, Q, A, D, ca, aK, aV⟩ := x
  obtain ⟨own, cc, nL, y, ret, hh⟩ := M
  subst hp
  intro ok H locs ls L hw hS hl
  obtain ⟨k0, hk0⟩ := m_at hw hk (by omega)
  rw [m_E_23 hk] at hk0
  exact va_zald ok.1 ok.2.1 ok.2.2.2.2.2.1 hw.1 k0 3 hk0 rfl hin hd (k ok H locs ls L hw hS hl)
theorem w_iast {a : Nat} {i : Int32} {v : Int32} (hd : decode M.2.1 pc = .ok (.iastore, 1)) (hp : pc + 1 = pc') (hk : m_K h a = 20) (hin : vp_in i (m_N h a)) (k : wp x M pc' lv st (p_X h a i.toNatClampNeg v) kc ks) : wp x M pc lv (.int v :: .int i :: .ref a :: st) h kc ks := by
  obtain ⟨p, l, e, R, s, m, args, below, meth, cd, Q, A, D, ca, aK, aV⟩ := x
  obtain ⟨own, cc, nL, y, ret, hh⟩ := M
  subst hp
  intro ok H locs ls L hw hS hl
  obtain ⟨k0, hk0⟩ := m_at hw hk (by omega)
  have hk1 := hk0
  rw [m_E_20 hk] at hk1
  refine va_iast ok.1 ok.2.1 ok.2.2.2.2.2.1 hw.1 hw.2.1 hS k0 0 hk1 rfl hin hd (fun H1 locs1 hP1 hD1 hS1 => ?_)
  exact k ok H1 locs1 ls L (m_set hw hk (by omega) hk0 (h' := p_X h a i.toNatClampNeg v) rfl (m_putaI hk) hP1 hD1) hS1 hl
theorem w_last {a : Nat} {i : Int32} {v : Int64} (hd : decode M.2.1 pc = .ok (.lastore, 1)) (hp : pc + 1 = pc') (hk : m_K h a = 21) (hin : vp_in i (m_N h a)) (k : wp x M pc' lv st (p_Y h a i.toNatClampNeg v) kc ks) : wp x M pc lv (.long v :: .int i :: .ref a :: st) h kc ks := by
  obtain ⟨p, l, e, R, s, m, args, below, meth, cd, Q, A, D, ca, aK, aV⟩ := x
  obtain ⟨own, cc, nL, y, ret, hh⟩ := M
  subst hp
  intro ok H locs ls L hw hS hl
  obtain ⟨k0, hk0⟩ := m_at hw hk (by omega)
  have hk1 := hk0
  rw [m_E_21 hk] at hk1
  refine va_last ok.1 ok.2.1 ok.2.2.2.2.2.1 hw.1 hw.2.1 hS k0 1 hk1 rfl hin hd (fun H1 locs1 hP1 hD1 hS1 => ?_)
  exact k ok H1 locs1 ls L (m_set hw hk (by omega) hk0 (h' := p_Y h a i.toNatClampNeg v) rfl (m_putaJ hk) hP1 hD1) hS1 hl
theorem w_aald {a c : Nat} {i : Int32} {C : String} (t0 : Nat) (hd : decode M.2.1 pc = .ok (.aaload, 1)) (hp : pc + 1 = pc') (hc : 23 < c) (hc2 : c < 28) (ht : ∀ ca : Nat → ClassId, (m_tys ca)[t0]? = some (ca c, .object C)) (hk : m_K h a = c) (hin : vp_in i (m_N h a)) {b : Nat} (hv : m_Z h a i.toNatClampNeg = some b) (k : wp x M pc' lv (.ref b :: st) h kc ks) : wp x M pc lv (.int i :: .ref a :: st) h kc ks := by
  obtain ⟨p, l, e, R, s, m, args, below, meth, cd, Q, A, D, ca, aK, aV⟩ := x
  obtain ⟨own, cc, nL, y, ret, hh⟩ := M
  subst hp
  intro ok H locs ls L hw hS hl
  obtain ⟨k0, hk0⟩ := m_at hw hk (by omega)
  rw [m_E_q hk hc] at hk0
  refine va_aldq ok.1 ok.2.1 ok.2.2.2.2.2.1 hw.1 k0 t0 hk0 (ht ca) hin hd ?_
  rw [hv]
  exact k ok H locs ls L hw hS hl
theorem w_aast {a b c cb : Nat} {i : Int32} {r : vw_C} (t0 : Nat) (hd : decode M.2.1 pc = .ok (.aastore, 1)) (hp : pc + 1 = pc') (hc : 23 < c) (hc2 : c < 28) (ht : ∀ ca : Nat → ClassId, (m_tys ca)[t0]? = some (ca c, .object r.1)) (hk : m_K h a = c) (hb : m_K h b = cb) (hcb : cb < 15) (hr : vwCl[cb]? = some r) (hin : vp_in i (m_N h a)) (k : wp x M pc' lv st (p_Z h a i.toNatClampNeg (some b)) kc ks) : wp x M pc lv (.ref b :: .int i :: .ref a :: st) h kc ks := by
  obtain ⟨p, l, e, R, s, m, args, below, meth, cd, Q, A, D, ca, aK, aV⟩ := x
  obtain ⟨own, cc, nL, y, ret, hh⟩ := M
  subst hp
  intro ok H locs ls L hw hS hl
  obtain ⟨k0, hk0⟩ := m_at hw hk (by omega)
  obtain ⟨k1, hk1⟩ := m_at hw hb (by omega)
  have hk2 := hk0
  rw [m_E_q hk hc] at hk2
  rw [m_E_o hb hcb] at hk1
  refine va_astq ok.1 ok.2.1 ok.2.2.2.2.2.1 hw.1 hw.2.1 hS k0 t0 k1 cb hk2 (ht ca) hk1 hr hin hd (fun H1 locs1 hP1 hD1 hS1 => ?_)
  exact k ok H1 locs1 ls L (m_set hw hk (by omega) hk0 (h' := p_Z h a i.toNatClampNeg (some b)) rfl (m_putaR hk hc) hP1 hD1) hS1 hl
theorem w_alen {a c : Nat} (t0 : Nat) {ty : FieldType} (hd : decode M.2.1 pc = .ok (.arraylength, 1)) (hp : pc + 1 = pc') (hc : 20 ≤ c) (hc2 : c < 28) (ht : ∀ ca : Nat → ClassId, (m_tys ca)[t0]? = some (ca c, ty)) (hk : m_K h a = c) {v : Int32} (hv : Int32.ofNat (m_N h a) = v) (k : wp x M pc' lv (.int v :: st) h kc ks) : wp x M pc lv (.ref a :: st) h kc ks := by
  subst hv
  obtain ⟨p, l, e, R, s, m, args, below, meth, cd, Q, A, D, ca, aK, aV⟩ := x
  obtain ⟨own, cc, nL, y, ret, hh⟩ := M
  subst hp
  intro ok H locs ls L hw hS hl
  obtain ⟨k0, hk0⟩ := m_at hw hk (by omega)
  have e : ∃ y : vp_A, m_E ca h a = .inl (ca c, y) ∧ y.1 = m_N h a := by
    by_cases h4 : 23 < c
    · exact ⟨_, m_E_q hk h4, rfl⟩
    · rcases (show c = 20 ∨ c = 21 ∨ c = 22 ∨ c = 23 by omega) with rfl | rfl | rfl | rfl
      · exact ⟨_, m_E_20 hk, rfl⟩
      · exact ⟨_, m_E_21 hk, rfl⟩
      · exact ⟨_, m_E_22 hk, rfl⟩
      · exact ⟨_, m_E_23 hk, rfl⟩
  obtain ⟨y, e1, e2⟩ := e
  rw [e1] at hk0
  exact va_alen ok.1 ok.2.1 ok.2.2.2.2.2.1 hw.1 k0 t0 hk0 (ht ca) (by rw [e2]) hd (k ok H locs ls L hw hS hl)
theorem w_iret {mc ms : Nat} {Qv : Option Value → Hp → Prop} {Xv : String → Hp → Prop} {v : Int32} (hf : m_fin mc ms Qv Xv x) (hd : decode M.2.1 pc = .ok (.ireturn, 1)) (hr : M.2.2.2.2.1 = some .int) (h1 : kc ≤ mc) (h2 : ks ≤ ms) (hq : Qv (some (.int v)) h) : wp x M pc lv [.int v] h kc ks := by
  obtain ⟨p, l, e, R, s, m, args, below, meth, cd, Q, A, D, ca, aK, aV⟩ := x
  obtain ⟨own, cc, nL, y, ret, hh⟩ := M
  intro ok H locs ls L hw hS hl
  have hf : Q = _ := hf
  subst hf
  refine W.widen h1 h2 (vx_ret (W.iret ok.1 ok.2.1 (ok.2.2.2.2.2.2.2.2.1.trans hr) (fun t ht hW => ⟨⟨_, h, L, rfl, hq, by rw [ht]; exact hw⟩, hS.F ht⟩) hS.2.2 hd ok.2.2.2.2.2.2.2.2.2.1))
theorem w_lret {mc ms : Nat} {Qv : Option Value → Hp → Prop} {Xv : String → Hp → Prop} {v : Int64} (hf : m_fin mc ms Qv Xv x) (hd : decode M.2.1 pc = .ok (.lreturn, 1)) (hr : M.2.2.2.2.1 = some .long) (h1 : kc ≤ mc) (h2 : ks ≤ ms) (hq : Qv (some (.long v)) h) : wp x M pc lv [.long v] h kc ks := by
  obtain ⟨p, l, e, R, s, m, args, below, meth, cd, Q, A, D, ca, aK, aV⟩ := x
  obtain ⟨own, cc, nL, y, ret, hh⟩ := M
  intro ok H locs ls L hw hS hl
  have hf : Q = _ := hf
  subst hf
  refine W.widen h1 h2 (vx_ret (W.lret ok.1 ok.2.1 (ok.2.2.2.2.2.2.2.2.1.trans hr) (fun t ht hW => ⟨⟨_, h, L, rfl, hq, by rw [ht]; exact hw⟩, hS.F ht⟩) hS.2.2 hd ok.2.2.2.2.2.2.2.2.2.1))
theorem w_dret {mc ms : Nat} {Qv : Option Value → Hp → Prop} {Xv : String → Hp → Prop} {v : UInt64} (hf : m_fin mc ms Qv Xv x) (hd : decode M.2.1 pc = .ok (.dreturn, 1)) (hr : M.2.2.2.2.1 = some .double) (h1 : kc ≤ mc) (h2 : ks ≤ ms) (hq : Qv (some (.double v)) h) : wp x M pc lv [.double v] h kc ks := by
  obtain ⟨p, l, e, R, s, m, args, below, meth, cd, Q, A, D, ca, aK, aV⟩ := x
  obtain ⟨own, cc, nL, y, ret, hh⟩ := M
  intro ok H locs ls L hw hS hl
  have hf : Q = _ := hf
  subst hf
  refine W.widen h1 h2 (vx_ret (W.dret ok.1 ok.2.1 (ok.2.2.2.2.2.2.2.2.1.trans hr) (fun t ht hW => ⟨⟨_, h, L, rfl, hq, by rw [ht]; exact hw⟩, hS.F ht⟩) hS.2.2 hd ok.2.2.2.2.2.2.2.2.2.1))
theorem w_zret {mc ms : Nat} {Qv : Option Value → Hp → Prop} {Xv : String → Hp → Prop} {v : Int32} {ty : FieldType} (hf : m_fin mc ms Qv Xv x) (hd : decode M.2.1 pc = .ok (.ireturn, 1)) (hr : M.2.2.2.2.1 = some ty) (hn : narrow ty (.int v) = .int v) (h1 : kc ≤ mc) (h2 : ks ≤ ms) (hq : Qv (some (.int v)) h) : wp x M pc lv [.int v] h kc ks := by
  obtain ⟨p, l, e, R, s, m, args, below, meth, cd, Q, A, D, ca, aK, aV⟩ := x
  obtain ⟨own, cc, nL, y, ret, hh⟩ := M
  intro ok H locs ls L hw hS hl
  have hf : Q = _ := hf
  subst hf
  refine W.widen h1 h2 (vx_ret (W.zret ok.1 ok.2.1 (ok.2.2.2.2.2.2.2.2.1.trans hr) hn (fun t ht hW => ⟨⟨_, h, L, rfl, hq, by rw [ht]; exact hw⟩, hS.F ht⟩) hS.2.2 hd ok.2.2.2.2.2.2.2.2.2.1))
theorem w_aret {mc ms : Nat} {Qv : Option Value → Hp → Prop} {Xv : String → Hp → Prop} {v : Value} {ty : FieldType} (hf : m_fin mc ms Qv Xv x) (hd : decode M.2.1 pc = .ok (.areturn, 1)) (hr : M.2.2.2.2.1 = some ty) (hrt : (∃ n, ty = .object n) ∨ ∃ t, ty = .array t) (hv : v = .null ∨ ∃ a, v = .ref a) (h1 : kc ≤ mc) (h2 : ks ≤ ms) (hq : Qv (some v) h) : wp x M pc lv [v] h kc ks := by
  obtain ⟨p, l, e, R, s, m, args, below, meth, cd, Q, A, D, ca, aK, aV⟩ := x
  obtain ⟨own, cc, nL, y, ret, hh⟩ := M
  intro ok H locs ls L hw hS hl
  have hf : Q = _ := hf
  subst hf
  refine W.widen h1 h2 (vx_ret (W.aret ok.1 ok.2.1 (ok.2.2.2.2.2.2.2.2.1.trans hr) hrt hv (fun t ht hW => ⟨⟨_, h, L, rfl, hq, by rw [ht]; exact hw⟩, hS.F ht⟩) hS.2.2 hd ok.2.2.2.2.2.2.2.2.2.1))
theorem w_vret {mc ms : Nat} {Qv : Option Value → Hp → Prop} {Xv : String → Hp → Prop} (hf : m_fin mc ms Qv Xv x) (hd : decode M.2.1 pc = .ok (.return_, 1)) (hr : M.2.2.2.2.1 = none) (h1 : kc ≤ mc) (h2 : ks ≤ ms) (hq : Qv none h) : wp x M pc lv [] h kc ks := by
  obtain ⟨p, l, e, R, s, m, args, below, meth, cd, Q, A, D, ca, aK, aV⟩ := x
  obtain ⟨own, cc, nL, y, ret, hh⟩ := M
  intro ok H locs ls L hw hS hl
  have hf : Q = _ := hf
  subst hf
  refine W.widen h1 h2 (vx_ret (W.vret ok.1 ok.2.1 (ok.2.2.2.2.2.2.2.2.1.trans hr) (fun t ht hW => ⟨⟨_, h, L, rfl, hq, by rw [ht]; exact hw⟩, hS.F ht⟩) hS.2.2 hd ok.2.2.2.2.2.2.2.2.2.1))
end K12
