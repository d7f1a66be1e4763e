/-! TEXTS: the class's constants, what String's methods say of them -/
def xK (x : Cxt) : Nat → Nat := match x with
  | (_, _, _, _, _, _, _, _, _, _, _, _, _, _, aK, _) => aK
def tx_b (i : Nat) : List Int32 := m_byt.getD i []
def tx_len (i : Nat) : Int32 := nI (m_len.getD i 0)
def tx_at (i : Nat) (k : Int32) : Int32 := (tx_b i).getD k.toNatClampNeg 0 &&& 255
def tx_ixF (c : Int32) : List Int32 → Nat → Int32
  | [], _ => -1
  | b :: l, k => if b &&& 255 = c then nI k else tx_ixF c l (k + 1)
def tx_ix (i : Nat) (c : Int32) : Int32 := tx_ixF c (tx_b i) 0
def tx_ixf (i : Nat) (c f : Int32) : Int32 := tx_ixF c ((tx_b i).drop f.toNatClampNeg) f.toNatClampNeg
section K19
variable {x : Cxt} {M : MI} {pc pc' : Nat} {lv lv' : List (Nat × Value)} {st : List Value} {h : Hp} {kc ks dd Mc Ms index : Nat}
theorem w_ldcS {tx : String} (i : Nat) (hd : decode M.2.1 pc = .ok (.ldc index, 2)) (hp : pc + 2 = pc') (hE : (vk_R "StreamDesk$Tokens" 25 m_kw (xK x 0) x.2.2.2.2.1 ∧ vk_R "StreamDesk$Tokens" 68 m_sy (xK x 1) x.2.2.2.2.1 ∧ vk_R "StreamDeskModel" 137 m_kw2 (xK x 2) x.2.2.2.2.1 ∧ vk_R "StreamDeskModel" 200 m_sy (xK x 1) x.2.2.2.2.1) → vk_R M.1 index tx (xK x i) x.2.2.2.2.1) (k : wp x M pc' lv (.ref (xK x i) :: st) h kc ks) : wp x M pc lv st h kc ks := sorry
theorem w_tx_len (i : Nat) (hrm : m_rm dd Mc Ms x) (hdd : 10 ≤ dd) (hd : decode M.2.1 pc = .ok (.invokevirtual index, 3)) (hp : pc + 3 = pc') (h1 : Cond.methodLink M.1 index yJ0_length_8abf5 ∈ m_TW) (hi : i < 3) (hcat : (st.map fun v => v.category).sum ≤ 8) (hmc : kc ≤ Mc) (hms : ks ≤ Ms) (k : wp x M pc' lv (.int (tx_len i) :: st) h kc ks) : wp x M pc lv (.ref (xK x i) :: st) h kc ks := sorry
theorem w_tx_at (i : Nat) {c : Int32} (hrm : m_rm dd Mc Ms x) (hdd : 10 ≤ dd) (hd : decode M.2.1 pc = .ok (.invokevirtual index, 3)) (hp : pc + 3 = pc') (h1 : Cond.methodLink M.1 index yJ0_charAt_5068e ∈ m_TW) (hi : i < 3) (hg : gi c (m_len.getD i 0)) (hcat : (st.map fun v => v.category).sum ≤ 8) (hmc : kc ≤ Mc) (hms : ks ≤ Ms) (k : wp x M pc' lv (.int (tx_at i c) :: st) h kc ks) : wp x M pc lv (.int c :: .ref (xK x i) :: st) h kc ks := sorry
theorem w_tx_ix (i : Nat) {c : Int32} (hrm : m_rm dd Mc Ms x) (hdd : 10 ≤ dd) (hd : decode M.2.1 pc = .ok (.invokevirtual index, 3)) (hp : pc + 3 = pc') (h1 : Cond.methodLink M.1 index yJ0_indexOf_0f7a4 ∈ m_TW) (hi : i < 3) (hcat : (st.map fun v => v.category).sum ≤ 8) (hmc : kc ≤ Mc) (hms : ks ≤ Ms) (k : wp x M pc' lv (.int (tx_ix i c) :: st) h kc ks) : wp x M pc lv (.int c :: .ref (xK x i) :: st) h kc ks := sorry
theorem w_tx_ixf (i : Nat) {c f : Int32} (hrm : m_rm dd Mc Ms x) (hdd : 10 ≤ dd) (hd : decode M.2.1 pc = .ok (.invokevirtual index, 3)) (hp : pc + 3 = pc') (h1 : Cond.methodLink M.1 index yJ0_indexOf_7cf53 ∈ m_TW) (hi : i < 3) (hf : 0 ≤ f) (hcat : (st.map fun v => v.category).sum ≤ 8) (hmc : kc ≤ Mc) (hms : ks ≤ Ms) (k : wp x M pc' lv (.int (tx_ixf i c f) :: st) h kc ks) : wp x M pc lv (.int f :: .int c :: .ref (xK x i) :: st) h kc ks := sorry
end K19
