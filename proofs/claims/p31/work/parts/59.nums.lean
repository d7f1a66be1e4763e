/-! THE LAW'S NUMBERS -/
theorem i_nat (x : Int32) : x = nI x.toBitVec.toNat := by
  apply Int32.toBitVec_inj.mp
  show x.toBitVec = (Int32.ofNat x.toBitVec.toNat).toBitVec
  simp
theorem and_max (v : Int32) : (v &&& 2147483647).toBitVec.toNat < 2147483648 := by
  rw [Int32.toBitVec_and, BitVec.toNat_and]
  exact Nat.lt_of_le_of_lt Nat.and_le_right (by decide)
/-- below, as a natural -/
def blN (v : Int32) (m : Nat) : Nat := (v &&& 2147483647).toBitVec.toNat % m
theorem blw_n {v : Int32} {m : Nat} (h0 : 0 < m) (h1 : m < 2147483648) : blw v (nI m) = nI (blN v m) := by
  unfold blw blN
  have h2 := and_max v
  have e := i_nat (v &&& 2147483647)
  generalize (v &&& 2147483647).toBitVec.toNat = a at *
  rw [e]
  exact pk_rem h2 h0 h1
theorem blN_lt {v : Int32} {m : Nat} (h0 : 0 < m) : blN v m < m := Nat.mod_lt _ h0
theorem l64_inj {a b : Int32} : a.toInt64 = b.toInt64 ↔ a = b := by
  rw [← Int64.toInt_inj, Int32.toInt_toInt64, Int32.toInt_toInt64, Int32.toInt_inj]
def xvO (n : Nat) (xs : Nat → Int32) (i : Nat) : Int32 := cellV n xs (1 + i % 15) >>> (nI (i / 15 * 9) &&& 31)
def vO (n : Nat) (xs : Nat → Int32) (i : Nat) : Int32 := nI (blN (xvO n xs i) 11) - nI 2
def tO (n : Nat) (xs : Nat → Int32) (i : Nat) : Nat := i + blN (xvO n xs i >>> (nI 4 &&& 31)) 12
def kO (n : Nat) (xs : Nat → Int32) (i : Nat) : Int64 := (nI (blN (xvO n xs i >>> (nI 8 &&& 31)) 3)).toInt64
def FO (n : Nat) (xs : Nat → Int32) : Nat → Rw := fun i => if i < 40 then (tO n xs i, kO n xs i, (vO n xs i).toInt64) else (1000, 9, 0)
def nO (n : Nat) (xs : Nat → Int32) : Nat := 1 + blN (cellV n xs 0) 20
def limO (n : Nat) (xs : Nat → Int32) : Nat := blN (cellV n xs 0 >>> (nI 5 &&& 31)) 9
section NUM
variable {N : Nat} {xs : Nat → Int32} {lim n : Nat}
theorem tO_le {i : Nat} (hi : i < 40) : tO N xs i ≤ 50 := by
  unfold tO
  have := blN_lt (v := xvO N xs i >>> (nI 4 &&& 31)) (m := 12) (by decide)
  omega
theorem nO_b : 1 ≤ nO N xs ∧ nO N xs ≤ 20 := by
  unfold nO
  have := blN_lt (v := cellV N xs 0) (m := 20) (by decide)
  omega
theorem limO_b : limO N xs < 9 := blN_lt (by decide)
theorem FO_lt {i : Nat} (hi : i < 40) : FO N xs i = (tO N xs i, kO N xs i, (vO N xs i).toInt64) := if_pos hi
theorem FO_40 : FO N xs 40 = (1000, 9, 0) := rfl
theorem FO_v2 {i : Nat} (hi : i < 40) : (FO N xs i).2.2 = 2 ↔ vO N xs i = 2 := by
  rw [FO_lt hi]
  show (vO N xs i).toInt64 = (2 : Int32).toInt64 ↔ _
  exact l64_inj
theorem FO_v5 {i : Nat} (hi : i < 40) : (FO N xs i).2.2 = 5 ↔ vO N xs i = 5 := by
  rw [FO_lt hi]
  show (vO N xs i).toInt64 = (5 : Int32).toInt64 ↔ _
  exact l64_inj
theorem run_I (hn : 0 < n) (hn2 : n ≤ 20) : ∀ i, i ≤ 40 → Iv n 70 i (runD lim n (FO N xs) i)
  | 0, _ => D0_I
  | i + 1, h => by
    refine stp_I (run_I hn hn2 i (by omega)) hn ?_ (by omega)
    rw [FO_lt (by omega)]
    have := tO_le (N := N) (xs := xs) (i := i) (by omega)
    show tO N xs i + n ≤ 70
    omega
theorem run_41 : runD lim n (FO N xs) 41 = stp lim n (runD lim n (FO N xs) 40) (1000, 9, 0) := rfl
theorem run_I41 (hn : 0 < n) (hn2 : n ≤ 20) : Iv n 2000 41 (runD lim n (FO N xs) 41) := stp_I ((run_I hn hn2 40 (Nat.le_refl _)).up (by omega)) hn (by show 1000 + n ≤ 2000; omega) (by omega)
theorem run_t {i : Nat} (hi : i < 41) : (FO N xs i).1 ≤ 1000 := by
  unfold FO
  split
  · have := tO_le (N := N) (xs := xs) (i := i) (by omega)
    show tO N xs i ≤ 1000
    omega
  · exact Nat.le_refl _
theorem run_rm (hn : 0 < n) (hn2 : n ≤ 20) {i : Nat} (hi : i < 41) : Rm n (runD lim n (FO N xs) i) := (run_I hn hn2 i (by omega)).rm (by omega) (by omega)
/-- the sum of what was taken -/
def smO (X : Dk) : Int64 := sg (kS X).1 (fun i => ((kS X).2 i).2.2)
theorem smO_n {X : Dk} {r : Rw} (h : ¬ (r.2.2 = 2 ∨ r.2.2 = 5)) : smO (stp lim n X r) = smO X + r.2.2 := by
  unfold smO
  rw [stp_n h]
  exact sg_p (φ := fun r : Rw => r.2.2)
theorem smO_o {X : Dk} {r : Rw} (h : r.2.2 = 2 ∨ r.2.2 = 5) : smO (stp lim n X r) = smO X := by
  unfold smO
  rw [stp_S, if_pos h]
end NUM
