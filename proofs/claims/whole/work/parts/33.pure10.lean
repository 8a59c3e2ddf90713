/-! the most alike ones, counted one by one -/
noncomputable def alk (f : Int → Int) (x : Int) : Nat → Int
  | 0 => 0
  | k + 1 => alk f x k + if f x = f (k + 1) then 1 else 0
noncomputable def mst (f : Int → Int) (n : Nat) : Nat → Int
  | 0 => 0
  | k + 1 => max (mst f n k) (alk f (k + 1) n)
theorem alk_s {f : Int → Int} {x i : Int} (hi : 0 ≤ i) : alk f x (i + 1).toNat = alk f x i.toNat + if f x = f (i + 1) then 1 else 0 := by
  rw [toNat_s hi, alk, show ((i.toNat : Nat) : Int) = i from by omega]
theorem mst_s {f : Int → Int} {n : Nat} {i : Int} (hi : 0 ≤ i) : mst f n (i + 1).toNat = max (mst f n i.toNat) (alk f (i + 1) n) := by
  rw [toNat_s hi, mst, show ((i.toNat : Nat) : Int) = i from by omega]
theorem alk_rng (f : Int → Int) (x : Int) : ∀ k : Nat, 0 ≤ alk f x k ∧ alk f x k ≤ k
  | 0 => by rw [alk]; omega
  | k + 1 => by
    have := alk_rng f x k
    rw [alk]
    split <;> omega
theorem mst_rng (f : Int → Int) (n : Nat) : ∀ k : Nat, 0 ≤ mst f n k ∧ mst f n k ≤ n
  | 0 => by rw [mst]; omega
  | k + 1 => by
    have := mst_rng f n k
    have := alk_rng f (k + 1) n
    rw [mst]
    omega
theorem asP_a {mst : Int → Int} {w i n : Int} (hi : 0 ≤ i) (hn : n = if i = w then 1000 else mst i) (h : n < (asP mst w i.toNat).2) : asP mst w (i + 1).toNat = (i, n) := by
  rw [asP_s hi, ← hn, if_pos h]
theorem asP_b {mst : Int → Int} {w i n : Int} (hi : 0 ≤ i) (hn : n = if i = w then 1000 else mst i) (h : ¬ n < (asP mst w i.toNat).2) : asP mst w (i + 1).toNat = asP mst w i.toNat := by
  rw [asP_s hi, ← hn, if_neg h]
