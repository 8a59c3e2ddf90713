/-! chances: ways by the quotients, greatest divisor the other way round -/
noncomputable def bwr (n : Int) : Nat → Int
  | 0 => 1
  | k + 1 => bwr n k * (n - k) / (k + 1)
theorem bwr_s {n i : Int} (hi : 0 ≤ i) : bwr n (i + 1).toNat = bwr n i.toNat * (n - i) / (i + 1) := by
  rw [toNat_s hi, bwr, show ((i.toNat : Nat) : Int) = i from by omega]
theorem bwr_dec : ∀ (n k : Fin 10), k.val ≤ n.val → 0 ≤ bwr (n.val : Nat) k.val ∧ bwr (n.val : Nat) k.val ≤ 126 := by decide +kernel
theorem bwr_rng {n k : Int} (hn : 0 ≤ n ∧ n ≤ 9) (hk : 0 ≤ k ∧ k ≤ n) : 0 ≤ bwr n k.toNat ∧ bwr n k.toNat ≤ 126 := by
  have h := bwr_dec ⟨n.toNat, by omega⟩ ⟨k.toNat, by omega⟩ (by show k.toNat ≤ n.toNat; omega)
  rw [show (((⟨n.toNat, by omega⟩ : Fin 10).val : Nat) : Int) = n from by show ((n.toNat : Nat) : Int) = n; omega] at h
  exact h
theorem wys_dec : ∀ (n : Fin 10) (t : Fin 11) (k : Fin 10), k.val ≤ n.val → wys (t.val : Nat) n.val (k.val : Nat) = bwr (n.val : Nat) k.val * pwr (10 - (t.val : Nat)) k.val * pwr (t.val : Nat) (n.val - k.val) := by decide +kernel
theorem wys_bw {n t k : Int} (hn : 0 ≤ n ∧ n ≤ 9) (ht : 0 ≤ t ∧ t ≤ 10) (hk : 0 ≤ k ∧ k ≤ n) : wys t n.toNat k = bwr n k.toNat * pwr (10 - t) k.toNat * pwr t (n - k).toNat := by
  have h := wys_dec ⟨n.toNat, by omega⟩ ⟨t.toNat, by omega⟩ ⟨k.toNat, by omega⟩ (by show k.toNat ≤ n.toNat; omega)
  have e1 : ((n.toNat : Nat) : Int) = n := by omega
  have e2 : ((t.toNat : Nat) : Int) = t := by omega
  have e3 : ((k.toNat : Nat) : Int) = k := by omega
  simp only [e1, e2, e3] at h
  rw [h, show (n - k).toNat = n.toNat - k.toNat from by omega]
theorem mul_in {a b A B : Int} (ha : 0 ≤ a ∧ a ≤ A) (hb : 0 ≤ b ∧ b ≤ B) : 0 ≤ a * b ∧ a * b ≤ A * B :=
  ⟨Int.mul_nonneg ha.1 hb.1, Int.mul_le_mul ha.2 hb.2 hb.1 (by omega)⟩
theorem gdz_c (a b : Int) : gdz a b = gdz b a := by
  unfold gdz
  rw [Nat.gcd_comm]
