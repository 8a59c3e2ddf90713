/-! Euclid's end; sums of ways in range -/
theorem gdz_st {a b N : Int} {k : Nat} (hb : 0 < b) (h : b ≤ a) (hN : a * b * 2 ^ k < N) : b * (a % b) * 2 ^ (k + 1) < N := by
  have h1 := gdz_half hb h
  have h2 : (0 : Int) ≤ 2 ^ k := Int.le_of_lt (Int.pow_pos (by omega))
  have h3 := Int.mul_le_mul_of_nonneg_right h1 h2
  have e : b * (a % b) * 2 ^ (k + 1) = 2 * (b * (a % b)) * 2 ^ k := by
    rw [Int.pow_succ, Int.mul_comm (2 ^ k) 2, ← Int.mul_assoc, Int.mul_comm (b * (a % b)) 2]
  rw [e]
  omega
theorem gdz_end {a b : Int} (h0 : 0 ≤ b) (h : b ≤ a) (hN : a * b * 2 ^ 200 < 2 ^ 126) : b = 0 := by
  rcases (show b = 0 ∨ 1 ≤ b by omega) with q | q
  · exact q
  · have h1 : 1 * 1 ≤ a * b := Int.mul_le_mul (by omega) q (by omega) (by omega)
    have h2 : (1 : Int) * 2 ^ 200 ≤ a * b * 2 ^ 200 := Int.mul_le_mul_of_nonneg_right (by omega) (by omega)
    omega
theorem gdz_first {a b : Int} (ha : 0 ≤ a ∧ a < 4611686018427387904) (hb : 0 < b ∧ b < 4611686018427387904) : b * (a % b) * 2 ^ (0 + 1) < 2 ^ 126 := by
  have h1 := Int.emod_nonneg a (by omega : b ≠ 0)
  have h2 := Int.emod_lt_of_pos a hb.1
  have h3 : b * (a % b) ≤ 4611686018427387904 * 4611686018427387904 := Int.mul_le_mul (by omega) (by omega) h1 (by omega)
  rw [show (2 : Int) ^ (0 + 1) = 2 from rfl]
  exact Int.lt_of_le_of_lt (Int.mul_le_mul_of_nonneg_right h3 (by decide)) (by decide)
theorem gdz_pos {a b : Int} (ha : 0 < a) : 0 < gdz a b := by
  unfold gdz
  have := Nat.gcd_pos_of_pos_left b.toNat (show 0 < a.toNat by omega)
  omega
theorem gdz_le {a b : Int} (ha : 0 < a) : gdz a b ≤ a := by
  unfold gdz
  have := Nat.gcd_le_left b.toNat (show 0 < a.toNat by omega)
  omega
theorem pwr_rng : ∀ k : Fin 10, 1 ≤ pwr 10 k.val ∧ pwr 10 k.val ≤ 1000000000 := by decide +kernel
theorem pwr_pos : ∀ k : Nat, 0 < pwr 10 k
  | 0 => by rw [pwr]; omega
  | k + 1 => by
    have := pwr_pos k
    rw [pwr]; omega
theorem wys_rng {t : Int} (ht : 0 ≤ t ∧ t ≤ 10) : ∀ (k : Nat) (j : Int), 0 ≤ wys t k j ∧ wys t k j ≤ pwr 10 k
  | 0, j => by
    show 0 ≤ (if j = 0 then (1 : Int) else 0) ∧ (if j = 0 then (1 : Int) else 0) ≤ 1
    split <;> omega
  | k + 1, j => by
    have hp := pwr_pos k
    have key : ∀ u, 0 ≤ u ∧ u ≤ pwr 10 k → ∀ q, 0 ≤ q → 0 ≤ u * q ∧ u * q ≤ pwr 10 k * q := fun u hu q hq => ⟨Int.mul_nonneg hu.1 hq, Int.mul_le_mul_of_nonneg_right hu.2 hq⟩
    show 0 ≤ (if j = 0 then wys t k 0 * t else wys t k j * t + wys t k (j - 1) * (10 - t)) ∧ (if j = 0 then wys t k 0 * t else wys t k j * t + wys t k (j - 1) * (10 - t)) ≤ pwr 10 k * 10
    have e : pwr 10 k * 10 = pwr 10 k * t + pwr 10 k * (10 - t) := by rw [← Int.mul_add]; congr 1; omega
    have h3 := key (pwr 10 k) ⟨by omega, Int.le_refl _⟩ (10 - t) (by omega)
    rw [e]
    split
    · have h1 := key _ (wys_rng ht k 0) t ht.1
      omega
    · have h1 := key _ (wys_rng ht k j) t ht.1
      have h2 := key _ (wys_rng ht k (j - 1)) (10 - t) (by omega)
      omega
theorem sumW_rng {G wy : Int → Int} {v x N : Int} (hN : 0 ≤ N) (hw : ∀ j, 0 ≤ wy j ∧ wy j ≤ N) : ∀ k : Nat, 0 ≤ sumW G wy v x k ∧ sumW G wy v x k ≤ k * N
  | 0 => by rw [sumW]; omega
  | k + 1 => by
    have ih := sumW_rng (G := G) (v := v) (x := x) hN hw k
    have h := hw k
    rw [sumW, show ((k + 1 : Nat) : Int) * N = k * N + N from by rw [Int.natCast_add, Int.add_mul]; omega]
    split <;> omega
theorem sumW_in {G : Int → Int} {v x t tl : Int} (ht : 0 ≤ t ∧ t ≤ 10) (htl : 1 ≤ tl ∧ tl ≤ 9) : 0 ≤ sumW G (wys t tl.toNat) v x (tl + 1).toNat ∧ sumW G (wys t tl.toNat) v x (tl + 1).toNat ≤ 10000000000 := by
  have hp := pwr_rng ⟨tl.toNat, by omega⟩
  have h := sumW_rng (G := G) (wy := wys t tl.toNat) (v := v) (x := x) (N := 1000000000) (by omega) (fun j => ⟨(wys_rng ht _ j).1, Int.le_trans (wys_rng ht _ j).2 hp.2⟩) (tl + 1).toNat
  have e : ((tl + 1).toNat : Int) = tl + 1 := by omega
  rw [e] at h
  have : (tl + 1) * 1000000000 ≤ 10 * 1000000000 := Int.mul_le_mul_of_nonneg_right (by omega) (by omega)
  omega
theorem goS_rng {sd : Int} (h : 0 ≤ sd ∧ sd < 2147483648) : ∀ k : Nat, 0 ≤ goS sd k ∧ goS sd k < 2147483648
  | 0 => h
  | k + 1 => nxs_rng _
theorem goG_rng {G kd : Int → Int} (hG : ∀ v, 0 ≤ G v ∧ G v ≤ 9999) {pe sd : Int} {g : Int → Int} (hg : ∀ j, -1 ≤ g j ∧ g j ≤ 9999) : ∀ (k : Nat) (j : Int), -1 ≤ goG G kd pe sd g k j ∧ goG G kd pe sd g k j ≤ 9999
  | 0 => hg
  | k + 1 => rsB_rng hG (goG_rng hG hg k)
