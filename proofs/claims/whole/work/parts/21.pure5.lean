/-! bigger at first: nowhere smaller -/
theorem tb_mono {G : Int → Int} (hG : ∀ v, 0 ≤ G v ∧ G v ≤ 9999) (hm : ∀ u v, 0 ≤ u → u ≤ v → v ≤ 9999 → G u ≤ G v) {k u v : Int} (hu : 0 ≤ u) (huv : u ≤ v) (hv : v ≤ 9999) : tb G k u ≤ tb G k v := by
  unfold tb
  split
  · exact huv
  · split
    · omega
    · split
      · exact hm _ _ (hG u).1 (hm u v hu huv hv) (hG v).2
      · exact hm u v hu huv hv
theorem rsB_at {G : Int → Int} {k a b : Int} {g : Int → Int} (hg : ∀ j, -1 ≤ g j) (j : Int) : rsB G k a b g j = if j = b then max (g b) (if g a = -1 then -1 else tb G k (g a)) else g j := by
  have hb := hg b
  unfold rsB
  by_cases h1 : g a = -1
  · rw [if_neg (fun q => q.1 h1), if_pos h1]
    split
    · rename_i q; subst q; omega
    · rfl
  · rw [if_neg h1]
    by_cases h2 : g b < tb G k (g a)
    · rw [if_pos ⟨h1, h2⟩]
      unfold zu
      split
      · omega
      · rfl
    · rw [if_neg (fun q => h2 q.2)]
      split
      · rename_i q; subst q; omega
      · rfl
theorem rsB_mono {G : Int → Int} (hG : ∀ v, 0 ≤ G v ∧ G v ≤ 9999) (hm : ∀ u v, 0 ≤ u → u ≤ v → v ≤ 9999 → G u ≤ G v) {k a b : Int} {g h : Int → Int} (hg : ∀ j, -1 ≤ g j ∧ g j ≤ 9999) (hh : ∀ j, -1 ≤ h j ∧ h j ≤ 9999) (hgh : ∀ j, g j ≤ h j) (j : Int) : rsB G k a b g j ≤ rsB G k a b h j := by
  rw [rsB_at (fun j => (hg j).1), rsB_at (fun j => (hh j).1)]
  have h1 := hgh j
  have h2 := hgh b
  have h3 := hgh a
  have h4 := hg a
  have h5 := hh a
  have h6 := hg b
  split
  · by_cases q : g a = -1
    · rw [if_pos q]
      omega
    · rw [if_neg q, if_neg (by omega)]
      have := tb_mono hG hm (k := k) (u := g a) (v := h a) (by omega) h3 h5.2
      omega
  · exact h1
theorem wkB_mono {G kd : Int → Int} (hG : ∀ v, 0 ≤ G v ∧ G v ≤ 9999) (hm : ∀ u v, 0 ≤ u → u ≤ v → v ≤ 9999 → G u ≤ G v) {pe : Int} {tt to g h : Int → Int} (hg : ∀ j, -1 ≤ g j ∧ g j ≤ 9999) (hh : ∀ j, -1 ≤ h j ∧ h j ≤ 9999) (hgh : ∀ j, g j ≤ h j) : ∀ (k : Nat) (j : Int), wkB G kd pe tt to g k j ≤ wkB G kd pe tt to h k j
  | 0 => hgh
  | k + 1 => by
    have ih := wkB_mono hG hm (kd := kd) (pe := pe) (tt := tt) (to := to) hg hh hgh k
    intro j
    rw [wkB, wkB]
    split
    · exact rsB_mono hG hm (wkB_rng hG hg k) (wkB_rng hG hh k) ih j
    · exact ih j
theorem bgn_mono {w u v : Int} (h : u ≤ v) (j : Int) : bgn w u j ≤ bgn w v j := by
  unfold bgn
  split
  · exact Int.le_refl _
  · unfold zu
    split
    · exact h
    · exact Int.le_refl _
/-- how big somebody has what a witness has seen so big -/
noncomputable def hasB (G kd : Int → Int) (pe : Int) (tt to : Int → Int) (tn w p u : Int) : Int := wkB G kd pe tt to (bgn w u) tn.toNat p
theorem hasB_mono {G kd : Int → Int} (hG : ∀ v, 0 ≤ G v ∧ G v ≤ 9999) (hm : ∀ u v, 0 ≤ u → u ≤ v → v ≤ 9999 → G u ≤ G v) {pe : Int} {tt to : Int → Int} {tn w p u v : Int} (h0 : 0 ≤ u) (h1 : u ≤ v) (h2 : v ≤ 9999) : hasB G kd pe tt to tn w p u ≤ hasB G kd pe tt to tn w p v :=
  wkB_mono hG hm (bgn_rng (by omega)) (bgn_rng (by omega)) (bgn_mono h1) _ _
theorem hasB_rng {G kd : Int → Int} (hG : ∀ v, 0 ≤ G v ∧ G v ≤ 9999) {pe : Int} {tt to : Int → Int} {tn w p u : Int} (h0 : 0 ≤ u ∧ u ≤ 9999) : -1 ≤ hasB G kd pe tt to tn w p u ∧ hasB G kd pe tt to tn w p u ≤ 9999 := wkB_rng hG (bgn_rng h0) _ _
/-! counts of firsts -/
noncomputable def cn1 (f : Int → Int) (v : Int) : Nat → Int
  | 0 => 0
  | k + 1 => cn1 f v k + if f k = v then 1 else 0
noncomputable def ls1 (f : Int → Int) (v : Int) : Nat → Int
  | 0 => -1
  | k + 1 => if f k = v then (if ls1 f v k = -1 then (k : Int) else ls1 f v k) else ls1 f v k
noncomputable def ms1 (f : Int → Int) (v : Int) : Nat → Int
  | 0 => -1
  | k + 1 => if f k = v then (k : Int) else ms1 f v k
noncomputable def cn2 (f g : Int → Int) (v w : Int) : Nat → Int
  | 0 => 0
  | k + 1 => cn2 f g v w k + if f k = v ∧ g k = w then 1 else 0
theorem cn1_s {f : Int → Int} {v i : Int} (hi : 0 ≤ i) : cn1 f v (i + 1).toNat = cn1 f v i.toNat + if f i = v then 1 else 0 := by
  rw [toNat_s hi, cn1, show ((i.toNat : Nat) : Int) = i from by omega]
theorem ls1_s {f : Int → Int} {v i : Int} (hi : 0 ≤ i) : ls1 f v (i + 1).toNat = if f i = v then (if ls1 f v i.toNat = -1 then i else ls1 f v i.toNat) else ls1 f v i.toNat := by
  rw [toNat_s hi, ls1, show ((i.toNat : Nat) : Int) = i from by omega]
theorem ms1_s {f : Int → Int} {v i : Int} (hi : 0 ≤ i) : ms1 f v (i + 1).toNat = if f i = v then i else ms1 f v i.toNat := by
  rw [toNat_s hi, ms1, show ((i.toNat : Nat) : Int) = i from by omega]
theorem cn2_s {f g : Int → Int} {v w i : Int} (hi : 0 ≤ i) : cn2 f g v w (i + 1).toNat = cn2 f g v w i.toNat + if f i = v ∧ g i = w then 1 else 0 := by
  rw [toNat_s hi, cn2, show ((i.toNat : Nat) : Int) = i from by omega]
/-- how many firsts are below a size -/
abbrev bel (f : Int → Int) (x z : Int) : Prop := 0 ≤ z ∧ z ≤ 1000 ∧ ∀ u : Int, 0 ≤ u → u < 1000 → (u < z ↔ f u < x)
theorem bel_eq {f : Int → Int} {x y z : Int} (hy : bel f x y) (hz : bel f (x + 1) z) {u : Int} (h0 : 0 ≤ u) (h1 : u < 1000) : f u = x ↔ y ≤ u ∧ u < z := by
  have a := hy.2.2 u h0 h1
  have b := hz.2.2 u h0 h1
  omega
theorem bel_le {f : Int → Int} {x y z : Int} (hy : bel f x y) (hz : bel f (x + 1) z) : y ≤ z := by
  rcases (show y ≤ z ∨ z < y by omega) with q | q
  · exact q
  · have a := hy.2.2 z hz.1 (by have := hy.2.1; omega)
    have b := hz.2.2 z hz.1 (by have := hy.2.1; omega)
    omega
theorem cn1_bel {f : Int → Int} {x y z : Int} (hy : bel f x y) (hz : bel f (x + 1) z) : ∀ k : Nat, k ≤ 1000 → cn1 f x k = max 0 (min (k : Int) z - y) ∧ ls1 f x k = (if y < min (k : Int) z then y else -1) ∧ ms1 f x k = (if y < min (k : Int) z then min (k : Int) z - 1 else -1)
  | 0, _ => by
    have h1 := hy.1
    have h2 := hz.1
    refine ⟨?_, ?_, ?_⟩
    · rw [cn1]; omega
    · rw [ls1, if_neg (by omega)]
    · rw [ms1, if_neg (by omega)]
  | k + 1, hk => by
    obtain ⟨i1, i2, i3⟩ := cn1_bel hy hz k (by omega)
    have e := bel_eq hy hz (u := (k : Int)) (by omega) (by omega)
    have h1 := hy.1
    have h2 := hz.1
    rw [cn1, ls1, ms1]
    by_cases q : f (k : Int) = x
    · have q2 := e.mp q
      rw [if_pos q, if_pos q, if_pos q, i1, i2, if_pos (show y < min ((k + 1 : Nat) : Int) z by omega), if_pos (show y < min ((k + 1 : Nat) : Int) z by omega)]
      refine ⟨by omega, ?_, by omega⟩
      by_cases q3 : y < min (k : Int) z
      · rw [if_pos q3, if_neg (by omega)]
      · rw [if_neg q3, if_pos rfl]; omega
    · have q2 : ¬ (y ≤ (k : Int) ∧ (k : Int) < z) := fun r => q (e.mpr r)
      rw [if_neg q, if_neg q, if_neg q, i1, i2, i3]
      refine ⟨by omega, ?_, ?_⟩
      · by_cases q3 : y < min (k : Int) z
        · rw [if_pos q3, if_pos (by omega)]
        · rw [if_neg q3, if_neg (by omega)]
      · by_cases q3 : y < min (k : Int) z
        · rw [if_pos q3, if_pos (by omega)]; omega
        · rw [if_neg q3, if_neg (by omega)]
theorem cn2_bel {f g : Int → Int} {v w y z y2 z2 : Int} (hy : bel f v y) (hz : bel f (v + 1) z) (hy2 : bel g w y2) (hz2 : bel g (w + 1) z2) : ∀ k : Nat, k ≤ 1000 → cn2 f g v w k = max 0 (min (k : Int) (min z z2) - max y y2)
  | 0, _ => by
    have h1 := hy.1
    have h2 := hz.1
    have h3 := hz2.1
    rw [cn2]; omega
  | k + 1, hk => by
    have ih := cn2_bel hy hz hy2 hz2 k (by omega)
    have e := bel_eq hy hz (u := (k : Int)) (by omega) (by omega)
    have e2 := bel_eq hy2 hz2 (u := (k : Int)) (by omega) (by omega)
    have h1 := hy.1
    rw [cn2, ih]
    by_cases q : f (k : Int) = v ∧ g (k : Int) = w
    · have q1 := e.mp q.1
      have q2 := e2.mp q.2
      rw [if_pos q]; omega
    · have q2 : ¬ ((y ≤ (k : Int) ∧ (k : Int) < z) ∧ (y2 ≤ (k : Int) ∧ (k : Int) < z2)) := fun r => q ⟨e.mpr r.1, e2.mpr r.2⟩
      rw [if_neg q]; omega
/-! ONE THING, over the witnesses -/
noncomputable def onS (F : Int → Int → Int → Int) (a v b w : Int) : Nat → Int
  | 0 => 0
  | k + 1 => onS F a v b w k + cn2 (F k a) (F k b) v w 1000
theorem onS_s {F : Int → Int → Int → Int} {a v b w i : Int} (hi : 0 ≤ i) : onS F a v b w (i + 1).toNat = onS F a v b w i.toNat + cn2 (F i a) (F i b) v w 1000 := by
  rw [toNat_s hi, onS, show ((i.toNat : Nat) : Int) = i from by omega]
theorem cn2_rng (f g : Int → Int) (v w : Int) : ∀ k : Nat, 0 ≤ cn2 f g v w k ∧ cn2 f g v w k ≤ k
  | 0 => by rw [cn2]; omega
  | k + 1 => by
    have := cn2_rng f g v w k
    rw [cn2]
    split <;> omega
theorem onS_rng (F : Int → Int → Int → Int) (a v b w : Int) : ∀ k : Nat, 0 ≤ onS F a v b w k ∧ onS F a v b w k ≤ 1000 * k
  | 0 => by rw [onS]; omega
  | k + 1 => by
    have := onS_rng F a v b w k
    have := cn2_rng (F k a) (F k b) v w 1000
    rw [onS]; omega
/-! MODEST ONES, as bits -/
noncomputable def mdB (kd : Int → Int) (F : Int → Int) (x : Int) : Nat → Int
  | 0 => 0
  | k + 1 => if kd k = 1 ∨ kd k = 2 then mdB kd F x k else kor (mdB kd F x k) (if F k = x then kshl 1 k else 0)
theorem mdB_s {kd F : Int → Int} {x i : Int} (hi : 0 ≤ i) : mdB kd F x (i + 1).toNat = if kd i = 1 ∨ kd i = 2 then mdB kd F x i.toNat else kor (mdB kd F x i.toNat) (if F i = x then kshl 1 i else 0) := by
  rw [toNat_s hi, mdB, show ((i.toNat : Nat) : Int) = i from by omega]
theorem mdB_rng (kd F : Int → Int) (x : Int) : ∀ k : Nat, -2147483648 ≤ mdB kd F x k ∧ mdB kd F x k < 2147483648
  | 0 => by rw [mdB]; omega
  | k + 1 => by
    rw [mdB]
    split
    · exact mdB_rng kd F x k
    · exact kor_rng _ _
/-! ASK -/
noncomputable def asP (mst : Int → Int) (w : Int) : Nat → Int × Int
  | 0 => (-1, 1000)
  | k + 1 => if (if (k : Int) = w then 1000 else mst k) < (asP mst w k).2 then ((k : Int), if (k : Int) = w then 1000 else mst k) else asP mst w k
theorem asP_s {mst : Int → Int} {w i : Int} (hi : 0 ≤ i) : asP mst w (i + 1).toNat = if (if i = w then 1000 else mst i) < (asP mst w i.toNat).2 then (i, if i = w then 1000 else mst i) else asP mst w i.toNat := by
  rw [toNat_s hi, asP, show ((i.toNat : Nat) : Int) = i from by omega]
theorem rlA_s {f : Int → Int} {i : Int} (hi : 0 ≤ i) : rlA f (i + 1).toNat = f (i + 1) := by
  rw [toNat_s hi, rlA, show ((i.toNat : Nat) : Int) = i from by omega]
theorem rrA_s {f : Int → Int} {i : Int} (hi : 0 ≤ i) : rrA f (i + 1).toNat = if f (i + 1) = rlA f i.toNat then rrA f i.toNat + 1 else 1 := by
  rw [toNat_s hi, rrA, show ((i.toNat : Nat) : Int) = i from by omega]
theorem rmA_s {f : Int → Int} {i : Int} (hi : 0 ≤ i) : rmA f (i + 1).toNat = max (rmA f i.toNat) (rrA f (i + 1).toNat) := by
  rw [toNat_s hi, rmA]
theorem rrA_rng (f : Int → Int) : ∀ k : Nat, 0 ≤ rrA f k ∧ rrA f k ≤ k
  | 0 => by rw [rrA]; omega
  | k + 1 => by
    have := rrA_rng f k
    rw [rrA]
    split <;> omega
theorem rmA_rng (f : Int → Int) : ∀ k : Nat, 0 ≤ rmA f k ∧ rmA f k ≤ k
  | 0 => by rw [rmA]; omega
  | k + 1 => by
    have := rmA_rng f k
    have := rrA_rng f (k + 1)
    rw [rmA]; omega
/-! the greatest divisor -/
noncomputable def gdz (a b : Int) : Int := (Nat.gcd a.toNat b.toNat : Int)
theorem gdz_s {a b : Int} (ha : 0 ≤ a) (hb : 0 ≤ b) : gdz b (a % b) = gdz a b := by
  unfold gdz
  rw [show (a % b).toNat = a.toNat % b.toNat from by rw [Int.toNat_emod ha hb], Nat.gcd_comm a.toNat b.toNat, Nat.gcd_rec b.toNat a.toNat, Nat.gcd_comm]
theorem gdz_0 {a : Int} (ha : 0 ≤ a) : gdz a 0 = a := by
  unfold gdz
  simp only [Int.toNat_zero, Nat.gcd_zero_right]
  omega
theorem gdz_half {a b : Int} (hb : 0 < b) (h : b ≤ a) : 2 * (b * (a % b)) ≤ a * b := by
  have h1 := Int.emod_nonneg a (by omega : b ≠ 0)
  have h2 := Int.emod_lt_of_pos a hb
  have h3 : b * 1 ≤ b * (a / b) := Int.mul_le_mul_of_nonneg_left (by
    have : b / b ≤ a / b := Int.ediv_le_ediv hb h
    rw [Int.ediv_self (by omega)] at this
    exact this) (by omega)
  have h4 := Int.mul_ediv_add_emod a b
  have h5 : 2 * (a % b) ≤ a := by omega
  have h6 := Int.mul_le_mul_of_nonneg_right h5 (by omega : 0 ≤ b)
  rw [Int.mul_assoc, Int.mul_comm (a % b) b] at h6
  exact h6
/-! LIKELIEST -/
noncomputable def lkP (F : Int → Int) : Nat → Int × Int
  | 0 => (-1, 0)
  | k + 1 => if (lkP F k).2 < F (k + 1) then ((k : Int) + 1, F (k + 1)) else lkP F k
theorem lkP_s {F : Int → Int} {i : Int} (hi : 0 ≤ i) : lkP F (i + 1).toNat = if (lkP F i.toNat).2 < F (i + 1) then (i + 1, F (i + 1)) else lkP F i.toNat := by
  rw [toNat_s hi, lkP, show ((i.toNat : Nat) : Int) = i from by omega]
/-! GOSSIP: the seed, the sizes, from whom -/
noncomputable def goB (pe sd : Int) : Int := if nxs (nxs sd) / 65536 % (pe - 1) < nxs sd / 65536 % pe then nxs (nxs sd) / 65536 % (pe - 1) else nxs (nxs sd) / 65536 % (pe - 1) + 1
noncomputable def goS (sd : Int) : Nat → Int
  | 0 => sd
  | k + 1 => nxs (nxs (goS sd k))
noncomputable def goG (G kd : Int → Int) (pe sd : Int) (g : Int → Int) : Nat → Int → Int
  | 0 => g
  | k + 1 => rsB G (kd (nxs (goS sd k) / 65536 % pe)) (nxs (goS sd k) / 65536 % pe) (goB pe (goS sd k)) (goG G kd pe sd g k)
theorem goS_s {sd i : Int} (hi : 0 ≤ i) : goS sd (i + 1).toNat = nxs (nxs (goS sd i.toNat)) := by rw [toNat_s hi, goS]
theorem goG_s {G kd : Int → Int} {pe sd : Int} {g : Int → Int} {i : Int} (hi : 0 ≤ i) : goG G kd pe sd g (i + 1).toNat = rsB G (kd (nxs (goS sd i.toNat) / 65536 % pe)) (nxs (goS sd i.toNat) / 65536 % pe) (goB pe (goS sd i.toNat)) (goG G kd pe sd g i.toNat) := by rw [toNat_s hi, goG]
theorem goB_rng {pe sd : Int} (hp : 2 ≤ pe) : 0 ≤ goB pe sd ∧ goB pe sd < pe ∧ 0 ≤ nxs sd / 65536 % pe ∧ nxs sd / 65536 % pe < pe ∧ goB pe sd ≠ nxs sd / 65536 % pe := by
  have h1 := Int.emod_nonneg (nxs (nxs sd) / 65536) (by omega : pe - 1 ≠ 0)
  have h2 := Int.emod_lt_of_pos (nxs (nxs sd) / 65536) (by omega : 0 < pe - 1)
  have h3 := Int.emod_nonneg (nxs sd / 65536) (by omega : pe ≠ 0)
  have h4 := Int.emod_lt_of_pos (nxs sd / 65536) (by omega : 0 < pe)
  unfold goB
  split <;> omega
