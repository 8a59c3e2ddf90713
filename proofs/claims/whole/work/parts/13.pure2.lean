/-! tellings: who has a tale how big, from whom -/
theorem tb_rng {G : Int → Int} (hG : ∀ v, 0 ≤ G v ∧ G v ≤ 9999) {k v : Int} (hv : 0 ≤ v ∧ v ≤ 9999) : 0 ≤ tb G k v ∧ tb G k v ≤ 9999 := by
  unfold tb
  have h1 := hG v
  have h2 := hG (G v)
  split
  · exact hv
  · split
    · omega
    · split <;> omega
noncomputable def rsB (G : Int → Int) (k a b : Int) (g : Int → Int) : Int → Int := if g a ≠ -1 ∧ g b < tb G k (g a) then zu g b (tb G k (g a)) else g
noncomputable def rsF (G : Int → Int) (k a b : Int) (g f : Int → Int) : Int → Int := if g a ≠ -1 ∧ g b < tb G k (g a) then zu f b a else f
noncomputable def wkB (G kd : Int → Int) (pe : Int) (tt to g : Int → Int) : Nat → Int → Int
  | 0 => g
  | k + 1 => if tt k < pe ∧ to k < pe then rsB G (kd (tt k)) (tt k) (to k) (wkB G kd pe tt to g k) else wkB G kd pe tt to g k
noncomputable def wkF (G kd : Int → Int) (pe : Int) (tt to g f : Int → Int) : Nat → Int → Int
  | 0 => f
  | k + 1 => if tt k < pe ∧ to k < pe then rsF G (kd (tt k)) (tt k) (to k) (wkB G kd pe tt to g k) (wkF G kd pe tt to g f k) else wkF G kd pe tt to g f k
noncomputable def bgn (w x : Int) : Int → Int := if w = -1 then (fun _ => -1) else zu (fun _ => -1) w x
noncomputable def kmo (kd : Int → Int) (q : Int) : Int → Int := fun j => if j = q then 1 else kd j
theorem toNat_s {i : Int} (hi : 0 ≤ i) : (i + 1).toNat = i.toNat + 1 := by omega
theorem wkB_s {G kd : Int → Int} {pe : Int} {tt to g : Int → Int} {i : Int} (hi : 0 ≤ i) : wkB G kd pe tt to g (i + 1).toNat = if tt i < pe ∧ to i < pe then rsB G (kd (tt i)) (tt i) (to i) (wkB G kd pe tt to g i.toNat) else wkB G kd pe tt to g i.toNat := by
  rw [toNat_s hi, wkB, show ((i.toNat : Nat) : Int) = i from by omega]
theorem wkF_s {G kd : Int → Int} {pe : Int} {tt to g f : Int → Int} {i : Int} (hi : 0 ≤ i) : wkF G kd pe tt to g f (i + 1).toNat = if tt i < pe ∧ to i < pe then rsF G (kd (tt i)) (tt i) (to i) (wkB G kd pe tt to g i.toNat) (wkF G kd pe tt to g f i.toNat) else wkF G kd pe tt to g f i.toNat := by
  rw [toNat_s hi, wkF, show ((i.toNat : Nat) : Int) = i from by omega]
theorem zu_all {P : Int → Prop} {g : Int → Int} {i v : Int} (hg : ∀ j, P (g j)) (hv : P v) : ∀ j, P (zu g i v j) := by
  intro j
  unfold zu
  split
  · exact hv
  · exact hg j
theorem rsB_rng {G : Int → Int} (hG : ∀ v, 0 ≤ G v ∧ G v ≤ 9999) {k a b : Int} {g : Int → Int} (hg : ∀ j, -1 ≤ g j ∧ g j ≤ 9999) : ∀ j, -1 ≤ rsB G k a b g j ∧ rsB G k a b g j ≤ 9999 := by
  unfold rsB
  split
  · rename_i h
    have h1 := hg a
    have h2 := tb_rng hG (k := k) (v := g a) (by omega)
    exact zu_all (P := fun z => -1 ≤ z ∧ z ≤ 9999) hg (by omega)
  · exact hg
theorem wkB_rng {G kd : Int → Int} (hG : ∀ v, 0 ≤ G v ∧ G v ≤ 9999) {pe : Int} {tt to g : Int → Int} (hg : ∀ j, -1 ≤ g j ∧ g j ≤ 9999) : ∀ (k : Nat) (j : Int), -1 ≤ wkB G kd pe tt to g k j ∧ wkB G kd pe tt to g k j ≤ 9999
  | 0 => hg
  | k + 1 => by
    have ih := wkB_rng hG (kd := kd) (pe := pe) (tt := tt) (to := to) hg k
    rw [wkB]
    split
    · exact rsB_rng hG ih
    · exact ih
theorem bgn_rng {w x : Int} (hx : 0 ≤ x ∧ x ≤ 9999) : ∀ j, -1 ≤ bgn w x j ∧ bgn w x j ≤ 9999 := by
  unfold bgn
  split
  · intro j
    show -1 ≤ (-1 : Int) ∧ (-1 : Int) ≤ 9999
    omega
  · exact zu_all (P := fun z => -1 ≤ z ∧ z ≤ 9999) (fun _ => by show -1 ≤ (-1 : Int) ∧ (-1 : Int) ≤ 9999; omega) (by omega)
/-! how many have it, how big the biggest -/
noncomputable def hmy (g : Int → Int) : Nat → Int
  | 0 => 0
  | k + 1 => hmy g k + if g k = -1 then 0 else 1
noncomputable def bst (g : Int → Int) : Nat → Int
  | 0 => -1
  | k + 1 => max (bst g k) (g k)
theorem hmy_s {g : Int → Int} {i : Int} (hi : 0 ≤ i) : hmy g (i + 1).toNat = hmy g i.toNat + if g i = -1 then 0 else 1 := by
  rw [toNat_s hi, hmy, show ((i.toNat : Nat) : Int) = i from by omega]
theorem bst_s {g : Int → Int} {i : Int} (hi : 0 ≤ i) : bst g (i + 1).toNat = max (bst g i.toNat) (g i) := by
  rw [toNat_s hi, bst, show ((i.toNat : Nat) : Int) = i from by omega]
