/-! what is told of all, mixed -/
noncomputable def mx (h v : Int) : Int := 31 * h + v
noncomputable def dT (tt to : Int → Int) : Nat → Int → Int
  | 0, h => h
  | k + 1, h => mx (mx (dT tt to k h) (tt k)) (to k)
noncomputable def dQ (f g : Int → Int) : Nat → Int → Int
  | 0, h => h
  | k + 1, h => mx (mx (dQ f g k h) (f k)) (g k)
noncomputable def dP (kd tl : Int → Int) (f g : Int → Int → Int) : Nat → Int → Int
  | 0, h => h
  | k + 1, h => dQ (f k) (g k) 4 (mx (mx (dP kd tl f g k h) (kd k)) (tl k))
noncomputable def dL (f : Int → Int) : Nat → Int → Int
  | 0, h => h
  | k + 1, h => mx (dL f k h) (f k)
theorem dT_s {tt to : Int → Int} {i h : Int} (hi : 0 ≤ i) : dT tt to (i + 1).toNat h = 31 * (31 * dT tt to i.toNat h + tt i) + to i := by
  rw [toNat_s hi, dT, show ((i.toNat : Nat) : Int) = i from by omega]; rfl
theorem dQ_s {f g : Int → Int} {i h : Int} (hi : 0 ≤ i) : dQ f g (i + 1).toNat h = 31 * (31 * dQ f g i.toNat h + f i) + g i := by
  rw [toNat_s hi, dQ, show ((i.toNat : Nat) : Int) = i from by omega]; rfl
theorem dP_s {kd tl : Int → Int} {f g : Int → Int → Int} {i h : Int} (hi : 0 ≤ i) : dP kd tl f g (i + 1).toNat h = dQ (f i) (g i) 4 (31 * (31 * dP kd tl f g i.toNat h + kd i) + tl i) := by
  rw [toNat_s hi, dP, show ((i.toNat : Nat) : Int) = i from by omega]; rfl
theorem dL_s {f : Int → Int} {i h : Int} (hi : 0 ≤ i) : dL f (i + 1).toNat h = 31 * dL f i.toNat h + f i := by
  rw [toNat_s hi, dL, show ((i.toNat : Nat) : Int) = i from by omega]; rfl
noncomputable def cnF (pe st tn sn n rd wr dn y : Int) : Int := if y = 0 then pe else if y = 1 then st else if y = 2 then tn else if y = 3 then sn else if y = 4 then n else if y = 5 then rd else if y = 6 then wr else dn
theorem rsF_rng {G : Int → Int} {k a b : Int} {g f : Int → Int} (ha : 0 ≤ a ∧ a ≤ 7) (hf : ∀ j, -1 ≤ f j ∧ f j ≤ 7) : ∀ j, -1 ≤ rsF G k a b g f j ∧ rsF G k a b g f j ≤ 7 := by
  unfold rsF
  split
  · exact zu_all (P := fun z => -1 ≤ z ∧ z ≤ 7) hf (by omega)
  · exact hf
theorem wkF_rng {G kd : Int → Int} {pe : Int} {tt to g f : Int → Int} (htt : ∀ j, 0 ≤ tt j ∧ tt j ≤ 7) (hf : ∀ j, -1 ≤ f j ∧ f j ≤ 7) : ∀ (k : Nat) (j : Int), -1 ≤ wkF G kd pe tt to g f k j ∧ wkF G kd pe tt to g f k j ≤ 7
  | 0 => hf
  | k + 1 => by
    have ih := wkF_rng (G := G) (kd := kd) (pe := pe) (to := to) (g := g) htt hf k
    rw [wkF]
    split
    · exact rsF_rng (htt _) ih
    · exact ih
theorem m1_rng : ∀ j : Int, -1 ≤ (fun _ : Int => (-1 : Int)) j ∧ (fun _ : Int => (-1 : Int)) j ≤ 7 := fun _ => by show -1 ≤ (-1 : Int) ∧ (-1 : Int) ≤ 7; omega
theorem asP_rng (mst : Int → Int) (w : Int) : ∀ k : Nat, -1 ≤ (asP mst w k).1 ∧ (asP mst w k).1 ≤ k
  | 0 => by
    show -1 ≤ (-1 : Int) ∧ (-1 : Int) ≤ ((0 : Nat) : Int)
    omega
  | k + 1 => by
    have ih := asP_rng mst w k
    rw [asP]
    by_cases h : (if (k : Int) = w then 1000 else mst k) < (asP mst w k).2
    · rw [if_pos h]
      show -1 ≤ (k : Int) ∧ (k : Int) ≤ ((k + 1 : Nat) : Int)
      omega
    · rw [if_neg h]
      omega
theorem lkP_rng (F : Int → Int) : ∀ k : Nat, -1 ≤ (lkP F k).1 ∧ (lkP F k).1 ≤ k
  | 0 => by
    show -1 ≤ (-1 : Int) ∧ (-1 : Int) ≤ ((0 : Nat) : Int)
    omega
  | k + 1 => by
    have ih := lkP_rng F k
    rw [lkP]
    split
    · show -1 ≤ (k : Int) + 1 ∧ (k : Int) + 1 ≤ ((k + 1 : Nat) : Int)
      omega
    · omega
/-- what a digest tells, of the parts that it is made of -/
noncomputable def dgs (G tt to kd tl : Int → Int) (f g : Int → Int → Int) (tn pe one : Int) (as : Int → Int) (lk : Int) (pg : Int → Int) (n : Int) (cf : Int → Int) : Int :=
  dL cf 8 (dL pg n.toNat (mx (dL as pe.toNat (if 2 ≤ pe then mx (dP kd tl f g pe.toNat (dT tt to tn.toNat (mx (mx (mx (mx 631 (G 1)) (G 10)) (G 100)) (G 1000)))) one else dP kd tl f g pe.toNat (dT tt to tn.toNat (mx (mx (mx (mx 631 (G 1)) (G 10)) (G 100)) (G 1000))))) lk))
theorem hmy_rng (g : Int → Int) : ∀ k : Nat, 0 ≤ hmy g k ∧ hmy g k ≤ k
  | 0 => by rw [hmy]; omega
  | k + 1 => by
    have := hmy_rng g k
    rw [hmy]
    split <;> omega
