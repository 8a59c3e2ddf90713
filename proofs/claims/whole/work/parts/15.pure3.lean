/-! letters in a long, by its bytes -/
noncomputable def byt (w k : Int) : Int := (w / 2 ^ (8 * k).toNat) % 256
theorem byt_rng (w k : Int) : 0 ≤ byt w k ∧ byt w k ≤ 255 := by unfold byt; omega
noncomputable def uL (x : Int64) : Nat := x.toBitVec.toNat
theorem uL_lZ (w : Int) : (uL (lZ w) : Int) = w % 18446744073709551616 := by
  unfold uL lZ
  show ((BitVec.ofInt 64 w).toNat : Int) = _
  rw [BitVec.toNat_ofInt]
  omega
theorem uL_and (x : Int64) : uL (x &&& 255) = uL x % 256 := by
  unfold uL
  rw [Int64.toBitVec_and, BitVec.toNat_and, show (255 : Int64).toBitVec.toNat = 2 ^ 8 - 1 from rfl, Nat.and_two_pow_sub_one_eq_mod]
theorem uL_small {x : Int64} (h : uL x < 9223372036854775808) : x.toInt = (uL x : Int) := by
  show x.toBitVec.toInt = _
  rw [BitVec.toInt_eq_toNat_of_lt (by unfold uL at h; omega)]
  rfl
theorem jand255 (v : Int) : jand v 255 = v % 256 := by
  unfold jand
  have e : uL (lZ v &&& lZ 255) = uL (lZ v) % 256 := uL_and (lZ v)
  have h := uL_lZ v
  rw [uL_small (by omega), e]
  omega
theorem shamt : ∀ k : Fin 8, ((iZ (8 * ((k.val : Nat) : Int))).toInt64.toUInt64 &&& Int64.toUInt64 63).toNat % 64 = 8 * k.val := by decide
theorem shamt2 : ∀ k : Fin 8, (((iZ (8 * ((k.val : Nat) : Int))).toInt64 &&& 63).toBitVec.smod 64).toNat = 8 * k.val := by decide
theorem uL_ushr (x : Int64) (s : UInt64) : uL ((x.toUInt64 >>> s).toInt64) = uL x / 2 ^ (s.toNat % 64) := by
  show (x.toUInt64 >>> s).toNat = _
  rw [UInt64.toNat_shiftRight, Nat.shiftRight_eq_div_pow]
  rfl
theorem byt_u {w k : Int} (hw : -9223372036854775808 ≤ w ∧ w < 9223372036854775808) (hk : 0 ≤ k ∧ k ≤ 7) : jand (jushr w (8 * k)) 255 = byt w k := by
  rw [jand255]
  have hj : lZ (jushr w (8 * k)) = ((lZ w).toUInt64 >>> ((iZ (8 * k)).toInt64.toUInt64 &&& Int64.toUInt64 63)).toInt64 := (lZ_of _).symm
  have e := uL_lZ (jushr w (8 * k))
  rw [hj, uL_ushr] at e
  have h8 := uL_lZ w
  have hs := shamt ⟨k.toNat, by omega⟩
  have hk2 : ((k.toNat : Nat) : Int) = k := by omega
  simp only [hk2] at hs
  rw [hs] at e
  unfold byt
  have q : ∀ j : Nat, j ≤ 7 → k = j → jushr w (8 * k) % 256 = w / 2 ^ (8 * k).toNat % 256 := by
    intro j hj hkj
    have hkn : k.toNat = j := by omega
    have hkm : (8 * k).toNat = 8 * j := by omega
    rw [hkn] at e
    rw [hkm]
    rcases (show j = 0 ∨ j = 1 ∨ j = 2 ∨ j = 3 ∨ j = 4 ∨ j = 5 ∨ j = 6 ∨ j = 7 by omega) with rfl | rfl | rfl | rfl | rfl | rfl | rfl | rfl <;> (simp only [Nat.reduceMul, Nat.reducePow, Int.reducePow] at e ⊢; omega)
  exact q k.toNat (by omega) (by omega)
theorem byt_s {w k : Int} (hw : -9223372036854775808 ≤ w ∧ w < 9223372036854775808) (hk : 0 ≤ k ∧ k ≤ 7) : jshr w (8 * k) % 256 = byt w k := by
  unfold jshr byt
  have hs := shamt2 ⟨k.toNat, by omega⟩
  have hk2 : ((k.toNat : Nat) : Int) = k := by omega
  simp only [hk2] at hs
  have e : (lZ w >>> ((iZ (8 * k)).toInt64 &&& 63)).toInt = w / 2 ^ (8 * k).toNat := by
    show ((lZ w).toBitVec.sshiftRight' (((iZ (8 * k)).toInt64 &&& 63).toBitVec.smod 64)).toInt = _
    rw [BitVec.sshiftRight', BitVec.toInt_sshiftRight, hs]
    rw [show (lZ w).toBitVec.toInt = w from lZ_toInt hw, Int.shiftRight_eq_div_pow]
    rw [show (8 * k).toNat = 8 * k.toNat from by omega]
    norm_cast
  rw [e]
theorem byt_s2 {w k : Int} (hw : -9223372036854775808 ≤ w ∧ w < 9223372036854775808) (hk : 0 ≤ k ∧ k ≤ 7) : jand (jshr w (8 * k)) 255 = byt w k := by rw [jand255, byt_s hw hk]
theorem iZ_bm {v : Int} (h : v % 256 ≤ 127) : (iZ v).toInt8.toInt32 = iZ (v % 256) := by
  have e : iZ v = iZ (v % 256 + 256 * (v / 256)) := by rw [Int.emod_add_mul_ediv]
  apply Int32.toInt_inj.1
  rw [Int8.toInt_toInt32, Int32.toInt_toInt8, iZ_toInt (z := v % 256) (by omega)]
  show ((iZ v).toInt).bmod (2 ^ 8) = _
  have h2 : (iZ v).toInt = v.bmod (2 ^ 32) := Int32.toInt_ofInt
  rw [h2, Int.bmod_bmod_of_dvd (by decide)]
  rw [Int.bmod_def]
  split <;> omega
/-- how many of the first bytes are letters -/
noncomputable def cntB (w : Int) : Nat → Int
  | 0 => 0
  | k + 1 => cntB w k + if byt w k = 0 then 0 else 1
theorem cntB_s {w i : Int} (hi : 0 ≤ i) : cntB w (i + 1).toNat = cntB w i.toNat + if byt w i = 0 then 0 else 1 := by
  rw [toNat_s hi, cntB, show ((i.toNat : Nat) : Int) = i from by omega]
abbrev okb (w j : Int) : Prop := byt w j ≤ 126 ∧ (byt w j = 0 ∨ cntB w j.toNat = j)
abbrev okB (w k : Int) : Prop := ∀ j : Int, 0 ≤ j → j < k → okb w j
theorem okB_s {w i : Int} (h : okB w i) (h2 : okb w i) : okB w (i + 1) := fun j h0 h1 => by
  rcases (show j < i ∨ j = i by omega) with q | q
  · exact h j h0 q
  · rw [q]; exact h2
noncomputable def apg (w : Int) (pg : Int → Int) (n i : Int) : Int → Int := fun j => if n ≤ j ∧ j < n + i then byt w (j - n) else pg j
theorem apg_s (w : Int) (pg : Int → Int) {n i : Int} (hi : 0 ≤ i) : zu (apg w pg n i) (n + i) (byt w i) = apg w pg n (i + 1) := by
  funext j
  unfold zu apg
  by_cases h : j = n + i
  · subst h
    rw [if_pos rfl, if_pos (by omega), show n + i - n = i from by omega]
  · rw [if_neg h]
    by_cases h2 : n ≤ j ∧ j < n + i
    · rw [if_pos h2, if_pos (by omega)]
    · rw [if_neg h2, if_neg (by omega)]
theorem apg_0 (w : Int) (pg : Int → Int) (n : Int) : apg w pg n 0 = pg := by
  funext j
  unfold apg
  rw [if_neg (by omega)]
/-! the letters of a law -/
abbrev opn (ch : Int) : Prop := ch = 104 ∨ ch = 100 ∨ ch = 43 ∨ ch = 45 ∨ ch = 47
abbrev wnt (ch : Int) : Prop := ch = 43 ∨ ch = 45 ∨ ch = 47
abbrev dgt (sg ch : Int) : Prop := (if sg = 47 then 50 else 48) ≤ ch ∧ ch ≤ 57
noncomputable def prv (pg : Int → Int) (k : Int) : Int := if k = 0 then -1 else pg (k - 1)
noncomputable def cntO (pg : Int → Int) : Nat → Int
  | 0 => 0
  | k + 1 => cntO pg k + if opn (pg k) then 1 else 0
theorem cntO_s {pg : Int → Int} {i : Int} (hi : 0 ≤ i) : cntO pg (i + 1).toNat = cntO pg i.toNat + if opn (pg i) then 1 else 0 := by
  rw [toNat_s hi, cntO, show ((i.toNat : Nat) : Int) = i from by omega]
abbrev goodL (pg : Int → Int) (k : Int) : Prop := (wnt (prv pg k) ∧ dgt (prv pg k) (pg k)) ∨ (¬ wnt (prv pg k) ∧ opn (pg k) ∧ cntO pg k.toNat < 4)
abbrev allL (pg : Int → Int) (k : Int) : Prop := ∀ j : Int, 0 ≤ j → j < k → goodL pg j
theorem allL_s {pg : Int → Int} {i : Int} (h : allL pg i) (h2 : goodL pg i) : allL pg (i + 1) := fun j h0 h1 => by
  rcases (show j < i ∨ j = i by omega) with q | q
  · exact h j h0 q
  · rw [q]; exact h2
abbrev LF (n : Int) (pg : Int → Int) (z : Int) : Prop := 0 ≤ z ∧ z ≤ n ∧ allL pg z ∧ (z < n → ¬ goodL pg z)
theorem LF_one {n : Int} {pg : Int → Int} {y z : Int} (hy : LF n pg y) (hz : LF n pg z) : y = z := by
  rcases (show y < z ∨ y = z ∨ z < y by omega) with h | h | h
  · exact absurd (hz.2.2.1 y hy.1 h) (hy.2.2.2 (by omega))
  · exact h
  · exact absurd (hy.2.2.1 z hz.1 h) (hz.2.2.2 (by omega))
abbrev WL (n : Int) (pg : Int → Int) : Prop := 0 < n ∧ allL pg n ∧ ¬ wnt (pg (n - 1))
/-- where the steps' letters stand -/
noncomputable def opp (pg : Int → Int) : Nat → Int → Int
  | 0 => fun _ => 0
  | k + 1 => if opn (pg k) then zu (opp pg k) (cntO pg k) k else opp pg k
theorem opp_s {pg : Int → Int} {i : Int} (hi : 0 ≤ i) : opp pg (i + 1).toNat = if opn (pg i) then zu (opp pg i.toNat) (cntO pg i.toNat) i else opp pg i.toNat := by
  rw [toNat_s hi, opp, show ((i.toNat : Nat) : Int) = i from by omega]
noncomputable def lat (n : Int) (pg : Int → Int) (i : Int) : Int := if 0 ≤ i ∧ i < n then pg i else -1
theorem cntO_le {pg : Int → Int} {i : Int} (hi : 0 ≤ i) (h : allL pg i) : 0 ≤ cntO pg i.toNat ∧ cntO pg i.toNat ≤ 4 := by
  have key : ∀ k : Nat, (k : Int) ≤ i → 0 ≤ cntO pg k ∧ cntO pg k ≤ 4 := by
    intro k
    induction k with
    | zero => intro _; rw [cntO]; omega
    | succ k ih =>
      intro hk
      have ih2 := ih (by omega)
      have g := h (k : Int) (by omega) (by omega)
      rw [cntO]
      split
      · rename_i ho
        rcases g with ⟨-, g⟩ | ⟨-, -, g⟩
        · unfold dgt at g
          rcases ho with ho | ho | ho | ho | ho <;> (rw [ho] at g; split at g <;> omega)
        · rw [show ((k : Int)).toNat = k from by omega] at g
          omega
      · omega
  exact key i.toNat (by omega)
/-! the law as it is made: by letters, by numbers -/
noncomputable def stpX (sg d v : Int) : Int := if sg = 43 then v + d else if sg = 45 then max 0 (v - d) else if sg = 100 then 2 * v else if sg = 104 then v + v / 2 else if 0 < d then v / d else v
noncomputable def groX (sg dg : Int → Int) : Nat → Int → Int
  | 0, v => v
  | k + 1, v => min 9999 (stpX (sg k) (dg k) (groX sg dg k v))
theorem groX_s {sg dg : Int → Int} {i v : Int} (hi : 0 ≤ i) : groX sg dg (i + 1).toNat v = min 9999 (stpX (sg i) (dg i) (groX sg dg i.toNat v)) := by
  rw [toNat_s hi, groX, show ((i.toNat : Nat) : Int) = i from by omega]
theorem stpX_rng {sg d v : Int} (hd : -49 ≤ d ∧ d ≤ 78) (hs : sg = 43 → 0 ≤ d) (hv : 0 ≤ v ∧ v ≤ 9999) : 0 ≤ stpX sg d v ∧ stpX sg d v ≤ 19998 := by
  unfold stpX
  split
  · rename_i h; have := hs h; omega
  · split
    · omega
    · split
      · omega
      · split
        · omega
        · split
          · rename_i h1 h2 h3 h4 h5
            have := z_divle (a := v) (b := d) hv.1 h5
            omega
          · omega
theorem groX_rng {sg dg : Int → Int} {st : Int} (hd : ∀ j, 0 ≤ j → j < st → -49 ≤ dg j ∧ dg j ≤ 78) (hs : ∀ j, 0 ≤ j → j < st → sg j = 43 → 0 ≤ dg j) {v : Int} (hv : 0 ≤ v ∧ v ≤ 9999) : ∀ k : Nat, (k : Int) ≤ st → 0 ≤ groX sg dg k v ∧ groX sg dg k v ≤ 9999
  | 0, _ => hv
  | k + 1, hk => by
    have ih := groX_rng hd hs hv k (by omega)
    have h := stpX_rng (hd k (by omega) (by omega)) (hs k (by omega) (by omega)) ih
    rw [groX]
    omega
theorem groX_cg {sg dg sg2 dg2 : Int → Int} {st : Int} (h1 : ∀ j, 0 ≤ j → j < st → sg j = sg2 j) (h2 : ∀ j, 0 ≤ j → j < st → dg j = dg2 j) (v : Int) : ∀ k : Nat, (k : Int) ≤ st → groX sg dg k v = groX sg2 dg2 k v
  | 0, _ => rfl
  | k + 1, hk => by rw [groX, groX, groX_cg h1 h2 v k (by omega), h1 k (by omega) (by omega), h2 k (by omega) (by omega)]
noncomputable def sgP (pg : Int → Int) (n : Int) : Int → Int := fun j => pg (opp pg n.toNat j)
noncomputable def dgP (pg : Int → Int) (n : Int) : Int → Int := fun j => lat n pg (opp pg n.toNat j + 1) - 48
theorem lat_rng {n : Int} {pg : Int → Int} (h : ∀ j, 0 ≤ pg j ∧ pg j ≤ 126) (i : Int) : -1 ≤ lat n pg i ∧ lat n pg i ≤ 126 := by
  have := h i
  unfold lat
  split <;> omega
/-- the positions' letters open steps, and stand ahead -/
theorem opp_in {pg : Int → Int} : ∀ (k : Nat) (j : Int), 0 ≤ j → j < cntO pg k → 0 ≤ opp pg k j ∧ opp pg k j < k ∧ opn (pg (opp pg k j))
  | 0, j, h0, h1 => by rw [cntO] at h1; omega
  | k + 1, j, h0, h1 => by
    rw [cntO] at h1
    rw [opp]
    split at h1
    · rename_i ho
      rw [if_pos ho]
      unfold zu
      by_cases q : j = cntO pg k
      · rw [if_pos q]; exact ⟨by omega, by omega, ho⟩
      · rw [if_neg q]
        have ih := opp_in (pg := pg) k j h0 (by omega)
        exact ⟨ih.1, by omega, ih.2.2⟩
    · rename_i ho
      rw [if_neg ho]
      have ih := opp_in (pg := pg) k j h0 (by omega)
      exact ⟨ih.1, by omega, ih.2.2⟩
/-- in a whole law a sign's digit stands behind it -/
theorem dg_in {n : Int} {pg : Int → Int} (h : WL n pg) {j : Int} (h0 : 0 ≤ j) (h1 : j < cntO pg n.toNat) (hw : wnt (pg (opp pg n.toNat j))) : 0 ≤ opp pg n.toNat j ∧ opp pg n.toNat j + 1 < n ∧ dgt (pg (opp pg n.toNat j)) (pg (opp pg n.toNat j + 1)) := by
  have hi := opp_in (pg := pg) n.toNat j h0 h1
  obtain ⟨hn, ha, hl⟩ := h
  generalize opp pg n.toNat j = q at hi hw ⊢
  have hq : q + 1 < n := by
    rcases (show q + 1 < n ∨ q = n - 1 by omega) with z | z
    · exact z
    · rw [z] at hw; exact absurd hw hl
  refine ⟨hi.1, hq, ?_⟩
  have g := ha (q + 1) (by omega) hq
  have e : prv pg (q + 1) = pg q := by
    unfold prv
    rw [if_neg (by omega), show q + 1 - 1 = q from by omega]
  rcases g with ⟨-, g⟩ | ⟨g, -⟩
  · rw [e] at g; exact g
  · rw [e] at g; exact absurd hw g
theorem prv_a {pg : Int → Int} {n i : Int} (h : 0 ≤ i - 1 ∧ i - 1 < n) : prv pg i = pg (i - 1) := by
  unfold prv
  rw [if_neg (by omega)]
theorem prv_b {pg : Int → Int} {n i : Int} (h : ¬ (0 ≤ i - 1 ∧ i - 1 < n)) (hi : 0 ≤ i ∧ i ≤ n) : prv pg i = -1 := by
  unfold prv
  rw [if_pos (by omega)]
/-! the law by letters is what its steps' table makes -/
theorem lat_in {n : Int} {pg : Int → Int} {i : Int} (h : 0 ≤ i ∧ i < n) : lat n pg i = pg i := by
  unfold lat
  rw [if_pos h]
theorem lat_out {n : Int} {pg : Int → Int} {i : Int} (h : ¬ (0 ≤ i ∧ i < n)) : lat n pg i = -1 := by
  unfold lat
  rw [if_neg h]
