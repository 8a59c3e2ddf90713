theorem fb_holes : ∀ (m n : Nat) (f : Nat → Nat), (∀ i, i < n → f i < m) → (∀ i j, i < j → j < n → f i ≠ f j) → n ≤ m := by
  intro m
  induction m with
  | zero =>
    intro n f h1 _
    rcases Nat.eq_zero_or_pos n with h | h
    · omega
    · exact absurd (h1 0 h) (Nat.not_lt_zero _)
  | succ m ih =>
    intro n f h1 h2
    by_cases hx : ∃ i, i < n ∧ f i = m
    · obtain ⟨a, ha, hfa⟩ := hx
      have hg := ih (n - 1) (fun i => if i < a then f i else f (i + 1)) (by
        intro i hi
        by_cases q : i < a
        · simp only [if_pos q]
          have b1 := h1 i (by omega)
          have b2 := h2 i a q ha
          omega
        · simp only [if_neg q]
          have b1 := h1 (i + 1) (by omega)
          have b2 := h2 a (i + 1) (by omega) (by omega)
          omega) (by
        intro i j hij hj
        by_cases q : i < a
        · by_cases r : j < a
          · simp only [if_pos q, if_pos r]
            exact h2 i j hij (by omega)
          · simp only [if_pos q, if_neg r]
            exact h2 i (j + 1) (by omega) (by omega)
        · have r : ¬ j < a := by omega
          simp only [if_neg q, if_neg r]
          exact h2 (i + 1) (j + 1) (by omega) (by omega))
      omega
    · have hg := ih n f (fun i hi => by
        have b1 := h1 i hi
        have b2 : f i ≠ m := fun e => hx ⟨i, hi, e⟩
        omega) h2
      omega
/-! bits of a long -/
theorem lb_amt : ∀ k : Fin 64, (((iZ ((k.val : Nat) : Int)).toInt64 &&& 63).toBitVec.smod 64).toNat = k.val := by decide +kernel
theorem lb_one : ∀ k : Fin 64, ((lZ 1) <<< ((iZ ((k.val : Nat) : Int)).toInt64 &&& 63)).toBitVec = BitVec.twoPow 64 k.val := by decide +kernel
noncomputable def lbit (x k : Int) : Bool := (lZ x).toBitVec.getLsbD k.toNat
theorem lb_A {x k : Int} (hk : 0 ≤ k ∧ k < 64) : jand (jshr x k) 1 = 1 ↔ lbit x k = true := by
  have hs := lb_amt ⟨k.toNat, by omega⟩
  have hk2 : ((k.toNat : Nat) : Int) = k := by omega
  simp only [hk2] at hs
  unfold jand jshr lbit
  have e : lZ ((lZ x >>> ((iZ k).toInt64 &&& 63)).toInt) = lZ x >>> ((iZ k).toInt64 &&& 63) := (lZ_of _).symm
  rw [e]
  have e2 : (lZ x >>> ((iZ k).toInt64 &&& 63)).toBitVec = (lZ x).toBitVec.sshiftRight k.toNat := by
    show (lZ x).toBitVec.sshiftRight' _ = _
    rw [BitVec.sshiftRight', hs]
  have e3 : ((lZ x >>> ((iZ k).toInt64 &&& 63)) &&& lZ 1).toBitVec = if (lZ x).toBitVec.getLsbD k.toNat then 1#64 else 0#64 := by
    rw [Int64.toBitVec_and, e2]
    apply BitVec.eq_of_getLsbD_eq
    intro i hi
    rw [BitVec.getLsbD_and, show (lZ 1).toBitVec = 1#64 from rfl]
    by_cases h0 : i = 0
    · subst h0
      rw [BitVec.getLsbD_sshiftRight]
      rw [if_pos (by omega)]
      split <;> rename_i q <;> simp [q]
    · have e4 : (1#64).getLsbD i = false := by
        rw [BitVec.getLsbD_one]; simp [h0]
      rw [e4, Bool.and_false]
      split
      · exact e4.symm
      · simp
  constructor
  · intro h
    by_cases q : (lZ x).toBitVec.getLsbD k.toNat = true
    · exact q
    · rw [if_neg q] at e3
      have : ((lZ x >>> ((iZ k).toInt64 &&& 63)) &&& lZ 1) = lZ 0 := Int64.toBitVec_inj.mp e3
      rw [this] at h
      exact absurd h (by decide)
  · intro q
    rw [if_pos q] at e3
    have : ((lZ x >>> ((iZ k).toInt64 &&& 63)) &&& lZ 1) = lZ 1 := Int64.toBitVec_inj.mp e3
    rw [this]
    rfl
theorem lb_B {x k j : Int} (hk : 0 ≤ k ∧ k < 64) (hj : 0 ≤ j ∧ j < 64) : lbit (jor x (jshl 1 k)) j = true ↔ (j = k ∨ lbit x j = true) := by
  have hs := lb_one ⟨k.toNat, by omega⟩
  have hk2 : ((k.toNat : Nat) : Int) = k := by omega
  simp only [hk2] at hs
  unfold lbit jor jshl
  have e1 : lZ ((lZ 1 <<< ((iZ k).toInt64 &&& 63)).toInt) = lZ 1 <<< ((iZ k).toInt64 &&& 63) := (lZ_of _).symm
  have e2 : lZ ((lZ x ||| lZ 1 <<< ((iZ k).toInt64 &&& 63)).toInt) = lZ x ||| lZ 1 <<< ((iZ k).toInt64 &&& 63) := (lZ_of _).symm
  rw [e1, e2, Int64.toBitVec_or, BitVec.getLsbD_or, hs, BitVec.getLsbD_twoPow, Bool.or_eq_true, Bool.and_eq_true, decide_eq_true_eq, decide_eq_true_eq]
  constructor
  · rintro (h | ⟨-, h⟩)
    · exact Or.inr h
    · exact Or.inl (by omega)
  · rintro (h | h)
    · exact Or.inr ⟨by omega, by omega⟩
    · exact Or.inl h
noncomputable def mbit (mt : Int → Int) (s : Int) : Int := jand (jshr (mt (s / 64)) (s % 64)) 1
theorem mbit_0 (s : Int) : ¬ mbit (fun _ => 0) s = 1 := by
  unfold mbit
  rw [lb_A (by omega)]
  unfold lbit
  rw [show (lZ 0).toBitVec = 0#64 from rfl]
  simp
theorem mbit_set {mt : Int → Int} {s r : Int} (hs : 0 ≤ s) (hr : 0 ≤ r) : mbit (zu mt (s / 64) (jor (mt (s / 64)) (jshl 1 (s % 64)))) r = 1 ↔ (r = s ∨ mbit mt r = 1) := by
  unfold mbit
  by_cases h : r / 64 = s / 64
  · rw [zu_at, if_pos h, lb_A (by omega), lb_B (by omega) (by omega), h, lb_A (by omega)]
    constructor
    · rintro (q | q)
      · exact Or.inl (by omega)
      · exact Or.inr q
    · rintro (q | q)
      · exact Or.inl (by omega)
      · exact Or.inr q
  · rw [zu_at, if_neg h]
    constructor
    · exact fun q => Or.inr q
    · rintro (q | q)
      · exact absurd (by rw [q]) h
      · exact q
/-! chains: to whom it has been told how big, in a line -/
abbrev cS : Type := (Int → Int) × (Int → Int) × Int
noncomputable def cmS (S : cS) (s f : Int) : cS := if S.1 s = 0 then (zu S.1 s f, zu S.2.1 S.2.2 s, S.2.2 + 1) else S
noncomputable def toS (G kd kn : Int → Int) (fl s : Int) : Nat → cS → cS
  | 0, S => S
  | k + 1, S => if kand (kshr (kn (s / 10000)) k) 1 = 1 then cmS (toS G kd kn fl s k S) (10000 * k + tb G (kd (s / 10000)) (s % 10000)) (if fl = 1 then (k : Int) + 1 else (toS G kd kn fl s k S).1 s) else toS G kd kn fl s k S
noncomputable def enS (G kd kn : Int → Int) (pe fl k0 : Int) : Nat → cS → cS
  | 0, S => S
  | j + 1, S => toS G kd kn fl ((enS G kd kn pe fl k0 j S).2.1 (k0 + j)) pe.toNat (enS G kd kn pe fl k0 j S)
noncomputable def lvS (G kd kn : Int → Int) (pe : Int) (S : cS) : Nat → cS × Int
  | 0 => (S, 0)
  | k + 1 => (enS G kd kn pe (if k = 0 then 1 else 0) (lvS G kd kn pe S k).2 ((lvS G kd kn pe S k).1.2.2 - (lvS G kd kn pe S k).2).toNat (lvS G kd kn pe S k).1, (lvS G kd kn pe S k).1.2.2)
theorem toS_s {G kd kn : Int → Int} {fl s : Int} {S : cS} {i : Int} (hi : 0 ≤ i) : toS G kd kn fl s (i + 1).toNat S = if kand (kshr (kn (s / 10000)) i) 1 = 1 then cmS (toS G kd kn fl s i.toNat S) (10000 * i + tb G (kd (s / 10000)) (s % 10000)) (if fl = 1 then i + 1 else (toS G kd kn fl s i.toNat S).1 s) else toS G kd kn fl s i.toNat S := by
  rw [toNat_s hi, toS, show ((i.toNat : Nat) : Int) = i from by omega]
theorem enS_s {G kd kn : Int → Int} {pe fl k0 : Int} {S : cS} {i : Int} (hi : 0 ≤ i) : enS G kd kn pe fl k0 (i + 1).toNat S = toS G kd kn fl ((enS G kd kn pe fl k0 i.toNat S).2.1 (k0 + i)) pe.toNat (enS G kd kn pe fl k0 i.toNat S) := by
  rw [toNat_s hi, enS, show ((i.toNat : Nat) : Int) = i from by omega]
theorem lvS_s {G kd kn : Int → Int} {pe : Int} {S : cS} {i : Int} (hi : 0 ≤ i) : lvS G kd kn pe S (i + 1).toNat = (enS G kd kn pe (if i = 0 then 1 else 0) (lvS G kd kn pe S i.toNat).2 ((lvS G kd kn pe S i.toNat).1.2.2 - (lvS G kd kn pe S i.toNat).2).toNat (lvS G kd kn pe S i.toNat).1, (lvS G kd kn pe S i.toNat).1.2.2) := by
  rw [toNat_s hi, lvS]
  by_cases h : i = 0
  · rw [if_pos h, if_pos (by omega)]
  · rw [if_neg h, if_neg (by omega)]
abbrev BI (pe : Int) (S : cS) : Prop := 0 ≤ S.2.2 ∧ (∀ i : Int, 0 ≤ i → i < S.2.2 → 0 ≤ S.2.1 i ∧ S.2.1 i < 10000 * pe ∧ S.1 (S.2.1 i) ≠ 0) ∧ (∀ i j : Int, 0 ≤ i → i < j → j < S.2.2 → S.2.1 i ≠ S.2.1 j) ∧ ∀ s : Int, 0 ≤ S.1 s ∧ S.1 s ≤ 9
theorem BI_lt {pe : Int} {S : cS} (hpe : pe ≤ 8) (h : BI pe S) {s : Int} (hs : 0 ≤ s ∧ s < 80000) (h0 : S.1 s = 0) : S.2.2 < 80000 := by
  have k := fb_holes 80000 (S.2.2 + 1).toNat (fun i => if (i : Int) < S.2.2 then (S.2.1 (i : Int)).toNat else s.toNat) (fun i hi => by
    show (if (i : Int) < S.2.2 then (S.2.1 (i : Int)).toNat else s.toNat) < 80000
    split
    · rename_i q
      have := h.2.1 i (by omega) q
      omega
    · omega) (fun i j hij hj => by
    show (if (i : Int) < S.2.2 then (S.2.1 (i : Int)).toNat else s.toNat) ≠ (if (j : Int) < S.2.2 then (S.2.1 (j : Int)).toNat else s.toNat)
    have hi2 : (i : Int) < S.2.2 := by omega
    rw [if_pos hi2]
    have a := h.2.1 i (by omega) hi2
    split
    · rename_i q
      have b := h.2.1 j (by omega) q
      have d := h.2.2.1 i j (by omega) (by omega) q
      omega
    · intro q
      have e : S.2.1 (i : Int) = s := by omega
      rw [e] at a
      exact a.2.2 h0)
  omega
theorem BI_le {pe : Int} {S : cS} (hpe : pe ≤ 8) (h : BI pe S) : S.2.2 ≤ 80000 := by
  have k := fb_holes 80000 S.2.2.toNat (fun i => (S.2.1 (i : Int)).toNat) (fun i hi => by
    show (S.2.1 (i : Int)).toNat < 80000
    have := h.2.1 i (by omega) (by omega)
    omega) (fun i j hij hj => by
    show (S.2.1 (i : Int)).toNat ≠ (S.2.1 (j : Int)).toNat
    have a := h.2.1 i (by omega) (by omega)
    have b := h.2.1 j (by omega) (by omega)
    have d := h.2.2.1 i j (by omega) (by omega) (by omega)
    omega)
  omega
theorem cmS_keep {S : cS} {s f r : Int} (h : S.1 r ≠ 0) : (cmS S s f).1 r = S.1 r := by
  unfold cmS
  split
  · rename_i q
    exact zu_ne _ _ (fun e => h (by rw [e]; exact q))
  · rfl
theorem cmS_pre {S : cS} {s f i : Int} (hi : i < S.2.2) : (cmS S s f).2.1 i = S.2.1 i := by
  unfold cmS
  split
  · exact zu_ne _ _ (by omega)
  · rfl
theorem cmS_le {S : cS} {s f : Int} : S.2.2 ≤ (cmS S s f).2.2 := by
  unfold cmS
  split
  · show S.2.2 ≤ S.2.2 + 1
    omega
  · exact Int.le_refl _
theorem cmS_BI {pe : Int} {S : cS} {s f : Int} (h : BI pe S) (hs : 0 ≤ s ∧ s < 10000 * pe) (hf : 1 ≤ f ∧ f ≤ 9) : BI pe (cmS S s f) := by
  by_cases q : S.1 s = 0
  · have e : cmS S s f = (zu S.1 s f, zu S.2.1 S.2.2 s, S.2.2 + 1) := by unfold cmS; rw [if_pos q]
    rw [e]
    obtain ⟨h1, h2, h3, h4⟩ := h
    refine ⟨by show 0 ≤ S.2.2 + 1; omega, fun i hi0 hi1 => ?_, fun i j hi0 hij hj => ?_, fun r => ?_⟩
    · show 0 ≤ zu S.2.1 S.2.2 s i ∧ zu S.2.1 S.2.2 s i < 10000 * pe ∧ zu S.1 s f (zu S.2.1 S.2.2 s i) ≠ 0
      by_cases e2 : i = S.2.2
      · rw [e2, zu_eq, zu_eq]
        omega
      · have hi1 : i < S.2.2 + 1 := hi1
        have a := h2 i hi0 (by omega)
        rw [zu_ne _ _ e2]
        have n : S.2.1 i ≠ s := fun z => a.2.2 (by rw [z]; exact q)
        rw [zu_ne _ _ n]
        exact a
    · show zu S.2.1 S.2.2 s i ≠ zu S.2.1 S.2.2 s j
      have hj : j < S.2.2 + 1 := hj
      rw [zu_ne _ _ (show i ≠ S.2.2 by omega)]
      by_cases e2 : j = S.2.2
      · rw [e2, zu_eq]
        exact fun z => (h2 i hi0 (by omega)).2.2 (by rw [z]; exact q)
      · rw [zu_ne _ _ e2]
        exact h3 i j hi0 hij (by omega)
    · show 0 ≤ zu S.1 s f r ∧ zu S.1 s f r ≤ 9
      rw [zu_at]
      split
      · omega
      · exact h4 r
  · have e : cmS S s f = S := by unfold cmS; rw [if_neg q]
    rw [e]
    exact h
/-- all of it through the telling of one -/
theorem toS_all {G kd kn : Int → Int} (hG : ∀ v, 0 ≤ G v ∧ G v ≤ 9999) {pe fl s : Int} {S : cS} (hp8 : pe ≤ 8) (h : BI pe S) (hs : S.1 s ≠ 0) : ∀ k : Nat, (k : Int) ≤ pe → BI pe (toS G kd kn fl s k S) ∧ (∀ r, S.1 r ≠ 0 → (toS G kd kn fl s k S).1 r = S.1 r) ∧ (∀ i, i < S.2.2 → (toS G kd kn fl s k S).2.1 i = S.2.1 i) ∧ S.2.2 ≤ (toS G kd kn fl s k S).2.2
  | 0, _ => ⟨h, fun _ _ => rfl, fun _ _ => rfl, Int.le_refl _⟩
  | k + 1, hk => by
    obtain ⟨i1, i2, i3, i4⟩ := toS_all hG (kd := kd) (kn := kn) (fl := fl) hp8 h hs k (by omega)
    rw [toS]
    split
    · have ht := tb_rng hG (k := kd (s / 10000)) (v := s % 10000) (by omega)
      have hf := i1.2.2.2 s
      have hne := i2 s hs
      have hS := h.2.2.2 s
      refine ⟨cmS_BI i1 (by omega) (by split <;> omega), fun r hr => ?_, fun i hi => ?_, Int.le_trans i4 cmS_le⟩
      · rw [cmS_keep (by rw [i2 r hr]; exact hr)]
        exact i2 r hr
      · rw [cmS_pre (by omega)]
        exact i3 i hi
    · exact ⟨i1, i2, i3, i4⟩
/-- what is met by somebody stays as it is when the others are told -/
theorem toS_more {G kd kn : Int → Int} {fl s : Int} {S : cS} {r : Int} (k : Nat) : ∀ d : Nat, (toS G kd kn fl s k S).1 r ≠ 0 → (toS G kd kn fl s (k + d) S).1 r = (toS G kd kn fl s k S).1 r
  | 0, _ => rfl
  | d + 1, h => by
    have ih := toS_more (G := G) (kd := kd) (kn := kn) (fl := fl) (s := s) (S := S) (r := r) k d h
    rw [show k + (d + 1) = (k + d) + 1 from rfl, toS]
    split
    · rw [cmS_keep (by rw [ih]; exact h)]
      exact ih
    · exact ih
theorem enS_all {G kd kn : Int → Int} (hG : ∀ v, 0 ≤ G v ∧ G v ≤ 9999) {pe fl k0 : Int} {S : cS} (hpe : 0 ≤ pe ∧ pe ≤ 8) (hk0 : 0 ≤ k0) (h : BI pe S) : ∀ j : Nat, k0 + j ≤ S.2.2 → BI pe (enS G kd kn pe fl k0 j S) ∧ (∀ r, S.1 r ≠ 0 → (enS G kd kn pe fl k0 j S).1 r = S.1 r) ∧ (∀ i, i < S.2.2 → (enS G kd kn pe fl k0 j S).2.1 i = S.2.1 i) ∧ S.2.2 ≤ (enS G kd kn pe fl k0 j S).2.2
  | 0, _ => ⟨h, fun _ _ => rfl, fun _ _ => rfl, Int.le_refl _⟩
  | j + 1, hj => by
    obtain ⟨i1, i2, i3, i4⟩ := enS_all hG (kd := kd) (kn := kn) (fl := fl) hpe hk0 h j (by omega)
    have hq := i3 (k0 + j) (by omega)
    have hs := i1.2.1 (k0 + j) (by omega) (by omega)
    obtain ⟨a1, a2, a3, a4⟩ := toS_all hG (kd := kd) (kn := kn) (fl := fl) hpe.2 i1 hs.2.2 pe.toNat (by omega)
    rw [enS]
    refine ⟨a1, fun r hr => ?_, fun i hi => ?_, Int.le_trans i4 a4⟩
    · rw [a2 r (by rw [i2 r hr]; exact hr)]
      exact i2 r hr
    · rw [a3 i (by omega)]
      exact i3 i hi
theorem enS_more {G kd kn : Int → Int} (hG : ∀ v, 0 ≤ G v ∧ G v ≤ 9999) {pe fl k0 : Int} {S : cS} (hpe : 0 ≤ pe ∧ pe ≤ 8) (hk0 : 0 ≤ k0) (h : BI pe S) {r : Int} (j : Nat) : ∀ d : Nat, k0 + j + d ≤ S.2.2 → (enS G kd kn pe fl k0 j S).1 r ≠ 0 → (enS G kd kn pe fl k0 (j + d) S).1 r = (enS G kd kn pe fl k0 j S).1 r
  | 0, _, _ => rfl
  | d + 1, hd, hr => by
    have ih := enS_more hG (kd := kd) (kn := kn) (fl := fl) hpe hk0 h (r := r) j d (by omega) hr
    obtain ⟨i1, i2, i3, i4⟩ := enS_all hG (kd := kd) (kn := kn) (fl := fl) hpe hk0 h (j + d) (by omega)
    have hs := i1.2.1 (k0 + ((j + d : Nat) : Int)) (by omega) (by omega)
    have a := (toS_all hG (kd := kd) (kn := kn) (fl := fl) hpe.2 i1 hs.2.2 pe.toNat (by omega)).2.1
    rw [show j + (d + 1) = (j + d) + 1 from rfl, enS, a r (by rw [ih]; exact hr)]
    exact ih
theorem lvS_all {G kd kn : Int → Int} (hG : ∀ v, 0 ≤ G v ∧ G v ≤ 9999) {pe : Int} {S : cS} (hpe : 0 ≤ pe ∧ pe ≤ 8) (h : BI pe S) (h1 : S.2.2 = 1) : ∀ k : Nat, BI pe (lvS G kd kn pe S k).1 ∧ 0 ≤ (lvS G kd kn pe S k).2 ∧ (lvS G kd kn pe S k).2 ≤ (lvS G kd kn pe S k).1.2.2 ∧ 1 ≤ (lvS G kd kn pe S k).1.2.2 ∧ (1 ≤ k → 1 ≤ (lvS G kd kn pe S k).2)
  | 0 => ⟨h, Int.le_refl _, by show 0 ≤ S.2.2; omega, by show 1 ≤ S.2.2; omega, fun q => absurd q (by omega)⟩
  | k + 1 => by
    obtain ⟨i1, i2, i3, i4, -⟩ := lvS_all hG (kd := kd) (kn := kn) hpe h h1 k
    obtain ⟨a1, -, -, a4⟩ := enS_all hG (kd := kd) (kn := kn) (fl := if k = 0 then 1 else 0) hpe i2 i1 ((lvS G kd kn pe S k).1.2.2 - (lvS G kd kn pe S k).2).toNat (by omega)
    rw [lvS]
    exact ⟨a1, by show 0 ≤ (lvS G kd kn pe S k).1.2.2; omega, a4, Int.le_trans i4 a4, fun _ => i4⟩
/-- the program's line and its bits hold that -/
abbrev XR (mt ln : Int → Int) (inl : Int) (S : cS) : Prop := inl = S.2.2 ∧ (∀ s : Int, 0 ≤ s → s < 80000 → (mbit mt s = 1 ↔ S.1 s ≠ 0)) ∧ ∀ i : Int, 0 ≤ i → i < S.2.2 → ln i = (if i = 0 then 0 else S.1 (S.2.1 i) - 1) * 80000 + S.2.1 i
theorem XR_join {mt ln : Int → Int} {pe inl : Int} {S : cS} (hX : XR mt ln inl S) (hB : BI pe S) {s f f0 : Int} (hs : 0 ≤ s ∧ s < 80000) (h0 : S.1 s = 0) (hf : 1 ≤ f) (hff : S.2.2 = 0 ∧ f0 = 0 ∨ 1 ≤ S.2.2 ∧ f = f0 + 1) : XR (zu mt (s / 64) (jor (mt (s / 64)) (jshl 1 (s % 64)))) (zu ln inl (f0 * 80000 + s)) (inl + 1) (cmS S s f) := by
  have e : cmS S s f = (zu S.1 s f, zu S.2.1 S.2.2 s, S.2.2 + 1) := by unfold cmS; rw [if_pos h0]
  rw [e]
  obtain ⟨x1, x2, x3⟩ := hX
  have hB0 := hB.1
  refine ⟨by show inl + 1 = S.2.2 + 1; omega, fun r hr0 hr1 => ?_, fun i hi0 hi1 => ?_⟩
  · show mbit _ r = 1 ↔ zu S.1 s f r ≠ 0
    rw [mbit_set hs.1 hr0, x2 r hr0 hr1, zu_at]
    by_cases q : r = s
    · rw [if_pos q]
      exact ⟨fun _ => by omega, fun _ => Or.inl q⟩
    · rw [if_neg q]
      exact ⟨fun z => z.elim (fun y => absurd y q) id, fun z => Or.inr z⟩
  · show zu ln inl (f0 * 80000 + s) i = (if i = 0 then 0 else zu S.1 s f (zu S.2.1 S.2.2 s i) - 1) * 80000 + zu S.2.1 S.2.2 s i
    have hi1 : i < S.2.2 + 1 := hi1
    by_cases q : i = S.2.2
    · rw [x1, q, zu_eq, zu_eq, zu_eq]
      split <;> omega
    · rw [x1, zu_ne _ _ q, zu_ne _ _ q, x3 i hi0 (by omega)]
      have a := hB.2.1 i hi0 (by omega)
      rw [zu_ne _ _ (show S.2.1 i ≠ s from fun z => a.2.2 (by rw [z]; exact h0))]
noncomputable def cS0 (s : Int) : cS := cmS (fun _ => 0, fun _ => 0, 0) s 9
theorem cS0_eq (s : Int) : cS0 s = (zu (fun _ => 0) s 9, zu (fun _ => 0) 0 s, 1) := by
  unfold cS0 cmS
  rw [if_pos rfl]
  rfl
theorem cS0_BI {pe s : Int} (hs : 0 ≤ s ∧ s < 10000 * pe) : BI pe (cS0 s) := cmS_BI (S := (fun _ => 0, fun _ => 0, 0)) ⟨Int.le_refl _, fun i h0 h1 => absurd h1 (by show ¬ i < 0; omega), fun i j h0 h1 h2 => absurd h2 (by show ¬ j < 0; omega), fun _ => ⟨Int.le_refl _, by show (0 : Int) ≤ 9; omega⟩⟩ hs (by omega)
/-- what a search finds -/
abbrev CHR (G kd kn : Int → Int) (pe s g few tof : Int) : Prop := (s = g ∧ few = 0 ∧ tof = -1) ∨ (s ≠ g ∧ ((1 ≤ few ∧ few ≤ 20 ∧ (∀ j : Int, 0 ≤ j → j < few → (lvS G kd kn pe (cS0 s) j.toNat).1.1 g = 0) ∧ (lvS G kd kn pe (cS0 s) few.toNat).1.1 g ≠ 0 ∧ tof = (lvS G kd kn pe (cS0 s) few.toNat).1.1 g - 1) ∨ (few = -1 ∧ tof = -1 ∧ ∀ j : Int, 0 ≤ j → j ≤ 20 → (lvS G kd kn pe (cS0 s) j.toNat).1.1 g = 0)))
theorem CHR_one {G kd kn : Int → Int} {pe s g few tof few2 tof2 : Int} (h1 : CHR G kd kn pe s g few tof) (h2 : CHR G kd kn pe s g few2 tof2) : few = few2 ∧ tof = tof2 := by
  rcases h1 with ⟨a1, a2, a3⟩ | ⟨a0, ⟨a1, a2, a3, a4, a5⟩ | ⟨a1, a2, a3⟩⟩ <;> rcases h2 with ⟨b1, b2, b3⟩ | ⟨b0, ⟨b1, b2, b3, b4, b5⟩ | ⟨b1, b2, b3⟩⟩
  · omega
  · exact absurd a1 b0
  · exact absurd a1 b0
  · exact absurd b1 a0
  · have e : few = few2 := by
      rcases (show few < few2 ∨ few = few2 ∨ few2 < few by omega) with q | q | q
      · exact absurd (b3 few (by omega) q) a4
      · exact q
      · exact absurd (a3 few2 (by omega) q) b4
    subst e
    exact ⟨rfl, by rw [a5, b5]⟩
  · exact absurd (b3 few (by omega) (by omega)) a4
  · exact absurd b1 a0
  · exact absurd (a3 few2 (by omega) (by omega)) b4
  · omega
