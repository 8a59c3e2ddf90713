/-! what holds between the program's cells and the model's, behind every call -/
def lP (n : Int) (pg : Int → Int) : Prop := (0 ≤ n ∧ n ≤ 50) ∧ ∀ j, 0 ≤ pg j ∧ pg j ≤ 126
def lL (so mu : Int → Int) (st : Int) : Prop := (∀ j, (0 ≤ so j ∧ so j ≤ 4) ∧ (0 ≤ mu j ∧ mu j ≤ 9) ∧ (so j = 4 → 2 ≤ mu j)) ∧ 1 ≤ st ∧ st ≤ 4
def lW (tt to te tw : Int → Int) (tn : Int) : Prop := (0 ≤ tn ∧ tn ≤ 16) ∧ (∀ j, 0 ≤ tt j ∧ tt j ≤ 7) ∧ (∀ j, 0 ≤ to j ∧ to j ≤ 7) ∧ (∀ j, 0 ≤ te j ∧ te j ≤ 7) ∧ (∀ j, 0 ≤ tw j ∧ tw j ≤ 7) ∧ (∀ j, 0 ≤ j → j < tn → tt j ≠ to j) ∧ twq tn tt te to tw
def lF (kd ki kn wi ss se kd2 kn2 wi2 ss2 kw ks : Int → Int) (pe pe2 him : Int) : Prop :=
  (0 ≤ pe ∧ pe ≤ 8) ∧ (∀ j, 0 ≤ kd j ∧ kd j ≤ 3) ∧ (∀ j, 0 ≤ ki j ∧ ki j ≤ 3) ∧ kdq pe kd ki ∧ (∀ j, -2147483648 ≤ kn j ∧ kn j < 2147483648) ∧ (∀ j, pe ≤ j → kn j = 0) ∧ (∀ j, -1 ≤ wi j ∧ wi j < pe) ∧ (∀ j, 0 ≤ ss j ∧ ss j ≤ 9999) ∧ (∀ j, 0 ≤ se j ∧ se j ≤ 9999) ∧ (∀ j, wi j ≠ -1 → ss j = se j) ∧ (him = 0 ∨ him = 1) ∧ (∀ j, 0 ≤ kd2 j ∧ kd2 j ≤ 3) ∧ (∀ j, -2147483648 ≤ kn2 j ∧ kn2 j < 2147483648) ∧ (∀ j, 0 ≤ ss2 j ∧ ss2 j ≤ 9999) ∧ (∀ j, 0 ≤ ks j ∧ ks j ≤ 9999) ∧ (him = 1 → (0 ≤ pe2 ∧ pe2 ≤ pe) ∧ kdq pe2 kd2 ki ∧ (∀ j, pe2 ≤ j → kn2 j = 0) ∧ kw = wi2 ∧ (∀ j, -1 ≤ wi2 j ∧ wi2 j < pe2) ∧ ∀ j, wi2 j ≠ -1 → ss2 j = ks j)
def lC (rd wr dn i : Int) : Prop := (0 ≤ rd ∧ rd ≤ i) ∧ (0 ≤ wr ∧ wr ≤ i) ∧ 0 ≤ dn ∧ dn ≤ 30
theorem lC_up {rd wr dn i k : Int} (h : lC rd wr dn i) (hk : i ≤ k) : lC rd wr dn k := ⟨⟨h.1.1, by have := h.1.2; omega⟩, ⟨h.2.1.1, by have := h.2.1.2; omega⟩, h.2.2⟩
theorem zu_all2 {P : Int → Prop} {g : Int → Int} {i v : Int} (hg : ∀ j, P (g j)) (hv : P v) : ∀ j, P (zu g i v j) := zu_all hg hv
theorem cntB_rng (w : Int) : ∀ k : Nat, 0 ≤ cntB w k ∧ cntB w k ≤ k
  | 0 => by rw [cntB]; omega
  | k + 1 => by
    have := cntB_rng w k
    rw [cntB]
    split <;> omega
theorem lP_letters {n w0 : Int} {pg : Int → Int} (h : lP n pg) (hok : okB w0 8) (hn : n + cntB w0 8 ≤ 50) : lP (n + cntB w0 8) (apg w0 pg n (cntB w0 8)) := by
  have hc := cntB_rng w0 8
  refine ⟨⟨by have := h.1.1; omega, hn⟩, fun j => ?_⟩
  unfold apg
  split
  · have h1 := (hok (j - n) (by omega) (by omega)).1
    have h2 := byt_rng w0 (j - n)
    omega
  · exact h.2 j
theorem lP_0 {n : Int} {pg : Int → Int} (h : lP n pg) : lP 0 pg := ⟨by omega, h.2⟩
theorem lL_law {n : Int} {pg so mu : Int → Int} (hn : 0 ≤ n) (h : WL n pg) (hs : ∀ j, (0 ≤ so j ∧ so j ≤ 4) ∧ (0 ≤ mu j ∧ mu j ≤ 9) ∧ (so j = 4 → 2 ≤ mu j)) : lL so mu (cntO pg n.toNat) := ⟨hs, cntO_pos h.1 h.2.1, (cntO_le hn h.2.1).2⟩
theorem law_made {n v : Int} {pg so mu : Int → Int} (hn : 0 ≤ n) (h : WL n pg) (hs : ∀ j, 0 ≤ j → j < cntO pg n.toNat → so j = soP pg n j ∧ mu j = muP pg n j) (hv : 0 ≤ v ∧ v ≤ 9999) : groX (sgP pg n) (dgP pg n) (cntO pg n.toNat).toNat v = gro so mu (cntO pg n.toNat).toNat v := by
  have h0 := cntO_pos h.1 h.2.1
  rw [(groX_gro h hv _ (by omega)).1]
  exact (gro_cg hs v _ (by omega)).symm
theorem lW_week {n : Int} {pg tt to te tw : Int → Int} (hn : 0 ≤ n) (h : WW n pg) (h1 : ∀ k, 0 ≤ k → k < (n + 1) / 3 → tt k = pg (3 * k) - 48 ∧ to k = pg (3 * k + 1) - 48) (h2 : ∀ k, 0 ≤ k → k < (n + 1) / 3 → te k = pg (3 * k) - 48 ∧ tw k = pg (3 * k + 1) - 48) (a1 : ∀ j, 0 ≤ tt j ∧ tt j ≤ 7) (a2 : ∀ j, 0 ≤ to j ∧ to j ≤ 7) (a3 : ∀ j, 0 ≤ te j ∧ te j ≤ 7) (a4 : ∀ j, 0 ≤ tw j ∧ tw j ≤ 7) : lW tt to te tw ((n + 1) / 3) := by
  have hl := WW_le h hn
  have hm := h.2
  refine ⟨by omega, a1, a2, a3, a4, fun j h0 hj => ?_, fun j h0 hj => ?_⟩
  · have q := WW_at h (k := j) h0 (by omega)
    have q1 := h1 j h0 hj
    have q2 := q.2.2
    omega
  · have q1 := h1 j h0 hj
    have q2 := h2 j h0 hj
    omega
theorem lF_person {kd ki kn wi ss se kd2 kn2 wi2 ss2 kw ks : Int → Int} {pe pe2 him k : Int} (h : lF kd ki kn wi ss se kd2 kn2 wi2 ss2 kw ks pe pe2 him) (hp : pe < 8) (hk : 0 ≤ k ∧ k ≤ 3) : lF (zu kd pe k) (zu ki pe k) kn wi ss se kd2 kn2 wi2 ss2 kw ks (pe + 1) pe2 him := by
  obtain ⟨h1, h2, h3, h4, h5, h6, h7, h8, h9, h10, h11, h12, h13, h14, h15, h16⟩ := h
  refine ⟨by omega, zu_all (P := fun z => 0 ≤ z ∧ z ≤ 3) h2 hk, zu_all (P := fun z => 0 ≤ z ∧ z ≤ 3) h3 hk, fun j a b => ?_, h5, fun j a => h6 j (by omega), fun j => ⟨(h7 j).1, by have := (h7 j).2; omega⟩, h8, h9, h10, h11, h12, h13, h14, h15, fun q => ?_⟩
  · rw [zu_at, zu_at]
    split
    · rfl
    · exact h4 j a (by omega)
  · obtain ⟨g1, g2, g3⟩ := h16 q
    refine ⟨by omega, fun j a b => ?_, g3⟩
    rw [zu_ne _ _ (by omega)]
    exact g2 j a b
theorem lF_kn {kd ki kn wi ss se kd2 kn2 wi2 ss2 kw ks : Int → Int} {pe pe2 him q v : Int} (h : lF kd ki kn wi ss se kd2 kn2 wi2 ss2 kw ks pe pe2 him) (hq : q < pe) (hv : -2147483648 ≤ v ∧ v < 2147483648) : lF kd ki (zu kn q v) wi ss se kd2 kn2 wi2 ss2 kw ks pe pe2 him := by
  obtain ⟨h1, h2, h3, h4, h5, h6, hr⟩ := h
  exact ⟨h1, h2, h3, h4, zu_all (P := fun z => -2147483648 ≤ z ∧ z < 2147483648) h5 hv, fun j a => by rw [zu_ne _ _ (by omega)]; exact h6 j a, hr⟩
theorem lF_see {kd ki kn wi ss se kd2 kn2 wi2 ss2 kw ks : Int → Int} {pe pe2 him t q x : Int} (h : lF kd ki kn wi ss se kd2 kn2 wi2 ss2 kw ks pe pe2 him) (hq : 0 ≤ q ∧ q < pe) (hx : 0 ≤ x ∧ x ≤ 9999) : lF kd ki kn (zu wi t q) (zu ss t x) (zu se t x) kd2 kn2 wi2 ss2 kw ks pe pe2 him := by
  obtain ⟨h1, h2, h3, h4, h5, h6, h7, h8, h9, h10, hr⟩ := h
  refine ⟨h1, h2, h3, h4, h5, h6, zu_all (P := fun z => -1 ≤ z ∧ z < pe) h7 (by omega), zu_all (P := fun z => 0 ≤ z ∧ z ≤ 9999) h8 hx, zu_all (P := fun z => 0 ≤ z ∧ z ≤ 9999) h9 hx, fun j => ?_, hr⟩
  rw [zu_at, zu_at, zu_at]
  split
  · exact fun _ => rfl
  · exact h10 j
theorem lF_drop {kd ki kn wi ss se kd2 kn2 wi2 ss2 kw ks : Int → Int} {pe pe2 him t : Int} (h : lF kd ki kn wi ss se kd2 kn2 wi2 ss2 kw ks pe pe2 him) : lF kd ki kn (zu wi t (-1)) (zu ss t 0) se kd2 kn2 wi2 ss2 kw ks pe pe2 him := by
  obtain ⟨h1, h2, h3, h4, h5, h6, h7, h8, h9, h10, hr⟩ := h
  refine ⟨h1, h2, h3, h4, h5, h6, zu_all (P := fun z => -1 ≤ z ∧ z < pe) h7 (by omega), zu_all (P := fun z => 0 ≤ z ∧ z ≤ 9999) h8 (by omega), h9, fun j => ?_, hr⟩
  rw [zu_at, zu_at]
  split
  · exact fun q => absurd rfl q
  · exact h10 j
theorem lF_image {kd ki kn wi ss se kd2 kn2 wi2 ss2 kw ks : Int → Int} {pe pe2 him : Int} (h : lF kd ki kn wi ss se kd2 kn2 wi2 ss2 kw ks pe pe2 him) : lF kd ki kn wi ss se kd kn wi ss wi se pe pe 1 := by
  obtain ⟨h1, h2, h3, h4, h5, h6, h7, h8, h9, h10, hr⟩ := h
  exact ⟨h1, h2, h3, h4, h5, h6, h7, h8, h9, h10, Or.inr rfl, h2, h5, h8, h9, fun _ => ⟨⟨h1.1, Int.le_refl _⟩, h4, h6, rfl, h7, h10⟩⟩
theorem lF_restore {kd ki kn wi ss se kd2 kn2 wi2 ss2 kw ks : Int → Int} {pe pe2 him : Int} (h : lF kd ki kn wi ss se kd2 kn2 wi2 ss2 kw ks pe pe2 him) (hh : him = 1) : lF kd2 ki kn2 wi2 ss2 ks kd2 kn2 wi2 ss2 kw ks pe2 pe2 him := by
  obtain ⟨h1, h2, h3, h4, h5, h6, h7, h8, h9, h10, h11, h12, h13, h14, h15, h16⟩ := h
  obtain ⟨g1, g2, g3, g4, g5, g6⟩ := h16 hh
  exact ⟨by omega, h12, h3, g2, h13, g3, g5, h14, h15, g6, h11, h12, h13, h14, h15, fun _ => ⟨⟨g1.1, Int.le_refl _⟩, g2, g3, g4, g5, g6⟩⟩
theorem lF_0 : lF (fun _ => 0) (fun _ => 0) (fun _ => 0) (fun _ => -1) (fun _ => 0) (fun _ => 0) (fun _ => 0) (fun _ => 0) (fun _ => -1) (fun _ => 0) (fun _ => 0) (fun _ => 0) 0 0 0 := by
  refine ⟨by omega, fun _ => ?_, fun _ => ?_, fun _ _ _ => rfl, fun _ => ?_, fun _ _ => rfl, fun _ => ?_, fun _ => ?_, fun _ => ?_, fun _ _ => rfl, Or.inl rfl, fun _ => ?_, fun _ => ?_, fun _ => ?_, fun _ => ?_, fun q => absurd q (by decide)⟩ <;> (dsimp only; omega)
/-! what each call answers, alike -/
theorem eq_ask {G kd ki : Int → Int} (hG : ∀ v, 0 ≤ G v ∧ G v ≤ 9999) (hm : ∀ u v, 0 ≤ u → u ≤ v → v ≤ 9999 → G u ≤ G v) {pe tn : Int} {tt to te tw : Int → Int} (hk : kdq pe kd ki) (ht : twq tn tt te to tw) (h0 : ∀ j, 0 ≤ tt j ∧ tt j ≤ 7) (hn : 0 ≤ tn) (u j : Int) : rmA (hasB G kd pe tt to tn u j) 99 = mst (hasB G ki pe te tw tn u j) 99 (99 : Int).toNat := by
  rw [hasB_cg hk ht (fun q => (h0 q).1) hn]
  exact rmA_mst (n := 99) (fun a b h1 h2 h3 => hasB_mono hG hm (by omega) h2 (by omega))
theorem eq_dgs {G kd ki : Int → Int} (hG : ∀ v, 0 ≤ G v ∧ G v ≤ 9999) (hm : ∀ u v, 0 ≤ u → u ≤ v → v ≤ 9999 → G u ≤ G v) {pe tn lk n : Int} {tt to te tw wi ss se pg cf : Int → Int} (hpe : 0 ≤ pe) (hk : kdq pe kd ki) (ht : twq tn tt te to tw) (h0 : ∀ j, 0 ≤ tt j ∧ tt j ≤ 7) (hn : 0 ≤ tn) (hs : ∀ j, wi j ≠ -1 → ss j = se j) :
    dgs G tt to kd (fun p => tb G (kd p) 10) (fun p t => wkB G kd pe tt to (bgn (wi t) (ss t)) tn.toNat p) (fun p t => wkF G kd pe tt to (bgn (wi t) (ss t)) (fun _ => -1) tn.toNat p) tn pe (onS (fun k q u => hasB G kd pe tt to tn k q u) 0 3 1 4 pe.toNat) (fun u => (asP (fun j => rmA (hasB G kd pe tt to tn u j) 99) u pe.toNat).1) lk pg n cf
    = dgs G te tw ki (fun p => tb G (ki p) 10) (fun p t => wkB G ki pe te tw (bgn (wi t) (se t)) tn.toNat p) (fun p t => wkF G ki pe te tw (bgn (wi t) (se t)) (fun _ => -1) tn.toNat p) tn pe (onS (fun k q u => hasB G ki pe te tw tn k q u) 0 3 1 4 pe.toNat) (fun u => (asP (fun j => mst (hasB G ki pe te tw tn u j) 99 (99 : Int).toNat) u pe.toNat).1) lk pg n cf := by
  have z0 : ∀ j, 0 ≤ tt j := fun q => (h0 q).1
  have e1 : (fun p t => wkB G kd pe tt to (bgn (wi t) (ss t)) tn.toNat p) = fun p t => wkB G ki pe te tw (bgn (wi t) (se t)) tn.toNat p := by
    funext p t
    rw [wkB_cg hk ht z0 _ _ (by omega), bgn_cg (hs t)]
  have e2 : (fun p t => wkF G kd pe tt to (bgn (wi t) (ss t)) (fun _ => -1) tn.toNat p) = fun p t => wkF G ki pe te tw (bgn (wi t) (se t)) (fun _ => -1) tn.toNat p := by
    funext p t
    rw [wkF_cg hk ht z0 _ _ _ (by omega), bgn_cg (hs t)]
  have e3 : (fun u => (asP (fun j => rmA (hasB G kd pe tt to tn u j) 99) u pe.toNat).1) = fun u => (asP (fun j => mst (hasB G ki pe te tw tn u j) 99 (99 : Int).toNat) u pe.toNat).1 := by
    funext u
    rw [show (fun j => rmA (hasB G kd pe tt to tn u j) 99) = fun j => mst (hasB G ki pe te tw tn u j) 99 (99 : Int).toNat from funext (fun j => eq_ask hG hm hk ht h0 hn u j)]
  have e4 : (fun k q u => hasB G kd pe tt to tn k q u) = fun k q u => hasB G ki pe te tw tn k q u := by rw [hasB_cg hk ht z0 hn]
  rw [e1, e2, e3, e4]
  unfold dgs
  rw [dT_cg ht _ tn.toNat (by omega), dP_cg hk (fun j a b => by show tb G (kd j) 10 = tb G (ki j) 10; rw [hk j a b]) _ pe.toNat (by omega)]
theorem kand_01 (q : Int) : kand q 1 = 0 ∨ kand q 1 = 1 := by
  unfold kand
  have e : (iZ q &&& iZ 1).toBitVec.toNat = (iZ q).toBitVec.toNat % 2 := by
    rw [Int32.toBitVec_and, BitVec.toNat_and, show (iZ 1).toBitVec.toNat = 2 ^ 1 - 1 from rfl, Nat.and_two_pow_sub_one_eq_mod]
  have h : (iZ q &&& iZ 1).toInt = ((iZ q &&& iZ 1).toBitVec.toNat : Int) := by
    show (iZ q &&& iZ 1).toBitVec.toInt = _
    rw [BitVec.toInt_eq_toNat_of_lt (by omega)]
  omega
