/-! the law by letters is the law by numbers; bigger stays bigger -/
theorem cap_eq (y : Int) : cap y = max 0 (min 9999 y) := by
  unfold cap
  split
  · omega
  · split <;> omega
theorem stp_0 {s d v : Int} (h : s = 0) : stp s d v = v + v / 2 := by unfold stp; rw [if_pos h]
theorem stp_1 {s d v : Int} (h : s = 1) : stp s d v = 2 * v := by unfold stp; rw [if_neg (by omega), if_pos h]
theorem stp_2 {s d v : Int} (h : s = 2) : stp s d v = v + d := by unfold stp; rw [if_neg (by omega), if_neg (by omega), if_pos h]
theorem stp_3 {s d v : Int} (h : s = 3) : stp s d v = v - d := by unfold stp; rw [if_neg (by omega), if_neg (by omega), if_neg (by omega), if_pos h]
theorem stp_4 {s d v : Int} (h : s = 4) : stp s d v = v / d := by unfold stp; rw [if_neg (by omega), if_neg (by omega), if_neg (by omega), if_neg (by omega)]
theorem stp_eq {ch d v : Int} (ho : opn ch) (hd : wnt ch → (if ch = 47 then 2 else 0) ≤ d ∧ d ≤ 9) (hv : 0 ≤ v ∧ v ≤ 9999) : min 9999 (stpX ch d v) = cap (stp (sbf ch) (if wnt ch then d else 0) v) := by
  rw [cap_eq]
  rcases ho with h | h | h | h | h
  · have e1 : stpX ch d v = v + v / 2 := by unfold stpX; rw [if_neg (by omega), if_neg (by omega), if_neg (by omega), if_pos h]
    have e2 : sbf ch = 0 := by unfold sbf; rw [if_pos h]
    rw [e1, stp_0 e2]
    omega
  · have e1 : stpX ch d v = 2 * v := by unfold stpX; rw [if_neg (by omega), if_neg (by omega), if_pos h]
    have e2 : sbf ch = 1 := by unfold sbf; rw [if_neg (by omega), if_pos h]
    rw [e1, stp_1 e2]
    omega
  · have hd2 := hd (by omega)
    rw [if_neg (show ¬ ch = 47 by omega)] at hd2
    have e1 : stpX ch d v = v + d := by unfold stpX; rw [if_pos h]
    have e2 : sbf ch = 2 := by unfold sbf; rw [if_neg (by omega), if_neg (by omega), if_pos h]
    rw [e1, stp_2 e2, if_pos (show wnt ch by omega)]
    omega
  · have hd2 := hd (by omega)
    rw [if_neg (show ¬ ch = 47 by omega)] at hd2
    have e1 : stpX ch d v = max 0 (v - d) := by unfold stpX; rw [if_neg (by omega), if_pos h]
    have e2 : sbf ch = 3 := by unfold sbf; rw [if_neg (by omega), if_neg (by omega), if_neg (by omega), if_pos h]
    rw [e1, stp_3 e2, if_pos (show wnt ch by omega)]
    omega
  · have hd2 := hd (by omega)
    rw [if_pos h] at hd2
    have e1 : stpX ch d v = v / d := by unfold stpX; rw [if_neg (by omega), if_neg (by omega), if_neg (by omega), if_neg (by omega), if_pos (by omega)]
    have e2 : sbf ch = 4 := by unfold sbf; rw [if_neg (by omega), if_neg (by omega), if_neg (by omega), if_neg (by omega), if_pos h]
    rw [e1, stp_4 e2, if_pos (show wnt ch by omega)]
    have h1 := z_divle (a := v) (b := d) hv.1 (by omega)
    generalize v / d = y at h1
    omega
theorem groX_gro {pg : Int → Int} {n : Int} (h : WL n pg) {v : Int} (hv : 0 ≤ v ∧ v ≤ 9999) : ∀ k : Nat, (k : Int) ≤ cntO pg n.toNat → groX (sgP pg n) (dgP pg n) k v = gro (soP pg n) (muP pg n) k v ∧ 0 ≤ groX (sgP pg n) (dgP pg n) k v ∧ groX (sgP pg n) (dgP pg n) k v ≤ 9999
  | 0, _ => ⟨rfl, hv⟩
  | k + 1, hk => by
    obtain ⟨ih, i1⟩ := groX_gro h hv k (by omega)
    have ho := (opp_in (pg := pg) n.toNat (k : Int) (by omega) (by omega)).2.2
    have hd : wnt (pg (opp pg n.toNat k)) → (if pg (opp pg n.toNat k) = 47 then 2 else 0) ≤ dgP pg n k ∧ dgP pg n k ≤ 9 := by
      intro hw
      have h4 := dg_in h (j := (k : Int)) (by omega) (by omega) hw
      have h5 := h4.2.2
      unfold dgP
      rw [lat_in (by omega)]
      unfold dgt at h5
      split at h5
      · rename_i q; rw [if_pos q]; omega
      · rename_i q; rw [if_neg q]; omega
    have e := stp_eq ho hd i1
    have e2 : (if wnt (pg (opp pg n.toNat k)) then dgP pg n k else 0) = muP pg n k := by
      unfold muP muQ dgP
      rfl
    have e3 : groX (sgP pg n) (dgP pg n) (k + 1) v = min 9999 (stpX (pg (opp pg n.toNat k)) (dgP pg n k) (groX (sgP pg n) (dgP pg n) k v)) := by rw [groX]; rfl
    have e4 : gro (soP pg n) (muP pg n) (k + 1) v = cap (stp (sbf (pg (opp pg n.toNat k))) (muP pg n k) (gro (soP pg n) (muP pg n) k v)) := by rw [gro]; rfl
    have e5 : groX (sgP pg n) (dgP pg n) (k + 1) v = gro (soP pg n) (muP pg n) (k + 1) v := by rw [e3, e4, e, e2, ih]
    have hc := cap_rng (stp (sbf (pg (opp pg n.toNat k))) (muP pg n k) (gro (soP pg n) (muP pg n) k v))
    rw [← e4] at hc
    rw [e5]
    exact ⟨rfl, hc⟩
theorem gro_cg {so mu so2 mu2 : Int → Int} {st : Int} (h : ∀ j, 0 ≤ j → j < st → so j = so2 j ∧ mu j = mu2 j) (v : Int) : ∀ k : Nat, (k : Int) ≤ st → gro so mu k v = gro so2 mu2 k v
  | 0, _ => rfl
  | k + 1, hk => by rw [gro, gro, gro_cg h v k (by omega), (h k (by omega) (by omega)).1, (h k (by omega) (by omega)).2]
abbrev suP (so mu : Int → Int) : Prop := ∀ j, (0 ≤ so j ∧ so j ≤ 4) ∧ (0 ≤ mu j ∧ mu j ≤ 9) ∧ (so j = 4 → 2 ≤ mu j)
theorem gro_mono {so mu : Int → Int} (h : suP so mu) {u v : Int} (hu : 0 ≤ u) (huv : u ≤ v) (hv : v ≤ 9999) : ∀ k : Nat, 0 ≤ gro so mu k u ∧ gro so mu k u ≤ gro so mu k v ∧ gro so mu k v ≤ 9999
  | 0 => ⟨hu, huv, hv⟩
  | k + 1 => by
    obtain ⟨a, b, d⟩ := gro_mono h hu huv hv k
    rw [gro, gro]
    have hs := h k
    have r1 := cap_rng (stp (so k) (mu k) (gro so mu k u))
    have r2 := cap_rng (stp (so k) (mu k) (gro so mu k v))
    refine ⟨r1.1, ?_, r2.2⟩
    have key : stp (so k) (mu k) (gro so mu k u) ≤ stp (so k) (mu k) (gro so mu k v) := by
      generalize gro so mu k u = x at a b
      generalize gro so mu k v = y at b d
      rcases (show so k = 0 ∨ so k = 1 ∨ so k = 2 ∨ so k = 3 ∨ so k = 4 by omega) with q | q | q | q | q
      · rw [stp_0 q, stp_0 q]; omega
      · rw [stp_1 q, stp_1 q]; omega
      · rw [stp_2 q, stp_2 q]; omega
      · rw [stp_3 q, stp_3 q]; omega
      · rw [stp_4 q, stp_4 q]
        exact Int.ediv_le_ediv (by have := hs.2.2 q; omega) b
    rw [cap_eq, cap_eq]
    omega
theorem gro_hmn {so mu : Int → Int} (h : suP so mu) (st : Int) : ∀ u v, 0 ≤ u → u ≤ v → v ≤ 9999 → gro so mu st.toNat u ≤ gro so mu st.toNat v := fun _ _ h0 h1 h2 => (gro_mono h h0 h1 h2 _).2.1
/-! the longest run is the greatest class, where nothing shrinks -/
theorem alk_cg {f : Int → Int} {x y : Int} (h : f x = f y) : ∀ k : Nat, alk f x k = alk f y k
  | 0 => rfl
  | k + 1 => by rw [alk, alk, alk_cg h k, h]
theorem alk_0 {f : Int → Int} {x : Int} : ∀ k : Nat, (∀ j : Int, 1 ≤ j → j ≤ k → f x ≠ f j) → alk f x k = 0
  | 0, _ => rfl
  | k + 1, h => by
    rw [alk, alk_0 k (fun j h0 h1 => h j h0 (by omega)), if_neg (h ((k : Int) + 1) (by omega) (by omega))]
    omega
theorem rrA_alk {f : Int → Int} {n : Nat} (hm : ∀ u v : Int, 1 ≤ u → u ≤ v → v ≤ n → f u ≤ f v) : ∀ k : Nat, k + 1 ≤ n → rrA f (k + 1) = alk f ((k : Int) + 1) (k + 1)
  | 0, _ => by
    rw [rrA, alk, alk, if_pos rfl, rrA]
    split <;> rfl
  | k + 1, hk => by
    have ih := rrA_alk hm k (by omega)
    have e0 : (((k + 1 : Nat) : Int)) = (k : Int) + 1 := by omega
    rw [rrA, alk, if_pos rfl, ih, rlA, e0]
    by_cases q : f ((k : Int) + 1 + 1) = f ((k : Int) + 1)
    · rw [if_pos q, alk_cg q]
    · rw [if_neg q, alk_0]
      · omega
      · intro j h0 h1 h2
        have a := hm j ((k : Int) + 1) h0 (by omega) (by omega)
        have b := hm ((k : Int) + 1) ((k : Int) + 1 + 1) (by omega) (by omega) (by omega)
        omega
theorem alk_le (f : Int → Int) (x : Int) (k : Nat) : ∀ d : Nat, alk f x k ≤ alk f x (k + d)
  | 0 => Int.le_refl _
  | d + 1 => by
    have ih := alk_le f x k d
    rw [show k + (d + 1) = (k + d) + 1 from rfl, alk]
    split <;> omega
theorem rmA_le {f : Int → Int} {n : Nat} (hm : ∀ u v : Int, 1 ≤ u → u ≤ v → v ≤ n → f u ≤ f v) : ∀ k : Nat, k ≤ n → rmA f k ≤ mst f n k
  | 0, _ => by rw [rmA, mst]; omega
  | k + 1, hk => by
    have ih := rmA_le hm k (by omega)
    have e := rrA_alk hm k hk
    have a := alk_le f ((k : Int) + 1) (k + 1) (n - (k + 1))
    rw [show k + 1 + (n - (k + 1)) = n from by omega] at a
    rw [rmA, mst, e]
    omega
theorem alk_rm {f : Int → Int} {n : Nat} (hm : ∀ u v : Int, 1 ≤ u → u ≤ v → v ≤ n → f u ≤ f v) (x : Nat) : ∀ d : Nat, x + 1 + d ≤ n → alk f ((x : Int) + 1) (x + 1 + d) ≤ rmA f (x + 1 + d)
  | 0, h => by
    have e := rrA_alk hm x (by omega)
    show alk f ((x : Int) + 1) (x + 1) ≤ rmA f (x + 1)
    rw [rmA, e]
    omega
  | d + 1, h => by
    have ih := alk_rm hm x d (by omega)
    have e0 : (((x + 1 + d : Nat) : Int)) = (x : Int) + 1 + d := by omega
    show alk f ((x : Int) + 1) ((x + 1 + d) + 1) ≤ rmA f ((x + 1 + d) + 1)
    rw [rmA]
    by_cases q : f ((x : Int) + 1) = f (((x + 1 + d : Nat) : Int) + 1)
    · have e := rrA_alk hm (x + 1 + d) (by omega)
      rw [alk_cg q, ← e]
      omega
    · rw [alk, if_neg q]
      omega
theorem mst_le {f : Int → Int} {n : Nat} (hm : ∀ u v : Int, 1 ≤ u → u ≤ v → v ≤ n → f u ≤ f v) : ∀ k : Nat, k ≤ n → mst f n k ≤ rmA f n
  | 0, _ => by
    have := rmA_rng f n
    rw [mst]; omega
  | k + 1, hk => by
    have ih := mst_le hm k (by omega)
    have a := alk_rm hm k (n - (k + 1)) (by omega)
    rw [show k + 1 + (n - (k + 1)) = n from by omega] at a
    rw [mst]
    omega
theorem rmA_mst {f : Int → Int} {n : Nat} (hm : ∀ u v : Int, 1 ≤ u → u ≤ v → v ≤ n → f u ≤ f v) : rmA f n = mst f n n := by
  have a := rmA_le hm n (Nat.le_refl _)
  have b := mst_le hm n (Nat.le_refl _)
  omega
/-! gossip among the people that are there -/
theorem goG_out {G kd : Int → Int} {pe sd : Int} (hp : 2 ≤ pe) {g : Int → Int} {j : Int} (hj : pe ≤ j) : ∀ k : Nat, goG G kd pe sd g k j = g j
  | 0 => rfl
  | k + 1 => by
    have h := goB_rng (pe := pe) (sd := goS sd k) hp
    rw [goG]
    unfold rsB
    split
    · rw [zu_ne _ _ (by omega)]
      exact goG_out hp hj k
    · exact goG_out hp hj k
theorem hmy_pad {g : Int → Int} (n : Nat) : ∀ d : Nat, (∀ j : Int, (n : Int) ≤ j → j < n + d → g j = -1) → hmy g (n + d) = hmy g n
  | 0, _ => rfl
  | d + 1, h => by
    have e := h ((n + d : Nat) : Int) (by omega) (by omega)
    rw [show n + (d + 1) = (n + d) + 1 from rfl, hmy, if_pos e, hmy_pad n d (fun j h0 h1 => h j h0 (by omega))]
    omega
theorem bst_ge (g : Int → Int) : ∀ n : Nat, -1 ≤ bst g n
  | 0 => Int.le_refl _
  | n + 1 => by
    have := bst_ge g n
    rw [bst]; omega
theorem bst_pad {g : Int → Int} (n : Nat) : ∀ d : Nat, (∀ j : Int, (n : Int) ≤ j → j < n + d → g j = -1) → bst g (n + d) = bst g n
  | 0, _ => rfl
  | d + 1, h => by
    have e := h ((n + d : Nat) : Int) (by omega) (by omega)
    have b := bst_ge g n
    rw [show n + (d + 1) = (n + d) + 1 from rfl, bst, e, bst_pad n d (fun j h0 h1 => h j h0 (by omega))]
    omega
theorem bgn_out {w x pe j : Int} (hw : w < pe) (hj : pe ≤ j) : bgn w x j = -1 := by
  unfold bgn
  split
  · rfl
  · rw [zu_ne _ _ (by omega)]
theorem gossip_pad {G kd : Int → Int} {pe sd w x : Int} {k : Nat} (hp : 2 ≤ pe ∧ pe ≤ 8) (hw : w < pe) : hmy (goG G kd pe sd (bgn w x) k) 8 = hmy (goG G kd pe sd (bgn w x) k) pe.toNat ∧ bst (goG G kd pe sd (bgn w x) k) 8 = bst (goG G kd pe sd (bgn w x) k) pe.toNat := by
  have h : ∀ j : Int, (pe.toNat : Int) ≤ j → j < pe.toNat + (8 - pe.toNat : Nat) → goG G kd pe sd (bgn w x) k j = -1 := fun j h0 _ => by
    rw [goG_out hp.1 (by omega)]
    exact bgn_out hw (by omega)
  have e : pe.toNat + (8 - pe.toNat) = 8 := by omega
  have h1 := hmy_pad pe.toNat (8 - pe.toNat) h
  have h2 := bst_pad pe.toNat (8 - pe.toNat) h
  rw [e] at h1 h2
  exact ⟨h1, h2⟩
/-! two worlds alike as far as there are people and tellings -/
abbrev kdq (pe : Int) (kd ki : Int → Int) : Prop := ∀ j : Int, 0 ≤ j → j < pe → kd j = ki j
abbrev twq (tn : Int) (tt te to tw : Int → Int) : Prop := ∀ j : Int, 0 ≤ j → j < tn → tt j = te j ∧ to j = tw j
theorem wkB_cg {G kd ki : Int → Int} {pe tn : Int} {tt te to tw : Int → Int} (hk : kdq pe kd ki) (ht : twq tn tt te to tw) (h0 : ∀ j, 0 ≤ tt j) (g : Int → Int) : ∀ k : Nat, (k : Int) ≤ tn → wkB G kd pe tt to g k = wkB G ki pe te tw g k
  | 0, _ => rfl
  | k + 1, hk1 => by
    have q := ht k (by omega) (by omega)
    have hz := h0 k
    rw [wkB, wkB, wkB_cg hk ht h0 g k (by omega), ← q.1, ← q.2]
    split
    · rename_i r
      rw [hk (tt k) hz r.1]
    · rfl
theorem wkF_cg {G kd ki : Int → Int} {pe tn : Int} {tt te to tw : Int → Int} (hk : kdq pe kd ki) (ht : twq tn tt te to tw) (h0 : ∀ j, 0 ≤ tt j) (g f : Int → Int) : ∀ k : Nat, (k : Int) ≤ tn → wkF G kd pe tt to g f k = wkF G ki pe te tw g f k
  | 0, _ => rfl
  | k + 1, hk1 => by
    have q := ht k (by omega) (by omega)
    have hz := h0 k
    rw [wkF, wkF, wkB_cg hk ht h0 g k (by omega), wkF_cg hk ht h0 g f k (by omega), ← q.1, ← q.2]
    split
    · rename_i r
      rw [hk (tt k) hz r.1]
    · rfl
theorem hasB_cg {G kd ki : Int → Int} {pe tn : Int} {tt te to tw : Int → Int} (hk : kdq pe kd ki) (ht : twq tn tt te to tw) (h0 : ∀ j, 0 ≤ tt j) (hn : 0 ≤ tn) : hasB G kd pe tt to tn = hasB G ki pe te tw tn := by
  funext w p u
  unfold hasB
  rw [wkB_cg hk ht h0 (bgn w u) tn.toNat (by omega)]
theorem bgn_cg {w x y : Int} (h : w ≠ -1 → x = y) : bgn w x = bgn w y := by
  by_cases q : w = -1
  · unfold bgn; rw [if_pos q, if_pos q]
  · rw [h q]
theorem kmo_q {pe q : Int} {kd ki : Int → Int} (hk : kdq pe kd ki) : kdq pe (kmo kd q) (kmo ki q) := fun j h0 h1 => by
  unfold kmo
  split
  · rfl
  · exact hk j h0 h1
theorem mdB_cg {kd ki F F2 : Int → Int} {x pe : Int} (hk : kdq pe kd ki) (hF : ∀ j, F j = F2 j) : ∀ k : Nat, (k : Int) ≤ pe → mdB kd F x k = mdB ki F2 x k
  | 0, _ => rfl
  | k + 1, h => by rw [mdB, mdB, mdB_cg hk hF k (by omega), hk k (by omega) (by omega), hF k]
theorem goG_cg {G kd ki : Int → Int} {pe sd : Int} (hp : 2 ≤ pe) (hk : kdq pe kd ki) (g : Int → Int) : ∀ k : Nat, goG G kd pe sd g k = goG G ki pe sd g k
  | 0 => rfl
  | k + 1 => by
    have h := goB_rng (pe := pe) (sd := goS sd k) hp
    rw [goG, goG, goG_cg hp hk g k, hk _ h.2.2.1 h.2.2.2.1]
theorem dT_cg {tn : Int} {tt te to tw : Int → Int} (ht : twq tn tt te to tw) (h : Int) : ∀ k : Nat, (k : Int) ≤ tn → dT tt to k h = dT te tw k h
  | 0, _ => rfl
  | k + 1, hk => by
    have q := ht k (by omega) (by omega)
    rw [dT, dT, dT_cg ht h k (by omega), q.1, q.2]
theorem dP_cg {kd ki tl tk : Int → Int} {f g : Int → Int → Int} {pe : Int} (hk : kdq pe kd ki) (ht : kdq pe tl tk) (h : Int) : ∀ k : Nat, (k : Int) ≤ pe → dP kd tl f g k h = dP ki tk f g k h
  | 0, _ => rfl
  | k + 1, h1 => by rw [dP, dP, dP_cg hk ht h k (by omega), hk k (by omega) (by omega), ht k (by omega) (by omega)]
/-! chains alike -/
theorem toS_cg {G kd ki kn : Int → Int} {fl s : Int} {S : cS} (h : kd (s / 10000) = ki (s / 10000)) : ∀ k : Nat, toS G kd kn fl s k S = toS G ki kn fl s k S
  | 0 => rfl
  | k + 1 => by rw [toS, toS, toS_cg h k, h]
theorem enS_cg {G kd ki kn : Int → Int} (hG : ∀ v, 0 ≤ G v ∧ G v ≤ 9999) {pe fl k0 : Int} (hk : kdq pe kd ki) {S : cS} (hpe : 0 ≤ pe ∧ pe ≤ 8) (hk0 : 0 ≤ k0) (h : BI pe S) : ∀ j : Nat, k0 + j ≤ S.2.2 → enS G kd kn pe fl k0 j S = enS G ki kn pe fl k0 j S
  | 0, _ => rfl
  | j + 1, hj => by
    obtain ⟨i1, i2, i3, i4⟩ := enS_all hG (kd := kd) (kn := kn) (fl := fl) hpe hk0 h j (by omega)
    have ih := enS_cg hG hk (kn := kn) (fl := fl) hpe hk0 h j (by omega)
    have hs := i1.2.1 (k0 + j) (by omega) (by omega)
    rw [enS, enS, ← ih]
    exact toS_cg (hk _ (by omega) (by omega)) _
theorem lvS_cg {G kd ki kn : Int → Int} (hG : ∀ v, 0 ≤ G v ∧ G v ≤ 9999) {pe : Int} (hk : kdq pe kd ki) {S : cS} (hpe : 0 ≤ pe ∧ pe ≤ 8) (h : BI pe S) (h1 : S.2.2 = 1) : ∀ k : Nat, lvS G kd kn pe S k = lvS G ki kn pe S k
  | 0 => rfl
  | k + 1 => by
    obtain ⟨i1, i2, i3, i4, -⟩ := lvS_all hG (kd := kd) (kn := kn) hpe h h1 k
    have ih := lvS_cg hG hk (kn := kn) hpe h h1 k
    rw [lvS, lvS, ← ih, enS_cg hG hk hpe i2 i1 _ (by omega)]
theorem CHR_cg {G kd ki kn : Int → Int} (hG : ∀ v, 0 ≤ G v ∧ G v ≤ 9999) {pe : Int} (hk : kdq pe kd ki) (hpe : 0 ≤ pe ∧ pe ≤ 8) {z g few tof : Int} (hs : 0 ≤ z ∧ z < 10000 * pe) (h : CHR G kd kn pe z g few tof) : CHR G ki kn pe z g few tof := by
  have e := lvS_cg hG hk (kn := kn) (S := cS0 z) hpe (cS0_BI hs) (by rw [cS0_eq])
  unfold CHR at h ⊢
  simp only [← e]
  exact h
