/-! the model: its object, the law by numbers, what it reads -/
noncomputable def mo (a : Nat → Nat) (st lw tl wk pe ch pl fa iw nm qe sd ik kp hh : Int) : List Value := [.int (iZ st), .ref (a 1), .ref (a 2), .int (iZ lw), .int (iZ tl), .ref (a 5), .ref (a 6), .int (iZ wk), .int (iZ pe), .ref (a 9), .ref (a 10), .ref (a 11), .ref (a 12), .int (iZ ch), .int (iZ pl), .ref (a 15), .int (iZ fa), .int (iZ iw), .int (iZ nm), .ref (a 19), .ref (a 20), .ref (a 21), .ref (a 22), .ref (a 23), .ref (a 24), .ref (a 25), .ref (a 26), .ref (a 27), .int (iZ qe), .long (lZ sd), .int (iZ ik), .int (iZ kp), .ref (a 32), .ref (a 33), .ref (a 34), .long (lZ hh)]
theorem z_i2bm {p : Program} {l : Launch} {e : Env} {R : Room} {s : State} {m : MethodId} {args : Array Value} {below : List Frame} {meth : Method} {c : Code} {H : Heap} {locs : List Loc} {cells slots : Nat} {Q : State → Prop} {cc : ByteArray} {pc : Nat} {ls : Array Slot} {rest : List Value} {v b : Int} (hx : p.tables.exec = Jvm.exec) (hb : c.code = cc) (hv : v % 256 = b) (hb2 : b ≤ 127) (hdg : decode cc pc = .ok (.i2b, 1)) (kk : W p l e R s m args below meth c H locs cells slots Q (F0 m (pc + 1) ls (.int (iZ b) :: rest))) : W p l e R s m args below meth c H locs cells slots Q (F0 m pc ls (.int (iZ v) :: rest)) := by
  exact lv_i2b hx hb hdg (by rw [iZ_bm (by omega), hv]) kk
noncomputable def sbf (ch : Int) : Int := if ch = 104 then 0 else if ch = 100 then 1 else if ch = 43 then 2 else if ch = 45 then 3 else if ch = 47 then 4 else -1
theorem sbf_f (ch : Int) : (sbf ch = -1 ∧ ¬ opn ch ∧ ¬ wnt ch) ∨ (0 ≤ sbf ch ∧ sbf ch ≤ 1 ∧ opn ch ∧ ¬ wnt ch) ∨ (2 ≤ sbf ch ∧ sbf ch ≤ 4 ∧ opn ch ∧ wnt ch ∧ (sbf ch = 4 ↔ ch = 47)) := by
  unfold sbf
  split
  · right; left; omega
  · split
    · right; left; omega
    · split
      · right; right; omega
      · split
        · right; right; omega
        · split
          · right; right; omega
          · left; omega
noncomputable def stp (s d v : Int) : Int := if s = 0 then v + v / 2 else if s = 1 then 2 * v else if s = 2 then v + d else if s = 3 then v - d else v / d
noncomputable def cap (v : Int) : Int := if 9999 < v then 9999 else if v < 0 then 0 else v
theorem cap_rng (v : Int) : 0 ≤ cap v ∧ cap v ≤ 9999 := by unfold cap; split <;> (try split) <;> omega
noncomputable def gro (so mu : Int → Int) : Nat → Int → Int
  | 0, v => v
  | k + 1, v => cap (stp (so k) (mu k) (gro so mu k v))
theorem gro_s {so mu : Int → Int} {i v : Int} (hi : 0 ≤ i) : gro so mu (i + 1).toNat v = cap (stp (so i) (mu i) (gro so mu i.toNat v)) := by
  rw [toNat_s hi, gro, show ((i.toNat : Nat) : Int) = i from by omega]
theorem gro_rng {so mu : Int → Int} {st : Int} (h : 1 ≤ st) (v : Int) : 0 ≤ gro so mu st.toNat v ∧ gro so mu st.toNat v ≤ 9999 := by
  rw [show st.toNat = (st.toNat - 1) + 1 from by omega, gro]
  exact cap_rng _
theorem stp_rng {s d v : Int} (hd : 0 ≤ d ∧ d ≤ 9) (h4 : s = 4 → 2 ≤ d) (hs : 0 ≤ s ∧ s ≤ 4) (hv : 0 ≤ v ∧ v ≤ 9999) : -9 ≤ stp s d v ∧ stp s d v ≤ 19998 := by
  unfold stp
  split
  · omega
  · split
    · omega
    · split
      · omega
      · split
        · omega
        · have h := z_divle (a := v) (b := d) hv.1 (by omega)
          omega
/-- how much a step's letter asks -/
noncomputable def muQ (n : Int) (pg : Int → Int) (q : Int) : Int := if wnt (pg q) then lat n pg (q + 1) - 48 else 0
abbrev qL (pg : Int → Int) (n i w nm : Int) (ns nu : Int → Int) : Prop := allL pg i ∧ nm = cntO pg i.toNat - w ∧ ((w = 1 ∧ wnt (prv pg i) ∧ opp pg i.toNat nm = i - 1) ∨ (w = 0 ∧ ¬ wnt (prv pg i))) ∧ (∀ j : Int, 0 ≤ j → j < nm + w → ns j = sbf (pg (opp pg i.toNat j))) ∧ (∀ j : Int, 0 ≤ j → j < nm → nu j = muQ n pg (opp pg i.toNat j))
theorem qL_0 (pg : Int → Int) (n : Int) (ns nu : Int → Int) : qL pg n 0 0 0 ns nu :=
  ⟨fun j h0 h1 => by omega, rfl, Or.inr ⟨rfl, by unfold prv; rw [if_pos rfl]; omega⟩, fun j h0 h1 => by omega, fun j h0 h1 => by omega⟩
theorem prv_p {pg : Int → Int} {i : Int} (h : wnt (prv pg i)) : i ≠ 0 ∧ prv pg i = pg (i - 1) := by
  unfold prv at h ⊢
  split at h
  · omega
  · rename_i q; rw [if_neg q]; exact ⟨q, rfl⟩
theorem prv_n {pg : Int → Int} {i : Int} (h : 0 ≤ i) : prv pg (i + 1) = pg i := by
  unfold prv
  rw [if_neg (by omega), show i + 1 - 1 = i from by omega]
theorem qL_a {pg : Int → Int} {n i nm : Int} {ns nu : Int → Int} (h : qL pg n i 1 nm ns nu) (hi : 0 ≤ i ∧ i < n) (hd : dgt (prv pg i) (pg i)) : qL pg n (i + 1) 0 (nm + 1) ns (zu nu nm (pg i - 48)) := by
  have h1 := h.2.2.1
  have h2 : wnt (prv pg i) ∧ opp pg i.toNat nm = i - 1 := by
    rcases h1 with q | q
    · exact q.2
    · omega
  have hno : ¬ opn (pg i) := by
    unfold dgt at hd
    split at hd <;> omega
  have e1 : cntO pg (i + 1).toNat = cntO pg i.toNat := by rw [cntO_s hi.1, if_neg hno]; omega
  have e2 : opp pg (i + 1).toNat = opp pg i.toNat := by rw [opp_s hi.1, if_neg hno]
  have h3 := h.2.1
  refine ⟨allL_s h.1 (Or.inl ⟨h2.1, hd⟩), by rw [e1]; omega, Or.inr ⟨rfl, ?_⟩, ?_, ?_⟩
  · rw [prv_n hi.1]; omega
  · intro j h0 hj
    rw [e2]
    exact h.2.2.2.1 j h0 (by omega)
  · intro j h0 hj
    rw [e2]
    unfold zu
    split
    · rename_i q
      have q2 := prv_p h2.1
      rw [q, h2.2]
      unfold muQ
      rw [← q2.2, if_pos h2.1, show i - 1 + 1 = i from by omega]
      unfold lat
      rw [if_pos hi]
    · exact h.2.2.2.2 j h0 (by omega)
theorem qL_b {pg : Int → Int} {n i nm w : Int} {ns nu : Int → Int} (h : qL pg n i 0 nm ns nu) (hi : 0 ≤ i ∧ i < n) (ho : opn (pg i)) (h4 : nm < 4) (hw : w = 1 ∧ wnt (pg i) ∨ w = 0 ∧ ¬ wnt (pg i)) : qL pg n (i + 1) w (nm + 1 - w) (zu ns nm (sbf (pg i))) (zu nu nm 0) := by
  have h2 : ¬ wnt (prv pg i) := by
    rcases h.2.2.1 with q | q
    · omega
    · exact q.2
  have h3 := h.2.1
  have e1 : cntO pg (i + 1).toNat = cntO pg i.toNat + 1 := by rw [cntO_s hi.1, if_pos ho]
  have e2 : opp pg (i + 1).toNat = zu (opp pg i.toNat) nm i := by rw [opp_s hi.1, if_pos ho, show nm = cntO pg i.toNat from by omega]
  refine ⟨allL_s h.1 (Or.inr ⟨h2, ho, by omega⟩), by rw [e1]; omega, ?_, ?_, ?_⟩
  · rcases hw with ⟨q1, q2⟩ | ⟨q1, q2⟩
    · exact Or.inl ⟨q1, by rw [prv_n hi.1]; exact q2, by rw [e2, show nm + 1 - w = nm from by omega, zu_eq]; omega⟩
    · exact Or.inr ⟨q1, by rw [prv_n hi.1]; exact q2⟩
  · intro j h0 hj
    rw [e2]
    unfold zu
    split
    · rfl
    · exact h.2.2.2.1 j h0 (by omega)
  · intro j h0 hj
    rw [e2]
    unfold zu
    split
    · rename_i q
      unfold muQ
      rw [if_neg (by rcases hw with ⟨q1, q2⟩ | ⟨q1, q2⟩; omega; exact q2)]
    · exact h.2.2.2.2 j h0 (by omega)
theorem cntO_pos {pg : Int → Int} {n : Int} (hn : 0 < n) (h : allL pg n) : 1 ≤ cntO pg n.toNat := by
  have key : ∀ k : Nat, (k : Int) + 1 ≤ n → 1 ≤ cntO pg (k + 1) := by
    intro k
    induction k with
    | zero =>
      intro _
      have g := h 0 (by omega) hn
      rw [cntO, cntO, if_pos]
      · omega
      · rcases g with ⟨g, -⟩ | ⟨-, g, -⟩
        · exact absurd rfl (prv_p g).1
        · exact g
    | succ k ih =>
      intro hk
      have := ih (by omega)
      rw [cntO]
      split <;> omega
  have := key (n.toNat - 1) (by omega)
  rw [show n.toNat - 1 + 1 = n.toNat from by omega] at this
  exact this
theorem qL_n {pg : Int → Int} {n i w nm : Int} {ns nu : Int → Int} (h : qL pg n i w nm ns nu) (hi : 0 ≤ i) : 0 ≤ nm ∧ nm + w ≤ 4 ∧ 0 ≤ w ∧ w ≤ 1 ∧ nm + w = cntO pg i.toNat := by
  have h1 := cntO_le hi h.1
  have h2 := h.2.1
  rcases h.2.2.1 with q | q
  · have : 1 ≤ cntO pg i.toNat := cntO_pos (by have := (prv_p q.2.1).1; omega) h.1
    omega
  · omega
theorem qL_w {pg : Int → Int} {n i nm : Int} {ns nu : Int → Int} (h : qL pg n i 1 nm ns nu) (hi : 0 ≤ i) : wnt (prv pg i) ∧ ns nm = sbf (prv pg i) := by
  have h3 := qL_n h hi
  rcases h.2.2.1 with q | q
  · have q2 := prv_p q.2.1
    exact ⟨q.2.1, by rw [h.2.2.2.1 nm (by omega) (by omega), q.2.2, q2.2]⟩
  · omega
theorem qL_z {pg : Int → Int} {n i nm : Int} {ns nu : Int → Int} (h : qL pg n i 0 nm ns nu) : ¬ wnt (prv pg i) := by
  rcases h.2.2.1 with q | q
  · omega
  · exact q.2
/-- the law by numbers, from its letters -/
noncomputable def soP (pg : Int → Int) (n : Int) : Int → Int := fun j => sbf (sgP pg n j)
noncomputable def muP (pg : Int → Int) (n : Int) : Int → Int := fun j => muQ n pg (opp pg n.toNat j)
theorem soP_rng {pg : Int → Int} {n : Int} (h : WL n pg) {j : Int} (h0 : 0 ≤ j) (h1 : j < cntO pg n.toNat) : (0 ≤ soP pg n j ∧ soP pg n j ≤ 4) ∧ (0 ≤ muP pg n j ∧ muP pg n j ≤ 9) ∧ (soP pg n j = 4 → 2 ≤ muP pg n j) := by
  have h2 := opp_in n.toNat j h0 h1
  have h3 := sbf_f (pg (opp pg n.toNat j))
  unfold soP muP muQ sgP
  by_cases hw : wnt (pg (opp pg n.toNat j))
  · have h4 := dg_in h h0 h1 hw
    have h5 := h4.2.2
    rw [if_pos hw]
    unfold lat
    rw [if_pos (by omega)]
    unfold dgt at h5
    split at h5 <;> omega
  · rw [if_neg hw]
    omega
theorem qL_b2 {pg : Int → Int} {n i nm w n2 : Int} {ns nu : Int → Int} (h : qL pg n i 0 nm ns nu) (hi : 0 ≤ i ∧ i < n) (ho : opn (pg i)) (h4 : nm < 4) (hw : w = 1 ∧ wnt (pg i) ∨ w = 0 ∧ ¬ wnt (pg i)) (e : n2 = nm + 1 - w) : qL pg n (i + 1) w n2 (zu ns nm (sbf (pg i))) (zu nu nm 0) := by
  rw [e]; exact qL_b h hi ho h4 hw
theorem LF_all {pg : Int → Int} {n : Int} (hn : 0 ≤ n) (h : allL pg n) : LF n pg n := ⟨hn, Int.le_refl _, h, fun q => absurd q (by omega)⟩
theorem qL_whole {pg : Int → Int} {n w nm : Int} {ns nu : Int → Int} (h : qL pg n n w nm ns nu) (hn : 0 ≤ n) (hw : w = 0) (hm : 0 < nm) : WL n pg ∧ nm = cntO pg n.toNat ∧ ∀ j, 0 ≤ j → j < cntO pg n.toNat → ns j = soP pg n j ∧ nu j = muP pg n j := by
  subst hw
  have h1 := qL_n h hn
  have h0 : 0 < n := by
    rcases (show 0 < n ∨ n = 0 by omega) with q | q
    · exact q
    · rw [q, show (0 : Int).toNat = 0 from rfl, cntO] at h1; omega
  refine ⟨⟨h0, h.1, ?_⟩, by omega, fun j hj0 hj1 => ⟨h.2.2.2.1 j hj0 (by omega), h.2.2.2.2 j hj0 (by omega)⟩⟩
  have h2 := qL_z h
  unfold prv at h2
  rw [if_neg (by omega)] at h2
  exact h2
theorem qL_not {pg : Int → Int} {n w nm : Int} {ns nu : Int → Int} (h : qL pg n n w nm ns nu) (hn : 0 ≤ n) (hq : w ≠ 0 ∨ nm ≤ 0) : ¬ WL n pg := by
  intro hW
  have h1 := qL_n h hn
  have h2 := cntO_pos hW.1 hW.2.1
  have hw1 : w = 1 := by omega
  subst hw1
  have h3 := qL_w h hn
  have h4 := prv_p h3.1
  have h5 := h3.1
  rw [h4.2] at h5
  exact hW.2.2 h5
theorem bad_WL {pg : Int → Int} {n i : Int} (hi : 0 ≤ i) (h1 : i < n) (h2 : ¬ goodL pg i) : ¬ WL n pg := fun h => h2 (h.2.1 i hi h1)
theorem bad_WW {pg : Int → Int} {n i : Int} (hi : 0 ≤ i) (h1 : i < n) (h2 : ¬ goodW pg i) : ¬ WW n pg := fun h => h2 (h.1 i hi h1)
abbrev qW (pg : Int → Int) (i sv n1 : Int) (nt no : Int → Int) : Prop := allW pg i ∧ sv = i % 3 ∧ n1 = (i + 1) / 3 ∧ (∀ j : Int, 0 ≤ j → 3 * j < i → nt j = pg (3 * j) - 48) ∧ (∀ j : Int, 0 ≤ j → 3 * j + 1 < i → no j = pg (3 * j + 1) - 48)
theorem qW_0 (pg nt no : Int → Int) : qW pg 0 0 0 nt no := ⟨fun j h0 h1 => by omega, by omega, by omega, fun j h0 h1 => by omega, fun j h0 h1 => by omega⟩
theorem qW_n {pg : Int → Int} {i sv n1 : Int} {nt no : Int → Int} (h : qW pg i sv n1 nt no) (hi : 0 ≤ i) : i ≤ 47 ∧ 0 ≤ sv ∧ sv ≤ 2 ∧ 0 ≤ n1 ∧ n1 ≤ 16 ∧ sv = i % 3 ∧ n1 = (i + 1) / 3 := by
  have h1 : i ≤ 47 := by
    rcases (show i ≤ 47 ∨ 47 < i by omega) with q | q
    · exact q
    · exact absurd (h.1 47 (by omega) q).1 (by omega)
  have h2 := h.2.1
  have h3 := h.2.2.1
  omega
theorem qW_t {pg : Int → Int} {i sv n1 : Int} {nt no : Int → Int} (h : qW pg i sv n1 nt no) (hi : 0 ≤ i) (hs : sv = 1) : nt n1 = pg (i - 1) - 48 := by
  have h2 := h.2.1
  have h3 := h.2.2.1
  rw [h.2.2.2.1 n1 (by omega) (by omega), show 3 * n1 = i - 1 from by omega]
theorem qW_a {pg : Int → Int} {i sv n1 : Int} {nt no : Int → Int} (h : qW pg i sv n1 nt no) (hi : 0 ≤ i) (hs : sv = 0) (hp : prs (pg i)) : qW pg (i + 1) ((sv + 1) % 3) n1 (zu nt n1 (pg i - 48)) no := by
  have h1 := qW_n h hi
  refine ⟨allW_s h.1 ⟨by omega, Or.inl ⟨by omega, hp⟩⟩, by omega, by omega, ?_, ?_⟩
  · intro j h0 hj
    unfold zu
    split
    · rw [show 3 * j = i from by omega]
    · exact h.2.2.2.1 j h0 (by omega)
  · intro j h0 hj
    exact h.2.2.2.2 j h0 (by omega)
theorem qW_b {pg : Int → Int} {i sv n1 : Int} {nt no : Int → Int} (h : qW pg i sv n1 nt no) (hi : 0 ≤ i) (hs : sv = 1) (hp : prs (pg i)) (hd : pg i - 48 ≠ nt n1) : qW pg (i + 1) ((sv + 1) % 3) (n1 + 1) nt (zu no n1 (pg i - 48)) := by
  have h1 := qW_n h hi
  have h2 := qW_t h hi hs
  refine ⟨allW_s h.1 ⟨by omega, Or.inr (Or.inl ⟨by omega, hp, by omega⟩)⟩, by omega, by omega, ?_, ?_⟩
  · intro j h0 hj
    exact h.2.2.2.1 j h0 (by omega)
  · intro j h0 hj
    unfold zu
    split
    · rw [show 3 * j + 1 = i from by omega]
    · exact h.2.2.2.2 j h0 (by omega)
theorem qW_c {pg : Int → Int} {i sv n1 : Int} {nt no : Int → Int} (h : qW pg i sv n1 nt no) (hi : 0 ≤ i) (hs : sv ≠ 0) (hs1 : sv ≠ 1) (hp : pg i = 44) (hd : n1 < 16) : qW pg (i + 1) ((sv + 1) % 3) n1 nt no := by
  have h1 := qW_n h hi
  refine ⟨allW_s h.1 ⟨by omega, Or.inr (Or.inr ⟨by omega, hp⟩)⟩, by omega, by omega, ?_, ?_⟩
  · intro j h0 hj
    exact h.2.2.2.1 j h0 (by omega)
  · intro j h0 hj
    exact h.2.2.2.2 j h0 (by omega)
theorem WF_all {pg : Int → Int} {n : Int} (hn : 0 ≤ n) (h : allW pg n) : WF n pg n := ⟨hn, Int.le_refl _, h, fun q => absurd q (by omega)⟩
