/-! a row copied whole -/
section ZCP
variable {p : Program} {l : Launch} {e : Env} {R : Room} {s : State} {m : MethodId} {args : Array Value} {below : List Frame} {meth : Method} {c : Code} {H H0 : Heap} {locs : List Loc} {cells slots : Nat} {Q : State → Prop} {cc : ByteArray} {pc : Nat} {ls : Array Slot} {rest : List Value} {D : va_G} {ws : va_W} {A : Nat → Prop} {a : Nat}
theorem z_copy {cI cJ cB : ClassId} (hx : p.tables.exec = Jvm.exec) (hb : c.code = cc) (hml : c.maxLocals = ls.size) {own : String} {index : Nat} (hown : s.vm.findClass own = some m.cls) (hlink : (Cond.methodLink own index arraycopyName).before args s = true) (hnat : (Cond.native arraycopyName).before args s = true) (hstat : (Cond.static arraycopyName).before args s = true) (hini : (Cond.initialized "java/lang/System").before args s = true) (hK : zK D (zT cI cJ cB) s) (hP : va_P D vwCl ws H) (hD : va_D A ws) (hS : va_S A H0 H locs) (q0 q1 : Nat) {a0 n : Nat} {f g : Int → Int} {k : Int} (ha0 : ws[q0]? = some (a0, aI cI n f)) (ha1 : ws[q1]? = some (a, aI cI n g)) (hn : k = (n : Int) ∧ n < 2147483648) (hframes : 1 ≤ R.frames) (hlocals : (rest.map fun v => v.category).sum + (nativeFrameWords "java/lang/System" "arraycopy" 5 + 11) ≤ R.locals) (hdg : decode cc pc = .ok (.invokestatic index, 3))
    (kk : ∀ (H1 : Heap) (locs1 : List Loc), va_P D vwCl (ws.set q1 (a, aI cI n f)) H1 → va_D A (ws.set q1 (a, aI cI n f)) → va_S A H0 H1 locs1 → W p l e R s m args below meth c H1 locs1 cells slots Q (F0 m (pc + 3) ls rest)) : W p l e R s m args below meth c H locs cells slots Q (F0 m pc ls (.int (iZ k) :: .int (iZ 0) :: .ref a :: .int (iZ 0) :: .ref a0 :: rest)) := by
  obtain ⟨rfl, hn⟩ := hn
  have ez : (iZ 0).toNatClampNeg = 0 := rfl
  have en : (iZ (n : Int)).toNatClampNeg = n := by
    have := iZ_cl (i := (n : Int)) (by omega)
    omega
  refine va_copyi hx hb hml hown hlink hnat hstat hini hK.1 hP hD hS q0 q1 0 0 (ty := .int) ha0 ha1 rfl rfl rfl (by decide) (by decide) (fun q => by rw [← iZ_0, iZ_lt (by omega) (by omega)] at q; omega) (by rw [ez, en]; omega) (by rw [ez, en]; omega) (fun _ _ => rfl) hframes hlocals hdg (fun H1 locs1 hP1 hD1 hS1 => ?_)
  have hlt : q1 < ws.length := (List.getElem?_eq_some_iff.mp ha1).1
  have he0 := List.getElem?_set_self (l := ws) (a := (a, (Sum.inl (cI, n, Sum.inl (va_cpy (fun j : Nat => iZ (f (j : Int))) (fun j : Nat => iZ (g (j : Int))) (iZ 0).toNatClampNeg (iZ 0).toNatClampNeg (iZ (n : Int)).toNatClampNeg)) : va_E))) hlt
  have hat : va_at D vwCl (a, aI cI n f) H1 := by
    have h1 : H1[a]? = some (vp_cell cI (n, .inl _)) := hP1 q1 _ he0
    show H1[a]? = some (vp_cell cI (n, .inl (fun j : Nat => iZ (f (j : Int)))))
    rw [h1, vp_cell_i, vp_cell_i, arrV_cg (fun j hj => by rw [pk_cpy_in (by rw [ez]; omega) (by rw [ez, en]; omega), ez, Nat.zero_add, Nat.sub_zero])]
  have hP2 := hP1.set hD1 he0 hat (fun _ _ => rfl)
  have hD2 := hD1.set (e := aI cI n f) he0
  rw [List.set_set] at hP2 hD2
  exact kk H1 locs1 hP2 hD2 hS1
end ZCP
/-! the letters of a week -/
abbrev prs (ch : Int) : Prop := 48 ≤ ch ∧ ch ≤ 55
abbrev goodW (pg : Int → Int) (k : Int) : Prop := k < 47 ∧ (k % 3 = 0 ∧ prs (pg k) ∨ k % 3 = 1 ∧ prs (pg k) ∧ pg k ≠ pg (k - 1) ∨ k % 3 = 2 ∧ pg k = 44)
abbrev allW (pg : Int → Int) (k : Int) : Prop := ∀ j : Int, 0 ≤ j → j < k → goodW pg j
theorem allW_s {pg : Int → Int} {i : Int} (h : allW pg i) (h2 : goodW pg i) : allW pg (i + 1) := fun j h0 h1 => by
  rcases (show j < i ∨ j = i by omega) with q | q
  · exact h j h0 q
  · rw [q]; exact h2
abbrev WF (n : Int) (pg : Int → Int) (z : Int) : Prop := 0 ≤ z ∧ z ≤ n ∧ allW pg z ∧ (z < n → ¬ goodW pg z)
theorem WF_one {n : Int} {pg : Int → Int} {y z : Int} (hy : WF n pg y) (hz : WF n pg z) : y = z := by
  rcases (show y < z ∨ y = z ∨ z < y by omega) with h | h | h
  · exact absurd (hz.2.2.1 y hy.1 h) (hy.2.2.2 (by omega))
  · exact h
  · exact absurd (hy.2.2.1 z hz.1 h) (hz.2.2.2 (by omega))
abbrev WW (n : Int) (pg : Int → Int) : Prop := allW pg n ∧ n % 3 = 2
theorem WW_le {n : Int} {pg : Int → Int} (h : WW n pg) (hn : 0 ≤ n) : n ≤ 47 := by
  rcases (show n ≤ 47 ∨ 47 < n by omega) with q | q
  · exact q
  · exact absurd (h.1 47 (by omega) q).1 (by omega)
theorem WW_at {n : Int} {pg : Int → Int} (h : WW n pg) {k : Int} (h0 : 0 ≤ k) (h1 : 3 * k + 1 < n) : prs (pg (3 * k)) ∧ prs (pg (3 * k + 1)) ∧ pg (3 * k) ≠ pg (3 * k + 1) := by
  have g1 := h.1 (3 * k) (by omega) (by omega)
  have g2 := h.1 (3 * k + 1) (by omega) (by omega)
  rcases g1.2 with ⟨-, a⟩ | ⟨a, -⟩ | ⟨a, -⟩
  · rcases g2.2 with ⟨b, -⟩ | ⟨-, b, c⟩ | ⟨b, -⟩
    · omega
    · rw [show 3 * k + 1 - 1 = 3 * k from by omega] at c
      exact ⟨a, b, fun q => c q.symm⟩
    · omega
  · omega
  · omega
/-! the longest run of like ones, one behind the other: the last one, its run, the longest -/
noncomputable def rlA (f : Int → Int) : Nat → Int
  | 0 => -1
  | k + 1 => f (k + 1)
noncomputable def rrA (f : Int → Int) : Nat → Int
  | 0 => 0
  | k + 1 => if f (k + 1) = rlA f k then rrA f k + 1 else 1
noncomputable def rmA (f : Int → Int) : Nat → Int
  | 0 => 0
  | k + 1 => max (rmA f k) (rrA f (k + 1))
/-! draws -/
noncomputable def nxs (sd : Int) : Int := (1103515245 * sd + 12345) % 2147483648
theorem nxs_rng (sd : Int) : 0 ≤ nxs sd ∧ nxs sd < 2147483648 := by unfold nxs; omega
/-! ways of tens -/
noncomputable def wys (t : Int) : Nat → Int → Int
  | 0 => fun j => if j = 0 then 1 else 0
  | k + 1 => fun j => if j = 0 then wys t k 0 * t else wys t k j * t + wys t k (j - 1) * (10 - t)
theorem wys_s {t i : Int} (hi : 0 ≤ i) : wys t (i + 1).toNat = fun j => if j = 0 then wys t i.toNat 0 * t else wys t i.toNat j * t + wys t i.toNat (j - 1) * (10 - t) := by
  rw [toNat_s hi, wys]
theorem wys_sj {t i j : Int} (hi : 0 ≤ i) : wys t (i + 1).toNat j = if j = 0 then wys t i.toNat 0 * t else wys t i.toNat j * t + wys t i.toNat (j - 1) * (10 - t) := by
  rw [wys_s hi]
theorem wys_out (t : Int) : ∀ (k : Nat) (j : Int), (k : Int) < j → wys t k j = 0
  | 0, j, h => by
    show (if j = 0 then (1 : Int) else 0) = 0
    rw [if_neg (by omega)]
  | k + 1, j, h => by
    show (if j = 0 then wys t k 0 * t else wys t k j * t + wys t k (j - 1) * (10 - t)) = 0
    rw [if_neg (by omega), wys_out t k j (by omega), wys_out t k (j - 1) (by omega)]
    omega
noncomputable def pwr (b : Int) : Nat → Int
  | 0 => 1
  | k + 1 => pwr b k * b
theorem pwr_s {b i : Int} (hi : 0 ≤ i) : pwr b (i + 1).toNat = pwr b i.toNat * b := by rw [toNat_s hi, pwr]
noncomputable def itr (G : Int → Int) : Nat → Int → Int
  | 0, v => v
  | k + 1, v => G (itr G k v)
theorem itr_s {G : Int → Int} {i v : Int} (hi : 0 ≤ i) : itr G (i + 1).toNat v = G (itr G i.toNat v) := by rw [toNat_s hi, itr]
theorem itr_rng {G : Int → Int} (hG : ∀ v, 0 ≤ G v ∧ G v ≤ 9999) {v : Int} (hv : 0 ≤ v ∧ v ≤ 9999) : ∀ k : Nat, 0 ≤ itr G k v ∧ itr G k v ≤ 9999
  | 0 => hv
  | k + 1 => hG _
noncomputable def sumW (G wy : Int → Int) (v x : Int) : Nat → Int
  | 0 => 0
  | k + 1 => sumW G wy v x k + if itr G k v = x then wy k else 0
theorem sumW_s {G wy : Int → Int} {v x i : Int} (hi : 0 ≤ i) : sumW G wy v x (i + 1).toNat = sumW G wy v x i.toNat + if itr G i.toNat v = x then wy i else 0 := by
  rw [toNat_s hi, sumW, show ((i.toNat : Nat) : Int) = i from by omega]
