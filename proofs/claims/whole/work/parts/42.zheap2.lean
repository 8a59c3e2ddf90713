/-! constructors: what makes cells -/
def zStab (E : State → Prop) : Prop := (∀ (s U : State), s.WarmedH U.vm → E s → E U) ∧ ∀ (s U : State), s.vm = U.vm → E s → E U
def zEt : State → Prop := fun _ => True
theorem zEt_stab : zStab zEt := ⟨fun _ _ _ h => h, fun _ _ _ h => h⟩
def zPreE (D : va_G) (T : List (ClassId × FieldType)) (E : State → Prop) (w0 : va_W) (sz : Nat) (U : State) : Prop := U.heap.size = sz ∧ va_P D vwCl w0 U.heap ∧ (zK D T U ∧ E U) ∧ va_D (fun _ => True) w0
def zQc (D : va_G) (A : Nat → Prop) (post : va_W → Prop) : Array Value → State → Outcome → State → Prop := va_Qv (fun (w : va_W) => post w) (fun w t => zWd D A w t) A
/-- the contract of a constructor: behind it the world's cells, and new ones, hold w with 'post w' -/
def zMc (l : Launch) (y : MethodName) (ws : List Cond) (rm : Room) (D : va_G) (T : List (ClassId × FieldType)) (E : State → Prop) (as : List Value) (w0 : va_W) (mc ms : Nat) (post : va_W → Prop) : Prop := ∀ sz : Nat, Met l y ws rm (va_Pc as (zPreE D T E w0 sz)) (zQc D (va_A w0 sz) post) mc ms (va_A w0 sz)
abbrev zRc (f n mc ms : Nat) : Room := { frames := f, cells := mc, slots := ms, locals := n }
section ZMC
variable {l : Launch} {y : MethodName} {ws ws' : List Cond} {rm : Room} {D : va_G} {T : List (ClassId × FieldType)} {E : State → Prop} {as : List Value} {w0 : va_W} {cc : ByteArray} {maxL mc ms : Nat}
theorem z_ofc {post : va_W → Prop} (hy : plainName y.cls = true) (hw : ws = Cond.code y cc maxL none :: ws') (hmx : (lg_sl as).length ≤ maxL)
    (body : ∀ (p : Program) (e : Env) (s : State) (m : MethodId) (below : List Frame) (meth : Method) (c : Code) (A : Nat → Prop) (ls : Array Slot), p.tables.exec = Jvm.exec → c.code = cc → meth.sig.returnType = none → (∀ w ∈ ws, w.before as.toArray s = true) → s.vm.findClass y.cls = some m.cls → meth.locks = false → meth.name = y.name → c.maxLocals = maxL → zK D T s → E s → va_P D vwCl w0 s.heap → va_D A w0 → va_S A s.heap s.heap [] → (∀ q : Nat, s.heap.size ≤ q → A q) → lv_has ls maxL (lv_args 0 as) →
      W p l e rm s m as.toArray below meth c s.heap [] 0 0 (MQ below (zQc D A post) as.toArray s mc ms A) (F0 m 0 ls [])) : zMc l y ws rm D T E as w0 mc ms post := by
  intro sz
  refine Met.ofW (cc := cc) (maxL := maxL) (ret := none) hy hw ?_
  intro p e s m args below meth c s₁ B hml hv
  obtain ⟨rfl, hsz, hP, hK, hD⟩ := hv
  have hts := atoms_spec (ws := ws) B.pre
  have hl := lv_entry as (n := maxL) hmx
  rw [lg_entry_eq]
  generalize (lg_sl as ++ List.replicate (maxL - (lg_sl as).length) Slot.unset).toArray = ls at hl ⊢
  exact body p e s m below meth c (va_A w0 sz) ls B.exec B.bytes B.returns hts (findClass_of_methodNamed B.named) B.notSynchronized (name_of_methodNamed B.named B.method).1 hml hK.1 hK.2 hP hD.self va_S.rf (fun q h => Or.inr (by rw [hsz] at h; exact h)) hl
end ZMC
section ZCC
variable {p : Program} {l : Launch} {e : Env} {R : Room} {s : State} {m : MethodId} {args : Array Value} {below : List Frame} {meth : Method} {c : Code} {H H0 : Heap} {locs : List Loc} {cells slots : Nat} {Q : State → Prop} {cc : ByteArray} {pc : Nat} {ls : Array Slot} {rest : List Value} {D : va_G} {T : List (ClassId × FieldType)} {ws w0 w : va_W} {A : Nat → Prop} {a : Nat}
theorem z_cret {post : va_W → Prop} {mc ms : Nat} (hx : p.tables.exec = Jvm.exec) (hb : c.code = cc) (hr : meth.sig.returnType = none) (hlocks : meth.locks = false) (hP : va_P D vwCl w H) (hD : va_D A w) (hS : va_S A s.heap H locs) (h1 : cells ≤ mc) (h2 : slots ≤ ms) (hdg : decode cc pc = .ok (.return_, 1)) (hpost : post w) : W p l e R s m args below meth c H locs cells slots (MQ below (zQc D A post) args s mc ms A) (F0 m pc ls []) :=
  W.widen (k := mc) (n := ms) h1 h2 (W.vret hx hb hr (fun t ht hW => ⟨⟨w, rfl, hpost, by rw [ht]; exact hP, hD⟩, hS.F ht⟩) hS.2.2 hdg hlocks)
theorem z_putF (hx : p.tables.exec = Jvm.exec) (hb : c.code = cc) {own C : String} {T0 : u_T} {N ci index : Nat} {Ts : List Cond} (hts : ∀ w ∈ Ts, w.before args s = true) (hown : s.vm.findClass own = some m.cls) (hK : zK D T s) (hP : va_P D vwCl ws H) (hD : va_D A ws) (hS : va_S A H0 H locs) (hin : ∀ w ∈ u_ws C T0 N, w ∈ Ts) {ty0 : Nat → FieldType} (hty : ∀ k, k < N → parseFieldDescriptor (T0 k).2.2.1 = some (ty0 k)) (hnm : ∀ a, a < N → ∀ b, b < N → a ≠ b → (T0 a).2.1 ≠ (T0 b).2.1) (hc : vwCl[ci]? = some (C, T0, N)) (q0 : Nat) {fs : List Value} (he : ws[q0]? = some (a, ob ci fs)) (k : Nat) (hk : k < N) (hlink : Cond.fieldLink own index (T0 k).1 (T0 k).2.1 (T0 k).2.2.1 ∈ Ts) (hfin : (T0 k).2.2.2 = true) (hin2 : meth.name = "<init>") (hdecl : (T0 k).1 = own) {v : Value} (hn : narrow (ty0 k) v = v) (hfit : fits (ty0 k) v = true) (hl : k < fs.length) (hdg : decode cc pc = .ok (.putfield index, 3))
    (kk : ∀ (H1 : Heap) (locs1 : List Loc), va_P D vwCl (ws.set q0 (a, ob ci (fs.set k v))) H1 → va_D A (ws.set q0 (a, ob ci (fs.set k v))) → va_S A H0 H1 locs1 → W p l e R s m args below meth c H1 locs1 cells slots Q (F0 m (pc + 3) ls rest)) : W p l e R s m args below meth c H locs cells slots Q (F0 m pc ls (v :: .ref a :: rest)) :=
  va_putF hx hb hts hin ty0 hty hnm hown hK.1 hP hD hS q0 he hc k hk (hts _ hlink) (fun _ h => h) hfin hin2 hdecl (hty k hk) hn hfit hl hdg kk
theorem z_newI (hx : p.tables.exec = Jvm.exec) (hb : c.code = cc) (harr : (Cond.arrayClass .int).before args s = true) (hK : zK D T s) (hP : va_P D vwCl ws H) (hD : va_D A ws) (hS : va_S A H0 H locs) (hA : ∀ q : Nat, H0.size ≤ q → A q) (t0 : Nat) {cA : ClassId} (ht : T[t0]? = some (cA, .int)) (N N1 : Nat) {z : Int} (hz : z = (N : Int)) (hN : N ≤ 2147483647) (hbytes : N * 4 ≤ 536870912) (hcells : cells + 1 ≤ R.cells) (hslots : slots + N ≤ R.slots) (hN1 : slots + N ≤ N1) (hdg : decode cc pc = .ok (.newarray .int, 2))
    (kk : ∀ (q : Nat) (H1 : Heap), va_P D vwCl (ws ++ [(q, aI cA N (fun _ => 0))]) H1 → va_D A (ws ++ [(q, aI cA N (fun _ => 0))]) → va_S A H0 H1 locs → W p l e R s m args below meth c H1 locs (cells + 1) N1 Q (F0 m (pc + 2) ls (.ref q :: rest))) : W p l e R s m args below meth c H locs cells slots Q (F0 m pc ls (.int (iZ z) :: rest)) := by
  subst hz
  refine va_newa (atype := .int) (ty := .int) (N' := N) (a0 := (N, .inl (fun _ => iZ 0))) hx hb harr rfl hK.1 hP hD hS hA (fun cA => by rw [vp_cell_i]; rfl) ?_ ?_ hbytes hcells hslots hdg (fun q cA' H1 hK1 hP1 hD1 hS1 => ?_)
  · rw [Int32.lt_iff_toInt_lt, iZ_toInt (by omega)]
    show ¬ ((N : Int) < 0)
    omega
  · have := iZ_cl (i := (N : Int)) (by omega)
    omega
  · have e1 : va_RA s cA' .int := (hK1.2 T.length (cA', .int) (by simp)).2
    have e2 : va_RA s cA .int := (hK.1.2 t0 _ ht).2
    have e3 : cA' = cA := Option.some.inj (Eq.trans (Eq.symm (show s.vm.findClass _ = some cA' from e1)) (show s.vm.findClass _ = some cA from e2))
    subst e3
    exact W.widen (Nat.le_refl _) hN1 (kk q H1 hP1 hD1 hS1)
theorem z_newB (hx : p.tables.exec = Jvm.exec) (hb : c.code = cc) (harr : (Cond.arrayClass .byte).before args s = true) (hK : zK D T s) (hP : va_P D vwCl ws H) (hD : va_D A ws) (hS : va_S A H0 H locs) (hA : ∀ q : Nat, H0.size ≤ q → A q) (t0 : Nat) {cA : ClassId} (ht : T[t0]? = some (cA, .byte)) (N N1 : Nat) {z : Int} (hz : z = (N : Int)) (hN : N ≤ 2147483647) (hbytes : N * 1 ≤ 536870912) (hcells : cells + 1 ≤ R.cells) (hslots : slots + N ≤ R.slots) (hN1 : slots + N ≤ N1) (hdg : decode cc pc = .ok (.newarray .byte, 2))
    (kk : ∀ (q : Nat) (H1 : Heap), va_P D vwCl (ws ++ [(q, aI cA N (fun _ => 0))]) H1 → va_D A (ws ++ [(q, aI cA N (fun _ => 0))]) → va_S A H0 H1 locs → W p l e R s m args below meth c H1 locs (cells + 1) N1 Q (F0 m (pc + 2) ls (.ref q :: rest))) : W p l e R s m args below meth c H locs cells slots Q (F0 m pc ls (.int (iZ z) :: rest)) := by
  subst hz
  refine va_newa (atype := .byte) (ty := .byte) (N' := N) (a0 := (N, .inl (fun _ => iZ 0))) hx hb harr rfl hK.1 hP hD hS hA (fun cA => by rw [vp_cell_i]; rfl) ?_ ?_ hbytes hcells hslots hdg (fun q cA' H1 hK1 hP1 hD1 hS1 => ?_)
  · rw [Int32.lt_iff_toInt_lt, iZ_toInt (by omega)]
    show ¬ ((N : Int) < 0)
    omega
  · have := iZ_cl (i := (N : Int)) (by omega)
    omega
  · have e1 : va_RA s cA' .byte := (hK1.2 T.length (cA', .byte) (by simp)).2
    have e2 : va_RA s cA .byte := (hK.1.2 t0 _ ht).2
    have e3 : cA' = cA := Option.some.inj (Eq.trans (Eq.symm (show s.vm.findClass _ = some cA' from e1)) (show s.vm.findClass _ = some cA from e2))
    subst e3
    exact W.widen (Nat.le_refl _) hN1 (kk q H1 hP1 hD1 hS1)
theorem z_newL (hx : p.tables.exec = Jvm.exec) (hb : c.code = cc) (harr : (Cond.arrayClass .long).before args s = true) (hK : zK D T s) (hP : va_P D vwCl ws H) (hD : va_D A ws) (hS : va_S A H0 H locs) (hA : ∀ q : Nat, H0.size ≤ q → A q) (t0 : Nat) {cA : ClassId} (ht : T[t0]? = some (cA, .long)) (N N1 : Nat) {z : Int} (hz : z = (N : Int)) (hN : N ≤ 2147483647) (hbytes : N * 8 ≤ 536870912) (hcells : cells + 1 ≤ R.cells) (hslots : slots + N ≤ R.slots) (hN1 : slots + N ≤ N1) (hdg : decode cc pc = .ok (.newarray .long, 2))
    (kk : ∀ (q : Nat) (H1 : Heap), va_P D vwCl (ws ++ [(q, aL cA N (fun _ => 0))]) H1 → va_D A (ws ++ [(q, aL cA N (fun _ => 0))]) → va_S A H0 H1 locs → W p l e R s m args below meth c H1 locs (cells + 1) N1 Q (F0 m (pc + 2) ls (.ref q :: rest))) : W p l e R s m args below meth c H locs cells slots Q (F0 m pc ls (.int (iZ z) :: rest)) := by
  subst hz
  refine va_newa (atype := .long) (ty := .long) (N' := N) (a0 := (N, .inr (.inl (fun _ => lZ 0)))) hx hb harr rfl hK.1 hP hD hS hA (fun cA => by rw [vp_cell_l]; rfl) ?_ ?_ hbytes hcells hslots hdg (fun q cA' H1 hK1 hP1 hD1 hS1 => ?_)
  · rw [Int32.lt_iff_toInt_lt, iZ_toInt (by omega)]
    show ¬ ((N : Int) < 0)
    omega
  · have := iZ_cl (i := (N : Int)) (by omega)
    omega
  · have e1 : va_RA s cA' .long := (hK1.2 T.length (cA', .long) (by simp)).2
    have e2 : va_RA s cA .long := (hK.1.2 t0 _ ht).2
    have e3 : cA' = cA := Option.some.inj (Eq.trans (Eq.symm (show s.vm.findClass _ = some cA' from e1)) (show s.vm.findClass _ = some cA from e2))
    subst e3
    exact W.widen (Nat.le_refl _) hN1 (kk q H1 hP1 hD1 hS1)
theorem z_preE {E : State → Prop} (hE : zStab E) (hE0 : E s) {As : List Value} (hK : zK D T s) (hP : va_P D vwCl ws H) (hD : va_D A ws) {is : List Nat} (his : is.map (fun i => ws[i]?) = w0.map some) (hnd : va_nd is = true) : PreS s H (va_Pc As (zPreE D T E w0 H.size)) As := by
  have hPc : va_P D vwCl w0 H := by
    intro k q hq
    have h1 : (is.map (fun i => ws[i]?))[k]? = some (some q) := by rw [his, List.getElem?_map, hq]; rfl
    rw [List.getElem?_map] at h1
    cases hi : is[k]? with
    | none => rw [hi] at h1; cases h1
    | some i => rw [hi] at h1; exact hP i q (Option.some.inj h1)
  have hDc := hD.sub is hnd his
  exact ⟨fun _ U g mk q => by
    obtain ⟨q0, q1, qP, qK, qD⟩ := q
    exact ⟨q0, q1, qP, ⟨zK.same (s := U) (U := U.calling g mk _) rfl qK.1, hE.2 U (U.calling g mk _) rfl qK.2⟩, qD⟩, fun U hU hW => ⟨rfl, by rw [hU], by rw [hU]; exact hPc, ⟨zK.warm hW hK, hE.1 s U hW hE0⟩, hDc.weaken (fun _ _ _ _ => trivial)⟩⟩
theorem z_cc {post : va_W → Prop} {mc ms k n : Nat} {st0 : List Value} {b : Array Value} (hr : va_Run p l e R s m args below meth c H locs cells slots mc ms (F0 m pc ls st0) rest (zQc D (va_A w0 H.size) post b) (va_A w0 H.size)) (hP : va_P D vwCl ws H) (hD : va_D A ws) (hS : va_S A s.heap H locs) (hA : ∀ q : Nat, s.heap.size ≤ q → A q) (isC isR : List Nat) (hC : isC.map (fun i => ws[i]?) = w0.map some) {wr : va_W} (hR : isR.map (fun i => ws[i]?) = wr.map some) (hn : va_nd isR = true) (hdis : ∀ i ∈ isR, i ∉ isC) (h1 : cells + mc ≤ k) (h2 : slots + ms ≤ n)
    (kk : ∀ (w : va_W) (H1 : Heap) (locs1 : List Loc), post w → va_P D vwCl (wr ++ w) H1 → va_D A (wr ++ w) → va_S A s.heap H1 locs1 → W p l e R s m args below meth c H1 locs1 k n Q (F0 m (pc + 3) ls rest)) : W p l e R s m args below meth c H locs cells slots Q (F0 m pc ls st0) := by
  have hF := va_free (wc := w0) hD hS hA isC hC
  refine va_callv hr hS (fun q _ h => hF q h) hF (fun w t H1 locs1 ht _ hw hB _ hk hS1 => ?_)
  obtain ⟨hP1, hD1⟩ := hB
  rw [ht] at hP1
  obtain ⟨g1, g2⟩ := va_join hP hD isC isR hC hR hn hdis hk hF hP1 hD1
  exact W.widen h1 h2 (kk w H1 locs1 hw g1 g2 hS1)
variable {y : MethodName} {bytes : ByteArray} {maxL nL index : Nat} {wy wy' : List Cond} {rm : Room} {Ts : List Cond} {own host : String} {b : Nat} {As st0 : List Value}
theorem z_I {E : State → Prop} (hE : zStab E) (hE0 : E s) {post : va_W → Prop} {mc ms k n : Nat} (S : CallFix p m c cc nL s args Ts own) (hM : zMc l y wy rm D T E (.ref b :: As) w0 mc ms post) (np : Nat) (hT : GoodIn Ts wy) (hw : wy = Cond.code y bytes maxL none :: wy') (hrc : rm.cells = mc) (hrs : rm.slots = ms) (hini : Cond.initialized y.cls ∈ Ts) (hl : Cond.methodLink own index y ∈ Ts) (hin : Cond.instanceMethod y ∈ Ts) (hy1 : y.name = "<init>") (hd : y.cls ≠ "java/lang/invoke/MethodHandle" ∧ y.cls ≠ "java/lang/invoke/VarHandle" ∧ (parseMethodDescriptor y.desc).map (fun d => d.parameters.length) = some np) (hR0 : rm.frames + 1 ≤ R.frames ∧ 8 + (maxL + 11) + rm.locals ≤ R.locals) (hf : cells + mc ≤ R.cells ∧ slots + ms ≤ R.slots) (hK : zK D T s) (hP : va_P D vwCl ws H) (hD : va_D A ws) (hS : va_S A s.heap H locs) (hA : ∀ q : Nat, s.heap.size ≤ q → A q) (isC isR : List Nat) (hC : isC.map (fun i => ws[i]?) = w0.map some) (hnc : va_nd isC = true) {wr : va_W} (hR : isR.map (fun i => ws[i]?) = wr.map some) (hnr : va_nd isR = true) (hdis : ∀ i ∈ isR, i ∉ isC) (h1 : cells + mc ≤ k) (h2 : slots + ms ≤ n) (hn : As.length = np) (hsize : ls.size = nL) (hst : st0 = As.reverse ++ .ref b :: rest) (hW : (rest.map fun v => v.category).sum ≤ 8) (hdg : decode cc pc = .ok (.invokespecial index, 3))
    (kk : ∀ (w : va_W) (H1 : Heap) (locs1 : List Loc), post w → va_P D vwCl (wr ++ w) H1 → va_D A (wr ++ w) → va_S A s.heap H1 locs1 → W p l e R s m args below meth c H1 locs1 k n Q (F0 m (pc + 3) ls rest)) : W p l e R s m args below meth c H locs cells slots Q (F0 m pc ls st0) :=
  z_cc (va_runI S (hM H.size) (cwI np S.2.2.2.2 hT hw hrc hrs (S.2.2.2.2 _ hini) (S.2.2.2.2 _ hl) (S.2.2.2.2 _ hin) hy1 hd hR0) (z_preE hE hE0 hK hP hD hC hnc) rfl hn hsize hst (lv_room hW) hdg hf) hP hD hS hA isC isR hC hR hnr hdis h1 h2 kk
theorem z_IN {E : State → Prop} (hE : zStab E) (hE0 : E s) {post : va_W → Prop} {mc ms k n : Nat} (S : CallFix p m c cc nL s args Ts own) (hM : zMc l y wy rm D T E (.ref b :: As) w0 mc ms post) (np : Nat) (hT : GoodIn Ts wy) (hw : wy = Cond.code y bytes maxL none :: wy') (hrc : rm.cells = mc) (hrs : rm.slots = ms) (hini : Cond.initialized y.cls ∈ Ts) (hl : va_Nw (.methodLinkNest own index y host) s) (hin : Cond.instanceMethod y ∈ Ts) (hy1 : y.name = "<init>") (hd : y.cls ≠ "java/lang/invoke/MethodHandle" ∧ y.cls ≠ "java/lang/invoke/VarHandle" ∧ (parseMethodDescriptor y.desc).map (fun d => d.parameters.length) = some np) (hR0 : rm.frames + 1 ≤ R.frames ∧ 8 + (maxL + 11) + rm.locals ≤ R.locals) (hf : cells + mc ≤ R.cells ∧ slots + ms ≤ R.slots) (hK : zK D T s) (hP : va_P D vwCl ws H) (hD : va_D A ws) (hS : va_S A s.heap H locs) (hA : ∀ q : Nat, s.heap.size ≤ q → A q) (isC isR : List Nat) (hC : isC.map (fun i => ws[i]?) = w0.map some) (hnc : va_nd isC = true) {wr : va_W} (hR : isR.map (fun i => ws[i]?) = wr.map some) (hnr : va_nd isR = true) (hdis : ∀ i ∈ isR, i ∉ isC) (h1 : cells + mc ≤ k) (h2 : slots + ms ≤ n) (hn : As.length = np) (hsize : ls.size = nL) (hst : st0 = As.reverse ++ .ref b :: rest) (hW : (rest.map fun v => v.category).sum ≤ 8) (hdg : decode cc pc = .ok (.invokespecial index, 3))
    (kk : ∀ (w : va_W) (H1 : Heap) (locs1 : List Loc), post w → va_P D vwCl (wr ++ w) H1 → va_D A (wr ++ w) → va_S A s.heap H1 locs1 → W p l e R s m args below meth c H1 locs1 k n Q (F0 m (pc + 3) ls rest)) : W p l e R s m args below meth c H locs cells slots Q (F0 m pc ls st0) :=
  z_cc (va_runIN S (hM H.size) ⟨va_cnB np S.2.2.2.2 hT hw hrc hrs hl (S.2.2.2.2 _ hini) hd hR0, hy1, S.2.2.2.2 _ hin⟩ (z_preE hE hE0 hK hP hD hC hnc) rfl hn hsize hst (lv_room hW) hdg hf) hP hD hS hA isC isR hC hR hnr hdis h1 h2 kk
end ZCC
