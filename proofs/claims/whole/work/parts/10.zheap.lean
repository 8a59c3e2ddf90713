/-! the world's cells in their places, some of them changed -/
noncomputable def zput (ws : va_W) : List Nat → va_W → va_W
  | [], _ => ws
  | _ :: _, [] => ws
  | i :: is, e :: es => (zput ws is es).set i e
theorem zput_len (ws : va_W) : ∀ (is : List Nat) (es : va_W), (zput ws is es).length = ws.length
  | [], _ => rfl
  | _ :: _, [] => rfl
  | i :: is, e :: es => by rw [zput, List.length_set, zput_len ws is es]
theorem zput_key (ws : va_W) : ∀ (is : List Nat) (es : va_W), is.length = es.length → va_nd is = true → ∀ (k : Nat) (q : Nat × va_E), (zput ws is es)[k]? = some q → (k ∉ is ∧ ws[k]? = some q) ∨ ∃ j : Nat, is[j]? = some k ∧ es[j]? = some q
  | [], [], _, _, k, q, h => Or.inl ⟨List.not_mem_nil, h⟩
  | [], _ :: _, hl, _, _, _, _ => by simp at hl
  | _ :: _, [], hl, _, _, _, _ => by simp at hl
  | i :: is, e :: es, hl, hn, k, q, h => by
    have hl2 : is.length = es.length := by simpa using hl
    have hn2 : va_nd is = true := by
      simp only [va_nd, Bool.and_eq_true] at hn
      exact hn.2
    rw [zput] at h
    by_cases hk : k = i
    · subst hk
      have hb : k < (zput ws is es).length := by
        have := (List.getElem?_eq_some_iff.mp h).1
        rwa [List.length_set] at this
      rw [List.getElem?_set_self hb] at h
      cases h
      exact Or.inr ⟨0, rfl, rfl⟩
    · rw [List.getElem?_set_ne (Ne.symm hk)] at h
      rcases zput_key ws is es hl2 hn2 k q h with ⟨h1, h2⟩ | ⟨j, h1, h2⟩
      · exact Or.inl ⟨fun z => (List.mem_cons.mp z).elim hk h1, h2⟩
      · exact Or.inr ⟨j + 1, by simpa using h1, by simpa using h2⟩
theorem z_join {A0 : Nat → Prop} {D : va_G} {ws w0 w' : va_W} {H H1 : Heap} (hP : va_P D vwCl ws H) (hD : va_D A0 ws) (is : List Nat) (his : is.map (fun i => ws[i]?) = w0.map some) (hnd : va_nd is = true) (hk : ∀ q : Nat, q < H.size → ¬ va_A w0 H.size q → H1[q]? = H[q]?) (hP1 : va_P D vwCl w' H1) (hadr : w'.map Prod.fst = w0.map Prod.fst) : va_P D vwCl (zput ws is w') H1 ∧ va_D A0 (zput ws is w') := by
  have hl0 : is.length = w0.length := by simpa using congrArg List.length his
  have hl1 : w'.length = w0.length := by simpa using congrArg List.length hadr
  have at' : ∀ (j i : Nat), is[j]? = some i → ∃ q, w0[j]? = some q ∧ ws[i]? = some q := by
    intro j i hj
    have h1 : (w0.map some)[j]? = some (ws[i]?) := by rw [← his, List.getElem?_map, hj]; rfl
    rw [List.getElem?_map] at h1
    cases hq : w0[j]? with
    | none => rw [hq] at h1; cases h1
    | some q => rw [hq] at h1; exact ⟨q, rfl, (Option.some.inj h1).symm⟩
  have key := zput_key ws is w' (by omega) hnd
  refine ⟨fun k q hq => ?_, fun i j x y hx hy hxy => ?_, fun k q hq => ?_⟩
  · rcases key k q hq with ⟨h1, h2⟩ | ⟨j, -, h2⟩
    · refine (hP k q h2).kept (hk q.1 (hP k q h2).lt (fun z => ?_))
      rcases z with ⟨j, e, z⟩ | z
      · have hj : j < is.length := by
          have := (List.getElem?_eq_some_iff.mp z).1
          omega
        obtain ⟨q2, a1, a2⟩ := at' j is[j] (List.getElem?_eq_getElem hj)
        rw [z] at a1
        cases a1
        have e1 := hD.1 k is[j] q (q.1, e) h2 a2 rfl
        exact h1 (by rw [e1]; exact List.getElem_mem hj)
      · exact absurd (hP k q h2).lt (Nat.not_lt.mpr z)
    · exact hP1 j q h2
  · have adr : ∀ (k : Nat) (q : Nat × va_E), (zput ws is w')[k]? = some q → ∃ q0, ws[k]? = some q0 ∧ q0.1 = q.1 := by
      intro k q hq
      rcases key k q hq with ⟨-, h2⟩ | ⟨j, h1, h2⟩
      · exact ⟨q, h2, rfl⟩
      · obtain ⟨q0, a1, a2⟩ := at' j k h1
        have e1 : (w'.map Prod.fst)[j]? = (w0.map Prod.fst)[j]? := by rw [hadr]
        rw [List.getElem?_map, List.getElem?_map, h2, a1] at e1
        exact ⟨q0, a2, (Option.some.inj e1).symm⟩
    obtain ⟨x0, h1, h2⟩ := adr i x hx
    obtain ⟨y0, h3, h4⟩ := adr j y hy
    exact hD.1 i j x0 y0 h1 h3 (h2.trans (hxy.trans h4.symm))
  · rcases key k q hq with ⟨-, h2⟩ | ⟨j, h1, h2⟩
    · exact hD.2 k q h2
    · obtain ⟨q0, a1, a2⟩ := at' j k h1
      have e1 : (w'.map Prod.fst)[j]? = (w0.map Prod.fst)[j]? := by rw [hadr]
      rw [List.getElem?_map, List.getElem?_map, h2, a1] at e1
      have e2 : q.1 = q0.1 := Option.some.inj e1
      rw [e2]
      exact hD.2 k q0 a2
/-! what the tables say, besides the words: the classes, and three calls among nest mates -/
noncomputable def nw1 : Cond := .methodLinkNest RX4 53 yX9_isWithin "GrowsByHalf"
noncomputable def nw2 : Cond := .methodLinkNest RX8 40 yX9_isWithin "GrowsByHalf"
noncomputable def nw3 : Cond := .methodLinkNest RX3 52 yX9_isTale "GrowsByHalf"
noncomputable abbrev zT (cI cJ cB : ClassId) : List (ClassId × FieldType) := [(cI, .int), (cJ, .long), (cB, .byte)]
def zK (D : va_G) (T : List (ClassId × FieldType)) (U : State) : Prop := va_K D vwCl T U ∧ va_Nw nw1 U ∧ va_Nw nw2 U ∧ va_Nw nw3 U
theorem zK.warm {D : va_G} {T : List (ClassId × FieldType)} {s U : State} (hW : s.WarmedH U.vm) (h : zK D T s) : zK D T U := ⟨va_K.moved hW.alike h.1, va_Nw.warmM hW h.2.1, va_Nw.warmM hW h.2.2.1, va_Nw.warmM hW h.2.2.2⟩
theorem zK.same {D : va_G} {T : List (ClassId × FieldType)} {s U : State} (hv : s.vm = U.vm) (h : zK D T s) : zK D T U := ⟨va_K.moved (by rw [hv]; exact Vm.Alike.refl U.vm) h.1, va_Nw.same rfl hv h.2.1, va_Nw.same rfl hv h.2.2.1, va_Nw.same rfl hv h.2.2.2⟩
def zPre (D : va_G) (T : List (ClassId × FieldType)) (w0 : va_W) (sz : Nat) (U : State) : Prop := U.heap.size = sz ∧ va_P D vwCl w0 U.heap ∧ zK D T U ∧ va_D (fun _ => True) w0
/-- an end's world: its cells stand, apart, in the method's own part -/
def zWd (D : va_G) (A : Nat → Prop) (w : va_W) (t : State) : Prop := va_P D vwCl w t.heap ∧ va_D A w
def zQi (D : va_G) (w0 : va_W) (A : Nat → Prop) (post : Int → va_W → Prop) : Array Value → State → Outcome → State → Prop := va_Qi (fun (r : Int32) (w : va_W) => w.map Prod.fst = w0.map Prod.fst ∧ ∃ z : Int, r = iZ z ∧ post z w) (fun w t => zWd D A w t) A
def zQl (D : va_G) (w0 : va_W) (A : Nat → Prop) (post : Int → va_W → Prop) : Array Value → State → Outcome → State → Prop := va_Ql (fun (r : Int64) (w : va_W) => w.map Prod.fst = w0.map Prod.fst ∧ ∃ z : Int, r = lZ z ∧ post z w) (fun w t => zWd D A w t) A
def zQv (D : va_G) (w0 : va_W) (A : Nat → Prop) (post : va_W → Prop) : Array Value → State → Outcome → State → Prop := va_Qv (fun (w : va_W) => w.map Prod.fst = w0.map Prod.fst ∧ post w) (fun w t => zWd D A w t) A
/-- the contract of a method that makes nothing: from the cells w0 on; behind it they hold w, with 'post answer w' -/
def zMi (l : Launch) (y : MethodName) (ws : List Cond) (rm : Room) (D : va_G) (T : List (ClassId × FieldType)) (as : List Value) (w0 : va_W) (post : Int → va_W → Prop) : Prop := ∀ sz : Nat, Met l y ws rm (va_Pc as (zPre D T w0 sz)) (zQi D w0 (va_A w0 sz) post) 0 0 (va_A w0 sz)
def zMl (l : Launch) (y : MethodName) (ws : List Cond) (rm : Room) (D : va_G) (T : List (ClassId × FieldType)) (as : List Value) (w0 : va_W) (post : Int → va_W → Prop) : Prop := ∀ sz : Nat, Met l y ws rm (va_Pc as (zPre D T w0 sz)) (zQl D w0 (va_A w0 sz) post) 0 0 (va_A w0 sz)
def zMv (l : Launch) (y : MethodName) (ws : List Cond) (rm : Room) (D : va_G) (T : List (ClassId × FieldType)) (as : List Value) (w0 : va_W) (post : va_W → Prop) : Prop := ∀ sz : Nat, Met l y ws rm (va_Pc as (zPre D T w0 sz)) (zQv D w0 (va_A w0 sz) post) 0 0 (va_A w0 sz)
abbrev zRm (f n : Nat) : Room := { frames := f, cells := 0, slots := 0, locals := n }
section ZM
variable {l : Launch} {y : MethodName} {ws ws' : List Cond} {rm : Room} {D : va_G} {T : List (ClassId × FieldType)} {as : List Value} {w0 : va_W} {cc : ByteArray} {maxL : Nat} {ret : Option FieldType}
/-- what a walk begins with -/
theorem z_of {Qc : (Nat → Prop) → Array Value → State → Outcome → State → Prop} (hy : plainName y.cls = true) (hw : ws = Cond.code y cc maxL ret :: ws') (hmx : (lg_sl as).length ≤ maxL)
    (body : ∀ (p : Program) (e : Env) (s : State) (m : MethodId) (below : List Frame) (meth : Method) (c : Code) (A : Nat → Prop) (ls : Array Slot), p.tables.exec = Jvm.exec → c.code = cc → meth.sig.returnType = ret → (∀ w ∈ ws, w.before as.toArray s = true) → s.vm.findClass y.cls = some m.cls → meth.locks = false → c.maxLocals = maxL → zK D T s → va_P D vwCl w0 s.heap → va_D A w0 → va_S A s.heap s.heap [] → (∀ q : Nat, s.heap.size ≤ q → A q) → lv_has ls maxL (lv_args 0 as) →
      W p l e rm s m as.toArray below meth c s.heap [] 0 0 (MQ below (Qc A) as.toArray s 0 0 A) (F0 m 0 ls [])) : ∀ sz : Nat, Met l y ws rm (va_Pc as (zPre D T w0 sz)) (Qc (va_A w0 sz)) 0 0 (va_A w0 sz) := by
  intro sz
  refine Met.ofW (cc := cc) (maxL := maxL) (ret := ret) hy hw ?_
  intro p e s m args below meth c s₁ B hml hv
  obtain ⟨rfl, hsz, hP, hK, hD⟩ := hv
  have hts := atoms_spec (ws := ws) B.pre
  have hl := lv_entry as (n := maxL) hmx
  rw [lg_entry_eq]
  generalize (lg_sl as ++ List.replicate (maxL - (lg_sl as).length) Slot.unset).toArray = ls at hl ⊢
  exact body p e s m below meth c (va_A w0 sz) ls B.exec B.bytes B.returns hts (findClass_of_methodNamed B.named) B.notSynchronized hml hK hP hD.self va_S.rf (fun q h => Or.inr (by rw [hsz] at h; exact h)) hl
end ZM
section ZE
variable {p : Program} {l : Launch} {e : Env} {R : Room} {s : State} {m : MethodId} {args : Array Value} {below : List Frame} {meth : Method} {c : Code} {H : Heap} {locs : List Loc} {cells slots : Nat} {Q : State → Prop} {cc : ByteArray} {pc : Nat} {ls : Array Slot} {D : va_G} {T : List (ClassId × FieldType)} {w0 w : va_W} {A : Nat → Prop}
theorem z_iret {post : Int → va_W → Prop} {z : Int} (hx : p.tables.exec = Jvm.exec) (hb : c.code = cc) (hr : meth.sig.returnType = some .int) (hlocks : meth.locks = false) (hP : va_P D vwCl w H) (hD : va_D A w) (hS : va_S A s.heap H locs) (hdg : decode cc pc = .ok (.ireturn, 1)) (hadr : w.map Prod.fst = w0.map Prod.fst) (hpost : post z w) : W p l e R s m args below meth c H locs cells slots (MQ below (zQi D w0 A post) args s cells slots A) (F0 m pc ls [.int (iZ z)]) :=
  W.iret (v := iZ z) hx hb hr (fun t ht hW => ⟨⟨iZ z, w, rfl, ⟨hadr, z, rfl, hpost⟩, by rw [ht]; exact hP, hD⟩, hS.F ht⟩) hS.2.2 hdg hlocks
theorem z_zret {post : Int → va_W → Prop} {z : Int} (hx : p.tables.exec = Jvm.exec) (hb : c.code = cc) (hr : meth.sig.returnType = some .boolean) (hlocks : meth.locks = false) (hP : va_P D vwCl w H) (hD : va_D A w) (hS : va_S A s.heap H locs) (hdg : decode cc pc = .ok (.ireturn, 1)) (hz : z = 0 ∨ z = 1) (hadr : w.map Prod.fst = w0.map Prod.fst) (hpost : post z w) : W p l e R s m args below meth c H locs cells slots (MQ below (zQi D w0 A post) args s cells slots A) (F0 m pc ls [.int (iZ z)]) :=
  W.zret (v := iZ z) hx hb hr (by rcases hz with rfl | rfl <;> rfl) (fun t ht hW => ⟨⟨iZ z, w, rfl, ⟨hadr, z, rfl, hpost⟩, by rw [ht]; exact hP, hD⟩, hS.F ht⟩) hS.2.2 hdg hlocks
theorem z_lret {post : Int → va_W → Prop} {z : Int} (hx : p.tables.exec = Jvm.exec) (hb : c.code = cc) (hr : meth.sig.returnType = some .long) (hlocks : meth.locks = false) (hP : va_P D vwCl w H) (hD : va_D A w) (hS : va_S A s.heap H locs) (hdg : decode cc pc = .ok (.lreturn, 1)) (hadr : w.map Prod.fst = w0.map Prod.fst) (hpost : post z w) : W p l e R s m args below meth c H locs cells slots (MQ below (zQl D w0 A post) args s cells slots A) (F0 m pc ls [.long (lZ z)]) :=
  W.lret (v := lZ z) hx hb hr (fun t ht hW => ⟨⟨lZ z, w, rfl, ⟨hadr, z, rfl, hpost⟩, by rw [ht]; exact hP, hD⟩, hS.F ht⟩) hS.2.2 hdg hlocks
theorem z_vret {post : va_W → Prop} (hx : p.tables.exec = Jvm.exec) (hb : c.code = cc) (hr : meth.sig.returnType = none) (hlocks : meth.locks = false) (hP : va_P D vwCl w H) (hD : va_D A w) (hS : va_S A s.heap H locs) (hdg : decode cc pc = .ok (.return_, 1)) (hadr : w.map Prod.fst = w0.map Prod.fst) (hpost : post w) : W p l e R s m args below meth c H locs cells slots (MQ below (zQv D w0 A post) args s cells slots A) (F0 m pc ls []) :=
  W.vret hx hb hr (fun t ht hW => ⟨⟨w, rfl, ⟨hadr, hpost⟩, by rw [ht]; exact hP, hD⟩, hS.F ht⟩) hS.2.2 hdg hlocks
end ZE
section ZH
variable {p : Program} {l : Launch} {e : Env} {R : Room} {s : State} {m : MethodId} {args : Array Value} {below : List Frame} {meth : Method} {c : Code} {H H0 : Heap} {locs : List Loc} {cells slots : Nat} {Q : State → Prop} {cc : ByteArray} {pc : Nat} {ls : Array Slot} {rest : List Value} {D : va_G} {T : List (ClassId × FieldType)} {ws : va_W} {A : Nat → Prop} {a : Nat}
theorem z_get (hx : p.tables.exec = Jvm.exec) (hb : c.code = cc) {own C : String} {T0 : u_T} {N ci index : Nat} {Ts : List Cond} (hts : ∀ w ∈ Ts, w.before args s = true) (hown : s.vm.findClass own = some m.cls) (hK : zK D T s) (hP : va_P D vwCl ws H) (hin : ∀ w ∈ u_ws C T0 N, w ∈ Ts) (hc : vwCl[ci]? = some (C, T0, N)) (q0 : Nat) {fs : List Value} (he : ws[q0]? = some (a, ob ci fs)) (k : Nat) (hk : k < N) (hlink : Cond.fieldLink own index (T0 k).1 (T0 k).2.1 (T0 k).2.2.1 ∈ Ts) {v : Value} (hv : fs[k]? = some v) (hdg : decode cc pc = .ok (.getfield index, 3))
    (kk : W p l e R s m args below meth c H locs cells slots Q (F0 m (pc + 3) ls (v :: rest))) : W p l e R s m args below meth c H locs cells slots Q (F0 m pc ls (.ref a :: rest)) :=
  va_get hx hb hts hin hown hK.1 hP q0 he hc k hk (hts _ hlink) (fun _ h => h) hv hdg kk
theorem z_put (hx : p.tables.exec = Jvm.exec) (hb : c.code = cc) {own C : String} {T0 : u_T} {N ci index : Nat} {Ts : List Cond} (hts : ∀ w ∈ Ts, w.before args s = true) (hown : s.vm.findClass own = some m.cls) (hK : zK D T s) (hP : va_P D vwCl ws H) (hD : va_D A ws) (hS : va_S A H0 H locs) (hin : ∀ w ∈ u_ws C T0 N, w ∈ Ts) {ty0 : Nat → FieldType} (hty : ∀ k, k < N → parseFieldDescriptor (T0 k).2.2.1 = some (ty0 k)) (hnm : ∀ a, a < N → ∀ b, b < N → a ≠ b → (T0 a).2.1 ≠ (T0 b).2.1) (hc : vwCl[ci]? = some (C, T0, N)) (q0 : Nat) {fs : List Value} (he : ws[q0]? = some (a, ob ci fs)) (k : Nat) (hk : k < N) (hlink : Cond.fieldLink own index (T0 k).1 (T0 k).2.1 (T0 k).2.2.1 ∈ Ts) (hfin : (T0 k).2.2.2 = false) {v : Value} (hn : narrow (ty0 k) v = v) (hfit : fits (ty0 k) v = true) (hl : k < fs.length) (hdg : decode cc pc = .ok (.putfield index, 3))
    (kk : ∀ (H1 : Heap) (locs1 : List Loc), va_P D vwCl (ws.set q0 (a, ob ci (fs.set k v))) H1 → va_D A (ws.set q0 (a, ob ci (fs.set k v))) → va_S A H0 H1 locs1 → W p l e R s m args below meth c H1 locs1 cells slots Q (F0 m (pc + 3) ls rest)) : W p l e R s m args below meth c H locs cells slots Q (F0 m pc ls (v :: .ref a :: rest)) :=
  va_put hx hb hts hin ty0 hty hnm hown hK.1 hP hD hS q0 he hc k hk (hts _ hlink) (fun _ h => h) hfin (hty k hk) hn hfit hl hdg kk
theorem z_iald (hx : p.tables.exec = Jvm.exec) (hb : c.code = cc) (hK : zK D T s) (hP : va_P D vwCl ws H) (q0 t0 : Nat) {cA : ClassId} {n : Nat} {g : Int → Int} (ha : ws[q0]? = some (a, aI cA n g)) (ht : T[t0]? = some (cA, .int)) {i : Int} (hn : n < 2147483648) (hi : 0 ≤ i ∧ i < (n : Int)) (hdg : decode cc pc = .ok (.iaload, 1))
    (kk : W p l e R s m args below meth c H locs cells slots Q (F0 m (pc + 1) ls (.int (iZ (g i)) :: rest))) : W p l e R s m args below meth c H locs cells slots Q (F0 m pc ls (.int (iZ i) :: .ref a :: rest)) :=
  va_iald hx hb hK.1 hP q0 t0 ha ht (iZ_in hi hn) hdg (by rw [iZ_cl (by omega)]; exact kk)
theorem z_bald (hx : p.tables.exec = Jvm.exec) (hb : c.code = cc) (hK : zK D T s) (hP : va_P D vwCl ws H) (q0 t0 : Nat) {cA : ClassId} {n : Nat} {g : Int → Int} (ha : ws[q0]? = some (a, aI cA n g)) (ht : T[t0]? = some (cA, .byte)) {i : Int} (hn : n < 2147483648) (hi : 0 ≤ i ∧ i < (n : Int)) (hdg : decode cc pc = .ok (.baload, 1))
    (kk : W p l e R s m args below meth c H locs cells slots Q (F0 m (pc + 1) ls (.int (iZ (g i)) :: rest))) : W p l e R s m args below meth c H locs cells slots Q (F0 m pc ls (.int (iZ i) :: .ref a :: rest)) :=
  va_bald hx hb hK.1 hP q0 t0 ha ht (iZ_in hi hn) hdg (by rw [iZ_cl (by omega)]; exact kk)
theorem z_lald (hx : p.tables.exec = Jvm.exec) (hb : c.code = cc) (hK : zK D T s) (hP : va_P D vwCl ws H) (q0 t0 : Nat) {cA : ClassId} {n : Nat} {g : Int → Int} (ha : ws[q0]? = some (a, aL cA n g)) (ht : T[t0]? = some (cA, .long)) {i : Int} (hn : n < 2147483648) (hi : 0 ≤ i ∧ i < (n : Int)) (hdg : decode cc pc = .ok (.laload, 1))
    (kk : W p l e R s m args below meth c H locs cells slots Q (F0 m (pc + 1) ls (.long (lZ (g i)) :: rest))) : W p l e R s m args below meth c H locs cells slots Q (F0 m pc ls (.int (iZ i) :: .ref a :: rest)) :=
  va_lald hx hb hK.1 hP q0 t0 ha ht (iZ_in hi hn) hdg (by rw [iZ_cl (by omega)]; exact kk)
theorem z_iast (hx : p.tables.exec = Jvm.exec) (hb : c.code = cc) (hK : zK D T s) (hP : va_P D vwCl ws H) (hD : va_D A ws) (hS : va_S A H0 H locs) (q0 t0 : Nat) {cA : ClassId} {n : Nat} {g : Int → Int} (ha : ws[q0]? = some (a, aI cA n g)) (ht : T[t0]? = some (cA, .int)) {i v : Int} (hn : n < 2147483648) (hi : 0 ≤ i ∧ i < (n : Int)) (hdg : decode cc pc = .ok (.iastore, 1))
    (kk : ∀ (H1 : Heap) (locs1 : List Loc), va_P D vwCl (ws.set q0 (a, aI cA n (zu g i v))) H1 → va_D A (ws.set q0 (a, aI cA n (zu g i v))) → va_S A H0 H1 locs1 → W p l e R s m args below meth c H1 locs1 cells slots Q (F0 m (pc + 1) ls rest)) : W p l e R s m args below meth c H locs cells slots Q (F0 m pc ls (.int (iZ v) :: .int (iZ i) :: .ref a :: rest)) :=
  va_iast hx hb hK.1 hP hD hS q0 t0 ha ht (iZ_in hi hn) hdg (by rw [upd_zu v (by omega)]; exact kk)
theorem z_bast (hx : p.tables.exec = Jvm.exec) (hb : c.code = cc) (hK : zK D T s) (hP : va_P D vwCl ws H) (hD : va_D A ws) (hS : va_S A H0 H locs) (q0 t0 : Nat) {cA : ClassId} {n : Nat} {g : Int → Int} (ha : ws[q0]? = some (a, aI cA n g)) (ht : T[t0]? = some (cA, .byte)) {i v : Int} (hn : n < 2147483648) (hi : 0 ≤ i ∧ i < (n : Int)) (hv : -128 ≤ v ∧ v < 128) (hdg : decode cc pc = .ok (.bastore, 1))
    (kk : ∀ (H1 : Heap) (locs1 : List Loc), va_P D vwCl (ws.set q0 (a, aI cA n (zu g i v))) H1 → va_D A (ws.set q0 (a, aI cA n (zu g i v))) → va_S A H0 H1 locs1 → W p l e R s m args below meth c H1 locs1 cells slots Q (F0 m (pc + 1) ls rest)) : W p l e R s m args below meth c H locs cells slots Q (F0 m pc ls (.int (iZ v) :: .int (iZ i) :: .ref a :: rest)) :=
  va_bast hx hb hK.1 hP hD hS q0 t0 ha ht (iZ_in hi hn) hdg (by rw [vp_nar_byte, iZ_b hv, upd_zu v (by omega)]; exact kk)
theorem z_last (hx : p.tables.exec = Jvm.exec) (hb : c.code = cc) (hK : zK D T s) (hP : va_P D vwCl ws H) (hD : va_D A ws) (hS : va_S A H0 H locs) (q0 t0 : Nat) {cA : ClassId} {n : Nat} {g : Int → Int} (ha : ws[q0]? = some (a, aL cA n g)) (ht : T[t0]? = some (cA, .long)) {i v : Int} (hn : n < 2147483648) (hi : 0 ≤ i ∧ i < (n : Int)) (hdg : decode cc pc = .ok (.lastore, 1))
    (kk : ∀ (H1 : Heap) (locs1 : List Loc), va_P D vwCl (ws.set q0 (a, aL cA n (zu g i v))) H1 → va_D A (ws.set q0 (a, aL cA n (zu g i v))) → va_S A H0 H1 locs1 → W p l e R s m args below meth c H1 locs1 cells slots Q (F0 m (pc + 1) ls rest)) : W p l e R s m args below meth c H locs cells slots Q (F0 m pc ls (.long (lZ v) :: .int (iZ i) :: .ref a :: rest)) :=
  va_last hx hb hK.1 hP hD hS q0 t0 ha ht (iZ_in hi hn) hdg (by rw [updL_zu v (by omega)]; exact kk)
end ZH
/-! calls -/
section ZC
variable {p : Program} {l : Launch} {e : Env} {R : Room} {s : State} {m : MethodId} {args : Array Value} {below : List Frame} {meth : Method} {c : Code} {H : Heap} {locs : List Loc} {cells slots : Nat} {Q : State → Prop} {cc : ByteArray} {pc : Nat} {ls : Array Slot} {rest : List Value} {D : va_G} {T : List (ClassId × FieldType)} {ws w0 : va_W} {A : Nat → Prop}
variable {y : MethodName} {bytes : ByteArray} {maxL nL n index : Nat} {ret : Option FieldType} {wy : List Cond} {rm : Room} {Ts : List Cond} {own C host : String} {b : Nat} {As st0 : List Value} {a : Array Value}
theorem z_blind {as : List Value} {sz : Nat} : FrameBlind (va_Pc as (zPre D T w0 sz)) := fun _ U g mk q => by
  obtain ⟨q0, q1, qP, qK, qD⟩ := q
  exact ⟨q0, q1, qP, zK.same (s := U) (U := U.calling g mk _) rfl qK, qD⟩
theorem z_preS (hK : zK D T s) (hP : va_P D vwCl ws H) (hD : va_D A ws) {is : List Nat} (his : is.map (fun i => ws[i]?) = w0.map some) (hnd : va_nd is = true) : PreS s H (va_Pc As (zPre D T w0 H.size)) As := by
  have hPc : va_P D vwCl w0 H := by
    intro k q hq
    have h1 : (is.map (fun i => ws[i]?))[k]? = some (some q) := by rw [his, List.getElem?_map, hq]; rfl
    rw [List.getElem?_map] at h1
    cases hi : is[k]? with
    | none => rw [hi] at h1; cases h1
    | some i => rw [hi] at h1; exact hP i q (Option.some.inj h1)
  have hDc := hD.sub is hnd his
  exact ⟨z_blind, fun U hU hW => ⟨rfl, by rw [hU], by rw [hU]; exact hPc, zK.warm hW hK, hDc.weaken (fun _ _ _ _ => trivial)⟩⟩
theorem z_ci {post : Int → va_W → Prop} (hr : va_Run p l e R s m args below meth c H locs cells slots 0 0 (F0 m pc ls st0) rest (zQi D w0 (va_A w0 H.size) post a) (va_A w0 H.size)) (hP : va_P D vwCl ws H) (hD : va_D A ws) (hS : va_S A s.heap H locs) (hA : ∀ q : Nat, s.heap.size ≤ q → A q) (is : List Nat) (his : is.map (fun i => ws[i]?) = w0.map some) (hnd : va_nd is = true)
    (kk : ∀ (z : Int) (w : va_W) (H1 : Heap) (locs1 : List Loc), post z w → va_P D vwCl (zput ws is w) H1 → va_D A (zput ws is w) → va_S A s.heap H1 locs1 → W p l e R s m args below meth c H1 locs1 cells slots Q (F0 m (pc + 3) ls (.int (iZ z) :: rest))) : W p l e R s m args below meth c H locs cells slots Q (F0 m pc ls st0) := by
  have hF := va_free (wc := w0) hD hS hA is his
  refine va_calli hr hS (fun q _ h => hF q h) hF (fun r w t H1 locs1 ht _ hw hB _ hk hS1 => ?_)
  obtain ⟨hadr, z, rfl, hp⟩ := hw
  obtain ⟨hP1, -⟩ := hB
  rw [ht] at hP1
  obtain ⟨g1, g2⟩ := z_join hP hD is his hnd hk hP1 hadr
  exact kk z w H1 locs1 hp g1 g2 hS1
theorem z_cl {post : Int → va_W → Prop} (hr : va_Run p l e R s m args below meth c H locs cells slots 0 0 (F0 m pc ls st0) rest (zQl D w0 (va_A w0 H.size) post a) (va_A w0 H.size)) (hP : va_P D vwCl ws H) (hD : va_D A ws) (hS : va_S A s.heap H locs) (hA : ∀ q : Nat, s.heap.size ≤ q → A q) (is : List Nat) (his : is.map (fun i => ws[i]?) = w0.map some) (hnd : va_nd is = true)
    (kk : ∀ (z : Int) (w : va_W) (H1 : Heap) (locs1 : List Loc), post z w → va_P D vwCl (zput ws is w) H1 → va_D A (zput ws is w) → va_S A s.heap H1 locs1 → W p l e R s m args below meth c H1 locs1 cells slots Q (F0 m (pc + 3) ls (.long (lZ z) :: rest))) : W p l e R s m args below meth c H locs cells slots Q (F0 m pc ls st0) := by
  have hF := va_free (wc := w0) hD hS hA is his
  refine va_calll hr hS (fun q _ h => hF q h) hF (fun r w t H1 locs1 ht _ hw hB _ hk hS1 => ?_)
  obtain ⟨hadr, z, rfl, hp⟩ := hw
  obtain ⟨hP1, -⟩ := hB
  rw [ht] at hP1
  obtain ⟨g1, g2⟩ := z_join hP hD is his hnd hk hP1 hadr
  exact kk z w H1 locs1 hp g1 g2 hS1
theorem z_cv {post : va_W → Prop} (hr : va_Run p l e R s m args below meth c H locs cells slots 0 0 (F0 m pc ls st0) rest (zQv D w0 (va_A w0 H.size) post a) (va_A w0 H.size)) (hP : va_P D vwCl ws H) (hD : va_D A ws) (hS : va_S A s.heap H locs) (hA : ∀ q : Nat, s.heap.size ≤ q → A q) (is : List Nat) (his : is.map (fun i => ws[i]?) = w0.map some) (hnd : va_nd is = true)
    (kk : ∀ (w : va_W) (H1 : Heap) (locs1 : List Loc), post w → va_P D vwCl (zput ws is w) H1 → va_D A (zput ws is w) → va_S A s.heap H1 locs1 → W p l e R s m args below meth c H1 locs1 cells slots Q (F0 m (pc + 3) ls rest)) : W p l e R s m args below meth c H locs cells slots Q (F0 m pc ls st0) := by
  have hF := va_free (wc := w0) hD hS hA is his
  refine va_callv hr hS (fun q _ h => hF q h) hF (fun w t H1 locs1 ht _ hw hB _ hk hS1 => ?_)
  obtain ⟨hadr, hp⟩ := hw
  obtain ⟨hP1, -⟩ := hB
  rw [ht] at hP1
  obtain ⟨g1, g2⟩ := z_join hP hD is his hnd hk hP1 hadr
  exact kk w H1 locs1 hp g1 g2 hS1
end ZC
section ZD
variable {p : Program} {l : Launch} {e : Env} {R : Room} {s : State} {m : MethodId} {args : Array Value} {below : List Frame} {meth : Method} {c : Code} {H : Heap} {locs : List Loc} {cells slots : Nat} {Q : State → Prop} {cc : ByteArray} {pc : Nat} {ls : Array Slot} {rest : List Value} {D : va_G} {T : List (ClassId × FieldType)} {ws w0 : va_W} {A : Nat → Prop}
variable {y : MethodName} {bytes : ByteArray} {maxL nL index : Nat} {ret : Option FieldType} {wy wy' : List Cond} {rm : Room} {Ts : List Cond} {own C host : String} {b : Nat} {As st0 : List Value}
theorem z_Vi {post : Int → va_W → Prop} (S : CallFix p m c cc nL s args Ts own) (hM : zMi l y wy rm D T (.ref b :: As) w0 post) (n : Nat) (hT : GoodIn Ts (wsV own index C y wy)) (hw : wy = Cond.code y bytes maxL ret :: wy') (hrc : rm.cells = 0) (hrs : rm.slots = 0) (hd : y.cls = C ∧ y.cls ≠ "java/lang/invoke/MethodHandle" ∧ y.cls ≠ "java/lang/invoke/VarHandle" ∧ (parseMethodDescriptor y.desc).map (fun d => d.parameters.length) = some n) (hR : rm.frames + 1 ≤ R.frames ∧ 8 + (maxL + 11) + rm.locals ≤ R.locals) (hrm : cells ≤ R.cells ∧ slots ≤ R.slots) (hK : zK D T s) (hP : va_P D vwCl ws H) (hD : va_D A ws) (hS : va_S A s.heap H locs) (hA : ∀ q : Nat, s.heap.size ≤ q → A q) (is : List Nat) (his : is.map (fun i => ws[i]?) = w0.map some) (hnd : va_nd is = true) {ci N : Nat} {T0 : u_T} {fs : List Value} (q0 : Nat) (hc : vwCl[ci]? = some (C, T0, N)) (he : ws[q0]? = some (b, ob ci fs)) (hn : As.length = n) (hsize : ls.size = nL) (hst : st0 = As.reverse ++ .ref b :: rest) (hW : (rest.map fun v => v.category).sum ≤ 8) (hdg : decode cc pc = .ok (.invokevirtual index, 3)) (kk : ∀ (z : Int) (w : va_W) (H1 : Heap) (locs1 : List Loc), post z w → va_P D vwCl (zput ws is w) H1 → va_D A (zput ws is w) → va_S A s.heap H1 locs1 → W p l e R s m args below meth c H1 locs1 cells slots Q (F0 m (pc + 3) ls (.int (iZ z) :: rest))) : W p l e R s m args below meth c H locs cells slots Q (F0 m pc ls st0) :=
  z_ci (va_runV S (hM H.size) (cwV n S.2.2.2.2 hT hw hrc hrs hd hR) ⟨z_blind, va_recv hK.1 hP hc he, (z_preS hK hP hD his hnd).2⟩ rfl hn hsize hst (lv_room hW) hdg hrm) hP hD hS hA is his hnd kk
theorem z_Si {post : Int → va_W → Prop} (S : CallFix p m c cc nL s args Ts own) (hM : zMi l y wy rm D T As w0 post) (n : Nat) (hT : GoodIn Ts (va_wsS own index y wy)) (hw : wy = Cond.code y bytes maxL ret :: wy') (hrc : rm.cells = 0) (hrs : rm.slots = 0) (hd : y.cls ≠ "java/lang/invoke/MethodHandle" ∧ y.cls ≠ "java/lang/invoke/VarHandle" ∧ (parseMethodDescriptor y.desc).map (fun d => d.parameters.length) = some n) (hR : rm.frames + 1 ≤ R.frames ∧ 8 + (maxL + 11) + rm.locals ≤ R.locals) (hrm : cells ≤ R.cells ∧ slots ≤ R.slots) (hK : zK D T s) (hP : va_P D vwCl ws H) (hD : va_D A ws) (hS : va_S A s.heap H locs) (hA : ∀ q : Nat, s.heap.size ≤ q → A q) (is : List Nat) (his : is.map (fun i => ws[i]?) = w0.map some) (hnd : va_nd is = true) (hn : As.length = n) (hsize : ls.size = nL) (hst : st0 = As.reverse ++ rest) (hW : (rest.map fun v => v.category).sum ≤ 8) (hdg : decode cc pc = .ok (.invokestatic index, 3)) (kk : ∀ (z : Int) (w : va_W) (H1 : Heap) (locs1 : List Loc), post z w → va_P D vwCl (zput ws is w) H1 → va_D A (zput ws is w) → va_S A s.heap H1 locs1 → W p l e R s m args below meth c H1 locs1 cells slots Q (F0 m (pc + 3) ls (.int (iZ z) :: rest))) : W p l e R s m args below meth c H locs cells slots Q (F0 m pc ls st0) :=
  z_ci (va_runS S (hM H.size) (va_cwS n S.2.2.2.2 hT hw hrc hrs hd hR) (z_preS hK hP hD his hnd) rfl hn hsize hst (lv_room hW) hdg hrm) hP hD hS hA is his hnd kk
theorem z_Ni {post : Int → va_W → Prop} (S : CallFix p m c cc nL s args Ts own) (hM : zMi l y wy rm D T As w0 post) (n : Nat) (hT : GoodIn Ts wy) (hw : wy = Cond.code y bytes maxL ret :: wy') (hrc : rm.cells = 0) (hrs : rm.slots = 0) (hl : va_Nw (.methodLinkNest own index y host) s) (hini : (Cond.initialized y.cls) ∈ Ts) (hstat : Cond.static y ∈ Ts) (hd : y.cls ≠ "java/lang/invoke/MethodHandle" ∧ y.cls ≠ "java/lang/invoke/VarHandle" ∧ (parseMethodDescriptor y.desc).map (fun d => d.parameters.length) = some n) (hR : rm.frames + 1 ≤ R.frames ∧ 8 + (maxL + 11) + rm.locals ≤ R.locals) (hrm : cells ≤ R.cells ∧ slots ≤ R.slots) (hK : zK D T s) (hP : va_P D vwCl ws H) (hD : va_D A ws) (hS : va_S A s.heap H locs) (hA : ∀ q : Nat, s.heap.size ≤ q → A q) (is : List Nat) (his : is.map (fun i => ws[i]?) = w0.map some) (hnd : va_nd is = true) (hn : As.length = n) (hsize : ls.size = nL) (hst : st0 = As.reverse ++ rest) (hW : (rest.map fun v => v.category).sum ≤ 8) (hdg : decode cc pc = .ok (.invokestatic index, 3)) (kk : ∀ (z : Int) (w : va_W) (H1 : Heap) (locs1 : List Loc), post z w → va_P D vwCl (zput ws is w) H1 → va_D A (zput ws is w) → va_S A s.heap H1 locs1 → W p l e R s m args below meth c H1 locs1 cells slots Q (F0 m (pc + 3) ls (.int (iZ z) :: rest))) : W p l e R s m args below meth c H locs cells slots Q (F0 m pc ls st0) :=
  z_ci (va_runSN S (hM H.size) ⟨va_cnB n S.2.2.2.2 hT hw hrc hrs hl (S.2.2.2.2 _ hini) hd hR, S.2.2.2.2 _ hstat, trivial⟩ (z_preS hK hP hD his hnd) rfl hn hsize hst (lv_room hW) hdg hrm) hP hD hS hA is his hnd kk
theorem z_Vl {post : Int → va_W → Prop} (S : CallFix p m c cc nL s args Ts own) (hM : zMl l y wy rm D T (.ref b :: As) w0 post) (n : Nat) (hT : GoodIn Ts (wsV own index C y wy)) (hw : wy = Cond.code y bytes maxL ret :: wy') (hrc : rm.cells = 0) (hrs : rm.slots = 0) (hd : y.cls = C ∧ y.cls ≠ "java/lang/invoke/MethodHandle" ∧ y.cls ≠ "java/lang/invoke/VarHandle" ∧ (parseMethodDescriptor y.desc).map (fun d => d.parameters.length) = some n) (hR : rm.frames + 1 ≤ R.frames ∧ 8 + (maxL + 11) + rm.locals ≤ R.locals) (hrm : cells ≤ R.cells ∧ slots ≤ R.slots) (hK : zK D T s) (hP : va_P D vwCl ws H) (hD : va_D A ws) (hS : va_S A s.heap H locs) (hA : ∀ q : Nat, s.heap.size ≤ q → A q) (is : List Nat) (his : is.map (fun i => ws[i]?) = w0.map some) (hnd : va_nd is = true) {ci N : Nat} {T0 : u_T} {fs : List Value} (q0 : Nat) (hc : vwCl[ci]? = some (C, T0, N)) (he : ws[q0]? = some (b, ob ci fs)) (hn : As.length = n) (hsize : ls.size = nL) (hst : st0 = As.reverse ++ .ref b :: rest) (hW : (rest.map fun v => v.category).sum ≤ 8) (hdg : decode cc pc = .ok (.invokevirtual index, 3)) (kk : ∀ (z : Int) (w : va_W) (H1 : Heap) (locs1 : List Loc), post z w → va_P D vwCl (zput ws is w) H1 → va_D A (zput ws is w) → va_S A s.heap H1 locs1 → W p l e R s m args below meth c H1 locs1 cells slots Q (F0 m (pc + 3) ls (.long (lZ z) :: rest))) : W p l e R s m args below meth c H locs cells slots Q (F0 m pc ls st0) :=
  z_cl (va_runV S (hM H.size) (cwV n S.2.2.2.2 hT hw hrc hrs hd hR) ⟨z_blind, va_recv hK.1 hP hc he, (z_preS hK hP hD his hnd).2⟩ rfl hn hsize hst (lv_room hW) hdg hrm) hP hD hS hA is his hnd kk
theorem z_Sl {post : Int → va_W → Prop} (S : CallFix p m c cc nL s args Ts own) (hM : zMl l y wy rm D T As w0 post) (n : Nat) (hT : GoodIn Ts (va_wsS own index y wy)) (hw : wy = Cond.code y bytes maxL ret :: wy') (hrc : rm.cells = 0) (hrs : rm.slots = 0) (hd : y.cls ≠ "java/lang/invoke/MethodHandle" ∧ y.cls ≠ "java/lang/invoke/VarHandle" ∧ (parseMethodDescriptor y.desc).map (fun d => d.parameters.length) = some n) (hR : rm.frames + 1 ≤ R.frames ∧ 8 + (maxL + 11) + rm.locals ≤ R.locals) (hrm : cells ≤ R.cells ∧ slots ≤ R.slots) (hK : zK D T s) (hP : va_P D vwCl ws H) (hD : va_D A ws) (hS : va_S A s.heap H locs) (hA : ∀ q : Nat, s.heap.size ≤ q → A q) (is : List Nat) (his : is.map (fun i => ws[i]?) = w0.map some) (hnd : va_nd is = true) (hn : As.length = n) (hsize : ls.size = nL) (hst : st0 = As.reverse ++ rest) (hW : (rest.map fun v => v.category).sum ≤ 8) (hdg : decode cc pc = .ok (.invokestatic index, 3)) (kk : ∀ (z : Int) (w : va_W) (H1 : Heap) (locs1 : List Loc), post z w → va_P D vwCl (zput ws is w) H1 → va_D A (zput ws is w) → va_S A s.heap H1 locs1 → W p l e R s m args below meth c H1 locs1 cells slots Q (F0 m (pc + 3) ls (.long (lZ z) :: rest))) : W p l e R s m args below meth c H locs cells slots Q (F0 m pc ls st0) :=
  z_cl (va_runS S (hM H.size) (va_cwS n S.2.2.2.2 hT hw hrc hrs hd hR) (z_preS hK hP hD his hnd) rfl hn hsize hst (lv_room hW) hdg hrm) hP hD hS hA is his hnd kk
theorem z_Vv {post : va_W → Prop} (S : CallFix p m c cc nL s args Ts own) (hM : zMv l y wy rm D T (.ref b :: As) w0 post) (n : Nat) (hT : GoodIn Ts (wsV own index C y wy)) (hw : wy = Cond.code y bytes maxL ret :: wy') (hrc : rm.cells = 0) (hrs : rm.slots = 0) (hd : y.cls = C ∧ y.cls ≠ "java/lang/invoke/MethodHandle" ∧ y.cls ≠ "java/lang/invoke/VarHandle" ∧ (parseMethodDescriptor y.desc).map (fun d => d.parameters.length) = some n) (hR : rm.frames + 1 ≤ R.frames ∧ 8 + (maxL + 11) + rm.locals ≤ R.locals) (hrm : cells ≤ R.cells ∧ slots ≤ R.slots) (hK : zK D T s) (hP : va_P D vwCl ws H) (hD : va_D A ws) (hS : va_S A s.heap H locs) (hA : ∀ q : Nat, s.heap.size ≤ q → A q) (is : List Nat) (his : is.map (fun i => ws[i]?) = w0.map some) (hnd : va_nd is = true) {ci N : Nat} {T0 : u_T} {fs : List Value} (q0 : Nat) (hc : vwCl[ci]? = some (C, T0, N)) (he : ws[q0]? = some (b, ob ci fs)) (hn : As.length = n) (hsize : ls.size = nL) (hst : st0 = As.reverse ++ .ref b :: rest) (hW : (rest.map fun v => v.category).sum ≤ 8) (hdg : decode cc pc = .ok (.invokevirtual index, 3)) (kk : ∀ (w : va_W) (H1 : Heap) (locs1 : List Loc), post w → va_P D vwCl (zput ws is w) H1 → va_D A (zput ws is w) → va_S A s.heap H1 locs1 → W p l e R s m args below meth c H1 locs1 cells slots Q (F0 m (pc + 3) ls (rest))) : W p l e R s m args below meth c H locs cells slots Q (F0 m pc ls st0) :=
  z_cv (va_runV S (hM H.size) (cwV n S.2.2.2.2 hT hw hrc hrs hd hR) ⟨z_blind, va_recv hK.1 hP hc he, (z_preS hK hP hD his hnd).2⟩ rfl hn hsize hst (lv_room hW) hdg hrm) hP hD hS hA is his hnd kk
theorem z_Sv {post : va_W → Prop} (S : CallFix p m c cc nL s args Ts own) (hM : zMv l y wy rm D T As w0 post) (n : Nat) (hT : GoodIn Ts (va_wsS own index y wy)) (hw : wy = Cond.code y bytes maxL ret :: wy') (hrc : rm.cells = 0) (hrs : rm.slots = 0) (hd : y.cls ≠ "java/lang/invoke/MethodHandle" ∧ y.cls ≠ "java/lang/invoke/VarHandle" ∧ (parseMethodDescriptor y.desc).map (fun d => d.parameters.length) = some n) (hR : rm.frames + 1 ≤ R.frames ∧ 8 + (maxL + 11) + rm.locals ≤ R.locals) (hrm : cells ≤ R.cells ∧ slots ≤ R.slots) (hK : zK D T s) (hP : va_P D vwCl ws H) (hD : va_D A ws) (hS : va_S A s.heap H locs) (hA : ∀ q : Nat, s.heap.size ≤ q → A q) (is : List Nat) (his : is.map (fun i => ws[i]?) = w0.map some) (hnd : va_nd is = true) (hn : As.length = n) (hsize : ls.size = nL) (hst : st0 = As.reverse ++ rest) (hW : (rest.map fun v => v.category).sum ≤ 8) (hdg : decode cc pc = .ok (.invokestatic index, 3)) (kk : ∀ (w : va_W) (H1 : Heap) (locs1 : List Loc), post w → va_P D vwCl (zput ws is w) H1 → va_D A (zput ws is w) → va_S A s.heap H1 locs1 → W p l e R s m args below meth c H1 locs1 cells slots Q (F0 m (pc + 3) ls (rest))) : W p l e R s m args below meth c H locs cells slots Q (F0 m pc ls st0) :=
  z_cv (va_runS S (hM H.size) (va_cwS n S.2.2.2.2 hT hw hrc hrs hd hR) (z_preS hK hP hD his hnd) rfl hn hsize hst (lv_room hW) hdg hrm) hP hD hS hA is his hnd kk
end ZD
/-! switches; an array's contents beyond its places don't count -/
section ZS
variable {p : Program} {l : Launch} {e : Env} {R : Room} {s : State} {m : MethodId} {args : Array Value} {below : List Frame} {meth : Method} {c : Code} {H : Heap} {locs : List Loc} {cells slots : Nat} {Q : State → Prop} {cc : ByteArray} {pc : Nat} {ls : Array Slot} {rest : List Value}
theorem z_tab (hx : p.tables.exec = Jvm.exec) (hb : c.code = cc) {dflt lo hi : Int} {offs : Array Int} {len : Nat} {a : Int} (k : Int) {off : Int} {tgt : Nat} (hdg : decode cc pc = .ok (.tableswitch dflt lo hi offs, len)) (ha : a = k) (hk : -2147483648 ≤ k ∧ k < 2147483648) (h1 : ¬ k < lo) (h2 : ¬ hi < k) (ho : offs[(k - lo).toNat]? = some off) (ht : (pc : Int) + off = (tgt : Int)) (kk : W p l e R s m args below meth c H locs cells slots Q (F0 m tgt ls rest)) : W p l e R s m args below meth c H locs cells slots Q (F0 m pc ls (.int (iZ a) :: rest)) := by
  subst ha
  exact lv_tableIn hx hb hdg (by rw [iZ_toInt hk]; exact h1) (by rw [iZ_toInt hk]; exact h2) (by rw [iZ_toInt hk]; exact ho) ht kk
theorem z_tabO (hx : p.tables.exec = Jvm.exec) (hb : c.code = cc) {dflt lo hi : Int} {offs : Array Int} {len : Nat} {a : Int} {tgt : Nat} (hdg : decode cc pc = .ok (.tableswitch dflt lo hi offs, len)) (ha : -2147483648 ≤ a ∧ a < 2147483648) (h : a < lo ∨ hi < a) (ht : (pc : Int) + dflt = (tgt : Int)) (kk : W p l e R s m args below meth c H locs cells slots Q (F0 m tgt ls rest)) : W p l e R s m args below meth c H locs cells slots Q (F0 m pc ls (.int (iZ a) :: rest)) :=
  lv_tableOut hx hb hdg (by rw [iZ_toInt ha]; exact h) ht kk
theorem z_look (hx : p.tables.exec = Jvm.exec) (hb : c.code = cc) {dflt : Int} {ps : Array (Int × Int)} {len : Nat} {a off : Int} {tgt : Nat} (hdg : decode cc pc = .ok (.lookupswitch dflt ps, len)) (hp : (ps.toList.zip (ps.toList.drop 1)).all (fun (a, next) => a.1 < next.1) = true) (ha : -2147483648 ≤ a ∧ a < 2147483648) (ho : Op.lookupswitch.offset ps.toList dflt a = off) (ht : (pc : Int) + off = (tgt : Int)) (kk : W p l e R s m args below meth c H locs cells slots Q (F0 m tgt ls rest)) : W p l e R s m args below meth c H locs cells slots Q (F0 m pc ls (.int (iZ a) :: rest)) :=
  lv_lookup hx hb hdg hp (by rw [iZ_toInt ha]; exact ho) ht kk
end ZS
theorem arrV_cg {cA : ClassId} {n : Nat} {f f' : Nat → Value} (h : ∀ j, j < n → f j = f' j) : arrV cA n f = arrV cA n f' := by
  unfold arrV
  have e : (Array.ofFn (n := n) fun j => f j.val) = Array.ofFn (n := n) fun j => f' j.val := by
    congr 1
    funext j
    exact h j.val j.isLt
  rw [e]
theorem z_cg {D : va_G} {ws : va_W} {H : Heap} {A : Nat → Prop} (hP : va_P D vwCl ws H) (hD : va_D A ws) (q0 : Nat) {a : Nat} {cA : ClassId} {n : Nat} {g g' : Int → Int} (ha : ws[q0]? = some (a, aI cA n g)) (h : ∀ j : Int, 0 ≤ j → j < (n : Int) → g j = g' j) : va_P D vwCl (ws.set q0 (a, aI cA n g')) H ∧ va_D A (ws.set q0 (a, aI cA n g')) := by
  refine ⟨hP.set hD ha ?_ (fun _ _ => rfl), hD.set ha⟩
  have h1 : H[a]? = some (vp_cell cA (n, .inl (fun j : Nat => iZ (g (j : Int))))) := hP q0 _ ha
  show H[a]? = some (vp_cell cA (n, .inl (fun j : Nat => iZ (g' (j : Int)))))
  rw [h1, vp_cell_i, vp_cell_i, arrV_cg (fun j hj => by rw [h (j : Int) (by omega) (by omega)])]
theorem z_cgL {D : va_G} {ws : va_W} {H : Heap} {A : Nat → Prop} (hP : va_P D vwCl ws H) (hD : va_D A ws) (q0 : Nat) {a : Nat} {cA : ClassId} {n : Nat} {g g' : Int → Int} (ha : ws[q0]? = some (a, aL cA n g)) (h : ∀ j : Int, 0 ≤ j → j < (n : Int) → g j = g' j) : va_P D vwCl (ws.set q0 (a, aL cA n g')) H ∧ va_D A (ws.set q0 (a, aL cA n g')) := by
  refine ⟨hP.set hD ha ?_ (fun _ _ => rfl), hD.set ha⟩
  have h1 : H[a]? = some (vp_cell cA (n, .inr (.inl (fun j : Nat => lZ (g (j : Int)))))) := hP q0 _ ha
  show H[a]? = some (vp_cell cA (n, .inr (.inl (fun j : Nat => lZ (g' (j : Int))))))
  rw [h1, vp_cell_l, vp_cell_l, arrV_cg (fun j hj => by rw [h (j : Int) (by omega) (by omega)])]
