/-! THE CLAIM OUT OF ONE WALK OF THE LAW'S BODY. Your part is whole_start (and what it stands on); all else here is the same for every law, but numbers. -/
def R_law : String := "GrowsByHalfLaw"
def lw_P (b : Addr) (xs : List Int32) (args : Array Value) (s : State) : Prop := args = #[.ref b] ∧ s.IntsAt b xs ∧ xs.length ≤ 3072 ∧ (Jvm.Cond.and given_1 narrow_1).before args s = true
def lw_Q (_ : Array Value) (s : State) (o : Outcome) (t : State) : Prop := o = .returned (some (.int 1)) ∧ Framed s o t [] 600000 7302249
def lw_Z (below : List Frame) (a : Array Value) (s : State) : State → Prop := fun t => ∃ o, t.status = .running ∧ Ended t below o ∧ lw_Q a s o t
/-- the law's own end, with 1 on the stack, nothing written that was there before, its room as the claim has it -/
theorem lw_ret {p : Program} {l : Launch} {e : Env} {s : State} {m : MethodId} {below : List Frame} {meth : Method} {c : Code} {b : Nat} (hx : p.tables.exec = Jvm.exec) (hb : c.code = code) (hr : meth.sig.returnType = ret) (hlocks : meth.locks = false) {pc : Nat} {H : Heap} {ls : Array Slot} (hdg : decode code pc = .ok (.ireturn, 1)) : W p l e room_1 s m #[Value.ref b] below meth c H [] 600000 7302249 (lw_Z below #[Value.ref b] s) (F0 m pc ls [.int 1]) := by
  intro T hT X
  obtain ⟨fs, hret, hrun, hended, hW, hframe⟩ := X.leave (v := some (.int 1)) (hlocks := hlocks) (fun h => by rw [hr] at h; cases h)
  have hmeth' : T.vm.method? m = some meth := X.method'
  refine ⟨T.setFrames fs, ?_, .returned (some (.int 1)), hrun, hended, rfl, ⟨_, rfl⟩, hW, hframe⟩
  jvm_step X.here [X.here.top, hx, hb, hdg, hmeth', hr, ret, narrow_b1]
  (try refine ⟨rfl, ?_⟩); (try refine ⟨rfl, ?_⟩)
  first | (intro acts; rw [hret _ acts rfl rfl rfl]) | rw [hret _ _ rfl rfl rfl]
  exact Steps.refl _
/-- what holds at the law's entry: the machine, the code, the tables' words (any of lw_tbl by 'hts w (by decide +kernel)'), the script of L ints xs at the cell b, what the Statement gives of the start (any of its parts by flat_of_before) -/
def lw_At (p : Program) (s : State) (m : MethodId) (meth : Method) (c : Code) (b L : Nat) (xs : Nat → Int32) : Prop :=
  p.tables.exec = Jvm.exec ∧ c.code = code ∧ meth.sig.returnType = ret ∧ c.maxLocals = 4 ∧ s.vm.findClass R_law = some m.cls ∧ (∀ w ∈ lw_tbl, w.before #[Value.ref b] s = true) ∧ va_X b L xs s s.heap ∧ b < s.heap.size ∧ meth.locks = false ∧ (Jvm.Cond.and given_1 narrow_1).before #[Value.ref b] s = true
theorem law_0 {v : Int} (hv : 0 ≤ v ∧ v ≤ 9999) : groX (zu (fun _ => 0) 0 104) (zu (fun _ => 0) 0 0) (0 + 1 : Int).toNat v = gro (fun _ => 0) (fun _ => 0) (1 : Int).toNat v := by
  have e1 : groX (zu (fun _ => 0) 0 104) (zu (fun _ => 0) 0 0) (0 + 1 : Int).toNat v = min 9999 (stpX 104 0 v) := rfl
  have e2 : gro (fun _ => 0) (fun _ => 0) (1 : Int).toNat v = cap (stp 0 0 v) := rfl
  have e3 : stpX 104 0 v = v + v / 2 := by unfold stpX; rw [if_neg (by omega), if_neg (by omega), if_neg (by omega), if_pos rfl]
  rw [e1, e2, cap_eq, stp_0 rfl, e3]
  omega
theorem z_know {ts : List Cond} {args : Array Value} {s : State} (c0 : ClassId) (hts : ∀ w ∈ ts, w.before args s = true) (hI : Cond.arrayClass .int ∈ ts) (hJ : Cond.arrayClass .long ∈ ts) (hB : Cond.arrayClass .byte ∈ ts) (key : ∀ q ∈ vwCl, ∃ (cC : ClassId) (iS : Nat → Nat), u_Kn s q.1 q.2.1 q.2.2 cC iS) : ∃ (D : va_G) (cI cJ cB : ClassId), va_K D vwCl (zT cI cJ cB) s := by
  have h : ∀ k : Nat, ∃ (cC : ClassId) (iS : Nat → Nat), ∀ q : vw_C, vwCl[k]? = some q → u_Kn s q.1 q.2.1 q.2.2 cC iS := by
    intro k
    cases hq : vwCl[k]? with
    | none => exact ⟨c0, fun _ => 0, fun q h => by cases h⟩
    | some q =>
      obtain ⟨cC, iS, h1⟩ := key q (List.mem_of_getElem? hq)
      exact ⟨cC, iS, fun q2 h => by cases h; exact h1⟩
  obtain ⟨cI, kI, pI, i1, i2, i3⟩ := Cond.arrayClass_spec (hts _ hI)
  obtain ⟨cJ, kJ, pJ, j1, j2, j3⟩ := Cond.arrayClass_spec (hts _ hJ)
  obtain ⟨cB, kB, pB, b1, b2, b3⟩ := Cond.arrayClass_spec (hts _ hB)
  refine ⟨(fun k => Classical.choose (h k), fun k => Classical.choose (Classical.choose_spec (h k))), cI, cJ, cB, fun k q hq => Classical.choose_spec (Classical.choose_spec (h k)) q hq, fun k q hq => ?_⟩
  match k, hq with
  | 0, hq => cases hq; exact ⟨fun n z => ⟨fun k h => (by cases h), kI, i2, pI, i3⟩, i1⟩
  | 1, hq => cases hq; exact ⟨fun n z => ⟨fun k h => (by cases h), kJ, j2, pJ, j3⟩, j1⟩
  | 2, hq => cases hq; exact ⟨fun n z => ⟨fun k h => (by cases h), kB, b2, pB, b3⟩, b1⟩
  | k + 3, hq => cases hq
set_option maxHeartbeats 4000000 in
set_option maxRecDepth 100000 in
theorem lw_loop {p : Program} {l : Launch} {e : Env} {s : State} {m : MethodId} {below : List Frame} {meth : Method} {c : Code} {A : Nat → Prop} {D : va_G} {cI cJ cB : ClassId} {b L : Nat} {xs : Nat → Int32} {xg xp xl xw xf xi xr xa xc xo xd xpc xls xld xlm xwt xwo xfk xfn xfw xfs xik xin xiw xis xrs xro xal xar xam xcm xcl xow hm : Nat} {a : Nat → Nat} (hr : meth.sig.returnType = ret) (hlocks : meth.locks = false) (hC : CallFix p m c cL_law 4 s #[Value.ref b] wsL_law RL) (hK : zK D (zT cI cJ cB) s) (hA : ∀ q : Nat, s.heap.size ≤ q → A q) (hA2 : ∀ q : Nat, A q → s.heap.size ≤ q) (hX : va_X b L xs s s.heap) (hbl : b < s.heap.size) (hbA : ¬ A b) (hL : L ≤ 3072) : ∀ (fuel : Nat) (pg sg dg so mu tt to te tw kd ki kn wi ss se kd2 kn2 wi2 ss2 kw ks bg fm la ra ma mt ln wy ns nu nt no bo fo aw ft qu : Int → Int) (him n st rd tn wr pe pe2 inl few tof dn tl0 sd0 fa iw nm qe sd hh : Int) (H : Heap) (locs : List Loc) (ls : Array Slot) (i : Int), (0 ≤ i ∧ i ≤ (L : Int)) → (L : Int) - i < (fuel : Int) → lP n pg → lL so mu st → lW tt to te tw tn → lF kd ki kn wi ss se kd2 kn2 wi2 ss2 kw ks pe pe2 him → lC rd wr dn i → va_P D vwCl (lWo cI cJ cB xg xp xl xw xf xi xr xa xc xo xd xpc xls xld xlm xwt xwo xfk xfn xfw xfs xik xin xiw xis xrs xro xal xar xam xcm xcl xow hm a pg sg dg so mu tt to te tw kd ki kn wi ss se kd2 kn2 wi2 ss2 kw ks bg fm la ra ma mt ln wy ns nu nt no bo fo aw ft qu him n st rd tn wr pe pe2 inl few tof dn tl0 sd0 fa iw nm qe sd hh) H → va_D A (lWo cI cJ cB xg xp xl xw xf xi xr xa xc xo xd xpc xls xld xlm xwt xwo xfk xfn xfw xfs xik xin xiw xis xrs xro xal xar xam xcm xcl xow hm a pg sg dg so mu tt to te tw kd ki kn wi ss se kd2 kn2 wi2 ss2 kw ks bg fm la ra ma mt ln wy ns nu nt no bo fo aw ft qu him n st rd tn wr pe pe2 inl few tof dn tl0 sd0 fa iw nm qe sd hh) → va_S A s.heap H locs → lv_has ls 4 [(0, .ref b), (1, .ref xg), (2, .ref hm), (3, .int (iZ i))] → W p l e room_1 s m #[Value.ref b] below meth c H locs 55 251806 (lw_Z below #[Value.ref b] s) (F0 m 18 ls []) := by
  obtain ⟨hx, hb, hml, hown, hts⟩ := id hC
  intro fuel
  induction fuel with
  | zero => intro pg sg dg so mu tt to te tw kd ki kn wi ss se kd2 kn2 wi2 ss2 kw ks bg fm la ra ma mt ln wy ns nu nt no bo fo aw ft qu him n st rd tn wr pe pe2 inl few tof dn tl0 sd0 fa iw nm qe sd hh H locs ls i hi hf; exact absurd hf (by omega)
  | succ fuel ih =>
    intro pg sg dg so mu tt to te tw kd ki kn wi ss se kd2 kn2 wi2 ss2 kw ks bg fm la ra ma mt ln wy ns nu nt no bo fo aw ft qu him n st rd tn wr pe pe2 inl few tof dn tl0 sd0 fa iw nm qe sd hh H locs ls i hi hf gP gL gW gF gC hP hD hS hl
    refine lv_iload_n hx hb dL_law_18 rfl (lv_at hl 3 rfl) ?_
    refine lv_aload_n hx hb dL_law_19 rfl (lv_at hl 0 rfl) ?_
    refine va_slen hx hb hX hbl hbA hS dL_law_20 ?_
    rw [show Int32.ofNat L = iZ (L : Int) from Int32.ofInt_eq_ofNat.symm]
    refine lv_bipush (v := iZ 6) hx hb dL_law_21 (by decide) ?_
    refine z_isub hx hb dL_law_23 ?_
    refine z_icmp_gt (tgt := 1088) hx hb dL_law_24 (by decide) (by omega) (by omega) (fun h1 => ?_) (fun h1 => ?_)
    · refine va_forget (fun q hq => hA2 _ (hS.2.2 q hq)) ?_
      refine W.widen (k := 600000) (n := 7302249) (Nat.le_of_ble_eq_true rfl) (Nat.le_of_ble_eq_true rfl) ?_
      refine lv_iconst (v := 1) hx hb dL_law_1088 (by decide) ?_
      exact lw_ret hx hb hr hlocks dL_law_1089
    · have K : lK p l e s m #[Value.ref b] below meth c A D cI cJ cB b (lw_Z below #[Value.ref b] s) xg xp xl xw xf xi xr xa xc xo xd xpc xls xld xlm xwt xwo xfk xfn xfw xfs xik xin xiw xis xrs xro xal xar xam xcm xcl xow hm a i := by
        intro pg sg dg so mu tt to te tw kd ki kn wi ss se kd2 kn2 wi2 ss2 kw ks bg fm la ra ma mt ln wy ns nu nt no bo fo aw ft qu him n st rd tn wr pe pe2 inl few tof dn tl0 sd0 fa iw nm qe sd hh H locs ls gP gL gW gF gC hP hD hS hl
        refine z_iinc (lv' := [(3, .int (iZ (i + 6))), (0, .ref b), (1, .ref xg), (2, .ref hm)]) hx hb dL_law_1082 hl (k := 3) rfl (by decide) rfl (fun ls hl => ?_)
        refine lv_goto (tgt := 18) hx hb dL_law_1085 (by decide) ?_
        exact ih pg sg dg so mu tt to te tw kd ki kn wi ss se kd2 kn2 wi2 ss2 kw ks bg fm la ra ma mt ln wy ns nu nt no bo fo aw ft qu him n st rd tn wr pe pe2 inl few tof dn tl0 sd0 fa iw nm qe sd hh H locs ls (i + 6) (by omega) (by omega) gP gL gW gF gC hP hD hS (lv_sub hl [1, 2, 3, 0] rfl)
      refine lv_aload_n hx hb dL_law_27 rfl (lv_at hl 0 rfl) ?_
      refine lv_iload_n hx hb dL_law_28 rfl (lv_at hl 3 rfl) ?_
      refine z_sld hx hb hX hbl hbA hS (by omega) hL dL_law_29 ?_
      refine lv_bipush (v := iZ 31) hx hb dL_law_30 (by decide) ?_
      refine z_iand hx hb dL_law_32 ?_
      have hr31 := kand_rng (sx xs i) 31
      by_cases sw0 : kand (sx xs i) 31 = 0
      · refine z_tab (tgt := 160) (off := 127) hx hb 0 dL_law_33 sw0 (by decide) (by decide) (by decide) rfl (by decide) ?_
        exact kL_letters hC hK hA hX hbl hbA hL ⟨hi.1, by omega⟩ gP gL gW gF gC hP hD hS hl K
      by_cases sw1 : kand (sx xs i) 31 = 1
      · refine z_tab (tgt := 213) (off := 180) hx hb 1 dL_law_33 sw1 (by decide) (by decide) (by decide) rfl (by decide) ?_
        exact kL_blank hC hK hA hX hbl hbA hL ⟨hi.1, by omega⟩ gP gL gW gF gC hP hD hS hl K
      by_cases sw2 : kand (sx xs i) 31 = 2
      · refine z_tab (tgt := 226) (off := 193) hx hb 2 dL_law_33 sw2 (by decide) (by decide) (by decide) rfl (by decide) ?_
        exact kL_fault hC hK hA hX hbl hbA hL ⟨hi.1, by omega⟩ gP gL gW gF gC hP hD hS hl K
      by_cases sw3 : kand (sx xs i) 31 = 3
      · refine z_tab (tgt := 249) (off := 216) hx hb 3 dL_law_33 sw3 (by decide) (by decide) (by decide) rfl (by decide) ?_
        exact kL_law hC hK hA hX hbl hbA hL ⟨hi.1, by omega⟩ gP gL gW gF gC hP hD hS hl K
      by_cases sw4 : kand (sx xs i) 31 = 4
      · refine z_tab (tgt := 262) (off := 229) hx hb 4 dL_law_33 sw4 (by decide) (by decide) (by decide) rfl (by decide) ?_
        exact kL_week hC hK hA hX hbl hbA hL ⟨hi.1, by omega⟩ gP gL gW gF gC hP hD hS hl K
      by_cases sw5 : kand (sx xs i) 31 = 5
      · refine z_tab (tgt := 275) (off := 242) hx hb 5 dL_law_33 sw5 (by decide) (by decide) (by decide) rfl (by decide) ?_
        exact kL_grown hC hK hA hX hbl hbA hL ⟨hi.1, by omega⟩ gP gL gW gF gC hP hD hS hl K
      by_cases sw6 : kand (sx xs i) 31 = 6
      · refine z_tab (tgt := 298) (off := 265) hx hb 6 dL_law_33 sw6 (by decide) (by decide) (by decide) rfl (by decide) ?_
        exact kL_telling hC hK hA hX hbl hbA hL ⟨hi.1, by omega⟩ gP gL gW gF gC hP hD hS hl K
      by_cases sw7 : kand (sx xs i) 31 = 7
      · refine z_tab (tgt := 331) (off := 298) hx hb 7 dL_law_33 sw7 (by decide) (by decide) (by decide) rfl (by decide) ?_
        exact kL_person hC hK hA hX hbl hbA hL ⟨hi.1, by omega⟩ gP gL gW gF gC hP hD hS hl K
      by_cases sw8 : kand (sx xs i) 31 = 8
      · refine z_tab (tgt := 354) (off := 321) hx hb 8 dL_law_33 sw8 (by decide) (by decide) (by decide) rfl (by decide) ?_
        exact kL_kind hC hK hA hX hbl hbA hL ⟨hi.1, by omega⟩ gP gL gW gF gC hP hD hS hl K
      by_cases sw9 : kand (sx xs i) 31 = 9
      · refine z_tab (tgt := 377) (off := 344) hx hb 9 dL_law_33 sw9 (by decide) (by decide) (by decide) rfl (by decide) ?_
        exact kL_as hC hK hA hX hbl hbA hL ⟨hi.1, by omega⟩ gP gL gW gF gC hP hD hS hl K
      by_cases sw10 : kand (sx xs i) 31 = 10
      · refine z_tab (tgt := 410) (off := 377) hx hb 10 dL_law_33 sw10 (by decide) (by decide) (by decide) rfl (by decide) ?_
        exact kL_tells hC hK hA hX hbl hbA hL ⟨hi.1, by omega⟩ gP gL gW gF gC hP hD hS hl K
      by_cases sw11 : kand (sx xs i) 31 = 11
      · refine z_tab (tgt := 443) (off := 410) hx hb 11 dL_law_33 sw11 (by decide) (by decide) (by decide) rfl (by decide) ?_
        exact kL_knows hC hK hA hX hbl hbA hL ⟨hi.1, by omega⟩ gP gL gW gF gC hP hD hS hl K
      by_cases sw12 : kand (sx xs i) 31 = 12
      · refine z_tab (tgt := 502) (off := 469) hx hb 12 dL_law_33 sw12 (by decide) (by decide) (by decide) rfl (by decide) ?_
        exact kL_see hC hK hA hX hbl hbA hL ⟨hi.1, by omega⟩ gP gL gW gF gC hP hD hS hl K
      by_cases sw13 : kand (sx xs i) 31 = 13
      · refine z_tab (tgt := 545) (off := 512) hx hb 13 dL_law_33 sw13 (by decide) (by decide) (by decide) rfl (by decide) ?_
        exact kL_drop hC hK hA hX hbl hbA hL ⟨hi.1, by omega⟩ gP gL gW gF gC hP hD hS hl K
      by_cases sw14 : kand (sx xs i) 31 = 14
      · refine z_tab (tgt := 568) (off := 535) hx hb 14 dL_law_33 sw14 (by decide) (by decide) (by decide) rfl (by decide) ?_
        exact kL_size hC hK hA hX hbl hbA hL ⟨hi.1, by omega⟩ gP gL gW gF gC hP hD hS hl K
      by_cases sw15 : kand (sx xs i) 31 = 15
      · refine z_tab (tgt := 601) (off := 568) hx hb 15 dL_law_33 sw15 (by decide) (by decide) (by decide) rfl (by decide) ?_
        exact kL_from hC hK hA hX hbl hbA hL ⟨hi.1, by omega⟩ gP gL gW gF gC hP hD hS hl K
      by_cases sw16 : kand (sx xs i) 31 = 16
      · refine z_tab (tgt := 634) (off := 601) hx hb 16 dL_law_33 sw16 (by decide) (by decide) (by decide) rfl (by decide) ?_
        exact kL_firsts hC hK hA hX hbl hbA hL ⟨hi.1, by omega⟩ gP gL gW gF gC hP hD hS hl K
      by_cases sw17 : kand (sx xs i) 31 = 17
      · refine z_tab (tgt := 687) (off := 654) hx hb 17 dL_law_33 sw17 (by decide) (by decide) (by decide) rfl (by decide) ?_
        exact kL_modest hC hK hA hX hbl hbA hL ⟨hi.1, by omega⟩ gP gL gW gF gC hP hD hS hl K
      by_cases sw18 : kand (sx xs i) 31 = 18
      · refine z_tab (tgt := 730) (off := 697) hx hb 18 dL_law_33 sw18 (by decide) (by decide) (by decide) rfl (by decide) ?_
        exact kL_one hC hK hA hX hbl hbA hL ⟨hi.1, by omega⟩ gP gL gW gF gC hP hD hS hl K
      by_cases sw19 : kand (sx xs i) 31 = 19
      · refine z_tab (tgt := 783) (off := 750) hx hb 19 dL_law_33 sw19 (by decide) (by decide) (by decide) rfl (by decide) ?_
        exact kL_ask hC hK hA hX hbl hbA hL ⟨hi.1, by omega⟩ gP gL gW gF gC hP hD hS hl K
      by_cases sw20 : kand (sx xs i) 31 = 20
      · refine z_tab (tgt := 806) (off := 773) hx hb 20 dL_law_33 sw20 (by decide) (by decide) (by decide) rfl (by decide) ?_
        exact kL_chain hC hK hA hX hbl hbA hL ⟨hi.1, by omega⟩ gP gL gW gF gC hP hD hS hl K
      by_cases sw21 : kand (sx xs i) 31 = 21
      · refine z_tab (tgt := 869) (off := 836) hx hb 21 dL_law_33 sw21 (by decide) (by decide) (by decide) rfl (by decide) ?_
        exact kL_chance hC hK hA hX hbl hbA hL ⟨hi.1, by omega⟩ gP gL gW gF gC hP hD hS hl K
      by_cases sw22 : kand (sx xs i) 31 = 22
      · refine z_tab (tgt := 933) (off := 900) hx hb 22 dL_law_33 sw22 (by decide) (by decide) (by decide) rfl (by decide) ?_
        exact kL_likeliest hC hK hA hX hbl hbA hL ⟨hi.1, by omega⟩ gP gL gW gF gC hP hD hS hl K
      by_cases sw23 : kand (sx xs i) 31 = 23
      · refine z_tab (tgt := 976) (off := 943) hx hb 23 dL_law_33 sw23 (by decide) (by decide) (by decide) rfl (by decide) ?_
        exact kL_gossip hC hK hA hX hbl hbA hL ⟨hi.1, by omega⟩ gP gL gW gF gC hP hD hS hl K
      by_cases sw24 : kand (sx xs i) 31 = 24
      · refine z_tab (tgt := 1019) (off := 986) hx hb 24 dL_law_33 sw24 (by decide) (by decide) (by decide) rfl (by decide) ?_
        exact kL_image hC hK hA hX hbl hbA hL ⟨hi.1, by omega⟩ gP gL gW gF gC hP hD hS hl K
      by_cases sw25 : kand (sx xs i) 31 = 25
      · refine z_tab (tgt := 1032) (off := 999) hx hb 25 dL_law_33 sw25 (by decide) (by decide) (by decide) rfl (by decide) ?_
        exact kL_restore hC hK hA hX hbl hbA hL ⟨hi.1, by omega⟩ gP gL gW gF gC hP hD hS hl K
      by_cases sw26 : kand (sx xs i) 31 = 26
      · refine z_tab (tgt := 1045) (off := 1012) hx hb 26 dL_law_33 sw26 (by decide) (by decide) (by decide) rfl (by decide) ?_
        exact kL_count hC hK hA hX hbl hbA hL ⟨hi.1, by omega⟩ gP gL gW gF gC hP hD hS hl K
      by_cases sw27 : kand (sx xs i) 31 = 27
      · refine z_tab (tgt := 1068) (off := 1035) hx hb 27 dL_law_33 sw27 (by decide) (by decide) (by decide) rfl (by decide) ?_
        exact kL_digest hC hK hA hX hbl hbA hL ⟨hi.1, by omega⟩ gP gL gW gF gC hP hD hS hl K
      refine z_tabO (tgt := 1082) hx hb dL_law_33 (by omega) (by omega) (by decide) ?_
      exact K pg sg dg so mu tt to te tw kd ki kn wi ss se kd2 kn2 wi2 ss2 kw ks bg fm la ra ma mt ln wy ns nu nt no bo fo aw ft qu him n st rd tn wr pe pe2 inl few tof dn tl0 sd0 fa iw nm qe sd hh H locs ls gP gL gW gF (lC_up gC (by omega)) hP hD hS hl
