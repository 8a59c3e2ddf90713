theorem qJ7_fill_53178 : yJ7_fill_53178.cls ≠ "java/lang/invoke/MethodHandle" ∧ yJ7_fill_53178.cls ≠ "java/lang/invoke/VarHandle" ∧ (parseMethodDescriptor yJ7_fill_53178.desc).map (fun d => d.parameters.length) = some 2 := by decide +kernel
set_option maxHeartbeats 4000000 in
set_option maxRecDepth 100000 in
theorem c_J7_fill_53178 (l : Launch) (D : va_G) (cI cJ cB : ClassId) (aa N : Nat) (g : Int → Int) (v : Int) (hN : N < 2147483648) : zMv l yJ7_fill_53178 wsJ7_fill_53178 (zRm 0 0) D (zT cI cJ cB) [.ref aa, .int (iZ v)] [(aa, aI cI N g)] (fun (w : va_W) => w = [(aa, aI cI N (fun _ => v))]) := by
  refine z_of (Qc := fun A => zQv D [(aa, aI cI N g)] A _) (cc := cJ7_fill_53178) (maxL := 4) (ret := none) (by decide) rfl (Nat.le_of_ble_eq_true rfl) ?_
  intro p e s m below meth c A ls hx hb hr hts hown hlocks hml hK hP hD hS hA hl
  replace hown : s.vm.findClass RJ7 = some m.cls := hown
  have hC : CallFix p m c cJ7_fill_53178 4 s _ wsJ7_fill_53178 RJ7 := ⟨hx, hb, hml, hown, hts⟩
  replace hl : lv_has ls 4 [(0, .ref aa), (1, .int (iZ v))] := hl
  refine lv_iconst (v := iZ 0) hx hb dJ7_fill_53178_0 (by decide) ?_
  refine lv_istore_n (lv' := [(2, .int (iZ 0)), (0, .ref aa), (1, .int (iZ v))]) hx hb dJ7_fill_53178_1 rfl hl (by decide) rfl (fun ls hl => ?_)
  refine lv_aload_n hx hb dJ7_fill_53178_2 rfl (lv_at hl 1 rfl) ?_
  refine va_alen (v := iZ (N : Int)) hx hb hK.1 hP 0 0 rfl rfl Int32.ofInt_eq_ofNat.symm dJ7_fill_53178_3 ?_
  refine lv_istore_n (lv' := [(3, .int (iZ (N : Int))), (2, .int (iZ 0)), (0, .ref aa), (1, .int (iZ v))]) hx hb dJ7_fill_53178_4 rfl hl (by decide) rfl (fun ls hl => ?_)
  have lp5 : ∀ fuel : Nat, ∀ (i : Int) (g1 : Int → Int), (0 ≤ i ∧ i ≤ N) → (∀ j, 0 ≤ j → j < i → g1 j = v) → ((N : Int) - i) < (fuel : Int) → ∀ (H : Heap) (locs : List Loc) (ls : Array Slot), va_P D vwCl [(aa, aI cI N g1)] H → va_D A [(aa, aI cI N g1)] → va_S A s.heap H locs → lv_has ls 4 [(0, .ref aa), (1, .int (iZ v)), (2, .int (iZ i)), (3, .int (iZ (N : Int)))] → W p l e (zRm 0 0) s m [.ref aa, .int (iZ v)].toArray below meth c H locs 0 0 (MQ below (zQv D [(aa, aI cI N g)] A (fun (w : va_W) => w = [(aa, aI cI N (fun _ => v))])) [.ref aa, .int (iZ v)].toArray s 0 0 A) (F0 m 5 ls []) := by
    intro fuel
    induction fuel with
    | zero => intro i g1 hi hg1 hmu5; exact absurd hmu5 (by omega)
    | succ fuel ih5 =>
      intro i g1 hi hg1 hmu5 H locs ls hP hD hS hl
      refine lv_iload_n hx hb dJ7_fill_53178_5 rfl (lv_at hl 2 rfl) ?_
      refine lv_iload_n hx hb dJ7_fill_53178_6 rfl (lv_at hl 3 rfl) ?_
      refine z_icmp_ge (tgt := 20) hx hb dJ7_fill_53178_7 (by decide) (by first | assumption | omega) (by first | assumption | omega) (fun c_7 => ?_) (fun c_7 => ?_)
      · obtain ⟨hP, hD⟩ := z_cg hP hD 0 (g' := fun _ => v) rfl (by intro j h1 h2; exact hg1 j h1 (by omega))
        replace hP : va_P D vwCl [(aa, aI cI N (fun _ => v))] H := hP
        replace hD : va_D A [(aa, aI cI N (fun _ => v))] := hD
        exact z_vret hx hb hr hlocks hP hD hS dJ7_fill_53178_20 rfl (by first | (exact rfl) | (exfalso; omega))
      · refine lv_aload_n hx hb dJ7_fill_53178_10 rfl (lv_at hl 0 rfl) ?_
        refine lv_iload_n hx hb dJ7_fill_53178_11 rfl (lv_at hl 2 rfl) ?_
        refine lv_iload_n hx hb dJ7_fill_53178_12 rfl (lv_at hl 1 rfl) ?_
        refine z_iast hx hb hK hP hD hS 0 0 rfl rfl (by omega) (by first | assumption | omega) dJ7_fill_53178_13 (fun H locs hP hD hS => ?_)
        replace hP : va_P D vwCl [(aa, aI cI N (zu g1 i v))] H := hP
        replace hD : va_D A [(aa, aI cI N (zu g1 i v))] := hD
        refine z_iinc (lv' := [(2, .int (iZ (i + 1))), (0, .ref aa), (1, .int (iZ v)), (3, .int (iZ (N : Int)))]) hx hb dJ7_fill_53178_14 hl (k := 2) rfl (by decide) rfl (fun ls hl => ?_)
        refine lv_goto (tgt := 5) hx hb dJ7_fill_53178_17 (by decide) ?_
        exact ih5 (i + 1) (zu g1 i v) (by first | assumption | omega) (by intro j h1 h2; rw [zu_at]; split; rfl; exact hg1 j h1 (by omega)) (by omega) _ _ _ hP hD hS (lv_sub hl [1, 2, 0, 3] rfl)
  exact lp5 (((N : Int) - 0 : Int) + 1).toNat 0 g (by first | assumption | omega) (by intro j h1 h2; omega) (by omega) _ _ _ hP hD hS (lv_sub hl [2, 3, 1, 0] rfl)
theorem qJ7_fill_d0a16 : yJ7_fill_d0a16.cls ≠ "java/lang/invoke/MethodHandle" ∧ yJ7_fill_d0a16.cls ≠ "java/lang/invoke/VarHandle" ∧ (parseMethodDescriptor yJ7_fill_d0a16.desc).map (fun d => d.parameters.length) = some 2 := by decide +kernel
set_option maxHeartbeats 4000000 in
set_option maxRecDepth 100000 in
theorem c_J7_fill_d0a16 (l : Launch) (D : va_G) (cI cJ cB : ClassId) (aa N : Nat) (g : Int → Int) (v : Int) (hN : N < 2147483648) : zMv l yJ7_fill_d0a16 wsJ7_fill_d0a16 (zRm 0 0) D (zT cI cJ cB) [.ref aa, .long (lZ v)] [(aa, aL cJ N g)] (fun (w : va_W) => w = [(aa, aL cJ N (fun _ => v))]) := by
  refine z_of (Qc := fun A => zQv D [(aa, aL cJ N g)] A _) (cc := cJ7_fill_d0a16) (maxL := 5) (ret := none) (by decide) rfl (Nat.le_of_ble_eq_true rfl) ?_
  intro p e s m below meth c A ls hx hb hr hts hown hlocks hml hK hP hD hS hA hl
  replace hown : s.vm.findClass RJ7 = some m.cls := hown
  have hC : CallFix p m c cJ7_fill_d0a16 5 s _ wsJ7_fill_d0a16 RJ7 := ⟨hx, hb, hml, hown, hts⟩
  replace hl : lv_has ls 5 [(0, .ref aa), (1, .long (lZ v))] := hl
  refine lv_iconst (v := iZ 0) hx hb dJ7_fill_d0a16_0 (by decide) ?_
  refine lv_istore_n (lv' := [(3, .int (iZ 0)), (0, .ref aa), (1, .long (lZ v))]) hx hb dJ7_fill_d0a16_1 rfl hl (by decide) rfl (fun ls hl => ?_)
  refine lv_aload_n hx hb dJ7_fill_d0a16_2 rfl (lv_at hl 1 rfl) ?_
  refine va_alen (v := iZ (N : Int)) hx hb hK.1 hP 0 1 rfl rfl Int32.ofInt_eq_ofNat.symm dJ7_fill_d0a16_3 ?_
  refine lv_istore (lv' := [(4, .int (iZ (N : Int))), (3, .int (iZ 0)), (0, .ref aa), (1, .long (lZ v))]) hx hb dJ7_fill_d0a16_4 hl (by decide) rfl (fun ls hl => ?_)
  have lp6 : ∀ fuel : Nat, ∀ (i : Int) (g1 : Int → Int), (0 ≤ i ∧ i ≤ N) → (∀ j, 0 ≤ j → j < i → g1 j = v) → ((N : Int) - i) < (fuel : Int) → ∀ (H : Heap) (locs : List Loc) (ls : Array Slot), va_P D vwCl [(aa, aL cJ N g1)] H → va_D A [(aa, aL cJ N g1)] → va_S A s.heap H locs → lv_has ls 5 [(0, .ref aa), (1, .long (lZ v)), (3, .int (iZ i)), (4, .int (iZ (N : Int)))] → W p l e (zRm 0 0) s m [.ref aa, .long (lZ v)].toArray below meth c H locs 0 0 (MQ below (zQv D [(aa, aL cJ N g)] A (fun (w : va_W) => w = [(aa, aL cJ N (fun _ => v))])) [.ref aa, .long (lZ v)].toArray s 0 0 A) (F0 m 6 ls []) := by
    intro fuel
    induction fuel with
    | zero => intro i g1 hi hg1 hmu6; exact absurd hmu6 (by omega)
    | succ fuel ih6 =>
      intro i g1 hi hg1 hmu6 H locs ls hP hD hS hl
      refine lv_iload_n hx hb dJ7_fill_d0a16_6 rfl (lv_at hl 2 rfl) ?_
      refine lv_iload hx hb dJ7_fill_d0a16_7 (lv_at hl 3 rfl) ?_
      refine z_icmp_ge (tgt := 22) hx hb dJ7_fill_d0a16_9 (by decide) (by first | assumption | omega) (by first | assumption | omega) (fun c_9 => ?_) (fun c_9 => ?_)
      · obtain ⟨hP, hD⟩ := z_cgL hP hD 0 (g' := fun _ => v) rfl (by intro j h1 h2; exact hg1 j h1 (by omega))
        replace hP : va_P D vwCl [(aa, aL cJ N (fun _ => v))] H := hP
        replace hD : va_D A [(aa, aL cJ N (fun _ => v))] := hD
        exact z_vret hx hb hr hlocks hP hD hS dJ7_fill_d0a16_22 rfl (by first | (exact rfl) | (exfalso; omega))
      · refine lv_aload_n hx hb dJ7_fill_d0a16_12 rfl (lv_at hl 0 rfl) ?_
        refine lv_iload_n hx hb dJ7_fill_d0a16_13 rfl (lv_at hl 2 rfl) ?_
        refine lv_lload_n hx hb dJ7_fill_d0a16_14 rfl (lv_at hl 1 rfl) ?_
        refine z_last hx hb hK hP hD hS 0 1 rfl rfl (by omega) (by first | assumption | omega) dJ7_fill_d0a16_15 (fun H locs hP hD hS => ?_)
        replace hP : va_P D vwCl [(aa, aL cJ N (zu g1 i v))] H := hP
        replace hD : va_D A [(aa, aL cJ N (zu g1 i v))] := hD
        refine z_iinc (lv' := [(3, .int (iZ (i + 1))), (0, .ref aa), (1, .long (lZ v)), (4, .int (iZ (N : Int)))]) hx hb dJ7_fill_d0a16_16 hl (k := 2) rfl (by decide) rfl (fun ls hl => ?_)
        refine lv_goto (tgt := 6) hx hb dJ7_fill_d0a16_19 (by decide) ?_
        exact ih6 (i + 1) (zu g1 i v) (by first | assumption | omega) (by intro j h1 h2; rw [zu_at]; split; rfl; exact hg1 j h1 (by omega)) (by omega) _ _ _ hP hD hS (lv_sub hl [1, 2, 0, 3] rfl)
  exact lp6 (((N : Int) - 0 : Int) + 1).toNat 0 g (by first | assumption | omega) (by intro j h1 h2; omega) (by omega) _ _ _ hP hD hS (lv_sub hl [2, 3, 1, 0] rfl)
theorem qX7_begin : yX7_begin.cls ≠ "java/lang/invoke/MethodHandle" ∧ yX7_begin.cls ≠ "java/lang/invoke/VarHandle" ∧ (parseMethodDescriptor yX7_begin.desc).map (fun d => d.parameters.length) = some 2 := by decide +kernel
set_option maxHeartbeats 4000000 in
set_option maxRecDepth 100000 in
theorem c_X7_begin (l : Launch) (D : va_G) (cI cJ cB : ClassId) (xr xrs xro : Nat) (bg fm : Int → Int) (w0 x : Int) (hw0 : -1 ≤ w0 ∧ w0 ≤ 7) : zMv l yX7_begin wsX7_begin (zRm 1 23) D (zT cI cJ cB) [.ref xr, .int (iZ w0), .int (iZ x)] [(xr, ob 7 [.ref xrs, .ref xro]), (xrs, aI cI 8 bg), (xro, aI cI 8 fm)] (fun (w : va_W) => w = [(xr, ob 7 [.ref xrs, .ref xro]), (xrs, aI cI 8 (bgn w0 x)), (xro, aI cI 8 (fun _ => -1))]) := by
  refine z_of (Qc := fun A => zQv D [(xr, ob 7 [.ref xrs, .ref xro]), (xrs, aI cI 8 bg), (xro, aI cI 8 fm)] A _) (cc := cX7_begin) (maxL := 3) (ret := none) (by decide) rfl (Nat.le_of_ble_eq_true rfl) ?_
  intro p e s m below meth c A ls hx hb hr hts hown hlocks hml hK hP hD hS hA hl
  replace hown : s.vm.findClass RX7 = some m.cls := hown
  have hC : CallFix p m c cX7_begin 3 s _ wsX7_begin RX7 := ⟨hx, hb, hml, hown, hts⟩
  replace hl : lv_has ls 3 [(0, .ref xr), (1, .int (iZ w0)), (2, .int (iZ x))] := hl
  have iwX7 : ∀ w ∈ u_ws RX7 TX7 2, w ∈ wsX7_begin := fun w h => List.mem_cons_of_mem _ (List.mem_append_right _ h)
  have fl9 : Cond.fieldLink RX7 9 "GrowsByHalf$Rumour" "sizes" "[I" ∈ wsX7_begin := by decide +kernel
  have fl15 : Cond.fieldLink RX7 15 "GrowsByHalf$Rumour" "sources" "[I" ∈ wsX7_begin := by decide +kernel
  refine lv_aload_n hx hb dX7_begin_0 rfl (lv_at hl 0 rfl) ?_
  refine z_get (C := RX7) (T0 := TX7) (N := 2) (ci := 7) (v := .ref xrs) hx hb hts hown hK hP iwX7 rfl 0 rfl 0 (by decide) fl9 rfl dX7_begin_1 ?_
  refine lv_iconst (v := iZ (-1)) hx hb dX7_begin_4 (by decide) ?_
  refine z_Sv (As := [.ref xrs, .int (iZ (-1))]) (rest := []) hC (c_J7_fill_53178 l D cI cJ cB xrs 8 bg (-1) (by first | assumption | omega)) 2 gX7_begin_J7_fill_53178 rfl rfl rfl qJ7_fill_53178 ⟨Nat.le_of_ble_eq_true rfl, Nat.le_of_ble_eq_true rfl⟩ ⟨Nat.le_refl _, Nat.le_refl _⟩ hK hP hD hS hA [1] rfl (by decide) rfl hl.1 rfl (Nat.le_of_ble_eq_true rfl) dX7_begin_5 (fun w H locs hq hP hD hS => ?_)
  rcases hq with rfl
  replace hP : va_P D vwCl [(xr, ob 7 [.ref xrs, .ref xro]), (xrs, aI cI 8 (fun _ => (-1))), (xro, aI cI 8 fm)] H := hP
  replace hD : va_D A [(xr, ob 7 [.ref xrs, .ref xro]), (xrs, aI cI 8 (fun _ => (-1))), (xro, aI cI 8 fm)] := hD
  refine lv_aload_n hx hb dX7_begin_8 rfl (lv_at hl 0 rfl) ?_
  refine z_get (C := RX7) (T0 := TX7) (N := 2) (ci := 7) (v := .ref xro) hx hb hts hown hK hP iwX7 rfl 0 rfl 1 (by decide) fl15 rfl dX7_begin_9 ?_
  refine lv_iconst (v := iZ (-1)) hx hb dX7_begin_12 (by decide) ?_
  refine z_Sv (As := [.ref xro, .int (iZ (-1))]) (rest := []) hC (c_J7_fill_53178 l D cI cJ cB xro 8 fm (-1) (by first | assumption | omega)) 2 gX7_begin_J7_fill_53178 rfl rfl rfl qJ7_fill_53178 ⟨Nat.le_of_ble_eq_true rfl, Nat.le_of_ble_eq_true rfl⟩ ⟨Nat.le_refl _, Nat.le_refl _⟩ hK hP hD hS hA [2] rfl (by decide) rfl hl.1 rfl (Nat.le_of_ble_eq_true rfl) dX7_begin_13 (fun w H locs hq hP hD hS => ?_)
  rcases hq with rfl
  replace hP : va_P D vwCl [(xr, ob 7 [.ref xrs, .ref xro]), (xrs, aI cI 8 (fun _ => (-1))), (xro, aI cI 8 (fun _ => (-1)))] H := hP
  replace hD : va_D A [(xr, ob 7 [.ref xrs, .ref xro]), (xrs, aI cI 8 (fun _ => (-1))), (xro, aI cI 8 (fun _ => (-1)))] := hD
  refine lv_iload_n hx hb dX7_begin_16 rfl (lv_at hl 1 rfl) ?_
  refine z_Si (As := [.int (iZ w0)]) (rest := []) hC (c_X7_isPlace l D cI cJ cB w0 (by first | assumption | omega)) 1 gX7_begin_X7_isPlace rfl rfl rfl qX7_isPlace ⟨Nat.le_of_ble_eq_true rfl, Nat.le_of_ble_eq_true rfl⟩ ⟨Nat.le_refl _, Nat.le_refl _⟩ hK hP hD hS hA [] rfl (by decide) rfl hl.1 rfl (Nat.le_of_ble_eq_true rfl) dX7_begin_17 (fun z w H locs hq hP hD hS => ?_)
  rcases hq with ⟨rfl, rfl, hc3_0⟩ | ⟨rfl, rfl, hc3_0⟩
  · replace hP : va_P D vwCl [(xr, ob 7 [.ref xrs, .ref xro]), (xrs, aI cI 8 (fun _ => (-1))), (xro, aI cI 8 (fun _ => (-1)))] H := hP
    replace hD : va_D A [(xr, ob 7 [.ref xrs, .ref xro]), (xrs, aI cI 8 (fun _ => (-1))), (xro, aI cI 8 (fun _ => (-1)))] := hD
    refine z_if_eq (tgt := 30) hx hb dX7_begin_20 (by decide) (by first | assumption | omega) (fun h => absurd h (by decide)) (fun _ => ?_)
    refine lv_aload_n hx hb dX7_begin_23 rfl (lv_at hl 0 rfl) ?_
    refine z_get (C := RX7) (T0 := TX7) (N := 2) (ci := 7) (v := .ref xrs) hx hb hts hown hK hP iwX7 rfl 0 rfl 0 (by decide) fl9 rfl dX7_begin_24 ?_
    refine lv_iload_n hx hb dX7_begin_27 rfl (lv_at hl 1 rfl) ?_
    refine lv_iload_n hx hb dX7_begin_28 rfl (lv_at hl 2 rfl) ?_
    refine z_iast hx hb hK hP hD hS 1 0 rfl rfl (by omega) (by first | assumption | omega) dX7_begin_29 (fun H locs hP hD hS => ?_)
    replace hP : va_P D vwCl [(xr, ob 7 [.ref xrs, .ref xro]), (xrs, aI cI 8 (zu (fun _ => (-1)) w0 x)), (xro, aI cI 8 (fun _ => (-1)))] H := hP
    replace hD : va_D A [(xr, ob 7 [.ref xrs, .ref xro]), (xrs, aI cI 8 (zu (fun _ => (-1)) w0 x)), (xro, aI cI 8 (fun _ => (-1)))] := hD
    obtain ⟨hP, hD⟩ := z_cg hP hD 1 (g' := bgn w0 x) rfl (by intro j _ _; unfold bgn; split <;> first | rfl | (exfalso; omega))
    replace hP : va_P D vwCl [(xr, ob 7 [.ref xrs, .ref xro]), (xrs, aI cI 8 (bgn w0 x)), (xro, aI cI 8 (fun _ => (-1)))] H := hP
    replace hD : va_D A [(xr, ob 7 [.ref xrs, .ref xro]), (xrs, aI cI 8 (bgn w0 x)), (xro, aI cI 8 (fun _ => (-1)))] := hD
    exact z_vret hx hb hr hlocks hP hD hS dX7_begin_30 rfl (by first | (exact rfl) | (exfalso; omega))
  · replace hP : va_P D vwCl [(xr, ob 7 [.ref xrs, .ref xro]), (xrs, aI cI 8 (fun _ => (-1))), (xro, aI cI 8 (fun _ => (-1)))] H := hP
    replace hD : va_D A [(xr, ob 7 [.ref xrs, .ref xro]), (xrs, aI cI 8 (fun _ => (-1))), (xro, aI cI 8 (fun _ => (-1)))] := hD
    refine z_if_eq (tgt := 30) hx hb dX7_begin_20 (by decide) (by first | assumption | omega) (fun _ => ?_) (fun h => absurd h (by decide))
    obtain ⟨hP, hD⟩ := z_cg hP hD 1 (g' := bgn w0 x) rfl (by intro j _ _; unfold bgn; split <;> first | rfl | (exfalso; omega))
    replace hP : va_P D vwCl [(xr, ob 7 [.ref xrs, .ref xro]), (xrs, aI cI 8 (bgn w0 x)), (xro, aI cI 8 (fun _ => (-1)))] H := hP
    replace hD : va_D A [(xr, ob 7 [.ref xrs, .ref xro]), (xrs, aI cI 8 (bgn w0 x)), (xro, aI cI 8 (fun _ => (-1)))] := hD
    exact z_vret hx hb hr hlocks hP hD hS dX7_begin_30 rfl (by first | (exact rfl) | (exfalso; omega))
theorem qX7_howManyHaveIt : yX7_howManyHaveIt.cls ≠ "java/lang/invoke/MethodHandle" ∧ yX7_howManyHaveIt.cls ≠ "java/lang/invoke/VarHandle" ∧ (parseMethodDescriptor yX7_howManyHaveIt.desc).map (fun d => d.parameters.length) = some 0 := by decide +kernel
set_option maxHeartbeats 4000000 in
set_option maxRecDepth 100000 in
theorem c_X7_howManyHaveIt (l : Launch) (D : va_G) (cI cJ cB : ClassId) (xr xrs xro : Nat) (bg : Int → Int) (hbg : ∀ j, -1 ≤ bg j ∧ bg j ≤ 9999) : zMi l yX7_howManyHaveIt wsX7_howManyHaveIt (zRm 0 0) D (zT cI cJ cB) [.ref xr] [(xr, ob 7 [.ref xrs, .ref xro]), (xrs, aI cI 8 bg)] (fun (z : Int) (w : va_W) => hmy bg 8 = z ∧ w = [(xr, ob 7 [.ref xrs, .ref xro]), (xrs, aI cI 8 bg)]) := by
  refine z_of (Qc := fun A => zQi D [(xr, ob 7 [.ref xrs, .ref xro]), (xrs, aI cI 8 bg)] A _) (cc := cX7_howManyHaveIt) (maxL := 6) (ret := (some .int)) (by decide) rfl (Nat.le_of_ble_eq_true rfl) ?_
  intro p e s m below meth c A ls hx hb hr hts hown hlocks hml hK hP hD hS hA hl
  replace hown : s.vm.findClass RX7 = some m.cls := hown
  have hC : CallFix p m c cX7_howManyHaveIt 6 s _ wsX7_howManyHaveIt RX7 := ⟨hx, hb, hml, hown, hts⟩
  replace hl : lv_has ls 6 [(0, .ref xr)] := hl
  have iwX7 : ∀ w ∈ u_ws RX7 TX7 2, w ∈ wsX7_howManyHaveIt := fun w h => List.mem_cons_of_mem _ (List.mem_append_right _ h)
  have fl9 : Cond.fieldLink RX7 9 "GrowsByHalf$Rumour" "sizes" "[I" ∈ wsX7_howManyHaveIt := by decide +kernel
  refine lv_iconst (v := iZ 0) hx hb dX7_howManyHaveIt_0 (by decide) ?_
  refine lv_istore_n (lv' := [(1, .int (iZ 0)), (0, .ref xr)]) hx hb dX7_howManyHaveIt_1 rfl hl (by decide) rfl (fun ls hl => ?_)
  refine lv_aload_n hx hb dX7_howManyHaveIt_2 rfl (lv_at hl 1 rfl) ?_
  refine z_get (C := RX7) (T0 := TX7) (N := 2) (ci := 7) (v := .ref xrs) hx hb hts hown hK hP iwX7 rfl 0 rfl 0 (by decide) fl9 rfl dX7_howManyHaveIt_3 ?_
  refine lv_astore_n (lv' := [(2, .ref xrs), (1, .int (iZ 0)), (0, .ref xr)]) hx hb dX7_howManyHaveIt_6 rfl hl (by decide) rfl (fun ls hl => ?_)
  refine lv_aload_n hx hb dX7_howManyHaveIt_7 rfl (lv_at hl 0 rfl) ?_
  refine va_alen (v := iZ 8) hx hb hK.1 hP 1 0 rfl rfl rfl dX7_howManyHaveIt_8 ?_
  refine lv_istore_n (lv' := [(3, .int (iZ 8)), (2, .ref xrs), (1, .int (iZ 0)), (0, .ref xr)]) hx hb dX7_howManyHaveIt_9 rfl hl (by decide) rfl (fun ls hl => ?_)
  refine lv_iconst (v := iZ 0) hx hb dX7_howManyHaveIt_10 (by decide) ?_
  refine lv_istore (lv' := [(4, .int (iZ 0)), (3, .int (iZ 8)), (2, .ref xrs), (1, .int (iZ 0)), (0, .ref xr)]) hx hb dX7_howManyHaveIt_11 hl (by decide) rfl (fun ls hl => ?_)
  have lp13 : ∀ fuel : Nat, ∀ (i hv : Int), (0 ≤ i ∧ i ≤ 8) → (hv = hmy bg i.toNat) → (0 ≤ hv ∧ hv ≤ i) → (8 - i) < (fuel : Int) → ∀ (H : Heap) (locs : List Loc) (ls : Array Slot), va_P D vwCl [(xr, ob 7 [.ref xrs, .ref xro]), (xrs, aI cI 8 bg)] H → va_D A [(xr, ob 7 [.ref xrs, .ref xro]), (xrs, aI cI 8 bg)] → va_S A s.heap H locs → lv_has ls 6 [(0, .ref xr), (1, .int (iZ hv)), (2, .ref xrs), (3, .int (iZ 8)), (4, .int (iZ i))] → W p l e (zRm 0 0) s m [.ref xr].toArray below meth c H locs 0 0 (MQ below (zQi D [(xr, ob 7 [.ref xrs, .ref xro]), (xrs, aI cI 8 bg)] A (fun (z : Int) (w : va_W) => hmy bg 8 = z ∧ w = [(xr, ob 7 [.ref xrs, .ref xro]), (xrs, aI cI 8 bg)])) [.ref xr].toArray s 0 0 A) (F0 m 13 ls []) := by
    intro fuel
    induction fuel with
    | zero => intro i hv hi hh hr2 hmu13; exact absurd hmu13 (by omega)
    | succ fuel ih13 =>
      intro i hv hi hh hr2 hmu13 H locs ls hP hD hS hl
      refine lv_iload hx hb dX7_howManyHaveIt_13 (lv_at hl 4 rfl) ?_
      refine lv_iload_n hx hb dX7_howManyHaveIt_15 rfl (lv_at hl 3 rfl) ?_
      refine z_icmp_ge (tgt := 45) hx hb dX7_howManyHaveIt_16 (by decide) (by first | assumption | omega) (by first | assumption | omega) (fun c_16 => ?_) (fun c_16 => ?_)
      · refine lv_iload_n hx hb dX7_howManyHaveIt_45 rfl (lv_at hl 1 rfl) ?_
        exact z_iret hx hb hr hlocks hP hD hS dX7_howManyHaveIt_46 rfl (by refine ⟨?_, rfl⟩; rw [hh, show i = 8 from by omega]; (try rfl))
      · refine lv_aload_n hx hb dX7_howManyHaveIt_19 rfl (lv_at hl 2 rfl) ?_
        refine lv_iload hx hb dX7_howManyHaveIt_20 (lv_at hl 4 rfl) ?_
        refine z_iald hx hb hK hP 1 0 rfl rfl (by decide) (by first | assumption | omega) dX7_howManyHaveIt_22 ?_
        have rd_1 := hbg i
        refine lv_istore (lv' := [(5, .int (iZ (bg i))), (0, .ref xr), (1, .int (iZ hv)), (2, .ref xrs), (3, .int (iZ 8)), (4, .int (iZ i))]) hx hb dX7_howManyHaveIt_23 hl (by decide) rfl (fun ls hl => ?_)
        refine lv_iload_n hx hb dX7_howManyHaveIt_25 rfl (lv_at hl 2 rfl) ?_
        refine lv_iload hx hb dX7_howManyHaveIt_26 (lv_at hl 0 rfl) ?_
        refine lv_iconst (v := iZ (-1)) hx hb dX7_howManyHaveIt_28 (by decide) ?_
        refine z_icmp_eq (tgt := 36) hx hb dX7_howManyHaveIt_29 (by decide) (by first | assumption | omega) (by first | assumption | omega) (fun c_29 => ?_) (fun c_29 => ?_)
        · refine lv_iconst (v := iZ 0) hx hb dX7_howManyHaveIt_36 (by decide) ?_
          refine z_iadd hx hb dX7_howManyHaveIt_37 ?_
          refine lv_istore_n (lv' := [(1, .int (iZ (hv + 0))), (5, .int (iZ (bg i))), (0, .ref xr), (2, .ref xrs), (3, .int (iZ 8)), (4, .int (iZ i))]) hx hb dX7_howManyHaveIt_38 rfl hl (by decide) rfl (fun ls hl => ?_)
          refine z_iinc (lv' := [(4, .int (iZ (i + 1))), (1, .int (iZ (hv + 0))), (5, .int (iZ (bg i))), (0, .ref xr), (2, .ref xrs), (3, .int (iZ 8))]) hx hb dX7_howManyHaveIt_39 hl (k := 5) rfl (by decide) rfl (fun ls hl => ?_)
          refine lv_goto (tgt := 13) hx hb dX7_howManyHaveIt_42 (by decide) ?_
          exact ih13 (i + 1) (hv + 0) (by first | assumption | omega) (by rw [hmy_s (by omega)]; (first | rw [if_pos (by assumption)] | rw [if_neg (by assumption)]); omega) (by first | assumption | omega) (by omega) _ _ _ hP hD hS (lv_sub hl [3, 1, 4, 5, 0] rfl)
        · refine lv_iconst (v := iZ 1) hx hb dX7_howManyHaveIt_32 (by decide) ?_
          refine lv_goto (tgt := 37) hx hb dX7_howManyHaveIt_33 (by decide) ?_
          refine z_iadd hx hb dX7_howManyHaveIt_37 ?_
          refine lv_istore_n (lv' := [(1, .int (iZ (hv + 1))), (5, .int (iZ (bg i))), (0, .ref xr), (2, .ref xrs), (3, .int (iZ 8)), (4, .int (iZ i))]) hx hb dX7_howManyHaveIt_38 rfl hl (by decide) rfl (fun ls hl => ?_)
          refine z_iinc (lv' := [(4, .int (iZ (i + 1))), (1, .int (iZ (hv + 1))), (5, .int (iZ (bg i))), (0, .ref xr), (2, .ref xrs), (3, .int (iZ 8))]) hx hb dX7_howManyHaveIt_39 hl (k := 5) rfl (by decide) rfl (fun ls hl => ?_)
          refine lv_goto (tgt := 13) hx hb dX7_howManyHaveIt_42 (by decide) ?_
          exact ih13 (i + 1) (hv + 1) (by first | assumption | omega) (by rw [hmy_s (by omega)]; (first | rw [if_pos (by assumption)] | rw [if_neg (by assumption)]); omega) (by first | assumption | omega) (by omega) _ _ _ hP hD hS (lv_sub hl [3, 1, 4, 5, 0] rfl)
  exact lp13 ((8 - 0 : Int) + 1).toNat 0 0 (by first | assumption | omega) (by rfl) (by first | assumption | omega) (by omega) _ _ _ hP hD hS (lv_sub hl [4, 3, 2, 1, 0] rfl)
theorem qX7_biggest : yX7_biggest.cls ≠ "java/lang/invoke/MethodHandle" ∧ yX7_biggest.cls ≠ "java/lang/invoke/VarHandle" ∧ (parseMethodDescriptor yX7_biggest.desc).map (fun d => d.parameters.length) = some 0 := by decide +kernel
set_option maxHeartbeats 4000000 in
set_option maxRecDepth 100000 in
theorem c_X7_biggest (l : Launch) (D : va_G) (cI cJ cB : ClassId) (xr xrs xro : Nat) (bg : Int → Int) (hbg : ∀ j, -1 ≤ bg j ∧ bg j ≤ 9999) : zMi l yX7_biggest wsX7_biggest (zRm 1 21) D (zT cI cJ cB) [.ref xr] [(xr, ob 7 [.ref xrs, .ref xro]), (xrs, aI cI 8 bg)] (fun (z : Int) (w : va_W) => bst bg 8 = z ∧ w = [(xr, ob 7 [.ref xrs, .ref xro]), (xrs, aI cI 8 bg)]) := by
  refine z_of (Qc := fun A => zQi D [(xr, ob 7 [.ref xrs, .ref xro]), (xrs, aI cI 8 bg)] A _) (cc := cX7_biggest) (maxL := 6) (ret := (some .int)) (by decide) rfl (Nat.le_of_ble_eq_true rfl) ?_
  intro p e s m below meth c A ls hx hb hr hts hown hlocks hml hK hP hD hS hA hl
  replace hown : s.vm.findClass RX7 = some m.cls := hown
  have hC : CallFix p m c cX7_biggest 6 s _ wsX7_biggest RX7 := ⟨hx, hb, hml, hown, hts⟩
  replace hl : lv_has ls 6 [(0, .ref xr)] := hl
  have iwX7 : ∀ w ∈ u_ws RX7 TX7 2, w ∈ wsX7_biggest := fun w h => List.mem_cons_of_mem _ (List.mem_append_right _ h)
  have fl9 : Cond.fieldLink RX7 9 "GrowsByHalf$Rumour" "sizes" "[I" ∈ wsX7_biggest := by decide +kernel
  refine lv_iconst (v := iZ (-1)) hx hb dX7_biggest_0 (by decide) ?_
  refine lv_istore_n (lv' := [(1, .int (iZ (-1))), (0, .ref xr)]) hx hb dX7_biggest_1 rfl hl (by decide) rfl (fun ls hl => ?_)
  refine lv_aload_n hx hb dX7_biggest_2 rfl (lv_at hl 1 rfl) ?_
  refine z_get (C := RX7) (T0 := TX7) (N := 2) (ci := 7) (v := .ref xrs) hx hb hts hown hK hP iwX7 rfl 0 rfl 0 (by decide) fl9 rfl dX7_biggest_3 ?_
  refine lv_astore_n (lv' := [(2, .ref xrs), (1, .int (iZ (-1))), (0, .ref xr)]) hx hb dX7_biggest_6 rfl hl (by decide) rfl (fun ls hl => ?_)
  refine lv_aload_n hx hb dX7_biggest_7 rfl (lv_at hl 0 rfl) ?_
  refine va_alen (v := iZ 8) hx hb hK.1 hP 1 0 rfl rfl rfl dX7_biggest_8 ?_
  refine lv_istore_n (lv' := [(3, .int (iZ 8)), (2, .ref xrs), (1, .int (iZ (-1))), (0, .ref xr)]) hx hb dX7_biggest_9 rfl hl (by decide) rfl (fun ls hl => ?_)
  refine lv_iconst (v := iZ 0) hx hb dX7_biggest_10 (by decide) ?_
  refine lv_istore (lv' := [(4, .int (iZ 0)), (3, .int (iZ 8)), (2, .ref xrs), (1, .int (iZ (-1))), (0, .ref xr)]) hx hb dX7_biggest_11 hl (by decide) rfl (fun ls hl => ?_)
  have lp13 : ∀ fuel : Nat, ∀ (i hv : Int), (0 ≤ i ∧ i ≤ 8) → (hv = bst bg i.toNat) → (-1 ≤ hv ∧ hv ≤ 9999) → (8 - i) < (fuel : Int) → ∀ (H : Heap) (locs : List Loc) (ls : Array Slot), va_P D vwCl [(xr, ob 7 [.ref xrs, .ref xro]), (xrs, aI cI 8 bg)] H → va_D A [(xr, ob 7 [.ref xrs, .ref xro]), (xrs, aI cI 8 bg)] → va_S A s.heap H locs → lv_has ls 6 [(0, .ref xr), (1, .int (iZ hv)), (2, .ref xrs), (3, .int (iZ 8)), (4, .int (iZ i))] → W p l e (zRm 1 21) s m [.ref xr].toArray below meth c H locs 0 0 (MQ below (zQi D [(xr, ob 7 [.ref xrs, .ref xro]), (xrs, aI cI 8 bg)] A (fun (z : Int) (w : va_W) => bst bg 8 = z ∧ w = [(xr, ob 7 [.ref xrs, .ref xro]), (xrs, aI cI 8 bg)])) [.ref xr].toArray s 0 0 A) (F0 m 13 ls []) := by
    intro fuel
    induction fuel with
    | zero => intro i hv hi hh hr2 hmu13; exact absurd hmu13 (by omega)
    | succ fuel ih13 =>
      intro i hv hi hh hr2 hmu13 H locs ls hP hD hS hl
      refine lv_iload hx hb dX7_biggest_13 (lv_at hl 4 rfl) ?_
      refine lv_iload_n hx hb dX7_biggest_15 rfl (lv_at hl 3 rfl) ?_
      refine z_icmp_ge (tgt := 38) hx hb dX7_biggest_16 (by decide) (by first | assumption | omega) (by first | assumption | omega) (fun c_16 => ?_) (fun c_16 => ?_)
      · refine lv_iload_n hx hb dX7_biggest_38 rfl (lv_at hl 1 rfl) ?_
        exact z_iret hx hb hr hlocks hP hD hS dX7_biggest_39 rfl (by refine ⟨?_, rfl⟩; rw [hh, show i = 8 from by omega]; (try rfl))
      · refine lv_aload_n hx hb dX7_biggest_19 rfl (lv_at hl 2 rfl) ?_
        refine lv_iload hx hb dX7_biggest_20 (lv_at hl 4 rfl) ?_
        refine z_iald hx hb hK hP 1 0 rfl rfl (by decide) (by first | assumption | omega) dX7_biggest_22 ?_
        have rd_1 := hbg i
        refine lv_istore (lv' := [(5, .int (iZ (bg i))), (0, .ref xr), (1, .int (iZ hv)), (2, .ref xrs), (3, .int (iZ 8)), (4, .int (iZ i))]) hx hb dX7_biggest_23 hl (by decide) rfl (fun ls hl => ?_)
        refine lv_iload_n hx hb dX7_biggest_25 rfl (lv_at hl 2 rfl) ?_
        refine lv_iload hx hb dX7_biggest_26 (lv_at hl 0 rfl) ?_
        refine z_mmax hx hb (by rw [hml]; exact hl.1.symm) hown (hts (.methodLink RX7 28 Lib.Math.max.name) (by decide +kernel)) (hts (.static Lib.Math.max.name) (by decide +kernel)) (hts (.initialized "java/lang/Math") (by decide +kernel)) (hts (.code Lib.Math.max.name Lib.Math.max.code 2 (some .int)) (by decide +kernel)) (Nat.le_of_ble_eq_true rfl) (Nat.le_of_ble_eq_true rfl) (Nat.le_refl _) (Nat.le_refl _) (by first | assumption | omega) (by first | assumption | omega) dX7_biggest_28 ?_
        refine lv_istore_n (lv' := [(1, .int (iZ (max hv (bg i)))), (5, .int (iZ (bg i))), (0, .ref xr), (2, .ref xrs), (3, .int (iZ 8)), (4, .int (iZ i))]) hx hb dX7_biggest_31 rfl hl (by decide) rfl (fun ls hl => ?_)
        refine z_iinc (lv' := [(4, .int (iZ (i + 1))), (1, .int (iZ (max hv (bg i)))), (5, .int (iZ (bg i))), (0, .ref xr), (2, .ref xrs), (3, .int (iZ 8))]) hx hb dX7_biggest_32 hl (k := 5) rfl (by decide) rfl (fun ls hl => ?_)
        refine lv_goto (tgt := 13) hx hb dX7_biggest_35 (by decide) ?_
        exact ih13 (i + 1) (max hv (bg i)) (by first | assumption | omega) (by rw [bst_s (by omega), hh]) (by first | assumption | omega) (by omega) _ _ _ hP hD hS (lv_sub hl [3, 1, 4, 5, 0] rfl)
  exact lp13 ((8 - 0 : Int) + 1).toNat 0 (-1) (by first | assumption | omega) (by rfl) (by first | assumption | omega) (by omega) _ _ _ hP hD hS (lv_sub hl [4, 3, 2, 1, 0] rfl)
theorem qX9_tellOn : yX9_tellOn.cls ≠ "java/lang/invoke/MethodHandle" ∧ yX9_tellOn.cls ≠ "java/lang/invoke/VarHandle" ∧ (parseMethodDescriptor yX9_tellOn.desc).map (fun d => d.parameters.length) = some 3 := by decide +kernel
set_option maxHeartbeats 4000000 in
set_option maxRecDepth 100000 in
theorem c_X9_tellOn (l : Launch) (D : va_G) (cI cJ cB : ClassId) (xg xp xl xw xf xi xr xa xc xo xd xpc xls xld xlm xwt xwo xfk xfn xfw xfs xik xin xiw xis xrs xro xal xar xam xcm xcl xow : Nat) (bg fm md : Int → Int) (him st rd p0 p1 k : Int) (hbg : ∀ j, -1 ≤ bg j ∧ bg j ≤ 9999) (hmd : ∀ j, 0 ≤ md j ∧ md j ≤ 9999) (hp0 : 0 ≤ p0 ∧ p0 ≤ 7) (hp1 : 0 ≤ p1 ∧ p1 ≤ 7) (hk : -2147483648 ≤ k ∧ k < 2147483648) : zMv l yX9_tellOn wsX9_tellOn (zRm 2 43) D (zT cI cJ cB) [.ref xg, .int (iZ p0), .int (iZ p1), .int (iZ k)] [(xg, ob 9 [.ref xp, .ref xl, .ref xw, .ref xf, .ref xi, .ref xr, .ref xa, .ref xc, .ref xo, .ref xd, .int (iZ him)]), (xr, ob 7 [.ref xrs, .ref xro]), (xrs, aI cI 8 bg), (xro, aI cI 8 fm), (xl, ob 4 [.ref xls, .ref xld, .ref xlm, .int (iZ st), .int (iZ rd)]), (xlm, aI cI 10000 md)] (fun (w : va_W) => w = [(xg, ob 9 [.ref xp, .ref xl, .ref xw, .ref xf, .ref xi, .ref xr, .ref xa, .ref xc, .ref xo, .ref xd, .int (iZ him)]), (xr, ob 7 [.ref xrs, .ref xro]), (xrs, aI cI 8 (rsB md k p0 p1 bg)), (xro, aI cI 8 (rsF md k p0 p1 bg fm)), (xl, ob 4 [.ref xls, .ref xld, .ref xlm, .int (iZ st), .int (iZ rd)]), (xlm, aI cI 10000 md)]) := by
  refine z_of (Qc := fun A => zQv D [(xg, ob 9 [.ref xp, .ref xl, .ref xw, .ref xf, .ref xi, .ref xr, .ref xa, .ref xc, .ref xo, .ref xd, .int (iZ him)]), (xr, ob 7 [.ref xrs, .ref xro]), (xrs, aI cI 8 bg), (xro, aI cI 8 fm), (xl, ob 4 [.ref xls, .ref xld, .ref xlm, .int (iZ st), .int (iZ rd)]), (xlm, aI cI 10000 md)] A _) (cc := cX9_tellOn) (maxL := 5) (ret := none) (by decide) rfl (Nat.le_of_ble_eq_true rfl) ?_
  intro p e s m below meth c A ls hx hb hr hts hown hlocks hml hK hP hD hS hA hl
  replace hown : s.vm.findClass RX9 = some m.cls := hown
  have hC : CallFix p m c cX9_tellOn 5 s _ wsX9_tellOn RX9 := ⟨hx, hb, hml, hown, hts⟩
  replace hl : lv_has ls 5 [(0, .ref xg), (1, .int (iZ p0)), (2, .int (iZ p1)), (3, .int (iZ k))] := hl
  have iwX9 : ∀ w ∈ u_ws RX9 TX9 11, w ∈ wsX9_tellOn := fun w h => List.mem_cons_of_mem _ (List.mem_append_left _ (List.mem_append_left _ (List.mem_append_right _ h)))
  have fl19 : Cond.fieldLink RX9 19 "GrowsByHalf" "lawNow" "LGrowsByHalf$Law;" ∈ wsX9_tellOn := by decide +kernel
  have fl43 : Cond.fieldLink RX9 43 "GrowsByHalf" "rumour" "LGrowsByHalf$Rumour;" ∈ wsX9_tellOn := by decide +kernel
  have hb0 := hbg p0
  have hb1 := hbg p1
  have ht0 := tb_rng hmd (k := k) (v := bg p0)
  refine lv_aload_n hx hb dX9_tellOn_0 rfl (lv_at hl 0 rfl) ?_
  refine z_get (C := RX9) (T0 := TX9) (N := 11) (ci := 9) (v := .ref xr) hx hb hts hown hK hP iwX9 rfl 0 rfl 5 (by decide) fl43 rfl dX9_tellOn_1 ?_
  refine lv_iload_n hx hb dX9_tellOn_4 rfl (lv_at hl 1 rfl) ?_
  refine z_Vi (As := [.int (iZ p0)]) (rest := []) hC (c_X7_sizeAt l D cI cJ cB xr xrs xro bg p0 (by first | assumption | omega)) 1 gX9_tellOn_X7_sizeAt rfl rfl rfl ⟨rfl, qX7_sizeAt⟩ ⟨Nat.le_of_ble_eq_true rfl, Nat.le_of_ble_eq_true rfl⟩ ⟨Nat.le_refl _, Nat.le_refl _⟩ hK hP hD hS hA [1, 2] rfl (by decide) 1 rfl rfl rfl hl.1 rfl (Nat.le_of_ble_eq_true rfl) dX9_tellOn_5 (fun z w H locs hq hP hD hS => ?_)
  rcases hq with ⟨rfl, rfl⟩
  replace hP : va_P D vwCl [(xg, ob 9 [.ref xp, .ref xl, .ref xw, .ref xf, .ref xi, .ref xr, .ref xa, .ref xc, .ref xo, .ref xd, .int (iZ him)]), (xr, ob 7 [.ref xrs, .ref xro]), (xrs, aI cI 8 bg), (xro, aI cI 8 fm), (xl, ob 4 [.ref xls, .ref xld, .ref xlm, .int (iZ st), .int (iZ rd)]), (xlm, aI cI 10000 md)] H := hP
  replace hD : va_D A [(xg, ob 9 [.ref xp, .ref xl, .ref xw, .ref xf, .ref xi, .ref xr, .ref xa, .ref xc, .ref xo, .ref xd, .int (iZ him)]), (xr, ob 7 [.ref xrs, .ref xro]), (xrs, aI cI 8 bg), (xro, aI cI 8 fm), (xl, ob 4 [.ref xls, .ref xld, .ref xlm, .int (iZ st), .int (iZ rd)]), (xlm, aI cI 10000 md)] := hD
  refine lv_istore (lv' := [(4, .int (iZ (bg p0))), (0, .ref xg), (1, .int (iZ p0)), (2, .int (iZ p1)), (3, .int (iZ k))]) hx hb dX9_tellOn_8 hl (by decide) rfl (fun ls hl => ?_)
  refine lv_iload hx hb dX9_tellOn_10 (lv_at hl 0 rfl) ?_
  refine lv_iconst (v := iZ (-1)) hx hb dX9_tellOn_12 (by decide) ?_
  refine z_icmp_eq (tgt := 35) hx hb dX9_tellOn_13 (by decide) (by first | assumption | omega) (by first | assumption | omega) (fun c_13 => ?_) (fun c_13 => ?_)
  · exact z_vret hx hb hr hlocks hP hD hS dX9_tellOn_35 rfl (by unfold rsB rsF; first | (rw [if_pos ⟨by assumption, by assumption⟩, if_pos ⟨by assumption, by assumption⟩]) | (rw [if_neg (by omega), if_neg (by omega)]))
  · refine lv_aload_n hx hb dX9_tellOn_16 rfl (lv_at hl 1 rfl) ?_
    refine z_get (C := RX9) (T0 := TX9) (N := 11) (ci := 9) (v := .ref xr) hx hb hts hown hK hP iwX9 rfl 0 rfl 5 (by decide) fl43 rfl dX9_tellOn_17 ?_
    refine lv_iload_n hx hb dX9_tellOn_20 rfl (lv_at hl 3 rfl) ?_
    refine lv_aload_n hx hb dX9_tellOn_21 rfl (lv_at hl 1 rfl) ?_
    refine z_get (C := RX9) (T0 := TX9) (N := 11) (ci := 9) (v := .ref xl) hx hb hts hown hK hP iwX9 rfl 0 rfl 1 (by decide) fl19 rfl dX9_tellOn_22 ?_
    refine lv_iload_n hx hb dX9_tellOn_25 rfl (lv_at hl 4 rfl) ?_
    refine lv_iload hx hb dX9_tellOn_26 (lv_at hl 0 rfl) ?_
    refine z_Vi (As := [.int (iZ k), .int (iZ (bg p0))]) (rest := [.int (iZ p1), .ref xr]) hC (c_X4_toldBy l D cI cJ cB xl xls xld xlm md st rd k (bg p0) (by first | assumption | omega) (by first | assumption | omega) (by first | assumption | omega)) 2 gX9_tellOn_X4_toldBy rfl rfl rfl ⟨rfl, qX4_toldBy⟩ ⟨Nat.le_of_ble_eq_true rfl, Nat.le_of_ble_eq_true rfl⟩ ⟨Nat.le_refl _, Nat.le_refl _⟩ hK hP hD hS hA [4, 5] rfl (by decide) 4 rfl rfl rfl hl.1 rfl (Nat.le_of_ble_eq_true rfl) dX9_tellOn_28 (fun z w H locs hq hP hD hS => ?_)
    rcases hq with ⟨rfl, rfl⟩
    replace hP : va_P D vwCl [(xg, ob 9 [.ref xp, .ref xl, .ref xw, .ref xf, .ref xi, .ref xr, .ref xa, .ref xc, .ref xo, .ref xd, .int (iZ him)]), (xr, ob 7 [.ref xrs, .ref xro]), (xrs, aI cI 8 bg), (xro, aI cI 8 fm), (xl, ob 4 [.ref xls, .ref xld, .ref xlm, .int (iZ st), .int (iZ rd)]), (xlm, aI cI 10000 md)] H := hP
    replace hD : va_D A [(xg, ob 9 [.ref xp, .ref xl, .ref xw, .ref xf, .ref xi, .ref xr, .ref xa, .ref xc, .ref xo, .ref xd, .int (iZ him)]), (xr, ob 7 [.ref xrs, .ref xro]), (xrs, aI cI 8 bg), (xro, aI cI 8 fm), (xl, ob 4 [.ref xls, .ref xld, .ref xlm, .int (iZ st), .int (iZ rd)]), (xlm, aI cI 10000 md)] := hD
    refine lv_iload_n hx hb dX9_tellOn_31 rfl (lv_at hl 2 rfl) ?_
    refine z_Vv (As := [.int (iZ p1), .int (iZ (tb md k (bg p0))), .int (iZ p0)]) (rest := []) hC (c_X7_take l D cI cJ cB xr xrs xro bg fm p1 (tb md k (bg p0)) p0 (by first | assumption | omega) (by first | assumption | omega) (by first | assumption | omega)) 3 gX9_tellOn_X7_take rfl rfl rfl ⟨rfl, qX7_take⟩ ⟨Nat.le_of_ble_eq_true rfl, Nat.le_of_ble_eq_true rfl⟩ ⟨Nat.le_refl _, Nat.le_refl _⟩ hK hP hD hS hA [1, 2, 3] rfl (by decide) 1 rfl rfl rfl hl.1 rfl (Nat.le_of_ble_eq_true rfl) dX9_tellOn_32 (fun w H locs hq hP hD hS => ?_)
    rcases hq with ⟨rfl, hc3_0⟩ | ⟨rfl, hc3_0⟩
    · replace hP : va_P D vwCl [(xg, ob 9 [.ref xp, .ref xl, .ref xw, .ref xf, .ref xi, .ref xr, .ref xa, .ref xc, .ref xo, .ref xd, .int (iZ him)]), (xr, ob 7 [.ref xrs, .ref xro]), (xrs, aI cI 8 (zu bg p1 (tb md k (bg p0)))), (xro, aI cI 8 (zu fm p1 p0)), (xl, ob 4 [.ref xls, .ref xld, .ref xlm, .int (iZ st), .int (iZ rd)]), (xlm, aI cI 10000 md)] H := hP
      replace hD : va_D A [(xg, ob 9 [.ref xp, .ref xl, .ref xw, .ref xf, .ref xi, .ref xr, .ref xa, .ref xc, .ref xo, .ref xd, .int (iZ him)]), (xr, ob 7 [.ref xrs, .ref xro]), (xrs, aI cI 8 (zu bg p1 (tb md k (bg p0)))), (xro, aI cI 8 (zu fm p1 p0)), (xl, ob 4 [.ref xls, .ref xld, .ref xlm, .int (iZ st), .int (iZ rd)]), (xlm, aI cI 10000 md)] := hD
      exact z_vret hx hb hr hlocks hP hD hS dX9_tellOn_35 rfl (by unfold rsB rsF; first | (rw [if_pos ⟨by assumption, by assumption⟩, if_pos ⟨by assumption, by assumption⟩]) | (rw [if_neg (by omega), if_neg (by omega)]))
    · replace hP : va_P D vwCl [(xg, ob 9 [.ref xp, .ref xl, .ref xw, .ref xf, .ref xi, .ref xr, .ref xa, .ref xc, .ref xo, .ref xd, .int (iZ him)]), (xr, ob 7 [.ref xrs, .ref xro]), (xrs, aI cI 8 bg), (xro, aI cI 8 fm), (xl, ob 4 [.ref xls, .ref xld, .ref xlm, .int (iZ st), .int (iZ rd)]), (xlm, aI cI 10000 md)] H := hP
      replace hD : va_D A [(xg, ob 9 [.ref xp, .ref xl, .ref xw, .ref xf, .ref xi, .ref xr, .ref xa, .ref xc, .ref xo, .ref xd, .int (iZ him)]), (xr, ob 7 [.ref xrs, .ref xro]), (xrs, aI cI 8 bg), (xro, aI cI 8 fm), (xl, ob 4 [.ref xls, .ref xld, .ref xlm, .int (iZ st), .int (iZ rd)]), (xlm, aI cI 10000 md)] := hD
      exact z_vret hx hb hr hlocks hP hD hS dX9_tellOn_35 rfl (by unfold rsB rsF; first | (rw [if_pos ⟨by assumption, by assumption⟩, if_pos ⟨by assumption, by assumption⟩]) | (rw [if_neg (by omega), if_neg (by omega)]))
theorem qX9_spread : yX9_spread.cls ≠ "java/lang/invoke/MethodHandle" ∧ yX9_spread.cls ≠ "java/lang/invoke/VarHandle" ∧ (parseMethodDescriptor yX9_spread.desc).map (fun d => d.parameters.length) = some 3 := by decide +kernel
set_option maxHeartbeats 4000000 in
set_option maxRecDepth 100000 in
theorem c_X9_spread (l : Launch) (D : va_G) (cI cJ cB : ClassId) (xg xp xl xw xf xi xr xa xc xo xd xpc xls xld xlm xwt xwo xfk xfn xfw xfs xik xin xiw xis xrs xro xal xar xam xcm xcl xow : Nat) (bg fm md kd kq tt to : Int → Int) (him st rd pe tn wr w0 x q : Int) (hmd : ∀ j, 0 ≤ md j ∧ md j ≤ 9999) (hpe : 0 ≤ pe ∧ pe ≤ 8) (hkd : ∀ j, 0 ≤ kd j ∧ kd j ≤ 3) (htn : 0 ≤ tn ∧ tn ≤ 16) (htt : ∀ j, 0 ≤ tt j ∧ tt j ≤ 7) (hto : ∀ j, 0 ≤ to j ∧ to j ≤ 7) (hab : ∀ j, 0 ≤ j → j < tn → tt j ≠ to j) (hkq : ∀ j, 0 ≤ j → j ≤ 7 → kq j = if j = q then 1 else kd j) (hw0 : -1 ≤ w0 ∧ w0 ≤ 7) (hx0 : 0 ≤ x ∧ x ≤ 9999) (hq : -1 ≤ q ∧ q ≤ 7) : zMv l yX9_spread wsX9_spread (zRm 3 67) D (zT cI cJ cB) [.ref xg, .int (iZ w0), .int (iZ x), .int (iZ q)] [(xg, ob 9 [.ref xp, .ref xl, .ref xw, .ref xf, .ref xi, .ref xr, .ref xa, .ref xc, .ref xo, .ref xd, .int (iZ him)]), (xr, ob 7 [.ref xrs, .ref xro]), (xrs, aI cI 8 bg), (xro, aI cI 8 fm), (xw, ob 8 [.ref xwt, .ref xwo, .int (iZ tn), .int (iZ wr)]), (xwt, aI cI 16 tt), (xwo, aI cI 16 to), (xf, ob 3 [.ref xfk, .ref xfn, .ref xfw, .ref xfs, .int (iZ pe)]), (xfk, aI cI 8 kd), (xl, ob 4 [.ref xls, .ref xld, .ref xlm, .int (iZ st), .int (iZ rd)]), (xlm, aI cI 10000 md)] (fun (w : va_W) => w = [(xg, ob 9 [.ref xp, .ref xl, .ref xw, .ref xf, .ref xi, .ref xr, .ref xa, .ref xc, .ref xo, .ref xd, .int (iZ him)]), (xr, ob 7 [.ref xrs, .ref xro]), (xrs, aI cI 8 (wkB md kq pe tt to (bgn w0 x) tn.toNat)), (xro, aI cI 8 (wkF md kq pe tt to (bgn w0 x) (fun _ => -1) tn.toNat)), (xw, ob 8 [.ref xwt, .ref xwo, .int (iZ tn), .int (iZ wr)]), (xwt, aI cI 16 tt), (xwo, aI cI 16 to), (xf, ob 3 [.ref xfk, .ref xfn, .ref xfw, .ref xfs, .int (iZ pe)]), (xfk, aI cI 8 kd), (xl, ob 4 [.ref xls, .ref xld, .ref xlm, .int (iZ st), .int (iZ rd)]), (xlm, aI cI 10000 md)]) := by
  refine z_of (Qc := fun A => zQv D [(xg, ob 9 [.ref xp, .ref xl, .ref xw, .ref xf, .ref xi, .ref xr, .ref xa, .ref xc, .ref xo, .ref xd, .int (iZ him)]), (xr, ob 7 [.ref xrs, .ref xro]), (xrs, aI cI 8 bg), (xro, aI cI 8 fm), (xw, ob 8 [.ref xwt, .ref xwo, .int (iZ tn), .int (iZ wr)]), (xwt, aI cI 16 tt), (xwo, aI cI 16 to), (xf, ob 3 [.ref xfk, .ref xfn, .ref xfw, .ref xfs, .int (iZ pe)]), (xfk, aI cI 8 kd), (xl, ob 4 [.ref xls, .ref xld, .ref xlm, .int (iZ st), .int (iZ rd)]), (xlm, aI cI 10000 md)] A _) (cc := cX9_spread) (maxL := 7) (ret := none) (by decide) rfl (Nat.le_of_ble_eq_true rfl) ?_
  intro p e s m below meth c A ls hx hb hr hts hown hlocks hml hK hP hD hS hA hl
  replace hown : s.vm.findClass RX9 = some m.cls := hown
  have hC : CallFix p m c cX9_spread 7 s _ wsX9_spread RX9 := ⟨hx, hb, hml, hown, hts⟩
  replace hl : lv_has ls 7 [(0, .ref xg), (1, .int (iZ w0)), (2, .int (iZ x)), (3, .int (iZ q))] := hl
  have iwX9 : ∀ w ∈ u_ws RX9 TX9 11, w ∈ wsX9_spread := fun w h => List.mem_cons_of_mem _ (List.mem_append_left _ (List.mem_append_left _ (List.mem_append_left _ (List.mem_append_left _ (List.mem_append_right _ h)))))
  have fl26 : Cond.fieldLink RX9 26 "GrowsByHalf" "weekNow" "LGrowsByHalf$Week;" ∈ wsX9_spread := by decide +kernel
  have fl33 : Cond.fieldLink RX9 33 "GrowsByHalf" "folk" "LGrowsByHalf$Folk;" ∈ wsX9_spread := by decide +kernel
  have fl43 : Cond.fieldLink RX9 43 "GrowsByHalf" "rumour" "LGrowsByHalf$Rumour;" ∈ wsX9_spread := by decide +kernel
  refine lv_aload_n hx hb dX9_spread_0 rfl (lv_at hl 0 rfl) ?_
  refine z_get (C := RX9) (T0 := TX9) (N := 11) (ci := 9) (v := .ref xr) hx hb hts hown hK hP iwX9 rfl 0 rfl 5 (by decide) fl43 rfl dX9_spread_1 ?_
  refine lv_iload_n hx hb dX9_spread_4 rfl (lv_at hl 1 rfl) ?_
  refine lv_iload_n hx hb dX9_spread_5 rfl (lv_at hl 2 rfl) ?_
  refine z_Vv (As := [.int (iZ w0), .int (iZ x)]) (rest := []) hC (c_X7_begin l D cI cJ cB xr xrs xro bg fm w0 x (by first | assumption | omega)) 2 gX9_spread_X7_begin rfl rfl rfl ⟨rfl, qX7_begin⟩ ⟨Nat.le_of_ble_eq_true rfl, Nat.le_of_ble_eq_true rfl⟩ ⟨Nat.le_refl _, Nat.le_refl _⟩ hK hP hD hS hA [1, 2, 3] rfl (by decide) 1 rfl rfl rfl hl.1 rfl (Nat.le_of_ble_eq_true rfl) dX9_spread_6 (fun w H locs hq hP hD hS => ?_)
  rcases hq with rfl
  replace hP : va_P D vwCl [(xg, ob 9 [.ref xp, .ref xl, .ref xw, .ref xf, .ref xi, .ref xr, .ref xa, .ref xc, .ref xo, .ref xd, .int (iZ him)]), (xr, ob 7 [.ref xrs, .ref xro]), (xrs, aI cI 8 (bgn w0 x)), (xro, aI cI 8 (fun _ => -1)), (xw, ob 8 [.ref xwt, .ref xwo, .int (iZ tn), .int (iZ wr)]), (xwt, aI cI 16 tt), (xwo, aI cI 16 to), (xf, ob 3 [.ref xfk, .ref xfn, .ref xfw, .ref xfs, .int (iZ pe)]), (xfk, aI cI 8 kd), (xl, ob 4 [.ref xls, .ref xld, .ref xlm, .int (iZ st), .int (iZ rd)]), (xlm, aI cI 10000 md)] H := hP
  replace hD : va_D A [(xg, ob 9 [.ref xp, .ref xl, .ref xw, .ref xf, .ref xi, .ref xr, .ref xa, .ref xc, .ref xo, .ref xd, .int (iZ him)]), (xr, ob 7 [.ref xrs, .ref xro]), (xrs, aI cI 8 (bgn w0 x)), (xro, aI cI 8 (fun _ => -1)), (xw, ob 8 [.ref xwt, .ref xwo, .int (iZ tn), .int (iZ wr)]), (xwt, aI cI 16 tt), (xwo, aI cI 16 to), (xf, ob 3 [.ref xfk, .ref xfn, .ref xfw, .ref xfs, .int (iZ pe)]), (xfk, aI cI 8 kd), (xl, ob 4 [.ref xls, .ref xld, .ref xlm, .int (iZ st), .int (iZ rd)]), (xlm, aI cI 10000 md)] := hD
  refine lv_iconst (v := iZ 0) hx hb dX9_spread_9 (by decide) ?_
  refine lv_istore (lv' := [(4, .int (iZ 0)), (0, .ref xg), (1, .int (iZ w0)), (2, .int (iZ x)), (3, .int (iZ q))]) hx hb dX9_spread_10 hl (by decide) rfl (fun ls hl => ?_)
  have lp12 : ∀ fuel : Nat, ∀ (i : Int) (g1 f1 : Int → Int), (0 ≤ i ∧ i ≤ tn) → (g1 = wkB md kq pe tt to (bgn w0 x) i.toNat) → (f1 = wkF md kq pe tt to (bgn w0 x) (fun _ => -1) i.toNat) → (∀ j, -1 ≤ g1 j ∧ g1 j ≤ 9999) → (tn - i) < (fuel : Int) → ∀ (H : Heap) (locs : List Loc) (ls : Array Slot), va_P D vwCl [(xg, ob 9 [.ref xp, .ref xl, .ref xw, .ref xf, .ref xi, .ref xr, .ref xa, .ref xc, .ref xo, .ref xd, .int (iZ him)]), (xr, ob 7 [.ref xrs, .ref xro]), (xrs, aI cI 8 g1), (xro, aI cI 8 f1), (xw, ob 8 [.ref xwt, .ref xwo, .int (iZ tn), .int (iZ wr)]), (xwt, aI cI 16 tt), (xwo, aI cI 16 to), (xf, ob 3 [.ref xfk, .ref xfn, .ref xfw, .ref xfs, .int (iZ pe)]), (xfk, aI cI 8 kd), (xl, ob 4 [.ref xls, .ref xld, .ref xlm, .int (iZ st), .int (iZ rd)]), (xlm, aI cI 10000 md)] H → va_D A [(xg, ob 9 [.ref xp, .ref xl, .ref xw, .ref xf, .ref xi, .ref xr, .ref xa, .ref xc, .ref xo, .ref xd, .int (iZ him)]), (xr, ob 7 [.ref xrs, .ref xro]), (xrs, aI cI 8 g1), (xro, aI cI 8 f1), (xw, ob 8 [.ref xwt, .ref xwo, .int (iZ tn), .int (iZ wr)]), (xwt, aI cI 16 tt), (xwo, aI cI 16 to), (xf, ob 3 [.ref xfk, .ref xfn, .ref xfw, .ref xfs, .int (iZ pe)]), (xfk, aI cI 8 kd), (xl, ob 4 [.ref xls, .ref xld, .ref xlm, .int (iZ st), .int (iZ rd)]), (xlm, aI cI 10000 md)] → va_S A s.heap H locs → lv_has ls 7 [(0, .ref xg), (1, .int (iZ w0)), (2, .int (iZ x)), (3, .int (iZ q)), (4, .int (iZ i))] → W p l e (zRm 3 67) s m [.ref xg, .int (iZ w0), .int (iZ x), .int (iZ q)].toArray below meth c H locs 0 0 (MQ below (zQv D [(xg, ob 9 [.ref xp, .ref xl, .ref xw, .ref xf, .ref xi, .ref xr, .ref xa, .ref xc, .ref xo, .ref xd, .int (iZ him)]), (xr, ob 7 [.ref xrs, .ref xro]), (xrs, aI cI 8 bg), (xro, aI cI 8 fm), (xw, ob 8 [.ref xwt, .ref xwo, .int (iZ tn), .int (iZ wr)]), (xwt, aI cI 16 tt), (xwo, aI cI 16 to), (xf, ob 3 [.ref xfk, .ref xfn, .ref xfw, .ref xfs, .int (iZ pe)]), (xfk, aI cI 8 kd), (xl, ob 4 [.ref xls, .ref xld, .ref xlm, .int (iZ st), .int (iZ rd)]), (xlm, aI cI 10000 md)] A (fun (w : va_W) => w = [(xg, ob 9 [.ref xp, .ref xl, .ref xw, .ref xf, .ref xi, .ref xr, .ref xa, .ref xc, .ref xo, .ref xd, .int (iZ him)]), (xr, ob 7 [.ref xrs, .ref xro]), (xrs, aI cI 8 (wkB md kq pe tt to (bgn w0 x) tn.toNat)), (xro, aI cI 8 (wkF md kq pe tt to (bgn w0 x) (fun _ => -1) tn.toNat)), (xw, ob 8 [.ref xwt, .ref xwo, .int (iZ tn), .int (iZ wr)]), (xwt, aI cI 16 tt), (xwo, aI cI 16 to), (xf, ob 3 [.ref xfk, .ref xfn, .ref xfw, .ref xfs, .int (iZ pe)]), (xfk, aI cI 8 kd), (xl, ob 4 [.ref xls, .ref xld, .ref xlm, .int (iZ st), .int (iZ rd)]), (xlm, aI cI 10000 md)])) [.ref xg, .int (iZ w0), .int (iZ x), .int (iZ q)].toArray s 0 0 A) (F0 m 12 ls []) := by
    intro fuel
    induction fuel with
    | zero => intro i g1 f1 hi hg1 hf1 hr1 hmu12; exact absurd hmu12 (by omega)
    | succ fuel ih12 =>
      intro i g1 f1 hi hg1 hf1 hr1 hmu12 H locs ls hP hD hS hl
      refine lv_iload hx hb dX9_spread_12 (lv_at hl 4 rfl) ?_
      refine lv_aload_n hx hb dX9_spread_14 rfl (lv_at hl 0 rfl) ?_
      refine z_get (C := RX9) (T0 := TX9) (N := 11) (ci := 9) (v := .ref xw) hx hb hts hown hK hP iwX9 rfl 0 rfl 2 (by decide) fl26 rfl dX9_spread_15 ?_
      refine z_Vi (As := []) (rest := [.int (iZ i)]) hC (c_X8_tellings l D cI cJ cB xw xwt xwo tn wr ) 0 gX9_spread_X8_tellings rfl rfl rfl ⟨rfl, qX8_tellings⟩ ⟨Nat.le_of_ble_eq_true rfl, Nat.le_of_ble_eq_true rfl⟩ ⟨Nat.le_refl _, Nat.le_refl _⟩ hK hP hD hS hA [4] rfl (by decide) 4 rfl rfl rfl hl.1 rfl (Nat.le_of_ble_eq_true rfl) dX9_spread_18 (fun z w H locs hq hP hD hS => ?_)
      rcases hq with ⟨rfl, rfl⟩
      replace hP : va_P D vwCl [(xg, ob 9 [.ref xp, .ref xl, .ref xw, .ref xf, .ref xi, .ref xr, .ref xa, .ref xc, .ref xo, .ref xd, .int (iZ him)]), (xr, ob 7 [.ref xrs, .ref xro]), (xrs, aI cI 8 g1), (xro, aI cI 8 f1), (xw, ob 8 [.ref xwt, .ref xwo, .int (iZ tn), .int (iZ wr)]), (xwt, aI cI 16 tt), (xwo, aI cI 16 to), (xf, ob 3 [.ref xfk, .ref xfn, .ref xfw, .ref xfs, .int (iZ pe)]), (xfk, aI cI 8 kd), (xl, ob 4 [.ref xls, .ref xld, .ref xlm, .int (iZ st), .int (iZ rd)]), (xlm, aI cI 10000 md)] H := hP
      replace hD : va_D A [(xg, ob 9 [.ref xp, .ref xl, .ref xw, .ref xf, .ref xi, .ref xr, .ref xa, .ref xc, .ref xo, .ref xd, .int (iZ him)]), (xr, ob 7 [.ref xrs, .ref xro]), (xrs, aI cI 8 g1), (xro, aI cI 8 f1), (xw, ob 8 [.ref xwt, .ref xwo, .int (iZ tn), .int (iZ wr)]), (xwt, aI cI 16 tt), (xwo, aI cI 16 to), (xf, ob 3 [.ref xfk, .ref xfn, .ref xfw, .ref xfs, .int (iZ pe)]), (xfk, aI cI 8 kd), (xl, ob 4 [.ref xls, .ref xld, .ref xlm, .int (iZ st), .int (iZ rd)]), (xlm, aI cI 10000 md)] := hD
      refine z_icmp_ge (tgt := 93) hx hb dX9_spread_21 (by decide) (by first | assumption | omega) (by first | assumption | omega) (fun c_21 => ?_) (fun c_21 => ?_)
      · exact z_vret hx hb hr hlocks hP hD hS dX9_spread_93 rfl (by rw [hg1, hf1, show i = tn from by omega])
      · have hti := htt i
        have hto_i := hto i
        have habi := hab i (by omega)
        refine lv_aload_n hx hb dX9_spread_24 rfl (lv_at hl 0 rfl) ?_
        refine z_get (C := RX9) (T0 := TX9) (N := 11) (ci := 9) (v := .ref xw) hx hb hts hown hK hP iwX9 rfl 0 rfl 2 (by decide) fl26 rfl dX9_spread_25 ?_
        refine lv_iload hx hb dX9_spread_28 (lv_at hl 4 rfl) ?_
        refine z_Vi (As := [.int (iZ i)]) (rest := []) hC (c_X8_who l D cI cJ cB xw xwt xwo tt tn wr i (by first | assumption | omega) (by first | assumption | omega)) 1 gX9_spread_X8_who rfl rfl rfl ⟨rfl, qX8_who⟩ ⟨Nat.le_of_ble_eq_true rfl, Nat.le_of_ble_eq_true rfl⟩ ⟨Nat.le_refl _, Nat.le_refl _⟩ hK hP hD hS hA [4, 5] rfl (by decide) 4 rfl rfl rfl hl.1 rfl (Nat.le_of_ble_eq_true rfl) dX9_spread_30 (fun z w H locs hq hP hD hS => ?_)
        rcases hq with ⟨rfl, rfl⟩
        replace hP : va_P D vwCl [(xg, ob 9 [.ref xp, .ref xl, .ref xw, .ref xf, .ref xi, .ref xr, .ref xa, .ref xc, .ref xo, .ref xd, .int (iZ him)]), (xr, ob 7 [.ref xrs, .ref xro]), (xrs, aI cI 8 g1), (xro, aI cI 8 f1), (xw, ob 8 [.ref xwt, .ref xwo, .int (iZ tn), .int (iZ wr)]), (xwt, aI cI 16 tt), (xwo, aI cI 16 to), (xf, ob 3 [.ref xfk, .ref xfn, .ref xfw, .ref xfs, .int (iZ pe)]), (xfk, aI cI 8 kd), (xl, ob 4 [.ref xls, .ref xld, .ref xlm, .int (iZ st), .int (iZ rd)]), (xlm, aI cI 10000 md)] H := hP
        replace hD : va_D A [(xg, ob 9 [.ref xp, .ref xl, .ref xw, .ref xf, .ref xi, .ref xr, .ref xa, .ref xc, .ref xo, .ref xd, .int (iZ him)]), (xr, ob 7 [.ref xrs, .ref xro]), (xrs, aI cI 8 g1), (xro, aI cI 8 f1), (xw, ob 8 [.ref xwt, .ref xwo, .int (iZ tn), .int (iZ wr)]), (xwt, aI cI 16 tt), (xwo, aI cI 16 to), (xf, ob 3 [.ref xfk, .ref xfn, .ref xfw, .ref xfs, .int (iZ pe)]), (xfk, aI cI 8 kd), (xl, ob 4 [.ref xls, .ref xld, .ref xlm, .int (iZ st), .int (iZ rd)]), (xlm, aI cI 10000 md)] := hD
        refine lv_istore (lv' := [(5, .int (iZ (tt i))), (0, .ref xg), (1, .int (iZ w0)), (2, .int (iZ x)), (3, .int (iZ q)), (4, .int (iZ i))]) hx hb dX9_spread_33 hl (by decide) rfl (fun ls hl => ?_)
        refine lv_aload_n hx hb dX9_spread_35 rfl (lv_at hl 1 rfl) ?_
        refine z_get (C := RX9) (T0 := TX9) (N := 11) (ci := 9) (v := .ref xw) hx hb hts hown hK hP iwX9 rfl 0 rfl 2 (by decide) fl26 rfl dX9_spread_36 ?_
        refine lv_iload hx hb dX9_spread_39 (lv_at hl 5 rfl) ?_
        refine z_Vi (As := [.int (iZ i)]) (rest := []) hC (c_X8_whom l D cI cJ cB xw xwt xwo to tn wr i (by first | assumption | omega) (by first | assumption | omega)) 1 gX9_spread_X8_whom rfl rfl rfl ⟨rfl, qX8_whom⟩ ⟨Nat.le_of_ble_eq_true rfl, Nat.le_of_ble_eq_true rfl⟩ ⟨Nat.le_refl _, Nat.le_refl _⟩ hK hP hD hS hA [4, 6] rfl (by decide) 4 rfl rfl rfl hl.1 rfl (Nat.le_of_ble_eq_true rfl) dX9_spread_41 (fun z w H locs hq hP hD hS => ?_)
        rcases hq with ⟨rfl, rfl⟩
        replace hP : va_P D vwCl [(xg, ob 9 [.ref xp, .ref xl, .ref xw, .ref xf, .ref xi, .ref xr, .ref xa, .ref xc, .ref xo, .ref xd, .int (iZ him)]), (xr, ob 7 [.ref xrs, .ref xro]), (xrs, aI cI 8 g1), (xro, aI cI 8 f1), (xw, ob 8 [.ref xwt, .ref xwo, .int (iZ tn), .int (iZ wr)]), (xwt, aI cI 16 tt), (xwo, aI cI 16 to), (xf, ob 3 [.ref xfk, .ref xfn, .ref xfw, .ref xfs, .int (iZ pe)]), (xfk, aI cI 8 kd), (xl, ob 4 [.ref xls, .ref xld, .ref xlm, .int (iZ st), .int (iZ rd)]), (xlm, aI cI 10000 md)] H := hP
        replace hD : va_D A [(xg, ob 9 [.ref xp, .ref xl, .ref xw, .ref xf, .ref xi, .ref xr, .ref xa, .ref xc, .ref xo, .ref xd, .int (iZ him)]), (xr, ob 7 [.ref xrs, .ref xro]), (xrs, aI cI 8 g1), (xro, aI cI 8 f1), (xw, ob 8 [.ref xwt, .ref xwo, .int (iZ tn), .int (iZ wr)]), (xwt, aI cI 16 tt), (xwo, aI cI 16 to), (xf, ob 3 [.ref xfk, .ref xfn, .ref xfw, .ref xfs, .int (iZ pe)]), (xfk, aI cI 8 kd), (xl, ob 4 [.ref xls, .ref xld, .ref xlm, .int (iZ st), .int (iZ rd)]), (xlm, aI cI 10000 md)] := hD
        refine lv_istore (lv' := [(6, .int (iZ (to i))), (5, .int (iZ (tt i))), (0, .ref xg), (1, .int (iZ w0)), (2, .int (iZ x)), (3, .int (iZ q)), (4, .int (iZ i))]) hx hb dX9_spread_44 hl (by decide) rfl (fun ls hl => ?_)
        refine lv_aload_n hx hb dX9_spread_46 rfl (lv_at hl 2 rfl) ?_
        refine z_get (C := RX9) (T0 := TX9) (N := 11) (ci := 9) (v := .ref xf) hx hb hts hown hK hP iwX9 rfl 0 rfl 3 (by decide) fl33 rfl dX9_spread_47 ?_
        refine lv_iload hx hb dX9_spread_50 (lv_at hl 1 rfl) ?_
        refine lv_iload hx hb dX9_spread_52 (lv_at hl 0 rfl) ?_
        refine z_Vi (As := [.int (iZ (tt i)), .int (iZ (to i))]) (rest := []) hC (c_X3_hasBoth l D cI cJ cB xf xfk xfn xfw xfs pe (tt i) (to i) (by first | assumption | omega) (by first | assumption | omega) (by first | assumption | omega)) 2 gX9_spread_X3_hasBoth rfl rfl rfl ⟨rfl, qX3_hasBoth⟩ ⟨Nat.le_of_ble_eq_true rfl, Nat.le_of_ble_eq_true rfl⟩ ⟨Nat.le_refl _, Nat.le_refl _⟩ hK hP hD hS hA [7] rfl (by decide) 7 rfl rfl rfl hl.1 rfl (Nat.le_of_ble_eq_true rfl) dX9_spread_54 (fun z w H locs hq hP hD hS => ?_)
        rcases hq with ⟨rfl, rfl, hc5_0⟩ | ⟨rfl, rfl, hc5_0⟩
        · replace hP : va_P D vwCl [(xg, ob 9 [.ref xp, .ref xl, .ref xw, .ref xf, .ref xi, .ref xr, .ref xa, .ref xc, .ref xo, .ref xd, .int (iZ him)]), (xr, ob 7 [.ref xrs, .ref xro]), (xrs, aI cI 8 g1), (xro, aI cI 8 f1), (xw, ob 8 [.ref xwt, .ref xwo, .int (iZ tn), .int (iZ wr)]), (xwt, aI cI 16 tt), (xwo, aI cI 16 to), (xf, ob 3 [.ref xfk, .ref xfn, .ref xfw, .ref xfs, .int (iZ pe)]), (xfk, aI cI 8 kd), (xl, ob 4 [.ref xls, .ref xld, .ref xlm, .int (iZ st), .int (iZ rd)]), (xlm, aI cI 10000 md)] H := hP
          replace hD : va_D A [(xg, ob 9 [.ref xp, .ref xl, .ref xw, .ref xf, .ref xi, .ref xr, .ref xa, .ref xc, .ref xo, .ref xd, .int (iZ him)]), (xr, ob 7 [.ref xrs, .ref xro]), (xrs, aI cI 8 g1), (xro, aI cI 8 f1), (xw, ob 8 [.ref xwt, .ref xwo, .int (iZ tn), .int (iZ wr)]), (xwt, aI cI 16 tt), (xwo, aI cI 16 to), (xf, ob 3 [.ref xfk, .ref xfn, .ref xfw, .ref xfs, .int (iZ pe)]), (xfk, aI cI 8 kd), (xl, ob 4 [.ref xls, .ref xld, .ref xlm, .int (iZ st), .int (iZ rd)]), (xlm, aI cI 10000 md)] := hD
          refine z_if_eq (tgt := 87) hx hb dX9_spread_57 (by decide) (by first | assumption | omega) (fun h => absurd h (by decide)) (fun _ => ?_)
          refine lv_aload_n hx hb dX9_spread_60 rfl (lv_at hl 2 rfl) ?_
          refine lv_iload hx hb dX9_spread_61 (lv_at hl 1 rfl) ?_
          refine lv_iload hx hb dX9_spread_63 (lv_at hl 0 rfl) ?_
          refine lv_iload hx hb dX9_spread_65 (lv_at hl 1 rfl) ?_
          refine lv_iload_n hx hb dX9_spread_67 rfl (lv_at hl 5 rfl) ?_
          refine z_icmp_ne (tgt := 75) hx hb dX9_spread_68 (by decide) (by first | assumption | omega) (by first | assumption | omega) (fun c_68 => ?_) (fun c_68 => ?_)
          · refine lv_aload_n hx hb dX9_spread_75 rfl (lv_at hl 2 rfl) ?_
            refine z_get (C := RX9) (T0 := TX9) (N := 11) (ci := 9) (v := .ref xf) hx hb hts hown hK hP iwX9 rfl 0 rfl 3 (by decide) fl33 rfl dX9_spread_76 ?_
            refine lv_iload hx hb dX9_spread_79 (lv_at hl 1 rfl) ?_
            refine z_Vi (As := [.int (iZ (tt i))]) (rest := [.int (iZ (to i)), .int (iZ (tt i)), .ref xg]) hC (c_X3_kindOf l D cI cJ cB xf xfk xfn xfw xfs kd pe (tt i) (by first | assumption | omega) (by first | assumption | omega)) 1 gX9_spread_X3_kindOf rfl rfl rfl ⟨rfl, qX3_kindOf⟩ ⟨Nat.le_of_ble_eq_true rfl, Nat.le_of_ble_eq_true rfl⟩ ⟨Nat.le_refl _, Nat.le_refl _⟩ hK hP hD hS hA [7, 8] rfl (by decide) 7 rfl rfl rfl hl.1 rfl (Nat.le_of_ble_eq_true rfl) dX9_spread_81 (fun z w H locs hq hP hD hS => ?_)
            rcases hq with ⟨rfl, rfl, hc6_0⟩ | ⟨rfl, rfl, hc6_0⟩
            · replace hP : va_P D vwCl [(xg, ob 9 [.ref xp, .ref xl, .ref xw, .ref xf, .ref xi, .ref xr, .ref xa, .ref xc, .ref xo, .ref xd, .int (iZ him)]), (xr, ob 7 [.ref xrs, .ref xro]), (xrs, aI cI 8 g1), (xro, aI cI 8 f1), (xw, ob 8 [.ref xwt, .ref xwo, .int (iZ tn), .int (iZ wr)]), (xwt, aI cI 16 tt), (xwo, aI cI 16 to), (xf, ob 3 [.ref xfk, .ref xfn, .ref xfw, .ref xfs, .int (iZ pe)]), (xfk, aI cI 8 kd), (xl, ob 4 [.ref xls, .ref xld, .ref xlm, .int (iZ st), .int (iZ rd)]), (xlm, aI cI 10000 md)] H := hP
              replace hD : va_D A [(xg, ob 9 [.ref xp, .ref xl, .ref xw, .ref xf, .ref xi, .ref xr, .ref xa, .ref xc, .ref xo, .ref xd, .int (iZ him)]), (xr, ob 7 [.ref xrs, .ref xro]), (xrs, aI cI 8 g1), (xro, aI cI 8 f1), (xw, ob 8 [.ref xwt, .ref xwo, .int (iZ tn), .int (iZ wr)]), (xwt, aI cI 16 tt), (xwo, aI cI 16 to), (xf, ob 3 [.ref xfk, .ref xfn, .ref xfw, .ref xfs, .int (iZ pe)]), (xfk, aI cI 8 kd), (xl, ob 4 [.ref xls, .ref xld, .ref xlm, .int (iZ st), .int (iZ rd)]), (xlm, aI cI 10000 md)] := hD
              have hkdi := hkd (tt i)
              refine z_Vv (As := [.int (iZ (tt i)), .int (iZ (to i)), .int (iZ (kd (tt i)))]) (rest := []) hC (c_X9_tellOn l D cI cJ cB xg xp xl xw xf xi xr xa xc xo xd xpc xls xld xlm xwt xwo xfk xfn xfw xfs xik xin xiw xis xrs xro xal xar xam xcm xcl xow g1 f1 md him st rd (tt i) (to i) (kd (tt i)) (by first | assumption | omega) (by first | assumption | omega) (by first | assumption | omega) (by first | assumption | omega) (by first | assumption | omega)) 3 gX9_spread_X9_tellOn rfl rfl rfl ⟨rfl, qX9_tellOn⟩ ⟨Nat.le_of_ble_eq_true rfl, Nat.le_of_ble_eq_true rfl⟩ ⟨Nat.le_refl _, Nat.le_refl _⟩ hK hP hD hS hA [0, 1, 2, 3, 9, 10] rfl (by decide) 0 rfl rfl rfl hl.1 rfl (Nat.le_of_ble_eq_true rfl) dX9_spread_84 (fun w H locs hq hP hD hS => ?_)
              rcases hq with rfl
              replace hP : va_P D vwCl [(xg, ob 9 [.ref xp, .ref xl, .ref xw, .ref xf, .ref xi, .ref xr, .ref xa, .ref xc, .ref xo, .ref xd, .int (iZ him)]), (xr, ob 7 [.ref xrs, .ref xro]), (xrs, aI cI 8 (rsB md (kd (tt i)) (tt i) (to i) g1)), (xro, aI cI 8 (rsF md (kd (tt i)) (tt i) (to i) g1 f1)), (xw, ob 8 [.ref xwt, .ref xwo, .int (iZ tn), .int (iZ wr)]), (xwt, aI cI 16 tt), (xwo, aI cI 16 to), (xf, ob 3 [.ref xfk, .ref xfn, .ref xfw, .ref xfs, .int (iZ pe)]), (xfk, aI cI 8 kd), (xl, ob 4 [.ref xls, .ref xld, .ref xlm, .int (iZ st), .int (iZ rd)]), (xlm, aI cI 10000 md)] H := hP
              replace hD : va_D A [(xg, ob 9 [.ref xp, .ref xl, .ref xw, .ref xf, .ref xi, .ref xr, .ref xa, .ref xc, .ref xo, .ref xd, .int (iZ him)]), (xr, ob 7 [.ref xrs, .ref xro]), (xrs, aI cI 8 (rsB md (kd (tt i)) (tt i) (to i) g1)), (xro, aI cI 8 (rsF md (kd (tt i)) (tt i) (to i) g1 f1)), (xw, ob 8 [.ref xwt, .ref xwo, .int (iZ tn), .int (iZ wr)]), (xwt, aI cI 16 tt), (xwo, aI cI 16 to), (xf, ob 3 [.ref xfk, .ref xfn, .ref xfw, .ref xfs, .int (iZ pe)]), (xfk, aI cI 8 kd), (xl, ob 4 [.ref xls, .ref xld, .ref xlm, .int (iZ st), .int (iZ rd)]), (xlm, aI cI 10000 md)] := hD
              refine z_iinc (lv' := [(4, .int (iZ (i + 1))), (6, .int (iZ (to i))), (5, .int (iZ (tt i))), (0, .ref xg), (1, .int (iZ w0)), (2, .int (iZ x)), (3, .int (iZ q))]) hx hb dX9_spread_87 hl (k := 6) rfl (by decide) rfl (fun ls hl => ?_)
              refine lv_goto (tgt := 12) hx hb dX9_spread_90 (by decide) ?_
              exact ih12 (i + 1) (rsB md (kd (tt i)) (tt i) (to i) g1) (rsF md (kd (tt i)) (tt i) (to i) g1 f1) (by first | assumption | omega) (by rw [wkB_s (by omega)]; first | (rw [if_pos ⟨by omega, by omega⟩, ← hg1, hkq _ (by omega) (by omega), if_pos (by assumption)]) | (rw [if_pos ⟨by omega, by omega⟩, ← hg1, hkq _ (by omega) (by omega), if_neg (by assumption)]) | (rw [if_neg (by omega)]; exact hg1)) (by rw [wkF_s (by omega)]; first | (rw [if_pos ⟨by omega, by omega⟩, ← hg1, ← hf1, hkq _ (by omega) (by omega), if_pos (by assumption)]) | (rw [if_pos ⟨by omega, by omega⟩, ← hg1, ← hf1, hkq _ (by omega) (by omega), if_neg (by assumption)]) | (rw [if_neg (by omega)]; exact hf1)) (by first | assumption | exact rsB_rng hmd hr1) (by omega) _ _ _ hP hD hS (lv_sub hl [3, 4, 5, 6, 0] rfl)
            · exfalso; omega
          · refine lv_iconst (v := iZ 1) hx hb dX9_spread_71 (by decide) ?_
            refine lv_goto (tgt := 84) hx hb dX9_spread_72 (by decide) ?_
            refine z_Vv (As := [.int (iZ (tt i)), .int (iZ (to i)), .int (iZ 1)]) (rest := []) hC (c_X9_tellOn l D cI cJ cB xg xp xl xw xf xi xr xa xc xo xd xpc xls xld xlm xwt xwo xfk xfn xfw xfs xik xin xiw xis xrs xro xal xar xam xcm xcl xow g1 f1 md him st rd (tt i) (to i) 1 (by first | assumption | omega) (by first | assumption | omega) (by first | assumption | omega) (by first | assumption | omega) (by first | assumption | omega)) 3 gX9_spread_X9_tellOn rfl rfl rfl ⟨rfl, qX9_tellOn⟩ ⟨Nat.le_of_ble_eq_true rfl, Nat.le_of_ble_eq_true rfl⟩ ⟨Nat.le_refl _, Nat.le_refl _⟩ hK hP hD hS hA [0, 1, 2, 3, 9, 10] rfl (by decide) 0 rfl rfl rfl hl.1 rfl (Nat.le_of_ble_eq_true rfl) dX9_spread_84 (fun w H locs hq hP hD hS => ?_)
            rcases hq with rfl
            replace hP : va_P D vwCl [(xg, ob 9 [.ref xp, .ref xl, .ref xw, .ref xf, .ref xi, .ref xr, .ref xa, .ref xc, .ref xo, .ref xd, .int (iZ him)]), (xr, ob 7 [.ref xrs, .ref xro]), (xrs, aI cI 8 (rsB md 1 (tt i) (to i) g1)), (xro, aI cI 8 (rsF md 1 (tt i) (to i) g1 f1)), (xw, ob 8 [.ref xwt, .ref xwo, .int (iZ tn), .int (iZ wr)]), (xwt, aI cI 16 tt), (xwo, aI cI 16 to), (xf, ob 3 [.ref xfk, .ref xfn, .ref xfw, .ref xfs, .int (iZ pe)]), (xfk, aI cI 8 kd), (xl, ob 4 [.ref xls, .ref xld, .ref xlm, .int (iZ st), .int (iZ rd)]), (xlm, aI cI 10000 md)] H := hP
            replace hD : va_D A [(xg, ob 9 [.ref xp, .ref xl, .ref xw, .ref xf, .ref xi, .ref xr, .ref xa, .ref xc, .ref xo, .ref xd, .int (iZ him)]), (xr, ob 7 [.ref xrs, .ref xro]), (xrs, aI cI 8 (rsB md 1 (tt i) (to i) g1)), (xro, aI cI 8 (rsF md 1 (tt i) (to i) g1 f1)), (xw, ob 8 [.ref xwt, .ref xwo, .int (iZ tn), .int (iZ wr)]), (xwt, aI cI 16 tt), (xwo, aI cI 16 to), (xf, ob 3 [.ref xfk, .ref xfn, .ref xfw, .ref xfs, .int (iZ pe)]), (xfk, aI cI 8 kd), (xl, ob 4 [.ref xls, .ref xld, .ref xlm, .int (iZ st), .int (iZ rd)]), (xlm, aI cI 10000 md)] := hD
            refine z_iinc (lv' := [(4, .int (iZ (i + 1))), (6, .int (iZ (to i))), (5, .int (iZ (tt i))), (0, .ref xg), (1, .int (iZ w0)), (2, .int (iZ x)), (3, .int (iZ q))]) hx hb dX9_spread_87 hl (k := 6) rfl (by decide) rfl (fun ls hl => ?_)
            refine lv_goto (tgt := 12) hx hb dX9_spread_90 (by decide) ?_
            exact ih12 (i + 1) (rsB md 1 (tt i) (to i) g1) (rsF md 1 (tt i) (to i) g1 f1) (by first | assumption | omega) (by rw [wkB_s (by omega)]; first | (rw [if_pos ⟨by omega, by omega⟩, ← hg1, hkq _ (by omega) (by omega), if_pos (by assumption)]) | (rw [if_pos ⟨by omega, by omega⟩, ← hg1, hkq _ (by omega) (by omega), if_neg (by assumption)]) | (rw [if_neg (by omega)]; exact hg1)) (by rw [wkF_s (by omega)]; first | (rw [if_pos ⟨by omega, by omega⟩, ← hg1, ← hf1, hkq _ (by omega) (by omega), if_pos (by assumption)]) | (rw [if_pos ⟨by omega, by omega⟩, ← hg1, ← hf1, hkq _ (by omega) (by omega), if_neg (by assumption)]) | (rw [if_neg (by omega)]; exact hf1)) (by first | assumption | exact rsB_rng hmd hr1) (by omega) _ _ _ hP hD hS (lv_sub hl [3, 4, 5, 6, 0] rfl)
        · replace hP : va_P D vwCl [(xg, ob 9 [.ref xp, .ref xl, .ref xw, .ref xf, .ref xi, .ref xr, .ref xa, .ref xc, .ref xo, .ref xd, .int (iZ him)]), (xr, ob 7 [.ref xrs, .ref xro]), (xrs, aI cI 8 g1), (xro, aI cI 8 f1), (xw, ob 8 [.ref xwt, .ref xwo, .int (iZ tn), .int (iZ wr)]), (xwt, aI cI 16 tt), (xwo, aI cI 16 to), (xf, ob 3 [.ref xfk, .ref xfn, .ref xfw, .ref xfs, .int (iZ pe)]), (xfk, aI cI 8 kd), (xl, ob 4 [.ref xls, .ref xld, .ref xlm, .int (iZ st), .int (iZ rd)]), (xlm, aI cI 10000 md)] H := hP
          replace hD : va_D A [(xg, ob 9 [.ref xp, .ref xl, .ref xw, .ref xf, .ref xi, .ref xr, .ref xa, .ref xc, .ref xo, .ref xd, .int (iZ him)]), (xr, ob 7 [.ref xrs, .ref xro]), (xrs, aI cI 8 g1), (xro, aI cI 8 f1), (xw, ob 8 [.ref xwt, .ref xwo, .int (iZ tn), .int (iZ wr)]), (xwt, aI cI 16 tt), (xwo, aI cI 16 to), (xf, ob 3 [.ref xfk, .ref xfn, .ref xfw, .ref xfs, .int (iZ pe)]), (xfk, aI cI 8 kd), (xl, ob 4 [.ref xls, .ref xld, .ref xlm, .int (iZ st), .int (iZ rd)]), (xlm, aI cI 10000 md)] := hD
          refine z_if_eq (tgt := 87) hx hb dX9_spread_57 (by decide) (by first | assumption | omega) (fun _ => ?_) (fun h => absurd h (by decide))
          refine z_iinc (lv' := [(4, .int (iZ (i + 1))), (6, .int (iZ (to i))), (5, .int (iZ (tt i))), (0, .ref xg), (1, .int (iZ w0)), (2, .int (iZ x)), (3, .int (iZ q))]) hx hb dX9_spread_87 hl (k := 6) rfl (by decide) rfl (fun ls hl => ?_)
          refine lv_goto (tgt := 12) hx hb dX9_spread_90 (by decide) ?_
          exact ih12 (i + 1) g1 f1 (by first | assumption | omega) (by rw [wkB_s (by omega)]; first | (rw [if_pos ⟨by omega, by omega⟩, ← hg1, hkq _ (by omega) (by omega), if_pos (by assumption)]) | (rw [if_pos ⟨by omega, by omega⟩, ← hg1, hkq _ (by omega) (by omega), if_neg (by assumption)]) | (rw [if_neg (by omega)]; exact hg1)) (by rw [wkF_s (by omega)]; first | (rw [if_pos ⟨by omega, by omega⟩, ← hg1, ← hf1, hkq _ (by omega) (by omega), if_pos (by assumption)]) | (rw [if_pos ⟨by omega, by omega⟩, ← hg1, ← hf1, hkq _ (by omega) (by omega), if_neg (by assumption)]) | (rw [if_neg (by omega)]; exact hf1)) (by first | assumption | exact rsB_rng hmd hr1) (by omega) _ _ _ hP hD hS (lv_sub hl [3, 4, 5, 6, 0] rfl)
  exact lp12 ((tn - 0 : Int) + 1).toNat 0 (bgn w0 x) (fun _ => -1) (by first | assumption | omega) (by rfl) (by rfl) (by exact bgn_rng hx0) (by omega) _ _ _ hP hD hS (lv_sub hl [1, 2, 3, 4, 0] rfl)
