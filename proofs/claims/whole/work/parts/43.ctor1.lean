theorem qX0_init : yX0_init.cls ≠ "java/lang/invoke/MethodHandle" ∧ yX0_init.cls ≠ "java/lang/invoke/VarHandle" ∧ (parseMethodDescriptor yX0_init.desc).map (fun d => d.parameters.length) = some 0 := by decide +kernel
set_option maxHeartbeats 4000000 in
set_option maxRecDepth 100000 in
theorem c_X0_init (l : Launch) (D : va_G) (cI cJ cB : ClassId) (xa : Nat) : zMc l yX0_init wsX0_init (zRc 1 12 3 24) D (zT cI cJ cB) zEt [.ref xa] [(xa, ob 0 [.null, .null, .null])] 3 24 (fun (w : va_W) => ∃ q1 q2 q3 : Nat, w = [(xa, ob 0 [.ref q1, .ref q2, .ref q3]), (q1, aI cI 8 (fun _ => 0)), (q2, aI cI 8 (fun _ => 0)), (q3, aI cI 8 (fun _ => 0))]) := by
  refine z_ofc (cc := cX0_init) (maxL := 1) (by decide) rfl (Nat.le_of_ble_eq_true rfl) ?_
  intro p e s m below meth c A ls hx hb hr hts hown hlocks hin hml hK hE hP hD hS hA hl
  replace hin : meth.name = "<init>" := hin
  replace hown : s.vm.findClass RX0 = some m.cls := hown
  have hC : CallFix p m c cX0_init 1 s _ wsX0_init RX0 := ⟨hx, hb, hml, hown, hts⟩
  replace hl : lv_has ls 1 [(0, .ref xa)] := hl
  have iwX0 : ∀ w ∈ u_ws RX0 TX0 3, w ∈ wsX0_init := fun w h => List.mem_cons_of_mem _ (List.mem_append_right _ h)
  have fl9 : Cond.fieldLink RX0 9 "GrowsByHalf$Alike" "last" "[I" ∈ wsX0_init := by decide +kernel
  have fl15 : Cond.fieldLink RX0 15 "GrowsByHalf$Alike" "run" "[I" ∈ wsX0_init := by decide +kernel
  have fl18 : Cond.fieldLink RX0 18 "GrowsByHalf$Alike" "most" "[I" ∈ wsX0_init := by decide +kernel
  refine lv_aload_n hx hb dX0_init_0 rfl (lv_at hl 0 rfl) ?_
  refine W.objInit hx hb hown (hts (.methodLink RX0 3 objectInit) (by decide +kernel)) (hts (.instanceMethod objectInit) (by decide +kernel)) (hts (.code objectInit ⟨#[0xb1]⟩ 1 none) (by decide +kernel)) rfl (by rw [hml]; exact hl.1) rfl dX0_init_1 (Nat.le_of_ble_eq_true rfl) (Nat.le_of_ble_eq_true rfl) ?_
  refine W.eq (g2 := F0 m 4 ls []) rfl ?_
  refine lv_aload_n hx hb dX0_init_4 rfl (lv_at hl 0 rfl) ?_
  refine lv_bipush (v := iZ 8) hx hb dX0_init_5 (by decide) ?_
  refine z_newI hx hb (hts (.arrayClass .int) (by decide +kernel)) hK hP hD hS hA 0 rfl 8 8 rfl (Nat.le_of_ble_eq_true rfl) (Nat.le_of_ble_eq_true rfl) (Nat.le_of_ble_eq_true rfl) (Nat.le_of_ble_eq_true rfl) (Nat.le_of_ble_eq_true rfl) dX0_init_7 (fun q1 H hP hD hS => ?_)
  replace hP : va_P D vwCl [(xa, ob 0 [.null, .null, .null]), (q1, aI cI 8 (fun _ => 0))] H := hP
  replace hD : va_D A [(xa, ob 0 [.null, .null, .null]), (q1, aI cI 8 (fun _ => 0))] := hD
  refine z_putF (C := RX0) (T0 := TX0) (N := 3) (ci := 0) (v := .ref q1) hx hb hts hown hK hP hD hS iwX0 tyX0_ok nmX0 rfl 0 rfl 0 (by decide) fl9 rfl hin rfl rfl rfl (Nat.le_of_ble_eq_true rfl) dX0_init_9 (fun H locs hP hD hS => ?_)
  replace hP : va_P D vwCl [(xa, ob 0 [.ref q1, .null, .null]), (q1, aI cI 8 (fun _ => 0))] H := hP
  replace hD : va_D A [(xa, ob 0 [.ref q1, .null, .null]), (q1, aI cI 8 (fun _ => 0))] := hD
  refine lv_aload_n hx hb dX0_init_12 rfl (lv_at hl 0 rfl) ?_
  refine lv_bipush (v := iZ 8) hx hb dX0_init_13 (by decide) ?_
  refine z_newI hx hb (hts (.arrayClass .int) (by decide +kernel)) hK hP hD hS hA 0 rfl 8 16 rfl (Nat.le_of_ble_eq_true rfl) (Nat.le_of_ble_eq_true rfl) (Nat.le_of_ble_eq_true rfl) (Nat.le_of_ble_eq_true rfl) (Nat.le_of_ble_eq_true rfl) dX0_init_15 (fun q2 H hP hD hS => ?_)
  replace hP : va_P D vwCl [(xa, ob 0 [.ref q1, .null, .null]), (q1, aI cI 8 (fun _ => 0)), (q2, aI cI 8 (fun _ => 0))] H := hP
  replace hD : va_D A [(xa, ob 0 [.ref q1, .null, .null]), (q1, aI cI 8 (fun _ => 0)), (q2, aI cI 8 (fun _ => 0))] := hD
  refine z_putF (C := RX0) (T0 := TX0) (N := 3) (ci := 0) (v := .ref q2) hx hb hts hown hK hP hD hS iwX0 tyX0_ok nmX0 rfl 0 rfl 1 (by decide) fl15 rfl hin rfl rfl rfl (Nat.le_of_ble_eq_true rfl) dX0_init_17 (fun H locs hP hD hS => ?_)
  replace hP : va_P D vwCl [(xa, ob 0 [.ref q1, .ref q2, .null]), (q1, aI cI 8 (fun _ => 0)), (q2, aI cI 8 (fun _ => 0))] H := hP
  replace hD : va_D A [(xa, ob 0 [.ref q1, .ref q2, .null]), (q1, aI cI 8 (fun _ => 0)), (q2, aI cI 8 (fun _ => 0))] := hD
  refine lv_aload_n hx hb dX0_init_20 rfl (lv_at hl 0 rfl) ?_
  refine lv_bipush (v := iZ 8) hx hb dX0_init_21 (by decide) ?_
  refine z_newI hx hb (hts (.arrayClass .int) (by decide +kernel)) hK hP hD hS hA 0 rfl 8 24 rfl (Nat.le_of_ble_eq_true rfl) (Nat.le_of_ble_eq_true rfl) (Nat.le_of_ble_eq_true rfl) (Nat.le_of_ble_eq_true rfl) (Nat.le_of_ble_eq_true rfl) dX0_init_23 (fun q3 H hP hD hS => ?_)
  replace hP : va_P D vwCl [(xa, ob 0 [.ref q1, .ref q2, .null]), (q1, aI cI 8 (fun _ => 0)), (q2, aI cI 8 (fun _ => 0)), (q3, aI cI 8 (fun _ => 0))] H := hP
  replace hD : va_D A [(xa, ob 0 [.ref q1, .ref q2, .null]), (q1, aI cI 8 (fun _ => 0)), (q2, aI cI 8 (fun _ => 0)), (q3, aI cI 8 (fun _ => 0))] := hD
  refine z_putF (C := RX0) (T0 := TX0) (N := 3) (ci := 0) (v := .ref q3) hx hb hts hown hK hP hD hS iwX0 tyX0_ok nmX0 rfl 0 rfl 2 (by decide) fl18 rfl hin rfl rfl rfl (Nat.le_of_ble_eq_true rfl) dX0_init_25 (fun H locs hP hD hS => ?_)
  replace hP : va_P D vwCl [(xa, ob 0 [.ref q1, .ref q2, .ref q3]), (q1, aI cI 8 (fun _ => 0)), (q2, aI cI 8 (fun _ => 0)), (q3, aI cI 8 (fun _ => 0))] H := hP
  replace hD : va_D A [(xa, ob 0 [.ref q1, .ref q2, .ref q3]), (q1, aI cI 8 (fun _ => 0)), (q2, aI cI 8 (fun _ => 0)), (q3, aI cI 8 (fun _ => 0))] := hD
  exact z_cret hx hb hr hlocks hP hD hS (Nat.le_of_ble_eq_true rfl) (Nat.le_of_ble_eq_true rfl) dX0_init_28 ⟨q1, q2, q3, rfl⟩
theorem qX1_init : yX1_init.cls ≠ "java/lang/invoke/MethodHandle" ∧ yX1_init.cls ≠ "java/lang/invoke/VarHandle" ∧ (parseMethodDescriptor yX1_init.desc).map (fun d => d.parameters.length) = some 0 := by decide +kernel
set_option maxHeartbeats 4000000 in
set_option maxRecDepth 100000 in
theorem c_X1_init (l : Launch) (D : va_G) (cI cJ cB : ClassId) (xc : Nat) : zMc l yX1_init wsX1_init (zRc 1 12 2 81250) D (zT cI cJ cB) zEt [.ref xc] [(xc, ob 1 [.null, .null, .int (iZ 0), .int (iZ 0), .int (iZ 0), .int (iZ 0)])] 2 81250 (fun (w : va_W) => ∃ q1 q2 : Nat, w = [(xc, ob 1 [.ref q1, .ref q2, .int (iZ 0), .int (iZ 0), .int (iZ 0), .int (iZ 0)]), (q1, aL cJ 1250 (fun _ => 0)), (q2, aI cI 80000 (fun _ => 0))]) := by
  refine z_ofc (cc := cX1_init) (maxL := 1) (by decide) rfl (Nat.le_of_ble_eq_true rfl) ?_
  intro p e s m below meth c A ls hx hb hr hts hown hlocks hin hml hK hE hP hD hS hA hl
  replace hin : meth.name = "<init>" := hin
  replace hown : s.vm.findClass RX1 = some m.cls := hown
  have hC : CallFix p m c cX1_init 1 s _ wsX1_init RX1 := ⟨hx, hb, hml, hown, hts⟩
  replace hl : lv_has ls 1 [(0, .ref xc)] := hl
  have iwX1 : ∀ w ∈ u_ws RX1 TX1 6, w ∈ wsX1_init := fun w h => List.mem_cons_of_mem _ (List.mem_append_right _ h)
  have fl11 : Cond.fieldLink RX1 11 "GrowsByHalf$Chains" "met" "[J" ∈ wsX1_init := by decide +kernel
  have fl16 : Cond.fieldLink RX1 16 "GrowsByHalf$Chains" "line" "[I" ∈ wsX1_init := by decide +kernel
  refine lv_aload_n hx hb dX1_init_0 rfl (lv_at hl 0 rfl) ?_
  refine W.objInit hx hb hown (hts (.methodLink RX1 3 objectInit) (by decide +kernel)) (hts (.instanceMethod objectInit) (by decide +kernel)) (hts (.code objectInit ⟨#[0xb1]⟩ 1 none) (by decide +kernel)) rfl (by rw [hml]; exact hl.1) rfl dX1_init_1 (Nat.le_of_ble_eq_true rfl) (Nat.le_of_ble_eq_true rfl) ?_
  refine W.eq (g2 := F0 m 4 ls []) rfl ?_
  refine lv_aload_n hx hb dX1_init_4 rfl (lv_at hl 0 rfl) ?_
  refine lv_sipush (v := iZ 1250) hx hb dX1_init_5 (by decide) ?_
  refine z_newL hx hb (hts (.arrayClass .long) (by decide +kernel)) hK hP hD hS hA 1 rfl 1250 1250 rfl (Nat.le_of_ble_eq_true rfl) (Nat.le_of_ble_eq_true rfl) (Nat.le_of_ble_eq_true rfl) (Nat.le_of_ble_eq_true rfl) (Nat.le_of_ble_eq_true rfl) dX1_init_8 (fun q1 H hP hD hS => ?_)
  replace hP : va_P D vwCl [(xc, ob 1 [.null, .null, .int (iZ 0), .int (iZ 0), .int (iZ 0), .int (iZ 0)]), (q1, aL cJ 1250 (fun _ => 0))] H := hP
  replace hD : va_D A [(xc, ob 1 [.null, .null, .int (iZ 0), .int (iZ 0), .int (iZ 0), .int (iZ 0)]), (q1, aL cJ 1250 (fun _ => 0))] := hD
  refine z_putF (C := RX1) (T0 := TX1) (N := 6) (ci := 1) (v := .ref q1) hx hb hts hown hK hP hD hS iwX1 tyX1_ok nmX1 rfl 0 rfl 0 (by decide) fl11 rfl hin rfl rfl rfl (Nat.le_of_ble_eq_true rfl) dX1_init_10 (fun H locs hP hD hS => ?_)
  replace hP : va_P D vwCl [(xc, ob 1 [.ref q1, .null, .int (iZ 0), .int (iZ 0), .int (iZ 0), .int (iZ 0)]), (q1, aL cJ 1250 (fun _ => 0))] H := hP
  replace hD : va_D A [(xc, ob 1 [.ref q1, .null, .int (iZ 0), .int (iZ 0), .int (iZ 0), .int (iZ 0)]), (q1, aL cJ 1250 (fun _ => 0))] := hD
  refine lv_aload_n hx hb dX1_init_13 rfl (lv_at hl 0 rfl) ?_
  refine lv_ldc (v := iZ 80000) hx hb hown (hts (.constant RX1 15 (80000)) (by decide +kernel)) dX1_init_14 ?_
  refine z_newI hx hb (hts (.arrayClass .int) (by decide +kernel)) hK hP hD hS hA 0 rfl 80000 81250 rfl (Nat.le_of_ble_eq_true rfl) (Nat.le_of_ble_eq_true rfl) (Nat.le_of_ble_eq_true rfl) (Nat.le_of_ble_eq_true rfl) (Nat.le_of_ble_eq_true rfl) dX1_init_16 (fun q2 H hP hD hS => ?_)
  replace hP : va_P D vwCl [(xc, ob 1 [.ref q1, .null, .int (iZ 0), .int (iZ 0), .int (iZ 0), .int (iZ 0)]), (q1, aL cJ 1250 (fun _ => 0)), (q2, aI cI 80000 (fun _ => 0))] H := hP
  replace hD : va_D A [(xc, ob 1 [.ref q1, .null, .int (iZ 0), .int (iZ 0), .int (iZ 0), .int (iZ 0)]), (q1, aL cJ 1250 (fun _ => 0)), (q2, aI cI 80000 (fun _ => 0))] := hD
  refine z_putF (C := RX1) (T0 := TX1) (N := 6) (ci := 1) (v := .ref q2) hx hb hts hown hK hP hD hS iwX1 tyX1_ok nmX1 rfl 0 rfl 1 (by decide) fl16 rfl hin rfl rfl rfl (Nat.le_of_ble_eq_true rfl) dX1_init_18 (fun H locs hP hD hS => ?_)
  replace hP : va_P D vwCl [(xc, ob 1 [.ref q1, .ref q2, .int (iZ 0), .int (iZ 0), .int (iZ 0), .int (iZ 0)]), (q1, aL cJ 1250 (fun _ => 0)), (q2, aI cI 80000 (fun _ => 0))] H := hP
  replace hD : va_D A [(xc, ob 1 [.ref q1, .ref q2, .int (iZ 0), .int (iZ 0), .int (iZ 0), .int (iZ 0)]), (q1, aL cJ 1250 (fun _ => 0)), (q2, aI cI 80000 (fun _ => 0))] := hD
  exact z_cret hx hb hr hlocks hP hD hS (Nat.le_of_ble_eq_true rfl) (Nat.le_of_ble_eq_true rfl) dX1_init_21 ⟨q1, q2, rfl⟩
theorem qX2_init : yX2_init.cls ≠ "java/lang/invoke/MethodHandle" ∧ yX2_init.cls ≠ "java/lang/invoke/VarHandle" ∧ (parseMethodDescriptor yX2_init.desc).map (fun d => d.parameters.length) = some 0 := by decide +kernel
set_option maxHeartbeats 4000000 in
set_option maxRecDepth 100000 in
theorem c_X2_init (l : Launch) (D : va_G) (cI cJ cB : ClassId) (xd : Nat) : zMc l yX2_init wsX2_init (zRc 1 12 0 0) D (zT cI cJ cB) zEt [.ref xd] [(xd, ob 2 [.long (lZ 0)])] 0 0 (fun (w : va_W) => w = [(xd, ob 2 [.long (lZ 0)])]) := by
  refine z_ofc (cc := cX2_init) (maxL := 1) (by decide) rfl (Nat.le_of_ble_eq_true rfl) ?_
  intro p e s m below meth c A ls hx hb hr hts hown hlocks hin hml hK hE hP hD hS hA hl
  replace hin : meth.name = "<init>" := hin
  replace hown : s.vm.findClass RX2 = some m.cls := hown
  have hC : CallFix p m c cX2_init 1 s _ wsX2_init RX2 := ⟨hx, hb, hml, hown, hts⟩
  replace hl : lv_has ls 1 [(0, .ref xd)] := hl
  refine lv_aload_n hx hb dX2_init_0 rfl (lv_at hl 0 rfl) ?_
  refine W.objInit hx hb hown (hts (.methodLink RX2 1 objectInit) (by decide +kernel)) (hts (.instanceMethod objectInit) (by decide +kernel)) (hts (.code objectInit ⟨#[0xb1]⟩ 1 none) (by decide +kernel)) rfl (by rw [hml]; exact hl.1) rfl dX2_init_1 (Nat.le_of_ble_eq_true rfl) (Nat.le_of_ble_eq_true rfl) ?_
  refine W.eq (g2 := F0 m 4 ls []) rfl ?_
  exact z_cret hx hb hr hlocks hP hD hS (Nat.le_of_ble_eq_true rfl) (Nat.le_of_ble_eq_true rfl) dX2_init_4 rfl
theorem qX3_init : yX3_init.cls ≠ "java/lang/invoke/MethodHandle" ∧ yX3_init.cls ≠ "java/lang/invoke/VarHandle" ∧ (parseMethodDescriptor yX3_init.desc).map (fun d => d.parameters.length) = some 0 := by decide +kernel
set_option maxHeartbeats 4000000 in
set_option maxRecDepth 100000 in
theorem c_X3_init (l : Launch) (D : va_G) (cI cJ cB : ClassId) (xf : Nat) : zMc l yX3_init wsX3_init (zRc 1 23 4 24) D (zT cI cJ cB) zEt [.ref xf] [(xf, ob 3 [.null, .null, .null, .null, .int (iZ 0)])] 4 24 (fun (w : va_W) => ∃ q1 q2 q3 q4 : Nat, w = [(xf, ob 3 [.ref q1, .ref q2, .ref q3, .ref q4, .int (iZ 0)]), (q1, aI cI 8 (fun _ => 0)), (q2, aI cI 8 (fun _ => 0)), (q3, aI cI 4 (fun _ => (-1))), (q4, aI cI 4 (fun _ => 0))]) := by
  refine z_ofc (cc := cX3_init) (maxL := 1) (by decide) rfl (Nat.le_of_ble_eq_true rfl) ?_
  intro p e s m below meth c A ls hx hb hr hts hown hlocks hin hml hK hE hP hD hS hA hl
  replace hin : meth.name = "<init>" := hin
  replace hown : s.vm.findClass RX3 = some m.cls := hown
  have hC : CallFix p m c cX3_init 1 s _ wsX3_init RX3 := ⟨hx, hb, hml, hown, hts⟩
  replace hl : lv_has ls 1 [(0, .ref xf)] := hl
  have iwX3 : ∀ w ∈ u_ws RX3 TX3 5, w ∈ wsX3_init := fun w h => List.mem_cons_of_mem _ (List.mem_append_right _ h)
  have fl9 : Cond.fieldLink RX3 9 "GrowsByHalf$Folk" "kinds" "[I" ∈ wsX3_init := by decide +kernel
  have fl15 : Cond.fieldLink RX3 15 "GrowsByHalf$Folk" "known" "[I" ∈ wsX3_init := by decide +kernel
  have fl18 : Cond.fieldLink RX3 18 "GrowsByHalf$Folk" "witnesses" "[I" ∈ wsX3_init := by decide +kernel
  have fl21 : Cond.fieldLink RX3 21 "GrowsByHalf$Folk" "seenSizes" "[I" ∈ wsX3_init := by decide +kernel
  refine lv_aload_n hx hb dX3_init_0 rfl (lv_at hl 0 rfl) ?_
  refine W.objInit hx hb hown (hts (.methodLink RX3 3 objectInit) (by decide +kernel)) (hts (.instanceMethod objectInit) (by decide +kernel)) (hts (.code objectInit ⟨#[0xb1]⟩ 1 none) (by decide +kernel)) rfl (by rw [hml]; exact hl.1) rfl dX3_init_1 (Nat.le_of_ble_eq_true rfl) (Nat.le_of_ble_eq_true rfl) ?_
  refine W.eq (g2 := F0 m 4 ls []) rfl ?_
  refine lv_aload_n hx hb dX3_init_4 rfl (lv_at hl 0 rfl) ?_
  refine lv_bipush (v := iZ 8) hx hb dX3_init_5 (by decide) ?_
  refine z_newI hx hb (hts (.arrayClass .int) (by decide +kernel)) hK hP hD hS hA 0 rfl 8 8 rfl (Nat.le_of_ble_eq_true rfl) (Nat.le_of_ble_eq_true rfl) (Nat.le_of_ble_eq_true rfl) (Nat.le_of_ble_eq_true rfl) (Nat.le_of_ble_eq_true rfl) dX3_init_7 (fun q1 H hP hD hS => ?_)
  replace hP : va_P D vwCl [(xf, ob 3 [.null, .null, .null, .null, .int (iZ 0)]), (q1, aI cI 8 (fun _ => 0))] H := hP
  replace hD : va_D A [(xf, ob 3 [.null, .null, .null, .null, .int (iZ 0)]), (q1, aI cI 8 (fun _ => 0))] := hD
  refine z_putF (C := RX3) (T0 := TX3) (N := 5) (ci := 3) (v := .ref q1) hx hb hts hown hK hP hD hS iwX3 tyX3_ok nmX3 rfl 0 rfl 0 (by decide) fl9 rfl hin rfl rfl rfl (Nat.le_of_ble_eq_true rfl) dX3_init_9 (fun H locs hP hD hS => ?_)
  replace hP : va_P D vwCl [(xf, ob 3 [.ref q1, .null, .null, .null, .int (iZ 0)]), (q1, aI cI 8 (fun _ => 0))] H := hP
  replace hD : va_D A [(xf, ob 3 [.ref q1, .null, .null, .null, .int (iZ 0)]), (q1, aI cI 8 (fun _ => 0))] := hD
  refine lv_aload_n hx hb dX3_init_12 rfl (lv_at hl 0 rfl) ?_
  refine lv_bipush (v := iZ 8) hx hb dX3_init_13 (by decide) ?_
  refine z_newI hx hb (hts (.arrayClass .int) (by decide +kernel)) hK hP hD hS hA 0 rfl 8 16 rfl (Nat.le_of_ble_eq_true rfl) (Nat.le_of_ble_eq_true rfl) (Nat.le_of_ble_eq_true rfl) (Nat.le_of_ble_eq_true rfl) (Nat.le_of_ble_eq_true rfl) dX3_init_15 (fun q2 H hP hD hS => ?_)
  replace hP : va_P D vwCl [(xf, ob 3 [.ref q1, .null, .null, .null, .int (iZ 0)]), (q1, aI cI 8 (fun _ => 0)), (q2, aI cI 8 (fun _ => 0))] H := hP
  replace hD : va_D A [(xf, ob 3 [.ref q1, .null, .null, .null, .int (iZ 0)]), (q1, aI cI 8 (fun _ => 0)), (q2, aI cI 8 (fun _ => 0))] := hD
  refine z_putF (C := RX3) (T0 := TX3) (N := 5) (ci := 3) (v := .ref q2) hx hb hts hown hK hP hD hS iwX3 tyX3_ok nmX3 rfl 0 rfl 1 (by decide) fl15 rfl hin rfl rfl rfl (Nat.le_of_ble_eq_true rfl) dX3_init_17 (fun H locs hP hD hS => ?_)
  replace hP : va_P D vwCl [(xf, ob 3 [.ref q1, .ref q2, .null, .null, .int (iZ 0)]), (q1, aI cI 8 (fun _ => 0)), (q2, aI cI 8 (fun _ => 0))] H := hP
  replace hD : va_D A [(xf, ob 3 [.ref q1, .ref q2, .null, .null, .int (iZ 0)]), (q1, aI cI 8 (fun _ => 0)), (q2, aI cI 8 (fun _ => 0))] := hD
  refine lv_aload_n hx hb dX3_init_20 rfl (lv_at hl 0 rfl) ?_
  refine lv_iconst (v := iZ 4) hx hb dX3_init_21 (by decide) ?_
  refine z_newI hx hb (hts (.arrayClass .int) (by decide +kernel)) hK hP hD hS hA 0 rfl 4 20 rfl (Nat.le_of_ble_eq_true rfl) (Nat.le_of_ble_eq_true rfl) (Nat.le_of_ble_eq_true rfl) (Nat.le_of_ble_eq_true rfl) (Nat.le_of_ble_eq_true rfl) dX3_init_22 (fun q3 H hP hD hS => ?_)
  replace hP : va_P D vwCl [(xf, ob 3 [.ref q1, .ref q2, .null, .null, .int (iZ 0)]), (q1, aI cI 8 (fun _ => 0)), (q2, aI cI 8 (fun _ => 0)), (q3, aI cI 4 (fun _ => 0))] H := hP
  replace hD : va_D A [(xf, ob 3 [.ref q1, .ref q2, .null, .null, .int (iZ 0)]), (q1, aI cI 8 (fun _ => 0)), (q2, aI cI 8 (fun _ => 0)), (q3, aI cI 4 (fun _ => 0))] := hD
  refine z_putF (C := RX3) (T0 := TX3) (N := 5) (ci := 3) (v := .ref q3) hx hb hts hown hK hP hD hS iwX3 tyX3_ok nmX3 rfl 0 rfl 2 (by decide) fl18 rfl hin rfl rfl rfl (Nat.le_of_ble_eq_true rfl) dX3_init_24 (fun H locs hP hD hS => ?_)
  replace hP : va_P D vwCl [(xf, ob 3 [.ref q1, .ref q2, .ref q3, .null, .int (iZ 0)]), (q1, aI cI 8 (fun _ => 0)), (q2, aI cI 8 (fun _ => 0)), (q3, aI cI 4 (fun _ => 0))] H := hP
  replace hD : va_D A [(xf, ob 3 [.ref q1, .ref q2, .ref q3, .null, .int (iZ 0)]), (q1, aI cI 8 (fun _ => 0)), (q2, aI cI 8 (fun _ => 0)), (q3, aI cI 4 (fun _ => 0))] := hD
  refine lv_aload_n hx hb dX3_init_27 rfl (lv_at hl 0 rfl) ?_
  refine lv_iconst (v := iZ 4) hx hb dX3_init_28 (by decide) ?_
  refine z_newI hx hb (hts (.arrayClass .int) (by decide +kernel)) hK hP hD hS hA 0 rfl 4 24 rfl (Nat.le_of_ble_eq_true rfl) (Nat.le_of_ble_eq_true rfl) (Nat.le_of_ble_eq_true rfl) (Nat.le_of_ble_eq_true rfl) (Nat.le_of_ble_eq_true rfl) dX3_init_29 (fun q4 H hP hD hS => ?_)
  replace hP : va_P D vwCl [(xf, ob 3 [.ref q1, .ref q2, .ref q3, .null, .int (iZ 0)]), (q1, aI cI 8 (fun _ => 0)), (q2, aI cI 8 (fun _ => 0)), (q3, aI cI 4 (fun _ => 0)), (q4, aI cI 4 (fun _ => 0))] H := hP
  replace hD : va_D A [(xf, ob 3 [.ref q1, .ref q2, .ref q3, .null, .int (iZ 0)]), (q1, aI cI 8 (fun _ => 0)), (q2, aI cI 8 (fun _ => 0)), (q3, aI cI 4 (fun _ => 0)), (q4, aI cI 4 (fun _ => 0))] := hD
  refine z_putF (C := RX3) (T0 := TX3) (N := 5) (ci := 3) (v := .ref q4) hx hb hts hown hK hP hD hS iwX3 tyX3_ok nmX3 rfl 0 rfl 3 (by decide) fl21 rfl hin rfl rfl rfl (Nat.le_of_ble_eq_true rfl) dX3_init_31 (fun H locs hP hD hS => ?_)
  replace hP : va_P D vwCl [(xf, ob 3 [.ref q1, .ref q2, .ref q3, .ref q4, .int (iZ 0)]), (q1, aI cI 8 (fun _ => 0)), (q2, aI cI 8 (fun _ => 0)), (q3, aI cI 4 (fun _ => 0)), (q4, aI cI 4 (fun _ => 0))] H := hP
  replace hD : va_D A [(xf, ob 3 [.ref q1, .ref q2, .ref q3, .ref q4, .int (iZ 0)]), (q1, aI cI 8 (fun _ => 0)), (q2, aI cI 8 (fun _ => 0)), (q3, aI cI 4 (fun _ => 0)), (q4, aI cI 4 (fun _ => 0))] := hD
  refine lv_aload_n hx hb dX3_init_34 rfl (lv_at hl 0 rfl) ?_
  refine z_get (C := RX3) (T0 := TX3) (N := 5) (ci := 3) (v := .ref q3) hx hb hts hown hK hP iwX3 rfl 0 rfl 2 (by decide) fl18 rfl dX3_init_35 ?_
  refine lv_iconst (v := iZ (-1)) hx hb dX3_init_38 (by decide) ?_
  refine z_Sv (As := [.ref q3, .int (iZ (-1))]) (rest := []) hC (c_J7_fill_53178 l D cI cJ cB q3 4 (fun _ => 0) (-1) (by first | assumption | omega)) 2 gX3_init_J7_fill_53178 rfl rfl rfl qJ7_fill_53178 ⟨Nat.le_of_ble_eq_true rfl, Nat.le_of_ble_eq_true rfl⟩ ⟨Nat.le_of_ble_eq_true rfl, Nat.le_of_ble_eq_true rfl⟩ hK hP hD hS hA [3] rfl (by decide) rfl hl.1 rfl (Nat.le_of_ble_eq_true rfl) dX3_init_39 (fun w H locs hq hP hD hS => ?_)
  rcases hq with rfl
  replace hP : va_P D vwCl [(xf, ob 3 [.ref q1, .ref q2, .ref q3, .ref q4, .int (iZ 0)]), (q1, aI cI 8 (fun _ => 0)), (q2, aI cI 8 (fun _ => 0)), (q3, aI cI 4 (fun _ => (-1))), (q4, aI cI 4 (fun _ => 0))] H := hP
  replace hD : va_D A [(xf, ob 3 [.ref q1, .ref q2, .ref q3, .ref q4, .int (iZ 0)]), (q1, aI cI 8 (fun _ => 0)), (q2, aI cI 8 (fun _ => 0)), (q3, aI cI 4 (fun _ => (-1))), (q4, aI cI 4 (fun _ => 0))] := hD
  exact z_cret hx hb hr hlocks hP hD hS (Nat.le_of_ble_eq_true rfl) (Nat.le_of_ble_eq_true rfl) dX3_init_42 ⟨q1, q2, q3, q4, rfl⟩
theorem qX4_init : yX4_init.cls ≠ "java/lang/invoke/MethodHandle" ∧ yX4_init.cls ≠ "java/lang/invoke/VarHandle" ∧ (parseMethodDescriptor yX4_init.desc).map (fun d => d.parameters.length) = some 0 := by decide +kernel
set_option maxHeartbeats 4000000 in
set_option maxRecDepth 100000 in
theorem c_X4_init (l : Launch) (D : va_G) (cI cJ cB : ClassId) (xl : Nat) : zMc l yX4_init wsX4_init (zRc 3 66 3 10008) D (zT cI cJ cB) zEt [.ref xl] [(xl, ob 4 [.null, .null, .null, .int (iZ 0), .int (iZ 0)])] 3 10008 (fun (w : va_W) => ∃ q1 q2 q3 : Nat, w = [(xl, ob 4 [.ref q1, .ref q2, .ref q3, .int (iZ (0 + 1)), .int (iZ 0)]), (q1, aI cI 4 (zu (fun _ => 0) 0 104)), (q2, aI cI 4 (zu (fun _ => 0) 0 0)), (q3, aI cI 10000 (fun v => groX (zu (fun _ => 0) 0 104) (zu (fun _ => 0) 0 0) (0 + 1 : Int).toNat v))]) := by
  refine z_ofc (cc := cX4_init) (maxL := 1) (by decide) rfl (Nat.le_of_ble_eq_true rfl) ?_
  intro p e s m below meth c A ls hx hb hr hts hown hlocks hin hml hK hE hP hD hS hA hl
  replace hin : meth.name = "<init>" := hin
  replace hown : s.vm.findClass RX4 = some m.cls := hown
  have hC : CallFix p m c cX4_init 1 s _ wsX4_init RX4 := ⟨hx, hb, hml, hown, hts⟩
  replace hl : lv_has ls 1 [(0, .ref xl)] := hl
  have iwX4 : ∀ w ∈ u_ws RX4 TX4 5, w ∈ wsX4_init := fun w h => List.mem_cons_of_mem _ (List.mem_append_right _ h)
  have fl11 : Cond.fieldLink RX4 11 "GrowsByHalf$Law" "signs" "[I" ∈ wsX4_init := by decide +kernel
  have fl15 : Cond.fieldLink RX4 15 "GrowsByHalf$Law" "digits" "[I" ∈ wsX4_init := by decide +kernel
  have fl18 : Cond.fieldLink RX4 18 "GrowsByHalf$Law" "made" "[I" ∈ wsX4_init := by decide +kernel
  refine lv_aload_n hx hb dX4_init_0 rfl (lv_at hl 0 rfl) ?_
  refine W.objInit hx hb hown (hts (.methodLink RX4 3 objectInit) (by decide +kernel)) (hts (.instanceMethod objectInit) (by decide +kernel)) (hts (.code objectInit ⟨#[0xb1]⟩ 1 none) (by decide +kernel)) rfl (by rw [hml]; exact hl.1) rfl dX4_init_1 (Nat.le_of_ble_eq_true rfl) (Nat.le_of_ble_eq_true rfl) ?_
  refine W.eq (g2 := F0 m 4 ls []) rfl ?_
  refine lv_aload_n hx hb dX4_init_4 rfl (lv_at hl 0 rfl) ?_
  refine lv_iconst (v := iZ 4) hx hb dX4_init_5 (by decide) ?_
  refine z_newI hx hb (hts (.arrayClass .int) (by decide +kernel)) hK hP hD hS hA 0 rfl 4 4 rfl (Nat.le_of_ble_eq_true rfl) (Nat.le_of_ble_eq_true rfl) (Nat.le_of_ble_eq_true rfl) (Nat.le_of_ble_eq_true rfl) (Nat.le_of_ble_eq_true rfl) dX4_init_6 (fun q1 H hP hD hS => ?_)
  replace hP : va_P D vwCl [(xl, ob 4 [.null, .null, .null, .int (iZ 0), .int (iZ 0)]), (q1, aI cI 4 (fun _ => 0))] H := hP
  replace hD : va_D A [(xl, ob 4 [.null, .null, .null, .int (iZ 0), .int (iZ 0)]), (q1, aI cI 4 (fun _ => 0))] := hD
  refine z_putF (C := RX4) (T0 := TX4) (N := 5) (ci := 4) (v := .ref q1) hx hb hts hown hK hP hD hS iwX4 tyX4_ok nmX4 rfl 0 rfl 0 (by decide) fl11 rfl hin rfl rfl rfl (Nat.le_of_ble_eq_true rfl) dX4_init_8 (fun H locs hP hD hS => ?_)
  replace hP : va_P D vwCl [(xl, ob 4 [.ref q1, .null, .null, .int (iZ 0), .int (iZ 0)]), (q1, aI cI 4 (fun _ => 0))] H := hP
  replace hD : va_D A [(xl, ob 4 [.ref q1, .null, .null, .int (iZ 0), .int (iZ 0)]), (q1, aI cI 4 (fun _ => 0))] := hD
  refine lv_aload_n hx hb dX4_init_11 rfl (lv_at hl 0 rfl) ?_
  refine lv_iconst (v := iZ 4) hx hb dX4_init_12 (by decide) ?_
  refine z_newI hx hb (hts (.arrayClass .int) (by decide +kernel)) hK hP hD hS hA 0 rfl 4 8 rfl (Nat.le_of_ble_eq_true rfl) (Nat.le_of_ble_eq_true rfl) (Nat.le_of_ble_eq_true rfl) (Nat.le_of_ble_eq_true rfl) (Nat.le_of_ble_eq_true rfl) dX4_init_13 (fun q2 H hP hD hS => ?_)
  replace hP : va_P D vwCl [(xl, ob 4 [.ref q1, .null, .null, .int (iZ 0), .int (iZ 0)]), (q1, aI cI 4 (fun _ => 0)), (q2, aI cI 4 (fun _ => 0))] H := hP
  replace hD : va_D A [(xl, ob 4 [.ref q1, .null, .null, .int (iZ 0), .int (iZ 0)]), (q1, aI cI 4 (fun _ => 0)), (q2, aI cI 4 (fun _ => 0))] := hD
  refine z_putF (C := RX4) (T0 := TX4) (N := 5) (ci := 4) (v := .ref q2) hx hb hts hown hK hP hD hS iwX4 tyX4_ok nmX4 rfl 0 rfl 1 (by decide) fl15 rfl hin rfl rfl rfl (Nat.le_of_ble_eq_true rfl) dX4_init_15 (fun H locs hP hD hS => ?_)
  replace hP : va_P D vwCl [(xl, ob 4 [.ref q1, .ref q2, .null, .int (iZ 0), .int (iZ 0)]), (q1, aI cI 4 (fun _ => 0)), (q2, aI cI 4 (fun _ => 0))] H := hP
  replace hD : va_D A [(xl, ob 4 [.ref q1, .ref q2, .null, .int (iZ 0), .int (iZ 0)]), (q1, aI cI 4 (fun _ => 0)), (q2, aI cI 4 (fun _ => 0))] := hD
  refine lv_aload_n hx hb dX4_init_18 rfl (lv_at hl 0 rfl) ?_
  refine lv_sipush (v := iZ 10000) hx hb dX4_init_19 (by decide) ?_
  refine z_newI hx hb (hts (.arrayClass .int) (by decide +kernel)) hK hP hD hS hA 0 rfl 10000 10008 rfl (Nat.le_of_ble_eq_true rfl) (Nat.le_of_ble_eq_true rfl) (Nat.le_of_ble_eq_true rfl) (Nat.le_of_ble_eq_true rfl) (Nat.le_of_ble_eq_true rfl) dX4_init_22 (fun q3 H hP hD hS => ?_)
  replace hP : va_P D vwCl [(xl, ob 4 [.ref q1, .ref q2, .null, .int (iZ 0), .int (iZ 0)]), (q1, aI cI 4 (fun _ => 0)), (q2, aI cI 4 (fun _ => 0)), (q3, aI cI 10000 (fun _ => 0))] H := hP
  replace hD : va_D A [(xl, ob 4 [.ref q1, .ref q2, .null, .int (iZ 0), .int (iZ 0)]), (q1, aI cI 4 (fun _ => 0)), (q2, aI cI 4 (fun _ => 0)), (q3, aI cI 10000 (fun _ => 0))] := hD
  refine z_putF (C := RX4) (T0 := TX4) (N := 5) (ci := 4) (v := .ref q3) hx hb hts hown hK hP hD hS iwX4 tyX4_ok nmX4 rfl 0 rfl 2 (by decide) fl18 rfl hin rfl rfl rfl (Nat.le_of_ble_eq_true rfl) dX4_init_24 (fun H locs hP hD hS => ?_)
  replace hP : va_P D vwCl [(xl, ob 4 [.ref q1, .ref q2, .ref q3, .int (iZ 0), .int (iZ 0)]), (q1, aI cI 4 (fun _ => 0)), (q2, aI cI 4 (fun _ => 0)), (q3, aI cI 10000 (fun _ => 0))] H := hP
  replace hD : va_D A [(xl, ob 4 [.ref q1, .ref q2, .ref q3, .int (iZ 0), .int (iZ 0)]), (q1, aI cI 4 (fun _ => 0)), (q2, aI cI 4 (fun _ => 0)), (q3, aI cI 10000 (fun _ => 0))] := hD
  refine lv_aload_n hx hb dX4_init_27 rfl (lv_at hl 0 rfl) ?_
  refine lv_bipush (v := iZ 104) hx hb dX4_init_28 (by decide) ?_
  refine lv_iconst (v := iZ 0) hx hb dX4_init_30 (by decide) ?_
  refine z_Vv (As := [.int (iZ 104), .int (iZ 0)]) (rest := []) hC (c_X4_addStep l D cI cJ cB xl q1 q2 q3 (fun _ => 0) (fun _ => 0) 0 0 104 0 (by first | assumption | omega)) 2 gX4_init_X4_addStep rfl rfl rfl ⟨rfl, qX4_addStep⟩ ⟨Nat.le_of_ble_eq_true rfl, Nat.le_of_ble_eq_true rfl⟩ ⟨Nat.le_of_ble_eq_true rfl, Nat.le_of_ble_eq_true rfl⟩ hK hP hD hS hA [0, 1, 2] rfl (by decide) 0 rfl rfl rfl hl.1 rfl (Nat.le_of_ble_eq_true rfl) dX4_init_31 (fun w H locs hq hP hD hS => ?_)
  rcases hq with rfl
  replace hP : va_P D vwCl [(xl, ob 4 [.ref q1, .ref q2, .ref q3, .int (iZ (0 + 1)), .int (iZ 0)]), (q1, aI cI 4 (zu (fun _ => 0) 0 104)), (q2, aI cI 4 (zu (fun _ => 0) 0 0)), (q3, aI cI 10000 (fun _ => 0))] H := hP
  replace hD : va_D A [(xl, ob 4 [.ref q1, .ref q2, .ref q3, .int (iZ (0 + 1)), .int (iZ 0)]), (q1, aI cI 4 (zu (fun _ => 0) 0 104)), (q2, aI cI 4 (zu (fun _ => 0) 0 0)), (q3, aI cI 10000 (fun _ => 0))] := hD
  refine lv_aload_n hx hb dX4_init_34 rfl (lv_at hl 0 rfl) ?_
  refine z_Vv (As := []) (rest := []) hC (c_X4_makeAll l D cI cJ cB xl q1 q2 q3 (zu (fun _ => 0) 0 104) (zu (fun _ => 0) 0 0) (fun _ => 0) (0 + 1) 0 (by first | assumption | omega) (by intro j h0 h1; have e9 : j = 0 := (by omega); subst e9; have q9 := zu_eq (fun _ => (0 : Int)) 0 104; omega) (by intro j h0 h1; have e9 : j = 0 := (by omega); subst e9; have q9 := zu_eq (fun _ => (0 : Int)) 0 0; omega) (by intro j h0 h1 _; have e9 : j = 0 := (by omega); subst e9; have q9 := zu_eq (fun _ => (0 : Int)) 0 0; omega)) 0 gX4_init_X4_makeAll rfl rfl rfl ⟨rfl, qX4_makeAll⟩ ⟨Nat.le_of_ble_eq_true rfl, Nat.le_of_ble_eq_true rfl⟩ ⟨Nat.le_of_ble_eq_true rfl, Nat.le_of_ble_eq_true rfl⟩ hK hP hD hS hA [0, 1, 2, 3] rfl (by decide) 0 rfl rfl rfl hl.1 rfl (Nat.le_of_ble_eq_true rfl) dX4_init_35 (fun w H locs hq hP hD hS => ?_)
  rcases hq with rfl
  replace hP : va_P D vwCl [(xl, ob 4 [.ref q1, .ref q2, .ref q3, .int (iZ (0 + 1)), .int (iZ 0)]), (q1, aI cI 4 (zu (fun _ => 0) 0 104)), (q2, aI cI 4 (zu (fun _ => 0) 0 0)), (q3, aI cI 10000 (fun v => groX (zu (fun _ => 0) 0 104) (zu (fun _ => 0) 0 0) (0 + 1 : Int).toNat v))] H := hP
  replace hD : va_D A [(xl, ob 4 [.ref q1, .ref q2, .ref q3, .int (iZ (0 + 1)), .int (iZ 0)]), (q1, aI cI 4 (zu (fun _ => 0) 0 104)), (q2, aI cI 4 (zu (fun _ => 0) 0 0)), (q3, aI cI 10000 (fun v => groX (zu (fun _ => 0) 0 104) (zu (fun _ => 0) 0 0) (0 + 1 : Int).toNat v))] := hD
  exact z_cret hx hb hr hlocks hP hD hS (Nat.le_of_ble_eq_true rfl) (Nat.le_of_ble_eq_true rfl) dX4_init_38 ⟨q1, q2, q3, rfl⟩
theorem qX5_init : yX5_init.cls ≠ "java/lang/invoke/MethodHandle" ∧ yX5_init.cls ≠ "java/lang/invoke/VarHandle" ∧ (parseMethodDescriptor yX5_init.desc).map (fun d => d.parameters.length) = some 0 := by decide +kernel
set_option maxHeartbeats 4000000 in
set_option maxRecDepth 100000 in
theorem c_X5_init (l : Launch) (D : va_G) (cI cJ cB : ClassId) (xo : Nat) : zMc l yX5_init wsX5_init (zRc 1 12 1 10) D (zT cI cJ cB) zEt [.ref xo] [(xo, ob 5 [.null, .int (iZ 0)])] 1 10 (fun (w : va_W) => ∃ q1 : Nat, w = [(xo, ob 5 [.ref q1, .int (iZ 0)]), (q1, aL cJ 10 (fun _ => 0))]) := by
  refine z_ofc (cc := cX5_init) (maxL := 1) (by decide) rfl (Nat.le_of_ble_eq_true rfl) ?_
  intro p e s m below meth c A ls hx hb hr hts hown hlocks hin hml hK hE hP hD hS hA hl
  replace hin : meth.name = "<init>" := hin
  replace hown : s.vm.findClass RX5 = some m.cls := hown
  have hC : CallFix p m c cX5_init 1 s _ wsX5_init RX5 := ⟨hx, hb, hml, hown, hts⟩
  replace hl : lv_has ls 1 [(0, .ref xo)] := hl
  have iwX5 : ∀ w ∈ u_ws RX5 TX5 2, w ∈ wsX5_init := fun w h => List.mem_cons_of_mem _ (List.mem_append_right _ h)
  have fl9 : Cond.fieldLink RX5 9 "GrowsByHalf$Odds" "ways" "[J" ∈ wsX5_init := by decide +kernel
  refine lv_aload_n hx hb dX5_init_0 rfl (lv_at hl 0 rfl) ?_
  refine W.objInit hx hb hown (hts (.methodLink RX5 3 objectInit) (by decide +kernel)) (hts (.instanceMethod objectInit) (by decide +kernel)) (hts (.code objectInit ⟨#[0xb1]⟩ 1 none) (by decide +kernel)) rfl (by rw [hml]; exact hl.1) rfl dX5_init_1 (Nat.le_of_ble_eq_true rfl) (Nat.le_of_ble_eq_true rfl) ?_
  refine W.eq (g2 := F0 m 4 ls []) rfl ?_
  refine lv_aload_n hx hb dX5_init_4 rfl (lv_at hl 0 rfl) ?_
  refine lv_bipush (v := iZ 10) hx hb dX5_init_5 (by decide) ?_
  refine z_newL hx hb (hts (.arrayClass .long) (by decide +kernel)) hK hP hD hS hA 1 rfl 10 10 rfl (Nat.le_of_ble_eq_true rfl) (Nat.le_of_ble_eq_true rfl) (Nat.le_of_ble_eq_true rfl) (Nat.le_of_ble_eq_true rfl) (Nat.le_of_ble_eq_true rfl) dX5_init_7 (fun q1 H hP hD hS => ?_)
  replace hP : va_P D vwCl [(xo, ob 5 [.null, .int (iZ 0)]), (q1, aL cJ 10 (fun _ => 0))] H := hP
  replace hD : va_D A [(xo, ob 5 [.null, .int (iZ 0)]), (q1, aL cJ 10 (fun _ => 0))] := hD
  refine z_putF (C := RX5) (T0 := TX5) (N := 2) (ci := 5) (v := .ref q1) hx hb hts hown hK hP hD hS iwX5 tyX5_ok nmX5 rfl 0 rfl 0 (by decide) fl9 rfl hin rfl rfl rfl (Nat.le_of_ble_eq_true rfl) dX5_init_9 (fun H locs hP hD hS => ?_)
  replace hP : va_P D vwCl [(xo, ob 5 [.ref q1, .int (iZ 0)]), (q1, aL cJ 10 (fun _ => 0))] H := hP
  replace hD : va_D A [(xo, ob 5 [.ref q1, .int (iZ 0)]), (q1, aL cJ 10 (fun _ => 0))] := hD
  exact z_cret hx hb hr hlocks hP hD hS (Nat.le_of_ble_eq_true rfl) (Nat.le_of_ble_eq_true rfl) dX5_init_12 ⟨q1, rfl⟩
theorem qX6_init : yX6_init.cls ≠ "java/lang/invoke/MethodHandle" ∧ yX6_init.cls ≠ "java/lang/invoke/VarHandle" ∧ (parseMethodDescriptor yX6_init.desc).map (fun d => d.parameters.length) = some 0 := by decide +kernel
set_option maxHeartbeats 4000000 in
set_option maxRecDepth 100000 in
theorem c_X6_init (l : Launch) (D : va_G) (cI cJ cB : ClassId) (xp : Nat) : zMc l yX6_init wsX6_init (zRc 1 12 1 50) D (zT cI cJ cB) zEt [.ref xp] [(xp, ob 6 [.null, .int (iZ 0)])] 1 50 (fun (w : va_W) => ∃ q1 : Nat, w = [(xp, ob 6 [.ref q1, .int (iZ 0)]), (q1, aI cI 50 (fun _ => 0))]) := by
  refine z_ofc (cc := cX6_init) (maxL := 1) (by decide) rfl (Nat.le_of_ble_eq_true rfl) ?_
  intro p e s m below meth c A ls hx hb hr hts hown hlocks hin hml hK hE hP hD hS hA hl
  replace hin : meth.name = "<init>" := hin
  replace hown : s.vm.findClass RX6 = some m.cls := hown
  have hC : CallFix p m c cX6_init 1 s _ wsX6_init RX6 := ⟨hx, hb, hml, hown, hts⟩
  replace hl : lv_has ls 1 [(0, .ref xp)] := hl
  have iwX6 : ∀ w ∈ u_ws RX6 TX6 2, w ∈ wsX6_init := fun w h => List.mem_cons_of_mem _ (List.mem_append_right _ h)
  have fl11 : Cond.fieldLink RX6 11 "GrowsByHalf$Page" "codes" "[I" ∈ wsX6_init := by decide +kernel
  refine lv_aload_n hx hb dX6_init_0 rfl (lv_at hl 0 rfl) ?_
  refine W.objInit hx hb hown (hts (.methodLink RX6 3 objectInit) (by decide +kernel)) (hts (.instanceMethod objectInit) (by decide +kernel)) (hts (.code objectInit ⟨#[0xb1]⟩ 1 none) (by decide +kernel)) rfl (by rw [hml]; exact hl.1) rfl dX6_init_1 (Nat.le_of_ble_eq_true rfl) (Nat.le_of_ble_eq_true rfl) ?_
  refine W.eq (g2 := F0 m 4 ls []) rfl ?_
  refine lv_aload_n hx hb dX6_init_4 rfl (lv_at hl 0 rfl) ?_
  refine lv_bipush (v := iZ 50) hx hb dX6_init_5 (by decide) ?_
  refine z_newI hx hb (hts (.arrayClass .int) (by decide +kernel)) hK hP hD hS hA 0 rfl 50 50 rfl (Nat.le_of_ble_eq_true rfl) (Nat.le_of_ble_eq_true rfl) (Nat.le_of_ble_eq_true rfl) (Nat.le_of_ble_eq_true rfl) (Nat.le_of_ble_eq_true rfl) dX6_init_7 (fun q1 H hP hD hS => ?_)
  replace hP : va_P D vwCl [(xp, ob 6 [.null, .int (iZ 0)]), (q1, aI cI 50 (fun _ => 0))] H := hP
  replace hD : va_D A [(xp, ob 6 [.null, .int (iZ 0)]), (q1, aI cI 50 (fun _ => 0))] := hD
  refine z_putF (C := RX6) (T0 := TX6) (N := 2) (ci := 6) (v := .ref q1) hx hb hts hown hK hP hD hS iwX6 tyX6_ok nmX6 rfl 0 rfl 0 (by decide) fl11 rfl hin rfl rfl rfl (Nat.le_of_ble_eq_true rfl) dX6_init_9 (fun H locs hP hD hS => ?_)
  replace hP : va_P D vwCl [(xp, ob 6 [.ref q1, .int (iZ 0)]), (q1, aI cI 50 (fun _ => 0))] H := hP
  replace hD : va_D A [(xp, ob 6 [.ref q1, .int (iZ 0)]), (q1, aI cI 50 (fun _ => 0))] := hD
  exact z_cret hx hb hr hlocks hP hD hS (Nat.le_of_ble_eq_true rfl) (Nat.le_of_ble_eq_true rfl) dX6_init_12 ⟨q1, rfl⟩
theorem qX7_init : yX7_init.cls ≠ "java/lang/invoke/MethodHandle" ∧ yX7_init.cls ≠ "java/lang/invoke/VarHandle" ∧ (parseMethodDescriptor yX7_init.desc).map (fun d => d.parameters.length) = some 0 := by decide +kernel
set_option maxHeartbeats 4000000 in
set_option maxRecDepth 100000 in
theorem c_X7_init (l : Launch) (D : va_G) (cI cJ cB : ClassId) (xr : Nat) : zMc l yX7_init wsX7_init (zRc 1 12 2 16) D (zT cI cJ cB) zEt [.ref xr] [(xr, ob 7 [.null, .null])] 2 16 (fun (w : va_W) => ∃ q1 q2 : Nat, w = [(xr, ob 7 [.ref q1, .ref q2]), (q1, aI cI 8 (fun _ => 0)), (q2, aI cI 8 (fun _ => 0))]) := by
  refine z_ofc (cc := cX7_init) (maxL := 1) (by decide) rfl (Nat.le_of_ble_eq_true rfl) ?_
  intro p e s m below meth c A ls hx hb hr hts hown hlocks hin hml hK hE hP hD hS hA hl
  replace hin : meth.name = "<init>" := hin
  replace hown : s.vm.findClass RX7 = some m.cls := hown
  have hC : CallFix p m c cX7_init 1 s _ wsX7_init RX7 := ⟨hx, hb, hml, hown, hts⟩
  replace hl : lv_has ls 1 [(0, .ref xr)] := hl
  have iwX7 : ∀ w ∈ u_ws RX7 TX7 2, w ∈ wsX7_init := fun w h => List.mem_cons_of_mem _ (List.mem_append_right _ h)
  have fl9 : Cond.fieldLink RX7 9 "GrowsByHalf$Rumour" "sizes" "[I" ∈ wsX7_init := by decide +kernel
  have fl15 : Cond.fieldLink RX7 15 "GrowsByHalf$Rumour" "sources" "[I" ∈ wsX7_init := by decide +kernel
  refine lv_aload_n hx hb dX7_init_0 rfl (lv_at hl 0 rfl) ?_
  refine W.objInit hx hb hown (hts (.methodLink RX7 3 objectInit) (by decide +kernel)) (hts (.instanceMethod objectInit) (by decide +kernel)) (hts (.code objectInit ⟨#[0xb1]⟩ 1 none) (by decide +kernel)) rfl (by rw [hml]; exact hl.1) rfl dX7_init_1 (Nat.le_of_ble_eq_true rfl) (Nat.le_of_ble_eq_true rfl) ?_
  refine W.eq (g2 := F0 m 4 ls []) rfl ?_
  refine lv_aload_n hx hb dX7_init_4 rfl (lv_at hl 0 rfl) ?_
  refine lv_bipush (v := iZ 8) hx hb dX7_init_5 (by decide) ?_
  refine z_newI hx hb (hts (.arrayClass .int) (by decide +kernel)) hK hP hD hS hA 0 rfl 8 8 rfl (Nat.le_of_ble_eq_true rfl) (Nat.le_of_ble_eq_true rfl) (Nat.le_of_ble_eq_true rfl) (Nat.le_of_ble_eq_true rfl) (Nat.le_of_ble_eq_true rfl) dX7_init_7 (fun q1 H hP hD hS => ?_)
  replace hP : va_P D vwCl [(xr, ob 7 [.null, .null]), (q1, aI cI 8 (fun _ => 0))] H := hP
  replace hD : va_D A [(xr, ob 7 [.null, .null]), (q1, aI cI 8 (fun _ => 0))] := hD
  refine z_putF (C := RX7) (T0 := TX7) (N := 2) (ci := 7) (v := .ref q1) hx hb hts hown hK hP hD hS iwX7 tyX7_ok nmX7 rfl 0 rfl 0 (by decide) fl9 rfl hin rfl rfl rfl (Nat.le_of_ble_eq_true rfl) dX7_init_9 (fun H locs hP hD hS => ?_)
  replace hP : va_P D vwCl [(xr, ob 7 [.ref q1, .null]), (q1, aI cI 8 (fun _ => 0))] H := hP
  replace hD : va_D A [(xr, ob 7 [.ref q1, .null]), (q1, aI cI 8 (fun _ => 0))] := hD
  refine lv_aload_n hx hb dX7_init_12 rfl (lv_at hl 0 rfl) ?_
  refine lv_bipush (v := iZ 8) hx hb dX7_init_13 (by decide) ?_
  refine z_newI hx hb (hts (.arrayClass .int) (by decide +kernel)) hK hP hD hS hA 0 rfl 8 16 rfl (Nat.le_of_ble_eq_true rfl) (Nat.le_of_ble_eq_true rfl) (Nat.le_of_ble_eq_true rfl) (Nat.le_of_ble_eq_true rfl) (Nat.le_of_ble_eq_true rfl) dX7_init_15 (fun q2 H hP hD hS => ?_)
  replace hP : va_P D vwCl [(xr, ob 7 [.ref q1, .null]), (q1, aI cI 8 (fun _ => 0)), (q2, aI cI 8 (fun _ => 0))] H := hP
  replace hD : va_D A [(xr, ob 7 [.ref q1, .null]), (q1, aI cI 8 (fun _ => 0)), (q2, aI cI 8 (fun _ => 0))] := hD
  refine z_putF (C := RX7) (T0 := TX7) (N := 2) (ci := 7) (v := .ref q2) hx hb hts hown hK hP hD hS iwX7 tyX7_ok nmX7 rfl 0 rfl 1 (by decide) fl15 rfl hin rfl rfl rfl (Nat.le_of_ble_eq_true rfl) dX7_init_17 (fun H locs hP hD hS => ?_)
  replace hP : va_P D vwCl [(xr, ob 7 [.ref q1, .ref q2]), (q1, aI cI 8 (fun _ => 0)), (q2, aI cI 8 (fun _ => 0))] H := hP
  replace hD : va_D A [(xr, ob 7 [.ref q1, .ref q2]), (q1, aI cI 8 (fun _ => 0)), (q2, aI cI 8 (fun _ => 0))] := hD
  exact z_cret hx hb hr hlocks hP hD hS (Nat.le_of_ble_eq_true rfl) (Nat.le_of_ble_eq_true rfl) dX7_init_20 ⟨q1, q2, rfl⟩
theorem qX8_init : yX8_init.cls ≠ "java/lang/invoke/MethodHandle" ∧ yX8_init.cls ≠ "java/lang/invoke/VarHandle" ∧ (parseMethodDescriptor yX8_init.desc).map (fun d => d.parameters.length) = some 0 := by decide +kernel
set_option maxHeartbeats 4000000 in
set_option maxRecDepth 100000 in
theorem c_X8_init (l : Launch) (D : va_G) (cI cJ cB : ClassId) (xw : Nat) : zMc l yX8_init wsX8_init (zRc 1 12 2 32) D (zT cI cJ cB) zEt [.ref xw] [(xw, ob 8 [.null, .null, .int (iZ 0), .int (iZ 0)])] 2 32 (fun (w : va_W) => ∃ q1 q2 : Nat, w = [(xw, ob 8 [.ref q1, .ref q2, .int (iZ 0), .int (iZ 0)]), (q1, aI cI 16 (fun _ => 0)), (q2, aI cI 16 (fun _ => 0))]) := by
  refine z_ofc (cc := cX8_init) (maxL := 1) (by decide) rfl (Nat.le_of_ble_eq_true rfl) ?_
  intro p e s m below meth c A ls hx hb hr hts hown hlocks hin hml hK hE hP hD hS hA hl
  replace hin : meth.name = "<init>" := hin
  replace hown : s.vm.findClass RX8 = some m.cls := hown
  have hC : CallFix p m c cX8_init 1 s _ wsX8_init RX8 := ⟨hx, hb, hml, hown, hts⟩
  replace hl : lv_has ls 1 [(0, .ref xw)] := hl
  have iwX8 : ∀ w ∈ u_ws RX8 TX8 4, w ∈ wsX8_init := fun w h => List.mem_cons_of_mem _ (List.mem_append_right _ h)
  have fl11 : Cond.fieldLink RX8 11 "GrowsByHalf$Week" "tellers" "[I" ∈ wsX8_init := by decide +kernel
  have fl15 : Cond.fieldLink RX8 15 "GrowsByHalf$Week" "told" "[I" ∈ wsX8_init := by decide +kernel
  refine lv_aload_n hx hb dX8_init_0 rfl (lv_at hl 0 rfl) ?_
  refine W.objInit hx hb hown (hts (.methodLink RX8 3 objectInit) (by decide +kernel)) (hts (.instanceMethod objectInit) (by decide +kernel)) (hts (.code objectInit ⟨#[0xb1]⟩ 1 none) (by decide +kernel)) rfl (by rw [hml]; exact hl.1) rfl dX8_init_1 (Nat.le_of_ble_eq_true rfl) (Nat.le_of_ble_eq_true rfl) ?_
  refine W.eq (g2 := F0 m 4 ls []) rfl ?_
  refine lv_aload_n hx hb dX8_init_4 rfl (lv_at hl 0 rfl) ?_
  refine lv_bipush (v := iZ 16) hx hb dX8_init_5 (by decide) ?_
  refine z_newI hx hb (hts (.arrayClass .int) (by decide +kernel)) hK hP hD hS hA 0 rfl 16 16 rfl (Nat.le_of_ble_eq_true rfl) (Nat.le_of_ble_eq_true rfl) (Nat.le_of_ble_eq_true rfl) (Nat.le_of_ble_eq_true rfl) (Nat.le_of_ble_eq_true rfl) dX8_init_7 (fun q1 H hP hD hS => ?_)
  replace hP : va_P D vwCl [(xw, ob 8 [.null, .null, .int (iZ 0), .int (iZ 0)]), (q1, aI cI 16 (fun _ => 0))] H := hP
  replace hD : va_D A [(xw, ob 8 [.null, .null, .int (iZ 0), .int (iZ 0)]), (q1, aI cI 16 (fun _ => 0))] := hD
  refine z_putF (C := RX8) (T0 := TX8) (N := 4) (ci := 8) (v := .ref q1) hx hb hts hown hK hP hD hS iwX8 tyX8_ok nmX8 rfl 0 rfl 0 (by decide) fl11 rfl hin rfl rfl rfl (Nat.le_of_ble_eq_true rfl) dX8_init_9 (fun H locs hP hD hS => ?_)
  replace hP : va_P D vwCl [(xw, ob 8 [.ref q1, .null, .int (iZ 0), .int (iZ 0)]), (q1, aI cI 16 (fun _ => 0))] H := hP
  replace hD : va_D A [(xw, ob 8 [.ref q1, .null, .int (iZ 0), .int (iZ 0)]), (q1, aI cI 16 (fun _ => 0))] := hD
  refine lv_aload_n hx hb dX8_init_12 rfl (lv_at hl 0 rfl) ?_
  refine lv_bipush (v := iZ 16) hx hb dX8_init_13 (by decide) ?_
  refine z_newI hx hb (hts (.arrayClass .int) (by decide +kernel)) hK hP hD hS hA 0 rfl 16 32 rfl (Nat.le_of_ble_eq_true rfl) (Nat.le_of_ble_eq_true rfl) (Nat.le_of_ble_eq_true rfl) (Nat.le_of_ble_eq_true rfl) (Nat.le_of_ble_eq_true rfl) dX8_init_15 (fun q2 H hP hD hS => ?_)
  replace hP : va_P D vwCl [(xw, ob 8 [.ref q1, .null, .int (iZ 0), .int (iZ 0)]), (q1, aI cI 16 (fun _ => 0)), (q2, aI cI 16 (fun _ => 0))] H := hP
  replace hD : va_D A [(xw, ob 8 [.ref q1, .null, .int (iZ 0), .int (iZ 0)]), (q1, aI cI 16 (fun _ => 0)), (q2, aI cI 16 (fun _ => 0))] := hD
  refine z_putF (C := RX8) (T0 := TX8) (N := 4) (ci := 8) (v := .ref q2) hx hb hts hown hK hP hD hS iwX8 tyX8_ok nmX8 rfl 0 rfl 1 (by decide) fl15 rfl hin rfl rfl rfl (Nat.le_of_ble_eq_true rfl) dX8_init_17 (fun H locs hP hD hS => ?_)
  replace hP : va_P D vwCl [(xw, ob 8 [.ref q1, .ref q2, .int (iZ 0), .int (iZ 0)]), (q1, aI cI 16 (fun _ => 0)), (q2, aI cI 16 (fun _ => 0))] H := hP
  replace hD : va_D A [(xw, ob 8 [.ref q1, .ref q2, .int (iZ 0), .int (iZ 0)]), (q1, aI cI 16 (fun _ => 0)), (q2, aI cI 16 (fun _ => 0))] := hD
  exact z_cret hx hb hr hlocks hP hD hS (Nat.le_of_ble_eq_true rfl) (Nat.le_of_ble_eq_true rfl) dX8_init_20 ⟨q1, q2, rfl⟩
