theorem qX10_within : yX10_within.cls ≠ "java/lang/invoke/MethodHandle" ∧ yX10_within.cls ≠ "java/lang/invoke/VarHandle" ∧ (parseMethodDescriptor yX10_within.desc).map (fun d => d.parameters.length) = some 3 := by decide +kernel
set_option maxHeartbeats 4000000 in
set_option maxRecDepth 100000 in
theorem c_X10_within (l : Launch) (D : va_G) (cI cJ cB : ClassId) (n lo hi : Int) (hn : -2147483648 ≤ n ∧ n < 2147483648) (hlo : -2147483648 ≤ lo ∧ lo < 2147483648) (hhi : -2147483648 ≤ hi ∧ hi < 2147483648) : zMi l yX10_within wsX10_within (zRm 0 0) D (zT cI cJ cB) [.int (iZ n), .int (iZ lo), .int (iZ hi)] [] (fun (z : Int) (w : va_W) => (1 = z ∧ w = [] ∧ (lo ≤ n ∧ n ≤ hi)) ∨ (0 = z ∧ w = [] ∧ (¬ (lo ≤ n ∧ n ≤ hi)))) := by
  refine z_of (Qc := fun A => zQi D [] A _) (cc := cX10_within) (maxL := 3) (ret := (some .boolean)) (by decide) rfl (Nat.le_of_ble_eq_true rfl) ?_
  intro p e s m below meth c A ls hx hb hr hts hown hlocks hml hK hP hD hS hA hl
  replace hown : s.vm.findClass RX10 = some m.cls := hown
  have hC : CallFix p m c cX10_within 3 s _ wsX10_within RX10 := ⟨hx, hb, hml, hown, hts⟩
  replace hl : lv_has ls 3 [(0, .int (iZ n)), (1, .int (iZ lo)), (2, .int (iZ hi))] := hl
  refine lv_iload_n hx hb dX10_within_0 rfl (lv_at hl 0 rfl) ?_
  refine lv_iload_n hx hb dX10_within_1 rfl (lv_at hl 1 rfl) ?_
  refine z_icmp_lt (tgt := 14) hx hb dX10_within_2 (by decide) (by first | assumption | omega) (by first | assumption | omega) (fun c_2 => ?_) (fun c_2 => ?_)
  · refine lv_iconst (v := iZ 0) hx hb dX10_within_14 (by decide) ?_
    exact z_zret hx hb hr hlocks hP hD hS dX10_within_15 (by first | exact Or.inl rfl | exact Or.inr rfl | omega) rfl (by first | (exact Or.inr (⟨(by first | rfl | omega), rfl, (by first | assumption | omega)⟩)) | (exfalso; omega))
  · refine lv_iload_n hx hb dX10_within_5 rfl (lv_at hl 0 rfl) ?_
    refine lv_iload_n hx hb dX10_within_6 rfl (lv_at hl 2 rfl) ?_
    refine z_icmp_gt (tgt := 14) hx hb dX10_within_7 (by decide) (by first | assumption | omega) (by first | assumption | omega) (fun c_7 => ?_) (fun c_7 => ?_)
    · refine lv_iconst (v := iZ 0) hx hb dX10_within_14 (by decide) ?_
      exact z_zret hx hb hr hlocks hP hD hS dX10_within_15 (by first | exact Or.inl rfl | exact Or.inr rfl | omega) rfl (by first | (exact Or.inr (⟨(by first | rfl | omega), rfl, (by first | assumption | omega)⟩)) | (exfalso; omega))
    · refine lv_iconst (v := iZ 1) hx hb dX10_within_10 (by decide) ?_
      refine lv_goto (tgt := 15) hx hb dX10_within_11 (by decide) ?_
      exact z_zret hx hb hr hlocks hP hD hS dX10_within_15 (by first | exact Or.inl rfl | exact Or.inr rfl | omega) rfl (by first | (exact Or.inl (⟨(by first | rfl | omega), rfl, (by first | assumption | omega)⟩)) | (exfalso; omega))
theorem qX10_isSize : yX10_isSize.cls ≠ "java/lang/invoke/MethodHandle" ∧ yX10_isSize.cls ≠ "java/lang/invoke/VarHandle" ∧ (parseMethodDescriptor yX10_isSize.desc).map (fun d => d.parameters.length) = some 1 := by decide +kernel
set_option maxHeartbeats 4000000 in
set_option maxRecDepth 100000 in
theorem c_X10_isSize (l : Launch) (D : va_G) (cI cJ cB : ClassId) (n : Int) (hn : -2147483648 ≤ n ∧ n < 2147483648) : zMi l yX10_isSize wsX10_isSize (zRm 1 22) D (zT cI cJ cB) [.int (iZ n)] [] (fun (z : Int) (w : va_W) => (1 = z ∧ w = [] ∧ (0 ≤ n ∧ n ≤ 9999)) ∨ (0 = z ∧ w = [] ∧ (¬ (0 ≤ n ∧ n ≤ 9999)))) := by
  refine z_of (Qc := fun A => zQi D [] A _) (cc := cX10_isSize) (maxL := 1) (ret := (some .boolean)) (by decide) rfl (Nat.le_of_ble_eq_true rfl) ?_
  intro p e s m below meth c A ls hx hb hr hts hown hlocks hml hK hP hD hS hA hl
  replace hown : s.vm.findClass RX10 = some m.cls := hown
  have hC : CallFix p m c cX10_isSize 1 s _ wsX10_isSize RX10 := ⟨hx, hb, hml, hown, hts⟩
  replace hl : lv_has ls 1 [(0, .int (iZ n))] := hl
  refine lv_iload_n hx hb dX10_isSize_0 rfl (lv_at hl 0 rfl) ?_
  refine lv_iconst (v := iZ 0) hx hb dX10_isSize_1 (by decide) ?_
  refine lv_sipush (v := iZ 9999) hx hb dX10_isSize_2 (by decide) ?_
  refine z_Si (As := [.int (iZ n), .int (iZ 0), .int (iZ 9999)]) (rest := []) hC (c_X10_within l D cI cJ cB n 0 9999 (by first | assumption | omega) (by first | assumption | omega) (by first | assumption | omega)) 3 gX10_isSize_X10_within rfl rfl rfl qX10_within ⟨Nat.le_of_ble_eq_true rfl, Nat.le_of_ble_eq_true rfl⟩ ⟨Nat.le_refl _, Nat.le_refl _⟩ hK hP hD hS hA [] rfl (by decide) rfl hl.1 rfl (Nat.le_of_ble_eq_true rfl) dX10_isSize_5 (fun z w H locs hq hP hD hS => ?_)
  rcases hq with ⟨rfl, rfl, hc1_0⟩ | ⟨rfl, rfl, hc1_0⟩
  · replace hP : va_P D vwCl [] H := hP
    replace hD : va_D A [] := hD
    exact z_zret hx hb hr hlocks hP hD hS dX10_isSize_8 (by first | exact Or.inl rfl | exact Or.inr rfl | omega) rfl (by first | (exact Or.inl (⟨(by first | rfl | omega), rfl, (by first | assumption | omega)⟩)) | (exfalso; omega))
  · replace hP : va_P D vwCl [] H := hP
    replace hD : va_D A [] := hD
    exact z_zret hx hb hr hlocks hP hD hS dX10_isSize_8 (by first | exact Or.inl rfl | exact Or.inr rfl | omega) rfl (by first | (exact Or.inr (⟨(by first | rfl | omega), rfl, (by first | assumption | omega)⟩)) | (exfalso; omega))
theorem qX10_isTale : yX10_isTale.cls ≠ "java/lang/invoke/MethodHandle" ∧ yX10_isTale.cls ≠ "java/lang/invoke/VarHandle" ∧ (parseMethodDescriptor yX10_isTale.desc).map (fun d => d.parameters.length) = some 1 := by decide +kernel
set_option maxHeartbeats 4000000 in
set_option maxRecDepth 100000 in
theorem c_X10_isTale (l : Launch) (D : va_G) (cI cJ cB : ClassId) (n : Int) (hn : -2147483648 ≤ n ∧ n < 2147483648) : zMi l yX10_isTale wsX10_isTale (zRm 1 22) D (zT cI cJ cB) [.int (iZ n)] [] (fun (z : Int) (w : va_W) => (1 = z ∧ w = [] ∧ (0 ≤ n ∧ n ≤ 3)) ∨ (0 = z ∧ w = [] ∧ (¬ (0 ≤ n ∧ n ≤ 3)))) := by
  refine z_of (Qc := fun A => zQi D [] A _) (cc := cX10_isTale) (maxL := 1) (ret := (some .boolean)) (by decide) rfl (Nat.le_of_ble_eq_true rfl) ?_
  intro p e s m below meth c A ls hx hb hr hts hown hlocks hml hK hP hD hS hA hl
  replace hown : s.vm.findClass RX10 = some m.cls := hown
  have hC : CallFix p m c cX10_isTale 1 s _ wsX10_isTale RX10 := ⟨hx, hb, hml, hown, hts⟩
  replace hl : lv_has ls 1 [(0, .int (iZ n))] := hl
  refine lv_iload_n hx hb dX10_isTale_0 rfl (lv_at hl 0 rfl) ?_
  refine lv_iconst (v := iZ 0) hx hb dX10_isTale_1 (by decide) ?_
  refine lv_iconst (v := iZ 3) hx hb dX10_isTale_2 (by decide) ?_
  refine z_Si (As := [.int (iZ n), .int (iZ 0), .int (iZ 3)]) (rest := []) hC (c_X10_within l D cI cJ cB n 0 3 (by first | assumption | omega) (by first | assumption | omega) (by first | assumption | omega)) 3 gX10_isTale_X10_within rfl rfl rfl qX10_within ⟨Nat.le_of_ble_eq_true rfl, Nat.le_of_ble_eq_true rfl⟩ ⟨Nat.le_refl _, Nat.le_refl _⟩ hK hP hD hS hA [] rfl (by decide) rfl hl.1 rfl (Nat.le_of_ble_eq_true rfl) dX10_isTale_3 (fun z w H locs hq hP hD hS => ?_)
  rcases hq with ⟨rfl, rfl, hc1_0⟩ | ⟨rfl, rfl, hc1_0⟩
  · replace hP : va_P D vwCl [] H := hP
    replace hD : va_D A [] := hD
    exact z_zret hx hb hr hlocks hP hD hS dX10_isTale_6 (by first | exact Or.inl rfl | exact Or.inr rfl | omega) rfl (by first | (exact Or.inl (⟨(by first | rfl | omega), rfl, (by first | assumption | omega)⟩)) | (exfalso; omega))
  · replace hP : va_P D vwCl [] H := hP
    replace hD : va_D A [] := hD
    exact z_zret hx hb hr hlocks hP hD hS dX10_isTale_6 (by first | exact Or.inl rfl | exact Or.inr rfl | omega) rfl (by first | (exact Or.inr (⟨(by first | rfl | omega), rfl, (by first | assumption | omega)⟩)) | (exfalso; omega))
theorem qX10_has : yX10_has.cls ≠ "java/lang/invoke/MethodHandle" ∧ yX10_has.cls ≠ "java/lang/invoke/VarHandle" ∧ (parseMethodDescriptor yX10_has.desc).map (fun d => d.parameters.length) = some 2 := by decide +kernel
set_option maxHeartbeats 4000000 in
set_option maxRecDepth 100000 in
theorem c_X10_has (l : Launch) (D : va_G) (cI cJ cB : ClassId) (q k : Int) : zMi l yX10_has wsX10_has (zRm 0 0) D (zT cI cJ cB) [.int (iZ q), .int (iZ k)] [] (fun (z : Int) (w : va_W) => (1 = z ∧ w = [] ∧ kand (kshr q k) 1 = 1) ∨ (0 = z ∧ w = [] ∧ kand (kshr q k) 1 ≠ 1)) := by
  refine z_of (Qc := fun A => zQi D [] A _) (cc := cX10_has) (maxL := 2) (ret := (some .boolean)) (by decide) rfl (Nat.le_of_ble_eq_true rfl) ?_
  intro p e s m below meth c A ls hx hb hr hts hown hlocks hml hK hP hD hS hA hl
  replace hown : s.vm.findClass RX10 = some m.cls := hown
  have hC : CallFix p m c cX10_has 2 s _ wsX10_has RX10 := ⟨hx, hb, hml, hown, hts⟩
  replace hl : lv_has ls 2 [(0, .int (iZ q)), (1, .int (iZ k))] := hl
  refine lv_iload_n hx hb dX10_has_0 rfl (lv_at hl 0 rfl) ?_
  refine lv_iload_n hx hb dX10_has_1 rfl (lv_at hl 1 rfl) ?_
  refine z_ishr hx hb dX10_has_2 ?_
  have rb_1 := kshr_rng q k
  refine lv_iconst (v := iZ 1) hx hb dX10_has_3 (by decide) ?_
  refine z_iand hx hb dX10_has_4 ?_
  have rb_2 := kand_rng (kshr q k) 1
  refine lv_iconst (v := iZ 1) hx hb dX10_has_5 (by decide) ?_
  refine z_icmp_ne (tgt := 13) hx hb dX10_has_6 (by decide) (by first | assumption | omega) (by first | assumption | omega) (fun c_6 => ?_) (fun c_6 => ?_)
  · refine lv_iconst (v := iZ 0) hx hb dX10_has_13 (by decide) ?_
    exact z_zret hx hb hr hlocks hP hD hS dX10_has_14 (by first | exact Or.inl rfl | exact Or.inr rfl | omega) rfl (by first | (exact Or.inr (⟨(by first | rfl | omega), rfl, (by first | assumption | omega)⟩)) | (exfalso; omega))
  · refine lv_iconst (v := iZ 1) hx hb dX10_has_9 (by decide) ?_
    refine lv_goto (tgt := 14) hx hb dX10_has_10 (by decide) ?_
    exact z_zret hx hb hr hlocks hP hD hS dX10_has_14 (by first | exact Or.inl rfl | exact Or.inr rfl | omega) rfl (by first | (exact Or.inl (⟨(by first | rfl | omega), rfl, (by first | assumption | omega)⟩)) | (exfalso; omega))
theorem qX10_stepBy : yX10_stepBy.cls ≠ "java/lang/invoke/MethodHandle" ∧ yX10_stepBy.cls ≠ "java/lang/invoke/VarHandle" ∧ (parseMethodDescriptor yX10_stepBy.desc).map (fun d => d.parameters.length) = some 1 := by decide +kernel
set_option maxHeartbeats 4000000 in
set_option maxRecDepth 100000 in
theorem c_X10_stepBy (l : Launch) (D : va_G) (cI cJ cB : ClassId) (ch : Int) (hc : -2147483648 ≤ ch ∧ ch < 2147483648) : zMi l yX10_stepBy wsX10_stepBy (zRm 0 0) D (zT cI cJ cB) [.int (iZ ch)] [] (fun (z : Int) (w : va_W) => sbf ch = z ∧ w = []) := by
  refine z_of (Qc := fun A => zQi D [] A _) (cc := cX10_stepBy) (maxL := 1) (ret := (some .int)) (by decide) rfl (Nat.le_of_ble_eq_true rfl) ?_
  intro p e s m below meth c A ls hx hb hr hts hown hlocks hml hK hP hD hS hA hl
  replace hown : s.vm.findClass RX10 = some m.cls := hown
  have hC : CallFix p m c cX10_stepBy 1 s _ wsX10_stepBy RX10 := ⟨hx, hb, hml, hown, hts⟩
  replace hl : lv_has ls 1 [(0, .int (iZ ch))] := hl
  refine lv_iload_n hx hb dX10_stepBy_0 rfl (lv_at hl 0 rfl) ?_
  refine lv_bipush (v := iZ 104) hx hb dX10_stepBy_1 (by decide) ?_
  refine z_icmp_ne (tgt := 10) hx hb dX10_stepBy_3 (by decide) (by first | assumption | omega) (by first | assumption | omega) (fun c_3 => ?_) (fun c_3 => ?_)
  · refine lv_iload_n hx hb dX10_stepBy_10 rfl (lv_at hl 0 rfl) ?_
    refine lv_bipush (v := iZ 100) hx hb dX10_stepBy_11 (by decide) ?_
    refine z_icmp_ne (tgt := 20) hx hb dX10_stepBy_13 (by decide) (by first | assumption | omega) (by first | assumption | omega) (fun c_13 => ?_) (fun c_13 => ?_)
    · refine lv_iload_n hx hb dX10_stepBy_20 rfl (lv_at hl 0 rfl) ?_
      refine lv_bipush (v := iZ 43) hx hb dX10_stepBy_21 (by decide) ?_
      refine z_icmp_ne (tgt := 30) hx hb dX10_stepBy_23 (by decide) (by first | assumption | omega) (by first | assumption | omega) (fun c_23 => ?_) (fun c_23 => ?_)
      · refine lv_iload_n hx hb dX10_stepBy_30 rfl (lv_at hl 0 rfl) ?_
        refine lv_bipush (v := iZ 45) hx hb dX10_stepBy_31 (by decide) ?_
        refine z_icmp_ne (tgt := 40) hx hb dX10_stepBy_33 (by decide) (by first | assumption | omega) (by first | assumption | omega) (fun c_33 => ?_) (fun c_33 => ?_)
        · refine lv_iload_n hx hb dX10_stepBy_40 rfl (lv_at hl 0 rfl) ?_
          refine lv_bipush (v := iZ 47) hx hb dX10_stepBy_41 (by decide) ?_
          refine z_icmp_ne (tgt := 50) hx hb dX10_stepBy_43 (by decide) (by first | assumption | omega) (by first | assumption | omega) (fun c_43 => ?_) (fun c_43 => ?_)
          · refine lv_iconst (v := iZ (-1)) hx hb dX10_stepBy_50 (by decide) ?_
            exact z_iret hx hb hr hlocks hP hD hS dX10_stepBy_51 rfl (by refine ⟨?_, rfl⟩; unfold sbf; repeat (first | (rw [if_pos (by assumption)]) | (rw [if_neg (by assumption)])); (try rfl))
          · refine lv_iconst (v := iZ 4) hx hb dX10_stepBy_46 (by decide) ?_
            refine lv_goto (tgt := 51) hx hb dX10_stepBy_47 (by decide) ?_
            exact z_iret hx hb hr hlocks hP hD hS dX10_stepBy_51 rfl (by refine ⟨?_, rfl⟩; unfold sbf; repeat (first | (rw [if_pos (by assumption)]) | (rw [if_neg (by assumption)])); (try rfl))
        · refine lv_iconst (v := iZ 3) hx hb dX10_stepBy_36 (by decide) ?_
          refine lv_goto (tgt := 51) hx hb dX10_stepBy_37 (by decide) ?_
          exact z_iret hx hb hr hlocks hP hD hS dX10_stepBy_51 rfl (by refine ⟨?_, rfl⟩; unfold sbf; repeat (first | (rw [if_pos (by assumption)]) | (rw [if_neg (by assumption)])); (try rfl))
      · refine lv_iconst (v := iZ 2) hx hb dX10_stepBy_26 (by decide) ?_
        refine lv_goto (tgt := 51) hx hb dX10_stepBy_27 (by decide) ?_
        exact z_iret hx hb hr hlocks hP hD hS dX10_stepBy_51 rfl (by refine ⟨?_, rfl⟩; unfold sbf; repeat (first | (rw [if_pos (by assumption)]) | (rw [if_neg (by assumption)])); (try rfl))
    · refine lv_iconst (v := iZ 1) hx hb dX10_stepBy_16 (by decide) ?_
      refine lv_goto (tgt := 51) hx hb dX10_stepBy_17 (by decide) ?_
      exact z_iret hx hb hr hlocks hP hD hS dX10_stepBy_51 rfl (by refine ⟨?_, rfl⟩; unfold sbf; repeat (first | (rw [if_pos (by assumption)]) | (rw [if_neg (by assumption)])); (try rfl))
  · refine lv_iconst (v := iZ 0) hx hb dX10_stepBy_6 (by decide) ?_
    refine lv_goto (tgt := 51) hx hb dX10_stepBy_7 (by decide) ?_
    exact z_iret hx hb hr hlocks hP hD hS dX10_stepBy_51 rfl (by refine ⟨?_, rfl⟩; unfold sbf; repeat (first | (rw [if_pos (by assumption)]) | (rw [if_neg (by assumption)])); (try rfl))
theorem qX10_capped : yX10_capped.cls ≠ "java/lang/invoke/MethodHandle" ∧ yX10_capped.cls ≠ "java/lang/invoke/VarHandle" ∧ (parseMethodDescriptor yX10_capped.desc).map (fun d => d.parameters.length) = some 1 := by decide +kernel
set_option maxHeartbeats 4000000 in
set_option maxRecDepth 100000 in
theorem c_X10_capped (l : Launch) (D : va_G) (cI cJ cB : ClassId) (v : Int) (hv : -2147483648 ≤ v ∧ v < 2147483648) : zMi l yX10_capped wsX10_capped (zRm 0 0) D (zT cI cJ cB) [.int (iZ v)] [] (fun (z : Int) (w : va_W) => cap v = z ∧ w = []) := by
  refine z_of (Qc := fun A => zQi D [] A _) (cc := cX10_capped) (maxL := 1) (ret := (some .int)) (by decide) rfl (Nat.le_of_ble_eq_true rfl) ?_
  intro p e s m below meth c A ls hx hb hr hts hown hlocks hml hK hP hD hS hA hl
  replace hown : s.vm.findClass RX10 = some m.cls := hown
  have hC : CallFix p m c cX10_capped 1 s _ wsX10_capped RX10 := ⟨hx, hb, hml, hown, hts⟩
  replace hl : lv_has ls 1 [(0, .int (iZ v))] := hl
  refine lv_iload_n hx hb dX10_capped_0 rfl (lv_at hl 0 rfl) ?_
  refine lv_sipush (v := iZ 9999) hx hb dX10_capped_1 (by decide) ?_
  refine z_icmp_le (tgt := 13) hx hb dX10_capped_4 (by decide) (by first | assumption | omega) (by first | assumption | omega) (fun c_4 => ?_) (fun c_4 => ?_)
  · refine lv_iload_n hx hb dX10_capped_13 rfl (lv_at hl 0 rfl) ?_
    refine z_if_ge (tgt := 21) hx hb dX10_capped_14 (by decide) (by first | assumption | omega) (fun c_14 => ?_) (fun c_14 => ?_)
    · refine lv_iload_n hx hb dX10_capped_21 rfl (lv_at hl 0 rfl) ?_
      exact z_iret hx hb hr hlocks hP hD hS dX10_capped_22 rfl (by refine ⟨?_, rfl⟩; unfold cap; repeat (first | (rw [if_pos (by omega)]) | (rw [if_neg (by omega)])); (try rfl))
    · refine lv_iconst (v := iZ 0) hx hb dX10_capped_17 (by decide) ?_
      refine lv_goto (tgt := 22) hx hb dX10_capped_18 (by decide) ?_
      exact z_iret hx hb hr hlocks hP hD hS dX10_capped_22 rfl (by refine ⟨?_, rfl⟩; unfold cap; repeat (first | (rw [if_pos (by omega)]) | (rw [if_neg (by omega)])); (try rfl))
  · refine lv_sipush (v := iZ 9999) hx hb dX10_capped_7 (by decide) ?_
    refine lv_goto (tgt := 22) hx hb dX10_capped_10 (by decide) ?_
    exact z_iret hx hb hr hlocks hP hD hS dX10_capped_22 rfl (by refine ⟨?_, rfl⟩; unfold cap; repeat (first | (rw [if_pos (by omega)]) | (rw [if_neg (by omega)])); (try rfl))
theorem qX10_isPerson : yX10_isPerson.cls ≠ "java/lang/invoke/MethodHandle" ∧ yX10_isPerson.cls ≠ "java/lang/invoke/VarHandle" ∧ (parseMethodDescriptor yX10_isPerson.desc).map (fun d => d.parameters.length) = some 1 := by decide +kernel
set_option maxHeartbeats 4000000 in
set_option maxRecDepth 100000 in
theorem c_X10_isPerson (l : Launch) (D : va_G) (cI cJ cB : ClassId) (hm : Nat) (a : Nat → Nat) (st lw tl wk pe ch pl fa iw nm qe sd ik kp hh : Int) (p0 : Int) (hpe : 0 ≤ pe ∧ pe ≤ 8) (hp0 : -2147483648 ≤ p0 ∧ p0 < 2147483648) : zMi l yX10_isPerson wsX10_isPerson (zRm 1 22) D (zT cI cJ cB) [.ref hm, .int (iZ p0)] [(hm, ob 10 (mo a st lw tl wk pe ch pl fa iw nm qe sd ik kp hh))] (fun (z : Int) (w : va_W) => (1 = z ∧ w = [(hm, ob 10 (mo a st lw tl wk pe ch pl fa iw nm qe sd ik kp hh))] ∧ (0 ≤ p0 ∧ p0 < pe)) ∨ (0 = z ∧ w = [(hm, ob 10 (mo a st lw tl wk pe ch pl fa iw nm qe sd ik kp hh))] ∧ (¬ (0 ≤ p0 ∧ p0 < pe)))) := by
  refine z_of (Qc := fun A => zQi D [(hm, ob 10 (mo a st lw tl wk pe ch pl fa iw nm qe sd ik kp hh))] A _) (cc := cX10_isPerson) (maxL := 2) (ret := (some .boolean)) (by decide) rfl (Nat.le_of_ble_eq_true rfl) ?_
  intro p e s m below meth c A ls hx hb hr hts hown hlocks hml hK hP hD hS hA hl
  replace hown : s.vm.findClass RX10 = some m.cls := hown
  have hC : CallFix p m c cX10_isPerson 2 s _ wsX10_isPerson RX10 := ⟨hx, hb, hml, hown, hts⟩
  replace hl : lv_has ls 2 [(0, .ref hm), (1, .int (iZ p0))] := hl
  have iwX10 : ∀ w ∈ u_ws RX10 TX10 36, w ∈ wsX10_isPerson := fun w h => List.mem_cons_of_mem _ (List.mem_append_right _ h)
  have fl131 : Cond.fieldLink RX10 131 "GrowsByHalfModel" "people" "I" ∈ wsX10_isPerson := by decide +kernel
  refine lv_iload_n hx hb dX10_isPerson_0 rfl (lv_at hl 1 rfl) ?_
  refine lv_iconst (v := iZ 0) hx hb dX10_isPerson_1 (by decide) ?_
  refine lv_aload_n hx hb dX10_isPerson_2 rfl (lv_at hl 0 rfl) ?_
  refine z_get (C := RX10) (T0 := TX10) (N := 36) (ci := 10) (v := .int (iZ pe)) hx hb hts hown hK hP iwX10 rfl 0 rfl 8 (by decide) fl131 rfl dX10_isPerson_3 ?_
  refine lv_iconst (v := iZ 1) hx hb dX10_isPerson_6 (by decide) ?_
  refine z_isub hx hb dX10_isPerson_7 ?_
  refine z_Si (As := [.int (iZ p0), .int (iZ 0), .int (iZ (pe - 1))]) (rest := []) hC (c_X10_within l D cI cJ cB p0 0 (pe - 1) (by first | assumption | omega) (by first | assumption | omega) (by first | assumption | omega)) 3 gX10_isPerson_X10_within rfl rfl rfl qX10_within ⟨Nat.le_of_ble_eq_true rfl, Nat.le_of_ble_eq_true rfl⟩ ⟨Nat.le_refl _, Nat.le_refl _⟩ hK hP hD hS hA [] rfl (by decide) rfl hl.1 rfl (Nat.le_of_ble_eq_true rfl) dX10_isPerson_8 (fun z w H locs hq hP hD hS => ?_)
  rcases hq with ⟨rfl, rfl, hc1_0⟩ | ⟨rfl, rfl, hc1_0⟩
  · replace hP : va_P D vwCl [(hm, ob 10 (mo a st lw tl wk pe ch pl fa iw nm qe sd ik kp hh))] H := hP
    replace hD : va_D A [(hm, ob 10 (mo a st lw tl wk pe ch pl fa iw nm qe sd ik kp hh))] := hD
    exact z_zret hx hb hr hlocks hP hD hS dX10_isPerson_11 (by first | exact Or.inl rfl | exact Or.inr rfl | omega) rfl (by first | (exact Or.inl (⟨(by first | rfl | omega), rfl, (by first | assumption | omega)⟩)) | (exfalso; omega))
  · replace hP : va_P D vwCl [(hm, ob 10 (mo a st lw tl wk pe ch pl fa iw nm qe sd ik kp hh))] H := hP
    replace hD : va_D A [(hm, ob 10 (mo a st lw tl wk pe ch pl fa iw nm qe sd ik kp hh))] := hD
    exact z_zret hx hb hr hlocks hP hD hS dX10_isPerson_11 (by first | exact Or.inl rfl | exact Or.inr rfl | omega) rfl (by first | (exact Or.inr (⟨(by first | rfl | omega), rfl, (by first | assumption | omega)⟩)) | (exfalso; omega))
theorem qX10_letters : yX10_letters.cls ≠ "java/lang/invoke/MethodHandle" ∧ yX10_letters.cls ≠ "java/lang/invoke/VarHandle" ∧ (parseMethodDescriptor yX10_letters.desc).map (fun d => d.parameters.length) = some 1 := by decide +kernel
set_option maxHeartbeats 4000000 in
set_option maxRecDepth 100000 in
theorem c_X10_letters (l : Launch) (D : va_G) (cI cJ cB : ClassId) (hm : Nat) (a : Nat → Nat) (st lw tl wk pe ch pl fa iw nm qe sd ik kp hh : Int) (pg : Int → Int) (w0 : Int) (hpl : 0 ≤ pl ∧ pl ≤ 50) (hw : -9223372036854775808 ≤ w0 ∧ w0 < 9223372036854775808) : zMi l yX10_letters wsX10_letters (zRm 0 0) D (zT cI cJ cB) [.ref hm, .long (lZ w0)] [(hm, ob 10 (mo a st lw tl wk pe ch pl fa iw nm qe sd ik kp hh)), ((a 15), aI cB 50 pg)] (fun (z : Int) (w : va_W) => ((-102) = z ∧ w = [(hm, ob 10 (mo a st lw tl wk pe ch pl fa iw nm qe sd ik kp hh)), ((a 15), aI cB 50 pg)] ∧ ¬ okB w0 8) ∨ ((-104) = z ∧ w = [(hm, ob 10 (mo a st lw tl wk pe ch pl fa iw nm qe sd ik kp hh)), ((a 15), aI cB 50 pg)] ∧ okB w0 8 ∧ 50 < pl + cntB w0 8) ∨ (pl + cntB w0 8 = z ∧ w = [(hm, ob 10 (mo a st lw tl wk pe ch (pl + cntB w0 8) fa iw nm qe sd ik kp hh)), ((a 15), aI cB 50 (apg w0 pg pl (cntB w0 8)))] ∧ okB w0 8 ∧ pl + cntB w0 8 ≤ 50)) := by
  refine z_of (Qc := fun A => zQi D [(hm, ob 10 (mo a st lw tl wk pe ch pl fa iw nm qe sd ik kp hh)), ((a 15), aI cB 50 pg)] A _) (cc := cX10_letters) (maxL := 7) (ret := (some .int)) (by decide) rfl (Nat.le_of_ble_eq_true rfl) ?_
  intro p e s m below meth c A ls hx hb hr hts hown hlocks hml hK hP hD hS hA hl
  replace hown : s.vm.findClass RX10 = some m.cls := hown
  have hC : CallFix p m c cX10_letters 7 s _ wsX10_letters RX10 := ⟨hx, hb, hml, hown, hts⟩
  replace hl : lv_has ls 7 [(0, .ref hm), (1, .long (lZ w0))] := hl
  have iwX10 : ∀ w ∈ u_ws RX10 TX10 36, w ∈ wsX10_letters := fun w h => List.mem_cons_of_mem _ (List.mem_append_right _ h)
  have fl38 : Cond.fieldLink RX10 38 "GrowsByHalfModel" "page" "[B" ∈ wsX10_letters := by decide +kernel
  have fl81 : Cond.fieldLink RX10 81 "GrowsByHalfModel" "pageLength" "I" ∈ wsX10_letters := by decide +kernel
  refine lv_iconst (v := iZ 0) hx hb dX10_letters_0 (by decide) ?_
  refine lv_istore_n (lv' := [(3, .int (iZ 0)), (0, .ref hm), (1, .long (lZ w0))]) hx hb dX10_letters_1 rfl hl (by decide) rfl (fun ls hl => ?_)
  refine lv_iconst (v := iZ 0) hx hb dX10_letters_2 (by decide) ?_
  refine lv_istore (lv' := [(4, .int (iZ 0)), (3, .int (iZ 0)), (0, .ref hm), (1, .long (lZ w0))]) hx hb dX10_letters_3 hl (by decide) rfl (fun ls hl => ?_)
  refine lv_iconst (v := iZ 0) hx hb dX10_letters_5 (by decide) ?_
  refine lv_istore (lv' := [(5, .int (iZ 0)), (4, .int (iZ 0)), (3, .int (iZ 0)), (0, .ref hm), (1, .long (lZ w0))]) hx hb dX10_letters_6 hl (by decide) rfl (fun ls hl => ?_)
  have lp8 : ∀ fuel : Nat, ∀ (i q ee : Int), (0 ≤ i ∧ i ≤ 8) → (q = cntB w0 i.toNat) → (0 ≤ q ∧ q ≤ i) → (ee = 0 ∧ q = i ∨ ee = 1 ∧ q < i) → (okB w0 i) → (8 - i) < (fuel : Int) → ∀ (H : Heap) (locs : List Loc) (ls : Array Slot), va_P D vwCl [(hm, ob 10 (mo a st lw tl wk pe ch pl fa iw nm qe sd ik kp hh)), ((a 15), aI cB 50 pg)] H → va_D A [(hm, ob 10 (mo a st lw tl wk pe ch pl fa iw nm qe sd ik kp hh)), ((a 15), aI cB 50 pg)] → va_S A s.heap H locs → lv_has ls 7 [(0, .ref hm), (1, .long (lZ w0)), (3, .int (iZ q)), (4, .int (iZ ee)), (5, .int (iZ i))] → W p l e (zRm 0 0) s m [.ref hm, .long (lZ w0)].toArray below meth c H locs 0 0 (MQ below (zQi D [(hm, ob 10 (mo a st lw tl wk pe ch pl fa iw nm qe sd ik kp hh)), ((a 15), aI cB 50 pg)] A (fun (z : Int) (w : va_W) => ((-102) = z ∧ w = [(hm, ob 10 (mo a st lw tl wk pe ch pl fa iw nm qe sd ik kp hh)), ((a 15), aI cB 50 pg)] ∧ ¬ okB w0 8) ∨ ((-104) = z ∧ w = [(hm, ob 10 (mo a st lw tl wk pe ch pl fa iw nm qe sd ik kp hh)), ((a 15), aI cB 50 pg)] ∧ okB w0 8 ∧ 50 < pl + cntB w0 8) ∨ (pl + cntB w0 8 = z ∧ w = [(hm, ob 10 (mo a st lw tl wk pe ch (pl + cntB w0 8) fa iw nm qe sd ik kp hh)), ((a 15), aI cB 50 (apg w0 pg pl (cntB w0 8)))] ∧ okB w0 8 ∧ pl + cntB w0 8 ≤ 50))) [.ref hm, .long (lZ w0)].toArray s 0 0 A) (F0 m 8 ls []) := by
    intro fuel
    induction fuel with
    | zero => intro i q ee hi hq0 hq1 hee hok hmu8; exact absurd hmu8 (by omega)
    | succ fuel ih8 =>
      intro i q ee hi hq0 hq1 hee hok hmu8 H locs ls hP hD hS hl
      refine lv_iload hx hb dX10_letters_8 (lv_at hl 4 rfl) ?_
      refine lv_bipush (v := iZ 8) hx hb dX10_letters_10 (by decide) ?_
      refine z_icmp_ge (tgt := 85) hx hb dX10_letters_12 (by decide) (by first | assumption | omega) (by first | assumption | omega) (fun c_12 => ?_) (fun c_12 => ?_)
      · have e8 : i = 8 := (by omega)
        subst e8
        replace hq0 : q = cntB w0 8 := hq0
        refine lv_aload_n hx hb dX10_letters_85 rfl (lv_at hl 0 rfl) ?_
        refine z_get (C := RX10) (T0 := TX10) (N := 36) (ci := 10) (v := .int (iZ pl)) hx hb hts hown hK hP iwX10 rfl 0 rfl 14 (by decide) fl81 rfl dX10_letters_86 ?_
        refine lv_iload_n hx hb dX10_letters_89 rfl (lv_at hl 2 rfl) ?_
        refine z_iadd hx hb dX10_letters_90 ?_
        refine lv_bipush (v := iZ 50) hx hb dX10_letters_91 (by decide) ?_
        refine z_icmp_le (tgt := 99) hx hb dX10_letters_93 (by decide) (by first | assumption | omega) (by first | assumption | omega) (fun c_93 => ?_) (fun c_93 => ?_)
        · refine lv_iconst (v := iZ 0) hx hb dX10_letters_99 (by decide) ?_
          refine lv_istore (lv' := [(5, .int (iZ 0)), (0, .ref hm), (1, .long (lZ w0)), (3, .int (iZ q)), (4, .int (iZ ee))]) hx hb dX10_letters_100 hl (by decide) rfl (fun ls hl => ?_)
          have lp102 : ∀ fuel : Nat, ∀ (i n1 : Int) (g1 : Int → Int), (0 ≤ i ∧ i ≤ q) → (n1 = pl + i) → (g1 = apg w0 pg pl i) → (q - i) < (fuel : Int) → ∀ (H : Heap) (locs : List Loc) (ls : Array Slot), va_P D vwCl [(hm, ob 10 (mo a st lw tl wk pe ch pl fa iw nm qe sd ik kp hh)), ((a 15), aI cB 50 g1)] H → va_D A [(hm, ob 10 (mo a st lw tl wk pe ch pl fa iw nm qe sd ik kp hh)), ((a 15), aI cB 50 g1)] → va_S A s.heap H locs → lv_has ls 7 [(0, .ref hm), (1, .long (lZ w0)), (3, .int (iZ q)), (5, .int (iZ i))] → W p l e (zRm 0 0) s m [.ref hm, .long (lZ w0)].toArray below meth c H locs 0 0 (MQ below (zQi D [(hm, ob 10 (mo a st lw tl wk pe ch pl fa iw nm qe sd ik kp hh)), ((a 15), aI cB 50 pg)] A (fun (z : Int) (w : va_W) => ((-102) = z ∧ w = [(hm, ob 10 (mo a st lw tl wk pe ch pl fa iw nm qe sd ik kp hh)), ((a 15), aI cB 50 pg)] ∧ ¬ okB w0 8) ∨ ((-104) = z ∧ w = [(hm, ob 10 (mo a st lw tl wk pe ch pl fa iw nm qe sd ik kp hh)), ((a 15), aI cB 50 pg)] ∧ okB w0 8 ∧ 50 < pl + cntB w0 8) ∨ (pl + cntB w0 8 = z ∧ w = [(hm, ob 10 (mo a st lw tl wk pe ch (pl + cntB w0 8) fa iw nm qe sd ik kp hh)), ((a 15), aI cB 50 (apg w0 pg pl (cntB w0 8)))] ∧ okB w0 8 ∧ pl + cntB w0 8 ≤ 50))) [.ref hm, .long (lZ w0)].toArray s 0 0 A) (F0 m 102 ls []) := by
            intro fuel
            induction fuel with
            | zero => intro i n1 g1 hi hn1 hg1 hmu102; exact absurd hmu102 (by omega)
            | succ fuel ih102 =>
              intro i n1 g1 hi hn1 hg1 hmu102 H locs ls hP hD hS hl
              refine lv_iload hx hb dX10_letters_102 (lv_at hl 3 rfl) ?_
              refine lv_iload_n hx hb dX10_letters_104 rfl (lv_at hl 2 rfl) ?_
              refine z_icmp_ge (tgt := 135) hx hb dX10_letters_105 (by decide) (by first | assumption | omega) (by first | assumption | omega) (fun c_105 => ?_) (fun c_105 => ?_)
              · refine lv_aload_n hx hb dX10_letters_135 rfl (lv_at hl 0 rfl) ?_
                refine lv_dup hx hb dX10_letters_136 rfl ?_
                refine z_get (C := RX10) (T0 := TX10) (N := 36) (ci := 10) (v := .int (iZ pl)) hx hb hts hown hK hP iwX10 rfl 0 rfl 14 (by decide) fl81 rfl dX10_letters_137 ?_
                refine lv_iload_n hx hb dX10_letters_140 rfl (lv_at hl 2 rfl) ?_
                refine z_iadd hx hb dX10_letters_141 ?_
                refine z_put (C := RX10) (T0 := TX10) (N := 36) (ci := 10) (v := .int (iZ (pl + q))) hx hb hts hown hK hP hD hS iwX10 tyX10_ok nmX10 rfl 0 rfl 14 (by decide) fl81 rfl rfl rfl (Nat.le_of_ble_eq_true rfl) dX10_letters_142 (fun H locs hP hD hS => ?_)
                replace hP : va_P D vwCl [(hm, ob 10 (mo a st lw tl wk pe ch (pl + q) fa iw nm qe sd ik kp hh)), ((a 15), aI cB 50 g1)] H := hP
                replace hD : va_D A [(hm, ob 10 (mo a st lw tl wk pe ch (pl + q) fa iw nm qe sd ik kp hh)), ((a 15), aI cB 50 g1)] := hD
                refine lv_aload_n hx hb dX10_letters_145 rfl (lv_at hl 0 rfl) ?_
                refine z_get (C := RX10) (T0 := TX10) (N := 36) (ci := 10) (v := .int (iZ (pl + q))) hx hb hts hown hK hP iwX10 rfl 0 rfl 14 (by decide) fl81 rfl dX10_letters_146 ?_
                exact z_iret hx hb hr hlocks hP hD hS dX10_letters_149 rfl (by have e9 : i = q := (by omega); subst e9; rw [hg1, hq0]; exact Or.inr (Or.inr ⟨rfl, rfl, hok, by omega⟩))
              · refine lv_aload_n hx hb dX10_letters_108 rfl (lv_at hl 0 rfl) ?_
                refine z_get (C := RX10) (T0 := TX10) (N := 36) (ci := 10) (v := .ref (a 15)) hx hb hts hown hK hP iwX10 rfl 0 rfl 15 (by decide) fl38 rfl dX10_letters_109 ?_
                refine lv_aload_n hx hb dX10_letters_112 rfl (lv_at hl 0 rfl) ?_
                refine z_get (C := RX10) (T0 := TX10) (N := 36) (ci := 10) (v := .int (iZ pl)) hx hb hts hown hK hP iwX10 rfl 0 rfl 14 (by decide) fl81 rfl dX10_letters_113 ?_
                refine lv_iload hx hb dX10_letters_116 (lv_at hl 3 rfl) ?_
                refine z_iadd hx hb dX10_letters_118 ?_
                refine lv_lload_n hx hb dX10_letters_119 rfl (lv_at hl 1 rfl) ?_
                refine lv_bipush (v := iZ 8) hx hb dX10_letters_120 (by decide) ?_
                refine lv_iload hx hb dX10_letters_122 (lv_at hl 3 rfl) ?_
                refine z_imul hx hb dX10_letters_124 ?_
                refine z_lshr hx hb dX10_letters_125 ?_
                have rb_1 := jshr_rng w0 (8 * i)
                refine z_l2i hx hb dX10_letters_126 ?_
                refine z_i2bm (b := byt w0 i) hx hb (byt_s hw (by omega)) (by have h9 := (hok i (by omega) (by omega)).1; omega) dX10_letters_127 ?_
                have hb9 := byt_rng w0 i
                have hb8 := (hok i (by omega) (by omega)).1
                refine z_bast hx hb hK hP hD hS 1 2 rfl rfl (by decide) (by first | assumption | omega) (by first | assumption | omega) dX10_letters_128 (fun H locs hP hD hS => ?_)
                replace hP : va_P D vwCl [(hm, ob 10 (mo a st lw tl wk pe ch pl fa iw nm qe sd ik kp hh)), ((a 15), aI cB 50 (zu g1 (pl + i) (byt w0 i)))] H := hP
                replace hD : va_D A [(hm, ob 10 (mo a st lw tl wk pe ch pl fa iw nm qe sd ik kp hh)), ((a 15), aI cB 50 (zu g1 (pl + i) (byt w0 i)))] := hD
                refine z_iinc (lv' := [(5, .int (iZ (i + 1))), (0, .ref hm), (1, .long (lZ w0)), (3, .int (iZ q))]) hx hb dX10_letters_129 hl (k := 3) rfl (by decide) rfl (fun ls hl => ?_)
                refine lv_goto (tgt := 102) hx hb dX10_letters_132 (by decide) ?_
                exact ih102 (i + 1) (pl + (i + 1)) (zu g1 (pl + i) (byt w0 i)) (by first | assumption | omega) (by omega) (by rw [hg1]; exact apg_s w0 pg (by omega)) (by omega) _ _ _ hP hD hS (lv_sub hl [1, 2, 3, 0] rfl)
          exact lp102 ((q - 0 : Int) + 1).toNat 0 (pl + 0) pg (by first | assumption | omega) (by omega) (by exact (apg_0 w0 pg pl).symm) (by omega) _ _ _ hP hD hS (lv_sub hl [1, 2, 3, 0] rfl)
        · refine lv_bipush (v := iZ (-104)) hx hb dX10_letters_96 (by decide) ?_
          exact z_iret hx hb hr hlocks hP hD hS dX10_letters_98 rfl (by exact Or.inr (Or.inl ⟨rfl, rfl, hok, by omega⟩))
      · refine lv_lload_n hx hb dX10_letters_15 rfl (lv_at hl 1 rfl) ?_
        refine lv_bipush (v := iZ 8) hx hb dX10_letters_16 (by decide) ?_
        refine lv_iload hx hb dX10_letters_18 (lv_at hl 4 rfl) ?_
        refine z_imul hx hb dX10_letters_20 ?_
        refine z_lshr hx hb dX10_letters_21 ?_
        have rb_2 := jshr_rng w0 (8 * i)
        refine lv_ldc2 (v := lZ 255) hx hb hown (hts (.constantLong RX10 79 (255)) (by decide +kernel)) dX10_letters_22 ?_
        refine z_land hx hb dX10_letters_25 ?_
        have rb_3 := jand_rng (jshr w0 (8 * i)) 255
        refine z_eql (b := byt w0 i) (by exact byt_s2 hw (by omega)) ?_
        have hbr := byt_rng w0 i
        refine z_l2i hx hb dX10_letters_26 ?_
        refine lv_istore (lv' := [(6, .int (iZ (byt w0 i))), (0, .ref hm), (1, .long (lZ w0)), (3, .int (iZ q)), (4, .int (iZ ee)), (5, .int (iZ i))]) hx hb dX10_letters_27 hl (by decide) rfl (fun ls hl => ?_)
        refine lv_iload hx hb dX10_letters_29 (lv_at hl 0 rfl) ?_
        refine lv_bipush (v := iZ 126) hx hb dX10_letters_31 (by decide) ?_
        refine z_icmp_gt (tgt := 46) hx hb dX10_letters_33 (by decide) (by first | assumption | omega) (by first | assumption | omega) (fun c_33 => ?_) (fun c_33 => ?_)
        · refine lv_bipush (v := iZ (-102)) hx hb dX10_letters_46 (by decide) ?_
          exact z_iret hx hb hr hlocks hP hD hS dX10_letters_48 rfl (by exact Or.inl ⟨rfl, rfl, fun h => by have h1 := h i (by omega) (by omega); have h2 := h1.1; have h3 := h1.2; omega⟩)
        · refine lv_iload hx hb dX10_letters_36 (lv_at hl 4 rfl) ?_
          refine z_if_eq (tgt := 49) hx hb dX10_letters_38 (by decide) (by first | assumption | omega) (fun c_38 => ?_) (fun c_38 => ?_)
          · refine lv_iload hx hb dX10_letters_49 (lv_at hl 4 rfl) ?_
            refine z_if_ne (tgt := 59) hx hb dX10_letters_51 (by decide) (by first | assumption | omega) (fun c_51 => ?_) (fun c_51 => ?_)
            · refine lv_iconst (v := iZ 1) hx hb dX10_letters_59 (by decide) ?_
              refine lv_goto (tgt := 64) hx hb dX10_letters_60 (by decide) ?_
              refine lv_istore (lv' := [(4, .int (iZ 1)), (6, .int (iZ (byt w0 i))), (0, .ref hm), (1, .long (lZ w0)), (3, .int (iZ q)), (5, .int (iZ i))]) hx hb dX10_letters_64 hl (by decide) rfl (fun ls hl => ?_)
              refine lv_iload_n hx hb dX10_letters_66 rfl (lv_at hl 4 rfl) ?_
              refine lv_iload hx hb dX10_letters_67 (lv_at hl 1 rfl) ?_
              refine z_if_ne (tgt := 76) hx hb dX10_letters_69 (by decide) (by first | assumption | omega) (fun c_69 => ?_) (fun c_69 => ?_)
              · refine lv_iconst (v := iZ 1) hx hb dX10_letters_76 (by decide) ?_
                refine z_iadd hx hb dX10_letters_77 ?_
                refine lv_istore_n (lv' := [(3, .int (iZ (q + 1))), (4, .int (iZ 1)), (6, .int (iZ (byt w0 i))), (0, .ref hm), (1, .long (lZ w0)), (5, .int (iZ i))]) hx hb dX10_letters_78 rfl hl (by decide) rfl (fun ls hl => ?_)
                refine z_iinc (lv' := [(5, .int (iZ (i + 1))), (3, .int (iZ (q + 1))), (4, .int (iZ 1)), (6, .int (iZ (byt w0 i))), (0, .ref hm), (1, .long (lZ w0))]) hx hb dX10_letters_79 hl (k := 5) rfl (by decide) rfl (fun ls hl => ?_)
                refine lv_goto (tgt := 8) hx hb dX10_letters_82 (by decide) ?_
                exact ih8 (i + 1) (q + 1) 1 (by first | assumption | omega) (by rw [cntB_s (by omega)]; (first | rw [if_pos (by assumption)] | rw [if_neg (by assumption)]); omega) (by first | assumption | omega) (by first | assumption | omega) (by exact okB_s hok ⟨by omega, by first | (left; assumption) | (right; omega)⟩) (by omega) _ _ _ hP hD hS (lv_sub hl [4, 5, 1, 2, 0] rfl)
              · refine lv_iconst (v := iZ 0) hx hb dX10_letters_72 (by decide) ?_
                refine lv_goto (tgt := 77) hx hb dX10_letters_73 (by decide) ?_
                refine z_iadd hx hb dX10_letters_77 ?_
                refine lv_istore_n (lv' := [(3, .int (iZ (q + 0))), (4, .int (iZ 1)), (6, .int (iZ (byt w0 i))), (0, .ref hm), (1, .long (lZ w0)), (5, .int (iZ i))]) hx hb dX10_letters_78 rfl hl (by decide) rfl (fun ls hl => ?_)
                refine z_iinc (lv' := [(5, .int (iZ (i + 1))), (3, .int (iZ (q + 0))), (4, .int (iZ 1)), (6, .int (iZ (byt w0 i))), (0, .ref hm), (1, .long (lZ w0))]) hx hb dX10_letters_79 hl (k := 5) rfl (by decide) rfl (fun ls hl => ?_)
                refine lv_goto (tgt := 8) hx hb dX10_letters_82 (by decide) ?_
                exact ih8 (i + 1) (q + 0) 1 (by first | assumption | omega) (by rw [cntB_s (by omega)]; (first | rw [if_pos (by assumption)] | rw [if_neg (by assumption)]); omega) (by first | assumption | omega) (by first | assumption | omega) (by exact okB_s hok ⟨by omega, by first | (left; assumption) | (right; omega)⟩) (by omega) _ _ _ hP hD hS (lv_sub hl [4, 5, 1, 2, 0] rfl)
            · refine lv_iload hx hb dX10_letters_54 (lv_at hl 0 rfl) ?_
              refine z_if_ne (tgt := 63) hx hb dX10_letters_56 (by decide) (by first | assumption | omega) (fun c_56 => ?_) (fun c_56 => ?_)
              · refine lv_iconst (v := iZ 0) hx hb dX10_letters_63 (by decide) ?_
                refine lv_istore (lv' := [(4, .int (iZ 0)), (6, .int (iZ (byt w0 i))), (0, .ref hm), (1, .long (lZ w0)), (3, .int (iZ q)), (5, .int (iZ i))]) hx hb dX10_letters_64 hl (by decide) rfl (fun ls hl => ?_)
                refine lv_iload_n hx hb dX10_letters_66 rfl (lv_at hl 4 rfl) ?_
                refine lv_iload hx hb dX10_letters_67 (lv_at hl 1 rfl) ?_
                refine z_if_ne (tgt := 76) hx hb dX10_letters_69 (by decide) (by first | assumption | omega) (fun c_69 => ?_) (fun c_69 => ?_)
                · refine lv_iconst (v := iZ 1) hx hb dX10_letters_76 (by decide) ?_
                  refine z_iadd hx hb dX10_letters_77 ?_
                  refine lv_istore_n (lv' := [(3, .int (iZ (q + 1))), (4, .int (iZ 0)), (6, .int (iZ (byt w0 i))), (0, .ref hm), (1, .long (lZ w0)), (5, .int (iZ i))]) hx hb dX10_letters_78 rfl hl (by decide) rfl (fun ls hl => ?_)
                  refine z_iinc (lv' := [(5, .int (iZ (i + 1))), (3, .int (iZ (q + 1))), (4, .int (iZ 0)), (6, .int (iZ (byt w0 i))), (0, .ref hm), (1, .long (lZ w0))]) hx hb dX10_letters_79 hl (k := 5) rfl (by decide) rfl (fun ls hl => ?_)
                  refine lv_goto (tgt := 8) hx hb dX10_letters_82 (by decide) ?_
                  exact ih8 (i + 1) (q + 1) 0 (by first | assumption | omega) (by rw [cntB_s (by omega)]; (first | rw [if_pos (by assumption)] | rw [if_neg (by assumption)]); omega) (by first | assumption | omega) (by first | assumption | omega) (by exact okB_s hok ⟨by omega, by first | (left; assumption) | (right; omega)⟩) (by omega) _ _ _ hP hD hS (lv_sub hl [4, 5, 1, 2, 0] rfl)
                · refine lv_iconst (v := iZ 0) hx hb dX10_letters_72 (by decide) ?_
                  refine lv_goto (tgt := 77) hx hb dX10_letters_73 (by decide) ?_
                  refine z_iadd hx hb dX10_letters_77 ?_
                  refine lv_istore_n (lv' := [(3, .int (iZ (q + 0))), (4, .int (iZ 0)), (6, .int (iZ (byt w0 i))), (0, .ref hm), (1, .long (lZ w0)), (5, .int (iZ i))]) hx hb dX10_letters_78 rfl hl (by decide) rfl (fun ls hl => ?_)
                  refine z_iinc (lv' := [(5, .int (iZ (i + 1))), (3, .int (iZ (q + 0))), (4, .int (iZ 0)), (6, .int (iZ (byt w0 i))), (0, .ref hm), (1, .long (lZ w0))]) hx hb dX10_letters_79 hl (k := 5) rfl (by decide) rfl (fun ls hl => ?_)
                  refine lv_goto (tgt := 8) hx hb dX10_letters_82 (by decide) ?_
                  exact ih8 (i + 1) (q + 0) 0 (by first | assumption | omega) (by rw [cntB_s (by omega)]; (first | rw [if_pos (by assumption)] | rw [if_neg (by assumption)]); omega) (by first | assumption | omega) (by first | assumption | omega) (by exact okB_s hok ⟨by omega, by first | (left; assumption) | (right; omega)⟩) (by omega) _ _ _ hP hD hS (lv_sub hl [4, 5, 1, 2, 0] rfl)
              · refine lv_iconst (v := iZ 1) hx hb dX10_letters_59 (by decide) ?_
                refine lv_goto (tgt := 64) hx hb dX10_letters_60 (by decide) ?_
                refine lv_istore (lv' := [(4, .int (iZ 1)), (6, .int (iZ (byt w0 i))), (0, .ref hm), (1, .long (lZ w0)), (3, .int (iZ q)), (5, .int (iZ i))]) hx hb dX10_letters_64 hl (by decide) rfl (fun ls hl => ?_)
                refine lv_iload_n hx hb dX10_letters_66 rfl (lv_at hl 4 rfl) ?_
                refine lv_iload hx hb dX10_letters_67 (lv_at hl 1 rfl) ?_
                refine z_if_ne (tgt := 76) hx hb dX10_letters_69 (by decide) (by first | assumption | omega) (fun c_69 => ?_) (fun c_69 => ?_)
                · refine lv_iconst (v := iZ 1) hx hb dX10_letters_76 (by decide) ?_
                  refine z_iadd hx hb dX10_letters_77 ?_
                  refine lv_istore_n (lv' := [(3, .int (iZ (q + 1))), (4, .int (iZ 1)), (6, .int (iZ (byt w0 i))), (0, .ref hm), (1, .long (lZ w0)), (5, .int (iZ i))]) hx hb dX10_letters_78 rfl hl (by decide) rfl (fun ls hl => ?_)
                  refine z_iinc (lv' := [(5, .int (iZ (i + 1))), (3, .int (iZ (q + 1))), (4, .int (iZ 1)), (6, .int (iZ (byt w0 i))), (0, .ref hm), (1, .long (lZ w0))]) hx hb dX10_letters_79 hl (k := 5) rfl (by decide) rfl (fun ls hl => ?_)
                  refine lv_goto (tgt := 8) hx hb dX10_letters_82 (by decide) ?_
                  exact ih8 (i + 1) (q + 1) 1 (by first | assumption | omega) (by rw [cntB_s (by omega)]; (first | rw [if_pos (by assumption)] | rw [if_neg (by assumption)]); omega) (by first | assumption | omega) (by first | assumption | omega) (by exact okB_s hok ⟨by omega, by first | (left; assumption) | (right; omega)⟩) (by omega) _ _ _ hP hD hS (lv_sub hl [4, 5, 1, 2, 0] rfl)
                · refine lv_iconst (v := iZ 0) hx hb dX10_letters_72 (by decide) ?_
                  refine lv_goto (tgt := 77) hx hb dX10_letters_73 (by decide) ?_
                  refine z_iadd hx hb dX10_letters_77 ?_
                  refine lv_istore_n (lv' := [(3, .int (iZ (q + 0))), (4, .int (iZ 1)), (6, .int (iZ (byt w0 i))), (0, .ref hm), (1, .long (lZ w0)), (5, .int (iZ i))]) hx hb dX10_letters_78 rfl hl (by decide) rfl (fun ls hl => ?_)
                  refine z_iinc (lv' := [(5, .int (iZ (i + 1))), (3, .int (iZ (q + 0))), (4, .int (iZ 1)), (6, .int (iZ (byt w0 i))), (0, .ref hm), (1, .long (lZ w0))]) hx hb dX10_letters_79 hl (k := 5) rfl (by decide) rfl (fun ls hl => ?_)
                  refine lv_goto (tgt := 8) hx hb dX10_letters_82 (by decide) ?_
                  exact ih8 (i + 1) (q + 0) 1 (by first | assumption | omega) (by rw [cntB_s (by omega)]; (first | rw [if_pos (by assumption)] | rw [if_neg (by assumption)]); omega) (by first | assumption | omega) (by first | assumption | omega) (by exact okB_s hok ⟨by omega, by first | (left; assumption) | (right; omega)⟩) (by omega) _ _ _ hP hD hS (lv_sub hl [4, 5, 1, 2, 0] rfl)
          · refine lv_iload hx hb dX10_letters_41 (lv_at hl 0 rfl) ?_
            refine z_if_eq (tgt := 49) hx hb dX10_letters_43 (by decide) (by first | assumption | omega) (fun c_43 => ?_) (fun c_43 => ?_)
            · refine lv_iload hx hb dX10_letters_49 (lv_at hl 4 rfl) ?_
              refine z_if_ne (tgt := 59) hx hb dX10_letters_51 (by decide) (by first | assumption | omega) (fun c_51 => ?_) (fun c_51 => ?_)
              · refine lv_iconst (v := iZ 1) hx hb dX10_letters_59 (by decide) ?_
                refine lv_goto (tgt := 64) hx hb dX10_letters_60 (by decide) ?_
                refine lv_istore (lv' := [(4, .int (iZ 1)), (6, .int (iZ (byt w0 i))), (0, .ref hm), (1, .long (lZ w0)), (3, .int (iZ q)), (5, .int (iZ i))]) hx hb dX10_letters_64 hl (by decide) rfl (fun ls hl => ?_)
                refine lv_iload_n hx hb dX10_letters_66 rfl (lv_at hl 4 rfl) ?_
                refine lv_iload hx hb dX10_letters_67 (lv_at hl 1 rfl) ?_
                refine z_if_ne (tgt := 76) hx hb dX10_letters_69 (by decide) (by first | assumption | omega) (fun c_69 => ?_) (fun c_69 => ?_)
                · refine lv_iconst (v := iZ 1) hx hb dX10_letters_76 (by decide) ?_
                  refine z_iadd hx hb dX10_letters_77 ?_
                  refine lv_istore_n (lv' := [(3, .int (iZ (q + 1))), (4, .int (iZ 1)), (6, .int (iZ (byt w0 i))), (0, .ref hm), (1, .long (lZ w0)), (5, .int (iZ i))]) hx hb dX10_letters_78 rfl hl (by decide) rfl (fun ls hl => ?_)
                  refine z_iinc (lv' := [(5, .int (iZ (i + 1))), (3, .int (iZ (q + 1))), (4, .int (iZ 1)), (6, .int (iZ (byt w0 i))), (0, .ref hm), (1, .long (lZ w0))]) hx hb dX10_letters_79 hl (k := 5) rfl (by decide) rfl (fun ls hl => ?_)
                  refine lv_goto (tgt := 8) hx hb dX10_letters_82 (by decide) ?_
                  exact ih8 (i + 1) (q + 1) 1 (by first | assumption | omega) (by rw [cntB_s (by omega)]; (first | rw [if_pos (by assumption)] | rw [if_neg (by assumption)]); omega) (by first | assumption | omega) (by first | assumption | omega) (by exact okB_s hok ⟨by omega, by first | (left; assumption) | (right; omega)⟩) (by omega) _ _ _ hP hD hS (lv_sub hl [4, 5, 1, 2, 0] rfl)
                · refine lv_iconst (v := iZ 0) hx hb dX10_letters_72 (by decide) ?_
                  refine lv_goto (tgt := 77) hx hb dX10_letters_73 (by decide) ?_
                  refine z_iadd hx hb dX10_letters_77 ?_
                  refine lv_istore_n (lv' := [(3, .int (iZ (q + 0))), (4, .int (iZ 1)), (6, .int (iZ (byt w0 i))), (0, .ref hm), (1, .long (lZ w0)), (5, .int (iZ i))]) hx hb dX10_letters_78 rfl hl (by decide) rfl (fun ls hl => ?_)
                  refine z_iinc (lv' := [(5, .int (iZ (i + 1))), (3, .int (iZ (q + 0))), (4, .int (iZ 1)), (6, .int (iZ (byt w0 i))), (0, .ref hm), (1, .long (lZ w0))]) hx hb dX10_letters_79 hl (k := 5) rfl (by decide) rfl (fun ls hl => ?_)
                  refine lv_goto (tgt := 8) hx hb dX10_letters_82 (by decide) ?_
                  exact ih8 (i + 1) (q + 0) 1 (by first | assumption | omega) (by rw [cntB_s (by omega)]; (first | rw [if_pos (by assumption)] | rw [if_neg (by assumption)]); omega) (by first | assumption | omega) (by first | assumption | omega) (by exact okB_s hok ⟨by omega, by first | (left; assumption) | (right; omega)⟩) (by omega) _ _ _ hP hD hS (lv_sub hl [4, 5, 1, 2, 0] rfl)
              · refine lv_iload hx hb dX10_letters_54 (lv_at hl 0 rfl) ?_
                refine z_if_ne (tgt := 63) hx hb dX10_letters_56 (by decide) (by first | assumption | omega) (fun c_56 => ?_) (fun c_56 => ?_)
                · refine lv_iconst (v := iZ 0) hx hb dX10_letters_63 (by decide) ?_
                  refine lv_istore (lv' := [(4, .int (iZ 0)), (6, .int (iZ (byt w0 i))), (0, .ref hm), (1, .long (lZ w0)), (3, .int (iZ q)), (5, .int (iZ i))]) hx hb dX10_letters_64 hl (by decide) rfl (fun ls hl => ?_)
                  refine lv_iload_n hx hb dX10_letters_66 rfl (lv_at hl 4 rfl) ?_
                  refine lv_iload hx hb dX10_letters_67 (lv_at hl 1 rfl) ?_
                  refine z_if_ne (tgt := 76) hx hb dX10_letters_69 (by decide) (by first | assumption | omega) (fun c_69 => ?_) (fun c_69 => ?_)
                  · refine lv_iconst (v := iZ 1) hx hb dX10_letters_76 (by decide) ?_
                    refine z_iadd hx hb dX10_letters_77 ?_
                    refine lv_istore_n (lv' := [(3, .int (iZ (q + 1))), (4, .int (iZ 0)), (6, .int (iZ (byt w0 i))), (0, .ref hm), (1, .long (lZ w0)), (5, .int (iZ i))]) hx hb dX10_letters_78 rfl hl (by decide) rfl (fun ls hl => ?_)
                    refine z_iinc (lv' := [(5, .int (iZ (i + 1))), (3, .int (iZ (q + 1))), (4, .int (iZ 0)), (6, .int (iZ (byt w0 i))), (0, .ref hm), (1, .long (lZ w0))]) hx hb dX10_letters_79 hl (k := 5) rfl (by decide) rfl (fun ls hl => ?_)
                    refine lv_goto (tgt := 8) hx hb dX10_letters_82 (by decide) ?_
                    exact ih8 (i + 1) (q + 1) 0 (by first | assumption | omega) (by rw [cntB_s (by omega)]; (first | rw [if_pos (by assumption)] | rw [if_neg (by assumption)]); omega) (by first | assumption | omega) (by first | assumption | omega) (by exact okB_s hok ⟨by omega, by first | (left; assumption) | (right; omega)⟩) (by omega) _ _ _ hP hD hS (lv_sub hl [4, 5, 1, 2, 0] rfl)
                  · refine lv_iconst (v := iZ 0) hx hb dX10_letters_72 (by decide) ?_
                    refine lv_goto (tgt := 77) hx hb dX10_letters_73 (by decide) ?_
                    refine z_iadd hx hb dX10_letters_77 ?_
                    refine lv_istore_n (lv' := [(3, .int (iZ (q + 0))), (4, .int (iZ 0)), (6, .int (iZ (byt w0 i))), (0, .ref hm), (1, .long (lZ w0)), (5, .int (iZ i))]) hx hb dX10_letters_78 rfl hl (by decide) rfl (fun ls hl => ?_)
                    refine z_iinc (lv' := [(5, .int (iZ (i + 1))), (3, .int (iZ (q + 0))), (4, .int (iZ 0)), (6, .int (iZ (byt w0 i))), (0, .ref hm), (1, .long (lZ w0))]) hx hb dX10_letters_79 hl (k := 5) rfl (by decide) rfl (fun ls hl => ?_)
                    refine lv_goto (tgt := 8) hx hb dX10_letters_82 (by decide) ?_
                    exact ih8 (i + 1) (q + 0) 0 (by first | assumption | omega) (by rw [cntB_s (by omega)]; (first | rw [if_pos (by assumption)] | rw [if_neg (by assumption)]); omega) (by first | assumption | omega) (by first | assumption | omega) (by exact okB_s hok ⟨by omega, by first | (left; assumption) | (right; omega)⟩) (by omega) _ _ _ hP hD hS (lv_sub hl [4, 5, 1, 2, 0] rfl)
                · refine lv_iconst (v := iZ 1) hx hb dX10_letters_59 (by decide) ?_
                  refine lv_goto (tgt := 64) hx hb dX10_letters_60 (by decide) ?_
                  refine lv_istore (lv' := [(4, .int (iZ 1)), (6, .int (iZ (byt w0 i))), (0, .ref hm), (1, .long (lZ w0)), (3, .int (iZ q)), (5, .int (iZ i))]) hx hb dX10_letters_64 hl (by decide) rfl (fun ls hl => ?_)
                  refine lv_iload_n hx hb dX10_letters_66 rfl (lv_at hl 4 rfl) ?_
                  refine lv_iload hx hb dX10_letters_67 (lv_at hl 1 rfl) ?_
                  refine z_if_ne (tgt := 76) hx hb dX10_letters_69 (by decide) (by first | assumption | omega) (fun c_69 => ?_) (fun c_69 => ?_)
                  · refine lv_iconst (v := iZ 1) hx hb dX10_letters_76 (by decide) ?_
                    refine z_iadd hx hb dX10_letters_77 ?_
                    refine lv_istore_n (lv' := [(3, .int (iZ (q + 1))), (4, .int (iZ 1)), (6, .int (iZ (byt w0 i))), (0, .ref hm), (1, .long (lZ w0)), (5, .int (iZ i))]) hx hb dX10_letters_78 rfl hl (by decide) rfl (fun ls hl => ?_)
                    refine z_iinc (lv' := [(5, .int (iZ (i + 1))), (3, .int (iZ (q + 1))), (4, .int (iZ 1)), (6, .int (iZ (byt w0 i))), (0, .ref hm), (1, .long (lZ w0))]) hx hb dX10_letters_79 hl (k := 5) rfl (by decide) rfl (fun ls hl => ?_)
                    refine lv_goto (tgt := 8) hx hb dX10_letters_82 (by decide) ?_
                    exact ih8 (i + 1) (q + 1) 1 (by first | assumption | omega) (by rw [cntB_s (by omega)]; (first | rw [if_pos (by assumption)] | rw [if_neg (by assumption)]); omega) (by first | assumption | omega) (by first | assumption | omega) (by exact okB_s hok ⟨by omega, by first | (left; assumption) | (right; omega)⟩) (by omega) _ _ _ hP hD hS (lv_sub hl [4, 5, 1, 2, 0] rfl)
                  · refine lv_iconst (v := iZ 0) hx hb dX10_letters_72 (by decide) ?_
                    refine lv_goto (tgt := 77) hx hb dX10_letters_73 (by decide) ?_
                    refine z_iadd hx hb dX10_letters_77 ?_
                    refine lv_istore_n (lv' := [(3, .int (iZ (q + 0))), (4, .int (iZ 1)), (6, .int (iZ (byt w0 i))), (0, .ref hm), (1, .long (lZ w0)), (5, .int (iZ i))]) hx hb dX10_letters_78 rfl hl (by decide) rfl (fun ls hl => ?_)
                    refine z_iinc (lv' := [(5, .int (iZ (i + 1))), (3, .int (iZ (q + 0))), (4, .int (iZ 1)), (6, .int (iZ (byt w0 i))), (0, .ref hm), (1, .long (lZ w0))]) hx hb dX10_letters_79 hl (k := 5) rfl (by decide) rfl (fun ls hl => ?_)
                    refine lv_goto (tgt := 8) hx hb dX10_letters_82 (by decide) ?_
                    exact ih8 (i + 1) (q + 0) 1 (by first | assumption | omega) (by rw [cntB_s (by omega)]; (first | rw [if_pos (by assumption)] | rw [if_neg (by assumption)]); omega) (by first | assumption | omega) (by first | assumption | omega) (by exact okB_s hok ⟨by omega, by first | (left; assumption) | (right; omega)⟩) (by omega) _ _ _ hP hD hS (lv_sub hl [4, 5, 1, 2, 0] rfl)
            · refine lv_bipush (v := iZ (-102)) hx hb dX10_letters_46 (by decide) ?_
              exact z_iret hx hb hr hlocks hP hD hS dX10_letters_48 rfl (by exact Or.inl ⟨rfl, rfl, fun h => by have h1 := h i (by omega) (by omega); have h2 := h1.1; have h3 := h1.2; omega⟩)
  exact lp8 ((8 - 0 : Int) + 1).toNat 0 0 0 (by first | assumption | omega) (by rfl) (by first | assumption | omega) (by first | assumption | omega) (by intro j h0 h1; omega) (by omega) _ _ _ hP hD hS (lv_sub hl [3, 4, 2, 1, 0] rfl)
theorem qX10_blank : yX10_blank.cls ≠ "java/lang/invoke/MethodHandle" ∧ yX10_blank.cls ≠ "java/lang/invoke/VarHandle" ∧ (parseMethodDescriptor yX10_blank.desc).map (fun d => d.parameters.length) = some 0 := by decide +kernel
set_option maxHeartbeats 4000000 in
set_option maxRecDepth 100000 in
theorem c_X10_blank (l : Launch) (D : va_G) (cI cJ cB : ClassId) (hm : Nat) (a : Nat → Nat) (st lw tl wk pe ch pl fa iw nm qe sd ik kp hh : Int) : zMi l yX10_blank wsX10_blank (zRm 0 0) D (zT cI cJ cB) [.ref hm] [(hm, ob 10 (mo a st lw tl wk pe ch pl fa iw nm qe sd ik kp hh))] (fun (z : Int) (w : va_W) => pl = z ∧ w = [(hm, ob 10 (mo a st lw tl wk pe ch 0 fa iw nm qe sd ik kp hh))]) := by
  refine z_of (Qc := fun A => zQi D [(hm, ob 10 (mo a st lw tl wk pe ch pl fa iw nm qe sd ik kp hh))] A _) (cc := cX10_blank) (maxL := 2) (ret := (some .int)) (by decide) rfl (Nat.le_of_ble_eq_true rfl) ?_
  intro p e s m below meth c A ls hx hb hr hts hown hlocks hml hK hP hD hS hA hl
  replace hown : s.vm.findClass RX10 = some m.cls := hown
  have hC : CallFix p m c cX10_blank 2 s _ wsX10_blank RX10 := ⟨hx, hb, hml, hown, hts⟩
  replace hl : lv_has ls 2 [(0, .ref hm)] := hl
  have iwX10 : ∀ w ∈ u_ws RX10 TX10 36, w ∈ wsX10_blank := fun w h => List.mem_cons_of_mem _ (List.mem_append_right _ h)
  have fl81 : Cond.fieldLink RX10 81 "GrowsByHalfModel" "pageLength" "I" ∈ wsX10_blank := by decide +kernel
  refine lv_aload_n hx hb dX10_blank_0 rfl (lv_at hl 0 rfl) ?_
  refine z_get (C := RX10) (T0 := TX10) (N := 36) (ci := 10) (v := .int (iZ pl)) hx hb hts hown hK hP iwX10 rfl 0 rfl 14 (by decide) fl81 rfl dX10_blank_1 ?_
  refine lv_istore_n (lv' := [(1, .int (iZ pl)), (0, .ref hm)]) hx hb dX10_blank_4 rfl hl (by decide) rfl (fun ls hl => ?_)
  refine lv_aload_n hx hb dX10_blank_5 rfl (lv_at hl 1 rfl) ?_
  refine lv_iconst (v := iZ 0) hx hb dX10_blank_6 (by decide) ?_
  refine z_put (C := RX10) (T0 := TX10) (N := 36) (ci := 10) (v := .int (iZ 0)) hx hb hts hown hK hP hD hS iwX10 tyX10_ok nmX10 rfl 0 rfl 14 (by decide) fl81 rfl rfl rfl (Nat.le_of_ble_eq_true rfl) dX10_blank_7 (fun H locs hP hD hS => ?_)
  replace hP : va_P D vwCl [(hm, ob 10 (mo a st lw tl wk pe ch 0 fa iw nm qe sd ik kp hh))] H := hP
  replace hD : va_D A [(hm, ob 10 (mo a st lw tl wk pe ch 0 fa iw nm qe sd ik kp hh))] := hD
  refine lv_iload_n hx hb dX10_blank_10 rfl (lv_at hl 0 rfl) ?_
  exact z_iret hx hb hr hlocks hP hD hS dX10_blank_11 rfl (by first | (exact ⟨(by first | rfl | omega), rfl⟩) | (exfalso; omega))
theorem qX10_readLaw : yX10_readLaw.cls ≠ "java/lang/invoke/MethodHandle" ∧ yX10_readLaw.cls ≠ "java/lang/invoke/VarHandle" ∧ (parseMethodDescriptor yX10_readLaw.desc).map (fun d => d.parameters.length) = some 0 := by decide +kernel
set_option maxHeartbeats 4000000 in
set_option maxRecDepth 100000 in
theorem c_X10_readLaw (l : Launch) (D : va_G) (cI cJ cB : ClassId) (hm : Nat) (a : Nat → Nat) (st lw tl wk pe ch pl fa iw nm qe sd ik kp hh : Int) (pg ns nu : Int → Int) (hpl : 0 ≤ pl ∧ pl ≤ 50) (hpg : ∀ j, 0 ≤ pg j ∧ pg j ≤ 126) : zMv l yX10_readLaw wsX10_readLaw (zRm 1 22) D (zT cI cJ cB) [.ref hm] [(hm, ob 10 (mo a st lw tl wk pe ch pl fa iw nm qe sd ik kp hh)), ((a 15), aI cB 50 pg), ((a 19), aI cI 4 ns), ((a 20), aI cI 4 nu)] (fun (w : va_W) => (∃ (x : Int) (ns2 nu2 : Int → Int), w = [(hm, ob 10 (mo a st lw tl wk pe ch pl x 1 (cntO pg pl.toNat) qe sd ik kp hh)), ((a 15), aI cB 50 pg), ((a 19), aI cI 4 ns2), ((a 20), aI cI 4 nu2)] ∧ LF pl pg x ∧ WL pl pg ∧ (∀ j, 0 ≤ j → j < cntO pg pl.toNat → ns2 j = soP pg pl j ∧ nu2 j = muP pg pl j)) ∨ (∃ (x n2 : Int) (ns2 nu2 : Int → Int), w = [(hm, ob 10 (mo a st lw tl wk pe ch pl x 0 n2 qe sd ik kp hh)), ((a 15), aI cB 50 pg), ((a 19), aI cI 4 ns2), ((a 20), aI cI 4 nu2)] ∧ LF pl pg x ∧ ¬ WL pl pg)) := by
  refine z_of (Qc := fun A => zQv D [(hm, ob 10 (mo a st lw tl wk pe ch pl fa iw nm qe sd ik kp hh)), ((a 15), aI cB 50 pg), ((a 19), aI cI 4 ns), ((a 20), aI cI 4 nu)] A _) (cc := cX10_readLaw) (maxL := 6) (ret := none) (by decide) rfl (Nat.le_of_ble_eq_true rfl) ?_
  intro p e s m below meth c A ls hx hb hr hts hown hlocks hml hK hP hD hS hA hl
  replace hown : s.vm.findClass RX10 = some m.cls := hown
  have hC : CallFix p m c cX10_readLaw 6 s _ wsX10_readLaw RX10 := ⟨hx, hb, hml, hown, hts⟩
  replace hl : lv_has ls 6 [(0, .ref hm)] := hl
  have iwX10 : ∀ w ∈ u_ws RX10 TX10 36, w ∈ wsX10_readLaw := fun w h => List.mem_cons_of_mem _ (List.mem_append_right _ h)
  have fl38 : Cond.fieldLink RX10 38 "GrowsByHalfModel" "page" "[B" ∈ wsX10_readLaw := by decide +kernel
  have fl42 : Cond.fieldLink RX10 42 "GrowsByHalfModel" "newStep" "[I" ∈ wsX10_readLaw := by decide +kernel
  have fl45 : Cond.fieldLink RX10 45 "GrowsByHalfModel" "newMuch" "[I" ∈ wsX10_readLaw := by decide +kernel
  have fl81 : Cond.fieldLink RX10 81 "GrowsByHalfModel" "pageLength" "I" ∈ wsX10_readLaw := by decide +kernel
  have fl84 : Cond.fieldLink RX10 84 "GrowsByHalfModel" "newMany" "I" ∈ wsX10_readLaw := by decide +kernel
  have fl95 : Cond.fieldLink RX10 95 "GrowsByHalfModel" "faultAt" "I" ∈ wsX10_readLaw := by decide +kernel
  have fl98 : Cond.fieldLink RX10 98 "GrowsByHalfModel" "isWhole" "Z" ∈ wsX10_readLaw := by decide +kernel
  refine lv_aload_n hx hb dX10_readLaw_0 rfl (lv_at hl 0 rfl) ?_
  refine lv_iconst (v := iZ 0) hx hb dX10_readLaw_1 (by decide) ?_
  refine z_put (C := RX10) (T0 := TX10) (N := 36) (ci := 10) (v := .int (iZ 0)) hx hb hts hown hK hP hD hS iwX10 tyX10_ok nmX10 rfl 0 rfl 18 (by decide) fl84 rfl rfl rfl (Nat.le_of_ble_eq_true rfl) dX10_readLaw_2 (fun H locs hP hD hS => ?_)
  replace hP : va_P D vwCl [(hm, ob 10 (mo a st lw tl wk pe ch pl fa iw 0 qe sd ik kp hh)), ((a 15), aI cB 50 pg), ((a 19), aI cI 4 ns), ((a 20), aI cI 4 nu)] H := hP
  replace hD : va_D A [(hm, ob 10 (mo a st lw tl wk pe ch pl fa iw 0 qe sd ik kp hh)), ((a 15), aI cB 50 pg), ((a 19), aI cI 4 ns), ((a 20), aI cI 4 nu)] := hD
  refine lv_iconst (v := iZ 0) hx hb dX10_readLaw_5 (by decide) ?_
  refine lv_istore_n (lv' := [(1, .int (iZ 0)), (0, .ref hm)]) hx hb dX10_readLaw_6 rfl hl (by decide) rfl (fun ls hl => ?_)
  refine lv_iconst (v := iZ 0) hx hb dX10_readLaw_7 (by decide) ?_
  refine lv_istore_n (lv' := [(2, .int (iZ 0)), (1, .int (iZ 0)), (0, .ref hm)]) hx hb dX10_readLaw_8 rfl hl (by decide) rfl (fun ls hl => ?_)
  refine lv_iconst (v := iZ 1) hx hb dX10_readLaw_9 (by decide) ?_
  refine lv_istore_n (lv' := [(3, .int (iZ 1)), (2, .int (iZ 0)), (1, .int (iZ 0)), (0, .ref hm)]) hx hb dX10_readLaw_10 rfl hl (by decide) rfl (fun ls hl => ?_)
  have lp11 : ∀ fuel : Nat, ∀ (i w g n1 : Int) (ns1 nu1 : Int → Int), (0 ≤ i ∧ i ≤ pl) → (g = 0 ∨ g = 1) → (g = 1 → qL pg pl i w n1 ns1 nu1) → (g = 0 → i < pl ∧ ¬ goodL pg i ∧ allL pg i) → (2 * (pl - i) + g) < (fuel : Int) → ∀ (H : Heap) (locs : List Loc) (ls : Array Slot), va_P D vwCl [(hm, ob 10 (mo a st lw tl wk pe ch pl fa iw n1 qe sd ik kp hh)), ((a 15), aI cB 50 pg), ((a 19), aI cI 4 ns1), ((a 20), aI cI 4 nu1)] H → va_D A [(hm, ob 10 (mo a st lw tl wk pe ch pl fa iw n1 qe sd ik kp hh)), ((a 15), aI cB 50 pg), ((a 19), aI cI 4 ns1), ((a 20), aI cI 4 nu1)] → va_S A s.heap H locs → lv_has ls 6 [(0, .ref hm), (1, .int (iZ w)), (2, .int (iZ i)), (3, .int (iZ g))] → W p l e (zRm 1 22) s m [.ref hm].toArray below meth c H locs 0 0 (MQ below (zQv D [(hm, ob 10 (mo a st lw tl wk pe ch pl fa iw nm qe sd ik kp hh)), ((a 15), aI cB 50 pg), ((a 19), aI cI 4 ns), ((a 20), aI cI 4 nu)] A (fun (w : va_W) => (∃ (x : Int) (ns2 nu2 : Int → Int), w = [(hm, ob 10 (mo a st lw tl wk pe ch pl x 1 (cntO pg pl.toNat) qe sd ik kp hh)), ((a 15), aI cB 50 pg), ((a 19), aI cI 4 ns2), ((a 20), aI cI 4 nu2)] ∧ LF pl pg x ∧ WL pl pg ∧ (∀ j, 0 ≤ j → j < cntO pg pl.toNat → ns2 j = soP pg pl j ∧ nu2 j = muP pg pl j)) ∨ (∃ (x n2 : Int) (ns2 nu2 : Int → Int), w = [(hm, ob 10 (mo a st lw tl wk pe ch pl x 0 n2 qe sd ik kp hh)), ((a 15), aI cB 50 pg), ((a 19), aI cI 4 ns2), ((a 20), aI cI 4 nu2)] ∧ LF pl pg x ∧ ¬ WL pl pg))) [.ref hm].toArray s 0 0 A) (F0 m 11 ls []) := by
    intro fuel
    induction fuel with
    | zero => intro i w g n1 ns1 nu1 hi hgg hrl hbad hmu11; exact absurd hmu11 (by omega)
    | succ fuel ih11 =>
      intro i w g n1 ns1 nu1 hi hgg hrl hbad hmu11 H locs ls hP hD hS hl
      refine lv_iload_n hx hb dX10_readLaw_11 rfl (lv_at hl 2 rfl) ?_
      refine lv_aload_n hx hb dX10_readLaw_12 rfl (lv_at hl 0 rfl) ?_
      refine z_get (C := RX10) (T0 := TX10) (N := 36) (ci := 10) (v := .int (iZ pl)) hx hb hts hown hK hP iwX10 rfl 0 rfl 14 (by decide) fl81 rfl dX10_readLaw_13 ?_
      refine z_icmp_ge (tgt := 205) hx hb dX10_readLaw_16 (by decide) (by first | assumption | omega) (by first | assumption | omega) (fun c_16 => ?_) (fun c_16 => ?_)
      · have hex : (i = pl ∧ qL pg pl pl w n1 ns1 nu1) ∨ (i < pl ∧ ¬ goodL pg i ∧ allL pg i) := by (by_cases h9 : i < pl); (exact Or.inr (hbad (by omega))); (have h8 : i = pl := by omega); (have h7 := hrl (by rcases hgg with q | q; exact absurd (hbad q).1 (by omega); exact q)); rw [h8] at h7; exact Or.inl ⟨h8, h7⟩
        have hLF : LF pl pg i := by (rcases hex with ⟨h8, h9⟩ | ⟨h8, h9, h10⟩); (rw [h8]; exact LF_all (by omega) h9.1); exact ⟨by omega, by omega, h10, fun _ => h9⟩
        refine lv_aload_n hx hb dX10_readLaw_205 rfl (lv_at hl 0 rfl) ?_
        refine lv_iload_n hx hb dX10_readLaw_206 rfl (lv_at hl 2 rfl) ?_
        refine z_put (C := RX10) (T0 := TX10) (N := 36) (ci := 10) (v := .int (iZ i)) hx hb hts hown hK hP hD hS iwX10 tyX10_ok nmX10 rfl 0 rfl 16 (by decide) fl95 rfl rfl rfl (Nat.le_of_ble_eq_true rfl) dX10_readLaw_207 (fun H locs hP hD hS => ?_)
        replace hP : va_P D vwCl [(hm, ob 10 (mo a st lw tl wk pe ch pl i iw n1 qe sd ik kp hh)), ((a 15), aI cB 50 pg), ((a 19), aI cI 4 ns1), ((a 20), aI cI 4 nu1)] H := hP
        replace hD : va_D A [(hm, ob 10 (mo a st lw tl wk pe ch pl i iw n1 qe sd ik kp hh)), ((a 15), aI cB 50 pg), ((a 19), aI cI 4 ns1), ((a 20), aI cI 4 nu1)] := hD
        refine lv_aload_n hx hb dX10_readLaw_210 rfl (lv_at hl 0 rfl) ?_
        refine lv_iload_n hx hb dX10_readLaw_211 rfl (lv_at hl 2 rfl) ?_
        refine lv_aload_n hx hb dX10_readLaw_212 rfl (lv_at hl 0 rfl) ?_
        refine z_get (C := RX10) (T0 := TX10) (N := 36) (ci := 10) (v := .int (iZ pl)) hx hb hts hown hK hP iwX10 rfl 0 rfl 14 (by decide) fl81 rfl dX10_readLaw_213 ?_
        refine z_icmp_ne (tgt := 234) hx hb dX10_readLaw_216 (by decide) (by first | assumption | omega) (by first | assumption | omega) (fun c_216 => ?_) (fun c_216 => ?_)
        · have hNN : ¬ WL pl pg := by (rcases hex with ⟨h8, h9⟩ | ⟨h8, h9, h10⟩); (exact qL_not h9 (by omega) (by omega)); exact bad_WL (by omega) h8 h9
          refine lv_iconst (v := iZ 0) hx hb dX10_readLaw_234 (by decide) ?_
          refine z_put (C := RX10) (T0 := TX10) (N := 36) (ci := 10) (v := .int (iZ 0)) hx hb hts hown hK hP hD hS iwX10 tyX10_ok nmX10 rfl 0 rfl 17 (by decide) fl98 rfl rfl rfl (Nat.le_of_ble_eq_true rfl) dX10_readLaw_235 (fun H locs hP hD hS => ?_)
          replace hP : va_P D vwCl [(hm, ob 10 (mo a st lw tl wk pe ch pl i 0 n1 qe sd ik kp hh)), ((a 15), aI cB 50 pg), ((a 19), aI cI 4 ns1), ((a 20), aI cI 4 nu1)] H := hP
          replace hD : va_D A [(hm, ob 10 (mo a st lw tl wk pe ch pl i 0 n1 qe sd ik kp hh)), ((a 15), aI cB 50 pg), ((a 19), aI cI 4 ns1), ((a 20), aI cI 4 nu1)] := hD
          exact z_vret hx hb hr hlocks hP hD hS dX10_readLaw_238 rfl (by first | exact Or.inl ⟨i, ns1, nu1, (by rw [← hNN.2.1]), hLF, hNN.1, hNN.2.2⟩ | exact Or.inr ⟨i, n1, ns1, nu1, rfl, hLF, hNN⟩)
        · refine lv_iload_n hx hb dX10_readLaw_219 rfl (lv_at hl 1 rfl) ?_
          refine z_if_ne (tgt := 234) hx hb dX10_readLaw_220 (by decide) (by first | assumption | omega) (fun c_220 => ?_) (fun c_220 => ?_)
          · have hNN : ¬ WL pl pg := by (rcases hex with ⟨h8, h9⟩ | ⟨h8, h9, h10⟩); (exact qL_not h9 (by omega) (by omega)); exact bad_WL (by omega) h8 h9
            refine lv_iconst (v := iZ 0) hx hb dX10_readLaw_234 (by decide) ?_
            refine z_put (C := RX10) (T0 := TX10) (N := 36) (ci := 10) (v := .int (iZ 0)) hx hb hts hown hK hP hD hS iwX10 tyX10_ok nmX10 rfl 0 rfl 17 (by decide) fl98 rfl rfl rfl (Nat.le_of_ble_eq_true rfl) dX10_readLaw_235 (fun H locs hP hD hS => ?_)
            replace hP : va_P D vwCl [(hm, ob 10 (mo a st lw tl wk pe ch pl i 0 n1 qe sd ik kp hh)), ((a 15), aI cB 50 pg), ((a 19), aI cI 4 ns1), ((a 20), aI cI 4 nu1)] H := hP
            replace hD : va_D A [(hm, ob 10 (mo a st lw tl wk pe ch pl i 0 n1 qe sd ik kp hh)), ((a 15), aI cB 50 pg), ((a 19), aI cI 4 ns1), ((a 20), aI cI 4 nu1)] := hD
            exact z_vret hx hb hr hlocks hP hD hS dX10_readLaw_238 rfl (by first | exact Or.inl ⟨i, ns1, nu1, (by rw [← hNN.2.1]), hLF, hNN.1, hNN.2.2⟩ | exact Or.inr ⟨i, n1, ns1, nu1, rfl, hLF, hNN⟩)
          · have hn9 : 0 ≤ n1 ∧ n1 ≤ 4 := by (rcases hex with ⟨h8, h9⟩ | ⟨h8, h9⟩); (have h7 := qL_n h9 (by omega)); omega; omega
            refine lv_aload_n hx hb dX10_readLaw_223 rfl (lv_at hl 0 rfl) ?_
            refine z_get (C := RX10) (T0 := TX10) (N := 36) (ci := 10) (v := .int (iZ n1)) hx hb hts hown hK hP iwX10 rfl 0 rfl 18 (by decide) fl84 rfl dX10_readLaw_224 ?_
            refine z_if_le (tgt := 234) hx hb dX10_readLaw_227 (by decide) (by first | assumption | omega) (fun c_227 => ?_) (fun c_227 => ?_)
            · have hNN : ¬ WL pl pg := by (rcases hex with ⟨h8, h9⟩ | ⟨h8, h9, h10⟩); (exact qL_not h9 (by omega) (by omega)); exact bad_WL (by omega) h8 h9
              refine lv_iconst (v := iZ 0) hx hb dX10_readLaw_234 (by decide) ?_
              refine z_put (C := RX10) (T0 := TX10) (N := 36) (ci := 10) (v := .int (iZ 0)) hx hb hts hown hK hP hD hS iwX10 tyX10_ok nmX10 rfl 0 rfl 17 (by decide) fl98 rfl rfl rfl (Nat.le_of_ble_eq_true rfl) dX10_readLaw_235 (fun H locs hP hD hS => ?_)
              replace hP : va_P D vwCl [(hm, ob 10 (mo a st lw tl wk pe ch pl i 0 n1 qe sd ik kp hh)), ((a 15), aI cB 50 pg), ((a 19), aI cI 4 ns1), ((a 20), aI cI 4 nu1)] H := hP
              replace hD : va_D A [(hm, ob 10 (mo a st lw tl wk pe ch pl i 0 n1 qe sd ik kp hh)), ((a 15), aI cB 50 pg), ((a 19), aI cI 4 ns1), ((a 20), aI cI 4 nu1)] := hD
              exact z_vret hx hb hr hlocks hP hD hS dX10_readLaw_238 rfl (by first | exact Or.inl ⟨i, ns1, nu1, (by rw [← hNN.2.1]), hLF, hNN.1, hNN.2.2⟩ | exact Or.inr ⟨i, n1, ns1, nu1, rfl, hLF, hNN⟩)
            · have hNN : WL pl pg ∧ n1 = cntO pg pl.toNat ∧ (∀ j, 0 ≤ j → j < cntO pg pl.toNat → ns1 j = soP pg pl j ∧ nu1 j = muP pg pl j) := by (rcases hex with ⟨h8, h9⟩ | ⟨h8, h9, h10⟩); (exact qL_whole h9 (by omega) (by omega) (by omega)); (exfalso; omega)
              refine lv_iconst (v := iZ 1) hx hb dX10_readLaw_230 (by decide) ?_
              refine lv_goto (tgt := 235) hx hb dX10_readLaw_231 (by decide) ?_
              refine z_put (C := RX10) (T0 := TX10) (N := 36) (ci := 10) (v := .int (iZ 1)) hx hb hts hown hK hP hD hS iwX10 tyX10_ok nmX10 rfl 0 rfl 17 (by decide) fl98 rfl rfl rfl (Nat.le_of_ble_eq_true rfl) dX10_readLaw_235 (fun H locs hP hD hS => ?_)
              replace hP : va_P D vwCl [(hm, ob 10 (mo a st lw tl wk pe ch pl i 1 n1 qe sd ik kp hh)), ((a 15), aI cB 50 pg), ((a 19), aI cI 4 ns1), ((a 20), aI cI 4 nu1)] H := hP
              replace hD : va_D A [(hm, ob 10 (mo a st lw tl wk pe ch pl i 1 n1 qe sd ik kp hh)), ((a 15), aI cB 50 pg), ((a 19), aI cI 4 ns1), ((a 20), aI cI 4 nu1)] := hD
              exact z_vret hx hb hr hlocks hP hD hS dX10_readLaw_238 rfl (by first | exact Or.inl ⟨i, ns1, nu1, (by rw [← hNN.2.1]), hLF, hNN.1, hNN.2.2⟩ | exact Or.inr ⟨i, n1, ns1, nu1, rfl, hLF, hNN⟩)
      · refine lv_iload_n hx hb dX10_readLaw_19 rfl (lv_at hl 3 rfl) ?_
        refine z_if_eq (tgt := 205) hx hb dX10_readLaw_20 (by decide) (by first | assumption | omega) (fun c_20 => ?_) (fun c_20 => ?_)
        · have hex : (i = pl ∧ qL pg pl pl w n1 ns1 nu1) ∨ (i < pl ∧ ¬ goodL pg i ∧ allL pg i) := by (by_cases h9 : i < pl); (exact Or.inr (hbad (by omega))); (have h8 : i = pl := by omega); (have h7 := hrl (by rcases hgg with q | q; exact absurd (hbad q).1 (by omega); exact q)); rw [h8] at h7; exact Or.inl ⟨h8, h7⟩
          have hLF : LF pl pg i := by (rcases hex with ⟨h8, h9⟩ | ⟨h8, h9, h10⟩); (rw [h8]; exact LF_all (by omega) h9.1); exact ⟨by omega, by omega, h10, fun _ => h9⟩
          refine lv_aload_n hx hb dX10_readLaw_205 rfl (lv_at hl 0 rfl) ?_
          refine lv_iload_n hx hb dX10_readLaw_206 rfl (lv_at hl 2 rfl) ?_
          refine z_put (C := RX10) (T0 := TX10) (N := 36) (ci := 10) (v := .int (iZ i)) hx hb hts hown hK hP hD hS iwX10 tyX10_ok nmX10 rfl 0 rfl 16 (by decide) fl95 rfl rfl rfl (Nat.le_of_ble_eq_true rfl) dX10_readLaw_207 (fun H locs hP hD hS => ?_)
          replace hP : va_P D vwCl [(hm, ob 10 (mo a st lw tl wk pe ch pl i iw n1 qe sd ik kp hh)), ((a 15), aI cB 50 pg), ((a 19), aI cI 4 ns1), ((a 20), aI cI 4 nu1)] H := hP
          replace hD : va_D A [(hm, ob 10 (mo a st lw tl wk pe ch pl i iw n1 qe sd ik kp hh)), ((a 15), aI cB 50 pg), ((a 19), aI cI 4 ns1), ((a 20), aI cI 4 nu1)] := hD
          refine lv_aload_n hx hb dX10_readLaw_210 rfl (lv_at hl 0 rfl) ?_
          refine lv_iload_n hx hb dX10_readLaw_211 rfl (lv_at hl 2 rfl) ?_
          refine lv_aload_n hx hb dX10_readLaw_212 rfl (lv_at hl 0 rfl) ?_
          refine z_get (C := RX10) (T0 := TX10) (N := 36) (ci := 10) (v := .int (iZ pl)) hx hb hts hown hK hP iwX10 rfl 0 rfl 14 (by decide) fl81 rfl dX10_readLaw_213 ?_
          refine z_icmp_ne (tgt := 234) hx hb dX10_readLaw_216 (by decide) (by first | assumption | omega) (by first | assumption | omega) (fun c_216 => ?_) (fun c_216 => ?_)
          · have hNN : ¬ WL pl pg := by (rcases hex with ⟨h8, h9⟩ | ⟨h8, h9, h10⟩); (exact qL_not h9 (by omega) (by omega)); exact bad_WL (by omega) h8 h9
            refine lv_iconst (v := iZ 0) hx hb dX10_readLaw_234 (by decide) ?_
            refine z_put (C := RX10) (T0 := TX10) (N := 36) (ci := 10) (v := .int (iZ 0)) hx hb hts hown hK hP hD hS iwX10 tyX10_ok nmX10 rfl 0 rfl 17 (by decide) fl98 rfl rfl rfl (Nat.le_of_ble_eq_true rfl) dX10_readLaw_235 (fun H locs hP hD hS => ?_)
            replace hP : va_P D vwCl [(hm, ob 10 (mo a st lw tl wk pe ch pl i 0 n1 qe sd ik kp hh)), ((a 15), aI cB 50 pg), ((a 19), aI cI 4 ns1), ((a 20), aI cI 4 nu1)] H := hP
            replace hD : va_D A [(hm, ob 10 (mo a st lw tl wk pe ch pl i 0 n1 qe sd ik kp hh)), ((a 15), aI cB 50 pg), ((a 19), aI cI 4 ns1), ((a 20), aI cI 4 nu1)] := hD
            exact z_vret hx hb hr hlocks hP hD hS dX10_readLaw_238 rfl (by first | exact Or.inl ⟨i, ns1, nu1, (by rw [← hNN.2.1]), hLF, hNN.1, hNN.2.2⟩ | exact Or.inr ⟨i, n1, ns1, nu1, rfl, hLF, hNN⟩)
          · refine lv_iload_n hx hb dX10_readLaw_219 rfl (lv_at hl 1 rfl) ?_
            refine z_if_ne (tgt := 234) hx hb dX10_readLaw_220 (by decide) (by first | assumption | omega) (fun c_220 => ?_) (fun c_220 => ?_)
            · have hNN : ¬ WL pl pg := by (rcases hex with ⟨h8, h9⟩ | ⟨h8, h9, h10⟩); (exact qL_not h9 (by omega) (by omega)); exact bad_WL (by omega) h8 h9
              refine lv_iconst (v := iZ 0) hx hb dX10_readLaw_234 (by decide) ?_
              refine z_put (C := RX10) (T0 := TX10) (N := 36) (ci := 10) (v := .int (iZ 0)) hx hb hts hown hK hP hD hS iwX10 tyX10_ok nmX10 rfl 0 rfl 17 (by decide) fl98 rfl rfl rfl (Nat.le_of_ble_eq_true rfl) dX10_readLaw_235 (fun H locs hP hD hS => ?_)
              replace hP : va_P D vwCl [(hm, ob 10 (mo a st lw tl wk pe ch pl i 0 n1 qe sd ik kp hh)), ((a 15), aI cB 50 pg), ((a 19), aI cI 4 ns1), ((a 20), aI cI 4 nu1)] H := hP
              replace hD : va_D A [(hm, ob 10 (mo a st lw tl wk pe ch pl i 0 n1 qe sd ik kp hh)), ((a 15), aI cB 50 pg), ((a 19), aI cI 4 ns1), ((a 20), aI cI 4 nu1)] := hD
              exact z_vret hx hb hr hlocks hP hD hS dX10_readLaw_238 rfl (by first | exact Or.inl ⟨i, ns1, nu1, (by rw [← hNN.2.1]), hLF, hNN.1, hNN.2.2⟩ | exact Or.inr ⟨i, n1, ns1, nu1, rfl, hLF, hNN⟩)
            · have hn9 : 0 ≤ n1 ∧ n1 ≤ 4 := by (rcases hex with ⟨h8, h9⟩ | ⟨h8, h9⟩); (have h7 := qL_n h9 (by omega)); omega; omega
              refine lv_aload_n hx hb dX10_readLaw_223 rfl (lv_at hl 0 rfl) ?_
              refine z_get (C := RX10) (T0 := TX10) (N := 36) (ci := 10) (v := .int (iZ n1)) hx hb hts hown hK hP iwX10 rfl 0 rfl 18 (by decide) fl84 rfl dX10_readLaw_224 ?_
              refine z_if_le (tgt := 234) hx hb dX10_readLaw_227 (by decide) (by first | assumption | omega) (fun c_227 => ?_) (fun c_227 => ?_)
              · have hNN : ¬ WL pl pg := by (rcases hex with ⟨h8, h9⟩ | ⟨h8, h9, h10⟩); (exact qL_not h9 (by omega) (by omega)); exact bad_WL (by omega) h8 h9
                refine lv_iconst (v := iZ 0) hx hb dX10_readLaw_234 (by decide) ?_
                refine z_put (C := RX10) (T0 := TX10) (N := 36) (ci := 10) (v := .int (iZ 0)) hx hb hts hown hK hP hD hS iwX10 tyX10_ok nmX10 rfl 0 rfl 17 (by decide) fl98 rfl rfl rfl (Nat.le_of_ble_eq_true rfl) dX10_readLaw_235 (fun H locs hP hD hS => ?_)
                replace hP : va_P D vwCl [(hm, ob 10 (mo a st lw tl wk pe ch pl i 0 n1 qe sd ik kp hh)), ((a 15), aI cB 50 pg), ((a 19), aI cI 4 ns1), ((a 20), aI cI 4 nu1)] H := hP
                replace hD : va_D A [(hm, ob 10 (mo a st lw tl wk pe ch pl i 0 n1 qe sd ik kp hh)), ((a 15), aI cB 50 pg), ((a 19), aI cI 4 ns1), ((a 20), aI cI 4 nu1)] := hD
                exact z_vret hx hb hr hlocks hP hD hS dX10_readLaw_238 rfl (by first | exact Or.inl ⟨i, ns1, nu1, (by rw [← hNN.2.1]), hLF, hNN.1, hNN.2.2⟩ | exact Or.inr ⟨i, n1, ns1, nu1, rfl, hLF, hNN⟩)
              · have hNN : WL pl pg ∧ n1 = cntO pg pl.toNat ∧ (∀ j, 0 ≤ j → j < cntO pg pl.toNat → ns1 j = soP pg pl j ∧ nu1 j = muP pg pl j) := by (rcases hex with ⟨h8, h9⟩ | ⟨h8, h9, h10⟩); (exact qL_whole h9 (by omega) (by omega) (by omega)); (exfalso; omega)
                refine lv_iconst (v := iZ 1) hx hb dX10_readLaw_230 (by decide) ?_
                refine lv_goto (tgt := 235) hx hb dX10_readLaw_231 (by decide) ?_
                refine z_put (C := RX10) (T0 := TX10) (N := 36) (ci := 10) (v := .int (iZ 1)) hx hb hts hown hK hP hD hS iwX10 tyX10_ok nmX10 rfl 0 rfl 17 (by decide) fl98 rfl rfl rfl (Nat.le_of_ble_eq_true rfl) dX10_readLaw_235 (fun H locs hP hD hS => ?_)
                replace hP : va_P D vwCl [(hm, ob 10 (mo a st lw tl wk pe ch pl i 1 n1 qe sd ik kp hh)), ((a 15), aI cB 50 pg), ((a 19), aI cI 4 ns1), ((a 20), aI cI 4 nu1)] H := hP
                replace hD : va_D A [(hm, ob 10 (mo a st lw tl wk pe ch pl i 1 n1 qe sd ik kp hh)), ((a 15), aI cB 50 pg), ((a 19), aI cI 4 ns1), ((a 20), aI cI 4 nu1)] := hD
                exact z_vret hx hb hr hlocks hP hD hS dX10_readLaw_238 rfl (by first | exact Or.inl ⟨i, ns1, nu1, (by rw [← hNN.2.1]), hLF, hNN.1, hNN.2.2⟩ | exact Or.inr ⟨i, n1, ns1, nu1, rfl, hLF, hNN⟩)
        · have hg1 : g = 1 := (by omega)
          have hr := hrl hg1
          have hrn := qL_n hr (by omega)
          have hpi := hpg i
          refine lv_aload_n hx hb dX10_readLaw_23 rfl (lv_at hl 0 rfl) ?_
          refine z_get (C := RX10) (T0 := TX10) (N := 36) (ci := 10) (v := .ref (a 15)) hx hb hts hown hK hP iwX10 rfl 0 rfl 15 (by decide) fl38 rfl dX10_readLaw_24 ?_
          refine lv_iload_n hx hb dX10_readLaw_27 rfl (lv_at hl 2 rfl) ?_
          refine z_bald hx hb hK hP 1 2 rfl rfl (by decide) (by first | assumption | omega) dX10_readLaw_28 ?_
          have rd_1 := hpg i
          refine lv_istore (lv' := [(4, .int (iZ (pg i))), (0, .ref hm), (1, .int (iZ w)), (2, .int (iZ i)), (3, .int (iZ g))]) hx hb dX10_readLaw_29 hl (by decide) rfl (fun ls hl => ?_)
          refine lv_iload_n hx hb dX10_readLaw_31 rfl (lv_at hl 2 rfl) ?_
          refine z_if_eq (tgt := 108) hx hb dX10_readLaw_32 (by decide) (by first | assumption | omega) (fun c_32 => ?_) (fun c_32 => ?_)
          · refine lv_iload hx hb dX10_readLaw_108 (lv_at hl 0 rfl) ?_
            refine z_Si (As := [.int (iZ (pg i))]) (rest := []) hC (c_X10_stepBy l D cI cJ cB (pg i) (by first | assumption | omega)) 1 gX10_readLaw_X10_stepBy rfl rfl rfl qX10_stepBy ⟨Nat.le_of_ble_eq_true rfl, Nat.le_of_ble_eq_true rfl⟩ ⟨Nat.le_refl _, Nat.le_refl _⟩ hK hP hD hS hA [] rfl (by decide) rfl hl.1 rfl (Nat.le_of_ble_eq_true rfl) dX10_readLaw_110 (fun z w H locs hq hP hD hS => ?_)
            rcases hq with ⟨rfl, rfl⟩
            replace hP : va_P D vwCl [(hm, ob 10 (mo a st lw tl wk pe ch pl fa iw n1 qe sd ik kp hh)), ((a 15), aI cB 50 pg), ((a 19), aI cI 4 ns1), ((a 20), aI cI 4 nu1)] H := hP
            replace hD : va_D A [(hm, ob 10 (mo a st lw tl wk pe ch pl fa iw n1 qe sd ik kp hh)), ((a 15), aI cB 50 pg), ((a 19), aI cI 4 ns1), ((a 20), aI cI 4 nu1)] := hD
            have hw0 : w = 0 := (by omega)
            rw [hw0] at hr
            have hrz := qL_z hr
            have hsf := sbf_f (pg i)
            refine lv_istore (lv' := [(5, .int (iZ (sbf (pg i)))), (4, .int (iZ (pg i))), (0, .ref hm), (1, .int (iZ w)), (2, .int (iZ i)), (3, .int (iZ g))]) hx hb dX10_readLaw_113 hl (by decide) rfl (fun ls hl => ?_)
            refine lv_iload hx hb dX10_readLaw_115 (lv_at hl 0 rfl) ?_
            refine lv_iconst (v := iZ (-1)) hx hb dX10_readLaw_117 (by decide) ?_
            refine z_icmp_eq (tgt := 133) hx hb dX10_readLaw_118 (by decide) (by first | assumption | omega) (by first | assumption | omega) (fun c_118 => ?_) (fun c_118 => ?_)
            · refine lv_iconst (v := iZ 0) hx hb dX10_readLaw_133 (by decide) ?_
              refine lv_istore_n (lv' := [(3, .int (iZ 0)), (5, .int (iZ (sbf (pg i)))), (4, .int (iZ (pg i))), (0, .ref hm), (1, .int (iZ w)), (2, .int (iZ i))]) hx hb dX10_readLaw_134 rfl hl (by decide) rfl (fun ls hl => ?_)
              refine lv_iload_n hx hb dX10_readLaw_135 rfl (lv_at hl 0 rfl) ?_
              refine z_if_eq (tgt := 190) hx hb dX10_readLaw_136 (by decide) (by first | assumption | omega) (fun _ => ?_) (fun h => absurd h (by decide))
              refine lv_iload_n hx hb dX10_readLaw_190 rfl (lv_at hl 5 rfl) ?_
              refine lv_iload_n hx hb dX10_readLaw_191 rfl (lv_at hl 0 rfl) ?_
              refine z_if_eq (tgt := 199) hx hb dX10_readLaw_192 (by decide) (by first | assumption | omega) (fun _ => ?_) (fun h => absurd h (by decide))
              refine lv_iconst (v := iZ 0) hx hb dX10_readLaw_199 (by decide) ?_
              refine z_iadd hx hb dX10_readLaw_200 ?_
              refine lv_istore_n (lv' := [(2, .int (iZ (i + 0))), (3, .int (iZ 0)), (5, .int (iZ (sbf (pg i)))), (4, .int (iZ (pg i))), (0, .ref hm), (1, .int (iZ w))]) hx hb dX10_readLaw_201 rfl hl (by decide) rfl (fun ls hl => ?_)
              refine lv_goto (tgt := 11) hx hb dX10_readLaw_202 (by decide) ?_
              exact ih11 (i + 0) w 0 n1 ns1 nu1 (by first | assumption | omega) (by first | exact Or.inl rfl | exact Or.inr rfl) (by first | (intro h9; exact absurd h9 (by decide)) | (intro _; first | (exact qL_a hr ⟨by omega, by omega⟩ (by unfold dgt; split <;> omega)) | (exact qL_b2 (w := 1) hr ⟨by omega, by omega⟩ (by omega) (by omega) (Or.inl ⟨rfl, by omega⟩) (by omega)) | (exact qL_b2 (w := 0) hr ⟨by omega, by omega⟩ (by omega) (by omega) (Or.inr ⟨rfl, by omega⟩) (by omega)))) (by first | (intro h9; exact absurd h9 (by decide)) | (intro _; rw [show i + 0 = i from by omega]; refine ⟨by omega, ?_, hr.1⟩; intro h8; rcases h8 with ⟨h7, h6⟩ | ⟨h7, h6, h5⟩; (first | omega | (unfold dgt at h6; split at h6 <;> omega)); (first | exact absurd h7 (by omega) | (first | omega | (have h4 := hrn.2.2.2.2; omega))))) (by omega) _ _ _ hP hD hS (lv_sub hl [4, 5, 0, 1] rfl)
            · refine lv_aload_n hx hb dX10_readLaw_121 rfl (lv_at hl 2 rfl) ?_
              refine z_get (C := RX10) (T0 := TX10) (N := 36) (ci := 10) (v := .int (iZ n1)) hx hb hts hown hK hP iwX10 rfl 0 rfl 18 (by decide) fl84 rfl dX10_readLaw_122 ?_
              refine lv_iconst (v := iZ 4) hx hb dX10_readLaw_125 (by decide) ?_
              refine z_icmp_ge (tgt := 133) hx hb dX10_readLaw_126 (by decide) (by first | assumption | omega) (by first | assumption | omega) (fun c_126 => ?_) (fun c_126 => ?_)
              · refine lv_iconst (v := iZ 0) hx hb dX10_readLaw_133 (by decide) ?_
                refine lv_istore_n (lv' := [(3, .int (iZ 0)), (5, .int (iZ (sbf (pg i)))), (4, .int (iZ (pg i))), (0, .ref hm), (1, .int (iZ w)), (2, .int (iZ i))]) hx hb dX10_readLaw_134 rfl hl (by decide) rfl (fun ls hl => ?_)
                refine lv_iload_n hx hb dX10_readLaw_135 rfl (lv_at hl 0 rfl) ?_
                refine z_if_eq (tgt := 190) hx hb dX10_readLaw_136 (by decide) (by first | assumption | omega) (fun _ => ?_) (fun h => absurd h (by decide))
                refine lv_iload_n hx hb dX10_readLaw_190 rfl (lv_at hl 5 rfl) ?_
                refine lv_iload_n hx hb dX10_readLaw_191 rfl (lv_at hl 0 rfl) ?_
                refine z_if_eq (tgt := 199) hx hb dX10_readLaw_192 (by decide) (by first | assumption | omega) (fun _ => ?_) (fun h => absurd h (by decide))
                refine lv_iconst (v := iZ 0) hx hb dX10_readLaw_199 (by decide) ?_
                refine z_iadd hx hb dX10_readLaw_200 ?_
                refine lv_istore_n (lv' := [(2, .int (iZ (i + 0))), (3, .int (iZ 0)), (5, .int (iZ (sbf (pg i)))), (4, .int (iZ (pg i))), (0, .ref hm), (1, .int (iZ w))]) hx hb dX10_readLaw_201 rfl hl (by decide) rfl (fun ls hl => ?_)
                refine lv_goto (tgt := 11) hx hb dX10_readLaw_202 (by decide) ?_
                exact ih11 (i + 0) w 0 n1 ns1 nu1 (by first | assumption | omega) (by first | exact Or.inl rfl | exact Or.inr rfl) (by first | (intro h9; exact absurd h9 (by decide)) | (intro _; first | (exact qL_a hr ⟨by omega, by omega⟩ (by unfold dgt; split <;> omega)) | (exact qL_b2 (w := 1) hr ⟨by omega, by omega⟩ (by omega) (by omega) (Or.inl ⟨rfl, by omega⟩) (by omega)) | (exact qL_b2 (w := 0) hr ⟨by omega, by omega⟩ (by omega) (by omega) (Or.inr ⟨rfl, by omega⟩) (by omega)))) (by first | (intro h9; exact absurd h9 (by decide)) | (intro _; rw [show i + 0 = i from by omega]; refine ⟨by omega, ?_, hr.1⟩; intro h8; rcases h8 with ⟨h7, h6⟩ | ⟨h7, h6, h5⟩; (first | omega | (unfold dgt at h6; split at h6 <;> omega)); (first | exact absurd h7 (by omega) | (first | omega | (have h4 := hrn.2.2.2.2; omega))))) (by omega) _ _ _ hP hD hS (lv_sub hl [4, 5, 0, 1] rfl)
              · refine lv_iconst (v := iZ 1) hx hb dX10_readLaw_129 (by decide) ?_
                refine lv_goto (tgt := 134) hx hb dX10_readLaw_130 (by decide) ?_
                refine lv_istore_n (lv' := [(3, .int (iZ 1)), (5, .int (iZ (sbf (pg i)))), (4, .int (iZ (pg i))), (0, .ref hm), (1, .int (iZ w)), (2, .int (iZ i))]) hx hb dX10_readLaw_134 rfl hl (by decide) rfl (fun ls hl => ?_)
                refine lv_iload_n hx hb dX10_readLaw_135 rfl (lv_at hl 0 rfl) ?_
                refine z_if_eq (tgt := 190) hx hb dX10_readLaw_136 (by decide) (by first | assumption | omega) (fun h => absurd h (by decide)) (fun _ => ?_)
                refine lv_aload_n hx hb dX10_readLaw_139 rfl (lv_at hl 3 rfl) ?_
                refine z_get (C := RX10) (T0 := TX10) (N := 36) (ci := 10) (v := .ref (a 19)) hx hb hts hown hK hP iwX10 rfl 0 rfl 19 (by decide) fl42 rfl dX10_readLaw_140 ?_
                refine lv_aload_n hx hb dX10_readLaw_143 rfl (lv_at hl 3 rfl) ?_
                refine z_get (C := RX10) (T0 := TX10) (N := 36) (ci := 10) (v := .int (iZ n1)) hx hb hts hown hK hP iwX10 rfl 0 rfl 18 (by decide) fl84 rfl dX10_readLaw_144 ?_
                refine lv_iload hx hb dX10_readLaw_147 (lv_at hl 1 rfl) ?_
                refine z_iast hx hb hK hP hD hS 2 0 rfl rfl (by decide) (by first | assumption | omega) dX10_readLaw_149 (fun H locs hP hD hS => ?_)
                replace hP : va_P D vwCl [(hm, ob 10 (mo a st lw tl wk pe ch pl fa iw n1 qe sd ik kp hh)), ((a 15), aI cB 50 pg), ((a 19), aI cI 4 (zu ns1 n1 (sbf (pg i)))), ((a 20), aI cI 4 nu1)] H := hP
                replace hD : va_D A [(hm, ob 10 (mo a st lw tl wk pe ch pl fa iw n1 qe sd ik kp hh)), ((a 15), aI cB 50 pg), ((a 19), aI cI 4 (zu ns1 n1 (sbf (pg i)))), ((a 20), aI cI 4 nu1)] := hD
                refine lv_aload_n hx hb dX10_readLaw_150 rfl (lv_at hl 3 rfl) ?_
                refine z_get (C := RX10) (T0 := TX10) (N := 36) (ci := 10) (v := .ref (a 20)) hx hb hts hown hK hP iwX10 rfl 0 rfl 20 (by decide) fl45 rfl dX10_readLaw_151 ?_
                refine lv_aload_n hx hb dX10_readLaw_154 rfl (lv_at hl 3 rfl) ?_
                refine z_get (C := RX10) (T0 := TX10) (N := 36) (ci := 10) (v := .int (iZ n1)) hx hb hts hown hK hP iwX10 rfl 0 rfl 18 (by decide) fl84 rfl dX10_readLaw_155 ?_
                refine lv_iconst (v := iZ 0) hx hb dX10_readLaw_158 (by decide) ?_
                refine z_iast hx hb hK hP hD hS 3 0 rfl rfl (by decide) (by first | assumption | omega) dX10_readLaw_159 (fun H locs hP hD hS => ?_)
                replace hP : va_P D vwCl [(hm, ob 10 (mo a st lw tl wk pe ch pl fa iw n1 qe sd ik kp hh)), ((a 15), aI cB 50 pg), ((a 19), aI cI 4 (zu ns1 n1 (sbf (pg i)))), ((a 20), aI cI 4 (zu nu1 n1 0))] H := hP
                replace hD : va_D A [(hm, ob 10 (mo a st lw tl wk pe ch pl fa iw n1 qe sd ik kp hh)), ((a 15), aI cB 50 pg), ((a 19), aI cI 4 (zu ns1 n1 (sbf (pg i)))), ((a 20), aI cI 4 (zu nu1 n1 0))] := hD
                refine lv_iload hx hb dX10_readLaw_160 (lv_at hl 1 rfl) ?_
                refine lv_iconst (v := iZ 1) hx hb dX10_readLaw_162 (by decide) ?_
                refine z_icmp_le (tgt := 170) hx hb dX10_readLaw_163 (by decide) (by first | assumption | omega) (by first | assumption | omega) (fun c_163 => ?_) (fun c_163 => ?_)
                · refine lv_iconst (v := iZ 0) hx hb dX10_readLaw_170 (by decide) ?_
                  refine lv_istore_n (lv' := [(1, .int (iZ 0)), (3, .int (iZ 1)), (5, .int (iZ (sbf (pg i)))), (4, .int (iZ (pg i))), (0, .ref hm), (2, .int (iZ i))]) hx hb dX10_readLaw_171 rfl hl (by decide) rfl (fun ls hl => ?_)
                  refine lv_aload_n hx hb dX10_readLaw_172 rfl (lv_at hl 4 rfl) ?_
                  refine lv_dup hx hb dX10_readLaw_173 rfl ?_
                  refine z_get (C := RX10) (T0 := TX10) (N := 36) (ci := 10) (v := .int (iZ n1)) hx hb hts hown hK hP iwX10 rfl 0 rfl 18 (by decide) fl84 rfl dX10_readLaw_174 ?_
                  refine lv_iload_n hx hb dX10_readLaw_177 rfl (lv_at hl 0 rfl) ?_
                  refine z_if_eq (tgt := 185) hx hb dX10_readLaw_178 (by decide) (by first | assumption | omega) (fun _ => ?_) (fun h => absurd h (by decide))
                  refine lv_iconst (v := iZ 1) hx hb dX10_readLaw_185 (by decide) ?_
                  refine z_iadd hx hb dX10_readLaw_186 ?_
                  refine z_put (C := RX10) (T0 := TX10) (N := 36) (ci := 10) (v := .int (iZ (n1 + 1))) hx hb hts hown hK hP hD hS iwX10 tyX10_ok nmX10 rfl 0 rfl 18 (by decide) fl84 rfl rfl rfl (Nat.le_of_ble_eq_true rfl) dX10_readLaw_187 (fun H locs hP hD hS => ?_)
                  replace hP : va_P D vwCl [(hm, ob 10 (mo a st lw tl wk pe ch pl fa iw (n1 + 1) qe sd ik kp hh)), ((a 15), aI cB 50 pg), ((a 19), aI cI 4 (zu ns1 n1 (sbf (pg i)))), ((a 20), aI cI 4 (zu nu1 n1 0))] H := hP
                  replace hD : va_D A [(hm, ob 10 (mo a st lw tl wk pe ch pl fa iw (n1 + 1) qe sd ik kp hh)), ((a 15), aI cB 50 pg), ((a 19), aI cI 4 (zu ns1 n1 (sbf (pg i)))), ((a 20), aI cI 4 (zu nu1 n1 0))] := hD
                  refine lv_iload_n hx hb dX10_readLaw_190 rfl (lv_at hl 5 rfl) ?_
                  refine lv_iload_n hx hb dX10_readLaw_191 rfl (lv_at hl 1 rfl) ?_
                  refine z_if_eq (tgt := 199) hx hb dX10_readLaw_192 (by decide) (by first | assumption | omega) (fun h => absurd h (by decide)) (fun _ => ?_)
                  refine lv_iconst (v := iZ 1) hx hb dX10_readLaw_195 (by decide) ?_
                  refine lv_goto (tgt := 200) hx hb dX10_readLaw_196 (by decide) ?_
                  refine z_iadd hx hb dX10_readLaw_200 ?_
                  refine lv_istore_n (lv' := [(2, .int (iZ (i + 1))), (1, .int (iZ 0)), (3, .int (iZ 1)), (5, .int (iZ (sbf (pg i)))), (4, .int (iZ (pg i))), (0, .ref hm)]) hx hb dX10_readLaw_201 rfl hl (by decide) rfl (fun ls hl => ?_)
                  refine lv_goto (tgt := 11) hx hb dX10_readLaw_202 (by decide) ?_
                  exact ih11 (i + 1) 0 1 (n1 + 1) (zu ns1 n1 (sbf (pg i))) (zu nu1 n1 0) (by first | assumption | omega) (by first | exact Or.inl rfl | exact Or.inr rfl) (by first | (intro h9; exact absurd h9 (by decide)) | (intro _; first | (exact qL_a hr ⟨by omega, by omega⟩ (by unfold dgt; split <;> omega)) | (exact qL_b2 (w := 1) hr ⟨by omega, by omega⟩ (by omega) (by omega) (Or.inl ⟨rfl, by omega⟩) (by omega)) | (exact qL_b2 (w := 0) hr ⟨by omega, by omega⟩ (by omega) (by omega) (Or.inr ⟨rfl, by omega⟩) (by omega)))) (by first | (intro h9; exact absurd h9 (by decide)) | (intro _; rw [show i + 0 = i from by omega]; refine ⟨by omega, ?_, hr.1⟩; intro h8; rcases h8 with ⟨h7, h6⟩ | ⟨h7, h6, h5⟩; (first | omega | (unfold dgt at h6; split at h6 <;> omega)); (first | exact absurd h7 (by omega) | (first | omega | (have h4 := hrn.2.2.2.2; omega))))) (by omega) _ _ _ hP hD hS (lv_sub hl [5, 1, 0, 2] rfl)
                · refine lv_iconst (v := iZ 1) hx hb dX10_readLaw_166 (by decide) ?_
                  refine lv_goto (tgt := 171) hx hb dX10_readLaw_167 (by decide) ?_
                  refine lv_istore_n (lv' := [(1, .int (iZ 1)), (3, .int (iZ 1)), (5, .int (iZ (sbf (pg i)))), (4, .int (iZ (pg i))), (0, .ref hm), (2, .int (iZ i))]) hx hb dX10_readLaw_171 rfl hl (by decide) rfl (fun ls hl => ?_)
                  refine lv_aload_n hx hb dX10_readLaw_172 rfl (lv_at hl 4 rfl) ?_
                  refine lv_dup hx hb dX10_readLaw_173 rfl ?_
                  refine z_get (C := RX10) (T0 := TX10) (N := 36) (ci := 10) (v := .int (iZ n1)) hx hb hts hown hK hP iwX10 rfl 0 rfl 18 (by decide) fl84 rfl dX10_readLaw_174 ?_
                  refine lv_iload_n hx hb dX10_readLaw_177 rfl (lv_at hl 0 rfl) ?_
                  refine z_if_eq (tgt := 185) hx hb dX10_readLaw_178 (by decide) (by first | assumption | omega) (fun h => absurd h (by decide)) (fun _ => ?_)
                  refine lv_iconst (v := iZ 0) hx hb dX10_readLaw_181 (by decide) ?_
                  refine lv_goto (tgt := 186) hx hb dX10_readLaw_182 (by decide) ?_
                  refine z_iadd hx hb dX10_readLaw_186 ?_
                  refine z_put (C := RX10) (T0 := TX10) (N := 36) (ci := 10) (v := .int (iZ (n1 + 0))) hx hb hts hown hK hP hD hS iwX10 tyX10_ok nmX10 rfl 0 rfl 18 (by decide) fl84 rfl rfl rfl (Nat.le_of_ble_eq_true rfl) dX10_readLaw_187 (fun H locs hP hD hS => ?_)
                  replace hP : va_P D vwCl [(hm, ob 10 (mo a st lw tl wk pe ch pl fa iw (n1 + 0) qe sd ik kp hh)), ((a 15), aI cB 50 pg), ((a 19), aI cI 4 (zu ns1 n1 (sbf (pg i)))), ((a 20), aI cI 4 (zu nu1 n1 0))] H := hP
                  replace hD : va_D A [(hm, ob 10 (mo a st lw tl wk pe ch pl fa iw (n1 + 0) qe sd ik kp hh)), ((a 15), aI cB 50 pg), ((a 19), aI cI 4 (zu ns1 n1 (sbf (pg i)))), ((a 20), aI cI 4 (zu nu1 n1 0))] := hD
                  refine lv_iload_n hx hb dX10_readLaw_190 rfl (lv_at hl 5 rfl) ?_
                  refine lv_iload_n hx hb dX10_readLaw_191 rfl (lv_at hl 1 rfl) ?_
                  refine z_if_eq (tgt := 199) hx hb dX10_readLaw_192 (by decide) (by first | assumption | omega) (fun h => absurd h (by decide)) (fun _ => ?_)
                  refine lv_iconst (v := iZ 1) hx hb dX10_readLaw_195 (by decide) ?_
                  refine lv_goto (tgt := 200) hx hb dX10_readLaw_196 (by decide) ?_
                  refine z_iadd hx hb dX10_readLaw_200 ?_
                  refine lv_istore_n (lv' := [(2, .int (iZ (i + 1))), (1, .int (iZ 1)), (3, .int (iZ 1)), (5, .int (iZ (sbf (pg i)))), (4, .int (iZ (pg i))), (0, .ref hm)]) hx hb dX10_readLaw_201 rfl hl (by decide) rfl (fun ls hl => ?_)
                  refine lv_goto (tgt := 11) hx hb dX10_readLaw_202 (by decide) ?_
                  exact ih11 (i + 1) 1 1 (n1 + 0) (zu ns1 n1 (sbf (pg i))) (zu nu1 n1 0) (by first | assumption | omega) (by first | exact Or.inl rfl | exact Or.inr rfl) (by first | (intro h9; exact absurd h9 (by decide)) | (intro _; first | (exact qL_a hr ⟨by omega, by omega⟩ (by unfold dgt; split <;> omega)) | (exact qL_b2 (w := 1) hr ⟨by omega, by omega⟩ (by omega) (by omega) (Or.inl ⟨rfl, by omega⟩) (by omega)) | (exact qL_b2 (w := 0) hr ⟨by omega, by omega⟩ (by omega) (by omega) (Or.inr ⟨rfl, by omega⟩) (by omega)))) (by first | (intro h9; exact absurd h9 (by decide)) | (intro _; rw [show i + 0 = i from by omega]; refine ⟨by omega, ?_, hr.1⟩; intro h8; rcases h8 with ⟨h7, h6⟩ | ⟨h7, h6, h5⟩; (first | omega | (unfold dgt at h6; split at h6 <;> omega)); (first | exact absurd h7 (by omega) | (first | omega | (have h4 := hrn.2.2.2.2; omega))))) (by omega) _ _ _ hP hD hS (lv_sub hl [5, 1, 0, 2] rfl)
          · refine lv_iload hx hb dX10_readLaw_35 (lv_at hl 0 rfl) ?_
            have hw1 : w = 1 := (by omega)
            rw [hw1] at hr
            have hrw := qL_w hr (by omega)
            have hsf := sbf_f (prv pg i)
            refine lv_aload_n hx hb dX10_readLaw_37 rfl (lv_at hl 1 rfl) ?_
            refine z_get (C := RX10) (T0 := TX10) (N := 36) (ci := 10) (v := .ref (a 19)) hx hb hts hown hK hP iwX10 rfl 0 rfl 19 (by decide) fl42 rfl dX10_readLaw_38 ?_
            refine lv_aload_n hx hb dX10_readLaw_41 rfl (lv_at hl 1 rfl) ?_
            refine z_get (C := RX10) (T0 := TX10) (N := 36) (ci := 10) (v := .int (iZ n1)) hx hb hts hown hK hP iwX10 rfl 0 rfl 18 (by decide) fl84 rfl dX10_readLaw_42 ?_
            refine z_iald hx hb hK hP 2 0 rfl rfl (by decide) (by first | assumption | omega) dX10_readLaw_45 ?_
            refine lv_iconst (v := iZ 4) hx hb dX10_readLaw_46 (by decide) ?_
            refine z_icmp_ne (tgt := 55) hx hb dX10_readLaw_47 (by decide) (by first | assumption | omega) (by first | assumption | omega) (fun c_47 => ?_) (fun c_47 => ?_)
            · refine lv_bipush (v := iZ 48) hx hb dX10_readLaw_55 (by decide) ?_
              refine lv_bipush (v := iZ 57) hx hb dX10_readLaw_57 (by decide) ?_
              refine z_Si (As := [.int (iZ (pg i)), .int (iZ 48), .int (iZ 57)]) (rest := []) hC (c_X10_within l D cI cJ cB (pg i) 48 57 (by first | assumption | omega) (by first | assumption | omega) (by omega)) 3 gX10_readLaw_X10_within rfl rfl rfl qX10_within ⟨Nat.le_of_ble_eq_true rfl, Nat.le_of_ble_eq_true rfl⟩ ⟨Nat.le_refl _, Nat.le_refl _⟩ hK hP hD hS hA [] rfl (by decide) rfl hl.1 rfl (Nat.le_of_ble_eq_true rfl) dX10_readLaw_59 (fun z w H locs hq hP hD hS => ?_)
              rcases hq with ⟨rfl, rfl, hc3_0⟩ | ⟨rfl, rfl, hc3_0⟩
              · replace hP : va_P D vwCl [(hm, ob 10 (mo a st lw tl wk pe ch pl fa iw n1 qe sd ik kp hh)), ((a 15), aI cB 50 pg), ((a 19), aI cI 4 ns1), ((a 20), aI cI 4 nu1)] H := hP
                replace hD : va_D A [(hm, ob 10 (mo a st lw tl wk pe ch pl fa iw n1 qe sd ik kp hh)), ((a 15), aI cB 50 pg), ((a 19), aI cI 4 ns1), ((a 20), aI cI 4 nu1)] := hD
                refine lv_istore_n (lv' := [(3, .int (iZ 1)), (4, .int (iZ (pg i))), (0, .ref hm), (1, .int (iZ w)), (2, .int (iZ i))]) hx hb dX10_readLaw_62 rfl hl (by decide) rfl (fun ls hl => ?_)
                refine lv_aload_n hx hb dX10_readLaw_63 rfl (lv_at hl 2 rfl) ?_
                refine z_get (C := RX10) (T0 := TX10) (N := 36) (ci := 10) (v := .ref (a 20)) hx hb hts hown hK hP iwX10 rfl 0 rfl 20 (by decide) fl45 rfl dX10_readLaw_64 ?_
                refine lv_aload_n hx hb dX10_readLaw_67 rfl (lv_at hl 2 rfl) ?_
                refine z_get (C := RX10) (T0 := TX10) (N := 36) (ci := 10) (v := .int (iZ n1)) hx hb hts hown hK hP iwX10 rfl 0 rfl 18 (by decide) fl84 rfl dX10_readLaw_68 ?_
                refine lv_iload hx hb dX10_readLaw_71 (lv_at hl 1 rfl) ?_
                refine lv_bipush (v := iZ 48) hx hb dX10_readLaw_73 (by decide) ?_
                refine z_isub hx hb dX10_readLaw_75 ?_
                refine z_iast hx hb hK hP hD hS 3 0 rfl rfl (by decide) (by first | assumption | omega) dX10_readLaw_76 (fun H locs hP hD hS => ?_)
                replace hP : va_P D vwCl [(hm, ob 10 (mo a st lw tl wk pe ch pl fa iw n1 qe sd ik kp hh)), ((a 15), aI cB 50 pg), ((a 19), aI cI 4 ns1), ((a 20), aI cI 4 (zu nu1 n1 ((pg i) - 48)))] H := hP
                replace hD : va_D A [(hm, ob 10 (mo a st lw tl wk pe ch pl fa iw n1 qe sd ik kp hh)), ((a 15), aI cB 50 pg), ((a 19), aI cI 4 ns1), ((a 20), aI cI 4 (zu nu1 n1 ((pg i) - 48)))] := hD
                refine lv_aload_n hx hb dX10_readLaw_77 rfl (lv_at hl 2 rfl) ?_
                refine lv_dup hx hb dX10_readLaw_78 rfl ?_
                refine z_get (C := RX10) (T0 := TX10) (N := 36) (ci := 10) (v := .int (iZ n1)) hx hb hts hown hK hP iwX10 rfl 0 rfl 18 (by decide) fl84 rfl dX10_readLaw_79 ?_
                refine lv_iload_n hx hb dX10_readLaw_82 rfl (lv_at hl 0 rfl) ?_
                refine z_if_eq (tgt := 90) hx hb dX10_readLaw_83 (by decide) (by first | assumption | omega) (fun h => absurd h (by decide)) (fun _ => ?_)
                refine lv_iconst (v := iZ 1) hx hb dX10_readLaw_86 (by decide) ?_
                refine lv_goto (tgt := 91) hx hb dX10_readLaw_87 (by decide) ?_
                refine z_iadd hx hb dX10_readLaw_91 ?_
                refine z_put (C := RX10) (T0 := TX10) (N := 36) (ci := 10) (v := .int (iZ (n1 + 1))) hx hb hts hown hK hP hD hS iwX10 tyX10_ok nmX10 rfl 0 rfl 18 (by decide) fl84 rfl rfl rfl (Nat.le_of_ble_eq_true rfl) dX10_readLaw_92 (fun H locs hP hD hS => ?_)
                replace hP : va_P D vwCl [(hm, ob 10 (mo a st lw tl wk pe ch pl fa iw (n1 + 1) qe sd ik kp hh)), ((a 15), aI cB 50 pg), ((a 19), aI cI 4 ns1), ((a 20), aI cI 4 (zu nu1 n1 ((pg i) - 48)))] H := hP
                replace hD : va_D A [(hm, ob 10 (mo a st lw tl wk pe ch pl fa iw (n1 + 1) qe sd ik kp hh)), ((a 15), aI cB 50 pg), ((a 19), aI cI 4 ns1), ((a 20), aI cI 4 (zu nu1 n1 ((pg i) - 48)))] := hD
                refine lv_iload_n hx hb dX10_readLaw_95 rfl (lv_at hl 0 rfl) ?_
                refine z_if_ne (tgt := 103) hx hb dX10_readLaw_96 (by decide) (by first | assumption | omega) (fun _ => ?_) (fun h => absurd h (by decide))
                refine lv_iconst (v := iZ 0) hx hb dX10_readLaw_103 (by decide) ?_
                refine lv_istore_n (lv' := [(1, .int (iZ 0)), (3, .int (iZ 1)), (4, .int (iZ (pg i))), (0, .ref hm), (2, .int (iZ i))]) hx hb dX10_readLaw_104 rfl hl (by decide) rfl (fun ls hl => ?_)
                refine lv_goto (tgt := 190) hx hb dX10_readLaw_105 (by decide) ?_
                refine lv_iload_n hx hb dX10_readLaw_190 rfl (lv_at hl 4 rfl) ?_
                refine lv_iload_n hx hb dX10_readLaw_191 rfl (lv_at hl 1 rfl) ?_
                refine z_if_eq (tgt := 199) hx hb dX10_readLaw_192 (by decide) (by first | assumption | omega) (fun h => absurd h (by decide)) (fun _ => ?_)
                refine lv_iconst (v := iZ 1) hx hb dX10_readLaw_195 (by decide) ?_
                refine lv_goto (tgt := 200) hx hb dX10_readLaw_196 (by decide) ?_
                refine z_iadd hx hb dX10_readLaw_200 ?_
                refine lv_istore_n (lv' := [(2, .int (iZ (i + 1))), (1, .int (iZ 0)), (3, .int (iZ 1)), (4, .int (iZ (pg i))), (0, .ref hm)]) hx hb dX10_readLaw_201 rfl hl (by decide) rfl (fun ls hl => ?_)
                refine lv_goto (tgt := 11) hx hb dX10_readLaw_202 (by decide) ?_
                exact ih11 (i + 1) 0 1 (n1 + 1) ns1 (zu nu1 n1 ((pg i) - 48)) (by first | assumption | omega) (by first | exact Or.inl rfl | exact Or.inr rfl) (by first | (intro h9; exact absurd h9 (by decide)) | (intro _; first | (exact qL_a hr ⟨by omega, by omega⟩ (by unfold dgt; split <;> omega)) | (exact qL_b2 (w := 1) hr ⟨by omega, by omega⟩ (by omega) (by omega) (Or.inl ⟨rfl, by omega⟩) (by omega)) | (exact qL_b2 (w := 0) hr ⟨by omega, by omega⟩ (by omega) (by omega) (Or.inr ⟨rfl, by omega⟩) (by omega)))) (by first | (intro h9; exact absurd h9 (by decide)) | (intro _; rw [show i + 0 = i from by omega]; refine ⟨by omega, ?_, hr.1⟩; intro h8; rcases h8 with ⟨h7, h6⟩ | ⟨h7, h6, h5⟩; (first | omega | (unfold dgt at h6; split at h6 <;> omega)); (first | exact absurd h7 (by omega) | (first | omega | (have h4 := hrn.2.2.2.2; omega))))) (by omega) _ _ _ hP hD hS (lv_sub hl [4, 1, 0, 2] rfl)
              · replace hP : va_P D vwCl [(hm, ob 10 (mo a st lw tl wk pe ch pl fa iw n1 qe sd ik kp hh)), ((a 15), aI cB 50 pg), ((a 19), aI cI 4 ns1), ((a 20), aI cI 4 nu1)] H := hP
                replace hD : va_D A [(hm, ob 10 (mo a st lw tl wk pe ch pl fa iw n1 qe sd ik kp hh)), ((a 15), aI cB 50 pg), ((a 19), aI cI 4 ns1), ((a 20), aI cI 4 nu1)] := hD
                refine lv_istore_n (lv' := [(3, .int (iZ 0)), (4, .int (iZ (pg i))), (0, .ref hm), (1, .int (iZ w)), (2, .int (iZ i))]) hx hb dX10_readLaw_62 rfl hl (by decide) rfl (fun ls hl => ?_)
                refine lv_aload_n hx hb dX10_readLaw_63 rfl (lv_at hl 2 rfl) ?_
                refine z_get (C := RX10) (T0 := TX10) (N := 36) (ci := 10) (v := .ref (a 20)) hx hb hts hown hK hP iwX10 rfl 0 rfl 20 (by decide) fl45 rfl dX10_readLaw_64 ?_
                refine lv_aload_n hx hb dX10_readLaw_67 rfl (lv_at hl 2 rfl) ?_
                refine z_get (C := RX10) (T0 := TX10) (N := 36) (ci := 10) (v := .int (iZ n1)) hx hb hts hown hK hP iwX10 rfl 0 rfl 18 (by decide) fl84 rfl dX10_readLaw_68 ?_
                refine lv_iload hx hb dX10_readLaw_71 (lv_at hl 1 rfl) ?_
                refine lv_bipush (v := iZ 48) hx hb dX10_readLaw_73 (by decide) ?_
                refine z_isub hx hb dX10_readLaw_75 ?_
                refine z_iast hx hb hK hP hD hS 3 0 rfl rfl (by decide) (by first | assumption | omega) dX10_readLaw_76 (fun H locs hP hD hS => ?_)
                replace hP : va_P D vwCl [(hm, ob 10 (mo a st lw tl wk pe ch pl fa iw n1 qe sd ik kp hh)), ((a 15), aI cB 50 pg), ((a 19), aI cI 4 ns1), ((a 20), aI cI 4 (zu nu1 n1 ((pg i) - 48)))] H := hP
                replace hD : va_D A [(hm, ob 10 (mo a st lw tl wk pe ch pl fa iw n1 qe sd ik kp hh)), ((a 15), aI cB 50 pg), ((a 19), aI cI 4 ns1), ((a 20), aI cI 4 (zu nu1 n1 ((pg i) - 48)))] := hD
                refine lv_aload_n hx hb dX10_readLaw_77 rfl (lv_at hl 2 rfl) ?_
                refine lv_dup hx hb dX10_readLaw_78 rfl ?_
                refine z_get (C := RX10) (T0 := TX10) (N := 36) (ci := 10) (v := .int (iZ n1)) hx hb hts hown hK hP iwX10 rfl 0 rfl 18 (by decide) fl84 rfl dX10_readLaw_79 ?_
                refine lv_iload_n hx hb dX10_readLaw_82 rfl (lv_at hl 0 rfl) ?_
                refine z_if_eq (tgt := 90) hx hb dX10_readLaw_83 (by decide) (by first | assumption | omega) (fun _ => ?_) (fun h => absurd h (by decide))
                refine lv_iconst (v := iZ 0) hx hb dX10_readLaw_90 (by decide) ?_
                refine z_iadd hx hb dX10_readLaw_91 ?_
                refine z_put (C := RX10) (T0 := TX10) (N := 36) (ci := 10) (v := .int (iZ (n1 + 0))) hx hb hts hown hK hP hD hS iwX10 tyX10_ok nmX10 rfl 0 rfl 18 (by decide) fl84 rfl rfl rfl (Nat.le_of_ble_eq_true rfl) dX10_readLaw_92 (fun H locs hP hD hS => ?_)
                replace hP : va_P D vwCl [(hm, ob 10 (mo a st lw tl wk pe ch pl fa iw (n1 + 0) qe sd ik kp hh)), ((a 15), aI cB 50 pg), ((a 19), aI cI 4 ns1), ((a 20), aI cI 4 (zu nu1 n1 ((pg i) - 48)))] H := hP
                replace hD : va_D A [(hm, ob 10 (mo a st lw tl wk pe ch pl fa iw (n1 + 0) qe sd ik kp hh)), ((a 15), aI cB 50 pg), ((a 19), aI cI 4 ns1), ((a 20), aI cI 4 (zu nu1 n1 ((pg i) - 48)))] := hD
                refine lv_iload_n hx hb dX10_readLaw_95 rfl (lv_at hl 0 rfl) ?_
                refine z_if_ne (tgt := 103) hx hb dX10_readLaw_96 (by decide) (by first | assumption | omega) (fun h => absurd h (by decide)) (fun _ => ?_)
                refine lv_iconst (v := iZ 1) hx hb dX10_readLaw_99 (by decide) ?_
                refine lv_goto (tgt := 104) hx hb dX10_readLaw_100 (by decide) ?_
                refine lv_istore_n (lv' := [(1, .int (iZ 1)), (3, .int (iZ 0)), (4, .int (iZ (pg i))), (0, .ref hm), (2, .int (iZ i))]) hx hb dX10_readLaw_104 rfl hl (by decide) rfl (fun ls hl => ?_)
                refine lv_goto (tgt := 190) hx hb dX10_readLaw_105 (by decide) ?_
                refine lv_iload_n hx hb dX10_readLaw_190 rfl (lv_at hl 4 rfl) ?_
                refine lv_iload_n hx hb dX10_readLaw_191 rfl (lv_at hl 1 rfl) ?_
                refine z_if_eq (tgt := 199) hx hb dX10_readLaw_192 (by decide) (by first | assumption | omega) (fun _ => ?_) (fun h => absurd h (by decide))
                refine lv_iconst (v := iZ 0) hx hb dX10_readLaw_199 (by decide) ?_
                refine z_iadd hx hb dX10_readLaw_200 ?_
                refine lv_istore_n (lv' := [(2, .int (iZ (i + 0))), (1, .int (iZ 1)), (3, .int (iZ 0)), (4, .int (iZ (pg i))), (0, .ref hm)]) hx hb dX10_readLaw_201 rfl hl (by decide) rfl (fun ls hl => ?_)
                refine lv_goto (tgt := 11) hx hb dX10_readLaw_202 (by decide) ?_
                exact ih11 (i + 0) 1 0 (n1 + 0) ns1 (zu nu1 n1 ((pg i) - 48)) (by first | assumption | omega) (by first | exact Or.inl rfl | exact Or.inr rfl) (by first | (intro h9; exact absurd h9 (by decide)) | (intro _; first | (exact qL_a hr ⟨by omega, by omega⟩ (by unfold dgt; split <;> omega)) | (exact qL_b2 (w := 1) hr ⟨by omega, by omega⟩ (by omega) (by omega) (Or.inl ⟨rfl, by omega⟩) (by omega)) | (exact qL_b2 (w := 0) hr ⟨by omega, by omega⟩ (by omega) (by omega) (Or.inr ⟨rfl, by omega⟩) (by omega)))) (by first | (intro h9; exact absurd h9 (by decide)) | (intro _; rw [show i + 0 = i from by omega]; refine ⟨by omega, ?_, hr.1⟩; intro h8; rcases h8 with ⟨h7, h6⟩ | ⟨h7, h6, h5⟩; (first | omega | (unfold dgt at h6; split at h6 <;> omega)); (first | exact absurd h7 (by omega) | (first | omega | (have h4 := hrn.2.2.2.2; omega))))) (by omega) _ _ _ hP hD hS (lv_sub hl [4, 1, 0, 2] rfl)
            · refine lv_bipush (v := iZ 50) hx hb dX10_readLaw_50 (by decide) ?_
              refine lv_goto (tgt := 57) hx hb dX10_readLaw_52 (by decide) ?_
              refine lv_bipush (v := iZ 57) hx hb dX10_readLaw_57 (by decide) ?_
              refine z_Si (As := [.int (iZ (pg i)), .int (iZ 50), .int (iZ 57)]) (rest := []) hC (c_X10_within l D cI cJ cB (pg i) 50 57 (by first | assumption | omega) (by first | assumption | omega) (by omega)) 3 gX10_readLaw_X10_within rfl rfl rfl qX10_within ⟨Nat.le_of_ble_eq_true rfl, Nat.le_of_ble_eq_true rfl⟩ ⟨Nat.le_refl _, Nat.le_refl _⟩ hK hP hD hS hA [] rfl (by decide) rfl hl.1 rfl (Nat.le_of_ble_eq_true rfl) dX10_readLaw_59 (fun z w H locs hq hP hD hS => ?_)
              rcases hq with ⟨rfl, rfl, hc4_0⟩ | ⟨rfl, rfl, hc4_0⟩
              · replace hP : va_P D vwCl [(hm, ob 10 (mo a st lw tl wk pe ch pl fa iw n1 qe sd ik kp hh)), ((a 15), aI cB 50 pg), ((a 19), aI cI 4 ns1), ((a 20), aI cI 4 nu1)] H := hP
                replace hD : va_D A [(hm, ob 10 (mo a st lw tl wk pe ch pl fa iw n1 qe sd ik kp hh)), ((a 15), aI cB 50 pg), ((a 19), aI cI 4 ns1), ((a 20), aI cI 4 nu1)] := hD
                refine lv_istore_n (lv' := [(3, .int (iZ 1)), (4, .int (iZ (pg i))), (0, .ref hm), (1, .int (iZ w)), (2, .int (iZ i))]) hx hb dX10_readLaw_62 rfl hl (by decide) rfl (fun ls hl => ?_)
                refine lv_aload_n hx hb dX10_readLaw_63 rfl (lv_at hl 2 rfl) ?_
                refine z_get (C := RX10) (T0 := TX10) (N := 36) (ci := 10) (v := .ref (a 20)) hx hb hts hown hK hP iwX10 rfl 0 rfl 20 (by decide) fl45 rfl dX10_readLaw_64 ?_
                refine lv_aload_n hx hb dX10_readLaw_67 rfl (lv_at hl 2 rfl) ?_
                refine z_get (C := RX10) (T0 := TX10) (N := 36) (ci := 10) (v := .int (iZ n1)) hx hb hts hown hK hP iwX10 rfl 0 rfl 18 (by decide) fl84 rfl dX10_readLaw_68 ?_
                refine lv_iload hx hb dX10_readLaw_71 (lv_at hl 1 rfl) ?_
                refine lv_bipush (v := iZ 48) hx hb dX10_readLaw_73 (by decide) ?_
                refine z_isub hx hb dX10_readLaw_75 ?_
                refine z_iast hx hb hK hP hD hS 3 0 rfl rfl (by decide) (by first | assumption | omega) dX10_readLaw_76 (fun H locs hP hD hS => ?_)
                replace hP : va_P D vwCl [(hm, ob 10 (mo a st lw tl wk pe ch pl fa iw n1 qe sd ik kp hh)), ((a 15), aI cB 50 pg), ((a 19), aI cI 4 ns1), ((a 20), aI cI 4 (zu nu1 n1 ((pg i) - 48)))] H := hP
                replace hD : va_D A [(hm, ob 10 (mo a st lw tl wk pe ch pl fa iw n1 qe sd ik kp hh)), ((a 15), aI cB 50 pg), ((a 19), aI cI 4 ns1), ((a 20), aI cI 4 (zu nu1 n1 ((pg i) - 48)))] := hD
                refine lv_aload_n hx hb dX10_readLaw_77 rfl (lv_at hl 2 rfl) ?_
                refine lv_dup hx hb dX10_readLaw_78 rfl ?_
                refine z_get (C := RX10) (T0 := TX10) (N := 36) (ci := 10) (v := .int (iZ n1)) hx hb hts hown hK hP iwX10 rfl 0 rfl 18 (by decide) fl84 rfl dX10_readLaw_79 ?_
                refine lv_iload_n hx hb dX10_readLaw_82 rfl (lv_at hl 0 rfl) ?_
                refine z_if_eq (tgt := 90) hx hb dX10_readLaw_83 (by decide) (by first | assumption | omega) (fun h => absurd h (by decide)) (fun _ => ?_)
                refine lv_iconst (v := iZ 1) hx hb dX10_readLaw_86 (by decide) ?_
                refine lv_goto (tgt := 91) hx hb dX10_readLaw_87 (by decide) ?_
                refine z_iadd hx hb dX10_readLaw_91 ?_
                refine z_put (C := RX10) (T0 := TX10) (N := 36) (ci := 10) (v := .int (iZ (n1 + 1))) hx hb hts hown hK hP hD hS iwX10 tyX10_ok nmX10 rfl 0 rfl 18 (by decide) fl84 rfl rfl rfl (Nat.le_of_ble_eq_true rfl) dX10_readLaw_92 (fun H locs hP hD hS => ?_)
                replace hP : va_P D vwCl [(hm, ob 10 (mo a st lw tl wk pe ch pl fa iw (n1 + 1) qe sd ik kp hh)), ((a 15), aI cB 50 pg), ((a 19), aI cI 4 ns1), ((a 20), aI cI 4 (zu nu1 n1 ((pg i) - 48)))] H := hP
                replace hD : va_D A [(hm, ob 10 (mo a st lw tl wk pe ch pl fa iw (n1 + 1) qe sd ik kp hh)), ((a 15), aI cB 50 pg), ((a 19), aI cI 4 ns1), ((a 20), aI cI 4 (zu nu1 n1 ((pg i) - 48)))] := hD
                refine lv_iload_n hx hb dX10_readLaw_95 rfl (lv_at hl 0 rfl) ?_
                refine z_if_ne (tgt := 103) hx hb dX10_readLaw_96 (by decide) (by first | assumption | omega) (fun _ => ?_) (fun h => absurd h (by decide))
                refine lv_iconst (v := iZ 0) hx hb dX10_readLaw_103 (by decide) ?_
                refine lv_istore_n (lv' := [(1, .int (iZ 0)), (3, .int (iZ 1)), (4, .int (iZ (pg i))), (0, .ref hm), (2, .int (iZ i))]) hx hb dX10_readLaw_104 rfl hl (by decide) rfl (fun ls hl => ?_)
                refine lv_goto (tgt := 190) hx hb dX10_readLaw_105 (by decide) ?_
                refine lv_iload_n hx hb dX10_readLaw_190 rfl (lv_at hl 4 rfl) ?_
                refine lv_iload_n hx hb dX10_readLaw_191 rfl (lv_at hl 1 rfl) ?_
                refine z_if_eq (tgt := 199) hx hb dX10_readLaw_192 (by decide) (by first | assumption | omega) (fun h => absurd h (by decide)) (fun _ => ?_)
                refine lv_iconst (v := iZ 1) hx hb dX10_readLaw_195 (by decide) ?_
                refine lv_goto (tgt := 200) hx hb dX10_readLaw_196 (by decide) ?_
                refine z_iadd hx hb dX10_readLaw_200 ?_
                refine lv_istore_n (lv' := [(2, .int (iZ (i + 1))), (1, .int (iZ 0)), (3, .int (iZ 1)), (4, .int (iZ (pg i))), (0, .ref hm)]) hx hb dX10_readLaw_201 rfl hl (by decide) rfl (fun ls hl => ?_)
                refine lv_goto (tgt := 11) hx hb dX10_readLaw_202 (by decide) ?_
                exact ih11 (i + 1) 0 1 (n1 + 1) ns1 (zu nu1 n1 ((pg i) - 48)) (by first | assumption | omega) (by first | exact Or.inl rfl | exact Or.inr rfl) (by first | (intro h9; exact absurd h9 (by decide)) | (intro _; first | (exact qL_a hr ⟨by omega, by omega⟩ (by unfold dgt; split <;> omega)) | (exact qL_b2 (w := 1) hr ⟨by omega, by omega⟩ (by omega) (by omega) (Or.inl ⟨rfl, by omega⟩) (by omega)) | (exact qL_b2 (w := 0) hr ⟨by omega, by omega⟩ (by omega) (by omega) (Or.inr ⟨rfl, by omega⟩) (by omega)))) (by first | (intro h9; exact absurd h9 (by decide)) | (intro _; rw [show i + 0 = i from by omega]; refine ⟨by omega, ?_, hr.1⟩; intro h8; rcases h8 with ⟨h7, h6⟩ | ⟨h7, h6, h5⟩; (first | omega | (unfold dgt at h6; split at h6 <;> omega)); (first | exact absurd h7 (by omega) | (first | omega | (have h4 := hrn.2.2.2.2; omega))))) (by omega) _ _ _ hP hD hS (lv_sub hl [4, 1, 0, 2] rfl)
              · replace hP : va_P D vwCl [(hm, ob 10 (mo a st lw tl wk pe ch pl fa iw n1 qe sd ik kp hh)), ((a 15), aI cB 50 pg), ((a 19), aI cI 4 ns1), ((a 20), aI cI 4 nu1)] H := hP
                replace hD : va_D A [(hm, ob 10 (mo a st lw tl wk pe ch pl fa iw n1 qe sd ik kp hh)), ((a 15), aI cB 50 pg), ((a 19), aI cI 4 ns1), ((a 20), aI cI 4 nu1)] := hD
                refine lv_istore_n (lv' := [(3, .int (iZ 0)), (4, .int (iZ (pg i))), (0, .ref hm), (1, .int (iZ w)), (2, .int (iZ i))]) hx hb dX10_readLaw_62 rfl hl (by decide) rfl (fun ls hl => ?_)
                refine lv_aload_n hx hb dX10_readLaw_63 rfl (lv_at hl 2 rfl) ?_
                refine z_get (C := RX10) (T0 := TX10) (N := 36) (ci := 10) (v := .ref (a 20)) hx hb hts hown hK hP iwX10 rfl 0 rfl 20 (by decide) fl45 rfl dX10_readLaw_64 ?_
                refine lv_aload_n hx hb dX10_readLaw_67 rfl (lv_at hl 2 rfl) ?_
                refine z_get (C := RX10) (T0 := TX10) (N := 36) (ci := 10) (v := .int (iZ n1)) hx hb hts hown hK hP iwX10 rfl 0 rfl 18 (by decide) fl84 rfl dX10_readLaw_68 ?_
                refine lv_iload hx hb dX10_readLaw_71 (lv_at hl 1 rfl) ?_
                refine lv_bipush (v := iZ 48) hx hb dX10_readLaw_73 (by decide) ?_
                refine z_isub hx hb dX10_readLaw_75 ?_
                refine z_iast hx hb hK hP hD hS 3 0 rfl rfl (by decide) (by first | assumption | omega) dX10_readLaw_76 (fun H locs hP hD hS => ?_)
                replace hP : va_P D vwCl [(hm, ob 10 (mo a st lw tl wk pe ch pl fa iw n1 qe sd ik kp hh)), ((a 15), aI cB 50 pg), ((a 19), aI cI 4 ns1), ((a 20), aI cI 4 (zu nu1 n1 ((pg i) - 48)))] H := hP
                replace hD : va_D A [(hm, ob 10 (mo a st lw tl wk pe ch pl fa iw n1 qe sd ik kp hh)), ((a 15), aI cB 50 pg), ((a 19), aI cI 4 ns1), ((a 20), aI cI 4 (zu nu1 n1 ((pg i) - 48)))] := hD
                refine lv_aload_n hx hb dX10_readLaw_77 rfl (lv_at hl 2 rfl) ?_
                refine lv_dup hx hb dX10_readLaw_78 rfl ?_
                refine z_get (C := RX10) (T0 := TX10) (N := 36) (ci := 10) (v := .int (iZ n1)) hx hb hts hown hK hP iwX10 rfl 0 rfl 18 (by decide) fl84 rfl dX10_readLaw_79 ?_
                refine lv_iload_n hx hb dX10_readLaw_82 rfl (lv_at hl 0 rfl) ?_
                refine z_if_eq (tgt := 90) hx hb dX10_readLaw_83 (by decide) (by first | assumption | omega) (fun _ => ?_) (fun h => absurd h (by decide))
                refine lv_iconst (v := iZ 0) hx hb dX10_readLaw_90 (by decide) ?_
                refine z_iadd hx hb dX10_readLaw_91 ?_
                refine z_put (C := RX10) (T0 := TX10) (N := 36) (ci := 10) (v := .int (iZ (n1 + 0))) hx hb hts hown hK hP hD hS iwX10 tyX10_ok nmX10 rfl 0 rfl 18 (by decide) fl84 rfl rfl rfl (Nat.le_of_ble_eq_true rfl) dX10_readLaw_92 (fun H locs hP hD hS => ?_)
                replace hP : va_P D vwCl [(hm, ob 10 (mo a st lw tl wk pe ch pl fa iw (n1 + 0) qe sd ik kp hh)), ((a 15), aI cB 50 pg), ((a 19), aI cI 4 ns1), ((a 20), aI cI 4 (zu nu1 n1 ((pg i) - 48)))] H := hP
                replace hD : va_D A [(hm, ob 10 (mo a st lw tl wk pe ch pl fa iw (n1 + 0) qe sd ik kp hh)), ((a 15), aI cB 50 pg), ((a 19), aI cI 4 ns1), ((a 20), aI cI 4 (zu nu1 n1 ((pg i) - 48)))] := hD
                refine lv_iload_n hx hb dX10_readLaw_95 rfl (lv_at hl 0 rfl) ?_
                refine z_if_ne (tgt := 103) hx hb dX10_readLaw_96 (by decide) (by first | assumption | omega) (fun h => absurd h (by decide)) (fun _ => ?_)
                refine lv_iconst (v := iZ 1) hx hb dX10_readLaw_99 (by decide) ?_
                refine lv_goto (tgt := 104) hx hb dX10_readLaw_100 (by decide) ?_
                refine lv_istore_n (lv' := [(1, .int (iZ 1)), (3, .int (iZ 0)), (4, .int (iZ (pg i))), (0, .ref hm), (2, .int (iZ i))]) hx hb dX10_readLaw_104 rfl hl (by decide) rfl (fun ls hl => ?_)
                refine lv_goto (tgt := 190) hx hb dX10_readLaw_105 (by decide) ?_
                refine lv_iload_n hx hb dX10_readLaw_190 rfl (lv_at hl 4 rfl) ?_
                refine lv_iload_n hx hb dX10_readLaw_191 rfl (lv_at hl 1 rfl) ?_
                refine z_if_eq (tgt := 199) hx hb dX10_readLaw_192 (by decide) (by first | assumption | omega) (fun _ => ?_) (fun h => absurd h (by decide))
                refine lv_iconst (v := iZ 0) hx hb dX10_readLaw_199 (by decide) ?_
                refine z_iadd hx hb dX10_readLaw_200 ?_
                refine lv_istore_n (lv' := [(2, .int (iZ (i + 0))), (1, .int (iZ 1)), (3, .int (iZ 0)), (4, .int (iZ (pg i))), (0, .ref hm)]) hx hb dX10_readLaw_201 rfl hl (by decide) rfl (fun ls hl => ?_)
                refine lv_goto (tgt := 11) hx hb dX10_readLaw_202 (by decide) ?_
                exact ih11 (i + 0) 1 0 (n1 + 0) ns1 (zu nu1 n1 ((pg i) - 48)) (by first | assumption | omega) (by first | exact Or.inl rfl | exact Or.inr rfl) (by first | (intro h9; exact absurd h9 (by decide)) | (intro _; first | (exact qL_a hr ⟨by omega, by omega⟩ (by unfold dgt; split <;> omega)) | (exact qL_b2 (w := 1) hr ⟨by omega, by omega⟩ (by omega) (by omega) (Or.inl ⟨rfl, by omega⟩) (by omega)) | (exact qL_b2 (w := 0) hr ⟨by omega, by omega⟩ (by omega) (by omega) (Or.inr ⟨rfl, by omega⟩) (by omega)))) (by first | (intro h9; exact absurd h9 (by decide)) | (intro _; rw [show i + 0 = i from by omega]; refine ⟨by omega, ?_, hr.1⟩; intro h8; rcases h8 with ⟨h7, h6⟩ | ⟨h7, h6, h5⟩; (first | omega | (unfold dgt at h6; split at h6 <;> omega)); (first | exact absurd h7 (by omega) | (first | omega | (have h4 := hrn.2.2.2.2; omega))))) (by omega) _ _ _ hP hD hS (lv_sub hl [4, 1, 0, 2] rfl)
  exact lp11 ((2 * (pl - 0) + 1 : Int) + 1).toNat 0 0 1 0 ns nu (by first | assumption | omega) (by exact Or.inr rfl) (by exact fun _ => qL_0 pg pl ns nu) (by intro h9; exact absurd h9 (by decide)) (by omega) _ _ _ hP hD hS (lv_sub hl [3, 2, 1, 0] rfl)
theorem qX10_readWeek : yX10_readWeek.cls ≠ "java/lang/invoke/MethodHandle" ∧ yX10_readWeek.cls ≠ "java/lang/invoke/VarHandle" ∧ (parseMethodDescriptor yX10_readWeek.desc).map (fun d => d.parameters.length) = some 0 := by decide +kernel
set_option maxHeartbeats 4000000 in
set_option maxRecDepth 100000 in
theorem c_X10_readWeek (l : Launch) (D : va_G) (cI cJ cB : ClassId) (hm : Nat) (a : Nat → Nat) (st lw tl wk pe ch pl fa iw nm qe sd ik kp hh : Int) (pg nt no : Int → Int) (hpl : 0 ≤ pl ∧ pl ≤ 50) (hpg : ∀ j, 0 ≤ pg j ∧ pg j ≤ 126) : zMv l yX10_readWeek wsX10_readWeek (zRm 1 22) D (zT cI cJ cB) [.ref hm] [(hm, ob 10 (mo a st lw tl wk pe ch pl fa iw nm qe sd ik kp hh)), ((a 15), aI cB 50 pg), ((a 21), aI cI 16 nt), ((a 22), aI cI 16 no)] (fun (w : va_W) => (∃ (x : Int) (nt2 no2 : Int → Int), w = [(hm, ob 10 (mo a st lw tl wk pe ch pl x 1 ((pl + 1) / 3) qe sd ik kp hh)), ((a 15), aI cB 50 pg), ((a 21), aI cI 16 nt2), ((a 22), aI cI 16 no2)] ∧ WF pl pg x ∧ WW pl pg ∧ (∀ j, 0 ≤ j → j < (pl + 1) / 3 → nt2 j = pg (3 * j) - 48 ∧ no2 j = pg (3 * j + 1) - 48)) ∨ (∃ (x n2 : Int) (nt2 no2 : Int → Int), w = [(hm, ob 10 (mo a st lw tl wk pe ch pl x 0 n2 qe sd ik kp hh)), ((a 15), aI cB 50 pg), ((a 21), aI cI 16 nt2), ((a 22), aI cI 16 no2)] ∧ WF pl pg x ∧ ¬ WW pl pg)) := by
  refine z_of (Qc := fun A => zQv D [(hm, ob 10 (mo a st lw tl wk pe ch pl fa iw nm qe sd ik kp hh)), ((a 15), aI cB 50 pg), ((a 21), aI cI 16 nt), ((a 22), aI cI 16 no)] A _) (cc := cX10_readWeek) (maxL := 6) (ret := none) (by decide) rfl (Nat.le_of_ble_eq_true rfl) ?_
  intro p e s m below meth c A ls hx hb hr hts hown hlocks hml hK hP hD hS hA hl
  replace hown : s.vm.findClass RX10 = some m.cls := hown
  have hC : CallFix p m c cX10_readWeek 6 s _ wsX10_readWeek RX10 := ⟨hx, hb, hml, hown, hts⟩
  replace hl : lv_has ls 6 [(0, .ref hm)] := hl
  have iwX10 : ∀ w ∈ u_ws RX10 TX10 36, w ∈ wsX10_readWeek := fun w h => List.mem_cons_of_mem _ (List.mem_append_right _ h)
  have fl38 : Cond.fieldLink RX10 38 "GrowsByHalfModel" "page" "[B" ∈ wsX10_readWeek := by decide +kernel
  have fl48 : Cond.fieldLink RX10 48 "GrowsByHalfModel" "newTeller" "[I" ∈ wsX10_readWeek := by decide +kernel
  have fl51 : Cond.fieldLink RX10 51 "GrowsByHalfModel" "newTo" "[I" ∈ wsX10_readWeek := by decide +kernel
  have fl81 : Cond.fieldLink RX10 81 "GrowsByHalfModel" "pageLength" "I" ∈ wsX10_readWeek := by decide +kernel
  have fl84 : Cond.fieldLink RX10 84 "GrowsByHalfModel" "newMany" "I" ∈ wsX10_readWeek := by decide +kernel
  have fl95 : Cond.fieldLink RX10 95 "GrowsByHalfModel" "faultAt" "I" ∈ wsX10_readWeek := by decide +kernel
  have fl98 : Cond.fieldLink RX10 98 "GrowsByHalfModel" "isWhole" "Z" ∈ wsX10_readWeek := by decide +kernel
  refine lv_aload_n hx hb dX10_readWeek_0 rfl (lv_at hl 0 rfl) ?_
  refine lv_iconst (v := iZ 0) hx hb dX10_readWeek_1 (by decide) ?_
  refine z_put (C := RX10) (T0 := TX10) (N := 36) (ci := 10) (v := .int (iZ 0)) hx hb hts hown hK hP hD hS iwX10 tyX10_ok nmX10 rfl 0 rfl 18 (by decide) fl84 rfl rfl rfl (Nat.le_of_ble_eq_true rfl) dX10_readWeek_2 (fun H locs hP hD hS => ?_)
  replace hP : va_P D vwCl [(hm, ob 10 (mo a st lw tl wk pe ch pl fa iw 0 qe sd ik kp hh)), ((a 15), aI cB 50 pg), ((a 21), aI cI 16 nt), ((a 22), aI cI 16 no)] H := hP
  replace hD : va_D A [(hm, ob 10 (mo a st lw tl wk pe ch pl fa iw 0 qe sd ik kp hh)), ((a 15), aI cB 50 pg), ((a 21), aI cI 16 nt), ((a 22), aI cI 16 no)] := hD
  refine lv_iconst (v := iZ 0) hx hb dX10_readWeek_5 (by decide) ?_
  refine lv_istore_n (lv' := [(1, .int (iZ 0)), (0, .ref hm)]) hx hb dX10_readWeek_6 rfl hl (by decide) rfl (fun ls hl => ?_)
  refine lv_iconst (v := iZ 0) hx hb dX10_readWeek_7 (by decide) ?_
  refine lv_istore_n (lv' := [(2, .int (iZ 0)), (1, .int (iZ 0)), (0, .ref hm)]) hx hb dX10_readWeek_8 rfl hl (by decide) rfl (fun ls hl => ?_)
  refine lv_iconst (v := iZ 1) hx hb dX10_readWeek_9 (by decide) ?_
  refine lv_istore_n (lv' := [(3, .int (iZ 1)), (2, .int (iZ 0)), (1, .int (iZ 0)), (0, .ref hm)]) hx hb dX10_readWeek_10 rfl hl (by decide) rfl (fun ls hl => ?_)
  have lp11 : ∀ fuel : Nat, ∀ (i sv g n1 : Int) (nt1 no1 : Int → Int), (0 ≤ i ∧ i ≤ pl) → (g = 0 ∨ g = 1) → (0 ≤ sv ∧ sv ≤ 2) → (g = 1 → qW pg i sv n1 nt1 no1) → (g = 0 → i < pl ∧ ¬ goodW pg i ∧ allW pg i) → (2 * (pl - i) + g) < (fuel : Int) → ∀ (H : Heap) (locs : List Loc) (ls : Array Slot), va_P D vwCl [(hm, ob 10 (mo a st lw tl wk pe ch pl fa iw n1 qe sd ik kp hh)), ((a 15), aI cB 50 pg), ((a 21), aI cI 16 nt1), ((a 22), aI cI 16 no1)] H → va_D A [(hm, ob 10 (mo a st lw tl wk pe ch pl fa iw n1 qe sd ik kp hh)), ((a 15), aI cB 50 pg), ((a 21), aI cI 16 nt1), ((a 22), aI cI 16 no1)] → va_S A s.heap H locs → lv_has ls 6 [(0, .ref hm), (1, .int (iZ sv)), (2, .int (iZ i)), (3, .int (iZ g))] → W p l e (zRm 1 22) s m [.ref hm].toArray below meth c H locs 0 0 (MQ below (zQv D [(hm, ob 10 (mo a st lw tl wk pe ch pl fa iw nm qe sd ik kp hh)), ((a 15), aI cB 50 pg), ((a 21), aI cI 16 nt), ((a 22), aI cI 16 no)] A (fun (w : va_W) => (∃ (x : Int) (nt2 no2 : Int → Int), w = [(hm, ob 10 (mo a st lw tl wk pe ch pl x 1 ((pl + 1) / 3) qe sd ik kp hh)), ((a 15), aI cB 50 pg), ((a 21), aI cI 16 nt2), ((a 22), aI cI 16 no2)] ∧ WF pl pg x ∧ WW pl pg ∧ (∀ j, 0 ≤ j → j < (pl + 1) / 3 → nt2 j = pg (3 * j) - 48 ∧ no2 j = pg (3 * j + 1) - 48)) ∨ (∃ (x n2 : Int) (nt2 no2 : Int → Int), w = [(hm, ob 10 (mo a st lw tl wk pe ch pl x 0 n2 qe sd ik kp hh)), ((a 15), aI cB 50 pg), ((a 21), aI cI 16 nt2), ((a 22), aI cI 16 no2)] ∧ WF pl pg x ∧ ¬ WW pl pg))) [.ref hm].toArray s 0 0 A) (F0 m 11 ls []) := by
    intro fuel
    induction fuel with
    | zero => intro i sv g n1 nt1 no1 hi hgg hsv hrl hbad hmu11; exact absurd hmu11 (by omega)
    | succ fuel ih11 =>
      intro i sv g n1 nt1 no1 hi hgg hsv hrl hbad hmu11 H locs ls hP hD hS hl
      refine lv_iload_n hx hb dX10_readWeek_11 rfl (lv_at hl 2 rfl) ?_
      refine lv_aload_n hx hb dX10_readWeek_12 rfl (lv_at hl 0 rfl) ?_
      refine z_get (C := RX10) (T0 := TX10) (N := 36) (ci := 10) (v := .int (iZ pl)) hx hb hts hown hK hP iwX10 rfl 0 rfl 14 (by decide) fl81 rfl dX10_readWeek_13 ?_
      refine z_icmp_ge (tgt := 182) hx hb dX10_readWeek_16 (by decide) (by first | assumption | omega) (by first | assumption | omega) (fun c_16 => ?_) (fun c_16 => ?_)
      · have hex : (i = pl ∧ qW pg pl sv n1 nt1 no1) ∨ (i < pl ∧ ¬ goodW pg i ∧ allW pg i) := by (by_cases h9 : i < pl); (exact Or.inr (hbad (by omega))); (have h8 : i = pl := by omega); (have h7 := hrl (by rcases hgg with q | q; exact absurd (hbad q).1 (by omega); exact q)); rw [h8] at h7; exact Or.inl ⟨h8, h7⟩
        have hLF : WF pl pg i := by (rcases hex with ⟨h8, h9⟩ | ⟨h8, h9, h10⟩); (rw [h8]; exact WF_all (by omega) h9.1); exact ⟨by omega, by omega, h10, fun _ => h9⟩
        refine lv_aload_n hx hb dX10_readWeek_182 rfl (lv_at hl 0 rfl) ?_
        refine lv_iload_n hx hb dX10_readWeek_183 rfl (lv_at hl 2 rfl) ?_
        refine z_put (C := RX10) (T0 := TX10) (N := 36) (ci := 10) (v := .int (iZ i)) hx hb hts hown hK hP hD hS iwX10 tyX10_ok nmX10 rfl 0 rfl 16 (by decide) fl95 rfl rfl rfl (Nat.le_of_ble_eq_true rfl) dX10_readWeek_184 (fun H locs hP hD hS => ?_)
        replace hP : va_P D vwCl [(hm, ob 10 (mo a st lw tl wk pe ch pl i iw n1 qe sd ik kp hh)), ((a 15), aI cB 50 pg), ((a 21), aI cI 16 nt1), ((a 22), aI cI 16 no1)] H := hP
        replace hD : va_D A [(hm, ob 10 (mo a st lw tl wk pe ch pl i iw n1 qe sd ik kp hh)), ((a 15), aI cB 50 pg), ((a 21), aI cI 16 nt1), ((a 22), aI cI 16 no1)] := hD
        refine lv_aload_n hx hb dX10_readWeek_187 rfl (lv_at hl 0 rfl) ?_
        refine lv_iload_n hx hb dX10_readWeek_188 rfl (lv_at hl 2 rfl) ?_
        refine lv_aload_n hx hb dX10_readWeek_189 rfl (lv_at hl 0 rfl) ?_
        refine z_get (C := RX10) (T0 := TX10) (N := 36) (ci := 10) (v := .int (iZ pl)) hx hb hts hown hK hP iwX10 rfl 0 rfl 14 (by decide) fl81 rfl dX10_readWeek_190 ?_
        refine z_icmp_ne (tgt := 205) hx hb dX10_readWeek_193 (by decide) (by first | assumption | omega) (by first | assumption | omega) (fun c_193 => ?_) (fun c_193 => ?_)
        · have hNN : ¬ WW pl pg := by (rcases hex with ⟨h8, h9⟩ | ⟨h8, h9, h10⟩); (have h7 := h9.2.1; intro h5; have h4 := h5.2; omega); exact bad_WW (by omega) h8 h9
          refine lv_iconst (v := iZ 0) hx hb dX10_readWeek_205 (by decide) ?_
          refine z_put (C := RX10) (T0 := TX10) (N := 36) (ci := 10) (v := .int (iZ 0)) hx hb hts hown hK hP hD hS iwX10 tyX10_ok nmX10 rfl 0 rfl 17 (by decide) fl98 rfl rfl rfl (Nat.le_of_ble_eq_true rfl) dX10_readWeek_206 (fun H locs hP hD hS => ?_)
          replace hP : va_P D vwCl [(hm, ob 10 (mo a st lw tl wk pe ch pl i 0 n1 qe sd ik kp hh)), ((a 15), aI cB 50 pg), ((a 21), aI cI 16 nt1), ((a 22), aI cI 16 no1)] H := hP
          replace hD : va_D A [(hm, ob 10 (mo a st lw tl wk pe ch pl i 0 n1 qe sd ik kp hh)), ((a 15), aI cB 50 pg), ((a 21), aI cI 16 nt1), ((a 22), aI cI 16 no1)] := hD
          exact z_vret hx hb hr hlocks hP hD hS dX10_readWeek_209 rfl (by first | exact Or.inl ⟨i, nt1, no1, (by rw [← hNN.2.1]), hLF, hNN.1, hNN.2.2⟩ | exact Or.inr ⟨i, n1, nt1, no1, rfl, hLF, hNN⟩)
        · refine lv_iload_n hx hb dX10_readWeek_196 rfl (lv_at hl 1 rfl) ?_
          refine lv_iconst (v := iZ 2) hx hb dX10_readWeek_197 (by decide) ?_
          refine z_icmp_ne (tgt := 205) hx hb dX10_readWeek_198 (by decide) (by first | assumption | omega) (by first | assumption | omega) (fun c_198 => ?_) (fun c_198 => ?_)
          · have hNN : ¬ WW pl pg := by (rcases hex with ⟨h8, h9⟩ | ⟨h8, h9, h10⟩); (have h7 := h9.2.1; intro h5; have h4 := h5.2; omega); exact bad_WW (by omega) h8 h9
            refine lv_iconst (v := iZ 0) hx hb dX10_readWeek_205 (by decide) ?_
            refine z_put (C := RX10) (T0 := TX10) (N := 36) (ci := 10) (v := .int (iZ 0)) hx hb hts hown hK hP hD hS iwX10 tyX10_ok nmX10 rfl 0 rfl 17 (by decide) fl98 rfl rfl rfl (Nat.le_of_ble_eq_true rfl) dX10_readWeek_206 (fun H locs hP hD hS => ?_)
            replace hP : va_P D vwCl [(hm, ob 10 (mo a st lw tl wk pe ch pl i 0 n1 qe sd ik kp hh)), ((a 15), aI cB 50 pg), ((a 21), aI cI 16 nt1), ((a 22), aI cI 16 no1)] H := hP
            replace hD : va_D A [(hm, ob 10 (mo a st lw tl wk pe ch pl i 0 n1 qe sd ik kp hh)), ((a 15), aI cB 50 pg), ((a 21), aI cI 16 nt1), ((a 22), aI cI 16 no1)] := hD
            exact z_vret hx hb hr hlocks hP hD hS dX10_readWeek_209 rfl (by first | exact Or.inl ⟨i, nt1, no1, (by rw [← hNN.2.1]), hLF, hNN.1, hNN.2.2⟩ | exact Or.inr ⟨i, n1, nt1, no1, rfl, hLF, hNN⟩)
          · have hNN : WW pl pg ∧ n1 = (pl + 1) / 3 ∧ (∀ j, 0 ≤ j → j < (pl + 1) / 3 → nt1 j = pg (3 * j) - 48 ∧ no1 j = pg (3 * j + 1) - 48) := by (rcases hex with ⟨h8, h9⟩ | ⟨h8, h9, h10⟩); (have h7 := h9.2.1; exact ⟨⟨h9.1, by omega⟩, h9.2.2.1, fun j q1 q2 => ⟨h9.2.2.2.1 j q1 (by omega), h9.2.2.2.2 j q1 (by omega)⟩⟩); (exfalso; omega)
            refine lv_iconst (v := iZ 1) hx hb dX10_readWeek_201 (by decide) ?_
            refine lv_goto (tgt := 206) hx hb dX10_readWeek_202 (by decide) ?_
            refine z_put (C := RX10) (T0 := TX10) (N := 36) (ci := 10) (v := .int (iZ 1)) hx hb hts hown hK hP hD hS iwX10 tyX10_ok nmX10 rfl 0 rfl 17 (by decide) fl98 rfl rfl rfl (Nat.le_of_ble_eq_true rfl) dX10_readWeek_206 (fun H locs hP hD hS => ?_)
            replace hP : va_P D vwCl [(hm, ob 10 (mo a st lw tl wk pe ch pl i 1 n1 qe sd ik kp hh)), ((a 15), aI cB 50 pg), ((a 21), aI cI 16 nt1), ((a 22), aI cI 16 no1)] H := hP
            replace hD : va_D A [(hm, ob 10 (mo a st lw tl wk pe ch pl i 1 n1 qe sd ik kp hh)), ((a 15), aI cB 50 pg), ((a 21), aI cI 16 nt1), ((a 22), aI cI 16 no1)] := hD
            exact z_vret hx hb hr hlocks hP hD hS dX10_readWeek_209 rfl (by first | exact Or.inl ⟨i, nt1, no1, (by rw [← hNN.2.1]), hLF, hNN.1, hNN.2.2⟩ | exact Or.inr ⟨i, n1, nt1, no1, rfl, hLF, hNN⟩)
      · refine lv_iload_n hx hb dX10_readWeek_19 rfl (lv_at hl 3 rfl) ?_
        refine z_if_eq (tgt := 182) hx hb dX10_readWeek_20 (by decide) (by first | assumption | omega) (fun c_20 => ?_) (fun c_20 => ?_)
        · have hex : (i = pl ∧ qW pg pl sv n1 nt1 no1) ∨ (i < pl ∧ ¬ goodW pg i ∧ allW pg i) := by (by_cases h9 : i < pl); (exact Or.inr (hbad (by omega))); (have h8 : i = pl := by omega); (have h7 := hrl (by rcases hgg with q | q; exact absurd (hbad q).1 (by omega); exact q)); rw [h8] at h7; exact Or.inl ⟨h8, h7⟩
          have hLF : WF pl pg i := by (rcases hex with ⟨h8, h9⟩ | ⟨h8, h9, h10⟩); (rw [h8]; exact WF_all (by omega) h9.1); exact ⟨by omega, by omega, h10, fun _ => h9⟩
          refine lv_aload_n hx hb dX10_readWeek_182 rfl (lv_at hl 0 rfl) ?_
          refine lv_iload_n hx hb dX10_readWeek_183 rfl (lv_at hl 2 rfl) ?_
          refine z_put (C := RX10) (T0 := TX10) (N := 36) (ci := 10) (v := .int (iZ i)) hx hb hts hown hK hP hD hS iwX10 tyX10_ok nmX10 rfl 0 rfl 16 (by decide) fl95 rfl rfl rfl (Nat.le_of_ble_eq_true rfl) dX10_readWeek_184 (fun H locs hP hD hS => ?_)
          replace hP : va_P D vwCl [(hm, ob 10 (mo a st lw tl wk pe ch pl i iw n1 qe sd ik kp hh)), ((a 15), aI cB 50 pg), ((a 21), aI cI 16 nt1), ((a 22), aI cI 16 no1)] H := hP
          replace hD : va_D A [(hm, ob 10 (mo a st lw tl wk pe ch pl i iw n1 qe sd ik kp hh)), ((a 15), aI cB 50 pg), ((a 21), aI cI 16 nt1), ((a 22), aI cI 16 no1)] := hD
          refine lv_aload_n hx hb dX10_readWeek_187 rfl (lv_at hl 0 rfl) ?_
          refine lv_iload_n hx hb dX10_readWeek_188 rfl (lv_at hl 2 rfl) ?_
          refine lv_aload_n hx hb dX10_readWeek_189 rfl (lv_at hl 0 rfl) ?_
          refine z_get (C := RX10) (T0 := TX10) (N := 36) (ci := 10) (v := .int (iZ pl)) hx hb hts hown hK hP iwX10 rfl 0 rfl 14 (by decide) fl81 rfl dX10_readWeek_190 ?_
          refine z_icmp_ne (tgt := 205) hx hb dX10_readWeek_193 (by decide) (by first | assumption | omega) (by first | assumption | omega) (fun c_193 => ?_) (fun c_193 => ?_)
          · have hNN : ¬ WW pl pg := by (rcases hex with ⟨h8, h9⟩ | ⟨h8, h9, h10⟩); (have h7 := h9.2.1; intro h5; have h4 := h5.2; omega); exact bad_WW (by omega) h8 h9
            refine lv_iconst (v := iZ 0) hx hb dX10_readWeek_205 (by decide) ?_
            refine z_put (C := RX10) (T0 := TX10) (N := 36) (ci := 10) (v := .int (iZ 0)) hx hb hts hown hK hP hD hS iwX10 tyX10_ok nmX10 rfl 0 rfl 17 (by decide) fl98 rfl rfl rfl (Nat.le_of_ble_eq_true rfl) dX10_readWeek_206 (fun H locs hP hD hS => ?_)
            replace hP : va_P D vwCl [(hm, ob 10 (mo a st lw tl wk pe ch pl i 0 n1 qe sd ik kp hh)), ((a 15), aI cB 50 pg), ((a 21), aI cI 16 nt1), ((a 22), aI cI 16 no1)] H := hP
            replace hD : va_D A [(hm, ob 10 (mo a st lw tl wk pe ch pl i 0 n1 qe sd ik kp hh)), ((a 15), aI cB 50 pg), ((a 21), aI cI 16 nt1), ((a 22), aI cI 16 no1)] := hD
            exact z_vret hx hb hr hlocks hP hD hS dX10_readWeek_209 rfl (by first | exact Or.inl ⟨i, nt1, no1, (by rw [← hNN.2.1]), hLF, hNN.1, hNN.2.2⟩ | exact Or.inr ⟨i, n1, nt1, no1, rfl, hLF, hNN⟩)
          · refine lv_iload_n hx hb dX10_readWeek_196 rfl (lv_at hl 1 rfl) ?_
            refine lv_iconst (v := iZ 2) hx hb dX10_readWeek_197 (by decide) ?_
            refine z_icmp_ne (tgt := 205) hx hb dX10_readWeek_198 (by decide) (by first | assumption | omega) (by first | assumption | omega) (fun c_198 => ?_) (fun c_198 => ?_)
            · have hNN : ¬ WW pl pg := by (rcases hex with ⟨h8, h9⟩ | ⟨h8, h9, h10⟩); (have h7 := h9.2.1; intro h5; have h4 := h5.2; omega); exact bad_WW (by omega) h8 h9
              refine lv_iconst (v := iZ 0) hx hb dX10_readWeek_205 (by decide) ?_
              refine z_put (C := RX10) (T0 := TX10) (N := 36) (ci := 10) (v := .int (iZ 0)) hx hb hts hown hK hP hD hS iwX10 tyX10_ok nmX10 rfl 0 rfl 17 (by decide) fl98 rfl rfl rfl (Nat.le_of_ble_eq_true rfl) dX10_readWeek_206 (fun H locs hP hD hS => ?_)
              replace hP : va_P D vwCl [(hm, ob 10 (mo a st lw tl wk pe ch pl i 0 n1 qe sd ik kp hh)), ((a 15), aI cB 50 pg), ((a 21), aI cI 16 nt1), ((a 22), aI cI 16 no1)] H := hP
              replace hD : va_D A [(hm, ob 10 (mo a st lw tl wk pe ch pl i 0 n1 qe sd ik kp hh)), ((a 15), aI cB 50 pg), ((a 21), aI cI 16 nt1), ((a 22), aI cI 16 no1)] := hD
              exact z_vret hx hb hr hlocks hP hD hS dX10_readWeek_209 rfl (by first | exact Or.inl ⟨i, nt1, no1, (by rw [← hNN.2.1]), hLF, hNN.1, hNN.2.2⟩ | exact Or.inr ⟨i, n1, nt1, no1, rfl, hLF, hNN⟩)
            · have hNN : WW pl pg ∧ n1 = (pl + 1) / 3 ∧ (∀ j, 0 ≤ j → j < (pl + 1) / 3 → nt1 j = pg (3 * j) - 48 ∧ no1 j = pg (3 * j + 1) - 48) := by (rcases hex with ⟨h8, h9⟩ | ⟨h8, h9, h10⟩); (have h7 := h9.2.1; exact ⟨⟨h9.1, by omega⟩, h9.2.2.1, fun j q1 q2 => ⟨h9.2.2.2.1 j q1 (by omega), h9.2.2.2.2 j q1 (by omega)⟩⟩); (exfalso; omega)
              refine lv_iconst (v := iZ 1) hx hb dX10_readWeek_201 (by decide) ?_
              refine lv_goto (tgt := 206) hx hb dX10_readWeek_202 (by decide) ?_
              refine z_put (C := RX10) (T0 := TX10) (N := 36) (ci := 10) (v := .int (iZ 1)) hx hb hts hown hK hP hD hS iwX10 tyX10_ok nmX10 rfl 0 rfl 17 (by decide) fl98 rfl rfl rfl (Nat.le_of_ble_eq_true rfl) dX10_readWeek_206 (fun H locs hP hD hS => ?_)
              replace hP : va_P D vwCl [(hm, ob 10 (mo a st lw tl wk pe ch pl i 1 n1 qe sd ik kp hh)), ((a 15), aI cB 50 pg), ((a 21), aI cI 16 nt1), ((a 22), aI cI 16 no1)] H := hP
              replace hD : va_D A [(hm, ob 10 (mo a st lw tl wk pe ch pl i 1 n1 qe sd ik kp hh)), ((a 15), aI cB 50 pg), ((a 21), aI cI 16 nt1), ((a 22), aI cI 16 no1)] := hD
              exact z_vret hx hb hr hlocks hP hD hS dX10_readWeek_209 rfl (by first | exact Or.inl ⟨i, nt1, no1, (by rw [← hNN.2.1]), hLF, hNN.1, hNN.2.2⟩ | exact Or.inr ⟨i, n1, nt1, no1, rfl, hLF, hNN⟩)
        · have hg1 : g = 1 := (by omega)
          have hr := hrl hg1
          have hrn := qW_n hr (by omega)
          have hpi := hpg i
          refine lv_aload_n hx hb dX10_readWeek_23 rfl (lv_at hl 0 rfl) ?_
          refine z_get (C := RX10) (T0 := TX10) (N := 36) (ci := 10) (v := .ref (a 15)) hx hb hts hown hK hP iwX10 rfl 0 rfl 15 (by decide) fl38 rfl dX10_readWeek_24 ?_
          refine lv_iload_n hx hb dX10_readWeek_27 rfl (lv_at hl 2 rfl) ?_
          refine z_bald hx hb hK hP 1 2 rfl rfl (by decide) (by first | assumption | omega) dX10_readWeek_28 ?_
          have rd_1 := hpg i
          refine lv_bipush (v := iZ 48) hx hb dX10_readWeek_29 (by decide) ?_
          refine z_isub hx hb dX10_readWeek_31 ?_
          refine lv_istore (lv' := [(4, .int (iZ ((pg i) - 48))), (0, .ref hm), (1, .int (iZ sv)), (2, .int (iZ i)), (3, .int (iZ g))]) hx hb dX10_readWeek_32 hl (by decide) rfl (fun ls hl => ?_)
          refine lv_iload hx hb dX10_readWeek_34 (lv_at hl 0 rfl) ?_
          refine lv_iconst (v := iZ 0) hx hb dX10_readWeek_36 (by decide) ?_
          refine lv_bipush (v := iZ 7) hx hb dX10_readWeek_37 (by decide) ?_
          refine z_Si (As := [.int (iZ ((pg i) - 48)), .int (iZ 0), .int (iZ 7)]) (rest := []) hC (c_X10_within l D cI cJ cB ((pg i) - 48) 0 7 (by first | assumption | omega) (by first | assumption | omega) (by first | assumption | omega)) 3 gX10_readWeek_X10_within rfl rfl rfl qX10_within ⟨Nat.le_of_ble_eq_true rfl, Nat.le_of_ble_eq_true rfl⟩ ⟨Nat.le_refl _, Nat.le_refl _⟩ hK hP hD hS hA [] rfl (by decide) rfl hl.1 rfl (Nat.le_of_ble_eq_true rfl) dX10_readWeek_39 (fun z w H locs hq hP hD hS => ?_)
          rcases hq with ⟨rfl, rfl, hc2_0⟩ | ⟨rfl, rfl, hc2_0⟩
          · replace hP : va_P D vwCl [(hm, ob 10 (mo a st lw tl wk pe ch pl fa iw n1 qe sd ik kp hh)), ((a 15), aI cB 50 pg), ((a 21), aI cI 16 nt1), ((a 22), aI cI 16 no1)] H := hP
            replace hD : va_D A [(hm, ob 10 (mo a st lw tl wk pe ch pl fa iw n1 qe sd ik kp hh)), ((a 15), aI cB 50 pg), ((a 21), aI cI 16 nt1), ((a 22), aI cI 16 no1)] := hD
            refine lv_istore (lv' := [(5, .int (iZ 1)), (4, .int (iZ ((pg i) - 48))), (0, .ref hm), (1, .int (iZ sv)), (2, .int (iZ i)), (3, .int (iZ g))]) hx hb dX10_readWeek_42 hl (by decide) rfl (fun ls hl => ?_)
            refine lv_iload_n hx hb dX10_readWeek_44 rfl (lv_at hl 3 rfl) ?_
            refine z_if_ne (tgt := 65) hx hb dX10_readWeek_45 (by decide) (by first | assumption | omega) (fun c_45 => ?_) (fun c_45 => ?_)
            · refine lv_iload_n hx hb dX10_readWeek_65 rfl (lv_at hl 3 rfl) ?_
              refine lv_iconst (v := iZ 1) hx hb dX10_readWeek_66 (by decide) ?_
              refine z_icmp_ne (tgt := 127) hx hb dX10_readWeek_67 (by decide) (by first | assumption | omega) (by first | assumption | omega) (fun c_67 => ?_) (fun c_67 => ?_)
              · refine lv_aload_n hx hb dX10_readWeek_127 rfl (lv_at hl 2 rfl) ?_
                refine z_get (C := RX10) (T0 := TX10) (N := 36) (ci := 10) (v := .ref (a 15)) hx hb hts hown hK hP iwX10 rfl 0 rfl 15 (by decide) fl38 rfl dX10_readWeek_128 ?_
                refine lv_iload_n hx hb dX10_readWeek_131 rfl (lv_at hl 4 rfl) ?_
                refine z_bald hx hb hK hP 1 2 rfl rfl (by decide) (by first | assumption | omega) dX10_readWeek_132 ?_
                have rd_3 := hpg i
                refine lv_bipush (v := iZ 44) hx hb dX10_readWeek_133 (by decide) ?_
                refine z_icmp_ne (tgt := 151) hx hb dX10_readWeek_135 (by decide) (by first | assumption | omega) (by first | assumption | omega) (fun c_135 => ?_) (fun c_135 => ?_)
                · refine lv_iconst (v := iZ 0) hx hb dX10_readWeek_151 (by decide) ?_
                  refine lv_istore_n (lv' := [(3, .int (iZ 0)), (5, .int (iZ 1)), (4, .int (iZ ((pg i) - 48))), (0, .ref hm), (1, .int (iZ sv)), (2, .int (iZ i))]) hx hb dX10_readWeek_152 rfl hl (by decide) rfl (fun ls hl => ?_)
                  refine lv_iload_n hx hb dX10_readWeek_153 rfl (lv_at hl 0 rfl) ?_
                  refine z_if_eq (tgt := 165) hx hb dX10_readWeek_154 (by decide) (by first | assumption | omega) (fun _ => ?_) (fun h => absurd h (by decide))
                  refine lv_iload_n hx hb dX10_readWeek_165 rfl (lv_at hl 4 rfl) ?_
                  refine lv_istore_n (lv' := [(1, .int (iZ sv)), (3, .int (iZ 0)), (5, .int (iZ 1)), (4, .int (iZ ((pg i) - 48))), (0, .ref hm), (2, .int (iZ i))]) hx hb dX10_readWeek_166 rfl hl (by decide) rfl (fun ls hl => ?_)
                  refine lv_iload_n hx hb dX10_readWeek_167 rfl (lv_at hl 5 rfl) ?_
                  refine lv_iload_n hx hb dX10_readWeek_168 rfl (lv_at hl 1 rfl) ?_
                  refine z_if_eq (tgt := 176) hx hb dX10_readWeek_169 (by decide) (by first | assumption | omega) (fun _ => ?_) (fun h => absurd h (by decide))
                  refine lv_iconst (v := iZ 0) hx hb dX10_readWeek_176 (by decide) ?_
                  refine z_iadd hx hb dX10_readWeek_177 ?_
                  refine lv_istore_n (lv' := [(2, .int (iZ (i + 0))), (1, .int (iZ sv)), (3, .int (iZ 0)), (5, .int (iZ 1)), (4, .int (iZ ((pg i) - 48))), (0, .ref hm)]) hx hb dX10_readWeek_178 rfl hl (by decide) rfl (fun ls hl => ?_)
                  refine lv_goto (tgt := 11) hx hb dX10_readWeek_179 (by decide) ?_
                  exact ih11 (i + 0) sv 0 n1 nt1 no1 (by first | assumption | omega) (by first | exact Or.inl rfl | exact Or.inr rfl) (by first | assumption | omega) (by first | (intro h9; exact absurd h9 (by decide)) | (intro _; first | exact qW_a hr (by omega) (by omega) (by omega) | exact qW_b hr (by omega) (by omega) (by omega) (by assumption) | exact qW_c hr (by omega) (by assumption) (by assumption) (by omega) (by omega))) (by first | (intro h9; exact absurd h9 (by decide)) | (intro _; rw [show i + 0 = i from by omega]; refine ⟨by omega, ?_, hr.1⟩; intro h8; have h7 := h8.2; have h6 := h8.1; (first | omega | (have h5 := qW_t hr (by omega) (by assumption); omega)))) (by omega) _ _ _ hP hD hS (lv_sub hl [5, 1, 0, 2] rfl)
                · refine lv_aload_n hx hb dX10_readWeek_138 rfl (lv_at hl 2 rfl) ?_
                  refine z_get (C := RX10) (T0 := TX10) (N := 36) (ci := 10) (v := .int (iZ n1)) hx hb hts hown hK hP iwX10 rfl 0 rfl 18 (by decide) fl84 rfl dX10_readWeek_139 ?_
                  refine lv_bipush (v := iZ 16) hx hb dX10_readWeek_142 (by decide) ?_
                  refine z_icmp_ge (tgt := 151) hx hb dX10_readWeek_144 (by decide) (by first | assumption | omega) (by first | assumption | omega) (fun c_144 => ?_) (fun c_144 => ?_)
                  · refine lv_iconst (v := iZ 0) hx hb dX10_readWeek_151 (by decide) ?_
                    refine lv_istore_n (lv' := [(3, .int (iZ 0)), (5, .int (iZ 1)), (4, .int (iZ ((pg i) - 48))), (0, .ref hm), (1, .int (iZ sv)), (2, .int (iZ i))]) hx hb dX10_readWeek_152 rfl hl (by decide) rfl (fun ls hl => ?_)
                    refine lv_iload_n hx hb dX10_readWeek_153 rfl (lv_at hl 0 rfl) ?_
                    refine z_if_eq (tgt := 165) hx hb dX10_readWeek_154 (by decide) (by first | assumption | omega) (fun _ => ?_) (fun h => absurd h (by decide))
                    refine lv_iload_n hx hb dX10_readWeek_165 rfl (lv_at hl 4 rfl) ?_
                    refine lv_istore_n (lv' := [(1, .int (iZ sv)), (3, .int (iZ 0)), (5, .int (iZ 1)), (4, .int (iZ ((pg i) - 48))), (0, .ref hm), (2, .int (iZ i))]) hx hb dX10_readWeek_166 rfl hl (by decide) rfl (fun ls hl => ?_)
                    refine lv_iload_n hx hb dX10_readWeek_167 rfl (lv_at hl 5 rfl) ?_
                    refine lv_iload_n hx hb dX10_readWeek_168 rfl (lv_at hl 1 rfl) ?_
                    refine z_if_eq (tgt := 176) hx hb dX10_readWeek_169 (by decide) (by first | assumption | omega) (fun _ => ?_) (fun h => absurd h (by decide))
                    refine lv_iconst (v := iZ 0) hx hb dX10_readWeek_176 (by decide) ?_
                    refine z_iadd hx hb dX10_readWeek_177 ?_
                    refine lv_istore_n (lv' := [(2, .int (iZ (i + 0))), (1, .int (iZ sv)), (3, .int (iZ 0)), (5, .int (iZ 1)), (4, .int (iZ ((pg i) - 48))), (0, .ref hm)]) hx hb dX10_readWeek_178 rfl hl (by decide) rfl (fun ls hl => ?_)
                    refine lv_goto (tgt := 11) hx hb dX10_readWeek_179 (by decide) ?_
                    exact ih11 (i + 0) sv 0 n1 nt1 no1 (by first | assumption | omega) (by first | exact Or.inl rfl | exact Or.inr rfl) (by first | assumption | omega) (by first | (intro h9; exact absurd h9 (by decide)) | (intro _; first | exact qW_a hr (by omega) (by omega) (by omega) | exact qW_b hr (by omega) (by omega) (by omega) (by assumption) | exact qW_c hr (by omega) (by assumption) (by assumption) (by omega) (by omega))) (by first | (intro h9; exact absurd h9 (by decide)) | (intro _; rw [show i + 0 = i from by omega]; refine ⟨by omega, ?_, hr.1⟩; intro h8; have h7 := h8.2; have h6 := h8.1; (first | omega | (have h5 := qW_t hr (by omega) (by assumption); omega)))) (by omega) _ _ _ hP hD hS (lv_sub hl [5, 1, 0, 2] rfl)
                  · refine lv_iconst (v := iZ 1) hx hb dX10_readWeek_147 (by decide) ?_
                    refine lv_goto (tgt := 152) hx hb dX10_readWeek_148 (by decide) ?_
                    refine lv_istore_n (lv' := [(3, .int (iZ 1)), (5, .int (iZ 1)), (4, .int (iZ ((pg i) - 48))), (0, .ref hm), (1, .int (iZ sv)), (2, .int (iZ i))]) hx hb dX10_readWeek_152 rfl hl (by decide) rfl (fun ls hl => ?_)
                    refine lv_iload_n hx hb dX10_readWeek_153 rfl (lv_at hl 0 rfl) ?_
                    refine z_if_eq (tgt := 165) hx hb dX10_readWeek_154 (by decide) (by first | assumption | omega) (fun h => absurd h (by decide)) (fun _ => ?_)
                    refine lv_iload_n hx hb dX10_readWeek_157 rfl (lv_at hl 4 rfl) ?_
                    refine lv_iconst (v := iZ 1) hx hb dX10_readWeek_158 (by decide) ?_
                    refine z_iadd hx hb dX10_readWeek_159 ?_
                    refine lv_iconst (v := iZ 3) hx hb dX10_readWeek_160 (by decide) ?_
                    refine z_irem hx hb dX10_readWeek_161 (by first | assumption | omega) (by first | assumption | omega) ?_
                    refine lv_goto (tgt := 166) hx hb dX10_readWeek_162 (by decide) ?_
                    refine lv_istore_n (lv' := [(1, .int (iZ ((sv + 1) % 3))), (3, .int (iZ 1)), (5, .int (iZ 1)), (4, .int (iZ ((pg i) - 48))), (0, .ref hm), (2, .int (iZ i))]) hx hb dX10_readWeek_166 rfl hl (by decide) rfl (fun ls hl => ?_)
                    refine lv_iload_n hx hb dX10_readWeek_167 rfl (lv_at hl 5 rfl) ?_
                    refine lv_iload_n hx hb dX10_readWeek_168 rfl (lv_at hl 1 rfl) ?_
                    refine z_if_eq (tgt := 176) hx hb dX10_readWeek_169 (by decide) (by first | assumption | omega) (fun h => absurd h (by decide)) (fun _ => ?_)
                    refine lv_iconst (v := iZ 1) hx hb dX10_readWeek_172 (by decide) ?_
                    refine lv_goto (tgt := 177) hx hb dX10_readWeek_173 (by decide) ?_
                    refine z_iadd hx hb dX10_readWeek_177 ?_
                    refine lv_istore_n (lv' := [(2, .int (iZ (i + 1))), (1, .int (iZ ((sv + 1) % 3))), (3, .int (iZ 1)), (5, .int (iZ 1)), (4, .int (iZ ((pg i) - 48))), (0, .ref hm)]) hx hb dX10_readWeek_178 rfl hl (by decide) rfl (fun ls hl => ?_)
                    refine lv_goto (tgt := 11) hx hb dX10_readWeek_179 (by decide) ?_
                    exact ih11 (i + 1) ((sv + 1) % 3) 1 n1 nt1 no1 (by first | assumption | omega) (by first | exact Or.inl rfl | exact Or.inr rfl) (by first | assumption | omega) (by first | (intro h9; exact absurd h9 (by decide)) | (intro _; first | exact qW_a hr (by omega) (by omega) (by omega) | exact qW_b hr (by omega) (by omega) (by omega) (by assumption) | exact qW_c hr (by omega) (by assumption) (by assumption) (by omega) (by omega))) (by first | (intro h9; exact absurd h9 (by decide)) | (intro _; rw [show i + 0 = i from by omega]; refine ⟨by omega, ?_, hr.1⟩; intro h8; have h7 := h8.2; have h6 := h8.1; (first | omega | (have h5 := qW_t hr (by omega) (by assumption); omega)))) (by omega) _ _ _ hP hD hS (lv_sub hl [5, 1, 0, 2] rfl)
              · refine lv_iload hx hb dX10_readWeek_70 (lv_at hl 0 rfl) ?_
                refine z_if_eq (tgt := 93) hx hb dX10_readWeek_72 (by decide) (by first | assumption | omega) (fun h => absurd h (by decide)) (fun _ => ?_)
                refine lv_iload hx hb dX10_readWeek_75 (lv_at hl 1 rfl) ?_
                have ht9 := qW_t hr (by omega) (by omega)
                have hpi1 := hpg (i - 1)
                refine lv_aload_n hx hb dX10_readWeek_77 rfl (lv_at hl 2 rfl) ?_
                refine z_get (C := RX10) (T0 := TX10) (N := 36) (ci := 10) (v := .ref (a 21)) hx hb hts hown hK hP iwX10 rfl 0 rfl 21 (by decide) fl48 rfl dX10_readWeek_78 ?_
                refine lv_aload_n hx hb dX10_readWeek_81 rfl (lv_at hl 2 rfl) ?_
                refine z_get (C := RX10) (T0 := TX10) (N := 36) (ci := 10) (v := .int (iZ n1)) hx hb hts hown hK hP iwX10 rfl 0 rfl 18 (by decide) fl84 rfl dX10_readWeek_82 ?_
                refine z_iald hx hb hK hP 2 0 rfl rfl (by decide) (by first | assumption | omega) dX10_readWeek_85 ?_
                refine z_icmp_eq (tgt := 93) hx hb dX10_readWeek_86 (by decide) (by first | assumption | omega) (by first | assumption | omega) (fun c_86 => ?_) (fun c_86 => ?_)
                · refine lv_iconst (v := iZ 0) hx hb dX10_readWeek_93 (by decide) ?_
                  refine lv_istore_n (lv' := [(3, .int (iZ 0)), (5, .int (iZ 1)), (4, .int (iZ ((pg i) - 48))), (0, .ref hm), (1, .int (iZ sv)), (2, .int (iZ i))]) hx hb dX10_readWeek_94 rfl hl (by decide) rfl (fun ls hl => ?_)
                  refine lv_aload_n hx hb dX10_readWeek_95 rfl (lv_at hl 3 rfl) ?_
                  refine z_get (C := RX10) (T0 := TX10) (N := 36) (ci := 10) (v := .ref (a 22)) hx hb hts hown hK hP iwX10 rfl 0 rfl 22 (by decide) fl51 rfl dX10_readWeek_96 ?_
                  refine lv_aload_n hx hb dX10_readWeek_99 rfl (lv_at hl 3 rfl) ?_
                  refine z_get (C := RX10) (T0 := TX10) (N := 36) (ci := 10) (v := .int (iZ n1)) hx hb hts hown hK hP iwX10 rfl 0 rfl 18 (by decide) fl84 rfl dX10_readWeek_100 ?_
                  refine lv_iload hx hb dX10_readWeek_103 (lv_at hl 2 rfl) ?_
                  refine z_iast hx hb hK hP hD hS 3 0 rfl rfl (by decide) (by first | assumption | omega) dX10_readWeek_105 (fun H locs hP hD hS => ?_)
                  replace hP : va_P D vwCl [(hm, ob 10 (mo a st lw tl wk pe ch pl fa iw n1 qe sd ik kp hh)), ((a 15), aI cB 50 pg), ((a 21), aI cI 16 nt1), ((a 22), aI cI 16 (zu no1 n1 ((pg i) - 48)))] H := hP
                  replace hD : va_D A [(hm, ob 10 (mo a st lw tl wk pe ch pl fa iw n1 qe sd ik kp hh)), ((a 15), aI cB 50 pg), ((a 21), aI cI 16 nt1), ((a 22), aI cI 16 (zu no1 n1 ((pg i) - 48)))] := hD
                  refine lv_aload_n hx hb dX10_readWeek_106 rfl (lv_at hl 3 rfl) ?_
                  refine lv_dup hx hb dX10_readWeek_107 rfl ?_
                  refine z_get (C := RX10) (T0 := TX10) (N := 36) (ci := 10) (v := .int (iZ n1)) hx hb hts hown hK hP iwX10 rfl 0 rfl 18 (by decide) fl84 rfl dX10_readWeek_108 ?_
                  refine lv_iload_n hx hb dX10_readWeek_111 rfl (lv_at hl 0 rfl) ?_
                  refine z_if_eq (tgt := 119) hx hb dX10_readWeek_112 (by decide) (by first | assumption | omega) (fun _ => ?_) (fun h => absurd h (by decide))
                  refine lv_iconst (v := iZ 0) hx hb dX10_readWeek_119 (by decide) ?_
                  refine z_iadd hx hb dX10_readWeek_120 ?_
                  refine z_put (C := RX10) (T0 := TX10) (N := 36) (ci := 10) (v := .int (iZ (n1 + 0))) hx hb hts hown hK hP hD hS iwX10 tyX10_ok nmX10 rfl 0 rfl 18 (by decide) fl84 rfl rfl rfl (Nat.le_of_ble_eq_true rfl) dX10_readWeek_121 (fun H locs hP hD hS => ?_)
                  replace hP : va_P D vwCl [(hm, ob 10 (mo a st lw tl wk pe ch pl fa iw (n1 + 0) qe sd ik kp hh)), ((a 15), aI cB 50 pg), ((a 21), aI cI 16 nt1), ((a 22), aI cI 16 (zu no1 n1 ((pg i) - 48)))] H := hP
                  replace hD : va_D A [(hm, ob 10 (mo a st lw tl wk pe ch pl fa iw (n1 + 0) qe sd ik kp hh)), ((a 15), aI cB 50 pg), ((a 21), aI cI 16 nt1), ((a 22), aI cI 16 (zu no1 n1 ((pg i) - 48)))] := hD
                  refine lv_goto (tgt := 153) hx hb dX10_readWeek_124 (by decide) ?_
                  refine lv_iload_n hx hb dX10_readWeek_153 rfl (lv_at hl 0 rfl) ?_
                  refine z_if_eq (tgt := 165) hx hb dX10_readWeek_154 (by decide) (by first | assumption | omega) (fun _ => ?_) (fun h => absurd h (by decide))
                  refine lv_iload_n hx hb dX10_readWeek_165 rfl (lv_at hl 4 rfl) ?_
                  refine lv_istore_n (lv' := [(1, .int (iZ sv)), (3, .int (iZ 0)), (5, .int (iZ 1)), (4, .int (iZ ((pg i) - 48))), (0, .ref hm), (2, .int (iZ i))]) hx hb dX10_readWeek_166 rfl hl (by decide) rfl (fun ls hl => ?_)
                  refine lv_iload_n hx hb dX10_readWeek_167 rfl (lv_at hl 5 rfl) ?_
                  refine lv_iload_n hx hb dX10_readWeek_168 rfl (lv_at hl 1 rfl) ?_
                  refine z_if_eq (tgt := 176) hx hb dX10_readWeek_169 (by decide) (by first | assumption | omega) (fun _ => ?_) (fun h => absurd h (by decide))
                  refine lv_iconst (v := iZ 0) hx hb dX10_readWeek_176 (by decide) ?_
                  refine z_iadd hx hb dX10_readWeek_177 ?_
                  refine lv_istore_n (lv' := [(2, .int (iZ (i + 0))), (1, .int (iZ sv)), (3, .int (iZ 0)), (5, .int (iZ 1)), (4, .int (iZ ((pg i) - 48))), (0, .ref hm)]) hx hb dX10_readWeek_178 rfl hl (by decide) rfl (fun ls hl => ?_)
                  refine lv_goto (tgt := 11) hx hb dX10_readWeek_179 (by decide) ?_
                  exact ih11 (i + 0) sv 0 (n1 + 0) nt1 (zu no1 n1 ((pg i) - 48)) (by first | assumption | omega) (by first | exact Or.inl rfl | exact Or.inr rfl) (by first | assumption | omega) (by first | (intro h9; exact absurd h9 (by decide)) | (intro _; first | exact qW_a hr (by omega) (by omega) (by omega) | exact qW_b hr (by omega) (by omega) (by omega) (by assumption) | exact qW_c hr (by omega) (by assumption) (by assumption) (by omega) (by omega))) (by first | (intro h9; exact absurd h9 (by decide)) | (intro _; rw [show i + 0 = i from by omega]; refine ⟨by omega, ?_, hr.1⟩; intro h8; have h7 := h8.2; have h6 := h8.1; (first | omega | (have h5 := qW_t hr (by omega) (by assumption); omega)))) (by omega) _ _ _ hP hD hS (lv_sub hl [5, 1, 0, 2] rfl)
                · refine lv_iconst (v := iZ 1) hx hb dX10_readWeek_89 (by decide) ?_
                  refine lv_goto (tgt := 94) hx hb dX10_readWeek_90 (by decide) ?_
                  refine lv_istore_n (lv' := [(3, .int (iZ 1)), (5, .int (iZ 1)), (4, .int (iZ ((pg i) - 48))), (0, .ref hm), (1, .int (iZ sv)), (2, .int (iZ i))]) hx hb dX10_readWeek_94 rfl hl (by decide) rfl (fun ls hl => ?_)
                  refine lv_aload_n hx hb dX10_readWeek_95 rfl (lv_at hl 3 rfl) ?_
                  refine z_get (C := RX10) (T0 := TX10) (N := 36) (ci := 10) (v := .ref (a 22)) hx hb hts hown hK hP iwX10 rfl 0 rfl 22 (by decide) fl51 rfl dX10_readWeek_96 ?_
                  refine lv_aload_n hx hb dX10_readWeek_99 rfl (lv_at hl 3 rfl) ?_
                  refine z_get (C := RX10) (T0 := TX10) (N := 36) (ci := 10) (v := .int (iZ n1)) hx hb hts hown hK hP iwX10 rfl 0 rfl 18 (by decide) fl84 rfl dX10_readWeek_100 ?_
                  refine lv_iload hx hb dX10_readWeek_103 (lv_at hl 2 rfl) ?_
                  refine z_iast hx hb hK hP hD hS 3 0 rfl rfl (by decide) (by first | assumption | omega) dX10_readWeek_105 (fun H locs hP hD hS => ?_)
                  replace hP : va_P D vwCl [(hm, ob 10 (mo a st lw tl wk pe ch pl fa iw n1 qe sd ik kp hh)), ((a 15), aI cB 50 pg), ((a 21), aI cI 16 nt1), ((a 22), aI cI 16 (zu no1 n1 ((pg i) - 48)))] H := hP
                  replace hD : va_D A [(hm, ob 10 (mo a st lw tl wk pe ch pl fa iw n1 qe sd ik kp hh)), ((a 15), aI cB 50 pg), ((a 21), aI cI 16 nt1), ((a 22), aI cI 16 (zu no1 n1 ((pg i) - 48)))] := hD
                  refine lv_aload_n hx hb dX10_readWeek_106 rfl (lv_at hl 3 rfl) ?_
                  refine lv_dup hx hb dX10_readWeek_107 rfl ?_
                  refine z_get (C := RX10) (T0 := TX10) (N := 36) (ci := 10) (v := .int (iZ n1)) hx hb hts hown hK hP iwX10 rfl 0 rfl 18 (by decide) fl84 rfl dX10_readWeek_108 ?_
                  refine lv_iload_n hx hb dX10_readWeek_111 rfl (lv_at hl 0 rfl) ?_
                  refine z_if_eq (tgt := 119) hx hb dX10_readWeek_112 (by decide) (by first | assumption | omega) (fun h => absurd h (by decide)) (fun _ => ?_)
                  refine lv_iconst (v := iZ 1) hx hb dX10_readWeek_115 (by decide) ?_
                  refine lv_goto (tgt := 120) hx hb dX10_readWeek_116 (by decide) ?_
                  refine z_iadd hx hb dX10_readWeek_120 ?_
                  refine z_put (C := RX10) (T0 := TX10) (N := 36) (ci := 10) (v := .int (iZ (n1 + 1))) hx hb hts hown hK hP hD hS iwX10 tyX10_ok nmX10 rfl 0 rfl 18 (by decide) fl84 rfl rfl rfl (Nat.le_of_ble_eq_true rfl) dX10_readWeek_121 (fun H locs hP hD hS => ?_)
                  replace hP : va_P D vwCl [(hm, ob 10 (mo a st lw tl wk pe ch pl fa iw (n1 + 1) qe sd ik kp hh)), ((a 15), aI cB 50 pg), ((a 21), aI cI 16 nt1), ((a 22), aI cI 16 (zu no1 n1 ((pg i) - 48)))] H := hP
                  replace hD : va_D A [(hm, ob 10 (mo a st lw tl wk pe ch pl fa iw (n1 + 1) qe sd ik kp hh)), ((a 15), aI cB 50 pg), ((a 21), aI cI 16 nt1), ((a 22), aI cI 16 (zu no1 n1 ((pg i) - 48)))] := hD
                  refine lv_goto (tgt := 153) hx hb dX10_readWeek_124 (by decide) ?_
                  refine lv_iload_n hx hb dX10_readWeek_153 rfl (lv_at hl 0 rfl) ?_
                  refine z_if_eq (tgt := 165) hx hb dX10_readWeek_154 (by decide) (by first | assumption | omega) (fun h => absurd h (by decide)) (fun _ => ?_)
                  refine lv_iload_n hx hb dX10_readWeek_157 rfl (lv_at hl 4 rfl) ?_
                  refine lv_iconst (v := iZ 1) hx hb dX10_readWeek_158 (by decide) ?_
                  refine z_iadd hx hb dX10_readWeek_159 ?_
                  refine lv_iconst (v := iZ 3) hx hb dX10_readWeek_160 (by decide) ?_
                  refine z_irem hx hb dX10_readWeek_161 (by first | assumption | omega) (by first | assumption | omega) ?_
                  refine lv_goto (tgt := 166) hx hb dX10_readWeek_162 (by decide) ?_
                  refine lv_istore_n (lv' := [(1, .int (iZ ((sv + 1) % 3))), (3, .int (iZ 1)), (5, .int (iZ 1)), (4, .int (iZ ((pg i) - 48))), (0, .ref hm), (2, .int (iZ i))]) hx hb dX10_readWeek_166 rfl hl (by decide) rfl (fun ls hl => ?_)
                  refine lv_iload_n hx hb dX10_readWeek_167 rfl (lv_at hl 5 rfl) ?_
                  refine lv_iload_n hx hb dX10_readWeek_168 rfl (lv_at hl 1 rfl) ?_
                  refine z_if_eq (tgt := 176) hx hb dX10_readWeek_169 (by decide) (by first | assumption | omega) (fun h => absurd h (by decide)) (fun _ => ?_)
                  refine lv_iconst (v := iZ 1) hx hb dX10_readWeek_172 (by decide) ?_
                  refine lv_goto (tgt := 177) hx hb dX10_readWeek_173 (by decide) ?_
                  refine z_iadd hx hb dX10_readWeek_177 ?_
                  refine lv_istore_n (lv' := [(2, .int (iZ (i + 1))), (1, .int (iZ ((sv + 1) % 3))), (3, .int (iZ 1)), (5, .int (iZ 1)), (4, .int (iZ ((pg i) - 48))), (0, .ref hm)]) hx hb dX10_readWeek_178 rfl hl (by decide) rfl (fun ls hl => ?_)
                  refine lv_goto (tgt := 11) hx hb dX10_readWeek_179 (by decide) ?_
                  exact ih11 (i + 1) ((sv + 1) % 3) 1 (n1 + 1) nt1 (zu no1 n1 ((pg i) - 48)) (by first | assumption | omega) (by first | exact Or.inl rfl | exact Or.inr rfl) (by first | assumption | omega) (by first | (intro h9; exact absurd h9 (by decide)) | (intro _; first | exact qW_a hr (by omega) (by omega) (by omega) | exact qW_b hr (by omega) (by omega) (by omega) (by assumption) | exact qW_c hr (by omega) (by assumption) (by assumption) (by omega) (by omega))) (by first | (intro h9; exact absurd h9 (by decide)) | (intro _; rw [show i + 0 = i from by omega]; refine ⟨by omega, ?_, hr.1⟩; intro h8; have h7 := h8.2; have h6 := h8.1; (first | omega | (have h5 := qW_t hr (by omega) (by assumption); omega)))) (by omega) _ _ _ hP hD hS (lv_sub hl [5, 1, 0, 2] rfl)
            · refine lv_iload hx hb dX10_readWeek_48 (lv_at hl 0 rfl) ?_
              refine lv_istore_n (lv' := [(3, .int (iZ 1)), (5, .int (iZ 1)), (4, .int (iZ ((pg i) - 48))), (0, .ref hm), (1, .int (iZ sv)), (2, .int (iZ i))]) hx hb dX10_readWeek_50 rfl hl (by decide) rfl (fun ls hl => ?_)
              refine lv_aload_n hx hb dX10_readWeek_51 rfl (lv_at hl 3 rfl) ?_
              refine z_get (C := RX10) (T0 := TX10) (N := 36) (ci := 10) (v := .ref (a 21)) hx hb hts hown hK hP iwX10 rfl 0 rfl 21 (by decide) fl48 rfl dX10_readWeek_52 ?_
              refine lv_aload_n hx hb dX10_readWeek_55 rfl (lv_at hl 3 rfl) ?_
              refine z_get (C := RX10) (T0 := TX10) (N := 36) (ci := 10) (v := .int (iZ n1)) hx hb hts hown hK hP iwX10 rfl 0 rfl 18 (by decide) fl84 rfl dX10_readWeek_56 ?_
              refine lv_iload hx hb dX10_readWeek_59 (lv_at hl 2 rfl) ?_
              refine z_iast hx hb hK hP hD hS 2 0 rfl rfl (by decide) (by first | assumption | omega) dX10_readWeek_61 (fun H locs hP hD hS => ?_)
              replace hP : va_P D vwCl [(hm, ob 10 (mo a st lw tl wk pe ch pl fa iw n1 qe sd ik kp hh)), ((a 15), aI cB 50 pg), ((a 21), aI cI 16 (zu nt1 n1 ((pg i) - 48))), ((a 22), aI cI 16 no1)] H := hP
              replace hD : va_D A [(hm, ob 10 (mo a st lw tl wk pe ch pl fa iw n1 qe sd ik kp hh)), ((a 15), aI cB 50 pg), ((a 21), aI cI 16 (zu nt1 n1 ((pg i) - 48))), ((a 22), aI cI 16 no1)] := hD
              refine lv_goto (tgt := 153) hx hb dX10_readWeek_62 (by decide) ?_
              refine lv_iload_n hx hb dX10_readWeek_153 rfl (lv_at hl 0 rfl) ?_
              refine z_if_eq (tgt := 165) hx hb dX10_readWeek_154 (by decide) (by first | assumption | omega) (fun h => absurd h (by decide)) (fun _ => ?_)
              refine lv_iload_n hx hb dX10_readWeek_157 rfl (lv_at hl 4 rfl) ?_
              refine lv_iconst (v := iZ 1) hx hb dX10_readWeek_158 (by decide) ?_
              refine z_iadd hx hb dX10_readWeek_159 ?_
              refine lv_iconst (v := iZ 3) hx hb dX10_readWeek_160 (by decide) ?_
              refine z_irem hx hb dX10_readWeek_161 (by first | assumption | omega) (by first | assumption | omega) ?_
              refine lv_goto (tgt := 166) hx hb dX10_readWeek_162 (by decide) ?_
              refine lv_istore_n (lv' := [(1, .int (iZ ((sv + 1) % 3))), (3, .int (iZ 1)), (5, .int (iZ 1)), (4, .int (iZ ((pg i) - 48))), (0, .ref hm), (2, .int (iZ i))]) hx hb dX10_readWeek_166 rfl hl (by decide) rfl (fun ls hl => ?_)
              refine lv_iload_n hx hb dX10_readWeek_167 rfl (lv_at hl 5 rfl) ?_
              refine lv_iload_n hx hb dX10_readWeek_168 rfl (lv_at hl 1 rfl) ?_
              refine z_if_eq (tgt := 176) hx hb dX10_readWeek_169 (by decide) (by first | assumption | omega) (fun h => absurd h (by decide)) (fun _ => ?_)
              refine lv_iconst (v := iZ 1) hx hb dX10_readWeek_172 (by decide) ?_
              refine lv_goto (tgt := 177) hx hb dX10_readWeek_173 (by decide) ?_
              refine z_iadd hx hb dX10_readWeek_177 ?_
              refine lv_istore_n (lv' := [(2, .int (iZ (i + 1))), (1, .int (iZ ((sv + 1) % 3))), (3, .int (iZ 1)), (5, .int (iZ 1)), (4, .int (iZ ((pg i) - 48))), (0, .ref hm)]) hx hb dX10_readWeek_178 rfl hl (by decide) rfl (fun ls hl => ?_)
              refine lv_goto (tgt := 11) hx hb dX10_readWeek_179 (by decide) ?_
              exact ih11 (i + 1) ((sv + 1) % 3) 1 n1 (zu nt1 n1 ((pg i) - 48)) no1 (by first | assumption | omega) (by first | exact Or.inl rfl | exact Or.inr rfl) (by first | assumption | omega) (by first | (intro h9; exact absurd h9 (by decide)) | (intro _; first | exact qW_a hr (by omega) (by omega) (by omega) | exact qW_b hr (by omega) (by omega) (by omega) (by assumption) | exact qW_c hr (by omega) (by assumption) (by assumption) (by omega) (by omega))) (by first | (intro h9; exact absurd h9 (by decide)) | (intro _; rw [show i + 0 = i from by omega]; refine ⟨by omega, ?_, hr.1⟩; intro h8; have h7 := h8.2; have h6 := h8.1; (first | omega | (have h5 := qW_t hr (by omega) (by assumption); omega)))) (by omega) _ _ _ hP hD hS (lv_sub hl [5, 1, 0, 2] rfl)
          · replace hP : va_P D vwCl [(hm, ob 10 (mo a st lw tl wk pe ch pl fa iw n1 qe sd ik kp hh)), ((a 15), aI cB 50 pg), ((a 21), aI cI 16 nt1), ((a 22), aI cI 16 no1)] H := hP
            replace hD : va_D A [(hm, ob 10 (mo a st lw tl wk pe ch pl fa iw n1 qe sd ik kp hh)), ((a 15), aI cB 50 pg), ((a 21), aI cI 16 nt1), ((a 22), aI cI 16 no1)] := hD
            refine lv_istore (lv' := [(5, .int (iZ 0)), (4, .int (iZ ((pg i) - 48))), (0, .ref hm), (1, .int (iZ sv)), (2, .int (iZ i)), (3, .int (iZ g))]) hx hb dX10_readWeek_42 hl (by decide) rfl (fun ls hl => ?_)
            refine lv_iload_n hx hb dX10_readWeek_44 rfl (lv_at hl 3 rfl) ?_
            refine z_if_ne (tgt := 65) hx hb dX10_readWeek_45 (by decide) (by first | assumption | omega) (fun c_45 => ?_) (fun c_45 => ?_)
            · refine lv_iload_n hx hb dX10_readWeek_65 rfl (lv_at hl 3 rfl) ?_
              refine lv_iconst (v := iZ 1) hx hb dX10_readWeek_66 (by decide) ?_
              refine z_icmp_ne (tgt := 127) hx hb dX10_readWeek_67 (by decide) (by first | assumption | omega) (by first | assumption | omega) (fun c_67 => ?_) (fun c_67 => ?_)
              · refine lv_aload_n hx hb dX10_readWeek_127 rfl (lv_at hl 2 rfl) ?_
                refine z_get (C := RX10) (T0 := TX10) (N := 36) (ci := 10) (v := .ref (a 15)) hx hb hts hown hK hP iwX10 rfl 0 rfl 15 (by decide) fl38 rfl dX10_readWeek_128 ?_
                refine lv_iload_n hx hb dX10_readWeek_131 rfl (lv_at hl 4 rfl) ?_
                refine z_bald hx hb hK hP 1 2 rfl rfl (by decide) (by first | assumption | omega) dX10_readWeek_132 ?_
                have rd_4 := hpg i
                refine lv_bipush (v := iZ 44) hx hb dX10_readWeek_133 (by decide) ?_
                refine z_icmp_ne (tgt := 151) hx hb dX10_readWeek_135 (by decide) (by first | assumption | omega) (by first | assumption | omega) (fun c_135 => ?_) (fun c_135 => ?_)
                · refine lv_iconst (v := iZ 0) hx hb dX10_readWeek_151 (by decide) ?_
                  refine lv_istore_n (lv' := [(3, .int (iZ 0)), (5, .int (iZ 0)), (4, .int (iZ ((pg i) - 48))), (0, .ref hm), (1, .int (iZ sv)), (2, .int (iZ i))]) hx hb dX10_readWeek_152 rfl hl (by decide) rfl (fun ls hl => ?_)
                  refine lv_iload_n hx hb dX10_readWeek_153 rfl (lv_at hl 0 rfl) ?_
                  refine z_if_eq (tgt := 165) hx hb dX10_readWeek_154 (by decide) (by first | assumption | omega) (fun _ => ?_) (fun h => absurd h (by decide))
                  refine lv_iload_n hx hb dX10_readWeek_165 rfl (lv_at hl 4 rfl) ?_
                  refine lv_istore_n (lv' := [(1, .int (iZ sv)), (3, .int (iZ 0)), (5, .int (iZ 0)), (4, .int (iZ ((pg i) - 48))), (0, .ref hm), (2, .int (iZ i))]) hx hb dX10_readWeek_166 rfl hl (by decide) rfl (fun ls hl => ?_)
                  refine lv_iload_n hx hb dX10_readWeek_167 rfl (lv_at hl 5 rfl) ?_
                  refine lv_iload_n hx hb dX10_readWeek_168 rfl (lv_at hl 1 rfl) ?_
                  refine z_if_eq (tgt := 176) hx hb dX10_readWeek_169 (by decide) (by first | assumption | omega) (fun _ => ?_) (fun h => absurd h (by decide))
                  refine lv_iconst (v := iZ 0) hx hb dX10_readWeek_176 (by decide) ?_
                  refine z_iadd hx hb dX10_readWeek_177 ?_
                  refine lv_istore_n (lv' := [(2, .int (iZ (i + 0))), (1, .int (iZ sv)), (3, .int (iZ 0)), (5, .int (iZ 0)), (4, .int (iZ ((pg i) - 48))), (0, .ref hm)]) hx hb dX10_readWeek_178 rfl hl (by decide) rfl (fun ls hl => ?_)
                  refine lv_goto (tgt := 11) hx hb dX10_readWeek_179 (by decide) ?_
                  exact ih11 (i + 0) sv 0 n1 nt1 no1 (by first | assumption | omega) (by first | exact Or.inl rfl | exact Or.inr rfl) (by first | assumption | omega) (by first | (intro h9; exact absurd h9 (by decide)) | (intro _; first | exact qW_a hr (by omega) (by omega) (by omega) | exact qW_b hr (by omega) (by omega) (by omega) (by assumption) | exact qW_c hr (by omega) (by assumption) (by assumption) (by omega) (by omega))) (by first | (intro h9; exact absurd h9 (by decide)) | (intro _; rw [show i + 0 = i from by omega]; refine ⟨by omega, ?_, hr.1⟩; intro h8; have h7 := h8.2; have h6 := h8.1; (first | omega | (have h5 := qW_t hr (by omega) (by assumption); omega)))) (by omega) _ _ _ hP hD hS (lv_sub hl [5, 1, 0, 2] rfl)
                · refine lv_aload_n hx hb dX10_readWeek_138 rfl (lv_at hl 2 rfl) ?_
                  refine z_get (C := RX10) (T0 := TX10) (N := 36) (ci := 10) (v := .int (iZ n1)) hx hb hts hown hK hP iwX10 rfl 0 rfl 18 (by decide) fl84 rfl dX10_readWeek_139 ?_
                  refine lv_bipush (v := iZ 16) hx hb dX10_readWeek_142 (by decide) ?_
                  refine z_icmp_ge (tgt := 151) hx hb dX10_readWeek_144 (by decide) (by first | assumption | omega) (by first | assumption | omega) (fun c_144 => ?_) (fun c_144 => ?_)
                  · refine lv_iconst (v := iZ 0) hx hb dX10_readWeek_151 (by decide) ?_
                    refine lv_istore_n (lv' := [(3, .int (iZ 0)), (5, .int (iZ 0)), (4, .int (iZ ((pg i) - 48))), (0, .ref hm), (1, .int (iZ sv)), (2, .int (iZ i))]) hx hb dX10_readWeek_152 rfl hl (by decide) rfl (fun ls hl => ?_)
                    refine lv_iload_n hx hb dX10_readWeek_153 rfl (lv_at hl 0 rfl) ?_
                    refine z_if_eq (tgt := 165) hx hb dX10_readWeek_154 (by decide) (by first | assumption | omega) (fun _ => ?_) (fun h => absurd h (by decide))
                    refine lv_iload_n hx hb dX10_readWeek_165 rfl (lv_at hl 4 rfl) ?_
                    refine lv_istore_n (lv' := [(1, .int (iZ sv)), (3, .int (iZ 0)), (5, .int (iZ 0)), (4, .int (iZ ((pg i) - 48))), (0, .ref hm), (2, .int (iZ i))]) hx hb dX10_readWeek_166 rfl hl (by decide) rfl (fun ls hl => ?_)
                    refine lv_iload_n hx hb dX10_readWeek_167 rfl (lv_at hl 5 rfl) ?_
                    refine lv_iload_n hx hb dX10_readWeek_168 rfl (lv_at hl 1 rfl) ?_
                    refine z_if_eq (tgt := 176) hx hb dX10_readWeek_169 (by decide) (by first | assumption | omega) (fun _ => ?_) (fun h => absurd h (by decide))
                    refine lv_iconst (v := iZ 0) hx hb dX10_readWeek_176 (by decide) ?_
                    refine z_iadd hx hb dX10_readWeek_177 ?_
                    refine lv_istore_n (lv' := [(2, .int (iZ (i + 0))), (1, .int (iZ sv)), (3, .int (iZ 0)), (5, .int (iZ 0)), (4, .int (iZ ((pg i) - 48))), (0, .ref hm)]) hx hb dX10_readWeek_178 rfl hl (by decide) rfl (fun ls hl => ?_)
                    refine lv_goto (tgt := 11) hx hb dX10_readWeek_179 (by decide) ?_
                    exact ih11 (i + 0) sv 0 n1 nt1 no1 (by first | assumption | omega) (by first | exact Or.inl rfl | exact Or.inr rfl) (by first | assumption | omega) (by first | (intro h9; exact absurd h9 (by decide)) | (intro _; first | exact qW_a hr (by omega) (by omega) (by omega) | exact qW_b hr (by omega) (by omega) (by omega) (by assumption) | exact qW_c hr (by omega) (by assumption) (by assumption) (by omega) (by omega))) (by first | (intro h9; exact absurd h9 (by decide)) | (intro _; rw [show i + 0 = i from by omega]; refine ⟨by omega, ?_, hr.1⟩; intro h8; have h7 := h8.2; have h6 := h8.1; (first | omega | (have h5 := qW_t hr (by omega) (by assumption); omega)))) (by omega) _ _ _ hP hD hS (lv_sub hl [5, 1, 0, 2] rfl)
                  · refine lv_iconst (v := iZ 1) hx hb dX10_readWeek_147 (by decide) ?_
                    refine lv_goto (tgt := 152) hx hb dX10_readWeek_148 (by decide) ?_
                    refine lv_istore_n (lv' := [(3, .int (iZ 1)), (5, .int (iZ 0)), (4, .int (iZ ((pg i) - 48))), (0, .ref hm), (1, .int (iZ sv)), (2, .int (iZ i))]) hx hb dX10_readWeek_152 rfl hl (by decide) rfl (fun ls hl => ?_)
                    refine lv_iload_n hx hb dX10_readWeek_153 rfl (lv_at hl 0 rfl) ?_
                    refine z_if_eq (tgt := 165) hx hb dX10_readWeek_154 (by decide) (by first | assumption | omega) (fun h => absurd h (by decide)) (fun _ => ?_)
                    refine lv_iload_n hx hb dX10_readWeek_157 rfl (lv_at hl 4 rfl) ?_
                    refine lv_iconst (v := iZ 1) hx hb dX10_readWeek_158 (by decide) ?_
                    refine z_iadd hx hb dX10_readWeek_159 ?_
                    refine lv_iconst (v := iZ 3) hx hb dX10_readWeek_160 (by decide) ?_
                    refine z_irem hx hb dX10_readWeek_161 (by first | assumption | omega) (by first | assumption | omega) ?_
                    refine lv_goto (tgt := 166) hx hb dX10_readWeek_162 (by decide) ?_
                    refine lv_istore_n (lv' := [(1, .int (iZ ((sv + 1) % 3))), (3, .int (iZ 1)), (5, .int (iZ 0)), (4, .int (iZ ((pg i) - 48))), (0, .ref hm), (2, .int (iZ i))]) hx hb dX10_readWeek_166 rfl hl (by decide) rfl (fun ls hl => ?_)
                    refine lv_iload_n hx hb dX10_readWeek_167 rfl (lv_at hl 5 rfl) ?_
                    refine lv_iload_n hx hb dX10_readWeek_168 rfl (lv_at hl 1 rfl) ?_
                    refine z_if_eq (tgt := 176) hx hb dX10_readWeek_169 (by decide) (by first | assumption | omega) (fun h => absurd h (by decide)) (fun _ => ?_)
                    refine lv_iconst (v := iZ 1) hx hb dX10_readWeek_172 (by decide) ?_
                    refine lv_goto (tgt := 177) hx hb dX10_readWeek_173 (by decide) ?_
                    refine z_iadd hx hb dX10_readWeek_177 ?_
                    refine lv_istore_n (lv' := [(2, .int (iZ (i + 1))), (1, .int (iZ ((sv + 1) % 3))), (3, .int (iZ 1)), (5, .int (iZ 0)), (4, .int (iZ ((pg i) - 48))), (0, .ref hm)]) hx hb dX10_readWeek_178 rfl hl (by decide) rfl (fun ls hl => ?_)
                    refine lv_goto (tgt := 11) hx hb dX10_readWeek_179 (by decide) ?_
                    exact ih11 (i + 1) ((sv + 1) % 3) 1 n1 nt1 no1 (by first | assumption | omega) (by first | exact Or.inl rfl | exact Or.inr rfl) (by first | assumption | omega) (by first | (intro h9; exact absurd h9 (by decide)) | (intro _; first | exact qW_a hr (by omega) (by omega) (by omega) | exact qW_b hr (by omega) (by omega) (by omega) (by assumption) | exact qW_c hr (by omega) (by assumption) (by assumption) (by omega) (by omega))) (by first | (intro h9; exact absurd h9 (by decide)) | (intro _; rw [show i + 0 = i from by omega]; refine ⟨by omega, ?_, hr.1⟩; intro h8; have h7 := h8.2; have h6 := h8.1; (first | omega | (have h5 := qW_t hr (by omega) (by assumption); omega)))) (by omega) _ _ _ hP hD hS (lv_sub hl [5, 1, 0, 2] rfl)
              · refine lv_iload hx hb dX10_readWeek_70 (lv_at hl 0 rfl) ?_
                refine z_if_eq (tgt := 93) hx hb dX10_readWeek_72 (by decide) (by first | assumption | omega) (fun _ => ?_) (fun h => absurd h (by decide))
                refine lv_iconst (v := iZ 0) hx hb dX10_readWeek_93 (by decide) ?_
                refine lv_istore_n (lv' := [(3, .int (iZ 0)), (5, .int (iZ 0)), (4, .int (iZ ((pg i) - 48))), (0, .ref hm), (1, .int (iZ sv)), (2, .int (iZ i))]) hx hb dX10_readWeek_94 rfl hl (by decide) rfl (fun ls hl => ?_)
                refine lv_aload_n hx hb dX10_readWeek_95 rfl (lv_at hl 3 rfl) ?_
                refine z_get (C := RX10) (T0 := TX10) (N := 36) (ci := 10) (v := .ref (a 22)) hx hb hts hown hK hP iwX10 rfl 0 rfl 22 (by decide) fl51 rfl dX10_readWeek_96 ?_
                refine lv_aload_n hx hb dX10_readWeek_99 rfl (lv_at hl 3 rfl) ?_
                refine z_get (C := RX10) (T0 := TX10) (N := 36) (ci := 10) (v := .int (iZ n1)) hx hb hts hown hK hP iwX10 rfl 0 rfl 18 (by decide) fl84 rfl dX10_readWeek_100 ?_
                refine lv_iload hx hb dX10_readWeek_103 (lv_at hl 2 rfl) ?_
                refine z_iast hx hb hK hP hD hS 3 0 rfl rfl (by decide) (by first | assumption | omega) dX10_readWeek_105 (fun H locs hP hD hS => ?_)
                replace hP : va_P D vwCl [(hm, ob 10 (mo a st lw tl wk pe ch pl fa iw n1 qe sd ik kp hh)), ((a 15), aI cB 50 pg), ((a 21), aI cI 16 nt1), ((a 22), aI cI 16 (zu no1 n1 ((pg i) - 48)))] H := hP
                replace hD : va_D A [(hm, ob 10 (mo a st lw tl wk pe ch pl fa iw n1 qe sd ik kp hh)), ((a 15), aI cB 50 pg), ((a 21), aI cI 16 nt1), ((a 22), aI cI 16 (zu no1 n1 ((pg i) - 48)))] := hD
                refine lv_aload_n hx hb dX10_readWeek_106 rfl (lv_at hl 3 rfl) ?_
                refine lv_dup hx hb dX10_readWeek_107 rfl ?_
                refine z_get (C := RX10) (T0 := TX10) (N := 36) (ci := 10) (v := .int (iZ n1)) hx hb hts hown hK hP iwX10 rfl 0 rfl 18 (by decide) fl84 rfl dX10_readWeek_108 ?_
                refine lv_iload_n hx hb dX10_readWeek_111 rfl (lv_at hl 0 rfl) ?_
                refine z_if_eq (tgt := 119) hx hb dX10_readWeek_112 (by decide) (by first | assumption | omega) (fun _ => ?_) (fun h => absurd h (by decide))
                refine lv_iconst (v := iZ 0) hx hb dX10_readWeek_119 (by decide) ?_
                refine z_iadd hx hb dX10_readWeek_120 ?_
                refine z_put (C := RX10) (T0 := TX10) (N := 36) (ci := 10) (v := .int (iZ (n1 + 0))) hx hb hts hown hK hP hD hS iwX10 tyX10_ok nmX10 rfl 0 rfl 18 (by decide) fl84 rfl rfl rfl (Nat.le_of_ble_eq_true rfl) dX10_readWeek_121 (fun H locs hP hD hS => ?_)
                replace hP : va_P D vwCl [(hm, ob 10 (mo a st lw tl wk pe ch pl fa iw (n1 + 0) qe sd ik kp hh)), ((a 15), aI cB 50 pg), ((a 21), aI cI 16 nt1), ((a 22), aI cI 16 (zu no1 n1 ((pg i) - 48)))] H := hP
                replace hD : va_D A [(hm, ob 10 (mo a st lw tl wk pe ch pl fa iw (n1 + 0) qe sd ik kp hh)), ((a 15), aI cB 50 pg), ((a 21), aI cI 16 nt1), ((a 22), aI cI 16 (zu no1 n1 ((pg i) - 48)))] := hD
                refine lv_goto (tgt := 153) hx hb dX10_readWeek_124 (by decide) ?_
                refine lv_iload_n hx hb dX10_readWeek_153 rfl (lv_at hl 0 rfl) ?_
                refine z_if_eq (tgt := 165) hx hb dX10_readWeek_154 (by decide) (by first | assumption | omega) (fun _ => ?_) (fun h => absurd h (by decide))
                refine lv_iload_n hx hb dX10_readWeek_165 rfl (lv_at hl 4 rfl) ?_
                refine lv_istore_n (lv' := [(1, .int (iZ sv)), (3, .int (iZ 0)), (5, .int (iZ 0)), (4, .int (iZ ((pg i) - 48))), (0, .ref hm), (2, .int (iZ i))]) hx hb dX10_readWeek_166 rfl hl (by decide) rfl (fun ls hl => ?_)
                refine lv_iload_n hx hb dX10_readWeek_167 rfl (lv_at hl 5 rfl) ?_
                refine lv_iload_n hx hb dX10_readWeek_168 rfl (lv_at hl 1 rfl) ?_
                refine z_if_eq (tgt := 176) hx hb dX10_readWeek_169 (by decide) (by first | assumption | omega) (fun _ => ?_) (fun h => absurd h (by decide))
                refine lv_iconst (v := iZ 0) hx hb dX10_readWeek_176 (by decide) ?_
                refine z_iadd hx hb dX10_readWeek_177 ?_
                refine lv_istore_n (lv' := [(2, .int (iZ (i + 0))), (1, .int (iZ sv)), (3, .int (iZ 0)), (5, .int (iZ 0)), (4, .int (iZ ((pg i) - 48))), (0, .ref hm)]) hx hb dX10_readWeek_178 rfl hl (by decide) rfl (fun ls hl => ?_)
                refine lv_goto (tgt := 11) hx hb dX10_readWeek_179 (by decide) ?_
                exact ih11 (i + 0) sv 0 (n1 + 0) nt1 (zu no1 n1 ((pg i) - 48)) (by first | assumption | omega) (by first | exact Or.inl rfl | exact Or.inr rfl) (by first | assumption | omega) (by first | (intro h9; exact absurd h9 (by decide)) | (intro _; first | exact qW_a hr (by omega) (by omega) (by omega) | exact qW_b hr (by omega) (by omega) (by omega) (by assumption) | exact qW_c hr (by omega) (by assumption) (by assumption) (by omega) (by omega))) (by first | (intro h9; exact absurd h9 (by decide)) | (intro _; rw [show i + 0 = i from by omega]; refine ⟨by omega, ?_, hr.1⟩; intro h8; have h7 := h8.2; have h6 := h8.1; (first | omega | (have h5 := qW_t hr (by omega) (by assumption); omega)))) (by omega) _ _ _ hP hD hS (lv_sub hl [5, 1, 0, 2] rfl)
            · refine lv_iload hx hb dX10_readWeek_48 (lv_at hl 0 rfl) ?_
              refine lv_istore_n (lv' := [(3, .int (iZ 0)), (5, .int (iZ 0)), (4, .int (iZ ((pg i) - 48))), (0, .ref hm), (1, .int (iZ sv)), (2, .int (iZ i))]) hx hb dX10_readWeek_50 rfl hl (by decide) rfl (fun ls hl => ?_)
              refine lv_aload_n hx hb dX10_readWeek_51 rfl (lv_at hl 3 rfl) ?_
              refine z_get (C := RX10) (T0 := TX10) (N := 36) (ci := 10) (v := .ref (a 21)) hx hb hts hown hK hP iwX10 rfl 0 rfl 21 (by decide) fl48 rfl dX10_readWeek_52 ?_
              refine lv_aload_n hx hb dX10_readWeek_55 rfl (lv_at hl 3 rfl) ?_
              refine z_get (C := RX10) (T0 := TX10) (N := 36) (ci := 10) (v := .int (iZ n1)) hx hb hts hown hK hP iwX10 rfl 0 rfl 18 (by decide) fl84 rfl dX10_readWeek_56 ?_
              refine lv_iload hx hb dX10_readWeek_59 (lv_at hl 2 rfl) ?_
              refine z_iast hx hb hK hP hD hS 2 0 rfl rfl (by decide) (by first | assumption | omega) dX10_readWeek_61 (fun H locs hP hD hS => ?_)
              replace hP : va_P D vwCl [(hm, ob 10 (mo a st lw tl wk pe ch pl fa iw n1 qe sd ik kp hh)), ((a 15), aI cB 50 pg), ((a 21), aI cI 16 (zu nt1 n1 ((pg i) - 48))), ((a 22), aI cI 16 no1)] H := hP
              replace hD : va_D A [(hm, ob 10 (mo a st lw tl wk pe ch pl fa iw n1 qe sd ik kp hh)), ((a 15), aI cB 50 pg), ((a 21), aI cI 16 (zu nt1 n1 ((pg i) - 48))), ((a 22), aI cI 16 no1)] := hD
              refine lv_goto (tgt := 153) hx hb dX10_readWeek_62 (by decide) ?_
              refine lv_iload_n hx hb dX10_readWeek_153 rfl (lv_at hl 0 rfl) ?_
              refine z_if_eq (tgt := 165) hx hb dX10_readWeek_154 (by decide) (by first | assumption | omega) (fun _ => ?_) (fun h => absurd h (by decide))
              refine lv_iload_n hx hb dX10_readWeek_165 rfl (lv_at hl 4 rfl) ?_
              refine lv_istore_n (lv' := [(1, .int (iZ sv)), (3, .int (iZ 0)), (5, .int (iZ 0)), (4, .int (iZ ((pg i) - 48))), (0, .ref hm), (2, .int (iZ i))]) hx hb dX10_readWeek_166 rfl hl (by decide) rfl (fun ls hl => ?_)
              refine lv_iload_n hx hb dX10_readWeek_167 rfl (lv_at hl 5 rfl) ?_
              refine lv_iload_n hx hb dX10_readWeek_168 rfl (lv_at hl 1 rfl) ?_
              refine z_if_eq (tgt := 176) hx hb dX10_readWeek_169 (by decide) (by first | assumption | omega) (fun _ => ?_) (fun h => absurd h (by decide))
              refine lv_iconst (v := iZ 0) hx hb dX10_readWeek_176 (by decide) ?_
              refine z_iadd hx hb dX10_readWeek_177 ?_
              refine lv_istore_n (lv' := [(2, .int (iZ (i + 0))), (1, .int (iZ sv)), (3, .int (iZ 0)), (5, .int (iZ 0)), (4, .int (iZ ((pg i) - 48))), (0, .ref hm)]) hx hb dX10_readWeek_178 rfl hl (by decide) rfl (fun ls hl => ?_)
              refine lv_goto (tgt := 11) hx hb dX10_readWeek_179 (by decide) ?_
              exact ih11 (i + 0) sv 0 n1 (zu nt1 n1 ((pg i) - 48)) no1 (by first | assumption | omega) (by first | exact Or.inl rfl | exact Or.inr rfl) (by first | assumption | omega) (by first | (intro h9; exact absurd h9 (by decide)) | (intro _; first | exact qW_a hr (by omega) (by omega) (by omega) | exact qW_b hr (by omega) (by omega) (by omega) (by assumption) | exact qW_c hr (by omega) (by assumption) (by assumption) (by omega) (by omega))) (by first | (intro h9; exact absurd h9 (by decide)) | (intro _; rw [show i + 0 = i from by omega]; refine ⟨by omega, ?_, hr.1⟩; intro h8; have h7 := h8.2; have h6 := h8.1; (first | omega | (have h5 := qW_t hr (by omega) (by assumption); omega)))) (by omega) _ _ _ hP hD hS (lv_sub hl [5, 1, 0, 2] rfl)
  exact lp11 ((2 * (pl - 0) + 1 : Int) + 1).toNat 0 0 1 0 nt no (by first | assumption | omega) (by exact Or.inr rfl) (by first | assumption | omega) (by exact fun _ => qW_0 pg nt no) (by intro h9; exact absurd h9 (by decide)) (by omega) _ _ _ hP hD hS (lv_sub hl [3, 2, 1, 0] rfl)
theorem qX10_fault : yX10_fault.cls ≠ "java/lang/invoke/MethodHandle" ∧ yX10_fault.cls ≠ "java/lang/invoke/VarHandle" ∧ (parseMethodDescriptor yX10_fault.desc).map (fun d => d.parameters.length) = some 1 := by decide +kernel
set_option maxHeartbeats 4000000 in
set_option maxRecDepth 100000 in
theorem c_X10_fault (l : Launch) (D : va_G) (cI cJ cB : ClassId) (hm : Nat) (a : Nat → Nat) (st lw tl wk pe ch pl fa iw nm qe sd ik kp hh : Int) (pg ns nu nt no : Int → Int) (sg : Int) (hpl : 0 ≤ pl ∧ pl ≤ 50) (hpg : ∀ j, 0 ≤ pg j ∧ pg j ≤ 126) (hsg : -2147483648 ≤ sg ∧ sg < 2147483648) : zMi l yX10_fault wsX10_fault (zRm 2 47) D (zT cI cJ cB) [.ref hm, .int (iZ sg)] [(hm, ob 10 (mo a st lw tl wk pe ch pl fa iw nm qe sd ik kp hh)), ((a 15), aI cB 50 pg), ((a 19), aI cI 4 ns), ((a 20), aI cI 4 nu), ((a 21), aI cI 16 nt), ((a 22), aI cI 16 no)] (fun (z : Int) (w : va_W) => ((-102) = z ∧ w = [(hm, ob 10 (mo a st lw tl wk pe ch pl fa iw nm qe sd ik kp hh)), ((a 15), aI cB 50 pg), ((a 19), aI cI 4 ns), ((a 20), aI cI 4 nu), ((a 21), aI cI 16 nt), ((a 22), aI cI 16 no)] ∧ sg ≠ 0 ∧ sg ≠ 1) ∨ (∃ (x y n2 : Int) (ns2 nu2 : Int → Int), x = z ∧ w = [(hm, ob 10 (mo a st lw tl wk pe ch pl x y n2 qe sd ik kp hh)), ((a 15), aI cB 50 pg), ((a 19), aI cI 4 ns2), ((a 20), aI cI 4 nu2), ((a 21), aI cI 16 nt), ((a 22), aI cI 16 no)] ∧ sg = 0 ∧ LF pl pg x) ∨ (∃ (x y n2 : Int) (nt2 no2 : Int → Int), x = z ∧ w = [(hm, ob 10 (mo a st lw tl wk pe ch pl x y n2 qe sd ik kp hh)), ((a 15), aI cB 50 pg), ((a 19), aI cI 4 ns), ((a 20), aI cI 4 nu), ((a 21), aI cI 16 nt2), ((a 22), aI cI 16 no2)] ∧ sg = 1 ∧ WF pl pg x)) := by
  refine z_of (Qc := fun A => zQi D [(hm, ob 10 (mo a st lw tl wk pe ch pl fa iw nm qe sd ik kp hh)), ((a 15), aI cB 50 pg), ((a 19), aI cI 4 ns), ((a 20), aI cI 4 nu), ((a 21), aI cI 16 nt), ((a 22), aI cI 16 no)] A _) (cc := cX10_fault) (maxL := 2) (ret := (some .int)) (by decide) rfl (Nat.le_of_ble_eq_true rfl) ?_
  intro p e s m below meth c A ls hx hb hr hts hown hlocks hml hK hP hD hS hA hl
  replace hown : s.vm.findClass RX10 = some m.cls := hown
  have hC : CallFix p m c cX10_fault 2 s _ wsX10_fault RX10 := ⟨hx, hb, hml, hown, hts⟩
  replace hl : lv_has ls 2 [(0, .ref hm), (1, .int (iZ sg))] := hl
  have iwX10 : ∀ w ∈ u_ws RX10 TX10 36, w ∈ wsX10_fault := fun w h => List.mem_cons_of_mem _ (List.mem_append_right _ h)
  have fl95 : Cond.fieldLink RX10 95 "GrowsByHalfModel" "faultAt" "I" ∈ wsX10_fault := by decide +kernel
  refine lv_iload_n hx hb dX10_fault_0 rfl (lv_at hl 1 rfl) ?_
  refine lv_iconst (v := iZ 0) hx hb dX10_fault_1 (by decide) ?_
  refine lv_iconst (v := iZ 1) hx hb dX10_fault_2 (by decide) ?_
  refine z_Si (As := [.int (iZ sg), .int (iZ 0), .int (iZ 1)]) (rest := []) hC (c_X10_within l D cI cJ cB sg 0 1 (by first | assumption | omega) (by first | assumption | omega) (by first | assumption | omega)) 3 gX10_fault_X10_within rfl rfl rfl qX10_within ⟨Nat.le_of_ble_eq_true rfl, Nat.le_of_ble_eq_true rfl⟩ ⟨Nat.le_refl _, Nat.le_refl _⟩ hK hP hD hS hA [] rfl (by decide) rfl hl.1 rfl (Nat.le_of_ble_eq_true rfl) dX10_fault_3 (fun z w H locs hq hP hD hS => ?_)
  rcases hq with ⟨rfl, rfl, hc1_0⟩ | ⟨rfl, rfl, hc1_0⟩
  · replace hP : va_P D vwCl [(hm, ob 10 (mo a st lw tl wk pe ch pl fa iw nm qe sd ik kp hh)), ((a 15), aI cB 50 pg), ((a 19), aI cI 4 ns), ((a 20), aI cI 4 nu), ((a 21), aI cI 16 nt), ((a 22), aI cI 16 no)] H := hP
    replace hD : va_D A [(hm, ob 10 (mo a st lw tl wk pe ch pl fa iw nm qe sd ik kp hh)), ((a 15), aI cB 50 pg), ((a 19), aI cI 4 ns), ((a 20), aI cI 4 nu), ((a 21), aI cI 16 nt), ((a 22), aI cI 16 no)] := hD
    refine z_if_ne (tgt := 12) hx hb dX10_fault_6 (by decide) (by first | assumption | omega) (fun _ => ?_) (fun h => absurd h (by decide))
    refine lv_iload_n hx hb dX10_fault_12 rfl (lv_at hl 1 rfl) ?_
    refine z_if_ne (tgt := 23) hx hb dX10_fault_13 (by decide) (by first | assumption | omega) (fun c_13 => ?_) (fun c_13 => ?_)
    · refine lv_aload_n hx hb dX10_fault_23 rfl (lv_at hl 0 rfl) ?_
      refine z_Vv (As := []) (rest := []) hC (c_X10_readWeek l D cI cJ cB hm a st lw tl wk pe ch pl fa iw nm qe sd ik kp hh pg nt no (by first | assumption | omega) (by first | assumption | omega)) 0 gX10_fault_X10_readWeek rfl rfl rfl ⟨rfl, qX10_readWeek⟩ ⟨Nat.le_of_ble_eq_true rfl, Nat.le_of_ble_eq_true rfl⟩ ⟨Nat.le_refl _, Nat.le_refl _⟩ hK hP hD hS hA [0, 1, 4, 5] rfl (by decide) 0 rfl rfl rfl hl.1 rfl (Nat.le_of_ble_eq_true rfl) dX10_fault_24 (fun w H locs hq hP hD hS => ?_)
      rcases hq with ⟨x2, nt22, no22, rfl, hc2_0, hc2_1, hc2_2⟩ | ⟨x2, n22, nt22, no22, rfl, hc2_0, hc2_1⟩
      · replace hP : va_P D vwCl [(hm, ob 10 (mo a st lw tl wk pe ch pl x2 1 ((pl + 1) / 3) qe sd ik kp hh)), ((a 15), aI cB 50 pg), ((a 19), aI cI 4 ns), ((a 20), aI cI 4 nu), ((a 21), aI cI 16 nt22), ((a 22), aI cI 16 no22)] H := hP
        replace hD : va_D A [(hm, ob 10 (mo a st lw tl wk pe ch pl x2 1 ((pl + 1) / 3) qe sd ik kp hh)), ((a 15), aI cB 50 pg), ((a 19), aI cI 4 ns), ((a 20), aI cI 4 nu), ((a 21), aI cI 16 nt22), ((a 22), aI cI 16 no22)] := hD
        refine lv_aload_n hx hb dX10_fault_27 rfl (lv_at hl 0 rfl) ?_
        refine z_get (C := RX10) (T0 := TX10) (N := 36) (ci := 10) (v := .int (iZ x2)) hx hb hts hown hK hP iwX10 rfl 0 rfl 16 (by decide) fl95 rfl dX10_fault_28 ?_
        exact z_iret hx hb hr hlocks hP hD hS dX10_fault_31 rfl (by first | (exact Or.inl (⟨(by first | rfl | omega), rfl, (by first | assumption | omega), (by first | assumption | omega)⟩)) | (exact Or.inr (Or.inl (⟨_, _, _, _, _, (by first | rfl | omega), rfl, (by first | assumption | omega), (by first | assumption | omega)⟩))) | (exact Or.inr (Or.inr (⟨_, _, _, _, _, (by first | rfl | omega), rfl, (by first | assumption | omega), (by first | assumption | omega)⟩))) | (exfalso; omega))
      · replace hP : va_P D vwCl [(hm, ob 10 (mo a st lw tl wk pe ch pl x2 0 n22 qe sd ik kp hh)), ((a 15), aI cB 50 pg), ((a 19), aI cI 4 ns), ((a 20), aI cI 4 nu), ((a 21), aI cI 16 nt22), ((a 22), aI cI 16 no22)] H := hP
        replace hD : va_D A [(hm, ob 10 (mo a st lw tl wk pe ch pl x2 0 n22 qe sd ik kp hh)), ((a 15), aI cB 50 pg), ((a 19), aI cI 4 ns), ((a 20), aI cI 4 nu), ((a 21), aI cI 16 nt22), ((a 22), aI cI 16 no22)] := hD
        refine lv_aload_n hx hb dX10_fault_27 rfl (lv_at hl 0 rfl) ?_
        refine z_get (C := RX10) (T0 := TX10) (N := 36) (ci := 10) (v := .int (iZ x2)) hx hb hts hown hK hP iwX10 rfl 0 rfl 16 (by decide) fl95 rfl dX10_fault_28 ?_
        exact z_iret hx hb hr hlocks hP hD hS dX10_fault_31 rfl (by first | (exact Or.inl (⟨(by first | rfl | omega), rfl, (by first | assumption | omega), (by first | assumption | omega)⟩)) | (exact Or.inr (Or.inl (⟨_, _, _, _, _, (by first | rfl | omega), rfl, (by first | assumption | omega), (by first | assumption | omega)⟩))) | (exact Or.inr (Or.inr (⟨_, _, _, _, _, (by first | rfl | omega), rfl, (by first | assumption | omega), (by first | assumption | omega)⟩))) | (exfalso; omega))
    · refine lv_aload_n hx hb dX10_fault_16 rfl (lv_at hl 0 rfl) ?_
      refine z_Vv (As := []) (rest := []) hC (c_X10_readLaw l D cI cJ cB hm a st lw tl wk pe ch pl fa iw nm qe sd ik kp hh pg ns nu (by first | assumption | omega) (by first | assumption | omega)) 0 gX10_fault_X10_readLaw rfl rfl rfl ⟨rfl, qX10_readLaw⟩ ⟨Nat.le_of_ble_eq_true rfl, Nat.le_of_ble_eq_true rfl⟩ ⟨Nat.le_refl _, Nat.le_refl _⟩ hK hP hD hS hA [0, 1, 2, 3] rfl (by decide) 0 rfl rfl rfl hl.1 rfl (Nat.le_of_ble_eq_true rfl) dX10_fault_17 (fun w H locs hq hP hD hS => ?_)
      rcases hq with ⟨x3, ns23, nu23, rfl, hc3_0, hc3_1, hc3_2⟩ | ⟨x3, n23, ns23, nu23, rfl, hc3_0, hc3_1⟩
      · replace hP : va_P D vwCl [(hm, ob 10 (mo a st lw tl wk pe ch pl x3 1 (cntO pg pl.toNat) qe sd ik kp hh)), ((a 15), aI cB 50 pg), ((a 19), aI cI 4 ns23), ((a 20), aI cI 4 nu23), ((a 21), aI cI 16 nt), ((a 22), aI cI 16 no)] H := hP
        replace hD : va_D A [(hm, ob 10 (mo a st lw tl wk pe ch pl x3 1 (cntO pg pl.toNat) qe sd ik kp hh)), ((a 15), aI cB 50 pg), ((a 19), aI cI 4 ns23), ((a 20), aI cI 4 nu23), ((a 21), aI cI 16 nt), ((a 22), aI cI 16 no)] := hD
        refine lv_goto (tgt := 27) hx hb dX10_fault_20 (by decide) ?_
        refine lv_aload_n hx hb dX10_fault_27 rfl (lv_at hl 0 rfl) ?_
        refine z_get (C := RX10) (T0 := TX10) (N := 36) (ci := 10) (v := .int (iZ x3)) hx hb hts hown hK hP iwX10 rfl 0 rfl 16 (by decide) fl95 rfl dX10_fault_28 ?_
        exact z_iret hx hb hr hlocks hP hD hS dX10_fault_31 rfl (by first | (exact Or.inl (⟨(by first | rfl | omega), rfl, (by first | assumption | omega), (by first | assumption | omega)⟩)) | (exact Or.inr (Or.inl (⟨_, _, _, _, _, (by first | rfl | omega), rfl, (by first | assumption | omega), (by first | assumption | omega)⟩))) | (exact Or.inr (Or.inr (⟨_, _, _, _, _, (by first | rfl | omega), rfl, (by first | assumption | omega), (by first | assumption | omega)⟩))) | (exfalso; omega))
      · replace hP : va_P D vwCl [(hm, ob 10 (mo a st lw tl wk pe ch pl x3 0 n23 qe sd ik kp hh)), ((a 15), aI cB 50 pg), ((a 19), aI cI 4 ns23), ((a 20), aI cI 4 nu23), ((a 21), aI cI 16 nt), ((a 22), aI cI 16 no)] H := hP
        replace hD : va_D A [(hm, ob 10 (mo a st lw tl wk pe ch pl x3 0 n23 qe sd ik kp hh)), ((a 15), aI cB 50 pg), ((a 19), aI cI 4 ns23), ((a 20), aI cI 4 nu23), ((a 21), aI cI 16 nt), ((a 22), aI cI 16 no)] := hD
        refine lv_goto (tgt := 27) hx hb dX10_fault_20 (by decide) ?_
        refine lv_aload_n hx hb dX10_fault_27 rfl (lv_at hl 0 rfl) ?_
        refine z_get (C := RX10) (T0 := TX10) (N := 36) (ci := 10) (v := .int (iZ x3)) hx hb hts hown hK hP iwX10 rfl 0 rfl 16 (by decide) fl95 rfl dX10_fault_28 ?_
        exact z_iret hx hb hr hlocks hP hD hS dX10_fault_31 rfl (by first | (exact Or.inl (⟨(by first | rfl | omega), rfl, (by first | assumption | omega), (by first | assumption | omega)⟩)) | (exact Or.inr (Or.inl (⟨_, _, _, _, _, (by first | rfl | omega), rfl, (by first | assumption | omega), (by first | assumption | omega)⟩))) | (exact Or.inr (Or.inr (⟨_, _, _, _, _, (by first | rfl | omega), rfl, (by first | assumption | omega), (by first | assumption | omega)⟩))) | (exfalso; omega))
  · replace hP : va_P D vwCl [(hm, ob 10 (mo a st lw tl wk pe ch pl fa iw nm qe sd ik kp hh)), ((a 15), aI cB 50 pg), ((a 19), aI cI 4 ns), ((a 20), aI cI 4 nu), ((a 21), aI cI 16 nt), ((a 22), aI cI 16 no)] H := hP
    replace hD : va_D A [(hm, ob 10 (mo a st lw tl wk pe ch pl fa iw nm qe sd ik kp hh)), ((a 15), aI cB 50 pg), ((a 19), aI cI 4 ns), ((a 20), aI cI 4 nu), ((a 21), aI cI 16 nt), ((a 22), aI cI 16 no)] := hD
    refine z_if_ne (tgt := 12) hx hb dX10_fault_6 (by decide) (by first | assumption | omega) (fun h => absurd h (by decide)) (fun _ => ?_)
    refine lv_bipush (v := iZ (-102)) hx hb dX10_fault_9 (by decide) ?_
    exact z_iret hx hb hr hlocks hP hD hS dX10_fault_11 rfl (by first | (exact Or.inl (⟨(by first | rfl | omega), rfl, (by first | assumption | omega), (by first | assumption | omega)⟩)) | (exact Or.inr (Or.inl (⟨_, _, _, _, _, (by first | rfl | omega), rfl, (by first | assumption | omega), (by first | assumption | omega)⟩))) | (exact Or.inr (Or.inr (⟨_, _, _, _, _, (by first | rfl | omega), rfl, (by first | assumption | omega), (by first | assumption | omega)⟩))) | (exfalso; omega))
theorem qX10_law : yX10_law.cls ≠ "java/lang/invoke/MethodHandle" ∧ yX10_law.cls ≠ "java/lang/invoke/VarHandle" ∧ (parseMethodDescriptor yX10_law.desc).map (fun d => d.parameters.length) = some 0 := by decide +kernel
set_option maxHeartbeats 4000000 in
set_option maxRecDepth 100000 in
theorem c_X10_law (l : Launch) (D : va_G) (cI cJ cB : ClassId) (hm : Nat) (a : Nat → Nat) (st lw tl wk pe ch pl fa iw nm qe sd ik kp hh : Int) (pg ns nu so mu : Int → Int) (hpl : 0 ≤ pl ∧ pl ≤ 50) (hpg : ∀ j, 0 ≤ pg j ∧ pg j ≤ 126) (hsu : ∀ j, (0 ≤ so j ∧ so j ≤ 4) ∧ (0 ≤ mu j ∧ mu j ≤ 9) ∧ (so j = 4 → 2 ≤ mu j)) : zMi l yX10_law wsX10_law (zRm 2 47) D (zT cI cJ cB) [.ref hm] [(hm, ob 10 (mo a st lw tl wk pe ch pl fa iw nm qe sd ik kp hh)), ((a 15), aI cB 50 pg), ((a 19), aI cI 4 ns), ((a 20), aI cI 4 nu), ((a 1), aI cI 4 so), ((a 2), aI cI 4 mu)] (fun (z : Int) (w : va_W) => (∃ (x n2 : Int) (ns2 nu2 : Int → Int), (-103) = z ∧ w = [(hm, ob 10 (mo a st lw tl wk pe ch pl x 0 n2 qe sd ik kp hh)), ((a 15), aI cB 50 pg), ((a 19), aI cI 4 ns2), ((a 20), aI cI 4 nu2), ((a 1), aI cI 4 so), ((a 2), aI cI 4 mu)] ∧ ¬ WL pl pg) ∨ (∃ (x : Int) (ns2 nu2 so2 mu2 : Int → Int), cntO pg pl.toNat = z ∧ w = [(hm, ob 10 (mo a (cntO pg pl.toNat) (lw + 1) tl wk pe ch 0 x 1 (cntO pg pl.toNat) qe sd ik kp hh)), ((a 15), aI cB 50 pg), ((a 19), aI cI 4 ns2), ((a 20), aI cI 4 nu2), ((a 1), aI cI 4 so2), ((a 2), aI cI 4 mu2)] ∧ WL pl pg ∧ (∀ j, 0 ≤ j → j < cntO pg pl.toNat → so2 j = soP pg pl j ∧ mu2 j = muP pg pl j) ∧ (∀ j, (0 ≤ so2 j ∧ so2 j ≤ 4) ∧ (0 ≤ mu2 j ∧ mu2 j ≤ 9) ∧ (so2 j = 4 → 2 ≤ mu2 j)))) := by
  refine z_of (Qc := fun A => zQi D [(hm, ob 10 (mo a st lw tl wk pe ch pl fa iw nm qe sd ik kp hh)), ((a 15), aI cB 50 pg), ((a 19), aI cI 4 ns), ((a 20), aI cI 4 nu), ((a 1), aI cI 4 so), ((a 2), aI cI 4 mu)] A _) (cc := cX10_law) (maxL := 2) (ret := (some .int)) (by decide) rfl (Nat.le_of_ble_eq_true rfl) ?_
  intro p e s m below meth c A ls hx hb hr hts hown hlocks hml hK hP hD hS hA hl
  replace hown : s.vm.findClass RX10 = some m.cls := hown
  have hC : CallFix p m c cX10_law 2 s _ wsX10_law RX10 := ⟨hx, hb, hml, hown, hts⟩
  replace hl : lv_has ls 2 [(0, .ref hm)] := hl
  have iwX10 : ∀ w ∈ u_ws RX10 TX10 36, w ∈ wsX10_law := fun w h => List.mem_cons_of_mem _ (List.mem_append_right _ h)
  have fl7 : Cond.fieldLink RX10 7 "GrowsByHalfModel" "steps" "I" ∈ wsX10_law := by decide +kernel
  have fl13 : Cond.fieldLink RX10 13 "GrowsByHalfModel" "stepOf" "[I" ∈ wsX10_law := by decide +kernel
  have fl17 : Cond.fieldLink RX10 17 "GrowsByHalfModel" "muchOf" "[I" ∈ wsX10_law := by decide +kernel
  have fl42 : Cond.fieldLink RX10 42 "GrowsByHalfModel" "newStep" "[I" ∈ wsX10_law := by decide +kernel
  have fl45 : Cond.fieldLink RX10 45 "GrowsByHalfModel" "newMuch" "[I" ∈ wsX10_law := by decide +kernel
  have fl81 : Cond.fieldLink RX10 81 "GrowsByHalfModel" "pageLength" "I" ∈ wsX10_law := by decide +kernel
  have fl84 : Cond.fieldLink RX10 84 "GrowsByHalfModel" "newMany" "I" ∈ wsX10_law := by decide +kernel
  have fl98 : Cond.fieldLink RX10 98 "GrowsByHalfModel" "isWhole" "Z" ∈ wsX10_law := by decide +kernel
  have fl108 : Cond.fieldLink RX10 108 "GrowsByHalfModel" "laws" "I" ∈ wsX10_law := by decide +kernel
  refine lv_aload_n hx hb dX10_law_0 rfl (lv_at hl 0 rfl) ?_
  refine z_Vv (As := []) (rest := []) hC (c_X10_readLaw l D cI cJ cB hm a st lw tl wk pe ch pl fa iw nm qe sd ik kp hh pg ns nu (by first | assumption | omega) (by first | assumption | omega)) 0 gX10_law_X10_readLaw rfl rfl rfl ⟨rfl, qX10_readLaw⟩ ⟨Nat.le_of_ble_eq_true rfl, Nat.le_of_ble_eq_true rfl⟩ ⟨Nat.le_refl _, Nat.le_refl _⟩ hK hP hD hS hA [0, 1, 2, 3] rfl (by decide) 0 rfl rfl rfl hl.1 rfl (Nat.le_of_ble_eq_true rfl) dX10_law_1 (fun w H locs hq hP hD hS => ?_)
  rcases hq with ⟨xR, ns2R, nu2R, rfl, hcR_0, hcR_1, hcR_2⟩ | ⟨xR, n2R, ns2R, nu2R, rfl, hcR_0, hcR_1⟩
  · replace hP : va_P D vwCl [(hm, ob 10 (mo a st lw tl wk pe ch pl xR 1 (cntO pg pl.toNat) qe sd ik kp hh)), ((a 15), aI cB 50 pg), ((a 19), aI cI 4 ns2R), ((a 20), aI cI 4 nu2R), ((a 1), aI cI 4 so), ((a 2), aI cI 4 mu)] H := hP
    replace hD : va_D A [(hm, ob 10 (mo a st lw tl wk pe ch pl xR 1 (cntO pg pl.toNat) qe sd ik kp hh)), ((a 15), aI cB 50 pg), ((a 19), aI cI 4 ns2R), ((a 20), aI cI 4 nu2R), ((a 1), aI cI 4 so), ((a 2), aI cI 4 mu)] := hD
    have hcl := cntO_le (pg := pg) (i := pl) (by omega) hcR_1.2.1
    refine lv_aload_n hx hb dX10_law_4 rfl (lv_at hl 0 rfl) ?_
    refine z_get (C := RX10) (T0 := TX10) (N := 36) (ci := 10) (v := .int (iZ 1)) hx hb hts hown hK hP iwX10 rfl 0 rfl 17 (by decide) fl98 rfl dX10_law_5 ?_
    refine z_if_ne (tgt := 14) hx hb dX10_law_8 (by decide) (by first | assumption | omega) (fun _ => ?_) (fun h => absurd h (by decide))
    refine lv_aload_n hx hb dX10_law_14 rfl (lv_at hl 0 rfl) ?_
    refine lv_aload_n hx hb dX10_law_15 rfl (lv_at hl 0 rfl) ?_
    refine z_get (C := RX10) (T0 := TX10) (N := 36) (ci := 10) (v := .int (iZ (cntO pg pl.toNat))) hx hb hts hown hK hP iwX10 rfl 0 rfl 18 (by decide) fl84 rfl dX10_law_16 ?_
    refine z_put (C := RX10) (T0 := TX10) (N := 36) (ci := 10) (v := .int (iZ (cntO pg pl.toNat))) hx hb hts hown hK hP hD hS iwX10 tyX10_ok nmX10 rfl 0 rfl 0 (by decide) fl7 rfl rfl rfl (Nat.le_of_ble_eq_true rfl) dX10_law_19 (fun H locs hP hD hS => ?_)
    replace hP : va_P D vwCl [(hm, ob 10 (mo a (cntO pg pl.toNat) lw tl wk pe ch pl xR 1 (cntO pg pl.toNat) qe sd ik kp hh)), ((a 15), aI cB 50 pg), ((a 19), aI cI 4 ns2R), ((a 20), aI cI 4 nu2R), ((a 1), aI cI 4 so), ((a 2), aI cI 4 mu)] H := hP
    replace hD : va_D A [(hm, ob 10 (mo a (cntO pg pl.toNat) lw tl wk pe ch pl xR 1 (cntO pg pl.toNat) qe sd ik kp hh)), ((a 15), aI cB 50 pg), ((a 19), aI cI 4 ns2R), ((a 20), aI cI 4 nu2R), ((a 1), aI cI 4 so), ((a 2), aI cI 4 mu)] := hD
    refine lv_iconst (v := iZ 0) hx hb dX10_law_22 (by decide) ?_
    refine lv_istore_n (lv' := [(1, .int (iZ 0)), (0, .ref hm)]) hx hb dX10_law_23 rfl hl (by decide) rfl (fun ls hl => ?_)
    have lp24 : ∀ fuel : Nat, ∀ (i : Int) (so1 mu1 : Int → Int), (0 ≤ i ∧ i ≤ cntO pg pl.toNat) → (∀ j, 0 ≤ j → j < i → so1 j = soP pg pl j ∧ mu1 j = muP pg pl j) → (∀ j, (0 ≤ so1 j ∧ so1 j ≤ 4) ∧ (0 ≤ mu1 j ∧ mu1 j ≤ 9) ∧ (so1 j = 4 → 2 ≤ mu1 j)) → (cntO pg pl.toNat - i) < (fuel : Int) → ∀ (H : Heap) (locs : List Loc) (ls : Array Slot), va_P D vwCl [(hm, ob 10 (mo a (cntO pg pl.toNat) lw tl wk pe ch pl xR 1 (cntO pg pl.toNat) qe sd ik kp hh)), ((a 15), aI cB 50 pg), ((a 19), aI cI 4 ns2R), ((a 20), aI cI 4 nu2R), ((a 1), aI cI 4 so1), ((a 2), aI cI 4 mu1)] H → va_D A [(hm, ob 10 (mo a (cntO pg pl.toNat) lw tl wk pe ch pl xR 1 (cntO pg pl.toNat) qe sd ik kp hh)), ((a 15), aI cB 50 pg), ((a 19), aI cI 4 ns2R), ((a 20), aI cI 4 nu2R), ((a 1), aI cI 4 so1), ((a 2), aI cI 4 mu1)] → va_S A s.heap H locs → lv_has ls 2 [(0, .ref hm), (1, .int (iZ i))] → W p l e (zRm 2 47) s m [.ref hm].toArray below meth c H locs 0 0 (MQ below (zQi D [(hm, ob 10 (mo a st lw tl wk pe ch pl fa iw nm qe sd ik kp hh)), ((a 15), aI cB 50 pg), ((a 19), aI cI 4 ns), ((a 20), aI cI 4 nu), ((a 1), aI cI 4 so), ((a 2), aI cI 4 mu)] A (fun (z : Int) (w : va_W) => (∃ (x n2 : Int) (ns2 nu2 : Int → Int), (-103) = z ∧ w = [(hm, ob 10 (mo a st lw tl wk pe ch pl x 0 n2 qe sd ik kp hh)), ((a 15), aI cB 50 pg), ((a 19), aI cI 4 ns2), ((a 20), aI cI 4 nu2), ((a 1), aI cI 4 so), ((a 2), aI cI 4 mu)] ∧ ¬ WL pl pg) ∨ (∃ (x : Int) (ns2 nu2 so2 mu2 : Int → Int), cntO pg pl.toNat = z ∧ w = [(hm, ob 10 (mo a (cntO pg pl.toNat) (lw + 1) tl wk pe ch 0 x 1 (cntO pg pl.toNat) qe sd ik kp hh)), ((a 15), aI cB 50 pg), ((a 19), aI cI 4 ns2), ((a 20), aI cI 4 nu2), ((a 1), aI cI 4 so2), ((a 2), aI cI 4 mu2)] ∧ WL pl pg ∧ (∀ j, 0 ≤ j → j < cntO pg pl.toNat → so2 j = soP pg pl j ∧ mu2 j = muP pg pl j) ∧ (∀ j, (0 ≤ so2 j ∧ so2 j ≤ 4) ∧ (0 ≤ mu2 j ∧ mu2 j ≤ 9) ∧ (so2 j = 4 → 2 ≤ mu2 j))))) [.ref hm].toArray s 0 0 A) (F0 m 24 ls []) := by
      intro fuel
      induction fuel with
      | zero => intro i so1 mu1 hi hcp hsu1 hmu24; exact absurd hmu24 (by omega)
      | succ fuel ih24 =>
        intro i so1 mu1 hi hcp hsu1 hmu24 H locs ls hP hD hS hl
        refine lv_iload_n hx hb dX10_law_24 rfl (lv_at hl 1 rfl) ?_
        refine lv_aload_n hx hb dX10_law_25 rfl (lv_at hl 0 rfl) ?_
        refine z_get (C := RX10) (T0 := TX10) (N := 36) (ci := 10) (v := .int (iZ (cntO pg pl.toNat))) hx hb hts hown hK hP iwX10 rfl 0 rfl 0 (by decide) fl7 rfl dX10_law_26 ?_
        refine z_icmp_ge (tgt := 62) hx hb dX10_law_29 (by decide) (by first | assumption | omega) (by first | assumption | omega) (fun c_29 => ?_) (fun c_29 => ?_)
        · refine lv_aload_n hx hb dX10_law_62 rfl (lv_at hl 0 rfl) ?_
          refine lv_dup hx hb dX10_law_63 rfl ?_
          refine z_get (C := RX10) (T0 := TX10) (N := 36) (ci := 10) (v := .int (iZ lw)) hx hb hts hown hK hP iwX10 rfl 0 rfl 3 (by decide) fl108 rfl dX10_law_64 ?_
          refine lv_iconst (v := iZ 1) hx hb dX10_law_67 (by decide) ?_
          refine z_iadd hx hb dX10_law_68 ?_
          refine z_put (C := RX10) (T0 := TX10) (N := 36) (ci := 10) (v := .int (iZ (lw + 1))) hx hb hts hown hK hP hD hS iwX10 tyX10_ok nmX10 rfl 0 rfl 3 (by decide) fl108 rfl rfl rfl (Nat.le_of_ble_eq_true rfl) dX10_law_69 (fun H locs hP hD hS => ?_)
          replace hP : va_P D vwCl [(hm, ob 10 (mo a (cntO pg pl.toNat) (lw + 1) tl wk pe ch pl xR 1 (cntO pg pl.toNat) qe sd ik kp hh)), ((a 15), aI cB 50 pg), ((a 19), aI cI 4 ns2R), ((a 20), aI cI 4 nu2R), ((a 1), aI cI 4 so1), ((a 2), aI cI 4 mu1)] H := hP
          replace hD : va_D A [(hm, ob 10 (mo a (cntO pg pl.toNat) (lw + 1) tl wk pe ch pl xR 1 (cntO pg pl.toNat) qe sd ik kp hh)), ((a 15), aI cB 50 pg), ((a 19), aI cI 4 ns2R), ((a 20), aI cI 4 nu2R), ((a 1), aI cI 4 so1), ((a 2), aI cI 4 mu1)] := hD
          refine lv_aload_n hx hb dX10_law_72 rfl (lv_at hl 0 rfl) ?_
          refine lv_iconst (v := iZ 0) hx hb dX10_law_73 (by decide) ?_
          refine z_put (C := RX10) (T0 := TX10) (N := 36) (ci := 10) (v := .int (iZ 0)) hx hb hts hown hK hP hD hS iwX10 tyX10_ok nmX10 rfl 0 rfl 14 (by decide) fl81 rfl rfl rfl (Nat.le_of_ble_eq_true rfl) dX10_law_74 (fun H locs hP hD hS => ?_)
          replace hP : va_P D vwCl [(hm, ob 10 (mo a (cntO pg pl.toNat) (lw + 1) tl wk pe ch 0 xR 1 (cntO pg pl.toNat) qe sd ik kp hh)), ((a 15), aI cB 50 pg), ((a 19), aI cI 4 ns2R), ((a 20), aI cI 4 nu2R), ((a 1), aI cI 4 so1), ((a 2), aI cI 4 mu1)] H := hP
          replace hD : va_D A [(hm, ob 10 (mo a (cntO pg pl.toNat) (lw + 1) tl wk pe ch 0 xR 1 (cntO pg pl.toNat) qe sd ik kp hh)), ((a 15), aI cB 50 pg), ((a 19), aI cI 4 ns2R), ((a 20), aI cI 4 nu2R), ((a 1), aI cI 4 so1), ((a 2), aI cI 4 mu1)] := hD
          refine lv_aload_n hx hb dX10_law_77 rfl (lv_at hl 0 rfl) ?_
          refine z_get (C := RX10) (T0 := TX10) (N := 36) (ci := 10) (v := .int (iZ (cntO pg pl.toNat))) hx hb hts hown hK hP iwX10 rfl 0 rfl 0 (by decide) fl7 rfl dX10_law_78 ?_
          exact z_iret hx hb hr hlocks hP hD hS dX10_law_81 rfl (by have h9 : i = cntO pg pl.toNat := (by omega); exact Or.inr ⟨_, _, _, so1, mu1, rfl, rfl, hcR_1, by rw [← h9]; exact hcp, hsu1⟩)
        · refine lv_aload_n hx hb dX10_law_32 rfl (lv_at hl 0 rfl) ?_
          refine z_get (C := RX10) (T0 := TX10) (N := 36) (ci := 10) (v := .ref (a 1)) hx hb hts hown hK hP iwX10 rfl 0 rfl 1 (by decide) fl13 rfl dX10_law_33 ?_
          refine lv_iload_n hx hb dX10_law_36 rfl (lv_at hl 1 rfl) ?_
          refine lv_aload_n hx hb dX10_law_37 rfl (lv_at hl 0 rfl) ?_
          refine z_get (C := RX10) (T0 := TX10) (N := 36) (ci := 10) (v := .ref (a 19)) hx hb hts hown hK hP iwX10 rfl 0 rfl 19 (by decide) fl42 rfl dX10_law_38 ?_
          refine lv_iload_n hx hb dX10_law_41 rfl (lv_at hl 1 rfl) ?_
          refine z_iald hx hb hK hP 2 0 rfl rfl (by decide) (by first | assumption | omega) dX10_law_42 ?_
          refine z_iast hx hb hK hP hD hS 4 0 rfl rfl (by decide) (by first | assumption | omega) dX10_law_43 (fun H locs hP hD hS => ?_)
          replace hP : va_P D vwCl [(hm, ob 10 (mo a (cntO pg pl.toNat) lw tl wk pe ch pl xR 1 (cntO pg pl.toNat) qe sd ik kp hh)), ((a 15), aI cB 50 pg), ((a 19), aI cI 4 ns2R), ((a 20), aI cI 4 nu2R), ((a 1), aI cI 4 (zu so1 i (ns2R i))), ((a 2), aI cI 4 mu1)] H := hP
          replace hD : va_D A [(hm, ob 10 (mo a (cntO pg pl.toNat) lw tl wk pe ch pl xR 1 (cntO pg pl.toNat) qe sd ik kp hh)), ((a 15), aI cB 50 pg), ((a 19), aI cI 4 ns2R), ((a 20), aI cI 4 nu2R), ((a 1), aI cI 4 (zu so1 i (ns2R i))), ((a 2), aI cI 4 mu1)] := hD
          refine lv_aload_n hx hb dX10_law_44 rfl (lv_at hl 0 rfl) ?_
          refine z_get (C := RX10) (T0 := TX10) (N := 36) (ci := 10) (v := .ref (a 2)) hx hb hts hown hK hP iwX10 rfl 0 rfl 2 (by decide) fl17 rfl dX10_law_45 ?_
          refine lv_iload_n hx hb dX10_law_48 rfl (lv_at hl 1 rfl) ?_
          refine lv_aload_n hx hb dX10_law_49 rfl (lv_at hl 0 rfl) ?_
          refine z_get (C := RX10) (T0 := TX10) (N := 36) (ci := 10) (v := .ref (a 20)) hx hb hts hown hK hP iwX10 rfl 0 rfl 20 (by decide) fl45 rfl dX10_law_50 ?_
          refine lv_iload_n hx hb dX10_law_53 rfl (lv_at hl 1 rfl) ?_
          refine z_iald hx hb hK hP 3 0 rfl rfl (by decide) (by first | assumption | omega) dX10_law_54 ?_
          refine z_iast hx hb hK hP hD hS 5 0 rfl rfl (by decide) (by first | assumption | omega) dX10_law_55 (fun H locs hP hD hS => ?_)
          replace hP : va_P D vwCl [(hm, ob 10 (mo a (cntO pg pl.toNat) lw tl wk pe ch pl xR 1 (cntO pg pl.toNat) qe sd ik kp hh)), ((a 15), aI cB 50 pg), ((a 19), aI cI 4 ns2R), ((a 20), aI cI 4 nu2R), ((a 1), aI cI 4 (zu so1 i (ns2R i))), ((a 2), aI cI 4 (zu mu1 i (nu2R i)))] H := hP
          replace hD : va_D A [(hm, ob 10 (mo a (cntO pg pl.toNat) lw tl wk pe ch pl xR 1 (cntO pg pl.toNat) qe sd ik kp hh)), ((a 15), aI cB 50 pg), ((a 19), aI cI 4 ns2R), ((a 20), aI cI 4 nu2R), ((a 1), aI cI 4 (zu so1 i (ns2R i))), ((a 2), aI cI 4 (zu mu1 i (nu2R i)))] := hD
          refine z_iinc (lv' := [(1, .int (iZ (i + 1))), (0, .ref hm)]) hx hb dX10_law_56 hl (k := 1) rfl (by decide) rfl (fun ls hl => ?_)
          refine lv_goto (tgt := 24) hx hb dX10_law_59 (by decide) ?_
          exact ih24 (i + 1) (zu so1 i (ns2R i)) (zu mu1 i (nu2R i)) (by first | assumption | omega) (by intro j h0 h1; rw [zu_at, zu_at]; split; (rename_i hj; rw [hj]; exact hcR_2 i (by omega) (by omega)); exact hcp j h0 (by omega)) (by intro j; rw [zu_at, zu_at]; split; (have h9 := hcR_2 i (by omega) (by omega); rw [h9.1, h9.2]; exact soP_rng hcR_1 (by omega) (by omega)); exact hsu1 j) (by omega) _ _ _ hP hD hS (lv_sub hl [1, 0] rfl)
    exact lp24 ((cntO pg pl.toNat - 0 : Int) + 1).toNat 0 so mu (by first | assumption | omega) (by intro j h0 h1; omega) (by exact hsu) (by omega) _ _ _ hP hD hS (lv_sub hl [1, 0] rfl)
  · replace hP : va_P D vwCl [(hm, ob 10 (mo a st lw tl wk pe ch pl xR 0 n2R qe sd ik kp hh)), ((a 15), aI cB 50 pg), ((a 19), aI cI 4 ns2R), ((a 20), aI cI 4 nu2R), ((a 1), aI cI 4 so), ((a 2), aI cI 4 mu)] H := hP
    replace hD : va_D A [(hm, ob 10 (mo a st lw tl wk pe ch pl xR 0 n2R qe sd ik kp hh)), ((a 15), aI cB 50 pg), ((a 19), aI cI 4 ns2R), ((a 20), aI cI 4 nu2R), ((a 1), aI cI 4 so), ((a 2), aI cI 4 mu)] := hD
    refine lv_aload_n hx hb dX10_law_4 rfl (lv_at hl 0 rfl) ?_
    refine z_get (C := RX10) (T0 := TX10) (N := 36) (ci := 10) (v := .int (iZ 0)) hx hb hts hown hK hP iwX10 rfl 0 rfl 17 (by decide) fl98 rfl dX10_law_5 ?_
    refine z_if_ne (tgt := 14) hx hb dX10_law_8 (by decide) (by first | assumption | omega) (fun h => absurd h (by decide)) (fun _ => ?_)
    refine lv_bipush (v := iZ (-103)) hx hb dX10_law_11 (by decide) ?_
    exact z_iret hx hb hr hlocks hP hD hS dX10_law_13 rfl (by first | (exact Or.inl (⟨_, _, _, _, (by first | rfl | omega), rfl, (by first | assumption | omega)⟩)) | (exact Or.inr (⟨_, _, _, _, _, (by first | rfl | omega), rfl, (by first | assumption | omega), (by first | assumption | omega), (by first | assumption | omega)⟩)) | (exfalso; omega))
theorem qX10_week : yX10_week.cls ≠ "java/lang/invoke/MethodHandle" ∧ yX10_week.cls ≠ "java/lang/invoke/VarHandle" ∧ (parseMethodDescriptor yX10_week.desc).map (fun d => d.parameters.length) = some 0 := by decide +kernel
set_option maxHeartbeats 4000000 in
set_option maxRecDepth 100000 in
theorem c_X10_week (l : Launch) (D : va_G) (cI cJ cB : ClassId) (hm : Nat) (a : Nat → Nat) (st lw tl wk pe ch pl fa iw nm qe sd ik kp hh : Int) (pg nt no te tw : Int → Int) (hpl : 0 ≤ pl ∧ pl ≤ 50) (hpg : ∀ j, 0 ≤ pg j ∧ pg j ≤ 126) (hte : ∀ j, 0 ≤ te j ∧ te j ≤ 7) (htw : ∀ j, 0 ≤ tw j ∧ tw j ≤ 7) : zMi l yX10_week wsX10_week (zRm 2 47) D (zT cI cJ cB) [.ref hm] [(hm, ob 10 (mo a st lw tl wk pe ch pl fa iw nm qe sd ik kp hh)), ((a 15), aI cB 50 pg), ((a 21), aI cI 16 nt), ((a 22), aI cI 16 no), ((a 5), aI cI 16 te), ((a 6), aI cI 16 tw)] (fun (z : Int) (w : va_W) => (∃ (x n2 : Int) (nt2 no2 : Int → Int), (-103) = z ∧ w = [(hm, ob 10 (mo a st lw tl wk pe ch pl x 0 n2 qe sd ik kp hh)), ((a 15), aI cB 50 pg), ((a 21), aI cI 16 nt2), ((a 22), aI cI 16 no2), ((a 5), aI cI 16 te), ((a 6), aI cI 16 tw)] ∧ ¬ WW pl pg) ∨ (∃ (x : Int) (nt2 no2 te2 tw2 : Int → Int), (pl + 1) / 3 = z ∧ w = [(hm, ob 10 (mo a st lw ((pl + 1) / 3) (wk + 1) pe ch 0 x 1 ((pl + 1) / 3) qe sd ik kp hh)), ((a 15), aI cB 50 pg), ((a 21), aI cI 16 nt2), ((a 22), aI cI 16 no2), ((a 5), aI cI 16 te2), ((a 6), aI cI 16 tw2)] ∧ WW pl pg ∧ (∀ j, 0 ≤ j → j < (pl + 1) / 3 → te2 j = pg (3 * j) - 48 ∧ tw2 j = pg (3 * j + 1) - 48) ∧ (∀ j, 0 ≤ te2 j ∧ te2 j ≤ 7) ∧ (∀ j, 0 ≤ tw2 j ∧ tw2 j ≤ 7))) := by
  refine z_of (Qc := fun A => zQi D [(hm, ob 10 (mo a st lw tl wk pe ch pl fa iw nm qe sd ik kp hh)), ((a 15), aI cB 50 pg), ((a 21), aI cI 16 nt), ((a 22), aI cI 16 no), ((a 5), aI cI 16 te), ((a 6), aI cI 16 tw)] A _) (cc := cX10_week) (maxL := 2) (ret := (some .int)) (by decide) rfl (Nat.le_of_ble_eq_true rfl) ?_
  intro p e s m below meth c A ls hx hb hr hts hown hlocks hml hK hP hD hS hA hl
  replace hown : s.vm.findClass RX10 = some m.cls := hown
  have hC : CallFix p m c cX10_week 2 s _ wsX10_week RX10 := ⟨hx, hb, hml, hown, hts⟩
  replace hl : lv_has ls 2 [(0, .ref hm)] := hl
  have iwX10 : ∀ w ∈ u_ws RX10 TX10 36, w ∈ wsX10_week := fun w h => List.mem_cons_of_mem _ (List.mem_append_right _ h)
  have fl20 : Cond.fieldLink RX10 20 "GrowsByHalfModel" "tellerOf" "[I" ∈ wsX10_week := by decide +kernel
  have fl23 : Cond.fieldLink RX10 23 "GrowsByHalfModel" "toldTo" "[I" ∈ wsX10_week := by decide +kernel
  have fl48 : Cond.fieldLink RX10 48 "GrowsByHalfModel" "newTeller" "[I" ∈ wsX10_week := by decide +kernel
  have fl51 : Cond.fieldLink RX10 51 "GrowsByHalfModel" "newTo" "[I" ∈ wsX10_week := by decide +kernel
  have fl81 : Cond.fieldLink RX10 81 "GrowsByHalfModel" "pageLength" "I" ∈ wsX10_week := by decide +kernel
  have fl84 : Cond.fieldLink RX10 84 "GrowsByHalfModel" "newMany" "I" ∈ wsX10_week := by decide +kernel
  have fl98 : Cond.fieldLink RX10 98 "GrowsByHalfModel" "isWhole" "Z" ∈ wsX10_week := by decide +kernel
  have fl111 : Cond.fieldLink RX10 111 "GrowsByHalfModel" "tellings" "I" ∈ wsX10_week := by decide +kernel
  have fl114 : Cond.fieldLink RX10 114 "GrowsByHalfModel" "weeks" "I" ∈ wsX10_week := by decide +kernel
  refine lv_aload_n hx hb dX10_week_0 rfl (lv_at hl 0 rfl) ?_
  refine z_Vv (As := []) (rest := []) hC (c_X10_readWeek l D cI cJ cB hm a st lw tl wk pe ch pl fa iw nm qe sd ik kp hh pg nt no (by first | assumption | omega) (by first | assumption | omega)) 0 gX10_week_X10_readWeek rfl rfl rfl ⟨rfl, qX10_readWeek⟩ ⟨Nat.le_of_ble_eq_true rfl, Nat.le_of_ble_eq_true rfl⟩ ⟨Nat.le_refl _, Nat.le_refl _⟩ hK hP hD hS hA [0, 1, 2, 3] rfl (by decide) 0 rfl rfl rfl hl.1 rfl (Nat.le_of_ble_eq_true rfl) dX10_week_1 (fun w H locs hq hP hD hS => ?_)
  rcases hq with ⟨xR, nt2R, no2R, rfl, hcR_0, hcR_1, hcR_2⟩ | ⟨xR, n2R, nt2R, no2R, rfl, hcR_0, hcR_1⟩
  · replace hP : va_P D vwCl [(hm, ob 10 (mo a st lw tl wk pe ch pl xR 1 ((pl + 1) / 3) qe sd ik kp hh)), ((a 15), aI cB 50 pg), ((a 21), aI cI 16 nt2R), ((a 22), aI cI 16 no2R), ((a 5), aI cI 16 te), ((a 6), aI cI 16 tw)] H := hP
    replace hD : va_D A [(hm, ob 10 (mo a st lw tl wk pe ch pl xR 1 ((pl + 1) / 3) qe sd ik kp hh)), ((a 15), aI cB 50 pg), ((a 21), aI cI 16 nt2R), ((a 22), aI cI 16 no2R), ((a 5), aI cI 16 te), ((a 6), aI cI 16 tw)] := hD
    have hwl := WW_le hcR_1 (by omega)
    refine lv_aload_n hx hb dX10_week_4 rfl (lv_at hl 0 rfl) ?_
    refine z_get (C := RX10) (T0 := TX10) (N := 36) (ci := 10) (v := .int (iZ 1)) hx hb hts hown hK hP iwX10 rfl 0 rfl 17 (by decide) fl98 rfl dX10_week_5 ?_
    refine z_if_ne (tgt := 14) hx hb dX10_week_8 (by decide) (by first | assumption | omega) (fun _ => ?_) (fun h => absurd h (by decide))
    refine lv_aload_n hx hb dX10_week_14 rfl (lv_at hl 0 rfl) ?_
    refine lv_aload_n hx hb dX10_week_15 rfl (lv_at hl 0 rfl) ?_
    refine z_get (C := RX10) (T0 := TX10) (N := 36) (ci := 10) (v := .int (iZ ((pl + 1) / 3))) hx hb hts hown hK hP iwX10 rfl 0 rfl 18 (by decide) fl84 rfl dX10_week_16 ?_
    refine z_put (C := RX10) (T0 := TX10) (N := 36) (ci := 10) (v := .int (iZ ((pl + 1) / 3))) hx hb hts hown hK hP hD hS iwX10 tyX10_ok nmX10 rfl 0 rfl 4 (by decide) fl111 rfl rfl rfl (Nat.le_of_ble_eq_true rfl) dX10_week_19 (fun H locs hP hD hS => ?_)
    replace hP : va_P D vwCl [(hm, ob 10 (mo a st lw ((pl + 1) / 3) wk pe ch pl xR 1 ((pl + 1) / 3) qe sd ik kp hh)), ((a 15), aI cB 50 pg), ((a 21), aI cI 16 nt2R), ((a 22), aI cI 16 no2R), ((a 5), aI cI 16 te), ((a 6), aI cI 16 tw)] H := hP
    replace hD : va_D A [(hm, ob 10 (mo a st lw ((pl + 1) / 3) wk pe ch pl xR 1 ((pl + 1) / 3) qe sd ik kp hh)), ((a 15), aI cB 50 pg), ((a 21), aI cI 16 nt2R), ((a 22), aI cI 16 no2R), ((a 5), aI cI 16 te), ((a 6), aI cI 16 tw)] := hD
    refine lv_iconst (v := iZ 0) hx hb dX10_week_22 (by decide) ?_
    refine lv_istore_n (lv' := [(1, .int (iZ 0)), (0, .ref hm)]) hx hb dX10_week_23 rfl hl (by decide) rfl (fun ls hl => ?_)
    have lp24 : ∀ fuel : Nat, ∀ (i : Int) (te1 tw1 : Int → Int), (0 ≤ i ∧ i ≤ (pl + 1) / 3) → (∀ j, 0 ≤ j → j < i → te1 j = pg (3 * j) - 48 ∧ tw1 j = pg (3 * j + 1) - 48) → (∀ j, 0 ≤ te1 j ∧ te1 j ≤ 7) → (∀ j, 0 ≤ tw1 j ∧ tw1 j ≤ 7) → ((pl + 1) / 3 - i) < (fuel : Int) → ∀ (H : Heap) (locs : List Loc) (ls : Array Slot), va_P D vwCl [(hm, ob 10 (mo a st lw ((pl + 1) / 3) wk pe ch pl xR 1 ((pl + 1) / 3) qe sd ik kp hh)), ((a 15), aI cB 50 pg), ((a 21), aI cI 16 nt2R), ((a 22), aI cI 16 no2R), ((a 5), aI cI 16 te1), ((a 6), aI cI 16 tw1)] H → va_D A [(hm, ob 10 (mo a st lw ((pl + 1) / 3) wk pe ch pl xR 1 ((pl + 1) / 3) qe sd ik kp hh)), ((a 15), aI cB 50 pg), ((a 21), aI cI 16 nt2R), ((a 22), aI cI 16 no2R), ((a 5), aI cI 16 te1), ((a 6), aI cI 16 tw1)] → va_S A s.heap H locs → lv_has ls 2 [(0, .ref hm), (1, .int (iZ i))] → W p l e (zRm 2 47) s m [.ref hm].toArray below meth c H locs 0 0 (MQ below (zQi D [(hm, ob 10 (mo a st lw tl wk pe ch pl fa iw nm qe sd ik kp hh)), ((a 15), aI cB 50 pg), ((a 21), aI cI 16 nt), ((a 22), aI cI 16 no), ((a 5), aI cI 16 te), ((a 6), aI cI 16 tw)] A (fun (z : Int) (w : va_W) => (∃ (x n2 : Int) (nt2 no2 : Int → Int), (-103) = z ∧ w = [(hm, ob 10 (mo a st lw tl wk pe ch pl x 0 n2 qe sd ik kp hh)), ((a 15), aI cB 50 pg), ((a 21), aI cI 16 nt2), ((a 22), aI cI 16 no2), ((a 5), aI cI 16 te), ((a 6), aI cI 16 tw)] ∧ ¬ WW pl pg) ∨ (∃ (x : Int) (nt2 no2 te2 tw2 : Int → Int), (pl + 1) / 3 = z ∧ w = [(hm, ob 10 (mo a st lw ((pl + 1) / 3) (wk + 1) pe ch 0 x 1 ((pl + 1) / 3) qe sd ik kp hh)), ((a 15), aI cB 50 pg), ((a 21), aI cI 16 nt2), ((a 22), aI cI 16 no2), ((a 5), aI cI 16 te2), ((a 6), aI cI 16 tw2)] ∧ WW pl pg ∧ (∀ j, 0 ≤ j → j < (pl + 1) / 3 → te2 j = pg (3 * j) - 48 ∧ tw2 j = pg (3 * j + 1) - 48) ∧ (∀ j, 0 ≤ te2 j ∧ te2 j ≤ 7) ∧ (∀ j, 0 ≤ tw2 j ∧ tw2 j ≤ 7)))) [.ref hm].toArray s 0 0 A) (F0 m 24 ls []) := by
      intro fuel
      induction fuel with
      | zero => intro i te1 tw1 hi hcp ht1 ht2 hmu24; exact absurd hmu24 (by omega)
      | succ fuel ih24 =>
        intro i te1 tw1 hi hcp ht1 ht2 hmu24 H locs ls hP hD hS hl
        refine lv_iload_n hx hb dX10_week_24 rfl (lv_at hl 1 rfl) ?_
        refine lv_aload_n hx hb dX10_week_25 rfl (lv_at hl 0 rfl) ?_
        refine z_get (C := RX10) (T0 := TX10) (N := 36) (ci := 10) (v := .int (iZ ((pl + 1) / 3))) hx hb hts hown hK hP iwX10 rfl 0 rfl 4 (by decide) fl111 rfl dX10_week_26 ?_
        refine z_icmp_ge (tgt := 62) hx hb dX10_week_29 (by decide) (by first | assumption | omega) (by first | assumption | omega) (fun c_29 => ?_) (fun c_29 => ?_)
        · refine lv_aload_n hx hb dX10_week_62 rfl (lv_at hl 0 rfl) ?_
          refine lv_dup hx hb dX10_week_63 rfl ?_
          refine z_get (C := RX10) (T0 := TX10) (N := 36) (ci := 10) (v := .int (iZ wk)) hx hb hts hown hK hP iwX10 rfl 0 rfl 7 (by decide) fl114 rfl dX10_week_64 ?_
          refine lv_iconst (v := iZ 1) hx hb dX10_week_67 (by decide) ?_
          refine z_iadd hx hb dX10_week_68 ?_
          refine z_put (C := RX10) (T0 := TX10) (N := 36) (ci := 10) (v := .int (iZ (wk + 1))) hx hb hts hown hK hP hD hS iwX10 tyX10_ok nmX10 rfl 0 rfl 7 (by decide) fl114 rfl rfl rfl (Nat.le_of_ble_eq_true rfl) dX10_week_69 (fun H locs hP hD hS => ?_)
          replace hP : va_P D vwCl [(hm, ob 10 (mo a st lw ((pl + 1) / 3) (wk + 1) pe ch pl xR 1 ((pl + 1) / 3) qe sd ik kp hh)), ((a 15), aI cB 50 pg), ((a 21), aI cI 16 nt2R), ((a 22), aI cI 16 no2R), ((a 5), aI cI 16 te1), ((a 6), aI cI 16 tw1)] H := hP
          replace hD : va_D A [(hm, ob 10 (mo a st lw ((pl + 1) / 3) (wk + 1) pe ch pl xR 1 ((pl + 1) / 3) qe sd ik kp hh)), ((a 15), aI cB 50 pg), ((a 21), aI cI 16 nt2R), ((a 22), aI cI 16 no2R), ((a 5), aI cI 16 te1), ((a 6), aI cI 16 tw1)] := hD
          refine lv_aload_n hx hb dX10_week_72 rfl (lv_at hl 0 rfl) ?_
          refine lv_iconst (v := iZ 0) hx hb dX10_week_73 (by decide) ?_
          refine z_put (C := RX10) (T0 := TX10) (N := 36) (ci := 10) (v := .int (iZ 0)) hx hb hts hown hK hP hD hS iwX10 tyX10_ok nmX10 rfl 0 rfl 14 (by decide) fl81 rfl rfl rfl (Nat.le_of_ble_eq_true rfl) dX10_week_74 (fun H locs hP hD hS => ?_)
          replace hP : va_P D vwCl [(hm, ob 10 (mo a st lw ((pl + 1) / 3) (wk + 1) pe ch 0 xR 1 ((pl + 1) / 3) qe sd ik kp hh)), ((a 15), aI cB 50 pg), ((a 21), aI cI 16 nt2R), ((a 22), aI cI 16 no2R), ((a 5), aI cI 16 te1), ((a 6), aI cI 16 tw1)] H := hP
          replace hD : va_D A [(hm, ob 10 (mo a st lw ((pl + 1) / 3) (wk + 1) pe ch 0 xR 1 ((pl + 1) / 3) qe sd ik kp hh)), ((a 15), aI cB 50 pg), ((a 21), aI cI 16 nt2R), ((a 22), aI cI 16 no2R), ((a 5), aI cI 16 te1), ((a 6), aI cI 16 tw1)] := hD
          refine lv_aload_n hx hb dX10_week_77 rfl (lv_at hl 0 rfl) ?_
          refine z_get (C := RX10) (T0 := TX10) (N := 36) (ci := 10) (v := .int (iZ ((pl + 1) / 3))) hx hb hts hown hK hP iwX10 rfl 0 rfl 4 (by decide) fl111 rfl dX10_week_78 ?_
          exact z_iret hx hb hr hlocks hP hD hS dX10_week_81 rfl (by have h9 : i = (pl + 1) / 3 := (by omega); exact Or.inr ⟨_, _, _, te1, tw1, rfl, rfl, hcR_1, by rw [← h9]; exact hcp, ht1, ht2⟩)
        · refine lv_aload_n hx hb dX10_week_32 rfl (lv_at hl 0 rfl) ?_
          refine z_get (C := RX10) (T0 := TX10) (N := 36) (ci := 10) (v := .ref (a 5)) hx hb hts hown hK hP iwX10 rfl 0 rfl 5 (by decide) fl20 rfl dX10_week_33 ?_
          refine lv_iload_n hx hb dX10_week_36 rfl (lv_at hl 1 rfl) ?_
          refine lv_aload_n hx hb dX10_week_37 rfl (lv_at hl 0 rfl) ?_
          refine z_get (C := RX10) (T0 := TX10) (N := 36) (ci := 10) (v := .ref (a 21)) hx hb hts hown hK hP iwX10 rfl 0 rfl 21 (by decide) fl48 rfl dX10_week_38 ?_
          refine lv_iload_n hx hb dX10_week_41 rfl (lv_at hl 1 rfl) ?_
          refine z_iald hx hb hK hP 2 0 rfl rfl (by decide) (by first | assumption | omega) dX10_week_42 ?_
          refine z_iast hx hb hK hP hD hS 4 0 rfl rfl (by decide) (by first | assumption | omega) dX10_week_43 (fun H locs hP hD hS => ?_)
          replace hP : va_P D vwCl [(hm, ob 10 (mo a st lw ((pl + 1) / 3) wk pe ch pl xR 1 ((pl + 1) / 3) qe sd ik kp hh)), ((a 15), aI cB 50 pg), ((a 21), aI cI 16 nt2R), ((a 22), aI cI 16 no2R), ((a 5), aI cI 16 (zu te1 i (nt2R i))), ((a 6), aI cI 16 tw1)] H := hP
          replace hD : va_D A [(hm, ob 10 (mo a st lw ((pl + 1) / 3) wk pe ch pl xR 1 ((pl + 1) / 3) qe sd ik kp hh)), ((a 15), aI cB 50 pg), ((a 21), aI cI 16 nt2R), ((a 22), aI cI 16 no2R), ((a 5), aI cI 16 (zu te1 i (nt2R i))), ((a 6), aI cI 16 tw1)] := hD
          refine lv_aload_n hx hb dX10_week_44 rfl (lv_at hl 0 rfl) ?_
          refine z_get (C := RX10) (T0 := TX10) (N := 36) (ci := 10) (v := .ref (a 6)) hx hb hts hown hK hP iwX10 rfl 0 rfl 6 (by decide) fl23 rfl dX10_week_45 ?_
          refine lv_iload_n hx hb dX10_week_48 rfl (lv_at hl 1 rfl) ?_
          refine lv_aload_n hx hb dX10_week_49 rfl (lv_at hl 0 rfl) ?_
          refine z_get (C := RX10) (T0 := TX10) (N := 36) (ci := 10) (v := .ref (a 22)) hx hb hts hown hK hP iwX10 rfl 0 rfl 22 (by decide) fl51 rfl dX10_week_50 ?_
          refine lv_iload_n hx hb dX10_week_53 rfl (lv_at hl 1 rfl) ?_
          refine z_iald hx hb hK hP 3 0 rfl rfl (by decide) (by first | assumption | omega) dX10_week_54 ?_
          refine z_iast hx hb hK hP hD hS 5 0 rfl rfl (by decide) (by first | assumption | omega) dX10_week_55 (fun H locs hP hD hS => ?_)
          replace hP : va_P D vwCl [(hm, ob 10 (mo a st lw ((pl + 1) / 3) wk pe ch pl xR 1 ((pl + 1) / 3) qe sd ik kp hh)), ((a 15), aI cB 50 pg), ((a 21), aI cI 16 nt2R), ((a 22), aI cI 16 no2R), ((a 5), aI cI 16 (zu te1 i (nt2R i))), ((a 6), aI cI 16 (zu tw1 i (no2R i)))] H := hP
          replace hD : va_D A [(hm, ob 10 (mo a st lw ((pl + 1) / 3) wk pe ch pl xR 1 ((pl + 1) / 3) qe sd ik kp hh)), ((a 15), aI cB 50 pg), ((a 21), aI cI 16 nt2R), ((a 22), aI cI 16 no2R), ((a 5), aI cI 16 (zu te1 i (nt2R i))), ((a 6), aI cI 16 (zu tw1 i (no2R i)))] := hD
          refine z_iinc (lv' := [(1, .int (iZ (i + 1))), (0, .ref hm)]) hx hb dX10_week_56 hl (k := 1) rfl (by decide) rfl (fun ls hl => ?_)
          refine lv_goto (tgt := 24) hx hb dX10_week_59 (by decide) ?_
          exact ih24 (i + 1) (zu te1 i (nt2R i)) (zu tw1 i (no2R i)) (by first | assumption | omega) (by intro j h0 h1; rw [zu_at, zu_at]; split; (rename_i hj; rw [hj]; exact hcR_2 i (by omega) (by omega)); exact hcp j h0 (by omega)) (by exact zu_all (P := fun z => 0 ≤ z ∧ z ≤ 7) ht1 (by have h9 := hcR_2 i (by omega) (by omega); have h8 := WW_at hcR_1 (k := i) (by omega) (by have h7 := hcR_1.2; omega); omega)) (by exact zu_all (P := fun z => 0 ≤ z ∧ z ≤ 7) ht2 (by have h9 := hcR_2 i (by omega) (by omega); have h8 := WW_at hcR_1 (k := i) (by omega) (by have h7 := hcR_1.2; omega); omega)) (by omega) _ _ _ hP hD hS (lv_sub hl [1, 0] rfl)
    exact lp24 (((pl + 1) / 3 - 0 : Int) + 1).toNat 0 te tw (by first | assumption | omega) (by intro j h0 h1; omega) (by exact hte) (by exact htw) (by omega) _ _ _ hP hD hS (lv_sub hl [1, 0] rfl)
  · replace hP : va_P D vwCl [(hm, ob 10 (mo a st lw tl wk pe ch pl xR 0 n2R qe sd ik kp hh)), ((a 15), aI cB 50 pg), ((a 21), aI cI 16 nt2R), ((a 22), aI cI 16 no2R), ((a 5), aI cI 16 te), ((a 6), aI cI 16 tw)] H := hP
    replace hD : va_D A [(hm, ob 10 (mo a st lw tl wk pe ch pl xR 0 n2R qe sd ik kp hh)), ((a 15), aI cB 50 pg), ((a 21), aI cI 16 nt2R), ((a 22), aI cI 16 no2R), ((a 5), aI cI 16 te), ((a 6), aI cI 16 tw)] := hD
    refine lv_aload_n hx hb dX10_week_4 rfl (lv_at hl 0 rfl) ?_
    refine z_get (C := RX10) (T0 := TX10) (N := 36) (ci := 10) (v := .int (iZ 0)) hx hb hts hown hK hP iwX10 rfl 0 rfl 17 (by decide) fl98 rfl dX10_week_5 ?_
    refine z_if_ne (tgt := 14) hx hb dX10_week_8 (by decide) (by first | assumption | omega) (fun h => absurd h (by decide)) (fun _ => ?_)
    refine lv_bipush (v := iZ (-103)) hx hb dX10_week_11 (by decide) ?_
    exact z_iret hx hb hr hlocks hP hD hS dX10_week_13 rfl (by first | (exact Or.inl (⟨_, _, _, _, (by first | rfl | omega), rfl, (by first | assumption | omega)⟩)) | (exact Or.inr (⟨_, _, _, _, _, (by first | rfl | omega), rfl, (by first | assumption | omega), (by first | assumption | omega), (by first | assumption | omega), (by first | assumption | omega)⟩)) | (exfalso; omega))
