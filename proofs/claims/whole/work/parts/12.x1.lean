theorem qX9_isWithin : yX9_isWithin.cls ≠ "java/lang/invoke/MethodHandle" ∧ yX9_isWithin.cls ≠ "java/lang/invoke/VarHandle" ∧ (parseMethodDescriptor yX9_isWithin.desc).map (fun d => d.parameters.length) = some 3 := by decide +kernel
set_option maxHeartbeats 4000000 in
set_option maxRecDepth 100000 in
theorem c_X9_isWithin (l : Launch) (D : va_G) (cI cJ cB : ClassId) (n lo hi : Int) (hn : -2147483648 ≤ n ∧ n < 2147483648) (hlo : -2147483648 ≤ lo ∧ lo < 2147483648) (hhi : -2147483648 ≤ hi ∧ hi < 2147483648) : zMi l yX9_isWithin wsX9_isWithin (zRm 0 0) D (zT cI cJ cB) [.int (iZ n), .int (iZ lo), .int (iZ hi)] [] (fun (z : Int) (w : va_W) => (1 = z ∧ w = [] ∧ (lo ≤ n ∧ n ≤ hi)) ∨ (0 = z ∧ w = [] ∧ (¬ (lo ≤ n ∧ n ≤ hi)))) := by
  refine z_of (Qc := fun A => zQi D [] A _) (cc := cX9_isWithin) (maxL := 3) (ret := (some .boolean)) (by decide) rfl (Nat.le_of_ble_eq_true rfl) ?_
  intro p e s m below meth c A ls hx hb hr hts hown hlocks hml hK hP hD hS hA hl
  replace hown : s.vm.findClass RX9 = some m.cls := hown
  have hC : CallFix p m c cX9_isWithin 3 s _ wsX9_isWithin RX9 := ⟨hx, hb, hml, hown, hts⟩
  replace hl : lv_has ls 3 [(0, .int (iZ n)), (1, .int (iZ lo)), (2, .int (iZ hi))] := hl
  refine lv_iload_n hx hb dX9_isWithin_0 rfl (lv_at hl 0 rfl) ?_
  refine lv_iload_n hx hb dX9_isWithin_1 rfl (lv_at hl 1 rfl) ?_
  refine z_icmp_lt (tgt := 14) hx hb dX9_isWithin_2 (by decide) (by first | assumption | omega) (by first | assumption | omega) (fun c_2 => ?_) (fun c_2 => ?_)
  · refine lv_iconst (v := iZ 0) hx hb dX9_isWithin_14 (by decide) ?_
    exact z_zret hx hb hr hlocks hP hD hS dX9_isWithin_15 (by first | exact Or.inl rfl | exact Or.inr rfl | omega) rfl (by first | (exact Or.inr (⟨(by first | rfl | omega), rfl, (by first | assumption | omega)⟩)) | (exfalso; omega))
  · refine lv_iload_n hx hb dX9_isWithin_5 rfl (lv_at hl 0 rfl) ?_
    refine lv_iload_n hx hb dX9_isWithin_6 rfl (lv_at hl 2 rfl) ?_
    refine z_icmp_gt (tgt := 14) hx hb dX9_isWithin_7 (by decide) (by first | assumption | omega) (by first | assumption | omega) (fun c_7 => ?_) (fun c_7 => ?_)
    · refine lv_iconst (v := iZ 0) hx hb dX9_isWithin_14 (by decide) ?_
      exact z_zret hx hb hr hlocks hP hD hS dX9_isWithin_15 (by first | exact Or.inl rfl | exact Or.inr rfl | omega) rfl (by first | (exact Or.inr (⟨(by first | rfl | omega), rfl, (by first | assumption | omega)⟩)) | (exfalso; omega))
    · refine lv_iconst (v := iZ 1) hx hb dX9_isWithin_10 (by decide) ?_
      refine lv_goto (tgt := 15) hx hb dX9_isWithin_11 (by decide) ?_
      exact z_zret hx hb hr hlocks hP hD hS dX9_isWithin_15 (by first | exact Or.inl rfl | exact Or.inr rfl | omega) rfl (by first | (exact Or.inl (⟨(by first | rfl | omega), rfl, (by first | assumption | omega)⟩)) | (exfalso; omega))
theorem qX9_isSize : yX9_isSize.cls ≠ "java/lang/invoke/MethodHandle" ∧ yX9_isSize.cls ≠ "java/lang/invoke/VarHandle" ∧ (parseMethodDescriptor yX9_isSize.desc).map (fun d => d.parameters.length) = some 1 := by decide +kernel
set_option maxHeartbeats 4000000 in
set_option maxRecDepth 100000 in
theorem c_X9_isSize (l : Launch) (D : va_G) (cI cJ cB : ClassId) (n : Int) (hn : -2147483648 ≤ n ∧ n < 2147483648) : zMi l yX9_isSize wsX9_isSize (zRm 1 22) D (zT cI cJ cB) [.int (iZ n)] [] (fun (z : Int) (w : va_W) => (1 = z ∧ w = [] ∧ (0 ≤ n ∧ n ≤ 9999)) ∨ (0 = z ∧ w = [] ∧ (¬ (0 ≤ n ∧ n ≤ 9999)))) := by
  refine z_of (Qc := fun A => zQi D [] A _) (cc := cX9_isSize) (maxL := 1) (ret := (some .boolean)) (by decide) rfl (Nat.le_of_ble_eq_true rfl) ?_
  intro p e s m below meth c A ls hx hb hr hts hown hlocks hml hK hP hD hS hA hl
  replace hown : s.vm.findClass RX9 = some m.cls := hown
  have hC : CallFix p m c cX9_isSize 1 s _ wsX9_isSize RX9 := ⟨hx, hb, hml, hown, hts⟩
  replace hl : lv_has ls 1 [(0, .int (iZ n))] := hl
  refine lv_iload_n hx hb dX9_isSize_0 rfl (lv_at hl 0 rfl) ?_
  refine lv_iconst (v := iZ 0) hx hb dX9_isSize_1 (by decide) ?_
  refine lv_sipush (v := iZ 9999) hx hb dX9_isSize_2 (by decide) ?_
  refine z_Si (As := [.int (iZ n), .int (iZ 0), .int (iZ 9999)]) (rest := []) hC (c_X9_isWithin l D cI cJ cB n 0 9999 (by first | assumption | omega) (by first | assumption | omega) (by first | assumption | omega)) 3 gX9_isSize_X9_isWithin rfl rfl rfl qX9_isWithin ⟨Nat.le_of_ble_eq_true rfl, Nat.le_of_ble_eq_true rfl⟩ ⟨Nat.le_refl _, Nat.le_refl _⟩ hK hP hD hS hA [] rfl (by decide) rfl hl.1 rfl (Nat.le_of_ble_eq_true rfl) dX9_isSize_5 (fun z w H locs hq hP hD hS => ?_)
  rcases hq with ⟨rfl, rfl, hc1_0⟩ | ⟨rfl, rfl, hc1_0⟩
  · replace hP : va_P D vwCl [] H := hP
    replace hD : va_D A [] := hD
    exact z_zret hx hb hr hlocks hP hD hS dX9_isSize_8 (by first | exact Or.inl rfl | exact Or.inr rfl | omega) rfl (by first | (exact Or.inl (⟨(by first | rfl | omega), rfl, (by first | assumption | omega)⟩)) | (exfalso; omega))
  · replace hP : va_P D vwCl [] H := hP
    replace hD : va_D A [] := hD
    exact z_zret hx hb hr hlocks hP hD hS dX9_isSize_8 (by first | exact Or.inl rfl | exact Or.inr rfl | omega) rfl (by first | (exact Or.inr (⟨(by first | rfl | omega), rfl, (by first | assumption | omega)⟩)) | (exfalso; omega))
theorem qX9_isTale : yX9_isTale.cls ≠ "java/lang/invoke/MethodHandle" ∧ yX9_isTale.cls ≠ "java/lang/invoke/VarHandle" ∧ (parseMethodDescriptor yX9_isTale.desc).map (fun d => d.parameters.length) = some 1 := by decide +kernel
set_option maxHeartbeats 4000000 in
set_option maxRecDepth 100000 in
theorem c_X9_isTale (l : Launch) (D : va_G) (cI cJ cB : ClassId) (n : Int) (hn : -2147483648 ≤ n ∧ n < 2147483648) : zMi l yX9_isTale wsX9_isTale (zRm 1 22) D (zT cI cJ cB) [.int (iZ n)] [] (fun (z : Int) (w : va_W) => (1 = z ∧ w = [] ∧ (0 ≤ n ∧ n ≤ 3)) ∨ (0 = z ∧ w = [] ∧ (¬ (0 ≤ n ∧ n ≤ 3)))) := by
  refine z_of (Qc := fun A => zQi D [] A _) (cc := cX9_isTale) (maxL := 1) (ret := (some .boolean)) (by decide) rfl (Nat.le_of_ble_eq_true rfl) ?_
  intro p e s m below meth c A ls hx hb hr hts hown hlocks hml hK hP hD hS hA hl
  replace hown : s.vm.findClass RX9 = some m.cls := hown
  have hC : CallFix p m c cX9_isTale 1 s _ wsX9_isTale RX9 := ⟨hx, hb, hml, hown, hts⟩
  replace hl : lv_has ls 1 [(0, .int (iZ n))] := hl
  refine lv_iload_n hx hb dX9_isTale_0 rfl (lv_at hl 0 rfl) ?_
  refine lv_iconst (v := iZ 0) hx hb dX9_isTale_1 (by decide) ?_
  refine lv_iconst (v := iZ 3) hx hb dX9_isTale_2 (by decide) ?_
  refine z_Si (As := [.int (iZ n), .int (iZ 0), .int (iZ 3)]) (rest := []) hC (c_X9_isWithin l D cI cJ cB n 0 3 (by first | assumption | omega) (by first | assumption | omega) (by first | assumption | omega)) 3 gX9_isTale_X9_isWithin rfl rfl rfl qX9_isWithin ⟨Nat.le_of_ble_eq_true rfl, Nat.le_of_ble_eq_true rfl⟩ ⟨Nat.le_refl _, Nat.le_refl _⟩ hK hP hD hS hA [] rfl (by decide) rfl hl.1 rfl (Nat.le_of_ble_eq_true rfl) dX9_isTale_3 (fun z w H locs hq hP hD hS => ?_)
  rcases hq with ⟨rfl, rfl, hc1_0⟩ | ⟨rfl, rfl, hc1_0⟩
  · replace hP : va_P D vwCl [] H := hP
    replace hD : va_D A [] := hD
    exact z_zret hx hb hr hlocks hP hD hS dX9_isTale_6 (by first | exact Or.inl rfl | exact Or.inr rfl | omega) rfl (by first | (exact Or.inl (⟨(by first | rfl | omega), rfl, (by first | assumption | omega)⟩)) | (exfalso; omega))
  · replace hP : va_P D vwCl [] H := hP
    replace hD : va_D A [] := hD
    exact z_zret hx hb hr hlocks hP hD hS dX9_isTale_6 (by first | exact Or.inl rfl | exact Or.inr rfl | omega) rfl (by first | (exact Or.inr (⟨(by first | rfl | omega), rfl, (by first | assumption | omega)⟩)) | (exfalso; omega))
theorem qX9_isKind : yX9_isKind.cls ≠ "java/lang/invoke/MethodHandle" ∧ yX9_isKind.cls ≠ "java/lang/invoke/VarHandle" ∧ (parseMethodDescriptor yX9_isKind.desc).map (fun d => d.parameters.length) = some 1 := by decide +kernel
set_option maxHeartbeats 4000000 in
set_option maxRecDepth 100000 in
theorem c_X9_isKind (l : Launch) (D : va_G) (cI cJ cB : ClassId) (n : Int) (hn : -2147483648 ≤ n ∧ n < 2147483648) : zMi l yX9_isKind wsX9_isKind (zRm 1 22) D (zT cI cJ cB) [.int (iZ n)] [] (fun (z : Int) (w : va_W) => (1 = z ∧ w = [] ∧ (0 ≤ n ∧ n ≤ 3)) ∨ (0 = z ∧ w = [] ∧ (¬ (0 ≤ n ∧ n ≤ 3)))) := by
  refine z_of (Qc := fun A => zQi D [] A _) (cc := cX9_isKind) (maxL := 1) (ret := (some .boolean)) (by decide) rfl (Nat.le_of_ble_eq_true rfl) ?_
  intro p e s m below meth c A ls hx hb hr hts hown hlocks hml hK hP hD hS hA hl
  replace hown : s.vm.findClass RX9 = some m.cls := hown
  have hC : CallFix p m c cX9_isKind 1 s _ wsX9_isKind RX9 := ⟨hx, hb, hml, hown, hts⟩
  replace hl : lv_has ls 1 [(0, .int (iZ n))] := hl
  refine lv_iload_n hx hb dX9_isKind_0 rfl (lv_at hl 0 rfl) ?_
  refine lv_iconst (v := iZ 0) hx hb dX9_isKind_1 (by decide) ?_
  refine lv_iconst (v := iZ 3) hx hb dX9_isKind_2 (by decide) ?_
  refine z_Si (As := [.int (iZ n), .int (iZ 0), .int (iZ 3)]) (rest := []) hC (c_X9_isWithin l D cI cJ cB n 0 3 (by first | assumption | omega) (by first | assumption | omega) (by first | assumption | omega)) 3 gX9_isKind_X9_isWithin rfl rfl rfl qX9_isWithin ⟨Nat.le_of_ble_eq_true rfl, Nat.le_of_ble_eq_true rfl⟩ ⟨Nat.le_refl _, Nat.le_refl _⟩ hK hP hD hS hA [] rfl (by decide) rfl hl.1 rfl (Nat.le_of_ble_eq_true rfl) dX9_isKind_3 (fun z w H locs hq hP hD hS => ?_)
  rcases hq with ⟨rfl, rfl, hc1_0⟩ | ⟨rfl, rfl, hc1_0⟩
  · replace hP : va_P D vwCl [] H := hP
    replace hD : va_D A [] := hD
    exact z_zret hx hb hr hlocks hP hD hS dX9_isKind_6 (by first | exact Or.inl rfl | exact Or.inr rfl | omega) rfl (by first | (exact Or.inl (⟨(by first | rfl | omega), rfl, (by first | assumption | omega)⟩)) | (exfalso; omega))
  · replace hP : va_P D vwCl [] H := hP
    replace hD : va_D A [] := hD
    exact z_zret hx hb hr hlocks hP hD hS dX9_isKind_6 (by first | exact Or.inl rfl | exact Or.inr rfl | omega) rfl (by first | (exact Or.inr (⟨(by first | rfl | omega), rfl, (by first | assumption | omega)⟩)) | (exfalso; omega))
theorem qX9_isSuch : yX9_isSuch.cls ≠ "java/lang/invoke/MethodHandle" ∧ yX9_isSuch.cls ≠ "java/lang/invoke/VarHandle" ∧ (parseMethodDescriptor yX9_isSuch.desc).map (fun d => d.parameters.length) = some 2 := by decide +kernel
set_option maxHeartbeats 4000000 in
set_option maxRecDepth 100000 in
theorem c_X9_isSuch (l : Launch) (D : va_G) (cI cJ cB : ClassId) (k a : Int) (hk : -2147483648 ≤ k ∧ k < 2147483648) (ha : -2147483648 ≤ a ∧ a < 2147483648) : zMi l yX9_isSuch wsX9_isSuch (zRm 0 0) D (zT cI cJ cB) [.int (iZ k), .int (iZ a)] [] (fun (z : Int) (w : va_W) => (1 = z ∧ w = [] ∧ (a = 0 ∨ a = k ∨ a = 1 ∧ k = 2)) ∨ (0 = z ∧ w = [] ∧ (¬ (a = 0 ∨ a = k ∨ a = 1 ∧ k = 2)))) := by
  refine z_of (Qc := fun A => zQi D [] A _) (cc := cX9_isSuch) (maxL := 2) (ret := (some .boolean)) (by decide) rfl (Nat.le_of_ble_eq_true rfl) ?_
  intro p e s m below meth c A ls hx hb hr hts hown hlocks hml hK hP hD hS hA hl
  replace hown : s.vm.findClass RX9 = some m.cls := hown
  have hC : CallFix p m c cX9_isSuch 2 s _ wsX9_isSuch RX9 := ⟨hx, hb, hml, hown, hts⟩
  replace hl : lv_has ls 2 [(0, .int (iZ k)), (1, .int (iZ a))] := hl
  refine lv_iload_n hx hb dX9_isSuch_0 rfl (lv_at hl 1 rfl) ?_
  refine z_if_eq (tgt := 19) hx hb dX9_isSuch_1 (by decide) (by first | assumption | omega) (fun c_1 => ?_) (fun c_1 => ?_)
  · refine lv_iconst (v := iZ 1) hx hb dX9_isSuch_19 (by decide) ?_
    refine lv_goto (tgt := 24) hx hb dX9_isSuch_20 (by decide) ?_
    exact z_zret hx hb hr hlocks hP hD hS dX9_isSuch_24 (by first | exact Or.inl rfl | exact Or.inr rfl | omega) rfl (by first | (exact Or.inl (⟨(by first | rfl | omega), rfl, (by first | assumption | omega)⟩)) | (exfalso; omega))
  · refine lv_iload_n hx hb dX9_isSuch_4 rfl (lv_at hl 1 rfl) ?_
    refine lv_iload_n hx hb dX9_isSuch_5 rfl (lv_at hl 0 rfl) ?_
    refine z_icmp_eq (tgt := 19) hx hb dX9_isSuch_6 (by decide) (by first | assumption | omega) (by first | assumption | omega) (fun c_6 => ?_) (fun c_6 => ?_)
    · refine lv_iconst (v := iZ 1) hx hb dX9_isSuch_19 (by decide) ?_
      refine lv_goto (tgt := 24) hx hb dX9_isSuch_20 (by decide) ?_
      exact z_zret hx hb hr hlocks hP hD hS dX9_isSuch_24 (by first | exact Or.inl rfl | exact Or.inr rfl | omega) rfl (by first | (exact Or.inl (⟨(by first | rfl | omega), rfl, (by first | assumption | omega)⟩)) | (exfalso; omega))
    · refine lv_iload_n hx hb dX9_isSuch_9 rfl (lv_at hl 1 rfl) ?_
      refine lv_iconst (v := iZ 1) hx hb dX9_isSuch_10 (by decide) ?_
      refine z_icmp_ne (tgt := 23) hx hb dX9_isSuch_11 (by decide) (by first | assumption | omega) (by first | assumption | omega) (fun c_11 => ?_) (fun c_11 => ?_)
      · refine lv_iconst (v := iZ 0) hx hb dX9_isSuch_23 (by decide) ?_
        exact z_zret hx hb hr hlocks hP hD hS dX9_isSuch_24 (by first | exact Or.inl rfl | exact Or.inr rfl | omega) rfl (by first | (exact Or.inr (⟨(by first | rfl | omega), rfl, (by first | assumption | omega)⟩)) | (exfalso; omega))
      · refine lv_iload_n hx hb dX9_isSuch_14 rfl (lv_at hl 0 rfl) ?_
        refine lv_iconst (v := iZ 2) hx hb dX9_isSuch_15 (by decide) ?_
        refine z_icmp_ne (tgt := 23) hx hb dX9_isSuch_16 (by decide) (by first | assumption | omega) (by first | assumption | omega) (fun c_16 => ?_) (fun c_16 => ?_)
        · refine lv_iconst (v := iZ 0) hx hb dX9_isSuch_23 (by decide) ?_
          exact z_zret hx hb hr hlocks hP hD hS dX9_isSuch_24 (by first | exact Or.inl rfl | exact Or.inr rfl | omega) rfl (by first | (exact Or.inr (⟨(by first | rfl | omega), rfl, (by first | assumption | omega)⟩)) | (exfalso; omega))
        · refine lv_iconst (v := iZ 1) hx hb dX9_isSuch_19 (by decide) ?_
          refine lv_goto (tgt := 24) hx hb dX9_isSuch_20 (by decide) ?_
          exact z_zret hx hb hr hlocks hP hD hS dX9_isSuch_24 (by first | exact Or.inl rfl | exact Or.inr rfl | omega) rfl (by first | (exact Or.inl (⟨(by first | rfl | omega), rfl, (by first | assumption | omega)⟩)) | (exfalso; omega))
theorem qX9_mixed : yX9_mixed.cls ≠ "java/lang/invoke/MethodHandle" ∧ yX9_mixed.cls ≠ "java/lang/invoke/VarHandle" ∧ (parseMethodDescriptor yX9_mixed.desc).map (fun d => d.parameters.length) = some 2 := by decide +kernel
set_option maxHeartbeats 4000000 in
set_option maxRecDepth 100000 in
theorem c_X9_mixed (l : Launch) (D : va_G) (cI cJ cB : ClassId) (h n : Int) : zMl l yX9_mixed wsX9_mixed (zRm 0 0) D (zT cI cJ cB) [.long (lZ h), .long (lZ n)] [] (fun (z : Int) (w : va_W) => 31 * h + n = z ∧ w = []) := by
  refine z_of (Qc := fun A => zQl D [] A _) (cc := cX9_mixed) (maxL := 4) (ret := (some .long)) (by decide) rfl (Nat.le_of_ble_eq_true rfl) ?_
  intro p e s m below meth c A ls hx hb hr hts hown hlocks hml hK hP hD hS hA hl
  replace hown : s.vm.findClass RX9 = some m.cls := hown
  have hC : CallFix p m c cX9_mixed 4 s _ wsX9_mixed RX9 := ⟨hx, hb, hml, hown, hts⟩
  replace hl : lv_has ls 4 [(0, .long (lZ h)), (2, .long (lZ n))] := hl
  refine lv_ldc2 (v := lZ 31) hx hb hown (hts (.constantLong RX9 302 (31)) (by decide +kernel)) dX9_mixed_0 ?_
  refine lv_lload_n hx hb dX9_mixed_3 rfl (lv_at hl 0 rfl) ?_
  refine z_lmul hx hb dX9_mixed_4 ?_
  refine lv_lload_n hx hb dX9_mixed_5 rfl (lv_at hl 1 rfl) ?_
  refine z_ladd hx hb dX9_mixed_6 ?_
  exact z_lret hx hb hr hlocks hP hD hS dX9_mixed_7 rfl (by first | (exact ⟨(by first | rfl | omega), rfl⟩) | (exfalso; omega))
theorem qX3_people : yX3_people.cls ≠ "java/lang/invoke/MethodHandle" ∧ yX3_people.cls ≠ "java/lang/invoke/VarHandle" ∧ (parseMethodDescriptor yX3_people.desc).map (fun d => d.parameters.length) = some 0 := by decide +kernel
set_option maxHeartbeats 4000000 in
set_option maxRecDepth 100000 in
theorem c_X3_people (l : Launch) (D : va_G) (cI cJ cB : ClassId) (xf xfk xfn xfw xfs : Nat) (pe : Int) : zMi l yX3_people wsX3_people (zRm 0 0) D (zT cI cJ cB) [.ref xf] [(xf, ob 3 [.ref xfk, .ref xfn, .ref xfw, .ref xfs, .int (iZ pe)])] (fun (z : Int) (w : va_W) => pe = z ∧ w = [(xf, ob 3 [.ref xfk, .ref xfn, .ref xfw, .ref xfs, .int (iZ pe)])]) := by
  refine z_of (Qc := fun A => zQi D [(xf, ob 3 [.ref xfk, .ref xfn, .ref xfw, .ref xfs, .int (iZ pe)])] A _) (cc := cX3_people) (maxL := 1) (ret := (some .int)) (by decide) rfl (Nat.le_of_ble_eq_true rfl) ?_
  intro p e s m below meth c A ls hx hb hr hts hown hlocks hml hK hP hD hS hA hl
  replace hown : s.vm.findClass RX3 = some m.cls := hown
  have hC : CallFix p m c cX3_people 1 s _ wsX3_people RX3 := ⟨hx, hb, hml, hown, hts⟩
  replace hl : lv_has ls 1 [(0, .ref xf)] := hl
  have iwX3 : ∀ w ∈ u_ws RX3 TX3 5, w ∈ wsX3_people := fun w h => List.mem_cons_of_mem _ (List.mem_append_right _ h)
  have fl36 : Cond.fieldLink RX3 36 "GrowsByHalf$Folk" "people" "I" ∈ wsX3_people := by decide +kernel
  refine lv_aload_n hx hb dX3_people_0 rfl (lv_at hl 0 rfl) ?_
  refine z_get (C := RX3) (T0 := TX3) (N := 5) (ci := 3) (v := .int (iZ pe)) hx hb hts hown hK hP iwX3 rfl 0 rfl 4 (by decide) fl36 rfl dX3_people_1 ?_
  exact z_iret hx hb hr hlocks hP hD hS dX3_people_4 rfl (by first | (exact ⟨(by first | rfl | omega), rfl⟩) | (exfalso; omega))
theorem qX3_has : yX3_has.cls ≠ "java/lang/invoke/MethodHandle" ∧ yX3_has.cls ≠ "java/lang/invoke/VarHandle" ∧ (parseMethodDescriptor yX3_has.desc).map (fun d => d.parameters.length) = some 1 := by decide +kernel
set_option maxHeartbeats 4000000 in
set_option maxRecDepth 100000 in
theorem c_X3_has (l : Launch) (D : va_G) (cI cJ cB : ClassId) (xf xfk xfn xfw xfs : Nat) (pe p0 : Int) (hpe : 0 ≤ pe ∧ pe ≤ 8) (hp0 : -2147483648 ≤ p0 ∧ p0 < 2147483648) : zMi l yX3_has wsX3_has (zRm 0 0) D (zT cI cJ cB) [.ref xf, .int (iZ p0)] [(xf, ob 3 [.ref xfk, .ref xfn, .ref xfw, .ref xfs, .int (iZ pe)])] (fun (z : Int) (w : va_W) => (1 = z ∧ w = [(xf, ob 3 [.ref xfk, .ref xfn, .ref xfw, .ref xfs, .int (iZ pe)])] ∧ (0 ≤ p0 ∧ p0 < pe)) ∨ (0 = z ∧ w = [(xf, ob 3 [.ref xfk, .ref xfn, .ref xfw, .ref xfs, .int (iZ pe)])] ∧ (¬ (0 ≤ p0 ∧ p0 < pe)))) := by
  refine z_of (Qc := fun A => zQi D [(xf, ob 3 [.ref xfk, .ref xfn, .ref xfw, .ref xfs, .int (iZ pe)])] A _) (cc := cX3_has) (maxL := 2) (ret := (some .boolean)) (by decide) rfl (Nat.le_of_ble_eq_true rfl) ?_
  intro p e s m below meth c A ls hx hb hr hts hown hlocks hml hK hP hD hS hA hl
  replace hown : s.vm.findClass RX3 = some m.cls := hown
  have hC : CallFix p m c cX3_has 2 s _ wsX3_has RX3 := ⟨hx, hb, hml, hown, hts⟩
  replace hl : lv_has ls 2 [(0, .ref xf), (1, .int (iZ p0))] := hl
  have iwX3 : ∀ w ∈ u_ws RX3 TX3 5, w ∈ wsX3_has := fun w h => List.mem_cons_of_mem _ (List.mem_append_right _ h)
  have fl36 : Cond.fieldLink RX3 36 "GrowsByHalf$Folk" "people" "I" ∈ wsX3_has := by decide +kernel
  refine lv_iload_n hx hb dX3_has_0 rfl (lv_at hl 1 rfl) ?_
  refine z_if_lt (tgt := 16) hx hb dX3_has_1 (by decide) (by first | assumption | omega) (fun c_1 => ?_) (fun c_1 => ?_)
  · refine lv_iconst (v := iZ 0) hx hb dX3_has_16 (by decide) ?_
    exact z_zret hx hb hr hlocks hP hD hS dX3_has_17 (by first | exact Or.inl rfl | exact Or.inr rfl | omega) rfl (by first | (exact Or.inr (⟨(by first | rfl | omega), rfl, (by first | assumption | omega)⟩)) | (exfalso; omega))
  · refine lv_iload_n hx hb dX3_has_4 rfl (lv_at hl 1 rfl) ?_
    refine lv_aload_n hx hb dX3_has_5 rfl (lv_at hl 0 rfl) ?_
    refine z_get (C := RX3) (T0 := TX3) (N := 5) (ci := 3) (v := .int (iZ pe)) hx hb hts hown hK hP iwX3 rfl 0 rfl 4 (by decide) fl36 rfl dX3_has_6 ?_
    refine z_icmp_ge (tgt := 16) hx hb dX3_has_9 (by decide) (by first | assumption | omega) (by first | assumption | omega) (fun c_9 => ?_) (fun c_9 => ?_)
    · refine lv_iconst (v := iZ 0) hx hb dX3_has_16 (by decide) ?_
      exact z_zret hx hb hr hlocks hP hD hS dX3_has_17 (by first | exact Or.inl rfl | exact Or.inr rfl | omega) rfl (by first | (exact Or.inr (⟨(by first | rfl | omega), rfl, (by first | assumption | omega)⟩)) | (exfalso; omega))
    · refine lv_iconst (v := iZ 1) hx hb dX3_has_12 (by decide) ?_
      refine lv_goto (tgt := 17) hx hb dX3_has_13 (by decide) ?_
      exact z_zret hx hb hr hlocks hP hD hS dX3_has_17 (by first | exact Or.inl rfl | exact Or.inr rfl | omega) rfl (by first | (exact Or.inl (⟨(by first | rfl | omega), rfl, (by first | assumption | omega)⟩)) | (exfalso; omega))
theorem qX3_hasBoth : yX3_hasBoth.cls ≠ "java/lang/invoke/MethodHandle" ∧ yX3_hasBoth.cls ≠ "java/lang/invoke/VarHandle" ∧ (parseMethodDescriptor yX3_hasBoth.desc).map (fun d => d.parameters.length) = some 2 := by decide +kernel
set_option maxHeartbeats 4000000 in
set_option maxRecDepth 100000 in
theorem c_X3_hasBoth (l : Launch) (D : va_G) (cI cJ cB : ClassId) (xf xfk xfn xfw xfs : Nat) (pe p0 p1 : Int) (hpe : 0 ≤ pe ∧ pe ≤ 8) (hp0 : -2147483648 ≤ p0 ∧ p0 < 2147483648) (hp1 : -2147483648 ≤ p1 ∧ p1 < 2147483648) : zMi l yX3_hasBoth wsX3_hasBoth (zRm 1 21) D (zT cI cJ cB) [.ref xf, .int (iZ p0), .int (iZ p1)] [(xf, ob 3 [.ref xfk, .ref xfn, .ref xfw, .ref xfs, .int (iZ pe)])] (fun (z : Int) (w : va_W) => (1 = z ∧ w = [(xf, ob 3 [.ref xfk, .ref xfn, .ref xfw, .ref xfs, .int (iZ pe)])] ∧ (0 ≤ p0 ∧ p0 < pe ∧ 0 ≤ p1 ∧ p1 < pe ∧ p0 ≠ p1)) ∨ (0 = z ∧ w = [(xf, ob 3 [.ref xfk, .ref xfn, .ref xfw, .ref xfs, .int (iZ pe)])] ∧ (¬ (0 ≤ p0 ∧ p0 < pe ∧ 0 ≤ p1 ∧ p1 < pe ∧ p0 ≠ p1)))) := by
  refine z_of (Qc := fun A => zQi D [(xf, ob 3 [.ref xfk, .ref xfn, .ref xfw, .ref xfs, .int (iZ pe)])] A _) (cc := cX3_hasBoth) (maxL := 3) (ret := (some .boolean)) (by decide) rfl (Nat.le_of_ble_eq_true rfl) ?_
  intro p e s m below meth c A ls hx hb hr hts hown hlocks hml hK hP hD hS hA hl
  replace hown : s.vm.findClass RX3 = some m.cls := hown
  have hC : CallFix p m c cX3_hasBoth 3 s _ wsX3_hasBoth RX3 := ⟨hx, hb, hml, hown, hts⟩
  replace hl : lv_has ls 3 [(0, .ref xf), (1, .int (iZ p0)), (2, .int (iZ p1))] := hl
  refine lv_aload_n hx hb dX3_hasBoth_0 rfl (lv_at hl 0 rfl) ?_
  refine lv_iload_n hx hb dX3_hasBoth_1 rfl (lv_at hl 1 rfl) ?_
  refine z_Vi (As := [.int (iZ p0)]) (rest := []) hC (c_X3_has l D cI cJ cB xf xfk xfn xfw xfs pe p0 (by first | assumption | omega) (by first | assumption | omega)) 1 gX3_hasBoth_X3_has rfl rfl rfl ⟨rfl, qX3_has⟩ ⟨Nat.le_of_ble_eq_true rfl, Nat.le_of_ble_eq_true rfl⟩ ⟨Nat.le_refl _, Nat.le_refl _⟩ hK hP hD hS hA [0] rfl (by decide) 0 rfl rfl rfl hl.1 rfl (Nat.le_of_ble_eq_true rfl) dX3_hasBoth_2 (fun z w H locs hq hP hD hS => ?_)
  rcases hq with ⟨rfl, rfl, hc1_0⟩ | ⟨rfl, rfl, hc1_0⟩
  · replace hP : va_P D vwCl [(xf, ob 3 [.ref xfk, .ref xfn, .ref xfw, .ref xfs, .int (iZ pe)])] H := hP
    replace hD : va_D A [(xf, ob 3 [.ref xfk, .ref xfn, .ref xfw, .ref xfs, .int (iZ pe)])] := hD
    refine z_if_eq (tgt := 25) hx hb dX3_hasBoth_5 (by decide) (by first | assumption | omega) (fun h => absurd h (by decide)) (fun _ => ?_)
    refine lv_aload_n hx hb dX3_hasBoth_8 rfl (lv_at hl 0 rfl) ?_
    refine lv_iload_n hx hb dX3_hasBoth_9 rfl (lv_at hl 2 rfl) ?_
    refine z_Vi (As := [.int (iZ p1)]) (rest := []) hC (c_X3_has l D cI cJ cB xf xfk xfn xfw xfs pe p1 (by first | assumption | omega) (by first | assumption | omega)) 1 gX3_hasBoth_X3_has rfl rfl rfl ⟨rfl, qX3_has⟩ ⟨Nat.le_of_ble_eq_true rfl, Nat.le_of_ble_eq_true rfl⟩ ⟨Nat.le_refl _, Nat.le_refl _⟩ hK hP hD hS hA [0] rfl (by decide) 0 rfl rfl rfl hl.1 rfl (Nat.le_of_ble_eq_true rfl) dX3_hasBoth_10 (fun z w H locs hq hP hD hS => ?_)
    rcases hq with ⟨rfl, rfl, hc2_0⟩ | ⟨rfl, rfl, hc2_0⟩
    · replace hP : va_P D vwCl [(xf, ob 3 [.ref xfk, .ref xfn, .ref xfw, .ref xfs, .int (iZ pe)])] H := hP
      replace hD : va_D A [(xf, ob 3 [.ref xfk, .ref xfn, .ref xfw, .ref xfs, .int (iZ pe)])] := hD
      refine z_if_eq (tgt := 25) hx hb dX3_hasBoth_13 (by decide) (by first | assumption | omega) (fun h => absurd h (by decide)) (fun _ => ?_)
      refine lv_iload_n hx hb dX3_hasBoth_16 rfl (lv_at hl 1 rfl) ?_
      refine lv_iload_n hx hb dX3_hasBoth_17 rfl (lv_at hl 2 rfl) ?_
      refine z_icmp_eq (tgt := 25) hx hb dX3_hasBoth_18 (by decide) (by first | assumption | omega) (by first | assumption | omega) (fun c_18 => ?_) (fun c_18 => ?_)
      · refine lv_iconst (v := iZ 0) hx hb dX3_hasBoth_25 (by decide) ?_
        exact z_zret hx hb hr hlocks hP hD hS dX3_hasBoth_26 (by first | exact Or.inl rfl | exact Or.inr rfl | omega) rfl (by first | (exact Or.inr (⟨(by first | rfl | omega), rfl, (by first | assumption | omega)⟩)) | (exfalso; omega))
      · refine lv_iconst (v := iZ 1) hx hb dX3_hasBoth_21 (by decide) ?_
        refine lv_goto (tgt := 26) hx hb dX3_hasBoth_22 (by decide) ?_
        exact z_zret hx hb hr hlocks hP hD hS dX3_hasBoth_26 (by first | exact Or.inl rfl | exact Or.inr rfl | omega) rfl (by first | (exact Or.inl (⟨(by first | rfl | omega), rfl, (by first | assumption | omega)⟩)) | (exfalso; omega))
    · replace hP : va_P D vwCl [(xf, ob 3 [.ref xfk, .ref xfn, .ref xfw, .ref xfs, .int (iZ pe)])] H := hP
      replace hD : va_D A [(xf, ob 3 [.ref xfk, .ref xfn, .ref xfw, .ref xfs, .int (iZ pe)])] := hD
      refine z_if_eq (tgt := 25) hx hb dX3_hasBoth_13 (by decide) (by first | assumption | omega) (fun _ => ?_) (fun h => absurd h (by decide))
      refine lv_iconst (v := iZ 0) hx hb dX3_hasBoth_25 (by decide) ?_
      exact z_zret hx hb hr hlocks hP hD hS dX3_hasBoth_26 (by first | exact Or.inl rfl | exact Or.inr rfl | omega) rfl (by first | (exact Or.inr (⟨(by first | rfl | omega), rfl, (by first | assumption | omega)⟩)) | (exfalso; omega))
  · replace hP : va_P D vwCl [(xf, ob 3 [.ref xfk, .ref xfn, .ref xfw, .ref xfs, .int (iZ pe)])] H := hP
    replace hD : va_D A [(xf, ob 3 [.ref xfk, .ref xfn, .ref xfw, .ref xfs, .int (iZ pe)])] := hD
    refine z_if_eq (tgt := 25) hx hb dX3_hasBoth_5 (by decide) (by first | assumption | omega) (fun _ => ?_) (fun h => absurd h (by decide))
    refine lv_iconst (v := iZ 0) hx hb dX3_hasBoth_25 (by decide) ?_
    exact z_zret hx hb hr hlocks hP hD hS dX3_hasBoth_26 (by first | exact Or.inl rfl | exact Or.inr rfl | omega) rfl (by first | (exact Or.inr (⟨(by first | rfl | omega), rfl, (by first | assumption | omega)⟩)) | (exfalso; omega))
theorem qX3_hasRoom : yX3_hasRoom.cls ≠ "java/lang/invoke/MethodHandle" ∧ yX3_hasRoom.cls ≠ "java/lang/invoke/VarHandle" ∧ (parseMethodDescriptor yX3_hasRoom.desc).map (fun d => d.parameters.length) = some 0 := by decide +kernel
set_option maxHeartbeats 4000000 in
set_option maxRecDepth 100000 in
theorem c_X3_hasRoom (l : Launch) (D : va_G) (cI cJ cB : ClassId) (xf xfk xfn xfw xfs : Nat) (pe : Int) (hpe : 0 ≤ pe ∧ pe ≤ 8) : zMi l yX3_hasRoom wsX3_hasRoom (zRm 0 0) D (zT cI cJ cB) [.ref xf] [(xf, ob 3 [.ref xfk, .ref xfn, .ref xfw, .ref xfs, .int (iZ pe)])] (fun (z : Int) (w : va_W) => (1 = z ∧ w = [(xf, ob 3 [.ref xfk, .ref xfn, .ref xfw, .ref xfs, .int (iZ pe)])] ∧ pe < 8) ∨ (0 = z ∧ w = [(xf, ob 3 [.ref xfk, .ref xfn, .ref xfw, .ref xfs, .int (iZ pe)])] ∧ pe = 8)) := by
  refine z_of (Qc := fun A => zQi D [(xf, ob 3 [.ref xfk, .ref xfn, .ref xfw, .ref xfs, .int (iZ pe)])] A _) (cc := cX3_hasRoom) (maxL := 1) (ret := (some .boolean)) (by decide) rfl (Nat.le_of_ble_eq_true rfl) ?_
  intro p e s m below meth c A ls hx hb hr hts hown hlocks hml hK hP hD hS hA hl
  replace hown : s.vm.findClass RX3 = some m.cls := hown
  have hC : CallFix p m c cX3_hasRoom 1 s _ wsX3_hasRoom RX3 := ⟨hx, hb, hml, hown, hts⟩
  replace hl : lv_has ls 1 [(0, .ref xf)] := hl
  have iwX3 : ∀ w ∈ u_ws RX3 TX3 5, w ∈ wsX3_hasRoom := fun w h => List.mem_cons_of_mem _ (List.mem_append_right _ h)
  have fl36 : Cond.fieldLink RX3 36 "GrowsByHalf$Folk" "people" "I" ∈ wsX3_hasRoom := by decide +kernel
  refine lv_aload_n hx hb dX3_hasRoom_0 rfl (lv_at hl 0 rfl) ?_
  refine z_get (C := RX3) (T0 := TX3) (N := 5) (ci := 3) (v := .int (iZ pe)) hx hb hts hown hK hP iwX3 rfl 0 rfl 4 (by decide) fl36 rfl dX3_hasRoom_1 ?_
  refine lv_bipush (v := iZ 8) hx hb dX3_hasRoom_4 (by decide) ?_
  refine z_icmp_ge (tgt := 13) hx hb dX3_hasRoom_6 (by decide) (by first | assumption | omega) (by first | assumption | omega) (fun c_6 => ?_) (fun c_6 => ?_)
  · refine lv_iconst (v := iZ 0) hx hb dX3_hasRoom_13 (by decide) ?_
    exact z_zret hx hb hr hlocks hP hD hS dX3_hasRoom_14 (by first | exact Or.inl rfl | exact Or.inr rfl | omega) rfl (by first | (exact Or.inr (⟨(by first | rfl | omega), rfl, (by first | assumption | omega)⟩)) | (exfalso; omega))
  · refine lv_iconst (v := iZ 1) hx hb dX3_hasRoom_9 (by decide) ?_
    refine lv_goto (tgt := 14) hx hb dX3_hasRoom_10 (by decide) ?_
    exact z_zret hx hb hr hlocks hP hD hS dX3_hasRoom_14 (by first | exact Or.inl rfl | exact Or.inr rfl | omega) rfl (by first | (exact Or.inl (⟨(by first | rfl | omega), rfl, (by first | assumption | omega)⟩)) | (exfalso; omega))
theorem qX3_add : yX3_add.cls ≠ "java/lang/invoke/MethodHandle" ∧ yX3_add.cls ≠ "java/lang/invoke/VarHandle" ∧ (parseMethodDescriptor yX3_add.desc).map (fun d => d.parameters.length) = some 1 := by decide +kernel
set_option maxHeartbeats 4000000 in
set_option maxRecDepth 100000 in
theorem c_X3_add (l : Launch) (D : va_G) (cI cJ cB : ClassId) (xf xfk xfn xfw xfs : Nat) (kd : Int → Int) (pe k : Int) (hpe : 0 ≤ pe ∧ pe ≤ 8) (hk : -2147483648 ≤ k ∧ k < 2147483648) (hr : pe < 8) : zMi l yX3_add wsX3_add (zRm 1 20) D (zT cI cJ cB) [.ref xf, .int (iZ k)] [(xf, ob 3 [.ref xfk, .ref xfn, .ref xfw, .ref xfs, .int (iZ pe)]), (xfk, aI cI 8 kd)] (fun (z : Int) (w : va_W) => pe + 1 - 1 = z ∧ w = [(xf, ob 3 [.ref xfk, .ref xfn, .ref xfw, .ref xfs, .int (iZ (pe + 1))]), (xfk, aI cI 8 (zu kd pe k))]) := by
  refine z_of (Qc := fun A => zQi D [(xf, ob 3 [.ref xfk, .ref xfn, .ref xfw, .ref xfs, .int (iZ pe)]), (xfk, aI cI 8 kd)] A _) (cc := cX3_add) (maxL := 2) (ret := (some .int)) (by decide) rfl (Nat.le_of_ble_eq_true rfl) ?_
  intro p e s m below meth c A ls hx hb hr hts hown hlocks hml hK hP hD hS hA hl
  replace hown : s.vm.findClass RX3 = some m.cls := hown
  have hC : CallFix p m c cX3_add 2 s _ wsX3_add RX3 := ⟨hx, hb, hml, hown, hts⟩
  replace hl : lv_has ls 2 [(0, .ref xf), (1, .int (iZ k))] := hl
  have iwX3 : ∀ w ∈ u_ws RX3 TX3 5, w ∈ wsX3_add := fun w h => List.mem_cons_of_mem _ (List.mem_append_right _ h)
  have fl9 : Cond.fieldLink RX3 9 "GrowsByHalf$Folk" "kinds" "[I" ∈ wsX3_add := by decide +kernel
  have fl36 : Cond.fieldLink RX3 36 "GrowsByHalf$Folk" "people" "I" ∈ wsX3_add := by decide +kernel
  refine lv_aload_n hx hb dX3_add_0 rfl (lv_at hl 0 rfl) ?_
  refine z_Vi (As := []) (rest := []) hC (c_X3_hasRoom l D cI cJ cB xf xfk xfn xfw xfs pe (by first | assumption | omega)) 0 gX3_add_X3_hasRoom rfl rfl rfl ⟨rfl, qX3_hasRoom⟩ ⟨Nat.le_of_ble_eq_true rfl, Nat.le_of_ble_eq_true rfl⟩ ⟨Nat.le_refl _, Nat.le_refl _⟩ hK hP hD hS hA [0] rfl (by decide) 0 rfl rfl rfl hl.1 rfl (Nat.le_of_ble_eq_true rfl) dX3_add_1 (fun z w H locs hq hP hD hS => ?_)
  rcases hq with ⟨rfl, rfl, hc1_0⟩ | ⟨rfl, rfl, hc1_0⟩
  · replace hP : va_P D vwCl [(xf, ob 3 [.ref xfk, .ref xfn, .ref xfw, .ref xfs, .int (iZ pe)]), (xfk, aI cI 8 kd)] H := hP
    replace hD : va_D A [(xf, ob 3 [.ref xfk, .ref xfn, .ref xfw, .ref xfs, .int (iZ pe)]), (xfk, aI cI 8 kd)] := hD
    refine z_if_ne (tgt := 9) hx hb dX3_add_4 (by decide) (by first | assumption | omega) (fun _ => ?_) (fun h => absurd h (by decide))
    refine lv_aload_n hx hb dX3_add_9 rfl (lv_at hl 0 rfl) ?_
    refine z_get (C := RX3) (T0 := TX3) (N := 5) (ci := 3) (v := .ref xfk) hx hb hts hown hK hP iwX3 rfl 0 rfl 0 (by decide) fl9 rfl dX3_add_10 ?_
    refine lv_aload_n hx hb dX3_add_13 rfl (lv_at hl 0 rfl) ?_
    refine z_get (C := RX3) (T0 := TX3) (N := 5) (ci := 3) (v := .int (iZ pe)) hx hb hts hown hK hP iwX3 rfl 0 rfl 4 (by decide) fl36 rfl dX3_add_14 ?_
    refine lv_iload_n hx hb dX3_add_17 rfl (lv_at hl 1 rfl) ?_
    refine z_iast hx hb hK hP hD hS 1 0 rfl rfl (by decide) (by first | assumption | omega) dX3_add_18 (fun H locs hP hD hS => ?_)
    replace hP : va_P D vwCl [(xf, ob 3 [.ref xfk, .ref xfn, .ref xfw, .ref xfs, .int (iZ pe)]), (xfk, aI cI 8 (zu kd pe k))] H := hP
    replace hD : va_D A [(xf, ob 3 [.ref xfk, .ref xfn, .ref xfw, .ref xfs, .int (iZ pe)]), (xfk, aI cI 8 (zu kd pe k))] := hD
    refine lv_aload_n hx hb dX3_add_19 rfl (lv_at hl 0 rfl) ?_
    refine lv_dup hx hb dX3_add_20 rfl ?_
    refine z_get (C := RX3) (T0 := TX3) (N := 5) (ci := 3) (v := .int (iZ pe)) hx hb hts hown hK hP iwX3 rfl 0 rfl 4 (by decide) fl36 rfl dX3_add_21 ?_
    refine lv_iconst (v := iZ 1) hx hb dX3_add_24 (by decide) ?_
    refine z_iadd hx hb dX3_add_25 ?_
    refine z_put (C := RX3) (T0 := TX3) (N := 5) (ci := 3) (v := .int (iZ (pe + 1))) hx hb hts hown hK hP hD hS iwX3 tyX3_ok nmX3 rfl 0 rfl 4 (by decide) fl36 rfl rfl rfl (Nat.le_of_ble_eq_true rfl) dX3_add_26 (fun H locs hP hD hS => ?_)
    replace hP : va_P D vwCl [(xf, ob 3 [.ref xfk, .ref xfn, .ref xfw, .ref xfs, .int (iZ (pe + 1))]), (xfk, aI cI 8 (zu kd pe k))] H := hP
    replace hD : va_D A [(xf, ob 3 [.ref xfk, .ref xfn, .ref xfw, .ref xfs, .int (iZ (pe + 1))]), (xfk, aI cI 8 (zu kd pe k))] := hD
    refine lv_aload_n hx hb dX3_add_29 rfl (lv_at hl 0 rfl) ?_
    refine z_get (C := RX3) (T0 := TX3) (N := 5) (ci := 3) (v := .int (iZ (pe + 1))) hx hb hts hown hK hP iwX3 rfl 0 rfl 4 (by decide) fl36 rfl dX3_add_30 ?_
    refine lv_iconst (v := iZ 1) hx hb dX3_add_33 (by decide) ?_
    refine z_isub hx hb dX3_add_34 ?_
    exact z_iret hx hb hr hlocks hP hD hS dX3_add_35 rfl (by first | (exact ⟨(by first | rfl | omega), rfl⟩) | (exfalso; omega))
  · replace hP : va_P D vwCl [(xf, ob 3 [.ref xfk, .ref xfn, .ref xfw, .ref xfs, .int (iZ pe)]), (xfk, aI cI 8 kd)] H := hP
    replace hD : va_D A [(xf, ob 3 [.ref xfk, .ref xfn, .ref xfw, .ref xfs, .int (iZ pe)]), (xfk, aI cI 8 kd)] := hD
    refine z_if_ne (tgt := 9) hx hb dX3_add_4 (by decide) (by first | assumption | omega) (fun h => absurd h (by decide)) (fun _ => ?_)
    refine lv_iconst (v := iZ (-1)) hx hb dX3_add_7 (by decide) ?_
    exact z_iret hx hb hr hlocks hP hD hS dX3_add_8 rfl (by first | (exact ⟨(by first | rfl | omega), rfl⟩) | (exfalso; omega))
theorem qX3_kindOf : yX3_kindOf.cls ≠ "java/lang/invoke/MethodHandle" ∧ yX3_kindOf.cls ≠ "java/lang/invoke/VarHandle" ∧ (parseMethodDescriptor yX3_kindOf.desc).map (fun d => d.parameters.length) = some 1 := by decide +kernel
set_option maxHeartbeats 4000000 in
set_option maxRecDepth 100000 in
theorem c_X3_kindOf (l : Launch) (D : va_G) (cI cJ cB : ClassId) (xf xfk xfn xfw xfs : Nat) (kd : Int → Int) (pe p0 : Int) (hpe : 0 ≤ pe ∧ pe ≤ 8) (hp0 : -2147483648 ≤ p0 ∧ p0 < 2147483648) : zMi l yX3_kindOf wsX3_kindOf (zRm 1 21) D (zT cI cJ cB) [.ref xf, .int (iZ p0)] [(xf, ob 3 [.ref xfk, .ref xfn, .ref xfw, .ref xfs, .int (iZ pe)]), (xfk, aI cI 8 kd)] (fun (z : Int) (w : va_W) => (kd p0 = z ∧ w = [(xf, ob 3 [.ref xfk, .ref xfn, .ref xfw, .ref xfs, .int (iZ pe)]), (xfk, aI cI 8 kd)] ∧ (0 ≤ p0 ∧ p0 < pe)) ∨ ((-1) = z ∧ w = [(xf, ob 3 [.ref xfk, .ref xfn, .ref xfw, .ref xfs, .int (iZ pe)]), (xfk, aI cI 8 kd)] ∧ (¬ (0 ≤ p0 ∧ p0 < pe)))) := by
  refine z_of (Qc := fun A => zQi D [(xf, ob 3 [.ref xfk, .ref xfn, .ref xfw, .ref xfs, .int (iZ pe)]), (xfk, aI cI 8 kd)] A _) (cc := cX3_kindOf) (maxL := 2) (ret := (some .int)) (by decide) rfl (Nat.le_of_ble_eq_true rfl) ?_
  intro p e s m below meth c A ls hx hb hr hts hown hlocks hml hK hP hD hS hA hl
  replace hown : s.vm.findClass RX3 = some m.cls := hown
  have hC : CallFix p m c cX3_kindOf 2 s _ wsX3_kindOf RX3 := ⟨hx, hb, hml, hown, hts⟩
  replace hl : lv_has ls 2 [(0, .ref xf), (1, .int (iZ p0))] := hl
  have iwX3 : ∀ w ∈ u_ws RX3 TX3 5, w ∈ wsX3_kindOf := fun w h => List.mem_cons_of_mem _ (List.mem_append_right _ h)
  have fl9 : Cond.fieldLink RX3 9 "GrowsByHalf$Folk" "kinds" "[I" ∈ wsX3_kindOf := by decide +kernel
  refine lv_aload_n hx hb dX3_kindOf_0 rfl (lv_at hl 0 rfl) ?_
  refine lv_iload_n hx hb dX3_kindOf_1 rfl (lv_at hl 1 rfl) ?_
  refine z_Vi (As := [.int (iZ p0)]) (rest := []) hC (c_X3_has l D cI cJ cB xf xfk xfn xfw xfs pe p0 (by first | assumption | omega) (by first | assumption | omega)) 1 gX3_kindOf_X3_has rfl rfl rfl ⟨rfl, qX3_has⟩ ⟨Nat.le_of_ble_eq_true rfl, Nat.le_of_ble_eq_true rfl⟩ ⟨Nat.le_refl _, Nat.le_refl _⟩ hK hP hD hS hA [0] rfl (by decide) 0 rfl rfl rfl hl.1 rfl (Nat.le_of_ble_eq_true rfl) dX3_kindOf_2 (fun z w H locs hq hP hD hS => ?_)
  rcases hq with ⟨rfl, rfl, hc1_0⟩ | ⟨rfl, rfl, hc1_0⟩
  · replace hP : va_P D vwCl [(xf, ob 3 [.ref xfk, .ref xfn, .ref xfw, .ref xfs, .int (iZ pe)]), (xfk, aI cI 8 kd)] H := hP
    replace hD : va_D A [(xf, ob 3 [.ref xfk, .ref xfn, .ref xfw, .ref xfs, .int (iZ pe)]), (xfk, aI cI 8 kd)] := hD
    refine z_if_eq (tgt := 17) hx hb dX3_kindOf_5 (by decide) (by first | assumption | omega) (fun h => absurd h (by decide)) (fun _ => ?_)
    refine lv_aload_n hx hb dX3_kindOf_8 rfl (lv_at hl 0 rfl) ?_
    refine z_get (C := RX3) (T0 := TX3) (N := 5) (ci := 3) (v := .ref xfk) hx hb hts hown hK hP iwX3 rfl 0 rfl 0 (by decide) fl9 rfl dX3_kindOf_9 ?_
    refine lv_iload_n hx hb dX3_kindOf_12 rfl (lv_at hl 1 rfl) ?_
    refine z_iald hx hb hK hP 1 0 rfl rfl (by decide) (by first | assumption | omega) dX3_kindOf_13 ?_
    refine lv_goto (tgt := 18) hx hb dX3_kindOf_14 (by decide) ?_
    exact z_iret hx hb hr hlocks hP hD hS dX3_kindOf_18 rfl (by first | (exact Or.inl (⟨(by first | rfl | omega), rfl, (by first | assumption | omega)⟩)) | (exact Or.inr (⟨(by first | rfl | omega), rfl, (by first | assumption | omega)⟩)) | (exfalso; omega))
  · replace hP : va_P D vwCl [(xf, ob 3 [.ref xfk, .ref xfn, .ref xfw, .ref xfs, .int (iZ pe)]), (xfk, aI cI 8 kd)] H := hP
    replace hD : va_D A [(xf, ob 3 [.ref xfk, .ref xfn, .ref xfw, .ref xfs, .int (iZ pe)]), (xfk, aI cI 8 kd)] := hD
    refine z_if_eq (tgt := 17) hx hb dX3_kindOf_5 (by decide) (by first | assumption | omega) (fun _ => ?_) (fun h => absurd h (by decide))
    refine lv_iconst (v := iZ (-1)) hx hb dX3_kindOf_17 (by decide) ?_
    exact z_iret hx hb hr hlocks hP hD hS dX3_kindOf_18 rfl (by first | (exact Or.inl (⟨(by first | rfl | omega), rfl, (by first | assumption | omega)⟩)) | (exact Or.inr (⟨(by first | rfl | omega), rfl, (by first | assumption | omega)⟩)) | (exfalso; omega))
theorem qX3_knownBy : yX3_knownBy.cls ≠ "java/lang/invoke/MethodHandle" ∧ yX3_knownBy.cls ≠ "java/lang/invoke/VarHandle" ∧ (parseMethodDescriptor yX3_knownBy.desc).map (fun d => d.parameters.length) = some 1 := by decide +kernel
set_option maxHeartbeats 4000000 in
set_option maxRecDepth 100000 in
theorem c_X3_knownBy (l : Launch) (D : va_G) (cI cJ cB : ClassId) (xf xfk xfn xfw xfs : Nat) (kn : Int → Int) (pe p0 : Int) (hpe : 0 ≤ pe ∧ pe ≤ 8) (hp0 : -2147483648 ≤ p0 ∧ p0 < 2147483648) : zMi l yX3_knownBy wsX3_knownBy (zRm 1 21) D (zT cI cJ cB) [.ref xf, .int (iZ p0)] [(xf, ob 3 [.ref xfk, .ref xfn, .ref xfw, .ref xfs, .int (iZ pe)]), (xfn, aI cI 8 kn)] (fun (z : Int) (w : va_W) => (kn p0 = z ∧ w = [(xf, ob 3 [.ref xfk, .ref xfn, .ref xfw, .ref xfs, .int (iZ pe)]), (xfn, aI cI 8 kn)] ∧ (0 ≤ p0 ∧ p0 < pe)) ∨ (0 = z ∧ w = [(xf, ob 3 [.ref xfk, .ref xfn, .ref xfw, .ref xfs, .int (iZ pe)]), (xfn, aI cI 8 kn)] ∧ (¬ (0 ≤ p0 ∧ p0 < pe)))) := by
  refine z_of (Qc := fun A => zQi D [(xf, ob 3 [.ref xfk, .ref xfn, .ref xfw, .ref xfs, .int (iZ pe)]), (xfn, aI cI 8 kn)] A _) (cc := cX3_knownBy) (maxL := 2) (ret := (some .int)) (by decide) rfl (Nat.le_of_ble_eq_true rfl) ?_
  intro p e s m below meth c A ls hx hb hr hts hown hlocks hml hK hP hD hS hA hl
  replace hown : s.vm.findClass RX3 = some m.cls := hown
  have hC : CallFix p m c cX3_knownBy 2 s _ wsX3_knownBy RX3 := ⟨hx, hb, hml, hown, hts⟩
  replace hl : lv_has ls 2 [(0, .ref xf), (1, .int (iZ p0))] := hl
  have iwX3 : ∀ w ∈ u_ws RX3 TX3 5, w ∈ wsX3_knownBy := fun w h => List.mem_cons_of_mem _ (List.mem_append_right _ h)
  have fl15 : Cond.fieldLink RX3 15 "GrowsByHalf$Folk" "known" "[I" ∈ wsX3_knownBy := by decide +kernel
  refine lv_aload_n hx hb dX3_knownBy_0 rfl (lv_at hl 0 rfl) ?_
  refine lv_iload_n hx hb dX3_knownBy_1 rfl (lv_at hl 1 rfl) ?_
  refine z_Vi (As := [.int (iZ p0)]) (rest := []) hC (c_X3_has l D cI cJ cB xf xfk xfn xfw xfs pe p0 (by first | assumption | omega) (by first | assumption | omega)) 1 gX3_knownBy_X3_has rfl rfl rfl ⟨rfl, qX3_has⟩ ⟨Nat.le_of_ble_eq_true rfl, Nat.le_of_ble_eq_true rfl⟩ ⟨Nat.le_refl _, Nat.le_refl _⟩ hK hP hD hS hA [0] rfl (by decide) 0 rfl rfl rfl hl.1 rfl (Nat.le_of_ble_eq_true rfl) dX3_knownBy_2 (fun z w H locs hq hP hD hS => ?_)
  rcases hq with ⟨rfl, rfl, hc1_0⟩ | ⟨rfl, rfl, hc1_0⟩
  · replace hP : va_P D vwCl [(xf, ob 3 [.ref xfk, .ref xfn, .ref xfw, .ref xfs, .int (iZ pe)]), (xfn, aI cI 8 kn)] H := hP
    replace hD : va_D A [(xf, ob 3 [.ref xfk, .ref xfn, .ref xfw, .ref xfs, .int (iZ pe)]), (xfn, aI cI 8 kn)] := hD
    refine z_if_eq (tgt := 17) hx hb dX3_knownBy_5 (by decide) (by first | assumption | omega) (fun h => absurd h (by decide)) (fun _ => ?_)
    refine lv_aload_n hx hb dX3_knownBy_8 rfl (lv_at hl 0 rfl) ?_
    refine z_get (C := RX3) (T0 := TX3) (N := 5) (ci := 3) (v := .ref xfn) hx hb hts hown hK hP iwX3 rfl 0 rfl 1 (by decide) fl15 rfl dX3_knownBy_9 ?_
    refine lv_iload_n hx hb dX3_knownBy_12 rfl (lv_at hl 1 rfl) ?_
    refine z_iald hx hb hK hP 1 0 rfl rfl (by decide) (by first | assumption | omega) dX3_knownBy_13 ?_
    refine lv_goto (tgt := 18) hx hb dX3_knownBy_14 (by decide) ?_
    exact z_iret hx hb hr hlocks hP hD hS dX3_knownBy_18 rfl (by first | (exact Or.inl (⟨(by first | rfl | omega), rfl, (by first | assumption | omega)⟩)) | (exact Or.inr (⟨(by first | rfl | omega), rfl, (by first | assumption | omega)⟩)) | (exfalso; omega))
  · replace hP : va_P D vwCl [(xf, ob 3 [.ref xfk, .ref xfn, .ref xfw, .ref xfs, .int (iZ pe)]), (xfn, aI cI 8 kn)] H := hP
    replace hD : va_D A [(xf, ob 3 [.ref xfk, .ref xfn, .ref xfw, .ref xfs, .int (iZ pe)]), (xfn, aI cI 8 kn)] := hD
    refine z_if_eq (tgt := 17) hx hb dX3_knownBy_5 (by decide) (by first | assumption | omega) (fun _ => ?_) (fun h => absurd h (by decide))
    refine lv_iconst (v := iZ 0) hx hb dX3_knownBy_17 (by decide) ?_
    exact z_iret hx hb hr hlocks hP hD hS dX3_knownBy_18 rfl (by first | (exact Or.inl (⟨(by first | rfl | omega), rfl, (by first | assumption | omega)⟩)) | (exact Or.inr (⟨(by first | rfl | omega), rfl, (by first | assumption | omega)⟩)) | (exfalso; omega))
theorem qX3_isKnown : yX3_isKnown.cls ≠ "java/lang/invoke/MethodHandle" ∧ yX3_isKnown.cls ≠ "java/lang/invoke/VarHandle" ∧ (parseMethodDescriptor yX3_isKnown.desc).map (fun d => d.parameters.length) = some 2 := by decide +kernel
set_option maxHeartbeats 4000000 in
set_option maxRecDepth 100000 in
theorem c_X3_isKnown (l : Launch) (D : va_G) (cI cJ cB : ClassId) (xf xfk xfn xfw xfs : Nat) (kn : Int → Int) (pe p0 p1 : Int) (hpe : 0 ≤ pe ∧ pe ≤ 8) (hp0 : -2147483648 ≤ p0 ∧ p0 < 2147483648) (hp1 : -2147483648 ≤ p1 ∧ p1 < 2147483648) (hb : 0 ≤ p0 ∧ p0 < pe ∧ 0 ≤ p1 ∧ p1 < pe ∧ p0 ≠ p1) : zMi l yX3_isKnown wsX3_isKnown (zRm 2 43) D (zT cI cJ cB) [.ref xf, .int (iZ p0), .int (iZ p1)] [(xf, ob 3 [.ref xfk, .ref xfn, .ref xfw, .ref xfs, .int (iZ pe)]), (xfn, aI cI 8 kn)] (fun (z : Int) (w : va_W) => (1 = z ∧ w = [(xf, ob 3 [.ref xfk, .ref xfn, .ref xfw, .ref xfs, .int (iZ pe)]), (xfn, aI cI 8 kn)] ∧ kand (kshr (kn p0) p1) 1 = 1) ∨ (0 = z ∧ w = [(xf, ob 3 [.ref xfk, .ref xfn, .ref xfw, .ref xfs, .int (iZ pe)]), (xfn, aI cI 8 kn)] ∧ kand (kshr (kn p0) p1) 1 ≠ 1)) := by
  refine z_of (Qc := fun A => zQi D [(xf, ob 3 [.ref xfk, .ref xfn, .ref xfw, .ref xfs, .int (iZ pe)]), (xfn, aI cI 8 kn)] A _) (cc := cX3_isKnown) (maxL := 3) (ret := (some .boolean)) (by decide) rfl (Nat.le_of_ble_eq_true rfl) ?_
  intro p e s m below meth c A ls hx hb hr hts hown hlocks hml hK hP hD hS hA hl
  replace hown : s.vm.findClass RX3 = some m.cls := hown
  have hC : CallFix p m c cX3_isKnown 3 s _ wsX3_isKnown RX3 := ⟨hx, hb, hml, hown, hts⟩
  replace hl : lv_has ls 3 [(0, .ref xf), (1, .int (iZ p0)), (2, .int (iZ p1))] := hl
  have iwX3 : ∀ w ∈ u_ws RX3 TX3 5, w ∈ wsX3_isKnown := fun w h => List.mem_cons_of_mem _ (List.mem_append_right _ h)
  have fl15 : Cond.fieldLink RX3 15 "GrowsByHalf$Folk" "known" "[I" ∈ wsX3_isKnown := by decide +kernel
  refine lv_aload_n hx hb dX3_isKnown_0 rfl (lv_at hl 0 rfl) ?_
  refine lv_iload_n hx hb dX3_isKnown_1 rfl (lv_at hl 1 rfl) ?_
  refine lv_iload_n hx hb dX3_isKnown_2 rfl (lv_at hl 2 rfl) ?_
  refine z_Vi (As := [.int (iZ p0), .int (iZ p1)]) (rest := []) hC (c_X3_hasBoth l D cI cJ cB xf xfk xfn xfw xfs pe p0 p1 (by first | assumption | omega) (by first | assumption | omega) (by first | assumption | omega)) 2 gX3_isKnown_X3_hasBoth rfl rfl rfl ⟨rfl, qX3_hasBoth⟩ ⟨Nat.le_of_ble_eq_true rfl, Nat.le_of_ble_eq_true rfl⟩ ⟨Nat.le_refl _, Nat.le_refl _⟩ hK hP hD hS hA [0] rfl (by decide) 0 rfl rfl rfl hl.1 rfl (Nat.le_of_ble_eq_true rfl) dX3_isKnown_3 (fun z w H locs hq hP hD hS => ?_)
  rcases hq with ⟨rfl, rfl, hc1_0⟩ | ⟨rfl, rfl, hc1_0⟩
  · replace hP : va_P D vwCl [(xf, ob 3 [.ref xfk, .ref xfn, .ref xfw, .ref xfs, .int (iZ pe)]), (xfn, aI cI 8 kn)] H := hP
    replace hD : va_D A [(xf, ob 3 [.ref xfk, .ref xfn, .ref xfw, .ref xfs, .int (iZ pe)]), (xfn, aI cI 8 kn)] := hD
    refine z_if_eq (tgt := 27) hx hb dX3_isKnown_6 (by decide) (by first | assumption | omega) (fun h => absurd h (by decide)) (fun _ => ?_)
    refine lv_aload_n hx hb dX3_isKnown_9 rfl (lv_at hl 0 rfl) ?_
    refine z_get (C := RX3) (T0 := TX3) (N := 5) (ci := 3) (v := .ref xfn) hx hb hts hown hK hP iwX3 rfl 0 rfl 1 (by decide) fl15 rfl dX3_isKnown_10 ?_
    refine lv_iload_n hx hb dX3_isKnown_13 rfl (lv_at hl 1 rfl) ?_
    refine z_iald hx hb hK hP 1 0 rfl rfl (by decide) (by first | assumption | omega) dX3_isKnown_14 ?_
    refine lv_iload_n hx hb dX3_isKnown_15 rfl (lv_at hl 2 rfl) ?_
    refine z_ishr hx hb dX3_isKnown_16 ?_
    have rb_2 := kshr_rng (kn p0) p1
    refine lv_iconst (v := iZ 1) hx hb dX3_isKnown_17 (by decide) ?_
    refine z_iand hx hb dX3_isKnown_18 ?_
    have rb_3 := kand_rng (kshr (kn p0) p1) 1
    refine lv_iconst (v := iZ 1) hx hb dX3_isKnown_19 (by decide) ?_
    refine z_icmp_ne (tgt := 27) hx hb dX3_isKnown_20 (by decide) (by first | assumption | omega) (by first | assumption | omega) (fun c_20 => ?_) (fun c_20 => ?_)
    · refine lv_iconst (v := iZ 0) hx hb dX3_isKnown_27 (by decide) ?_
      exact z_zret hx hb hr hlocks hP hD hS dX3_isKnown_28 (by first | exact Or.inl rfl | exact Or.inr rfl | omega) rfl (by first | (exact Or.inr (⟨(by first | rfl | omega), rfl, (by first | assumption | omega)⟩)) | (exfalso; omega))
    · refine lv_iconst (v := iZ 1) hx hb dX3_isKnown_23 (by decide) ?_
      refine lv_goto (tgt := 28) hx hb dX3_isKnown_24 (by decide) ?_
      exact z_zret hx hb hr hlocks hP hD hS dX3_isKnown_28 (by first | exact Or.inl rfl | exact Or.inr rfl | omega) rfl (by first | (exact Or.inl (⟨(by first | rfl | omega), rfl, (by first | assumption | omega)⟩)) | (exfalso; omega))
  · replace hP : va_P D vwCl [(xf, ob 3 [.ref xfk, .ref xfn, .ref xfw, .ref xfs, .int (iZ pe)]), (xfn, aI cI 8 kn)] H := hP
    replace hD : va_D A [(xf, ob 3 [.ref xfk, .ref xfn, .ref xfw, .ref xfs, .int (iZ pe)]), (xfn, aI cI 8 kn)] := hD
    refine z_if_eq (tgt := 27) hx hb dX3_isKnown_6 (by decide) (by first | assumption | omega) (fun _ => ?_) (fun h => absurd h (by decide))
    refine lv_iconst (v := iZ 0) hx hb dX3_isKnown_27 (by decide) ?_
    exact z_zret hx hb hr hlocks hP hD hS dX3_isKnown_28 (by first | exact Or.inl rfl | exact Or.inr rfl | omega) rfl (by first | (exact Or.inr (⟨(by first | rfl | omega), rfl, (by first | assumption | omega)⟩)) | (exfalso; omega))
theorem qX3_setKnown : yX3_setKnown.cls ≠ "java/lang/invoke/MethodHandle" ∧ yX3_setKnown.cls ≠ "java/lang/invoke/VarHandle" ∧ (parseMethodDescriptor yX3_setKnown.desc).map (fun d => d.parameters.length) = some 3 := by decide +kernel
set_option maxHeartbeats 4000000 in
set_option maxRecDepth 100000 in
theorem c_X3_setKnown (l : Launch) (D : va_G) (cI cJ cB : ClassId) (xf xfk xfn xfw xfs : Nat) (kn : Int → Int) (pe p0 p1 b : Int) (hpe : 0 ≤ pe ∧ pe ≤ 8) (hp0 : -2147483648 ≤ p0 ∧ p0 < 2147483648) (hp1 : -2147483648 ≤ p1 ∧ p1 < 2147483648) (hb : 0 ≤ p0 ∧ p0 < pe ∧ 0 ≤ p1 ∧ p1 < pe ∧ p0 ≠ p1) (hbb : -2147483648 ≤ b ∧ b < 2147483648) : zMv l yX3_setKnown wsX3_setKnown (zRm 2 43) D (zT cI cJ cB) [.ref xf, .int (iZ p0), .int (iZ p1), .int (iZ b)] [(xf, ob 3 [.ref xfk, .ref xfn, .ref xfw, .ref xfs, .int (iZ pe)]), (xfn, aI cI 8 kn)] (fun (w : va_W) => (w = [(xf, ob 3 [.ref xfk, .ref xfn, .ref xfw, .ref xfs, .int (iZ pe)]), (xfn, aI cI 8 (zu kn p0 (kor (kn p0) (kshl 1 p1))))] ∧ b ≠ 0) ∨ (w = [(xf, ob 3 [.ref xfk, .ref xfn, .ref xfw, .ref xfs, .int (iZ pe)]), (xfn, aI cI 8 (zu kn p0 (kand (kn p0) (kxor (kshl 1 p1) (-1)))))] ∧ b = 0)) := by
  refine z_of (Qc := fun A => zQv D [(xf, ob 3 [.ref xfk, .ref xfn, .ref xfw, .ref xfs, .int (iZ pe)]), (xfn, aI cI 8 kn)] A _) (cc := cX3_setKnown) (maxL := 4) (ret := none) (by decide) rfl (Nat.le_of_ble_eq_true rfl) ?_
  intro p e s m below meth c A ls hx hb hr hts hown hlocks hml hK hP hD hS hA hl
  replace hown : s.vm.findClass RX3 = some m.cls := hown
  have hC : CallFix p m c cX3_setKnown 4 s _ wsX3_setKnown RX3 := ⟨hx, hb, hml, hown, hts⟩
  replace hl : lv_has ls 4 [(0, .ref xf), (1, .int (iZ p0)), (2, .int (iZ p1)), (3, .int (iZ b))] := hl
  have iwX3 : ∀ w ∈ u_ws RX3 TX3 5, w ∈ wsX3_setKnown := fun w h => List.mem_cons_of_mem _ (List.mem_append_right _ h)
  have fl15 : Cond.fieldLink RX3 15 "GrowsByHalf$Folk" "known" "[I" ∈ wsX3_setKnown := by decide +kernel
  refine lv_aload_n hx hb dX3_setKnown_0 rfl (lv_at hl 0 rfl) ?_
  refine lv_iload_n hx hb dX3_setKnown_1 rfl (lv_at hl 1 rfl) ?_
  refine lv_iload_n hx hb dX3_setKnown_2 rfl (lv_at hl 2 rfl) ?_
  refine z_Vi (As := [.int (iZ p0), .int (iZ p1)]) (rest := []) hC (c_X3_hasBoth l D cI cJ cB xf xfk xfn xfw xfs pe p0 p1 (by first | assumption | omega) (by first | assumption | omega) (by first | assumption | omega)) 2 gX3_setKnown_X3_hasBoth rfl rfl rfl ⟨rfl, qX3_hasBoth⟩ ⟨Nat.le_of_ble_eq_true rfl, Nat.le_of_ble_eq_true rfl⟩ ⟨Nat.le_refl _, Nat.le_refl _⟩ hK hP hD hS hA [0] rfl (by decide) 0 rfl rfl rfl hl.1 rfl (Nat.le_of_ble_eq_true rfl) dX3_setKnown_3 (fun z w H locs hq hP hD hS => ?_)
  rcases hq with ⟨rfl, rfl, hc1_0⟩ | ⟨rfl, rfl, hc1_0⟩
  · replace hP : va_P D vwCl [(xf, ob 3 [.ref xfk, .ref xfn, .ref xfw, .ref xfs, .int (iZ pe)]), (xfn, aI cI 8 kn)] H := hP
    replace hD : va_D A [(xf, ob 3 [.ref xfk, .ref xfn, .ref xfw, .ref xfs, .int (iZ pe)]), (xfn, aI cI 8 kn)] := hD
    refine z_if_eq (tgt := 44) hx hb dX3_setKnown_6 (by decide) (by first | assumption | omega) (fun h => absurd h (by decide)) (fun _ => ?_)
    refine lv_aload_n hx hb dX3_setKnown_9 rfl (lv_at hl 0 rfl) ?_
    refine z_get (C := RX3) (T0 := TX3) (N := 5) (ci := 3) (v := .ref xfn) hx hb hts hown hK hP iwX3 rfl 0 rfl 1 (by decide) fl15 rfl dX3_setKnown_10 ?_
    refine lv_iload_n hx hb dX3_setKnown_13 rfl (lv_at hl 1 rfl) ?_
    refine lv_iload_n hx hb dX3_setKnown_14 rfl (lv_at hl 3 rfl) ?_
    refine z_if_eq (tgt := 31) hx hb dX3_setKnown_15 (by decide) (by first | assumption | omega) (fun c_15 => ?_) (fun c_15 => ?_)
    · refine lv_aload_n hx hb dX3_setKnown_31 rfl (lv_at hl 0 rfl) ?_
      refine z_get (C := RX3) (T0 := TX3) (N := 5) (ci := 3) (v := .ref xfn) hx hb hts hown hK hP iwX3 rfl 0 rfl 1 (by decide) fl15 rfl dX3_setKnown_32 ?_
      refine lv_iload_n hx hb dX3_setKnown_35 rfl (lv_at hl 1 rfl) ?_
      refine z_iald hx hb hK hP 1 0 rfl rfl (by decide) (by first | assumption | omega) dX3_setKnown_36 ?_
      refine lv_iconst (v := iZ 1) hx hb dX3_setKnown_37 (by decide) ?_
      refine lv_iload_n hx hb dX3_setKnown_38 rfl (lv_at hl 2 rfl) ?_
      refine z_ishl hx hb dX3_setKnown_39 ?_
      have rb_2 := kshl_rng 1 p1
      refine lv_iconst (v := iZ (-1)) hx hb dX3_setKnown_40 (by decide) ?_
      refine z_ixor hx hb dX3_setKnown_41 ?_
      have rb_3 := kxor_rng (kshl 1 p1) (-1)
      refine z_iand hx hb dX3_setKnown_42 ?_
      have rb_4 := kand_rng (kn p0) (kxor (kshl 1 p1) (-1))
      refine z_iast hx hb hK hP hD hS 1 0 rfl rfl (by decide) (by first | assumption | omega) dX3_setKnown_43 (fun H locs hP hD hS => ?_)
      replace hP : va_P D vwCl [(xf, ob 3 [.ref xfk, .ref xfn, .ref xfw, .ref xfs, .int (iZ pe)]), (xfn, aI cI 8 (zu kn p0 (kand (kn p0) (kxor (kshl 1 p1) (-1)))))] H := hP
      replace hD : va_D A [(xf, ob 3 [.ref xfk, .ref xfn, .ref xfw, .ref xfs, .int (iZ pe)]), (xfn, aI cI 8 (zu kn p0 (kand (kn p0) (kxor (kshl 1 p1) (-1)))))] := hD
      exact z_vret hx hb hr hlocks hP hD hS dX3_setKnown_44 rfl (by first | (exact Or.inl (⟨rfl, (by first | assumption | omega)⟩)) | (exact Or.inr (⟨rfl, (by first | assumption | omega)⟩)) | (exfalso; omega))
    · refine lv_aload_n hx hb dX3_setKnown_18 rfl (lv_at hl 0 rfl) ?_
      refine z_get (C := RX3) (T0 := TX3) (N := 5) (ci := 3) (v := .ref xfn) hx hb hts hown hK hP iwX3 rfl 0 rfl 1 (by decide) fl15 rfl dX3_setKnown_19 ?_
      refine lv_iload_n hx hb dX3_setKnown_22 rfl (lv_at hl 1 rfl) ?_
      refine z_iald hx hb hK hP 1 0 rfl rfl (by decide) (by first | assumption | omega) dX3_setKnown_23 ?_
      refine lv_iconst (v := iZ 1) hx hb dX3_setKnown_24 (by decide) ?_
      refine lv_iload_n hx hb dX3_setKnown_25 rfl (lv_at hl 2 rfl) ?_
      refine z_ishl hx hb dX3_setKnown_26 ?_
      have rb_5 := kshl_rng 1 p1
      refine z_ior hx hb dX3_setKnown_27 ?_
      have rb_6 := kor_rng (kn p0) (kshl 1 p1)
      refine lv_goto (tgt := 43) hx hb dX3_setKnown_28 (by decide) ?_
      refine z_iast hx hb hK hP hD hS 1 0 rfl rfl (by decide) (by first | assumption | omega) dX3_setKnown_43 (fun H locs hP hD hS => ?_)
      replace hP : va_P D vwCl [(xf, ob 3 [.ref xfk, .ref xfn, .ref xfw, .ref xfs, .int (iZ pe)]), (xfn, aI cI 8 (zu kn p0 (kor (kn p0) (kshl 1 p1))))] H := hP
      replace hD : va_D A [(xf, ob 3 [.ref xfk, .ref xfn, .ref xfw, .ref xfs, .int (iZ pe)]), (xfn, aI cI 8 (zu kn p0 (kor (kn p0) (kshl 1 p1))))] := hD
      exact z_vret hx hb hr hlocks hP hD hS dX3_setKnown_44 rfl (by first | (exact Or.inl (⟨rfl, (by first | assumption | omega)⟩)) | (exact Or.inr (⟨rfl, (by first | assumption | omega)⟩)) | (exfalso; omega))
  · replace hP : va_P D vwCl [(xf, ob 3 [.ref xfk, .ref xfn, .ref xfw, .ref xfs, .int (iZ pe)]), (xfn, aI cI 8 kn)] H := hP
    replace hD : va_D A [(xf, ob 3 [.ref xfk, .ref xfn, .ref xfw, .ref xfs, .int (iZ pe)]), (xfn, aI cI 8 kn)] := hD
    refine z_if_eq (tgt := 44) hx hb dX3_setKnown_6 (by decide) (by first | assumption | omega) (fun _ => ?_) (fun h => absurd h (by decide))
    exact z_vret hx hb hr hlocks hP hD hS dX3_setKnown_44 rfl (by first | (exact Or.inl (⟨rfl, (by first | assumption | omega)⟩)) | (exact Or.inr (⟨rfl, (by first | assumption | omega)⟩)) | (exfalso; omega))
theorem qX3_witnessOf : yX3_witnessOf.cls ≠ "java/lang/invoke/MethodHandle" ∧ yX3_witnessOf.cls ≠ "java/lang/invoke/VarHandle" ∧ (parseMethodDescriptor yX3_witnessOf.desc).map (fun d => d.parameters.length) = some 1 := by decide +kernel
set_option maxHeartbeats 4000000 in
set_option maxRecDepth 100000 in
theorem c_X3_witnessOf (l : Launch) (D : va_G) (cI cJ cB : ClassId) (xf xfk xfn xfw xfs : Nat) (wi : Int → Int) (pe t : Int) (ht : -2147483648 ≤ t ∧ t < 2147483648) : zMi l yX3_witnessOf wsX3_witnessOf (zRm 2 42) D (zT cI cJ cB) [.ref xf, .int (iZ t)] [(xf, ob 3 [.ref xfk, .ref xfn, .ref xfw, .ref xfs, .int (iZ pe)]), (xfw, aI cI 4 wi)] (fun (z : Int) (w : va_W) => (wi t = z ∧ w = [(xf, ob 3 [.ref xfk, .ref xfn, .ref xfw, .ref xfs, .int (iZ pe)]), (xfw, aI cI 4 wi)] ∧ (0 ≤ t ∧ t ≤ 3)) ∨ ((-1) = z ∧ w = [(xf, ob 3 [.ref xfk, .ref xfn, .ref xfw, .ref xfs, .int (iZ pe)]), (xfw, aI cI 4 wi)] ∧ (¬ (0 ≤ t ∧ t ≤ 3)))) := by
  refine z_of (Qc := fun A => zQi D [(xf, ob 3 [.ref xfk, .ref xfn, .ref xfw, .ref xfs, .int (iZ pe)]), (xfw, aI cI 4 wi)] A _) (cc := cX3_witnessOf) (maxL := 2) (ret := (some .int)) (by decide) rfl (Nat.le_of_ble_eq_true rfl) ?_
  intro p e s m below meth c A ls hx hb hr hts hown hlocks hml hK hP hD hS hA hl
  replace hown : s.vm.findClass RX3 = some m.cls := hown
  have hC : CallFix p m c cX3_witnessOf 2 s _ wsX3_witnessOf RX3 := ⟨hx, hb, hml, hown, hts⟩
  replace hl : lv_has ls 2 [(0, .ref xf), (1, .int (iZ t))] := hl
  have iwX3 : ∀ w ∈ u_ws RX3 TX3 5, w ∈ wsX3_witnessOf := fun w h => List.mem_cons_of_mem _ (List.mem_append_right _ h)
  have fl18 : Cond.fieldLink RX3 18 "GrowsByHalf$Folk" "witnesses" "[I" ∈ wsX3_witnessOf := by decide +kernel
  refine lv_iload_n hx hb dX3_witnessOf_0 rfl (lv_at hl 1 rfl) ?_
  refine z_Ni (As := [.int (iZ t)]) (rest := []) hC (c_X9_isTale l D cI cJ cB t (by first | assumption | omega)) 1 gX3_witnessOf_X9_isTale_n52 rfl rfl rfl hK.2.2.2 (by decide +kernel) (by decide +kernel) qX9_isTale ⟨Nat.le_of_ble_eq_true rfl, Nat.le_of_ble_eq_true rfl⟩ ⟨Nat.le_refl _, Nat.le_refl _⟩ hK hP hD hS hA [] rfl (by decide) rfl hl.1 rfl (Nat.le_of_ble_eq_true rfl) dX3_witnessOf_1 (fun z w H locs hq hP hD hS => ?_)
  rcases hq with ⟨rfl, rfl, hc1_0⟩ | ⟨rfl, rfl, hc1_0⟩
  · replace hP : va_P D vwCl [(xf, ob 3 [.ref xfk, .ref xfn, .ref xfw, .ref xfs, .int (iZ pe)]), (xfw, aI cI 4 wi)] H := hP
    replace hD : va_D A [(xf, ob 3 [.ref xfk, .ref xfn, .ref xfw, .ref xfs, .int (iZ pe)]), (xfw, aI cI 4 wi)] := hD
    refine z_if_eq (tgt := 16) hx hb dX3_witnessOf_4 (by decide) (by first | assumption | omega) (fun h => absurd h (by decide)) (fun _ => ?_)
    refine lv_aload_n hx hb dX3_witnessOf_7 rfl (lv_at hl 0 rfl) ?_
    refine z_get (C := RX3) (T0 := TX3) (N := 5) (ci := 3) (v := .ref xfw) hx hb hts hown hK hP iwX3 rfl 0 rfl 2 (by decide) fl18 rfl dX3_witnessOf_8 ?_
    refine lv_iload_n hx hb dX3_witnessOf_11 rfl (lv_at hl 1 rfl) ?_
    refine z_iald hx hb hK hP 1 0 rfl rfl (by decide) (by first | assumption | omega) dX3_witnessOf_12 ?_
    refine lv_goto (tgt := 17) hx hb dX3_witnessOf_13 (by decide) ?_
    exact z_iret hx hb hr hlocks hP hD hS dX3_witnessOf_17 rfl (by first | (exact Or.inl (⟨(by first | rfl | omega), rfl, (by first | assumption | omega)⟩)) | (exact Or.inr (⟨(by first | rfl | omega), rfl, (by first | assumption | omega)⟩)) | (exfalso; omega))
  · replace hP : va_P D vwCl [(xf, ob 3 [.ref xfk, .ref xfn, .ref xfw, .ref xfs, .int (iZ pe)]), (xfw, aI cI 4 wi)] H := hP
    replace hD : va_D A [(xf, ob 3 [.ref xfk, .ref xfn, .ref xfw, .ref xfs, .int (iZ pe)]), (xfw, aI cI 4 wi)] := hD
    refine z_if_eq (tgt := 16) hx hb dX3_witnessOf_4 (by decide) (by first | assumption | omega) (fun _ => ?_) (fun h => absurd h (by decide))
    refine lv_iconst (v := iZ (-1)) hx hb dX3_witnessOf_16 (by decide) ?_
    exact z_iret hx hb hr hlocks hP hD hS dX3_witnessOf_17 rfl (by first | (exact Or.inl (⟨(by first | rfl | omega), rfl, (by first | assumption | omega)⟩)) | (exact Or.inr (⟨(by first | rfl | omega), rfl, (by first | assumption | omega)⟩)) | (exfalso; omega))
theorem qX3_seenSizeOf : yX3_seenSizeOf.cls ≠ "java/lang/invoke/MethodHandle" ∧ yX3_seenSizeOf.cls ≠ "java/lang/invoke/VarHandle" ∧ (parseMethodDescriptor yX3_seenSizeOf.desc).map (fun d => d.parameters.length) = some 1 := by decide +kernel
set_option maxHeartbeats 4000000 in
set_option maxRecDepth 100000 in
theorem c_X3_seenSizeOf (l : Launch) (D : va_G) (cI cJ cB : ClassId) (xf xfk xfn xfw xfs : Nat) (ss : Int → Int) (pe t : Int) (ht : -2147483648 ≤ t ∧ t < 2147483648) : zMi l yX3_seenSizeOf wsX3_seenSizeOf (zRm 2 42) D (zT cI cJ cB) [.ref xf, .int (iZ t)] [(xf, ob 3 [.ref xfk, .ref xfn, .ref xfw, .ref xfs, .int (iZ pe)]), (xfs, aI cI 4 ss)] (fun (z : Int) (w : va_W) => (ss t = z ∧ w = [(xf, ob 3 [.ref xfk, .ref xfn, .ref xfw, .ref xfs, .int (iZ pe)]), (xfs, aI cI 4 ss)] ∧ (0 ≤ t ∧ t ≤ 3)) ∨ ((-1) = z ∧ w = [(xf, ob 3 [.ref xfk, .ref xfn, .ref xfw, .ref xfs, .int (iZ pe)]), (xfs, aI cI 4 ss)] ∧ (¬ (0 ≤ t ∧ t ≤ 3)))) := by
  refine z_of (Qc := fun A => zQi D [(xf, ob 3 [.ref xfk, .ref xfn, .ref xfw, .ref xfs, .int (iZ pe)]), (xfs, aI cI 4 ss)] A _) (cc := cX3_seenSizeOf) (maxL := 2) (ret := (some .int)) (by decide) rfl (Nat.le_of_ble_eq_true rfl) ?_
  intro p e s m below meth c A ls hx hb hr hts hown hlocks hml hK hP hD hS hA hl
  replace hown : s.vm.findClass RX3 = some m.cls := hown
  have hC : CallFix p m c cX3_seenSizeOf 2 s _ wsX3_seenSizeOf RX3 := ⟨hx, hb, hml, hown, hts⟩
  replace hl : lv_has ls 2 [(0, .ref xf), (1, .int (iZ t))] := hl
  have iwX3 : ∀ w ∈ u_ws RX3 TX3 5, w ∈ wsX3_seenSizeOf := fun w h => List.mem_cons_of_mem _ (List.mem_append_right _ h)
  have fl21 : Cond.fieldLink RX3 21 "GrowsByHalf$Folk" "seenSizes" "[I" ∈ wsX3_seenSizeOf := by decide +kernel
  refine lv_iload_n hx hb dX3_seenSizeOf_0 rfl (lv_at hl 1 rfl) ?_
  refine z_Ni (As := [.int (iZ t)]) (rest := []) hC (c_X9_isTale l D cI cJ cB t (by first | assumption | omega)) 1 gX3_seenSizeOf_X9_isTale_n52 rfl rfl rfl hK.2.2.2 (by decide +kernel) (by decide +kernel) qX9_isTale ⟨Nat.le_of_ble_eq_true rfl, Nat.le_of_ble_eq_true rfl⟩ ⟨Nat.le_refl _, Nat.le_refl _⟩ hK hP hD hS hA [] rfl (by decide) rfl hl.1 rfl (Nat.le_of_ble_eq_true rfl) dX3_seenSizeOf_1 (fun z w H locs hq hP hD hS => ?_)
  rcases hq with ⟨rfl, rfl, hc1_0⟩ | ⟨rfl, rfl, hc1_0⟩
  · replace hP : va_P D vwCl [(xf, ob 3 [.ref xfk, .ref xfn, .ref xfw, .ref xfs, .int (iZ pe)]), (xfs, aI cI 4 ss)] H := hP
    replace hD : va_D A [(xf, ob 3 [.ref xfk, .ref xfn, .ref xfw, .ref xfs, .int (iZ pe)]), (xfs, aI cI 4 ss)] := hD
    refine z_if_eq (tgt := 16) hx hb dX3_seenSizeOf_4 (by decide) (by first | assumption | omega) (fun h => absurd h (by decide)) (fun _ => ?_)
    refine lv_aload_n hx hb dX3_seenSizeOf_7 rfl (lv_at hl 0 rfl) ?_
    refine z_get (C := RX3) (T0 := TX3) (N := 5) (ci := 3) (v := .ref xfs) hx hb hts hown hK hP iwX3 rfl 0 rfl 3 (by decide) fl21 rfl dX3_seenSizeOf_8 ?_
    refine lv_iload_n hx hb dX3_seenSizeOf_11 rfl (lv_at hl 1 rfl) ?_
    refine z_iald hx hb hK hP 1 0 rfl rfl (by decide) (by first | assumption | omega) dX3_seenSizeOf_12 ?_
    refine lv_goto (tgt := 17) hx hb dX3_seenSizeOf_13 (by decide) ?_
    exact z_iret hx hb hr hlocks hP hD hS dX3_seenSizeOf_17 rfl (by first | (exact Or.inl (⟨(by first | rfl | omega), rfl, (by first | assumption | omega)⟩)) | (exact Or.inr (⟨(by first | rfl | omega), rfl, (by first | assumption | omega)⟩)) | (exfalso; omega))
  · replace hP : va_P D vwCl [(xf, ob 3 [.ref xfk, .ref xfn, .ref xfw, .ref xfs, .int (iZ pe)]), (xfs, aI cI 4 ss)] H := hP
    replace hD : va_D A [(xf, ob 3 [.ref xfk, .ref xfn, .ref xfw, .ref xfs, .int (iZ pe)]), (xfs, aI cI 4 ss)] := hD
    refine z_if_eq (tgt := 16) hx hb dX3_seenSizeOf_4 (by decide) (by first | assumption | omega) (fun _ => ?_) (fun h => absurd h (by decide))
    refine lv_iconst (v := iZ (-1)) hx hb dX3_seenSizeOf_16 (by decide) ?_
    exact z_iret hx hb hr hlocks hP hD hS dX3_seenSizeOf_17 rfl (by first | (exact Or.inl (⟨(by first | rfl | omega), rfl, (by first | assumption | omega)⟩)) | (exact Or.inr (⟨(by first | rfl | omega), rfl, (by first | assumption | omega)⟩)) | (exfalso; omega))
theorem qX3_setSeen : yX3_setSeen.cls ≠ "java/lang/invoke/MethodHandle" ∧ yX3_setSeen.cls ≠ "java/lang/invoke/VarHandle" ∧ (parseMethodDescriptor yX3_setSeen.desc).map (fun d => d.parameters.length) = some 3 := by decide +kernel
set_option maxHeartbeats 4000000 in
set_option maxRecDepth 100000 in
theorem c_X3_setSeen (l : Launch) (D : va_G) (cI cJ cB : ClassId) (xf xfk xfn xfw xfs : Nat) (wi ss : Int → Int) (pe t q x : Int) (ht : 0 ≤ t ∧ t ≤ 3) : zMi l yX3_setSeen wsX3_setSeen (zRm 3 63) D (zT cI cJ cB) [.ref xf, .int (iZ t), .int (iZ q), .int (iZ x)] [(xf, ob 3 [.ref xfk, .ref xfn, .ref xfw, .ref xfs, .int (iZ pe)]), (xfw, aI cI 4 wi), (xfs, aI cI 4 ss)] (fun (z : Int) (w : va_W) => wi t = z ∧ w = [(xf, ob 3 [.ref xfk, .ref xfn, .ref xfw, .ref xfs, .int (iZ pe)]), (xfw, aI cI 4 (zu wi t q)), (xfs, aI cI 4 (zu ss t x))]) := by
  refine z_of (Qc := fun A => zQi D [(xf, ob 3 [.ref xfk, .ref xfn, .ref xfw, .ref xfs, .int (iZ pe)]), (xfw, aI cI 4 wi), (xfs, aI cI 4 ss)] A _) (cc := cX3_setSeen) (maxL := 5) (ret := (some .int)) (by decide) rfl (Nat.le_of_ble_eq_true rfl) ?_
  intro p e s m below meth c A ls hx hb hr hts hown hlocks hml hK hP hD hS hA hl
  replace hown : s.vm.findClass RX3 = some m.cls := hown
  have hC : CallFix p m c cX3_setSeen 5 s _ wsX3_setSeen RX3 := ⟨hx, hb, hml, hown, hts⟩
  replace hl : lv_has ls 5 [(0, .ref xf), (1, .int (iZ t)), (2, .int (iZ q)), (3, .int (iZ x))] := hl
  have iwX3 : ∀ w ∈ u_ws RX3 TX3 5, w ∈ wsX3_setSeen := fun w h => List.mem_cons_of_mem _ (List.mem_append_right _ h)
  have fl18 : Cond.fieldLink RX3 18 "GrowsByHalf$Folk" "witnesses" "[I" ∈ wsX3_setSeen := by decide +kernel
  have fl21 : Cond.fieldLink RX3 21 "GrowsByHalf$Folk" "seenSizes" "[I" ∈ wsX3_setSeen := by decide +kernel
  refine lv_aload_n hx hb dX3_setSeen_0 rfl (lv_at hl 0 rfl) ?_
  refine lv_iload_n hx hb dX3_setSeen_1 rfl (lv_at hl 1 rfl) ?_
  refine z_Vi (As := [.int (iZ t)]) (rest := []) hC (c_X3_witnessOf l D cI cJ cB xf xfk xfn xfw xfs wi pe t (by first | assumption | omega)) 1 gX3_setSeen_X3_witnessOf rfl rfl rfl ⟨rfl, qX3_witnessOf⟩ ⟨Nat.le_of_ble_eq_true rfl, Nat.le_of_ble_eq_true rfl⟩ ⟨Nat.le_refl _, Nat.le_refl _⟩ hK hP hD hS hA [0, 1] rfl (by decide) 0 rfl rfl rfl hl.1 rfl (Nat.le_of_ble_eq_true rfl) dX3_setSeen_2 (fun z w H locs hq hP hD hS => ?_)
  rcases hq with ⟨rfl, rfl, hc1_0⟩ | ⟨rfl, rfl, hc1_0⟩
  · replace hP : va_P D vwCl [(xf, ob 3 [.ref xfk, .ref xfn, .ref xfw, .ref xfs, .int (iZ pe)]), (xfw, aI cI 4 wi), (xfs, aI cI 4 ss)] H := hP
    replace hD : va_D A [(xf, ob 3 [.ref xfk, .ref xfn, .ref xfw, .ref xfs, .int (iZ pe)]), (xfw, aI cI 4 wi), (xfs, aI cI 4 ss)] := hD
    refine lv_istore (lv' := [(4, .int (iZ (wi t))), (0, .ref xf), (1, .int (iZ t)), (2, .int (iZ q)), (3, .int (iZ x))]) hx hb dX3_setSeen_5 hl (by decide) rfl (fun ls hl => ?_)
    refine lv_iload_n hx hb dX3_setSeen_7 rfl (lv_at hl 2 rfl) ?_
    refine z_Ni (As := [.int (iZ t)]) (rest := []) hC (c_X9_isTale l D cI cJ cB t (by first | assumption | omega)) 1 gX3_setSeen_X9_isTale_n52 rfl rfl rfl hK.2.2.2 (by decide +kernel) (by decide +kernel) qX9_isTale ⟨Nat.le_of_ble_eq_true rfl, Nat.le_of_ble_eq_true rfl⟩ ⟨Nat.le_refl _, Nat.le_refl _⟩ hK hP hD hS hA [] rfl (by decide) rfl hl.1 rfl (Nat.le_of_ble_eq_true rfl) dX3_setSeen_8 (fun z w H locs hq hP hD hS => ?_)
    rcases hq with ⟨rfl, rfl, hc2_0⟩ | ⟨rfl, rfl, hc2_0⟩
    · replace hP : va_P D vwCl [(xf, ob 3 [.ref xfk, .ref xfn, .ref xfw, .ref xfs, .int (iZ pe)]), (xfw, aI cI 4 wi), (xfs, aI cI 4 ss)] H := hP
      replace hD : va_D A [(xf, ob 3 [.ref xfk, .ref xfn, .ref xfw, .ref xfs, .int (iZ pe)]), (xfw, aI cI 4 wi), (xfs, aI cI 4 ss)] := hD
      refine z_if_eq (tgt := 28) hx hb dX3_setSeen_11 (by decide) (by first | assumption | omega) (fun h => absurd h (by decide)) (fun _ => ?_)
      refine lv_aload_n hx hb dX3_setSeen_14 rfl (lv_at hl 1 rfl) ?_
      refine z_get (C := RX3) (T0 := TX3) (N := 5) (ci := 3) (v := .ref xfw) hx hb hts hown hK hP iwX3 rfl 0 rfl 2 (by decide) fl18 rfl dX3_setSeen_15 ?_
      refine lv_iload_n hx hb dX3_setSeen_18 rfl (lv_at hl 2 rfl) ?_
      refine lv_iload_n hx hb dX3_setSeen_19 rfl (lv_at hl 3 rfl) ?_
      refine z_iast hx hb hK hP hD hS 1 0 rfl rfl (by decide) (by first | assumption | omega) dX3_setSeen_20 (fun H locs hP hD hS => ?_)
      replace hP : va_P D vwCl [(xf, ob 3 [.ref xfk, .ref xfn, .ref xfw, .ref xfs, .int (iZ pe)]), (xfw, aI cI 4 (zu wi t q)), (xfs, aI cI 4 ss)] H := hP
      replace hD : va_D A [(xf, ob 3 [.ref xfk, .ref xfn, .ref xfw, .ref xfs, .int (iZ pe)]), (xfw, aI cI 4 (zu wi t q)), (xfs, aI cI 4 ss)] := hD
      refine lv_aload_n hx hb dX3_setSeen_21 rfl (lv_at hl 1 rfl) ?_
      refine z_get (C := RX3) (T0 := TX3) (N := 5) (ci := 3) (v := .ref xfs) hx hb hts hown hK hP iwX3 rfl 0 rfl 3 (by decide) fl21 rfl dX3_setSeen_22 ?_
      refine lv_iload_n hx hb dX3_setSeen_25 rfl (lv_at hl 2 rfl) ?_
      refine lv_iload_n hx hb dX3_setSeen_26 rfl (lv_at hl 4 rfl) ?_
      refine z_iast hx hb hK hP hD hS 2 0 rfl rfl (by decide) (by first | assumption | omega) dX3_setSeen_27 (fun H locs hP hD hS => ?_)
      replace hP : va_P D vwCl [(xf, ob 3 [.ref xfk, .ref xfn, .ref xfw, .ref xfs, .int (iZ pe)]), (xfw, aI cI 4 (zu wi t q)), (xfs, aI cI 4 (zu ss t x))] H := hP
      replace hD : va_D A [(xf, ob 3 [.ref xfk, .ref xfn, .ref xfw, .ref xfs, .int (iZ pe)]), (xfw, aI cI 4 (zu wi t q)), (xfs, aI cI 4 (zu ss t x))] := hD
      refine lv_iload hx hb dX3_setSeen_28 (lv_at hl 0 rfl) ?_
      exact z_iret hx hb hr hlocks hP hD hS dX3_setSeen_30 rfl (by first | (exact ⟨(by first | rfl | omega), rfl⟩) | (exfalso; omega))
    · replace hP : va_P D vwCl [(xf, ob 3 [.ref xfk, .ref xfn, .ref xfw, .ref xfs, .int (iZ pe)]), (xfw, aI cI 4 wi), (xfs, aI cI 4 ss)] H := hP
      replace hD : va_D A [(xf, ob 3 [.ref xfk, .ref xfn, .ref xfw, .ref xfs, .int (iZ pe)]), (xfw, aI cI 4 wi), (xfs, aI cI 4 ss)] := hD
      refine z_if_eq (tgt := 28) hx hb dX3_setSeen_11 (by decide) (by first | assumption | omega) (fun _ => ?_) (fun h => absurd h (by decide))
      refine lv_iload hx hb dX3_setSeen_28 (lv_at hl 0 rfl) ?_
      exact z_iret hx hb hr hlocks hP hD hS dX3_setSeen_30 rfl (by first | (exact ⟨(by first | rfl | omega), rfl⟩) | (exfalso; omega))
  · replace hP : va_P D vwCl [(xf, ob 3 [.ref xfk, .ref xfn, .ref xfw, .ref xfs, .int (iZ pe)]), (xfw, aI cI 4 wi), (xfs, aI cI 4 ss)] H := hP
    replace hD : va_D A [(xf, ob 3 [.ref xfk, .ref xfn, .ref xfw, .ref xfs, .int (iZ pe)]), (xfw, aI cI 4 wi), (xfs, aI cI 4 ss)] := hD
    refine lv_istore (lv' := [(4, .int (iZ (-1))), (0, .ref xf), (1, .int (iZ t)), (2, .int (iZ q)), (3, .int (iZ x))]) hx hb dX3_setSeen_5 hl (by decide) rfl (fun ls hl => ?_)
    refine lv_iload_n hx hb dX3_setSeen_7 rfl (lv_at hl 2 rfl) ?_
    refine z_Ni (As := [.int (iZ t)]) (rest := []) hC (c_X9_isTale l D cI cJ cB t (by first | assumption | omega)) 1 gX3_setSeen_X9_isTale_n52 rfl rfl rfl hK.2.2.2 (by decide +kernel) (by decide +kernel) qX9_isTale ⟨Nat.le_of_ble_eq_true rfl, Nat.le_of_ble_eq_true rfl⟩ ⟨Nat.le_refl _, Nat.le_refl _⟩ hK hP hD hS hA [] rfl (by decide) rfl hl.1 rfl (Nat.le_of_ble_eq_true rfl) dX3_setSeen_8 (fun z w H locs hq hP hD hS => ?_)
    rcases hq with ⟨rfl, rfl, hc3_0⟩ | ⟨rfl, rfl, hc3_0⟩
    · replace hP : va_P D vwCl [(xf, ob 3 [.ref xfk, .ref xfn, .ref xfw, .ref xfs, .int (iZ pe)]), (xfw, aI cI 4 wi), (xfs, aI cI 4 ss)] H := hP
      replace hD : va_D A [(xf, ob 3 [.ref xfk, .ref xfn, .ref xfw, .ref xfs, .int (iZ pe)]), (xfw, aI cI 4 wi), (xfs, aI cI 4 ss)] := hD
      refine z_if_eq (tgt := 28) hx hb dX3_setSeen_11 (by decide) (by first | assumption | omega) (fun h => absurd h (by decide)) (fun _ => ?_)
      refine lv_aload_n hx hb dX3_setSeen_14 rfl (lv_at hl 1 rfl) ?_
      refine z_get (C := RX3) (T0 := TX3) (N := 5) (ci := 3) (v := .ref xfw) hx hb hts hown hK hP iwX3 rfl 0 rfl 2 (by decide) fl18 rfl dX3_setSeen_15 ?_
      refine lv_iload_n hx hb dX3_setSeen_18 rfl (lv_at hl 2 rfl) ?_
      refine lv_iload_n hx hb dX3_setSeen_19 rfl (lv_at hl 3 rfl) ?_
      refine z_iast hx hb hK hP hD hS 1 0 rfl rfl (by decide) (by first | assumption | omega) dX3_setSeen_20 (fun H locs hP hD hS => ?_)
      replace hP : va_P D vwCl [(xf, ob 3 [.ref xfk, .ref xfn, .ref xfw, .ref xfs, .int (iZ pe)]), (xfw, aI cI 4 (zu wi t q)), (xfs, aI cI 4 ss)] H := hP
      replace hD : va_D A [(xf, ob 3 [.ref xfk, .ref xfn, .ref xfw, .ref xfs, .int (iZ pe)]), (xfw, aI cI 4 (zu wi t q)), (xfs, aI cI 4 ss)] := hD
      refine lv_aload_n hx hb dX3_setSeen_21 rfl (lv_at hl 1 rfl) ?_
      refine z_get (C := RX3) (T0 := TX3) (N := 5) (ci := 3) (v := .ref xfs) hx hb hts hown hK hP iwX3 rfl 0 rfl 3 (by decide) fl21 rfl dX3_setSeen_22 ?_
      refine lv_iload_n hx hb dX3_setSeen_25 rfl (lv_at hl 2 rfl) ?_
      refine lv_iload_n hx hb dX3_setSeen_26 rfl (lv_at hl 4 rfl) ?_
      refine z_iast hx hb hK hP hD hS 2 0 rfl rfl (by decide) (by first | assumption | omega) dX3_setSeen_27 (fun H locs hP hD hS => ?_)
      replace hP : va_P D vwCl [(xf, ob 3 [.ref xfk, .ref xfn, .ref xfw, .ref xfs, .int (iZ pe)]), (xfw, aI cI 4 (zu wi t q)), (xfs, aI cI 4 (zu ss t x))] H := hP
      replace hD : va_D A [(xf, ob 3 [.ref xfk, .ref xfn, .ref xfw, .ref xfs, .int (iZ pe)]), (xfw, aI cI 4 (zu wi t q)), (xfs, aI cI 4 (zu ss t x))] := hD
      refine lv_iload hx hb dX3_setSeen_28 (lv_at hl 0 rfl) ?_
      exact z_iret hx hb hr hlocks hP hD hS dX3_setSeen_30 rfl (by first | (exact ⟨(by first | rfl | omega), rfl⟩) | (exfalso; omega))
    · replace hP : va_P D vwCl [(xf, ob 3 [.ref xfk, .ref xfn, .ref xfw, .ref xfs, .int (iZ pe)]), (xfw, aI cI 4 wi), (xfs, aI cI 4 ss)] H := hP
      replace hD : va_D A [(xf, ob 3 [.ref xfk, .ref xfn, .ref xfw, .ref xfs, .int (iZ pe)]), (xfw, aI cI 4 wi), (xfs, aI cI 4 ss)] := hD
      refine z_if_eq (tgt := 28) hx hb dX3_setSeen_11 (by decide) (by first | assumption | omega) (fun _ => ?_) (fun h => absurd h (by decide))
      refine lv_iload hx hb dX3_setSeen_28 (lv_at hl 0 rfl) ?_
      exact z_iret hx hb hr hlocks hP hD hS dX3_setSeen_30 rfl (by first | (exact ⟨(by first | rfl | omega), rfl⟩) | (exfalso; omega))
theorem qX7_isPlace : yX7_isPlace.cls ≠ "java/lang/invoke/MethodHandle" ∧ yX7_isPlace.cls ≠ "java/lang/invoke/VarHandle" ∧ (parseMethodDescriptor yX7_isPlace.desc).map (fun d => d.parameters.length) = some 1 := by decide +kernel
set_option maxHeartbeats 4000000 in
set_option maxRecDepth 100000 in
theorem c_X7_isPlace (l : Launch) (D : va_G) (cI cJ cB : ClassId) (p0 : Int) (hp0 : -2147483648 ≤ p0 ∧ p0 < 2147483648) : zMi l yX7_isPlace wsX7_isPlace (zRm 0 0) D (zT cI cJ cB) [.int (iZ p0)] [] (fun (z : Int) (w : va_W) => (1 = z ∧ w = [] ∧ (0 ≤ p0 ∧ p0 ≤ 7)) ∨ (0 = z ∧ w = [] ∧ (¬ (0 ≤ p0 ∧ p0 ≤ 7)))) := by
  refine z_of (Qc := fun A => zQi D [] A _) (cc := cX7_isPlace) (maxL := 1) (ret := (some .boolean)) (by decide) rfl (Nat.le_of_ble_eq_true rfl) ?_
  intro p e s m below meth c A ls hx hb hr hts hown hlocks hml hK hP hD hS hA hl
  replace hown : s.vm.findClass RX7 = some m.cls := hown
  have hC : CallFix p m c cX7_isPlace 1 s _ wsX7_isPlace RX7 := ⟨hx, hb, hml, hown, hts⟩
  replace hl : lv_has ls 1 [(0, .int (iZ p0))] := hl
  refine lv_iload_n hx hb dX7_isPlace_0 rfl (lv_at hl 0 rfl) ?_
  refine z_if_lt (tgt := 14) hx hb dX7_isPlace_1 (by decide) (by first | assumption | omega) (fun c_1 => ?_) (fun c_1 => ?_)
  · refine lv_iconst (v := iZ 0) hx hb dX7_isPlace_14 (by decide) ?_
    exact z_zret hx hb hr hlocks hP hD hS dX7_isPlace_15 (by first | exact Or.inl rfl | exact Or.inr rfl | omega) rfl (by first | (exact Or.inr (⟨(by first | rfl | omega), rfl, (by first | assumption | omega)⟩)) | (exfalso; omega))
  · refine lv_iload_n hx hb dX7_isPlace_4 rfl (lv_at hl 0 rfl) ?_
    refine lv_bipush (v := iZ 8) hx hb dX7_isPlace_5 (by decide) ?_
    refine z_icmp_ge (tgt := 14) hx hb dX7_isPlace_7 (by decide) (by first | assumption | omega) (by first | assumption | omega) (fun c_7 => ?_) (fun c_7 => ?_)
    · refine lv_iconst (v := iZ 0) hx hb dX7_isPlace_14 (by decide) ?_
      exact z_zret hx hb hr hlocks hP hD hS dX7_isPlace_15 (by first | exact Or.inl rfl | exact Or.inr rfl | omega) rfl (by first | (exact Or.inr (⟨(by first | rfl | omega), rfl, (by first | assumption | omega)⟩)) | (exfalso; omega))
    · refine lv_iconst (v := iZ 1) hx hb dX7_isPlace_10 (by decide) ?_
      refine lv_goto (tgt := 15) hx hb dX7_isPlace_11 (by decide) ?_
      exact z_zret hx hb hr hlocks hP hD hS dX7_isPlace_15 (by first | exact Or.inl rfl | exact Or.inr rfl | omega) rfl (by first | (exact Or.inl (⟨(by first | rfl | omega), rfl, (by first | assumption | omega)⟩)) | (exfalso; omega))
theorem qX7_take : yX7_take.cls ≠ "java/lang/invoke/MethodHandle" ∧ yX7_take.cls ≠ "java/lang/invoke/VarHandle" ∧ (parseMethodDescriptor yX7_take.desc).map (fun d => d.parameters.length) = some 3 := by decide +kernel
set_option maxHeartbeats 4000000 in
set_option maxRecDepth 100000 in
theorem c_X7_take (l : Launch) (D : va_G) (cI cJ cB : ClassId) (xr xrs xro : Nat) (bg fm : Int → Int) (p0 x q : Int) (hp0 : 0 ≤ p0 ∧ p0 ≤ 7) (hx0 : 0 ≤ x ∧ x ≤ 9999) (hbg : ∀ j, -1 ≤ bg j ∧ bg j ≤ 9999) : zMv l yX7_take wsX7_take (zRm 1 20) D (zT cI cJ cB) [.ref xr, .int (iZ p0), .int (iZ x), .int (iZ q)] [(xr, ob 7 [.ref xrs, .ref xro]), (xrs, aI cI 8 bg), (xro, aI cI 8 fm)] (fun (w : va_W) => (w = [(xr, ob 7 [.ref xrs, .ref xro]), (xrs, aI cI 8 (zu bg p0 x)), (xro, aI cI 8 (zu fm p0 q))] ∧ bg p0 < x) ∨ (w = [(xr, ob 7 [.ref xrs, .ref xro]), (xrs, aI cI 8 bg), (xro, aI cI 8 fm)] ∧ x ≤ bg p0)) := by
  refine z_of (Qc := fun A => zQv D [(xr, ob 7 [.ref xrs, .ref xro]), (xrs, aI cI 8 bg), (xro, aI cI 8 fm)] A _) (cc := cX7_take) (maxL := 4) (ret := none) (by decide) rfl (Nat.le_of_ble_eq_true rfl) ?_
  intro p e s m below meth c A ls hx hb hr hts hown hlocks hml hK hP hD hS hA hl
  replace hown : s.vm.findClass RX7 = some m.cls := hown
  have hC : CallFix p m c cX7_take 4 s _ wsX7_take RX7 := ⟨hx, hb, hml, hown, hts⟩
  replace hl : lv_has ls 4 [(0, .ref xr), (1, .int (iZ p0)), (2, .int (iZ x)), (3, .int (iZ q))] := hl
  have iwX7 : ∀ w ∈ u_ws RX7 TX7 2, w ∈ wsX7_take := fun w h => List.mem_cons_of_mem _ (List.mem_append_right _ h)
  have fl9 : Cond.fieldLink RX7 9 "GrowsByHalf$Rumour" "sizes" "[I" ∈ wsX7_take := by decide +kernel
  have fl15 : Cond.fieldLink RX7 15 "GrowsByHalf$Rumour" "sources" "[I" ∈ wsX7_take := by decide +kernel
  refine lv_iload_n hx hb dX7_take_0 rfl (lv_at hl 1 rfl) ?_
  refine z_Si (As := [.int (iZ p0)]) (rest := []) hC (c_X7_isPlace l D cI cJ cB p0 (by first | assumption | omega)) 1 gX7_take_X7_isPlace rfl rfl rfl qX7_isPlace ⟨Nat.le_of_ble_eq_true rfl, Nat.le_of_ble_eq_true rfl⟩ ⟨Nat.le_refl _, Nat.le_refl _⟩ hK hP hD hS hA [] rfl (by decide) rfl hl.1 rfl (Nat.le_of_ble_eq_true rfl) dX7_take_1 (fun z w H locs hq hP hD hS => ?_)
  rcases hq with ⟨rfl, rfl, hc1_0⟩ | ⟨rfl, rfl, hc1_0⟩
  · replace hP : va_P D vwCl [(xr, ob 7 [.ref xrs, .ref xro]), (xrs, aI cI 8 bg), (xro, aI cI 8 fm)] H := hP
    replace hD : va_D A [(xr, ob 7 [.ref xrs, .ref xro]), (xrs, aI cI 8 bg), (xro, aI cI 8 fm)] := hD
    refine z_if_eq (tgt := 31) hx hb dX7_take_4 (by decide) (by first | assumption | omega) (fun h => absurd h (by decide)) (fun _ => ?_)
    refine lv_iload_n hx hb dX7_take_7 rfl (lv_at hl 2 rfl) ?_
    refine lv_aload_n hx hb dX7_take_8 rfl (lv_at hl 0 rfl) ?_
    refine z_get (C := RX7) (T0 := TX7) (N := 2) (ci := 7) (v := .ref xrs) hx hb hts hown hK hP iwX7 rfl 0 rfl 0 (by decide) fl9 rfl dX7_take_9 ?_
    refine lv_iload_n hx hb dX7_take_12 rfl (lv_at hl 1 rfl) ?_
    refine z_iald hx hb hK hP 1 0 rfl rfl (by decide) (by first | assumption | omega) dX7_take_13 ?_
    have rd_2 := hbg p0
    refine z_icmp_le (tgt := 31) hx hb dX7_take_14 (by decide) (by first | assumption | omega) (by first | assumption | omega) (fun c_14 => ?_) (fun c_14 => ?_)
    · exact z_vret hx hb hr hlocks hP hD hS dX7_take_31 rfl (by first | (exact Or.inl (⟨rfl, (by first | assumption | omega)⟩)) | (exact Or.inr (⟨rfl, (by first | assumption | omega)⟩)) | (exfalso; omega))
    · refine lv_aload_n hx hb dX7_take_17 rfl (lv_at hl 0 rfl) ?_
      refine z_get (C := RX7) (T0 := TX7) (N := 2) (ci := 7) (v := .ref xrs) hx hb hts hown hK hP iwX7 rfl 0 rfl 0 (by decide) fl9 rfl dX7_take_18 ?_
      refine lv_iload_n hx hb dX7_take_21 rfl (lv_at hl 1 rfl) ?_
      refine lv_iload_n hx hb dX7_take_22 rfl (lv_at hl 2 rfl) ?_
      refine z_iast hx hb hK hP hD hS 1 0 rfl rfl (by decide) (by first | assumption | omega) dX7_take_23 (fun H locs hP hD hS => ?_)
      replace hP : va_P D vwCl [(xr, ob 7 [.ref xrs, .ref xro]), (xrs, aI cI 8 (zu bg p0 x)), (xro, aI cI 8 fm)] H := hP
      replace hD : va_D A [(xr, ob 7 [.ref xrs, .ref xro]), (xrs, aI cI 8 (zu bg p0 x)), (xro, aI cI 8 fm)] := hD
      refine lv_aload_n hx hb dX7_take_24 rfl (lv_at hl 0 rfl) ?_
      refine z_get (C := RX7) (T0 := TX7) (N := 2) (ci := 7) (v := .ref xro) hx hb hts hown hK hP iwX7 rfl 0 rfl 1 (by decide) fl15 rfl dX7_take_25 ?_
      refine lv_iload_n hx hb dX7_take_28 rfl (lv_at hl 1 rfl) ?_
      refine lv_iload_n hx hb dX7_take_29 rfl (lv_at hl 3 rfl) ?_
      refine z_iast hx hb hK hP hD hS 2 0 rfl rfl (by decide) (by first | assumption | omega) dX7_take_30 (fun H locs hP hD hS => ?_)
      replace hP : va_P D vwCl [(xr, ob 7 [.ref xrs, .ref xro]), (xrs, aI cI 8 (zu bg p0 x)), (xro, aI cI 8 (zu fm p0 q))] H := hP
      replace hD : va_D A [(xr, ob 7 [.ref xrs, .ref xro]), (xrs, aI cI 8 (zu bg p0 x)), (xro, aI cI 8 (zu fm p0 q))] := hD
      exact z_vret hx hb hr hlocks hP hD hS dX7_take_31 rfl (by first | (exact Or.inl (⟨rfl, (by first | assumption | omega)⟩)) | (exact Or.inr (⟨rfl, (by first | assumption | omega)⟩)) | (exfalso; omega))
  · replace hP : va_P D vwCl [(xr, ob 7 [.ref xrs, .ref xro]), (xrs, aI cI 8 bg), (xro, aI cI 8 fm)] H := hP
    replace hD : va_D A [(xr, ob 7 [.ref xrs, .ref xro]), (xrs, aI cI 8 bg), (xro, aI cI 8 fm)] := hD
    refine z_if_eq (tgt := 31) hx hb dX7_take_4 (by decide) (by first | assumption | omega) (fun _ => ?_) (fun h => absurd h (by decide))
    exact z_vret hx hb hr hlocks hP hD hS dX7_take_31 rfl (by first | (exact Or.inl (⟨rfl, (by first | assumption | omega)⟩)) | (exact Or.inr (⟨rfl, (by first | assumption | omega)⟩)) | (exfalso; omega))
theorem qX7_sizeAt : yX7_sizeAt.cls ≠ "java/lang/invoke/MethodHandle" ∧ yX7_sizeAt.cls ≠ "java/lang/invoke/VarHandle" ∧ (parseMethodDescriptor yX7_sizeAt.desc).map (fun d => d.parameters.length) = some 1 := by decide +kernel
set_option maxHeartbeats 4000000 in
set_option maxRecDepth 100000 in
theorem c_X7_sizeAt (l : Launch) (D : va_G) (cI cJ cB : ClassId) (xr xrs xro : Nat) (bg : Int → Int) (p0 : Int) (hp0 : 0 ≤ p0 ∧ p0 ≤ 7) : zMi l yX7_sizeAt wsX7_sizeAt (zRm 1 20) D (zT cI cJ cB) [.ref xr, .int (iZ p0)] [(xr, ob 7 [.ref xrs, .ref xro]), (xrs, aI cI 8 bg)] (fun (z : Int) (w : va_W) => bg p0 = z ∧ w = [(xr, ob 7 [.ref xrs, .ref xro]), (xrs, aI cI 8 bg)]) := by
  refine z_of (Qc := fun A => zQi D [(xr, ob 7 [.ref xrs, .ref xro]), (xrs, aI cI 8 bg)] A _) (cc := cX7_sizeAt) (maxL := 2) (ret := (some .int)) (by decide) rfl (Nat.le_of_ble_eq_true rfl) ?_
  intro p e s m below meth c A ls hx hb hr hts hown hlocks hml hK hP hD hS hA hl
  replace hown : s.vm.findClass RX7 = some m.cls := hown
  have hC : CallFix p m c cX7_sizeAt 2 s _ wsX7_sizeAt RX7 := ⟨hx, hb, hml, hown, hts⟩
  replace hl : lv_has ls 2 [(0, .ref xr), (1, .int (iZ p0))] := hl
  have iwX7 : ∀ w ∈ u_ws RX7 TX7 2, w ∈ wsX7_sizeAt := fun w h => List.mem_cons_of_mem _ (List.mem_append_right _ h)
  have fl9 : Cond.fieldLink RX7 9 "GrowsByHalf$Rumour" "sizes" "[I" ∈ wsX7_sizeAt := by decide +kernel
  refine lv_iload_n hx hb dX7_sizeAt_0 rfl (lv_at hl 1 rfl) ?_
  refine z_Si (As := [.int (iZ p0)]) (rest := []) hC (c_X7_isPlace l D cI cJ cB p0 (by first | assumption | omega)) 1 gX7_sizeAt_X7_isPlace rfl rfl rfl qX7_isPlace ⟨Nat.le_of_ble_eq_true rfl, Nat.le_of_ble_eq_true rfl⟩ ⟨Nat.le_refl _, Nat.le_refl _⟩ hK hP hD hS hA [] rfl (by decide) rfl hl.1 rfl (Nat.le_of_ble_eq_true rfl) dX7_sizeAt_1 (fun z w H locs hq hP hD hS => ?_)
  rcases hq with ⟨rfl, rfl, hc1_0⟩ | ⟨rfl, rfl, hc1_0⟩
  · replace hP : va_P D vwCl [(xr, ob 7 [.ref xrs, .ref xro]), (xrs, aI cI 8 bg)] H := hP
    replace hD : va_D A [(xr, ob 7 [.ref xrs, .ref xro]), (xrs, aI cI 8 bg)] := hD
    refine z_if_eq (tgt := 16) hx hb dX7_sizeAt_4 (by decide) (by first | assumption | omega) (fun h => absurd h (by decide)) (fun _ => ?_)
    refine lv_aload_n hx hb dX7_sizeAt_7 rfl (lv_at hl 0 rfl) ?_
    refine z_get (C := RX7) (T0 := TX7) (N := 2) (ci := 7) (v := .ref xrs) hx hb hts hown hK hP iwX7 rfl 0 rfl 0 (by decide) fl9 rfl dX7_sizeAt_8 ?_
    refine lv_iload_n hx hb dX7_sizeAt_11 rfl (lv_at hl 1 rfl) ?_
    refine z_iald hx hb hK hP 1 0 rfl rfl (by decide) (by first | assumption | omega) dX7_sizeAt_12 ?_
    refine lv_goto (tgt := 17) hx hb dX7_sizeAt_13 (by decide) ?_
    exact z_iret hx hb hr hlocks hP hD hS dX7_sizeAt_17 rfl (by first | (exact ⟨(by first | rfl | omega), rfl⟩) | (exfalso; omega))
  · replace hP : va_P D vwCl [(xr, ob 7 [.ref xrs, .ref xro]), (xrs, aI cI 8 bg)] H := hP
    replace hD : va_D A [(xr, ob 7 [.ref xrs, .ref xro]), (xrs, aI cI 8 bg)] := hD
    refine z_if_eq (tgt := 16) hx hb dX7_sizeAt_4 (by decide) (by first | assumption | omega) (fun _ => ?_) (fun h => absurd h (by decide))
    refine lv_iconst (v := iZ (-1)) hx hb dX7_sizeAt_16 (by decide) ?_
    exact z_iret hx hb hr hlocks hP hD hS dX7_sizeAt_17 rfl (by first | (exact ⟨(by first | rfl | omega), rfl⟩) | (exfalso; omega))
theorem qX7_fromAt : yX7_fromAt.cls ≠ "java/lang/invoke/MethodHandle" ∧ yX7_fromAt.cls ≠ "java/lang/invoke/VarHandle" ∧ (parseMethodDescriptor yX7_fromAt.desc).map (fun d => d.parameters.length) = some 1 := by decide +kernel
set_option maxHeartbeats 4000000 in
set_option maxRecDepth 100000 in
theorem c_X7_fromAt (l : Launch) (D : va_G) (cI cJ cB : ClassId) (xr xrs xro : Nat) (fm : Int → Int) (p0 : Int) (hp0 : 0 ≤ p0 ∧ p0 ≤ 7) : zMi l yX7_fromAt wsX7_fromAt (zRm 1 20) D (zT cI cJ cB) [.ref xr, .int (iZ p0)] [(xr, ob 7 [.ref xrs, .ref xro]), (xro, aI cI 8 fm)] (fun (z : Int) (w : va_W) => fm p0 = z ∧ w = [(xr, ob 7 [.ref xrs, .ref xro]), (xro, aI cI 8 fm)]) := by
  refine z_of (Qc := fun A => zQi D [(xr, ob 7 [.ref xrs, .ref xro]), (xro, aI cI 8 fm)] A _) (cc := cX7_fromAt) (maxL := 2) (ret := (some .int)) (by decide) rfl (Nat.le_of_ble_eq_true rfl) ?_
  intro p e s m below meth c A ls hx hb hr hts hown hlocks hml hK hP hD hS hA hl
  replace hown : s.vm.findClass RX7 = some m.cls := hown
  have hC : CallFix p m c cX7_fromAt 2 s _ wsX7_fromAt RX7 := ⟨hx, hb, hml, hown, hts⟩
  replace hl : lv_has ls 2 [(0, .ref xr), (1, .int (iZ p0))] := hl
  have iwX7 : ∀ w ∈ u_ws RX7 TX7 2, w ∈ wsX7_fromAt := fun w h => List.mem_cons_of_mem _ (List.mem_append_right _ h)
  have fl15 : Cond.fieldLink RX7 15 "GrowsByHalf$Rumour" "sources" "[I" ∈ wsX7_fromAt := by decide +kernel
  refine lv_iload_n hx hb dX7_fromAt_0 rfl (lv_at hl 1 rfl) ?_
  refine z_Si (As := [.int (iZ p0)]) (rest := []) hC (c_X7_isPlace l D cI cJ cB p0 (by first | assumption | omega)) 1 gX7_fromAt_X7_isPlace rfl rfl rfl qX7_isPlace ⟨Nat.le_of_ble_eq_true rfl, Nat.le_of_ble_eq_true rfl⟩ ⟨Nat.le_refl _, Nat.le_refl _⟩ hK hP hD hS hA [] rfl (by decide) rfl hl.1 rfl (Nat.le_of_ble_eq_true rfl) dX7_fromAt_1 (fun z w H locs hq hP hD hS => ?_)
  rcases hq with ⟨rfl, rfl, hc1_0⟩ | ⟨rfl, rfl, hc1_0⟩
  · replace hP : va_P D vwCl [(xr, ob 7 [.ref xrs, .ref xro]), (xro, aI cI 8 fm)] H := hP
    replace hD : va_D A [(xr, ob 7 [.ref xrs, .ref xro]), (xro, aI cI 8 fm)] := hD
    refine z_if_eq (tgt := 16) hx hb dX7_fromAt_4 (by decide) (by first | assumption | omega) (fun h => absurd h (by decide)) (fun _ => ?_)
    refine lv_aload_n hx hb dX7_fromAt_7 rfl (lv_at hl 0 rfl) ?_
    refine z_get (C := RX7) (T0 := TX7) (N := 2) (ci := 7) (v := .ref xro) hx hb hts hown hK hP iwX7 rfl 0 rfl 1 (by decide) fl15 rfl dX7_fromAt_8 ?_
    refine lv_iload_n hx hb dX7_fromAt_11 rfl (lv_at hl 1 rfl) ?_
    refine z_iald hx hb hK hP 1 0 rfl rfl (by decide) (by first | assumption | omega) dX7_fromAt_12 ?_
    refine lv_goto (tgt := 17) hx hb dX7_fromAt_13 (by decide) ?_
    exact z_iret hx hb hr hlocks hP hD hS dX7_fromAt_17 rfl (by first | (exact ⟨(by first | rfl | omega), rfl⟩) | (exfalso; omega))
  · replace hP : va_P D vwCl [(xr, ob 7 [.ref xrs, .ref xro]), (xro, aI cI 8 fm)] H := hP
    replace hD : va_D A [(xr, ob 7 [.ref xrs, .ref xro]), (xro, aI cI 8 fm)] := hD
    refine z_if_eq (tgt := 16) hx hb dX7_fromAt_4 (by decide) (by first | assumption | omega) (fun _ => ?_) (fun h => absurd h (by decide))
    refine lv_iconst (v := iZ (-1)) hx hb dX7_fromAt_16 (by decide) ?_
    exact z_iret hx hb hr hlocks hP hD hS dX7_fromAt_17 rfl (by first | (exact ⟨(by first | rfl | omega), rfl⟩) | (exfalso; omega))
theorem qX6_length : yX6_length.cls ≠ "java/lang/invoke/MethodHandle" ∧ yX6_length.cls ≠ "java/lang/invoke/VarHandle" ∧ (parseMethodDescriptor yX6_length.desc).map (fun d => d.parameters.length) = some 0 := by decide +kernel
set_option maxHeartbeats 4000000 in
set_option maxRecDepth 100000 in
theorem c_X6_length (l : Launch) (D : va_G) (cI cJ cB : ClassId) (xp xpc : Nat) (n : Int) : zMi l yX6_length wsX6_length (zRm 0 0) D (zT cI cJ cB) [.ref xp] [(xp, ob 6 [.ref xpc, .int (iZ n)])] (fun (z : Int) (w : va_W) => n = z ∧ w = [(xp, ob 6 [.ref xpc, .int (iZ n)])]) := by
  refine z_of (Qc := fun A => zQi D [(xp, ob 6 [.ref xpc, .int (iZ n)])] A _) (cc := cX6_length) (maxL := 1) (ret := (some .int)) (by decide) rfl (Nat.le_of_ble_eq_true rfl) ?_
  intro p e s m below meth c A ls hx hb hr hts hown hlocks hml hK hP hD hS hA hl
  replace hown : s.vm.findClass RX6 = some m.cls := hown
  have hC : CallFix p m c cX6_length 1 s _ wsX6_length RX6 := ⟨hx, hb, hml, hown, hts⟩
  replace hl : lv_has ls 1 [(0, .ref xp)] := hl
  have iwX6 : ∀ w ∈ u_ws RX6 TX6 2, w ∈ wsX6_length := fun w h => List.mem_cons_of_mem _ (List.mem_append_right _ h)
  have fl21 : Cond.fieldLink RX6 21 "GrowsByHalf$Page" "length" "I" ∈ wsX6_length := by decide +kernel
  refine lv_aload_n hx hb dX6_length_0 rfl (lv_at hl 0 rfl) ?_
  refine z_get (C := RX6) (T0 := TX6) (N := 2) (ci := 6) (v := .int (iZ n)) hx hb hts hown hK hP iwX6 rfl 0 rfl 1 (by decide) fl21 rfl dX6_length_1 ?_
  exact z_iret hx hb hr hlocks hP hD hS dX6_length_4 rfl (by first | (exact ⟨(by first | rfl | omega), rfl⟩) | (exfalso; omega))
theorem qX6_clear : yX6_clear.cls ≠ "java/lang/invoke/MethodHandle" ∧ yX6_clear.cls ≠ "java/lang/invoke/VarHandle" ∧ (parseMethodDescriptor yX6_clear.desc).map (fun d => d.parameters.length) = some 0 := by decide +kernel
set_option maxHeartbeats 4000000 in
set_option maxRecDepth 100000 in
theorem c_X6_clear (l : Launch) (D : va_G) (cI cJ cB : ClassId) (xp xpc : Nat) (n : Int) : zMv l yX6_clear wsX6_clear (zRm 0 0) D (zT cI cJ cB) [.ref xp] [(xp, ob 6 [.ref xpc, .int (iZ n)])] (fun (w : va_W) => w = [(xp, ob 6 [.ref xpc, .int (iZ 0)])]) := by
  refine z_of (Qc := fun A => zQv D [(xp, ob 6 [.ref xpc, .int (iZ n)])] A _) (cc := cX6_clear) (maxL := 1) (ret := none) (by decide) rfl (Nat.le_of_ble_eq_true rfl) ?_
  intro p e s m below meth c A ls hx hb hr hts hown hlocks hml hK hP hD hS hA hl
  replace hown : s.vm.findClass RX6 = some m.cls := hown
  have hC : CallFix p m c cX6_clear 1 s _ wsX6_clear RX6 := ⟨hx, hb, hml, hown, hts⟩
  replace hl : lv_has ls 1 [(0, .ref xp)] := hl
  have iwX6 : ∀ w ∈ u_ws RX6 TX6 2, w ∈ wsX6_clear := fun w h => List.mem_cons_of_mem _ (List.mem_append_right _ h)
  have fl21 : Cond.fieldLink RX6 21 "GrowsByHalf$Page" "length" "I" ∈ wsX6_clear := by decide +kernel
  refine lv_aload_n hx hb dX6_clear_0 rfl (lv_at hl 0 rfl) ?_
  refine lv_iconst (v := iZ 0) hx hb dX6_clear_1 (by decide) ?_
  refine z_put (C := RX6) (T0 := TX6) (N := 2) (ci := 6) (v := .int (iZ 0)) hx hb hts hown hK hP hD hS iwX6 tyX6_ok nmX6 rfl 0 rfl 1 (by decide) fl21 rfl rfl rfl (Nat.le_of_ble_eq_true rfl) dX6_clear_2 (fun H locs hP hD hS => ?_)
  replace hP : va_P D vwCl [(xp, ob 6 [.ref xpc, .int (iZ 0)])] H := hP
  replace hD : va_D A [(xp, ob 6 [.ref xpc, .int (iZ 0)])] := hD
  exact z_vret hx hb hr hlocks hP hD hS dX6_clear_5 rfl (by first | (exact rfl) | (exfalso; omega))
theorem qX6_hasRoomFor : yX6_hasRoomFor.cls ≠ "java/lang/invoke/MethodHandle" ∧ yX6_hasRoomFor.cls ≠ "java/lang/invoke/VarHandle" ∧ (parseMethodDescriptor yX6_hasRoomFor.desc).map (fun d => d.parameters.length) = some 1 := by decide +kernel
set_option maxHeartbeats 4000000 in
set_option maxRecDepth 100000 in
theorem c_X6_hasRoomFor (l : Launch) (D : va_G) (cI cJ cB : ClassId) (xp xpc : Nat) (n q : Int) (hn : 0 ≤ n ∧ n ≤ 50) (hq : 0 ≤ q ∧ q ≤ 8) : zMi l yX6_hasRoomFor wsX6_hasRoomFor (zRm 0 0) D (zT cI cJ cB) [.ref xp, .int (iZ q)] [(xp, ob 6 [.ref xpc, .int (iZ n)])] (fun (z : Int) (w : va_W) => (1 = z ∧ w = [(xp, ob 6 [.ref xpc, .int (iZ n)])] ∧ n + q ≤ 50) ∨ (0 = z ∧ w = [(xp, ob 6 [.ref xpc, .int (iZ n)])] ∧ ¬ (n + q ≤ 50))) := by
  refine z_of (Qc := fun A => zQi D [(xp, ob 6 [.ref xpc, .int (iZ n)])] A _) (cc := cX6_hasRoomFor) (maxL := 2) (ret := (some .boolean)) (by decide) rfl (Nat.le_of_ble_eq_true rfl) ?_
  intro p e s m below meth c A ls hx hb hr hts hown hlocks hml hK hP hD hS hA hl
  replace hown : s.vm.findClass RX6 = some m.cls := hown
  have hC : CallFix p m c cX6_hasRoomFor 2 s _ wsX6_hasRoomFor RX6 := ⟨hx, hb, hml, hown, hts⟩
  replace hl : lv_has ls 2 [(0, .ref xp), (1, .int (iZ q))] := hl
  have iwX6 : ∀ w ∈ u_ws RX6 TX6 2, w ∈ wsX6_hasRoomFor := fun w h => List.mem_cons_of_mem _ (List.mem_append_right _ h)
  have fl21 : Cond.fieldLink RX6 21 "GrowsByHalf$Page" "length" "I" ∈ wsX6_hasRoomFor := by decide +kernel
  refine lv_aload_n hx hb dX6_hasRoomFor_0 rfl (lv_at hl 0 rfl) ?_
  refine z_get (C := RX6) (T0 := TX6) (N := 2) (ci := 6) (v := .int (iZ n)) hx hb hts hown hK hP iwX6 rfl 0 rfl 1 (by decide) fl21 rfl dX6_hasRoomFor_1 ?_
  refine lv_iload_n hx hb dX6_hasRoomFor_4 rfl (lv_at hl 1 rfl) ?_
  refine z_iadd hx hb dX6_hasRoomFor_5 ?_
  refine lv_bipush (v := iZ 50) hx hb dX6_hasRoomFor_6 (by decide) ?_
  refine z_icmp_gt (tgt := 15) hx hb dX6_hasRoomFor_8 (by decide) (by first | assumption | omega) (by first | assumption | omega) (fun c_8 => ?_) (fun c_8 => ?_)
  · refine lv_iconst (v := iZ 0) hx hb dX6_hasRoomFor_15 (by decide) ?_
    exact z_zret hx hb hr hlocks hP hD hS dX6_hasRoomFor_16 (by first | exact Or.inl rfl | exact Or.inr rfl | omega) rfl (by first | (exact Or.inr (⟨(by first | rfl | omega), rfl, (by first | assumption | omega)⟩)) | (exfalso; omega))
  · refine lv_iconst (v := iZ 1) hx hb dX6_hasRoomFor_11 (by decide) ?_
    refine lv_goto (tgt := 16) hx hb dX6_hasRoomFor_12 (by decide) ?_
    exact z_zret hx hb hr hlocks hP hD hS dX6_hasRoomFor_16 (by first | exact Or.inl rfl | exact Or.inr rfl | omega) rfl (by first | (exact Or.inl (⟨(by first | rfl | omega), rfl, (by first | assumption | omega)⟩)) | (exfalso; omega))
theorem qX6_letterAt : yX6_letterAt.cls ≠ "java/lang/invoke/MethodHandle" ∧ yX6_letterAt.cls ≠ "java/lang/invoke/VarHandle" ∧ (parseMethodDescriptor yX6_letterAt.desc).map (fun d => d.parameters.length) = some 1 := by decide +kernel
set_option maxHeartbeats 4000000 in
set_option maxRecDepth 100000 in
theorem c_X6_letterAt (l : Launch) (D : va_G) (cI cJ cB : ClassId) (xp xpc : Nat) (pg : Int → Int) (n i : Int) (hn : 0 ≤ n ∧ n ≤ 50) (hi : -2147483648 ≤ i ∧ i < 2147483648) : zMi l yX6_letterAt wsX6_letterAt (zRm 0 0) D (zT cI cJ cB) [.ref xp, .int (iZ i)] [(xp, ob 6 [.ref xpc, .int (iZ n)]), (xpc, aI cI 50 pg)] (fun (z : Int) (w : va_W) => (pg i = z ∧ w = [(xp, ob 6 [.ref xpc, .int (iZ n)]), (xpc, aI cI 50 pg)] ∧ (0 ≤ i ∧ i < n)) ∨ ((-1) = z ∧ w = [(xp, ob 6 [.ref xpc, .int (iZ n)]), (xpc, aI cI 50 pg)] ∧ (¬ (0 ≤ i ∧ i < n)))) := by
  refine z_of (Qc := fun A => zQi D [(xp, ob 6 [.ref xpc, .int (iZ n)]), (xpc, aI cI 50 pg)] A _) (cc := cX6_letterAt) (maxL := 2) (ret := (some .int)) (by decide) rfl (Nat.le_of_ble_eq_true rfl) ?_
  intro p e s m below meth c A ls hx hb hr hts hown hlocks hml hK hP hD hS hA hl
  replace hown : s.vm.findClass RX6 = some m.cls := hown
  have hC : CallFix p m c cX6_letterAt 2 s _ wsX6_letterAt RX6 := ⟨hx, hb, hml, hown, hts⟩
  replace hl : lv_has ls 2 [(0, .ref xp), (1, .int (iZ i))] := hl
  have iwX6 : ∀ w ∈ u_ws RX6 TX6 2, w ∈ wsX6_letterAt := fun w h => List.mem_cons_of_mem _ (List.mem_append_right _ h)
  have fl11 : Cond.fieldLink RX6 11 "GrowsByHalf$Page" "codes" "[I" ∈ wsX6_letterAt := by decide +kernel
  have fl21 : Cond.fieldLink RX6 21 "GrowsByHalf$Page" "length" "I" ∈ wsX6_letterAt := by decide +kernel
  refine lv_iload_n hx hb dX6_letterAt_0 rfl (lv_at hl 1 rfl) ?_
  refine z_if_lt (tgt := 21) hx hb dX6_letterAt_1 (by decide) (by first | assumption | omega) (fun c_1 => ?_) (fun c_1 => ?_)
  · refine lv_iconst (v := iZ (-1)) hx hb dX6_letterAt_21 (by decide) ?_
    exact z_iret hx hb hr hlocks hP hD hS dX6_letterAt_22 rfl (by first | (exact Or.inl (⟨(by first | rfl | omega), rfl, (by first | assumption | omega)⟩)) | (exact Or.inr (⟨(by first | rfl | omega), rfl, (by first | assumption | omega)⟩)) | (exfalso; omega))
  · refine lv_iload_n hx hb dX6_letterAt_4 rfl (lv_at hl 1 rfl) ?_
    refine lv_aload_n hx hb dX6_letterAt_5 rfl (lv_at hl 0 rfl) ?_
    refine z_get (C := RX6) (T0 := TX6) (N := 2) (ci := 6) (v := .int (iZ n)) hx hb hts hown hK hP iwX6 rfl 0 rfl 1 (by decide) fl21 rfl dX6_letterAt_6 ?_
    refine z_icmp_ge (tgt := 21) hx hb dX6_letterAt_9 (by decide) (by first | assumption | omega) (by first | assumption | omega) (fun c_9 => ?_) (fun c_9 => ?_)
    · refine lv_iconst (v := iZ (-1)) hx hb dX6_letterAt_21 (by decide) ?_
      exact z_iret hx hb hr hlocks hP hD hS dX6_letterAt_22 rfl (by first | (exact Or.inl (⟨(by first | rfl | omega), rfl, (by first | assumption | omega)⟩)) | (exact Or.inr (⟨(by first | rfl | omega), rfl, (by first | assumption | omega)⟩)) | (exfalso; omega))
    · refine lv_aload_n hx hb dX6_letterAt_12 rfl (lv_at hl 0 rfl) ?_
      refine z_get (C := RX6) (T0 := TX6) (N := 2) (ci := 6) (v := .ref xpc) hx hb hts hown hK hP iwX6 rfl 0 rfl 0 (by decide) fl11 rfl dX6_letterAt_13 ?_
      refine lv_iload_n hx hb dX6_letterAt_16 rfl (lv_at hl 1 rfl) ?_
      refine z_iald hx hb hK hP 1 0 rfl rfl (by decide) (by first | assumption | omega) dX6_letterAt_17 ?_
      refine lv_goto (tgt := 22) hx hb dX6_letterAt_18 (by decide) ?_
      exact z_iret hx hb hr hlocks hP hD hS dX6_letterAt_22 rfl (by first | (exact Or.inl (⟨(by first | rfl | omega), rfl, (by first | assumption | omega)⟩)) | (exact Or.inr (⟨(by first | rfl | omega), rfl, (by first | assumption | omega)⟩)) | (exfalso; omega))
theorem qX4_wantsDigit : yX4_wantsDigit.cls ≠ "java/lang/invoke/MethodHandle" ∧ yX4_wantsDigit.cls ≠ "java/lang/invoke/VarHandle" ∧ (parseMethodDescriptor yX4_wantsDigit.desc).map (fun d => d.parameters.length) = some 1 := by decide +kernel
set_option maxHeartbeats 4000000 in
set_option maxRecDepth 100000 in
theorem c_X4_wantsDigit (l : Launch) (D : va_G) (cI cJ cB : ClassId) (ch : Int) (hc : -2147483648 ≤ ch ∧ ch < 2147483648) : zMi l yX4_wantsDigit wsX4_wantsDigit (zRm 0 0) D (zT cI cJ cB) [.int (iZ ch)] [] (fun (z : Int) (w : va_W) => (1 = z ∧ w = [] ∧ (ch = 43 ∨ ch = 45 ∨ ch = 47)) ∨ (0 = z ∧ w = [] ∧ (¬ (ch = 43 ∨ ch = 45 ∨ ch = 47)))) := by
  refine z_of (Qc := fun A => zQi D [] A _) (cc := cX4_wantsDigit) (maxL := 1) (ret := (some .boolean)) (by decide) rfl (Nat.le_of_ble_eq_true rfl) ?_
  intro p e s m below meth c A ls hx hb hr hts hown hlocks hml hK hP hD hS hA hl
  replace hown : s.vm.findClass RX4 = some m.cls := hown
  have hC : CallFix p m c cX4_wantsDigit 1 s _ wsX4_wantsDigit RX4 := ⟨hx, hb, hml, hown, hts⟩
  replace hl : lv_has ls 1 [(0, .int (iZ ch))] := hl
  refine lv_iload_n hx hb dX4_wantsDigit_0 rfl (lv_at hl 0 rfl) ?_
  refine lv_bipush (v := iZ 43) hx hb dX4_wantsDigit_1 (by decide) ?_
  refine z_icmp_eq (tgt := 18) hx hb dX4_wantsDigit_3 (by decide) (by first | assumption | omega) (by first | assumption | omega) (fun c_3 => ?_) (fun c_3 => ?_)
  · refine lv_iconst (v := iZ 1) hx hb dX4_wantsDigit_18 (by decide) ?_
    refine lv_goto (tgt := 23) hx hb dX4_wantsDigit_19 (by decide) ?_
    exact z_zret hx hb hr hlocks hP hD hS dX4_wantsDigit_23 (by first | exact Or.inl rfl | exact Or.inr rfl | omega) rfl (by first | (exact Or.inl (⟨(by first | rfl | omega), rfl, (by first | assumption | omega)⟩)) | (exfalso; omega))
  · refine lv_iload_n hx hb dX4_wantsDigit_6 rfl (lv_at hl 0 rfl) ?_
    refine lv_bipush (v := iZ 45) hx hb dX4_wantsDigit_7 (by decide) ?_
    refine z_icmp_eq (tgt := 18) hx hb dX4_wantsDigit_9 (by decide) (by first | assumption | omega) (by first | assumption | omega) (fun c_9 => ?_) (fun c_9 => ?_)
    · refine lv_iconst (v := iZ 1) hx hb dX4_wantsDigit_18 (by decide) ?_
      refine lv_goto (tgt := 23) hx hb dX4_wantsDigit_19 (by decide) ?_
      exact z_zret hx hb hr hlocks hP hD hS dX4_wantsDigit_23 (by first | exact Or.inl rfl | exact Or.inr rfl | omega) rfl (by first | (exact Or.inl (⟨(by first | rfl | omega), rfl, (by first | assumption | omega)⟩)) | (exfalso; omega))
    · refine lv_iload_n hx hb dX4_wantsDigit_12 rfl (lv_at hl 0 rfl) ?_
      refine lv_bipush (v := iZ 47) hx hb dX4_wantsDigit_13 (by decide) ?_
      refine z_icmp_ne (tgt := 22) hx hb dX4_wantsDigit_15 (by decide) (by first | assumption | omega) (by first | assumption | omega) (fun c_15 => ?_) (fun c_15 => ?_)
      · refine lv_iconst (v := iZ 0) hx hb dX4_wantsDigit_22 (by decide) ?_
        exact z_zret hx hb hr hlocks hP hD hS dX4_wantsDigit_23 (by first | exact Or.inl rfl | exact Or.inr rfl | omega) rfl (by first | (exact Or.inr (⟨(by first | rfl | omega), rfl, (by first | assumption | omega)⟩)) | (exfalso; omega))
      · refine lv_iconst (v := iZ 1) hx hb dX4_wantsDigit_18 (by decide) ?_
        refine lv_goto (tgt := 23) hx hb dX4_wantsDigit_19 (by decide) ?_
        exact z_zret hx hb hr hlocks hP hD hS dX4_wantsDigit_23 (by first | exact Or.inl rfl | exact Or.inr rfl | omega) rfl (by first | (exact Or.inl (⟨(by first | rfl | omega), rfl, (by first | assumption | omega)⟩)) | (exfalso; omega))
theorem qX4_isDigitOf : yX4_isDigitOf.cls ≠ "java/lang/invoke/MethodHandle" ∧ yX4_isDigitOf.cls ≠ "java/lang/invoke/VarHandle" ∧ (parseMethodDescriptor yX4_isDigitOf.desc).map (fun d => d.parameters.length) = some 2 := by decide +kernel
set_option maxHeartbeats 4000000 in
set_option maxRecDepth 100000 in
theorem c_X4_isDigitOf (l : Launch) (D : va_G) (cI cJ cB : ClassId) (sg ch : Int) (hsg : -2147483648 ≤ sg ∧ sg < 2147483648) (hc : -2147483648 ≤ ch ∧ ch < 2147483648) : zMi l yX4_isDigitOf wsX4_isDigitOf (zRm 1 22) D (zT cI cJ cB) [.int (iZ sg), .int (iZ ch)] [] (fun (z : Int) (w : va_W) => (1 = z ∧ w = [] ∧ ((if sg = 47 then 50 else 48) ≤ ch ∧ ch ≤ 57)) ∨ (0 = z ∧ w = [] ∧ (¬ ((if sg = 47 then 50 else 48) ≤ ch ∧ ch ≤ 57)))) := by
  refine z_of (Qc := fun A => zQi D [] A _) (cc := cX4_isDigitOf) (maxL := 2) (ret := (some .boolean)) (by decide) rfl (Nat.le_of_ble_eq_true rfl) ?_
  intro p e s m below meth c A ls hx hb hr hts hown hlocks hml hK hP hD hS hA hl
  replace hown : s.vm.findClass RX4 = some m.cls := hown
  have hC : CallFix p m c cX4_isDigitOf 2 s _ wsX4_isDigitOf RX4 := ⟨hx, hb, hml, hown, hts⟩
  replace hl : lv_has ls 2 [(0, .int (iZ sg)), (1, .int (iZ ch))] := hl
  refine lv_iload_n hx hb dX4_isDigitOf_0 rfl (lv_at hl 1 rfl) ?_
  refine lv_iload_n hx hb dX4_isDigitOf_1 rfl (lv_at hl 0 rfl) ?_
  refine lv_bipush (v := iZ 47) hx hb dX4_isDigitOf_2 (by decide) ?_
  refine z_icmp_ne (tgt := 12) hx hb dX4_isDigitOf_4 (by decide) (by first | assumption | omega) (by first | assumption | omega) (fun c_4 => ?_) (fun c_4 => ?_)
  · refine lv_bipush (v := iZ 48) hx hb dX4_isDigitOf_12 (by decide) ?_
    refine lv_bipush (v := iZ 57) hx hb dX4_isDigitOf_14 (by decide) ?_
    refine z_Ni (As := [.int (iZ ch), .int (iZ 48), .int (iZ 57)]) (rest := []) hC (c_X9_isWithin l D cI cJ cB ch 48 57 (by first | assumption | omega) (by first | assumption | omega) (by first | assumption | omega)) 3 gX4_isDigitOf_X9_isWithin_n53 rfl rfl rfl hK.2.1 (by decide +kernel) (by decide +kernel) qX9_isWithin ⟨Nat.le_of_ble_eq_true rfl, Nat.le_of_ble_eq_true rfl⟩ ⟨Nat.le_refl _, Nat.le_refl _⟩ hK hP hD hS hA [] rfl (by decide) rfl hl.1 rfl (Nat.le_of_ble_eq_true rfl) dX4_isDigitOf_16 (fun z w H locs hq hP hD hS => ?_)
    rcases hq with ⟨rfl, rfl, hc1_0⟩ | ⟨rfl, rfl, hc1_0⟩
    · replace hP : va_P D vwCl [] H := hP
      replace hD : va_D A [] := hD
      exact z_zret hx hb hr hlocks hP hD hS dX4_isDigitOf_19 (by first | exact Or.inl rfl | exact Or.inr rfl | omega) rfl (by first | (exact Or.inl (⟨(by first | rfl | omega), rfl, (by first | assumption | omega)⟩)) | (exfalso; omega))
    · replace hP : va_P D vwCl [] H := hP
      replace hD : va_D A [] := hD
      exact z_zret hx hb hr hlocks hP hD hS dX4_isDigitOf_19 (by first | exact Or.inl rfl | exact Or.inr rfl | omega) rfl (by first | (exact Or.inr (⟨(by first | rfl | omega), rfl, (by first | assumption | omega)⟩)) | (exfalso; omega))
  · refine lv_bipush (v := iZ 50) hx hb dX4_isDigitOf_7 (by decide) ?_
    refine lv_goto (tgt := 14) hx hb dX4_isDigitOf_9 (by decide) ?_
    refine lv_bipush (v := iZ 57) hx hb dX4_isDigitOf_14 (by decide) ?_
    refine z_Ni (As := [.int (iZ ch), .int (iZ 50), .int (iZ 57)]) (rest := []) hC (c_X9_isWithin l D cI cJ cB ch 50 57 (by first | assumption | omega) (by first | assumption | omega) (by first | assumption | omega)) 3 gX4_isDigitOf_X9_isWithin_n53 rfl rfl rfl hK.2.1 (by decide +kernel) (by decide +kernel) qX9_isWithin ⟨Nat.le_of_ble_eq_true rfl, Nat.le_of_ble_eq_true rfl⟩ ⟨Nat.le_refl _, Nat.le_refl _⟩ hK hP hD hS hA [] rfl (by decide) rfl hl.1 rfl (Nat.le_of_ble_eq_true rfl) dX4_isDigitOf_16 (fun z w H locs hq hP hD hS => ?_)
    rcases hq with ⟨rfl, rfl, hc2_0⟩ | ⟨rfl, rfl, hc2_0⟩
    · replace hP : va_P D vwCl [] H := hP
      replace hD : va_D A [] := hD
      exact z_zret hx hb hr hlocks hP hD hS dX4_isDigitOf_19 (by first | exact Or.inl rfl | exact Or.inr rfl | omega) rfl (by first | (exact Or.inl (⟨(by first | rfl | omega), rfl, (by first | assumption | omega)⟩)) | (exfalso; omega))
    · replace hP : va_P D vwCl [] H := hP
      replace hD : va_D A [] := hD
      exact z_zret hx hb hr hlocks hP hD hS dX4_isDigitOf_19 (by first | exact Or.inl rfl | exact Or.inr rfl | omega) rfl (by first | (exact Or.inr (⟨(by first | rfl | omega), rfl, (by first | assumption | omega)⟩)) | (exfalso; omega))
theorem qX4_opensStep : yX4_opensStep.cls ≠ "java/lang/invoke/MethodHandle" ∧ yX4_opensStep.cls ≠ "java/lang/invoke/VarHandle" ∧ (parseMethodDescriptor yX4_opensStep.desc).map (fun d => d.parameters.length) = some 1 := by decide +kernel
set_option maxHeartbeats 4000000 in
set_option maxRecDepth 100000 in
theorem c_X4_opensStep (l : Launch) (D : va_G) (cI cJ cB : ClassId) (ch : Int) (hc : -2147483648 ≤ ch ∧ ch < 2147483648) : zMi l yX4_opensStep wsX4_opensStep (zRm 1 20) D (zT cI cJ cB) [.int (iZ ch)] [] (fun (z : Int) (w : va_W) => (1 = z ∧ w = [] ∧ (ch = 104 ∨ ch = 100 ∨ ch = 43 ∨ ch = 45 ∨ ch = 47)) ∨ (0 = z ∧ w = [] ∧ (¬ (ch = 104 ∨ ch = 100 ∨ ch = 43 ∨ ch = 45 ∨ ch = 47)))) := by
  refine z_of (Qc := fun A => zQi D [] A _) (cc := cX4_opensStep) (maxL := 1) (ret := (some .boolean)) (by decide) rfl (Nat.le_of_ble_eq_true rfl) ?_
  intro p e s m below meth c A ls hx hb hr hts hown hlocks hml hK hP hD hS hA hl
  replace hown : s.vm.findClass RX4 = some m.cls := hown
  have hC : CallFix p m c cX4_opensStep 1 s _ wsX4_opensStep RX4 := ⟨hx, hb, hml, hown, hts⟩
  replace hl : lv_has ls 1 [(0, .int (iZ ch))] := hl
  refine lv_iload_n hx hb dX4_opensStep_0 rfl (lv_at hl 0 rfl) ?_
  refine lv_bipush (v := iZ 104) hx hb dX4_opensStep_1 (by decide) ?_
  refine z_icmp_eq (tgt := 19) hx hb dX4_opensStep_3 (by decide) (by first | assumption | omega) (by first | assumption | omega) (fun c_3 => ?_) (fun c_3 => ?_)
  · refine lv_iconst (v := iZ 1) hx hb dX4_opensStep_19 (by decide) ?_
    refine lv_goto (tgt := 24) hx hb dX4_opensStep_20 (by decide) ?_
    exact z_zret hx hb hr hlocks hP hD hS dX4_opensStep_24 (by first | exact Or.inl rfl | exact Or.inr rfl | omega) rfl (by first | (exact Or.inl (⟨(by first | rfl | omega), rfl, (by first | assumption | omega)⟩)) | (exfalso; omega))
  · refine lv_iload_n hx hb dX4_opensStep_6 rfl (lv_at hl 0 rfl) ?_
    refine lv_bipush (v := iZ 100) hx hb dX4_opensStep_7 (by decide) ?_
    refine z_icmp_eq (tgt := 19) hx hb dX4_opensStep_9 (by decide) (by first | assumption | omega) (by first | assumption | omega) (fun c_9 => ?_) (fun c_9 => ?_)
    · refine lv_iconst (v := iZ 1) hx hb dX4_opensStep_19 (by decide) ?_
      refine lv_goto (tgt := 24) hx hb dX4_opensStep_20 (by decide) ?_
      exact z_zret hx hb hr hlocks hP hD hS dX4_opensStep_24 (by first | exact Or.inl rfl | exact Or.inr rfl | omega) rfl (by first | (exact Or.inl (⟨(by first | rfl | omega), rfl, (by first | assumption | omega)⟩)) | (exfalso; omega))
    · refine lv_iload_n hx hb dX4_opensStep_12 rfl (lv_at hl 0 rfl) ?_
      refine z_Si (As := [.int (iZ ch)]) (rest := []) hC (c_X4_wantsDigit l D cI cJ cB ch (by first | assumption | omega)) 1 gX4_opensStep_X4_wantsDigit rfl rfl rfl qX4_wantsDigit ⟨Nat.le_of_ble_eq_true rfl, Nat.le_of_ble_eq_true rfl⟩ ⟨Nat.le_refl _, Nat.le_refl _⟩ hK hP hD hS hA [] rfl (by decide) rfl hl.1 rfl (Nat.le_of_ble_eq_true rfl) dX4_opensStep_13 (fun z w H locs hq hP hD hS => ?_)
      rcases hq with ⟨rfl, rfl, hc1_0⟩ | ⟨rfl, rfl, hc1_0⟩
      · replace hP : va_P D vwCl [] H := hP
        replace hD : va_D A [] := hD
        refine z_if_eq (tgt := 23) hx hb dX4_opensStep_16 (by decide) (by first | assumption | omega) (fun h => absurd h (by decide)) (fun _ => ?_)
        refine lv_iconst (v := iZ 1) hx hb dX4_opensStep_19 (by decide) ?_
        refine lv_goto (tgt := 24) hx hb dX4_opensStep_20 (by decide) ?_
        exact z_zret hx hb hr hlocks hP hD hS dX4_opensStep_24 (by first | exact Or.inl rfl | exact Or.inr rfl | omega) rfl (by first | (exact Or.inl (⟨(by first | rfl | omega), rfl, (by first | assumption | omega)⟩)) | (exfalso; omega))
      · replace hP : va_P D vwCl [] H := hP
        replace hD : va_D A [] := hD
        refine z_if_eq (tgt := 23) hx hb dX4_opensStep_16 (by decide) (by first | assumption | omega) (fun _ => ?_) (fun h => absurd h (by decide))
        refine lv_iconst (v := iZ 0) hx hb dX4_opensStep_23 (by decide) ?_
        exact z_zret hx hb hr hlocks hP hD hS dX4_opensStep_24 (by first | exact Or.inl rfl | exact Or.inr rfl | omega) rfl (by first | (exact Or.inr (⟨(by first | rfl | omega), rfl, (by first | assumption | omega)⟩)) | (exfalso; omega))
theorem qX4_steps : yX4_steps.cls ≠ "java/lang/invoke/MethodHandle" ∧ yX4_steps.cls ≠ "java/lang/invoke/VarHandle" ∧ (parseMethodDescriptor yX4_steps.desc).map (fun d => d.parameters.length) = some 0 := by decide +kernel
set_option maxHeartbeats 4000000 in
set_option maxRecDepth 100000 in
theorem c_X4_steps (l : Launch) (D : va_G) (cI cJ cB : ClassId) (xl xls xld xlm : Nat) (st rd : Int) : zMi l yX4_steps wsX4_steps (zRm 0 0) D (zT cI cJ cB) [.ref xl] [(xl, ob 4 [.ref xls, .ref xld, .ref xlm, .int (iZ st), .int (iZ rd)])] (fun (z : Int) (w : va_W) => st = z ∧ w = [(xl, ob 4 [.ref xls, .ref xld, .ref xlm, .int (iZ st), .int (iZ rd)])]) := by
  refine z_of (Qc := fun A => zQi D [(xl, ob 4 [.ref xls, .ref xld, .ref xlm, .int (iZ st), .int (iZ rd)])] A _) (cc := cX4_steps) (maxL := 1) (ret := (some .int)) (by decide) rfl (Nat.le_of_ble_eq_true rfl) ?_
  intro p e s m below meth c A ls hx hb hr hts hown hlocks hml hK hP hD hS hA hl
  replace hown : s.vm.findClass RX4 = some m.cls := hown
  have hC : CallFix p m c cX4_steps 1 s _ wsX4_steps RX4 := ⟨hx, hb, hml, hown, hts⟩
  replace hl : lv_has ls 1 [(0, .ref xl)] := hl
  have iwX4 : ∀ w ∈ u_ws RX4 TX4 5, w ∈ wsX4_steps := fun w h => List.mem_cons_of_mem _ (List.mem_append_right _ h)
  have fl57 : Cond.fieldLink RX4 57 "GrowsByHalf$Law" "steps" "I" ∈ wsX4_steps := by decide +kernel
  refine lv_aload_n hx hb dX4_steps_0 rfl (lv_at hl 0 rfl) ?_
  refine z_get (C := RX4) (T0 := TX4) (N := 5) (ci := 4) (v := .int (iZ st)) hx hb hts hown hK hP iwX4 rfl 0 rfl 3 (by decide) fl57 rfl dX4_steps_1 ?_
  exact z_iret hx hb hr hlocks hP hD hS dX4_steps_4 rfl (by first | (exact ⟨(by first | rfl | omega), rfl⟩) | (exfalso; omega))
theorem qX4_readings : yX4_readings.cls ≠ "java/lang/invoke/MethodHandle" ∧ yX4_readings.cls ≠ "java/lang/invoke/VarHandle" ∧ (parseMethodDescriptor yX4_readings.desc).map (fun d => d.parameters.length) = some 0 := by decide +kernel
set_option maxHeartbeats 4000000 in
set_option maxRecDepth 100000 in
theorem c_X4_readings (l : Launch) (D : va_G) (cI cJ cB : ClassId) (xl xls xld xlm : Nat) (st rd : Int) : zMi l yX4_readings wsX4_readings (zRm 0 0) D (zT cI cJ cB) [.ref xl] [(xl, ob 4 [.ref xls, .ref xld, .ref xlm, .int (iZ st), .int (iZ rd)])] (fun (z : Int) (w : va_W) => rd = z ∧ w = [(xl, ob 4 [.ref xls, .ref xld, .ref xlm, .int (iZ st), .int (iZ rd)])]) := by
  refine z_of (Qc := fun A => zQi D [(xl, ob 4 [.ref xls, .ref xld, .ref xlm, .int (iZ st), .int (iZ rd)])] A _) (cc := cX4_readings) (maxL := 1) (ret := (some .int)) (by decide) rfl (Nat.le_of_ble_eq_true rfl) ?_
  intro p e s m below meth c A ls hx hb hr hts hown hlocks hml hK hP hD hS hA hl
  replace hown : s.vm.findClass RX4 = some m.cls := hown
  have hC : CallFix p m c cX4_readings 1 s _ wsX4_readings RX4 := ⟨hx, hb, hml, hown, hts⟩
  replace hl : lv_has ls 1 [(0, .ref xl)] := hl
  have iwX4 : ∀ w ∈ u_ws RX4 TX4 5, w ∈ wsX4_readings := fun w h => List.mem_cons_of_mem _ (List.mem_append_right _ h)
  have fl61 : Cond.fieldLink RX4 61 "GrowsByHalf$Law" "readings" "I" ∈ wsX4_readings := by decide +kernel
  refine lv_aload_n hx hb dX4_readings_0 rfl (lv_at hl 0 rfl) ?_
  refine z_get (C := RX4) (T0 := TX4) (N := 5) (ci := 4) (v := .int (iZ rd)) hx hb hts hown hK hP iwX4 rfl 0 rfl 4 (by decide) fl61 rfl dX4_readings_1 ?_
  exact z_iret hx hb hr hlocks hP hD hS dX4_readings_4 rfl (by first | (exact ⟨(by first | rfl | omega), rfl⟩) | (exfalso; omega))
theorem qX4_makes : yX4_makes.cls ≠ "java/lang/invoke/MethodHandle" ∧ yX4_makes.cls ≠ "java/lang/invoke/VarHandle" ∧ (parseMethodDescriptor yX4_makes.desc).map (fun d => d.parameters.length) = some 1 := by decide +kernel
set_option maxHeartbeats 4000000 in
set_option maxRecDepth 100000 in
theorem c_X4_makes (l : Launch) (D : va_G) (cI cJ cB : ClassId) (xl xls xld xlm : Nat) (md : Int → Int) (st rd x : Int) (hmd : ∀ j, 0 ≤ md j ∧ md j ≤ 9999) (hx0 : 0 ≤ x ∧ x ≤ 9999) : zMi l yX4_makes wsX4_makes (zRm 0 0) D (zT cI cJ cB) [.ref xl, .int (iZ x)] [(xl, ob 4 [.ref xls, .ref xld, .ref xlm, .int (iZ st), .int (iZ rd)]), (xlm, aI cI 10000 md)] (fun (z : Int) (w : va_W) => md x = z ∧ w = [(xl, ob 4 [.ref xls, .ref xld, .ref xlm, .int (iZ st), .int (iZ rd)]), (xlm, aI cI 10000 md)] ∧ (0 ≤ md x ∧ md x ≤ 9999)) := by
  refine z_of (Qc := fun A => zQi D [(xl, ob 4 [.ref xls, .ref xld, .ref xlm, .int (iZ st), .int (iZ rd)]), (xlm, aI cI 10000 md)] A _) (cc := cX4_makes) (maxL := 2) (ret := (some .int)) (by decide) rfl (Nat.le_of_ble_eq_true rfl) ?_
  intro p e s m below meth c A ls hx hb hr hts hown hlocks hml hK hP hD hS hA hl
  replace hown : s.vm.findClass RX4 = some m.cls := hown
  have hC : CallFix p m c cX4_makes 2 s _ wsX4_makes RX4 := ⟨hx, hb, hml, hown, hts⟩
  replace hl : lv_has ls 2 [(0, .ref xl), (1, .int (iZ x))] := hl
  have iwX4 : ∀ w ∈ u_ws RX4 TX4 5, w ∈ wsX4_makes := fun w h => List.mem_cons_of_mem _ (List.mem_append_right _ h)
  have fl18 : Cond.fieldLink RX4 18 "GrowsByHalf$Law" "made" "[I" ∈ wsX4_makes := by decide +kernel
  refine lv_iload_n hx hb dX4_makes_0 rfl (lv_at hl 1 rfl) ?_
  refine z_if_lt (tgt := 20) hx hb dX4_makes_1 (by decide) (by first | assumption | omega) (fun c_1 => absurd c_1 (by omega)) (fun c_1 => ?_)
  refine lv_iload_n hx hb dX4_makes_4 rfl (lv_at hl 1 rfl) ?_
  refine lv_sipush (v := iZ 10000) hx hb dX4_makes_5 (by decide) ?_
  refine z_icmp_ge (tgt := 20) hx hb dX4_makes_8 (by decide) (by first | assumption | omega) (by first | assumption | omega) (fun c_8 => absurd c_8 (by omega)) (fun c_8 => ?_)
  refine lv_aload_n hx hb dX4_makes_11 rfl (lv_at hl 0 rfl) ?_
  refine z_get (C := RX4) (T0 := TX4) (N := 5) (ci := 4) (v := .ref xlm) hx hb hts hown hK hP iwX4 rfl 0 rfl 2 (by decide) fl18 rfl dX4_makes_12 ?_
  refine lv_iload_n hx hb dX4_makes_15 rfl (lv_at hl 1 rfl) ?_
  refine z_iald hx hb hK hP 1 0 rfl rfl (by decide) (by first | assumption | omega) dX4_makes_16 ?_
  have rd_1 := hmd x
  refine lv_goto (tgt := 21) hx hb dX4_makes_17 (by decide) ?_
  exact z_iret hx hb hr hlocks hP hD hS dX4_makes_21 rfl (by first | (exact ⟨(by first | rfl | omega), rfl, (by first | assumption | omega)⟩) | (exfalso; omega))
theorem qX4_toldBy : yX4_toldBy.cls ≠ "java/lang/invoke/MethodHandle" ∧ yX4_toldBy.cls ≠ "java/lang/invoke/VarHandle" ∧ (parseMethodDescriptor yX4_toldBy.desc).map (fun d => d.parameters.length) = some 2 := by decide +kernel
set_option maxHeartbeats 4000000 in
set_option maxRecDepth 100000 in
theorem c_X4_toldBy (l : Launch) (D : va_G) (cI cJ cB : ClassId) (xl xls xld xlm : Nat) (md : Int → Int) (st rd k x : Int) (hmd : ∀ j, 0 ≤ md j ∧ md j ≤ 9999) (hk : -2147483648 ≤ k ∧ k < 2147483648) (hx0 : 0 ≤ x ∧ x ≤ 9999) : zMi l yX4_toldBy wsX4_toldBy (zRm 1 21) D (zT cI cJ cB) [.ref xl, .int (iZ k), .int (iZ x)] [(xl, ob 4 [.ref xls, .ref xld, .ref xlm, .int (iZ st), .int (iZ rd)]), (xlm, aI cI 10000 md)] (fun (z : Int) (w : va_W) => tb md k x = z ∧ w = [(xl, ob 4 [.ref xls, .ref xld, .ref xlm, .int (iZ st), .int (iZ rd)]), (xlm, aI cI 10000 md)]) := by
  refine z_of (Qc := fun A => zQi D [(xl, ob 4 [.ref xls, .ref xld, .ref xlm, .int (iZ st), .int (iZ rd)]), (xlm, aI cI 10000 md)] A _) (cc := cX4_toldBy) (maxL := 3) (ret := (some .int)) (by decide) rfl (Nat.le_of_ble_eq_true rfl) ?_
  intro p e s m below meth c A ls hx hb hr hts hown hlocks hml hK hP hD hS hA hl
  replace hown : s.vm.findClass RX4 = some m.cls := hown
  have hC : CallFix p m c cX4_toldBy 3 s _ wsX4_toldBy RX4 := ⟨hx, hb, hml, hown, hts⟩
  replace hl : lv_has ls 3 [(0, .ref xl), (1, .int (iZ k)), (2, .int (iZ x))] := hl
  refine lv_iload_n hx hb dX4_toldBy_0 rfl (lv_at hl 1 rfl) ?_
  by_cases sw1_1 : k = 1
  · refine z_tab (tgt := 28) (off := 27) hx hb 1 dX4_toldBy_1 sw1_1 (by decide) (by decide) (by decide) rfl (by decide) ?_
    refine lv_iload_n hx hb dX4_toldBy_28 rfl (lv_at hl 2 rfl) ?_
    exact z_iret hx hb hr hlocks hP hD hS dX4_toldBy_29 rfl (by refine ⟨?_, rfl⟩; simp only [tb]; (try rw [if_pos (by assumption)]); (try rw [if_neg (by omega)]); (try rw [if_neg (by omega)]); (try rw [if_neg (by omega)]); (try simp_all))
  by_cases sw1_2 : k = 2
  · refine z_tab (tgt := 30) (off := 29) hx hb 2 dX4_toldBy_1 sw1_2 (by decide) (by decide) (by decide) rfl (by decide) ?_
    refine lv_iload_n hx hb dX4_toldBy_30 rfl (lv_at hl 2 rfl) ?_
    refine lv_iconst (v := iZ 2) hx hb dX4_toldBy_31 (by decide) ?_
    refine z_idiv hx hb dX4_toldBy_32 (by first | assumption | omega) (by first | assumption | omega) ?_
    exact z_iret hx hb hr hlocks hP hD hS dX4_toldBy_33 rfl (by refine ⟨?_, rfl⟩; simp only [tb]; (try rw [if_pos (by assumption)]); (try rw [if_neg (by omega)]); (try rw [if_neg (by omega)]); (try rw [if_neg (by omega)]); (try simp_all))
  by_cases sw1_3 : k = 3
  · refine z_tab (tgt := 34) (off := 33) hx hb 3 dX4_toldBy_1 sw1_3 (by decide) (by decide) (by decide) rfl (by decide) ?_
    refine lv_aload_n hx hb dX4_toldBy_34 rfl (lv_at hl 0 rfl) ?_
    refine lv_aload_n hx hb dX4_toldBy_35 rfl (lv_at hl 0 rfl) ?_
    refine lv_iload_n hx hb dX4_toldBy_36 rfl (lv_at hl 2 rfl) ?_
    refine z_Vi (As := [.int (iZ x)]) (rest := [.ref xl]) hC (c_X4_makes l D cI cJ cB xl xls xld xlm md st rd x (by first | assumption | omega) (by first | assumption | omega)) 1 gX4_toldBy_X4_makes rfl rfl rfl ⟨rfl, qX4_makes⟩ ⟨Nat.le_of_ble_eq_true rfl, Nat.le_of_ble_eq_true rfl⟩ ⟨Nat.le_refl _, Nat.le_refl _⟩ hK hP hD hS hA [0, 1] rfl (by decide) 0 rfl rfl rfl hl.1 rfl (Nat.le_of_ble_eq_true rfl) dX4_toldBy_37 (fun z w H locs hq hP hD hS => ?_)
    rcases hq with ⟨rfl, rfl, hc1_0⟩
    replace hP : va_P D vwCl [(xl, ob 4 [.ref xls, .ref xld, .ref xlm, .int (iZ st), .int (iZ rd)]), (xlm, aI cI 10000 md)] H := hP
    replace hD : va_D A [(xl, ob 4 [.ref xls, .ref xld, .ref xlm, .int (iZ st), .int (iZ rd)]), (xlm, aI cI 10000 md)] := hD
    refine z_Vi (As := [.int (iZ (md x))]) (rest := []) hC (c_X4_makes l D cI cJ cB xl xls xld xlm md st rd (md x) (by first | assumption | omega) (by first | assumption | omega)) 1 gX4_toldBy_X4_makes rfl rfl rfl ⟨rfl, qX4_makes⟩ ⟨Nat.le_of_ble_eq_true rfl, Nat.le_of_ble_eq_true rfl⟩ ⟨Nat.le_refl _, Nat.le_refl _⟩ hK hP hD hS hA [0, 1] rfl (by decide) 0 rfl rfl rfl hl.1 rfl (Nat.le_of_ble_eq_true rfl) dX4_toldBy_40 (fun z w H locs hq hP hD hS => ?_)
    rcases hq with ⟨rfl, rfl, hc2_0⟩
    replace hP : va_P D vwCl [(xl, ob 4 [.ref xls, .ref xld, .ref xlm, .int (iZ st), .int (iZ rd)]), (xlm, aI cI 10000 md)] H := hP
    replace hD : va_D A [(xl, ob 4 [.ref xls, .ref xld, .ref xlm, .int (iZ st), .int (iZ rd)]), (xlm, aI cI 10000 md)] := hD
    exact z_iret hx hb hr hlocks hP hD hS dX4_toldBy_43 rfl (by refine ⟨?_, rfl⟩; simp only [tb]; (try rw [if_pos (by assumption)]); (try rw [if_neg (by omega)]); (try rw [if_neg (by omega)]); (try rw [if_neg (by omega)]); (try simp_all))
  refine z_tabO (tgt := 44) hx hb dX4_toldBy_1 (by first | assumption | omega) (by omega) (by decide) ?_
  refine lv_aload_n hx hb dX4_toldBy_44 rfl (lv_at hl 0 rfl) ?_
  refine lv_iload_n hx hb dX4_toldBy_45 rfl (lv_at hl 2 rfl) ?_
  refine z_Vi (As := [.int (iZ x)]) (rest := []) hC (c_X4_makes l D cI cJ cB xl xls xld xlm md st rd x (by first | assumption | omega) (by first | assumption | omega)) 1 gX4_toldBy_X4_makes rfl rfl rfl ⟨rfl, qX4_makes⟩ ⟨Nat.le_of_ble_eq_true rfl, Nat.le_of_ble_eq_true rfl⟩ ⟨Nat.le_refl _, Nat.le_refl _⟩ hK hP hD hS hA [0, 1] rfl (by decide) 0 rfl rfl rfl hl.1 rfl (Nat.le_of_ble_eq_true rfl) dX4_toldBy_46 (fun z w H locs hq hP hD hS => ?_)
  rcases hq with ⟨rfl, rfl, hc3_0⟩
  replace hP : va_P D vwCl [(xl, ob 4 [.ref xls, .ref xld, .ref xlm, .int (iZ st), .int (iZ rd)]), (xlm, aI cI 10000 md)] H := hP
  replace hD : va_D A [(xl, ob 4 [.ref xls, .ref xld, .ref xlm, .int (iZ st), .int (iZ rd)]), (xlm, aI cI 10000 md)] := hD
  exact z_iret hx hb hr hlocks hP hD hS dX4_toldBy_49 rfl (by refine ⟨?_, rfl⟩; simp only [tb]; (try rw [if_pos (by assumption)]); (try rw [if_neg (by omega)]); (try rw [if_neg (by omega)]); (try rw [if_neg (by omega)]); (try simp_all))
theorem qX8_isPersonLetter : yX8_isPersonLetter.cls ≠ "java/lang/invoke/MethodHandle" ∧ yX8_isPersonLetter.cls ≠ "java/lang/invoke/VarHandle" ∧ (parseMethodDescriptor yX8_isPersonLetter.desc).map (fun d => d.parameters.length) = some 1 := by decide +kernel
set_option maxHeartbeats 4000000 in
set_option maxRecDepth 100000 in
theorem c_X8_isPersonLetter (l : Launch) (D : va_G) (cI cJ cB : ClassId) (ch : Int) (hc : -2147483648 ≤ ch ∧ ch < 2147483648) : zMi l yX8_isPersonLetter wsX8_isPersonLetter (zRm 1 22) D (zT cI cJ cB) [.int (iZ ch)] [] (fun (z : Int) (w : va_W) => (1 = z ∧ w = [] ∧ (48 ≤ ch ∧ ch ≤ 55)) ∨ (0 = z ∧ w = [] ∧ (¬ (48 ≤ ch ∧ ch ≤ 55)))) := by
  refine z_of (Qc := fun A => zQi D [] A _) (cc := cX8_isPersonLetter) (maxL := 1) (ret := (some .boolean)) (by decide) rfl (Nat.le_of_ble_eq_true rfl) ?_
  intro p e s m below meth c A ls hx hb hr hts hown hlocks hml hK hP hD hS hA hl
  replace hown : s.vm.findClass RX8 = some m.cls := hown
  have hC : CallFix p m c cX8_isPersonLetter 1 s _ wsX8_isPersonLetter RX8 := ⟨hx, hb, hml, hown, hts⟩
  replace hl : lv_has ls 1 [(0, .int (iZ ch))] := hl
  refine lv_iload_n hx hb dX8_isPersonLetter_0 rfl (lv_at hl 0 rfl) ?_
  refine lv_bipush (v := iZ 48) hx hb dX8_isPersonLetter_1 (by decide) ?_
  refine lv_bipush (v := iZ 55) hx hb dX8_isPersonLetter_3 (by decide) ?_
  refine z_Ni (As := [.int (iZ ch), .int (iZ 48), .int (iZ 55)]) (rest := []) hC (c_X9_isWithin l D cI cJ cB ch 48 55 (by first | assumption | omega) (by first | assumption | omega) (by first | assumption | omega)) 3 gX8_isPersonLetter_X9_isWithin_n40 rfl rfl rfl hK.2.2.1 (by decide +kernel) (by decide +kernel) qX9_isWithin ⟨Nat.le_of_ble_eq_true rfl, Nat.le_of_ble_eq_true rfl⟩ ⟨Nat.le_refl _, Nat.le_refl _⟩ hK hP hD hS hA [] rfl (by decide) rfl hl.1 rfl (Nat.le_of_ble_eq_true rfl) dX8_isPersonLetter_5 (fun z w H locs hq hP hD hS => ?_)
  rcases hq with ⟨rfl, rfl, hc1_0⟩ | ⟨rfl, rfl, hc1_0⟩
  · replace hP : va_P D vwCl [] H := hP
    replace hD : va_D A [] := hD
    exact z_zret hx hb hr hlocks hP hD hS dX8_isPersonLetter_8 (by first | exact Or.inl rfl | exact Or.inr rfl | omega) rfl (by first | (exact Or.inl (⟨(by first | rfl | omega), rfl, (by first | assumption | omega)⟩)) | (exfalso; omega))
  · replace hP : va_P D vwCl [] H := hP
    replace hD : va_D A [] := hD
    exact z_zret hx hb hr hlocks hP hD hS dX8_isPersonLetter_8 (by first | exact Or.inl rfl | exact Or.inr rfl | omega) rfl (by first | (exact Or.inr (⟨(by first | rfl | omega), rfl, (by first | assumption | omega)⟩)) | (exfalso; omega))
theorem qX8_has : yX8_has.cls ≠ "java/lang/invoke/MethodHandle" ∧ yX8_has.cls ≠ "java/lang/invoke/VarHandle" ∧ (parseMethodDescriptor yX8_has.desc).map (fun d => d.parameters.length) = some 1 := by decide +kernel
set_option maxHeartbeats 4000000 in
set_option maxRecDepth 100000 in
theorem c_X8_has (l : Launch) (D : va_G) (cI cJ cB : ClassId) (xw xwt xwo : Nat) (tn wr k : Int) (htn : 0 ≤ tn ∧ tn ≤ 16) (hk : -2147483648 ≤ k ∧ k < 2147483648) : zMi l yX8_has wsX8_has (zRm 0 0) D (zT cI cJ cB) [.ref xw, .int (iZ k)] [(xw, ob 8 [.ref xwt, .ref xwo, .int (iZ tn), .int (iZ wr)])] (fun (z : Int) (w : va_W) => (1 = z ∧ w = [(xw, ob 8 [.ref xwt, .ref xwo, .int (iZ tn), .int (iZ wr)])] ∧ (0 ≤ k ∧ k < tn)) ∨ (0 = z ∧ w = [(xw, ob 8 [.ref xwt, .ref xwo, .int (iZ tn), .int (iZ wr)])] ∧ (¬ (0 ≤ k ∧ k < tn)))) := by
  refine z_of (Qc := fun A => zQi D [(xw, ob 8 [.ref xwt, .ref xwo, .int (iZ tn), .int (iZ wr)])] A _) (cc := cX8_has) (maxL := 2) (ret := (some .boolean)) (by decide) rfl (Nat.le_of_ble_eq_true rfl) ?_
  intro p e s m below meth c A ls hx hb hr hts hown hlocks hml hK hP hD hS hA hl
  replace hown : s.vm.findClass RX8 = some m.cls := hown
  have hC : CallFix p m c cX8_has 2 s _ wsX8_has RX8 := ⟨hx, hb, hml, hown, hts⟩
  replace hl : lv_has ls 2 [(0, .ref xw), (1, .int (iZ k))] := hl
  have iwX8 : ∀ w ∈ u_ws RX8 TX8 4, w ∈ wsX8_has := fun w h => List.mem_cons_of_mem _ (List.mem_append_right _ h)
  have fl44 : Cond.fieldLink RX8 44 "GrowsByHalf$Week" "tellings" "I" ∈ wsX8_has := by decide +kernel
  refine lv_iload_n hx hb dX8_has_0 rfl (lv_at hl 1 rfl) ?_
  refine z_if_lt (tgt := 16) hx hb dX8_has_1 (by decide) (by first | assumption | omega) (fun c_1 => ?_) (fun c_1 => ?_)
  · refine lv_iconst (v := iZ 0) hx hb dX8_has_16 (by decide) ?_
    exact z_zret hx hb hr hlocks hP hD hS dX8_has_17 (by first | exact Or.inl rfl | exact Or.inr rfl | omega) rfl (by first | (exact Or.inr (⟨(by first | rfl | omega), rfl, (by first | assumption | omega)⟩)) | (exfalso; omega))
  · refine lv_iload_n hx hb dX8_has_4 rfl (lv_at hl 1 rfl) ?_
    refine lv_aload_n hx hb dX8_has_5 rfl (lv_at hl 0 rfl) ?_
    refine z_get (C := RX8) (T0 := TX8) (N := 4) (ci := 8) (v := .int (iZ tn)) hx hb hts hown hK hP iwX8 rfl 0 rfl 2 (by decide) fl44 rfl dX8_has_6 ?_
    refine z_icmp_ge (tgt := 16) hx hb dX8_has_9 (by decide) (by first | assumption | omega) (by first | assumption | omega) (fun c_9 => ?_) (fun c_9 => ?_)
    · refine lv_iconst (v := iZ 0) hx hb dX8_has_16 (by decide) ?_
      exact z_zret hx hb hr hlocks hP hD hS dX8_has_17 (by first | exact Or.inl rfl | exact Or.inr rfl | omega) rfl (by first | (exact Or.inr (⟨(by first | rfl | omega), rfl, (by first | assumption | omega)⟩)) | (exfalso; omega))
    · refine lv_iconst (v := iZ 1) hx hb dX8_has_12 (by decide) ?_
      refine lv_goto (tgt := 17) hx hb dX8_has_13 (by decide) ?_
      exact z_zret hx hb hr hlocks hP hD hS dX8_has_17 (by first | exact Or.inl rfl | exact Or.inr rfl | omega) rfl (by first | (exact Or.inl (⟨(by first | rfl | omega), rfl, (by first | assumption | omega)⟩)) | (exfalso; omega))
theorem qX8_tellings : yX8_tellings.cls ≠ "java/lang/invoke/MethodHandle" ∧ yX8_tellings.cls ≠ "java/lang/invoke/VarHandle" ∧ (parseMethodDescriptor yX8_tellings.desc).map (fun d => d.parameters.length) = some 0 := by decide +kernel
set_option maxHeartbeats 4000000 in
set_option maxRecDepth 100000 in
theorem c_X8_tellings (l : Launch) (D : va_G) (cI cJ cB : ClassId) (xw xwt xwo : Nat) (tn wr : Int) : zMi l yX8_tellings wsX8_tellings (zRm 0 0) D (zT cI cJ cB) [.ref xw] [(xw, ob 8 [.ref xwt, .ref xwo, .int (iZ tn), .int (iZ wr)])] (fun (z : Int) (w : va_W) => tn = z ∧ w = [(xw, ob 8 [.ref xwt, .ref xwo, .int (iZ tn), .int (iZ wr)])]) := by
  refine z_of (Qc := fun A => zQi D [(xw, ob 8 [.ref xwt, .ref xwo, .int (iZ tn), .int (iZ wr)])] A _) (cc := cX8_tellings) (maxL := 1) (ret := (some .int)) (by decide) rfl (Nat.le_of_ble_eq_true rfl) ?_
  intro p e s m below meth c A ls hx hb hr hts hown hlocks hml hK hP hD hS hA hl
  replace hown : s.vm.findClass RX8 = some m.cls := hown
  have hC : CallFix p m c cX8_tellings 1 s _ wsX8_tellings RX8 := ⟨hx, hb, hml, hown, hts⟩
  replace hl : lv_has ls 1 [(0, .ref xw)] := hl
  have iwX8 : ∀ w ∈ u_ws RX8 TX8 4, w ∈ wsX8_tellings := fun w h => List.mem_cons_of_mem _ (List.mem_append_right _ h)
  have fl44 : Cond.fieldLink RX8 44 "GrowsByHalf$Week" "tellings" "I" ∈ wsX8_tellings := by decide +kernel
  refine lv_aload_n hx hb dX8_tellings_0 rfl (lv_at hl 0 rfl) ?_
  refine z_get (C := RX8) (T0 := TX8) (N := 4) (ci := 8) (v := .int (iZ tn)) hx hb hts hown hK hP iwX8 rfl 0 rfl 2 (by decide) fl44 rfl dX8_tellings_1 ?_
  exact z_iret hx hb hr hlocks hP hD hS dX8_tellings_4 rfl (by first | (exact ⟨(by first | rfl | omega), rfl⟩) | (exfalso; omega))
theorem qX8_readings : yX8_readings.cls ≠ "java/lang/invoke/MethodHandle" ∧ yX8_readings.cls ≠ "java/lang/invoke/VarHandle" ∧ (parseMethodDescriptor yX8_readings.desc).map (fun d => d.parameters.length) = some 0 := by decide +kernel
set_option maxHeartbeats 4000000 in
set_option maxRecDepth 100000 in
theorem c_X8_readings (l : Launch) (D : va_G) (cI cJ cB : ClassId) (xw xwt xwo : Nat) (tn wr : Int) : zMi l yX8_readings wsX8_readings (zRm 0 0) D (zT cI cJ cB) [.ref xw] [(xw, ob 8 [.ref xwt, .ref xwo, .int (iZ tn), .int (iZ wr)])] (fun (z : Int) (w : va_W) => wr = z ∧ w = [(xw, ob 8 [.ref xwt, .ref xwo, .int (iZ tn), .int (iZ wr)])]) := by
  refine z_of (Qc := fun A => zQi D [(xw, ob 8 [.ref xwt, .ref xwo, .int (iZ tn), .int (iZ wr)])] A _) (cc := cX8_readings) (maxL := 1) (ret := (some .int)) (by decide) rfl (Nat.le_of_ble_eq_true rfl) ?_
  intro p e s m below meth c A ls hx hb hr hts hown hlocks hml hK hP hD hS hA hl
  replace hown : s.vm.findClass RX8 = some m.cls := hown
  have hC : CallFix p m c cX8_readings 1 s _ wsX8_readings RX8 := ⟨hx, hb, hml, hown, hts⟩
  replace hl : lv_has ls 1 [(0, .ref xw)] := hl
  have iwX8 : ∀ w ∈ u_ws RX8 TX8 4, w ∈ wsX8_readings := fun w h => List.mem_cons_of_mem _ (List.mem_append_right _ h)
  have fl48 : Cond.fieldLink RX8 48 "GrowsByHalf$Week" "readings" "I" ∈ wsX8_readings := by decide +kernel
  refine lv_aload_n hx hb dX8_readings_0 rfl (lv_at hl 0 rfl) ?_
  refine z_get (C := RX8) (T0 := TX8) (N := 4) (ci := 8) (v := .int (iZ wr)) hx hb hts hown hK hP iwX8 rfl 0 rfl 3 (by decide) fl48 rfl dX8_readings_1 ?_
  exact z_iret hx hb hr hlocks hP hD hS dX8_readings_4 rfl (by first | (exact ⟨(by first | rfl | omega), rfl⟩) | (exfalso; omega))
theorem qX8_who : yX8_who.cls ≠ "java/lang/invoke/MethodHandle" ∧ yX8_who.cls ≠ "java/lang/invoke/VarHandle" ∧ (parseMethodDescriptor yX8_who.desc).map (fun d => d.parameters.length) = some 1 := by decide +kernel
set_option maxHeartbeats 4000000 in
set_option maxRecDepth 100000 in
theorem c_X8_who (l : Launch) (D : va_G) (cI cJ cB : ClassId) (xw xwt xwo : Nat) (tt : Int → Int) (tn wr k : Int) (htn : 0 ≤ tn ∧ tn ≤ 16) (hk : 0 ≤ k ∧ k < tn) : zMi l yX8_who wsX8_who (zRm 1 21) D (zT cI cJ cB) [.ref xw, .int (iZ k)] [(xw, ob 8 [.ref xwt, .ref xwo, .int (iZ tn), .int (iZ wr)]), (xwt, aI cI 16 tt)] (fun (z : Int) (w : va_W) => tt k = z ∧ w = [(xw, ob 8 [.ref xwt, .ref xwo, .int (iZ tn), .int (iZ wr)]), (xwt, aI cI 16 tt)]) := by
  refine z_of (Qc := fun A => zQi D [(xw, ob 8 [.ref xwt, .ref xwo, .int (iZ tn), .int (iZ wr)]), (xwt, aI cI 16 tt)] A _) (cc := cX8_who) (maxL := 2) (ret := (some .int)) (by decide) rfl (Nat.le_of_ble_eq_true rfl) ?_
  intro p e s m below meth c A ls hx hb hr hts hown hlocks hml hK hP hD hS hA hl
  replace hown : s.vm.findClass RX8 = some m.cls := hown
  have hC : CallFix p m c cX8_who 2 s _ wsX8_who RX8 := ⟨hx, hb, hml, hown, hts⟩
  replace hl : lv_has ls 2 [(0, .ref xw), (1, .int (iZ k))] := hl
  have iwX8 : ∀ w ∈ u_ws RX8 TX8 4, w ∈ wsX8_who := fun w h => List.mem_cons_of_mem _ (List.mem_append_right _ h)
  have fl11 : Cond.fieldLink RX8 11 "GrowsByHalf$Week" "tellers" "[I" ∈ wsX8_who := by decide +kernel
  refine lv_aload_n hx hb dX8_who_0 rfl (lv_at hl 0 rfl) ?_
  refine lv_iload_n hx hb dX8_who_1 rfl (lv_at hl 1 rfl) ?_
  refine z_Vi (As := [.int (iZ k)]) (rest := []) hC (c_X8_has l D cI cJ cB xw xwt xwo tn wr k (by first | assumption | omega) (by first | assumption | omega)) 1 gX8_who_X8_has rfl rfl rfl ⟨rfl, qX8_has⟩ ⟨Nat.le_of_ble_eq_true rfl, Nat.le_of_ble_eq_true rfl⟩ ⟨Nat.le_refl _, Nat.le_refl _⟩ hK hP hD hS hA [0] rfl (by decide) 0 rfl rfl rfl hl.1 rfl (Nat.le_of_ble_eq_true rfl) dX8_who_2 (fun z w H locs hq hP hD hS => ?_)
  rcases hq with ⟨rfl, rfl, hc1_0⟩ | ⟨rfl, rfl, hc1_0⟩
  · replace hP : va_P D vwCl [(xw, ob 8 [.ref xwt, .ref xwo, .int (iZ tn), .int (iZ wr)]), (xwt, aI cI 16 tt)] H := hP
    replace hD : va_D A [(xw, ob 8 [.ref xwt, .ref xwo, .int (iZ tn), .int (iZ wr)]), (xwt, aI cI 16 tt)] := hD
    refine z_if_eq (tgt := 17) hx hb dX8_who_5 (by decide) (by first | assumption | omega) (fun h => absurd h (by decide)) (fun _ => ?_)
    refine lv_aload_n hx hb dX8_who_8 rfl (lv_at hl 0 rfl) ?_
    refine z_get (C := RX8) (T0 := TX8) (N := 4) (ci := 8) (v := .ref xwt) hx hb hts hown hK hP iwX8 rfl 0 rfl 0 (by decide) fl11 rfl dX8_who_9 ?_
    refine lv_iload_n hx hb dX8_who_12 rfl (lv_at hl 1 rfl) ?_
    refine z_iald hx hb hK hP 1 0 rfl rfl (by decide) (by first | assumption | omega) dX8_who_13 ?_
    refine lv_goto (tgt := 18) hx hb dX8_who_14 (by decide) ?_
    exact z_iret hx hb hr hlocks hP hD hS dX8_who_18 rfl (by first | (exact ⟨(by first | rfl | omega), rfl⟩) | (exfalso; omega))
  · replace hP : va_P D vwCl [(xw, ob 8 [.ref xwt, .ref xwo, .int (iZ tn), .int (iZ wr)]), (xwt, aI cI 16 tt)] H := hP
    replace hD : va_D A [(xw, ob 8 [.ref xwt, .ref xwo, .int (iZ tn), .int (iZ wr)]), (xwt, aI cI 16 tt)] := hD
    refine z_if_eq (tgt := 17) hx hb dX8_who_5 (by decide) (by first | assumption | omega) (fun _ => ?_) (fun h => absurd h (by decide))
    refine lv_iconst (v := iZ (-1)) hx hb dX8_who_17 (by decide) ?_
    exact z_iret hx hb hr hlocks hP hD hS dX8_who_18 rfl (by first | (exact ⟨(by first | rfl | omega), rfl⟩) | (exfalso; omega))
theorem qX8_whom : yX8_whom.cls ≠ "java/lang/invoke/MethodHandle" ∧ yX8_whom.cls ≠ "java/lang/invoke/VarHandle" ∧ (parseMethodDescriptor yX8_whom.desc).map (fun d => d.parameters.length) = some 1 := by decide +kernel
set_option maxHeartbeats 4000000 in
set_option maxRecDepth 100000 in
theorem c_X8_whom (l : Launch) (D : va_G) (cI cJ cB : ClassId) (xw xwt xwo : Nat) (to : Int → Int) (tn wr k : Int) (htn : 0 ≤ tn ∧ tn ≤ 16) (hk : 0 ≤ k ∧ k < tn) : zMi l yX8_whom wsX8_whom (zRm 1 21) D (zT cI cJ cB) [.ref xw, .int (iZ k)] [(xw, ob 8 [.ref xwt, .ref xwo, .int (iZ tn), .int (iZ wr)]), (xwo, aI cI 16 to)] (fun (z : Int) (w : va_W) => to k = z ∧ w = [(xw, ob 8 [.ref xwt, .ref xwo, .int (iZ tn), .int (iZ wr)]), (xwo, aI cI 16 to)]) := by
  refine z_of (Qc := fun A => zQi D [(xw, ob 8 [.ref xwt, .ref xwo, .int (iZ tn), .int (iZ wr)]), (xwo, aI cI 16 to)] A _) (cc := cX8_whom) (maxL := 2) (ret := (some .int)) (by decide) rfl (Nat.le_of_ble_eq_true rfl) ?_
  intro p e s m below meth c A ls hx hb hr hts hown hlocks hml hK hP hD hS hA hl
  replace hown : s.vm.findClass RX8 = some m.cls := hown
  have hC : CallFix p m c cX8_whom 2 s _ wsX8_whom RX8 := ⟨hx, hb, hml, hown, hts⟩
  replace hl : lv_has ls 2 [(0, .ref xw), (1, .int (iZ k))] := hl
  have iwX8 : ∀ w ∈ u_ws RX8 TX8 4, w ∈ wsX8_whom := fun w h => List.mem_cons_of_mem _ (List.mem_append_right _ h)
  have fl15 : Cond.fieldLink RX8 15 "GrowsByHalf$Week" "told" "[I" ∈ wsX8_whom := by decide +kernel
  refine lv_aload_n hx hb dX8_whom_0 rfl (lv_at hl 0 rfl) ?_
  refine lv_iload_n hx hb dX8_whom_1 rfl (lv_at hl 1 rfl) ?_
  refine z_Vi (As := [.int (iZ k)]) (rest := []) hC (c_X8_has l D cI cJ cB xw xwt xwo tn wr k (by first | assumption | omega) (by first | assumption | omega)) 1 gX8_whom_X8_has rfl rfl rfl ⟨rfl, qX8_has⟩ ⟨Nat.le_of_ble_eq_true rfl, Nat.le_of_ble_eq_true rfl⟩ ⟨Nat.le_refl _, Nat.le_refl _⟩ hK hP hD hS hA [0] rfl (by decide) 0 rfl rfl rfl hl.1 rfl (Nat.le_of_ble_eq_true rfl) dX8_whom_2 (fun z w H locs hq hP hD hS => ?_)
  rcases hq with ⟨rfl, rfl, hc1_0⟩ | ⟨rfl, rfl, hc1_0⟩
  · replace hP : va_P D vwCl [(xw, ob 8 [.ref xwt, .ref xwo, .int (iZ tn), .int (iZ wr)]), (xwo, aI cI 16 to)] H := hP
    replace hD : va_D A [(xw, ob 8 [.ref xwt, .ref xwo, .int (iZ tn), .int (iZ wr)]), (xwo, aI cI 16 to)] := hD
    refine z_if_eq (tgt := 17) hx hb dX8_whom_5 (by decide) (by first | assumption | omega) (fun h => absurd h (by decide)) (fun _ => ?_)
    refine lv_aload_n hx hb dX8_whom_8 rfl (lv_at hl 0 rfl) ?_
    refine z_get (C := RX8) (T0 := TX8) (N := 4) (ci := 8) (v := .ref xwo) hx hb hts hown hK hP iwX8 rfl 0 rfl 1 (by decide) fl15 rfl dX8_whom_9 ?_
    refine lv_iload_n hx hb dX8_whom_12 rfl (lv_at hl 1 rfl) ?_
    refine z_iald hx hb hK hP 1 0 rfl rfl (by decide) (by first | assumption | omega) dX8_whom_13 ?_
    refine lv_goto (tgt := 18) hx hb dX8_whom_14 (by decide) ?_
    exact z_iret hx hb hr hlocks hP hD hS dX8_whom_18 rfl (by first | (exact ⟨(by first | rfl | omega), rfl⟩) | (exfalso; omega))
  · replace hP : va_P D vwCl [(xw, ob 8 [.ref xwt, .ref xwo, .int (iZ tn), .int (iZ wr)]), (xwo, aI cI 16 to)] H := hP
    replace hD : va_D A [(xw, ob 8 [.ref xwt, .ref xwo, .int (iZ tn), .int (iZ wr)]), (xwo, aI cI 16 to)] := hD
    refine z_if_eq (tgt := 17) hx hb dX8_whom_5 (by decide) (by first | assumption | omega) (fun _ => ?_) (fun h => absurd h (by decide))
    refine lv_iconst (v := iZ (-1)) hx hb dX8_whom_17 (by decide) ?_
    exact z_iret hx hb hr hlocks hP hD hS dX8_whom_18 rfl (by first | (exact ⟨(by first | rfl | omega), rfl⟩) | (exfalso; omega))
