theorem qX9_isWithin : yX9_isWithin.cls ≠ "java/lang/invoke/MethodHandle" ∧ yX9_isWithin.cls ≠ "java/lang/invoke/VarHandle" ∧ (parseMethodDescriptor yX9_isWithin.desc).map (fun d => d.parameters.length) = some 3 := by decide +kernel
set_option maxHeartbeats 4000000 in
set_option maxRecDepth 100000 in
theorem c_X9_isWithin (l : Launch) (D : va_G) (cI cJ cB : ClassId) (n lo hi : Int) (hn : -2147483648 ≤ n ∧ n < 2147483648) (hlo : -2147483648 ≤ lo ∧ lo < 2147483648) (hhi : -2147483648 ≤ hi ∧ hi < 2147483648) : zMi l yX9_isWithin wsX9_isWithin (zRm 0 0) D (zT cI cJ cB) [.int (iZ n), .int (iZ lo), .int (iZ hi)] [] (fun (z : Int) (w : va_W) => (z = 1 ∧ w = [] ∧ lo ≤ n ∧ n ≤ hi) ∨ (z = 0 ∧ w = [] ∧ ¬ (lo ≤ n ∧ n ≤ hi))) := by
  refine z_of (Qc := fun A => zQi D [] A _) (cc := cX9_isWithin) (maxL := 3) (ret := (some .boolean)) (by decide) rfl (Nat.le_of_ble_eq_true rfl) ?_
  intro p e s m below meth c A ls hx hb hr hts hown hlocks hml hK hP hD hS hA hl
  have hown : s.vm.findClass RX9 = some m.cls := hown
  have hC : CallFix p m c cX9_isWithin 3 s _ wsX9_isWithin RX9 := ⟨hx, hb, hml, hown, hts⟩
  have hl : lv_has ls 3 [(0, .int (iZ n)), (1, .int (iZ lo)), (2, .int (iZ hi))] := hl
  refine lv_iload_n hx hb dX9_isWithin_0 rfl (lv_at hl 0 rfl) ?_
  refine lv_iload_n hx hb dX9_isWithin_1 rfl (lv_at hl 1 rfl) ?_
  refine z_icmp_lt (tgt := 14) hx hb dX9_isWithin_2 (by decide) (by first | assumption | omega) (by first | assumption | omega) (fun c_2 => ?_) (fun c_2 => ?_)
  · refine lv_iconst (v := iZ 0) hx hb dX9_isWithin_14 (by decide) ?_
    exact z_zret hx hb hr hlocks hP hD hS dX9_isWithin_15 (by first | exact Or.inl rfl | exact Or.inr rfl | omega) rfl (by exact Or.inr (⟨(by first | rfl | omega), rfl, (by first | assumption | omega)⟩))
  · refine lv_iload_n hx hb dX9_isWithin_5 rfl (lv_at hl 0 rfl) ?_
    refine lv_iload_n hx hb dX9_isWithin_6 rfl (lv_at hl 2 rfl) ?_
    refine z_icmp_gt (tgt := 14) hx hb dX9_isWithin_7 (by decide) (by first | assumption | omega) (by first | assumption | omega) (fun c_7 => ?_) (fun c_7 => ?_)
    · refine lv_iconst (v := iZ 0) hx hb dX9_isWithin_14 (by decide) ?_
      exact z_zret hx hb hr hlocks hP hD hS dX9_isWithin_15 (by first | exact Or.inl rfl | exact Or.inr rfl | omega) rfl (by exact Or.inr (⟨(by first | rfl | omega), rfl, (by first | assumption | omega)⟩))
    · refine lv_iconst (v := iZ 1) hx hb dX9_isWithin_10 (by decide) ?_
      refine lv_goto (tgt := 15) hx hb dX9_isWithin_11 (by decide) ?_
      exact z_zret hx hb hr hlocks hP hD hS dX9_isWithin_15 (by first | exact Or.inl rfl | exact Or.inr rfl | omega) rfl (by exact Or.inl (⟨(by first | rfl | omega), rfl, (by first | assumption | omega)⟩))
theorem qX3_has : yX3_has.cls ≠ "java/lang/invoke/MethodHandle" ∧ yX3_has.cls ≠ "java/lang/invoke/VarHandle" ∧ (parseMethodDescriptor yX3_has.desc).map (fun d => d.parameters.length) = some 1 := by decide +kernel
set_option maxHeartbeats 4000000 in
set_option maxRecDepth 100000 in
theorem c_X3_has (l : Launch) (D : va_G) (cI cJ cB : ClassId) (hf qk qn qw qs : Nat) (pe p0 : Int) (hpe : 0 ≤ pe ∧ pe ≤ 8) (hp0 : -2147483648 ≤ p0 ∧ p0 < 2147483648) : zMi l yX3_has wsX3_has (zRm 0 0) D (zT cI cJ cB) [.ref hf, .int (iZ p0)] [(hf, ob 3 [.ref qk, .ref qn, .ref qw, .ref qs, .int (iZ pe)])] (fun (z : Int) (w : va_W) => (z = 1 ∧ w = [(hf, ob 3 [.ref qk, .ref qn, .ref qw, .ref qs, .int (iZ pe)])] ∧ 0 ≤ p0 ∧ p0 < pe) ∨ (z = 0 ∧ w = [(hf, ob 3 [.ref qk, .ref qn, .ref qw, .ref qs, .int (iZ pe)])] ∧ ¬ (0 ≤ p0 ∧ p0 < pe))) := by
  refine z_of (Qc := fun A => zQi D [(hf, ob 3 [.ref qk, .ref qn, .ref qw, .ref qs, .int (iZ pe)])] A _) (cc := cX3_has) (maxL := 2) (ret := (some .boolean)) (by decide) rfl (Nat.le_of_ble_eq_true rfl) ?_
  intro p e s m below meth c A ls hx hb hr hts hown hlocks hml hK hP hD hS hA hl
  have hown : s.vm.findClass RX3 = some m.cls := hown
  have hC : CallFix p m c cX3_has 2 s _ wsX3_has RX3 := ⟨hx, hb, hml, hown, hts⟩
  have hl : lv_has ls 2 [(0, .ref hf), (1, .int (iZ p0))] := hl
  have iwX3 : ∀ w ∈ u_ws RX3 TX3 5, w ∈ wsX3_has := fun w h => List.mem_cons_of_mem _ (List.mem_append_right _ h)
  have fl36 : Cond.fieldLink RX3 36 "GrowsByHalf$Folk" "people" "I" ∈ wsX3_has := by decide +kernel
  refine lv_iload_n hx hb dX3_has_0 rfl (lv_at hl 1 rfl) ?_
  refine z_if_lt (tgt := 16) hx hb dX3_has_1 (by decide) (by first | assumption | omega) (fun c_1 => ?_) (fun c_1 => ?_)
  · refine lv_iconst (v := iZ 0) hx hb dX3_has_16 (by decide) ?_
    exact z_zret hx hb hr hlocks hP hD hS dX3_has_17 (by first | exact Or.inl rfl | exact Or.inr rfl | omega) rfl (by exact Or.inr (⟨(by first | rfl | omega), rfl, (by first | assumption | omega)⟩))
  · refine lv_iload_n hx hb dX3_has_4 rfl (lv_at hl 1 rfl) ?_
    refine lv_aload_n hx hb dX3_has_5 rfl (lv_at hl 0 rfl) ?_
    refine z_get (C := RX3) (T0 := TX3) (N := 5) (ci := 3) (v := .int (iZ pe)) hx hb hts hown hK hP iwX3 rfl 0 rfl 4 (by decide) fl36 rfl dX3_has_6 ?_
    refine z_icmp_ge (tgt := 16) hx hb dX3_has_9 (by decide) (by first | assumption | omega) (by first | assumption | omega) (fun c_9 => ?_) (fun c_9 => ?_)
    · refine lv_iconst (v := iZ 0) hx hb dX3_has_16 (by decide) ?_
      exact z_zret hx hb hr hlocks hP hD hS dX3_has_17 (by first | exact Or.inl rfl | exact Or.inr rfl | omega) rfl (by exact Or.inr (⟨(by first | rfl | omega), rfl, (by first | assumption | omega)⟩))
    · refine lv_iconst (v := iZ 1) hx hb dX3_has_12 (by decide) ?_
      refine lv_goto (tgt := 17) hx hb dX3_has_13 (by decide) ?_
      exact z_zret hx hb hr hlocks hP hD hS dX3_has_17 (by first | exact Or.inl rfl | exact Or.inr rfl | omega) rfl (by exact Or.inl (⟨(by first | rfl | omega), rfl, (by first | assumption | omega)⟩))
theorem qX3_hasBoth : yX3_hasBoth.cls ≠ "java/lang/invoke/MethodHandle" ∧ yX3_hasBoth.cls ≠ "java/lang/invoke/VarHandle" ∧ (parseMethodDescriptor yX3_hasBoth.desc).map (fun d => d.parameters.length) = some 2 := by decide +kernel
set_option maxHeartbeats 4000000 in
set_option maxRecDepth 100000 in
theorem c_X3_hasBoth (l : Launch) (D : va_G) (cI cJ cB : ClassId) (hf qk qn qw qs : Nat) (pe p0 p1 : Int) (hpe : 0 ≤ pe ∧ pe ≤ 8) (hp0 : -2147483648 ≤ p0 ∧ p0 < 2147483648) (hp1 : -2147483648 ≤ p1 ∧ p1 < 2147483648) : zMi l yX3_hasBoth wsX3_hasBoth (zRm 1 21) D (zT cI cJ cB) [.ref hf, .int (iZ p0), .int (iZ p1)] [(hf, ob 3 [.ref qk, .ref qn, .ref qw, .ref qs, .int (iZ pe)])] (fun (z : Int) (w : va_W) => (z = 1 ∧ w = [(hf, ob 3 [.ref qk, .ref qn, .ref qw, .ref qs, .int (iZ pe)])] ∧ 0 ≤ p0 ∧ p0 < pe ∧ 0 ≤ p1 ∧ p1 < pe ∧ p0 ≠ p1) ∨ (z = 0 ∧ w = [(hf, ob 3 [.ref qk, .ref qn, .ref qw, .ref qs, .int (iZ pe)])] ∧ ¬ (0 ≤ p0 ∧ p0 < pe ∧ 0 ≤ p1 ∧ p1 < pe ∧ p0 ≠ p1))) := by
  refine z_of (Qc := fun A => zQi D [(hf, ob 3 [.ref qk, .ref qn, .ref qw, .ref qs, .int (iZ pe)])] A _) (cc := cX3_hasBoth) (maxL := 3) (ret := (some .boolean)) (by decide) rfl (Nat.le_of_ble_eq_true rfl) ?_
  intro p e s m below meth c A ls hx hb hr hts hown hlocks hml hK hP hD hS hA hl
  have hown : s.vm.findClass RX3 = some m.cls := hown
  have hC : CallFix p m c cX3_hasBoth 3 s _ wsX3_hasBoth RX3 := ⟨hx, hb, hml, hown, hts⟩
  have hl : lv_has ls 3 [(0, .ref hf), (1, .int (iZ p0)), (2, .int (iZ p1))] := hl
  refine lv_aload_n hx hb dX3_hasBoth_0 rfl (lv_at hl 0 rfl) ?_
  refine lv_iload_n hx hb dX3_hasBoth_1 rfl (lv_at hl 1 rfl) ?_
  refine z_Vi (As := [.int (iZ p0)]) (rest := []) hC (c_X3_has l D cI cJ cB hf qk qn qw qs pe p0 (by first | assumption | omega) (by first | assumption | omega)) 1 gX3_hasBoth_X3_has rfl rfl rfl ⟨rfl, qX3_has⟩ ⟨Nat.le_of_ble_eq_true rfl, Nat.le_of_ble_eq_true rfl⟩ ⟨Nat.le_refl _, Nat.le_refl _⟩ hK hP hD hS hA [0] rfl (by decide) 0 rfl rfl rfl hl.1 rfl (Nat.le_of_ble_eq_true rfl) dX3_hasBoth_2 (fun z w H locs hq hP hD hS => ?_)
  rcases hq with ⟨rfl, rfl, hc1_0⟩ | ⟨rfl, rfl, hc1_0⟩
  · have hP : va_P D vwCl [(hf, ob 3 [.ref qk, .ref qn, .ref qw, .ref qs, .int (iZ pe)])] H := hP
    have hD : va_D A [(hf, ob 3 [.ref qk, .ref qn, .ref qw, .ref qs, .int (iZ pe)])] := hD
    refine z_if_eq (tgt := 25) hx hb dX3_hasBoth_5 (by decide) (by first | assumption | omega) (fun h => absurd h (by decide)) (fun _ => ?_)
    refine lv_aload_n hx hb dX3_hasBoth_8 rfl (lv_at hl 0 rfl) ?_
    refine lv_iload_n hx hb dX3_hasBoth_9 rfl (lv_at hl 2 rfl) ?_
    refine z_Vi (As := [.int (iZ p1)]) (rest := []) hC (c_X3_has l D cI cJ cB hf qk qn qw qs pe p1 (by first | assumption | omega) (by first | assumption | omega)) 1 gX3_hasBoth_X3_has rfl rfl rfl ⟨rfl, qX3_has⟩ ⟨Nat.le_of_ble_eq_true rfl, Nat.le_of_ble_eq_true rfl⟩ ⟨Nat.le_refl _, Nat.le_refl _⟩ hK hP hD hS hA [0] rfl (by decide) 0 rfl rfl rfl hl.1 rfl (Nat.le_of_ble_eq_true rfl) dX3_hasBoth_10 (fun z w H locs hq hP hD hS => ?_)
    rcases hq with ⟨rfl, rfl, hc2_0⟩ | ⟨rfl, rfl, hc2_0⟩
    · have hP : va_P D vwCl [(hf, ob 3 [.ref qk, .ref qn, .ref qw, .ref qs, .int (iZ pe)])] H := hP
      have hD : va_D A [(hf, ob 3 [.ref qk, .ref qn, .ref qw, .ref qs, .int (iZ pe)])] := hD
      refine z_if_eq (tgt := 25) hx hb dX3_hasBoth_13 (by decide) (by first | assumption | omega) (fun h => absurd h (by decide)) (fun _ => ?_)
      refine lv_iload_n hx hb dX3_hasBoth_16 rfl (lv_at hl 1 rfl) ?_
      refine lv_iload_n hx hb dX3_hasBoth_17 rfl (lv_at hl 2 rfl) ?_
      refine z_icmp_eq (tgt := 25) hx hb dX3_hasBoth_18 (by decide) (by first | assumption | omega) (by first | assumption | omega) (fun c_18 => ?_) (fun c_18 => ?_)
      · refine lv_iconst (v := iZ 0) hx hb dX3_hasBoth_25 (by decide) ?_
        exact z_zret hx hb hr hlocks hP hD hS dX3_hasBoth_26 (by first | exact Or.inl rfl | exact Or.inr rfl | omega) rfl (by exact Or.inr (⟨(by first | rfl | omega), rfl, (by first | assumption | omega)⟩))
      · refine lv_iconst (v := iZ 1) hx hb dX3_hasBoth_21 (by decide) ?_
        refine lv_goto (tgt := 26) hx hb dX3_hasBoth_22 (by decide) ?_
        exact z_zret hx hb hr hlocks hP hD hS dX3_hasBoth_26 (by first | exact Or.inl rfl | exact Or.inr rfl | omega) rfl (by exact Or.inl (⟨(by first | rfl | omega), rfl, (by first | assumption | omega)⟩))
    · have hP : va_P D vwCl [(hf, ob 3 [.ref qk, .ref qn, .ref qw, .ref qs, .int (iZ pe)])] H := hP
      have hD : va_D A [(hf, ob 3 [.ref qk, .ref qn, .ref qw, .ref qs, .int (iZ pe)])] := hD
      refine z_if_eq (tgt := 25) hx hb dX3_hasBoth_13 (by decide) (by first | assumption | omega) (fun _ => ?_) (fun h => absurd h (by decide))
      refine lv_iconst (v := iZ 0) hx hb dX3_hasBoth_25 (by decide) ?_
      exact z_zret hx hb hr hlocks hP hD hS dX3_hasBoth_26 (by first | exact Or.inl rfl | exact Or.inr rfl | omega) rfl (by exact Or.inr (⟨(by first | rfl | omega), rfl, (by first | assumption | omega)⟩))
  · have hP : va_P D vwCl [(hf, ob 3 [.ref qk, .ref qn, .ref qw, .ref qs, .int (iZ pe)])] H := hP
    have hD : va_D A [(hf, ob 3 [.ref qk, .ref qn, .ref qw, .ref qs, .int (iZ pe)])] := hD
    refine z_if_eq (tgt := 25) hx hb dX3_hasBoth_5 (by decide) (by first | assumption | omega) (fun _ => ?_) (fun h => absurd h (by decide))
    refine lv_iconst (v := iZ 0) hx hb dX3_hasBoth_25 (by decide) ?_
    exact z_zret hx hb hr hlocks hP hD hS dX3_hasBoth_26 (by first | exact Or.inl rfl | exact Or.inr rfl | omega) rfl (by exact Or.inr (⟨(by first | rfl | omega), rfl, (by first | assumption | omega)⟩))
theorem qX3_kindOf : yX3_kindOf.cls ≠ "java/lang/invoke/MethodHandle" ∧ yX3_kindOf.cls ≠ "java/lang/invoke/VarHandle" ∧ (parseMethodDescriptor yX3_kindOf.desc).map (fun d => d.parameters.length) = some 1 := by decide +kernel
set_option maxHeartbeats 4000000 in
set_option maxRecDepth 100000 in
theorem c_X3_kindOf (l : Launch) (D : va_G) (cI cJ cB : ClassId) (hf qk qn qw qs : Nat) (kd : Int → Int) (pe p0 : Int) (hpe : 0 ≤ pe ∧ pe ≤ 8) (hp0 : -2147483648 ≤ p0 ∧ p0 < 2147483648) (hkd : ∀ j, 0 ≤ kd j ∧ kd j ≤ 3) : zMi l yX3_kindOf wsX3_kindOf (zRm 1 21) D (zT cI cJ cB) [.ref hf, .int (iZ p0)] [(hf, ob 3 [.ref qk, .ref qn, .ref qw, .ref qs, .int (iZ pe)]), (qk, aI cI 8 kd)] (fun (z : Int) (w : va_W) => (z = kd p0 ∧ w = [(hf, ob 3 [.ref qk, .ref qn, .ref qw, .ref qs, .int (iZ pe)]), (qk, aI cI 8 kd)] ∧ 0 ≤ p0 ∧ p0 < pe) ∨ (z = (-1) ∧ w = [(hf, ob 3 [.ref qk, .ref qn, .ref qw, .ref qs, .int (iZ pe)]), (qk, aI cI 8 kd)] ∧ ¬ (0 ≤ p0 ∧ p0 < pe))) := by
  refine z_of (Qc := fun A => zQi D [(hf, ob 3 [.ref qk, .ref qn, .ref qw, .ref qs, .int (iZ pe)]), (qk, aI cI 8 kd)] A _) (cc := cX3_kindOf) (maxL := 2) (ret := (some .int)) (by decide) rfl (Nat.le_of_ble_eq_true rfl) ?_
  intro p e s m below meth c A ls hx hb hr hts hown hlocks hml hK hP hD hS hA hl
  have hown : s.vm.findClass RX3 = some m.cls := hown
  have hC : CallFix p m c cX3_kindOf 2 s _ wsX3_kindOf RX3 := ⟨hx, hb, hml, hown, hts⟩
  have hl : lv_has ls 2 [(0, .ref hf), (1, .int (iZ p0))] := hl
  have iwX3 : ∀ w ∈ u_ws RX3 TX3 5, w ∈ wsX3_kindOf := fun w h => List.mem_cons_of_mem _ (List.mem_append_right _ h)
  have fl9 : Cond.fieldLink RX3 9 "GrowsByHalf$Folk" "kinds" "[I" ∈ wsX3_kindOf := by decide +kernel
  refine lv_aload_n hx hb dX3_kindOf_0 rfl (lv_at hl 0 rfl) ?_
  refine lv_iload_n hx hb dX3_kindOf_1 rfl (lv_at hl 1 rfl) ?_
  refine z_Vi (As := [.int (iZ p0)]) (rest := []) hC (c_X3_has l D cI cJ cB hf qk qn qw qs pe p0 (by first | assumption | omega) (by first | assumption | omega)) 1 gX3_kindOf_X3_has rfl rfl rfl ⟨rfl, qX3_has⟩ ⟨Nat.le_of_ble_eq_true rfl, Nat.le_of_ble_eq_true rfl⟩ ⟨Nat.le_refl _, Nat.le_refl _⟩ hK hP hD hS hA [0] rfl (by decide) 0 rfl rfl rfl hl.1 rfl (Nat.le_of_ble_eq_true rfl) dX3_kindOf_2 (fun z w H locs hq hP hD hS => ?_)
  rcases hq with ⟨rfl, rfl, hc1_0⟩ | ⟨rfl, rfl, hc1_0⟩
  · have hP : va_P D vwCl [(hf, ob 3 [.ref qk, .ref qn, .ref qw, .ref qs, .int (iZ pe)]), (qk, aI cI 8 kd)] H := hP
    have hD : va_D A [(hf, ob 3 [.ref qk, .ref qn, .ref qw, .ref qs, .int (iZ pe)]), (qk, aI cI 8 kd)] := hD
    refine z_if_eq (tgt := 17) hx hb dX3_kindOf_5 (by decide) (by first | assumption | omega) (fun h => absurd h (by decide)) (fun _ => ?_)
    refine lv_aload_n hx hb dX3_kindOf_8 rfl (lv_at hl 0 rfl) ?_
    refine z_get (C := RX3) (T0 := TX3) (N := 5) (ci := 3) (v := .ref qk) hx hb hts hown hK hP iwX3 rfl 0 rfl 0 (by decide) fl9 rfl dX3_kindOf_9 ?_
    refine lv_iload_n hx hb dX3_kindOf_12 rfl (lv_at hl 1 rfl) ?_
    refine z_iald hx hb hK hP 1 0 rfl rfl (by decide) (by first | assumption | omega) dX3_kindOf_13 ?_
    refine lv_goto (tgt := 18) hx hb dX3_kindOf_14 (by decide) ?_
    exact z_iret hx hb hr hlocks hP hD hS dX3_kindOf_18 rfl (by first | (exact Or.inl (⟨(by first | rfl | omega), rfl, (by first | assumption | omega)⟩)) | (exact Or.inr (⟨(by first | rfl | omega), rfl, (by first | assumption | omega)⟩)))
  · have hP : va_P D vwCl [(hf, ob 3 [.ref qk, .ref qn, .ref qw, .ref qs, .int (iZ pe)]), (qk, aI cI 8 kd)] H := hP
    have hD : va_D A [(hf, ob 3 [.ref qk, .ref qn, .ref qw, .ref qs, .int (iZ pe)]), (qk, aI cI 8 kd)] := hD
    refine z_if_eq (tgt := 17) hx hb dX3_kindOf_5 (by decide) (by first | assumption | omega) (fun _ => ?_) (fun h => absurd h (by decide))
    refine lv_iconst (v := iZ (-1)) hx hb dX3_kindOf_17 (by decide) ?_
    exact z_iret hx hb hr hlocks hP hD hS dX3_kindOf_18 rfl (by first | (exact Or.inl (⟨(by first | rfl | omega), rfl, (by first | assumption | omega)⟩)) | (exact Or.inr (⟨(by first | rfl | omega), rfl, (by first | assumption | omega)⟩)))
theorem qX3_talesSeen : yX3_talesSeen.cls ≠ "java/lang/invoke/MethodHandle" ∧ yX3_talesSeen.cls ≠ "java/lang/invoke/VarHandle" ∧ (parseMethodDescriptor yX3_talesSeen.desc).map (fun d => d.parameters.length) = some 0 := by decide +kernel
set_option maxHeartbeats 4000000 in
set_option maxRecDepth 100000 in
theorem c_X3_talesSeen (l : Launch) (D : va_G) (cI cJ cB : ClassId) (hf qk qn qw qs : Nat) (wi : Int → Int) (pe : Int) (hwi : ∀ j, -1 ≤ wi j ∧ wi j ≤ 7) : zMi l yX3_talesSeen wsX3_talesSeen (zRm 0 0) D (zT cI cJ cB) [.ref hf] [(hf, ob 3 [.ref qk, .ref qn, .ref qw, .ref qs, .int (iZ pe)]), (qw, aI cI 4 wi)] (fun (z : Int) (w : va_W) => (∃ (x : Int), z = x ∧ w = [(hf, ob 3 [.ref qk, .ref qn, .ref qw, .ref qs, .int (iZ pe)]), (qw, aI cI 4 wi)] ∧ 0 ≤ x ∧ x ≤ 4)) := by
  refine z_of (Qc := fun A => zQi D [(hf, ob 3 [.ref qk, .ref qn, .ref qw, .ref qs, .int (iZ pe)]), (qw, aI cI 4 wi)] A _) (cc := cX3_talesSeen) (maxL := 3) (ret := (some .int)) (by decide) rfl (Nat.le_of_ble_eq_true rfl) ?_
  intro p e s m below meth c A ls hx hb hr hts hown hlocks hml hK hP hD hS hA hl
  have hown : s.vm.findClass RX3 = some m.cls := hown
  have hC : CallFix p m c cX3_talesSeen 3 s _ wsX3_talesSeen RX3 := ⟨hx, hb, hml, hown, hts⟩
  have hl : lv_has ls 3 [(0, .ref hf)] := hl
  have iwX3 : ∀ w ∈ u_ws RX3 TX3 5, w ∈ wsX3_talesSeen := fun w h => List.mem_cons_of_mem _ (List.mem_append_right _ h)
  have fl18 : Cond.fieldLink RX3 18 "GrowsByHalf$Folk" "witnesses" "[I" ∈ wsX3_talesSeen := by decide +kernel
  refine lv_iconst (v := iZ 0) hx hb dX3_talesSeen_0 (by decide) ?_
  refine lv_istore_n (lv' := [(1, .int (iZ 0)), (0, .ref hf)]) hx hb dX3_talesSeen_1 rfl hl (by decide) rfl (fun ls hl => ?_)
  refine lv_iconst (v := iZ 0) hx hb dX3_talesSeen_2 (by decide) ?_
  refine lv_istore_n (lv' := [(2, .int (iZ 0)), (1, .int (iZ 0)), (0, .ref hf)]) hx hb dX3_talesSeen_3 rfl hl (by decide) rfl (fun ls hl => ?_)
  have lp4 : ∀ n : Nat, ∀ (i sn : Int), (0 ≤ i ∧ i ≤ 4) → (0 ≤ sn ∧ sn ≤ i) → (4 - i) < (n : Int) → ∀ (H : Heap) (locs : List Loc) (ls : Array Slot), va_P D vwCl [(hf, ob 3 [.ref qk, .ref qn, .ref qw, .ref qs, .int (iZ pe)]), (qw, aI cI 4 wi)] H → va_D A [(hf, ob 3 [.ref qk, .ref qn, .ref qw, .ref qs, .int (iZ pe)]), (qw, aI cI 4 wi)] → va_S A s.heap H locs → lv_has ls 3 [(0, .ref hf), (1, .int (iZ sn)), (2, .int (iZ i))] → W p l e (zRm 0 0) s m [.ref hf].toArray below meth c H locs 0 0 (MQ below (zQi D [(hf, ob 3 [.ref qk, .ref qn, .ref qw, .ref qs, .int (iZ pe)]), (qw, aI cI 4 wi)] A (fun (z : Int) (w : va_W) => (∃ (x : Int), z = x ∧ w = [(hf, ob 3 [.ref qk, .ref qn, .ref qw, .ref qs, .int (iZ pe)]), (qw, aI cI 4 wi)] ∧ 0 ≤ x ∧ x ≤ 4))) [.ref hf].toArray s 0 0 A) (F0 m 4 ls []) := by
    intro n
    induction n with
    | zero => intro i sn hi hsn hmu4; exact absurd hmu4 (by omega)
    | succ n ih4 =>
      intro i sn hi hsn hmu4 H locs ls hP hD hS hl
      refine lv_iload_n hx hb dX3_talesSeen_4 rfl (lv_at hl 2 rfl) ?_
      refine lv_iconst (v := iZ 4) hx hb dX3_talesSeen_5 (by decide) ?_
      refine z_icmp_ge (tgt := 33) hx hb dX3_talesSeen_6 (by decide) (by first | assumption | omega) (by first | assumption | omega) (fun c_6 => ?_) (fun c_6 => ?_)
      · refine lv_iload_n hx hb dX3_talesSeen_33 rfl (lv_at hl 1 rfl) ?_
        exact z_iret hx hb hr hlocks hP hD hS dX3_talesSeen_34 rfl (by exact ⟨_, (by first | rfl | omega), rfl, (by first | assumption | omega)⟩)
      · refine lv_iload_n hx hb dX3_talesSeen_9 rfl (lv_at hl 1 rfl) ?_
        refine lv_aload_n hx hb dX3_talesSeen_10 rfl (lv_at hl 0 rfl) ?_
        refine z_get (C := RX3) (T0 := TX3) (N := 5) (ci := 3) (v := .ref qw) hx hb hts hown hK hP iwX3 rfl 0 rfl 2 (by decide) fl18 rfl dX3_talesSeen_11 ?_
        refine lv_iload_n hx hb dX3_talesSeen_14 rfl (lv_at hl 2 rfl) ?_
        refine z_iald hx hb hK hP 1 0 rfl rfl (by decide) (by first | assumption | omega) dX3_talesSeen_15 ?_
        have rd_1 := hwi i
        refine lv_iconst (v := iZ (-1)) hx hb dX3_talesSeen_16 (by decide) ?_
        refine z_icmp_eq (tgt := 24) hx hb dX3_talesSeen_17 (by decide) (by first | assumption | omega) (by first | assumption | omega) (fun c_17 => ?_) (fun c_17 => ?_)
        · refine lv_iconst (v := iZ 0) hx hb dX3_talesSeen_24 (by decide) ?_
          refine z_iadd hx hb dX3_talesSeen_25 ?_
          refine lv_istore_n (lv' := [(1, .int (iZ (sn + 0))), (0, .ref hf), (2, .int (iZ i))]) hx hb dX3_talesSeen_26 rfl hl (by decide) rfl (fun ls hl => ?_)
          refine z_iinc (lv' := [(2, .int (iZ (i + 1))), (1, .int (iZ (sn + 0))), (0, .ref hf)]) hx hb dX3_talesSeen_27 hl (k := 2) rfl (by decide) rfl (fun ls hl => ?_)
          refine lv_goto (tgt := 4) hx hb dX3_talesSeen_30 (by decide) ?_
          exact ih4 (i + 1) (sn + 0) (by first | assumption | omega) (by first | assumption | omega) (by omega) _ _ _ hP hD hS (lv_sub hl [2, 1, 0] rfl)
        · refine lv_iconst (v := iZ 1) hx hb dX3_talesSeen_20 (by decide) ?_
          refine lv_goto (tgt := 25) hx hb dX3_talesSeen_21 (by decide) ?_
          refine z_iadd hx hb dX3_talesSeen_25 ?_
          refine lv_istore_n (lv' := [(1, .int (iZ (sn + 1))), (0, .ref hf), (2, .int (iZ i))]) hx hb dX3_talesSeen_26 rfl hl (by decide) rfl (fun ls hl => ?_)
          refine z_iinc (lv' := [(2, .int (iZ (i + 1))), (1, .int (iZ (sn + 1))), (0, .ref hf)]) hx hb dX3_talesSeen_27 hl (k := 2) rfl (by decide) rfl (fun ls hl => ?_)
          refine lv_goto (tgt := 4) hx hb dX3_talesSeen_30 (by decide) ?_
          exact ih4 (i + 1) (sn + 1) (by first | assumption | omega) (by first | assumption | omega) (by omega) _ _ _ hP hD hS (lv_sub hl [2, 1, 0] rfl)
  exact lp4 ((4 - 0) + 1).toNat 0 0 (by first | assumption | omega) (by first | assumption | omega) (by omega) _ _ _ hP hD hS (lv_sub hl [2, 1, 0] rfl)
