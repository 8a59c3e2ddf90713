theorem qX8_fits : yX8_fits.cls ≠ "java/lang/invoke/MethodHandle" ∧ yX8_fits.cls ≠ "java/lang/invoke/VarHandle" ∧ (parseMethodDescriptor yX8_fits.desc).map (fun d => d.parameters.length) = some 2 := by decide +kernel
set_option maxHeartbeats 4000000 in
set_option maxRecDepth 100000 in
theorem c_X8_fits (l : Launch) (D : va_G) (cI cJ cB : ClassId) (xp xpc : Nat) (pg : Int → Int) (n i : Int) (hn : 0 ≤ n ∧ n ≤ 50) (hpg : ∀ j, 0 ≤ pg j ∧ pg j ≤ 126) (hi : 0 ≤ i ∧ i < n) (hi2 : i < 47) : zMi l yX8_fits wsX8_fits (zRm 2 42) D (zT cI cJ cB) [.ref xp, .int (iZ i)] [(xp, ob 6 [.ref xpc, .int (iZ n)]), (xpc, aI cI 50 pg)] (fun (z : Int) (w : va_W) => (1 = z ∧ w = [(xp, ob 6 [.ref xpc, .int (iZ n)]), (xpc, aI cI 50 pg)] ∧ goodW pg i) ∨ (0 = z ∧ w = [(xp, ob 6 [.ref xpc, .int (iZ n)]), (xpc, aI cI 50 pg)] ∧ ¬ goodW pg i)) := by
  refine z_of (Qc := fun A => zQi D [(xp, ob 6 [.ref xpc, .int (iZ n)]), (xpc, aI cI 50 pg)] A _) (cc := cX8_fits) (maxL := 3) (ret := (some .boolean)) (by decide) rfl (Nat.le_of_ble_eq_true rfl) ?_
  intro p e s m below meth c A ls hx hb hr hts hown hlocks hml hK hP hD hS hA hl
  replace hown : s.vm.findClass RX8 = some m.cls := hown
  have hC : CallFix p m c cX8_fits 3 s _ wsX8_fits RX8 := ⟨hx, hb, hml, hown, hts⟩
  replace hl : lv_has ls 3 [(0, .ref xp), (1, .int (iZ i))] := hl
  have hpi := hpg i
  have hpi1 := hpg (i - 1)
  refine lv_aload_n hx hb dX8_fits_0 rfl (lv_at hl 0 rfl) ?_
  refine lv_iload_n hx hb dX8_fits_1 rfl (lv_at hl 1 rfl) ?_
  refine z_Vi (As := [.int (iZ i)]) (rest := []) hC (c_X6_letterAt l D cI cJ cB xp xpc pg n i (by first | assumption | omega) (by first | assumption | omega)) 1 gX8_fits_X6_letterAt rfl rfl rfl ⟨rfl, qX6_letterAt⟩ ⟨Nat.le_of_ble_eq_true rfl, Nat.le_of_ble_eq_true rfl⟩ ⟨Nat.le_refl _, Nat.le_refl _⟩ hK hP hD hS hA [0, 1] rfl (by decide) 0 rfl rfl rfl hl.1 rfl (Nat.le_of_ble_eq_true rfl) dX8_fits_2 (fun z w H locs hq hP hD hS => ?_)
  rcases hq with ⟨rfl, rfl, hc1_0⟩ | ⟨rfl, rfl, hc1_0⟩
  · replace hP : va_P D vwCl [(xp, ob 6 [.ref xpc, .int (iZ n)]), (xpc, aI cI 50 pg)] H := hP
    replace hD : va_D A [(xp, ob 6 [.ref xpc, .int (iZ n)]), (xpc, aI cI 50 pg)] := hD
    refine lv_istore_n (lv' := [(2, .int (iZ (pg i))), (0, .ref xp), (1, .int (iZ i))]) hx hb dX8_fits_5 rfl hl (by decide) rfl (fun ls hl => ?_)
    refine lv_iload_n hx hb dX8_fits_6 rfl (lv_at hl 2 rfl) ?_
    refine lv_iconst (v := iZ 3) hx hb dX8_fits_7 (by decide) ?_
    refine z_irem hx hb dX8_fits_8 (by first | assumption | omega) (by first | assumption | omega) ?_
    by_cases sw9_0 : i % 3 = 0
    · refine z_look (tgt := 36) (off := 27) hx hb dX8_fits_9 rfl (by first | assumption | omega) (by rw [sw9_0]; rfl) (by decide) ?_
      refine lv_iload_n hx hb dX8_fits_36 rfl (lv_at hl 0 rfl) ?_
      refine z_Si (As := [.int (iZ (pg i))]) (rest := []) hC (c_X8_isPersonLetter l D cI cJ cB (pg i) (by first | assumption | omega)) 1 gX8_fits_X8_isPersonLetter rfl rfl rfl qX8_isPersonLetter ⟨Nat.le_of_ble_eq_true rfl, Nat.le_of_ble_eq_true rfl⟩ ⟨Nat.le_refl _, Nat.le_refl _⟩ hK hP hD hS hA [] rfl (by decide) rfl hl.1 rfl (Nat.le_of_ble_eq_true rfl) dX8_fits_37 (fun z w H locs hq hP hD hS => ?_)
      rcases hq with ⟨rfl, rfl, hc2_0⟩ | ⟨rfl, rfl, hc2_0⟩
      · replace hP : va_P D vwCl [(xp, ob 6 [.ref xpc, .int (iZ n)]), (xpc, aI cI 50 pg)] H := hP
        replace hD : va_D A [(xp, ob 6 [.ref xpc, .int (iZ n)]), (xpc, aI cI 50 pg)] := hD
        exact z_zret hx hb hr hlocks hP hD hS dX8_fits_40 (by first | exact Or.inl rfl | exact Or.inr rfl | omega) rfl (by first | exact Or.inl ⟨rfl, rfl, by omega, by first | exact Or.inl ⟨by assumption, by assumption⟩ | exact Or.inr (Or.inl ⟨by assumption, by assumption, by assumption⟩) | exact Or.inr (Or.inr ⟨by omega, by assumption⟩)⟩ | (refine Or.inr ⟨rfl, rfl, fun h => ?_⟩; have h2 := h.2; omega))
      · replace hP : va_P D vwCl [(xp, ob 6 [.ref xpc, .int (iZ n)]), (xpc, aI cI 50 pg)] H := hP
        replace hD : va_D A [(xp, ob 6 [.ref xpc, .int (iZ n)]), (xpc, aI cI 50 pg)] := hD
        exact z_zret hx hb hr hlocks hP hD hS dX8_fits_40 (by first | exact Or.inl rfl | exact Or.inr rfl | omega) rfl (by first | exact Or.inl ⟨rfl, rfl, by omega, by first | exact Or.inl ⟨by assumption, by assumption⟩ | exact Or.inr (Or.inl ⟨by assumption, by assumption, by assumption⟩) | exact Or.inr (Or.inr ⟨by omega, by assumption⟩)⟩ | (refine Or.inr ⟨rfl, rfl, fun h => ?_⟩; have h2 := h.2; omega))
    by_cases sw9_1 : i % 3 = 1
    · refine z_look (tgt := 41) (off := 32) hx hb dX8_fits_9 rfl (by first | assumption | omega) (by rw [sw9_1]; rfl) (by decide) ?_
      refine lv_iload_n hx hb dX8_fits_41 rfl (lv_at hl 0 rfl) ?_
      refine z_Si (As := [.int (iZ (pg i))]) (rest := []) hC (c_X8_isPersonLetter l D cI cJ cB (pg i) (by first | assumption | omega)) 1 gX8_fits_X8_isPersonLetter rfl rfl rfl qX8_isPersonLetter ⟨Nat.le_of_ble_eq_true rfl, Nat.le_of_ble_eq_true rfl⟩ ⟨Nat.le_refl _, Nat.le_refl _⟩ hK hP hD hS hA [] rfl (by decide) rfl hl.1 rfl (Nat.le_of_ble_eq_true rfl) dX8_fits_42 (fun z w H locs hq hP hD hS => ?_)
      rcases hq with ⟨rfl, rfl, hc3_0⟩ | ⟨rfl, rfl, hc3_0⟩
      · replace hP : va_P D vwCl [(xp, ob 6 [.ref xpc, .int (iZ n)]), (xpc, aI cI 50 pg)] H := hP
        replace hD : va_D A [(xp, ob 6 [.ref xpc, .int (iZ n)]), (xpc, aI cI 50 pg)] := hD
        refine z_if_eq (tgt := 63) hx hb dX8_fits_45 (by decide) (by first | assumption | omega) (fun h => absurd h (by decide)) (fun _ => ?_)
        refine lv_iload_n hx hb dX8_fits_48 rfl (lv_at hl 0 rfl) ?_
        refine lv_aload_n hx hb dX8_fits_49 rfl (lv_at hl 1 rfl) ?_
        refine lv_iload_n hx hb dX8_fits_50 rfl (lv_at hl 2 rfl) ?_
        refine lv_iconst (v := iZ 1) hx hb dX8_fits_51 (by decide) ?_
        refine z_isub hx hb dX8_fits_52 ?_
        refine z_Vi (As := [.int (iZ (i - 1))]) (rest := [.int (iZ (pg i))]) hC (c_X6_letterAt l D cI cJ cB xp xpc pg n (i - 1) (by first | assumption | omega) (by first | assumption | omega)) 1 gX8_fits_X6_letterAt rfl rfl rfl ⟨rfl, qX6_letterAt⟩ ⟨Nat.le_of_ble_eq_true rfl, Nat.le_of_ble_eq_true rfl⟩ ⟨Nat.le_refl _, Nat.le_refl _⟩ hK hP hD hS hA [0, 1] rfl (by decide) 0 rfl rfl rfl hl.1 rfl (Nat.le_of_ble_eq_true rfl) dX8_fits_53 (fun z w H locs hq hP hD hS => ?_)
        rcases hq with ⟨rfl, rfl, hc4_0⟩ | ⟨rfl, rfl, hc4_0⟩
        · replace hP : va_P D vwCl [(xp, ob 6 [.ref xpc, .int (iZ n)]), (xpc, aI cI 50 pg)] H := hP
          replace hD : va_D A [(xp, ob 6 [.ref xpc, .int (iZ n)]), (xpc, aI cI 50 pg)] := hD
          refine z_icmp_eq (tgt := 63) hx hb dX8_fits_56 (by decide) (by first | assumption | omega) (by first | assumption | omega) (fun c_56 => ?_) (fun c_56 => ?_)
          · refine lv_iconst (v := iZ 0) hx hb dX8_fits_63 (by decide) ?_
            exact z_zret hx hb hr hlocks hP hD hS dX8_fits_64 (by first | exact Or.inl rfl | exact Or.inr rfl | omega) rfl (by first | exact Or.inl ⟨rfl, rfl, by omega, by first | exact Or.inl ⟨by assumption, by assumption⟩ | exact Or.inr (Or.inl ⟨by assumption, by assumption, by assumption⟩) | exact Or.inr (Or.inr ⟨by omega, by assumption⟩)⟩ | (refine Or.inr ⟨rfl, rfl, fun h => ?_⟩; have h2 := h.2; omega))
          · refine lv_iconst (v := iZ 1) hx hb dX8_fits_59 (by decide) ?_
            refine lv_goto (tgt := 64) hx hb dX8_fits_60 (by decide) ?_
            exact z_zret hx hb hr hlocks hP hD hS dX8_fits_64 (by first | exact Or.inl rfl | exact Or.inr rfl | omega) rfl (by first | exact Or.inl ⟨rfl, rfl, by omega, by first | exact Or.inl ⟨by assumption, by assumption⟩ | exact Or.inr (Or.inl ⟨by assumption, by assumption, by assumption⟩) | exact Or.inr (Or.inr ⟨by omega, by assumption⟩)⟩ | (refine Or.inr ⟨rfl, rfl, fun h => ?_⟩; have h2 := h.2; omega))
        · exfalso; omega
      · replace hP : va_P D vwCl [(xp, ob 6 [.ref xpc, .int (iZ n)]), (xpc, aI cI 50 pg)] H := hP
        replace hD : va_D A [(xp, ob 6 [.ref xpc, .int (iZ n)]), (xpc, aI cI 50 pg)] := hD
        refine z_if_eq (tgt := 63) hx hb dX8_fits_45 (by decide) (by first | assumption | omega) (fun _ => ?_) (fun h => absurd h (by decide))
        refine lv_iconst (v := iZ 0) hx hb dX8_fits_63 (by decide) ?_
        exact z_zret hx hb hr hlocks hP hD hS dX8_fits_64 (by first | exact Or.inl rfl | exact Or.inr rfl | omega) rfl (by first | exact Or.inl ⟨rfl, rfl, by omega, by first | exact Or.inl ⟨by assumption, by assumption⟩ | exact Or.inr (Or.inl ⟨by assumption, by assumption, by assumption⟩) | exact Or.inr (Or.inr ⟨by omega, by assumption⟩)⟩ | (refine Or.inr ⟨rfl, rfl, fun h => ?_⟩; have h2 := h.2; omega))
    refine z_look (tgt := 65) (off := 56) hx hb dX8_fits_9 rfl (by first | assumption | omega) (by show Op.lookupswitch.offset [(0, 27), (1, 32)] 56 _ = _; rw [Op.lookupswitch.offset_cons, if_neg (by omega)]; rw [Op.lookupswitch.offset_cons, if_neg (by omega)]; rfl) (by decide) ?_
    refine lv_iload_n hx hb dX8_fits_65 rfl (lv_at hl 0 rfl) ?_
    refine lv_bipush (v := iZ 44) hx hb dX8_fits_66 (by decide) ?_
    refine z_icmp_ne (tgt := 75) hx hb dX8_fits_68 (by decide) (by first | assumption | omega) (by first | assumption | omega) (fun c_68 => ?_) (fun c_68 => ?_)
    · refine lv_iconst (v := iZ 0) hx hb dX8_fits_75 (by decide) ?_
      exact z_zret hx hb hr hlocks hP hD hS dX8_fits_76 (by first | exact Or.inl rfl | exact Or.inr rfl | omega) rfl (by first | exact Or.inl ⟨rfl, rfl, by omega, by first | exact Or.inl ⟨by assumption, by assumption⟩ | exact Or.inr (Or.inl ⟨by assumption, by assumption, by assumption⟩) | exact Or.inr (Or.inr ⟨by omega, by assumption⟩)⟩ | (refine Or.inr ⟨rfl, rfl, fun h => ?_⟩; have h2 := h.2; omega))
    · refine lv_iconst (v := iZ 1) hx hb dX8_fits_71 (by decide) ?_
      refine lv_goto (tgt := 76) hx hb dX8_fits_72 (by decide) ?_
      exact z_zret hx hb hr hlocks hP hD hS dX8_fits_76 (by first | exact Or.inl rfl | exact Or.inr rfl | omega) rfl (by first | exact Or.inl ⟨rfl, rfl, by omega, by first | exact Or.inl ⟨by assumption, by assumption⟩ | exact Or.inr (Or.inl ⟨by assumption, by assumption, by assumption⟩) | exact Or.inr (Or.inr ⟨by omega, by assumption⟩)⟩ | (refine Or.inr ⟨rfl, rfl, fun h => ?_⟩; have h2 := h.2; omega))
  · exfalso; omega
theorem qX8_faultIn : yX8_faultIn.cls ≠ "java/lang/invoke/MethodHandle" ∧ yX8_faultIn.cls ≠ "java/lang/invoke/VarHandle" ∧ (parseMethodDescriptor yX8_faultIn.desc).map (fun d => d.parameters.length) = some 1 := by decide +kernel
set_option maxHeartbeats 4000000 in
set_option maxRecDepth 100000 in
theorem c_X8_faultIn (l : Launch) (D : va_G) (cI cJ cB : ClassId) (xp xpc : Nat) (pg : Int → Int) (n : Int) (hn : 0 ≤ n ∧ n ≤ 50) (hpg : ∀ j, 0 ≤ pg j ∧ pg j ≤ 126) : zMi l yX8_faultIn wsX8_faultIn (zRm 3 64) D (zT cI cJ cB) [.ref xp] [(xp, ob 6 [.ref xpc, .int (iZ n)]), (xpc, aI cI 50 pg)] (fun (z : Int) (w : va_W) => (∃ (x : Int), x = z ∧ w = [(xp, ob 6 [.ref xpc, .int (iZ n)]), (xpc, aI cI 50 pg)] ∧ WF n pg x)) := by
  refine z_of (Qc := fun A => zQi D [(xp, ob 6 [.ref xpc, .int (iZ n)]), (xpc, aI cI 50 pg)] A _) (cc := cX8_faultIn) (maxL := 2) (ret := (some .int)) (by decide) rfl (Nat.le_of_ble_eq_true rfl) ?_
  intro p e s m below meth c A ls hx hb hr hts hown hlocks hml hK hP hD hS hA hl
  replace hown : s.vm.findClass RX8 = some m.cls := hown
  have hC : CallFix p m c cX8_faultIn 2 s _ wsX8_faultIn RX8 := ⟨hx, hb, hml, hown, hts⟩
  replace hl : lv_has ls 2 [(0, .ref xp)] := hl
  refine lv_iconst (v := iZ 0) hx hb dX8_faultIn_0 (by decide) ?_
  refine lv_istore_n (lv' := [(1, .int (iZ 0)), (0, .ref xp)]) hx hb dX8_faultIn_1 rfl hl (by decide) rfl (fun ls hl => ?_)
  have lp2 : ∀ fuel : Nat, ∀ (i : Int), (0 ≤ i ∧ i ≤ n) → (allW pg i) → (n - i) < (fuel : Int) → ∀ (H : Heap) (locs : List Loc) (ls : Array Slot), va_P D vwCl [(xp, ob 6 [.ref xpc, .int (iZ n)]), (xpc, aI cI 50 pg)] H → va_D A [(xp, ob 6 [.ref xpc, .int (iZ n)]), (xpc, aI cI 50 pg)] → va_S A s.heap H locs → lv_has ls 2 [(0, .ref xp), (1, .int (iZ i))] → W p l e (zRm 3 64) s m [.ref xp].toArray below meth c H locs 0 0 (MQ below (zQi D [(xp, ob 6 [.ref xpc, .int (iZ n)]), (xpc, aI cI 50 pg)] A (fun (z : Int) (w : va_W) => (∃ (x : Int), x = z ∧ w = [(xp, ob 6 [.ref xpc, .int (iZ n)]), (xpc, aI cI 50 pg)] ∧ WF n pg x))) [.ref xp].toArray s 0 0 A) (F0 m 2 ls []) := by
    intro fuel
    induction fuel with
    | zero => intro i hi hal hmu2; exact absurd hmu2 (by omega)
    | succ fuel ih2 =>
      intro i hi hal hmu2 H locs ls hP hD hS hl
      refine lv_iload_n hx hb dX8_faultIn_2 rfl (lv_at hl 1 rfl) ?_
      refine lv_aload_n hx hb dX8_faultIn_3 rfl (lv_at hl 0 rfl) ?_
      refine z_Vi (As := []) (rest := [.int (iZ i)]) hC (c_X6_length l D cI cJ cB xp xpc n ) 0 gX8_faultIn_X6_length rfl rfl rfl ⟨rfl, qX6_length⟩ ⟨Nat.le_of_ble_eq_true rfl, Nat.le_of_ble_eq_true rfl⟩ ⟨Nat.le_refl _, Nat.le_refl _⟩ hK hP hD hS hA [0] rfl (by decide) 0 rfl rfl rfl hl.1 rfl (Nat.le_of_ble_eq_true rfl) dX8_faultIn_4 (fun z w H locs hq hP hD hS => ?_)
      rcases hq with ⟨rfl, rfl⟩
      replace hP : va_P D vwCl [(xp, ob 6 [.ref xpc, .int (iZ n)]), (xpc, aI cI 50 pg)] H := hP
      replace hD : va_D A [(xp, ob 6 [.ref xpc, .int (iZ n)]), (xpc, aI cI 50 pg)] := hD
      refine z_icmp_ge (tgt := 32) hx hb dX8_faultIn_7 (by decide) (by first | assumption | omega) (by first | assumption | omega) (fun c_7 => ?_) (fun c_7 => ?_)
      · refine lv_aload_n hx hb dX8_faultIn_32 rfl (lv_at hl 0 rfl) ?_
        refine z_Vi (As := []) (rest := []) hC (c_X6_length l D cI cJ cB xp xpc n ) 0 gX8_faultIn_X6_length rfl rfl rfl ⟨rfl, qX6_length⟩ ⟨Nat.le_of_ble_eq_true rfl, Nat.le_of_ble_eq_true rfl⟩ ⟨Nat.le_refl _, Nat.le_refl _⟩ hK hP hD hS hA [0] rfl (by decide) 0 rfl rfl rfl hl.1 rfl (Nat.le_of_ble_eq_true rfl) dX8_faultIn_33 (fun z w H locs hq hP hD hS => ?_)
        rcases hq with ⟨rfl, rfl⟩
        replace hP : va_P D vwCl [(xp, ob 6 [.ref xpc, .int (iZ n)]), (xpc, aI cI 50 pg)] H := hP
        replace hD : va_D A [(xp, ob 6 [.ref xpc, .int (iZ n)]), (xpc, aI cI 50 pg)] := hD
        exact z_iret hx hb hr hlocks hP hD hS dX8_faultIn_36 rfl (by exact ⟨n, rfl, rfl, by omega, by omega, by rw [show n = i from by omega]; exact hal, fun h => absurd h (by omega)⟩)
      · refine lv_iload_n hx hb dX8_faultIn_10 rfl (lv_at hl 1 rfl) ?_
        refine lv_bipush (v := iZ 47) hx hb dX8_faultIn_11 (by decide) ?_
        refine z_icmp_ge (tgt := 24) hx hb dX8_faultIn_13 (by decide) (by first | assumption | omega) (by first | assumption | omega) (fun c_13 => ?_) (fun c_13 => ?_)
        · refine lv_iload_n hx hb dX8_faultIn_24 rfl (lv_at hl 1 rfl) ?_
          exact z_iret hx hb hr hlocks hP hD hS dX8_faultIn_25 rfl (by refine ⟨i, rfl, rfl, by omega, by omega, hal, fun _ hg => ?_⟩; first | contradiction | (have h2 := hg.1; omega))
        · refine lv_aload_n hx hb dX8_faultIn_16 rfl (lv_at hl 0 rfl) ?_
          refine lv_iload_n hx hb dX8_faultIn_17 rfl (lv_at hl 1 rfl) ?_
          refine z_Si (As := [.ref xp, .int (iZ i)]) (rest := []) hC (c_X8_fits l D cI cJ cB xp xpc pg n i (by first | assumption | omega) (by first | assumption | omega) (by first | assumption | omega) (by first | assumption | omega)) 2 gX8_faultIn_X8_fits rfl rfl rfl qX8_fits ⟨Nat.le_of_ble_eq_true rfl, Nat.le_of_ble_eq_true rfl⟩ ⟨Nat.le_refl _, Nat.le_refl _⟩ hK hP hD hS hA [0, 1] rfl (by decide) rfl hl.1 rfl (Nat.le_of_ble_eq_true rfl) dX8_faultIn_18 (fun z w H locs hq hP hD hS => ?_)
          rcases hq with ⟨rfl, rfl, hc3_0⟩ | ⟨rfl, rfl, hc3_0⟩
          · replace hP : va_P D vwCl [(xp, ob 6 [.ref xpc, .int (iZ n)]), (xpc, aI cI 50 pg)] H := hP
            replace hD : va_D A [(xp, ob 6 [.ref xpc, .int (iZ n)]), (xpc, aI cI 50 pg)] := hD
            refine z_if_ne (tgt := 26) hx hb dX8_faultIn_21 (by decide) (by first | assumption | omega) (fun _ => ?_) (fun h => absurd h (by decide))
            refine z_iinc (lv' := [(1, .int (iZ (i + 1))), (0, .ref xp)]) hx hb dX8_faultIn_26 hl (k := 1) rfl (by decide) rfl (fun ls hl => ?_)
            refine lv_goto (tgt := 2) hx hb dX8_faultIn_29 (by decide) ?_
            exact ih2 (i + 1) (by first | assumption | omega) (by exact allW_s hal (by assumption)) (by omega) _ _ _ hP hD hS (lv_sub hl [1, 0] rfl)
          · replace hP : va_P D vwCl [(xp, ob 6 [.ref xpc, .int (iZ n)]), (xpc, aI cI 50 pg)] H := hP
            replace hD : va_D A [(xp, ob 6 [.ref xpc, .int (iZ n)]), (xpc, aI cI 50 pg)] := hD
            refine z_if_ne (tgt := 26) hx hb dX8_faultIn_21 (by decide) (by first | assumption | omega) (fun h => absurd h (by decide)) (fun _ => ?_)
            refine lv_iload_n hx hb dX8_faultIn_24 rfl (lv_at hl 1 rfl) ?_
            exact z_iret hx hb hr hlocks hP hD hS dX8_faultIn_25 rfl (by refine ⟨i, rfl, rfl, by omega, by omega, hal, fun _ hg => ?_⟩; first | contradiction | (have h2 := hg.1; omega))
  exact lp2 ((n - 0 : Int) + 1).toNat 0 (by first | assumption | omega) (by intro j h0 h1; omega) (by omega) _ _ _ hP hD hS (lv_sub hl [1, 0] rfl)
theorem qX8_isWeek : yX8_isWeek.cls ≠ "java/lang/invoke/MethodHandle" ∧ yX8_isWeek.cls ≠ "java/lang/invoke/VarHandle" ∧ (parseMethodDescriptor yX8_isWeek.desc).map (fun d => d.parameters.length) = some 1 := by decide +kernel
set_option maxHeartbeats 4000000 in
set_option maxRecDepth 100000 in
theorem c_X8_isWeek (l : Launch) (D : va_G) (cI cJ cB : ClassId) (xp xpc : Nat) (pg : Int → Int) (n : Int) (hn : 0 ≤ n ∧ n ≤ 50) (hpg : ∀ j, 0 ≤ pg j ∧ pg j ≤ 126) : zMi l yX8_isWeek wsX8_isWeek (zRm 4 85) D (zT cI cJ cB) [.ref xp] [(xp, ob 6 [.ref xpc, .int (iZ n)]), (xpc, aI cI 50 pg)] (fun (z : Int) (w : va_W) => (1 = z ∧ w = [(xp, ob 6 [.ref xpc, .int (iZ n)]), (xpc, aI cI 50 pg)] ∧ WW n pg) ∨ (0 = z ∧ w = [(xp, ob 6 [.ref xpc, .int (iZ n)]), (xpc, aI cI 50 pg)] ∧ ¬ WW n pg)) := by
  refine z_of (Qc := fun A => zQi D [(xp, ob 6 [.ref xpc, .int (iZ n)]), (xpc, aI cI 50 pg)] A _) (cc := cX8_isWeek) (maxL := 2) (ret := (some .boolean)) (by decide) rfl (Nat.le_of_ble_eq_true rfl) ?_
  intro p e s m below meth c A ls hx hb hr hts hown hlocks hml hK hP hD hS hA hl
  replace hown : s.vm.findClass RX8 = some m.cls := hown
  have hC : CallFix p m c cX8_isWeek 2 s _ wsX8_isWeek RX8 := ⟨hx, hb, hml, hown, hts⟩
  replace hl : lv_has ls 2 [(0, .ref xp)] := hl
  refine lv_aload_n hx hb dX8_isWeek_0 rfl (lv_at hl 0 rfl) ?_
  refine z_Vi (As := []) (rest := []) hC (c_X6_length l D cI cJ cB xp xpc n ) 0 gX8_isWeek_X6_length rfl rfl rfl ⟨rfl, qX6_length⟩ ⟨Nat.le_of_ble_eq_true rfl, Nat.le_of_ble_eq_true rfl⟩ ⟨Nat.le_refl _, Nat.le_refl _⟩ hK hP hD hS hA [0] rfl (by decide) 0 rfl rfl rfl hl.1 rfl (Nat.le_of_ble_eq_true rfl) dX8_isWeek_1 (fun z w H locs hq hP hD hS => ?_)
  rcases hq with ⟨rfl, rfl⟩
  replace hP : va_P D vwCl [(xp, ob 6 [.ref xpc, .int (iZ n)]), (xpc, aI cI 50 pg)] H := hP
  replace hD : va_D A [(xp, ob 6 [.ref xpc, .int (iZ n)]), (xpc, aI cI 50 pg)] := hD
  refine lv_istore_n (lv' := [(1, .int (iZ n)), (0, .ref xp)]) hx hb dX8_isWeek_4 rfl hl (by decide) rfl (fun ls hl => ?_)
  refine lv_aload_n hx hb dX8_isWeek_5 rfl (lv_at hl 1 rfl) ?_
  refine z_Si (As := [.ref xp]) (rest := []) hC (c_X8_faultIn l D cI cJ cB xp xpc pg n (by first | assumption | omega) (by first | assumption | omega)) 1 gX8_isWeek_X8_faultIn rfl rfl rfl qX8_faultIn ⟨Nat.le_of_ble_eq_true rfl, Nat.le_of_ble_eq_true rfl⟩ ⟨Nat.le_refl _, Nat.le_refl _⟩ hK hP hD hS hA [0, 1] rfl (by decide) rfl hl.1 rfl (Nat.le_of_ble_eq_true rfl) dX8_isWeek_6 (fun z w H locs hq hP hD hS => ?_)
  rcases hq with ⟨xF, rfl, rfl, hwfF⟩
  replace hP : va_P D vwCl [(xp, ob 6 [.ref xpc, .int (iZ n)]), (xpc, aI cI 50 pg)] H := hP
  replace hD : va_D A [(xp, ob 6 [.ref xpc, .int (iZ n)]), (xpc, aI cI 50 pg)] := hD
  refine lv_iload_n hx hb dX8_isWeek_9 rfl (lv_at hl 0 rfl) ?_
  refine z_icmp_ne (tgt := 24) hx hb dX8_isWeek_10 (by decide) (by first | assumption | omega) (by first | assumption | omega) (fun c_10 => ?_) (fun c_10 => ?_)
  · refine lv_iconst (v := iZ 0) hx hb dX8_isWeek_24 (by decide) ?_
    exact z_zret hx hb hr hlocks hP hD hS dX8_isWeek_25 (by first | exact Or.inl rfl | exact Or.inr rfl | omega) rfl (by first | exact Or.inl ⟨rfl, rfl, by have e9 : xF = n := (by omega); rw [e9] at hwfF; exact hwfF.2.2.1, by omega⟩ | (refine Or.inr ⟨rfl, rfl, fun h => ?_⟩; first | (have h2 := h.2; omega) | (refine hwfF.2.2.2 (by omega) (h.1 _ hwfF.1 (by omega)))))
  · refine lv_iload_n hx hb dX8_isWeek_13 rfl (lv_at hl 0 rfl) ?_
    refine lv_iconst (v := iZ 3) hx hb dX8_isWeek_14 (by decide) ?_
    refine z_irem hx hb dX8_isWeek_15 (by first | assumption | omega) (by first | assumption | omega) ?_
    refine lv_iconst (v := iZ 2) hx hb dX8_isWeek_16 (by decide) ?_
    refine z_icmp_ne (tgt := 24) hx hb dX8_isWeek_17 (by decide) (by first | assumption | omega) (by first | assumption | omega) (fun c_17 => ?_) (fun c_17 => ?_)
    · refine lv_iconst (v := iZ 0) hx hb dX8_isWeek_24 (by decide) ?_
      exact z_zret hx hb hr hlocks hP hD hS dX8_isWeek_25 (by first | exact Or.inl rfl | exact Or.inr rfl | omega) rfl (by first | exact Or.inl ⟨rfl, rfl, by have e9 : xF = n := (by omega); rw [e9] at hwfF; exact hwfF.2.2.1, by omega⟩ | (refine Or.inr ⟨rfl, rfl, fun h => ?_⟩; first | (have h2 := h.2; omega) | (refine hwfF.2.2.2 (by omega) (h.1 _ hwfF.1 (by omega)))))
    · refine lv_iconst (v := iZ 1) hx hb dX8_isWeek_20 (by decide) ?_
      refine lv_goto (tgt := 25) hx hb dX8_isWeek_21 (by decide) ?_
      exact z_zret hx hb hr hlocks hP hD hS dX8_isWeek_25 (by first | exact Or.inl rfl | exact Or.inr rfl | omega) rfl (by first | exact Or.inl ⟨rfl, rfl, by have e9 : xF = n := (by omega); rw [e9] at hwfF; exact hwfF.2.2.1, by omega⟩ | (refine Or.inr ⟨rfl, rfl, fun h => ?_⟩; first | (have h2 := h.2; omega) | (refine hwfF.2.2.2 (by omega) (h.1 _ hwfF.1 (by omega)))))
theorem qX8_read : yX8_read.cls ≠ "java/lang/invoke/MethodHandle" ∧ yX8_read.cls ≠ "java/lang/invoke/VarHandle" ∧ (parseMethodDescriptor yX8_read.desc).map (fun d => d.parameters.length) = some 1 := by decide +kernel
set_option maxHeartbeats 4000000 in
set_option maxRecDepth 100000 in
theorem c_X8_read (l : Launch) (D : va_G) (cI cJ cB : ClassId) (xp xpc xw xwt xwo : Nat) (pg tt to : Int → Int) (n tn wr : Int) (hn : 0 ≤ n ∧ n ≤ 50) (hpg : ∀ j, 0 ≤ pg j ∧ pg j ≤ 126) (htt : ∀ j, 0 ≤ tt j ∧ tt j ≤ 7) (hto : ∀ j, 0 ≤ to j ∧ to j ≤ 7) (hww : WW n pg) : zMv l yX8_read wsX8_read (zRm 1 21) D (zT cI cJ cB) [.ref xw, .ref xp] [(xp, ob 6 [.ref xpc, .int (iZ n)]), (xpc, aI cI 50 pg), (xw, ob 8 [.ref xwt, .ref xwo, .int (iZ tn), .int (iZ wr)]), (xwt, aI cI 16 tt), (xwo, aI cI 16 to)] (fun (w : va_W) => (∃ (tt2 to2 : Int → Int), w = [(xp, ob 6 [.ref xpc, .int (iZ n)]), (xpc, aI cI 50 pg), (xw, ob 8 [.ref xwt, .ref xwo, .int (iZ ((n + 1) / 3)), .int (iZ (wr + 1))]), (xwt, aI cI 16 tt2), (xwo, aI cI 16 to2)] ∧ (∀ k, 0 ≤ k → k < (n + 1) / 3 → tt2 k = pg (3 * k) - 48 ∧ to2 k = pg (3 * k + 1) - 48) ∧ (∀ j, 0 ≤ tt2 j ∧ tt2 j ≤ 7) ∧ (∀ j, 0 ≤ to2 j ∧ to2 j ≤ 7))) := by
  refine z_of (Qc := fun A => zQv D [(xp, ob 6 [.ref xpc, .int (iZ n)]), (xpc, aI cI 50 pg), (xw, ob 8 [.ref xwt, .ref xwo, .int (iZ tn), .int (iZ wr)]), (xwt, aI cI 16 tt), (xwo, aI cI 16 to)] A _) (cc := cX8_read) (maxL := 3) (ret := none) (by decide) rfl (Nat.le_of_ble_eq_true rfl) ?_
  intro p e s m below meth c A ls hx hb hr hts hown hlocks hml hK hP hD hS hA hl
  replace hown : s.vm.findClass RX8 = some m.cls := hown
  have hC : CallFix p m c cX8_read 3 s _ wsX8_read RX8 := ⟨hx, hb, hml, hown, hts⟩
  replace hl : lv_has ls 3 [(0, .ref xw), (1, .ref xp)] := hl
  have iwX8 : ∀ w ∈ u_ws RX8 TX8 4, w ∈ wsX8_read := fun w h => List.mem_cons_of_mem _ (List.mem_append_left _ (List.mem_append_right _ h))
  have fl11 : Cond.fieldLink RX8 11 "GrowsByHalf$Week" "tellers" "[I" ∈ wsX8_read := by decide +kernel
  have fl15 : Cond.fieldLink RX8 15 "GrowsByHalf$Week" "told" "[I" ∈ wsX8_read := by decide +kernel
  have fl44 : Cond.fieldLink RX8 44 "GrowsByHalf$Week" "tellings" "I" ∈ wsX8_read := by decide +kernel
  have fl48 : Cond.fieldLink RX8 48 "GrowsByHalf$Week" "readings" "I" ∈ wsX8_read := by decide +kernel
  have hnn := WW_le hww hn.1
  refine lv_aload_n hx hb dX8_read_0 rfl (lv_at hl 0 rfl) ?_
  refine lv_iconst (v := iZ 0) hx hb dX8_read_1 (by decide) ?_
  refine z_put (C := RX8) (T0 := TX8) (N := 4) (ci := 8) (v := .int (iZ 0)) hx hb hts hown hK hP hD hS iwX8 tyX8_ok nmX8 rfl 2 rfl 2 (by decide) fl44 rfl rfl rfl (Nat.le_of_ble_eq_true rfl) dX8_read_2 (fun H locs hP hD hS => ?_)
  replace hP : va_P D vwCl [(xp, ob 6 [.ref xpc, .int (iZ n)]), (xpc, aI cI 50 pg), (xw, ob 8 [.ref xwt, .ref xwo, .int (iZ 0), .int (iZ wr)]), (xwt, aI cI 16 tt), (xwo, aI cI 16 to)] H := hP
  replace hD : va_D A [(xp, ob 6 [.ref xpc, .int (iZ n)]), (xpc, aI cI 50 pg), (xw, ob 8 [.ref xwt, .ref xwo, .int (iZ 0), .int (iZ wr)]), (xwt, aI cI 16 tt), (xwo, aI cI 16 to)] := hD
  refine lv_iconst (v := iZ 0) hx hb dX8_read_5 (by decide) ?_
  refine lv_istore_n (lv' := [(2, .int (iZ 0)), (0, .ref xw), (1, .ref xp)]) hx hb dX8_read_6 rfl hl (by decide) rfl (fun ls hl => ?_)
  have lp7 : ∀ fuel : Nat, ∀ (i k : Int) (tt1 to1 : Int → Int), (0 ≤ k ∧ 3 * k ≤ n + 1) → (i = 3 * k) → (∀ j, 0 ≤ j → j < k → tt1 j = pg (3 * j) - 48 ∧ to1 j = pg (3 * j + 1) - 48) → (∀ j, 0 ≤ tt1 j ∧ tt1 j ≤ 7) → (∀ j, 0 ≤ to1 j ∧ to1 j ≤ 7) → (n + 1 - i) < (fuel : Int) → ∀ (H : Heap) (locs : List Loc) (ls : Array Slot), va_P D vwCl [(xp, ob 6 [.ref xpc, .int (iZ n)]), (xpc, aI cI 50 pg), (xw, ob 8 [.ref xwt, .ref xwo, .int (iZ k), .int (iZ wr)]), (xwt, aI cI 16 tt1), (xwo, aI cI 16 to1)] H → va_D A [(xp, ob 6 [.ref xpc, .int (iZ n)]), (xpc, aI cI 50 pg), (xw, ob 8 [.ref xwt, .ref xwo, .int (iZ k), .int (iZ wr)]), (xwt, aI cI 16 tt1), (xwo, aI cI 16 to1)] → va_S A s.heap H locs → lv_has ls 3 [(0, .ref xw), (1, .ref xp), (2, .int (iZ i))] → W p l e (zRm 1 21) s m [.ref xw, .ref xp].toArray below meth c H locs 0 0 (MQ below (zQv D [(xp, ob 6 [.ref xpc, .int (iZ n)]), (xpc, aI cI 50 pg), (xw, ob 8 [.ref xwt, .ref xwo, .int (iZ tn), .int (iZ wr)]), (xwt, aI cI 16 tt), (xwo, aI cI 16 to)] A (fun (w : va_W) => (∃ (tt2 to2 : Int → Int), w = [(xp, ob 6 [.ref xpc, .int (iZ n)]), (xpc, aI cI 50 pg), (xw, ob 8 [.ref xwt, .ref xwo, .int (iZ ((n + 1) / 3)), .int (iZ (wr + 1))]), (xwt, aI cI 16 tt2), (xwo, aI cI 16 to2)] ∧ (∀ k, 0 ≤ k → k < (n + 1) / 3 → tt2 k = pg (3 * k) - 48 ∧ to2 k = pg (3 * k + 1) - 48) ∧ (∀ j, 0 ≤ tt2 j ∧ tt2 j ≤ 7) ∧ (∀ j, 0 ≤ to2 j ∧ to2 j ≤ 7)))) [.ref xw, .ref xp].toArray s 0 0 A) (F0 m 7 ls []) := by
    intro fuel
    induction fuel with
    | zero => intro i k tt1 to1 hk hik hwk hwt hwo hmu7; exact absurd hmu7 (by omega)
    | succ fuel ih7 =>
      intro i k tt1 to1 hk hik hwk hwt hwo hmu7 H locs ls hP hD hS hl
      refine lv_iload_n hx hb dX8_read_7 rfl (lv_at hl 2 rfl) ?_
      refine lv_aload_n hx hb dX8_read_8 rfl (lv_at hl 1 rfl) ?_
      refine z_Vi (As := []) (rest := [.int (iZ i)]) hC (c_X6_length l D cI cJ cB xp xpc n ) 0 gX8_read_X6_length rfl rfl rfl ⟨rfl, qX6_length⟩ ⟨Nat.le_of_ble_eq_true rfl, Nat.le_of_ble_eq_true rfl⟩ ⟨Nat.le_refl _, Nat.le_refl _⟩ hK hP hD hS hA [0] rfl (by decide) 0 rfl rfl rfl hl.1 rfl (Nat.le_of_ble_eq_true rfl) dX8_read_9 (fun z w H locs hq hP hD hS => ?_)
      rcases hq with ⟨rfl, rfl⟩
      replace hP : va_P D vwCl [(xp, ob 6 [.ref xpc, .int (iZ n)]), (xpc, aI cI 50 pg), (xw, ob 8 [.ref xwt, .ref xwo, .int (iZ k), .int (iZ wr)]), (xwt, aI cI 16 tt1), (xwo, aI cI 16 to1)] H := hP
      replace hD : va_D A [(xp, ob 6 [.ref xpc, .int (iZ n)]), (xpc, aI cI 50 pg), (xw, ob 8 [.ref xwt, .ref xwo, .int (iZ k), .int (iZ wr)]), (xwt, aI cI 16 tt1), (xwo, aI cI 16 to1)] := hD
      refine z_icmp_ge (tgt := 76) hx hb dX8_read_12 (by decide) (by first | assumption | omega) (by first | assumption | omega) (fun c_12 => ?_) (fun c_12 => ?_)
      · refine lv_aload_n hx hb dX8_read_76 rfl (lv_at hl 0 rfl) ?_
        refine lv_dup hx hb dX8_read_77 rfl ?_
        refine z_get (C := RX8) (T0 := TX8) (N := 4) (ci := 8) (v := .int (iZ wr)) hx hb hts hown hK hP iwX8 rfl 2 rfl 3 (by decide) fl48 rfl dX8_read_78 ?_
        refine lv_iconst (v := iZ 1) hx hb dX8_read_81 (by decide) ?_
        refine z_iadd hx hb dX8_read_82 ?_
        refine z_put (C := RX8) (T0 := TX8) (N := 4) (ci := 8) (v := .int (iZ (wr + 1))) hx hb hts hown hK hP hD hS iwX8 tyX8_ok nmX8 rfl 2 rfl 3 (by decide) fl48 rfl rfl rfl (Nat.le_of_ble_eq_true rfl) dX8_read_83 (fun H locs hP hD hS => ?_)
        replace hP : va_P D vwCl [(xp, ob 6 [.ref xpc, .int (iZ n)]), (xpc, aI cI 50 pg), (xw, ob 8 [.ref xwt, .ref xwo, .int (iZ k), .int (iZ (wr + 1))]), (xwt, aI cI 16 tt1), (xwo, aI cI 16 to1)] H := hP
        replace hD : va_D A [(xp, ob 6 [.ref xpc, .int (iZ n)]), (xpc, aI cI 50 pg), (xw, ob 8 [.ref xwt, .ref xwo, .int (iZ k), .int (iZ (wr + 1))]), (xwt, aI cI 16 tt1), (xwo, aI cI 16 to1)] := hD
        exact z_vret hx hb hr hlocks hP hD hS dX8_read_86 rfl (by have ek : k = (n + 1) / 3 := (by omega); rw [← ek]; exact ⟨tt1, to1, rfl, hwk, hwt, hwo⟩)
      · have hpa := WW_at hww (k := k) (by omega) (by omega)
        rw [← hik] at hpa
        refine lv_aload_n hx hb dX8_read_15 rfl (lv_at hl 0 rfl) ?_
        refine z_get (C := RX8) (T0 := TX8) (N := 4) (ci := 8) (v := .int (iZ k)) hx hb hts hown hK hP iwX8 rfl 2 rfl 2 (by decide) fl44 rfl dX8_read_16 ?_
        refine lv_bipush (v := iZ 16) hx hb dX8_read_19 (by decide) ?_
        refine z_icmp_ge (tgt := 76) hx hb dX8_read_21 (by decide) (by first | assumption | omega) (by first | assumption | omega) (fun c_21 => ?_) (fun c_21 => ?_)
        · refine lv_aload_n hx hb dX8_read_76 rfl (lv_at hl 0 rfl) ?_
          refine lv_dup hx hb dX8_read_77 rfl ?_
          refine z_get (C := RX8) (T0 := TX8) (N := 4) (ci := 8) (v := .int (iZ wr)) hx hb hts hown hK hP iwX8 rfl 2 rfl 3 (by decide) fl48 rfl dX8_read_78 ?_
          refine lv_iconst (v := iZ 1) hx hb dX8_read_81 (by decide) ?_
          refine z_iadd hx hb dX8_read_82 ?_
          refine z_put (C := RX8) (T0 := TX8) (N := 4) (ci := 8) (v := .int (iZ (wr + 1))) hx hb hts hown hK hP hD hS iwX8 tyX8_ok nmX8 rfl 2 rfl 3 (by decide) fl48 rfl rfl rfl (Nat.le_of_ble_eq_true rfl) dX8_read_83 (fun H locs hP hD hS => ?_)
          replace hP : va_P D vwCl [(xp, ob 6 [.ref xpc, .int (iZ n)]), (xpc, aI cI 50 pg), (xw, ob 8 [.ref xwt, .ref xwo, .int (iZ k), .int (iZ (wr + 1))]), (xwt, aI cI 16 tt1), (xwo, aI cI 16 to1)] H := hP
          replace hD : va_D A [(xp, ob 6 [.ref xpc, .int (iZ n)]), (xpc, aI cI 50 pg), (xw, ob 8 [.ref xwt, .ref xwo, .int (iZ k), .int (iZ (wr + 1))]), (xwt, aI cI 16 tt1), (xwo, aI cI 16 to1)] := hD
          exact z_vret hx hb hr hlocks hP hD hS dX8_read_86 rfl (by have ek : k = (n + 1) / 3 := (by omega); rw [← ek]; exact ⟨tt1, to1, rfl, hwk, hwt, hwo⟩)
        · refine lv_aload_n hx hb dX8_read_24 rfl (lv_at hl 0 rfl) ?_
          refine z_get (C := RX8) (T0 := TX8) (N := 4) (ci := 8) (v := .ref xwt) hx hb hts hown hK hP iwX8 rfl 2 rfl 0 (by decide) fl11 rfl dX8_read_25 ?_
          refine lv_aload_n hx hb dX8_read_28 rfl (lv_at hl 0 rfl) ?_
          refine z_get (C := RX8) (T0 := TX8) (N := 4) (ci := 8) (v := .int (iZ k)) hx hb hts hown hK hP iwX8 rfl 2 rfl 2 (by decide) fl44 rfl dX8_read_29 ?_
          refine lv_aload_n hx hb dX8_read_32 rfl (lv_at hl 1 rfl) ?_
          refine lv_iload_n hx hb dX8_read_33 rfl (lv_at hl 2 rfl) ?_
          refine z_Vi (As := [.int (iZ i)]) (rest := [.int (iZ k), .ref xwt]) hC (c_X6_letterAt l D cI cJ cB xp xpc pg n i (by first | assumption | omega) (by first | assumption | omega)) 1 gX8_read_X6_letterAt rfl rfl rfl ⟨rfl, qX6_letterAt⟩ ⟨Nat.le_of_ble_eq_true rfl, Nat.le_of_ble_eq_true rfl⟩ ⟨Nat.le_refl _, Nat.le_refl _⟩ hK hP hD hS hA [0, 1] rfl (by decide) 0 rfl rfl rfl hl.1 rfl (Nat.le_of_ble_eq_true rfl) dX8_read_34 (fun z w H locs hq hP hD hS => ?_)
          rcases hq with ⟨rfl, rfl, hc2_0⟩ | ⟨rfl, rfl, hc2_0⟩
          · replace hP : va_P D vwCl [(xp, ob 6 [.ref xpc, .int (iZ n)]), (xpc, aI cI 50 pg), (xw, ob 8 [.ref xwt, .ref xwo, .int (iZ k), .int (iZ wr)]), (xwt, aI cI 16 tt1), (xwo, aI cI 16 to1)] H := hP
            replace hD : va_D A [(xp, ob 6 [.ref xpc, .int (iZ n)]), (xpc, aI cI 50 pg), (xw, ob 8 [.ref xwt, .ref xwo, .int (iZ k), .int (iZ wr)]), (xwt, aI cI 16 tt1), (xwo, aI cI 16 to1)] := hD
            refine lv_bipush (v := iZ 48) hx hb dX8_read_37 (by decide) ?_
            refine z_isub hx hb dX8_read_39 ?_
            refine z_iast hx hb hK hP hD hS 3 0 rfl rfl (by decide) (by first | assumption | omega) dX8_read_40 (fun H locs hP hD hS => ?_)
            replace hP : va_P D vwCl [(xp, ob 6 [.ref xpc, .int (iZ n)]), (xpc, aI cI 50 pg), (xw, ob 8 [.ref xwt, .ref xwo, .int (iZ k), .int (iZ wr)]), (xwt, aI cI 16 (zu tt1 k ((pg i) - 48))), (xwo, aI cI 16 to1)] H := hP
            replace hD : va_D A [(xp, ob 6 [.ref xpc, .int (iZ n)]), (xpc, aI cI 50 pg), (xw, ob 8 [.ref xwt, .ref xwo, .int (iZ k), .int (iZ wr)]), (xwt, aI cI 16 (zu tt1 k ((pg i) - 48))), (xwo, aI cI 16 to1)] := hD
            refine lv_aload_n hx hb dX8_read_41 rfl (lv_at hl 0 rfl) ?_
            refine z_get (C := RX8) (T0 := TX8) (N := 4) (ci := 8) (v := .ref xwo) hx hb hts hown hK hP iwX8 rfl 2 rfl 1 (by decide) fl15 rfl dX8_read_42 ?_
            refine lv_aload_n hx hb dX8_read_45 rfl (lv_at hl 0 rfl) ?_
            refine z_get (C := RX8) (T0 := TX8) (N := 4) (ci := 8) (v := .int (iZ k)) hx hb hts hown hK hP iwX8 rfl 2 rfl 2 (by decide) fl44 rfl dX8_read_46 ?_
            refine lv_aload_n hx hb dX8_read_49 rfl (lv_at hl 1 rfl) ?_
            refine lv_iload_n hx hb dX8_read_50 rfl (lv_at hl 2 rfl) ?_
            refine lv_iconst (v := iZ 1) hx hb dX8_read_51 (by decide) ?_
            refine z_iadd hx hb dX8_read_52 ?_
            refine z_Vi (As := [.int (iZ (i + 1))]) (rest := [.int (iZ k), .ref xwo]) hC (c_X6_letterAt l D cI cJ cB xp xpc pg n (i + 1) (by first | assumption | omega) (by first | assumption | omega)) 1 gX8_read_X6_letterAt rfl rfl rfl ⟨rfl, qX6_letterAt⟩ ⟨Nat.le_of_ble_eq_true rfl, Nat.le_of_ble_eq_true rfl⟩ ⟨Nat.le_refl _, Nat.le_refl _⟩ hK hP hD hS hA [0, 1] rfl (by decide) 0 rfl rfl rfl hl.1 rfl (Nat.le_of_ble_eq_true rfl) dX8_read_53 (fun z w H locs hq hP hD hS => ?_)
            rcases hq with ⟨rfl, rfl, hc3_0⟩ | ⟨rfl, rfl, hc3_0⟩
            · replace hP : va_P D vwCl [(xp, ob 6 [.ref xpc, .int (iZ n)]), (xpc, aI cI 50 pg), (xw, ob 8 [.ref xwt, .ref xwo, .int (iZ k), .int (iZ wr)]), (xwt, aI cI 16 (zu tt1 k ((pg i) - 48))), (xwo, aI cI 16 to1)] H := hP
              replace hD : va_D A [(xp, ob 6 [.ref xpc, .int (iZ n)]), (xpc, aI cI 50 pg), (xw, ob 8 [.ref xwt, .ref xwo, .int (iZ k), .int (iZ wr)]), (xwt, aI cI 16 (zu tt1 k ((pg i) - 48))), (xwo, aI cI 16 to1)] := hD
              refine lv_bipush (v := iZ 48) hx hb dX8_read_56 (by decide) ?_
              refine z_isub hx hb dX8_read_58 ?_
              refine z_iast hx hb hK hP hD hS 4 0 rfl rfl (by decide) (by first | assumption | omega) dX8_read_59 (fun H locs hP hD hS => ?_)
              replace hP : va_P D vwCl [(xp, ob 6 [.ref xpc, .int (iZ n)]), (xpc, aI cI 50 pg), (xw, ob 8 [.ref xwt, .ref xwo, .int (iZ k), .int (iZ wr)]), (xwt, aI cI 16 (zu tt1 k ((pg i) - 48))), (xwo, aI cI 16 (zu to1 k ((pg (i + 1)) - 48)))] H := hP
              replace hD : va_D A [(xp, ob 6 [.ref xpc, .int (iZ n)]), (xpc, aI cI 50 pg), (xw, ob 8 [.ref xwt, .ref xwo, .int (iZ k), .int (iZ wr)]), (xwt, aI cI 16 (zu tt1 k ((pg i) - 48))), (xwo, aI cI 16 (zu to1 k ((pg (i + 1)) - 48)))] := hD
              refine lv_aload_n hx hb dX8_read_60 rfl (lv_at hl 0 rfl) ?_
              refine lv_dup hx hb dX8_read_61 rfl ?_
              refine z_get (C := RX8) (T0 := TX8) (N := 4) (ci := 8) (v := .int (iZ k)) hx hb hts hown hK hP iwX8 rfl 2 rfl 2 (by decide) fl44 rfl dX8_read_62 ?_
              refine lv_iconst (v := iZ 1) hx hb dX8_read_65 (by decide) ?_
              refine z_iadd hx hb dX8_read_66 ?_
              refine z_put (C := RX8) (T0 := TX8) (N := 4) (ci := 8) (v := .int (iZ (k + 1))) hx hb hts hown hK hP hD hS iwX8 tyX8_ok nmX8 rfl 2 rfl 2 (by decide) fl44 rfl rfl rfl (Nat.le_of_ble_eq_true rfl) dX8_read_67 (fun H locs hP hD hS => ?_)
              replace hP : va_P D vwCl [(xp, ob 6 [.ref xpc, .int (iZ n)]), (xpc, aI cI 50 pg), (xw, ob 8 [.ref xwt, .ref xwo, .int (iZ (k + 1)), .int (iZ wr)]), (xwt, aI cI 16 (zu tt1 k ((pg i) - 48))), (xwo, aI cI 16 (zu to1 k ((pg (i + 1)) - 48)))] H := hP
              replace hD : va_D A [(xp, ob 6 [.ref xpc, .int (iZ n)]), (xpc, aI cI 50 pg), (xw, ob 8 [.ref xwt, .ref xwo, .int (iZ (k + 1)), .int (iZ wr)]), (xwt, aI cI 16 (zu tt1 k ((pg i) - 48))), (xwo, aI cI 16 (zu to1 k ((pg (i + 1)) - 48)))] := hD
              refine z_iinc (lv' := [(2, .int (iZ (i + 3))), (0, .ref xw), (1, .ref xp)]) hx hb dX8_read_70 hl (k := 2) rfl (by decide) rfl (fun ls hl => ?_)
              refine lv_goto (tgt := 7) hx hb dX8_read_73 (by decide) ?_
              exact ih7 (i + 3) (k + 1) (zu tt1 k ((pg i) - 48)) (zu to1 k ((pg (i + 1)) - 48)) (by first | assumption | omega) (by first | assumption | omega) (by intro j h1 h2; rw [zu_at, zu_at]; split; (rename_i hj; rw [hj, ← hik]; exact ⟨rfl, rfl⟩); exact hwk j h1 (by omega)) (by exact zu_all (P := fun z => 0 ≤ z ∧ z ≤ 7) hwt (by omega)) (by exact zu_all (P := fun z => 0 ≤ z ∧ z ≤ 7) hwo (by omega)) (by omega) _ _ _ hP hD hS (lv_sub hl [1, 2, 0] rfl)
            · exfalso; omega
          · exfalso; omega
  exact lp7 ((n + 1 - 0 : Int) + 1).toNat 0 0 tt to (by first | assumption | omega) (by first | assumption | omega) (by intro j h1 h2; omega) (by assumption) (by assumption) (by omega) _ _ _ hP hD hS (lv_sub hl [1, 2, 0] rfl)
theorem qX0_clear : yX0_clear.cls ≠ "java/lang/invoke/MethodHandle" ∧ yX0_clear.cls ≠ "java/lang/invoke/VarHandle" ∧ (parseMethodDescriptor yX0_clear.desc).map (fun d => d.parameters.length) = some 0 := by decide +kernel
set_option maxHeartbeats 4000000 in
set_option maxRecDepth 100000 in
theorem c_X0_clear (l : Launch) (D : va_G) (cI cJ cB : ClassId) (xa xal xar xam : Nat) (la ra ma : Int → Int) : zMv l yX0_clear wsX0_clear (zRm 1 23) D (zT cI cJ cB) [.ref xa] [(xa, ob 0 [.ref xal, .ref xar, .ref xam]), (xal, aI cI 8 la), (xar, aI cI 8 ra), (xam, aI cI 8 ma)] (fun (w : va_W) => w = [(xa, ob 0 [.ref xal, .ref xar, .ref xam]), (xal, aI cI 8 (fun _ => -1)), (xar, aI cI 8 (fun _ => 0)), (xam, aI cI 8 (fun _ => 0))]) := by
  refine z_of (Qc := fun A => zQv D [(xa, ob 0 [.ref xal, .ref xar, .ref xam]), (xal, aI cI 8 la), (xar, aI cI 8 ra), (xam, aI cI 8 ma)] A _) (cc := cX0_clear) (maxL := 1) (ret := none) (by decide) rfl (Nat.le_of_ble_eq_true rfl) ?_
  intro p e s m below meth c A ls hx hb hr hts hown hlocks hml hK hP hD hS hA hl
  replace hown : s.vm.findClass RX0 = some m.cls := hown
  have hC : CallFix p m c cX0_clear 1 s _ wsX0_clear RX0 := ⟨hx, hb, hml, hown, hts⟩
  replace hl : lv_has ls 1 [(0, .ref xa)] := hl
  have iwX0 : ∀ w ∈ u_ws RX0 TX0 3, w ∈ wsX0_clear := fun w h => List.mem_cons_of_mem _ (List.mem_append_right _ h)
  have fl9 : Cond.fieldLink RX0 9 "GrowsByHalf$Alike" "last" "[I" ∈ wsX0_clear := by decide +kernel
  have fl15 : Cond.fieldLink RX0 15 "GrowsByHalf$Alike" "run" "[I" ∈ wsX0_clear := by decide +kernel
  have fl18 : Cond.fieldLink RX0 18 "GrowsByHalf$Alike" "most" "[I" ∈ wsX0_clear := by decide +kernel
  refine lv_aload_n hx hb dX0_clear_0 rfl (lv_at hl 0 rfl) ?_
  refine z_get (C := RX0) (T0 := TX0) (N := 3) (ci := 0) (v := .ref xal) hx hb hts hown hK hP iwX0 rfl 0 rfl 0 (by decide) fl9 rfl dX0_clear_1 ?_
  refine lv_iconst (v := iZ (-1)) hx hb dX0_clear_4 (by decide) ?_
  refine z_Sv (As := [.ref xal, .int (iZ (-1))]) (rest := []) hC (c_J7_fill_53178 l D cI cJ cB xal 8 la (-1) (by first | assumption | omega)) 2 gX0_clear_J7_fill_53178 rfl rfl rfl qJ7_fill_53178 ⟨Nat.le_of_ble_eq_true rfl, Nat.le_of_ble_eq_true rfl⟩ ⟨Nat.le_refl _, Nat.le_refl _⟩ hK hP hD hS hA [1] rfl (by decide) rfl hl.1 rfl (Nat.le_of_ble_eq_true rfl) dX0_clear_5 (fun w H locs hq hP hD hS => ?_)
  rcases hq with rfl
  replace hP : va_P D vwCl [(xa, ob 0 [.ref xal, .ref xar, .ref xam]), (xal, aI cI 8 (fun _ => (-1))), (xar, aI cI 8 ra), (xam, aI cI 8 ma)] H := hP
  replace hD : va_D A [(xa, ob 0 [.ref xal, .ref xar, .ref xam]), (xal, aI cI 8 (fun _ => (-1))), (xar, aI cI 8 ra), (xam, aI cI 8 ma)] := hD
  refine lv_aload_n hx hb dX0_clear_8 rfl (lv_at hl 0 rfl) ?_
  refine z_get (C := RX0) (T0 := TX0) (N := 3) (ci := 0) (v := .ref xar) hx hb hts hown hK hP iwX0 rfl 0 rfl 1 (by decide) fl15 rfl dX0_clear_9 ?_
  refine lv_iconst (v := iZ 0) hx hb dX0_clear_12 (by decide) ?_
  refine z_Sv (As := [.ref xar, .int (iZ 0)]) (rest := []) hC (c_J7_fill_53178 l D cI cJ cB xar 8 ra 0 (by first | assumption | omega)) 2 gX0_clear_J7_fill_53178 rfl rfl rfl qJ7_fill_53178 ⟨Nat.le_of_ble_eq_true rfl, Nat.le_of_ble_eq_true rfl⟩ ⟨Nat.le_refl _, Nat.le_refl _⟩ hK hP hD hS hA [2] rfl (by decide) rfl hl.1 rfl (Nat.le_of_ble_eq_true rfl) dX0_clear_13 (fun w H locs hq hP hD hS => ?_)
  rcases hq with rfl
  replace hP : va_P D vwCl [(xa, ob 0 [.ref xal, .ref xar, .ref xam]), (xal, aI cI 8 (fun _ => (-1))), (xar, aI cI 8 (fun _ => 0)), (xam, aI cI 8 ma)] H := hP
  replace hD : va_D A [(xa, ob 0 [.ref xal, .ref xar, .ref xam]), (xal, aI cI 8 (fun _ => (-1))), (xar, aI cI 8 (fun _ => 0)), (xam, aI cI 8 ma)] := hD
  refine lv_aload_n hx hb dX0_clear_16 rfl (lv_at hl 0 rfl) ?_
  refine z_get (C := RX0) (T0 := TX0) (N := 3) (ci := 0) (v := .ref xam) hx hb hts hown hK hP iwX0 rfl 0 rfl 2 (by decide) fl18 rfl dX0_clear_17 ?_
  refine lv_iconst (v := iZ 0) hx hb dX0_clear_20 (by decide) ?_
  refine z_Sv (As := [.ref xam, .int (iZ 0)]) (rest := []) hC (c_J7_fill_53178 l D cI cJ cB xam 8 ma 0 (by first | assumption | omega)) 2 gX0_clear_J7_fill_53178 rfl rfl rfl qJ7_fill_53178 ⟨Nat.le_of_ble_eq_true rfl, Nat.le_of_ble_eq_true rfl⟩ ⟨Nat.le_refl _, Nat.le_refl _⟩ hK hP hD hS hA [3] rfl (by decide) rfl hl.1 rfl (Nat.le_of_ble_eq_true rfl) dX0_clear_21 (fun w H locs hq hP hD hS => ?_)
  rcases hq with rfl
  replace hP : va_P D vwCl [(xa, ob 0 [.ref xal, .ref xar, .ref xam]), (xal, aI cI 8 (fun _ => (-1))), (xar, aI cI 8 (fun _ => 0)), (xam, aI cI 8 (fun _ => 0))] H := hP
  replace hD : va_D A [(xa, ob 0 [.ref xal, .ref xar, .ref xam]), (xal, aI cI 8 (fun _ => (-1))), (xar, aI cI 8 (fun _ => 0)), (xam, aI cI 8 (fun _ => 0))] := hD
  exact z_vret hx hb hr hlocks hP hD hS dX0_clear_24 rfl (by first | (exact rfl) | (exfalso; omega))
theorem qX0_mostOf : yX0_mostOf.cls ≠ "java/lang/invoke/MethodHandle" ∧ yX0_mostOf.cls ≠ "java/lang/invoke/VarHandle" ∧ (parseMethodDescriptor yX0_mostOf.desc).map (fun d => d.parameters.length) = some 1 := by decide +kernel
set_option maxHeartbeats 4000000 in
set_option maxRecDepth 100000 in
theorem c_X0_mostOf (l : Launch) (D : va_G) (cI cJ cB : ClassId) (xa xal xar xam : Nat) (la ra ma : Int → Int) (p0 : Int) (hp0 : 0 ≤ p0 ∧ p0 ≤ 7) : zMi l yX0_mostOf wsX0_mostOf (zRm 0 0) D (zT cI cJ cB) [.ref xa, .int (iZ p0)] [(xa, ob 0 [.ref xal, .ref xar, .ref xam]), (xal, aI cI 8 la), (xar, aI cI 8 ra), (xam, aI cI 8 ma)] (fun (z : Int) (w : va_W) => ma p0 = z ∧ w = [(xa, ob 0 [.ref xal, .ref xar, .ref xam]), (xal, aI cI 8 la), (xar, aI cI 8 ra), (xam, aI cI 8 ma)]) := by
  refine z_of (Qc := fun A => zQi D [(xa, ob 0 [.ref xal, .ref xar, .ref xam]), (xal, aI cI 8 la), (xar, aI cI 8 ra), (xam, aI cI 8 ma)] A _) (cc := cX0_mostOf) (maxL := 2) (ret := (some .int)) (by decide) rfl (Nat.le_of_ble_eq_true rfl) ?_
  intro p e s m below meth c A ls hx hb hr hts hown hlocks hml hK hP hD hS hA hl
  replace hown : s.vm.findClass RX0 = some m.cls := hown
  have hC : CallFix p m c cX0_mostOf 2 s _ wsX0_mostOf RX0 := ⟨hx, hb, hml, hown, hts⟩
  replace hl : lv_has ls 2 [(0, .ref xa), (1, .int (iZ p0))] := hl
  have iwX0 : ∀ w ∈ u_ws RX0 TX0 3, w ∈ wsX0_mostOf := fun w h => List.mem_cons_of_mem _ (List.mem_append_right _ h)
  have fl18 : Cond.fieldLink RX0 18 "GrowsByHalf$Alike" "most" "[I" ∈ wsX0_mostOf := by decide +kernel
  refine lv_iload_n hx hb dX0_mostOf_0 rfl (lv_at hl 1 rfl) ?_
  refine z_if_lt (tgt := 19) hx hb dX0_mostOf_1 (by decide) (by first | assumption | omega) (fun c_1 => ?_) (fun c_1 => ?_)
  · refine lv_iconst (v := iZ 0) hx hb dX0_mostOf_19 (by decide) ?_
    exact z_iret hx hb hr hlocks hP hD hS dX0_mostOf_20 rfl (by first | (exact ⟨(by first | rfl | omega), rfl⟩) | (exfalso; omega))
  · refine lv_iload_n hx hb dX0_mostOf_4 rfl (lv_at hl 1 rfl) ?_
    refine lv_bipush (v := iZ 8) hx hb dX0_mostOf_5 (by decide) ?_
    refine z_icmp_ge (tgt := 19) hx hb dX0_mostOf_7 (by decide) (by first | assumption | omega) (by first | assumption | omega) (fun c_7 => ?_) (fun c_7 => ?_)
    · refine lv_iconst (v := iZ 0) hx hb dX0_mostOf_19 (by decide) ?_
      exact z_iret hx hb hr hlocks hP hD hS dX0_mostOf_20 rfl (by first | (exact ⟨(by first | rfl | omega), rfl⟩) | (exfalso; omega))
    · refine lv_aload_n hx hb dX0_mostOf_10 rfl (lv_at hl 0 rfl) ?_
      refine z_get (C := RX0) (T0 := TX0) (N := 3) (ci := 0) (v := .ref xam) hx hb hts hown hK hP iwX0 rfl 0 rfl 2 (by decide) fl18 rfl dX0_mostOf_11 ?_
      refine lv_iload_n hx hb dX0_mostOf_14 rfl (lv_at hl 1 rfl) ?_
      refine z_iald hx hb hK hP 3 0 rfl rfl (by decide) (by first | assumption | omega) dX0_mostOf_15 ?_
      refine lv_goto (tgt := 20) hx hb dX0_mostOf_16 (by decide) ?_
      exact z_iret hx hb hr hlocks hP hD hS dX0_mostOf_20 rfl (by first | (exact ⟨(by first | rfl | omega), rfl⟩) | (exfalso; omega))
theorem qX0_add : yX0_add.cls ≠ "java/lang/invoke/MethodHandle" ∧ yX0_add.cls ≠ "java/lang/invoke/VarHandle" ∧ (parseMethodDescriptor yX0_add.desc).map (fun d => d.parameters.length) = some 2 := by decide +kernel
set_option maxHeartbeats 4000000 in
set_option maxRecDepth 100000 in
theorem c_X0_add (l : Launch) (D : va_G) (cI cJ cB : ClassId) (xa xal xar xam : Nat) (la ra ma : Int → Int) (p0 x : Int) (hp0 : 0 ≤ p0 ∧ p0 ≤ 7) (hx0 : -2147483648 ≤ x ∧ x < 2147483648) (hla : ∀ j, -2147483648 ≤ la j ∧ la j < 2147483648) (hra : ∀ j, 0 ≤ ra j ∧ ra j ≤ 1000) (hma : ∀ j, 0 ≤ ma j ∧ ma j ≤ 1000) : zMv l yX0_add wsX0_add (zRm 1 21) D (zT cI cJ cB) [.ref xa, .int (iZ p0), .int (iZ x)] [(xa, ob 0 [.ref xal, .ref xar, .ref xam]), (xal, aI cI 8 la), (xar, aI cI 8 ra), (xam, aI cI 8 ma)] (fun (w : va_W) => w = [(xa, ob 0 [.ref xal, .ref xar, .ref xam]), (xal, aI cI 8 (zu la p0 x)), (xar, aI cI 8 (zu ra p0 (if x = la p0 then ra p0 + 1 else 1))), (xam, aI cI 8 (zu ma p0 (max (ma p0) (if x = la p0 then ra p0 + 1 else 1))))]) := by
  refine z_of (Qc := fun A => zQv D [(xa, ob 0 [.ref xal, .ref xar, .ref xam]), (xal, aI cI 8 la), (xar, aI cI 8 ra), (xam, aI cI 8 ma)] A _) (cc := cX0_add) (maxL := 3) (ret := none) (by decide) rfl (Nat.le_of_ble_eq_true rfl) ?_
  intro p e s m below meth c A ls hx hb hr hts hown hlocks hml hK hP hD hS hA hl
  replace hown : s.vm.findClass RX0 = some m.cls := hown
  have hC : CallFix p m c cX0_add 3 s _ wsX0_add RX0 := ⟨hx, hb, hml, hown, hts⟩
  replace hl : lv_has ls 3 [(0, .ref xa), (1, .int (iZ p0)), (2, .int (iZ x))] := hl
  have iwX0 : ∀ w ∈ u_ws RX0 TX0 3, w ∈ wsX0_add := fun w h => List.mem_cons_of_mem _ (List.mem_append_right _ h)
  have fl9 : Cond.fieldLink RX0 9 "GrowsByHalf$Alike" "last" "[I" ∈ wsX0_add := by decide +kernel
  have fl15 : Cond.fieldLink RX0 15 "GrowsByHalf$Alike" "run" "[I" ∈ wsX0_add := by decide +kernel
  have fl18 : Cond.fieldLink RX0 18 "GrowsByHalf$Alike" "most" "[I" ∈ wsX0_add := by decide +kernel
  have hla1 := hla p0
  have hra1 := hra p0
  have hma1 := hma p0
  refine lv_iload_n hx hb dX0_add_0 rfl (lv_at hl 1 rfl) ?_
  refine z_if_lt (tgt := 66) hx hb dX0_add_1 (by decide) (by first | assumption | omega) (fun c_1 => ?_) (fun c_1 => ?_)
  · exact z_vret hx hb hr hlocks hP hD hS dX0_add_66 rfl (by first | (rw [if_pos (by assumption)]) | (rw [if_neg (by assumption)]) | (exfalso; omega))
  · refine lv_iload_n hx hb dX0_add_4 rfl (lv_at hl 1 rfl) ?_
    refine lv_bipush (v := iZ 8) hx hb dX0_add_5 (by decide) ?_
    refine z_icmp_ge (tgt := 66) hx hb dX0_add_7 (by decide) (by first | assumption | omega) (by first | assumption | omega) (fun c_7 => ?_) (fun c_7 => ?_)
    · exact z_vret hx hb hr hlocks hP hD hS dX0_add_66 rfl (by first | (rw [if_pos (by assumption)]) | (rw [if_neg (by assumption)]) | (exfalso; omega))
    · refine lv_aload_n hx hb dX0_add_10 rfl (lv_at hl 0 rfl) ?_
      refine z_get (C := RX0) (T0 := TX0) (N := 3) (ci := 0) (v := .ref xar) hx hb hts hown hK hP iwX0 rfl 0 rfl 1 (by decide) fl15 rfl dX0_add_11 ?_
      refine lv_iload_n hx hb dX0_add_14 rfl (lv_at hl 1 rfl) ?_
      refine lv_iload_n hx hb dX0_add_15 rfl (lv_at hl 2 rfl) ?_
      refine lv_aload_n hx hb dX0_add_16 rfl (lv_at hl 0 rfl) ?_
      refine z_get (C := RX0) (T0 := TX0) (N := 3) (ci := 0) (v := .ref xal) hx hb hts hown hK hP iwX0 rfl 0 rfl 0 (by decide) fl9 rfl dX0_add_17 ?_
      refine lv_iload_n hx hb dX0_add_20 rfl (lv_at hl 1 rfl) ?_
      refine z_iald hx hb hK hP 1 0 rfl rfl (by decide) (by first | assumption | omega) dX0_add_21 ?_
      have rd_1 := hla p0
      refine z_icmp_ne (tgt := 36) hx hb dX0_add_22 (by decide) (by first | assumption | omega) (by first | assumption | omega) (fun c_22 => ?_) (fun c_22 => ?_)
      · refine lv_iconst (v := iZ 1) hx hb dX0_add_36 (by decide) ?_
        refine z_iast hx hb hK hP hD hS 2 0 rfl rfl (by decide) (by first | assumption | omega) dX0_add_37 (fun H locs hP hD hS => ?_)
        replace hP : va_P D vwCl [(xa, ob 0 [.ref xal, .ref xar, .ref xam]), (xal, aI cI 8 la), (xar, aI cI 8 (zu ra p0 1)), (xam, aI cI 8 ma)] H := hP
        replace hD : va_D A [(xa, ob 0 [.ref xal, .ref xar, .ref xam]), (xal, aI cI 8 la), (xar, aI cI 8 (zu ra p0 1)), (xam, aI cI 8 ma)] := hD
        refine lv_aload_n hx hb dX0_add_38 rfl (lv_at hl 0 rfl) ?_
        refine z_get (C := RX0) (T0 := TX0) (N := 3) (ci := 0) (v := .ref xal) hx hb hts hown hK hP iwX0 rfl 0 rfl 0 (by decide) fl9 rfl dX0_add_39 ?_
        refine lv_iload_n hx hb dX0_add_42 rfl (lv_at hl 1 rfl) ?_
        refine lv_iload_n hx hb dX0_add_43 rfl (lv_at hl 2 rfl) ?_
        refine z_iast hx hb hK hP hD hS 1 0 rfl rfl (by decide) (by first | assumption | omega) dX0_add_44 (fun H locs hP hD hS => ?_)
        replace hP : va_P D vwCl [(xa, ob 0 [.ref xal, .ref xar, .ref xam]), (xal, aI cI 8 (zu la p0 x)), (xar, aI cI 8 (zu ra p0 1)), (xam, aI cI 8 ma)] H := hP
        replace hD : va_D A [(xa, ob 0 [.ref xal, .ref xar, .ref xam]), (xal, aI cI 8 (zu la p0 x)), (xar, aI cI 8 (zu ra p0 1)), (xam, aI cI 8 ma)] := hD
        refine lv_aload_n hx hb dX0_add_45 rfl (lv_at hl 0 rfl) ?_
        refine z_get (C := RX0) (T0 := TX0) (N := 3) (ci := 0) (v := .ref xam) hx hb hts hown hK hP iwX0 rfl 0 rfl 2 (by decide) fl18 rfl dX0_add_46 ?_
        refine lv_iload_n hx hb dX0_add_49 rfl (lv_at hl 1 rfl) ?_
        refine lv_aload_n hx hb dX0_add_50 rfl (lv_at hl 0 rfl) ?_
        refine z_get (C := RX0) (T0 := TX0) (N := 3) (ci := 0) (v := .ref xam) hx hb hts hown hK hP iwX0 rfl 0 rfl 2 (by decide) fl18 rfl dX0_add_51 ?_
        refine lv_iload_n hx hb dX0_add_54 rfl (lv_at hl 1 rfl) ?_
        refine z_iald hx hb hK hP 3 0 rfl rfl (by decide) (by first | assumption | omega) dX0_add_55 ?_
        have rd_2 := hma p0
        refine lv_aload_n hx hb dX0_add_56 rfl (lv_at hl 0 rfl) ?_
        refine z_get (C := RX0) (T0 := TX0) (N := 3) (ci := 0) (v := .ref xar) hx hb hts hown hK hP iwX0 rfl 0 rfl 1 (by decide) fl15 rfl dX0_add_57 ?_
        refine lv_iload_n hx hb dX0_add_60 rfl (lv_at hl 1 rfl) ?_
        refine z_iald hx hb hK hP 2 0 rfl rfl (by decide) (by first | assumption | omega) dX0_add_61 ?_
        refine z_eq (b := 1) (zu_eq _ _ _) ?_
        refine z_mmax hx hb (by rw [hml]; exact hl.1.symm) hown (hts (.methodLink RX0 27 Lib.Math.max.name) (by decide +kernel)) (hts (.static Lib.Math.max.name) (by decide +kernel)) (hts (.initialized "java/lang/Math") (by decide +kernel)) (hts (.code Lib.Math.max.name Lib.Math.max.code 2 (some .int)) (by decide +kernel)) (Nat.le_of_ble_eq_true rfl) (Nat.le_of_ble_eq_true rfl) (Nat.le_refl _) (Nat.le_refl _) (by first | assumption | omega) (by first | assumption | omega) dX0_add_62 ?_
        refine z_iast hx hb hK hP hD hS 3 0 rfl rfl (by decide) (by first | assumption | omega) dX0_add_65 (fun H locs hP hD hS => ?_)
        replace hP : va_P D vwCl [(xa, ob 0 [.ref xal, .ref xar, .ref xam]), (xal, aI cI 8 (zu la p0 x)), (xar, aI cI 8 (zu ra p0 1)), (xam, aI cI 8 (zu ma p0 (max (ma p0) 1)))] H := hP
        replace hD : va_D A [(xa, ob 0 [.ref xal, .ref xar, .ref xam]), (xal, aI cI 8 (zu la p0 x)), (xar, aI cI 8 (zu ra p0 1)), (xam, aI cI 8 (zu ma p0 (max (ma p0) 1)))] := hD
        exact z_vret hx hb hr hlocks hP hD hS dX0_add_66 rfl (by first | (rw [if_pos (by assumption)]) | (rw [if_neg (by assumption)]) | (exfalso; omega))
      · refine lv_aload_n hx hb dX0_add_25 rfl (lv_at hl 0 rfl) ?_
        refine z_get (C := RX0) (T0 := TX0) (N := 3) (ci := 0) (v := .ref xar) hx hb hts hown hK hP iwX0 rfl 0 rfl 1 (by decide) fl15 rfl dX0_add_26 ?_
        refine lv_iload_n hx hb dX0_add_29 rfl (lv_at hl 1 rfl) ?_
        refine z_iald hx hb hK hP 2 0 rfl rfl (by decide) (by first | assumption | omega) dX0_add_30 ?_
        have rd_3 := hra p0
        refine lv_iconst (v := iZ 1) hx hb dX0_add_31 (by decide) ?_
        refine z_iadd hx hb dX0_add_32 ?_
        refine lv_goto (tgt := 37) hx hb dX0_add_33 (by decide) ?_
        refine z_iast hx hb hK hP hD hS 2 0 rfl rfl (by decide) (by first | assumption | omega) dX0_add_37 (fun H locs hP hD hS => ?_)
        replace hP : va_P D vwCl [(xa, ob 0 [.ref xal, .ref xar, .ref xam]), (xal, aI cI 8 la), (xar, aI cI 8 (zu ra p0 ((ra p0) + 1))), (xam, aI cI 8 ma)] H := hP
        replace hD : va_D A [(xa, ob 0 [.ref xal, .ref xar, .ref xam]), (xal, aI cI 8 la), (xar, aI cI 8 (zu ra p0 ((ra p0) + 1))), (xam, aI cI 8 ma)] := hD
        refine lv_aload_n hx hb dX0_add_38 rfl (lv_at hl 0 rfl) ?_
        refine z_get (C := RX0) (T0 := TX0) (N := 3) (ci := 0) (v := .ref xal) hx hb hts hown hK hP iwX0 rfl 0 rfl 0 (by decide) fl9 rfl dX0_add_39 ?_
        refine lv_iload_n hx hb dX0_add_42 rfl (lv_at hl 1 rfl) ?_
        refine lv_iload_n hx hb dX0_add_43 rfl (lv_at hl 2 rfl) ?_
        refine z_iast hx hb hK hP hD hS 1 0 rfl rfl (by decide) (by first | assumption | omega) dX0_add_44 (fun H locs hP hD hS => ?_)
        replace hP : va_P D vwCl [(xa, ob 0 [.ref xal, .ref xar, .ref xam]), (xal, aI cI 8 (zu la p0 x)), (xar, aI cI 8 (zu ra p0 ((ra p0) + 1))), (xam, aI cI 8 ma)] H := hP
        replace hD : va_D A [(xa, ob 0 [.ref xal, .ref xar, .ref xam]), (xal, aI cI 8 (zu la p0 x)), (xar, aI cI 8 (zu ra p0 ((ra p0) + 1))), (xam, aI cI 8 ma)] := hD
        refine lv_aload_n hx hb dX0_add_45 rfl (lv_at hl 0 rfl) ?_
        refine z_get (C := RX0) (T0 := TX0) (N := 3) (ci := 0) (v := .ref xam) hx hb hts hown hK hP iwX0 rfl 0 rfl 2 (by decide) fl18 rfl dX0_add_46 ?_
        refine lv_iload_n hx hb dX0_add_49 rfl (lv_at hl 1 rfl) ?_
        refine lv_aload_n hx hb dX0_add_50 rfl (lv_at hl 0 rfl) ?_
        refine z_get (C := RX0) (T0 := TX0) (N := 3) (ci := 0) (v := .ref xam) hx hb hts hown hK hP iwX0 rfl 0 rfl 2 (by decide) fl18 rfl dX0_add_51 ?_
        refine lv_iload_n hx hb dX0_add_54 rfl (lv_at hl 1 rfl) ?_
        refine z_iald hx hb hK hP 3 0 rfl rfl (by decide) (by first | assumption | omega) dX0_add_55 ?_
        have rd_4 := hma p0
        refine lv_aload_n hx hb dX0_add_56 rfl (lv_at hl 0 rfl) ?_
        refine z_get (C := RX0) (T0 := TX0) (N := 3) (ci := 0) (v := .ref xar) hx hb hts hown hK hP iwX0 rfl 0 rfl 1 (by decide) fl15 rfl dX0_add_57 ?_
        refine lv_iload_n hx hb dX0_add_60 rfl (lv_at hl 1 rfl) ?_
        refine z_iald hx hb hK hP 2 0 rfl rfl (by decide) (by first | assumption | omega) dX0_add_61 ?_
        refine z_eq (b := (ra p0) + 1) (zu_eq _ _ _) ?_
        refine z_mmax hx hb (by rw [hml]; exact hl.1.symm) hown (hts (.methodLink RX0 27 Lib.Math.max.name) (by decide +kernel)) (hts (.static Lib.Math.max.name) (by decide +kernel)) (hts (.initialized "java/lang/Math") (by decide +kernel)) (hts (.code Lib.Math.max.name Lib.Math.max.code 2 (some .int)) (by decide +kernel)) (Nat.le_of_ble_eq_true rfl) (Nat.le_of_ble_eq_true rfl) (Nat.le_refl _) (Nat.le_refl _) (by first | assumption | omega) (by first | assumption | omega) dX0_add_62 ?_
        refine z_iast hx hb hK hP hD hS 3 0 rfl rfl (by decide) (by first | assumption | omega) dX0_add_65 (fun H locs hP hD hS => ?_)
        replace hP : va_P D vwCl [(xa, ob 0 [.ref xal, .ref xar, .ref xam]), (xal, aI cI 8 (zu la p0 x)), (xar, aI cI 8 (zu ra p0 ((ra p0) + 1))), (xam, aI cI 8 (zu ma p0 (max (ma p0) ((ra p0) + 1))))] H := hP
        replace hD : va_D A [(xa, ob 0 [.ref xal, .ref xar, .ref xam]), (xal, aI cI 8 (zu la p0 x)), (xar, aI cI 8 (zu ra p0 ((ra p0) + 1))), (xam, aI cI 8 (zu ma p0 (max (ma p0) ((ra p0) + 1))))] := hD
        exact z_vret hx hb hr hlocks hP hD hS dX0_add_66 rfl (by first | (rw [if_pos (by assumption)]) | (rw [if_neg (by assumption)]) | (exfalso; omega))
theorem qX2_sow : yX2_sow.cls ≠ "java/lang/invoke/MethodHandle" ∧ yX2_sow.cls ≠ "java/lang/invoke/VarHandle" ∧ (parseMethodDescriptor yX2_sow.desc).map (fun d => d.parameters.length) = some 1 := by decide +kernel
set_option maxHeartbeats 4000000 in
set_option maxRecDepth 100000 in
theorem c_X2_sow (l : Launch) (D : va_G) (cI cJ cB : ClassId) (xd : Nat) (sd x : Int) (hx0 : -2147483648 ≤ x ∧ x < 2147483648) : zMv l yX2_sow wsX2_sow (zRm 0 0) D (zT cI cJ cB) [.ref xd, .int (iZ x)] [(xd, ob 2 [.long (lZ sd)])] (fun (w : va_W) => w = [(xd, ob 2 [.long (lZ x)])]) := by
  refine z_of (Qc := fun A => zQv D [(xd, ob 2 [.long (lZ sd)])] A _) (cc := cX2_sow) (maxL := 2) (ret := none) (by decide) rfl (Nat.le_of_ble_eq_true rfl) ?_
  intro p e s m below meth c A ls hx hb hr hts hown hlocks hml hK hP hD hS hA hl
  replace hown : s.vm.findClass RX2 = some m.cls := hown
  have hC : CallFix p m c cX2_sow 2 s _ wsX2_sow RX2 := ⟨hx, hb, hml, hown, hts⟩
  replace hl : lv_has ls 2 [(0, .ref xd), (1, .int (iZ x))] := hl
  have iwX2 : ∀ w ∈ u_ws RX2 TX2 1, w ∈ wsX2_sow := fun w h => List.mem_cons_of_mem _ (List.mem_append_right _ h)
  have fl7 : Cond.fieldLink RX2 7 "GrowsByHalf$Draws" "seed" "J" ∈ wsX2_sow := by decide +kernel
  refine lv_aload_n hx hb dX2_sow_0 rfl (lv_at hl 0 rfl) ?_
  refine lv_iload_n hx hb dX2_sow_1 rfl (lv_at hl 1 rfl) ?_
  refine z_i2l hx hb (by first | assumption | omega) dX2_sow_2 ?_
  refine z_put (C := RX2) (T0 := TX2) (N := 1) (ci := 2) (v := .long (lZ x)) hx hb hts hown hK hP hD hS iwX2 tyX2_ok nmX2 rfl 0 rfl 0 (by decide) fl7 rfl rfl rfl (Nat.le_of_ble_eq_true rfl) dX2_sow_3 (fun H locs hP hD hS => ?_)
  replace hP : va_P D vwCl [(xd, ob 2 [.long (lZ x)])] H := hP
  replace hD : va_D A [(xd, ob 2 [.long (lZ x)])] := hD
  exact z_vret hx hb hr hlocks hP hD hS dX2_sow_6 rfl (by first | (exact rfl) | (exfalso; omega))
theorem qX2_seed : yX2_seed.cls ≠ "java/lang/invoke/MethodHandle" ∧ yX2_seed.cls ≠ "java/lang/invoke/VarHandle" ∧ (parseMethodDescriptor yX2_seed.desc).map (fun d => d.parameters.length) = some 0 := by decide +kernel
set_option maxHeartbeats 4000000 in
set_option maxRecDepth 100000 in
theorem c_X2_seed (l : Launch) (D : va_G) (cI cJ cB : ClassId) (xd : Nat) (sd : Int) (hsd : 0 ≤ sd ∧ sd < 2147483648) : zMi l yX2_seed wsX2_seed (zRm 0 0) D (zT cI cJ cB) [.ref xd] [(xd, ob 2 [.long (lZ sd)])] (fun (z : Int) (w : va_W) => sd = z ∧ w = [(xd, ob 2 [.long (lZ sd)])]) := by
  refine z_of (Qc := fun A => zQi D [(xd, ob 2 [.long (lZ sd)])] A _) (cc := cX2_seed) (maxL := 1) (ret := (some .int)) (by decide) rfl (Nat.le_of_ble_eq_true rfl) ?_
  intro p e s m below meth c A ls hx hb hr hts hown hlocks hml hK hP hD hS hA hl
  replace hown : s.vm.findClass RX2 = some m.cls := hown
  have hC : CallFix p m c cX2_seed 1 s _ wsX2_seed RX2 := ⟨hx, hb, hml, hown, hts⟩
  replace hl : lv_has ls 1 [(0, .ref xd)] := hl
  have iwX2 : ∀ w ∈ u_ws RX2 TX2 1, w ∈ wsX2_seed := fun w h => List.mem_cons_of_mem _ (List.mem_append_right _ h)
  have fl7 : Cond.fieldLink RX2 7 "GrowsByHalf$Draws" "seed" "J" ∈ wsX2_seed := by decide +kernel
  refine lv_aload_n hx hb dX2_seed_0 rfl (lv_at hl 0 rfl) ?_
  refine z_get (C := RX2) (T0 := TX2) (N := 1) (ci := 2) (v := .long (lZ sd)) hx hb hts hown hK hP iwX2 rfl 0 rfl 0 (by decide) fl7 rfl dX2_seed_1 ?_
  refine z_l2i hx hb dX2_seed_4 ?_
  exact z_iret hx hb hr hlocks hP hD hS dX2_seed_5 rfl (by first | (exact ⟨(by first | rfl | omega), rfl⟩) | (exfalso; omega))
theorem qX2_draw : yX2_draw.cls ≠ "java/lang/invoke/MethodHandle" ∧ yX2_draw.cls ≠ "java/lang/invoke/VarHandle" ∧ (parseMethodDescriptor yX2_draw.desc).map (fun d => d.parameters.length) = some 1 := by decide +kernel
set_option maxHeartbeats 4000000 in
set_option maxRecDepth 100000 in
theorem c_X2_draw (l : Launch) (D : va_G) (cI cJ cB : ClassId) (xd : Nat) (sd b : Int) (hsd : 0 ≤ sd ∧ sd < 2147483648) (hb1 : 1 ≤ b ∧ b ≤ 8) : zMi l yX2_draw wsX2_draw (zRm 0 0) D (zT cI cJ cB) [.ref xd, .int (iZ b)] [(xd, ob 2 [.long (lZ sd)])] (fun (z : Int) (w : va_W) => nxs sd / 65536 % b = z ∧ w = [(xd, ob 2 [.long (lZ (nxs sd))])]) := by
  refine z_of (Qc := fun A => zQi D [(xd, ob 2 [.long (lZ sd)])] A _) (cc := cX2_draw) (maxL := 2) (ret := (some .int)) (by decide) rfl (Nat.le_of_ble_eq_true rfl) ?_
  intro p e s m below meth c A ls hx hb hr hts hown hlocks hml hK hP hD hS hA hl
  replace hown : s.vm.findClass RX2 = some m.cls := hown
  have hC : CallFix p m c cX2_draw 2 s _ wsX2_draw RX2 := ⟨hx, hb, hml, hown, hts⟩
  replace hl : lv_has ls 2 [(0, .ref xd), (1, .int (iZ b))] := hl
  have iwX2 : ∀ w ∈ u_ws RX2 TX2 1, w ∈ wsX2_draw := fun w h => List.mem_cons_of_mem _ (List.mem_append_right _ h)
  have fl7 : Cond.fieldLink RX2 7 "GrowsByHalf$Draws" "seed" "J" ∈ wsX2_draw := by decide +kernel
  have hnx := nxs_rng sd
  refine lv_aload_n hx hb dX2_draw_0 rfl (lv_at hl 0 rfl) ?_
  refine lv_ldc2 (v := lZ 1103515245) hx hb hown (hts (.constantLong RX2 13 (1103515245)) (by decide +kernel)) dX2_draw_1 ?_
  refine lv_aload_n hx hb dX2_draw_4 rfl (lv_at hl 0 rfl) ?_
  refine z_get (C := RX2) (T0 := TX2) (N := 1) (ci := 2) (v := .long (lZ sd)) hx hb hts hown hK hP iwX2 rfl 0 rfl 0 (by decide) fl7 rfl dX2_draw_5 ?_
  refine z_lmul hx hb dX2_draw_8 ?_
  refine lv_ldc2 (v := lZ 12345) hx hb hown (hts (.constantLong RX2 15 (12345)) (by decide +kernel)) dX2_draw_9 ?_
  refine z_ladd hx hb dX2_draw_12 ?_
  refine lv_ldc2 (v := lZ 2147483648) hx hb hown (hts (.constantLong RX2 17 (2147483648)) (by decide +kernel)) dX2_draw_13 ?_
  refine z_lrem hx hb dX2_draw_16 (by first | assumption | omega) (by first | assumption | omega) ?_
  refine z_eql (b := nxs sd) (by rfl) ?_
  refine z_put (C := RX2) (T0 := TX2) (N := 1) (ci := 2) (v := .long (lZ (nxs sd))) hx hb hts hown hK hP hD hS iwX2 tyX2_ok nmX2 rfl 0 rfl 0 (by decide) fl7 rfl rfl rfl (Nat.le_of_ble_eq_true rfl) dX2_draw_17 (fun H locs hP hD hS => ?_)
  replace hP : va_P D vwCl [(xd, ob 2 [.long (lZ (nxs sd))])] H := hP
  replace hD : va_D A [(xd, ob 2 [.long (lZ (nxs sd))])] := hD
  refine lv_iload_n hx hb dX2_draw_20 rfl (lv_at hl 1 rfl) ?_
  refine z_if_le (tgt := 39) hx hb dX2_draw_21 (by decide) (by first | assumption | omega) (fun c_21 => ?_) (fun c_21 => ?_)
  · refine lv_iconst (v := iZ 0) hx hb dX2_draw_39 (by decide) ?_
    exact z_iret hx hb hr hlocks hP hD hS dX2_draw_40 rfl (by first | (exact ⟨(by first | rfl | omega), rfl⟩) | (exfalso; omega))
  · refine lv_aload_n hx hb dX2_draw_24 rfl (lv_at hl 0 rfl) ?_
    refine z_get (C := RX2) (T0 := TX2) (N := 1) (ci := 2) (v := .long (lZ (nxs sd))) hx hb hts hown hK hP iwX2 rfl 0 rfl 0 (by decide) fl7 rfl dX2_draw_25 ?_
    refine lv_ldc2 (v := lZ 65536) hx hb hown (hts (.constantLong RX2 19 (65536)) (by decide +kernel)) dX2_draw_28 ?_
    refine z_ldiv hx hb dX2_draw_31 (by first | assumption | omega) (by first | assumption | omega) ?_
    refine lv_iload_n hx hb dX2_draw_32 rfl (lv_at hl 1 rfl) ?_
    refine z_i2l hx hb (by first | assumption | omega) dX2_draw_33 ?_
    refine z_lrem hx hb dX2_draw_34 (by first | assumption | omega) (by first | assumption | omega) ?_
    refine z_l2i hx hb dX2_draw_35 ?_
    refine lv_goto (tgt := 40) hx hb dX2_draw_36 (by decide) ?_
    exact z_iret hx hb hr hlocks hP hD hS dX2_draw_40 rfl (by first | (exact ⟨(by first | rfl | omega), rfl⟩) | (exfalso; omega))
theorem qX3_takeAll : yX3_takeAll.cls ≠ "java/lang/invoke/MethodHandle" ∧ yX3_takeAll.cls ≠ "java/lang/invoke/VarHandle" ∧ (parseMethodDescriptor yX3_takeAll.desc).map (fun d => d.parameters.length) = some 1 := by decide +kernel
set_option maxHeartbeats 4000000 in
set_option maxRecDepth 100000 in
theorem c_X3_takeAll (l : Launch) (D : va_G) (cI cJ cB : ClassId) (xf xfk xfn xfw xfs xi xik xin xiw xis : Nat) (kd kn wi ss kd2 kn2 wi2 ss2 : Int → Int) (pe pe2 : Int) : zMv l yX3_takeAll wsX3_takeAll (zRm 1 40) D (zT cI cJ cB) [.ref xf, .ref xi] [(xf, ob 3 [.ref xfk, .ref xfn, .ref xfw, .ref xfs, .int (iZ pe)]), (xfk, aI cI 8 kd), (xfn, aI cI 8 kn), (xfw, aI cI 4 wi), (xfs, aI cI 4 ss), (xi, ob 3 [.ref xik, .ref xin, .ref xiw, .ref xis, .int (iZ pe2)]), (xik, aI cI 8 kd2), (xin, aI cI 8 kn2), (xiw, aI cI 4 wi2), (xis, aI cI 4 ss2)] (fun (w : va_W) => w = [(xf, ob 3 [.ref xfk, .ref xfn, .ref xfw, .ref xfs, .int (iZ pe2)]), (xfk, aI cI 8 kd2), (xfn, aI cI 8 kn2), (xfw, aI cI 4 wi2), (xfs, aI cI 4 ss2), (xi, ob 3 [.ref xik, .ref xin, .ref xiw, .ref xis, .int (iZ pe2)]), (xik, aI cI 8 kd2), (xin, aI cI 8 kn2), (xiw, aI cI 4 wi2), (xis, aI cI 4 ss2)]) := by
  refine z_of (Qc := fun A => zQv D [(xf, ob 3 [.ref xfk, .ref xfn, .ref xfw, .ref xfs, .int (iZ pe)]), (xfk, aI cI 8 kd), (xfn, aI cI 8 kn), (xfw, aI cI 4 wi), (xfs, aI cI 4 ss), (xi, ob 3 [.ref xik, .ref xin, .ref xiw, .ref xis, .int (iZ pe2)]), (xik, aI cI 8 kd2), (xin, aI cI 8 kn2), (xiw, aI cI 4 wi2), (xis, aI cI 4 ss2)] A _) (cc := cX3_takeAll) (maxL := 2) (ret := none) (by decide) rfl (Nat.le_of_ble_eq_true rfl) ?_
  intro p e s m below meth c A ls hx hb hr hts hown hlocks hml hK hP hD hS hA hl
  replace hown : s.vm.findClass RX3 = some m.cls := hown
  have hC : CallFix p m c cX3_takeAll 2 s _ wsX3_takeAll RX3 := ⟨hx, hb, hml, hown, hts⟩
  replace hl : lv_has ls 2 [(0, .ref xf), (1, .ref xi)] := hl
  have iwX3 : ∀ w ∈ u_ws RX3 TX3 5, w ∈ wsX3_takeAll := fun w h => List.mem_cons_of_mem _ (List.mem_append_right _ h)
  have fl9 : Cond.fieldLink RX3 9 "GrowsByHalf$Folk" "kinds" "[I" ∈ wsX3_takeAll := by decide +kernel
  have fl15 : Cond.fieldLink RX3 15 "GrowsByHalf$Folk" "known" "[I" ∈ wsX3_takeAll := by decide +kernel
  have fl18 : Cond.fieldLink RX3 18 "GrowsByHalf$Folk" "witnesses" "[I" ∈ wsX3_takeAll := by decide +kernel
  have fl21 : Cond.fieldLink RX3 21 "GrowsByHalf$Folk" "seenSizes" "[I" ∈ wsX3_takeAll := by decide +kernel
  have fl36 : Cond.fieldLink RX3 36 "GrowsByHalf$Folk" "people" "I" ∈ wsX3_takeAll := by decide +kernel
  refine lv_aload_n hx hb dX3_takeAll_0 rfl (lv_at hl 1 rfl) ?_
  refine z_get (C := RX3) (T0 := TX3) (N := 5) (ci := 3) (v := .ref xik) hx hb hts hown hK hP iwX3 rfl 5 rfl 0 (by decide) fl9 rfl dX3_takeAll_1 ?_
  refine lv_iconst (v := iZ 0) hx hb dX3_takeAll_4 (by decide) ?_
  refine lv_aload_n hx hb dX3_takeAll_5 rfl (lv_at hl 0 rfl) ?_
  refine z_get (C := RX3) (T0 := TX3) (N := 5) (ci := 3) (v := .ref xfk) hx hb hts hown hK hP iwX3 rfl 0 rfl 0 (by decide) fl9 rfl dX3_takeAll_6 ?_
  refine lv_iconst (v := iZ 0) hx hb dX3_takeAll_9 (by decide) ?_
  refine lv_bipush (v := iZ 8) hx hb dX3_takeAll_10 (by decide) ?_
  refine z_copy hx hb (by rw [hml]; exact hl.1.symm) hown (hts (.methodLink RX3 30 arraycopyName) (by decide +kernel)) (hts (.native arraycopyName) (by decide +kernel)) (hts (.static arraycopyName) (by decide +kernel)) (hts (.initialized "java/lang/System") (by decide +kernel)) hK hP hD hS 6 1 rfl rfl (by decide) (Nat.le_of_ble_eq_true rfl) (Nat.le_of_ble_eq_true rfl) dX3_takeAll_12 (fun H locs hP hD hS => ?_)
  replace hP : va_P D vwCl [(xf, ob 3 [.ref xfk, .ref xfn, .ref xfw, .ref xfs, .int (iZ pe)]), (xfk, aI cI 8 kd2), (xfn, aI cI 8 kn), (xfw, aI cI 4 wi), (xfs, aI cI 4 ss), (xi, ob 3 [.ref xik, .ref xin, .ref xiw, .ref xis, .int (iZ pe2)]), (xik, aI cI 8 kd2), (xin, aI cI 8 kn2), (xiw, aI cI 4 wi2), (xis, aI cI 4 ss2)] H := hP
  replace hD : va_D A [(xf, ob 3 [.ref xfk, .ref xfn, .ref xfw, .ref xfs, .int (iZ pe)]), (xfk, aI cI 8 kd2), (xfn, aI cI 8 kn), (xfw, aI cI 4 wi), (xfs, aI cI 4 ss), (xi, ob 3 [.ref xik, .ref xin, .ref xiw, .ref xis, .int (iZ pe2)]), (xik, aI cI 8 kd2), (xin, aI cI 8 kn2), (xiw, aI cI 4 wi2), (xis, aI cI 4 ss2)] := hD
  refine lv_aload_n hx hb dX3_takeAll_15 rfl (lv_at hl 1 rfl) ?_
  refine z_get (C := RX3) (T0 := TX3) (N := 5) (ci := 3) (v := .ref xin) hx hb hts hown hK hP iwX3 rfl 5 rfl 1 (by decide) fl15 rfl dX3_takeAll_16 ?_
  refine lv_iconst (v := iZ 0) hx hb dX3_takeAll_19 (by decide) ?_
  refine lv_aload_n hx hb dX3_takeAll_20 rfl (lv_at hl 0 rfl) ?_
  refine z_get (C := RX3) (T0 := TX3) (N := 5) (ci := 3) (v := .ref xfn) hx hb hts hown hK hP iwX3 rfl 0 rfl 1 (by decide) fl15 rfl dX3_takeAll_21 ?_
  refine lv_iconst (v := iZ 0) hx hb dX3_takeAll_24 (by decide) ?_
  refine lv_bipush (v := iZ 8) hx hb dX3_takeAll_25 (by decide) ?_
  refine z_copy hx hb (by rw [hml]; exact hl.1.symm) hown (hts (.methodLink RX3 30 arraycopyName) (by decide +kernel)) (hts (.native arraycopyName) (by decide +kernel)) (hts (.static arraycopyName) (by decide +kernel)) (hts (.initialized "java/lang/System") (by decide +kernel)) hK hP hD hS 7 2 rfl rfl (by decide) (Nat.le_of_ble_eq_true rfl) (Nat.le_of_ble_eq_true rfl) dX3_takeAll_27 (fun H locs hP hD hS => ?_)
  replace hP : va_P D vwCl [(xf, ob 3 [.ref xfk, .ref xfn, .ref xfw, .ref xfs, .int (iZ pe)]), (xfk, aI cI 8 kd2), (xfn, aI cI 8 kn2), (xfw, aI cI 4 wi), (xfs, aI cI 4 ss), (xi, ob 3 [.ref xik, .ref xin, .ref xiw, .ref xis, .int (iZ pe2)]), (xik, aI cI 8 kd2), (xin, aI cI 8 kn2), (xiw, aI cI 4 wi2), (xis, aI cI 4 ss2)] H := hP
  replace hD : va_D A [(xf, ob 3 [.ref xfk, .ref xfn, .ref xfw, .ref xfs, .int (iZ pe)]), (xfk, aI cI 8 kd2), (xfn, aI cI 8 kn2), (xfw, aI cI 4 wi), (xfs, aI cI 4 ss), (xi, ob 3 [.ref xik, .ref xin, .ref xiw, .ref xis, .int (iZ pe2)]), (xik, aI cI 8 kd2), (xin, aI cI 8 kn2), (xiw, aI cI 4 wi2), (xis, aI cI 4 ss2)] := hD
  refine lv_aload_n hx hb dX3_takeAll_30 rfl (lv_at hl 1 rfl) ?_
  refine z_get (C := RX3) (T0 := TX3) (N := 5) (ci := 3) (v := .ref xiw) hx hb hts hown hK hP iwX3 rfl 5 rfl 2 (by decide) fl18 rfl dX3_takeAll_31 ?_
  refine lv_iconst (v := iZ 0) hx hb dX3_takeAll_34 (by decide) ?_
  refine lv_aload_n hx hb dX3_takeAll_35 rfl (lv_at hl 0 rfl) ?_
  refine z_get (C := RX3) (T0 := TX3) (N := 5) (ci := 3) (v := .ref xfw) hx hb hts hown hK hP iwX3 rfl 0 rfl 2 (by decide) fl18 rfl dX3_takeAll_36 ?_
  refine lv_iconst (v := iZ 0) hx hb dX3_takeAll_39 (by decide) ?_
  refine lv_iconst (v := iZ 4) hx hb dX3_takeAll_40 (by decide) ?_
  refine z_copy hx hb (by rw [hml]; exact hl.1.symm) hown (hts (.methodLink RX3 30 arraycopyName) (by decide +kernel)) (hts (.native arraycopyName) (by decide +kernel)) (hts (.static arraycopyName) (by decide +kernel)) (hts (.initialized "java/lang/System") (by decide +kernel)) hK hP hD hS 8 3 rfl rfl (by decide) (Nat.le_of_ble_eq_true rfl) (Nat.le_of_ble_eq_true rfl) dX3_takeAll_41 (fun H locs hP hD hS => ?_)
  replace hP : va_P D vwCl [(xf, ob 3 [.ref xfk, .ref xfn, .ref xfw, .ref xfs, .int (iZ pe)]), (xfk, aI cI 8 kd2), (xfn, aI cI 8 kn2), (xfw, aI cI 4 wi2), (xfs, aI cI 4 ss), (xi, ob 3 [.ref xik, .ref xin, .ref xiw, .ref xis, .int (iZ pe2)]), (xik, aI cI 8 kd2), (xin, aI cI 8 kn2), (xiw, aI cI 4 wi2), (xis, aI cI 4 ss2)] H := hP
  replace hD : va_D A [(xf, ob 3 [.ref xfk, .ref xfn, .ref xfw, .ref xfs, .int (iZ pe)]), (xfk, aI cI 8 kd2), (xfn, aI cI 8 kn2), (xfw, aI cI 4 wi2), (xfs, aI cI 4 ss), (xi, ob 3 [.ref xik, .ref xin, .ref xiw, .ref xis, .int (iZ pe2)]), (xik, aI cI 8 kd2), (xin, aI cI 8 kn2), (xiw, aI cI 4 wi2), (xis, aI cI 4 ss2)] := hD
  refine lv_aload_n hx hb dX3_takeAll_44 rfl (lv_at hl 1 rfl) ?_
  refine z_get (C := RX3) (T0 := TX3) (N := 5) (ci := 3) (v := .ref xis) hx hb hts hown hK hP iwX3 rfl 5 rfl 3 (by decide) fl21 rfl dX3_takeAll_45 ?_
  refine lv_iconst (v := iZ 0) hx hb dX3_takeAll_48 (by decide) ?_
  refine lv_aload_n hx hb dX3_takeAll_49 rfl (lv_at hl 0 rfl) ?_
  refine z_get (C := RX3) (T0 := TX3) (N := 5) (ci := 3) (v := .ref xfs) hx hb hts hown hK hP iwX3 rfl 0 rfl 3 (by decide) fl21 rfl dX3_takeAll_50 ?_
  refine lv_iconst (v := iZ 0) hx hb dX3_takeAll_53 (by decide) ?_
  refine lv_iconst (v := iZ 4) hx hb dX3_takeAll_54 (by decide) ?_
  refine z_copy hx hb (by rw [hml]; exact hl.1.symm) hown (hts (.methodLink RX3 30 arraycopyName) (by decide +kernel)) (hts (.native arraycopyName) (by decide +kernel)) (hts (.static arraycopyName) (by decide +kernel)) (hts (.initialized "java/lang/System") (by decide +kernel)) hK hP hD hS 9 4 rfl rfl (by decide) (Nat.le_of_ble_eq_true rfl) (Nat.le_of_ble_eq_true rfl) dX3_takeAll_55 (fun H locs hP hD hS => ?_)
  replace hP : va_P D vwCl [(xf, ob 3 [.ref xfk, .ref xfn, .ref xfw, .ref xfs, .int (iZ pe)]), (xfk, aI cI 8 kd2), (xfn, aI cI 8 kn2), (xfw, aI cI 4 wi2), (xfs, aI cI 4 ss2), (xi, ob 3 [.ref xik, .ref xin, .ref xiw, .ref xis, .int (iZ pe2)]), (xik, aI cI 8 kd2), (xin, aI cI 8 kn2), (xiw, aI cI 4 wi2), (xis, aI cI 4 ss2)] H := hP
  replace hD : va_D A [(xf, ob 3 [.ref xfk, .ref xfn, .ref xfw, .ref xfs, .int (iZ pe)]), (xfk, aI cI 8 kd2), (xfn, aI cI 8 kn2), (xfw, aI cI 4 wi2), (xfs, aI cI 4 ss2), (xi, ob 3 [.ref xik, .ref xin, .ref xiw, .ref xis, .int (iZ pe2)]), (xik, aI cI 8 kd2), (xin, aI cI 8 kn2), (xiw, aI cI 4 wi2), (xis, aI cI 4 ss2)] := hD
  refine lv_aload_n hx hb dX3_takeAll_58 rfl (lv_at hl 0 rfl) ?_
  refine lv_aload_n hx hb dX3_takeAll_59 rfl (lv_at hl 1 rfl) ?_
  refine z_get (C := RX3) (T0 := TX3) (N := 5) (ci := 3) (v := .int (iZ pe2)) hx hb hts hown hK hP iwX3 rfl 5 rfl 4 (by decide) fl36 rfl dX3_takeAll_60 ?_
  refine z_put (C := RX3) (T0 := TX3) (N := 5) (ci := 3) (v := .int (iZ pe2)) hx hb hts hown hK hP hD hS iwX3 tyX3_ok nmX3 rfl 0 rfl 4 (by decide) fl36 rfl rfl rfl (Nat.le_of_ble_eq_true rfl) dX3_takeAll_63 (fun H locs hP hD hS => ?_)
  replace hP : va_P D vwCl [(xf, ob 3 [.ref xfk, .ref xfn, .ref xfw, .ref xfs, .int (iZ pe2)]), (xfk, aI cI 8 kd2), (xfn, aI cI 8 kn2), (xfw, aI cI 4 wi2), (xfs, aI cI 4 ss2), (xi, ob 3 [.ref xik, .ref xin, .ref xiw, .ref xis, .int (iZ pe2)]), (xik, aI cI 8 kd2), (xin, aI cI 8 kn2), (xiw, aI cI 4 wi2), (xis, aI cI 4 ss2)] H := hP
  replace hD : va_D A [(xf, ob 3 [.ref xfk, .ref xfn, .ref xfw, .ref xfs, .int (iZ pe2)]), (xfk, aI cI 8 kd2), (xfn, aI cI 8 kn2), (xfw, aI cI 4 wi2), (xfs, aI cI 4 ss2), (xi, ob 3 [.ref xik, .ref xin, .ref xiw, .ref xis, .int (iZ pe2)]), (xik, aI cI 8 kd2), (xin, aI cI 8 kn2), (xiw, aI cI 4 wi2), (xis, aI cI 4 ss2)] := hD
  exact z_vret hx hb hr hlocks hP hD hS dX3_takeAll_66 rfl (by first | (exact rfl) | (exfalso; omega))
theorem qX3_talesSeen : yX3_talesSeen.cls ≠ "java/lang/invoke/MethodHandle" ∧ yX3_talesSeen.cls ≠ "java/lang/invoke/VarHandle" ∧ (parseMethodDescriptor yX3_talesSeen.desc).map (fun d => d.parameters.length) = some 0 := by decide +kernel
set_option maxHeartbeats 4000000 in
set_option maxRecDepth 100000 in
theorem c_X3_talesSeen (l : Launch) (D : va_G) (cI cJ cB : ClassId) (xf xfk xfn xfw xfs : Nat) (wi : Int → Int) (pe : Int) (hwi : ∀ j, -1 ≤ wi j ∧ wi j ≤ 7) : zMi l yX3_talesSeen wsX3_talesSeen (zRm 0 0) D (zT cI cJ cB) [.ref xf] [(xf, ob 3 [.ref xfk, .ref xfn, .ref xfw, .ref xfs, .int (iZ pe)]), (xfw, aI cI 4 wi)] (fun (z : Int) (w : va_W) => hmy wi 4 = z ∧ w = [(xf, ob 3 [.ref xfk, .ref xfn, .ref xfw, .ref xfs, .int (iZ pe)]), (xfw, aI cI 4 wi)]) := by
  refine z_of (Qc := fun A => zQi D [(xf, ob 3 [.ref xfk, .ref xfn, .ref xfw, .ref xfs, .int (iZ pe)]), (xfw, aI cI 4 wi)] A _) (cc := cX3_talesSeen) (maxL := 3) (ret := (some .int)) (by decide) rfl (Nat.le_of_ble_eq_true rfl) ?_
  intro p e s m below meth c A ls hx hb hr hts hown hlocks hml hK hP hD hS hA hl
  replace hown : s.vm.findClass RX3 = some m.cls := hown
  have hC : CallFix p m c cX3_talesSeen 3 s _ wsX3_talesSeen RX3 := ⟨hx, hb, hml, hown, hts⟩
  replace hl : lv_has ls 3 [(0, .ref xf)] := hl
  have iwX3 : ∀ w ∈ u_ws RX3 TX3 5, w ∈ wsX3_talesSeen := fun w h => List.mem_cons_of_mem _ (List.mem_append_right _ h)
  have fl18 : Cond.fieldLink RX3 18 "GrowsByHalf$Folk" "witnesses" "[I" ∈ wsX3_talesSeen := by decide +kernel
  refine lv_iconst (v := iZ 0) hx hb dX3_talesSeen_0 (by decide) ?_
  refine lv_istore_n (lv' := [(1, .int (iZ 0)), (0, .ref xf)]) hx hb dX3_talesSeen_1 rfl hl (by decide) rfl (fun ls hl => ?_)
  refine lv_iconst (v := iZ 0) hx hb dX3_talesSeen_2 (by decide) ?_
  refine lv_istore_n (lv' := [(2, .int (iZ 0)), (1, .int (iZ 0)), (0, .ref xf)]) hx hb dX3_talesSeen_3 rfl hl (by decide) rfl (fun ls hl => ?_)
  have lp4 : ∀ fuel : Nat, ∀ (i sn : Int), (0 ≤ i ∧ i ≤ 4) → (sn = hmy wi i.toNat) → (0 ≤ sn ∧ sn ≤ i) → (4 - i) < (fuel : Int) → ∀ (H : Heap) (locs : List Loc) (ls : Array Slot), va_P D vwCl [(xf, ob 3 [.ref xfk, .ref xfn, .ref xfw, .ref xfs, .int (iZ pe)]), (xfw, aI cI 4 wi)] H → va_D A [(xf, ob 3 [.ref xfk, .ref xfn, .ref xfw, .ref xfs, .int (iZ pe)]), (xfw, aI cI 4 wi)] → va_S A s.heap H locs → lv_has ls 3 [(0, .ref xf), (1, .int (iZ sn)), (2, .int (iZ i))] → W p l e (zRm 0 0) s m [.ref xf].toArray below meth c H locs 0 0 (MQ below (zQi D [(xf, ob 3 [.ref xfk, .ref xfn, .ref xfw, .ref xfs, .int (iZ pe)]), (xfw, aI cI 4 wi)] A (fun (z : Int) (w : va_W) => hmy wi 4 = z ∧ w = [(xf, ob 3 [.ref xfk, .ref xfn, .ref xfw, .ref xfs, .int (iZ pe)]), (xfw, aI cI 4 wi)])) [.ref xf].toArray s 0 0 A) (F0 m 4 ls []) := by
    intro fuel
    induction fuel with
    | zero => intro i sn hi hsn hsr hmu4; exact absurd hmu4 (by omega)
    | succ fuel ih4 =>
      intro i sn hi hsn hsr hmu4 H locs ls hP hD hS hl
      refine lv_iload_n hx hb dX3_talesSeen_4 rfl (lv_at hl 2 rfl) ?_
      refine lv_iconst (v := iZ 4) hx hb dX3_talesSeen_5 (by decide) ?_
      refine z_icmp_ge (tgt := 33) hx hb dX3_talesSeen_6 (by decide) (by first | assumption | omega) (by first | assumption | omega) (fun c_6 => ?_) (fun c_6 => ?_)
      · refine lv_iload_n hx hb dX3_talesSeen_33 rfl (lv_at hl 1 rfl) ?_
        exact z_iret hx hb hr hlocks hP hD hS dX3_talesSeen_34 rfl (by refine ⟨?_, rfl⟩; rw [hsn, show i = 4 from by omega]; (try rfl))
      · refine lv_iload_n hx hb dX3_talesSeen_9 rfl (lv_at hl 1 rfl) ?_
        refine lv_aload_n hx hb dX3_talesSeen_10 rfl (lv_at hl 0 rfl) ?_
        refine z_get (C := RX3) (T0 := TX3) (N := 5) (ci := 3) (v := .ref xfw) hx hb hts hown hK hP iwX3 rfl 0 rfl 2 (by decide) fl18 rfl dX3_talesSeen_11 ?_
        refine lv_iload_n hx hb dX3_talesSeen_14 rfl (lv_at hl 2 rfl) ?_
        refine z_iald hx hb hK hP 1 0 rfl rfl (by decide) (by first | assumption | omega) dX3_talesSeen_15 ?_
        have rd_1 := hwi i
        refine lv_iconst (v := iZ (-1)) hx hb dX3_talesSeen_16 (by decide) ?_
        refine z_icmp_eq (tgt := 24) hx hb dX3_talesSeen_17 (by decide) (by first | assumption | omega) (by first | assumption | omega) (fun c_17 => ?_) (fun c_17 => ?_)
        · refine lv_iconst (v := iZ 0) hx hb dX3_talesSeen_24 (by decide) ?_
          refine z_iadd hx hb dX3_talesSeen_25 ?_
          refine lv_istore_n (lv' := [(1, .int (iZ (sn + 0))), (0, .ref xf), (2, .int (iZ i))]) hx hb dX3_talesSeen_26 rfl hl (by decide) rfl (fun ls hl => ?_)
          refine z_iinc (lv' := [(2, .int (iZ (i + 1))), (1, .int (iZ (sn + 0))), (0, .ref xf)]) hx hb dX3_talesSeen_27 hl (k := 2) rfl (by decide) rfl (fun ls hl => ?_)
          refine lv_goto (tgt := 4) hx hb dX3_talesSeen_30 (by decide) ?_
          exact ih4 (i + 1) (sn + 0) (by first | assumption | omega) (by rw [hmy_s (by omega)]; (first | rw [if_pos (by assumption)] | rw [if_neg (by assumption)]); omega) (by first | assumption | omega) (by omega) _ _ _ hP hD hS (lv_sub hl [2, 1, 0] rfl)
        · refine lv_iconst (v := iZ 1) hx hb dX3_talesSeen_20 (by decide) ?_
          refine lv_goto (tgt := 25) hx hb dX3_talesSeen_21 (by decide) ?_
          refine z_iadd hx hb dX3_talesSeen_25 ?_
          refine lv_istore_n (lv' := [(1, .int (iZ (sn + 1))), (0, .ref xf), (2, .int (iZ i))]) hx hb dX3_talesSeen_26 rfl hl (by decide) rfl (fun ls hl => ?_)
          refine z_iinc (lv' := [(2, .int (iZ (i + 1))), (1, .int (iZ (sn + 1))), (0, .ref xf)]) hx hb dX3_talesSeen_27 hl (k := 2) rfl (by decide) rfl (fun ls hl => ?_)
          refine lv_goto (tgt := 4) hx hb dX3_talesSeen_30 (by decide) ?_
          exact ih4 (i + 1) (sn + 1) (by first | assumption | omega) (by rw [hmy_s (by omega)]; (first | rw [if_pos (by assumption)] | rw [if_neg (by assumption)]); omega) (by first | assumption | omega) (by omega) _ _ _ hP hD hS (lv_sub hl [2, 1, 0] rfl)
  exact lp4 ((4 - 0 : Int) + 1).toNat 0 0 (by first | assumption | omega) (by rfl) (by first | assumption | omega) (by omega) _ _ _ hP hD hS (lv_sub hl [2, 1, 0] rfl)
theorem qX5_allWays : yX5_allWays.cls ≠ "java/lang/invoke/MethodHandle" ∧ yX5_allWays.cls ≠ "java/lang/invoke/VarHandle" ∧ (parseMethodDescriptor yX5_allWays.desc).map (fun d => d.parameters.length) = some 0 := by decide +kernel
set_option maxHeartbeats 4000000 in
set_option maxRecDepth 100000 in
theorem c_X5_allWays (l : Launch) (D : va_G) (cI cJ cB : ClassId) (xo xow : Nat) (tl : Int) (htl : 0 ≤ tl ∧ tl ≤ 9) : zMl l yX5_allWays wsX5_allWays (zRm 0 0) D (zT cI cJ cB) [.ref xo] [(xo, ob 5 [.ref xow, .int (iZ tl)])] (fun (z : Int) (w : va_W) => pwr 10 tl.toNat = z ∧ w = [(xo, ob 5 [.ref xow, .int (iZ tl)])]) := by
  refine z_of (Qc := fun A => zQl D [(xo, ob 5 [.ref xow, .int (iZ tl)])] A _) (cc := cX5_allWays) (maxL := 4) (ret := (some .long)) (by decide) rfl (Nat.le_of_ble_eq_true rfl) ?_
  intro p e s m below meth c A ls hx hb hr hts hown hlocks hml hK hP hD hS hA hl
  replace hown : s.vm.findClass RX5 = some m.cls := hown
  have hC : CallFix p m c cX5_allWays 4 s _ wsX5_allWays RX5 := ⟨hx, hb, hml, hown, hts⟩
  replace hl : lv_has ls 4 [(0, .ref xo)] := hl
  have iwX5 : ∀ w ∈ u_ws RX5 TX5 2, w ∈ wsX5_allWays := fun w h => List.mem_cons_of_mem _ (List.mem_append_right _ h)
  have fl21 : Cond.fieldLink RX5 21 "GrowsByHalf$Odds" "tellers" "I" ∈ wsX5_allWays := by decide +kernel
  refine lv_lconst (v := lZ 1) hx hb dX5_allWays_0 rfl ?_
  refine lv_lstore_n (lv' := [(1, .long (lZ 1)), (0, .ref xo)]) hx hb dX5_allWays_1 rfl hl (by decide) rfl (fun ls hl => ?_)
  refine lv_iconst (v := iZ 0) hx hb dX5_allWays_2 (by decide) ?_
  refine lv_istore_n (lv' := [(3, .int (iZ 0)), (1, .long (lZ 1)), (0, .ref xo)]) hx hb dX5_allWays_3 rfl hl (by decide) rfl (fun ls hl => ?_)
  have lp4 : ∀ fuel : Nat, ∀ (i q : Int), (0 ≤ i ∧ i ≤ tl) → (q = pwr 10 i.toNat) → (tl - i) < (fuel : Int) → ∀ (H : Heap) (locs : List Loc) (ls : Array Slot), va_P D vwCl [(xo, ob 5 [.ref xow, .int (iZ tl)])] H → va_D A [(xo, ob 5 [.ref xow, .int (iZ tl)])] → va_S A s.heap H locs → lv_has ls 4 [(0, .ref xo), (1, .long (lZ q)), (3, .int (iZ i))] → W p l e (zRm 0 0) s m [.ref xo].toArray below meth c H locs 0 0 (MQ below (zQl D [(xo, ob 5 [.ref xow, .int (iZ tl)])] A (fun (z : Int) (w : va_W) => pwr 10 tl.toNat = z ∧ w = [(xo, ob 5 [.ref xow, .int (iZ tl)])])) [.ref xo].toArray s 0 0 A) (F0 m 4 ls []) := by
    intro fuel
    induction fuel with
    | zero => intro i q hi hq0 hmu4; exact absurd hmu4 (by omega)
    | succ fuel ih4 =>
      intro i q hi hq0 hmu4 H locs ls hP hD hS hl
      refine lv_iload_n hx hb dX5_allWays_4 rfl (lv_at hl 2 rfl) ?_
      refine lv_aload_n hx hb dX5_allWays_5 rfl (lv_at hl 0 rfl) ?_
      refine z_get (C := RX5) (T0 := TX5) (N := 2) (ci := 5) (v := .int (iZ tl)) hx hb hts hown hK hP iwX5 rfl 0 rfl 1 (by decide) fl21 rfl dX5_allWays_6 ?_
      refine z_icmp_ge (tgt := 24) hx hb dX5_allWays_9 (by decide) (by first | assumption | omega) (by first | assumption | omega) (fun c_9 => ?_) (fun c_9 => ?_)
      · refine lv_lload_n hx hb dX5_allWays_24 rfl (lv_at hl 1 rfl) ?_
        exact z_lret hx hb hr hlocks hP hD hS dX5_allWays_25 rfl (by refine ⟨?_, rfl⟩; rw [hq0, show i = tl from by omega])
      · refine lv_lload_n hx hb dX5_allWays_12 rfl (lv_at hl 1 rfl) ?_
        refine lv_ldc2 (v := lZ 10) hx hb hown (hts (.constantLong RX5 31 (10)) (by decide +kernel)) dX5_allWays_13 ?_
        refine z_lmul hx hb dX5_allWays_16 ?_
        refine lv_lstore_n (lv' := [(1, .long (lZ (q * 10))), (0, .ref xo), (3, .int (iZ i))]) hx hb dX5_allWays_17 rfl hl (by decide) rfl (fun ls hl => ?_)
        refine z_iinc (lv' := [(3, .int (iZ (i + 1))), (1, .long (lZ (q * 10))), (0, .ref xo)]) hx hb dX5_allWays_18 hl (k := 2) rfl (by decide) rfl (fun ls hl => ?_)
        refine lv_goto (tgt := 4) hx hb dX5_allWays_21 (by decide) ?_
        exact ih4 (i + 1) (q * 10) (by first | assumption | omega) (by rw [pwr_s (by omega), hq0]) (by omega) _ _ _ hP hD hS (lv_sub hl [2, 1, 0] rfl)
  exact lp4 ((tl - 0 : Int) + 1).toNat 0 1 (by first | assumption | omega) (by rfl) (by omega) _ _ _ hP hD hS (lv_sub hl [2, 1, 0] rfl)
theorem qX5_waysFrom : yX5_waysFrom.cls ≠ "java/lang/invoke/MethodHandle" ∧ yX5_waysFrom.cls ≠ "java/lang/invoke/VarHandle" ∧ (parseMethodDescriptor yX5_waysFrom.desc).map (fun d => d.parameters.length) = some 3 := by decide +kernel
set_option maxHeartbeats 4000000 in
set_option maxRecDepth 100000 in
theorem c_X5_waysFrom (l : Launch) (D : va_G) (cI cJ cB : ClassId) (xo xow xl xls xld xlm : Nat) (md wy : Int → Int) (st rd tl v x : Int) (hmd : ∀ j, 0 ≤ md j ∧ md j ≤ 9999) (htl : 0 ≤ tl ∧ tl ≤ 9) (hv : 0 ≤ v ∧ v ≤ 9999) (hx0 : 0 ≤ x ∧ x ≤ 9999) : zMl l yX5_waysFrom wsX5_waysFrom (zRm 1 21) D (zT cI cJ cB) [.ref xo, .ref xl, .int (iZ v), .int (iZ x)] [(xo, ob 5 [.ref xow, .int (iZ tl)]), (xow, aL cJ 10 wy), (xl, ob 4 [.ref xls, .ref xld, .ref xlm, .int (iZ st), .int (iZ rd)]), (xlm, aI cI 10000 md)] (fun (z : Int) (w : va_W) => sumW md wy v x (tl + 1).toNat = z ∧ w = [(xo, ob 5 [.ref xow, .int (iZ tl)]), (xow, aL cJ 10 wy), (xl, ob 4 [.ref xls, .ref xld, .ref xlm, .int (iZ st), .int (iZ rd)]), (xlm, aI cI 10000 md)]) := by
  refine z_of (Qc := fun A => zQl D [(xo, ob 5 [.ref xow, .int (iZ tl)]), (xow, aL cJ 10 wy), (xl, ob 4 [.ref xls, .ref xld, .ref xlm, .int (iZ st), .int (iZ rd)]), (xlm, aI cI 10000 md)] A _) (cc := cX5_waysFrom) (maxL := 8) (ret := (some .long)) (by decide) rfl (Nat.le_of_ble_eq_true rfl) ?_
  intro p e s m below meth c A ls hx hb hr hts hown hlocks hml hK hP hD hS hA hl
  replace hown : s.vm.findClass RX5 = some m.cls := hown
  have hC : CallFix p m c cX5_waysFrom 8 s _ wsX5_waysFrom RX5 := ⟨hx, hb, hml, hown, hts⟩
  replace hl : lv_has ls 8 [(0, .ref xo), (1, .ref xl), (2, .int (iZ v)), (3, .int (iZ x))] := hl
  have iwX5 : ∀ w ∈ u_ws RX5 TX5 2, w ∈ wsX5_waysFrom := fun w h => List.mem_cons_of_mem _ (List.mem_append_left _ (List.mem_append_right _ h))
  have fl9 : Cond.fieldLink RX5 9 "GrowsByHalf$Odds" "ways" "[J" ∈ wsX5_waysFrom := by decide +kernel
  have fl21 : Cond.fieldLink RX5 21 "GrowsByHalf$Odds" "tellers" "I" ∈ wsX5_waysFrom := by decide +kernel
  refine lv_lconst (v := lZ 0) hx hb dX5_waysFrom_0 rfl ?_
  refine lv_lstore (lv' := [(4, .long (lZ 0)), (0, .ref xo), (1, .ref xl), (2, .int (iZ v)), (3, .int (iZ x))]) hx hb dX5_waysFrom_1 hl (by decide) rfl (fun ls hl => ?_)
  refine lv_iload_n hx hb dX5_waysFrom_3 rfl (lv_at hl 3 rfl) ?_
  refine lv_istore (lv' := [(6, .int (iZ v)), (4, .long (lZ 0)), (0, .ref xo), (1, .ref xl), (2, .int (iZ v)), (3, .int (iZ x))]) hx hb dX5_waysFrom_4 hl (by decide) rfl (fun ls hl => ?_)
  refine lv_iconst (v := iZ 0) hx hb dX5_waysFrom_6 (by decide) ?_
  refine lv_istore (lv' := [(7, .int (iZ 0)), (6, .int (iZ v)), (4, .long (lZ 0)), (0, .ref xo), (1, .ref xl), (2, .int (iZ v)), (3, .int (iZ x))]) hx hb dX5_waysFrom_7 hl (by decide) rfl (fun ls hl => ?_)
  have lp9 : ∀ fuel : Nat, ∀ (i q u : Int), (0 ≤ i ∧ i ≤ tl + 1) → (q = sumW md wy v x i.toNat) → (u = itr md i.toNat v) → (0 ≤ u ∧ u ≤ 9999) → (tl + 1 - i) < (fuel : Int) → ∀ (H : Heap) (locs : List Loc) (ls : Array Slot), va_P D vwCl [(xo, ob 5 [.ref xow, .int (iZ tl)]), (xow, aL cJ 10 wy), (xl, ob 4 [.ref xls, .ref xld, .ref xlm, .int (iZ st), .int (iZ rd)]), (xlm, aI cI 10000 md)] H → va_D A [(xo, ob 5 [.ref xow, .int (iZ tl)]), (xow, aL cJ 10 wy), (xl, ob 4 [.ref xls, .ref xld, .ref xlm, .int (iZ st), .int (iZ rd)]), (xlm, aI cI 10000 md)] → va_S A s.heap H locs → lv_has ls 8 [(0, .ref xo), (1, .ref xl), (3, .int (iZ x)), (4, .long (lZ q)), (6, .int (iZ u)), (7, .int (iZ i))] → W p l e (zRm 1 21) s m [.ref xo, .ref xl, .int (iZ v), .int (iZ x)].toArray below meth c H locs 0 0 (MQ below (zQl D [(xo, ob 5 [.ref xow, .int (iZ tl)]), (xow, aL cJ 10 wy), (xl, ob 4 [.ref xls, .ref xld, .ref xlm, .int (iZ st), .int (iZ rd)]), (xlm, aI cI 10000 md)] A (fun (z : Int) (w : va_W) => sumW md wy v x (tl + 1).toNat = z ∧ w = [(xo, ob 5 [.ref xow, .int (iZ tl)]), (xow, aL cJ 10 wy), (xl, ob 4 [.ref xls, .ref xld, .ref xlm, .int (iZ st), .int (iZ rd)]), (xlm, aI cI 10000 md)])) [.ref xo, .ref xl, .int (iZ v), .int (iZ x)].toArray s 0 0 A) (F0 m 9 ls []) := by
    intro fuel
    induction fuel with
    | zero => intro i q u hi hq0 hu hur hmu9; exact absurd hmu9 (by omega)
    | succ fuel ih9 =>
      intro i q u hi hq0 hu hur hmu9 H locs ls hP hD hS hl
      refine lv_iload hx hb dX5_waysFrom_9 (lv_at hl 5 rfl) ?_
      refine lv_aload_n hx hb dX5_waysFrom_11 rfl (lv_at hl 0 rfl) ?_
      refine z_get (C := RX5) (T0 := TX5) (N := 2) (ci := 5) (v := .int (iZ tl)) hx hb hts hown hK hP iwX5 rfl 0 rfl 1 (by decide) fl21 rfl dX5_waysFrom_12 ?_
      refine z_icmp_gt (tgt := 61) hx hb dX5_waysFrom_15 (by decide) (by first | assumption | omega) (by first | assumption | omega) (fun c_15 => ?_) (fun c_15 => ?_)
      · refine lv_lload hx hb dX5_waysFrom_61 (lv_at hl 3 rfl) ?_
        exact z_lret hx hb hr hlocks hP hD hS dX5_waysFrom_63 rfl (by refine ⟨?_, rfl⟩; rw [hq0, show i = tl + 1 from by omega])
      · refine lv_iload hx hb dX5_waysFrom_18 (lv_at hl 5 rfl) ?_
        refine lv_bipush (v := iZ 9) hx hb dX5_waysFrom_20 (by decide) ?_
        refine z_icmp_gt (tgt := 61) hx hb dX5_waysFrom_22 (by decide) (by first | assumption | omega) (by first | assumption | omega) (fun c_22 => ?_) (fun c_22 => ?_)
        · refine lv_lload hx hb dX5_waysFrom_61 (lv_at hl 3 rfl) ?_
          exact z_lret hx hb hr hlocks hP hD hS dX5_waysFrom_63 rfl (by refine ⟨?_, rfl⟩; rw [hq0, show i = tl + 1 from by omega])
        · refine lv_lload hx hb dX5_waysFrom_25 (lv_at hl 3 rfl) ?_
          refine lv_iload hx hb dX5_waysFrom_27 (lv_at hl 4 rfl) ?_
          refine lv_iload_n hx hb dX5_waysFrom_29 rfl (lv_at hl 2 rfl) ?_
          refine z_icmp_ne (tgt := 43) hx hb dX5_waysFrom_30 (by decide) (by first | assumption | omega) (by first | assumption | omega) (fun c_30 => ?_) (fun c_30 => ?_)
          · refine lv_lconst (v := lZ 0) hx hb dX5_waysFrom_43 rfl ?_
            refine z_ladd hx hb dX5_waysFrom_44 ?_
            refine lv_lstore (lv' := [(4, .long (lZ (q + 0))), (0, .ref xo), (1, .ref xl), (3, .int (iZ x)), (6, .int (iZ u)), (7, .int (iZ i))]) hx hb dX5_waysFrom_45 hl (by decide) rfl (fun ls hl => ?_)
            refine lv_aload_n hx hb dX5_waysFrom_47 rfl (lv_at hl 2 rfl) ?_
            refine lv_iload hx hb dX5_waysFrom_48 (lv_at hl 4 rfl) ?_
            refine z_Vi (As := [.int (iZ u)]) (rest := []) hC (c_X4_makes l D cI cJ cB xl xls xld xlm md st rd u (by first | assumption | omega) (by first | assumption | omega)) 1 gX5_waysFrom_X4_makes rfl rfl rfl ⟨rfl, qX4_makes⟩ ⟨Nat.le_of_ble_eq_true rfl, Nat.le_of_ble_eq_true rfl⟩ ⟨Nat.le_refl _, Nat.le_refl _⟩ hK hP hD hS hA [2, 3] rfl (by decide) 2 rfl rfl rfl hl.1 rfl (Nat.le_of_ble_eq_true rfl) dX5_waysFrom_50 (fun z w H locs hq hP hD hS => ?_)
            rcases hq with ⟨rfl, rfl, hc1_0⟩
            replace hP : va_P D vwCl [(xo, ob 5 [.ref xow, .int (iZ tl)]), (xow, aL cJ 10 wy), (xl, ob 4 [.ref xls, .ref xld, .ref xlm, .int (iZ st), .int (iZ rd)]), (xlm, aI cI 10000 md)] H := hP
            replace hD : va_D A [(xo, ob 5 [.ref xow, .int (iZ tl)]), (xow, aL cJ 10 wy), (xl, ob 4 [.ref xls, .ref xld, .ref xlm, .int (iZ st), .int (iZ rd)]), (xlm, aI cI 10000 md)] := hD
            refine lv_istore (lv' := [(6, .int (iZ (md u))), (4, .long (lZ (q + 0))), (0, .ref xo), (1, .ref xl), (3, .int (iZ x)), (7, .int (iZ i))]) hx hb dX5_waysFrom_53 hl (by decide) rfl (fun ls hl => ?_)
            refine z_iinc (lv' := [(7, .int (iZ (i + 1))), (6, .int (iZ (md u))), (4, .long (lZ (q + 0))), (0, .ref xo), (1, .ref xl), (3, .int (iZ x))]) hx hb dX5_waysFrom_55 hl (k := 5) rfl (by decide) rfl (fun ls hl => ?_)
            refine lv_goto (tgt := 9) hx hb dX5_waysFrom_58 (by decide) ?_
            exact ih9 (i + 1) (q + 0) (md u) (by first | assumption | omega) (by rw [sumW_s (by omega), ← hu, hq0]; (first | rw [if_pos (by assumption)] | rw [if_neg (by assumption)])) (by rw [itr_s (by omega), hu]) (by first | assumption | omega) (by omega) _ _ _ hP hD hS (lv_sub hl [3, 4, 5, 2, 1, 0] rfl)
          · refine lv_aload_n hx hb dX5_waysFrom_33 rfl (lv_at hl 0 rfl) ?_
            refine z_get (C := RX5) (T0 := TX5) (N := 2) (ci := 5) (v := .ref xow) hx hb hts hown hK hP iwX5 rfl 0 rfl 0 (by decide) fl9 rfl dX5_waysFrom_34 ?_
            refine lv_iload hx hb dX5_waysFrom_37 (lv_at hl 5 rfl) ?_
            refine z_lald hx hb hK hP 1 1 rfl rfl (by decide) (by first | assumption | omega) dX5_waysFrom_39 ?_
            refine lv_goto (tgt := 44) hx hb dX5_waysFrom_40 (by decide) ?_
            refine z_ladd hx hb dX5_waysFrom_44 ?_
            refine lv_lstore (lv' := [(4, .long (lZ (q + (wy i)))), (0, .ref xo), (1, .ref xl), (3, .int (iZ x)), (6, .int (iZ u)), (7, .int (iZ i))]) hx hb dX5_waysFrom_45 hl (by decide) rfl (fun ls hl => ?_)
            refine lv_aload_n hx hb dX5_waysFrom_47 rfl (lv_at hl 2 rfl) ?_
            refine lv_iload hx hb dX5_waysFrom_48 (lv_at hl 4 rfl) ?_
            refine z_Vi (As := [.int (iZ u)]) (rest := []) hC (c_X4_makes l D cI cJ cB xl xls xld xlm md st rd u (by first | assumption | omega) (by first | assumption | omega)) 1 gX5_waysFrom_X4_makes rfl rfl rfl ⟨rfl, qX4_makes⟩ ⟨Nat.le_of_ble_eq_true rfl, Nat.le_of_ble_eq_true rfl⟩ ⟨Nat.le_refl _, Nat.le_refl _⟩ hK hP hD hS hA [2, 3] rfl (by decide) 2 rfl rfl rfl hl.1 rfl (Nat.le_of_ble_eq_true rfl) dX5_waysFrom_50 (fun z w H locs hq hP hD hS => ?_)
            rcases hq with ⟨rfl, rfl, hc2_0⟩
            replace hP : va_P D vwCl [(xo, ob 5 [.ref xow, .int (iZ tl)]), (xow, aL cJ 10 wy), (xl, ob 4 [.ref xls, .ref xld, .ref xlm, .int (iZ st), .int (iZ rd)]), (xlm, aI cI 10000 md)] H := hP
            replace hD : va_D A [(xo, ob 5 [.ref xow, .int (iZ tl)]), (xow, aL cJ 10 wy), (xl, ob 4 [.ref xls, .ref xld, .ref xlm, .int (iZ st), .int (iZ rd)]), (xlm, aI cI 10000 md)] := hD
            refine lv_istore (lv' := [(6, .int (iZ (md u))), (4, .long (lZ (q + (wy i)))), (0, .ref xo), (1, .ref xl), (3, .int (iZ x)), (7, .int (iZ i))]) hx hb dX5_waysFrom_53 hl (by decide) rfl (fun ls hl => ?_)
            refine z_iinc (lv' := [(7, .int (iZ (i + 1))), (6, .int (iZ (md u))), (4, .long (lZ (q + (wy i)))), (0, .ref xo), (1, .ref xl), (3, .int (iZ x))]) hx hb dX5_waysFrom_55 hl (k := 5) rfl (by decide) rfl (fun ls hl => ?_)
            refine lv_goto (tgt := 9) hx hb dX5_waysFrom_58 (by decide) ?_
            exact ih9 (i + 1) (q + (wy i)) (md u) (by first | assumption | omega) (by rw [sumW_s (by omega), ← hu, hq0]; (first | rw [if_pos (by assumption)] | rw [if_neg (by assumption)])) (by rw [itr_s (by omega), hu]) (by first | assumption | omega) (by omega) _ _ _ hP hD hS (lv_sub hl [3, 4, 5, 2, 1, 0] rfl)
  exact lp9 ((tl + 1 - 0 : Int) + 1).toNat 0 0 v (by first | assumption | omega) (by rfl) (by rfl) (by first | assumption | omega) (by omega) _ _ _ hP hD hS (lv_sub hl [3, 4, 6, 2, 1, 0] rfl)
theorem qX5_weigh : yX5_weigh.cls ≠ "java/lang/invoke/MethodHandle" ∧ yX5_weigh.cls ≠ "java/lang/invoke/VarHandle" ∧ (parseMethodDescriptor yX5_weigh.desc).map (fun d => d.parameters.length) = some 2 := by decide +kernel
set_option maxHeartbeats 4000000 in
set_option maxRecDepth 100000 in
theorem c_X5_weigh (l : Launch) (D : va_G) (cI cJ cB : ClassId) (xo xow : Nat) (wy : Int → Int) (tl hm t : Int) (hhm : 1 ≤ hm ∧ hm ≤ 9) (ht : 0 ≤ t ∧ t ≤ 10) : zMv l yX5_weigh wsX5_weigh (zRm 1 24) D (zT cI cJ cB) [.ref xo, .int (iZ hm), .int (iZ t)] [(xo, ob 5 [.ref xow, .int (iZ tl)]), (xow, aL cJ 10 wy)] (fun (w : va_W) => w = [(xo, ob 5 [.ref xow, .int (iZ hm)]), (xow, aL cJ 10 (wys t hm.toNat))]) := by
  refine z_of (Qc := fun A => zQv D [(xo, ob 5 [.ref xow, .int (iZ tl)]), (xow, aL cJ 10 wy)] A _) (cc := cX5_weigh) (maxL := 5) (ret := none) (by decide) rfl (Nat.le_of_ble_eq_true rfl) ?_
  intro p e s m below meth c A ls hx hb hr hts hown hlocks hml hK hP hD hS hA hl
  replace hown : s.vm.findClass RX5 = some m.cls := hown
  have hC : CallFix p m c cX5_weigh 5 s _ wsX5_weigh RX5 := ⟨hx, hb, hml, hown, hts⟩
  replace hl : lv_has ls 5 [(0, .ref xo), (1, .int (iZ hm)), (2, .int (iZ t))] := hl
  have iwX5 : ∀ w ∈ u_ws RX5 TX5 2, w ∈ wsX5_weigh := fun w h => List.mem_cons_of_mem _ (List.mem_append_right _ h)
  have fl9 : Cond.fieldLink RX5 9 "GrowsByHalf$Odds" "ways" "[J" ∈ wsX5_weigh := by decide +kernel
  have fl21 : Cond.fieldLink RX5 21 "GrowsByHalf$Odds" "tellers" "I" ∈ wsX5_weigh := by decide +kernel
  refine lv_aload_n hx hb dX5_weigh_0 rfl (lv_at hl 0 rfl) ?_
  refine lv_iload_n hx hb dX5_weigh_1 rfl (lv_at hl 1 rfl) ?_
  refine lv_bipush (v := iZ 9) hx hb dX5_weigh_2 (by decide) ?_
  refine z_mmin hx hb (by rw [hml]; exact hl.1.symm) hown (hts (.methodLink RX5 15 Lib.Math.min.name) (by decide +kernel)) (hts (.static Lib.Math.min.name) (by decide +kernel)) (hts (.initialized "java/lang/Math") (by decide +kernel)) (hts (.code Lib.Math.min.name Lib.Math.min.code 2 (some .int)) (by decide +kernel)) (Nat.le_of_ble_eq_true rfl) (Nat.le_of_ble_eq_true rfl) (Nat.le_refl _) (Nat.le_refl _) (by first | assumption | omega) (by first | assumption | omega) dX5_weigh_4 ?_
  refine z_eq (b := hm) (by omega) ?_
  refine z_put (C := RX5) (T0 := TX5) (N := 2) (ci := 5) (v := .int (iZ hm)) hx hb hts hown hK hP hD hS iwX5 tyX5_ok nmX5 rfl 0 rfl 1 (by decide) fl21 rfl rfl rfl (Nat.le_of_ble_eq_true rfl) dX5_weigh_7 (fun H locs hP hD hS => ?_)
  replace hP : va_P D vwCl [(xo, ob 5 [.ref xow, .int (iZ hm)]), (xow, aL cJ 10 wy)] H := hP
  replace hD : va_D A [(xo, ob 5 [.ref xow, .int (iZ hm)]), (xow, aL cJ 10 wy)] := hD
  refine lv_aload_n hx hb dX5_weigh_10 rfl (lv_at hl 0 rfl) ?_
  refine z_get (C := RX5) (T0 := TX5) (N := 2) (ci := 5) (v := .ref xow) hx hb hts hown hK hP iwX5 rfl 0 rfl 0 (by decide) fl9 rfl dX5_weigh_11 ?_
  refine lv_lconst (v := lZ 0) hx hb dX5_weigh_14 rfl ?_
  refine z_Sv (As := [.ref xow, .long (lZ 0)]) (rest := []) hC (c_J7_fill_d0a16 l D cI cJ cB xow 10 wy 0 (by first | assumption | omega)) 2 gX5_weigh_J7_fill_d0a16 rfl rfl rfl qJ7_fill_d0a16 ⟨Nat.le_of_ble_eq_true rfl, Nat.le_of_ble_eq_true rfl⟩ ⟨Nat.le_refl _, Nat.le_refl _⟩ hK hP hD hS hA [1] rfl (by decide) rfl hl.1 rfl (Nat.le_of_ble_eq_true rfl) dX5_weigh_15 (fun w H locs hq hP hD hS => ?_)
  rcases hq with rfl
  replace hP : va_P D vwCl [(xo, ob 5 [.ref xow, .int (iZ hm)]), (xow, aL cJ 10 (fun _ => 0))] H := hP
  replace hD : va_D A [(xo, ob 5 [.ref xow, .int (iZ hm)]), (xow, aL cJ 10 (fun _ => 0))] := hD
  refine lv_aload_n hx hb dX5_weigh_18 rfl (lv_at hl 0 rfl) ?_
  refine z_get (C := RX5) (T0 := TX5) (N := 2) (ci := 5) (v := .ref xow) hx hb hts hown hK hP iwX5 rfl 0 rfl 0 (by decide) fl9 rfl dX5_weigh_19 ?_
  refine lv_iconst (v := iZ 0) hx hb dX5_weigh_22 (by decide) ?_
  refine lv_lconst (v := lZ 1) hx hb dX5_weigh_23 rfl ?_
  refine z_last hx hb hK hP hD hS 1 1 rfl rfl (by omega) (by first | assumption | omega) dX5_weigh_24 (fun H locs hP hD hS => ?_)
  replace hP : va_P D vwCl [(xo, ob 5 [.ref xow, .int (iZ hm)]), (xow, aL cJ 10 (zu (fun _ => 0) 0 1))] H := hP
  replace hD : va_D A [(xo, ob 5 [.ref xow, .int (iZ hm)]), (xow, aL cJ 10 (zu (fun _ => 0) 0 1))] := hD
  refine lv_iconst (v := iZ 1) hx hb dX5_weigh_25 (by decide) ?_
  refine lv_istore_n (lv' := [(3, .int (iZ 1)), (0, .ref xo), (1, .int (iZ hm)), (2, .int (iZ t))]) hx hb dX5_weigh_26 rfl hl (by decide) rfl (fun ls hl => ?_)
  have lp27 : ∀ fuel : Nat, ∀ (k : Int) (w1 : Int → Int), (1 ≤ k ∧ k ≤ hm + 1) → (∀ j, 0 ≤ j → j < 10 → w1 j = wys t (k - 1).toNat j) → (hm + 1 - k) < (fuel : Int) → ∀ (H : Heap) (locs : List Loc) (ls : Array Slot), va_P D vwCl [(xo, ob 5 [.ref xow, .int (iZ hm)]), (xow, aL cJ 10 w1)] H → va_D A [(xo, ob 5 [.ref xow, .int (iZ hm)]), (xow, aL cJ 10 w1)] → va_S A s.heap H locs → lv_has ls 5 [(0, .ref xo), (1, .int (iZ hm)), (2, .int (iZ t)), (3, .int (iZ k))] → W p l e (zRm 1 24) s m [.ref xo, .int (iZ hm), .int (iZ t)].toArray below meth c H locs 0 0 (MQ below (zQv D [(xo, ob 5 [.ref xow, .int (iZ tl)]), (xow, aL cJ 10 wy)] A (fun (w : va_W) => w = [(xo, ob 5 [.ref xow, .int (iZ hm)]), (xow, aL cJ 10 (wys t hm.toNat))])) [.ref xo, .int (iZ hm), .int (iZ t)].toArray s 0 0 A) (F0 m 27 ls []) := by
    intro fuel
    induction fuel with
    | zero => intro k w1 hk hw1 hmu27; exact absurd hmu27 (by omega)
    | succ fuel ih27 =>
      intro k w1 hk hw1 hmu27 H locs ls hP hD hS hl
      refine lv_iload_n hx hb dX5_weigh_27 rfl (lv_at hl 3 rfl) ?_
      refine lv_aload_n hx hb dX5_weigh_28 rfl (lv_at hl 0 rfl) ?_
      refine z_get (C := RX5) (T0 := TX5) (N := 2) (ci := 5) (v := .int (iZ hm)) hx hb hts hown hK hP iwX5 rfl 0 rfl 1 (by decide) fl21 rfl dX5_weigh_29 ?_
      refine z_icmp_gt (tgt := 99) hx hb dX5_weigh_32 (by decide) (by first | assumption | omega) (by first | assumption | omega) (fun c_32 => ?_) (fun c_32 => ?_)
      · obtain ⟨hP, hD⟩ := z_cgL hP hD 1 (g' := wys t hm.toNat) rfl (by intro j h1 h2; rw [hw1 j h1 h2, show k - 1 = hm from by omega])
        replace hP : va_P D vwCl [(xo, ob 5 [.ref xow, .int (iZ hm)]), (xow, aL cJ 10 (wys t hm.toNat))] H := hP
        replace hD : va_D A [(xo, ob 5 [.ref xow, .int (iZ hm)]), (xow, aL cJ 10 (wys t hm.toNat))] := hD
        exact z_vret hx hb hr hlocks hP hD hS dX5_weigh_99 rfl (by first | (exact rfl) | (exfalso; omega))
      · refine lv_iload_n hx hb dX5_weigh_35 rfl (lv_at hl 3 rfl) ?_
        refine lv_istore (lv' := [(4, .int (iZ k)), (0, .ref xo), (1, .int (iZ hm)), (2, .int (iZ t)), (3, .int (iZ k))]) hx hb dX5_weigh_36 hl (by decide) rfl (fun ls hl => ?_)
        have lp38 : ∀ fuel : Nat, ∀ (g : Int) (w2 : Int → Int), (0 ≤ g ∧ g ≤ k) → (∀ j, 0 ≤ j → j < 10 → w2 j = if g < j ∧ j ≤ k then w1 j * t + w1 (j - 1) * (10 - t) else w1 j) → (g) < (fuel : Int) → ∀ (H : Heap) (locs : List Loc) (ls : Array Slot), va_P D vwCl [(xo, ob 5 [.ref xow, .int (iZ hm)]), (xow, aL cJ 10 w2)] H → va_D A [(xo, ob 5 [.ref xow, .int (iZ hm)]), (xow, aL cJ 10 w2)] → va_S A s.heap H locs → lv_has ls 5 [(0, .ref xo), (1, .int (iZ hm)), (2, .int (iZ t)), (3, .int (iZ k)), (4, .int (iZ g))] → W p l e (zRm 1 24) s m [.ref xo, .int (iZ hm), .int (iZ t)].toArray below meth c H locs 0 0 (MQ below (zQv D [(xo, ob 5 [.ref xow, .int (iZ tl)]), (xow, aL cJ 10 wy)] A (fun (w : va_W) => w = [(xo, ob 5 [.ref xow, .int (iZ hm)]), (xow, aL cJ 10 (wys t hm.toNat))])) [.ref xo, .int (iZ hm), .int (iZ t)].toArray s 0 0 A) (F0 m 38 ls []) := by
          intro fuel
          induction fuel with
          | zero => intro g w2 hg hw2 hmu38; exact absurd hmu38 (by omega)
          | succ fuel ih38 =>
            intro g w2 hg hw2 hmu38 H locs ls hP hD hS hl
            refine lv_iload hx hb dX5_weigh_38 (lv_at hl 4 rfl) ?_
            refine z_if_le (tgt := 82) hx hb dX5_weigh_40 (by decide) (by first | assumption | omega) (fun c_40 => ?_) (fun c_40 => ?_)
            · refine lv_aload_n hx hb dX5_weigh_82 rfl (lv_at hl 0 rfl) ?_
              refine z_get (C := RX5) (T0 := TX5) (N := 2) (ci := 5) (v := .ref xow) hx hb hts hown hK hP iwX5 rfl 0 rfl 0 (by decide) fl9 rfl dX5_weigh_83 ?_
              refine lv_iconst (v := iZ 0) hx hb dX5_weigh_86 (by decide) ?_
              refine lv_dup2_11 hx hb dX5_weigh_87 rfl rfl ?_
              refine z_lald hx hb hK hP 1 1 rfl rfl (by decide) (by first | assumption | omega) dX5_weigh_88 ?_
              refine lv_iload_n hx hb dX5_weigh_89 rfl (lv_at hl 2 rfl) ?_
              refine z_i2l hx hb (by first | assumption | omega) dX5_weigh_90 ?_
              refine z_lmul hx hb dX5_weigh_91 ?_
              refine z_last hx hb hK hP hD hS 1 1 rfl rfl (by decide) (by first | assumption | omega) dX5_weigh_92 (fun H locs hP hD hS => ?_)
              replace hP : va_P D vwCl [(xo, ob 5 [.ref xow, .int (iZ hm)]), (xow, aL cJ 10 (zu w2 0 ((w2 0) * t)))] H := hP
              replace hD : va_D A [(xo, ob 5 [.ref xow, .int (iZ hm)]), (xow, aL cJ 10 (zu w2 0 ((w2 0) * t)))] := hD
              refine z_iinc (lv' := [(3, .int (iZ (k + 1))), (0, .ref xo), (1, .int (iZ hm)), (2, .int (iZ t)), (4, .int (iZ g))]) hx hb dX5_weigh_93 hl (k := 3) rfl (by decide) rfl (fun ls hl => ?_)
              refine lv_goto (tgt := 27) hx hb dX5_weigh_96 (by decide) ?_
              exact ih27 (k + 1) (zu w2 0 ((w2 0) * t)) (by first | assumption | omega) (by intro j h1 h2; rw [show k + 1 - 1 = k - 1 + 1 from by omega, wys_sj (by omega), zu_at]; split; (rename_i hj; rw [hw2 0 (by omega) (by omega), if_neg (by omega), hw1 0 (by omega) (by omega)]); (rename_i hj; rw [hw2 j h1 h2]; split; rw [hw1 j h1 h2, hw1 (j - 1) (by omega) (by omega)]; rw [hw1 j h1 h2, wys_out t (k - 1).toNat j (by omega), wys_out t (k - 1).toNat (j - 1) (by omega)]; omega)) (by omega) _ _ _ hP hD hS (lv_sub hl [1, 2, 3, 0] rfl)
            · refine lv_aload_n hx hb dX5_weigh_43 rfl (lv_at hl 0 rfl) ?_
              refine z_get (C := RX5) (T0 := TX5) (N := 2) (ci := 5) (v := .ref xow) hx hb hts hown hK hP iwX5 rfl 0 rfl 0 (by decide) fl9 rfl dX5_weigh_44 ?_
              refine lv_iload hx hb dX5_weigh_47 (lv_at hl 4 rfl) ?_
              refine lv_aload_n hx hb dX5_weigh_49 rfl (lv_at hl 0 rfl) ?_
              refine z_get (C := RX5) (T0 := TX5) (N := 2) (ci := 5) (v := .ref xow) hx hb hts hown hK hP iwX5 rfl 0 rfl 0 (by decide) fl9 rfl dX5_weigh_50 ?_
              refine lv_iload hx hb dX5_weigh_53 (lv_at hl 4 rfl) ?_
              refine z_lald hx hb hK hP 1 1 rfl rfl (by decide) (by first | assumption | omega) dX5_weigh_55 ?_
              refine lv_iload_n hx hb dX5_weigh_56 rfl (lv_at hl 2 rfl) ?_
              refine z_i2l hx hb (by first | assumption | omega) dX5_weigh_57 ?_
              refine z_lmul hx hb dX5_weigh_58 ?_
              refine lv_aload_n hx hb dX5_weigh_59 rfl (lv_at hl 0 rfl) ?_
              refine z_get (C := RX5) (T0 := TX5) (N := 2) (ci := 5) (v := .ref xow) hx hb hts hown hK hP iwX5 rfl 0 rfl 0 (by decide) fl9 rfl dX5_weigh_60 ?_
              refine lv_iload hx hb dX5_weigh_63 (lv_at hl 4 rfl) ?_
              refine lv_iconst (v := iZ 1) hx hb dX5_weigh_65 (by decide) ?_
              refine z_isub hx hb dX5_weigh_66 ?_
              refine z_lald hx hb hK hP 1 1 rfl rfl (by decide) (by first | assumption | omega) dX5_weigh_67 ?_
              refine lv_bipush (v := iZ 10) hx hb dX5_weigh_68 (by decide) ?_
              refine lv_iload_n hx hb dX5_weigh_70 rfl (lv_at hl 2 rfl) ?_
              refine z_isub hx hb dX5_weigh_71 ?_
              refine z_i2l hx hb (by first | assumption | omega) dX5_weigh_72 ?_
              refine z_lmul hx hb dX5_weigh_73 ?_
              refine z_ladd hx hb dX5_weigh_74 ?_
              refine z_last hx hb hK hP hD hS 1 1 rfl rfl (by decide) (by first | assumption | omega) dX5_weigh_75 (fun H locs hP hD hS => ?_)
              replace hP : va_P D vwCl [(xo, ob 5 [.ref xow, .int (iZ hm)]), (xow, aL cJ 10 (zu w2 g (((w2 g) * t) + ((w2 (g - 1)) * (10 - t)))))] H := hP
              replace hD : va_D A [(xo, ob 5 [.ref xow, .int (iZ hm)]), (xow, aL cJ 10 (zu w2 g (((w2 g) * t) + ((w2 (g - 1)) * (10 - t)))))] := hD
              refine z_iinc (lv' := [(4, .int (iZ (g + (-1)))), (0, .ref xo), (1, .int (iZ hm)), (2, .int (iZ t)), (3, .int (iZ k))]) hx hb dX5_weigh_76 hl (k := 4) rfl (by decide) rfl (fun ls hl => ?_)
              refine lv_goto (tgt := 38) hx hb dX5_weigh_79 (by decide) ?_
              exact ih38 (g + (-1)) (zu w2 g (((w2 g) * t) + ((w2 (g - 1)) * (10 - t)))) (by first | assumption | omega) (by intro j h1 h2; rw [zu_at]; split; (rename_i hj; rw [hj, if_pos (by omega), hw2 g (by omega) (by omega), hw2 (g - 1) (by omega) (by omega), if_neg (by omega), if_neg (by omega)]); (rename_i hj; rw [hw2 j h1 h2]; split; rw [if_pos (by omega)]; rw [if_neg (by omega)])) (by omega) _ _ _ hP hD hS (lv_sub hl [1, 2, 3, 4, 0] rfl)
        exact lp38 ((k : Int) + 1).toNat k w1 (by first | assumption | omega) (by intro j h1 h2; rw [if_neg (by omega)]) (by omega) _ _ _ hP hD hS (lv_sub hl [1, 2, 3, 4, 0] rfl)
  exact lp27 ((hm + 1 - 1 : Int) + 1).toNat 1 (zu (fun _ => 0) 0 1) (by first | assumption | omega) (by intro j h1 h2; rw [zu_at]; rfl) (by omega) _ _ _ hP hD hS (lv_sub hl [1, 2, 3, 0] rfl)
theorem qX1_done : yX1_done.cls ≠ "java/lang/invoke/MethodHandle" ∧ yX1_done.cls ≠ "java/lang/invoke/VarHandle" ∧ (parseMethodDescriptor yX1_done.desc).map (fun d => d.parameters.length) = some 0 := by decide +kernel
set_option maxHeartbeats 4000000 in
set_option maxRecDepth 100000 in
theorem c_X1_done (l : Launch) (D : va_G) (cI cJ cB : ClassId) (xc xcm xcl : Nat) (inl few tof dn : Int) : zMi l yX1_done wsX1_done (zRm 0 0) D (zT cI cJ cB) [.ref xc] [(xc, ob 1 [.ref xcm, .ref xcl, .int (iZ inl), .int (iZ few), .int (iZ tof), .int (iZ dn)])] (fun (z : Int) (w : va_W) => dn = z ∧ w = [(xc, ob 1 [.ref xcm, .ref xcl, .int (iZ inl), .int (iZ few), .int (iZ tof), .int (iZ dn)])]) := by
  refine z_of (Qc := fun A => zQi D [(xc, ob 1 [.ref xcm, .ref xcl, .int (iZ inl), .int (iZ few), .int (iZ tof), .int (iZ dn)])] A _) (cc := cX1_done) (maxL := 1) (ret := (some .int)) (by decide) rfl (Nat.le_of_ble_eq_true rfl) ?_
  intro p e s m below meth c A ls hx hb hr hts hown hlocks hml hK hP hD hS hA hl
  replace hown : s.vm.findClass RX1 = some m.cls := hown
  have hC : CallFix p m c cX1_done 1 s _ wsX1_done RX1 := ⟨hx, hb, hml, hown, hts⟩
  replace hl : lv_has ls 1 [(0, .ref xc)] := hl
  have iwX1 : ∀ w ∈ u_ws RX1 TX1 6, w ∈ wsX1_done := fun w h => List.mem_cons_of_mem _ (List.mem_append_right _ h)
  have fl20 : Cond.fieldLink RX1 20 "GrowsByHalf$Chains" "done" "I" ∈ wsX1_done := by decide +kernel
  refine lv_aload_n hx hb dX1_done_0 rfl (lv_at hl 0 rfl) ?_
  refine z_get (C := RX1) (T0 := TX1) (N := 6) (ci := 1) (v := .int (iZ dn)) hx hb hts hown hK hP iwX1 rfl 0 rfl 5 (by decide) fl20 rfl dX1_done_1 ?_
  exact z_iret hx hb hr hlocks hP hD hS dX1_done_4 rfl (by first | (exact ⟨(by first | rfl | omega), rfl⟩) | (exfalso; omega))
theorem qX1_fewest : yX1_fewest.cls ≠ "java/lang/invoke/MethodHandle" ∧ yX1_fewest.cls ≠ "java/lang/invoke/VarHandle" ∧ (parseMethodDescriptor yX1_fewest.desc).map (fun d => d.parameters.length) = some 0 := by decide +kernel
set_option maxHeartbeats 4000000 in
set_option maxRecDepth 100000 in
theorem c_X1_fewest (l : Launch) (D : va_G) (cI cJ cB : ClassId) (xc xcm xcl : Nat) (inl few tof dn : Int) : zMi l yX1_fewest wsX1_fewest (zRm 0 0) D (zT cI cJ cB) [.ref xc] [(xc, ob 1 [.ref xcm, .ref xcl, .int (iZ inl), .int (iZ few), .int (iZ tof), .int (iZ dn)])] (fun (z : Int) (w : va_W) => few = z ∧ w = [(xc, ob 1 [.ref xcm, .ref xcl, .int (iZ inl), .int (iZ few), .int (iZ tof), .int (iZ dn)])]) := by
  refine z_of (Qc := fun A => zQi D [(xc, ob 1 [.ref xcm, .ref xcl, .int (iZ inl), .int (iZ few), .int (iZ tof), .int (iZ dn)])] A _) (cc := cX1_fewest) (maxL := 1) (ret := (some .int)) (by decide) rfl (Nat.le_of_ble_eq_true rfl) ?_
  intro p e s m below meth c A ls hx hb hr hts hown hlocks hml hK hP hD hS hA hl
  replace hown : s.vm.findClass RX1 = some m.cls := hown
  have hC : CallFix p m c cX1_fewest 1 s _ wsX1_fewest RX1 := ⟨hx, hb, hml, hown, hts⟩
  replace hl : lv_has ls 1 [(0, .ref xc)] := hl
  have iwX1 : ∀ w ∈ u_ws RX1 TX1 6, w ∈ wsX1_fewest := fun w h => List.mem_cons_of_mem _ (List.mem_append_right _ h)
  have fl24 : Cond.fieldLink RX1 24 "GrowsByHalf$Chains" "fewest" "I" ∈ wsX1_fewest := by decide +kernel
  refine lv_aload_n hx hb dX1_fewest_0 rfl (lv_at hl 0 rfl) ?_
  refine z_get (C := RX1) (T0 := TX1) (N := 6) (ci := 1) (v := .int (iZ few)) hx hb hts hown hK hP iwX1 rfl 0 rfl 3 (by decide) fl24 rfl dX1_fewest_1 ?_
  exact z_iret hx hb hr hlocks hP hD hS dX1_fewest_4 rfl (by first | (exact ⟨(by first | rfl | omega), rfl⟩) | (exfalso; omega))
theorem qX1_toFirst : yX1_toFirst.cls ≠ "java/lang/invoke/MethodHandle" ∧ yX1_toFirst.cls ≠ "java/lang/invoke/VarHandle" ∧ (parseMethodDescriptor yX1_toFirst.desc).map (fun d => d.parameters.length) = some 0 := by decide +kernel
set_option maxHeartbeats 4000000 in
set_option maxRecDepth 100000 in
theorem c_X1_toFirst (l : Launch) (D : va_G) (cI cJ cB : ClassId) (xc xcm xcl : Nat) (inl few tof dn : Int) : zMi l yX1_toFirst wsX1_toFirst (zRm 0 0) D (zT cI cJ cB) [.ref xc] [(xc, ob 1 [.ref xcm, .ref xcl, .int (iZ inl), .int (iZ few), .int (iZ tof), .int (iZ dn)])] (fun (z : Int) (w : va_W) => tof = z ∧ w = [(xc, ob 1 [.ref xcm, .ref xcl, .int (iZ inl), .int (iZ few), .int (iZ tof), .int (iZ dn)])]) := by
  refine z_of (Qc := fun A => zQi D [(xc, ob 1 [.ref xcm, .ref xcl, .int (iZ inl), .int (iZ few), .int (iZ tof), .int (iZ dn)])] A _) (cc := cX1_toFirst) (maxL := 1) (ret := (some .int)) (by decide) rfl (Nat.le_of_ble_eq_true rfl) ?_
  intro p e s m below meth c A ls hx hb hr hts hown hlocks hml hK hP hD hS hA hl
  replace hown : s.vm.findClass RX1 = some m.cls := hown
  have hC : CallFix p m c cX1_toFirst 1 s _ wsX1_toFirst RX1 := ⟨hx, hb, hml, hown, hts⟩
  replace hl : lv_has ls 1 [(0, .ref xc)] := hl
  have iwX1 : ∀ w ∈ u_ws RX1 TX1 6, w ∈ wsX1_toFirst := fun w h => List.mem_cons_of_mem _ (List.mem_append_right _ h)
  have fl27 : Cond.fieldLink RX1 27 "GrowsByHalf$Chains" "toFirst" "I" ∈ wsX1_toFirst := by decide +kernel
  refine lv_aload_n hx hb dX1_toFirst_0 rfl (lv_at hl 0 rfl) ?_
  refine z_get (C := RX1) (T0 := TX1) (N := 6) (ci := 1) (v := .int (iZ tof)) hx hb hts hown hK hP iwX1 rfl 0 rfl 4 (by decide) fl27 rfl dX1_toFirst_1 ?_
  exact z_iret hx hb hr hlocks hP hD hS dX1_toFirst_4 rfl (by first | (exact ⟨(by first | rfl | omega), rfl⟩) | (exfalso; omega))
theorem qX1_stateOf : yX1_stateOf.cls ≠ "java/lang/invoke/MethodHandle" ∧ yX1_stateOf.cls ≠ "java/lang/invoke/VarHandle" ∧ (parseMethodDescriptor yX1_stateOf.desc).map (fun d => d.parameters.length) = some 2 := by decide +kernel
set_option maxHeartbeats 4000000 in
set_option maxRecDepth 100000 in
theorem c_X1_stateOf (l : Launch) (D : va_G) (cI cJ cB : ClassId) (p0 x : Int) : zMi l yX1_stateOf wsX1_stateOf (zRm 0 0) D (zT cI cJ cB) [.int (iZ p0), .int (iZ x)] [] (fun (z : Int) (w : va_W) => p0 * 10000 + x = z ∧ w = []) := by
  refine z_of (Qc := fun A => zQi D [] A _) (cc := cX1_stateOf) (maxL := 2) (ret := (some .int)) (by decide) rfl (Nat.le_of_ble_eq_true rfl) ?_
  intro p e s m below meth c A ls hx hb hr hts hown hlocks hml hK hP hD hS hA hl
  replace hown : s.vm.findClass RX1 = some m.cls := hown
  have hC : CallFix p m c cX1_stateOf 2 s _ wsX1_stateOf RX1 := ⟨hx, hb, hml, hown, hts⟩
  replace hl : lv_has ls 2 [(0, .int (iZ p0)), (1, .int (iZ x))] := hl
  refine lv_iload_n hx hb dX1_stateOf_0 rfl (lv_at hl 0 rfl) ?_
  refine lv_sipush (v := iZ 10000) hx hb dX1_stateOf_1 (by decide) ?_
  refine z_imul hx hb dX1_stateOf_4 ?_
  refine lv_iload_n hx hb dX1_stateOf_5 rfl (lv_at hl 1 rfl) ?_
  refine z_iadd hx hb dX1_stateOf_6 ?_
  exact z_iret hx hb hr hlocks hP hD hS dX1_stateOf_7 rfl (by first | (exact ⟨(by first | rfl | omega), rfl⟩) | (exfalso; omega))
