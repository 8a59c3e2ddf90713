theorem qX10_stepped : yX10_stepped.cls ≠ "java/lang/invoke/MethodHandle" ∧ yX10_stepped.cls ≠ "java/lang/invoke/VarHandle" ∧ (parseMethodDescriptor yX10_stepped.desc).map (fun d => d.parameters.length) = some 2 := by decide +kernel
set_option maxHeartbeats 4000000 in
set_option maxRecDepth 100000 in
theorem c_X10_stepped (l : Launch) (D : va_G) (cI cJ cB : ClassId) (hm : Nat) (a : Nat → Nat) (st lw tl wk pe ch pl fa iw nm qe sd ik kp hh : Int) (so mu : Int → Int) (v k : Int) (hsu : ∀ j, (0 ≤ so j ∧ so j ≤ 4) ∧ (0 ≤ mu j ∧ mu j ≤ 9) ∧ (so j = 4 → 2 ≤ mu j)) (hv : 0 ≤ v ∧ v ≤ 9999) (hk : 0 ≤ k ∧ k < 4) : zMi l yX10_stepped wsX10_stepped (zRm 0 0) D (zT cI cJ cB) [.ref hm, .int (iZ v), .int (iZ k)] [(hm, ob 10 (mo a st lw tl wk pe ch pl fa iw nm qe sd ik kp hh)), ((a 1), aI cI 4 so), ((a 2), aI cI 4 mu)] (fun (z : Int) (w : va_W) => stp (so k) (mu k) v = z ∧ w = [(hm, ob 10 (mo a st lw tl wk pe ch pl fa iw nm qe sd ik kp hh)), ((a 1), aI cI 4 so), ((a 2), aI cI 4 mu)]) := by
  refine z_of (Qc := fun A => zQi D [(hm, ob 10 (mo a st lw tl wk pe ch pl fa iw nm qe sd ik kp hh)), ((a 1), aI cI 4 so), ((a 2), aI cI 4 mu)] A _) (cc := cX10_stepped) (maxL := 3) (ret := (some .int)) (by decide) rfl (Nat.le_of_ble_eq_true rfl) ?_
  intro p e s m below meth c A ls hx hb hr hts hown hlocks hml hK hP hD hS hA hl
  replace hown : s.vm.findClass RX10 = some m.cls := hown
  have hC : CallFix p m c cX10_stepped 3 s _ wsX10_stepped RX10 := ⟨hx, hb, hml, hown, hts⟩
  replace hl : lv_has ls 3 [(0, .ref hm), (1, .int (iZ v)), (2, .int (iZ k))] := hl
  have iwX10 : ∀ w ∈ u_ws RX10 TX10 36, w ∈ wsX10_stepped := fun w h => List.mem_cons_of_mem _ (List.mem_append_right _ h)
  have fl13 : Cond.fieldLink RX10 13 "GrowsByHalfModel" "stepOf" "[I" ∈ wsX10_stepped := by decide +kernel
  have fl17 : Cond.fieldLink RX10 17 "GrowsByHalfModel" "muchOf" "[I" ∈ wsX10_stepped := by decide +kernel
  have hsk := hsu k
  have hdv := fun q : 0 < mu k => z_divle (a := v) (b := mu k) hv.1 q
  refine lv_aload_n hx hb dX10_stepped_0 rfl (lv_at hl 0 rfl) ?_
  refine z_get (C := RX10) (T0 := TX10) (N := 36) (ci := 10) (v := .ref (a 1)) hx hb hts hown hK hP iwX10 rfl 0 rfl 1 (by decide) fl13 rfl dX10_stepped_1 ?_
  refine lv_iload_n hx hb dX10_stepped_4 rfl (lv_at hl 2 rfl) ?_
  refine z_iald hx hb hK hP 1 0 rfl rfl (by decide) (by first | assumption | omega) dX10_stepped_5 ?_
  by_cases sw6_0 : so k = 0
  · refine z_tab (tgt := 36) (off := 30) hx hb 0 dX10_stepped_6 sw6_0 (by decide) (by decide) (by decide) rfl (by decide) ?_
    refine lv_iload_n hx hb dX10_stepped_36 rfl (lv_at hl 1 rfl) ?_
    refine lv_iload_n hx hb dX10_stepped_37 rfl (lv_at hl 1 rfl) ?_
    refine lv_iconst (v := iZ 2) hx hb dX10_stepped_38 (by decide) ?_
    refine z_idiv hx hb dX10_stepped_39 (by first | assumption | omega) (by first | assumption | omega) ?_
    refine z_iadd hx hb dX10_stepped_40 ?_
    exact z_iret hx hb hr hlocks hP hD hS dX10_stepped_41 rfl (by refine ⟨?_, rfl⟩; unfold stp; repeat (first | (rw [if_pos (by omega)]) | (rw [if_neg (by omega)])); (try rfl))
  by_cases sw6_1 : so k = 1
  · refine z_tab (tgt := 42) (off := 36) hx hb 1 dX10_stepped_6 sw6_1 (by decide) (by decide) (by decide) rfl (by decide) ?_
    refine lv_iconst (v := iZ 2) hx hb dX10_stepped_42 (by decide) ?_
    refine lv_iload_n hx hb dX10_stepped_43 rfl (lv_at hl 1 rfl) ?_
    refine z_imul hx hb dX10_stepped_44 ?_
    exact z_iret hx hb hr hlocks hP hD hS dX10_stepped_45 rfl (by refine ⟨?_, rfl⟩; unfold stp; repeat (first | (rw [if_pos (by omega)]) | (rw [if_neg (by omega)])); (try rfl))
  by_cases sw6_2 : so k = 2
  · refine z_tab (tgt := 46) (off := 40) hx hb 2 dX10_stepped_6 sw6_2 (by decide) (by decide) (by decide) rfl (by decide) ?_
    refine lv_iload_n hx hb dX10_stepped_46 rfl (lv_at hl 1 rfl) ?_
    refine lv_aload_n hx hb dX10_stepped_47 rfl (lv_at hl 0 rfl) ?_
    refine z_get (C := RX10) (T0 := TX10) (N := 36) (ci := 10) (v := .ref (a 2)) hx hb hts hown hK hP iwX10 rfl 0 rfl 2 (by decide) fl17 rfl dX10_stepped_48 ?_
    refine lv_iload_n hx hb dX10_stepped_51 rfl (lv_at hl 2 rfl) ?_
    refine z_iald hx hb hK hP 2 0 rfl rfl (by decide) (by first | assumption | omega) dX10_stepped_52 ?_
    refine z_iadd hx hb dX10_stepped_53 ?_
    exact z_iret hx hb hr hlocks hP hD hS dX10_stepped_54 rfl (by refine ⟨?_, rfl⟩; unfold stp; repeat (first | (rw [if_pos (by omega)]) | (rw [if_neg (by omega)])); (try rfl))
  by_cases sw6_3 : so k = 3
  · refine z_tab (tgt := 55) (off := 49) hx hb 3 dX10_stepped_6 sw6_3 (by decide) (by decide) (by decide) rfl (by decide) ?_
    refine lv_iload_n hx hb dX10_stepped_55 rfl (lv_at hl 1 rfl) ?_
    refine lv_aload_n hx hb dX10_stepped_56 rfl (lv_at hl 0 rfl) ?_
    refine z_get (C := RX10) (T0 := TX10) (N := 36) (ci := 10) (v := .ref (a 2)) hx hb hts hown hK hP iwX10 rfl 0 rfl 2 (by decide) fl17 rfl dX10_stepped_57 ?_
    refine lv_iload_n hx hb dX10_stepped_60 rfl (lv_at hl 2 rfl) ?_
    refine z_iald hx hb hK hP 2 0 rfl rfl (by decide) (by first | assumption | omega) dX10_stepped_61 ?_
    refine z_isub hx hb dX10_stepped_62 ?_
    exact z_iret hx hb hr hlocks hP hD hS dX10_stepped_63 rfl (by refine ⟨?_, rfl⟩; unfold stp; repeat (first | (rw [if_pos (by omega)]) | (rw [if_neg (by omega)])); (try rfl))
  refine z_tabO (tgt := 64) hx hb dX10_stepped_6 (by first | assumption | omega) (by omega) (by decide) ?_
  refine lv_iload_n hx hb dX10_stepped_64 rfl (lv_at hl 1 rfl) ?_
  refine lv_aload_n hx hb dX10_stepped_65 rfl (lv_at hl 0 rfl) ?_
  refine z_get (C := RX10) (T0 := TX10) (N := 36) (ci := 10) (v := .ref (a 2)) hx hb hts hown hK hP iwX10 rfl 0 rfl 2 (by decide) fl17 rfl dX10_stepped_66 ?_
  refine lv_iload_n hx hb dX10_stepped_69 rfl (lv_at hl 2 rfl) ?_
  refine z_iald hx hb hK hP 2 0 rfl rfl (by decide) (by first | assumption | omega) dX10_stepped_70 ?_
  refine z_idiv hx hb dX10_stepped_71 (by first | assumption | omega) (by first | assumption | omega) ?_
  exact z_iret hx hb hr hlocks hP hD hS dX10_stepped_72 rfl (by refine ⟨?_, rfl⟩; unfold stp; repeat (first | (rw [if_pos (by omega)]) | (rw [if_neg (by omega)])); (try rfl))
theorem qX10_grownBy : yX10_grownBy.cls ≠ "java/lang/invoke/MethodHandle" ∧ yX10_grownBy.cls ≠ "java/lang/invoke/VarHandle" ∧ (parseMethodDescriptor yX10_grownBy.desc).map (fun d => d.parameters.length) = some 1 := by decide +kernel
set_option maxHeartbeats 4000000 in
set_option maxRecDepth 100000 in
theorem c_X10_grownBy (l : Launch) (D : va_G) (cI cJ cB : ClassId) (hm : Nat) (a : Nat → Nat) (st lw tl wk pe ch pl fa iw nm qe sd ik kp hh : Int) (so mu : Int → Int) (x : Int) (hsu : ∀ j, (0 ≤ so j ∧ so j ≤ 4) ∧ (0 ≤ mu j ∧ mu j ≤ 9) ∧ (so j = 4 → 2 ≤ mu j)) (hst : 1 ≤ st ∧ st ≤ 4) (hx0 : 0 ≤ x ∧ x ≤ 9999) : zMi l yX10_grownBy wsX10_grownBy (zRm 1 22) D (zT cI cJ cB) [.ref hm, .int (iZ x)] [(hm, ob 10 (mo a st lw tl wk pe ch pl fa iw nm qe sd ik kp hh)), ((a 1), aI cI 4 so), ((a 2), aI cI 4 mu)] (fun (z : Int) (w : va_W) => gro so mu st.toNat x = z ∧ w = [(hm, ob 10 (mo a st lw tl wk pe ch pl fa iw nm qe sd ik kp hh)), ((a 1), aI cI 4 so), ((a 2), aI cI 4 mu)] ∧ (0 ≤ gro so mu st.toNat x ∧ gro so mu st.toNat x ≤ 9999)) := by
  refine z_of (Qc := fun A => zQi D [(hm, ob 10 (mo a st lw tl wk pe ch pl fa iw nm qe sd ik kp hh)), ((a 1), aI cI 4 so), ((a 2), aI cI 4 mu)] A _) (cc := cX10_grownBy) (maxL := 4) (ret := (some .int)) (by decide) rfl (Nat.le_of_ble_eq_true rfl) ?_
  intro p e s m below meth c A ls hx hb hr hts hown hlocks hml hK hP hD hS hA hl
  replace hown : s.vm.findClass RX10 = some m.cls := hown
  have hC : CallFix p m c cX10_grownBy 4 s _ wsX10_grownBy RX10 := ⟨hx, hb, hml, hown, hts⟩
  replace hl : lv_has ls 4 [(0, .ref hm), (1, .int (iZ x))] := hl
  have iwX10 : ∀ w ∈ u_ws RX10 TX10 36, w ∈ wsX10_grownBy := fun w h => List.mem_cons_of_mem _ (List.mem_append_right _ h)
  have fl7 : Cond.fieldLink RX10 7 "GrowsByHalfModel" "steps" "I" ∈ wsX10_grownBy := by decide +kernel
  refine lv_iload_n hx hb dX10_grownBy_0 rfl (lv_at hl 1 rfl) ?_
  refine lv_istore_n (lv' := [(2, .int (iZ x)), (0, .ref hm), (1, .int (iZ x))]) hx hb dX10_grownBy_1 rfl hl (by decide) rfl (fun ls hl => ?_)
  refine lv_iconst (v := iZ 0) hx hb dX10_grownBy_2 (by decide) ?_
  refine lv_istore_n (lv' := [(3, .int (iZ 0)), (2, .int (iZ x)), (0, .ref hm), (1, .int (iZ x))]) hx hb dX10_grownBy_3 rfl hl (by decide) rfl (fun ls hl => ?_)
  have lp4 : ∀ fuel : Nat, ∀ (k v : Int), (0 ≤ k ∧ k ≤ st) → (v = gro so mu k.toNat x) → (0 ≤ v ∧ v ≤ 9999) → (st - k) < (fuel : Int) → ∀ (H : Heap) (locs : List Loc) (ls : Array Slot), va_P D vwCl [(hm, ob 10 (mo a st lw tl wk pe ch pl fa iw nm qe sd ik kp hh)), ((a 1), aI cI 4 so), ((a 2), aI cI 4 mu)] H → va_D A [(hm, ob 10 (mo a st lw tl wk pe ch pl fa iw nm qe sd ik kp hh)), ((a 1), aI cI 4 so), ((a 2), aI cI 4 mu)] → va_S A s.heap H locs → lv_has ls 4 [(0, .ref hm), (1, .int (iZ x)), (2, .int (iZ v)), (3, .int (iZ k))] → W p l e (zRm 1 22) s m [.ref hm, .int (iZ x)].toArray below meth c H locs 0 0 (MQ below (zQi D [(hm, ob 10 (mo a st lw tl wk pe ch pl fa iw nm qe sd ik kp hh)), ((a 1), aI cI 4 so), ((a 2), aI cI 4 mu)] A (fun (z : Int) (w : va_W) => gro so mu st.toNat x = z ∧ w = [(hm, ob 10 (mo a st lw tl wk pe ch pl fa iw nm qe sd ik kp hh)), ((a 1), aI cI 4 so), ((a 2), aI cI 4 mu)] ∧ (0 ≤ gro so mu st.toNat x ∧ gro so mu st.toNat x ≤ 9999))) [.ref hm, .int (iZ x)].toArray s 0 0 A) (F0 m 4 ls []) := by
    intro fuel
    induction fuel with
    | zero => intro k v hk hv hvr hmu4; exact absurd hmu4 (by omega)
    | succ fuel ih4 =>
      intro k v hk hv hvr hmu4 H locs ls hP hD hS hl
      refine lv_iload_n hx hb dX10_grownBy_4 rfl (lv_at hl 3 rfl) ?_
      refine lv_aload_n hx hb dX10_grownBy_5 rfl (lv_at hl 0 rfl) ?_
      refine z_get (C := RX10) (T0 := TX10) (N := 36) (ci := 10) (v := .int (iZ st)) hx hb hts hown hK hP iwX10 rfl 0 rfl 0 (by decide) fl7 rfl dX10_grownBy_6 ?_
      refine z_icmp_ge (tgt := 28) hx hb dX10_grownBy_9 (by decide) (by first | assumption | omega) (by first | assumption | omega) (fun c_9 => ?_) (fun c_9 => ?_)
      · refine lv_iload_n hx hb dX10_grownBy_28 rfl (lv_at hl 2 rfl) ?_
        exact z_iret hx hb hr hlocks hP hD hS dX10_grownBy_29 rfl (by have h9 : k = st := (by omega); rw [h9] at hv; exact ⟨hv.symm, rfl, gro_rng hst.1 x⟩)
      · refine lv_aload_n hx hb dX10_grownBy_12 rfl (lv_at hl 0 rfl) ?_
        refine lv_iload_n hx hb dX10_grownBy_13 rfl (lv_at hl 2 rfl) ?_
        refine lv_iload_n hx hb dX10_grownBy_14 rfl (lv_at hl 3 rfl) ?_
        refine z_Vi (As := [.int (iZ v), .int (iZ k)]) (rest := []) hC (c_X10_stepped l D cI cJ cB hm a st lw tl wk pe ch pl fa iw nm qe sd ik kp hh so mu v k (by first | assumption | omega) (by first | assumption | omega) (by first | assumption | omega)) 2 gX10_grownBy_X10_stepped rfl rfl rfl ⟨rfl, qX10_stepped⟩ ⟨Nat.le_of_ble_eq_true rfl, Nat.le_of_ble_eq_true rfl⟩ ⟨Nat.le_refl _, Nat.le_refl _⟩ hK hP hD hS hA [0, 1, 2] rfl (by decide) 0 rfl rfl rfl hl.1 rfl (Nat.le_of_ble_eq_true rfl) dX10_grownBy_15 (fun z w H locs hq hP hD hS => ?_)
        rcases hq with ⟨rfl, rfl⟩
        replace hP : va_P D vwCl [(hm, ob 10 (mo a st lw tl wk pe ch pl fa iw nm qe sd ik kp hh)), ((a 1), aI cI 4 so), ((a 2), aI cI 4 mu)] H := hP
        replace hD : va_D A [(hm, ob 10 (mo a st lw tl wk pe ch pl fa iw nm qe sd ik kp hh)), ((a 1), aI cI 4 so), ((a 2), aI cI 4 mu)] := hD
        have hsk := hsu k
        have hsr := stp_rng (s := so k) (d := mu k) (v := v) hsk.2.1 hsk.2.2 hsk.1 hvr
        refine z_Si (As := [.int (iZ (stp (so k) (mu k) v))]) (rest := []) hC (c_X10_capped l D cI cJ cB (stp (so k) (mu k) v) (by first | assumption | omega)) 1 gX10_grownBy_X10_capped rfl rfl rfl qX10_capped ⟨Nat.le_of_ble_eq_true rfl, Nat.le_of_ble_eq_true rfl⟩ ⟨Nat.le_refl _, Nat.le_refl _⟩ hK hP hD hS hA [] rfl (by decide) rfl hl.1 rfl (Nat.le_of_ble_eq_true rfl) dX10_grownBy_18 (fun z w H locs hq hP hD hS => ?_)
        rcases hq with ⟨rfl, rfl⟩
        replace hP : va_P D vwCl [(hm, ob 10 (mo a st lw tl wk pe ch pl fa iw nm qe sd ik kp hh)), ((a 1), aI cI 4 so), ((a 2), aI cI 4 mu)] H := hP
        replace hD : va_D A [(hm, ob 10 (mo a st lw tl wk pe ch pl fa iw nm qe sd ik kp hh)), ((a 1), aI cI 4 so), ((a 2), aI cI 4 mu)] := hD
        refine lv_istore_n (lv' := [(2, .int (iZ (cap (stp (so k) (mu k) v)))), (0, .ref hm), (1, .int (iZ x)), (3, .int (iZ k))]) hx hb dX10_grownBy_21 rfl hl (by decide) rfl (fun ls hl => ?_)
        refine z_iinc (lv' := [(3, .int (iZ (k + 1))), (2, .int (iZ (cap (stp (so k) (mu k) v)))), (0, .ref hm), (1, .int (iZ x))]) hx hb dX10_grownBy_22 hl (k := 3) rfl (by decide) rfl (fun ls hl => ?_)
        refine lv_goto (tgt := 4) hx hb dX10_grownBy_25 (by decide) ?_
        exact ih4 (k + 1) (cap (stp (so k) (mu k) v)) (by first | assumption | omega) (by rw [gro_s (by omega), ← hv]) (by exact cap_rng _) (by omega) _ _ _ hP hD hS (lv_sub hl [2, 3, 1, 0] rfl)
  exact lp4 ((st - 0 : Int) + 1).toNat 0 x (by first | assumption | omega) (by rfl) (by omega) (by omega) _ _ _ hP hD hS (lv_sub hl [2, 3, 1, 0] rfl)
theorem qX10_grown : yX10_grown.cls ≠ "java/lang/invoke/MethodHandle" ∧ yX10_grown.cls ≠ "java/lang/invoke/VarHandle" ∧ (parseMethodDescriptor yX10_grown.desc).map (fun d => d.parameters.length) = some 1 := by decide +kernel
set_option maxHeartbeats 4000000 in
set_option maxRecDepth 100000 in
theorem c_X10_grown (l : Launch) (D : va_G) (cI cJ cB : ClassId) (hm : Nat) (a : Nat → Nat) (st lw tl wk pe ch pl fa iw nm qe sd ik kp hh : Int) (so mu : Int → Int) (x : Int) (hsu : ∀ j, (0 ≤ so j ∧ so j ≤ 4) ∧ (0 ≤ mu j ∧ mu j ≤ 9) ∧ (so j = 4 → 2 ≤ mu j)) (hst : 1 ≤ st ∧ st ≤ 4) (hx0 : -2147483648 ≤ x ∧ x < 2147483648) : zMi l yX10_grown wsX10_grown (zRm 2 45) D (zT cI cJ cB) [.ref hm, .int (iZ x)] [(hm, ob 10 (mo a st lw tl wk pe ch pl fa iw nm qe sd ik kp hh)), ((a 1), aI cI 4 so), ((a 2), aI cI 4 mu)] (fun (z : Int) (w : va_W) => (gro so mu st.toNat x = z ∧ w = [(hm, ob 10 (mo a st lw tl wk pe ch pl fa iw nm qe sd ik kp hh)), ((a 1), aI cI 4 so), ((a 2), aI cI 4 mu)] ∧ (0 ≤ x ∧ x ≤ 9999)) ∨ ((-102) = z ∧ w = [(hm, ob 10 (mo a st lw tl wk pe ch pl fa iw nm qe sd ik kp hh)), ((a 1), aI cI 4 so), ((a 2), aI cI 4 mu)] ∧ (¬ (0 ≤ x ∧ x ≤ 9999)))) := by
  refine z_of (Qc := fun A => zQi D [(hm, ob 10 (mo a st lw tl wk pe ch pl fa iw nm qe sd ik kp hh)), ((a 1), aI cI 4 so), ((a 2), aI cI 4 mu)] A _) (cc := cX10_grown) (maxL := 2) (ret := (some .int)) (by decide) rfl (Nat.le_of_ble_eq_true rfl) ?_
  intro p e s m below meth c A ls hx hb hr hts hown hlocks hml hK hP hD hS hA hl
  replace hown : s.vm.findClass RX10 = some m.cls := hown
  have hC : CallFix p m c cX10_grown 2 s _ wsX10_grown RX10 := ⟨hx, hb, hml, hown, hts⟩
  replace hl : lv_has ls 2 [(0, .ref hm), (1, .int (iZ x))] := hl
  refine lv_iload_n hx hb dX10_grown_0 rfl (lv_at hl 1 rfl) ?_
  refine z_Si (As := [.int (iZ x)]) (rest := []) hC (c_X10_isSize l D cI cJ cB x (by first | assumption | omega)) 1 gX10_grown_X10_isSize rfl rfl rfl qX10_isSize ⟨Nat.le_of_ble_eq_true rfl, Nat.le_of_ble_eq_true rfl⟩ ⟨Nat.le_refl _, Nat.le_refl _⟩ hK hP hD hS hA [] rfl (by decide) rfl hl.1 rfl (Nat.le_of_ble_eq_true rfl) dX10_grown_1 (fun z w H locs hq hP hD hS => ?_)
  rcases hq with ⟨rfl, rfl, hc1_0⟩ | ⟨rfl, rfl, hc1_0⟩
  · replace hP : va_P D vwCl [(hm, ob 10 (mo a st lw tl wk pe ch pl fa iw nm qe sd ik kp hh)), ((a 1), aI cI 4 so), ((a 2), aI cI 4 mu)] H := hP
    replace hD : va_D A [(hm, ob 10 (mo a st lw tl wk pe ch pl fa iw nm qe sd ik kp hh)), ((a 1), aI cI 4 so), ((a 2), aI cI 4 mu)] := hD
    refine z_if_eq (tgt := 15) hx hb dX10_grown_4 (by decide) (by first | assumption | omega) (fun h => absurd h (by decide)) (fun _ => ?_)
    refine lv_aload_n hx hb dX10_grown_7 rfl (lv_at hl 0 rfl) ?_
    refine lv_iload_n hx hb dX10_grown_8 rfl (lv_at hl 1 rfl) ?_
    refine z_Vi (As := [.int (iZ x)]) (rest := []) hC (c_X10_grownBy l D cI cJ cB hm a st lw tl wk pe ch pl fa iw nm qe sd ik kp hh so mu x (by first | assumption | omega) (by first | assumption | omega) (by first | assumption | omega)) 1 gX10_grown_X10_grownBy rfl rfl rfl ⟨rfl, qX10_grownBy⟩ ⟨Nat.le_of_ble_eq_true rfl, Nat.le_of_ble_eq_true rfl⟩ ⟨Nat.le_refl _, Nat.le_refl _⟩ hK hP hD hS hA [0, 1, 2] rfl (by decide) 0 rfl rfl rfl hl.1 rfl (Nat.le_of_ble_eq_true rfl) dX10_grown_9 (fun z w H locs hq hP hD hS => ?_)
    rcases hq with ⟨rfl, rfl, hgr2⟩
    replace hP : va_P D vwCl [(hm, ob 10 (mo a st lw tl wk pe ch pl fa iw nm qe sd ik kp hh)), ((a 1), aI cI 4 so), ((a 2), aI cI 4 mu)] H := hP
    replace hD : va_D A [(hm, ob 10 (mo a st lw tl wk pe ch pl fa iw nm qe sd ik kp hh)), ((a 1), aI cI 4 so), ((a 2), aI cI 4 mu)] := hD
    refine lv_goto (tgt := 17) hx hb dX10_grown_12 (by decide) ?_
    exact z_iret hx hb hr hlocks hP hD hS dX10_grown_17 rfl (by first | (exact Or.inl (⟨(by first | rfl | omega), rfl, (by first | assumption | omega)⟩)) | (exact Or.inr (⟨(by first | rfl | omega), rfl, (by first | assumption | omega)⟩)) | (exfalso; omega))
  · replace hP : va_P D vwCl [(hm, ob 10 (mo a st lw tl wk pe ch pl fa iw nm qe sd ik kp hh)), ((a 1), aI cI 4 so), ((a 2), aI cI 4 mu)] H := hP
    replace hD : va_D A [(hm, ob 10 (mo a st lw tl wk pe ch pl fa iw nm qe sd ik kp hh)), ((a 1), aI cI 4 so), ((a 2), aI cI 4 mu)] := hD
    refine z_if_eq (tgt := 15) hx hb dX10_grown_4 (by decide) (by first | assumption | omega) (fun _ => ?_) (fun h => absurd h (by decide))
    refine lv_bipush (v := iZ (-102)) hx hb dX10_grown_15 (by decide) ?_
    exact z_iret hx hb hr hlocks hP hD hS dX10_grown_17 rfl (by first | (exact Or.inl (⟨(by first | rfl | omega), rfl, (by first | assumption | omega)⟩)) | (exact Or.inr (⟨(by first | rfl | omega), rfl, (by first | assumption | omega)⟩)) | (exfalso; omega))
theorem qX10_telling : yX10_telling.cls ≠ "java/lang/invoke/MethodHandle" ∧ yX10_telling.cls ≠ "java/lang/invoke/VarHandle" ∧ (parseMethodDescriptor yX10_telling.desc).map (fun d => d.parameters.length) = some 2 := by decide +kernel
set_option maxHeartbeats 4000000 in
set_option maxRecDepth 100000 in
theorem c_X10_telling (l : Launch) (D : va_G) (cI cJ cB : ClassId) (hm : Nat) (a : Nat → Nat) (st lw tl wk pe ch pl fa iw nm qe sd ik kp hh : Int) (te tw : Int → Int) (k y : Int) (htl : 0 ≤ tl ∧ tl ≤ 16) (hk : -2147483648 ≤ k ∧ k < 2147483648) (hy : -2147483648 ≤ y ∧ y < 2147483648) : zMi l yX10_telling wsX10_telling (zRm 1 22) D (zT cI cJ cB) [.ref hm, .int (iZ k), .int (iZ y)] [(hm, ob 10 (mo a st lw tl wk pe ch pl fa iw nm qe sd ik kp hh)), ((a 5), aI cI 16 te), ((a 6), aI cI 16 tw)] (fun (z : Int) (w : va_W) => ((-101) = z ∧ w = [(hm, ob 10 (mo a st lw tl wk pe ch pl fa iw nm qe sd ik kp hh)), ((a 5), aI cI 16 te), ((a 6), aI cI 16 tw)] ∧ (¬ (0 ≤ k ∧ k < tl))) ∨ ((-102) = z ∧ w = [(hm, ob 10 (mo a st lw tl wk pe ch pl fa iw nm qe sd ik kp hh)), ((a 5), aI cI 16 te), ((a 6), aI cI 16 tw)] ∧ (0 ≤ k ∧ k < tl) ∧ (¬ (0 ≤ y ∧ y ≤ 1))) ∨ (te k = z ∧ w = [(hm, ob 10 (mo a st lw tl wk pe ch pl fa iw nm qe sd ik kp hh)), ((a 5), aI cI 16 te), ((a 6), aI cI 16 tw)] ∧ (0 ≤ k ∧ k < tl) ∧ y = 0) ∨ (tw k = z ∧ w = [(hm, ob 10 (mo a st lw tl wk pe ch pl fa iw nm qe sd ik kp hh)), ((a 5), aI cI 16 te), ((a 6), aI cI 16 tw)] ∧ (0 ≤ k ∧ k < tl) ∧ y = 1)) := by
  refine z_of (Qc := fun A => zQi D [(hm, ob 10 (mo a st lw tl wk pe ch pl fa iw nm qe sd ik kp hh)), ((a 5), aI cI 16 te), ((a 6), aI cI 16 tw)] A _) (cc := cX10_telling) (maxL := 3) (ret := (some .int)) (by decide) rfl (Nat.le_of_ble_eq_true rfl) ?_
  intro p e s m below meth c A ls hx hb hr hts hown hlocks hml hK hP hD hS hA hl
  replace hown : s.vm.findClass RX10 = some m.cls := hown
  have hC : CallFix p m c cX10_telling 3 s _ wsX10_telling RX10 := ⟨hx, hb, hml, hown, hts⟩
  replace hl : lv_has ls 3 [(0, .ref hm), (1, .int (iZ k)), (2, .int (iZ y))] := hl
  have iwX10 : ∀ w ∈ u_ws RX10 TX10 36, w ∈ wsX10_telling := fun w h => List.mem_cons_of_mem _ (List.mem_append_right _ h)
  have fl20 : Cond.fieldLink RX10 20 "GrowsByHalfModel" "tellerOf" "[I" ∈ wsX10_telling := by decide +kernel
  have fl23 : Cond.fieldLink RX10 23 "GrowsByHalfModel" "toldTo" "[I" ∈ wsX10_telling := by decide +kernel
  have fl111 : Cond.fieldLink RX10 111 "GrowsByHalfModel" "tellings" "I" ∈ wsX10_telling := by decide +kernel
  refine lv_iload_n hx hb dX10_telling_0 rfl (lv_at hl 1 rfl) ?_
  refine lv_iconst (v := iZ 0) hx hb dX10_telling_1 (by decide) ?_
  refine lv_aload_n hx hb dX10_telling_2 rfl (lv_at hl 0 rfl) ?_
  refine z_get (C := RX10) (T0 := TX10) (N := 36) (ci := 10) (v := .int (iZ tl)) hx hb hts hown hK hP iwX10 rfl 0 rfl 4 (by decide) fl111 rfl dX10_telling_3 ?_
  refine lv_iconst (v := iZ 1) hx hb dX10_telling_6 (by decide) ?_
  refine z_isub hx hb dX10_telling_7 ?_
  refine z_Si (As := [.int (iZ k), .int (iZ 0), .int (iZ (tl - 1))]) (rest := []) hC (c_X10_within l D cI cJ cB k 0 (tl - 1) (by first | assumption | omega) (by first | assumption | omega) (by first | assumption | omega)) 3 gX10_telling_X10_within rfl rfl rfl qX10_within ⟨Nat.le_of_ble_eq_true rfl, Nat.le_of_ble_eq_true rfl⟩ ⟨Nat.le_refl _, Nat.le_refl _⟩ hK hP hD hS hA [] rfl (by decide) rfl hl.1 rfl (Nat.le_of_ble_eq_true rfl) dX10_telling_8 (fun z w H locs hq hP hD hS => ?_)
  rcases hq with ⟨rfl, rfl, hc1_0⟩ | ⟨rfl, rfl, hc1_0⟩
  · replace hP : va_P D vwCl [(hm, ob 10 (mo a st lw tl wk pe ch pl fa iw nm qe sd ik kp hh)), ((a 5), aI cI 16 te), ((a 6), aI cI 16 tw)] H := hP
    replace hD : va_D A [(hm, ob 10 (mo a st lw tl wk pe ch pl fa iw nm qe sd ik kp hh)), ((a 5), aI cI 16 te), ((a 6), aI cI 16 tw)] := hD
    refine z_if_ne (tgt := 17) hx hb dX10_telling_11 (by decide) (by first | assumption | omega) (fun _ => ?_) (fun h => absurd h (by decide))
    refine lv_iload_n hx hb dX10_telling_17 rfl (lv_at hl 2 rfl) ?_
    refine lv_iconst (v := iZ 0) hx hb dX10_telling_18 (by decide) ?_
    refine lv_iconst (v := iZ 1) hx hb dX10_telling_19 (by decide) ?_
    refine z_Si (As := [.int (iZ y), .int (iZ 0), .int (iZ 1)]) (rest := []) hC (c_X10_within l D cI cJ cB y 0 1 (by first | assumption | omega) (by first | assumption | omega) (by first | assumption | omega)) 3 gX10_telling_X10_within rfl rfl rfl qX10_within ⟨Nat.le_of_ble_eq_true rfl, Nat.le_of_ble_eq_true rfl⟩ ⟨Nat.le_refl _, Nat.le_refl _⟩ hK hP hD hS hA [] rfl (by decide) rfl hl.1 rfl (Nat.le_of_ble_eq_true rfl) dX10_telling_20 (fun z w H locs hq hP hD hS => ?_)
    rcases hq with ⟨rfl, rfl, hc2_0⟩ | ⟨rfl, rfl, hc2_0⟩
    · replace hP : va_P D vwCl [(hm, ob 10 (mo a st lw tl wk pe ch pl fa iw nm qe sd ik kp hh)), ((a 5), aI cI 16 te), ((a 6), aI cI 16 tw)] H := hP
      replace hD : va_D A [(hm, ob 10 (mo a st lw tl wk pe ch pl fa iw nm qe sd ik kp hh)), ((a 5), aI cI 16 te), ((a 6), aI cI 16 tw)] := hD
      refine z_if_ne (tgt := 31) hx hb dX10_telling_23 (by decide) (by first | assumption | omega) (fun _ => ?_) (fun h => absurd h (by decide))
      refine lv_iload_n hx hb dX10_telling_31 rfl (lv_at hl 2 rfl) ?_
      refine z_if_ne (tgt := 44) hx hb dX10_telling_32 (by decide) (by first | assumption | omega) (fun c_32 => ?_) (fun c_32 => ?_)
      · refine lv_aload_n hx hb dX10_telling_44 rfl (lv_at hl 0 rfl) ?_
        refine z_get (C := RX10) (T0 := TX10) (N := 36) (ci := 10) (v := .ref (a 6)) hx hb hts hown hK hP iwX10 rfl 0 rfl 6 (by decide) fl23 rfl dX10_telling_45 ?_
        refine lv_iload_n hx hb dX10_telling_48 rfl (lv_at hl 1 rfl) ?_
        refine z_iald hx hb hK hP 2 0 rfl rfl (by decide) (by first | assumption | omega) dX10_telling_49 ?_
        exact z_iret hx hb hr hlocks hP hD hS dX10_telling_50 rfl (by first | (exact Or.inl (⟨(by first | rfl | omega), rfl, (by first | assumption | omega)⟩)) | (exact Or.inr (Or.inl (⟨(by first | rfl | omega), rfl, (by first | assumption | omega), (by first | assumption | omega)⟩))) | (exact Or.inr (Or.inr (Or.inl (⟨(by first | rfl | omega), rfl, (by first | assumption | omega), (by first | assumption | omega)⟩)))) | (exact Or.inr (Or.inr (Or.inr (⟨(by first | rfl | omega), rfl, (by first | assumption | omega), (by first | assumption | omega)⟩)))) | (exfalso; omega))
      · refine lv_aload_n hx hb dX10_telling_35 rfl (lv_at hl 0 rfl) ?_
        refine z_get (C := RX10) (T0 := TX10) (N := 36) (ci := 10) (v := .ref (a 5)) hx hb hts hown hK hP iwX10 rfl 0 rfl 5 (by decide) fl20 rfl dX10_telling_36 ?_
        refine lv_iload_n hx hb dX10_telling_39 rfl (lv_at hl 1 rfl) ?_
        refine z_iald hx hb hK hP 1 0 rfl rfl (by decide) (by first | assumption | omega) dX10_telling_40 ?_
        refine lv_goto (tgt := 50) hx hb dX10_telling_41 (by decide) ?_
        exact z_iret hx hb hr hlocks hP hD hS dX10_telling_50 rfl (by first | (exact Or.inl (⟨(by first | rfl | omega), rfl, (by first | assumption | omega)⟩)) | (exact Or.inr (Or.inl (⟨(by first | rfl | omega), rfl, (by first | assumption | omega), (by first | assumption | omega)⟩))) | (exact Or.inr (Or.inr (Or.inl (⟨(by first | rfl | omega), rfl, (by first | assumption | omega), (by first | assumption | omega)⟩)))) | (exact Or.inr (Or.inr (Or.inr (⟨(by first | rfl | omega), rfl, (by first | assumption | omega), (by first | assumption | omega)⟩)))) | (exfalso; omega))
    · replace hP : va_P D vwCl [(hm, ob 10 (mo a st lw tl wk pe ch pl fa iw nm qe sd ik kp hh)), ((a 5), aI cI 16 te), ((a 6), aI cI 16 tw)] H := hP
      replace hD : va_D A [(hm, ob 10 (mo a st lw tl wk pe ch pl fa iw nm qe sd ik kp hh)), ((a 5), aI cI 16 te), ((a 6), aI cI 16 tw)] := hD
      refine z_if_ne (tgt := 31) hx hb dX10_telling_23 (by decide) (by first | assumption | omega) (fun h => absurd h (by decide)) (fun _ => ?_)
      refine lv_bipush (v := iZ (-102)) hx hb dX10_telling_26 (by decide) ?_
      refine lv_goto (tgt := 50) hx hb dX10_telling_28 (by decide) ?_
      exact z_iret hx hb hr hlocks hP hD hS dX10_telling_50 rfl (by first | (exact Or.inr (Or.inl (⟨(by first | rfl | omega), rfl, (by first | assumption | omega), (by first | assumption | omega)⟩))) | (exact Or.inr (Or.inr (Or.inl (⟨(by first | rfl | omega), rfl, (by first | assumption | omega), (by first | assumption | omega)⟩)))) | (exact Or.inr (Or.inr (Or.inr (⟨(by first | rfl | omega), rfl, (by first | assumption | omega), (by first | assumption | omega)⟩)))) | (exfalso; omega))
  · replace hP : va_P D vwCl [(hm, ob 10 (mo a st lw tl wk pe ch pl fa iw nm qe sd ik kp hh)), ((a 5), aI cI 16 te), ((a 6), aI cI 16 tw)] H := hP
    replace hD : va_D A [(hm, ob 10 (mo a st lw tl wk pe ch pl fa iw nm qe sd ik kp hh)), ((a 5), aI cI 16 te), ((a 6), aI cI 16 tw)] := hD
    refine z_if_ne (tgt := 17) hx hb dX10_telling_11 (by decide) (by first | assumption | omega) (fun h => absurd h (by decide)) (fun _ => ?_)
    refine lv_bipush (v := iZ (-101)) hx hb dX10_telling_14 (by decide) ?_
    exact z_iret hx hb hr hlocks hP hD hS dX10_telling_16 rfl (by first | (exact Or.inl (⟨(by first | rfl | omega), rfl, (by first | assumption | omega)⟩)) | (exact Or.inr (Or.inr (Or.inl (⟨(by first | rfl | omega), rfl, (by first | assumption | omega), (by first | assumption | omega)⟩)))) | (exact Or.inr (Or.inr (Or.inr (⟨(by first | rfl | omega), rfl, (by first | assumption | omega), (by first | assumption | omega)⟩)))) | (exfalso; omega))
theorem qX10_person : yX10_person.cls ≠ "java/lang/invoke/MethodHandle" ∧ yX10_person.cls ≠ "java/lang/invoke/VarHandle" ∧ (parseMethodDescriptor yX10_person.desc).map (fun d => d.parameters.length) = some 1 := by decide +kernel
set_option maxHeartbeats 4000000 in
set_option maxRecDepth 100000 in
theorem c_X10_person (l : Launch) (D : va_G) (cI cJ cB : ClassId) (hm : Nat) (a : Nat → Nat) (st lw tl wk pe ch pl fa iw nm qe sd ik kp hh : Int) (kd kn : Int → Int) (k : Int) (hpe : 0 ≤ pe ∧ pe ≤ 8) (hk : -2147483648 ≤ k ∧ k < 2147483648) : zMi l yX10_person wsX10_person (zRm 1 22) D (zT cI cJ cB) [.ref hm, .int (iZ k)] [(hm, ob 10 (mo a st lw tl wk pe ch pl fa iw nm qe sd ik kp hh)), ((a 9), aI cI 8 kd), ((a 10), aI cI 8 kn)] (fun (z : Int) (w : va_W) => ((-102) = z ∧ w = [(hm, ob 10 (mo a st lw tl wk pe ch pl fa iw nm qe sd ik kp hh)), ((a 9), aI cI 8 kd), ((a 10), aI cI 8 kn)] ∧ (¬ (0 ≤ k ∧ k ≤ 3))) ∨ ((-104) = z ∧ w = [(hm, ob 10 (mo a st lw tl wk pe ch pl fa iw nm qe sd ik kp hh)), ((a 9), aI cI 8 kd), ((a 10), aI cI 8 kn)] ∧ (0 ≤ k ∧ k ≤ 3) ∧ pe = 8) ∨ (pe + 1 - 1 = z ∧ w = [(hm, ob 10 (mo a st lw tl wk (pe + 1) ch pl fa iw nm qe sd ik kp hh)), ((a 9), aI cI 8 (zu kd pe k)), ((a 10), aI cI 8 (zu kn pe 0))] ∧ (0 ≤ k ∧ k ≤ 3) ∧ pe < 8)) := by
  refine z_of (Qc := fun A => zQi D [(hm, ob 10 (mo a st lw tl wk pe ch pl fa iw nm qe sd ik kp hh)), ((a 9), aI cI 8 kd), ((a 10), aI cI 8 kn)] A _) (cc := cX10_person) (maxL := 2) (ret := (some .int)) (by decide) rfl (Nat.le_of_ble_eq_true rfl) ?_
  intro p e s m below meth c A ls hx hb hr hts hown hlocks hml hK hP hD hS hA hl
  replace hown : s.vm.findClass RX10 = some m.cls := hown
  have hC : CallFix p m c cX10_person 2 s _ wsX10_person RX10 := ⟨hx, hb, hml, hown, hts⟩
  replace hl : lv_has ls 2 [(0, .ref hm), (1, .int (iZ k))] := hl
  have iwX10 : ∀ w ∈ u_ws RX10 TX10 36, w ∈ wsX10_person := fun w h => List.mem_cons_of_mem _ (List.mem_append_right _ h)
  have fl26 : Cond.fieldLink RX10 26 "GrowsByHalfModel" "kindOf" "[I" ∈ wsX10_person := by decide +kernel
  have fl29 : Cond.fieldLink RX10 29 "GrowsByHalfModel" "knowsOf" "[I" ∈ wsX10_person := by decide +kernel
  have fl131 : Cond.fieldLink RX10 131 "GrowsByHalfModel" "people" "I" ∈ wsX10_person := by decide +kernel
  refine lv_iload_n hx hb dX10_person_0 rfl (lv_at hl 1 rfl) ?_
  refine lv_iconst (v := iZ 0) hx hb dX10_person_1 (by decide) ?_
  refine lv_iconst (v := iZ 3) hx hb dX10_person_2 (by decide) ?_
  refine z_Si (As := [.int (iZ k), .int (iZ 0), .int (iZ 3)]) (rest := []) hC (c_X10_within l D cI cJ cB k 0 3 (by first | assumption | omega) (by first | assumption | omega) (by first | assumption | omega)) 3 gX10_person_X10_within rfl rfl rfl qX10_within ⟨Nat.le_of_ble_eq_true rfl, Nat.le_of_ble_eq_true rfl⟩ ⟨Nat.le_refl _, Nat.le_refl _⟩ hK hP hD hS hA [] rfl (by decide) rfl hl.1 rfl (Nat.le_of_ble_eq_true rfl) dX10_person_3 (fun z w H locs hq hP hD hS => ?_)
  rcases hq with ⟨rfl, rfl, hc1_0⟩ | ⟨rfl, rfl, hc1_0⟩
  · replace hP : va_P D vwCl [(hm, ob 10 (mo a st lw tl wk pe ch pl fa iw nm qe sd ik kp hh)), ((a 9), aI cI 8 kd), ((a 10), aI cI 8 kn)] H := hP
    replace hD : va_D A [(hm, ob 10 (mo a st lw tl wk pe ch pl fa iw nm qe sd ik kp hh)), ((a 9), aI cI 8 kd), ((a 10), aI cI 8 kn)] := hD
    refine z_if_ne (tgt := 12) hx hb dX10_person_6 (by decide) (by first | assumption | omega) (fun _ => ?_) (fun h => absurd h (by decide))
    refine lv_aload_n hx hb dX10_person_12 rfl (lv_at hl 0 rfl) ?_
    refine z_get (C := RX10) (T0 := TX10) (N := 36) (ci := 10) (v := .int (iZ pe)) hx hb hts hown hK hP iwX10 rfl 0 rfl 8 (by decide) fl131 rfl dX10_person_13 ?_
    refine lv_bipush (v := iZ 8) hx hb dX10_person_16 (by decide) ?_
    refine z_icmp_ne (tgt := 24) hx hb dX10_person_18 (by decide) (by first | assumption | omega) (by first | assumption | omega) (fun c_18 => ?_) (fun c_18 => ?_)
    · refine lv_aload_n hx hb dX10_person_24 rfl (lv_at hl 0 rfl) ?_
      refine z_get (C := RX10) (T0 := TX10) (N := 36) (ci := 10) (v := .ref (a 9)) hx hb hts hown hK hP iwX10 rfl 0 rfl 9 (by decide) fl26 rfl dX10_person_25 ?_
      refine lv_aload_n hx hb dX10_person_28 rfl (lv_at hl 0 rfl) ?_
      refine z_get (C := RX10) (T0 := TX10) (N := 36) (ci := 10) (v := .int (iZ pe)) hx hb hts hown hK hP iwX10 rfl 0 rfl 8 (by decide) fl131 rfl dX10_person_29 ?_
      refine lv_iload_n hx hb dX10_person_32 rfl (lv_at hl 1 rfl) ?_
      refine z_iast hx hb hK hP hD hS 1 0 rfl rfl (by decide) (by first | assumption | omega) dX10_person_33 (fun H locs hP hD hS => ?_)
      replace hP : va_P D vwCl [(hm, ob 10 (mo a st lw tl wk pe ch pl fa iw nm qe sd ik kp hh)), ((a 9), aI cI 8 (zu kd pe k)), ((a 10), aI cI 8 kn)] H := hP
      replace hD : va_D A [(hm, ob 10 (mo a st lw tl wk pe ch pl fa iw nm qe sd ik kp hh)), ((a 9), aI cI 8 (zu kd pe k)), ((a 10), aI cI 8 kn)] := hD
      refine lv_aload_n hx hb dX10_person_34 rfl (lv_at hl 0 rfl) ?_
      refine z_get (C := RX10) (T0 := TX10) (N := 36) (ci := 10) (v := .ref (a 10)) hx hb hts hown hK hP iwX10 rfl 0 rfl 10 (by decide) fl29 rfl dX10_person_35 ?_
      refine lv_aload_n hx hb dX10_person_38 rfl (lv_at hl 0 rfl) ?_
      refine z_get (C := RX10) (T0 := TX10) (N := 36) (ci := 10) (v := .int (iZ pe)) hx hb hts hown hK hP iwX10 rfl 0 rfl 8 (by decide) fl131 rfl dX10_person_39 ?_
      refine lv_iconst (v := iZ 0) hx hb dX10_person_42 (by decide) ?_
      refine z_iast hx hb hK hP hD hS 2 0 rfl rfl (by decide) (by first | assumption | omega) dX10_person_43 (fun H locs hP hD hS => ?_)
      replace hP : va_P D vwCl [(hm, ob 10 (mo a st lw tl wk pe ch pl fa iw nm qe sd ik kp hh)), ((a 9), aI cI 8 (zu kd pe k)), ((a 10), aI cI 8 (zu kn pe 0))] H := hP
      replace hD : va_D A [(hm, ob 10 (mo a st lw tl wk pe ch pl fa iw nm qe sd ik kp hh)), ((a 9), aI cI 8 (zu kd pe k)), ((a 10), aI cI 8 (zu kn pe 0))] := hD
      refine lv_aload_n hx hb dX10_person_44 rfl (lv_at hl 0 rfl) ?_
      refine lv_dup hx hb dX10_person_45 rfl ?_
      refine z_get (C := RX10) (T0 := TX10) (N := 36) (ci := 10) (v := .int (iZ pe)) hx hb hts hown hK hP iwX10 rfl 0 rfl 8 (by decide) fl131 rfl dX10_person_46 ?_
      refine lv_iconst (v := iZ 1) hx hb dX10_person_49 (by decide) ?_
      refine z_iadd hx hb dX10_person_50 ?_
      refine z_put (C := RX10) (T0 := TX10) (N := 36) (ci := 10) (v := .int (iZ (pe + 1))) hx hb hts hown hK hP hD hS iwX10 tyX10_ok nmX10 rfl 0 rfl 8 (by decide) fl131 rfl rfl rfl (Nat.le_of_ble_eq_true rfl) dX10_person_51 (fun H locs hP hD hS => ?_)
      replace hP : va_P D vwCl [(hm, ob 10 (mo a st lw tl wk (pe + 1) ch pl fa iw nm qe sd ik kp hh)), ((a 9), aI cI 8 (zu kd pe k)), ((a 10), aI cI 8 (zu kn pe 0))] H := hP
      replace hD : va_D A [(hm, ob 10 (mo a st lw tl wk (pe + 1) ch pl fa iw nm qe sd ik kp hh)), ((a 9), aI cI 8 (zu kd pe k)), ((a 10), aI cI 8 (zu kn pe 0))] := hD
      refine lv_aload_n hx hb dX10_person_54 rfl (lv_at hl 0 rfl) ?_
      refine z_get (C := RX10) (T0 := TX10) (N := 36) (ci := 10) (v := .int (iZ (pe + 1))) hx hb hts hown hK hP iwX10 rfl 0 rfl 8 (by decide) fl131 rfl dX10_person_55 ?_
      refine lv_iconst (v := iZ 1) hx hb dX10_person_58 (by decide) ?_
      refine z_isub hx hb dX10_person_59 ?_
      exact z_iret hx hb hr hlocks hP hD hS dX10_person_60 rfl (by first | (exact Or.inl (⟨(by first | rfl | omega), rfl, (by first | assumption | omega)⟩)) | (exact Or.inr (Or.inl (⟨(by first | rfl | omega), rfl, (by first | assumption | omega), (by first | assumption | omega)⟩))) | (exact Or.inr (Or.inr (⟨(by first | rfl | omega), rfl, (by first | assumption | omega), (by first | assumption | omega)⟩))) | (exfalso; omega))
    · refine lv_bipush (v := iZ (-104)) hx hb dX10_person_21 (by decide) ?_
      exact z_iret hx hb hr hlocks hP hD hS dX10_person_23 rfl (by first | (exact Or.inr (Or.inl (⟨(by first | rfl | omega), rfl, (by first | assumption | omega), (by first | assumption | omega)⟩))) | (exact Or.inr (Or.inr (⟨(by first | rfl | omega), rfl, (by first | assumption | omega), (by first | assumption | omega)⟩))) | (exfalso; omega))
  · replace hP : va_P D vwCl [(hm, ob 10 (mo a st lw tl wk pe ch pl fa iw nm qe sd ik kp hh)), ((a 9), aI cI 8 kd), ((a 10), aI cI 8 kn)] H := hP
    replace hD : va_D A [(hm, ob 10 (mo a st lw tl wk pe ch pl fa iw nm qe sd ik kp hh)), ((a 9), aI cI 8 kd), ((a 10), aI cI 8 kn)] := hD
    refine z_if_ne (tgt := 12) hx hb dX10_person_6 (by decide) (by first | assumption | omega) (fun h => absurd h (by decide)) (fun _ => ?_)
    refine lv_bipush (v := iZ (-102)) hx hb dX10_person_9 (by decide) ?_
    exact z_iret hx hb hr hlocks hP hD hS dX10_person_11 rfl (by first | (exact Or.inl (⟨(by first | rfl | omega), rfl, (by first | assumption | omega)⟩)) | (exact Or.inr (Or.inr (⟨(by first | rfl | omega), rfl, (by first | assumption | omega), (by first | assumption | omega)⟩))) | (exfalso; omega))
theorem qX10_kind : yX10_kind.cls ≠ "java/lang/invoke/MethodHandle" ∧ yX10_kind.cls ≠ "java/lang/invoke/VarHandle" ∧ (parseMethodDescriptor yX10_kind.desc).map (fun d => d.parameters.length) = some 1 := by decide +kernel
set_option maxHeartbeats 4000000 in
set_option maxRecDepth 100000 in
theorem c_X10_kind (l : Launch) (D : va_G) (cI cJ cB : ClassId) (hm : Nat) (a : Nat → Nat) (st lw tl wk pe ch pl fa iw nm qe sd ik kp hh : Int) (kd : Int → Int) (p0 : Int) (hpe : 0 ≤ pe ∧ pe ≤ 8) (hp0 : -2147483648 ≤ p0 ∧ p0 < 2147483648) : zMi l yX10_kind wsX10_kind (zRm 2 43) D (zT cI cJ cB) [.ref hm, .int (iZ p0)] [(hm, ob 10 (mo a st lw tl wk pe ch pl fa iw nm qe sd ik kp hh)), ((a 9), aI cI 8 kd)] (fun (z : Int) (w : va_W) => ((-101) = z ∧ w = [(hm, ob 10 (mo a st lw tl wk pe ch pl fa iw nm qe sd ik kp hh)), ((a 9), aI cI 8 kd)] ∧ (¬ (0 ≤ p0 ∧ p0 < pe))) ∨ (kd p0 = z ∧ w = [(hm, ob 10 (mo a st lw tl wk pe ch pl fa iw nm qe sd ik kp hh)), ((a 9), aI cI 8 kd)] ∧ (0 ≤ p0 ∧ p0 < pe))) := by
  refine z_of (Qc := fun A => zQi D [(hm, ob 10 (mo a st lw tl wk pe ch pl fa iw nm qe sd ik kp hh)), ((a 9), aI cI 8 kd)] A _) (cc := cX10_kind) (maxL := 2) (ret := (some .int)) (by decide) rfl (Nat.le_of_ble_eq_true rfl) ?_
  intro p e s m below meth c A ls hx hb hr hts hown hlocks hml hK hP hD hS hA hl
  replace hown : s.vm.findClass RX10 = some m.cls := hown
  have hC : CallFix p m c cX10_kind 2 s _ wsX10_kind RX10 := ⟨hx, hb, hml, hown, hts⟩
  replace hl : lv_has ls 2 [(0, .ref hm), (1, .int (iZ p0))] := hl
  have iwX10 : ∀ w ∈ u_ws RX10 TX10 36, w ∈ wsX10_kind := fun w h => List.mem_cons_of_mem _ (List.mem_append_right _ h)
  have fl26 : Cond.fieldLink RX10 26 "GrowsByHalfModel" "kindOf" "[I" ∈ wsX10_kind := by decide +kernel
  refine lv_aload_n hx hb dX10_kind_0 rfl (lv_at hl 0 rfl) ?_
  refine lv_iload_n hx hb dX10_kind_1 rfl (lv_at hl 1 rfl) ?_
  refine z_Vi (As := [.int (iZ p0)]) (rest := []) hC (c_X10_isPerson l D cI cJ cB hm a st lw tl wk pe ch pl fa iw nm qe sd ik kp hh p0 (by first | assumption | omega) (by first | assumption | omega)) 1 gX10_kind_X10_isPerson rfl rfl rfl ⟨rfl, qX10_isPerson⟩ ⟨Nat.le_of_ble_eq_true rfl, Nat.le_of_ble_eq_true rfl⟩ ⟨Nat.le_refl _, Nat.le_refl _⟩ hK hP hD hS hA [0] rfl (by decide) 0 rfl rfl rfl hl.1 rfl (Nat.le_of_ble_eq_true rfl) dX10_kind_2 (fun z w H locs hq hP hD hS => ?_)
  rcases hq with ⟨rfl, rfl, hc1_0⟩ | ⟨rfl, rfl, hc1_0⟩
  · replace hP : va_P D vwCl [(hm, ob 10 (mo a st lw tl wk pe ch pl fa iw nm qe sd ik kp hh)), ((a 9), aI cI 8 kd)] H := hP
    replace hD : va_D A [(hm, ob 10 (mo a st lw tl wk pe ch pl fa iw nm qe sd ik kp hh)), ((a 9), aI cI 8 kd)] := hD
    refine z_if_eq (tgt := 17) hx hb dX10_kind_5 (by decide) (by first | assumption | omega) (fun h => absurd h (by decide)) (fun _ => ?_)
    refine lv_aload_n hx hb dX10_kind_8 rfl (lv_at hl 0 rfl) ?_
    refine z_get (C := RX10) (T0 := TX10) (N := 36) (ci := 10) (v := .ref (a 9)) hx hb hts hown hK hP iwX10 rfl 0 rfl 9 (by decide) fl26 rfl dX10_kind_9 ?_
    refine lv_iload_n hx hb dX10_kind_12 rfl (lv_at hl 1 rfl) ?_
    refine z_iald hx hb hK hP 1 0 rfl rfl (by decide) (by first | assumption | omega) dX10_kind_13 ?_
    refine lv_goto (tgt := 19) hx hb dX10_kind_14 (by decide) ?_
    exact z_iret hx hb hr hlocks hP hD hS dX10_kind_19 rfl (by first | (exact Or.inl (⟨(by first | rfl | omega), rfl, (by first | assumption | omega)⟩)) | (exact Or.inr (⟨(by first | rfl | omega), rfl, (by first | assumption | omega)⟩)) | (exfalso; omega))
  · replace hP : va_P D vwCl [(hm, ob 10 (mo a st lw tl wk pe ch pl fa iw nm qe sd ik kp hh)), ((a 9), aI cI 8 kd)] H := hP
    replace hD : va_D A [(hm, ob 10 (mo a st lw tl wk pe ch pl fa iw nm qe sd ik kp hh)), ((a 9), aI cI 8 kd)] := hD
    refine z_if_eq (tgt := 17) hx hb dX10_kind_5 (by decide) (by first | assumption | omega) (fun _ => ?_) (fun h => absurd h (by decide))
    refine lv_bipush (v := iZ (-101)) hx hb dX10_kind_17 (by decide) ?_
    exact z_iret hx hb hr hlocks hP hD hS dX10_kind_19 rfl (by first | (exact Or.inl (⟨(by first | rfl | omega), rfl, (by first | assumption | omega)⟩)) | (exact Or.inr (⟨(by first | rfl | omega), rfl, (by first | assumption | omega)⟩)) | (exfalso; omega))
theorem qX10_as : yX10_as.cls ≠ "java/lang/invoke/MethodHandle" ∧ yX10_as.cls ≠ "java/lang/invoke/VarHandle" ∧ (parseMethodDescriptor yX10_as.desc).map (fun d => d.parameters.length) = some 2 := by decide +kernel
set_option maxHeartbeats 4000000 in
set_option maxRecDepth 100000 in
theorem c_X10_as (l : Launch) (D : va_G) (cI cJ cB : ClassId) (hm : Nat) (a : Nat → Nat) (st lw tl wk pe ch pl fa iw nm qe sd ik kp hh : Int) (kd : Int → Int) (p0 k : Int) (hpe : 0 ≤ pe ∧ pe ≤ 8) (hkd : ∀ j, 0 ≤ kd j ∧ kd j ≤ 3) (hp0 : -2147483648 ≤ p0 ∧ p0 < 2147483648) (hk : -2147483648 ≤ k ∧ k < 2147483648) : zMi l yX10_as wsX10_as (zRm 2 43) D (zT cI cJ cB) [.ref hm, .int (iZ p0), .int (iZ k)] [(hm, ob 10 (mo a st lw tl wk pe ch pl fa iw nm qe sd ik kp hh)), ((a 9), aI cI 8 kd)] (fun (z : Int) (w : va_W) => ((-101) = z ∧ w = [(hm, ob 10 (mo a st lw tl wk pe ch pl fa iw nm qe sd ik kp hh)), ((a 9), aI cI 8 kd)] ∧ (¬ (0 ≤ p0 ∧ p0 < pe))) ∨ ((-102) = z ∧ w = [(hm, ob 10 (mo a st lw tl wk pe ch pl fa iw nm qe sd ik kp hh)), ((a 9), aI cI 8 kd)] ∧ (0 ≤ p0 ∧ p0 < pe) ∧ (¬ (0 ≤ k ∧ k ≤ 3))) ∨ (p0 = z ∧ w = [(hm, ob 10 (mo a st lw tl wk pe ch pl fa iw nm qe sd ik kp hh)), ((a 9), aI cI 8 kd)] ∧ (0 ≤ p0 ∧ p0 < pe) ∧ (0 ≤ k ∧ k ≤ 3) ∧ (k = 0 ∨ k = kd p0 ∨ k = 1 ∧ kd p0 = 2)) ∨ ((-1) = z ∧ w = [(hm, ob 10 (mo a st lw tl wk pe ch pl fa iw nm qe sd ik kp hh)), ((a 9), aI cI 8 kd)] ∧ (0 ≤ p0 ∧ p0 < pe) ∧ (0 ≤ k ∧ k ≤ 3) ∧ (¬ (k = 0 ∨ k = kd p0 ∨ k = 1 ∧ kd p0 = 2)))) := by
  refine z_of (Qc := fun A => zQi D [(hm, ob 10 (mo a st lw tl wk pe ch pl fa iw nm qe sd ik kp hh)), ((a 9), aI cI 8 kd)] A _) (cc := cX10_as) (maxL := 4) (ret := (some .int)) (by decide) rfl (Nat.le_of_ble_eq_true rfl) ?_
  intro p e s m below meth c A ls hx hb hr hts hown hlocks hml hK hP hD hS hA hl
  replace hown : s.vm.findClass RX10 = some m.cls := hown
  have hC : CallFix p m c cX10_as 4 s _ wsX10_as RX10 := ⟨hx, hb, hml, hown, hts⟩
  replace hl : lv_has ls 4 [(0, .ref hm), (1, .int (iZ p0)), (2, .int (iZ k))] := hl
  have iwX10 : ∀ w ∈ u_ws RX10 TX10 36, w ∈ wsX10_as := fun w h => List.mem_cons_of_mem _ (List.mem_append_right _ h)
  have fl26 : Cond.fieldLink RX10 26 "GrowsByHalfModel" "kindOf" "[I" ∈ wsX10_as := by decide +kernel
  refine lv_aload_n hx hb dX10_as_0 rfl (lv_at hl 0 rfl) ?_
  refine lv_iload_n hx hb dX10_as_1 rfl (lv_at hl 1 rfl) ?_
  refine z_Vi (As := [.int (iZ p0)]) (rest := []) hC (c_X10_isPerson l D cI cJ cB hm a st lw tl wk pe ch pl fa iw nm qe sd ik kp hh p0 (by first | assumption | omega) (by first | assumption | omega)) 1 gX10_as_X10_isPerson rfl rfl rfl ⟨rfl, qX10_isPerson⟩ ⟨Nat.le_of_ble_eq_true rfl, Nat.le_of_ble_eq_true rfl⟩ ⟨Nat.le_refl _, Nat.le_refl _⟩ hK hP hD hS hA [0] rfl (by decide) 0 rfl rfl rfl hl.1 rfl (Nat.le_of_ble_eq_true rfl) dX10_as_2 (fun z w H locs hq hP hD hS => ?_)
  rcases hq with ⟨rfl, rfl, hc1_0⟩ | ⟨rfl, rfl, hc1_0⟩
  · replace hP : va_P D vwCl [(hm, ob 10 (mo a st lw tl wk pe ch pl fa iw nm qe sd ik kp hh)), ((a 9), aI cI 8 kd)] H := hP
    replace hD : va_D A [(hm, ob 10 (mo a st lw tl wk pe ch pl fa iw nm qe sd ik kp hh)), ((a 9), aI cI 8 kd)] := hD
    refine z_if_ne (tgt := 11) hx hb dX10_as_5 (by decide) (by first | assumption | omega) (fun _ => ?_) (fun h => absurd h (by decide))
    refine lv_iload_n hx hb dX10_as_11 rfl (lv_at hl 2 rfl) ?_
    refine lv_iconst (v := iZ 0) hx hb dX10_as_12 (by decide) ?_
    refine lv_iconst (v := iZ 3) hx hb dX10_as_13 (by decide) ?_
    refine z_Si (As := [.int (iZ k), .int (iZ 0), .int (iZ 3)]) (rest := []) hC (c_X10_within l D cI cJ cB k 0 3 (by first | assumption | omega) (by first | assumption | omega) (by first | assumption | omega)) 3 gX10_as_X10_within rfl rfl rfl qX10_within ⟨Nat.le_of_ble_eq_true rfl, Nat.le_of_ble_eq_true rfl⟩ ⟨Nat.le_refl _, Nat.le_refl _⟩ hK hP hD hS hA [] rfl (by decide) rfl hl.1 rfl (Nat.le_of_ble_eq_true rfl) dX10_as_14 (fun z w H locs hq hP hD hS => ?_)
    rcases hq with ⟨rfl, rfl, hc2_0⟩ | ⟨rfl, rfl, hc2_0⟩
    · replace hP : va_P D vwCl [(hm, ob 10 (mo a st lw tl wk pe ch pl fa iw nm qe sd ik kp hh)), ((a 9), aI cI 8 kd)] H := hP
      replace hD : va_D A [(hm, ob 10 (mo a st lw tl wk pe ch pl fa iw nm qe sd ik kp hh)), ((a 9), aI cI 8 kd)] := hD
      refine z_if_ne (tgt := 23) hx hb dX10_as_17 (by decide) (by first | assumption | omega) (fun _ => ?_) (fun h => absurd h (by decide))
      refine lv_aload_n hx hb dX10_as_23 rfl (lv_at hl 0 rfl) ?_
      refine z_get (C := RX10) (T0 := TX10) (N := 36) (ci := 10) (v := .ref (a 9)) hx hb hts hown hK hP iwX10 rfl 0 rfl 9 (by decide) fl26 rfl dX10_as_24 ?_
      refine lv_iload_n hx hb dX10_as_27 rfl (lv_at hl 1 rfl) ?_
      refine z_iald hx hb hK hP 1 0 rfl rfl (by decide) (by first | assumption | omega) dX10_as_28 ?_
      have rd_3 := hkd p0
      refine lv_istore_n (lv' := [(3, .int (iZ (kd p0))), (0, .ref hm), (1, .int (iZ p0)), (2, .int (iZ k))]) hx hb dX10_as_29 rfl hl (by decide) rfl (fun ls hl => ?_)
      refine lv_iload_n hx hb dX10_as_30 rfl (lv_at hl 3 rfl) ?_
      refine z_if_eq (tgt := 49) hx hb dX10_as_31 (by decide) (by first | assumption | omega) (fun c_31 => ?_) (fun c_31 => ?_)
      · refine lv_iload_n hx hb dX10_as_49 rfl (lv_at hl 2 rfl) ?_
        refine lv_goto (tgt := 54) hx hb dX10_as_50 (by decide) ?_
        exact z_iret hx hb hr hlocks hP hD hS dX10_as_54 rfl (by first | (exact Or.inl (⟨(by first | rfl | omega), rfl, (by first | assumption | omega)⟩)) | (exact Or.inr (Or.inl (⟨(by first | rfl | omega), rfl, (by first | assumption | omega), (by first | assumption | omega)⟩))) | (exact Or.inr (Or.inr (Or.inl (⟨(by first | rfl | omega), rfl, (by first | assumption | omega), (by first | assumption | omega), (by first | assumption | omega)⟩)))) | (exact Or.inr (Or.inr (Or.inr (⟨(by first | rfl | omega), rfl, (by first | assumption | omega), (by first | assumption | omega), (by first | assumption | omega)⟩)))) | (exfalso; omega))
      · refine lv_iload_n hx hb dX10_as_34 rfl (lv_at hl 0 rfl) ?_
        refine lv_iload_n hx hb dX10_as_35 rfl (lv_at hl 3 rfl) ?_
        refine z_icmp_eq (tgt := 49) hx hb dX10_as_36 (by decide) (by first | assumption | omega) (by first | assumption | omega) (fun c_36 => ?_) (fun c_36 => ?_)
        · refine lv_iload_n hx hb dX10_as_49 rfl (lv_at hl 2 rfl) ?_
          refine lv_goto (tgt := 54) hx hb dX10_as_50 (by decide) ?_
          exact z_iret hx hb hr hlocks hP hD hS dX10_as_54 rfl (by first | (exact Or.inl (⟨(by first | rfl | omega), rfl, (by first | assumption | omega)⟩)) | (exact Or.inr (Or.inl (⟨(by first | rfl | omega), rfl, (by first | assumption | omega), (by first | assumption | omega)⟩))) | (exact Or.inr (Or.inr (Or.inl (⟨(by first | rfl | omega), rfl, (by first | assumption | omega), (by first | assumption | omega), (by first | assumption | omega)⟩)))) | (exact Or.inr (Or.inr (Or.inr (⟨(by first | rfl | omega), rfl, (by first | assumption | omega), (by first | assumption | omega), (by first | assumption | omega)⟩)))) | (exfalso; omega))
        · refine lv_iload_n hx hb dX10_as_39 rfl (lv_at hl 3 rfl) ?_
          refine lv_iconst (v := iZ 1) hx hb dX10_as_40 (by decide) ?_
          refine z_icmp_ne (tgt := 53) hx hb dX10_as_41 (by decide) (by first | assumption | omega) (by first | assumption | omega) (fun c_41 => ?_) (fun c_41 => ?_)
          · refine lv_iconst (v := iZ (-1)) hx hb dX10_as_53 (by decide) ?_
            exact z_iret hx hb hr hlocks hP hD hS dX10_as_54 rfl (by first | (exact Or.inr (Or.inr (Or.inl (⟨(by first | rfl | omega), rfl, (by first | assumption | omega), (by first | assumption | omega), (by first | assumption | omega)⟩)))) | (exact Or.inr (Or.inr (Or.inr (⟨(by first | rfl | omega), rfl, (by first | assumption | omega), (by first | assumption | omega), (by first | assumption | omega)⟩)))) | (exfalso; omega))
          · refine lv_iload_n hx hb dX10_as_44 rfl (lv_at hl 0 rfl) ?_
            refine lv_iconst (v := iZ 2) hx hb dX10_as_45 (by decide) ?_
            refine z_icmp_ne (tgt := 53) hx hb dX10_as_46 (by decide) (by first | assumption | omega) (by first | assumption | omega) (fun c_46 => ?_) (fun c_46 => ?_)
            · refine lv_iconst (v := iZ (-1)) hx hb dX10_as_53 (by decide) ?_
              exact z_iret hx hb hr hlocks hP hD hS dX10_as_54 rfl (by first | (exact Or.inr (Or.inr (Or.inl (⟨(by first | rfl | omega), rfl, (by first | assumption | omega), (by first | assumption | omega), (by first | assumption | omega)⟩)))) | (exact Or.inr (Or.inr (Or.inr (⟨(by first | rfl | omega), rfl, (by first | assumption | omega), (by first | assumption | omega), (by first | assumption | omega)⟩)))) | (exfalso; omega))
            · refine lv_iload_n hx hb dX10_as_49 rfl (lv_at hl 2 rfl) ?_
              refine lv_goto (tgt := 54) hx hb dX10_as_50 (by decide) ?_
              exact z_iret hx hb hr hlocks hP hD hS dX10_as_54 rfl (by first | (exact Or.inl (⟨(by first | rfl | omega), rfl, (by first | assumption | omega)⟩)) | (exact Or.inr (Or.inl (⟨(by first | rfl | omega), rfl, (by first | assumption | omega), (by first | assumption | omega)⟩))) | (exact Or.inr (Or.inr (Or.inl (⟨(by first | rfl | omega), rfl, (by first | assumption | omega), (by first | assumption | omega), (by first | assumption | omega)⟩)))) | (exact Or.inr (Or.inr (Or.inr (⟨(by first | rfl | omega), rfl, (by first | assumption | omega), (by first | assumption | omega), (by first | assumption | omega)⟩)))) | (exfalso; omega))
    · replace hP : va_P D vwCl [(hm, ob 10 (mo a st lw tl wk pe ch pl fa iw nm qe sd ik kp hh)), ((a 9), aI cI 8 kd)] H := hP
      replace hD : va_D A [(hm, ob 10 (mo a st lw tl wk pe ch pl fa iw nm qe sd ik kp hh)), ((a 9), aI cI 8 kd)] := hD
      refine z_if_ne (tgt := 23) hx hb dX10_as_17 (by decide) (by first | assumption | omega) (fun h => absurd h (by decide)) (fun _ => ?_)
      refine lv_bipush (v := iZ (-102)) hx hb dX10_as_20 (by decide) ?_
      exact z_iret hx hb hr hlocks hP hD hS dX10_as_22 rfl (by first | (exact Or.inr (Or.inl (⟨(by first | rfl | omega), rfl, (by first | assumption | omega), (by first | assumption | omega)⟩))) | (exact Or.inr (Or.inr (Or.inl (⟨(by first | rfl | omega), rfl, (by first | assumption | omega), (by first | assumption | omega), (by first | assumption | omega)⟩)))) | (exfalso; omega))
  · replace hP : va_P D vwCl [(hm, ob 10 (mo a st lw tl wk pe ch pl fa iw nm qe sd ik kp hh)), ((a 9), aI cI 8 kd)] H := hP
    replace hD : va_D A [(hm, ob 10 (mo a st lw tl wk pe ch pl fa iw nm qe sd ik kp hh)), ((a 9), aI cI 8 kd)] := hD
    refine z_if_ne (tgt := 11) hx hb dX10_as_5 (by decide) (by first | assumption | omega) (fun h => absurd h (by decide)) (fun _ => ?_)
    refine lv_bipush (v := iZ (-101)) hx hb dX10_as_8 (by decide) ?_
    exact z_iret hx hb hr hlocks hP hD hS dX10_as_10 rfl (by first | (exact Or.inl (⟨(by first | rfl | omega), rfl, (by first | assumption | omega)⟩)) | (exact Or.inr (Or.inr (Or.inl (⟨(by first | rfl | omega), rfl, (by first | assumption | omega), (by first | assumption | omega), (by first | assumption | omega)⟩)))) | (exfalso; omega))
theorem qX10_tellsBy : yX10_tellsBy.cls ≠ "java/lang/invoke/MethodHandle" ∧ yX10_tellsBy.cls ≠ "java/lang/invoke/VarHandle" ∧ (parseMethodDescriptor yX10_tellsBy.desc).map (fun d => d.parameters.length) = some 2 := by decide +kernel
set_option maxHeartbeats 4000000 in
set_option maxRecDepth 100000 in
theorem c_X10_tellsBy (l : Launch) (D : va_G) (cI cJ cB : ClassId) (hm : Nat) (a : Nat → Nat) (st lw tl wk pe ch pl fa iw nm qe sd ik kp hh : Int) (so mu : Int → Int) (k x : Int) (hsu : ∀ j, (0 ≤ so j ∧ so j ≤ 4) ∧ (0 ≤ mu j ∧ mu j ≤ 9) ∧ (so j = 4 → 2 ≤ mu j)) (hst : 1 ≤ st ∧ st ≤ 4) (hk : -2147483648 ≤ k ∧ k < 2147483648) (hx0 : 0 ≤ x ∧ x ≤ 9999) : zMi l yX10_tellsBy wsX10_tellsBy (zRm 2 45) D (zT cI cJ cB) [.ref hm, .int (iZ k), .int (iZ x)] [(hm, ob 10 (mo a st lw tl wk pe ch pl fa iw nm qe sd ik kp hh)), ((a 1), aI cI 4 so), ((a 2), aI cI 4 mu)] (fun (z : Int) (w : va_W) => tb (gro so mu st.toNat) k x = z ∧ w = [(hm, ob 10 (mo a st lw tl wk pe ch pl fa iw nm qe sd ik kp hh)), ((a 1), aI cI 4 so), ((a 2), aI cI 4 mu)] ∧ (0 ≤ tb (gro so mu st.toNat) k x ∧ tb (gro so mu st.toNat) k x ≤ 9999)) := by
  refine z_of (Qc := fun A => zQi D [(hm, ob 10 (mo a st lw tl wk pe ch pl fa iw nm qe sd ik kp hh)), ((a 1), aI cI 4 so), ((a 2), aI cI 4 mu)] A _) (cc := cX10_tellsBy) (maxL := 3) (ret := (some .int)) (by decide) rfl (Nat.le_of_ble_eq_true rfl) ?_
  intro p e s m below meth c A ls hx hb hr hts hown hlocks hml hK hP hD hS hA hl
  replace hown : s.vm.findClass RX10 = some m.cls := hown
  have hC : CallFix p m c cX10_tellsBy 3 s _ wsX10_tellsBy RX10 := ⟨hx, hb, hml, hown, hts⟩
  replace hl : lv_has ls 3 [(0, .ref hm), (1, .int (iZ k)), (2, .int (iZ x))] := hl
  refine lv_iload_n hx hb dX10_tellsBy_0 rfl (lv_at hl 1 rfl) ?_
  by_cases sw1_1 : k = 1
  · refine z_tab (tgt := 28) (off := 27) hx hb 1 dX10_tellsBy_1 sw1_1 (by decide) (by decide) (by decide) rfl (by decide) ?_
    refine lv_iload_n hx hb dX10_tellsBy_28 rfl (lv_at hl 2 rfl) ?_
    exact z_iret hx hb hr hlocks hP hD hS dX10_tellsBy_29 rfl (by refine ⟨?_, rfl, tb_rng (fun v => gro_rng hst.1 v) hx0⟩; simp only [tb]; repeat (first | (rw [if_pos (by omega)]) | (rw [if_neg (by omega)])); (try rfl))
  by_cases sw1_2 : k = 2
  · refine z_tab (tgt := 30) (off := 29) hx hb 2 dX10_tellsBy_1 sw1_2 (by decide) (by decide) (by decide) rfl (by decide) ?_
    refine lv_iload_n hx hb dX10_tellsBy_30 rfl (lv_at hl 2 rfl) ?_
    refine lv_iconst (v := iZ 2) hx hb dX10_tellsBy_31 (by decide) ?_
    refine z_idiv hx hb dX10_tellsBy_32 (by first | assumption | omega) (by first | assumption | omega) ?_
    exact z_iret hx hb hr hlocks hP hD hS dX10_tellsBy_33 rfl (by refine ⟨?_, rfl, tb_rng (fun v => gro_rng hst.1 v) hx0⟩; simp only [tb]; repeat (first | (rw [if_pos (by omega)]) | (rw [if_neg (by omega)])); (try rfl))
  by_cases sw1_3 : k = 3
  · refine z_tab (tgt := 34) (off := 33) hx hb 3 dX10_tellsBy_1 sw1_3 (by decide) (by decide) (by decide) rfl (by decide) ?_
    refine lv_aload_n hx hb dX10_tellsBy_34 rfl (lv_at hl 0 rfl) ?_
    refine lv_aload_n hx hb dX10_tellsBy_35 rfl (lv_at hl 0 rfl) ?_
    refine lv_iload_n hx hb dX10_tellsBy_36 rfl (lv_at hl 2 rfl) ?_
    refine z_Vi (As := [.int (iZ x)]) (rest := [.ref hm]) hC (c_X10_grownBy l D cI cJ cB hm a st lw tl wk pe ch pl fa iw nm qe sd ik kp hh so mu x (by first | assumption | omega) (by first | assumption | omega) (by first | assumption | omega)) 1 gX10_tellsBy_X10_grownBy rfl rfl rfl ⟨rfl, qX10_grownBy⟩ ⟨Nat.le_of_ble_eq_true rfl, Nat.le_of_ble_eq_true rfl⟩ ⟨Nat.le_refl _, Nat.le_refl _⟩ hK hP hD hS hA [0, 1, 2] rfl (by decide) 0 rfl rfl rfl hl.1 rfl (Nat.le_of_ble_eq_true rfl) dX10_tellsBy_37 (fun z w H locs hq hP hD hS => ?_)
    rcases hq with ⟨rfl, rfl, hgr1⟩
    replace hP : va_P D vwCl [(hm, ob 10 (mo a st lw tl wk pe ch pl fa iw nm qe sd ik kp hh)), ((a 1), aI cI 4 so), ((a 2), aI cI 4 mu)] H := hP
    replace hD : va_D A [(hm, ob 10 (mo a st lw tl wk pe ch pl fa iw nm qe sd ik kp hh)), ((a 1), aI cI 4 so), ((a 2), aI cI 4 mu)] := hD
    refine z_Vi (As := [.int (iZ (gro so mu st.toNat x))]) (rest := []) hC (c_X10_grownBy l D cI cJ cB hm a st lw tl wk pe ch pl fa iw nm qe sd ik kp hh so mu (gro so mu st.toNat x) (by first | assumption | omega) (by first | assumption | omega) (by first | assumption | omega)) 1 gX10_tellsBy_X10_grownBy rfl rfl rfl ⟨rfl, qX10_grownBy⟩ ⟨Nat.le_of_ble_eq_true rfl, Nat.le_of_ble_eq_true rfl⟩ ⟨Nat.le_refl _, Nat.le_refl _⟩ hK hP hD hS hA [0, 1, 2] rfl (by decide) 0 rfl rfl rfl hl.1 rfl (Nat.le_of_ble_eq_true rfl) dX10_tellsBy_40 (fun z w H locs hq hP hD hS => ?_)
    rcases hq with ⟨rfl, rfl, hgr2⟩
    replace hP : va_P D vwCl [(hm, ob 10 (mo a st lw tl wk pe ch pl fa iw nm qe sd ik kp hh)), ((a 1), aI cI 4 so), ((a 2), aI cI 4 mu)] H := hP
    replace hD : va_D A [(hm, ob 10 (mo a st lw tl wk pe ch pl fa iw nm qe sd ik kp hh)), ((a 1), aI cI 4 so), ((a 2), aI cI 4 mu)] := hD
    exact z_iret hx hb hr hlocks hP hD hS dX10_tellsBy_43 rfl (by refine ⟨?_, rfl, tb_rng (fun v => gro_rng hst.1 v) hx0⟩; simp only [tb]; repeat (first | (rw [if_pos (by omega)]) | (rw [if_neg (by omega)])); (try rfl))
  refine z_tabO (tgt := 44) hx hb dX10_tellsBy_1 (by first | assumption | omega) (by omega) (by decide) ?_
  refine lv_aload_n hx hb dX10_tellsBy_44 rfl (lv_at hl 0 rfl) ?_
  refine lv_iload_n hx hb dX10_tellsBy_45 rfl (lv_at hl 2 rfl) ?_
  refine z_Vi (As := [.int (iZ x)]) (rest := []) hC (c_X10_grownBy l D cI cJ cB hm a st lw tl wk pe ch pl fa iw nm qe sd ik kp hh so mu x (by first | assumption | omega) (by first | assumption | omega) (by first | assumption | omega)) 1 gX10_tellsBy_X10_grownBy rfl rfl rfl ⟨rfl, qX10_grownBy⟩ ⟨Nat.le_of_ble_eq_true rfl, Nat.le_of_ble_eq_true rfl⟩ ⟨Nat.le_refl _, Nat.le_refl _⟩ hK hP hD hS hA [0, 1, 2] rfl (by decide) 0 rfl rfl rfl hl.1 rfl (Nat.le_of_ble_eq_true rfl) dX10_tellsBy_46 (fun z w H locs hq hP hD hS => ?_)
  rcases hq with ⟨rfl, rfl, hgr3⟩
  replace hP : va_P D vwCl [(hm, ob 10 (mo a st lw tl wk pe ch pl fa iw nm qe sd ik kp hh)), ((a 1), aI cI 4 so), ((a 2), aI cI 4 mu)] H := hP
  replace hD : va_D A [(hm, ob 10 (mo a st lw tl wk pe ch pl fa iw nm qe sd ik kp hh)), ((a 1), aI cI 4 so), ((a 2), aI cI 4 mu)] := hD
  exact z_iret hx hb hr hlocks hP hD hS dX10_tellsBy_49 rfl (by refine ⟨?_, rfl, tb_rng (fun v => gro_rng hst.1 v) hx0⟩; simp only [tb]; repeat (first | (rw [if_pos (by omega)]) | (rw [if_neg (by omega)])); (try rfl))
theorem qX10_tells : yX10_tells.cls ≠ "java/lang/invoke/MethodHandle" ∧ yX10_tells.cls ≠ "java/lang/invoke/VarHandle" ∧ (parseMethodDescriptor yX10_tells.desc).map (fun d => d.parameters.length) = some 2 := by decide +kernel
set_option maxHeartbeats 4000000 in
set_option maxRecDepth 100000 in
theorem c_X10_tells (l : Launch) (D : va_G) (cI cJ cB : ClassId) (hm : Nat) (a : Nat → Nat) (st lw tl wk pe ch pl fa iw nm qe sd ik kp hh : Int) (so mu kd : Int → Int) (p0 x : Int) (hsu : ∀ j, (0 ≤ so j ∧ so j ≤ 4) ∧ (0 ≤ mu j ∧ mu j ≤ 9) ∧ (so j = 4 → 2 ≤ mu j)) (hst : 1 ≤ st ∧ st ≤ 4) (hpe : 0 ≤ pe ∧ pe ≤ 8) (hkd : ∀ j, 0 ≤ kd j ∧ kd j ≤ 3) (hp0 : -2147483648 ≤ p0 ∧ p0 < 2147483648) (hx0 : -2147483648 ≤ x ∧ x < 2147483648) : zMi l yX10_tells wsX10_tells (zRm 3 67) D (zT cI cJ cB) [.ref hm, .int (iZ p0), .int (iZ x)] [(hm, ob 10 (mo a st lw tl wk pe ch pl fa iw nm qe sd ik kp hh)), ((a 1), aI cI 4 so), ((a 2), aI cI 4 mu), ((a 9), aI cI 8 kd)] (fun (z : Int) (w : va_W) => ((-101) = z ∧ w = [(hm, ob 10 (mo a st lw tl wk pe ch pl fa iw nm qe sd ik kp hh)), ((a 1), aI cI 4 so), ((a 2), aI cI 4 mu), ((a 9), aI cI 8 kd)] ∧ (¬ (0 ≤ p0 ∧ p0 < pe))) ∨ ((-102) = z ∧ w = [(hm, ob 10 (mo a st lw tl wk pe ch pl fa iw nm qe sd ik kp hh)), ((a 1), aI cI 4 so), ((a 2), aI cI 4 mu), ((a 9), aI cI 8 kd)] ∧ (0 ≤ p0 ∧ p0 < pe) ∧ (¬ (0 ≤ x ∧ x ≤ 9999))) ∨ (tb (gro so mu st.toNat) (kd p0) x = z ∧ w = [(hm, ob 10 (mo a st lw tl wk pe ch pl fa iw nm qe sd ik kp hh)), ((a 1), aI cI 4 so), ((a 2), aI cI 4 mu), ((a 9), aI cI 8 kd)] ∧ (0 ≤ p0 ∧ p0 < pe) ∧ (0 ≤ x ∧ x ≤ 9999))) := by
  refine z_of (Qc := fun A => zQi D [(hm, ob 10 (mo a st lw tl wk pe ch pl fa iw nm qe sd ik kp hh)), ((a 1), aI cI 4 so), ((a 2), aI cI 4 mu), ((a 9), aI cI 8 kd)] A _) (cc := cX10_tells) (maxL := 3) (ret := (some .int)) (by decide) rfl (Nat.le_of_ble_eq_true rfl) ?_
  intro p e s m below meth c A ls hx hb hr hts hown hlocks hml hK hP hD hS hA hl
  replace hown : s.vm.findClass RX10 = some m.cls := hown
  have hC : CallFix p m c cX10_tells 3 s _ wsX10_tells RX10 := ⟨hx, hb, hml, hown, hts⟩
  replace hl : lv_has ls 3 [(0, .ref hm), (1, .int (iZ p0)), (2, .int (iZ x))] := hl
  have iwX10 : ∀ w ∈ u_ws RX10 TX10 36, w ∈ wsX10_tells := fun w h => List.mem_cons_of_mem _ (List.mem_append_right _ h)
  have fl26 : Cond.fieldLink RX10 26 "GrowsByHalfModel" "kindOf" "[I" ∈ wsX10_tells := by decide +kernel
  refine lv_aload_n hx hb dX10_tells_0 rfl (lv_at hl 0 rfl) ?_
  refine lv_iload_n hx hb dX10_tells_1 rfl (lv_at hl 1 rfl) ?_
  refine z_Vi (As := [.int (iZ p0)]) (rest := []) hC (c_X10_isPerson l D cI cJ cB hm a st lw tl wk pe ch pl fa iw nm qe sd ik kp hh p0 (by first | assumption | omega) (by first | assumption | omega)) 1 gX10_tells_X10_isPerson rfl rfl rfl ⟨rfl, qX10_isPerson⟩ ⟨Nat.le_of_ble_eq_true rfl, Nat.le_of_ble_eq_true rfl⟩ ⟨Nat.le_refl _, Nat.le_refl _⟩ hK hP hD hS hA [0] rfl (by decide) 0 rfl rfl rfl hl.1 rfl (Nat.le_of_ble_eq_true rfl) dX10_tells_2 (fun z w H locs hq hP hD hS => ?_)
  rcases hq with ⟨rfl, rfl, hc1_0⟩ | ⟨rfl, rfl, hc1_0⟩
  · replace hP : va_P D vwCl [(hm, ob 10 (mo a st lw tl wk pe ch pl fa iw nm qe sd ik kp hh)), ((a 1), aI cI 4 so), ((a 2), aI cI 4 mu), ((a 9), aI cI 8 kd)] H := hP
    replace hD : va_D A [(hm, ob 10 (mo a st lw tl wk pe ch pl fa iw nm qe sd ik kp hh)), ((a 1), aI cI 4 so), ((a 2), aI cI 4 mu), ((a 9), aI cI 8 kd)] := hD
    refine z_if_ne (tgt := 11) hx hb dX10_tells_5 (by decide) (by first | assumption | omega) (fun _ => ?_) (fun h => absurd h (by decide))
    refine lv_iload_n hx hb dX10_tells_11 rfl (lv_at hl 2 rfl) ?_
    refine z_Si (As := [.int (iZ x)]) (rest := []) hC (c_X10_isSize l D cI cJ cB x (by first | assumption | omega)) 1 gX10_tells_X10_isSize rfl rfl rfl qX10_isSize ⟨Nat.le_of_ble_eq_true rfl, Nat.le_of_ble_eq_true rfl⟩ ⟨Nat.le_refl _, Nat.le_refl _⟩ hK hP hD hS hA [] rfl (by decide) rfl hl.1 rfl (Nat.le_of_ble_eq_true rfl) dX10_tells_12 (fun z w H locs hq hP hD hS => ?_)
    rcases hq with ⟨rfl, rfl, hc2_0⟩ | ⟨rfl, rfl, hc2_0⟩
    · replace hP : va_P D vwCl [(hm, ob 10 (mo a st lw tl wk pe ch pl fa iw nm qe sd ik kp hh)), ((a 1), aI cI 4 so), ((a 2), aI cI 4 mu), ((a 9), aI cI 8 kd)] H := hP
      replace hD : va_D A [(hm, ob 10 (mo a st lw tl wk pe ch pl fa iw nm qe sd ik kp hh)), ((a 1), aI cI 4 so), ((a 2), aI cI 4 mu), ((a 9), aI cI 8 kd)] := hD
      refine z_if_eq (tgt := 32) hx hb dX10_tells_15 (by decide) (by first | assumption | omega) (fun h => absurd h (by decide)) (fun _ => ?_)
      refine lv_aload_n hx hb dX10_tells_18 rfl (lv_at hl 0 rfl) ?_
      refine lv_aload_n hx hb dX10_tells_19 rfl (lv_at hl 0 rfl) ?_
      refine z_get (C := RX10) (T0 := TX10) (N := 36) (ci := 10) (v := .ref (a 9)) hx hb hts hown hK hP iwX10 rfl 0 rfl 9 (by decide) fl26 rfl dX10_tells_20 ?_
      refine lv_iload_n hx hb dX10_tells_23 rfl (lv_at hl 1 rfl) ?_
      refine z_iald hx hb hK hP 3 0 rfl rfl (by decide) (by first | assumption | omega) dX10_tells_24 ?_
      have rd_3 := hkd p0
      refine lv_iload_n hx hb dX10_tells_25 rfl (lv_at hl 2 rfl) ?_
      refine z_Vi (As := [.int (iZ (kd p0)), .int (iZ x)]) (rest := []) hC (c_X10_tellsBy l D cI cJ cB hm a st lw tl wk pe ch pl fa iw nm qe sd ik kp hh so mu (kd p0) x (by first | assumption | omega) (by first | assumption | omega) (by first | assumption | omega) (by first | assumption | omega)) 2 gX10_tells_X10_tellsBy rfl rfl rfl ⟨rfl, qX10_tellsBy⟩ ⟨Nat.le_of_ble_eq_true rfl, Nat.le_of_ble_eq_true rfl⟩ ⟨Nat.le_refl _, Nat.le_refl _⟩ hK hP hD hS hA [0, 1, 2] rfl (by decide) 0 rfl rfl rfl hl.1 rfl (Nat.le_of_ble_eq_true rfl) dX10_tells_26 (fun z w H locs hq hP hD hS => ?_)
      rcases hq with ⟨rfl, rfl, htr4⟩
      replace hP : va_P D vwCl [(hm, ob 10 (mo a st lw tl wk pe ch pl fa iw nm qe sd ik kp hh)), ((a 1), aI cI 4 so), ((a 2), aI cI 4 mu), ((a 9), aI cI 8 kd)] H := hP
      replace hD : va_D A [(hm, ob 10 (mo a st lw tl wk pe ch pl fa iw nm qe sd ik kp hh)), ((a 1), aI cI 4 so), ((a 2), aI cI 4 mu), ((a 9), aI cI 8 kd)] := hD
      refine lv_goto (tgt := 34) hx hb dX10_tells_29 (by decide) ?_
      exact z_iret hx hb hr hlocks hP hD hS dX10_tells_34 rfl (by first | (exact Or.inl (⟨(by first | rfl | omega), rfl, (by first | assumption | omega)⟩)) | (exact Or.inr (Or.inl (⟨(by first | rfl | omega), rfl, (by first | assumption | omega), (by first | assumption | omega)⟩))) | (exact Or.inr (Or.inr (⟨(by first | rfl | omega), rfl, (by first | assumption | omega), (by first | assumption | omega)⟩))) | (exfalso; omega))
    · replace hP : va_P D vwCl [(hm, ob 10 (mo a st lw tl wk pe ch pl fa iw nm qe sd ik kp hh)), ((a 1), aI cI 4 so), ((a 2), aI cI 4 mu), ((a 9), aI cI 8 kd)] H := hP
      replace hD : va_D A [(hm, ob 10 (mo a st lw tl wk pe ch pl fa iw nm qe sd ik kp hh)), ((a 1), aI cI 4 so), ((a 2), aI cI 4 mu), ((a 9), aI cI 8 kd)] := hD
      refine z_if_eq (tgt := 32) hx hb dX10_tells_15 (by decide) (by first | assumption | omega) (fun _ => ?_) (fun h => absurd h (by decide))
      refine lv_bipush (v := iZ (-102)) hx hb dX10_tells_32 (by decide) ?_
      exact z_iret hx hb hr hlocks hP hD hS dX10_tells_34 rfl (by first | (exact Or.inr (Or.inl (⟨(by first | rfl | omega), rfl, (by first | assumption | omega), (by first | assumption | omega)⟩))) | (exact Or.inr (Or.inr (⟨(by first | rfl | omega), rfl, (by first | assumption | omega), (by first | assumption | omega)⟩))) | (exfalso; omega))
  · replace hP : va_P D vwCl [(hm, ob 10 (mo a st lw tl wk pe ch pl fa iw nm qe sd ik kp hh)), ((a 1), aI cI 4 so), ((a 2), aI cI 4 mu), ((a 9), aI cI 8 kd)] H := hP
    replace hD : va_D A [(hm, ob 10 (mo a st lw tl wk pe ch pl fa iw nm qe sd ik kp hh)), ((a 1), aI cI 4 so), ((a 2), aI cI 4 mu), ((a 9), aI cI 8 kd)] := hD
    refine z_if_ne (tgt := 11) hx hb dX10_tells_5 (by decide) (by first | assumption | omega) (fun h => absurd h (by decide)) (fun _ => ?_)
    refine lv_bipush (v := iZ (-101)) hx hb dX10_tells_8 (by decide) ?_
    exact z_iret hx hb hr hlocks hP hD hS dX10_tells_10 rfl (by first | (exact Or.inl (⟨(by first | rfl | omega), rfl, (by first | assumption | omega)⟩)) | (exact Or.inr (Or.inr (⟨(by first | rfl | omega), rfl, (by first | assumption | omega), (by first | assumption | omega)⟩))) | (exfalso; omega))
theorem qX10_knows : yX10_knows.cls ≠ "java/lang/invoke/MethodHandle" ∧ yX10_knows.cls ≠ "java/lang/invoke/VarHandle" ∧ (parseMethodDescriptor yX10_knows.desc).map (fun d => d.parameters.length) = some 3 := by decide +kernel
set_option maxHeartbeats 4000000 in
set_option maxRecDepth 100000 in
theorem c_X10_knows (l : Launch) (D : va_G) (cI cJ cB : ClassId) (hm : Nat) (a : Nat → Nat) (st lw tl wk pe ch pl fa iw nm qe sd ik kp hh : Int) (kn : Int → Int) (p0 p1 b : Int) (hpe : 0 ≤ pe ∧ pe ≤ 8) (hp0 : -2147483648 ≤ p0 ∧ p0 < 2147483648) (hp1 : -2147483648 ≤ p1 ∧ p1 < 2147483648) (hbb : -2147483648 ≤ b ∧ b < 2147483648) : zMi l yX10_knows wsX10_knows (zRm 2 43) D (zT cI cJ cB) [.ref hm, .int (iZ p0), .int (iZ p1), .int (iZ b)] [(hm, ob 10 (mo a st lw tl wk pe ch pl fa iw nm qe sd ik kp hh)), ((a 10), aI cI 8 kn)] (fun (z : Int) (w : va_W) => ((-101) = z ∧ w = [(hm, ob 10 (mo a st lw tl wk pe ch pl fa iw nm qe sd ik kp hh)), ((a 10), aI cI 8 kn)] ∧ (¬ (0 ≤ p0 ∧ p0 < pe ∧ 0 ≤ p1 ∧ p1 < pe ∧ p0 ≠ p1))) ∨ (kand (kshr (kn p0) p1) 1 = z ∧ w = [(hm, ob 10 (mo a st lw tl wk pe ch pl fa iw nm qe sd ik kp hh)), ((a 10), aI cI 8 (zu kn p0 (kor (kn p0) (kshl 1 p1))))] ∧ (0 ≤ p0 ∧ p0 < pe ∧ 0 ≤ p1 ∧ p1 < pe ∧ p0 ≠ p1) ∧ b ≠ 0) ∨ (kand (kshr (kn p0) p1) 1 = z ∧ w = [(hm, ob 10 (mo a st lw tl wk pe ch pl fa iw nm qe sd ik kp hh)), ((a 10), aI cI 8 (zu kn p0 (kand (kn p0) (kxor (kshl 1 p1) (-1)))))] ∧ (0 ≤ p0 ∧ p0 < pe ∧ 0 ≤ p1 ∧ p1 < pe ∧ p0 ≠ p1) ∧ b = 0)) := by
  refine z_of (Qc := fun A => zQi D [(hm, ob 10 (mo a st lw tl wk pe ch pl fa iw nm qe sd ik kp hh)), ((a 10), aI cI 8 kn)] A _) (cc := cX10_knows) (maxL := 5) (ret := (some .int)) (by decide) rfl (Nat.le_of_ble_eq_true rfl) ?_
  intro p e s m below meth c A ls hx hb hr hts hown hlocks hml hK hP hD hS hA hl
  replace hown : s.vm.findClass RX10 = some m.cls := hown
  have hC : CallFix p m c cX10_knows 5 s _ wsX10_knows RX10 := ⟨hx, hb, hml, hown, hts⟩
  replace hl : lv_has ls 5 [(0, .ref hm), (1, .int (iZ p0)), (2, .int (iZ p1)), (3, .int (iZ b))] := hl
  have iwX10 : ∀ w ∈ u_ws RX10 TX10 36, w ∈ wsX10_knows := fun w h => List.mem_cons_of_mem _ (List.mem_append_right _ h)
  have fl29 : Cond.fieldLink RX10 29 "GrowsByHalfModel" "knowsOf" "[I" ∈ wsX10_knows := by decide +kernel
  refine lv_aload_n hx hb dX10_knows_0 rfl (lv_at hl 0 rfl) ?_
  refine lv_iload_n hx hb dX10_knows_1 rfl (lv_at hl 1 rfl) ?_
  refine z_Vi (As := [.int (iZ p0)]) (rest := []) hC (c_X10_isPerson l D cI cJ cB hm a st lw tl wk pe ch pl fa iw nm qe sd ik kp hh p0 (by first | assumption | omega) (by first | assumption | omega)) 1 gX10_knows_X10_isPerson rfl rfl rfl ⟨rfl, qX10_isPerson⟩ ⟨Nat.le_of_ble_eq_true rfl, Nat.le_of_ble_eq_true rfl⟩ ⟨Nat.le_refl _, Nat.le_refl _⟩ hK hP hD hS hA [0] rfl (by decide) 0 rfl rfl rfl hl.1 rfl (Nat.le_of_ble_eq_true rfl) dX10_knows_2 (fun z w H locs hq hP hD hS => ?_)
  rcases hq with ⟨rfl, rfl, hc1_0⟩ | ⟨rfl, rfl, hc1_0⟩
  · replace hP : va_P D vwCl [(hm, ob 10 (mo a st lw tl wk pe ch pl fa iw nm qe sd ik kp hh)), ((a 10), aI cI 8 kn)] H := hP
    replace hD : va_D A [(hm, ob 10 (mo a st lw tl wk pe ch pl fa iw nm qe sd ik kp hh)), ((a 10), aI cI 8 kn)] := hD
    refine z_if_eq (tgt := 21) hx hb dX10_knows_5 (by decide) (by first | assumption | omega) (fun h => absurd h (by decide)) (fun _ => ?_)
    refine lv_aload_n hx hb dX10_knows_8 rfl (lv_at hl 0 rfl) ?_
    refine lv_iload_n hx hb dX10_knows_9 rfl (lv_at hl 2 rfl) ?_
    refine z_Vi (As := [.int (iZ p1)]) (rest := []) hC (c_X10_isPerson l D cI cJ cB hm a st lw tl wk pe ch pl fa iw nm qe sd ik kp hh p1 (by first | assumption | omega) (by first | assumption | omega)) 1 gX10_knows_X10_isPerson rfl rfl rfl ⟨rfl, qX10_isPerson⟩ ⟨Nat.le_of_ble_eq_true rfl, Nat.le_of_ble_eq_true rfl⟩ ⟨Nat.le_refl _, Nat.le_refl _⟩ hK hP hD hS hA [0] rfl (by decide) 0 rfl rfl rfl hl.1 rfl (Nat.le_of_ble_eq_true rfl) dX10_knows_10 (fun z w H locs hq hP hD hS => ?_)
    rcases hq with ⟨rfl, rfl, hc2_0⟩ | ⟨rfl, rfl, hc2_0⟩
    · replace hP : va_P D vwCl [(hm, ob 10 (mo a st lw tl wk pe ch pl fa iw nm qe sd ik kp hh)), ((a 10), aI cI 8 kn)] H := hP
      replace hD : va_D A [(hm, ob 10 (mo a st lw tl wk pe ch pl fa iw nm qe sd ik kp hh)), ((a 10), aI cI 8 kn)] := hD
      refine z_if_eq (tgt := 21) hx hb dX10_knows_13 (by decide) (by first | assumption | omega) (fun h => absurd h (by decide)) (fun _ => ?_)
      refine lv_iload_n hx hb dX10_knows_16 rfl (lv_at hl 1 rfl) ?_
      refine lv_iload_n hx hb dX10_knows_17 rfl (lv_at hl 2 rfl) ?_
      refine z_icmp_ne (tgt := 24) hx hb dX10_knows_18 (by decide) (by first | assumption | omega) (by first | assumption | omega) (fun c_18 => ?_) (fun c_18 => ?_)
      · refine lv_aload_n hx hb dX10_knows_24 rfl (lv_at hl 0 rfl) ?_
        refine z_get (C := RX10) (T0 := TX10) (N := 36) (ci := 10) (v := .ref (a 10)) hx hb hts hown hK hP iwX10 rfl 0 rfl 10 (by decide) fl29 rfl dX10_knows_25 ?_
        refine lv_iload_n hx hb dX10_knows_28 rfl (lv_at hl 1 rfl) ?_
        refine z_iald hx hb hK hP 1 0 rfl rfl (by decide) (by first | assumption | omega) dX10_knows_29 ?_
        refine lv_iload_n hx hb dX10_knows_30 rfl (lv_at hl 2 rfl) ?_
        refine z_ishr hx hb dX10_knows_31 ?_
        have rb_3 := kshr_rng (kn p0) p1
        refine lv_iconst (v := iZ 1) hx hb dX10_knows_32 (by decide) ?_
        refine z_iand hx hb dX10_knows_33 ?_
        have rb_4 := kand_rng (kshr (kn p0) p1) 1
        refine lv_istore (lv' := [(4, .int (iZ (kand (kshr (kn p0) p1) 1))), (0, .ref hm), (1, .int (iZ p0)), (2, .int (iZ p1)), (3, .int (iZ b))]) hx hb dX10_knows_34 hl (by decide) rfl (fun ls hl => ?_)
        refine lv_aload_n hx hb dX10_knows_36 rfl (lv_at hl 1 rfl) ?_
        refine z_get (C := RX10) (T0 := TX10) (N := 36) (ci := 10) (v := .ref (a 10)) hx hb hts hown hK hP iwX10 rfl 0 rfl 10 (by decide) fl29 rfl dX10_knows_37 ?_
        refine lv_iload_n hx hb dX10_knows_40 rfl (lv_at hl 2 rfl) ?_
        refine lv_iload_n hx hb dX10_knows_41 rfl (lv_at hl 4 rfl) ?_
        refine z_if_eq (tgt := 58) hx hb dX10_knows_42 (by decide) (by first | assumption | omega) (fun c_42 => ?_) (fun c_42 => ?_)
        · refine lv_aload_n hx hb dX10_knows_58 rfl (lv_at hl 1 rfl) ?_
          refine z_get (C := RX10) (T0 := TX10) (N := 36) (ci := 10) (v := .ref (a 10)) hx hb hts hown hK hP iwX10 rfl 0 rfl 10 (by decide) fl29 rfl dX10_knows_59 ?_
          refine lv_iload_n hx hb dX10_knows_62 rfl (lv_at hl 2 rfl) ?_
          refine z_iald hx hb hK hP 1 0 rfl rfl (by decide) (by first | assumption | omega) dX10_knows_63 ?_
          refine lv_iconst (v := iZ 1) hx hb dX10_knows_64 (by decide) ?_
          refine lv_iload_n hx hb dX10_knows_65 rfl (lv_at hl 3 rfl) ?_
          refine z_ishl hx hb dX10_knows_66 ?_
          have rb_5 := kshl_rng 1 p1
          refine lv_iconst (v := iZ (-1)) hx hb dX10_knows_67 (by decide) ?_
          refine z_ixor hx hb dX10_knows_68 ?_
          have rb_6 := kxor_rng (kshl 1 p1) (-1)
          refine z_iand hx hb dX10_knows_69 ?_
          have rb_7 := kand_rng (kn p0) (kxor (kshl 1 p1) (-1))
          refine z_iast hx hb hK hP hD hS 1 0 rfl rfl (by decide) (by first | assumption | omega) dX10_knows_70 (fun H locs hP hD hS => ?_)
          replace hP : va_P D vwCl [(hm, ob 10 (mo a st lw tl wk pe ch pl fa iw nm qe sd ik kp hh)), ((a 10), aI cI 8 (zu kn p0 (kand (kn p0) (kxor (kshl 1 p1) (-1)))))] H := hP
          replace hD : va_D A [(hm, ob 10 (mo a st lw tl wk pe ch pl fa iw nm qe sd ik kp hh)), ((a 10), aI cI 8 (zu kn p0 (kand (kn p0) (kxor (kshl 1 p1) (-1)))))] := hD
          refine lv_iload hx hb dX10_knows_71 (lv_at hl 0 rfl) ?_
          exact z_iret hx hb hr hlocks hP hD hS dX10_knows_73 rfl (by first | (exact Or.inl (⟨(by first | rfl | omega), rfl, (by first | assumption | omega)⟩)) | (exact Or.inr (Or.inl (⟨(by first | rfl | omega), rfl, (by first | assumption | omega), (by first | assumption | omega)⟩))) | (exact Or.inr (Or.inr (⟨(by first | rfl | omega), rfl, (by first | assumption | omega), (by first | assumption | omega)⟩))) | (exfalso; omega))
        · refine lv_aload_n hx hb dX10_knows_45 rfl (lv_at hl 1 rfl) ?_
          refine z_get (C := RX10) (T0 := TX10) (N := 36) (ci := 10) (v := .ref (a 10)) hx hb hts hown hK hP iwX10 rfl 0 rfl 10 (by decide) fl29 rfl dX10_knows_46 ?_
          refine lv_iload_n hx hb dX10_knows_49 rfl (lv_at hl 2 rfl) ?_
          refine z_iald hx hb hK hP 1 0 rfl rfl (by decide) (by first | assumption | omega) dX10_knows_50 ?_
          refine lv_iconst (v := iZ 1) hx hb dX10_knows_51 (by decide) ?_
          refine lv_iload_n hx hb dX10_knows_52 rfl (lv_at hl 3 rfl) ?_
          refine z_ishl hx hb dX10_knows_53 ?_
          have rb_8 := kshl_rng 1 p1
          refine z_ior hx hb dX10_knows_54 ?_
          have rb_9 := kor_rng (kn p0) (kshl 1 p1)
          refine lv_goto (tgt := 70) hx hb dX10_knows_55 (by decide) ?_
          refine z_iast hx hb hK hP hD hS 1 0 rfl rfl (by decide) (by first | assumption | omega) dX10_knows_70 (fun H locs hP hD hS => ?_)
          replace hP : va_P D vwCl [(hm, ob 10 (mo a st lw tl wk pe ch pl fa iw nm qe sd ik kp hh)), ((a 10), aI cI 8 (zu kn p0 (kor (kn p0) (kshl 1 p1))))] H := hP
          replace hD : va_D A [(hm, ob 10 (mo a st lw tl wk pe ch pl fa iw nm qe sd ik kp hh)), ((a 10), aI cI 8 (zu kn p0 (kor (kn p0) (kshl 1 p1))))] := hD
          refine lv_iload hx hb dX10_knows_71 (lv_at hl 0 rfl) ?_
          exact z_iret hx hb hr hlocks hP hD hS dX10_knows_73 rfl (by first | (exact Or.inl (⟨(by first | rfl | omega), rfl, (by first | assumption | omega)⟩)) | (exact Or.inr (Or.inl (⟨(by first | rfl | omega), rfl, (by first | assumption | omega), (by first | assumption | omega)⟩))) | (exact Or.inr (Or.inr (⟨(by first | rfl | omega), rfl, (by first | assumption | omega), (by first | assumption | omega)⟩))) | (exfalso; omega))
      · refine lv_bipush (v := iZ (-101)) hx hb dX10_knows_21 (by decide) ?_
        exact z_iret hx hb hr hlocks hP hD hS dX10_knows_23 rfl (by first | (exact Or.inl (⟨(by first | rfl | omega), rfl, (by first | assumption | omega)⟩)) | (exact Or.inr (Or.inl (⟨(by first | rfl | omega), rfl, (by first | assumption | omega), (by first | assumption | omega)⟩))) | (exact Or.inr (Or.inr (⟨(by first | rfl | omega), rfl, (by first | assumption | omega), (by first | assumption | omega)⟩))) | (exfalso; omega))
    · replace hP : va_P D vwCl [(hm, ob 10 (mo a st lw tl wk pe ch pl fa iw nm qe sd ik kp hh)), ((a 10), aI cI 8 kn)] H := hP
      replace hD : va_D A [(hm, ob 10 (mo a st lw tl wk pe ch pl fa iw nm qe sd ik kp hh)), ((a 10), aI cI 8 kn)] := hD
      refine z_if_eq (tgt := 21) hx hb dX10_knows_13 (by decide) (by first | assumption | omega) (fun _ => ?_) (fun h => absurd h (by decide))
      refine lv_bipush (v := iZ (-101)) hx hb dX10_knows_21 (by decide) ?_
      exact z_iret hx hb hr hlocks hP hD hS dX10_knows_23 rfl (by first | (exact Or.inl (⟨(by first | rfl | omega), rfl, (by first | assumption | omega)⟩)) | (exact Or.inr (Or.inl (⟨(by first | rfl | omega), rfl, (by first | assumption | omega), (by first | assumption | omega)⟩))) | (exact Or.inr (Or.inr (⟨(by first | rfl | omega), rfl, (by first | assumption | omega), (by first | assumption | omega)⟩))) | (exfalso; omega))
  · replace hP : va_P D vwCl [(hm, ob 10 (mo a st lw tl wk pe ch pl fa iw nm qe sd ik kp hh)), ((a 10), aI cI 8 kn)] H := hP
    replace hD : va_D A [(hm, ob 10 (mo a st lw tl wk pe ch pl fa iw nm qe sd ik kp hh)), ((a 10), aI cI 8 kn)] := hD
    refine z_if_eq (tgt := 21) hx hb dX10_knows_5 (by decide) (by first | assumption | omega) (fun _ => ?_) (fun h => absurd h (by decide))
    refine lv_bipush (v := iZ (-101)) hx hb dX10_knows_21 (by decide) ?_
    exact z_iret hx hb hr hlocks hP hD hS dX10_knows_23 rfl (by first | (exact Or.inl (⟨(by first | rfl | omega), rfl, (by first | assumption | omega)⟩)) | (exact Or.inr (Or.inl (⟨(by first | rfl | omega), rfl, (by first | assumption | omega), (by first | assumption | omega)⟩))) | (exact Or.inr (Or.inr (⟨(by first | rfl | omega), rfl, (by first | assumption | omega), (by first | assumption | omega)⟩))) | (exfalso; omega))
theorem qX10_see : yX10_see.cls ≠ "java/lang/invoke/MethodHandle" ∧ yX10_see.cls ≠ "java/lang/invoke/VarHandle" ∧ (parseMethodDescriptor yX10_see.desc).map (fun d => d.parameters.length) = some 3 := by decide +kernel
set_option maxHeartbeats 4000000 in
set_option maxRecDepth 100000 in
theorem c_X10_see (l : Launch) (D : va_G) (cI cJ cB : ClassId) (hm : Nat) (a : Nat → Nat) (st lw tl wk pe ch pl fa iw nm qe sd ik kp hh : Int) (wi ss : Int → Int) (t p0 x : Int) (hpe : 0 ≤ pe ∧ pe ≤ 8) (ht : -2147483648 ≤ t ∧ t < 2147483648) (hp0 : -2147483648 ≤ p0 ∧ p0 < 2147483648) (hx0 : -2147483648 ≤ x ∧ x < 2147483648) : zMi l yX10_see wsX10_see (zRm 2 43) D (zT cI cJ cB) [.ref hm, .int (iZ t), .int (iZ p0), .int (iZ x)] [(hm, ob 10 (mo a st lw tl wk pe ch pl fa iw nm qe sd ik kp hh)), ((a 11), aI cI 4 wi), ((a 12), aI cI 4 ss)] (fun (z : Int) (w : va_W) => ((-101) = z ∧ w = [(hm, ob 10 (mo a st lw tl wk pe ch pl fa iw nm qe sd ik kp hh)), ((a 11), aI cI 4 wi), ((a 12), aI cI 4 ss)] ∧ (¬ (0 ≤ t ∧ t ≤ 3 ∧ 0 ≤ p0 ∧ p0 < pe))) ∨ ((-102) = z ∧ w = [(hm, ob 10 (mo a st lw tl wk pe ch pl fa iw nm qe sd ik kp hh)), ((a 11), aI cI 4 wi), ((a 12), aI cI 4 ss)] ∧ (0 ≤ t ∧ t ≤ 3) ∧ (0 ≤ p0 ∧ p0 < pe) ∧ (¬ (0 ≤ x ∧ x ≤ 9999))) ∨ (wi t = z ∧ w = [(hm, ob 10 (mo a st lw tl wk pe ch pl fa iw nm qe sd ik kp hh)), ((a 11), aI cI 4 (zu wi t p0)), ((a 12), aI cI 4 (zu ss t x))] ∧ (0 ≤ t ∧ t ≤ 3) ∧ (0 ≤ p0 ∧ p0 < pe) ∧ (0 ≤ x ∧ x ≤ 9999))) := by
  refine z_of (Qc := fun A => zQi D [(hm, ob 10 (mo a st lw tl wk pe ch pl fa iw nm qe sd ik kp hh)), ((a 11), aI cI 4 wi), ((a 12), aI cI 4 ss)] A _) (cc := cX10_see) (maxL := 5) (ret := (some .int)) (by decide) rfl (Nat.le_of_ble_eq_true rfl) ?_
  intro p e s m below meth c A ls hx hb hr hts hown hlocks hml hK hP hD hS hA hl
  replace hown : s.vm.findClass RX10 = some m.cls := hown
  have hC : CallFix p m c cX10_see 5 s _ wsX10_see RX10 := ⟨hx, hb, hml, hown, hts⟩
  replace hl : lv_has ls 5 [(0, .ref hm), (1, .int (iZ t)), (2, .int (iZ p0)), (3, .int (iZ x))] := hl
  have iwX10 : ∀ w ∈ u_ws RX10 TX10 36, w ∈ wsX10_see := fun w h => List.mem_cons_of_mem _ (List.mem_append_right _ h)
  have fl32 : Cond.fieldLink RX10 32 "GrowsByHalfModel" "witnessOf" "[I" ∈ wsX10_see := by decide +kernel
  have fl35 : Cond.fieldLink RX10 35 "GrowsByHalfModel" "seenOf" "[I" ∈ wsX10_see := by decide +kernel
  refine lv_iload_n hx hb dX10_see_0 rfl (lv_at hl 1 rfl) ?_
  refine z_Si (As := [.int (iZ t)]) (rest := []) hC (c_X10_isTale l D cI cJ cB t (by first | assumption | omega)) 1 gX10_see_X10_isTale rfl rfl rfl qX10_isTale ⟨Nat.le_of_ble_eq_true rfl, Nat.le_of_ble_eq_true rfl⟩ ⟨Nat.le_refl _, Nat.le_refl _⟩ hK hP hD hS hA [] rfl (by decide) rfl hl.1 rfl (Nat.le_of_ble_eq_true rfl) dX10_see_1 (fun z w H locs hq hP hD hS => ?_)
  rcases hq with ⟨rfl, rfl, hc1_0⟩ | ⟨rfl, rfl, hc1_0⟩
  · replace hP : va_P D vwCl [(hm, ob 10 (mo a st lw tl wk pe ch pl fa iw nm qe sd ik kp hh)), ((a 11), aI cI 4 wi), ((a 12), aI cI 4 ss)] H := hP
    replace hD : va_D A [(hm, ob 10 (mo a st lw tl wk pe ch pl fa iw nm qe sd ik kp hh)), ((a 11), aI cI 4 wi), ((a 12), aI cI 4 ss)] := hD
    refine z_if_eq (tgt := 15) hx hb dX10_see_4 (by decide) (by first | assumption | omega) (fun h => absurd h (by decide)) (fun _ => ?_)
    refine lv_aload_n hx hb dX10_see_7 rfl (lv_at hl 0 rfl) ?_
    refine lv_iload_n hx hb dX10_see_8 rfl (lv_at hl 2 rfl) ?_
    refine z_Vi (As := [.int (iZ p0)]) (rest := []) hC (c_X10_isPerson l D cI cJ cB hm a st lw tl wk pe ch pl fa iw nm qe sd ik kp hh p0 (by first | assumption | omega) (by first | assumption | omega)) 1 gX10_see_X10_isPerson rfl rfl rfl ⟨rfl, qX10_isPerson⟩ ⟨Nat.le_of_ble_eq_true rfl, Nat.le_of_ble_eq_true rfl⟩ ⟨Nat.le_refl _, Nat.le_refl _⟩ hK hP hD hS hA [0] rfl (by decide) 0 rfl rfl rfl hl.1 rfl (Nat.le_of_ble_eq_true rfl) dX10_see_9 (fun z w H locs hq hP hD hS => ?_)
    rcases hq with ⟨rfl, rfl, hc2_0⟩ | ⟨rfl, rfl, hc2_0⟩
    · replace hP : va_P D vwCl [(hm, ob 10 (mo a st lw tl wk pe ch pl fa iw nm qe sd ik kp hh)), ((a 11), aI cI 4 wi), ((a 12), aI cI 4 ss)] H := hP
      replace hD : va_D A [(hm, ob 10 (mo a st lw tl wk pe ch pl fa iw nm qe sd ik kp hh)), ((a 11), aI cI 4 wi), ((a 12), aI cI 4 ss)] := hD
      refine z_if_ne (tgt := 18) hx hb dX10_see_12 (by decide) (by first | assumption | omega) (fun _ => ?_) (fun h => absurd h (by decide))
      refine lv_iload_n hx hb dX10_see_18 rfl (lv_at hl 3 rfl) ?_
      refine z_Si (As := [.int (iZ x)]) (rest := []) hC (c_X10_isSize l D cI cJ cB x (by first | assumption | omega)) 1 gX10_see_X10_isSize rfl rfl rfl qX10_isSize ⟨Nat.le_of_ble_eq_true rfl, Nat.le_of_ble_eq_true rfl⟩ ⟨Nat.le_refl _, Nat.le_refl _⟩ hK hP hD hS hA [] rfl (by decide) rfl hl.1 rfl (Nat.le_of_ble_eq_true rfl) dX10_see_19 (fun z w H locs hq hP hD hS => ?_)
      rcases hq with ⟨rfl, rfl, hc3_0⟩ | ⟨rfl, rfl, hc3_0⟩
      · replace hP : va_P D vwCl [(hm, ob 10 (mo a st lw tl wk pe ch pl fa iw nm qe sd ik kp hh)), ((a 11), aI cI 4 wi), ((a 12), aI cI 4 ss)] H := hP
        replace hD : va_D A [(hm, ob 10 (mo a st lw tl wk pe ch pl fa iw nm qe sd ik kp hh)), ((a 11), aI cI 4 wi), ((a 12), aI cI 4 ss)] := hD
        refine z_if_ne (tgt := 28) hx hb dX10_see_22 (by decide) (by first | assumption | omega) (fun _ => ?_) (fun h => absurd h (by decide))
        refine lv_aload_n hx hb dX10_see_28 rfl (lv_at hl 0 rfl) ?_
        refine z_get (C := RX10) (T0 := TX10) (N := 36) (ci := 10) (v := .ref (a 11)) hx hb hts hown hK hP iwX10 rfl 0 rfl 11 (by decide) fl32 rfl dX10_see_29 ?_
        refine lv_iload_n hx hb dX10_see_32 rfl (lv_at hl 1 rfl) ?_
        refine z_iald hx hb hK hP 1 0 rfl rfl (by decide) (by first | assumption | omega) dX10_see_33 ?_
        refine lv_istore (lv' := [(4, .int (iZ (wi t))), (0, .ref hm), (1, .int (iZ t)), (2, .int (iZ p0)), (3, .int (iZ x))]) hx hb dX10_see_34 hl (by decide) rfl (fun ls hl => ?_)
        refine lv_aload_n hx hb dX10_see_36 rfl (lv_at hl 1 rfl) ?_
        refine z_get (C := RX10) (T0 := TX10) (N := 36) (ci := 10) (v := .ref (a 11)) hx hb hts hown hK hP iwX10 rfl 0 rfl 11 (by decide) fl32 rfl dX10_see_37 ?_
        refine lv_iload_n hx hb dX10_see_40 rfl (lv_at hl 2 rfl) ?_
        refine lv_iload_n hx hb dX10_see_41 rfl (lv_at hl 3 rfl) ?_
        refine z_iast hx hb hK hP hD hS 1 0 rfl rfl (by decide) (by first | assumption | omega) dX10_see_42 (fun H locs hP hD hS => ?_)
        replace hP : va_P D vwCl [(hm, ob 10 (mo a st lw tl wk pe ch pl fa iw nm qe sd ik kp hh)), ((a 11), aI cI 4 (zu wi t p0)), ((a 12), aI cI 4 ss)] H := hP
        replace hD : va_D A [(hm, ob 10 (mo a st lw tl wk pe ch pl fa iw nm qe sd ik kp hh)), ((a 11), aI cI 4 (zu wi t p0)), ((a 12), aI cI 4 ss)] := hD
        refine lv_aload_n hx hb dX10_see_43 rfl (lv_at hl 1 rfl) ?_
        refine z_get (C := RX10) (T0 := TX10) (N := 36) (ci := 10) (v := .ref (a 12)) hx hb hts hown hK hP iwX10 rfl 0 rfl 12 (by decide) fl35 rfl dX10_see_44 ?_
        refine lv_iload_n hx hb dX10_see_47 rfl (lv_at hl 2 rfl) ?_
        refine lv_iload_n hx hb dX10_see_48 rfl (lv_at hl 4 rfl) ?_
        refine z_iast hx hb hK hP hD hS 2 0 rfl rfl (by decide) (by first | assumption | omega) dX10_see_49 (fun H locs hP hD hS => ?_)
        replace hP : va_P D vwCl [(hm, ob 10 (mo a st lw tl wk pe ch pl fa iw nm qe sd ik kp hh)), ((a 11), aI cI 4 (zu wi t p0)), ((a 12), aI cI 4 (zu ss t x))] H := hP
        replace hD : va_D A [(hm, ob 10 (mo a st lw tl wk pe ch pl fa iw nm qe sd ik kp hh)), ((a 11), aI cI 4 (zu wi t p0)), ((a 12), aI cI 4 (zu ss t x))] := hD
        refine lv_iload hx hb dX10_see_50 (lv_at hl 0 rfl) ?_
        exact z_iret hx hb hr hlocks hP hD hS dX10_see_52 rfl (by first | (exact Or.inl (⟨(by first | rfl | omega), rfl, (by first | assumption | omega)⟩)) | (exact Or.inr (Or.inl (⟨(by first | rfl | omega), rfl, (by first | assumption | omega), (by first | assumption | omega), (by first | assumption | omega)⟩))) | (exact Or.inr (Or.inr (⟨(by first | rfl | omega), rfl, (by first | assumption | omega), (by first | assumption | omega), (by first | assumption | omega)⟩))) | (exfalso; omega))
      · replace hP : va_P D vwCl [(hm, ob 10 (mo a st lw tl wk pe ch pl fa iw nm qe sd ik kp hh)), ((a 11), aI cI 4 wi), ((a 12), aI cI 4 ss)] H := hP
        replace hD : va_D A [(hm, ob 10 (mo a st lw tl wk pe ch pl fa iw nm qe sd ik kp hh)), ((a 11), aI cI 4 wi), ((a 12), aI cI 4 ss)] := hD
        refine z_if_ne (tgt := 28) hx hb dX10_see_22 (by decide) (by first | assumption | omega) (fun h => absurd h (by decide)) (fun _ => ?_)
        refine lv_bipush (v := iZ (-102)) hx hb dX10_see_25 (by decide) ?_
        exact z_iret hx hb hr hlocks hP hD hS dX10_see_27 rfl (by first | (exact Or.inr (Or.inl (⟨(by first | rfl | omega), rfl, (by first | assumption | omega), (by first | assumption | omega), (by first | assumption | omega)⟩))) | (exact Or.inr (Or.inr (⟨(by first | rfl | omega), rfl, (by first | assumption | omega), (by first | assumption | omega), (by first | assumption | omega)⟩))) | (exfalso; omega))
    · replace hP : va_P D vwCl [(hm, ob 10 (mo a st lw tl wk pe ch pl fa iw nm qe sd ik kp hh)), ((a 11), aI cI 4 wi), ((a 12), aI cI 4 ss)] H := hP
      replace hD : va_D A [(hm, ob 10 (mo a st lw tl wk pe ch pl fa iw nm qe sd ik kp hh)), ((a 11), aI cI 4 wi), ((a 12), aI cI 4 ss)] := hD
      refine z_if_ne (tgt := 18) hx hb dX10_see_12 (by decide) (by first | assumption | omega) (fun h => absurd h (by decide)) (fun _ => ?_)
      refine lv_bipush (v := iZ (-101)) hx hb dX10_see_15 (by decide) ?_
      exact z_iret hx hb hr hlocks hP hD hS dX10_see_17 rfl (by first | (exact Or.inl (⟨(by first | rfl | omega), rfl, (by first | assumption | omega)⟩)) | (exact Or.inr (Or.inr (⟨(by first | rfl | omega), rfl, (by first | assumption | omega), (by first | assumption | omega), (by first | assumption | omega)⟩))) | (exfalso; omega))
  · replace hP : va_P D vwCl [(hm, ob 10 (mo a st lw tl wk pe ch pl fa iw nm qe sd ik kp hh)), ((a 11), aI cI 4 wi), ((a 12), aI cI 4 ss)] H := hP
    replace hD : va_D A [(hm, ob 10 (mo a st lw tl wk pe ch pl fa iw nm qe sd ik kp hh)), ((a 11), aI cI 4 wi), ((a 12), aI cI 4 ss)] := hD
    refine z_if_eq (tgt := 15) hx hb dX10_see_4 (by decide) (by first | assumption | omega) (fun _ => ?_) (fun h => absurd h (by decide))
    refine lv_bipush (v := iZ (-101)) hx hb dX10_see_15 (by decide) ?_
    exact z_iret hx hb hr hlocks hP hD hS dX10_see_17 rfl (by first | (exact Or.inl (⟨(by first | rfl | omega), rfl, (by first | assumption | omega)⟩)) | (exact Or.inr (Or.inr (⟨(by first | rfl | omega), rfl, (by first | assumption | omega), (by first | assumption | omega), (by first | assumption | omega)⟩))) | (exfalso; omega))
theorem qX10_drop : yX10_drop.cls ≠ "java/lang/invoke/MethodHandle" ∧ yX10_drop.cls ≠ "java/lang/invoke/VarHandle" ∧ (parseMethodDescriptor yX10_drop.desc).map (fun d => d.parameters.length) = some 1 := by decide +kernel
set_option maxHeartbeats 4000000 in
set_option maxRecDepth 100000 in
theorem c_X10_drop (l : Launch) (D : va_G) (cI cJ cB : ClassId) (hm : Nat) (a : Nat → Nat) (st lw tl wk pe ch pl fa iw nm qe sd ik kp hh : Int) (wi : Int → Int) (t : Int) (ht : -2147483648 ≤ t ∧ t < 2147483648) : zMi l yX10_drop wsX10_drop (zRm 2 42) D (zT cI cJ cB) [.ref hm, .int (iZ t)] [(hm, ob 10 (mo a st lw tl wk pe ch pl fa iw nm qe sd ik kp hh)), ((a 11), aI cI 4 wi)] (fun (z : Int) (w : va_W) => ((-101) = z ∧ w = [(hm, ob 10 (mo a st lw tl wk pe ch pl fa iw nm qe sd ik kp hh)), ((a 11), aI cI 4 wi)] ∧ (¬ (0 ≤ t ∧ t ≤ 3))) ∨ (wi t = z ∧ w = [(hm, ob 10 (mo a st lw tl wk pe ch pl fa iw nm qe sd ik kp hh)), ((a 11), aI cI 4 (zu wi t (-1)))] ∧ (0 ≤ t ∧ t ≤ 3))) := by
  refine z_of (Qc := fun A => zQi D [(hm, ob 10 (mo a st lw tl wk pe ch pl fa iw nm qe sd ik kp hh)), ((a 11), aI cI 4 wi)] A _) (cc := cX10_drop) (maxL := 3) (ret := (some .int)) (by decide) rfl (Nat.le_of_ble_eq_true rfl) ?_
  intro p e s m below meth c A ls hx hb hr hts hown hlocks hml hK hP hD hS hA hl
  replace hown : s.vm.findClass RX10 = some m.cls := hown
  have hC : CallFix p m c cX10_drop 3 s _ wsX10_drop RX10 := ⟨hx, hb, hml, hown, hts⟩
  replace hl : lv_has ls 3 [(0, .ref hm), (1, .int (iZ t))] := hl
  have iwX10 : ∀ w ∈ u_ws RX10 TX10 36, w ∈ wsX10_drop := fun w h => List.mem_cons_of_mem _ (List.mem_append_right _ h)
  have fl32 : Cond.fieldLink RX10 32 "GrowsByHalfModel" "witnessOf" "[I" ∈ wsX10_drop := by decide +kernel
  refine lv_iload_n hx hb dX10_drop_0 rfl (lv_at hl 1 rfl) ?_
  refine z_Si (As := [.int (iZ t)]) (rest := []) hC (c_X10_isTale l D cI cJ cB t (by first | assumption | omega)) 1 gX10_drop_X10_isTale rfl rfl rfl qX10_isTale ⟨Nat.le_of_ble_eq_true rfl, Nat.le_of_ble_eq_true rfl⟩ ⟨Nat.le_refl _, Nat.le_refl _⟩ hK hP hD hS hA [] rfl (by decide) rfl hl.1 rfl (Nat.le_of_ble_eq_true rfl) dX10_drop_1 (fun z w H locs hq hP hD hS => ?_)
  rcases hq with ⟨rfl, rfl, hc1_0⟩ | ⟨rfl, rfl, hc1_0⟩
  · replace hP : va_P D vwCl [(hm, ob 10 (mo a st lw tl wk pe ch pl fa iw nm qe sd ik kp hh)), ((a 11), aI cI 4 wi)] H := hP
    replace hD : va_D A [(hm, ob 10 (mo a st lw tl wk pe ch pl fa iw nm qe sd ik kp hh)), ((a 11), aI cI 4 wi)] := hD
    refine z_if_ne (tgt := 10) hx hb dX10_drop_4 (by decide) (by first | assumption | omega) (fun _ => ?_) (fun h => absurd h (by decide))
    refine lv_aload_n hx hb dX10_drop_10 rfl (lv_at hl 0 rfl) ?_
    refine z_get (C := RX10) (T0 := TX10) (N := 36) (ci := 10) (v := .ref (a 11)) hx hb hts hown hK hP iwX10 rfl 0 rfl 11 (by decide) fl32 rfl dX10_drop_11 ?_
    refine lv_iload_n hx hb dX10_drop_14 rfl (lv_at hl 1 rfl) ?_
    refine z_iald hx hb hK hP 1 0 rfl rfl (by decide) (by first | assumption | omega) dX10_drop_15 ?_
    refine lv_istore_n (lv' := [(2, .int (iZ (wi t))), (0, .ref hm), (1, .int (iZ t))]) hx hb dX10_drop_16 rfl hl (by decide) rfl (fun ls hl => ?_)
    refine lv_aload_n hx hb dX10_drop_17 rfl (lv_at hl 1 rfl) ?_
    refine z_get (C := RX10) (T0 := TX10) (N := 36) (ci := 10) (v := .ref (a 11)) hx hb hts hown hK hP iwX10 rfl 0 rfl 11 (by decide) fl32 rfl dX10_drop_18 ?_
    refine lv_iload_n hx hb dX10_drop_21 rfl (lv_at hl 2 rfl) ?_
    refine lv_iconst (v := iZ (-1)) hx hb dX10_drop_22 (by decide) ?_
    refine z_iast hx hb hK hP hD hS 1 0 rfl rfl (by decide) (by first | assumption | omega) dX10_drop_23 (fun H locs hP hD hS => ?_)
    replace hP : va_P D vwCl [(hm, ob 10 (mo a st lw tl wk pe ch pl fa iw nm qe sd ik kp hh)), ((a 11), aI cI 4 (zu wi t (-1)))] H := hP
    replace hD : va_D A [(hm, ob 10 (mo a st lw tl wk pe ch pl fa iw nm qe sd ik kp hh)), ((a 11), aI cI 4 (zu wi t (-1)))] := hD
    refine lv_iload_n hx hb dX10_drop_24 rfl (lv_at hl 0 rfl) ?_
    exact z_iret hx hb hr hlocks hP hD hS dX10_drop_25 rfl (by first | (exact Or.inl (⟨(by first | rfl | omega), rfl, (by first | assumption | omega)⟩)) | (exact Or.inr (⟨(by first | rfl | omega), rfl, (by first | assumption | omega)⟩)) | (exfalso; omega))
  · replace hP : va_P D vwCl [(hm, ob 10 (mo a st lw tl wk pe ch pl fa iw nm qe sd ik kp hh)), ((a 11), aI cI 4 wi)] H := hP
    replace hD : va_D A [(hm, ob 10 (mo a st lw tl wk pe ch pl fa iw nm qe sd ik kp hh)), ((a 11), aI cI 4 wi)] := hD
    refine z_if_ne (tgt := 10) hx hb dX10_drop_4 (by decide) (by first | assumption | omega) (fun h => absurd h (by decide)) (fun _ => ?_)
    refine lv_bipush (v := iZ (-101)) hx hb dX10_drop_7 (by decide) ?_
    exact z_iret hx hb hr hlocks hP hD hS dX10_drop_9 rfl (by first | (exact Or.inl (⟨(by first | rfl | omega), rfl, (by first | assumption | omega)⟩)) | (exact Or.inr (⟨(by first | rfl | omega), rfl, (by first | assumption | omega)⟩)) | (exfalso; omega))
theorem qX10_begin : yX10_begin.cls ≠ "java/lang/invoke/MethodHandle" ∧ yX10_begin.cls ≠ "java/lang/invoke/VarHandle" ∧ (parseMethodDescriptor yX10_begin.desc).map (fun d => d.parameters.length) = some 2 := by decide +kernel
set_option maxHeartbeats 4000000 in
set_option maxRecDepth 100000 in
theorem c_X10_begin (l : Launch) (D : va_G) (cI cJ cB : ClassId) (hm : Nat) (a : Nat → Nat) (st lw tl wk pe ch pl fa iw nm qe sd ik kp hh : Int) (bg fm : Int → Int) (q x : Int) (hq : -1 ≤ q ∧ q ≤ 7) : zMv l yX10_begin wsX10_begin (zRm 0 0) D (zT cI cJ cB) [.ref hm, .int (iZ q), .int (iZ x)] [(hm, ob 10 (mo a st lw tl wk pe ch pl fa iw nm qe sd ik kp hh)), ((a 23), aI cI 8 bg), ((a 24), aI cI 8 fm)] (fun (w : va_W) => w = [(hm, ob 10 (mo a st lw tl wk pe ch pl fa iw nm qe sd ik kp hh)), ((a 23), aI cI 8 (bgn q x)), ((a 24), aI cI 8 (fun _ => -1))]) := by
  refine z_of (Qc := fun A => zQv D [(hm, ob 10 (mo a st lw tl wk pe ch pl fa iw nm qe sd ik kp hh)), ((a 23), aI cI 8 bg), ((a 24), aI cI 8 fm)] A _) (cc := cX10_begin) (maxL := 4) (ret := none) (by decide) rfl (Nat.le_of_ble_eq_true rfl) ?_
  intro p e s m below meth c A ls hx hb hr hts hown hlocks hml hK hP hD hS hA hl
  replace hown : s.vm.findClass RX10 = some m.cls := hown
  have hC : CallFix p m c cX10_begin 4 s _ wsX10_begin RX10 := ⟨hx, hb, hml, hown, hts⟩
  replace hl : lv_has ls 4 [(0, .ref hm), (1, .int (iZ q)), (2, .int (iZ x))] := hl
  have iwX10 : ∀ w ∈ u_ws RX10 TX10 36, w ∈ wsX10_begin := fun w h => List.mem_cons_of_mem _ (List.mem_append_right _ h)
  have fl54 : Cond.fieldLink RX10 54 "GrowsByHalfModel" "bigOf" "[I" ∈ wsX10_begin := by decide +kernel
  have fl57 : Cond.fieldLink RX10 57 "GrowsByHalfModel" "fromOf" "[I" ∈ wsX10_begin := by decide +kernel
  refine lv_iconst (v := iZ 0) hx hb dX10_begin_0 (by decide) ?_
  refine lv_istore_n (lv' := [(3, .int (iZ 0)), (0, .ref hm), (1, .int (iZ q)), (2, .int (iZ x))]) hx hb dX10_begin_1 rfl hl (by decide) rfl (fun ls hl => ?_)
  have lp2 : ∀ fuel : Nat, ∀ (i : Int) (b1 f1 : Int → Int), (0 ≤ i ∧ i ≤ 8) → (∀ j, 0 ≤ j → j < i → b1 j = -1 ∧ f1 j = -1) → (8 - i) < (fuel : Int) → ∀ (H : Heap) (locs : List Loc) (ls : Array Slot), va_P D vwCl [(hm, ob 10 (mo a st lw tl wk pe ch pl fa iw nm qe sd ik kp hh)), ((a 23), aI cI 8 b1), ((a 24), aI cI 8 f1)] H → va_D A [(hm, ob 10 (mo a st lw tl wk pe ch pl fa iw nm qe sd ik kp hh)), ((a 23), aI cI 8 b1), ((a 24), aI cI 8 f1)] → va_S A s.heap H locs → lv_has ls 4 [(0, .ref hm), (1, .int (iZ q)), (2, .int (iZ x)), (3, .int (iZ i))] → W p l e (zRm 0 0) s m [.ref hm, .int (iZ q), .int (iZ x)].toArray below meth c H locs 0 0 (MQ below (zQv D [(hm, ob 10 (mo a st lw tl wk pe ch pl fa iw nm qe sd ik kp hh)), ((a 23), aI cI 8 bg), ((a 24), aI cI 8 fm)] A (fun (w : va_W) => w = [(hm, ob 10 (mo a st lw tl wk pe ch pl fa iw nm qe sd ik kp hh)), ((a 23), aI cI 8 (bgn q x)), ((a 24), aI cI 8 (fun _ => -1))])) [.ref hm, .int (iZ q), .int (iZ x)].toArray s 0 0 A) (F0 m 2 ls []) := by
    intro fuel
    induction fuel with
    | zero => intro i b1 f1 hi hb1 hmu2; exact absurd hmu2 (by omega)
    | succ fuel ih2 =>
      intro i b1 f1 hi hb1 hmu2 H locs ls hP hD hS hl
      refine lv_iload_n hx hb dX10_begin_2 rfl (lv_at hl 3 rfl) ?_
      refine lv_bipush (v := iZ 8) hx hb dX10_begin_3 (by decide) ?_
      refine z_icmp_ge (tgt := 28) hx hb dX10_begin_5 (by decide) (by first | assumption | omega) (by first | assumption | omega) (fun c_5 => ?_) (fun c_5 => ?_)
      · obtain ⟨hP, hD⟩ := z_cg hP hD 1 (g' := fun _ => -1) rfl (by intro j h1 h2; exact (hb1 j h1 (by omega)).1)
        replace hP : va_P D vwCl [(hm, ob 10 (mo a st lw tl wk pe ch pl fa iw nm qe sd ik kp hh)), ((a 23), aI cI 8 (fun _ => -1)), ((a 24), aI cI 8 f1)] H := hP
        replace hD : va_D A [(hm, ob 10 (mo a st lw tl wk pe ch pl fa iw nm qe sd ik kp hh)), ((a 23), aI cI 8 (fun _ => -1)), ((a 24), aI cI 8 f1)] := hD
        obtain ⟨hP, hD⟩ := z_cg hP hD 2 (g' := fun _ => -1) rfl (by intro j h1 h2; exact (hb1 j h1 (by omega)).2)
        replace hP : va_P D vwCl [(hm, ob 10 (mo a st lw tl wk pe ch pl fa iw nm qe sd ik kp hh)), ((a 23), aI cI 8 (fun _ => -1)), ((a 24), aI cI 8 (fun _ => -1))] H := hP
        replace hD : va_D A [(hm, ob 10 (mo a st lw tl wk pe ch pl fa iw nm qe sd ik kp hh)), ((a 23), aI cI 8 (fun _ => -1)), ((a 24), aI cI 8 (fun _ => -1))] := hD
        refine lv_iload_n hx hb dX10_begin_28 rfl (lv_at hl 1 rfl) ?_
        refine lv_iconst (v := iZ (-1)) hx hb dX10_begin_29 (by decide) ?_
        refine z_icmp_eq (tgt := 40) hx hb dX10_begin_30 (by decide) (by first | assumption | omega) (by first | assumption | omega) (fun c_30 => ?_) (fun c_30 => ?_)
        · exact z_vret hx hb hr hlocks hP hD hS dX10_begin_40 rfl (by unfold bgn; first | rw [if_pos (by omega)] | rw [if_neg (by omega)])
        · refine lv_aload_n hx hb dX10_begin_33 rfl (lv_at hl 0 rfl) ?_
          refine z_get (C := RX10) (T0 := TX10) (N := 36) (ci := 10) (v := .ref (a 23)) hx hb hts hown hK hP iwX10 rfl 0 rfl 23 (by decide) fl54 rfl dX10_begin_34 ?_
          refine lv_iload_n hx hb dX10_begin_37 rfl (lv_at hl 1 rfl) ?_
          refine lv_iload_n hx hb dX10_begin_38 rfl (lv_at hl 2 rfl) ?_
          refine z_iast hx hb hK hP hD hS 1 0 rfl rfl (by decide) (by first | assumption | omega) dX10_begin_39 (fun H locs hP hD hS => ?_)
          replace hP : va_P D vwCl [(hm, ob 10 (mo a st lw tl wk pe ch pl fa iw nm qe sd ik kp hh)), ((a 23), aI cI 8 (zu (fun _ => -1) q x)), ((a 24), aI cI 8 (fun _ => -1))] H := hP
          replace hD : va_D A [(hm, ob 10 (mo a st lw tl wk pe ch pl fa iw nm qe sd ik kp hh)), ((a 23), aI cI 8 (zu (fun _ => -1) q x)), ((a 24), aI cI 8 (fun _ => -1))] := hD
          exact z_vret hx hb hr hlocks hP hD hS dX10_begin_40 rfl (by unfold bgn; first | rw [if_pos (by omega)] | rw [if_neg (by omega)])
      · refine lv_aload_n hx hb dX10_begin_8 rfl (lv_at hl 0 rfl) ?_
        refine z_get (C := RX10) (T0 := TX10) (N := 36) (ci := 10) (v := .ref (a 23)) hx hb hts hown hK hP iwX10 rfl 0 rfl 23 (by decide) fl54 rfl dX10_begin_9 ?_
        refine lv_iload_n hx hb dX10_begin_12 rfl (lv_at hl 3 rfl) ?_
        refine lv_iconst (v := iZ (-1)) hx hb dX10_begin_13 (by decide) ?_
        refine z_iast hx hb hK hP hD hS 1 0 rfl rfl (by decide) (by first | assumption | omega) dX10_begin_14 (fun H locs hP hD hS => ?_)
        replace hP : va_P D vwCl [(hm, ob 10 (mo a st lw tl wk pe ch pl fa iw nm qe sd ik kp hh)), ((a 23), aI cI 8 (zu b1 i (-1))), ((a 24), aI cI 8 f1)] H := hP
        replace hD : va_D A [(hm, ob 10 (mo a st lw tl wk pe ch pl fa iw nm qe sd ik kp hh)), ((a 23), aI cI 8 (zu b1 i (-1))), ((a 24), aI cI 8 f1)] := hD
        refine lv_aload_n hx hb dX10_begin_15 rfl (lv_at hl 0 rfl) ?_
        refine z_get (C := RX10) (T0 := TX10) (N := 36) (ci := 10) (v := .ref (a 24)) hx hb hts hown hK hP iwX10 rfl 0 rfl 24 (by decide) fl57 rfl dX10_begin_16 ?_
        refine lv_iload_n hx hb dX10_begin_19 rfl (lv_at hl 3 rfl) ?_
        refine lv_iconst (v := iZ (-1)) hx hb dX10_begin_20 (by decide) ?_
        refine z_iast hx hb hK hP hD hS 2 0 rfl rfl (by decide) (by first | assumption | omega) dX10_begin_21 (fun H locs hP hD hS => ?_)
        replace hP : va_P D vwCl [(hm, ob 10 (mo a st lw tl wk pe ch pl fa iw nm qe sd ik kp hh)), ((a 23), aI cI 8 (zu b1 i (-1))), ((a 24), aI cI 8 (zu f1 i (-1)))] H := hP
        replace hD : va_D A [(hm, ob 10 (mo a st lw tl wk pe ch pl fa iw nm qe sd ik kp hh)), ((a 23), aI cI 8 (zu b1 i (-1))), ((a 24), aI cI 8 (zu f1 i (-1)))] := hD
        refine z_iinc (lv' := [(3, .int (iZ (i + 1))), (0, .ref hm), (1, .int (iZ q)), (2, .int (iZ x))]) hx hb dX10_begin_22 hl (k := 3) rfl (by decide) rfl (fun ls hl => ?_)
        refine lv_goto (tgt := 2) hx hb dX10_begin_25 (by decide) ?_
        exact ih2 (i + 1) (zu b1 i (-1)) (zu f1 i (-1)) (by first | assumption | omega) (by intro j h1 h2; rw [zu_at, zu_at]; split; exact ⟨rfl, rfl⟩; exact hb1 j h1 (by omega)) (by omega) _ _ _ hP hD hS (lv_sub hl [1, 2, 3, 0] rfl)
  exact lp2 ((8 - 0 : Int) + 1).toNat 0 bg fm (by first | assumption | omega) (by intro j h1 h2; omega) (by omega) _ _ _ hP hD hS (lv_sub hl [1, 2, 3, 0] rfl)
theorem qX10_tell : yX10_tell.cls ≠ "java/lang/invoke/MethodHandle" ∧ yX10_tell.cls ≠ "java/lang/invoke/VarHandle" ∧ (parseMethodDescriptor yX10_tell.desc).map (fun d => d.parameters.length) = some 2 := by decide +kernel
set_option maxHeartbeats 4000000 in
set_option maxRecDepth 100000 in
theorem c_X10_tell (l : Launch) (D : va_G) (cI cJ cB : ClassId) (hm : Nat) (a : Nat → Nat) (st lw tl wk pe ch pl fa iw nm qe sd ik kp hh : Int) (so mu kd bg fm : Int → Int) (x y : Int) (hsu : ∀ j, (0 ≤ so j ∧ so j ≤ 4) ∧ (0 ≤ mu j ∧ mu j ≤ 9) ∧ (so j = 4 → 2 ≤ mu j)) (hst : 1 ≤ st ∧ st ≤ 4) (hpe : 0 ≤ pe ∧ pe ≤ 8) (hkd : ∀ j, 0 ≤ kd j ∧ kd j ≤ 3) (hbg : ∀ j, -1 ≤ bg j ∧ bg j ≤ 9999) (hxx : 0 ≤ x ∧ x ≤ 7) (hyy : 0 ≤ y ∧ y ≤ 7) : zMv l yX10_tell wsX10_tell (zRm 3 67) D (zT cI cJ cB) [.ref hm, .int (iZ x), .int (iZ y)] [(hm, ob 10 (mo a st lw tl wk pe ch pl fa iw nm qe sd ik kp hh)), ((a 1), aI cI 4 so), ((a 2), aI cI 4 mu), ((a 9), aI cI 8 kd), ((a 23), aI cI 8 bg), ((a 24), aI cI 8 fm)] (fun (w : va_W) => (w = [(hm, ob 10 (mo a st lw tl wk pe ch pl fa iw nm qe sd ik kp hh)), ((a 1), aI cI 4 so), ((a 2), aI cI 4 mu), ((a 9), aI cI 8 kd), ((a 23), aI cI 8 (rsB (gro so mu st.toNat) (kd x) x y bg)), ((a 24), aI cI 8 (rsF (gro so mu st.toNat) (kd x) x y bg fm))] ∧ (x < pe ∧ y < pe)) ∨ (w = [(hm, ob 10 (mo a st lw tl wk pe ch pl fa iw nm qe sd ik kp hh)), ((a 1), aI cI 4 so), ((a 2), aI cI 4 mu), ((a 9), aI cI 8 kd), ((a 23), aI cI 8 bg), ((a 24), aI cI 8 fm)] ∧ (¬ (x < pe ∧ y < pe)))) := by
  refine z_of (Qc := fun A => zQv D [(hm, ob 10 (mo a st lw tl wk pe ch pl fa iw nm qe sd ik kp hh)), ((a 1), aI cI 4 so), ((a 2), aI cI 4 mu), ((a 9), aI cI 8 kd), ((a 23), aI cI 8 bg), ((a 24), aI cI 8 fm)] A _) (cc := cX10_tell) (maxL := 4) (ret := none) (by decide) rfl (Nat.le_of_ble_eq_true rfl) ?_
  intro p e s m below meth c A ls hx hb hr hts hown hlocks hml hK hP hD hS hA hl
  replace hown : s.vm.findClass RX10 = some m.cls := hown
  have hC : CallFix p m c cX10_tell 4 s _ wsX10_tell RX10 := ⟨hx, hb, hml, hown, hts⟩
  replace hl : lv_has ls 4 [(0, .ref hm), (1, .int (iZ x)), (2, .int (iZ y))] := hl
  have iwX10 : ∀ w ∈ u_ws RX10 TX10 36, w ∈ wsX10_tell := fun w h => List.mem_cons_of_mem _ (List.mem_append_right _ h)
  have fl26 : Cond.fieldLink RX10 26 "GrowsByHalfModel" "kindOf" "[I" ∈ wsX10_tell := by decide +kernel
  have fl54 : Cond.fieldLink RX10 54 "GrowsByHalfModel" "bigOf" "[I" ∈ wsX10_tell := by decide +kernel
  have fl57 : Cond.fieldLink RX10 57 "GrowsByHalfModel" "fromOf" "[I" ∈ wsX10_tell := by decide +kernel
  refine lv_aload_n hx hb dX10_tell_0 rfl (lv_at hl 0 rfl) ?_
  refine lv_iload_n hx hb dX10_tell_1 rfl (lv_at hl 1 rfl) ?_
  refine z_Vi (As := [.int (iZ x)]) (rest := []) hC (c_X10_isPerson l D cI cJ cB hm a st lw tl wk pe ch pl fa iw nm qe sd ik kp hh x (by first | assumption | omega) (by first | assumption | omega)) 1 gX10_tell_X10_isPerson rfl rfl rfl ⟨rfl, qX10_isPerson⟩ ⟨Nat.le_of_ble_eq_true rfl, Nat.le_of_ble_eq_true rfl⟩ ⟨Nat.le_refl _, Nat.le_refl _⟩ hK hP hD hS hA [0] rfl (by decide) 0 rfl rfl rfl hl.1 rfl (Nat.le_of_ble_eq_true rfl) dX10_tell_2 (fun z w H locs hq hP hD hS => ?_)
  rcases hq with ⟨rfl, rfl, hc1_0⟩ | ⟨rfl, rfl, hc1_0⟩
  · replace hP : va_P D vwCl [(hm, ob 10 (mo a st lw tl wk pe ch pl fa iw nm qe sd ik kp hh)), ((a 1), aI cI 4 so), ((a 2), aI cI 4 mu), ((a 9), aI cI 8 kd), ((a 23), aI cI 8 bg), ((a 24), aI cI 8 fm)] H := hP
    replace hD : va_D A [(hm, ob 10 (mo a st lw tl wk pe ch pl fa iw nm qe sd ik kp hh)), ((a 1), aI cI 4 so), ((a 2), aI cI 4 mu), ((a 9), aI cI 8 kd), ((a 23), aI cI 8 bg), ((a 24), aI cI 8 fm)] := hD
    refine z_if_eq (tgt := 67) hx hb dX10_tell_5 (by decide) (by first | assumption | omega) (fun h => absurd h (by decide)) (fun _ => ?_)
    refine lv_aload_n hx hb dX10_tell_8 rfl (lv_at hl 0 rfl) ?_
    refine lv_iload_n hx hb dX10_tell_9 rfl (lv_at hl 2 rfl) ?_
    refine z_Vi (As := [.int (iZ y)]) (rest := []) hC (c_X10_isPerson l D cI cJ cB hm a st lw tl wk pe ch pl fa iw nm qe sd ik kp hh y (by first | assumption | omega) (by first | assumption | omega)) 1 gX10_tell_X10_isPerson rfl rfl rfl ⟨rfl, qX10_isPerson⟩ ⟨Nat.le_of_ble_eq_true rfl, Nat.le_of_ble_eq_true rfl⟩ ⟨Nat.le_refl _, Nat.le_refl _⟩ hK hP hD hS hA [0] rfl (by decide) 0 rfl rfl rfl hl.1 rfl (Nat.le_of_ble_eq_true rfl) dX10_tell_10 (fun z w H locs hq hP hD hS => ?_)
    rcases hq with ⟨rfl, rfl, hc2_0⟩ | ⟨rfl, rfl, hc2_0⟩
    · replace hP : va_P D vwCl [(hm, ob 10 (mo a st lw tl wk pe ch pl fa iw nm qe sd ik kp hh)), ((a 1), aI cI 4 so), ((a 2), aI cI 4 mu), ((a 9), aI cI 8 kd), ((a 23), aI cI 8 bg), ((a 24), aI cI 8 fm)] H := hP
      replace hD : va_D A [(hm, ob 10 (mo a st lw tl wk pe ch pl fa iw nm qe sd ik kp hh)), ((a 1), aI cI 4 so), ((a 2), aI cI 4 mu), ((a 9), aI cI 8 kd), ((a 23), aI cI 8 bg), ((a 24), aI cI 8 fm)] := hD
      refine z_if_eq (tgt := 67) hx hb dX10_tell_13 (by decide) (by first | assumption | omega) (fun h => absurd h (by decide)) (fun _ => ?_)
      refine lv_aload_n hx hb dX10_tell_16 rfl (lv_at hl 0 rfl) ?_
      refine z_get (C := RX10) (T0 := TX10) (N := 36) (ci := 10) (v := .ref (a 23)) hx hb hts hown hK hP iwX10 rfl 0 rfl 23 (by decide) fl54 rfl dX10_tell_17 ?_
      refine lv_iload_n hx hb dX10_tell_20 rfl (lv_at hl 1 rfl) ?_
      refine z_iald hx hb hK hP 4 0 rfl rfl (by decide) (by first | assumption | omega) dX10_tell_21 ?_
      have rd_3 := hbg x
      refine lv_iconst (v := iZ (-1)) hx hb dX10_tell_22 (by decide) ?_
      refine z_icmp_eq (tgt := 67) hx hb dX10_tell_23 (by decide) (by first | assumption | omega) (by first | assumption | omega) (fun c_23 => ?_) (fun c_23 => ?_)
      · exact z_vret hx hb hr hlocks hP hD hS dX10_tell_67 rfl (by first | (refine Or.inr ⟨rfl, ?_⟩; omega) | (refine Or.inl ⟨?_, by omega⟩; unfold rsB rsF; first | (rw [if_pos ⟨by omega, by omega⟩, if_pos ⟨by omega, by omega⟩]; done) | (rw [if_neg (fun h9 => absurd h9.1 (by omega)), if_neg (fun h9 => absurd h9.1 (by omega))]; done) | (rw [if_neg (fun h9 => absurd h9.2 (by omega)), if_neg (fun h9 => absurd h9.2 (by omega))]; done)))
      · refine lv_aload_n hx hb dX10_tell_26 rfl (lv_at hl 0 rfl) ?_
        refine lv_aload_n hx hb dX10_tell_27 rfl (lv_at hl 0 rfl) ?_
        refine z_get (C := RX10) (T0 := TX10) (N := 36) (ci := 10) (v := .ref (a 9)) hx hb hts hown hK hP iwX10 rfl 0 rfl 9 (by decide) fl26 rfl dX10_tell_28 ?_
        refine lv_iload_n hx hb dX10_tell_31 rfl (lv_at hl 1 rfl) ?_
        refine z_iald hx hb hK hP 3 0 rfl rfl (by decide) (by first | assumption | omega) dX10_tell_32 ?_
        have rd_4 := hkd x
        refine lv_aload_n hx hb dX10_tell_33 rfl (lv_at hl 0 rfl) ?_
        refine z_get (C := RX10) (T0 := TX10) (N := 36) (ci := 10) (v := .ref (a 23)) hx hb hts hown hK hP iwX10 rfl 0 rfl 23 (by decide) fl54 rfl dX10_tell_34 ?_
        refine lv_iload_n hx hb dX10_tell_37 rfl (lv_at hl 1 rfl) ?_
        refine z_iald hx hb hK hP 4 0 rfl rfl (by decide) (by first | assumption | omega) dX10_tell_38 ?_
        have rd_5 := hbg x
        refine z_Vi (As := [.int (iZ (kd x)), .int (iZ (bg x))]) (rest := []) hC (c_X10_tellsBy l D cI cJ cB hm a st lw tl wk pe ch pl fa iw nm qe sd ik kp hh so mu (kd x) (bg x) (by first | assumption | omega) (by first | assumption | omega) (by first | assumption | omega) (by first | assumption | omega)) 2 gX10_tell_X10_tellsBy rfl rfl rfl ⟨rfl, qX10_tellsBy⟩ ⟨Nat.le_of_ble_eq_true rfl, Nat.le_of_ble_eq_true rfl⟩ ⟨Nat.le_refl _, Nat.le_refl _⟩ hK hP hD hS hA [0, 1, 2] rfl (by decide) 0 rfl rfl rfl hl.1 rfl (Nat.le_of_ble_eq_true rfl) dX10_tell_39 (fun z w H locs hq hP hD hS => ?_)
        rcases hq with ⟨rfl, rfl, htr6⟩
        replace hP : va_P D vwCl [(hm, ob 10 (mo a st lw tl wk pe ch pl fa iw nm qe sd ik kp hh)), ((a 1), aI cI 4 so), ((a 2), aI cI 4 mu), ((a 9), aI cI 8 kd), ((a 23), aI cI 8 bg), ((a 24), aI cI 8 fm)] H := hP
        replace hD : va_D A [(hm, ob 10 (mo a st lw tl wk pe ch pl fa iw nm qe sd ik kp hh)), ((a 1), aI cI 4 so), ((a 2), aI cI 4 mu), ((a 9), aI cI 8 kd), ((a 23), aI cI 8 bg), ((a 24), aI cI 8 fm)] := hD
        refine lv_istore_n (lv' := [(3, .int (iZ (tb (gro so mu st.toNat) (kd x) (bg x)))), (0, .ref hm), (1, .int (iZ x)), (2, .int (iZ y))]) hx hb dX10_tell_42 rfl hl (by decide) rfl (fun ls hl => ?_)
        refine lv_iload_n hx hb dX10_tell_43 rfl (lv_at hl 0 rfl) ?_
        refine lv_aload_n hx hb dX10_tell_44 rfl (lv_at hl 1 rfl) ?_
        refine z_get (C := RX10) (T0 := TX10) (N := 36) (ci := 10) (v := .ref (a 23)) hx hb hts hown hK hP iwX10 rfl 0 rfl 23 (by decide) fl54 rfl dX10_tell_45 ?_
        refine lv_iload_n hx hb dX10_tell_48 rfl (lv_at hl 3 rfl) ?_
        refine z_iald hx hb hK hP 4 0 rfl rfl (by decide) (by first | assumption | omega) dX10_tell_49 ?_
        have rd_7 := hbg y
        refine z_icmp_le (tgt := 67) hx hb dX10_tell_50 (by decide) (by first | assumption | omega) (by first | assumption | omega) (fun c_50 => ?_) (fun c_50 => ?_)
        · exact z_vret hx hb hr hlocks hP hD hS dX10_tell_67 rfl (by first | (refine Or.inr ⟨rfl, ?_⟩; omega) | (refine Or.inl ⟨?_, by omega⟩; unfold rsB rsF; first | (rw [if_pos ⟨by omega, by omega⟩, if_pos ⟨by omega, by omega⟩]; done) | (rw [if_neg (fun h9 => absurd h9.1 (by omega)), if_neg (fun h9 => absurd h9.1 (by omega))]; done) | (rw [if_neg (fun h9 => absurd h9.2 (by omega)), if_neg (fun h9 => absurd h9.2 (by omega))]; done)))
        · refine lv_aload_n hx hb dX10_tell_53 rfl (lv_at hl 1 rfl) ?_
          refine z_get (C := RX10) (T0 := TX10) (N := 36) (ci := 10) (v := .ref (a 23)) hx hb hts hown hK hP iwX10 rfl 0 rfl 23 (by decide) fl54 rfl dX10_tell_54 ?_
          refine lv_iload_n hx hb dX10_tell_57 rfl (lv_at hl 3 rfl) ?_
          refine lv_iload_n hx hb dX10_tell_58 rfl (lv_at hl 0 rfl) ?_
          refine z_iast hx hb hK hP hD hS 4 0 rfl rfl (by decide) (by first | assumption | omega) dX10_tell_59 (fun H locs hP hD hS => ?_)
          replace hP : va_P D vwCl [(hm, ob 10 (mo a st lw tl wk pe ch pl fa iw nm qe sd ik kp hh)), ((a 1), aI cI 4 so), ((a 2), aI cI 4 mu), ((a 9), aI cI 8 kd), ((a 23), aI cI 8 (zu bg y (tb (gro so mu st.toNat) (kd x) (bg x)))), ((a 24), aI cI 8 fm)] H := hP
          replace hD : va_D A [(hm, ob 10 (mo a st lw tl wk pe ch pl fa iw nm qe sd ik kp hh)), ((a 1), aI cI 4 so), ((a 2), aI cI 4 mu), ((a 9), aI cI 8 kd), ((a 23), aI cI 8 (zu bg y (tb (gro so mu st.toNat) (kd x) (bg x)))), ((a 24), aI cI 8 fm)] := hD
          refine lv_aload_n hx hb dX10_tell_60 rfl (lv_at hl 1 rfl) ?_
          refine z_get (C := RX10) (T0 := TX10) (N := 36) (ci := 10) (v := .ref (a 24)) hx hb hts hown hK hP iwX10 rfl 0 rfl 24 (by decide) fl57 rfl dX10_tell_61 ?_
          refine lv_iload_n hx hb dX10_tell_64 rfl (lv_at hl 3 rfl) ?_
          refine lv_iload_n hx hb dX10_tell_65 rfl (lv_at hl 2 rfl) ?_
          refine z_iast hx hb hK hP hD hS 5 0 rfl rfl (by decide) (by first | assumption | omega) dX10_tell_66 (fun H locs hP hD hS => ?_)
          replace hP : va_P D vwCl [(hm, ob 10 (mo a st lw tl wk pe ch pl fa iw nm qe sd ik kp hh)), ((a 1), aI cI 4 so), ((a 2), aI cI 4 mu), ((a 9), aI cI 8 kd), ((a 23), aI cI 8 (zu bg y (tb (gro so mu st.toNat) (kd x) (bg x)))), ((a 24), aI cI 8 (zu fm y x))] H := hP
          replace hD : va_D A [(hm, ob 10 (mo a st lw tl wk pe ch pl fa iw nm qe sd ik kp hh)), ((a 1), aI cI 4 so), ((a 2), aI cI 4 mu), ((a 9), aI cI 8 kd), ((a 23), aI cI 8 (zu bg y (tb (gro so mu st.toNat) (kd x) (bg x)))), ((a 24), aI cI 8 (zu fm y x))] := hD
          exact z_vret hx hb hr hlocks hP hD hS dX10_tell_67 rfl (by first | (refine Or.inr ⟨rfl, ?_⟩; omega) | (refine Or.inl ⟨?_, by omega⟩; unfold rsB rsF; first | (rw [if_pos ⟨by omega, by omega⟩, if_pos ⟨by omega, by omega⟩]; done) | (rw [if_neg (fun h9 => absurd h9.1 (by omega)), if_neg (fun h9 => absurd h9.1 (by omega))]; done) | (rw [if_neg (fun h9 => absurd h9.2 (by omega)), if_neg (fun h9 => absurd h9.2 (by omega))]; done)))
    · replace hP : va_P D vwCl [(hm, ob 10 (mo a st lw tl wk pe ch pl fa iw nm qe sd ik kp hh)), ((a 1), aI cI 4 so), ((a 2), aI cI 4 mu), ((a 9), aI cI 8 kd), ((a 23), aI cI 8 bg), ((a 24), aI cI 8 fm)] H := hP
      replace hD : va_D A [(hm, ob 10 (mo a st lw tl wk pe ch pl fa iw nm qe sd ik kp hh)), ((a 1), aI cI 4 so), ((a 2), aI cI 4 mu), ((a 9), aI cI 8 kd), ((a 23), aI cI 8 bg), ((a 24), aI cI 8 fm)] := hD
      refine z_if_eq (tgt := 67) hx hb dX10_tell_13 (by decide) (by first | assumption | omega) (fun _ => ?_) (fun h => absurd h (by decide))
      exact z_vret hx hb hr hlocks hP hD hS dX10_tell_67 rfl (by first | (refine Or.inr ⟨rfl, ?_⟩; omega) | (refine Or.inl ⟨?_, by omega⟩; unfold rsB rsF; first | (rw [if_pos ⟨by omega, by omega⟩, if_pos ⟨by omega, by omega⟩]; done) | (rw [if_neg (fun h9 => absurd h9.1 (by omega)), if_neg (fun h9 => absurd h9.1 (by omega))]; done) | (rw [if_neg (fun h9 => absurd h9.2 (by omega)), if_neg (fun h9 => absurd h9.2 (by omega))]; done)))
  · replace hP : va_P D vwCl [(hm, ob 10 (mo a st lw tl wk pe ch pl fa iw nm qe sd ik kp hh)), ((a 1), aI cI 4 so), ((a 2), aI cI 4 mu), ((a 9), aI cI 8 kd), ((a 23), aI cI 8 bg), ((a 24), aI cI 8 fm)] H := hP
    replace hD : va_D A [(hm, ob 10 (mo a st lw tl wk pe ch pl fa iw nm qe sd ik kp hh)), ((a 1), aI cI 4 so), ((a 2), aI cI 4 mu), ((a 9), aI cI 8 kd), ((a 23), aI cI 8 bg), ((a 24), aI cI 8 fm)] := hD
    refine z_if_eq (tgt := 67) hx hb dX10_tell_5 (by decide) (by first | assumption | omega) (fun _ => ?_) (fun h => absurd h (by decide))
    exact z_vret hx hb hr hlocks hP hD hS dX10_tell_67 rfl (by first | (refine Or.inr ⟨rfl, ?_⟩; omega) | (refine Or.inl ⟨?_, by omega⟩; unfold rsB rsF; first | (rw [if_pos ⟨by omega, by omega⟩, if_pos ⟨by omega, by omega⟩]; done) | (rw [if_neg (fun h9 => absurd h9.1 (by omega)), if_neg (fun h9 => absurd h9.1 (by omega))]; done) | (rw [if_neg (fun h9 => absurd h9.2 (by omega)), if_neg (fun h9 => absurd h9.2 (by omega))]; done)))
theorem qX10_goWeek : yX10_goWeek.cls ≠ "java/lang/invoke/MethodHandle" ∧ yX10_goWeek.cls ≠ "java/lang/invoke/VarHandle" ∧ (parseMethodDescriptor yX10_goWeek.desc).map (fun d => d.parameters.length) = some 2 := by decide +kernel
set_option maxHeartbeats 4000000 in
set_option maxRecDepth 100000 in
theorem c_X10_goWeek (l : Launch) (D : va_G) (cI cJ cB : ClassId) (hm : Nat) (a : Nat → Nat) (st lw tl wk pe ch pl fa iw nm qe sd ik kp hh : Int) (so mu te tw kd bg fm : Int → Int) (q x : Int) (hsu : ∀ j, (0 ≤ so j ∧ so j ≤ 4) ∧ (0 ≤ mu j ∧ mu j ≤ 9) ∧ (so j = 4 → 2 ≤ mu j)) (hst : 1 ≤ st ∧ st ≤ 4) (htl : 0 ≤ tl ∧ tl ≤ 16) (hte : ∀ j, 0 ≤ te j ∧ te j ≤ 7) (htw : ∀ j, 0 ≤ tw j ∧ tw j ≤ 7) (hpe : 0 ≤ pe ∧ pe ≤ 8) (hkd : ∀ j, 0 ≤ kd j ∧ kd j ≤ 3) (hq : -1 ≤ q ∧ q ≤ 7) (hx0 : 0 ≤ x ∧ x ≤ 9999) : zMv l yX10_goWeek wsX10_goWeek (zRm 4 90) D (zT cI cJ cB) [.ref hm, .int (iZ q), .int (iZ x)] [(hm, ob 10 (mo a st lw tl wk pe ch pl fa iw nm qe sd ik kp hh)), ((a 1), aI cI 4 so), ((a 2), aI cI 4 mu), ((a 5), aI cI 16 te), ((a 6), aI cI 16 tw), ((a 9), aI cI 8 kd), ((a 23), aI cI 8 bg), ((a 24), aI cI 8 fm)] (fun (w : va_W) => w = [(hm, ob 10 (mo a st lw tl wk pe ch pl fa iw nm qe sd ik kp hh)), ((a 1), aI cI 4 so), ((a 2), aI cI 4 mu), ((a 5), aI cI 16 te), ((a 6), aI cI 16 tw), ((a 9), aI cI 8 kd), ((a 23), aI cI 8 (wkB (gro so mu st.toNat) kd pe te tw (bgn q x) tl.toNat)), ((a 24), aI cI 8 (wkF (gro so mu st.toNat) kd pe te tw (bgn q x) (fun _ => -1) tl.toNat))]) := by
  refine z_of (Qc := fun A => zQv D [(hm, ob 10 (mo a st lw tl wk pe ch pl fa iw nm qe sd ik kp hh)), ((a 1), aI cI 4 so), ((a 2), aI cI 4 mu), ((a 5), aI cI 16 te), ((a 6), aI cI 16 tw), ((a 9), aI cI 8 kd), ((a 23), aI cI 8 bg), ((a 24), aI cI 8 fm)] A _) (cc := cX10_goWeek) (maxL := 4) (ret := none) (by decide) rfl (Nat.le_of_ble_eq_true rfl) ?_
  intro p e s m below meth c A ls hx hb hr hts hown hlocks hml hK hP hD hS hA hl
  replace hown : s.vm.findClass RX10 = some m.cls := hown
  have hC : CallFix p m c cX10_goWeek 4 s _ wsX10_goWeek RX10 := ⟨hx, hb, hml, hown, hts⟩
  replace hl : lv_has ls 4 [(0, .ref hm), (1, .int (iZ q)), (2, .int (iZ x))] := hl
  have iwX10 : ∀ w ∈ u_ws RX10 TX10 36, w ∈ wsX10_goWeek := fun w h => List.mem_cons_of_mem _ (List.mem_append_right _ h)
  have fl20 : Cond.fieldLink RX10 20 "GrowsByHalfModel" "tellerOf" "[I" ∈ wsX10_goWeek := by decide +kernel
  have fl23 : Cond.fieldLink RX10 23 "GrowsByHalfModel" "toldTo" "[I" ∈ wsX10_goWeek := by decide +kernel
  have fl111 : Cond.fieldLink RX10 111 "GrowsByHalfModel" "tellings" "I" ∈ wsX10_goWeek := by decide +kernel
  refine lv_aload_n hx hb dX10_goWeek_0 rfl (lv_at hl 0 rfl) ?_
  refine lv_iload_n hx hb dX10_goWeek_1 rfl (lv_at hl 1 rfl) ?_
  refine lv_iload_n hx hb dX10_goWeek_2 rfl (lv_at hl 2 rfl) ?_
  refine z_Vv (As := [.int (iZ q), .int (iZ x)]) (rest := []) hC (c_X10_begin l D cI cJ cB hm a st lw tl wk pe ch pl fa iw nm qe sd ik kp hh bg fm q x (by first | assumption | omega)) 2 gX10_goWeek_X10_begin rfl rfl rfl ⟨rfl, qX10_begin⟩ ⟨Nat.le_of_ble_eq_true rfl, Nat.le_of_ble_eq_true rfl⟩ ⟨Nat.le_refl _, Nat.le_refl _⟩ hK hP hD hS hA [0, 6, 7] rfl (by decide) 0 rfl rfl rfl hl.1 rfl (Nat.le_of_ble_eq_true rfl) dX10_goWeek_3 (fun w H locs hq hP hD hS => ?_)
  rcases hq with rfl
  replace hP : va_P D vwCl [(hm, ob 10 (mo a st lw tl wk pe ch pl fa iw nm qe sd ik kp hh)), ((a 1), aI cI 4 so), ((a 2), aI cI 4 mu), ((a 5), aI cI 16 te), ((a 6), aI cI 16 tw), ((a 9), aI cI 8 kd), ((a 23), aI cI 8 (bgn q x)), ((a 24), aI cI 8 (fun _ => -1))] H := hP
  replace hD : va_D A [(hm, ob 10 (mo a st lw tl wk pe ch pl fa iw nm qe sd ik kp hh)), ((a 1), aI cI 4 so), ((a 2), aI cI 4 mu), ((a 5), aI cI 16 te), ((a 6), aI cI 16 tw), ((a 9), aI cI 8 kd), ((a 23), aI cI 8 (bgn q x)), ((a 24), aI cI 8 (fun _ => -1))] := hD
  refine lv_iconst (v := iZ 0) hx hb dX10_goWeek_6 (by decide) ?_
  refine lv_istore_n (lv' := [(3, .int (iZ 0)), (0, .ref hm), (1, .int (iZ q)), (2, .int (iZ x))]) hx hb dX10_goWeek_7 rfl hl (by decide) rfl (fun ls hl => ?_)
  have lp8 : ∀ fuel : Nat, ∀ (i : Int) (b1 f1 : Int → Int), (0 ≤ i ∧ i ≤ tl) → (b1 = wkB (gro so mu st.toNat) kd pe te tw (bgn q x) i.toNat) → (f1 = wkF (gro so mu st.toNat) kd pe te tw (bgn q x) (fun _ => -1) i.toNat) → (∀ j, -1 ≤ b1 j ∧ b1 j ≤ 9999) → (tl - i) < (fuel : Int) → ∀ (H : Heap) (locs : List Loc) (ls : Array Slot), va_P D vwCl [(hm, ob 10 (mo a st lw tl wk pe ch pl fa iw nm qe sd ik kp hh)), ((a 1), aI cI 4 so), ((a 2), aI cI 4 mu), ((a 5), aI cI 16 te), ((a 6), aI cI 16 tw), ((a 9), aI cI 8 kd), ((a 23), aI cI 8 b1), ((a 24), aI cI 8 f1)] H → va_D A [(hm, ob 10 (mo a st lw tl wk pe ch pl fa iw nm qe sd ik kp hh)), ((a 1), aI cI 4 so), ((a 2), aI cI 4 mu), ((a 5), aI cI 16 te), ((a 6), aI cI 16 tw), ((a 9), aI cI 8 kd), ((a 23), aI cI 8 b1), ((a 24), aI cI 8 f1)] → va_S A s.heap H locs → lv_has ls 4 [(0, .ref hm), (1, .int (iZ q)), (2, .int (iZ x)), (3, .int (iZ i))] → W p l e (zRm 4 90) s m [.ref hm, .int (iZ q), .int (iZ x)].toArray below meth c H locs 0 0 (MQ below (zQv D [(hm, ob 10 (mo a st lw tl wk pe ch pl fa iw nm qe sd ik kp hh)), ((a 1), aI cI 4 so), ((a 2), aI cI 4 mu), ((a 5), aI cI 16 te), ((a 6), aI cI 16 tw), ((a 9), aI cI 8 kd), ((a 23), aI cI 8 bg), ((a 24), aI cI 8 fm)] A (fun (w : va_W) => w = [(hm, ob 10 (mo a st lw tl wk pe ch pl fa iw nm qe sd ik kp hh)), ((a 1), aI cI 4 so), ((a 2), aI cI 4 mu), ((a 5), aI cI 16 te), ((a 6), aI cI 16 tw), ((a 9), aI cI 8 kd), ((a 23), aI cI 8 (wkB (gro so mu st.toNat) kd pe te tw (bgn q x) tl.toNat)), ((a 24), aI cI 8 (wkF (gro so mu st.toNat) kd pe te tw (bgn q x) (fun _ => -1) tl.toNat))])) [.ref hm, .int (iZ q), .int (iZ x)].toArray s 0 0 A) (F0 m 8 ls []) := by
    intro fuel
    induction fuel with
    | zero => intro i b1 f1 hi hb1 hf1 hbg hmu8; exact absurd hmu8 (by omega)
    | succ fuel ih8 =>
      intro i b1 f1 hi hb1 hf1 hbg hmu8 H locs ls hP hD hS hl
      refine lv_iload_n hx hb dX10_goWeek_8 rfl (lv_at hl 3 rfl) ?_
      refine lv_aload_n hx hb dX10_goWeek_9 rfl (lv_at hl 0 rfl) ?_
      refine z_get (C := RX10) (T0 := TX10) (N := 36) (ci := 10) (v := .int (iZ tl)) hx hb hts hown hK hP iwX10 rfl 0 rfl 4 (by decide) fl111 rfl dX10_goWeek_10 ?_
      refine z_icmp_ge (tgt := 38) hx hb dX10_goWeek_13 (by decide) (by first | assumption | omega) (by first | assumption | omega) (fun c_13 => ?_) (fun c_13 => ?_)
      · exact z_vret hx hb hr hlocks hP hD hS dX10_goWeek_38 rfl (by rw [hb1, hf1, show i = tl from by omega])
      · refine lv_aload_n hx hb dX10_goWeek_16 rfl (lv_at hl 0 rfl) ?_
        refine lv_aload_n hx hb dX10_goWeek_17 rfl (lv_at hl 0 rfl) ?_
        refine z_get (C := RX10) (T0 := TX10) (N := 36) (ci := 10) (v := .ref (a 5)) hx hb hts hown hK hP iwX10 rfl 0 rfl 5 (by decide) fl20 rfl dX10_goWeek_18 ?_
        refine lv_iload_n hx hb dX10_goWeek_21 rfl (lv_at hl 3 rfl) ?_
        refine z_iald hx hb hK hP 3 0 rfl rfl (by decide) (by first | assumption | omega) dX10_goWeek_22 ?_
        have rd_2 := hte i
        refine lv_aload_n hx hb dX10_goWeek_23 rfl (lv_at hl 0 rfl) ?_
        refine z_get (C := RX10) (T0 := TX10) (N := 36) (ci := 10) (v := .ref (a 6)) hx hb hts hown hK hP iwX10 rfl 0 rfl 6 (by decide) fl23 rfl dX10_goWeek_24 ?_
        refine lv_iload_n hx hb dX10_goWeek_27 rfl (lv_at hl 3 rfl) ?_
        refine z_iald hx hb hK hP 4 0 rfl rfl (by decide) (by first | assumption | omega) dX10_goWeek_28 ?_
        have rd_3 := htw i
        refine z_Vv (As := [.int (iZ (te i)), .int (iZ (tw i))]) (rest := []) hC (c_X10_tell l D cI cJ cB hm a st lw tl wk pe ch pl fa iw nm qe sd ik kp hh so mu kd b1 f1 (te i) (tw i) (by first | assumption | omega) (by first | assumption | omega) (by first | assumption | omega) (by first | assumption | omega) (by first | assumption | omega) (by first | assumption | omega) (by first | assumption | omega)) 2 gX10_goWeek_X10_tell rfl rfl rfl ⟨rfl, qX10_tell⟩ ⟨Nat.le_of_ble_eq_true rfl, Nat.le_of_ble_eq_true rfl⟩ ⟨Nat.le_refl _, Nat.le_refl _⟩ hK hP hD hS hA [0, 1, 2, 5, 6, 7] rfl (by decide) 0 rfl rfl rfl hl.1 rfl (Nat.le_of_ble_eq_true rfl) dX10_goWeek_29 (fun w H locs hq hP hD hS => ?_)
        rcases hq with ⟨rfl, hc4_0⟩ | ⟨rfl, hc4_0⟩
        · replace hP : va_P D vwCl [(hm, ob 10 (mo a st lw tl wk pe ch pl fa iw nm qe sd ik kp hh)), ((a 1), aI cI 4 so), ((a 2), aI cI 4 mu), ((a 5), aI cI 16 te), ((a 6), aI cI 16 tw), ((a 9), aI cI 8 kd), ((a 23), aI cI 8 (rsB (gro so mu st.toNat) (kd (te i)) (te i) (tw i) b1)), ((a 24), aI cI 8 (rsF (gro so mu st.toNat) (kd (te i)) (te i) (tw i) b1 f1))] H := hP
          replace hD : va_D A [(hm, ob 10 (mo a st lw tl wk pe ch pl fa iw nm qe sd ik kp hh)), ((a 1), aI cI 4 so), ((a 2), aI cI 4 mu), ((a 5), aI cI 16 te), ((a 6), aI cI 16 tw), ((a 9), aI cI 8 kd), ((a 23), aI cI 8 (rsB (gro so mu st.toNat) (kd (te i)) (te i) (tw i) b1)), ((a 24), aI cI 8 (rsF (gro so mu st.toNat) (kd (te i)) (te i) (tw i) b1 f1))] := hD
          refine z_iinc (lv' := [(3, .int (iZ (i + 1))), (0, .ref hm), (1, .int (iZ q)), (2, .int (iZ x))]) hx hb dX10_goWeek_32 hl (k := 3) rfl (by decide) rfl (fun ls hl => ?_)
          refine lv_goto (tgt := 8) hx hb dX10_goWeek_35 (by decide) ?_
          exact ih8 (i + 1) (rsB (gro so mu st.toNat) (kd (te i)) (te i) (tw i) b1) (rsF (gro so mu st.toNat) (kd (te i)) (te i) (tw i) b1 f1) (by first | assumption | omega) (by rw [wkB_s (by omega), ← hb1]; first | rw [if_pos (by assumption)] | rw [if_neg (by assumption)]) (by rw [wkF_s (by omega), ← hb1, ← hf1]; first | rw [if_pos (by assumption)] | rw [if_neg (by assumption)]) (by first | exact rsB_rng (fun v => gro_rng hst.1 v) hbg | exact hbg) (by omega) _ _ _ hP hD hS (lv_sub hl [1, 2, 3, 0] rfl)
        · replace hP : va_P D vwCl [(hm, ob 10 (mo a st lw tl wk pe ch pl fa iw nm qe sd ik kp hh)), ((a 1), aI cI 4 so), ((a 2), aI cI 4 mu), ((a 5), aI cI 16 te), ((a 6), aI cI 16 tw), ((a 9), aI cI 8 kd), ((a 23), aI cI 8 b1), ((a 24), aI cI 8 f1)] H := hP
          replace hD : va_D A [(hm, ob 10 (mo a st lw tl wk pe ch pl fa iw nm qe sd ik kp hh)), ((a 1), aI cI 4 so), ((a 2), aI cI 4 mu), ((a 5), aI cI 16 te), ((a 6), aI cI 16 tw), ((a 9), aI cI 8 kd), ((a 23), aI cI 8 b1), ((a 24), aI cI 8 f1)] := hD
          refine z_iinc (lv' := [(3, .int (iZ (i + 1))), (0, .ref hm), (1, .int (iZ q)), (2, .int (iZ x))]) hx hb dX10_goWeek_32 hl (k := 3) rfl (by decide) rfl (fun ls hl => ?_)
          refine lv_goto (tgt := 8) hx hb dX10_goWeek_35 (by decide) ?_
          exact ih8 (i + 1) b1 f1 (by first | assumption | omega) (by rw [wkB_s (by omega), ← hb1]; first | rw [if_pos (by assumption)] | rw [if_neg (by assumption)]) (by rw [wkF_s (by omega), ← hb1, ← hf1]; first | rw [if_pos (by assumption)] | rw [if_neg (by assumption)]) (by first | exact rsB_rng (fun v => gro_rng hst.1 v) hbg | exact hbg) (by omega) _ _ _ hP hD hS (lv_sub hl [1, 2, 3, 0] rfl)
  exact lp8 ((tl - 0 : Int) + 1).toNat 0 (bgn q x) (fun _ => -1) (by first | assumption | omega) (by rfl) (by rfl) (by exact bgn_rng hx0) (by omega) _ _ _ hP hD hS (lv_sub hl [1, 2, 3, 0] rfl)
theorem qX10_goTale : yX10_goTale.cls ≠ "java/lang/invoke/MethodHandle" ∧ yX10_goTale.cls ≠ "java/lang/invoke/VarHandle" ∧ (parseMethodDescriptor yX10_goTale.desc).map (fun d => d.parameters.length) = some 1 := by decide +kernel
set_option maxHeartbeats 4000000 in
set_option maxRecDepth 100000 in
theorem c_X10_goTale (l : Launch) (D : va_G) (cI cJ cB : ClassId) (hm : Nat) (a : Nat → Nat) (st lw tl wk pe ch pl fa iw nm qe sd ik kp hh : Int) (so mu te tw kd bg fm wi ss : Int → Int) (t : Int) (hsu : ∀ j, (0 ≤ so j ∧ so j ≤ 4) ∧ (0 ≤ mu j ∧ mu j ≤ 9) ∧ (so j = 4 → 2 ≤ mu j)) (hst : 1 ≤ st ∧ st ≤ 4) (htl : 0 ≤ tl ∧ tl ≤ 16) (hte : ∀ j, 0 ≤ te j ∧ te j ≤ 7) (htw : ∀ j, 0 ≤ tw j ∧ tw j ≤ 7) (hpe : 0 ≤ pe ∧ pe ≤ 8) (hkd : ∀ j, 0 ≤ kd j ∧ kd j ≤ 3) (hwi : ∀ j, -1 ≤ wi j ∧ wi j ≤ 7) (hss : ∀ j, 0 ≤ ss j ∧ ss j ≤ 9999) (ht : 0 ≤ t ∧ t ≤ 3) : zMv l yX10_goTale wsX10_goTale (zRm 5 113) D (zT cI cJ cB) [.ref hm, .int (iZ t)] [(hm, ob 10 (mo a st lw tl wk pe ch pl fa iw nm qe sd ik kp hh)), ((a 1), aI cI 4 so), ((a 2), aI cI 4 mu), ((a 5), aI cI 16 te), ((a 6), aI cI 16 tw), ((a 9), aI cI 8 kd), ((a 23), aI cI 8 bg), ((a 24), aI cI 8 fm), ((a 11), aI cI 4 wi), ((a 12), aI cI 4 ss)] (fun (w : va_W) => w = [(hm, ob 10 (mo a st lw tl wk pe ch pl fa iw nm qe sd ik kp hh)), ((a 1), aI cI 4 so), ((a 2), aI cI 4 mu), ((a 5), aI cI 16 te), ((a 6), aI cI 16 tw), ((a 9), aI cI 8 kd), ((a 23), aI cI 8 (wkB (gro so mu st.toNat) kd pe te tw (bgn (wi t) (ss t)) tl.toNat)), ((a 24), aI cI 8 (wkF (gro so mu st.toNat) kd pe te tw (bgn (wi t) (ss t)) (fun _ => -1) tl.toNat)), ((a 11), aI cI 4 wi), ((a 12), aI cI 4 ss)]) := by
  refine z_of (Qc := fun A => zQv D [(hm, ob 10 (mo a st lw tl wk pe ch pl fa iw nm qe sd ik kp hh)), ((a 1), aI cI 4 so), ((a 2), aI cI 4 mu), ((a 5), aI cI 16 te), ((a 6), aI cI 16 tw), ((a 9), aI cI 8 kd), ((a 23), aI cI 8 bg), ((a 24), aI cI 8 fm), ((a 11), aI cI 4 wi), ((a 12), aI cI 4 ss)] A _) (cc := cX10_goTale) (maxL := 2) (ret := none) (by decide) rfl (Nat.le_of_ble_eq_true rfl) ?_
  intro p e s m below meth c A ls hx hb hr hts hown hlocks hml hK hP hD hS hA hl
  replace hown : s.vm.findClass RX10 = some m.cls := hown
  have hC : CallFix p m c cX10_goTale 2 s _ wsX10_goTale RX10 := ⟨hx, hb, hml, hown, hts⟩
  replace hl : lv_has ls 2 [(0, .ref hm), (1, .int (iZ t))] := hl
  have iwX10 : ∀ w ∈ u_ws RX10 TX10 36, w ∈ wsX10_goTale := fun w h => List.mem_cons_of_mem _ (List.mem_append_right _ h)
  have fl32 : Cond.fieldLink RX10 32 "GrowsByHalfModel" "witnessOf" "[I" ∈ wsX10_goTale := by decide +kernel
  have fl35 : Cond.fieldLink RX10 35 "GrowsByHalfModel" "seenOf" "[I" ∈ wsX10_goTale := by decide +kernel
  refine lv_aload_n hx hb dX10_goTale_0 rfl (lv_at hl 0 rfl) ?_
  refine lv_aload_n hx hb dX10_goTale_1 rfl (lv_at hl 0 rfl) ?_
  refine z_get (C := RX10) (T0 := TX10) (N := 36) (ci := 10) (v := .ref (a 11)) hx hb hts hown hK hP iwX10 rfl 0 rfl 11 (by decide) fl32 rfl dX10_goTale_2 ?_
  refine lv_iload_n hx hb dX10_goTale_5 rfl (lv_at hl 1 rfl) ?_
  refine z_iald hx hb hK hP 8 0 rfl rfl (by decide) (by first | assumption | omega) dX10_goTale_6 ?_
  have rd_1 := hwi t
  refine lv_aload_n hx hb dX10_goTale_7 rfl (lv_at hl 0 rfl) ?_
  refine z_get (C := RX10) (T0 := TX10) (N := 36) (ci := 10) (v := .ref (a 12)) hx hb hts hown hK hP iwX10 rfl 0 rfl 12 (by decide) fl35 rfl dX10_goTale_8 ?_
  refine lv_iload_n hx hb dX10_goTale_11 rfl (lv_at hl 1 rfl) ?_
  refine z_iald hx hb hK hP 9 0 rfl rfl (by decide) (by first | assumption | omega) dX10_goTale_12 ?_
  have rd_2 := hss t
  refine z_Vv (As := [.int (iZ (wi t)), .int (iZ (ss t))]) (rest := []) hC (c_X10_goWeek l D cI cJ cB hm a st lw tl wk pe ch pl fa iw nm qe sd ik kp hh so mu te tw kd bg fm (wi t) (ss t) (by first | assumption | omega) (by first | assumption | omega) (by first | assumption | omega) (by first | assumption | omega) (by first | assumption | omega) (by first | assumption | omega) (by first | assumption | omega) (by first | assumption | omega) (by first | assumption | omega)) 2 gX10_goTale_X10_goWeek rfl rfl rfl ⟨rfl, qX10_goWeek⟩ ⟨Nat.le_of_ble_eq_true rfl, Nat.le_of_ble_eq_true rfl⟩ ⟨Nat.le_refl _, Nat.le_refl _⟩ hK hP hD hS hA [0, 1, 2, 3, 4, 5, 6, 7] rfl (by decide) 0 rfl rfl rfl hl.1 rfl (Nat.le_of_ble_eq_true rfl) dX10_goTale_13 (fun w H locs hq hP hD hS => ?_)
  rcases hq with rfl
  replace hP : va_P D vwCl [(hm, ob 10 (mo a st lw tl wk pe ch pl fa iw nm qe sd ik kp hh)), ((a 1), aI cI 4 so), ((a 2), aI cI 4 mu), ((a 5), aI cI 16 te), ((a 6), aI cI 16 tw), ((a 9), aI cI 8 kd), ((a 23), aI cI 8 (wkB (gro so mu st.toNat) kd pe te tw (bgn (wi t) (ss t)) tl.toNat)), ((a 24), aI cI 8 (wkF (gro so mu st.toNat) kd pe te tw (bgn (wi t) (ss t)) (fun _ => -1) tl.toNat)), ((a 11), aI cI 4 wi), ((a 12), aI cI 4 ss)] H := hP
  replace hD : va_D A [(hm, ob 10 (mo a st lw tl wk pe ch pl fa iw nm qe sd ik kp hh)), ((a 1), aI cI 4 so), ((a 2), aI cI 4 mu), ((a 5), aI cI 16 te), ((a 6), aI cI 16 tw), ((a 9), aI cI 8 kd), ((a 23), aI cI 8 (wkB (gro so mu st.toNat) kd pe te tw (bgn (wi t) (ss t)) tl.toNat)), ((a 24), aI cI 8 (wkF (gro so mu st.toNat) kd pe te tw (bgn (wi t) (ss t)) (fun _ => -1) tl.toNat)), ((a 11), aI cI 4 wi), ((a 12), aI cI 4 ss)] := hD
  exact z_vret hx hb hr hlocks hP hD hS dX10_goTale_16 rfl (by first | (exact rfl) | (exfalso; omega))
theorem qX10_size : yX10_size.cls ≠ "java/lang/invoke/MethodHandle" ∧ yX10_size.cls ≠ "java/lang/invoke/VarHandle" ∧ (parseMethodDescriptor yX10_size.desc).map (fun d => d.parameters.length) = some 2 := by decide +kernel
set_option maxHeartbeats 4000000 in
set_option maxRecDepth 100000 in
theorem c_X10_size (l : Launch) (D : va_G) (cI cJ cB : ClassId) (hm : Nat) (a : Nat → Nat) (st lw tl wk pe ch pl fa iw nm qe sd ik kp hh : Int) (so mu te tw kd bg fm wi ss : Int → Int) (p0 t : Int) (hsu : ∀ j, (0 ≤ so j ∧ so j ≤ 4) ∧ (0 ≤ mu j ∧ mu j ≤ 9) ∧ (so j = 4 → 2 ≤ mu j)) (hst : 1 ≤ st ∧ st ≤ 4) (htl : 0 ≤ tl ∧ tl ≤ 16) (hte : ∀ j, 0 ≤ te j ∧ te j ≤ 7) (htw : ∀ j, 0 ≤ tw j ∧ tw j ≤ 7) (hpe : 0 ≤ pe ∧ pe ≤ 8) (hkd : ∀ j, 0 ≤ kd j ∧ kd j ≤ 3) (hwi : ∀ j, -1 ≤ wi j ∧ wi j ≤ 7) (hss : ∀ j, 0 ≤ ss j ∧ ss j ≤ 9999) (hp0 : -2147483648 ≤ p0 ∧ p0 < 2147483648) (ht : -2147483648 ≤ t ∧ t < 2147483648) : zMi l yX10_size wsX10_size (zRm 6 134) D (zT cI cJ cB) [.ref hm, .int (iZ p0), .int (iZ t)] [(hm, ob 10 (mo a st lw tl wk pe ch pl fa iw nm qe sd ik kp hh)), ((a 1), aI cI 4 so), ((a 2), aI cI 4 mu), ((a 5), aI cI 16 te), ((a 6), aI cI 16 tw), ((a 9), aI cI 8 kd), ((a 23), aI cI 8 bg), ((a 24), aI cI 8 fm), ((a 11), aI cI 4 wi), ((a 12), aI cI 4 ss)] (fun (z : Int) (w : va_W) => ((-101) = z ∧ w = [(hm, ob 10 (mo a st lw tl wk pe ch pl fa iw nm qe sd ik kp hh)), ((a 1), aI cI 4 so), ((a 2), aI cI 4 mu), ((a 5), aI cI 16 te), ((a 6), aI cI 16 tw), ((a 9), aI cI 8 kd), ((a 23), aI cI 8 bg), ((a 24), aI cI 8 fm), ((a 11), aI cI 4 wi), ((a 12), aI cI 4 ss)] ∧ (¬ (0 ≤ p0 ∧ p0 < pe ∧ 0 ≤ t ∧ t ≤ 3))) ∨ ((wkB (gro so mu st.toNat) kd pe te tw (bgn (wi t) (ss t)) tl.toNat) p0 = z ∧ w = [(hm, ob 10 (mo a st lw tl wk pe ch pl fa iw nm qe sd ik kp hh)), ((a 1), aI cI 4 so), ((a 2), aI cI 4 mu), ((a 5), aI cI 16 te), ((a 6), aI cI 16 tw), ((a 9), aI cI 8 kd), ((a 23), aI cI 8 (wkB (gro so mu st.toNat) kd pe te tw (bgn (wi t) (ss t)) tl.toNat)), ((a 24), aI cI 8 (wkF (gro so mu st.toNat) kd pe te tw (bgn (wi t) (ss t)) (fun _ => -1) tl.toNat)), ((a 11), aI cI 4 wi), ((a 12), aI cI 4 ss)] ∧ (0 ≤ p0 ∧ p0 < pe) ∧ (0 ≤ t ∧ t ≤ 3))) := by
  refine z_of (Qc := fun A => zQi D [(hm, ob 10 (mo a st lw tl wk pe ch pl fa iw nm qe sd ik kp hh)), ((a 1), aI cI 4 so), ((a 2), aI cI 4 mu), ((a 5), aI cI 16 te), ((a 6), aI cI 16 tw), ((a 9), aI cI 8 kd), ((a 23), aI cI 8 bg), ((a 24), aI cI 8 fm), ((a 11), aI cI 4 wi), ((a 12), aI cI 4 ss)] A _) (cc := cX10_size) (maxL := 3) (ret := (some .int)) (by decide) rfl (Nat.le_of_ble_eq_true rfl) ?_
  intro p e s m below meth c A ls hx hb hr hts hown hlocks hml hK hP hD hS hA hl
  replace hown : s.vm.findClass RX10 = some m.cls := hown
  have hC : CallFix p m c cX10_size 3 s _ wsX10_size RX10 := ⟨hx, hb, hml, hown, hts⟩
  replace hl : lv_has ls 3 [(0, .ref hm), (1, .int (iZ p0)), (2, .int (iZ t))] := hl
  have iwX10 : ∀ w ∈ u_ws RX10 TX10 36, w ∈ wsX10_size := fun w h => List.mem_cons_of_mem _ (List.mem_append_right _ h)
  have fl54 : Cond.fieldLink RX10 54 "GrowsByHalfModel" "bigOf" "[I" ∈ wsX10_size := by decide +kernel
  refine lv_aload_n hx hb dX10_size_0 rfl (lv_at hl 0 rfl) ?_
  refine lv_iload_n hx hb dX10_size_1 rfl (lv_at hl 1 rfl) ?_
  refine z_Vi (As := [.int (iZ p0)]) (rest := []) hC (c_X10_isPerson l D cI cJ cB hm a st lw tl wk pe ch pl fa iw nm qe sd ik kp hh p0 (by first | assumption | omega) (by first | assumption | omega)) 1 gX10_size_X10_isPerson rfl rfl rfl ⟨rfl, qX10_isPerson⟩ ⟨Nat.le_of_ble_eq_true rfl, Nat.le_of_ble_eq_true rfl⟩ ⟨Nat.le_refl _, Nat.le_refl _⟩ hK hP hD hS hA [0] rfl (by decide) 0 rfl rfl rfl hl.1 rfl (Nat.le_of_ble_eq_true rfl) dX10_size_2 (fun z w H locs hq hP hD hS => ?_)
  rcases hq with ⟨rfl, rfl, hc1_0⟩ | ⟨rfl, rfl, hc1_0⟩
  · replace hP : va_P D vwCl [(hm, ob 10 (mo a st lw tl wk pe ch pl fa iw nm qe sd ik kp hh)), ((a 1), aI cI 4 so), ((a 2), aI cI 4 mu), ((a 5), aI cI 16 te), ((a 6), aI cI 16 tw), ((a 9), aI cI 8 kd), ((a 23), aI cI 8 bg), ((a 24), aI cI 8 fm), ((a 11), aI cI 4 wi), ((a 12), aI cI 4 ss)] H := hP
    replace hD : va_D A [(hm, ob 10 (mo a st lw tl wk pe ch pl fa iw nm qe sd ik kp hh)), ((a 1), aI cI 4 so), ((a 2), aI cI 4 mu), ((a 5), aI cI 16 te), ((a 6), aI cI 16 tw), ((a 9), aI cI 8 kd), ((a 23), aI cI 8 bg), ((a 24), aI cI 8 fm), ((a 11), aI cI 4 wi), ((a 12), aI cI 4 ss)] := hD
    refine z_if_eq (tgt := 15) hx hb dX10_size_5 (by decide) (by first | assumption | omega) (fun h => absurd h (by decide)) (fun _ => ?_)
    refine lv_iload_n hx hb dX10_size_8 rfl (lv_at hl 2 rfl) ?_
    refine z_Si (As := [.int (iZ t)]) (rest := []) hC (c_X10_isTale l D cI cJ cB t (by first | assumption | omega)) 1 gX10_size_X10_isTale rfl rfl rfl qX10_isTale ⟨Nat.le_of_ble_eq_true rfl, Nat.le_of_ble_eq_true rfl⟩ ⟨Nat.le_refl _, Nat.le_refl _⟩ hK hP hD hS hA [] rfl (by decide) rfl hl.1 rfl (Nat.le_of_ble_eq_true rfl) dX10_size_9 (fun z w H locs hq hP hD hS => ?_)
    rcases hq with ⟨rfl, rfl, hc2_0⟩ | ⟨rfl, rfl, hc2_0⟩
    · replace hP : va_P D vwCl [(hm, ob 10 (mo a st lw tl wk pe ch pl fa iw nm qe sd ik kp hh)), ((a 1), aI cI 4 so), ((a 2), aI cI 4 mu), ((a 5), aI cI 16 te), ((a 6), aI cI 16 tw), ((a 9), aI cI 8 kd), ((a 23), aI cI 8 bg), ((a 24), aI cI 8 fm), ((a 11), aI cI 4 wi), ((a 12), aI cI 4 ss)] H := hP
      replace hD : va_D A [(hm, ob 10 (mo a st lw tl wk pe ch pl fa iw nm qe sd ik kp hh)), ((a 1), aI cI 4 so), ((a 2), aI cI 4 mu), ((a 5), aI cI 16 te), ((a 6), aI cI 16 tw), ((a 9), aI cI 8 kd), ((a 23), aI cI 8 bg), ((a 24), aI cI 8 fm), ((a 11), aI cI 4 wi), ((a 12), aI cI 4 ss)] := hD
      refine z_if_ne (tgt := 18) hx hb dX10_size_12 (by decide) (by first | assumption | omega) (fun _ => ?_) (fun h => absurd h (by decide))
      refine lv_aload_n hx hb dX10_size_18 rfl (lv_at hl 0 rfl) ?_
      refine lv_iload_n hx hb dX10_size_19 rfl (lv_at hl 2 rfl) ?_
      refine z_Vv (As := [.int (iZ t)]) (rest := []) hC (c_X10_goTale l D cI cJ cB hm a st lw tl wk pe ch pl fa iw nm qe sd ik kp hh so mu te tw kd bg fm wi ss t (by first | assumption | omega) (by first | assumption | omega) (by first | assumption | omega) (by first | assumption | omega) (by first | assumption | omega) (by first | assumption | omega) (by first | assumption | omega) (by first | assumption | omega) (by first | assumption | omega) (by first | assumption | omega)) 1 gX10_size_X10_goTale rfl rfl rfl ⟨rfl, qX10_goTale⟩ ⟨Nat.le_of_ble_eq_true rfl, Nat.le_of_ble_eq_true rfl⟩ ⟨Nat.le_refl _, Nat.le_refl _⟩ hK hP hD hS hA [0, 1, 2, 3, 4, 5, 6, 7, 8, 9] rfl (by decide) 0 rfl rfl rfl hl.1 rfl (Nat.le_of_ble_eq_true rfl) dX10_size_20 (fun w H locs hq hP hD hS => ?_)
      rcases hq with rfl
      replace hP : va_P D vwCl [(hm, ob 10 (mo a st lw tl wk pe ch pl fa iw nm qe sd ik kp hh)), ((a 1), aI cI 4 so), ((a 2), aI cI 4 mu), ((a 5), aI cI 16 te), ((a 6), aI cI 16 tw), ((a 9), aI cI 8 kd), ((a 23), aI cI 8 (wkB (gro so mu st.toNat) kd pe te tw (bgn (wi t) (ss t)) tl.toNat)), ((a 24), aI cI 8 (wkF (gro so mu st.toNat) kd pe te tw (bgn (wi t) (ss t)) (fun _ => -1) tl.toNat)), ((a 11), aI cI 4 wi), ((a 12), aI cI 4 ss)] H := hP
      replace hD : va_D A [(hm, ob 10 (mo a st lw tl wk pe ch pl fa iw nm qe sd ik kp hh)), ((a 1), aI cI 4 so), ((a 2), aI cI 4 mu), ((a 5), aI cI 16 te), ((a 6), aI cI 16 tw), ((a 9), aI cI 8 kd), ((a 23), aI cI 8 (wkB (gro so mu st.toNat) kd pe te tw (bgn (wi t) (ss t)) tl.toNat)), ((a 24), aI cI 8 (wkF (gro so mu st.toNat) kd pe te tw (bgn (wi t) (ss t)) (fun _ => -1) tl.toNat)), ((a 11), aI cI 4 wi), ((a 12), aI cI 4 ss)] := hD
      refine lv_aload_n hx hb dX10_size_23 rfl (lv_at hl 0 rfl) ?_
      refine z_get (C := RX10) (T0 := TX10) (N := 36) (ci := 10) (v := .ref (a 23)) hx hb hts hown hK hP iwX10 rfl 0 rfl 23 (by decide) fl54 rfl dX10_size_24 ?_
      refine lv_iload_n hx hb dX10_size_27 rfl (lv_at hl 1 rfl) ?_
      refine z_iald hx hb hK hP 6 0 rfl rfl (by decide) (by first | assumption | omega) dX10_size_28 ?_
      exact z_iret hx hb hr hlocks hP hD hS dX10_size_29 rfl (by first | (exact Or.inl (⟨(by first | rfl | omega), rfl, (by first | assumption | omega)⟩)) | (exact Or.inr (⟨(by first | rfl | omega), rfl, (by first | assumption | omega), (by first | assumption | omega)⟩)) | (exfalso; omega))
    · replace hP : va_P D vwCl [(hm, ob 10 (mo a st lw tl wk pe ch pl fa iw nm qe sd ik kp hh)), ((a 1), aI cI 4 so), ((a 2), aI cI 4 mu), ((a 5), aI cI 16 te), ((a 6), aI cI 16 tw), ((a 9), aI cI 8 kd), ((a 23), aI cI 8 bg), ((a 24), aI cI 8 fm), ((a 11), aI cI 4 wi), ((a 12), aI cI 4 ss)] H := hP
      replace hD : va_D A [(hm, ob 10 (mo a st lw tl wk pe ch pl fa iw nm qe sd ik kp hh)), ((a 1), aI cI 4 so), ((a 2), aI cI 4 mu), ((a 5), aI cI 16 te), ((a 6), aI cI 16 tw), ((a 9), aI cI 8 kd), ((a 23), aI cI 8 bg), ((a 24), aI cI 8 fm), ((a 11), aI cI 4 wi), ((a 12), aI cI 4 ss)] := hD
      refine z_if_ne (tgt := 18) hx hb dX10_size_12 (by decide) (by first | assumption | omega) (fun h => absurd h (by decide)) (fun _ => ?_)
      refine lv_bipush (v := iZ (-101)) hx hb dX10_size_15 (by decide) ?_
      exact z_iret hx hb hr hlocks hP hD hS dX10_size_17 rfl (by first | (exact Or.inl (⟨(by first | rfl | omega), rfl, (by first | assumption | omega)⟩)) | (exact Or.inr (⟨(by first | rfl | omega), rfl, (by first | assumption | omega), (by first | assumption | omega)⟩)) | (exfalso; omega))
  · replace hP : va_P D vwCl [(hm, ob 10 (mo a st lw tl wk pe ch pl fa iw nm qe sd ik kp hh)), ((a 1), aI cI 4 so), ((a 2), aI cI 4 mu), ((a 5), aI cI 16 te), ((a 6), aI cI 16 tw), ((a 9), aI cI 8 kd), ((a 23), aI cI 8 bg), ((a 24), aI cI 8 fm), ((a 11), aI cI 4 wi), ((a 12), aI cI 4 ss)] H := hP
    replace hD : va_D A [(hm, ob 10 (mo a st lw tl wk pe ch pl fa iw nm qe sd ik kp hh)), ((a 1), aI cI 4 so), ((a 2), aI cI 4 mu), ((a 5), aI cI 16 te), ((a 6), aI cI 16 tw), ((a 9), aI cI 8 kd), ((a 23), aI cI 8 bg), ((a 24), aI cI 8 fm), ((a 11), aI cI 4 wi), ((a 12), aI cI 4 ss)] := hD
    refine z_if_eq (tgt := 15) hx hb dX10_size_5 (by decide) (by first | assumption | omega) (fun _ => ?_) (fun h => absurd h (by decide))
    refine lv_bipush (v := iZ (-101)) hx hb dX10_size_15 (by decide) ?_
    exact z_iret hx hb hr hlocks hP hD hS dX10_size_17 rfl (by first | (exact Or.inl (⟨(by first | rfl | omega), rfl, (by first | assumption | omega)⟩)) | (exact Or.inr (⟨(by first | rfl | omega), rfl, (by first | assumption | omega), (by first | assumption | omega)⟩)) | (exfalso; omega))
theorem qX10_from : yX10_from.cls ≠ "java/lang/invoke/MethodHandle" ∧ yX10_from.cls ≠ "java/lang/invoke/VarHandle" ∧ (parseMethodDescriptor yX10_from.desc).map (fun d => d.parameters.length) = some 2 := by decide +kernel
set_option maxHeartbeats 4000000 in
set_option maxRecDepth 100000 in
theorem c_X10_from (l : Launch) (D : va_G) (cI cJ cB : ClassId) (hm : Nat) (a : Nat → Nat) (st lw tl wk pe ch pl fa iw nm qe sd ik kp hh : Int) (so mu te tw kd bg fm wi ss : Int → Int) (p0 t : Int) (hsu : ∀ j, (0 ≤ so j ∧ so j ≤ 4) ∧ (0 ≤ mu j ∧ mu j ≤ 9) ∧ (so j = 4 → 2 ≤ mu j)) (hst : 1 ≤ st ∧ st ≤ 4) (htl : 0 ≤ tl ∧ tl ≤ 16) (hte : ∀ j, 0 ≤ te j ∧ te j ≤ 7) (htw : ∀ j, 0 ≤ tw j ∧ tw j ≤ 7) (hpe : 0 ≤ pe ∧ pe ≤ 8) (hkd : ∀ j, 0 ≤ kd j ∧ kd j ≤ 3) (hwi : ∀ j, -1 ≤ wi j ∧ wi j ≤ 7) (hss : ∀ j, 0 ≤ ss j ∧ ss j ≤ 9999) (hp0 : -2147483648 ≤ p0 ∧ p0 < 2147483648) (ht : -2147483648 ≤ t ∧ t < 2147483648) : zMi l yX10_from wsX10_from (zRm 6 134) D (zT cI cJ cB) [.ref hm, .int (iZ p0), .int (iZ t)] [(hm, ob 10 (mo a st lw tl wk pe ch pl fa iw nm qe sd ik kp hh)), ((a 1), aI cI 4 so), ((a 2), aI cI 4 mu), ((a 5), aI cI 16 te), ((a 6), aI cI 16 tw), ((a 9), aI cI 8 kd), ((a 23), aI cI 8 bg), ((a 24), aI cI 8 fm), ((a 11), aI cI 4 wi), ((a 12), aI cI 4 ss)] (fun (z : Int) (w : va_W) => ((-101) = z ∧ w = [(hm, ob 10 (mo a st lw tl wk pe ch pl fa iw nm qe sd ik kp hh)), ((a 1), aI cI 4 so), ((a 2), aI cI 4 mu), ((a 5), aI cI 16 te), ((a 6), aI cI 16 tw), ((a 9), aI cI 8 kd), ((a 23), aI cI 8 bg), ((a 24), aI cI 8 fm), ((a 11), aI cI 4 wi), ((a 12), aI cI 4 ss)] ∧ (¬ (0 ≤ p0 ∧ p0 < pe ∧ 0 ≤ t ∧ t ≤ 3))) ∨ ((wkF (gro so mu st.toNat) kd pe te tw (bgn (wi t) (ss t)) (fun _ => -1) tl.toNat) p0 = z ∧ w = [(hm, ob 10 (mo a st lw tl wk pe ch pl fa iw nm qe sd ik kp hh)), ((a 1), aI cI 4 so), ((a 2), aI cI 4 mu), ((a 5), aI cI 16 te), ((a 6), aI cI 16 tw), ((a 9), aI cI 8 kd), ((a 23), aI cI 8 (wkB (gro so mu st.toNat) kd pe te tw (bgn (wi t) (ss t)) tl.toNat)), ((a 24), aI cI 8 (wkF (gro so mu st.toNat) kd pe te tw (bgn (wi t) (ss t)) (fun _ => -1) tl.toNat)), ((a 11), aI cI 4 wi), ((a 12), aI cI 4 ss)] ∧ (0 ≤ p0 ∧ p0 < pe) ∧ (0 ≤ t ∧ t ≤ 3))) := by
  refine z_of (Qc := fun A => zQi D [(hm, ob 10 (mo a st lw tl wk pe ch pl fa iw nm qe sd ik kp hh)), ((a 1), aI cI 4 so), ((a 2), aI cI 4 mu), ((a 5), aI cI 16 te), ((a 6), aI cI 16 tw), ((a 9), aI cI 8 kd), ((a 23), aI cI 8 bg), ((a 24), aI cI 8 fm), ((a 11), aI cI 4 wi), ((a 12), aI cI 4 ss)] A _) (cc := cX10_from) (maxL := 3) (ret := (some .int)) (by decide) rfl (Nat.le_of_ble_eq_true rfl) ?_
  intro p e s m below meth c A ls hx hb hr hts hown hlocks hml hK hP hD hS hA hl
  replace hown : s.vm.findClass RX10 = some m.cls := hown
  have hC : CallFix p m c cX10_from 3 s _ wsX10_from RX10 := ⟨hx, hb, hml, hown, hts⟩
  replace hl : lv_has ls 3 [(0, .ref hm), (1, .int (iZ p0)), (2, .int (iZ t))] := hl
  have iwX10 : ∀ w ∈ u_ws RX10 TX10 36, w ∈ wsX10_from := fun w h => List.mem_cons_of_mem _ (List.mem_append_right _ h)
  have fl57 : Cond.fieldLink RX10 57 "GrowsByHalfModel" "fromOf" "[I" ∈ wsX10_from := by decide +kernel
  refine lv_aload_n hx hb dX10_from_0 rfl (lv_at hl 0 rfl) ?_
  refine lv_iload_n hx hb dX10_from_1 rfl (lv_at hl 1 rfl) ?_
  refine z_Vi (As := [.int (iZ p0)]) (rest := []) hC (c_X10_isPerson l D cI cJ cB hm a st lw tl wk pe ch pl fa iw nm qe sd ik kp hh p0 (by first | assumption | omega) (by first | assumption | omega)) 1 gX10_from_X10_isPerson rfl rfl rfl ⟨rfl, qX10_isPerson⟩ ⟨Nat.le_of_ble_eq_true rfl, Nat.le_of_ble_eq_true rfl⟩ ⟨Nat.le_refl _, Nat.le_refl _⟩ hK hP hD hS hA [0] rfl (by decide) 0 rfl rfl rfl hl.1 rfl (Nat.le_of_ble_eq_true rfl) dX10_from_2 (fun z w H locs hq hP hD hS => ?_)
  rcases hq with ⟨rfl, rfl, hc1_0⟩ | ⟨rfl, rfl, hc1_0⟩
  · replace hP : va_P D vwCl [(hm, ob 10 (mo a st lw tl wk pe ch pl fa iw nm qe sd ik kp hh)), ((a 1), aI cI 4 so), ((a 2), aI cI 4 mu), ((a 5), aI cI 16 te), ((a 6), aI cI 16 tw), ((a 9), aI cI 8 kd), ((a 23), aI cI 8 bg), ((a 24), aI cI 8 fm), ((a 11), aI cI 4 wi), ((a 12), aI cI 4 ss)] H := hP
    replace hD : va_D A [(hm, ob 10 (mo a st lw tl wk pe ch pl fa iw nm qe sd ik kp hh)), ((a 1), aI cI 4 so), ((a 2), aI cI 4 mu), ((a 5), aI cI 16 te), ((a 6), aI cI 16 tw), ((a 9), aI cI 8 kd), ((a 23), aI cI 8 bg), ((a 24), aI cI 8 fm), ((a 11), aI cI 4 wi), ((a 12), aI cI 4 ss)] := hD
    refine z_if_eq (tgt := 15) hx hb dX10_from_5 (by decide) (by first | assumption | omega) (fun h => absurd h (by decide)) (fun _ => ?_)
    refine lv_iload_n hx hb dX10_from_8 rfl (lv_at hl 2 rfl) ?_
    refine z_Si (As := [.int (iZ t)]) (rest := []) hC (c_X10_isTale l D cI cJ cB t (by first | assumption | omega)) 1 gX10_from_X10_isTale rfl rfl rfl qX10_isTale ⟨Nat.le_of_ble_eq_true rfl, Nat.le_of_ble_eq_true rfl⟩ ⟨Nat.le_refl _, Nat.le_refl _⟩ hK hP hD hS hA [] rfl (by decide) rfl hl.1 rfl (Nat.le_of_ble_eq_true rfl) dX10_from_9 (fun z w H locs hq hP hD hS => ?_)
    rcases hq with ⟨rfl, rfl, hc2_0⟩ | ⟨rfl, rfl, hc2_0⟩
    · replace hP : va_P D vwCl [(hm, ob 10 (mo a st lw tl wk pe ch pl fa iw nm qe sd ik kp hh)), ((a 1), aI cI 4 so), ((a 2), aI cI 4 mu), ((a 5), aI cI 16 te), ((a 6), aI cI 16 tw), ((a 9), aI cI 8 kd), ((a 23), aI cI 8 bg), ((a 24), aI cI 8 fm), ((a 11), aI cI 4 wi), ((a 12), aI cI 4 ss)] H := hP
      replace hD : va_D A [(hm, ob 10 (mo a st lw tl wk pe ch pl fa iw nm qe sd ik kp hh)), ((a 1), aI cI 4 so), ((a 2), aI cI 4 mu), ((a 5), aI cI 16 te), ((a 6), aI cI 16 tw), ((a 9), aI cI 8 kd), ((a 23), aI cI 8 bg), ((a 24), aI cI 8 fm), ((a 11), aI cI 4 wi), ((a 12), aI cI 4 ss)] := hD
      refine z_if_ne (tgt := 18) hx hb dX10_from_12 (by decide) (by first | assumption | omega) (fun _ => ?_) (fun h => absurd h (by decide))
      refine lv_aload_n hx hb dX10_from_18 rfl (lv_at hl 0 rfl) ?_
      refine lv_iload_n hx hb dX10_from_19 rfl (lv_at hl 2 rfl) ?_
      refine z_Vv (As := [.int (iZ t)]) (rest := []) hC (c_X10_goTale l D cI cJ cB hm a st lw tl wk pe ch pl fa iw nm qe sd ik kp hh so mu te tw kd bg fm wi ss t (by first | assumption | omega) (by first | assumption | omega) (by first | assumption | omega) (by first | assumption | omega) (by first | assumption | omega) (by first | assumption | omega) (by first | assumption | omega) (by first | assumption | omega) (by first | assumption | omega) (by first | assumption | omega)) 1 gX10_from_X10_goTale rfl rfl rfl ⟨rfl, qX10_goTale⟩ ⟨Nat.le_of_ble_eq_true rfl, Nat.le_of_ble_eq_true rfl⟩ ⟨Nat.le_refl _, Nat.le_refl _⟩ hK hP hD hS hA [0, 1, 2, 3, 4, 5, 6, 7, 8, 9] rfl (by decide) 0 rfl rfl rfl hl.1 rfl (Nat.le_of_ble_eq_true rfl) dX10_from_20 (fun w H locs hq hP hD hS => ?_)
      rcases hq with rfl
      replace hP : va_P D vwCl [(hm, ob 10 (mo a st lw tl wk pe ch pl fa iw nm qe sd ik kp hh)), ((a 1), aI cI 4 so), ((a 2), aI cI 4 mu), ((a 5), aI cI 16 te), ((a 6), aI cI 16 tw), ((a 9), aI cI 8 kd), ((a 23), aI cI 8 (wkB (gro so mu st.toNat) kd pe te tw (bgn (wi t) (ss t)) tl.toNat)), ((a 24), aI cI 8 (wkF (gro so mu st.toNat) kd pe te tw (bgn (wi t) (ss t)) (fun _ => -1) tl.toNat)), ((a 11), aI cI 4 wi), ((a 12), aI cI 4 ss)] H := hP
      replace hD : va_D A [(hm, ob 10 (mo a st lw tl wk pe ch pl fa iw nm qe sd ik kp hh)), ((a 1), aI cI 4 so), ((a 2), aI cI 4 mu), ((a 5), aI cI 16 te), ((a 6), aI cI 16 tw), ((a 9), aI cI 8 kd), ((a 23), aI cI 8 (wkB (gro so mu st.toNat) kd pe te tw (bgn (wi t) (ss t)) tl.toNat)), ((a 24), aI cI 8 (wkF (gro so mu st.toNat) kd pe te tw (bgn (wi t) (ss t)) (fun _ => -1) tl.toNat)), ((a 11), aI cI 4 wi), ((a 12), aI cI 4 ss)] := hD
      refine lv_aload_n hx hb dX10_from_23 rfl (lv_at hl 0 rfl) ?_
      refine z_get (C := RX10) (T0 := TX10) (N := 36) (ci := 10) (v := .ref (a 24)) hx hb hts hown hK hP iwX10 rfl 0 rfl 24 (by decide) fl57 rfl dX10_from_24 ?_
      refine lv_iload_n hx hb dX10_from_27 rfl (lv_at hl 1 rfl) ?_
      refine z_iald hx hb hK hP 7 0 rfl rfl (by decide) (by first | assumption | omega) dX10_from_28 ?_
      exact z_iret hx hb hr hlocks hP hD hS dX10_from_29 rfl (by first | (exact Or.inl (⟨(by first | rfl | omega), rfl, (by first | assumption | omega)⟩)) | (exact Or.inr (⟨(by first | rfl | omega), rfl, (by first | assumption | omega), (by first | assumption | omega)⟩)) | (exfalso; omega))
    · replace hP : va_P D vwCl [(hm, ob 10 (mo a st lw tl wk pe ch pl fa iw nm qe sd ik kp hh)), ((a 1), aI cI 4 so), ((a 2), aI cI 4 mu), ((a 5), aI cI 16 te), ((a 6), aI cI 16 tw), ((a 9), aI cI 8 kd), ((a 23), aI cI 8 bg), ((a 24), aI cI 8 fm), ((a 11), aI cI 4 wi), ((a 12), aI cI 4 ss)] H := hP
      replace hD : va_D A [(hm, ob 10 (mo a st lw tl wk pe ch pl fa iw nm qe sd ik kp hh)), ((a 1), aI cI 4 so), ((a 2), aI cI 4 mu), ((a 5), aI cI 16 te), ((a 6), aI cI 16 tw), ((a 9), aI cI 8 kd), ((a 23), aI cI 8 bg), ((a 24), aI cI 8 fm), ((a 11), aI cI 4 wi), ((a 12), aI cI 4 ss)] := hD
      refine z_if_ne (tgt := 18) hx hb dX10_from_12 (by decide) (by first | assumption | omega) (fun h => absurd h (by decide)) (fun _ => ?_)
      refine lv_bipush (v := iZ (-101)) hx hb dX10_from_15 (by decide) ?_
      exact z_iret hx hb hr hlocks hP hD hS dX10_from_17 rfl (by first | (exact Or.inl (⟨(by first | rfl | omega), rfl, (by first | assumption | omega)⟩)) | (exact Or.inr (⟨(by first | rfl | omega), rfl, (by first | assumption | omega), (by first | assumption | omega)⟩)) | (exfalso; omega))
  · replace hP : va_P D vwCl [(hm, ob 10 (mo a st lw tl wk pe ch pl fa iw nm qe sd ik kp hh)), ((a 1), aI cI 4 so), ((a 2), aI cI 4 mu), ((a 5), aI cI 16 te), ((a 6), aI cI 16 tw), ((a 9), aI cI 8 kd), ((a 23), aI cI 8 bg), ((a 24), aI cI 8 fm), ((a 11), aI cI 4 wi), ((a 12), aI cI 4 ss)] H := hP
    replace hD : va_D A [(hm, ob 10 (mo a st lw tl wk pe ch pl fa iw nm qe sd ik kp hh)), ((a 1), aI cI 4 so), ((a 2), aI cI 4 mu), ((a 5), aI cI 16 te), ((a 6), aI cI 16 tw), ((a 9), aI cI 8 kd), ((a 23), aI cI 8 bg), ((a 24), aI cI 8 fm), ((a 11), aI cI 4 wi), ((a 12), aI cI 4 ss)] := hD
    refine z_if_eq (tgt := 15) hx hb dX10_from_5 (by decide) (by first | assumption | omega) (fun _ => ?_) (fun h => absurd h (by decide))
    refine lv_bipush (v := iZ (-101)) hx hb dX10_from_15 (by decide) ?_
    exact z_iret hx hb hr hlocks hP hD hS dX10_from_17 rfl (by first | (exact Or.inl (⟨(by first | rfl | omega), rfl, (by first | assumption | omega)⟩)) | (exact Or.inr (⟨(by first | rfl | omega), rfl, (by first | assumption | omega), (by first | assumption | omega)⟩)) | (exfalso; omega))
