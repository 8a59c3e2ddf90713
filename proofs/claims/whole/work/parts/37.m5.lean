theorem qX10_power : yX10_power.cls ≠ "java/lang/invoke/MethodHandle" ∧ yX10_power.cls ≠ "java/lang/invoke/VarHandle" ∧ (parseMethodDescriptor yX10_power.desc).map (fun d => d.parameters.length) = some 2 := by decide +kernel
set_option maxHeartbeats 4000000 in
set_option maxRecDepth 100000 in
theorem c_X10_power (l : Launch) (D : va_G) (cI cJ cB : ClassId) (q n : Int) (hq : 0 ≤ q ∧ q ≤ 10) (hn : 0 ≤ n ∧ n ≤ 9) : zMl l yX10_power wsX10_power (zRm 0 0) D (zT cI cJ cB) [.int (iZ q), .int (iZ n)] [] (fun (z : Int) (w : va_W) => pwr q n.toNat = z ∧ w = []) := by
  refine z_of (Qc := fun A => zQl D [] A _) (cc := cX10_power) (maxL := 5) (ret := (some .long)) (by decide) rfl (Nat.le_of_ble_eq_true rfl) ?_
  intro p e s m below meth c A ls hx hb hr hts hown hlocks hml hK hP hD hS hA hl
  replace hown : s.vm.findClass RX10 = some m.cls := hown
  have hC : CallFix p m c cX10_power 5 s _ wsX10_power RX10 := ⟨hx, hb, hml, hown, hts⟩
  replace hl : lv_has ls 5 [(0, .int (iZ q)), (1, .int (iZ n))] := hl
  refine lv_lconst (v := lZ 1) hx hb dX10_power_0 rfl ?_
  refine lv_lstore_n (lv' := [(2, .long (lZ 1)), (0, .int (iZ q)), (1, .int (iZ n))]) hx hb dX10_power_1 rfl hl (by decide) rfl (fun ls hl => ?_)
  refine lv_iconst (v := iZ 0) hx hb dX10_power_2 (by decide) ?_
  refine lv_istore (lv' := [(4, .int (iZ 0)), (2, .long (lZ 1)), (0, .int (iZ q)), (1, .int (iZ n))]) hx hb dX10_power_3 hl (by decide) rfl (fun ls hl => ?_)
  have lp5 : ∀ fuel : Nat, ∀ (k u : Int), (0 ≤ k ∧ k ≤ n) → (u = pwr q k.toNat) → (n - k) < (fuel : Int) → ∀ (H : Heap) (locs : List Loc) (ls : Array Slot), va_P D vwCl [] H → va_D A [] → va_S A s.heap H locs → lv_has ls 5 [(0, .int (iZ q)), (1, .int (iZ n)), (2, .long (lZ u)), (4, .int (iZ k))] → W p l e (zRm 0 0) s m [.int (iZ q), .int (iZ n)].toArray below meth c H locs 0 0 (MQ below (zQl D [] A (fun (z : Int) (w : va_W) => pwr q n.toNat = z ∧ w = [])) [.int (iZ q), .int (iZ n)].toArray s 0 0 A) (F0 m 5 ls []) := by
    intro fuel
    induction fuel with
    | zero => intro k u hk hu hmu5; exact absurd hmu5 (by omega)
    | succ fuel ih5 =>
      intro k u hk hu hmu5 H locs ls hP hD hS hl
      refine lv_iload hx hb dX10_power_5 (lv_at hl 3 rfl) ?_
      refine lv_iload_n hx hb dX10_power_7 rfl (lv_at hl 1 rfl) ?_
      refine z_icmp_ge (tgt := 22) hx hb dX10_power_8 (by decide) (by first | assumption | omega) (by first | assumption | omega) (fun c_8 => ?_) (fun c_8 => ?_)
      · refine lv_lload_n hx hb dX10_power_22 rfl (lv_at hl 2 rfl) ?_
        exact z_lret hx hb hr hlocks hP hD hS dX10_power_23 rfl (by refine ⟨?_, rfl⟩; rw [hu, show k = n from by omega])
      · refine lv_lload_n hx hb dX10_power_11 rfl (lv_at hl 2 rfl) ?_
        refine lv_iload_n hx hb dX10_power_12 rfl (lv_at hl 0 rfl) ?_
        refine z_i2l hx hb (by first | assumption | omega) dX10_power_13 ?_
        refine z_lmul hx hb dX10_power_14 ?_
        refine lv_lstore_n (lv' := [(2, .long (lZ (u * q))), (0, .int (iZ q)), (1, .int (iZ n)), (4, .int (iZ k))]) hx hb dX10_power_15 rfl hl (by decide) rfl (fun ls hl => ?_)
        refine z_iinc (lv' := [(4, .int (iZ (k + 1))), (2, .long (lZ (u * q))), (0, .int (iZ q)), (1, .int (iZ n))]) hx hb dX10_power_16 hl (k := 3) rfl (by decide) rfl (fun ls hl => ?_)
        refine lv_goto (tgt := 5) hx hb dX10_power_19 (by decide) ?_
        exact ih5 (k + 1) (u * q) (by first | assumption | omega) (by rw [pwr_s (by omega), ← hu]) (by omega) _ _ _ hP hD hS (lv_sub hl [2, 3, 1, 0] rfl)
  exact lp5 ((n - 0 : Int) + 1).toNat 0 1 (by first | assumption | omega) (by rfl) (by omega) _ _ _ hP hD hS (lv_sub hl [2, 3, 1, 0] rfl)
theorem qX10_chanceNow : yX10_chanceNow.cls ≠ "java/lang/invoke/MethodHandle" ∧ yX10_chanceNow.cls ≠ "java/lang/invoke/VarHandle" ∧ (parseMethodDescriptor yX10_chanceNow.desc).map (fun d => d.parameters.length) = some 4 := by decide +kernel
set_option maxHeartbeats 4000000 in
set_option maxRecDepth 100000 in
theorem c_X10_chanceNow (l : Launch) (D : va_G) (cI cJ cB : ClassId) (hm : Nat) (a : Nat → Nat) (st lw tl wk pe ch pl fa iw nm qe sd ik kp hh : Int) (so mu : Int → Int) (tt t v x : Int) (hsu : ∀ j, (0 ≤ so j ∧ so j ≤ 4) ∧ (0 ≤ mu j ∧ mu j ≤ 9) ∧ (so j = 4 → 2 ≤ mu j)) (hst : 1 ≤ st ∧ st ≤ 4) (htt : 1 ≤ tt ∧ tt ≤ 9) (ht : 0 ≤ t ∧ t ≤ 10) (hv : 0 ≤ v ∧ v ≤ 9999) (hx0 : 0 ≤ x ∧ x ≤ 9999) : zMl l yX10_chanceNow wsX10_chanceNow (zRm 2 45) D (zT cI cJ cB) [.ref hm, .int (iZ tt), .int (iZ t), .int (iZ v), .int (iZ x)] [(hm, ob 10 (mo a st lw tl wk pe ch pl fa iw nm qe sd ik kp hh)), ((a 1), aI cI 4 so), ((a 2), aI cI 4 mu)] (fun (z : Int) (w : va_W) => sumW (gro so mu st.toNat) (wys t tt.toNat) v x (tt + 1).toNat = z ∧ w = [(hm, ob 10 (mo a st lw tl wk pe ch pl fa iw nm qe sd ik kp hh)), ((a 1), aI cI 4 so), ((a 2), aI cI 4 mu)]) := by
  refine z_of (Qc := fun A => zQl D [(hm, ob 10 (mo a st lw tl wk pe ch pl fa iw nm qe sd ik kp hh)), ((a 1), aI cI 4 so), ((a 2), aI cI 4 mu)] A _) (cc := cX10_chanceNow) (maxL := 11) (ret := (some .long)) (by decide) rfl (Nat.le_of_ble_eq_true rfl) ?_
  intro p e s m below meth c A ls hx hb hr hts hown hlocks hml hK hP hD hS hA hl
  replace hown : s.vm.findClass RX10 = some m.cls := hown
  have hC : CallFix p m c cX10_chanceNow 11 s _ wsX10_chanceNow RX10 := ⟨hx, hb, hml, hown, hts⟩
  replace hl : lv_has ls 11 [(0, .ref hm), (1, .int (iZ tt)), (2, .int (iZ t)), (3, .int (iZ v)), (4, .int (iZ x))] := hl
  refine lv_lconst (v := lZ 0) hx hb dX10_chanceNow_0 rfl ?_
  refine lv_lstore (lv' := [(5, .long (lZ 0)), (0, .ref hm), (1, .int (iZ tt)), (2, .int (iZ t)), (3, .int (iZ v)), (4, .int (iZ x))]) hx hb dX10_chanceNow_1 hl (by decide) rfl (fun ls hl => ?_)
  refine lv_lconst (v := lZ 1) hx hb dX10_chanceNow_3 rfl ?_
  refine lv_lstore (lv' := [(7, .long (lZ 1)), (5, .long (lZ 0)), (0, .ref hm), (1, .int (iZ tt)), (2, .int (iZ t)), (3, .int (iZ v)), (4, .int (iZ x))]) hx hb dX10_chanceNow_4 hl (by decide) rfl (fun ls hl => ?_)
  refine lv_iload_n hx hb dX10_chanceNow_6 rfl (lv_at hl 5 rfl) ?_
  refine lv_istore (lv' := [(9, .int (iZ v)), (7, .long (lZ 1)), (5, .long (lZ 0)), (0, .ref hm), (1, .int (iZ tt)), (2, .int (iZ t)), (3, .int (iZ v)), (4, .int (iZ x))]) hx hb dX10_chanceNow_7 hl (by decide) rfl (fun ls hl => ?_)
  refine lv_iconst (v := iZ 0) hx hb dX10_chanceNow_9 (by decide) ?_
  refine lv_istore (lv' := [(10, .int (iZ 0)), (9, .int (iZ v)), (7, .long (lZ 1)), (5, .long (lZ 0)), (0, .ref hm), (1, .int (iZ tt)), (2, .int (iZ t)), (3, .int (iZ v)), (4, .int (iZ x))]) hx hb dX10_chanceNow_10 hl (by decide) rfl (fun ls hl => ?_)
  have lp12 : ∀ fuel : Nat, ∀ (k q w u : Int), (0 ≤ k ∧ k ≤ tt + 1) → (q = sumW (gro so mu st.toNat) (wys t tt.toNat) v x k.toNat) → (k ≤ tt → w = bwr tt k.toNat) → (u = itr (gro so mu st.toNat) k.toNat v) → (0 ≤ u ∧ u ≤ 9999) → (tt + 1 - k) < (fuel : Int) → ∀ (H : Heap) (locs : List Loc) (ls : Array Slot), va_P D vwCl [(hm, ob 10 (mo a st lw tl wk pe ch pl fa iw nm qe sd ik kp hh)), ((a 1), aI cI 4 so), ((a 2), aI cI 4 mu)] H → va_D A [(hm, ob 10 (mo a st lw tl wk pe ch pl fa iw nm qe sd ik kp hh)), ((a 1), aI cI 4 so), ((a 2), aI cI 4 mu)] → va_S A s.heap H locs → lv_has ls 11 [(0, .ref hm), (1, .int (iZ tt)), (2, .int (iZ t)), (3, .int (iZ v)), (4, .int (iZ x)), (5, .long (lZ q)), (7, .long (lZ w)), (9, .int (iZ u)), (10, .int (iZ k))] → W p l e (zRm 2 45) s m [.ref hm, .int (iZ tt), .int (iZ t), .int (iZ v), .int (iZ x)].toArray below meth c H locs 0 0 (MQ below (zQl D [(hm, ob 10 (mo a st lw tl wk pe ch pl fa iw nm qe sd ik kp hh)), ((a 1), aI cI 4 so), ((a 2), aI cI 4 mu)] A (fun (z : Int) (w : va_W) => sumW (gro so mu st.toNat) (wys t tt.toNat) v x (tt + 1).toNat = z ∧ w = [(hm, ob 10 (mo a st lw tl wk pe ch pl fa iw nm qe sd ik kp hh)), ((a 1), aI cI 4 so), ((a 2), aI cI 4 mu)])) [.ref hm, .int (iZ tt), .int (iZ t), .int (iZ v), .int (iZ x)].toArray s 0 0 A) (F0 m 12 ls []) := by
    intro fuel
    induction fuel with
    | zero => intro k q w u hk hq hw hu hur hmu12; exact absurd hmu12 (by omega)
    | succ fuel ih12 =>
      intro k q w u hk hq hw hu hur hmu12 H locs ls hP hD hS hl
      refine lv_iload hx hb dX10_chanceNow_12 (lv_at hl 8 rfl) ?_
      refine lv_iload_n hx hb dX10_chanceNow_14 rfl (lv_at hl 1 rfl) ?_
      refine z_icmp_gt (tgt := 85) hx hb dX10_chanceNow_15 (by decide) (by first | assumption | omega) (by first | assumption | omega) (fun c_15 => ?_) (fun c_15 => ?_)
      · refine lv_lload hx hb dX10_chanceNow_85 (lv_at hl 5 rfl) ?_
        exact z_lret hx hb hr hlocks hP hD hS dX10_chanceNow_87 rfl (by refine ⟨?_, rfl⟩; rw [hq, show k = tt + 1 from by omega])
      · have hw9 := hw (by omega)
        have hwr := bwr_rng (n := tt) (k := k) (by omega) (by omega)
        rw [← hw9] at hwr
        have hml := mul_in hwr (show 0 ≤ tt - k ∧ tt - k ≤ 9 by omega)
        refine lv_lload hx hb dX10_chanceNow_18 (lv_at hl 5 rfl) ?_
        refine lv_iload hx hb dX10_chanceNow_20 (lv_at hl 7 rfl) ?_
        refine lv_iload hx hb dX10_chanceNow_22 (lv_at hl 4 rfl) ?_
        refine z_icmp_ne (tgt := 51) hx hb dX10_chanceNow_24 (by decide) (by first | assumption | omega) (by first | assumption | omega) (fun c_24 => ?_) (fun c_24 => ?_)
        · refine lv_lconst (v := lZ 0) hx hb dX10_chanceNow_51 rfl ?_
          refine z_ladd hx hb dX10_chanceNow_52 ?_
          refine lv_lstore (lv' := [(5, .long (lZ (q + 0))), (0, .ref hm), (1, .int (iZ tt)), (2, .int (iZ t)), (3, .int (iZ v)), (4, .int (iZ x)), (7, .long (lZ w)), (9, .int (iZ u)), (10, .int (iZ k))]) hx hb dX10_chanceNow_53 hl (by decide) rfl (fun ls hl => ?_)
          refine lv_lload hx hb dX10_chanceNow_55 (lv_at hl 6 rfl) ?_
          refine lv_iload_n hx hb dX10_chanceNow_57 rfl (lv_at hl 2 rfl) ?_
          refine lv_iload hx hb dX10_chanceNow_58 (lv_at hl 8 rfl) ?_
          refine z_isub hx hb dX10_chanceNow_60 ?_
          refine z_i2l hx hb (by first | assumption | omega) dX10_chanceNow_61 ?_
          refine z_lmul hx hb dX10_chanceNow_62 ?_
          refine lv_iload hx hb dX10_chanceNow_63 (lv_at hl 8 rfl) ?_
          refine lv_iconst (v := iZ 1) hx hb dX10_chanceNow_65 (by decide) ?_
          refine z_iadd hx hb dX10_chanceNow_66 ?_
          refine z_i2l hx hb (by first | assumption | omega) dX10_chanceNow_67 ?_
          refine z_ldiv hx hb dX10_chanceNow_68 (by first | assumption | omega) (by first | assumption | omega) ?_
          refine lv_lstore (lv' := [(7, .long (lZ ((w * (tt - k)) / (k + 1)))), (5, .long (lZ (q + 0))), (0, .ref hm), (1, .int (iZ tt)), (2, .int (iZ t)), (3, .int (iZ v)), (4, .int (iZ x)), (9, .int (iZ u)), (10, .int (iZ k))]) hx hb dX10_chanceNow_69 hl (by decide) rfl (fun ls hl => ?_)
          refine lv_aload_n hx hb dX10_chanceNow_71 rfl (lv_at hl 2 rfl) ?_
          refine lv_iload hx hb dX10_chanceNow_72 (lv_at hl 7 rfl) ?_
          refine z_Vi (As := [.int (iZ u)]) (rest := []) hC (c_X10_grownBy l D cI cJ cB hm a st lw tl wk pe ch pl fa iw nm qe sd ik kp hh so mu u (by first | assumption | omega) (by first | assumption | omega) (by first | assumption | omega)) 1 gX10_chanceNow_X10_grownBy rfl rfl rfl ⟨rfl, qX10_grownBy⟩ ⟨Nat.le_of_ble_eq_true rfl, Nat.le_of_ble_eq_true rfl⟩ ⟨Nat.le_refl _, Nat.le_refl _⟩ hK hP hD hS hA [0, 1, 2] rfl (by decide) 0 rfl rfl rfl hl.1 rfl (Nat.le_of_ble_eq_true rfl) dX10_chanceNow_74 (fun z w H locs hq hP hD hS => ?_)
          rcases hq with ⟨rfl, rfl, hgr1⟩
          replace hP : va_P D vwCl [(hm, ob 10 (mo a st lw tl wk pe ch pl fa iw nm qe sd ik kp hh)), ((a 1), aI cI 4 so), ((a 2), aI cI 4 mu)] H := hP
          replace hD : va_D A [(hm, ob 10 (mo a st lw tl wk pe ch pl fa iw nm qe sd ik kp hh)), ((a 1), aI cI 4 so), ((a 2), aI cI 4 mu)] := hD
          refine lv_istore (lv' := [(9, .int (iZ (gro so mu st.toNat u))), (7, .long (lZ ((w * (tt - k)) / (k + 1)))), (5, .long (lZ (q + 0))), (0, .ref hm), (1, .int (iZ tt)), (2, .int (iZ t)), (3, .int (iZ v)), (4, .int (iZ x)), (10, .int (iZ k))]) hx hb dX10_chanceNow_77 hl (by decide) rfl (fun ls hl => ?_)
          refine z_iinc (lv' := [(10, .int (iZ (k + 1))), (9, .int (iZ (gro so mu st.toNat u))), (7, .long (lZ ((w * (tt - k)) / (k + 1)))), (5, .long (lZ (q + 0))), (0, .ref hm), (1, .int (iZ tt)), (2, .int (iZ t)), (3, .int (iZ v)), (4, .int (iZ x))]) hx hb dX10_chanceNow_79 hl (k := 8) rfl (by decide) rfl (fun ls hl => ?_)
          refine lv_goto (tgt := 12) hx hb dX10_chanceNow_82 (by decide) ?_
          exact ih12 (k + 1) (q + 0) ((w * (tt - k)) / (k + 1)) (gro so mu st.toNat u) (by first | assumption | omega) (by rw [sumW_s (by omega), ← hu, ← hq]; first | (rw [if_pos (by assumption), wys_bw (by omega) ht (by omega), ← hw9]; done) | (rw [if_neg (by assumption)]; done)) (by intro _; rw [bwr_s (by omega), ← hw9]) (by rw [itr_s (by omega), ← hu]) (by first | assumption | omega) (by omega) _ _ _ hP hD hS (lv_sub hl [4, 5, 6, 7, 8, 3, 2, 1, 0] rfl)
        · refine lv_lload hx hb dX10_chanceNow_27 (lv_at hl 6 rfl) ?_
          refine lv_bipush (v := iZ 10) hx hb dX10_chanceNow_29 (by decide) ?_
          refine lv_iload_n hx hb dX10_chanceNow_31 rfl (lv_at hl 2 rfl) ?_
          refine z_isub hx hb dX10_chanceNow_32 ?_
          refine lv_iload hx hb dX10_chanceNow_33 (lv_at hl 8 rfl) ?_
          refine z_Sl (As := [.int (iZ (10 - t)), .int (iZ k)]) (rest := [.long (lZ w), .long (lZ q)]) hC (c_X10_power l D cI cJ cB (10 - t) k (by first | assumption | omega) (by first | assumption | omega)) 2 gX10_chanceNow_X10_power rfl rfl rfl qX10_power ⟨Nat.le_of_ble_eq_true rfl, Nat.le_of_ble_eq_true rfl⟩ ⟨Nat.le_refl _, Nat.le_refl _⟩ hK hP hD hS hA [] rfl (by decide) rfl hl.1 rfl (Nat.le_of_ble_eq_true rfl) dX10_chanceNow_35 (fun z w H locs hq hP hD hS => ?_)
          rcases hq with ⟨rfl, rfl⟩
          replace hP : va_P D vwCl [(hm, ob 10 (mo a st lw tl wk pe ch pl fa iw nm qe sd ik kp hh)), ((a 1), aI cI 4 so), ((a 2), aI cI 4 mu)] H := hP
          replace hD : va_D A [(hm, ob 10 (mo a st lw tl wk pe ch pl fa iw nm qe sd ik kp hh)), ((a 1), aI cI 4 so), ((a 2), aI cI 4 mu)] := hD
          refine z_lmul hx hb dX10_chanceNow_38 ?_
          refine lv_iload_n hx hb dX10_chanceNow_39 rfl (lv_at hl 2 rfl) ?_
          refine lv_iload_n hx hb dX10_chanceNow_40 rfl (lv_at hl 1 rfl) ?_
          refine lv_iload hx hb dX10_chanceNow_41 (lv_at hl 8 rfl) ?_
          refine z_isub hx hb dX10_chanceNow_43 ?_
          refine z_Sl (As := [.int (iZ t), .int (iZ (tt - k))]) (rest := [.long (lZ (w * (pwr (10 - t) k.toNat))), .long (lZ q)]) hC (c_X10_power l D cI cJ cB t (tt - k) (by first | assumption | omega) (by first | assumption | omega)) 2 gX10_chanceNow_X10_power rfl rfl rfl qX10_power ⟨Nat.le_of_ble_eq_true rfl, Nat.le_of_ble_eq_true rfl⟩ ⟨Nat.le_refl _, Nat.le_refl _⟩ hK hP hD hS hA [] rfl (by decide) rfl hl.1 rfl (Nat.le_of_ble_eq_true rfl) dX10_chanceNow_44 (fun z w H locs hq hP hD hS => ?_)
          rcases hq with ⟨rfl, rfl⟩
          replace hP : va_P D vwCl [(hm, ob 10 (mo a st lw tl wk pe ch pl fa iw nm qe sd ik kp hh)), ((a 1), aI cI 4 so), ((a 2), aI cI 4 mu)] H := hP
          replace hD : va_D A [(hm, ob 10 (mo a st lw tl wk pe ch pl fa iw nm qe sd ik kp hh)), ((a 1), aI cI 4 so), ((a 2), aI cI 4 mu)] := hD
          refine z_lmul hx hb dX10_chanceNow_47 ?_
          refine lv_goto (tgt := 52) hx hb dX10_chanceNow_48 (by decide) ?_
          refine z_ladd hx hb dX10_chanceNow_52 ?_
          refine lv_lstore (lv' := [(5, .long (lZ (q + ((w * (pwr (10 - t) k.toNat)) * (pwr t (tt - k).toNat))))), (0, .ref hm), (1, .int (iZ tt)), (2, .int (iZ t)), (3, .int (iZ v)), (4, .int (iZ x)), (7, .long (lZ w)), (9, .int (iZ u)), (10, .int (iZ k))]) hx hb dX10_chanceNow_53 hl (by decide) rfl (fun ls hl => ?_)
          refine lv_lload hx hb dX10_chanceNow_55 (lv_at hl 6 rfl) ?_
          refine lv_iload_n hx hb dX10_chanceNow_57 rfl (lv_at hl 2 rfl) ?_
          refine lv_iload hx hb dX10_chanceNow_58 (lv_at hl 8 rfl) ?_
          refine z_isub hx hb dX10_chanceNow_60 ?_
          refine z_i2l hx hb (by first | assumption | omega) dX10_chanceNow_61 ?_
          refine z_lmul hx hb dX10_chanceNow_62 ?_
          refine lv_iload hx hb dX10_chanceNow_63 (lv_at hl 8 rfl) ?_
          refine lv_iconst (v := iZ 1) hx hb dX10_chanceNow_65 (by decide) ?_
          refine z_iadd hx hb dX10_chanceNow_66 ?_
          refine z_i2l hx hb (by first | assumption | omega) dX10_chanceNow_67 ?_
          refine z_ldiv hx hb dX10_chanceNow_68 (by first | assumption | omega) (by first | assumption | omega) ?_
          refine lv_lstore (lv' := [(7, .long (lZ ((w * (tt - k)) / (k + 1)))), (5, .long (lZ (q + ((w * (pwr (10 - t) k.toNat)) * (pwr t (tt - k).toNat))))), (0, .ref hm), (1, .int (iZ tt)), (2, .int (iZ t)), (3, .int (iZ v)), (4, .int (iZ x)), (9, .int (iZ u)), (10, .int (iZ k))]) hx hb dX10_chanceNow_69 hl (by decide) rfl (fun ls hl => ?_)
          refine lv_aload_n hx hb dX10_chanceNow_71 rfl (lv_at hl 2 rfl) ?_
          refine lv_iload hx hb dX10_chanceNow_72 (lv_at hl 7 rfl) ?_
          refine z_Vi (As := [.int (iZ u)]) (rest := []) hC (c_X10_grownBy l D cI cJ cB hm a st lw tl wk pe ch pl fa iw nm qe sd ik kp hh so mu u (by first | assumption | omega) (by first | assumption | omega) (by first | assumption | omega)) 1 gX10_chanceNow_X10_grownBy rfl rfl rfl ⟨rfl, qX10_grownBy⟩ ⟨Nat.le_of_ble_eq_true rfl, Nat.le_of_ble_eq_true rfl⟩ ⟨Nat.le_refl _, Nat.le_refl _⟩ hK hP hD hS hA [0, 1, 2] rfl (by decide) 0 rfl rfl rfl hl.1 rfl (Nat.le_of_ble_eq_true rfl) dX10_chanceNow_74 (fun z w H locs hq hP hD hS => ?_)
          rcases hq with ⟨rfl, rfl, hgr4⟩
          replace hP : va_P D vwCl [(hm, ob 10 (mo a st lw tl wk pe ch pl fa iw nm qe sd ik kp hh)), ((a 1), aI cI 4 so), ((a 2), aI cI 4 mu)] H := hP
          replace hD : va_D A [(hm, ob 10 (mo a st lw tl wk pe ch pl fa iw nm qe sd ik kp hh)), ((a 1), aI cI 4 so), ((a 2), aI cI 4 mu)] := hD
          refine lv_istore (lv' := [(9, .int (iZ (gro so mu st.toNat u))), (7, .long (lZ ((w * (tt - k)) / (k + 1)))), (5, .long (lZ (q + ((w * (pwr (10 - t) k.toNat)) * (pwr t (tt - k).toNat))))), (0, .ref hm), (1, .int (iZ tt)), (2, .int (iZ t)), (3, .int (iZ v)), (4, .int (iZ x)), (10, .int (iZ k))]) hx hb dX10_chanceNow_77 hl (by decide) rfl (fun ls hl => ?_)
          refine z_iinc (lv' := [(10, .int (iZ (k + 1))), (9, .int (iZ (gro so mu st.toNat u))), (7, .long (lZ ((w * (tt - k)) / (k + 1)))), (5, .long (lZ (q + ((w * (pwr (10 - t) k.toNat)) * (pwr t (tt - k).toNat))))), (0, .ref hm), (1, .int (iZ tt)), (2, .int (iZ t)), (3, .int (iZ v)), (4, .int (iZ x))]) hx hb dX10_chanceNow_79 hl (k := 8) rfl (by decide) rfl (fun ls hl => ?_)
          refine lv_goto (tgt := 12) hx hb dX10_chanceNow_82 (by decide) ?_
          exact ih12 (k + 1) (q + ((w * (pwr (10 - t) k.toNat)) * (pwr t (tt - k).toNat))) ((w * (tt - k)) / (k + 1)) (gro so mu st.toNat u) (by first | assumption | omega) (by rw [sumW_s (by omega), ← hu, ← hq]; first | (rw [if_pos (by assumption), wys_bw (by omega) ht (by omega), ← hw9]; done) | (rw [if_neg (by assumption)]; done)) (by intro _; rw [bwr_s (by omega), ← hw9]) (by rw [itr_s (by omega), ← hu]) (by first | assumption | omega) (by omega) _ _ _ hP hD hS (lv_sub hl [4, 5, 6, 7, 8, 3, 2, 1, 0] rfl)
  exact lp12 ((tt + 1 - 0 : Int) + 1).toNat 0 0 1 v (by first | assumption | omega) (by rfl) (by intro _; rfl) (by rfl) (by first | assumption | omega) (by omega) _ _ _ hP hD hS (lv_sub hl [4, 5, 6, 7, 8, 3, 2, 1, 0] rfl)
theorem qX10_lowest : yX10_lowest.cls ≠ "java/lang/invoke/MethodHandle" ∧ yX10_lowest.cls ≠ "java/lang/invoke/VarHandle" ∧ (parseMethodDescriptor yX10_lowest.desc).map (fun d => d.parameters.length) = some 3 := by decide +kernel
set_option maxHeartbeats 4000000 in
set_option maxRecDepth 100000 in
theorem c_X10_lowest (l : Launch) (D : va_G) (cI cJ cB : ClassId) (ab bl y : Int) (hab : 0 ≤ ab ∧ ab < 4611686018427387904) (hbl : 0 < bl ∧ bl < 4611686018427387904) (hy : 0 ≤ y ∧ y ≤ 1) : zMl l yX10_lowest wsX10_lowest (zRm 0 0) D (zT cI cJ cB) [.long (lZ ab), .long (lZ bl), .int (iZ y)] [] (fun (z : Int) (w : va_W) => (ab / gdz bl ab = z ∧ w = [] ∧ y = 0) ∨ (bl / gdz bl ab = z ∧ w = [] ∧ y = 1)) := by
  refine z_of (Qc := fun A => zQl D [] A _) (cc := cX10_lowest) (maxL := 11) (ret := (some .long)) (by decide) rfl (Nat.le_of_ble_eq_true rfl) ?_
  intro p e s m below meth c A ls hx hb hr hts hown hlocks hml hK hP hD hS hA hl
  replace hown : s.vm.findClass RX10 = some m.cls := hown
  have hC : CallFix p m c cX10_lowest 11 s _ wsX10_lowest RX10 := ⟨hx, hb, hml, hown, hts⟩
  replace hl : lv_has ls 11 [(0, .long (lZ ab)), (2, .long (lZ bl)), (4, .int (iZ y))] := hl
  refine lv_lload_n hx hb dX10_lowest_0 rfl (lv_at hl 0 rfl) ?_
  refine lv_lstore (lv' := [(5, .long (lZ ab)), (0, .long (lZ ab)), (2, .long (lZ bl)), (4, .int (iZ y))]) hx hb dX10_lowest_1 hl (by decide) rfl (fun ls hl => ?_)
  refine lv_lload_n hx hb dX10_lowest_3 rfl (lv_at hl 2 rfl) ?_
  refine lv_lstore (lv' := [(7, .long (lZ bl)), (5, .long (lZ ab)), (0, .long (lZ ab)), (2, .long (lZ bl)), (4, .int (iZ y))]) hx hb dX10_lowest_4 hl (by decide) rfl (fun ls hl => ?_)
  have lp6 : ∀ fuel : Nat, ∀ (a1 b1 : Int), (gdz a1 b1 = gdz bl ab) → (0 ≤ a1 ∧ a1 < 4611686018427387904 ∧ 0 ≤ b1 ∧ b1 < 4611686018427387904) → (b1) < (fuel : Int) → ∀ (H : Heap) (locs : List Loc) (ls : Array Slot), va_P D vwCl [] H → va_D A [] → va_S A s.heap H locs → lv_has ls 11 [(0, .long (lZ ab)), (2, .long (lZ bl)), (4, .int (iZ y)), (5, .long (lZ a1)), (7, .long (lZ b1))] → W p l e (zRm 0 0) s m [.long (lZ ab), .long (lZ bl), .int (iZ y)].toArray below meth c H locs 0 0 (MQ below (zQl D [] A (fun (z : Int) (w : va_W) => (ab / gdz bl ab = z ∧ w = [] ∧ y = 0) ∨ (bl / gdz bl ab = z ∧ w = [] ∧ y = 1))) [.long (lZ ab), .long (lZ bl), .int (iZ y)].toArray s 0 0 A) (F0 m 6 ls []) := by
    intro fuel
    induction fuel with
    | zero => intro a1 b1 hgd ha1 hmu6; exact absurd hmu6 (by omega)
    | succ fuel ih6 =>
      intro a1 b1 hgd ha1 hmu6 H locs ls hP hD hS hl
      refine lv_lload hx hb dX10_lowest_6 (lv_at hl 4 rfl) ?_
      refine lv_lconst (v := lZ 0) hx hb dX10_lowest_8 rfl ?_
      refine z_lcmp hx hb (by first | assumption | omega) (by first | assumption | omega) dX10_lowest_9 (fun r_1 hr_2 => ?_)
      refine z_if_eq (tgt := 31) hx hb dX10_lowest_10 (by decide) (by first | assumption | omega) (fun c_10 => ?_) (fun c_10 => ?_)
      · have hz0 : b1 = 0 := (by omega)
        rw [hz0, gdz_0 (by omega)] at hgd
        have hgp := gdz_pos (b := ab) hbl.1
        refine lv_iload hx hb dX10_lowest_31 (lv_at hl 2 rfl) ?_
        refine z_if_ne (tgt := 43) hx hb dX10_lowest_33 (by decide) (by first | assumption | omega) (fun c_33 => ?_) (fun c_33 => ?_)
        · refine lv_lload_n hx hb dX10_lowest_43 rfl (lv_at hl 1 rfl) ?_
          refine lv_lload hx hb dX10_lowest_44 (lv_at hl 3 rfl) ?_
          refine z_ldiv hx hb dX10_lowest_46 (by first | assumption | omega) (by first | assumption | omega) ?_
          exact z_lret hx hb hr hlocks hP hD hS dX10_lowest_47 rfl (by first | exact Or.inl ⟨(by rw [hgd]; done), rfl, by omega⟩ | exact Or.inr ⟨(by rw [hgd]; done), rfl, by omega⟩)
        · refine lv_lload_n hx hb dX10_lowest_36 rfl (lv_at hl 0 rfl) ?_
          refine lv_lload hx hb dX10_lowest_37 (lv_at hl 3 rfl) ?_
          refine z_ldiv hx hb dX10_lowest_39 (by first | assumption | omega) (by first | assumption | omega) ?_
          refine lv_goto (tgt := 47) hx hb dX10_lowest_40 (by decide) ?_
          exact z_lret hx hb hr hlocks hP hD hS dX10_lowest_47 rfl (by first | exact Or.inl ⟨(by rw [hgd]; done), rfl, by omega⟩ | exact Or.inr ⟨(by rw [hgd]; done), rfl, by omega⟩)
      · refine lv_lload hx hb dX10_lowest_13 (lv_at hl 3 rfl) ?_
        have e1 := Int.emod_nonneg a1 (by omega : b1 ≠ 0)
        have e2 := Int.emod_lt_of_pos a1 (by omega : 0 < b1)
        refine lv_lload hx hb dX10_lowest_15 (lv_at hl 4 rfl) ?_
        refine z_lrem hx hb dX10_lowest_17 (by first | assumption | omega) (by first | assumption | omega) ?_
        refine lv_lstore (lv' := [(9, .long (lZ (a1 % b1))), (0, .long (lZ ab)), (2, .long (lZ bl)), (4, .int (iZ y)), (5, .long (lZ a1)), (7, .long (lZ b1))]) hx hb dX10_lowest_18 hl (by decide) rfl (fun ls hl => ?_)
        refine lv_lload hx hb dX10_lowest_20 (lv_at hl 5 rfl) ?_
        refine lv_lstore (lv' := [(5, .long (lZ b1)), (9, .long (lZ (a1 % b1))), (0, .long (lZ ab)), (2, .long (lZ bl)), (4, .int (iZ y)), (7, .long (lZ b1))]) hx hb dX10_lowest_22 hl (by decide) rfl (fun ls hl => ?_)
        refine lv_lload hx hb dX10_lowest_24 (lv_at hl 1 rfl) ?_
        refine lv_lstore (lv' := [(7, .long (lZ (a1 % b1))), (5, .long (lZ b1)), (9, .long (lZ (a1 % b1))), (0, .long (lZ ab)), (2, .long (lZ bl)), (4, .int (iZ y))]) hx hb dX10_lowest_26 hl (by decide) rfl (fun ls hl => ?_)
        refine lv_goto (tgt := 6) hx hb dX10_lowest_28 (by decide) ?_
        exact ih6 b1 (a1 % b1) (by rw [gdz_s (by omega) (by omega)]; exact hgd) (by have e1 := Int.emod_nonneg a1 (by omega : b1 ≠ 0); have e2 := Int.emod_lt_of_pos a1 (by omega : 0 < b1); omega) (by omega) _ _ _ hP hD hS (lv_sub hl [3, 4, 5, 1, 0] rfl)
  exact lp6 ((bl : Int) + 1).toNat ab bl (by exact gdz_c _ _) (by omega) (by omega) _ _ _ hP hD hS (lv_sub hl [2, 3, 4, 1, 0] rfl)
theorem qX10_chance : yX10_chance.cls ≠ "java/lang/invoke/MethodHandle" ∧ yX10_chance.cls ≠ "java/lang/invoke/VarHandle" ∧ (parseMethodDescriptor yX10_chance.desc).map (fun d => d.parameters.length) = some 5 := by decide +kernel
set_option maxHeartbeats 4000000 in
set_option maxRecDepth 100000 in
theorem c_X10_chance (l : Launch) (D : va_G) (cI cJ cB : ClassId) (hm : Nat) (a : Nat → Nat) (st lw tl wk pe ch pl fa iw nm qe sd ik kp hh : Int) (so mu : Int → Int) (tt t v x y : Int) (hsu : ∀ j, (0 ≤ so j ∧ so j ≤ 4) ∧ (0 ≤ mu j ∧ mu j ≤ 9) ∧ (so j = 4 → 2 ≤ mu j)) (hst : 1 ≤ st ∧ st ≤ 4) (htt : -2147483648 ≤ tt ∧ tt < 2147483648) (ht : -2147483648 ≤ t ∧ t < 2147483648) (hv : -2147483648 ≤ v ∧ v < 2147483648) (hx : -2147483648 ≤ x ∧ x < 2147483648) (hy : -2147483648 ≤ y ∧ y < 2147483648) : zMl l yX10_chance wsX10_chance (zRm 3 75) D (zT cI cJ cB) [.ref hm, .int (iZ tt), .int (iZ t), .int (iZ v), .int (iZ x), .int (iZ y)] [(hm, ob 10 (mo a st lw tl wk pe ch pl fa iw nm qe sd ik kp hh)), ((a 1), aI cI 4 so), ((a 2), aI cI 4 mu)] (fun (z : Int) (w : va_W) => ((-102) = z ∧ w = [(hm, ob 10 (mo a st lw tl wk pe ch pl fa iw nm qe sd ik kp hh)), ((a 1), aI cI 4 so), ((a 2), aI cI 4 mu)] ∧ (¬ (1 ≤ tt ∧ tt ≤ 9 ∧ 0 ≤ t ∧ t ≤ 10 ∧ 0 ≤ v ∧ v ≤ 9999 ∧ 0 ≤ x ∧ x ≤ 9999 ∧ 0 ≤ y ∧ y ≤ 1))) ∨ ((sumW (gro so mu st.toNat) (wys t tt.toNat) v x (tt + 1).toNat) / gdz (pwr 10 tt.toNat) (sumW (gro so mu st.toNat) (wys t tt.toNat) v x (tt + 1).toNat) = z ∧ w = [(hm, ob 10 (mo a st lw tl wk pe ch pl fa iw nm qe sd ik kp hh)), ((a 1), aI cI 4 so), ((a 2), aI cI 4 mu)] ∧ (1 ≤ tt ∧ tt ≤ 9 ∧ 0 ≤ t ∧ t ≤ 10 ∧ 0 ≤ v ∧ v ≤ 9999 ∧ 0 ≤ x ∧ x ≤ 9999 ∧ 0 ≤ y ∧ y ≤ 1) ∧ y = 0) ∨ ((pwr 10 tt.toNat) / gdz (pwr 10 tt.toNat) (sumW (gro so mu st.toNat) (wys t tt.toNat) v x (tt + 1).toNat) = z ∧ w = [(hm, ob 10 (mo a st lw tl wk pe ch pl fa iw nm qe sd ik kp hh)), ((a 1), aI cI 4 so), ((a 2), aI cI 4 mu)] ∧ (1 ≤ tt ∧ tt ≤ 9 ∧ 0 ≤ t ∧ t ≤ 10 ∧ 0 ≤ v ∧ v ≤ 9999 ∧ 0 ≤ x ∧ x ≤ 9999 ∧ 0 ≤ y ∧ y ≤ 1) ∧ y = 1)) := by
  refine z_of (Qc := fun A => zQl D [(hm, ob 10 (mo a st lw tl wk pe ch pl fa iw nm qe sd ik kp hh)), ((a 1), aI cI 4 so), ((a 2), aI cI 4 mu)] A _) (cc := cX10_chance) (maxL := 6) (ret := (some .long)) (by decide) rfl (Nat.le_of_ble_eq_true rfl) ?_
  intro p e s m below meth c A ls hx hb hr hts hown hlocks hml hK hP hD hS hA hl
  replace hown : s.vm.findClass RX10 = some m.cls := hown
  have hC : CallFix p m c cX10_chance 6 s _ wsX10_chance RX10 := ⟨hx, hb, hml, hown, hts⟩
  replace hl : lv_has ls 6 [(0, .ref hm), (1, .int (iZ tt)), (2, .int (iZ t)), (3, .int (iZ v)), (4, .int (iZ x)), (5, .int (iZ y))] := hl
  refine lv_iload_n hx hb dX10_chance_0 rfl (lv_at hl 1 rfl) ?_
  refine lv_iconst (v := iZ 1) hx hb dX10_chance_1 (by decide) ?_
  refine lv_bipush (v := iZ 9) hx hb dX10_chance_2 (by decide) ?_
  refine z_Si (As := [.int (iZ tt), .int (iZ 1), .int (iZ 9)]) (rest := []) hC (c_X10_within l D cI cJ cB tt 1 9 (by first | assumption | omega) (by first | assumption | omega) (by first | assumption | omega)) 3 gX10_chance_X10_within rfl rfl rfl qX10_within ⟨Nat.le_of_ble_eq_true rfl, Nat.le_of_ble_eq_true rfl⟩ ⟨Nat.le_refl _, Nat.le_refl _⟩ hK hP hD hS hA [] rfl (by decide) rfl hl.1 rfl (Nat.le_of_ble_eq_true rfl) dX10_chance_4 (fun z w H locs hq hP hD hS => ?_)
  rcases hq with ⟨rfl, rfl, hc1_0⟩ | ⟨rfl, rfl, hc1_0⟩
  · replace hP : va_P D vwCl [(hm, ob 10 (mo a st lw tl wk pe ch pl fa iw nm qe sd ik kp hh)), ((a 1), aI cI 4 so), ((a 2), aI cI 4 mu)] H := hP
    replace hD : va_D A [(hm, ob 10 (mo a st lw tl wk pe ch pl fa iw nm qe sd ik kp hh)), ((a 1), aI cI 4 so), ((a 2), aI cI 4 mu)] := hD
    refine z_if_eq (tgt := 45) hx hb dX10_chance_7 (by decide) (by first | assumption | omega) (fun h => absurd h (by decide)) (fun _ => ?_)
    refine lv_iload_n hx hb dX10_chance_10 rfl (lv_at hl 2 rfl) ?_
    refine lv_iconst (v := iZ 0) hx hb dX10_chance_11 (by decide) ?_
    refine lv_bipush (v := iZ 10) hx hb dX10_chance_12 (by decide) ?_
    refine z_Si (As := [.int (iZ t), .int (iZ 0), .int (iZ 10)]) (rest := []) hC (c_X10_within l D cI cJ cB t 0 10 (by first | assumption | omega) (by first | assumption | omega) (by first | assumption | omega)) 3 gX10_chance_X10_within rfl rfl rfl qX10_within ⟨Nat.le_of_ble_eq_true rfl, Nat.le_of_ble_eq_true rfl⟩ ⟨Nat.le_refl _, Nat.le_refl _⟩ hK hP hD hS hA [] rfl (by decide) rfl hl.1 rfl (Nat.le_of_ble_eq_true rfl) dX10_chance_14 (fun z w H locs hq hP hD hS => ?_)
    rcases hq with ⟨rfl, rfl, hc2_0⟩ | ⟨rfl, rfl, hc2_0⟩
    · replace hP : va_P D vwCl [(hm, ob 10 (mo a st lw tl wk pe ch pl fa iw nm qe sd ik kp hh)), ((a 1), aI cI 4 so), ((a 2), aI cI 4 mu)] H := hP
      replace hD : va_D A [(hm, ob 10 (mo a st lw tl wk pe ch pl fa iw nm qe sd ik kp hh)), ((a 1), aI cI 4 so), ((a 2), aI cI 4 mu)] := hD
      refine z_if_eq (tgt := 45) hx hb dX10_chance_17 (by decide) (by first | assumption | omega) (fun h => absurd h (by decide)) (fun _ => ?_)
      refine lv_iload_n hx hb dX10_chance_20 rfl (lv_at hl 3 rfl) ?_
      refine z_Si (As := [.int (iZ v)]) (rest := []) hC (c_X10_isSize l D cI cJ cB v (by first | assumption | omega)) 1 gX10_chance_X10_isSize rfl rfl rfl qX10_isSize ⟨Nat.le_of_ble_eq_true rfl, Nat.le_of_ble_eq_true rfl⟩ ⟨Nat.le_refl _, Nat.le_refl _⟩ hK hP hD hS hA [] rfl (by decide) rfl hl.1 rfl (Nat.le_of_ble_eq_true rfl) dX10_chance_21 (fun z w H locs hq hP hD hS => ?_)
      rcases hq with ⟨rfl, rfl, hc3_0⟩ | ⟨rfl, rfl, hc3_0⟩
      · replace hP : va_P D vwCl [(hm, ob 10 (mo a st lw tl wk pe ch pl fa iw nm qe sd ik kp hh)), ((a 1), aI cI 4 so), ((a 2), aI cI 4 mu)] H := hP
        replace hD : va_D A [(hm, ob 10 (mo a st lw tl wk pe ch pl fa iw nm qe sd ik kp hh)), ((a 1), aI cI 4 so), ((a 2), aI cI 4 mu)] := hD
        refine z_if_eq (tgt := 45) hx hb dX10_chance_24 (by decide) (by first | assumption | omega) (fun h => absurd h (by decide)) (fun _ => ?_)
        refine lv_iload hx hb dX10_chance_27 (lv_at hl 4 rfl) ?_
        refine z_Si (As := [.int (iZ x)]) (rest := []) hC (c_X10_isSize l D cI cJ cB x (by first | assumption | omega)) 1 gX10_chance_X10_isSize rfl rfl rfl qX10_isSize ⟨Nat.le_of_ble_eq_true rfl, Nat.le_of_ble_eq_true rfl⟩ ⟨Nat.le_refl _, Nat.le_refl _⟩ hK hP hD hS hA [] rfl (by decide) rfl hl.1 rfl (Nat.le_of_ble_eq_true rfl) dX10_chance_29 (fun z w H locs hq hP hD hS => ?_)
        rcases hq with ⟨rfl, rfl, hc4_0⟩ | ⟨rfl, rfl, hc4_0⟩
        · replace hP : va_P D vwCl [(hm, ob 10 (mo a st lw tl wk pe ch pl fa iw nm qe sd ik kp hh)), ((a 1), aI cI 4 so), ((a 2), aI cI 4 mu)] H := hP
          replace hD : va_D A [(hm, ob 10 (mo a st lw tl wk pe ch pl fa iw nm qe sd ik kp hh)), ((a 1), aI cI 4 so), ((a 2), aI cI 4 mu)] := hD
          refine z_if_eq (tgt := 45) hx hb dX10_chance_32 (by decide) (by first | assumption | omega) (fun h => absurd h (by decide)) (fun _ => ?_)
          refine lv_iload hx hb dX10_chance_35 (lv_at hl 5 rfl) ?_
          refine lv_iconst (v := iZ 0) hx hb dX10_chance_37 (by decide) ?_
          refine lv_iconst (v := iZ 1) hx hb dX10_chance_38 (by decide) ?_
          refine z_Si (As := [.int (iZ y), .int (iZ 0), .int (iZ 1)]) (rest := []) hC (c_X10_within l D cI cJ cB y 0 1 (by first | assumption | omega) (by first | assumption | omega) (by first | assumption | omega)) 3 gX10_chance_X10_within rfl rfl rfl qX10_within ⟨Nat.le_of_ble_eq_true rfl, Nat.le_of_ble_eq_true rfl⟩ ⟨Nat.le_refl _, Nat.le_refl _⟩ hK hP hD hS hA [] rfl (by decide) rfl hl.1 rfl (Nat.le_of_ble_eq_true rfl) dX10_chance_39 (fun z w H locs hq hP hD hS => ?_)
          rcases hq with ⟨rfl, rfl, hc5_0⟩ | ⟨rfl, rfl, hc5_0⟩
          · replace hP : va_P D vwCl [(hm, ob 10 (mo a st lw tl wk pe ch pl fa iw nm qe sd ik kp hh)), ((a 1), aI cI 4 so), ((a 2), aI cI 4 mu)] H := hP
            replace hD : va_D A [(hm, ob 10 (mo a st lw tl wk pe ch pl fa iw nm qe sd ik kp hh)), ((a 1), aI cI 4 so), ((a 2), aI cI 4 mu)] := hD
            refine z_if_ne (tgt := 49) hx hb dX10_chance_42 (by decide) (by first | assumption | omega) (fun _ => ?_) (fun h => absurd h (by decide))
            refine lv_aload_n hx hb dX10_chance_49 rfl (lv_at hl 0 rfl) ?_
            refine lv_iload_n hx hb dX10_chance_50 rfl (lv_at hl 1 rfl) ?_
            refine lv_iload_n hx hb dX10_chance_51 rfl (lv_at hl 2 rfl) ?_
            refine lv_iload_n hx hb dX10_chance_52 rfl (lv_at hl 3 rfl) ?_
            refine lv_iload hx hb dX10_chance_53 (lv_at hl 4 rfl) ?_
            refine z_Vl (As := [.int (iZ tt), .int (iZ t), .int (iZ v), .int (iZ x)]) (rest := []) hC (c_X10_chanceNow l D cI cJ cB hm a st lw tl wk pe ch pl fa iw nm qe sd ik kp hh so mu tt t v x (by first | assumption | omega) (by first | assumption | omega) (by first | assumption | omega) (by first | assumption | omega) (by first | assumption | omega) (by first | assumption | omega)) 4 gX10_chance_X10_chanceNow rfl rfl rfl ⟨rfl, qX10_chanceNow⟩ ⟨Nat.le_of_ble_eq_true rfl, Nat.le_of_ble_eq_true rfl⟩ ⟨Nat.le_refl _, Nat.le_refl _⟩ hK hP hD hS hA [0, 1, 2] rfl (by decide) 0 rfl rfl rfl hl.1 rfl (Nat.le_of_ble_eq_true rfl) dX10_chance_55 (fun z w H locs hq hP hD hS => ?_)
            rcases hq with ⟨rfl, rfl⟩
            replace hP : va_P D vwCl [(hm, ob 10 (mo a st lw tl wk pe ch pl fa iw nm qe sd ik kp hh)), ((a 1), aI cI 4 so), ((a 2), aI cI 4 mu)] H := hP
            replace hD : va_D A [(hm, ob 10 (mo a st lw tl wk pe ch pl fa iw nm qe sd ik kp hh)), ((a 1), aI cI 4 so), ((a 2), aI cI 4 mu)] := hD
            have hsw := sumW_in (G := gro so mu st.toNat) (v := v) (x := x) (t := t) (tl := tt) (by omega) (by omega)
            have hpw := pwr_rng ⟨tt.toNat, by omega⟩
            replace hpw : 1 ≤ pwr 10 tt.toNat ∧ pwr 10 tt.toNat ≤ 1000000000 := hpw
            refine lv_bipush (v := iZ 10) hx hb dX10_chance_58 (by decide) ?_
            refine lv_iload_n hx hb dX10_chance_60 rfl (lv_at hl 1 rfl) ?_
            refine z_Sl (As := [.int (iZ 10), .int (iZ tt)]) (rest := [.long (lZ (sumW (gro so mu st.toNat) (wys t tt.toNat) v x (tt + 1).toNat))]) hC (c_X10_power l D cI cJ cB 10 tt (by first | assumption | omega) (by first | assumption | omega)) 2 gX10_chance_X10_power rfl rfl rfl qX10_power ⟨Nat.le_of_ble_eq_true rfl, Nat.le_of_ble_eq_true rfl⟩ ⟨Nat.le_refl _, Nat.le_refl _⟩ hK hP hD hS hA [] rfl (by decide) rfl hl.1 rfl (Nat.le_of_ble_eq_true rfl) dX10_chance_61 (fun z w H locs hq hP hD hS => ?_)
            rcases hq with ⟨rfl, rfl⟩
            replace hP : va_P D vwCl [(hm, ob 10 (mo a st lw tl wk pe ch pl fa iw nm qe sd ik kp hh)), ((a 1), aI cI 4 so), ((a 2), aI cI 4 mu)] H := hP
            replace hD : va_D A [(hm, ob 10 (mo a st lw tl wk pe ch pl fa iw nm qe sd ik kp hh)), ((a 1), aI cI 4 so), ((a 2), aI cI 4 mu)] := hD
            refine lv_iload hx hb dX10_chance_64 (lv_at hl 5 rfl) ?_
            refine z_Sl (As := [.long (lZ (sumW (gro so mu st.toNat) (wys t tt.toNat) v x (tt + 1).toNat)), .long (lZ (pwr 10 tt.toNat)), .int (iZ y)]) (rest := []) hC (c_X10_lowest l D cI cJ cB (sumW (gro so mu st.toNat) (wys t tt.toNat) v x (tt + 1).toNat) (pwr 10 tt.toNat) y (by first | assumption | omega) (by first | assumption | omega) (by first | assumption | omega)) 3 gX10_chance_X10_lowest rfl rfl rfl qX10_lowest ⟨Nat.le_of_ble_eq_true rfl, Nat.le_of_ble_eq_true rfl⟩ ⟨Nat.le_refl _, Nat.le_refl _⟩ hK hP hD hS hA [] rfl (by decide) rfl hl.1 rfl (Nat.le_of_ble_eq_true rfl) dX10_chance_66 (fun z w H locs hq hP hD hS => ?_)
            rcases hq with ⟨rfl, rfl, hc8_0⟩ | ⟨rfl, rfl, hc8_0⟩
            · replace hP : va_P D vwCl [(hm, ob 10 (mo a st lw tl wk pe ch pl fa iw nm qe sd ik kp hh)), ((a 1), aI cI 4 so), ((a 2), aI cI 4 mu)] H := hP
              replace hD : va_D A [(hm, ob 10 (mo a st lw tl wk pe ch pl fa iw nm qe sd ik kp hh)), ((a 1), aI cI 4 so), ((a 2), aI cI 4 mu)] := hD
              exact z_lret hx hb hr hlocks hP hD hS dX10_chance_69 rfl (by first | (exact Or.inl (⟨(by first | rfl | omega), rfl, (by first | assumption | omega)⟩)) | (exact Or.inr (Or.inl (⟨(by first | rfl | omega), rfl, (by first | assumption | omega), (by first | assumption | omega)⟩))) | (exact Or.inr (Or.inr (⟨(by first | rfl | omega), rfl, (by first | assumption | omega), (by first | assumption | omega)⟩))) | (exfalso; omega))
            · replace hP : va_P D vwCl [(hm, ob 10 (mo a st lw tl wk pe ch pl fa iw nm qe sd ik kp hh)), ((a 1), aI cI 4 so), ((a 2), aI cI 4 mu)] H := hP
              replace hD : va_D A [(hm, ob 10 (mo a st lw tl wk pe ch pl fa iw nm qe sd ik kp hh)), ((a 1), aI cI 4 so), ((a 2), aI cI 4 mu)] := hD
              exact z_lret hx hb hr hlocks hP hD hS dX10_chance_69 rfl (by first | (exact Or.inl (⟨(by first | rfl | omega), rfl, (by first | assumption | omega)⟩)) | (exact Or.inr (Or.inl (⟨(by first | rfl | omega), rfl, (by first | assumption | omega), (by first | assumption | omega)⟩))) | (exact Or.inr (Or.inr (⟨(by first | rfl | omega), rfl, (by first | assumption | omega), (by first | assumption | omega)⟩))) | (exfalso; omega))
          · replace hP : va_P D vwCl [(hm, ob 10 (mo a st lw tl wk pe ch pl fa iw nm qe sd ik kp hh)), ((a 1), aI cI 4 so), ((a 2), aI cI 4 mu)] H := hP
            replace hD : va_D A [(hm, ob 10 (mo a st lw tl wk pe ch pl fa iw nm qe sd ik kp hh)), ((a 1), aI cI 4 so), ((a 2), aI cI 4 mu)] := hD
            refine z_if_ne (tgt := 49) hx hb dX10_chance_42 (by decide) (by first | assumption | omega) (fun h => absurd h (by decide)) (fun _ => ?_)
            refine lv_ldc2 (v := lZ (-102)) hx hb hown (hts (.constantLong RX10 193 (-102)) (by decide +kernel)) dX10_chance_45 ?_
            exact z_lret hx hb hr hlocks hP hD hS dX10_chance_48 rfl (by first | (exact Or.inl (⟨(by first | rfl | omega), rfl, (by first | assumption | omega)⟩)) | (exact Or.inr (Or.inl (⟨(by first | rfl | omega), rfl, (by first | assumption | omega), (by first | assumption | omega)⟩))) | (exact Or.inr (Or.inr (⟨(by first | rfl | omega), rfl, (by first | assumption | omega), (by first | assumption | omega)⟩))) | (exfalso; omega))
        · replace hP : va_P D vwCl [(hm, ob 10 (mo a st lw tl wk pe ch pl fa iw nm qe sd ik kp hh)), ((a 1), aI cI 4 so), ((a 2), aI cI 4 mu)] H := hP
          replace hD : va_D A [(hm, ob 10 (mo a st lw tl wk pe ch pl fa iw nm qe sd ik kp hh)), ((a 1), aI cI 4 so), ((a 2), aI cI 4 mu)] := hD
          refine z_if_eq (tgt := 45) hx hb dX10_chance_32 (by decide) (by first | assumption | omega) (fun _ => ?_) (fun h => absurd h (by decide))
          refine lv_ldc2 (v := lZ (-102)) hx hb hown (hts (.constantLong RX10 193 (-102)) (by decide +kernel)) dX10_chance_45 ?_
          exact z_lret hx hb hr hlocks hP hD hS dX10_chance_48 rfl (by first | (exact Or.inl (⟨(by first | rfl | omega), rfl, (by first | assumption | omega)⟩)) | (exact Or.inr (Or.inl (⟨(by first | rfl | omega), rfl, (by first | assumption | omega), (by first | assumption | omega)⟩))) | (exact Or.inr (Or.inr (⟨(by first | rfl | omega), rfl, (by first | assumption | omega), (by first | assumption | omega)⟩))) | (exfalso; omega))
      · replace hP : va_P D vwCl [(hm, ob 10 (mo a st lw tl wk pe ch pl fa iw nm qe sd ik kp hh)), ((a 1), aI cI 4 so), ((a 2), aI cI 4 mu)] H := hP
        replace hD : va_D A [(hm, ob 10 (mo a st lw tl wk pe ch pl fa iw nm qe sd ik kp hh)), ((a 1), aI cI 4 so), ((a 2), aI cI 4 mu)] := hD
        refine z_if_eq (tgt := 45) hx hb dX10_chance_24 (by decide) (by first | assumption | omega) (fun _ => ?_) (fun h => absurd h (by decide))
        refine lv_ldc2 (v := lZ (-102)) hx hb hown (hts (.constantLong RX10 193 (-102)) (by decide +kernel)) dX10_chance_45 ?_
        exact z_lret hx hb hr hlocks hP hD hS dX10_chance_48 rfl (by first | (exact Or.inl (⟨(by first | rfl | omega), rfl, (by first | assumption | omega)⟩)) | (exact Or.inr (Or.inl (⟨(by first | rfl | omega), rfl, (by first | assumption | omega), (by first | assumption | omega)⟩))) | (exact Or.inr (Or.inr (⟨(by first | rfl | omega), rfl, (by first | assumption | omega), (by first | assumption | omega)⟩))) | (exfalso; omega))
    · replace hP : va_P D vwCl [(hm, ob 10 (mo a st lw tl wk pe ch pl fa iw nm qe sd ik kp hh)), ((a 1), aI cI 4 so), ((a 2), aI cI 4 mu)] H := hP
      replace hD : va_D A [(hm, ob 10 (mo a st lw tl wk pe ch pl fa iw nm qe sd ik kp hh)), ((a 1), aI cI 4 so), ((a 2), aI cI 4 mu)] := hD
      refine z_if_eq (tgt := 45) hx hb dX10_chance_17 (by decide) (by first | assumption | omega) (fun _ => ?_) (fun h => absurd h (by decide))
      refine lv_ldc2 (v := lZ (-102)) hx hb hown (hts (.constantLong RX10 193 (-102)) (by decide +kernel)) dX10_chance_45 ?_
      exact z_lret hx hb hr hlocks hP hD hS dX10_chance_48 rfl (by first | (exact Or.inl (⟨(by first | rfl | omega), rfl, (by first | assumption | omega)⟩)) | (exact Or.inr (Or.inl (⟨(by first | rfl | omega), rfl, (by first | assumption | omega), (by first | assumption | omega)⟩))) | (exact Or.inr (Or.inr (⟨(by first | rfl | omega), rfl, (by first | assumption | omega), (by first | assumption | omega)⟩))) | (exfalso; omega))
  · replace hP : va_P D vwCl [(hm, ob 10 (mo a st lw tl wk pe ch pl fa iw nm qe sd ik kp hh)), ((a 1), aI cI 4 so), ((a 2), aI cI 4 mu)] H := hP
    replace hD : va_D A [(hm, ob 10 (mo a st lw tl wk pe ch pl fa iw nm qe sd ik kp hh)), ((a 1), aI cI 4 so), ((a 2), aI cI 4 mu)] := hD
    refine z_if_eq (tgt := 45) hx hb dX10_chance_7 (by decide) (by first | assumption | omega) (fun _ => ?_) (fun h => absurd h (by decide))
    refine lv_ldc2 (v := lZ (-102)) hx hb hown (hts (.constantLong RX10 193 (-102)) (by decide +kernel)) dX10_chance_45 ?_
    exact z_lret hx hb hr hlocks hP hD hS dX10_chance_48 rfl (by first | (exact Or.inl (⟨(by first | rfl | omega), rfl, (by first | assumption | omega)⟩)) | (exact Or.inr (Or.inl (⟨(by first | rfl | omega), rfl, (by first | assumption | omega), (by first | assumption | omega)⟩))) | (exact Or.inr (Or.inr (⟨(by first | rfl | omega), rfl, (by first | assumption | omega), (by first | assumption | omega)⟩))) | (exfalso; omega))
theorem qX10_likeliestNow : yX10_likeliestNow.cls ≠ "java/lang/invoke/MethodHandle" ∧ yX10_likeliestNow.cls ≠ "java/lang/invoke/VarHandle" ∧ (parseMethodDescriptor yX10_likeliestNow.desc).map (fun d => d.parameters.length) = some 3 := by decide +kernel
set_option maxHeartbeats 4000000 in
set_option maxRecDepth 100000 in
theorem c_X10_likeliestNow (l : Launch) (D : va_G) (cI cJ cB : ClassId) (hm : Nat) (a : Nat → Nat) (st lw tl wk pe ch pl fa iw nm qe sd ik kp hh : Int) (so mu : Int → Int) (tt t x : Int) (hsu : ∀ j, (0 ≤ so j ∧ so j ≤ 4) ∧ (0 ≤ mu j ∧ mu j ≤ 9) ∧ (so j = 4 → 2 ≤ mu j)) (hst : 1 ≤ st ∧ st ≤ 4) (htt : 1 ≤ tt ∧ tt ≤ 9) (ht : 0 ≤ t ∧ t ≤ 10) (hx0 : 0 ≤ x ∧ x ≤ 9999) : zMi l yX10_likeliestNow wsX10_likeliestNow (zRm 3 75) D (zT cI cJ cB) [.ref hm, .int (iZ tt), .int (iZ t), .int (iZ x)] [(hm, ob 10 (mo a st lw tl wk pe ch pl fa iw nm qe sd ik kp hh)), ((a 1), aI cI 4 so), ((a 2), aI cI 4 mu)] (fun (z : Int) (w : va_W) => (lkP (fun f => sumW (gro so mu st.toNat) (wys t tt.toNat) f x (tt + 1).toNat) 99).1 = z ∧ w = [(hm, ob 10 (mo a st lw tl wk pe ch pl fa iw nm qe sd ik kp hh)), ((a 1), aI cI 4 so), ((a 2), aI cI 4 mu)]) := by
  refine z_of (Qc := fun A => zQi D [(hm, ob 10 (mo a st lw tl wk pe ch pl fa iw nm qe sd ik kp hh)), ((a 1), aI cI 4 so), ((a 2), aI cI 4 mu)] A _) (cc := cX10_likeliestNow) (maxL := 10) (ret := (some .int)) (by decide) rfl (Nat.le_of_ble_eq_true rfl) ?_
  intro p e s m below meth c A ls hx hb hr hts hown hlocks hml hK hP hD hS hA hl
  replace hown : s.vm.findClass RX10 = some m.cls := hown
  have hC : CallFix p m c cX10_likeliestNow 10 s _ wsX10_likeliestNow RX10 := ⟨hx, hb, hml, hown, hts⟩
  replace hl : lv_has ls 10 [(0, .ref hm), (1, .int (iZ tt)), (2, .int (iZ t)), (3, .int (iZ x))] := hl
  refine lv_iconst (v := iZ (-1)) hx hb dX10_likeliestNow_0 (by decide) ?_
  refine lv_istore (lv' := [(4, .int (iZ (-1))), (0, .ref hm), (1, .int (iZ tt)), (2, .int (iZ t)), (3, .int (iZ x))]) hx hb dX10_likeliestNow_1 hl (by decide) rfl (fun ls hl => ?_)
  refine lv_lconst (v := lZ 0) hx hb dX10_likeliestNow_3 rfl ?_
  refine lv_lstore (lv' := [(5, .long (lZ 0)), (4, .int (iZ (-1))), (0, .ref hm), (1, .int (iZ tt)), (2, .int (iZ t)), (3, .int (iZ x))]) hx hb dX10_likeliestNow_4 hl (by decide) rfl (fun ls hl => ?_)
  refine lv_iconst (v := iZ 1) hx hb dX10_likeliestNow_6 (by decide) ?_
  refine lv_istore (lv' := [(7, .int (iZ 1)), (5, .long (lZ 0)), (4, .int (iZ (-1))), (0, .ref hm), (1, .int (iZ tt)), (2, .int (iZ t)), (3, .int (iZ x))]) hx hb dX10_likeliestNow_7 hl (by decide) rfl (fun ls hl => ?_)
  have lp9 : ∀ fuel : Nat, ∀ (i v u : Int), (1 ≤ i ∧ i ≤ 100) → (v = (lkP (fun f => sumW (gro so mu st.toNat) (wys t tt.toNat) f x (tt + 1).toNat) (i - 1).toNat).1) → (u = (lkP (fun f => sumW (gro so mu st.toNat) (wys t tt.toNat) f x (tt + 1).toNat) (i - 1).toNat).2) → (0 ≤ u ∧ u ≤ 10000000000) → (-1 ≤ v ∧ v ≤ 99) → (100 - i) < (fuel : Int) → ∀ (H : Heap) (locs : List Loc) (ls : Array Slot), va_P D vwCl [(hm, ob 10 (mo a st lw tl wk pe ch pl fa iw nm qe sd ik kp hh)), ((a 1), aI cI 4 so), ((a 2), aI cI 4 mu)] H → va_D A [(hm, ob 10 (mo a st lw tl wk pe ch pl fa iw nm qe sd ik kp hh)), ((a 1), aI cI 4 so), ((a 2), aI cI 4 mu)] → va_S A s.heap H locs → lv_has ls 10 [(0, .ref hm), (1, .int (iZ tt)), (2, .int (iZ t)), (3, .int (iZ x)), (4, .int (iZ v)), (5, .long (lZ u)), (7, .int (iZ i))] → W p l e (zRm 3 75) s m [.ref hm, .int (iZ tt), .int (iZ t), .int (iZ x)].toArray below meth c H locs 0 0 (MQ below (zQi D [(hm, ob 10 (mo a st lw tl wk pe ch pl fa iw nm qe sd ik kp hh)), ((a 1), aI cI 4 so), ((a 2), aI cI 4 mu)] A (fun (z : Int) (w : va_W) => (lkP (fun f => sumW (gro so mu st.toNat) (wys t tt.toNat) f x (tt + 1).toNat) 99).1 = z ∧ w = [(hm, ob 10 (mo a st lw tl wk pe ch pl fa iw nm qe sd ik kp hh)), ((a 1), aI cI 4 so), ((a 2), aI cI 4 mu)])) [.ref hm, .int (iZ tt), .int (iZ t), .int (iZ x)].toArray s 0 0 A) (F0 m 9 ls []) := by
    intro fuel
    induction fuel with
    | zero => intro i v u hi hv hu hur hvr hmu9; exact absurd hmu9 (by omega)
    | succ fuel ih9 =>
      intro i v u hi hv hu hur hvr hmu9 H locs ls hP hD hS hl
      refine lv_iload hx hb dX10_likeliestNow_9 (lv_at hl 6 rfl) ?_
      refine lv_bipush (v := iZ 99) hx hb dX10_likeliestNow_11 (by decide) ?_
      refine z_icmp_gt (tgt := 67) hx hb dX10_likeliestNow_13 (by decide) (by first | assumption | omega) (by first | assumption | omega) (fun c_13 => ?_) (fun c_13 => ?_)
      · refine lv_iload hx hb dX10_likeliestNow_67 (lv_at hl 4 rfl) ?_
        exact z_iret hx hb hr hlocks hP hD hS dX10_likeliestNow_69 rfl (by exact ⟨(by rw [hv, show i - 1 = 99 from by omega]; rfl), rfl⟩)
      · refine lv_aload_n hx hb dX10_likeliestNow_16 rfl (lv_at hl 0 rfl) ?_
        refine lv_iload_n hx hb dX10_likeliestNow_17 rfl (lv_at hl 1 rfl) ?_
        refine lv_iload_n hx hb dX10_likeliestNow_18 rfl (lv_at hl 2 rfl) ?_
        refine lv_iload hx hb dX10_likeliestNow_19 (lv_at hl 6 rfl) ?_
        refine lv_iload_n hx hb dX10_likeliestNow_21 rfl (lv_at hl 3 rfl) ?_
        refine z_Vl (As := [.int (iZ tt), .int (iZ t), .int (iZ i), .int (iZ x)]) (rest := []) hC (c_X10_chanceNow l D cI cJ cB hm a st lw tl wk pe ch pl fa iw nm qe sd ik kp hh so mu tt t i x (by first | assumption | omega) (by first | assumption | omega) (by first | assumption | omega) (by first | assumption | omega) (by first | assumption | omega) (by first | assumption | omega)) 4 gX10_likeliestNow_X10_chanceNow rfl rfl rfl ⟨rfl, qX10_chanceNow⟩ ⟨Nat.le_of_ble_eq_true rfl, Nat.le_of_ble_eq_true rfl⟩ ⟨Nat.le_refl _, Nat.le_refl _⟩ hK hP hD hS hA [0, 1, 2] rfl (by decide) 0 rfl rfl rfl hl.1 rfl (Nat.le_of_ble_eq_true rfl) dX10_likeliestNow_22 (fun z w H locs hq hP hD hS => ?_)
        rcases hq with ⟨rfl, rfl⟩
        replace hP : va_P D vwCl [(hm, ob 10 (mo a st lw tl wk pe ch pl fa iw nm qe sd ik kp hh)), ((a 1), aI cI 4 so), ((a 2), aI cI 4 mu)] H := hP
        replace hD : va_D A [(hm, ob 10 (mo a st lw tl wk pe ch pl fa iw nm qe sd ik kp hh)), ((a 1), aI cI 4 so), ((a 2), aI cI 4 mu)] := hD
        have hsw := sumW_in (G := gro so mu st.toNat) (v := i) (x := x) (t := t) (tl := tt) (by omega) (by omega)
        refine lv_lstore (lv' := [(8, .long (lZ (sumW (gro so mu st.toNat) (wys t tt.toNat) i x (tt + 1).toNat))), (0, .ref hm), (1, .int (iZ tt)), (2, .int (iZ t)), (3, .int (iZ x)), (4, .int (iZ v)), (5, .long (lZ u)), (7, .int (iZ i))]) hx hb dX10_likeliestNow_25 hl (by decide) rfl (fun ls hl => ?_)
        refine lv_lload hx hb dX10_likeliestNow_27 (lv_at hl 0 rfl) ?_
        refine lv_lload hx hb dX10_likeliestNow_29 (lv_at hl 6 rfl) ?_
        refine z_lcmp hx hb (by first | assumption | omega) (by first | assumption | omega) dX10_likeliestNow_31 (fun r_2 hr_3 => ?_)
        refine z_if_le (tgt := 40) hx hb dX10_likeliestNow_32 (by decide) (by first | assumption | omega) (fun c_32 => ?_) (fun c_32 => ?_)
        · refine lv_iload hx hb dX10_likeliestNow_40 (lv_at hl 5 rfl) ?_
          refine lv_istore (lv' := [(4, .int (iZ v)), (8, .long (lZ (sumW (gro so mu st.toNat) (wys t tt.toNat) i x (tt + 1).toNat))), (0, .ref hm), (1, .int (iZ tt)), (2, .int (iZ t)), (3, .int (iZ x)), (5, .long (lZ u)), (7, .int (iZ i))]) hx hb dX10_likeliestNow_42 hl (by decide) rfl (fun ls hl => ?_)
          refine lv_lload hx hb dX10_likeliestNow_44 (lv_at hl 1 rfl) ?_
          refine lv_lload hx hb dX10_likeliestNow_46 (lv_at hl 6 rfl) ?_
          refine z_lcmp hx hb (by first | assumption | omega) (by first | assumption | omega) dX10_likeliestNow_48 (fun r_4 hr_5 => ?_)
          refine z_if_le (tgt := 57) hx hb dX10_likeliestNow_49 (by decide) (by first | assumption | omega) (fun c_49 => ?_) (fun c_49 => ?_)
          · refine lv_lload hx hb dX10_likeliestNow_57 (lv_at hl 6 rfl) ?_
            refine lv_lstore (lv' := [(5, .long (lZ u)), (4, .int (iZ v)), (8, .long (lZ (sumW (gro so mu st.toNat) (wys t tt.toNat) i x (tt + 1).toNat))), (0, .ref hm), (1, .int (iZ tt)), (2, .int (iZ t)), (3, .int (iZ x)), (7, .int (iZ i))]) hx hb dX10_likeliestNow_59 hl (by decide) rfl (fun ls hl => ?_)
            refine z_iinc (lv' := [(7, .int (iZ (i + 1))), (5, .long (lZ u)), (4, .int (iZ v)), (8, .long (lZ (sumW (gro so mu st.toNat) (wys t tt.toNat) i x (tt + 1).toNat))), (0, .ref hm), (1, .int (iZ tt)), (2, .int (iZ t)), (3, .int (iZ x))]) hx hb dX10_likeliestNow_61 hl (k := 7) rfl (by decide) rfl (fun ls hl => ?_)
            refine lv_goto (tgt := 9) hx hb dX10_likeliestNow_64 (by decide) ?_
            exact ih9 (i + 1) v u (by first | assumption | omega) (by rw [show i + 1 - 1 = i - 1 + 1 from by omega, lkP_s (by omega), show i - 1 + 1 = i from by omega]; first | (rw [if_pos (by rw [← hu]; omega)]; done) | (rw [if_neg (by rw [← hu]; omega)]; exact hv)) (by rw [show i + 1 - 1 = i - 1 + 1 from by omega, lkP_s (by omega), show i - 1 + 1 = i from by omega]; first | (rw [if_pos (by rw [← hu]; omega)]; done) | (rw [if_neg (by rw [← hu]; omega)]; exact hu)) (by first | assumption | omega) (by first | assumption | omega) (by omega) _ _ _ hP hD hS (lv_sub hl [4, 5, 6, 7, 2, 1, 0] rfl)
          · refine lv_lload hx hb dX10_likeliestNow_52 (lv_at hl 1 rfl) ?_
            refine lv_goto (tgt := 59) hx hb dX10_likeliestNow_54 (by decide) ?_
            refine lv_lstore (lv' := [(5, .long (lZ (sumW (gro so mu st.toNat) (wys t tt.toNat) i x (tt + 1).toNat))), (4, .int (iZ v)), (8, .long (lZ (sumW (gro so mu st.toNat) (wys t tt.toNat) i x (tt + 1).toNat))), (0, .ref hm), (1, .int (iZ tt)), (2, .int (iZ t)), (3, .int (iZ x)), (7, .int (iZ i))]) hx hb dX10_likeliestNow_59 hl (by decide) rfl (fun ls hl => ?_)
            refine z_iinc (lv' := [(7, .int (iZ (i + 1))), (5, .long (lZ (sumW (gro so mu st.toNat) (wys t tt.toNat) i x (tt + 1).toNat))), (4, .int (iZ v)), (8, .long (lZ (sumW (gro so mu st.toNat) (wys t tt.toNat) i x (tt + 1).toNat))), (0, .ref hm), (1, .int (iZ tt)), (2, .int (iZ t)), (3, .int (iZ x))]) hx hb dX10_likeliestNow_61 hl (k := 7) rfl (by decide) rfl (fun ls hl => ?_)
            refine lv_goto (tgt := 9) hx hb dX10_likeliestNow_64 (by decide) ?_
            exact ih9 (i + 1) v (sumW (gro so mu st.toNat) (wys t tt.toNat) i x (tt + 1).toNat) (by first | assumption | omega) (by rw [show i + 1 - 1 = i - 1 + 1 from by omega, lkP_s (by omega), show i - 1 + 1 = i from by omega]; first | (rw [if_pos (by rw [← hu]; omega)]; done) | (rw [if_neg (by rw [← hu]; omega)]; exact hv)) (by rw [show i + 1 - 1 = i - 1 + 1 from by omega, lkP_s (by omega), show i - 1 + 1 = i from by omega]; first | (rw [if_pos (by rw [← hu]; omega)]; done) | (rw [if_neg (by rw [← hu]; omega)]; exact hu)) (by first | assumption | omega) (by first | assumption | omega) (by omega) _ _ _ hP hD hS (lv_sub hl [4, 5, 6, 7, 2, 1, 0] rfl)
        · refine lv_iload hx hb dX10_likeliestNow_35 (lv_at hl 7 rfl) ?_
          refine lv_goto (tgt := 42) hx hb dX10_likeliestNow_37 (by decide) ?_
          refine lv_istore (lv' := [(4, .int (iZ i)), (8, .long (lZ (sumW (gro so mu st.toNat) (wys t tt.toNat) i x (tt + 1).toNat))), (0, .ref hm), (1, .int (iZ tt)), (2, .int (iZ t)), (3, .int (iZ x)), (5, .long (lZ u)), (7, .int (iZ i))]) hx hb dX10_likeliestNow_42 hl (by decide) rfl (fun ls hl => ?_)
          refine lv_lload hx hb dX10_likeliestNow_44 (lv_at hl 1 rfl) ?_
          refine lv_lload hx hb dX10_likeliestNow_46 (lv_at hl 6 rfl) ?_
          refine z_lcmp hx hb (by first | assumption | omega) (by first | assumption | omega) dX10_likeliestNow_48 (fun r_6 hr_7 => ?_)
          refine z_if_le (tgt := 57) hx hb dX10_likeliestNow_49 (by decide) (by first | assumption | omega) (fun c_49 => ?_) (fun c_49 => ?_)
          · refine lv_lload hx hb dX10_likeliestNow_57 (lv_at hl 6 rfl) ?_
            refine lv_lstore (lv' := [(5, .long (lZ u)), (4, .int (iZ i)), (8, .long (lZ (sumW (gro so mu st.toNat) (wys t tt.toNat) i x (tt + 1).toNat))), (0, .ref hm), (1, .int (iZ tt)), (2, .int (iZ t)), (3, .int (iZ x)), (7, .int (iZ i))]) hx hb dX10_likeliestNow_59 hl (by decide) rfl (fun ls hl => ?_)
            refine z_iinc (lv' := [(7, .int (iZ (i + 1))), (5, .long (lZ u)), (4, .int (iZ i)), (8, .long (lZ (sumW (gro so mu st.toNat) (wys t tt.toNat) i x (tt + 1).toNat))), (0, .ref hm), (1, .int (iZ tt)), (2, .int (iZ t)), (3, .int (iZ x))]) hx hb dX10_likeliestNow_61 hl (k := 7) rfl (by decide) rfl (fun ls hl => ?_)
            refine lv_goto (tgt := 9) hx hb dX10_likeliestNow_64 (by decide) ?_
            exact ih9 (i + 1) i u (by first | assumption | omega) (by rw [show i + 1 - 1 = i - 1 + 1 from by omega, lkP_s (by omega), show i - 1 + 1 = i from by omega]; first | (rw [if_pos (by rw [← hu]; omega)]; done) | (rw [if_neg (by rw [← hu]; omega)]; exact hv)) (by rw [show i + 1 - 1 = i - 1 + 1 from by omega, lkP_s (by omega), show i - 1 + 1 = i from by omega]; first | (rw [if_pos (by rw [← hu]; omega)]; done) | (rw [if_neg (by rw [← hu]; omega)]; exact hu)) (by first | assumption | omega) (by first | assumption | omega) (by omega) _ _ _ hP hD hS (lv_sub hl [4, 5, 6, 7, 2, 1, 0] rfl)
          · refine lv_lload hx hb dX10_likeliestNow_52 (lv_at hl 1 rfl) ?_
            refine lv_goto (tgt := 59) hx hb dX10_likeliestNow_54 (by decide) ?_
            refine lv_lstore (lv' := [(5, .long (lZ (sumW (gro so mu st.toNat) (wys t tt.toNat) i x (tt + 1).toNat))), (4, .int (iZ i)), (8, .long (lZ (sumW (gro so mu st.toNat) (wys t tt.toNat) i x (tt + 1).toNat))), (0, .ref hm), (1, .int (iZ tt)), (2, .int (iZ t)), (3, .int (iZ x)), (7, .int (iZ i))]) hx hb dX10_likeliestNow_59 hl (by decide) rfl (fun ls hl => ?_)
            refine z_iinc (lv' := [(7, .int (iZ (i + 1))), (5, .long (lZ (sumW (gro so mu st.toNat) (wys t tt.toNat) i x (tt + 1).toNat))), (4, .int (iZ i)), (8, .long (lZ (sumW (gro so mu st.toNat) (wys t tt.toNat) i x (tt + 1).toNat))), (0, .ref hm), (1, .int (iZ tt)), (2, .int (iZ t)), (3, .int (iZ x))]) hx hb dX10_likeliestNow_61 hl (k := 7) rfl (by decide) rfl (fun ls hl => ?_)
            refine lv_goto (tgt := 9) hx hb dX10_likeliestNow_64 (by decide) ?_
            exact ih9 (i + 1) i (sumW (gro so mu st.toNat) (wys t tt.toNat) i x (tt + 1).toNat) (by first | assumption | omega) (by rw [show i + 1 - 1 = i - 1 + 1 from by omega, lkP_s (by omega), show i - 1 + 1 = i from by omega]; first | (rw [if_pos (by rw [← hu]; omega)]; done) | (rw [if_neg (by rw [← hu]; omega)]; exact hv)) (by rw [show i + 1 - 1 = i - 1 + 1 from by omega, lkP_s (by omega), show i - 1 + 1 = i from by omega]; first | (rw [if_pos (by rw [← hu]; omega)]; done) | (rw [if_neg (by rw [← hu]; omega)]; exact hu)) (by first | assumption | omega) (by first | assumption | omega) (by omega) _ _ _ hP hD hS (lv_sub hl [4, 5, 6, 7, 2, 1, 0] rfl)
  exact lp9 ((100 - 1 : Int) + 1).toNat 1 (-1) 0 (by first | assumption | omega) (by rfl) (by rfl) (by first | assumption | omega) (by first | assumption | omega) (by omega) _ _ _ hP hD hS (lv_sub hl [3, 4, 5, 6, 2, 1, 0] rfl)
theorem qX10_likeliest : yX10_likeliest.cls ≠ "java/lang/invoke/MethodHandle" ∧ yX10_likeliest.cls ≠ "java/lang/invoke/VarHandle" ∧ (parseMethodDescriptor yX10_likeliest.desc).map (fun d => d.parameters.length) = some 3 := by decide +kernel
set_option maxHeartbeats 4000000 in
set_option maxRecDepth 100000 in
theorem c_X10_likeliest (l : Launch) (D : va_G) (cI cJ cB : ClassId) (hm : Nat) (a : Nat → Nat) (st lw tl wk pe ch pl fa iw nm qe sd ik kp hh : Int) (so mu : Int → Int) (tt t x : Int) (hsu : ∀ j, (0 ≤ so j ∧ so j ≤ 4) ∧ (0 ≤ mu j ∧ mu j ≤ 9) ∧ (so j = 4 → 2 ≤ mu j)) (hst : 1 ≤ st ∧ st ≤ 4) (htt : -2147483648 ≤ tt ∧ tt < 2147483648) (ht : -2147483648 ≤ t ∧ t < 2147483648) (hx : -2147483648 ≤ x ∧ x < 2147483648) : zMi l yX10_likeliest wsX10_likeliest (zRm 4 104) D (zT cI cJ cB) [.ref hm, .int (iZ tt), .int (iZ t), .int (iZ x)] [(hm, ob 10 (mo a st lw tl wk pe ch pl fa iw nm qe sd ik kp hh)), ((a 1), aI cI 4 so), ((a 2), aI cI 4 mu)] (fun (z : Int) (w : va_W) => ((-102) = z ∧ w = [(hm, ob 10 (mo a st lw tl wk pe ch pl fa iw nm qe sd ik kp hh)), ((a 1), aI cI 4 so), ((a 2), aI cI 4 mu)] ∧ (¬ (1 ≤ tt ∧ tt ≤ 9 ∧ 0 ≤ t ∧ t ≤ 10 ∧ 0 ≤ x ∧ x ≤ 9999))) ∨ ((lkP (fun f => sumW (gro so mu st.toNat) (wys t tt.toNat) f x (tt + 1).toNat) 99).1 = z ∧ w = [(hm, ob 10 (mo a st lw tl wk pe ch pl fa iw nm qe sd ik kp hh)), ((a 1), aI cI 4 so), ((a 2), aI cI 4 mu)] ∧ (1 ≤ tt ∧ tt ≤ 9 ∧ 0 ≤ t ∧ t ≤ 10 ∧ 0 ≤ x ∧ x ≤ 9999))) := by
  refine z_of (Qc := fun A => zQi D [(hm, ob 10 (mo a st lw tl wk pe ch pl fa iw nm qe sd ik kp hh)), ((a 1), aI cI 4 so), ((a 2), aI cI 4 mu)] A _) (cc := cX10_likeliest) (maxL := 4) (ret := (some .int)) (by decide) rfl (Nat.le_of_ble_eq_true rfl) ?_
  intro p e s m below meth c A ls hx hb hr hts hown hlocks hml hK hP hD hS hA hl
  replace hown : s.vm.findClass RX10 = some m.cls := hown
  have hC : CallFix p m c cX10_likeliest 4 s _ wsX10_likeliest RX10 := ⟨hx, hb, hml, hown, hts⟩
  replace hl : lv_has ls 4 [(0, .ref hm), (1, .int (iZ tt)), (2, .int (iZ t)), (3, .int (iZ x))] := hl
  refine lv_iload_n hx hb dX10_likeliest_0 rfl (lv_at hl 1 rfl) ?_
  refine lv_iconst (v := iZ 1) hx hb dX10_likeliest_1 (by decide) ?_
  refine lv_bipush (v := iZ 9) hx hb dX10_likeliest_2 (by decide) ?_
  refine z_Si (As := [.int (iZ tt), .int (iZ 1), .int (iZ 9)]) (rest := []) hC (c_X10_within l D cI cJ cB tt 1 9 (by first | assumption | omega) (by first | assumption | omega) (by first | assumption | omega)) 3 gX10_likeliest_X10_within rfl rfl rfl qX10_within ⟨Nat.le_of_ble_eq_true rfl, Nat.le_of_ble_eq_true rfl⟩ ⟨Nat.le_refl _, Nat.le_refl _⟩ hK hP hD hS hA [] rfl (by decide) rfl hl.1 rfl (Nat.le_of_ble_eq_true rfl) dX10_likeliest_4 (fun z w H locs hq hP hD hS => ?_)
  rcases hq with ⟨rfl, rfl, hc1_0⟩ | ⟨rfl, rfl, hc1_0⟩
  · replace hP : va_P D vwCl [(hm, ob 10 (mo a st lw tl wk pe ch pl fa iw nm qe sd ik kp hh)), ((a 1), aI cI 4 so), ((a 2), aI cI 4 mu)] H := hP
    replace hD : va_D A [(hm, ob 10 (mo a st lw tl wk pe ch pl fa iw nm qe sd ik kp hh)), ((a 1), aI cI 4 so), ((a 2), aI cI 4 mu)] := hD
    refine z_if_eq (tgt := 27) hx hb dX10_likeliest_7 (by decide) (by first | assumption | omega) (fun h => absurd h (by decide)) (fun _ => ?_)
    refine lv_iload_n hx hb dX10_likeliest_10 rfl (lv_at hl 2 rfl) ?_
    refine lv_iconst (v := iZ 0) hx hb dX10_likeliest_11 (by decide) ?_
    refine lv_bipush (v := iZ 10) hx hb dX10_likeliest_12 (by decide) ?_
    refine z_Si (As := [.int (iZ t), .int (iZ 0), .int (iZ 10)]) (rest := []) hC (c_X10_within l D cI cJ cB t 0 10 (by first | assumption | omega) (by first | assumption | omega) (by first | assumption | omega)) 3 gX10_likeliest_X10_within rfl rfl rfl qX10_within ⟨Nat.le_of_ble_eq_true rfl, Nat.le_of_ble_eq_true rfl⟩ ⟨Nat.le_refl _, Nat.le_refl _⟩ hK hP hD hS hA [] rfl (by decide) rfl hl.1 rfl (Nat.le_of_ble_eq_true rfl) dX10_likeliest_14 (fun z w H locs hq hP hD hS => ?_)
    rcases hq with ⟨rfl, rfl, hc2_0⟩ | ⟨rfl, rfl, hc2_0⟩
    · replace hP : va_P D vwCl [(hm, ob 10 (mo a st lw tl wk pe ch pl fa iw nm qe sd ik kp hh)), ((a 1), aI cI 4 so), ((a 2), aI cI 4 mu)] H := hP
      replace hD : va_D A [(hm, ob 10 (mo a st lw tl wk pe ch pl fa iw nm qe sd ik kp hh)), ((a 1), aI cI 4 so), ((a 2), aI cI 4 mu)] := hD
      refine z_if_eq (tgt := 27) hx hb dX10_likeliest_17 (by decide) (by first | assumption | omega) (fun h => absurd h (by decide)) (fun _ => ?_)
      refine lv_iload_n hx hb dX10_likeliest_20 rfl (lv_at hl 3 rfl) ?_
      refine z_Si (As := [.int (iZ x)]) (rest := []) hC (c_X10_isSize l D cI cJ cB x (by first | assumption | omega)) 1 gX10_likeliest_X10_isSize rfl rfl rfl qX10_isSize ⟨Nat.le_of_ble_eq_true rfl, Nat.le_of_ble_eq_true rfl⟩ ⟨Nat.le_refl _, Nat.le_refl _⟩ hK hP hD hS hA [] rfl (by decide) rfl hl.1 rfl (Nat.le_of_ble_eq_true rfl) dX10_likeliest_21 (fun z w H locs hq hP hD hS => ?_)
      rcases hq with ⟨rfl, rfl, hc3_0⟩ | ⟨rfl, rfl, hc3_0⟩
      · replace hP : va_P D vwCl [(hm, ob 10 (mo a st lw tl wk pe ch pl fa iw nm qe sd ik kp hh)), ((a 1), aI cI 4 so), ((a 2), aI cI 4 mu)] H := hP
        replace hD : va_D A [(hm, ob 10 (mo a st lw tl wk pe ch pl fa iw nm qe sd ik kp hh)), ((a 1), aI cI 4 so), ((a 2), aI cI 4 mu)] := hD
        refine z_if_ne (tgt := 30) hx hb dX10_likeliest_24 (by decide) (by first | assumption | omega) (fun _ => ?_) (fun h => absurd h (by decide))
        refine lv_aload_n hx hb dX10_likeliest_30 rfl (lv_at hl 0 rfl) ?_
        refine lv_iload_n hx hb dX10_likeliest_31 rfl (lv_at hl 1 rfl) ?_
        refine lv_iload_n hx hb dX10_likeliest_32 rfl (lv_at hl 2 rfl) ?_
        refine lv_iload_n hx hb dX10_likeliest_33 rfl (lv_at hl 3 rfl) ?_
        refine z_Vi (As := [.int (iZ tt), .int (iZ t), .int (iZ x)]) (rest := []) hC (c_X10_likeliestNow l D cI cJ cB hm a st lw tl wk pe ch pl fa iw nm qe sd ik kp hh so mu tt t x (by first | assumption | omega) (by first | assumption | omega) (by first | assumption | omega) (by first | assumption | omega) (by first | assumption | omega)) 3 gX10_likeliest_X10_likeliestNow rfl rfl rfl ⟨rfl, qX10_likeliestNow⟩ ⟨Nat.le_of_ble_eq_true rfl, Nat.le_of_ble_eq_true rfl⟩ ⟨Nat.le_refl _, Nat.le_refl _⟩ hK hP hD hS hA [0, 1, 2] rfl (by decide) 0 rfl rfl rfl hl.1 rfl (Nat.le_of_ble_eq_true rfl) dX10_likeliest_34 (fun z w H locs hq hP hD hS => ?_)
        rcases hq with ⟨rfl, rfl⟩
        replace hP : va_P D vwCl [(hm, ob 10 (mo a st lw tl wk pe ch pl fa iw nm qe sd ik kp hh)), ((a 1), aI cI 4 so), ((a 2), aI cI 4 mu)] H := hP
        replace hD : va_D A [(hm, ob 10 (mo a st lw tl wk pe ch pl fa iw nm qe sd ik kp hh)), ((a 1), aI cI 4 so), ((a 2), aI cI 4 mu)] := hD
        exact z_iret hx hb hr hlocks hP hD hS dX10_likeliest_37 rfl (by first | (exact Or.inl (⟨(by first | rfl | omega), rfl, (by first | assumption | omega)⟩)) | (exact Or.inr (⟨(by first | rfl | omega), rfl, (by first | assumption | omega)⟩)) | (exfalso; omega))
      · replace hP : va_P D vwCl [(hm, ob 10 (mo a st lw tl wk pe ch pl fa iw nm qe sd ik kp hh)), ((a 1), aI cI 4 so), ((a 2), aI cI 4 mu)] H := hP
        replace hD : va_D A [(hm, ob 10 (mo a st lw tl wk pe ch pl fa iw nm qe sd ik kp hh)), ((a 1), aI cI 4 so), ((a 2), aI cI 4 mu)] := hD
        refine z_if_ne (tgt := 30) hx hb dX10_likeliest_24 (by decide) (by first | assumption | omega) (fun h => absurd h (by decide)) (fun _ => ?_)
        refine lv_bipush (v := iZ (-102)) hx hb dX10_likeliest_27 (by decide) ?_
        exact z_iret hx hb hr hlocks hP hD hS dX10_likeliest_29 rfl (by first | (exact Or.inl (⟨(by first | rfl | omega), rfl, (by first | assumption | omega)⟩)) | (exact Or.inr (⟨(by first | rfl | omega), rfl, (by first | assumption | omega)⟩)) | (exfalso; omega))
    · replace hP : va_P D vwCl [(hm, ob 10 (mo a st lw tl wk pe ch pl fa iw nm qe sd ik kp hh)), ((a 1), aI cI 4 so), ((a 2), aI cI 4 mu)] H := hP
      replace hD : va_D A [(hm, ob 10 (mo a st lw tl wk pe ch pl fa iw nm qe sd ik kp hh)), ((a 1), aI cI 4 so), ((a 2), aI cI 4 mu)] := hD
      refine z_if_eq (tgt := 27) hx hb dX10_likeliest_17 (by decide) (by first | assumption | omega) (fun _ => ?_) (fun h => absurd h (by decide))
      refine lv_bipush (v := iZ (-102)) hx hb dX10_likeliest_27 (by decide) ?_
      exact z_iret hx hb hr hlocks hP hD hS dX10_likeliest_29 rfl (by first | (exact Or.inl (⟨(by first | rfl | omega), rfl, (by first | assumption | omega)⟩)) | (exact Or.inr (⟨(by first | rfl | omega), rfl, (by first | assumption | omega)⟩)) | (exfalso; omega))
  · replace hP : va_P D vwCl [(hm, ob 10 (mo a st lw tl wk pe ch pl fa iw nm qe sd ik kp hh)), ((a 1), aI cI 4 so), ((a 2), aI cI 4 mu)] H := hP
    replace hD : va_D A [(hm, ob 10 (mo a st lw tl wk pe ch pl fa iw nm qe sd ik kp hh)), ((a 1), aI cI 4 so), ((a 2), aI cI 4 mu)] := hD
    refine z_if_eq (tgt := 27) hx hb dX10_likeliest_7 (by decide) (by first | assumption | omega) (fun _ => ?_) (fun h => absurd h (by decide))
    refine lv_bipush (v := iZ (-102)) hx hb dX10_likeliest_27 (by decide) ?_
    exact z_iret hx hb hr hlocks hP hD hS dX10_likeliest_29 rfl (by first | (exact Or.inl (⟨(by first | rfl | omega), rfl, (by first | assumption | omega)⟩)) | (exact Or.inr (⟨(by first | rfl | omega), rfl, (by first | assumption | omega)⟩)) | (exfalso; omega))
