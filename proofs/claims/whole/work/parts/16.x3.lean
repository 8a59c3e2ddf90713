theorem qX6_codeIn : yX6_codeIn.cls ≠ "java/lang/invoke/MethodHandle" ∧ yX6_codeIn.cls ≠ "java/lang/invoke/VarHandle" ∧ (parseMethodDescriptor yX6_codeIn.desc).map (fun d => d.parameters.length) = some 2 := by decide +kernel
set_option maxHeartbeats 4000000 in
set_option maxRecDepth 100000 in
theorem c_X6_codeIn (l : Launch) (D : va_G) (cI cJ cB : ClassId) (w0 k : Int) (hw : -9223372036854775808 ≤ w0 ∧ w0 < 9223372036854775808) (hk : 0 ≤ k ∧ k ≤ 7) : zMi l yX6_codeIn wsX6_codeIn (zRm 0 0) D (zT cI cJ cB) [.long (lZ w0), .int (iZ k)] [] (fun (z : Int) (w : va_W) => byt w0 k = z ∧ w = []) := by
  refine z_of (Qc := fun A => zQi D [] A _) (cc := cX6_codeIn) (maxL := 3) (ret := (some .int)) (by decide) rfl (Nat.le_of_ble_eq_true rfl) ?_
  intro p e s m below meth c A ls hx hb hr hts hown hlocks hml hK hP hD hS hA hl
  replace hown : s.vm.findClass RX6 = some m.cls := hown
  have hC : CallFix p m c cX6_codeIn 3 s _ wsX6_codeIn RX6 := ⟨hx, hb, hml, hown, hts⟩
  replace hl : lv_has ls 3 [(0, .long (lZ w0)), (2, .int (iZ k))] := hl
  refine lv_lload_n hx hb dX6_codeIn_0 rfl (lv_at hl 0 rfl) ?_
  refine lv_bipush (v := iZ 8) hx hb dX6_codeIn_1 (by decide) ?_
  refine lv_iload_n hx hb dX6_codeIn_3 rfl (lv_at hl 1 rfl) ?_
  refine z_imul hx hb dX6_codeIn_4 ?_
  refine z_lushr hx hb dX6_codeIn_5 ?_
  have rb_1 := jushr_rng w0 (8 * k)
  refine lv_ldc2 (v := lZ 255) hx hb hown (hts (.constantLong RX6 19 (255)) (by decide +kernel)) dX6_codeIn_6 ?_
  refine z_land hx hb dX6_codeIn_9 ?_
  have rb_2 := jand_rng (jushr w0 (8 * k)) 255
  refine z_l2i hx hb dX6_codeIn_10 ?_
  exact z_iret hx hb hr hlocks hP hD hS dX6_codeIn_11 rfl (by refine ⟨?_, rfl⟩; exact (byt_u hw hk).symm)
theorem qX6_lettersIn : yX6_lettersIn.cls ≠ "java/lang/invoke/MethodHandle" ∧ yX6_lettersIn.cls ≠ "java/lang/invoke/VarHandle" ∧ (parseMethodDescriptor yX6_lettersIn.desc).map (fun d => d.parameters.length) = some 1 := by decide +kernel
set_option maxHeartbeats 4000000 in
set_option maxRecDepth 100000 in
theorem c_X6_lettersIn (l : Launch) (D : va_G) (cI cJ cB : ClassId) (w0 : Int) (hw : -9223372036854775808 ≤ w0 ∧ w0 < 9223372036854775808) : zMi l yX6_lettersIn wsX6_lettersIn (zRm 1 22) D (zT cI cJ cB) [.long (lZ w0)] [] (fun (z : Int) (w : va_W) => (cntB w0 8 = z ∧ w = [] ∧ okB w0 8 ∧ (0 ≤ cntB w0 8 ∧ cntB w0 8 ≤ 8)) ∨ ((-1) = z ∧ w = [] ∧ ¬ okB w0 8)) := by
  refine z_of (Qc := fun A => zQi D [] A _) (cc := cX6_lettersIn) (maxL := 5) (ret := (some .int)) (by decide) rfl (Nat.le_of_ble_eq_true rfl) ?_
  intro p e s m below meth c A ls hx hb hr hts hown hlocks hml hK hP hD hS hA hl
  replace hown : s.vm.findClass RX6 = some m.cls := hown
  have hC : CallFix p m c cX6_lettersIn 5 s _ wsX6_lettersIn RX6 := ⟨hx, hb, hml, hown, hts⟩
  replace hl : lv_has ls 5 [(0, .long (lZ w0))] := hl
  refine lv_iconst (v := iZ 0) hx hb dX6_lettersIn_0 (by decide) ?_
  refine lv_istore_n (lv' := [(2, .int (iZ 0)), (0, .long (lZ w0))]) hx hb dX6_lettersIn_1 rfl hl (by decide) rfl (fun ls hl => ?_)
  refine lv_iconst (v := iZ 0) hx hb dX6_lettersIn_2 (by decide) ?_
  refine lv_istore_n (lv' := [(3, .int (iZ 0)), (2, .int (iZ 0)), (0, .long (lZ w0))]) hx hb dX6_lettersIn_3 rfl hl (by decide) rfl (fun ls hl => ?_)
  have lp4 : ∀ fuel : Nat, ∀ (i q : Int), (0 ≤ i ∧ i ≤ 8) → (q = cntB w0 i.toNat) → (0 ≤ q ∧ q ≤ i) → (okB w0 i) → (8 - i) < (fuel : Int) → ∀ (H : Heap) (locs : List Loc) (ls : Array Slot), va_P D vwCl [] H → va_D A [] → va_S A s.heap H locs → lv_has ls 5 [(0, .long (lZ w0)), (2, .int (iZ q)), (3, .int (iZ i))] → W p l e (zRm 1 22) s m [.long (lZ w0)].toArray below meth c H locs 0 0 (MQ below (zQi D [] A (fun (z : Int) (w : va_W) => (cntB w0 8 = z ∧ w = [] ∧ okB w0 8 ∧ (0 ≤ cntB w0 8 ∧ cntB w0 8 ≤ 8)) ∨ ((-1) = z ∧ w = [] ∧ ¬ okB w0 8))) [.long (lZ w0)].toArray s 0 0 A) (F0 m 4 ls []) := by
    intro fuel
    induction fuel with
    | zero => intro i q hi hq0 hq1 hok hmu4; exact absurd hmu4 (by omega)
    | succ fuel ih4 =>
      intro i q hi hq0 hq1 hok hmu4 H locs ls hP hD hS hl
      refine lv_iload_n hx hb dX6_lettersIn_4 rfl (lv_at hl 2 rfl) ?_
      refine lv_bipush (v := iZ 8) hx hb dX6_lettersIn_5 (by decide) ?_
      refine z_icmp_ge (tgt := 55) hx hb dX6_lettersIn_7 (by decide) (by first | assumption | omega) (by first | assumption | omega) (fun c_7 => ?_) (fun c_7 => ?_)
      · refine lv_iload_n hx hb dX6_lettersIn_55 rfl (lv_at hl 1 rfl) ?_
        exact z_iret hx hb hr hlocks hP hD hS dX6_lettersIn_56 rfl (by have e8 : i = 8 := (by omega); subst e8; have e9 : q = cntB w0 8 := hq0; exact Or.inl ⟨e9.symm, rfl, hok, by omega⟩)
      · refine lv_lload_n hx hb dX6_lettersIn_10 rfl (lv_at hl 0 rfl) ?_
        refine lv_iload_n hx hb dX6_lettersIn_11 rfl (lv_at hl 2 rfl) ?_
        refine z_Si (As := [.long (lZ w0), .int (iZ i)]) (rest := []) hC (c_X6_codeIn l D cI cJ cB w0 i (by first | assumption | omega) (by first | assumption | omega)) 2 gX6_lettersIn_X6_codeIn rfl rfl rfl qX6_codeIn ⟨Nat.le_of_ble_eq_true rfl, Nat.le_of_ble_eq_true rfl⟩ ⟨Nat.le_refl _, Nat.le_refl _⟩ hK hP hD hS hA [] rfl (by decide) rfl hl.1 rfl (Nat.le_of_ble_eq_true rfl) dX6_lettersIn_12 (fun z w H locs hq hP hD hS => ?_)
        rcases hq with ⟨rfl, rfl⟩
        replace hP : va_P D vwCl [] H := hP
        replace hD : va_D A [] := hD
        have hbr := byt_rng w0 i
        refine lv_istore (lv' := [(4, .int (iZ (byt w0 i))), (0, .long (lZ w0)), (2, .int (iZ q)), (3, .int (iZ i))]) hx hb dX6_lettersIn_15 hl (by decide) rfl (fun ls hl => ?_)
        refine lv_iload hx hb dX6_lettersIn_17 (lv_at hl 0 rfl) ?_
        refine lv_bipush (v := iZ 126) hx hb dX6_lettersIn_19 (by decide) ?_
        refine z_icmp_gt (tgt := 34) hx hb dX6_lettersIn_21 (by decide) (by first | assumption | omega) (by first | assumption | omega) (fun c_21 => ?_) (fun c_21 => ?_)
        · refine lv_iconst (v := iZ (-1)) hx hb dX6_lettersIn_34 (by decide) ?_
          exact z_iret hx hb hr hlocks hP hD hS dX6_lettersIn_35 rfl (by exact Or.inr ⟨rfl, rfl, fun h => by have h1 := h i (by omega) (by omega); have h2 := h1.1; have h3 := h1.2; omega⟩)
        · refine lv_iload hx hb dX6_lettersIn_24 (lv_at hl 0 rfl) ?_
          refine z_if_eq (tgt := 36) hx hb dX6_lettersIn_26 (by decide) (by first | assumption | omega) (fun c_26 => ?_) (fun c_26 => ?_)
          · refine lv_iload_n hx hb dX6_lettersIn_36 rfl (lv_at hl 2 rfl) ?_
            refine lv_iload hx hb dX6_lettersIn_37 (lv_at hl 0 rfl) ?_
            refine z_if_eq (tgt := 46) hx hb dX6_lettersIn_39 (by decide) (by first | assumption | omega) (fun c_39 => ?_) (fun c_39 => ?_)
            · refine lv_iconst (v := iZ 0) hx hb dX6_lettersIn_46 (by decide) ?_
              refine z_iadd hx hb dX6_lettersIn_47 ?_
              refine lv_istore_n (lv' := [(2, .int (iZ (q + 0))), (4, .int (iZ (byt w0 i))), (0, .long (lZ w0)), (3, .int (iZ i))]) hx hb dX6_lettersIn_48 rfl hl (by decide) rfl (fun ls hl => ?_)
              refine z_iinc (lv' := [(3, .int (iZ (i + 1))), (2, .int (iZ (q + 0))), (4, .int (iZ (byt w0 i))), (0, .long (lZ w0))]) hx hb dX6_lettersIn_49 hl (k := 3) rfl (by decide) rfl (fun ls hl => ?_)
              refine lv_goto (tgt := 4) hx hb dX6_lettersIn_52 (by decide) ?_
              exact ih4 (i + 1) (q + 0) (by first | assumption | omega) (by rw [cntB_s (by omega)]; (first | rw [if_pos (by assumption)] | rw [if_neg (by assumption)]); omega) (by first | assumption | omega) (by exact okB_s hok ⟨by omega, by first | (left; assumption) | (right; omega)⟩) (by omega) _ _ _ hP hD hS (lv_sub hl [3, 1, 0] rfl)
            · refine lv_iconst (v := iZ 1) hx hb dX6_lettersIn_42 (by decide) ?_
              refine lv_goto (tgt := 47) hx hb dX6_lettersIn_43 (by decide) ?_
              refine z_iadd hx hb dX6_lettersIn_47 ?_
              refine lv_istore_n (lv' := [(2, .int (iZ (q + 1))), (4, .int (iZ (byt w0 i))), (0, .long (lZ w0)), (3, .int (iZ i))]) hx hb dX6_lettersIn_48 rfl hl (by decide) rfl (fun ls hl => ?_)
              refine z_iinc (lv' := [(3, .int (iZ (i + 1))), (2, .int (iZ (q + 1))), (4, .int (iZ (byt w0 i))), (0, .long (lZ w0))]) hx hb dX6_lettersIn_49 hl (k := 3) rfl (by decide) rfl (fun ls hl => ?_)
              refine lv_goto (tgt := 4) hx hb dX6_lettersIn_52 (by decide) ?_
              exact ih4 (i + 1) (q + 1) (by first | assumption | omega) (by rw [cntB_s (by omega)]; (first | rw [if_pos (by assumption)] | rw [if_neg (by assumption)]); omega) (by first | assumption | omega) (by exact okB_s hok ⟨by omega, by first | (left; assumption) | (right; omega)⟩) (by omega) _ _ _ hP hD hS (lv_sub hl [3, 1, 0] rfl)
          · refine lv_iload_n hx hb dX6_lettersIn_29 rfl (lv_at hl 2 rfl) ?_
            refine lv_iload_n hx hb dX6_lettersIn_30 rfl (lv_at hl 3 rfl) ?_
            refine z_icmp_ge (tgt := 36) hx hb dX6_lettersIn_31 (by decide) (by first | assumption | omega) (by first | assumption | omega) (fun c_31 => ?_) (fun c_31 => ?_)
            · refine lv_iload_n hx hb dX6_lettersIn_36 rfl (lv_at hl 2 rfl) ?_
              refine lv_iload hx hb dX6_lettersIn_37 (lv_at hl 0 rfl) ?_
              refine z_if_eq (tgt := 46) hx hb dX6_lettersIn_39 (by decide) (by first | assumption | omega) (fun c_39 => ?_) (fun c_39 => ?_)
              · refine lv_iconst (v := iZ 0) hx hb dX6_lettersIn_46 (by decide) ?_
                refine z_iadd hx hb dX6_lettersIn_47 ?_
                refine lv_istore_n (lv' := [(2, .int (iZ (q + 0))), (4, .int (iZ (byt w0 i))), (0, .long (lZ w0)), (3, .int (iZ i))]) hx hb dX6_lettersIn_48 rfl hl (by decide) rfl (fun ls hl => ?_)
                refine z_iinc (lv' := [(3, .int (iZ (i + 1))), (2, .int (iZ (q + 0))), (4, .int (iZ (byt w0 i))), (0, .long (lZ w0))]) hx hb dX6_lettersIn_49 hl (k := 3) rfl (by decide) rfl (fun ls hl => ?_)
                refine lv_goto (tgt := 4) hx hb dX6_lettersIn_52 (by decide) ?_
                exact ih4 (i + 1) (q + 0) (by first | assumption | omega) (by rw [cntB_s (by omega)]; (first | rw [if_pos (by assumption)] | rw [if_neg (by assumption)]); omega) (by first | assumption | omega) (by exact okB_s hok ⟨by omega, by first | (left; assumption) | (right; omega)⟩) (by omega) _ _ _ hP hD hS (lv_sub hl [3, 1, 0] rfl)
              · refine lv_iconst (v := iZ 1) hx hb dX6_lettersIn_42 (by decide) ?_
                refine lv_goto (tgt := 47) hx hb dX6_lettersIn_43 (by decide) ?_
                refine z_iadd hx hb dX6_lettersIn_47 ?_
                refine lv_istore_n (lv' := [(2, .int (iZ (q + 1))), (4, .int (iZ (byt w0 i))), (0, .long (lZ w0)), (3, .int (iZ i))]) hx hb dX6_lettersIn_48 rfl hl (by decide) rfl (fun ls hl => ?_)
                refine z_iinc (lv' := [(3, .int (iZ (i + 1))), (2, .int (iZ (q + 1))), (4, .int (iZ (byt w0 i))), (0, .long (lZ w0))]) hx hb dX6_lettersIn_49 hl (k := 3) rfl (by decide) rfl (fun ls hl => ?_)
                refine lv_goto (tgt := 4) hx hb dX6_lettersIn_52 (by decide) ?_
                exact ih4 (i + 1) (q + 1) (by first | assumption | omega) (by rw [cntB_s (by omega)]; (first | rw [if_pos (by assumption)] | rw [if_neg (by assumption)]); omega) (by first | assumption | omega) (by exact okB_s hok ⟨by omega, by first | (left; assumption) | (right; omega)⟩) (by omega) _ _ _ hP hD hS (lv_sub hl [3, 1, 0] rfl)
            · refine lv_iconst (v := iZ (-1)) hx hb dX6_lettersIn_34 (by decide) ?_
              exact z_iret hx hb hr hlocks hP hD hS dX6_lettersIn_35 rfl (by exact Or.inr ⟨rfl, rfl, fun h => by have h1 := h i (by omega) (by omega); have h2 := h1.1; have h3 := h1.2; omega⟩)
  exact lp4 ((8 - 0 : Int) + 1).toNat 0 0 (by first | assumption | omega) (by rfl) (by first | assumption | omega) (by intro j h0 h1; omega) (by omega) _ _ _ hP hD hS (lv_sub hl [2, 1, 0] rfl)
theorem qX6_append : yX6_append.cls ≠ "java/lang/invoke/MethodHandle" ∧ yX6_append.cls ≠ "java/lang/invoke/VarHandle" ∧ (parseMethodDescriptor yX6_append.desc).map (fun d => d.parameters.length) = some 2 := by decide +kernel
set_option maxHeartbeats 4000000 in
set_option maxRecDepth 100000 in
theorem c_X6_append (l : Launch) (D : va_G) (cI cJ cB : ClassId) (xp xpc : Nat) (pg : Int → Int) (n w0 q : Int) (hn : 0 ≤ n ∧ n ≤ 50) (hw : -9223372036854775808 ≤ w0 ∧ w0 < 9223372036854775808) (hq : 0 ≤ q ∧ q ≤ 8) (hnq : n + q ≤ 50) : zMv l yX6_append wsX6_append (zRm 1 22) D (zT cI cJ cB) [.ref xp, .long (lZ w0), .int (iZ q)] [(xp, ob 6 [.ref xpc, .int (iZ n)]), (xpc, aI cI 50 pg)] (fun (w : va_W) => w = [(xp, ob 6 [.ref xpc, .int (iZ (n + q))]), (xpc, aI cI 50 (apg w0 pg n q))]) := by
  refine z_of (Qc := fun A => zQv D [(xp, ob 6 [.ref xpc, .int (iZ n)]), (xpc, aI cI 50 pg)] A _) (cc := cX6_append) (maxL := 5) (ret := none) (by decide) rfl (Nat.le_of_ble_eq_true rfl) ?_
  intro p e s m below meth c A ls hx hb hr hts hown hlocks hml hK hP hD hS hA hl
  replace hown : s.vm.findClass RX6 = some m.cls := hown
  have hC : CallFix p m c cX6_append 5 s _ wsX6_append RX6 := ⟨hx, hb, hml, hown, hts⟩
  replace hl : lv_has ls 5 [(0, .ref xp), (1, .long (lZ w0)), (3, .int (iZ q))] := hl
  have iwX6 : ∀ w ∈ u_ws RX6 TX6 2, w ∈ wsX6_append := fun w h => List.mem_cons_of_mem _ (List.mem_append_right _ h)
  have fl11 : Cond.fieldLink RX6 11 "GrowsByHalf$Page" "codes" "[I" ∈ wsX6_append := by decide +kernel
  have fl21 : Cond.fieldLink RX6 21 "GrowsByHalf$Page" "length" "I" ∈ wsX6_append := by decide +kernel
  refine lv_iconst (v := iZ 0) hx hb dX6_append_0 (by decide) ?_
  refine lv_istore (lv' := [(4, .int (iZ 0)), (0, .ref xp), (1, .long (lZ w0)), (3, .int (iZ q))]) hx hb dX6_append_1 hl (by decide) rfl (fun ls hl => ?_)
  have lp3 : ∀ fuel : Nat, ∀ (i n1 : Int) (g1 : Int → Int), (0 ≤ i ∧ i ≤ q) → (n1 = n + i) → (g1 = apg w0 pg n i) → (q - i) < (fuel : Int) → ∀ (H : Heap) (locs : List Loc) (ls : Array Slot), va_P D vwCl [(xp, ob 6 [.ref xpc, .int (iZ n1)]), (xpc, aI cI 50 g1)] H → va_D A [(xp, ob 6 [.ref xpc, .int (iZ n1)]), (xpc, aI cI 50 g1)] → va_S A s.heap H locs → lv_has ls 5 [(0, .ref xp), (1, .long (lZ w0)), (3, .int (iZ q)), (4, .int (iZ i))] → W p l e (zRm 1 22) s m [.ref xp, .long (lZ w0), .int (iZ q)].toArray below meth c H locs 0 0 (MQ below (zQv D [(xp, ob 6 [.ref xpc, .int (iZ n)]), (xpc, aI cI 50 pg)] A (fun (w : va_W) => w = [(xp, ob 6 [.ref xpc, .int (iZ (n + q))]), (xpc, aI cI 50 (apg w0 pg n q))])) [.ref xp, .long (lZ w0), .int (iZ q)].toArray s 0 0 A) (F0 m 3 ls []) := by
    intro fuel
    induction fuel with
    | zero => intro i n1 g1 hi hn1 hg1 hmu3; exact absurd hmu3 (by omega)
    | succ fuel ih3 =>
      intro i n1 g1 hi hn1 hg1 hmu3 H locs ls hP hD hS hl
      refine lv_iload hx hb dX6_append_3 (lv_at hl 3 rfl) ?_
      refine lv_iload_n hx hb dX6_append_5 rfl (lv_at hl 2 rfl) ?_
      refine z_icmp_ge (tgt := 49) hx hb dX6_append_6 (by decide) (by first | assumption | omega) (by first | assumption | omega) (fun c_6 => ?_) (fun c_6 => ?_)
      · exact z_vret hx hb hr hlocks hP hD hS dX6_append_49 rfl (by rw [hn1, hg1, show i = q from by omega])
      · refine lv_aload_n hx hb dX6_append_9 rfl (lv_at hl 0 rfl) ?_
        refine z_get (C := RX6) (T0 := TX6) (N := 2) (ci := 6) (v := .int (iZ n1)) hx hb hts hown hK hP iwX6 rfl 0 rfl 1 (by decide) fl21 rfl dX6_append_10 ?_
        refine lv_bipush (v := iZ 50) hx hb dX6_append_13 (by decide) ?_
        refine z_icmp_ge (tgt := 49) hx hb dX6_append_15 (by decide) (by first | assumption | omega) (by first | assumption | omega) (fun c_15 => ?_) (fun c_15 => ?_)
        · exact z_vret hx hb hr hlocks hP hD hS dX6_append_49 rfl (by rw [hn1, hg1, show i = q from by omega])
        · refine lv_aload_n hx hb dX6_append_18 rfl (lv_at hl 0 rfl) ?_
          refine z_get (C := RX6) (T0 := TX6) (N := 2) (ci := 6) (v := .ref xpc) hx hb hts hown hK hP iwX6 rfl 0 rfl 0 (by decide) fl11 rfl dX6_append_19 ?_
          refine lv_aload_n hx hb dX6_append_22 rfl (lv_at hl 0 rfl) ?_
          refine z_get (C := RX6) (T0 := TX6) (N := 2) (ci := 6) (v := .int (iZ n1)) hx hb hts hown hK hP iwX6 rfl 0 rfl 1 (by decide) fl21 rfl dX6_append_23 ?_
          refine lv_lload_n hx hb dX6_append_26 rfl (lv_at hl 1 rfl) ?_
          refine lv_iload hx hb dX6_append_27 (lv_at hl 3 rfl) ?_
          refine z_Si (As := [.long (lZ w0), .int (iZ i)]) (rest := [.int (iZ n1), .ref xpc]) hC (c_X6_codeIn l D cI cJ cB w0 i (by first | assumption | omega) (by first | assumption | omega)) 2 gX6_append_X6_codeIn rfl rfl rfl qX6_codeIn ⟨Nat.le_of_ble_eq_true rfl, Nat.le_of_ble_eq_true rfl⟩ ⟨Nat.le_refl _, Nat.le_refl _⟩ hK hP hD hS hA [] rfl (by decide) rfl hl.1 rfl (Nat.le_of_ble_eq_true rfl) dX6_append_29 (fun z w H locs hq hP hD hS => ?_)
          rcases hq with ⟨rfl, rfl⟩
          replace hP : va_P D vwCl [(xp, ob 6 [.ref xpc, .int (iZ n1)]), (xpc, aI cI 50 g1)] H := hP
          replace hD : va_D A [(xp, ob 6 [.ref xpc, .int (iZ n1)]), (xpc, aI cI 50 g1)] := hD
          refine z_iast hx hb hK hP hD hS 1 0 rfl rfl (by decide) (by first | assumption | omega) dX6_append_32 (fun H locs hP hD hS => ?_)
          replace hP : va_P D vwCl [(xp, ob 6 [.ref xpc, .int (iZ n1)]), (xpc, aI cI 50 (zu g1 n1 (byt w0 i)))] H := hP
          replace hD : va_D A [(xp, ob 6 [.ref xpc, .int (iZ n1)]), (xpc, aI cI 50 (zu g1 n1 (byt w0 i)))] := hD
          refine lv_aload_n hx hb dX6_append_33 rfl (lv_at hl 0 rfl) ?_
          refine lv_dup hx hb dX6_append_34 rfl ?_
          refine z_get (C := RX6) (T0 := TX6) (N := 2) (ci := 6) (v := .int (iZ n1)) hx hb hts hown hK hP iwX6 rfl 0 rfl 1 (by decide) fl21 rfl dX6_append_35 ?_
          refine lv_iconst (v := iZ 1) hx hb dX6_append_38 (by decide) ?_
          refine z_iadd hx hb dX6_append_39 ?_
          refine z_put (C := RX6) (T0 := TX6) (N := 2) (ci := 6) (v := .int (iZ (n1 + 1))) hx hb hts hown hK hP hD hS iwX6 tyX6_ok nmX6 rfl 0 rfl 1 (by decide) fl21 rfl rfl rfl (Nat.le_of_ble_eq_true rfl) dX6_append_40 (fun H locs hP hD hS => ?_)
          replace hP : va_P D vwCl [(xp, ob 6 [.ref xpc, .int (iZ (n1 + 1))]), (xpc, aI cI 50 (zu g1 n1 (byt w0 i)))] H := hP
          replace hD : va_D A [(xp, ob 6 [.ref xpc, .int (iZ (n1 + 1))]), (xpc, aI cI 50 (zu g1 n1 (byt w0 i)))] := hD
          refine z_iinc (lv' := [(4, .int (iZ (i + 1))), (0, .ref xp), (1, .long (lZ w0)), (3, .int (iZ q))]) hx hb dX6_append_43 hl (k := 3) rfl (by decide) rfl (fun ls hl => ?_)
          refine lv_goto (tgt := 3) hx hb dX6_append_46 (by decide) ?_
          exact ih3 (i + 1) (n1 + 1) (zu g1 n1 (byt w0 i)) (by first | assumption | omega) (by omega) (by rw [hg1, hn1]; exact apg_s w0 pg (by omega)) (by omega) _ _ _ hP hD hS (lv_sub hl [1, 2, 3, 0] rfl)
  exact lp3 ((q - 0 : Int) + 1).toNat 0 n pg (by first | assumption | omega) (by omega) (by exact (apg_0 w0 pg n).symm) (by omega) _ _ _ hP hD hS (lv_sub hl [1, 2, 3, 0] rfl)
theorem qX4_faultIn : yX4_faultIn.cls ≠ "java/lang/invoke/MethodHandle" ∧ yX4_faultIn.cls ≠ "java/lang/invoke/VarHandle" ∧ (parseMethodDescriptor yX4_faultIn.desc).map (fun d => d.parameters.length) = some 1 := by decide +kernel
set_option maxHeartbeats 4000000 in
set_option maxRecDepth 100000 in
theorem c_X4_faultIn (l : Launch) (D : va_G) (cI cJ cB : ClassId) (xp xpc : Nat) (pg : Int → Int) (n : Int) (hn : 0 ≤ n ∧ n ≤ 50) (hpg : ∀ j, 0 ≤ pg j ∧ pg j ≤ 126) : zMi l yX4_faultIn wsX4_faultIn (zRm 2 43) D (zT cI cJ cB) [.ref xp] [(xp, ob 6 [.ref xpc, .int (iZ n)]), (xpc, aI cI 50 pg)] (fun (z : Int) (w : va_W) => (∃ (x : Int), x = z ∧ w = [(xp, ob 6 [.ref xpc, .int (iZ n)]), (xpc, aI cI 50 pg)] ∧ LF n pg x)) := by
  refine z_of (Qc := fun A => zQi D [(xp, ob 6 [.ref xpc, .int (iZ n)]), (xpc, aI cI 50 pg)] A _) (cc := cX4_faultIn) (maxL := 5) (ret := (some .int)) (by decide) rfl (Nat.le_of_ble_eq_true rfl) ?_
  intro p e s m below meth c A ls hx hb hr hts hown hlocks hml hK hP hD hS hA hl
  replace hown : s.vm.findClass RX4 = some m.cls := hown
  have hC : CallFix p m c cX4_faultIn 5 s _ wsX4_faultIn RX4 := ⟨hx, hb, hml, hown, hts⟩
  replace hl : lv_has ls 5 [(0, .ref xp)] := hl
  refine lv_iconst (v := iZ 0) hx hb dX4_faultIn_0 (by decide) ?_
  refine lv_istore_n (lv' := [(1, .int (iZ 0)), (0, .ref xp)]) hx hb dX4_faultIn_1 rfl hl (by decide) rfl (fun ls hl => ?_)
  refine lv_iconst (v := iZ 0) hx hb dX4_faultIn_2 (by decide) ?_
  refine lv_istore_n (lv' := [(2, .int (iZ 0)), (1, .int (iZ 0)), (0, .ref xp)]) hx hb dX4_faultIn_3 rfl hl (by decide) rfl (fun ls hl => ?_)
  have lp4 : ∀ fuel : Nat, ∀ (i op : Int), (0 ≤ i ∧ i ≤ n) → (op = cntO pg i.toNat) → (allL pg i) → (n - i) < (fuel : Int) → ∀ (H : Heap) (locs : List Loc) (ls : Array Slot), va_P D vwCl [(xp, ob 6 [.ref xpc, .int (iZ n)]), (xpc, aI cI 50 pg)] H → va_D A [(xp, ob 6 [.ref xpc, .int (iZ n)]), (xpc, aI cI 50 pg)] → va_S A s.heap H locs → lv_has ls 5 [(0, .ref xp), (1, .int (iZ op)), (2, .int (iZ i))] → W p l e (zRm 2 43) s m [.ref xp].toArray below meth c H locs 0 0 (MQ below (zQi D [(xp, ob 6 [.ref xpc, .int (iZ n)]), (xpc, aI cI 50 pg)] A (fun (z : Int) (w : va_W) => (∃ (x : Int), x = z ∧ w = [(xp, ob 6 [.ref xpc, .int (iZ n)]), (xpc, aI cI 50 pg)] ∧ LF n pg x))) [.ref xp].toArray s 0 0 A) (F0 m 4 ls []) := by
    intro fuel
    induction fuel with
    | zero => intro i op hi hop hal hmu4; exact absurd hmu4 (by omega)
    | succ fuel ih4 =>
      intro i op hi hop hal hmu4 H locs ls hP hD hS hl
      refine lv_iload_n hx hb dX4_faultIn_4 rfl (lv_at hl 2 rfl) ?_
      refine lv_aload_n hx hb dX4_faultIn_5 rfl (lv_at hl 0 rfl) ?_
      refine z_Vi (As := []) (rest := [.int (iZ i)]) hC (c_X6_length l D cI cJ cB xp xpc n ) 0 gX4_faultIn_X6_length rfl rfl rfl ⟨rfl, qX6_length⟩ ⟨Nat.le_of_ble_eq_true rfl, Nat.le_of_ble_eq_true rfl⟩ ⟨Nat.le_refl _, Nat.le_refl _⟩ hK hP hD hS hA [0] rfl (by decide) 0 rfl rfl rfl hl.1 rfl (Nat.le_of_ble_eq_true rfl) dX4_faultIn_6 (fun z w H locs hq hP hD hS => ?_)
      rcases hq with ⟨rfl, rfl⟩
      replace hP : va_P D vwCl [(xp, ob 6 [.ref xpc, .int (iZ n)]), (xpc, aI cI 50 pg)] H := hP
      replace hD : va_D A [(xp, ob 6 [.ref xpc, .int (iZ n)]), (xpc, aI cI 50 pg)] := hD
      refine z_icmp_ge (tgt := 72) hx hb dX4_faultIn_9 (by decide) (by first | assumption | omega) (by first | assumption | omega) (fun c_9 => ?_) (fun c_9 => ?_)
      · refine lv_aload_n hx hb dX4_faultIn_72 rfl (lv_at hl 0 rfl) ?_
        refine z_Vi (As := []) (rest := []) hC (c_X6_length l D cI cJ cB xp xpc n ) 0 gX4_faultIn_X6_length rfl rfl rfl ⟨rfl, qX6_length⟩ ⟨Nat.le_of_ble_eq_true rfl, Nat.le_of_ble_eq_true rfl⟩ ⟨Nat.le_refl _, Nat.le_refl _⟩ hK hP hD hS hA [0] rfl (by decide) 0 rfl rfl rfl hl.1 rfl (Nat.le_of_ble_eq_true rfl) dX4_faultIn_73 (fun z w H locs hq hP hD hS => ?_)
        rcases hq with ⟨rfl, rfl⟩
        replace hP : va_P D vwCl [(xp, ob 6 [.ref xpc, .int (iZ n)]), (xpc, aI cI 50 pg)] H := hP
        replace hD : va_D A [(xp, ob 6 [.ref xpc, .int (iZ n)]), (xpc, aI cI 50 pg)] := hD
        exact z_iret hx hb hr hlocks hP hD hS dX4_faultIn_76 rfl (by exact ⟨n, rfl, rfl, by omega, by omega, by rw [show n = i from by omega]; exact hal, fun h => absurd h (by omega)⟩)
      · refine lv_aload_n hx hb dX4_faultIn_12 rfl (lv_at hl 0 rfl) ?_
        have hpi := hpg i
        have hpi1 := hpg (i - 1)
        have hco := cntO_le (by omega : 0 ≤ i) hal
        refine lv_iload_n hx hb dX4_faultIn_13 rfl (lv_at hl 2 rfl) ?_
        refine lv_iconst (v := iZ 1) hx hb dX4_faultIn_14 (by decide) ?_
        refine z_isub hx hb dX4_faultIn_15 ?_
        refine z_Vi (As := [.int (iZ (i - 1))]) (rest := []) hC (c_X6_letterAt l D cI cJ cB xp xpc pg n (i - 1) (by first | assumption | omega) (by first | assumption | omega)) 1 gX4_faultIn_X6_letterAt rfl rfl rfl ⟨rfl, qX6_letterAt⟩ ⟨Nat.le_of_ble_eq_true rfl, Nat.le_of_ble_eq_true rfl⟩ ⟨Nat.le_refl _, Nat.le_refl _⟩ hK hP hD hS hA [0, 1] rfl (by decide) 0 rfl rfl rfl hl.1 rfl (Nat.le_of_ble_eq_true rfl) dX4_faultIn_16 (fun z w H locs hq hP hD hS => ?_)
        rcases hq with ⟨rfl, rfl, hc3_0⟩ | ⟨rfl, rfl, hc3_0⟩
        · replace hP : va_P D vwCl [(xp, ob 6 [.ref xpc, .int (iZ n)]), (xpc, aI cI 50 pg)] H := hP
          replace hD : va_D A [(xp, ob 6 [.ref xpc, .int (iZ n)]), (xpc, aI cI 50 pg)] := hD
          have hpv := prv_a (pg := pg) (n := n) (i := i) (by assumption)
          refine lv_istore_n (lv' := [(3, .int (iZ (pg (i - 1)))), (0, .ref xp), (1, .int (iZ op)), (2, .int (iZ i))]) hx hb dX4_faultIn_19 rfl hl (by decide) rfl (fun ls hl => ?_)
          refine lv_aload_n hx hb dX4_faultIn_20 rfl (lv_at hl 1 rfl) ?_
          refine lv_iload_n hx hb dX4_faultIn_21 rfl (lv_at hl 3 rfl) ?_
          refine z_Vi (As := [.int (iZ i)]) (rest := []) hC (c_X6_letterAt l D cI cJ cB xp xpc pg n i (by first | assumption | omega) (by first | assumption | omega)) 1 gX4_faultIn_X6_letterAt rfl rfl rfl ⟨rfl, qX6_letterAt⟩ ⟨Nat.le_of_ble_eq_true rfl, Nat.le_of_ble_eq_true rfl⟩ ⟨Nat.le_refl _, Nat.le_refl _⟩ hK hP hD hS hA [0, 1] rfl (by decide) 0 rfl rfl rfl hl.1 rfl (Nat.le_of_ble_eq_true rfl) dX4_faultIn_22 (fun z w H locs hq hP hD hS => ?_)
          rcases hq with ⟨rfl, rfl, hc4_0⟩ | ⟨rfl, rfl, hc4_0⟩
          · replace hP : va_P D vwCl [(xp, ob 6 [.ref xpc, .int (iZ n)]), (xpc, aI cI 50 pg)] H := hP
            replace hD : va_D A [(xp, ob 6 [.ref xpc, .int (iZ n)]), (xpc, aI cI 50 pg)] := hD
            refine lv_istore (lv' := [(4, .int (iZ (pg i))), (3, .int (iZ (pg (i - 1)))), (0, .ref xp), (1, .int (iZ op)), (2, .int (iZ i))]) hx hb dX4_faultIn_25 hl (by decide) rfl (fun ls hl => ?_)
            refine lv_iload_n hx hb dX4_faultIn_27 rfl (lv_at hl 1 rfl) ?_
            refine z_Si (As := [.int (iZ (pg (i - 1)))]) (rest := []) hC (c_X4_wantsDigit l D cI cJ cB (pg (i - 1)) (by first | assumption | omega)) 1 gX4_faultIn_X4_wantsDigit rfl rfl rfl qX4_wantsDigit ⟨Nat.le_of_ble_eq_true rfl, Nat.le_of_ble_eq_true rfl⟩ ⟨Nat.le_refl _, Nat.le_refl _⟩ hK hP hD hS hA [] rfl (by decide) rfl hl.1 rfl (Nat.le_of_ble_eq_true rfl) dX4_faultIn_28 (fun z w H locs hq hP hD hS => ?_)
            rcases hq with ⟨rfl, rfl, hc5_0⟩ | ⟨rfl, rfl, hc5_0⟩
            · replace hP : va_P D vwCl [(xp, ob 6 [.ref xpc, .int (iZ n)]), (xpc, aI cI 50 pg)] H := hP
              replace hD : va_D A [(xp, ob 6 [.ref xpc, .int (iZ n)]), (xpc, aI cI 50 pg)] := hD
              refine z_if_eq (tgt := 45) hx hb dX4_faultIn_31 (by decide) (by first | assumption | omega) (fun h => absurd h (by decide)) (fun _ => ?_)
              refine lv_iload_n hx hb dX4_faultIn_34 rfl (lv_at hl 1 rfl) ?_
              refine lv_iload hx hb dX4_faultIn_35 (lv_at hl 0 rfl) ?_
              refine z_Si (As := [.int (iZ (pg (i - 1))), .int (iZ (pg i))]) (rest := []) hC (c_X4_isDigitOf l D cI cJ cB (pg (i - 1)) (pg i) (by first | assumption | omega) (by first | assumption | omega)) 2 gX4_faultIn_X4_isDigitOf rfl rfl rfl qX4_isDigitOf ⟨Nat.le_of_ble_eq_true rfl, Nat.le_of_ble_eq_true rfl⟩ ⟨Nat.le_refl _, Nat.le_refl _⟩ hK hP hD hS hA [] rfl (by decide) rfl hl.1 rfl (Nat.le_of_ble_eq_true rfl) dX4_faultIn_37 (fun z w H locs hq hP hD hS => ?_)
              rcases hq with ⟨rfl, rfl, hc6_0⟩ | ⟨rfl, rfl, hc6_0⟩
              · replace hP : va_P D vwCl [(xp, ob 6 [.ref xpc, .int (iZ n)]), (xpc, aI cI 50 pg)] H := hP
                replace hD : va_D A [(xp, ob 6 [.ref xpc, .int (iZ n)]), (xpc, aI cI 50 pg)] := hD
                refine z_if_ne (tgt := 66) hx hb dX4_faultIn_40 (by decide) (by first | assumption | omega) (fun _ => ?_) (fun h => absurd h (by decide))
                refine z_iinc (lv' := [(2, .int (iZ (i + 1))), (4, .int (iZ (pg i))), (3, .int (iZ (pg (i - 1)))), (0, .ref xp), (1, .int (iZ op))]) hx hb dX4_faultIn_66 hl (k := 4) rfl (by decide) rfl (fun ls hl => ?_)
                refine lv_goto (tgt := 4) hx hb dX4_faultIn_69 (by decide) ?_
                exact ih4 (i + 1) op (by first | assumption | omega) (by rw [cntO_s (by omega)]; (first | rw [if_pos (by assumption)] | rw [if_neg (by omega)]); omega) (by refine allL_s hal ?_; first | (refine Or.inl ⟨?_, ?_⟩ <;> rw [hpv] <;> assumption) | (refine Or.inr ⟨?_, by assumption, by omega⟩; rw [hpv]; assumption)) (by omega) _ _ _ hP hD hS (lv_sub hl [3, 4, 0] rfl)
              · replace hP : va_P D vwCl [(xp, ob 6 [.ref xpc, .int (iZ n)]), (xpc, aI cI 50 pg)] H := hP
                replace hD : va_D A [(xp, ob 6 [.ref xpc, .int (iZ n)]), (xpc, aI cI 50 pg)] := hD
                refine z_if_ne (tgt := 66) hx hb dX4_faultIn_40 (by decide) (by first | assumption | omega) (fun h => absurd h (by decide)) (fun _ => ?_)
                refine lv_iload_n hx hb dX4_faultIn_43 rfl (lv_at hl 4 rfl) ?_
                exact z_iret hx hb hr hlocks hP hD hS dX4_faultIn_44 rfl (by refine ⟨i, rfl, rfl, by omega, by omega, hal, fun _ hg => ?_⟩; rcases hg with ⟨h1, h2⟩ | ⟨h1, h2⟩; (rw [hpv] at h2; contradiction); (rw [hpv] at h1; contradiction))
            · replace hP : va_P D vwCl [(xp, ob 6 [.ref xpc, .int (iZ n)]), (xpc, aI cI 50 pg)] H := hP
              replace hD : va_D A [(xp, ob 6 [.ref xpc, .int (iZ n)]), (xpc, aI cI 50 pg)] := hD
              refine z_if_eq (tgt := 45) hx hb dX4_faultIn_31 (by decide) (by first | assumption | omega) (fun _ => ?_) (fun h => absurd h (by decide))
              refine lv_iload hx hb dX4_faultIn_45 (lv_at hl 0 rfl) ?_
              refine z_Si (As := [.int (iZ (pg i))]) (rest := []) hC (c_X4_opensStep l D cI cJ cB (pg i) (by first | assumption | omega)) 1 gX4_faultIn_X4_opensStep rfl rfl rfl qX4_opensStep ⟨Nat.le_of_ble_eq_true rfl, Nat.le_of_ble_eq_true rfl⟩ ⟨Nat.le_refl _, Nat.le_refl _⟩ hK hP hD hS hA [] rfl (by decide) rfl hl.1 rfl (Nat.le_of_ble_eq_true rfl) dX4_faultIn_47 (fun z w H locs hq hP hD hS => ?_)
              rcases hq with ⟨rfl, rfl, hc7_0⟩ | ⟨rfl, rfl, hc7_0⟩
              · replace hP : va_P D vwCl [(xp, ob 6 [.ref xpc, .int (iZ n)]), (xpc, aI cI 50 pg)] H := hP
                replace hD : va_D A [(xp, ob 6 [.ref xpc, .int (iZ n)]), (xpc, aI cI 50 pg)] := hD
                refine z_if_eq (tgt := 64) hx hb dX4_faultIn_50 (by decide) (by first | assumption | omega) (fun h => absurd h (by decide)) (fun _ => ?_)
                refine lv_iload_n hx hb dX4_faultIn_53 rfl (lv_at hl 3 rfl) ?_
                refine lv_iconst (v := iZ 4) hx hb dX4_faultIn_54 (by decide) ?_
                refine z_icmp_ge (tgt := 64) hx hb dX4_faultIn_55 (by decide) (by first | assumption | omega) (by first | assumption | omega) (fun c_55 => ?_) (fun c_55 => ?_)
                · refine lv_iload_n hx hb dX4_faultIn_64 rfl (lv_at hl 4 rfl) ?_
                  exact z_iret hx hb hr hlocks hP hD hS dX4_faultIn_65 rfl (by refine ⟨i, rfl, rfl, by omega, by omega, hal, fun _ hg => ?_⟩; rcases hg with ⟨h1, h2⟩ | ⟨h1, h2, h3⟩; (rw [hpv] at h1; contradiction); first | contradiction | omega)
                · refine z_iinc (lv' := [(1, .int (iZ (op + 1))), (4, .int (iZ (pg i))), (3, .int (iZ (pg (i - 1)))), (0, .ref xp), (2, .int (iZ i))]) hx hb dX4_faultIn_58 hl (k := 3) rfl (by decide) rfl (fun ls hl => ?_)
                  refine lv_goto (tgt := 66) hx hb dX4_faultIn_61 (by decide) ?_
                  refine z_iinc (lv' := [(2, .int (iZ (i + 1))), (1, .int (iZ (op + 1))), (4, .int (iZ (pg i))), (3, .int (iZ (pg (i - 1)))), (0, .ref xp)]) hx hb dX4_faultIn_66 hl (k := 4) rfl (by decide) rfl (fun ls hl => ?_)
                  refine lv_goto (tgt := 4) hx hb dX4_faultIn_69 (by decide) ?_
                  exact ih4 (i + 1) (op + 1) (by first | assumption | omega) (by rw [cntO_s (by omega)]; (first | rw [if_pos (by assumption)] | rw [if_neg (by omega)]); omega) (by refine allL_s hal ?_; first | (refine Or.inl ⟨?_, ?_⟩ <;> rw [hpv] <;> assumption) | (refine Or.inr ⟨?_, by assumption, by omega⟩; rw [hpv]; assumption)) (by omega) _ _ _ hP hD hS (lv_sub hl [4, 1, 0] rfl)
              · replace hP : va_P D vwCl [(xp, ob 6 [.ref xpc, .int (iZ n)]), (xpc, aI cI 50 pg)] H := hP
                replace hD : va_D A [(xp, ob 6 [.ref xpc, .int (iZ n)]), (xpc, aI cI 50 pg)] := hD
                refine z_if_eq (tgt := 64) hx hb dX4_faultIn_50 (by decide) (by first | assumption | omega) (fun _ => ?_) (fun h => absurd h (by decide))
                refine lv_iload_n hx hb dX4_faultIn_64 rfl (lv_at hl 4 rfl) ?_
                exact z_iret hx hb hr hlocks hP hD hS dX4_faultIn_65 rfl (by refine ⟨i, rfl, rfl, by omega, by omega, hal, fun _ hg => ?_⟩; rcases hg with ⟨h1, h2⟩ | ⟨h1, h2, h3⟩; (rw [hpv] at h1; contradiction); first | contradiction | omega)
          · exfalso; omega
        · replace hP : va_P D vwCl [(xp, ob 6 [.ref xpc, .int (iZ n)]), (xpc, aI cI 50 pg)] H := hP
          replace hD : va_D A [(xp, ob 6 [.ref xpc, .int (iZ n)]), (xpc, aI cI 50 pg)] := hD
          have hpv := prv_b (pg := pg) (n := n) (i := i) (by assumption) (by omega)
          refine lv_istore_n (lv' := [(3, .int (iZ (-1))), (0, .ref xp), (1, .int (iZ op)), (2, .int (iZ i))]) hx hb dX4_faultIn_19 rfl hl (by decide) rfl (fun ls hl => ?_)
          refine lv_aload_n hx hb dX4_faultIn_20 rfl (lv_at hl 1 rfl) ?_
          refine lv_iload_n hx hb dX4_faultIn_21 rfl (lv_at hl 3 rfl) ?_
          refine z_Vi (As := [.int (iZ i)]) (rest := []) hC (c_X6_letterAt l D cI cJ cB xp xpc pg n i (by first | assumption | omega) (by first | assumption | omega)) 1 gX4_faultIn_X6_letterAt rfl rfl rfl ⟨rfl, qX6_letterAt⟩ ⟨Nat.le_of_ble_eq_true rfl, Nat.le_of_ble_eq_true rfl⟩ ⟨Nat.le_refl _, Nat.le_refl _⟩ hK hP hD hS hA [0, 1] rfl (by decide) 0 rfl rfl rfl hl.1 rfl (Nat.le_of_ble_eq_true rfl) dX4_faultIn_22 (fun z w H locs hq hP hD hS => ?_)
          rcases hq with ⟨rfl, rfl, hc8_0⟩ | ⟨rfl, rfl, hc8_0⟩
          · replace hP : va_P D vwCl [(xp, ob 6 [.ref xpc, .int (iZ n)]), (xpc, aI cI 50 pg)] H := hP
            replace hD : va_D A [(xp, ob 6 [.ref xpc, .int (iZ n)]), (xpc, aI cI 50 pg)] := hD
            refine lv_istore (lv' := [(4, .int (iZ (pg i))), (3, .int (iZ (-1))), (0, .ref xp), (1, .int (iZ op)), (2, .int (iZ i))]) hx hb dX4_faultIn_25 hl (by decide) rfl (fun ls hl => ?_)
            refine lv_iload_n hx hb dX4_faultIn_27 rfl (lv_at hl 1 rfl) ?_
            refine z_Si (As := [.int (iZ (-1))]) (rest := []) hC (c_X4_wantsDigit l D cI cJ cB (-1) (by first | assumption | omega)) 1 gX4_faultIn_X4_wantsDigit rfl rfl rfl qX4_wantsDigit ⟨Nat.le_of_ble_eq_true rfl, Nat.le_of_ble_eq_true rfl⟩ ⟨Nat.le_refl _, Nat.le_refl _⟩ hK hP hD hS hA [] rfl (by decide) rfl hl.1 rfl (Nat.le_of_ble_eq_true rfl) dX4_faultIn_28 (fun z w H locs hq hP hD hS => ?_)
            rcases hq with ⟨rfl, rfl, hc9_0⟩ | ⟨rfl, rfl, hc9_0⟩
            · replace hP : va_P D vwCl [(xp, ob 6 [.ref xpc, .int (iZ n)]), (xpc, aI cI 50 pg)] H := hP
              replace hD : va_D A [(xp, ob 6 [.ref xpc, .int (iZ n)]), (xpc, aI cI 50 pg)] := hD
              refine z_if_eq (tgt := 45) hx hb dX4_faultIn_31 (by decide) (by first | assumption | omega) (fun h => absurd h (by decide)) (fun _ => ?_)
              refine lv_iload_n hx hb dX4_faultIn_34 rfl (lv_at hl 1 rfl) ?_
              refine lv_iload hx hb dX4_faultIn_35 (lv_at hl 0 rfl) ?_
              refine z_Si (As := [.int (iZ (-1)), .int (iZ (pg i))]) (rest := []) hC (c_X4_isDigitOf l D cI cJ cB (-1) (pg i) (by first | assumption | omega) (by first | assumption | omega)) 2 gX4_faultIn_X4_isDigitOf rfl rfl rfl qX4_isDigitOf ⟨Nat.le_of_ble_eq_true rfl, Nat.le_of_ble_eq_true rfl⟩ ⟨Nat.le_refl _, Nat.le_refl _⟩ hK hP hD hS hA [] rfl (by decide) rfl hl.1 rfl (Nat.le_of_ble_eq_true rfl) dX4_faultIn_37 (fun z w H locs hq hP hD hS => ?_)
              rcases hq with ⟨rfl, rfl, hc10_0⟩ | ⟨rfl, rfl, hc10_0⟩
              · replace hP : va_P D vwCl [(xp, ob 6 [.ref xpc, .int (iZ n)]), (xpc, aI cI 50 pg)] H := hP
                replace hD : va_D A [(xp, ob 6 [.ref xpc, .int (iZ n)]), (xpc, aI cI 50 pg)] := hD
                refine z_if_ne (tgt := 66) hx hb dX4_faultIn_40 (by decide) (by first | assumption | omega) (fun _ => ?_) (fun h => absurd h (by decide))
                refine z_iinc (lv' := [(2, .int (iZ (i + 1))), (4, .int (iZ (pg i))), (3, .int (iZ (-1))), (0, .ref xp), (1, .int (iZ op))]) hx hb dX4_faultIn_66 hl (k := 4) rfl (by decide) rfl (fun ls hl => ?_)
                refine lv_goto (tgt := 4) hx hb dX4_faultIn_69 (by decide) ?_
                exact ih4 (i + 1) op (by first | assumption | omega) (by rw [cntO_s (by omega)]; (first | rw [if_pos (by assumption)] | rw [if_neg (by omega)]); omega) (by refine allL_s hal ?_; first | (refine Or.inl ⟨?_, ?_⟩ <;> rw [hpv] <;> assumption) | (refine Or.inr ⟨?_, by assumption, by omega⟩; rw [hpv]; assumption)) (by omega) _ _ _ hP hD hS (lv_sub hl [3, 4, 0] rfl)
              · replace hP : va_P D vwCl [(xp, ob 6 [.ref xpc, .int (iZ n)]), (xpc, aI cI 50 pg)] H := hP
                replace hD : va_D A [(xp, ob 6 [.ref xpc, .int (iZ n)]), (xpc, aI cI 50 pg)] := hD
                refine z_if_ne (tgt := 66) hx hb dX4_faultIn_40 (by decide) (by first | assumption | omega) (fun h => absurd h (by decide)) (fun _ => ?_)
                refine lv_iload_n hx hb dX4_faultIn_43 rfl (lv_at hl 4 rfl) ?_
                exact z_iret hx hb hr hlocks hP hD hS dX4_faultIn_44 rfl (by refine ⟨i, rfl, rfl, by omega, by omega, hal, fun _ hg => ?_⟩; rcases hg with ⟨h1, h2⟩ | ⟨h1, h2⟩; (rw [hpv] at h2; contradiction); (rw [hpv] at h1; contradiction))
            · replace hP : va_P D vwCl [(xp, ob 6 [.ref xpc, .int (iZ n)]), (xpc, aI cI 50 pg)] H := hP
              replace hD : va_D A [(xp, ob 6 [.ref xpc, .int (iZ n)]), (xpc, aI cI 50 pg)] := hD
              refine z_if_eq (tgt := 45) hx hb dX4_faultIn_31 (by decide) (by first | assumption | omega) (fun _ => ?_) (fun h => absurd h (by decide))
              refine lv_iload hx hb dX4_faultIn_45 (lv_at hl 0 rfl) ?_
              refine z_Si (As := [.int (iZ (pg i))]) (rest := []) hC (c_X4_opensStep l D cI cJ cB (pg i) (by first | assumption | omega)) 1 gX4_faultIn_X4_opensStep rfl rfl rfl qX4_opensStep ⟨Nat.le_of_ble_eq_true rfl, Nat.le_of_ble_eq_true rfl⟩ ⟨Nat.le_refl _, Nat.le_refl _⟩ hK hP hD hS hA [] rfl (by decide) rfl hl.1 rfl (Nat.le_of_ble_eq_true rfl) dX4_faultIn_47 (fun z w H locs hq hP hD hS => ?_)
              rcases hq with ⟨rfl, rfl, hc11_0⟩ | ⟨rfl, rfl, hc11_0⟩
              · replace hP : va_P D vwCl [(xp, ob 6 [.ref xpc, .int (iZ n)]), (xpc, aI cI 50 pg)] H := hP
                replace hD : va_D A [(xp, ob 6 [.ref xpc, .int (iZ n)]), (xpc, aI cI 50 pg)] := hD
                refine z_if_eq (tgt := 64) hx hb dX4_faultIn_50 (by decide) (by first | assumption | omega) (fun h => absurd h (by decide)) (fun _ => ?_)
                refine lv_iload_n hx hb dX4_faultIn_53 rfl (lv_at hl 3 rfl) ?_
                refine lv_iconst (v := iZ 4) hx hb dX4_faultIn_54 (by decide) ?_
                refine z_icmp_ge (tgt := 64) hx hb dX4_faultIn_55 (by decide) (by first | assumption | omega) (by first | assumption | omega) (fun c_55 => ?_) (fun c_55 => ?_)
                · refine lv_iload_n hx hb dX4_faultIn_64 rfl (lv_at hl 4 rfl) ?_
                  exact z_iret hx hb hr hlocks hP hD hS dX4_faultIn_65 rfl (by refine ⟨i, rfl, rfl, by omega, by omega, hal, fun _ hg => ?_⟩; rcases hg with ⟨h1, h2⟩ | ⟨h1, h2, h3⟩; (rw [hpv] at h1; contradiction); first | contradiction | omega)
                · refine z_iinc (lv' := [(1, .int (iZ (op + 1))), (4, .int (iZ (pg i))), (3, .int (iZ (-1))), (0, .ref xp), (2, .int (iZ i))]) hx hb dX4_faultIn_58 hl (k := 3) rfl (by decide) rfl (fun ls hl => ?_)
                  refine lv_goto (tgt := 66) hx hb dX4_faultIn_61 (by decide) ?_
                  refine z_iinc (lv' := [(2, .int (iZ (i + 1))), (1, .int (iZ (op + 1))), (4, .int (iZ (pg i))), (3, .int (iZ (-1))), (0, .ref xp)]) hx hb dX4_faultIn_66 hl (k := 4) rfl (by decide) rfl (fun ls hl => ?_)
                  refine lv_goto (tgt := 4) hx hb dX4_faultIn_69 (by decide) ?_
                  exact ih4 (i + 1) (op + 1) (by first | assumption | omega) (by rw [cntO_s (by omega)]; (first | rw [if_pos (by assumption)] | rw [if_neg (by omega)]); omega) (by refine allL_s hal ?_; first | (refine Or.inl ⟨?_, ?_⟩ <;> rw [hpv] <;> assumption) | (refine Or.inr ⟨?_, by assumption, by omega⟩; rw [hpv]; assumption)) (by omega) _ _ _ hP hD hS (lv_sub hl [4, 1, 0] rfl)
              · replace hP : va_P D vwCl [(xp, ob 6 [.ref xpc, .int (iZ n)]), (xpc, aI cI 50 pg)] H := hP
                replace hD : va_D A [(xp, ob 6 [.ref xpc, .int (iZ n)]), (xpc, aI cI 50 pg)] := hD
                refine z_if_eq (tgt := 64) hx hb dX4_faultIn_50 (by decide) (by first | assumption | omega) (fun _ => ?_) (fun h => absurd h (by decide))
                refine lv_iload_n hx hb dX4_faultIn_64 rfl (lv_at hl 4 rfl) ?_
                exact z_iret hx hb hr hlocks hP hD hS dX4_faultIn_65 rfl (by refine ⟨i, rfl, rfl, by omega, by omega, hal, fun _ hg => ?_⟩; rcases hg with ⟨h1, h2⟩ | ⟨h1, h2, h3⟩; (rw [hpv] at h1; contradiction); first | contradiction | omega)
          · exfalso; omega
  exact lp4 ((n - 0 : Int) + 1).toNat 0 0 (by first | assumption | omega) (by rfl) (by intro j h0 h1; omega) (by omega) _ _ _ hP hD hS (lv_sub hl [2, 1, 0] rfl)
theorem qX4_isLaw : yX4_isLaw.cls ≠ "java/lang/invoke/MethodHandle" ∧ yX4_isLaw.cls ≠ "java/lang/invoke/VarHandle" ∧ (parseMethodDescriptor yX4_isLaw.desc).map (fun d => d.parameters.length) = some 1 := by decide +kernel
set_option maxHeartbeats 4000000 in
set_option maxRecDepth 100000 in
theorem c_X4_isLaw (l : Launch) (D : va_G) (cI cJ cB : ClassId) (xp xpc : Nat) (pg : Int → Int) (n : Int) (hn : 0 ≤ n ∧ n ≤ 50) (hpg : ∀ j, 0 ≤ pg j ∧ pg j ≤ 126) : zMi l yX4_isLaw wsX4_isLaw (zRm 3 67) D (zT cI cJ cB) [.ref xp] [(xp, ob 6 [.ref xpc, .int (iZ n)]), (xpc, aI cI 50 pg)] (fun (z : Int) (w : va_W) => (1 = z ∧ w = [(xp, ob 6 [.ref xpc, .int (iZ n)]), (xpc, aI cI 50 pg)] ∧ WL n pg) ∨ (0 = z ∧ w = [(xp, ob 6 [.ref xpc, .int (iZ n)]), (xpc, aI cI 50 pg)] ∧ ¬ WL n pg)) := by
  refine z_of (Qc := fun A => zQi D [(xp, ob 6 [.ref xpc, .int (iZ n)]), (xpc, aI cI 50 pg)] A _) (cc := cX4_isLaw) (maxL := 2) (ret := (some .boolean)) (by decide) rfl (Nat.le_of_ble_eq_true rfl) ?_
  intro p e s m below meth c A ls hx hb hr hts hown hlocks hml hK hP hD hS hA hl
  replace hown : s.vm.findClass RX4 = some m.cls := hown
  have hC : CallFix p m c cX4_isLaw 2 s _ wsX4_isLaw RX4 := ⟨hx, hb, hml, hown, hts⟩
  replace hl : lv_has ls 2 [(0, .ref xp)] := hl
  have hpl := hpg (n - 1)
  refine lv_aload_n hx hb dX4_isLaw_0 rfl (lv_at hl 0 rfl) ?_
  refine z_Vi (As := []) (rest := []) hC (c_X6_length l D cI cJ cB xp xpc n ) 0 gX4_isLaw_X6_length rfl rfl rfl ⟨rfl, qX6_length⟩ ⟨Nat.le_of_ble_eq_true rfl, Nat.le_of_ble_eq_true rfl⟩ ⟨Nat.le_refl _, Nat.le_refl _⟩ hK hP hD hS hA [0] rfl (by decide) 0 rfl rfl rfl hl.1 rfl (Nat.le_of_ble_eq_true rfl) dX4_isLaw_1 (fun z w H locs hq hP hD hS => ?_)
  rcases hq with ⟨rfl, rfl⟩
  replace hP : va_P D vwCl [(xp, ob 6 [.ref xpc, .int (iZ n)]), (xpc, aI cI 50 pg)] H := hP
  replace hD : va_D A [(xp, ob 6 [.ref xpc, .int (iZ n)]), (xpc, aI cI 50 pg)] := hD
  refine lv_istore_n (lv' := [(1, .int (iZ n)), (0, .ref xp)]) hx hb dX4_isLaw_4 rfl hl (by decide) rfl (fun ls hl => ?_)
  refine lv_iload_n hx hb dX4_isLaw_5 rfl (lv_at hl 0 rfl) ?_
  refine z_if_le (tgt := 34) hx hb dX4_isLaw_6 (by decide) (by first | assumption | omega) (fun c_6 => ?_) (fun c_6 => ?_)
  · refine lv_iconst (v := iZ 0) hx hb dX4_isLaw_34 (by decide) ?_
    exact z_zret hx hb hr hlocks hP hD hS dX4_isLaw_35 (by first | exact Or.inl rfl | exact Or.inr rfl | omega) rfl (by first | exact Or.inl ⟨rfl, rfl, by omega, by have e9 : xF = n := (by omega); rw [e9] at hlfF; exact hlfF.2.2.1, by assumption⟩ | (refine Or.inr ⟨rfl, rfl, fun h => ?_⟩; first | (exact absurd h.1 (by omega)) | (exact absurd (by assumption) h.2.2) | (exact hlfF.2.2.2 (by omega) (h.2.1 _ hlfF.1 (by omega))) | (exfalso; omega)))
  · refine lv_aload_n hx hb dX4_isLaw_9 rfl (lv_at hl 1 rfl) ?_
    refine z_Si (As := [.ref xp]) (rest := []) hC (c_X4_faultIn l D cI cJ cB xp xpc pg n (by first | assumption | omega) (by first | assumption | omega)) 1 gX4_isLaw_X4_faultIn rfl rfl rfl qX4_faultIn ⟨Nat.le_of_ble_eq_true rfl, Nat.le_of_ble_eq_true rfl⟩ ⟨Nat.le_refl _, Nat.le_refl _⟩ hK hP hD hS hA [0, 1] rfl (by decide) rfl hl.1 rfl (Nat.le_of_ble_eq_true rfl) dX4_isLaw_10 (fun z w H locs hq hP hD hS => ?_)
    rcases hq with ⟨xF, rfl, rfl, hlfF⟩
    replace hP : va_P D vwCl [(xp, ob 6 [.ref xpc, .int (iZ n)]), (xpc, aI cI 50 pg)] H := hP
    replace hD : va_D A [(xp, ob 6 [.ref xpc, .int (iZ n)]), (xpc, aI cI 50 pg)] := hD
    refine lv_iload_n hx hb dX4_isLaw_13 rfl (lv_at hl 0 rfl) ?_
    refine z_icmp_ne (tgt := 34) hx hb dX4_isLaw_14 (by decide) (by first | assumption | omega) (by first | assumption | omega) (fun c_14 => ?_) (fun c_14 => ?_)
    · refine lv_iconst (v := iZ 0) hx hb dX4_isLaw_34 (by decide) ?_
      exact z_zret hx hb hr hlocks hP hD hS dX4_isLaw_35 (by first | exact Or.inl rfl | exact Or.inr rfl | omega) rfl (by first | exact Or.inl ⟨rfl, rfl, by omega, by have e9 : xF = n := (by omega); rw [e9] at hlfF; exact hlfF.2.2.1, by assumption⟩ | (refine Or.inr ⟨rfl, rfl, fun h => ?_⟩; first | (exact absurd h.1 (by omega)) | (exact absurd (by assumption) h.2.2) | (exact hlfF.2.2.2 (by omega) (h.2.1 _ hlfF.1 (by omega))) | (exfalso; omega)))
    · refine lv_aload_n hx hb dX4_isLaw_17 rfl (lv_at hl 1 rfl) ?_
      refine lv_iload_n hx hb dX4_isLaw_18 rfl (lv_at hl 0 rfl) ?_
      refine lv_iconst (v := iZ 1) hx hb dX4_isLaw_19 (by decide) ?_
      refine z_isub hx hb dX4_isLaw_20 ?_
      refine z_Vi (As := [.int (iZ (n - 1))]) (rest := []) hC (c_X6_letterAt l D cI cJ cB xp xpc pg n (n - 1) (by first | assumption | omega) (by first | assumption | omega)) 1 gX4_isLaw_X6_letterAt rfl rfl rfl ⟨rfl, qX6_letterAt⟩ ⟨Nat.le_of_ble_eq_true rfl, Nat.le_of_ble_eq_true rfl⟩ ⟨Nat.le_refl _, Nat.le_refl _⟩ hK hP hD hS hA [0, 1] rfl (by decide) 0 rfl rfl rfl hl.1 rfl (Nat.le_of_ble_eq_true rfl) dX4_isLaw_21 (fun z w H locs hq hP hD hS => ?_)
      rcases hq with ⟨rfl, rfl, hc2_0⟩ | ⟨rfl, rfl, hc2_0⟩
      · replace hP : va_P D vwCl [(xp, ob 6 [.ref xpc, .int (iZ n)]), (xpc, aI cI 50 pg)] H := hP
        replace hD : va_D A [(xp, ob 6 [.ref xpc, .int (iZ n)]), (xpc, aI cI 50 pg)] := hD
        refine z_Si (As := [.int (iZ (pg (n - 1)))]) (rest := []) hC (c_X4_wantsDigit l D cI cJ cB (pg (n - 1)) (by first | assumption | omega)) 1 gX4_isLaw_X4_wantsDigit rfl rfl rfl qX4_wantsDigit ⟨Nat.le_of_ble_eq_true rfl, Nat.le_of_ble_eq_true rfl⟩ ⟨Nat.le_refl _, Nat.le_refl _⟩ hK hP hD hS hA [] rfl (by decide) rfl hl.1 rfl (Nat.le_of_ble_eq_true rfl) dX4_isLaw_24 (fun z w H locs hq hP hD hS => ?_)
        rcases hq with ⟨rfl, rfl, hc3_0⟩ | ⟨rfl, rfl, hc3_0⟩
        · replace hP : va_P D vwCl [(xp, ob 6 [.ref xpc, .int (iZ n)]), (xpc, aI cI 50 pg)] H := hP
          replace hD : va_D A [(xp, ob 6 [.ref xpc, .int (iZ n)]), (xpc, aI cI 50 pg)] := hD
          refine z_if_ne (tgt := 34) hx hb dX4_isLaw_27 (by decide) (by first | assumption | omega) (fun _ => ?_) (fun h => absurd h (by decide))
          refine lv_iconst (v := iZ 0) hx hb dX4_isLaw_34 (by decide) ?_
          exact z_zret hx hb hr hlocks hP hD hS dX4_isLaw_35 (by first | exact Or.inl rfl | exact Or.inr rfl | omega) rfl (by first | exact Or.inl ⟨rfl, rfl, by omega, by have e9 : xF = n := (by omega); rw [e9] at hlfF; exact hlfF.2.2.1, by assumption⟩ | (refine Or.inr ⟨rfl, rfl, fun h => ?_⟩; first | (exact absurd h.1 (by omega)) | (exact absurd (by assumption) h.2.2) | (exact hlfF.2.2.2 (by omega) (h.2.1 _ hlfF.1 (by omega))) | (exfalso; omega)))
        · replace hP : va_P D vwCl [(xp, ob 6 [.ref xpc, .int (iZ n)]), (xpc, aI cI 50 pg)] H := hP
          replace hD : va_D A [(xp, ob 6 [.ref xpc, .int (iZ n)]), (xpc, aI cI 50 pg)] := hD
          refine z_if_ne (tgt := 34) hx hb dX4_isLaw_27 (by decide) (by first | assumption | omega) (fun h => absurd h (by decide)) (fun _ => ?_)
          refine lv_iconst (v := iZ 1) hx hb dX4_isLaw_30 (by decide) ?_
          refine lv_goto (tgt := 35) hx hb dX4_isLaw_31 (by decide) ?_
          exact z_zret hx hb hr hlocks hP hD hS dX4_isLaw_35 (by first | exact Or.inl rfl | exact Or.inr rfl | omega) rfl (by first | exact Or.inl ⟨rfl, rfl, by omega, by have e9 : xF = n := (by omega); rw [e9] at hlfF; exact hlfF.2.2.1, by assumption⟩ | (refine Or.inr ⟨rfl, rfl, fun h => ?_⟩; first | (exact absurd h.1 (by omega)) | (exact absurd (by assumption) h.2.2) | (exact hlfF.2.2.2 (by omega) (h.2.1 _ hlfF.1 (by omega))) | (exfalso; omega)))
      · exfalso; omega
theorem qX4_addStep : yX4_addStep.cls ≠ "java/lang/invoke/MethodHandle" ∧ yX4_addStep.cls ≠ "java/lang/invoke/VarHandle" ∧ (parseMethodDescriptor yX4_addStep.desc).map (fun d => d.parameters.length) = some 2 := by decide +kernel
set_option maxHeartbeats 4000000 in
set_option maxRecDepth 100000 in
theorem c_X4_addStep (l : Launch) (D : va_G) (cI cJ cB : ClassId) (xl xls xld xlm : Nat) (sg dg : Int → Int) (st rd x q : Int) (hst : 0 ≤ st ∧ st ≤ 3) : zMv l yX4_addStep wsX4_addStep (zRm 0 0) D (zT cI cJ cB) [.ref xl, .int (iZ x), .int (iZ q)] [(xl, ob 4 [.ref xls, .ref xld, .ref xlm, .int (iZ st), .int (iZ rd)]), (xls, aI cI 4 sg), (xld, aI cI 4 dg)] (fun (w : va_W) => w = [(xl, ob 4 [.ref xls, .ref xld, .ref xlm, .int (iZ (st + 1)), .int (iZ rd)]), (xls, aI cI 4 (zu sg st x)), (xld, aI cI 4 (zu dg st q))]) := by
  refine z_of (Qc := fun A => zQv D [(xl, ob 4 [.ref xls, .ref xld, .ref xlm, .int (iZ st), .int (iZ rd)]), (xls, aI cI 4 sg), (xld, aI cI 4 dg)] A _) (cc := cX4_addStep) (maxL := 3) (ret := none) (by decide) rfl (Nat.le_of_ble_eq_true rfl) ?_
  intro p e s m below meth c A ls hx hb hr hts hown hlocks hml hK hP hD hS hA hl
  replace hown : s.vm.findClass RX4 = some m.cls := hown
  have hC : CallFix p m c cX4_addStep 3 s _ wsX4_addStep RX4 := ⟨hx, hb, hml, hown, hts⟩
  replace hl : lv_has ls 3 [(0, .ref xl), (1, .int (iZ x)), (2, .int (iZ q))] := hl
  have iwX4 : ∀ w ∈ u_ws RX4 TX4 5, w ∈ wsX4_addStep := fun w h => List.mem_cons_of_mem _ (List.mem_append_right _ h)
  have fl11 : Cond.fieldLink RX4 11 "GrowsByHalf$Law" "signs" "[I" ∈ wsX4_addStep := by decide +kernel
  have fl15 : Cond.fieldLink RX4 15 "GrowsByHalf$Law" "digits" "[I" ∈ wsX4_addStep := by decide +kernel
  have fl57 : Cond.fieldLink RX4 57 "GrowsByHalf$Law" "steps" "I" ∈ wsX4_addStep := by decide +kernel
  refine lv_aload_n hx hb dX4_addStep_0 rfl (lv_at hl 0 rfl) ?_
  refine z_get (C := RX4) (T0 := TX4) (N := 5) (ci := 4) (v := .int (iZ st)) hx hb hts hown hK hP iwX4 rfl 0 rfl 3 (by decide) fl57 rfl dX4_addStep_1 ?_
  refine lv_iconst (v := iZ 4) hx hb dX4_addStep_4 (by decide) ?_
  refine z_icmp_ge (tgt := 38) hx hb dX4_addStep_5 (by decide) (by first | assumption | omega) (by first | assumption | omega) (fun c_5 => ?_) (fun c_5 => ?_)
  · exact z_vret hx hb hr hlocks hP hD hS dX4_addStep_38 rfl (by first | (exact rfl) | (exfalso; omega))
  · refine lv_aload_n hx hb dX4_addStep_8 rfl (lv_at hl 0 rfl) ?_
    refine z_get (C := RX4) (T0 := TX4) (N := 5) (ci := 4) (v := .ref xls) hx hb hts hown hK hP iwX4 rfl 0 rfl 0 (by decide) fl11 rfl dX4_addStep_9 ?_
    refine lv_aload_n hx hb dX4_addStep_12 rfl (lv_at hl 0 rfl) ?_
    refine z_get (C := RX4) (T0 := TX4) (N := 5) (ci := 4) (v := .int (iZ st)) hx hb hts hown hK hP iwX4 rfl 0 rfl 3 (by decide) fl57 rfl dX4_addStep_13 ?_
    refine lv_iload_n hx hb dX4_addStep_16 rfl (lv_at hl 1 rfl) ?_
    refine z_iast hx hb hK hP hD hS 1 0 rfl rfl (by decide) (by first | assumption | omega) dX4_addStep_17 (fun H locs hP hD hS => ?_)
    replace hP : va_P D vwCl [(xl, ob 4 [.ref xls, .ref xld, .ref xlm, .int (iZ st), .int (iZ rd)]), (xls, aI cI 4 (zu sg st x)), (xld, aI cI 4 dg)] H := hP
    replace hD : va_D A [(xl, ob 4 [.ref xls, .ref xld, .ref xlm, .int (iZ st), .int (iZ rd)]), (xls, aI cI 4 (zu sg st x)), (xld, aI cI 4 dg)] := hD
    refine lv_aload_n hx hb dX4_addStep_18 rfl (lv_at hl 0 rfl) ?_
    refine z_get (C := RX4) (T0 := TX4) (N := 5) (ci := 4) (v := .ref xld) hx hb hts hown hK hP iwX4 rfl 0 rfl 1 (by decide) fl15 rfl dX4_addStep_19 ?_
    refine lv_aload_n hx hb dX4_addStep_22 rfl (lv_at hl 0 rfl) ?_
    refine z_get (C := RX4) (T0 := TX4) (N := 5) (ci := 4) (v := .int (iZ st)) hx hb hts hown hK hP iwX4 rfl 0 rfl 3 (by decide) fl57 rfl dX4_addStep_23 ?_
    refine lv_iload_n hx hb dX4_addStep_26 rfl (lv_at hl 2 rfl) ?_
    refine z_iast hx hb hK hP hD hS 2 0 rfl rfl (by decide) (by first | assumption | omega) dX4_addStep_27 (fun H locs hP hD hS => ?_)
    replace hP : va_P D vwCl [(xl, ob 4 [.ref xls, .ref xld, .ref xlm, .int (iZ st), .int (iZ rd)]), (xls, aI cI 4 (zu sg st x)), (xld, aI cI 4 (zu dg st q))] H := hP
    replace hD : va_D A [(xl, ob 4 [.ref xls, .ref xld, .ref xlm, .int (iZ st), .int (iZ rd)]), (xls, aI cI 4 (zu sg st x)), (xld, aI cI 4 (zu dg st q))] := hD
    refine lv_aload_n hx hb dX4_addStep_28 rfl (lv_at hl 0 rfl) ?_
    refine lv_dup hx hb dX4_addStep_29 rfl ?_
    refine z_get (C := RX4) (T0 := TX4) (N := 5) (ci := 4) (v := .int (iZ st)) hx hb hts hown hK hP iwX4 rfl 0 rfl 3 (by decide) fl57 rfl dX4_addStep_30 ?_
    refine lv_iconst (v := iZ 1) hx hb dX4_addStep_33 (by decide) ?_
    refine z_iadd hx hb dX4_addStep_34 ?_
    refine z_put (C := RX4) (T0 := TX4) (N := 5) (ci := 4) (v := .int (iZ (st + 1))) hx hb hts hown hK hP hD hS iwX4 tyX4_ok nmX4 rfl 0 rfl 3 (by decide) fl57 rfl rfl rfl (Nat.le_of_ble_eq_true rfl) dX4_addStep_35 (fun H locs hP hD hS => ?_)
    replace hP : va_P D vwCl [(xl, ob 4 [.ref xls, .ref xld, .ref xlm, .int (iZ (st + 1)), .int (iZ rd)]), (xls, aI cI 4 (zu sg st x)), (xld, aI cI 4 (zu dg st q))] H := hP
    replace hD : va_D A [(xl, ob 4 [.ref xls, .ref xld, .ref xlm, .int (iZ (st + 1)), .int (iZ rd)]), (xls, aI cI 4 (zu sg st x)), (xld, aI cI 4 (zu dg st q))] := hD
    exact z_vret hx hb hr hlocks hP hD hS dX4_addStep_38 rfl (by first | (exact rfl) | (exfalso; omega))
theorem qX4_stepped : yX4_stepped.cls ≠ "java/lang/invoke/MethodHandle" ∧ yX4_stepped.cls ≠ "java/lang/invoke/VarHandle" ∧ (parseMethodDescriptor yX4_stepped.desc).map (fun d => d.parameters.length) = some 3 := by decide +kernel
set_option maxHeartbeats 4000000 in
set_option maxRecDepth 100000 in
theorem c_X4_stepped (l : Launch) (D : va_G) (cI cJ cB : ClassId) (sg d v : Int) (hsg : -2147483648 ≤ sg ∧ sg < 2147483648) (hd : -49 ≤ d ∧ d ≤ 78) (hv : 0 ≤ v ∧ v ≤ 9999) : zMi l yX4_stepped wsX4_stepped (zRm 1 21) D (zT cI cJ cB) [.int (iZ sg), .int (iZ d), .int (iZ v)] [] (fun (z : Int) (w : va_W) => stpX sg d v = z ∧ w = []) := by
  refine z_of (Qc := fun A => zQi D [] A _) (cc := cX4_stepped) (maxL := 3) (ret := (some .int)) (by decide) rfl (Nat.le_of_ble_eq_true rfl) ?_
  intro p e s m below meth c A ls hx hb hr hts hown hlocks hml hK hP hD hS hA hl
  replace hown : s.vm.findClass RX4 = some m.cls := hown
  have hC : CallFix p m c cX4_stepped 3 s _ wsX4_stepped RX4 := ⟨hx, hb, hml, hown, hts⟩
  replace hl : lv_has ls 3 [(0, .int (iZ sg)), (1, .int (iZ d)), (2, .int (iZ v))] := hl
  have hdv := fun q : 0 < d => z_divle (a := v) (b := d) hv.1 q
  refine lv_iload_n hx hb dX4_stepped_0 rfl (lv_at hl 0 rfl) ?_
  by_cases sw1_43 : sg = 43
  · refine z_look (tgt := 54) (off := 53) hx hb dX4_stepped_1 rfl (by first | assumption | omega) (by rw [sw1_43]; rfl) (by decide) ?_
    refine lv_iload_n hx hb dX4_stepped_54 rfl (lv_at hl 2 rfl) ?_
    refine lv_iload_n hx hb dX4_stepped_55 rfl (lv_at hl 1 rfl) ?_
    refine z_iadd hx hb dX4_stepped_56 ?_
    exact z_iret hx hb hr hlocks hP hD hS dX4_stepped_57 rfl (by refine ⟨?_, rfl⟩; unfold stpX; repeat (first | (rw [if_pos (by omega)]) | (rw [if_neg (by omega)])); (try rfl))
  by_cases sw1_45 : sg = 45
  · refine z_look (tgt := 58) (off := 57) hx hb dX4_stepped_1 rfl (by first | assumption | omega) (by rw [sw1_45]; rfl) (by decide) ?_
    refine lv_iconst (v := iZ 0) hx hb dX4_stepped_58 (by decide) ?_
    refine lv_iload_n hx hb dX4_stepped_59 rfl (lv_at hl 2 rfl) ?_
    refine lv_iload_n hx hb dX4_stepped_60 rfl (lv_at hl 1 rfl) ?_
    refine z_isub hx hb dX4_stepped_61 ?_
    refine z_mmax hx hb (by rw [hml]; exact hl.1.symm) hown (hts (.methodLink RX4 74 Lib.Math.max.name) (by decide +kernel)) (hts (.static Lib.Math.max.name) (by decide +kernel)) (hts (.initialized "java/lang/Math") (by decide +kernel)) (hts (.code Lib.Math.max.name Lib.Math.max.code 2 (some .int)) (by decide +kernel)) (Nat.le_of_ble_eq_true rfl) (Nat.le_of_ble_eq_true rfl) (Nat.le_refl _) (Nat.le_refl _) (by first | assumption | omega) (by first | assumption | omega) dX4_stepped_62 ?_
    exact z_iret hx hb hr hlocks hP hD hS dX4_stepped_65 rfl (by refine ⟨?_, rfl⟩; unfold stpX; repeat (first | (rw [if_pos (by omega)]) | (rw [if_neg (by omega)])); (try rfl))
  by_cases sw1_100 : sg = 100
  · refine z_look (tgt := 50) (off := 49) hx hb dX4_stepped_1 rfl (by first | assumption | omega) (by rw [sw1_100]; rfl) (by decide) ?_
    refine lv_iconst (v := iZ 2) hx hb dX4_stepped_50 (by decide) ?_
    refine lv_iload_n hx hb dX4_stepped_51 rfl (lv_at hl 2 rfl) ?_
    refine z_imul hx hb dX4_stepped_52 ?_
    exact z_iret hx hb hr hlocks hP hD hS dX4_stepped_53 rfl (by refine ⟨?_, rfl⟩; unfold stpX; repeat (first | (rw [if_pos (by omega)]) | (rw [if_neg (by omega)])); (try rfl))
  by_cases sw1_104 : sg = 104
  · refine z_look (tgt := 44) (off := 43) hx hb dX4_stepped_1 rfl (by first | assumption | omega) (by rw [sw1_104]; rfl) (by decide) ?_
    refine lv_iload_n hx hb dX4_stepped_44 rfl (lv_at hl 2 rfl) ?_
    refine lv_iload_n hx hb dX4_stepped_45 rfl (lv_at hl 2 rfl) ?_
    refine lv_iconst (v := iZ 2) hx hb dX4_stepped_46 (by decide) ?_
    refine z_idiv hx hb dX4_stepped_47 (by first | assumption | omega) (by first | assumption | omega) ?_
    refine z_iadd hx hb dX4_stepped_48 ?_
    exact z_iret hx hb hr hlocks hP hD hS dX4_stepped_49 rfl (by refine ⟨?_, rfl⟩; unfold stpX; repeat (first | (rw [if_pos (by omega)]) | (rw [if_neg (by omega)])); (try rfl))
  refine z_look (tgt := 66) (off := 65) hx hb dX4_stepped_1 rfl (by first | assumption | omega) (by show Op.lookupswitch.offset [(43, 53), (45, 57), (100, 49), (104, 43)] 65 _ = _; rw [Op.lookupswitch.offset_cons, if_neg (by omega)]; rw [Op.lookupswitch.offset_cons, if_neg (by omega)]; rw [Op.lookupswitch.offset_cons, if_neg (by omega)]; rw [Op.lookupswitch.offset_cons, if_neg (by omega)]; rfl) (by decide) ?_
  refine lv_iload_n hx hb dX4_stepped_66 rfl (lv_at hl 1 rfl) ?_
  refine z_if_le (tgt := 76) hx hb dX4_stepped_67 (by decide) (by first | assumption | omega) (fun c_67 => ?_) (fun c_67 => ?_)
  · refine lv_iload_n hx hb dX4_stepped_76 rfl (lv_at hl 2 rfl) ?_
    exact z_iret hx hb hr hlocks hP hD hS dX4_stepped_77 rfl (by refine ⟨?_, rfl⟩; unfold stpX; repeat (first | (rw [if_pos (by omega)]) | (rw [if_neg (by omega)])); (try rfl))
  · refine lv_iload_n hx hb dX4_stepped_70 rfl (lv_at hl 2 rfl) ?_
    refine lv_iload_n hx hb dX4_stepped_71 rfl (lv_at hl 1 rfl) ?_
    refine z_idiv hx hb dX4_stepped_72 (by first | assumption | omega) (by first | assumption | omega) ?_
    refine lv_goto (tgt := 77) hx hb dX4_stepped_73 (by decide) ?_
    exact z_iret hx hb hr hlocks hP hD hS dX4_stepped_77 rfl (by refine ⟨?_, rfl⟩; unfold stpX; repeat (first | (rw [if_pos (by omega)]) | (rw [if_neg (by omega)])); (try rfl))
theorem qX4_makeAll : yX4_makeAll.cls ≠ "java/lang/invoke/MethodHandle" ∧ yX4_makeAll.cls ≠ "java/lang/invoke/VarHandle" ∧ (parseMethodDescriptor yX4_makeAll.desc).map (fun d => d.parameters.length) = some 0 := by decide +kernel
set_option maxHeartbeats 4000000 in
set_option maxRecDepth 100000 in
theorem c_X4_makeAll (l : Launch) (D : va_G) (cI cJ cB : ClassId) (xl xls xld xlm : Nat) (sg dg md : Int → Int) (st rd : Int) (hst : 0 ≤ st ∧ st ≤ 4) (hsg : ∀ j, 0 ≤ j → j < st → 0 ≤ sg j ∧ sg j ≤ 126) (hdg : ∀ j, 0 ≤ j → j < st → -49 ≤ dg j ∧ dg j ≤ 78) (hpl : ∀ j, 0 ≤ j → j < st → sg j = 43 → 0 ≤ dg j) : zMv l yX4_makeAll wsX4_makeAll (zRm 2 43) D (zT cI cJ cB) [.ref xl] [(xl, ob 4 [.ref xls, .ref xld, .ref xlm, .int (iZ st), .int (iZ rd)]), (xls, aI cI 4 sg), (xld, aI cI 4 dg), (xlm, aI cI 10000 md)] (fun (w : va_W) => w = [(xl, ob 4 [.ref xls, .ref xld, .ref xlm, .int (iZ st), .int (iZ rd)]), (xls, aI cI 4 sg), (xld, aI cI 4 dg), (xlm, aI cI 10000 (fun v => groX sg dg st.toNat v))]) := by
  refine z_of (Qc := fun A => zQv D [(xl, ob 4 [.ref xls, .ref xld, .ref xlm, .int (iZ st), .int (iZ rd)]), (xls, aI cI 4 sg), (xld, aI cI 4 dg), (xlm, aI cI 10000 md)] A _) (cc := cX4_makeAll) (maxL := 4) (ret := none) (by decide) rfl (Nat.le_of_ble_eq_true rfl) ?_
  intro p e s m below meth c A ls hx hb hr hts hown hlocks hml hK hP hD hS hA hl
  replace hown : s.vm.findClass RX4 = some m.cls := hown
  have hC : CallFix p m c cX4_makeAll 4 s _ wsX4_makeAll RX4 := ⟨hx, hb, hml, hown, hts⟩
  replace hl : lv_has ls 4 [(0, .ref xl)] := hl
  have iwX4 : ∀ w ∈ u_ws RX4 TX4 5, w ∈ wsX4_makeAll := fun w h => List.mem_cons_of_mem _ (List.mem_append_right _ h)
  have fl11 : Cond.fieldLink RX4 11 "GrowsByHalf$Law" "signs" "[I" ∈ wsX4_makeAll := by decide +kernel
  have fl15 : Cond.fieldLink RX4 15 "GrowsByHalf$Law" "digits" "[I" ∈ wsX4_makeAll := by decide +kernel
  have fl18 : Cond.fieldLink RX4 18 "GrowsByHalf$Law" "made" "[I" ∈ wsX4_makeAll := by decide +kernel
  have fl57 : Cond.fieldLink RX4 57 "GrowsByHalf$Law" "steps" "I" ∈ wsX4_makeAll := by decide +kernel
  refine lv_iconst (v := iZ 0) hx hb dX4_makeAll_0 (by decide) ?_
  refine lv_istore_n (lv' := [(1, .int (iZ 0)), (0, .ref xl)]) hx hb dX4_makeAll_1 rfl hl (by decide) rfl (fun ls hl => ?_)
  have lp2 : ∀ fuel : Nat, ∀ (i : Int) (g1 : Int → Int), (0 ≤ i ∧ i ≤ 10000) → (∀ j, 0 ≤ j → j < i → g1 j = groX sg dg st.toNat j) → (10000 - i) < (fuel : Int) → ∀ (H : Heap) (locs : List Loc) (ls : Array Slot), va_P D vwCl [(xl, ob 4 [.ref xls, .ref xld, .ref xlm, .int (iZ st), .int (iZ rd)]), (xls, aI cI 4 sg), (xld, aI cI 4 dg), (xlm, aI cI 10000 g1)] H → va_D A [(xl, ob 4 [.ref xls, .ref xld, .ref xlm, .int (iZ st), .int (iZ rd)]), (xls, aI cI 4 sg), (xld, aI cI 4 dg), (xlm, aI cI 10000 g1)] → va_S A s.heap H locs → lv_has ls 4 [(0, .ref xl), (1, .int (iZ i))] → W p l e (zRm 2 43) s m [.ref xl].toArray below meth c H locs 0 0 (MQ below (zQv D [(xl, ob 4 [.ref xls, .ref xld, .ref xlm, .int (iZ st), .int (iZ rd)]), (xls, aI cI 4 sg), (xld, aI cI 4 dg), (xlm, aI cI 10000 md)] A (fun (w : va_W) => w = [(xl, ob 4 [.ref xls, .ref xld, .ref xlm, .int (iZ st), .int (iZ rd)]), (xls, aI cI 4 sg), (xld, aI cI 4 dg), (xlm, aI cI 10000 (fun v => groX sg dg st.toNat v))])) [.ref xl].toArray s 0 0 A) (F0 m 2 ls []) := by
    intro fuel
    induction fuel with
    | zero => intro i g1 hi hg1 hmu2; exact absurd hmu2 (by omega)
    | succ fuel ih2 =>
      intro i g1 hi hg1 hmu2 H locs ls hP hD hS hl
      refine lv_iload_n hx hb dX4_makeAll_2 rfl (lv_at hl 1 rfl) ?_
      refine lv_sipush (v := iZ 10000) hx hb dX4_makeAll_3 (by decide) ?_
      refine z_icmp_ge (tgt := 68) hx hb dX4_makeAll_6 (by decide) (by first | assumption | omega) (by first | assumption | omega) (fun c_6 => ?_) (fun c_6 => ?_)
      · obtain ⟨hP, hD⟩ := z_cg hP hD 3 (g' := fun v => groX sg dg st.toNat v) rfl (by intro j h1 h2; exact hg1 j h1 (by omega))
        replace hP : va_P D vwCl [(xl, ob 4 [.ref xls, .ref xld, .ref xlm, .int (iZ st), .int (iZ rd)]), (xls, aI cI 4 sg), (xld, aI cI 4 dg), (xlm, aI cI 10000 (fun v => groX sg dg st.toNat v))] H := hP
        replace hD : va_D A [(xl, ob 4 [.ref xls, .ref xld, .ref xlm, .int (iZ st), .int (iZ rd)]), (xls, aI cI 4 sg), (xld, aI cI 4 dg), (xlm, aI cI 10000 (fun v => groX sg dg st.toNat v))] := hD
        exact z_vret hx hb hr hlocks hP hD hS dX4_makeAll_68 rfl (by first | (exact rfl) | (exfalso; omega))
      · refine lv_iload_n hx hb dX4_makeAll_9 rfl (lv_at hl 1 rfl) ?_
        refine lv_istore_n (lv' := [(2, .int (iZ i)), (0, .ref xl), (1, .int (iZ i))]) hx hb dX4_makeAll_10 rfl hl (by decide) rfl (fun ls hl => ?_)
        refine lv_iconst (v := iZ 0) hx hb dX4_makeAll_11 (by decide) ?_
        refine lv_istore_n (lv' := [(3, .int (iZ 0)), (2, .int (iZ i)), (0, .ref xl), (1, .int (iZ i))]) hx hb dX4_makeAll_12 rfl hl (by decide) rfl (fun ls hl => ?_)
        have lp13 : ∀ fuel : Nat, ∀ (k gv : Int), (0 ≤ k ∧ k ≤ st) → (gv = groX sg dg k.toNat i) → (0 ≤ gv ∧ gv ≤ 9999) → (st - k) < (fuel : Int) → ∀ (H : Heap) (locs : List Loc) (ls : Array Slot), va_P D vwCl [(xl, ob 4 [.ref xls, .ref xld, .ref xlm, .int (iZ st), .int (iZ rd)]), (xls, aI cI 4 sg), (xld, aI cI 4 dg), (xlm, aI cI 10000 g1)] H → va_D A [(xl, ob 4 [.ref xls, .ref xld, .ref xlm, .int (iZ st), .int (iZ rd)]), (xls, aI cI 4 sg), (xld, aI cI 4 dg), (xlm, aI cI 10000 g1)] → va_S A s.heap H locs → lv_has ls 4 [(0, .ref xl), (1, .int (iZ i)), (2, .int (iZ gv)), (3, .int (iZ k))] → W p l e (zRm 2 43) s m [.ref xl].toArray below meth c H locs 0 0 (MQ below (zQv D [(xl, ob 4 [.ref xls, .ref xld, .ref xlm, .int (iZ st), .int (iZ rd)]), (xls, aI cI 4 sg), (xld, aI cI 4 dg), (xlm, aI cI 10000 md)] A (fun (w : va_W) => w = [(xl, ob 4 [.ref xls, .ref xld, .ref xlm, .int (iZ st), .int (iZ rd)]), (xls, aI cI 4 sg), (xld, aI cI 4 dg), (xlm, aI cI 10000 (fun v => groX sg dg st.toNat v))])) [.ref xl].toArray s 0 0 A) (F0 m 13 ls []) := by
          intro fuel
          induction fuel with
          | zero => intro k gv hk hgv hgr hmu13; exact absurd hmu13 (by omega)
          | succ fuel ih13 =>
            intro k gv hk hgv hgr hmu13 H locs ls hP hD hS hl
            refine lv_iload_n hx hb dX4_makeAll_13 rfl (lv_at hl 3 rfl) ?_
            refine lv_aload_n hx hb dX4_makeAll_14 rfl (lv_at hl 0 rfl) ?_
            refine z_get (C := RX4) (T0 := TX4) (N := 5) (ci := 4) (v := .int (iZ st)) hx hb hts hown hK hP iwX4 rfl 0 rfl 3 (by decide) fl57 rfl dX4_makeAll_15 ?_
            refine z_icmp_ge (tgt := 55) hx hb dX4_makeAll_18 (by decide) (by first | assumption | omega) (by first | assumption | omega) (fun c_18 => ?_) (fun c_18 => ?_)
            · refine lv_aload_n hx hb dX4_makeAll_55 rfl (lv_at hl 0 rfl) ?_
              refine z_get (C := RX4) (T0 := TX4) (N := 5) (ci := 4) (v := .ref xlm) hx hb hts hown hK hP iwX4 rfl 0 rfl 2 (by decide) fl18 rfl dX4_makeAll_56 ?_
              refine lv_iload_n hx hb dX4_makeAll_59 rfl (lv_at hl 1 rfl) ?_
              refine lv_iload_n hx hb dX4_makeAll_60 rfl (lv_at hl 2 rfl) ?_
              refine z_iast hx hb hK hP hD hS 3 0 rfl rfl (by decide) (by first | assumption | omega) dX4_makeAll_61 (fun H locs hP hD hS => ?_)
              replace hP : va_P D vwCl [(xl, ob 4 [.ref xls, .ref xld, .ref xlm, .int (iZ st), .int (iZ rd)]), (xls, aI cI 4 sg), (xld, aI cI 4 dg), (xlm, aI cI 10000 (zu g1 i gv))] H := hP
              replace hD : va_D A [(xl, ob 4 [.ref xls, .ref xld, .ref xlm, .int (iZ st), .int (iZ rd)]), (xls, aI cI 4 sg), (xld, aI cI 4 dg), (xlm, aI cI 10000 (zu g1 i gv))] := hD
              refine z_iinc (lv' := [(1, .int (iZ (i + 1))), (0, .ref xl), (2, .int (iZ gv)), (3, .int (iZ k))]) hx hb dX4_makeAll_62 hl (k := 1) rfl (by decide) rfl (fun ls hl => ?_)
              refine lv_goto (tgt := 2) hx hb dX4_makeAll_65 (by decide) ?_
              exact ih2 (i + 1) (zu g1 i gv) (by first | assumption | omega) (by intro j h1 h2; rw [zu_at]; split; (rename_i hji; rw [hji, hgv, show k = st from by omega]); exact hg1 j h1 (by omega)) (by omega) _ _ _ hP hD hS (lv_sub hl [1, 0] rfl)
            · refine lv_iload_n hx hb dX4_makeAll_21 rfl (lv_at hl 3 rfl) ?_
              refine lv_iconst (v := iZ 4) hx hb dX4_makeAll_22 (by decide) ?_
              refine z_icmp_ge (tgt := 55) hx hb dX4_makeAll_23 (by decide) (by first | assumption | omega) (by first | assumption | omega) (fun c_23 => ?_) (fun c_23 => ?_)
              · refine lv_aload_n hx hb dX4_makeAll_55 rfl (lv_at hl 0 rfl) ?_
                refine z_get (C := RX4) (T0 := TX4) (N := 5) (ci := 4) (v := .ref xlm) hx hb hts hown hK hP iwX4 rfl 0 rfl 2 (by decide) fl18 rfl dX4_makeAll_56 ?_
                refine lv_iload_n hx hb dX4_makeAll_59 rfl (lv_at hl 1 rfl) ?_
                refine lv_iload_n hx hb dX4_makeAll_60 rfl (lv_at hl 2 rfl) ?_
                refine z_iast hx hb hK hP hD hS 3 0 rfl rfl (by decide) (by first | assumption | omega) dX4_makeAll_61 (fun H locs hP hD hS => ?_)
                replace hP : va_P D vwCl [(xl, ob 4 [.ref xls, .ref xld, .ref xlm, .int (iZ st), .int (iZ rd)]), (xls, aI cI 4 sg), (xld, aI cI 4 dg), (xlm, aI cI 10000 (zu g1 i gv))] H := hP
                replace hD : va_D A [(xl, ob 4 [.ref xls, .ref xld, .ref xlm, .int (iZ st), .int (iZ rd)]), (xls, aI cI 4 sg), (xld, aI cI 4 dg), (xlm, aI cI 10000 (zu g1 i gv))] := hD
                refine z_iinc (lv' := [(1, .int (iZ (i + 1))), (0, .ref xl), (2, .int (iZ gv)), (3, .int (iZ k))]) hx hb dX4_makeAll_62 hl (k := 1) rfl (by decide) rfl (fun ls hl => ?_)
                refine lv_goto (tgt := 2) hx hb dX4_makeAll_65 (by decide) ?_
                exact ih2 (i + 1) (zu g1 i gv) (by first | assumption | omega) (by intro j h1 h2; rw [zu_at]; split; (rename_i hji; rw [hji, hgv, show k = st from by omega]); exact hg1 j h1 (by omega)) (by omega) _ _ _ hP hD hS (lv_sub hl [1, 0] rfl)
              · refine lv_sipush (v := iZ 9999) hx hb dX4_makeAll_26 (by decide) ?_
                refine lv_aload_n hx hb dX4_makeAll_29 rfl (lv_at hl 0 rfl) ?_
                have hsk := hsg k (by omega) (by omega)
                have hdk := hdg k (by omega) (by omega)
                have hsr := stpX_rng hdk (hpl k (by omega) (by omega)) hgr
                refine z_get (C := RX4) (T0 := TX4) (N := 5) (ci := 4) (v := .ref xls) hx hb hts hown hK hP iwX4 rfl 0 rfl 0 (by decide) fl11 rfl dX4_makeAll_30 ?_
                refine lv_iload_n hx hb dX4_makeAll_33 rfl (lv_at hl 3 rfl) ?_
                refine z_iald hx hb hK hP 1 0 rfl rfl (by decide) (by first | assumption | omega) dX4_makeAll_34 ?_
                refine lv_aload_n hx hb dX4_makeAll_35 rfl (lv_at hl 0 rfl) ?_
                refine z_get (C := RX4) (T0 := TX4) (N := 5) (ci := 4) (v := .ref xld) hx hb hts hown hK hP iwX4 rfl 0 rfl 1 (by decide) fl15 rfl dX4_makeAll_36 ?_
                refine lv_iload_n hx hb dX4_makeAll_39 rfl (lv_at hl 3 rfl) ?_
                refine z_iald hx hb hK hP 2 0 rfl rfl (by decide) (by first | assumption | omega) dX4_makeAll_40 ?_
                refine lv_iload_n hx hb dX4_makeAll_41 rfl (lv_at hl 2 rfl) ?_
                refine z_Si (As := [.int (iZ (sg k)), .int (iZ (dg k)), .int (iZ gv)]) (rest := [.int (iZ 9999)]) hC (c_X4_stepped l D cI cJ cB (sg k) (dg k) gv (by first | assumption | omega) (by first | assumption | omega) (by first | assumption | omega)) 3 gX4_makeAll_X4_stepped rfl rfl rfl qX4_stepped ⟨Nat.le_of_ble_eq_true rfl, Nat.le_of_ble_eq_true rfl⟩ ⟨Nat.le_refl _, Nat.le_refl _⟩ hK hP hD hS hA [] rfl (by decide) rfl hl.1 rfl (Nat.le_of_ble_eq_true rfl) dX4_makeAll_42 (fun z w H locs hq hP hD hS => ?_)
                rcases hq with ⟨rfl, rfl⟩
                replace hP : va_P D vwCl [(xl, ob 4 [.ref xls, .ref xld, .ref xlm, .int (iZ st), .int (iZ rd)]), (xls, aI cI 4 sg), (xld, aI cI 4 dg), (xlm, aI cI 10000 g1)] H := hP
                replace hD : va_D A [(xl, ob 4 [.ref xls, .ref xld, .ref xlm, .int (iZ st), .int (iZ rd)]), (xls, aI cI 4 sg), (xld, aI cI 4 dg), (xlm, aI cI 10000 g1)] := hD
                refine z_mmin hx hb (by rw [hml]; exact hl.1.symm) hown (hts (.methodLink RX4 68 Lib.Math.min.name) (by decide +kernel)) (hts (.static Lib.Math.min.name) (by decide +kernel)) (hts (.initialized "java/lang/Math") (by decide +kernel)) (hts (.code Lib.Math.min.name Lib.Math.min.code 2 (some .int)) (by decide +kernel)) (Nat.le_of_ble_eq_true rfl) (Nat.le_of_ble_eq_true rfl) (Nat.le_refl _) (Nat.le_refl _) (by first | assumption | omega) (by first | assumption | omega) dX4_makeAll_45 ?_
                refine lv_istore_n (lv' := [(2, .int (iZ (min 9999 (stpX (sg k) (dg k) gv)))), (0, .ref xl), (1, .int (iZ i)), (3, .int (iZ k))]) hx hb dX4_makeAll_48 rfl hl (by decide) rfl (fun ls hl => ?_)
                refine z_iinc (lv' := [(3, .int (iZ (k + 1))), (2, .int (iZ (min 9999 (stpX (sg k) (dg k) gv)))), (0, .ref xl), (1, .int (iZ i))]) hx hb dX4_makeAll_49 hl (k := 3) rfl (by decide) rfl (fun ls hl => ?_)
                refine lv_goto (tgt := 13) hx hb dX4_makeAll_52 (by decide) ?_
                exact ih13 (k + 1) (min 9999 (stpX (sg k) (dg k) gv)) (by first | assumption | omega) (by rw [groX_s (by omega), hgv]) (by have hz := groX_rng hdg hpl (v := i) (by omega) (k + 1).toNat (by omega); rw [groX_s (by omega), ← hgv] at hz; exact hz) (by omega) _ _ _ hP hD hS (lv_sub hl [2, 3, 1, 0] rfl)
        exact lp13 ((st - 0 : Int) + 1).toNat 0 i (by first | assumption | omega) (by rfl) (by omega) (by omega) _ _ _ hP hD hS (lv_sub hl [2, 3, 1, 0] rfl)
  exact lp2 ((10000 - 0 : Int) + 1).toNat 0 md (by first | assumption | omega) (by intro j h1 h2; omega) (by omega) _ _ _ hP hD hS (lv_sub hl [1, 0] rfl)
theorem qX4_read : yX4_read.cls ≠ "java/lang/invoke/MethodHandle" ∧ yX4_read.cls ≠ "java/lang/invoke/VarHandle" ∧ (parseMethodDescriptor yX4_read.desc).map (fun d => d.parameters.length) = some 1 := by decide +kernel
set_option maxHeartbeats 4000000 in
set_option maxRecDepth 100000 in
theorem c_X4_read (l : Launch) (D : va_G) (cI cJ cB : ClassId) (xp xpc xl xls xld xlm : Nat) (pg sg dg md : Int → Int) (n st rd : Int) (hn : 0 ≤ n ∧ n ≤ 50) (hpg : ∀ j, 0 ≤ pg j ∧ pg j ≤ 126) (hwl : WL n pg) : zMv l yX4_read wsX4_read (zRm 3 66) D (zT cI cJ cB) [.ref xl, .ref xp] [(xp, ob 6 [.ref xpc, .int (iZ n)]), (xpc, aI cI 50 pg), (xl, ob 4 [.ref xls, .ref xld, .ref xlm, .int (iZ st), .int (iZ rd)]), (xls, aI cI 4 sg), (xld, aI cI 4 dg), (xlm, aI cI 10000 md)] (fun (w : va_W) => (∃ (sg2 dg2 : Int → Int), w = [(xp, ob 6 [.ref xpc, .int (iZ n)]), (xpc, aI cI 50 pg), (xl, ob 4 [.ref xls, .ref xld, .ref xlm, .int (iZ (cntO pg n.toNat)), .int (iZ (rd + 1))]), (xls, aI cI 4 sg2), (xld, aI cI 4 dg2), (xlm, aI cI 10000 (fun v => groX (sgP pg n) (dgP pg n) (cntO pg n.toNat).toNat v))])) := by
  refine z_of (Qc := fun A => zQv D [(xp, ob 6 [.ref xpc, .int (iZ n)]), (xpc, aI cI 50 pg), (xl, ob 4 [.ref xls, .ref xld, .ref xlm, .int (iZ st), .int (iZ rd)]), (xls, aI cI 4 sg), (xld, aI cI 4 dg), (xlm, aI cI 10000 md)] A _) (cc := cX4_read) (maxL := 3) (ret := none) (by decide) rfl (Nat.le_of_ble_eq_true rfl) ?_
  intro p e s m below meth c A ls hx hb hr hts hown hlocks hml hK hP hD hS hA hl
  replace hown : s.vm.findClass RX4 = some m.cls := hown
  have hC : CallFix p m c cX4_read 3 s _ wsX4_read RX4 := ⟨hx, hb, hml, hown, hts⟩
  replace hl : lv_has ls 3 [(0, .ref xl), (1, .ref xp)] := hl
  have iwX4 : ∀ w ∈ u_ws RX4 TX4 5, w ∈ wsX4_read := fun w h => List.mem_cons_of_mem _ (List.mem_append_left _ (List.mem_append_right _ h))
  have fl57 : Cond.fieldLink RX4 57 "GrowsByHalf$Law" "steps" "I" ∈ wsX4_read := by decide +kernel
  have fl61 : Cond.fieldLink RX4 61 "GrowsByHalf$Law" "readings" "I" ∈ wsX4_read := by decide +kernel
  refine lv_aload_n hx hb dX4_read_0 rfl (lv_at hl 0 rfl) ?_
  refine lv_iconst (v := iZ 0) hx hb dX4_read_1 (by decide) ?_
  refine z_put (C := RX4) (T0 := TX4) (N := 5) (ci := 4) (v := .int (iZ 0)) hx hb hts hown hK hP hD hS iwX4 tyX4_ok nmX4 rfl 2 rfl 3 (by decide) fl57 rfl rfl rfl (Nat.le_of_ble_eq_true rfl) dX4_read_2 (fun H locs hP hD hS => ?_)
  replace hP : va_P D vwCl [(xp, ob 6 [.ref xpc, .int (iZ n)]), (xpc, aI cI 50 pg), (xl, ob 4 [.ref xls, .ref xld, .ref xlm, .int (iZ 0), .int (iZ rd)]), (xls, aI cI 4 sg), (xld, aI cI 4 dg), (xlm, aI cI 10000 md)] H := hP
  replace hD : va_D A [(xp, ob 6 [.ref xpc, .int (iZ n)]), (xpc, aI cI 50 pg), (xl, ob 4 [.ref xls, .ref xld, .ref xlm, .int (iZ 0), .int (iZ rd)]), (xls, aI cI 4 sg), (xld, aI cI 4 dg), (xlm, aI cI 10000 md)] := hD
  refine lv_iconst (v := iZ 0) hx hb dX4_read_5 (by decide) ?_
  refine lv_istore_n (lv' := [(2, .int (iZ 0)), (0, .ref xl), (1, .ref xp)]) hx hb dX4_read_6 rfl hl (by decide) rfl (fun ls hl => ?_)
  have lp7 : ∀ fuel : Nat, ∀ (i st1 : Int) (sg1 dg1 : Int → Int), (0 ≤ i ∧ i ≤ n) → (st1 = cntO pg i.toNat) → (∀ j, 0 ≤ j → j < st1 → sg1 j = pg (opp pg i.toNat j)) → (∀ j, 0 ≤ j → j < st1 → dg1 j = lat n pg (opp pg i.toNat j + 1) - 48) → (n - i) < (fuel : Int) → ∀ (H : Heap) (locs : List Loc) (ls : Array Slot), va_P D vwCl [(xp, ob 6 [.ref xpc, .int (iZ n)]), (xpc, aI cI 50 pg), (xl, ob 4 [.ref xls, .ref xld, .ref xlm, .int (iZ st1), .int (iZ rd)]), (xls, aI cI 4 sg1), (xld, aI cI 4 dg1), (xlm, aI cI 10000 md)] H → va_D A [(xp, ob 6 [.ref xpc, .int (iZ n)]), (xpc, aI cI 50 pg), (xl, ob 4 [.ref xls, .ref xld, .ref xlm, .int (iZ st1), .int (iZ rd)]), (xls, aI cI 4 sg1), (xld, aI cI 4 dg1), (xlm, aI cI 10000 md)] → va_S A s.heap H locs → lv_has ls 3 [(0, .ref xl), (1, .ref xp), (2, .int (iZ i))] → W p l e (zRm 3 66) s m [.ref xl, .ref xp].toArray below meth c H locs 0 0 (MQ below (zQv D [(xp, ob 6 [.ref xpc, .int (iZ n)]), (xpc, aI cI 50 pg), (xl, ob 4 [.ref xls, .ref xld, .ref xlm, .int (iZ st), .int (iZ rd)]), (xls, aI cI 4 sg), (xld, aI cI 4 dg), (xlm, aI cI 10000 md)] A (fun (w : va_W) => (∃ (sg2 dg2 : Int → Int), w = [(xp, ob 6 [.ref xpc, .int (iZ n)]), (xpc, aI cI 50 pg), (xl, ob 4 [.ref xls, .ref xld, .ref xlm, .int (iZ (cntO pg n.toNat)), .int (iZ (rd + 1))]), (xls, aI cI 4 sg2), (xld, aI cI 4 dg2), (xlm, aI cI 10000 (fun v => groX (sgP pg n) (dgP pg n) (cntO pg n.toNat).toNat v))]))) [.ref xl, .ref xp].toArray s 0 0 A) (F0 m 7 ls []) := by
    intro fuel
    induction fuel with
    | zero => intro i st1 sg1 dg1 hi hs1 hsg1 hdg1 hmu7; exact absurd hmu7 (by omega)
    | succ fuel ih7 =>
      intro i st1 sg1 dg1 hi hs1 hsg1 hdg1 hmu7 H locs ls hP hD hS hl
      refine lv_iload_n hx hb dX4_read_7 rfl (lv_at hl 2 rfl) ?_
      refine lv_aload_n hx hb dX4_read_8 rfl (lv_at hl 1 rfl) ?_
      refine z_Vi (As := []) (rest := [.int (iZ i)]) hC (c_X6_length l D cI cJ cB xp xpc n ) 0 gX4_read_X6_length rfl rfl rfl ⟨rfl, qX6_length⟩ ⟨Nat.le_of_ble_eq_true rfl, Nat.le_of_ble_eq_true rfl⟩ ⟨Nat.le_refl _, Nat.le_refl _⟩ hK hP hD hS hA [0] rfl (by decide) 0 rfl rfl rfl hl.1 rfl (Nat.le_of_ble_eq_true rfl) dX4_read_9 (fun z w H locs hq hP hD hS => ?_)
      rcases hq with ⟨rfl, rfl⟩
      replace hP : va_P D vwCl [(xp, ob 6 [.ref xpc, .int (iZ n)]), (xpc, aI cI 50 pg), (xl, ob 4 [.ref xls, .ref xld, .ref xlm, .int (iZ st1), .int (iZ rd)]), (xls, aI cI 4 sg1), (xld, aI cI 4 dg1), (xlm, aI cI 10000 md)] H := hP
      replace hD : va_D A [(xp, ob 6 [.ref xpc, .int (iZ n)]), (xpc, aI cI 50 pg), (xl, ob 4 [.ref xls, .ref xld, .ref xlm, .int (iZ st1), .int (iZ rd)]), (xls, aI cI 4 sg1), (xld, aI cI 4 dg1), (xlm, aI cI 10000 md)] := hD
      refine z_icmp_ge (tgt := 51) hx hb dX4_read_12 (by decide) (by first | assumption | omega) (by first | assumption | omega) (fun c_12 => ?_) (fun c_12 => ?_)
      · refine lv_aload_n hx hb dX4_read_51 rfl (lv_at hl 0 rfl) ?_
        refine z_Vv (As := []) (rest := []) hC (c_X4_makeAll l D cI cJ cB xl xls xld xlm sg1 dg1 md st1 rd (by have hco := cntO_le (pg := pg) (i := i) (by omega) (fun j h1 h2 => hwl.2.1 j h1 (by omega)); omega) (by intro j h1 h2; rw [hsg1 j h1 h2]; exact hpg _) (by intro j h1 h2; rw [hdg1 j h1 h2]; have hlr := lat_rng hpg (n := n) (opp pg i.toNat j + 1); omega) (by intro j h1 h2 h3; rw [hdg1 j h1 h2]; rw [hsg1 j h1 h2] at h3; have ein : i = n := (by omega); rw [ein] at h3 ⊢; have hdi := dg_in hwl h1 (by rw [← ein, ← hs1]; exact h2) (Or.inl h3); rw [lat_in ⟨by omega, hdi.2.1⟩]; have hdj := hdi.2.2; rw [h3] at hdj; have hdk := hdj.1; simp at hdk; omega)) 0 gX4_read_X4_makeAll rfl rfl rfl ⟨rfl, qX4_makeAll⟩ ⟨Nat.le_of_ble_eq_true rfl, Nat.le_of_ble_eq_true rfl⟩ ⟨Nat.le_refl _, Nat.le_refl _⟩ hK hP hD hS hA [2, 3, 4, 5] rfl (by decide) 2 rfl rfl rfl hl.1 rfl (Nat.le_of_ble_eq_true rfl) dX4_read_52 (fun w H locs hq hP hD hS => ?_)
        rcases hq with rfl
        replace hP : va_P D vwCl [(xp, ob 6 [.ref xpc, .int (iZ n)]), (xpc, aI cI 50 pg), (xl, ob 4 [.ref xls, .ref xld, .ref xlm, .int (iZ st1), .int (iZ rd)]), (xls, aI cI 4 sg1), (xld, aI cI 4 dg1), (xlm, aI cI 10000 (fun v => groX sg1 dg1 st1.toNat v))] H := hP
        replace hD : va_D A [(xp, ob 6 [.ref xpc, .int (iZ n)]), (xpc, aI cI 50 pg), (xl, ob 4 [.ref xls, .ref xld, .ref xlm, .int (iZ st1), .int (iZ rd)]), (xls, aI cI 4 sg1), (xld, aI cI 4 dg1), (xlm, aI cI 10000 (fun v => groX sg1 dg1 st1.toNat v))] := hD
        refine lv_aload_n hx hb dX4_read_55 rfl (lv_at hl 0 rfl) ?_
        refine lv_dup hx hb dX4_read_56 rfl ?_
        refine z_get (C := RX4) (T0 := TX4) (N := 5) (ci := 4) (v := .int (iZ rd)) hx hb hts hown hK hP iwX4 rfl 2 rfl 4 (by decide) fl61 rfl dX4_read_57 ?_
        refine lv_iconst (v := iZ 1) hx hb dX4_read_60 (by decide) ?_
        refine z_iadd hx hb dX4_read_61 ?_
        refine z_put (C := RX4) (T0 := TX4) (N := 5) (ci := 4) (v := .int (iZ (rd + 1))) hx hb hts hown hK hP hD hS iwX4 tyX4_ok nmX4 rfl 2 rfl 4 (by decide) fl61 rfl rfl rfl (Nat.le_of_ble_eq_true rfl) dX4_read_62 (fun H locs hP hD hS => ?_)
        replace hP : va_P D vwCl [(xp, ob 6 [.ref xpc, .int (iZ n)]), (xpc, aI cI 50 pg), (xl, ob 4 [.ref xls, .ref xld, .ref xlm, .int (iZ st1), .int (iZ (rd + 1))]), (xls, aI cI 4 sg1), (xld, aI cI 4 dg1), (xlm, aI cI 10000 (fun v => groX sg1 dg1 st1.toNat v))] H := hP
        replace hD : va_D A [(xp, ob 6 [.ref xpc, .int (iZ n)]), (xpc, aI cI 50 pg), (xl, ob 4 [.ref xls, .ref xld, .ref xlm, .int (iZ st1), .int (iZ (rd + 1))]), (xls, aI cI 4 sg1), (xld, aI cI 4 dg1), (xlm, aI cI 10000 (fun v => groX sg1 dg1 st1.toNat v))] := hD
        exact z_vret hx hb hr hlocks hP hD hS dX4_read_65 rfl (by have ein : i = n := (by omega); subst ein; refine ⟨sg1, dg1, ?_⟩; have hcc := cntO_le (pg := pg) (i := i) (by omega) hwl.2.1; have hfe : (fun v => groX sg1 dg1 (cntO pg i.toNat).toNat v) = (fun v => groX (sgP pg i) (dgP pg i) (cntO pg i.toNat).toNat v) := funext (fun v => groX_cg (st := cntO pg i.toNat) (fun j h1 h2 => hsg1 j h1 (by omega)) (fun j h1 h2 => hdg1 j h1 (by omega)) v (cntO pg i.toNat).toNat (by omega)); rw [hs1, hfe])
      · refine lv_aload_n hx hb dX4_read_15 rfl (lv_at hl 1 rfl) ?_
        refine lv_iload_n hx hb dX4_read_16 rfl (lv_at hl 2 rfl) ?_
        refine z_Vi (As := [.int (iZ i)]) (rest := []) hC (c_X6_letterAt l D cI cJ cB xp xpc pg n i (by first | assumption | omega) (by first | assumption | omega)) 1 gX4_read_X6_letterAt rfl rfl rfl ⟨rfl, qX6_letterAt⟩ ⟨Nat.le_of_ble_eq_true rfl, Nat.le_of_ble_eq_true rfl⟩ ⟨Nat.le_refl _, Nat.le_refl _⟩ hK hP hD hS hA [0, 1] rfl (by decide) 0 rfl rfl rfl hl.1 rfl (Nat.le_of_ble_eq_true rfl) dX4_read_17 (fun z w H locs hq hP hD hS => ?_)
        rcases hq with ⟨rfl, rfl, hc3_0⟩ | ⟨rfl, rfl, hc3_0⟩
        · replace hP : va_P D vwCl [(xp, ob 6 [.ref xpc, .int (iZ n)]), (xpc, aI cI 50 pg), (xl, ob 4 [.ref xls, .ref xld, .ref xlm, .int (iZ st1), .int (iZ rd)]), (xls, aI cI 4 sg1), (xld, aI cI 4 dg1), (xlm, aI cI 10000 md)] H := hP
          replace hD : va_D A [(xp, ob 6 [.ref xpc, .int (iZ n)]), (xpc, aI cI 50 pg), (xl, ob 4 [.ref xls, .ref xld, .ref xlm, .int (iZ st1), .int (iZ rd)]), (xls, aI cI 4 sg1), (xld, aI cI 4 dg1), (xlm, aI cI 10000 md)] := hD
          have hpi := hpg i
          refine z_Si (As := [.int (iZ (pg i))]) (rest := []) hC (c_X4_opensStep l D cI cJ cB (pg i) (by first | assumption | omega)) 1 gX4_read_X4_opensStep rfl rfl rfl qX4_opensStep ⟨Nat.le_of_ble_eq_true rfl, Nat.le_of_ble_eq_true rfl⟩ ⟨Nat.le_refl _, Nat.le_refl _⟩ hK hP hD hS hA [] rfl (by decide) rfl hl.1 rfl (Nat.le_of_ble_eq_true rfl) dX4_read_20 (fun z w H locs hq hP hD hS => ?_)
          rcases hq with ⟨rfl, rfl, hc4_0⟩ | ⟨rfl, rfl, hc4_0⟩
          · replace hP : va_P D vwCl [(xp, ob 6 [.ref xpc, .int (iZ n)]), (xpc, aI cI 50 pg), (xl, ob 4 [.ref xls, .ref xld, .ref xlm, .int (iZ st1), .int (iZ rd)]), (xls, aI cI 4 sg1), (xld, aI cI 4 dg1), (xlm, aI cI 10000 md)] H := hP
            replace hD : va_D A [(xp, ob 6 [.ref xpc, .int (iZ n)]), (xpc, aI cI 50 pg), (xl, ob 4 [.ref xls, .ref xld, .ref xlm, .int (iZ st1), .int (iZ rd)]), (xls, aI cI 4 sg1), (xld, aI cI 4 dg1), (xlm, aI cI 10000 md)] := hD
            have hcs := cntO_le (pg := pg) (i := i + 1) (by omega) (fun j h1 h2 => hwl.2.1 j h1 (by omega))
            rw [cntO_s (by omega)] at hcs
            have hcl := cntO_le (pg := pg) (i := i) (by omega) (fun j h1 h2 => hwl.2.1 j h1 (by omega))
            rw [if_pos (by assumption)] at hcs
            refine z_if_eq (tgt := 45) hx hb dX4_read_23 (by decide) (by first | assumption | omega) (fun h => absurd h (by decide)) (fun _ => ?_)
            refine lv_aload_n hx hb dX4_read_26 rfl (lv_at hl 0 rfl) ?_
            refine lv_aload_n hx hb dX4_read_27 rfl (lv_at hl 1 rfl) ?_
            refine lv_iload_n hx hb dX4_read_28 rfl (lv_at hl 2 rfl) ?_
            refine z_Vi (As := [.int (iZ i)]) (rest := [.ref xl]) hC (c_X6_letterAt l D cI cJ cB xp xpc pg n i (by first | assumption | omega) (by first | assumption | omega)) 1 gX4_read_X6_letterAt rfl rfl rfl ⟨rfl, qX6_letterAt⟩ ⟨Nat.le_of_ble_eq_true rfl, Nat.le_of_ble_eq_true rfl⟩ ⟨Nat.le_refl _, Nat.le_refl _⟩ hK hP hD hS hA [0, 1] rfl (by decide) 0 rfl rfl rfl hl.1 rfl (Nat.le_of_ble_eq_true rfl) dX4_read_29 (fun z w H locs hq hP hD hS => ?_)
            rcases hq with ⟨rfl, rfl, hc5_0⟩ | ⟨rfl, rfl, hc5_0⟩
            · replace hP : va_P D vwCl [(xp, ob 6 [.ref xpc, .int (iZ n)]), (xpc, aI cI 50 pg), (xl, ob 4 [.ref xls, .ref xld, .ref xlm, .int (iZ st1), .int (iZ rd)]), (xls, aI cI 4 sg1), (xld, aI cI 4 dg1), (xlm, aI cI 10000 md)] H := hP
              replace hD : va_D A [(xp, ob 6 [.ref xpc, .int (iZ n)]), (xpc, aI cI 50 pg), (xl, ob 4 [.ref xls, .ref xld, .ref xlm, .int (iZ st1), .int (iZ rd)]), (xls, aI cI 4 sg1), (xld, aI cI 4 dg1), (xlm, aI cI 10000 md)] := hD
              refine lv_aload_n hx hb dX4_read_32 rfl (lv_at hl 1 rfl) ?_
              refine lv_iload_n hx hb dX4_read_33 rfl (lv_at hl 2 rfl) ?_
              refine lv_iconst (v := iZ 1) hx hb dX4_read_34 (by decide) ?_
              refine z_iadd hx hb dX4_read_35 ?_
              refine z_Vi (As := [.int (iZ (i + 1))]) (rest := [.int (iZ (pg i)), .ref xl]) hC (c_X6_letterAt l D cI cJ cB xp xpc pg n (i + 1) (by first | assumption | omega) (by first | assumption | omega)) 1 gX4_read_X6_letterAt rfl rfl rfl ⟨rfl, qX6_letterAt⟩ ⟨Nat.le_of_ble_eq_true rfl, Nat.le_of_ble_eq_true rfl⟩ ⟨Nat.le_refl _, Nat.le_refl _⟩ hK hP hD hS hA [0, 1] rfl (by decide) 0 rfl rfl rfl hl.1 rfl (Nat.le_of_ble_eq_true rfl) dX4_read_36 (fun z w H locs hq hP hD hS => ?_)
              rcases hq with ⟨rfl, rfl, hc6_0⟩ | ⟨rfl, rfl, hc6_0⟩
              · replace hP : va_P D vwCl [(xp, ob 6 [.ref xpc, .int (iZ n)]), (xpc, aI cI 50 pg), (xl, ob 4 [.ref xls, .ref xld, .ref xlm, .int (iZ st1), .int (iZ rd)]), (xls, aI cI 4 sg1), (xld, aI cI 4 dg1), (xlm, aI cI 10000 md)] H := hP
                replace hD : va_D A [(xp, ob 6 [.ref xpc, .int (iZ n)]), (xpc, aI cI 50 pg), (xl, ob 4 [.ref xls, .ref xld, .ref xlm, .int (iZ st1), .int (iZ rd)]), (xls, aI cI 4 sg1), (xld, aI cI 4 dg1), (xlm, aI cI 10000 md)] := hD
                have hpi2 := hpg (i + 1)
                refine lv_bipush (v := iZ 48) hx hb dX4_read_39 (by decide) ?_
                refine z_isub hx hb dX4_read_41 ?_
                refine z_Vv (As := [.int (iZ (pg i)), .int (iZ ((pg (i + 1)) - 48))]) (rest := []) hC (c_X4_addStep l D cI cJ cB xl xls xld xlm sg1 dg1 st1 rd (pg i) ((pg (i + 1)) - 48) (by first | assumption | omega)) 2 gX4_read_X4_addStep rfl rfl rfl ⟨rfl, qX4_addStep⟩ ⟨Nat.le_of_ble_eq_true rfl, Nat.le_of_ble_eq_true rfl⟩ ⟨Nat.le_refl _, Nat.le_refl _⟩ hK hP hD hS hA [2, 3, 4] rfl (by decide) 2 rfl rfl rfl hl.1 rfl (Nat.le_of_ble_eq_true rfl) dX4_read_42 (fun w H locs hq hP hD hS => ?_)
                rcases hq with rfl
                replace hP : va_P D vwCl [(xp, ob 6 [.ref xpc, .int (iZ n)]), (xpc, aI cI 50 pg), (xl, ob 4 [.ref xls, .ref xld, .ref xlm, .int (iZ (st1 + 1)), .int (iZ rd)]), (xls, aI cI 4 (zu sg1 st1 (pg i))), (xld, aI cI 4 (zu dg1 st1 ((pg (i + 1)) - 48))), (xlm, aI cI 10000 md)] H := hP
                replace hD : va_D A [(xp, ob 6 [.ref xpc, .int (iZ n)]), (xpc, aI cI 50 pg), (xl, ob 4 [.ref xls, .ref xld, .ref xlm, .int (iZ (st1 + 1)), .int (iZ rd)]), (xls, aI cI 4 (zu sg1 st1 (pg i))), (xld, aI cI 4 (zu dg1 st1 ((pg (i + 1)) - 48))), (xlm, aI cI 10000 md)] := hD
                refine z_iinc (lv' := [(2, .int (iZ (i + 1))), (0, .ref xl), (1, .ref xp)]) hx hb dX4_read_45 hl (k := 2) rfl (by decide) rfl (fun ls hl => ?_)
                refine lv_goto (tgt := 7) hx hb dX4_read_48 (by decide) ?_
                exact ih7 (i + 1) (st1 + 1) (zu sg1 st1 (pg i)) (zu dg1 st1 ((pg (i + 1)) - 48)) (by first | assumption | omega) (by rw [cntO_s (by omega)]; (first | rw [if_pos (by assumption)] | rw [if_neg (by assumption)]); omega) (by intro j h1 h2; rw [opp_s (by omega)]; (first | (rw [if_pos (by assumption), ← hs1]; unfold zu; split; rfl; exact hsg1 j h1 (by omega)) | (rw [if_neg (by assumption)]; exact hsg1 j h1 h2))) (by intro j h1 h2; rw [opp_s (by omega)]; (first | (rw [if_pos (by assumption), ← hs1]; unfold zu; split; (rename_i hji; (first | rw [lat_in (by assumption)] | rw [lat_out (by assumption)])); exact hdg1 j h1 (by omega)) | (rw [if_neg (by assumption)]; exact hdg1 j h1 h2))) (by omega) _ _ _ hP hD hS (lv_sub hl [1, 2, 0] rfl)
              · replace hP : va_P D vwCl [(xp, ob 6 [.ref xpc, .int (iZ n)]), (xpc, aI cI 50 pg), (xl, ob 4 [.ref xls, .ref xld, .ref xlm, .int (iZ st1), .int (iZ rd)]), (xls, aI cI 4 sg1), (xld, aI cI 4 dg1), (xlm, aI cI 10000 md)] H := hP
                replace hD : va_D A [(xp, ob 6 [.ref xpc, .int (iZ n)]), (xpc, aI cI 50 pg), (xl, ob 4 [.ref xls, .ref xld, .ref xlm, .int (iZ st1), .int (iZ rd)]), (xls, aI cI 4 sg1), (xld, aI cI 4 dg1), (xlm, aI cI 10000 md)] := hD
                have hpi2 := hpg (i + 1)
                refine lv_bipush (v := iZ 48) hx hb dX4_read_39 (by decide) ?_
                refine z_isub hx hb dX4_read_41 ?_
                refine z_Vv (As := [.int (iZ (pg i)), .int (iZ ((-1) - 48))]) (rest := []) hC (c_X4_addStep l D cI cJ cB xl xls xld xlm sg1 dg1 st1 rd (pg i) ((-1) - 48) (by first | assumption | omega)) 2 gX4_read_X4_addStep rfl rfl rfl ⟨rfl, qX4_addStep⟩ ⟨Nat.le_of_ble_eq_true rfl, Nat.le_of_ble_eq_true rfl⟩ ⟨Nat.le_refl _, Nat.le_refl _⟩ hK hP hD hS hA [2, 3, 4] rfl (by decide) 2 rfl rfl rfl hl.1 rfl (Nat.le_of_ble_eq_true rfl) dX4_read_42 (fun w H locs hq hP hD hS => ?_)
                rcases hq with rfl
                replace hP : va_P D vwCl [(xp, ob 6 [.ref xpc, .int (iZ n)]), (xpc, aI cI 50 pg), (xl, ob 4 [.ref xls, .ref xld, .ref xlm, .int (iZ (st1 + 1)), .int (iZ rd)]), (xls, aI cI 4 (zu sg1 st1 (pg i))), (xld, aI cI 4 (zu dg1 st1 ((-1) - 48))), (xlm, aI cI 10000 md)] H := hP
                replace hD : va_D A [(xp, ob 6 [.ref xpc, .int (iZ n)]), (xpc, aI cI 50 pg), (xl, ob 4 [.ref xls, .ref xld, .ref xlm, .int (iZ (st1 + 1)), .int (iZ rd)]), (xls, aI cI 4 (zu sg1 st1 (pg i))), (xld, aI cI 4 (zu dg1 st1 ((-1) - 48))), (xlm, aI cI 10000 md)] := hD
                refine z_iinc (lv' := [(2, .int (iZ (i + 1))), (0, .ref xl), (1, .ref xp)]) hx hb dX4_read_45 hl (k := 2) rfl (by decide) rfl (fun ls hl => ?_)
                refine lv_goto (tgt := 7) hx hb dX4_read_48 (by decide) ?_
                exact ih7 (i + 1) (st1 + 1) (zu sg1 st1 (pg i)) (zu dg1 st1 ((-1) - 48)) (by first | assumption | omega) (by rw [cntO_s (by omega)]; (first | rw [if_pos (by assumption)] | rw [if_neg (by assumption)]); omega) (by intro j h1 h2; rw [opp_s (by omega)]; (first | (rw [if_pos (by assumption), ← hs1]; unfold zu; split; rfl; exact hsg1 j h1 (by omega)) | (rw [if_neg (by assumption)]; exact hsg1 j h1 h2))) (by intro j h1 h2; rw [opp_s (by omega)]; (first | (rw [if_pos (by assumption), ← hs1]; unfold zu; split; (rename_i hji; (first | rw [lat_in (by assumption)] | rw [lat_out (by assumption)])); exact hdg1 j h1 (by omega)) | (rw [if_neg (by assumption)]; exact hdg1 j h1 h2))) (by omega) _ _ _ hP hD hS (lv_sub hl [1, 2, 0] rfl)
            · exfalso; omega
          · replace hP : va_P D vwCl [(xp, ob 6 [.ref xpc, .int (iZ n)]), (xpc, aI cI 50 pg), (xl, ob 4 [.ref xls, .ref xld, .ref xlm, .int (iZ st1), .int (iZ rd)]), (xls, aI cI 4 sg1), (xld, aI cI 4 dg1), (xlm, aI cI 10000 md)] H := hP
            replace hD : va_D A [(xp, ob 6 [.ref xpc, .int (iZ n)]), (xpc, aI cI 50 pg), (xl, ob 4 [.ref xls, .ref xld, .ref xlm, .int (iZ st1), .int (iZ rd)]), (xls, aI cI 4 sg1), (xld, aI cI 4 dg1), (xlm, aI cI 10000 md)] := hD
            have hcs := cntO_le (pg := pg) (i := i + 1) (by omega) (fun j h1 h2 => hwl.2.1 j h1 (by omega))
            rw [cntO_s (by omega)] at hcs
            have hcl := cntO_le (pg := pg) (i := i) (by omega) (fun j h1 h2 => hwl.2.1 j h1 (by omega))
            rw [if_neg (by assumption)] at hcs
            refine z_if_eq (tgt := 45) hx hb dX4_read_23 (by decide) (by first | assumption | omega) (fun _ => ?_) (fun h => absurd h (by decide))
            refine z_iinc (lv' := [(2, .int (iZ (i + 1))), (0, .ref xl), (1, .ref xp)]) hx hb dX4_read_45 hl (k := 2) rfl (by decide) rfl (fun ls hl => ?_)
            refine lv_goto (tgt := 7) hx hb dX4_read_48 (by decide) ?_
            exact ih7 (i + 1) st1 sg1 dg1 (by first | assumption | omega) (by rw [cntO_s (by omega)]; (first | rw [if_pos (by assumption)] | rw [if_neg (by assumption)]); omega) (by intro j h1 h2; rw [opp_s (by omega)]; (first | (rw [if_pos (by assumption), ← hs1]; unfold zu; split; rfl; exact hsg1 j h1 (by omega)) | (rw [if_neg (by assumption)]; exact hsg1 j h1 h2))) (by intro j h1 h2; rw [opp_s (by omega)]; (first | (rw [if_pos (by assumption), ← hs1]; unfold zu; split; (rename_i hji; (first | rw [lat_in (by assumption)] | rw [lat_out (by assumption)])); exact hdg1 j h1 (by omega)) | (rw [if_neg (by assumption)]; exact hdg1 j h1 h2))) (by omega) _ _ _ hP hD hS (lv_sub hl [1, 2, 0] rfl)
        · exfalso; omega
  exact lp7 ((n - 0 : Int) + 1).toNat 0 0 sg dg (by first | assumption | omega) (by rfl) (by intro j h1 h2; omega) (by intro j h1 h2; omega) (by omega) _ _ _ hP hD hS (lv_sub hl [1, 2, 0] rfl)
