set_option maxHeartbeats 4000000 in
set_option maxRecDepth 100000 in
/-- J6_bitCount_0f7a4 -/
theorem c_J6_bitCount_0f7a4 (l : Launch) (G : GG) (x : Int32) : Met l yJ6_bitCount_0f7a4 wsJ6_bitCount_0f7a4 ({ frames := 0, cells := 0, slots := 0, locals := 0 }) (pcW G [.int x] ([])) (qRO (.int (bcF x))) 0 0 nofree := by
  refine hd_RO (cc := cJ6_bitCount_0f7a4) (maxL := 1) (ret := some .int) (by decide) rfl (Nat.le_of_ble_eq_true rfl) ?_
  intro p e s m below meth c ls hx hb hr hts hown hlocks hml hP hKK hl
  have hl : lv_has ls 1 [(0, .int x)] := hl
  refine lv_iload_n hx hb dJ6_bitCount_0f7a4_0 rfl (lv_at hl 0 rfl) ?_
  refine lv_iload_n hx hb dJ6_bitCount_0f7a4_1 rfl (lv_at hl 0 rfl) ?_
  refine lv_iconst (v := 1) hx hb dJ6_bitCount_0f7a4_2 (by decide) ?_
  refine lv_iushr (v := ushr x 1) hx hb dJ6_bitCount_0f7a4_3 rfl ?_
  refine lv_ldcw (v := 1431655765) hx hb hown (hts (.constant RJ6 265 (1431655765)) (by decide +kernel)) dJ6_bitCount_0f7a4_4 ?_
  refine lv_iand hx hb dJ6_bitCount_0f7a4_7 ?_
  refine lv_isub hx hb dJ6_bitCount_0f7a4_8 ?_
  refine lv_istore_n (lv' := [(0, .int (x - ((ushr x 1) &&& 1431655765)))]) hx hb dJ6_bitCount_0f7a4_9 rfl hl (by decide) rfl (fun ls hl => ?_)
  refine lv_iload_n hx hb dJ6_bitCount_0f7a4_10 rfl (lv_at hl 0 rfl) ?_
  refine lv_ldcw (v := 858993459) hx hb hown (hts (.constant RJ6 266 (858993459)) (by decide +kernel)) dJ6_bitCount_0f7a4_11 ?_
  refine lv_iand hx hb dJ6_bitCount_0f7a4_14 ?_
  refine lv_iload_n hx hb dJ6_bitCount_0f7a4_15 rfl (lv_at hl 0 rfl) ?_
  refine lv_iconst (v := 2) hx hb dJ6_bitCount_0f7a4_16 (by decide) ?_
  refine lv_iushr (v := ushr (x - ((ushr x 1) &&& 1431655765)) 2) hx hb dJ6_bitCount_0f7a4_17 rfl ?_
  refine lv_ldcw (v := 858993459) hx hb hown (hts (.constant RJ6 266 (858993459)) (by decide +kernel)) dJ6_bitCount_0f7a4_18 ?_
  refine lv_iand hx hb dJ6_bitCount_0f7a4_21 ?_
  refine lv_iadd hx hb dJ6_bitCount_0f7a4_22 ?_
  refine lv_istore_n (lv' := [(0, .int (((x - ((ushr x 1) &&& 1431655765)) &&& 858993459) + ((ushr (x - ((ushr x 1) &&& 1431655765)) 2) &&& 858993459)))]) hx hb dJ6_bitCount_0f7a4_23 rfl hl (by decide) rfl (fun ls hl => ?_)
  refine lv_iload_n hx hb dJ6_bitCount_0f7a4_24 rfl (lv_at hl 0 rfl) ?_
  refine lv_iload_n hx hb dJ6_bitCount_0f7a4_25 rfl (lv_at hl 0 rfl) ?_
  refine lv_iconst (v := 4) hx hb dJ6_bitCount_0f7a4_26 (by decide) ?_
  refine lv_iushr (v := ushr (((x - ((ushr x 1) &&& 1431655765)) &&& 858993459) + ((ushr (x - ((ushr x 1) &&& 1431655765)) 2) &&& 858993459)) 4) hx hb dJ6_bitCount_0f7a4_27 rfl ?_
  refine lv_iadd hx hb dJ6_bitCount_0f7a4_28 ?_
  refine lv_ldcw (v := 252645135) hx hb hown (hts (.constant RJ6 267 (252645135)) (by decide +kernel)) dJ6_bitCount_0f7a4_29 ?_
  refine lv_iand hx hb dJ6_bitCount_0f7a4_32 ?_
  refine lv_istore_n (lv' := [(0, .int (((((x - ((ushr x 1) &&& 1431655765)) &&& 858993459) + ((ushr (x - ((ushr x 1) &&& 1431655765)) 2) &&& 858993459)) + (ushr (((x - ((ushr x 1) &&& 1431655765)) &&& 858993459) + ((ushr (x - ((ushr x 1) &&& 1431655765)) 2) &&& 858993459)) 4)) &&& 252645135))]) hx hb dJ6_bitCount_0f7a4_33 rfl hl (by decide) rfl (fun ls hl => ?_)
  refine lv_iload_n hx hb dJ6_bitCount_0f7a4_34 rfl (lv_at hl 0 rfl) ?_
  refine lv_iload_n hx hb dJ6_bitCount_0f7a4_35 rfl (lv_at hl 0 rfl) ?_
  refine lv_bipush (v := 8) hx hb dJ6_bitCount_0f7a4_36 (by decide) ?_
  refine lv_iushr (v := ushr (((((x - ((ushr x 1) &&& 1431655765)) &&& 858993459) + ((ushr (x - ((ushr x 1) &&& 1431655765)) 2) &&& 858993459)) + (ushr (((x - ((ushr x 1) &&& 1431655765)) &&& 858993459) + ((ushr (x - ((ushr x 1) &&& 1431655765)) 2) &&& 858993459)) 4)) &&& 252645135) 8) hx hb dJ6_bitCount_0f7a4_38 rfl ?_
  refine lv_iadd hx hb dJ6_bitCount_0f7a4_39 ?_
  refine lv_istore_n (lv' := [(0, .int ((((((x - ((ushr x 1) &&& 1431655765)) &&& 858993459) + ((ushr (x - ((ushr x 1) &&& 1431655765)) 2) &&& 858993459)) + (ushr (((x - ((ushr x 1) &&& 1431655765)) &&& 858993459) + ((ushr (x - ((ushr x 1) &&& 1431655765)) 2) &&& 858993459)) 4)) &&& 252645135) + (ushr (((((x - ((ushr x 1) &&& 1431655765)) &&& 858993459) + ((ushr (x - ((ushr x 1) &&& 1431655765)) 2) &&& 858993459)) + (ushr (((x - ((ushr x 1) &&& 1431655765)) &&& 858993459) + ((ushr (x - ((ushr x 1) &&& 1431655765)) 2) &&& 858993459)) 4)) &&& 252645135) 8)))]) hx hb dJ6_bitCount_0f7a4_40 rfl hl (by decide) rfl (fun ls hl => ?_)
  refine lv_iload_n hx hb dJ6_bitCount_0f7a4_41 rfl (lv_at hl 0 rfl) ?_
  refine lv_iload_n hx hb dJ6_bitCount_0f7a4_42 rfl (lv_at hl 0 rfl) ?_
  refine lv_bipush (v := 16) hx hb dJ6_bitCount_0f7a4_43 (by decide) ?_
  refine lv_iushr (v := ushr ((((((x - ((ushr x 1) &&& 1431655765)) &&& 858993459) + ((ushr (x - ((ushr x 1) &&& 1431655765)) 2) &&& 858993459)) + (ushr (((x - ((ushr x 1) &&& 1431655765)) &&& 858993459) + ((ushr (x - ((ushr x 1) &&& 1431655765)) 2) &&& 858993459)) 4)) &&& 252645135) + (ushr (((((x - ((ushr x 1) &&& 1431655765)) &&& 858993459) + ((ushr (x - ((ushr x 1) &&& 1431655765)) 2) &&& 858993459)) + (ushr (((x - ((ushr x 1) &&& 1431655765)) &&& 858993459) + ((ushr (x - ((ushr x 1) &&& 1431655765)) 2) &&& 858993459)) 4)) &&& 252645135) 8)) 16) hx hb dJ6_bitCount_0f7a4_45 rfl ?_
  refine lv_iadd hx hb dJ6_bitCount_0f7a4_46 ?_
  refine lv_istore_n (lv' := [(0, .int (((((((x - ((ushr x 1) &&& 1431655765)) &&& 858993459) + ((ushr (x - ((ushr x 1) &&& 1431655765)) 2) &&& 858993459)) + (ushr (((x - ((ushr x 1) &&& 1431655765)) &&& 858993459) + ((ushr (x - ((ushr x 1) &&& 1431655765)) 2) &&& 858993459)) 4)) &&& 252645135) + (ushr (((((x - ((ushr x 1) &&& 1431655765)) &&& 858993459) + ((ushr (x - ((ushr x 1) &&& 1431655765)) 2) &&& 858993459)) + (ushr (((x - ((ushr x 1) &&& 1431655765)) &&& 858993459) + ((ushr (x - ((ushr x 1) &&& 1431655765)) 2) &&& 858993459)) 4)) &&& 252645135) 8)) + (ushr ((((((x - ((ushr x 1) &&& 1431655765)) &&& 858993459) + ((ushr (x - ((ushr x 1) &&& 1431655765)) 2) &&& 858993459)) + (ushr (((x - ((ushr x 1) &&& 1431655765)) &&& 858993459) + ((ushr (x - ((ushr x 1) &&& 1431655765)) 2) &&& 858993459)) 4)) &&& 252645135) + (ushr (((((x - ((ushr x 1) &&& 1431655765)) &&& 858993459) + ((ushr (x - ((ushr x 1) &&& 1431655765)) 2) &&& 858993459)) + (ushr (((x - ((ushr x 1) &&& 1431655765)) &&& 858993459) + ((ushr (x - ((ushr x 1) &&& 1431655765)) 2) &&& 858993459)) 4)) &&& 252645135) 8)) 16)))]) hx hb dJ6_bitCount_0f7a4_47 rfl hl (by decide) rfl (fun ls hl => ?_)
  refine lv_iload_n hx hb dJ6_bitCount_0f7a4_48 rfl (lv_at hl 0 rfl) ?_
  refine lv_bipush (v := 63) hx hb dJ6_bitCount_0f7a4_49 (by decide) ?_
  refine lv_iand hx hb dJ6_bitCount_0f7a4_51 ?_
  exact ex_ROi hx hb hr hlocks rfl dJ6_bitCount_0f7a4_52 (rfl)
set_option maxRecDepth 20000 in
theorem hin_X0_record_X0 : ∀ w ∈ u_ws RX0 TX0 3, w ∈ wsX0_record := by decide +kernel
theorem lk_X0_record_11 : Cond.fieldLink RX0 11 "WeldedRelays$History" "states" "[LWeldedRelays$Room;" ∈ wsX0_record := by decide +kernel
theorem lk_X0_record_18 : Cond.fieldLink RX0 18 "WeldedRelays$History" "oldest" "I" ∈ wsX0_record := by decide +kernel
theorem lk_X0_record_22 : Cond.fieldLink RX0 22 "WeldedRelays$History" "size" "I" ∈ wsX0_record := by decide +kernel
set_option maxHeartbeats 4000000 in
set_option maxRecDepth 100000 in
/-- X0_record -/
theorem c_X0_record (l : Launch) (G : GG) (ha : Nat → Nat) (ra : Nat → Nat) (B : Nat → Nat → Nat) (v : Nat → Int32) (VH : Nat → Nat → Int32) (ol : Nat) (sz : Nat) (hol : ol < 6) (hsz : sz ≤ 6) : Met l yX0_record wsX0_record ({ frames := 2, cells := 0, slots := 0, locals := 61 }) (pcM G [.ref (ha 0), .ref (ra 0)] (List.flatten [bHw G ha B ol sz, rW G ra v, fam G 6 B VH])) (qMU G none (List.flatten [bHw G ha B ol sz, rW G ra v, fam G 6 B VH]) (List.flatten [bHw G ha B (recO ol sz) (recZ sz), rW G ra v, fam G 6 B (recV VH ol sz v)])) 0 0 (aA (List.flatten [bHw G ha B ol sz, rW G ra v, fam G 6 B VH])) := by
  refine hd_MU (cc := cX0_record) (maxL := 2) (ret := none) (by decide) rfl (Nat.le_of_ble_eq_true rfl) ?_
  intro p e s m below meth c ls hx hb hr hts hown hlocks hml hP hKK hD hS hl
  have hl : lv_has ls 2 [(0, .ref (ha 0)), (1, .ref (ra 0))] := hl
  refine lv_aload_n hx hb dX0_record_0 rfl (lv_at hl 0 rfl) ?_
  refine va_get (D := gD G) (ci := 0) (v := .ref (ha 1)) (C := RX0) (T := TX0) (N := 3) hx hb hts hin_X0_record_X0 hown hKK.1 hP 0 rfl rfl 0 (by decide) (hts _ lk_X0_record_11) (fun _ h9 => h9) rfl dX0_record_1 ?_
  refine lv_aload_n hx hb dX0_record_4 rfl (lv_at hl 0 rfl) ?_
  refine va_get (D := gD G) (ci := 0) (v := .int (nI ol)) (C := RX0) (T := TX0) (N := 3) hx hb hts hin_X0_record_X0 hown hKK.1 hP 0 rfl rfl 1 (by decide) (hts _ lk_X0_record_18) (fun _ h9 => h9) rfl dX0_record_5 ?_
  refine lv_aload_n hx hb dX0_record_8 rfl (lv_at hl 0 rfl) ?_
  refine va_get (D := gD G) (ci := 0) (v := .int (nI sz)) (C := RX0) (T := TX0) (N := 3) hx hb hts hin_X0_record_X0 hown hKK.1 hP 0 rfl rfl 2 (by decide) (hts _ lk_X0_record_22) (fun _ h9 => h9) rfl dX0_record_9 ?_
  refine lv_iadd hx hb dX0_record_12 ?_
  refine lv_asi (y := nI (ol + sz)) (nI_add _ _) ?_
  refine lv_bipush (v := 6) hx hb dX0_record_13 (by decide) ?_
  refine lv_irem hx hb dX0_record_15 (by decide) ?_
  refine lv_asi (y := nI ((ol + sz) % 6)) (pk_rem (by omega) (by decide) (by decide)) ?_
  refine va_aldqN (j := (ol + sz) % 6) (b := B ((ol + sz) % 6) 0) hx hb hKK.1 hP 1 2 rfl rfl (rfl) (by omega) (by decide) rfl dX0_record_16 ?_
  refine lv_aload_n hx hb dX0_record_17 rfl (lv_at hl 1 rfl) ?_
  refine mu_VF (ws := (List.flatten [bHw G ha B ol sz, rW G ra v, fam G 6 B VH])) (ws' := (List.flatten [bHw G ha B ol sz, rW G ra v, fam G 6 B (va_up VH ((ol + sz) % 6) v)])) (wr := (List.flatten [bHw G ha B ol sz] ++ fmr G 6 ((ol + sz) % 6) B VH)) (As := [.ref (ra 0)]) (rest := []) ⟨hx, hb, hml, hown, hts⟩ (c_X3_copyFrom l G (B ((ol + sz) % 6)) _ ra _) (cwV 1 hts gX0_record_X3_copyFrom rfl rfl rfl (by decide +kernel) ⟨Nat.le_of_ble_eq_true rfl, Nat.le_of_ble_eq_true rfl⟩) ((segs_pre [bHw G ha B ol sz, rW G ra v, fam G 6 B VH] [0] 1 2 3 (by decide) rfl rfl rfl rfl).trans (fam_split (by omega) _ _)) ((segs_pre [bHw G ha B ol sz, rW G ra v, fam G 6 B (va_up VH ((ol + sz) % 6) v)] [0] 1 2 3 (by decide) rfl rfl rfl rfl).trans (fam_split' (by omega) _ _)) hP hKK hD hS (va_recv hKK.1 (fr_P ((segs_pre [bHw G ha B ol sz, rW G ra v, fam G 6 B VH] [0] 1 2 3 (by decide) rfl rfl rfl rfl).trans (fam_split (by omega) _ _)) hP) (ci := 3) (q0 := 0) rfl rfl) rfl hl.1 rfl (Nat.le_of_ble_eq_true rfl) dX0_record_18 (Nat.zero_le _) (Nat.zero_le _) rfl (fun H locs hP hD hS => ?_)
  refine lv_aload_n hx hb dX0_record_21 rfl (lv_at hl 0 rfl) ?_
  refine va_get (D := gD G) (ci := 0) (v := .int (nI sz)) (C := RX0) (T := TX0) (N := 3) hx hb hts hin_X0_record_X0 hown hKK.1 hP 0 rfl rfl 2 (by decide) (hts _ lk_X0_record_22) (fun _ h9 => h9) rfl dX0_record_22 ?_
  refine lv_bipush (v := 6) hx hb dX0_record_25 (by decide) ?_
  refine lv_icmp_ge (tgt := 43) hx hb dX0_record_27 (by decide) (fun c_27 => ?_) (fun c_27 => ?_)
  · skip
    have c_27 : 6 ≤ sz := (nI_leI (a := 6) (b := sz) (by omega) (by omega)).mp c_27
    refine lv_aload_n hx hb dX0_record_43 rfl (lv_at hl 0 rfl) ?_
    refine lv_aload_n hx hb dX0_record_44 rfl (lv_at hl 0 rfl) ?_
    refine va_get (D := gD G) (ci := 0) (v := .int (nI ol)) (C := RX0) (T := TX0) (N := 3) hx hb hts hin_X0_record_X0 hown hKK.1 hP 0 rfl rfl 1 (by decide) (hts _ lk_X0_record_18) (fun _ h9 => h9) rfl dX0_record_45 ?_
    refine lv_iconst (v := 1) hx hb dX0_record_48 (by decide) ?_
    refine lv_iadd hx hb dX0_record_49 ?_
    refine lv_asi (y := nI (ol + 1)) (nI_1 _) ?_
    refine lv_bipush (v := 6) hx hb dX0_record_50 (by decide) ?_
    refine lv_irem hx hb dX0_record_52 (by decide) ?_
    refine lv_asi (y := nI ((ol + 1) % 6)) (pk_rem (by omega) (by decide) (by decide)) ?_
    refine va_put (D := gD G) (ci := 0) (v := .int (nI ((ol + 1) % 6))) (ty := .int) (C := RX0) (T := TX0) (N := 3) hx hb hts hin_X0_record_X0 tyX0 tyX0_ok nmX0 hown hKK.1 hP hD hS 0 rfl rfl 1 (by decide) (hts _ lk_X0_record_18) (fun _ h9 => h9) rfl (by decide +kernel) rfl rfl (Nat.le_of_ble_eq_true rfl) dX0_record_53 (fun H locs hP hD hS => ?_)
    have hP : gP G (List.flatten [bHw G ha B ((ol + 1) % 6) sz, rW G ra v, fam G 6 B (va_up VH ((ol + sz) % 6) v)]) H := hP
    have hD : va_D (aA (List.flatten [bHw G ha B ol sz, rW G ra v, fam G 6 B VH])) (List.flatten [bHw G ha B ((ol + 1) % 6) sz, rW G ra v, fam G 6 B (va_up VH ((ol + sz) % 6) v)]) := hD
    exact ex_MUv (w2 := (List.flatten [bHw G ha B ((ol + 1) % 6) sz, rW G ra v, fam G 6 B (va_up VH ((ol + sz) % 6) v)])) hx hb hr hlocks hP hS dX0_record_56 (fun h => by rw [show recO ol sz = (ol + 1) % 6 from if_neg (by omega), show recZ sz = sz from if_neg (by omega)]; exact h)
  · skip
    have c_27 : ¬ (6 ≤ sz) := fun q => c_27 ((nI_leI (a := 6) (b := sz) (by omega) (by omega)).mpr q)
    refine lv_aload_n hx hb dX0_record_30 rfl (lv_at hl 0 rfl) ?_
    refine lv_dup hx hb dX0_record_31 rfl ?_
    refine va_get (D := gD G) (ci := 0) (v := .int (nI sz)) (C := RX0) (T := TX0) (N := 3) hx hb hts hin_X0_record_X0 hown hKK.1 hP 0 rfl rfl 2 (by decide) (hts _ lk_X0_record_22) (fun _ h9 => h9) rfl dX0_record_32 ?_
    refine lv_iconst (v := 1) hx hb dX0_record_35 (by decide) ?_
    refine lv_iadd hx hb dX0_record_36 ?_
    refine lv_asi (y := nI (sz + 1)) (nI_1 _) ?_
    refine va_put (D := gD G) (ci := 0) (v := .int (nI (sz + 1))) (ty := .int) (C := RX0) (T := TX0) (N := 3) hx hb hts hin_X0_record_X0 tyX0 tyX0_ok nmX0 hown hKK.1 hP hD hS 0 rfl rfl 2 (by decide) (hts _ lk_X0_record_22) (fun _ h9 => h9) rfl (by decide +kernel) rfl rfl (Nat.le_of_ble_eq_true rfl) dX0_record_37 (fun H locs hP hD hS => ?_)
    have hP : gP G (List.flatten [bHw G ha B ol (sz + 1), rW G ra v, fam G 6 B (va_up VH ((ol + sz) % 6) v)]) H := hP
    have hD : va_D (aA (List.flatten [bHw G ha B ol sz, rW G ra v, fam G 6 B VH])) (List.flatten [bHw G ha B ol (sz + 1), rW G ra v, fam G 6 B (va_up VH ((ol + sz) % 6) v)]) := hD
    refine lv_goto (tgt := 56) hx hb dX0_record_40 (by decide) ?_
    exact ex_MUv (w2 := (List.flatten [bHw G ha B ol (sz + 1), rW G ra v, fam G 6 B (va_up VH ((ol + sz) % 6) v)])) hx hb hr hlocks hP hS dX0_record_56 (fun h => by rw [show recO ol sz = ol from if_pos (by omega), show recZ sz = sz + 1 from if_pos (by omega)]; exact h)
set_option maxRecDepth 20000 in
theorem hin_X0_takeBackTo_X0 : ∀ w ∈ u_ws RX0 TX0 3, w ∈ wsX0_takeBackTo := by decide +kernel
theorem lk_X0_takeBackTo_22 : Cond.fieldLink RX0 22 "WeldedRelays$History" "size" "I" ∈ wsX0_takeBackTo := by decide +kernel
theorem lk_X0_takeBackTo_11 : Cond.fieldLink RX0 11 "WeldedRelays$History" "states" "[LWeldedRelays$Room;" ∈ wsX0_takeBackTo := by decide +kernel
theorem lk_X0_takeBackTo_18 : Cond.fieldLink RX0 18 "WeldedRelays$History" "oldest" "I" ∈ wsX0_takeBackTo := by decide +kernel
set_option maxHeartbeats 4000000 in
set_option maxRecDepth 100000 in
/-- X0_takeBackTo -/
theorem c_X0_takeBackTo (l : Launch) (G : GG) (ha : Nat → Nat) (ra : Nat → Nat) (B : Nat → Nat → Nat) (v : Nat → Int32) (VH : Nat → Nat → Int32) (ol : Nat) (sz : Nat) (hol : ol < 6) (hsz : sz ≤ 6) (hs0 : 0 < sz) : Met l yX0_takeBackTo wsX0_takeBackTo ({ frames := 2, cells := 0, slots := 0, locals := 61 }) (pcM G [.ref (ha 0), .ref (ra 0)] (List.flatten [bHw G ha B ol sz, rW G ra v, fam G 6 B VH])) (qMU G none (List.flatten [bHw G ha B ol sz, rW G ra v, fam G 6 B VH]) (List.flatten [bHw G ha B ol (sz - 1), rW G ra (VH ((ol + (sz - 1)) % 6)), fam G 6 B VH])) 0 0 (aA (List.flatten [bHw G ha B ol sz, rW G ra v, fam G 6 B VH])) := by
  refine hd_MU (cc := cX0_takeBackTo) (maxL := 2) (ret := none) (by decide) rfl (Nat.le_of_ble_eq_true rfl) ?_
  intro p e s m below meth c ls hx hb hr hts hown hlocks hml hP hKK hD hS hl
  have hl : lv_has ls 2 [(0, .ref (ha 0)), (1, .ref (ra 0))] := hl
  refine lv_aload_n hx hb dX0_takeBackTo_0 rfl (lv_at hl 0 rfl) ?_
  refine va_get (D := gD G) (ci := 0) (v := .int (nI sz)) (C := RX0) (T := TX0) (N := 3) hx hb hts hin_X0_takeBackTo_X0 hown hKK.1 hP 0 rfl rfl 2 (by decide) (hts _ lk_X0_takeBackTo_22) (fun _ h9 => h9) rfl dX0_takeBackTo_1 ?_
  refine lv_if_le (tgt := 38) hx hb dX0_takeBackTo_4 (by decide) (fun c_4 => ?_) (fun c_4 => ?_)
  · skip
    exact absurd c_4 (nI_nle hs0 (by omega))
  · skip
    refine lv_aload_n hx hb dX0_takeBackTo_7 rfl (lv_at hl 0 rfl) ?_
    refine lv_dup hx hb dX0_takeBackTo_8 rfl ?_
    refine va_get (D := gD G) (ci := 0) (v := .int (nI sz)) (C := RX0) (T := TX0) (N := 3) hx hb hts hin_X0_takeBackTo_X0 hown hKK.1 hP 0 rfl rfl 2 (by decide) (hts _ lk_X0_takeBackTo_22) (fun _ h9 => h9) rfl dX0_takeBackTo_9 ?_
    refine lv_iconst (v := 1) hx hb dX0_takeBackTo_12 (by decide) ?_
    refine lv_isub hx hb dX0_takeBackTo_13 ?_
    refine lv_asi (y := nI (sz - 1)) (sub1 hs0) ?_
    refine va_put (D := gD G) (ci := 0) (v := .int (nI (sz - 1))) (ty := .int) (C := RX0) (T := TX0) (N := 3) hx hb hts hin_X0_takeBackTo_X0 tyX0 tyX0_ok nmX0 hown hKK.1 hP hD hS 0 rfl rfl 2 (by decide) (hts _ lk_X0_takeBackTo_22) (fun _ h9 => h9) rfl (by decide +kernel) rfl rfl (Nat.le_of_ble_eq_true rfl) dX0_takeBackTo_14 (fun H locs hP hD hS => ?_)
    have hP : gP G (List.flatten [bHw G ha B ol (sz - 1), rW G ra v, fam G 6 B VH]) H := hP
    have hD : va_D (aA (List.flatten [bHw G ha B ol sz, rW G ra v, fam G 6 B VH])) (List.flatten [bHw G ha B ol (sz - 1), rW G ra v, fam G 6 B VH]) := hD
    refine lv_aload_n hx hb dX0_takeBackTo_17 rfl (lv_at hl 1 rfl) ?_
    refine lv_aload_n hx hb dX0_takeBackTo_18 rfl (lv_at hl 0 rfl) ?_
    refine va_get (D := gD G) (ci := 0) (v := .ref (ha 1)) (C := RX0) (T := TX0) (N := 3) hx hb hts hin_X0_takeBackTo_X0 hown hKK.1 hP 0 rfl rfl 0 (by decide) (hts _ lk_X0_takeBackTo_11) (fun _ h9 => h9) rfl dX0_takeBackTo_19 ?_
    refine lv_aload_n hx hb dX0_takeBackTo_22 rfl (lv_at hl 0 rfl) ?_
    refine va_get (D := gD G) (ci := 0) (v := .int (nI ol)) (C := RX0) (T := TX0) (N := 3) hx hb hts hin_X0_takeBackTo_X0 hown hKK.1 hP 0 rfl rfl 1 (by decide) (hts _ lk_X0_takeBackTo_18) (fun _ h9 => h9) rfl dX0_takeBackTo_23 ?_
    refine lv_aload_n hx hb dX0_takeBackTo_26 rfl (lv_at hl 0 rfl) ?_
    refine va_get (D := gD G) (ci := 0) (v := .int (nI (sz - 1))) (C := RX0) (T := TX0) (N := 3) hx hb hts hin_X0_takeBackTo_X0 hown hKK.1 hP 0 rfl rfl 2 (by decide) (hts _ lk_X0_takeBackTo_22) (fun _ h9 => h9) rfl dX0_takeBackTo_27 ?_
    refine lv_iadd hx hb dX0_takeBackTo_30 ?_
    refine lv_asi (y := nI (ol + (sz - 1))) (nI_add _ _) ?_
    refine lv_bipush (v := 6) hx hb dX0_takeBackTo_31 (by decide) ?_
    refine lv_irem hx hb dX0_takeBackTo_33 (by decide) ?_
    refine lv_asi (y := nI ((ol + (sz - 1)) % 6)) (pk_rem (by omega) (by decide) (by decide)) ?_
    refine va_aldqN (j := (ol + (sz - 1)) % 6) (b := B ((ol + (sz - 1)) % 6) 0) hx hb hKK.1 hP 1 2 rfl rfl (rfl) (by omega) (by decide) rfl dX0_takeBackTo_34 ?_
    refine mu_VF (ws := (List.flatten [bHw G ha B ol (sz - 1), rW G ra v, fam G 6 B VH])) (ws' := (List.flatten [bHw G ha B ol (sz - 1), rW G ra (VH ((ol + (sz - 1)) % 6)), fam G 6 B VH])) (wr := (List.flatten [bHw G ha B ol (sz - 1)] ++ fmr G 6 ((ol + (sz - 1)) % 6) B VH)) (As := [.ref (B ((ol + (sz - 1)) % 6) 0)]) (rest := []) ⟨hx, hb, hml, hown, hts⟩ (c_X3_copyFrom l G ra _ (B ((ol + (sz - 1)) % 6)) _) (cwV 1 hts gX0_takeBackTo_X3_copyFrom rfl rfl rfl (by decide +kernel) ⟨Nat.le_of_ble_eq_true rfl, Nat.le_of_ble_eq_true rfl⟩) ((segs_pre [bHw G ha B ol (sz - 1), rW G ra v, fam G 6 B VH] [0] 1 2 3 (by decide) rfl rfl rfl rfl).trans ((fam_split (j := (ol + (sz - 1)) % 6) (by omega) _ _).trans (flat_swap _ _ _))) ((segs_pre [bHw G ha B ol (sz - 1), rW G ra (VH ((ol + (sz - 1)) % 6)), fam G 6 B VH] [0] 1 2 3 (by decide) rfl rfl rfl rfl).trans ((fam_split (j := (ol + (sz - 1)) % 6) (by omega) _ _).trans (flat_swap _ _ _))) hP hKK hD hS (va_recv hKK.1 (fr_P ((segs_pre [bHw G ha B ol (sz - 1), rW G ra v, fam G 6 B VH] [0] 1 2 3 (by decide) rfl rfl rfl rfl).trans ((fam_split (j := (ol + (sz - 1)) % 6) (by omega) _ _).trans (flat_swap _ _ _))) hP) (ci := 3) (q0 := 0) rfl rfl) rfl hl.1 rfl (Nat.le_of_ble_eq_true rfl) dX0_takeBackTo_35 (Nat.zero_le _) (Nat.zero_le _) rfl (fun H locs hP hD hS => ?_)
    exact ex_MUv (w2 := (List.flatten [bHw G ha B ol (sz - 1), rW G ra (VH ((ol + (sz - 1)) % 6)), fam G 6 B VH])) hx hb hr hlocks hP hS dX0_takeBackTo_38 (fun h => h)
