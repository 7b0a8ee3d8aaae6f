set_option maxHeartbeats 4000000 in
set_option maxRecDepth 100000 in
/-- X4_isWithin -/
theorem c_X4_isWithin (l : Launch) (G : GG) (x : Int32) (lo : Int32) (hi : Int32) : Met l yX4_isWithin wsX4_isWithin ({ frames := 0, cells := 0, slots := 0, locals := 0 }) (pcW G [.int x, .int lo, .int hi] ([])) (qRO (.int (b2i (inr x lo hi)))) 0 0 nofree := by
  refine hd_RO (cc := cX4_isWithin) (maxL := 3) (ret := some .boolean) (by decide) rfl (Nat.le_of_ble_eq_true rfl) ?_
  intro p e s m below meth c ls hx hb hr hts hown hlocks hml hP hKK hl
  have hl : lv_has ls 3 [(0, .int x), (1, .int lo), (2, .int hi)] := hl
  refine lv_iload_n hx hb dX4_isWithin_0 rfl (lv_at hl 0 rfl) ?_
  refine lv_iload_n hx hb dX4_isWithin_1 rfl (lv_at hl 1 rfl) ?_
  refine lv_icmp_lt (tgt := 14) hx hb dX4_isWithin_2 (by decide) (fun c_2 => ?_) (fun c_2 => ?_)
  · skip
    refine lv_iconst (v := 0) hx hb dX4_isWithin_14 (by decide) ?_
    exact ex_ROz (b := inr x lo hi) hx hb hr hlocks rfl dX4_isWithin_15 (by first | exact inr_f1 (by assumption) | exact inr_f2 (by assumption) | exact inr_t (by assumption) (by assumption)) rfl
  · skip
    refine lv_iload_n hx hb dX4_isWithin_5 rfl (lv_at hl 0 rfl) ?_
    refine lv_iload_n hx hb dX4_isWithin_6 rfl (lv_at hl 2 rfl) ?_
    refine lv_icmp_gt (tgt := 14) hx hb dX4_isWithin_7 (by decide) (fun c_7 => ?_) (fun c_7 => ?_)
    · skip
      refine lv_iconst (v := 0) hx hb dX4_isWithin_14 (by decide) ?_
      exact ex_ROz (b := inr x lo hi) hx hb hr hlocks rfl dX4_isWithin_15 (by first | exact inr_f1 (by assumption) | exact inr_f2 (by assumption) | exact inr_t (by assumption) (by assumption)) rfl
    · skip
      refine lv_iconst (v := 1) hx hb dX4_isWithin_10 (by decide) ?_
      refine lv_goto (tgt := 15) hx hb dX4_isWithin_11 (by decide) ?_
      exact ex_ROz (b := inr x lo hi) hx hb hr hlocks rfl dX4_isWithin_15 (by first | exact inr_f1 (by assumption) | exact inr_f2 (by assumption) | exact inr_t (by assumption) (by assumption)) rfl
set_option maxHeartbeats 4000000 in
set_option maxRecDepth 100000 in
/-- X4_isRelay -/
theorem c_X4_isRelay (l : Launch) (G : GG) (x : Int32) : Met l yX4_isRelay wsX4_isRelay ({ frames := 1, cells := 0, slots := 0, locals := 22 }) (pcW G [.int x] ([])) (qRO (.int (b2i (inr x 0 9)))) 0 0 nofree := by
  refine hd_RO (cc := cX4_isRelay) (maxL := 1) (ret := some .boolean) (by decide) rfl (Nat.le_of_ble_eq_true rfl) ?_
  intro p e s m below meth c ls hx hb hr hts hown hlocks hml hP hKK hl
  have hl : lv_has ls 1 [(0, .int x)] := hl
  refine lv_iload_n hx hb dX4_isRelay_0 rfl (lv_at hl 0 rfl) ?_
  refine lv_iconst (v := 0) hx hb dX4_isRelay_1 (by decide) ?_
  refine lv_bipush (v := 9) hx hb dX4_isRelay_2 (by decide) ?_
  refine ro_S (As := [.int x, .int 0, .int 9]) (rest := []) ⟨hx, hb, hml, hown, hts⟩ (c_X4_isWithin l G x 0 9) (va_cwS 3 hts gX4_isRelay_X4_isWithin rfl rfl rfl (by decide +kernel) ⟨Nat.le_of_ble_eq_true rfl, Nat.le_of_ble_eq_true rfl⟩) (show gP G [] _ from fun k q h => by simp at h) hKK rfl hl.1 rfl (Nat.le_of_ble_eq_true rfl) dX4_isRelay_4 (Nat.zero_le _) (Nat.zero_le _) ?_
  exact ex_ROz (b := inr x 0 9) hx hb hr hlocks rfl dX4_isRelay_7 (rfl) rfl
set_option maxHeartbeats 4000000 in
set_option maxRecDepth 100000 in
/-- X4_isButtonSet -/
theorem c_X4_isButtonSet (l : Launch) (G : GG) (x : Int32) : Met l yX4_isButtonSet wsX4_isButtonSet ({ frames := 1, cells := 0, slots := 0, locals := 22 }) (pcW G [.int x] ([])) (qRO (.int (b2i (inr x 0 63)))) 0 0 nofree := by
  refine hd_RO (cc := cX4_isButtonSet) (maxL := 1) (ret := some .boolean) (by decide) rfl (Nat.le_of_ble_eq_true rfl) ?_
  intro p e s m below meth c ls hx hb hr hts hown hlocks hml hP hKK hl
  have hl : lv_has ls 1 [(0, .int x)] := hl
  refine lv_iload_n hx hb dX4_isButtonSet_0 rfl (lv_at hl 0 rfl) ?_
  refine lv_iconst (v := 0) hx hb dX4_isButtonSet_1 (by decide) ?_
  refine lv_bipush (v := 63) hx hb dX4_isButtonSet_2 (by decide) ?_
  refine ro_S (As := [.int x, .int 0, .int 63]) (rest := []) ⟨hx, hb, hml, hown, hts⟩ (c_X4_isWithin l G x 0 63) (va_cwS 3 hts gX4_isButtonSet_X4_isWithin rfl rfl rfl (by decide +kernel) ⟨Nat.le_of_ble_eq_true rfl, Nat.le_of_ble_eq_true rfl⟩) (show gP G [] _ from fun k q h => by simp at h) hKK rfl hl.1 rfl (Nat.le_of_ble_eq_true rfl) dX4_isButtonSet_4 (Nat.zero_le _) (Nat.zero_le _) ?_
  exact ex_ROz (b := inr x 0 63) hx hb hr hlocks rfl dX4_isButtonSet_7 (rfl) rfl
set_option maxHeartbeats 4000000 in
set_option maxRecDepth 100000 in
/-- X4_bit -/
theorem c_X4_bit (l : Launch) (G : GG) (x : Int32) (k : Int32) : Met l yX4_bit wsX4_bit ({ frames := 0, cells := 0, slots := 0, locals := 0 }) (pcW G [.int x, .int k] ([])) (qRO (.int (bt x k))) 0 0 nofree := by
  refine hd_RO (cc := cX4_bit) (maxL := 2) (ret := some .int) (by decide) rfl (Nat.le_of_ble_eq_true rfl) ?_
  intro p e s m below meth c ls hx hb hr hts hown hlocks hml hP hKK hl
  have hl : lv_has ls 2 [(0, .int x), (1, .int k)] := hl
  refine lv_iload_n hx hb dX4_bit_0 rfl (lv_at hl 0 rfl) ?_
  refine lv_iload_n hx hb dX4_bit_1 rfl (lv_at hl 1 rfl) ?_
  refine lv_ishr hx hb dX4_bit_2 ?_
  refine lv_asi (y := shr x k) rfl ?_
  refine lv_iconst (v := 1) hx hb dX4_bit_3 (by decide) ?_
  refine lv_iand hx hb dX4_bit_4 ?_
  exact ex_ROi hx hb hr hlocks rfl dX4_bit_5 (rfl)
set_option maxHeartbeats 4000000 in
set_option maxRecDepth 100000 in
/-- X4_isIn -/
theorem c_X4_isIn (l : Launch) (G : GG) (x : Int32) (k : Int32) : Met l yX4_isIn wsX4_isIn ({ frames := 1, cells := 0, slots := 0, locals := 21 }) (pcW G [.int x, .int k] ([])) (qRO (.int (b2i (hs x k)))) 0 0 nofree := by
  refine hd_RO (cc := cX4_isIn) (maxL := 2) (ret := some .boolean) (by decide) rfl (Nat.le_of_ble_eq_true rfl) ?_
  intro p e s m below meth c ls hx hb hr hts hown hlocks hml hP hKK hl
  have hl : lv_has ls 2 [(0, .int x), (1, .int k)] := hl
  refine lv_iload_n hx hb dX4_isIn_0 rfl (lv_at hl 0 rfl) ?_
  refine lv_iload_n hx hb dX4_isIn_1 rfl (lv_at hl 1 rfl) ?_
  refine ro_S (As := [.int x, .int k]) (rest := []) ⟨hx, hb, hml, hown, hts⟩ (c_X4_bit l G x k) (va_cwS 2 hts gX4_isIn_X4_bit rfl rfl rfl (by decide +kernel) ⟨Nat.le_of_ble_eq_true rfl, Nat.le_of_ble_eq_true rfl⟩) (show gP G [] _ from fun k q h => by simp at h) hKK rfl hl.1 rfl (Nat.le_of_ble_eq_true rfl) dX4_isIn_2 (Nat.zero_le _) (Nat.zero_le _) ?_
  refine lv_iconst (v := 1) hx hb dX4_isIn_5 (by decide) ?_
  refine lv_icmp_ne (tgt := 13) hx hb dX4_isIn_6 (by decide) (fun c_6 => ?_) (fun c_6 => ?_)
  · skip
    refine lv_iconst (v := 0) hx hb dX4_isIn_13 (by decide) ?_
    exact ex_ROz (b := hs x k) hx hb hr hlocks rfl dX4_isIn_14 (by simp_all [hs, b2i]) rfl
  · skip
    refine lv_iconst (v := 1) hx hb dX4_isIn_9 (by decide) ?_
    refine lv_goto (tgt := 14) hx hb dX4_isIn_10 (by decide) ?_
    exact ex_ROz (b := hs x k) hx hb hr hlocks rfl dX4_isIn_14 (by simp_all [hs, b2i]) rfl
set_option maxHeartbeats 4000000 in
set_option maxRecDepth 100000 in
/-- X4_isUpIn -/
theorem c_X4_isUpIn (l : Launch) (G : GG) (x : Int32) (k : Int32) : Met l yX4_isUpIn wsX4_isUpIn ({ frames := 2, cells := 0, slots := 0, locals := 42 }) (pcW G [.int x, .int k] ([])) (qRO (.int (b2i (!decide (x = -6) && hs x k)))) 0 0 nofree := by
  refine hd_RO (cc := cX4_isUpIn) (maxL := 2) (ret := some .boolean) (by decide) rfl (Nat.le_of_ble_eq_true rfl) ?_
  intro p e s m below meth c ls hx hb hr hts hown hlocks hml hP hKK hl
  have hl : lv_has ls 2 [(0, .int x), (1, .int k)] := hl
  refine lv_iload_n hx hb dX4_isUpIn_0 rfl (lv_at hl 0 rfl) ?_
  refine lv_bipush (v := (-6)) hx hb dX4_isUpIn_1 (by decide) ?_
  refine lv_icmp_eq (tgt := 18) hx hb dX4_isUpIn_3 (by decide) (fun c_3 => ?_) (fun c_3 => ?_)
  · skip
    refine lv_iconst (v := 0) hx hb dX4_isUpIn_18 (by decide) ?_
    exact ex_ROz (b := !decide (x = -6) && hs x k) hx hb hr hlocks rfl dX4_isUpIn_19 (by simp_all [b2i]) rfl
  · skip
    refine lv_iload_n hx hb dX4_isUpIn_6 rfl (lv_at hl 0 rfl) ?_
    refine lv_iload_n hx hb dX4_isUpIn_7 rfl (lv_at hl 1 rfl) ?_
    refine ro_S (As := [.int x, .int k]) (rest := []) ⟨hx, hb, hml, hown, hts⟩ (c_X4_isIn l G x k) (va_cwS 2 hts gX4_isUpIn_X4_isIn rfl rfl rfl (by decide +kernel) ⟨Nat.le_of_ble_eq_true rfl, Nat.le_of_ble_eq_true rfl⟩) (show gP G [] _ from fun k q h => by simp at h) hKK rfl hl.1 rfl (Nat.le_of_ble_eq_true rfl) dX4_isUpIn_8 (Nat.zero_le _) (Nat.zero_le _) ?_
    refine lv_if_eq (tgt := 18) hx hb dX4_isUpIn_11 (by decide) (fun c_11 => ?_) (fun c_11 => ?_)
    · skip
      have c_11 := b2i_0 c_11
      refine lv_iconst (v := 0) hx hb dX4_isUpIn_18 (by decide) ?_
      exact ex_ROz (b := !decide (x = -6) && hs x k) hx hb hr hlocks rfl dX4_isUpIn_19 (by simp_all [b2i]) rfl
    · skip
      have c_11 := b2i_1 c_11
      refine lv_iconst (v := 1) hx hb dX4_isUpIn_14 (by decide) ?_
      refine lv_goto (tgt := 19) hx hb dX4_isUpIn_15 (by decide) ?_
      exact ex_ROz (b := !decide (x = -6) && hs x k) hx hb hr hlocks rfl dX4_isUpIn_19 (by simp_all [b2i]) rfl
set_option maxHeartbeats 4000000 in
set_option maxRecDepth 100000 in
/-- X4_placeOf -/
theorem c_X4_placeOf (l : Launch) (G : GG) (k : Nat) (j : Nat) : Met l yX4_placeOf wsX4_placeOf ({ frames := 0, cells := 0, slots := 0, locals := 0 }) (pcW G [.int (nI k), .int (nI j)] ([])) (qRO (.int (nI (6 * k + j)))) 0 0 nofree := by
  refine hd_RO (cc := cX4_placeOf) (maxL := 2) (ret := some .int) (by decide) rfl (Nat.le_of_ble_eq_true rfl) ?_
  intro p e s m below meth c ls hx hb hr hts hown hlocks hml hP hKK hl
  have hl : lv_has ls 2 [(0, .int (nI k)), (1, .int (nI j))] := hl
  refine lv_iload_n hx hb dX4_placeOf_0 rfl (lv_at hl 0 rfl) ?_
  refine lv_bipush (v := 6) hx hb dX4_placeOf_1 (by decide) ?_
  refine lv_imul hx hb dX4_placeOf_3 ?_
  refine lv_iload_n hx hb dX4_placeOf_4 rfl (lv_at hl 1 rfl) ?_
  refine lv_iadd hx hb dX4_placeOf_5 ?_
  exact ex_ROi hx hb hr hlocks rfl dX4_placeOf_6 (congrArg Value.int (placeN k j))
set_option maxRecDepth 20000 in
theorem hin_X3_isClosed_X3 : ∀ w ∈ u_ws RX3 TX3 14, w ∈ wsX3_isClosed := by decide +kernel
theorem lk_X3_isClosed_36 : Cond.fieldLink RX3 36 "WeldedRelays$Room" "up" "I" ∈ wsX3_isClosed := by decide +kernel
theorem lk_X3_isClosed_43 : Cond.fieldLink RX3 43 "WeldedRelays$Room" "buttons" "I" ∈ wsX3_isClosed := by decide +kernel
theorem lk_X3_isClosed_27 : Cond.fieldLink RX3 27 "WeldedRelays$Room" "fronts" "[I" ∈ wsX3_isClosed := by decide +kernel
theorem lk_X3_isClosed_30 : Cond.fieldLink RX3 30 "WeldedRelays$Room" "backs" "[I" ∈ wsX3_isClosed := by decide +kernel
set_option maxHeartbeats 4000000 in
set_option maxRecDepth 100000 in
/-- X3_isClosed -/
theorem c_X3_isClosed (l : Launch) (G : GG) (a : Nat → Nat) (v : Nat → Int32) (r : Nat) (b : Nat) (hr : r < 10) (hb : b < 6) : Met l yX3_isClosed wsX3_isClosed ({ frames := 0, cells := 0, slots := 0, locals := 0 }) (pcW G [.ref (a 0), .int (nI (6 * r + b))] (rW G a v)) (qRO (.int (b2i (clo v r b)))) 0 0 nofree := by
  refine hd_RO (cc := cX3_isClosed) (maxL := 3) (ret := some .boolean) (by decide) rfl (Nat.le_of_ble_eq_true rfl) ?_
  intro p e s m below meth c ls hx hb hr hts hown hlocks hml hP hKK hl
  have hl : lv_has ls 3 [(0, .ref (a 0)), (1, .int (nI (6 * r + b)))] := hl
  refine lv_aload_n hx hb dX3_isClosed_0 rfl (lv_at hl 0 rfl) ?_
  refine va_get (D := gD G) (ci := 3) (v := .int (v 0)) (C := RX3) (T := TX3) (N := 14) hx hb hts hin_X3_isClosed_X3 hown hKK.1 hP 0 rfl rfl 0 (by decide) (hts _ lk_X3_isClosed_36) (fun _ h9 => h9) rfl dX3_isClosed_1 ?_
  refine lv_aload_n hx hb dX3_isClosed_4 rfl (lv_at hl 0 rfl) ?_
  refine va_get (D := gD G) (ci := 3) (v := .int (v 2)) (C := RX3) (T := TX3) (N := 14) hx hb hts hin_X3_isClosed_X3 hown hKK.1 hP 0 rfl rfl 2 (by decide) (hts _ lk_X3_isClosed_43) (fun _ h9 => h9) rfl dX3_isClosed_5 ?_
  refine lv_bipush (v := 10) hx hb dX3_isClosed_8 (by decide) ?_
  refine lv_ishl hx hb dX3_isClosed_10 ?_
  refine lv_asi (y := shl (v 2) 10) rfl ?_
  refine lv_ior hx hb dX3_isClosed_11 ?_
  refine lv_istore_n (lv' := [(2, .int ((v 0) ||| (shl (v 2) 10))), (0, .ref (a 0)), (1, .int (nI (6 * r + b)))]) hx hb dX3_isClosed_12 rfl hl (by decide) rfl (fun ls hl => ?_)
  refine lv_iload_n hx hb dX3_isClosed_13 rfl (lv_at hl 0 rfl) ?_
  refine lv_aload_n hx hb dX3_isClosed_14 rfl (lv_at hl 1 rfl) ?_
  refine va_get (D := gD G) (ci := 3) (v := .ref (a 6)) (C := RX3) (T := TX3) (N := 14) hx hb hts hin_X3_isClosed_X3 hown hKK.1 hP 0 rfl rfl 11 (by decide) (hts _ lk_X3_isClosed_27) (fun _ h9 => h9) rfl dX3_isClosed_15 ?_
  refine lv_iload_n hx hb dX3_isClosed_18 rfl (lv_at hl 2 rfl) ?_
  refine va_ialdN (j := 6 * r + b) (v := frt v r b) hx hb hKK.1 hP 6 0 rfl rfl (rfl) (by omega) (by decide) (rB_atfrt _ _ _ (by omega)) dX3_isClosed_19 ?_
  refine lv_iand hx hb dX3_isClosed_20 ?_
  refine lv_aload_n hx hb dX3_isClosed_21 rfl (lv_at hl 1 rfl) ?_
  refine va_get (D := gD G) (ci := 3) (v := .ref (a 6)) (C := RX3) (T := TX3) (N := 14) hx hb hts hin_X3_isClosed_X3 hown hKK.1 hP 0 rfl rfl 11 (by decide) (hts _ lk_X3_isClosed_27) (fun _ h9 => h9) rfl dX3_isClosed_22 ?_
  refine lv_iload_n hx hb dX3_isClosed_25 rfl (lv_at hl 2 rfl) ?_
  refine va_ialdN (j := 6 * r + b) (v := frt v r b) hx hb hKK.1 hP 6 0 rfl rfl (rfl) (by omega) (by decide) (rB_atfrt _ _ _ (by omega)) dX3_isClosed_26 ?_
  refine lv_icmp_ne (tgt := 45) hx hb dX3_isClosed_27 (by decide) (fun c_27 => ?_) (fun c_27 => ?_)
  · skip
    refine lv_iconst (v := 0) hx hb dX3_isClosed_45 (by decide) ?_
    exact ex_ROz (b := clo v r b) hx hb hr hlocks rfl dX3_isClosed_46 (by simp_all [clo, b2i, onS]) rfl
  · skip
    refine lv_iload_n hx hb dX3_isClosed_30 rfl (lv_at hl 0 rfl) ?_
    refine lv_aload_n hx hb dX3_isClosed_31 rfl (lv_at hl 1 rfl) ?_
    refine va_get (D := gD G) (ci := 3) (v := .ref (a 7)) (C := RX3) (T := TX3) (N := 14) hx hb hts hin_X3_isClosed_X3 hown hKK.1 hP 0 rfl rfl 12 (by decide) (hts _ lk_X3_isClosed_30) (fun _ h9 => h9) rfl dX3_isClosed_32 ?_
    refine lv_iload_n hx hb dX3_isClosed_35 rfl (lv_at hl 2 rfl) ?_
    refine va_ialdN (j := 6 * r + b) (v := bck v r b) hx hb hKK.1 hP 7 0 rfl rfl (rfl) (by omega) (by decide) (rB_atbck _ _ _ (by omega)) dX3_isClosed_36 ?_
    refine lv_iand hx hb dX3_isClosed_37 ?_
    refine lv_if_ne (tgt := 45) hx hb dX3_isClosed_38 (by decide) (fun c_38 => ?_) (fun c_38 => ?_)
    · skip
      refine lv_iconst (v := 0) hx hb dX3_isClosed_45 (by decide) ?_
      exact ex_ROz (b := clo v r b) hx hb hr hlocks rfl dX3_isClosed_46 (by simp_all [clo, b2i, onS]) rfl
    · skip
      refine lv_iconst (v := 1) hx hb dX3_isClosed_41 (by decide) ?_
      refine lv_goto (tgt := 46) hx hb dX3_isClosed_42 (by decide) ?_
      exact ex_ROz (b := clo v r b) hx hb hr hlocks rfl dX3_isClosed_46 (by simp_all [clo, b2i, onS]) rfl
set_option maxRecDepth 20000 in
theorem hin_X3_isFed_X3 : ∀ w ∈ u_ws RX3 TX3 14, w ∈ wsX3_isFed := by decide +kernel
theorem lk_X3_isFed_24 : Cond.fieldLink RX3 24 "WeldedRelays$Room" "branchCounts" "[I" ∈ wsX3_isFed := by decide +kernel
set_option maxHeartbeats 4000000 in
set_option maxRecDepth 100000 in
/-- X3_isFed -/
theorem c_X3_isFed (l : Launch) (G : GG) (a : Nat → Nat) (v : Nat → Int32) (k : Nat) (hk : k < 10) (hI : RI v) : Met l yX3_isFed wsX3_isFed ({ frames := 1, cells := 0, slots := 0, locals := 22 }) (pcW G [.ref (a 0), .int (nI k)] (rW G a v)) (qRO (.int (b2i (fed1 v k)))) 0 0 nofree := by
  refine hd_RO (cc := cX3_isFed) (maxL := 4) (ret := some .boolean) (by decide) rfl (Nat.le_of_ble_eq_true rfl) ?_
  intro p e s m below meth c ls hx hb hr hts hown hlocks hml hP hKK hl
  have hl : lv_has ls 4 [(0, .ref (a 0)), (1, .int (nI k))] := hl
  have hc := hI.1 k hk
  refine lv_iload_n hx hb dX3_isFed_0 rfl (lv_at hl 1 rfl) ?_
  refine lv_aload_n hx hb dX3_isFed_1 rfl (lv_at hl 0 rfl) ?_
  refine va_get (D := gD G) (ci := 3) (v := .ref (a 5)) (C := RX3) (T := TX3) (N := 14) hx hb hts hin_X3_isFed_X3 hown hKK.1 hP 0 rfl rfl 10 (by decide) (hts _ lk_X3_isFed_24) (fun _ h9 => h9) rfl dX3_isFed_2 ?_
  refine lv_iload_n hx hb dX3_isFed_5 rfl (lv_at hl 1 rfl) ?_
  refine va_ialdN (j := k) (v := v (px k 4)) hx hb hKK.1 hP 5 0 rfl rfl (rfl) (by omega) (by decide) (rfl) dX3_isFed_6 ?_
  refine lv_asi (y := nI (cnt v k)) (hc.1) ?_
  refine ro_SN (As := [.int (nI k), .int (nI (cnt v k))]) (rest := []) ⟨hx, hb, hml, hown, hts⟩ (c_X4_placeOf l G k (cnt v k)) ⟨va_cnB 2 hts gX3_isFed_X4_placeOf_n65 rfl rfl rfl (hKK.2.1 _ (List.mem_of_getElem? (i := 4) rfl)) (hts (.initialized RX4) (by decide +kernel)) (by decide +kernel) ⟨Nat.le_of_ble_eq_true rfl, Nat.le_of_ble_eq_true rfl⟩, hts (.static yX4_placeOf) (by decide +kernel), trivial⟩ (show gP G [] _ from fun k q h => by simp at h) hKK rfl hl.1 rfl (Nat.le_of_ble_eq_true rfl) dX3_isFed_7 (Nat.zero_le _) (Nat.zero_le _) ?_
  refine lv_istore_n (lv' := [(2, .int (nI (6 * k + (cnt v k)))), (0, .ref (a 0)), (1, .int (nI k))]) hx hb dX3_isFed_10 rfl hl (by decide) rfl (fun ls hl => ?_)
  refine lv_iload_n hx hb dX3_isFed_11 rfl (lv_at hl 2 rfl) ?_
  refine lv_iconst (v := 0) hx hb dX3_isFed_12 (by decide) ?_
  refine ro_SN (As := [.int (nI k), .int (nI 0)]) (rest := []) ⟨hx, hb, hml, hown, hts⟩ (c_X4_placeOf l G k 0) ⟨va_cnB 2 hts gX3_isFed_X4_placeOf_n65 rfl rfl rfl (hKK.2.1 _ (List.mem_of_getElem? (i := 4) rfl)) (hts (.initialized RX4) (by decide +kernel)) (by decide +kernel) ⟨Nat.le_of_ble_eq_true rfl, Nat.le_of_ble_eq_true rfl⟩, hts (.static yX4_placeOf) (by decide +kernel), trivial⟩ (show gP G [] _ from fun k q h => by simp at h) hKK rfl hl.1 rfl (Nat.le_of_ble_eq_true rfl) dX3_isFed_13 (Nat.zero_le _) (Nat.zero_le _) ?_
  refine lv_istore_n (lv' := [(3, .int (nI (6 * k + 0))), (2, .int (nI (6 * k + (cnt v k)))), (0, .ref (a 0)), (1, .int (nI k))]) hx hb dX3_isFed_16 rfl hl (by decide) rfl (fun ls hl => ?_)
  have L_17 : ∀ (n_17 : Nat) (i : Nat), (i ≤ cnt v k) → (cnt v k + 1 ≤ i + n_17) → (∀ b, b < i → clo v k b = false) → ∀ (ls : Array Slot), lv_has ls 4 [(3, .int (nI (6 * k + i))), (2, .int (nI (6 * k + (cnt v k)))), (0, .ref (a 0)), (1, .int (nI k))] → W p l e ({ frames := 1, cells := 0, slots := 0, locals := 22 }) s m (List.toArray [.ref (a 0), .int (nI k)]) below meth c s.heap [] 0 0 (MQ below (qRO (.int (b2i (fed1 v k)))) (List.toArray [.ref (a 0), .int (nI k)]) s 0 0 nofree) (F0 m 17 ls []) := by
    intro n_17
    induction n_17 with
    | zero => intro i h1 h2 h3; exact absurd (h2) (by omega)
    | succ n_17 ih_17 =>
      intro i h1 h2 h3 ls hl
      refine lv_iload_n hx hb dX3_isFed_17 rfl (lv_at hl 0 rfl) ?_
      refine lv_iload_n hx hb dX3_isFed_18 rfl (lv_at hl 1 rfl) ?_
      refine lv_icmp_ge (tgt := 38) hx hb dX3_isFed_19 (by decide) (fun c_19 => ?_) (fun c_19 => ?_)
      · skip
        have c_19 : (6 * k + (cnt v k)) ≤ (6 * k + i) := (nI_leI (a := 6 * k + (cnt v k)) (b := 6 * k + i) (by omega) (by omega)).mp c_19
        refine lv_iconst (v := 0) hx hb dX3_isFed_38 (by decide) ?_
        exact ex_ROz (b := fed1 v k) hx hb hr hlocks rfl dX3_isFed_39 (by rw [show fed1 v k = false from anyN_f (fun b hb => h3 b (by omega))]; rfl) rfl
      · skip
        have c_19 : ¬ ((6 * k + (cnt v k)) ≤ (6 * k + i)) := fun q => c_19 ((nI_leI (a := 6 * k + (cnt v k)) (b := 6 * k + i) (by omega) (by omega)).mpr q)
        refine lv_aload_n hx hb dX3_isFed_22 rfl (lv_at hl 2 rfl) ?_
        refine lv_iload_n hx hb dX3_isFed_23 rfl (lv_at hl 0 rfl) ?_
        refine ro_V (As := [.int (nI (6 * k + i))]) (rest := []) ⟨hx, hb, hml, hown, hts⟩ (c_X3_isClosed l G a v _ _ (by omega) (by omega)) (cwV 1 hts gX3_isFed_X3_isClosed rfl rfl rfl (by decide +kernel) ⟨Nat.le_of_ble_eq_true rfl, Nat.le_of_ble_eq_true rfl⟩) hP hKK (va_recv hKK.1 hP (ci := 3) (q0 := 0) rfl rfl) rfl hl.1 rfl (Nat.le_of_ble_eq_true rfl) dX3_isFed_24 (Nat.zero_le _) (Nat.zero_le _) ?_
        refine lv_if_eq (tgt := 32) hx hb dX3_isFed_27 (by decide) (fun c_27 => ?_) (fun c_27 => ?_)
        · skip
          have c_27 := b2i_0 c_27
          refine lv_iinc (v := nI ((6 * k + i) + 1)) (lv' := [(3, .int (nI ((6 * k + i) + 1))), (2, .int (nI (6 * k + (cnt v k)))), (0, .ref (a 0)), (1, .int (nI k))]) hx hb dX3_isFed_32 hl (k := 0) rfl (nI_1 _) (by decide) rfl (fun ls hl => ?_)
          refine lv_goto (tgt := 17) hx hb dX3_isFed_35 (by decide) ?_
          exact ih_17 (i + 1) (by omega) (by omega) (fun b hb => by rcases Nat.lt_succ_iff_lt_or_eq.mp hb with h | h; exact h3 b h; subst h; assumption) _ (lv_sub hl [0, 1, 2, 3] rfl)
        · skip
          have c_27 := b2i_1 c_27
          refine lv_iconst (v := 1) hx hb dX3_isFed_30 (by decide) ?_
          exact ex_ROz (b := fed1 v k) hx hb hr hlocks rfl dX3_isFed_31 (by rw [show fed1 v k = true from anyN_t (i := i) (by omega) (by assumption)]; rfl) rfl
  exact L_17 (cnt v k + 1) 0 (by omega) (by omega) (fun b hb => by omega) _ (lv_sub hl [0, 1, 2, 3] rfl)
set_option maxHeartbeats 4000000 in
set_option maxRecDepth 100000 in
/-- X3_fedRelays -/
theorem c_X3_fedRelays (l : Launch) (G : GG) (a : Nat → Nat) (v : Nat → Int32) (hI : RI v) : Met l yX3_fedRelays wsX3_fedRelays ({ frames := 2, cells := 0, slots := 0, locals := 45 }) (pcW G [.ref (a 0)] (rW G a v)) (qRO (.int (fedS v))) 0 0 nofree := by
  refine hd_RO (cc := cX3_fedRelays) (maxL := 3) (ret := some .int) (by decide) rfl (Nat.le_of_ble_eq_true rfl) ?_
  intro p e s m below meth c ls hx hb hr hts hown hlocks hml hP hKK hl
  have hl : lv_has ls 3 [(0, .ref (a 0))] := hl
  refine lv_iconst (v := 0) hx hb dX3_fedRelays_0 (by decide) ?_
  refine lv_istore_n (lv' := [(1, .int 0), (0, .ref (a 0))]) hx hb dX3_fedRelays_1 rfl hl (by decide) rfl (fun ls hl => ?_)
  refine lv_iconst (v := 0) hx hb dX3_fedRelays_2 (by decide) ?_
  refine lv_istore_n (lv' := [(2, .int 0), (1, .int 0), (0, .ref (a 0))]) hx hb dX3_fedRelays_3 rfl hl (by decide) rfl (fun ls hl => ?_)
  have L_4 : ∀ (n_4 : Nat) (i : Nat), (i ≤ 10) → (10 + 1 ≤ i + n_4) → ∀ (ls : Array Slot), lv_has ls 3 [(2, .int (nI i)), (1, .int (orN i (fun r => if fed1 v r = true then shl 1 (nI r) else 0))), (0, .ref (a 0))] → W p l e ({ frames := 2, cells := 0, slots := 0, locals := 45 }) s m (List.toArray [.ref (a 0)]) below meth c s.heap [] 0 0 (MQ below (qRO (.int (fedS v))) (List.toArray [.ref (a 0)]) s 0 0 nofree) (F0 m 4 ls []) := by
    intro n_4
    induction n_4 with
    | zero => intro i h1 h2; exact absurd (h2) (by omega)
    | succ n_4 ih_4 =>
      intro i h1 h2 ls hl
      refine lv_iload_n hx hb dX3_fedRelays_4 rfl (lv_at hl 0 rfl) ?_
      refine lv_bipush (v := 10) hx hb dX3_fedRelays_5 (by decide) ?_
      refine lv_icmp_ge (tgt := 30) hx hb dX3_fedRelays_7 (by decide) (fun c_7 => ?_) (fun c_7 => ?_)
      · skip
        have c_7 : 10 ≤ i := (nI_leI (a := 10) (b := i) (by omega) (by omega)).mp c_7
        refine lv_iload_n hx hb dX3_fedRelays_30 rfl (lv_at hl 1 rfl) ?_
        exact ex_ROi hx hb hr hlocks rfl dX3_fedRelays_31 (by rw [show i = 10 by omega]; rfl)
      · skip
        have c_7 : ¬ (10 ≤ i) := fun q => c_7 ((nI_leI (a := 10) (b := i) (by omega) (by omega)).mpr q)
        refine lv_aload_n hx hb dX3_fedRelays_10 rfl (lv_at hl 2 rfl) ?_
        refine lv_iload_n hx hb dX3_fedRelays_11 rfl (lv_at hl 0 rfl) ?_
        refine ro_V (As := [.int (nI i)]) (rest := []) ⟨hx, hb, hml, hown, hts⟩ (c_X3_isFed l G a v i (by omega) (by assumption)) (cwV 1 hts gX3_fedRelays_X3_isFed rfl rfl rfl (by decide +kernel) ⟨Nat.le_of_ble_eq_true rfl, Nat.le_of_ble_eq_true rfl⟩) hP hKK (va_recv hKK.1 hP (ci := 3) (q0 := 0) rfl rfl) rfl hl.1 rfl (Nat.le_of_ble_eq_true rfl) dX3_fedRelays_12 (Nat.zero_le _) (Nat.zero_le _) ?_
        refine lv_if_eq (tgt := 24) hx hb dX3_fedRelays_15 (by decide) (fun c_15 => ?_) (fun c_15 => ?_)
        · skip
          have c_15 := b2i_0 c_15
          have hl : lv_has ls 3 [(2, .int (nI i)), (1, .int (orN (i + 1) (fun r => if fed1 v r = true then shl 1 (nI r) else 0))), (0, .ref (a 0))] := by have e_l1 : (orN i (fun r => if fed1 v r = true then shl 1 (nI r) else 0)) = (orN (i + 1) (fun r => if fed1 v r = true then shl 1 (nI r) else 0)) := (by simp [orN, c_15]); rw [← e_l1]; exact hl
          refine lv_iinc (v := nI (i + 1)) (lv' := [(2, .int (nI (i + 1))), (1, .int (orN (i + 1) (fun r => if fed1 v r = true then shl 1 (nI r) else 0))), (0, .ref (a 0))]) hx hb dX3_fedRelays_24 hl (k := 0) rfl (nI_1 _) (by decide) rfl (fun ls hl => ?_)
          refine lv_goto (tgt := 4) hx hb dX3_fedRelays_27 (by decide) ?_
          exact ih_4 (i + 1) (by omega) (by omega) _ (lv_sub hl [0, 1, 2] rfl)
        · skip
          have c_15 := b2i_1 c_15
          refine lv_iload_n hx hb dX3_fedRelays_18 rfl (lv_at hl 1 rfl) ?_
          refine lv_iconst (v := 1) hx hb dX3_fedRelays_19 (by decide) ?_
          refine lv_iload_n hx hb dX3_fedRelays_20 rfl (lv_at hl 0 rfl) ?_
          refine lv_ishl hx hb dX3_fedRelays_21 ?_
          refine lv_asi (y := shl 1 (nI i)) rfl ?_
          refine lv_ior hx hb dX3_fedRelays_22 ?_
          refine lv_asi (y := orN (i + 1) (fun r => if fed1 v r = true then shl 1 (nI r) else 0)) (by simp [orN, c_15]) ?_
          refine lv_istore_n (lv' := [(1, .int (orN (i + 1) (fun r => if fed1 v r = true then shl 1 (nI r) else 0))), (2, .int (nI i)), (0, .ref (a 0))]) hx hb dX3_fedRelays_23 rfl hl (by decide) rfl (fun ls hl => ?_)
          refine lv_iinc (v := nI (i + 1)) (lv' := [(2, .int (nI (i + 1))), (1, .int (orN (i + 1) (fun r => if fed1 v r = true then shl 1 (nI r) else 0))), (0, .ref (a 0))]) hx hb dX3_fedRelays_24 hl (k := 1) rfl (nI_1 _) (by decide) rfl (fun ls hl => ?_)
          refine lv_goto (tgt := 4) hx hb dX3_fedRelays_27 (by decide) ?_
          exact ih_4 (i + 1) (by omega) (by omega) _ (lv_sub hl [0, 1, 2] rfl)
  exact L_4 (10 + 1) 0 (by omega) (by omega) _ (lv_sub hl [0, 1, 2] rfl)
set_option maxRecDepth 20000 in
theorem hin_X3_wantingRelays_X3 : ∀ w ∈ u_ws RX3 TX3 14, w ∈ wsX3_wantingRelays := by decide +kernel
theorem lk_X3_wantingRelays_36 : Cond.fieldLink RX3 36 "WeldedRelays$Room" "up" "I" ∈ wsX3_wantingRelays := by decide +kernel
theorem lk_X3_wantingRelays_40 : Cond.fieldLink RX3 40 "WeldedRelays$Room" "welded" "I" ∈ wsX3_wantingRelays := by decide +kernel
set_option maxHeartbeats 4000000 in
set_option maxRecDepth 100000 in
/-- X3_wantingRelays -/
theorem c_X3_wantingRelays (l : Launch) (G : GG) (a : Nat → Nat) (v : Nat → Int32) (hI : RI v) : Met l yX3_wantingRelays wsX3_wantingRelays ({ frames := 3, cells := 0, slots := 0, locals := 67 }) (pcW G [.ref (a 0)] (rW G a v)) (qRO (.int (wan v))) 0 0 nofree := by
  refine hd_RO (cc := cX3_wantingRelays) (maxL := 1) (ret := some .int) (by decide) rfl (Nat.le_of_ble_eq_true rfl) ?_
  intro p e s m below meth c ls hx hb hr hts hown hlocks hml hP hKK hl
  have hl : lv_has ls 1 [(0, .ref (a 0))] := hl
  refine lv_aload_n hx hb dX3_wantingRelays_0 rfl (lv_at hl 0 rfl) ?_
  refine ro_V (As := []) (rest := []) ⟨hx, hb, hml, hown, hts⟩ (c_X3_fedRelays l G a v (by assumption)) (cwV 0 hts gX3_wantingRelays_X3_fedRelays rfl rfl rfl (by decide +kernel) ⟨Nat.le_of_ble_eq_true rfl, Nat.le_of_ble_eq_true rfl⟩) hP hKK (va_recv hKK.1 hP (ci := 3) (q0 := 0) rfl rfl) rfl hl.1 rfl (Nat.le_of_ble_eq_true rfl) dX3_wantingRelays_1 (Nat.zero_le _) (Nat.zero_le _) ?_
  refine lv_aload_n hx hb dX3_wantingRelays_4 rfl (lv_at hl 0 rfl) ?_
  refine va_get (D := gD G) (ci := 3) (v := .int (v 0)) (C := RX3) (T := TX3) (N := 14) hx hb hts hin_X3_wantingRelays_X3 hown hKK.1 hP 0 rfl rfl 0 (by decide) (hts _ lk_X3_wantingRelays_36) (fun _ h9 => h9) rfl dX3_wantingRelays_5 ?_
  refine lv_ixor hx hb dX3_wantingRelays_8 ?_
  refine lv_aload_n hx hb dX3_wantingRelays_9 rfl (lv_at hl 0 rfl) ?_
  refine va_get (D := gD G) (ci := 3) (v := .int (v 0)) (C := RX3) (T := TX3) (N := 14) hx hb hts hin_X3_wantingRelays_X3 hown hKK.1 hP 0 rfl rfl 0 (by decide) (hts _ lk_X3_wantingRelays_36) (fun _ h9 => h9) rfl dX3_wantingRelays_10 ?_
  refine lv_aload_n hx hb dX3_wantingRelays_13 rfl (lv_at hl 0 rfl) ?_
  refine va_get (D := gD G) (ci := 3) (v := .int (v 1)) (C := RX3) (T := TX3) (N := 14) hx hb hts hin_X3_wantingRelays_X3 hown hKK.1 hP 0 rfl rfl 1 (by decide) (hts _ lk_X3_wantingRelays_40) (fun _ h9 => h9) rfl dX3_wantingRelays_14 ?_
  refine lv_iand hx hb dX3_wantingRelays_17 ?_
  refine lv_iconst (v := (-1)) hx hb dX3_wantingRelays_18 (by decide) ?_
  refine lv_ixor hx hb dX3_wantingRelays_19 ?_
  refine lv_iand hx hb dX3_wantingRelays_20 ?_
  exact ex_ROi hx hb hr hlocks rfl dX3_wantingRelays_21 (rfl)
set_option maxRecDepth 20000 in
theorem hin_X3_wear_X3 : ∀ w ∈ u_ws RX3 TX3 14, w ∈ wsX3_wear := by decide +kernel
theorem lk_X3_wear_21 : Cond.fieldLink RX3 21 "WeldedRelays$Room" "operations" "[I" ∈ wsX3_wear := by decide +kernel
theorem lk_X3_wear_46 : Cond.fieldLink RX3 46 "WeldedRelays$Room" "life" "I" ∈ wsX3_wear := by decide +kernel
theorem lk_X3_wear_40 : Cond.fieldLink RX3 40 "WeldedRelays$Room" "welded" "I" ∈ wsX3_wear := by decide +kernel
set_option maxHeartbeats 4000000 in
set_option maxRecDepth 100000 in
/-- X3_wear -/
theorem c_X3_wear (l : Launch) (G : GG) (a : Nat → Nat) (v : Nat → Int32) (k : Nat) (hk : k < 10) : Met l yX3_wear wsX3_wear ({ frames := 0, cells := 0, slots := 0, locals := 0 }) (pcM G [.ref (a 0), .int (nI k)] (rW G a v)) (qMU G none (rW G a v) (rW G a (wearF k v))) 0 0 (aA (rW G a v)) := by
  refine hd_MU (cc := cX3_wear) (maxL := 2) (ret := none) (by decide) rfl (Nat.le_of_ble_eq_true rfl) ?_
  intro p e s m below meth c ls hx hb hr hts hown hlocks hml hP hKK hD hS hl
  have hl : lv_has ls 2 [(0, .ref (a 0)), (1, .int (nI k))] := hl
  refine lv_aload_n hx hb dX3_wear_0 rfl (lv_at hl 0 rfl) ?_
  refine va_get (D := gD G) (ci := 3) (v := .ref (a 4)) (C := RX3) (T := TX3) (N := 14) hx hb hts hin_X3_wear_X3 hown hKK.1 hP 0 rfl rfl 9 (by decide) (hts _ lk_X3_wear_21) (fun _ h9 => h9) rfl dX3_wear_1 ?_
  refine lv_iload_n hx hb dX3_wear_4 rfl (lv_at hl 1 rfl) ?_
  refine lv_dup2_11 hx hb dX3_wear_5 rfl rfl ?_
  refine va_ialdN (j := k) (v := v (px k 3)) hx hb hKK.1 hP 4 0 rfl rfl (rfl) (by omega) (by decide) (rfl) dX3_wear_6 ?_
  refine lv_iconst (v := 1) hx hb dX3_wear_7 (by decide) ?_
  refine lv_iadd hx hb dX3_wear_8 ?_
  refine va_iastN (j := k) (x := ((v (px k 3)) + 1)) hx hb hKK.1 hP hD hS 4 0 rfl rfl (rfl) (by omega) (by decide) dX3_wear_9 (fun H locs hP hD hS => ?_)
  have e_9 := rW_setR G a v k 3 ((v (px k 3)) + 1) (by decide)
  have hP : gP G (rW G a (upd v (px k 3) ((v (px k 3)) + 1))) H := by rw [e_9]; exact hP
  have hD : va_D (aA (rW G a v)) (rW G a (upd v (px k 3) ((v (px k 3)) + 1))) := by rw [e_9]; exact hD
  refine lv_aload_n hx hb dX3_wear_10 rfl (lv_at hl 0 rfl) ?_
  refine va_get (D := gD G) (ci := 3) (v := .int ((upd v (px k 3) ((v (px k 3)) + 1)) 5)) (C := RX3) (T := TX3) (N := 14) hx hb hts hin_X3_wear_X3 hown hKK.1 hP 0 rfl rfl 3 (by decide) (hts _ lk_X3_wear_46) (fun _ h9 => h9) rfl dX3_wear_11 ?_
  refine lv_if_eq (tgt := 42) hx hb dX3_wear_14 (by decide) (fun c_14 => ?_) (fun c_14 => ?_)
  · skip
    exact ex_MUv (w2 := (rW G a (upd v (px k 3) ((v (px k 3)) + 1)))) hx hb hr hlocks hP hS dX3_wear_42 (fun h => by have e1 : wearF k v = upd v (px k 3) ((v (px k 3)) + 1) := wear_0 c_14; rw [e1]; exact h)
  · skip
    refine lv_aload_n hx hb dX3_wear_17 rfl (lv_at hl 0 rfl) ?_
    refine va_get (D := gD G) (ci := 3) (v := .ref (a 4)) (C := RX3) (T := TX3) (N := 14) hx hb hts hin_X3_wear_X3 hown hKK.1 hP 0 rfl rfl 9 (by decide) (hts _ lk_X3_wear_21) (fun _ h9 => h9) rfl dX3_wear_18 ?_
    refine lv_iload_n hx hb dX3_wear_21 rfl (lv_at hl 1 rfl) ?_
    refine va_ialdN (j := k) (v := (upd v (px k 3) ((v (px k 3)) + 1)) (px k 3)) hx hb hKK.1 hP 4 0 rfl rfl (rfl) (by omega) (by decide) (rfl) dX3_wear_22 ?_
    refine lv_aload_n hx hb dX3_wear_23 rfl (lv_at hl 0 rfl) ?_
    refine va_get (D := gD G) (ci := 3) (v := .int ((upd v (px k 3) ((v (px k 3)) + 1)) 5)) (C := RX3) (T := TX3) (N := 14) hx hb hts hin_X3_wear_X3 hown hKK.1 hP 0 rfl rfl 3 (by decide) (hts _ lk_X3_wear_46) (fun _ h9 => h9) rfl dX3_wear_24 ?_
    refine lv_icmp_lt (tgt := 42) hx hb dX3_wear_27 (by decide) (fun c_27 => ?_) (fun c_27 => ?_)
    · skip
      exact ex_MUv (w2 := (rW G a (upd v (px k 3) ((v (px k 3)) + 1)))) hx hb hr hlocks hP hS dX3_wear_42 (fun h => by have e1 : wearF k v = upd v (px k 3) ((v (px k 3)) + 1) := wear_n c_27; rw [e1]; exact h)
    · skip
      refine lv_aload_n hx hb dX3_wear_30 rfl (lv_at hl 0 rfl) ?_
      refine lv_dup hx hb dX3_wear_31 rfl ?_
      refine va_get (D := gD G) (ci := 3) (v := .int ((upd v (px k 3) ((v (px k 3)) + 1)) 1)) (C := RX3) (T := TX3) (N := 14) hx hb hts hin_X3_wear_X3 hown hKK.1 hP 0 rfl rfl 1 (by decide) (hts _ lk_X3_wear_40) (fun _ h9 => h9) rfl dX3_wear_32 ?_
      refine lv_iconst (v := 1) hx hb dX3_wear_35 (by decide) ?_
      refine lv_iload_n hx hb dX3_wear_36 rfl (lv_at hl 1 rfl) ?_
      refine lv_ishl hx hb dX3_wear_37 ?_
      refine lv_asi (y := shl 1 (nI k)) rfl ?_
      refine lv_ior hx hb dX3_wear_38 ?_
      refine va_put (D := gD G) (ci := 3) (v := .int (((upd v (px k 3) ((v (px k 3)) + 1)) 1) ||| (shl 1 (nI k)))) (ty := .int) (C := RX3) (T := TX3) (N := 14) hx hb hts hin_X3_wear_X3 tyX3 tyX3_ok nmX3 hown hKK.1 hP hD hS 0 rfl rfl 1 (by decide) (hts _ lk_X3_wear_40) (fun _ h9 => h9) rfl (by decide +kernel) rfl rfl (Nat.le_of_ble_eq_true rfl) dX3_wear_39 (fun H locs hP hD hS => ?_)
      have e_39 := (rW_setI G a (upd v (px k 3) ((v (px k 3)) + 1)) (((upd v (px k 3) ((v (px k 3)) + 1)) 1) ||| (shl 1 (nI k)))).2.1
      have hP : gP G (rW G a (upd (upd v (px k 3) ((v (px k 3)) + 1)) 1 (((upd v (px k 3) ((v (px k 3)) + 1)) 1) ||| (shl 1 (nI k))))) H := by rw [e_39]; exact hP
      have hD : va_D (aA (rW G a v)) (rW G a (upd (upd v (px k 3) ((v (px k 3)) + 1)) 1 (((upd v (px k 3) ((v (px k 3)) + 1)) 1) ||| (shl 1 (nI k))))) := by rw [e_39]; exact hD
      exact ex_MUv (w2 := (rW G a (upd (upd v (px k 3) ((v (px k 3)) + 1)) 1 (((upd v (px k 3) ((v (px k 3)) + 1)) 1) ||| (shl 1 (nI k)))))) hx hb hr hlocks hP hS dX3_wear_42 (fun h => by have e1 : wearF k v = upd (upd v (px k 3) ((v (px k 3)) + 1)) 1 (((upd v (px k 3) ((v (px k 3)) + 1)) 1) ||| (shl 1 (nI k))) := wear_y c_14 c_27; rw [e1]; exact h)
set_option maxRecDepth 20000 in
theorem hin_X3_waitOrMove_X3 : ∀ w ∈ u_ws RX3 TX3 14, w ∈ wsX3_waitOrMove := by decide +kernel
theorem lk_X3_waitOrMove_18 : Cond.fieldLink RX3 18 "WeldedRelays$Room" "waits" "[I" ∈ wsX3_waitOrMove := by decide +kernel
theorem lk_X3_waitOrMove_36 : Cond.fieldLink RX3 36 "WeldedRelays$Room" "up" "I" ∈ wsX3_waitOrMove := by decide +kernel
theorem lk_X3_waitOrMove_9 : Cond.fieldLink RX3 9 "WeldedRelays$Room" "pickTimes" "[I" ∈ wsX3_waitOrMove := by decide +kernel
theorem lk_X3_waitOrMove_52 : Cond.fieldLink RX3 52 "WeldedRelays$Room" "moves" "I" ∈ wsX3_waitOrMove := by decide +kernel
theorem lk_X3_waitOrMove_15 : Cond.fieldLink RX3 15 "WeldedRelays$Room" "dropTimes" "[I" ∈ wsX3_waitOrMove := by decide +kernel
set_option maxHeartbeats 4000000 in
set_option maxRecDepth 100000 in
/-- X3_waitOrMove -/
theorem c_X3_waitOrMove (l : Launch) (G : GG) (a : Nat → Nat) (v : Nat → Int32) (k : Nat) (hk : k < 10) : Met l yX3_waitOrMove wsX3_waitOrMove ({ frames := 2, cells := 0, slots := 0, locals := 42 }) (pcM G [.ref (a 0), .int (nI k)] (rW G a v)) (qMU G none (rW G a v) (rW G a (waitF k v))) 0 0 (aA (rW G a v)) := by
  refine hd_MU (cc := cX3_waitOrMove) (maxL := 3) (ret := none) (by decide) rfl (Nat.le_of_ble_eq_true rfl) ?_
  intro p e s m below meth c ls hx hb hr hts hown hlocks hml hP hKK hD hS hl
  have hl : lv_has ls 3 [(0, .ref (a 0)), (1, .int (nI k))] := hl
  refine lv_aload_n hx hb dX3_waitOrMove_0 rfl (lv_at hl 0 rfl) ?_
  refine va_get (D := gD G) (ci := 3) (v := .ref (a 3)) (C := RX3) (T := TX3) (N := 14) hx hb hts hin_X3_waitOrMove_X3 hown hKK.1 hP 0 rfl rfl 8 (by decide) (hts _ lk_X3_waitOrMove_18) (fun _ h9 => h9) rfl dX3_waitOrMove_1 ?_
  refine lv_iload_n hx hb dX3_waitOrMove_4 rfl (lv_at hl 1 rfl) ?_
  refine lv_dup2_11 hx hb dX3_waitOrMove_5 rfl rfl ?_
  refine va_ialdN (j := k) (v := v (px k 2)) hx hb hKK.1 hP 3 0 rfl rfl (rfl) (by omega) (by decide) (rfl) dX3_waitOrMove_6 ?_
  refine lv_iconst (v := 1) hx hb dX3_waitOrMove_7 (by decide) ?_
  refine lv_iadd hx hb dX3_waitOrMove_8 ?_
  refine va_iastN (j := k) (x := ((v (px k 2)) + 1)) hx hb hKK.1 hP hD hS 3 0 rfl rfl (rfl) (by omega) (by decide) dX3_waitOrMove_9 (fun H locs hP hD hS => ?_)
  have e_9 := rW_setR G a v k 2 ((v (px k 2)) + 1) (by decide)
  have hP : gP G (rW G a (upd v (px k 2) ((v (px k 2)) + 1))) H := by rw [e_9]; exact hP
  have hD : va_D (aA (rW G a v)) (rW G a (upd v (px k 2) ((v (px k 2)) + 1))) := by rw [e_9]; exact hD
  refine lv_aload_n hx hb dX3_waitOrMove_10 rfl (lv_at hl 0 rfl) ?_
  refine va_get (D := gD G) (ci := 3) (v := .int ((upd v (px k 2) ((v (px k 2)) + 1)) 0)) (C := RX3) (T := TX3) (N := 14) hx hb hts hin_X3_waitOrMove_X3 hown hKK.1 hP 0 rfl rfl 0 (by decide) (hts _ lk_X3_waitOrMove_36) (fun _ h9 => h9) rfl dX3_waitOrMove_11 ?_
  refine lv_iload_n hx hb dX3_waitOrMove_14 rfl (lv_at hl 1 rfl) ?_
  refine ro_SN (As := [.int ((upd v (px k 2) ((v (px k 2)) + 1)) 0), .int (nI k)]) (rest := []) ⟨hx, hb, hml, hown, hts⟩ (c_X4_isIn l G ((upd v (px k 2) ((v (px k 2)) + 1)) 0) (nI k)) ⟨va_cnB 2 hts gX3_waitOrMove_X4_isIn_n86 rfl rfl rfl (hKK.2.1 _ (List.mem_of_getElem? (i := 5) rfl)) (hts (.initialized RX4) (by decide +kernel)) (by decide +kernel) ⟨Nat.le_of_ble_eq_true rfl, Nat.le_of_ble_eq_true rfl⟩, hts (.static yX4_isIn) (by decide +kernel), trivial⟩ (show gP G [] _ from fun k q h => by simp at h) hKK rfl hl.1 rfl (Nat.le_of_ble_eq_true rfl) dX3_waitOrMove_15 (Nat.zero_le _) (Nat.zero_le _) ?_
  refine lv_if_eq (tgt := 30) hx hb dX3_waitOrMove_18 (by decide) (fun c_18 => ?_) (fun c_18 => ?_)
  · skip
    have c_18 := b2i_0 c_18
    refine lv_aload_n hx hb dX3_waitOrMove_30 rfl (lv_at hl 0 rfl) ?_
    refine va_get (D := gD G) (ci := 3) (v := .ref (a 1)) (C := RX3) (T := TX3) (N := 14) hx hb hts hin_X3_waitOrMove_X3 hown hKK.1 hP 0 rfl rfl 6 (by decide) (hts _ lk_X3_waitOrMove_9) (fun _ h9 => h9) rfl dX3_waitOrMove_31 ?_
    refine lv_iload_n hx hb dX3_waitOrMove_34 rfl (lv_at hl 1 rfl) ?_
    refine va_ialdN (j := k) (v := (upd v (px k 2) ((v (px k 2)) + 1)) (px k 0)) hx hb hKK.1 hP 1 0 rfl rfl (rfl) (by omega) (by decide) (rfl) dX3_waitOrMove_35 ?_
    refine lv_istore_n (lv' := [(2, .int ((upd v (px k 2) ((v (px k 2)) + 1)) (px k 0))), (0, .ref (a 0)), (1, .int (nI k))]) hx hb dX3_waitOrMove_36 rfl hl (by decide) rfl (fun ls hl => ?_)
    refine lv_aload_n hx hb dX3_waitOrMove_37 rfl (lv_at hl 1 rfl) ?_
    refine va_get (D := gD G) (ci := 3) (v := .ref (a 3)) (C := RX3) (T := TX3) (N := 14) hx hb hts hin_X3_waitOrMove_X3 hown hKK.1 hP 0 rfl rfl 8 (by decide) (hts _ lk_X3_waitOrMove_18) (fun _ h9 => h9) rfl dX3_waitOrMove_38 ?_
    refine lv_iload_n hx hb dX3_waitOrMove_41 rfl (lv_at hl 2 rfl) ?_
    refine va_ialdN (j := k) (v := (upd v (px k 2) ((v (px k 2)) + 1)) (px k 2)) hx hb hKK.1 hP 3 0 rfl rfl (rfl) (by omega) (by decide) (rfl) dX3_waitOrMove_42 ?_
    refine lv_iload_n hx hb dX3_waitOrMove_43 rfl (lv_at hl 0 rfl) ?_
    refine lv_icmp_lt (tgt := 92) hx hb dX3_waitOrMove_44 (by decide) (fun c_44 => ?_) (fun c_44 => ?_)
    · skip
      exact ex_MUv (w2 := (rW G a (upd v (px k 2) ((v (px k 2)) + 1)))) hx hb hr hlocks hP hS dX3_waitOrMove_92 (fun h => by have e1 : waitF k v = upd v (px k 2) ((v (px k 2)) + 1) := wait_n (tmF_f c_18) c_44; rw [e1]; exact h)
    · skip
      refine lv_aload_n hx hb dX3_waitOrMove_47 rfl (lv_at hl 1 rfl) ?_
      refine va_get (D := gD G) (ci := 3) (v := .ref (a 3)) (C := RX3) (T := TX3) (N := 14) hx hb hts hin_X3_waitOrMove_X3 hown hKK.1 hP 0 rfl rfl 8 (by decide) (hts _ lk_X3_waitOrMove_18) (fun _ h9 => h9) rfl dX3_waitOrMove_48 ?_
      refine lv_iload_n hx hb dX3_waitOrMove_51 rfl (lv_at hl 2 rfl) ?_
      refine lv_iconst (v := 0) hx hb dX3_waitOrMove_52 (by decide) ?_
      refine va_iastN (j := k) (x := 0) hx hb hKK.1 hP hD hS 3 0 rfl rfl (rfl) (by omega) (by decide) dX3_waitOrMove_53 (fun H locs hP hD hS => ?_)
      have e_53 := rW_setR G a (upd v (px k 2) ((v (px k 2)) + 1)) k 2 0 (by decide)
      have hP : gP G (rW G a (upd (upd v (px k 2) ((v (px k 2)) + 1)) (px k 2) 0)) H := by rw [e_53]; exact hP
      have hD : va_D (aA (rW G a v)) (rW G a (upd (upd v (px k 2) ((v (px k 2)) + 1)) (px k 2) 0)) := by rw [e_53]; exact hD
      refine lv_aload_n hx hb dX3_waitOrMove_54 rfl (lv_at hl 1 rfl) ?_
      refine lv_dup hx hb dX3_waitOrMove_55 rfl ?_
      refine va_get (D := gD G) (ci := 3) (v := .int ((upd (upd v (px k 2) ((v (px k 2)) + 1)) (px k 2) 0) 4)) (C := RX3) (T := TX3) (N := 14) hx hb hts hin_X3_waitOrMove_X3 hown hKK.1 hP 0 rfl rfl 5 (by decide) (hts _ lk_X3_waitOrMove_52) (fun _ h9 => h9) rfl dX3_waitOrMove_56 ?_
      refine lv_iconst (v := 1) hx hb dX3_waitOrMove_59 (by decide) ?_
      refine lv_iadd hx hb dX3_waitOrMove_60 ?_
      refine va_put (D := gD G) (ci := 3) (v := .int (((upd (upd v (px k 2) ((v (px k 2)) + 1)) (px k 2) 0) 4) + 1)) (ty := .int) (C := RX3) (T := TX3) (N := 14) hx hb hts hin_X3_waitOrMove_X3 tyX3 tyX3_ok nmX3 hown hKK.1 hP hD hS 0 rfl rfl 5 (by decide) (hts _ lk_X3_waitOrMove_52) (fun _ h9 => h9) rfl (by decide +kernel) rfl rfl (Nat.le_of_ble_eq_true rfl) dX3_waitOrMove_61 (fun H locs hP hD hS => ?_)
      have e_61 := (rW_setI G a (upd (upd v (px k 2) ((v (px k 2)) + 1)) (px k 2) 0) (((upd (upd v (px k 2) ((v (px k 2)) + 1)) (px k 2) 0) 4) + 1)).2.2.2.2.2
      have hP : gP G (rW G a (upd (upd (upd v (px k 2) ((v (px k 2)) + 1)) (px k 2) 0) 4 (((upd (upd v (px k 2) ((v (px k 2)) + 1)) (px k 2) 0) 4) + 1))) H := by rw [e_61]; exact hP
      have hD : va_D (aA (rW G a v)) (rW G a (upd (upd (upd v (px k 2) ((v (px k 2)) + 1)) (px k 2) 0) 4 (((upd (upd v (px k 2) ((v (px k 2)) + 1)) (px k 2) 0) 4) + 1))) := by rw [e_61]; exact hD
      refine lv_aload_n hx hb dX3_waitOrMove_64 rfl (lv_at hl 1 rfl) ?_
      refine lv_dup hx hb dX3_waitOrMove_65 rfl ?_
      refine va_get (D := gD G) (ci := 3) (v := .int ((upd (upd (upd v (px k 2) ((v (px k 2)) + 1)) (px k 2) 0) 4 (((upd (upd v (px k 2) ((v (px k 2)) + 1)) (px k 2) 0) 4) + 1)) 0)) (C := RX3) (T := TX3) (N := 14) hx hb hts hin_X3_waitOrMove_X3 hown hKK.1 hP 0 rfl rfl 0 (by decide) (hts _ lk_X3_waitOrMove_36) (fun _ h9 => h9) rfl dX3_waitOrMove_66 ?_
      refine lv_iconst (v := 1) hx hb dX3_waitOrMove_69 (by decide) ?_
      refine lv_iload_n hx hb dX3_waitOrMove_70 rfl (lv_at hl 2 rfl) ?_
      refine lv_ishl hx hb dX3_waitOrMove_71 ?_
      refine lv_asi (y := shl 1 (nI k)) rfl ?_
      refine lv_ixor hx hb dX3_waitOrMove_72 ?_
      refine va_put (D := gD G) (ci := 3) (v := .int (((upd (upd (upd v (px k 2) ((v (px k 2)) + 1)) (px k 2) 0) 4 (((upd (upd v (px k 2) ((v (px k 2)) + 1)) (px k 2) 0) 4) + 1)) 0) ^^^ (shl 1 (nI k)))) (ty := .int) (C := RX3) (T := TX3) (N := 14) hx hb hts hin_X3_waitOrMove_X3 tyX3 tyX3_ok nmX3 hown hKK.1 hP hD hS 0 rfl rfl 0 (by decide) (hts _ lk_X3_waitOrMove_36) (fun _ h9 => h9) rfl (by decide +kernel) rfl rfl (Nat.le_of_ble_eq_true rfl) dX3_waitOrMove_73 (fun H locs hP hD hS => ?_)
      have e_73 := (rW_setI G a (upd (upd (upd v (px k 2) ((v (px k 2)) + 1)) (px k 2) 0) 4 (((upd (upd v (px k 2) ((v (px k 2)) + 1)) (px k 2) 0) 4) + 1)) (((upd (upd (upd v (px k 2) ((v (px k 2)) + 1)) (px k 2) 0) 4 (((upd (upd v (px k 2) ((v (px k 2)) + 1)) (px k 2) 0) 4) + 1)) 0) ^^^ (shl 1 (nI k)))).1
      have hP : gP G (rW G a (upd (upd (upd (upd v (px k 2) ((v (px k 2)) + 1)) (px k 2) 0) 4 (((upd (upd v (px k 2) ((v (px k 2)) + 1)) (px k 2) 0) 4) + 1)) 0 (((upd (upd (upd v (px k 2) ((v (px k 2)) + 1)) (px k 2) 0) 4 (((upd (upd v (px k 2) ((v (px k 2)) + 1)) (px k 2) 0) 4) + 1)) 0) ^^^ (shl 1 (nI k))))) H := by rw [e_73]; exact hP
      have hD : va_D (aA (rW G a v)) (rW G a (upd (upd (upd (upd v (px k 2) ((v (px k 2)) + 1)) (px k 2) 0) 4 (((upd (upd v (px k 2) ((v (px k 2)) + 1)) (px k 2) 0) 4) + 1)) 0 (((upd (upd (upd v (px k 2) ((v (px k 2)) + 1)) (px k 2) 0) 4 (((upd (upd v (px k 2) ((v (px k 2)) + 1)) (px k 2) 0) 4) + 1)) 0) ^^^ (shl 1 (nI k))))) := by rw [e_73]; exact hD
      refine lv_aload_n hx hb dX3_waitOrMove_76 rfl (lv_at hl 1 rfl) ?_
      refine va_get (D := gD G) (ci := 3) (v := .int ((upd (upd (upd (upd v (px k 2) ((v (px k 2)) + 1)) (px k 2) 0) 4 (((upd (upd v (px k 2) ((v (px k 2)) + 1)) (px k 2) 0) 4) + 1)) 0 (((upd (upd (upd v (px k 2) ((v (px k 2)) + 1)) (px k 2) 0) 4 (((upd (upd v (px k 2) ((v (px k 2)) + 1)) (px k 2) 0) 4) + 1)) 0) ^^^ (shl 1 (nI k)))) 0)) (C := RX3) (T := TX3) (N := 14) hx hb hts hin_X3_waitOrMove_X3 hown hKK.1 hP 0 rfl rfl 0 (by decide) (hts _ lk_X3_waitOrMove_36) (fun _ h9 => h9) rfl dX3_waitOrMove_77 ?_
      refine lv_iload_n hx hb dX3_waitOrMove_80 rfl (lv_at hl 2 rfl) ?_
      refine ro_SN (As := [.int ((upd (upd (upd (upd v (px k 2) ((v (px k 2)) + 1)) (px k 2) 0) 4 (((upd (upd v (px k 2) ((v (px k 2)) + 1)) (px k 2) 0) 4) + 1)) 0 (((upd (upd (upd v (px k 2) ((v (px k 2)) + 1)) (px k 2) 0) 4 (((upd (upd v (px k 2) ((v (px k 2)) + 1)) (px k 2) 0) 4) + 1)) 0) ^^^ (shl 1 (nI k)))) 0), .int (nI k)]) (rest := []) ⟨hx, hb, hml, hown, hts⟩ (c_X4_isIn l G ((upd (upd (upd (upd v (px k 2) ((v (px k 2)) + 1)) (px k 2) 0) 4 (((upd (upd v (px k 2) ((v (px k 2)) + 1)) (px k 2) 0) 4) + 1)) 0 (((upd (upd (upd v (px k 2) ((v (px k 2)) + 1)) (px k 2) 0) 4 (((upd (upd v (px k 2) ((v (px k 2)) + 1)) (px k 2) 0) 4) + 1)) 0) ^^^ (shl 1 (nI k)))) 0) (nI k)) ⟨va_cnB 2 hts gX3_waitOrMove_X4_isIn_n86 rfl rfl rfl (hKK.2.1 _ (List.mem_of_getElem? (i := 5) rfl)) (hts (.initialized RX4) (by decide +kernel)) (by decide +kernel) ⟨Nat.le_of_ble_eq_true rfl, Nat.le_of_ble_eq_true rfl⟩, hts (.static yX4_isIn) (by decide +kernel), trivial⟩ (show gP G [] _ from fun k q h => by simp at h) hKK rfl hl.1 rfl (Nat.le_of_ble_eq_true rfl) dX3_waitOrMove_81 (Nat.zero_le _) (Nat.zero_le _) ?_
      refine lv_if_eq (tgt := 92) hx hb dX3_waitOrMove_84 (by decide) (fun c_84 => ?_) (fun c_84 => ?_)
      · skip
        have c_84 := b2i_0 c_84
        exact ex_MUv (w2 := (rW G a (upd (upd (upd (upd v (px k 2) ((v (px k 2)) + 1)) (px k 2) 0) 4 (((upd (upd v (px k 2) ((v (px k 2)) + 1)) (px k 2) 0) 4) + 1)) 0 (((upd (upd (upd v (px k 2) ((v (px k 2)) + 1)) (px k 2) 0) 4 (((upd (upd v (px k 2) ((v (px k 2)) + 1)) (px k 2) 0) 4) + 1)) 0) ^^^ (shl 1 (nI k)))))) hx hb hr hlocks hP hS dX3_waitOrMove_92 (fun h => by have e1 : waitF k v = upd (upd (upd (upd v (px k 2) ((v (px k 2)) + 1)) (px k 2) 0) 4 (((upd (upd v (px k 2) ((v (px k 2)) + 1)) (px k 2) 0) 4) + 1)) 0 (((upd (upd (upd v (px k 2) ((v (px k 2)) + 1)) (px k 2) 0) 4 (((upd (upd v (px k 2) ((v (px k 2)) + 1)) (px k 2) 0) 4) + 1)) 0) ^^^ (shl 1 (nI k))) := (wait_m (tmF_f c_18) c_44).trans (move_f c_84); rw [e1]; exact h)
      · skip
        have c_84 := b2i_1 c_84
        refine lv_aload_n hx hb dX3_waitOrMove_87 rfl (lv_at hl 1 rfl) ?_
        refine lv_iload_n hx hb dX3_waitOrMove_88 rfl (lv_at hl 2 rfl) ?_
        refine mu_V (As := [.int (nI k)]) (rest := []) ⟨hx, hb, hml, hown, hts⟩ (c_X3_wear l G a (upd (upd (upd (upd v (px k 2) ((v (px k 2)) + 1)) (px k 2) 0) 4 (((upd (upd v (px k 2) ((v (px k 2)) + 1)) (px k 2) 0) 4) + 1)) 0 (((upd (upd (upd v (px k 2) ((v (px k 2)) + 1)) (px k 2) 0) 4 (((upd (upd v (px k 2) ((v (px k 2)) + 1)) (px k 2) 0) 4) + 1)) 0) ^^^ (shl 1 (nI k)))) k (by omega)) (cwV 1 hts gX3_waitOrMove_X3_wear rfl rfl rfl (by decide +kernel) ⟨Nat.le_of_ble_eq_true rfl, Nat.le_of_ble_eq_true rfl⟩) hP hKK hD hS (va_recv hKK.1 hP (ci := 3) (q0 := 0) rfl rfl) rfl hl.1 rfl (Nat.le_of_ble_eq_true rfl) dX3_waitOrMove_89 (Nat.zero_le _) (Nat.zero_le _) (rfl) (fun H locs hP hD hS => ?_)
        exact ex_MUv (w2 := (rW G a (wearF k (upd (upd (upd (upd v (px k 2) ((v (px k 2)) + 1)) (px k 2) 0) 4 (((upd (upd v (px k 2) ((v (px k 2)) + 1)) (px k 2) 0) 4) + 1)) 0 (((upd (upd (upd v (px k 2) ((v (px k 2)) + 1)) (px k 2) 0) 4 (((upd (upd v (px k 2) ((v (px k 2)) + 1)) (px k 2) 0) 4) + 1)) 0) ^^^ (shl 1 (nI k))))))) hx hb hr hlocks hP hS dX3_waitOrMove_92 (fun h => by have e1 : waitF k v = wearF k (upd (upd (upd (upd v (px k 2) ((v (px k 2)) + 1)) (px k 2) 0) 4 (((upd (upd v (px k 2) ((v (px k 2)) + 1)) (px k 2) 0) 4) + 1)) 0 (((upd (upd (upd v (px k 2) ((v (px k 2)) + 1)) (px k 2) 0) 4 (((upd (upd v (px k 2) ((v (px k 2)) + 1)) (px k 2) 0) 4) + 1)) 0) ^^^ (shl 1 (nI k)))) := (wait_m (tmF_f c_18) c_44).trans (move_t c_84); rw [e1]; exact h)
  · skip
    have c_18 := b2i_1 c_18
    refine lv_aload_n hx hb dX3_waitOrMove_21 rfl (lv_at hl 0 rfl) ?_
    refine va_get (D := gD G) (ci := 3) (v := .ref (a 2)) (C := RX3) (T := TX3) (N := 14) hx hb hts hin_X3_waitOrMove_X3 hown hKK.1 hP 0 rfl rfl 7 (by decide) (hts _ lk_X3_waitOrMove_15) (fun _ h9 => h9) rfl dX3_waitOrMove_22 ?_
    refine lv_iload_n hx hb dX3_waitOrMove_25 rfl (lv_at hl 1 rfl) ?_
    refine va_ialdN (j := k) (v := (upd v (px k 2) ((v (px k 2)) + 1)) (px k 1)) hx hb hKK.1 hP 2 0 rfl rfl (rfl) (by omega) (by decide) (rfl) dX3_waitOrMove_26 ?_
    refine lv_goto (tgt := 36) hx hb dX3_waitOrMove_27 (by decide) ?_
    refine lv_istore_n (lv' := [(2, .int ((upd v (px k 2) ((v (px k 2)) + 1)) (px k 1))), (0, .ref (a 0)), (1, .int (nI k))]) hx hb dX3_waitOrMove_36 rfl hl (by decide) rfl (fun ls hl => ?_)
    refine lv_aload_n hx hb dX3_waitOrMove_37 rfl (lv_at hl 1 rfl) ?_
    refine va_get (D := gD G) (ci := 3) (v := .ref (a 3)) (C := RX3) (T := TX3) (N := 14) hx hb hts hin_X3_waitOrMove_X3 hown hKK.1 hP 0 rfl rfl 8 (by decide) (hts _ lk_X3_waitOrMove_18) (fun _ h9 => h9) rfl dX3_waitOrMove_38 ?_
    refine lv_iload_n hx hb dX3_waitOrMove_41 rfl (lv_at hl 2 rfl) ?_
    refine va_ialdN (j := k) (v := (upd v (px k 2) ((v (px k 2)) + 1)) (px k 2)) hx hb hKK.1 hP 3 0 rfl rfl (rfl) (by omega) (by decide) (rfl) dX3_waitOrMove_42 ?_
    refine lv_iload_n hx hb dX3_waitOrMove_43 rfl (lv_at hl 0 rfl) ?_
    refine lv_icmp_lt (tgt := 92) hx hb dX3_waitOrMove_44 (by decide) (fun c_44 => ?_) (fun c_44 => ?_)
    · skip
      exact ex_MUv (w2 := (rW G a (upd v (px k 2) ((v (px k 2)) + 1)))) hx hb hr hlocks hP hS dX3_waitOrMove_92 (fun h => by have e1 : waitF k v = upd v (px k 2) ((v (px k 2)) + 1) := wait_n (tmF_t c_18) c_44; rw [e1]; exact h)
    · skip
      refine lv_aload_n hx hb dX3_waitOrMove_47 rfl (lv_at hl 1 rfl) ?_
      refine va_get (D := gD G) (ci := 3) (v := .ref (a 3)) (C := RX3) (T := TX3) (N := 14) hx hb hts hin_X3_waitOrMove_X3 hown hKK.1 hP 0 rfl rfl 8 (by decide) (hts _ lk_X3_waitOrMove_18) (fun _ h9 => h9) rfl dX3_waitOrMove_48 ?_
      refine lv_iload_n hx hb dX3_waitOrMove_51 rfl (lv_at hl 2 rfl) ?_
      refine lv_iconst (v := 0) hx hb dX3_waitOrMove_52 (by decide) ?_
      refine va_iastN (j := k) (x := 0) hx hb hKK.1 hP hD hS 3 0 rfl rfl (rfl) (by omega) (by decide) dX3_waitOrMove_53 (fun H locs hP hD hS => ?_)
      have e_53 := rW_setR G a (upd v (px k 2) ((v (px k 2)) + 1)) k 2 0 (by decide)
      have hP : gP G (rW G a (upd (upd v (px k 2) ((v (px k 2)) + 1)) (px k 2) 0)) H := by rw [e_53]; exact hP
      have hD : va_D (aA (rW G a v)) (rW G a (upd (upd v (px k 2) ((v (px k 2)) + 1)) (px k 2) 0)) := by rw [e_53]; exact hD
      refine lv_aload_n hx hb dX3_waitOrMove_54 rfl (lv_at hl 1 rfl) ?_
      refine lv_dup hx hb dX3_waitOrMove_55 rfl ?_
      refine va_get (D := gD G) (ci := 3) (v := .int ((upd (upd v (px k 2) ((v (px k 2)) + 1)) (px k 2) 0) 4)) (C := RX3) (T := TX3) (N := 14) hx hb hts hin_X3_waitOrMove_X3 hown hKK.1 hP 0 rfl rfl 5 (by decide) (hts _ lk_X3_waitOrMove_52) (fun _ h9 => h9) rfl dX3_waitOrMove_56 ?_
      refine lv_iconst (v := 1) hx hb dX3_waitOrMove_59 (by decide) ?_
      refine lv_iadd hx hb dX3_waitOrMove_60 ?_
      refine va_put (D := gD G) (ci := 3) (v := .int (((upd (upd v (px k 2) ((v (px k 2)) + 1)) (px k 2) 0) 4) + 1)) (ty := .int) (C := RX3) (T := TX3) (N := 14) hx hb hts hin_X3_waitOrMove_X3 tyX3 tyX3_ok nmX3 hown hKK.1 hP hD hS 0 rfl rfl 5 (by decide) (hts _ lk_X3_waitOrMove_52) (fun _ h9 => h9) rfl (by decide +kernel) rfl rfl (Nat.le_of_ble_eq_true rfl) dX3_waitOrMove_61 (fun H locs hP hD hS => ?_)
      have e_61 := (rW_setI G a (upd (upd v (px k 2) ((v (px k 2)) + 1)) (px k 2) 0) (((upd (upd v (px k 2) ((v (px k 2)) + 1)) (px k 2) 0) 4) + 1)).2.2.2.2.2
      have hP : gP G (rW G a (upd (upd (upd v (px k 2) ((v (px k 2)) + 1)) (px k 2) 0) 4 (((upd (upd v (px k 2) ((v (px k 2)) + 1)) (px k 2) 0) 4) + 1))) H := by rw [e_61]; exact hP
      have hD : va_D (aA (rW G a v)) (rW G a (upd (upd (upd v (px k 2) ((v (px k 2)) + 1)) (px k 2) 0) 4 (((upd (upd v (px k 2) ((v (px k 2)) + 1)) (px k 2) 0) 4) + 1))) := by rw [e_61]; exact hD
      refine lv_aload_n hx hb dX3_waitOrMove_64 rfl (lv_at hl 1 rfl) ?_
      refine lv_dup hx hb dX3_waitOrMove_65 rfl ?_
      refine va_get (D := gD G) (ci := 3) (v := .int ((upd (upd (upd v (px k 2) ((v (px k 2)) + 1)) (px k 2) 0) 4 (((upd (upd v (px k 2) ((v (px k 2)) + 1)) (px k 2) 0) 4) + 1)) 0)) (C := RX3) (T := TX3) (N := 14) hx hb hts hin_X3_waitOrMove_X3 hown hKK.1 hP 0 rfl rfl 0 (by decide) (hts _ lk_X3_waitOrMove_36) (fun _ h9 => h9) rfl dX3_waitOrMove_66 ?_
      refine lv_iconst (v := 1) hx hb dX3_waitOrMove_69 (by decide) ?_
      refine lv_iload_n hx hb dX3_waitOrMove_70 rfl (lv_at hl 2 rfl) ?_
      refine lv_ishl hx hb dX3_waitOrMove_71 ?_
      refine lv_asi (y := shl 1 (nI k)) rfl ?_
      refine lv_ixor hx hb dX3_waitOrMove_72 ?_
      refine va_put (D := gD G) (ci := 3) (v := .int (((upd (upd (upd v (px k 2) ((v (px k 2)) + 1)) (px k 2) 0) 4 (((upd (upd v (px k 2) ((v (px k 2)) + 1)) (px k 2) 0) 4) + 1)) 0) ^^^ (shl 1 (nI k)))) (ty := .int) (C := RX3) (T := TX3) (N := 14) hx hb hts hin_X3_waitOrMove_X3 tyX3 tyX3_ok nmX3 hown hKK.1 hP hD hS 0 rfl rfl 0 (by decide) (hts _ lk_X3_waitOrMove_36) (fun _ h9 => h9) rfl (by decide +kernel) rfl rfl (Nat.le_of_ble_eq_true rfl) dX3_waitOrMove_73 (fun H locs hP hD hS => ?_)
      have e_73 := (rW_setI G a (upd (upd (upd v (px k 2) ((v (px k 2)) + 1)) (px k 2) 0) 4 (((upd (upd v (px k 2) ((v (px k 2)) + 1)) (px k 2) 0) 4) + 1)) (((upd (upd (upd v (px k 2) ((v (px k 2)) + 1)) (px k 2) 0) 4 (((upd (upd v (px k 2) ((v (px k 2)) + 1)) (px k 2) 0) 4) + 1)) 0) ^^^ (shl 1 (nI k)))).1
      have hP : gP G (rW G a (upd (upd (upd (upd v (px k 2) ((v (px k 2)) + 1)) (px k 2) 0) 4 (((upd (upd v (px k 2) ((v (px k 2)) + 1)) (px k 2) 0) 4) + 1)) 0 (((upd (upd (upd v (px k 2) ((v (px k 2)) + 1)) (px k 2) 0) 4 (((upd (upd v (px k 2) ((v (px k 2)) + 1)) (px k 2) 0) 4) + 1)) 0) ^^^ (shl 1 (nI k))))) H := by rw [e_73]; exact hP
      have hD : va_D (aA (rW G a v)) (rW G a (upd (upd (upd (upd v (px k 2) ((v (px k 2)) + 1)) (px k 2) 0) 4 (((upd (upd v (px k 2) ((v (px k 2)) + 1)) (px k 2) 0) 4) + 1)) 0 (((upd (upd (upd v (px k 2) ((v (px k 2)) + 1)) (px k 2) 0) 4 (((upd (upd v (px k 2) ((v (px k 2)) + 1)) (px k 2) 0) 4) + 1)) 0) ^^^ (shl 1 (nI k))))) := by rw [e_73]; exact hD
      refine lv_aload_n hx hb dX3_waitOrMove_76 rfl (lv_at hl 1 rfl) ?_
      refine va_get (D := gD G) (ci := 3) (v := .int ((upd (upd (upd (upd v (px k 2) ((v (px k 2)) + 1)) (px k 2) 0) 4 (((upd (upd v (px k 2) ((v (px k 2)) + 1)) (px k 2) 0) 4) + 1)) 0 (((upd (upd (upd v (px k 2) ((v (px k 2)) + 1)) (px k 2) 0) 4 (((upd (upd v (px k 2) ((v (px k 2)) + 1)) (px k 2) 0) 4) + 1)) 0) ^^^ (shl 1 (nI k)))) 0)) (C := RX3) (T := TX3) (N := 14) hx hb hts hin_X3_waitOrMove_X3 hown hKK.1 hP 0 rfl rfl 0 (by decide) (hts _ lk_X3_waitOrMove_36) (fun _ h9 => h9) rfl dX3_waitOrMove_77 ?_
      refine lv_iload_n hx hb dX3_waitOrMove_80 rfl (lv_at hl 2 rfl) ?_
      refine ro_SN (As := [.int ((upd (upd (upd (upd v (px k 2) ((v (px k 2)) + 1)) (px k 2) 0) 4 (((upd (upd v (px k 2) ((v (px k 2)) + 1)) (px k 2) 0) 4) + 1)) 0 (((upd (upd (upd v (px k 2) ((v (px k 2)) + 1)) (px k 2) 0) 4 (((upd (upd v (px k 2) ((v (px k 2)) + 1)) (px k 2) 0) 4) + 1)) 0) ^^^ (shl 1 (nI k)))) 0), .int (nI k)]) (rest := []) ⟨hx, hb, hml, hown, hts⟩ (c_X4_isIn l G ((upd (upd (upd (upd v (px k 2) ((v (px k 2)) + 1)) (px k 2) 0) 4 (((upd (upd v (px k 2) ((v (px k 2)) + 1)) (px k 2) 0) 4) + 1)) 0 (((upd (upd (upd v (px k 2) ((v (px k 2)) + 1)) (px k 2) 0) 4 (((upd (upd v (px k 2) ((v (px k 2)) + 1)) (px k 2) 0) 4) + 1)) 0) ^^^ (shl 1 (nI k)))) 0) (nI k)) ⟨va_cnB 2 hts gX3_waitOrMove_X4_isIn_n86 rfl rfl rfl (hKK.2.1 _ (List.mem_of_getElem? (i := 5) rfl)) (hts (.initialized RX4) (by decide +kernel)) (by decide +kernel) ⟨Nat.le_of_ble_eq_true rfl, Nat.le_of_ble_eq_true rfl⟩, hts (.static yX4_isIn) (by decide +kernel), trivial⟩ (show gP G [] _ from fun k q h => by simp at h) hKK rfl hl.1 rfl (Nat.le_of_ble_eq_true rfl) dX3_waitOrMove_81 (Nat.zero_le _) (Nat.zero_le _) ?_
      refine lv_if_eq (tgt := 92) hx hb dX3_waitOrMove_84 (by decide) (fun c_84 => ?_) (fun c_84 => ?_)
      · skip
        have c_84 := b2i_0 c_84
        exact ex_MUv (w2 := (rW G a (upd (upd (upd (upd v (px k 2) ((v (px k 2)) + 1)) (px k 2) 0) 4 (((upd (upd v (px k 2) ((v (px k 2)) + 1)) (px k 2) 0) 4) + 1)) 0 (((upd (upd (upd v (px k 2) ((v (px k 2)) + 1)) (px k 2) 0) 4 (((upd (upd v (px k 2) ((v (px k 2)) + 1)) (px k 2) 0) 4) + 1)) 0) ^^^ (shl 1 (nI k)))))) hx hb hr hlocks hP hS dX3_waitOrMove_92 (fun h => by have e1 : waitF k v = upd (upd (upd (upd v (px k 2) ((v (px k 2)) + 1)) (px k 2) 0) 4 (((upd (upd v (px k 2) ((v (px k 2)) + 1)) (px k 2) 0) 4) + 1)) 0 (((upd (upd (upd v (px k 2) ((v (px k 2)) + 1)) (px k 2) 0) 4 (((upd (upd v (px k 2) ((v (px k 2)) + 1)) (px k 2) 0) 4) + 1)) 0) ^^^ (shl 1 (nI k))) := (wait_m (tmF_t c_18) c_44).trans (move_f c_84); rw [e1]; exact h)
      · skip
        have c_84 := b2i_1 c_84
        refine lv_aload_n hx hb dX3_waitOrMove_87 rfl (lv_at hl 1 rfl) ?_
        refine lv_iload_n hx hb dX3_waitOrMove_88 rfl (lv_at hl 2 rfl) ?_
        refine mu_V (As := [.int (nI k)]) (rest := []) ⟨hx, hb, hml, hown, hts⟩ (c_X3_wear l G a (upd (upd (upd (upd v (px k 2) ((v (px k 2)) + 1)) (px k 2) 0) 4 (((upd (upd v (px k 2) ((v (px k 2)) + 1)) (px k 2) 0) 4) + 1)) 0 (((upd (upd (upd v (px k 2) ((v (px k 2)) + 1)) (px k 2) 0) 4 (((upd (upd v (px k 2) ((v (px k 2)) + 1)) (px k 2) 0) 4) + 1)) 0) ^^^ (shl 1 (nI k)))) k (by omega)) (cwV 1 hts gX3_waitOrMove_X3_wear rfl rfl rfl (by decide +kernel) ⟨Nat.le_of_ble_eq_true rfl, Nat.le_of_ble_eq_true rfl⟩) hP hKK hD hS (va_recv hKK.1 hP (ci := 3) (q0 := 0) rfl rfl) rfl hl.1 rfl (Nat.le_of_ble_eq_true rfl) dX3_waitOrMove_89 (Nat.zero_le _) (Nat.zero_le _) (rfl) (fun H locs hP hD hS => ?_)
        exact ex_MUv (w2 := (rW G a (wearF k (upd (upd (upd (upd v (px k 2) ((v (px k 2)) + 1)) (px k 2) 0) 4 (((upd (upd v (px k 2) ((v (px k 2)) + 1)) (px k 2) 0) 4) + 1)) 0 (((upd (upd (upd v (px k 2) ((v (px k 2)) + 1)) (px k 2) 0) 4 (((upd (upd v (px k 2) ((v (px k 2)) + 1)) (px k 2) 0) 4) + 1)) 0) ^^^ (shl 1 (nI k))))))) hx hb hr hlocks hP hS dX3_waitOrMove_92 (fun h => by have e1 : waitF k v = wearF k (upd (upd (upd (upd v (px k 2) ((v (px k 2)) + 1)) (px k 2) 0) 4 (((upd (upd v (px k 2) ((v (px k 2)) + 1)) (px k 2) 0) 4) + 1)) 0 (((upd (upd (upd v (px k 2) ((v (px k 2)) + 1)) (px k 2) 0) 4 (((upd (upd v (px k 2) ((v (px k 2)) + 1)) (px k 2) 0) 4) + 1)) 0) ^^^ (shl 1 (nI k)))) := (wait_m (tmF_t c_18) c_44).trans (move_t c_84); rw [e1]; exact h)
set_option maxRecDepth 20000 in
theorem hin_X3_passTick_X3 : ∀ w ∈ u_ws RX3 TX3 14, w ∈ wsX3_passTick := by decide +kernel
theorem lk_X3_passTick_49 : Cond.fieldLink RX3 49 "WeldedRelays$Room" "ticks" "I" ∈ wsX3_passTick := by decide +kernel
theorem lk_X3_passTick_18 : Cond.fieldLink RX3 18 "WeldedRelays$Room" "waits" "[I" ∈ wsX3_passTick := by decide +kernel
set_option maxHeartbeats 4000000 in
set_option maxRecDepth 100000 in
/-- X3_passTick -/
theorem c_X3_passTick (l : Launch) (G : GG) (a : Nat → Nat) (v : Nat → Int32) (w : Int32) : Met l yX3_passTick wsX3_passTick ({ frames := 3, cells := 0, slots := 0, locals := 64 }) (pcM G [.ref (a 0), .int w] (rW G a v)) (qMU G none (rW G a v) (rW G a (tickW w v))) 0 0 (aA (rW G a v)) := by
  refine hd_MU (cc := cX3_passTick) (maxL := 3) (ret := none) (by decide) rfl (Nat.le_of_ble_eq_true rfl) ?_
  intro p e s m below meth c ls hx hb hr hts hown hlocks hml hP hKK hD hS hl
  have hl : lv_has ls 3 [(0, .ref (a 0)), (1, .int w)] := hl
  refine lv_aload_n hx hb dX3_passTick_0 rfl (lv_at hl 0 rfl) ?_
  refine lv_dup hx hb dX3_passTick_1 rfl ?_
  refine va_get (D := gD G) (ci := 3) (v := .int (v 3)) (C := RX3) (T := TX3) (N := 14) hx hb hts hin_X3_passTick_X3 hown hKK.1 hP 0 rfl rfl 4 (by decide) (hts _ lk_X3_passTick_49) (fun _ h9 => h9) rfl dX3_passTick_2 ?_
  refine lv_iconst (v := 1) hx hb dX3_passTick_5 (by decide) ?_
  refine lv_iadd hx hb dX3_passTick_6 ?_
  refine va_put (D := gD G) (ci := 3) (v := .int ((v 3) + 1)) (ty := .int) (C := RX3) (T := TX3) (N := 14) hx hb hts hin_X3_passTick_X3 tyX3 tyX3_ok nmX3 hown hKK.1 hP hD hS 0 rfl rfl 4 (by decide) (hts _ lk_X3_passTick_49) (fun _ h9 => h9) rfl (by decide +kernel) rfl rfl (Nat.le_of_ble_eq_true rfl) dX3_passTick_7 (fun H locs hP hD hS => ?_)
  have e_7 := (rW_setI G a v ((v 3) + 1)).2.2.2.2.1
  have hP : gP G (rW G a (upd v 3 ((v 3) + 1))) H := by rw [e_7]; exact hP
  have hD : va_D (aA (rW G a v)) (rW G a (upd v 3 ((v 3) + 1))) := by rw [e_7]; exact hD
  refine lv_iconst (v := 0) hx hb dX3_passTick_10 (by decide) ?_
  refine lv_istore_n (lv' := [(2, .int 0), (0, .ref (a 0)), (1, .int w)]) hx hb dX3_passTick_11 rfl hl (by decide) rfl (fun ls hl => ?_)
  have L_12 : ∀ (n_12 : Nat) (i : Nat), (i ≤ 10) → (10 + 1 ≤ i + n_12) → ∀ (H : Heap) (locs : List Loc), gP G (rW G a (stepN w i (upd v 3 (v 3 + 1)))) H → va_D (aA (rW G a v)) (rW G a (stepN w i (upd v 3 (v 3 + 1)))) → va_S (aA (rW G a v)) s.heap H locs → ∀ (ls : Array Slot), lv_has ls 3 [(2, .int (nI i)), (0, .ref (a 0)), (1, .int w)] → W p l e ({ frames := 3, cells := 0, slots := 0, locals := 64 }) s m (List.toArray [.ref (a 0), .int w]) below meth c H locs 0 0 (MQ below (qMU G none (rW G a v) (rW G a (tickW w v))) (List.toArray [.ref (a 0), .int w]) s 0 0 (aA (rW G a v))) (F0 m 12 ls []) := by
    intro n_12
    induction n_12 with
    | zero => intro i h1 h2; exact absurd (h2) (by omega)
    | succ n_12 ih_12 =>
      intro i h1 h2 H locs hP hD hS ls hl
      refine lv_iload_n hx hb dX3_passTick_12 rfl (lv_at hl 0 rfl) ?_
      refine lv_bipush (v := 10) hx hb dX3_passTick_13 (by decide) ?_
      refine lv_icmp_ge (tgt := 47) hx hb dX3_passTick_15 (by decide) (fun c_15 => ?_) (fun c_15 => ?_)
      · skip
        have c_15 : 10 ≤ i := (nI_leI (a := 10) (b := i) (by omega) (by omega)).mp c_15
        exact ex_MUv (w2 := (rW G a (stepN w i (upd v 3 (v 3 + 1))))) hx hb hr hlocks hP hS dX3_passTick_47 (fun h => by rw [show i = 10 by omega] at h; exact h)
      · skip
        have c_15 : ¬ (10 ≤ i) := fun q => c_15 ((nI_leI (a := 10) (b := i) (by omega) (by omega)).mpr q)
        refine lv_iload_n hx hb dX3_passTick_18 rfl (lv_at hl 2 rfl) ?_
        refine lv_iload_n hx hb dX3_passTick_19 rfl (lv_at hl 0 rfl) ?_
        refine ro_SN (As := [.int w, .int (nI i)]) (rest := []) ⟨hx, hb, hml, hown, hts⟩ (c_X4_isIn l G w (nI i)) ⟨va_cnB 2 hts gX3_passTick_X4_isIn_n86 rfl rfl rfl (hKK.2.1 _ (List.mem_of_getElem? (i := 5) rfl)) (hts (.initialized RX4) (by decide +kernel)) (by decide +kernel) ⟨Nat.le_of_ble_eq_true rfl, Nat.le_of_ble_eq_true rfl⟩, hts (.static yX4_isIn) (by decide +kernel), trivial⟩ (show gP G [] _ from fun k q h => by simp at h) hKK rfl hl.1 rfl (Nat.le_of_ble_eq_true rfl) dX3_passTick_20 (Nat.zero_le _) (Nat.zero_le _) ?_
        refine lv_if_eq (tgt := 34) hx hb dX3_passTick_23 (by decide) (fun c_23 => ?_) (fun c_23 => ?_)
        · skip
          have c_23 := b2i_0 c_23
          refine lv_aload_n hx hb dX3_passTick_34 rfl (lv_at hl 1 rfl) ?_
          refine va_get (D := gD G) (ci := 3) (v := .ref (a 3)) (C := RX3) (T := TX3) (N := 14) hx hb hts hin_X3_passTick_X3 hown hKK.1 hP 0 rfl rfl 8 (by decide) (hts _ lk_X3_passTick_18) (fun _ h9 => h9) rfl dX3_passTick_35 ?_
          refine lv_iload_n hx hb dX3_passTick_38 rfl (lv_at hl 0 rfl) ?_
          refine lv_iconst (v := 0) hx hb dX3_passTick_39 (by decide) ?_
          refine va_iastN (j := i) (x := 0) hx hb hKK.1 hP hD hS 3 0 rfl rfl (rfl) (by omega) (by decide) dX3_passTick_40 (fun H locs hP hD hS => ?_)
          have e_40 := rW_setR G a (stepN w i (upd v 3 (v 3 + 1))) i 2 0 (by decide)
          have hP : gP G (rW G a (upd (stepN w i (upd v 3 (v 3 + 1))) (px i 2) 0)) H := by rw [e_40]; exact hP
          have hD : va_D (aA (rW G a v)) (rW G a (upd (stepN w i (upd v 3 (v 3 + 1))) (px i 2) 0)) := by rw [e_40]; exact hD
          have ev_1 : upd (stepN w i (upd v 3 (v 3 + 1))) (px i 2) 0 = stepN w (i + 1) (upd v 3 (v 3 + 1)) := by exact stp_0 c_23
          rw [ev_1] at hP hD
          refine lv_iinc (v := nI (i + 1)) (lv' := [(2, .int (nI (i + 1))), (0, .ref (a 0)), (1, .int w)]) hx hb dX3_passTick_41 hl (k := 0) rfl (nI_1 _) (by decide) rfl (fun ls hl => ?_)
          refine lv_goto (tgt := 12) hx hb dX3_passTick_44 (by decide) ?_
          exact ih_12 (i + 1) (by omega) (by omega) _ _ (hP) (hD) hS _ (lv_sub hl [0, 1, 2] rfl)
        · skip
          have c_23 := b2i_1 c_23
          refine lv_aload_n hx hb dX3_passTick_26 rfl (lv_at hl 1 rfl) ?_
          refine lv_iload_n hx hb dX3_passTick_27 rfl (lv_at hl 0 rfl) ?_
          refine mu_V (As := [.int (nI i)]) (rest := []) ⟨hx, hb, hml, hown, hts⟩ (c_X3_waitOrMove l G a (stepN w i (upd v 3 (v 3 + 1))) i (by omega)) (cwV 1 hts gX3_passTick_X3_waitOrMove rfl rfl rfl (by decide +kernel) ⟨Nat.le_of_ble_eq_true rfl, Nat.le_of_ble_eq_true rfl⟩) hP hKK hD hS (va_recv hKK.1 hP (ci := 3) (q0 := 0) rfl rfl) rfl hl.1 rfl (Nat.le_of_ble_eq_true rfl) dX3_passTick_28 (Nat.zero_le _) (Nat.zero_le _) (rfl) (fun H locs hP hD hS => ?_)
          have ev_2 : waitF i (stepN w i (upd v 3 (v 3 + 1))) = stepN w (i + 1) (upd v 3 (v 3 + 1)) := by exact stp_w c_23
          rw [ev_2] at hP hD
          refine lv_goto (tgt := 41) hx hb dX3_passTick_31 (by decide) ?_
          refine lv_iinc (v := nI (i + 1)) (lv' := [(2, .int (nI (i + 1))), (0, .ref (a 0)), (1, .int w)]) hx hb dX3_passTick_41 hl (k := 0) rfl (nI_1 _) (by decide) rfl (fun ls hl => ?_)
          refine lv_goto (tgt := 12) hx hb dX3_passTick_44 (by decide) ?_
          exact ih_12 (i + 1) (by omega) (by omega) _ _ (hP) (hD) hS _ (lv_sub hl [0, 1, 2] rfl)
  exact L_12 (10 + 1) 0 (by omega) (by omega) _ _ (hP) (hD) hS _ (lv_sub hl [0, 1, 2] rfl)
set_option maxHeartbeats 4000000 in
set_option maxRecDepth 100000 in
/-- X3_passTicks -/
theorem c_X3_passTicks (l : Launch) (G : GG) (a : Nat → Nat) (v : Nat → Int32) (k : Nat) (hk : k ≤ 200) (hI : RI v) : Met l yX3_passTicks wsX3_passTicks ({ frames := 4, cells := 0, slots := 0, locals := 87 }) (pcM G [.ref (a 0), .int (nI k)] (rW G a v)) (qMU G none (rW G a v) (rW G a (tickN k v))) 0 0 (aA (rW G a v)) := by
  refine hd_MU (cc := cX3_passTicks) (maxL := 3) (ret := none) (by decide) rfl (Nat.le_of_ble_eq_true rfl) ?_
  intro p e s m below meth c ls hx hb hr hts hown hlocks hml hP hKK hD hS hl
  have hl : lv_has ls 3 [(0, .ref (a 0)), (1, .int (nI k))] := hl
  refine lv_iconst (v := 0) hx hb dX3_passTicks_0 (by decide) ?_
  refine lv_istore_n (lv' := [(2, .int 0), (0, .ref (a 0)), (1, .int (nI k))]) hx hb dX3_passTicks_1 rfl hl (by decide) rfl (fun ls hl => ?_)
  have L_2 : ∀ (n_2 : Nat) (i : Nat), (i ≤ k) → (k + 1 ≤ i + n_2) → ∀ (H : Heap) (locs : List Loc), gP G (rW G a (tickN i v)) H → va_D (aA (rW G a v)) (rW G a (tickN i v)) → va_S (aA (rW G a v)) s.heap H locs → ∀ (ls : Array Slot), lv_has ls 3 [(2, .int (nI i)), (0, .ref (a 0)), (1, .int (nI k))] → W p l e ({ frames := 4, cells := 0, slots := 0, locals := 87 }) s m (List.toArray [.ref (a 0), .int (nI k)]) below meth c H locs 0 0 (MQ below (qMU G none (rW G a v) (rW G a (tickN k v))) (List.toArray [.ref (a 0), .int (nI k)]) s 0 0 (aA (rW G a v))) (F0 m 2 ls []) := by
    intro n_2
    induction n_2 with
    | zero => intro i h1 h2; exact absurd (h2) (by omega)
    | succ n_2 ih_2 =>
      intro i h1 h2 H locs hP hD hS ls hl
      refine lv_iload_n hx hb dX3_passTicks_2 rfl (lv_at hl 0 rfl) ?_
      refine lv_iload_n hx hb dX3_passTicks_3 rfl (lv_at hl 2 rfl) ?_
      refine lv_icmp_ge (tgt := 21) hx hb dX3_passTicks_4 (by decide) (fun c_4 => ?_) (fun c_4 => ?_)
      · skip
        have c_4 : k ≤ i := (nI_leI (a := k) (b := i) (by omega) (by omega)).mp c_4
        exact ex_MUv (w2 := (rW G a (tickN i v))) hx hb hr hlocks hP hS dX3_passTicks_21 (fun h => by rw [show i = k by omega] at h; exact h)
      · skip
        have c_4 : ¬ (k ≤ i) := fun q => c_4 ((nI_leI (a := k) (b := i) (by omega) (by omega)).mpr q)
        refine lv_aload_n hx hb dX3_passTicks_7 rfl (lv_at hl 1 rfl) ?_
        refine lv_aload_n hx hb dX3_passTicks_8 rfl (lv_at hl 1 rfl) ?_
        refine ro_V (As := []) (rest := [.ref (a 0)]) ⟨hx, hb, hml, hown, hts⟩ (c_X3_wantingRelays l G a (tickN i v) (tickN_RI hI i)) (cwV 0 hts gX3_passTicks_X3_wantingRelays rfl rfl rfl (by decide +kernel) ⟨Nat.le_of_ble_eq_true rfl, Nat.le_of_ble_eq_true rfl⟩) hP hKK (va_recv hKK.1 hP (ci := 3) (q0 := 0) rfl rfl) rfl hl.1 rfl (Nat.le_of_ble_eq_true rfl) dX3_passTicks_9 (Nat.zero_le _) (Nat.zero_le _) ?_
        refine mu_V (As := [.int (wan (tickN i v))]) (rest := []) ⟨hx, hb, hml, hown, hts⟩ (c_X3_passTick l G a (tickN i v) (wan (tickN i v))) (cwV 1 hts gX3_passTicks_X3_passTick rfl rfl rfl (by decide +kernel) ⟨Nat.le_of_ble_eq_true rfl, Nat.le_of_ble_eq_true rfl⟩) hP hKK hD hS (va_recv hKK.1 hP (ci := 3) (q0 := 0) rfl rfl) rfl hl.1 rfl (Nat.le_of_ble_eq_true rfl) dX3_passTicks_12 (Nat.zero_le _) (Nat.zero_le _) (rfl) (fun H locs hP hD hS => ?_)
        have ev_1 : tickW (wan (tickN i v)) (tickN i v) = tickN (i + 1) v := rfl
        rw [ev_1] at hP hD
        refine lv_iinc (v := nI (i + 1)) (lv' := [(2, .int (nI (i + 1))), (0, .ref (a 0)), (1, .int (nI k))]) hx hb dX3_passTicks_15 hl (k := 0) rfl (nI_1 _) (by decide) rfl (fun ls hl => ?_)
        refine lv_goto (tgt := 2) hx hb dX3_passTicks_18 (by decide) ?_
        exact ih_2 (i + 1) (by omega) (by omega) _ _ (hP) (hD) hS _ (lv_sub hl [0, 1, 2] rfl)
  exact L_2 (k + 1) 0 (by omega) (by omega) _ _ (hP) (hD) hS _ (lv_sub hl [0, 1, 2] rfl)
