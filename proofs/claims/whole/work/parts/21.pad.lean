set_option maxHeartbeats 4000000 in
set_option maxRecDepth 100000 in
/-- X1_lastOf -/
theorem c_X1_lastOf (l : Launch) (G : GG) (x : Int64) : Met l yX1_lastOf wsX1_lastOf ({ frames := 0, cells := 0, slots := 0, locals := 0 }) (pcW G [.long x] ([])) (qRO (.int (lst x))) 0 0 nofree := by
  refine hd_RO (cc := cX1_lastOf) (maxL := 2) (ret := some .int) (by decide) rfl (Nat.le_of_ble_eq_true rfl) ?_
  intro p e s m below meth c ls hx hb hr hts hown hlocks hml hP hKK hl
  have hl : lv_has ls 2 [(0, .long x)] := hl
  refine lv_lload_n hx hb dX1_lastOf_0 rfl (lv_at hl 0 rfl) ?_
  refine lv_ldc2 (v := 255) hx hb hown (hts (.constantLong RX1 23 (255)) (by decide +kernel)) dX1_lastOf_1 ?_
  refine lv_land hx hb dX1_lastOf_4 ?_
  refine lv_l2i (v := Int64.toInt32 (x &&& 255)) hx hb dX1_lastOf_5 rfl ?_
  exact ex_ROi hx hb hr hlocks rfl dX1_lastOf_6 (rfl)
set_option maxHeartbeats 4000000 in
set_option maxRecDepth 100000 in
/-- X1_lengthOf -/
theorem c_X1_lengthOf (l : Launch) (G : GG) (x : Int64) : Met l yX1_lengthOf wsX1_lengthOf ({ frames := 1, cells := 0, slots := 0, locals := 22 }) (pcW G [.long x] ([])) (qRO (.int (nI (lgF 8 x 0)))) 0 0 nofree := by
  refine hd_RO (cc := cX1_lengthOf) (maxL := 5) (ret := some .int) (by decide) rfl (Nat.le_of_ble_eq_true rfl) ?_
  intro p e s m below meth c ls hx hb hr hts hown hlocks hml hP hKK hl
  have hl : lv_has ls 5 [(0, .long x)] := hl
  refine lv_iconst (v := 0) hx hb dX1_lengthOf_0 (by decide) ?_
  refine lv_istore_n (lv' := [(2, .int 0), (0, .long x)]) hx hb dX1_lengthOf_1 rfl hl (by decide) rfl (fun ls hl => ?_)
  refine lv_lload_n hx hb dX1_lengthOf_2 rfl (lv_at hl 1 rfl) ?_
  refine lv_lstore_n (lv' := [(3, .long x), (2, .int 0), (0, .long x)]) hx hb dX1_lengthOf_3 rfl hl (by decide) rfl (fun ls hl => ?_)
  have L_4 : ∀ (n_4 : Nat) (mm : Nat) (cc : Nat) (y : Int64), (cc + mm = 8) → (mm + 1 ≤ n_4) → (lgF 8 x 0 = lgF mm y cc) → ∀ (ls : Array Slot), lv_has ls 5 [(3, .long y), (2, .int (nI cc)), (0, .long x)] → W p l e ({ frames := 1, cells := 0, slots := 0, locals := 22 }) s m (List.toArray [.long x]) below meth c s.heap [] 0 0 (MQ below (qRO (.int (nI (lgF 8 x 0)))) (List.toArray [.long x]) s 0 0 nofree) (F0 m 4 ls []) := by
    intro n_4
    induction n_4 with
    | zero => intro mm cc y h1 h2 h4; exact absurd (h2) (by omega)
    | succ n_4 ih_4 =>
      intro mm cc y h1 h2 h4 ls hl
      refine lv_lload_n hx hb dX1_lengthOf_4 rfl (lv_at hl 0 rfl) ?_
      refine lv_lconst (v := 0) hx hb dX1_lengthOf_5 (by decide) ?_
      refine W.lcmp hx hb dX1_lengthOf_6 ?_
      refine lv_if_eq (tgt := 43) hx hb dX1_lengthOf_7 (by decide) (fun c_7 => ?_) (fun c_7 => ?_)
      · skip
        have c_7 := lcmp_0 c_7
        refine lv_iload_n hx hb dX1_lengthOf_43 rfl (lv_at hl 1 rfl) ?_
        exact ex_ROi hx hb hr hlocks rfl dX1_lengthOf_44 (by rw [h4, lgF_0 mm c_7])
      · skip
        have c_7 := lcmp_n c_7
        refine lv_iload_n hx hb dX1_lengthOf_10 rfl (lv_at hl 1 rfl) ?_
        refine lv_bipush (v := 8) hx hb dX1_lengthOf_11 (by decide) ?_
        refine lv_icmp_ge (tgt := 43) hx hb dX1_lengthOf_13 (by decide) (fun c_13 => ?_) (fun c_13 => ?_)
        · skip
          have c_13 : 8 ≤ cc := (nI_leI (a := 8) (b := cc) (by omega) (by omega)).mp c_13
          refine lv_iload_n hx hb dX1_lengthOf_43 rfl (lv_at hl 1 rfl) ?_
          exact ex_ROi hx hb hr hlocks rfl dX1_lengthOf_44 (by rw [h4, show mm = 0 by omega] <;> rfl)
        · skip
          have c_13 : ¬ (8 ≤ cc) := fun q => c_13 ((nI_leI (a := 8) (b := cc) (by omega) (by omega)).mpr q)
          refine lv_lload_n hx hb dX1_lengthOf_16 rfl (lv_at hl 0 rfl) ?_
          refine ro_S (As := [.long y]) (rest := []) ⟨hx, hb, hml, hown, hts⟩ (c_X1_lastOf l G y) (va_cwS 1 hts gX1_lengthOf_X1_lastOf rfl rfl rfl (by decide +kernel) ⟨Nat.le_of_ble_eq_true rfl, Nat.le_of_ble_eq_true rfl⟩) (show gP G [] _ from fun k q h => by simp at h) hKK rfl hl.1 rfl (Nat.le_of_ble_eq_true rfl) dX1_lengthOf_17 (Nat.zero_le _) (Nat.zero_le _) ?_
          refine lv_bipush (v := 33) hx hb dX1_lengthOf_20 (by decide) ?_
          refine lv_bipush (v := 126) hx hb dX1_lengthOf_22 (by decide) ?_
          refine ro_SN (As := [.int (lst y), .int 33, .int 126]) (rest := []) ⟨hx, hb, hml, hown, hts⟩ (c_X4_isWithin l G (lst y) 33 126) ⟨va_cnB 3 hts gX1_lengthOf_X4_isWithin_n19 rfl rfl rfl (hKK.2.1 _ (List.mem_of_getElem? (i := 6) rfl)) (hts (.initialized RX4) (by decide +kernel)) (by decide +kernel) ⟨Nat.le_of_ble_eq_true rfl, Nat.le_of_ble_eq_true rfl⟩, hts (.static yX4_isWithin) (by decide +kernel), trivial⟩ (show gP G [] _ from fun k q h => by simp at h) hKK rfl hl.1 rfl (Nat.le_of_ble_eq_true rfl) dX1_lengthOf_24 (Nat.zero_le _) (Nat.zero_le _) ?_
          refine lv_if_ne (tgt := 32) hx hb dX1_lengthOf_27 (by decide) (fun c_27 => ?_) (fun c_27 => ?_)
          · skip
            have c_27 := b2i_1 c_27
            refine lv_iinc (v := nI (cc + 1)) (lv' := [(2, .int (nI (cc + 1))), (3, .long y), (0, .long x)]) hx hb dX1_lengthOf_32 hl (k := 1) rfl (nI_1 _) (by decide) rfl (fun ls hl => ?_)
            refine lv_lload_n hx hb dX1_lengthOf_35 rfl (lv_at hl 1 rfl) ?_
            refine lv_bipush (v := 8) hx hb dX1_lengthOf_36 (by decide) ?_
            refine lv_lushr (v := lushr y 8) hx hb dX1_lengthOf_38 rfl ?_
            refine lv_lstore_n (lv' := [(3, .long (lushr y 8)), (2, .int (nI (cc + 1))), (0, .long x)]) hx hb dX1_lengthOf_39 rfl hl (by decide) rfl (fun ls hl => ?_)
            refine lv_goto (tgt := 4) hx hb dX1_lengthOf_40 (by decide) ?_
            exact ih_4 (mm - 1) (cc + 1) (lushr y 8) (by omega) (by omega) (h4.trans (lgF_t (by omega) c_7 c_27)) _ (lv_sub hl [0, 1, 2] rfl)
          · skip
            have c_27 := b2i_0 c_27
            refine lv_iconst (v := 0) hx hb dX1_lengthOf_30 (by decide) ?_
            exact ex_ROi hx hb hr hlocks rfl dX1_lengthOf_31 (by rw [h4, lgF_f (by omega) c_7 c_27] <;> rfl)
  exact L_4 9 8 0 x (by omega) (by omega) (rfl) _ (lv_sub hl [0, 1, 2] rfl)
set_option maxRecDepth 20000 in
theorem hin_X1_clear_X1 : ∀ w ∈ u_ws RX1 TX1 2, w ∈ wsX1_clear := by decide +kernel
theorem lk_X1_clear_25 : Cond.fieldLink RX1 25 "WeldedRelays$Pad" "length" "I" ∈ wsX1_clear := by decide +kernel
set_option maxHeartbeats 4000000 in
set_option maxRecDepth 100000 in
/-- X1_clear -/
theorem c_X1_clear (l : Launch) (G : GG) (ad : Nat → Nat) (pd : Nat → Int32) (N : Nat) : Met l yX1_clear wsX1_clear ({ frames := 0, cells := 0, slots := 0, locals := 0 }) (pcM G [.ref (ad 0)] ([(ad 0, .inr (1, [.ref (ad 1), .int (nI N)])), (ad 1, .inl (gI G, 64, .inl pd))])) (qMU G none ([(ad 0, .inr (1, [.ref (ad 1), .int (nI N)])), (ad 1, .inl (gI G, 64, .inl pd))]) ([(ad 0, .inr (1, [.ref (ad 1), .int 0])), (ad 1, .inl (gI G, 64, .inl pd))])) 0 0 (aA ([(ad 0, .inr (1, [.ref (ad 1), .int (nI N)])), (ad 1, .inl (gI G, 64, .inl pd))])) := by
  refine hd_MU (cc := cX1_clear) (maxL := 1) (ret := none) (by decide) rfl (Nat.le_of_ble_eq_true rfl) ?_
  intro p e s m below meth c ls hx hb hr hts hown hlocks hml hP hKK hD hS hl
  have hl : lv_has ls 1 [(0, .ref (ad 0))] := hl
  refine lv_aload_n hx hb dX1_clear_0 rfl (lv_at hl 0 rfl) ?_
  refine lv_iconst (v := 0) hx hb dX1_clear_1 (by decide) ?_
  refine va_put (D := gD G) (ci := 1) (v := .int 0) (ty := .int) (C := RX1) (T := TX1) (N := 2) hx hb hts hin_X1_clear_X1 tyX1 tyX1_ok nmX1 hown hKK.1 hP hD hS 0 rfl rfl 1 (by decide) (hts _ lk_X1_clear_25) (fun _ h9 => h9) rfl (by decide +kernel) rfl rfl (Nat.le_of_ble_eq_true rfl) dX1_clear_2 (fun H locs hP hD hS => ?_)
  have hP : gP G ([(ad 0, .inr (1, [.ref (ad 1), .int 0])), (ad 1, .inl (gI G, 64, .inl pd))]) H := hP
  have hD : va_D (aA ([(ad 0, .inr (1, [.ref (ad 1), .int (nI N)])), (ad 1, .inl (gI G, 64, .inl pd))])) ([(ad 0, .inr (1, [.ref (ad 1), .int 0])), (ad 1, .inl (gI G, 64, .inl pd))]) := hD
  exact ex_MUv (w2 := [(ad 0, .inr (1, [.ref (ad 1), .int 0])), (ad 1, .inl (gI G, 64, .inl pd))]) hx hb hr hlocks hP hS dX1_clear_5 (fun h => h)
set_option maxRecDepth 20000 in
theorem hin_X1_append_X1 : ∀ w ∈ u_ws RX1 TX1 2, w ∈ wsX1_append := by decide +kernel
theorem lk_X1_append_25 : Cond.fieldLink RX1 25 "WeldedRelays$Pad" "length" "I" ∈ wsX1_append := by decide +kernel
theorem lk_X1_append_9 : Cond.fieldLink RX1 9 "WeldedRelays$Pad" "characters" "[I" ∈ wsX1_append := by decide +kernel
set_option maxHeartbeats 4000000 in
set_option maxRecDepth 100000 in
/-- X1_append -/
theorem c_X1_append (l : Launch) (G : GG) (ad : Nat → Nat) (pd : Nat → Int32) (N : Nat) (x : Int64) (cc : Nat) (hc8 : cc ≤ 8) (hn64 : N + cc ≤ 64) : Met l yX1_append wsX1_append ({ frames := 1, cells := 0, slots := 0, locals := 21 }) (pcM G [.ref (ad 0), .long x, .int (nI cc)] ([(ad 0, .inr (1, [.ref (ad 1), .int (nI N)])), (ad 1, .inl (gI G, 64, .inl pd))])) (qMU G none ([(ad 0, .inr (1, [.ref (ad 1), .int (nI N)])), (ad 1, .inl (gI G, 64, .inl pd))]) ([(ad 0, .inr (1, [.ref (ad 1), .int (nI (N + cc))])), (ad 1, .inl (gI G, 64, .inl (apG x N cc N pd)))])) 0 0 (aA ([(ad 0, .inr (1, [.ref (ad 1), .int (nI N)])), (ad 1, .inl (gI G, 64, .inl pd))])) := by
  refine hd_MU (cc := cX1_append) (maxL := 7) (ret := none) (by decide) rfl (Nat.le_of_ble_eq_true rfl) ?_
  intro p e s m below meth c ls hx hb hr hts hown hlocks hml hP hKK hD hS hl
  have hl : lv_has ls 7 [(0, .ref (ad 0)), (1, .long x), (3, .int (nI cc))] := hl
  refine lv_iload_n hx hb dX1_append_0 rfl (lv_at hl 2 rfl) ?_
  refine lv_if_lt (tgt := 15) hx hb dX1_append_1 (by decide) (fun c_1 => ?_) (fun c_1 => ?_)
  · skip
    exact absurd c_1 (nI_pos (by omega))
  · skip
    refine lv_aload_n hx hb dX1_append_4 rfl (lv_at hl 0 rfl) ?_
    refine va_get (D := gD G) (ci := 1) (v := .int (nI N)) (C := RX1) (T := TX1) (N := 2) hx hb hts hin_X1_append_X1 hown hKK.1 hP 0 rfl rfl 1 (by decide) (hts _ lk_X1_append_25) (fun _ h9 => h9) rfl dX1_append_5 ?_
    refine lv_iload_n hx hb dX1_append_8 rfl (lv_at hl 2 rfl) ?_
    refine lv_iadd hx hb dX1_append_9 ?_
    refine lv_asi (y := nI (N + cc)) (nI_add _ _) ?_
    refine lv_bipush (v := 64) hx hb dX1_append_10 (by decide) ?_
    refine lv_icmp_le (tgt := 16) hx hb dX1_append_12 (by decide) (fun c_12 => ?_) (fun c_12 => ?_)
    · skip
      have c_12 : (N + cc) ≤ 64 := (nI_leI (a := N + cc) (b := 64) (by omega) (by omega)).mp c_12
      refine lv_lload_n hx hb dX1_append_16 rfl (lv_at hl 1 rfl) ?_
      refine lv_lstore (lv' := [(4, .long x), (0, .ref (ad 0)), (1, .long x), (3, .int (nI cc))]) hx hb dX1_append_17 hl (by decide) rfl (fun ls hl => ?_)
      refine lv_aload_n hx hb dX1_append_19 rfl (lv_at hl 1 rfl) ?_
      refine va_get (D := gD G) (ci := 1) (v := .int (nI N)) (C := RX1) (T := TX1) (N := 2) hx hb hts hin_X1_append_X1 hown hKK.1 hP 0 rfl rfl 1 (by decide) (hts _ lk_X1_append_25) (fun _ h9 => h9) rfl dX1_append_20 ?_
      refine lv_iload_n hx hb dX1_append_23 rfl (lv_at hl 3 rfl) ?_
      refine lv_iadd hx hb dX1_append_24 ?_
      refine lv_asi (y := nI (N + cc)) (nI_add _ _) ?_
      refine lv_iconst (v := 1) hx hb dX1_append_25 (by decide) ?_
      refine lv_isub hx hb dX1_append_26 ?_
      refine lv_istore (lv' := [(6, .int ((nI (N + cc)) - 1)), (4, .long x), (0, .ref (ad 0)), (1, .long x), (3, .int (nI cc))]) hx hb dX1_append_27 hl (by decide) rfl (fun ls hl => ?_)
      have hl : lv_has ls 7 [(6, .int ((nI (N + cc)) - 1)), (4, .long (shN (N + cc - (N + cc)) x)), (0, .ref (ad 0)), (1, .long x), (3, .int (nI cc))] := by have e_l1 : x = (shN (N + cc - (N + cc)) x) := (by rw [Nat.sub_self]; rfl); rw [← e_l1]; exact hl
      have L_29 : ∀ (n_29 : Nat) (i : Nat), (N ≤ i) → (i ≤ N + cc) → (i + 1 ≤ n_29) → ∀ (H : Heap) (locs : List Loc), gP G ([(ad 0, .inr (1, [.ref (ad 1), .int (nI N)])), (ad 1, .inl (gI G, 64, .inl (apG x N cc i pd)))]) H → va_D (aA ([(ad 0, .inr (1, [.ref (ad 1), .int (nI N)])), (ad 1, .inl (gI G, 64, .inl pd))])) ([(ad 0, .inr (1, [.ref (ad 1), .int (nI N)])), (ad 1, .inl (gI G, 64, .inl (apG x N cc i pd)))]) → va_S (aA ([(ad 0, .inr (1, [.ref (ad 1), .int (nI N)])), (ad 1, .inl (gI G, 64, .inl pd))])) s.heap H locs → ∀ (ls : Array Slot), lv_has ls 7 [(6, .int (nI i - 1)), (4, .long (shN (N + cc - i) x)), (0, .ref (ad 0)), (1, .long x), (3, .int (nI cc))] → W p l e ({ frames := 1, cells := 0, slots := 0, locals := 21 }) s m (List.toArray [.ref (ad 0), .long x, .int (nI cc)]) below meth c H locs 0 0 (MQ below (qMU G none ([(ad 0, .inr (1, [.ref (ad 1), .int (nI N)])), (ad 1, .inl (gI G, 64, .inl pd))]) ([(ad 0, .inr (1, [.ref (ad 1), .int (nI (N + cc))])), (ad 1, .inl (gI G, 64, .inl (apG x N cc N pd)))])) (List.toArray [.ref (ad 0), .long x, .int (nI cc)]) s 0 0 (aA ([(ad 0, .inr (1, [.ref (ad 1), .int (nI N)])), (ad 1, .inl (gI G, 64, .inl pd))]))) (F0 m 29 ls []) := by
        intro n_29
        induction n_29 with
        | zero => intro i h1 h5 h2; exact absurd (h2) (by omega)
        | succ n_29 ih_29 =>
          intro i h1 h5 h2 H locs hP hD hS ls hl
          refine lv_iload hx hb dX1_append_29 (lv_at hl 0 rfl) ?_
          refine lv_aload_n hx hb dX1_append_31 rfl (lv_at hl 2 rfl) ?_
          refine va_get (D := gD G) (ci := 1) (v := .int (nI N)) (C := RX1) (T := TX1) (N := 2) hx hb hts hin_X1_append_X1 hown hKK.1 hP 0 rfl rfl 1 (by decide) (hts _ lk_X1_append_25) (fun _ h9 => h9) rfl dX1_append_32 ?_
          refine lv_icmp_lt (tgt := 63) hx hb dX1_append_35 (by decide) (fun c_35 => ?_) (fun c_35 => ?_)
          · skip
            have i0 := dn_t h1 (by omega) c_35
            refine lv_aload_n hx hb dX1_append_63 rfl (lv_at hl 2 rfl) ?_
            refine lv_dup hx hb dX1_append_64 rfl ?_
            refine va_get (D := gD G) (ci := 1) (v := .int (nI N)) (C := RX1) (T := TX1) (N := 2) hx hb hts hin_X1_append_X1 hown hKK.1 hP 0 rfl rfl 1 (by decide) (hts _ lk_X1_append_25) (fun _ h9 => h9) rfl dX1_append_65 ?_
            refine lv_iload_n hx hb dX1_append_68 rfl (lv_at hl 4 rfl) ?_
            refine lv_iadd hx hb dX1_append_69 ?_
            refine lv_asi (y := nI (N + cc)) (nI_add _ _) ?_
            refine va_put (D := gD G) (ci := 1) (v := .int (nI (N + cc))) (ty := .int) (C := RX1) (T := TX1) (N := 2) hx hb hts hin_X1_append_X1 tyX1 tyX1_ok nmX1 hown hKK.1 hP hD hS 0 rfl rfl 1 (by decide) (hts _ lk_X1_append_25) (fun _ h9 => h9) rfl (by decide +kernel) rfl rfl (Nat.le_of_ble_eq_true rfl) dX1_append_70 (fun H locs hP hD hS => ?_)
            have hP : gP G ([(ad 0, .inr (1, [.ref (ad 1), .int (nI (N + cc))])), (ad 1, .inl (gI G, 64, .inl (apG x N cc i pd)))]) H := hP
            have hD : va_D (aA ([(ad 0, .inr (1, [.ref (ad 1), .int (nI N)])), (ad 1, .inl (gI G, 64, .inl pd))])) ([(ad 0, .inr (1, [.ref (ad 1), .int (nI (N + cc))])), (ad 1, .inl (gI G, 64, .inl (apG x N cc i pd)))]) := hD
            exact ex_MUv (w2 := [(ad 0, .inr (1, [.ref (ad 1), .int (nI (N + cc))])), (ad 1, .inl (gI G, 64, .inl (apG x N cc i pd)))]) hx hb hr hlocks hP hS dX1_append_73 (fun h => by rw [i0] at h; exact h)
          · skip
            have i0 := dn_f h1 (by omega) c_35
            have hl : lv_has ls 7 [(6, .int (nI (i - 1))), (4, .long (shN (N + cc - i) x)), (0, .ref (ad 0)), (1, .long x), (3, .int (nI cc))] := by have e_l2 : (nI i - 1) = (nI (i - 1)) := (sub1 (by omega)); rw [← e_l2]; exact hl
            refine lv_aload_n hx hb dX1_append_38 rfl (lv_at hl 2 rfl) ?_
            refine va_get (D := gD G) (ci := 1) (v := .ref (ad 1)) (C := RX1) (T := TX1) (N := 2) hx hb hts hin_X1_append_X1 hown hKK.1 hP 0 rfl rfl 0 (by decide) (hts _ lk_X1_append_9) (fun _ h9 => h9) rfl dX1_append_39 ?_
            refine lv_iload hx hb dX1_append_42 (lv_at hl 0 rfl) ?_
            refine lv_lload hx hb dX1_append_44 (lv_at hl 1 rfl) ?_
            refine ro_S (As := [.long (shN (N + cc - i) x)]) (rest := [.int (nI (i - 1)), .ref (ad 1)]) ⟨hx, hb, hml, hown, hts⟩ (c_X1_lastOf l G (shN (N + cc - i) x)) (va_cwS 1 hts gX1_append_X1_lastOf rfl rfl rfl (by decide +kernel) ⟨Nat.le_of_ble_eq_true rfl, Nat.le_of_ble_eq_true rfl⟩) (show gP G [] _ from fun k q h => by simp at h) hKK rfl hl.1 rfl (Nat.le_of_ble_eq_true rfl) dX1_append_46 (Nat.zero_le _) (Nat.zero_le _) ?_
            refine va_iastN (j := i - 1) (x := (lst (shN (N + cc - i) x))) hx hb hKK.1 hP hD hS 1 0 rfl rfl (rfl) (by omega) (by decide) dX1_append_49 (fun H locs hP hD hS => ?_)
            have hP : gP G ([(ad 0, .inr (1, [.ref (ad 1), .int (nI N)])), (ad 1, .inl (gI G, 64, .inl (upd (apG x N cc i pd) (i - 1) (lst (shN (N + cc - i) x)))))]) H := hP
            have hD : va_D (aA ([(ad 0, .inr (1, [.ref (ad 1), .int (nI N)])), (ad 1, .inl (gI G, 64, .inl pd))])) ([(ad 0, .inr (1, [.ref (ad 1), .int (nI N)])), (ad 1, .inl (gI G, 64, .inl (upd (apG x N cc i pd) (i - 1) (lst (shN (N + cc - i) x)))))]) := hD
            have ev_3 : upd (apG x N cc i pd) (i - 1) (lst (shN (N + cc - i) x)) = apG x N cc (i - 1) pd := apG_s _ _ _ _ _ (by omega) (by omega)
            rw [ev_3] at hP hD
            refine lv_lload hx hb dX1_append_50 (lv_at hl 1 rfl) ?_
            refine lv_bipush (v := 8) hx hb dX1_append_52 (by decide) ?_
            refine lv_lushr (v := lushr (shN (N + cc - i) x) 8) hx hb dX1_append_54 rfl ?_
            refine lv_asl (y := shN (N + cc - (i - 1)) x) (shN_s _ _ _ _ (by omega) (by omega)) ?_
            refine lv_lstore (lv' := [(4, .long (shN (N + cc - (i - 1)) x)), (6, .int (nI (i - 1))), (0, .ref (ad 0)), (1, .long x), (3, .int (nI cc))]) hx hb dX1_append_55 hl (by decide) rfl (fun ls hl => ?_)
            refine lv_iinc (v := nI (i - 1) - 1) (lv' := [(6, .int (nI (i - 1) - 1)), (4, .long (shN (N + cc - (i - 1)) x)), (0, .ref (ad 0)), (1, .long x), (3, .int (nI cc))]) hx hb dX1_append_57 hl (k := 1) rfl (addm1 _) (by decide) rfl (fun ls hl => ?_)
            refine lv_goto (tgt := 29) hx hb dX1_append_60 (by decide) ?_
            exact ih_29 (i - 1) (by omega) (by omega) (by omega) _ _ (hP) (hD) hS _ (lv_sub hl [0, 1, 2, 3, 4] rfl)
      exact L_29 (N + cc + 1) (N + cc) (by omega) (by omega) (by omega) _ _ (by rw [apG_0]; exact hP) (by rw [apG_0]; exact hD) hS _ (lv_sub hl [0, 1, 2, 3, 4] rfl)
    · skip
      have c_12 : ¬ ((N + cc) ≤ 64) := fun q => c_12 ((nI_leI (a := N + cc) (b := 64) (by omega) (by omega)).mpr q)
      exact (c_12 (by omega)).elim
set_option maxRecDepth 20000 in
theorem hin_X2_readInto_X2 : ∀ w ∈ u_ws RX2 TX2 2, w ∈ wsX2_readInto := by decide +kernel
theorem lk_X2_readInto_11 : Cond.fieldLink RX2 11 "WeldedRelays$Reader" "place" "I" ∈ wsX2_readInto := by decide +kernel
set_option maxRecDepth 20000 in
theorem hin_X2_readInto_X1 : ∀ w ∈ u_ws RX1 TX1 2, w ∈ wsX2_readInto := by decide +kernel
theorem lk_X2_readInto_15 : Cond.fieldLink RX2 15 "WeldedRelays$Pad" "length" "I" ∈ wsX2_readInto := by decide +kernel
theorem lk_X2_readInto_20 : Cond.fieldLink RX2 20 "WeldedRelays$Pad" "characters" "[I" ∈ wsX2_readInto := by decide +kernel
set_option maxHeartbeats 4000000 in
set_option maxRecDepth 100000 in
/-- X2_readInto -/
theorem c_X2_readInto (l : Launch) (G : GG) (q : Nat → Nat) (t : Nat → Nat) (pp : Nat) (k : Nat) (v : Nat → Int32) (ad : Nat → Nat) (pd : Nat → Int32) (N : Nat) (hn : N ≤ 64) (hk : k < 10) (hI : RI v) : Met l yX2_readInto wsX2_readInto ({ frames := 5, cells := 0, slots := 0, locals := 115 }) (pcM G [.ref (q 0), .ref (t 0), .ref (ad 0)] (List.flatten [[(q 0, .inr (2, [.int (nI pp), .int (nI k)]))], rW G t v, [(ad 0, .inr (1, [.ref (ad 1), .int (nI N)])), (ad 1, .inl (gI G, 64, .inl pd))]])) (qMU G (some (.int (rdR pd N 0 (0, k, v)))) (List.flatten [[(q 0, .inr (2, [.int (nI pp), .int (nI k)]))], rW G t v, [(ad 0, .inr (1, [.ref (ad 1), .int (nI N)])), (ad 1, .inl (gI G, 64, .inl pd))]]) (List.flatten [[(q 0, .inr (2, [.int (nI ((rdS pd N 0 (0, k, v)).1)), .int (nI ((rdS pd N 0 (0, k, v)).2.1))]))], rW G t ((rdS pd N 0 (0, k, v)).2.2), [(ad 0, .inr (1, [.ref (ad 1), .int (nI N)])), (ad 1, .inl (gI G, 64, .inl pd))]])) 0 0 (aA (List.flatten [[(q 0, .inr (2, [.int (nI pp), .int (nI k)]))], rW G t v, [(ad 0, .inr (1, [.ref (ad 1), .int (nI N)])), (ad 1, .inl (gI G, 64, .inl pd))]])) := by
  refine hd_MU (cc := cX2_readInto) (maxL := 4) (ret := some .int) (by decide) rfl (Nat.le_of_ble_eq_true rfl) ?_
  intro p e s m below meth c ls hx hb hr hts hown hlocks hml hP hKK hD hS hl
  have hl : lv_has ls 4 [(0, .ref (q 0)), (1, .ref (t 0)), (2, .ref (ad 0))] := hl
  refine lv_aload_n hx hb dX2_readInto_0 rfl (lv_at hl 0 rfl) ?_
  refine lv_iconst (v := 0) hx hb dX2_readInto_1 (by decide) ?_
  refine va_put (D := gD G) (ci := 2) (v := .int 0) (ty := .int) (C := RX2) (T := TX2) (N := 2) hx hb hts hin_X2_readInto_X2 tyX2 tyX2_ok nmX2 hown hKK.1 hP hD hS 0 rfl rfl 0 (by decide) (hts _ lk_X2_readInto_11) (fun _ h9 => h9) rfl (by decide +kernel) rfl rfl (Nat.le_of_ble_eq_true rfl) dX2_readInto_2 (fun H locs hP hD hS => ?_)
  have hP : gP G (List.flatten [[(q 0, .inr (2, [.int 0, .int (nI k)]))], rW G t v, [(ad 0, .inr (1, [.ref (ad 1), .int (nI N)])), (ad 1, .inl (gI G, 64, .inl pd))]]) H := hP
  have hD : va_D (aA (List.flatten [[(q 0, .inr (2, [.int (nI pp), .int (nI k)]))], rW G t v, [(ad 0, .inr (1, [.ref (ad 1), .int (nI N)])), (ad 1, .inl (gI G, 64, .inl pd))]])) (List.flatten [[(q 0, .inr (2, [.int 0, .int (nI k)]))], rW G t v, [(ad 0, .inr (1, [.ref (ad 1), .int (nI N)])), (ad 1, .inl (gI G, 64, .inl pd))]]) := hD
  refine lv_iconst (v := 0) hx hb dX2_readInto_5 (by decide) ?_
  refine lv_istore_n (lv' := [(3, .int 0), (0, .ref (q 0)), (1, .ref (t 0)), (2, .ref (ad 0))]) hx hb dX2_readInto_6 rfl hl (by decide) rfl (fun ls hl => ?_)
  have L_7 : ∀ (n_7 : Nat) (mm : Nat) (i : Nat) (s4 : S4), (i + mm = N) → (mm + 1 ≤ n_7) → (OK4 s4) → (rdR pd N 0 (0, k, v) = rdR pd mm i s4) → (rdS pd N 0 (0, k, v) = rdS pd mm i s4) → ∀ (H : Heap) (locs : List Loc), gP G (List.flatten [[(q 0, .inr (2, [.int (nI s4.1), .int (nI s4.2.1)]))], rW G t s4.2.2, [(ad 0, .inr (1, [.ref (ad 1), .int (nI N)])), (ad 1, .inl (gI G, 64, .inl pd))]]) H → va_D (aA (List.flatten [[(q 0, .inr (2, [.int (nI pp), .int (nI k)]))], rW G t v, [(ad 0, .inr (1, [.ref (ad 1), .int (nI N)])), (ad 1, .inl (gI G, 64, .inl pd))]])) (List.flatten [[(q 0, .inr (2, [.int (nI s4.1), .int (nI s4.2.1)]))], rW G t s4.2.2, [(ad 0, .inr (1, [.ref (ad 1), .int (nI N)])), (ad 1, .inl (gI G, 64, .inl pd))]]) → va_S (aA (List.flatten [[(q 0, .inr (2, [.int (nI pp), .int (nI k)]))], rW G t v, [(ad 0, .inr (1, [.ref (ad 1), .int (nI N)])), (ad 1, .inl (gI G, 64, .inl pd))]])) s.heap H locs → ∀ (ls : Array Slot), lv_has ls 4 [(3, .int (nI i)), (0, .ref (q 0)), (1, .ref (t 0)), (2, .ref (ad 0))] → W p l e ({ frames := 5, cells := 0, slots := 0, locals := 115 }) s m (List.toArray [.ref (q 0), .ref (t 0), .ref (ad 0)]) below meth c H locs 0 0 (MQ below (qMU G (some (.int (rdR pd N 0 (0, k, v)))) (List.flatten [[(q 0, .inr (2, [.int (nI pp), .int (nI k)]))], rW G t v, [(ad 0, .inr (1, [.ref (ad 1), .int (nI N)])), (ad 1, .inl (gI G, 64, .inl pd))]]) (List.flatten [[(q 0, .inr (2, [.int (nI ((rdS pd N 0 (0, k, v)).1)), .int (nI ((rdS pd N 0 (0, k, v)).2.1))]))], rW G t ((rdS pd N 0 (0, k, v)).2.2), [(ad 0, .inr (1, [.ref (ad 1), .int (nI N)])), (ad 1, .inl (gI G, 64, .inl pd))]])) (List.toArray [.ref (q 0), .ref (t 0), .ref (ad 0)]) s 0 0 (aA (List.flatten [[(q 0, .inr (2, [.int (nI pp), .int (nI k)]))], rW G t v, [(ad 0, .inr (1, [.ref (ad 1), .int (nI N)])), (ad 1, .inl (gI G, 64, .inl pd))]]))) (F0 m 7 ls []) := by
    intro n_7
    induction n_7 with
    | zero => intro mm i s4 h1 h2 h3 h4 h5; exact absurd (h2) (by omega)
    | succ n_7 ih_7 =>
      intro mm i s4 h1 h2 h3 h4 h5 H locs hP hD hS ls hl
      refine lv_iload_n hx hb dX2_readInto_7 rfl (lv_at hl 0 rfl) ?_
      refine lv_aload_n hx hb dX2_readInto_8 rfl (lv_at hl 3 rfl) ?_
      refine va_get (D := gD G) (ci := 1) (v := .int (nI N)) (C := RX1) (T := TX1) (N := 2) hx hb hts hin_X2_readInto_X1 hown hKK.1 hP 10 rfl rfl 1 (by decide) (hts _ lk_X2_readInto_15) (fun _ h9 => h9) rfl dX2_readInto_9 ?_
      refine lv_icmp_ge (tgt := 43) hx hb dX2_readInto_12 (by decide) (fun c_12 => ?_) (fun c_12 => ?_)
      · skip
        have c_12 : N ≤ i := (nI_leI (a := N) (b := i) (by omega) (by omega)).mp c_12
        have m0 : mm = 0 := by omega
        refine lv_aload_n hx hb dX2_readInto_43 rfl (lv_at hl 1 rfl) ?_
        refine va_get (D := gD G) (ci := 2) (v := .int (nI s4.1)) (C := RX2) (T := TX2) (N := 2) hx hb hts hin_X2_readInto_X2 hown hKK.1 hP 0 rfl rfl 0 (by decide) (hts _ lk_X2_readInto_11) (fun _ h9 => h9) rfl dX2_readInto_44 ?_
        refine lv_iconst (v := 3) hx hb dX2_readInto_47 (by decide) ?_
        have h7 := h3.1
        refine lv_icmp_eq (tgt := 60) hx hb dX2_readInto_48 (by decide) (fun c_48 => ?_) (fun c_48 => ?_)
        · skip
          have c_48 : s4.1 = 3 := (nI_eq (a := s4.1) (b := 3) (by omega) (by omega)).mp c_48
          refine lv_bipush (v := (-6)) hx hb dX2_readInto_60 (by decide) ?_
          refine lv_goto (tgt := 69) hx hb dX2_readInto_62 (by decide) ?_
          exact ex_MUi (w2 := (List.flatten [[(q 0, .inr (2, [.int (nI s4.1), .int (nI s4.2.1)]))], rW G t s4.2.2, [(ad 0, .inr (1, [.ref (ad 1), .int (nI N)])), (ad 1, .inl (gI G, 64, .inl pd))]])) hx hb hr hlocks hP hS dX2_readInto_69 (by rw [h4, m0, rdR_0y (by first | exact Or.inl c_48 | exact Or.inr c_57)]) (fun h => by rw [h5, m0]; exact h)
        · skip
          have c_48 : ¬ (s4.1 = 3) := fun q => c_48 ((nI_eq (a := s4.1) (b := 3) (by omega) (by omega)).mpr q)
          refine lv_aload_n hx hb dX2_readInto_51 rfl (lv_at hl 1 rfl) ?_
          refine va_get (D := gD G) (ci := 2) (v := .int (nI s4.1)) (C := RX2) (T := TX2) (N := 2) hx hb hts hin_X2_readInto_X2 hown hKK.1 hP 0 rfl rfl 0 (by decide) (hts _ lk_X2_readInto_11) (fun _ h9 => h9) rfl dX2_readInto_52 ?_
          refine lv_bipush (v := 6) hx hb dX2_readInto_55 (by decide) ?_
          refine lv_icmp_ne (tgt := 65) hx hb dX2_readInto_57 (by decide) (fun c_57 => ?_) (fun c_57 => ?_)
          · skip
            have c_57 : ¬ (s4.1 = 6) := fun q => c_57 ((nI_eq (a := s4.1) (b := 6) (by omega) (by omega)).mpr q)
            refine lv_aload_n hx hb dX2_readInto_65 rfl (lv_at hl 3 rfl) ?_
            refine va_get (D := gD G) (ci := 1) (v := .int (nI N)) (C := RX1) (T := TX1) (N := 2) hx hb hts hin_X2_readInto_X1 hown hKK.1 hP 10 rfl rfl 1 (by decide) (hts _ lk_X2_readInto_15) (fun _ h9 => h9) rfl dX2_readInto_66 ?_
            exact ex_MUi (w2 := (List.flatten [[(q 0, .inr (2, [.int (nI s4.1), .int (nI s4.2.1)]))], rW G t s4.2.2, [(ad 0, .inr (1, [.ref (ad 1), .int (nI N)])), (ad 1, .inl (gI G, 64, .inl pd))]])) hx hb hr hlocks hP hS dX2_readInto_69 (by rw [h4, m0, rdR_0n c_48 c_57, show i = N by omega]) (fun h => by rw [h5, m0]; exact h)
          · skip
            have c_57 : s4.1 = 6 := (nI_eq (a := s4.1) (b := 6) (by omega) (by omega)).mp c_57
            refine lv_bipush (v := (-6)) hx hb dX2_readInto_60 (by decide) ?_
            refine lv_goto (tgt := 69) hx hb dX2_readInto_62 (by decide) ?_
            exact ex_MUi (w2 := (List.flatten [[(q 0, .inr (2, [.int (nI s4.1), .int (nI s4.2.1)]))], rW G t s4.2.2, [(ad 0, .inr (1, [.ref (ad 1), .int (nI N)])), (ad 1, .inl (gI G, 64, .inl pd))]])) hx hb hr hlocks hP hS dX2_readInto_69 (by rw [h4, m0, rdR_0y (by first | exact Or.inl c_48 | exact Or.inr c_57)]) (fun h => by rw [h5, m0]; exact h)
      · skip
        have c_12 : ¬ (N ≤ i) := fun q => c_12 ((nI_leI (a := N) (b := i) (by omega) (by omega)).mpr q)
        refine lv_iload_n hx hb dX2_readInto_15 rfl (lv_at hl 0 rfl) ?_
        refine lv_bipush (v := 64) hx hb dX2_readInto_16 (by decide) ?_
        refine lv_icmp_ge (tgt := 43) hx hb dX2_readInto_18 (by decide) (fun c_18 => ?_) (fun c_18 => ?_)
        · skip
          have c_18 : 64 ≤ i := (nI_leI (a := 64) (b := i) (by omega) (by omega)).mp c_18
          exact absurd c_18 (by omega)
        · skip
          have c_18 : ¬ (64 ≤ i) := fun q => c_18 ((nI_leI (a := 64) (b := i) (by omega) (by omega)).mpr q)
          refine lv_aload_n hx hb dX2_readInto_21 rfl (lv_at hl 1 rfl) ?_
          refine lv_aload_n hx hb dX2_readInto_22 rfl (lv_at hl 2 rfl) ?_
          refine lv_aload_n hx hb dX2_readInto_23 rfl (lv_at hl 3 rfl) ?_
          refine va_get (D := gD G) (ci := 1) (v := .ref (ad 1)) (C := RX1) (T := TX1) (N := 2) hx hb hts hin_X2_readInto_X1 hown hKK.1 hP 10 rfl rfl 0 (by decide) (hts _ lk_X2_readInto_20) (fun _ h9 => h9) rfl dX2_readInto_24 ?_
          refine lv_iload_n hx hb dX2_readInto_27 rfl (lv_at hl 0 rfl) ?_
          refine va_ialdN (j := i) (v := pd i) hx hb hKK.1 hP 11 0 rfl rfl (rfl) (by omega) (by decide) (rfl) dX2_readInto_28 ?_
          refine mu_VF (ws := (List.flatten [[(q 0, .inr (2, [.int (nI s4.1), .int (nI s4.2.1)]))], rW G t s4.2.2, [(ad 0, .inr (1, [.ref (ad 1), .int (nI N)])), (ad 1, .inl (gI G, 64, .inl pd))]])) (ws' := (List.flatten [[(q 0, .inr (2, [.int (nI ((tk (s4.1, s4.2.1, s4.2.2) (pd i)).2.1)), .int (nI ((tk (s4.1, s4.2.1, s4.2.2) (pd i)).2.2.1))]))], rW G t ((tk (s4.1, s4.2.1, s4.2.2) (pd i)).2.2.2), [(ad 0, .inr (1, [.ref (ad 1), .int (nI N)])), (ad 1, .inl (gI G, 64, .inl pd))]])) (wr := (List.flatten [[(ad 0, .inr (1, [.ref (ad 1), .int (nI N)])), (ad 1, .inl (gI G, 64, .inl pd))]])) (As := [.ref (t 0), .int (pd i)]) (rest := []) ⟨hx, hb, hml, hown, hts⟩ (c_X2_takes l G q t s4.1 s4.2.1 s4.2.2 (pd i) h3.1 h3.2.1 h3.2.2) (cwV 2 hts gX2_readInto_X2_takes rfl rfl rfl (by decide +kernel) ⟨Nat.le_of_ble_eq_true rfl, Nat.le_of_ble_eq_true rfl⟩) (segs_app [[(q 0, .inr (2, [.int (nI s4.1), .int (nI s4.2.1)]))], rW G t s4.2.2] [[(ad 0, .inr (1, [.ref (ad 1), .int (nI N)])), (ad 1, .inl (gI G, 64, .inl pd))]]) (segs_app [[(q 0, .inr (2, [.int (nI ((tk (s4.1, s4.2.1, s4.2.2) (pd i)).2.1)), .int (nI ((tk (s4.1, s4.2.1, s4.2.2) (pd i)).2.2.1))]))], rW G t ((tk (s4.1, s4.2.1, s4.2.2) (pd i)).2.2.2)] [[(ad 0, .inr (1, [.ref (ad 1), .int (nI N)])), (ad 1, .inl (gI G, 64, .inl pd))]]) hP hKK hD hS (va_recv hKK.1 hP (ci := 2) (q0 := 0) rfl rfl) rfl hl.1 rfl (Nat.le_of_ble_eq_true rfl) dX2_readInto_29 (Nat.zero_le _) (Nat.zero_le _) rfl (fun H locs hP hD hS => ?_)
          refine lv_if_ne (tgt := 37) hx hb dX2_readInto_32 (by decide) (fun c_32 => ?_) (fun c_32 => ?_)
          · skip
            have c_32 := b2i_1 c_32
            refine lv_iinc (v := nI (i + 1)) (lv' := [(3, .int (nI (i + 1))), (0, .ref (q 0)), (1, .ref (t 0)), (2, .ref (ad 0))]) hx hb dX2_readInto_37 hl (k := 0) rfl (nI_1 _) (by decide) rfl (fun ls hl => ?_)
            refine lv_goto (tgt := 7) hx hb dX2_readInto_40 (by decide) ?_
            exact ih_7 (mm - 1) (i + 1) ((tk (s4.1, s4.2.1, s4.2.2) (pd i)).2) (by omega) (by omega) (tk_OK h3 _) (h4.trans (rdR_t (s := s4) (by omega) c_32).1) (h5.trans (rdR_t (s := s4) (by omega) c_32).2) _ _ (hP) (hD) hS _ (lv_sub hl [0, 1, 2, 3] rfl)
          · skip
            have c_32 := b2i_0 c_32
            refine lv_iload_n hx hb dX2_readInto_35 rfl (lv_at hl 0 rfl) ?_
            exact ex_MUi (w2 := (List.flatten [[(q 0, .inr (2, [.int (nI ((tk (s4.1, s4.2.1, s4.2.2) (pd i)).2.1)), .int (nI ((tk (s4.1, s4.2.1, s4.2.2) (pd i)).2.2.1))]))], rW G t ((tk (s4.1, s4.2.1, s4.2.2) (pd i)).2.2.2), [(ad 0, .inr (1, [.ref (ad 1), .int (nI N)])), (ad 1, .inl (gI G, 64, .inl pd))]])) hx hb hr hlocks hP hS dX2_readInto_36 (by rw [h4, (rdR_f (s := s4) (by omega) c_32).1]) (fun h => by rw [h5, (rdR_f (s := s4) (by omega) c_32).2]; exact h)
  exact L_7 (N + 1) N 0 (0, k, v) (by omega) (by omega) (⟨Nat.zero_le _, hk, hI⟩) (rfl) (rfl) _ _ (hP) (hD) hS _ (lv_sub hl [0, 1, 2, 3] rfl)
set_option maxRecDepth 20000 in
theorem hin_X5_put_X5 : ∀ w ∈ u_ws RX5 TX5 12, w ∈ wsX5_put := by decide +kernel
theorem lk_X5_put_92 : Cond.fieldLink RX5 92 "WeldedRelaysModel" "padLength" "I" ∈ wsX5_put := by decide +kernel
theorem lk_X5_put_25 : Cond.fieldLink RX5 25 "WeldedRelaysModel" "pad" "[I" ∈ wsX5_put := by decide +kernel
set_option maxHeartbeats 4000000 in
set_option maxRecDepth 100000 in
/-- X5_put -/
theorem c_X5_put (l : Launch) (G : GG) (a : Nat → Nat) (st : Nat → Int32) (kp : Nat → Int32) (hi : Nat → Int32) (sl : Nat → Int32) (sv : Nat → Int32) (pd : Nat → Int32) (td : Nat → Int32) (rc : Int32) (pt : Int32) (rt : Int32) (bn : Int32) (N : Nat) (x : Int64) (hn : N ≤ 64) : Met l yX5_put wsX5_put ({ frames := 1, cells := 0, slots := 0, locals := 22 }) (pcM G [.ref (a 0), .long x] (mW G a st kp hi sl sv pd td rc (nI N) pt rt bn)) (qMU G (some (.int (cond (!decide ((pmF 8 x 0 true).1 = 0) && (pmF 8 x 0 true).2.2 && decide ((pmF 8 x 0 true).2.1 = 0)) (cond (decide (N + (pmF 8 x 0 true).1 ≤ 64)) (nI (N + (pmF 8 x 0 true).1)) (-4)) (-2)))) (mW G a st kp hi sl sv pd td rc (nI N) pt rt bn) (mW G a st kp hi sl sv (cond (!decide ((pmF 8 x 0 true).1 = 0) && (pmF 8 x 0 true).2.2 && decide ((pmF 8 x 0 true).2.1 = 0) && decide (N + (pmF 8 x 0 true).1 ≤ 64)) (amG x N (pmF 8 x 0 true).1 (pmF 8 x 0 true).1 pd) pd) td rc (nI (cond (!decide ((pmF 8 x 0 true).1 = 0) && (pmF 8 x 0 true).2.2 && decide ((pmF 8 x 0 true).2.1 = 0) && decide (N + (pmF 8 x 0 true).1 ≤ 64)) (N + (pmF 8 x 0 true).1) N)) pt rt bn)) 0 0 (aA (mW G a st kp hi sl sv pd td rc (nI N) pt rt bn)) := by
  refine hd_MU (cc := cX5_put) (maxL := 8) (ret := some .int) (by decide) rfl (Nat.le_of_ble_eq_true rfl) ?_
  intro p e s m below meth c ls hx hb hr hts hown hlocks hml hP hKK hD hS hl
  have hl : lv_has ls 8 [(0, .ref (a 0)), (1, .long x)] := hl
  refine lv_iconst (v := 0) hx hb dX5_put_0 (by decide) ?_
  refine lv_istore_n (lv' := [(3, .int 0), (0, .ref (a 0)), (1, .long x)]) hx hb dX5_put_1 rfl hl (by decide) rfl (fun ls hl => ?_)
  refine lv_lload_n hx hb dX5_put_2 rfl (lv_at hl 2 rfl) ?_
  refine lv_lstore (lv' := [(4, .long x), (3, .int 0), (0, .ref (a 0)), (1, .long x)]) hx hb dX5_put_3 hl (by decide) rfl (fun ls hl => ?_)
  refine lv_iconst (v := 1) hx hb dX5_put_5 (by decide) ?_
  refine lv_istore (lv' := [(6, .int 1), (4, .long x), (3, .int 0), (0, .ref (a 0)), (1, .long x)]) hx hb dX5_put_6 hl (by decide) rfl (fun ls hl => ?_)
  have hl : lv_has ls 8 [(6, .int 1), (4, .long x), (3, .int (nI 0)), (0, .ref (a 0)), (1, .long x)] := by have e_l1 : 0 = (nI 0) := (rfl); rw [← e_l1]; exact hl
  have hl : lv_has ls 8 [(6, .int (b2i true)), (4, .long x), (3, .int (nI 0)), (0, .ref (a 0)), (1, .long x)] := by have e_l2 : 1 = (b2i true) := (rfl); rw [← e_l2]; exact hl
  have L_8 : ∀ (n_8 : Nat) (mm : Nat) (cc : Nat) (y : Int64) (z : Bool), (cc + mm = 8) → (mm + 1 ≤ n_8) → ((pmF 8 x 0 true) = pmF mm y cc z) → ∀ (H : Heap) (locs : List Loc), gP G (mW G a st kp hi sl sv pd td rc (nI N) pt rt bn) H → va_D (aA (mW G a st kp hi sl sv pd td rc (nI N) pt rt bn)) (mW G a st kp hi sl sv pd td rc (nI N) pt rt bn) → va_S (aA (mW G a st kp hi sl sv pd td rc (nI N) pt rt bn)) s.heap H locs → ∀ (ls : Array Slot), lv_has ls 8 [(6, .int (b2i z)), (4, .long y), (3, .int (nI cc)), (0, .ref (a 0)), (1, .long x)] → W p l e ({ frames := 1, cells := 0, slots := 0, locals := 22 }) s m (List.toArray [.ref (a 0), .long x]) below meth c H locs 0 0 (MQ below (qMU G (some (.int (cond (!decide ((pmF 8 x 0 true).1 = 0) && (pmF 8 x 0 true).2.2 && decide ((pmF 8 x 0 true).2.1 = 0)) (cond (decide (N + (pmF 8 x 0 true).1 ≤ 64)) (nI (N + (pmF 8 x 0 true).1)) (-4)) (-2)))) (mW G a st kp hi sl sv pd td rc (nI N) pt rt bn) (mW G a st kp hi sl sv (cond (!decide ((pmF 8 x 0 true).1 = 0) && (pmF 8 x 0 true).2.2 && decide ((pmF 8 x 0 true).2.1 = 0) && decide (N + (pmF 8 x 0 true).1 ≤ 64)) (amG x N (pmF 8 x 0 true).1 (pmF 8 x 0 true).1 pd) pd) td rc (nI (cond (!decide ((pmF 8 x 0 true).1 = 0) && (pmF 8 x 0 true).2.2 && decide ((pmF 8 x 0 true).2.1 = 0) && decide (N + (pmF 8 x 0 true).1 ≤ 64)) (N + (pmF 8 x 0 true).1) N)) pt rt bn)) (List.toArray [.ref (a 0), .long x]) s 0 0 (aA (mW G a st kp hi sl sv pd td rc (nI N) pt rt bn))) (F0 m 8 ls []) := by
    intro n_8
    induction n_8 with
    | zero => intro mm cc y z h1 h2 h4; exact absurd (h2) (by omega)
    | succ n_8 ih_8 =>
      intro mm cc y z h1 h2 h4 H locs hP hD hS ls hl
      refine lv_iload_n hx hb dX5_put_8 rfl (lv_at hl 2 rfl) ?_
      refine lv_bipush (v := 8) hx hb dX5_put_9 (by decide) ?_
      refine lv_icmp_ge (tgt := 67) hx hb dX5_put_11 (by decide) (fun c_11 => ?_) (fun c_11 => ?_)
      · skip
        have c_11 : 8 ≤ cc := (nI_leI (a := 8) (b := cc) (by omega) (by omega)).mp c_11
        have e8 : (pmF 8 x 0 true) = (cc, y, z) := by rw [h4, show mm = 0 by omega]; rfl
        refine lv_iload_n hx hb dX5_put_67 rfl (lv_at hl 2 rfl) ?_
        refine lv_if_eq (tgt := 83) hx hb dX5_put_68 (by decide) (fun c_68 => ?_) (fun c_68 => ?_)
        · skip
          have c68 : cc = 0 := (nI_eq (b := 0) (by omega) (by omega)).mp c_68
          refine lv_bipush (v := (-2)) hx hb dX5_put_83 (by decide) ?_
          exact ex_MUi (w2 := (mW G a st kp hi sl sv pd td rc (nI N) pt rt bn)) hx hb hr hlocks hP hS dX5_put_85 (by rw [e8]; dsimp only; rw [show decide (cc = 0) = true from decide_eq_true c68]; rfl) (fun h => by rw [e8]; dsimp only; rw [show decide (cc = 0) = true from decide_eq_true c68]; exact h)
        · skip
          have c68 : ¬ cc = 0 := fun q => c_68 (by rw [q]; rfl)
          refine lv_iload hx hb dX5_put_71 (lv_at hl 0 rfl) ?_
          refine lv_if_eq (tgt := 83) hx hb dX5_put_73 (by decide) (fun c_73 => ?_) (fun c_73 => ?_)
          · skip
            have c_73 := b2i_0 c_73
            refine lv_bipush (v := (-2)) hx hb dX5_put_83 (by decide) ?_
            exact ex_MUi (w2 := (mW G a st kp hi sl sv pd td rc (nI N) pt rt bn)) hx hb hr hlocks hP hS dX5_put_85 (by rw [e8]; dsimp only; rw [show decide (cc = 0) = false from decide_eq_false c68]; rw [show z = false from c_73]; rfl) (fun h => by rw [e8]; dsimp only; rw [show decide (cc = 0) = false from decide_eq_false c68]; rw [show z = false from c_73]; exact h)
          · skip
            have c_73 := b2i_1 c_73
            refine lv_lload hx hb dX5_put_76 (lv_at hl 1 rfl) ?_
            refine lv_lconst (v := 0) hx hb dX5_put_78 (by decide) ?_
            refine W.lcmp hx hb dX5_put_79 ?_
            refine lv_if_eq (tgt := 86) hx hb dX5_put_80 (by decide) (fun c_80 => ?_) (fun c_80 => ?_)
            · skip
              have c_80 := lcmp_0 c_80
              refine lv_aload_n hx hb dX5_put_86 rfl (lv_at hl 3 rfl) ?_
              refine va_get (D := gD G) (ci := 5) (v := .int (nI N)) (C := RX5) (T := TX5) (N := 12) hx hb hts hin_X5_put_X5 hown hKK.1 hP 0 rfl rfl 7 (by decide) (hts _ lk_X5_put_92) (fun _ h9 => h9) rfl dX5_put_87 ?_
              refine lv_iload_n hx hb dX5_put_90 rfl (lv_at hl 2 rfl) ?_
              refine lv_iadd hx hb dX5_put_91 ?_
              refine lv_asi (y := nI (N + cc)) (nI_add _ _) ?_
              refine lv_bipush (v := 64) hx hb dX5_put_92 (by decide) ?_
              refine lv_icmp_le (tgt := 100) hx hb dX5_put_94 (by decide) (fun c_94 => ?_) (fun c_94 => ?_)
              · skip
                have c_94 : (N + cc) ≤ 64 := (nI_leI (a := N + cc) (b := 64) (by omega) (by omega)).mp c_94
                refine lv_iload_n hx hb dX5_put_100 rfl (lv_at hl 2 rfl) ?_
                refine lv_iconst (v := 1) hx hb dX5_put_101 (by decide) ?_
                refine lv_isub hx hb dX5_put_102 ?_
                refine lv_istore (lv' := [(7, .int ((nI cc) - 1)), (6, .int (b2i z)), (4, .long y), (3, .int (nI cc)), (0, .ref (a 0)), (1, .long x)]) hx hb dX5_put_103 hl (by decide) rfl (fun ls hl => ?_)
                have L_105 : ∀ (n_105 : Nat) (i : Nat), (i ≤ cc) → (i + 1 ≤ n_105) → ∀ (H : Heap) (locs : List Loc), gP G (mW G a st kp hi sl sv (amG x N cc (cc - i) pd) td rc (nI (N + (cc - i))) pt rt bn) H → va_D (aA (mW G a st kp hi sl sv pd td rc (nI N) pt rt bn)) (mW G a st kp hi sl sv (amG x N cc (cc - i) pd) td rc (nI (N + (cc - i))) pt rt bn) → va_S (aA (mW G a st kp hi sl sv pd td rc (nI N) pt rt bn)) s.heap H locs → ∀ (ls : Array Slot), lv_has ls 8 [(7, .int (nI i - 1)), (6, .int (b2i z)), (4, .long y), (3, .int (nI cc)), (0, .ref (a 0)), (1, .long x)] → W p l e ({ frames := 1, cells := 0, slots := 0, locals := 22 }) s m (List.toArray [.ref (a 0), .long x]) below meth c H locs 0 0 (MQ below (qMU G (some (.int (cond (!decide ((pmF 8 x 0 true).1 = 0) && (pmF 8 x 0 true).2.2 && decide ((pmF 8 x 0 true).2.1 = 0)) (cond (decide (N + (pmF 8 x 0 true).1 ≤ 64)) (nI (N + (pmF 8 x 0 true).1)) (-4)) (-2)))) (mW G a st kp hi sl sv pd td rc (nI N) pt rt bn) (mW G a st kp hi sl sv (cond (!decide ((pmF 8 x 0 true).1 = 0) && (pmF 8 x 0 true).2.2 && decide ((pmF 8 x 0 true).2.1 = 0) && decide (N + (pmF 8 x 0 true).1 ≤ 64)) (amG x N (pmF 8 x 0 true).1 (pmF 8 x 0 true).1 pd) pd) td rc (nI (cond (!decide ((pmF 8 x 0 true).1 = 0) && (pmF 8 x 0 true).2.2 && decide ((pmF 8 x 0 true).2.1 = 0) && decide (N + (pmF 8 x 0 true).1 ≤ 64)) (N + (pmF 8 x 0 true).1) N)) pt rt bn)) (List.toArray [.ref (a 0), .long x]) s 0 0 (aA (mW G a st kp hi sl sv pd td rc (nI N) pt rt bn))) (F0 m 105 ls []) := by
                  intro n_105
                  induction n_105 with
                  | zero => intro i g1 g2; exact absurd (g2) (by omega)
                  | succ n_105 ih_105 =>
                    intro i g1 g2 H locs hP hD hS ls hl
                    refine lv_iload hx hb dX5_put_105 (lv_at hl 0 rfl) ?_
                    refine lv_if_lt (tgt := 147) hx hb dX5_put_107 (by decide) (fun c_107 => ?_) (fun c_107 => ?_)
                    · skip
                      have i0 := m1neg (by omega) c_107
                      refine lv_aload_n hx hb dX5_put_147 rfl (lv_at hl 4 rfl) ?_
                      refine va_get (D := gD G) (ci := 5) (v := .int (nI (N + (cc - i)))) (C := RX5) (T := TX5) (N := 12) hx hb hts hin_X5_put_X5 hown hKK.1 hP 0 rfl rfl 7 (by decide) (hts _ lk_X5_put_92) (fun _ h9 => h9) rfl dX5_put_148 ?_
                      exact ex_MUi (w2 := (mW G a st kp hi sl sv (amG x N cc (cc - i) pd) td rc (nI (N + (cc - i))) pt rt bn)) hx hb hr hlocks hP hS dX5_put_151 (by rw [e8]; dsimp only; rw [show decide (cc = 0) = false from decide_eq_false c68]; rw [show z = true from c_73]; rw [show decide (y = 0) = true from decide_eq_true c_80]; rw [show decide (N + cc ≤ 64) = true from decide_eq_true c_94]; rw [i0, Nat.sub_zero]; rfl) (fun h => by rw [e8]; dsimp only; rw [show decide (cc = 0) = false from decide_eq_false c68]; rw [show z = true from c_73]; rw [show decide (y = 0) = true from decide_eq_true c_80]; rw [show decide (N + cc ≤ 64) = true from decide_eq_true c_94]; rw [i0, Nat.sub_zero] at h; exact h)
                    · skip
                      have i0 := m1pos c_107
                      have hl : lv_has ls 8 [(7, .int (nI (i - 1))), (6, .int (b2i z)), (4, .long y), (3, .int (nI cc)), (0, .ref (a 0)), (1, .long x)] := by have e_l3 : (nI i - 1) = (nI (i - 1)) := (sub1 i0); rw [← e_l3]; exact hl
                      refine lv_aload_n hx hb dX5_put_110 rfl (lv_at hl 4 rfl) ?_
                      refine va_get (D := gD G) (ci := 5) (v := .ref (a 6)) (C := RX5) (T := TX5) (N := 12) hx hb hts hin_X5_put_X5 hown hKK.1 hP 0 rfl rfl 6 (by decide) (hts _ lk_X5_put_25) (fun _ h9 => h9) rfl dX5_put_111 ?_
                      refine lv_aload_n hx hb dX5_put_114 rfl (lv_at hl 4 rfl) ?_
                      refine va_get (D := gD G) (ci := 5) (v := .int (nI (N + (cc - i)))) (C := RX5) (T := TX5) (N := 12) hx hb hts hin_X5_put_X5 hown hKK.1 hP 0 rfl rfl 7 (by decide) (hts _ lk_X5_put_92) (fun _ h9 => h9) rfl dX5_put_115 ?_
                      refine lv_lload_n hx hb dX5_put_118 rfl (lv_at hl 5 rfl) ?_
                      refine lv_bipush (v := 8) hx hb dX5_put_119 (by decide) ?_
                      refine lv_iload hx hb dX5_put_121 (lv_at hl 0 rfl) ?_
                      refine lv_imul hx hb dX5_put_123 ?_
                      refine lv_asi (y := nI (8 * (i - 1))) (m8 _) ?_
                      refine lv_lushr (v := lushr x (nI (8 * (i - 1)))) hx hb dX5_put_124 rfl ?_
                      refine lv_ldc2 (v := 255) hx hb hown (hts (.constantLong RX5 139 (255)) (by decide +kernel)) dX5_put_125 ?_
                      refine lv_land hx hb dX5_put_128 ?_
                      refine lv_l2i (v := Int64.toInt32 ((lushr x (nI (8 * (i - 1)))) &&& 255)) hx hb dX5_put_129 rfl ?_
                      refine va_iastN (j := N + (cc - i)) (x := (Int64.toInt32 ((lushr x (nI (8 * (i - 1)))) &&& 255))) hx hb hKK.1 hP hD hS 6 0 rfl rfl (rfl) (by omega) (by decide) dX5_put_130 (fun H locs hP hD hS => ?_)
                      have hP : gP G (mW G a st kp hi sl sv (upd (amG x N cc (cc - i) pd) (N + (cc - i)) (Int64.toInt32 ((lushr x (nI (8 * (i - 1)))) &&& 255))) td rc (nI (N + (cc - i))) pt rt bn) H := hP
                      have hD : va_D (aA (mW G a st kp hi sl sv pd td rc (nI N) pt rt bn)) (mW G a st kp hi sl sv (upd (amG x N cc (cc - i) pd) (N + (cc - i)) (Int64.toInt32 ((lushr x (nI (8 * (i - 1)))) &&& 255))) td rc (nI (N + (cc - i))) pt rt bn) := hD
                      have ev_4 : upd (amG x N cc (cc - i) pd) (N + (cc - i)) (Int64.toInt32 ((lushr x (nI (8 * (i - 1)))) &&& 255)) = amG x N cc (cc - (i - 1)) pd := amG_s _ _ _ _ _ i0 g1
                      have hP : gP G (mW G a st kp hi sl sv (amG x N cc (cc - (i - 1)) pd) td rc (nI (N + (cc - i))) pt rt bn) H := by rw [← ev_4]; exact hP
                      have hD : va_D (aA (mW G a st kp hi sl sv pd td rc (nI N) pt rt bn)) (mW G a st kp hi sl sv (amG x N cc (cc - (i - 1)) pd) td rc (nI (N + (cc - i))) pt rt bn) := by rw [← ev_4]; exact hD
                      refine lv_aload_n hx hb dX5_put_131 rfl (lv_at hl 4 rfl) ?_
                      refine lv_dup hx hb dX5_put_132 rfl ?_
                      refine va_get (D := gD G) (ci := 5) (v := .int (nI (N + (cc - i)))) (C := RX5) (T := TX5) (N := 12) hx hb hts hin_X5_put_X5 hown hKK.1 hP 0 rfl rfl 7 (by decide) (hts _ lk_X5_put_92) (fun _ h9 => h9) rfl dX5_put_133 ?_
                      refine lv_iconst (v := 1) hx hb dX5_put_136 (by decide) ?_
                      refine lv_iadd hx hb dX5_put_137 ?_
                      refine va_put (D := gD G) (ci := 5) (v := .int ((nI (N + (cc - i))) + 1)) (ty := .int) (C := RX5) (T := TX5) (N := 12) hx hb hts hin_X5_put_X5 tyX5 tyX5_ok nmX5 hown hKK.1 hP hD hS 0 rfl rfl 7 (by decide) (hts _ lk_X5_put_92) (fun _ h9 => h9) rfl (by decide +kernel) rfl rfl (Nat.le_of_ble_eq_true rfl) dX5_put_138 (fun H locs hP hD hS => ?_)
                      have hP : gP G (mW G a st kp hi sl sv (amG x N cc (cc - (i - 1)) pd) td rc ((nI (N + (cc - i))) + 1) pt rt bn) H := hP
                      have hD : va_D (aA (mW G a st kp hi sl sv pd td rc (nI N) pt rt bn)) (mW G a st kp hi sl sv (amG x N cc (cc - (i - 1)) pd) td rc ((nI (N + (cc - i))) + 1) pt rt bn) := hD
                      have ev_5 : (nI (N + (cc - i))) + 1 = nI (N + (cc - (i - 1))) := by rw [nI_1]; congr 1; omega
                      have hP : gP G (mW G a st kp hi sl sv (amG x N cc (cc - (i - 1)) pd) td rc (nI (N + (cc - (i - 1)))) pt rt bn) H := by rw [← ev_5]; exact hP
                      have hD : va_D (aA (mW G a st kp hi sl sv pd td rc (nI N) pt rt bn)) (mW G a st kp hi sl sv (amG x N cc (cc - (i - 1)) pd) td rc (nI (N + (cc - (i - 1)))) pt rt bn) := by rw [← ev_5]; exact hD
                      refine lv_iinc (v := nI (i - 1) - 1) (lv' := [(7, .int (nI (i - 1) - 1)), (6, .int (b2i z)), (4, .long y), (3, .int (nI cc)), (0, .ref (a 0)), (1, .long x)]) hx hb dX5_put_141 hl (k := 0) rfl (addm1 _) (by decide) rfl (fun ls hl => ?_)
                      refine lv_goto (tgt := 105) hx hb dX5_put_144 (by decide) ?_
                      exact ih_105 (i - 1) (by omega) (by omega) _ _ (hP) (hD) hS _ (lv_sub hl [0, 1, 2, 3, 4, 5] rfl)
                exact L_105 (cc + 1) cc (by omega) (by omega) _ _ (by rw [Nat.sub_self, amG_0]; exact hP) (by rw [Nat.sub_self, amG_0]; exact hD) hS _ (lv_sub hl [0, 1, 2, 3, 4, 5] rfl)
              · skip
                have c_94 : ¬ ((N + cc) ≤ 64) := fun q => c_94 ((nI_leI (a := N + cc) (b := 64) (by omega) (by omega)).mpr q)
                refine lv_bipush (v := (-4)) hx hb dX5_put_97 (by decide) ?_
                exact ex_MUi (w2 := (mW G a st kp hi sl sv pd td rc (nI N) pt rt bn)) hx hb hr hlocks hP hS dX5_put_99 (by rw [e8]; dsimp only; rw [show decide (cc = 0) = false from decide_eq_false c68]; rw [show z = true from c_73]; rw [show decide (y = 0) = true from decide_eq_true c_80]; rw [show decide (N + cc ≤ 64) = false from decide_eq_false c_94]; rfl) (fun h => by rw [e8]; dsimp only; rw [show decide (cc = 0) = false from decide_eq_false c68]; rw [show z = true from c_73]; rw [show decide (y = 0) = true from decide_eq_true c_80]; rw [show decide (N + cc ≤ 64) = false from decide_eq_false c_94]; exact h)
            · skip
              have c_80 := lcmp_n c_80
              refine lv_bipush (v := (-2)) hx hb dX5_put_83 (by decide) ?_
              exact ex_MUi (w2 := (mW G a st kp hi sl sv pd td rc (nI N) pt rt bn)) hx hb hr hlocks hP hS dX5_put_85 (by rw [e8]; dsimp only; rw [show decide (cc = 0) = false from decide_eq_false c68]; rw [show z = true from c_73]; rw [show decide (y = 0) = false from decide_eq_false c_80]; rfl) (fun h => by rw [e8]; dsimp only; rw [show decide (cc = 0) = false from decide_eq_false c68]; rw [show z = true from c_73]; rw [show decide (y = 0) = false from decide_eq_false c_80]; exact h)
      · skip
        have c_11 : ¬ (8 ≤ cc) := fun q => c_11 ((nI_leI (a := 8) (b := cc) (by omega) (by omega)).mpr q)
        refine lv_lload hx hb dX5_put_14 (lv_at hl 1 rfl) ?_
        refine lv_ldc2 (v := 255) hx hb hown (hts (.constantLong RX5 139 (255)) (by decide +kernel)) dX5_put_16 ?_
        refine lv_land hx hb dX5_put_19 ?_
        refine lv_lconst (v := 0) hx hb dX5_put_20 (by decide) ?_
        refine W.lcmp hx hb dX5_put_21 ?_
        refine lv_if_eq (tgt := 67) hx hb dX5_put_22 (by decide) (fun c_22 => ?_) (fun c_22 => ?_)
        · skip
          have c_22 := lcmp_0 c_22
          have e8 : (pmF 8 x 0 true) = (cc, y, z) := by rw [h4, pmF_0 mm c_22]
          refine lv_iload_n hx hb dX5_put_67 rfl (lv_at hl 2 rfl) ?_
          refine lv_if_eq (tgt := 83) hx hb dX5_put_68 (by decide) (fun c_68 => ?_) (fun c_68 => ?_)
          · skip
            have c68 : cc = 0 := (nI_eq (b := 0) (by omega) (by omega)).mp c_68
            refine lv_bipush (v := (-2)) hx hb dX5_put_83 (by decide) ?_
            exact ex_MUi (w2 := (mW G a st kp hi sl sv pd td rc (nI N) pt rt bn)) hx hb hr hlocks hP hS dX5_put_85 (by rw [e8]; dsimp only; rw [show decide (cc = 0) = true from decide_eq_true c68]; rfl) (fun h => by rw [e8]; dsimp only; rw [show decide (cc = 0) = true from decide_eq_true c68]; exact h)
          · skip
            have c68 : ¬ cc = 0 := fun q => c_68 (by rw [q]; rfl)
            refine lv_iload hx hb dX5_put_71 (lv_at hl 0 rfl) ?_
            refine lv_if_eq (tgt := 83) hx hb dX5_put_73 (by decide) (fun c_73 => ?_) (fun c_73 => ?_)
            · skip
              have c_73 := b2i_0 c_73
              refine lv_bipush (v := (-2)) hx hb dX5_put_83 (by decide) ?_
              exact ex_MUi (w2 := (mW G a st kp hi sl sv pd td rc (nI N) pt rt bn)) hx hb hr hlocks hP hS dX5_put_85 (by rw [e8]; dsimp only; rw [show decide (cc = 0) = false from decide_eq_false c68]; rw [show z = false from c_73]; rfl) (fun h => by rw [e8]; dsimp only; rw [show decide (cc = 0) = false from decide_eq_false c68]; rw [show z = false from c_73]; exact h)
            · skip
              have c_73 := b2i_1 c_73
              refine lv_lload hx hb dX5_put_76 (lv_at hl 1 rfl) ?_
              refine lv_lconst (v := 0) hx hb dX5_put_78 (by decide) ?_
              refine W.lcmp hx hb dX5_put_79 ?_
              refine lv_if_eq (tgt := 86) hx hb dX5_put_80 (by decide) (fun c_80 => ?_) (fun c_80 => ?_)
              · skip
                have c_80 := lcmp_0 c_80
                refine lv_aload_n hx hb dX5_put_86 rfl (lv_at hl 3 rfl) ?_
                refine va_get (D := gD G) (ci := 5) (v := .int (nI N)) (C := RX5) (T := TX5) (N := 12) hx hb hts hin_X5_put_X5 hown hKK.1 hP 0 rfl rfl 7 (by decide) (hts _ lk_X5_put_92) (fun _ h9 => h9) rfl dX5_put_87 ?_
                refine lv_iload_n hx hb dX5_put_90 rfl (lv_at hl 2 rfl) ?_
                refine lv_iadd hx hb dX5_put_91 ?_
                refine lv_asi (y := nI (N + cc)) (nI_add _ _) ?_
                refine lv_bipush (v := 64) hx hb dX5_put_92 (by decide) ?_
                refine lv_icmp_le (tgt := 100) hx hb dX5_put_94 (by decide) (fun c_94 => ?_) (fun c_94 => ?_)
                · skip
                  have c_94 : (N + cc) ≤ 64 := (nI_leI (a := N + cc) (b := 64) (by omega) (by omega)).mp c_94
                  refine lv_iload_n hx hb dX5_put_100 rfl (lv_at hl 2 rfl) ?_
                  refine lv_iconst (v := 1) hx hb dX5_put_101 (by decide) ?_
                  refine lv_isub hx hb dX5_put_102 ?_
                  refine lv_istore (lv' := [(7, .int ((nI cc) - 1)), (6, .int (b2i z)), (4, .long y), (3, .int (nI cc)), (0, .ref (a 0)), (1, .long x)]) hx hb dX5_put_103 hl (by decide) rfl (fun ls hl => ?_)
                  have L_105 : ∀ (n_105 : Nat) (i : Nat), (i ≤ cc) → (i + 1 ≤ n_105) → ∀ (H : Heap) (locs : List Loc), gP G (mW G a st kp hi sl sv (amG x N cc (cc - i) pd) td rc (nI (N + (cc - i))) pt rt bn) H → va_D (aA (mW G a st kp hi sl sv pd td rc (nI N) pt rt bn)) (mW G a st kp hi sl sv (amG x N cc (cc - i) pd) td rc (nI (N + (cc - i))) pt rt bn) → va_S (aA (mW G a st kp hi sl sv pd td rc (nI N) pt rt bn)) s.heap H locs → ∀ (ls : Array Slot), lv_has ls 8 [(7, .int (nI i - 1)), (6, .int (b2i z)), (4, .long y), (3, .int (nI cc)), (0, .ref (a 0)), (1, .long x)] → W p l e ({ frames := 1, cells := 0, slots := 0, locals := 22 }) s m (List.toArray [.ref (a 0), .long x]) below meth c H locs 0 0 (MQ below (qMU G (some (.int (cond (!decide ((pmF 8 x 0 true).1 = 0) && (pmF 8 x 0 true).2.2 && decide ((pmF 8 x 0 true).2.1 = 0)) (cond (decide (N + (pmF 8 x 0 true).1 ≤ 64)) (nI (N + (pmF 8 x 0 true).1)) (-4)) (-2)))) (mW G a st kp hi sl sv pd td rc (nI N) pt rt bn) (mW G a st kp hi sl sv (cond (!decide ((pmF 8 x 0 true).1 = 0) && (pmF 8 x 0 true).2.2 && decide ((pmF 8 x 0 true).2.1 = 0) && decide (N + (pmF 8 x 0 true).1 ≤ 64)) (amG x N (pmF 8 x 0 true).1 (pmF 8 x 0 true).1 pd) pd) td rc (nI (cond (!decide ((pmF 8 x 0 true).1 = 0) && (pmF 8 x 0 true).2.2 && decide ((pmF 8 x 0 true).2.1 = 0) && decide (N + (pmF 8 x 0 true).1 ≤ 64)) (N + (pmF 8 x 0 true).1) N)) pt rt bn)) (List.toArray [.ref (a 0), .long x]) s 0 0 (aA (mW G a st kp hi sl sv pd td rc (nI N) pt rt bn))) (F0 m 105 ls []) := by
                    intro n_105
                    induction n_105 with
                    | zero => intro i g1 g2; exact absurd (g2) (by omega)
                    | succ n_105 ih_105 =>
                      intro i g1 g2 H locs hP hD hS ls hl
                      refine lv_iload hx hb dX5_put_105 (lv_at hl 0 rfl) ?_
                      refine lv_if_lt (tgt := 147) hx hb dX5_put_107 (by decide) (fun c_107 => ?_) (fun c_107 => ?_)
                      · skip
                        have i0 := m1neg (by omega) c_107
                        refine lv_aload_n hx hb dX5_put_147 rfl (lv_at hl 4 rfl) ?_
                        refine va_get (D := gD G) (ci := 5) (v := .int (nI (N + (cc - i)))) (C := RX5) (T := TX5) (N := 12) hx hb hts hin_X5_put_X5 hown hKK.1 hP 0 rfl rfl 7 (by decide) (hts _ lk_X5_put_92) (fun _ h9 => h9) rfl dX5_put_148 ?_
                        exact ex_MUi (w2 := (mW G a st kp hi sl sv (amG x N cc (cc - i) pd) td rc (nI (N + (cc - i))) pt rt bn)) hx hb hr hlocks hP hS dX5_put_151 (by rw [e8]; dsimp only; rw [show decide (cc = 0) = false from decide_eq_false c68]; rw [show z = true from c_73]; rw [show decide (y = 0) = true from decide_eq_true c_80]; rw [show decide (N + cc ≤ 64) = true from decide_eq_true c_94]; rw [i0, Nat.sub_zero]; rfl) (fun h => by rw [e8]; dsimp only; rw [show decide (cc = 0) = false from decide_eq_false c68]; rw [show z = true from c_73]; rw [show decide (y = 0) = true from decide_eq_true c_80]; rw [show decide (N + cc ≤ 64) = true from decide_eq_true c_94]; rw [i0, Nat.sub_zero] at h; exact h)
                      · skip
                        have i0 := m1pos c_107
                        have hl : lv_has ls 8 [(7, .int (nI (i - 1))), (6, .int (b2i z)), (4, .long y), (3, .int (nI cc)), (0, .ref (a 0)), (1, .long x)] := by have e_l6 : (nI i - 1) = (nI (i - 1)) := (sub1 i0); rw [← e_l6]; exact hl
                        refine lv_aload_n hx hb dX5_put_110 rfl (lv_at hl 4 rfl) ?_
                        refine va_get (D := gD G) (ci := 5) (v := .ref (a 6)) (C := RX5) (T := TX5) (N := 12) hx hb hts hin_X5_put_X5 hown hKK.1 hP 0 rfl rfl 6 (by decide) (hts _ lk_X5_put_25) (fun _ h9 => h9) rfl dX5_put_111 ?_
                        refine lv_aload_n hx hb dX5_put_114 rfl (lv_at hl 4 rfl) ?_
                        refine va_get (D := gD G) (ci := 5) (v := .int (nI (N + (cc - i)))) (C := RX5) (T := TX5) (N := 12) hx hb hts hin_X5_put_X5 hown hKK.1 hP 0 rfl rfl 7 (by decide) (hts _ lk_X5_put_92) (fun _ h9 => h9) rfl dX5_put_115 ?_
                        refine lv_lload_n hx hb dX5_put_118 rfl (lv_at hl 5 rfl) ?_
                        refine lv_bipush (v := 8) hx hb dX5_put_119 (by decide) ?_
                        refine lv_iload hx hb dX5_put_121 (lv_at hl 0 rfl) ?_
                        refine lv_imul hx hb dX5_put_123 ?_
                        refine lv_asi (y := nI (8 * (i - 1))) (m8 _) ?_
                        refine lv_lushr (v := lushr x (nI (8 * (i - 1)))) hx hb dX5_put_124 rfl ?_
                        refine lv_ldc2 (v := 255) hx hb hown (hts (.constantLong RX5 139 (255)) (by decide +kernel)) dX5_put_125 ?_
                        refine lv_land hx hb dX5_put_128 ?_
                        refine lv_l2i (v := Int64.toInt32 ((lushr x (nI (8 * (i - 1)))) &&& 255)) hx hb dX5_put_129 rfl ?_
                        refine va_iastN (j := N + (cc - i)) (x := (Int64.toInt32 ((lushr x (nI (8 * (i - 1)))) &&& 255))) hx hb hKK.1 hP hD hS 6 0 rfl rfl (rfl) (by omega) (by decide) dX5_put_130 (fun H locs hP hD hS => ?_)
                        have hP : gP G (mW G a st kp hi sl sv (upd (amG x N cc (cc - i) pd) (N + (cc - i)) (Int64.toInt32 ((lushr x (nI (8 * (i - 1)))) &&& 255))) td rc (nI (N + (cc - i))) pt rt bn) H := hP
                        have hD : va_D (aA (mW G a st kp hi sl sv pd td rc (nI N) pt rt bn)) (mW G a st kp hi sl sv (upd (amG x N cc (cc - i) pd) (N + (cc - i)) (Int64.toInt32 ((lushr x (nI (8 * (i - 1)))) &&& 255))) td rc (nI (N + (cc - i))) pt rt bn) := hD
                        have ev_7 : upd (amG x N cc (cc - i) pd) (N + (cc - i)) (Int64.toInt32 ((lushr x (nI (8 * (i - 1)))) &&& 255)) = amG x N cc (cc - (i - 1)) pd := amG_s _ _ _ _ _ i0 g1
                        have hP : gP G (mW G a st kp hi sl sv (amG x N cc (cc - (i - 1)) pd) td rc (nI (N + (cc - i))) pt rt bn) H := by rw [← ev_7]; exact hP
                        have hD : va_D (aA (mW G a st kp hi sl sv pd td rc (nI N) pt rt bn)) (mW G a st kp hi sl sv (amG x N cc (cc - (i - 1)) pd) td rc (nI (N + (cc - i))) pt rt bn) := by rw [← ev_7]; exact hD
                        refine lv_aload_n hx hb dX5_put_131 rfl (lv_at hl 4 rfl) ?_
                        refine lv_dup hx hb dX5_put_132 rfl ?_
                        refine va_get (D := gD G) (ci := 5) (v := .int (nI (N + (cc - i)))) (C := RX5) (T := TX5) (N := 12) hx hb hts hin_X5_put_X5 hown hKK.1 hP 0 rfl rfl 7 (by decide) (hts _ lk_X5_put_92) (fun _ h9 => h9) rfl dX5_put_133 ?_
                        refine lv_iconst (v := 1) hx hb dX5_put_136 (by decide) ?_
                        refine lv_iadd hx hb dX5_put_137 ?_
                        refine va_put (D := gD G) (ci := 5) (v := .int ((nI (N + (cc - i))) + 1)) (ty := .int) (C := RX5) (T := TX5) (N := 12) hx hb hts hin_X5_put_X5 tyX5 tyX5_ok nmX5 hown hKK.1 hP hD hS 0 rfl rfl 7 (by decide) (hts _ lk_X5_put_92) (fun _ h9 => h9) rfl (by decide +kernel) rfl rfl (Nat.le_of_ble_eq_true rfl) dX5_put_138 (fun H locs hP hD hS => ?_)
                        have hP : gP G (mW G a st kp hi sl sv (amG x N cc (cc - (i - 1)) pd) td rc ((nI (N + (cc - i))) + 1) pt rt bn) H := hP
                        have hD : va_D (aA (mW G a st kp hi sl sv pd td rc (nI N) pt rt bn)) (mW G a st kp hi sl sv (amG x N cc (cc - (i - 1)) pd) td rc ((nI (N + (cc - i))) + 1) pt rt bn) := hD
                        have ev_8 : (nI (N + (cc - i))) + 1 = nI (N + (cc - (i - 1))) := by rw [nI_1]; congr 1; omega
                        have hP : gP G (mW G a st kp hi sl sv (amG x N cc (cc - (i - 1)) pd) td rc (nI (N + (cc - (i - 1)))) pt rt bn) H := by rw [← ev_8]; exact hP
                        have hD : va_D (aA (mW G a st kp hi sl sv pd td rc (nI N) pt rt bn)) (mW G a st kp hi sl sv (amG x N cc (cc - (i - 1)) pd) td rc (nI (N + (cc - (i - 1)))) pt rt bn) := by rw [← ev_8]; exact hD
                        refine lv_iinc (v := nI (i - 1) - 1) (lv' := [(7, .int (nI (i - 1) - 1)), (6, .int (b2i z)), (4, .long y), (3, .int (nI cc)), (0, .ref (a 0)), (1, .long x)]) hx hb dX5_put_141 hl (k := 0) rfl (addm1 _) (by decide) rfl (fun ls hl => ?_)
                        refine lv_goto (tgt := 105) hx hb dX5_put_144 (by decide) ?_
                        exact ih_105 (i - 1) (by omega) (by omega) _ _ (hP) (hD) hS _ (lv_sub hl [0, 1, 2, 3, 4, 5] rfl)
                  exact L_105 (cc + 1) cc (by omega) (by omega) _ _ (by rw [Nat.sub_self, amG_0]; exact hP) (by rw [Nat.sub_self, amG_0]; exact hD) hS _ (lv_sub hl [0, 1, 2, 3, 4, 5] rfl)
                · skip
                  have c_94 : ¬ ((N + cc) ≤ 64) := fun q => c_94 ((nI_leI (a := N + cc) (b := 64) (by omega) (by omega)).mpr q)
                  refine lv_bipush (v := (-4)) hx hb dX5_put_97 (by decide) ?_
                  exact ex_MUi (w2 := (mW G a st kp hi sl sv pd td rc (nI N) pt rt bn)) hx hb hr hlocks hP hS dX5_put_99 (by rw [e8]; dsimp only; rw [show decide (cc = 0) = false from decide_eq_false c68]; rw [show z = true from c_73]; rw [show decide (y = 0) = true from decide_eq_true c_80]; rw [show decide (N + cc ≤ 64) = false from decide_eq_false c_94]; rfl) (fun h => by rw [e8]; dsimp only; rw [show decide (cc = 0) = false from decide_eq_false c68]; rw [show z = true from c_73]; rw [show decide (y = 0) = true from decide_eq_true c_80]; rw [show decide (N + cc ≤ 64) = false from decide_eq_false c_94]; exact h)
              · skip
                have c_80 := lcmp_n c_80
                refine lv_bipush (v := (-2)) hx hb dX5_put_83 (by decide) ?_
                exact ex_MUi (w2 := (mW G a st kp hi sl sv pd td rc (nI N) pt rt bn)) hx hb hr hlocks hP hS dX5_put_85 (by rw [e8]; dsimp only; rw [show decide (cc = 0) = false from decide_eq_false c68]; rw [show z = true from c_73]; rw [show decide (y = 0) = false from decide_eq_false c_80]; rfl) (fun h => by rw [e8]; dsimp only; rw [show decide (cc = 0) = false from decide_eq_false c68]; rw [show z = true from c_73]; rw [show decide (y = 0) = false from decide_eq_false c_80]; exact h)
        · skip
          have c_22 := lcmp_n c_22
          refine lv_iload hx hb dX5_put_25 (lv_at hl 0 rfl) ?_
          refine lv_if_eq (tgt := 51) hx hb dX5_put_27 (by decide) (fun c_27 => ?_) (fun c_27 => ?_)
          · skip
            have c_27 := b2i_0 c_27
            refine lv_iconst (v := 0) hx hb dX5_put_51 (by decide) ?_
            refine lv_istore (lv' := [(6, .int 0), (4, .long y), (3, .int (nI cc)), (0, .ref (a 0)), (1, .long x)]) hx hb dX5_put_52 hl (by decide) rfl (fun ls hl => ?_)
            refine lv_lload hx hb dX5_put_54 (lv_at hl 1 rfl) ?_
            refine lv_bipush (v := 8) hx hb dX5_put_56 (by decide) ?_
            refine lv_lushr (v := lushr y 8) hx hb dX5_put_58 rfl ?_
            refine lv_lstore (lv' := [(4, .long (lushr y 8)), (6, .int 0), (3, .int (nI cc)), (0, .ref (a 0)), (1, .long x)]) hx hb dX5_put_59 hl (by decide) rfl (fun ls hl => ?_)
            refine lv_iinc (v := nI (cc + 1)) (lv' := [(3, .int (nI (cc + 1))), (4, .long (lushr y 8)), (6, .int 0), (0, .ref (a 0)), (1, .long x)]) hx hb dX5_put_61 hl (k := 2) rfl (nI_1 _) (by decide) rfl (fun ls hl => ?_)
            refine lv_goto (tgt := 8) hx hb dX5_put_64 (by decide) ?_
            exact ih_8 (mm - 1) (cc + 1) (lushr y 8) false (by omega) (by omega) (h4.trans (pmF_s (by omega) c_22 (by rw [c_27] <;> rfl))) _ _ (hP) (hD) hS _ (lv_sub hl [2, 1, 0, 3, 4] rfl)
          · skip
            have c_27 := b2i_1 c_27
            refine lv_lload hx hb dX5_put_30 (lv_at hl 1 rfl) ?_
            refine lv_ldc2 (v := 255) hx hb hown (hts (.constantLong RX5 139 (255)) (by decide +kernel)) dX5_put_32 ?_
            refine lv_land hx hb dX5_put_35 ?_
            refine lv_l2i (v := Int64.toInt32 (y &&& 255)) hx hb dX5_put_36 rfl ?_
            refine lv_bipush (v := 33) hx hb dX5_put_37 (by decide) ?_
            refine lv_bipush (v := 126) hx hb dX5_put_39 (by decide) ?_
            refine ro_S (As := [.int (Int64.toInt32 (y &&& 255)), .int 33, .int 126]) (rest := []) ⟨hx, hb, hml, hown, hts⟩ (c_X5_within l G (Int64.toInt32 (y &&& 255)) 33 126) (va_cwS 3 hts gX5_put_X5_within rfl rfl rfl (by decide +kernel) ⟨Nat.le_of_ble_eq_true rfl, Nat.le_of_ble_eq_true rfl⟩) (show gP G [] _ from fun k q h => by simp at h) hKK rfl hl.1 rfl (Nat.le_of_ble_eq_true rfl) dX5_put_41 (Nat.zero_le _) (Nat.zero_le _) ?_
            refine lv_if_eq (tgt := 51) hx hb dX5_put_44 (by decide) (fun c_44 => ?_) (fun c_44 => ?_)
            · skip
              have c_44 := b2i_0 c_44
              have c_44 : inr (lst y) 33 126 = false := c_44
              refine lv_iconst (v := 0) hx hb dX5_put_51 (by decide) ?_
              refine lv_istore (lv' := [(6, .int 0), (4, .long y), (3, .int (nI cc)), (0, .ref (a 0)), (1, .long x)]) hx hb dX5_put_52 hl (by decide) rfl (fun ls hl => ?_)
              refine lv_lload hx hb dX5_put_54 (lv_at hl 1 rfl) ?_
              refine lv_bipush (v := 8) hx hb dX5_put_56 (by decide) ?_
              refine lv_lushr (v := lushr y 8) hx hb dX5_put_58 rfl ?_
              refine lv_lstore (lv' := [(4, .long (lushr y 8)), (6, .int 0), (3, .int (nI cc)), (0, .ref (a 0)), (1, .long x)]) hx hb dX5_put_59 hl (by decide) rfl (fun ls hl => ?_)
              refine lv_iinc (v := nI (cc + 1)) (lv' := [(3, .int (nI (cc + 1))), (4, .long (lushr y 8)), (6, .int 0), (0, .ref (a 0)), (1, .long x)]) hx hb dX5_put_61 hl (k := 2) rfl (nI_1 _) (by decide) rfl (fun ls hl => ?_)
              refine lv_goto (tgt := 8) hx hb dX5_put_64 (by decide) ?_
              exact ih_8 (mm - 1) (cc + 1) (lushr y 8) false (by omega) (by omega) (h4.trans (pmF_s (by omega) c_22 (by rw [c_27, c_44] <;> rfl))) _ _ (hP) (hD) hS _ (lv_sub hl [2, 1, 0, 3, 4] rfl)
            · skip
              have c_44 := b2i_1 c_44
              have c_44 : inr (lst y) 33 126 = true := c_44
              refine lv_iconst (v := 1) hx hb dX5_put_47 (by decide) ?_
              refine lv_goto (tgt := 52) hx hb dX5_put_48 (by decide) ?_
              refine lv_istore (lv' := [(6, .int 1), (4, .long y), (3, .int (nI cc)), (0, .ref (a 0)), (1, .long x)]) hx hb dX5_put_52 hl (by decide) rfl (fun ls hl => ?_)
              refine lv_lload hx hb dX5_put_54 (lv_at hl 1 rfl) ?_
              refine lv_bipush (v := 8) hx hb dX5_put_56 (by decide) ?_
              refine lv_lushr (v := lushr y 8) hx hb dX5_put_58 rfl ?_
              refine lv_lstore (lv' := [(4, .long (lushr y 8)), (6, .int 1), (3, .int (nI cc)), (0, .ref (a 0)), (1, .long x)]) hx hb dX5_put_59 hl (by decide) rfl (fun ls hl => ?_)
              refine lv_iinc (v := nI (cc + 1)) (lv' := [(3, .int (nI (cc + 1))), (4, .long (lushr y 8)), (6, .int 1), (0, .ref (a 0)), (1, .long x)]) hx hb dX5_put_61 hl (k := 2) rfl (nI_1 _) (by decide) rfl (fun ls hl => ?_)
              refine lv_goto (tgt := 8) hx hb dX5_put_64 (by decide) ?_
              exact ih_8 (mm - 1) (cc + 1) (lushr y 8) true (by omega) (by omega) (h4.trans (pmF_s (by omega) c_22 (by rw [c_27, c_44] <;> rfl))) _ _ (hP) (hD) hS _ (lv_sub hl [2, 1, 0, 3, 4] rfl)
  exact L_8 9 8 0 x true (by omega) (by omega) (rfl) _ _ (hP) (hD) hS _ (lv_sub hl [0, 1, 2, 3, 4] rfl)
