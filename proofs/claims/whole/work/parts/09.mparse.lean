set_option maxRecDepth 20000 in
theorem hin_X5_character_X5 : ∀ w ∈ u_ws RX5 TX5 12, w ∈ wsX5_character := by decide +kernel
theorem lk_X5_character_92 : Cond.fieldLink RX5 92 "WeldedRelaysModel" "padLength" "I" ∈ wsX5_character := by decide +kernel
theorem lk_X5_character_25 : Cond.fieldLink RX5 25 "WeldedRelaysModel" "pad" "[I" ∈ wsX5_character := by decide +kernel
set_option maxHeartbeats 4000000 in
set_option maxRecDepth 100000 in
/-- X5_character -/
theorem c_X5_character (l : Launch) (G : GG) (a : Nat → Nat) (st : Nat → Int32) (kp : Nat → Int32) (hi : Nat → Int32) (sl : Nat → Int32) (sv : Nat → Int32) (pd : Nat → Int32) (td : Nat → Int32) (rc : Int32) (pt : Int32) (rt : Int32) (bn : Int32) (N : Nat) (pp : Nat) (hn : N ≤ 64) (hp : pp < 100000) : Met l yX5_character wsX5_character ({ frames := 0, cells := 0, slots := 0, locals := 0 }) (pcW G [.ref (a 0), .int (nI pp)] (mW G a st kp hi sl sv pd td rc (nI N) pt rt bn)) (qRO (.int (chr pd N pp))) 0 0 nofree := by
  refine hd_RO (cc := cX5_character) (maxL := 2) (ret := some .int) (by decide) rfl (Nat.le_of_ble_eq_true rfl) ?_
  intro p e s m below meth c ls hx hb hr hts hown hlocks hml hP hKK hl
  have hl : lv_has ls 2 [(0, .ref (a 0)), (1, .int (nI pp))] := hl
  refine lv_iload_n hx hb dX5_character_0 rfl (lv_at hl 1 rfl) ?_
  refine lv_aload_n hx hb dX5_character_1 rfl (lv_at hl 0 rfl) ?_
  refine va_get (D := gD G) (ci := 5) (v := .int (nI N)) (C := RX5) (T := TX5) (N := 12) hx hb hts hin_X5_character_X5 hown hKK.1 hP 0 rfl rfl 7 (by decide) (hts _ lk_X5_character_92) (fun _ h9 => h9) rfl dX5_character_2 ?_
  refine lv_icmp_ge (tgt := 17) hx hb dX5_character_5 (by decide) (fun c_5 => ?_) (fun c_5 => ?_)
  · skip
    have c_5 : N ≤ pp := (nI_leI (a := N) (b := pp) (by omega) (by omega)).mp c_5
    refine lv_iconst (v := (-1)) hx hb dX5_character_17 (by decide) ?_
    exact ex_ROi hx hb hr hlocks rfl dX5_character_18 (by unfold chr; first | rw [if_pos (by omega)] | rw [if_neg (by omega)])
  · skip
    have c_5 : ¬ (N ≤ pp) := fun q => c_5 ((nI_leI (a := N) (b := pp) (by omega) (by omega)).mpr q)
    refine lv_aload_n hx hb dX5_character_8 rfl (lv_at hl 0 rfl) ?_
    refine va_get (D := gD G) (ci := 5) (v := .ref (a 6)) (C := RX5) (T := TX5) (N := 12) hx hb hts hin_X5_character_X5 hown hKK.1 hP 0 rfl rfl 6 (by decide) (hts _ lk_X5_character_25) (fun _ h9 => h9) rfl dX5_character_9 ?_
    refine lv_iload_n hx hb dX5_character_12 rfl (lv_at hl 1 rfl) ?_
    refine va_ialdN (j := pp) (v := pd pp) hx hb hKK.1 hP 6 0 rfl rfl (rfl) (by omega) (by decide) (rfl) dX5_character_13 ?_
    refine lv_goto (tgt := 18) hx hb dX5_character_14 (by decide) ?_
    exact ex_ROi hx hb hr hlocks rfl dX5_character_18 (by unfold chr; first | rw [if_pos (by omega)] | rw [if_neg (by omega)])
set_option maxRecDepth 20000 in
theorem hin_X5_isNext_X5 : ∀ w ∈ u_ws RX5 TX5 12, w ∈ wsX5_isNext := by decide +kernel
theorem lk_X5_isNext_89 : Cond.fieldLink RX5 89 "WeldedRelaysModel" "at" "I" ∈ wsX5_isNext := by decide +kernel
set_option maxHeartbeats 4000000 in
set_option maxRecDepth 100000 in
/-- X5_isNext -/
theorem c_X5_isNext (l : Launch) (G : GG) (a : Nat → Nat) (st : Nat → Int32) (kp : Nat → Int32) (hi : Nat → Int32) (sl : Nat → Int32) (sv : Nat → Int32) (pd : Nat → Int32) (td : Nat → Int32) (rc : Int32) (rt : Int32) (bn : Int32) (N : Nat) (pp : Nat) (c0 : Int32) (hn : N ≤ 64) (hp : pp < 100000) : Met l yX5_isNext wsX5_isNext ({ frames := 1, cells := 0, slots := 0, locals := 21 }) (pcM G [.ref (a 0), .int c0] (mW G a st kp hi sl sv pd td rc (nI N) (nI pp) rt bn)) (qMU G (some (.int (b2i (decide (chr pd N pp = c0))))) (mW G a st kp hi sl sv pd td rc (nI N) (nI pp) rt bn) (mW G a st kp hi sl sv pd td rc (nI N) (nI (nx pd N pp c0)) rt bn)) 0 0 (aA (mW G a st kp hi sl sv pd td rc (nI N) (nI pp) rt bn)) := by
  refine hd_MU (cc := cX5_isNext) (maxL := 3) (ret := some .boolean) (by decide) rfl (Nat.le_of_ble_eq_true rfl) ?_
  intro p e s m below meth c ls hx hb hr hts hown hlocks hml hP hKK hD hS hl
  have hl : lv_has ls 3 [(0, .ref (a 0)), (1, .int c0)] := hl
  refine lv_aload_n hx hb dX5_isNext_0 rfl (lv_at hl 0 rfl) ?_
  refine lv_aload_n hx hb dX5_isNext_1 rfl (lv_at hl 0 rfl) ?_
  refine va_get (D := gD G) (ci := 5) (v := .int (nI pp)) (C := RX5) (T := TX5) (N := 12) hx hb hts hin_X5_isNext_X5 hown hKK.1 hP 0 rfl rfl 8 (by decide) (hts _ lk_X5_isNext_89) (fun _ h9 => h9) rfl dX5_isNext_2 ?_
  refine ro_V (As := [.int (nI pp)]) (rest := []) ⟨hx, hb, hml, hown, hts⟩ (c_X5_character l G a st kp hi sl sv pd td rc (nI pp) rt bn N pp (by assumption) (by omega)) (cwV 1 hts gX5_isNext_X5_character rfl rfl rfl (by decide +kernel) ⟨Nat.le_of_ble_eq_true rfl, Nat.le_of_ble_eq_true rfl⟩) hP hKK (va_recv hKK.1 hP (ci := 5) (q0 := 0) rfl rfl) rfl hl.1 rfl (Nat.le_of_ble_eq_true rfl) dX5_isNext_5 (Nat.zero_le _) (Nat.zero_le _) ?_
  refine lv_iload_n hx hb dX5_isNext_8 rfl (lv_at hl 1 rfl) ?_
  refine lv_icmp_ne (tgt := 16) hx hb dX5_isNext_9 (by decide) (fun c_9 => ?_) (fun c_9 => ?_)
  · skip
    refine lv_iconst (v := 0) hx hb dX5_isNext_16 (by decide) ?_
    refine lv_istore_n (lv' := [(2, .int 0), (0, .ref (a 0)), (1, .int c0)]) hx hb dX5_isNext_17 rfl hl (by decide) rfl (fun ls hl => ?_)
    refine lv_aload_n hx hb dX5_isNext_18 rfl (lv_at hl 1 rfl) ?_
    refine lv_dup hx hb dX5_isNext_19 rfl ?_
    refine va_get (D := gD G) (ci := 5) (v := .int (nI pp)) (C := RX5) (T := TX5) (N := 12) hx hb hts hin_X5_isNext_X5 hown hKK.1 hP 0 rfl rfl 8 (by decide) (hts _ lk_X5_isNext_89) (fun _ h9 => h9) rfl dX5_isNext_20 ?_
    refine lv_iload_n hx hb dX5_isNext_23 rfl (lv_at hl 0 rfl) ?_
    refine lv_if_eq (tgt := 31) hx hb dX5_isNext_24 (by decide) (fun c_24 => ?_) (fun c_24 => ?_)
    · skip
      refine lv_iconst (v := 0) hx hb dX5_isNext_31 (by decide) ?_
      refine lv_iadd hx hb dX5_isNext_32 ?_
      refine va_put (D := gD G) (ci := 5) (v := .int ((nI pp) + 0)) (ty := .int) (C := RX5) (T := TX5) (N := 12) hx hb hts hin_X5_isNext_X5 tyX5 tyX5_ok nmX5 hown hKK.1 hP hD hS 0 rfl rfl 8 (by decide) (hts _ lk_X5_isNext_89) (fun _ h9 => h9) rfl (by decide +kernel) rfl rfl (Nat.le_of_ble_eq_true rfl) dX5_isNext_33 (fun H locs hP hD hS => ?_)
      have hP : gP G (mW G a st kp hi sl sv pd td rc (nI N) ((nI pp) + 0) rt bn) H := hP
      have hD : va_D (aA (mW G a st kp hi sl sv pd td rc (nI N) (nI pp) rt bn)) (mW G a st kp hi sl sv pd td rc (nI N) ((nI pp) + 0) rt bn) := hD
      refine lv_iload_n hx hb dX5_isNext_36 rfl (lv_at hl 0 rfl) ?_
      exact ex_MUz (b := decide (chr pd N pp = c0)) (w2 := (mW G a st kp hi sl sv pd td rc (nI N) ((nI pp) + 0) rt bn)) hx hb hr hlocks hP hS dX5_isNext_37 (by first | (rw [decide_eq_true (by assumption)]; rfl) | (rw [decide_eq_false (by assumption)]; rfl)) rfl (fun h => by unfold nx; first | (rw [if_pos (by assumption), ← nI_1]; exact h) | (rw [if_neg (by assumption)]; rw [Int32.add_zero] at h; exact h))
    · skip
      exact absurd c_24 (by decide)
  · skip
    refine lv_iconst (v := 1) hx hb dX5_isNext_12 (by decide) ?_
    refine lv_goto (tgt := 17) hx hb dX5_isNext_13 (by decide) ?_
    refine lv_istore_n (lv' := [(2, .int 1), (0, .ref (a 0)), (1, .int c0)]) hx hb dX5_isNext_17 rfl hl (by decide) rfl (fun ls hl => ?_)
    refine lv_aload_n hx hb dX5_isNext_18 rfl (lv_at hl 1 rfl) ?_
    refine lv_dup hx hb dX5_isNext_19 rfl ?_
    refine va_get (D := gD G) (ci := 5) (v := .int (nI pp)) (C := RX5) (T := TX5) (N := 12) hx hb hts hin_X5_isNext_X5 hown hKK.1 hP 0 rfl rfl 8 (by decide) (hts _ lk_X5_isNext_89) (fun _ h9 => h9) rfl dX5_isNext_20 ?_
    refine lv_iload_n hx hb dX5_isNext_23 rfl (lv_at hl 0 rfl) ?_
    refine lv_if_eq (tgt := 31) hx hb dX5_isNext_24 (by decide) (fun c_24 => ?_) (fun c_24 => ?_)
    · skip
      exact absurd c_24 (by decide)
    · skip
      refine lv_iconst (v := 1) hx hb dX5_isNext_27 (by decide) ?_
      refine lv_goto (tgt := 32) hx hb dX5_isNext_28 (by decide) ?_
      refine lv_iadd hx hb dX5_isNext_32 ?_
      refine va_put (D := gD G) (ci := 5) (v := .int ((nI pp) + 1)) (ty := .int) (C := RX5) (T := TX5) (N := 12) hx hb hts hin_X5_isNext_X5 tyX5 tyX5_ok nmX5 hown hKK.1 hP hD hS 0 rfl rfl 8 (by decide) (hts _ lk_X5_isNext_89) (fun _ h9 => h9) rfl (by decide +kernel) rfl rfl (Nat.le_of_ble_eq_true rfl) dX5_isNext_33 (fun H locs hP hD hS => ?_)
      have hP : gP G (mW G a st kp hi sl sv pd td rc (nI N) ((nI pp) + 1) rt bn) H := hP
      have hD : va_D (aA (mW G a st kp hi sl sv pd td rc (nI N) (nI pp) rt bn)) (mW G a st kp hi sl sv pd td rc (nI N) ((nI pp) + 1) rt bn) := hD
      refine lv_iload_n hx hb dX5_isNext_36 rfl (lv_at hl 0 rfl) ?_
      exact ex_MUz (b := decide (chr pd N pp = c0)) (w2 := (mW G a st kp hi sl sv pd td rc (nI N) ((nI pp) + 1) rt bn)) hx hb hr hlocks hP hS dX5_isNext_37 (by first | (rw [decide_eq_true (by assumption)]; rfl) | (rw [decide_eq_false (by assumption)]; rfl)) rfl (fun h => by unfold nx; first | (rw [if_pos (by assumption), ← nI_1]; exact h) | (rw [if_neg (by assumption)]; rw [Int32.add_zero] at h; exact h))
set_option maxHeartbeats 4000000 in
set_option maxRecDepth 100000 in
/-- X5_contactOf -/
theorem c_X5_contactOf (l : Launch) (G : GG) (x : Int32) : Met l yX5_contactOf wsX5_contactOf ({ frames := 1, cells := 0, slots := 0, locals := 22 }) (pcW G [.int x] ([])) (qRO (.int (ctc x))) 0 0 nofree := by
  refine hd_RO (cc := cX5_contactOf) (maxL := 1) (ret := some .int) (by decide) rfl (Nat.le_of_ble_eq_true rfl) ?_
  intro p e s m below meth c ls hx hb hr hts hown hlocks hml hP hKK hl
  have hl : lv_has ls 1 [(0, .int x)] := hl
  refine lv_iload_n hx hb dX5_contactOf_0 rfl (lv_at hl 0 rfl) ?_
  refine lv_bipush (v := 65) hx hb dX5_contactOf_1 (by decide) ?_
  refine lv_bipush (v := 74) hx hb dX5_contactOf_3 (by decide) ?_
  refine ro_S (As := [.int x, .int 65, .int 74]) (rest := []) ⟨hx, hb, hml, hown, hts⟩ (c_X5_within l G x 65 74) (va_cwS 3 hts gX5_contactOf_X5_within rfl rfl rfl (by decide +kernel) ⟨Nat.le_of_ble_eq_true rfl, Nat.le_of_ble_eq_true rfl⟩) (show gP G [] _ from fun k q h => by simp at h) hKK rfl hl.1 rfl (Nat.le_of_ble_eq_true rfl) dX5_contactOf_5 (Nat.zero_le _) (Nat.zero_le _) ?_
  refine lv_if_eq (tgt := 18) hx hb dX5_contactOf_8 (by decide) (fun c_8 => ?_) (fun c_8 => ?_)
  · skip
    have c_8 := b2i_0 c_8
    refine lv_iload_n hx hb dX5_contactOf_18 rfl (lv_at hl 0 rfl) ?_
    refine lv_bipush (v := 97) hx hb dX5_contactOf_19 (by decide) ?_
    refine lv_bipush (v := 102) hx hb dX5_contactOf_21 (by decide) ?_
    refine ro_S (As := [.int x, .int 97, .int 102]) (rest := []) ⟨hx, hb, hml, hown, hts⟩ (c_X5_within l G x 97 102) (va_cwS 3 hts gX5_contactOf_X5_within rfl rfl rfl (by decide +kernel) ⟨Nat.le_of_ble_eq_true rfl, Nat.le_of_ble_eq_true rfl⟩) (show gP G [] _ from fun k q h => by simp at h) hKK rfl hl.1 rfl (Nat.le_of_ble_eq_true rfl) dX5_contactOf_23 (Nat.zero_le _) (Nat.zero_le _) ?_
    refine lv_if_eq (tgt := 39) hx hb dX5_contactOf_26 (by decide) (fun c_26 => ?_) (fun c_26 => ?_)
    · skip
      have c_26 := b2i_0 c_26
      refine lv_iconst (v := (-1)) hx hb dX5_contactOf_39 (by decide) ?_
      exact ex_ROi hx hb hr hlocks rfl dX5_contactOf_40 (by rw [← ctc_m]; simp_all)
    · skip
      have c_26 := b2i_1 c_26
      refine lv_bipush (v := 10) hx hb dX5_contactOf_29 (by decide) ?_
      refine lv_iload_n hx hb dX5_contactOf_31 rfl (lv_at hl 0 rfl) ?_
      refine lv_iadd hx hb dX5_contactOf_32 ?_
      refine lv_bipush (v := 97) hx hb dX5_contactOf_33 (by decide) ?_
      refine lv_isub hx hb dX5_contactOf_35 ?_
      refine lv_goto (tgt := 40) hx hb dX5_contactOf_36 (by decide) ?_
      exact ex_ROi hx hb hr hlocks rfl dX5_contactOf_40 (by rw [← ctc_m]; simp_all)
  · skip
    have c_8 := b2i_1 c_8
    refine lv_iload_n hx hb dX5_contactOf_11 rfl (lv_at hl 0 rfl) ?_
    refine lv_bipush (v := 65) hx hb dX5_contactOf_12 (by decide) ?_
    refine lv_isub hx hb dX5_contactOf_14 ?_
    refine lv_goto (tgt := 40) hx hb dX5_contactOf_15 (by decide) ?_
    exact ex_ROi hx hb hr hlocks rfl dX5_contactOf_40 (by rw [← ctc_m]; simp_all)
