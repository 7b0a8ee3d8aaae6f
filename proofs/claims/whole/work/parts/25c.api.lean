set_option maxRecDepth 20000 in
theorem hin_X4_rest_X4 : ∀ w ∈ u_ws RX4 TX4 7, w ∈ wsX4_rest := by decide +kernel
theorem lk_X4_rest_16 : Cond.fieldLink RX4 16 "WeldedRelays" "trial" "LWeldedRelays$Room;" ∈ wsX4_rest := by decide +kernel
set_option maxRecDepth 20000 in
theorem hin_X4_rest_X3 : ∀ w ∈ u_ws RX3 TX3 14, w ∈ wsX4_rest := by decide +kernel
theorem lk_X4_rest_104 : Cond.fieldLink RX4 104 "WeldedRelays$Room" "moves" "I" ∈ wsX4_rest := by decide +kernel
theorem lk_X4_rest_12 : Cond.fieldLink RX4 12 "WeldedRelays" "room" "LWeldedRelays$Room;" ∈ wsX4_rest := by decide +kernel
theorem lk_X4_rest_149 : Cond.fieldLink RX4 149 "WeldedRelays$Room" "ticks" "I" ∈ wsX4_rest := by decide +kernel
set_option maxHeartbeats 4000000 in
set_option maxRecDepth 100000 in
/-- X4_rest -/
theorem c_X4_rest (l : Launch) (G : GG) (oa : Nat → Nat) (ra : Nat → Nat) (ta : Nat → Nat) (ad : Nat → Nat) (qa : Nat → Nat) (ha : Nat → Nat) (B : Nat → Nat → Nat) (S : Nat → Nat → Nat) (v : Nat → Int32) (u : Nat → Int32) (VH : Nat → Nat → Int32) (VS : Nat → Nat → Int32) (sv : Nat → Int32) (pd : Nat → Int32) (N : Nat) (pp : Nat) (k : Nat) (ol : Nat) (sz : Nat) (b : Int32) (x : Int32) (hn : N ≤ 64) (hk : k < 10) (hol : ol < 6) (hsz : sz ≤ 6) (hI : RI v) (hU : RI u) : Met l yX4_rest wsX4_rest ({ frames := 6, cells := 0, slots := 0, locals := 129 }) (pcM G [.ref (oa 0), .int b, .int x] (List.flatten [bMw G oa ra ta ad qa ha S sv, bPw G ad pd N, bQw qa pp k, bHw G ha B ol sz, rW G ra v, rW G ta u, fam G 6 B VH, fam G 2 S VS])) (qMU G (some (.int (cond (inr b 0 63 && inr x 0 2) (rsI v b x) (-2)))) (List.flatten [bMw G oa ra ta ad qa ha S sv, bPw G ad pd N, bQw qa pp k, bHw G ha B ol sz, rW G ra v, rW G ta u, fam G 6 B VH, fam G 2 S VS]) (List.flatten [bMw G oa ra ta ad qa ha S sv, bPw G ad pd N, bQw qa pp k, bHw G ha B ol sz, rW G ra v, rW G ta (cond (inr b 0 63 && inr x 0 2) (stlV 200 (upd v 2 b)) (u)), fam G 6 B VH, fam G 2 S VS])) 0 0 (aA (List.flatten [bMw G oa ra ta ad qa ha S sv, bPw G ad pd N, bQw qa pp k, bHw G ha B ol sz, rW G ra v, rW G ta u, fam G 6 B VH, fam G 2 S VS])) := by
  refine hd_MU (cc := cX4_rest) (maxL := 4) (ret := some .int) (by decide) rfl (Nat.le_of_ble_eq_true rfl) ?_
  intro p e s m below meth c ls hx hb hr hts hown hlocks hml hP hKK hD hS hl
  have hl : lv_has ls 4 [(0, .ref (oa 0)), (1, .int b), (2, .int x)] := hl
  refine lv_iload_n hx hb dX4_rest_0 rfl (lv_at hl 1 rfl) ?_
  refine ro_S (As := [.int b]) (rest := []) ⟨hx, hb, hml, hown, hts⟩ (c_X4_isButtonSet l G b) (va_cwS 1 hts gX4_rest_X4_isButtonSet rfl rfl rfl (by decide +kernel) ⟨Nat.le_of_ble_eq_true rfl, Nat.le_of_ble_eq_true rfl⟩) (show gP G [] _ from fun k q h => by simp at h) hKK rfl hl.1 rfl (Nat.le_of_ble_eq_true rfl) dX4_rest_1 (Nat.zero_le _) (Nat.zero_le _) ?_
  refine lv_if_eq (tgt := 16) hx hb dX4_rest_4 (by decide) (fun c_4 => ?_) (fun c_4 => ?_)
  · skip
    have c_4 := b2i_0 c_4
    refine lv_bipush (v := (-2)) hx hb dX4_rest_16 (by decide) ?_
    exact ex_MUi (w2 := (List.flatten [bMw G oa ra ta ad qa ha S sv, bPw G ad pd N, bQw qa pp k, bHw G ha B ol sz, rW G ra v, rW G ta u, fam G 6 B VH, fam G 2 S VS])) hx hb hr hlocks hP hS dX4_rest_18 (by rw [c_4] <;> rfl) (fun h => by rw [c_4]; exact h)
  · skip
    have c_4 := b2i_1 c_4
    refine lv_iload_n hx hb dX4_rest_7 rfl (lv_at hl 2 rfl) ?_
    refine lv_iconst (v := 0) hx hb dX4_rest_8 (by decide) ?_
    refine lv_iconst (v := 2) hx hb dX4_rest_9 (by decide) ?_
    refine ro_S (As := [.int x, .int 0, .int 2]) (rest := []) ⟨hx, hb, hml, hown, hts⟩ (c_X4_isWithin l G x 0 2) (va_cwS 3 hts gX4_rest_X4_isWithin rfl rfl rfl (by decide +kernel) ⟨Nat.le_of_ble_eq_true rfl, Nat.le_of_ble_eq_true rfl⟩) (show gP G [] _ from fun k q h => by simp at h) hKK rfl hl.1 rfl (Nat.le_of_ble_eq_true rfl) dX4_rest_10 (Nat.zero_le _) (Nat.zero_le _) ?_
    refine lv_if_ne (tgt := 19) hx hb dX4_rest_13 (by decide) (fun c_13 => ?_) (fun c_13 => ?_)
    · skip
      have c_13 := b2i_1 c_13
      refine lv_aload_n hx hb dX4_rest_19 rfl (lv_at hl 0 rfl) ?_
      refine lv_iload_n hx hb dX4_rest_20 rfl (lv_at hl 1 rfl) ?_
      refine mu_V (As := [.int b]) (rest := []) ⟨hx, hb, hml, hown, hts⟩ (c_X4_tryButtons l G oa ra ta ad qa ha B S v u VH VS sv pd N pp k ol sz b (by assumption) (by assumption) (by omega) (by omega) (by assumption) (by assumption)) (cwV 1 hts gX4_rest_X4_tryButtons rfl rfl rfl (by decide +kernel) ⟨Nat.le_of_ble_eq_true rfl, Nat.le_of_ble_eq_true rfl⟩) hP hKK hD hS (va_recv hKK.1 hP (ci := 4) (q0 := 0) rfl rfl) rfl hl.1 rfl (Nat.le_of_ble_eq_true rfl) dX4_rest_21 (Nat.zero_le _) (Nat.zero_le _) (flat_addr rfl) (fun H locs hP hD hS => ?_)
      refine lv_aload_n hx hb dX4_rest_24 rfl (lv_at hl 0 rfl) ?_
      refine va_get (D := gD G) (ci := 4) (v := .ref (ta 0)) (C := RX4) (T := TX4) (N := 7) hx hb hts hin_X4_rest_X4 hown hKK.1 hP 0 rfl rfl 1 (by decide) (hts _ lk_X4_rest_16) (fun _ h9 => h9) rfl dX4_rest_25 ?_
      refine mu_VF (ws := (List.flatten [bMw G oa ra ta ad qa ha S sv, bPw G ad pd N, bQw qa pp k, bHw G ha B ol sz, rW G ra v, rW G ta (upd v 2 b), fam G 6 B VH, fam G 2 S VS])) (ws' := (List.flatten [bMw G oa ra ta ad qa ha S sv, bPw G ad pd N, bQw qa pp k, bHw G ha B ol sz, rW G ra v, rW G ta (stlV 200 (upd v 2 b)), fam G 6 B VH, fam G 2 S VS])) (wr := (List.flatten [bMw G oa ra ta ad qa ha S sv, bPw G ad pd N, bQw qa pp k, bHw G ha B ol sz, rW G ra v, fam G 6 B VH, fam G 2 S VS])) (As := []) (rest := []) ⟨hx, hb, hml, hown, hts⟩ (c_X3_upAtRest l G ta (upd v 2 b) (RI_lo hI (by decide) _)) (cwV 0 hts gX4_rest_X3_upAtRest rfl rfl rfl (by decide +kernel) ⟨Nat.le_of_ble_eq_true rfl, Nat.le_of_ble_eq_true rfl⟩) (segs_oneN [bMw G oa ra ta ad qa ha S sv, bPw G ad pd N, bQw qa pp k, bHw G ha B ol sz, rW G ra v, rW G ta (upd v 2 b), fam G 6 B VH, fam G 2 S VS] 5 [0, 1, 2, 3, 4, 6, 7] 8 (by decide) rfl rfl rfl) (segs_oneN [bMw G oa ra ta ad qa ha S sv, bPw G ad pd N, bQw qa pp k, bHw G ha B ol sz, rW G ra v, rW G ta (stlV 200 (upd v 2 b)), fam G 6 B VH, fam G 2 S VS] 5 [0, 1, 2, 3, 4, 6, 7] 8 (by decide) rfl rfl rfl) hP hKK hD hS (va_recv hKK.1 hP (ci := 3) (q0 := 17) rfl rfl) rfl hl.1 rfl (Nat.le_of_ble_eq_true rfl) dX4_rest_28 (Nat.zero_le _) (Nat.zero_le _) rfl (fun H locs hP hD hS => ?_)
      refine lv_istore_n (lv' := [(3, .int (upR (upd v 2 b))), (0, .ref (oa 0)), (1, .int b), (2, .int x)]) hx hb dX4_rest_31 rfl hl (by decide) rfl (fun ls hl => ?_)
      refine lv_iload_n hx hb dX4_rest_32 rfl (lv_at hl 0 rfl) ?_
      refine lv_bipush (v := (-6)) hx hb dX4_rest_33 (by decide) ?_
      refine lv_icmp_eq (tgt := 42) hx hb dX4_rest_35 (by decide) (fun c_35 => ?_) (fun c_35 => ?_)
      · skip
        refine lv_iload_n hx hb dX4_rest_42 rfl (lv_at hl 0 rfl) ?_
        exact ex_MUi (w2 := (List.flatten [bMw G oa ra ta ad qa ha S sv, bPw G ad pd N, bQw qa pp k, bHw G ha B ol sz, rW G ra v, rW G ta (stlV 200 (upd v 2 b)), fam G 6 B VH, fam G 2 S VS])) hx hb hr hlocks hP hS dX4_rest_43 (by rw [c_4, c_13]; exact congrArg (fun q => some (Value.int q)) (if_pos (Or.inl c_35)).symm) (fun h => by rw [c_4, c_13]; exact h)
      · skip
        refine lv_iload_n hx hb dX4_rest_38 rfl (lv_at hl 3 rfl) ?_
        refine lv_if_ne (tgt := 44) hx hb dX4_rest_39 (by decide) (fun c_39 => ?_) (fun c_39 => ?_)
        · skip
          refine lv_iload_n hx hb dX4_rest_44 rfl (lv_at hl 3 rfl) ?_
          refine lv_iconst (v := 1) hx hb dX4_rest_45 (by decide) ?_
          refine lv_icmp_ne (tgt := 67) hx hb dX4_rest_46 (by decide) (fun c_46 => ?_) (fun c_46 => ?_)
          · skip
            refine lv_aload_n hx hb dX4_rest_67 rfl (lv_at hl 1 rfl) ?_
            refine va_get (D := gD G) (ci := 4) (v := .ref (ta 0)) (C := RX4) (T := TX4) (N := 7) hx hb hts hin_X4_rest_X4 hown hKK.1 hP 0 rfl rfl 1 (by decide) (hts _ lk_X4_rest_16) (fun _ h9 => h9) rfl dX4_rest_68 ?_
            refine va_get (D := gD G) (ci := 3) (v := .int ((stlV 200 (upd v 2 b)) 4)) (C := RX3) (T := TX3) (N := 14) hx hb hts hin_X4_rest_X3 hown hKK.1 hP 17 rfl rfl 5 (by decide) (hts _ lk_X4_rest_104) (fun _ h9 => h9) rfl dX4_rest_71 ?_
            refine lv_aload_n hx hb dX4_rest_74 rfl (lv_at hl 1 rfl) ?_
            refine va_get (D := gD G) (ci := 4) (v := .ref (ra 0)) (C := RX4) (T := TX4) (N := 7) hx hb hts hin_X4_rest_X4 hown hKK.1 hP 0 rfl rfl 0 (by decide) (hts _ lk_X4_rest_12) (fun _ h9 => h9) rfl dX4_rest_75 ?_
            refine va_get (D := gD G) (ci := 3) (v := .int (v 4)) (C := RX3) (T := TX3) (N := 14) hx hb hts hin_X4_rest_X3 hown hKK.1 hP 8 rfl rfl 5 (by decide) (hts _ lk_X4_rest_104) (fun _ h9 => h9) rfl dX4_rest_78 ?_
            refine lv_isub hx hb dX4_rest_81 ?_
            exact ex_MUi (w2 := (List.flatten [bMw G oa ra ta ad qa ha S sv, bPw G ad pd N, bQw qa pp k, bHw G ha B ol sz, rW G ra v, rW G ta (stlV 200 (upd v 2 b)), fam G 6 B VH, fam G 2 S VS])) hx hb hr hlocks hP hS dX4_rest_82 (by rw [c_4, c_13]; exact congrArg (fun q => some (Value.int q)) ((if_neg (fun q => q.elim c_35 c_39)).trans (if_neg c_46)).symm) (fun h => by rw [c_4, c_13]; exact h)
          · skip
            refine lv_aload_n hx hb dX4_rest_49 rfl (lv_at hl 1 rfl) ?_
            refine va_get (D := gD G) (ci := 4) (v := .ref (ta 0)) (C := RX4) (T := TX4) (N := 7) hx hb hts hin_X4_rest_X4 hown hKK.1 hP 0 rfl rfl 1 (by decide) (hts _ lk_X4_rest_16) (fun _ h9 => h9) rfl dX4_rest_50 ?_
            refine va_get (D := gD G) (ci := 3) (v := .int ((stlV 200 (upd v 2 b)) 3)) (C := RX3) (T := TX3) (N := 14) hx hb hts hin_X4_rest_X3 hown hKK.1 hP 17 rfl rfl 4 (by decide) (hts _ lk_X4_rest_149) (fun _ h9 => h9) rfl dX4_rest_53 ?_
            refine lv_aload_n hx hb dX4_rest_56 rfl (lv_at hl 1 rfl) ?_
            refine va_get (D := gD G) (ci := 4) (v := .ref (ra 0)) (C := RX4) (T := TX4) (N := 7) hx hb hts hin_X4_rest_X4 hown hKK.1 hP 0 rfl rfl 0 (by decide) (hts _ lk_X4_rest_12) (fun _ h9 => h9) rfl dX4_rest_57 ?_
            refine va_get (D := gD G) (ci := 3) (v := .int (v 3)) (C := RX3) (T := TX3) (N := 14) hx hb hts hin_X4_rest_X3 hown hKK.1 hP 8 rfl rfl 4 (by decide) (hts _ lk_X4_rest_149) (fun _ h9 => h9) rfl dX4_rest_60 ?_
            refine lv_isub hx hb dX4_rest_63 ?_
            refine lv_goto (tgt := 82) hx hb dX4_rest_64 (by decide) ?_
            exact ex_MUi (w2 := (List.flatten [bMw G oa ra ta ad qa ha S sv, bPw G ad pd N, bQw qa pp k, bHw G ha B ol sz, rW G ra v, rW G ta (stlV 200 (upd v 2 b)), fam G 6 B VH, fam G 2 S VS])) hx hb hr hlocks hP hS dX4_rest_82 (by rw [c_4, c_13]; exact congrArg (fun q => some (Value.int q)) ((if_neg (fun q => q.elim c_35 c_39)).trans (if_pos c_46)).symm) (fun h => by rw [c_4, c_13]; exact h)
        · skip
          refine lv_iload_n hx hb dX4_rest_42 rfl (lv_at hl 0 rfl) ?_
          exact ex_MUi (w2 := (List.flatten [bMw G oa ra ta ad qa ha S sv, bPw G ad pd N, bQw qa pp k, bHw G ha B ol sz, rW G ra v, rW G ta (stlV 200 (upd v 2 b)), fam G 6 B VH, fam G 2 S VS])) hx hb hr hlocks hP hS dX4_rest_43 (by rw [c_4, c_13]; exact congrArg (fun q => some (Value.int q)) (if_pos (Or.inr c_39)).symm) (fun h => by rw [c_4, c_13]; exact h)
    · skip
      have c_13 := b2i_0 c_13
      refine lv_bipush (v := (-2)) hx hb dX4_rest_16 (by decide) ?_
      exact ex_MUi (w2 := (List.flatten [bMw G oa ra ta ad qa ha S sv, bPw G ad pd N, bQw qa pp k, bHw G ha B ol sz, rW G ra v, rW G ta u, fam G 6 B VH, fam G 2 S VS])) hx hb hr hlocks hP hS dX4_rest_18 (by rw [c_4, c_13] <;> rfl) (fun h => by rw [c_4, c_13]; exact h)
set_option maxRecDepth 20000 in
theorem hin_X4_race_X4 : ∀ w ∈ u_ws RX4 TX4 7, w ∈ wsX4_race := by decide +kernel
theorem lk_X4_race_16 : Cond.fieldLink RX4 16 "WeldedRelays" "trial" "LWeldedRelays$Room;" ∈ wsX4_race := by decide +kernel
set_option maxHeartbeats 4000000 in
set_option maxRecDepth 100000 in
/-- X4_race -/
theorem c_X4_race (l : Launch) (G : GG) (oa : Nat → Nat) (ra : Nat → Nat) (ta : Nat → Nat) (ad : Nat → Nat) (qa : Nat → Nat) (ha : Nat → Nat) (B : Nat → Nat → Nat) (S : Nat → Nat → Nat) (v : Nat → Int32) (u : Nat → Int32) (VH : Nat → Nat → Int32) (VS : Nat → Nat → Int32) (sv : Nat → Int32) (pd : Nat → Int32) (N : Nat) (pp : Nat) (k : Nat) (ol : Nat) (sz : Nat) (b : Int32) (hn : N ≤ 64) (hk : k < 10) (hol : ol < 6) (hsz : sz ≤ 6) (hI : RI v) (hU : RI u) : Met l yX4_race wsX4_race ({ frames := 6, cells := 0, slots := 0, locals := 129 }) (pcM G [.ref (oa 0), .int b] (List.flatten [bMw G oa ra ta ad qa ha S sv, bPw G ad pd N, bQw qa pp k, bHw G ha B ol sz, rW G ra v, rW G ta u, fam G 6 B VH, fam G 2 S VS])) (qMU G (some (.int (cond (inr b 0 63) (b2i (!decide (upR (upd v 2 b) = upR (onesN 10 (upd v 2 b))))) (-2)))) (List.flatten [bMw G oa ra ta ad qa ha S sv, bPw G ad pd N, bQw qa pp k, bHw G ha B ol sz, rW G ra v, rW G ta u, fam G 6 B VH, fam G 2 S VS]) (List.flatten [bMw G oa ra ta ad qa ha S sv, bPw G ad pd N, bQw qa pp k, bHw G ha B ol sz, rW G ra v, rW G ta (cond (inr b 0 63) (stlV 200 (onesN 10 (upd v 2 b))) (u)), fam G 6 B VH, fam G 2 S VS])) 0 0 (aA (List.flatten [bMw G oa ra ta ad qa ha S sv, bPw G ad pd N, bQw qa pp k, bHw G ha B ol sz, rW G ra v, rW G ta u, fam G 6 B VH, fam G 2 S VS])) := by
  refine hd_MU (cc := cX4_race) (maxL := 3) (ret := some .int) (by decide) rfl (Nat.le_of_ble_eq_true rfl) ?_
  intro p e s m below meth c ls hx hb hr hts hown hlocks hml hP hKK hD hS hl
  have hl : lv_has ls 3 [(0, .ref (oa 0)), (1, .int b)] := hl
  refine lv_iload_n hx hb dX4_race_0 rfl (lv_at hl 1 rfl) ?_
  refine ro_S (As := [.int b]) (rest := []) ⟨hx, hb, hml, hown, hts⟩ (c_X4_isButtonSet l G b) (va_cwS 1 hts gX4_race_X4_isButtonSet rfl rfl rfl (by decide +kernel) ⟨Nat.le_of_ble_eq_true rfl, Nat.le_of_ble_eq_true rfl⟩) (show gP G [] _ from fun k q h => by simp at h) hKK rfl hl.1 rfl (Nat.le_of_ble_eq_true rfl) dX4_race_1 (Nat.zero_le _) (Nat.zero_le _) ?_
  refine lv_if_ne (tgt := 10) hx hb dX4_race_4 (by decide) (fun c_4 => ?_) (fun c_4 => ?_)
  · skip
    have c_4 := b2i_1 c_4
    refine lv_aload_n hx hb dX4_race_10 rfl (lv_at hl 0 rfl) ?_
    refine lv_iload_n hx hb dX4_race_11 rfl (lv_at hl 1 rfl) ?_
    refine mu_V (As := [.int b]) (rest := []) ⟨hx, hb, hml, hown, hts⟩ (c_X4_tryButtons l G oa ra ta ad qa ha B S v u VH VS sv pd N pp k ol sz b (by assumption) (by assumption) (by omega) (by omega) (by assumption) (by assumption)) (cwV 1 hts gX4_race_X4_tryButtons rfl rfl rfl (by decide +kernel) ⟨Nat.le_of_ble_eq_true rfl, Nat.le_of_ble_eq_true rfl⟩) hP hKK hD hS (va_recv hKK.1 hP (ci := 4) (q0 := 0) rfl rfl) rfl hl.1 rfl (Nat.le_of_ble_eq_true rfl) dX4_race_12 (Nat.zero_le _) (Nat.zero_le _) (flat_addr rfl) (fun H locs hP hD hS => ?_)
    refine lv_aload_n hx hb dX4_race_15 rfl (lv_at hl 0 rfl) ?_
    refine va_get (D := gD G) (ci := 4) (v := .ref (ta 0)) (C := RX4) (T := TX4) (N := 7) hx hb hts hin_X4_race_X4 hown hKK.1 hP 0 rfl rfl 1 (by decide) (hts _ lk_X4_race_16) (fun _ h9 => h9) rfl dX4_race_16 ?_
    refine mu_VF (ws := (List.flatten [bMw G oa ra ta ad qa ha S sv, bPw G ad pd N, bQw qa pp k, bHw G ha B ol sz, rW G ra v, rW G ta (upd v 2 b), fam G 6 B VH, fam G 2 S VS])) (ws' := (List.flatten [bMw G oa ra ta ad qa ha S sv, bPw G ad pd N, bQw qa pp k, bHw G ha B ol sz, rW G ra v, rW G ta (stlV 200 (upd v 2 b)), fam G 6 B VH, fam G 2 S VS])) (wr := (List.flatten [bMw G oa ra ta ad qa ha S sv, bPw G ad pd N, bQw qa pp k, bHw G ha B ol sz, rW G ra v, fam G 6 B VH, fam G 2 S VS])) (As := []) (rest := []) ⟨hx, hb, hml, hown, hts⟩ (c_X3_upAtRest l G ta (upd v 2 b) (RI_lo hI (by decide) _)) (cwV 0 hts gX4_race_X3_upAtRest rfl rfl rfl (by decide +kernel) ⟨Nat.le_of_ble_eq_true rfl, Nat.le_of_ble_eq_true rfl⟩) (segs_oneN [bMw G oa ra ta ad qa ha S sv, bPw G ad pd N, bQw qa pp k, bHw G ha B ol sz, rW G ra v, rW G ta (upd v 2 b), fam G 6 B VH, fam G 2 S VS] 5 [0, 1, 2, 3, 4, 6, 7] 8 (by decide) rfl rfl rfl) (segs_oneN [bMw G oa ra ta ad qa ha S sv, bPw G ad pd N, bQw qa pp k, bHw G ha B ol sz, rW G ra v, rW G ta (stlV 200 (upd v 2 b)), fam G 6 B VH, fam G 2 S VS] 5 [0, 1, 2, 3, 4, 6, 7] 8 (by decide) rfl rfl rfl) hP hKK hD hS (va_recv hKK.1 hP (ci := 3) (q0 := 17) rfl rfl) rfl hl.1 rfl (Nat.le_of_ble_eq_true rfl) dX4_race_19 (Nat.zero_le _) (Nat.zero_le _) rfl (fun H locs hP hD hS => ?_)
    refine lv_istore_n (lv' := [(2, .int (upR (upd v 2 b))), (0, .ref (oa 0)), (1, .int b)]) hx hb dX4_race_22 rfl hl (by decide) rfl (fun ls hl => ?_)
    refine lv_aload_n hx hb dX4_race_23 rfl (lv_at hl 1 rfl) ?_
    refine lv_iload_n hx hb dX4_race_24 rfl (lv_at hl 2 rfl) ?_
    refine mu_V (As := [.int b]) (rest := []) ⟨hx, hb, hml, hown, hts⟩ (c_X4_tryButtons l G oa ra ta ad qa ha B S v (stlV 200 (upd v 2 b)) VH VS sv pd N pp k ol sz b (by assumption) (by assumption) (by omega) (by omega) (by assumption) (stlV_RI (RI_lo hI (by decide) _) 200)) (cwV 1 hts gX4_race_X4_tryButtons rfl rfl rfl (by decide +kernel) ⟨Nat.le_of_ble_eq_true rfl, Nat.le_of_ble_eq_true rfl⟩) hP hKK hD hS (va_recv hKK.1 hP (ci := 4) (q0 := 0) rfl rfl) rfl hl.1 rfl (Nat.le_of_ble_eq_true rfl) dX4_race_25 (Nat.zero_le _) (Nat.zero_le _) (flat_addr rfl) (fun H locs hP hD hS => ?_)
    refine lv_aload_n hx hb dX4_race_28 rfl (lv_at hl 1 rfl) ?_
    refine va_get (D := gD G) (ci := 4) (v := .ref (ta 0)) (C := RX4) (T := TX4) (N := 7) hx hb hts hin_X4_race_X4 hown hKK.1 hP 0 rfl rfl 1 (by decide) (hts _ lk_X4_race_16) (fun _ h9 => h9) rfl dX4_race_29 ?_
    refine mu_VF (ws := (List.flatten [bMw G oa ra ta ad qa ha S sv, bPw G ad pd N, bQw qa pp k, bHw G ha B ol sz, rW G ra v, rW G ta (upd v 2 b), fam G 6 B VH, fam G 2 S VS])) (ws' := (List.flatten [bMw G oa ra ta ad qa ha S sv, bPw G ad pd N, bQw qa pp k, bHw G ha B ol sz, rW G ra v, rW G ta (onesN 10 (upd v 2 b)), fam G 6 B VH, fam G 2 S VS])) (wr := (List.flatten [bMw G oa ra ta ad qa ha S sv, bPw G ad pd N, bQw qa pp k, bHw G ha B ol sz, rW G ra v, fam G 6 B VH, fam G 2 S VS])) (As := []) (rest := []) ⟨hx, hb, hml, hown, hts⟩ (c_X3_makeAllTimesOne l G ta (upd v 2 b)) (cwV 0 hts gX4_race_X3_makeAllTimesOne rfl rfl rfl (by decide +kernel) ⟨Nat.le_of_ble_eq_true rfl, Nat.le_of_ble_eq_true rfl⟩) (segs_oneN [bMw G oa ra ta ad qa ha S sv, bPw G ad pd N, bQw qa pp k, bHw G ha B ol sz, rW G ra v, rW G ta (upd v 2 b), fam G 6 B VH, fam G 2 S VS] 5 [0, 1, 2, 3, 4, 6, 7] 8 (by decide) rfl rfl rfl) (segs_oneN [bMw G oa ra ta ad qa ha S sv, bPw G ad pd N, bQw qa pp k, bHw G ha B ol sz, rW G ra v, rW G ta (onesN 10 (upd v 2 b)), fam G 6 B VH, fam G 2 S VS] 5 [0, 1, 2, 3, 4, 6, 7] 8 (by decide) rfl rfl rfl) hP hKK hD hS (va_recv hKK.1 hP (ci := 3) (q0 := 17) rfl rfl) rfl hl.1 rfl (Nat.le_of_ble_eq_true rfl) dX4_race_32 (Nat.zero_le _) (Nat.zero_le _) rfl (fun H locs hP hD hS => ?_)
    refine lv_iload_n hx hb dX4_race_35 rfl (lv_at hl 0 rfl) ?_
    refine lv_aload_n hx hb dX4_race_36 rfl (lv_at hl 1 rfl) ?_
    refine va_get (D := gD G) (ci := 4) (v := .ref (ta 0)) (C := RX4) (T := TX4) (N := 7) hx hb hts hin_X4_race_X4 hown hKK.1 hP 0 rfl rfl 1 (by decide) (hts _ lk_X4_race_16) (fun _ h9 => h9) rfl dX4_race_37 ?_
    refine mu_VF (ws := (List.flatten [bMw G oa ra ta ad qa ha S sv, bPw G ad pd N, bQw qa pp k, bHw G ha B ol sz, rW G ra v, rW G ta (onesN 10 (upd v 2 b)), fam G 6 B VH, fam G 2 S VS])) (ws' := (List.flatten [bMw G oa ra ta ad qa ha S sv, bPw G ad pd N, bQw qa pp k, bHw G ha B ol sz, rW G ra v, rW G ta (stlV 200 (onesN 10 (upd v 2 b))), fam G 6 B VH, fam G 2 S VS])) (wr := (List.flatten [bMw G oa ra ta ad qa ha S sv, bPw G ad pd N, bQw qa pp k, bHw G ha B ol sz, rW G ra v, fam G 6 B VH, fam G 2 S VS])) (As := []) (rest := [.int (upR (upd v 2 b))]) ⟨hx, hb, hml, hown, hts⟩ (c_X3_upAtRest l G ta (onesN 10 (upd v 2 b)) (onesN_RI (RI_lo hI (by decide) _) 10)) (cwV 0 hts gX4_race_X3_upAtRest rfl rfl rfl (by decide +kernel) ⟨Nat.le_of_ble_eq_true rfl, Nat.le_of_ble_eq_true rfl⟩) (segs_oneN [bMw G oa ra ta ad qa ha S sv, bPw G ad pd N, bQw qa pp k, bHw G ha B ol sz, rW G ra v, rW G ta (onesN 10 (upd v 2 b)), fam G 6 B VH, fam G 2 S VS] 5 [0, 1, 2, 3, 4, 6, 7] 8 (by decide) rfl rfl rfl) (segs_oneN [bMw G oa ra ta ad qa ha S sv, bPw G ad pd N, bQw qa pp k, bHw G ha B ol sz, rW G ra v, rW G ta (stlV 200 (onesN 10 (upd v 2 b))), fam G 6 B VH, fam G 2 S VS] 5 [0, 1, 2, 3, 4, 6, 7] 8 (by decide) rfl rfl rfl) hP hKK hD hS (va_recv hKK.1 hP (ci := 3) (q0 := 17) rfl rfl) rfl hl.1 rfl (Nat.le_of_ble_eq_true rfl) dX4_race_40 (Nat.zero_le _) (Nat.zero_le _) rfl (fun H locs hP hD hS => ?_)
    refine lv_icmp_ne (tgt := 50) hx hb dX4_race_43 (by decide) (fun c_43 => ?_) (fun c_43 => ?_)
    · skip
      refine lv_iconst (v := 1) hx hb dX4_race_50 (by decide) ?_
      exact ex_MUi (w2 := (List.flatten [bMw G oa ra ta ad qa ha S sv, bPw G ad pd N, bQw qa pp k, bHw G ha B ol sz, rW G ra v, rW G ta (stlV 200 (onesN 10 (upd v 2 b))), fam G 6 B VH, fam G 2 S VS])) hx hb hr hlocks hP hS dX4_race_51 (by rw [c_4, decide_eq_false c_43] <;> rfl) (fun h => by rw [c_4]; exact h)
    · skip
      refine lv_iconst (v := 0) hx hb dX4_race_46 (by decide) ?_
      refine lv_goto (tgt := 51) hx hb dX4_race_47 (by decide) ?_
      exact ex_MUi (w2 := (List.flatten [bMw G oa ra ta ad qa ha S sv, bPw G ad pd N, bQw qa pp k, bHw G ha B ol sz, rW G ra v, rW G ta (stlV 200 (onesN 10 (upd v 2 b))), fam G 6 B VH, fam G 2 S VS])) hx hb hr hlocks hP hS dX4_race_51 (by rw [c_4, decide_eq_true c_43] <;> rfl) (fun h => by rw [c_4]; exact h)
  · skip
    have c_4 := b2i_0 c_4
    refine lv_bipush (v := (-2)) hx hb dX4_race_7 (by decide) ?_
    exact ex_MUi (w2 := (List.flatten [bMw G oa ra ta ad qa ha S sv, bPw G ad pd N, bQw qa pp k, bHw G ha B ol sz, rW G ra v, rW G ta u, fam G 6 B VH, fam G 2 S VS])) hx hb hr hlocks hP hS dX4_race_9 (by rw [c_4] <;> rfl) (fun h => by rw [c_4]; exact h)
set_option maxRecDepth 20000 in
theorem hin_X4_ifWelded_X4 : ∀ w ∈ u_ws RX4 TX4 7, w ∈ wsX4_ifWelded := by decide +kernel
theorem lk_X4_ifWelded_16 : Cond.fieldLink RX4 16 "WeldedRelays" "trial" "LWeldedRelays$Room;" ∈ wsX4_ifWelded := by decide +kernel
set_option maxHeartbeats 4000000 in
set_option maxRecDepth 100000 in
/-- X4_ifWelded -/
theorem c_X4_ifWelded (l : Launch) (G : GG) (oa : Nat → Nat) (ra : Nat → Nat) (ta : Nat → Nat) (ad : Nat → Nat) (qa : Nat → Nat) (ha : Nat → Nat) (B : Nat → Nat → Nat) (S : Nat → Nat → Nat) (v : Nat → Int32) (u : Nat → Int32) (VH : Nat → Nat → Int32) (VS : Nat → Nat → Int32) (sv : Nat → Int32) (pd : Nat → Int32) (N : Nat) (pp : Nat) (k : Nat) (ol : Nat) (sz : Nat) (r : Int32) (x : Int32) (hn : N ≤ 64) (hk : k < 10) (hol : ol < 6) (hsz : sz ≤ 6) (hI : RI v) (hU : RI u) : Met l yX4_ifWelded wsX4_ifWelded ({ frames := 6, cells := 0, slots := 0, locals := 129 }) (pcM G [.ref (oa 0), .int r, .int x] (List.flatten [bMw G oa ra ta ad qa ha S sv, bPw G ad pd N, bQw qa pp k, bHw G ha B ol sz, rW G ra v, rW G ta u, fam G 6 B VH, fam G 2 S VS])) (qMU G (some (.int (cond (inr r 0 9 && inr x 0 9) (cond (decide (r = x)) (-2) (uiI v r x)) (-1)))) (List.flatten [bMw G oa ra ta ad qa ha S sv, bPw G ad pd N, bQw qa pp k, bHw G ha B ol sz, rW G ra v, rW G ta u, fam G 6 B VH, fam G 2 S VS]) (List.flatten [bMw G oa ra ta ad qa ha S sv, bPw G ad pd N, bQw qa pp k, bHw G ha B ol sz, rW G ra v, rW G ta (cond (inr r 0 9 && inr x 0 9 && !decide (r = x)) (stlV 200 (wldI v x)) (u)), fam G 6 B VH, fam G 2 S VS])) 0 0 (aA (List.flatten [bMw G oa ra ta ad qa ha S sv, bPw G ad pd N, bQw qa pp k, bHw G ha B ol sz, rW G ra v, rW G ta u, fam G 6 B VH, fam G 2 S VS])) := by
  refine hd_MU (cc := cX4_ifWelded) (maxL := 4) (ret := some .int) (by decide) rfl (Nat.le_of_ble_eq_true rfl) ?_
  intro p e s m below meth c ls hx hb hr hts hown hlocks hml hP hKK hD hS hl
  have hl : lv_has ls 4 [(0, .ref (oa 0)), (1, .int r), (2, .int x)] := hl
  refine lv_iload_n hx hb dX4_ifWelded_0 rfl (lv_at hl 1 rfl) ?_
  refine ro_S (As := [.int r]) (rest := []) ⟨hx, hb, hml, hown, hts⟩ (c_X4_isRelay l G r) (va_cwS 1 hts gX4_ifWelded_X4_isRelay rfl rfl rfl (by decide +kernel) ⟨Nat.le_of_ble_eq_true rfl, Nat.le_of_ble_eq_true rfl⟩) (show gP G [] _ from fun k q h => by simp at h) hKK rfl hl.1 rfl (Nat.le_of_ble_eq_true rfl) dX4_ifWelded_1 (Nat.zero_le _) (Nat.zero_le _) ?_
  refine lv_if_eq (tgt := 14) hx hb dX4_ifWelded_4 (by decide) (fun c_4 => ?_) (fun c_4 => ?_)
  · skip
    have c_4 := b2i_0 c_4
    refine lv_iconst (v := (-1)) hx hb dX4_ifWelded_14 (by decide) ?_
    exact ex_MUi (w2 := (List.flatten [bMw G oa ra ta ad qa ha S sv, bPw G ad pd N, bQw qa pp k, bHw G ha B ol sz, rW G ra v, rW G ta u, fam G 6 B VH, fam G 2 S VS])) hx hb hr hlocks hP hS dX4_ifWelded_15 (by rw [c_4] <;> rfl) (fun h => by rw [c_4]; exact h)
  · skip
    have c_4 := b2i_1 c_4
    refine lv_iload_n hx hb dX4_ifWelded_7 rfl (lv_at hl 2 rfl) ?_
    refine ro_S (As := [.int x]) (rest := []) ⟨hx, hb, hml, hown, hts⟩ (c_X4_isRelay l G x) (va_cwS 1 hts gX4_ifWelded_X4_isRelay rfl rfl rfl (by decide +kernel) ⟨Nat.le_of_ble_eq_true rfl, Nat.le_of_ble_eq_true rfl⟩) (show gP G [] _ from fun k q h => by simp at h) hKK rfl hl.1 rfl (Nat.le_of_ble_eq_true rfl) dX4_ifWelded_8 (Nat.zero_le _) (Nat.zero_le _) ?_
    refine lv_if_ne (tgt := 16) hx hb dX4_ifWelded_11 (by decide) (fun c_11 => ?_) (fun c_11 => ?_)
    · skip
      have c_11 := b2i_1 c_11
      refine lv_iload_n hx hb dX4_ifWelded_16 rfl (lv_at hl 1 rfl) ?_
      refine lv_iload_n hx hb dX4_ifWelded_17 rfl (lv_at hl 2 rfl) ?_
      refine lv_icmp_ne (tgt := 24) hx hb dX4_ifWelded_18 (by decide) (fun c_18 => ?_) (fun c_18 => ?_)
      · skip
        have c_18 := decide_eq_false c_18
        refine lv_aload_n hx hb dX4_ifWelded_24 rfl (lv_at hl 0 rfl) ?_
        refine lv_iload_n hx hb dX4_ifWelded_25 rfl (lv_at hl 2 rfl) ?_
        refine mu_V (As := [.int x]) (rest := []) ⟨hx, hb, hml, hown, hts⟩ (c_X4_tryWelded l G oa ra ta ad qa ha B S v u VH VS sv pd N pp k ol sz x (by assumption) (by assumption) (by omega) (by omega) (by assumption) (by assumption)) (cwV 1 hts gX4_ifWelded_X4_tryWelded rfl rfl rfl (by decide +kernel) ⟨Nat.le_of_ble_eq_true rfl, Nat.le_of_ble_eq_true rfl⟩) hP hKK hD hS (va_recv hKK.1 hP (ci := 4) (q0 := 0) rfl rfl) rfl hl.1 rfl (Nat.le_of_ble_eq_true rfl) dX4_ifWelded_26 (Nat.zero_le _) (Nat.zero_le _) (flat_addr rfl) (fun H locs hP hD hS => ?_)
        refine lv_aload_n hx hb dX4_ifWelded_29 rfl (lv_at hl 0 rfl) ?_
        refine va_get (D := gD G) (ci := 4) (v := .ref (ta 0)) (C := RX4) (T := TX4) (N := 7) hx hb hts hin_X4_ifWelded_X4 hown hKK.1 hP 0 rfl rfl 1 (by decide) (hts _ lk_X4_ifWelded_16) (fun _ h9 => h9) rfl dX4_ifWelded_30 ?_
        refine mu_VF (ws := (List.flatten [bMw G oa ra ta ad qa ha S sv, bPw G ad pd N, bQw qa pp k, bHw G ha B ol sz, rW G ra v, rW G ta (wldI v x), fam G 6 B VH, fam G 2 S VS])) (ws' := (List.flatten [bMw G oa ra ta ad qa ha S sv, bPw G ad pd N, bQw qa pp k, bHw G ha B ol sz, rW G ra v, rW G ta (stlV 200 (wldI v x)), fam G 6 B VH, fam G 2 S VS])) (wr := (List.flatten [bMw G oa ra ta ad qa ha S sv, bPw G ad pd N, bQw qa pp k, bHw G ha B ol sz, rW G ra v, fam G 6 B VH, fam G 2 S VS])) (As := []) (rest := []) ⟨hx, hb, hml, hown, hts⟩ (c_X3_upAtRest l G ta (wldI v x) (wldI_RI hI _)) (cwV 0 hts gX4_ifWelded_X3_upAtRest rfl rfl rfl (by decide +kernel) ⟨Nat.le_of_ble_eq_true rfl, Nat.le_of_ble_eq_true rfl⟩) (segs_oneN [bMw G oa ra ta ad qa ha S sv, bPw G ad pd N, bQw qa pp k, bHw G ha B ol sz, rW G ra v, rW G ta (wldI v x), fam G 6 B VH, fam G 2 S VS] 5 [0, 1, 2, 3, 4, 6, 7] 8 (by decide) rfl rfl rfl) (segs_oneN [bMw G oa ra ta ad qa ha S sv, bPw G ad pd N, bQw qa pp k, bHw G ha B ol sz, rW G ra v, rW G ta (stlV 200 (wldI v x)), fam G 6 B VH, fam G 2 S VS] 5 [0, 1, 2, 3, 4, 6, 7] 8 (by decide) rfl rfl rfl) hP hKK hD hS (va_recv hKK.1 hP (ci := 3) (q0 := 17) rfl rfl) rfl hl.1 rfl (Nat.le_of_ble_eq_true rfl) dX4_ifWelded_33 (Nat.zero_le _) (Nat.zero_le _) rfl (fun H locs hP hD hS => ?_)
        refine lv_istore_n (lv' := [(3, .int (upR (wldI v x))), (0, .ref (oa 0)), (1, .int r), (2, .int x)]) hx hb dX4_ifWelded_36 rfl hl (by decide) rfl (fun ls hl => ?_)
        refine lv_iload_n hx hb dX4_ifWelded_37 rfl (lv_at hl 0 rfl) ?_
        refine lv_bipush (v := (-6)) hx hb dX4_ifWelded_38 (by decide) ?_
        refine lv_icmp_ne (tgt := 48) hx hb dX4_ifWelded_40 (by decide) (fun c_40 => ?_) (fun c_40 => ?_)
        · skip
          refine lv_iload_n hx hb dX4_ifWelded_48 rfl (lv_at hl 0 rfl) ?_
          refine lv_iload_n hx hb dX4_ifWelded_49 rfl (lv_at hl 2 rfl) ?_
          refine ro_S (As := [.int (upR (wldI v x)), .int r]) (rest := []) ⟨hx, hb, hml, hown, hts⟩ (c_X4_bit l G (upR (wldI v x)) r) (va_cwS 2 hts gX4_ifWelded_X4_bit rfl rfl rfl (by decide +kernel) ⟨Nat.le_of_ble_eq_true rfl, Nat.le_of_ble_eq_true rfl⟩) (show gP G [] _ from fun k q h => by simp at h) hKK rfl hl.1 rfl (Nat.le_of_ble_eq_true rfl) dX4_ifWelded_50 (Nat.zero_le _) (Nat.zero_le _) ?_
          exact ex_MUi (w2 := (List.flatten [bMw G oa ra ta ad qa ha S sv, bPw G ad pd N, bQw qa pp k, bHw G ha B ol sz, rW G ra v, rW G ta (stlV 200 (wldI v x)), fam G 6 B VH, fam G 2 S VS])) hx hb hr hlocks hP hS dX4_ifWelded_53 (by rw [c_4, c_11, c_18]; exact congrArg (fun q => some (Value.int q)) (if_neg c_40).symm) (fun h => by rw [c_4, c_11, c_18]; exact h)
        · skip
          refine lv_bipush (v := (-6)) hx hb dX4_ifWelded_43 (by decide) ?_
          refine lv_goto (tgt := 53) hx hb dX4_ifWelded_45 (by decide) ?_
          exact ex_MUi (w2 := (List.flatten [bMw G oa ra ta ad qa ha S sv, bPw G ad pd N, bQw qa pp k, bHw G ha B ol sz, rW G ra v, rW G ta (stlV 200 (wldI v x)), fam G 6 B VH, fam G 2 S VS])) hx hb hr hlocks hP hS dX4_ifWelded_53 (by rw [c_4, c_11, c_18]; exact congrArg (fun q => some (Value.int q)) (if_pos c_40).symm) (fun h => by rw [c_4, c_11, c_18]; exact h)
      · skip
        have c_18 := decide_eq_true c_18
        refine lv_bipush (v := (-2)) hx hb dX4_ifWelded_21 (by decide) ?_
        exact ex_MUi (w2 := (List.flatten [bMw G oa ra ta ad qa ha S sv, bPw G ad pd N, bQw qa pp k, bHw G ha B ol sz, rW G ra v, rW G ta u, fam G 6 B VH, fam G 2 S VS])) hx hb hr hlocks hP hS dX4_ifWelded_23 (by rw [c_4, c_11, c_18] <;> rfl) (fun h => by rw [c_4, c_11, c_18]; exact h)
    · skip
      have c_11 := b2i_0 c_11
      refine lv_iconst (v := (-1)) hx hb dX4_ifWelded_14 (by decide) ?_
      exact ex_MUi (w2 := (List.flatten [bMw G oa ra ta ad qa ha S sv, bPw G ad pd N, bQw qa pp k, bHw G ha B ol sz, rW G ra v, rW G ta u, fam G 6 B VH, fam G 2 S VS])) hx hb hr hlocks hP hS dX4_ifWelded_15 (by rw [c_4, c_11] <;> rfl) (fun h => by rw [c_4, c_11]; exact h)
set_option maxRecDepth 20000 in
theorem hin_X4_unsafe_X4 : ∀ w ∈ u_ws RX4 TX4 7, w ∈ wsX4_unsafe := by decide +kernel
theorem lk_X4_unsafe_16 : Cond.fieldLink RX4 16 "WeldedRelays" "trial" "LWeldedRelays$Room;" ∈ wsX4_unsafe := by decide +kernel
set_option maxHeartbeats 4000000 in
set_option maxRecDepth 100000 in
/-- X4_unsafe -/
theorem c_X4_unsafe (l : Launch) (G : GG) (oa : Nat → Nat) (ra : Nat → Nat) (ta : Nat → Nat) (ad : Nat → Nat) (qa : Nat → Nat) (ha : Nat → Nat) (B : Nat → Nat → Nat) (S : Nat → Nat → Nat) (v : Nat → Int32) (u : Nat → Int32) (VH : Nat → Nat → Int32) (VS : Nat → Nat → Int32) (sv : Nat → Int32) (pd : Nat → Int32) (N : Nat) (pp : Nat) (k : Nat) (ol : Nat) (sz : Nat) (r : Int32) (hn : N ≤ 64) (hk : k < 10) (hol : ol < 6) (hsz : sz ≤ 6) (hI : RI v) (hU : RI u) : Met l yX4_unsafe wsX4_unsafe ({ frames := 6, cells := 0, slots := 0, locals := 129 }) (pcM G [.ref (oa 0), .int r] (List.flatten [bMw G oa ra ta ad qa ha S sv, bPw G ad pd N, bQw qa pp k, bHw G ha B ol sz, rW G ra v, rW G ta u, fam G 6 B VH, fam G 2 S VS])) (qMU G (some (.int (cond (inr r 0 9) (unsI v (nI (rk r)) 10) (-1)))) (List.flatten [bMw G oa ra ta ad qa ha S sv, bPw G ad pd N, bQw qa pp k, bHw G ha B ol sz, rW G ra v, rW G ta u, fam G 6 B VH, fam G 2 S VS]) (List.flatten [bMw G oa ra ta ad qa ha S sv, bPw G ad pd N, bQw qa pp k, bHw G ha B ol sz, rW G ra v, rW G ta (cond (inr r 0 9) (unsU v (rk r) 9) (u)), fam G 6 B VH, fam G 2 S VS])) 0 0 (aA (List.flatten [bMw G oa ra ta ad qa ha S sv, bPw G ad pd N, bQw qa pp k, bHw G ha B ol sz, rW G ra v, rW G ta u, fam G 6 B VH, fam G 2 S VS])) := by
  refine hd_MU (cc := cX4_unsafe) (maxL := 4) (ret := some .int) (by decide) rfl (Nat.le_of_ble_eq_true rfl) ?_
  intro p e s m below meth c ls hx hb hr hts hown hlocks hml hP hKK hD hS hl
  have hl : lv_has ls 4 [(0, .ref (oa 0)), (1, .int r)] := hl
  refine lv_iload_n hx hb dX4_unsafe_0 rfl (lv_at hl 1 rfl) ?_
  refine ro_S (As := [.int r]) (rest := []) ⟨hx, hb, hml, hown, hts⟩ (c_X4_isRelay l G r) (va_cwS 1 hts gX4_unsafe_X4_isRelay rfl rfl rfl (by decide +kernel) ⟨Nat.le_of_ble_eq_true rfl, Nat.le_of_ble_eq_true rfl⟩) (show gP G [] _ from fun k q h => by simp at h) hKK rfl hl.1 rfl (Nat.le_of_ble_eq_true rfl) dX4_unsafe_1 (Nat.zero_le _) (Nat.zero_le _) ?_
  refine lv_if_ne (tgt := 9) hx hb dX4_unsafe_4 (by decide) (fun c_4 => ?_) (fun c_4 => ?_)
  · skip
    have c_4 := b2i_1 c_4
    have hr9 := inr_rk c_4
    have hl : lv_has ls 4 [(0, .ref (oa 0)), (1, .int (nI (rk r)))] := by have e_l1 : r = (nI (rk r)) := (hr9.1); rw [← e_l1]; exact hl
    refine lv_iconst (v := 0) hx hb dX4_unsafe_9 (by decide) ?_
    refine lv_istore_n (lv' := [(2, .int 0), (0, .ref (oa 0)), (1, .int (nI (rk r)))]) hx hb dX4_unsafe_10 rfl hl (by decide) rfl (fun ls hl => ?_)
    refine lv_iconst (v := 0) hx hb dX4_unsafe_11 (by decide) ?_
    refine lv_istore_n (lv' := [(3, .int 0), (2, .int 0), (0, .ref (oa 0)), (1, .int (nI (rk r)))]) hx hb dX4_unsafe_12 rfl hl (by decide) rfl (fun ls hl => ?_)
    have L_13 : ∀ (n_13 : Nat) (i : Nat) (uq : Nat → Int32), (i ≤ 10) → (10 + 1 ≤ i + n_13) → (i = 0 ∨ uq = unsU v (rk r) (i - 1)) → (RI uq) → ∀ (H : Heap) (locs : List Loc), gP G (List.flatten [bMw G oa ra ta ad qa ha S sv, bPw G ad pd N, bQw qa pp k, bHw G ha B ol sz, rW G ra v, rW G ta uq, fam G 6 B VH, fam G 2 S VS]) H → va_D (aA (List.flatten [bMw G oa ra ta ad qa ha S sv, bPw G ad pd N, bQw qa pp k, bHw G ha B ol sz, rW G ra v, rW G ta u, fam G 6 B VH, fam G 2 S VS])) (List.flatten [bMw G oa ra ta ad qa ha S sv, bPw G ad pd N, bQw qa pp k, bHw G ha B ol sz, rW G ra v, rW G ta uq, fam G 6 B VH, fam G 2 S VS]) → va_S (aA (List.flatten [bMw G oa ra ta ad qa ha S sv, bPw G ad pd N, bQw qa pp k, bHw G ha B ol sz, rW G ra v, rW G ta u, fam G 6 B VH, fam G 2 S VS])) s.heap H locs → ∀ (ls : Array Slot), lv_has ls 4 [(3, .int (nI i)), (2, .int (unsI v (nI (rk r)) i)), (0, .ref (oa 0)), (1, .int (nI (rk r)))] → W p l e ({ frames := 6, cells := 0, slots := 0, locals := 129 }) s m (List.toArray [.ref (oa 0), .int r]) below meth c H locs 0 0 (MQ below (qMU G (some (.int (cond (inr r 0 9) (unsI v (nI (rk r)) 10) (-1)))) (List.flatten [bMw G oa ra ta ad qa ha S sv, bPw G ad pd N, bQw qa pp k, bHw G ha B ol sz, rW G ra v, rW G ta u, fam G 6 B VH, fam G 2 S VS]) (List.flatten [bMw G oa ra ta ad qa ha S sv, bPw G ad pd N, bQw qa pp k, bHw G ha B ol sz, rW G ra v, rW G ta (cond (inr r 0 9) (unsU v (rk r) 9) (u)), fam G 6 B VH, fam G 2 S VS])) (List.toArray [.ref (oa 0), .int r]) s 0 0 (aA (List.flatten [bMw G oa ra ta ad qa ha S sv, bPw G ad pd N, bQw qa pp k, bHw G ha B ol sz, rW G ra v, rW G ta u, fam G 6 B VH, fam G 2 S VS]))) (F0 m 13 ls []) := by
      intro n_13
      induction n_13 with
      | zero => intro i uq h1 h2 h3 h5; exact absurd (h2) (by omega)
      | succ n_13 ih_13 =>
        intro i uq h1 h2 h3 h5 H locs hP hD hS ls hl
        refine lv_iload_n hx hb dX4_unsafe_13 rfl (lv_at hl 0 rfl) ?_
        refine lv_bipush (v := 10) hx hb dX4_unsafe_14 (by decide) ?_
        refine lv_icmp_ge (tgt := 55) hx hb dX4_unsafe_16 (by decide) (fun c_16 => ?_) (fun c_16 => ?_)
        · skip
          have c_16 : 10 ≤ i := (nI_leI (a := 10) (b := i) (by omega) (by omega)).mp c_16
          refine lv_iload_n hx hb dX4_unsafe_55 rfl (lv_at hl 1 rfl) ?_
          exact ex_MUi (w2 := (List.flatten [bMw G oa ra ta ad qa ha S sv, bPw G ad pd N, bQw qa pp k, bHw G ha B ol sz, rW G ra v, rW G ta uq, fam G 6 B VH, fam G 2 S VS])) hx hb hr hlocks hP hS dX4_unsafe_56 (by rw [c_4, show i = 10 by omega] <;> rfl) (fun h => by rw [c_4]; have e9 : uq = unsU v (rk r) 9 := (by rcases h3 with h3 | h3; omega; rw [h3, show i - 1 = 9 by omega]); rw [e9] at h; exact h)
        · skip
          have c_16 : ¬ (10 ≤ i) := fun q => c_16 ((nI_leI (a := 10) (b := i) (by omega) (by omega)).mpr q)
          refine lv_aload_n hx hb dX4_unsafe_19 rfl (lv_at hl 2 rfl) ?_
          refine lv_iload_n hx hb dX4_unsafe_20 rfl (lv_at hl 0 rfl) ?_
          refine mu_V (As := [.int (nI i)]) (rest := []) ⟨hx, hb, hml, hown, hts⟩ (c_X4_tryWelded l G oa ra ta ad qa ha B S v uq VH VS sv pd N pp k ol sz (nI i) (by assumption) (by assumption) (by omega) (by omega) (by assumption) h5) (cwV 1 hts gX4_unsafe_X4_tryWelded rfl rfl rfl (by decide +kernel) ⟨Nat.le_of_ble_eq_true rfl, Nat.le_of_ble_eq_true rfl⟩) hP hKK hD hS (va_recv hKK.1 hP (ci := 4) (q0 := 0) rfl rfl) rfl hl.1 rfl (Nat.le_of_ble_eq_true rfl) dX4_unsafe_21 (Nat.zero_le _) (Nat.zero_le _) (flat_addr rfl) (fun H locs hP hD hS => ?_)
          refine lv_iload_n hx hb dX4_unsafe_24 rfl (lv_at hl 0 rfl) ?_
          refine lv_iload_n hx hb dX4_unsafe_25 rfl (lv_at hl 3 rfl) ?_
          refine lv_icmp_eq (tgt := 49) hx hb dX4_unsafe_26 (by decide) (fun c_26 => ?_) (fun c_26 => ?_)
          · skip
            have c_26x := (nI_eq (a := i) (b := rk r) (by omega) (by omega)).mp c_26
            have hl : lv_has ls 4 [(3, .int (nI i)), (2, .int (unsI v (nI (rk r)) (i + 1))), (0, .ref (oa 0)), (1, .int (nI (rk r)))] := by have e_l2 : (unsI v (nI (rk r)) i) = (unsI v (nI (rk r)) (i + 1)) := (by simp [unsI, orN, c_26]); rw [← e_l2]; exact hl
            have ev_3 : wldI v (nI i) = unsU v (rk r) i := (if_pos c_26x).symm
            rw [ev_3] at hP hD
            refine lv_iinc (v := nI (i + 1)) (lv' := [(3, .int (nI (i + 1))), (2, .int (unsI v (nI (rk r)) (i + 1))), (0, .ref (oa 0)), (1, .int (nI (rk r)))]) hx hb dX4_unsafe_49 hl (k := 0) rfl (nI_1 _) (by decide) rfl (fun ls hl => ?_)
            refine lv_goto (tgt := 13) hx hb dX4_unsafe_52 (by decide) ?_
            exact ih_13 (i + 1) (unsU v (rk r) i) (by omega) (by omega) (Or.inr rfl) (unsU_RI hI _ _) _ _ (hP) (hD) hS _ (lv_sub hl [0, 1, 2, 3] rfl)
          · skip
            have c_26x : ¬ i = rk r := fun q => c_26 (by rw [q])
            refine lv_aload_n hx hb dX4_unsafe_29 rfl (lv_at hl 2 rfl) ?_
            refine va_get (D := gD G) (ci := 4) (v := .ref (ta 0)) (C := RX4) (T := TX4) (N := 7) hx hb hts hin_X4_unsafe_X4 hown hKK.1 hP 0 rfl rfl 1 (by decide) (hts _ lk_X4_unsafe_16) (fun _ h9 => h9) rfl dX4_unsafe_30 ?_
            refine mu_VF (ws := (List.flatten [bMw G oa ra ta ad qa ha S sv, bPw G ad pd N, bQw qa pp k, bHw G ha B ol sz, rW G ra v, rW G ta (wldI v (nI i)), fam G 6 B VH, fam G 2 S VS])) (ws' := (List.flatten [bMw G oa ra ta ad qa ha S sv, bPw G ad pd N, bQw qa pp k, bHw G ha B ol sz, rW G ra v, rW G ta (stlV 200 (wldI v (nI i))), fam G 6 B VH, fam G 2 S VS])) (wr := (List.flatten [bMw G oa ra ta ad qa ha S sv, bPw G ad pd N, bQw qa pp k, bHw G ha B ol sz, rW G ra v, fam G 6 B VH, fam G 2 S VS])) (As := []) (rest := []) ⟨hx, hb, hml, hown, hts⟩ (c_X3_upAtRest l G ta (wldI v (nI i)) (wldI_RI hI _)) (cwV 0 hts gX4_unsafe_X3_upAtRest rfl rfl rfl (by decide +kernel) ⟨Nat.le_of_ble_eq_true rfl, Nat.le_of_ble_eq_true rfl⟩) (segs_oneN [bMw G oa ra ta ad qa ha S sv, bPw G ad pd N, bQw qa pp k, bHw G ha B ol sz, rW G ra v, rW G ta (wldI v (nI i)), fam G 6 B VH, fam G 2 S VS] 5 [0, 1, 2, 3, 4, 6, 7] 8 (by decide) rfl rfl rfl) (segs_oneN [bMw G oa ra ta ad qa ha S sv, bPw G ad pd N, bQw qa pp k, bHw G ha B ol sz, rW G ra v, rW G ta (stlV 200 (wldI v (nI i))), fam G 6 B VH, fam G 2 S VS] 5 [0, 1, 2, 3, 4, 6, 7] 8 (by decide) rfl rfl rfl) hP hKK hD hS (va_recv hKK.1 hP (ci := 3) (q0 := 17) rfl rfl) rfl hl.1 rfl (Nat.le_of_ble_eq_true rfl) dX4_unsafe_33 (Nat.zero_le _) (Nat.zero_le _) rfl (fun H locs hP hD hS => ?_)
            refine lv_iload_n hx hb dX4_unsafe_36 rfl (lv_at hl 3 rfl) ?_
            refine ro_S (As := [.int (upR (wldI v (nI i))), .int (nI (rk r))]) (rest := []) ⟨hx, hb, hml, hown, hts⟩ (c_X4_isUpIn l G (upR (wldI v (nI i))) (nI (rk r))) (va_cwS 2 hts gX4_unsafe_X4_isUpIn rfl rfl rfl (by decide +kernel) ⟨Nat.le_of_ble_eq_true rfl, Nat.le_of_ble_eq_true rfl⟩) (show gP G [] _ from fun k q h => by simp at h) hKK rfl hl.1 rfl (Nat.le_of_ble_eq_true rfl) dX4_unsafe_37 (Nat.zero_le _) (Nat.zero_le _) ?_
            refine lv_if_eq (tgt := 49) hx hb dX4_unsafe_40 (by decide) (fun c_40 => ?_) (fun c_40 => ?_)
            · skip
              have c_40 := b2i_0 c_40
              have c_40 : iuI (upR (wldI v (nI i))) (nI (rk r)) = false := c_40
              have hl : lv_has ls 4 [(3, .int (nI i)), (2, .int (unsI v (nI (rk r)) (i + 1))), (0, .ref (oa 0)), (1, .int (nI (rk r)))] := by have e_l4 : (unsI v (nI (rk r)) i) = (unsI v (nI (rk r)) (i + 1)) := (by simp [unsI, orN, c_40]); rw [← e_l4]; exact hl
              have ev_5 : stlV 200 (wldI v (nI i)) = unsU v (rk r) i := (if_neg c_26x).symm
              rw [ev_5] at hP hD
              refine lv_iinc (v := nI (i + 1)) (lv' := [(3, .int (nI (i + 1))), (2, .int (unsI v (nI (rk r)) (i + 1))), (0, .ref (oa 0)), (1, .int (nI (rk r)))]) hx hb dX4_unsafe_49 hl (k := 0) rfl (nI_1 _) (by decide) rfl (fun ls hl => ?_)
              refine lv_goto (tgt := 13) hx hb dX4_unsafe_52 (by decide) ?_
              exact ih_13 (i + 1) (unsU v (rk r) i) (by omega) (by omega) (Or.inr rfl) (unsU_RI hI _ _) _ _ (hP) (hD) hS _ (lv_sub hl [0, 1, 2, 3] rfl)
            · skip
              have c_40 := b2i_1 c_40
              have c_40 : iuI (upR (wldI v (nI i))) (nI (rk r)) = true := c_40
              refine lv_iload_n hx hb dX4_unsafe_43 rfl (lv_at hl 1 rfl) ?_
              refine lv_iconst (v := 1) hx hb dX4_unsafe_44 (by decide) ?_
              refine lv_iload_n hx hb dX4_unsafe_45 rfl (lv_at hl 0 rfl) ?_
              refine lv_ishl hx hb dX4_unsafe_46 ?_
              refine lv_asi (y := shl 1 (nI i)) rfl ?_
              refine lv_ior hx hb dX4_unsafe_47 ?_
              refine lv_asi (y := unsI v (nI (rk r)) (i + 1)) (by simp [unsI, orN, c_26, c_40]) ?_
              refine lv_istore_n (lv' := [(2, .int (unsI v (nI (rk r)) (i + 1))), (3, .int (nI i)), (0, .ref (oa 0)), (1, .int (nI (rk r)))]) hx hb dX4_unsafe_48 rfl hl (by decide) rfl (fun ls hl => ?_)
              have ev_6 : stlV 200 (wldI v (nI i)) = unsU v (rk r) i := (if_neg c_26x).symm
              rw [ev_6] at hP hD
              refine lv_iinc (v := nI (i + 1)) (lv' := [(3, .int (nI (i + 1))), (2, .int (unsI v (nI (rk r)) (i + 1))), (0, .ref (oa 0)), (1, .int (nI (rk r)))]) hx hb dX4_unsafe_49 hl (k := 1) rfl (nI_1 _) (by decide) rfl (fun ls hl => ?_)
              refine lv_goto (tgt := 13) hx hb dX4_unsafe_52 (by decide) ?_
              exact ih_13 (i + 1) (unsU v (rk r) i) (by omega) (by omega) (Or.inr rfl) (unsU_RI hI _ _) _ _ (hP) (hD) hS _ (lv_sub hl [0, 1, 2, 3] rfl)
    exact L_13 (10 + 1) 0 u (by omega) (by omega) (Or.inl rfl) (hU) _ _ (hP) (hD) hS _ (lv_sub hl [0, 1, 2, 3] rfl)
  · skip
    have c_4 := b2i_0 c_4
    refine lv_iconst (v := (-1)) hx hb dX4_unsafe_7 (by decide) ?_
    exact ex_MUi (w2 := (List.flatten [bMw G oa ra ta ad qa ha S sv, bPw G ad pd N, bQw qa pp k, bHw G ha B ol sz, rW G ra v, rW G ta u, fam G 6 B VH, fam G 2 S VS])) hx hb hr hlocks hP hS dX4_unsafe_8 (by rw [c_4] <;> rfl) (fun h => by rw [c_4]; exact h)
set_option maxRecDepth 20000 in
theorem hin_X4_put_X4 : ∀ w ∈ u_ws RX4 TX4 7, w ∈ wsX4_put := by decide +kernel
theorem lk_X4_put_22 : Cond.fieldLink RX4 22 "WeldedRelays" "pad" "LWeldedRelays$Pad;" ∈ wsX4_put := by decide +kernel
set_option maxRecDepth 20000 in
theorem hin_X4_put_X1 : ∀ w ∈ u_ws RX1 TX1 2, w ∈ wsX4_put := by decide +kernel
theorem lk_X4_put_155 : Cond.fieldLink RX4 155 "WeldedRelays$Pad" "length" "I" ∈ wsX4_put := by decide +kernel
set_option maxHeartbeats 4000000 in
set_option maxRecDepth 100000 in
/-- X4_put -/
theorem c_X4_put (l : Launch) (G : GG) (oa : Nat → Nat) (ra : Nat → Nat) (ta : Nat → Nat) (ad : Nat → Nat) (qa : Nat → Nat) (ha : Nat → Nat) (B : Nat → Nat → Nat) (S : Nat → Nat → Nat) (v : Nat → Int32) (u : Nat → Int32) (VH : Nat → Nat → Int32) (VS : Nat → Nat → Int32) (sv : Nat → Int32) (pd : Nat → Int32) (N : Nat) (pp : Nat) (k : Nat) (ol : Nat) (sz : Nat) (x : Int64) (hn : N ≤ 64) (hk : k < 10) (hol : ol < 6) (hsz : sz ≤ 6) (hI : RI v) (hU : RI u) : Met l yX4_put wsX4_put ({ frames := 2, cells := 0, slots := 0, locals := 47 }) (pcM G [.ref (oa 0), .long x] (List.flatten [bMw G oa ra ta ad qa ha S sv, bPw G ad pd N, bQw qa pp k, bHw G ha B ol sz, rW G ra v, rW G ta u, fam G 6 B VH, fam G 2 S VS])) (qMU G (some (.int (cond (decide (lgF 8 x 0 = 0)) (-2) (cond (decide (N + lgF 8 x 0 ≤ 64)) (nI (N + lgF 8 x 0)) (-4))))) (List.flatten [bMw G oa ra ta ad qa ha S sv, bPw G ad pd N, bQw qa pp k, bHw G ha B ol sz, rW G ra v, rW G ta u, fam G 6 B VH, fam G 2 S VS]) (List.flatten [bMw G oa ra ta ad qa ha S sv, bPw G ad (cond (!decide (lgF 8 x 0 = 0) && decide (N + lgF 8 x 0 ≤ 64)) (apG x N (lgF 8 x 0) N pd) (pd)) (cond (!decide (lgF 8 x 0 = 0) && decide (N + lgF 8 x 0 ≤ 64)) (N + lgF 8 x 0) (N)), bQw qa pp k, bHw G ha B ol sz, rW G ra v, rW G ta u, fam G 6 B VH, fam G 2 S VS])) 0 0 (aA (List.flatten [bMw G oa ra ta ad qa ha S sv, bPw G ad pd N, bQw qa pp k, bHw G ha B ol sz, rW G ra v, rW G ta u, fam G 6 B VH, fam G 2 S VS])) := by
  refine hd_MU (cc := cX4_put) (maxL := 4) (ret := some .int) (by decide) rfl (Nat.le_of_ble_eq_true rfl) ?_
  intro p e s m below meth c ls hx hb hr hts hown hlocks hml hP hKK hD hS hl
  have hl : lv_has ls 4 [(0, .ref (oa 0)), (1, .long x)] := hl
  have hl8 : lgF 8 x 0 ≤ 8 := Nat.le_trans (lgF_le 8 x 0) (by omega)
  refine lv_lload_n hx hb dX4_put_0 rfl (lv_at hl 1 rfl) ?_
  refine ro_S (As := [.long x]) (rest := []) ⟨hx, hb, hml, hown, hts⟩ (c_X1_lengthOf l G x) (va_cwS 1 hts gX4_put_X1_lengthOf rfl rfl rfl (by decide +kernel) ⟨Nat.le_of_ble_eq_true rfl, Nat.le_of_ble_eq_true rfl⟩) (show gP G [] _ from fun k q h => by simp at h) hKK rfl hl.1 rfl (Nat.le_of_ble_eq_true rfl) dX4_put_1 (Nat.zero_le _) (Nat.zero_le _) ?_
  refine lv_istore_n (lv' := [(3, .int (nI (lgF 8 x 0))), (0, .ref (oa 0)), (1, .long x)]) hx hb dX4_put_4 rfl hl (by decide) rfl (fun ls hl => ?_)
  refine lv_iload_n hx hb dX4_put_5 rfl (lv_at hl 0 rfl) ?_
  refine lv_if_ne (tgt := 12) hx hb dX4_put_6 (by decide) (fun c_6 => ?_) (fun c_6 => ?_)
  · skip
    have c_6 : decide (lgF 8 x 0 = 0) = false := decide_eq_false (fun q => c_6 (by rw [q]; rfl))
    refine lv_aload_n hx hb dX4_put_12 rfl (lv_at hl 1 rfl) ?_
    refine va_get (D := gD G) (ci := 4) (v := .ref (ad 0)) (C := RX4) (T := TX4) (N := 7) hx hb hts hin_X4_put_X4 hown hKK.1 hP 0 rfl rfl 2 (by decide) (hts _ lk_X4_put_22) (fun _ h9 => h9) rfl dX4_put_13 ?_
    refine va_get (D := gD G) (ci := 1) (v := .int (nI N)) (C := RX1) (T := TX1) (N := 2) hx hb hts hin_X4_put_X1 hown hKK.1 hP 3 rfl rfl 1 (by decide) (hts _ lk_X4_put_155) (fun _ h9 => h9) rfl dX4_put_16 ?_
    refine lv_iload_n hx hb dX4_put_19 rfl (lv_at hl 0 rfl) ?_
    refine lv_iadd hx hb dX4_put_20 ?_
    refine lv_asi (y := nI (N + lgF 8 x 0)) (nI_add _ _) ?_
    refine lv_bipush (v := 64) hx hb dX4_put_21 (by decide) ?_
    refine lv_icmp_le (tgt := 29) hx hb dX4_put_23 (by decide) (fun c_23 => ?_) (fun c_23 => ?_)
    · skip
      have c_23 : (N + lgF 8 x 0) ≤ 64 := (nI_leI (a := N + lgF 8 x 0) (b := 64) (by omega) (by omega)).mp c_23
      have c_23x : decide (N + lgF 8 x 0 ≤ 64) = true := decide_eq_true c_23
      refine lv_aload_n hx hb dX4_put_29 rfl (lv_at hl 1 rfl) ?_
      refine va_get (D := gD G) (ci := 4) (v := .ref (ad 0)) (C := RX4) (T := TX4) (N := 7) hx hb hts hin_X4_put_X4 hown hKK.1 hP 0 rfl rfl 2 (by decide) (hts _ lk_X4_put_22) (fun _ h9 => h9) rfl dX4_put_30 ?_
      refine lv_lload_n hx hb dX4_put_33 rfl (lv_at hl 2 rfl) ?_
      refine lv_iload_n hx hb dX4_put_34 rfl (lv_at hl 0 rfl) ?_
      refine mu_VF (ws := (List.flatten [bMw G oa ra ta ad qa ha S sv, bPw G ad pd N, bQw qa pp k, bHw G ha B ol sz, rW G ra v, rW G ta u, fam G 6 B VH, fam G 2 S VS])) (ws' := (List.flatten [bMw G oa ra ta ad qa ha S sv, bPw G ad (apG x N (lgF 8 x 0) N pd) (N + (lgF 8 x 0)), bQw qa pp k, bHw G ha B ol sz, rW G ra v, rW G ta u, fam G 6 B VH, fam G 2 S VS])) (wr := (List.flatten [bMw G oa ra ta ad qa ha S sv, bQw qa pp k, bHw G ha B ol sz, rW G ra v, rW G ta u, fam G 6 B VH, fam G 2 S VS])) (As := [.long x, .int (nI (lgF 8 x 0))]) (rest := []) ⟨hx, hb, hml, hown, hts⟩ (c_X1_append l G ad pd N x (lgF 8 x 0) (by omega) (by omega)) (cwV 2 hts gX4_put_X1_append rfl rfl rfl (by decide +kernel) ⟨Nat.le_of_ble_eq_true rfl, Nat.le_of_ble_eq_true rfl⟩) (segs_oneN [bMw G oa ra ta ad qa ha S sv, bPw G ad pd N, bQw qa pp k, bHw G ha B ol sz, rW G ra v, rW G ta u, fam G 6 B VH, fam G 2 S VS] 1 [0, 2, 3, 4, 5, 6, 7] 8 (by decide) rfl rfl rfl) (segs_oneN [bMw G oa ra ta ad qa ha S sv, bPw G ad (apG x N (lgF 8 x 0) N pd) (N + (lgF 8 x 0)), bQw qa pp k, bHw G ha B ol sz, rW G ra v, rW G ta u, fam G 6 B VH, fam G 2 S VS] 1 [0, 2, 3, 4, 5, 6, 7] 8 (by decide) rfl rfl rfl) hP hKK hD hS (va_recv hKK.1 hP (ci := 1) (q0 := 3) rfl rfl) rfl hl.1 rfl (Nat.le_of_ble_eq_true rfl) dX4_put_35 (Nat.zero_le _) (Nat.zero_le _) rfl (fun H locs hP hD hS => ?_)
      refine lv_aload_n hx hb dX4_put_38 rfl (lv_at hl 1 rfl) ?_
      refine va_get (D := gD G) (ci := 4) (v := .ref (ad 0)) (C := RX4) (T := TX4) (N := 7) hx hb hts hin_X4_put_X4 hown hKK.1 hP 0 rfl rfl 2 (by decide) (hts _ lk_X4_put_22) (fun _ h9 => h9) rfl dX4_put_39 ?_
      refine va_get (D := gD G) (ci := 1) (v := .int (nI (N + (lgF 8 x 0)))) (C := RX1) (T := TX1) (N := 2) hx hb hts hin_X4_put_X1 hown hKK.1 hP 3 rfl rfl 1 (by decide) (hts _ lk_X4_put_155) (fun _ h9 => h9) rfl dX4_put_42 ?_
      exact ex_MUi (w2 := (List.flatten [bMw G oa ra ta ad qa ha S sv, bPw G ad (apG x N (lgF 8 x 0) N pd) (N + (lgF 8 x 0)), bQw qa pp k, bHw G ha B ol sz, rW G ra v, rW G ta u, fam G 6 B VH, fam G 2 S VS])) hx hb hr hlocks hP hS dX4_put_45 (by rw [c_6, c_23x] <;> rfl) (fun h => by rw [c_6, c_23x]; exact h)
    · skip
      have c_23 : ¬ ((N + lgF 8 x 0) ≤ 64) := fun q => c_23 ((nI_leI (a := N + lgF 8 x 0) (b := 64) (by omega) (by omega)).mpr q)
      have c_23x : decide (N + lgF 8 x 0 ≤ 64) = false := decide_eq_false c_23
      refine lv_bipush (v := (-4)) hx hb dX4_put_26 (by decide) ?_
      exact ex_MUi (w2 := (List.flatten [bMw G oa ra ta ad qa ha S sv, bPw G ad pd N, bQw qa pp k, bHw G ha B ol sz, rW G ra v, rW G ta u, fam G 6 B VH, fam G 2 S VS])) hx hb hr hlocks hP hS dX4_put_28 (by rw [c_6, c_23x] <;> rfl) (fun h => by rw [c_6, c_23x]; exact h)
  · skip
    have c_6 : decide (lgF 8 x 0 = 0) = true := decide_eq_true ((nI_eq (b := 0) (by omega) (by omega)).mp c_6)
    refine lv_bipush (v := (-2)) hx hb dX4_put_9 (by decide) ?_
    exact ex_MUi (w2 := (List.flatten [bMw G oa ra ta ad qa ha S sv, bPw G ad pd N, bQw qa pp k, bHw G ha B ol sz, rW G ra v, rW G ta u, fam G 6 B VH, fam G 2 S VS])) hx hb hr hlocks hP hS dX4_put_11 (by rw [c_6] <;> rfl) (fun h => by rw [c_6]; exact h)
set_option maxRecDepth 20000 in
theorem hin_X4_wipe_X4 : ∀ w ∈ u_ws RX4 TX4 7, w ∈ wsX4_wipe := by decide +kernel
theorem lk_X4_wipe_22 : Cond.fieldLink RX4 22 "WeldedRelays" "pad" "LWeldedRelays$Pad;" ∈ wsX4_wipe := by decide +kernel
set_option maxRecDepth 20000 in
theorem hin_X4_wipe_X1 : ∀ w ∈ u_ws RX1 TX1 2, w ∈ wsX4_wipe := by decide +kernel
theorem lk_X4_wipe_155 : Cond.fieldLink RX4 155 "WeldedRelays$Pad" "length" "I" ∈ wsX4_wipe := by decide +kernel
set_option maxHeartbeats 4000000 in
set_option maxRecDepth 100000 in
/-- X4_wipe -/
theorem c_X4_wipe (l : Launch) (G : GG) (oa : Nat → Nat) (ra : Nat → Nat) (ta : Nat → Nat) (ad : Nat → Nat) (qa : Nat → Nat) (ha : Nat → Nat) (B : Nat → Nat → Nat) (S : Nat → Nat → Nat) (v : Nat → Int32) (u : Nat → Int32) (VH : Nat → Nat → Int32) (VS : Nat → Nat → Int32) (sv : Nat → Int32) (pd : Nat → Int32) (N : Nat) (pp : Nat) (k : Nat) (ol : Nat) (sz : Nat) (hn : N ≤ 64) (hk : k < 10) (hol : ol < 6) (hsz : sz ≤ 6) (hI : RI v) (hU : RI u) : Met l yX4_wipe wsX4_wipe ({ frames := 1, cells := 0, slots := 0, locals := 20 }) (pcM G [.ref (oa 0)] (List.flatten [bMw G oa ra ta ad qa ha S sv, bPw G ad pd N, bQw qa pp k, bHw G ha B ol sz, rW G ra v, rW G ta u, fam G 6 B VH, fam G 2 S VS])) (qMU G (some (.int (nI N))) (List.flatten [bMw G oa ra ta ad qa ha S sv, bPw G ad pd N, bQw qa pp k, bHw G ha B ol sz, rW G ra v, rW G ta u, fam G 6 B VH, fam G 2 S VS]) (List.flatten [bMw G oa ra ta ad qa ha S sv, bPw G ad pd 0, bQw qa pp k, bHw G ha B ol sz, rW G ra v, rW G ta u, fam G 6 B VH, fam G 2 S VS])) 0 0 (aA (List.flatten [bMw G oa ra ta ad qa ha S sv, bPw G ad pd N, bQw qa pp k, bHw G ha B ol sz, rW G ra v, rW G ta u, fam G 6 B VH, fam G 2 S VS])) := by
  refine hd_MU (cc := cX4_wipe) (maxL := 2) (ret := some .int) (by decide) rfl (Nat.le_of_ble_eq_true rfl) ?_
  intro p e s m below meth c ls hx hb hr hts hown hlocks hml hP hKK hD hS hl
  have hl : lv_has ls 2 [(0, .ref (oa 0))] := hl
  refine lv_aload_n hx hb dX4_wipe_0 rfl (lv_at hl 0 rfl) ?_
  refine va_get (D := gD G) (ci := 4) (v := .ref (ad 0)) (C := RX4) (T := TX4) (N := 7) hx hb hts hin_X4_wipe_X4 hown hKK.1 hP 0 rfl rfl 2 (by decide) (hts _ lk_X4_wipe_22) (fun _ h9 => h9) rfl dX4_wipe_1 ?_
  refine va_get (D := gD G) (ci := 1) (v := .int (nI N)) (C := RX1) (T := TX1) (N := 2) hx hb hts hin_X4_wipe_X1 hown hKK.1 hP 3 rfl rfl 1 (by decide) (hts _ lk_X4_wipe_155) (fun _ h9 => h9) rfl dX4_wipe_4 ?_
  refine lv_istore_n (lv' := [(1, .int (nI N)), (0, .ref (oa 0))]) hx hb dX4_wipe_7 rfl hl (by decide) rfl (fun ls hl => ?_)
  refine lv_aload_n hx hb dX4_wipe_8 rfl (lv_at hl 1 rfl) ?_
  refine va_get (D := gD G) (ci := 4) (v := .ref (ad 0)) (C := RX4) (T := TX4) (N := 7) hx hb hts hin_X4_wipe_X4 hown hKK.1 hP 0 rfl rfl 2 (by decide) (hts _ lk_X4_wipe_22) (fun _ h9 => h9) rfl dX4_wipe_9 ?_
  refine mu_VF (ws := (List.flatten [bMw G oa ra ta ad qa ha S sv, bPw G ad pd N, bQw qa pp k, bHw G ha B ol sz, rW G ra v, rW G ta u, fam G 6 B VH, fam G 2 S VS])) (ws' := (List.flatten [bMw G oa ra ta ad qa ha S sv, bPw G ad pd 0, bQw qa pp k, bHw G ha B ol sz, rW G ra v, rW G ta u, fam G 6 B VH, fam G 2 S VS])) (wr := (List.flatten [bMw G oa ra ta ad qa ha S sv, bQw qa pp k, bHw G ha B ol sz, rW G ra v, rW G ta u, fam G 6 B VH, fam G 2 S VS])) (As := []) (rest := []) ⟨hx, hb, hml, hown, hts⟩ (c_X1_clear l G ad pd N) (cwV 0 hts gX4_wipe_X1_clear rfl rfl rfl (by decide +kernel) ⟨Nat.le_of_ble_eq_true rfl, Nat.le_of_ble_eq_true rfl⟩) (segs_oneN [bMw G oa ra ta ad qa ha S sv, bPw G ad pd N, bQw qa pp k, bHw G ha B ol sz, rW G ra v, rW G ta u, fam G 6 B VH, fam G 2 S VS] 1 [0, 2, 3, 4, 5, 6, 7] 8 (by decide) rfl rfl rfl) (segs_oneN [bMw G oa ra ta ad qa ha S sv, bPw G ad pd 0, bQw qa pp k, bHw G ha B ol sz, rW G ra v, rW G ta u, fam G 6 B VH, fam G 2 S VS] 1 [0, 2, 3, 4, 5, 6, 7] 8 (by decide) rfl rfl rfl) hP hKK hD hS (va_recv hKK.1 hP (ci := 1) (q0 := 3) rfl rfl) rfl hl.1 rfl (Nat.le_of_ble_eq_true rfl) dX4_wipe_12 (Nat.zero_le _) (Nat.zero_le _) rfl (fun H locs hP hD hS => ?_)
  refine lv_iload_n hx hb dX4_wipe_15 rfl (lv_at hl 0 rfl) ?_
  exact ex_MUi (w2 := (List.flatten [bMw G oa ra ta ad qa ha S sv, bPw G ad pd 0, bQw qa pp k, bHw G ha B ol sz, rW G ra v, rW G ta u, fam G 6 B VH, fam G 2 S VS])) hx hb hr hlocks hP hS dX4_wipe_16 (rfl) (fun h => h)
