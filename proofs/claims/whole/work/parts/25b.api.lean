set_option maxRecDepth 20000 in
theorem hin_X4_pass_X4 : ∀ w ∈ u_ws RX4 TX4 7, w ∈ wsX4_pass := by decide +kernel
theorem lk_X4_pass_36 : Cond.fieldLink RX4 36 "WeldedRelays" "history" "LWeldedRelays$History;" ∈ wsX4_pass := by decide +kernel
theorem lk_X4_pass_12 : Cond.fieldLink RX4 12 "WeldedRelays" "room" "LWeldedRelays$Room;" ∈ wsX4_pass := by decide +kernel
set_option maxRecDepth 20000 in
theorem hin_X4_pass_X3 : ∀ w ∈ u_ws RX3 TX3 14, w ∈ wsX4_pass := by decide +kernel
theorem lk_X4_pass_104 : Cond.fieldLink RX4 104 "WeldedRelays$Room" "moves" "I" ∈ wsX4_pass := by decide +kernel
set_option maxHeartbeats 4000000 in
set_option maxRecDepth 100000 in
/-- X4_pass -/
theorem c_X4_pass (l : Launch) (G : GG) (oa : Nat → Nat) (ra : Nat → Nat) (ta : Nat → Nat) (ad : Nat → Nat) (qa : Nat → Nat) (ha : Nat → Nat) (B : Nat → Nat → Nat) (S : Nat → Nat → Nat) (v : Nat → Int32) (u : Nat → Int32) (VH : Nat → Nat → Int32) (VS : Nat → Nat → Int32) (sv : Nat → Int32) (pd : Nat → Int32) (N : Nat) (pp : Nat) (k : Nat) (ol : Nat) (sz : Nat) (t : Int32) (hn : N ≤ 64) (hk : k < 10) (hol : ol < 6) (hsz : sz ≤ 6) (hI : RI v) (hU : RI u) : Met l yX4_pass wsX4_pass ({ frames := 5, cells := 0, slots := 0, locals := 109 }) (pcM G [.ref (oa 0), .int t] (List.flatten [bMw G oa ra ta ad qa ha S sv, bPw G ad pd N, bQw qa pp k, bHw G ha B ol sz, rW G ra v, rW G ta u, fam G 6 B VH, fam G 2 S VS])) (qMU G (some (.int (cond (inr t 1 200) (tickN (rk t) v 4 - v 4) (-2)))) (List.flatten [bMw G oa ra ta ad qa ha S sv, bPw G ad pd N, bQw qa pp k, bHw G ha B ol sz, rW G ra v, rW G ta u, fam G 6 B VH, fam G 2 S VS]) (List.flatten [bMw G oa ra ta ad qa ha S sv, bPw G ad pd N, bQw qa pp k, bHw G ha B (cond (inr t 1 200) (recO ol sz) (ol)) (cond (inr t 1 200) (recZ sz) (sz)), rW G ra (cond (inr t 1 200) (tickN (rk t) v) (v)), rW G ta u, fam G 6 B (cond (inr t 1 200) (recV VH ol sz v) (VH)), fam G 2 S VS])) 0 0 (aA (List.flatten [bMw G oa ra ta ad qa ha S sv, bPw G ad pd N, bQw qa pp k, bHw G ha B ol sz, rW G ra v, rW G ta u, fam G 6 B VH, fam G 2 S VS])) := by
  refine hd_MU (cc := cX4_pass) (maxL := 3) (ret := some .int) (by decide) rfl (Nat.le_of_ble_eq_true rfl) ?_
  intro p e s m below meth c ls hx hb hr hts hown hlocks hml hP hKK hD hS hl
  have hl : lv_has ls 3 [(0, .ref (oa 0)), (1, .int t)] := hl
  refine lv_iload_n hx hb dX4_pass_0 rfl (lv_at hl 1 rfl) ?_
  refine lv_iconst (v := 1) hx hb dX4_pass_1 (by decide) ?_
  refine lv_sipush (v := 200) hx hb dX4_pass_2 (by decide) ?_
  refine ro_S (As := [.int t, .int 1, .int 200]) (rest := []) ⟨hx, hb, hml, hown, hts⟩ (c_X4_isWithin l G t 1 200) (va_cwS 3 hts gX4_pass_X4_isWithin rfl rfl rfl (by decide +kernel) ⟨Nat.le_of_ble_eq_true rfl, Nat.le_of_ble_eq_true rfl⟩) (show gP G [] _ from fun k q h => by simp at h) hKK rfl hl.1 rfl (Nat.le_of_ble_eq_true rfl) dX4_pass_5 (Nat.zero_le _) (Nat.zero_le _) ?_
  refine lv_if_ne (tgt := 14) hx hb dX4_pass_8 (by decide) (fun c_8 => ?_) (fun c_8 => ?_)
  · skip
    have c_8 := b2i_1 c_8
    have ht9 := inr_r200 c_8
    have hl : lv_has ls 3 [(0, .ref (oa 0)), (1, .int (nI (rk t)))] := by have e_l1 : t = (nI (rk t)) := (ht9.1); rw [← e_l1]; exact hl
    refine lv_aload_n hx hb dX4_pass_14 rfl (lv_at hl 0 rfl) ?_
    refine va_get (D := gD G) (ci := 4) (v := .ref (ha 0)) (C := RX4) (T := TX4) (N := 7) hx hb hts hin_X4_pass_X4 hown hKK.1 hP 0 rfl rfl 4 (by decide) (hts _ lk_X4_pass_36) (fun _ h9 => h9) rfl dX4_pass_15 ?_
    refine lv_aload_n hx hb dX4_pass_18 rfl (lv_at hl 0 rfl) ?_
    refine va_get (D := gD G) (ci := 4) (v := .ref (ra 0)) (C := RX4) (T := TX4) (N := 7) hx hb hts hin_X4_pass_X4 hown hKK.1 hP 0 rfl rfl 0 (by decide) (hts _ lk_X4_pass_12) (fun _ h9 => h9) rfl dX4_pass_19 ?_
    refine mu_VF (ws := (List.flatten [bMw G oa ra ta ad qa ha S sv, bPw G ad pd N, bQw qa pp k, bHw G ha B ol sz, rW G ra v, rW G ta u, fam G 6 B VH, fam G 2 S VS])) (ws' := (List.flatten [bMw G oa ra ta ad qa ha S sv, bPw G ad pd N, bQw qa pp k, bHw G ha B (recO ol sz) (recZ sz), rW G ra v, rW G ta u, fam G 6 B (recV VH ol sz v), fam G 2 S VS])) (wr := (List.flatten [bMw G oa ra ta ad qa ha S sv, bPw G ad pd N, bQw qa pp k, rW G ta u, fam G 2 S VS])) (As := [.ref (ra 0)]) (rest := []) ⟨hx, hb, hml, hown, hts⟩ (c_X0_record l G ha ra B v VH ol sz (by omega) (by omega)) (cwV 1 hts gX4_pass_X0_record rfl rfl rfl (by decide +kernel) ⟨Nat.le_of_ble_eq_true rfl, Nat.le_of_ble_eq_true rfl⟩) (segs_twoN [bMw G oa ra ta ad qa ha S sv, bPw G ad pd N, bQw qa pp k, bHw G ha B ol sz, rW G ra v, rW G ta u, fam G 6 B VH, fam G 2 S VS] [3, 4, 6] [0, 1, 2, 5, 7] 8 (by decide) rfl rfl rfl) (segs_twoN [bMw G oa ra ta ad qa ha S sv, bPw G ad pd N, bQw qa pp k, bHw G ha B (recO ol sz) (recZ sz), rW G ra v, rW G ta u, fam G 6 B (recV VH ol sz v), fam G 2 S VS] [3, 4, 6] [0, 1, 2, 5, 7] 8 (by decide) rfl rfl rfl) hP hKK hD hS (va_recv hKK.1 hP (ci := 0) (q0 := 6) rfl rfl) rfl hl.1 rfl (Nat.le_of_ble_eq_true rfl) dX4_pass_22 (Nat.zero_le _) (Nat.zero_le _) (flat_addr rfl) (fun H locs hP hD hS => ?_)
    refine lv_aload_n hx hb dX4_pass_25 rfl (lv_at hl 0 rfl) ?_
    refine va_get (D := gD G) (ci := 4) (v := .ref (ra 0)) (C := RX4) (T := TX4) (N := 7) hx hb hts hin_X4_pass_X4 hown hKK.1 hP 0 rfl rfl 0 (by decide) (hts _ lk_X4_pass_12) (fun _ h9 => h9) rfl dX4_pass_26 ?_
    refine va_get (D := gD G) (ci := 3) (v := .int (v 4)) (C := RX3) (T := TX3) (N := 14) hx hb hts hin_X4_pass_X3 hown hKK.1 hP 8 rfl rfl 5 (by decide) (hts _ lk_X4_pass_104) (fun _ h9 => h9) rfl dX4_pass_29 ?_
    refine lv_istore_n (lv' := [(2, .int (v 4)), (0, .ref (oa 0)), (1, .int (nI (rk t)))]) hx hb dX4_pass_32 rfl hl (by decide) rfl (fun ls hl => ?_)
    refine lv_aload_n hx hb dX4_pass_33 rfl (lv_at hl 1 rfl) ?_
    refine va_get (D := gD G) (ci := 4) (v := .ref (ra 0)) (C := RX4) (T := TX4) (N := 7) hx hb hts hin_X4_pass_X4 hown hKK.1 hP 0 rfl rfl 0 (by decide) (hts _ lk_X4_pass_12) (fun _ h9 => h9) rfl dX4_pass_34 ?_
    refine lv_iload_n hx hb dX4_pass_37 rfl (lv_at hl 2 rfl) ?_
    refine mu_VF (ws := (List.flatten [bMw G oa ra ta ad qa ha S sv, bPw G ad pd N, bQw qa pp k, bHw G ha B (recO ol sz) (recZ sz), rW G ra v, rW G ta u, fam G 6 B (recV VH ol sz v), fam G 2 S VS])) (ws' := (List.flatten [bMw G oa ra ta ad qa ha S sv, bPw G ad pd N, bQw qa pp k, bHw G ha B (recO ol sz) (recZ sz), rW G ra (tickN (rk t) v), rW G ta u, fam G 6 B (recV VH ol sz v), fam G 2 S VS])) (wr := (List.flatten [bMw G oa ra ta ad qa ha S sv, bPw G ad pd N, bQw qa pp k, bHw G ha B (recO ol sz) (recZ sz), rW G ta u, fam G 6 B (recV VH ol sz v), fam G 2 S VS])) (As := [.int (nI (rk t))]) (rest := []) ⟨hx, hb, hml, hown, hts⟩ (c_X3_passTicks l G ra v (rk t) (by omega) (by assumption)) (cwV 1 hts gX4_pass_X3_passTicks rfl rfl rfl (by decide +kernel) ⟨Nat.le_of_ble_eq_true rfl, Nat.le_of_ble_eq_true rfl⟩) (segs_oneN [bMw G oa ra ta ad qa ha S sv, bPw G ad pd N, bQw qa pp k, bHw G ha B (recO ol sz) (recZ sz), rW G ra v, rW G ta u, fam G 6 B (recV VH ol sz v), fam G 2 S VS] 4 [0, 1, 2, 3, 5, 6, 7] 8 (by decide) rfl rfl rfl) (segs_oneN [bMw G oa ra ta ad qa ha S sv, bPw G ad pd N, bQw qa pp k, bHw G ha B (recO ol sz) (recZ sz), rW G ra (tickN (rk t) v), rW G ta u, fam G 6 B (recV VH ol sz v), fam G 2 S VS] 4 [0, 1, 2, 3, 5, 6, 7] 8 (by decide) rfl rfl rfl) hP hKK hD hS (va_recv hKK.1 hP (ci := 3) (q0 := 8) rfl rfl) rfl hl.1 rfl (Nat.le_of_ble_eq_true rfl) dX4_pass_38 (Nat.zero_le _) (Nat.zero_le _) rfl (fun H locs hP hD hS => ?_)
    refine lv_aload_n hx hb dX4_pass_41 rfl (lv_at hl 1 rfl) ?_
    refine va_get (D := gD G) (ci := 4) (v := .ref (ra 0)) (C := RX4) (T := TX4) (N := 7) hx hb hts hin_X4_pass_X4 hown hKK.1 hP 0 rfl rfl 0 (by decide) (hts _ lk_X4_pass_12) (fun _ h9 => h9) rfl dX4_pass_42 ?_
    refine va_get (D := gD G) (ci := 3) (v := .int ((tickN (rk t) v) 4)) (C := RX3) (T := TX3) (N := 14) hx hb hts hin_X4_pass_X3 hown hKK.1 hP 8 rfl rfl 5 (by decide) (hts _ lk_X4_pass_104) (fun _ h9 => h9) rfl dX4_pass_45 ?_
    refine lv_iload_n hx hb dX4_pass_48 rfl (lv_at hl 0 rfl) ?_
    refine lv_isub hx hb dX4_pass_49 ?_
    exact ex_MUi (w2 := (List.flatten [bMw G oa ra ta ad qa ha S sv, bPw G ad pd N, bQw qa pp k, bHw G ha B (recO ol sz) (recZ sz), rW G ra (tickN (rk t) v), rW G ta u, fam G 6 B (recV VH ol sz v), fam G 2 S VS])) hx hb hr hlocks hP hS dX4_pass_50 (by rw [c_8] <;> rfl) (fun h => by rw [c_8]; exact h)
  · skip
    have c_8 := b2i_0 c_8
    refine lv_bipush (v := (-2)) hx hb dX4_pass_11 (by decide) ?_
    exact ex_MUi (w2 := (List.flatten [bMw G oa ra ta ad qa ha S sv, bPw G ad pd N, bQw qa pp k, bHw G ha B ol sz, rW G ra v, rW G ta u, fam G 6 B VH, fam G 2 S VS])) hx hb hr hlocks hP hS dX4_pass_13 (by rw [c_8] <;> rfl) (fun h => by rw [c_8]; exact h)
set_option maxRecDepth 20000 in
theorem hin_X4_settle_X4 : ∀ w ∈ u_ws RX4 TX4 7, w ∈ wsX4_settle := by decide +kernel
theorem lk_X4_settle_36 : Cond.fieldLink RX4 36 "WeldedRelays" "history" "LWeldedRelays$History;" ∈ wsX4_settle := by decide +kernel
theorem lk_X4_settle_12 : Cond.fieldLink RX4 12 "WeldedRelays" "room" "LWeldedRelays$Room;" ∈ wsX4_settle := by decide +kernel
set_option maxHeartbeats 4000000 in
set_option maxRecDepth 100000 in
/-- X4_settle -/
theorem c_X4_settle (l : Launch) (G : GG) (oa : Nat → Nat) (ra : Nat → Nat) (ta : Nat → Nat) (ad : Nat → Nat) (qa : Nat → Nat) (ha : Nat → Nat) (B : Nat → Nat → Nat) (S : Nat → Nat → Nat) (v : Nat → Int32) (u : Nat → Int32) (VH : Nat → Nat → Int32) (VS : Nat → Nat → Int32) (sv : Nat → Int32) (pd : Nat → Int32) (N : Nat) (pp : Nat) (k : Nat) (ol : Nat) (sz : Nat) (hn : N ≤ 64) (hk : k < 10) (hol : ol < 6) (hsz : sz ≤ 6) (hI : RI v) (hU : RI u) : Met l yX4_settle wsX4_settle ({ frames := 5, cells := 0, slots := 0, locals := 109 }) (pcM G [.ref (oa 0)] (List.flatten [bMw G oa ra ta ad qa ha S sv, bPw G ad pd N, bQw qa pp k, bHw G ha B ol sz, rW G ra v, rW G ta u, fam G 6 B VH, fam G 2 S VS])) (qMU G (some (.int (setlR v))) (List.flatten [bMw G oa ra ta ad qa ha S sv, bPw G ad pd N, bQw qa pp k, bHw G ha B ol sz, rW G ra v, rW G ta u, fam G 6 B VH, fam G 2 S VS]) (List.flatten [bMw G oa ra ta ad qa ha S sv, bPw G ad pd N, bQw qa pp k, bHw G ha B (recO ol sz) (recZ sz), rW G ra (stlV 200 v), rW G ta u, fam G 6 B (recV VH ol sz v), fam G 2 S VS])) 0 0 (aA (List.flatten [bMw G oa ra ta ad qa ha S sv, bPw G ad pd N, bQw qa pp k, bHw G ha B ol sz, rW G ra v, rW G ta u, fam G 6 B VH, fam G 2 S VS])) := by
  refine hd_MU (cc := cX4_settle) (maxL := 1) (ret := some .int) (by decide) rfl (Nat.le_of_ble_eq_true rfl) ?_
  intro p e s m below meth c ls hx hb hr hts hown hlocks hml hP hKK hD hS hl
  have hl : lv_has ls 1 [(0, .ref (oa 0))] := hl
  refine lv_aload_n hx hb dX4_settle_0 rfl (lv_at hl 0 rfl) ?_
  refine va_get (D := gD G) (ci := 4) (v := .ref (ha 0)) (C := RX4) (T := TX4) (N := 7) hx hb hts hin_X4_settle_X4 hown hKK.1 hP 0 rfl rfl 4 (by decide) (hts _ lk_X4_settle_36) (fun _ h9 => h9) rfl dX4_settle_1 ?_
  refine lv_aload_n hx hb dX4_settle_4 rfl (lv_at hl 0 rfl) ?_
  refine va_get (D := gD G) (ci := 4) (v := .ref (ra 0)) (C := RX4) (T := TX4) (N := 7) hx hb hts hin_X4_settle_X4 hown hKK.1 hP 0 rfl rfl 0 (by decide) (hts _ lk_X4_settle_12) (fun _ h9 => h9) rfl dX4_settle_5 ?_
  refine mu_VF (ws := (List.flatten [bMw G oa ra ta ad qa ha S sv, bPw G ad pd N, bQw qa pp k, bHw G ha B ol sz, rW G ra v, rW G ta u, fam G 6 B VH, fam G 2 S VS])) (ws' := (List.flatten [bMw G oa ra ta ad qa ha S sv, bPw G ad pd N, bQw qa pp k, bHw G ha B (recO ol sz) (recZ sz), rW G ra v, rW G ta u, fam G 6 B (recV VH ol sz v), fam G 2 S VS])) (wr := (List.flatten [bMw G oa ra ta ad qa ha S sv, bPw G ad pd N, bQw qa pp k, rW G ta u, fam G 2 S VS])) (As := [.ref (ra 0)]) (rest := []) ⟨hx, hb, hml, hown, hts⟩ (c_X0_record l G ha ra B v VH ol sz (by omega) (by omega)) (cwV 1 hts gX4_settle_X0_record rfl rfl rfl (by decide +kernel) ⟨Nat.le_of_ble_eq_true rfl, Nat.le_of_ble_eq_true rfl⟩) (segs_twoN [bMw G oa ra ta ad qa ha S sv, bPw G ad pd N, bQw qa pp k, bHw G ha B ol sz, rW G ra v, rW G ta u, fam G 6 B VH, fam G 2 S VS] [3, 4, 6] [0, 1, 2, 5, 7] 8 (by decide) rfl rfl rfl) (segs_twoN [bMw G oa ra ta ad qa ha S sv, bPw G ad pd N, bQw qa pp k, bHw G ha B (recO ol sz) (recZ sz), rW G ra v, rW G ta u, fam G 6 B (recV VH ol sz v), fam G 2 S VS] [3, 4, 6] [0, 1, 2, 5, 7] 8 (by decide) rfl rfl rfl) hP hKK hD hS (va_recv hKK.1 hP (ci := 0) (q0 := 6) rfl rfl) rfl hl.1 rfl (Nat.le_of_ble_eq_true rfl) dX4_settle_8 (Nat.zero_le _) (Nat.zero_le _) (flat_addr rfl) (fun H locs hP hD hS => ?_)
  refine lv_aload_n hx hb dX4_settle_11 rfl (lv_at hl 0 rfl) ?_
  refine va_get (D := gD G) (ci := 4) (v := .ref (ra 0)) (C := RX4) (T := TX4) (N := 7) hx hb hts hin_X4_settle_X4 hown hKK.1 hP 0 rfl rfl 0 (by decide) (hts _ lk_X4_settle_12) (fun _ h9 => h9) rfl dX4_settle_12 ?_
  refine mu_VF (ws := (List.flatten [bMw G oa ra ta ad qa ha S sv, bPw G ad pd N, bQw qa pp k, bHw G ha B (recO ol sz) (recZ sz), rW G ra v, rW G ta u, fam G 6 B (recV VH ol sz v), fam G 2 S VS])) (ws' := (List.flatten [bMw G oa ra ta ad qa ha S sv, bPw G ad pd N, bQw qa pp k, bHw G ha B (recO ol sz) (recZ sz), rW G ra (stlV 200 v), rW G ta u, fam G 6 B (recV VH ol sz v), fam G 2 S VS])) (wr := (List.flatten [bMw G oa ra ta ad qa ha S sv, bPw G ad pd N, bQw qa pp k, bHw G ha B (recO ol sz) (recZ sz), rW G ta u, fam G 6 B (recV VH ol sz v), fam G 2 S VS])) (As := []) (rest := []) ⟨hx, hb, hml, hown, hts⟩ (c_X3_ticksUntilRest l G ra v (by assumption)) (cwV 0 hts gX4_settle_X3_ticksUntilRest rfl rfl rfl (by decide +kernel) ⟨Nat.le_of_ble_eq_true rfl, Nat.le_of_ble_eq_true rfl⟩) (segs_oneN [bMw G oa ra ta ad qa ha S sv, bPw G ad pd N, bQw qa pp k, bHw G ha B (recO ol sz) (recZ sz), rW G ra v, rW G ta u, fam G 6 B (recV VH ol sz v), fam G 2 S VS] 4 [0, 1, 2, 3, 5, 6, 7] 8 (by decide) rfl rfl rfl) (segs_oneN [bMw G oa ra ta ad qa ha S sv, bPw G ad pd N, bQw qa pp k, bHw G ha B (recO ol sz) (recZ sz), rW G ra (stlV 200 v), rW G ta u, fam G 6 B (recV VH ol sz v), fam G 2 S VS] 4 [0, 1, 2, 3, 5, 6, 7] 8 (by decide) rfl rfl rfl) hP hKK hD hS (va_recv hKK.1 hP (ci := 3) (q0 := 8) rfl rfl) rfl hl.1 rfl (Nat.le_of_ble_eq_true rfl) dX4_settle_15 (Nat.zero_le _) (Nat.zero_le _) rfl (fun H locs hP hD hS => ?_)
  exact ex_MUi (w2 := (List.flatten [bMw G oa ra ta ad qa ha S sv, bPw G ad pd N, bQw qa pp k, bHw G ha B (recO ol sz) (recZ sz), rW G ra (stlV 200 v), rW G ta u, fam G 6 B (recV VH ol sz v), fam G 2 S VS])) hx hb hr hlocks hP hS dX4_settle_18 (rfl) (fun h => h)
set_option maxRecDepth 20000 in
theorem hin_X4_relay_X4 : ∀ w ∈ u_ws RX4 TX4 7, w ∈ wsX4_relay := by decide +kernel
theorem lk_X4_relay_12 : Cond.fieldLink RX4 12 "WeldedRelays" "room" "LWeldedRelays$Room;" ∈ wsX4_relay := by decide +kernel
set_option maxRecDepth 20000 in
theorem hin_X4_relay_X3 : ∀ w ∈ u_ws RX3 TX3 14, w ∈ wsX4_relay := by decide +kernel
theorem lk_X4_relay_95 : Cond.fieldLink RX4 95 "WeldedRelays$Room" "up" "I" ∈ wsX4_relay := by decide +kernel
theorem lk_X4_relay_98 : Cond.fieldLink RX4 98 "WeldedRelays$Room" "welded" "I" ∈ wsX4_relay := by decide +kernel
theorem lk_X4_relay_121 : Cond.fieldLink RX4 121 "WeldedRelays$Room" "waits" "[I" ∈ wsX4_relay := by decide +kernel
theorem lk_X4_relay_101 : Cond.fieldLink RX4 101 "WeldedRelays$Room" "operations" "[I" ∈ wsX4_relay := by decide +kernel
theorem lk_X4_relay_64 : Cond.fieldLink RX4 64 "WeldedRelays$Room" "pickTimes" "[I" ∈ wsX4_relay := by decide +kernel
theorem lk_X4_relay_60 : Cond.fieldLink RX4 60 "WeldedRelays$Room" "dropTimes" "[I" ∈ wsX4_relay := by decide +kernel
theorem lk_X4_relay_124 : Cond.fieldLink RX4 124 "WeldedRelays$Room" "branchCounts" "[I" ∈ wsX4_relay := by decide +kernel
set_option maxHeartbeats 4000000 in
set_option maxRecDepth 100000 in
/-- X4_relay -/
theorem c_X4_relay (l : Launch) (G : GG) (oa : Nat → Nat) (ra : Nat → Nat) (ta : Nat → Nat) (ad : Nat → Nat) (qa : Nat → Nat) (ha : Nat → Nat) (B : Nat → Nat → Nat) (S : Nat → Nat → Nat) (v : Nat → Int32) (u : Nat → Int32) (VH : Nat → Nat → Int32) (VS : Nat → Nat → Int32) (sv : Nat → Int32) (pd : Nat → Int32) (N : Nat) (pp : Nat) (k : Nat) (ol : Nat) (sz : Nat) (r : Int32) (x : Int32) (hn : N ≤ 64) (hk : k < 10) (hol : ol < 6) (hsz : sz ≤ 6) (hI : RI v) (hU : RI u) : Met l yX4_relay wsX4_relay ({ frames := 4, cells := 0, slots := 0, locals := 90 }) (pcW G [.ref (oa 0), .int r, .int x] (List.flatten [bMw G oa ra ta ad qa ha S sv, bPw G ad pd N, bQw qa pp k, bHw G ha B ol sz, rW G ra v, rW G ta u, fam G 6 B VH, fam G 2 S VS])) (qRO (.int (cond (inr r 0 9) (cond (inr x 0 10) (rel11i v (rk r) (rk x)) (-2)) (-1)))) 0 0 nofree := by
  refine hd_RO (cc := cX4_relay) (maxL := 3) (ret := some .int) (by decide) rfl (Nat.le_of_ble_eq_true rfl) ?_
  intro p e s m below meth c ls hx hb hr hts hown hlocks hml hP hKK hl
  have hl : lv_has ls 3 [(0, .ref (oa 0)), (1, .int r), (2, .int x)] := hl
  refine lv_iload_n hx hb dX4_relay_0 rfl (lv_at hl 1 rfl) ?_
  refine ro_S (As := [.int r]) (rest := []) ⟨hx, hb, hml, hown, hts⟩ (c_X4_isRelay l G r) (va_cwS 1 hts gX4_relay_X4_isRelay rfl rfl rfl (by decide +kernel) ⟨Nat.le_of_ble_eq_true rfl, Nat.le_of_ble_eq_true rfl⟩) (show gP G [] _ from fun k q h => by simp at h) hKK rfl hl.1 rfl (Nat.le_of_ble_eq_true rfl) dX4_relay_1 (Nat.zero_le _) (Nat.zero_le _) ?_
  refine lv_if_ne (tgt := 9) hx hb dX4_relay_4 (by decide) (fun c_4 => ?_) (fun c_4 => ?_)
  · skip
    have c_4 := b2i_1 c_4
    have hr9 := inr_rk c_4
    have hl : lv_has ls 3 [(0, .ref (oa 0)), (1, .int (nI (rk r))), (2, .int x)] := by have e_l1 : r = (nI (rk r)) := (hr9.1); rw [← e_l1]; exact hl
    refine lv_iload_n hx hb dX4_relay_9 rfl (lv_at hl 2 rfl) ?_
    rcases sw_of x 10 with ⟨k_10, hk_10, ek_10⟩ | c_10
    · rcases (show k_10 = 0 ∨ k_10 = 1 ∨ k_10 = 2 ∨ k_10 = 3 ∨ k_10 = 4 ∨ k_10 = 5 ∨ k_10 = 6 ∨ k_10 = 7 ∨ k_10 = 8 ∨ k_10 = 9 ∨ k_10 = 10 by omega) with rfl | rfl | rfl | rfl | rfl | rfl | rfl | rfl | rfl | rfl | rfl
      · skip
        refine lv_asi ek_10 ?_
        refine lv_tableIn (off := 58) (tgt := 68) hx hb dX4_relay_10 (by decide) (by decide) (by decide) (by decide) ?_
        refine lv_aload_n hx hb dX4_relay_68 rfl (lv_at hl 0 rfl) ?_
        refine va_get (D := gD G) (ci := 4) (v := .ref (ra 0)) (C := RX4) (T := TX4) (N := 7) hx hb hts hin_X4_relay_X4 hown hKK.1 hP 0 rfl rfl 0 (by decide) (hts _ lk_X4_relay_12) (fun _ h9 => h9) rfl dX4_relay_69 ?_
        refine va_get (D := gD G) (ci := 3) (v := .int (v 0)) (C := RX3) (T := TX3) (N := 14) hx hb hts hin_X4_relay_X3 hown hKK.1 hP 8 rfl rfl 0 (by decide) (hts _ lk_X4_relay_95) (fun _ h9 => h9) rfl dX4_relay_72 ?_
        refine lv_iload_n hx hb dX4_relay_75 rfl (lv_at hl 1 rfl) ?_
        refine ro_S (As := [.int (v 0), .int (nI (rk r))]) (rest := []) ⟨hx, hb, hml, hown, hts⟩ (c_X4_bit l G (v 0) (nI (rk r))) (va_cwS 2 hts gX4_relay_X4_bit rfl rfl rfl (by decide +kernel) ⟨Nat.le_of_ble_eq_true rfl, Nat.le_of_ble_eq_true rfl⟩) (show gP G [] _ from fun k q h => by simp at h) hKK rfl hl.1 rfl (Nat.le_of_ble_eq_true rfl) dX4_relay_76 (Nat.zero_le _) (Nat.zero_le _) ?_
        exact ex_ROi hx hb hr hlocks rfl dX4_relay_79 (by rw [c_4, show inr x 0 10 = true from sw_inr (n := 10) ek_10 (by decide) (by decide), sw_rk ek_10 (by decide)] <;> rfl)
      · skip
        refine lv_asi ek_10 ?_
        refine lv_tableIn (off := 70) (tgt := 80) hx hb dX4_relay_10 (by decide) (by decide) (by decide) (by decide) ?_
        refine lv_aload_n hx hb dX4_relay_80 rfl (lv_at hl 0 rfl) ?_
        refine va_get (D := gD G) (ci := 4) (v := .ref (ra 0)) (C := RX4) (T := TX4) (N := 7) hx hb hts hin_X4_relay_X4 hown hKK.1 hP 0 rfl rfl 0 (by decide) (hts _ lk_X4_relay_12) (fun _ h9 => h9) rfl dX4_relay_81 ?_
        refine ro_V (As := []) (rest := []) ⟨hx, hb, hml, hown, hts⟩ (c_X3_fedRelays l G ra v (by assumption)) (cwV 0 hts gX4_relay_X3_fedRelays rfl rfl rfl (by decide +kernel) ⟨Nat.le_of_ble_eq_true rfl, Nat.le_of_ble_eq_true rfl⟩) (seg_P 4 hP rfl) hKK (va_recv hKK.1 (seg_P 4 hP rfl) (ci := 3) (q0 := 0) rfl rfl) rfl hl.1 rfl (Nat.le_of_ble_eq_true rfl) dX4_relay_84 (Nat.zero_le _) (Nat.zero_le _) ?_
        refine lv_iload_n hx hb dX4_relay_87 rfl (lv_at hl 1 rfl) ?_
        refine ro_S (As := [.int (fedS v), .int (nI (rk r))]) (rest := []) ⟨hx, hb, hml, hown, hts⟩ (c_X4_bit l G (fedS v) (nI (rk r))) (va_cwS 2 hts gX4_relay_X4_bit rfl rfl rfl (by decide +kernel) ⟨Nat.le_of_ble_eq_true rfl, Nat.le_of_ble_eq_true rfl⟩) (show gP G [] _ from fun k q h => by simp at h) hKK rfl hl.1 rfl (Nat.le_of_ble_eq_true rfl) dX4_relay_88 (Nat.zero_le _) (Nat.zero_le _) ?_
        exact ex_ROi hx hb hr hlocks rfl dX4_relay_91 (by rw [c_4, show inr x 0 10 = true from sw_inr (n := 10) ek_10 (by decide) (by decide), sw_rk ek_10 (by decide)] <;> rfl)
      · skip
        refine lv_asi ek_10 ?_
        refine lv_tableIn (off := 82) (tgt := 92) hx hb dX4_relay_10 (by decide) (by decide) (by decide) (by decide) ?_
        refine lv_aload_n hx hb dX4_relay_92 rfl (lv_at hl 0 rfl) ?_
        refine va_get (D := gD G) (ci := 4) (v := .ref (ra 0)) (C := RX4) (T := TX4) (N := 7) hx hb hts hin_X4_relay_X4 hown hKK.1 hP 0 rfl rfl 0 (by decide) (hts _ lk_X4_relay_12) (fun _ h9 => h9) rfl dX4_relay_93 ?_
        refine va_get (D := gD G) (ci := 3) (v := .int (v 1)) (C := RX3) (T := TX3) (N := 14) hx hb hts hin_X4_relay_X3 hown hKK.1 hP 8 rfl rfl 1 (by decide) (hts _ lk_X4_relay_98) (fun _ h9 => h9) rfl dX4_relay_96 ?_
        refine lv_iload_n hx hb dX4_relay_99 rfl (lv_at hl 1 rfl) ?_
        refine ro_S (As := [.int (v 1), .int (nI (rk r))]) (rest := []) ⟨hx, hb, hml, hown, hts⟩ (c_X4_bit l G (v 1) (nI (rk r))) (va_cwS 2 hts gX4_relay_X4_bit rfl rfl rfl (by decide +kernel) ⟨Nat.le_of_ble_eq_true rfl, Nat.le_of_ble_eq_true rfl⟩) (show gP G [] _ from fun k q h => by simp at h) hKK rfl hl.1 rfl (Nat.le_of_ble_eq_true rfl) dX4_relay_100 (Nat.zero_le _) (Nat.zero_le _) ?_
        exact ex_ROi hx hb hr hlocks rfl dX4_relay_103 (by rw [c_4, show inr x 0 10 = true from sw_inr (n := 10) ek_10 (by decide) (by decide), sw_rk ek_10 (by decide)] <;> rfl)
      · skip
        refine lv_asi ek_10 ?_
        refine lv_tableIn (off := 94) (tgt := 104) hx hb dX4_relay_10 (by decide) (by decide) (by decide) (by decide) ?_
        refine lv_aload_n hx hb dX4_relay_104 rfl (lv_at hl 0 rfl) ?_
        refine va_get (D := gD G) (ci := 4) (v := .ref (ra 0)) (C := RX4) (T := TX4) (N := 7) hx hb hts hin_X4_relay_X4 hown hKK.1 hP 0 rfl rfl 0 (by decide) (hts _ lk_X4_relay_12) (fun _ h9 => h9) rfl dX4_relay_105 ?_
        refine ro_V (As := []) (rest := []) ⟨hx, hb, hml, hown, hts⟩ (c_X3_wantingRelays l G ra v (by assumption)) (cwV 0 hts gX4_relay_X3_wantingRelays rfl rfl rfl (by decide +kernel) ⟨Nat.le_of_ble_eq_true rfl, Nat.le_of_ble_eq_true rfl⟩) (seg_P 4 hP rfl) hKK (va_recv hKK.1 (seg_P 4 hP rfl) (ci := 3) (q0 := 0) rfl rfl) rfl hl.1 rfl (Nat.le_of_ble_eq_true rfl) dX4_relay_108 (Nat.zero_le _) (Nat.zero_le _) ?_
        refine lv_iload_n hx hb dX4_relay_111 rfl (lv_at hl 1 rfl) ?_
        refine ro_S (As := [.int (wan v), .int (nI (rk r))]) (rest := []) ⟨hx, hb, hml, hown, hts⟩ (c_X4_bit l G (wan v) (nI (rk r))) (va_cwS 2 hts gX4_relay_X4_bit rfl rfl rfl (by decide +kernel) ⟨Nat.le_of_ble_eq_true rfl, Nat.le_of_ble_eq_true rfl⟩) (show gP G [] _ from fun k q h => by simp at h) hKK rfl hl.1 rfl (Nat.le_of_ble_eq_true rfl) dX4_relay_112 (Nat.zero_le _) (Nat.zero_le _) ?_
        exact ex_ROi hx hb hr hlocks rfl dX4_relay_115 (by rw [c_4, show inr x 0 10 = true from sw_inr (n := 10) ek_10 (by decide) (by decide), sw_rk ek_10 (by decide)] <;> rfl)
      · skip
        refine lv_asi ek_10 ?_
        refine lv_tableIn (off := 106) (tgt := 116) hx hb dX4_relay_10 (by decide) (by decide) (by decide) (by decide) ?_
        refine lv_aload_n hx hb dX4_relay_116 rfl (lv_at hl 0 rfl) ?_
        refine va_get (D := gD G) (ci := 4) (v := .ref (ra 0)) (C := RX4) (T := TX4) (N := 7) hx hb hts hin_X4_relay_X4 hown hKK.1 hP 0 rfl rfl 0 (by decide) (hts _ lk_X4_relay_12) (fun _ h9 => h9) rfl dX4_relay_117 ?_
        refine va_get (D := gD G) (ci := 3) (v := .ref (ra 3)) (C := RX3) (T := TX3) (N := 14) hx hb hts hin_X4_relay_X3 hown hKK.1 hP 8 rfl rfl 8 (by decide) (hts _ lk_X4_relay_121) (fun _ h9 => h9) rfl dX4_relay_120 ?_
        refine lv_iload_n hx hb dX4_relay_123 rfl (lv_at hl 1 rfl) ?_
        refine va_ialdN (j := rk r) (v := v (px (rk r) 2)) hx hb hKK.1 hP 11 0 rfl rfl (rfl) (by omega) (by decide) (rfl) dX4_relay_124 ?_
        exact ex_ROi hx hb hr hlocks rfl dX4_relay_125 (by rw [c_4, show inr x 0 10 = true from sw_inr (n := 10) ek_10 (by decide) (by decide), sw_rk ek_10 (by decide)] <;> rfl)
      · skip
        refine lv_asi ek_10 ?_
        refine lv_tableIn (off := 116) (tgt := 126) hx hb dX4_relay_10 (by decide) (by decide) (by decide) (by decide) ?_
        refine lv_aload_n hx hb dX4_relay_126 rfl (lv_at hl 0 rfl) ?_
        refine va_get (D := gD G) (ci := 4) (v := .ref (ra 0)) (C := RX4) (T := TX4) (N := 7) hx hb hts hin_X4_relay_X4 hown hKK.1 hP 0 rfl rfl 0 (by decide) (hts _ lk_X4_relay_12) (fun _ h9 => h9) rfl dX4_relay_127 ?_
        refine va_get (D := gD G) (ci := 3) (v := .ref (ra 4)) (C := RX3) (T := TX3) (N := 14) hx hb hts hin_X4_relay_X3 hown hKK.1 hP 8 rfl rfl 9 (by decide) (hts _ lk_X4_relay_101) (fun _ h9 => h9) rfl dX4_relay_130 ?_
        refine lv_iload_n hx hb dX4_relay_133 rfl (lv_at hl 1 rfl) ?_
        refine va_ialdN (j := rk r) (v := v (px (rk r) 3)) hx hb hKK.1 hP 12 0 rfl rfl (rfl) (by omega) (by decide) (rfl) dX4_relay_134 ?_
        exact ex_ROi hx hb hr hlocks rfl dX4_relay_135 (by rw [c_4, show inr x 0 10 = true from sw_inr (n := 10) ek_10 (by decide) (by decide), sw_rk ek_10 (by decide)] <;> rfl)
      · skip
        refine lv_asi ek_10 ?_
        refine lv_tableIn (off := 126) (tgt := 136) hx hb dX4_relay_10 (by decide) (by decide) (by decide) (by decide) ?_
        refine lv_aload_n hx hb dX4_relay_136 rfl (lv_at hl 0 rfl) ?_
        refine va_get (D := gD G) (ci := 4) (v := .ref (ra 0)) (C := RX4) (T := TX4) (N := 7) hx hb hts hin_X4_relay_X4 hown hKK.1 hP 0 rfl rfl 0 (by decide) (hts _ lk_X4_relay_12) (fun _ h9 => h9) rfl dX4_relay_137 ?_
        refine va_get (D := gD G) (ci := 3) (v := .ref (ra 1)) (C := RX3) (T := TX3) (N := 14) hx hb hts hin_X4_relay_X3 hown hKK.1 hP 8 rfl rfl 6 (by decide) (hts _ lk_X4_relay_64) (fun _ h9 => h9) rfl dX4_relay_140 ?_
        refine lv_iload_n hx hb dX4_relay_143 rfl (lv_at hl 1 rfl) ?_
        refine va_ialdN (j := rk r) (v := v (px (rk r) 0)) hx hb hKK.1 hP 9 0 rfl rfl (rfl) (by omega) (by decide) (rfl) dX4_relay_144 ?_
        exact ex_ROi hx hb hr hlocks rfl dX4_relay_145 (by rw [c_4, show inr x 0 10 = true from sw_inr (n := 10) ek_10 (by decide) (by decide), sw_rk ek_10 (by decide)] <;> rfl)
      · skip
        refine lv_asi ek_10 ?_
        refine lv_tableIn (off := 136) (tgt := 146) hx hb dX4_relay_10 (by decide) (by decide) (by decide) (by decide) ?_
        refine lv_aload_n hx hb dX4_relay_146 rfl (lv_at hl 0 rfl) ?_
        refine va_get (D := gD G) (ci := 4) (v := .ref (ra 0)) (C := RX4) (T := TX4) (N := 7) hx hb hts hin_X4_relay_X4 hown hKK.1 hP 0 rfl rfl 0 (by decide) (hts _ lk_X4_relay_12) (fun _ h9 => h9) rfl dX4_relay_147 ?_
        refine va_get (D := gD G) (ci := 3) (v := .ref (ra 2)) (C := RX3) (T := TX3) (N := 14) hx hb hts hin_X4_relay_X3 hown hKK.1 hP 8 rfl rfl 7 (by decide) (hts _ lk_X4_relay_60) (fun _ h9 => h9) rfl dX4_relay_150 ?_
        refine lv_iload_n hx hb dX4_relay_153 rfl (lv_at hl 1 rfl) ?_
        refine va_ialdN (j := rk r) (v := v (px (rk r) 1)) hx hb hKK.1 hP 10 0 rfl rfl (rfl) (by omega) (by decide) (rfl) dX4_relay_154 ?_
        exact ex_ROi hx hb hr hlocks rfl dX4_relay_155 (by rw [c_4, show inr x 0 10 = true from sw_inr (n := 10) ek_10 (by decide) (by decide), sw_rk ek_10 (by decide)] <;> rfl)
      · skip
        refine lv_asi ek_10 ?_
        refine lv_tableIn (off := 146) (tgt := 156) hx hb dX4_relay_10 (by decide) (by decide) (by decide) (by decide) ?_
        refine lv_aload_n hx hb dX4_relay_156 rfl (lv_at hl 0 rfl) ?_
        refine va_get (D := gD G) (ci := 4) (v := .ref (ra 0)) (C := RX4) (T := TX4) (N := 7) hx hb hts hin_X4_relay_X4 hown hKK.1 hP 0 rfl rfl 0 (by decide) (hts _ lk_X4_relay_12) (fun _ h9 => h9) rfl dX4_relay_157 ?_
        refine va_get (D := gD G) (ci := 3) (v := .ref (ra 5)) (C := RX3) (T := TX3) (N := 14) hx hb hts hin_X4_relay_X3 hown hKK.1 hP 8 rfl rfl 10 (by decide) (hts _ lk_X4_relay_124) (fun _ h9 => h9) rfl dX4_relay_160 ?_
        refine lv_iload_n hx hb dX4_relay_163 rfl (lv_at hl 1 rfl) ?_
        refine va_ialdN (j := rk r) (v := v (px (rk r) 4)) hx hb hKK.1 hP 13 0 rfl rfl (rfl) (by omega) (by decide) (rfl) dX4_relay_164 ?_
        exact ex_ROi hx hb hr hlocks rfl dX4_relay_165 (by rw [c_4, show inr x 0 10 = true from sw_inr (n := 10) ek_10 (by decide) (by decide), sw_rk ek_10 (by decide)] <;> rfl)
      · skip
        refine lv_asi ek_10 ?_
        refine lv_tableIn (off := 156) (tgt := 166) hx hb dX4_relay_10 (by decide) (by decide) (by decide) (by decide) ?_
        refine lv_aload_n hx hb dX4_relay_166 rfl (lv_at hl 0 rfl) ?_
        refine va_get (D := gD G) (ci := 4) (v := .ref (ra 0)) (C := RX4) (T := TX4) (N := 7) hx hb hts hin_X4_relay_X4 hown hKK.1 hP 0 rfl rfl 0 (by decide) (hts _ lk_X4_relay_12) (fun _ h9 => h9) rfl dX4_relay_167 ?_
        refine lv_iload_n hx hb dX4_relay_170 rfl (lv_at hl 1 rfl) ?_
        refine ro_V (As := [.int (nI (rk r))]) (rest := []) ⟨hx, hb, hml, hown, hts⟩ (c_X3_frontsOfCircuit l G ra v (rk r) (by omega) (by assumption)) (cwV 1 hts gX4_relay_X3_frontsOfCircuit rfl rfl rfl (by decide +kernel) ⟨Nat.le_of_ble_eq_true rfl, Nat.le_of_ble_eq_true rfl⟩) (seg_P 4 hP rfl) hKK (va_recv hKK.1 (seg_P 4 hP rfl) (ci := 3) (q0 := 0) rfl rfl) rfl hl.1 rfl (Nat.le_of_ble_eq_true rfl) dX4_relay_171 (Nat.zero_le _) (Nat.zero_le _) ?_
        refine lv_iload_n hx hb dX4_relay_174 rfl (lv_at hl 1 rfl) ?_
        refine ro_S (As := [.int (frtS v (rk r)), .int (nI (rk r))]) (rest := []) ⟨hx, hb, hml, hown, hts⟩ (c_X4_bit l G (frtS v (rk r)) (nI (rk r))) (va_cwS 2 hts gX4_relay_X4_bit rfl rfl rfl (by decide +kernel) ⟨Nat.le_of_ble_eq_true rfl, Nat.le_of_ble_eq_true rfl⟩) (show gP G [] _ from fun k q h => by simp at h) hKK rfl hl.1 rfl (Nat.le_of_ble_eq_true rfl) dX4_relay_175 (Nat.zero_le _) (Nat.zero_le _) ?_
        exact ex_ROi hx hb hr hlocks rfl dX4_relay_178 (by rw [c_4, show inr x 0 10 = true from sw_inr (n := 10) ek_10 (by decide) (by decide), sw_rk ek_10 (by decide)] <;> rfl)
      · skip
        refine lv_asi ek_10 ?_
        refine lv_tableIn (off := 169) (tgt := 179) hx hb dX4_relay_10 (by decide) (by decide) (by decide) (by decide) ?_
        refine lv_aload_n hx hb dX4_relay_179 rfl (lv_at hl 0 rfl) ?_
        refine va_get (D := gD G) (ci := 4) (v := .ref (ra 0)) (C := RX4) (T := TX4) (N := 7) hx hb hts hin_X4_relay_X4 hown hKK.1 hP 0 rfl rfl 0 (by decide) (hts _ lk_X4_relay_12) (fun _ h9 => h9) rfl dX4_relay_180 ?_
        refine lv_iload_n hx hb dX4_relay_183 rfl (lv_at hl 1 rfl) ?_
        refine ro_V (As := [.int (nI (rk r))]) (rest := []) ⟨hx, hb, hml, hown, hts⟩ (c_X3_relaysWithContactOf l G ra v (rk r) (by omega) (by assumption)) (cwV 1 hts gX4_relay_X3_relaysWithContactOf rfl rfl rfl (by decide +kernel) ⟨Nat.le_of_ble_eq_true rfl, Nat.le_of_ble_eq_true rfl⟩) (seg_P 4 hP rfl) hKK (va_recv hKK.1 (seg_P 4 hP rfl) (ci := 3) (q0 := 0) rfl rfl) rfl hl.1 rfl (Nat.le_of_ble_eq_true rfl) dX4_relay_184 (Nat.zero_le _) (Nat.zero_le _) ?_
        exact ex_ROi hx hb hr hlocks rfl dX4_relay_187 (by rw [c_4, show inr x 0 10 = true from sw_inr (n := 10) ek_10 (by decide) (by decide), sw_rk ek_10 (by decide)] <;> rfl)
    · skip
      refine lv_tableOut (tgt := 188) hx hb dX4_relay_10 c_10 (by decide) ?_
      refine lv_bipush (v := (-2)) hx hb dX4_relay_188 (by decide) ?_
      exact ex_ROi hx hb hr hlocks rfl dX4_relay_190 (by rw [c_4, show inr x 0 10 = false from sw_out (n := 10) (by decide) c_10] <;> rfl)
  · skip
    have c_4 := b2i_0 c_4
    refine lv_iconst (v := (-1)) hx hb dX4_relay_7 (by decide) ?_
    exact ex_ROi hx hb hr hlocks rfl dX4_relay_8 (by rw [c_4] <;> rfl)
set_option maxRecDepth 20000 in
theorem hin_X4_branch_X4 : ∀ w ∈ u_ws RX4 TX4 7, w ∈ wsX4_branch := by decide +kernel
theorem lk_X4_branch_12 : Cond.fieldLink RX4 12 "WeldedRelays" "room" "LWeldedRelays$Room;" ∈ wsX4_branch := by decide +kernel
set_option maxRecDepth 20000 in
theorem hin_X4_branch_X3 : ∀ w ∈ u_ws RX3 TX3 14, w ∈ wsX4_branch := by decide +kernel
theorem lk_X4_branch_124 : Cond.fieldLink RX4 124 "WeldedRelays$Room" "branchCounts" "[I" ∈ wsX4_branch := by decide +kernel
theorem lk_X4_branch_140 : Cond.fieldLink RX4 140 "WeldedRelays$Room" "contactCounts" "[I" ∈ wsX4_branch := by decide +kernel
theorem lk_X4_branch_143 : Cond.fieldLink RX4 143 "WeldedRelays$Room" "fronts" "[I" ∈ wsX4_branch := by decide +kernel
theorem lk_X4_branch_146 : Cond.fieldLink RX4 146 "WeldedRelays$Room" "backs" "[I" ∈ wsX4_branch := by decide +kernel
set_option maxHeartbeats 4000000 in
set_option maxRecDepth 100000 in
/-- X4_branch -/
theorem c_X4_branch (l : Launch) (G : GG) (oa : Nat → Nat) (ra : Nat → Nat) (ta : Nat → Nat) (ad : Nat → Nat) (qa : Nat → Nat) (ha : Nat → Nat) (B : Nat → Nat → Nat) (S : Nat → Nat → Nat) (v : Nat → Int32) (u : Nat → Int32) (VH : Nat → Nat → Int32) (VS : Nat → Nat → Int32) (sv : Nat → Int32) (pd : Nat → Int32) (N : Nat) (pp : Nat) (k : Nat) (ol : Nat) (sz : Nat) (r : Int32) (b : Int32) (x : Int32) (hn : N ≤ 64) (hk : k < 10) (hol : ol < 6) (hsz : sz ≤ 6) (hI : RI v) (hU : RI u) : Met l yX4_branch wsX4_branch ({ frames := 2, cells := 0, slots := 0, locals := 42 }) (pcW G [.ref (oa 0), .int r, .int b, .int x] (List.flatten [bMw G oa ra ta ad qa ha S sv, bPw G ad pd N, bQw qa pp k, bHw G ha B ol sz, rW G ra v, rW G ta u, fam G 6 B VH, fam G 2 S VS])) (qRO (.int (cond (inr r 0 9 && inr b 0 (v (px (rk r) 4) - 1)) (cond (inr x 0 5) (brn6i v (rk r) (rk b) (rk x)) (-2)) (-1)))) 0 0 nofree := by
  refine hd_RO (cc := cX4_branch) (maxL := 5) (ret := some .int) (by decide) rfl (Nat.le_of_ble_eq_true rfl) ?_
  intro p e s m below meth c ls hx hb hr hts hown hlocks hml hP hKK hl
  have hl : lv_has ls 5 [(0, .ref (oa 0)), (1, .int r), (2, .int b), (3, .int x)] := hl
  refine lv_iload_n hx hb dX4_branch_0 rfl (lv_at hl 1 rfl) ?_
  refine ro_S (As := [.int r]) (rest := []) ⟨hx, hb, hml, hown, hts⟩ (c_X4_isRelay l G r) (va_cwS 1 hts gX4_branch_X4_isRelay rfl rfl rfl (by decide +kernel) ⟨Nat.le_of_ble_eq_true rfl, Nat.le_of_ble_eq_true rfl⟩) (show gP G [] _ from fun k q h => by simp at h) hKK rfl hl.1 rfl (Nat.le_of_ble_eq_true rfl) dX4_branch_1 (Nat.zero_le _) (Nat.zero_le _) ?_
  refine lv_if_eq (tgt := 26) hx hb dX4_branch_4 (by decide) (fun c_4 => ?_) (fun c_4 => ?_)
  · skip
    have c_4 := b2i_0 c_4
    refine lv_iconst (v := (-1)) hx hb dX4_branch_26 (by decide) ?_
    exact ex_ROi hx hb hr hlocks rfl dX4_branch_27 (by rw [c_4] <;> rfl)
  · skip
    have c_4 := b2i_1 c_4
    have hr9 := inr_rk c_4
    have hl : lv_has ls 5 [(0, .ref (oa 0)), (1, .int (nI (rk r))), (2, .int b), (3, .int x)] := by have e_l1 : r = (nI (rk r)) := (hr9.1); rw [← e_l1]; exact hl
    refine lv_iload_n hx hb dX4_branch_7 rfl (lv_at hl 2 rfl) ?_
    refine lv_iconst (v := 0) hx hb dX4_branch_8 (by decide) ?_
    refine lv_aload_n hx hb dX4_branch_9 rfl (lv_at hl 0 rfl) ?_
    refine va_get (D := gD G) (ci := 4) (v := .ref (ra 0)) (C := RX4) (T := TX4) (N := 7) hx hb hts hin_X4_branch_X4 hown hKK.1 hP 0 rfl rfl 0 (by decide) (hts _ lk_X4_branch_12) (fun _ h9 => h9) rfl dX4_branch_10 ?_
    refine va_get (D := gD G) (ci := 3) (v := .ref (ra 5)) (C := RX3) (T := TX3) (N := 14) hx hb hts hin_X4_branch_X3 hown hKK.1 hP 8 rfl rfl 10 (by decide) (hts _ lk_X4_branch_124) (fun _ h9 => h9) rfl dX4_branch_13 ?_
    refine lv_iload_n hx hb dX4_branch_16 rfl (lv_at hl 1 rfl) ?_
    refine va_ialdN (j := rk r) (v := v (px (rk r) 4)) hx hb hKK.1 hP 13 0 rfl rfl (rfl) (by omega) (by decide) (rfl) dX4_branch_17 ?_
    refine lv_iconst (v := 1) hx hb dX4_branch_18 (by decide) ?_
    refine lv_isub hx hb dX4_branch_19 ?_
    refine ro_S (As := [.int b, .int 0, .int ((v (px (rk r) 4)) - 1)]) (rest := []) ⟨hx, hb, hml, hown, hts⟩ (c_X4_isWithin l G b 0 ((v (px (rk r) 4)) - 1)) (va_cwS 3 hts gX4_branch_X4_isWithin rfl rfl rfl (by decide +kernel) ⟨Nat.le_of_ble_eq_true rfl, Nat.le_of_ble_eq_true rfl⟩) (show gP G [] _ from fun k q h => by simp at h) hKK rfl hl.1 rfl (Nat.le_of_ble_eq_true rfl) dX4_branch_20 (Nat.zero_le _) (Nat.zero_le _) ?_
    refine lv_if_ne (tgt := 28) hx hb dX4_branch_23 (by decide) (fun c_23 => ?_) (fun c_23 => ?_)
    · skip
      have c_23 := b2i_1 c_23
      have hb2 := brn_in hI hr9.2 c_23
      have hl : lv_has ls 5 [(0, .ref (oa 0)), (1, .int (nI (rk r))), (2, .int (nI (rk b))), (3, .int x)] := by have e_l2 : b = (nI (rk b)) := (hb2.1); rw [← e_l2]; exact hl
      refine lv_iload_n hx hb dX4_branch_28 rfl (lv_at hl 1 rfl) ?_
      refine lv_iload_n hx hb dX4_branch_29 rfl (lv_at hl 2 rfl) ?_
      refine ro_S (As := [.int (nI (rk r)), .int (nI (rk b))]) (rest := []) ⟨hx, hb, hml, hown, hts⟩ (c_X4_placeOf l G (rk r) (rk b)) (va_cwS 2 hts gX4_branch_X4_placeOf rfl rfl rfl (by decide +kernel) ⟨Nat.le_of_ble_eq_true rfl, Nat.le_of_ble_eq_true rfl⟩) (show gP G [] _ from fun k q h => by simp at h) hKK rfl hl.1 rfl (Nat.le_of_ble_eq_true rfl) dX4_branch_30 (Nat.zero_le _) (Nat.zero_le _) ?_
      refine lv_istore (lv' := [(4, .int (nI (6 * (rk r) + (rk b)))), (0, .ref (oa 0)), (1, .int (nI (rk r))), (2, .int (nI (rk b))), (3, .int x)]) hx hb dX4_branch_33 hl (by decide) rfl (fun ls hl => ?_)
      refine lv_iload_n hx hb dX4_branch_35 rfl (lv_at hl 4 rfl) ?_
      rcases sw_of x 5 with ⟨k_36, hk_36, ek_36⟩ | c_36
      · rcases (show k_36 = 0 ∨ k_36 = 1 ∨ k_36 = 2 ∨ k_36 = 3 ∨ k_36 = 4 ∨ k_36 = 5 by omega) with rfl | rfl | rfl | rfl | rfl | rfl
        · skip
          refine lv_asi ek_36 ?_
          refine lv_tableIn (off := 40) (tgt := 76) hx hb dX4_branch_36 (by decide) (by decide) (by decide) (by decide) ?_
          refine lv_aload_n hx hb dX4_branch_76 rfl (lv_at hl 1 rfl) ?_
          refine va_get (D := gD G) (ci := 4) (v := .ref (ra 0)) (C := RX4) (T := TX4) (N := 7) hx hb hts hin_X4_branch_X4 hown hKK.1 hP 0 rfl rfl 0 (by decide) (hts _ lk_X4_branch_12) (fun _ h9 => h9) rfl dX4_branch_77 ?_
          refine lv_iload hx hb dX4_branch_80 (lv_at hl 0 rfl) ?_
          refine ro_V (As := [.int (nI (6 * (rk r) + (rk b)))]) (rest := []) ⟨hx, hb, hml, hown, hts⟩ (c_X3_isClosed l G ra v (rk r) (rk b) (by omega) (by omega)) (cwV 1 hts gX4_branch_X3_isClosed rfl rfl rfl (by decide +kernel) ⟨Nat.le_of_ble_eq_true rfl, Nat.le_of_ble_eq_true rfl⟩) (seg_P 4 hP rfl) hKK (va_recv hKK.1 (seg_P 4 hP rfl) (ci := 3) (q0 := 0) rfl rfl) rfl hl.1 rfl (Nat.le_of_ble_eq_true rfl) dX4_branch_82 (Nat.zero_le _) (Nat.zero_le _) ?_
          refine lv_if_eq (tgt := 92) hx hb dX4_branch_85 (by decide) (fun c_85 => ?_) (fun c_85 => ?_)
          · skip
            have c_85 := b2i_0 c_85
            refine lv_iconst (v := 0) hx hb dX4_branch_92 (by decide) ?_
            exact ex_ROi hx hb hr hlocks rfl dX4_branch_93 (by rw [c_4, c_23, show inr x 0 5 = true from sw_inr (n := 5) ek_36 (by decide) (by decide), sw_rk ek_36 (by decide)] <;> exact congrArg (fun q => Value.int (b2i q)) c_85.symm)
          · skip
            have c_85 := b2i_1 c_85
            refine lv_iconst (v := 1) hx hb dX4_branch_88 (by decide) ?_
            refine lv_goto (tgt := 93) hx hb dX4_branch_89 (by decide) ?_
            exact ex_ROi hx hb hr hlocks rfl dX4_branch_93 (by rw [c_4, c_23, show inr x 0 5 = true from sw_inr (n := 5) ek_36 (by decide) (by decide), sw_rk ek_36 (by decide)] <;> exact congrArg (fun q => Value.int (b2i q)) c_85.symm)
        · skip
          refine lv_asi ek_36 ?_
          refine lv_tableIn (off := 58) (tgt := 94) hx hb dX4_branch_36 (by decide) (by decide) (by decide) (by decide) ?_
          refine lv_aload_n hx hb dX4_branch_94 rfl (lv_at hl 1 rfl) ?_
          refine va_get (D := gD G) (ci := 4) (v := .ref (ra 0)) (C := RX4) (T := TX4) (N := 7) hx hb hts hin_X4_branch_X4 hown hKK.1 hP 0 rfl rfl 0 (by decide) (hts _ lk_X4_branch_12) (fun _ h9 => h9) rfl dX4_branch_95 ?_
          refine va_get (D := gD G) (ci := 3) (v := .ref (ra 8)) (C := RX3) (T := TX3) (N := 14) hx hb hts hin_X4_branch_X3 hown hKK.1 hP 8 rfl rfl 13 (by decide) (hts _ lk_X4_branch_140) (fun _ h9 => h9) rfl dX4_branch_98 ?_
          refine lv_iload hx hb dX4_branch_101 (lv_at hl 0 rfl) ?_
          refine va_ialdN (j := 6 * (rk r) + (rk b)) (v := ccn v (rk r) (rk b)) hx hb hKK.1 hP 16 0 rfl rfl (rfl) (by omega) (by decide) (rB_atccn _ _ _ (by omega)) dX4_branch_103 ?_
          exact ex_ROi hx hb hr hlocks rfl dX4_branch_104 (by rw [c_4, c_23, show inr x 0 5 = true from sw_inr (n := 5) ek_36 (by decide) (by decide), sw_rk ek_36 (by decide)] <;> rfl)
        · skip
          refine lv_asi ek_36 ?_
          refine lv_tableIn (off := 69) (tgt := 105) hx hb dX4_branch_36 (by decide) (by decide) (by decide) (by decide) ?_
          refine lv_aload_n hx hb dX4_branch_105 rfl (lv_at hl 1 rfl) ?_
          refine va_get (D := gD G) (ci := 4) (v := .ref (ra 0)) (C := RX4) (T := TX4) (N := 7) hx hb hts hin_X4_branch_X4 hown hKK.1 hP 0 rfl rfl 0 (by decide) (hts _ lk_X4_branch_12) (fun _ h9 => h9) rfl dX4_branch_106 ?_
          refine va_get (D := gD G) (ci := 3) (v := .ref (ra 6)) (C := RX3) (T := TX3) (N := 14) hx hb hts hin_X4_branch_X3 hown hKK.1 hP 8 rfl rfl 11 (by decide) (hts _ lk_X4_branch_143) (fun _ h9 => h9) rfl dX4_branch_109 ?_
          refine lv_iload hx hb dX4_branch_112 (lv_at hl 0 rfl) ?_
          refine va_ialdN (j := 6 * (rk r) + (rk b)) (v := frt v (rk r) (rk b)) hx hb hKK.1 hP 14 0 rfl rfl (rfl) (by omega) (by decide) (rB_atfrt _ _ _ (by omega)) dX4_branch_114 ?_
          refine lv_sipush (v := 1023) hx hb dX4_branch_115 (by decide) ?_
          refine lv_iand hx hb dX4_branch_118 ?_
          exact ex_ROi hx hb hr hlocks rfl dX4_branch_119 (by rw [c_4, c_23, show inr x 0 5 = true from sw_inr (n := 5) ek_36 (by decide) (by decide), sw_rk ek_36 (by decide)] <;> rfl)
        · skip
          refine lv_asi ek_36 ?_
          refine lv_tableIn (off := 84) (tgt := 120) hx hb dX4_branch_36 (by decide) (by decide) (by decide) (by decide) ?_
          refine lv_aload_n hx hb dX4_branch_120 rfl (lv_at hl 1 rfl) ?_
          refine va_get (D := gD G) (ci := 4) (v := .ref (ra 0)) (C := RX4) (T := TX4) (N := 7) hx hb hts hin_X4_branch_X4 hown hKK.1 hP 0 rfl rfl 0 (by decide) (hts _ lk_X4_branch_12) (fun _ h9 => h9) rfl dX4_branch_121 ?_
          refine va_get (D := gD G) (ci := 3) (v := .ref (ra 7)) (C := RX3) (T := TX3) (N := 14) hx hb hts hin_X4_branch_X3 hown hKK.1 hP 8 rfl rfl 12 (by decide) (hts _ lk_X4_branch_146) (fun _ h9 => h9) rfl dX4_branch_124 ?_
          refine lv_iload hx hb dX4_branch_127 (lv_at hl 0 rfl) ?_
          refine va_ialdN (j := 6 * (rk r) + (rk b)) (v := bck v (rk r) (rk b)) hx hb hKK.1 hP 15 0 rfl rfl (rfl) (by omega) (by decide) (rB_atbck _ _ _ (by omega)) dX4_branch_129 ?_
          refine lv_sipush (v := 1023) hx hb dX4_branch_130 (by decide) ?_
          refine lv_iand hx hb dX4_branch_133 ?_
          exact ex_ROi hx hb hr hlocks rfl dX4_branch_134 (by rw [c_4, c_23, show inr x 0 5 = true from sw_inr (n := 5) ek_36 (by decide) (by decide), sw_rk ek_36 (by decide)] <;> rfl)
        · skip
          refine lv_asi ek_36 ?_
          refine lv_tableIn (off := 99) (tgt := 135) hx hb dX4_branch_36 (by decide) (by decide) (by decide) (by decide) ?_
          refine lv_aload_n hx hb dX4_branch_135 rfl (lv_at hl 1 rfl) ?_
          refine va_get (D := gD G) (ci := 4) (v := .ref (ra 0)) (C := RX4) (T := TX4) (N := 7) hx hb hts hin_X4_branch_X4 hown hKK.1 hP 0 rfl rfl 0 (by decide) (hts _ lk_X4_branch_12) (fun _ h9 => h9) rfl dX4_branch_136 ?_
          refine va_get (D := gD G) (ci := 3) (v := .ref (ra 6)) (C := RX3) (T := TX3) (N := 14) hx hb hts hin_X4_branch_X3 hown hKK.1 hP 8 rfl rfl 11 (by decide) (hts _ lk_X4_branch_143) (fun _ h9 => h9) rfl dX4_branch_139 ?_
          refine lv_iload hx hb dX4_branch_142 (lv_at hl 0 rfl) ?_
          refine va_ialdN (j := 6 * (rk r) + (rk b)) (v := frt v (rk r) (rk b)) hx hb hKK.1 hP 14 0 rfl rfl (rfl) (by omega) (by decide) (rB_atfrt _ _ _ (by omega)) dX4_branch_144 ?_
          refine lv_bipush (v := 10) hx hb dX4_branch_145 (by decide) ?_
          refine lv_ishr hx hb dX4_branch_147 ?_
          refine lv_asi (y := shr (frt v (rk r) (rk b)) 10) rfl ?_
          refine lv_bipush (v := 63) hx hb dX4_branch_148 (by decide) ?_
          refine lv_iand hx hb dX4_branch_150 ?_
          exact ex_ROi hx hb hr hlocks rfl dX4_branch_151 (by rw [c_4, c_23, show inr x 0 5 = true from sw_inr (n := 5) ek_36 (by decide) (by decide), sw_rk ek_36 (by decide)] <;> rfl)
        · skip
          refine lv_asi ek_36 ?_
          refine lv_tableIn (off := 116) (tgt := 152) hx hb dX4_branch_36 (by decide) (by decide) (by decide) (by decide) ?_
          refine lv_aload_n hx hb dX4_branch_152 rfl (lv_at hl 1 rfl) ?_
          refine va_get (D := gD G) (ci := 4) (v := .ref (ra 0)) (C := RX4) (T := TX4) (N := 7) hx hb hts hin_X4_branch_X4 hown hKK.1 hP 0 rfl rfl 0 (by decide) (hts _ lk_X4_branch_12) (fun _ h9 => h9) rfl dX4_branch_153 ?_
          refine va_get (D := gD G) (ci := 3) (v := .ref (ra 7)) (C := RX3) (T := TX3) (N := 14) hx hb hts hin_X4_branch_X3 hown hKK.1 hP 8 rfl rfl 12 (by decide) (hts _ lk_X4_branch_146) (fun _ h9 => h9) rfl dX4_branch_156 ?_
          refine lv_iload hx hb dX4_branch_159 (lv_at hl 0 rfl) ?_
          refine va_ialdN (j := 6 * (rk r) + (rk b)) (v := bck v (rk r) (rk b)) hx hb hKK.1 hP 15 0 rfl rfl (rfl) (by omega) (by decide) (rB_atbck _ _ _ (by omega)) dX4_branch_161 ?_
          refine lv_bipush (v := 10) hx hb dX4_branch_162 (by decide) ?_
          refine lv_ishr hx hb dX4_branch_164 ?_
          refine lv_asi (y := shr (bck v (rk r) (rk b)) 10) rfl ?_
          refine lv_bipush (v := 63) hx hb dX4_branch_165 (by decide) ?_
          refine lv_iand hx hb dX4_branch_167 ?_
          exact ex_ROi hx hb hr hlocks rfl dX4_branch_168 (by rw [c_4, c_23, show inr x 0 5 = true from sw_inr (n := 5) ek_36 (by decide) (by decide), sw_rk ek_36 (by decide)] <;> rfl)
      · skip
        refine lv_tableOut (tgt := 169) hx hb dX4_branch_36 c_36 (by decide) ?_
        refine lv_bipush (v := (-2)) hx hb dX4_branch_169 (by decide) ?_
        exact ex_ROi hx hb hr hlocks rfl dX4_branch_171 (by rw [c_4, c_23, show inr x 0 5 = false from sw_out (n := 5) (by decide) c_36] <;> rfl)
    · skip
      have c_23 := b2i_0 c_23
      refine lv_iconst (v := (-1)) hx hb dX4_branch_26 (by decide) ?_
      exact ex_ROi hx hb hr hlocks rfl dX4_branch_27 (by rw [c_4, c_23] <;> rfl)
set_option maxRecDepth 20000 in
theorem hin_X4_count_X4 : ∀ w ∈ u_ws RX4 TX4 7, w ∈ wsX4_count := by decide +kernel
theorem lk_X4_count_12 : Cond.fieldLink RX4 12 "WeldedRelays" "room" "LWeldedRelays$Room;" ∈ wsX4_count := by decide +kernel
set_option maxRecDepth 20000 in
theorem hin_X4_count_X3 : ∀ w ∈ u_ws RX3 TX3 14, w ∈ wsX4_count := by decide +kernel
theorem lk_X4_count_95 : Cond.fieldLink RX4 95 "WeldedRelays$Room" "up" "I" ∈ wsX4_count := by decide +kernel
theorem lk_X4_count_98 : Cond.fieldLink RX4 98 "WeldedRelays$Room" "welded" "I" ∈ wsX4_count := by decide +kernel
theorem lk_X4_count_85 : Cond.fieldLink RX4 85 "WeldedRelays$Room" "buttons" "I" ∈ wsX4_count := by decide +kernel
theorem lk_X4_count_149 : Cond.fieldLink RX4 149 "WeldedRelays$Room" "ticks" "I" ∈ wsX4_count := by decide +kernel
theorem lk_X4_count_104 : Cond.fieldLink RX4 104 "WeldedRelays$Room" "moves" "I" ∈ wsX4_count := by decide +kernel
theorem lk_X4_count_67 : Cond.fieldLink RX4 67 "WeldedRelays$Room" "life" "I" ∈ wsX4_count := by decide +kernel
theorem lk_X4_count_22 : Cond.fieldLink RX4 22 "WeldedRelays" "pad" "LWeldedRelays$Pad;" ∈ wsX4_count := by decide +kernel
set_option maxRecDepth 20000 in
theorem hin_X4_count_X1 : ∀ w ∈ u_ws RX1 TX1 2, w ∈ wsX4_count := by decide +kernel
theorem lk_X4_count_155 : Cond.fieldLink RX4 155 "WeldedRelays$Pad" "length" "I" ∈ wsX4_count := by decide +kernel
theorem lk_X4_count_36 : Cond.fieldLink RX4 36 "WeldedRelays" "history" "LWeldedRelays$History;" ∈ wsX4_count := by decide +kernel
set_option maxRecDepth 20000 in
theorem hin_X4_count_X0 : ∀ w ∈ u_ws RX0 TX0 3, w ∈ wsX4_count := by decide +kernel
theorem lk_X4_count_158 : Cond.fieldLink RX4 158 "WeldedRelays$History" "size" "I" ∈ wsX4_count := by decide +kernel
set_option maxHeartbeats 4000000 in
set_option maxRecDepth 100000 in
/-- X4_count -/
theorem c_X4_count (l : Launch) (G : GG) (oa : Nat → Nat) (ra : Nat → Nat) (ta : Nat → Nat) (ad : Nat → Nat) (qa : Nat → Nat) (ha : Nat → Nat) (B : Nat → Nat → Nat) (S : Nat → Nat → Nat) (v : Nat → Int32) (u : Nat → Int32) (VH : Nat → Nat → Int32) (VS : Nat → Nat → Int32) (sv : Nat → Int32) (pd : Nat → Int32) (N : Nat) (pp : Nat) (k : Nat) (ol : Nat) (sz : Nat) (x : Int32) (hn : N ≤ 64) (hk : k < 10) (hol : ol < 6) (hsz : sz ≤ 6) (hI : RI v) (hU : RI u) : Met l yX4_count wsX4_count ({ frames := 4, cells := 0, slots := 0, locals := 87 }) (pcW G [.ref (oa 0), .int x] (List.flatten [bMw G oa ra ta ad qa ha S sv, bPw G ad pd N, bQw qa pp k, bHw G ha B ol sz, rW G ra v, rW G ta u, fam G 6 B VH, fam G 2 S VS])) (qRO (.int (cond (inr x 0 11) (cnt12 v (nI N) (nI sz) (rk x)) (-2)))) 0 0 nofree := by
  refine hd_RO (cc := cX4_count) (maxL := 2) (ret := some .int) (by decide) rfl (Nat.le_of_ble_eq_true rfl) ?_
  intro p e s m below meth c ls hx hb hr hts hown hlocks hml hP hKK hl
  have hl : lv_has ls 2 [(0, .ref (oa 0)), (1, .int x)] := hl
  refine lv_iload_n hx hb dX4_count_0 rfl (lv_at hl 1 rfl) ?_
  rcases sw_of x 11 with ⟨k_1, hk_1, ek_1⟩ | c_1
  · rcases (show k_1 = 0 ∨ k_1 = 1 ∨ k_1 = 2 ∨ k_1 = 3 ∨ k_1 = 4 ∨ k_1 = 5 ∨ k_1 = 6 ∨ k_1 = 7 ∨ k_1 = 8 ∨ k_1 = 9 ∨ k_1 = 10 ∨ k_1 = 11 by omega) with rfl | rfl | rfl | rfl | rfl | rfl | rfl | rfl | rfl | rfl | rfl | rfl
    · skip
      refine lv_asi ek_1 ?_
      refine lv_tableIn (off := 63) (tgt := 64) hx hb dX4_count_1 (by decide) (by decide) (by decide) (by decide) ?_
      refine lv_aload_n hx hb dX4_count_64 rfl (lv_at hl 0 rfl) ?_
      refine va_get (D := gD G) (ci := 4) (v := .ref (ra 0)) (C := RX4) (T := TX4) (N := 7) hx hb hts hin_X4_count_X4 hown hKK.1 hP 0 rfl rfl 0 (by decide) (hts _ lk_X4_count_12) (fun _ h9 => h9) rfl dX4_count_65 ?_
      refine va_get (D := gD G) (ci := 3) (v := .int (v 0)) (C := RX3) (T := TX3) (N := 14) hx hb hts hin_X4_count_X3 hown hKK.1 hP 8 rfl rfl 0 (by decide) (hts _ lk_X4_count_95) (fun _ h9 => h9) rfl dX4_count_68 ?_
      exact ex_ROi hx hb hr hlocks rfl dX4_count_71 (by rw [show inr x 0 11 = true from sw_inr (n := 11) ek_1 (by decide) (by decide), sw_rk ek_1 (by decide)] <;> rfl)
    · skip
      refine lv_asi ek_1 ?_
      refine lv_tableIn (off := 71) (tgt := 72) hx hb dX4_count_1 (by decide) (by decide) (by decide) (by decide) ?_
      refine lv_aload_n hx hb dX4_count_72 rfl (lv_at hl 0 rfl) ?_
      refine va_get (D := gD G) (ci := 4) (v := .ref (ra 0)) (C := RX4) (T := TX4) (N := 7) hx hb hts hin_X4_count_X4 hown hKK.1 hP 0 rfl rfl 0 (by decide) (hts _ lk_X4_count_12) (fun _ h9 => h9) rfl dX4_count_73 ?_
      refine ro_V (As := []) (rest := []) ⟨hx, hb, hml, hown, hts⟩ (c_X3_fedRelays l G ra v (by assumption)) (cwV 0 hts gX4_count_X3_fedRelays rfl rfl rfl (by decide +kernel) ⟨Nat.le_of_ble_eq_true rfl, Nat.le_of_ble_eq_true rfl⟩) (seg_P 4 hP rfl) hKK (va_recv hKK.1 (seg_P 4 hP rfl) (ci := 3) (q0 := 0) rfl rfl) rfl hl.1 rfl (Nat.le_of_ble_eq_true rfl) dX4_count_76 (Nat.zero_le _) (Nat.zero_le _) ?_
      exact ex_ROi hx hb hr hlocks rfl dX4_count_79 (by rw [show inr x 0 11 = true from sw_inr (n := 11) ek_1 (by decide) (by decide), sw_rk ek_1 (by decide)] <;> rfl)
    · skip
      refine lv_asi ek_1 ?_
      refine lv_tableIn (off := 79) (tgt := 80) hx hb dX4_count_1 (by decide) (by decide) (by decide) (by decide) ?_
      refine lv_aload_n hx hb dX4_count_80 rfl (lv_at hl 0 rfl) ?_
      refine va_get (D := gD G) (ci := 4) (v := .ref (ra 0)) (C := RX4) (T := TX4) (N := 7) hx hb hts hin_X4_count_X4 hown hKK.1 hP 0 rfl rfl 0 (by decide) (hts _ lk_X4_count_12) (fun _ h9 => h9) rfl dX4_count_81 ?_
      refine va_get (D := gD G) (ci := 3) (v := .int (v 1)) (C := RX3) (T := TX3) (N := 14) hx hb hts hin_X4_count_X3 hown hKK.1 hP 8 rfl rfl 1 (by decide) (hts _ lk_X4_count_98) (fun _ h9 => h9) rfl dX4_count_84 ?_
      exact ex_ROi hx hb hr hlocks rfl dX4_count_87 (by rw [show inr x 0 11 = true from sw_inr (n := 11) ek_1 (by decide) (by decide), sw_rk ek_1 (by decide)] <;> rfl)
    · skip
      refine lv_asi ek_1 ?_
      refine lv_tableIn (off := 87) (tgt := 88) hx hb dX4_count_1 (by decide) (by decide) (by decide) (by decide) ?_
      refine lv_aload_n hx hb dX4_count_88 rfl (lv_at hl 0 rfl) ?_
      refine va_get (D := gD G) (ci := 4) (v := .ref (ra 0)) (C := RX4) (T := TX4) (N := 7) hx hb hts hin_X4_count_X4 hown hKK.1 hP 0 rfl rfl 0 (by decide) (hts _ lk_X4_count_12) (fun _ h9 => h9) rfl dX4_count_89 ?_
      refine ro_V (As := []) (rest := []) ⟨hx, hb, hml, hown, hts⟩ (c_X3_wantingRelays l G ra v (by assumption)) (cwV 0 hts gX4_count_X3_wantingRelays rfl rfl rfl (by decide +kernel) ⟨Nat.le_of_ble_eq_true rfl, Nat.le_of_ble_eq_true rfl⟩) (seg_P 4 hP rfl) hKK (va_recv hKK.1 (seg_P 4 hP rfl) (ci := 3) (q0 := 0) rfl rfl) rfl hl.1 rfl (Nat.le_of_ble_eq_true rfl) dX4_count_92 (Nat.zero_le _) (Nat.zero_le _) ?_
      exact ex_ROi hx hb hr hlocks rfl dX4_count_95 (by rw [show inr x 0 11 = true from sw_inr (n := 11) ek_1 (by decide) (by decide), sw_rk ek_1 (by decide)] <;> rfl)
    · skip
      refine lv_asi ek_1 ?_
      refine lv_tableIn (off := 95) (tgt := 96) hx hb dX4_count_1 (by decide) (by decide) (by decide) (by decide) ?_
      refine lv_aload_n hx hb dX4_count_96 rfl (lv_at hl 0 rfl) ?_
      refine va_get (D := gD G) (ci := 4) (v := .ref (ra 0)) (C := RX4) (T := TX4) (N := 7) hx hb hts hin_X4_count_X4 hown hKK.1 hP 0 rfl rfl 0 (by decide) (hts _ lk_X4_count_12) (fun _ h9 => h9) rfl dX4_count_97 ?_
      refine va_get (D := gD G) (ci := 3) (v := .int (v 2)) (C := RX3) (T := TX3) (N := 14) hx hb hts hin_X4_count_X3 hown hKK.1 hP 8 rfl rfl 2 (by decide) (hts _ lk_X4_count_85) (fun _ h9 => h9) rfl dX4_count_100 ?_
      exact ex_ROi hx hb hr hlocks rfl dX4_count_103 (by rw [show inr x 0 11 = true from sw_inr (n := 11) ek_1 (by decide) (by decide), sw_rk ek_1 (by decide)] <;> rfl)
    · skip
      refine lv_asi ek_1 ?_
      refine lv_tableIn (off := 103) (tgt := 104) hx hb dX4_count_1 (by decide) (by decide) (by decide) (by decide) ?_
      refine lv_aload_n hx hb dX4_count_104 rfl (lv_at hl 0 rfl) ?_
      refine va_get (D := gD G) (ci := 4) (v := .ref (ra 0)) (C := RX4) (T := TX4) (N := 7) hx hb hts hin_X4_count_X4 hown hKK.1 hP 0 rfl rfl 0 (by decide) (hts _ lk_X4_count_12) (fun _ h9 => h9) rfl dX4_count_105 ?_
      refine va_get (D := gD G) (ci := 3) (v := .int (v 3)) (C := RX3) (T := TX3) (N := 14) hx hb hts hin_X4_count_X3 hown hKK.1 hP 8 rfl rfl 4 (by decide) (hts _ lk_X4_count_149) (fun _ h9 => h9) rfl dX4_count_108 ?_
      exact ex_ROi hx hb hr hlocks rfl dX4_count_111 (by rw [show inr x 0 11 = true from sw_inr (n := 11) ek_1 (by decide) (by decide), sw_rk ek_1 (by decide)] <;> rfl)
    · skip
      refine lv_asi ek_1 ?_
      refine lv_tableIn (off := 111) (tgt := 112) hx hb dX4_count_1 (by decide) (by decide) (by decide) (by decide) ?_
      refine lv_aload_n hx hb dX4_count_112 rfl (lv_at hl 0 rfl) ?_
      refine va_get (D := gD G) (ci := 4) (v := .ref (ra 0)) (C := RX4) (T := TX4) (N := 7) hx hb hts hin_X4_count_X4 hown hKK.1 hP 0 rfl rfl 0 (by decide) (hts _ lk_X4_count_12) (fun _ h9 => h9) rfl dX4_count_113 ?_
      refine va_get (D := gD G) (ci := 3) (v := .int (v 4)) (C := RX3) (T := TX3) (N := 14) hx hb hts hin_X4_count_X3 hown hKK.1 hP 8 rfl rfl 5 (by decide) (hts _ lk_X4_count_104) (fun _ h9 => h9) rfl dX4_count_116 ?_
      exact ex_ROi hx hb hr hlocks rfl dX4_count_119 (by rw [show inr x 0 11 = true from sw_inr (n := 11) ek_1 (by decide) (by decide), sw_rk ek_1 (by decide)] <;> rfl)
    · skip
      refine lv_asi ek_1 ?_
      refine lv_tableIn (off := 119) (tgt := 120) hx hb dX4_count_1 (by decide) (by decide) (by decide) (by decide) ?_
      refine lv_aload_n hx hb dX4_count_120 rfl (lv_at hl 0 rfl) ?_
      refine va_get (D := gD G) (ci := 4) (v := .ref (ra 0)) (C := RX4) (T := TX4) (N := 7) hx hb hts hin_X4_count_X4 hown hKK.1 hP 0 rfl rfl 0 (by decide) (hts _ lk_X4_count_12) (fun _ h9 => h9) rfl dX4_count_121 ?_
      refine va_get (D := gD G) (ci := 3) (v := .int (v 5)) (C := RX3) (T := TX3) (N := 14) hx hb hts hin_X4_count_X3 hown hKK.1 hP 8 rfl rfl 3 (by decide) (hts _ lk_X4_count_67) (fun _ h9 => h9) rfl dX4_count_124 ?_
      exact ex_ROi hx hb hr hlocks rfl dX4_count_127 (by rw [show inr x 0 11 = true from sw_inr (n := 11) ek_1 (by decide) (by decide), sw_rk ek_1 (by decide)] <;> rfl)
    · skip
      refine lv_asi ek_1 ?_
      refine lv_tableIn (off := 127) (tgt := 128) hx hb dX4_count_1 (by decide) (by decide) (by decide) (by decide) ?_
      refine lv_aload_n hx hb dX4_count_128 rfl (lv_at hl 0 rfl) ?_
      refine va_get (D := gD G) (ci := 4) (v := .ref (ra 0)) (C := RX4) (T := TX4) (N := 7) hx hb hts hin_X4_count_X4 hown hKK.1 hP 0 rfl rfl 0 (by decide) (hts _ lk_X4_count_12) (fun _ h9 => h9) rfl dX4_count_129 ?_
      refine ro_V (As := []) (rest := []) ⟨hx, hb, hml, hown, hts⟩ (c_X3_relaysWithBranches l G ra v) (cwV 0 hts gX4_count_X3_relaysWithBranches rfl rfl rfl (by decide +kernel) ⟨Nat.le_of_ble_eq_true rfl, Nat.le_of_ble_eq_true rfl⟩) (seg_P 4 hP rfl) hKK (va_recv hKK.1 (seg_P 4 hP rfl) (ci := 3) (q0 := 0) rfl rfl) rfl hl.1 rfl (Nat.le_of_ble_eq_true rfl) dX4_count_132 (Nat.zero_le _) (Nat.zero_le _) ?_
      exact ex_ROi hx hb hr hlocks rfl dX4_count_135 (by rw [show inr x 0 11 = true from sw_inr (n := 11) ek_1 (by decide) (by decide), sw_rk ek_1 (by decide)] <;> rfl)
    · skip
      refine lv_asi ek_1 ?_
      refine lv_tableIn (off := 135) (tgt := 136) hx hb dX4_count_1 (by decide) (by decide) (by decide) (by decide) ?_
      refine lv_aload_n hx hb dX4_count_136 rfl (lv_at hl 0 rfl) ?_
      refine va_get (D := gD G) (ci := 4) (v := .ref (ra 0)) (C := RX4) (T := TX4) (N := 7) hx hb hts hin_X4_count_X4 hown hKK.1 hP 0 rfl rfl 0 (by decide) (hts _ lk_X4_count_12) (fun _ h9 => h9) rfl dX4_count_137 ?_
      refine ro_V (As := []) (rest := []) ⟨hx, hb, hml, hown, hts⟩ (c_X3_neverClosedBranches l G ra v (by assumption)) (cwV 0 hts gX4_count_X3_neverClosedBranches rfl rfl rfl (by decide +kernel) ⟨Nat.le_of_ble_eq_true rfl, Nat.le_of_ble_eq_true rfl⟩) (seg_P 4 hP rfl) hKK (va_recv hKK.1 (seg_P 4 hP rfl) (ci := 3) (q0 := 0) rfl rfl) rfl hl.1 rfl (Nat.le_of_ble_eq_true rfl) dX4_count_140 (Nat.zero_le _) (Nat.zero_le _) ?_
      exact ex_ROi hx hb hr hlocks rfl dX4_count_143 (by rw [show inr x 0 11 = true from sw_inr (n := 11) ek_1 (by decide) (by decide), sw_rk ek_1 (by decide)] <;> rfl)
    · skip
      refine lv_asi ek_1 ?_
      refine lv_tableIn (off := 143) (tgt := 144) hx hb dX4_count_1 (by decide) (by decide) (by decide) (by decide) ?_
      refine lv_aload_n hx hb dX4_count_144 rfl (lv_at hl 0 rfl) ?_
      refine va_get (D := gD G) (ci := 4) (v := .ref (ad 0)) (C := RX4) (T := TX4) (N := 7) hx hb hts hin_X4_count_X4 hown hKK.1 hP 0 rfl rfl 2 (by decide) (hts _ lk_X4_count_22) (fun _ h9 => h9) rfl dX4_count_145 ?_
      refine va_get (D := gD G) (ci := 1) (v := .int (nI N)) (C := RX1) (T := TX1) (N := 2) hx hb hts hin_X4_count_X1 hown hKK.1 hP 3 rfl rfl 1 (by decide) (hts _ lk_X4_count_155) (fun _ h9 => h9) rfl dX4_count_148 ?_
      exact ex_ROi hx hb hr hlocks rfl dX4_count_151 (by rw [show inr x 0 11 = true from sw_inr (n := 11) ek_1 (by decide) (by decide), sw_rk ek_1 (by decide)] <;> rfl)
    · skip
      refine lv_asi ek_1 ?_
      refine lv_tableIn (off := 151) (tgt := 152) hx hb dX4_count_1 (by decide) (by decide) (by decide) (by decide) ?_
      refine lv_aload_n hx hb dX4_count_152 rfl (lv_at hl 0 rfl) ?_
      refine va_get (D := gD G) (ci := 4) (v := .ref (ha 0)) (C := RX4) (T := TX4) (N := 7) hx hb hts hin_X4_count_X4 hown hKK.1 hP 0 rfl rfl 4 (by decide) (hts _ lk_X4_count_36) (fun _ h9 => h9) rfl dX4_count_153 ?_
      refine va_get (D := gD G) (ci := 0) (v := .int (nI sz)) (C := RX0) (T := TX0) (N := 3) hx hb hts hin_X4_count_X0 hown hKK.1 hP 6 rfl rfl 2 (by decide) (hts _ lk_X4_count_158) (fun _ h9 => h9) rfl dX4_count_156 ?_
      exact ex_ROi hx hb hr hlocks rfl dX4_count_159 (by rw [show inr x 0 11 = true from sw_inr (n := 11) ek_1 (by decide) (by decide), sw_rk ek_1 (by decide)] <;> rfl)
  · skip
    refine lv_tableOut (tgt := 160) hx hb dX4_count_1 c_1 (by decide) ?_
    refine lv_bipush (v := (-2)) hx hb dX4_count_160 (by decide) ?_
    exact ex_ROi hx hb hr hlocks rfl dX4_count_162 (by rw [show inr x 0 11 = false from sw_out (n := 11) (by decide) c_1] <;> rfl)
set_option maxRecDepth 20000 in
theorem hin_X4_ifPressed_X4 : ∀ w ∈ u_ws RX4 TX4 7, w ∈ wsX4_ifPressed := by decide +kernel
theorem lk_X4_ifPressed_16 : Cond.fieldLink RX4 16 "WeldedRelays" "trial" "LWeldedRelays$Room;" ∈ wsX4_ifPressed := by decide +kernel
set_option maxRecDepth 20000 in
theorem hin_X4_ifPressed_X3 : ∀ w ∈ u_ws RX3 TX3 14, w ∈ wsX4_ifPressed := by decide +kernel
theorem lk_X4_ifPressed_95 : Cond.fieldLink RX4 95 "WeldedRelays$Room" "up" "I" ∈ wsX4_ifPressed := by decide +kernel
set_option maxHeartbeats 4000000 in
set_option maxRecDepth 100000 in
/-- X4_ifPressed -/
theorem c_X4_ifPressed (l : Launch) (G : GG) (oa : Nat → Nat) (ra : Nat → Nat) (ta : Nat → Nat) (ad : Nat → Nat) (qa : Nat → Nat) (ha : Nat → Nat) (B : Nat → Nat → Nat) (S : Nat → Nat → Nat) (v : Nat → Int32) (u : Nat → Int32) (VH : Nat → Nat → Int32) (VS : Nat → Nat → Int32) (sv : Nat → Int32) (pd : Nat → Int32) (N : Nat) (pp : Nat) (k : Nat) (ol : Nat) (sz : Nat) (b : Int32) (t : Int32) (hn : N ≤ 64) (hk : k < 10) (hol : ol < 6) (hsz : sz ≤ 6) (hI : RI v) (hU : RI u) : Met l yX4_ifPressed wsX4_ifPressed ({ frames := 5, cells := 0, slots := 0, locals := 109 }) (pcM G [.ref (oa 0), .int b, .int t] (List.flatten [bMw G oa ra ta ad qa ha S sv, bPw G ad pd N, bQw qa pp k, bHw G ha B ol sz, rW G ra v, rW G ta u, fam G 6 B VH, fam G 2 S VS])) (qMU G (some (.int (cond (inr b 0 63 && inr t 0 200) (tickN (rk t) (upd v 2 b) 0) (-2)))) (List.flatten [bMw G oa ra ta ad qa ha S sv, bPw G ad pd N, bQw qa pp k, bHw G ha B ol sz, rW G ra v, rW G ta u, fam G 6 B VH, fam G 2 S VS]) (List.flatten [bMw G oa ra ta ad qa ha S sv, bPw G ad pd N, bQw qa pp k, bHw G ha B ol sz, rW G ra v, rW G ta (cond (inr b 0 63 && inr t 0 200) (tickN (rk t) (upd v 2 b)) (u)), fam G 6 B VH, fam G 2 S VS])) 0 0 (aA (List.flatten [bMw G oa ra ta ad qa ha S sv, bPw G ad pd N, bQw qa pp k, bHw G ha B ol sz, rW G ra v, rW G ta u, fam G 6 B VH, fam G 2 S VS])) := by
  refine hd_MU (cc := cX4_ifPressed) (maxL := 3) (ret := some .int) (by decide) rfl (Nat.le_of_ble_eq_true rfl) ?_
  intro p e s m below meth c ls hx hb hr hts hown hlocks hml hP hKK hD hS hl
  have hl : lv_has ls 3 [(0, .ref (oa 0)), (1, .int b), (2, .int t)] := hl
  refine lv_iload_n hx hb dX4_ifPressed_0 rfl (lv_at hl 1 rfl) ?_
  refine ro_S (As := [.int b]) (rest := []) ⟨hx, hb, hml, hown, hts⟩ (c_X4_isButtonSet l G b) (va_cwS 1 hts gX4_ifPressed_X4_isButtonSet rfl rfl rfl (by decide +kernel) ⟨Nat.le_of_ble_eq_true rfl, Nat.le_of_ble_eq_true rfl⟩) (show gP G [] _ from fun k q h => by simp at h) hKK rfl hl.1 rfl (Nat.le_of_ble_eq_true rfl) dX4_ifPressed_1 (Nat.zero_le _) (Nat.zero_le _) ?_
  refine lv_if_eq (tgt := 18) hx hb dX4_ifPressed_4 (by decide) (fun c_4 => ?_) (fun c_4 => ?_)
  · skip
    have c_4 := b2i_0 c_4
    refine lv_bipush (v := (-2)) hx hb dX4_ifPressed_18 (by decide) ?_
    exact ex_MUi (w2 := (List.flatten [bMw G oa ra ta ad qa ha S sv, bPw G ad pd N, bQw qa pp k, bHw G ha B ol sz, rW G ra v, rW G ta u, fam G 6 B VH, fam G 2 S VS])) hx hb hr hlocks hP hS dX4_ifPressed_20 (by rw [c_4] <;> rfl) (fun h => by rw [c_4]; exact h)
  · skip
    have c_4 := b2i_1 c_4
    refine lv_iload_n hx hb dX4_ifPressed_7 rfl (lv_at hl 2 rfl) ?_
    refine lv_iconst (v := 0) hx hb dX4_ifPressed_8 (by decide) ?_
    refine lv_sipush (v := 200) hx hb dX4_ifPressed_9 (by decide) ?_
    refine ro_S (As := [.int t, .int 0, .int 200]) (rest := []) ⟨hx, hb, hml, hown, hts⟩ (c_X4_isWithin l G t 0 200) (va_cwS 3 hts gX4_ifPressed_X4_isWithin rfl rfl rfl (by decide +kernel) ⟨Nat.le_of_ble_eq_true rfl, Nat.le_of_ble_eq_true rfl⟩) (show gP G [] _ from fun k q h => by simp at h) hKK rfl hl.1 rfl (Nat.le_of_ble_eq_true rfl) dX4_ifPressed_12 (Nat.zero_le _) (Nat.zero_le _) ?_
    refine lv_if_ne (tgt := 21) hx hb dX4_ifPressed_15 (by decide) (fun c_15 => ?_) (fun c_15 => ?_)
    · skip
      have c_15 := b2i_1 c_15
      have ht9 := inr_r0200 c_15
      have hl : lv_has ls 3 [(0, .ref (oa 0)), (1, .int b), (2, .int (nI (rk t)))] := by have e_l1 : t = (nI (rk t)) := (ht9.1); rw [← e_l1]; exact hl
      refine lv_aload_n hx hb dX4_ifPressed_21 rfl (lv_at hl 0 rfl) ?_
      refine lv_iload_n hx hb dX4_ifPressed_22 rfl (lv_at hl 1 rfl) ?_
      refine mu_V (As := [.int b]) (rest := []) ⟨hx, hb, hml, hown, hts⟩ (c_X4_tryButtons l G oa ra ta ad qa ha B S v u VH VS sv pd N pp k ol sz b (by assumption) (by assumption) (by omega) (by omega) (by assumption) (by assumption)) (cwV 1 hts gX4_ifPressed_X4_tryButtons rfl rfl rfl (by decide +kernel) ⟨Nat.le_of_ble_eq_true rfl, Nat.le_of_ble_eq_true rfl⟩) hP hKK hD hS (va_recv hKK.1 hP (ci := 4) (q0 := 0) rfl rfl) rfl hl.1 rfl (Nat.le_of_ble_eq_true rfl) dX4_ifPressed_23 (Nat.zero_le _) (Nat.zero_le _) (flat_addr rfl) (fun H locs hP hD hS => ?_)
      refine lv_aload_n hx hb dX4_ifPressed_26 rfl (lv_at hl 0 rfl) ?_
      refine va_get (D := gD G) (ci := 4) (v := .ref (ta 0)) (C := RX4) (T := TX4) (N := 7) hx hb hts hin_X4_ifPressed_X4 hown hKK.1 hP 0 rfl rfl 1 (by decide) (hts _ lk_X4_ifPressed_16) (fun _ h9 => h9) rfl dX4_ifPressed_27 ?_
      refine lv_iload_n hx hb dX4_ifPressed_30 rfl (lv_at hl 2 rfl) ?_
      refine mu_VF (ws := (List.flatten [bMw G oa ra ta ad qa ha S sv, bPw G ad pd N, bQw qa pp k, bHw G ha B ol sz, rW G ra v, rW G ta (upd v 2 b), fam G 6 B VH, fam G 2 S VS])) (ws' := (List.flatten [bMw G oa ra ta ad qa ha S sv, bPw G ad pd N, bQw qa pp k, bHw G ha B ol sz, rW G ra v, rW G ta (tickN (rk t) (upd v 2 b)), fam G 6 B VH, fam G 2 S VS])) (wr := (List.flatten [bMw G oa ra ta ad qa ha S sv, bPw G ad pd N, bQw qa pp k, bHw G ha B ol sz, rW G ra v, fam G 6 B VH, fam G 2 S VS])) (As := [.int (nI (rk t))]) (rest := []) ⟨hx, hb, hml, hown, hts⟩ (c_X3_passTicks l G ta (upd v 2 b) (rk t) (by omega) (RI_lo hI (by decide) _)) (cwV 1 hts gX4_ifPressed_X3_passTicks rfl rfl rfl (by decide +kernel) ⟨Nat.le_of_ble_eq_true rfl, Nat.le_of_ble_eq_true rfl⟩) (segs_oneN [bMw G oa ra ta ad qa ha S sv, bPw G ad pd N, bQw qa pp k, bHw G ha B ol sz, rW G ra v, rW G ta (upd v 2 b), fam G 6 B VH, fam G 2 S VS] 5 [0, 1, 2, 3, 4, 6, 7] 8 (by decide) rfl rfl rfl) (segs_oneN [bMw G oa ra ta ad qa ha S sv, bPw G ad pd N, bQw qa pp k, bHw G ha B ol sz, rW G ra v, rW G ta (tickN (rk t) (upd v 2 b)), fam G 6 B VH, fam G 2 S VS] 5 [0, 1, 2, 3, 4, 6, 7] 8 (by decide) rfl rfl rfl) hP hKK hD hS (va_recv hKK.1 hP (ci := 3) (q0 := 17) rfl rfl) rfl hl.1 rfl (Nat.le_of_ble_eq_true rfl) dX4_ifPressed_31 (Nat.zero_le _) (Nat.zero_le _) rfl (fun H locs hP hD hS => ?_)
      refine lv_aload_n hx hb dX4_ifPressed_34 rfl (lv_at hl 0 rfl) ?_
      refine va_get (D := gD G) (ci := 4) (v := .ref (ta 0)) (C := RX4) (T := TX4) (N := 7) hx hb hts hin_X4_ifPressed_X4 hown hKK.1 hP 0 rfl rfl 1 (by decide) (hts _ lk_X4_ifPressed_16) (fun _ h9 => h9) rfl dX4_ifPressed_35 ?_
      refine va_get (D := gD G) (ci := 3) (v := .int ((tickN (rk t) (upd v 2 b)) 0)) (C := RX3) (T := TX3) (N := 14) hx hb hts hin_X4_ifPressed_X3 hown hKK.1 hP 17 rfl rfl 0 (by decide) (hts _ lk_X4_ifPressed_95) (fun _ h9 => h9) rfl dX4_ifPressed_38 ?_
      exact ex_MUi (w2 := (List.flatten [bMw G oa ra ta ad qa ha S sv, bPw G ad pd N, bQw qa pp k, bHw G ha B ol sz, rW G ra v, rW G ta (tickN (rk t) (upd v 2 b)), fam G 6 B VH, fam G 2 S VS])) hx hb hr hlocks hP hS dX4_ifPressed_41 (by rw [c_4, c_15] <;> rfl) (fun h => by rw [c_4, c_15]; exact h)
    · skip
      have c_15 := b2i_0 c_15
      refine lv_bipush (v := (-2)) hx hb dX4_ifPressed_18 (by decide) ?_
      exact ex_MUi (w2 := (List.flatten [bMw G oa ra ta ad qa ha S sv, bPw G ad pd N, bQw qa pp k, bHw G ha B ol sz, rW G ra v, rW G ta u, fam G 6 B VH, fam G 2 S VS])) hx hb hr hlocks hP hS dX4_ifPressed_20 (by rw [c_4, c_15] <;> rfl) (fun h => by rw [c_4, c_15]; exact h)
