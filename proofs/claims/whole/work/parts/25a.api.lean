set_option maxRecDepth 20000 in
theorem hin_X4_tryButtons_X4 : ∀ w ∈ u_ws RX4 TX4 7, w ∈ wsX4_tryButtons := by decide +kernel
theorem lk_X4_tryButtons_16 : Cond.fieldLink RX4 16 "WeldedRelays" "trial" "LWeldedRelays$Room;" ∈ wsX4_tryButtons := by decide +kernel
theorem lk_X4_tryButtons_12 : Cond.fieldLink RX4 12 "WeldedRelays" "room" "LWeldedRelays$Room;" ∈ wsX4_tryButtons := by decide +kernel
set_option maxRecDepth 20000 in
theorem hin_X4_tryButtons_X3 : ∀ w ∈ u_ws RX3 TX3 14, w ∈ wsX4_tryButtons := by decide +kernel
theorem lk_X4_tryButtons_85 : Cond.fieldLink RX4 85 "WeldedRelays$Room" "buttons" "I" ∈ wsX4_tryButtons := by decide +kernel
set_option maxHeartbeats 4000000 in
set_option maxRecDepth 100000 in
/-- X4_tryButtons -/
theorem c_X4_tryButtons (l : Launch) (G : GG) (oa : Nat → Nat) (ra : Nat → Nat) (ta : Nat → Nat) (ad : Nat → Nat) (qa : Nat → Nat) (ha : Nat → Nat) (B : Nat → Nat → Nat) (S : Nat → Nat → Nat) (v : Nat → Int32) (u : Nat → Int32) (VH : Nat → Nat → Int32) (VS : Nat → Nat → Int32) (sv : Nat → Int32) (pd : Nat → Int32) (N : Nat) (pp : Nat) (k : Nat) (ol : Nat) (sz : Nat) (b : Int32) (hn : N ≤ 64) (hk : k < 10) (hol : ol < 6) (hsz : sz ≤ 6) (hI : RI v) (hU : RI u) : Met l yX4_tryButtons wsX4_tryButtons ({ frames := 2, cells := 0, slots := 0, locals := 61 }) (pcM G [.ref (oa 0), .int b] (List.flatten [bMw G oa ra ta ad qa ha S sv, bPw G ad pd N, bQw qa pp k, bHw G ha B ol sz, rW G ra v, rW G ta u, fam G 6 B VH, fam G 2 S VS])) (qMU G none (List.flatten [bMw G oa ra ta ad qa ha S sv, bPw G ad pd N, bQw qa pp k, bHw G ha B ol sz, rW G ra v, rW G ta u, fam G 6 B VH, fam G 2 S VS]) (List.flatten [bMw G oa ra ta ad qa ha S sv, bPw G ad pd N, bQw qa pp k, bHw G ha B ol sz, rW G ra v, rW G ta (upd v 2 b), fam G 6 B VH, fam G 2 S VS])) 0 0 (aA (List.flatten [bMw G oa ra ta ad qa ha S sv, bPw G ad pd N, bQw qa pp k, bHw G ha B ol sz, rW G ra v, rW G ta u, fam G 6 B VH, fam G 2 S VS])) := by
  refine hd_MU (cc := cX4_tryButtons) (maxL := 2) (ret := none) (by decide) rfl (Nat.le_of_ble_eq_true rfl) ?_
  intro p e s m below meth c ls hx hb hr hts hown hlocks hml hP hKK hD hS hl
  have hl : lv_has ls 2 [(0, .ref (oa 0)), (1, .int b)] := hl
  refine lv_aload_n hx hb dX4_tryButtons_0 rfl (lv_at hl 0 rfl) ?_
  refine va_get (D := gD G) (ci := 4) (v := .ref (ta 0)) (C := RX4) (T := TX4) (N := 7) hx hb hts hin_X4_tryButtons_X4 hown hKK.1 hP 0 rfl rfl 1 (by decide) (hts _ lk_X4_tryButtons_16) (fun _ h9 => h9) rfl dX4_tryButtons_1 ?_
  refine lv_aload_n hx hb dX4_tryButtons_4 rfl (lv_at hl 0 rfl) ?_
  refine va_get (D := gD G) (ci := 4) (v := .ref (ra 0)) (C := RX4) (T := TX4) (N := 7) hx hb hts hin_X4_tryButtons_X4 hown hKK.1 hP 0 rfl rfl 0 (by decide) (hts _ lk_X4_tryButtons_12) (fun _ h9 => h9) rfl dX4_tryButtons_5 ?_
  refine mu_VF (ws := (List.flatten [bMw G oa ra ta ad qa ha S sv, bPw G ad pd N, bQw qa pp k, bHw G ha B ol sz, rW G ra v, rW G ta u, fam G 6 B VH, fam G 2 S VS])) (ws' := (List.flatten [bMw G oa ra ta ad qa ha S sv, bPw G ad pd N, bQw qa pp k, bHw G ha B ol sz, rW G ra v, rW G ta v, fam G 6 B VH, fam G 2 S VS])) (wr := (List.flatten [bMw G oa ra ta ad qa ha S sv, bPw G ad pd N, bQw qa pp k, bHw G ha B ol sz, fam G 6 B VH, fam G 2 S VS])) (As := [.ref (ra 0)]) (rest := []) ⟨hx, hb, hml, hown, hts⟩ (c_X3_copyFrom l G ta _ ra _) (cwV 1 hts gX4_tryButtons_X3_copyFrom rfl rfl rfl (by decide +kernel) ⟨Nat.le_of_ble_eq_true rfl, Nat.le_of_ble_eq_true rfl⟩) (segs_twoN [bMw G oa ra ta ad qa ha S sv, bPw G ad pd N, bQw qa pp k, bHw G ha B ol sz, rW G ra v, rW G ta u, fam G 6 B VH, fam G 2 S VS] [5, 4] [0, 1, 2, 3, 6, 7] 8 (by decide) rfl rfl rfl) (segs_twoN [bMw G oa ra ta ad qa ha S sv, bPw G ad pd N, bQw qa pp k, bHw G ha B ol sz, rW G ra v, rW G ta v, fam G 6 B VH, fam G 2 S VS] [5, 4] [0, 1, 2, 3, 6, 7] 8 (by decide) rfl rfl rfl) hP hKK hD hS (va_recv hKK.1 hP (ci := 3) (q0 := 17) rfl rfl) rfl hl.1 rfl (Nat.le_of_ble_eq_true rfl) dX4_tryButtons_8 (Nat.zero_le _) (Nat.zero_le _) rfl (fun H locs hP hD hS => ?_)
  refine lv_aload_n hx hb dX4_tryButtons_11 rfl (lv_at hl 0 rfl) ?_
  refine va_get (D := gD G) (ci := 4) (v := .ref (ta 0)) (C := RX4) (T := TX4) (N := 7) hx hb hts hin_X4_tryButtons_X4 hown hKK.1 hP 0 rfl rfl 1 (by decide) (hts _ lk_X4_tryButtons_16) (fun _ h9 => h9) rfl dX4_tryButtons_12 ?_
  refine lv_iload_n hx hb dX4_tryButtons_15 rfl (lv_at hl 1 rfl) ?_
  refine va_put (D := gD G) (ci := 3) (v := .int b) (ty := .int) (C := RX3) (T := TX3) (N := 14) hx hb hts hin_X4_tryButtons_X3 tyX3 tyX3_ok nmX3 hown hKK.1 hP hD hS 17 rfl rfl 2 (by decide) (hts _ lk_X4_tryButtons_85) (fun _ h9 => h9) rfl (by decide +kernel) rfl rfl (Nat.le_of_ble_eq_true rfl) dX4_tryButtons_16 (fun H locs hP hD hS => ?_)
  have e_16 := (rW_setI G ta v b).2.2.1
  have hP : gP G (List.flatten [bMw G oa ra ta ad qa ha S sv, bPw G ad pd N, bQw qa pp k, bHw G ha B ol sz, rW G ra v, rW G ta (upd v 2 b), fam G 6 B VH, fam G 2 S VS]) H := by rw [e_16]; exact hP
  have hD : va_D (aA (List.flatten [bMw G oa ra ta ad qa ha S sv, bPw G ad pd N, bQw qa pp k, bHw G ha B ol sz, rW G ra v, rW G ta u, fam G 6 B VH, fam G 2 S VS])) (List.flatten [bMw G oa ra ta ad qa ha S sv, bPw G ad pd N, bQw qa pp k, bHw G ha B ol sz, rW G ra v, rW G ta (upd v 2 b), fam G 6 B VH, fam G 2 S VS]) := by rw [e_16]; exact hD
  exact ex_MUv (w2 := (List.flatten [bMw G oa ra ta ad qa ha S sv, bPw G ad pd N, bQw qa pp k, bHw G ha B ol sz, rW G ra v, rW G ta (upd v 2 b), fam G 6 B VH, fam G 2 S VS])) hx hb hr hlocks hP hS dX4_tryButtons_19 (fun h => h)
set_option maxRecDepth 20000 in
theorem hin_X4_tryWelded_X4 : ∀ w ∈ u_ws RX4 TX4 7, w ∈ wsX4_tryWelded := by decide +kernel
theorem lk_X4_tryWelded_16 : Cond.fieldLink RX4 16 "WeldedRelays" "trial" "LWeldedRelays$Room;" ∈ wsX4_tryWelded := by decide +kernel
set_option maxRecDepth 20000 in
theorem hin_X4_tryWelded_X3 : ∀ w ∈ u_ws RX3 TX3 14, w ∈ wsX4_tryWelded := by decide +kernel
theorem lk_X4_tryWelded_95 : Cond.fieldLink RX4 95 "WeldedRelays$Room" "up" "I" ∈ wsX4_tryWelded := by decide +kernel
theorem lk_X4_tryWelded_98 : Cond.fieldLink RX4 98 "WeldedRelays$Room" "welded" "I" ∈ wsX4_tryWelded := by decide +kernel
set_option maxHeartbeats 4000000 in
set_option maxRecDepth 100000 in
/-- X4_tryWelded -/
theorem c_X4_tryWelded (l : Launch) (G : GG) (oa : Nat → Nat) (ra : Nat → Nat) (ta : Nat → Nat) (ad : Nat → Nat) (qa : Nat → Nat) (ha : Nat → Nat) (B : Nat → Nat → Nat) (S : Nat → Nat → Nat) (v : Nat → Int32) (u : Nat → Int32) (VH : Nat → Nat → Int32) (VS : Nat → Nat → Int32) (sv : Nat → Int32) (pd : Nat → Int32) (N : Nat) (pp : Nat) (k : Nat) (ol : Nat) (sz : Nat) (x : Int32) (hn : N ≤ 64) (hk : k < 10) (hol : ol < 6) (hsz : sz ≤ 6) (hI : RI v) (hU : RI u) : Met l yX4_tryWelded wsX4_tryWelded ({ frames := 3, cells := 0, slots := 0, locals := 82 }) (pcM G [.ref (oa 0), .int x] (List.flatten [bMw G oa ra ta ad qa ha S sv, bPw G ad pd N, bQw qa pp k, bHw G ha B ol sz, rW G ra v, rW G ta u, fam G 6 B VH, fam G 2 S VS])) (qMU G none (List.flatten [bMw G oa ra ta ad qa ha S sv, bPw G ad pd N, bQw qa pp k, bHw G ha B ol sz, rW G ra v, rW G ta u, fam G 6 B VH, fam G 2 S VS]) (List.flatten [bMw G oa ra ta ad qa ha S sv, bPw G ad pd N, bQw qa pp k, bHw G ha B ol sz, rW G ra v, rW G ta (wldI v x), fam G 6 B VH, fam G 2 S VS])) 0 0 (aA (List.flatten [bMw G oa ra ta ad qa ha S sv, bPw G ad pd N, bQw qa pp k, bHw G ha B ol sz, rW G ra v, rW G ta u, fam G 6 B VH, fam G 2 S VS])) := by
  refine hd_MU (cc := cX4_tryWelded) (maxL := 2) (ret := none) (by decide) rfl (Nat.le_of_ble_eq_true rfl) ?_
  intro p e s m below meth c ls hx hb hr hts hown hlocks hml hP hKK hD hS hl
  have hl : lv_has ls 2 [(0, .ref (oa 0)), (1, .int x)] := hl
  refine lv_aload_n hx hb dX4_tryWelded_0 rfl (lv_at hl 0 rfl) ?_
  refine lv_iconst (v := 0) hx hb dX4_tryWelded_1 (by decide) ?_
  refine mu_V (As := [.int 0]) (rest := []) ⟨hx, hb, hml, hown, hts⟩ (c_X4_tryButtons l G oa ra ta ad qa ha B S v u VH VS sv pd N pp k ol sz 0 (by assumption) (by assumption) (by omega) (by omega) (by assumption) (by assumption)) (cwV 1 hts gX4_tryWelded_X4_tryButtons rfl rfl rfl (by decide +kernel) ⟨Nat.le_of_ble_eq_true rfl, Nat.le_of_ble_eq_true rfl⟩) hP hKK hD hS (va_recv hKK.1 hP (ci := 4) (q0 := 0) rfl rfl) rfl hl.1 rfl (Nat.le_of_ble_eq_true rfl) dX4_tryWelded_2 (Nat.zero_le _) (Nat.zero_le _) (flat_addr rfl) (fun H locs hP hD hS => ?_)
  refine lv_aload_n hx hb dX4_tryWelded_5 rfl (lv_at hl 0 rfl) ?_
  refine va_get (D := gD G) (ci := 4) (v := .ref (ta 0)) (C := RX4) (T := TX4) (N := 7) hx hb hts hin_X4_tryWelded_X4 hown hKK.1 hP 0 rfl rfl 1 (by decide) (hts _ lk_X4_tryWelded_16) (fun _ h9 => h9) rfl dX4_tryWelded_6 ?_
  refine lv_dup hx hb dX4_tryWelded_9 rfl ?_
  refine va_get (D := gD G) (ci := 3) (v := .int ((upd v 2 0) 0)) (C := RX3) (T := TX3) (N := 14) hx hb hts hin_X4_tryWelded_X3 hown hKK.1 hP 17 rfl rfl 0 (by decide) (hts _ lk_X4_tryWelded_95) (fun _ h9 => h9) rfl dX4_tryWelded_10 ?_
  refine lv_iconst (v := 1) hx hb dX4_tryWelded_13 (by decide) ?_
  refine lv_iload_n hx hb dX4_tryWelded_14 rfl (lv_at hl 1 rfl) ?_
  refine lv_ishl hx hb dX4_tryWelded_15 ?_
  refine lv_asi (y := shl 1 x) rfl ?_
  refine lv_ior hx hb dX4_tryWelded_16 ?_
  refine va_put (D := gD G) (ci := 3) (v := .int (((upd v 2 0) 0) ||| (shl 1 x))) (ty := .int) (C := RX3) (T := TX3) (N := 14) hx hb hts hin_X4_tryWelded_X3 tyX3 tyX3_ok nmX3 hown hKK.1 hP hD hS 17 rfl rfl 0 (by decide) (hts _ lk_X4_tryWelded_95) (fun _ h9 => h9) rfl (by decide +kernel) rfl rfl (Nat.le_of_ble_eq_true rfl) dX4_tryWelded_17 (fun H locs hP hD hS => ?_)
  have e_17 := (rW_setI G ta (upd v 2 0) (((upd v 2 0) 0) ||| (shl 1 x))).1
  have hP : gP G (List.flatten [bMw G oa ra ta ad qa ha S sv, bPw G ad pd N, bQw qa pp k, bHw G ha B ol sz, rW G ra v, rW G ta (upd (upd v 2 0) 0 (((upd v 2 0) 0) ||| (shl 1 x))), fam G 6 B VH, fam G 2 S VS]) H := by rw [e_17]; exact hP
  have hD : va_D (aA (List.flatten [bMw G oa ra ta ad qa ha S sv, bPw G ad pd N, bQw qa pp k, bHw G ha B ol sz, rW G ra v, rW G ta u, fam G 6 B VH, fam G 2 S VS])) (List.flatten [bMw G oa ra ta ad qa ha S sv, bPw G ad pd N, bQw qa pp k, bHw G ha B ol sz, rW G ra v, rW G ta (upd (upd v 2 0) 0 (((upd v 2 0) 0) ||| (shl 1 x))), fam G 6 B VH, fam G 2 S VS]) := by rw [e_17]; exact hD
  refine lv_aload_n hx hb dX4_tryWelded_20 rfl (lv_at hl 0 rfl) ?_
  refine va_get (D := gD G) (ci := 4) (v := .ref (ta 0)) (C := RX4) (T := TX4) (N := 7) hx hb hts hin_X4_tryWelded_X4 hown hKK.1 hP 0 rfl rfl 1 (by decide) (hts _ lk_X4_tryWelded_16) (fun _ h9 => h9) rfl dX4_tryWelded_21 ?_
  refine lv_dup hx hb dX4_tryWelded_24 rfl ?_
  refine va_get (D := gD G) (ci := 3) (v := .int ((upd (upd v 2 0) 0 (((upd v 2 0) 0) ||| (shl 1 x))) 1)) (C := RX3) (T := TX3) (N := 14) hx hb hts hin_X4_tryWelded_X3 hown hKK.1 hP 17 rfl rfl 1 (by decide) (hts _ lk_X4_tryWelded_98) (fun _ h9 => h9) rfl dX4_tryWelded_25 ?_
  refine lv_iconst (v := 1) hx hb dX4_tryWelded_28 (by decide) ?_
  refine lv_iload_n hx hb dX4_tryWelded_29 rfl (lv_at hl 1 rfl) ?_
  refine lv_ishl hx hb dX4_tryWelded_30 ?_
  refine lv_asi (y := shl 1 x) rfl ?_
  refine lv_ior hx hb dX4_tryWelded_31 ?_
  refine va_put (D := gD G) (ci := 3) (v := .int (((upd (upd v 2 0) 0 (((upd v 2 0) 0) ||| (shl 1 x))) 1) ||| (shl 1 x))) (ty := .int) (C := RX3) (T := TX3) (N := 14) hx hb hts hin_X4_tryWelded_X3 tyX3 tyX3_ok nmX3 hown hKK.1 hP hD hS 17 rfl rfl 1 (by decide) (hts _ lk_X4_tryWelded_98) (fun _ h9 => h9) rfl (by decide +kernel) rfl rfl (Nat.le_of_ble_eq_true rfl) dX4_tryWelded_32 (fun H locs hP hD hS => ?_)
  have e_32 := (rW_setI G ta (upd (upd v 2 0) 0 (((upd v 2 0) 0) ||| (shl 1 x))) (((upd (upd v 2 0) 0 (((upd v 2 0) 0) ||| (shl 1 x))) 1) ||| (shl 1 x))).2.1
  have hP : gP G (List.flatten [bMw G oa ra ta ad qa ha S sv, bPw G ad pd N, bQw qa pp k, bHw G ha B ol sz, rW G ra v, rW G ta (upd (upd (upd v 2 0) 0 (((upd v 2 0) 0) ||| (shl 1 x))) 1 (((upd (upd v 2 0) 0 (((upd v 2 0) 0) ||| (shl 1 x))) 1) ||| (shl 1 x))), fam G 6 B VH, fam G 2 S VS]) H := by rw [e_32]; exact hP
  have hD : va_D (aA (List.flatten [bMw G oa ra ta ad qa ha S sv, bPw G ad pd N, bQw qa pp k, bHw G ha B ol sz, rW G ra v, rW G ta u, fam G 6 B VH, fam G 2 S VS])) (List.flatten [bMw G oa ra ta ad qa ha S sv, bPw G ad pd N, bQw qa pp k, bHw G ha B ol sz, rW G ra v, rW G ta (upd (upd (upd v 2 0) 0 (((upd v 2 0) 0) ||| (shl 1 x))) 1 (((upd (upd v 2 0) 0 (((upd v 2 0) 0) ||| (shl 1 x))) 1) ||| (shl 1 x))), fam G 6 B VH, fam G 2 S VS]) := by rw [e_32]; exact hD
  exact ex_MUv (w2 := (List.flatten [bMw G oa ra ta ad qa ha S sv, bPw G ad pd N, bQw qa pp k, bHw G ha B ol sz, rW G ra v, rW G ta (upd (upd (upd v 2 0) 0 (((upd v 2 0) 0) ||| (shl 1 x))) 1 (((upd (upd v 2 0) 0 (((upd v 2 0) 0) ||| (shl 1 x))) 1) ||| (shl 1 x))), fam G 6 B VH, fam G 2 S VS])) hx hb hr hlocks hP hS dX4_tryWelded_35 (fun h => h)
set_option maxRecDepth 20000 in
theorem hin_X4_time_X4 : ∀ w ∈ u_ws RX4 TX4 7, w ∈ wsX4_time := by decide +kernel
theorem lk_X4_time_36 : Cond.fieldLink RX4 36 "WeldedRelays" "history" "LWeldedRelays$History;" ∈ wsX4_time := by decide +kernel
theorem lk_X4_time_12 : Cond.fieldLink RX4 12 "WeldedRelays" "room" "LWeldedRelays$Room;" ∈ wsX4_time := by decide +kernel
set_option maxRecDepth 20000 in
theorem hin_X4_time_X3 : ∀ w ∈ u_ws RX3 TX3 14, w ∈ wsX4_time := by decide +kernel
theorem lk_X4_time_64 : Cond.fieldLink RX4 64 "WeldedRelays$Room" "pickTimes" "[I" ∈ wsX4_time := by decide +kernel
theorem lk_X4_time_60 : Cond.fieldLink RX4 60 "WeldedRelays$Room" "dropTimes" "[I" ∈ wsX4_time := by decide +kernel
set_option maxHeartbeats 4000000 in
set_option maxRecDepth 100000 in
/-- X4_time -/
theorem c_X4_time (l : Launch) (G : GG) (oa : Nat → Nat) (ra : Nat → Nat) (ta : Nat → Nat) (ad : Nat → Nat) (qa : Nat → Nat) (ha : Nat → Nat) (B : Nat → Nat → Nat) (S : Nat → Nat → Nat) (v : Nat → Int32) (u : Nat → Int32) (VH : Nat → Nat → Int32) (VS : Nat → Nat → Int32) (sv : Nat → Int32) (pd : Nat → Int32) (N : Nat) (pp : Nat) (k : Nat) (ol : Nat) (sz : Nat) (r : Int32) (z : Bool) (t : Int32) (hn : N ≤ 64) (hk : k < 10) (hol : ol < 6) (hsz : sz ≤ 6) (hI : RI v) (hU : RI u) : Met l yX4_time wsX4_time ({ frames := 3, cells := 0, slots := 0, locals := 82 }) (pcM G [.ref (oa 0), .int r, .int (b2i z), .int t] (List.flatten [bMw G oa ra ta ad qa ha S sv, bPw G ad pd N, bQw qa pp k, bHw G ha B ol sz, rW G ra v, rW G ta u, fam G 6 B VH, fam G 2 S VS])) (qMU G (some (.int (cond (inr r 0 9) (cond (inr t 1 9) (v (px (rk r) (zk z))) (-2)) (-1)))) (List.flatten [bMw G oa ra ta ad qa ha S sv, bPw G ad pd N, bQw qa pp k, bHw G ha B ol sz, rW G ra v, rW G ta u, fam G 6 B VH, fam G 2 S VS]) (List.flatten [bMw G oa ra ta ad qa ha S sv, bPw G ad pd N, bQw qa pp k, bHw G ha B (cond (inr r 0 9 && inr t 1 9) (recO ol sz) (ol)) (cond (inr r 0 9 && inr t 1 9) (recZ sz) (sz)), rW G ra (cond (inr r 0 9 && inr t 1 9) (upd v (px (rk r) (zk z)) t) (v)), rW G ta u, fam G 6 B (cond (inr r 0 9 && inr t 1 9) (recV VH ol sz v) (VH)), fam G 2 S VS])) 0 0 (aA (List.flatten [bMw G oa ra ta ad qa ha S sv, bPw G ad pd N, bQw qa pp k, bHw G ha B ol sz, rW G ra v, rW G ta u, fam G 6 B VH, fam G 2 S VS])) := by
  refine hd_MU (cc := cX4_time) (maxL := 6) (ret := some .int) (by decide) rfl (Nat.le_of_ble_eq_true rfl) ?_
  intro p e s m below meth c ls hx hb hr hts hown hlocks hml hP hKK hD hS hl
  have hl : lv_has ls 6 [(0, .ref (oa 0)), (1, .int r), (2, .int (b2i z)), (3, .int t)] := hl
  refine lv_iload_n hx hb dX4_time_0 rfl (lv_at hl 1 rfl) ?_
  refine ro_S (As := [.int r]) (rest := []) ⟨hx, hb, hml, hown, hts⟩ (c_X4_isRelay l G r) (va_cwS 1 hts gX4_time_X4_isRelay rfl rfl rfl (by decide +kernel) ⟨Nat.le_of_ble_eq_true rfl, Nat.le_of_ble_eq_true rfl⟩) (show gP G [] _ from fun k q h => by simp at h) hKK rfl hl.1 rfl (Nat.le_of_ble_eq_true rfl) dX4_time_1 (Nat.zero_le _) (Nat.zero_le _) ?_
  refine lv_if_ne (tgt := 9) hx hb dX4_time_4 (by decide) (fun c_4 => ?_) (fun c_4 => ?_)
  · skip
    have c_4 := b2i_1 c_4
    refine lv_iload_n hx hb dX4_time_9 rfl (lv_at hl 3 rfl) ?_
    refine lv_iconst (v := 1) hx hb dX4_time_10 (by decide) ?_
    refine lv_bipush (v := 9) hx hb dX4_time_11 (by decide) ?_
    refine ro_S (As := [.int t, .int 1, .int 9]) (rest := []) ⟨hx, hb, hml, hown, hts⟩ (c_X4_isWithin l G t 1 9) (va_cwS 3 hts gX4_time_X4_isWithin rfl rfl rfl (by decide +kernel) ⟨Nat.le_of_ble_eq_true rfl, Nat.le_of_ble_eq_true rfl⟩) (show gP G [] _ from fun k q h => by simp at h) hKK rfl hl.1 rfl (Nat.le_of_ble_eq_true rfl) dX4_time_13 (Nat.zero_le _) (Nat.zero_le _) ?_
    refine lv_if_ne (tgt := 22) hx hb dX4_time_16 (by decide) (fun c_16 => ?_) (fun c_16 => ?_)
    · skip
      have c_16 := b2i_1 c_16
      have hr9 := inr_rk c_4
      have hl : lv_has ls 6 [(0, .ref (oa 0)), (1, .int (nI (rk r))), (2, .int (b2i z)), (3, .int t)] := by have e_l1 : r = (nI (rk r)) := (hr9.1); rw [← e_l1]; exact hl
      refine lv_aload_n hx hb dX4_time_22 rfl (lv_at hl 0 rfl) ?_
      refine va_get (D := gD G) (ci := 4) (v := .ref (ha 0)) (C := RX4) (T := TX4) (N := 7) hx hb hts hin_X4_time_X4 hown hKK.1 hP 0 rfl rfl 4 (by decide) (hts _ lk_X4_time_36) (fun _ h9 => h9) rfl dX4_time_23 ?_
      refine lv_aload_n hx hb dX4_time_26 rfl (lv_at hl 0 rfl) ?_
      refine va_get (D := gD G) (ci := 4) (v := .ref (ra 0)) (C := RX4) (T := TX4) (N := 7) hx hb hts hin_X4_time_X4 hown hKK.1 hP 0 rfl rfl 0 (by decide) (hts _ lk_X4_time_12) (fun _ h9 => h9) rfl dX4_time_27 ?_
      refine mu_VF (ws := (List.flatten [bMw G oa ra ta ad qa ha S sv, bPw G ad pd N, bQw qa pp k, bHw G ha B ol sz, rW G ra v, rW G ta u, fam G 6 B VH, fam G 2 S VS])) (ws' := (List.flatten [bMw G oa ra ta ad qa ha S sv, bPw G ad pd N, bQw qa pp k, bHw G ha B (recO ol sz) (recZ sz), rW G ra v, rW G ta u, fam G 6 B (recV VH ol sz v), fam G 2 S VS])) (wr := (List.flatten [bMw G oa ra ta ad qa ha S sv, bPw G ad pd N, bQw qa pp k, rW G ta u, fam G 2 S VS])) (As := [.ref (ra 0)]) (rest := []) ⟨hx, hb, hml, hown, hts⟩ (c_X0_record l G ha ra B v VH ol sz (by omega) (by omega)) (cwV 1 hts gX4_time_X0_record rfl rfl rfl (by decide +kernel) ⟨Nat.le_of_ble_eq_true rfl, Nat.le_of_ble_eq_true rfl⟩) (segs_twoN [bMw G oa ra ta ad qa ha S sv, bPw G ad pd N, bQw qa pp k, bHw G ha B ol sz, rW G ra v, rW G ta u, fam G 6 B VH, fam G 2 S VS] [3, 4, 6] [0, 1, 2, 5, 7] 8 (by decide) rfl rfl rfl) (segs_twoN [bMw G oa ra ta ad qa ha S sv, bPw G ad pd N, bQw qa pp k, bHw G ha B (recO ol sz) (recZ sz), rW G ra v, rW G ta u, fam G 6 B (recV VH ol sz v), fam G 2 S VS] [3, 4, 6] [0, 1, 2, 5, 7] 8 (by decide) rfl rfl rfl) hP hKK hD hS (va_recv hKK.1 hP (ci := 0) (q0 := 6) rfl rfl) rfl hl.1 rfl (Nat.le_of_ble_eq_true rfl) dX4_time_30 (Nat.zero_le _) (Nat.zero_le _) (flat_addr rfl) (fun H locs hP hD hS => ?_)
      refine lv_iload_n hx hb dX4_time_33 rfl (lv_at hl 2 rfl) ?_
      refine lv_if_eq (tgt := 47) hx hb dX4_time_34 (by decide) (fun c_34 => ?_) (fun c_34 => ?_)
      · skip
        have c_34 := b2i_0 c_34
        refine lv_aload_n hx hb dX4_time_47 rfl (lv_at hl 0 rfl) ?_
        refine va_get (D := gD G) (ci := 4) (v := .ref (ra 0)) (C := RX4) (T := TX4) (N := 7) hx hb hts hin_X4_time_X4 hown hKK.1 hP 0 rfl rfl 0 (by decide) (hts _ lk_X4_time_12) (fun _ h9 => h9) rfl dX4_time_48 ?_
        refine va_get (D := gD G) (ci := 3) (v := .ref (ra 1)) (C := RX3) (T := TX3) (N := 14) hx hb hts hin_X4_time_X3 hown hKK.1 hP 8 rfl rfl 6 (by decide) (hts _ lk_X4_time_64) (fun _ h9 => h9) rfl dX4_time_51 ?_
        refine lv_astore (lv' := [(4, .ref (ra 1)), (0, .ref (oa 0)), (1, .int (nI (rk r))), (2, .int (b2i z)), (3, .int t)]) hx hb dX4_time_54 hl (by decide) rfl (fun ls hl => ?_)
        refine lv_aload hx hb dX4_time_56 (lv_at hl 0 rfl) ?_
        refine lv_iload_n hx hb dX4_time_58 rfl (lv_at hl 2 rfl) ?_
        refine va_ialdN (j := rk r) (v := v (px (rk r) 0)) hx hb hKK.1 hP 9 0 rfl rfl (rfl) (by omega) (by decide) (rfl) dX4_time_59 ?_
        refine lv_istore (lv' := [(5, .int (v (px (rk r) 0))), (4, .ref (ra 1)), (0, .ref (oa 0)), (1, .int (nI (rk r))), (2, .int (b2i z)), (3, .int t)]) hx hb dX4_time_60 hl (by decide) rfl (fun ls hl => ?_)
        refine lv_aload hx hb dX4_time_62 (lv_at hl 1 rfl) ?_
        refine lv_iload_n hx hb dX4_time_64 rfl (lv_at hl 3 rfl) ?_
        refine lv_iload_n hx hb dX4_time_65 rfl (lv_at hl 5 rfl) ?_
        refine va_iastN (j := rk r) (x := t) hx hb hKK.1 hP hD hS 9 0 rfl rfl (rfl) (by omega) (by decide) dX4_time_66 (fun H locs hP hD hS => ?_)
        have e_66 := rW_setR G ra v (rk r) 0 t (by decide)
        have hP : gP G (List.flatten [bMw G oa ra ta ad qa ha S sv, bPw G ad pd N, bQw qa pp k, bHw G ha B (recO ol sz) (recZ sz), rW G ra (upd v (px (rk r) 0) t), rW G ta u, fam G 6 B (recV VH ol sz v), fam G 2 S VS]) H := by rw [e_66]; exact hP
        have hD : va_D (aA (List.flatten [bMw G oa ra ta ad qa ha S sv, bPw G ad pd N, bQw qa pp k, bHw G ha B ol sz, rW G ra v, rW G ta u, fam G 6 B VH, fam G 2 S VS])) (List.flatten [bMw G oa ra ta ad qa ha S sv, bPw G ad pd N, bQw qa pp k, bHw G ha B (recO ol sz) (recZ sz), rW G ra (upd v (px (rk r) 0) t), rW G ta u, fam G 6 B (recV VH ol sz v), fam G 2 S VS]) := by rw [e_66]; exact hD
        refine lv_iload hx hb dX4_time_67 (lv_at hl 0 rfl) ?_
        exact ex_MUi (w2 := (List.flatten [bMw G oa ra ta ad qa ha S sv, bPw G ad pd N, bQw qa pp k, bHw G ha B (recO ol sz) (recZ sz), rW G ra (upd v (px (rk r) 0) t), rW G ta u, fam G 6 B (recV VH ol sz v), fam G 2 S VS])) hx hb hr hlocks hP hS dX4_time_69 (by rw [c_4, c_16, c_34] <;> rfl) (fun h => by rw [c_4, c_16, c_34]; exact h)
      · skip
        have c_34 := b2i_1 c_34
        refine lv_aload_n hx hb dX4_time_37 rfl (lv_at hl 0 rfl) ?_
        refine va_get (D := gD G) (ci := 4) (v := .ref (ra 0)) (C := RX4) (T := TX4) (N := 7) hx hb hts hin_X4_time_X4 hown hKK.1 hP 0 rfl rfl 0 (by decide) (hts _ lk_X4_time_12) (fun _ h9 => h9) rfl dX4_time_38 ?_
        refine va_get (D := gD G) (ci := 3) (v := .ref (ra 2)) (C := RX3) (T := TX3) (N := 14) hx hb hts hin_X4_time_X3 hown hKK.1 hP 8 rfl rfl 7 (by decide) (hts _ lk_X4_time_60) (fun _ h9 => h9) rfl dX4_time_41 ?_
        refine lv_goto (tgt := 54) hx hb dX4_time_44 (by decide) ?_
        refine lv_astore (lv' := [(4, .ref (ra 2)), (0, .ref (oa 0)), (1, .int (nI (rk r))), (2, .int (b2i z)), (3, .int t)]) hx hb dX4_time_54 hl (by decide) rfl (fun ls hl => ?_)
        refine lv_aload hx hb dX4_time_56 (lv_at hl 0 rfl) ?_
        refine lv_iload_n hx hb dX4_time_58 rfl (lv_at hl 2 rfl) ?_
        refine va_ialdN (j := rk r) (v := v (px (rk r) 1)) hx hb hKK.1 hP 10 0 rfl rfl (rfl) (by omega) (by decide) (rfl) dX4_time_59 ?_
        refine lv_istore (lv' := [(5, .int (v (px (rk r) 1))), (4, .ref (ra 2)), (0, .ref (oa 0)), (1, .int (nI (rk r))), (2, .int (b2i z)), (3, .int t)]) hx hb dX4_time_60 hl (by decide) rfl (fun ls hl => ?_)
        refine lv_aload hx hb dX4_time_62 (lv_at hl 1 rfl) ?_
        refine lv_iload_n hx hb dX4_time_64 rfl (lv_at hl 3 rfl) ?_
        refine lv_iload_n hx hb dX4_time_65 rfl (lv_at hl 5 rfl) ?_
        refine va_iastN (j := rk r) (x := t) hx hb hKK.1 hP hD hS 10 0 rfl rfl (rfl) (by omega) (by decide) dX4_time_66 (fun H locs hP hD hS => ?_)
        have e_66 := rW_setR G ra v (rk r) 1 t (by decide)
        have hP : gP G (List.flatten [bMw G oa ra ta ad qa ha S sv, bPw G ad pd N, bQw qa pp k, bHw G ha B (recO ol sz) (recZ sz), rW G ra (upd v (px (rk r) 1) t), rW G ta u, fam G 6 B (recV VH ol sz v), fam G 2 S VS]) H := by rw [e_66]; exact hP
        have hD : va_D (aA (List.flatten [bMw G oa ra ta ad qa ha S sv, bPw G ad pd N, bQw qa pp k, bHw G ha B ol sz, rW G ra v, rW G ta u, fam G 6 B VH, fam G 2 S VS])) (List.flatten [bMw G oa ra ta ad qa ha S sv, bPw G ad pd N, bQw qa pp k, bHw G ha B (recO ol sz) (recZ sz), rW G ra (upd v (px (rk r) 1) t), rW G ta u, fam G 6 B (recV VH ol sz v), fam G 2 S VS]) := by rw [e_66]; exact hD
        refine lv_iload hx hb dX4_time_67 (lv_at hl 0 rfl) ?_
        exact ex_MUi (w2 := (List.flatten [bMw G oa ra ta ad qa ha S sv, bPw G ad pd N, bQw qa pp k, bHw G ha B (recO ol sz) (recZ sz), rW G ra (upd v (px (rk r) 1) t), rW G ta u, fam G 6 B (recV VH ol sz v), fam G 2 S VS])) hx hb hr hlocks hP hS dX4_time_69 (by rw [c_4, c_16, c_34] <;> rfl) (fun h => by rw [c_4, c_16, c_34]; exact h)
    · skip
      have c_16 := b2i_0 c_16
      refine lv_bipush (v := (-2)) hx hb dX4_time_19 (by decide) ?_
      exact ex_MUi (w2 := (List.flatten [bMw G oa ra ta ad qa ha S sv, bPw G ad pd N, bQw qa pp k, bHw G ha B ol sz, rW G ra v, rW G ta u, fam G 6 B VH, fam G 2 S VS])) hx hb hr hlocks hP hS dX4_time_21 (by rw [c_4, c_16] <;> rfl) (fun h => by rw [c_4, c_16]; exact h)
  · skip
    have c_4 := b2i_0 c_4
    refine lv_iconst (v := (-1)) hx hb dX4_time_7 (by decide) ?_
    exact ex_MUi (w2 := (List.flatten [bMw G oa ra ta ad qa ha S sv, bPw G ad pd N, bQw qa pp k, bHw G ha B ol sz, rW G ra v, rW G ta u, fam G 6 B VH, fam G 2 S VS])) hx hb hr hlocks hP hS dX4_time_8 (by rw [c_4] <;> rfl) (fun h => by rw [c_4]; exact h)
set_option maxRecDepth 20000 in
theorem hin_X4_life_X4 : ∀ w ∈ u_ws RX4 TX4 7, w ∈ wsX4_life := by decide +kernel
theorem lk_X4_life_36 : Cond.fieldLink RX4 36 "WeldedRelays" "history" "LWeldedRelays$History;" ∈ wsX4_life := by decide +kernel
theorem lk_X4_life_12 : Cond.fieldLink RX4 12 "WeldedRelays" "room" "LWeldedRelays$Room;" ∈ wsX4_life := by decide +kernel
set_option maxRecDepth 20000 in
theorem hin_X4_life_X3 : ∀ w ∈ u_ws RX3 TX3 14, w ∈ wsX4_life := by decide +kernel
theorem lk_X4_life_67 : Cond.fieldLink RX4 67 "WeldedRelays$Room" "life" "I" ∈ wsX4_life := by decide +kernel
set_option maxHeartbeats 4000000 in
set_option maxRecDepth 100000 in
/-- X4_life -/
theorem c_X4_life (l : Launch) (G : GG) (oa : Nat → Nat) (ra : Nat → Nat) (ta : Nat → Nat) (ad : Nat → Nat) (qa : Nat → Nat) (ha : Nat → Nat) (B : Nat → Nat → Nat) (S : Nat → Nat → Nat) (v : Nat → Int32) (u : Nat → Int32) (VH : Nat → Nat → Int32) (VS : Nat → Nat → Int32) (sv : Nat → Int32) (pd : Nat → Int32) (N : Nat) (pp : Nat) (k : Nat) (ol : Nat) (sz : Nat) (x : Int32) (hn : N ≤ 64) (hk : k < 10) (hol : ol < 6) (hsz : sz ≤ 6) (hI : RI v) (hU : RI u) : Met l yX4_life wsX4_life ({ frames := 3, cells := 0, slots := 0, locals := 82 }) (pcM G [.ref (oa 0), .int x] (List.flatten [bMw G oa ra ta ad qa ha S sv, bPw G ad pd N, bQw qa pp k, bHw G ha B ol sz, rW G ra v, rW G ta u, fam G 6 B VH, fam G 2 S VS])) (qMU G (some (.int (cond (inr x 0 99) (v 5) (-2)))) (List.flatten [bMw G oa ra ta ad qa ha S sv, bPw G ad pd N, bQw qa pp k, bHw G ha B ol sz, rW G ra v, rW G ta u, fam G 6 B VH, fam G 2 S VS]) (List.flatten [bMw G oa ra ta ad qa ha S sv, bPw G ad pd N, bQw qa pp k, bHw G ha B (cond (inr x 0 99) (recO ol sz) (ol)) (cond (inr x 0 99) (recZ sz) (sz)), rW G ra (cond (inr x 0 99) (upd v 5 x) (v)), rW G ta u, fam G 6 B (cond (inr x 0 99) (recV VH ol sz v) (VH)), fam G 2 S VS])) 0 0 (aA (List.flatten [bMw G oa ra ta ad qa ha S sv, bPw G ad pd N, bQw qa pp k, bHw G ha B ol sz, rW G ra v, rW G ta u, fam G 6 B VH, fam G 2 S VS])) := by
  refine hd_MU (cc := cX4_life) (maxL := 3) (ret := some .int) (by decide) rfl (Nat.le_of_ble_eq_true rfl) ?_
  intro p e s m below meth c ls hx hb hr hts hown hlocks hml hP hKK hD hS hl
  have hl : lv_has ls 3 [(0, .ref (oa 0)), (1, .int x)] := hl
  refine lv_iload_n hx hb dX4_life_0 rfl (lv_at hl 1 rfl) ?_
  refine lv_iconst (v := 0) hx hb dX4_life_1 (by decide) ?_
  refine lv_bipush (v := 99) hx hb dX4_life_2 (by decide) ?_
  refine ro_S (As := [.int x, .int 0, .int 99]) (rest := []) ⟨hx, hb, hml, hown, hts⟩ (c_X4_isWithin l G x 0 99) (va_cwS 3 hts gX4_life_X4_isWithin rfl rfl rfl (by decide +kernel) ⟨Nat.le_of_ble_eq_true rfl, Nat.le_of_ble_eq_true rfl⟩) (show gP G [] _ from fun k q h => by simp at h) hKK rfl hl.1 rfl (Nat.le_of_ble_eq_true rfl) dX4_life_4 (Nat.zero_le _) (Nat.zero_le _) ?_
  refine lv_if_ne (tgt := 13) hx hb dX4_life_7 (by decide) (fun c_7 => ?_) (fun c_7 => ?_)
  · skip
    have c_7 := b2i_1 c_7
    refine lv_aload_n hx hb dX4_life_13 rfl (lv_at hl 0 rfl) ?_
    refine va_get (D := gD G) (ci := 4) (v := .ref (ha 0)) (C := RX4) (T := TX4) (N := 7) hx hb hts hin_X4_life_X4 hown hKK.1 hP 0 rfl rfl 4 (by decide) (hts _ lk_X4_life_36) (fun _ h9 => h9) rfl dX4_life_14 ?_
    refine lv_aload_n hx hb dX4_life_17 rfl (lv_at hl 0 rfl) ?_
    refine va_get (D := gD G) (ci := 4) (v := .ref (ra 0)) (C := RX4) (T := TX4) (N := 7) hx hb hts hin_X4_life_X4 hown hKK.1 hP 0 rfl rfl 0 (by decide) (hts _ lk_X4_life_12) (fun _ h9 => h9) rfl dX4_life_18 ?_
    refine mu_VF (ws := (List.flatten [bMw G oa ra ta ad qa ha S sv, bPw G ad pd N, bQw qa pp k, bHw G ha B ol sz, rW G ra v, rW G ta u, fam G 6 B VH, fam G 2 S VS])) (ws' := (List.flatten [bMw G oa ra ta ad qa ha S sv, bPw G ad pd N, bQw qa pp k, bHw G ha B (recO ol sz) (recZ sz), rW G ra v, rW G ta u, fam G 6 B (recV VH ol sz v), fam G 2 S VS])) (wr := (List.flatten [bMw G oa ra ta ad qa ha S sv, bPw G ad pd N, bQw qa pp k, rW G ta u, fam G 2 S VS])) (As := [.ref (ra 0)]) (rest := []) ⟨hx, hb, hml, hown, hts⟩ (c_X0_record l G ha ra B v VH ol sz (by omega) (by omega)) (cwV 1 hts gX4_life_X0_record rfl rfl rfl (by decide +kernel) ⟨Nat.le_of_ble_eq_true rfl, Nat.le_of_ble_eq_true rfl⟩) (segs_twoN [bMw G oa ra ta ad qa ha S sv, bPw G ad pd N, bQw qa pp k, bHw G ha B ol sz, rW G ra v, rW G ta u, fam G 6 B VH, fam G 2 S VS] [3, 4, 6] [0, 1, 2, 5, 7] 8 (by decide) rfl rfl rfl) (segs_twoN [bMw G oa ra ta ad qa ha S sv, bPw G ad pd N, bQw qa pp k, bHw G ha B (recO ol sz) (recZ sz), rW G ra v, rW G ta u, fam G 6 B (recV VH ol sz v), fam G 2 S VS] [3, 4, 6] [0, 1, 2, 5, 7] 8 (by decide) rfl rfl rfl) hP hKK hD hS (va_recv hKK.1 hP (ci := 0) (q0 := 6) rfl rfl) rfl hl.1 rfl (Nat.le_of_ble_eq_true rfl) dX4_life_21 (Nat.zero_le _) (Nat.zero_le _) (flat_addr rfl) (fun H locs hP hD hS => ?_)
    refine lv_aload_n hx hb dX4_life_24 rfl (lv_at hl 0 rfl) ?_
    refine va_get (D := gD G) (ci := 4) (v := .ref (ra 0)) (C := RX4) (T := TX4) (N := 7) hx hb hts hin_X4_life_X4 hown hKK.1 hP 0 rfl rfl 0 (by decide) (hts _ lk_X4_life_12) (fun _ h9 => h9) rfl dX4_life_25 ?_
    refine va_get (D := gD G) (ci := 3) (v := .int (v 5)) (C := RX3) (T := TX3) (N := 14) hx hb hts hin_X4_life_X3 hown hKK.1 hP 8 rfl rfl 3 (by decide) (hts _ lk_X4_life_67) (fun _ h9 => h9) rfl dX4_life_28 ?_
    refine lv_istore_n (lv' := [(2, .int (v 5)), (0, .ref (oa 0)), (1, .int x)]) hx hb dX4_life_31 rfl hl (by decide) rfl (fun ls hl => ?_)
    refine lv_aload_n hx hb dX4_life_32 rfl (lv_at hl 1 rfl) ?_
    refine va_get (D := gD G) (ci := 4) (v := .ref (ra 0)) (C := RX4) (T := TX4) (N := 7) hx hb hts hin_X4_life_X4 hown hKK.1 hP 0 rfl rfl 0 (by decide) (hts _ lk_X4_life_12) (fun _ h9 => h9) rfl dX4_life_33 ?_
    refine lv_iload_n hx hb dX4_life_36 rfl (lv_at hl 2 rfl) ?_
    refine va_put (D := gD G) (ci := 3) (v := .int x) (ty := .int) (C := RX3) (T := TX3) (N := 14) hx hb hts hin_X4_life_X3 tyX3 tyX3_ok nmX3 hown hKK.1 hP hD hS 8 rfl rfl 3 (by decide) (hts _ lk_X4_life_67) (fun _ h9 => h9) rfl (by decide +kernel) rfl rfl (Nat.le_of_ble_eq_true rfl) dX4_life_37 (fun H locs hP hD hS => ?_)
    have e_37 := (rW_setI G ra v x).2.2.2.1
    have hP : gP G (List.flatten [bMw G oa ra ta ad qa ha S sv, bPw G ad pd N, bQw qa pp k, bHw G ha B (recO ol sz) (recZ sz), rW G ra (upd v 5 x), rW G ta u, fam G 6 B (recV VH ol sz v), fam G 2 S VS]) H := by rw [e_37]; exact hP
    have hD : va_D (aA (List.flatten [bMw G oa ra ta ad qa ha S sv, bPw G ad pd N, bQw qa pp k, bHw G ha B ol sz, rW G ra v, rW G ta u, fam G 6 B VH, fam G 2 S VS])) (List.flatten [bMw G oa ra ta ad qa ha S sv, bPw G ad pd N, bQw qa pp k, bHw G ha B (recO ol sz) (recZ sz), rW G ra (upd v 5 x), rW G ta u, fam G 6 B (recV VH ol sz v), fam G 2 S VS]) := by rw [e_37]; exact hD
    refine lv_iload_n hx hb dX4_life_40 rfl (lv_at hl 0 rfl) ?_
    exact ex_MUi (w2 := (List.flatten [bMw G oa ra ta ad qa ha S sv, bPw G ad pd N, bQw qa pp k, bHw G ha B (recO ol sz) (recZ sz), rW G ra (upd v 5 x), rW G ta u, fam G 6 B (recV VH ol sz v), fam G 2 S VS])) hx hb hr hlocks hP hS dX4_life_41 (by rw [c_7] <;> rfl) (fun h => by rw [c_7]; exact h)
  · skip
    have c_7 := b2i_0 c_7
    refine lv_bipush (v := (-2)) hx hb dX4_life_10 (by decide) ?_
    exact ex_MUi (w2 := (List.flatten [bMw G oa ra ta ad qa ha S sv, bPw G ad pd N, bQw qa pp k, bHw G ha B ol sz, rW G ra v, rW G ta u, fam G 6 B VH, fam G 2 S VS])) hx hb hr hlocks hP hS dX4_life_12 (by rw [c_7] <;> rfl) (fun h => by rw [c_7]; exact h)
set_option maxRecDepth 20000 in
theorem hin_X4_press_X4 : ∀ w ∈ u_ws RX4 TX4 7, w ∈ wsX4_press := by decide +kernel
theorem lk_X4_press_12 : Cond.fieldLink RX4 12 "WeldedRelays" "room" "LWeldedRelays$Room;" ∈ wsX4_press := by decide +kernel
set_option maxRecDepth 20000 in
theorem hin_X4_press_X3 : ∀ w ∈ u_ws RX3 TX3 14, w ∈ wsX4_press := by decide +kernel
theorem lk_X4_press_85 : Cond.fieldLink RX4 85 "WeldedRelays$Room" "buttons" "I" ∈ wsX4_press := by decide +kernel
theorem lk_X4_press_36 : Cond.fieldLink RX4 36 "WeldedRelays" "history" "LWeldedRelays$History;" ∈ wsX4_press := by decide +kernel
set_option maxHeartbeats 4000000 in
set_option maxRecDepth 100000 in
/-- X4_press -/
theorem c_X4_press (l : Launch) (G : GG) (oa : Nat → Nat) (ra : Nat → Nat) (ta : Nat → Nat) (ad : Nat → Nat) (qa : Nat → Nat) (ha : Nat → Nat) (B : Nat → Nat → Nat) (S : Nat → Nat → Nat) (v : Nat → Int32) (u : Nat → Int32) (VH : Nat → Nat → Int32) (VS : Nat → Nat → Int32) (sv : Nat → Int32) (pd : Nat → Int32) (N : Nat) (pp : Nat) (k : Nat) (ol : Nat) (sz : Nat) (b : Int32) (z : Bool) (hn : N ≤ 64) (hk : k < 10) (hol : ol < 6) (hsz : sz ≤ 6) (hI : RI v) (hU : RI u) : Met l yX4_press wsX4_press ({ frames := 4, cells := 0, slots := 0, locals := 87 }) (pcM G [.ref (oa 0), .int b, .int (b2i z)] (List.flatten [bMw G oa ra ta ad qa ha S sv, bPw G ad pd N, bQw qa pp k, bHw G ha B ol sz, rW G ra v, rW G ta u, fam G 6 B VH, fam G 2 S VS])) (qMU G (some (.int (cond (inr b 0 5) (cond (hs (v 2) b == z) (-5) (wan (upd v 2 (v 2 ^^^ shl 1 b)))) (-1)))) (List.flatten [bMw G oa ra ta ad qa ha S sv, bPw G ad pd N, bQw qa pp k, bHw G ha B ol sz, rW G ra v, rW G ta u, fam G 6 B VH, fam G 2 S VS]) (List.flatten [bMw G oa ra ta ad qa ha S sv, bPw G ad pd N, bQw qa pp k, bHw G ha B (cond (inr b 0 5 && !(hs (v 2) b == z)) (recO ol sz) (ol)) (cond (inr b 0 5 && !(hs (v 2) b == z)) (recZ sz) (sz)), rW G ra (cond (inr b 0 5 && !(hs (v 2) b == z)) (upd v 2 (v 2 ^^^ shl 1 b)) (v)), rW G ta u, fam G 6 B (cond (inr b 0 5 && !(hs (v 2) b == z)) (recV VH ol sz v) (VH)), fam G 2 S VS])) 0 0 (aA (List.flatten [bMw G oa ra ta ad qa ha S sv, bPw G ad pd N, bQw qa pp k, bHw G ha B ol sz, rW G ra v, rW G ta u, fam G 6 B VH, fam G 2 S VS])) := by
  refine hd_MU (cc := cX4_press) (maxL := 3) (ret := some .int) (by decide) rfl (Nat.le_of_ble_eq_true rfl) ?_
  intro p e s m below meth c ls hx hb hr hts hown hlocks hml hP hKK hD hS hl
  have hl : lv_has ls 3 [(0, .ref (oa 0)), (1, .int b), (2, .int (b2i z))] := hl
  refine lv_iload_n hx hb dX4_press_0 rfl (lv_at hl 1 rfl) ?_
  refine lv_iconst (v := 0) hx hb dX4_press_1 (by decide) ?_
  refine lv_iconst (v := 5) hx hb dX4_press_2 (by decide) ?_
  refine ro_S (As := [.int b, .int 0, .int 5]) (rest := []) ⟨hx, hb, hml, hown, hts⟩ (c_X4_isWithin l G b 0 5) (va_cwS 3 hts gX4_press_X4_isWithin rfl rfl rfl (by decide +kernel) ⟨Nat.le_of_ble_eq_true rfl, Nat.le_of_ble_eq_true rfl⟩) (show gP G [] _ from fun k q h => by simp at h) hKK rfl hl.1 rfl (Nat.le_of_ble_eq_true rfl) dX4_press_3 (Nat.zero_le _) (Nat.zero_le _) ?_
  refine lv_if_ne (tgt := 11) hx hb dX4_press_6 (by decide) (fun c_6 => ?_) (fun c_6 => ?_)
  · skip
    have c_6 := b2i_1 c_6
    refine lv_aload_n hx hb dX4_press_11 rfl (lv_at hl 0 rfl) ?_
    refine va_get (D := gD G) (ci := 4) (v := .ref (ra 0)) (C := RX4) (T := TX4) (N := 7) hx hb hts hin_X4_press_X4 hown hKK.1 hP 0 rfl rfl 0 (by decide) (hts _ lk_X4_press_12) (fun _ h9 => h9) rfl dX4_press_12 ?_
    refine va_get (D := gD G) (ci := 3) (v := .int (v 2)) (C := RX3) (T := TX3) (N := 14) hx hb hts hin_X4_press_X3 hown hKK.1 hP 8 rfl rfl 2 (by decide) (hts _ lk_X4_press_85) (fun _ h9 => h9) rfl dX4_press_15 ?_
    refine lv_iload_n hx hb dX4_press_18 rfl (lv_at hl 1 rfl) ?_
    refine ro_S (As := [.int (v 2), .int b]) (rest := []) ⟨hx, hb, hml, hown, hts⟩ (c_X4_isIn l G (v 2) b) (va_cwS 2 hts gX4_press_X4_isIn rfl rfl rfl (by decide +kernel) ⟨Nat.le_of_ble_eq_true rfl, Nat.le_of_ble_eq_true rfl⟩) (show gP G [] _ from fun k q h => by simp at h) hKK rfl hl.1 rfl (Nat.le_of_ble_eq_true rfl) dX4_press_19 (Nat.zero_le _) (Nat.zero_le _) ?_
    refine lv_iload_n hx hb dX4_press_22 rfl (lv_at hl 2 rfl) ?_
    refine lv_icmp_ne (tgt := 29) hx hb dX4_press_23 (by decide) (fun c_23 => ?_) (fun c_23 => ?_)
    · skip
      have c_23 := b2i_ne c_23
      refine lv_aload_n hx hb dX4_press_29 rfl (lv_at hl 0 rfl) ?_
      refine va_get (D := gD G) (ci := 4) (v := .ref (ha 0)) (C := RX4) (T := TX4) (N := 7) hx hb hts hin_X4_press_X4 hown hKK.1 hP 0 rfl rfl 4 (by decide) (hts _ lk_X4_press_36) (fun _ h9 => h9) rfl dX4_press_30 ?_
      refine lv_aload_n hx hb dX4_press_33 rfl (lv_at hl 0 rfl) ?_
      refine va_get (D := gD G) (ci := 4) (v := .ref (ra 0)) (C := RX4) (T := TX4) (N := 7) hx hb hts hin_X4_press_X4 hown hKK.1 hP 0 rfl rfl 0 (by decide) (hts _ lk_X4_press_12) (fun _ h9 => h9) rfl dX4_press_34 ?_
      refine mu_VF (ws := (List.flatten [bMw G oa ra ta ad qa ha S sv, bPw G ad pd N, bQw qa pp k, bHw G ha B ol sz, rW G ra v, rW G ta u, fam G 6 B VH, fam G 2 S VS])) (ws' := (List.flatten [bMw G oa ra ta ad qa ha S sv, bPw G ad pd N, bQw qa pp k, bHw G ha B (recO ol sz) (recZ sz), rW G ra v, rW G ta u, fam G 6 B (recV VH ol sz v), fam G 2 S VS])) (wr := (List.flatten [bMw G oa ra ta ad qa ha S sv, bPw G ad pd N, bQw qa pp k, rW G ta u, fam G 2 S VS])) (As := [.ref (ra 0)]) (rest := []) ⟨hx, hb, hml, hown, hts⟩ (c_X0_record l G ha ra B v VH ol sz (by omega) (by omega)) (cwV 1 hts gX4_press_X0_record rfl rfl rfl (by decide +kernel) ⟨Nat.le_of_ble_eq_true rfl, Nat.le_of_ble_eq_true rfl⟩) (segs_twoN [bMw G oa ra ta ad qa ha S sv, bPw G ad pd N, bQw qa pp k, bHw G ha B ol sz, rW G ra v, rW G ta u, fam G 6 B VH, fam G 2 S VS] [3, 4, 6] [0, 1, 2, 5, 7] 8 (by decide) rfl rfl rfl) (segs_twoN [bMw G oa ra ta ad qa ha S sv, bPw G ad pd N, bQw qa pp k, bHw G ha B (recO ol sz) (recZ sz), rW G ra v, rW G ta u, fam G 6 B (recV VH ol sz v), fam G 2 S VS] [3, 4, 6] [0, 1, 2, 5, 7] 8 (by decide) rfl rfl rfl) hP hKK hD hS (va_recv hKK.1 hP (ci := 0) (q0 := 6) rfl rfl) rfl hl.1 rfl (Nat.le_of_ble_eq_true rfl) dX4_press_37 (Nat.zero_le _) (Nat.zero_le _) (flat_addr rfl) (fun H locs hP hD hS => ?_)
      refine lv_aload_n hx hb dX4_press_40 rfl (lv_at hl 0 rfl) ?_
      refine va_get (D := gD G) (ci := 4) (v := .ref (ra 0)) (C := RX4) (T := TX4) (N := 7) hx hb hts hin_X4_press_X4 hown hKK.1 hP 0 rfl rfl 0 (by decide) (hts _ lk_X4_press_12) (fun _ h9 => h9) rfl dX4_press_41 ?_
      refine lv_dup hx hb dX4_press_44 rfl ?_
      refine va_get (D := gD G) (ci := 3) (v := .int (v 2)) (C := RX3) (T := TX3) (N := 14) hx hb hts hin_X4_press_X3 hown hKK.1 hP 8 rfl rfl 2 (by decide) (hts _ lk_X4_press_85) (fun _ h9 => h9) rfl dX4_press_45 ?_
      refine lv_iconst (v := 1) hx hb dX4_press_48 (by decide) ?_
      refine lv_iload_n hx hb dX4_press_49 rfl (lv_at hl 1 rfl) ?_
      refine lv_ishl hx hb dX4_press_50 ?_
      refine lv_asi (y := shl 1 b) rfl ?_
      refine lv_ixor hx hb dX4_press_51 ?_
      refine va_put (D := gD G) (ci := 3) (v := .int ((v 2) ^^^ (shl 1 b))) (ty := .int) (C := RX3) (T := TX3) (N := 14) hx hb hts hin_X4_press_X3 tyX3 tyX3_ok nmX3 hown hKK.1 hP hD hS 8 rfl rfl 2 (by decide) (hts _ lk_X4_press_85) (fun _ h9 => h9) rfl (by decide +kernel) rfl rfl (Nat.le_of_ble_eq_true rfl) dX4_press_52 (fun H locs hP hD hS => ?_)
      have e_52 := (rW_setI G ra v ((v 2) ^^^ (shl 1 b))).2.2.1
      have hP : gP G (List.flatten [bMw G oa ra ta ad qa ha S sv, bPw G ad pd N, bQw qa pp k, bHw G ha B (recO ol sz) (recZ sz), rW G ra (upd v 2 ((v 2) ^^^ (shl 1 b))), rW G ta u, fam G 6 B (recV VH ol sz v), fam G 2 S VS]) H := by rw [e_52]; exact hP
      have hD : va_D (aA (List.flatten [bMw G oa ra ta ad qa ha S sv, bPw G ad pd N, bQw qa pp k, bHw G ha B ol sz, rW G ra v, rW G ta u, fam G 6 B VH, fam G 2 S VS])) (List.flatten [bMw G oa ra ta ad qa ha S sv, bPw G ad pd N, bQw qa pp k, bHw G ha B (recO ol sz) (recZ sz), rW G ra (upd v 2 ((v 2) ^^^ (shl 1 b))), rW G ta u, fam G 6 B (recV VH ol sz v), fam G 2 S VS]) := by rw [e_52]; exact hD
      refine lv_aload_n hx hb dX4_press_55 rfl (lv_at hl 0 rfl) ?_
      refine va_get (D := gD G) (ci := 4) (v := .ref (ra 0)) (C := RX4) (T := TX4) (N := 7) hx hb hts hin_X4_press_X4 hown hKK.1 hP 0 rfl rfl 0 (by decide) (hts _ lk_X4_press_12) (fun _ h9 => h9) rfl dX4_press_56 ?_
      refine ro_V (As := []) (rest := []) ⟨hx, hb, hml, hown, hts⟩ (c_X3_wantingRelays l G ra (upd v 2 ((v 2) ^^^ (shl 1 b))) (RI_lo hI (by decide) _)) (cwV 0 hts gX4_press_X3_wantingRelays rfl rfl rfl (by decide +kernel) ⟨Nat.le_of_ble_eq_true rfl, Nat.le_of_ble_eq_true rfl⟩) (seg_P 4 hP rfl) hKK (va_recv hKK.1 (seg_P 4 hP rfl) (ci := 3) (q0 := 0) rfl rfl) rfl hl.1 rfl (Nat.le_of_ble_eq_true rfl) dX4_press_59 (Nat.zero_le _) (Nat.zero_le _) ?_
      exact ex_MUi (w2 := (List.flatten [bMw G oa ra ta ad qa ha S sv, bPw G ad pd N, bQw qa pp k, bHw G ha B (recO ol sz) (recZ sz), rW G ra (upd v 2 ((v 2) ^^^ (shl 1 b))), rW G ta u, fam G 6 B (recV VH ol sz v), fam G 2 S VS])) hx hb hr hlocks hP hS dX4_press_62 (by rw [c_6, c_23] <;> rfl) (fun h => by rw [c_6, c_23]; exact h)
    · skip
      have c_23 := b2i_eq c_23
      refine lv_bipush (v := (-5)) hx hb dX4_press_26 (by decide) ?_
      exact ex_MUi (w2 := (List.flatten [bMw G oa ra ta ad qa ha S sv, bPw G ad pd N, bQw qa pp k, bHw G ha B ol sz, rW G ra v, rW G ta u, fam G 6 B VH, fam G 2 S VS])) hx hb hr hlocks hP hS dX4_press_28 (by rw [c_6, c_23] <;> rfl) (fun h => by rw [c_6, c_23]; exact h)
  · skip
    have c_6 := b2i_0 c_6
    refine lv_iconst (v := (-1)) hx hb dX4_press_9 (by decide) ?_
    exact ex_MUi (w2 := (List.flatten [bMw G oa ra ta ad qa ha S sv, bPw G ad pd N, bQw qa pp k, bHw G ha B ol sz, rW G ra v, rW G ta u, fam G 6 B VH, fam G 2 S VS])) hx hb hr hlocks hP hS dX4_press_10 (by rw [c_6] <;> rfl) (fun h => by rw [c_6]; exact h)
set_option maxRecDepth 20000 in
theorem hin_X4_weld_X4 : ∀ w ∈ u_ws RX4 TX4 7, w ∈ wsX4_weld := by decide +kernel
theorem lk_X4_weld_12 : Cond.fieldLink RX4 12 "WeldedRelays" "room" "LWeldedRelays$Room;" ∈ wsX4_weld := by decide +kernel
set_option maxRecDepth 20000 in
theorem hin_X4_weld_X3 : ∀ w ∈ u_ws RX3 TX3 14, w ∈ wsX4_weld := by decide +kernel
theorem lk_X4_weld_95 : Cond.fieldLink RX4 95 "WeldedRelays$Room" "up" "I" ∈ wsX4_weld := by decide +kernel
theorem lk_X4_weld_98 : Cond.fieldLink RX4 98 "WeldedRelays$Room" "welded" "I" ∈ wsX4_weld := by decide +kernel
theorem lk_X4_weld_36 : Cond.fieldLink RX4 36 "WeldedRelays" "history" "LWeldedRelays$History;" ∈ wsX4_weld := by decide +kernel
theorem lk_X4_weld_101 : Cond.fieldLink RX4 101 "WeldedRelays$Room" "operations" "[I" ∈ wsX4_weld := by decide +kernel
set_option maxHeartbeats 4000000 in
set_option maxRecDepth 100000 in
/-- X4_weld -/
theorem c_X4_weld (l : Launch) (G : GG) (oa : Nat → Nat) (ra : Nat → Nat) (ta : Nat → Nat) (ad : Nat → Nat) (qa : Nat → Nat) (ha : Nat → Nat) (B : Nat → Nat → Nat) (S : Nat → Nat → Nat) (v : Nat → Int32) (u : Nat → Int32) (VH : Nat → Nat → Int32) (VS : Nat → Nat → Int32) (sv : Nat → Int32) (pd : Nat → Int32) (N : Nat) (pp : Nat) (k : Nat) (ol : Nat) (sz : Nat) (r : Int32) (z : Bool) (hn : N ≤ 64) (hk : k < 10) (hol : ol < 6) (hsz : sz ≤ 6) (hI : RI v) (hU : RI u) : Met l yX4_weld wsX4_weld ({ frames := 3, cells := 0, slots := 0, locals := 82 }) (pcM G [.ref (oa 0), .int r, .int (b2i z)] (List.flatten [bMw G oa ra ta ad qa ha S sv, bPw G ad pd N, bQw qa pp k, bHw G ha B ol sz, rW G ra v, rW G ta u, fam G 6 B VH, fam G 2 S VS])) (qMU G (some (.int (cond (inr r 0 9) (cond ((hs (v 1) (nI (rk r)) == z) || (z && !hs (v 0) (nI (rk r)))) (-5) (v (px (rk r) 3))) (-1)))) (List.flatten [bMw G oa ra ta ad qa ha S sv, bPw G ad pd N, bQw qa pp k, bHw G ha B ol sz, rW G ra v, rW G ta u, fam G 6 B VH, fam G 2 S VS]) (List.flatten [bMw G oa ra ta ad qa ha S sv, bPw G ad pd N, bQw qa pp k, bHw G ha B (cond (inr r 0 9 && !((hs (v 1) (nI (rk r)) == z) || (z && !hs (v 0) (nI (rk r))))) (recO ol sz) (ol)) (cond (inr r 0 9 && !((hs (v 1) (nI (rk r)) == z) || (z && !hs (v 0) (nI (rk r))))) (recZ sz) (sz)), rW G ra (cond (inr r 0 9 && !((hs (v 1) (nI (rk r)) == z) || (z && !hs (v 0) (nI (rk r))))) (cond (z) (upd v 1 (v 1 ^^^ shl 1 (nI (rk r)))) (upd (upd v 1 (v 1 ^^^ shl 1 (nI (rk r)))) (px (rk r) 3) 0)) (v)), rW G ta u, fam G 6 B (cond (inr r 0 9 && !((hs (v 1) (nI (rk r)) == z) || (z && !hs (v 0) (nI (rk r))))) (recV VH ol sz v) (VH)), fam G 2 S VS])) 0 0 (aA (List.flatten [bMw G oa ra ta ad qa ha S sv, bPw G ad pd N, bQw qa pp k, bHw G ha B ol sz, rW G ra v, rW G ta u, fam G 6 B VH, fam G 2 S VS])) := by
  refine hd_MU (cc := cX4_weld) (maxL := 5) (ret := some .int) (by decide) rfl (Nat.le_of_ble_eq_true rfl) ?_
  intro p e s m below meth c ls hx hb hr hts hown hlocks hml hP hKK hD hS hl
  have hl : lv_has ls 5 [(0, .ref (oa 0)), (1, .int r), (2, .int (b2i z))] := hl
  refine lv_iload_n hx hb dX4_weld_0 rfl (lv_at hl 1 rfl) ?_
  refine ro_S (As := [.int r]) (rest := []) ⟨hx, hb, hml, hown, hts⟩ (c_X4_isRelay l G r) (va_cwS 1 hts gX4_weld_X4_isRelay rfl rfl rfl (by decide +kernel) ⟨Nat.le_of_ble_eq_true rfl, Nat.le_of_ble_eq_true rfl⟩) (show gP G [] _ from fun k q h => by simp at h) hKK rfl hl.1 rfl (Nat.le_of_ble_eq_true rfl) dX4_weld_1 (Nat.zero_le _) (Nat.zero_le _) ?_
  refine lv_if_ne (tgt := 9) hx hb dX4_weld_4 (by decide) (fun c_4 => ?_) (fun c_4 => ?_)
  · skip
    have c_4 := b2i_1 c_4
    have hr9 := inr_rk c_4
    have hl : lv_has ls 5 [(0, .ref (oa 0)), (1, .int (nI (rk r))), (2, .int (b2i z))] := by have e_l1 : r = (nI (rk r)) := (hr9.1); rw [← e_l1]; exact hl
    refine lv_aload_n hx hb dX4_weld_9 rfl (lv_at hl 0 rfl) ?_
    refine va_get (D := gD G) (ci := 4) (v := .ref (ra 0)) (C := RX4) (T := TX4) (N := 7) hx hb hts hin_X4_weld_X4 hown hKK.1 hP 0 rfl rfl 0 (by decide) (hts _ lk_X4_weld_12) (fun _ h9 => h9) rfl dX4_weld_10 ?_
    refine va_get (D := gD G) (ci := 3) (v := .int (v 0)) (C := RX3) (T := TX3) (N := 14) hx hb hts hin_X4_weld_X3 hown hKK.1 hP 8 rfl rfl 0 (by decide) (hts _ lk_X4_weld_95) (fun _ h9 => h9) rfl dX4_weld_13 ?_
    refine lv_iload_n hx hb dX4_weld_16 rfl (lv_at hl 1 rfl) ?_
    refine ro_S (As := [.int (v 0), .int (nI (rk r))]) (rest := []) ⟨hx, hb, hml, hown, hts⟩ (c_X4_isIn l G (v 0) (nI (rk r))) (va_cwS 2 hts gX4_weld_X4_isIn rfl rfl rfl (by decide +kernel) ⟨Nat.le_of_ble_eq_true rfl, Nat.le_of_ble_eq_true rfl⟩) (show gP G [] _ from fun k q h => by simp at h) hKK rfl hl.1 rfl (Nat.le_of_ble_eq_true rfl) dX4_weld_17 (Nat.zero_le _) (Nat.zero_le _) ?_
    refine lv_if_ne (tgt := 27) hx hb dX4_weld_20 (by decide) (fun c_20 => ?_) (fun c_20 => ?_)
    · skip
      have c_20 := b2i_1 c_20
      refine lv_iconst (v := 0) hx hb dX4_weld_27 (by decide) ?_
      refine lv_istore_n (lv' := [(3, .int 0), (0, .ref (oa 0)), (1, .int (nI (rk r))), (2, .int (b2i z))]) hx hb dX4_weld_28 rfl hl (by decide) rfl (fun ls hl => ?_)
      refine lv_aload_n hx hb dX4_weld_29 rfl (lv_at hl 1 rfl) ?_
      refine va_get (D := gD G) (ci := 4) (v := .ref (ra 0)) (C := RX4) (T := TX4) (N := 7) hx hb hts hin_X4_weld_X4 hown hKK.1 hP 0 rfl rfl 0 (by decide) (hts _ lk_X4_weld_12) (fun _ h9 => h9) rfl dX4_weld_30 ?_
      refine va_get (D := gD G) (ci := 3) (v := .int (v 1)) (C := RX3) (T := TX3) (N := 14) hx hb hts hin_X4_weld_X3 hown hKK.1 hP 8 rfl rfl 1 (by decide) (hts _ lk_X4_weld_98) (fun _ h9 => h9) rfl dX4_weld_33 ?_
      refine lv_iload_n hx hb dX4_weld_36 rfl (lv_at hl 2 rfl) ?_
      refine ro_S (As := [.int (v 1), .int (nI (rk r))]) (rest := []) ⟨hx, hb, hml, hown, hts⟩ (c_X4_isIn l G (v 1) (nI (rk r))) (va_cwS 2 hts gX4_weld_X4_isIn rfl rfl rfl (by decide +kernel) ⟨Nat.le_of_ble_eq_true rfl, Nat.le_of_ble_eq_true rfl⟩) (show gP G [] _ from fun k q h => by simp at h) hKK rfl hl.1 rfl (Nat.le_of_ble_eq_true rfl) dX4_weld_37 (Nat.zero_le _) (Nat.zero_le _) ?_
      refine lv_iload_n hx hb dX4_weld_40 rfl (lv_at hl 3 rfl) ?_
      refine lv_icmp_eq (tgt := 52) hx hb dX4_weld_41 (by decide) (fun c_41 => ?_) (fun c_41 => ?_)
      · skip
        have c_41 := b2i_eq c_41
        refine lv_bipush (v := (-5)) hx hb dX4_weld_52 (by decide) ?_
        exact ex_MUi (w2 := (List.flatten [bMw G oa ra ta ad qa ha S sv, bPw G ad pd N, bQw qa pp k, bHw G ha B ol sz, rW G ra v, rW G ta u, fam G 6 B VH, fam G 2 S VS])) hx hb hr hlocks hP hS dX4_weld_54 (by rw [c_4, c_41, c_20] <;> rfl) (fun h => by rw [c_4, c_41, c_20]; exact h)
      · skip
        have c_41 := b2i_ne c_41
        refine lv_iload_n hx hb dX4_weld_44 rfl (lv_at hl 3 rfl) ?_
        refine lv_if_eq (tgt := 55) hx hb dX4_weld_45 (by decide) (fun c_45 => ?_) (fun c_45 => ?_)
        · skip
          have c_45 := b2i_0 c_45
          refine lv_aload_n hx hb dX4_weld_55 rfl (lv_at hl 1 rfl) ?_
          refine va_get (D := gD G) (ci := 4) (v := .ref (ha 0)) (C := RX4) (T := TX4) (N := 7) hx hb hts hin_X4_weld_X4 hown hKK.1 hP 0 rfl rfl 4 (by decide) (hts _ lk_X4_weld_36) (fun _ h9 => h9) rfl dX4_weld_56 ?_
          refine lv_aload_n hx hb dX4_weld_59 rfl (lv_at hl 1 rfl) ?_
          refine va_get (D := gD G) (ci := 4) (v := .ref (ra 0)) (C := RX4) (T := TX4) (N := 7) hx hb hts hin_X4_weld_X4 hown hKK.1 hP 0 rfl rfl 0 (by decide) (hts _ lk_X4_weld_12) (fun _ h9 => h9) rfl dX4_weld_60 ?_
          refine mu_VF (ws := (List.flatten [bMw G oa ra ta ad qa ha S sv, bPw G ad pd N, bQw qa pp k, bHw G ha B ol sz, rW G ra v, rW G ta u, fam G 6 B VH, fam G 2 S VS])) (ws' := (List.flatten [bMw G oa ra ta ad qa ha S sv, bPw G ad pd N, bQw qa pp k, bHw G ha B (recO ol sz) (recZ sz), rW G ra v, rW G ta u, fam G 6 B (recV VH ol sz v), fam G 2 S VS])) (wr := (List.flatten [bMw G oa ra ta ad qa ha S sv, bPw G ad pd N, bQw qa pp k, rW G ta u, fam G 2 S VS])) (As := [.ref (ra 0)]) (rest := []) ⟨hx, hb, hml, hown, hts⟩ (c_X0_record l G ha ra B v VH ol sz (by omega) (by omega)) (cwV 1 hts gX4_weld_X0_record rfl rfl rfl (by decide +kernel) ⟨Nat.le_of_ble_eq_true rfl, Nat.le_of_ble_eq_true rfl⟩) (segs_twoN [bMw G oa ra ta ad qa ha S sv, bPw G ad pd N, bQw qa pp k, bHw G ha B ol sz, rW G ra v, rW G ta u, fam G 6 B VH, fam G 2 S VS] [3, 4, 6] [0, 1, 2, 5, 7] 8 (by decide) rfl rfl rfl) (segs_twoN [bMw G oa ra ta ad qa ha S sv, bPw G ad pd N, bQw qa pp k, bHw G ha B (recO ol sz) (recZ sz), rW G ra v, rW G ta u, fam G 6 B (recV VH ol sz v), fam G 2 S VS] [3, 4, 6] [0, 1, 2, 5, 7] 8 (by decide) rfl rfl rfl) hP hKK hD hS (va_recv hKK.1 hP (ci := 0) (q0 := 6) rfl rfl) rfl hl.1 rfl (Nat.le_of_ble_eq_true rfl) dX4_weld_63 (Nat.zero_le _) (Nat.zero_le _) (flat_addr rfl) (fun H locs hP hD hS => ?_)
          refine lv_aload_n hx hb dX4_weld_66 rfl (lv_at hl 1 rfl) ?_
          refine va_get (D := gD G) (ci := 4) (v := .ref (ra 0)) (C := RX4) (T := TX4) (N := 7) hx hb hts hin_X4_weld_X4 hown hKK.1 hP 0 rfl rfl 0 (by decide) (hts _ lk_X4_weld_12) (fun _ h9 => h9) rfl dX4_weld_67 ?_
          refine va_get (D := gD G) (ci := 3) (v := .ref (ra 4)) (C := RX3) (T := TX3) (N := 14) hx hb hts hin_X4_weld_X3 hown hKK.1 hP 8 rfl rfl 9 (by decide) (hts _ lk_X4_weld_101) (fun _ h9 => h9) rfl dX4_weld_70 ?_
          refine lv_iload_n hx hb dX4_weld_73 rfl (lv_at hl 2 rfl) ?_
          refine va_ialdN (j := rk r) (v := v (px (rk r) 3)) hx hb hKK.1 hP 12 0 rfl rfl (rfl) (by omega) (by decide) (rfl) dX4_weld_74 ?_
          refine lv_istore (lv' := [(4, .int (v (px (rk r) 3))), (3, .int 0), (0, .ref (oa 0)), (1, .int (nI (rk r))), (2, .int (b2i z))]) hx hb dX4_weld_75 hl (by decide) rfl (fun ls hl => ?_)
          refine lv_aload_n hx hb dX4_weld_77 rfl (lv_at hl 2 rfl) ?_
          refine va_get (D := gD G) (ci := 4) (v := .ref (ra 0)) (C := RX4) (T := TX4) (N := 7) hx hb hts hin_X4_weld_X4 hown hKK.1 hP 0 rfl rfl 0 (by decide) (hts _ lk_X4_weld_12) (fun _ h9 => h9) rfl dX4_weld_78 ?_
          refine lv_dup hx hb dX4_weld_81 rfl ?_
          refine va_get (D := gD G) (ci := 3) (v := .int (v 1)) (C := RX3) (T := TX3) (N := 14) hx hb hts hin_X4_weld_X3 hown hKK.1 hP 8 rfl rfl 1 (by decide) (hts _ lk_X4_weld_98) (fun _ h9 => h9) rfl dX4_weld_82 ?_
          refine lv_iconst (v := 1) hx hb dX4_weld_85 (by decide) ?_
          refine lv_iload_n hx hb dX4_weld_86 rfl (lv_at hl 3 rfl) ?_
          refine lv_ishl hx hb dX4_weld_87 ?_
          refine lv_asi (y := shl 1 (nI (rk r))) rfl ?_
          refine lv_ixor hx hb dX4_weld_88 ?_
          refine va_put (D := gD G) (ci := 3) (v := .int ((v 1) ^^^ (shl 1 (nI (rk r))))) (ty := .int) (C := RX3) (T := TX3) (N := 14) hx hb hts hin_X4_weld_X3 tyX3 tyX3_ok nmX3 hown hKK.1 hP hD hS 8 rfl rfl 1 (by decide) (hts _ lk_X4_weld_98) (fun _ h9 => h9) rfl (by decide +kernel) rfl rfl (Nat.le_of_ble_eq_true rfl) dX4_weld_89 (fun H locs hP hD hS => ?_)
          have e_89 := (rW_setI G ra v ((v 1) ^^^ (shl 1 (nI (rk r))))).2.1
          have hP : gP G (List.flatten [bMw G oa ra ta ad qa ha S sv, bPw G ad pd N, bQw qa pp k, bHw G ha B (recO ol sz) (recZ sz), rW G ra (upd v 1 ((v 1) ^^^ (shl 1 (nI (rk r))))), rW G ta u, fam G 6 B (recV VH ol sz v), fam G 2 S VS]) H := by rw [e_89]; exact hP
          have hD : va_D (aA (List.flatten [bMw G oa ra ta ad qa ha S sv, bPw G ad pd N, bQw qa pp k, bHw G ha B ol sz, rW G ra v, rW G ta u, fam G 6 B VH, fam G 2 S VS])) (List.flatten [bMw G oa ra ta ad qa ha S sv, bPw G ad pd N, bQw qa pp k, bHw G ha B (recO ol sz) (recZ sz), rW G ra (upd v 1 ((v 1) ^^^ (shl 1 (nI (rk r))))), rW G ta u, fam G 6 B (recV VH ol sz v), fam G 2 S VS]) := by rw [e_89]; exact hD
          refine lv_iload_n hx hb dX4_weld_92 rfl (lv_at hl 4 rfl) ?_
          refine lv_if_ne (tgt := 106) hx hb dX4_weld_93 (by decide) (fun c_93 => ?_) (fun c_93 => ?_)
          · skip
            have c_93 := b2i_1 c_93
            exact Bool.noConfusion (c_45.symm.trans c_93)
          · skip
            have c_93 := b2i_0 c_93
            refine lv_aload_n hx hb dX4_weld_96 rfl (lv_at hl 2 rfl) ?_
            refine va_get (D := gD G) (ci := 4) (v := .ref (ra 0)) (C := RX4) (T := TX4) (N := 7) hx hb hts hin_X4_weld_X4 hown hKK.1 hP 0 rfl rfl 0 (by decide) (hts _ lk_X4_weld_12) (fun _ h9 => h9) rfl dX4_weld_97 ?_
            refine va_get (D := gD G) (ci := 3) (v := .ref (ra 4)) (C := RX3) (T := TX3) (N := 14) hx hb hts hin_X4_weld_X3 hown hKK.1 hP 8 rfl rfl 9 (by decide) (hts _ lk_X4_weld_101) (fun _ h9 => h9) rfl dX4_weld_100 ?_
            refine lv_iload_n hx hb dX4_weld_103 rfl (lv_at hl 3 rfl) ?_
            refine lv_iconst (v := 0) hx hb dX4_weld_104 (by decide) ?_
            refine va_iastN (j := rk r) (x := 0) hx hb hKK.1 hP hD hS 12 0 rfl rfl (rfl) (by omega) (by decide) dX4_weld_105 (fun H locs hP hD hS => ?_)
            have e_105 := rW_setR G ra (upd v 1 ((v 1) ^^^ (shl 1 (nI (rk r))))) (rk r) 3 0 (by decide)
            have hP : gP G (List.flatten [bMw G oa ra ta ad qa ha S sv, bPw G ad pd N, bQw qa pp k, bHw G ha B (recO ol sz) (recZ sz), rW G ra (upd (upd v 1 ((v 1) ^^^ (shl 1 (nI (rk r))))) (px (rk r) 3) 0), rW G ta u, fam G 6 B (recV VH ol sz v), fam G 2 S VS]) H := by rw [e_105]; exact hP
            have hD : va_D (aA (List.flatten [bMw G oa ra ta ad qa ha S sv, bPw G ad pd N, bQw qa pp k, bHw G ha B ol sz, rW G ra v, rW G ta u, fam G 6 B VH, fam G 2 S VS])) (List.flatten [bMw G oa ra ta ad qa ha S sv, bPw G ad pd N, bQw qa pp k, bHw G ha B (recO ol sz) (recZ sz), rW G ra (upd (upd v 1 ((v 1) ^^^ (shl 1 (nI (rk r))))) (px (rk r) 3) 0), rW G ta u, fam G 6 B (recV VH ol sz v), fam G 2 S VS]) := by rw [e_105]; exact hD
            refine lv_iload hx hb dX4_weld_106 (lv_at hl 0 rfl) ?_
            exact ex_MUi (w2 := (List.flatten [bMw G oa ra ta ad qa ha S sv, bPw G ad pd N, bQw qa pp k, bHw G ha B (recO ol sz) (recZ sz), rW G ra (upd (upd v 1 ((v 1) ^^^ (shl 1 (nI (rk r))))) (px (rk r) 3) 0), rW G ta u, fam G 6 B (recV VH ol sz v), fam G 2 S VS])) hx hb hr hlocks hP hS dX4_weld_108 (by rw [c_4, c_41, c_45, c_20] <;> rfl) (fun h => by rw [c_4, c_41, c_45, c_20]; exact h)
        · skip
          have c_45 := b2i_1 c_45
          refine lv_iload_n hx hb dX4_weld_48 rfl (lv_at hl 0 rfl) ?_
          refine lv_if_eq (tgt := 55) hx hb dX4_weld_49 (by decide) (fun c_49 => ?_) (fun c_49 => ?_)
          · skip
            refine lv_aload_n hx hb dX4_weld_55 rfl (lv_at hl 1 rfl) ?_
            refine va_get (D := gD G) (ci := 4) (v := .ref (ha 0)) (C := RX4) (T := TX4) (N := 7) hx hb hts hin_X4_weld_X4 hown hKK.1 hP 0 rfl rfl 4 (by decide) (hts _ lk_X4_weld_36) (fun _ h9 => h9) rfl dX4_weld_56 ?_
            refine lv_aload_n hx hb dX4_weld_59 rfl (lv_at hl 1 rfl) ?_
            refine va_get (D := gD G) (ci := 4) (v := .ref (ra 0)) (C := RX4) (T := TX4) (N := 7) hx hb hts hin_X4_weld_X4 hown hKK.1 hP 0 rfl rfl 0 (by decide) (hts _ lk_X4_weld_12) (fun _ h9 => h9) rfl dX4_weld_60 ?_
            refine mu_VF (ws := (List.flatten [bMw G oa ra ta ad qa ha S sv, bPw G ad pd N, bQw qa pp k, bHw G ha B ol sz, rW G ra v, rW G ta u, fam G 6 B VH, fam G 2 S VS])) (ws' := (List.flatten [bMw G oa ra ta ad qa ha S sv, bPw G ad pd N, bQw qa pp k, bHw G ha B (recO ol sz) (recZ sz), rW G ra v, rW G ta u, fam G 6 B (recV VH ol sz v), fam G 2 S VS])) (wr := (List.flatten [bMw G oa ra ta ad qa ha S sv, bPw G ad pd N, bQw qa pp k, rW G ta u, fam G 2 S VS])) (As := [.ref (ra 0)]) (rest := []) ⟨hx, hb, hml, hown, hts⟩ (c_X0_record l G ha ra B v VH ol sz (by omega) (by omega)) (cwV 1 hts gX4_weld_X0_record rfl rfl rfl (by decide +kernel) ⟨Nat.le_of_ble_eq_true rfl, Nat.le_of_ble_eq_true rfl⟩) (segs_twoN [bMw G oa ra ta ad qa ha S sv, bPw G ad pd N, bQw qa pp k, bHw G ha B ol sz, rW G ra v, rW G ta u, fam G 6 B VH, fam G 2 S VS] [3, 4, 6] [0, 1, 2, 5, 7] 8 (by decide) rfl rfl rfl) (segs_twoN [bMw G oa ra ta ad qa ha S sv, bPw G ad pd N, bQw qa pp k, bHw G ha B (recO ol sz) (recZ sz), rW G ra v, rW G ta u, fam G 6 B (recV VH ol sz v), fam G 2 S VS] [3, 4, 6] [0, 1, 2, 5, 7] 8 (by decide) rfl rfl rfl) hP hKK hD hS (va_recv hKK.1 hP (ci := 0) (q0 := 6) rfl rfl) rfl hl.1 rfl (Nat.le_of_ble_eq_true rfl) dX4_weld_63 (Nat.zero_le _) (Nat.zero_le _) (flat_addr rfl) (fun H locs hP hD hS => ?_)
            refine lv_aload_n hx hb dX4_weld_66 rfl (lv_at hl 1 rfl) ?_
            refine va_get (D := gD G) (ci := 4) (v := .ref (ra 0)) (C := RX4) (T := TX4) (N := 7) hx hb hts hin_X4_weld_X4 hown hKK.1 hP 0 rfl rfl 0 (by decide) (hts _ lk_X4_weld_12) (fun _ h9 => h9) rfl dX4_weld_67 ?_
            refine va_get (D := gD G) (ci := 3) (v := .ref (ra 4)) (C := RX3) (T := TX3) (N := 14) hx hb hts hin_X4_weld_X3 hown hKK.1 hP 8 rfl rfl 9 (by decide) (hts _ lk_X4_weld_101) (fun _ h9 => h9) rfl dX4_weld_70 ?_
            refine lv_iload_n hx hb dX4_weld_73 rfl (lv_at hl 2 rfl) ?_
            refine va_ialdN (j := rk r) (v := v (px (rk r) 3)) hx hb hKK.1 hP 12 0 rfl rfl (rfl) (by omega) (by decide) (rfl) dX4_weld_74 ?_
            refine lv_istore (lv' := [(4, .int (v (px (rk r) 3))), (3, .int 0), (0, .ref (oa 0)), (1, .int (nI (rk r))), (2, .int (b2i z))]) hx hb dX4_weld_75 hl (by decide) rfl (fun ls hl => ?_)
            refine lv_aload_n hx hb dX4_weld_77 rfl (lv_at hl 2 rfl) ?_
            refine va_get (D := gD G) (ci := 4) (v := .ref (ra 0)) (C := RX4) (T := TX4) (N := 7) hx hb hts hin_X4_weld_X4 hown hKK.1 hP 0 rfl rfl 0 (by decide) (hts _ lk_X4_weld_12) (fun _ h9 => h9) rfl dX4_weld_78 ?_
            refine lv_dup hx hb dX4_weld_81 rfl ?_
            refine va_get (D := gD G) (ci := 3) (v := .int (v 1)) (C := RX3) (T := TX3) (N := 14) hx hb hts hin_X4_weld_X3 hown hKK.1 hP 8 rfl rfl 1 (by decide) (hts _ lk_X4_weld_98) (fun _ h9 => h9) rfl dX4_weld_82 ?_
            refine lv_iconst (v := 1) hx hb dX4_weld_85 (by decide) ?_
            refine lv_iload_n hx hb dX4_weld_86 rfl (lv_at hl 3 rfl) ?_
            refine lv_ishl hx hb dX4_weld_87 ?_
            refine lv_asi (y := shl 1 (nI (rk r))) rfl ?_
            refine lv_ixor hx hb dX4_weld_88 ?_
            refine va_put (D := gD G) (ci := 3) (v := .int ((v 1) ^^^ (shl 1 (nI (rk r))))) (ty := .int) (C := RX3) (T := TX3) (N := 14) hx hb hts hin_X4_weld_X3 tyX3 tyX3_ok nmX3 hown hKK.1 hP hD hS 8 rfl rfl 1 (by decide) (hts _ lk_X4_weld_98) (fun _ h9 => h9) rfl (by decide +kernel) rfl rfl (Nat.le_of_ble_eq_true rfl) dX4_weld_89 (fun H locs hP hD hS => ?_)
            have e_89 := (rW_setI G ra v ((v 1) ^^^ (shl 1 (nI (rk r))))).2.1
            have hP : gP G (List.flatten [bMw G oa ra ta ad qa ha S sv, bPw G ad pd N, bQw qa pp k, bHw G ha B (recO ol sz) (recZ sz), rW G ra (upd v 1 ((v 1) ^^^ (shl 1 (nI (rk r))))), rW G ta u, fam G 6 B (recV VH ol sz v), fam G 2 S VS]) H := by rw [e_89]; exact hP
            have hD : va_D (aA (List.flatten [bMw G oa ra ta ad qa ha S sv, bPw G ad pd N, bQw qa pp k, bHw G ha B ol sz, rW G ra v, rW G ta u, fam G 6 B VH, fam G 2 S VS])) (List.flatten [bMw G oa ra ta ad qa ha S sv, bPw G ad pd N, bQw qa pp k, bHw G ha B (recO ol sz) (recZ sz), rW G ra (upd v 1 ((v 1) ^^^ (shl 1 (nI (rk r))))), rW G ta u, fam G 6 B (recV VH ol sz v), fam G 2 S VS]) := by rw [e_89]; exact hD
            refine lv_iload_n hx hb dX4_weld_92 rfl (lv_at hl 4 rfl) ?_
            refine lv_if_ne (tgt := 106) hx hb dX4_weld_93 (by decide) (fun c_93 => ?_) (fun c_93 => ?_)
            · skip
              have c_93 := b2i_1 c_93
              refine lv_iload hx hb dX4_weld_106 (lv_at hl 0 rfl) ?_
              exact ex_MUi (w2 := (List.flatten [bMw G oa ra ta ad qa ha S sv, bPw G ad pd N, bQw qa pp k, bHw G ha B (recO ol sz) (recZ sz), rW G ra (upd v 1 ((v 1) ^^^ (shl 1 (nI (rk r))))), rW G ta u, fam G 6 B (recV VH ol sz v), fam G 2 S VS])) hx hb hr hlocks hP hS dX4_weld_108 (by rw [c_4, c_41, c_45, c_20] <;> rfl) (fun h => by rw [c_4, c_41, c_45, c_20]; exact h)
            · skip
              have c_93 := b2i_0 c_93
              exact Bool.noConfusion (c_45.symm.trans c_93)
          · skip
            exact absurd c_49 (by decide)
    · skip
      have c_20 := b2i_0 c_20
      refine lv_iconst (v := 1) hx hb dX4_weld_23 (by decide) ?_
      refine lv_goto (tgt := 28) hx hb dX4_weld_24 (by decide) ?_
      refine lv_istore_n (lv' := [(3, .int 1), (0, .ref (oa 0)), (1, .int (nI (rk r))), (2, .int (b2i z))]) hx hb dX4_weld_28 rfl hl (by decide) rfl (fun ls hl => ?_)
      refine lv_aload_n hx hb dX4_weld_29 rfl (lv_at hl 1 rfl) ?_
      refine va_get (D := gD G) (ci := 4) (v := .ref (ra 0)) (C := RX4) (T := TX4) (N := 7) hx hb hts hin_X4_weld_X4 hown hKK.1 hP 0 rfl rfl 0 (by decide) (hts _ lk_X4_weld_12) (fun _ h9 => h9) rfl dX4_weld_30 ?_
      refine va_get (D := gD G) (ci := 3) (v := .int (v 1)) (C := RX3) (T := TX3) (N := 14) hx hb hts hin_X4_weld_X3 hown hKK.1 hP 8 rfl rfl 1 (by decide) (hts _ lk_X4_weld_98) (fun _ h9 => h9) rfl dX4_weld_33 ?_
      refine lv_iload_n hx hb dX4_weld_36 rfl (lv_at hl 2 rfl) ?_
      refine ro_S (As := [.int (v 1), .int (nI (rk r))]) (rest := []) ⟨hx, hb, hml, hown, hts⟩ (c_X4_isIn l G (v 1) (nI (rk r))) (va_cwS 2 hts gX4_weld_X4_isIn rfl rfl rfl (by decide +kernel) ⟨Nat.le_of_ble_eq_true rfl, Nat.le_of_ble_eq_true rfl⟩) (show gP G [] _ from fun k q h => by simp at h) hKK rfl hl.1 rfl (Nat.le_of_ble_eq_true rfl) dX4_weld_37 (Nat.zero_le _) (Nat.zero_le _) ?_
      refine lv_iload_n hx hb dX4_weld_40 rfl (lv_at hl 3 rfl) ?_
      refine lv_icmp_eq (tgt := 52) hx hb dX4_weld_41 (by decide) (fun c_41 => ?_) (fun c_41 => ?_)
      · skip
        have c_41 := b2i_eq c_41
        refine lv_bipush (v := (-5)) hx hb dX4_weld_52 (by decide) ?_
        exact ex_MUi (w2 := (List.flatten [bMw G oa ra ta ad qa ha S sv, bPw G ad pd N, bQw qa pp k, bHw G ha B ol sz, rW G ra v, rW G ta u, fam G 6 B VH, fam G 2 S VS])) hx hb hr hlocks hP hS dX4_weld_54 (by rw [c_4, c_41, c_20] <;> rfl) (fun h => by rw [c_4, c_41, c_20]; exact h)
      · skip
        have c_41 := b2i_ne c_41
        refine lv_iload_n hx hb dX4_weld_44 rfl (lv_at hl 3 rfl) ?_
        refine lv_if_eq (tgt := 55) hx hb dX4_weld_45 (by decide) (fun c_45 => ?_) (fun c_45 => ?_)
        · skip
          have c_45 := b2i_0 c_45
          refine lv_aload_n hx hb dX4_weld_55 rfl (lv_at hl 1 rfl) ?_
          refine va_get (D := gD G) (ci := 4) (v := .ref (ha 0)) (C := RX4) (T := TX4) (N := 7) hx hb hts hin_X4_weld_X4 hown hKK.1 hP 0 rfl rfl 4 (by decide) (hts _ lk_X4_weld_36) (fun _ h9 => h9) rfl dX4_weld_56 ?_
          refine lv_aload_n hx hb dX4_weld_59 rfl (lv_at hl 1 rfl) ?_
          refine va_get (D := gD G) (ci := 4) (v := .ref (ra 0)) (C := RX4) (T := TX4) (N := 7) hx hb hts hin_X4_weld_X4 hown hKK.1 hP 0 rfl rfl 0 (by decide) (hts _ lk_X4_weld_12) (fun _ h9 => h9) rfl dX4_weld_60 ?_
          refine mu_VF (ws := (List.flatten [bMw G oa ra ta ad qa ha S sv, bPw G ad pd N, bQw qa pp k, bHw G ha B ol sz, rW G ra v, rW G ta u, fam G 6 B VH, fam G 2 S VS])) (ws' := (List.flatten [bMw G oa ra ta ad qa ha S sv, bPw G ad pd N, bQw qa pp k, bHw G ha B (recO ol sz) (recZ sz), rW G ra v, rW G ta u, fam G 6 B (recV VH ol sz v), fam G 2 S VS])) (wr := (List.flatten [bMw G oa ra ta ad qa ha S sv, bPw G ad pd N, bQw qa pp k, rW G ta u, fam G 2 S VS])) (As := [.ref (ra 0)]) (rest := []) ⟨hx, hb, hml, hown, hts⟩ (c_X0_record l G ha ra B v VH ol sz (by omega) (by omega)) (cwV 1 hts gX4_weld_X0_record rfl rfl rfl (by decide +kernel) ⟨Nat.le_of_ble_eq_true rfl, Nat.le_of_ble_eq_true rfl⟩) (segs_twoN [bMw G oa ra ta ad qa ha S sv, bPw G ad pd N, bQw qa pp k, bHw G ha B ol sz, rW G ra v, rW G ta u, fam G 6 B VH, fam G 2 S VS] [3, 4, 6] [0, 1, 2, 5, 7] 8 (by decide) rfl rfl rfl) (segs_twoN [bMw G oa ra ta ad qa ha S sv, bPw G ad pd N, bQw qa pp k, bHw G ha B (recO ol sz) (recZ sz), rW G ra v, rW G ta u, fam G 6 B (recV VH ol sz v), fam G 2 S VS] [3, 4, 6] [0, 1, 2, 5, 7] 8 (by decide) rfl rfl rfl) hP hKK hD hS (va_recv hKK.1 hP (ci := 0) (q0 := 6) rfl rfl) rfl hl.1 rfl (Nat.le_of_ble_eq_true rfl) dX4_weld_63 (Nat.zero_le _) (Nat.zero_le _) (flat_addr rfl) (fun H locs hP hD hS => ?_)
          refine lv_aload_n hx hb dX4_weld_66 rfl (lv_at hl 1 rfl) ?_
          refine va_get (D := gD G) (ci := 4) (v := .ref (ra 0)) (C := RX4) (T := TX4) (N := 7) hx hb hts hin_X4_weld_X4 hown hKK.1 hP 0 rfl rfl 0 (by decide) (hts _ lk_X4_weld_12) (fun _ h9 => h9) rfl dX4_weld_67 ?_
          refine va_get (D := gD G) (ci := 3) (v := .ref (ra 4)) (C := RX3) (T := TX3) (N := 14) hx hb hts hin_X4_weld_X3 hown hKK.1 hP 8 rfl rfl 9 (by decide) (hts _ lk_X4_weld_101) (fun _ h9 => h9) rfl dX4_weld_70 ?_
          refine lv_iload_n hx hb dX4_weld_73 rfl (lv_at hl 2 rfl) ?_
          refine va_ialdN (j := rk r) (v := v (px (rk r) 3)) hx hb hKK.1 hP 12 0 rfl rfl (rfl) (by omega) (by decide) (rfl) dX4_weld_74 ?_
          refine lv_istore (lv' := [(4, .int (v (px (rk r) 3))), (3, .int 1), (0, .ref (oa 0)), (1, .int (nI (rk r))), (2, .int (b2i z))]) hx hb dX4_weld_75 hl (by decide) rfl (fun ls hl => ?_)
          refine lv_aload_n hx hb dX4_weld_77 rfl (lv_at hl 2 rfl) ?_
          refine va_get (D := gD G) (ci := 4) (v := .ref (ra 0)) (C := RX4) (T := TX4) (N := 7) hx hb hts hin_X4_weld_X4 hown hKK.1 hP 0 rfl rfl 0 (by decide) (hts _ lk_X4_weld_12) (fun _ h9 => h9) rfl dX4_weld_78 ?_
          refine lv_dup hx hb dX4_weld_81 rfl ?_
          refine va_get (D := gD G) (ci := 3) (v := .int (v 1)) (C := RX3) (T := TX3) (N := 14) hx hb hts hin_X4_weld_X3 hown hKK.1 hP 8 rfl rfl 1 (by decide) (hts _ lk_X4_weld_98) (fun _ h9 => h9) rfl dX4_weld_82 ?_
          refine lv_iconst (v := 1) hx hb dX4_weld_85 (by decide) ?_
          refine lv_iload_n hx hb dX4_weld_86 rfl (lv_at hl 3 rfl) ?_
          refine lv_ishl hx hb dX4_weld_87 ?_
          refine lv_asi (y := shl 1 (nI (rk r))) rfl ?_
          refine lv_ixor hx hb dX4_weld_88 ?_
          refine va_put (D := gD G) (ci := 3) (v := .int ((v 1) ^^^ (shl 1 (nI (rk r))))) (ty := .int) (C := RX3) (T := TX3) (N := 14) hx hb hts hin_X4_weld_X3 tyX3 tyX3_ok nmX3 hown hKK.1 hP hD hS 8 rfl rfl 1 (by decide) (hts _ lk_X4_weld_98) (fun _ h9 => h9) rfl (by decide +kernel) rfl rfl (Nat.le_of_ble_eq_true rfl) dX4_weld_89 (fun H locs hP hD hS => ?_)
          have e_89 := (rW_setI G ra v ((v 1) ^^^ (shl 1 (nI (rk r))))).2.1
          have hP : gP G (List.flatten [bMw G oa ra ta ad qa ha S sv, bPw G ad pd N, bQw qa pp k, bHw G ha B (recO ol sz) (recZ sz), rW G ra (upd v 1 ((v 1) ^^^ (shl 1 (nI (rk r))))), rW G ta u, fam G 6 B (recV VH ol sz v), fam G 2 S VS]) H := by rw [e_89]; exact hP
          have hD : va_D (aA (List.flatten [bMw G oa ra ta ad qa ha S sv, bPw G ad pd N, bQw qa pp k, bHw G ha B ol sz, rW G ra v, rW G ta u, fam G 6 B VH, fam G 2 S VS])) (List.flatten [bMw G oa ra ta ad qa ha S sv, bPw G ad pd N, bQw qa pp k, bHw G ha B (recO ol sz) (recZ sz), rW G ra (upd v 1 ((v 1) ^^^ (shl 1 (nI (rk r))))), rW G ta u, fam G 6 B (recV VH ol sz v), fam G 2 S VS]) := by rw [e_89]; exact hD
          refine lv_iload_n hx hb dX4_weld_92 rfl (lv_at hl 4 rfl) ?_
          refine lv_if_ne (tgt := 106) hx hb dX4_weld_93 (by decide) (fun c_93 => ?_) (fun c_93 => ?_)
          · skip
            have c_93 := b2i_1 c_93
            exact Bool.noConfusion (c_45.symm.trans c_93)
          · skip
            have c_93 := b2i_0 c_93
            refine lv_aload_n hx hb dX4_weld_96 rfl (lv_at hl 2 rfl) ?_
            refine va_get (D := gD G) (ci := 4) (v := .ref (ra 0)) (C := RX4) (T := TX4) (N := 7) hx hb hts hin_X4_weld_X4 hown hKK.1 hP 0 rfl rfl 0 (by decide) (hts _ lk_X4_weld_12) (fun _ h9 => h9) rfl dX4_weld_97 ?_
            refine va_get (D := gD G) (ci := 3) (v := .ref (ra 4)) (C := RX3) (T := TX3) (N := 14) hx hb hts hin_X4_weld_X3 hown hKK.1 hP 8 rfl rfl 9 (by decide) (hts _ lk_X4_weld_101) (fun _ h9 => h9) rfl dX4_weld_100 ?_
            refine lv_iload_n hx hb dX4_weld_103 rfl (lv_at hl 3 rfl) ?_
            refine lv_iconst (v := 0) hx hb dX4_weld_104 (by decide) ?_
            refine va_iastN (j := rk r) (x := 0) hx hb hKK.1 hP hD hS 12 0 rfl rfl (rfl) (by omega) (by decide) dX4_weld_105 (fun H locs hP hD hS => ?_)
            have e_105 := rW_setR G ra (upd v 1 ((v 1) ^^^ (shl 1 (nI (rk r))))) (rk r) 3 0 (by decide)
            have hP : gP G (List.flatten [bMw G oa ra ta ad qa ha S sv, bPw G ad pd N, bQw qa pp k, bHw G ha B (recO ol sz) (recZ sz), rW G ra (upd (upd v 1 ((v 1) ^^^ (shl 1 (nI (rk r))))) (px (rk r) 3) 0), rW G ta u, fam G 6 B (recV VH ol sz v), fam G 2 S VS]) H := by rw [e_105]; exact hP
            have hD : va_D (aA (List.flatten [bMw G oa ra ta ad qa ha S sv, bPw G ad pd N, bQw qa pp k, bHw G ha B ol sz, rW G ra v, rW G ta u, fam G 6 B VH, fam G 2 S VS])) (List.flatten [bMw G oa ra ta ad qa ha S sv, bPw G ad pd N, bQw qa pp k, bHw G ha B (recO ol sz) (recZ sz), rW G ra (upd (upd v 1 ((v 1) ^^^ (shl 1 (nI (rk r))))) (px (rk r) 3) 0), rW G ta u, fam G 6 B (recV VH ol sz v), fam G 2 S VS]) := by rw [e_105]; exact hD
            refine lv_iload hx hb dX4_weld_106 (lv_at hl 0 rfl) ?_
            exact ex_MUi (w2 := (List.flatten [bMw G oa ra ta ad qa ha S sv, bPw G ad pd N, bQw qa pp k, bHw G ha B (recO ol sz) (recZ sz), rW G ra (upd (upd v 1 ((v 1) ^^^ (shl 1 (nI (rk r))))) (px (rk r) 3) 0), rW G ta u, fam G 6 B (recV VH ol sz v), fam G 2 S VS])) hx hb hr hlocks hP hS dX4_weld_108 (by rw [c_4, c_41, c_45, c_20] <;> rfl) (fun h => by rw [c_4, c_41, c_45, c_20]; exact h)
        · skip
          have c_45 := b2i_1 c_45
          refine lv_iload_n hx hb dX4_weld_48 rfl (lv_at hl 0 rfl) ?_
          refine lv_if_eq (tgt := 55) hx hb dX4_weld_49 (by decide) (fun c_49 => ?_) (fun c_49 => ?_)
          · skip
            exact absurd c_49 (by decide)
          · skip
            refine lv_bipush (v := (-5)) hx hb dX4_weld_52 (by decide) ?_
            exact ex_MUi (w2 := (List.flatten [bMw G oa ra ta ad qa ha S sv, bPw G ad pd N, bQw qa pp k, bHw G ha B ol sz, rW G ra v, rW G ta u, fam G 6 B VH, fam G 2 S VS])) hx hb hr hlocks hP hS dX4_weld_54 (by rw [c_4, c_41, c_45, c_20] <;> rfl) (fun h => by rw [c_4, c_41, c_45, c_20]; exact h)
  · skip
    have c_4 := b2i_0 c_4
    refine lv_iconst (v := (-1)) hx hb dX4_weld_7 (by decide) ?_
    exact ex_MUi (w2 := (List.flatten [bMw G oa ra ta ad qa ha S sv, bPw G ad pd N, bQw qa pp k, bHw G ha B ol sz, rW G ra v, rW G ta u, fam G 6 B VH, fam G 2 S VS])) hx hb hr hlocks hP hS dX4_weld_8 (by rw [c_4] <;> rfl) (fun h => by rw [c_4]; exact h)
