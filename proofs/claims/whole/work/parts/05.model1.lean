set_option maxHeartbeats 4000000 in
set_option maxRecDepth 100000 in
/-- X5_within -/
theorem c_X5_within (l : Launch) (G : GG) (x : Int32) (lo : Int32) (hi : Int32) : Met l yX5_within wsX5_within ({ frames := 0, cells := 0, slots := 0, locals := 0 }) (pcW G [.int x, .int lo, .int hi] ([])) (qRO (.int (b2i (inr x lo hi)))) 0 0 nofree := by
  refine hd_RO (cc := cX5_within) (maxL := 3) (ret := some .boolean) (by decide) rfl (Nat.le_of_ble_eq_true rfl) ?_
  intro p e s m below meth c ls hx hb hr hts hown hlocks hml hP hKK hl
  have hl : lv_has ls 3 [(0, .int x), (1, .int lo), (2, .int hi)] := hl
  refine lv_iload_n hx hb dX5_within_0 rfl (lv_at hl 0 rfl) ?_
  refine lv_iload_n hx hb dX5_within_1 rfl (lv_at hl 1 rfl) ?_
  refine lv_icmp_lt (tgt := 14) hx hb dX5_within_2 (by decide) (fun c_2 => ?_) (fun c_2 => ?_)
  · skip
    refine lv_iconst (v := 0) hx hb dX5_within_14 (by decide) ?_
    exact ex_ROz (b := inr x lo hi) hx hb hr hlocks rfl dX5_within_15 (by first | exact inr_f1 (by assumption) | exact inr_f2 (by assumption) | exact inr_t (by assumption) (by assumption)) rfl
  · skip
    refine lv_iload_n hx hb dX5_within_5 rfl (lv_at hl 0 rfl) ?_
    refine lv_iload_n hx hb dX5_within_6 rfl (lv_at hl 2 rfl) ?_
    refine lv_icmp_gt (tgt := 14) hx hb dX5_within_7 (by decide) (fun c_7 => ?_) (fun c_7 => ?_)
    · skip
      refine lv_iconst (v := 0) hx hb dX5_within_14 (by decide) ?_
      exact ex_ROz (b := inr x lo hi) hx hb hr hlocks rfl dX5_within_15 (by first | exact inr_f1 (by assumption) | exact inr_f2 (by assumption) | exact inr_t (by assumption) (by assumption)) rfl
    · skip
      refine lv_iconst (v := 1) hx hb dX5_within_10 (by decide) ?_
      refine lv_goto (tgt := 15) hx hb dX5_within_11 (by decide) ?_
      exact ex_ROz (b := inr x lo hi) hx hb hr hlocks rfl dX5_within_15 (by first | exact inr_f1 (by assumption) | exact inr_f2 (by assumption) | exact inr_t (by assumption) (by assumption)) rfl
set_option maxHeartbeats 4000000 in
set_option maxRecDepth 100000 in
/-- X5_isRelay -/
theorem c_X5_isRelay (l : Launch) (G : GG) (x : Int32) : Met l yX5_isRelay wsX5_isRelay ({ frames := 1, cells := 0, slots := 0, locals := 22 }) (pcW G [.int x] ([])) (qRO (.int (b2i (inr x 0 9)))) 0 0 nofree := by
  refine hd_RO (cc := cX5_isRelay) (maxL := 1) (ret := some .boolean) (by decide) rfl (Nat.le_of_ble_eq_true rfl) ?_
  intro p e s m below meth c ls hx hb hr hts hown hlocks hml hP hKK hl
  have hl : lv_has ls 1 [(0, .int x)] := hl
  refine lv_iload_n hx hb dX5_isRelay_0 rfl (lv_at hl 0 rfl) ?_
  refine lv_iconst (v := 0) hx hb dX5_isRelay_1 (by decide) ?_
  refine lv_bipush (v := 9) hx hb dX5_isRelay_2 (by decide) ?_
  refine ro_S (As := [.int x, .int 0, .int 9]) (rest := []) ⟨hx, hb, hml, hown, hts⟩ (c_X5_within l G x 0 9) (va_cwS 3 hts gX5_isRelay_X5_within rfl rfl rfl (by decide +kernel) ⟨Nat.le_of_ble_eq_true rfl, Nat.le_of_ble_eq_true rfl⟩) (show gP G [] _ from fun k q h => by simp at h) hKK rfl hl.1 rfl (Nat.le_of_ble_eq_true rfl) dX5_isRelay_4 (Nat.zero_le _) (Nat.zero_le _) ?_
  exact ex_ROz (b := inr x 0 9) hx hb hr hlocks rfl dX5_isRelay_7 (rfl) rfl
set_option maxHeartbeats 4000000 in
set_option maxRecDepth 100000 in
/-- X5_isSet -/
theorem c_X5_isSet (l : Launch) (G : GG) (x : Int32) : Met l yX5_isSet wsX5_isSet ({ frames := 1, cells := 0, slots := 0, locals := 22 }) (pcW G [.int x] ([])) (qRO (.int (b2i (inr x 0 63)))) 0 0 nofree := by
  refine hd_RO (cc := cX5_isSet) (maxL := 1) (ret := some .boolean) (by decide) rfl (Nat.le_of_ble_eq_true rfl) ?_
  intro p e s m below meth c ls hx hb hr hts hown hlocks hml hP hKK hl
  have hl : lv_has ls 1 [(0, .int x)] := hl
  refine lv_iload_n hx hb dX5_isSet_0 rfl (lv_at hl 0 rfl) ?_
  refine lv_iconst (v := 0) hx hb dX5_isSet_1 (by decide) ?_
  refine lv_bipush (v := 63) hx hb dX5_isSet_2 (by decide) ?_
  refine ro_S (As := [.int x, .int 0, .int 63]) (rest := []) ⟨hx, hb, hml, hown, hts⟩ (c_X5_within l G x 0 63) (va_cwS 3 hts gX5_isSet_X5_within rfl rfl rfl (by decide +kernel) ⟨Nat.le_of_ble_eq_true rfl, Nat.le_of_ble_eq_true rfl⟩) (show gP G [] _ from fun k q h => by simp at h) hKK rfl hl.1 rfl (Nat.le_of_ble_eq_true rfl) dX5_isSet_4 (Nat.zero_le _) (Nat.zero_le _) ?_
  exact ex_ROz (b := inr x 0 63) hx hb hr hlocks rfl dX5_isSet_7 (rfl) rfl
set_option maxHeartbeats 4000000 in
set_option maxRecDepth 100000 in
/-- X5_has -/
theorem c_X5_has (l : Launch) (G : GG) (x : Int32) (k : Int32) : Met l yX5_has wsX5_has ({ frames := 0, cells := 0, slots := 0, locals := 0 }) (pcW G [.int x, .int k] ([])) (qRO (.int (b2i (hs x k)))) 0 0 nofree := by
  refine hd_RO (cc := cX5_has) (maxL := 2) (ret := some .boolean) (by decide) rfl (Nat.le_of_ble_eq_true rfl) ?_
  intro p e s m below meth c ls hx hb hr hts hown hlocks hml hP hKK hl
  have hl : lv_has ls 2 [(0, .int x), (1, .int k)] := hl
  refine lv_iload_n hx hb dX5_has_0 rfl (lv_at hl 0 rfl) ?_
  refine lv_iload_n hx hb dX5_has_1 rfl (lv_at hl 1 rfl) ?_
  refine lv_ishr hx hb dX5_has_2 ?_
  refine lv_asi (y := shr x k) rfl ?_
  refine lv_iconst (v := 1) hx hb dX5_has_3 (by decide) ?_
  refine lv_iand hx hb dX5_has_4 ?_
  refine lv_iconst (v := 1) hx hb dX5_has_5 (by decide) ?_
  refine lv_icmp_ne (tgt := 13) hx hb dX5_has_6 (by decide) (fun c_6 => ?_) (fun c_6 => ?_)
  · skip
    refine lv_iconst (v := 0) hx hb dX5_has_13 (by decide) ?_
    exact ex_ROz (b := hs x k) hx hb hr hlocks rfl dX5_has_14 (by simp_all [hs, bt, b2i]) rfl
  · skip
    refine lv_iconst (v := 1) hx hb dX5_has_9 (by decide) ?_
    refine lv_goto (tgt := 14) hx hb dX5_has_10 (by decide) ?_
    exact ex_ROz (b := hs x k) hx hb hr hlocks rfl dX5_has_14 (by simp_all [hs, bt, b2i]) rfl
set_option maxRecDepth 20000 in
theorem hin_X5_part_X5 : ∀ w ∈ u_ws RX5 TX5 12, w ∈ wsX5_part := by decide +kernel
theorem lk_X5_part_7 : Cond.fieldLink RX5 7 "WeldedRelaysModel" "state" "[I" ∈ wsX5_part := by decide +kernel
set_option maxHeartbeats 4000000 in
set_option maxRecDepth 100000 in
/-- X5_part -/
theorem c_X5_part (l : Launch) (G : GG) (a : Nat → Nat) (st : Nat → Int32) (kp : Nat → Int32) (hi : Nat → Int32) (sl : Nat → Int32) (sv : Nat → Int32) (pd : Nat → Int32) (td : Nat → Int32) (rc : Int32) (pl : Int32) (pt : Int32) (rt : Int32) (bn : Int32) (k : Nat) (j : Nat) (hk : k < 10) (hj : j < 23) : Met l yX5_part wsX5_part ({ frames := 0, cells := 0, slots := 0, locals := 0 }) (pcW G [.ref (a 0), .int (nI k), .int (nI j)] (mW G a st kp hi sl sv pd td rc pl pt rt bn)) (qRO (.int (st (px k j)))) 0 0 nofree := by
  refine hd_RO (cc := cX5_part) (maxL := 3) (ret := some .int) (by decide) rfl (Nat.le_of_ble_eq_true rfl) ?_
  intro p e s m below meth c ls hx hb hr hts hown hlocks hml hP hKK hl
  have hl : lv_has ls 3 [(0, .ref (a 0)), (1, .int (nI k)), (2, .int (nI j))] := hl
  refine lv_aload_n hx hb dX5_part_0 rfl (lv_at hl 0 rfl) ?_
  refine va_get (D := gD G) (ci := 5) (v := .ref (a 1)) (C := RX5) (T := TX5) (N := 12) hx hb hts hin_X5_part_X5 hown hKK.1 hP 0 rfl rfl 0 (by decide) (hts _ lk_X5_part_7) (fun _ h9 => h9) rfl dX5_part_1 ?_
  refine lv_bipush (v := 6) hx hb dX5_part_4 (by decide) ?_
  refine lv_bipush (v := 23) hx hb dX5_part_6 (by decide) ?_
  refine lv_iload_n hx hb dX5_part_8 rfl (lv_at hl 1 rfl) ?_
  refine lv_imul hx hb dX5_part_9 ?_
  refine lv_iadd hx hb dX5_part_10 ?_
  refine lv_iload_n hx hb dX5_part_11 rfl (lv_at hl 2 rfl) ?_
  refine lv_iadd hx hb dX5_part_12 ?_
  refine va_ialdN (j := px k j) (v := st (px k j)) hx hb hKK.1 hP 1 0 rfl rfl (px_nI k j) (px_lt hk hj) (by decide) (rfl) dX5_part_13 ?_
  exact ex_ROi hx hb hr hlocks rfl dX5_part_14 (rfl)
set_option maxRecDepth 20000 in
theorem hin_X5_setPart_X5 : ∀ w ∈ u_ws RX5 TX5 12, w ∈ wsX5_setPart := by decide +kernel
theorem lk_X5_setPart_7 : Cond.fieldLink RX5 7 "WeldedRelaysModel" "state" "[I" ∈ wsX5_setPart := by decide +kernel
set_option maxHeartbeats 4000000 in
set_option maxRecDepth 100000 in
/-- X5_setPart -/
theorem c_X5_setPart (l : Launch) (G : GG) (a : Nat → Nat) (st : Nat → Int32) (kp : Nat → Int32) (hi : Nat → Int32) (sl : Nat → Int32) (sv : Nat → Int32) (pd : Nat → Int32) (td : Nat → Int32) (rc : Int32) (pl : Int32) (pt : Int32) (rt : Int32) (bn : Int32) (k : Nat) (j : Nat) (hk : k < 10) (hj : j < 23) (x : Int32) : Met l yX5_setPart wsX5_setPart ({ frames := 0, cells := 0, slots := 0, locals := 0 }) (pcM G [.ref (a 0), .int (nI k), .int (nI j), .int x] (mW G a st kp hi sl sv pd td rc pl pt rt bn)) (qMU G none (mW G a st kp hi sl sv pd td rc pl pt rt bn) (mW G a (upd st (px k j) x) kp hi sl sv pd td rc pl pt rt bn)) 0 0 (aA (mW G a st kp hi sl sv pd td rc pl pt rt bn)) := by
  refine hd_MU (cc := cX5_setPart) (maxL := 4) (ret := none) (by decide) rfl (Nat.le_of_ble_eq_true rfl) ?_
  intro p e s m below meth c ls hx hb hr hts hown hlocks hml hP hKK hD hS hl
  have hl : lv_has ls 4 [(0, .ref (a 0)), (1, .int (nI k)), (2, .int (nI j)), (3, .int x)] := hl
  refine lv_aload_n hx hb dX5_setPart_0 rfl (lv_at hl 0 rfl) ?_
  refine va_get (D := gD G) (ci := 5) (v := .ref (a 1)) (C := RX5) (T := TX5) (N := 12) hx hb hts hin_X5_setPart_X5 hown hKK.1 hP 0 rfl rfl 0 (by decide) (hts _ lk_X5_setPart_7) (fun _ h9 => h9) rfl dX5_setPart_1 ?_
  refine lv_bipush (v := 6) hx hb dX5_setPart_4 (by decide) ?_
  refine lv_bipush (v := 23) hx hb dX5_setPart_6 (by decide) ?_
  refine lv_iload_n hx hb dX5_setPart_8 rfl (lv_at hl 1 rfl) ?_
  refine lv_imul hx hb dX5_setPart_9 ?_
  refine lv_iadd hx hb dX5_setPart_10 ?_
  refine lv_iload_n hx hb dX5_setPart_11 rfl (lv_at hl 2 rfl) ?_
  refine lv_iadd hx hb dX5_setPart_12 ?_
  refine lv_iload_n hx hb dX5_setPart_13 rfl (lv_at hl 3 rfl) ?_
  refine va_iastN (j := px k j) (x := x) hx hb hKK.1 hP hD hS 1 0 rfl rfl (px_nI k j) (px_lt hk hj) (by decide) dX5_setPart_14 (fun H locs hP hD hS => ?_)
  have hP : gP G (mW G a (upd st (px k j) x) kp hi sl sv pd td rc pl pt rt bn) H := hP
  have hD : va_D (aA (mW G a st kp hi sl sv pd td rc pl pt rt bn)) (mW G a (upd st (px k j) x) kp hi sl sv pd td rc pl pt rt bn) := hD
  exact ex_MUv (w2 := (mW G a (upd st (px k j) x) kp hi sl sv pd td rc pl pt rt bn)) hx hb hr hlocks hP hS dX5_setPart_15 (fun h => h)
set_option maxHeartbeats 4000000 in
set_option maxRecDepth 100000 in
/-- X5_ofBranch -/
theorem c_X5_ofBranch (l : Launch) (G : GG) (a : Nat → Nat) (st : Nat → Int32) (kp : Nat → Int32) (hi : Nat → Int32) (sl : Nat → Int32) (sv : Nat → Int32) (pd : Nat → Int32) (td : Nat → Int32) (rc : Int32) (pl : Int32) (pt : Int32) (rt : Int32) (bn : Int32) (r : Nat) (b : Nat) (w : Nat) (hr : r < 10) (hb : b < 6) (hw : w < 3) : Met l yX5_ofBranch wsX5_ofBranch ({ frames := 1, cells := 0, slots := 0, locals := 22 }) (pcW G [.ref (a 0), .int (nI r), .int (nI b), .int (nI w)] (mW G a st kp hi sl sv pd td rc pl pt rt bn)) (qRO (.int (st (px r (5 + 3 * b + w))))) 0 0 nofree := by
  refine hd_RO (cc := cX5_ofBranch) (maxL := 4) (ret := some .int) (by decide) rfl (Nat.le_of_ble_eq_true rfl) ?_
  intro p e s m below meth c ls hx hb hr hts hown hlocks hml hP hKK hl
  have hl : lv_has ls 4 [(0, .ref (a 0)), (1, .int (nI r)), (2, .int (nI b)), (3, .int (nI w))] := hl
  refine lv_aload_n hx hb dX5_ofBranch_0 rfl (lv_at hl 0 rfl) ?_
  refine lv_iload_n hx hb dX5_ofBranch_1 rfl (lv_at hl 1 rfl) ?_
  refine lv_iconst (v := 5) hx hb dX5_ofBranch_2 (by decide) ?_
  refine lv_iconst (v := 3) hx hb dX5_ofBranch_3 (by decide) ?_
  refine lv_iload_n hx hb dX5_ofBranch_4 rfl (lv_at hl 2 rfl) ?_
  refine lv_imul hx hb dX5_ofBranch_5 ?_
  refine lv_iadd hx hb dX5_ofBranch_6 ?_
  refine lv_iload_n hx hb dX5_ofBranch_7 rfl (lv_at hl 3 rfl) ?_
  refine lv_iadd hx hb dX5_ofBranch_8 ?_
  refine lv_asi (y := nI (5 + 3 * b + w)) (ofbN b w) ?_
  refine ro_V (As := [.int (nI r), .int (nI (5 + 3 * b + w))]) (rest := []) ⟨hx, hb, hml, hown, hts⟩ (c_X5_part l G a st kp hi sl sv pd td rc pl pt rt bn r (5 + 3 * b + w) (by omega) (by omega)) (cwV 2 hts gX5_ofBranch_X5_part rfl rfl rfl (by decide +kernel) ⟨Nat.le_of_ble_eq_true rfl, Nat.le_of_ble_eq_true rfl⟩) hP hKK (va_recv hKK.1 hP (ci := 5) (q0 := 0) rfl rfl) rfl hl.1 rfl (Nat.le_of_ble_eq_true rfl) dX5_ofBranch_9 (Nat.zero_le _) (Nat.zero_le _) ?_
  exact ex_ROi hx hb hr hlocks rfl dX5_ofBranch_12 (rfl)
set_option maxRecDepth 20000 in
theorem hin_X5_isClosed_X5 : ∀ w ∈ u_ws RX5 TX5 12, w ∈ wsX5_isClosed := by decide +kernel
theorem lk_X5_isClosed_7 : Cond.fieldLink RX5 7 "WeldedRelaysModel" "state" "[I" ∈ wsX5_isClosed := by decide +kernel
set_option maxHeartbeats 4000000 in
set_option maxRecDepth 100000 in
/-- X5_isClosed -/
theorem c_X5_isClosed (l : Launch) (G : GG) (a : Nat → Nat) (st : Nat → Int32) (kp : Nat → Int32) (hi : Nat → Int32) (sl : Nat → Int32) (sv : Nat → Int32) (pd : Nat → Int32) (td : Nat → Int32) (rc : Int32) (pl : Int32) (pt : Int32) (rt : Int32) (bn : Int32) (r : Nat) (b : Nat) (hr : r < 10) (hb : b < 6) : Met l yX5_isClosed wsX5_isClosed ({ frames := 2, cells := 0, slots := 0, locals := 45 }) (pcW G [.ref (a 0), .int (nI r), .int (nI b)] (mW G a st kp hi sl sv pd td rc pl pt rt bn)) (qRO (.int (b2i (clo st r b)))) 0 0 nofree := by
  refine hd_RO (cc := cX5_isClosed) (maxL := 4) (ret := some .boolean) (by decide) rfl (Nat.le_of_ble_eq_true rfl) ?_
  intro p e s m below meth c ls hx hb hr hts hown hlocks hml hP hKK hl
  have hl : lv_has ls 4 [(0, .ref (a 0)), (1, .int (nI r)), (2, .int (nI b))] := hl
  refine lv_aload_n hx hb dX5_isClosed_0 rfl (lv_at hl 0 rfl) ?_
  refine va_get (D := gD G) (ci := 5) (v := .ref (a 1)) (C := RX5) (T := TX5) (N := 12) hx hb hts hin_X5_isClosed_X5 hown hKK.1 hP 0 rfl rfl 0 (by decide) (hts _ lk_X5_isClosed_7) (fun _ h9 => h9) rfl dX5_isClosed_1 ?_
  refine lv_iconst (v := 0) hx hb dX5_isClosed_4 (by decide) ?_
  refine va_ialdN (j := 0) (v := st 0) hx hb hKK.1 hP 1 0 rfl rfl (rfl) (by omega) (by decide) (rfl) dX5_isClosed_5 ?_
  refine lv_aload_n hx hb dX5_isClosed_6 rfl (lv_at hl 0 rfl) ?_
  refine va_get (D := gD G) (ci := 5) (v := .ref (a 1)) (C := RX5) (T := TX5) (N := 12) hx hb hts hin_X5_isClosed_X5 hown hKK.1 hP 0 rfl rfl 0 (by decide) (hts _ lk_X5_isClosed_7) (fun _ h9 => h9) rfl dX5_isClosed_7 ?_
  refine lv_iconst (v := 2) hx hb dX5_isClosed_10 (by decide) ?_
  refine va_ialdN (j := 2) (v := st 2) hx hb hKK.1 hP 1 0 rfl rfl (rfl) (by omega) (by decide) (rfl) dX5_isClosed_11 ?_
  refine lv_bipush (v := 10) hx hb dX5_isClosed_12 (by decide) ?_
  refine lv_ishl hx hb dX5_isClosed_14 ?_
  refine lv_asi (y := shl (st 2) 10) rfl ?_
  refine lv_ior hx hb dX5_isClosed_15 ?_
  refine lv_istore_n (lv' := [(3, .int ((st 0) ||| (shl (st 2) 10))), (0, .ref (a 0)), (1, .int (nI r)), (2, .int (nI b))]) hx hb dX5_isClosed_16 rfl hl (by decide) rfl (fun ls hl => ?_)
  refine lv_aload_n hx hb dX5_isClosed_17 rfl (lv_at hl 1 rfl) ?_
  refine lv_iload_n hx hb dX5_isClosed_18 rfl (lv_at hl 2 rfl) ?_
  refine lv_iload_n hx hb dX5_isClosed_19 rfl (lv_at hl 3 rfl) ?_
  refine lv_iconst (v := 0) hx hb dX5_isClosed_20 (by decide) ?_
  refine ro_V (As := [.int (nI r), .int (nI b), .int (nI 0)]) (rest := []) ⟨hx, hb, hml, hown, hts⟩ (c_X5_ofBranch l G a st kp hi sl sv pd td rc pl pt rt bn r b 0 (by omega) (by omega) (by omega)) (cwV 3 hts gX5_isClosed_X5_ofBranch rfl rfl rfl (by decide +kernel) ⟨Nat.le_of_ble_eq_true rfl, Nat.le_of_ble_eq_true rfl⟩) hP hKK (va_recv hKK.1 hP (ci := 5) (q0 := 0) rfl rfl) rfl hl.1 rfl (Nat.le_of_ble_eq_true rfl) dX5_isClosed_21 (Nat.zero_le _) (Nat.zero_le _) ?_
  refine lv_asi (y := frt st r b) (ofb_0 _ _ _) ?_
  refine lv_iload_n hx hb dX5_isClosed_24 rfl (lv_at hl 0 rfl) ?_
  refine lv_iconst (v := (-1)) hx hb dX5_isClosed_25 (by decide) ?_
  refine lv_ixor hx hb dX5_isClosed_26 ?_
  refine lv_iand hx hb dX5_isClosed_27 ?_
  refine lv_if_ne (tgt := 47) hx hb dX5_isClosed_28 (by decide) (fun c_28 => ?_) (fun c_28 => ?_)
  · skip
    refine lv_iconst (v := 0) hx hb dX5_isClosed_47 (by decide) ?_
    exact ex_ROz (b := clo st r b) hx hb hr hlocks rfl dX5_isClosed_48 (by rw [cloM]; simp_all [b2i, onS]) rfl
  · skip
    refine lv_aload_n hx hb dX5_isClosed_31 rfl (lv_at hl 1 rfl) ?_
    refine lv_iload_n hx hb dX5_isClosed_32 rfl (lv_at hl 2 rfl) ?_
    refine lv_iload_n hx hb dX5_isClosed_33 rfl (lv_at hl 3 rfl) ?_
    refine lv_iconst (v := 1) hx hb dX5_isClosed_34 (by decide) ?_
    refine ro_V (As := [.int (nI r), .int (nI b), .int (nI 1)]) (rest := []) ⟨hx, hb, hml, hown, hts⟩ (c_X5_ofBranch l G a st kp hi sl sv pd td rc pl pt rt bn r b 1 (by omega) (by omega) (by omega)) (cwV 3 hts gX5_isClosed_X5_ofBranch rfl rfl rfl (by decide +kernel) ⟨Nat.le_of_ble_eq_true rfl, Nat.le_of_ble_eq_true rfl⟩) hP hKK (va_recv hKK.1 hP (ci := 5) (q0 := 0) rfl rfl) rfl hl.1 rfl (Nat.le_of_ble_eq_true rfl) dX5_isClosed_35 (Nat.zero_le _) (Nat.zero_le _) ?_
    refine lv_asi (y := bck st r b) (ofb_1 _ _ _) ?_
    refine lv_iload_n hx hb dX5_isClosed_38 rfl (lv_at hl 0 rfl) ?_
    refine lv_iand hx hb dX5_isClosed_39 ?_
    refine lv_if_ne (tgt := 47) hx hb dX5_isClosed_40 (by decide) (fun c_40 => ?_) (fun c_40 => ?_)
    · skip
      refine lv_iconst (v := 0) hx hb dX5_isClosed_47 (by decide) ?_
      exact ex_ROz (b := clo st r b) hx hb hr hlocks rfl dX5_isClosed_48 (by rw [cloM]; simp_all [b2i, onS]) rfl
    · skip
      refine lv_iconst (v := 1) hx hb dX5_isClosed_43 (by decide) ?_
      refine lv_goto (tgt := 48) hx hb dX5_isClosed_44 (by decide) ?_
      exact ex_ROz (b := clo st r b) hx hb hr hlocks rfl dX5_isClosed_48 (by rw [cloM]; simp_all [b2i, onS]) rfl
set_option maxHeartbeats 4000000 in
set_option maxRecDepth 100000 in
/-- X5_isFed -/
theorem c_X5_isFed (l : Launch) (G : GG) (a : Nat → Nat) (st : Nat → Int32) (kp : Nat → Int32) (hi : Nat → Int32) (sl : Nat → Int32) (sv : Nat → Int32) (pd : Nat → Int32) (td : Nat → Int32) (rc : Int32) (pl : Int32) (pt : Int32) (rt : Int32) (bn : Int32) (k : Nat) (hk : k < 10) (hI : RI st) : Met l yX5_isFed wsX5_isFed ({ frames := 3, cells := 0, slots := 0, locals := 68 }) (pcW G [.ref (a 0), .int (nI k)] (mW G a st kp hi sl sv pd td rc pl pt rt bn)) (qRO (.int (b2i (fed1 st k)))) 0 0 nofree := by
  refine hd_RO (cc := cX5_isFed) (maxL := 4) (ret := some .boolean) (by decide) rfl (Nat.le_of_ble_eq_true rfl) ?_
  intro p e s m below meth c ls hx hb hr hts hown hlocks hml hP hKK hl
  have hl : lv_has ls 4 [(0, .ref (a 0)), (1, .int (nI k))] := hl
  have hc := hI.1 k hk
  refine lv_iconst (v := 0) hx hb dX5_isFed_0 (by decide) ?_
  refine lv_istore_n (lv' := [(2, .int 0), (0, .ref (a 0)), (1, .int (nI k))]) hx hb dX5_isFed_1 rfl hl (by decide) rfl (fun ls hl => ?_)
  refine lv_iconst (v := 0) hx hb dX5_isFed_2 (by decide) ?_
  refine lv_istore_n (lv' := [(3, .int 0), (2, .int 0), (0, .ref (a 0)), (1, .int (nI k))]) hx hb dX5_isFed_3 rfl hl (by decide) rfl (fun ls hl => ?_)
  have L_4 : ∀ (n_4 : Nat) (i : Nat), (i ≤ cnt st k) → (cnt st k + 1 ≤ i + n_4) → ∀ (ls : Array Slot), lv_has ls 4 [(3, .int (nI i)), (2, .int (b2i (anyN i (fun b => clo st k b)))), (0, .ref (a 0)), (1, .int (nI k))] → W p l e ({ frames := 3, cells := 0, slots := 0, locals := 68 }) s m (List.toArray [.ref (a 0), .int (nI k)]) below meth c s.heap [] 0 0 (MQ below (qRO (.int (b2i (fed1 st k)))) (List.toArray [.ref (a 0), .int (nI k)]) s 0 0 nofree) (F0 m 4 ls []) := by
    intro n_4
    induction n_4 with
    | zero => intro i h1 h2; exact absurd (h2) (by omega)
    | succ n_4 ih_4 =>
      intro i h1 h2 ls hl
      refine lv_iload_n hx hb dX5_isFed_4 rfl (lv_at hl 0 rfl) ?_
      refine lv_aload_n hx hb dX5_isFed_5 rfl (lv_at hl 2 rfl) ?_
      refine lv_iload_n hx hb dX5_isFed_6 rfl (lv_at hl 3 rfl) ?_
      refine lv_iconst (v := 4) hx hb dX5_isFed_7 (by decide) ?_
      refine ro_V (As := [.int (nI k), .int (nI 4)]) (rest := [.int (nI i)]) ⟨hx, hb, hml, hown, hts⟩ (c_X5_part l G a st kp hi sl sv pd td rc pl pt rt bn k 4 (by omega) (by omega)) (cwV 2 hts gX5_isFed_X5_part rfl rfl rfl (by decide +kernel) ⟨Nat.le_of_ble_eq_true rfl, Nat.le_of_ble_eq_true rfl⟩) hP hKK (va_recv hKK.1 hP (ci := 5) (q0 := 0) rfl rfl) rfl hl.1 rfl (Nat.le_of_ble_eq_true rfl) dX5_isFed_8 (Nat.zero_le _) (Nat.zero_le _) ?_
      refine lv_asi (y := nI (cnt st k)) (hc.1) ?_
      refine lv_icmp_ge (tgt := 39) hx hb dX5_isFed_11 (by decide) (fun c_11 => ?_) (fun c_11 => ?_)
      · skip
        have c_11 : (cnt st k) ≤ i := (nI_leI (a := cnt st k) (b := i) (by omega) (by omega)).mp c_11
        refine lv_iload_n hx hb dX5_isFed_39 rfl (lv_at hl 1 rfl) ?_
        exact ex_ROz (b := fed1 st k) hx hb hr hlocks rfl dX5_isFed_40 (by rw [show i = cnt st k by omega]; rfl) rfl
      · skip
        have c_11 : ¬ ((cnt st k) ≤ i) := fun q => c_11 ((nI_leI (a := cnt st k) (b := i) (by omega) (by omega)).mpr q)
        refine lv_iload_n hx hb dX5_isFed_14 rfl (lv_at hl 1 rfl) ?_
        refine lv_if_ne (tgt := 27) hx hb dX5_isFed_15 (by decide) (fun c_15 => ?_) (fun c_15 => ?_)
        · skip
          have c_15 := b2i_1 c_15
          refine lv_iconst (v := 1) hx hb dX5_isFed_27 (by decide) ?_
          refine lv_goto (tgt := 32) hx hb dX5_isFed_28 (by decide) ?_
          refine lv_asi (y := b2i (anyN (i + 1) (fun b => clo st k b))) (by simp_all [anyN, b2i]) ?_
          refine lv_istore_n (lv' := [(2, .int (b2i (anyN (i + 1) (fun b => clo st k b)))), (3, .int (nI i)), (0, .ref (a 0)), (1, .int (nI k))]) hx hb dX5_isFed_32 rfl hl (by decide) rfl (fun ls hl => ?_)
          refine lv_iinc (v := nI (i + 1)) (lv' := [(3, .int (nI (i + 1))), (2, .int (b2i (anyN (i + 1) (fun b => clo st k b)))), (0, .ref (a 0)), (1, .int (nI k))]) hx hb dX5_isFed_33 hl (k := 1) rfl (nI_1 _) (by decide) rfl (fun ls hl => ?_)
          refine lv_goto (tgt := 4) hx hb dX5_isFed_36 (by decide) ?_
          exact ih_4 (i + 1) (by omega) (by omega) _ (lv_sub hl [0, 1, 2, 3] rfl)
        · skip
          have c_15 := b2i_0 c_15
          refine lv_aload_n hx hb dX5_isFed_18 rfl (lv_at hl 2 rfl) ?_
          refine lv_iload_n hx hb dX5_isFed_19 rfl (lv_at hl 3 rfl) ?_
          refine lv_iload_n hx hb dX5_isFed_20 rfl (lv_at hl 0 rfl) ?_
          refine ro_V (As := [.int (nI k), .int (nI i)]) (rest := []) ⟨hx, hb, hml, hown, hts⟩ (c_X5_isClosed l G a st kp hi sl sv pd td rc pl pt rt bn k i (by omega) (by omega)) (cwV 2 hts gX5_isFed_X5_isClosed rfl rfl rfl (by decide +kernel) ⟨Nat.le_of_ble_eq_true rfl, Nat.le_of_ble_eq_true rfl⟩) hP hKK (va_recv hKK.1 hP (ci := 5) (q0 := 0) rfl rfl) rfl hl.1 rfl (Nat.le_of_ble_eq_true rfl) dX5_isFed_21 (Nat.zero_le _) (Nat.zero_le _) ?_
          refine lv_if_eq (tgt := 31) hx hb dX5_isFed_24 (by decide) (fun c_24 => ?_) (fun c_24 => ?_)
          · skip
            have c_24 := b2i_0 c_24
            refine lv_iconst (v := 0) hx hb dX5_isFed_31 (by decide) ?_
            refine lv_asi (y := b2i (anyN (i + 1) (fun b => clo st k b))) (by simp_all [anyN, b2i]) ?_
            refine lv_istore_n (lv' := [(2, .int (b2i (anyN (i + 1) (fun b => clo st k b)))), (3, .int (nI i)), (0, .ref (a 0)), (1, .int (nI k))]) hx hb dX5_isFed_32 rfl hl (by decide) rfl (fun ls hl => ?_)
            refine lv_iinc (v := nI (i + 1)) (lv' := [(3, .int (nI (i + 1))), (2, .int (b2i (anyN (i + 1) (fun b => clo st k b)))), (0, .ref (a 0)), (1, .int (nI k))]) hx hb dX5_isFed_33 hl (k := 1) rfl (nI_1 _) (by decide) rfl (fun ls hl => ?_)
            refine lv_goto (tgt := 4) hx hb dX5_isFed_36 (by decide) ?_
            exact ih_4 (i + 1) (by omega) (by omega) _ (lv_sub hl [0, 1, 2, 3] rfl)
          · skip
            have c_24 := b2i_1 c_24
            refine lv_iconst (v := 1) hx hb dX5_isFed_27 (by decide) ?_
            refine lv_goto (tgt := 32) hx hb dX5_isFed_28 (by decide) ?_
            refine lv_asi (y := b2i (anyN (i + 1) (fun b => clo st k b))) (by simp_all [anyN, b2i]) ?_
            refine lv_istore_n (lv' := [(2, .int (b2i (anyN (i + 1) (fun b => clo st k b)))), (3, .int (nI i)), (0, .ref (a 0)), (1, .int (nI k))]) hx hb dX5_isFed_32 rfl hl (by decide) rfl (fun ls hl => ?_)
            refine lv_iinc (v := nI (i + 1)) (lv' := [(3, .int (nI (i + 1))), (2, .int (b2i (anyN (i + 1) (fun b => clo st k b)))), (0, .ref (a 0)), (1, .int (nI k))]) hx hb dX5_isFed_33 hl (k := 1) rfl (nI_1 _) (by decide) rfl (fun ls hl => ?_)
            refine lv_goto (tgt := 4) hx hb dX5_isFed_36 (by decide) ?_
            exact ih_4 (i + 1) (by omega) (by omega) _ (lv_sub hl [0, 1, 2, 3] rfl)
  exact L_4 (cnt st k + 1) 0 (by omega) (by omega) _ (lv_sub hl [0, 1, 2, 3] rfl)
set_option maxHeartbeats 4000000 in
set_option maxRecDepth 100000 in
/-- X5_fed -/
theorem c_X5_fed (l : Launch) (G : GG) (a : Nat → Nat) (st : Nat → Int32) (kp : Nat → Int32) (hi : Nat → Int32) (sl : Nat → Int32) (sv : Nat → Int32) (pd : Nat → Int32) (td : Nat → Int32) (rc : Int32) (pl : Int32) (pt : Int32) (rt : Int32) (bn : Int32) (hI : RI st) : Met l yX5_fed wsX5_fed ({ frames := 4, cells := 0, slots := 0, locals := 91 }) (pcW G [.ref (a 0)] (mW G a st kp hi sl sv pd td rc pl pt rt bn)) (qRO (.int (fedS st))) 0 0 nofree := by
  refine hd_RO (cc := cX5_fed) (maxL := 3) (ret := some .int) (by decide) rfl (Nat.le_of_ble_eq_true rfl) ?_
  intro p e s m below meth c ls hx hb hr hts hown hlocks hml hP hKK hl
  have hl : lv_has ls 3 [(0, .ref (a 0))] := hl
  refine lv_iconst (v := 0) hx hb dX5_fed_0 (by decide) ?_
  refine lv_istore_n (lv' := [(1, .int 0), (0, .ref (a 0))]) hx hb dX5_fed_1 rfl hl (by decide) rfl (fun ls hl => ?_)
  refine lv_iconst (v := 0) hx hb dX5_fed_2 (by decide) ?_
  refine lv_istore_n (lv' := [(2, .int 0), (1, .int 0), (0, .ref (a 0))]) hx hb dX5_fed_3 rfl hl (by decide) rfl (fun ls hl => ?_)
  have L_4 : ∀ (n_4 : Nat) (i : Nat), (i ≤ 10) → (10 + 1 ≤ i + n_4) → ∀ (ls : Array Slot), lv_has ls 3 [(2, .int (nI i)), (1, .int (orN i (fun r => if fed1 st r = true then shl 1 (nI r) else 0))), (0, .ref (a 0))] → W p l e ({ frames := 4, cells := 0, slots := 0, locals := 91 }) s m (List.toArray [.ref (a 0)]) below meth c s.heap [] 0 0 (MQ below (qRO (.int (fedS st))) (List.toArray [.ref (a 0)]) s 0 0 nofree) (F0 m 4 ls []) := by
    intro n_4
    induction n_4 with
    | zero => intro i h1 h2; exact absurd (h2) (by omega)
    | succ n_4 ih_4 =>
      intro i h1 h2 ls hl
      refine lv_iload_n hx hb dX5_fed_4 rfl (lv_at hl 0 rfl) ?_
      refine lv_bipush (v := 10) hx hb dX5_fed_5 (by decide) ?_
      refine lv_icmp_ge (tgt := 34) hx hb dX5_fed_7 (by decide) (fun c_7 => ?_) (fun c_7 => ?_)
      · skip
        have c_7 : 10 ≤ i := (nI_leI (a := 10) (b := i) (by omega) (by omega)).mp c_7
        refine lv_iload_n hx hb dX5_fed_34 rfl (lv_at hl 1 rfl) ?_
        exact ex_ROi hx hb hr hlocks rfl dX5_fed_35 (by rw [show i = 10 by omega]; rfl)
      · skip
        have c_7 : ¬ (10 ≤ i) := fun q => c_7 ((nI_leI (a := 10) (b := i) (by omega) (by omega)).mpr q)
        refine lv_iload_n hx hb dX5_fed_10 rfl (lv_at hl 1 rfl) ?_
        refine lv_aload_n hx hb dX5_fed_11 rfl (lv_at hl 2 rfl) ?_
        refine lv_iload_n hx hb dX5_fed_12 rfl (lv_at hl 0 rfl) ?_
        refine ro_V (As := [.int (nI i)]) (rest := [.int (orN i (fun r => if fed1 st r = true then shl 1 (nI r) else 0))]) ⟨hx, hb, hml, hown, hts⟩ (c_X5_isFed l G a st kp hi sl sv pd td rc pl pt rt bn i (by omega) (by assumption)) (cwV 1 hts gX5_fed_X5_isFed rfl rfl rfl (by decide +kernel) ⟨Nat.le_of_ble_eq_true rfl, Nat.le_of_ble_eq_true rfl⟩) hP hKK (va_recv hKK.1 hP (ci := 5) (q0 := 0) rfl rfl) rfl hl.1 rfl (Nat.le_of_ble_eq_true rfl) dX5_fed_13 (Nat.zero_le _) (Nat.zero_le _) ?_
        refine lv_if_eq (tgt := 25) hx hb dX5_fed_16 (by decide) (fun c_16 => ?_) (fun c_16 => ?_)
        · skip
          have c_16 := b2i_0 c_16
          refine lv_iconst (v := 0) hx hb dX5_fed_25 (by decide) ?_
          refine lv_ior hx hb dX5_fed_26 ?_
          refine lv_asi (y := orN (i + 1) (fun r => if fed1 st r = true then shl 1 (nI r) else 0)) (by simp [orN, c_16]) ?_
          refine lv_istore_n (lv' := [(1, .int (orN (i + 1) (fun r => if fed1 st r = true then shl 1 (nI r) else 0))), (2, .int (nI i)), (0, .ref (a 0))]) hx hb dX5_fed_27 rfl hl (by decide) rfl (fun ls hl => ?_)
          refine lv_iinc (v := nI (i + 1)) (lv' := [(2, .int (nI (i + 1))), (1, .int (orN (i + 1) (fun r => if fed1 st r = true then shl 1 (nI r) else 0))), (0, .ref (a 0))]) hx hb dX5_fed_28 hl (k := 1) rfl (nI_1 _) (by decide) rfl (fun ls hl => ?_)
          refine lv_goto (tgt := 4) hx hb dX5_fed_31 (by decide) ?_
          exact ih_4 (i + 1) (by omega) (by omega) _ (lv_sub hl [0, 1, 2] rfl)
        · skip
          have c_16 := b2i_1 c_16
          refine lv_iconst (v := 1) hx hb dX5_fed_19 (by decide) ?_
          refine lv_iload_n hx hb dX5_fed_20 rfl (lv_at hl 0 rfl) ?_
          refine lv_ishl hx hb dX5_fed_21 ?_
          refine lv_asi (y := shl 1 (nI i)) rfl ?_
          refine lv_goto (tgt := 26) hx hb dX5_fed_22 (by decide) ?_
          refine lv_ior hx hb dX5_fed_26 ?_
          refine lv_asi (y := orN (i + 1) (fun r => if fed1 st r = true then shl 1 (nI r) else 0)) (by simp [orN, c_16]) ?_
          refine lv_istore_n (lv' := [(1, .int (orN (i + 1) (fun r => if fed1 st r = true then shl 1 (nI r) else 0))), (2, .int (nI i)), (0, .ref (a 0))]) hx hb dX5_fed_27 rfl hl (by decide) rfl (fun ls hl => ?_)
          refine lv_iinc (v := nI (i + 1)) (lv' := [(2, .int (nI (i + 1))), (1, .int (orN (i + 1) (fun r => if fed1 st r = true then shl 1 (nI r) else 0))), (0, .ref (a 0))]) hx hb dX5_fed_28 hl (k := 1) rfl (nI_1 _) (by decide) rfl (fun ls hl => ?_)
          refine lv_goto (tgt := 4) hx hb dX5_fed_31 (by decide) ?_
          exact ih_4 (i + 1) (by omega) (by omega) _ (lv_sub hl [0, 1, 2] rfl)
  exact L_4 (10 + 1) 0 (by omega) (by omega) _ (lv_sub hl [0, 1, 2] rfl)
set_option maxRecDepth 20000 in
theorem hin_X5_wanting_X5 : ∀ w ∈ u_ws RX5 TX5 12, w ∈ wsX5_wanting := by decide +kernel
theorem lk_X5_wanting_7 : Cond.fieldLink RX5 7 "WeldedRelaysModel" "state" "[I" ∈ wsX5_wanting := by decide +kernel
set_option maxHeartbeats 4000000 in
set_option maxRecDepth 100000 in
/-- X5_wanting -/
theorem c_X5_wanting (l : Launch) (G : GG) (a : Nat → Nat) (st : Nat → Int32) (kp : Nat → Int32) (hi : Nat → Int32) (sl : Nat → Int32) (sv : Nat → Int32) (pd : Nat → Int32) (td : Nat → Int32) (rc : Int32) (pl : Int32) (pt : Int32) (rt : Int32) (bn : Int32) (hI : RI st) : Met l yX5_wanting wsX5_wanting ({ frames := 5, cells := 0, slots := 0, locals := 113 }) (pcW G [.ref (a 0)] (mW G a st kp hi sl sv pd td rc pl pt rt bn)) (qRO (.int (wan st))) 0 0 nofree := by
  refine hd_RO (cc := cX5_wanting) (maxL := 2) (ret := some .int) (by decide) rfl (Nat.le_of_ble_eq_true rfl) ?_
  intro p e s m below meth c ls hx hb hr hts hown hlocks hml hP hKK hl
  have hl : lv_has ls 2 [(0, .ref (a 0))] := hl
  refine lv_aload_n hx hb dX5_wanting_0 rfl (lv_at hl 0 rfl) ?_
  refine ro_V (As := []) (rest := []) ⟨hx, hb, hml, hown, hts⟩ (c_X5_fed l G a st kp hi sl sv pd td rc pl pt rt bn (by assumption)) (cwV 0 hts gX5_wanting_X5_fed rfl rfl rfl (by decide +kernel) ⟨Nat.le_of_ble_eq_true rfl, Nat.le_of_ble_eq_true rfl⟩) hP hKK (va_recv hKK.1 hP (ci := 5) (q0 := 0) rfl rfl) rfl hl.1 rfl (Nat.le_of_ble_eq_true rfl) dX5_wanting_1 (Nat.zero_le _) (Nat.zero_le _) ?_
  refine lv_istore_n (lv' := [(1, .int (fedS st)), (0, .ref (a 0))]) hx hb dX5_wanting_4 rfl hl (by decide) rfl (fun ls hl => ?_)
  refine lv_iload_n hx hb dX5_wanting_5 rfl (lv_at hl 0 rfl) ?_
  refine lv_aload_n hx hb dX5_wanting_6 rfl (lv_at hl 1 rfl) ?_
  refine va_get (D := gD G) (ci := 5) (v := .ref (a 1)) (C := RX5) (T := TX5) (N := 12) hx hb hts hin_X5_wanting_X5 hown hKK.1 hP 0 rfl rfl 0 (by decide) (hts _ lk_X5_wanting_7) (fun _ h9 => h9) rfl dX5_wanting_7 ?_
  refine lv_iconst (v := 0) hx hb dX5_wanting_10 (by decide) ?_
  refine va_ialdN (j := 0) (v := st 0) hx hb hKK.1 hP 1 0 rfl rfl (rfl) (by omega) (by decide) (rfl) dX5_wanting_11 ?_
  refine lv_ixor hx hb dX5_wanting_12 ?_
  refine lv_aload_n hx hb dX5_wanting_13 rfl (lv_at hl 1 rfl) ?_
  refine va_get (D := gD G) (ci := 5) (v := .ref (a 1)) (C := RX5) (T := TX5) (N := 12) hx hb hts hin_X5_wanting_X5 hown hKK.1 hP 0 rfl rfl 0 (by decide) (hts _ lk_X5_wanting_7) (fun _ h9 => h9) rfl dX5_wanting_14 ?_
  refine lv_iconst (v := 0) hx hb dX5_wanting_17 (by decide) ?_
  refine va_ialdN (j := 0) (v := st 0) hx hb hKK.1 hP 1 0 rfl rfl (rfl) (by omega) (by decide) (rfl) dX5_wanting_18 ?_
  refine lv_aload_n hx hb dX5_wanting_19 rfl (lv_at hl 1 rfl) ?_
  refine va_get (D := gD G) (ci := 5) (v := .ref (a 1)) (C := RX5) (T := TX5) (N := 12) hx hb hts hin_X5_wanting_X5 hown hKK.1 hP 0 rfl rfl 0 (by decide) (hts _ lk_X5_wanting_7) (fun _ h9 => h9) rfl dX5_wanting_20 ?_
  refine lv_iconst (v := 1) hx hb dX5_wanting_23 (by decide) ?_
  refine va_ialdN (j := 1) (v := st 1) hx hb hKK.1 hP 1 0 rfl rfl (rfl) (by omega) (by decide) (rfl) dX5_wanting_24 ?_
  refine lv_iand hx hb dX5_wanting_25 ?_
  refine lv_iconst (v := (-1)) hx hb dX5_wanting_26 (by decide) ?_
  refine lv_ixor hx hb dX5_wanting_27 ?_
  refine lv_iand hx hb dX5_wanting_28 ?_
  exact ex_ROi hx hb hr hlocks rfl dX5_wanting_29 (rfl)
set_option maxRecDepth 20000 in
theorem hin_X5_moveRelay_X5 : ∀ w ∈ u_ws RX5 TX5 12, w ∈ wsX5_moveRelay := by decide +kernel
theorem lk_X5_moveRelay_7 : Cond.fieldLink RX5 7 "WeldedRelaysModel" "state" "[I" ∈ wsX5_moveRelay := by decide +kernel
set_option maxHeartbeats 4000000 in
set_option maxRecDepth 100000 in
/-- X5_moveRelay -/
theorem c_X5_moveRelay (l : Launch) (G : GG) (a : Nat → Nat) (st : Nat → Int32) (kp : Nat → Int32) (hi : Nat → Int32) (sl : Nat → Int32) (sv : Nat → Int32) (pd : Nat → Int32) (td : Nat → Int32) (rc : Int32) (pl : Int32) (pt : Int32) (rt : Int32) (bn : Int32) (k : Nat) (hk : k < 10) (hL : 0 ≤ st 5) : Met l yX5_moveRelay wsX5_moveRelay ({ frames := 1, cells := 0, slots := 0, locals := 23 }) (pcM G [.ref (a 0), .int (nI k)] (mW G a st kp hi sl sv pd td rc pl pt rt bn)) (qMU G none (mW G a st kp hi sl sv pd td rc pl pt rt bn) (mW G a (moveF k st) kp hi sl sv pd td rc pl pt rt bn)) 0 0 (aA (mW G a st kp hi sl sv pd td rc pl pt rt bn)) := by
  refine hd_MU (cc := cX5_moveRelay) (maxL := 3) (ret := none) (by decide) rfl (Nat.le_of_ble_eq_true rfl) ?_
  intro p e s m below meth c ls hx hb hr hts hown hlocks hml hP hKK hD hS hl
  have hl : lv_has ls 3 [(0, .ref (a 0)), (1, .int (nI k))] := hl
  refine lv_aload_n hx hb dX5_moveRelay_0 rfl (lv_at hl 0 rfl) ?_
  refine va_get (D := gD G) (ci := 5) (v := .ref (a 1)) (C := RX5) (T := TX5) (N := 12) hx hb hts hin_X5_moveRelay_X5 hown hKK.1 hP 0 rfl rfl 0 (by decide) (hts _ lk_X5_moveRelay_7) (fun _ h9 => h9) rfl dX5_moveRelay_1 ?_
  refine lv_iconst (v := 0) hx hb dX5_moveRelay_4 (by decide) ?_
  refine lv_dup2_11 hx hb dX5_moveRelay_5 rfl rfl ?_
  refine va_ialdN (j := 0) (v := st 0) hx hb hKK.1 hP 1 0 rfl rfl (rfl) (by omega) (by decide) (rfl) dX5_moveRelay_6 ?_
  refine lv_iconst (v := 1) hx hb dX5_moveRelay_7 (by decide) ?_
  refine lv_iload_n hx hb dX5_moveRelay_8 rfl (lv_at hl 1 rfl) ?_
  refine lv_ishl hx hb dX5_moveRelay_9 ?_
  refine lv_asi (y := shl 1 (nI k)) rfl ?_
  refine lv_ixor hx hb dX5_moveRelay_10 ?_
  refine va_iastN (j := 0) (x := ((st 0) ^^^ (shl 1 (nI k)))) hx hb hKK.1 hP hD hS 1 0 rfl rfl (rfl) (by omega) (by decide) dX5_moveRelay_11 (fun H locs hP hD hS => ?_)
  have hP : gP G (mW G a (upd st 0 ((st 0) ^^^ (shl 1 (nI k)))) kp hi sl sv pd td rc pl pt rt bn) H := hP
  have hD : va_D (aA (mW G a st kp hi sl sv pd td rc pl pt rt bn)) (mW G a (upd st 0 ((st 0) ^^^ (shl 1 (nI k)))) kp hi sl sv pd td rc pl pt rt bn) := hD
  refine lv_aload_n hx hb dX5_moveRelay_12 rfl (lv_at hl 0 rfl) ?_
  refine va_get (D := gD G) (ci := 5) (v := .ref (a 1)) (C := RX5) (T := TX5) (N := 12) hx hb hts hin_X5_moveRelay_X5 hown hKK.1 hP 0 rfl rfl 0 (by decide) (hts _ lk_X5_moveRelay_7) (fun _ h9 => h9) rfl dX5_moveRelay_13 ?_
  refine lv_iconst (v := 4) hx hb dX5_moveRelay_16 (by decide) ?_
  refine lv_dup2_11 hx hb dX5_moveRelay_17 rfl rfl ?_
  refine va_ialdN (j := 4) (v := (upd st 0 ((st 0) ^^^ (shl 1 (nI k)))) 4) hx hb hKK.1 hP 1 0 rfl rfl (rfl) (by omega) (by decide) (rfl) dX5_moveRelay_18 ?_
  refine lv_iconst (v := 1) hx hb dX5_moveRelay_19 (by decide) ?_
  refine lv_iadd hx hb dX5_moveRelay_20 ?_
  refine va_iastN (j := 4) (x := (((upd st 0 ((st 0) ^^^ (shl 1 (nI k)))) 4) + 1)) hx hb hKK.1 hP hD hS 1 0 rfl rfl (rfl) (by omega) (by decide) dX5_moveRelay_21 (fun H locs hP hD hS => ?_)
  have hP : gP G (mW G a (upd (upd st 0 ((st 0) ^^^ (shl 1 (nI k)))) 4 (((upd st 0 ((st 0) ^^^ (shl 1 (nI k)))) 4) + 1)) kp hi sl sv pd td rc pl pt rt bn) H := hP
  have hD : va_D (aA (mW G a st kp hi sl sv pd td rc pl pt rt bn)) (mW G a (upd (upd st 0 ((st 0) ^^^ (shl 1 (nI k)))) 4 (((upd st 0 ((st 0) ^^^ (shl 1 (nI k)))) 4) + 1)) kp hi sl sv pd td rc pl pt rt bn) := hD
  refine lv_aload_n hx hb dX5_moveRelay_22 rfl (lv_at hl 0 rfl) ?_
  refine lv_iload_n hx hb dX5_moveRelay_23 rfl (lv_at hl 1 rfl) ?_
  refine lv_iconst (v := 2) hx hb dX5_moveRelay_24 (by decide) ?_
  refine lv_iconst (v := 0) hx hb dX5_moveRelay_25 (by decide) ?_
  refine mu_V (As := [.int (nI k), .int (nI 2), .int 0]) (rest := []) ⟨hx, hb, hml, hown, hts⟩ (c_X5_setPart l G a (upd (upd st 0 ((st 0) ^^^ (shl 1 (nI k)))) 4 (((upd st 0 ((st 0) ^^^ (shl 1 (nI k)))) 4) + 1)) kp hi sl sv pd td rc pl pt rt bn k 2 (by omega) (by omega) 0) (cwV 3 hts gX5_moveRelay_X5_setPart rfl rfl rfl (by decide +kernel) ⟨Nat.le_of_ble_eq_true rfl, Nat.le_of_ble_eq_true rfl⟩) hP hKK hD hS (va_recv hKK.1 hP (ci := 5) (q0 := 0) rfl rfl) rfl hl.1 rfl (Nat.le_of_ble_eq_true rfl) dX5_moveRelay_26 (Nat.zero_le _) (Nat.zero_le _) (rfl) (fun H locs hP hD hS => ?_)
  refine lv_aload_n hx hb dX5_moveRelay_29 rfl (lv_at hl 0 rfl) ?_
  refine va_get (D := gD G) (ci := 5) (v := .ref (a 1)) (C := RX5) (T := TX5) (N := 12) hx hb hts hin_X5_moveRelay_X5 hown hKK.1 hP 0 rfl rfl 0 (by decide) (hts _ lk_X5_moveRelay_7) (fun _ h9 => h9) rfl dX5_moveRelay_30 ?_
  refine lv_iconst (v := 0) hx hb dX5_moveRelay_33 (by decide) ?_
  refine va_ialdN (j := 0) (v := (upd (upd (upd st 0 ((st 0) ^^^ (shl 1 (nI k)))) 4 (((upd st 0 ((st 0) ^^^ (shl 1 (nI k)))) 4) + 1)) (px k 2) 0) 0) hx hb hKK.1 hP 1 0 rfl rfl (rfl) (by omega) (by decide) (rfl) dX5_moveRelay_34 ?_
  refine lv_iload_n hx hb dX5_moveRelay_35 rfl (lv_at hl 1 rfl) ?_
  refine ro_S (As := [.int ((upd (upd (upd st 0 ((st 0) ^^^ (shl 1 (nI k)))) 4 (((upd st 0 ((st 0) ^^^ (shl 1 (nI k)))) 4) + 1)) (px k 2) 0) 0), .int (nI k)]) (rest := []) ⟨hx, hb, hml, hown, hts⟩ (c_X5_has l G ((upd (upd (upd st 0 ((st 0) ^^^ (shl 1 (nI k)))) 4 (((upd st 0 ((st 0) ^^^ (shl 1 (nI k)))) 4) + 1)) (px k 2) 0) 0) (nI k)) (va_cwS 2 hts gX5_moveRelay_X5_has rfl rfl rfl (by decide +kernel) ⟨Nat.le_of_ble_eq_true rfl, Nat.le_of_ble_eq_true rfl⟩) (show gP G [] _ from fun k q h => by simp at h) hKK rfl hl.1 rfl (Nat.le_of_ble_eq_true rfl) dX5_moveRelay_36 (Nat.zero_le _) (Nat.zero_le _) ?_
  refine lv_if_eq (tgt := 106) hx hb dX5_moveRelay_39 (by decide) (fun c_39 => ?_) (fun c_39 => ?_)
  · skip
    have c_39 := b2i_0 c_39
    exact ex_MUv (w2 := (mW G a (upd (upd (upd st 0 ((st 0) ^^^ (shl 1 (nI k)))) 4 (((upd st 0 ((st 0) ^^^ (shl 1 (nI k)))) 4) + 1)) (px k 2) 0) kp hi sl sv pd td rc pl pt rt bn)) hx hb hr hlocks hP hS dX5_moveRelay_106 (fun h => by have e1 : mmvF k st = upd (upd (upd st 0 ((st 0) ^^^ (shl 1 (nI k)))) 4 (((upd st 0 ((st 0) ^^^ (shl 1 (nI k)))) 4) + 1)) (px k 2) 0 := mmv_f c_39; rw [← mmvF_eq k st hL, e1]; exact h)
  · skip
    have c_39 := b2i_1 c_39
    refine lv_aload_n hx hb dX5_moveRelay_42 rfl (lv_at hl 0 rfl) ?_
    refine lv_iload_n hx hb dX5_moveRelay_43 rfl (lv_at hl 1 rfl) ?_
    refine lv_iconst (v := 3) hx hb dX5_moveRelay_44 (by decide) ?_
    refine lv_aload_n hx hb dX5_moveRelay_45 rfl (lv_at hl 0 rfl) ?_
    refine lv_iload_n hx hb dX5_moveRelay_46 rfl (lv_at hl 1 rfl) ?_
    refine lv_iconst (v := 3) hx hb dX5_moveRelay_47 (by decide) ?_
    refine ro_V (As := [.int (nI k), .int (nI 3)]) (rest := [.int 3, .int (nI k), .ref (a 0)]) ⟨hx, hb, hml, hown, hts⟩ (c_X5_part l G a (upd (upd (upd st 0 ((st 0) ^^^ (shl 1 (nI k)))) 4 (((upd st 0 ((st 0) ^^^ (shl 1 (nI k)))) 4) + 1)) (px k 2) 0) kp hi sl sv pd td rc pl pt rt bn k 3 (by omega) (by omega)) (cwV 2 hts gX5_moveRelay_X5_part rfl rfl rfl (by decide +kernel) ⟨Nat.le_of_ble_eq_true rfl, Nat.le_of_ble_eq_true rfl⟩) hP hKK (va_recv hKK.1 hP (ci := 5) (q0 := 0) rfl rfl) rfl hl.1 rfl (Nat.le_of_ble_eq_true rfl) dX5_moveRelay_48 (Nat.zero_le _) (Nat.zero_le _) ?_
    refine lv_iconst (v := 1) hx hb dX5_moveRelay_51 (by decide) ?_
    refine lv_iadd hx hb dX5_moveRelay_52 ?_
    refine mu_V (As := [.int (nI k), .int (nI 3), .int (((upd (upd (upd st 0 ((st 0) ^^^ (shl 1 (nI k)))) 4 (((upd st 0 ((st 0) ^^^ (shl 1 (nI k)))) 4) + 1)) (px k 2) 0) (px k 3)) + 1)]) (rest := []) ⟨hx, hb, hml, hown, hts⟩ (c_X5_setPart l G a (upd (upd (upd st 0 ((st 0) ^^^ (shl 1 (nI k)))) 4 (((upd st 0 ((st 0) ^^^ (shl 1 (nI k)))) 4) + 1)) (px k 2) 0) kp hi sl sv pd td rc pl pt rt bn k 3 (by omega) (by omega) (((upd (upd (upd st 0 ((st 0) ^^^ (shl 1 (nI k)))) 4 (((upd st 0 ((st 0) ^^^ (shl 1 (nI k)))) 4) + 1)) (px k 2) 0) (px k 3)) + 1)) (cwV 3 hts gX5_moveRelay_X5_setPart rfl rfl rfl (by decide +kernel) ⟨Nat.le_of_ble_eq_true rfl, Nat.le_of_ble_eq_true rfl⟩) hP hKK hD hS (va_recv hKK.1 hP (ci := 5) (q0 := 0) rfl rfl) rfl hl.1 rfl (Nat.le_of_ble_eq_true rfl) dX5_moveRelay_53 (Nat.zero_le _) (Nat.zero_le _) (rfl) (fun H locs hP hD hS => ?_)
    refine lv_aload_n hx hb dX5_moveRelay_56 rfl (lv_at hl 0 rfl) ?_
    refine va_get (D := gD G) (ci := 5) (v := .ref (a 1)) (C := RX5) (T := TX5) (N := 12) hx hb hts hin_X5_moveRelay_X5 hown hKK.1 hP 0 rfl rfl 0 (by decide) (hts _ lk_X5_moveRelay_7) (fun _ h9 => h9) rfl dX5_moveRelay_57 ?_
    refine lv_iconst (v := 5) hx hb dX5_moveRelay_60 (by decide) ?_
    refine va_ialdN (j := 5) (v := (upd (upd (upd (upd st 0 ((st 0) ^^^ (shl 1 (nI k)))) 4 (((upd st 0 ((st 0) ^^^ (shl 1 (nI k)))) 4) + 1)) (px k 2) 0) (px k 3) (((upd (upd (upd st 0 ((st 0) ^^^ (shl 1 (nI k)))) 4 (((upd st 0 ((st 0) ^^^ (shl 1 (nI k)))) 4) + 1)) (px k 2) 0) (px k 3)) + 1)) 5) hx hb hKK.1 hP 1 0 rfl rfl (rfl) (by omega) (by decide) (rfl) dX5_moveRelay_61 ?_
    refine lv_if_le (tgt := 84) hx hb dX5_moveRelay_62 (by decide) (fun c_62 => ?_) (fun c_62 => ?_)
    · skip
      refine lv_iconst (v := 0) hx hb dX5_moveRelay_84 (by decide) ?_
      refine lv_istore_n (lv' := [(2, .int 0), (0, .ref (a 0)), (1, .int (nI k))]) hx hb dX5_moveRelay_85 rfl hl (by decide) rfl (fun ls hl => ?_)
      refine lv_aload_n hx hb dX5_moveRelay_86 rfl (lv_at hl 1 rfl) ?_
      refine va_get (D := gD G) (ci := 5) (v := .ref (a 1)) (C := RX5) (T := TX5) (N := 12) hx hb hts hin_X5_moveRelay_X5 hown hKK.1 hP 0 rfl rfl 0 (by decide) (hts _ lk_X5_moveRelay_7) (fun _ h9 => h9) rfl dX5_moveRelay_87 ?_
      refine lv_iconst (v := 1) hx hb dX5_moveRelay_90 (by decide) ?_
      refine lv_dup2_11 hx hb dX5_moveRelay_91 rfl rfl ?_
      refine va_ialdN (j := 1) (v := (upd (upd (upd (upd st 0 ((st 0) ^^^ (shl 1 (nI k)))) 4 (((upd st 0 ((st 0) ^^^ (shl 1 (nI k)))) 4) + 1)) (px k 2) 0) (px k 3) (((upd (upd (upd st 0 ((st 0) ^^^ (shl 1 (nI k)))) 4 (((upd st 0 ((st 0) ^^^ (shl 1 (nI k)))) 4) + 1)) (px k 2) 0) (px k 3)) + 1)) 1) hx hb hKK.1 hP 1 0 rfl rfl (rfl) (by omega) (by decide) (rfl) dX5_moveRelay_92 ?_
      refine lv_iload_n hx hb dX5_moveRelay_93 rfl (lv_at hl 0 rfl) ?_
      refine lv_if_eq (tgt := 103) hx hb dX5_moveRelay_94 (by decide) (fun c_94 => ?_) (fun c_94 => ?_)
      · skip
        refine lv_iconst (v := 0) hx hb dX5_moveRelay_103 (by decide) ?_
        refine lv_ior hx hb dX5_moveRelay_104 ?_
        refine va_iastN (j := 1) (x := (((upd (upd (upd (upd st 0 ((st 0) ^^^ (shl 1 (nI k)))) 4 (((upd st 0 ((st 0) ^^^ (shl 1 (nI k)))) 4) + 1)) (px k 2) 0) (px k 3) (((upd (upd (upd st 0 ((st 0) ^^^ (shl 1 (nI k)))) 4 (((upd st 0 ((st 0) ^^^ (shl 1 (nI k)))) 4) + 1)) (px k 2) 0) (px k 3)) + 1)) 1) ||| 0)) hx hb hKK.1 hP hD hS 1 0 rfl rfl (rfl) (by omega) (by decide) dX5_moveRelay_105 (fun H locs hP hD hS => ?_)
        have hP : gP G (mW G a (upd (upd (upd (upd (upd st 0 ((st 0) ^^^ (shl 1 (nI k)))) 4 (((upd st 0 ((st 0) ^^^ (shl 1 (nI k)))) 4) + 1)) (px k 2) 0) (px k 3) (((upd (upd (upd st 0 ((st 0) ^^^ (shl 1 (nI k)))) 4 (((upd st 0 ((st 0) ^^^ (shl 1 (nI k)))) 4) + 1)) (px k 2) 0) (px k 3)) + 1)) 1 (((upd (upd (upd (upd st 0 ((st 0) ^^^ (shl 1 (nI k)))) 4 (((upd st 0 ((st 0) ^^^ (shl 1 (nI k)))) 4) + 1)) (px k 2) 0) (px k 3) (((upd (upd (upd st 0 ((st 0) ^^^ (shl 1 (nI k)))) 4 (((upd st 0 ((st 0) ^^^ (shl 1 (nI k)))) 4) + 1)) (px k 2) 0) (px k 3)) + 1)) 1) ||| 0)) kp hi sl sv pd td rc pl pt rt bn) H := hP
        have hD : va_D (aA (mW G a st kp hi sl sv pd td rc pl pt rt bn)) (mW G a (upd (upd (upd (upd (upd st 0 ((st 0) ^^^ (shl 1 (nI k)))) 4 (((upd st 0 ((st 0) ^^^ (shl 1 (nI k)))) 4) + 1)) (px k 2) 0) (px k 3) (((upd (upd (upd st 0 ((st 0) ^^^ (shl 1 (nI k)))) 4 (((upd st 0 ((st 0) ^^^ (shl 1 (nI k)))) 4) + 1)) (px k 2) 0) (px k 3)) + 1)) 1 (((upd (upd (upd (upd st 0 ((st 0) ^^^ (shl 1 (nI k)))) 4 (((upd st 0 ((st 0) ^^^ (shl 1 (nI k)))) 4) + 1)) (px k 2) 0) (px k 3) (((upd (upd (upd st 0 ((st 0) ^^^ (shl 1 (nI k)))) 4 (((upd st 0 ((st 0) ^^^ (shl 1 (nI k)))) 4) + 1)) (px k 2) 0) (px k 3)) + 1)) 1) ||| 0)) kp hi sl sv pd td rc pl pt rt bn) := hD
        exact ex_MUv (w2 := (mW G a (upd (upd (upd (upd (upd st 0 ((st 0) ^^^ (shl 1 (nI k)))) 4 (((upd st 0 ((st 0) ^^^ (shl 1 (nI k)))) 4) + 1)) (px k 2) 0) (px k 3) (((upd (upd (upd st 0 ((st 0) ^^^ (shl 1 (nI k)))) 4 (((upd st 0 ((st 0) ^^^ (shl 1 (nI k)))) 4) + 1)) (px k 2) 0) (px k 3)) + 1)) 1 (((upd (upd (upd (upd st 0 ((st 0) ^^^ (shl 1 (nI k)))) 4 (((upd st 0 ((st 0) ^^^ (shl 1 (nI k)))) 4) + 1)) (px k 2) 0) (px k 3) (((upd (upd (upd st 0 ((st 0) ^^^ (shl 1 (nI k)))) 4 (((upd st 0 ((st 0) ^^^ (shl 1 (nI k)))) 4) + 1)) (px k 2) 0) (px k 3)) + 1)) 1) ||| 0)) kp hi sl sv pd td rc pl pt rt bn)) hx hb hr hlocks hP hS dX5_moveRelay_106 (fun h => by have e1 : mmvF k st = upd (upd (upd (upd (upd st 0 ((st 0) ^^^ (shl 1 (nI k)))) 4 (((upd st 0 ((st 0) ^^^ (shl 1 (nI k)))) 4) + 1)) (px k 2) 0) (px k 3) (((upd (upd (upd st 0 ((st 0) ^^^ (shl 1 (nI k)))) 4 (((upd st 0 ((st 0) ^^^ (shl 1 (nI k)))) 4) + 1)) (px k 2) 0) (px k 3)) + 1)) 1 (((upd (upd (upd (upd st 0 ((st 0) ^^^ (shl 1 (nI k)))) 4 (((upd st 0 ((st 0) ^^^ (shl 1 (nI k)))) 4) + 1)) (px k 2) 0) (px k 3) (((upd (upd (upd st 0 ((st 0) ^^^ (shl 1 (nI k)))) 4 (((upd st 0 ((st 0) ^^^ (shl 1 (nI k)))) 4) + 1)) (px k 2) 0) (px k 3)) + 1)) 1) ||| 0) := mmv_n c_39 (Or.inl c_62); rw [← mmvF_eq k st hL, e1]; exact h)
      · skip
        exact absurd c_94 (by decide)
    · skip
      refine lv_aload_n hx hb dX5_moveRelay_65 rfl (lv_at hl 0 rfl) ?_
      refine lv_iload_n hx hb dX5_moveRelay_66 rfl (lv_at hl 1 rfl) ?_
      refine lv_iconst (v := 3) hx hb dX5_moveRelay_67 (by decide) ?_
      refine ro_V (As := [.int (nI k), .int (nI 3)]) (rest := []) ⟨hx, hb, hml, hown, hts⟩ (c_X5_part l G a (upd (upd (upd (upd st 0 ((st 0) ^^^ (shl 1 (nI k)))) 4 (((upd st 0 ((st 0) ^^^ (shl 1 (nI k)))) 4) + 1)) (px k 2) 0) (px k 3) (((upd (upd (upd st 0 ((st 0) ^^^ (shl 1 (nI k)))) 4 (((upd st 0 ((st 0) ^^^ (shl 1 (nI k)))) 4) + 1)) (px k 2) 0) (px k 3)) + 1)) kp hi sl sv pd td rc pl pt rt bn k 3 (by omega) (by omega)) (cwV 2 hts gX5_moveRelay_X5_part rfl rfl rfl (by decide +kernel) ⟨Nat.le_of_ble_eq_true rfl, Nat.le_of_ble_eq_true rfl⟩) hP hKK (va_recv hKK.1 hP (ci := 5) (q0 := 0) rfl rfl) rfl hl.1 rfl (Nat.le_of_ble_eq_true rfl) dX5_moveRelay_68 (Nat.zero_le _) (Nat.zero_le _) ?_
      refine lv_aload_n hx hb dX5_moveRelay_71 rfl (lv_at hl 0 rfl) ?_
      refine va_get (D := gD G) (ci := 5) (v := .ref (a 1)) (C := RX5) (T := TX5) (N := 12) hx hb hts hin_X5_moveRelay_X5 hown hKK.1 hP 0 rfl rfl 0 (by decide) (hts _ lk_X5_moveRelay_7) (fun _ h9 => h9) rfl dX5_moveRelay_72 ?_
      refine lv_iconst (v := 5) hx hb dX5_moveRelay_75 (by decide) ?_
      refine va_ialdN (j := 5) (v := (upd (upd (upd (upd st 0 ((st 0) ^^^ (shl 1 (nI k)))) 4 (((upd st 0 ((st 0) ^^^ (shl 1 (nI k)))) 4) + 1)) (px k 2) 0) (px k 3) (((upd (upd (upd st 0 ((st 0) ^^^ (shl 1 (nI k)))) 4 (((upd st 0 ((st 0) ^^^ (shl 1 (nI k)))) 4) + 1)) (px k 2) 0) (px k 3)) + 1)) 5) hx hb hKK.1 hP 1 0 rfl rfl (rfl) (by omega) (by decide) (rfl) dX5_moveRelay_76 ?_
      refine lv_icmp_lt (tgt := 84) hx hb dX5_moveRelay_77 (by decide) (fun c_77 => ?_) (fun c_77 => ?_)
      · skip
        refine lv_iconst (v := 0) hx hb dX5_moveRelay_84 (by decide) ?_
        refine lv_istore_n (lv' := [(2, .int 0), (0, .ref (a 0)), (1, .int (nI k))]) hx hb dX5_moveRelay_85 rfl hl (by decide) rfl (fun ls hl => ?_)
        refine lv_aload_n hx hb dX5_moveRelay_86 rfl (lv_at hl 1 rfl) ?_
        refine va_get (D := gD G) (ci := 5) (v := .ref (a 1)) (C := RX5) (T := TX5) (N := 12) hx hb hts hin_X5_moveRelay_X5 hown hKK.1 hP 0 rfl rfl 0 (by decide) (hts _ lk_X5_moveRelay_7) (fun _ h9 => h9) rfl dX5_moveRelay_87 ?_
        refine lv_iconst (v := 1) hx hb dX5_moveRelay_90 (by decide) ?_
        refine lv_dup2_11 hx hb dX5_moveRelay_91 rfl rfl ?_
        refine va_ialdN (j := 1) (v := (upd (upd (upd (upd st 0 ((st 0) ^^^ (shl 1 (nI k)))) 4 (((upd st 0 ((st 0) ^^^ (shl 1 (nI k)))) 4) + 1)) (px k 2) 0) (px k 3) (((upd (upd (upd st 0 ((st 0) ^^^ (shl 1 (nI k)))) 4 (((upd st 0 ((st 0) ^^^ (shl 1 (nI k)))) 4) + 1)) (px k 2) 0) (px k 3)) + 1)) 1) hx hb hKK.1 hP 1 0 rfl rfl (rfl) (by omega) (by decide) (rfl) dX5_moveRelay_92 ?_
        refine lv_iload_n hx hb dX5_moveRelay_93 rfl (lv_at hl 0 rfl) ?_
        refine lv_if_eq (tgt := 103) hx hb dX5_moveRelay_94 (by decide) (fun c_94 => ?_) (fun c_94 => ?_)
        · skip
          refine lv_iconst (v := 0) hx hb dX5_moveRelay_103 (by decide) ?_
          refine lv_ior hx hb dX5_moveRelay_104 ?_
          refine va_iastN (j := 1) (x := (((upd (upd (upd (upd st 0 ((st 0) ^^^ (shl 1 (nI k)))) 4 (((upd st 0 ((st 0) ^^^ (shl 1 (nI k)))) 4) + 1)) (px k 2) 0) (px k 3) (((upd (upd (upd st 0 ((st 0) ^^^ (shl 1 (nI k)))) 4 (((upd st 0 ((st 0) ^^^ (shl 1 (nI k)))) 4) + 1)) (px k 2) 0) (px k 3)) + 1)) 1) ||| 0)) hx hb hKK.1 hP hD hS 1 0 rfl rfl (rfl) (by omega) (by decide) dX5_moveRelay_105 (fun H locs hP hD hS => ?_)
          have hP : gP G (mW G a (upd (upd (upd (upd (upd st 0 ((st 0) ^^^ (shl 1 (nI k)))) 4 (((upd st 0 ((st 0) ^^^ (shl 1 (nI k)))) 4) + 1)) (px k 2) 0) (px k 3) (((upd (upd (upd st 0 ((st 0) ^^^ (shl 1 (nI k)))) 4 (((upd st 0 ((st 0) ^^^ (shl 1 (nI k)))) 4) + 1)) (px k 2) 0) (px k 3)) + 1)) 1 (((upd (upd (upd (upd st 0 ((st 0) ^^^ (shl 1 (nI k)))) 4 (((upd st 0 ((st 0) ^^^ (shl 1 (nI k)))) 4) + 1)) (px k 2) 0) (px k 3) (((upd (upd (upd st 0 ((st 0) ^^^ (shl 1 (nI k)))) 4 (((upd st 0 ((st 0) ^^^ (shl 1 (nI k)))) 4) + 1)) (px k 2) 0) (px k 3)) + 1)) 1) ||| 0)) kp hi sl sv pd td rc pl pt rt bn) H := hP
          have hD : va_D (aA (mW G a st kp hi sl sv pd td rc pl pt rt bn)) (mW G a (upd (upd (upd (upd (upd st 0 ((st 0) ^^^ (shl 1 (nI k)))) 4 (((upd st 0 ((st 0) ^^^ (shl 1 (nI k)))) 4) + 1)) (px k 2) 0) (px k 3) (((upd (upd (upd st 0 ((st 0) ^^^ (shl 1 (nI k)))) 4 (((upd st 0 ((st 0) ^^^ (shl 1 (nI k)))) 4) + 1)) (px k 2) 0) (px k 3)) + 1)) 1 (((upd (upd (upd (upd st 0 ((st 0) ^^^ (shl 1 (nI k)))) 4 (((upd st 0 ((st 0) ^^^ (shl 1 (nI k)))) 4) + 1)) (px k 2) 0) (px k 3) (((upd (upd (upd st 0 ((st 0) ^^^ (shl 1 (nI k)))) 4 (((upd st 0 ((st 0) ^^^ (shl 1 (nI k)))) 4) + 1)) (px k 2) 0) (px k 3)) + 1)) 1) ||| 0)) kp hi sl sv pd td rc pl pt rt bn) := hD
          exact ex_MUv (w2 := (mW G a (upd (upd (upd (upd (upd st 0 ((st 0) ^^^ (shl 1 (nI k)))) 4 (((upd st 0 ((st 0) ^^^ (shl 1 (nI k)))) 4) + 1)) (px k 2) 0) (px k 3) (((upd (upd (upd st 0 ((st 0) ^^^ (shl 1 (nI k)))) 4 (((upd st 0 ((st 0) ^^^ (shl 1 (nI k)))) 4) + 1)) (px k 2) 0) (px k 3)) + 1)) 1 (((upd (upd (upd (upd st 0 ((st 0) ^^^ (shl 1 (nI k)))) 4 (((upd st 0 ((st 0) ^^^ (shl 1 (nI k)))) 4) + 1)) (px k 2) 0) (px k 3) (((upd (upd (upd st 0 ((st 0) ^^^ (shl 1 (nI k)))) 4 (((upd st 0 ((st 0) ^^^ (shl 1 (nI k)))) 4) + 1)) (px k 2) 0) (px k 3)) + 1)) 1) ||| 0)) kp hi sl sv pd td rc pl pt rt bn)) hx hb hr hlocks hP hS dX5_moveRelay_106 (fun h => by have e1 : mmvF k st = upd (upd (upd (upd (upd st 0 ((st 0) ^^^ (shl 1 (nI k)))) 4 (((upd st 0 ((st 0) ^^^ (shl 1 (nI k)))) 4) + 1)) (px k 2) 0) (px k 3) (((upd (upd (upd st 0 ((st 0) ^^^ (shl 1 (nI k)))) 4 (((upd st 0 ((st 0) ^^^ (shl 1 (nI k)))) 4) + 1)) (px k 2) 0) (px k 3)) + 1)) 1 (((upd (upd (upd (upd st 0 ((st 0) ^^^ (shl 1 (nI k)))) 4 (((upd st 0 ((st 0) ^^^ (shl 1 (nI k)))) 4) + 1)) (px k 2) 0) (px k 3) (((upd (upd (upd st 0 ((st 0) ^^^ (shl 1 (nI k)))) 4 (((upd st 0 ((st 0) ^^^ (shl 1 (nI k)))) 4) + 1)) (px k 2) 0) (px k 3)) + 1)) 1) ||| 0) := mmv_n c_39 (Or.inr c_77); rw [← mmvF_eq k st hL, e1]; exact h)
        · skip
          exact absurd c_94 (by decide)
      · skip
        refine lv_iconst (v := 1) hx hb dX5_moveRelay_80 (by decide) ?_
        refine lv_goto (tgt := 85) hx hb dX5_moveRelay_81 (by decide) ?_
        refine lv_istore_n (lv' := [(2, .int 1), (0, .ref (a 0)), (1, .int (nI k))]) hx hb dX5_moveRelay_85 rfl hl (by decide) rfl (fun ls hl => ?_)
        refine lv_aload_n hx hb dX5_moveRelay_86 rfl (lv_at hl 1 rfl) ?_
        refine va_get (D := gD G) (ci := 5) (v := .ref (a 1)) (C := RX5) (T := TX5) (N := 12) hx hb hts hin_X5_moveRelay_X5 hown hKK.1 hP 0 rfl rfl 0 (by decide) (hts _ lk_X5_moveRelay_7) (fun _ h9 => h9) rfl dX5_moveRelay_87 ?_
        refine lv_iconst (v := 1) hx hb dX5_moveRelay_90 (by decide) ?_
        refine lv_dup2_11 hx hb dX5_moveRelay_91 rfl rfl ?_
        refine va_ialdN (j := 1) (v := (upd (upd (upd (upd st 0 ((st 0) ^^^ (shl 1 (nI k)))) 4 (((upd st 0 ((st 0) ^^^ (shl 1 (nI k)))) 4) + 1)) (px k 2) 0) (px k 3) (((upd (upd (upd st 0 ((st 0) ^^^ (shl 1 (nI k)))) 4 (((upd st 0 ((st 0) ^^^ (shl 1 (nI k)))) 4) + 1)) (px k 2) 0) (px k 3)) + 1)) 1) hx hb hKK.1 hP 1 0 rfl rfl (rfl) (by omega) (by decide) (rfl) dX5_moveRelay_92 ?_
        refine lv_iload_n hx hb dX5_moveRelay_93 rfl (lv_at hl 0 rfl) ?_
        refine lv_if_eq (tgt := 103) hx hb dX5_moveRelay_94 (by decide) (fun c_94 => ?_) (fun c_94 => ?_)
        · skip
          exact absurd c_94 (by decide)
        · skip
          refine lv_iconst (v := 1) hx hb dX5_moveRelay_97 (by decide) ?_
          refine lv_iload_n hx hb dX5_moveRelay_98 rfl (lv_at hl 2 rfl) ?_
          refine lv_ishl hx hb dX5_moveRelay_99 ?_
          refine lv_asi (y := shl 1 (nI k)) rfl ?_
          refine lv_goto (tgt := 104) hx hb dX5_moveRelay_100 (by decide) ?_
          refine lv_ior hx hb dX5_moveRelay_104 ?_
          refine va_iastN (j := 1) (x := (((upd (upd (upd (upd st 0 ((st 0) ^^^ (shl 1 (nI k)))) 4 (((upd st 0 ((st 0) ^^^ (shl 1 (nI k)))) 4) + 1)) (px k 2) 0) (px k 3) (((upd (upd (upd st 0 ((st 0) ^^^ (shl 1 (nI k)))) 4 (((upd st 0 ((st 0) ^^^ (shl 1 (nI k)))) 4) + 1)) (px k 2) 0) (px k 3)) + 1)) 1) ||| (shl 1 (nI k)))) hx hb hKK.1 hP hD hS 1 0 rfl rfl (rfl) (by omega) (by decide) dX5_moveRelay_105 (fun H locs hP hD hS => ?_)
          have hP : gP G (mW G a (upd (upd (upd (upd (upd st 0 ((st 0) ^^^ (shl 1 (nI k)))) 4 (((upd st 0 ((st 0) ^^^ (shl 1 (nI k)))) 4) + 1)) (px k 2) 0) (px k 3) (((upd (upd (upd st 0 ((st 0) ^^^ (shl 1 (nI k)))) 4 (((upd st 0 ((st 0) ^^^ (shl 1 (nI k)))) 4) + 1)) (px k 2) 0) (px k 3)) + 1)) 1 (((upd (upd (upd (upd st 0 ((st 0) ^^^ (shl 1 (nI k)))) 4 (((upd st 0 ((st 0) ^^^ (shl 1 (nI k)))) 4) + 1)) (px k 2) 0) (px k 3) (((upd (upd (upd st 0 ((st 0) ^^^ (shl 1 (nI k)))) 4 (((upd st 0 ((st 0) ^^^ (shl 1 (nI k)))) 4) + 1)) (px k 2) 0) (px k 3)) + 1)) 1) ||| (shl 1 (nI k)))) kp hi sl sv pd td rc pl pt rt bn) H := hP
          have hD : va_D (aA (mW G a st kp hi sl sv pd td rc pl pt rt bn)) (mW G a (upd (upd (upd (upd (upd st 0 ((st 0) ^^^ (shl 1 (nI k)))) 4 (((upd st 0 ((st 0) ^^^ (shl 1 (nI k)))) 4) + 1)) (px k 2) 0) (px k 3) (((upd (upd (upd st 0 ((st 0) ^^^ (shl 1 (nI k)))) 4 (((upd st 0 ((st 0) ^^^ (shl 1 (nI k)))) 4) + 1)) (px k 2) 0) (px k 3)) + 1)) 1 (((upd (upd (upd (upd st 0 ((st 0) ^^^ (shl 1 (nI k)))) 4 (((upd st 0 ((st 0) ^^^ (shl 1 (nI k)))) 4) + 1)) (px k 2) 0) (px k 3) (((upd (upd (upd st 0 ((st 0) ^^^ (shl 1 (nI k)))) 4 (((upd st 0 ((st 0) ^^^ (shl 1 (nI k)))) 4) + 1)) (px k 2) 0) (px k 3)) + 1)) 1) ||| (shl 1 (nI k)))) kp hi sl sv pd td rc pl pt rt bn) := hD
          exact ex_MUv (w2 := (mW G a (upd (upd (upd (upd (upd st 0 ((st 0) ^^^ (shl 1 (nI k)))) 4 (((upd st 0 ((st 0) ^^^ (shl 1 (nI k)))) 4) + 1)) (px k 2) 0) (px k 3) (((upd (upd (upd st 0 ((st 0) ^^^ (shl 1 (nI k)))) 4 (((upd st 0 ((st 0) ^^^ (shl 1 (nI k)))) 4) + 1)) (px k 2) 0) (px k 3)) + 1)) 1 (((upd (upd (upd (upd st 0 ((st 0) ^^^ (shl 1 (nI k)))) 4 (((upd st 0 ((st 0) ^^^ (shl 1 (nI k)))) 4) + 1)) (px k 2) 0) (px k 3) (((upd (upd (upd st 0 ((st 0) ^^^ (shl 1 (nI k)))) 4 (((upd st 0 ((st 0) ^^^ (shl 1 (nI k)))) 4) + 1)) (px k 2) 0) (px k 3)) + 1)) 1) ||| (shl 1 (nI k)))) kp hi sl sv pd td rc pl pt rt bn)) hx hb hr hlocks hP hS dX5_moveRelay_106 (fun h => by have e1 : mmvF k st = upd (upd (upd (upd (upd st 0 ((st 0) ^^^ (shl 1 (nI k)))) 4 (((upd st 0 ((st 0) ^^^ (shl 1 (nI k)))) 4) + 1)) (px k 2) 0) (px k 3) (((upd (upd (upd st 0 ((st 0) ^^^ (shl 1 (nI k)))) 4 (((upd st 0 ((st 0) ^^^ (shl 1 (nI k)))) 4) + 1)) (px k 2) 0) (px k 3)) + 1)) 1 (((upd (upd (upd (upd st 0 ((st 0) ^^^ (shl 1 (nI k)))) 4 (((upd st 0 ((st 0) ^^^ (shl 1 (nI k)))) 4) + 1)) (px k 2) 0) (px k 3) (((upd (upd (upd st 0 ((st 0) ^^^ (shl 1 (nI k)))) 4 (((upd st 0 ((st 0) ^^^ (shl 1 (nI k)))) 4) + 1)) (px k 2) 0) (px k 3)) + 1)) 1) ||| (shl 1 (nI k))) := mmv_y c_39 c_62 c_77; rw [← mmvF_eq k st hL, e1]; exact h)
set_option maxRecDepth 20000 in
theorem hin_X5_tick_X5 : ∀ w ∈ u_ws RX5 TX5 12, w ∈ wsX5_tick := by decide +kernel
theorem lk_X5_tick_7 : Cond.fieldLink RX5 7 "WeldedRelaysModel" "state" "[I" ∈ wsX5_tick := by decide +kernel
set_option maxHeartbeats 4000000 in
set_option maxRecDepth 100000 in
/-- X5_tick -/
theorem c_X5_tick (l : Launch) (G : GG) (a : Nat → Nat) (st : Nat → Int32) (kp : Nat → Int32) (hi : Nat → Int32) (sl : Nat → Int32) (sv : Nat → Int32) (pd : Nat → Int32) (td : Nat → Int32) (rc : Int32) (pl : Int32) (pt : Int32) (rt : Int32) (bn : Int32) (hI : RI st) : Met l yX5_tick wsX5_tick ({ frames := 6, cells := 0, slots := 0, locals := 134 }) (pcM G [.ref (a 0)] (mW G a st kp hi sl sv pd td rc pl pt rt bn)) (qMU G none (mW G a st kp hi sl sv pd td rc pl pt rt bn) (mW G a (tick st) kp hi sl sv pd td rc pl pt rt bn)) 0 0 (aA (mW G a st kp hi sl sv pd td rc pl pt rt bn)) := by
  refine hd_MU (cc := cX5_tick) (maxL := 3) (ret := none) (by decide) rfl (Nat.le_of_ble_eq_true rfl) ?_
  intro p e s m below meth c ls hx hb hr hts hown hlocks hml hP hKK hD hS hl
  have hl : lv_has ls 3 [(0, .ref (a 0))] := hl
  refine lv_aload_n hx hb dX5_tick_0 rfl (lv_at hl 0 rfl) ?_
  refine ro_V (As := []) (rest := []) ⟨hx, hb, hml, hown, hts⟩ (c_X5_wanting l G a st kp hi sl sv pd td rc pl pt rt bn (by assumption)) (cwV 0 hts gX5_tick_X5_wanting rfl rfl rfl (by decide +kernel) ⟨Nat.le_of_ble_eq_true rfl, Nat.le_of_ble_eq_true rfl⟩) hP hKK (va_recv hKK.1 hP (ci := 5) (q0 := 0) rfl rfl) rfl hl.1 rfl (Nat.le_of_ble_eq_true rfl) dX5_tick_1 (Nat.zero_le _) (Nat.zero_le _) ?_
  refine lv_istore_n (lv' := [(1, .int (wan st)), (0, .ref (a 0))]) hx hb dX5_tick_4 rfl hl (by decide) rfl (fun ls hl => ?_)
  refine lv_iconst (v := 0) hx hb dX5_tick_5 (by decide) ?_
  refine lv_istore_n (lv' := [(2, .int 0), (1, .int (wan st)), (0, .ref (a 0))]) hx hb dX5_tick_6 rfl hl (by decide) rfl (fun ls hl => ?_)
  have L_7 : ∀ (n_7 : Nat) (i : Nat), (i ≤ 10) → (10 + 1 ≤ i + n_7) → ∀ (H : Heap) (locs : List Loc), gP G (mW G a (stepN (wan st) i st) kp hi sl sv pd td rc pl pt rt bn) H → va_D (aA (mW G a st kp hi sl sv pd td rc pl pt rt bn)) (mW G a (stepN (wan st) i st) kp hi sl sv pd td rc pl pt rt bn) → va_S (aA (mW G a st kp hi sl sv pd td rc pl pt rt bn)) s.heap H locs → ∀ (ls : Array Slot), lv_has ls 3 [(2, .int (nI i)), (1, .int (wan st)), (0, .ref (a 0))] → W p l e ({ frames := 6, cells := 0, slots := 0, locals := 134 }) s m (List.toArray [.ref (a 0)]) below meth c H locs 0 0 (MQ below (qMU G none (mW G a st kp hi sl sv pd td rc pl pt rt bn) (mW G a (tick st) kp hi sl sv pd td rc pl pt rt bn)) (List.toArray [.ref (a 0)]) s 0 0 (aA (mW G a st kp hi sl sv pd td rc pl pt rt bn))) (F0 m 7 ls []) := by
    intro n_7
    induction n_7 with
    | zero => intro i h1 h2; exact absurd (h2) (by omega)
    | succ n_7 ih_7 =>
      intro i h1 h2 H locs hP hD hS ls hl
      refine lv_iload_n hx hb dX5_tick_7 rfl (lv_at hl 0 rfl) ?_
      refine lv_bipush (v := 10) hx hb dX5_tick_8 (by decide) ?_
      refine lv_icmp_ge (tgt := 90) hx hb dX5_tick_10 (by decide) (fun c_10 => ?_) (fun c_10 => ?_)
      · skip
        have c_10 : 10 ≤ i := (nI_leI (a := 10) (b := i) (by omega) (by omega)).mp c_10
        refine lv_aload_n hx hb dX5_tick_90 rfl (lv_at hl 2 rfl) ?_
        refine va_get (D := gD G) (ci := 5) (v := .ref (a 1)) (C := RX5) (T := TX5) (N := 12) hx hb hts hin_X5_tick_X5 hown hKK.1 hP 0 rfl rfl 0 (by decide) (hts _ lk_X5_tick_7) (fun _ h9 => h9) rfl dX5_tick_91 ?_
        refine lv_iconst (v := 3) hx hb dX5_tick_94 (by decide) ?_
        refine lv_dup2_11 hx hb dX5_tick_95 rfl rfl ?_
        refine va_ialdN (j := 3) (v := (stepN (wan st) i st) 3) hx hb hKK.1 hP 1 0 rfl rfl (rfl) (by omega) (by decide) (rfl) dX5_tick_96 ?_
        refine lv_iconst (v := 1) hx hb dX5_tick_97 (by decide) ?_
        refine lv_iadd hx hb dX5_tick_98 ?_
        refine va_iastN (j := 3) (x := (((stepN (wan st) i st) 3) + 1)) hx hb hKK.1 hP hD hS 1 0 rfl rfl (rfl) (by omega) (by decide) dX5_tick_99 (fun H locs hP hD hS => ?_)
        have hP : gP G (mW G a (upd (stepN (wan st) i st) 3 (((stepN (wan st) i st) 3) + 1)) kp hi sl sv pd td rc pl pt rt bn) H := hP
        have hD : va_D (aA (mW G a st kp hi sl sv pd td rc pl pt rt bn)) (mW G a (upd (stepN (wan st) i st) 3 (((stepN (wan st) i st) 3) + 1)) kp hi sl sv pd td rc pl pt rt bn) := hD
        exact ex_MUv (w2 := (mW G a (upd (stepN (wan st) i st) 3 (((stepN (wan st) i st) 3) + 1)) kp hi sl sv pd td rc pl pt rt bn)) hx hb hr hlocks hP hS dX5_tick_100 (fun h => by rw [show i = 10 by omega, tickM] at h; exact h)
      · skip
        have c_10 : ¬ (10 ≤ i) := fun q => c_10 ((nI_leI (a := 10) (b := i) (by omega) (by omega)).mpr q)
        refine lv_aload_n hx hb dX5_tick_13 rfl (lv_at hl 2 rfl) ?_
        refine lv_iload_n hx hb dX5_tick_14 rfl (lv_at hl 0 rfl) ?_
        refine lv_iconst (v := 2) hx hb dX5_tick_15 (by decide) ?_
        refine lv_iload_n hx hb dX5_tick_16 rfl (lv_at hl 1 rfl) ?_
        refine lv_iload_n hx hb dX5_tick_17 rfl (lv_at hl 0 rfl) ?_
        refine ro_S (As := [.int (wan st), .int (nI i)]) (rest := [.int 2, .int (nI i), .ref (a 0)]) ⟨hx, hb, hml, hown, hts⟩ (c_X5_has l G (wan st) (nI i)) (va_cwS 2 hts gX5_tick_X5_has rfl rfl rfl (by decide +kernel) ⟨Nat.le_of_ble_eq_true rfl, Nat.le_of_ble_eq_true rfl⟩) (show gP G [] _ from fun k q h => by simp at h) hKK rfl hl.1 rfl (Nat.le_of_ble_eq_true rfl) dX5_tick_18 (Nat.zero_le _) (Nat.zero_le _) ?_
        refine lv_if_eq (tgt := 35) hx hb dX5_tick_21 (by decide) (fun c_21 => ?_) (fun c_21 => ?_)
        · skip
          have c_21 := b2i_0 c_21
          refine lv_iconst (v := 0) hx hb dX5_tick_35 (by decide) ?_
          refine mu_V (As := [.int (nI i), .int (nI 2), .int 0]) (rest := []) ⟨hx, hb, hml, hown, hts⟩ (c_X5_setPart l G a (stepN (wan st) i st) kp hi sl sv pd td rc pl pt rt bn i 2 (by omega) (by omega) 0) (cwV 3 hts gX5_tick_X5_setPart rfl rfl rfl (by decide +kernel) ⟨Nat.le_of_ble_eq_true rfl, Nat.le_of_ble_eq_true rfl⟩) hP hKK hD hS (va_recv hKK.1 hP (ci := 5) (q0 := 0) rfl rfl) rfl hl.1 rfl (Nat.le_of_ble_eq_true rfl) dX5_tick_36 (Nat.zero_le _) (Nat.zero_le _) (rfl) (fun H locs hP hD hS => ?_)
          refine lv_iload_n hx hb dX5_tick_39 rfl (lv_at hl 1 rfl) ?_
          refine lv_iload_n hx hb dX5_tick_40 rfl (lv_at hl 0 rfl) ?_
          refine ro_S (As := [.int (wan st), .int (nI i)]) (rest := []) ⟨hx, hb, hml, hown, hts⟩ (c_X5_has l G (wan st) (nI i)) (va_cwS 2 hts gX5_tick_X5_has rfl rfl rfl (by decide +kernel) ⟨Nat.le_of_ble_eq_true rfl, Nat.le_of_ble_eq_true rfl⟩) (show gP G [] _ from fun k q h => by simp at h) hKK rfl hl.1 rfl (Nat.le_of_ble_eq_true rfl) dX5_tick_41 (Nat.zero_le _) (Nat.zero_le _) ?_
          refine lv_if_eq (tgt := 84) hx hb dX5_tick_44 (by decide) (fun c_44 => ?_) (fun c_44 => ?_)
          · skip
            have c_44 := b2i_0 c_44
            have ev_1 : upd (stepN (wan st) i st) (px i 2) 0 = stepN (wan st) (i + 1) st := stp_0 c_44
            have hP : gP G (mW G a (stepN (wan st) (i + 1) st) kp hi sl sv pd td rc pl pt rt bn) H := by rw [← ev_1]; exact hP
            have hD : va_D (aA (mW G a st kp hi sl sv pd td rc pl pt rt bn)) (mW G a (stepN (wan st) (i + 1) st) kp hi sl sv pd td rc pl pt rt bn) := by rw [← ev_1]; exact hD
            refine lv_iinc (v := nI (i + 1)) (lv' := [(2, .int (nI (i + 1))), (1, .int (wan st)), (0, .ref (a 0))]) hx hb dX5_tick_84 hl (k := 0) rfl (nI_1 _) (by decide) rfl (fun ls hl => ?_)
            refine lv_goto (tgt := 7) hx hb dX5_tick_87 (by decide) ?_
            exact ih_7 (i + 1) (by omega) (by omega) _ _ (hP) (hD) hS _ (lv_sub hl [0, 1, 2] rfl)
          · skip
            have c_44 := b2i_1 c_44
            refine lv_aload_n hx hb dX5_tick_47 rfl (lv_at hl 2 rfl) ?_
            refine lv_iload_n hx hb dX5_tick_48 rfl (lv_at hl 0 rfl) ?_
            refine lv_iconst (v := 2) hx hb dX5_tick_49 (by decide) ?_
            refine ro_V (As := [.int (nI i), .int (nI 2)]) (rest := []) ⟨hx, hb, hml, hown, hts⟩ (c_X5_part l G a (upd (stepN (wan st) i st) (px i 2) 0) kp hi sl sv pd td rc pl pt rt bn i 2 (by omega) (by omega)) (cwV 2 hts gX5_tick_X5_part rfl rfl rfl (by decide +kernel) ⟨Nat.le_of_ble_eq_true rfl, Nat.le_of_ble_eq_true rfl⟩) hP hKK (va_recv hKK.1 hP (ci := 5) (q0 := 0) rfl rfl) rfl hl.1 rfl (Nat.le_of_ble_eq_true rfl) dX5_tick_50 (Nat.zero_le _) (Nat.zero_le _) ?_
            refine lv_aload_n hx hb dX5_tick_53 rfl (lv_at hl 2 rfl) ?_
            refine lv_iload_n hx hb dX5_tick_54 rfl (lv_at hl 0 rfl) ?_
            refine lv_aload_n hx hb dX5_tick_55 rfl (lv_at hl 2 rfl) ?_
            refine va_get (D := gD G) (ci := 5) (v := .ref (a 1)) (C := RX5) (T := TX5) (N := 12) hx hb hts hin_X5_tick_X5 hown hKK.1 hP 0 rfl rfl 0 (by decide) (hts _ lk_X5_tick_7) (fun _ h9 => h9) rfl dX5_tick_56 ?_
            refine lv_iconst (v := 0) hx hb dX5_tick_59 (by decide) ?_
            refine va_ialdN (j := 0) (v := (upd (stepN (wan st) i st) (px i 2) 0) 0) hx hb hKK.1 hP 1 0 rfl rfl (rfl) (by omega) (by decide) (rfl) dX5_tick_60 ?_
            refine lv_iload_n hx hb dX5_tick_61 rfl (lv_at hl 0 rfl) ?_
            refine ro_S (As := [.int ((upd (stepN (wan st) i st) (px i 2) 0) 0), .int (nI i)]) (rest := [.int (nI i), .ref (a 0), .int ((upd (stepN (wan st) i st) (px i 2) 0) (px i 2))]) ⟨hx, hb, hml, hown, hts⟩ (c_X5_has l G ((upd (stepN (wan st) i st) (px i 2) 0) 0) (nI i)) (va_cwS 2 hts gX5_tick_X5_has rfl rfl rfl (by decide +kernel) ⟨Nat.le_of_ble_eq_true rfl, Nat.le_of_ble_eq_true rfl⟩) (show gP G [] _ from fun k q h => by simp at h) hKK rfl hl.1 rfl (Nat.le_of_ble_eq_true rfl) dX5_tick_62 (Nat.zero_le _) (Nat.zero_le _) ?_
            refine lv_if_eq (tgt := 72) hx hb dX5_tick_65 (by decide) (fun c_65 => ?_) (fun c_65 => ?_)
            · skip
              have c_65 := b2i_0 c_65
              refine lv_iconst (v := 0) hx hb dX5_tick_72 (by decide) ?_
              refine ro_V (As := [.int (nI i), .int (nI 0)]) (rest := [.int ((upd (stepN (wan st) i st) (px i 2) 0) (px i 2))]) ⟨hx, hb, hml, hown, hts⟩ (c_X5_part l G a (upd (stepN (wan st) i st) (px i 2) 0) kp hi sl sv pd td rc pl pt rt bn i 0 (by omega) (by omega)) (cwV 2 hts gX5_tick_X5_part rfl rfl rfl (by decide +kernel) ⟨Nat.le_of_ble_eq_true rfl, Nat.le_of_ble_eq_true rfl⟩) hP hKK (va_recv hKK.1 hP (ci := 5) (q0 := 0) rfl rfl) rfl hl.1 rfl (Nat.le_of_ble_eq_true rfl) dX5_tick_73 (Nat.zero_le _) (Nat.zero_le _) ?_
              refine lv_icmp_lt (tgt := 84) hx hb dX5_tick_76 (by decide) (fun c_76 => ?_) (fun c_76 => ?_)
              · skip
                have ev_2 : upd (stepN (wan st) i st) (px i 2) 0 = stepN (wan st) (i + 1) st := Bool.noConfusion (c_21.symm.trans c_44)
                have hP : gP G (mW G a (stepN (wan st) (i + 1) st) kp hi sl sv pd td rc pl pt rt bn) H := by rw [← ev_2]; exact hP
                have hD : va_D (aA (mW G a st kp hi sl sv pd td rc pl pt rt bn)) (mW G a (stepN (wan st) (i + 1) st) kp hi sl sv pd td rc pl pt rt bn) := by rw [← ev_2]; exact hD
                refine lv_iinc (v := nI (i + 1)) (lv' := [(2, .int (nI (i + 1))), (1, .int (wan st)), (0, .ref (a 0))]) hx hb dX5_tick_84 hl (k := 0) rfl (nI_1 _) (by decide) rfl (fun ls hl => ?_)
                refine lv_goto (tgt := 7) hx hb dX5_tick_87 (by decide) ?_
                exact ih_7 (i + 1) (by omega) (by omega) _ _ (hP) (hD) hS _ (lv_sub hl [0, 1, 2] rfl)
              · skip
                refine lv_aload_n hx hb dX5_tick_79 rfl (lv_at hl 2 rfl) ?_
                refine lv_iload_n hx hb dX5_tick_80 rfl (lv_at hl 0 rfl) ?_
                refine mu_V (As := [.int (nI i)]) (rest := []) ⟨hx, hb, hml, hown, hts⟩ (c_X5_moveRelay l G a (upd (stepN (wan st) i st) (px i 2) 0) kp hi sl sv pd td rc pl pt rt bn i (by omega) (by rw [upd_o (Ne.symm (px_ne6 (by decide))), stepN_kp (Or.inr (Or.inl rfl))]; exact hI.2)) (cwV 1 hts gX5_tick_X5_moveRelay rfl rfl rfl (by decide +kernel) ⟨Nat.le_of_ble_eq_true rfl, Nat.le_of_ble_eq_true rfl⟩) hP hKK hD hS (va_recv hKK.1 hP (ci := 5) (q0 := 0) rfl rfl) rfl hl.1 rfl (Nat.le_of_ble_eq_true rfl) dX5_tick_81 (Nat.zero_le _) (Nat.zero_le _) (rfl) (fun H locs hP hD hS => ?_)
                have ev_3 : moveF i (upd (stepN (wan st) i st) (px i 2) 0) = stepN (wan st) (i + 1) st := Bool.noConfusion (c_21.symm.trans c_44)
                have hP : gP G (mW G a (stepN (wan st) (i + 1) st) kp hi sl sv pd td rc pl pt rt bn) H := by rw [← ev_3]; exact hP
                have hD : va_D (aA (mW G a st kp hi sl sv pd td rc pl pt rt bn)) (mW G a (stepN (wan st) (i + 1) st) kp hi sl sv pd td rc pl pt rt bn) := by rw [← ev_3]; exact hD
                refine lv_iinc (v := nI (i + 1)) (lv' := [(2, .int (nI (i + 1))), (1, .int (wan st)), (0, .ref (a 0))]) hx hb dX5_tick_84 hl (k := 0) rfl (nI_1 _) (by decide) rfl (fun ls hl => ?_)
                refine lv_goto (tgt := 7) hx hb dX5_tick_87 (by decide) ?_
                exact ih_7 (i + 1) (by omega) (by omega) _ _ (hP) (hD) hS _ (lv_sub hl [0, 1, 2] rfl)
            · skip
              have c_65 := b2i_1 c_65
              refine lv_iconst (v := 1) hx hb dX5_tick_68 (by decide) ?_
              refine lv_goto (tgt := 73) hx hb dX5_tick_69 (by decide) ?_
              refine ro_V (As := [.int (nI i), .int (nI 1)]) (rest := [.int ((upd (stepN (wan st) i st) (px i 2) 0) (px i 2))]) ⟨hx, hb, hml, hown, hts⟩ (c_X5_part l G a (upd (stepN (wan st) i st) (px i 2) 0) kp hi sl sv pd td rc pl pt rt bn i 1 (by omega) (by omega)) (cwV 2 hts gX5_tick_X5_part rfl rfl rfl (by decide +kernel) ⟨Nat.le_of_ble_eq_true rfl, Nat.le_of_ble_eq_true rfl⟩) hP hKK (va_recv hKK.1 hP (ci := 5) (q0 := 0) rfl rfl) rfl hl.1 rfl (Nat.le_of_ble_eq_true rfl) dX5_tick_73 (Nat.zero_le _) (Nat.zero_le _) ?_
              refine lv_icmp_lt (tgt := 84) hx hb dX5_tick_76 (by decide) (fun c_76 => ?_) (fun c_76 => ?_)
              · skip
                have ev_4 : upd (stepN (wan st) i st) (px i 2) 0 = stepN (wan st) (i + 1) st := Bool.noConfusion (c_21.symm.trans c_44)
                have hP : gP G (mW G a (stepN (wan st) (i + 1) st) kp hi sl sv pd td rc pl pt rt bn) H := by rw [← ev_4]; exact hP
                have hD : va_D (aA (mW G a st kp hi sl sv pd td rc pl pt rt bn)) (mW G a (stepN (wan st) (i + 1) st) kp hi sl sv pd td rc pl pt rt bn) := by rw [← ev_4]; exact hD
                refine lv_iinc (v := nI (i + 1)) (lv' := [(2, .int (nI (i + 1))), (1, .int (wan st)), (0, .ref (a 0))]) hx hb dX5_tick_84 hl (k := 0) rfl (nI_1 _) (by decide) rfl (fun ls hl => ?_)
                refine lv_goto (tgt := 7) hx hb dX5_tick_87 (by decide) ?_
                exact ih_7 (i + 1) (by omega) (by omega) _ _ (hP) (hD) hS _ (lv_sub hl [0, 1, 2] rfl)
              · skip
                refine lv_aload_n hx hb dX5_tick_79 rfl (lv_at hl 2 rfl) ?_
                refine lv_iload_n hx hb dX5_tick_80 rfl (lv_at hl 0 rfl) ?_
                refine mu_V (As := [.int (nI i)]) (rest := []) ⟨hx, hb, hml, hown, hts⟩ (c_X5_moveRelay l G a (upd (stepN (wan st) i st) (px i 2) 0) kp hi sl sv pd td rc pl pt rt bn i (by omega) (by rw [upd_o (Ne.symm (px_ne6 (by decide))), stepN_kp (Or.inr (Or.inl rfl))]; exact hI.2)) (cwV 1 hts gX5_tick_X5_moveRelay rfl rfl rfl (by decide +kernel) ⟨Nat.le_of_ble_eq_true rfl, Nat.le_of_ble_eq_true rfl⟩) hP hKK hD hS (va_recv hKK.1 hP (ci := 5) (q0 := 0) rfl rfl) rfl hl.1 rfl (Nat.le_of_ble_eq_true rfl) dX5_tick_81 (Nat.zero_le _) (Nat.zero_le _) (rfl) (fun H locs hP hD hS => ?_)
                have ev_5 : moveF i (upd (stepN (wan st) i st) (px i 2) 0) = stepN (wan st) (i + 1) st := Bool.noConfusion (c_21.symm.trans c_44)
                have hP : gP G (mW G a (stepN (wan st) (i + 1) st) kp hi sl sv pd td rc pl pt rt bn) H := by rw [← ev_5]; exact hP
                have hD : va_D (aA (mW G a st kp hi sl sv pd td rc pl pt rt bn)) (mW G a (stepN (wan st) (i + 1) st) kp hi sl sv pd td rc pl pt rt bn) := by rw [← ev_5]; exact hD
                refine lv_iinc (v := nI (i + 1)) (lv' := [(2, .int (nI (i + 1))), (1, .int (wan st)), (0, .ref (a 0))]) hx hb dX5_tick_84 hl (k := 0) rfl (nI_1 _) (by decide) rfl (fun ls hl => ?_)
                refine lv_goto (tgt := 7) hx hb dX5_tick_87 (by decide) ?_
                exact ih_7 (i + 1) (by omega) (by omega) _ _ (hP) (hD) hS _ (lv_sub hl [0, 1, 2] rfl)
        · skip
          have c_21 := b2i_1 c_21
          refine lv_aload_n hx hb dX5_tick_24 rfl (lv_at hl 2 rfl) ?_
          refine lv_iload_n hx hb dX5_tick_25 rfl (lv_at hl 0 rfl) ?_
          refine lv_iconst (v := 2) hx hb dX5_tick_26 (by decide) ?_
          refine ro_V (As := [.int (nI i), .int (nI 2)]) (rest := [.int 2, .int (nI i), .ref (a 0)]) ⟨hx, hb, hml, hown, hts⟩ (c_X5_part l G a (stepN (wan st) i st) kp hi sl sv pd td rc pl pt rt bn i 2 (by omega) (by omega)) (cwV 2 hts gX5_tick_X5_part rfl rfl rfl (by decide +kernel) ⟨Nat.le_of_ble_eq_true rfl, Nat.le_of_ble_eq_true rfl⟩) hP hKK (va_recv hKK.1 hP (ci := 5) (q0 := 0) rfl rfl) rfl hl.1 rfl (Nat.le_of_ble_eq_true rfl) dX5_tick_27 (Nat.zero_le _) (Nat.zero_le _) ?_
          refine lv_iconst (v := 1) hx hb dX5_tick_30 (by decide) ?_
          refine lv_iadd hx hb dX5_tick_31 ?_
          refine lv_goto (tgt := 36) hx hb dX5_tick_32 (by decide) ?_
          refine mu_V (As := [.int (nI i), .int (nI 2), .int (((stepN (wan st) i st) (px i 2)) + 1)]) (rest := []) ⟨hx, hb, hml, hown, hts⟩ (c_X5_setPart l G a (stepN (wan st) i st) kp hi sl sv pd td rc pl pt rt bn i 2 (by omega) (by omega) (((stepN (wan st) i st) (px i 2)) + 1)) (cwV 3 hts gX5_tick_X5_setPart rfl rfl rfl (by decide +kernel) ⟨Nat.le_of_ble_eq_true rfl, Nat.le_of_ble_eq_true rfl⟩) hP hKK hD hS (va_recv hKK.1 hP (ci := 5) (q0 := 0) rfl rfl) rfl hl.1 rfl (Nat.le_of_ble_eq_true rfl) dX5_tick_36 (Nat.zero_le _) (Nat.zero_le _) (rfl) (fun H locs hP hD hS => ?_)
          refine lv_iload_n hx hb dX5_tick_39 rfl (lv_at hl 1 rfl) ?_
          refine lv_iload_n hx hb dX5_tick_40 rfl (lv_at hl 0 rfl) ?_
          refine ro_S (As := [.int (wan st), .int (nI i)]) (rest := []) ⟨hx, hb, hml, hown, hts⟩ (c_X5_has l G (wan st) (nI i)) (va_cwS 2 hts gX5_tick_X5_has rfl rfl rfl (by decide +kernel) ⟨Nat.le_of_ble_eq_true rfl, Nat.le_of_ble_eq_true rfl⟩) (show gP G [] _ from fun k q h => by simp at h) hKK rfl hl.1 rfl (Nat.le_of_ble_eq_true rfl) dX5_tick_41 (Nat.zero_le _) (Nat.zero_le _) ?_
          refine lv_if_eq (tgt := 84) hx hb dX5_tick_44 (by decide) (fun c_44 => ?_) (fun c_44 => ?_)
          · skip
            have c_44 := b2i_0 c_44
            have ev_6 : upd (stepN (wan st) i st) (px i 2) (((stepN (wan st) i st) (px i 2)) + 1) = stepN (wan st) (i + 1) st := Bool.noConfusion (c_44.symm.trans c_21)
            have hP : gP G (mW G a (stepN (wan st) (i + 1) st) kp hi sl sv pd td rc pl pt rt bn) H := by rw [← ev_6]; exact hP
            have hD : va_D (aA (mW G a st kp hi sl sv pd td rc pl pt rt bn)) (mW G a (stepN (wan st) (i + 1) st) kp hi sl sv pd td rc pl pt rt bn) := by rw [← ev_6]; exact hD
            refine lv_iinc (v := nI (i + 1)) (lv' := [(2, .int (nI (i + 1))), (1, .int (wan st)), (0, .ref (a 0))]) hx hb dX5_tick_84 hl (k := 0) rfl (nI_1 _) (by decide) rfl (fun ls hl => ?_)
            refine lv_goto (tgt := 7) hx hb dX5_tick_87 (by decide) ?_
            exact ih_7 (i + 1) (by omega) (by omega) _ _ (hP) (hD) hS _ (lv_sub hl [0, 1, 2] rfl)
          · skip
            have c_44 := b2i_1 c_44
            refine lv_aload_n hx hb dX5_tick_47 rfl (lv_at hl 2 rfl) ?_
            refine lv_iload_n hx hb dX5_tick_48 rfl (lv_at hl 0 rfl) ?_
            refine lv_iconst (v := 2) hx hb dX5_tick_49 (by decide) ?_
            refine ro_V (As := [.int (nI i), .int (nI 2)]) (rest := []) ⟨hx, hb, hml, hown, hts⟩ (c_X5_part l G a (upd (stepN (wan st) i st) (px i 2) (((stepN (wan st) i st) (px i 2)) + 1)) kp hi sl sv pd td rc pl pt rt bn i 2 (by omega) (by omega)) (cwV 2 hts gX5_tick_X5_part rfl rfl rfl (by decide +kernel) ⟨Nat.le_of_ble_eq_true rfl, Nat.le_of_ble_eq_true rfl⟩) hP hKK (va_recv hKK.1 hP (ci := 5) (q0 := 0) rfl rfl) rfl hl.1 rfl (Nat.le_of_ble_eq_true rfl) dX5_tick_50 (Nat.zero_le _) (Nat.zero_le _) ?_
            refine lv_aload_n hx hb dX5_tick_53 rfl (lv_at hl 2 rfl) ?_
            refine lv_iload_n hx hb dX5_tick_54 rfl (lv_at hl 0 rfl) ?_
            refine lv_aload_n hx hb dX5_tick_55 rfl (lv_at hl 2 rfl) ?_
            refine va_get (D := gD G) (ci := 5) (v := .ref (a 1)) (C := RX5) (T := TX5) (N := 12) hx hb hts hin_X5_tick_X5 hown hKK.1 hP 0 rfl rfl 0 (by decide) (hts _ lk_X5_tick_7) (fun _ h9 => h9) rfl dX5_tick_56 ?_
            refine lv_iconst (v := 0) hx hb dX5_tick_59 (by decide) ?_
            refine va_ialdN (j := 0) (v := (upd (stepN (wan st) i st) (px i 2) (((stepN (wan st) i st) (px i 2)) + 1)) 0) hx hb hKK.1 hP 1 0 rfl rfl (rfl) (by omega) (by decide) (rfl) dX5_tick_60 ?_
            refine lv_iload_n hx hb dX5_tick_61 rfl (lv_at hl 0 rfl) ?_
            refine ro_S (As := [.int ((upd (stepN (wan st) i st) (px i 2) (((stepN (wan st) i st) (px i 2)) + 1)) 0), .int (nI i)]) (rest := [.int (nI i), .ref (a 0), .int ((upd (stepN (wan st) i st) (px i 2) (((stepN (wan st) i st) (px i 2)) + 1)) (px i 2))]) ⟨hx, hb, hml, hown, hts⟩ (c_X5_has l G ((upd (stepN (wan st) i st) (px i 2) (((stepN (wan st) i st) (px i 2)) + 1)) 0) (nI i)) (va_cwS 2 hts gX5_tick_X5_has rfl rfl rfl (by decide +kernel) ⟨Nat.le_of_ble_eq_true rfl, Nat.le_of_ble_eq_true rfl⟩) (show gP G [] _ from fun k q h => by simp at h) hKK rfl hl.1 rfl (Nat.le_of_ble_eq_true rfl) dX5_tick_62 (Nat.zero_le _) (Nat.zero_le _) ?_
            refine lv_if_eq (tgt := 72) hx hb dX5_tick_65 (by decide) (fun c_65 => ?_) (fun c_65 => ?_)
            · skip
              have c_65 := b2i_0 c_65
              refine lv_iconst (v := 0) hx hb dX5_tick_72 (by decide) ?_
              refine ro_V (As := [.int (nI i), .int (nI 0)]) (rest := [.int ((upd (stepN (wan st) i st) (px i 2) (((stepN (wan st) i st) (px i 2)) + 1)) (px i 2))]) ⟨hx, hb, hml, hown, hts⟩ (c_X5_part l G a (upd (stepN (wan st) i st) (px i 2) (((stepN (wan st) i st) (px i 2)) + 1)) kp hi sl sv pd td rc pl pt rt bn i 0 (by omega) (by omega)) (cwV 2 hts gX5_tick_X5_part rfl rfl rfl (by decide +kernel) ⟨Nat.le_of_ble_eq_true rfl, Nat.le_of_ble_eq_true rfl⟩) hP hKK (va_recv hKK.1 hP (ci := 5) (q0 := 0) rfl rfl) rfl hl.1 rfl (Nat.le_of_ble_eq_true rfl) dX5_tick_73 (Nat.zero_le _) (Nat.zero_le _) ?_
              refine lv_icmp_lt (tgt := 84) hx hb dX5_tick_76 (by decide) (fun c_76 => ?_) (fun c_76 => ?_)
              · skip
                have ev_7 : upd (stepN (wan st) i st) (px i 2) (((stepN (wan st) i st) (px i 2)) + 1) = stepN (wan st) (i + 1) st := stp_n c_44 (tmF_f c_65) c_76
                have hP : gP G (mW G a (stepN (wan st) (i + 1) st) kp hi sl sv pd td rc pl pt rt bn) H := by rw [← ev_7]; exact hP
                have hD : va_D (aA (mW G a st kp hi sl sv pd td rc pl pt rt bn)) (mW G a (stepN (wan st) (i + 1) st) kp hi sl sv pd td rc pl pt rt bn) := by rw [← ev_7]; exact hD
                refine lv_iinc (v := nI (i + 1)) (lv' := [(2, .int (nI (i + 1))), (1, .int (wan st)), (0, .ref (a 0))]) hx hb dX5_tick_84 hl (k := 0) rfl (nI_1 _) (by decide) rfl (fun ls hl => ?_)
                refine lv_goto (tgt := 7) hx hb dX5_tick_87 (by decide) ?_
                exact ih_7 (i + 1) (by omega) (by omega) _ _ (hP) (hD) hS _ (lv_sub hl [0, 1, 2] rfl)
              · skip
                refine lv_aload_n hx hb dX5_tick_79 rfl (lv_at hl 2 rfl) ?_
                refine lv_iload_n hx hb dX5_tick_80 rfl (lv_at hl 0 rfl) ?_
                refine mu_V (As := [.int (nI i)]) (rest := []) ⟨hx, hb, hml, hown, hts⟩ (c_X5_moveRelay l G a (upd (stepN (wan st) i st) (px i 2) (((stepN (wan st) i st) (px i 2)) + 1)) kp hi sl sv pd td rc pl pt rt bn i (by omega) (by rw [upd_o (Ne.symm (px_ne6 (by decide))), stepN_kp (Or.inr (Or.inl rfl))]; exact hI.2)) (cwV 1 hts gX5_tick_X5_moveRelay rfl rfl rfl (by decide +kernel) ⟨Nat.le_of_ble_eq_true rfl, Nat.le_of_ble_eq_true rfl⟩) hP hKK hD hS (va_recv hKK.1 hP (ci := 5) (q0 := 0) rfl rfl) rfl hl.1 rfl (Nat.le_of_ble_eq_true rfl) dX5_tick_81 (Nat.zero_le _) (Nat.zero_le _) (rfl) (fun H locs hP hD hS => ?_)
                have ev_8 : moveF i (upd (stepN (wan st) i st) (px i 2) (((stepN (wan st) i st) (px i 2)) + 1)) = stepN (wan st) (i + 1) st := stp_m c_44 (tmF_f c_65) c_76
                have hP : gP G (mW G a (stepN (wan st) (i + 1) st) kp hi sl sv pd td rc pl pt rt bn) H := by rw [← ev_8]; exact hP
                have hD : va_D (aA (mW G a st kp hi sl sv pd td rc pl pt rt bn)) (mW G a (stepN (wan st) (i + 1) st) kp hi sl sv pd td rc pl pt rt bn) := by rw [← ev_8]; exact hD
                refine lv_iinc (v := nI (i + 1)) (lv' := [(2, .int (nI (i + 1))), (1, .int (wan st)), (0, .ref (a 0))]) hx hb dX5_tick_84 hl (k := 0) rfl (nI_1 _) (by decide) rfl (fun ls hl => ?_)
                refine lv_goto (tgt := 7) hx hb dX5_tick_87 (by decide) ?_
                exact ih_7 (i + 1) (by omega) (by omega) _ _ (hP) (hD) hS _ (lv_sub hl [0, 1, 2] rfl)
            · skip
              have c_65 := b2i_1 c_65
              refine lv_iconst (v := 1) hx hb dX5_tick_68 (by decide) ?_
              refine lv_goto (tgt := 73) hx hb dX5_tick_69 (by decide) ?_
              refine ro_V (As := [.int (nI i), .int (nI 1)]) (rest := [.int ((upd (stepN (wan st) i st) (px i 2) (((stepN (wan st) i st) (px i 2)) + 1)) (px i 2))]) ⟨hx, hb, hml, hown, hts⟩ (c_X5_part l G a (upd (stepN (wan st) i st) (px i 2) (((stepN (wan st) i st) (px i 2)) + 1)) kp hi sl sv pd td rc pl pt rt bn i 1 (by omega) (by omega)) (cwV 2 hts gX5_tick_X5_part rfl rfl rfl (by decide +kernel) ⟨Nat.le_of_ble_eq_true rfl, Nat.le_of_ble_eq_true rfl⟩) hP hKK (va_recv hKK.1 hP (ci := 5) (q0 := 0) rfl rfl) rfl hl.1 rfl (Nat.le_of_ble_eq_true rfl) dX5_tick_73 (Nat.zero_le _) (Nat.zero_le _) ?_
              refine lv_icmp_lt (tgt := 84) hx hb dX5_tick_76 (by decide) (fun c_76 => ?_) (fun c_76 => ?_)
              · skip
                have ev_9 : upd (stepN (wan st) i st) (px i 2) (((stepN (wan st) i st) (px i 2)) + 1) = stepN (wan st) (i + 1) st := stp_n c_44 (tmF_t c_65) c_76
                have hP : gP G (mW G a (stepN (wan st) (i + 1) st) kp hi sl sv pd td rc pl pt rt bn) H := by rw [← ev_9]; exact hP
                have hD : va_D (aA (mW G a st kp hi sl sv pd td rc pl pt rt bn)) (mW G a (stepN (wan st) (i + 1) st) kp hi sl sv pd td rc pl pt rt bn) := by rw [← ev_9]; exact hD
                refine lv_iinc (v := nI (i + 1)) (lv' := [(2, .int (nI (i + 1))), (1, .int (wan st)), (0, .ref (a 0))]) hx hb dX5_tick_84 hl (k := 0) rfl (nI_1 _) (by decide) rfl (fun ls hl => ?_)
                refine lv_goto (tgt := 7) hx hb dX5_tick_87 (by decide) ?_
                exact ih_7 (i + 1) (by omega) (by omega) _ _ (hP) (hD) hS _ (lv_sub hl [0, 1, 2] rfl)
              · skip
                refine lv_aload_n hx hb dX5_tick_79 rfl (lv_at hl 2 rfl) ?_
                refine lv_iload_n hx hb dX5_tick_80 rfl (lv_at hl 0 rfl) ?_
                refine mu_V (As := [.int (nI i)]) (rest := []) ⟨hx, hb, hml, hown, hts⟩ (c_X5_moveRelay l G a (upd (stepN (wan st) i st) (px i 2) (((stepN (wan st) i st) (px i 2)) + 1)) kp hi sl sv pd td rc pl pt rt bn i (by omega) (by rw [upd_o (Ne.symm (px_ne6 (by decide))), stepN_kp (Or.inr (Or.inl rfl))]; exact hI.2)) (cwV 1 hts gX5_tick_X5_moveRelay rfl rfl rfl (by decide +kernel) ⟨Nat.le_of_ble_eq_true rfl, Nat.le_of_ble_eq_true rfl⟩) hP hKK hD hS (va_recv hKK.1 hP (ci := 5) (q0 := 0) rfl rfl) rfl hl.1 rfl (Nat.le_of_ble_eq_true rfl) dX5_tick_81 (Nat.zero_le _) (Nat.zero_le _) (rfl) (fun H locs hP hD hS => ?_)
                have ev_10 : moveF i (upd (stepN (wan st) i st) (px i 2) (((stepN (wan st) i st) (px i 2)) + 1)) = stepN (wan st) (i + 1) st := stp_m c_44 (tmF_t c_65) c_76
                have hP : gP G (mW G a (stepN (wan st) (i + 1) st) kp hi sl sv pd td rc pl pt rt bn) H := by rw [← ev_10]; exact hP
                have hD : va_D (aA (mW G a st kp hi sl sv pd td rc pl pt rt bn)) (mW G a (stepN (wan st) (i + 1) st) kp hi sl sv pd td rc pl pt rt bn) := by rw [← ev_10]; exact hD
                refine lv_iinc (v := nI (i + 1)) (lv' := [(2, .int (nI (i + 1))), (1, .int (wan st)), (0, .ref (a 0))]) hx hb dX5_tick_84 hl (k := 0) rfl (nI_1 _) (by decide) rfl (fun ls hl => ?_)
                refine lv_goto (tgt := 7) hx hb dX5_tick_87 (by decide) ?_
                exact ih_7 (i + 1) (by omega) (by omega) _ _ (hP) (hD) hS _ (lv_sub hl [0, 1, 2] rfl)
  exact L_7 (10 + 1) 0 (by omega) (by omega) _ _ (hP) (hD) hS _ (lv_sub hl [0, 1, 2] rfl)
set_option maxHeartbeats 4000000 in
set_option maxRecDepth 100000 in
/-- X5_settles -/
theorem c_X5_settles (l : Launch) (G : GG) (a : Nat → Nat) (st : Nat → Int32) (kp : Nat → Int32) (hi : Nat → Int32) (sl : Nat → Int32) (sv : Nat → Int32) (pd : Nat → Int32) (td : Nat → Int32) (rc : Int32) (pl : Int32) (pt : Int32) (rt : Int32) (bn : Int32) (hI : RI st) : Met l yX5_settles wsX5_settles ({ frames := 7, cells := 0, slots := 0, locals := 156 }) (pcM G [.ref (a 0)] (mW G a st kp hi sl sv pd td rc pl pt rt bn)) (qMU G (some (.int (nI (stlC 200 st)))) (mW G a st kp hi sl sv pd td rc pl pt rt bn) (mW G a (stlV 200 st) kp hi sl sv pd td rc pl pt rt bn)) 0 0 (aA (mW G a st kp hi sl sv pd td rc pl pt rt bn)) := by
  refine hd_MU (cc := cX5_settles) (maxL := 2) (ret := some .int) (by decide) rfl (Nat.le_of_ble_eq_true rfl) ?_
  intro p e s m below meth c ls hx hb hr hts hown hlocks hml hP hKK hD hS hl
  have hl : lv_has ls 2 [(0, .ref (a 0))] := hl
  refine lv_iconst (v := 0) hx hb dX5_settles_0 (by decide) ?_
  refine lv_istore_n (lv' := [(1, .int 0), (0, .ref (a 0))]) hx hb dX5_settles_1 rfl hl (by decide) rfl (fun ls hl => ?_)
  have L_2 : ∀ (n_2 : Nat) (i : Nat), (i ≤ 200) → (200 + 1 ≤ i + n_2) → (∀ j, j < i → wan (tickN j st) ≠ 0) → ∀ (H : Heap) (locs : List Loc), gP G (mW G a (tickN i st) kp hi sl sv pd td rc pl pt rt bn) H → va_D (aA (mW G a st kp hi sl sv pd td rc pl pt rt bn)) (mW G a (tickN i st) kp hi sl sv pd td rc pl pt rt bn) → va_S (aA (mW G a st kp hi sl sv pd td rc pl pt rt bn)) s.heap H locs → ∀ (ls : Array Slot), lv_has ls 2 [(1, .int (nI i)), (0, .ref (a 0))] → W p l e ({ frames := 7, cells := 0, slots := 0, locals := 156 }) s m (List.toArray [.ref (a 0)]) below meth c H locs 0 0 (MQ below (qMU G (some (.int (nI (stlC 200 st)))) (mW G a st kp hi sl sv pd td rc pl pt rt bn) (mW G a (stlV 200 st) kp hi sl sv pd td rc pl pt rt bn)) (List.toArray [.ref (a 0)]) s 0 0 (aA (mW G a st kp hi sl sv pd td rc pl pt rt bn))) (F0 m 2 ls []) := by
    intro n_2
    induction n_2 with
    | zero => intro i h1 h2 h3; exact absurd (h2) (by omega)
    | succ n_2 ih_2 =>
      intro i h1 h2 h3 H locs hP hD hS ls hl
      refine lv_iload_n hx hb dX5_settles_2 rfl (lv_at hl 0 rfl) ?_
      refine lv_sipush (v := 200) hx hb dX5_settles_3 (by decide) ?_
      refine lv_icmp_ge (tgt := 26) hx hb dX5_settles_6 (by decide) (fun c_6 => ?_) (fun c_6 => ?_)
      · skip
        have c_6 : 200 ≤ i := (nI_leI (a := 200) (b := i) (by omega) (by omega)).mp c_6
        refine lv_iload_n hx hb dX5_settles_26 rfl (lv_at hl 0 rfl) ?_
        exact ex_MUi (w2 := (mW G a (tickN i st) kp hi sl sv pd td rc pl pt rt bn)) hx hb hr hlocks hP hS dX5_settles_27 (by rw [(stl_stop h3 h1 (by first | (left; omega) | (right; assumption))).1]) (fun h => by rw [(stl_stop h3 h1 (by first | (left; omega) | (right; assumption))).2]; exact h)
      · skip
        have c_6 : ¬ (200 ≤ i) := fun q => c_6 ((nI_leI (a := 200) (b := i) (by omega) (by omega)).mpr q)
        refine lv_aload_n hx hb dX5_settles_9 rfl (lv_at hl 1 rfl) ?_
        refine ro_V (As := []) (rest := []) ⟨hx, hb, hml, hown, hts⟩ (c_X5_wanting l G a (tickN i st) kp hi sl sv pd td rc pl pt rt bn (tickN_RI hI i)) (cwV 0 hts gX5_settles_X5_wanting rfl rfl rfl (by decide +kernel) ⟨Nat.le_of_ble_eq_true rfl, Nat.le_of_ble_eq_true rfl⟩) hP hKK (va_recv hKK.1 hP (ci := 5) (q0 := 0) rfl rfl) rfl hl.1 rfl (Nat.le_of_ble_eq_true rfl) dX5_settles_10 (Nat.zero_le _) (Nat.zero_le _) ?_
        refine lv_if_eq (tgt := 26) hx hb dX5_settles_13 (by decide) (fun c_13 => ?_) (fun c_13 => ?_)
        · skip
          refine lv_iload_n hx hb dX5_settles_26 rfl (lv_at hl 0 rfl) ?_
          exact ex_MUi (w2 := (mW G a (tickN i st) kp hi sl sv pd td rc pl pt rt bn)) hx hb hr hlocks hP hS dX5_settles_27 (by rw [(stl_stop h3 h1 (by first | (left; omega) | (right; assumption))).1]) (fun h => by rw [(stl_stop h3 h1 (by first | (left; omega) | (right; assumption))).2]; exact h)
        · skip
          refine lv_aload_n hx hb dX5_settles_16 rfl (lv_at hl 1 rfl) ?_
          refine mu_V (As := []) (rest := []) ⟨hx, hb, hml, hown, hts⟩ (c_X5_tick l G a (tickN i st) kp hi sl sv pd td rc pl pt rt bn (tickN_RI hI i)) (cwV 0 hts gX5_settles_X5_tick rfl rfl rfl (by decide +kernel) ⟨Nat.le_of_ble_eq_true rfl, Nat.le_of_ble_eq_true rfl⟩) hP hKK hD hS (va_recv hKK.1 hP (ci := 5) (q0 := 0) rfl rfl) rfl hl.1 rfl (Nat.le_of_ble_eq_true rfl) dX5_settles_17 (Nat.zero_le _) (Nat.zero_le _) (rfl) (fun H locs hP hD hS => ?_)
          refine lv_iinc (v := nI (i + 1)) (lv' := [(1, .int (nI (i + 1))), (0, .ref (a 0))]) hx hb dX5_settles_20 hl (k := 0) rfl (nI_1 _) (by decide) rfl (fun ls hl => ?_)
          refine lv_goto (tgt := 2) hx hb dX5_settles_23 (by decide) ?_
          exact ih_2 (i + 1) (by omega) (by omega) (fun j hj => by rcases Nat.lt_succ_iff_lt_or_eq.mp hj with h | h; exact h3 j h; subst h; assumption) _ _ (hP) (hD) hS _ (lv_sub hl [0, 1] rfl)
  exact L_2 (200 + 1) 0 (by omega) (by omega) (fun j hj => by omega) _ _ (hP) (hD) hS _ (lv_sub hl [0, 1] rfl)
set_option maxRecDepth 20000 in
theorem hin_X5_passes_X5 : ∀ w ∈ u_ws RX5 TX5 12, w ∈ wsX5_passes := by decide +kernel
theorem lk_X5_passes_7 : Cond.fieldLink RX5 7 "WeldedRelaysModel" "state" "[I" ∈ wsX5_passes := by decide +kernel
set_option maxHeartbeats 4000000 in
set_option maxRecDepth 100000 in
/-- X5_passes -/
theorem c_X5_passes (l : Launch) (G : GG) (a : Nat → Nat) (st : Nat → Int32) (kp : Nat → Int32) (hi : Nat → Int32) (sl : Nat → Int32) (sv : Nat → Int32) (pd : Nat → Int32) (td : Nat → Int32) (rc : Int32) (pl : Int32) (pt : Int32) (rt : Int32) (bn : Int32) (k : Nat) (hk : k ≤ 200) (hI : RI st) : Met l yX5_passes wsX5_passes ({ frames := 7, cells := 0, slots := 0, locals := 156 }) (pcM G [.ref (a 0), .int (nI k)] (mW G a st kp hi sl sv pd td rc pl pt rt bn)) (qMU G (some (.int (tickN k st 4 - st 4))) (mW G a st kp hi sl sv pd td rc pl pt rt bn) (mW G a (tickN k st) kp hi sl sv pd td rc pl pt rt bn)) 0 0 (aA (mW G a st kp hi sl sv pd td rc pl pt rt bn)) := by
  refine hd_MU (cc := cX5_passes) (maxL := 4) (ret := some .int) (by decide) rfl (Nat.le_of_ble_eq_true rfl) ?_
  intro p e s m below meth c ls hx hb hr hts hown hlocks hml hP hKK hD hS hl
  have hl : lv_has ls 4 [(0, .ref (a 0)), (1, .int (nI k))] := hl
  refine lv_aload_n hx hb dX5_passes_0 rfl (lv_at hl 0 rfl) ?_
  refine va_get (D := gD G) (ci := 5) (v := .ref (a 1)) (C := RX5) (T := TX5) (N := 12) hx hb hts hin_X5_passes_X5 hown hKK.1 hP 0 rfl rfl 0 (by decide) (hts _ lk_X5_passes_7) (fun _ h9 => h9) rfl dX5_passes_1 ?_
  refine lv_iconst (v := 4) hx hb dX5_passes_4 (by decide) ?_
  refine va_ialdN (j := 4) (v := st 4) hx hb hKK.1 hP 1 0 rfl rfl (rfl) (by omega) (by decide) (rfl) dX5_passes_5 ?_
  refine lv_istore_n (lv' := [(2, .int (st 4)), (0, .ref (a 0)), (1, .int (nI k))]) hx hb dX5_passes_6 rfl hl (by decide) rfl (fun ls hl => ?_)
  refine lv_iconst (v := 0) hx hb dX5_passes_7 (by decide) ?_
  refine lv_istore_n (lv' := [(3, .int 0), (2, .int (st 4)), (0, .ref (a 0)), (1, .int (nI k))]) hx hb dX5_passes_8 rfl hl (by decide) rfl (fun ls hl => ?_)
  have L_9 : ∀ (n_9 : Nat) (i : Nat), (i ≤ k) → (k + 1 ≤ i + n_9) → ∀ (H : Heap) (locs : List Loc), gP G (mW G a (tickN i st) kp hi sl sv pd td rc pl pt rt bn) H → va_D (aA (mW G a st kp hi sl sv pd td rc pl pt rt bn)) (mW G a (tickN i st) kp hi sl sv pd td rc pl pt rt bn) → va_S (aA (mW G a st kp hi sl sv pd td rc pl pt rt bn)) s.heap H locs → ∀ (ls : Array Slot), lv_has ls 4 [(3, .int (nI i)), (2, .int (st 4)), (0, .ref (a 0)), (1, .int (nI k))] → W p l e ({ frames := 7, cells := 0, slots := 0, locals := 156 }) s m (List.toArray [.ref (a 0), .int (nI k)]) below meth c H locs 0 0 (MQ below (qMU G (some (.int (tickN k st 4 - st 4))) (mW G a st kp hi sl sv pd td rc pl pt rt bn) (mW G a (tickN k st) kp hi sl sv pd td rc pl pt rt bn)) (List.toArray [.ref (a 0), .int (nI k)]) s 0 0 (aA (mW G a st kp hi sl sv pd td rc pl pt rt bn))) (F0 m 9 ls []) := by
    intro n_9
    induction n_9 with
    | zero => intro i h1 h2; exact absurd (h2) (by omega)
    | succ n_9 ih_9 =>
      intro i h1 h2 H locs hP hD hS ls hl
      refine lv_iload_n hx hb dX5_passes_9 rfl (lv_at hl 0 rfl) ?_
      refine lv_iload_n hx hb dX5_passes_10 rfl (lv_at hl 3 rfl) ?_
      refine lv_icmp_ge (tgt := 24) hx hb dX5_passes_11 (by decide) (fun c_11 => ?_) (fun c_11 => ?_)
      · skip
        have c_11 : k ≤ i := (nI_leI (a := k) (b := i) (by omega) (by omega)).mp c_11
        have hik : i = k := by omega
        subst hik
        refine lv_aload_n hx hb dX5_passes_24 rfl (lv_at hl 2 rfl) ?_
        refine va_get (D := gD G) (ci := 5) (v := .ref (a 1)) (C := RX5) (T := TX5) (N := 12) hx hb hts hin_X5_passes_X5 hown hKK.1 hP 0 rfl rfl 0 (by decide) (hts _ lk_X5_passes_7) (fun _ h9 => h9) rfl dX5_passes_25 ?_
        refine lv_iconst (v := 4) hx hb dX5_passes_28 (by decide) ?_
        refine va_ialdN (j := 4) (v := (tickN i st) 4) hx hb hKK.1 hP 1 0 rfl rfl (rfl) (by omega) (by decide) (rfl) dX5_passes_29 ?_
        refine lv_iload_n hx hb dX5_passes_30 rfl (lv_at hl 1 rfl) ?_
        refine lv_isub hx hb dX5_passes_31 ?_
        exact ex_MUi (w2 := (mW G a (tickN i st) kp hi sl sv pd td rc pl pt rt bn)) hx hb hr hlocks hP hS dX5_passes_32 (rfl) (fun h => h)
      · skip
        have c_11 : ¬ (k ≤ i) := fun q => c_11 ((nI_leI (a := k) (b := i) (by omega) (by omega)).mpr q)
        refine lv_aload_n hx hb dX5_passes_14 rfl (lv_at hl 2 rfl) ?_
        refine mu_V (As := []) (rest := []) ⟨hx, hb, hml, hown, hts⟩ (c_X5_tick l G a (tickN i st) kp hi sl sv pd td rc pl pt rt bn (tickN_RI hI i)) (cwV 0 hts gX5_passes_X5_tick rfl rfl rfl (by decide +kernel) ⟨Nat.le_of_ble_eq_true rfl, Nat.le_of_ble_eq_true rfl⟩) hP hKK hD hS (va_recv hKK.1 hP (ci := 5) (q0 := 0) rfl rfl) rfl hl.1 rfl (Nat.le_of_ble_eq_true rfl) dX5_passes_15 (Nat.zero_le _) (Nat.zero_le _) (rfl) (fun H locs hP hD hS => ?_)
        refine lv_iinc (v := nI (i + 1)) (lv' := [(3, .int (nI (i + 1))), (2, .int (st 4)), (0, .ref (a 0)), (1, .int (nI k))]) hx hb dX5_passes_18 hl (k := 0) rfl (nI_1 _) (by decide) rfl (fun ls hl => ?_)
        refine lv_goto (tgt := 9) hx hb dX5_passes_21 (by decide) ?_
        exact ih_9 (i + 1) (by omega) (by omega) _ _ (hP) (hD) hS _ (lv_sub hl [0, 1, 2, 3] rfl)
  exact L_9 (k + 1) 0 (by omega) (by omega) _ _ (hP) (hD) hS _ (lv_sub hl [0, 1, 2, 3] rfl)
