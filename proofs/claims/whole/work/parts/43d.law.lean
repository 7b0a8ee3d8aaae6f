/-! THE LAW, its calls 12 to 16 -/
set_option maxHeartbeats 4000000 in
set_option maxRecDepth 100000 in
/-- the law's call 12: race -/
theorem lawc_12 {p : Program} {l : Launch} {e : Env} {s : State} {m : MethodId} {below : List Frame} {meth : Method} {c : Code} {b L : Nat} {xs : Nat → Int32} {G : GG} {oa ra ta ad qa ha a : Nat → Nat} {B S : Nat → Nat → Nat} {Q : State → Prop} {cells slots : Nat} (Z : LZ p s m c b L xs G) {i : Nat} (hi : i + 4 ≤ L) (hL : L ≤ 2048) {H : Heap} {locs : List Loc} {ls : Array Slot} (hI : LI G oa ra ta ad qa ha a B S (lA s) H) (hS : va_S (lA s) s.heap H locs) (hl : lv_has ls 4 [(0, .ref b), (1, .ref (oa 0)), (2, .ref (a 0)), (3, .int (nI i))]) (hc : cells ≤ room_1.cells) (hs : slots ≤ room_1.slots)
    (kk : ∀ (H : Heap) (locs : List Loc), LI G oa ra ta ad qa ha a B S (lA s) H → va_S (lA s) s.heap H locs → W p l e room_1 s m #[Value.ref b] below meth c H locs cells slots Q (F0 m 770 ls [])) : W p l e room_1 s m #[Value.ref b] below meth c H locs cells slots Q (F0 m 530 ls []) := by
  obtain ⟨hx, hb, hml, hown, hts, hX, hbl, hKK⟩ := Z
  have hbA : ¬ lA s b := Nat.not_le.mpr hbl
  obtain ⟨v, u, VH, VS, sv, pd, N, pp, k, ol, sz, st, kp, hi2, sl, sw, td, kr, pt, bn, hW, hP, hD⟩ := hI.get
  refine lv_aload_n hx hb dL_law_530 rfl (lv_at hl 1 rfl) ?_
  refine lv_aload_n hx hb dL_law_531 rfl (lv_at hl 0 rfl) ?_
  refine lv_iload_n hx hb dL_law_532 rfl (lv_at hl 3 rfl) ?_
  refine lv_iconst (v := 1) hx hb dL_law_533 (by decide) ?_
  refine lv_iadd hx hb dL_law_534 ?_
  refine lv_asi (show nI i + 1 = nI (i + 1) from nI_add i 1) ?_
  refine va_sld hx hb hX hbl hbA hS (vp_in_nI (show i + 1 < L by omega) (by omega)) dL_law_535 ?_
  refine lc_W (As := [.int (xs (nI (i + 1)).toNatClampNeg)]) ⟨hx, hb, hml, hown, hts⟩ (c_X4_race l G oa ra ta ad qa ha B S v u VH VS sv pd N pp k ol sz (xs (nI (i + 1)).toNatClampNeg) hW.1.1 hW.1.2.1 hW.1.2.2.1 hW.1.2.2.2 hW.gd.1 hW.ru) (cwV 1 hts gL_law_X4_race rfl rfl rfl (by decide +kernel) ⟨Nat.le_of_ble_eq_true rfl, Nat.le_of_ble_eq_true rfl⟩) hP hKK hD hS (va_recv hKK.1 (lc_P hP) (ci := 4) (q0 := 0) rfl rfl) rfl hl.1 rfl (Nat.le_of_ble_eq_true rfl) dL_law_536 hc hs (flat_addr rfl) (fun H locs hP hD hS => ?_)
  refine lv_aload_n hx hb dL_law_539 rfl (lv_at hl 2 rfl) ?_
  refine lv_aload_n hx hb dL_law_540 rfl (lv_at hl 0 rfl) ?_
  refine lv_iload_n hx hb dL_law_541 rfl (lv_at hl 3 rfl) ?_
  refine lv_iconst (v := 1) hx hb dL_law_542 (by decide) ?_
  refine lv_iadd hx hb dL_law_543 ?_
  refine lv_asi (show nI i + 1 = nI (i + 1) from nI_add i 1) ?_
  refine va_sld hx hb hX hbl hbA hS (vp_in_nI (show i + 1 < L by omega) (by omega)) dL_law_544 ?_
  refine lm_W (As := [.int (xs (nI (i + 1)).toNatClampNeg)]) ⟨hx, hb, hml, hown, hts⟩ (c_X5_race l G a st kp hi2 sl sw pd td (nI sz) (nI N) pt (nI kr) bn (xs (nI (i + 1)).toNatClampNeg) hW.rs) (cwV 1 hts gL_law_X5_race rfl rfl rfl (by decide +kernel) ⟨Nat.le_of_ble_eq_true rfl, Nat.le_of_ble_eq_true rfl⟩) hP hKK hD hS (va_recv hKK.1 (lm_P hP) (ci := 5) (q0 := 0) rfl rfl) rfl hl.1 rfl (Nat.le_of_ble_eq_true rfl) dL_law_545 hc hs rfl (fun H locs hP hD hS => ?_)
  refine lv_icmp_eq (tgt := 770) hx hb dL_law_548 (by decide) (fun _ => ?_) (fun c9 => absurd (W_race hW (xs (nI (i + 1)).toNatClampNeg)).1 c9)
  exact kk H locs ⟨_, _, _, _, _, _, _, _, _, _, _, _, _, _, _, _, _, _, _, _, _, _, _, (W_race hW (xs (nI (i + 1)).toNatClampNeg)).2, hP, hD⟩ hS
set_option maxHeartbeats 4000000 in
set_option maxRecDepth 100000 in
/-- the law's call 13: ifWelded -/
theorem lawc_13 {p : Program} {l : Launch} {e : Env} {s : State} {m : MethodId} {below : List Frame} {meth : Method} {c : Code} {b L : Nat} {xs : Nat → Int32} {G : GG} {oa ra ta ad qa ha a : Nat → Nat} {B S : Nat → Nat → Nat} {Q : State → Prop} {cells slots : Nat} (Z : LZ p s m c b L xs G) {i : Nat} (hi : i + 4 ≤ L) (hL : L ≤ 2048) {H : Heap} {locs : List Loc} {ls : Array Slot} (hI : LI G oa ra ta ad qa ha a B S (lA s) H) (hS : va_S (lA s) s.heap H locs) (hl : lv_has ls 4 [(0, .ref b), (1, .ref (oa 0)), (2, .ref (a 0)), (3, .int (nI i))]) (hc : cells ≤ room_1.cells) (hs : slots ≤ room_1.slots)
    (kk : ∀ (H : Heap) (locs : List Loc), LI G oa ra ta ad qa ha a B S (lA s) H → va_S (lA s) s.heap H locs → W p l e room_1 s m #[Value.ref b] below meth c H locs cells slots Q (F0 m 770 ls [])) : W p l e room_1 s m #[Value.ref b] below meth c H locs cells slots Q (F0 m 553 ls []) := by
  obtain ⟨hx, hb, hml, hown, hts, hX, hbl, hKK⟩ := Z
  have hbA : ¬ lA s b := Nat.not_le.mpr hbl
  obtain ⟨v, u, VH, VS, sv, pd, N, pp, k, ol, sz, st, kp, hi2, sl, sw, td, kr, pt, bn, hW, hP, hD⟩ := hI.get
  refine lv_aload_n hx hb dL_law_553 rfl (lv_at hl 1 rfl) ?_
  refine lv_aload_n hx hb dL_law_554 rfl (lv_at hl 0 rfl) ?_
  refine lv_iload_n hx hb dL_law_555 rfl (lv_at hl 3 rfl) ?_
  refine lv_iconst (v := 1) hx hb dL_law_556 (by decide) ?_
  refine lv_iadd hx hb dL_law_557 ?_
  refine lv_asi (show nI i + 1 = nI (i + 1) from nI_add i 1) ?_
  refine va_sld hx hb hX hbl hbA hS (vp_in_nI (show i + 1 < L by omega) (by omega)) dL_law_558 ?_
  refine lv_aload_n hx hb dL_law_559 rfl (lv_at hl 0 rfl) ?_
  refine lv_iload_n hx hb dL_law_560 rfl (lv_at hl 3 rfl) ?_
  refine lv_iconst (v := 2) hx hb dL_law_561 (by decide) ?_
  refine lv_iadd hx hb dL_law_562 ?_
  refine lv_asi (show nI i + 2 = nI (i + 2) from nI_add i 2) ?_
  refine va_sld hx hb hX hbl hbA hS (vp_in_nI (show i + 2 < L by omega) (by omega)) dL_law_563 ?_
  refine lc_W (As := [.int (xs (nI (i + 1)).toNatClampNeg), .int (xs (nI (i + 2)).toNatClampNeg)]) ⟨hx, hb, hml, hown, hts⟩ (c_X4_ifWelded l G oa ra ta ad qa ha B S v u VH VS sv pd N pp k ol sz (xs (nI (i + 1)).toNatClampNeg) (xs (nI (i + 2)).toNatClampNeg) hW.1.1 hW.1.2.1 hW.1.2.2.1 hW.1.2.2.2 hW.gd.1 hW.ru) (cwV 2 hts gL_law_X4_ifWelded rfl rfl rfl (by decide +kernel) ⟨Nat.le_of_ble_eq_true rfl, Nat.le_of_ble_eq_true rfl⟩) hP hKK hD hS (va_recv hKK.1 (lc_P hP) (ci := 4) (q0 := 0) rfl rfl) rfl hl.1 rfl (Nat.le_of_ble_eq_true rfl) dL_law_564 hc hs (flat_addr rfl) (fun H locs hP hD hS => ?_)
  refine lv_aload_n hx hb dL_law_567 rfl (lv_at hl 2 rfl) ?_
  refine lv_aload_n hx hb dL_law_568 rfl (lv_at hl 0 rfl) ?_
  refine lv_iload_n hx hb dL_law_569 rfl (lv_at hl 3 rfl) ?_
  refine lv_iconst (v := 1) hx hb dL_law_570 (by decide) ?_
  refine lv_iadd hx hb dL_law_571 ?_
  refine lv_asi (show nI i + 1 = nI (i + 1) from nI_add i 1) ?_
  refine va_sld hx hb hX hbl hbA hS (vp_in_nI (show i + 1 < L by omega) (by omega)) dL_law_572 ?_
  refine lv_aload_n hx hb dL_law_573 rfl (lv_at hl 0 rfl) ?_
  refine lv_iload_n hx hb dL_law_574 rfl (lv_at hl 3 rfl) ?_
  refine lv_iconst (v := 2) hx hb dL_law_575 (by decide) ?_
  refine lv_iadd hx hb dL_law_576 ?_
  refine lv_asi (show nI i + 2 = nI (i + 2) from nI_add i 2) ?_
  refine va_sld hx hb hX hbl hbA hS (vp_in_nI (show i + 2 < L by omega) (by omega)) dL_law_577 ?_
  refine lm_W (As := [.int (xs (nI (i + 1)).toNatClampNeg), .int (xs (nI (i + 2)).toNatClampNeg)]) ⟨hx, hb, hml, hown, hts⟩ (c_X5_ifWelded l G a st kp hi2 sl sw pd td (nI sz) (nI N) pt (nI kr) bn (xs (nI (i + 1)).toNatClampNeg) (xs (nI (i + 2)).toNatClampNeg) hW.rs) (cwV 2 hts gL_law_X5_ifWelded rfl rfl rfl (by decide +kernel) ⟨Nat.le_of_ble_eq_true rfl, Nat.le_of_ble_eq_true rfl⟩) hP hKK hD hS (va_recv hKK.1 (lm_P hP) (ci := 5) (q0 := 0) rfl rfl) rfl hl.1 rfl (Nat.le_of_ble_eq_true rfl) dL_law_578 hc hs rfl (fun H locs hP hD hS => ?_)
  refine lv_icmp_eq (tgt := 770) hx hb dL_law_581 (by decide) (fun _ => ?_) (fun c9 => absurd (W_ifW hW (xs (nI (i + 1)).toNatClampNeg) (xs (nI (i + 2)).toNatClampNeg)).1 c9)
  exact kk H locs ⟨_, _, _, _, _, _, _, _, _, _, _, _, _, _, _, _, _, _, _, _, _, _, _, (W_ifW hW (xs (nI (i + 1)).toNatClampNeg) (xs (nI (i + 2)).toNatClampNeg)).2, hP, hD⟩ hS
set_option maxHeartbeats 4000000 in
set_option maxRecDepth 100000 in
/-- the law's call 14: promise 16 -/
theorem lawc_14 {p : Program} {l : Launch} {e : Env} {s : State} {m : MethodId} {below : List Frame} {meth : Method} {c : Code} {b L : Nat} {xs : Nat → Int32} {G : GG} {oa ra ta ad qa ha a : Nat → Nat} {B S : Nat → Nat → Nat} {Q : State → Prop} {cells slots : Nat} (Z : LZ p s m c b L xs G) {i : Nat} (hi : i + 4 ≤ L) (hL : L ≤ 2048) {H : Heap} {locs : List Loc} {ls : Array Slot} (hI : LI G oa ra ta ad qa ha a B S (lA s) H) (hS : va_S (lA s) s.heap H locs) (hl : lv_has ls 4 [(0, .ref b), (1, .ref (oa 0)), (2, .ref (a 0)), (3, .int (nI i))]) (hc : cells ≤ room_1.cells) (hs : slots ≤ room_1.slots)
    (kk : ∀ (H : Heap) (locs : List Loc), LI G oa ra ta ad qa ha a B S (lA s) H → va_S (lA s) s.heap H locs → W p l e room_1 s m #[Value.ref b] below meth c H locs cells slots Q (F0 m 770 ls [])) : W p l e room_1 s m #[Value.ref b] below meth c H locs cells slots Q (F0 m 586 ls []) := by
  obtain ⟨hx, hb, hml, hown, hts, hX, hbl, hKK⟩ := Z
  have hbA : ¬ lA s b := Nat.not_le.mpr hbl
  obtain ⟨v, u, VH, VS, sv, pd, N, pp, k, ol, sz, st, kp, hi2, sl, sw, td, kr, pt, bn, hW, hP, hD⟩ := hI.get
  refine lv_aload_n hx hb dL_law_586 rfl (lv_at hl 1 rfl) ?_
  refine lv_aload_n hx hb dL_law_587 rfl (lv_at hl 0 rfl) ?_
  refine lv_iload_n hx hb dL_law_588 rfl (lv_at hl 3 rfl) ?_
  refine lv_iconst (v := 1) hx hb dL_law_589 (by decide) ?_
  refine lv_iadd hx hb dL_law_590 ?_
  refine lv_asi (show nI i + 1 = nI (i + 1) from nI_add i 1) ?_
  refine va_sld hx hb hX hbl hbA hS (vp_in_nI (show i + 1 < L by omega) (by omega)) dL_law_591 ?_
  refine lc_W (As := [.int (xs (nI (i + 1)).toNatClampNeg)]) ⟨hx, hb, hml, hown, hts⟩ (c_X4_unsafe l G oa ra ta ad qa ha B S v u VH VS sv pd N pp k ol sz (xs (nI (i + 1)).toNatClampNeg) hW.1.1 hW.1.2.1 hW.1.2.2.1 hW.1.2.2.2 hW.gd.1 hW.ru) (cwV 1 hts gL_law_X4_unsafe rfl rfl rfl (by decide +kernel) ⟨Nat.le_of_ble_eq_true rfl, Nat.le_of_ble_eq_true rfl⟩) hP hKK hD hS (va_recv hKK.1 (lc_P hP) (ci := 4) (q0 := 0) rfl rfl) rfl hl.1 rfl (Nat.le_of_ble_eq_true rfl) dL_law_592 hc hs (flat_addr rfl) (fun H locs hP hD hS => ?_)
  refine lv_aload_n hx hb dL_law_595 rfl (lv_at hl 2 rfl) ?_
  refine lv_aload_n hx hb dL_law_596 rfl (lv_at hl 0 rfl) ?_
  refine lv_iload_n hx hb dL_law_597 rfl (lv_at hl 3 rfl) ?_
  refine lv_iconst (v := 1) hx hb dL_law_598 (by decide) ?_
  refine lv_iadd hx hb dL_law_599 ?_
  refine lv_asi (show nI i + 1 = nI (i + 1) from nI_add i 1) ?_
  refine va_sld hx hb hX hbl hbA hS (vp_in_nI (show i + 1 < L by omega) (by omega)) dL_law_600 ?_
  refine lm_W (As := [.int (xs (nI (i + 1)).toNatClampNeg)]) ⟨hx, hb, hml, hown, hts⟩ (c_X5_unsafe l G a st kp hi2 sl sw pd td (nI sz) (nI N) pt (nI kr) bn (xs (nI (i + 1)).toNatClampNeg) hW.rs) (cwV 1 hts gL_law_X5_unsafe rfl rfl rfl (by decide +kernel) ⟨Nat.le_of_ble_eq_true rfl, Nat.le_of_ble_eq_true rfl⟩) hP hKK hD hS (va_recv hKK.1 (lm_P hP) (ci := 5) (q0 := 0) rfl rfl) rfl hl.1 rfl (Nat.le_of_ble_eq_true rfl) dL_law_601 hc hs rfl (fun H locs hP hD hS => ?_)
  refine lv_icmp_eq (tgt := 770) hx hb dL_law_604 (by decide) (fun _ => ?_) (fun c9 => absurd (W_uns hW (xs (nI (i + 1)).toNatClampNeg)).1 c9)
  exact kk H locs ⟨_, _, _, _, _, _, _, _, _, _, _, _, _, _, _, _, _, _, _, _, _, _, _, (W_uns hW (xs (nI (i + 1)).toNatClampNeg)).2, hP, hD⟩ hS
set_option maxHeartbeats 4000000 in
set_option maxRecDepth 100000 in
/-- the law's call 15: reach -/
theorem lawc_15 {p : Program} {l : Launch} {e : Env} {s : State} {m : MethodId} {below : List Frame} {meth : Method} {c : Code} {b L : Nat} {xs : Nat → Int32} {G : GG} {oa ra ta ad qa ha a : Nat → Nat} {B S : Nat → Nat → Nat} {Q : State → Prop} {cells slots : Nat} (Z : LZ p s m c b L xs G) {i : Nat} (hi : i + 4 ≤ L) (hL : L ≤ 2048) {H : Heap} {locs : List Loc} {ls : Array Slot} (hI : LI G oa ra ta ad qa ha a B S (lA s) H) (hS : va_S (lA s) s.heap H locs) (hl : lv_has ls 4 [(0, .ref b), (1, .ref (oa 0)), (2, .ref (a 0)), (3, .int (nI i))]) (hc : cells ≤ room_1.cells) (hs : slots ≤ room_1.slots)
    (kk : ∀ (H : Heap) (locs : List Loc), LI G oa ra ta ad qa ha a B S (lA s) H → va_S (lA s) s.heap H locs → W p l e room_1 s m #[Value.ref b] below meth c H locs cells slots Q (F0 m 770 ls [])) : W p l e room_1 s m #[Value.ref b] below meth c H locs cells slots Q (F0 m 609 ls []) := by
  obtain ⟨hx, hb, hml, hown, hts, hX, hbl, hKK⟩ := Z
  have hbA : ¬ lA s b := Nat.not_le.mpr hbl
  obtain ⟨v, u, VH, VS, sv, pd, N, pp, k, ol, sz, st, kp, hi2, sl, sw, td, kr, pt, bn, hW, hP, hD⟩ := hI.get
  refine lv_aload_n hx hb dL_law_609 rfl (lv_at hl 1 rfl) ?_
  refine lv_aload_n hx hb dL_law_610 rfl (lv_at hl 0 rfl) ?_
  refine lv_iload_n hx hb dL_law_611 rfl (lv_at hl 3 rfl) ?_
  refine lv_iconst (v := 1) hx hb dL_law_612 (by decide) ?_
  refine lv_iadd hx hb dL_law_613 ?_
  refine lv_asi (show nI i + 1 = nI (i + 1) from nI_add i 1) ?_
  refine va_sld hx hb hX hbl hbA hS (vp_in_nI (show i + 1 < L by omega) (by omega)) dL_law_614 ?_
  refine lc_W (As := [.int (xs (nI (i + 1)).toNatClampNeg)]) ⟨hx, hb, hml, hown, hts⟩ (c_X4_reach l G oa ra ta ad qa ha B S v u VH VS sv pd N pp k ol sz (xs (nI (i + 1)).toNatClampNeg) hW.1.1 hW.1.2.1 hW.1.2.2.1 hW.1.2.2.2 hW.gd.1 hW.ru) (cwV 1 hts gL_law_X4_reach rfl rfl rfl (by decide +kernel) ⟨Nat.le_of_ble_eq_true rfl, Nat.le_of_ble_eq_true rfl⟩) hP hKK hD hS (va_recv hKK.1 (lc_P hP) (ci := 4) (q0 := 0) rfl rfl) rfl hl.1 rfl (Nat.le_of_ble_eq_true rfl) dL_law_615 hc hs (flat_addr rfl) (fun H locs hP hD hS => ?_)
  refine lv_aload_n hx hb dL_law_618 rfl (lv_at hl 2 rfl) ?_
  refine lv_aload_n hx hb dL_law_619 rfl (lv_at hl 0 rfl) ?_
  refine lv_iload_n hx hb dL_law_620 rfl (lv_at hl 3 rfl) ?_
  refine lv_iconst (v := 1) hx hb dL_law_621 (by decide) ?_
  refine lv_iadd hx hb dL_law_622 ?_
  refine lv_asi (show nI i + 1 = nI (i + 1) from nI_add i 1) ?_
  refine va_sld hx hb hX hbl hbA hS (vp_in_nI (show i + 1 < L by omega) (by omega)) dL_law_623 ?_
  refine lm_W (As := [.int (xs (nI (i + 1)).toNatClampNeg)]) ⟨hx, hb, hml, hown, hts⟩ (c_X5_reach l G a st kp hi2 sl sw pd td (nI sz) (nI N) pt (nI kr) bn (xs (nI (i + 1)).toNatClampNeg) hW.rs) (cwV 1 hts gL_law_X5_reach rfl rfl rfl (by decide +kernel) ⟨Nat.le_of_ble_eq_true rfl, Nat.le_of_ble_eq_true rfl⟩) hP hKK hD hS (va_recv hKK.1 (lm_P hP) (ci := 5) (q0 := 0) rfl rfl) rfl hl.1 rfl (Nat.le_of_ble_eq_true rfl) dL_law_624 hc hs rfl (fun H locs hP hD hS => ?_)
  refine lv_icmp_eq (tgt := 770) hx hb dL_law_627 (by decide) (fun _ => ?_) (fun c9 => absurd (W_reach hW (xs (nI (i + 1)).toNatClampNeg)).1 c9)
  exact kk H locs ⟨_, _, _, _, _, _, _, _, _, _, _, _, _, _, _, _, _, _, _, _, _, _, _, (W_reach hW (xs (nI (i + 1)).toNatClampNeg)).2, hP, hD⟩ hS
set_option maxHeartbeats 4000000 in
set_option maxRecDepth 100000 in
/-- the law's call 16: put -/
theorem lawc_16 {p : Program} {l : Launch} {e : Env} {s : State} {m : MethodId} {below : List Frame} {meth : Method} {c : Code} {b L : Nat} {xs : Nat → Int32} {G : GG} {oa ra ta ad qa ha a : Nat → Nat} {B S : Nat → Nat → Nat} {Q : State → Prop} {cells slots : Nat} (Z : LZ p s m c b L xs G) {i : Nat} (hi : i + 4 ≤ L) (hL : L ≤ 2048) {H : Heap} {locs : List Loc} {ls : Array Slot} (hI : LI G oa ra ta ad qa ha a B S (lA s) H) (hS : va_S (lA s) s.heap H locs) (hl : lv_has ls 4 [(0, .ref b), (1, .ref (oa 0)), (2, .ref (a 0)), (3, .int (nI i))]) (hc : cells ≤ room_1.cells) (hs : slots ≤ room_1.slots)
    (kk : ∀ (H : Heap) (locs : List Loc), LI G oa ra ta ad qa ha a B S (lA s) H → va_S (lA s) s.heap H locs → W p l e room_1 s m #[Value.ref b] below meth c H locs cells slots Q (F0 m 770 ls [])) : W p l e room_1 s m #[Value.ref b] below meth c H locs cells slots Q (F0 m 632 ls []) := by
  obtain ⟨hx, hb, hml, hown, hts, hX, hbl, hKK⟩ := Z
  have hbA : ¬ lA s b := Nat.not_le.mpr hbl
  obtain ⟨v, u, VH, VS, sv, pd, N, pp, k, ol, sz, st, kp, hi2, sl, sw, td, kr, pt, bn, hW, hP, hD⟩ := hI.get
  refine lv_aload_n hx hb dL_law_632 rfl (lv_at hl 1 rfl) ?_
  refine lv_aload_n hx hb dL_law_633 rfl (lv_at hl 0 rfl) ?_
  refine lv_iload_n hx hb dL_law_634 rfl (lv_at hl 3 rfl) ?_
  refine lv_iconst (v := 1) hx hb dL_law_635 (by decide) ?_
  refine lv_iadd hx hb dL_law_636 ?_
  refine lv_asi (show nI i + 1 = nI (i + 1) from nI_add i 1) ?_
  refine va_sld hx hb hX hbl hbA hS (vp_in_nI (show i + 1 < L by omega) (by omega)) dL_law_637 ?_
  refine lv_i2l hx hb dL_law_638 rfl ?_
  refine lv_bipush (v := 32) hx hb dL_law_639 (by decide) ?_
  refine lv_lshl hx hb dL_law_641 rfl ?_
  refine lv_aload_n hx hb dL_law_642 rfl (lv_at hl 0 rfl) ?_
  refine lv_iload_n hx hb dL_law_643 rfl (lv_at hl 3 rfl) ?_
  refine lv_iconst (v := 2) hx hb dL_law_644 (by decide) ?_
  refine lv_iadd hx hb dL_law_645 ?_
  refine lv_asi (show nI i + 2 = nI (i + 2) from nI_add i 2) ?_
  refine va_sld hx hb hX hbl hbA hS (vp_in_nI (show i + 2 < L by omega) (by omega)) dL_law_646 ?_
  refine lv_i2l hx hb dL_law_647 rfl ?_
  refine lv_ldc2 (v := 4294967295) hx hb hown (hts (.constantLong RL 83 4294967295) (by decide +kernel)) dL_law_648 ?_
  refine lv_land hx hb dL_law_651 ?_
  refine lv_lor hx hb dL_law_652 ?_
  refine lc_W (As := [.long ((xs (nI (i + 1)).toNatClampNeg).toInt64 <<< ((32 : Int32).toInt64 &&& 63) ||| ((xs (nI (i + 2)).toNatClampNeg).toInt64 &&& 4294967295))]) ⟨hx, hb, hml, hown, hts⟩ (c_X4_put l G oa ra ta ad qa ha B S v u VH VS sv pd N pp k ol sz ((xs (nI (i + 1)).toNatClampNeg).toInt64 <<< ((32 : Int32).toInt64 &&& 63) ||| ((xs (nI (i + 2)).toNatClampNeg).toInt64 &&& 4294967295)) hW.1.1 hW.1.2.1 hW.1.2.2.1 hW.1.2.2.2 hW.gd.1 hW.ru) (cwV 1 hts gL_law_X4_put rfl rfl rfl (by decide +kernel) ⟨Nat.le_of_ble_eq_true rfl, Nat.le_of_ble_eq_true rfl⟩) hP hKK hD hS (va_recv hKK.1 (lc_P hP) (ci := 4) (q0 := 0) rfl rfl) rfl hl.1 rfl (Nat.le_of_ble_eq_true rfl) dL_law_653 hc hs (flat_addr rfl) (fun H locs hP hD hS => ?_)
  refine lv_aload_n hx hb dL_law_656 rfl (lv_at hl 2 rfl) ?_
  refine lv_aload_n hx hb dL_law_657 rfl (lv_at hl 0 rfl) ?_
  refine lv_iload_n hx hb dL_law_658 rfl (lv_at hl 3 rfl) ?_
  refine lv_iconst (v := 1) hx hb dL_law_659 (by decide) ?_
  refine lv_iadd hx hb dL_law_660 ?_
  refine lv_asi (show nI i + 1 = nI (i + 1) from nI_add i 1) ?_
  refine va_sld hx hb hX hbl hbA hS (vp_in_nI (show i + 1 < L by omega) (by omega)) dL_law_661 ?_
  refine lv_i2l hx hb dL_law_662 rfl ?_
  refine lv_bipush (v := 32) hx hb dL_law_663 (by decide) ?_
  refine lv_lshl hx hb dL_law_665 rfl ?_
  refine lv_aload_n hx hb dL_law_666 rfl (lv_at hl 0 rfl) ?_
  refine lv_iload_n hx hb dL_law_667 rfl (lv_at hl 3 rfl) ?_
  refine lv_iconst (v := 2) hx hb dL_law_668 (by decide) ?_
  refine lv_iadd hx hb dL_law_669 ?_
  refine lv_asi (show nI i + 2 = nI (i + 2) from nI_add i 2) ?_
  refine va_sld hx hb hX hbl hbA hS (vp_in_nI (show i + 2 < L by omega) (by omega)) dL_law_670 ?_
  refine lv_i2l hx hb dL_law_671 rfl ?_
  refine lv_ldc2 (v := 4294967295) hx hb hown (hts (.constantLong RL 83 4294967295) (by decide +kernel)) dL_law_672 ?_
  refine lv_land hx hb dL_law_675 ?_
  refine lv_lor hx hb dL_law_676 ?_
  refine lm_W (As := [.long ((xs (nI (i + 1)).toNatClampNeg).toInt64 <<< ((32 : Int32).toInt64 &&& 63) ||| ((xs (nI (i + 2)).toNatClampNeg).toInt64 &&& 4294967295))]) ⟨hx, hb, hml, hown, hts⟩ (c_X5_put l G a st kp hi2 sl sw pd td (nI sz) pt (nI kr) bn N ((xs (nI (i + 1)).toNatClampNeg).toInt64 <<< ((32 : Int32).toInt64 &&& 63) ||| ((xs (nI (i + 2)).toNatClampNeg).toInt64 &&& 4294967295)) hW.1.1) (cwV 1 hts gL_law_X5_put rfl rfl rfl (by decide +kernel) ⟨Nat.le_of_ble_eq_true rfl, Nat.le_of_ble_eq_true rfl⟩) hP hKK hD hS (va_recv hKK.1 (lm_P hP) (ci := 5) (q0 := 0) rfl rfl) rfl hl.1 rfl (Nat.le_of_ble_eq_true rfl) dL_law_677 hc hs rfl (fun H locs hP hD hS => ?_)
  refine lv_icmp_eq (tgt := 770) hx hb dL_law_680 (by decide) (fun _ => ?_) (fun c9 => absurd (W_put hW ((xs (nI (i + 1)).toNatClampNeg).toInt64 <<< ((32 : Int32).toInt64 &&& 63) ||| ((xs (nI (i + 2)).toNatClampNeg).toInt64 &&& 4294967295))).1 c9)
  exact kk H locs ⟨_, _, _, _, _, _, _, _, _, _, _, _, _, _, _, _, _, _, _, _, _, _, _, (W_put hW ((xs (nI (i + 1)).toNatClampNeg).toInt64 <<< ((32 : Int32).toInt64 &&& 63) ||| ((xs (nI (i + 2)).toNatClampNeg).toInt64 &&& 4294967295))).2, hP, hD⟩ hS
