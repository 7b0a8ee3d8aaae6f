/-! THE LAW, its calls 4 to 7 -/
set_option maxHeartbeats 4000000 in
set_option maxRecDepth 100000 in
/-- the law's call 4: weld -/
theorem lawc_4 {p : Program} {l : Launch} {e : Env} {s : State} {m : MethodId} {below : List Frame} {meth : Method} {c : Code} {b L : Nat} {xs : Nat → Int32} {G : GG} {oa ra ta ad qa ha a : Nat → Nat} {B S : Nat → Nat → Nat} {Q : State → Prop} {cells slots : Nat} (Z : LZ p s m c b L xs G) {i : Nat} (hi : i + 4 ≤ L) (hL : L ≤ 2048) {H : Heap} {locs : List Loc} {ls : Array Slot} (hI : LI G oa ra ta ad qa ha a B S (lA s) H) (hS : va_S (lA s) s.heap H locs) (hl : lv_has ls 4 [(0, .ref b), (1, .ref (oa 0)), (2, .ref (a 0)), (3, .int (nI i))]) (hc : cells ≤ room_1.cells) (hs : slots ≤ room_1.slots)
    (kk : ∀ (H : Heap) (locs : List Loc), LI G oa ra ta ad qa ha a B S (lA s) H → va_S (lA s) s.heap H locs → W p l e room_1 s m #[Value.ref b] below meth c H locs cells slots Q (F0 m 770 ls [])) : W p l e room_1 s m #[Value.ref b] below meth c H locs cells slots Q (F0 m 280 ls []) := by
  obtain ⟨hx, hb, hml, hown, hts, hX, hbl, hKK⟩ := Z
  have hbA : ¬ lA s b := Nat.not_le.mpr hbl
  obtain ⟨v, u, VH, VS, sv, pd, N, pp, k, ol, sz, st, kp, hi2, sl, sw, td, kr, pt, bn, hW, hP, hD⟩ := hI.get
  by_cases hz : xs (nI (i + 2)).toNatClampNeg = 0
  · refine lv_aload_n hx hb dL_law_280 rfl (lv_at hl 1 rfl) ?_
    refine lv_aload_n hx hb dL_law_281 rfl (lv_at hl 0 rfl) ?_
    refine lv_iload_n hx hb dL_law_282 rfl (lv_at hl 3 rfl) ?_
    refine lv_iconst (v := 1) hx hb dL_law_283 (by decide) ?_
    refine lv_iadd hx hb dL_law_284 ?_
    refine lv_asi (show nI i + 1 = nI (i + 1) from nI_add i 1) ?_
    refine va_sld hx hb hX hbl hbA hS (vp_in_nI (show i + 1 < L by omega) (by omega)) dL_law_285 ?_
    refine lv_aload_n hx hb dL_law_286 rfl (lv_at hl 0 rfl) ?_
    refine lv_iload_n hx hb dL_law_287 rfl (lv_at hl 3 rfl) ?_
    refine lv_iconst (v := 2) hx hb dL_law_288 (by decide) ?_
    refine lv_iadd hx hb dL_law_289 ?_
    refine lv_asi (show nI i + 2 = nI (i + 2) from nI_add i 2) ?_
    refine va_sld hx hb hX hbl hbA hS (vp_in_nI (show i + 2 < L by omega) (by omega)) dL_law_290 ?_
    refine lv_if_eq (tgt := 298) hx hb dL_law_291 (by decide) (fun _ => ?_) (fun c9 => absurd hz c9)
    refine lv_iconst (v := 0) hx hb dL_law_298 (by decide) ?_
    refine lc_W (As := [.int (xs (nI (i + 1)).toNatClampNeg), .int (b2i false)]) ⟨hx, hb, hml, hown, hts⟩ (c_X4_weld l G oa ra ta ad qa ha B S v u VH VS sv pd N pp k ol sz (xs (nI (i + 1)).toNatClampNeg) false hW.1.1 hW.1.2.1 hW.1.2.2.1 hW.1.2.2.2 hW.gd.1 hW.ru) (cwV 2 hts gL_law_X4_weld rfl rfl rfl (by decide +kernel) ⟨Nat.le_of_ble_eq_true rfl, Nat.le_of_ble_eq_true rfl⟩) hP hKK hD hS (va_recv hKK.1 (lc_P hP) (ci := 4) (q0 := 0) rfl rfl) rfl hl.1 rfl (Nat.le_of_ble_eq_true rfl) dL_law_299 hc hs (flat_addr rfl) (fun H locs hP hD hS => ?_)
    refine lv_aload_n hx hb dL_law_302 rfl (lv_at hl 2 rfl) ?_
    refine lv_aload_n hx hb dL_law_303 rfl (lv_at hl 0 rfl) ?_
    refine lv_iload_n hx hb dL_law_304 rfl (lv_at hl 3 rfl) ?_
    refine lv_iconst (v := 1) hx hb dL_law_305 (by decide) ?_
    refine lv_iadd hx hb dL_law_306 ?_
    refine lv_asi (show nI i + 1 = nI (i + 1) from nI_add i 1) ?_
    refine va_sld hx hb hX hbl hbA hS (vp_in_nI (show i + 1 < L by omega) (by omega)) dL_law_307 ?_
    refine lv_aload_n hx hb dL_law_308 rfl (lv_at hl 0 rfl) ?_
    refine lv_iload_n hx hb dL_law_309 rfl (lv_at hl 3 rfl) ?_
    refine lv_iconst (v := 2) hx hb dL_law_310 (by decide) ?_
    refine lv_iadd hx hb dL_law_311 ?_
    refine lv_asi (show nI i + 2 = nI (i + 2) from nI_add i 2) ?_
    refine va_sld hx hb hX hbl hbA hS (vp_in_nI (show i + 2 < L by omega) (by omega)) dL_law_312 ?_
    refine lv_if_eq (tgt := 320) hx hb dL_law_313 (by decide) (fun _ => ?_) (fun c9 => absurd hz c9)
    refine lv_iconst (v := 0) hx hb dL_law_320 (by decide) ?_
    refine lm_W (As := [.int (xs (nI (i + 1)).toNatClampNeg), .int (b2i false)]) ⟨hx, hb, hml, hown, hts⟩ (c_X5_weld l G a st kp hi2 sl sw pd td (nI N) pt (nI kr) bn (xs (nI (i + 1)).toNatClampNeg) false sz hW.1.2.2.2) (cwV 2 hts gL_law_X5_weld rfl rfl rfl (by decide +kernel) ⟨Nat.le_of_ble_eq_true rfl, Nat.le_of_ble_eq_true rfl⟩) hP hKK hD hS (va_recv hKK.1 (lm_P hP) (ci := 5) (q0 := 0) rfl rfl) rfl hl.1 rfl (Nat.le_of_ble_eq_true rfl) dL_law_321 hc hs rfl (fun H locs hP hD hS => ?_)
    refine lv_icmp_eq (tgt := 770) hx hb dL_law_324 (by decide) (fun _ => ?_) (fun c9 => absurd (W_weld hW (xs (nI (i + 1)).toNatClampNeg) false).1 c9)
    exact kk H locs ⟨_, _, _, _, _, _, _, _, _, _, _, _, _, _, _, _, _, _, _, _, _, _, _, (W_weld hW (xs (nI (i + 1)).toNatClampNeg) false).2, hP, hD⟩ hS
  · refine lv_aload_n hx hb dL_law_280 rfl (lv_at hl 1 rfl) ?_
    refine lv_aload_n hx hb dL_law_281 rfl (lv_at hl 0 rfl) ?_
    refine lv_iload_n hx hb dL_law_282 rfl (lv_at hl 3 rfl) ?_
    refine lv_iconst (v := 1) hx hb dL_law_283 (by decide) ?_
    refine lv_iadd hx hb dL_law_284 ?_
    refine lv_asi (show nI i + 1 = nI (i + 1) from nI_add i 1) ?_
    refine va_sld hx hb hX hbl hbA hS (vp_in_nI (show i + 1 < L by omega) (by omega)) dL_law_285 ?_
    refine lv_aload_n hx hb dL_law_286 rfl (lv_at hl 0 rfl) ?_
    refine lv_iload_n hx hb dL_law_287 rfl (lv_at hl 3 rfl) ?_
    refine lv_iconst (v := 2) hx hb dL_law_288 (by decide) ?_
    refine lv_iadd hx hb dL_law_289 ?_
    refine lv_asi (show nI i + 2 = nI (i + 2) from nI_add i 2) ?_
    refine va_sld hx hb hX hbl hbA hS (vp_in_nI (show i + 2 < L by omega) (by omega)) dL_law_290 ?_
    refine lv_if_eq (tgt := 298) hx hb dL_law_291 (by decide) (fun c9 => absurd c9 hz) (fun _ => ?_)
    refine lv_iconst (v := 1) hx hb dL_law_294 (by decide) ?_
    refine lv_goto (tgt := 299) hx hb dL_law_295 (by decide) ?_
    refine lc_W (As := [.int (xs (nI (i + 1)).toNatClampNeg), .int (b2i true)]) ⟨hx, hb, hml, hown, hts⟩ (c_X4_weld l G oa ra ta ad qa ha B S v u VH VS sv pd N pp k ol sz (xs (nI (i + 1)).toNatClampNeg) true hW.1.1 hW.1.2.1 hW.1.2.2.1 hW.1.2.2.2 hW.gd.1 hW.ru) (cwV 2 hts gL_law_X4_weld rfl rfl rfl (by decide +kernel) ⟨Nat.le_of_ble_eq_true rfl, Nat.le_of_ble_eq_true rfl⟩) hP hKK hD hS (va_recv hKK.1 (lc_P hP) (ci := 4) (q0 := 0) rfl rfl) rfl hl.1 rfl (Nat.le_of_ble_eq_true rfl) dL_law_299 hc hs (flat_addr rfl) (fun H locs hP hD hS => ?_)
    refine lv_aload_n hx hb dL_law_302 rfl (lv_at hl 2 rfl) ?_
    refine lv_aload_n hx hb dL_law_303 rfl (lv_at hl 0 rfl) ?_
    refine lv_iload_n hx hb dL_law_304 rfl (lv_at hl 3 rfl) ?_
    refine lv_iconst (v := 1) hx hb dL_law_305 (by decide) ?_
    refine lv_iadd hx hb dL_law_306 ?_
    refine lv_asi (show nI i + 1 = nI (i + 1) from nI_add i 1) ?_
    refine va_sld hx hb hX hbl hbA hS (vp_in_nI (show i + 1 < L by omega) (by omega)) dL_law_307 ?_
    refine lv_aload_n hx hb dL_law_308 rfl (lv_at hl 0 rfl) ?_
    refine lv_iload_n hx hb dL_law_309 rfl (lv_at hl 3 rfl) ?_
    refine lv_iconst (v := 2) hx hb dL_law_310 (by decide) ?_
    refine lv_iadd hx hb dL_law_311 ?_
    refine lv_asi (show nI i + 2 = nI (i + 2) from nI_add i 2) ?_
    refine va_sld hx hb hX hbl hbA hS (vp_in_nI (show i + 2 < L by omega) (by omega)) dL_law_312 ?_
    refine lv_if_eq (tgt := 320) hx hb dL_law_313 (by decide) (fun c9 => absurd c9 hz) (fun _ => ?_)
    refine lv_iconst (v := 1) hx hb dL_law_316 (by decide) ?_
    refine lv_goto (tgt := 321) hx hb dL_law_317 (by decide) ?_
    refine lm_W (As := [.int (xs (nI (i + 1)).toNatClampNeg), .int (b2i true)]) ⟨hx, hb, hml, hown, hts⟩ (c_X5_weld l G a st kp hi2 sl sw pd td (nI N) pt (nI kr) bn (xs (nI (i + 1)).toNatClampNeg) true sz hW.1.2.2.2) (cwV 2 hts gL_law_X5_weld rfl rfl rfl (by decide +kernel) ⟨Nat.le_of_ble_eq_true rfl, Nat.le_of_ble_eq_true rfl⟩) hP hKK hD hS (va_recv hKK.1 (lm_P hP) (ci := 5) (q0 := 0) rfl rfl) rfl hl.1 rfl (Nat.le_of_ble_eq_true rfl) dL_law_321 hc hs rfl (fun H locs hP hD hS => ?_)
    refine lv_icmp_eq (tgt := 770) hx hb dL_law_324 (by decide) (fun _ => ?_) (fun c9 => absurd (W_weld hW (xs (nI (i + 1)).toNatClampNeg) true).1 c9)
    exact kk H locs ⟨_, _, _, _, _, _, _, _, _, _, _, _, _, _, _, _, _, _, _, _, _, _, _, (W_weld hW (xs (nI (i + 1)).toNatClampNeg) true).2, hP, hD⟩ hS
set_option maxHeartbeats 4000000 in
set_option maxRecDepth 100000 in
/-- the law's call 5: pass -/
theorem lawc_5 {p : Program} {l : Launch} {e : Env} {s : State} {m : MethodId} {below : List Frame} {meth : Method} {c : Code} {b L : Nat} {xs : Nat → Int32} {G : GG} {oa ra ta ad qa ha a : Nat → Nat} {B S : Nat → Nat → Nat} {Q : State → Prop} {cells slots : Nat} (Z : LZ p s m c b L xs G) {i : Nat} (hi : i + 4 ≤ L) (hL : L ≤ 2048) {H : Heap} {locs : List Loc} {ls : Array Slot} (hI : LI G oa ra ta ad qa ha a B S (lA s) H) (hS : va_S (lA s) s.heap H locs) (hl : lv_has ls 4 [(0, .ref b), (1, .ref (oa 0)), (2, .ref (a 0)), (3, .int (nI i))]) (hc : cells ≤ room_1.cells) (hs : slots ≤ room_1.slots)
    (kk : ∀ (H : Heap) (locs : List Loc), LI G oa ra ta ad qa ha a B S (lA s) H → va_S (lA s) s.heap H locs → W p l e room_1 s m #[Value.ref b] below meth c H locs cells slots Q (F0 m 770 ls [])) : W p l e room_1 s m #[Value.ref b] below meth c H locs cells slots Q (F0 m 329 ls []) := by
  obtain ⟨hx, hb, hml, hown, hts, hX, hbl, hKK⟩ := Z
  have hbA : ¬ lA s b := Nat.not_le.mpr hbl
  obtain ⟨v, u, VH, VS, sv, pd, N, pp, k, ol, sz, st, kp, hi2, sl, sw, td, kr, pt, bn, hW, hP, hD⟩ := hI.get
  refine lv_aload_n hx hb dL_law_329 rfl (lv_at hl 1 rfl) ?_
  refine lv_aload_n hx hb dL_law_330 rfl (lv_at hl 0 rfl) ?_
  refine lv_iload_n hx hb dL_law_331 rfl (lv_at hl 3 rfl) ?_
  refine lv_iconst (v := 1) hx hb dL_law_332 (by decide) ?_
  refine lv_iadd hx hb dL_law_333 ?_
  refine lv_asi (show nI i + 1 = nI (i + 1) from nI_add i 1) ?_
  refine va_sld hx hb hX hbl hbA hS (vp_in_nI (show i + 1 < L by omega) (by omega)) dL_law_334 ?_
  refine lc_W (As := [.int (xs (nI (i + 1)).toNatClampNeg)]) ⟨hx, hb, hml, hown, hts⟩ (c_X4_pass l G oa ra ta ad qa ha B S v u VH VS sv pd N pp k ol sz (xs (nI (i + 1)).toNatClampNeg) hW.1.1 hW.1.2.1 hW.1.2.2.1 hW.1.2.2.2 hW.gd.1 hW.ru) (cwV 1 hts gL_law_X4_pass rfl rfl rfl (by decide +kernel) ⟨Nat.le_of_ble_eq_true rfl, Nat.le_of_ble_eq_true rfl⟩) hP hKK hD hS (va_recv hKK.1 (lc_P hP) (ci := 4) (q0 := 0) rfl rfl) rfl hl.1 rfl (Nat.le_of_ble_eq_true rfl) dL_law_335 hc hs (flat_addr rfl) (fun H locs hP hD hS => ?_)
  refine lv_aload_n hx hb dL_law_338 rfl (lv_at hl 2 rfl) ?_
  refine lv_aload_n hx hb dL_law_339 rfl (lv_at hl 0 rfl) ?_
  refine lv_iload_n hx hb dL_law_340 rfl (lv_at hl 3 rfl) ?_
  refine lv_iconst (v := 1) hx hb dL_law_341 (by decide) ?_
  refine lv_iadd hx hb dL_law_342 ?_
  refine lv_asi (show nI i + 1 = nI (i + 1) from nI_add i 1) ?_
  refine va_sld hx hb hX hbl hbA hS (vp_in_nI (show i + 1 < L by omega) (by omega)) dL_law_343 ?_
  refine lm_W (As := [.int (xs (nI (i + 1)).toNatClampNeg)]) ⟨hx, hb, hml, hown, hts⟩ (c_X5_pass l G a st kp hi2 sl sw pd td (nI N) pt (nI kr) bn (xs (nI (i + 1)).toNatClampNeg) sz hW.1.2.2.2 hW.rs) (cwV 1 hts gL_law_X5_pass rfl rfl rfl (by decide +kernel) ⟨Nat.le_of_ble_eq_true rfl, Nat.le_of_ble_eq_true rfl⟩) hP hKK hD hS (va_recv hKK.1 (lm_P hP) (ci := 5) (q0 := 0) rfl rfl) rfl hl.1 rfl (Nat.le_of_ble_eq_true rfl) dL_law_344 hc hs rfl (fun H locs hP hD hS => ?_)
  refine lv_icmp_eq (tgt := 770) hx hb dL_law_347 (by decide) (fun _ => ?_) (fun c9 => absurd (W_pass hW (xs (nI (i + 1)).toNatClampNeg)).1 c9)
  exact kk H locs ⟨_, _, _, _, _, _, _, _, _, _, _, _, _, _, _, _, _, _, _, _, _, _, _, (W_pass hW (xs (nI (i + 1)).toNatClampNeg)).2, hP, hD⟩ hS
set_option maxHeartbeats 4000000 in
set_option maxRecDepth 100000 in
/-- the law's call 6: settle -/
theorem lawc_6 {p : Program} {l : Launch} {e : Env} {s : State} {m : MethodId} {below : List Frame} {meth : Method} {c : Code} {b L : Nat} {xs : Nat → Int32} {G : GG} {oa ra ta ad qa ha a : Nat → Nat} {B S : Nat → Nat → Nat} {Q : State → Prop} {cells slots : Nat} (Z : LZ p s m c b L xs G) {i : Nat} (hi : i + 4 ≤ L) (hL : L ≤ 2048) {H : Heap} {locs : List Loc} {ls : Array Slot} (hI : LI G oa ra ta ad qa ha a B S (lA s) H) (hS : va_S (lA s) s.heap H locs) (hl : lv_has ls 4 [(0, .ref b), (1, .ref (oa 0)), (2, .ref (a 0)), (3, .int (nI i))]) (hc : cells ≤ room_1.cells) (hs : slots ≤ room_1.slots)
    (kk : ∀ (H : Heap) (locs : List Loc), LI G oa ra ta ad qa ha a B S (lA s) H → va_S (lA s) s.heap H locs → W p l e room_1 s m #[Value.ref b] below meth c H locs cells slots Q (F0 m 770 ls [])) : W p l e room_1 s m #[Value.ref b] below meth c H locs cells slots Q (F0 m 352 ls []) := by
  obtain ⟨hx, hb, hml, hown, hts, hX, hbl, hKK⟩ := Z
  have hbA : ¬ lA s b := Nat.not_le.mpr hbl
  obtain ⟨v, u, VH, VS, sv, pd, N, pp, k, ol, sz, st, kp, hi2, sl, sw, td, kr, pt, bn, hW, hP, hD⟩ := hI.get
  refine lv_aload_n hx hb dL_law_352 rfl (lv_at hl 1 rfl) ?_
  refine lc_W (As := []) ⟨hx, hb, hml, hown, hts⟩ (c_X4_settle l G oa ra ta ad qa ha B S v u VH VS sv pd N pp k ol sz  hW.1.1 hW.1.2.1 hW.1.2.2.1 hW.1.2.2.2 hW.gd.1 hW.ru) (cwV 0 hts gL_law_X4_settle rfl rfl rfl (by decide +kernel) ⟨Nat.le_of_ble_eq_true rfl, Nat.le_of_ble_eq_true rfl⟩) hP hKK hD hS (va_recv hKK.1 (lc_P hP) (ci := 4) (q0 := 0) rfl rfl) rfl hl.1 rfl (Nat.le_of_ble_eq_true rfl) dL_law_353 hc hs (flat_addr rfl) (fun H locs hP hD hS => ?_)
  refine lv_aload_n hx hb dL_law_356 rfl (lv_at hl 2 rfl) ?_
  refine lm_W (As := []) ⟨hx, hb, hml, hown, hts⟩ (c_X5_settle l G a st kp hi2 sl sw pd td (nI N) pt (nI kr) bn sz hW.1.2.2.2 hW.rs) (cwV 0 hts gL_law_X5_settle rfl rfl rfl (by decide +kernel) ⟨Nat.le_of_ble_eq_true rfl, Nat.le_of_ble_eq_true rfl⟩) hP hKK hD hS (va_recv hKK.1 (lm_P hP) (ci := 5) (q0 := 0) rfl rfl) rfl hl.1 rfl (Nat.le_of_ble_eq_true rfl) dL_law_357 hc hs rfl (fun H locs hP hD hS => ?_)
  refine lv_icmp_eq (tgt := 770) hx hb dL_law_360 (by decide) (fun _ => ?_) (fun c9 => absurd (W_settle hW).1 c9)
  exact kk H locs ⟨_, _, _, _, _, _, _, _, _, _, _, _, _, _, _, _, _, _, _, _, _, _, _, (W_settle hW).2, hP, hD⟩ hS
set_option maxHeartbeats 4000000 in
set_option maxRecDepth 100000 in
/-- the law's call 7: relay -/
theorem lawc_7 {p : Program} {l : Launch} {e : Env} {s : State} {m : MethodId} {below : List Frame} {meth : Method} {c : Code} {b L : Nat} {xs : Nat → Int32} {G : GG} {oa ra ta ad qa ha a : Nat → Nat} {B S : Nat → Nat → Nat} {Q : State → Prop} {cells slots : Nat} (Z : LZ p s m c b L xs G) {i : Nat} (hi : i + 4 ≤ L) (hL : L ≤ 2048) {H : Heap} {locs : List Loc} {ls : Array Slot} (hI : LI G oa ra ta ad qa ha a B S (lA s) H) (hS : va_S (lA s) s.heap H locs) (hl : lv_has ls 4 [(0, .ref b), (1, .ref (oa 0)), (2, .ref (a 0)), (3, .int (nI i))]) (hc : cells ≤ room_1.cells) (hs : slots ≤ room_1.slots)
    (kk : ∀ (H : Heap) (locs : List Loc), LI G oa ra ta ad qa ha a B S (lA s) H → va_S (lA s) s.heap H locs → W p l e room_1 s m #[Value.ref b] below meth c H locs cells slots Q (F0 m 770 ls [])) : W p l e room_1 s m #[Value.ref b] below meth c H locs cells slots Q (F0 m 365 ls []) := by
  obtain ⟨hx, hb, hml, hown, hts, hX, hbl, hKK⟩ := Z
  have hbA : ¬ lA s b := Nat.not_le.mpr hbl
  obtain ⟨v, u, VH, VS, sv, pd, N, pp, k, ol, sz, st, kp, hi2, sl, sw, td, kr, pt, bn, hW, hP, hD⟩ := hI.get
  refine lv_aload_n hx hb dL_law_365 rfl (lv_at hl 1 rfl) ?_
  refine lv_aload_n hx hb dL_law_366 rfl (lv_at hl 0 rfl) ?_
  refine lv_iload_n hx hb dL_law_367 rfl (lv_at hl 3 rfl) ?_
  refine lv_iconst (v := 1) hx hb dL_law_368 (by decide) ?_
  refine lv_iadd hx hb dL_law_369 ?_
  refine lv_asi (show nI i + 1 = nI (i + 1) from nI_add i 1) ?_
  refine va_sld hx hb hX hbl hbA hS (vp_in_nI (show i + 1 < L by omega) (by omega)) dL_law_370 ?_
  refine lv_aload_n hx hb dL_law_371 rfl (lv_at hl 0 rfl) ?_
  refine lv_iload_n hx hb dL_law_372 rfl (lv_at hl 3 rfl) ?_
  refine lv_iconst (v := 2) hx hb dL_law_373 (by decide) ?_
  refine lv_iadd hx hb dL_law_374 ?_
  refine lv_asi (show nI i + 2 = nI (i + 2) from nI_add i 2) ?_
  refine va_sld hx hb hX hbl hbA hS (vp_in_nI (show i + 2 < L by omega) (by omega)) dL_law_375 ?_
  refine ro_V (As := [.int (xs (nI (i + 1)).toNatClampNeg), .int (xs (nI (i + 2)).toNatClampNeg)]) ⟨hx, hb, hml, hown, hts⟩ (c_X4_relay l G oa ra ta ad qa ha B S v u VH VS sv pd N pp k ol sz (xs (nI (i + 1)).toNatClampNeg) (xs (nI (i + 2)).toNatClampNeg) hW.1.1 hW.1.2.1 hW.1.2.2.1 hW.1.2.2.2 hW.gd.1 hW.ru) (cwV 2 hts gL_law_X4_relay rfl rfl rfl (by decide +kernel) ⟨Nat.le_of_ble_eq_true rfl, Nat.le_of_ble_eq_true rfl⟩) (lc_P hP) hKK (va_recv hKK.1 (lc_P hP) (ci := 4) (q0 := 0) rfl rfl) rfl hl.1 rfl (Nat.le_of_ble_eq_true rfl) dL_law_376 hc hs ?_
  refine lv_aload_n hx hb dL_law_379 rfl (lv_at hl 2 rfl) ?_
  refine lv_aload_n hx hb dL_law_380 rfl (lv_at hl 0 rfl) ?_
  refine lv_iload_n hx hb dL_law_381 rfl (lv_at hl 3 rfl) ?_
  refine lv_iconst (v := 1) hx hb dL_law_382 (by decide) ?_
  refine lv_iadd hx hb dL_law_383 ?_
  refine lv_asi (show nI i + 1 = nI (i + 1) from nI_add i 1) ?_
  refine va_sld hx hb hX hbl hbA hS (vp_in_nI (show i + 1 < L by omega) (by omega)) dL_law_384 ?_
  refine lv_aload_n hx hb dL_law_385 rfl (lv_at hl 0 rfl) ?_
  refine lv_iload_n hx hb dL_law_386 rfl (lv_at hl 3 rfl) ?_
  refine lv_iconst (v := 2) hx hb dL_law_387 (by decide) ?_
  refine lv_iadd hx hb dL_law_388 ?_
  refine lv_asi (show nI i + 2 = nI (i + 2) from nI_add i 2) ?_
  refine va_sld hx hb hX hbl hbA hS (vp_in_nI (show i + 2 < L by omega) (by omega)) dL_law_389 ?_
  refine ro_V (As := [.int (xs (nI (i + 1)).toNatClampNeg), .int (xs (nI (i + 2)).toNatClampNeg)]) ⟨hx, hb, hml, hown, hts⟩ (c_X5_relay l G a st kp hi2 sl sw pd td (nI sz) (nI N) pt (nI kr) bn (xs (nI (i + 1)).toNatClampNeg) (xs (nI (i + 2)).toNatClampNeg) hW.rs) (cwV 2 hts gL_law_X5_relay rfl rfl rfl (by decide +kernel) ⟨Nat.le_of_ble_eq_true rfl, Nat.le_of_ble_eq_true rfl⟩) (lm_P hP) hKK (va_recv hKK.1 (lm_P hP) (ci := 5) (q0 := 0) rfl rfl) rfl hl.1 rfl (Nat.le_of_ble_eq_true rfl) dL_law_390 hc hs ?_
  refine lv_icmp_eq (tgt := 770) hx hb dL_law_393 (by decide) (fun _ => ?_) (fun c9 => absurd (W_relay hW (xs (nI (i + 1)).toNatClampNeg) (xs (nI (i + 2)).toNatClampNeg)) c9)
  exact kk H locs ⟨_, _, _, _, _, _, _, _, _, _, _, _, _, _, _, _, _, _, _, _, _, _, _, hW, hP, hD⟩ hS
