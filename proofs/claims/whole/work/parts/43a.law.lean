/-! THE LAW, its calls 0 to 3 -/
set_option maxHeartbeats 4000000 in
set_option maxRecDepth 100000 in
/-- the law's call 0: time -/
theorem lawc_0 {p : Program} {l : Launch} {e : Env} {s : State} {m : MethodId} {below : List Frame} {meth : Method} {c : Code} {b L : Nat} {xs : Nat → Int32} {G : GG} {oa ra ta ad qa ha a : Nat → Nat} {B S : Nat → Nat → Nat} {Q : State → Prop} {cells slots : Nat} (Z : LZ p s m c b L xs G) {i : Nat} (hi : i + 4 ≤ L) (hL : L ≤ 2048) {H : Heap} {locs : List Loc} {ls : Array Slot} (hI : LI G oa ra ta ad qa ha a B S (lA s) H) (hS : va_S (lA s) s.heap H locs) (hl : lv_has ls 4 [(0, .ref b), (1, .ref (oa 0)), (2, .ref (a 0)), (3, .int (nI i))]) (hc : cells ≤ room_1.cells) (hs : slots ≤ room_1.slots)
    (kk : ∀ (H : Heap) (locs : List Loc), LI G oa ra ta ad qa ha a B S (lA s) H → va_S (lA s) s.heap H locs → W p l e room_1 s m #[Value.ref b] below meth c H locs cells slots Q (F0 m 770 ls [])) : W p l e room_1 s m #[Value.ref b] below meth c H locs cells slots Q (F0 m 136 ls []) := by
  obtain ⟨hx, hb, hml, hown, hts, hX, hbl, hKK⟩ := Z
  have hbA : ¬ lA s b := Nat.not_le.mpr hbl
  obtain ⟨v, u, VH, VS, sv, pd, N, pp, k, ol, sz, st, kp, hi2, sl, sw, td, kr, pt, bn, hW, hP, hD⟩ := hI.get
  by_cases hz : xs (nI (i + 2)).toNatClampNeg = 0
  · refine lv_aload_n hx hb dL_law_136 rfl (lv_at hl 1 rfl) ?_
    refine lv_aload_n hx hb dL_law_137 rfl (lv_at hl 0 rfl) ?_
    refine lv_iload_n hx hb dL_law_138 rfl (lv_at hl 3 rfl) ?_
    refine lv_iconst (v := 1) hx hb dL_law_139 (by decide) ?_
    refine lv_iadd hx hb dL_law_140 ?_
    refine lv_asi (show nI i + 1 = nI (i + 1) from nI_add i 1) ?_
    refine va_sld hx hb hX hbl hbA hS (vp_in_nI (show i + 1 < L by omega) (by omega)) dL_law_141 ?_
    refine lv_aload_n hx hb dL_law_142 rfl (lv_at hl 0 rfl) ?_
    refine lv_iload_n hx hb dL_law_143 rfl (lv_at hl 3 rfl) ?_
    refine lv_iconst (v := 2) hx hb dL_law_144 (by decide) ?_
    refine lv_iadd hx hb dL_law_145 ?_
    refine lv_asi (show nI i + 2 = nI (i + 2) from nI_add i 2) ?_
    refine va_sld hx hb hX hbl hbA hS (vp_in_nI (show i + 2 < L by omega) (by omega)) dL_law_146 ?_
    refine lv_if_eq (tgt := 154) hx hb dL_law_147 (by decide) (fun _ => ?_) (fun c9 => absurd hz c9)
    refine lv_iconst (v := 0) hx hb dL_law_154 (by decide) ?_
    refine lv_aload_n hx hb dL_law_155 rfl (lv_at hl 0 rfl) ?_
    refine lv_iload_n hx hb dL_law_156 rfl (lv_at hl 3 rfl) ?_
    refine lv_iconst (v := 3) hx hb dL_law_157 (by decide) ?_
    refine lv_iadd hx hb dL_law_158 ?_
    refine lv_asi (show nI i + 3 = nI (i + 3) from nI_add i 3) ?_
    refine va_sld hx hb hX hbl hbA hS (vp_in_nI (show i + 3 < L by omega) (by omega)) dL_law_159 ?_
    refine lc_W (As := [.int (xs (nI (i + 1)).toNatClampNeg), .int (b2i false), .int (xs (nI (i + 3)).toNatClampNeg)]) ⟨hx, hb, hml, hown, hts⟩ (c_X4_time l G oa ra ta ad qa ha B S v u VH VS sv pd N pp k ol sz (xs (nI (i + 1)).toNatClampNeg) false (xs (nI (i + 3)).toNatClampNeg) hW.1.1 hW.1.2.1 hW.1.2.2.1 hW.1.2.2.2 hW.gd.1 hW.ru) (cwV 3 hts gL_law_X4_time rfl rfl rfl (by decide +kernel) ⟨Nat.le_of_ble_eq_true rfl, Nat.le_of_ble_eq_true rfl⟩) hP hKK hD hS (va_recv hKK.1 (lc_P hP) (ci := 4) (q0 := 0) rfl rfl) rfl hl.1 rfl (Nat.le_of_ble_eq_true rfl) dL_law_160 hc hs (flat_addr rfl) (fun H locs hP hD hS => ?_)
    refine lv_aload_n hx hb dL_law_163 rfl (lv_at hl 2 rfl) ?_
    refine lv_aload_n hx hb dL_law_164 rfl (lv_at hl 0 rfl) ?_
    refine lv_iload_n hx hb dL_law_165 rfl (lv_at hl 3 rfl) ?_
    refine lv_iconst (v := 1) hx hb dL_law_166 (by decide) ?_
    refine lv_iadd hx hb dL_law_167 ?_
    refine lv_asi (show nI i + 1 = nI (i + 1) from nI_add i 1) ?_
    refine va_sld hx hb hX hbl hbA hS (vp_in_nI (show i + 1 < L by omega) (by omega)) dL_law_168 ?_
    refine lv_aload_n hx hb dL_law_169 rfl (lv_at hl 0 rfl) ?_
    refine lv_iload_n hx hb dL_law_170 rfl (lv_at hl 3 rfl) ?_
    refine lv_iconst (v := 2) hx hb dL_law_171 (by decide) ?_
    refine lv_iadd hx hb dL_law_172 ?_
    refine lv_asi (show nI i + 2 = nI (i + 2) from nI_add i 2) ?_
    refine va_sld hx hb hX hbl hbA hS (vp_in_nI (show i + 2 < L by omega) (by omega)) dL_law_173 ?_
    refine lv_if_eq (tgt := 181) hx hb dL_law_174 (by decide) (fun _ => ?_) (fun c9 => absurd hz c9)
    refine lv_iconst (v := 0) hx hb dL_law_181 (by decide) ?_
    refine lv_aload_n hx hb dL_law_182 rfl (lv_at hl 0 rfl) ?_
    refine lv_iload_n hx hb dL_law_183 rfl (lv_at hl 3 rfl) ?_
    refine lv_iconst (v := 3) hx hb dL_law_184 (by decide) ?_
    refine lv_iadd hx hb dL_law_185 ?_
    refine lv_asi (show nI i + 3 = nI (i + 3) from nI_add i 3) ?_
    refine va_sld hx hb hX hbl hbA hS (vp_in_nI (show i + 3 < L by omega) (by omega)) dL_law_186 ?_
    refine lm_W (As := [.int (xs (nI (i + 1)).toNatClampNeg), .int (b2i false), .int (xs (nI (i + 3)).toNatClampNeg)]) ⟨hx, hb, hml, hown, hts⟩ (c_X5_time l G a st kp hi2 sl sw pd td (nI N) pt (nI kr) bn (xs (nI (i + 1)).toNatClampNeg) false (xs (nI (i + 3)).toNatClampNeg) sz hW.1.2.2.2) (cwV 3 hts gL_law_X5_time rfl rfl rfl (by decide +kernel) ⟨Nat.le_of_ble_eq_true rfl, Nat.le_of_ble_eq_true rfl⟩) hP hKK hD hS (va_recv hKK.1 (lm_P hP) (ci := 5) (q0 := 0) rfl rfl) rfl hl.1 rfl (Nat.le_of_ble_eq_true rfl) dL_law_187 hc hs rfl (fun H locs hP hD hS => ?_)
    refine lv_icmp_eq (tgt := 770) hx hb dL_law_190 (by decide) (fun _ => ?_) (fun c9 => absurd (W_time hW (xs (nI (i + 1)).toNatClampNeg) false (xs (nI (i + 3)).toNatClampNeg)).1 c9)
    exact kk H locs ⟨_, _, _, _, _, _, _, _, _, _, _, _, _, _, _, _, _, _, _, _, _, _, _, (W_time hW (xs (nI (i + 1)).toNatClampNeg) false (xs (nI (i + 3)).toNatClampNeg)).2, hP, hD⟩ hS
  · refine lv_aload_n hx hb dL_law_136 rfl (lv_at hl 1 rfl) ?_
    refine lv_aload_n hx hb dL_law_137 rfl (lv_at hl 0 rfl) ?_
    refine lv_iload_n hx hb dL_law_138 rfl (lv_at hl 3 rfl) ?_
    refine lv_iconst (v := 1) hx hb dL_law_139 (by decide) ?_
    refine lv_iadd hx hb dL_law_140 ?_
    refine lv_asi (show nI i + 1 = nI (i + 1) from nI_add i 1) ?_
    refine va_sld hx hb hX hbl hbA hS (vp_in_nI (show i + 1 < L by omega) (by omega)) dL_law_141 ?_
    refine lv_aload_n hx hb dL_law_142 rfl (lv_at hl 0 rfl) ?_
    refine lv_iload_n hx hb dL_law_143 rfl (lv_at hl 3 rfl) ?_
    refine lv_iconst (v := 2) hx hb dL_law_144 (by decide) ?_
    refine lv_iadd hx hb dL_law_145 ?_
    refine lv_asi (show nI i + 2 = nI (i + 2) from nI_add i 2) ?_
    refine va_sld hx hb hX hbl hbA hS (vp_in_nI (show i + 2 < L by omega) (by omega)) dL_law_146 ?_
    refine lv_if_eq (tgt := 154) hx hb dL_law_147 (by decide) (fun c9 => absurd c9 hz) (fun _ => ?_)
    refine lv_iconst (v := 1) hx hb dL_law_150 (by decide) ?_
    refine lv_goto (tgt := 155) hx hb dL_law_151 (by decide) ?_
    refine lv_aload_n hx hb dL_law_155 rfl (lv_at hl 0 rfl) ?_
    refine lv_iload_n hx hb dL_law_156 rfl (lv_at hl 3 rfl) ?_
    refine lv_iconst (v := 3) hx hb dL_law_157 (by decide) ?_
    refine lv_iadd hx hb dL_law_158 ?_
    refine lv_asi (show nI i + 3 = nI (i + 3) from nI_add i 3) ?_
    refine va_sld hx hb hX hbl hbA hS (vp_in_nI (show i + 3 < L by omega) (by omega)) dL_law_159 ?_
    refine lc_W (As := [.int (xs (nI (i + 1)).toNatClampNeg), .int (b2i true), .int (xs (nI (i + 3)).toNatClampNeg)]) ⟨hx, hb, hml, hown, hts⟩ (c_X4_time l G oa ra ta ad qa ha B S v u VH VS sv pd N pp k ol sz (xs (nI (i + 1)).toNatClampNeg) true (xs (nI (i + 3)).toNatClampNeg) hW.1.1 hW.1.2.1 hW.1.2.2.1 hW.1.2.2.2 hW.gd.1 hW.ru) (cwV 3 hts gL_law_X4_time rfl rfl rfl (by decide +kernel) ⟨Nat.le_of_ble_eq_true rfl, Nat.le_of_ble_eq_true rfl⟩) hP hKK hD hS (va_recv hKK.1 (lc_P hP) (ci := 4) (q0 := 0) rfl rfl) rfl hl.1 rfl (Nat.le_of_ble_eq_true rfl) dL_law_160 hc hs (flat_addr rfl) (fun H locs hP hD hS => ?_)
    refine lv_aload_n hx hb dL_law_163 rfl (lv_at hl 2 rfl) ?_
    refine lv_aload_n hx hb dL_law_164 rfl (lv_at hl 0 rfl) ?_
    refine lv_iload_n hx hb dL_law_165 rfl (lv_at hl 3 rfl) ?_
    refine lv_iconst (v := 1) hx hb dL_law_166 (by decide) ?_
    refine lv_iadd hx hb dL_law_167 ?_
    refine lv_asi (show nI i + 1 = nI (i + 1) from nI_add i 1) ?_
    refine va_sld hx hb hX hbl hbA hS (vp_in_nI (show i + 1 < L by omega) (by omega)) dL_law_168 ?_
    refine lv_aload_n hx hb dL_law_169 rfl (lv_at hl 0 rfl) ?_
    refine lv_iload_n hx hb dL_law_170 rfl (lv_at hl 3 rfl) ?_
    refine lv_iconst (v := 2) hx hb dL_law_171 (by decide) ?_
    refine lv_iadd hx hb dL_law_172 ?_
    refine lv_asi (show nI i + 2 = nI (i + 2) from nI_add i 2) ?_
    refine va_sld hx hb hX hbl hbA hS (vp_in_nI (show i + 2 < L by omega) (by omega)) dL_law_173 ?_
    refine lv_if_eq (tgt := 181) hx hb dL_law_174 (by decide) (fun c9 => absurd c9 hz) (fun _ => ?_)
    refine lv_iconst (v := 1) hx hb dL_law_177 (by decide) ?_
    refine lv_goto (tgt := 182) hx hb dL_law_178 (by decide) ?_
    refine lv_aload_n hx hb dL_law_182 rfl (lv_at hl 0 rfl) ?_
    refine lv_iload_n hx hb dL_law_183 rfl (lv_at hl 3 rfl) ?_
    refine lv_iconst (v := 3) hx hb dL_law_184 (by decide) ?_
    refine lv_iadd hx hb dL_law_185 ?_
    refine lv_asi (show nI i + 3 = nI (i + 3) from nI_add i 3) ?_
    refine va_sld hx hb hX hbl hbA hS (vp_in_nI (show i + 3 < L by omega) (by omega)) dL_law_186 ?_
    refine lm_W (As := [.int (xs (nI (i + 1)).toNatClampNeg), .int (b2i true), .int (xs (nI (i + 3)).toNatClampNeg)]) ⟨hx, hb, hml, hown, hts⟩ (c_X5_time l G a st kp hi2 sl sw pd td (nI N) pt (nI kr) bn (xs (nI (i + 1)).toNatClampNeg) true (xs (nI (i + 3)).toNatClampNeg) sz hW.1.2.2.2) (cwV 3 hts gL_law_X5_time rfl rfl rfl (by decide +kernel) ⟨Nat.le_of_ble_eq_true rfl, Nat.le_of_ble_eq_true rfl⟩) hP hKK hD hS (va_recv hKK.1 (lm_P hP) (ci := 5) (q0 := 0) rfl rfl) rfl hl.1 rfl (Nat.le_of_ble_eq_true rfl) dL_law_187 hc hs rfl (fun H locs hP hD hS => ?_)
    refine lv_icmp_eq (tgt := 770) hx hb dL_law_190 (by decide) (fun _ => ?_) (fun c9 => absurd (W_time hW (xs (nI (i + 1)).toNatClampNeg) true (xs (nI (i + 3)).toNatClampNeg)).1 c9)
    exact kk H locs ⟨_, _, _, _, _, _, _, _, _, _, _, _, _, _, _, _, _, _, _, _, _, _, _, (W_time hW (xs (nI (i + 1)).toNatClampNeg) true (xs (nI (i + 3)).toNatClampNeg)).2, hP, hD⟩ hS
set_option maxHeartbeats 4000000 in
set_option maxRecDepth 100000 in
/-- the law's call 1: life -/
theorem lawc_1 {p : Program} {l : Launch} {e : Env} {s : State} {m : MethodId} {below : List Frame} {meth : Method} {c : Code} {b L : Nat} {xs : Nat → Int32} {G : GG} {oa ra ta ad qa ha a : Nat → Nat} {B S : Nat → Nat → Nat} {Q : State → Prop} {cells slots : Nat} (Z : LZ p s m c b L xs G) {i : Nat} (hi : i + 4 ≤ L) (hL : L ≤ 2048) {H : Heap} {locs : List Loc} {ls : Array Slot} (hI : LI G oa ra ta ad qa ha a B S (lA s) H) (hS : va_S (lA s) s.heap H locs) (hl : lv_has ls 4 [(0, .ref b), (1, .ref (oa 0)), (2, .ref (a 0)), (3, .int (nI i))]) (hc : cells ≤ room_1.cells) (hs : slots ≤ room_1.slots)
    (kk : ∀ (H : Heap) (locs : List Loc), LI G oa ra ta ad qa ha a B S (lA s) H → va_S (lA s) s.heap H locs → W p l e room_1 s m #[Value.ref b] below meth c H locs cells slots Q (F0 m 770 ls [])) : W p l e room_1 s m #[Value.ref b] below meth c H locs cells slots Q (F0 m 195 ls []) := by
  obtain ⟨hx, hb, hml, hown, hts, hX, hbl, hKK⟩ := Z
  have hbA : ¬ lA s b := Nat.not_le.mpr hbl
  obtain ⟨v, u, VH, VS, sv, pd, N, pp, k, ol, sz, st, kp, hi2, sl, sw, td, kr, pt, bn, hW, hP, hD⟩ := hI.get
  refine lv_aload_n hx hb dL_law_195 rfl (lv_at hl 1 rfl) ?_
  refine lv_aload_n hx hb dL_law_196 rfl (lv_at hl 0 rfl) ?_
  refine lv_iload_n hx hb dL_law_197 rfl (lv_at hl 3 rfl) ?_
  refine lv_iconst (v := 1) hx hb dL_law_198 (by decide) ?_
  refine lv_iadd hx hb dL_law_199 ?_
  refine lv_asi (show nI i + 1 = nI (i + 1) from nI_add i 1) ?_
  refine va_sld hx hb hX hbl hbA hS (vp_in_nI (show i + 1 < L by omega) (by omega)) dL_law_200 ?_
  refine lc_W (As := [.int (xs (nI (i + 1)).toNatClampNeg)]) ⟨hx, hb, hml, hown, hts⟩ (c_X4_life l G oa ra ta ad qa ha B S v u VH VS sv pd N pp k ol sz (xs (nI (i + 1)).toNatClampNeg) hW.1.1 hW.1.2.1 hW.1.2.2.1 hW.1.2.2.2 hW.gd.1 hW.ru) (cwV 1 hts gL_law_X4_life rfl rfl rfl (by decide +kernel) ⟨Nat.le_of_ble_eq_true rfl, Nat.le_of_ble_eq_true rfl⟩) hP hKK hD hS (va_recv hKK.1 (lc_P hP) (ci := 4) (q0 := 0) rfl rfl) rfl hl.1 rfl (Nat.le_of_ble_eq_true rfl) dL_law_201 hc hs (flat_addr rfl) (fun H locs hP hD hS => ?_)
  refine lv_aload_n hx hb dL_law_204 rfl (lv_at hl 2 rfl) ?_
  refine lv_aload_n hx hb dL_law_205 rfl (lv_at hl 0 rfl) ?_
  refine lv_iload_n hx hb dL_law_206 rfl (lv_at hl 3 rfl) ?_
  refine lv_iconst (v := 1) hx hb dL_law_207 (by decide) ?_
  refine lv_iadd hx hb dL_law_208 ?_
  refine lv_asi (show nI i + 1 = nI (i + 1) from nI_add i 1) ?_
  refine va_sld hx hb hX hbl hbA hS (vp_in_nI (show i + 1 < L by omega) (by omega)) dL_law_209 ?_
  refine lm_W (As := [.int (xs (nI (i + 1)).toNatClampNeg)]) ⟨hx, hb, hml, hown, hts⟩ (c_X5_life l G a st kp hi2 sl sw pd td (nI N) pt (nI kr) bn (xs (nI (i + 1)).toNatClampNeg) sz hW.1.2.2.2) (cwV 1 hts gL_law_X5_life rfl rfl rfl (by decide +kernel) ⟨Nat.le_of_ble_eq_true rfl, Nat.le_of_ble_eq_true rfl⟩) hP hKK hD hS (va_recv hKK.1 (lm_P hP) (ci := 5) (q0 := 0) rfl rfl) rfl hl.1 rfl (Nat.le_of_ble_eq_true rfl) dL_law_210 hc hs rfl (fun H locs hP hD hS => ?_)
  refine lv_icmp_eq (tgt := 770) hx hb dL_law_213 (by decide) (fun _ => ?_) (fun c9 => absurd (W_life hW (xs (nI (i + 1)).toNatClampNeg)).1 c9)
  exact kk H locs ⟨_, _, _, _, _, _, _, _, _, _, _, _, _, _, _, _, _, _, _, _, _, _, _, (W_life hW (xs (nI (i + 1)).toNatClampNeg)).2, hP, hD⟩ hS
set_option maxHeartbeats 4000000 in
set_option maxRecDepth 100000 in
/-- the law's call 2: read -/
theorem lawc_2 {p : Program} {l : Launch} {e : Env} {s : State} {m : MethodId} {below : List Frame} {meth : Method} {c : Code} {b L : Nat} {xs : Nat → Int32} {G : GG} {oa ra ta ad qa ha a : Nat → Nat} {B S : Nat → Nat → Nat} {Q : State → Prop} {cells slots : Nat} (Z : LZ p s m c b L xs G) {i : Nat} (hi : i + 4 ≤ L) (hL : L ≤ 2048) {H : Heap} {locs : List Loc} {ls : Array Slot} (hI : LI G oa ra ta ad qa ha a B S (lA s) H) (hS : va_S (lA s) s.heap H locs) (hl : lv_has ls 4 [(0, .ref b), (1, .ref (oa 0)), (2, .ref (a 0)), (3, .int (nI i))]) (hc : cells ≤ room_1.cells) (hs : slots ≤ room_1.slots)
    (kk : ∀ (H : Heap) (locs : List Loc), LI G oa ra ta ad qa ha a B S (lA s) H → va_S (lA s) s.heap H locs → W p l e room_1 s m #[Value.ref b] below meth c H locs cells slots Q (F0 m 770 ls [])) : W p l e room_1 s m #[Value.ref b] below meth c H locs cells slots Q (F0 m 218 ls []) := by
  obtain ⟨hx, hb, hml, hown, hts, hX, hbl, hKK⟩ := Z
  have hbA : ¬ lA s b := Nat.not_le.mpr hbl
  obtain ⟨v, u, VH, VS, sv, pd, N, pp, k, ol, sz, st, kp, hi2, sl, sw, td, kr, pt, bn, hW, hP, hD⟩ := hI.get
  refine lv_aload_n hx hb dL_law_218 rfl (lv_at hl 1 rfl) ?_
  refine lc_W (As := []) ⟨hx, hb, hml, hown, hts⟩ (c_X4_read l G oa ra ta ad qa ha B S v u VH VS sv pd N pp k ol sz  hW.1.1 hW.1.2.1 hW.1.2.2.1 hW.1.2.2.2 hW.gd.1 hW.ru) (cwV 0 hts gL_law_X4_read rfl rfl rfl (by decide +kernel) ⟨Nat.le_of_ble_eq_true rfl, Nat.le_of_ble_eq_true rfl⟩) hP hKK hD hS (va_recv hKK.1 (lc_P hP) (ci := 4) (q0 := 0) rfl rfl) rfl hl.1 rfl (Nat.le_of_ble_eq_true rfl) dL_law_219 hc hs (flat_addr rfl) (fun H locs hP hD hS => ?_)
  refine lv_aload_n hx hb dL_law_222 rfl (lv_at hl 2 rfl) ?_
  refine lm_W (As := []) ⟨hx, hb, hml, hown, hts⟩ (c_X5_read l G a st kp hi2 sl sw pd td pt bn N kr sz hW.1.1 hW.1.2.2.2) (cwV 0 hts gL_law_X5_read rfl rfl rfl (by decide +kernel) ⟨Nat.le_of_ble_eq_true rfl, Nat.le_of_ble_eq_true rfl⟩) hP hKK hD hS (va_recv hKK.1 (lm_P hP) (ci := 5) (q0 := 0) rfl rfl) rfl hl.1 rfl (Nat.le_of_ble_eq_true rfl) dL_law_223 hc hs rfl (fun H locs hP hD hS => ?_)
  refine lv_icmp_eq (tgt := 770) hx hb dL_law_226 (by decide) (fun _ => ?_) (fun c9 => absurd (W_read hW kr td).1 c9)
  exact kk H locs ⟨_, _, _, _, _, _, _, _, _, _, _, _, _, _, _, _, _, _, _, _, _, _, _, (W_read hW kr td).2, hP, hD⟩ hS
set_option maxHeartbeats 4000000 in
set_option maxRecDepth 100000 in
/-- the law's call 3: press -/
theorem lawc_3 {p : Program} {l : Launch} {e : Env} {s : State} {m : MethodId} {below : List Frame} {meth : Method} {c : Code} {b L : Nat} {xs : Nat → Int32} {G : GG} {oa ra ta ad qa ha a : Nat → Nat} {B S : Nat → Nat → Nat} {Q : State → Prop} {cells slots : Nat} (Z : LZ p s m c b L xs G) {i : Nat} (hi : i + 4 ≤ L) (hL : L ≤ 2048) {H : Heap} {locs : List Loc} {ls : Array Slot} (hI : LI G oa ra ta ad qa ha a B S (lA s) H) (hS : va_S (lA s) s.heap H locs) (hl : lv_has ls 4 [(0, .ref b), (1, .ref (oa 0)), (2, .ref (a 0)), (3, .int (nI i))]) (hc : cells ≤ room_1.cells) (hs : slots ≤ room_1.slots)
    (kk : ∀ (H : Heap) (locs : List Loc), LI G oa ra ta ad qa ha a B S (lA s) H → va_S (lA s) s.heap H locs → W p l e room_1 s m #[Value.ref b] below meth c H locs cells slots Q (F0 m 770 ls [])) : W p l e room_1 s m #[Value.ref b] below meth c H locs cells slots Q (F0 m 231 ls []) := by
  obtain ⟨hx, hb, hml, hown, hts, hX, hbl, hKK⟩ := Z
  have hbA : ¬ lA s b := Nat.not_le.mpr hbl
  obtain ⟨v, u, VH, VS, sv, pd, N, pp, k, ol, sz, st, kp, hi2, sl, sw, td, kr, pt, bn, hW, hP, hD⟩ := hI.get
  by_cases hz : xs (nI (i + 2)).toNatClampNeg = 0
  · refine lv_aload_n hx hb dL_law_231 rfl (lv_at hl 1 rfl) ?_
    refine lv_aload_n hx hb dL_law_232 rfl (lv_at hl 0 rfl) ?_
    refine lv_iload_n hx hb dL_law_233 rfl (lv_at hl 3 rfl) ?_
    refine lv_iconst (v := 1) hx hb dL_law_234 (by decide) ?_
    refine lv_iadd hx hb dL_law_235 ?_
    refine lv_asi (show nI i + 1 = nI (i + 1) from nI_add i 1) ?_
    refine va_sld hx hb hX hbl hbA hS (vp_in_nI (show i + 1 < L by omega) (by omega)) dL_law_236 ?_
    refine lv_aload_n hx hb dL_law_237 rfl (lv_at hl 0 rfl) ?_
    refine lv_iload_n hx hb dL_law_238 rfl (lv_at hl 3 rfl) ?_
    refine lv_iconst (v := 2) hx hb dL_law_239 (by decide) ?_
    refine lv_iadd hx hb dL_law_240 ?_
    refine lv_asi (show nI i + 2 = nI (i + 2) from nI_add i 2) ?_
    refine va_sld hx hb hX hbl hbA hS (vp_in_nI (show i + 2 < L by omega) (by omega)) dL_law_241 ?_
    refine lv_if_eq (tgt := 249) hx hb dL_law_242 (by decide) (fun _ => ?_) (fun c9 => absurd hz c9)
    refine lv_iconst (v := 0) hx hb dL_law_249 (by decide) ?_
    refine lc_W (As := [.int (xs (nI (i + 1)).toNatClampNeg), .int (b2i false)]) ⟨hx, hb, hml, hown, hts⟩ (c_X4_press l G oa ra ta ad qa ha B S v u VH VS sv pd N pp k ol sz (xs (nI (i + 1)).toNatClampNeg) false hW.1.1 hW.1.2.1 hW.1.2.2.1 hW.1.2.2.2 hW.gd.1 hW.ru) (cwV 2 hts gL_law_X4_press rfl rfl rfl (by decide +kernel) ⟨Nat.le_of_ble_eq_true rfl, Nat.le_of_ble_eq_true rfl⟩) hP hKK hD hS (va_recv hKK.1 (lc_P hP) (ci := 4) (q0 := 0) rfl rfl) rfl hl.1 rfl (Nat.le_of_ble_eq_true rfl) dL_law_250 hc hs (flat_addr rfl) (fun H locs hP hD hS => ?_)
    refine lv_aload_n hx hb dL_law_253 rfl (lv_at hl 2 rfl) ?_
    refine lv_aload_n hx hb dL_law_254 rfl (lv_at hl 0 rfl) ?_
    refine lv_iload_n hx hb dL_law_255 rfl (lv_at hl 3 rfl) ?_
    refine lv_iconst (v := 1) hx hb dL_law_256 (by decide) ?_
    refine lv_iadd hx hb dL_law_257 ?_
    refine lv_asi (show nI i + 1 = nI (i + 1) from nI_add i 1) ?_
    refine va_sld hx hb hX hbl hbA hS (vp_in_nI (show i + 1 < L by omega) (by omega)) dL_law_258 ?_
    refine lv_aload_n hx hb dL_law_259 rfl (lv_at hl 0 rfl) ?_
    refine lv_iload_n hx hb dL_law_260 rfl (lv_at hl 3 rfl) ?_
    refine lv_iconst (v := 2) hx hb dL_law_261 (by decide) ?_
    refine lv_iadd hx hb dL_law_262 ?_
    refine lv_asi (show nI i + 2 = nI (i + 2) from nI_add i 2) ?_
    refine va_sld hx hb hX hbl hbA hS (vp_in_nI (show i + 2 < L by omega) (by omega)) dL_law_263 ?_
    refine lv_if_eq (tgt := 271) hx hb dL_law_264 (by decide) (fun _ => ?_) (fun c9 => absurd hz c9)
    refine lv_iconst (v := 0) hx hb dL_law_271 (by decide) ?_
    refine lm_W (As := [.int (xs (nI (i + 1)).toNatClampNeg), .int (b2i false)]) ⟨hx, hb, hml, hown, hts⟩ (c_X5_press l G a st kp hi2 sl sw pd td (nI N) pt (nI kr) bn (xs (nI (i + 1)).toNatClampNeg) false sz hW.1.2.2.2 hW.rs) (cwV 2 hts gL_law_X5_press rfl rfl rfl (by decide +kernel) ⟨Nat.le_of_ble_eq_true rfl, Nat.le_of_ble_eq_true rfl⟩) hP hKK hD hS (va_recv hKK.1 (lm_P hP) (ci := 5) (q0 := 0) rfl rfl) rfl hl.1 rfl (Nat.le_of_ble_eq_true rfl) dL_law_272 hc hs rfl (fun H locs hP hD hS => ?_)
    refine lv_icmp_eq (tgt := 770) hx hb dL_law_275 (by decide) (fun _ => ?_) (fun c9 => absurd (W_press hW (xs (nI (i + 1)).toNatClampNeg) false).1 c9)
    exact kk H locs ⟨_, _, _, _, _, _, _, _, _, _, _, _, _, _, _, _, _, _, _, _, _, _, _, (W_press hW (xs (nI (i + 1)).toNatClampNeg) false).2, hP, hD⟩ hS
  · refine lv_aload_n hx hb dL_law_231 rfl (lv_at hl 1 rfl) ?_
    refine lv_aload_n hx hb dL_law_232 rfl (lv_at hl 0 rfl) ?_
    refine lv_iload_n hx hb dL_law_233 rfl (lv_at hl 3 rfl) ?_
    refine lv_iconst (v := 1) hx hb dL_law_234 (by decide) ?_
    refine lv_iadd hx hb dL_law_235 ?_
    refine lv_asi (show nI i + 1 = nI (i + 1) from nI_add i 1) ?_
    refine va_sld hx hb hX hbl hbA hS (vp_in_nI (show i + 1 < L by omega) (by omega)) dL_law_236 ?_
    refine lv_aload_n hx hb dL_law_237 rfl (lv_at hl 0 rfl) ?_
    refine lv_iload_n hx hb dL_law_238 rfl (lv_at hl 3 rfl) ?_
    refine lv_iconst (v := 2) hx hb dL_law_239 (by decide) ?_
    refine lv_iadd hx hb dL_law_240 ?_
    refine lv_asi (show nI i + 2 = nI (i + 2) from nI_add i 2) ?_
    refine va_sld hx hb hX hbl hbA hS (vp_in_nI (show i + 2 < L by omega) (by omega)) dL_law_241 ?_
    refine lv_if_eq (tgt := 249) hx hb dL_law_242 (by decide) (fun c9 => absurd c9 hz) (fun _ => ?_)
    refine lv_iconst (v := 1) hx hb dL_law_245 (by decide) ?_
    refine lv_goto (tgt := 250) hx hb dL_law_246 (by decide) ?_
    refine lc_W (As := [.int (xs (nI (i + 1)).toNatClampNeg), .int (b2i true)]) ⟨hx, hb, hml, hown, hts⟩ (c_X4_press l G oa ra ta ad qa ha B S v u VH VS sv pd N pp k ol sz (xs (nI (i + 1)).toNatClampNeg) true hW.1.1 hW.1.2.1 hW.1.2.2.1 hW.1.2.2.2 hW.gd.1 hW.ru) (cwV 2 hts gL_law_X4_press rfl rfl rfl (by decide +kernel) ⟨Nat.le_of_ble_eq_true rfl, Nat.le_of_ble_eq_true rfl⟩) hP hKK hD hS (va_recv hKK.1 (lc_P hP) (ci := 4) (q0 := 0) rfl rfl) rfl hl.1 rfl (Nat.le_of_ble_eq_true rfl) dL_law_250 hc hs (flat_addr rfl) (fun H locs hP hD hS => ?_)
    refine lv_aload_n hx hb dL_law_253 rfl (lv_at hl 2 rfl) ?_
    refine lv_aload_n hx hb dL_law_254 rfl (lv_at hl 0 rfl) ?_
    refine lv_iload_n hx hb dL_law_255 rfl (lv_at hl 3 rfl) ?_
    refine lv_iconst (v := 1) hx hb dL_law_256 (by decide) ?_
    refine lv_iadd hx hb dL_law_257 ?_
    refine lv_asi (show nI i + 1 = nI (i + 1) from nI_add i 1) ?_
    refine va_sld hx hb hX hbl hbA hS (vp_in_nI (show i + 1 < L by omega) (by omega)) dL_law_258 ?_
    refine lv_aload_n hx hb dL_law_259 rfl (lv_at hl 0 rfl) ?_
    refine lv_iload_n hx hb dL_law_260 rfl (lv_at hl 3 rfl) ?_
    refine lv_iconst (v := 2) hx hb dL_law_261 (by decide) ?_
    refine lv_iadd hx hb dL_law_262 ?_
    refine lv_asi (show nI i + 2 = nI (i + 2) from nI_add i 2) ?_
    refine va_sld hx hb hX hbl hbA hS (vp_in_nI (show i + 2 < L by omega) (by omega)) dL_law_263 ?_
    refine lv_if_eq (tgt := 271) hx hb dL_law_264 (by decide) (fun c9 => absurd c9 hz) (fun _ => ?_)
    refine lv_iconst (v := 1) hx hb dL_law_267 (by decide) ?_
    refine lv_goto (tgt := 272) hx hb dL_law_268 (by decide) ?_
    refine lm_W (As := [.int (xs (nI (i + 1)).toNatClampNeg), .int (b2i true)]) ⟨hx, hb, hml, hown, hts⟩ (c_X5_press l G a st kp hi2 sl sw pd td (nI N) pt (nI kr) bn (xs (nI (i + 1)).toNatClampNeg) true sz hW.1.2.2.2 hW.rs) (cwV 2 hts gL_law_X5_press rfl rfl rfl (by decide +kernel) ⟨Nat.le_of_ble_eq_true rfl, Nat.le_of_ble_eq_true rfl⟩) hP hKK hD hS (va_recv hKK.1 (lm_P hP) (ci := 5) (q0 := 0) rfl rfl) rfl hl.1 rfl (Nat.le_of_ble_eq_true rfl) dL_law_272 hc hs rfl (fun H locs hP hD hS => ?_)
    refine lv_icmp_eq (tgt := 770) hx hb dL_law_275 (by decide) (fun _ => ?_) (fun c9 => absurd (W_press hW (xs (nI (i + 1)).toNatClampNeg) true).1 c9)
    exact kk H locs ⟨_, _, _, _, _, _, _, _, _, _, _, _, _, _, _, _, _, _, _, _, _, _, _, (W_press hW (xs (nI (i + 1)).toNatClampNeg) true).2, hP, hD⟩ hS
