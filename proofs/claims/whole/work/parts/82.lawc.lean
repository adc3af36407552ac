set_option maxHeartbeats 4000000 in
set_option maxRecDepth 100000 in
theorem law_mount {p : Program} {l : Launch} {e : Env} {s : State} {m : MethodId} {below : List Frame} {meth : Method} {c : Code} {b L : Nat} {xs : Nat → Int32} {G : zG} {ad : Nat → Nat} {o ac aw ar : Nat} {u : va_W} {M : Nat → Nat → Int32} {lev : Nat → UInt32} {H : Heap} {locs : List Loc} {cells slots : Nat} {Q : State → Prop} {ls : Array Slot} {x3 : Int32} (C : zLaw p s m c b L xs G) (hv : ∀ k : Nat, k < 8 → vp_in (x3 + nI k) L) (hl : lv_has ls 4 [(3, .int x3), (2, .ref (ad 0)), (1, .ref o), (0, .ref b)]) (hc1 : cells + 26 ≤ 600000) (hs1 : slots + 505 ≤ 7302250) (hz : zLI2 G o ac aw ar u M lev) (w : zW G (zAl s) s H locs (u ++ mW G ad M lev)) (kk : ∀ (u : va_W) (M : Nat → Nat → Int32) (lev : Nat → UInt32) (H : Heap) (locs : List Loc), zLI2 G o ac aw ar u M lev → zW G (zAl s) s H locs (u ++ mW G ad M lev) → W p l e room_1 s m #[Value.ref b] below meth c H locs (cells + 26) (slots + 505) Q (F0 m 977 ls [])) : W p l e room_1 s m #[Value.ref b] below meth c H locs cells slots Q (F0 m 120 ls []) := by
  obtain ⟨hx, hb, hml, hown, hts, hX, hbl, hK⟩ := C
  have hbA : ¬ zAl s b := Nat.not_le.mpr hbl
  have hv1 : vp_in (x3 + 1) L := hv 1 (by decide)
  have hv2 : vp_in (x3 + 2) L := hv 2 (by decide)
  have hv3 : vp_in (x3 + 3) L := hv 3 (by decide)
  obtain ⟨L0, f, ch, m0, car, wa, ta, φ, rfl, hR⟩ := hz
  refine lv_aload_n hx hb dL_law_120 rfl (lv_at hl 2 rfl) ?_
  refine lv_aload_n hx hb dL_law_121 rfl (lv_at hl 3 rfl) ?_
  refine lv_iload_n hx hb dL_law_122 rfl (lv_at hl 0 rfl) ?_
  refine lv_iconst (v := 1) hx hb dL_law_123 (by decide) ?_
  refine lv_iadd hx hb dL_law_124 ?_
  refine va_sld hx hb hX hbl hbA w.2.2.1 hv1 dL_law_125 ?_
  refine lv_aload_n hx hb dL_law_126 rfl (lv_at hl 3 rfl) ?_
  refine lv_iload_n hx hb dL_law_127 rfl (lv_at hl 0 rfl) ?_
  refine lv_iconst (v := 2) hx hb dL_law_128 (by decide) ?_
  refine lv_iadd hx hb dL_law_129 ?_
  refine va_sld hx hb hX hbl hbA w.2.2.1 hv2 dL_law_130 ?_
  refine lv_aload_n hx hb dL_law_131 rfl (lv_at hl 3 rfl) ?_
  refine lv_iload_n hx hb dL_law_132 rfl (lv_at hl 0 rfl) ?_
  refine lv_iconst (v := 3) hx hb dL_law_133 (by decide) ?_
  refine lv_iadd hx hb dL_law_134 ?_
  refine va_sld hx hb hX hbl hbA w.2.2.1 hv3 dL_law_135 ?_
  refine zXl w (va_runV (As := [.int (xs (x3 + 1).toNatClampNeg), .int (xs (x3 + 2).toNatClampNeg), .int (xs (x3 + 3).toNatClampNeg)]) (rest := []) ⟨hx, hb, hml, hown, hts⟩ (kX6_mount l G hR.1.1 hR.1.2.1 hR.1.2.2.1 (xs (x3 + 1).toNatClampNeg) (xs (x3 + 2).toNatClampNeg) (xs (x3 + 3).toNatClampNeg) H.size) (cwV 3 hts gL_law_X6_mount rfl rfl rfl (by decide +kernel) ⟨(Nat.le_of_ble_eq_true rfl), (Nat.le_of_ble_eq_true rfl)⟩) (zPV (zWl w) hK (px_recv (r := (RX6, TX6, 4)) hK (zWl w) hR.1.1.1.1 hR.1.1.2.1 rfl)) rfl rfl hl.1 rfl (lv_room (Nat.le_of_ble_eq_true rfl)) dL_law_136 ⟨Nat.le_trans (Nat.add_le_add_left (Nat.le_of_ble_eq_true rfl) cells) hc1, Nat.le_trans (Nat.add_le_add_left (Nat.le_of_ble_eq_true rfl) slots) hs1⟩) (fun r u H locs h1 w => ?_)
  refine W.widen (k := cells + 26) (n := slots + 505) (Nat.add_le_add_left (Nat.le_of_ble_eq_true rfl) cells) (Nat.add_le_add_left (Nat.le_of_ble_eq_true rfl) slots) ?_
  refine lv_aload_n hx hb dL_law_139 rfl (lv_at hl 1 rfl) ?_
  refine lv_aload_n hx hb dL_law_140 rfl (lv_at hl 3 rfl) ?_
  refine lv_iload_n hx hb dL_law_141 rfl (lv_at hl 0 rfl) ?_
  refine lv_iconst (v := 1) hx hb dL_law_142 (by decide) ?_
  refine lv_iadd hx hb dL_law_143 ?_
  refine va_sld hx hb hX hbl hbA w.2.2.1 hv1 dL_law_144 ?_
  refine lv_aload_n hx hb dL_law_145 rfl (lv_at hl 3 rfl) ?_
  refine lv_iload_n hx hb dL_law_146 rfl (lv_at hl 0 rfl) ?_
  refine lv_iconst (v := 2) hx hb dL_law_147 (by decide) ?_
  refine lv_iadd hx hb dL_law_148 ?_
  refine va_sld hx hb hX hbl hbA w.2.2.1 hv2 dL_law_149 ?_
  refine lv_aload_n hx hb dL_law_150 rfl (lv_at hl 3 rfl) ?_
  refine lv_iload_n hx hb dL_law_151 rfl (lv_at hl 0 rfl) ?_
  refine lv_iconst (v := 3) hx hb dL_law_152 (by decide) ?_
  refine lv_iadd hx hb dL_law_153 ?_
  refine va_sld hx hb hX hbl hbA w.2.2.1 hv3 dL_law_154 ?_
  have w := zWs w
  refine zXl w (va_runV (As := [.int (xs (x3 + 1).toNatClampNeg), .int (xs (x3 + 2).toNatClampNeg), .int (xs (x3 + 3).toNatClampNeg)]) (rest := [.long r]) ⟨hx, hb, hml, hown, hts⟩ (kX7_mount l G ad hR.2.2.2.2.2.2.2.2 (xs (x3 + 1).toNatClampNeg) (xs (x3 + 2).toNatClampNeg) (xs (x3 + 3).toNatClampNeg) H.size) (cwV 3 hts gL_law_X7_mount rfl rfl rfl (by decide +kernel) ⟨(Nat.le_of_ble_eq_true rfl), (Nat.le_of_ble_eq_true rfl)⟩) (zPV (zWl w) hK (va_recv (q := (RX7, TX7, 11)) hK.1 (zWl w).1 (ci := 6) (q0 := 0) rfl rfl)) rfl rfl hl.1 rfl (lv_room (Nat.le_of_ble_eq_true rfl)) dL_law_155 ⟨hc1, hs1⟩) (fun v u2 H locs h2 w => ?_)
  obtain ⟨er, M2, lev2, e2, hz2⟩ := st_mount hR h1 h2
  subst e2
  have w := zWs w
  refine W.lcmp hx hb dL_law_158 ?_
  refine lv_if_eq (tgt := 977) hx hb dL_law_159 (by decide) (fun c9 => ?_) (fun c9 => absurd er (zcmp1 c9))
  exact kk u M2 lev2 _ _ hz2 w
set_option maxHeartbeats 4000000 in
set_option maxRecDepth 100000 in
theorem law_eject {p : Program} {l : Launch} {e : Env} {s : State} {m : MethodId} {below : List Frame} {meth : Method} {c : Code} {b L : Nat} {xs : Nat → Int32} {G : zG} {ad : Nat → Nat} {o ac aw ar : Nat} {u : va_W} {M : Nat → Nat → Int32} {lev : Nat → UInt32} {H : Heap} {locs : List Loc} {cells slots : Nat} {Q : State → Prop} {ls : Array Slot} {x3 : Int32} (C : zLaw p s m c b L xs G) (hv : ∀ k : Nat, k < 8 → vp_in (x3 + nI k) L) (hl : lv_has ls 4 [(3, .int x3), (2, .ref (ad 0)), (1, .ref o), (0, .ref b)]) (hc1 : cells + 26 ≤ 600000) (hs1 : slots + 505 ≤ 7302250) (hz : zLI2 G o ac aw ar u M lev) (w : zW G (zAl s) s H locs (u ++ mW G ad M lev)) (kk : ∀ (u : va_W) (M : Nat → Nat → Int32) (lev : Nat → UInt32) (H : Heap) (locs : List Loc), zLI2 G o ac aw ar u M lev → zW G (zAl s) s H locs (u ++ mW G ad M lev) → W p l e room_1 s m #[Value.ref b] below meth c H locs (cells + 26) (slots + 505) Q (F0 m 977 ls [])) : W p l e room_1 s m #[Value.ref b] below meth c H locs cells slots Q (F0 m 164 ls []) := by
  obtain ⟨hx, hb, hml, hown, hts, hX, hbl, hK⟩ := C
  have hbA : ¬ zAl s b := Nat.not_le.mpr hbl
  have hv1 : vp_in (x3 + 1) L := hv 1 (by decide)
  have hv2 : vp_in (x3 + 2) L := hv 2 (by decide)
  obtain ⟨L0, f, ch, m0, car, wa, ta, φ, rfl, hR⟩ := hz
  refine lv_aload_n hx hb dL_law_164 rfl (lv_at hl 2 rfl) ?_
  refine lv_aload_n hx hb dL_law_165 rfl (lv_at hl 3 rfl) ?_
  refine lv_iload_n hx hb dL_law_166 rfl (lv_at hl 0 rfl) ?_
  refine lv_iconst (v := 1) hx hb dL_law_167 (by decide) ?_
  refine lv_iadd hx hb dL_law_168 ?_
  refine va_sld hx hb hX hbl hbA w.2.2.1 hv1 dL_law_169 ?_
  refine lv_aload_n hx hb dL_law_170 rfl (lv_at hl 3 rfl) ?_
  refine lv_iload_n hx hb dL_law_171 rfl (lv_at hl 0 rfl) ?_
  refine lv_iconst (v := 2) hx hb dL_law_172 (by decide) ?_
  refine lv_iadd hx hb dL_law_173 ?_
  refine va_sld hx hb hX hbl hbA w.2.2.1 hv2 dL_law_174 ?_
  refine zXl w (va_runV (As := [.int (xs (x3 + 1).toNatClampNeg), .int (xs (x3 + 2).toNatClampNeg)]) (rest := []) ⟨hx, hb, hml, hown, hts⟩ (kX6_eject l G hR.1.1 hR.1.2.1 hR.1.2.2.1 (xs (x3 + 1).toNatClampNeg) (xs (x3 + 2).toNatClampNeg) H.size) (cwV 2 hts gL_law_X6_eject rfl rfl rfl (by decide +kernel) ⟨(Nat.le_of_ble_eq_true rfl), (Nat.le_of_ble_eq_true rfl)⟩) (zPV (zWl w) hK (px_recv (r := (RX6, TX6, 4)) hK (zWl w) hR.1.1.1.1 hR.1.1.2.1 rfl)) rfl rfl hl.1 rfl (lv_room (Nat.le_of_ble_eq_true rfl)) dL_law_175 ⟨Nat.le_trans (Nat.add_le_add_left (Nat.le_of_ble_eq_true rfl) cells) hc1, Nat.le_trans (Nat.add_le_add_left (Nat.le_of_ble_eq_true rfl) slots) hs1⟩) (fun r u H locs h1 w => ?_)
  refine W.widen (k := cells + 26) (n := slots + 505) (Nat.add_le_add_left (Nat.le_of_ble_eq_true rfl) cells) (Nat.add_le_add_left (Nat.le_of_ble_eq_true rfl) slots) ?_
  refine lv_aload_n hx hb dL_law_178 rfl (lv_at hl 1 rfl) ?_
  refine lv_aload_n hx hb dL_law_179 rfl (lv_at hl 3 rfl) ?_
  refine lv_iload_n hx hb dL_law_180 rfl (lv_at hl 0 rfl) ?_
  refine lv_iconst (v := 1) hx hb dL_law_181 (by decide) ?_
  refine lv_iadd hx hb dL_law_182 ?_
  refine va_sld hx hb hX hbl hbA w.2.2.1 hv1 dL_law_183 ?_
  refine lv_aload_n hx hb dL_law_184 rfl (lv_at hl 3 rfl) ?_
  refine lv_iload_n hx hb dL_law_185 rfl (lv_at hl 0 rfl) ?_
  refine lv_iconst (v := 2) hx hb dL_law_186 (by decide) ?_
  refine lv_iadd hx hb dL_law_187 ?_
  refine va_sld hx hb hX hbl hbA w.2.2.1 hv2 dL_law_188 ?_
  have w := zWs w
  refine zXl w (va_runV (As := [.int (xs (x3 + 1).toNatClampNeg), .int (xs (x3 + 2).toNatClampNeg)]) (rest := [.long r]) ⟨hx, hb, hml, hown, hts⟩ (kX7_eject l G ad hR.2.2.2.2.2.2.2.2 (xs (x3 + 1).toNatClampNeg) (xs (x3 + 2).toNatClampNeg) H.size) (cwV 2 hts gL_law_X7_eject rfl rfl rfl (by decide +kernel) ⟨(Nat.le_of_ble_eq_true rfl), (Nat.le_of_ble_eq_true rfl)⟩) (zPV (zWl w) hK (va_recv (q := (RX7, TX7, 11)) hK.1 (zWl w).1 (ci := 6) (q0 := 0) rfl rfl)) rfl rfl hl.1 rfl (lv_room (Nat.le_of_ble_eq_true rfl)) dL_law_189 ⟨hc1, hs1⟩) (fun v u2 H locs h2 w => ?_)
  obtain ⟨er, M2, lev2, e2, hz2⟩ := st_eject hR h1 h2
  subst e2
  have w := zWs w
  refine W.lcmp hx hb dL_law_192 ?_
  refine lv_if_eq (tgt := 977) hx hb dL_law_193 (by decide) (fun c9 => ?_) (fun c9 => absurd er (zcmp1 c9))
  exact kk u M2 lev2 _ _ hz2 w
set_option maxHeartbeats 4000000 in
set_option maxRecDepth 100000 in
theorem law_share {p : Program} {l : Launch} {e : Env} {s : State} {m : MethodId} {below : List Frame} {meth : Method} {c : Code} {b L : Nat} {xs : Nat → Int32} {G : zG} {ad : Nat → Nat} {o ac aw ar : Nat} {u : va_W} {M : Nat → Nat → Int32} {lev : Nat → UInt32} {H : Heap} {locs : List Loc} {cells slots : Nat} {Q : State → Prop} {ls : Array Slot} {x3 : Int32} (C : zLaw p s m c b L xs G) (hv : ∀ k : Nat, k < 8 → vp_in (x3 + nI k) L) (hl : lv_has ls 4 [(3, .int x3), (2, .ref (ad 0)), (1, .ref o), (0, .ref b)]) (hc1 : cells + 26 ≤ 600000) (hs1 : slots + 505 ≤ 7302250) (hz : zLI2 G o ac aw ar u M lev) (w : zW G (zAl s) s H locs (u ++ mW G ad M lev)) (kk : ∀ (u : va_W) (M : Nat → Nat → Int32) (lev : Nat → UInt32) (H : Heap) (locs : List Loc), zLI2 G o ac aw ar u M lev → zW G (zAl s) s H locs (u ++ mW G ad M lev) → W p l e room_1 s m #[Value.ref b] below meth c H locs (cells + 26) (slots + 505) Q (F0 m 977 ls [])) : W p l e room_1 s m #[Value.ref b] below meth c H locs cells slots Q (F0 m 198 ls []) := by
  obtain ⟨hx, hb, hml, hown, hts, hX, hbl, hK⟩ := C
  have hbA : ¬ zAl s b := Nat.not_le.mpr hbl
  have hv1 : vp_in (x3 + 1) L := hv 1 (by decide)
  have hv2 : vp_in (x3 + 2) L := hv 2 (by decide)
  have hv3 : vp_in (x3 + 3) L := hv 3 (by decide)
  obtain ⟨L0, f, ch, m0, car, wa, ta, φ, rfl, hR⟩ := hz
  refine lv_aload_n hx hb dL_law_198 rfl (lv_at hl 2 rfl) ?_
  refine lv_aload_n hx hb dL_law_199 rfl (lv_at hl 3 rfl) ?_
  refine lv_iload_n hx hb dL_law_200 rfl (lv_at hl 0 rfl) ?_
  refine lv_iconst (v := 1) hx hb dL_law_201 (by decide) ?_
  refine lv_iadd hx hb dL_law_202 ?_
  refine va_sld hx hb hX hbl hbA w.2.2.1 hv1 dL_law_203 ?_
  refine lv_aload_n hx hb dL_law_204 rfl (lv_at hl 3 rfl) ?_
  refine lv_iload_n hx hb dL_law_205 rfl (lv_at hl 0 rfl) ?_
  refine lv_iconst (v := 2) hx hb dL_law_206 (by decide) ?_
  refine lv_iadd hx hb dL_law_207 ?_
  refine va_sld hx hb hX hbl hbA w.2.2.1 hv2 dL_law_208 ?_
  refine lv_aload_n hx hb dL_law_209 rfl (lv_at hl 3 rfl) ?_
  refine lv_iload_n hx hb dL_law_210 rfl (lv_at hl 0 rfl) ?_
  refine lv_iconst (v := 3) hx hb dL_law_211 (by decide) ?_
  refine lv_iadd hx hb dL_law_212 ?_
  refine va_sld hx hb hX hbl hbA w.2.2.1 hv3 dL_law_213 ?_
  refine zXl w (va_runV (As := [.int (xs (x3 + 1).toNatClampNeg), .int (xs (x3 + 2).toNatClampNeg), .int (xs (x3 + 3).toNatClampNeg)]) (rest := []) ⟨hx, hb, hml, hown, hts⟩ (kX6_share l G hR.1.1 hR.1.2.1 hR.1.2.2.1 (xs (x3 + 1).toNatClampNeg) (xs (x3 + 2).toNatClampNeg) (xs (x3 + 3).toNatClampNeg) H.size) (cwV 3 hts gL_law_X6_share rfl rfl rfl (by decide +kernel) ⟨(Nat.le_of_ble_eq_true rfl), (Nat.le_of_ble_eq_true rfl)⟩) (zPV (zWl w) hK (px_recv (r := (RX6, TX6, 4)) hK (zWl w) hR.1.1.1.1 hR.1.1.2.1 rfl)) rfl rfl hl.1 rfl (lv_room (Nat.le_of_ble_eq_true rfl)) dL_law_214 ⟨Nat.le_trans (Nat.add_le_add_left (Nat.le_of_ble_eq_true rfl) cells) hc1, Nat.le_trans (Nat.add_le_add_left (Nat.le_of_ble_eq_true rfl) slots) hs1⟩) (fun r u H locs h1 w => ?_)
  refine W.widen (k := cells + 26) (n := slots + 505) (Nat.add_le_add_left (Nat.le_of_ble_eq_true rfl) cells) (Nat.add_le_add_left (Nat.le_of_ble_eq_true rfl) slots) ?_
  refine lv_aload_n hx hb dL_law_217 rfl (lv_at hl 1 rfl) ?_
  refine lv_aload_n hx hb dL_law_218 rfl (lv_at hl 3 rfl) ?_
  refine lv_iload_n hx hb dL_law_219 rfl (lv_at hl 0 rfl) ?_
  refine lv_iconst (v := 1) hx hb dL_law_220 (by decide) ?_
  refine lv_iadd hx hb dL_law_221 ?_
  refine va_sld hx hb hX hbl hbA w.2.2.1 hv1 dL_law_222 ?_
  refine lv_aload_n hx hb dL_law_223 rfl (lv_at hl 3 rfl) ?_
  refine lv_iload_n hx hb dL_law_224 rfl (lv_at hl 0 rfl) ?_
  refine lv_iconst (v := 2) hx hb dL_law_225 (by decide) ?_
  refine lv_iadd hx hb dL_law_226 ?_
  refine va_sld hx hb hX hbl hbA w.2.2.1 hv2 dL_law_227 ?_
  refine lv_aload_n hx hb dL_law_228 rfl (lv_at hl 3 rfl) ?_
  refine lv_iload_n hx hb dL_law_229 rfl (lv_at hl 0 rfl) ?_
  refine lv_iconst (v := 3) hx hb dL_law_230 (by decide) ?_
  refine lv_iadd hx hb dL_law_231 ?_
  refine va_sld hx hb hX hbl hbA w.2.2.1 hv3 dL_law_232 ?_
  have w := zWs w
  refine zXl w (va_runV (As := [.int (xs (x3 + 1).toNatClampNeg), .int (xs (x3 + 2).toNatClampNeg), .int (xs (x3 + 3).toNatClampNeg)]) (rest := [.long r]) ⟨hx, hb, hml, hown, hts⟩ (kX7_share l G ad hR.2.2.2.2.2.2.2.2 (xs (x3 + 1).toNatClampNeg) (xs (x3 + 2).toNatClampNeg) (xs (x3 + 3).toNatClampNeg) H.size) (cwV 3 hts gL_law_X7_share rfl rfl rfl (by decide +kernel) ⟨(Nat.le_of_ble_eq_true rfl), (Nat.le_of_ble_eq_true rfl)⟩) (zPV (zWl w) hK (va_recv (q := (RX7, TX7, 11)) hK.1 (zWl w).1 (ci := 6) (q0 := 0) rfl rfl)) rfl rfl hl.1 rfl (lv_room (Nat.le_of_ble_eq_true rfl)) dL_law_233 ⟨hc1, hs1⟩) (fun v u2 H locs h2 w => ?_)
  obtain ⟨er, M2, lev2, e2, hz2⟩ := st_share hR h1 h2
  subst e2
  have w := zWs w
  refine W.lcmp hx hb dL_law_236 ?_
  refine lv_if_eq (tgt := 977) hx hb dL_law_237 (by decide) (fun c9 => ?_) (fun c9 => absurd er (zcmp1 c9))
  exact kk u M2 lev2 _ _ hz2 w
set_option maxHeartbeats 4000000 in
set_option maxRecDepth 100000 in
theorem law_size {p : Program} {l : Launch} {e : Env} {s : State} {m : MethodId} {below : List Frame} {meth : Method} {c : Code} {b L : Nat} {xs : Nat → Int32} {G : zG} {ad : Nat → Nat} {o ac aw ar : Nat} {u : va_W} {M : Nat → Nat → Int32} {lev : Nat → UInt32} {H : Heap} {locs : List Loc} {cells slots : Nat} {Q : State → Prop} {ls : Array Slot} {x3 : Int32} (C : zLaw p s m c b L xs G) (hv : ∀ k : Nat, k < 8 → vp_in (x3 + nI k) L) (hl : lv_has ls 4 [(3, .int x3), (2, .ref (ad 0)), (1, .ref o), (0, .ref b)]) (hc1 : cells + 26 ≤ 600000) (hs1 : slots + 505 ≤ 7302250) (hz : zLI2 G o ac aw ar u M lev) (w : zW G (zAl s) s H locs (u ++ mW G ad M lev)) (kk : ∀ (u : va_W) (M : Nat → Nat → Int32) (lev : Nat → UInt32) (H : Heap) (locs : List Loc), zLI2 G o ac aw ar u M lev → zW G (zAl s) s H locs (u ++ mW G ad M lev) → W p l e room_1 s m #[Value.ref b] below meth c H locs (cells + 26) (slots + 505) Q (F0 m 977 ls [])) : W p l e room_1 s m #[Value.ref b] below meth c H locs cells slots Q (F0 m 242 ls []) := by
  obtain ⟨hx, hb, hml, hown, hts, hX, hbl, hK⟩ := C
  have hbA : ¬ zAl s b := Nat.not_le.mpr hbl
  have hv1 : vp_in (x3 + 1) L := hv 1 (by decide)
  have hv2 : vp_in (x3 + 2) L := hv 2 (by decide)
  obtain ⟨L0, f, ch, m0, car, wa, ta, φ, rfl, hR⟩ := hz
  refine lv_aload_n hx hb dL_law_242 rfl (lv_at hl 2 rfl) ?_
  refine lv_aload_n hx hb dL_law_243 rfl (lv_at hl 3 rfl) ?_
  refine lv_iload_n hx hb dL_law_244 rfl (lv_at hl 0 rfl) ?_
  refine lv_iconst (v := 1) hx hb dL_law_245 (by decide) ?_
  refine lv_iadd hx hb dL_law_246 ?_
  refine va_sld hx hb hX hbl hbA w.2.2.1 hv1 dL_law_247 ?_
  refine lv_aload_n hx hb dL_law_248 rfl (lv_at hl 3 rfl) ?_
  refine lv_iload_n hx hb dL_law_249 rfl (lv_at hl 0 rfl) ?_
  refine lv_iconst (v := 2) hx hb dL_law_250 (by decide) ?_
  refine lv_iadd hx hb dL_law_251 ?_
  refine va_sld hx hb hX hbl hbA w.2.2.1 hv2 dL_law_252 ?_
  refine zXl w (va_runV (As := [.int (xs (x3 + 1).toNatClampNeg), .int (xs (x3 + 2).toNatClampNeg)]) (rest := []) ⟨hx, hb, hml, hown, hts⟩ (kX6_size l G hR.1.1 hR.1.2.1 hR.1.2.2.1 (xs (x3 + 1).toNatClampNeg) (xs (x3 + 2).toNatClampNeg) H.size) (cwV 2 hts gL_law_X6_size rfl rfl rfl (by decide +kernel) ⟨(Nat.le_of_ble_eq_true rfl), (Nat.le_of_ble_eq_true rfl)⟩) (zPV (zWl w) hK (px_recv (r := (RX6, TX6, 4)) hK (zWl w) hR.1.1.1.1 hR.1.1.2.1 rfl)) rfl rfl hl.1 rfl (lv_room (Nat.le_of_ble_eq_true rfl)) dL_law_253 ⟨Nat.le_trans (Nat.add_le_add_left (Nat.le_of_ble_eq_true rfl) cells) hc1, Nat.le_trans (Nat.add_le_add_left (Nat.le_of_ble_eq_true rfl) slots) hs1⟩) (fun r u H locs h1 w => ?_)
  refine W.widen (k := cells + 26) (n := slots + 505) (Nat.add_le_add_left (Nat.le_of_ble_eq_true rfl) cells) (Nat.add_le_add_left (Nat.le_of_ble_eq_true rfl) slots) ?_
  refine lv_aload_n hx hb dL_law_256 rfl (lv_at hl 1 rfl) ?_
  refine lv_aload_n hx hb dL_law_257 rfl (lv_at hl 3 rfl) ?_
  refine lv_iload_n hx hb dL_law_258 rfl (lv_at hl 0 rfl) ?_
  refine lv_iconst (v := 1) hx hb dL_law_259 (by decide) ?_
  refine lv_iadd hx hb dL_law_260 ?_
  refine va_sld hx hb hX hbl hbA w.2.2.1 hv1 dL_law_261 ?_
  refine lv_aload_n hx hb dL_law_262 rfl (lv_at hl 3 rfl) ?_
  refine lv_iload_n hx hb dL_law_263 rfl (lv_at hl 0 rfl) ?_
  refine lv_iconst (v := 2) hx hb dL_law_264 (by decide) ?_
  refine lv_iadd hx hb dL_law_265 ?_
  refine va_sld hx hb hX hbl hbA w.2.2.1 hv2 dL_law_266 ?_
  have w := zWs w
  refine zXl w (va_runV (As := [.int (xs (x3 + 1).toNatClampNeg), .int (xs (x3 + 2).toNatClampNeg)]) (rest := [.long r]) ⟨hx, hb, hml, hown, hts⟩ (kX7_size l G ad hR.2.2.2.2.2.2.2.2 (xs (x3 + 1).toNatClampNeg) (xs (x3 + 2).toNatClampNeg) H.size) (cwV 2 hts gL_law_X7_size rfl rfl rfl (by decide +kernel) ⟨(Nat.le_of_ble_eq_true rfl), (Nat.le_of_ble_eq_true rfl)⟩) (zPV (zWl w) hK (va_recv (q := (RX7, TX7, 11)) hK.1 (zWl w).1 (ci := 6) (q0 := 0) rfl rfl)) rfl rfl hl.1 rfl (lv_room (Nat.le_of_ble_eq_true rfl)) dL_law_267 ⟨hc1, hs1⟩) (fun v u2 H locs h2 w => ?_)
  obtain ⟨er, M2, lev2, e2, hz2⟩ := st_size hR h1 h2
  subst e2
  have w := zWs w
  refine W.lcmp hx hb dL_law_270 ?_
  refine lv_if_eq (tgt := 977) hx hb dL_law_271 (by decide) (fun c9 => ?_) (fun c9 => absurd er (zcmp1 c9))
  exact kk u M2 lev2 _ _ hz2 w
set_option maxHeartbeats 4000000 in
set_option maxRecDepth 100000 in
theorem law_read {p : Program} {l : Launch} {e : Env} {s : State} {m : MethodId} {below : List Frame} {meth : Method} {c : Code} {b L : Nat} {xs : Nat → Int32} {G : zG} {ad : Nat → Nat} {o ac aw ar : Nat} {u : va_W} {M : Nat → Nat → Int32} {lev : Nat → UInt32} {H : Heap} {locs : List Loc} {cells slots : Nat} {Q : State → Prop} {ls : Array Slot} {x3 : Int32} (C : zLaw p s m c b L xs G) (hv : ∀ k : Nat, k < 8 → vp_in (x3 + nI k) L) (hl : lv_has ls 4 [(3, .int x3), (2, .ref (ad 0)), (1, .ref o), (0, .ref b)]) (hc1 : cells + 26 ≤ 600000) (hs1 : slots + 505 ≤ 7302250) (hz : zLI2 G o ac aw ar u M lev) (w : zW G (zAl s) s H locs (u ++ mW G ad M lev)) (kk : ∀ (u : va_W) (M : Nat → Nat → Int32) (lev : Nat → UInt32) (H : Heap) (locs : List Loc), zLI2 G o ac aw ar u M lev → zW G (zAl s) s H locs (u ++ mW G ad M lev) → W p l e room_1 s m #[Value.ref b] below meth c H locs (cells + 26) (slots + 505) Q (F0 m 977 ls [])) : W p l e room_1 s m #[Value.ref b] below meth c H locs cells slots Q (F0 m 276 ls []) := by
  obtain ⟨hx, hb, hml, hown, hts, hX, hbl, hK⟩ := C
  have hbA : ¬ zAl s b := Nat.not_le.mpr hbl
  have hv1 : vp_in (x3 + 1) L := hv 1 (by decide)
  have hv2 : vp_in (x3 + 2) L := hv 2 (by decide)
  have hv3 : vp_in (x3 + 3) L := hv 3 (by decide)
  obtain ⟨L0, f, ch, m0, car, wa, ta, φ, rfl, hR⟩ := hz
  refine lv_aload_n hx hb dL_law_276 rfl (lv_at hl 2 rfl) ?_
  refine lv_aload_n hx hb dL_law_277 rfl (lv_at hl 3 rfl) ?_
  refine lv_iload_n hx hb dL_law_278 rfl (lv_at hl 0 rfl) ?_
  refine lv_iconst (v := 1) hx hb dL_law_279 (by decide) ?_
  refine lv_iadd hx hb dL_law_280 ?_
  refine va_sld hx hb hX hbl hbA w.2.2.1 hv1 dL_law_281 ?_
  refine lv_aload_n hx hb dL_law_282 rfl (lv_at hl 3 rfl) ?_
  refine lv_iload_n hx hb dL_law_283 rfl (lv_at hl 0 rfl) ?_
  refine lv_iconst (v := 2) hx hb dL_law_284 (by decide) ?_
  refine lv_iadd hx hb dL_law_285 ?_
  refine va_sld hx hb hX hbl hbA w.2.2.1 hv2 dL_law_286 ?_
  refine lv_aload_n hx hb dL_law_287 rfl (lv_at hl 3 rfl) ?_
  refine lv_iload_n hx hb dL_law_288 rfl (lv_at hl 0 rfl) ?_
  refine lv_iconst (v := 3) hx hb dL_law_289 (by decide) ?_
  refine lv_iadd hx hb dL_law_290 ?_
  refine va_sld hx hb hX hbl hbA w.2.2.1 hv3 dL_law_291 ?_
  refine zXl w (va_runV (As := [.int (xs (x3 + 1).toNatClampNeg), .int (xs (x3 + 2).toNatClampNeg), .int (xs (x3 + 3).toNatClampNeg)]) (rest := []) ⟨hx, hb, hml, hown, hts⟩ (kX6_read l G hR.1.1 hR.1.2.1 hR.1.2.2.1 (xs (x3 + 1).toNatClampNeg) (xs (x3 + 2).toNatClampNeg) (xs (x3 + 3).toNatClampNeg) H.size) (cwV 3 hts gL_law_X6_read rfl rfl rfl (by decide +kernel) ⟨(Nat.le_of_ble_eq_true rfl), (Nat.le_of_ble_eq_true rfl)⟩) (zPV (zWl w) hK (px_recv (r := (RX6, TX6, 4)) hK (zWl w) hR.1.1.1.1 hR.1.1.2.1 rfl)) rfl rfl hl.1 rfl (lv_room (Nat.le_of_ble_eq_true rfl)) dL_law_292 ⟨Nat.le_trans (Nat.add_le_add_left (Nat.le_of_ble_eq_true rfl) cells) hc1, Nat.le_trans (Nat.add_le_add_left (Nat.le_of_ble_eq_true rfl) slots) hs1⟩) (fun r u H locs h1 w => ?_)
  refine W.widen (k := cells + 26) (n := slots + 505) (Nat.add_le_add_left (Nat.le_of_ble_eq_true rfl) cells) (Nat.add_le_add_left (Nat.le_of_ble_eq_true rfl) slots) ?_
  refine lv_aload_n hx hb dL_law_295 rfl (lv_at hl 1 rfl) ?_
  refine lv_aload_n hx hb dL_law_296 rfl (lv_at hl 3 rfl) ?_
  refine lv_iload_n hx hb dL_law_297 rfl (lv_at hl 0 rfl) ?_
  refine lv_iconst (v := 1) hx hb dL_law_298 (by decide) ?_
  refine lv_iadd hx hb dL_law_299 ?_
  refine va_sld hx hb hX hbl hbA w.2.2.1 hv1 dL_law_300 ?_
  refine lv_aload_n hx hb dL_law_301 rfl (lv_at hl 3 rfl) ?_
  refine lv_iload_n hx hb dL_law_302 rfl (lv_at hl 0 rfl) ?_
  refine lv_iconst (v := 2) hx hb dL_law_303 (by decide) ?_
  refine lv_iadd hx hb dL_law_304 ?_
  refine va_sld hx hb hX hbl hbA w.2.2.1 hv2 dL_law_305 ?_
  refine lv_aload_n hx hb dL_law_306 rfl (lv_at hl 3 rfl) ?_
  refine lv_iload_n hx hb dL_law_307 rfl (lv_at hl 0 rfl) ?_
  refine lv_iconst (v := 3) hx hb dL_law_308 (by decide) ?_
  refine lv_iadd hx hb dL_law_309 ?_
  refine va_sld hx hb hX hbl hbA w.2.2.1 hv3 dL_law_310 ?_
  have w := zWs w
  refine zXl w (va_runV (As := [.int (xs (x3 + 1).toNatClampNeg), .int (xs (x3 + 2).toNatClampNeg), .int (xs (x3 + 3).toNatClampNeg)]) (rest := [.long r]) ⟨hx, hb, hml, hown, hts⟩ (kX7_read l G ad hR.2.2.2.2.2.2.2.2 (xs (x3 + 1).toNatClampNeg) (xs (x3 + 2).toNatClampNeg) (xs (x3 + 3).toNatClampNeg) H.size) (cwV 3 hts gL_law_X7_read rfl rfl rfl (by decide +kernel) ⟨(Nat.le_of_ble_eq_true rfl), (Nat.le_of_ble_eq_true rfl)⟩) (zPV (zWl w) hK (va_recv (q := (RX7, TX7, 11)) hK.1 (zWl w).1 (ci := 6) (q0 := 0) rfl rfl)) rfl rfl hl.1 rfl (lv_room (Nat.le_of_ble_eq_true rfl)) dL_law_311 ⟨hc1, hs1⟩) (fun v u2 H locs h2 w => ?_)
  obtain ⟨er, M2, lev2, e2, hz2⟩ := st_read hR h1 h2
  subst e2
  have w := zWs w
  refine W.lcmp hx hb dL_law_314 ?_
  refine lv_if_eq (tgt := 977) hx hb dL_law_315 (by decide) (fun c9 => ?_) (fun c9 => absurd er (zcmp1 c9))
  exact kk u M2 lev2 _ _ hz2 w
set_option maxHeartbeats 4000000 in
set_option maxRecDepth 100000 in
theorem law_write {p : Program} {l : Launch} {e : Env} {s : State} {m : MethodId} {below : List Frame} {meth : Method} {c : Code} {b L : Nat} {xs : Nat → Int32} {G : zG} {ad : Nat → Nat} {o ac aw ar : Nat} {u : va_W} {M : Nat → Nat → Int32} {lev : Nat → UInt32} {H : Heap} {locs : List Loc} {cells slots : Nat} {Q : State → Prop} {ls : Array Slot} {x3 : Int32} (C : zLaw p s m c b L xs G) (hv : ∀ k : Nat, k < 8 → vp_in (x3 + nI k) L) (hl : lv_has ls 4 [(3, .int x3), (2, .ref (ad 0)), (1, .ref o), (0, .ref b)]) (hc1 : cells + 26 ≤ 600000) (hs1 : slots + 505 ≤ 7302250) (hz : zLI2 G o ac aw ar u M lev) (w : zW G (zAl s) s H locs (u ++ mW G ad M lev)) (kk : ∀ (u : va_W) (M : Nat → Nat → Int32) (lev : Nat → UInt32) (H : Heap) (locs : List Loc), zLI2 G o ac aw ar u M lev → zW G (zAl s) s H locs (u ++ mW G ad M lev) → W p l e room_1 s m #[Value.ref b] below meth c H locs (cells + 26) (slots + 505) Q (F0 m 977 ls [])) : W p l e room_1 s m #[Value.ref b] below meth c H locs cells slots Q (F0 m 320 ls []) := by
  obtain ⟨hx, hb, hml, hown, hts, hX, hbl, hK⟩ := C
  have hbA : ¬ zAl s b := Nat.not_le.mpr hbl
  have hv1 : vp_in (x3 + 1) L := hv 1 (by decide)
  have hv2 : vp_in (x3 + 2) L := hv 2 (by decide)
  have hv3 : vp_in (x3 + 3) L := hv 3 (by decide)
  have hv4 : vp_in (x3 + 4) L := hv 4 (by decide)
  obtain ⟨L0, f, ch, m0, car, wa, ta, φ, rfl, hR⟩ := hz
  refine lv_aload_n hx hb dL_law_320 rfl (lv_at hl 2 rfl) ?_
  refine lv_aload_n hx hb dL_law_321 rfl (lv_at hl 3 rfl) ?_
  refine lv_iload_n hx hb dL_law_322 rfl (lv_at hl 0 rfl) ?_
  refine lv_iconst (v := 1) hx hb dL_law_323 (by decide) ?_
  refine lv_iadd hx hb dL_law_324 ?_
  refine va_sld hx hb hX hbl hbA w.2.2.1 hv1 dL_law_325 ?_
  refine lv_aload_n hx hb dL_law_326 rfl (lv_at hl 3 rfl) ?_
  refine lv_iload_n hx hb dL_law_327 rfl (lv_at hl 0 rfl) ?_
  refine lv_iconst (v := 2) hx hb dL_law_328 (by decide) ?_
  refine lv_iadd hx hb dL_law_329 ?_
  refine va_sld hx hb hX hbl hbA w.2.2.1 hv2 dL_law_330 ?_
  refine lv_aload_n hx hb dL_law_331 rfl (lv_at hl 3 rfl) ?_
  refine lv_iload_n hx hb dL_law_332 rfl (lv_at hl 0 rfl) ?_
  refine lv_iconst (v := 3) hx hb dL_law_333 (by decide) ?_
  refine lv_iadd hx hb dL_law_334 ?_
  refine va_sld hx hb hX hbl hbA w.2.2.1 hv3 dL_law_335 ?_
  refine lv_aload_n hx hb dL_law_336 rfl (lv_at hl 3 rfl) ?_
  refine lv_iload_n hx hb dL_law_337 rfl (lv_at hl 0 rfl) ?_
  refine lv_iconst (v := 4) hx hb dL_law_338 (by decide) ?_
  refine lv_iadd hx hb dL_law_339 ?_
  refine va_sld hx hb hX hbl hbA w.2.2.1 hv4 dL_law_340 ?_
  refine zXl w (va_runV (As := [.int (xs (x3 + 1).toNatClampNeg), .int (xs (x3 + 2).toNatClampNeg), .int (xs (x3 + 3).toNatClampNeg), .int (xs (x3 + 4).toNatClampNeg)]) (rest := []) ⟨hx, hb, hml, hown, hts⟩ (kX6_write l G hR.1.1 hR.1.2.1 hR.1.2.2.1 (xs (x3 + 1).toNatClampNeg) (xs (x3 + 2).toNatClampNeg) (xs (x3 + 3).toNatClampNeg) (xs (x3 + 4).toNatClampNeg) H.size) (cwV 4 hts gL_law_X6_write rfl rfl rfl (by decide +kernel) ⟨(Nat.le_of_ble_eq_true rfl), (Nat.le_of_ble_eq_true rfl)⟩) (zPV (zWl w) hK (px_recv (r := (RX6, TX6, 4)) hK (zWl w) hR.1.1.1.1 hR.1.1.2.1 rfl)) rfl rfl hl.1 rfl (lv_room (Nat.le_of_ble_eq_true rfl)) dL_law_341 ⟨Nat.le_trans (Nat.add_le_add_left (Nat.le_of_ble_eq_true rfl) cells) hc1, Nat.le_trans (Nat.add_le_add_left (Nat.le_of_ble_eq_true rfl) slots) hs1⟩) (fun r u H locs h1 w => ?_)
  refine W.widen (k := cells + 26) (n := slots + 505) (Nat.add_le_add_left (Nat.le_of_ble_eq_true rfl) cells) (Nat.add_le_add_left (Nat.le_of_ble_eq_true rfl) slots) ?_
  refine lv_aload_n hx hb dL_law_344 rfl (lv_at hl 1 rfl) ?_
  refine lv_aload_n hx hb dL_law_345 rfl (lv_at hl 3 rfl) ?_
  refine lv_iload_n hx hb dL_law_346 rfl (lv_at hl 0 rfl) ?_
  refine lv_iconst (v := 1) hx hb dL_law_347 (by decide) ?_
  refine lv_iadd hx hb dL_law_348 ?_
  refine va_sld hx hb hX hbl hbA w.2.2.1 hv1 dL_law_349 ?_
  refine lv_aload_n hx hb dL_law_350 rfl (lv_at hl 3 rfl) ?_
  refine lv_iload_n hx hb dL_law_351 rfl (lv_at hl 0 rfl) ?_
  refine lv_iconst (v := 2) hx hb dL_law_352 (by decide) ?_
  refine lv_iadd hx hb dL_law_353 ?_
  refine va_sld hx hb hX hbl hbA w.2.2.1 hv2 dL_law_354 ?_
  refine lv_aload_n hx hb dL_law_355 rfl (lv_at hl 3 rfl) ?_
  refine lv_iload_n hx hb dL_law_356 rfl (lv_at hl 0 rfl) ?_
  refine lv_iconst (v := 3) hx hb dL_law_357 (by decide) ?_
  refine lv_iadd hx hb dL_law_358 ?_
  refine va_sld hx hb hX hbl hbA w.2.2.1 hv3 dL_law_359 ?_
  refine lv_aload_n hx hb dL_law_360 rfl (lv_at hl 3 rfl) ?_
  refine lv_iload_n hx hb dL_law_361 rfl (lv_at hl 0 rfl) ?_
  refine lv_iconst (v := 4) hx hb dL_law_362 (by decide) ?_
  refine lv_iadd hx hb dL_law_363 ?_
  refine va_sld hx hb hX hbl hbA w.2.2.1 hv4 dL_law_364 ?_
  have w := zWs w
  refine zXl w (va_runV (As := [.int (xs (x3 + 1).toNatClampNeg), .int (xs (x3 + 2).toNatClampNeg), .int (xs (x3 + 3).toNatClampNeg), .int (xs (x3 + 4).toNatClampNeg)]) (rest := [.long r]) ⟨hx, hb, hml, hown, hts⟩ (kX7_write l G ad hR.2.2.2.2.2.2.2.2 (xs (x3 + 1).toNatClampNeg) (xs (x3 + 2).toNatClampNeg) (xs (x3 + 3).toNatClampNeg) (xs (x3 + 4).toNatClampNeg) H.size) (cwV 4 hts gL_law_X7_write rfl rfl rfl (by decide +kernel) ⟨(Nat.le_of_ble_eq_true rfl), (Nat.le_of_ble_eq_true rfl)⟩) (zPV (zWl w) hK (va_recv (q := (RX7, TX7, 11)) hK.1 (zWl w).1 (ci := 6) (q0 := 0) rfl rfl)) rfl rfl hl.1 rfl (lv_room (Nat.le_of_ble_eq_true rfl)) dL_law_365 ⟨hc1, hs1⟩) (fun v u2 H locs h2 w => ?_)
  obtain ⟨er, M2, lev2, e2, hz2⟩ := st_write hR h1 h2
  subst e2
  have w := zWs w
  refine W.lcmp hx hb dL_law_368 ?_
  refine lv_if_eq (tgt := 977) hx hb dL_law_369 (by decide) (fun c9 => ?_) (fun c9 => absurd er (zcmp1 c9))
  exact kk u M2 lev2 _ _ hz2 w
set_option maxHeartbeats 4000000 in
set_option maxRecDepth 100000 in
theorem law_nudge {p : Program} {l : Launch} {e : Env} {s : State} {m : MethodId} {below : List Frame} {meth : Method} {c : Code} {b L : Nat} {xs : Nat → Int32} {G : zG} {ad : Nat → Nat} {o ac aw ar : Nat} {u : va_W} {M : Nat → Nat → Int32} {lev : Nat → UInt32} {H : Heap} {locs : List Loc} {cells slots : Nat} {Q : State → Prop} {ls : Array Slot} {x3 : Int32} (C : zLaw p s m c b L xs G) (hv : ∀ k : Nat, k < 8 → vp_in (x3 + nI k) L) (hl : lv_has ls 4 [(3, .int x3), (2, .ref (ad 0)), (1, .ref o), (0, .ref b)]) (hc1 : cells + 26 ≤ 600000) (hs1 : slots + 505 ≤ 7302250) (hz : zLI2 G o ac aw ar u M lev) (w : zW G (zAl s) s H locs (u ++ mW G ad M lev)) (kk : ∀ (u : va_W) (M : Nat → Nat → Int32) (lev : Nat → UInt32) (H : Heap) (locs : List Loc), zLI2 G o ac aw ar u M lev → zW G (zAl s) s H locs (u ++ mW G ad M lev) → W p l e room_1 s m #[Value.ref b] below meth c H locs (cells + 26) (slots + 505) Q (F0 m 977 ls [])) : W p l e room_1 s m #[Value.ref b] below meth c H locs cells slots Q (F0 m 374 ls []) := by
  obtain ⟨hx, hb, hml, hown, hts, hX, hbl, hK⟩ := C
  have hbA : ¬ zAl s b := Nat.not_le.mpr hbl
  have hv1 : vp_in (x3 + 1) L := hv 1 (by decide)
  have hv2 : vp_in (x3 + 2) L := hv 2 (by decide)
  have hv3 : vp_in (x3 + 3) L := hv 3 (by decide)
  have hv4 : vp_in (x3 + 4) L := hv 4 (by decide)
  have hv5 : vp_in (x3 + 5) L := hv 5 (by decide)
  obtain ⟨L0, f, ch, m0, car, wa, ta, φ, rfl, hR⟩ := hz
  refine lv_aload_n hx hb dL_law_374 rfl (lv_at hl 2 rfl) ?_
  refine lv_aload_n hx hb dL_law_375 rfl (lv_at hl 3 rfl) ?_
  refine lv_iload_n hx hb dL_law_376 rfl (lv_at hl 0 rfl) ?_
  refine lv_iconst (v := 1) hx hb dL_law_377 (by decide) ?_
  refine lv_iadd hx hb dL_law_378 ?_
  refine va_sld hx hb hX hbl hbA w.2.2.1 hv1 dL_law_379 ?_
  refine lv_aload_n hx hb dL_law_380 rfl (lv_at hl 3 rfl) ?_
  refine lv_iload_n hx hb dL_law_381 rfl (lv_at hl 0 rfl) ?_
  refine lv_iconst (v := 2) hx hb dL_law_382 (by decide) ?_
  refine lv_iadd hx hb dL_law_383 ?_
  refine va_sld hx hb hX hbl hbA w.2.2.1 hv2 dL_law_384 ?_
  refine lv_aload_n hx hb dL_law_385 rfl (lv_at hl 3 rfl) ?_
  refine lv_iload_n hx hb dL_law_386 rfl (lv_at hl 0 rfl) ?_
  refine lv_iconst (v := 3) hx hb dL_law_387 (by decide) ?_
  refine lv_iadd hx hb dL_law_388 ?_
  refine va_sld hx hb hX hbl hbA w.2.2.1 hv3 dL_law_389 ?_
  refine lv_aload_n hx hb dL_law_390 rfl (lv_at hl 3 rfl) ?_
  refine lv_iload_n hx hb dL_law_391 rfl (lv_at hl 0 rfl) ?_
  refine lv_iconst (v := 4) hx hb dL_law_392 (by decide) ?_
  refine lv_iadd hx hb dL_law_393 ?_
  refine va_sld hx hb hX hbl hbA w.2.2.1 hv4 dL_law_394 ?_
  refine lv_aload_n hx hb dL_law_395 rfl (lv_at hl 3 rfl) ?_
  refine lv_iload_n hx hb dL_law_396 rfl (lv_at hl 0 rfl) ?_
  refine lv_iconst (v := 5) hx hb dL_law_397 (by decide) ?_
  refine lv_iadd hx hb dL_law_398 ?_
  refine va_sld hx hb hX hbl hbA w.2.2.1 hv5 dL_law_399 ?_
  refine zXl w (va_runV (As := [.int (xs (x3 + 1).toNatClampNeg), .int (xs (x3 + 2).toNatClampNeg), .int (xs (x3 + 3).toNatClampNeg), .int (xs (x3 + 4).toNatClampNeg), .int (xs (x3 + 5).toNatClampNeg)]) (rest := []) ⟨hx, hb, hml, hown, hts⟩ (kX6_nudge l G hR.1.1 hR.1.2.1 hR.1.2.2.1 (xs (x3 + 1).toNatClampNeg) (xs (x3 + 2).toNatClampNeg) (xs (x3 + 3).toNatClampNeg) (xs (x3 + 4).toNatClampNeg) (xs (x3 + 5).toNatClampNeg) H.size) (cwV 5 hts gL_law_X6_nudge rfl rfl rfl (by decide +kernel) ⟨(Nat.le_of_ble_eq_true rfl), (Nat.le_of_ble_eq_true rfl)⟩) (zPV (zWl w) hK (px_recv (r := (RX6, TX6, 4)) hK (zWl w) hR.1.1.1.1 hR.1.1.2.1 rfl)) rfl rfl hl.1 rfl (lv_room (Nat.le_of_ble_eq_true rfl)) dL_law_400 ⟨Nat.le_trans (Nat.add_le_add_left (Nat.le_of_ble_eq_true rfl) cells) hc1, Nat.le_trans (Nat.add_le_add_left (Nat.le_of_ble_eq_true rfl) slots) hs1⟩) (fun r u H locs h1 w => ?_)
  refine W.widen (k := cells + 26) (n := slots + 505) (Nat.add_le_add_left (Nat.le_of_ble_eq_true rfl) cells) (Nat.add_le_add_left (Nat.le_of_ble_eq_true rfl) slots) ?_
  refine lv_aload_n hx hb dL_law_403 rfl (lv_at hl 1 rfl) ?_
  refine lv_aload_n hx hb dL_law_404 rfl (lv_at hl 3 rfl) ?_
  refine lv_iload_n hx hb dL_law_405 rfl (lv_at hl 0 rfl) ?_
  refine lv_iconst (v := 1) hx hb dL_law_406 (by decide) ?_
  refine lv_iadd hx hb dL_law_407 ?_
  refine va_sld hx hb hX hbl hbA w.2.2.1 hv1 dL_law_408 ?_
  refine lv_aload_n hx hb dL_law_409 rfl (lv_at hl 3 rfl) ?_
  refine lv_iload_n hx hb dL_law_410 rfl (lv_at hl 0 rfl) ?_
  refine lv_iconst (v := 2) hx hb dL_law_411 (by decide) ?_
  refine lv_iadd hx hb dL_law_412 ?_
  refine va_sld hx hb hX hbl hbA w.2.2.1 hv2 dL_law_413 ?_
  refine lv_aload_n hx hb dL_law_414 rfl (lv_at hl 3 rfl) ?_
  refine lv_iload_n hx hb dL_law_415 rfl (lv_at hl 0 rfl) ?_
  refine lv_iconst (v := 3) hx hb dL_law_416 (by decide) ?_
  refine lv_iadd hx hb dL_law_417 ?_
  refine va_sld hx hb hX hbl hbA w.2.2.1 hv3 dL_law_418 ?_
  refine lv_aload_n hx hb dL_law_419 rfl (lv_at hl 3 rfl) ?_
  refine lv_iload_n hx hb dL_law_420 rfl (lv_at hl 0 rfl) ?_
  refine lv_iconst (v := 4) hx hb dL_law_421 (by decide) ?_
  refine lv_iadd hx hb dL_law_422 ?_
  refine va_sld hx hb hX hbl hbA w.2.2.1 hv4 dL_law_423 ?_
  refine lv_aload_n hx hb dL_law_424 rfl (lv_at hl 3 rfl) ?_
  refine lv_iload_n hx hb dL_law_425 rfl (lv_at hl 0 rfl) ?_
  refine lv_iconst (v := 5) hx hb dL_law_426 (by decide) ?_
  refine lv_iadd hx hb dL_law_427 ?_
  refine va_sld hx hb hX hbl hbA w.2.2.1 hv5 dL_law_428 ?_
  have w := zWs w
  refine zXl w (va_runV (As := [.int (xs (x3 + 1).toNatClampNeg), .int (xs (x3 + 2).toNatClampNeg), .int (xs (x3 + 3).toNatClampNeg), .int (xs (x3 + 4).toNatClampNeg), .int (xs (x3 + 5).toNatClampNeg)]) (rest := [.long r]) ⟨hx, hb, hml, hown, hts⟩ (kX7_nudge l G ad hR.2.2.2.2.2.2.2.2 (xs (x3 + 1).toNatClampNeg) (xs (x3 + 2).toNatClampNeg) (xs (x3 + 3).toNatClampNeg) (xs (x3 + 4).toNatClampNeg) (xs (x3 + 5).toNatClampNeg) H.size) (cwV 5 hts gL_law_X7_nudge rfl rfl rfl (by decide +kernel) ⟨(Nat.le_of_ble_eq_true rfl), (Nat.le_of_ble_eq_true rfl)⟩) (zPV (zWl w) hK (va_recv (q := (RX7, TX7, 11)) hK.1 (zWl w).1 (ci := 6) (q0 := 0) rfl rfl)) rfl rfl hl.1 rfl (lv_room (Nat.le_of_ble_eq_true rfl)) dL_law_429 ⟨hc1, hs1⟩) (fun v u2 H locs h2 w => ?_)
  obtain ⟨er, M2, lev2, e2, hz2⟩ := st_nudge hR h1 h2
  subst e2
  have w := zWs w
  refine W.lcmp hx hb dL_law_432 ?_
  refine lv_if_eq (tgt := 977) hx hb dL_law_433 (by decide) (fun c9 => ?_) (fun c9 => absurd er (zcmp1 c9))
  exact kk u M2 lev2 _ _ hz2 w
set_option maxHeartbeats 4000000 in
set_option maxRecDepth 100000 in
theorem law_tick {p : Program} {l : Launch} {e : Env} {s : State} {m : MethodId} {below : List Frame} {meth : Method} {c : Code} {b L : Nat} {xs : Nat → Int32} {G : zG} {ad : Nat → Nat} {o ac aw ar : Nat} {u : va_W} {M : Nat → Nat → Int32} {lev : Nat → UInt32} {H : Heap} {locs : List Loc} {cells slots : Nat} {Q : State → Prop} {ls : Array Slot} {x3 : Int32} (C : zLaw p s m c b L xs G) (hv : ∀ k : Nat, k < 8 → vp_in (x3 + nI k) L) (hl : lv_has ls 4 [(3, .int x3), (2, .ref (ad 0)), (1, .ref o), (0, .ref b)]) (hc1 : cells + 26 ≤ 600000) (hs1 : slots + 505 ≤ 7302250) (hz : zLI2 G o ac aw ar u M lev) (w : zW G (zAl s) s H locs (u ++ mW G ad M lev)) (kk : ∀ (u : va_W) (M : Nat → Nat → Int32) (lev : Nat → UInt32) (H : Heap) (locs : List Loc), zLI2 G o ac aw ar u M lev → zW G (zAl s) s H locs (u ++ mW G ad M lev) → W p l e room_1 s m #[Value.ref b] below meth c H locs (cells + 26) (slots + 505) Q (F0 m 977 ls [])) : W p l e room_1 s m #[Value.ref b] below meth c H locs cells slots Q (F0 m 438 ls []) := by
  obtain ⟨hx, hb, hml, hown, hts, hX, hbl, hK⟩ := C
  have hbA : ¬ zAl s b := Nat.not_le.mpr hbl
  have hv1 : vp_in (x3 + 1) L := hv 1 (by decide)
  have hv2 : vp_in (x3 + 2) L := hv 2 (by decide)
  have hv3 : vp_in (x3 + 3) L := hv 3 (by decide)
  have hv4 : vp_in (x3 + 4) L := hv 4 (by decide)
  obtain ⟨L0, f, ch, m0, car, wa, ta, φ, rfl, hR⟩ := hz
  refine lv_aload_n hx hb dL_law_438 rfl (lv_at hl 2 rfl) ?_
  refine lv_aload_n hx hb dL_law_439 rfl (lv_at hl 3 rfl) ?_
  refine lv_iload_n hx hb dL_law_440 rfl (lv_at hl 0 rfl) ?_
  refine lv_iconst (v := 1) hx hb dL_law_441 (by decide) ?_
  refine lv_iadd hx hb dL_law_442 ?_
  refine va_sld hx hb hX hbl hbA w.2.2.1 hv1 dL_law_443 ?_
  refine lv_aload_n hx hb dL_law_444 rfl (lv_at hl 3 rfl) ?_
  refine lv_iload_n hx hb dL_law_445 rfl (lv_at hl 0 rfl) ?_
  refine lv_iconst (v := 2) hx hb dL_law_446 (by decide) ?_
  refine lv_iadd hx hb dL_law_447 ?_
  refine va_sld hx hb hX hbl hbA w.2.2.1 hv2 dL_law_448 ?_
  refine lv_aload_n hx hb dL_law_449 rfl (lv_at hl 3 rfl) ?_
  refine lv_iload_n hx hb dL_law_450 rfl (lv_at hl 0 rfl) ?_
  refine lv_iconst (v := 3) hx hb dL_law_451 (by decide) ?_
  refine lv_iadd hx hb dL_law_452 ?_
  refine va_sld hx hb hX hbl hbA w.2.2.1 hv3 dL_law_453 ?_
  refine lv_aload_n hx hb dL_law_454 rfl (lv_at hl 3 rfl) ?_
  refine lv_iload_n hx hb dL_law_455 rfl (lv_at hl 0 rfl) ?_
  refine lv_iconst (v := 4) hx hb dL_law_456 (by decide) ?_
  refine lv_iadd hx hb dL_law_457 ?_
  refine va_sld hx hb hX hbl hbA w.2.2.1 hv4 dL_law_458 ?_
  refine lv_if_eq (tgt := 466) hx hb dL_law_459 (by decide) (fun c1 => ?_) (fun c1 => ?_)
  · refine lv_iconst (v := 0) hx hb dL_law_466 (by decide) ?_
    refine zXl w (va_runV (As := [.int (xs (x3 + 1).toNatClampNeg), .int (xs (x3 + 2).toNatClampNeg), .int (xs (x3 + 3).toNatClampNeg), .int 0]) (rest := []) ⟨hx, hb, hml, hown, hts⟩ (kX6_tick l G hR.1.1 hR.1.2.1 hR.1.2.2.1 (xs (x3 + 1).toNatClampNeg) (xs (x3 + 2).toNatClampNeg) (xs (x3 + 3).toNatClampNeg) 0 H.size) (cwV 4 hts gL_law_X6_tick rfl rfl rfl (by decide +kernel) ⟨(Nat.le_of_ble_eq_true rfl), (Nat.le_of_ble_eq_true rfl)⟩) (zPV (zWl w) hK (px_recv (r := (RX6, TX6, 4)) hK (zWl w) hR.1.1.1.1 hR.1.1.2.1 rfl)) rfl rfl hl.1 rfl (lv_room (Nat.le_of_ble_eq_true rfl)) dL_law_467 ⟨Nat.le_trans (Nat.add_le_add_left (Nat.le_of_ble_eq_true rfl) cells) hc1, Nat.le_trans (Nat.add_le_add_left (Nat.le_of_ble_eq_true rfl) slots) hs1⟩) (fun r u H locs h1 w => ?_)
    refine W.widen (k := cells + 26) (n := slots + 505) (Nat.add_le_add_left (Nat.le_of_ble_eq_true rfl) cells) (Nat.add_le_add_left (Nat.le_of_ble_eq_true rfl) slots) ?_
    refine lv_aload_n hx hb dL_law_470 rfl (lv_at hl 1 rfl) ?_
    refine lv_aload_n hx hb dL_law_471 rfl (lv_at hl 3 rfl) ?_
    refine lv_iload_n hx hb dL_law_472 rfl (lv_at hl 0 rfl) ?_
    refine lv_iconst (v := 1) hx hb dL_law_473 (by decide) ?_
    refine lv_iadd hx hb dL_law_474 ?_
    refine va_sld hx hb hX hbl hbA w.2.2.1 hv1 dL_law_475 ?_
    refine lv_aload_n hx hb dL_law_476 rfl (lv_at hl 3 rfl) ?_
    refine lv_iload_n hx hb dL_law_477 rfl (lv_at hl 0 rfl) ?_
    refine lv_iconst (v := 2) hx hb dL_law_478 (by decide) ?_
    refine lv_iadd hx hb dL_law_479 ?_
    refine va_sld hx hb hX hbl hbA w.2.2.1 hv2 dL_law_480 ?_
    refine lv_aload_n hx hb dL_law_481 rfl (lv_at hl 3 rfl) ?_
    refine lv_iload_n hx hb dL_law_482 rfl (lv_at hl 0 rfl) ?_
    refine lv_iconst (v := 3) hx hb dL_law_483 (by decide) ?_
    refine lv_iadd hx hb dL_law_484 ?_
    refine va_sld hx hb hX hbl hbA w.2.2.1 hv3 dL_law_485 ?_
    refine lv_aload_n hx hb dL_law_486 rfl (lv_at hl 3 rfl) ?_
    refine lv_iload_n hx hb dL_law_487 rfl (lv_at hl 0 rfl) ?_
    refine lv_iconst (v := 4) hx hb dL_law_488 (by decide) ?_
    refine lv_iadd hx hb dL_law_489 ?_
    refine va_sld hx hb hX hbl hbA w.2.2.1 hv4 dL_law_490 ?_
    refine lv_if_eq (tgt := 498) hx hb dL_law_491 (by decide) (fun c2 => ?_) (fun c2 => absurd c1 c2)
    refine lv_iconst (v := 0) hx hb dL_law_498 (by decide) ?_
    have w := zWs w
    refine zXl w (va_runV (As := [.int (xs (x3 + 1).toNatClampNeg), .int (xs (x3 + 2).toNatClampNeg), .int (xs (x3 + 3).toNatClampNeg), .int 0]) (rest := [.long r]) ⟨hx, hb, hml, hown, hts⟩ (kX7_tick l G ad hR.2.2.2.2.2.2.2.2 (xs (x3 + 1).toNatClampNeg) (xs (x3 + 2).toNatClampNeg) (xs (x3 + 3).toNatClampNeg) 0 H.size) (cwV 4 hts gL_law_X7_tick rfl rfl rfl (by decide +kernel) ⟨(Nat.le_of_ble_eq_true rfl), (Nat.le_of_ble_eq_true rfl)⟩) (zPV (zWl w) hK (va_recv (q := (RX7, TX7, 11)) hK.1 (zWl w).1 (ci := 6) (q0 := 0) rfl rfl)) rfl rfl hl.1 rfl (lv_room (Nat.le_of_ble_eq_true rfl)) dL_law_499 ⟨hc1, hs1⟩) (fun v u2 H locs h2 w => ?_)
    obtain ⟨er, M2, lev2, e2, hz2⟩ := st_tick hR h1 h2
    subst e2
    have w := zWs w
    refine W.lcmp hx hb dL_law_502 ?_
    refine lv_if_eq (tgt := 977) hx hb dL_law_503 (by decide) (fun c9 => ?_) (fun c9 => absurd er (zcmp1 c9))
    exact kk u M2 lev2 _ _ hz2 w
  · refine lv_iconst (v := 1) hx hb dL_law_462 (by decide) ?_
    refine lv_goto (tgt := 467) hx hb dL_law_463 (by decide) ?_
    refine zXl w (va_runV (As := [.int (xs (x3 + 1).toNatClampNeg), .int (xs (x3 + 2).toNatClampNeg), .int (xs (x3 + 3).toNatClampNeg), .int 1]) (rest := []) ⟨hx, hb, hml, hown, hts⟩ (kX6_tick l G hR.1.1 hR.1.2.1 hR.1.2.2.1 (xs (x3 + 1).toNatClampNeg) (xs (x3 + 2).toNatClampNeg) (xs (x3 + 3).toNatClampNeg) 1 H.size) (cwV 4 hts gL_law_X6_tick rfl rfl rfl (by decide +kernel) ⟨(Nat.le_of_ble_eq_true rfl), (Nat.le_of_ble_eq_true rfl)⟩) (zPV (zWl w) hK (px_recv (r := (RX6, TX6, 4)) hK (zWl w) hR.1.1.1.1 hR.1.1.2.1 rfl)) rfl rfl hl.1 rfl (lv_room (Nat.le_of_ble_eq_true rfl)) dL_law_467 ⟨Nat.le_trans (Nat.add_le_add_left (Nat.le_of_ble_eq_true rfl) cells) hc1, Nat.le_trans (Nat.add_le_add_left (Nat.le_of_ble_eq_true rfl) slots) hs1⟩) (fun r u H locs h1 w => ?_)
    refine W.widen (k := cells + 26) (n := slots + 505) (Nat.add_le_add_left (Nat.le_of_ble_eq_true rfl) cells) (Nat.add_le_add_left (Nat.le_of_ble_eq_true rfl) slots) ?_
    refine lv_aload_n hx hb dL_law_470 rfl (lv_at hl 1 rfl) ?_
    refine lv_aload_n hx hb dL_law_471 rfl (lv_at hl 3 rfl) ?_
    refine lv_iload_n hx hb dL_law_472 rfl (lv_at hl 0 rfl) ?_
    refine lv_iconst (v := 1) hx hb dL_law_473 (by decide) ?_
    refine lv_iadd hx hb dL_law_474 ?_
    refine va_sld hx hb hX hbl hbA w.2.2.1 hv1 dL_law_475 ?_
    refine lv_aload_n hx hb dL_law_476 rfl (lv_at hl 3 rfl) ?_
    refine lv_iload_n hx hb dL_law_477 rfl (lv_at hl 0 rfl) ?_
    refine lv_iconst (v := 2) hx hb dL_law_478 (by decide) ?_
    refine lv_iadd hx hb dL_law_479 ?_
    refine va_sld hx hb hX hbl hbA w.2.2.1 hv2 dL_law_480 ?_
    refine lv_aload_n hx hb dL_law_481 rfl (lv_at hl 3 rfl) ?_
    refine lv_iload_n hx hb dL_law_482 rfl (lv_at hl 0 rfl) ?_
    refine lv_iconst (v := 3) hx hb dL_law_483 (by decide) ?_
    refine lv_iadd hx hb dL_law_484 ?_
    refine va_sld hx hb hX hbl hbA w.2.2.1 hv3 dL_law_485 ?_
    refine lv_aload_n hx hb dL_law_486 rfl (lv_at hl 3 rfl) ?_
    refine lv_iload_n hx hb dL_law_487 rfl (lv_at hl 0 rfl) ?_
    refine lv_iconst (v := 4) hx hb dL_law_488 (by decide) ?_
    refine lv_iadd hx hb dL_law_489 ?_
    refine va_sld hx hb hX hbl hbA w.2.2.1 hv4 dL_law_490 ?_
    refine lv_if_eq (tgt := 498) hx hb dL_law_491 (by decide) (fun c2 => absurd c2 c1) (fun c2 => ?_)
    refine lv_iconst (v := 1) hx hb dL_law_494 (by decide) ?_
    refine lv_goto (tgt := 499) hx hb dL_law_495 (by decide) ?_
    have w := zWs w
    refine zXl w (va_runV (As := [.int (xs (x3 + 1).toNatClampNeg), .int (xs (x3 + 2).toNatClampNeg), .int (xs (x3 + 3).toNatClampNeg), .int 1]) (rest := [.long r]) ⟨hx, hb, hml, hown, hts⟩ (kX7_tick l G ad hR.2.2.2.2.2.2.2.2 (xs (x3 + 1).toNatClampNeg) (xs (x3 + 2).toNatClampNeg) (xs (x3 + 3).toNatClampNeg) 1 H.size) (cwV 4 hts gL_law_X7_tick rfl rfl rfl (by decide +kernel) ⟨(Nat.le_of_ble_eq_true rfl), (Nat.le_of_ble_eq_true rfl)⟩) (zPV (zWl w) hK (va_recv (q := (RX7, TX7, 11)) hK.1 (zWl w).1 (ci := 6) (q0 := 0) rfl rfl)) rfl rfl hl.1 rfl (lv_room (Nat.le_of_ble_eq_true rfl)) dL_law_499 ⟨hc1, hs1⟩) (fun v u2 H locs h2 w => ?_)
    obtain ⟨er, M2, lev2, e2, hz2⟩ := st_tick hR h1 h2
    subst e2
    have w := zWs w
    refine W.lcmp hx hb dL_law_502 ?_
    refine lv_if_eq (tgt := 977) hx hb dL_law_503 (by decide) (fun c9 => ?_) (fun c9 => absurd er (zcmp1 c9))
    exact kk u M2 lev2 _ _ hz2 w
set_option maxHeartbeats 4000000 in
set_option maxRecDepth 100000 in
theorem law_blend {p : Program} {l : Launch} {e : Env} {s : State} {m : MethodId} {below : List Frame} {meth : Method} {c : Code} {b L : Nat} {xs : Nat → Int32} {G : zG} {ad : Nat → Nat} {o ac aw ar : Nat} {u : va_W} {M : Nat → Nat → Int32} {lev : Nat → UInt32} {H : Heap} {locs : List Loc} {cells slots : Nat} {Q : State → Prop} {ls : Array Slot} {x3 : Int32} (C : zLaw p s m c b L xs G) (hv : ∀ k : Nat, k < 8 → vp_in (x3 + nI k) L) (hl : lv_has ls 4 [(3, .int x3), (2, .ref (ad 0)), (1, .ref o), (0, .ref b)]) (hc1 : cells + 26 ≤ 600000) (hs1 : slots + 505 ≤ 7302250) (hz : zLI2 G o ac aw ar u M lev) (w : zW G (zAl s) s H locs (u ++ mW G ad M lev)) (kk : ∀ (u : va_W) (M : Nat → Nat → Int32) (lev : Nat → UInt32) (H : Heap) (locs : List Loc), zLI2 G o ac aw ar u M lev → zW G (zAl s) s H locs (u ++ mW G ad M lev) → W p l e room_1 s m #[Value.ref b] below meth c H locs (cells + 26) (slots + 505) Q (F0 m 977 ls [])) : W p l e room_1 s m #[Value.ref b] below meth c H locs cells slots Q (F0 m 508 ls []) := by
  obtain ⟨hx, hb, hml, hown, hts, hX, hbl, hK⟩ := C
  have hbA : ¬ zAl s b := Nat.not_le.mpr hbl
  have hv1 : vp_in (x3 + 1) L := hv 1 (by decide)
  have hv2 : vp_in (x3 + 2) L := hv 2 (by decide)
  have hv3 : vp_in (x3 + 3) L := hv 3 (by decide)
  have hv4 : vp_in (x3 + 4) L := hv 4 (by decide)
  have hv5 : vp_in (x3 + 5) L := hv 5 (by decide)
  have hv6 : vp_in (x3 + 6) L := hv 6 (by decide)
  have hv7 : vp_in (x3 + 7) L := hv 7 (by decide)
  obtain ⟨L0, f, ch, m0, car, wa, ta, φ, rfl, hR⟩ := hz
  refine lv_aload_n hx hb dL_law_508 rfl (lv_at hl 2 rfl) ?_
  refine lv_aload_n hx hb dL_law_509 rfl (lv_at hl 3 rfl) ?_
  refine lv_iload_n hx hb dL_law_510 rfl (lv_at hl 0 rfl) ?_
  refine lv_iconst (v := 1) hx hb dL_law_511 (by decide) ?_
  refine lv_iadd hx hb dL_law_512 ?_
  refine va_sld hx hb hX hbl hbA w.2.2.1 hv1 dL_law_513 ?_
  refine lv_aload_n hx hb dL_law_514 rfl (lv_at hl 3 rfl) ?_
  refine lv_iload_n hx hb dL_law_515 rfl (lv_at hl 0 rfl) ?_
  refine lv_iconst (v := 2) hx hb dL_law_516 (by decide) ?_
  refine lv_iadd hx hb dL_law_517 ?_
  refine va_sld hx hb hX hbl hbA w.2.2.1 hv2 dL_law_518 ?_
  refine lv_aload_n hx hb dL_law_519 rfl (lv_at hl 3 rfl) ?_
  refine lv_iload_n hx hb dL_law_520 rfl (lv_at hl 0 rfl) ?_
  refine lv_iconst (v := 3) hx hb dL_law_521 (by decide) ?_
  refine lv_iadd hx hb dL_law_522 ?_
  refine va_sld hx hb hX hbl hbA w.2.2.1 hv3 dL_law_523 ?_
  refine lv_aload_n hx hb dL_law_524 rfl (lv_at hl 3 rfl) ?_
  refine lv_iload_n hx hb dL_law_525 rfl (lv_at hl 0 rfl) ?_
  refine lv_iconst (v := 4) hx hb dL_law_526 (by decide) ?_
  refine lv_iadd hx hb dL_law_527 ?_
  refine va_sld hx hb hX hbl hbA w.2.2.1 hv4 dL_law_528 ?_
  refine lv_aload_n hx hb dL_law_529 rfl (lv_at hl 3 rfl) ?_
  refine lv_iload_n hx hb dL_law_530 rfl (lv_at hl 0 rfl) ?_
  refine lv_iconst (v := 5) hx hb dL_law_531 (by decide) ?_
  refine lv_iadd hx hb dL_law_532 ?_
  refine va_sld hx hb hX hbl hbA w.2.2.1 hv5 dL_law_533 ?_
  refine lv_aload_n hx hb dL_law_534 rfl (lv_at hl 3 rfl) ?_
  refine lv_iload_n hx hb dL_law_535 rfl (lv_at hl 0 rfl) ?_
  refine lv_bipush (v := 6) hx hb dL_law_536 (by decide) ?_
  refine lv_iadd hx hb dL_law_538 ?_
  refine va_sld hx hb hX hbl hbA w.2.2.1 hv6 dL_law_539 ?_
  refine lv_aload_n hx hb dL_law_540 rfl (lv_at hl 3 rfl) ?_
  refine lv_iload_n hx hb dL_law_541 rfl (lv_at hl 0 rfl) ?_
  refine lv_bipush (v := 7) hx hb dL_law_542 (by decide) ?_
  refine lv_iadd hx hb dL_law_544 ?_
  refine va_sld hx hb hX hbl hbA w.2.2.1 hv7 dL_law_545 ?_
  refine lv_if_eq (tgt := 553) hx hb dL_law_546 (by decide) (fun c1 => ?_) (fun c1 => ?_)
  · refine lv_iconst (v := 0) hx hb dL_law_553 (by decide) ?_
    refine zXl w (va_runV (As := [.int (xs (x3 + 1).toNatClampNeg), .int (xs (x3 + 2).toNatClampNeg), .int (xs (x3 + 3).toNatClampNeg), .int (xs (x3 + 4).toNatClampNeg), .int (xs (x3 + 5).toNatClampNeg), .int (xs (x3 + 6).toNatClampNeg), .int 0]) (rest := []) ⟨hx, hb, hml, hown, hts⟩ (kX6_blend l G hR.1.1 hR.1.2.1 hR.1.2.2.1 (xs (x3 + 1).toNatClampNeg) (xs (x3 + 2).toNatClampNeg) (xs (x3 + 3).toNatClampNeg) (xs (x3 + 4).toNatClampNeg) (xs (x3 + 5).toNatClampNeg) (xs (x3 + 6).toNatClampNeg) 0 H.size) (cwV 7 hts gL_law_X6_blend rfl rfl rfl (by decide +kernel) ⟨(Nat.le_of_ble_eq_true rfl), (Nat.le_of_ble_eq_true rfl)⟩) (zPV (zWl w) hK (px_recv (r := (RX6, TX6, 4)) hK (zWl w) hR.1.1.1.1 hR.1.1.2.1 rfl)) rfl rfl hl.1 rfl (lv_room (Nat.le_of_ble_eq_true rfl)) dL_law_554 ⟨Nat.le_trans (Nat.add_le_add_left (Nat.le_of_ble_eq_true rfl) cells) hc1, Nat.le_trans (Nat.add_le_add_left (Nat.le_of_ble_eq_true rfl) slots) hs1⟩) (fun r u H locs h1 w => ?_)
    refine W.widen (k := cells + 26) (n := slots + 505) (Nat.add_le_add_left (Nat.le_of_ble_eq_true rfl) cells) (Nat.add_le_add_left (Nat.le_of_ble_eq_true rfl) slots) ?_
    refine lv_aload_n hx hb dL_law_557 rfl (lv_at hl 1 rfl) ?_
    refine lv_aload_n hx hb dL_law_558 rfl (lv_at hl 3 rfl) ?_
    refine lv_iload_n hx hb dL_law_559 rfl (lv_at hl 0 rfl) ?_
    refine lv_iconst (v := 1) hx hb dL_law_560 (by decide) ?_
    refine lv_iadd hx hb dL_law_561 ?_
    refine va_sld hx hb hX hbl hbA w.2.2.1 hv1 dL_law_562 ?_
    refine lv_aload_n hx hb dL_law_563 rfl (lv_at hl 3 rfl) ?_
    refine lv_iload_n hx hb dL_law_564 rfl (lv_at hl 0 rfl) ?_
    refine lv_iconst (v := 2) hx hb dL_law_565 (by decide) ?_
    refine lv_iadd hx hb dL_law_566 ?_
    refine va_sld hx hb hX hbl hbA w.2.2.1 hv2 dL_law_567 ?_
    refine lv_aload_n hx hb dL_law_568 rfl (lv_at hl 3 rfl) ?_
    refine lv_iload_n hx hb dL_law_569 rfl (lv_at hl 0 rfl) ?_
    refine lv_iconst (v := 3) hx hb dL_law_570 (by decide) ?_
    refine lv_iadd hx hb dL_law_571 ?_
    refine va_sld hx hb hX hbl hbA w.2.2.1 hv3 dL_law_572 ?_
    refine lv_aload_n hx hb dL_law_573 rfl (lv_at hl 3 rfl) ?_
    refine lv_iload_n hx hb dL_law_574 rfl (lv_at hl 0 rfl) ?_
    refine lv_iconst (v := 4) hx hb dL_law_575 (by decide) ?_
    refine lv_iadd hx hb dL_law_576 ?_
    refine va_sld hx hb hX hbl hbA w.2.2.1 hv4 dL_law_577 ?_
    refine lv_aload_n hx hb dL_law_578 rfl (lv_at hl 3 rfl) ?_
    refine lv_iload_n hx hb dL_law_579 rfl (lv_at hl 0 rfl) ?_
    refine lv_iconst (v := 5) hx hb dL_law_580 (by decide) ?_
    refine lv_iadd hx hb dL_law_581 ?_
    refine va_sld hx hb hX hbl hbA w.2.2.1 hv5 dL_law_582 ?_
    refine lv_aload_n hx hb dL_law_583 rfl (lv_at hl 3 rfl) ?_
    refine lv_iload_n hx hb dL_law_584 rfl (lv_at hl 0 rfl) ?_
    refine lv_bipush (v := 6) hx hb dL_law_585 (by decide) ?_
    refine lv_iadd hx hb dL_law_587 ?_
    refine va_sld hx hb hX hbl hbA w.2.2.1 hv6 dL_law_588 ?_
    refine lv_aload_n hx hb dL_law_589 rfl (lv_at hl 3 rfl) ?_
    refine lv_iload_n hx hb dL_law_590 rfl (lv_at hl 0 rfl) ?_
    refine lv_bipush (v := 7) hx hb dL_law_591 (by decide) ?_
    refine lv_iadd hx hb dL_law_593 ?_
    refine va_sld hx hb hX hbl hbA w.2.2.1 hv7 dL_law_594 ?_
    refine lv_if_eq (tgt := 602) hx hb dL_law_595 (by decide) (fun c2 => ?_) (fun c2 => absurd c1 c2)
    refine lv_iconst (v := 0) hx hb dL_law_602 (by decide) ?_
    have w := zWs w
    refine zXl w (va_runV (As := [.int (xs (x3 + 1).toNatClampNeg), .int (xs (x3 + 2).toNatClampNeg), .int (xs (x3 + 3).toNatClampNeg), .int (xs (x3 + 4).toNatClampNeg), .int (xs (x3 + 5).toNatClampNeg), .int (xs (x3 + 6).toNatClampNeg), .int 0]) (rest := [.long r]) ⟨hx, hb, hml, hown, hts⟩ (kX7_blend l G ad hR.2.2.2.2.2.2.2.2 (xs (x3 + 1).toNatClampNeg) (xs (x3 + 2).toNatClampNeg) (xs (x3 + 3).toNatClampNeg) (xs (x3 + 4).toNatClampNeg) (xs (x3 + 5).toNatClampNeg) (xs (x3 + 6).toNatClampNeg) 0 H.size) (cwV 7 hts gL_law_X7_blend rfl rfl rfl (by decide +kernel) ⟨(Nat.le_of_ble_eq_true rfl), (Nat.le_of_ble_eq_true rfl)⟩) (zPV (zWl w) hK (va_recv (q := (RX7, TX7, 11)) hK.1 (zWl w).1 (ci := 6) (q0 := 0) rfl rfl)) rfl rfl hl.1 rfl (lv_room (Nat.le_of_ble_eq_true rfl)) dL_law_603 ⟨hc1, hs1⟩) (fun v u2 H locs h2 w => ?_)
    obtain ⟨er, M2, lev2, e2, hz2⟩ := st_blend hR h1 h2
    subst e2
    have w := zWs w
    refine W.lcmp hx hb dL_law_606 ?_
    refine lv_if_eq (tgt := 977) hx hb dL_law_607 (by decide) (fun c9 => ?_) (fun c9 => absurd er (zcmp1 c9))
    exact kk u M2 lev2 _ _ hz2 w
  · refine lv_iconst (v := 1) hx hb dL_law_549 (by decide) ?_
    refine lv_goto (tgt := 554) hx hb dL_law_550 (by decide) ?_
    refine zXl w (va_runV (As := [.int (xs (x3 + 1).toNatClampNeg), .int (xs (x3 + 2).toNatClampNeg), .int (xs (x3 + 3).toNatClampNeg), .int (xs (x3 + 4).toNatClampNeg), .int (xs (x3 + 5).toNatClampNeg), .int (xs (x3 + 6).toNatClampNeg), .int 1]) (rest := []) ⟨hx, hb, hml, hown, hts⟩ (kX6_blend l G hR.1.1 hR.1.2.1 hR.1.2.2.1 (xs (x3 + 1).toNatClampNeg) (xs (x3 + 2).toNatClampNeg) (xs (x3 + 3).toNatClampNeg) (xs (x3 + 4).toNatClampNeg) (xs (x3 + 5).toNatClampNeg) (xs (x3 + 6).toNatClampNeg) 1 H.size) (cwV 7 hts gL_law_X6_blend rfl rfl rfl (by decide +kernel) ⟨(Nat.le_of_ble_eq_true rfl), (Nat.le_of_ble_eq_true rfl)⟩) (zPV (zWl w) hK (px_recv (r := (RX6, TX6, 4)) hK (zWl w) hR.1.1.1.1 hR.1.1.2.1 rfl)) rfl rfl hl.1 rfl (lv_room (Nat.le_of_ble_eq_true rfl)) dL_law_554 ⟨Nat.le_trans (Nat.add_le_add_left (Nat.le_of_ble_eq_true rfl) cells) hc1, Nat.le_trans (Nat.add_le_add_left (Nat.le_of_ble_eq_true rfl) slots) hs1⟩) (fun r u H locs h1 w => ?_)
    refine W.widen (k := cells + 26) (n := slots + 505) (Nat.add_le_add_left (Nat.le_of_ble_eq_true rfl) cells) (Nat.add_le_add_left (Nat.le_of_ble_eq_true rfl) slots) ?_
    refine lv_aload_n hx hb dL_law_557 rfl (lv_at hl 1 rfl) ?_
    refine lv_aload_n hx hb dL_law_558 rfl (lv_at hl 3 rfl) ?_
    refine lv_iload_n hx hb dL_law_559 rfl (lv_at hl 0 rfl) ?_
    refine lv_iconst (v := 1) hx hb dL_law_560 (by decide) ?_
    refine lv_iadd hx hb dL_law_561 ?_
    refine va_sld hx hb hX hbl hbA w.2.2.1 hv1 dL_law_562 ?_
    refine lv_aload_n hx hb dL_law_563 rfl (lv_at hl 3 rfl) ?_
    refine lv_iload_n hx hb dL_law_564 rfl (lv_at hl 0 rfl) ?_
    refine lv_iconst (v := 2) hx hb dL_law_565 (by decide) ?_
    refine lv_iadd hx hb dL_law_566 ?_
    refine va_sld hx hb hX hbl hbA w.2.2.1 hv2 dL_law_567 ?_
    refine lv_aload_n hx hb dL_law_568 rfl (lv_at hl 3 rfl) ?_
    refine lv_iload_n hx hb dL_law_569 rfl (lv_at hl 0 rfl) ?_
    refine lv_iconst (v := 3) hx hb dL_law_570 (by decide) ?_
    refine lv_iadd hx hb dL_law_571 ?_
    refine va_sld hx hb hX hbl hbA w.2.2.1 hv3 dL_law_572 ?_
    refine lv_aload_n hx hb dL_law_573 rfl (lv_at hl 3 rfl) ?_
    refine lv_iload_n hx hb dL_law_574 rfl (lv_at hl 0 rfl) ?_
    refine lv_iconst (v := 4) hx hb dL_law_575 (by decide) ?_
    refine lv_iadd hx hb dL_law_576 ?_
    refine va_sld hx hb hX hbl hbA w.2.2.1 hv4 dL_law_577 ?_
    refine lv_aload_n hx hb dL_law_578 rfl (lv_at hl 3 rfl) ?_
    refine lv_iload_n hx hb dL_law_579 rfl (lv_at hl 0 rfl) ?_
    refine lv_iconst (v := 5) hx hb dL_law_580 (by decide) ?_
    refine lv_iadd hx hb dL_law_581 ?_
    refine va_sld hx hb hX hbl hbA w.2.2.1 hv5 dL_law_582 ?_
    refine lv_aload_n hx hb dL_law_583 rfl (lv_at hl 3 rfl) ?_
    refine lv_iload_n hx hb dL_law_584 rfl (lv_at hl 0 rfl) ?_
    refine lv_bipush (v := 6) hx hb dL_law_585 (by decide) ?_
    refine lv_iadd hx hb dL_law_587 ?_
    refine va_sld hx hb hX hbl hbA w.2.2.1 hv6 dL_law_588 ?_
    refine lv_aload_n hx hb dL_law_589 rfl (lv_at hl 3 rfl) ?_
    refine lv_iload_n hx hb dL_law_590 rfl (lv_at hl 0 rfl) ?_
    refine lv_bipush (v := 7) hx hb dL_law_591 (by decide) ?_
    refine lv_iadd hx hb dL_law_593 ?_
    refine va_sld hx hb hX hbl hbA w.2.2.1 hv7 dL_law_594 ?_
    refine lv_if_eq (tgt := 602) hx hb dL_law_595 (by decide) (fun c2 => absurd c2 c1) (fun c2 => ?_)
    refine lv_iconst (v := 1) hx hb dL_law_598 (by decide) ?_
    refine lv_goto (tgt := 603) hx hb dL_law_599 (by decide) ?_
    have w := zWs w
    refine zXl w (va_runV (As := [.int (xs (x3 + 1).toNatClampNeg), .int (xs (x3 + 2).toNatClampNeg), .int (xs (x3 + 3).toNatClampNeg), .int (xs (x3 + 4).toNatClampNeg), .int (xs (x3 + 5).toNatClampNeg), .int (xs (x3 + 6).toNatClampNeg), .int 1]) (rest := [.long r]) ⟨hx, hb, hml, hown, hts⟩ (kX7_blend l G ad hR.2.2.2.2.2.2.2.2 (xs (x3 + 1).toNatClampNeg) (xs (x3 + 2).toNatClampNeg) (xs (x3 + 3).toNatClampNeg) (xs (x3 + 4).toNatClampNeg) (xs (x3 + 5).toNatClampNeg) (xs (x3 + 6).toNatClampNeg) 1 H.size) (cwV 7 hts gL_law_X7_blend rfl rfl rfl (by decide +kernel) ⟨(Nat.le_of_ble_eq_true rfl), (Nat.le_of_ble_eq_true rfl)⟩) (zPV (zWl w) hK (va_recv (q := (RX7, TX7, 11)) hK.1 (zWl w).1 (ci := 6) (q0 := 0) rfl rfl)) rfl rfl hl.1 rfl (lv_room (Nat.le_of_ble_eq_true rfl)) dL_law_603 ⟨hc1, hs1⟩) (fun v u2 H locs h2 w => ?_)
    obtain ⟨er, M2, lev2, e2, hz2⟩ := st_blend hR h1 h2
    subst e2
    have w := zWs w
    refine W.lcmp hx hb dL_law_606 ?_
    refine lv_if_eq (tgt := 977) hx hb dL_law_607 (by decide) (fun c9 => ?_) (fun c9 => absurd er (zcmp1 c9))
    exact kk u M2 lev2 _ _ hz2 w
set_option maxHeartbeats 4000000 in
set_option maxRecDepth 100000 in
theorem law_hang {p : Program} {l : Launch} {e : Env} {s : State} {m : MethodId} {below : List Frame} {meth : Method} {c : Code} {b L : Nat} {xs : Nat → Int32} {G : zG} {ad : Nat → Nat} {o ac aw ar : Nat} {u : va_W} {M : Nat → Nat → Int32} {lev : Nat → UInt32} {H : Heap} {locs : List Loc} {cells slots : Nat} {Q : State → Prop} {ls : Array Slot} {x3 : Int32} (C : zLaw p s m c b L xs G) (hv : ∀ k : Nat, k < 8 → vp_in (x3 + nI k) L) (hl : lv_has ls 4 [(3, .int x3), (2, .ref (ad 0)), (1, .ref o), (0, .ref b)]) (hc1 : cells + 26 ≤ 600000) (hs1 : slots + 505 ≤ 7302250) (hz : zLI2 G o ac aw ar u M lev) (w : zW G (zAl s) s H locs (u ++ mW G ad M lev)) (kk : ∀ (u : va_W) (M : Nat → Nat → Int32) (lev : Nat → UInt32) (H : Heap) (locs : List Loc), zLI2 G o ac aw ar u M lev → zW G (zAl s) s H locs (u ++ mW G ad M lev) → W p l e room_1 s m #[Value.ref b] below meth c H locs (cells + 26) (slots + 505) Q (F0 m 977 ls [])) : W p l e room_1 s m #[Value.ref b] below meth c H locs cells slots Q (F0 m 612 ls []) := by
  obtain ⟨hx, hb, hml, hown, hts, hX, hbl, hK⟩ := C
  have hbA : ¬ zAl s b := Nat.not_le.mpr hbl
  have hv1 : vp_in (x3 + 1) L := hv 1 (by decide)
  have hv2 : vp_in (x3 + 2) L := hv 2 (by decide)
  have hv3 : vp_in (x3 + 3) L := hv 3 (by decide)
  obtain ⟨L0, f, ch, m0, car, wa, ta, φ, rfl, hR⟩ := hz
  refine lv_aload_n hx hb dL_law_612 rfl (lv_at hl 2 rfl) ?_
  refine lv_aload_n hx hb dL_law_613 rfl (lv_at hl 3 rfl) ?_
  refine lv_iload_n hx hb dL_law_614 rfl (lv_at hl 0 rfl) ?_
  refine lv_iconst (v := 1) hx hb dL_law_615 (by decide) ?_
  refine lv_iadd hx hb dL_law_616 ?_
  refine va_sld hx hb hX hbl hbA w.2.2.1 hv1 dL_law_617 ?_
  refine lv_aload_n hx hb dL_law_618 rfl (lv_at hl 3 rfl) ?_
  refine lv_iload_n hx hb dL_law_619 rfl (lv_at hl 0 rfl) ?_
  refine lv_iconst (v := 2) hx hb dL_law_620 (by decide) ?_
  refine lv_iadd hx hb dL_law_621 ?_
  refine va_sld hx hb hX hbl hbA w.2.2.1 hv2 dL_law_622 ?_
  refine lv_aload_n hx hb dL_law_623 rfl (lv_at hl 3 rfl) ?_
  refine lv_iload_n hx hb dL_law_624 rfl (lv_at hl 0 rfl) ?_
  refine lv_iconst (v := 3) hx hb dL_law_625 (by decide) ?_
  refine lv_iadd hx hb dL_law_626 ?_
  refine va_sld hx hb hX hbl hbA w.2.2.1 hv3 dL_law_627 ?_
  refine zXl w (va_runV (As := [.int (xs (x3 + 1).toNatClampNeg), .int (xs (x3 + 2).toNatClampNeg), .int (xs (x3 + 3).toNatClampNeg)]) (rest := []) ⟨hx, hb, hml, hown, hts⟩ (kX6_hang l G hR.1.1 hR.1.2.1 hR.1.2.2.1 (xs (x3 + 1).toNatClampNeg) (xs (x3 + 2).toNatClampNeg) (xs (x3 + 3).toNatClampNeg) H.size) (cwV 3 hts gL_law_X6_hang rfl rfl rfl (by decide +kernel) ⟨(Nat.le_of_ble_eq_true rfl), (Nat.le_of_ble_eq_true rfl)⟩) (zPV (zWl w) hK (px_recv (r := (RX6, TX6, 4)) hK (zWl w) hR.1.1.1.1 hR.1.1.2.1 rfl)) rfl rfl hl.1 rfl (lv_room (Nat.le_of_ble_eq_true rfl)) dL_law_628 ⟨Nat.le_trans (Nat.add_le_add_left (Nat.le_of_ble_eq_true rfl) cells) hc1, Nat.le_trans (Nat.add_le_add_left (Nat.le_of_ble_eq_true rfl) slots) hs1⟩) (fun r u H locs h1 w => ?_)
  refine W.widen (k := cells + 26) (n := slots + 505) (Nat.add_le_add_left (Nat.le_of_ble_eq_true rfl) cells) (Nat.add_le_add_left (Nat.le_of_ble_eq_true rfl) slots) ?_
  refine lv_aload_n hx hb dL_law_631 rfl (lv_at hl 1 rfl) ?_
  refine lv_aload_n hx hb dL_law_632 rfl (lv_at hl 3 rfl) ?_
  refine lv_iload_n hx hb dL_law_633 rfl (lv_at hl 0 rfl) ?_
  refine lv_iconst (v := 1) hx hb dL_law_634 (by decide) ?_
  refine lv_iadd hx hb dL_law_635 ?_
  refine va_sld hx hb hX hbl hbA w.2.2.1 hv1 dL_law_636 ?_
  refine lv_aload_n hx hb dL_law_637 rfl (lv_at hl 3 rfl) ?_
  refine lv_iload_n hx hb dL_law_638 rfl (lv_at hl 0 rfl) ?_
  refine lv_iconst (v := 2) hx hb dL_law_639 (by decide) ?_
  refine lv_iadd hx hb dL_law_640 ?_
  refine va_sld hx hb hX hbl hbA w.2.2.1 hv2 dL_law_641 ?_
  refine lv_aload_n hx hb dL_law_642 rfl (lv_at hl 3 rfl) ?_
  refine lv_iload_n hx hb dL_law_643 rfl (lv_at hl 0 rfl) ?_
  refine lv_iconst (v := 3) hx hb dL_law_644 (by decide) ?_
  refine lv_iadd hx hb dL_law_645 ?_
  refine va_sld hx hb hX hbl hbA w.2.2.1 hv3 dL_law_646 ?_
  have w := zWs w
  refine zXl w (va_runV (As := [.int (xs (x3 + 1).toNatClampNeg), .int (xs (x3 + 2).toNatClampNeg), .int (xs (x3 + 3).toNatClampNeg)]) (rest := [.long r]) ⟨hx, hb, hml, hown, hts⟩ (kX7_hang l G ad hR.2.2.2.2.2.2.2.2 (xs (x3 + 1).toNatClampNeg) (xs (x3 + 2).toNatClampNeg) (xs (x3 + 3).toNatClampNeg) H.size) (cwV 3 hts gL_law_X7_hang rfl rfl rfl (by decide +kernel) ⟨(Nat.le_of_ble_eq_true rfl), (Nat.le_of_ble_eq_true rfl)⟩) (zPV (zWl w) hK (va_recv (q := (RX7, TX7, 11)) hK.1 (zWl w).1 (ci := 6) (q0 := 0) rfl rfl)) rfl rfl hl.1 rfl (lv_room (Nat.le_of_ble_eq_true rfl)) dL_law_647 ⟨hc1, hs1⟩) (fun v u2 H locs h2 w => ?_)
  obtain ⟨er, M2, lev2, e2, hz2⟩ := st_hang hR h1 h2
  subst e2
  have w := zWs w
  refine W.lcmp hx hb dL_law_650 ?_
  refine lv_if_eq (tgt := 977) hx hb dL_law_651 (by decide) (fun c9 => ?_) (fun c9 => absurd er (zcmp1 c9))
  exact kk u M2 lev2 _ _ hz2 w
set_option maxHeartbeats 4000000 in
set_option maxRecDepth 100000 in
theorem law_pin {p : Program} {l : Launch} {e : Env} {s : State} {m : MethodId} {below : List Frame} {meth : Method} {c : Code} {b L : Nat} {xs : Nat → Int32} {G : zG} {ad : Nat → Nat} {o ac aw ar : Nat} {u : va_W} {M : Nat → Nat → Int32} {lev : Nat → UInt32} {H : Heap} {locs : List Loc} {cells slots : Nat} {Q : State → Prop} {ls : Array Slot} {x3 : Int32} (C : zLaw p s m c b L xs G) (hv : ∀ k : Nat, k < 8 → vp_in (x3 + nI k) L) (hl : lv_has ls 4 [(3, .int x3), (2, .ref (ad 0)), (1, .ref o), (0, .ref b)]) (hc1 : cells + 26 ≤ 600000) (hs1 : slots + 505 ≤ 7302250) (hz : zLI2 G o ac aw ar u M lev) (w : zW G (zAl s) s H locs (u ++ mW G ad M lev)) (kk : ∀ (u : va_W) (M : Nat → Nat → Int32) (lev : Nat → UInt32) (H : Heap) (locs : List Loc), zLI2 G o ac aw ar u M lev → zW G (zAl s) s H locs (u ++ mW G ad M lev) → W p l e room_1 s m #[Value.ref b] below meth c H locs (cells + 26) (slots + 505) Q (F0 m 977 ls [])) : W p l e room_1 s m #[Value.ref b] below meth c H locs cells slots Q (F0 m 656 ls []) := by
  obtain ⟨hx, hb, hml, hown, hts, hX, hbl, hK⟩ := C
  have hbA : ¬ zAl s b := Nat.not_le.mpr hbl
  have hv1 : vp_in (x3 + 1) L := hv 1 (by decide)
  have hv2 : vp_in (x3 + 2) L := hv 2 (by decide)
  have hv3 : vp_in (x3 + 3) L := hv 3 (by decide)
  obtain ⟨L0, f, ch, m0, car, wa, ta, φ, rfl, hR⟩ := hz
  refine lv_aload_n hx hb dL_law_656 rfl (lv_at hl 2 rfl) ?_
  refine lv_aload_n hx hb dL_law_657 rfl (lv_at hl 3 rfl) ?_
  refine lv_iload_n hx hb dL_law_658 rfl (lv_at hl 0 rfl) ?_
  refine lv_iconst (v := 1) hx hb dL_law_659 (by decide) ?_
  refine lv_iadd hx hb dL_law_660 ?_
  refine va_sld hx hb hX hbl hbA w.2.2.1 hv1 dL_law_661 ?_
  refine lv_aload_n hx hb dL_law_662 rfl (lv_at hl 3 rfl) ?_
  refine lv_iload_n hx hb dL_law_663 rfl (lv_at hl 0 rfl) ?_
  refine lv_iconst (v := 2) hx hb dL_law_664 (by decide) ?_
  refine lv_iadd hx hb dL_law_665 ?_
  refine va_sld hx hb hX hbl hbA w.2.2.1 hv2 dL_law_666 ?_
  refine lv_aload_n hx hb dL_law_667 rfl (lv_at hl 3 rfl) ?_
  refine lv_iload_n hx hb dL_law_668 rfl (lv_at hl 0 rfl) ?_
  refine lv_iconst (v := 3) hx hb dL_law_669 (by decide) ?_
  refine lv_iadd hx hb dL_law_670 ?_
  refine va_sld hx hb hX hbl hbA w.2.2.1 hv3 dL_law_671 ?_
  refine zXl w (va_runV (As := [.int (xs (x3 + 1).toNatClampNeg), .int (xs (x3 + 2).toNatClampNeg), .int (xs (x3 + 3).toNatClampNeg)]) (rest := []) ⟨hx, hb, hml, hown, hts⟩ (kX6_pin l G hR.1.1 hR.1.2.1 hR.1.2.2.1 (xs (x3 + 1).toNatClampNeg) (xs (x3 + 2).toNatClampNeg) (xs (x3 + 3).toNatClampNeg) H.size) (cwV 3 hts gL_law_X6_pin rfl rfl rfl (by decide +kernel) ⟨(Nat.le_of_ble_eq_true rfl), (Nat.le_of_ble_eq_true rfl)⟩) (zPV (zWl w) hK (px_recv (r := (RX6, TX6, 4)) hK (zWl w) hR.1.1.1.1 hR.1.1.2.1 rfl)) rfl rfl hl.1 rfl (lv_room (Nat.le_of_ble_eq_true rfl)) dL_law_672 ⟨Nat.le_trans (Nat.add_le_add_left (Nat.le_of_ble_eq_true rfl) cells) hc1, Nat.le_trans (Nat.add_le_add_left (Nat.le_of_ble_eq_true rfl) slots) hs1⟩) (fun r u H locs h1 w => ?_)
  refine W.widen (k := cells + 26) (n := slots + 505) (Nat.add_le_add_left (Nat.le_of_ble_eq_true rfl) cells) (Nat.add_le_add_left (Nat.le_of_ble_eq_true rfl) slots) ?_
  refine lv_aload_n hx hb dL_law_675 rfl (lv_at hl 1 rfl) ?_
  refine lv_aload_n hx hb dL_law_676 rfl (lv_at hl 3 rfl) ?_
  refine lv_iload_n hx hb dL_law_677 rfl (lv_at hl 0 rfl) ?_
  refine lv_iconst (v := 1) hx hb dL_law_678 (by decide) ?_
  refine lv_iadd hx hb dL_law_679 ?_
  refine va_sld hx hb hX hbl hbA w.2.2.1 hv1 dL_law_680 ?_
  refine lv_aload_n hx hb dL_law_681 rfl (lv_at hl 3 rfl) ?_
  refine lv_iload_n hx hb dL_law_682 rfl (lv_at hl 0 rfl) ?_
  refine lv_iconst (v := 2) hx hb dL_law_683 (by decide) ?_
  refine lv_iadd hx hb dL_law_684 ?_
  refine va_sld hx hb hX hbl hbA w.2.2.1 hv2 dL_law_685 ?_
  refine lv_aload_n hx hb dL_law_686 rfl (lv_at hl 3 rfl) ?_
  refine lv_iload_n hx hb dL_law_687 rfl (lv_at hl 0 rfl) ?_
  refine lv_iconst (v := 3) hx hb dL_law_688 (by decide) ?_
  refine lv_iadd hx hb dL_law_689 ?_
  refine va_sld hx hb hX hbl hbA w.2.2.1 hv3 dL_law_690 ?_
  have w := zWs w
  refine zXl w (va_runV (As := [.int (xs (x3 + 1).toNatClampNeg), .int (xs (x3 + 2).toNatClampNeg), .int (xs (x3 + 3).toNatClampNeg)]) (rest := [.long r]) ⟨hx, hb, hml, hown, hts⟩ (kX7_pin l G ad hR.2.2.2.2.2.2.2.2 (xs (x3 + 1).toNatClampNeg) (xs (x3 + 2).toNatClampNeg) (xs (x3 + 3).toNatClampNeg) H.size) (cwV 3 hts gL_law_X7_pin rfl rfl rfl (by decide +kernel) ⟨(Nat.le_of_ble_eq_true rfl), (Nat.le_of_ble_eq_true rfl)⟩) (zPV (zWl w) hK (va_recv (q := (RX7, TX7, 11)) hK.1 (zWl w).1 (ci := 6) (q0 := 0) rfl rfl)) rfl rfl hl.1 rfl (lv_room (Nat.le_of_ble_eq_true rfl)) dL_law_691 ⟨hc1, hs1⟩) (fun v u2 H locs h2 w => ?_)
  obtain ⟨er, M2, lev2, e2, hz2⟩ := st_pin hR h1 h2
  subst e2
  have w := zWs w
  refine W.lcmp hx hb dL_law_694 ?_
  refine lv_if_eq (tgt := 977) hx hb dL_law_695 (by decide) (fun c9 => ?_) (fun c9 => absurd er (zcmp1 c9))
  exact kk u M2 lev2 _ _ hz2 w
set_option maxHeartbeats 4000000 in
set_option maxRecDepth 100000 in
theorem law_peel {p : Program} {l : Launch} {e : Env} {s : State} {m : MethodId} {below : List Frame} {meth : Method} {c : Code} {b L : Nat} {xs : Nat → Int32} {G : zG} {ad : Nat → Nat} {o ac aw ar : Nat} {u : va_W} {M : Nat → Nat → Int32} {lev : Nat → UInt32} {H : Heap} {locs : List Loc} {cells slots : Nat} {Q : State → Prop} {ls : Array Slot} {x3 : Int32} (C : zLaw p s m c b L xs G) (hv : ∀ k : Nat, k < 8 → vp_in (x3 + nI k) L) (hl : lv_has ls 4 [(3, .int x3), (2, .ref (ad 0)), (1, .ref o), (0, .ref b)]) (hc1 : cells + 26 ≤ 600000) (hs1 : slots + 505 ≤ 7302250) (hz : zLI2 G o ac aw ar u M lev) (w : zW G (zAl s) s H locs (u ++ mW G ad M lev)) (kk : ∀ (u : va_W) (M : Nat → Nat → Int32) (lev : Nat → UInt32) (H : Heap) (locs : List Loc), zLI2 G o ac aw ar u M lev → zW G (zAl s) s H locs (u ++ mW G ad M lev) → W p l e room_1 s m #[Value.ref b] below meth c H locs (cells + 26) (slots + 505) Q (F0 m 977 ls [])) : W p l e room_1 s m #[Value.ref b] below meth c H locs cells slots Q (F0 m 700 ls []) := by
  obtain ⟨hx, hb, hml, hown, hts, hX, hbl, hK⟩ := C
  have hbA : ¬ zAl s b := Nat.not_le.mpr hbl
  have hv1 : vp_in (x3 + 1) L := hv 1 (by decide)
  have hv2 : vp_in (x3 + 2) L := hv 2 (by decide)
  have hv3 : vp_in (x3 + 3) L := hv 3 (by decide)
  obtain ⟨L0, f, ch, m0, car, wa, ta, φ, rfl, hR⟩ := hz
  refine lv_aload_n hx hb dL_law_700 rfl (lv_at hl 2 rfl) ?_
  refine lv_aload_n hx hb dL_law_701 rfl (lv_at hl 3 rfl) ?_
  refine lv_iload_n hx hb dL_law_702 rfl (lv_at hl 0 rfl) ?_
  refine lv_iconst (v := 1) hx hb dL_law_703 (by decide) ?_
  refine lv_iadd hx hb dL_law_704 ?_
  refine va_sld hx hb hX hbl hbA w.2.2.1 hv1 dL_law_705 ?_
  refine lv_aload_n hx hb dL_law_706 rfl (lv_at hl 3 rfl) ?_
  refine lv_iload_n hx hb dL_law_707 rfl (lv_at hl 0 rfl) ?_
  refine lv_iconst (v := 2) hx hb dL_law_708 (by decide) ?_
  refine lv_iadd hx hb dL_law_709 ?_
  refine va_sld hx hb hX hbl hbA w.2.2.1 hv2 dL_law_710 ?_
  refine lv_aload_n hx hb dL_law_711 rfl (lv_at hl 3 rfl) ?_
  refine lv_iload_n hx hb dL_law_712 rfl (lv_at hl 0 rfl) ?_
  refine lv_iconst (v := 3) hx hb dL_law_713 (by decide) ?_
  refine lv_iadd hx hb dL_law_714 ?_
  refine va_sld hx hb hX hbl hbA w.2.2.1 hv3 dL_law_715 ?_
  refine zXl w (va_runV (As := [.int (xs (x3 + 1).toNatClampNeg), .int (xs (x3 + 2).toNatClampNeg), .int (xs (x3 + 3).toNatClampNeg)]) (rest := []) ⟨hx, hb, hml, hown, hts⟩ (kX6_peel l G hR.1.1 hR.1.2.1 hR.1.2.2.1 (xs (x3 + 1).toNatClampNeg) (xs (x3 + 2).toNatClampNeg) (xs (x3 + 3).toNatClampNeg) H.size) (cwV 3 hts gL_law_X6_peel rfl rfl rfl (by decide +kernel) ⟨(Nat.le_of_ble_eq_true rfl), (Nat.le_of_ble_eq_true rfl)⟩) (zPV (zWl w) hK (px_recv (r := (RX6, TX6, 4)) hK (zWl w) hR.1.1.1.1 hR.1.1.2.1 rfl)) rfl rfl hl.1 rfl (lv_room (Nat.le_of_ble_eq_true rfl)) dL_law_716 ⟨Nat.le_trans (Nat.add_le_add_left (Nat.le_of_ble_eq_true rfl) cells) hc1, Nat.le_trans (Nat.add_le_add_left (Nat.le_of_ble_eq_true rfl) slots) hs1⟩) (fun r u H locs h1 w => ?_)
  refine W.widen (k := cells + 26) (n := slots + 505) (Nat.add_le_add_left (Nat.le_of_ble_eq_true rfl) cells) (Nat.add_le_add_left (Nat.le_of_ble_eq_true rfl) slots) ?_
  refine lv_aload_n hx hb dL_law_719 rfl (lv_at hl 1 rfl) ?_
  refine lv_aload_n hx hb dL_law_720 rfl (lv_at hl 3 rfl) ?_
  refine lv_iload_n hx hb dL_law_721 rfl (lv_at hl 0 rfl) ?_
  refine lv_iconst (v := 1) hx hb dL_law_722 (by decide) ?_
  refine lv_iadd hx hb dL_law_723 ?_
  refine va_sld hx hb hX hbl hbA w.2.2.1 hv1 dL_law_724 ?_
  refine lv_aload_n hx hb dL_law_725 rfl (lv_at hl 3 rfl) ?_
  refine lv_iload_n hx hb dL_law_726 rfl (lv_at hl 0 rfl) ?_
  refine lv_iconst (v := 2) hx hb dL_law_727 (by decide) ?_
  refine lv_iadd hx hb dL_law_728 ?_
  refine va_sld hx hb hX hbl hbA w.2.2.1 hv2 dL_law_729 ?_
  refine lv_aload_n hx hb dL_law_730 rfl (lv_at hl 3 rfl) ?_
  refine lv_iload_n hx hb dL_law_731 rfl (lv_at hl 0 rfl) ?_
  refine lv_iconst (v := 3) hx hb dL_law_732 (by decide) ?_
  refine lv_iadd hx hb dL_law_733 ?_
  refine va_sld hx hb hX hbl hbA w.2.2.1 hv3 dL_law_734 ?_
  have w := zWs w
  refine zXl w (va_runV (As := [.int (xs (x3 + 1).toNatClampNeg), .int (xs (x3 + 2).toNatClampNeg), .int (xs (x3 + 3).toNatClampNeg)]) (rest := [.long r]) ⟨hx, hb, hml, hown, hts⟩ (kX7_peel l G ad hR.2.2.2.2.2.2.2.2 (xs (x3 + 1).toNatClampNeg) (xs (x3 + 2).toNatClampNeg) (xs (x3 + 3).toNatClampNeg) H.size) (cwV 3 hts gL_law_X7_peel rfl rfl rfl (by decide +kernel) ⟨(Nat.le_of_ble_eq_true rfl), (Nat.le_of_ble_eq_true rfl)⟩) (zPV (zWl w) hK (va_recv (q := (RX7, TX7, 11)) hK.1 (zWl w).1 (ci := 6) (q0 := 0) rfl rfl)) rfl rfl hl.1 rfl (lv_room (Nat.le_of_ble_eq_true rfl)) dL_law_735 ⟨hc1, hs1⟩) (fun v u2 H locs h2 w => ?_)
  obtain ⟨er, M2, lev2, e2, hz2⟩ := st_peel hR h1 h2
  subst e2
  have w := zWs w
  refine W.lcmp hx hb dL_law_738 ?_
  refine lv_if_eq (tgt := 977) hx hb dL_law_739 (by decide) (fun c9 => ?_) (fun c9 => absurd er (zcmp1 c9))
  exact kk u M2 lev2 _ _ hz2 w
set_option maxHeartbeats 4000000 in
set_option maxRecDepth 100000 in
theorem law_spot {p : Program} {l : Launch} {e : Env} {s : State} {m : MethodId} {below : List Frame} {meth : Method} {c : Code} {b L : Nat} {xs : Nat → Int32} {G : zG} {ad : Nat → Nat} {o ac aw ar : Nat} {u : va_W} {M : Nat → Nat → Int32} {lev : Nat → UInt32} {H : Heap} {locs : List Loc} {cells slots : Nat} {Q : State → Prop} {ls : Array Slot} {x3 : Int32} (C : zLaw p s m c b L xs G) (hv : ∀ k : Nat, k < 8 → vp_in (x3 + nI k) L) (hl : lv_has ls 4 [(3, .int x3), (2, .ref (ad 0)), (1, .ref o), (0, .ref b)]) (hc1 : cells + 26 ≤ 600000) (hs1 : slots + 505 ≤ 7302250) (hz : zLI2 G o ac aw ar u M lev) (w : zW G (zAl s) s H locs (u ++ mW G ad M lev)) (kk : ∀ (u : va_W) (M : Nat → Nat → Int32) (lev : Nat → UInt32) (H : Heap) (locs : List Loc), zLI2 G o ac aw ar u M lev → zW G (zAl s) s H locs (u ++ mW G ad M lev) → W p l e room_1 s m #[Value.ref b] below meth c H locs (cells + 26) (slots + 505) Q (F0 m 977 ls [])) : W p l e room_1 s m #[Value.ref b] below meth c H locs cells slots Q (F0 m 744 ls []) := by
  obtain ⟨hx, hb, hml, hown, hts, hX, hbl, hK⟩ := C
  have hbA : ¬ zAl s b := Nat.not_le.mpr hbl
  have hv1 : vp_in (x3 + 1) L := hv 1 (by decide)
  have hv2 : vp_in (x3 + 2) L := hv 2 (by decide)
  have hv3 : vp_in (x3 + 3) L := hv 3 (by decide)
  obtain ⟨L0, f, ch, m0, car, wa, ta, φ, rfl, hR⟩ := hz
  refine lv_aload_n hx hb dL_law_744 rfl (lv_at hl 2 rfl) ?_
  refine lv_aload_n hx hb dL_law_745 rfl (lv_at hl 3 rfl) ?_
  refine lv_iload_n hx hb dL_law_746 rfl (lv_at hl 0 rfl) ?_
  refine lv_iconst (v := 1) hx hb dL_law_747 (by decide) ?_
  refine lv_iadd hx hb dL_law_748 ?_
  refine va_sld hx hb hX hbl hbA w.2.2.1 hv1 dL_law_749 ?_
  refine lv_aload_n hx hb dL_law_750 rfl (lv_at hl 3 rfl) ?_
  refine lv_iload_n hx hb dL_law_751 rfl (lv_at hl 0 rfl) ?_
  refine lv_iconst (v := 2) hx hb dL_law_752 (by decide) ?_
  refine lv_iadd hx hb dL_law_753 ?_
  refine va_sld hx hb hX hbl hbA w.2.2.1 hv2 dL_law_754 ?_
  refine lv_aload_n hx hb dL_law_755 rfl (lv_at hl 3 rfl) ?_
  refine lv_iload_n hx hb dL_law_756 rfl (lv_at hl 0 rfl) ?_
  refine lv_iconst (v := 3) hx hb dL_law_757 (by decide) ?_
  refine lv_iadd hx hb dL_law_758 ?_
  refine va_sld hx hb hX hbl hbA w.2.2.1 hv3 dL_law_759 ?_
  refine zXl w (va_runV (As := [.int (xs (x3 + 1).toNatClampNeg), .int (xs (x3 + 2).toNatClampNeg), .int (xs (x3 + 3).toNatClampNeg)]) (rest := []) ⟨hx, hb, hml, hown, hts⟩ (kX6_spot l G hR.1.1 hR.1.2.1 hR.1.2.2.1 (xs (x3 + 1).toNatClampNeg) (xs (x3 + 2).toNatClampNeg) (xs (x3 + 3).toNatClampNeg) H.size) (cwV 3 hts gL_law_X6_spot rfl rfl rfl (by decide +kernel) ⟨(Nat.le_of_ble_eq_true rfl), (Nat.le_of_ble_eq_true rfl)⟩) (zPV (zWl w) hK (px_recv (r := (RX6, TX6, 4)) hK (zWl w) hR.1.1.1.1 hR.1.1.2.1 rfl)) rfl rfl hl.1 rfl (lv_room (Nat.le_of_ble_eq_true rfl)) dL_law_760 ⟨Nat.le_trans (Nat.add_le_add_left (Nat.le_of_ble_eq_true rfl) cells) hc1, Nat.le_trans (Nat.add_le_add_left (Nat.le_of_ble_eq_true rfl) slots) hs1⟩) (fun r u H locs h1 w => ?_)
  refine W.widen (k := cells + 26) (n := slots + 505) (Nat.add_le_add_left (Nat.le_of_ble_eq_true rfl) cells) (Nat.add_le_add_left (Nat.le_of_ble_eq_true rfl) slots) ?_
  refine lv_aload_n hx hb dL_law_763 rfl (lv_at hl 1 rfl) ?_
  refine lv_aload_n hx hb dL_law_764 rfl (lv_at hl 3 rfl) ?_
  refine lv_iload_n hx hb dL_law_765 rfl (lv_at hl 0 rfl) ?_
  refine lv_iconst (v := 1) hx hb dL_law_766 (by decide) ?_
  refine lv_iadd hx hb dL_law_767 ?_
  refine va_sld hx hb hX hbl hbA w.2.2.1 hv1 dL_law_768 ?_
  refine lv_aload_n hx hb dL_law_769 rfl (lv_at hl 3 rfl) ?_
  refine lv_iload_n hx hb dL_law_770 rfl (lv_at hl 0 rfl) ?_
  refine lv_iconst (v := 2) hx hb dL_law_771 (by decide) ?_
  refine lv_iadd hx hb dL_law_772 ?_
  refine va_sld hx hb hX hbl hbA w.2.2.1 hv2 dL_law_773 ?_
  refine lv_aload_n hx hb dL_law_774 rfl (lv_at hl 3 rfl) ?_
  refine lv_iload_n hx hb dL_law_775 rfl (lv_at hl 0 rfl) ?_
  refine lv_iconst (v := 3) hx hb dL_law_776 (by decide) ?_
  refine lv_iadd hx hb dL_law_777 ?_
  refine va_sld hx hb hX hbl hbA w.2.2.1 hv3 dL_law_778 ?_
  have w := zWs w
  refine zXl w (va_runV (As := [.int (xs (x3 + 1).toNatClampNeg), .int (xs (x3 + 2).toNatClampNeg), .int (xs (x3 + 3).toNatClampNeg)]) (rest := [.long r]) ⟨hx, hb, hml, hown, hts⟩ (kX7_spot l G ad hR.2.2.2.2.2.2.2.2 (xs (x3 + 1).toNatClampNeg) (xs (x3 + 2).toNatClampNeg) (xs (x3 + 3).toNatClampNeg) H.size) (cwV 3 hts gL_law_X7_spot rfl rfl rfl (by decide +kernel) ⟨(Nat.le_of_ble_eq_true rfl), (Nat.le_of_ble_eq_true rfl)⟩) (zPV (zWl w) hK (va_recv (q := (RX7, TX7, 11)) hK.1 (zWl w).1 (ci := 6) (q0 := 0) rfl rfl)) rfl rfl hl.1 rfl (lv_room (Nat.le_of_ble_eq_true rfl)) dL_law_779 ⟨hc1, hs1⟩) (fun v u2 H locs h2 w => ?_)
  obtain ⟨er, M2, lev2, e2, hz2⟩ := st_spot hR h1 h2
  subst e2
  have w := zWs w
  refine W.lcmp hx hb dL_law_782 ?_
  refine lv_if_eq (tgt := 977) hx hb dL_law_783 (by decide) (fun c9 => ?_) (fun c9 => absurd er (zcmp1 c9))
  exact kk u M2 lev2 _ _ hz2 w
set_option maxHeartbeats 4000000 in
set_option maxRecDepth 100000 in
theorem law_paint {p : Program} {l : Launch} {e : Env} {s : State} {m : MethodId} {below : List Frame} {meth : Method} {c : Code} {b L : Nat} {xs : Nat → Int32} {G : zG} {ad : Nat → Nat} {o ac aw ar : Nat} {u : va_W} {M : Nat → Nat → Int32} {lev : Nat → UInt32} {H : Heap} {locs : List Loc} {cells slots : Nat} {Q : State → Prop} {ls : Array Slot} {x3 : Int32} (C : zLaw p s m c b L xs G) (hv : ∀ k : Nat, k < 8 → vp_in (x3 + nI k) L) (hl : lv_has ls 4 [(3, .int x3), (2, .ref (ad 0)), (1, .ref o), (0, .ref b)]) (hc1 : cells + 26 ≤ 600000) (hs1 : slots + 505 ≤ 7302250) (hz : zLI2 G o ac aw ar u M lev) (w : zW G (zAl s) s H locs (u ++ mW G ad M lev)) (kk : ∀ (u : va_W) (M : Nat → Nat → Int32) (lev : Nat → UInt32) (H : Heap) (locs : List Loc), zLI2 G o ac aw ar u M lev → zW G (zAl s) s H locs (u ++ mW G ad M lev) → W p l e room_1 s m #[Value.ref b] below meth c H locs (cells + 26) (slots + 505) Q (F0 m 977 ls [])) : W p l e room_1 s m #[Value.ref b] below meth c H locs cells slots Q (F0 m 788 ls []) := by
  obtain ⟨hx, hb, hml, hown, hts, hX, hbl, hK⟩ := C
  have hbA : ¬ zAl s b := Nat.not_le.mpr hbl
  have hv1 : vp_in (x3 + 1) L := hv 1 (by decide)
  have hv2 : vp_in (x3 + 2) L := hv 2 (by decide)
  have hv3 : vp_in (x3 + 3) L := hv 3 (by decide)
  have hv4 : vp_in (x3 + 4) L := hv 4 (by decide)
  obtain ⟨L0, f, ch, m0, car, wa, ta, φ, rfl, hR⟩ := hz
  refine lv_aload_n hx hb dL_law_788 rfl (lv_at hl 2 rfl) ?_
  refine lv_aload_n hx hb dL_law_789 rfl (lv_at hl 3 rfl) ?_
  refine lv_iload_n hx hb dL_law_790 rfl (lv_at hl 0 rfl) ?_
  refine lv_iconst (v := 1) hx hb dL_law_791 (by decide) ?_
  refine lv_iadd hx hb dL_law_792 ?_
  refine va_sld hx hb hX hbl hbA w.2.2.1 hv1 dL_law_793 ?_
  refine lv_aload_n hx hb dL_law_794 rfl (lv_at hl 3 rfl) ?_
  refine lv_iload_n hx hb dL_law_795 rfl (lv_at hl 0 rfl) ?_
  refine lv_iconst (v := 2) hx hb dL_law_796 (by decide) ?_
  refine lv_iadd hx hb dL_law_797 ?_
  refine va_sld hx hb hX hbl hbA w.2.2.1 hv2 dL_law_798 ?_
  refine lv_aload_n hx hb dL_law_799 rfl (lv_at hl 3 rfl) ?_
  refine lv_iload_n hx hb dL_law_800 rfl (lv_at hl 0 rfl) ?_
  refine lv_iconst (v := 3) hx hb dL_law_801 (by decide) ?_
  refine lv_iadd hx hb dL_law_802 ?_
  refine va_sld hx hb hX hbl hbA w.2.2.1 hv3 dL_law_803 ?_
  refine lv_aload_n hx hb dL_law_804 rfl (lv_at hl 3 rfl) ?_
  refine lv_iload_n hx hb dL_law_805 rfl (lv_at hl 0 rfl) ?_
  refine lv_iconst (v := 4) hx hb dL_law_806 (by decide) ?_
  refine lv_iadd hx hb dL_law_807 ?_
  refine va_sld hx hb hX hbl hbA w.2.2.1 hv4 dL_law_808 ?_
  refine zXl w (va_runV (As := [.int (xs (x3 + 1).toNatClampNeg), .int (xs (x3 + 2).toNatClampNeg), .int (xs (x3 + 3).toNatClampNeg), .int (xs (x3 + 4).toNatClampNeg)]) (rest := []) ⟨hx, hb, hml, hown, hts⟩ (kX6_paint l G hR.1.1 hR.1.2.1 hR.1.2.2.1 (xs (x3 + 1).toNatClampNeg) (xs (x3 + 2).toNatClampNeg) (xs (x3 + 3).toNatClampNeg) (xs (x3 + 4).toNatClampNeg) H.size) (cwV 4 hts gL_law_X6_paint rfl rfl rfl (by decide +kernel) ⟨(Nat.le_of_ble_eq_true rfl), (Nat.le_of_ble_eq_true rfl)⟩) (zPV (zWl w) hK (px_recv (r := (RX6, TX6, 4)) hK (zWl w) hR.1.1.1.1 hR.1.1.2.1 rfl)) rfl rfl hl.1 rfl (lv_room (Nat.le_of_ble_eq_true rfl)) dL_law_809 ⟨Nat.le_trans (Nat.add_le_add_left (Nat.le_of_ble_eq_true rfl) cells) hc1, Nat.le_trans (Nat.add_le_add_left (Nat.le_of_ble_eq_true rfl) slots) hs1⟩) (fun r u H locs h1 w => ?_)
  refine W.widen (k := cells + 26) (n := slots + 505) (Nat.add_le_add_left (Nat.le_of_ble_eq_true rfl) cells) (Nat.add_le_add_left (Nat.le_of_ble_eq_true rfl) slots) ?_
  refine lv_aload_n hx hb dL_law_812 rfl (lv_at hl 1 rfl) ?_
  refine lv_aload_n hx hb dL_law_813 rfl (lv_at hl 3 rfl) ?_
  refine lv_iload_n hx hb dL_law_814 rfl (lv_at hl 0 rfl) ?_
  refine lv_iconst (v := 1) hx hb dL_law_815 (by decide) ?_
  refine lv_iadd hx hb dL_law_816 ?_
  refine va_sld hx hb hX hbl hbA w.2.2.1 hv1 dL_law_817 ?_
  refine lv_aload_n hx hb dL_law_818 rfl (lv_at hl 3 rfl) ?_
  refine lv_iload_n hx hb dL_law_819 rfl (lv_at hl 0 rfl) ?_
  refine lv_iconst (v := 2) hx hb dL_law_820 (by decide) ?_
  refine lv_iadd hx hb dL_law_821 ?_
  refine va_sld hx hb hX hbl hbA w.2.2.1 hv2 dL_law_822 ?_
  refine lv_aload_n hx hb dL_law_823 rfl (lv_at hl 3 rfl) ?_
  refine lv_iload_n hx hb dL_law_824 rfl (lv_at hl 0 rfl) ?_
  refine lv_iconst (v := 3) hx hb dL_law_825 (by decide) ?_
  refine lv_iadd hx hb dL_law_826 ?_
  refine va_sld hx hb hX hbl hbA w.2.2.1 hv3 dL_law_827 ?_
  refine lv_aload_n hx hb dL_law_828 rfl (lv_at hl 3 rfl) ?_
  refine lv_iload_n hx hb dL_law_829 rfl (lv_at hl 0 rfl) ?_
  refine lv_iconst (v := 4) hx hb dL_law_830 (by decide) ?_
  refine lv_iadd hx hb dL_law_831 ?_
  refine va_sld hx hb hX hbl hbA w.2.2.1 hv4 dL_law_832 ?_
  have w := zWs w
  refine zXl w (va_runV (As := [.int (xs (x3 + 1).toNatClampNeg), .int (xs (x3 + 2).toNatClampNeg), .int (xs (x3 + 3).toNatClampNeg), .int (xs (x3 + 4).toNatClampNeg)]) (rest := [.long r]) ⟨hx, hb, hml, hown, hts⟩ (kX7_paint l G ad hR.2.2.2.2.2.2.2.2 (xs (x3 + 1).toNatClampNeg) (xs (x3 + 2).toNatClampNeg) (xs (x3 + 3).toNatClampNeg) (xs (x3 + 4).toNatClampNeg) H.size) (cwV 4 hts gL_law_X7_paint rfl rfl rfl (by decide +kernel) ⟨(Nat.le_of_ble_eq_true rfl), (Nat.le_of_ble_eq_true rfl)⟩) (zPV (zWl w) hK (va_recv (q := (RX7, TX7, 11)) hK.1 (zWl w).1 (ci := 6) (q0 := 0) rfl rfl)) rfl rfl hl.1 rfl (lv_room (Nat.le_of_ble_eq_true rfl)) dL_law_833 ⟨hc1, hs1⟩) (fun v u2 H locs h2 w => ?_)
  obtain ⟨er, M2, lev2, e2, hz2⟩ := st_paint hR h1 h2
  subst e2
  have w := zWs w
  refine W.lcmp hx hb dL_law_836 ?_
  refine lv_if_eq (tgt := 977) hx hb dL_law_837 (by decide) (fun c9 => ?_) (fun c9 => absurd er (zcmp1 c9))
  exact kk u M2 lev2 _ _ hz2 w
set_option maxHeartbeats 4000000 in
set_option maxRecDepth 100000 in
theorem law_span {p : Program} {l : Launch} {e : Env} {s : State} {m : MethodId} {below : List Frame} {meth : Method} {c : Code} {b L : Nat} {xs : Nat → Int32} {G : zG} {ad : Nat → Nat} {o ac aw ar : Nat} {u : va_W} {M : Nat → Nat → Int32} {lev : Nat → UInt32} {H : Heap} {locs : List Loc} {cells slots : Nat} {Q : State → Prop} {ls : Array Slot} {x3 : Int32} (C : zLaw p s m c b L xs G) (hv : ∀ k : Nat, k < 8 → vp_in (x3 + nI k) L) (hl : lv_has ls 4 [(3, .int x3), (2, .ref (ad 0)), (1, .ref o), (0, .ref b)]) (hc1 : cells + 26 ≤ 600000) (hs1 : slots + 505 ≤ 7302250) (hz : zLI2 G o ac aw ar u M lev) (w : zW G (zAl s) s H locs (u ++ mW G ad M lev)) (kk : ∀ (u : va_W) (M : Nat → Nat → Int32) (lev : Nat → UInt32) (H : Heap) (locs : List Loc), zLI2 G o ac aw ar u M lev → zW G (zAl s) s H locs (u ++ mW G ad M lev) → W p l e room_1 s m #[Value.ref b] below meth c H locs (cells + 26) (slots + 505) Q (F0 m 977 ls [])) : W p l e room_1 s m #[Value.ref b] below meth c H locs cells slots Q (F0 m 842 ls []) := by
  obtain ⟨hx, hb, hml, hown, hts, hX, hbl, hK⟩ := C
  have hbA : ¬ zAl s b := Nat.not_le.mpr hbl
  have hv1 : vp_in (x3 + 1) L := hv 1 (by decide)
  have hv2 : vp_in (x3 + 2) L := hv 2 (by decide)
  obtain ⟨L0, f, ch, m0, car, wa, ta, φ, rfl, hR⟩ := hz
  refine lv_aload_n hx hb dL_law_842 rfl (lv_at hl 2 rfl) ?_
  refine lv_aload_n hx hb dL_law_843 rfl (lv_at hl 3 rfl) ?_
  refine lv_iload_n hx hb dL_law_844 rfl (lv_at hl 0 rfl) ?_
  refine lv_iconst (v := 1) hx hb dL_law_845 (by decide) ?_
  refine lv_iadd hx hb dL_law_846 ?_
  refine va_sld hx hb hX hbl hbA w.2.2.1 hv1 dL_law_847 ?_
  refine lv_aload_n hx hb dL_law_848 rfl (lv_at hl 3 rfl) ?_
  refine lv_iload_n hx hb dL_law_849 rfl (lv_at hl 0 rfl) ?_
  refine lv_iconst (v := 2) hx hb dL_law_850 (by decide) ?_
  refine lv_iadd hx hb dL_law_851 ?_
  refine va_sld hx hb hX hbl hbA w.2.2.1 hv2 dL_law_852 ?_
  refine zXl w (va_runV (As := [.int (xs (x3 + 1).toNatClampNeg), .int (xs (x3 + 2).toNatClampNeg)]) (rest := []) ⟨hx, hb, hml, hown, hts⟩ (kX6_span l G hR.1.1 hR.1.2.1 hR.1.2.2.1 (xs (x3 + 1).toNatClampNeg) (xs (x3 + 2).toNatClampNeg) H.size) (cwV 2 hts gL_law_X6_span rfl rfl rfl (by decide +kernel) ⟨(Nat.le_of_ble_eq_true rfl), (Nat.le_of_ble_eq_true rfl)⟩) (zPV (zWl w) hK (px_recv (r := (RX6, TX6, 4)) hK (zWl w) hR.1.1.1.1 hR.1.1.2.1 rfl)) rfl rfl hl.1 rfl (lv_room (Nat.le_of_ble_eq_true rfl)) dL_law_853 ⟨Nat.le_trans (Nat.add_le_add_left (Nat.le_of_ble_eq_true rfl) cells) hc1, Nat.le_trans (Nat.add_le_add_left (Nat.le_of_ble_eq_true rfl) slots) hs1⟩) (fun r u H locs h1 w => ?_)
  refine W.widen (k := cells + 26) (n := slots + 505) (Nat.add_le_add_left (Nat.le_of_ble_eq_true rfl) cells) (Nat.add_le_add_left (Nat.le_of_ble_eq_true rfl) slots) ?_
  refine lv_aload_n hx hb dL_law_856 rfl (lv_at hl 1 rfl) ?_
  refine lv_aload_n hx hb dL_law_857 rfl (lv_at hl 3 rfl) ?_
  refine lv_iload_n hx hb dL_law_858 rfl (lv_at hl 0 rfl) ?_
  refine lv_iconst (v := 1) hx hb dL_law_859 (by decide) ?_
  refine lv_iadd hx hb dL_law_860 ?_
  refine va_sld hx hb hX hbl hbA w.2.2.1 hv1 dL_law_861 ?_
  refine lv_aload_n hx hb dL_law_862 rfl (lv_at hl 3 rfl) ?_
  refine lv_iload_n hx hb dL_law_863 rfl (lv_at hl 0 rfl) ?_
  refine lv_iconst (v := 2) hx hb dL_law_864 (by decide) ?_
  refine lv_iadd hx hb dL_law_865 ?_
  refine va_sld hx hb hX hbl hbA w.2.2.1 hv2 dL_law_866 ?_
  have w := zWs w
  refine zXl w (va_runV (As := [.int (xs (x3 + 1).toNatClampNeg), .int (xs (x3 + 2).toNatClampNeg)]) (rest := [.long r]) ⟨hx, hb, hml, hown, hts⟩ (kX7_span l G ad hR.2.2.2.2.2.2.2.2 (xs (x3 + 1).toNatClampNeg) (xs (x3 + 2).toNatClampNeg) H.size) (cwV 2 hts gL_law_X7_span rfl rfl rfl (by decide +kernel) ⟨(Nat.le_of_ble_eq_true rfl), (Nat.le_of_ble_eq_true rfl)⟩) (zPV (zWl w) hK (va_recv (q := (RX7, TX7, 11)) hK.1 (zWl w).1 (ci := 6) (q0 := 0) rfl rfl)) rfl rfl hl.1 rfl (lv_room (Nat.le_of_ble_eq_true rfl)) dL_law_867 ⟨hc1, hs1⟩) (fun v u2 H locs h2 w => ?_)
  obtain ⟨er, M2, lev2, e2, hz2⟩ := st_span hR h1 h2
  subst e2
  have w := zWs w
  refine W.lcmp hx hb dL_law_870 ?_
  refine lv_if_eq (tgt := 977) hx hb dL_law_871 (by decide) (fun c9 => ?_) (fun c9 => absurd er (zcmp1 c9))
  exact kk u M2 lev2 _ _ hz2 w
set_option maxHeartbeats 4000000 in
set_option maxRecDepth 100000 in
theorem law_chart {p : Program} {l : Launch} {e : Env} {s : State} {m : MethodId} {below : List Frame} {meth : Method} {c : Code} {b L : Nat} {xs : Nat → Int32} {G : zG} {ad : Nat → Nat} {o ac aw ar : Nat} {u : va_W} {M : Nat → Nat → Int32} {lev : Nat → UInt32} {H : Heap} {locs : List Loc} {cells slots : Nat} {Q : State → Prop} {ls : Array Slot} {x3 : Int32} (C : zLaw p s m c b L xs G) (hv : ∀ k : Nat, k < 8 → vp_in (x3 + nI k) L) (hl : lv_has ls 4 [(3, .int x3), (2, .ref (ad 0)), (1, .ref o), (0, .ref b)]) (hc1 : cells + 26 ≤ 600000) (hs1 : slots + 505 ≤ 7302250) (hz : zLI2 G o ac aw ar u M lev) (w : zW G (zAl s) s H locs (u ++ mW G ad M lev)) (kk : ∀ (u : va_W) (M : Nat → Nat → Int32) (lev : Nat → UInt32) (H : Heap) (locs : List Loc), zLI2 G o ac aw ar u M lev → zW G (zAl s) s H locs (u ++ mW G ad M lev) → W p l e room_1 s m #[Value.ref b] below meth c H locs (cells + 26) (slots + 505) Q (F0 m 977 ls [])) : W p l e room_1 s m #[Value.ref b] below meth c H locs cells slots Q (F0 m 876 ls []) := by
  obtain ⟨hx, hb, hml, hown, hts, hX, hbl, hK⟩ := C
  have hbA : ¬ zAl s b := Nat.not_le.mpr hbl
  have hv1 : vp_in (x3 + 1) L := hv 1 (by decide)
  have hv2 : vp_in (x3 + 2) L := hv 2 (by decide)
  obtain ⟨L0, f, ch, m0, car, wa, ta, φ, rfl, hR⟩ := hz
  refine lv_aload_n hx hb dL_law_876 rfl (lv_at hl 2 rfl) ?_
  refine lv_aload_n hx hb dL_law_877 rfl (lv_at hl 3 rfl) ?_
  refine lv_iload_n hx hb dL_law_878 rfl (lv_at hl 0 rfl) ?_
  refine lv_iconst (v := 1) hx hb dL_law_879 (by decide) ?_
  refine lv_iadd hx hb dL_law_880 ?_
  refine va_sld hx hb hX hbl hbA w.2.2.1 hv1 dL_law_881 ?_
  refine lv_aload_n hx hb dL_law_882 rfl (lv_at hl 3 rfl) ?_
  refine lv_iload_n hx hb dL_law_883 rfl (lv_at hl 0 rfl) ?_
  refine lv_iconst (v := 2) hx hb dL_law_884 (by decide) ?_
  refine lv_iadd hx hb dL_law_885 ?_
  refine va_sld hx hb hX hbl hbA w.2.2.1 hv2 dL_law_886 ?_
  refine zXl w (va_runV (As := [.int (xs (x3 + 1).toNatClampNeg), .int (xs (x3 + 2).toNatClampNeg)]) (rest := []) ⟨hx, hb, hml, hown, hts⟩ (kX6_chart l G hR.1.1 hR.1.2.1 hR.1.2.2.1 (xs (x3 + 1).toNatClampNeg) (xs (x3 + 2).toNatClampNeg) H.size) (cwV 2 hts gL_law_X6_chart rfl rfl rfl (by decide +kernel) ⟨(Nat.le_of_ble_eq_true rfl), (Nat.le_of_ble_eq_true rfl)⟩) (zPV (zWl w) hK (px_recv (r := (RX6, TX6, 4)) hK (zWl w) hR.1.1.1.1 hR.1.1.2.1 rfl)) rfl rfl hl.1 rfl (lv_room (Nat.le_of_ble_eq_true rfl)) dL_law_887 ⟨Nat.le_trans (Nat.add_le_add_left (Nat.le_of_ble_eq_true rfl) cells) hc1, Nat.le_trans (Nat.add_le_add_left (Nat.le_of_ble_eq_true rfl) slots) hs1⟩) (fun r u H locs h1 w => ?_)
  refine W.widen (k := cells + 26) (n := slots + 505) (Nat.add_le_add_left (Nat.le_of_ble_eq_true rfl) cells) (Nat.add_le_add_left (Nat.le_of_ble_eq_true rfl) slots) ?_
  refine lv_aload_n hx hb dL_law_890 rfl (lv_at hl 1 rfl) ?_
  refine lv_aload_n hx hb dL_law_891 rfl (lv_at hl 3 rfl) ?_
  refine lv_iload_n hx hb dL_law_892 rfl (lv_at hl 0 rfl) ?_
  refine lv_iconst (v := 1) hx hb dL_law_893 (by decide) ?_
  refine lv_iadd hx hb dL_law_894 ?_
  refine va_sld hx hb hX hbl hbA w.2.2.1 hv1 dL_law_895 ?_
  refine lv_aload_n hx hb dL_law_896 rfl (lv_at hl 3 rfl) ?_
  refine lv_iload_n hx hb dL_law_897 rfl (lv_at hl 0 rfl) ?_
  refine lv_iconst (v := 2) hx hb dL_law_898 (by decide) ?_
  refine lv_iadd hx hb dL_law_899 ?_
  refine va_sld hx hb hX hbl hbA w.2.2.1 hv2 dL_law_900 ?_
  have w := zWs w
  refine zXl w (va_runV (As := [.int (xs (x3 + 1).toNatClampNeg), .int (xs (x3 + 2).toNatClampNeg)]) (rest := [.long r]) ⟨hx, hb, hml, hown, hts⟩ (kX7_chart l G ad hR.2.2.2.2.2.2.2.2 (xs (x3 + 1).toNatClampNeg) (xs (x3 + 2).toNatClampNeg) H.size) (cwV 2 hts gL_law_X7_chart rfl rfl rfl (by decide +kernel) ⟨(Nat.le_of_ble_eq_true rfl), (Nat.le_of_ble_eq_true rfl)⟩) (zPV (zWl w) hK (va_recv (q := (RX7, TX7, 11)) hK.1 (zWl w).1 (ci := 6) (q0 := 0) rfl rfl)) rfl rfl hl.1 rfl (lv_room (Nat.le_of_ble_eq_true rfl)) dL_law_901 ⟨hc1, hs1⟩) (fun v u2 H locs h2 w => ?_)
  obtain ⟨er, M2, lev2, e2, hz2⟩ := st_chart hR h1 h2
  subst e2
  have w := zWs w
  refine W.lcmp hx hb dL_law_904 ?_
  refine lv_if_eq (tgt := 977) hx hb dL_law_905 (by decide) (fun c9 => ?_) (fun c9 => absurd er (zcmp1 c9))
  exact kk u M2 lev2 _ _ hz2 w
set_option maxHeartbeats 4000000 in
set_option maxRecDepth 100000 in
theorem law_note {p : Program} {l : Launch} {e : Env} {s : State} {m : MethodId} {below : List Frame} {meth : Method} {c : Code} {b L : Nat} {xs : Nat → Int32} {G : zG} {ad : Nat → Nat} {o ac aw ar : Nat} {u : va_W} {M : Nat → Nat → Int32} {lev : Nat → UInt32} {H : Heap} {locs : List Loc} {cells slots : Nat} {Q : State → Prop} {ls : Array Slot} {x3 : Int32} (C : zLaw p s m c b L xs G) (hv : ∀ k : Nat, k < 8 → vp_in (x3 + nI k) L) (hl : lv_has ls 4 [(3, .int x3), (2, .ref (ad 0)), (1, .ref o), (0, .ref b)]) (hc1 : cells + 26 ≤ 600000) (hs1 : slots + 505 ≤ 7302250) (hz : zLI2 G o ac aw ar u M lev) (w : zW G (zAl s) s H locs (u ++ mW G ad M lev)) (kk : ∀ (u : va_W) (M : Nat → Nat → Int32) (lev : Nat → UInt32) (H : Heap) (locs : List Loc), zLI2 G o ac aw ar u M lev → zW G (zAl s) s H locs (u ++ mW G ad M lev) → W p l e room_1 s m #[Value.ref b] below meth c H locs (cells + 26) (slots + 505) Q (F0 m 977 ls [])) : W p l e room_1 s m #[Value.ref b] below meth c H locs cells slots Q (F0 m 910 ls []) := by
  obtain ⟨hx, hb, hml, hown, hts, hX, hbl, hK⟩ := C
  have hbA : ¬ zAl s b := Nat.not_le.mpr hbl
  have hv1 : vp_in (x3 + 1) L := hv 1 (by decide)
  have hv2 : vp_in (x3 + 2) L := hv 2 (by decide)
  have hv3 : vp_in (x3 + 3) L := hv 3 (by decide)
  obtain ⟨L0, f, ch, m0, car, wa, ta, φ, rfl, hR⟩ := hz
  refine lv_aload_n hx hb dL_law_910 rfl (lv_at hl 2 rfl) ?_
  refine lv_aload_n hx hb dL_law_911 rfl (lv_at hl 3 rfl) ?_
  refine lv_iload_n hx hb dL_law_912 rfl (lv_at hl 0 rfl) ?_
  refine lv_iconst (v := 1) hx hb dL_law_913 (by decide) ?_
  refine lv_iadd hx hb dL_law_914 ?_
  refine va_sld hx hb hX hbl hbA w.2.2.1 hv1 dL_law_915 ?_
  refine lv_aload_n hx hb dL_law_916 rfl (lv_at hl 3 rfl) ?_
  refine lv_iload_n hx hb dL_law_917 rfl (lv_at hl 0 rfl) ?_
  refine lv_iconst (v := 2) hx hb dL_law_918 (by decide) ?_
  refine lv_iadd hx hb dL_law_919 ?_
  refine va_sld hx hb hX hbl hbA w.2.2.1 hv2 dL_law_920 ?_
  refine lv_aload_n hx hb dL_law_921 rfl (lv_at hl 3 rfl) ?_
  refine lv_iload_n hx hb dL_law_922 rfl (lv_at hl 0 rfl) ?_
  refine lv_iconst (v := 3) hx hb dL_law_923 (by decide) ?_
  refine lv_iadd hx hb dL_law_924 ?_
  refine va_sld hx hb hX hbl hbA w.2.2.1 hv3 dL_law_925 ?_
  refine zXl w (va_runV (As := [.int (xs (x3 + 1).toNatClampNeg), .int (xs (x3 + 2).toNatClampNeg), .int (xs (x3 + 3).toNatClampNeg)]) (rest := []) ⟨hx, hb, hml, hown, hts⟩ (kX6_note l G hR.1.1 hR.1.2.2.2.1 (xs (x3 + 1).toNatClampNeg) (xs (x3 + 2).toNatClampNeg) (xs (x3 + 3).toNatClampNeg) H.size) (cwV 3 hts gL_law_X6_note rfl rfl rfl (by decide +kernel) ⟨(Nat.le_of_ble_eq_true rfl), (Nat.le_of_ble_eq_true rfl)⟩) (zPV (zWl w) hK (px_recv (r := (RX6, TX6, 4)) hK (zWl w) hR.1.1.1.1 hR.1.1.2.1 rfl)) rfl rfl hl.1 rfl (lv_room (Nat.le_of_ble_eq_true rfl)) dL_law_926 ⟨Nat.le_trans (Nat.add_le_add_left (Nat.le_of_ble_eq_true rfl) cells) hc1, Nat.le_trans (Nat.add_le_add_left (Nat.le_of_ble_eq_true rfl) slots) hs1⟩) (fun r u H locs h1 w => ?_)
  refine W.widen (k := cells + 26) (n := slots + 505) (Nat.add_le_add_left (Nat.le_of_ble_eq_true rfl) cells) (Nat.add_le_add_left (Nat.le_of_ble_eq_true rfl) slots) ?_
  refine lv_aload_n hx hb dL_law_929 rfl (lv_at hl 1 rfl) ?_
  refine lv_aload_n hx hb dL_law_930 rfl (lv_at hl 3 rfl) ?_
  refine lv_iload_n hx hb dL_law_931 rfl (lv_at hl 0 rfl) ?_
  refine lv_iconst (v := 1) hx hb dL_law_932 (by decide) ?_
  refine lv_iadd hx hb dL_law_933 ?_
  refine va_sld hx hb hX hbl hbA w.2.2.1 hv1 dL_law_934 ?_
  refine lv_aload_n hx hb dL_law_935 rfl (lv_at hl 3 rfl) ?_
  refine lv_iload_n hx hb dL_law_936 rfl (lv_at hl 0 rfl) ?_
  refine lv_iconst (v := 2) hx hb dL_law_937 (by decide) ?_
  refine lv_iadd hx hb dL_law_938 ?_
  refine va_sld hx hb hX hbl hbA w.2.2.1 hv2 dL_law_939 ?_
  refine lv_aload_n hx hb dL_law_940 rfl (lv_at hl 3 rfl) ?_
  refine lv_iload_n hx hb dL_law_941 rfl (lv_at hl 0 rfl) ?_
  refine lv_iconst (v := 3) hx hb dL_law_942 (by decide) ?_
  refine lv_iadd hx hb dL_law_943 ?_
  refine va_sld hx hb hX hbl hbA w.2.2.1 hv3 dL_law_944 ?_
  have w := zWs w
  refine zXl w (va_runV (As := [.int (xs (x3 + 1).toNatClampNeg), .int (xs (x3 + 2).toNatClampNeg), .int (xs (x3 + 3).toNatClampNeg)]) (rest := [.long r]) ⟨hx, hb, hml, hown, hts⟩ (kX7_note l G ad hR.2.2.2.2.2.2.2.2 (xs (x3 + 1).toNatClampNeg) (xs (x3 + 2).toNatClampNeg) (xs (x3 + 3).toNatClampNeg) H.size) (cwV 3 hts gL_law_X7_note rfl rfl rfl (by decide +kernel) ⟨(Nat.le_of_ble_eq_true rfl), (Nat.le_of_ble_eq_true rfl)⟩) (zPV (zWl w) hK (va_recv (q := (RX7, TX7, 11)) hK.1 (zWl w).1 (ci := 6) (q0 := 0) rfl rfl)) rfl rfl hl.1 rfl (lv_room (Nat.le_of_ble_eq_true rfl)) dL_law_945 ⟨hc1, hs1⟩) (fun v u2 H locs h2 w => ?_)
  obtain ⟨er, M2, lev2, e2, hz2⟩ := st_note hR h1 h2
  subst e2
  have w := zWs w
  refine W.lcmp hx hb dL_law_948 ?_
  refine lv_if_eq (tgt := 977) hx hb dL_law_949 (by decide) (fun c9 => ?_) (fun c9 => absurd er (zcmp1 c9))
  exact kk u M2 lev2 _ _ hz2 w
set_option maxHeartbeats 4000000 in
set_option maxRecDepth 100000 in
theorem law_tally {p : Program} {l : Launch} {e : Env} {s : State} {m : MethodId} {below : List Frame} {meth : Method} {c : Code} {b L : Nat} {xs : Nat → Int32} {G : zG} {ad : Nat → Nat} {o ac aw ar : Nat} {u : va_W} {M : Nat → Nat → Int32} {lev : Nat → UInt32} {H : Heap} {locs : List Loc} {cells slots : Nat} {Q : State → Prop} {ls : Array Slot} {x3 : Int32} (C : zLaw p s m c b L xs G) (hv : ∀ k : Nat, k < 8 → vp_in (x3 + nI k) L) (hl : lv_has ls 4 [(3, .int x3), (2, .ref (ad 0)), (1, .ref o), (0, .ref b)]) (hc1 : cells + 26 ≤ 600000) (hs1 : slots + 505 ≤ 7302250) (hz : zLI2 G o ac aw ar u M lev) (w : zW G (zAl s) s H locs (u ++ mW G ad M lev)) (kk : ∀ (u : va_W) (M : Nat → Nat → Int32) (lev : Nat → UInt32) (H : Heap) (locs : List Loc), zLI2 G o ac aw ar u M lev → zW G (zAl s) s H locs (u ++ mW G ad M lev) → W p l e room_1 s m #[Value.ref b] below meth c H locs (cells + 26) (slots + 505) Q (F0 m 977 ls [])) : W p l e room_1 s m #[Value.ref b] below meth c H locs cells slots Q (F0 m 954 ls []) := by
  obtain ⟨hx, hb, hml, hown, hts, hX, hbl, hK⟩ := C
  have hbA : ¬ zAl s b := Nat.not_le.mpr hbl
  have hv1 : vp_in (x3 + 1) L := hv 1 (by decide)
  obtain ⟨L0, f, ch, m0, car, wa, ta, φ, rfl, hR⟩ := hz
  refine lv_aload_n hx hb dL_law_954 rfl (lv_at hl 2 rfl) ?_
  refine lv_aload_n hx hb dL_law_955 rfl (lv_at hl 3 rfl) ?_
  refine lv_iload_n hx hb dL_law_956 rfl (lv_at hl 0 rfl) ?_
  refine lv_iconst (v := 1) hx hb dL_law_957 (by decide) ?_
  refine lv_iadd hx hb dL_law_958 ?_
  refine va_sld hx hb hX hbl hbA w.2.2.1 hv1 dL_law_959 ?_
  refine zXi w (va_runV (As := [.int (xs (x3 + 1).toNatClampNeg)]) (rest := []) ⟨hx, hb, hml, hown, hts⟩ (kX6_tally l G hR.1.1 hR.1.2.1 hR.1.2.2.1 (xs (x3 + 1).toNatClampNeg) H.size) (cwV 1 hts gL_law_X6_tally rfl rfl rfl (by decide +kernel) ⟨(Nat.le_of_ble_eq_true rfl), (Nat.le_of_ble_eq_true rfl)⟩) (zPV (zWl w) hK (px_recv (r := (RX6, TX6, 4)) hK (zWl w) hR.1.1.1.1 hR.1.1.2.1 rfl)) rfl rfl hl.1 rfl (lv_room (Nat.le_of_ble_eq_true rfl)) dL_law_960 ⟨Nat.le_trans (Nat.add_le_add_left (Nat.le_of_ble_eq_true rfl) cells) hc1, Nat.le_trans (Nat.add_le_add_left (Nat.le_of_ble_eq_true rfl) slots) hs1⟩) (fun r u H locs h1 w => ?_)
  refine W.widen (k := cells + 26) (n := slots + 505) (Nat.add_le_add_left (Nat.le_of_ble_eq_true rfl) cells) (Nat.add_le_add_left (Nat.le_of_ble_eq_true rfl) slots) ?_
  refine lv_aload_n hx hb dL_law_963 rfl (lv_at hl 1 rfl) ?_
  refine lv_aload_n hx hb dL_law_964 rfl (lv_at hl 3 rfl) ?_
  refine lv_iload_n hx hb dL_law_965 rfl (lv_at hl 0 rfl) ?_
  refine lv_iconst (v := 1) hx hb dL_law_966 (by decide) ?_
  refine lv_iadd hx hb dL_law_967 ?_
  refine va_sld hx hb hX hbl hbA w.2.2.1 hv1 dL_law_968 ?_
  have w := zWs w
  refine zXi w (va_runV (As := [.int (xs (x3 + 1).toNatClampNeg)]) (rest := [.int r]) ⟨hx, hb, hml, hown, hts⟩ (kX7_tally l G ad hR.2.2.2.2.2.2.2.2 (xs (x3 + 1).toNatClampNeg) H.size) (cwV 1 hts gL_law_X7_tally rfl rfl rfl (by decide +kernel) ⟨(Nat.le_of_ble_eq_true rfl), (Nat.le_of_ble_eq_true rfl)⟩) (zPV (zWl w) hK (va_recv (q := (RX7, TX7, 11)) hK.1 (zWl w).1 (ci := 6) (q0 := 0) rfl rfl)) rfl rfl hl.1 rfl (lv_room (Nat.le_of_ble_eq_true rfl)) dL_law_969 ⟨hc1, hs1⟩) (fun v u2 H locs h2 w => ?_)
  obtain ⟨er, M2, lev2, e2, hz2⟩ := st_tally hR h1 h2
  subst e2
  have w := zWs w
  refine lv_icmp_eq (tgt := 977) hx hb dL_law_972 (by decide) (fun c9 => ?_) (fun c9 => absurd er c9)
  exact kk u M2 lev2 _ _ hz2 w
