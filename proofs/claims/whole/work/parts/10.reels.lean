set_option maxHeartbeats 4000000 in
set_option maxRecDepth 100000 in
theorem kX3_init (l : Launch) (G : zG) (ws : va_W) (a : Nat) (sz : Nat) : zMv l yX3_init wsX3_init { frames := 1, cells := 0, slots := 0, locals := 12 } G [.ref a] (ws) sz (fun u => u = ws) 0 0 := by
  refine zIn (Qc := fun A => va_Qv _ (zB G A) A) (cc := cX3_init) (maxL := 1) (ret := none) (by decide) rfl (Nat.le_of_ble_eq_true rfl) ?_
  intro p e s m below meth c A ls hx hb hr hlk hml hts hown hnm hK w hl
  have hown : s.vm.findClass RX3 = some m.cls := hown
  have hl : lv_has ls 1 [(0, .ref a)] := hl
  refine lv_aload_n hx hb dX3_init_0 rfl (lv_at hl 0 rfl) ?_
  refine W.objInit hx hb hown (hts (.methodLink RX3 3 objectInit) (by decide +kernel)) (hts (.instanceMethod objectInit) (by decide +kernel)) (hts (.code objectInit ⟨#[0xb1]⟩ 1 none) (by decide +kernel)) rfl (by rw [hml]; exact hl.1) rfl dX3_init_1 (Nat.le_of_ble_eq_true rfl) (Nat.le_of_ble_eq_true rfl) ?_
  refine W.eq (g2 := F0 m 4 ls []) rfl ?_
  exact zRv hx hb hr hlk w dX3_init_4 (Nat.le_of_ble_eq_true rfl) (Nat.le_of_ble_eq_true rfl) rfl
set_option maxHeartbeats 4000000 in
set_option maxRecDepth 100000 in
theorem kX2_places (l : Launch) (G : zG) {L : List Nat} {f : Nat → va_E} {a b n : Nat} {gi : Nat → Int32} {gf : Nat → UInt32} (h : zReel G L f 0 a b n gi gf) (sz : Nat) : zMi l yX2_places wsX2_places { frames := 0, cells := 0, slots := 0, locals := 0 } G [.ref a] (va_pl L f) sz (fun r u => u = va_pl L f ∧ r = nI n) 0 0 := by
  refine zIn (Qc := fun A => va_Qi _ (zB G A) A) (cc := cX2_places) (maxL := 1) (ret := (some .int)) (by decide) rfl (Nat.le_of_ble_eq_true rfl) ?_
  intro p e s m below meth c A ls hx hb hr hlk hml hts hown hnm hK w hl
  have hown : s.vm.findClass RX2 = some m.cls := hown
  have hl : lv_has ls 1 [(0, .ref a)] := hl
  obtain ⟨ma, mb, fa, fb, hn, hfi⟩ := h
  have fa : f a = .inr (2, [.ref b]) := fa
  have fb : f b = .inl (G.2 2, n, .inl gi) := fb
  refine lv_aload_n hx hb dX2_places_0 rfl (lv_at hl 0 rfl) ?_
  refine px_get (ci := 2) (C := RX2) (T := TX2) (N := 1) hx hb hts hown hK w ma (by decide +kernel) fa rfl 0 (by decide) (hts (.fieldLink RX2 7 "ReelBarn$LetterReel" "letters" "[C") (by decide +kernel)) (fun _ h9 => h9) rfl dX2_places_1 ?_
  refine px_alen hx hb hK w mb fb 2 rfl dX2_places_4 ?_
  exact zRi hx hb hr hlk w dX2_places_5 (Nat.le_of_ble_eq_true rfl) (Nat.le_of_ble_eq_true rfl) ⟨rfl, rfl⟩
set_option maxHeartbeats 4000000 in
set_option maxRecDepth 100000 in
theorem kX2_told (l : Launch) (G : zG) {L : List Nat} {f : Nat → va_E} {a b n : Nat} {gi : Nat → Int32} {gf : Nat → UInt32} (h : zReel G L f 0 a b n gi gf) (i : Int32) (hi : vp_in i n) (sz : Nat) : zMi l yX2_told wsX2_told { frames := 0, cells := 0, slots := 0, locals := 0 } G [.ref a, .int i] (va_pl L f) sz (fun r u => u = va_pl L f ∧ r = zTold 0 gi gf i.toNatClampNeg) 0 0 := by
  refine zIn (Qc := fun A => va_Qi _ (zB G A) A) (cc := cX2_told) (maxL := 2) (ret := (some .int)) (by decide) rfl (Nat.le_of_ble_eq_true rfl) ?_
  intro p e s m below meth c A ls hx hb hr hlk hml hts hown hnm hK w hl
  have hown : s.vm.findClass RX2 = some m.cls := hown
  have hl : lv_has ls 2 [(0, .ref a), (1, .int i)] := hl
  obtain ⟨ma, mb, fa, fb, hn, hfi⟩ := h
  have fa : f a = .inr (2, [.ref b]) := fa
  have fb : f b = .inl (G.2 2, n, .inl gi) := fb
  refine lv_aload_n hx hb dX2_told_0 rfl (lv_at hl 0 rfl) ?_
  refine px_get (ci := 2) (C := RX2) (T := TX2) (N := 1) hx hb hts hown hK w ma (by decide +kernel) fa rfl 0 (by decide) (hts (.fieldLink RX2 7 "ReelBarn$LetterReel" "letters" "[C") (by decide +kernel)) (fun _ h9 => h9) rfl dX2_told_1 ?_
  refine lv_iload_n hx hb dX2_told_4 rfl (lv_at hl 1 rfl) ?_
  refine px_cald hx hb hK w mb fb hi dX2_told_5 ?_
  exact zRi hx hb hr hlk w dX2_told_6 (Nat.le_of_ble_eq_true rfl) (Nat.le_of_ble_eq_true rfl) ⟨rfl, rfl⟩
set_option maxHeartbeats 4000000 in
set_option maxRecDepth 100000 in
theorem kX5_places (l : Launch) (G : zG) {L : List Nat} {f : Nat → va_E} {a b n : Nat} {gi : Nat → Int32} {gf : Nat → UInt32} (h : zReel G L f 1 a b n gi gf) (sz : Nat) : zMi l yX5_places wsX5_places { frames := 0, cells := 0, slots := 0, locals := 0 } G [.ref a] (va_pl L f) sz (fun r u => u = va_pl L f ∧ r = nI n) 0 0 := by
  refine zIn (Qc := fun A => va_Qi _ (zB G A) A) (cc := cX5_places) (maxL := 1) (ret := (some .int)) (by decide) rfl (Nat.le_of_ble_eq_true rfl) ?_
  intro p e s m below meth c A ls hx hb hr hlk hml hts hown hnm hK w hl
  have hown : s.vm.findClass RX5 = some m.cls := hown
  have hl : lv_has ls 1 [(0, .ref a)] := hl
  obtain ⟨ma, mb, fa, fb, hn, hfi⟩ := h
  have fa : f a = .inr (4, [.ref b]) := fa
  have fb : f b = .inl (G.2 3, n, .inl gi) := fb
  refine lv_aload_n hx hb dX5_places_0 rfl (lv_at hl 0 rfl) ?_
  refine px_get (ci := 4) (C := RX5) (T := TX5) (N := 1) hx hb hts hown hK w ma (by decide +kernel) fa rfl 0 (by decide) (hts (.fieldLink RX5 7 "ReelBarn$WaveReel" "waves" "[S") (by decide +kernel)) (fun _ h9 => h9) rfl dX5_places_1 ?_
  refine px_alen hx hb hK w mb fb 3 rfl dX5_places_4 ?_
  exact zRi hx hb hr hlk w dX5_places_5 (Nat.le_of_ble_eq_true rfl) (Nat.le_of_ble_eq_true rfl) ⟨rfl, rfl⟩
set_option maxHeartbeats 4000000 in
set_option maxRecDepth 100000 in
theorem kX5_told (l : Launch) (G : zG) {L : List Nat} {f : Nat → va_E} {a b n : Nat} {gi : Nat → Int32} {gf : Nat → UInt32} (h : zReel G L f 1 a b n gi gf) (i : Int32) (hi : vp_in i n) (sz : Nat) : zMi l yX5_told wsX5_told { frames := 0, cells := 0, slots := 0, locals := 0 } G [.ref a, .int i] (va_pl L f) sz (fun r u => u = va_pl L f ∧ r = zTold 1 gi gf i.toNatClampNeg) 0 0 := by
  refine zIn (Qc := fun A => va_Qi _ (zB G A) A) (cc := cX5_told) (maxL := 2) (ret := (some .int)) (by decide) rfl (Nat.le_of_ble_eq_true rfl) ?_
  intro p e s m below meth c A ls hx hb hr hlk hml hts hown hnm hK w hl
  have hown : s.vm.findClass RX5 = some m.cls := hown
  have hl : lv_has ls 2 [(0, .ref a), (1, .int i)] := hl
  obtain ⟨ma, mb, fa, fb, hn, hfi⟩ := h
  have fa : f a = .inr (4, [.ref b]) := fa
  have fb : f b = .inl (G.2 3, n, .inl gi) := fb
  refine lv_aload_n hx hb dX5_told_0 rfl (lv_at hl 0 rfl) ?_
  refine px_get (ci := 4) (C := RX5) (T := TX5) (N := 1) hx hb hts hown hK w ma (by decide +kernel) fa rfl 0 (by decide) (hts (.fieldLink RX5 7 "ReelBarn$WaveReel" "waves" "[S") (by decide +kernel)) (fun _ h9 => h9) rfl dX5_told_1 ?_
  refine lv_iload_n hx hb dX5_told_4 rfl (lv_at hl 1 rfl) ?_
  refine px_sald hx hb hK w mb fb hi dX5_told_5 ?_
  exact zRi hx hb hr hlk w dX5_told_6 (Nat.le_of_ble_eq_true rfl) (Nat.le_of_ble_eq_true rfl) ⟨rfl, rfl⟩
set_option maxHeartbeats 4000000 in
set_option maxRecDepth 100000 in
theorem kX0_places (l : Launch) (G : zG) {L : List Nat} {f : Nat → va_E} {a b n : Nat} {gi : Nat → Int32} {gf : Nat → UInt32} (h : zReel G L f 2 a b n gi gf) (sz : Nat) : zMi l yX0_places wsX0_places { frames := 0, cells := 0, slots := 0, locals := 0 } G [.ref a] (va_pl L f) sz (fun r u => u = va_pl L f ∧ r = nI n) 0 0 := by
  refine zIn (Qc := fun A => va_Qi _ (zB G A) A) (cc := cX0_places) (maxL := 1) (ret := (some .int)) (by decide) rfl (Nat.le_of_ble_eq_true rfl) ?_
  intro p e s m below meth c A ls hx hb hr hlk hml hts hown hnm hK w hl
  have hown : s.vm.findClass RX0 = some m.cls := hown
  have hl : lv_has ls 1 [(0, .ref a)] := hl
  obtain ⟨ma, mb, fa, fb, hn, hfi⟩ := h
  have fa : f a = .inr (0, [.ref b]) := fa
  have fb : f b = .inl (G.2 0, n, .inr (.inr (.inl gf))) := fb
  refine lv_aload_n hx hb dX0_places_0 rfl (lv_at hl 0 rfl) ?_
  refine px_get (ci := 0) (C := RX0) (T := TX0) (N := 1) hx hb hts hown hK w ma (by decide +kernel) fa rfl 0 (by decide) (hts (.fieldLink RX0 9 "ReelBarn$FaderReel" "faders" "[F") (by decide +kernel)) (fun _ h9 => h9) rfl dX0_places_1 ?_
  refine px_alen hx hb hK w mb fb 0 rfl dX0_places_4 ?_
  exact zRi hx hb hr hlk w dX0_places_5 (Nat.le_of_ble_eq_true rfl) (Nat.le_of_ble_eq_true rfl) ⟨rfl, rfl⟩
set_option maxHeartbeats 4000000 in
set_option maxRecDepth 100000 in
theorem kX0_told (l : Launch) (G : zG) {L : List Nat} {f : Nat → va_E} {a b n : Nat} {gi : Nat → Int32} {gf : Nat → UInt32} (h : zReel G L f 2 a b n gi gf) (i : Int32) (hi : vp_in i n) (sz : Nat) : zMi l yX0_told wsX0_told { frames := 0, cells := 0, slots := 0, locals := 0 } G [.ref a, .int i] (va_pl L f) sz (fun r u => u = va_pl L f ∧ r = zTold 2 gi gf i.toNatClampNeg) 0 0 := by
  refine zIn (Qc := fun A => va_Qi _ (zB G A) A) (cc := cX0_told) (maxL := 2) (ret := (some .int)) (by decide) rfl (Nat.le_of_ble_eq_true rfl) ?_
  intro p e s m below meth c A ls hx hb hr hlk hml hts hown hnm hK w hl
  have hown : s.vm.findClass RX0 = some m.cls := hown
  have hl : lv_has ls 2 [(0, .ref a), (1, .int i)] := hl
  obtain ⟨ma, mb, fa, fb, hn, hfi⟩ := h
  have fa : f a = .inr (0, [.ref b]) := fa
  have fb : f b = .inl (G.2 0, n, .inr (.inr (.inl gf))) := fb
  refine lv_aload_n hx hb dX0_told_0 rfl (lv_at hl 0 rfl) ?_
  refine px_get (ci := 0) (C := RX0) (T := TX0) (N := 1) hx hb hts hown hK w ma (by decide +kernel) fa rfl 0 (by decide) (hts (.fieldLink RX0 9 "ReelBarn$FaderReel" "faders" "[F") (by decide +kernel)) (fun _ h9 => h9) rfl dX0_told_1 ?_
  refine lv_iload_n hx hb dX0_told_4 rfl (lv_at hl 1 rfl) ?_
  refine px_fald hx hb hK w mb fb hi dX0_told_5 ?_
  refine lv_ldcf hx hb hown (hts (.constantFloat RX0 15 (1090519040)) (by decide +kernel)) dX0_told_6 ?_
  refine lv_fmul hx hb dX0_told_8 (zmul8 (hfi _ (Nat.not_le.mp fun q => hi (Or.inr q)))) ?_
  refine lv_f2i hx hb dX0_told_9 ?_
  exact zRi hx hb hr hlk w dX0_told_10 (Nat.le_of_ble_eq_true rfl) (Nat.le_of_ble_eq_true rfl) ⟨rfl, rfl⟩
set_option maxHeartbeats 4000000 in
set_option maxRecDepth 100000 in
theorem kX1_places (l : Launch) (G : zG) {L : List Nat} {f : Nat → va_E} {a b n : Nat} {gi : Nat → Int32} {gf : Nat → UInt32} (h : zReel G L f 3 a b n gi gf) (sz : Nat) : zMi l yX1_places wsX1_places { frames := 0, cells := 0, slots := 0, locals := 0 } G [.ref a] (va_pl L f) sz (fun r u => u = va_pl L f ∧ r = nI n) 0 0 := by
  refine zIn (Qc := fun A => va_Qi _ (zB G A) A) (cc := cX1_places) (maxL := 1) (ret := (some .int)) (by decide) rfl (Nat.le_of_ble_eq_true rfl) ?_
  intro p e s m below meth c A ls hx hb hr hlk hml hts hown hnm hK w hl
  have hown : s.vm.findClass RX1 = some m.cls := hown
  have hl : lv_has ls 1 [(0, .ref a)] := hl
  obtain ⟨ma, mb, fa, fb, hn, hfi⟩ := h
  have fa : f a = .inr (1, [.ref b]) := fa
  have fb : f b = .inl (G.2 1, n, .inl gi) := fb
  refine lv_aload_n hx hb dX1_places_0 rfl (lv_at hl 0 rfl) ?_
  refine px_get (ci := 1) (C := RX1) (T := TX1) (N := 1) hx hb hts hown hK w ma (by decide +kernel) fa rfl 0 (by decide) (hts (.fieldLink RX1 7 "ReelBarn$LampReel" "lamps" "[Z") (by decide +kernel)) (fun _ h9 => h9) rfl dX1_places_1 ?_
  refine px_alen hx hb hK w mb fb 1 rfl dX1_places_4 ?_
  exact zRi hx hb hr hlk w dX1_places_5 (Nat.le_of_ble_eq_true rfl) (Nat.le_of_ble_eq_true rfl) ⟨rfl, rfl⟩
set_option maxHeartbeats 4000000 in
set_option maxRecDepth 100000 in
theorem kX1_told (l : Launch) (G : zG) {L : List Nat} {f : Nat → va_E} {a b n : Nat} {gi : Nat → Int32} {gf : Nat → UInt32} (h : zReel G L f 3 a b n gi gf) (i : Int32) (hi : vp_in i n) (sz : Nat) : zMi l yX1_told wsX1_told { frames := 0, cells := 0, slots := 0, locals := 0 } G [.ref a, .int i] (va_pl L f) sz (fun r u => u = va_pl L f ∧ r = zTold 3 gi gf i.toNatClampNeg) 0 0 := by
  refine zIn (Qc := fun A => va_Qi _ (zB G A) A) (cc := cX1_told) (maxL := 2) (ret := (some .int)) (by decide) rfl (Nat.le_of_ble_eq_true rfl) ?_
  intro p e s m below meth c A ls hx hb hr hlk hml hts hown hnm hK w hl
  have hown : s.vm.findClass RX1 = some m.cls := hown
  have hl : lv_has ls 2 [(0, .ref a), (1, .int i)] := hl
  obtain ⟨ma, mb, fa, fb, hn, hfi⟩ := h
  have fa : f a = .inr (1, [.ref b]) := fa
  have fb : f b = .inl (G.2 1, n, .inl gi) := fb
  refine lv_aload_n hx hb dX1_told_0 rfl (lv_at hl 0 rfl) ?_
  refine px_get (ci := 1) (C := RX1) (T := TX1) (N := 1) hx hb hts hown hK w ma (by decide +kernel) fa rfl 0 (by decide) (hts (.fieldLink RX1 7 "ReelBarn$LampReel" "lamps" "[Z") (by decide +kernel)) (fun _ h9 => h9) rfl dX1_told_1 ?_
  refine lv_iload_n hx hb dX1_told_4 rfl (lv_at hl 1 rfl) ?_
  refine px_zald hx hb hK w mb fb hi dX1_told_5 ?_
  refine lv_if_eq (tgt := 13) hx hb dX1_told_6 (by decide) (fun c_1 => ?_) (fun c_1 => ?_)
  · refine lv_iconst (v := 0) hx hb dX1_told_13 (by decide) ?_
    exact zRi hx hb hr hlk w dX1_told_14 (Nat.le_of_ble_eq_true rfl) (Nat.le_of_ble_eq_true rfl) ⟨rfl, by simp [zTold, c_1]⟩
  · refine lv_iconst (v := 1) hx hb dX1_told_9 (by decide) ?_
    refine lv_goto (tgt := 14) hx hb dX1_told_10 (by decide) ?_
    exact zRi hx hb hr hlk w dX1_told_14 (Nat.le_of_ble_eq_true rfl) (Nat.le_of_ble_eq_true rfl) ⟨rfl, by simp [zTold, c_1]⟩
set_option maxHeartbeats 4000000 in
set_option maxRecDepth 100000 in
theorem kX0_levelOf (l : Launch) (G : zG) (ws : va_W) (n : Int32) (sz : Nat) : zMf l yX0_levelOf wsX0_levelOf { frames := 0, cells := 0, slots := 0, locals := 0 } G [.int n] (ws) sz (fun r u => u = ws ∧ r = zEi n) 0 0 := by
  refine zIn (Qc := fun A => va_Qf _ (zB G A) A) (cc := cX0_levelOf) (maxL := 1) (ret := (some .float)) (by decide) rfl (Nat.le_of_ble_eq_true rfl) ?_
  intro p e s m below meth c A ls hx hb hr hlk hml hts hown hnm hK w hl
  have hown : s.vm.findClass RX0 = some m.cls := hown
  have hl : lv_has ls 1 [(0, .int n)] := hl
  refine lv_iload_n hx hb dX0_levelOf_0 rfl (lv_at hl 0 rfl) ?_
  refine lv_i2f hx hb dX0_levelOf_1 ?_
  refine lv_ldcf hx hb hown (hts (.constantFloat RX0 15 (1090519040)) (by decide +kernel)) dX0_levelOf_2 ?_
  refine lv_fdiv hx hb dX0_levelOf_4 (zEi_n n) ?_
  exact zRf hx hb hr hlk w dX0_levelOf_5 (Nat.le_of_ble_eq_true rfl) (Nat.le_of_ble_eq_true rfl) ⟨rfl, rfl⟩
set_option maxHeartbeats 4000000 in
set_option maxRecDepth 100000 in
theorem kX0_bounded (l : Launch) (G : zG) (ws : va_W) (v : UInt32) (sz : Nat) : zMf l yX0_bounded wsX0_bounded { frames := 0, cells := 0, slots := 0, locals := 0 } G [.float v] (ws) sz (fun r u => u = ws ∧ r = zHe v) 0 0 := by
  refine zIn (Qc := fun A => va_Qf _ (zB G A) A) (cc := cX0_bounded) (maxL := 1) (ret := (some .float)) (by decide) rfl (Nat.le_of_ble_eq_true rfl) ?_
  intro p e s m below meth c A ls hx hb hr hlk hml hts hown hnm hK w hl
  have hown : s.vm.findClass RX0 = some m.cls := hown
  have hl : lv_has ls 1 [(0, .float v)] := hl
  refine lv_fload_n hx hb dX0_bounded_0 rfl (lv_at hl 0 rfl) ?_
  refine lv_ldcf hx hb hown (hts (.constantFloat RX0 28 (1232348160)) (by decide +kernel)) dX0_bounded_1 ?_
  refine lv_fcmp hx hb dX0_bounded_3 ?_
  refine lv_if_le (tgt := 10) hx hb dX0_bounded_4 (by decide) (fun c_1 => ?_) (fun c_1 => ?_)
  · refine lv_fload_n hx hb dX0_bounded_10 rfl (lv_at hl 0 rfl) ?_
    refine lv_ldcf hx hb hown (hts (.constantFloat RX0 29 (3379831808)) (by decide +kernel)) dX0_bounded_11 ?_
    refine lv_fcmp hx hb dX0_bounded_13 ?_
    refine lv_if_ge (tgt := 22) hx hb dX0_bounded_14 (by decide) (fun c_2 => ?_) (fun c_2 => ?_)
    · refine lv_fload_n hx hb dX0_bounded_22 rfl (lv_at hl 0 rfl) ?_
      exact zRf hx hb hr hlk w dX0_bounded_23 (Nat.le_of_ble_eq_true rfl) (Nat.le_of_ble_eq_true rfl) ⟨rfl, by simp [zHe, c_1, c_2]⟩
    · refine lv_ldcf hx hb hown (hts (.constantFloat RX0 29 (3379831808)) (by decide +kernel)) dX0_bounded_17 ?_
      refine lv_goto (tgt := 23) hx hb dX0_bounded_19 (by decide) ?_
      exact zRf hx hb hr hlk w dX0_bounded_23 (Nat.le_of_ble_eq_true rfl) (Nat.le_of_ble_eq_true rfl) ⟨rfl, by simp [zHe, c_1, c_2]⟩
  · refine lv_ldcf hx hb hown (hts (.constantFloat RX0 28 (1232348160)) (by decide +kernel)) dX0_bounded_7 ?_
    exact zRf hx hb hr hlk w dX0_bounded_9 (Nat.le_of_ble_eq_true rfl) (Nat.le_of_ble_eq_true rfl) ⟨rfl, by simp [zHe, c_1]⟩
set_option maxHeartbeats 4000000 in
set_option maxRecDepth 100000 in
theorem kX0_putLevel (l : Launch) (G : zG) {L : List Nat} {f : Nat → va_E} {a b n : Nat} {gi : Nat → Int32} {gf : Nat → UInt32} (h : zReel G L f 2 a b n gi gf) (i : Int32) (v : UInt32) (hi : vp_in i n) (sz : Nat) : zMv l yX0_putLevel wsX0_putLevel { frames := 1, cells := 0, slots := 0, locals := 20 } G [.ref a, .int i, .float v] (va_pl L f) sz (fun u => u = va_pl L (va_up f b (zCel G 2 n gi (vf_upd gf i.toNatClampNeg (zHe v))))) 0 0 := by
  refine zIn (Qc := fun A => va_Qv _ (zB G A) A) (cc := cX0_putLevel) (maxL := 3) (ret := none) (by decide) rfl (Nat.le_of_ble_eq_true rfl) ?_
  intro p e s m below meth c A ls hx hb hr hlk hml hts hown hnm hK w hl
  have hown : s.vm.findClass RX0 = some m.cls := hown
  have hl : lv_has ls 3 [(0, .ref a), (1, .int i), (2, .float v)] := hl
  obtain ⟨ma, mb, fa, fb, hn, hfi⟩ := h
  have fa : f a = .inr (0, [.ref b]) := fa
  have fb : f b = .inl (G.2 0, n, .inr (.inr (.inl gf))) := fb
  refine lv_aload_n hx hb dX0_putLevel_0 rfl (lv_at hl 0 rfl) ?_
  refine px_get (ci := 0) (C := RX0) (T := TX0) (N := 1) hx hb hts hown hK w ma (by decide +kernel) fa rfl 0 (by decide) (hts (.fieldLink RX0 9 "ReelBarn$FaderReel" "faders" "[F") (by decide +kernel)) (fun _ h9 => h9) rfl dX0_putLevel_1 ?_
  refine lv_iload_n hx hb dX0_putLevel_4 rfl (lv_at hl 1 rfl) ?_
  refine lv_fload_n hx hb dX0_putLevel_5 rfl (lv_at hl 2 rfl) ?_
  refine zCf w (va_runS (As := [.float v]) (rest := [.int i, .ref b]) ⟨hx, hb, hml, hown, hts⟩ (kX0_bounded l G _ v s.heap.size) (va_cwS 1 hts gX0_putLevel_X0_bounded rfl rfl rfl (by decide +kernel) ⟨(Nat.le_of_ble_eq_true rfl), (Nat.le_of_ble_eq_true rfl)⟩) (zPS w hK) rfl rfl hl.1 rfl (lv_room (Nat.le_of_ble_eq_true rfl)) dX0_putLevel_6 ⟨(Nat.le_of_ble_eq_true rfl), (Nat.le_of_ble_eq_true rfl)⟩) (fun r_1 u H locs hq w => ?_)
  obtain ⟨rfl, e_r⟩ := hq
  subst e_r
  refine px_fast hx hb hK w mb fb hi dX0_putLevel_9 (fun H locs w => ?_)
  exact zRv hx hb hr hlk w dX0_putLevel_10 (Nat.le_of_ble_eq_true rfl) (Nat.le_of_ble_eq_true rfl) rfl
set_option maxHeartbeats 4000000 in
set_option maxRecDepth 100000 in
theorem kX2_put (l : Launch) (G : zG) {L : List Nat} {f : Nat → va_E} {a b n : Nat} {gi : Nat → Int32} {gf : Nat → UInt32} (h : zReel G L f 0 a b n gi gf) (i x : Int32) (hi : vp_in i n) (sz : Nat) : zMv l yX2_put wsX2_put { frames := 0, cells := 0, slots := 0, locals := 0 } G [.ref a, .int i, .int x] (va_pl L f) sz (fun u => u = va_pl L (va_up f b (zCel G 0 n (zPuI 0 gi i.toNatClampNeg x) (zPuF 0 gf i.toNatClampNeg (zEi x))))) 0 0 := by
  refine zIn (Qc := fun A => va_Qv _ (zB G A) A) (cc := cX2_put) (maxL := 3) (ret := none) (by decide) rfl (Nat.le_of_ble_eq_true rfl) ?_
  intro p e s m below meth c A ls hx hb hr hlk hml hts hown hnm hK w hl
  have hown : s.vm.findClass RX2 = some m.cls := hown
  have hl : lv_has ls 3 [(0, .ref a), (1, .int i), (2, .int x)] := hl
  obtain ⟨ma, mb, fa, fb, hn, hfi⟩ := h
  have fa : f a = .inr (2, [.ref b]) := fa
  have fb : f b = .inl (G.2 2, n, .inl gi) := fb
  refine lv_aload_n hx hb dX2_put_0 rfl (lv_at hl 0 rfl) ?_
  refine px_get (ci := 2) (C := RX2) (T := TX2) (N := 1) hx hb hts hown hK w ma (by decide +kernel) fa rfl 0 (by decide) (hts (.fieldLink RX2 7 "ReelBarn$LetterReel" "letters" "[C") (by decide +kernel)) (fun _ h9 => h9) rfl dX2_put_1 ?_
  refine lv_iload_n hx hb dX2_put_4 rfl (lv_at hl 1 rfl) ?_
  refine lv_iload_n hx hb dX2_put_5 rfl (lv_at hl 2 rfl) ?_
  refine lv_i2c hx hb dX2_put_6 rfl ?_
  refine px_cast hx hb hK w mb fb hi dX2_put_7 (fun H locs w => ?_)
  exact zRv hx hb hr hlk w dX2_put_8 (Nat.le_of_ble_eq_true rfl) (Nat.le_of_ble_eq_true rfl) (by rw [pk_vc]; rfl)
set_option maxHeartbeats 4000000 in
set_option maxRecDepth 100000 in
theorem kX5_put (l : Launch) (G : zG) {L : List Nat} {f : Nat → va_E} {a b n : Nat} {gi : Nat → Int32} {gf : Nat → UInt32} (h : zReel G L f 1 a b n gi gf) (i x : Int32) (hi : vp_in i n) (sz : Nat) : zMv l yX5_put wsX5_put { frames := 0, cells := 0, slots := 0, locals := 0 } G [.ref a, .int i, .int x] (va_pl L f) sz (fun u => u = va_pl L (va_up f b (zCel G 1 n (zPuI 1 gi i.toNatClampNeg x) (zPuF 1 gf i.toNatClampNeg (zEi x))))) 0 0 := by
  refine zIn (Qc := fun A => va_Qv _ (zB G A) A) (cc := cX5_put) (maxL := 3) (ret := none) (by decide) rfl (Nat.le_of_ble_eq_true rfl) ?_
  intro p e s m below meth c A ls hx hb hr hlk hml hts hown hnm hK w hl
  have hown : s.vm.findClass RX5 = some m.cls := hown
  have hl : lv_has ls 3 [(0, .ref a), (1, .int i), (2, .int x)] := hl
  obtain ⟨ma, mb, fa, fb, hn, hfi⟩ := h
  have fa : f a = .inr (4, [.ref b]) := fa
  have fb : f b = .inl (G.2 3, n, .inl gi) := fb
  refine lv_aload_n hx hb dX5_put_0 rfl (lv_at hl 0 rfl) ?_
  refine px_get (ci := 4) (C := RX5) (T := TX5) (N := 1) hx hb hts hown hK w ma (by decide +kernel) fa rfl 0 (by decide) (hts (.fieldLink RX5 7 "ReelBarn$WaveReel" "waves" "[S") (by decide +kernel)) (fun _ h9 => h9) rfl dX5_put_1 ?_
  refine lv_iload_n hx hb dX5_put_4 rfl (lv_at hl 1 rfl) ?_
  refine lv_iload_n hx hb dX5_put_5 rfl (lv_at hl 2 rfl) ?_
  refine lv_i2s hx hb dX5_put_6 rfl ?_
  refine px_sast hx hb hK w mb fb hi dX5_put_7 (fun H locs w => ?_)
  exact zRv hx hb hr hlk w dX5_put_8 (Nat.le_of_ble_eq_true rfl) (Nat.le_of_ble_eq_true rfl) (by rw [pk_vs]; rfl)
set_option maxHeartbeats 4000000 in
set_option maxRecDepth 100000 in
theorem kX0_put (l : Launch) (G : zG) {L : List Nat} {f : Nat → va_E} {a b n : Nat} {gi : Nat → Int32} {gf : Nat → UInt32} (h : zReel G L f 2 a b n gi gf) (i x : Int32) (hi : vp_in i n) (sz : Nat) : zMv l yX0_put wsX0_put { frames := 2, cells := 0, slots := 0, locals := 42 } G [.ref a, .int i, .int x] (va_pl L f) sz (fun u => u = va_pl L (va_up f b (zCel G 2 n (zPuI 2 gi i.toNatClampNeg x) (zPuF 2 gf i.toNatClampNeg (zEi x))))) 0 0 := by
  refine zIn (Qc := fun A => va_Qv _ (zB G A) A) (cc := cX0_put) (maxL := 3) (ret := none) (by decide) rfl (Nat.le_of_ble_eq_true rfl) ?_
  intro p e s m below meth c A ls hx hb hr hlk hml hts hown hnm hK w hl
  have hown : s.vm.findClass RX0 = some m.cls := hown
  have hl : lv_has ls 3 [(0, .ref a), (1, .int i), (2, .int x)] := hl
  have h0 := h
  obtain ⟨ma, mb, fa, fb, hn, hfi⟩ := h0
  have fa : f a = .inr (0, [.ref b]) := fa
  have fb : f b = .inl (G.2 0, n, .inr (.inr (.inl gf))) := fb
  refine lv_aload_n hx hb dX0_put_0 rfl (lv_at hl 0 rfl) ?_
  refine lv_iload_n hx hb dX0_put_1 rfl (lv_at hl 1 rfl) ?_
  refine lv_iload_n hx hb dX0_put_2 rfl (lv_at hl 2 rfl) ?_
  refine zCf w (va_runS (As := [.int x]) (rest := [.int i, .ref a]) ⟨hx, hb, hml, hown, hts⟩ (kX0_levelOf l G _ x s.heap.size) (va_cwS 1 hts gX0_put_X0_levelOf rfl rfl rfl (by decide +kernel) ⟨(Nat.le_of_ble_eq_true rfl), (Nat.le_of_ble_eq_true rfl)⟩) (zPS w hK) rfl rfl hl.1 rfl (lv_room (Nat.le_of_ble_eq_true rfl)) dX0_put_3 ⟨(Nat.le_of_ble_eq_true rfl), (Nat.le_of_ble_eq_true rfl)⟩) (fun r_1 u H locs hq w => ?_)
  obtain ⟨rfl, e_r⟩ := hq
  subst e_r
  refine zCv w (va_runV (As := [.int i, .float (zEi x)]) (rest := []) ⟨hx, hb, hml, hown, hts⟩ (kX0_putLevel l G h i (zEi x) hi H.size) (cwV 2 hts gX0_put_X0_putLevel rfl rfl rfl (by decide +kernel) ⟨(Nat.le_of_ble_eq_true rfl), (Nat.le_of_ble_eq_true rfl)⟩) (zPV w hK (px_recv (r := (RX0, TX0, 1)) hK w ma fa rfl)) rfl rfl hl.1 rfl (lv_room (Nat.le_of_ble_eq_true rfl)) dX0_put_6 ⟨(Nat.le_of_ble_eq_true rfl), (Nat.le_of_ble_eq_true rfl)⟩) (fun u H locs hq w => ?_)
  subst hq
  exact zRv hx hb hr hlk w dX0_put_9 (Nat.le_of_ble_eq_true rfl) (Nat.le_of_ble_eq_true rfl) rfl
set_option maxHeartbeats 4000000 in
set_option maxRecDepth 100000 in
theorem kX1_put (l : Launch) (G : zG) {L : List Nat} {f : Nat → va_E} {a b n : Nat} {gi : Nat → Int32} {gf : Nat → UInt32} (h : zReel G L f 3 a b n gi gf) (i x : Int32) (hi : vp_in i n) (sz : Nat) : zMv l yX1_put wsX1_put { frames := 0, cells := 0, slots := 0, locals := 0 } G [.ref a, .int i, .int x] (va_pl L f) sz (fun u => u = va_pl L (va_up f b (zCel G 3 n (zPuI 3 gi i.toNatClampNeg x) (zPuF 3 gf i.toNatClampNeg (zEi x))))) 0 0 := by
  refine zIn (Qc := fun A => va_Qv _ (zB G A) A) (cc := cX1_put) (maxL := 3) (ret := none) (by decide) rfl (Nat.le_of_ble_eq_true rfl) ?_
  intro p e s m below meth c A ls hx hb hr hlk hml hts hown hnm hK w hl
  have hown : s.vm.findClass RX1 = some m.cls := hown
  have hl : lv_has ls 3 [(0, .ref a), (1, .int i), (2, .int x)] := hl
  obtain ⟨ma, mb, fa, fb, hn, hfi⟩ := h
  have fa : f a = .inr (1, [.ref b]) := fa
  have fb : f b = .inl (G.2 1, n, .inl gi) := fb
  refine lv_aload_n hx hb dX1_put_0 rfl (lv_at hl 0 rfl) ?_
  refine px_get (ci := 1) (C := RX1) (T := TX1) (N := 1) hx hb hts hown hK w ma (by decide +kernel) fa rfl 0 (by decide) (hts (.fieldLink RX1 7 "ReelBarn$LampReel" "lamps" "[Z") (by decide +kernel)) (fun _ h9 => h9) rfl dX1_put_1 ?_
  refine lv_iload_n hx hb dX1_put_4 rfl (lv_at hl 1 rfl) ?_
  refine lv_iload_n hx hb dX1_put_5 rfl (lv_at hl 2 rfl) ?_
  refine lv_iconst (v := 1) hx hb dX1_put_6 (by decide) ?_
  refine lv_iand hx hb dX1_put_7 ?_
  refine lv_iconst (v := 1) hx hb dX1_put_8 (by decide) ?_
  refine lv_icmp_ne (tgt := 16) hx hb dX1_put_9 (by decide) (fun c_1 => ?_) (fun c_1 => ?_)
  · refine lv_iconst (v := 0) hx hb dX1_put_16 (by decide) ?_
    refine px_zast hx hb hK w mb fb hi dX1_put_17 (fun H locs w => ?_)
    exact zRv hx hb hr hlk w dX1_put_18 (Nat.le_of_ble_eq_true rfl) (Nat.le_of_ble_eq_true rfl) (by show va_pl L (va_up f b (.inl (G.2 1, n, .inl (upd gi i.toNatClampNeg (vp_nar .boolean 0))))) = va_pl L (va_up f b (.inl (G.2 1, n, .inl (upd gi i.toNatClampNeg (if x &&& 1 = 1 then 1 else 0))))); rw [if_neg c_1]; rfl)
  · refine lv_iconst (v := 1) hx hb dX1_put_12 (by decide) ?_
    refine lv_goto (tgt := 17) hx hb dX1_put_13 (by decide) ?_
    refine px_zast hx hb hK w mb fb hi dX1_put_17 (fun H locs w => ?_)
    exact zRv hx hb hr hlk w dX1_put_18 (Nat.le_of_ble_eq_true rfl) (Nat.le_of_ble_eq_true rfl) (by show va_pl L (va_up f b (.inl (G.2 1, n, .inl (upd gi i.toNatClampNeg (vp_nar .boolean 1))))) = va_pl L (va_up f b (.inl (G.2 1, n, .inl (upd gi i.toNatClampNeg (if x &&& 1 = 1 then 1 else 0))))); rw [if_pos c_1]; rfl)
set_option maxHeartbeats 4000000 in
set_option maxRecDepth 100000 in
theorem kX0_change (l : Launch) (G : zG) {L : List Nat} {f : Nat → va_E} {a b n : Nat} {gi : Nat → Int32} {gf : Nat → UInt32} (h : zReel G L f 2 a b n gi gf) (i how x : Int32) (hi : vp_in i n) (sz : Nat) : zMv l yX0_change wsX0_change { frames := 2, cells := 0, slots := 0, locals := 42 } G [.ref a, .int i, .int how, .int x] (va_pl L f) sz (fun u => u = va_pl L (va_up f b (zCel G 2 n gi (vf_upd gf i.toNatClampNeg (zHe (if how = 1 then FP.fsub (gf i.toNatClampNeg) (zEi x) else FP.fadd (gf i.toNatClampNeg) (zEi x))))))) 0 0 := by
  refine zIn (Qc := fun A => va_Qv _ (zB G A) A) (cc := cX0_change) (maxL := 5) (ret := none) (by decide) rfl (Nat.le_of_ble_eq_true rfl) ?_
  intro p e s m below meth c A ls hx hb hr hlk hml hts hown hnm hK w hl
  have hown : s.vm.findClass RX0 = some m.cls := hown
  have hl : lv_has ls 5 [(0, .ref a), (1, .int i), (2, .int how), (3, .int x)] := hl
  have h0 := h
  obtain ⟨ma, mb, fa, fb, hn, hfi⟩ := h0
  have fa : f a = .inr (0, [.ref b]) := fa
  have fb : f b = .inl (G.2 0, n, .inr (.inr (.inl gf))) := fb
  have hfg : zFin (gf i.toNatClampNeg) := hfi _ (Nat.not_le.mp fun q => hi (Or.inr q))
  refine lv_iload_n hx hb dX0_change_0 rfl (lv_at hl 3 rfl) ?_
  refine zCf w (va_runS (As := [.int x]) (rest := []) ⟨hx, hb, hml, hown, hts⟩ (kX0_levelOf l G _ x s.heap.size) (va_cwS 1 hts gX0_change_X0_levelOf rfl rfl rfl (by decide +kernel) ⟨(Nat.le_of_ble_eq_true rfl), (Nat.le_of_ble_eq_true rfl)⟩) (zPS w hK) rfl rfl hl.1 rfl (lv_room (Nat.le_of_ble_eq_true rfl)) dX0_change_1 ⟨(Nat.le_of_ble_eq_true rfl), (Nat.le_of_ble_eq_true rfl)⟩) (fun r_1 u H locs hq w => ?_)
  obtain ⟨rfl, e_r⟩ := hq
  subst e_r
  refine lv_fstore (lv' := [(4, .float (zEi x)), (0, .ref a), (1, .int i), (2, .int how), (3, .int x)]) hx hb dX0_change_4 hl (by decide) rfl (fun ls hl => ?_)
  refine lv_aload_n hx hb dX0_change_6 rfl (lv_at hl 1 rfl) ?_
  refine lv_iload_n hx hb dX0_change_7 rfl (lv_at hl 2 rfl) ?_
  refine lv_iload_n hx hb dX0_change_8 rfl (lv_at hl 3 rfl) ?_
  refine lv_iconst (v := 1) hx hb dX0_change_9 (by decide) ?_
  refine lv_icmp_ne (tgt := 25) hx hb dX0_change_10 (by decide) (fun c_2 => ?_) (fun c_2 => ?_)
  · refine lv_aload_n hx hb dX0_change_25 rfl (lv_at hl 1 rfl) ?_
    refine px_get (ci := 0) (C := RX0) (T := TX0) (N := 1) hx hb hts hown hK w ma (by decide +kernel) fa rfl 0 (by decide) (hts (.fieldLink RX0 9 "ReelBarn$FaderReel" "faders" "[F") (by decide +kernel)) (fun _ h9 => h9) rfl dX0_change_26 ?_
    refine lv_iload_n hx hb dX0_change_29 rfl (lv_at hl 2 rfl) ?_
    refine px_fald hx hb hK w mb fb hi dX0_change_30 ?_
    refine lv_fload hx hb dX0_change_31 (lv_at hl 0 rfl) ?_
    refine lv_fadd hx hb dX0_change_33 (zadd hfg (zEi_fin x)) ?_
    refine zCv w (va_runV (As := [.int i, .float (FP.fadd (gf i.toNatClampNeg) (zEi x))]) (rest := []) ⟨hx, hb, hml, hown, hts⟩ (kX0_putLevel l G h i (FP.fadd (gf i.toNatClampNeg) (zEi x)) hi H.size) (cwV 2 hts gX0_change_X0_putLevel rfl rfl rfl (by decide +kernel) ⟨(Nat.le_of_ble_eq_true rfl), (Nat.le_of_ble_eq_true rfl)⟩) (zPV w hK (px_recv (r := (RX0, TX0, 1)) hK w ma fa rfl)) rfl rfl hl.1 rfl (lv_room (Nat.le_of_ble_eq_true rfl)) dX0_change_34 ⟨(Nat.le_of_ble_eq_true rfl), (Nat.le_of_ble_eq_true rfl)⟩) (fun u H locs hq w => ?_)
    subst hq
    exact zRv hx hb hr hlk w dX0_change_37 (Nat.le_of_ble_eq_true rfl) (Nat.le_of_ble_eq_true rfl) (by simp [c_2])
  · refine lv_aload_n hx hb dX0_change_13 rfl (lv_at hl 1 rfl) ?_
    refine px_get (ci := 0) (C := RX0) (T := TX0) (N := 1) hx hb hts hown hK w ma (by decide +kernel) fa rfl 0 (by decide) (hts (.fieldLink RX0 9 "ReelBarn$FaderReel" "faders" "[F") (by decide +kernel)) (fun _ h9 => h9) rfl dX0_change_14 ?_
    refine lv_iload_n hx hb dX0_change_17 rfl (lv_at hl 2 rfl) ?_
    refine px_fald hx hb hK w mb fb hi dX0_change_18 ?_
    refine lv_fload hx hb dX0_change_19 (lv_at hl 0 rfl) ?_
    refine lv_fsub hx hb dX0_change_21 (zsub hfg (zEi_fin x)) ?_
    refine lv_goto (tgt := 34) hx hb dX0_change_22 (by decide) ?_
    refine zCv w (va_runV (As := [.int i, .float (FP.fsub (gf i.toNatClampNeg) (zEi x))]) (rest := []) ⟨hx, hb, hml, hown, hts⟩ (kX0_putLevel l G h i (FP.fsub (gf i.toNatClampNeg) (zEi x)) hi H.size) (cwV 2 hts gX0_change_X0_putLevel rfl rfl rfl (by decide +kernel) ⟨(Nat.le_of_ble_eq_true rfl), (Nat.le_of_ble_eq_true rfl)⟩) (zPV w hK (px_recv (r := (RX0, TX0, 1)) hK w ma fa rfl)) rfl rfl hl.1 rfl (lv_room (Nat.le_of_ble_eq_true rfl)) dX0_change_34 ⟨(Nat.le_of_ble_eq_true rfl), (Nat.le_of_ble_eq_true rfl)⟩) (fun u H locs hq w => ?_)
    subst hq
    exact zRv hx hb hr hlk w dX0_change_37 (Nat.le_of_ble_eq_true rfl) (Nat.le_of_ble_eq_true rfl) (by simp [c_2])
set_option maxHeartbeats 4000000 in
set_option maxRecDepth 100000 in
theorem kX0_stepUp (l : Launch) (G : zG) {L : List Nat} {f : Nat → va_E} {a b n : Nat} {gi : Nat → Int32} {gf : Nat → UInt32} (h : zReel G L f 2 a b n gi gf) (i : Int32) (hi : vp_in i n) (sz : Nat) : zMv l yX0_stepUp wsX0_stepUp { frames := 2, cells := 0, slots := 0, locals := 42 } G [.ref a, .int i] (va_pl L f) sz (fun u => u = va_pl L (va_up f b (zCel G 2 n gi (vf_upd gf i.toNatClampNeg (zHe (FP.fadd (gf i.toNatClampNeg) FP.fconst1)))))) 0 0 := by
  refine zIn (Qc := fun A => va_Qv _ (zB G A) A) (cc := cX0_stepUp) (maxL := 2) (ret := none) (by decide) rfl (Nat.le_of_ble_eq_true rfl) ?_
  intro p e s m below meth c A ls hx hb hr hlk hml hts hown hnm hK w hl
  have hown : s.vm.findClass RX0 = some m.cls := hown
  have hl : lv_has ls 2 [(0, .ref a), (1, .int i)] := hl
  have h0 := h
  obtain ⟨ma, mb, fa, fb, hn, hfi⟩ := h0
  have fa : f a = .inr (0, [.ref b]) := fa
  have fb : f b = .inl (G.2 0, n, .inr (.inr (.inl gf))) := fb
  have hfg : zFin (gf i.toNatClampNeg) := hfi _ (Nat.not_le.mp fun q => hi (Or.inr q))
  refine lv_aload_n hx hb dX0_stepUp_0 rfl (lv_at hl 0 rfl) ?_
  refine lv_iload_n hx hb dX0_stepUp_1 rfl (lv_at hl 1 rfl) ?_
  refine lv_aload_n hx hb dX0_stepUp_2 rfl (lv_at hl 0 rfl) ?_
  refine px_get (ci := 0) (C := RX0) (T := TX0) (N := 1) hx hb hts hown hK w ma (by decide +kernel) fa rfl 0 (by decide) (hts (.fieldLink RX0 9 "ReelBarn$FaderReel" "faders" "[F") (by decide +kernel)) (fun _ h9 => h9) rfl dX0_stepUp_3 ?_
  refine lv_iload_n hx hb dX0_stepUp_6 rfl (lv_at hl 1 rfl) ?_
  refine px_fald hx hb hK w mb fb hi dX0_stepUp_7 ?_
  refine lv_fconst1 hx hb dX0_stepUp_8 ?_
  refine lv_fadd hx hb dX0_stepUp_9 (zadd hfg zfin1) ?_
  refine zCv w (va_runV (As := [.int i, .float (FP.fadd (gf i.toNatClampNeg) FP.fconst1)]) (rest := []) ⟨hx, hb, hml, hown, hts⟩ (kX0_putLevel l G h i (FP.fadd (gf i.toNatClampNeg) FP.fconst1) hi s.heap.size) (cwV 2 hts gX0_stepUp_X0_putLevel rfl rfl rfl (by decide +kernel) ⟨(Nat.le_of_ble_eq_true rfl), (Nat.le_of_ble_eq_true rfl)⟩) (zPV w hK (px_recv (r := (RX0, TX0, 1)) hK w ma fa rfl)) rfl rfl hl.1 rfl (lv_room (Nat.le_of_ble_eq_true rfl)) dX0_stepUp_10 ⟨(Nat.le_of_ble_eq_true rfl), (Nat.le_of_ble_eq_true rfl)⟩) (fun u H locs hq w => ?_)
  subst hq
  exact zRv hx hb hr hlk w dX0_stepUp_13 (Nat.le_of_ble_eq_true rfl) (Nat.le_of_ble_eq_true rfl) rfl
set_option maxHeartbeats 4000000 in
set_option maxRecDepth 100000 in
theorem kX0_level (l : Launch) (G : zG) {L : List Nat} {f : Nat → va_E} {a b n : Nat} {gi : Nat → Int32} {gf : Nat → UInt32} (h : zReel G L f 2 a b n gi gf) (i : Int32) (hi : vp_in i n) (sz : Nat) : zMf l yX0_level wsX0_level { frames := 0, cells := 0, slots := 0, locals := 0 } G [.ref a, .int i] (va_pl L f) sz (fun r u => u = va_pl L f ∧ r = gf i.toNatClampNeg) 0 0 := by
  refine zIn (Qc := fun A => va_Qf _ (zB G A) A) (cc := cX0_level) (maxL := 2) (ret := (some .float)) (by decide) rfl (Nat.le_of_ble_eq_true rfl) ?_
  intro p e s m below meth c A ls hx hb hr hlk hml hts hown hnm hK w hl
  have hown : s.vm.findClass RX0 = some m.cls := hown
  have hl : lv_has ls 2 [(0, .ref a), (1, .int i)] := hl
  obtain ⟨ma, mb, fa, fb, hn, hfi⟩ := h
  have fa : f a = .inr (0, [.ref b]) := fa
  have fb : f b = .inl (G.2 0, n, .inr (.inr (.inl gf))) := fb
  refine lv_aload_n hx hb dX0_level_0 rfl (lv_at hl 0 rfl) ?_
  refine px_get (ci := 0) (C := RX0) (T := TX0) (N := 1) hx hb hts hown hK w ma (by decide +kernel) fa rfl 0 (by decide) (hts (.fieldLink RX0 9 "ReelBarn$FaderReel" "faders" "[F") (by decide +kernel)) (fun _ h9 => h9) rfl dX0_level_1 ?_
  refine lv_iload_n hx hb dX0_level_4 rfl (lv_at hl 1 rfl) ?_
  refine px_fald hx hb hK w mb fb hi dX0_level_5 ?_
  exact zRf hx hb hr hlk w dX0_level_6 (Nat.le_of_ble_eq_true rfl) (Nat.le_of_ble_eq_true rfl) ⟨rfl, rfl⟩
