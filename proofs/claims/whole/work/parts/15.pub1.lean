set_option maxHeartbeats 4000000 in
set_option maxRecDepth 100000 in
theorem kX6_wallFault (l : Launch) (G : zG) {L : List Nat} {f : Nat → va_E} {o ac aw ar : Nat} {ch : Option Nat} {car wa : Nat → Option Nat} {ta : Nat → Int32} (h : zBn G L f o ac aw ar ch car wa ta) (t : Int32) (sz : Nat) : zMl l yX6_wallFault wsX6_wallFault { frames := 1, cells := 0, slots := 0, locals := 20 } G [.ref o, .int t] (va_pl L f) sz (fun r u => u = va_pl L f ∧ r = zWF wa t) 0 0 := by
  refine zIn (Qc := fun A => va_Ql _ (zB G A) A) (cc := cX6_wallFault) (maxL := 2) (ret := (some .long)) (by decide) rfl (Nat.le_of_ble_eq_true rfl) ?_
  intro p e s m below meth c A ls hx hb hr hlk hml hts hown hnm hK w hl
  have hown : s.vm.findClass RX6 = some m.cls := hown
  have hl : lv_has ls 2 [(0, .ref o), (1, .int t)] := hl
  obtain ⟨⟨mo, mc, mw, mr⟩, fo, fc, fw, fr⟩ := id h
  refine lv_iload_n hx hb dX6_wallFault_0 rfl (lv_at hl 1 rfl) ?_
  refine zCi w (va_runS (As := [.int t]) (rest := []) ⟨hx, hb, hml, hown, hts⟩ (kX6_isSort l G _ t s.heap.size) (va_cwS 1 hts gX6_wallFault_X6_isSort rfl rfl rfl (by decide +kernel) ⟨(Nat.le_of_ble_eq_true rfl), (Nat.le_of_ble_eq_true rfl)⟩) (zPS w hK) rfl rfl hl.1 rfl (lv_room (Nat.le_of_ble_eq_true rfl)) dX6_wallFault_1 ⟨(Nat.le_of_ble_eq_true rfl), (Nat.le_of_ble_eq_true rfl)⟩) (fun r_1 u H locs hq w => ?_)
  obtain ⟨rfl, e_r_1⟩ := hq
  refine lv_if_ne (tgt := 11) hx hb dX6_wallFault_4 (by decide) (fun c_2 => ?_) (fun c_2 => ?_)
  · have p_t := z01 inferInstance e_r_1 c_2
    refine lv_aload_n hx hb dX6_wallFault_11 rfl (lv_at hl 0 rfl) ?_
    refine px_get (ci := 5) (C := RX6) (T := TX6) (N := 4) hx hb hts hown hK w mo (by decide +kernel) fo rfl 1 (by decide) (hts (.fieldLink RX6 17 "ReelBarn" "walls" "[LReelBarn$Wall;") (by decide +kernel)) (fun _ h9 => h9) rfl dX6_wallFault_12 ?_
    refine lv_iload_n hx hb dX6_wallFault_15 rfl (lv_at hl 1 rfl) ?_
    refine px_aldW hx hb hK w mw fw (zfour_in p_t) dX6_wallFault_16 ?_
    refine z_ifnonnullQ (tgt := 26) hx hb dX6_wallFault_17 (by decide) (fun c_3 => ?_) (fun c_3 => ?_)
    · refine lv_lconst (v := 0) hx hb dX6_wallFault_26 (by decide) ?_
      exact zRl hx hb hr hlk w dX6_wallFault_27 (Nat.le_of_ble_eq_true rfl) (Nat.le_of_ble_eq_true rfl) ⟨rfl, by simp [zWF, p_t, c_3]⟩
    · refine lv_ldc2 hx hb hown (hts (.constantLong RX6 134 (2199023255552)) (by decide +kernel)) dX6_wallFault_20 ?_
      refine lv_goto (tgt := 27) hx hb dX6_wallFault_23 (by decide) ?_
      exact zRl hx hb hr hlk w dX6_wallFault_27 (Nat.le_of_ble_eq_true rfl) (Nat.le_of_ble_eq_true rfl) ⟨rfl, by simp [zWF, p_t, c_3]⟩
  · have p_t := z00 inferInstance e_r_1 c_2
    refine lv_ldc2 hx hb hown (hts (.constantLong RX6 36 (1099511627776)) (by decide +kernel)) dX6_wallFault_7 ?_
    exact zRl hx hb hr hlk w dX6_wallFault_10 (Nat.le_of_ble_eq_true rfl) (Nat.le_of_ble_eq_true rfl) ⟨rfl, by simp [zWF, p_t]⟩
set_option maxHeartbeats 4000000 in
set_option maxRecDepth 100000 in
theorem kX6_rowFault (l : Launch) (G : zG) {L : List Nat} {f : Nat → va_E} {o ac aw ar : Nat} {ch : Option Nat} {car wa : Nat → Option Nat} {ta : Nat → Int32} (h : zBn G L f o ac aw ar ch car wa ta) (hwt : zWT G L f wa) (t y : Int32) (sz : Nat) : zMl l yX6_rowFault wsX6_rowFault { frames := 2, cells := 0, slots := 0, locals := 41 } G [.ref o, .int t, .int y] (va_pl L f) sz (fun r u => u = va_pl L f ∧ r = zRoF f wa t y) 0 0 := by
  refine zIn (Qc := fun A => va_Ql _ (zB G A) A) (cc := cX6_rowFault) (maxL := 5) (ret := (some .long)) (by decide) rfl (Nat.le_of_ble_eq_true rfl) ?_
  intro p e s m below meth c A ls hx hb hr hlk hml hts hown hnm hK w hl
  have hown : s.vm.findClass RX6 = some m.cls := hown
  have hl : lv_has ls 5 [(0, .ref o), (1, .int t), (2, .int y)] := hl
  obtain ⟨⟨mo, mc, mw, mr⟩, fo, fc, fw, fr⟩ := id h
  refine lv_aload_n hx hb dX6_rowFault_0 rfl (lv_at hl 0 rfl) ?_
  refine lv_iload_n hx hb dX6_rowFault_1 rfl (lv_at hl 1 rfl) ?_
  refine zCl w (va_runV (As := [.int t]) (rest := []) ⟨hx, hb, hml, hown, hts⟩ (kX6_wallFault l G h t s.heap.size) (cwV 1 hts gX6_rowFault_X6_wallFault rfl rfl rfl (by decide +kernel) ⟨(Nat.le_of_ble_eq_true rfl), (Nat.le_of_ble_eq_true rfl)⟩) (zPV w hK (px_recv (r := (RX6, TX6, 4)) hK w mo fo rfl)) rfl rfl hl.1 rfl (lv_room (Nat.le_of_ble_eq_true rfl)) dX6_rowFault_2 ⟨(Nat.le_of_ble_eq_true rfl), (Nat.le_of_ble_eq_true rfl)⟩) (fun r_1 u H locs hq w => ?_)
  obtain ⟨rfl, e_r⟩ := hq
  subst e_r
  refine lv_lstore_n (lv' := [(3, .long (zWF wa t)), (0, .ref o), (1, .int t), (2, .int y)]) hx hb dX6_rowFault_5 rfl hl (by decide) rfl (fun ls hl => ?_)
  refine lv_lload_n hx hb dX6_rowFault_6 rfl (lv_at hl 0 rfl) ?_
  refine lv_lconst (v := 0) hx hb dX6_rowFault_7 (by decide) ?_
  refine W.lcmp hx hb dX6_rowFault_8 ?_
  refine lv_if_eq (tgt := 14) hx hb dX6_rowFault_9 (by decide) (fun c_2 => ?_) (fun c_2 => ?_)
  · have p_f := zcmp0 c_2
    obtain ⟨ht, hwa⟩ := zWF_0 p_f
    have hW := zWT_at hwt p_f
    refine lv_iload_n hx hb dX6_rowFault_14 rfl (lv_at hl 3 rfl) ?_
    refine lv_if_lt (tgt := 36) hx hb dX6_rowFault_15 (by decide) (fun c_3 => ?_) (fun c_3 => ?_)
    · refine lv_ldc2 hx hb hown (hts (.constantLong RX6 136 (3298534883328)) (by decide +kernel)) dX6_rowFault_36 ?_
      exact zRl hx hb hr hlk w dX6_rowFault_39 (Nat.le_of_ble_eq_true rfl) (Nat.le_of_ble_eq_true rfl) ⟨rfl, by simp [zRoF, zHas, p_f, c_3]⟩
    · refine lv_iload_n hx hb dX6_rowFault_18 rfl (lv_at hl 3 rfl) ?_
      refine lv_aload_n hx hb dX6_rowFault_19 rfl (lv_at hl 1 rfl) ?_
      refine px_get (ci := 5) (C := RX6) (T := TX6) (N := 4) hx hb hts hown hK w mo (by decide +kernel) fo rfl 1 (by decide) (hts (.fieldLink RX6 17 "ReelBarn" "walls" "[LReelBarn$Wall;") (by decide +kernel)) (fun _ h9 => h9) rfl dX6_rowFault_20 ?_
      refine lv_iload_n hx hb dX6_rowFault_23 rfl (lv_at hl 2 rfl) ?_
      refine px_aldW hx hb hK w mw fw (zfour_in ht) dX6_rowFault_24 ?_
      rw [hwa]
      refine px_get (ci := 3) (C := RX4) (T := TX4) (N := 1) hx hb hts hown hK w hW.1 (by decide +kernel) hW.2.2.1 rfl 0 (by decide) (hts (.fieldLink RX6 120 "ReelBarn$Wall" "rows" "[LReelBarn$Reel;") (by decide +kernel)) (fun _ h9 => h9) rfl dX6_rowFault_25 ?_
      refine px_alen hx hb hK w hW.2.1 hW.2.2.2.1 5 rfl dX6_rowFault_28 ?_
      refine lv_icmp_ge (tgt := 36) hx hb dX6_rowFault_29 (by decide) (fun c_4 => ?_) (fun c_4 => ?_)
      · refine lv_ldc2 hx hb hown (hts (.constantLong RX6 136 (3298534883328)) (by decide +kernel)) dX6_rowFault_36 ?_
        exact zRl hx hb hr hlk w dX6_rowFault_39 (Nat.le_of_ble_eq_true rfl) (Nat.le_of_ble_eq_true rfl) ⟨rfl, by simp [zRoF, zHas, p_f, c_3, c_4]⟩
      · refine lv_lconst (v := 0) hx hb dX6_rowFault_32 (by decide) ?_
        refine lv_goto (tgt := 39) hx hb dX6_rowFault_33 (by decide) ?_
        exact zRl hx hb hr hlk w dX6_rowFault_39 (Nat.le_of_ble_eq_true rfl) (Nat.le_of_ble_eq_true rfl) ⟨rfl, by simp [zRoF, zHas, p_f, c_3, c_4]⟩
  · have p_f := zcmp1 c_2
    refine lv_lload_n hx hb dX6_rowFault_12 rfl (lv_at hl 0 rfl) ?_
    exact zRl hx hb hr hlk w dX6_rowFault_13 (Nat.le_of_ble_eq_true rfl) (Nat.le_of_ble_eq_true rfl) ⟨rfl, by simp [zRoF, zHas, p_f]⟩
set_option maxHeartbeats 4000000 in
set_option maxRecDepth 100000 in
theorem kX6_wallReelFault (l : Launch) (G : zG) {L : List Nat} {f : Nat → va_E} {o ac aw ar : Nat} {ch : Option Nat} {car wa : Nat → Option Nat} {ta : Nat → Int32} (h : zBn G L f o ac aw ar ch car wa ta) (hwt : zWT G L f wa) (t y : Int32) (sz : Nat) : zMl l yX6_wallReelFault wsX6_wallReelFault { frames := 3, cells := 0, slots := 0, locals := 65 } G [.ref o, .int t, .int y] (va_pl L f) sz (fun r u => u = va_pl L f ∧ r = zWR f wa t y) 0 0 := by
  refine zIn (Qc := fun A => va_Ql _ (zB G A) A) (cc := cX6_wallReelFault) (maxL := 5) (ret := (some .long)) (by decide) rfl (Nat.le_of_ble_eq_true rfl) ?_
  intro p e s m below meth c A ls hx hb hr hlk hml hts hown hnm hK w hl
  have hown : s.vm.findClass RX6 = some m.cls := hown
  have hl : lv_has ls 5 [(0, .ref o), (1, .int t), (2, .int y)] := hl
  obtain ⟨⟨mo, mc, mw, mr⟩, fo, fc, fw, fr⟩ := id h
  refine lv_aload_n hx hb dX6_wallReelFault_0 rfl (lv_at hl 0 rfl) ?_
  refine lv_iload_n hx hb dX6_wallReelFault_1 rfl (lv_at hl 1 rfl) ?_
  refine lv_iload_n hx hb dX6_wallReelFault_2 rfl (lv_at hl 2 rfl) ?_
  refine zCl w (va_runV (As := [.int t, .int y]) (rest := []) ⟨hx, hb, hml, hown, hts⟩ (kX6_rowFault l G h hwt t y s.heap.size) (cwV 2 hts gX6_wallReelFault_X6_rowFault rfl rfl rfl (by decide +kernel) ⟨(Nat.le_of_ble_eq_true rfl), (Nat.le_of_ble_eq_true rfl)⟩) (zPV w hK (px_recv (r := (RX6, TX6, 4)) hK w mo fo rfl)) rfl rfl hl.1 rfl (lv_room (Nat.le_of_ble_eq_true rfl)) dX6_wallReelFault_3 ⟨(Nat.le_of_ble_eq_true rfl), (Nat.le_of_ble_eq_true rfl)⟩) (fun r_1 u H locs hq w => ?_)
  obtain ⟨rfl, e_r⟩ := hq
  subst e_r
  refine lv_lstore_n (lv' := [(3, .long (zRoF f wa t y)), (0, .ref o), (1, .int t), (2, .int y)]) hx hb dX6_wallReelFault_6 rfl hl (by decide) rfl (fun ls hl => ?_)
  refine lv_lload_n hx hb dX6_wallReelFault_7 rfl (lv_at hl 0 rfl) ?_
  refine lv_lconst (v := 0) hx hb dX6_wallReelFault_8 (by decide) ?_
  refine W.lcmp hx hb dX6_wallReelFault_9 ?_
  refine lv_if_eq (tgt := 15) hx hb dX6_wallReelFault_10 (by decide) (fun c_2 => ?_) (fun c_2 => ?_)
  · have p_f := zcmp0 c_2
    obtain ⟨hf0, hy⟩ := zRoF_0 p_f
    obtain ⟨ht, hwa⟩ := zWF_0 hf0
    have hW := zWT_at hwt hf0
    have hyi := zin12 hy hW.2.2.2.2.1
    refine lv_aload_n hx hb dX6_wallReelFault_15 rfl (lv_at hl 1 rfl) ?_
    refine px_get (ci := 5) (C := RX6) (T := TX6) (N := 4) hx hb hts hown hK w mo (by decide +kernel) fo rfl 1 (by decide) (hts (.fieldLink RX6 17 "ReelBarn" "walls" "[LReelBarn$Wall;") (by decide +kernel)) (fun _ h9 => h9) rfl dX6_wallReelFault_16 ?_
    refine lv_iload_n hx hb dX6_wallReelFault_19 rfl (lv_at hl 2 rfl) ?_
    refine px_aldW hx hb hK w mw fw (zfour_in ht) dX6_wallReelFault_20 ?_
    rw [hwa]
    refine px_get (ci := 3) (C := RX4) (T := TX4) (N := 1) hx hb hts hown hK w hW.1 (by decide +kernel) hW.2.2.1 rfl 0 (by decide) (hts (.fieldLink RX6 120 "ReelBarn$Wall" "rows" "[LReelBarn$Reel;") (by decide +kernel)) (fun _ h9 => h9) rfl dX6_wallReelFault_21 ?_
    refine lv_iload_n hx hb dX6_wallReelFault_24 rfl (lv_at hl 3 rfl) ?_
    refine px_aldR hx hb hK w hW.2.1 hW.2.2.2.1 hyi dX6_wallReelFault_25 ?_
    refine z_ifnonnullQ (tgt := 35) hx hb dX6_wallReelFault_26 (by decide) (fun c_3 => ?_) (fun c_3 => ?_)
    · refine lv_lconst (v := 0) hx hb dX6_wallReelFault_35 (by decide) ?_
      exact zRl hx hb hr hlk w dX6_wallReelFault_36 (Nat.le_of_ble_eq_true rfl) (Nat.le_of_ble_eq_true rfl) ⟨rfl, by simp [zWR, p_f, c_3]⟩
    · refine lv_ldc2 hx hb hown (hts (.constantLong RX6 145 (7696581394432)) (by decide +kernel)) dX6_wallReelFault_29 ?_
      refine lv_goto (tgt := 36) hx hb dX6_wallReelFault_32 (by decide) ?_
      exact zRl hx hb hr hlk w dX6_wallReelFault_36 (Nat.le_of_ble_eq_true rfl) (Nat.le_of_ble_eq_true rfl) ⟨rfl, by simp [zWR, p_f, c_3]⟩
  · have p_f := zcmp1 c_2
    refine lv_lload_n hx hb dX6_wallReelFault_13 rfl (lv_at hl 0 rfl) ?_
    exact zRl hx hb hr hlk w dX6_wallReelFault_14 (Nat.le_of_ble_eq_true rfl) (Nat.le_of_ble_eq_true rfl) ⟨rfl, by simp [zWR, p_f]⟩
set_option maxHeartbeats 4000000 in
set_option maxRecDepth 100000 in
theorem kX6_wallPlaceFault (l : Launch) (G : zG) {L : List Nat} {f : Nat → va_E} {o ac aw ar : Nat} {ch : Option Nat} {car wa : Nat → Option Nat} {ta : Nat → Int32} (h : zBn G L f o ac aw ar ch car wa ta) (hwt : zWT G L f wa) (t y k : Int32) (sz : Nat) : zMl l yX6_wallPlaceFault wsX6_wallPlaceFault { frames := 4, cells := 0, slots := 0, locals := 89 } G [.ref o, .int t, .int y, .int k] (va_pl L f) sz (fun r u => u = va_pl L f ∧ r = zWP f wa t y k) 0 0 := by
  refine zIn (Qc := fun A => va_Ql _ (zB G A) A) (cc := cX6_wallPlaceFault) (maxL := 6) (ret := (some .long)) (by decide) rfl (Nat.le_of_ble_eq_true rfl) ?_
  intro p e s m below meth c A ls hx hb hr hlk hml hts hown hnm hK w hl
  have hown : s.vm.findClass RX6 = some m.cls := hown
  have hl : lv_has ls 6 [(0, .ref o), (1, .int t), (2, .int y), (3, .int k)] := hl
  obtain ⟨⟨mo, mc, mw, mr⟩, fo, fc, fw, fr⟩ := id h
  refine lv_aload_n hx hb dX6_wallPlaceFault_0 rfl (lv_at hl 0 rfl) ?_
  refine lv_iload_n hx hb dX6_wallPlaceFault_1 rfl (lv_at hl 1 rfl) ?_
  refine lv_iload_n hx hb dX6_wallPlaceFault_2 rfl (lv_at hl 2 rfl) ?_
  refine zCl w (va_runV (As := [.int t, .int y]) (rest := []) ⟨hx, hb, hml, hown, hts⟩ (kX6_wallReelFault l G h hwt t y s.heap.size) (cwV 2 hts gX6_wallPlaceFault_X6_wallReelFault rfl rfl rfl (by decide +kernel) ⟨(Nat.le_of_ble_eq_true rfl), (Nat.le_of_ble_eq_true rfl)⟩) (zPV w hK (px_recv (r := (RX6, TX6, 4)) hK w mo fo rfl)) rfl rfl hl.1 rfl (lv_room (Nat.le_of_ble_eq_true rfl)) dX6_wallPlaceFault_3 ⟨(Nat.le_of_ble_eq_true rfl), (Nat.le_of_ble_eq_true rfl)⟩) (fun r_1 u H locs hq w => ?_)
  obtain ⟨rfl, e_r⟩ := hq
  subst e_r
  refine lv_lstore (lv' := [(4, .long (zWR f wa t y)), (0, .ref o), (1, .int t), (2, .int y), (3, .int k)]) hx hb dX6_wallPlaceFault_6 hl (by decide) rfl (fun ls hl => ?_)
  refine lv_lload hx hb dX6_wallPlaceFault_8 (lv_at hl 0 rfl) ?_
  refine lv_lconst (v := 0) hx hb dX6_wallPlaceFault_10 (by decide) ?_
  refine W.lcmp hx hb dX6_wallPlaceFault_11 ?_
  refine lv_if_eq (tgt := 18) hx hb dX6_wallPlaceFault_12 (by decide) (fun c_2 => ?_) (fun c_2 => ?_)
  · have p_f := zcmp0 c_2
    obtain ⟨hf1, hxe⟩ := zWR_0 p_f
    have hA := zWT_x hwt p_f
    obtain ⟨hf0, hy⟩ := zRoF_0 hf1
    obtain ⟨ht, hwa⟩ := zWF_0 hf0
    have hW := zWT_at hwt hf0
    have hyi := zin12 hy hW.2.2.2.2.1
    obtain ⟨sN, hsN⟩ : ∃ sN, sN = zS t := ⟨_, rfl⟩
    rw [← hsN] at hA
    have hs : sN = 0 ∨ sN = 1 ∨ sN = 2 ∨ sN = 3 := by rw [hsN]; exact zS_or ht
    unfold zRA at hA
    refine lv_aload_n hx hb dX6_wallPlaceFault_18 rfl (lv_at hl 1 rfl) ?_
    refine px_get (ci := 5) (C := RX6) (T := TX6) (N := 4) hx hb hts hown hK w mo (by decide +kernel) fo rfl 1 (by decide) (hts (.fieldLink RX6 17 "ReelBarn" "walls" "[LReelBarn$Wall;") (by decide +kernel)) (fun _ h9 => h9) rfl dX6_wallPlaceFault_19 ?_
    refine lv_iload_n hx hb dX6_wallPlaceFault_22 rfl (lv_at hl 2 rfl) ?_
    refine px_aldW hx hb hK w mw fw (zfour_in ht) dX6_wallPlaceFault_23 ?_
    rw [hwa]
    refine px_get (ci := 3) (C := RX4) (T := TX4) (N := 1) hx hb hts hown hK w hW.1 (by decide +kernel) hW.2.2.1 rfl 0 (by decide) (hts (.fieldLink RX6 120 "ReelBarn$Wall" "rows" "[LReelBarn$Reel;") (by decide +kernel)) (fun _ h9 => h9) rfl dX6_wallPlaceFault_24 ?_
    refine lv_iload_n hx hb dX6_wallPlaceFault_27 rfl (lv_at hl 3 rfl) ?_
    refine px_aldR hx hb hK w hW.2.1 hW.2.2.2.1 hyi dX6_wallPlaceFault_28 ?_
    rw [hxe]
    refine lv_iload_n hx hb dX6_wallPlaceFault_29 rfl (lv_at hl 4 rfl) ?_
    refine zCi (post := fun r u => u = va_pl L f ∧ r = if zHas (vN f (zWx f wa t y)) k then 1 else 0) (mc := 0) (ms := 0) (rest := []) (av := (Value.ref (zWx f wa t y) :: [.int k]).toArray) w (by
        rcases hs with rfl | rfl | rfl | rfl
        · exact va_runU (As := [.int k]) (rest := []) ⟨hx, hb, hml, hown, hts⟩ (kX3_has l G (by omega) hA k H.size) (va_cwU 1 hts gX6_wallPlaceFault_X3_has_u142X2 rfl rfl rfl rfl (by decide +kernel) ⟨(Nat.le_of_ble_eq_true rfl), (Nat.le_of_ble_eq_true rfl)⟩) (zPV w hK (px_recv (ci := 2) (fs := [.ref (vB f (zWx f wa t y))]) (r := (RX2, TX2, 1)) hK w (hA.1) (hA.2.2.1) rfl)) rfl rfl hl.1 rfl (lv_room (Nat.le_of_ble_eq_true rfl)) dX6_wallPlaceFault_30 ⟨(Nat.le_of_ble_eq_true rfl), (Nat.le_of_ble_eq_true rfl)⟩
        · exact va_runU (As := [.int k]) (rest := []) ⟨hx, hb, hml, hown, hts⟩ (kX3_has l G (by omega) hA k H.size) (va_cwU 1 hts gX6_wallPlaceFault_X3_has_u142X5 rfl rfl rfl rfl (by decide +kernel) ⟨(Nat.le_of_ble_eq_true rfl), (Nat.le_of_ble_eq_true rfl)⟩) (zPV w hK (px_recv (ci := 4) (fs := [.ref (vB f (zWx f wa t y))]) (r := (RX5, TX5, 1)) hK w (hA.1) (hA.2.2.1) rfl)) rfl rfl hl.1 rfl (lv_room (Nat.le_of_ble_eq_true rfl)) dX6_wallPlaceFault_30 ⟨(Nat.le_of_ble_eq_true rfl), (Nat.le_of_ble_eq_true rfl)⟩
        · exact va_runU (As := [.int k]) (rest := []) ⟨hx, hb, hml, hown, hts⟩ (kX3_has l G (by omega) hA k H.size) (va_cwU 1 hts gX6_wallPlaceFault_X3_has_u142X0 rfl rfl rfl rfl (by decide +kernel) ⟨(Nat.le_of_ble_eq_true rfl), (Nat.le_of_ble_eq_true rfl)⟩) (zPV w hK (px_recv (ci := 0) (fs := [.ref (vB f (zWx f wa t y))]) (r := (RX0, TX0, 1)) hK w (hA.1) (hA.2.2.1) rfl)) rfl rfl hl.1 rfl (lv_room (Nat.le_of_ble_eq_true rfl)) dX6_wallPlaceFault_30 ⟨(Nat.le_of_ble_eq_true rfl), (Nat.le_of_ble_eq_true rfl)⟩
        · exact va_runU (As := [.int k]) (rest := []) ⟨hx, hb, hml, hown, hts⟩ (kX3_has l G (by omega) hA k H.size) (va_cwU 1 hts gX6_wallPlaceFault_X3_has_u142X1 rfl rfl rfl rfl (by decide +kernel) ⟨(Nat.le_of_ble_eq_true rfl), (Nat.le_of_ble_eq_true rfl)⟩) (zPV w hK (px_recv (ci := 1) (fs := [.ref (vB f (zWx f wa t y))]) (r := (RX1, TX1, 1)) hK w (hA.1) (hA.2.2.1) rfl)) rfl rfl hl.1 rfl (lv_room (Nat.le_of_ble_eq_true rfl)) dX6_wallPlaceFault_30 ⟨(Nat.le_of_ble_eq_true rfl), (Nat.le_of_ble_eq_true rfl)⟩) (fun r_3 u H locs hq w => ?_)
    obtain ⟨rfl, e_r_3⟩ := hq
    refine lv_if_eq (tgt := 40) hx hb dX6_wallPlaceFault_33 (by decide) (fun c_4 => ?_) (fun c_4 => ?_)
    · have p_h := z00 inferInstance e_r_3 c_4
      refine lv_ldc2 hx hb hown (hts (.constantLong RX6 136 (3298534883328)) (by decide +kernel)) dX6_wallPlaceFault_40 ?_
      exact zRl hx hb hr hlk w dX6_wallPlaceFault_43 (Nat.le_of_ble_eq_true rfl) (Nat.le_of_ble_eq_true rfl) ⟨rfl, by simp [zWP, p_f, p_h]⟩
    · have p_h := z01 inferInstance e_r_3 c_4
      refine lv_lconst (v := 0) hx hb dX6_wallPlaceFault_36 (by decide) ?_
      refine lv_goto (tgt := 43) hx hb dX6_wallPlaceFault_37 (by decide) ?_
      exact zRl hx hb hr hlk w dX6_wallPlaceFault_43 (Nat.le_of_ble_eq_true rfl) (Nat.le_of_ble_eq_true rfl) ⟨rfl, by simp [zWP, p_f, p_h]⟩
  · have p_f := zcmp1 c_2
    refine lv_lload hx hb dX6_wallPlaceFault_15 (lv_at hl 0 rfl) ?_
    exact zRl hx hb hr hlk w dX6_wallPlaceFault_17 (Nat.le_of_ble_eq_true rfl) (Nat.le_of_ble_eq_true rfl) ⟨rfl, by simp [zWP, p_f]⟩
set_option maxHeartbeats 4000000 in
set_option maxRecDepth 100000 in
theorem kX6_size (l : Launch) (G : zG) {L : List Nat} {f : Nat → va_E} {o ac aw ar : Nat} {ch : Option Nat} {car wa : Nat → Option Nat} {ta : Nat → Int32} (h : zBn G L f o ac aw ar ch car wa ta) (hct : zCT G L f car) (hwt : zWT G L f wa) (d t : Int32) (sz : Nat) : zMl l yX6_size wsX6_size { frames := 2, cells := 0, slots := 0, locals := 44 } G [.ref o, .int d, .int t] (va_pl L f) sz (fun r u => if zRF car d t = 0 then (u = va_pl L f ∧ r = (nI (vN f (zA car d t))).toInt64) else zRefP G L f ar ta (zRF car d t) r u) 0 0 := by
  refine zIn (Qc := fun A => va_Ql _ (zB G A) A) (cc := cX6_size) (maxL := 5) (ret := (some .long)) (by decide) rfl (Nat.le_of_ble_eq_true rfl) ?_
  intro p e s m below meth c A ls hx hb hr hlk hml hts hown hnm hK w hl
  have hown : s.vm.findClass RX6 = some m.cls := hown
  have hl : lv_has ls 5 [(0, .ref o), (1, .int d), (2, .int t)] := hl
  obtain ⟨⟨mo, mc, mw, mr⟩, fo, fc, fw, fr⟩ := id h
  refine lv_aload_n hx hb dX6_size_0 rfl (lv_at hl 0 rfl) ?_
  refine lv_iload_n hx hb dX6_size_1 rfl (lv_at hl 1 rfl) ?_
  refine lv_iload_n hx hb dX6_size_2 rfl (lv_at hl 2 rfl) ?_
  refine zCl w (va_runV (As := [.int d, .int t]) (rest := []) ⟨hx, hb, hml, hown, hts⟩ (kX6_reelFault l G h d t s.heap.size) (cwV 2 hts gX6_size_X6_reelFault rfl rfl rfl (by decide +kernel) ⟨(Nat.le_of_ble_eq_true rfl), (Nat.le_of_ble_eq_true rfl)⟩) (zPV w hK (px_recv (r := (RX6, TX6, 4)) hK w mo fo rfl)) rfl rfl hl.1 rfl (lv_room (Nat.le_of_ble_eq_true rfl)) dX6_size_3 ⟨(Nat.le_of_ble_eq_true rfl), (Nat.le_of_ble_eq_true rfl)⟩) (fun r_1 u H locs hq w => ?_)
  obtain ⟨rfl, e_r⟩ := hq
  subst e_r
  refine lv_lstore_n (lv' := [(3, .long (zRF car d t)), (0, .ref o), (1, .int d), (2, .int t)]) hx hb dX6_size_6 rfl hl (by decide) rfl (fun ls hl => ?_)
  refine lv_lload_n hx hb dX6_size_7 rfl (lv_at hl 0 rfl) ?_
  refine lv_lconst (v := 0) hx hb dX6_size_8 (by decide) ?_
  refine W.lcmp hx hb dX6_size_9 ?_
  refine lv_if_eq (tgt := 19) hx hb dX6_size_10 (by decide) (fun c_2 => ?_) (fun c_2 => ?_)
  · have p_f := zcmp0 c_2
    obtain ⟨hd, ht, hca⟩ := zRF_0 p_f
    have hA := zCT_at hct p_f
    obtain ⟨sN, hsN⟩ : ∃ sN, sN = zS t := ⟨_, rfl⟩
    rw [← hsN] at hA
    have hs : sN = 0 ∨ sN = 1 ∨ sN = 2 ∨ sN = 3 := by rw [hsN]; exact zS_or ht
    unfold zRA at hA
    refine lv_aload_n hx hb dX6_size_19 rfl (lv_at hl 1 rfl) ?_
    refine lv_iload_n hx hb dX6_size_20 rfl (lv_at hl 2 rfl) ?_
    refine lv_iload_n hx hb dX6_size_21 rfl (lv_at hl 3 rfl) ?_
    refine zCq w (va_runV (As := [.int d, .int t]) (rest := []) ⟨hx, hb, hml, hown, hts⟩ (kX6_reelOn l G h d t hd ht H.size) (cwV 2 hts gX6_size_X6_reelOn rfl rfl rfl (by decide +kernel) ⟨(Nat.le_of_ble_eq_true rfl), (Nat.le_of_ble_eq_true rfl)⟩) (zPV w hK (px_recv (r := (RX6, TX6, 4)) hK w mo fo rfl)) rfl rfl hl.1 rfl (lv_room (Nat.le_of_ble_eq_true rfl)) dX6_size_22 ⟨(Nat.le_of_ble_eq_true rfl), (Nat.le_of_ble_eq_true rfl)⟩) (fun r_3 u H locs hq w => ?_)
    obtain ⟨rfl, e_r⟩ := hq
    subst e_r
    rw [hca]
    refine zCi (post := fun r u => u = va_pl L f ∧ r = nI (vN f (zA car d t))) (mc := 0) (ms := 0) (rest := []) (av := (Value.ref (zA car d t) :: []).toArray) w (by
        rcases hs with rfl | rfl | rfl | rfl
        · exact va_runU (As := []) (rest := []) ⟨hx, hb, hml, hown, hts⟩ (kX2_places l G hA H.size) (va_cwA 0 hts gX6_size_X2_places_u61X2 rfl rfl rfl hK.2.1.1 (by decide +kernel) ⟨(Nat.le_of_ble_eq_true rfl), (Nat.le_of_ble_eq_true rfl)⟩) (zPV w hK (px_recv (ci := 2) (fs := [.ref (vB f (zA car d t))]) (r := (RX2, TX2, 1)) hK w (hA.1) (hA.2.2.1) rfl)) rfl rfl hl.1 rfl (lv_room (Nat.le_of_ble_eq_true rfl)) dX6_size_25 ⟨(Nat.le_of_ble_eq_true rfl), (Nat.le_of_ble_eq_true rfl)⟩
        · exact va_runU (As := []) (rest := []) ⟨hx, hb, hml, hown, hts⟩ (kX5_places l G hA H.size) (va_cwA 0 hts gX6_size_X5_places_u61X5 rfl rfl rfl hK.2.1.1 (by decide +kernel) ⟨(Nat.le_of_ble_eq_true rfl), (Nat.le_of_ble_eq_true rfl)⟩) (zPV w hK (px_recv (ci := 4) (fs := [.ref (vB f (zA car d t))]) (r := (RX5, TX5, 1)) hK w (hA.1) (hA.2.2.1) rfl)) rfl rfl hl.1 rfl (lv_room (Nat.le_of_ble_eq_true rfl)) dX6_size_25 ⟨(Nat.le_of_ble_eq_true rfl), (Nat.le_of_ble_eq_true rfl)⟩
        · exact va_runU (As := []) (rest := []) ⟨hx, hb, hml, hown, hts⟩ (kX0_places l G hA H.size) (va_cwA 0 hts gX6_size_X0_places_u61X0 rfl rfl rfl hK.2.1.1 (by decide +kernel) ⟨(Nat.le_of_ble_eq_true rfl), (Nat.le_of_ble_eq_true rfl)⟩) (zPV w hK (px_recv (ci := 0) (fs := [.ref (vB f (zA car d t))]) (r := (RX0, TX0, 1)) hK w (hA.1) (hA.2.2.1) rfl)) rfl rfl hl.1 rfl (lv_room (Nat.le_of_ble_eq_true rfl)) dX6_size_25 ⟨(Nat.le_of_ble_eq_true rfl), (Nat.le_of_ble_eq_true rfl)⟩
        · exact va_runU (As := []) (rest := []) ⟨hx, hb, hml, hown, hts⟩ (kX1_places l G hA H.size) (va_cwA 0 hts gX6_size_X1_places_u61X1 rfl rfl rfl hK.2.1.1 (by decide +kernel) ⟨(Nat.le_of_ble_eq_true rfl), (Nat.le_of_ble_eq_true rfl)⟩) (zPV w hK (px_recv (ci := 1) (fs := [.ref (vB f (zA car d t))]) (r := (RX1, TX1, 1)) hK w (hA.1) (hA.2.2.1) rfl)) rfl rfl hl.1 rfl (lv_room (Nat.le_of_ble_eq_true rfl)) dX6_size_25 ⟨(Nat.le_of_ble_eq_true rfl), (Nat.le_of_ble_eq_true rfl)⟩) (fun r_4 u H locs hq w => ?_)
    obtain ⟨rfl, e_r⟩ := hq
    subst e_r
    refine lv_i2l hx hb dX6_size_28 rfl ?_
    exact zRl hx hb hr hlk w dX6_size_29 (Nat.le_of_ble_eq_true rfl) (Nat.le_of_ble_eq_true rfl) (by show (if _ then _ else _); (first | rw [if_pos p_f] | rw [if_neg p_f]); (first | exact ⟨rfl, rfl⟩ | exact ⟨rfl, by rw [hsN]⟩))
  · have p_f := zcmp1 c_2
    refine lv_aload_n hx hb dX6_size_13 rfl (lv_at hl 1 rfl) ?_
    refine lv_lload_n hx hb dX6_size_14 rfl (lv_at hl 0 rfl) ?_
    refine zCl w (va_runV (As := [.long (zRF car d t)]) (rest := []) ⟨hx, hb, hml, hown, hts⟩ (kX6_refuse l G h (zRF car d t) (zRF_why p_f) H.size) (cwV 1 hts gX6_size_X6_refuse rfl rfl rfl (by decide +kernel) ⟨(Nat.le_of_ble_eq_true rfl), (Nat.le_of_ble_eq_true rfl)⟩) (zPV w hK (px_recv (r := (RX6, TX6, 4)) hK w mo fo rfl)) rfl rfl hl.1 rfl (lv_room (Nat.le_of_ble_eq_true rfl)) dX6_size_15 ⟨(Nat.le_of_ble_eq_true rfl), (Nat.le_of_ble_eq_true rfl)⟩) (fun r_5 u H locs hq w => ?_)
    obtain ⟨rfl, e_r⟩ := hq
    subst e_r
    exact zRl hx hb hr hlk w dX6_size_18 (Nat.le_of_ble_eq_true rfl) (Nat.le_of_ble_eq_true rfl) (by show (if _ then _ else _); (first | rw [if_pos p_f] | rw [if_neg p_f]); (first | exact ⟨rfl, rfl⟩ | exact ⟨rfl, by rw [hsN]⟩))
set_option maxHeartbeats 4000000 in
set_option maxRecDepth 100000 in
theorem kX6_eject (l : Launch) (G : zG) {L : List Nat} {f : Nat → va_E} {o ac aw ar : Nat} {ch : Option Nat} {car wa : Nat → Option Nat} {ta : Nat → Int32} (h : zBn G L f o ac aw ar ch car wa ta) (hct : zCT G L f car) (hwt : zWT G L f wa) (d t : Int32) (sz : Nat) : zMl l yX6_eject wsX6_eject { frames := 2, cells := 0, slots := 0, locals := 44 } G [.ref o, .int d, .int t] (va_pl L f) sz (fun r u => if zRF car d t = 0 then (u = zCarW G L f ac (va_up car (zix d t) none) ∧ r = (nI (vN f (zA car d t))).toInt64) else zRefP G L f ar ta (zRF car d t) r u) 0 0 := by
  refine zIn (Qc := fun A => va_Ql _ (zB G A) A) (cc := cX6_eject) (maxL := 6) (ret := (some .long)) (by decide) rfl (Nat.le_of_ble_eq_true rfl) ?_
  intro p e s m below meth c A ls hx hb hr hlk hml hts hown hnm hK w hl
  have hown : s.vm.findClass RX6 = some m.cls := hown
  have hl : lv_has ls 6 [(0, .ref o), (1, .int d), (2, .int t)] := hl
  obtain ⟨⟨mo, mc, mw, mr⟩, fo, fc, fw, fr⟩ := id h
  refine lv_aload_n hx hb dX6_eject_0 rfl (lv_at hl 0 rfl) ?_
  refine lv_iload_n hx hb dX6_eject_1 rfl (lv_at hl 1 rfl) ?_
  refine lv_iload_n hx hb dX6_eject_2 rfl (lv_at hl 2 rfl) ?_
  refine zCl w (va_runV (As := [.int d, .int t]) (rest := []) ⟨hx, hb, hml, hown, hts⟩ (kX6_reelFault l G h d t s.heap.size) (cwV 2 hts gX6_eject_X6_reelFault rfl rfl rfl (by decide +kernel) ⟨(Nat.le_of_ble_eq_true rfl), (Nat.le_of_ble_eq_true rfl)⟩) (zPV w hK (px_recv (r := (RX6, TX6, 4)) hK w mo fo rfl)) rfl rfl hl.1 rfl (lv_room (Nat.le_of_ble_eq_true rfl)) dX6_eject_3 ⟨(Nat.le_of_ble_eq_true rfl), (Nat.le_of_ble_eq_true rfl)⟩) (fun r_1 u H locs hq w => ?_)
  obtain ⟨rfl, e_r⟩ := hq
  subst e_r
  refine lv_lstore_n (lv' := [(3, .long (zRF car d t)), (0, .ref o), (1, .int d), (2, .int t)]) hx hb dX6_eject_6 rfl hl (by decide) rfl (fun ls hl => ?_)
  refine lv_lload_n hx hb dX6_eject_7 rfl (lv_at hl 0 rfl) ?_
  refine lv_lconst (v := 0) hx hb dX6_eject_8 (by decide) ?_
  refine W.lcmp hx hb dX6_eject_9 ?_
  refine lv_if_eq (tgt := 19) hx hb dX6_eject_10 (by decide) (fun c_2 => ?_) (fun c_2 => ?_)
  · have p_f := zcmp0 c_2
    obtain ⟨hd, ht, hca⟩ := zRF_0 p_f
    have hA := zCT_at hct p_f
    obtain ⟨sN, hsN⟩ : ∃ sN, sN = zS t := ⟨_, rfl⟩
    rw [← hsN] at hA
    have hs : sN = 0 ∨ sN = 1 ∨ sN = 2 ∨ sN = 3 := by rw [hsN]; exact zS_or ht
    unfold zRA at hA
    refine lv_aload_n hx hb dX6_eject_19 rfl (lv_at hl 1 rfl) ?_
    refine lv_iload_n hx hb dX6_eject_20 rfl (lv_at hl 2 rfl) ?_
    refine lv_iload_n hx hb dX6_eject_21 rfl (lv_at hl 3 rfl) ?_
    refine zCq w (va_runV (As := [.int d, .int t]) (rest := []) ⟨hx, hb, hml, hown, hts⟩ (kX6_reelOn l G h d t hd ht H.size) (cwV 2 hts gX6_eject_X6_reelOn rfl rfl rfl (by decide +kernel) ⟨(Nat.le_of_ble_eq_true rfl), (Nat.le_of_ble_eq_true rfl)⟩) (zPV w hK (px_recv (r := (RX6, TX6, 4)) hK w mo fo rfl)) rfl rfl hl.1 rfl (lv_room (Nat.le_of_ble_eq_true rfl)) dX6_eject_22 ⟨(Nat.le_of_ble_eq_true rfl), (Nat.le_of_ble_eq_true rfl)⟩) (fun r_3 u H locs hq w => ?_)
    obtain ⟨rfl, e_r⟩ := hq
    subst e_r
    rw [hca]
    refine zCi (post := fun r u => u = va_pl L f ∧ r = nI (vN f (zA car d t))) (mc := 0) (ms := 0) (rest := []) (av := (Value.ref (zA car d t) :: []).toArray) w (by
        rcases hs with rfl | rfl | rfl | rfl
        · exact va_runU (As := []) (rest := []) ⟨hx, hb, hml, hown, hts⟩ (kX2_places l G hA H.size) (va_cwA 0 hts gX6_eject_X2_places_u61X2 rfl rfl rfl hK.2.1.1 (by decide +kernel) ⟨(Nat.le_of_ble_eq_true rfl), (Nat.le_of_ble_eq_true rfl)⟩) (zPV w hK (px_recv (ci := 2) (fs := [.ref (vB f (zA car d t))]) (r := (RX2, TX2, 1)) hK w (hA.1) (hA.2.2.1) rfl)) rfl rfl hl.1 rfl (lv_room (Nat.le_of_ble_eq_true rfl)) dX6_eject_25 ⟨(Nat.le_of_ble_eq_true rfl), (Nat.le_of_ble_eq_true rfl)⟩
        · exact va_runU (As := []) (rest := []) ⟨hx, hb, hml, hown, hts⟩ (kX5_places l G hA H.size) (va_cwA 0 hts gX6_eject_X5_places_u61X5 rfl rfl rfl hK.2.1.1 (by decide +kernel) ⟨(Nat.le_of_ble_eq_true rfl), (Nat.le_of_ble_eq_true rfl)⟩) (zPV w hK (px_recv (ci := 4) (fs := [.ref (vB f (zA car d t))]) (r := (RX5, TX5, 1)) hK w (hA.1) (hA.2.2.1) rfl)) rfl rfl hl.1 rfl (lv_room (Nat.le_of_ble_eq_true rfl)) dX6_eject_25 ⟨(Nat.le_of_ble_eq_true rfl), (Nat.le_of_ble_eq_true rfl)⟩
        · exact va_runU (As := []) (rest := []) ⟨hx, hb, hml, hown, hts⟩ (kX0_places l G hA H.size) (va_cwA 0 hts gX6_eject_X0_places_u61X0 rfl rfl rfl hK.2.1.1 (by decide +kernel) ⟨(Nat.le_of_ble_eq_true rfl), (Nat.le_of_ble_eq_true rfl)⟩) (zPV w hK (px_recv (ci := 0) (fs := [.ref (vB f (zA car d t))]) (r := (RX0, TX0, 1)) hK w (hA.1) (hA.2.2.1) rfl)) rfl rfl hl.1 rfl (lv_room (Nat.le_of_ble_eq_true rfl)) dX6_eject_25 ⟨(Nat.le_of_ble_eq_true rfl), (Nat.le_of_ble_eq_true rfl)⟩
        · exact va_runU (As := []) (rest := []) ⟨hx, hb, hml, hown, hts⟩ (kX1_places l G hA H.size) (va_cwA 0 hts gX6_eject_X1_places_u61X1 rfl rfl rfl hK.2.1.1 (by decide +kernel) ⟨(Nat.le_of_ble_eq_true rfl), (Nat.le_of_ble_eq_true rfl)⟩) (zPV w hK (px_recv (ci := 1) (fs := [.ref (vB f (zA car d t))]) (r := (RX1, TX1, 1)) hK w (hA.1) (hA.2.2.1) rfl)) rfl rfl hl.1 rfl (lv_room (Nat.le_of_ble_eq_true rfl)) dX6_eject_25 ⟨(Nat.le_of_ble_eq_true rfl), (Nat.le_of_ble_eq_true rfl)⟩) (fun r_4 u H locs hq w => ?_)
    obtain ⟨rfl, e_r⟩ := hq
    subst e_r
    refine lv_istore (lv' := [(5, .int (nI (vN f (zA car d t)))), (3, .long (zRF car d t)), (0, .ref o), (1, .int d), (2, .int t)]) hx hb dX6_eject_28 hl (by decide) rfl (fun ls hl => ?_)
    refine lv_aload_n hx hb dX6_eject_30 rfl (lv_at hl 2 rfl) ?_
    refine lv_iload_n hx hb dX6_eject_31 rfl (lv_at hl 3 rfl) ?_
    refine lv_iload_n hx hb dX6_eject_32 rfl (lv_at hl 4 rfl) ?_
    refine lv_null hx hb dX6_eject_33 ?_
    refine zCv w (va_runV (As := [.int d, .int t, .null]) (rest := []) ⟨hx, hb, hml, hown, hts⟩ (kX6_carry l G h d t none hd ht (fun v q => by cases q) H.size) (cwV 3 hts gX6_eject_X6_carry rfl rfl rfl (by decide +kernel) ⟨(Nat.le_of_ble_eq_true rfl), (Nat.le_of_ble_eq_true rfl)⟩) (zPV w hK (px_recv (r := (RX6, TX6, 4)) hK w mo fo rfl)) rfl rfl hl.1 rfl (lv_room (Nat.le_of_ble_eq_true rfl)) dX6_eject_34 ⟨(Nat.le_of_ble_eq_true rfl), (Nat.le_of_ble_eq_true rfl)⟩) (fun u H locs hq w => ?_)
    subst hq
    refine lv_iload hx hb dX6_eject_37 (lv_at hl 0 rfl) ?_
    refine lv_i2l hx hb dX6_eject_39 rfl ?_
    exact zRl hx hb hr hlk w dX6_eject_40 (Nat.le_of_ble_eq_true rfl) (Nat.le_of_ble_eq_true rfl) (by show (if _ then _ else _); (first | rw [if_pos p_f] | rw [if_neg p_f]); (first | exact ⟨rfl, rfl⟩ | exact ⟨rfl, by rw [hsN]⟩))
  · have p_f := zcmp1 c_2
    refine lv_aload_n hx hb dX6_eject_13 rfl (lv_at hl 1 rfl) ?_
    refine lv_lload_n hx hb dX6_eject_14 rfl (lv_at hl 0 rfl) ?_
    refine zCl w (va_runV (As := [.long (zRF car d t)]) (rest := []) ⟨hx, hb, hml, hown, hts⟩ (kX6_refuse l G h (zRF car d t) (zRF_why p_f) H.size) (cwV 1 hts gX6_eject_X6_refuse rfl rfl rfl (by decide +kernel) ⟨(Nat.le_of_ble_eq_true rfl), (Nat.le_of_ble_eq_true rfl)⟩) (zPV w hK (px_recv (r := (RX6, TX6, 4)) hK w mo fo rfl)) rfl rfl hl.1 rfl (lv_room (Nat.le_of_ble_eq_true rfl)) dX6_eject_15 ⟨(Nat.le_of_ble_eq_true rfl), (Nat.le_of_ble_eq_true rfl)⟩) (fun r_5 u H locs hq w => ?_)
    obtain ⟨rfl, e_r⟩ := hq
    subst e_r
    exact zRl hx hb hr hlk w dX6_eject_18 (Nat.le_of_ble_eq_true rfl) (Nat.le_of_ble_eq_true rfl) (by show (if _ then _ else _); (first | rw [if_pos p_f] | rw [if_neg p_f]); (first | exact ⟨rfl, rfl⟩ | exact ⟨rfl, by rw [hsN]⟩))
set_option maxHeartbeats 4000000 in
set_option maxRecDepth 100000 in
theorem kX6_read (l : Launch) (G : zG) {L : List Nat} {f : Nat → va_E} {o ac aw ar : Nat} {ch : Option Nat} {car wa : Nat → Option Nat} {ta : Nat → Int32} (h : zBn G L f o ac aw ar ch car wa ta) (hct : zCT G L f car) (hwt : zWT G L f wa) (d t i : Int32) (sz : Nat) : zMl l yX6_read wsX6_read { frames := 3, cells := 0, slots := 0, locals := 69 } G [.ref o, .int d, .int t, .int i] (va_pl L f) sz (fun r u => if zPF f car d t i = 0 then (u = va_pl L f ∧ r = (zTold (zS t) (vI f (zA car d t)) (vF f (zA car d t)) i.toNatClampNeg).toInt64) else zRefP G L f ar ta (zPF f car d t i) r u) 0 0 := by
  refine zIn (Qc := fun A => va_Ql _ (zB G A) A) (cc := cX6_read) (maxL := 6) (ret := (some .long)) (by decide) rfl (Nat.le_of_ble_eq_true rfl) ?_
  intro p e s m below meth c A ls hx hb hr hlk hml hts hown hnm hK w hl
  have hown : s.vm.findClass RX6 = some m.cls := hown
  have hl : lv_has ls 6 [(0, .ref o), (1, .int d), (2, .int t), (3, .int i)] := hl
  obtain ⟨⟨mo, mc, mw, mr⟩, fo, fc, fw, fr⟩ := id h
  refine lv_aload_n hx hb dX6_read_0 rfl (lv_at hl 0 rfl) ?_
  refine lv_iload_n hx hb dX6_read_1 rfl (lv_at hl 1 rfl) ?_
  refine lv_iload_n hx hb dX6_read_2 rfl (lv_at hl 2 rfl) ?_
  refine lv_iload_n hx hb dX6_read_3 rfl (lv_at hl 3 rfl) ?_
  refine zCl w (va_runV (As := [.int d, .int t, .int i]) (rest := []) ⟨hx, hb, hml, hown, hts⟩ (kX6_placeFault l G h hct d t i s.heap.size) (cwV 3 hts gX6_read_X6_placeFault rfl rfl rfl (by decide +kernel) ⟨(Nat.le_of_ble_eq_true rfl), (Nat.le_of_ble_eq_true rfl)⟩) (zPV w hK (px_recv (r := (RX6, TX6, 4)) hK w mo fo rfl)) rfl rfl hl.1 rfl (lv_room (Nat.le_of_ble_eq_true rfl)) dX6_read_4 ⟨(Nat.le_of_ble_eq_true rfl), (Nat.le_of_ble_eq_true rfl)⟩) (fun r_1 u H locs hq w => ?_)
  obtain ⟨rfl, e_r⟩ := hq
  subst e_r
  refine lv_lstore (lv' := [(4, .long (zPF f car d t i)), (0, .ref o), (1, .int d), (2, .int t), (3, .int i)]) hx hb dX6_read_7 hl (by decide) rfl (fun ls hl => ?_)
  refine lv_lload hx hb dX6_read_9 (lv_at hl 0 rfl) ?_
  refine lv_lconst (v := 0) hx hb dX6_read_11 (by decide) ?_
  refine W.lcmp hx hb dX6_read_12 ?_
  refine lv_if_eq (tgt := 23) hx hb dX6_read_13 (by decide) (fun c_2 => ?_) (fun c_2 => ?_)
  · have p_f := zcmp0 c_2
    obtain ⟨p_0, hh⟩ := zPF_0 p_f
    obtain ⟨hd, ht, hca⟩ := zRF_0 p_0
    have hA := zCT_at hct p_0
    obtain ⟨sN, hsN⟩ : ∃ sN, sN = zS t := ⟨_, rfl⟩
    rw [← hsN] at hA
    have hs : sN = 0 ∨ sN = 1 ∨ sN = 2 ∨ sN = 3 := by rw [hsN]; exact zS_or ht
    unfold zRA at hA
    have hi := zin40 hh hA.2.2.2.2.1
    refine lv_aload_n hx hb dX6_read_23 rfl (lv_at hl 1 rfl) ?_
    refine lv_iload_n hx hb dX6_read_24 rfl (lv_at hl 2 rfl) ?_
    refine lv_iload_n hx hb dX6_read_25 rfl (lv_at hl 3 rfl) ?_
    refine zCq w (va_runV (As := [.int d, .int t]) (rest := []) ⟨hx, hb, hml, hown, hts⟩ (kX6_reelOn l G h d t hd ht H.size) (cwV 2 hts gX6_read_X6_reelOn rfl rfl rfl (by decide +kernel) ⟨(Nat.le_of_ble_eq_true rfl), (Nat.le_of_ble_eq_true rfl)⟩) (zPV w hK (px_recv (r := (RX6, TX6, 4)) hK w mo fo rfl)) rfl rfl hl.1 rfl (lv_room (Nat.le_of_ble_eq_true rfl)) dX6_read_26 ⟨(Nat.le_of_ble_eq_true rfl), (Nat.le_of_ble_eq_true rfl)⟩) (fun r_3 u H locs hq w => ?_)
    obtain ⟨rfl, e_r⟩ := hq
    subst e_r
    rw [hca]
    refine lv_iload_n hx hb dX6_read_29 rfl (lv_at hl 4 rfl) ?_
    refine zCi (post := fun r u => u = va_pl L f ∧ r = zTold sN (vI f (zA car d t)) (vF f (zA car d t)) i.toNatClampNeg) (mc := 0) (ms := 0) (rest := []) (av := (Value.ref (zA car d t) :: [.int i]).toArray) w (by
        rcases hs with rfl | rfl | rfl | rfl
        · exact va_runU (As := [.int i]) (rest := []) ⟨hx, hb, hml, hown, hts⟩ (kX2_told l G hA i hi H.size) (va_cwA 1 hts gX6_read_X2_told_u73X2 rfl rfl rfl hK.2.1.2.1 (by decide +kernel) ⟨(Nat.le_of_ble_eq_true rfl), (Nat.le_of_ble_eq_true rfl)⟩) (zPV w hK (px_recv (ci := 2) (fs := [.ref (vB f (zA car d t))]) (r := (RX2, TX2, 1)) hK w (hA.1) (hA.2.2.1) rfl)) rfl rfl hl.1 rfl (lv_room (Nat.le_of_ble_eq_true rfl)) dX6_read_30 ⟨(Nat.le_of_ble_eq_true rfl), (Nat.le_of_ble_eq_true rfl)⟩
        · exact va_runU (As := [.int i]) (rest := []) ⟨hx, hb, hml, hown, hts⟩ (kX5_told l G hA i hi H.size) (va_cwA 1 hts gX6_read_X5_told_u73X5 rfl rfl rfl hK.2.1.2.1 (by decide +kernel) ⟨(Nat.le_of_ble_eq_true rfl), (Nat.le_of_ble_eq_true rfl)⟩) (zPV w hK (px_recv (ci := 4) (fs := [.ref (vB f (zA car d t))]) (r := (RX5, TX5, 1)) hK w (hA.1) (hA.2.2.1) rfl)) rfl rfl hl.1 rfl (lv_room (Nat.le_of_ble_eq_true rfl)) dX6_read_30 ⟨(Nat.le_of_ble_eq_true rfl), (Nat.le_of_ble_eq_true rfl)⟩
        · exact va_runU (As := [.int i]) (rest := []) ⟨hx, hb, hml, hown, hts⟩ (kX0_told l G hA i hi H.size) (va_cwA 1 hts gX6_read_X0_told_u73X0 rfl rfl rfl hK.2.1.2.1 (by decide +kernel) ⟨(Nat.le_of_ble_eq_true rfl), (Nat.le_of_ble_eq_true rfl)⟩) (zPV w hK (px_recv (ci := 0) (fs := [.ref (vB f (zA car d t))]) (r := (RX0, TX0, 1)) hK w (hA.1) (hA.2.2.1) rfl)) rfl rfl hl.1 rfl (lv_room (Nat.le_of_ble_eq_true rfl)) dX6_read_30 ⟨(Nat.le_of_ble_eq_true rfl), (Nat.le_of_ble_eq_true rfl)⟩
        · exact va_runU (As := [.int i]) (rest := []) ⟨hx, hb, hml, hown, hts⟩ (kX1_told l G hA i hi H.size) (va_cwA 1 hts gX6_read_X1_told_u73X1 rfl rfl rfl hK.2.1.2.1 (by decide +kernel) ⟨(Nat.le_of_ble_eq_true rfl), (Nat.le_of_ble_eq_true rfl)⟩) (zPV w hK (px_recv (ci := 1) (fs := [.ref (vB f (zA car d t))]) (r := (RX1, TX1, 1)) hK w (hA.1) (hA.2.2.1) rfl)) rfl rfl hl.1 rfl (lv_room (Nat.le_of_ble_eq_true rfl)) dX6_read_30 ⟨(Nat.le_of_ble_eq_true rfl), (Nat.le_of_ble_eq_true rfl)⟩) (fun r_4 u H locs hq w => ?_)
    obtain ⟨rfl, e_r⟩ := hq
    subst e_r
    refine lv_i2l hx hb dX6_read_33 rfl ?_
    exact zRl hx hb hr hlk w dX6_read_34 (Nat.le_of_ble_eq_true rfl) (Nat.le_of_ble_eq_true rfl) (by show (if _ then _ else _); (first | rw [if_pos p_f] | rw [if_neg p_f]); (first | exact ⟨rfl, rfl⟩ | exact ⟨rfl, by rw [hsN]⟩))
  · have p_f := zcmp1 c_2
    refine lv_aload_n hx hb dX6_read_16 rfl (lv_at hl 1 rfl) ?_
    refine lv_lload hx hb dX6_read_17 (lv_at hl 0 rfl) ?_
    refine zCl w (va_runV (As := [.long (zPF f car d t i)]) (rest := []) ⟨hx, hb, hml, hown, hts⟩ (kX6_refuse l G h (zPF f car d t i) (zPF_why p_f) H.size) (cwV 1 hts gX6_read_X6_refuse rfl rfl rfl (by decide +kernel) ⟨(Nat.le_of_ble_eq_true rfl), (Nat.le_of_ble_eq_true rfl)⟩) (zPV w hK (px_recv (r := (RX6, TX6, 4)) hK w mo fo rfl)) rfl rfl hl.1 rfl (lv_room (Nat.le_of_ble_eq_true rfl)) dX6_read_19 ⟨(Nat.le_of_ble_eq_true rfl), (Nat.le_of_ble_eq_true rfl)⟩) (fun r_5 u H locs hq w => ?_)
    obtain ⟨rfl, e_r⟩ := hq
    subst e_r
    exact zRl hx hb hr hlk w dX6_read_22 (Nat.le_of_ble_eq_true rfl) (Nat.le_of_ble_eq_true rfl) (by show (if _ then _ else _); (first | rw [if_pos p_f] | rw [if_neg p_f]); (first | exact ⟨rfl, rfl⟩ | exact ⟨rfl, by rw [hsN]⟩))
set_option maxHeartbeats 4000000 in
set_option maxRecDepth 100000 in
theorem kX6_write (l : Launch) (G : zG) {L : List Nat} {f : Nat → va_E} {o ac aw ar : Nat} {ch : Option Nat} {car wa : Nat → Option Nat} {ta : Nat → Int32} (h : zBn G L f o ac aw ar ch car wa ta) (hct : zCT G L f car) (hwt : zWT G L f wa) (d t i x : Int32) (sz : Nat) : zMl l yX6_write wsX6_write { frames := 3, cells := 0, slots := 0, locals := 69 } G [.ref o, .int d, .int t, .int i, .int x] (va_pl L f) sz (fun r u => if zPF f car d t i = 0 then (u = zPutW G L f (zS t) (zA car d t) (zPuI (zS t) (vI f (zA car d t)) i.toNatClampNeg x) (zPuF (zS t) (vF f (zA car d t)) i.toNatClampNeg (zEi x)) ∧ r = (zTold (zS t) (zPuI (zS t) (vI f (zA car d t)) i.toNatClampNeg x) (zPuF (zS t) (vF f (zA car d t)) i.toNatClampNeg (zEi x)) i.toNatClampNeg).toInt64) else zRefP G L f ar ta (zPF f car d t i) r u) 0 0 := by
  refine zIn (Qc := fun A => va_Ql _ (zB G A) A) (cc := cX6_write) (maxL := 8) (ret := (some .long)) (by decide) rfl (Nat.le_of_ble_eq_true rfl) ?_
  intro p e s m below meth c A ls hx hb hr hlk hml hts hown hnm hK w hl
  have hown : s.vm.findClass RX6 = some m.cls := hown
  have hl : lv_has ls 8 [(0, .ref o), (1, .int d), (2, .int t), (3, .int i), (4, .int x)] := hl
  obtain ⟨⟨mo, mc, mw, mr⟩, fo, fc, fw, fr⟩ := id h
  refine lv_aload_n hx hb dX6_write_0 rfl (lv_at hl 0 rfl) ?_
  refine lv_iload_n hx hb dX6_write_1 rfl (lv_at hl 1 rfl) ?_
  refine lv_iload_n hx hb dX6_write_2 rfl (lv_at hl 2 rfl) ?_
  refine lv_iload_n hx hb dX6_write_3 rfl (lv_at hl 3 rfl) ?_
  refine zCl w (va_runV (As := [.int d, .int t, .int i]) (rest := []) ⟨hx, hb, hml, hown, hts⟩ (kX6_placeFault l G h hct d t i s.heap.size) (cwV 3 hts gX6_write_X6_placeFault rfl rfl rfl (by decide +kernel) ⟨(Nat.le_of_ble_eq_true rfl), (Nat.le_of_ble_eq_true rfl)⟩) (zPV w hK (px_recv (r := (RX6, TX6, 4)) hK w mo fo rfl)) rfl rfl hl.1 rfl (lv_room (Nat.le_of_ble_eq_true rfl)) dX6_write_4 ⟨(Nat.le_of_ble_eq_true rfl), (Nat.le_of_ble_eq_true rfl)⟩) (fun r_1 u H locs hq w => ?_)
  obtain ⟨rfl, e_r⟩ := hq
  subst e_r
  refine lv_lstore (lv' := [(5, .long (zPF f car d t i)), (0, .ref o), (1, .int d), (2, .int t), (3, .int i), (4, .int x)]) hx hb dX6_write_7 hl (by decide) rfl (fun ls hl => ?_)
  refine lv_lload hx hb dX6_write_9 (lv_at hl 0 rfl) ?_
  refine lv_lconst (v := 0) hx hb dX6_write_11 (by decide) ?_
  refine W.lcmp hx hb dX6_write_12 ?_
  refine lv_if_eq (tgt := 23) hx hb dX6_write_13 (by decide) (fun c_2 => ?_) (fun c_2 => ?_)
  · have p_f := zcmp0 c_2
    obtain ⟨p_0, hh⟩ := zPF_0 p_f
    obtain ⟨hd, ht, hca⟩ := zRF_0 p_0
    have hA := zCT_at hct p_0
    obtain ⟨sN, hsN⟩ : ∃ sN, sN = zS t := ⟨_, rfl⟩
    rw [← hsN] at hA
    have hs : sN = 0 ∨ sN = 1 ∨ sN = 2 ∨ sN = 3 := by rw [hsN]; exact zS_or ht
    unfold zRA at hA
    have hi := zin40 hh hA.2.2.2.2.1
    refine lv_aload_n hx hb dX6_write_23 rfl (lv_at hl 1 rfl) ?_
    refine lv_iload_n hx hb dX6_write_24 rfl (lv_at hl 2 rfl) ?_
    refine lv_iload_n hx hb dX6_write_25 rfl (lv_at hl 3 rfl) ?_
    refine zCq w (va_runV (As := [.int d, .int t]) (rest := []) ⟨hx, hb, hml, hown, hts⟩ (kX6_reelOn l G h d t hd ht H.size) (cwV 2 hts gX6_write_X6_reelOn rfl rfl rfl (by decide +kernel) ⟨(Nat.le_of_ble_eq_true rfl), (Nat.le_of_ble_eq_true rfl)⟩) (zPV w hK (px_recv (r := (RX6, TX6, 4)) hK w mo fo rfl)) rfl rfl hl.1 rfl (lv_room (Nat.le_of_ble_eq_true rfl)) dX6_write_26 ⟨(Nat.le_of_ble_eq_true rfl), (Nat.le_of_ble_eq_true rfl)⟩) (fun r_3 u H locs hq w => ?_)
    obtain ⟨rfl, e_r⟩ := hq
    subst e_r
    rw [hca]
    refine lv_astore (lv' := [(7, .ref (zA car d t)), (5, .long (zPF f car d t i)), (0, .ref o), (1, .int d), (2, .int t), (3, .int i), (4, .int x)]) hx hb dX6_write_29 hl (by decide) rfl (fun ls hl => ?_)
    refine lv_aload hx hb dX6_write_31 (lv_at hl 0 rfl) ?_
    refine lv_iload_n hx hb dX6_write_33 rfl (lv_at hl 5 rfl) ?_
    refine lv_iload hx hb dX6_write_34 (lv_at hl 6 rfl) ?_
    refine zCv (post := fun u => u = zPutW G L f sN (zA car d t) (zPuI sN (vI f (zA car d t)) i.toNatClampNeg x) (zPuF sN (vF f (zA car d t)) i.toNatClampNeg (zEi x))) (mc := 0) (ms := 0) (rest := []) (av := (Value.ref (zA car d t) :: [.int i, .int x]).toArray) w (by
        rcases hs with rfl | rfl | rfl | rfl
        · exact va_runU (As := [.int i, .int x]) (rest := []) ⟨hx, hb, hml, hown, hts⟩ (kX2_put l G hA i x hi H.size) (va_cwA 2 hts gX6_write_X2_put_u77X2 rfl rfl rfl hK.2.1.2.2 (by decide +kernel) ⟨(Nat.le_of_ble_eq_true rfl), (Nat.le_of_ble_eq_true rfl)⟩) (zPV w hK (px_recv (ci := 2) (fs := [.ref (vB f (zA car d t))]) (r := (RX2, TX2, 1)) hK w (hA.1) (hA.2.2.1) rfl)) rfl rfl hl.1 rfl (lv_room (Nat.le_of_ble_eq_true rfl)) dX6_write_36 ⟨(Nat.le_of_ble_eq_true rfl), (Nat.le_of_ble_eq_true rfl)⟩
        · exact va_runU (As := [.int i, .int x]) (rest := []) ⟨hx, hb, hml, hown, hts⟩ (kX5_put l G hA i x hi H.size) (va_cwA 2 hts gX6_write_X5_put_u77X5 rfl rfl rfl hK.2.1.2.2 (by decide +kernel) ⟨(Nat.le_of_ble_eq_true rfl), (Nat.le_of_ble_eq_true rfl)⟩) (zPV w hK (px_recv (ci := 4) (fs := [.ref (vB f (zA car d t))]) (r := (RX5, TX5, 1)) hK w (hA.1) (hA.2.2.1) rfl)) rfl rfl hl.1 rfl (lv_room (Nat.le_of_ble_eq_true rfl)) dX6_write_36 ⟨(Nat.le_of_ble_eq_true rfl), (Nat.le_of_ble_eq_true rfl)⟩
        · exact va_runU (As := [.int i, .int x]) (rest := []) ⟨hx, hb, hml, hown, hts⟩ (kX0_put l G hA i x hi H.size) (va_cwA 2 hts gX6_write_X0_put_u77X0 rfl rfl rfl hK.2.1.2.2 (by decide +kernel) ⟨(Nat.le_of_ble_eq_true rfl), (Nat.le_of_ble_eq_true rfl)⟩) (zPV w hK (px_recv (ci := 0) (fs := [.ref (vB f (zA car d t))]) (r := (RX0, TX0, 1)) hK w (hA.1) (hA.2.2.1) rfl)) rfl rfl hl.1 rfl (lv_room (Nat.le_of_ble_eq_true rfl)) dX6_write_36 ⟨(Nat.le_of_ble_eq_true rfl), (Nat.le_of_ble_eq_true rfl)⟩
        · exact va_runU (As := [.int i, .int x]) (rest := []) ⟨hx, hb, hml, hown, hts⟩ (kX1_put l G hA i x hi H.size) (va_cwA 2 hts gX6_write_X1_put_u77X1 rfl rfl rfl hK.2.1.2.2 (by decide +kernel) ⟨(Nat.le_of_ble_eq_true rfl), (Nat.le_of_ble_eq_true rfl)⟩) (zPV w hK (px_recv (ci := 1) (fs := [.ref (vB f (zA car d t))]) (r := (RX1, TX1, 1)) hK w (hA.1) (hA.2.2.1) rfl)) rfl rfl hl.1 rfl (lv_room (Nat.le_of_ble_eq_true rfl)) dX6_write_36 ⟨(Nat.le_of_ble_eq_true rfl), (Nat.le_of_ble_eq_true rfl)⟩) (fun u H locs hq w => ?_)
    subst hq
    have hA2 := zRe_up (gi2 := zPuI sN (vI f (zA car d t)) i.toNatClampNeg x) (gf2 := zPuF sN (vF f (zA car d t)) i.toNatClampNeg (zEi x)) hA (zPuF_fin hA (zn32 (zEi_fin x).notNaN))
    refine lv_aload hx hb dX6_write_39 (lv_at hl 0 rfl) ?_
    refine lv_iload_n hx hb dX6_write_41 rfl (lv_at hl 5 rfl) ?_
    refine zCi (post := fun r u => u = zPutW G L f sN (zA car d t) (zPuI sN (vI f (zA car d t)) i.toNatClampNeg x) (zPuF sN (vF f (zA car d t)) i.toNatClampNeg (zEi x)) ∧ r = zTold sN (zPuI sN (vI f (zA car d t)) i.toNatClampNeg x) (zPuF sN (vF f (zA car d t)) i.toNatClampNeg (zEi x)) i.toNatClampNeg) (mc := 0) (ms := 0) (rest := []) (av := (Value.ref (zA car d t) :: [.int i]).toArray) w (by
        rcases hs with rfl | rfl | rfl | rfl
        · exact va_runU (As := [.int i]) (rest := []) ⟨hx, hb, hml, hown, hts⟩ (kX2_told l G hA2 i hi H.size) (va_cwA 1 hts gX6_write_X2_told_u73X2 rfl rfl rfl hK.2.1.2.1 (by decide +kernel) ⟨(Nat.le_of_ble_eq_true rfl), (Nat.le_of_ble_eq_true rfl)⟩) (zPV w hK (px_recv (ci := 2) (fs := [.ref (vB f (zA car d t))]) (r := (RX2, TX2, 1)) hK w (hA2.1) (hA2.2.2.1) rfl)) rfl rfl hl.1 rfl (lv_room (Nat.le_of_ble_eq_true rfl)) dX6_write_42 ⟨(Nat.le_of_ble_eq_true rfl), (Nat.le_of_ble_eq_true rfl)⟩
        · exact va_runU (As := [.int i]) (rest := []) ⟨hx, hb, hml, hown, hts⟩ (kX5_told l G hA2 i hi H.size) (va_cwA 1 hts gX6_write_X5_told_u73X5 rfl rfl rfl hK.2.1.2.1 (by decide +kernel) ⟨(Nat.le_of_ble_eq_true rfl), (Nat.le_of_ble_eq_true rfl)⟩) (zPV w hK (px_recv (ci := 4) (fs := [.ref (vB f (zA car d t))]) (r := (RX5, TX5, 1)) hK w (hA2.1) (hA2.2.2.1) rfl)) rfl rfl hl.1 rfl (lv_room (Nat.le_of_ble_eq_true rfl)) dX6_write_42 ⟨(Nat.le_of_ble_eq_true rfl), (Nat.le_of_ble_eq_true rfl)⟩
        · exact va_runU (As := [.int i]) (rest := []) ⟨hx, hb, hml, hown, hts⟩ (kX0_told l G hA2 i hi H.size) (va_cwA 1 hts gX6_write_X0_told_u73X0 rfl rfl rfl hK.2.1.2.1 (by decide +kernel) ⟨(Nat.le_of_ble_eq_true rfl), (Nat.le_of_ble_eq_true rfl)⟩) (zPV w hK (px_recv (ci := 0) (fs := [.ref (vB f (zA car d t))]) (r := (RX0, TX0, 1)) hK w (hA2.1) (hA2.2.2.1) rfl)) rfl rfl hl.1 rfl (lv_room (Nat.le_of_ble_eq_true rfl)) dX6_write_42 ⟨(Nat.le_of_ble_eq_true rfl), (Nat.le_of_ble_eq_true rfl)⟩
        · exact va_runU (As := [.int i]) (rest := []) ⟨hx, hb, hml, hown, hts⟩ (kX1_told l G hA2 i hi H.size) (va_cwA 1 hts gX6_write_X1_told_u73X1 rfl rfl rfl hK.2.1.2.1 (by decide +kernel) ⟨(Nat.le_of_ble_eq_true rfl), (Nat.le_of_ble_eq_true rfl)⟩) (zPV w hK (px_recv (ci := 1) (fs := [.ref (vB f (zA car d t))]) (r := (RX1, TX1, 1)) hK w (hA2.1) (hA2.2.2.1) rfl)) rfl rfl hl.1 rfl (lv_room (Nat.le_of_ble_eq_true rfl)) dX6_write_42 ⟨(Nat.le_of_ble_eq_true rfl), (Nat.le_of_ble_eq_true rfl)⟩) (fun r_4 u H locs hq w => ?_)
    obtain ⟨rfl, e_r⟩ := hq
    subst e_r
    refine lv_i2l hx hb dX6_write_45 rfl ?_
    exact zRl hx hb hr hlk w dX6_write_46 (Nat.le_of_ble_eq_true rfl) (Nat.le_of_ble_eq_true rfl) (by show (if _ then _ else _); (first | rw [if_pos p_f] | rw [if_neg p_f]); (first | exact ⟨rfl, rfl⟩ | (rw [← hsN]; exact ⟨rfl, rfl⟩)))
  · have p_f := zcmp1 c_2
    refine lv_aload_n hx hb dX6_write_16 rfl (lv_at hl 1 rfl) ?_
    refine lv_lload hx hb dX6_write_17 (lv_at hl 0 rfl) ?_
    refine zCl w (va_runV (As := [.long (zPF f car d t i)]) (rest := []) ⟨hx, hb, hml, hown, hts⟩ (kX6_refuse l G h (zPF f car d t i) (zPF_why p_f) H.size) (cwV 1 hts gX6_write_X6_refuse rfl rfl rfl (by decide +kernel) ⟨(Nat.le_of_ble_eq_true rfl), (Nat.le_of_ble_eq_true rfl)⟩) (zPV w hK (px_recv (r := (RX6, TX6, 4)) hK w mo fo rfl)) rfl rfl hl.1 rfl (lv_room (Nat.le_of_ble_eq_true rfl)) dX6_write_19 ⟨(Nat.le_of_ble_eq_true rfl), (Nat.le_of_ble_eq_true rfl)⟩) (fun r_5 u H locs hq w => ?_)
    obtain ⟨rfl, e_r⟩ := hq
    subst e_r
    exact zRl hx hb hr hlk w dX6_write_22 (Nat.le_of_ble_eq_true rfl) (Nat.le_of_ble_eq_true rfl) (by show (if _ then _ else _); (first | rw [if_pos p_f] | rw [if_neg p_f]); (first | exact ⟨rfl, rfl⟩ | (rw [← hsN]; exact ⟨rfl, rfl⟩)))
set_option maxHeartbeats 4000000 in
set_option maxRecDepth 100000 in
theorem kX6_nudge (l : Launch) (G : zG) {L : List Nat} {f : Nat → va_E} {o ac aw ar : Nat} {ch : Option Nat} {car wa : Nat → Option Nat} {ta : Nat → Int32} (h : zBn G L f o ac aw ar ch car wa ta) (hct : zCT G L f car) (hwt : zWT G L f wa) (d t i how x : Int32) (sz : Nat) : zMl l yX6_nudge wsX6_nudge { frames := 3, cells := 0, slots := 0, locals := 69 } G [.ref o, .int d, .int t, .int i, .int how, .int x] (va_pl L f) sz (fun r u => if zKnow t how then (if zPF f car d t i = 0 then (if how = 3 ∧ x = 0 then zRefP G L f ar ta zDIVIDED r u else (u = zPutW G L f (zS t) (zA car d t) (zChI (zS t) (vI f (zA car d t)) (vF f (zA car d t)) i.toNatClampNeg how x) (zChF (zS t) (vF f (zA car d t)) i.toNatClampNeg how x) ∧ r = (zTold (zS t) (zChI (zS t) (vI f (zA car d t)) (vF f (zA car d t)) i.toNatClampNeg how x) (zChF (zS t) (vF f (zA car d t)) i.toNatClampNeg how x) i.toNatClampNeg).toInt64)) else zRefP G L f ar ta (zPF f car d t i) r u) else zRefP G L f ar ta zNONE r u) 0 0 := by
  refine zIn (Qc := fun A => va_Ql _ (zB G A) A) (cc := cX6_nudge) (maxL := 9) (ret := (some .long)) (by decide) rfl (Nat.le_of_ble_eq_true rfl) ?_
  intro p e s m below meth c A ls hx hb hr hlk hml hts hown hnm hK w hl
  have hown : s.vm.findClass RX6 = some m.cls := hown
  have hl : lv_has ls 9 [(0, .ref o), (1, .int d), (2, .int t), (3, .int i), (4, .int how), (5, .int x)] := hl
  obtain ⟨⟨mo, mc, mw, mr⟩, fo, fc, fw, fr⟩ := id h
  refine lv_iload_n hx hb dX6_nudge_0 rfl (lv_at hl 2 rfl) ?_
  refine lv_iload hx hb dX6_nudge_1 (lv_at hl 4 rfl) ?_
  refine zCi w (va_runS (As := [.int t, .int how]) (rest := []) ⟨hx, hb, hml, hown, hts⟩ (kX6_knowsHow l G _ t how s.heap.size) (va_cwS 2 hts gX6_nudge_X6_knowsHow rfl rfl rfl (by decide +kernel) ⟨(Nat.le_of_ble_eq_true rfl), (Nat.le_of_ble_eq_true rfl)⟩) (zPS w hK) rfl rfl hl.1 rfl (lv_room (Nat.le_of_ble_eq_true rfl)) dX6_nudge_3 ⟨(Nat.le_of_ble_eq_true rfl), (Nat.le_of_ble_eq_true rfl)⟩) (fun r_1 u H locs hq w => ?_)
  obtain ⟨rfl, e_r_1⟩ := hq
  refine lv_if_ne (tgt := 17) hx hb dX6_nudge_6 (by decide) (fun c_2 => ?_) (fun c_2 => ?_)
  · have p_k := z01 inferInstance e_r_1 c_2
    refine lv_aload_n hx hb dX6_nudge_17 rfl (lv_at hl 0 rfl) ?_
    refine lv_iload_n hx hb dX6_nudge_18 rfl (lv_at hl 1 rfl) ?_
    refine lv_iload_n hx hb dX6_nudge_19 rfl (lv_at hl 2 rfl) ?_
    refine lv_iload_n hx hb dX6_nudge_20 rfl (lv_at hl 3 rfl) ?_
    refine zCl w (va_runV (As := [.int d, .int t, .int i]) (rest := []) ⟨hx, hb, hml, hown, hts⟩ (kX6_placeFault l G h hct d t i H.size) (cwV 3 hts gX6_nudge_X6_placeFault rfl rfl rfl (by decide +kernel) ⟨(Nat.le_of_ble_eq_true rfl), (Nat.le_of_ble_eq_true rfl)⟩) (zPV w hK (px_recv (r := (RX6, TX6, 4)) hK w mo fo rfl)) rfl rfl hl.1 rfl (lv_room (Nat.le_of_ble_eq_true rfl)) dX6_nudge_21 ⟨(Nat.le_of_ble_eq_true rfl), (Nat.le_of_ble_eq_true rfl)⟩) (fun r_3 u H locs hq w => ?_)
    obtain ⟨rfl, e_r⟩ := hq
    subst e_r
    refine lv_lstore (lv' := [(6, .long (zPF f car d t i)), (0, .ref o), (1, .int d), (2, .int t), (3, .int i), (4, .int how), (5, .int x)]) hx hb dX6_nudge_24 hl (by decide) rfl (fun ls hl => ?_)
    refine lv_lload hx hb dX6_nudge_26 (lv_at hl 0 rfl) ?_
    refine lv_lconst (v := 0) hx hb dX6_nudge_28 (by decide) ?_
    refine W.lcmp hx hb dX6_nudge_29 ?_
    refine lv_if_eq (tgt := 40) hx hb dX6_nudge_30 (by decide) (fun c_4 => ?_) (fun c_4 => ?_)
    · have p_f := zcmp0 c_4
      obtain ⟨p_0, hh⟩ := zPF_0 p_f
      obtain ⟨hd, ht, hca⟩ := zRF_0 p_0
      have hA := zCT_at hct p_0
      obtain ⟨sN, hsN⟩ : ∃ sN, sN = zS t := ⟨_, rfl⟩
      rw [← hsN] at hA
      have hs : sN = 0 ∨ sN = 1 ∨ sN = 2 ∨ sN = 3 := by rw [hsN]; exact zS_or ht
      unfold zRA at hA
      have hi := zin40 hh hA.2.2.2.2.1
      refine lv_iload hx hb dX6_nudge_40 (lv_at hl 5 rfl) ?_
      refine lv_iconst (v := 3) hx hb dX6_nudge_42 (by decide) ?_
      refine lv_icmp_ne (tgt := 59) hx hb dX6_nudge_43 (by decide) (fun c_5 => ?_) (fun c_5 => ?_)
      · have p_v : ¬ (how = 3 ∧ x = 0) := fun q => c_5 q.1
        refine lv_aload_n hx hb dX6_nudge_59 rfl (lv_at hl 1 rfl) ?_
        refine lv_iload_n hx hb dX6_nudge_60 rfl (lv_at hl 2 rfl) ?_
        refine lv_iload_n hx hb dX6_nudge_61 rfl (lv_at hl 3 rfl) ?_
        refine zCq w (va_runV (As := [.int d, .int t]) (rest := []) ⟨hx, hb, hml, hown, hts⟩ (kX6_reelOn l G h d t hd ht H.size) (cwV 2 hts gX6_nudge_X6_reelOn rfl rfl rfl (by decide +kernel) ⟨(Nat.le_of_ble_eq_true rfl), (Nat.le_of_ble_eq_true rfl)⟩) (zPV w hK (px_recv (r := (RX6, TX6, 4)) hK w mo fo rfl)) rfl rfl hl.1 rfl (lv_room (Nat.le_of_ble_eq_true rfl)) dX6_nudge_62 ⟨(Nat.le_of_ble_eq_true rfl), (Nat.le_of_ble_eq_true rfl)⟩) (fun r_6 u H locs hq w => ?_)
        obtain ⟨rfl, e_r⟩ := hq
        subst e_r
        rw [hca]
        refine lv_astore (lv' := [(8, .ref (zA car d t)), (6, .long (zPF f car d t i)), (0, .ref o), (1, .int d), (2, .int t), (3, .int i), (4, .int how), (5, .int x)]) hx hb dX6_nudge_65 hl (by decide) rfl (fun ls hl => ?_)
        refine lv_aload hx hb dX6_nudge_67 (lv_at hl 0 rfl) ?_
        refine lv_iload_n hx hb dX6_nudge_69 rfl (lv_at hl 5 rfl) ?_
        refine lv_iload hx hb dX6_nudge_70 (lv_at hl 6 rfl) ?_
        refine lv_iload hx hb dX6_nudge_72 (lv_at hl 7 rfl) ?_
        refine zCv (post := fun u => u = zPutW G L f sN (zA car d t) (zChI sN (vI f (zA car d t)) (vF f (zA car d t)) i.toNatClampNeg how x) (zChF sN (vF f (zA car d t)) i.toNatClampNeg how x)) (mc := 0) (ms := 0) (rest := []) (av := (Value.ref (zA car d t) :: [.int i, .int how, .int x]).toArray) w (by
            rcases hs with rfl | rfl | rfl | rfl
            · exact va_runU (As := [.int i, .int how, .int x]) (rest := []) ⟨hx, hb, hml, hown, hts⟩ (kX3_change l G (by omega) hA i how x hi p_v H.size) (va_cwU 3 hts gX6_nudge_X3_change_u87X2 rfl rfl rfl rfl (by decide +kernel) ⟨(Nat.le_of_ble_eq_true rfl), (Nat.le_of_ble_eq_true rfl)⟩) (zPV w hK (px_recv (ci := 2) (fs := [.ref (vB f (zA car d t))]) (r := (RX2, TX2, 1)) hK w (hA.1) (hA.2.2.1) rfl)) rfl rfl hl.1 rfl (lv_room (Nat.le_of_ble_eq_true rfl)) dX6_nudge_74 ⟨(Nat.le_of_ble_eq_true rfl), (Nat.le_of_ble_eq_true rfl)⟩
            · exact va_runU (As := [.int i, .int how, .int x]) (rest := []) ⟨hx, hb, hml, hown, hts⟩ (kX3_change l G (by omega) hA i how x hi p_v H.size) (va_cwU 3 hts gX6_nudge_X3_change_u87X5 rfl rfl rfl rfl (by decide +kernel) ⟨(Nat.le_of_ble_eq_true rfl), (Nat.le_of_ble_eq_true rfl)⟩) (zPV w hK (px_recv (ci := 4) (fs := [.ref (vB f (zA car d t))]) (r := (RX5, TX5, 1)) hK w (hA.1) (hA.2.2.1) rfl)) rfl rfl hl.1 rfl (lv_room (Nat.le_of_ble_eq_true rfl)) dX6_nudge_74 ⟨(Nat.le_of_ble_eq_true rfl), (Nat.le_of_ble_eq_true rfl)⟩
            · exact va_runU (As := [.int i, .int how, .int x]) (rest := []) ⟨hx, hb, hml, hown, hts⟩ (kX0_change l G hA i how x hi H.size) (va_cwO 3 hts gX6_nudge_X0_change_u87X0 rfl rfl rfl (b0 := cX3_change) (m0 := 4) (r0 := none) (by decide +kernel) (by decide +kernel) ⟨(Nat.le_of_ble_eq_true rfl), (Nat.le_of_ble_eq_true rfl)⟩) (zPV w hK (px_recv (ci := 0) (fs := [.ref (vB f (zA car d t))]) (r := (RX0, TX0, 1)) hK w (hA.1) (hA.2.2.1) rfl)) rfl rfl hl.1 rfl (lv_room (Nat.le_of_ble_eq_true rfl)) dX6_nudge_74 ⟨(Nat.le_of_ble_eq_true rfl), (Nat.le_of_ble_eq_true rfl)⟩
            · exact va_runU (As := [.int i, .int how, .int x]) (rest := []) ⟨hx, hb, hml, hown, hts⟩ (kX3_change l G (by omega) hA i how x hi p_v H.size) (va_cwU 3 hts gX6_nudge_X3_change_u87X1 rfl rfl rfl rfl (by decide +kernel) ⟨(Nat.le_of_ble_eq_true rfl), (Nat.le_of_ble_eq_true rfl)⟩) (zPV w hK (px_recv (ci := 1) (fs := [.ref (vB f (zA car d t))]) (r := (RX1, TX1, 1)) hK w (hA.1) (hA.2.2.1) rfl)) rfl rfl hl.1 rfl (lv_room (Nat.le_of_ble_eq_true rfl)) dX6_nudge_74 ⟨(Nat.le_of_ble_eq_true rfl), (Nat.le_of_ble_eq_true rfl)⟩) (fun u H locs hq w => ?_)
        subst hq
        have hA2 := zRe_up (gi2 := zChI sN (vI f (zA car d t)) (vF f (zA car d t)) i.toNatClampNeg how x) (gf2 := zChF sN (vF f (zA car d t)) i.toNatClampNeg how x) hA (zChF_fin hA (zin_lt hi))
        refine lv_aload hx hb dX6_nudge_77 (lv_at hl 0 rfl) ?_
        refine lv_iload_n hx hb dX6_nudge_79 rfl (lv_at hl 5 rfl) ?_
        refine zCi (post := fun r u => u = zPutW G L f sN (zA car d t) (zChI sN (vI f (zA car d t)) (vF f (zA car d t)) i.toNatClampNeg how x) (zChF sN (vF f (zA car d t)) i.toNatClampNeg how x) ∧ r = zTold sN (zChI sN (vI f (zA car d t)) (vF f (zA car d t)) i.toNatClampNeg how x) (zChF sN (vF f (zA car d t)) i.toNatClampNeg how x) i.toNatClampNeg) (mc := 0) (ms := 0) (rest := []) (av := (Value.ref (zA car d t) :: [.int i]).toArray) w (by
            rcases hs with rfl | rfl | rfl | rfl
            · exact va_runU (As := [.int i]) (rest := []) ⟨hx, hb, hml, hown, hts⟩ (kX2_told l G hA2 i hi H.size) (va_cwA 1 hts gX6_nudge_X2_told_u73X2 rfl rfl rfl hK.2.1.2.1 (by decide +kernel) ⟨(Nat.le_of_ble_eq_true rfl), (Nat.le_of_ble_eq_true rfl)⟩) (zPV w hK (px_recv (ci := 2) (fs := [.ref (vB f (zA car d t))]) (r := (RX2, TX2, 1)) hK w (hA2.1) (hA2.2.2.1) rfl)) rfl rfl hl.1 rfl (lv_room (Nat.le_of_ble_eq_true rfl)) dX6_nudge_80 ⟨(Nat.le_of_ble_eq_true rfl), (Nat.le_of_ble_eq_true rfl)⟩
            · exact va_runU (As := [.int i]) (rest := []) ⟨hx, hb, hml, hown, hts⟩ (kX5_told l G hA2 i hi H.size) (va_cwA 1 hts gX6_nudge_X5_told_u73X5 rfl rfl rfl hK.2.1.2.1 (by decide +kernel) ⟨(Nat.le_of_ble_eq_true rfl), (Nat.le_of_ble_eq_true rfl)⟩) (zPV w hK (px_recv (ci := 4) (fs := [.ref (vB f (zA car d t))]) (r := (RX5, TX5, 1)) hK w (hA2.1) (hA2.2.2.1) rfl)) rfl rfl hl.1 rfl (lv_room (Nat.le_of_ble_eq_true rfl)) dX6_nudge_80 ⟨(Nat.le_of_ble_eq_true rfl), (Nat.le_of_ble_eq_true rfl)⟩
            · exact va_runU (As := [.int i]) (rest := []) ⟨hx, hb, hml, hown, hts⟩ (kX0_told l G hA2 i hi H.size) (va_cwA 1 hts gX6_nudge_X0_told_u73X0 rfl rfl rfl hK.2.1.2.1 (by decide +kernel) ⟨(Nat.le_of_ble_eq_true rfl), (Nat.le_of_ble_eq_true rfl)⟩) (zPV w hK (px_recv (ci := 0) (fs := [.ref (vB f (zA car d t))]) (r := (RX0, TX0, 1)) hK w (hA2.1) (hA2.2.2.1) rfl)) rfl rfl hl.1 rfl (lv_room (Nat.le_of_ble_eq_true rfl)) dX6_nudge_80 ⟨(Nat.le_of_ble_eq_true rfl), (Nat.le_of_ble_eq_true rfl)⟩
            · exact va_runU (As := [.int i]) (rest := []) ⟨hx, hb, hml, hown, hts⟩ (kX1_told l G hA2 i hi H.size) (va_cwA 1 hts gX6_nudge_X1_told_u73X1 rfl rfl rfl hK.2.1.2.1 (by decide +kernel) ⟨(Nat.le_of_ble_eq_true rfl), (Nat.le_of_ble_eq_true rfl)⟩) (zPV w hK (px_recv (ci := 1) (fs := [.ref (vB f (zA car d t))]) (r := (RX1, TX1, 1)) hK w (hA2.1) (hA2.2.2.1) rfl)) rfl rfl hl.1 rfl (lv_room (Nat.le_of_ble_eq_true rfl)) dX6_nudge_80 ⟨(Nat.le_of_ble_eq_true rfl), (Nat.le_of_ble_eq_true rfl)⟩) (fun r_7 u H locs hq w => ?_)
        obtain ⟨rfl, e_r⟩ := hq
        subst e_r
        refine lv_i2l hx hb dX6_nudge_83 rfl ?_
        exact zRl hx hb hr hlk w dX6_nudge_84 (Nat.le_of_ble_eq_true rfl) (Nat.le_of_ble_eq_true rfl) (by show (if _ then _ else _); (first | rw [if_pos p_k] | rw [if_neg p_k]); (first | rw [if_pos p_f] | rw [if_neg p_f]); (first | rw [if_pos p_v] | rw [if_neg p_v]); (first | exact ⟨rfl, rfl⟩ | (rw [← hsN]; exact ⟨rfl, rfl⟩)))
      · have q_v := c_5
        refine lv_iload hx hb dX6_nudge_46 (lv_at hl 6 rfl) ?_
        refine lv_if_ne (tgt := 59) hx hb dX6_nudge_48 (by decide) (fun c_8 => ?_) (fun c_8 => ?_)
        · have p_v : ¬ (how = 3 ∧ x = 0) := fun q => c_8 q.2
          refine lv_aload_n hx hb dX6_nudge_59 rfl (lv_at hl 1 rfl) ?_
          refine lv_iload_n hx hb dX6_nudge_60 rfl (lv_at hl 2 rfl) ?_
          refine lv_iload_n hx hb dX6_nudge_61 rfl (lv_at hl 3 rfl) ?_
          refine zCq w (va_runV (As := [.int d, .int t]) (rest := []) ⟨hx, hb, hml, hown, hts⟩ (kX6_reelOn l G h d t hd ht H.size) (cwV 2 hts gX6_nudge_X6_reelOn rfl rfl rfl (by decide +kernel) ⟨(Nat.le_of_ble_eq_true rfl), (Nat.le_of_ble_eq_true rfl)⟩) (zPV w hK (px_recv (r := (RX6, TX6, 4)) hK w mo fo rfl)) rfl rfl hl.1 rfl (lv_room (Nat.le_of_ble_eq_true rfl)) dX6_nudge_62 ⟨(Nat.le_of_ble_eq_true rfl), (Nat.le_of_ble_eq_true rfl)⟩) (fun r_9 u H locs hq w => ?_)
          obtain ⟨rfl, e_r⟩ := hq
          subst e_r
          rw [hca]
          refine lv_astore (lv' := [(8, .ref (zA car d t)), (6, .long (zPF f car d t i)), (0, .ref o), (1, .int d), (2, .int t), (3, .int i), (4, .int how), (5, .int x)]) hx hb dX6_nudge_65 hl (by decide) rfl (fun ls hl => ?_)
          refine lv_aload hx hb dX6_nudge_67 (lv_at hl 0 rfl) ?_
          refine lv_iload_n hx hb dX6_nudge_69 rfl (lv_at hl 5 rfl) ?_
          refine lv_iload hx hb dX6_nudge_70 (lv_at hl 6 rfl) ?_
          refine lv_iload hx hb dX6_nudge_72 (lv_at hl 7 rfl) ?_
          refine zCv (post := fun u => u = zPutW G L f sN (zA car d t) (zChI sN (vI f (zA car d t)) (vF f (zA car d t)) i.toNatClampNeg how x) (zChF sN (vF f (zA car d t)) i.toNatClampNeg how x)) (mc := 0) (ms := 0) (rest := []) (av := (Value.ref (zA car d t) :: [.int i, .int how, .int x]).toArray) w (by
              rcases hs with rfl | rfl | rfl | rfl
              · exact va_runU (As := [.int i, .int how, .int x]) (rest := []) ⟨hx, hb, hml, hown, hts⟩ (kX3_change l G (by omega) hA i how x hi p_v H.size) (va_cwU 3 hts gX6_nudge_X3_change_u87X2 rfl rfl rfl rfl (by decide +kernel) ⟨(Nat.le_of_ble_eq_true rfl), (Nat.le_of_ble_eq_true rfl)⟩) (zPV w hK (px_recv (ci := 2) (fs := [.ref (vB f (zA car d t))]) (r := (RX2, TX2, 1)) hK w (hA.1) (hA.2.2.1) rfl)) rfl rfl hl.1 rfl (lv_room (Nat.le_of_ble_eq_true rfl)) dX6_nudge_74 ⟨(Nat.le_of_ble_eq_true rfl), (Nat.le_of_ble_eq_true rfl)⟩
              · exact va_runU (As := [.int i, .int how, .int x]) (rest := []) ⟨hx, hb, hml, hown, hts⟩ (kX3_change l G (by omega) hA i how x hi p_v H.size) (va_cwU 3 hts gX6_nudge_X3_change_u87X5 rfl rfl rfl rfl (by decide +kernel) ⟨(Nat.le_of_ble_eq_true rfl), (Nat.le_of_ble_eq_true rfl)⟩) (zPV w hK (px_recv (ci := 4) (fs := [.ref (vB f (zA car d t))]) (r := (RX5, TX5, 1)) hK w (hA.1) (hA.2.2.1) rfl)) rfl rfl hl.1 rfl (lv_room (Nat.le_of_ble_eq_true rfl)) dX6_nudge_74 ⟨(Nat.le_of_ble_eq_true rfl), (Nat.le_of_ble_eq_true rfl)⟩
              · exact va_runU (As := [.int i, .int how, .int x]) (rest := []) ⟨hx, hb, hml, hown, hts⟩ (kX0_change l G hA i how x hi H.size) (va_cwO 3 hts gX6_nudge_X0_change_u87X0 rfl rfl rfl (b0 := cX3_change) (m0 := 4) (r0 := none) (by decide +kernel) (by decide +kernel) ⟨(Nat.le_of_ble_eq_true rfl), (Nat.le_of_ble_eq_true rfl)⟩) (zPV w hK (px_recv (ci := 0) (fs := [.ref (vB f (zA car d t))]) (r := (RX0, TX0, 1)) hK w (hA.1) (hA.2.2.1) rfl)) rfl rfl hl.1 rfl (lv_room (Nat.le_of_ble_eq_true rfl)) dX6_nudge_74 ⟨(Nat.le_of_ble_eq_true rfl), (Nat.le_of_ble_eq_true rfl)⟩
              · exact va_runU (As := [.int i, .int how, .int x]) (rest := []) ⟨hx, hb, hml, hown, hts⟩ (kX3_change l G (by omega) hA i how x hi p_v H.size) (va_cwU 3 hts gX6_nudge_X3_change_u87X1 rfl rfl rfl rfl (by decide +kernel) ⟨(Nat.le_of_ble_eq_true rfl), (Nat.le_of_ble_eq_true rfl)⟩) (zPV w hK (px_recv (ci := 1) (fs := [.ref (vB f (zA car d t))]) (r := (RX1, TX1, 1)) hK w (hA.1) (hA.2.2.1) rfl)) rfl rfl hl.1 rfl (lv_room (Nat.le_of_ble_eq_true rfl)) dX6_nudge_74 ⟨(Nat.le_of_ble_eq_true rfl), (Nat.le_of_ble_eq_true rfl)⟩) (fun u H locs hq w => ?_)
          subst hq
          have hA2 := zRe_up (gi2 := zChI sN (vI f (zA car d t)) (vF f (zA car d t)) i.toNatClampNeg how x) (gf2 := zChF sN (vF f (zA car d t)) i.toNatClampNeg how x) hA (zChF_fin hA (zin_lt hi))
          refine lv_aload hx hb dX6_nudge_77 (lv_at hl 0 rfl) ?_
          refine lv_iload_n hx hb dX6_nudge_79 rfl (lv_at hl 5 rfl) ?_
          refine zCi (post := fun r u => u = zPutW G L f sN (zA car d t) (zChI sN (vI f (zA car d t)) (vF f (zA car d t)) i.toNatClampNeg how x) (zChF sN (vF f (zA car d t)) i.toNatClampNeg how x) ∧ r = zTold sN (zChI sN (vI f (zA car d t)) (vF f (zA car d t)) i.toNatClampNeg how x) (zChF sN (vF f (zA car d t)) i.toNatClampNeg how x) i.toNatClampNeg) (mc := 0) (ms := 0) (rest := []) (av := (Value.ref (zA car d t) :: [.int i]).toArray) w (by
              rcases hs with rfl | rfl | rfl | rfl
              · exact va_runU (As := [.int i]) (rest := []) ⟨hx, hb, hml, hown, hts⟩ (kX2_told l G hA2 i hi H.size) (va_cwA 1 hts gX6_nudge_X2_told_u73X2 rfl rfl rfl hK.2.1.2.1 (by decide +kernel) ⟨(Nat.le_of_ble_eq_true rfl), (Nat.le_of_ble_eq_true rfl)⟩) (zPV w hK (px_recv (ci := 2) (fs := [.ref (vB f (zA car d t))]) (r := (RX2, TX2, 1)) hK w (hA2.1) (hA2.2.2.1) rfl)) rfl rfl hl.1 rfl (lv_room (Nat.le_of_ble_eq_true rfl)) dX6_nudge_80 ⟨(Nat.le_of_ble_eq_true rfl), (Nat.le_of_ble_eq_true rfl)⟩
              · exact va_runU (As := [.int i]) (rest := []) ⟨hx, hb, hml, hown, hts⟩ (kX5_told l G hA2 i hi H.size) (va_cwA 1 hts gX6_nudge_X5_told_u73X5 rfl rfl rfl hK.2.1.2.1 (by decide +kernel) ⟨(Nat.le_of_ble_eq_true rfl), (Nat.le_of_ble_eq_true rfl)⟩) (zPV w hK (px_recv (ci := 4) (fs := [.ref (vB f (zA car d t))]) (r := (RX5, TX5, 1)) hK w (hA2.1) (hA2.2.2.1) rfl)) rfl rfl hl.1 rfl (lv_room (Nat.le_of_ble_eq_true rfl)) dX6_nudge_80 ⟨(Nat.le_of_ble_eq_true rfl), (Nat.le_of_ble_eq_true rfl)⟩
              · exact va_runU (As := [.int i]) (rest := []) ⟨hx, hb, hml, hown, hts⟩ (kX0_told l G hA2 i hi H.size) (va_cwA 1 hts gX6_nudge_X0_told_u73X0 rfl rfl rfl hK.2.1.2.1 (by decide +kernel) ⟨(Nat.le_of_ble_eq_true rfl), (Nat.le_of_ble_eq_true rfl)⟩) (zPV w hK (px_recv (ci := 0) (fs := [.ref (vB f (zA car d t))]) (r := (RX0, TX0, 1)) hK w (hA2.1) (hA2.2.2.1) rfl)) rfl rfl hl.1 rfl (lv_room (Nat.le_of_ble_eq_true rfl)) dX6_nudge_80 ⟨(Nat.le_of_ble_eq_true rfl), (Nat.le_of_ble_eq_true rfl)⟩
              · exact va_runU (As := [.int i]) (rest := []) ⟨hx, hb, hml, hown, hts⟩ (kX1_told l G hA2 i hi H.size) (va_cwA 1 hts gX6_nudge_X1_told_u73X1 rfl rfl rfl hK.2.1.2.1 (by decide +kernel) ⟨(Nat.le_of_ble_eq_true rfl), (Nat.le_of_ble_eq_true rfl)⟩) (zPV w hK (px_recv (ci := 1) (fs := [.ref (vB f (zA car d t))]) (r := (RX1, TX1, 1)) hK w (hA2.1) (hA2.2.2.1) rfl)) rfl rfl hl.1 rfl (lv_room (Nat.le_of_ble_eq_true rfl)) dX6_nudge_80 ⟨(Nat.le_of_ble_eq_true rfl), (Nat.le_of_ble_eq_true rfl)⟩) (fun r_10 u H locs hq w => ?_)
          obtain ⟨rfl, e_r⟩ := hq
          subst e_r
          refine lv_i2l hx hb dX6_nudge_83 rfl ?_
          exact zRl hx hb hr hlk w dX6_nudge_84 (Nat.le_of_ble_eq_true rfl) (Nat.le_of_ble_eq_true rfl) (by show (if _ then _ else _); (first | rw [if_pos p_k] | rw [if_neg p_k]); (first | rw [if_pos p_f] | rw [if_neg p_f]); (first | rw [if_pos p_v] | rw [if_neg p_v]); (first | exact ⟨rfl, rfl⟩ | (rw [← hsN]; exact ⟨rfl, rfl⟩)))
        · have p_v : how = 3 ∧ x = 0 := ⟨q_v, c_8⟩
          refine lv_aload_n hx hb dX6_nudge_51 rfl (lv_at hl 1 rfl) ?_
          refine lv_ldc2 hx hb hown (hts (.constantLong RX6 85 (6597069766656)) (by decide +kernel)) dX6_nudge_52 ?_
          refine zCl w (va_runV (As := [.long 6597069766656]) (rest := []) ⟨hx, hb, hml, hown, hts⟩ (kX6_refuse l G h zDIVIDED zW6 H.size) (cwV 1 hts gX6_nudge_X6_refuse rfl rfl rfl (by decide +kernel) ⟨(Nat.le_of_ble_eq_true rfl), (Nat.le_of_ble_eq_true rfl)⟩) (zPV w hK (px_recv (r := (RX6, TX6, 4)) hK w mo fo rfl)) rfl rfl hl.1 rfl (lv_room (Nat.le_of_ble_eq_true rfl)) dX6_nudge_55 ⟨(Nat.le_of_ble_eq_true rfl), (Nat.le_of_ble_eq_true rfl)⟩) (fun r_11 u H locs hq w => ?_)
          obtain ⟨rfl, e_r⟩ := hq
          subst e_r
          exact zRl hx hb hr hlk w dX6_nudge_58 (Nat.le_of_ble_eq_true rfl) (Nat.le_of_ble_eq_true rfl) (by show (if _ then _ else _); (first | rw [if_pos p_k] | rw [if_neg p_k]); (first | rw [if_pos p_f] | rw [if_neg p_f]); (first | rw [if_pos p_v] | rw [if_neg p_v]); (first | exact ⟨rfl, rfl⟩ | (rw [← hsN]; exact ⟨rfl, rfl⟩)))
    · have p_f := zcmp1 c_4
      refine lv_aload_n hx hb dX6_nudge_33 rfl (lv_at hl 1 rfl) ?_
      refine lv_lload hx hb dX6_nudge_34 (lv_at hl 0 rfl) ?_
      refine zCl w (va_runV (As := [.long (zPF f car d t i)]) (rest := []) ⟨hx, hb, hml, hown, hts⟩ (kX6_refuse l G h (zPF f car d t i) (zPF_why p_f) H.size) (cwV 1 hts gX6_nudge_X6_refuse rfl rfl rfl (by decide +kernel) ⟨(Nat.le_of_ble_eq_true rfl), (Nat.le_of_ble_eq_true rfl)⟩) (zPV w hK (px_recv (r := (RX6, TX6, 4)) hK w mo fo rfl)) rfl rfl hl.1 rfl (lv_room (Nat.le_of_ble_eq_true rfl)) dX6_nudge_36 ⟨(Nat.le_of_ble_eq_true rfl), (Nat.le_of_ble_eq_true rfl)⟩) (fun r_12 u H locs hq w => ?_)
      obtain ⟨rfl, e_r⟩ := hq
      subst e_r
      exact zRl hx hb hr hlk w dX6_nudge_39 (Nat.le_of_ble_eq_true rfl) (Nat.le_of_ble_eq_true rfl) (by show (if _ then _ else _); (first | rw [if_pos p_k] | rw [if_neg p_k]); (first | rw [if_pos p_f] | rw [if_neg p_f]); (first | exact ⟨rfl, rfl⟩ | (rw [← hsN]; exact ⟨rfl, rfl⟩)))
  · have p_k := z00 inferInstance e_r_1 c_2
    refine lv_aload_n hx hb dX6_nudge_9 rfl (lv_at hl 0 rfl) ?_
    refine lv_ldc2 hx hb hown (hts (.constantLong RX6 36 (1099511627776)) (by decide +kernel)) dX6_nudge_10 ?_
    refine zCl w (va_runV (As := [.long 1099511627776]) (rest := []) ⟨hx, hb, hml, hown, hts⟩ (kX6_refuse l G h zNONE zW1 H.size) (cwV 1 hts gX6_nudge_X6_refuse rfl rfl rfl (by decide +kernel) ⟨(Nat.le_of_ble_eq_true rfl), (Nat.le_of_ble_eq_true rfl)⟩) (zPV w hK (px_recv (r := (RX6, TX6, 4)) hK w mo fo rfl)) rfl rfl hl.1 rfl (lv_room (Nat.le_of_ble_eq_true rfl)) dX6_nudge_13 ⟨(Nat.le_of_ble_eq_true rfl), (Nat.le_of_ble_eq_true rfl)⟩) (fun r_13 u H locs hq w => ?_)
    obtain ⟨rfl, e_r⟩ := hq
    subst e_r
    exact zRl hx hb hr hlk w dX6_nudge_16 (Nat.le_of_ble_eq_true rfl) (Nat.le_of_ble_eq_true rfl) (by show (if _ then _ else _); (first | rw [if_pos p_k] | rw [if_neg p_k]); (first | exact ⟨rfl, rfl⟩ | (rw [← hsN]; exact ⟨rfl, rfl⟩)))
set_option maxHeartbeats 4000000 in
set_option maxRecDepth 100000 in
theorem kX6_tick (l : Launch) (G : zG) {L : List Nat} {f : Nat → va_E} {o ac aw ar : Nat} {ch : Option Nat} {car wa : Nat → Option Nat} {ta : Nat → Int32} (h : zBn G L f o ac aw ar ch car wa ta) (hct : zCT G L f car) (hwt : zWT G L f wa) (d t i ahead : Int32) (sz : Nat) : zMl l yX6_tick wsX6_tick { frames := 3, cells := 0, slots := 0, locals := 69 } G [.ref o, .int d, .int t, .int i, .int ahead] (va_pl L f) sz (fun r u => if t = 3 then zRefP G L f ar ta zNONE r u else if zPF f car d t i = 0 then (u = zPutW G L f (zS t) (zA car d t) (zSuI (zS t) (vI f (zA car d t)) (vF f (zA car d t)) i.toNatClampNeg) (zSuF (zS t) (vF f (zA car d t)) i.toNatClampNeg) ∧ r = if ahead = 0 then (zTold (zS t) (vI f (zA car d t)) (vF f (zA car d t)) i.toNatClampNeg).toInt64 else (zTold (zS t) (zSuI (zS t) (vI f (zA car d t)) (vF f (zA car d t)) i.toNatClampNeg) (zSuF (zS t) (vF f (zA car d t)) i.toNatClampNeg) i.toNatClampNeg).toInt64) else zRefP G L f ar ta (zPF f car d t i) r u) 0 0 := by
  refine zIn (Qc := fun A => va_Ql _ (zB G A) A) (cc := cX6_tick) (maxL := 9) (ret := (some .long)) (by decide) rfl (Nat.le_of_ble_eq_true rfl) ?_
  intro p e s m below meth c A ls hx hb hr hlk hml hts hown hnm hK w hl
  have hown : s.vm.findClass RX6 = some m.cls := hown
  have hl : lv_has ls 9 [(0, .ref o), (1, .int d), (2, .int t), (3, .int i), (4, .int ahead)] := hl
  obtain ⟨⟨mo, mc, mw, mr⟩, fo, fc, fw, fr⟩ := id h
  refine lv_iload_n hx hb dX6_tick_0 rfl (lv_at hl 2 rfl) ?_
  refine lv_iconst (v := 3) hx hb dX6_tick_1 (by decide) ?_
  refine lv_icmp_ne (tgt := 13) hx hb dX6_tick_2 (by decide) (fun c_1 => ?_) (fun c_1 => ?_)
  · have p_l := c_1
    refine lv_aload_n hx hb dX6_tick_13 rfl (lv_at hl 0 rfl) ?_
    refine lv_iload_n hx hb dX6_tick_14 rfl (lv_at hl 1 rfl) ?_
    refine lv_iload_n hx hb dX6_tick_15 rfl (lv_at hl 2 rfl) ?_
    refine lv_iload_n hx hb dX6_tick_16 rfl (lv_at hl 3 rfl) ?_
    refine zCl w (va_runV (As := [.int d, .int t, .int i]) (rest := []) ⟨hx, hb, hml, hown, hts⟩ (kX6_placeFault l G h hct d t i s.heap.size) (cwV 3 hts gX6_tick_X6_placeFault rfl rfl rfl (by decide +kernel) ⟨(Nat.le_of_ble_eq_true rfl), (Nat.le_of_ble_eq_true rfl)⟩) (zPV w hK (px_recv (r := (RX6, TX6, 4)) hK w mo fo rfl)) rfl rfl hl.1 rfl (lv_room (Nat.le_of_ble_eq_true rfl)) dX6_tick_17 ⟨(Nat.le_of_ble_eq_true rfl), (Nat.le_of_ble_eq_true rfl)⟩) (fun r_2 u H locs hq w => ?_)
    obtain ⟨rfl, e_r⟩ := hq
    subst e_r
    refine lv_lstore (lv' := [(5, .long (zPF f car d t i)), (0, .ref o), (1, .int d), (2, .int t), (3, .int i), (4, .int ahead)]) hx hb dX6_tick_20 hl (by decide) rfl (fun ls hl => ?_)
    refine lv_lload hx hb dX6_tick_22 (lv_at hl 0 rfl) ?_
    refine lv_lconst (v := 0) hx hb dX6_tick_24 (by decide) ?_
    refine W.lcmp hx hb dX6_tick_25 ?_
    refine lv_if_eq (tgt := 36) hx hb dX6_tick_26 (by decide) (fun c_3 => ?_) (fun c_3 => ?_)
    · have p_f := zcmp0 c_3
      obtain ⟨p_0, hh⟩ := zPF_0 p_f
      obtain ⟨hd, ht, hca⟩ := zRF_0 p_0
      have hA := zCT_at hct p_0
      obtain ⟨sN, hsN⟩ : ∃ sN, sN = zS t := ⟨_, rfl⟩
      rw [← hsN] at hA
      have hs : sN = 0 ∨ sN = 1 ∨ sN = 2 ∨ sN = 3 := by rw [hsN]; exact zS_or ht
      unfold zRA at hA
      have hi := zin40 hh hA.2.2.2.2.1
      refine lv_aload_n hx hb dX6_tick_36 rfl (lv_at hl 1 rfl) ?_
      refine lv_iload_n hx hb dX6_tick_37 rfl (lv_at hl 2 rfl) ?_
      refine lv_iload_n hx hb dX6_tick_38 rfl (lv_at hl 3 rfl) ?_
      refine zCq w (va_runV (As := [.int d, .int t]) (rest := []) ⟨hx, hb, hml, hown, hts⟩ (kX6_reelOn l G h d t hd ht H.size) (cwV 2 hts gX6_tick_X6_reelOn rfl rfl rfl (by decide +kernel) ⟨(Nat.le_of_ble_eq_true rfl), (Nat.le_of_ble_eq_true rfl)⟩) (zPV w hK (px_recv (r := (RX6, TX6, 4)) hK w mo fo rfl)) rfl rfl hl.1 rfl (lv_room (Nat.le_of_ble_eq_true rfl)) dX6_tick_39 ⟨(Nat.le_of_ble_eq_true rfl), (Nat.le_of_ble_eq_true rfl)⟩) (fun r_4 u H locs hq w => ?_)
      obtain ⟨rfl, e_r⟩ := hq
      subst e_r
      rw [hca]
      refine lv_astore (lv' := [(7, .ref (zA car d t)), (5, .long (zPF f car d t i)), (0, .ref o), (1, .int d), (2, .int t), (3, .int i), (4, .int ahead)]) hx hb dX6_tick_42 hl (by decide) rfl (fun ls hl => ?_)
      refine lv_aload hx hb dX6_tick_44 (lv_at hl 0 rfl) ?_
      refine lv_iload_n hx hb dX6_tick_46 rfl (lv_at hl 5 rfl) ?_
      refine zCi (post := fun r u => u = va_pl L f ∧ r = zTold sN (vI f (zA car d t)) (vF f (zA car d t)) i.toNatClampNeg) (mc := 0) (ms := 0) (rest := []) (av := (Value.ref (zA car d t) :: [.int i]).toArray) w (by
          rcases hs with rfl | rfl | rfl | rfl
          · exact va_runU (As := [.int i]) (rest := []) ⟨hx, hb, hml, hown, hts⟩ (kX2_told l G hA i hi H.size) (va_cwA 1 hts gX6_tick_X2_told_u73X2 rfl rfl rfl hK.2.1.2.1 (by decide +kernel) ⟨(Nat.le_of_ble_eq_true rfl), (Nat.le_of_ble_eq_true rfl)⟩) (zPV w hK (px_recv (ci := 2) (fs := [.ref (vB f (zA car d t))]) (r := (RX2, TX2, 1)) hK w (hA.1) (hA.2.2.1) rfl)) rfl rfl hl.1 rfl (lv_room (Nat.le_of_ble_eq_true rfl)) dX6_tick_47 ⟨(Nat.le_of_ble_eq_true rfl), (Nat.le_of_ble_eq_true rfl)⟩
          · exact va_runU (As := [.int i]) (rest := []) ⟨hx, hb, hml, hown, hts⟩ (kX5_told l G hA i hi H.size) (va_cwA 1 hts gX6_tick_X5_told_u73X5 rfl rfl rfl hK.2.1.2.1 (by decide +kernel) ⟨(Nat.le_of_ble_eq_true rfl), (Nat.le_of_ble_eq_true rfl)⟩) (zPV w hK (px_recv (ci := 4) (fs := [.ref (vB f (zA car d t))]) (r := (RX5, TX5, 1)) hK w (hA.1) (hA.2.2.1) rfl)) rfl rfl hl.1 rfl (lv_room (Nat.le_of_ble_eq_true rfl)) dX6_tick_47 ⟨(Nat.le_of_ble_eq_true rfl), (Nat.le_of_ble_eq_true rfl)⟩
          · exact va_runU (As := [.int i]) (rest := []) ⟨hx, hb, hml, hown, hts⟩ (kX0_told l G hA i hi H.size) (va_cwA 1 hts gX6_tick_X0_told_u73X0 rfl rfl rfl hK.2.1.2.1 (by decide +kernel) ⟨(Nat.le_of_ble_eq_true rfl), (Nat.le_of_ble_eq_true rfl)⟩) (zPV w hK (px_recv (ci := 0) (fs := [.ref (vB f (zA car d t))]) (r := (RX0, TX0, 1)) hK w (hA.1) (hA.2.2.1) rfl)) rfl rfl hl.1 rfl (lv_room (Nat.le_of_ble_eq_true rfl)) dX6_tick_47 ⟨(Nat.le_of_ble_eq_true rfl), (Nat.le_of_ble_eq_true rfl)⟩
          · exact va_runU (As := [.int i]) (rest := []) ⟨hx, hb, hml, hown, hts⟩ (kX1_told l G hA i hi H.size) (va_cwA 1 hts gX6_tick_X1_told_u73X1 rfl rfl rfl hK.2.1.2.1 (by decide +kernel) ⟨(Nat.le_of_ble_eq_true rfl), (Nat.le_of_ble_eq_true rfl)⟩) (zPV w hK (px_recv (ci := 1) (fs := [.ref (vB f (zA car d t))]) (r := (RX1, TX1, 1)) hK w (hA.1) (hA.2.2.1) rfl)) rfl rfl hl.1 rfl (lv_room (Nat.le_of_ble_eq_true rfl)) dX6_tick_47 ⟨(Nat.le_of_ble_eq_true rfl), (Nat.le_of_ble_eq_true rfl)⟩) (fun r_5 u H locs hq w => ?_)
      obtain ⟨rfl, e_r⟩ := hq
      subst e_r
      refine lv_istore (lv' := [(8, .int (zTold sN (vI f (zA car d t)) (vF f (zA car d t)) i.toNatClampNeg)), (7, .ref (zA car d t)), (5, .long (zPF f car d t i)), (0, .ref o), (1, .int d), (2, .int t), (3, .int i), (4, .int ahead)]) hx hb dX6_tick_50 hl (by decide) rfl (fun ls hl => ?_)
      refine lv_aload hx hb dX6_tick_52 (lv_at hl 1 rfl) ?_
      refine lv_iload_n hx hb dX6_tick_54 rfl (lv_at hl 6 rfl) ?_
      refine zCv (post := fun u => u = zPutW G L f sN (zA car d t) (zSuI sN (vI f (zA car d t)) (vF f (zA car d t)) i.toNatClampNeg) (zSuF sN (vF f (zA car d t)) i.toNatClampNeg)) (mc := 0) (ms := 0) (rest := []) (av := (Value.ref (zA car d t) :: [.int i]).toArray) w (by
          rcases hs with rfl | rfl | rfl | rfl
          · exact va_runU (As := [.int i]) (rest := []) ⟨hx, hb, hml, hown, hts⟩ (kX3_stepUp l G (by omega) hA i hi H.size) (va_cwU 1 hts gX6_tick_X3_stepUp_u91X2 rfl rfl rfl rfl (by decide +kernel) ⟨(Nat.le_of_ble_eq_true rfl), (Nat.le_of_ble_eq_true rfl)⟩) (zPV w hK (px_recv (ci := 2) (fs := [.ref (vB f (zA car d t))]) (r := (RX2, TX2, 1)) hK w (hA.1) (hA.2.2.1) rfl)) rfl rfl hl.1 rfl (lv_room (Nat.le_of_ble_eq_true rfl)) dX6_tick_55 ⟨(Nat.le_of_ble_eq_true rfl), (Nat.le_of_ble_eq_true rfl)⟩
          · exact va_runU (As := [.int i]) (rest := []) ⟨hx, hb, hml, hown, hts⟩ (kX3_stepUp l G (by omega) hA i hi H.size) (va_cwU 1 hts gX6_tick_X3_stepUp_u91X5 rfl rfl rfl rfl (by decide +kernel) ⟨(Nat.le_of_ble_eq_true rfl), (Nat.le_of_ble_eq_true rfl)⟩) (zPV w hK (px_recv (ci := 4) (fs := [.ref (vB f (zA car d t))]) (r := (RX5, TX5, 1)) hK w (hA.1) (hA.2.2.1) rfl)) rfl rfl hl.1 rfl (lv_room (Nat.le_of_ble_eq_true rfl)) dX6_tick_55 ⟨(Nat.le_of_ble_eq_true rfl), (Nat.le_of_ble_eq_true rfl)⟩
          · exact va_runU (As := [.int i]) (rest := []) ⟨hx, hb, hml, hown, hts⟩ (kX0_stepUp l G hA i hi H.size) (va_cwO 1 hts gX6_tick_X0_stepUp_u91X0 rfl rfl rfl (b0 := cX3_stepUp) (m0 := 2) (r0 := none) (by decide +kernel) (by decide +kernel) ⟨(Nat.le_of_ble_eq_true rfl), (Nat.le_of_ble_eq_true rfl)⟩) (zPV w hK (px_recv (ci := 0) (fs := [.ref (vB f (zA car d t))]) (r := (RX0, TX0, 1)) hK w (hA.1) (hA.2.2.1) rfl)) rfl rfl hl.1 rfl (lv_room (Nat.le_of_ble_eq_true rfl)) dX6_tick_55 ⟨(Nat.le_of_ble_eq_true rfl), (Nat.le_of_ble_eq_true rfl)⟩
          · exact va_runU (As := [.int i]) (rest := []) ⟨hx, hb, hml, hown, hts⟩ (kX3_stepUp l G (by omega) hA i hi H.size) (va_cwU 1 hts gX6_tick_X3_stepUp_u91X1 rfl rfl rfl rfl (by decide +kernel) ⟨(Nat.le_of_ble_eq_true rfl), (Nat.le_of_ble_eq_true rfl)⟩) (zPV w hK (px_recv (ci := 1) (fs := [.ref (vB f (zA car d t))]) (r := (RX1, TX1, 1)) hK w (hA.1) (hA.2.2.1) rfl)) rfl rfl hl.1 rfl (lv_room (Nat.le_of_ble_eq_true rfl)) dX6_tick_55 ⟨(Nat.le_of_ble_eq_true rfl), (Nat.le_of_ble_eq_true rfl)⟩) (fun u H locs hq w => ?_)
      subst hq
      have hA2 := zRe_up (gi2 := zSuI sN (vI f (zA car d t)) (vF f (zA car d t)) i.toNatClampNeg) (gf2 := zSuF sN (vF f (zA car d t)) i.toNatClampNeg) hA (zSuF_fin hA (zin_lt hi))
      refine lv_iload hx hb dX6_tick_58 (lv_at hl 7 rfl) ?_
      refine lv_if_eq (tgt := 73) hx hb dX6_tick_60 (by decide) (fun c_6 => ?_) (fun c_6 => ?_)
      · have p_a := c_6
        refine lv_iload hx hb dX6_tick_73 (lv_at hl 0 rfl) ?_
        refine lv_i2l hx hb dX6_tick_75 rfl ?_
        exact zRl hx hb hr hlk w dX6_tick_76 (Nat.le_of_ble_eq_true rfl) (Nat.le_of_ble_eq_true rfl) (by show (if _ then _ else _); (first | rw [if_pos p_l] | rw [if_neg p_l]); (first | rw [if_pos p_f] | rw [if_neg p_f]); (first | exact ⟨rfl, rfl⟩ | (rw [← hsN]; exact ⟨rfl, by (first | rw [if_pos p_a] | rw [if_neg p_a])⟩)))
      · have p_a := c_6
        refine lv_aload hx hb dX6_tick_63 (lv_at hl 1 rfl) ?_
        refine lv_iload_n hx hb dX6_tick_65 rfl (lv_at hl 6 rfl) ?_
        refine zCi (post := fun r u => u = zPutW G L f sN (zA car d t) (zSuI sN (vI f (zA car d t)) (vF f (zA car d t)) i.toNatClampNeg) (zSuF sN (vF f (zA car d t)) i.toNatClampNeg) ∧ r = zTold sN (zSuI sN (vI f (zA car d t)) (vF f (zA car d t)) i.toNatClampNeg) (zSuF sN (vF f (zA car d t)) i.toNatClampNeg) i.toNatClampNeg) (mc := 0) (ms := 0) (rest := []) (av := (Value.ref (zA car d t) :: [.int i]).toArray) w (by
            rcases hs with rfl | rfl | rfl | rfl
            · exact va_runU (As := [.int i]) (rest := []) ⟨hx, hb, hml, hown, hts⟩ (kX2_told l G hA2 i hi H.size) (va_cwA 1 hts gX6_tick_X2_told_u73X2 rfl rfl rfl hK.2.1.2.1 (by decide +kernel) ⟨(Nat.le_of_ble_eq_true rfl), (Nat.le_of_ble_eq_true rfl)⟩) (zPV w hK (px_recv (ci := 2) (fs := [.ref (vB f (zA car d t))]) (r := (RX2, TX2, 1)) hK w (hA2.1) (hA2.2.2.1) rfl)) rfl rfl hl.1 rfl (lv_room (Nat.le_of_ble_eq_true rfl)) dX6_tick_66 ⟨(Nat.le_of_ble_eq_true rfl), (Nat.le_of_ble_eq_true rfl)⟩
            · exact va_runU (As := [.int i]) (rest := []) ⟨hx, hb, hml, hown, hts⟩ (kX5_told l G hA2 i hi H.size) (va_cwA 1 hts gX6_tick_X5_told_u73X5 rfl rfl rfl hK.2.1.2.1 (by decide +kernel) ⟨(Nat.le_of_ble_eq_true rfl), (Nat.le_of_ble_eq_true rfl)⟩) (zPV w hK (px_recv (ci := 4) (fs := [.ref (vB f (zA car d t))]) (r := (RX5, TX5, 1)) hK w (hA2.1) (hA2.2.2.1) rfl)) rfl rfl hl.1 rfl (lv_room (Nat.le_of_ble_eq_true rfl)) dX6_tick_66 ⟨(Nat.le_of_ble_eq_true rfl), (Nat.le_of_ble_eq_true rfl)⟩
            · exact va_runU (As := [.int i]) (rest := []) ⟨hx, hb, hml, hown, hts⟩ (kX0_told l G hA2 i hi H.size) (va_cwA 1 hts gX6_tick_X0_told_u73X0 rfl rfl rfl hK.2.1.2.1 (by decide +kernel) ⟨(Nat.le_of_ble_eq_true rfl), (Nat.le_of_ble_eq_true rfl)⟩) (zPV w hK (px_recv (ci := 0) (fs := [.ref (vB f (zA car d t))]) (r := (RX0, TX0, 1)) hK w (hA2.1) (hA2.2.2.1) rfl)) rfl rfl hl.1 rfl (lv_room (Nat.le_of_ble_eq_true rfl)) dX6_tick_66 ⟨(Nat.le_of_ble_eq_true rfl), (Nat.le_of_ble_eq_true rfl)⟩
            · exact va_runU (As := [.int i]) (rest := []) ⟨hx, hb, hml, hown, hts⟩ (kX1_told l G hA2 i hi H.size) (va_cwA 1 hts gX6_tick_X1_told_u73X1 rfl rfl rfl hK.2.1.2.1 (by decide +kernel) ⟨(Nat.le_of_ble_eq_true rfl), (Nat.le_of_ble_eq_true rfl)⟩) (zPV w hK (px_recv (ci := 1) (fs := [.ref (vB f (zA car d t))]) (r := (RX1, TX1, 1)) hK w (hA2.1) (hA2.2.2.1) rfl)) rfl rfl hl.1 rfl (lv_room (Nat.le_of_ble_eq_true rfl)) dX6_tick_66 ⟨(Nat.le_of_ble_eq_true rfl), (Nat.le_of_ble_eq_true rfl)⟩) (fun r_7 u H locs hq w => ?_)
        obtain ⟨rfl, e_r⟩ := hq
        subst e_r
        refine lv_i2l hx hb dX6_tick_69 rfl ?_
        refine lv_goto (tgt := 76) hx hb dX6_tick_70 (by decide) ?_
        exact zRl hx hb hr hlk w dX6_tick_76 (Nat.le_of_ble_eq_true rfl) (Nat.le_of_ble_eq_true rfl) (by show (if _ then _ else _); (first | rw [if_pos p_l] | rw [if_neg p_l]); (first | rw [if_pos p_f] | rw [if_neg p_f]); (first | exact ⟨rfl, rfl⟩ | (rw [← hsN]; exact ⟨rfl, by (first | rw [if_pos p_a] | rw [if_neg p_a])⟩)))
    · have p_f := zcmp1 c_3
      refine lv_aload_n hx hb dX6_tick_29 rfl (lv_at hl 1 rfl) ?_
      refine lv_lload hx hb dX6_tick_30 (lv_at hl 0 rfl) ?_
      refine zCl w (va_runV (As := [.long (zPF f car d t i)]) (rest := []) ⟨hx, hb, hml, hown, hts⟩ (kX6_refuse l G h (zPF f car d t i) (zPF_why p_f) H.size) (cwV 1 hts gX6_tick_X6_refuse rfl rfl rfl (by decide +kernel) ⟨(Nat.le_of_ble_eq_true rfl), (Nat.le_of_ble_eq_true rfl)⟩) (zPV w hK (px_recv (r := (RX6, TX6, 4)) hK w mo fo rfl)) rfl rfl hl.1 rfl (lv_room (Nat.le_of_ble_eq_true rfl)) dX6_tick_32 ⟨(Nat.le_of_ble_eq_true rfl), (Nat.le_of_ble_eq_true rfl)⟩) (fun r_8 u H locs hq w => ?_)
      obtain ⟨rfl, e_r⟩ := hq
      subst e_r
      exact zRl hx hb hr hlk w dX6_tick_35 (Nat.le_of_ble_eq_true rfl) (Nat.le_of_ble_eq_true rfl) (by show (if _ then _ else _); (first | rw [if_pos p_l] | rw [if_neg p_l]); (first | rw [if_pos p_f] | rw [if_neg p_f]); (first | exact ⟨rfl, rfl⟩ | (rw [← hsN]; exact ⟨rfl, by skip⟩)))
  · have p_l := c_1
    refine lv_aload_n hx hb dX6_tick_5 rfl (lv_at hl 0 rfl) ?_
    refine lv_ldc2 hx hb hown (hts (.constantLong RX6 36 (1099511627776)) (by decide +kernel)) dX6_tick_6 ?_
    refine zCl w (va_runV (As := [.long 1099511627776]) (rest := []) ⟨hx, hb, hml, hown, hts⟩ (kX6_refuse l G h zNONE zW1 s.heap.size) (cwV 1 hts gX6_tick_X6_refuse rfl rfl rfl (by decide +kernel) ⟨(Nat.le_of_ble_eq_true rfl), (Nat.le_of_ble_eq_true rfl)⟩) (zPV w hK (px_recv (r := (RX6, TX6, 4)) hK w mo fo rfl)) rfl rfl hl.1 rfl (lv_room (Nat.le_of_ble_eq_true rfl)) dX6_tick_9 ⟨(Nat.le_of_ble_eq_true rfl), (Nat.le_of_ble_eq_true rfl)⟩) (fun r_9 u H locs hq w => ?_)
    obtain ⟨rfl, e_r⟩ := hq
    subst e_r
    exact zRl hx hb hr hlk w dX6_tick_12 (Nat.le_of_ble_eq_true rfl) (Nat.le_of_ble_eq_true rfl) (by show (if _ then _ else _); (first | rw [if_pos p_l] | rw [if_neg p_l]); (first | exact ⟨rfl, rfl⟩ | (rw [← hsN]; exact ⟨rfl, by skip⟩)))
