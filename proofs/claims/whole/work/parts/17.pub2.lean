theorem zCT_q {G : zG} {L : List Nat} {f : Nat → va_E} {car : Nat → Option Nat} {d t : Int32} {v : Nat} (h : zCT G L f car) (hd : zFour d) (ht : zFour t) (hc : car (zix d t) = some v) : zRA G L f (zS t) v := by
  obtain ⟨a, b, ha, hb, -, -, e1, e2⟩ := zix_of hd ht
  rw [e2]
  rw [e1] at hc
  have := h (a * 4 + b) (by omega) _ hc
  rw [show (a * 4 + b) % 4 = b by omega] at this
  exact this
theorem zta_in {what : Int32} (h1 : ¬ what < 1) (h2 : ¬ 7 < what) : vp_in what 8 := by
  rw [vp_in_iff]
  rw [Int32.lt_iff_toInt_lt] at h1 h2
  have e1 : (1 : Int32).toInt = 1 := by decide
  have e2 : (7 : Int32).toInt = 7 := by decide
  omega
set_option maxHeartbeats 4000000 in
set_option maxRecDepth 100000 in
theorem kX6_share (l : Launch) (G : zG) {L : List Nat} {f : Nat → va_E} {o ac aw ar : Nat} {ch : Option Nat} {car wa : Nat → Option Nat} {ta : Nat → Int32} (h : zBn G L f o ac aw ar ch car wa ta) (hct : zCT G L f car) (hwt : zWT G L f wa) (d e2 t : Int32) (sz : Nat) : zMl l yX6_share wsX6_share { frames := 1, cells := 0, slots := 0, locals := 23 } G [.ref o, .int d, .int e2, .int t] (va_pl L f) sz (fun r u => if zFour d ∧ zFour e2 ∧ zFour t then (u = zCarW G L f ac (va_up car (zix e2 t) (car (zix d t))) ∧ r = if (car (zix d t)) = none then 0 else 1) else zRefP G L f ar ta zNONE r u) 0 0 := by
  refine zIn (Qc := fun A => va_Ql _ (zB G A) A) (cc := cX6_share) (maxL := 5) (ret := (some .long)) (by decide) rfl (Nat.le_of_ble_eq_true rfl) ?_
  intro p e s m below meth c A ls hx hb hr hlk hml hts hown hnm hK w hl
  have hown : s.vm.findClass RX6 = some m.cls := hown
  have hl : lv_has ls 5 [(0, .ref o), (1, .int d), (2, .int e2), (3, .int t)] := hl
  obtain ⟨⟨mo, mc, mw, mr⟩, fo, fc, fw, fr⟩ := id h
  refine lv_iload_n hx hb dX6_share_0 rfl (lv_at hl 1 rfl) ?_
  refine zCi w (va_runS (As := [.int d]) (rest := []) ⟨hx, hb, hml, hown, hts⟩ (kX6_isDeck l G _ d s.heap.size) (va_cwS 1 hts gX6_share_X6_isDeck rfl rfl rfl (by decide +kernel) ⟨(Nat.le_of_ble_eq_true rfl), (Nat.le_of_ble_eq_true rfl)⟩) (zPS w hK) rfl rfl hl.1 rfl (lv_room (Nat.le_of_ble_eq_true rfl)) dX6_share_1 ⟨(Nat.le_of_ble_eq_true rfl), (Nat.le_of_ble_eq_true rfl)⟩) (fun r_1 u H locs hq w => ?_)
  obtain ⟨rfl, e_r_1⟩ := hq
  refine lv_if_eq (tgt := 21) hx hb dX6_share_4 (by decide) (fun c_2 => ?_) (fun c_2 => ?_)
  · have p_d := z00 inferInstance e_r_1 c_2
    refine lv_aload_n hx hb dX6_share_21 rfl (lv_at hl 0 rfl) ?_
    refine lv_ldc2 hx hb hown (hts (.constantLong RX6 36 (1099511627776)) (by decide +kernel)) dX6_share_22 ?_
    refine zCl w (va_runV (As := [.long 1099511627776]) (rest := []) ⟨hx, hb, hml, hown, hts⟩ (kX6_refuse l G h zNONE zW1 H.size) (cwV 1 hts gX6_share_X6_refuse rfl rfl rfl (by decide +kernel) ⟨(Nat.le_of_ble_eq_true rfl), (Nat.le_of_ble_eq_true rfl)⟩) (zPV w hK (px_recv (r := (RX6, TX6, 4)) hK w mo fo rfl)) rfl rfl hl.1 rfl (lv_room (Nat.le_of_ble_eq_true rfl)) dX6_share_25 ⟨(Nat.le_of_ble_eq_true rfl), (Nat.le_of_ble_eq_true rfl)⟩) (fun r_3 u H locs hq w => ?_)
    obtain ⟨rfl, e_r⟩ := hq
    subst e_r
    exact zRl hx hb hr hlk w dX6_share_28 (Nat.le_of_ble_eq_true rfl) (Nat.le_of_ble_eq_true rfl) (by show (if _ then _ else _); first | (rw [if_pos ⟨p_d, p_e, p_t⟩]; exact ⟨rfl, rfl⟩) | (rw [if_neg (by intro q; simp_all)]; exact ⟨rfl, rfl⟩))
  · have p_d := z01 inferInstance e_r_1 c_2
    refine lv_iload_n hx hb dX6_share_7 rfl (lv_at hl 2 rfl) ?_
    refine zCi w (va_runS (As := [.int e2]) (rest := []) ⟨hx, hb, hml, hown, hts⟩ (kX6_isDeck l G _ e2 H.size) (va_cwS 1 hts gX6_share_X6_isDeck rfl rfl rfl (by decide +kernel) ⟨(Nat.le_of_ble_eq_true rfl), (Nat.le_of_ble_eq_true rfl)⟩) (zPS w hK) rfl rfl hl.1 rfl (lv_room (Nat.le_of_ble_eq_true rfl)) dX6_share_8 ⟨(Nat.le_of_ble_eq_true rfl), (Nat.le_of_ble_eq_true rfl)⟩) (fun r_4 u H locs hq w => ?_)
    obtain ⟨rfl, e_r_4⟩ := hq
    refine lv_if_eq (tgt := 21) hx hb dX6_share_11 (by decide) (fun c_5 => ?_) (fun c_5 => ?_)
    · have p_e := z00 inferInstance e_r_4 c_5
      refine lv_aload_n hx hb dX6_share_21 rfl (lv_at hl 0 rfl) ?_
      refine lv_ldc2 hx hb hown (hts (.constantLong RX6 36 (1099511627776)) (by decide +kernel)) dX6_share_22 ?_
      refine zCl w (va_runV (As := [.long 1099511627776]) (rest := []) ⟨hx, hb, hml, hown, hts⟩ (kX6_refuse l G h zNONE zW1 H.size) (cwV 1 hts gX6_share_X6_refuse rfl rfl rfl (by decide +kernel) ⟨(Nat.le_of_ble_eq_true rfl), (Nat.le_of_ble_eq_true rfl)⟩) (zPV w hK (px_recv (r := (RX6, TX6, 4)) hK w mo fo rfl)) rfl rfl hl.1 rfl (lv_room (Nat.le_of_ble_eq_true rfl)) dX6_share_25 ⟨(Nat.le_of_ble_eq_true rfl), (Nat.le_of_ble_eq_true rfl)⟩) (fun r_6 u H locs hq w => ?_)
      obtain ⟨rfl, e_r⟩ := hq
      subst e_r
      exact zRl hx hb hr hlk w dX6_share_28 (Nat.le_of_ble_eq_true rfl) (Nat.le_of_ble_eq_true rfl) (by show (if _ then _ else _); first | (rw [if_pos ⟨p_d, p_e, p_t⟩]; exact ⟨rfl, rfl⟩) | (rw [if_neg (by intro q; simp_all)]; exact ⟨rfl, rfl⟩))
    · have p_e := z01 inferInstance e_r_4 c_5
      refine lv_iload_n hx hb dX6_share_14 rfl (lv_at hl 3 rfl) ?_
      refine zCi w (va_runS (As := [.int t]) (rest := []) ⟨hx, hb, hml, hown, hts⟩ (kX6_isSort l G _ t H.size) (va_cwS 1 hts gX6_share_X6_isSort rfl rfl rfl (by decide +kernel) ⟨(Nat.le_of_ble_eq_true rfl), (Nat.le_of_ble_eq_true rfl)⟩) (zPS w hK) rfl rfl hl.1 rfl (lv_room (Nat.le_of_ble_eq_true rfl)) dX6_share_15 ⟨(Nat.le_of_ble_eq_true rfl), (Nat.le_of_ble_eq_true rfl)⟩) (fun r_7 u H locs hq w => ?_)
      obtain ⟨rfl, e_r_7⟩ := hq
      refine lv_if_ne (tgt := 29) hx hb dX6_share_18 (by decide) (fun c_8 => ?_) (fun c_8 => ?_)
      · have p_t := z01 inferInstance e_r_7 c_8
        refine lv_aload_n hx hb dX6_share_29 rfl (lv_at hl 0 rfl) ?_
        refine lv_iload_n hx hb dX6_share_30 rfl (lv_at hl 1 rfl) ?_
        refine lv_iload_n hx hb dX6_share_31 rfl (lv_at hl 3 rfl) ?_
        refine zCq w (va_runV (As := [.int d, .int t]) (rest := []) ⟨hx, hb, hml, hown, hts⟩ (kX6_reelOn l G h d t p_d p_t H.size) (cwV 2 hts gX6_share_X6_reelOn rfl rfl rfl (by decide +kernel) ⟨(Nat.le_of_ble_eq_true rfl), (Nat.le_of_ble_eq_true rfl)⟩) (zPV w hK (px_recv (r := (RX6, TX6, 4)) hK w mo fo rfl)) rfl rfl hl.1 rfl (lv_room (Nat.le_of_ble_eq_true rfl)) dX6_share_32 ⟨(Nat.le_of_ble_eq_true rfl), (Nat.le_of_ble_eq_true rfl)⟩) (fun r_9 u H locs hq w => ?_)
        obtain ⟨rfl, e_r⟩ := hq
        subst e_r
        refine z_astoreQ (lv' := [(4, va_rf (car (zix d t))), (0, .ref o), (1, .int d), (2, .int e2), (3, .int t)]) hx hb dX6_share_35 hl (by decide) rfl (fun ls hl => ?_)
        refine lv_aload_n hx hb dX6_share_37 rfl (lv_at hl 1 rfl) ?_
        refine lv_iload_n hx hb dX6_share_38 rfl (lv_at hl 3 rfl) ?_
        refine lv_iload_n hx hb dX6_share_39 rfl (lv_at hl 4 rfl) ?_
        refine z_aloadQ hx hb dX6_share_40 (lv_at hl 0 rfl) ?_
        refine zCv w (va_runV (As := [.int e2, .int t, va_rf (car (zix d t))]) (rest := []) ⟨hx, hb, hml, hown, hts⟩ (kX6_carry l G h e2 t (car (zix d t)) p_e p_t (fun v q => ⟨_, zCT_q hct p_d p_t q⟩) H.size) (cwV 3 hts gX6_share_X6_carry rfl rfl rfl (by decide +kernel) ⟨(Nat.le_of_ble_eq_true rfl), (Nat.le_of_ble_eq_true rfl)⟩) (zPV w hK (px_recv (r := (RX6, TX6, 4)) hK w mo fo rfl)) rfl rfl hl.1 rfl (lv_room (Nat.le_of_ble_eq_true rfl)) dX6_share_42 ⟨(Nat.le_of_ble_eq_true rfl), (Nat.le_of_ble_eq_true rfl)⟩) (fun u H locs hq w => ?_)
        subst hq
        refine z_aloadQ hx hb dX6_share_45 (lv_at hl 0 rfl) ?_
        refine zCl w (va_runS (As := [va_rf (car (zix d t))]) (rest := []) ⟨hx, hb, hml, hown, hts⟩ (kX6_oneIfThere l G _ (car (zix d t)) H.size) (va_cwS 1 hts gX6_share_X6_oneIfThere rfl rfl rfl (by decide +kernel) ⟨(Nat.le_of_ble_eq_true rfl), (Nat.le_of_ble_eq_true rfl)⟩) (zPS w hK) rfl rfl hl.1 rfl (lv_room (Nat.le_of_ble_eq_true rfl)) dX6_share_47 ⟨(Nat.le_of_ble_eq_true rfl), (Nat.le_of_ble_eq_true rfl)⟩) (fun r_10 u H locs hq w => ?_)
        obtain ⟨rfl, e_r⟩ := hq
        subst e_r
        exact zRl hx hb hr hlk w dX6_share_50 (Nat.le_of_ble_eq_true rfl) (Nat.le_of_ble_eq_true rfl) (by show (if _ then _ else _); first | (rw [if_pos ⟨p_d, p_e, p_t⟩]; exact ⟨rfl, rfl⟩) | (rw [if_neg (by intro q; simp_all)]; exact ⟨rfl, rfl⟩))
      · have p_t := z00 inferInstance e_r_7 c_8
        refine lv_aload_n hx hb dX6_share_21 rfl (lv_at hl 0 rfl) ?_
        refine lv_ldc2 hx hb hown (hts (.constantLong RX6 36 (1099511627776)) (by decide +kernel)) dX6_share_22 ?_
        refine zCl w (va_runV (As := [.long 1099511627776]) (rest := []) ⟨hx, hb, hml, hown, hts⟩ (kX6_refuse l G h zNONE zW1 H.size) (cwV 1 hts gX6_share_X6_refuse rfl rfl rfl (by decide +kernel) ⟨(Nat.le_of_ble_eq_true rfl), (Nat.le_of_ble_eq_true rfl)⟩) (zPV w hK (px_recv (r := (RX6, TX6, 4)) hK w mo fo rfl)) rfl rfl hl.1 rfl (lv_room (Nat.le_of_ble_eq_true rfl)) dX6_share_25 ⟨(Nat.le_of_ble_eq_true rfl), (Nat.le_of_ble_eq_true rfl)⟩) (fun r_11 u H locs hq w => ?_)
        obtain ⟨rfl, e_r⟩ := hq
        subst e_r
        exact zRl hx hb hr hlk w dX6_share_28 (Nat.le_of_ble_eq_true rfl) (Nat.le_of_ble_eq_true rfl) (by show (if _ then _ else _); first | (rw [if_pos ⟨p_d, p_e, p_t⟩]; exact ⟨rfl, rfl⟩) | (rw [if_neg (by intro q; simp_all)]; exact ⟨rfl, rfl⟩))
set_option maxHeartbeats 4000000 in
set_option maxRecDepth 100000 in
theorem kX6_pin (l : Launch) (G : zG) {L : List Nat} {f : Nat → va_E} {o ac aw ar : Nat} {ch : Option Nat} {car wa : Nat → Option Nat} {ta : Nat → Int32} (h : zBn G L f o ac aw ar ch car wa ta) (hct : zCT G L f car) (hwt : zWT G L f wa) (t y d : Int32) (sz : Nat) : zMl l yX6_pin wsX6_pin { frames := 3, cells := 0, slots := 0, locals := 65 } G [.ref o, .int t, .int y, .int d] (va_pl L f) sz (fun r u => if zFour d then (if zRoF f wa t y = 0 then (u = va_pl L (va_up f (vB f (zWa wa t)) (.inl (G.2 5, vN f (zWa wa t), zQ (va_up (vQ f (zWa wa t)) y.toNatClampNeg (car (zix d t)))))) ∧ r = if (car (zix d t)) = none then 0 else 1) else zRefP G L f ar ta (zRoF f wa t y) r u) else zRefP G L f ar ta zNONE r u) 0 0 := by
  refine zIn (Qc := fun A => va_Ql _ (zB G A) A) (cc := cX6_pin) (maxL := 7) (ret := (some .long)) (by decide) rfl (Nat.le_of_ble_eq_true rfl) ?_
  intro p e s m below meth c A ls hx hb hr hlk hml hts hown hnm hK w hl
  have hown : s.vm.findClass RX6 = some m.cls := hown
  have hl : lv_has ls 7 [(0, .ref o), (1, .int t), (2, .int y), (3, .int d)] := hl
  obtain ⟨⟨mo, mc, mw, mr⟩, fo, fc, fw, fr⟩ := id h
  refine lv_iload_n hx hb dX6_pin_0 rfl (lv_at hl 3 rfl) ?_
  refine zCi w (va_runS (As := [.int d]) (rest := []) ⟨hx, hb, hml, hown, hts⟩ (kX6_isDeck l G _ d s.heap.size) (va_cwS 1 hts gX6_pin_X6_isDeck rfl rfl rfl (by decide +kernel) ⟨(Nat.le_of_ble_eq_true rfl), (Nat.le_of_ble_eq_true rfl)⟩) (zPS w hK) rfl rfl hl.1 rfl (lv_room (Nat.le_of_ble_eq_true rfl)) dX6_pin_1 ⟨(Nat.le_of_ble_eq_true rfl), (Nat.le_of_ble_eq_true rfl)⟩) (fun r_1 u H locs hq w => ?_)
  obtain ⟨rfl, e_r_1⟩ := hq
  refine lv_if_ne (tgt := 15) hx hb dX6_pin_4 (by decide) (fun c_2 => ?_) (fun c_2 => ?_)
  · have p_d := z01 inferInstance e_r_1 c_2
    refine lv_aload_n hx hb dX6_pin_15 rfl (lv_at hl 0 rfl) ?_
    refine lv_iload_n hx hb dX6_pin_16 rfl (lv_at hl 1 rfl) ?_
    refine lv_iload_n hx hb dX6_pin_17 rfl (lv_at hl 2 rfl) ?_
    refine zCl w (va_runV (As := [.int t, .int y]) (rest := []) ⟨hx, hb, hml, hown, hts⟩ (kX6_rowFault l G h hwt t y H.size) (cwV 2 hts gX6_pin_X6_rowFault rfl rfl rfl (by decide +kernel) ⟨(Nat.le_of_ble_eq_true rfl), (Nat.le_of_ble_eq_true rfl)⟩) (zPV w hK (px_recv (r := (RX6, TX6, 4)) hK w mo fo rfl)) rfl rfl hl.1 rfl (lv_room (Nat.le_of_ble_eq_true rfl)) dX6_pin_18 ⟨(Nat.le_of_ble_eq_true rfl), (Nat.le_of_ble_eq_true rfl)⟩) (fun r_3 u H locs hq w => ?_)
    obtain ⟨rfl, e_r⟩ := hq
    subst e_r
    refine lv_lstore (lv' := [(4, .long (zRoF f wa t y)), (0, .ref o), (1, .int t), (2, .int y), (3, .int d)]) hx hb dX6_pin_21 hl (by decide) rfl (fun ls hl => ?_)
    refine lv_lload hx hb dX6_pin_23 (lv_at hl 0 rfl) ?_
    refine lv_lconst (v := 0) hx hb dX6_pin_25 (by decide) ?_
    refine W.lcmp hx hb dX6_pin_26 ?_
    refine lv_if_eq (tgt := 37) hx hb dX6_pin_27 (by decide) (fun c_4 => ?_) (fun c_4 => ?_)
    · have p_f := zcmp0 c_4
      obtain ⟨hf0, hy⟩ := zRoF_0 p_f
      obtain ⟨ht, hwa⟩ := zWF_0 hf0
      have hW := zWT_at hwt hf0
      have hyi := zin12 hy hW.2.2.2.2.1
      refine lv_aload_n hx hb dX6_pin_37 rfl (lv_at hl 1 rfl) ?_
      refine lv_iload_n hx hb dX6_pin_38 rfl (lv_at hl 4 rfl) ?_
      refine lv_iload_n hx hb dX6_pin_39 rfl (lv_at hl 2 rfl) ?_
      refine zCq w (va_runV (As := [.int d, .int t]) (rest := []) ⟨hx, hb, hml, hown, hts⟩ (kX6_reelOn l G h d t p_d ht H.size) (cwV 2 hts gX6_pin_X6_reelOn rfl rfl rfl (by decide +kernel) ⟨(Nat.le_of_ble_eq_true rfl), (Nat.le_of_ble_eq_true rfl)⟩) (zPV w hK (px_recv (r := (RX6, TX6, 4)) hK w mo fo rfl)) rfl rfl hl.1 rfl (lv_room (Nat.le_of_ble_eq_true rfl)) dX6_pin_40 ⟨(Nat.le_of_ble_eq_true rfl), (Nat.le_of_ble_eq_true rfl)⟩) (fun r_5 u H locs hq w => ?_)
      obtain ⟨rfl, e_r⟩ := hq
      subst e_r
      refine z_astoreQ (lv' := [(6, va_rf (car (zix d t))), (4, .long (zRoF f wa t y)), (0, .ref o), (1, .int t), (2, .int y), (3, .int d)]) hx hb dX6_pin_43 hl (by decide) rfl (fun ls hl => ?_)
      refine lv_aload_n hx hb dX6_pin_45 rfl (lv_at hl 2 rfl) ?_
      refine px_get (ci := 5) (C := RX6) (T := TX6) (N := 4) hx hb hts hown hK w mo (by decide +kernel) fo rfl 1 (by decide) (hts (.fieldLink RX6 17 "ReelBarn" "walls" "[LReelBarn$Wall;") (by decide +kernel)) (fun _ h9 => h9) rfl dX6_pin_46 ?_
      refine lv_iload_n hx hb dX6_pin_49 rfl (lv_at hl 3 rfl) ?_
      refine px_aldW hx hb hK w mw fw (zfour_in ht) dX6_pin_50 ?_
      rw [hwa]
      refine px_get (ci := 3) (C := RX4) (T := TX4) (N := 1) hx hb hts hown hK w hW.1 (by decide +kernel) hW.2.2.1 rfl 0 (by decide) (hts (.fieldLink RX6 120 "ReelBarn$Wall" "rows" "[LReelBarn$Reel;") (by decide +kernel)) (fun _ h9 => h9) rfl dX6_pin_51 ?_
      refine lv_iload_n hx hb dX6_pin_54 rfl (lv_at hl 4 rfl) ?_
      refine z_aloadQ hx hb dX6_pin_55 (lv_at hl 0 rfl) ?_
      refine px_astRQ hx hb hK w hW.2.1 hW.2.2.2.1 (fun v q => ⟨_, zCT_q hct p_d ht q⟩) hyi dX6_pin_57 (fun H locs w => ?_)
      refine z_aloadQ hx hb dX6_pin_58 (lv_at hl 0 rfl) ?_
      refine zCl w (va_runS (As := [va_rf (car (zix d t))]) (rest := []) ⟨hx, hb, hml, hown, hts⟩ (kX6_oneIfThere l G _ (car (zix d t)) H.size) (va_cwS 1 hts gX6_pin_X6_oneIfThere rfl rfl rfl (by decide +kernel) ⟨(Nat.le_of_ble_eq_true rfl), (Nat.le_of_ble_eq_true rfl)⟩) (zPS w hK) rfl rfl hl.1 rfl (lv_room (Nat.le_of_ble_eq_true rfl)) dX6_pin_60 ⟨(Nat.le_of_ble_eq_true rfl), (Nat.le_of_ble_eq_true rfl)⟩) (fun r_6 u H locs hq w => ?_)
      obtain ⟨rfl, e_r⟩ := hq
      subst e_r
      exact zRl hx hb hr hlk w dX6_pin_63 (Nat.le_of_ble_eq_true rfl) (Nat.le_of_ble_eq_true rfl) (by show (if _ then _ else _); (first | rw [if_pos p_d] | rw [if_neg p_d]); (first | rw [if_pos p_f] | rw [if_neg p_f]); (first | exact ⟨rfl, rfl⟩ | exact ⟨rfl, by rw [hsN]⟩))
    · have p_f := zcmp1 c_4
      refine lv_aload_n hx hb dX6_pin_30 rfl (lv_at hl 1 rfl) ?_
      refine lv_lload hx hb dX6_pin_31 (lv_at hl 0 rfl) ?_
      refine zCl w (va_runV (As := [.long (zRoF f wa t y)]) (rest := []) ⟨hx, hb, hml, hown, hts⟩ (kX6_refuse l G h (zRoF f wa t y) (zRoF_why p_f) H.size) (cwV 1 hts gX6_pin_X6_refuse rfl rfl rfl (by decide +kernel) ⟨(Nat.le_of_ble_eq_true rfl), (Nat.le_of_ble_eq_true rfl)⟩) (zPV w hK (px_recv (r := (RX6, TX6, 4)) hK w mo fo rfl)) rfl rfl hl.1 rfl (lv_room (Nat.le_of_ble_eq_true rfl)) dX6_pin_33 ⟨(Nat.le_of_ble_eq_true rfl), (Nat.le_of_ble_eq_true rfl)⟩) (fun r_7 u H locs hq w => ?_)
      obtain ⟨rfl, e_r⟩ := hq
      subst e_r
      exact zRl hx hb hr hlk w dX6_pin_36 (Nat.le_of_ble_eq_true rfl) (Nat.le_of_ble_eq_true rfl) (by show (if _ then _ else _); (first | rw [if_pos p_d] | rw [if_neg p_d]); (first | rw [if_pos p_f] | rw [if_neg p_f]); (first | exact ⟨rfl, rfl⟩ | exact ⟨rfl, by rw [hsN]⟩))
  · have p_d := z00 inferInstance e_r_1 c_2
    refine lv_aload_n hx hb dX6_pin_7 rfl (lv_at hl 0 rfl) ?_
    refine lv_ldc2 hx hb hown (hts (.constantLong RX6 36 (1099511627776)) (by decide +kernel)) dX6_pin_8 ?_
    refine zCl w (va_runV (As := [.long 1099511627776]) (rest := []) ⟨hx, hb, hml, hown, hts⟩ (kX6_refuse l G h zNONE zW1 H.size) (cwV 1 hts gX6_pin_X6_refuse rfl rfl rfl (by decide +kernel) ⟨(Nat.le_of_ble_eq_true rfl), (Nat.le_of_ble_eq_true rfl)⟩) (zPV w hK (px_recv (r := (RX6, TX6, 4)) hK w mo fo rfl)) rfl rfl hl.1 rfl (lv_room (Nat.le_of_ble_eq_true rfl)) dX6_pin_11 ⟨(Nat.le_of_ble_eq_true rfl), (Nat.le_of_ble_eq_true rfl)⟩) (fun r_8 u H locs hq w => ?_)
    obtain ⟨rfl, e_r⟩ := hq
    subst e_r
    exact zRl hx hb hr hlk w dX6_pin_14 (Nat.le_of_ble_eq_true rfl) (Nat.le_of_ble_eq_true rfl) (by show (if _ then _ else _); (first | rw [if_pos p_d] | rw [if_neg p_d]); (first | exact ⟨rfl, rfl⟩ | exact ⟨rfl, by rw [hsN]⟩))
set_option maxHeartbeats 4000000 in
set_option maxRecDepth 100000 in
theorem kX6_peel (l : Launch) (G : zG) {L : List Nat} {f : Nat → va_E} {o ac aw ar : Nat} {ch : Option Nat} {car wa : Nat → Option Nat} {ta : Nat → Int32} (h : zBn G L f o ac aw ar ch car wa ta) (hct : zCT G L f car) (hwt : zWT G L f wa) (t y d : Int32) (sz : Nat) : zMl l yX6_peel wsX6_peel { frames := 3, cells := 0, slots := 0, locals := 65 } G [.ref o, .int t, .int y, .int d] (va_pl L f) sz (fun r u => if zFour d then (if zRoF f wa t y = 0 then (u = zCarW G L f ac (va_up car (zix d t) (vQ f (zWa wa t) y.toNatClampNeg)) ∧ r = if (vQ f (zWa wa t) y.toNatClampNeg) = none then 0 else 1) else zRefP G L f ar ta (zRoF f wa t y) r u) else zRefP G L f ar ta zNONE r u) 0 0 := by
  refine zIn (Qc := fun A => va_Ql _ (zB G A) A) (cc := cX6_peel) (maxL := 7) (ret := (some .long)) (by decide) rfl (Nat.le_of_ble_eq_true rfl) ?_
  intro p e s m below meth c A ls hx hb hr hlk hml hts hown hnm hK w hl
  have hown : s.vm.findClass RX6 = some m.cls := hown
  have hl : lv_has ls 7 [(0, .ref o), (1, .int t), (2, .int y), (3, .int d)] := hl
  obtain ⟨⟨mo, mc, mw, mr⟩, fo, fc, fw, fr⟩ := id h
  refine lv_iload_n hx hb dX6_peel_0 rfl (lv_at hl 3 rfl) ?_
  refine zCi w (va_runS (As := [.int d]) (rest := []) ⟨hx, hb, hml, hown, hts⟩ (kX6_isDeck l G _ d s.heap.size) (va_cwS 1 hts gX6_peel_X6_isDeck rfl rfl rfl (by decide +kernel) ⟨(Nat.le_of_ble_eq_true rfl), (Nat.le_of_ble_eq_true rfl)⟩) (zPS w hK) rfl rfl hl.1 rfl (lv_room (Nat.le_of_ble_eq_true rfl)) dX6_peel_1 ⟨(Nat.le_of_ble_eq_true rfl), (Nat.le_of_ble_eq_true rfl)⟩) (fun r_1 u H locs hq w => ?_)
  obtain ⟨rfl, e_r_1⟩ := hq
  refine lv_if_ne (tgt := 15) hx hb dX6_peel_4 (by decide) (fun c_2 => ?_) (fun c_2 => ?_)
  · have p_d := z01 inferInstance e_r_1 c_2
    refine lv_aload_n hx hb dX6_peel_15 rfl (lv_at hl 0 rfl) ?_
    refine lv_iload_n hx hb dX6_peel_16 rfl (lv_at hl 1 rfl) ?_
    refine lv_iload_n hx hb dX6_peel_17 rfl (lv_at hl 2 rfl) ?_
    refine zCl w (va_runV (As := [.int t, .int y]) (rest := []) ⟨hx, hb, hml, hown, hts⟩ (kX6_rowFault l G h hwt t y H.size) (cwV 2 hts gX6_peel_X6_rowFault rfl rfl rfl (by decide +kernel) ⟨(Nat.le_of_ble_eq_true rfl), (Nat.le_of_ble_eq_true rfl)⟩) (zPV w hK (px_recv (r := (RX6, TX6, 4)) hK w mo fo rfl)) rfl rfl hl.1 rfl (lv_room (Nat.le_of_ble_eq_true rfl)) dX6_peel_18 ⟨(Nat.le_of_ble_eq_true rfl), (Nat.le_of_ble_eq_true rfl)⟩) (fun r_3 u H locs hq w => ?_)
    obtain ⟨rfl, e_r⟩ := hq
    subst e_r
    refine lv_lstore (lv' := [(4, .long (zRoF f wa t y)), (0, .ref o), (1, .int t), (2, .int y), (3, .int d)]) hx hb dX6_peel_21 hl (by decide) rfl (fun ls hl => ?_)
    refine lv_lload hx hb dX6_peel_23 (lv_at hl 0 rfl) ?_
    refine lv_lconst (v := 0) hx hb dX6_peel_25 (by decide) ?_
    refine W.lcmp hx hb dX6_peel_26 ?_
    refine lv_if_eq (tgt := 37) hx hb dX6_peel_27 (by decide) (fun c_4 => ?_) (fun c_4 => ?_)
    · have p_f := zcmp0 c_4
      obtain ⟨hf0, hy⟩ := zRoF_0 p_f
      obtain ⟨ht, hwa⟩ := zWF_0 hf0
      have hW := zWT_at hwt hf0
      have hyi := zin12 hy hW.2.2.2.2.1
      refine lv_aload_n hx hb dX6_peel_37 rfl (lv_at hl 1 rfl) ?_
      refine px_get (ci := 5) (C := RX6) (T := TX6) (N := 4) hx hb hts hown hK w mo (by decide +kernel) fo rfl 1 (by decide) (hts (.fieldLink RX6 17 "ReelBarn" "walls" "[LReelBarn$Wall;") (by decide +kernel)) (fun _ h9 => h9) rfl dX6_peel_38 ?_
      refine lv_iload_n hx hb dX6_peel_41 rfl (lv_at hl 2 rfl) ?_
      refine px_aldW hx hb hK w mw fw (zfour_in ht) dX6_peel_42 ?_
      rw [hwa]
      refine px_get (ci := 3) (C := RX4) (T := TX4) (N := 1) hx hb hts hown hK w hW.1 (by decide +kernel) hW.2.2.1 rfl 0 (by decide) (hts (.fieldLink RX6 120 "ReelBarn$Wall" "rows" "[LReelBarn$Reel;") (by decide +kernel)) (fun _ h9 => h9) rfl dX6_peel_43 ?_
      refine lv_iload_n hx hb dX6_peel_46 rfl (lv_at hl 3 rfl) ?_
      refine px_aldR hx hb hK w hW.2.1 hW.2.2.2.1 hyi dX6_peel_47 ?_
      refine z_astoreQ (lv' := [(6, va_rf (vQ f (zWa wa t) y.toNatClampNeg)), (4, .long (zRoF f wa t y)), (0, .ref o), (1, .int t), (2, .int y), (3, .int d)]) hx hb dX6_peel_48 hl (by decide) rfl (fun ls hl => ?_)
      refine lv_aload_n hx hb dX6_peel_50 rfl (lv_at hl 2 rfl) ?_
      refine lv_iload_n hx hb dX6_peel_51 rfl (lv_at hl 5 rfl) ?_
      refine lv_iload_n hx hb dX6_peel_52 rfl (lv_at hl 3 rfl) ?_
      refine z_aloadQ hx hb dX6_peel_53 (lv_at hl 0 rfl) ?_
      refine zCv w (va_runV (As := [.int d, .int t, va_rf (vQ f (zWa wa t) y.toNatClampNeg)]) (rest := []) ⟨hx, hb, hml, hown, hts⟩ (kX6_carry l G h d t (vQ f (zWa wa t) y.toNatClampNeg) p_d ht (fun v q => ⟨_, hW.2.2.2.2.2 _ (zin_lt hyi) v q⟩) H.size) (cwV 3 hts gX6_peel_X6_carry rfl rfl rfl (by decide +kernel) ⟨(Nat.le_of_ble_eq_true rfl), (Nat.le_of_ble_eq_true rfl)⟩) (zPV w hK (px_recv (r := (RX6, TX6, 4)) hK w mo fo rfl)) rfl rfl hl.1 rfl (lv_room (Nat.le_of_ble_eq_true rfl)) dX6_peel_55 ⟨(Nat.le_of_ble_eq_true rfl), (Nat.le_of_ble_eq_true rfl)⟩) (fun u H locs hq w => ?_)
      subst hq
      refine z_aloadQ hx hb dX6_peel_58 (lv_at hl 0 rfl) ?_
      refine zCl w (va_runS (As := [va_rf (vQ f (zWa wa t) y.toNatClampNeg)]) (rest := []) ⟨hx, hb, hml, hown, hts⟩ (kX6_oneIfThere l G _ (vQ f (zWa wa t) y.toNatClampNeg) H.size) (va_cwS 1 hts gX6_peel_X6_oneIfThere rfl rfl rfl (by decide +kernel) ⟨(Nat.le_of_ble_eq_true rfl), (Nat.le_of_ble_eq_true rfl)⟩) (zPS w hK) rfl rfl hl.1 rfl (lv_room (Nat.le_of_ble_eq_true rfl)) dX6_peel_60 ⟨(Nat.le_of_ble_eq_true rfl), (Nat.le_of_ble_eq_true rfl)⟩) (fun r_5 u H locs hq w => ?_)
      obtain ⟨rfl, e_r⟩ := hq
      subst e_r
      exact zRl hx hb hr hlk w dX6_peel_63 (Nat.le_of_ble_eq_true rfl) (Nat.le_of_ble_eq_true rfl) (by show (if _ then _ else _); (first | rw [if_pos p_d] | rw [if_neg p_d]); (first | rw [if_pos p_f] | rw [if_neg p_f]); (first | exact ⟨rfl, rfl⟩ | exact ⟨rfl, by rw [hsN]⟩))
    · have p_f := zcmp1 c_4
      refine lv_aload_n hx hb dX6_peel_30 rfl (lv_at hl 1 rfl) ?_
      refine lv_lload hx hb dX6_peel_31 (lv_at hl 0 rfl) ?_
      refine zCl w (va_runV (As := [.long (zRoF f wa t y)]) (rest := []) ⟨hx, hb, hml, hown, hts⟩ (kX6_refuse l G h (zRoF f wa t y) (zRoF_why p_f) H.size) (cwV 1 hts gX6_peel_X6_refuse rfl rfl rfl (by decide +kernel) ⟨(Nat.le_of_ble_eq_true rfl), (Nat.le_of_ble_eq_true rfl)⟩) (zPV w hK (px_recv (r := (RX6, TX6, 4)) hK w mo fo rfl)) rfl rfl hl.1 rfl (lv_room (Nat.le_of_ble_eq_true rfl)) dX6_peel_33 ⟨(Nat.le_of_ble_eq_true rfl), (Nat.le_of_ble_eq_true rfl)⟩) (fun r_6 u H locs hq w => ?_)
      obtain ⟨rfl, e_r⟩ := hq
      subst e_r
      exact zRl hx hb hr hlk w dX6_peel_36 (Nat.le_of_ble_eq_true rfl) (Nat.le_of_ble_eq_true rfl) (by show (if _ then _ else _); (first | rw [if_pos p_d] | rw [if_neg p_d]); (first | rw [if_pos p_f] | rw [if_neg p_f]); (first | exact ⟨rfl, rfl⟩ | exact ⟨rfl, by rw [hsN]⟩))
  · have p_d := z00 inferInstance e_r_1 c_2
    refine lv_aload_n hx hb dX6_peel_7 rfl (lv_at hl 0 rfl) ?_
    refine lv_ldc2 hx hb hown (hts (.constantLong RX6 36 (1099511627776)) (by decide +kernel)) dX6_peel_8 ?_
    refine zCl w (va_runV (As := [.long 1099511627776]) (rest := []) ⟨hx, hb, hml, hown, hts⟩ (kX6_refuse l G h zNONE zW1 H.size) (cwV 1 hts gX6_peel_X6_refuse rfl rfl rfl (by decide +kernel) ⟨(Nat.le_of_ble_eq_true rfl), (Nat.le_of_ble_eq_true rfl)⟩) (zPV w hK (px_recv (r := (RX6, TX6, 4)) hK w mo fo rfl)) rfl rfl hl.1 rfl (lv_room (Nat.le_of_ble_eq_true rfl)) dX6_peel_11 ⟨(Nat.le_of_ble_eq_true rfl), (Nat.le_of_ble_eq_true rfl)⟩) (fun r_7 u H locs hq w => ?_)
    obtain ⟨rfl, e_r⟩ := hq
    subst e_r
    exact zRl hx hb hr hlk w dX6_peel_14 (Nat.le_of_ble_eq_true rfl) (Nat.le_of_ble_eq_true rfl) (by show (if _ then _ else _); (first | rw [if_pos p_d] | rw [if_neg p_d]); (first | exact ⟨rfl, rfl⟩ | exact ⟨rfl, by rw [hsN]⟩))
set_option maxHeartbeats 4000000 in
set_option maxRecDepth 100000 in
theorem kX6_spot (l : Launch) (G : zG) {L : List Nat} {f : Nat → va_E} {o ac aw ar : Nat} {ch : Option Nat} {car wa : Nat → Option Nat} {ta : Nat → Int32} (h : zBn G L f o ac aw ar ch car wa ta) (hct : zCT G L f car) (hwt : zWT G L f wa) (t y i : Int32) (sz : Nat) : zMl l yX6_spot wsX6_spot { frames := 5, cells := 0, slots := 0, locals := 114 } G [.ref o, .int t, .int y, .int i] (va_pl L f) sz (fun r u => if zWP f wa t y i = 0 then (u = va_pl L f ∧ r = (zTold (zS t) (vI f (zWx f wa t y)) (vF f (zWx f wa t y)) i.toNatClampNeg).toInt64) else zRefP G L f ar ta (zWP f wa t y i) r u) 0 0 := by
  refine zIn (Qc := fun A => va_Ql _ (zB G A) A) (cc := cX6_spot) (maxL := 6) (ret := (some .long)) (by decide) rfl (Nat.le_of_ble_eq_true rfl) ?_
  intro p e s m below meth c A ls hx hb hr hlk hml hts hown hnm hK w hl
  have hown : s.vm.findClass RX6 = some m.cls := hown
  have hl : lv_has ls 6 [(0, .ref o), (1, .int t), (2, .int y), (3, .int i)] := hl
  obtain ⟨⟨mo, mc, mw, mr⟩, fo, fc, fw, fr⟩ := id h
  refine lv_aload_n hx hb dX6_spot_0 rfl (lv_at hl 0 rfl) ?_
  refine lv_iload_n hx hb dX6_spot_1 rfl (lv_at hl 1 rfl) ?_
  refine lv_iload_n hx hb dX6_spot_2 rfl (lv_at hl 2 rfl) ?_
  refine lv_iload_n hx hb dX6_spot_3 rfl (lv_at hl 3 rfl) ?_
  refine zCl w (va_runV (As := [.int t, .int y, .int i]) (rest := []) ⟨hx, hb, hml, hown, hts⟩ (kX6_wallPlaceFault l G h hwt t y i s.heap.size) (cwV 3 hts gX6_spot_X6_wallPlaceFault rfl rfl rfl (by decide +kernel) ⟨(Nat.le_of_ble_eq_true rfl), (Nat.le_of_ble_eq_true rfl)⟩) (zPV w hK (px_recv (r := (RX6, TX6, 4)) hK w mo fo rfl)) rfl rfl hl.1 rfl (lv_room (Nat.le_of_ble_eq_true rfl)) dX6_spot_4 ⟨(Nat.le_of_ble_eq_true rfl), (Nat.le_of_ble_eq_true rfl)⟩) (fun r_1 u H locs hq w => ?_)
  obtain ⟨rfl, e_r⟩ := hq
  subst e_r
  refine lv_lstore (lv' := [(4, .long (zWP f wa t y i)), (0, .ref o), (1, .int t), (2, .int y), (3, .int i)]) hx hb dX6_spot_7 hl (by decide) rfl (fun ls hl => ?_)
  refine lv_lload hx hb dX6_spot_9 (lv_at hl 0 rfl) ?_
  refine lv_lconst (v := 0) hx hb dX6_spot_11 (by decide) ?_
  refine W.lcmp hx hb dX6_spot_12 ?_
  refine lv_if_eq (tgt := 23) hx hb dX6_spot_13 (by decide) (fun c_2 => ?_) (fun c_2 => ?_)
  · have p_f := zcmp0 c_2
    obtain ⟨p_1, hh⟩ := zWP_0 p_f
    obtain ⟨hf1, hxe⟩ := zWR_0 p_1
    have hA := zWT_x hwt p_1
    obtain ⟨hf0, hy⟩ := zRoF_0 hf1
    obtain ⟨ht, hwa⟩ := zWF_0 hf0
    have hW := zWT_at hwt hf0
    have hyi := zin12 hy hW.2.2.2.2.1
    obtain ⟨sN, hsN⟩ : ∃ sN, sN = zS t := ⟨_, rfl⟩
    rw [← hsN] at hA
    have hs : sN = 0 ∨ sN = 1 ∨ sN = 2 ∨ sN = 3 := by rw [hsN]; exact zS_or ht
    unfold zRA at hA
    have hi := zin40 hh hA.2.2.2.2.1
    refine lv_aload_n hx hb dX6_spot_23 rfl (lv_at hl 1 rfl) ?_
    refine px_get (ci := 5) (C := RX6) (T := TX6) (N := 4) hx hb hts hown hK w mo (by decide +kernel) fo rfl 1 (by decide) (hts (.fieldLink RX6 17 "ReelBarn" "walls" "[LReelBarn$Wall;") (by decide +kernel)) (fun _ h9 => h9) rfl dX6_spot_24 ?_
    refine lv_iload_n hx hb dX6_spot_27 rfl (lv_at hl 2 rfl) ?_
    refine px_aldW hx hb hK w mw fw (zfour_in ht) dX6_spot_28 ?_
    rw [hwa]
    refine px_get (ci := 3) (C := RX4) (T := TX4) (N := 1) hx hb hts hown hK w hW.1 (by decide +kernel) hW.2.2.1 rfl 0 (by decide) (hts (.fieldLink RX6 120 "ReelBarn$Wall" "rows" "[LReelBarn$Reel;") (by decide +kernel)) (fun _ h9 => h9) rfl dX6_spot_29 ?_
    refine lv_iload_n hx hb dX6_spot_32 rfl (lv_at hl 3 rfl) ?_
    refine px_aldR hx hb hK w hW.2.1 hW.2.2.2.1 hyi dX6_spot_33 ?_
    rw [hxe]
    refine lv_iload_n hx hb dX6_spot_34 rfl (lv_at hl 4 rfl) ?_
    refine zCi (post := fun r u => u = va_pl L f ∧ r = zTold sN (vI f (zWx f wa t y)) (vF f (zWx f wa t y)) i.toNatClampNeg) (mc := 0) (ms := 0) (rest := []) (av := (Value.ref (zWx f wa t y) :: [.int i]).toArray) w (by
        rcases hs with rfl | rfl | rfl | rfl
        · exact va_runU (As := [.int i]) (rest := []) ⟨hx, hb, hml, hown, hts⟩ (kX2_told l G hA i hi H.size) (va_cwA 1 hts gX6_spot_X2_told_u73X2 rfl rfl rfl hK.2.1.2.1 (by decide +kernel) ⟨(Nat.le_of_ble_eq_true rfl), (Nat.le_of_ble_eq_true rfl)⟩) (zPV w hK (px_recv (ci := 2) (fs := [.ref (vB f (zWx f wa t y))]) (r := (RX2, TX2, 1)) hK w (hA.1) (hA.2.2.1) rfl)) rfl rfl hl.1 rfl (lv_room (Nat.le_of_ble_eq_true rfl)) dX6_spot_35 ⟨(Nat.le_of_ble_eq_true rfl), (Nat.le_of_ble_eq_true rfl)⟩
        · exact va_runU (As := [.int i]) (rest := []) ⟨hx, hb, hml, hown, hts⟩ (kX5_told l G hA i hi H.size) (va_cwA 1 hts gX6_spot_X5_told_u73X5 rfl rfl rfl hK.2.1.2.1 (by decide +kernel) ⟨(Nat.le_of_ble_eq_true rfl), (Nat.le_of_ble_eq_true rfl)⟩) (zPV w hK (px_recv (ci := 4) (fs := [.ref (vB f (zWx f wa t y))]) (r := (RX5, TX5, 1)) hK w (hA.1) (hA.2.2.1) rfl)) rfl rfl hl.1 rfl (lv_room (Nat.le_of_ble_eq_true rfl)) dX6_spot_35 ⟨(Nat.le_of_ble_eq_true rfl), (Nat.le_of_ble_eq_true rfl)⟩
        · exact va_runU (As := [.int i]) (rest := []) ⟨hx, hb, hml, hown, hts⟩ (kX0_told l G hA i hi H.size) (va_cwA 1 hts gX6_spot_X0_told_u73X0 rfl rfl rfl hK.2.1.2.1 (by decide +kernel) ⟨(Nat.le_of_ble_eq_true rfl), (Nat.le_of_ble_eq_true rfl)⟩) (zPV w hK (px_recv (ci := 0) (fs := [.ref (vB f (zWx f wa t y))]) (r := (RX0, TX0, 1)) hK w (hA.1) (hA.2.2.1) rfl)) rfl rfl hl.1 rfl (lv_room (Nat.le_of_ble_eq_true rfl)) dX6_spot_35 ⟨(Nat.le_of_ble_eq_true rfl), (Nat.le_of_ble_eq_true rfl)⟩
        · exact va_runU (As := [.int i]) (rest := []) ⟨hx, hb, hml, hown, hts⟩ (kX1_told l G hA i hi H.size) (va_cwA 1 hts gX6_spot_X1_told_u73X1 rfl rfl rfl hK.2.1.2.1 (by decide +kernel) ⟨(Nat.le_of_ble_eq_true rfl), (Nat.le_of_ble_eq_true rfl)⟩) (zPV w hK (px_recv (ci := 1) (fs := [.ref (vB f (zWx f wa t y))]) (r := (RX1, TX1, 1)) hK w (hA.1) (hA.2.2.1) rfl)) rfl rfl hl.1 rfl (lv_room (Nat.le_of_ble_eq_true rfl)) dX6_spot_35 ⟨(Nat.le_of_ble_eq_true rfl), (Nat.le_of_ble_eq_true rfl)⟩) (fun r_3 u H locs hq w => ?_)
    obtain ⟨rfl, e_r⟩ := hq
    subst e_r
    refine lv_i2l hx hb dX6_spot_38 rfl ?_
    exact zRl hx hb hr hlk w dX6_spot_39 (Nat.le_of_ble_eq_true rfl) (Nat.le_of_ble_eq_true rfl) (by show (if _ then _ else _); (first | rw [if_pos p_f] | rw [if_neg p_f]); (first | exact ⟨rfl, rfl⟩ | exact ⟨rfl, by rw [hsN]⟩))
  · have p_f := zcmp1 c_2
    refine lv_aload_n hx hb dX6_spot_16 rfl (lv_at hl 1 rfl) ?_
    refine lv_lload hx hb dX6_spot_17 (lv_at hl 0 rfl) ?_
    refine zCl w (va_runV (As := [.long (zWP f wa t y i)]) (rest := []) ⟨hx, hb, hml, hown, hts⟩ (kX6_refuse l G h (zWP f wa t y i) (zWP_why p_f) H.size) (cwV 1 hts gX6_spot_X6_refuse rfl rfl rfl (by decide +kernel) ⟨(Nat.le_of_ble_eq_true rfl), (Nat.le_of_ble_eq_true rfl)⟩) (zPV w hK (px_recv (r := (RX6, TX6, 4)) hK w mo fo rfl)) rfl rfl hl.1 rfl (lv_room (Nat.le_of_ble_eq_true rfl)) dX6_spot_19 ⟨(Nat.le_of_ble_eq_true rfl), (Nat.le_of_ble_eq_true rfl)⟩) (fun r_4 u H locs hq w => ?_)
    obtain ⟨rfl, e_r⟩ := hq
    subst e_r
    exact zRl hx hb hr hlk w dX6_spot_22 (Nat.le_of_ble_eq_true rfl) (Nat.le_of_ble_eq_true rfl) (by show (if _ then _ else _); (first | rw [if_pos p_f] | rw [if_neg p_f]); (first | exact ⟨rfl, rfl⟩ | exact ⟨rfl, by rw [hsN]⟩))
set_option maxHeartbeats 4000000 in
set_option maxRecDepth 100000 in
theorem kX6_paint (l : Launch) (G : zG) {L : List Nat} {f : Nat → va_E} {o ac aw ar : Nat} {ch : Option Nat} {car wa : Nat → Option Nat} {ta : Nat → Int32} (h : zBn G L f o ac aw ar ch car wa ta) (hct : zCT G L f car) (hwt : zWT G L f wa) (t y i x : Int32) (sz : Nat) : zMl l yX6_paint wsX6_paint { frames := 5, cells := 0, slots := 0, locals := 114 } G [.ref o, .int t, .int y, .int i, .int x] (va_pl L f) sz (fun r u => if zWP f wa t y i = 0 then (u = zPutW G L f (zS t) (zWx f wa t y) (zPuI (zS t) (vI f (zWx f wa t y)) i.toNatClampNeg x) (zPuF (zS t) (vF f (zWx f wa t y)) i.toNatClampNeg (zEi x)) ∧ r = (zTold (zS t) (zPuI (zS t) (vI f (zWx f wa t y)) i.toNatClampNeg x) (zPuF (zS t) (vF f (zWx f wa t y)) i.toNatClampNeg (zEi x)) i.toNatClampNeg).toInt64) else zRefP G L f ar ta (zWP f wa t y i) r u) 0 0 := by
  refine zIn (Qc := fun A => va_Ql _ (zB G A) A) (cc := cX6_paint) (maxL := 8) (ret := (some .long)) (by decide) rfl (Nat.le_of_ble_eq_true rfl) ?_
  intro p e s m below meth c A ls hx hb hr hlk hml hts hown hnm hK w hl
  have hown : s.vm.findClass RX6 = some m.cls := hown
  have hl : lv_has ls 8 [(0, .ref o), (1, .int t), (2, .int y), (3, .int i), (4, .int x)] := hl
  obtain ⟨⟨mo, mc, mw, mr⟩, fo, fc, fw, fr⟩ := id h
  refine lv_aload_n hx hb dX6_paint_0 rfl (lv_at hl 0 rfl) ?_
  refine lv_iload_n hx hb dX6_paint_1 rfl (lv_at hl 1 rfl) ?_
  refine lv_iload_n hx hb dX6_paint_2 rfl (lv_at hl 2 rfl) ?_
  refine lv_iload_n hx hb dX6_paint_3 rfl (lv_at hl 3 rfl) ?_
  refine zCl w (va_runV (As := [.int t, .int y, .int i]) (rest := []) ⟨hx, hb, hml, hown, hts⟩ (kX6_wallPlaceFault l G h hwt t y i s.heap.size) (cwV 3 hts gX6_paint_X6_wallPlaceFault rfl rfl rfl (by decide +kernel) ⟨(Nat.le_of_ble_eq_true rfl), (Nat.le_of_ble_eq_true rfl)⟩) (zPV w hK (px_recv (r := (RX6, TX6, 4)) hK w mo fo rfl)) rfl rfl hl.1 rfl (lv_room (Nat.le_of_ble_eq_true rfl)) dX6_paint_4 ⟨(Nat.le_of_ble_eq_true rfl), (Nat.le_of_ble_eq_true rfl)⟩) (fun r_1 u H locs hq w => ?_)
  obtain ⟨rfl, e_r⟩ := hq
  subst e_r
  refine lv_lstore (lv' := [(5, .long (zWP f wa t y i)), (0, .ref o), (1, .int t), (2, .int y), (3, .int i), (4, .int x)]) hx hb dX6_paint_7 hl (by decide) rfl (fun ls hl => ?_)
  refine lv_lload hx hb dX6_paint_9 (lv_at hl 0 rfl) ?_
  refine lv_lconst (v := 0) hx hb dX6_paint_11 (by decide) ?_
  refine W.lcmp hx hb dX6_paint_12 ?_
  refine lv_if_eq (tgt := 23) hx hb dX6_paint_13 (by decide) (fun c_2 => ?_) (fun c_2 => ?_)
  · have p_f := zcmp0 c_2
    obtain ⟨p_1, hh⟩ := zWP_0 p_f
    obtain ⟨hf1, hxe⟩ := zWR_0 p_1
    have hA := zWT_x hwt p_1
    obtain ⟨hf0, hy⟩ := zRoF_0 hf1
    obtain ⟨ht, hwa⟩ := zWF_0 hf0
    have hW := zWT_at hwt hf0
    have hyi := zin12 hy hW.2.2.2.2.1
    obtain ⟨sN, hsN⟩ : ∃ sN, sN = zS t := ⟨_, rfl⟩
    rw [← hsN] at hA
    have hs : sN = 0 ∨ sN = 1 ∨ sN = 2 ∨ sN = 3 := by rw [hsN]; exact zS_or ht
    unfold zRA at hA
    have hi := zin40 hh hA.2.2.2.2.1
    refine lv_aload_n hx hb dX6_paint_23 rfl (lv_at hl 1 rfl) ?_
    refine px_get (ci := 5) (C := RX6) (T := TX6) (N := 4) hx hb hts hown hK w mo (by decide +kernel) fo rfl 1 (by decide) (hts (.fieldLink RX6 17 "ReelBarn" "walls" "[LReelBarn$Wall;") (by decide +kernel)) (fun _ h9 => h9) rfl dX6_paint_24 ?_
    refine lv_iload_n hx hb dX6_paint_27 rfl (lv_at hl 2 rfl) ?_
    refine px_aldW hx hb hK w mw fw (zfour_in ht) dX6_paint_28 ?_
    rw [hwa]
    refine px_get (ci := 3) (C := RX4) (T := TX4) (N := 1) hx hb hts hown hK w hW.1 (by decide +kernel) hW.2.2.1 rfl 0 (by decide) (hts (.fieldLink RX6 120 "ReelBarn$Wall" "rows" "[LReelBarn$Reel;") (by decide +kernel)) (fun _ h9 => h9) rfl dX6_paint_29 ?_
    refine lv_iload_n hx hb dX6_paint_32 rfl (lv_at hl 3 rfl) ?_
    refine px_aldR hx hb hK w hW.2.1 hW.2.2.2.1 hyi dX6_paint_33 ?_
    rw [hxe]
    refine lv_astore (lv' := [(7, .ref (zWx f wa t y)), (5, .long (zWP f wa t y i)), (0, .ref o), (1, .int t), (2, .int y), (3, .int i), (4, .int x)]) hx hb dX6_paint_34 hl (by decide) rfl (fun ls hl => ?_)
    refine lv_aload hx hb dX6_paint_36 (lv_at hl 0 rfl) ?_
    refine lv_iload_n hx hb dX6_paint_38 rfl (lv_at hl 5 rfl) ?_
    refine lv_iload hx hb dX6_paint_39 (lv_at hl 6 rfl) ?_
    refine zCv (post := fun u => u = zPutW G L f sN (zWx f wa t y) (zPuI sN (vI f (zWx f wa t y)) i.toNatClampNeg x) (zPuF sN (vF f (zWx f wa t y)) i.toNatClampNeg (zEi x))) (mc := 0) (ms := 0) (rest := []) (av := (Value.ref (zWx f wa t y) :: [.int i, .int x]).toArray) w (by
        rcases hs with rfl | rfl | rfl | rfl
        · exact va_runU (As := [.int i, .int x]) (rest := []) ⟨hx, hb, hml, hown, hts⟩ (kX2_put l G hA i x hi H.size) (va_cwA 2 hts gX6_paint_X2_put_u77X2 rfl rfl rfl hK.2.1.2.2 (by decide +kernel) ⟨(Nat.le_of_ble_eq_true rfl), (Nat.le_of_ble_eq_true rfl)⟩) (zPV w hK (px_recv (ci := 2) (fs := [.ref (vB f (zWx f wa t y))]) (r := (RX2, TX2, 1)) hK w (hA.1) (hA.2.2.1) rfl)) rfl rfl hl.1 rfl (lv_room (Nat.le_of_ble_eq_true rfl)) dX6_paint_41 ⟨(Nat.le_of_ble_eq_true rfl), (Nat.le_of_ble_eq_true rfl)⟩
        · exact va_runU (As := [.int i, .int x]) (rest := []) ⟨hx, hb, hml, hown, hts⟩ (kX5_put l G hA i x hi H.size) (va_cwA 2 hts gX6_paint_X5_put_u77X5 rfl rfl rfl hK.2.1.2.2 (by decide +kernel) ⟨(Nat.le_of_ble_eq_true rfl), (Nat.le_of_ble_eq_true rfl)⟩) (zPV w hK (px_recv (ci := 4) (fs := [.ref (vB f (zWx f wa t y))]) (r := (RX5, TX5, 1)) hK w (hA.1) (hA.2.2.1) rfl)) rfl rfl hl.1 rfl (lv_room (Nat.le_of_ble_eq_true rfl)) dX6_paint_41 ⟨(Nat.le_of_ble_eq_true rfl), (Nat.le_of_ble_eq_true rfl)⟩
        · exact va_runU (As := [.int i, .int x]) (rest := []) ⟨hx, hb, hml, hown, hts⟩ (kX0_put l G hA i x hi H.size) (va_cwA 2 hts gX6_paint_X0_put_u77X0 rfl rfl rfl hK.2.1.2.2 (by decide +kernel) ⟨(Nat.le_of_ble_eq_true rfl), (Nat.le_of_ble_eq_true rfl)⟩) (zPV w hK (px_recv (ci := 0) (fs := [.ref (vB f (zWx f wa t y))]) (r := (RX0, TX0, 1)) hK w (hA.1) (hA.2.2.1) rfl)) rfl rfl hl.1 rfl (lv_room (Nat.le_of_ble_eq_true rfl)) dX6_paint_41 ⟨(Nat.le_of_ble_eq_true rfl), (Nat.le_of_ble_eq_true rfl)⟩
        · exact va_runU (As := [.int i, .int x]) (rest := []) ⟨hx, hb, hml, hown, hts⟩ (kX1_put l G hA i x hi H.size) (va_cwA 2 hts gX6_paint_X1_put_u77X1 rfl rfl rfl hK.2.1.2.2 (by decide +kernel) ⟨(Nat.le_of_ble_eq_true rfl), (Nat.le_of_ble_eq_true rfl)⟩) (zPV w hK (px_recv (ci := 1) (fs := [.ref (vB f (zWx f wa t y))]) (r := (RX1, TX1, 1)) hK w (hA.1) (hA.2.2.1) rfl)) rfl rfl hl.1 rfl (lv_room (Nat.le_of_ble_eq_true rfl)) dX6_paint_41 ⟨(Nat.le_of_ble_eq_true rfl), (Nat.le_of_ble_eq_true rfl)⟩) (fun u H locs hq w => ?_)
    subst hq
    have hA2 := zRe_up (gi2 := zPuI sN (vI f (zWx f wa t y)) i.toNatClampNeg x) (gf2 := zPuF sN (vF f (zWx f wa t y)) i.toNatClampNeg (zEi x)) hA (zPuF_fin hA (zn32 (zEi_fin x).notNaN))
    refine lv_aload hx hb dX6_paint_44 (lv_at hl 0 rfl) ?_
    refine lv_iload_n hx hb dX6_paint_46 rfl (lv_at hl 5 rfl) ?_
    refine zCi (post := fun r u => u = zPutW G L f sN (zWx f wa t y) (zPuI sN (vI f (zWx f wa t y)) i.toNatClampNeg x) (zPuF sN (vF f (zWx f wa t y)) i.toNatClampNeg (zEi x)) ∧ r = zTold sN (zPuI sN (vI f (zWx f wa t y)) i.toNatClampNeg x) (zPuF sN (vF f (zWx f wa t y)) i.toNatClampNeg (zEi x)) i.toNatClampNeg) (mc := 0) (ms := 0) (rest := []) (av := (Value.ref (zWx f wa t y) :: [.int i]).toArray) w (by
        rcases hs with rfl | rfl | rfl | rfl
        · exact va_runU (As := [.int i]) (rest := []) ⟨hx, hb, hml, hown, hts⟩ (kX2_told l G hA2 i hi H.size) (va_cwA 1 hts gX6_paint_X2_told_u73X2 rfl rfl rfl hK.2.1.2.1 (by decide +kernel) ⟨(Nat.le_of_ble_eq_true rfl), (Nat.le_of_ble_eq_true rfl)⟩) (zPV w hK (px_recv (ci := 2) (fs := [.ref (vB f (zWx f wa t y))]) (r := (RX2, TX2, 1)) hK w (hA2.1) (hA2.2.2.1) rfl)) rfl rfl hl.1 rfl (lv_room (Nat.le_of_ble_eq_true rfl)) dX6_paint_47 ⟨(Nat.le_of_ble_eq_true rfl), (Nat.le_of_ble_eq_true rfl)⟩
        · exact va_runU (As := [.int i]) (rest := []) ⟨hx, hb, hml, hown, hts⟩ (kX5_told l G hA2 i hi H.size) (va_cwA 1 hts gX6_paint_X5_told_u73X5 rfl rfl rfl hK.2.1.2.1 (by decide +kernel) ⟨(Nat.le_of_ble_eq_true rfl), (Nat.le_of_ble_eq_true rfl)⟩) (zPV w hK (px_recv (ci := 4) (fs := [.ref (vB f (zWx f wa t y))]) (r := (RX5, TX5, 1)) hK w (hA2.1) (hA2.2.2.1) rfl)) rfl rfl hl.1 rfl (lv_room (Nat.le_of_ble_eq_true rfl)) dX6_paint_47 ⟨(Nat.le_of_ble_eq_true rfl), (Nat.le_of_ble_eq_true rfl)⟩
        · exact va_runU (As := [.int i]) (rest := []) ⟨hx, hb, hml, hown, hts⟩ (kX0_told l G hA2 i hi H.size) (va_cwA 1 hts gX6_paint_X0_told_u73X0 rfl rfl rfl hK.2.1.2.1 (by decide +kernel) ⟨(Nat.le_of_ble_eq_true rfl), (Nat.le_of_ble_eq_true rfl)⟩) (zPV w hK (px_recv (ci := 0) (fs := [.ref (vB f (zWx f wa t y))]) (r := (RX0, TX0, 1)) hK w (hA2.1) (hA2.2.2.1) rfl)) rfl rfl hl.1 rfl (lv_room (Nat.le_of_ble_eq_true rfl)) dX6_paint_47 ⟨(Nat.le_of_ble_eq_true rfl), (Nat.le_of_ble_eq_true rfl)⟩
        · exact va_runU (As := [.int i]) (rest := []) ⟨hx, hb, hml, hown, hts⟩ (kX1_told l G hA2 i hi H.size) (va_cwA 1 hts gX6_paint_X1_told_u73X1 rfl rfl rfl hK.2.1.2.1 (by decide +kernel) ⟨(Nat.le_of_ble_eq_true rfl), (Nat.le_of_ble_eq_true rfl)⟩) (zPV w hK (px_recv (ci := 1) (fs := [.ref (vB f (zWx f wa t y))]) (r := (RX1, TX1, 1)) hK w (hA2.1) (hA2.2.2.1) rfl)) rfl rfl hl.1 rfl (lv_room (Nat.le_of_ble_eq_true rfl)) dX6_paint_47 ⟨(Nat.le_of_ble_eq_true rfl), (Nat.le_of_ble_eq_true rfl)⟩) (fun r_3 u H locs hq w => ?_)
    obtain ⟨rfl, e_r⟩ := hq
    subst e_r
    refine lv_i2l hx hb dX6_paint_50 rfl ?_
    exact zRl hx hb hr hlk w dX6_paint_51 (Nat.le_of_ble_eq_true rfl) (Nat.le_of_ble_eq_true rfl) (by show (if _ then _ else _); (first | rw [if_pos p_f] | rw [if_neg p_f]); (first | exact ⟨rfl, rfl⟩ | (rw [← hsN]; exact ⟨rfl, rfl⟩)))
  · have p_f := zcmp1 c_2
    refine lv_aload_n hx hb dX6_paint_16 rfl (lv_at hl 1 rfl) ?_
    refine lv_lload hx hb dX6_paint_17 (lv_at hl 0 rfl) ?_
    refine zCl w (va_runV (As := [.long (zWP f wa t y i)]) (rest := []) ⟨hx, hb, hml, hown, hts⟩ (kX6_refuse l G h (zWP f wa t y i) (zWP_why p_f) H.size) (cwV 1 hts gX6_paint_X6_refuse rfl rfl rfl (by decide +kernel) ⟨(Nat.le_of_ble_eq_true rfl), (Nat.le_of_ble_eq_true rfl)⟩) (zPV w hK (px_recv (r := (RX6, TX6, 4)) hK w mo fo rfl)) rfl rfl hl.1 rfl (lv_room (Nat.le_of_ble_eq_true rfl)) dX6_paint_19 ⟨(Nat.le_of_ble_eq_true rfl), (Nat.le_of_ble_eq_true rfl)⟩) (fun r_4 u H locs hq w => ?_)
    obtain ⟨rfl, e_r⟩ := hq
    subst e_r
    exact zRl hx hb hr hlk w dX6_paint_22 (Nat.le_of_ble_eq_true rfl) (Nat.le_of_ble_eq_true rfl) (by show (if _ then _ else _); (first | rw [if_pos p_f] | rw [if_neg p_f]); (first | exact ⟨rfl, rfl⟩ | (rw [← hsN]; exact ⟨rfl, rfl⟩)))
set_option maxHeartbeats 4000000 in
set_option maxRecDepth 100000 in
theorem kX6_span (l : Launch) (G : zG) {L : List Nat} {f : Nat → va_E} {o ac aw ar : Nat} {ch : Option Nat} {car wa : Nat → Option Nat} {ta : Nat → Int32} (h : zBn G L f o ac aw ar ch car wa ta) (hct : zCT G L f car) (hwt : zWT G L f wa) (t y : Int32) (sz : Nat) : zMl l yX6_span wsX6_span { frames := 4, cells := 0, slots := 0, locals := 89 } G [.ref o, .int t, .int y] (va_pl L f) sz (fun r u => if y = -1 then (if zWF wa t = 0 then (u = va_pl L f ∧ r = (nI (vN f (zWa wa t))).toInt64) else zRefP G L f ar ta (zWF wa t) r u) else (if zWR f wa t y = 0 then (u = va_pl L f ∧ r = (nI (vN f (zWx f wa t y))).toInt64) else zRefP G L f ar ta (zWR f wa t y) r u)) 0 0 := by
  refine zIn (Qc := fun A => va_Ql _ (zB G A) A) (cc := cX6_span) (maxL := 6) (ret := (some .long)) (by decide) rfl (Nat.le_of_ble_eq_true rfl) ?_
  intro p e s m below meth c A ls hx hb hr hlk hml hts hown hnm hK w hl
  have hown : s.vm.findClass RX6 = some m.cls := hown
  have hl : lv_has ls 6 [(0, .ref o), (1, .int t), (2, .int y)] := hl
  obtain ⟨⟨mo, mc, mw, mr⟩, fo, fc, fw, fr⟩ := id h
  refine lv_iload_n hx hb dX6_span_0 rfl (lv_at hl 2 rfl) ?_
  refine lv_iconst (v := (-1)) hx hb dX6_span_1 (by decide) ?_
  refine lv_icmp_ne (tgt := 13) hx hb dX6_span_2 (by decide) (fun c_1 => ?_) (fun c_1 => ?_)
  · have p_y := c_1
    refine lv_aload_n hx hb dX6_span_13 rfl (lv_at hl 0 rfl) ?_
    refine lv_iload_n hx hb dX6_span_14 rfl (lv_at hl 1 rfl) ?_
    refine lv_iload_n hx hb dX6_span_15 rfl (lv_at hl 2 rfl) ?_
    refine zCl w (va_runV (As := [.int t, .int y]) (rest := []) ⟨hx, hb, hml, hown, hts⟩ (kX6_wallReelFault l G h hwt t y s.heap.size) (cwV 2 hts gX6_span_X6_wallReelFault rfl rfl rfl (by decide +kernel) ⟨(Nat.le_of_ble_eq_true rfl), (Nat.le_of_ble_eq_true rfl)⟩) (zPV w hK (px_recv (r := (RX6, TX6, 4)) hK w mo fo rfl)) rfl rfl hl.1 rfl (lv_room (Nat.le_of_ble_eq_true rfl)) dX6_span_16 ⟨(Nat.le_of_ble_eq_true rfl), (Nat.le_of_ble_eq_true rfl)⟩) (fun r_2 u H locs hq w => ?_)
    obtain ⟨rfl, e_r⟩ := hq
    subst e_r
    refine lv_lstore_n (lv' := [(3, .long (zWR f wa t y)), (0, .ref o), (1, .int t), (2, .int y)]) hx hb dX6_span_19 rfl hl (by decide) rfl (fun ls hl => ?_)
    refine lv_lload_n hx hb dX6_span_20 rfl (lv_at hl 0 rfl) ?_
    refine lv_lconst (v := 0) hx hb dX6_span_21 (by decide) ?_
    refine W.lcmp hx hb dX6_span_22 ?_
    refine lv_if_eq (tgt := 32) hx hb dX6_span_23 (by decide) (fun c_3 => ?_) (fun c_3 => ?_)
    · have p_f := zcmp0 c_3
      obtain ⟨hf1, hxe⟩ := zWR_0 p_f
      have hA := zWT_x hwt p_f
      obtain ⟨hf0, hy⟩ := zRoF_0 hf1
      obtain ⟨ht, hwa⟩ := zWF_0 hf0
      have hW := zWT_at hwt hf0
      have hyi := zin12 hy hW.2.2.2.2.1
      obtain ⟨sN, hsN⟩ : ∃ sN, sN = zS t := ⟨_, rfl⟩
      rw [← hsN] at hA
      have hs : sN = 0 ∨ sN = 1 ∨ sN = 2 ∨ sN = 3 := by rw [hsN]; exact zS_or ht
      unfold zRA at hA
      refine lv_aload_n hx hb dX6_span_32 rfl (lv_at hl 1 rfl) ?_
      refine px_get (ci := 5) (C := RX6) (T := TX6) (N := 4) hx hb hts hown hK w mo (by decide +kernel) fo rfl 1 (by decide) (hts (.fieldLink RX6 17 "ReelBarn" "walls" "[LReelBarn$Wall;") (by decide +kernel)) (fun _ h9 => h9) rfl dX6_span_33 ?_
      refine lv_iload_n hx hb dX6_span_36 rfl (lv_at hl 2 rfl) ?_
      refine px_aldW hx hb hK w mw fw (zfour_in ht) dX6_span_37 ?_
      rw [hwa]
      refine lv_astore (lv' := [(5, .ref (zWa wa t)), (3, .long (zWR f wa t y)), (0, .ref o), (1, .int t), (2, .int y)]) hx hb dX6_span_38 hl (by decide) rfl (fun ls hl => ?_)
      refine lv_iload_n hx hb dX6_span_40 rfl (lv_at hl 4 rfl) ?_
      refine lv_iconst (v := (-1)) hx hb dX6_span_41 (by decide) ?_
      refine lv_icmp_ne (tgt := 55) hx hb dX6_span_42 (by decide) (fun c_4 => ?_) (fun c_4 => absurd c_4 p_y)
      refine lv_aload hx hb dX6_span_55 (lv_at hl 0 rfl) ?_
      refine px_get (ci := 3) (C := RX4) (T := TX4) (N := 1) hx hb hts hown hK w hW.1 (by decide +kernel) hW.2.2.1 rfl 0 (by decide) (hts (.fieldLink RX6 120 "ReelBarn$Wall" "rows" "[LReelBarn$Reel;") (by decide +kernel)) (fun _ h9 => h9) rfl dX6_span_57 ?_
      refine lv_iload_n hx hb dX6_span_60 rfl (lv_at hl 4 rfl) ?_
      refine px_aldR hx hb hK w hW.2.1 hW.2.2.2.1 hyi dX6_span_61 ?_
      rw [hxe]
      refine zCi (post := fun r u => u = va_pl L f ∧ r = nI (vN f (zWx f wa t y))) (mc := 0) (ms := 0) (rest := []) (av := (Value.ref (zWx f wa t y) :: []).toArray) w (by
          rcases hs with rfl | rfl | rfl | rfl
          · exact va_runU (As := []) (rest := []) ⟨hx, hb, hml, hown, hts⟩ (kX2_places l G hA H.size) (va_cwA 0 hts gX6_span_X2_places_u61X2 rfl rfl rfl hK.2.1.1 (by decide +kernel) ⟨(Nat.le_of_ble_eq_true rfl), (Nat.le_of_ble_eq_true rfl)⟩) (zPV w hK (px_recv (ci := 2) (fs := [.ref (vB f (zWx f wa t y))]) (r := (RX2, TX2, 1)) hK w (hA.1) (hA.2.2.1) rfl)) rfl rfl hl.1 rfl (lv_room (Nat.le_of_ble_eq_true rfl)) dX6_span_62 ⟨(Nat.le_of_ble_eq_true rfl), (Nat.le_of_ble_eq_true rfl)⟩
          · exact va_runU (As := []) (rest := []) ⟨hx, hb, hml, hown, hts⟩ (kX5_places l G hA H.size) (va_cwA 0 hts gX6_span_X5_places_u61X5 rfl rfl rfl hK.2.1.1 (by decide +kernel) ⟨(Nat.le_of_ble_eq_true rfl), (Nat.le_of_ble_eq_true rfl)⟩) (zPV w hK (px_recv (ci := 4) (fs := [.ref (vB f (zWx f wa t y))]) (r := (RX5, TX5, 1)) hK w (hA.1) (hA.2.2.1) rfl)) rfl rfl hl.1 rfl (lv_room (Nat.le_of_ble_eq_true rfl)) dX6_span_62 ⟨(Nat.le_of_ble_eq_true rfl), (Nat.le_of_ble_eq_true rfl)⟩
          · exact va_runU (As := []) (rest := []) ⟨hx, hb, hml, hown, hts⟩ (kX0_places l G hA H.size) (va_cwA 0 hts gX6_span_X0_places_u61X0 rfl rfl rfl hK.2.1.1 (by decide +kernel) ⟨(Nat.le_of_ble_eq_true rfl), (Nat.le_of_ble_eq_true rfl)⟩) (zPV w hK (px_recv (ci := 0) (fs := [.ref (vB f (zWx f wa t y))]) (r := (RX0, TX0, 1)) hK w (hA.1) (hA.2.2.1) rfl)) rfl rfl hl.1 rfl (lv_room (Nat.le_of_ble_eq_true rfl)) dX6_span_62 ⟨(Nat.le_of_ble_eq_true rfl), (Nat.le_of_ble_eq_true rfl)⟩
          · exact va_runU (As := []) (rest := []) ⟨hx, hb, hml, hown, hts⟩ (kX1_places l G hA H.size) (va_cwA 0 hts gX6_span_X1_places_u61X1 rfl rfl rfl hK.2.1.1 (by decide +kernel) ⟨(Nat.le_of_ble_eq_true rfl), (Nat.le_of_ble_eq_true rfl)⟩) (zPV w hK (px_recv (ci := 1) (fs := [.ref (vB f (zWx f wa t y))]) (r := (RX1, TX1, 1)) hK w (hA.1) (hA.2.2.1) rfl)) rfl rfl hl.1 rfl (lv_room (Nat.le_of_ble_eq_true rfl)) dX6_span_62 ⟨(Nat.le_of_ble_eq_true rfl), (Nat.le_of_ble_eq_true rfl)⟩) (fun r_5 u H locs hq w => ?_)
      obtain ⟨rfl, e_r⟩ := hq
      subst e_r
      refine lv_i2l hx hb dX6_span_65 rfl ?_
      exact zRl hx hb hr hlk w dX6_span_66 (Nat.le_of_ble_eq_true rfl) (Nat.le_of_ble_eq_true rfl) (by show (if _ then _ else _); (first | rw [if_pos p_y] | rw [if_neg p_y]); (first | rw [if_pos p_f] | rw [if_neg p_f]); (first | exact ⟨rfl, rfl⟩ | exact ⟨rfl, by rw [hsN]⟩))
    · have p_f := zcmp1 c_3
      refine lv_aload_n hx hb dX6_span_26 rfl (lv_at hl 1 rfl) ?_
      refine lv_lload_n hx hb dX6_span_27 rfl (lv_at hl 0 rfl) ?_
      refine zCl w (va_runV (As := [.long (zWR f wa t y)]) (rest := []) ⟨hx, hb, hml, hown, hts⟩ (kX6_refuse l G h (zWR f wa t y) (zWR_why p_f) H.size) (cwV 1 hts gX6_span_X6_refuse rfl rfl rfl (by decide +kernel) ⟨(Nat.le_of_ble_eq_true rfl), (Nat.le_of_ble_eq_true rfl)⟩) (zPV w hK (px_recv (r := (RX6, TX6, 4)) hK w mo fo rfl)) rfl rfl hl.1 rfl (lv_room (Nat.le_of_ble_eq_true rfl)) dX6_span_28 ⟨(Nat.le_of_ble_eq_true rfl), (Nat.le_of_ble_eq_true rfl)⟩) (fun r_6 u H locs hq w => ?_)
      obtain ⟨rfl, e_r⟩ := hq
      subst e_r
      exact zRl hx hb hr hlk w dX6_span_31 (Nat.le_of_ble_eq_true rfl) (Nat.le_of_ble_eq_true rfl) (by show (if _ then _ else _); (first | rw [if_pos p_y] | rw [if_neg p_y]); (first | rw [if_pos p_f] | rw [if_neg p_f]); (first | exact ⟨rfl, rfl⟩ | exact ⟨rfl, by rw [hsN]⟩))
  · have p_y := c_1
    refine lv_aload_n hx hb dX6_span_5 rfl (lv_at hl 0 rfl) ?_
    refine lv_iload_n hx hb dX6_span_6 rfl (lv_at hl 1 rfl) ?_
    refine zCl w (va_runV (As := [.int t]) (rest := []) ⟨hx, hb, hml, hown, hts⟩ (kX6_wallFault l G h t s.heap.size) (cwV 1 hts gX6_span_X6_wallFault rfl rfl rfl (by decide +kernel) ⟨(Nat.le_of_ble_eq_true rfl), (Nat.le_of_ble_eq_true rfl)⟩) (zPV w hK (px_recv (r := (RX6, TX6, 4)) hK w mo fo rfl)) rfl rfl hl.1 rfl (lv_room (Nat.le_of_ble_eq_true rfl)) dX6_span_7 ⟨(Nat.le_of_ble_eq_true rfl), (Nat.le_of_ble_eq_true rfl)⟩) (fun r_7 u H locs hq w => ?_)
    obtain ⟨rfl, e_r⟩ := hq
    subst e_r
    refine lv_goto (tgt := 19) hx hb dX6_span_10 (by decide) ?_
    refine lv_lstore_n (lv' := [(3, .long (zWF wa t)), (0, .ref o), (1, .int t), (2, .int y)]) hx hb dX6_span_19 rfl hl (by decide) rfl (fun ls hl => ?_)
    refine lv_lload_n hx hb dX6_span_20 rfl (lv_at hl 0 rfl) ?_
    refine lv_lconst (v := 0) hx hb dX6_span_21 (by decide) ?_
    refine W.lcmp hx hb dX6_span_22 ?_
    refine lv_if_eq (tgt := 32) hx hb dX6_span_23 (by decide) (fun c_8 => ?_) (fun c_8 => ?_)
    · have p_f := zcmp0 c_8
      obtain ⟨ht, hwa⟩ := zWF_0 p_f
      have hW := zWT_at hwt p_f
      refine lv_aload_n hx hb dX6_span_32 rfl (lv_at hl 1 rfl) ?_
      refine px_get (ci := 5) (C := RX6) (T := TX6) (N := 4) hx hb hts hown hK w mo (by decide +kernel) fo rfl 1 (by decide) (hts (.fieldLink RX6 17 "ReelBarn" "walls" "[LReelBarn$Wall;") (by decide +kernel)) (fun _ h9 => h9) rfl dX6_span_33 ?_
      refine lv_iload_n hx hb dX6_span_36 rfl (lv_at hl 2 rfl) ?_
      refine px_aldW hx hb hK w mw fw (zfour_in ht) dX6_span_37 ?_
      rw [hwa]
      refine lv_astore (lv' := [(5, .ref (zWa wa t)), (3, .long (zWF wa t)), (0, .ref o), (1, .int t), (2, .int y)]) hx hb dX6_span_38 hl (by decide) rfl (fun ls hl => ?_)
      refine lv_iload_n hx hb dX6_span_40 rfl (lv_at hl 4 rfl) ?_
      refine lv_iconst (v := (-1)) hx hb dX6_span_41 (by decide) ?_
      refine lv_icmp_ne (tgt := 55) hx hb dX6_span_42 (by decide) (fun c_9 => absurd p_y c_9) (fun c_9 => ?_)
      refine lv_aload hx hb dX6_span_45 (lv_at hl 0 rfl) ?_
      refine px_get (ci := 3) (C := RX4) (T := TX4) (N := 1) hx hb hts hown hK w hW.1 (by decide +kernel) hW.2.2.1 rfl 0 (by decide) (hts (.fieldLink RX6 120 "ReelBarn$Wall" "rows" "[LReelBarn$Reel;") (by decide +kernel)) (fun _ h9 => h9) rfl dX6_span_47 ?_
      refine px_alen hx hb hK w hW.2.1 hW.2.2.2.1 5 rfl dX6_span_50 ?_
      refine lv_i2l hx hb dX6_span_51 rfl ?_
      refine lv_goto (tgt := 66) hx hb dX6_span_52 (by decide) ?_
      exact zRl hx hb hr hlk w dX6_span_66 (Nat.le_of_ble_eq_true rfl) (Nat.le_of_ble_eq_true rfl) (by show (if _ then _ else _); (first | rw [if_pos p_y] | rw [if_neg p_y]); (first | rw [if_pos p_f] | rw [if_neg p_f]); (first | exact ⟨rfl, rfl⟩ | exact ⟨rfl, by rw [hsN]⟩))
    · have p_f := zcmp1 c_8
      refine lv_aload_n hx hb dX6_span_26 rfl (lv_at hl 1 rfl) ?_
      refine lv_lload_n hx hb dX6_span_27 rfl (lv_at hl 0 rfl) ?_
      refine zCl w (va_runV (As := [.long (zWF wa t)]) (rest := []) ⟨hx, hb, hml, hown, hts⟩ (kX6_refuse l G h (zWF wa t) (zWF_why p_f) H.size) (cwV 1 hts gX6_span_X6_refuse rfl rfl rfl (by decide +kernel) ⟨(Nat.le_of_ble_eq_true rfl), (Nat.le_of_ble_eq_true rfl)⟩) (zPV w hK (px_recv (r := (RX6, TX6, 4)) hK w mo fo rfl)) rfl rfl hl.1 rfl (lv_room (Nat.le_of_ble_eq_true rfl)) dX6_span_28 ⟨(Nat.le_of_ble_eq_true rfl), (Nat.le_of_ble_eq_true rfl)⟩) (fun r_10 u H locs hq w => ?_)
      obtain ⟨rfl, e_r⟩ := hq
      subst e_r
      exact zRl hx hb hr hlk w dX6_span_31 (Nat.le_of_ble_eq_true rfl) (Nat.le_of_ble_eq_true rfl) (by show (if _ then _ else _); (first | rw [if_pos p_y] | rw [if_neg p_y]); (first | rw [if_pos p_f] | rw [if_neg p_f]); (first | exact ⟨rfl, rfl⟩ | exact ⟨rfl, by rw [hsN]⟩))
set_option maxHeartbeats 4000000 in
set_option maxRecDepth 100000 in
theorem kX6_tally (l : Launch) (G : zG) {L : List Nat} {f : Nat → va_E} {o ac aw ar : Nat} {ch : Option Nat} {car wa : Nat → Option Nat} {ta : Nat → Int32} (h : zBn G L f o ac aw ar ch car wa ta) (hct : zCT G L f car) (hwt : zWT G L f wa) (what : Int32) (sz : Nat) : zMi l yX6_tally wsX6_tally { frames := 0, cells := 0, slots := 0, locals := 0 } G [.ref o, .int what] (va_pl L f) sz (fun r u => u = va_pl L f ∧ r = if ¬ what < 1 ∧ ¬ 7 < what then ta what.toNatClampNeg else 0) 0 0 := by
  refine zIn (Qc := fun A => va_Qi _ (zB G A) A) (cc := cX6_tally) (maxL := 2) (ret := (some .int)) (by decide) rfl (Nat.le_of_ble_eq_true rfl) ?_
  intro p e s m below meth c A ls hx hb hr hlk hml hts hown hnm hK w hl
  have hown : s.vm.findClass RX6 = some m.cls := hown
  have hl : lv_has ls 2 [(0, .ref o), (1, .int what)] := hl
  obtain ⟨⟨mo, mc, mw, mr⟩, fo, fc, fw, fr⟩ := id h
  refine lv_iload_n hx hb dX6_tally_0 rfl (lv_at hl 1 rfl) ?_
  refine lv_iconst (v := 1) hx hb dX6_tally_1 (by decide) ?_
  refine lv_icmp_lt (tgt := 20) hx hb dX6_tally_2 (by decide) (fun c_1 => ?_) (fun c_1 => ?_)
  · refine lv_iconst (v := 0) hx hb dX6_tally_20 (by decide) ?_
    exact zRi hx hb hr hlk w dX6_tally_21 (Nat.le_of_ble_eq_true rfl) (Nat.le_of_ble_eq_true rfl) ⟨rfl, by simp [c_1]⟩
  · refine lv_iload_n hx hb dX6_tally_5 rfl (lv_at hl 1 rfl) ?_
    refine lv_bipush (v := 7) hx hb dX6_tally_6 (by decide) ?_
    refine lv_icmp_gt (tgt := 20) hx hb dX6_tally_8 (by decide) (fun c_2 => ?_) (fun c_2 => ?_)
    · refine lv_iconst (v := 0) hx hb dX6_tally_20 (by decide) ?_
      exact zRi hx hb hr hlk w dX6_tally_21 (Nat.le_of_ble_eq_true rfl) (Nat.le_of_ble_eq_true rfl) ⟨rfl, by simp [c_1, c_2]⟩
    · refine lv_aload_n hx hb dX6_tally_11 rfl (lv_at hl 0 rfl) ?_
      refine px_get (ci := 5) (C := RX6) (T := TX6) (N := 4) hx hb hts hown hK w mo (by decide +kernel) fo rfl 2 (by decide) (hts (.fieldLink RX6 21 "ReelBarn" "refusals" "[I") (by decide +kernel)) (fun _ h9 => h9) rfl dX6_tally_12 ?_
      refine lv_iload_n hx hb dX6_tally_15 rfl (lv_at hl 1 rfl) ?_
      refine px_iald hx hb hK w mr fr (zta_in c_1 c_2) dX6_tally_16 ?_
      refine lv_goto (tgt := 21) hx hb dX6_tally_17 (by decide) ?_
      exact zRi hx hb hr hlk w dX6_tally_21 (Nat.le_of_ble_eq_true rfl) (Nat.le_of_ble_eq_true rfl) ⟨rfl, by simp [c_1, c_2]⟩
set_option maxHeartbeats 4000000 in
set_option maxRecDepth 100000 in
theorem kX6_note (l : Launch) (G : zG) {L : List Nat} {f : Nat → va_E} {o ac aw ar : Nat} {ch : Option Nat} {car wa : Nat → Option Nat} {ta : Nat → Int32} (h : zBn G L f o ac aw ar ch car wa ta) {m0 : Nat} (hht : zHT G L f ch m0) (y k x : Int32) (sz : Nat) : zMl l yX6_note wsX6_note { frames := 1, cells := 0, slots := 0, locals := 22 } G [.ref o, .int y, .int k, .int x] (va_pl L f) sz (fun r u => if ch = none then zRefP G L f ar ta zVACANT r u else if zHas2 (eN (f (ch.getD 0))) y then (if zHas2 m0 k then (u = va_pl L (va_up f (zHb f (ch.getD 0) y) (.inl (G.2 4, m0, .inl (upd (eI (f (zHb f (ch.getD 0) y))) k.toNatClampNeg (eI (f (zHb f (ch.getD 0) y)) k.toNatClampNeg + x))))) ∧ r = (eI (f (zHb f (ch.getD 0) y)) k.toNatClampNeg + x).toInt64) else zRefP G L f ar ta zBEYOND r u) else zRefP G L f ar ta zBEYOND r u) 0 0 := by
  refine zIn (Qc := fun A => va_Ql _ (zB G A) A) (cc := cX6_note) (maxL := 5) (ret := (some .long)) (by decide) rfl (Nat.le_of_ble_eq_true rfl) ?_
  intro p e s m below meth c A ls hx hb hr hlk hml hts hown hnm hK w hl
  have hown : s.vm.findClass RX6 = some m.cls := hown
  have hl : lv_has ls 5 [(0, .ref o), (1, .int y), (2, .int k), (3, .int x)] := hl
  obtain ⟨⟨mo, mc, mw, mr⟩, fo, fc, fw, fr⟩ := id h
  refine lv_aload_n hx hb dX6_note_0 rfl (lv_at hl 0 rfl) ?_
  refine px_get (ci := 5) (C := RX6) (T := TX6) (N := 4) hx hb hts hown hK w mo (by decide +kernel) fo rfl 3 (by decide) (hts (.fieldLink RX6 25 "ReelBarn" "chartRows" "[[I") (by decide +kernel)) (fun _ h9 => h9) rfl dX6_note_1 ?_
  refine z_ifnonnullQ (tgt := 15) hx hb dX6_note_4 (by decide) (fun c_1 => ?_) (fun c_1 => ?_)
  · have p_c := c_1
    obtain ⟨q, hq0⟩ : ∃ q, ch = some q := ⟨_, zget0 c_1⟩
    have hC := hht q hq0
    subst hq0
    have fo : f o = .inr (5, [.ref ac, .ref aw, .ref ar, .ref q]) := fo
    refine lv_iload_n hx hb dX6_note_15 rfl (lv_at hl 1 rfl) ?_
    refine lv_if_lt (tgt := 28) hx hb dX6_note_16 (by decide) (fun c_2 => ?_) (fun c_2 => ?_)
    · have p_y : ¬ zHas2 (eN (f q)) y := fun z => z.1 c_2
      refine lv_aload_n hx hb dX6_note_28 rfl (lv_at hl 0 rfl) ?_
      refine lv_ldc2 hx hb hown (hts (.constantLong RX6 136 (3298534883328)) (by decide +kernel)) dX6_note_29 ?_
      refine zCl w (va_runV (As := [.long 3298534883328]) (rest := []) ⟨hx, hb, hml, hown, hts⟩ (kX6_refuse l G h zBEYOND zW3 s.heap.size) (cwV 1 hts gX6_note_X6_refuse rfl rfl rfl (by decide +kernel) ⟨(Nat.le_of_ble_eq_true rfl), (Nat.le_of_ble_eq_true rfl)⟩) (zPV w hK (px_recv (r := (RX6, TX6, 4)) hK w mo fo rfl)) rfl rfl hl.1 rfl (lv_room (Nat.le_of_ble_eq_true rfl)) dX6_note_32 ⟨(Nat.le_of_ble_eq_true rfl), (Nat.le_of_ble_eq_true rfl)⟩) (fun r_3 u H locs hq w => ?_)
      obtain ⟨rfl, e_r⟩ := hq
      subst e_r
      exact zRl hx hb hr hlk w dX6_note_35 (Nat.le_of_ble_eq_true rfl) (Nat.le_of_ble_eq_true rfl) (by show (if _ then _ else _); rw [if_neg p_c]; simp only [Option.getD_some]; (first | rw [if_pos p_y] | rw [if_neg p_y]); (first | exact ⟨rfl, rfl⟩ | exact ⟨rfl, by simp [upd]⟩ | simp [upd]))
    · have q_y := c_2
      refine lv_iload_n hx hb dX6_note_19 rfl (lv_at hl 1 rfl) ?_
      refine lv_aload_n hx hb dX6_note_20 rfl (lv_at hl 0 rfl) ?_
      refine px_get (ci := 5) (C := RX6) (T := TX6) (N := 4) hx hb hts hown hK w mo (by decide +kernel) fo rfl 3 (by decide) (hts (.fieldLink RX6 25 "ReelBarn" "chartRows" "[[I") (by decide +kernel)) (fun _ h9 => h9) rfl dX6_note_21 ?_
      refine px_alen hx hb hK w hC.1 hC.2.1 7 rfl dX6_note_24 ?_
      refine lv_icmp_lt (tgt := 36) hx hb dX6_note_25 (by decide) (fun c_4 => ?_) (fun c_4 => ?_)
      · have p_y : zHas2 (eN (f q)) y := ⟨q_y, c_4⟩
        have hyi := zHas2_in p_y (by have := hC.2.2.1; omega)
        obtain ⟨hb1, hb2, hb3⟩ := zHA_row hC hyi
        refine lv_aload_n hx hb dX6_note_36 rfl (lv_at hl 0 rfl) ?_
        refine px_get (ci := 5) (C := RX6) (T := TX6) (N := 4) hx hb hts hown hK w mo (by decide +kernel) fo rfl 3 (by decide) (hts (.fieldLink RX6 25 "ReelBarn" "chartRows" "[[I") (by decide +kernel)) (fun _ h9 => h9) rfl dX6_note_37 ?_
        refine lv_iload_n hx hb dX6_note_40 rfl (lv_at hl 1 rfl) ?_
        refine px_aldA hx hb hK w hC.1 hC.2.1 hyi dX6_note_41 ?_
        rw [hb1]
        refine lv_astore (lv' := [(4, .ref (zHb f q y)), (0, .ref o), (1, .int y), (2, .int k), (3, .int x)]) hx hb dX6_note_42 hl (by decide) rfl (fun ls hl => ?_)
        refine lv_iload_n hx hb dX6_note_44 rfl (lv_at hl 3 rfl) ?_
        refine lv_if_lt (tgt := 55) hx hb dX6_note_45 (by decide) (fun c_5 => ?_) (fun c_5 => ?_)
        · have p_k : ¬ zHas2 m0 k := fun z => z.1 c_5
          refine lv_aload_n hx hb dX6_note_55 rfl (lv_at hl 1 rfl) ?_
          refine lv_ldc2 hx hb hown (hts (.constantLong RX6 136 (3298534883328)) (by decide +kernel)) dX6_note_56 ?_
          refine zCl w (va_runV (As := [.long 3298534883328]) (rest := []) ⟨hx, hb, hml, hown, hts⟩ (kX6_refuse l G h zBEYOND zW3 s.heap.size) (cwV 1 hts gX6_note_X6_refuse rfl rfl rfl (by decide +kernel) ⟨(Nat.le_of_ble_eq_true rfl), (Nat.le_of_ble_eq_true rfl)⟩) (zPV w hK (px_recv (r := (RX6, TX6, 4)) hK w mo fo rfl)) rfl rfl hl.1 rfl (lv_room (Nat.le_of_ble_eq_true rfl)) dX6_note_59 ⟨(Nat.le_of_ble_eq_true rfl), (Nat.le_of_ble_eq_true rfl)⟩) (fun r_6 u H locs hq w => ?_)
          obtain ⟨rfl, e_r⟩ := hq
          subst e_r
          exact zRl hx hb hr hlk w dX6_note_62 (Nat.le_of_ble_eq_true rfl) (Nat.le_of_ble_eq_true rfl) (by show (if _ then _ else _); rw [if_neg p_c]; simp only [Option.getD_some]; (first | rw [if_pos p_y] | rw [if_neg p_y]); (first | rw [if_pos p_k] | rw [if_neg p_k]); (first | exact ⟨rfl, rfl⟩ | exact ⟨rfl, by simp [upd]⟩ | simp [upd]))
        · have q_k := c_5
          refine lv_iload_n hx hb dX6_note_48 rfl (lv_at hl 3 rfl) ?_
          refine lv_aload hx hb dX6_note_49 (lv_at hl 0 rfl) ?_
          refine px_alen hx hb hK w hb2 hb3 4 rfl dX6_note_51 ?_
          refine lv_icmp_lt (tgt := 63) hx hb dX6_note_52 (by decide) (fun c_7 => ?_) (fun c_7 => ?_)
          · have p_k : zHas2 m0 k := ⟨q_k, c_7⟩
            have hki := zHas2_in p_k (by have := hC.2.2.2.1; omega)
            refine lv_aload hx hb dX6_note_63 (lv_at hl 0 rfl) ?_
            refine lv_iload_n hx hb dX6_note_65 rfl (lv_at hl 3 rfl) ?_
            refine lv_dup2_11 hx hb dX6_note_66 rfl rfl ?_
            refine px_iald hx hb hK w hb2 hb3 hki dX6_note_67 ?_
            refine lv_iload_n hx hb dX6_note_68 rfl (lv_at hl 4 rfl) ?_
            refine lv_iadd hx hb dX6_note_69 ?_
            refine px_iast hx hb hK w hb2 hb3 hki dX6_note_70 (fun H locs w => ?_)
            refine lv_aload hx hb dX6_note_71 (lv_at hl 0 rfl) ?_
            refine lv_iload_n hx hb dX6_note_73 rfl (lv_at hl 3 rfl) ?_
            refine px_iald hx hb hK w hb2 (va_up_self _ _ _) hki dX6_note_74 ?_
            refine lv_i2l hx hb dX6_note_75 rfl ?_
            exact zRl hx hb hr hlk w dX6_note_76 (Nat.le_of_ble_eq_true rfl) (Nat.le_of_ble_eq_true rfl) (by show (if _ then _ else _); rw [if_neg p_c]; simp only [Option.getD_some]; (first | rw [if_pos p_y] | rw [if_neg p_y]); (first | rw [if_pos p_k] | rw [if_neg p_k]); (first | exact ⟨rfl, rfl⟩ | exact ⟨rfl, by simp [upd]⟩ | simp [upd]))
          · have p_k : ¬ zHas2 m0 k := fun z => c_7 z.2
            refine lv_aload_n hx hb dX6_note_55 rfl (lv_at hl 1 rfl) ?_
            refine lv_ldc2 hx hb hown (hts (.constantLong RX6 136 (3298534883328)) (by decide +kernel)) dX6_note_56 ?_
            refine zCl w (va_runV (As := [.long 3298534883328]) (rest := []) ⟨hx, hb, hml, hown, hts⟩ (kX6_refuse l G h zBEYOND zW3 s.heap.size) (cwV 1 hts gX6_note_X6_refuse rfl rfl rfl (by decide +kernel) ⟨(Nat.le_of_ble_eq_true rfl), (Nat.le_of_ble_eq_true rfl)⟩) (zPV w hK (px_recv (r := (RX6, TX6, 4)) hK w mo fo rfl)) rfl rfl hl.1 rfl (lv_room (Nat.le_of_ble_eq_true rfl)) dX6_note_59 ⟨(Nat.le_of_ble_eq_true rfl), (Nat.le_of_ble_eq_true rfl)⟩) (fun r_8 u H locs hq w => ?_)
            obtain ⟨rfl, e_r⟩ := hq
            subst e_r
            exact zRl hx hb hr hlk w dX6_note_62 (Nat.le_of_ble_eq_true rfl) (Nat.le_of_ble_eq_true rfl) (by show (if _ then _ else _); rw [if_neg p_c]; simp only [Option.getD_some]; (first | rw [if_pos p_y] | rw [if_neg p_y]); (first | rw [if_pos p_k] | rw [if_neg p_k]); (first | exact ⟨rfl, rfl⟩ | exact ⟨rfl, by simp [upd]⟩ | simp [upd]))
      · have p_y : ¬ zHas2 (eN (f q)) y := fun z => c_4 z.2
        refine lv_aload_n hx hb dX6_note_28 rfl (lv_at hl 0 rfl) ?_
        refine lv_ldc2 hx hb hown (hts (.constantLong RX6 136 (3298534883328)) (by decide +kernel)) dX6_note_29 ?_
        refine zCl w (va_runV (As := [.long 3298534883328]) (rest := []) ⟨hx, hb, hml, hown, hts⟩ (kX6_refuse l G h zBEYOND zW3 s.heap.size) (cwV 1 hts gX6_note_X6_refuse rfl rfl rfl (by decide +kernel) ⟨(Nat.le_of_ble_eq_true rfl), (Nat.le_of_ble_eq_true rfl)⟩) (zPV w hK (px_recv (r := (RX6, TX6, 4)) hK w mo fo rfl)) rfl rfl hl.1 rfl (lv_room (Nat.le_of_ble_eq_true rfl)) dX6_note_32 ⟨(Nat.le_of_ble_eq_true rfl), (Nat.le_of_ble_eq_true rfl)⟩) (fun r_9 u H locs hq w => ?_)
        obtain ⟨rfl, e_r⟩ := hq
        subst e_r
        exact zRl hx hb hr hlk w dX6_note_35 (Nat.le_of_ble_eq_true rfl) (Nat.le_of_ble_eq_true rfl) (by show (if _ then _ else _); rw [if_neg p_c]; simp only [Option.getD_some]; (first | rw [if_pos p_y] | rw [if_neg p_y]); (first | exact ⟨rfl, rfl⟩ | exact ⟨rfl, by simp [upd]⟩ | simp [upd]))
  · have p_c := c_1
    refine lv_aload_n hx hb dX6_note_7 rfl (lv_at hl 0 rfl) ?_
    refine lv_ldc2 hx hb hown (hts (.constantLong RX6 134 (2199023255552)) (by decide +kernel)) dX6_note_8 ?_
    refine zCl w (va_runV (As := [.long 2199023255552]) (rest := []) ⟨hx, hb, hml, hown, hts⟩ (kX6_refuse l G h zVACANT zW2 s.heap.size) (cwV 1 hts gX6_note_X6_refuse rfl rfl rfl (by decide +kernel) ⟨(Nat.le_of_ble_eq_true rfl), (Nat.le_of_ble_eq_true rfl)⟩) (zPV w hK (px_recv (r := (RX6, TX6, 4)) hK w mo fo rfl)) rfl rfl hl.1 rfl (lv_room (Nat.le_of_ble_eq_true rfl)) dX6_note_11 ⟨(Nat.le_of_ble_eq_true rfl), (Nat.le_of_ble_eq_true rfl)⟩) (fun r_10 u H locs hq w => ?_)
    obtain ⟨rfl, e_r⟩ := hq
    subst e_r
    exact zRl hx hb hr hlk w dX6_note_14 (Nat.le_of_ble_eq_true rfl) (Nat.le_of_ble_eq_true rfl) (by show (if _ then _ else _); rw [if_pos p_c]; exact ⟨rfl, rfl⟩)
set_option maxHeartbeats 4000000 in
set_option maxRecDepth 100000 in
theorem kX6_blendFloats (l : Launch) (G : zG) {s0 : Nat} (hs : s0 = 0 ∨ s0 = 1 ∨ s0 = 2 ∨ s0 = 3) {L : List Nat} {f : Nat → va_E} {a b n : Nat} {gi : Nat → Int32} {gf : Nat → UInt32} (h : zReel G L f s0 a b n gi gf) (i : Int32) (v : UInt32) (less : Int32) (hi : vp_in i n) (hv : zFin v) (sz : Nat) : zMv l yX6_blendFloats wsX6_blendFloats { frames := 2, cells := 0, slots := 0, locals := 44 } G [.ref a, .int i, .float v, .int less] (va_pl L f) sz (fun u => u = va_pl L (va_up f b (zCel G s0 n (zPlI s0 gi i.toNatClampNeg (zBv less (zLev s0 gi gf i.toNatClampNeg) v)) (zPuF s0 gf i.toNatClampNeg (zBv less (zLev s0 gi gf i.toNatClampNeg) v))))) 0 0 := by
  refine zIn (Qc := fun A => va_Qv _ (zB G A) A) (cc := cX6_blendFloats) (maxL := 5) (ret := none) (by decide) rfl (Nat.le_of_ble_eq_true rfl) ?_
  intro p e s m below meth c A ls hx hb hr hlk hml hts hown hnm hK w hl
  have hown : s.vm.findClass RX6 = some m.cls := hown
  have hl : lv_has ls 5 [(0, .ref a), (1, .int i), (2, .float v), (3, .int less)] := hl
  refine lv_aload_n hx hb dX6_blendFloats_0 rfl (lv_at hl 0 rfl) ?_
  refine lv_iload_n hx hb dX6_blendFloats_1 rfl (lv_at hl 1 rfl) ?_
  refine zCf (post := fun r u => u = va_pl L f ∧ r = (zLev s0 gi gf i.toNatClampNeg)) (mc := 0) (ms := 0) (rest := []) (av := (Value.ref a :: [.int i]).toArray) w (by
      rcases hs with rfl | rfl | rfl | rfl
      · exact va_runU (As := [.int i]) (rest := []) ⟨hx, hb, hml, hown, hts⟩ (kX3_level l G (by omega) h i hi s.heap.size) (va_cwU 1 hts gX6_blendFloats_X3_level_u98X2 rfl rfl rfl rfl (by decide +kernel) ⟨(Nat.le_of_ble_eq_true rfl), (Nat.le_of_ble_eq_true rfl)⟩) (zPV w hK (px_recv (ci := 2) (fs := [.ref b]) (r := (RX2, TX2, 1)) hK w (h.1) (h.2.2.1) rfl)) rfl rfl hl.1 rfl (lv_room (Nat.le_of_ble_eq_true rfl)) dX6_blendFloats_2 ⟨(Nat.le_of_ble_eq_true rfl), (Nat.le_of_ble_eq_true rfl)⟩
      · exact va_runU (As := [.int i]) (rest := []) ⟨hx, hb, hml, hown, hts⟩ (kX3_level l G (by omega) h i hi s.heap.size) (va_cwU 1 hts gX6_blendFloats_X3_level_u98X5 rfl rfl rfl rfl (by decide +kernel) ⟨(Nat.le_of_ble_eq_true rfl), (Nat.le_of_ble_eq_true rfl)⟩) (zPV w hK (px_recv (ci := 4) (fs := [.ref b]) (r := (RX5, TX5, 1)) hK w (h.1) (h.2.2.1) rfl)) rfl rfl hl.1 rfl (lv_room (Nat.le_of_ble_eq_true rfl)) dX6_blendFloats_2 ⟨(Nat.le_of_ble_eq_true rfl), (Nat.le_of_ble_eq_true rfl)⟩
      · exact va_runU (As := [.int i]) (rest := []) ⟨hx, hb, hml, hown, hts⟩ (kX0_level l G h i hi s.heap.size) (va_cwO 1 hts gX6_blendFloats_X0_level_u98X0 rfl rfl rfl (b0 := cX3_level) (m0 := 2) (r0 := (some .float)) (by decide +kernel) (by decide +kernel) ⟨(Nat.le_of_ble_eq_true rfl), (Nat.le_of_ble_eq_true rfl)⟩) (zPV w hK (px_recv (ci := 0) (fs := [.ref b]) (r := (RX0, TX0, 1)) hK w (h.1) (h.2.2.1) rfl)) rfl rfl hl.1 rfl (lv_room (Nat.le_of_ble_eq_true rfl)) dX6_blendFloats_2 ⟨(Nat.le_of_ble_eq_true rfl), (Nat.le_of_ble_eq_true rfl)⟩
      · exact va_runU (As := [.int i]) (rest := []) ⟨hx, hb, hml, hown, hts⟩ (kX3_level l G (by omega) h i hi s.heap.size) (va_cwU 1 hts gX6_blendFloats_X3_level_u98X1 rfl rfl rfl rfl (by decide +kernel) ⟨(Nat.le_of_ble_eq_true rfl), (Nat.le_of_ble_eq_true rfl)⟩) (zPV w hK (px_recv (ci := 1) (fs := [.ref b]) (r := (RX1, TX1, 1)) hK w (h.1) (h.2.2.1) rfl)) rfl rfl hl.1 rfl (lv_room (Nat.le_of_ble_eq_true rfl)) dX6_blendFloats_2 ⟨(Nat.le_of_ble_eq_true rfl), (Nat.le_of_ble_eq_true rfl)⟩) (fun r_1 u H locs hq w => ?_)
  obtain ⟨rfl, e_r⟩ := hq
  subst e_r
  refine lv_fstore (lv' := [(4, .float (zLev s0 gi gf i.toNatClampNeg)), (0, .ref a), (1, .int i), (2, .float v), (3, .int less)]) hx hb dX6_blendFloats_5 hl (by decide) rfl (fun ls hl => ?_)
  refine lv_aload_n hx hb dX6_blendFloats_7 rfl (lv_at hl 1 rfl) ?_
  refine lv_iload_n hx hb dX6_blendFloats_8 rfl (lv_at hl 2 rfl) ?_
  refine lv_iload_n hx hb dX6_blendFloats_9 rfl (lv_at hl 4 rfl) ?_
  refine lv_if_eq (tgt := 20) hx hb dX6_blendFloats_10 (by decide) (fun c_2 => ?_) (fun c_2 => ?_)
  · refine lv_fload hx hb dX6_blendFloats_20 (lv_at hl 0 rfl) ?_
    refine lv_fload_n hx hb dX6_blendFloats_22 rfl (lv_at hl 3 rfl) ?_
    refine lv_fadd hx hb dX6_blendFloats_23 (zadd (zLev_fin h (zin_lt hi)) hv) ?_
    refine zCv (post := fun u => u = va_pl L (va_up f b (zCel G s0 n (zPlI s0 gi i.toNatClampNeg (FP.fadd (zLev s0 gi gf i.toNatClampNeg) v)) (zPuF s0 gf i.toNatClampNeg (FP.fadd (zLev s0 gi gf i.toNatClampNeg) v))))) (mc := 0) (ms := 0) (rest := []) (av := (Value.ref a :: [.int i, .float (FP.fadd (zLev s0 gi gf i.toNatClampNeg) v)]).toArray) w (by
        rcases hs with rfl | rfl | rfl | rfl
        · exact va_runU (As := [.int i, .float (FP.fadd (zLev 0 gi gf i.toNatClampNeg) v)]) (rest := []) ⟨hx, hb, hml, hown, hts⟩ (kX3_putLevel l G (by omega) h i (FP.fadd (zLev 0 gi gf i.toNatClampNeg) v) hi H.size) (va_cwU 2 hts gX6_blendFloats_X3_putLevel_u138X2 rfl rfl rfl rfl (by decide +kernel) ⟨(Nat.le_of_ble_eq_true rfl), (Nat.le_of_ble_eq_true rfl)⟩) (zPV w hK (px_recv (ci := 2) (fs := [.ref b]) (r := (RX2, TX2, 1)) hK w (h.1) (h.2.2.1) rfl)) rfl rfl hl.1 rfl (lv_room (Nat.le_of_ble_eq_true rfl)) dX6_blendFloats_24 ⟨(Nat.le_of_ble_eq_true rfl), (Nat.le_of_ble_eq_true rfl)⟩
        · exact va_runU (As := [.int i, .float (FP.fadd (zLev 1 gi gf i.toNatClampNeg) v)]) (rest := []) ⟨hx, hb, hml, hown, hts⟩ (kX3_putLevel l G (by omega) h i (FP.fadd (zLev 1 gi gf i.toNatClampNeg) v) hi H.size) (va_cwU 2 hts gX6_blendFloats_X3_putLevel_u138X5 rfl rfl rfl rfl (by decide +kernel) ⟨(Nat.le_of_ble_eq_true rfl), (Nat.le_of_ble_eq_true rfl)⟩) (zPV w hK (px_recv (ci := 4) (fs := [.ref b]) (r := (RX5, TX5, 1)) hK w (h.1) (h.2.2.1) rfl)) rfl rfl hl.1 rfl (lv_room (Nat.le_of_ble_eq_true rfl)) dX6_blendFloats_24 ⟨(Nat.le_of_ble_eq_true rfl), (Nat.le_of_ble_eq_true rfl)⟩
        · exact va_runU (As := [.int i, .float (FP.fadd (zLev 2 gi gf i.toNatClampNeg) v)]) (rest := []) ⟨hx, hb, hml, hown, hts⟩ (kX0_putLevel l G h i (FP.fadd (zLev 2 gi gf i.toNatClampNeg) v) hi H.size) (va_cwO 2 hts gX6_blendFloats_X0_putLevel_u138X0 rfl rfl rfl (b0 := cX3_putLevel) (m0 := 3) (r0 := none) (by decide +kernel) (by decide +kernel) ⟨(Nat.le_of_ble_eq_true rfl), (Nat.le_of_ble_eq_true rfl)⟩) (zPV w hK (px_recv (ci := 0) (fs := [.ref b]) (r := (RX0, TX0, 1)) hK w (h.1) (h.2.2.1) rfl)) rfl rfl hl.1 rfl (lv_room (Nat.le_of_ble_eq_true rfl)) dX6_blendFloats_24 ⟨(Nat.le_of_ble_eq_true rfl), (Nat.le_of_ble_eq_true rfl)⟩
        · exact va_runU (As := [.int i, .float (FP.fadd (zLev 3 gi gf i.toNatClampNeg) v)]) (rest := []) ⟨hx, hb, hml, hown, hts⟩ (kX3_putLevel l G (by omega) h i (FP.fadd (zLev 3 gi gf i.toNatClampNeg) v) hi H.size) (va_cwU 2 hts gX6_blendFloats_X3_putLevel_u138X1 rfl rfl rfl rfl (by decide +kernel) ⟨(Nat.le_of_ble_eq_true rfl), (Nat.le_of_ble_eq_true rfl)⟩) (zPV w hK (px_recv (ci := 1) (fs := [.ref b]) (r := (RX1, TX1, 1)) hK w (h.1) (h.2.2.1) rfl)) rfl rfl hl.1 rfl (lv_room (Nat.le_of_ble_eq_true rfl)) dX6_blendFloats_24 ⟨(Nat.le_of_ble_eq_true rfl), (Nat.le_of_ble_eq_true rfl)⟩) (fun u H locs hq w => ?_)
    subst hq
    exact zRv hx hb hr hlk w dX6_blendFloats_27 (Nat.le_of_ble_eq_true rfl) (Nat.le_of_ble_eq_true rfl) (by simp [zBv, c_2])
  · refine lv_fload hx hb dX6_blendFloats_13 (lv_at hl 0 rfl) ?_
    refine lv_fload_n hx hb dX6_blendFloats_15 rfl (lv_at hl 3 rfl) ?_
    refine lv_fsub hx hb dX6_blendFloats_16 (zsub (zLev_fin h (zin_lt hi)) hv) ?_
    refine lv_goto (tgt := 24) hx hb dX6_blendFloats_17 (by decide) ?_
    refine zCv (post := fun u => u = va_pl L (va_up f b (zCel G s0 n (zPlI s0 gi i.toNatClampNeg (FP.fsub (zLev s0 gi gf i.toNatClampNeg) v)) (zPuF s0 gf i.toNatClampNeg (FP.fsub (zLev s0 gi gf i.toNatClampNeg) v))))) (mc := 0) (ms := 0) (rest := []) (av := (Value.ref a :: [.int i, .float (FP.fsub (zLev s0 gi gf i.toNatClampNeg) v)]).toArray) w (by
        rcases hs with rfl | rfl | rfl | rfl
        · exact va_runU (As := [.int i, .float (FP.fsub (zLev 0 gi gf i.toNatClampNeg) v)]) (rest := []) ⟨hx, hb, hml, hown, hts⟩ (kX3_putLevel l G (by omega) h i (FP.fsub (zLev 0 gi gf i.toNatClampNeg) v) hi H.size) (va_cwU 2 hts gX6_blendFloats_X3_putLevel_u138X2 rfl rfl rfl rfl (by decide +kernel) ⟨(Nat.le_of_ble_eq_true rfl), (Nat.le_of_ble_eq_true rfl)⟩) (zPV w hK (px_recv (ci := 2) (fs := [.ref b]) (r := (RX2, TX2, 1)) hK w (h.1) (h.2.2.1) rfl)) rfl rfl hl.1 rfl (lv_room (Nat.le_of_ble_eq_true rfl)) dX6_blendFloats_24 ⟨(Nat.le_of_ble_eq_true rfl), (Nat.le_of_ble_eq_true rfl)⟩
        · exact va_runU (As := [.int i, .float (FP.fsub (zLev 1 gi gf i.toNatClampNeg) v)]) (rest := []) ⟨hx, hb, hml, hown, hts⟩ (kX3_putLevel l G (by omega) h i (FP.fsub (zLev 1 gi gf i.toNatClampNeg) v) hi H.size) (va_cwU 2 hts gX6_blendFloats_X3_putLevel_u138X5 rfl rfl rfl rfl (by decide +kernel) ⟨(Nat.le_of_ble_eq_true rfl), (Nat.le_of_ble_eq_true rfl)⟩) (zPV w hK (px_recv (ci := 4) (fs := [.ref b]) (r := (RX5, TX5, 1)) hK w (h.1) (h.2.2.1) rfl)) rfl rfl hl.1 rfl (lv_room (Nat.le_of_ble_eq_true rfl)) dX6_blendFloats_24 ⟨(Nat.le_of_ble_eq_true rfl), (Nat.le_of_ble_eq_true rfl)⟩
        · exact va_runU (As := [.int i, .float (FP.fsub (zLev 2 gi gf i.toNatClampNeg) v)]) (rest := []) ⟨hx, hb, hml, hown, hts⟩ (kX0_putLevel l G h i (FP.fsub (zLev 2 gi gf i.toNatClampNeg) v) hi H.size) (va_cwO 2 hts gX6_blendFloats_X0_putLevel_u138X0 rfl rfl rfl (b0 := cX3_putLevel) (m0 := 3) (r0 := none) (by decide +kernel) (by decide +kernel) ⟨(Nat.le_of_ble_eq_true rfl), (Nat.le_of_ble_eq_true rfl)⟩) (zPV w hK (px_recv (ci := 0) (fs := [.ref b]) (r := (RX0, TX0, 1)) hK w (h.1) (h.2.2.1) rfl)) rfl rfl hl.1 rfl (lv_room (Nat.le_of_ble_eq_true rfl)) dX6_blendFloats_24 ⟨(Nat.le_of_ble_eq_true rfl), (Nat.le_of_ble_eq_true rfl)⟩
        · exact va_runU (As := [.int i, .float (FP.fsub (zLev 3 gi gf i.toNatClampNeg) v)]) (rest := []) ⟨hx, hb, hml, hown, hts⟩ (kX3_putLevel l G (by omega) h i (FP.fsub (zLev 3 gi gf i.toNatClampNeg) v) hi H.size) (va_cwU 2 hts gX6_blendFloats_X3_putLevel_u138X1 rfl rfl rfl rfl (by decide +kernel) ⟨(Nat.le_of_ble_eq_true rfl), (Nat.le_of_ble_eq_true rfl)⟩) (zPV w hK (px_recv (ci := 1) (fs := [.ref b]) (r := (RX1, TX1, 1)) hK w (h.1) (h.2.2.1) rfl)) rfl rfl hl.1 rfl (lv_room (Nat.le_of_ble_eq_true rfl)) dX6_blendFloats_24 ⟨(Nat.le_of_ble_eq_true rfl), (Nat.le_of_ble_eq_true rfl)⟩) (fun u H locs hq w => ?_)
    subst hq
    exact zRv hx hb hr hlk w dX6_blendFloats_27 (Nat.le_of_ble_eq_true rfl) (Nat.le_of_ble_eq_true rfl) (by simp [zBv, c_2])
set_option maxHeartbeats 4000000 in
set_option maxRecDepth 100000 in
theorem kX6_blend (l : Launch) (G : zG) {L : List Nat} {f : Nat → va_E} {o ac aw ar : Nat} {ch : Option Nat} {car wa : Nat → Option Nat} {ta : Nat → Int32} (h : zBn G L f o ac aw ar ch car wa ta) (hct : zCT G L f car) (hwt : zWT G L f wa) (d t i d2 t2 j less : Int32) (sz : Nat) : zMl l yX6_blend wsX6_blend { frames := 3, cells := 0, slots := 0, locals := 69 } G [.ref o, .int d, .int t, .int i, .int d2, .int t2, .int j, .int less] (va_pl L f) sz (fun r u => if zFour d ∧ zFour t ∧ (t = 3 ↔ t2 = 3) then (if zPF f car d2 t2 j = 0 then (if zPF f car d t i = 0 then (if t = 2 ∨ t2 = 2 then (u = zPutW G L f (zS t) (zA car d t) (zPlI (zS t) (vI f (zA car d t)) i.toNatClampNeg (zBv less (zLev (zS t) (vI f (zA car d t)) (vF f (zA car d t)) i.toNatClampNeg) (zLev (zS t2) (vI f (zA car d2 t2)) (vF f (zA car d2 t2)) j.toNatClampNeg))) (zPuF (zS t) (vF f (zA car d t)) i.toNatClampNeg (zBv less (zLev (zS t) (vI f (zA car d t)) (vF f (zA car d t)) i.toNatClampNeg) (zLev (zS t2) (vI f (zA car d2 t2)) (vF f (zA car d2 t2)) j.toNatClampNeg))) ∧ r = (zTold (zS t) (zPlI (zS t) (vI f (zA car d t)) i.toNatClampNeg (zBv less (zLev (zS t) (vI f (zA car d t)) (vF f (zA car d t)) i.toNatClampNeg) (zLev (zS t2) (vI f (zA car d2 t2)) (vF f (zA car d2 t2)) j.toNatClampNeg))) (zPuF (zS t) (vF f (zA car d t)) i.toNatClampNeg (zBv less (zLev (zS t) (vI f (zA car d t)) (vF f (zA car d t)) i.toNatClampNeg) (zLev (zS t2) (vI f (zA car d2 t2)) (vF f (zA car d2 t2)) j.toNatClampNeg))) i.toNatClampNeg).toInt64) else (u = zPutW G L f (zS t) (zA car d t) (zChI (zS t) (vI f (zA car d t)) (vF f (zA car d t)) i.toNatClampNeg (zHow t less) (zTold (zS t2) (vI f (zA car d2 t2)) (vF f (zA car d2 t2)) j.toNatClampNeg)) (zChF (zS t) (vF f (zA car d t)) i.toNatClampNeg (zHow t less) (zTold (zS t2) (vI f (zA car d2 t2)) (vF f (zA car d2 t2)) j.toNatClampNeg)) ∧ r = (zTold (zS t) (zChI (zS t) (vI f (zA car d t)) (vF f (zA car d t)) i.toNatClampNeg (zHow t less) (zTold (zS t2) (vI f (zA car d2 t2)) (vF f (zA car d2 t2)) j.toNatClampNeg)) (zChF (zS t) (vF f (zA car d t)) i.toNatClampNeg (zHow t less) (zTold (zS t2) (vI f (zA car d2 t2)) (vF f (zA car d2 t2)) j.toNatClampNeg)) i.toNatClampNeg).toInt64)) else zRefP G L f ar ta (zPF f car d t i) r u) else zRefP G L f ar ta (zPF f car d2 t2 j) r u) else zRefP G L f ar ta zNONE r u) 0 0 := by
  refine zIn (Qc := fun A => va_Ql _ (zB G A) A) (cc := cX6_blend) (maxL := 12) (ret := (some .long)) (by decide) rfl (Nat.le_of_ble_eq_true rfl) ?_
  intro p e s m below meth c A ls hx hb hr hlk hml hts hown hnm hK w hl
  have hown : s.vm.findClass RX6 = some m.cls := hown
  have hl : lv_has ls 12 [(0, .ref o), (1, .int d), (2, .int t), (3, .int i), (4, .int d2), (5, .int t2), (6, .int j), (7, .int less)] := hl
  obtain ⟨⟨mo, mc, mw, mr⟩, fo, fc, fw, fr⟩ := id h
  refine lv_iload_n hx hb dX6_blend_0 rfl (lv_at hl 1 rfl) ?_
  refine zCi w (va_runS (As := [.int d]) (rest := []) ⟨hx, hb, hml, hown, hts⟩ (kX6_isDeck l G _ d s.heap.size) (va_cwS 1 hts gX6_blend_X6_isDeck rfl rfl rfl (by decide +kernel) ⟨(Nat.le_of_ble_eq_true rfl), (Nat.le_of_ble_eq_true rfl)⟩) (zPS w hK) rfl rfl hl.1 rfl (lv_room (Nat.le_of_ble_eq_true rfl)) dX6_blend_1 ⟨(Nat.le_of_ble_eq_true rfl), (Nat.le_of_ble_eq_true rfl)⟩) (fun r_1 u H locs hq w => ?_)
  obtain ⟨rfl, e_r_1⟩ := hq
  refine lv_if_eq (tgt := 23) hx hb dX6_blend_4 (by decide) (fun c_2 => ?_) (fun c_2 => ?_)
  · have p_d := z00 inferInstance e_r_1 c_2
    refine lv_aload_n hx hb dX6_blend_23 rfl (lv_at hl 0 rfl) ?_
    refine lv_ldc2 hx hb hown (hts (.constantLong RX6 36 (1099511627776)) (by decide +kernel)) dX6_blend_24 ?_
    refine zCl w (va_runV (As := [.long 1099511627776]) (rest := []) ⟨hx, hb, hml, hown, hts⟩ (kX6_refuse l G h zNONE zW1 H.size) (cwV 1 hts gX6_blend_X6_refuse rfl rfl rfl (by decide +kernel) ⟨(Nat.le_of_ble_eq_true rfl), (Nat.le_of_ble_eq_true rfl)⟩) (zPV w hK (px_recv (r := (RX6, TX6, 4)) hK w mo fo rfl)) rfl rfl hl.1 rfl (lv_room (Nat.le_of_ble_eq_true rfl)) dX6_blend_27 ⟨(Nat.le_of_ble_eq_true rfl), (Nat.le_of_ble_eq_true rfl)⟩) (fun r_3 u H locs hq w => ?_)
    obtain ⟨rfl, e_r⟩ := hq
    subst e_r
    exact zRl hx hb hr hlk w dX6_blend_30 (Nat.le_of_ble_eq_true rfl) (Nat.le_of_ble_eq_true rfl) (by show (if _ then _ else _); rw [if_neg (by intro q; simp_all)]; exact ⟨rfl, rfl⟩)
  · have p_d := z01 inferInstance e_r_1 c_2
    refine lv_iload_n hx hb dX6_blend_7 rfl (lv_at hl 2 rfl) ?_
    refine zCi w (va_runS (As := [.int t]) (rest := []) ⟨hx, hb, hml, hown, hts⟩ (kX6_isSort l G _ t H.size) (va_cwS 1 hts gX6_blend_X6_isSort rfl rfl rfl (by decide +kernel) ⟨(Nat.le_of_ble_eq_true rfl), (Nat.le_of_ble_eq_true rfl)⟩) (zPS w hK) rfl rfl hl.1 rfl (lv_room (Nat.le_of_ble_eq_true rfl)) dX6_blend_8 ⟨(Nat.le_of_ble_eq_true rfl), (Nat.le_of_ble_eq_true rfl)⟩) (fun r_4 u H locs hq w => ?_)
    obtain ⟨rfl, e_r_4⟩ := hq
    refine lv_if_eq (tgt := 23) hx hb dX6_blend_11 (by decide) (fun c_5 => ?_) (fun c_5 => ?_)
    · have p_t := z00 inferInstance e_r_4 c_5
      refine lv_aload_n hx hb dX6_blend_23 rfl (lv_at hl 0 rfl) ?_
      refine lv_ldc2 hx hb hown (hts (.constantLong RX6 36 (1099511627776)) (by decide +kernel)) dX6_blend_24 ?_
      refine zCl w (va_runV (As := [.long 1099511627776]) (rest := []) ⟨hx, hb, hml, hown, hts⟩ (kX6_refuse l G h zNONE zW1 H.size) (cwV 1 hts gX6_blend_X6_refuse rfl rfl rfl (by decide +kernel) ⟨(Nat.le_of_ble_eq_true rfl), (Nat.le_of_ble_eq_true rfl)⟩) (zPV w hK (px_recv (r := (RX6, TX6, 4)) hK w mo fo rfl)) rfl rfl hl.1 rfl (lv_room (Nat.le_of_ble_eq_true rfl)) dX6_blend_27 ⟨(Nat.le_of_ble_eq_true rfl), (Nat.le_of_ble_eq_true rfl)⟩) (fun r_6 u H locs hq w => ?_)
      obtain ⟨rfl, e_r⟩ := hq
      subst e_r
      exact zRl hx hb hr hlk w dX6_blend_30 (Nat.le_of_ble_eq_true rfl) (Nat.le_of_ble_eq_true rfl) (by show (if _ then _ else _); rw [if_neg (by intro q; simp_all)]; exact ⟨rfl, rfl⟩)
    · have p_t := z01 inferInstance e_r_4 c_5
      refine lv_iload_n hx hb dX6_blend_14 rfl (lv_at hl 2 rfl) ?_
      refine lv_iload hx hb dX6_blend_15 (lv_at hl 5 rfl) ?_
      refine zCi w (va_runS (As := [.int t, .int t2]) (rest := []) ⟨hx, hb, hml, hown, hts⟩ (kX6_goTogether l G _ t t2 H.size) (va_cwS 2 hts gX6_blend_X6_goTogether rfl rfl rfl (by decide +kernel) ⟨(Nat.le_of_ble_eq_true rfl), (Nat.le_of_ble_eq_true rfl)⟩) (zPS w hK) rfl rfl hl.1 rfl (lv_room (Nat.le_of_ble_eq_true rfl)) dX6_blend_17 ⟨(Nat.le_of_ble_eq_true rfl), (Nat.le_of_ble_eq_true rfl)⟩) (fun r_7 u H locs hq w => ?_)
      obtain ⟨rfl, e_r_7⟩ := hq
      refine lv_if_ne (tgt := 31) hx hb dX6_blend_20 (by decide) (fun c_8 => ?_) (fun c_8 => ?_)
      · have p_k := z01 inferInstance e_r_7 c_8
        refine lv_aload_n hx hb dX6_blend_31 rfl (lv_at hl 0 rfl) ?_
        refine lv_iload hx hb dX6_blend_32 (lv_at hl 4 rfl) ?_
        refine lv_iload hx hb dX6_blend_34 (lv_at hl 5 rfl) ?_
        refine lv_iload hx hb dX6_blend_36 (lv_at hl 6 rfl) ?_
        refine zCl w (va_runV (As := [.int d2, .int t2, .int j]) (rest := []) ⟨hx, hb, hml, hown, hts⟩ (kX6_placeFault l G h hct d2 t2 j H.size) (cwV 3 hts gX6_blend_X6_placeFault rfl rfl rfl (by decide +kernel) ⟨(Nat.le_of_ble_eq_true rfl), (Nat.le_of_ble_eq_true rfl)⟩) (zPV w hK (px_recv (r := (RX6, TX6, 4)) hK w mo fo rfl)) rfl rfl hl.1 rfl (lv_room (Nat.le_of_ble_eq_true rfl)) dX6_blend_38 ⟨(Nat.le_of_ble_eq_true rfl), (Nat.le_of_ble_eq_true rfl)⟩) (fun r_9 u H locs hq w => ?_)
        obtain ⟨rfl, e_r⟩ := hq
        subst e_r
        refine lv_lstore (lv' := [(8, .long (zPF f car d2 t2 j)), (0, .ref o), (1, .int d), (2, .int t), (3, .int i), (4, .int d2), (5, .int t2), (6, .int j), (7, .int less)]) hx hb dX6_blend_41 hl (by decide) rfl (fun ls hl => ?_)
        refine lv_lload hx hb dX6_blend_43 (lv_at hl 0 rfl) ?_
        refine lv_lconst (v := 0) hx hb dX6_blend_45 (by decide) ?_
        refine W.lcmp hx hb dX6_blend_46 ?_
        refine lv_if_ne (tgt := 59) hx hb dX6_blend_47 (by decide) (fun c_10 => ?_) (fun c_10 => ?_)
        · have p_g := zcmp1 c_10
          refine lv_lload hx hb dX6_blend_59 (lv_at hl 0 rfl) ?_
          refine lv_lconst (v := 0) hx hb dX6_blend_61 (by decide) ?_
          refine W.lcmp hx hb dX6_blend_62 ?_
          refine lv_if_eq (tgt := 73) hx hb dX6_blend_63 (by decide) (fun c_11 => absurd c_11 c_10) (fun c_11 => ?_)
          refine lv_aload_n hx hb dX6_blend_66 rfl (lv_at hl 1 rfl) ?_
          refine lv_lload hx hb dX6_blend_67 (lv_at hl 0 rfl) ?_
          refine zCl w (va_runV (As := [.long (zPF f car d2 t2 j)]) (rest := []) ⟨hx, hb, hml, hown, hts⟩ (kX6_refuse l G h (zPF f car d2 t2 j) (zPF_why p_g) H.size) (cwV 1 hts gX6_blend_X6_refuse rfl rfl rfl (by decide +kernel) ⟨(Nat.le_of_ble_eq_true rfl), (Nat.le_of_ble_eq_true rfl)⟩) (zPV w hK (px_recv (r := (RX6, TX6, 4)) hK w mo fo rfl)) rfl rfl hl.1 rfl (lv_room (Nat.le_of_ble_eq_true rfl)) dX6_blend_69 ⟨(Nat.le_of_ble_eq_true rfl), (Nat.le_of_ble_eq_true rfl)⟩) (fun r_12 u H locs hq w => ?_)
          obtain ⟨rfl, e_r⟩ := hq
          subst e_r
          exact zRl hx hb hr hlk w dX6_blend_72 (Nat.le_of_ble_eq_true rfl) (Nat.le_of_ble_eq_true rfl) (by show (if _ then _ else _); rw [if_pos ⟨p_d, p_t, p_k⟩]; (first | rw [if_pos p_g] | rw [if_neg p_g]); (first | exact ⟨rfl, rfl⟩ | (rw [← hsN, ← hsM]; exact ⟨rfl, rfl⟩)))
        · have p_g := zcmp0 c_10
          obtain ⟨p_0, hh2⟩ := zPF_0 p_g
          obtain ⟨hd2, ht2, hca2⟩ := zRF_0 p_0
          have hB := zCT_at hct p_0
          obtain ⟨sM, hsM⟩ : ∃ sM, sM = zS t2 := ⟨_, rfl⟩
          rw [← hsM] at hB
          have hs2 : sM = 0 ∨ sM = 1 ∨ sM = 2 ∨ sM = 3 := by rw [hsM]; exact zS_or ht2
          unfold zRA at hB
          have hj := zin40 hh2 hB.2.2.2.2.1
          refine lv_aload_n hx hb dX6_blend_50 rfl (lv_at hl 1 rfl) ?_
          refine lv_iload_n hx hb dX6_blend_51 rfl (lv_at hl 2 rfl) ?_
          refine lv_iload_n hx hb dX6_blend_52 rfl (lv_at hl 3 rfl) ?_
          refine lv_iload_n hx hb dX6_blend_53 rfl (lv_at hl 4 rfl) ?_
          refine zCl w (va_runV (As := [.int d, .int t, .int i]) (rest := []) ⟨hx, hb, hml, hown, hts⟩ (kX6_placeFault l G h hct d t i H.size) (cwV 3 hts gX6_blend_X6_placeFault rfl rfl rfl (by decide +kernel) ⟨(Nat.le_of_ble_eq_true rfl), (Nat.le_of_ble_eq_true rfl)⟩) (zPV w hK (px_recv (r := (RX6, TX6, 4)) hK w mo fo rfl)) rfl rfl hl.1 rfl (lv_room (Nat.le_of_ble_eq_true rfl)) dX6_blend_54 ⟨(Nat.le_of_ble_eq_true rfl), (Nat.le_of_ble_eq_true rfl)⟩) (fun r_13 u H locs hq w => ?_)
          obtain ⟨rfl, e_r⟩ := hq
          subst e_r
          refine lv_lstore (lv' := [(8, .long (zPF f car d t i)), (0, .ref o), (1, .int d), (2, .int t), (3, .int i), (4, .int d2), (5, .int t2), (6, .int j), (7, .int less)]) hx hb dX6_blend_57 hl (by decide) rfl (fun ls hl => ?_)
          refine lv_lload hx hb dX6_blend_59 (lv_at hl 0 rfl) ?_
          refine lv_lconst (v := 0) hx hb dX6_blend_61 (by decide) ?_
          refine W.lcmp hx hb dX6_blend_62 ?_
          refine lv_if_eq (tgt := 73) hx hb dX6_blend_63 (by decide) (fun c_14 => ?_) (fun c_14 => ?_)
          · have p_f := zcmp0 c_14
            obtain ⟨p_00, hh⟩ := zPF_0 p_f
            obtain ⟨hd, ht, hca⟩ := zRF_0 p_00
            have hA := zCT_at hct p_00
            obtain ⟨sN, hsN⟩ : ∃ sN, sN = zS t := ⟨_, rfl⟩
            rw [← hsN] at hA
            have hs : sN = 0 ∨ sN = 1 ∨ sN = 2 ∨ sN = 3 := by rw [hsN]; exact zS_or ht
            unfold zRA at hA
            have hi := zin40 hh hA.2.2.2.2.1
            refine lv_aload_n hx hb dX6_blend_73 rfl (lv_at hl 1 rfl) ?_
            refine lv_iload_n hx hb dX6_blend_74 rfl (lv_at hl 2 rfl) ?_
            refine lv_iload_n hx hb dX6_blend_75 rfl (lv_at hl 3 rfl) ?_
            refine zCq w (va_runV (As := [.int d, .int t]) (rest := []) ⟨hx, hb, hml, hown, hts⟩ (kX6_reelOn l G h d t hd ht H.size) (cwV 2 hts gX6_blend_X6_reelOn rfl rfl rfl (by decide +kernel) ⟨(Nat.le_of_ble_eq_true rfl), (Nat.le_of_ble_eq_true rfl)⟩) (zPV w hK (px_recv (r := (RX6, TX6, 4)) hK w mo fo rfl)) rfl rfl hl.1 rfl (lv_room (Nat.le_of_ble_eq_true rfl)) dX6_blend_76 ⟨(Nat.le_of_ble_eq_true rfl), (Nat.le_of_ble_eq_true rfl)⟩) (fun r_15 u H locs hq w => ?_)
            obtain ⟨rfl, e_r⟩ := hq
            subst e_r
            rw [hca]
            refine lv_astore (lv' := [(10, .ref (zA car d t)), (8, .long (zPF f car d t i)), (0, .ref o), (1, .int d), (2, .int t), (3, .int i), (4, .int d2), (5, .int t2), (6, .int j), (7, .int less)]) hx hb dX6_blend_79 hl (by decide) rfl (fun ls hl => ?_)
            refine lv_aload_n hx hb dX6_blend_81 rfl (lv_at hl 2 rfl) ?_
            refine lv_iload hx hb dX6_blend_82 (lv_at hl 6 rfl) ?_
            refine lv_iload hx hb dX6_blend_84 (lv_at hl 7 rfl) ?_
            refine zCq w (va_runV (As := [.int d2, .int t2]) (rest := []) ⟨hx, hb, hml, hown, hts⟩ (kX6_reelOn l G h d2 t2 hd2 ht2 H.size) (cwV 2 hts gX6_blend_X6_reelOn rfl rfl rfl (by decide +kernel) ⟨(Nat.le_of_ble_eq_true rfl), (Nat.le_of_ble_eq_true rfl)⟩) (zPV w hK (px_recv (r := (RX6, TX6, 4)) hK w mo fo rfl)) rfl rfl hl.1 rfl (lv_room (Nat.le_of_ble_eq_true rfl)) dX6_blend_86 ⟨(Nat.le_of_ble_eq_true rfl), (Nat.le_of_ble_eq_true rfl)⟩) (fun r_16 u H locs hq w => ?_)
            obtain ⟨rfl, e_r⟩ := hq
            subst e_r
            rw [hca2]
            refine lv_astore (lv' := [(11, .ref (zA car d2 t2)), (10, .ref (zA car d t)), (8, .long (zPF f car d t i)), (0, .ref o), (1, .int d), (2, .int t), (3, .int i), (4, .int d2), (5, .int t2), (6, .int j), (7, .int less)]) hx hb dX6_blend_89 hl (by decide) rfl (fun ls hl => ?_)
            refine lv_iload_n hx hb dX6_blend_91 rfl (lv_at hl 5 rfl) ?_
            refine lv_iconst (v := 2) hx hb dX6_blend_92 (by decide) ?_
            refine lv_icmp_eq (tgt := 102) hx hb dX6_blend_93 (by decide) (fun c_17 => ?_) (fun c_17 => ?_)
            · have p_2 : t = 2 ∨ t2 = 2 := Or.inl c_17
              refine lv_aload hx hb dX6_blend_102 (lv_at hl 1 rfl) ?_
              refine lv_iload_n hx hb dX6_blend_104 rfl (lv_at hl 6 rfl) ?_
              refine lv_aload hx hb dX6_blend_105 (lv_at hl 0 rfl) ?_
              refine lv_iload hx hb dX6_blend_107 (lv_at hl 9 rfl) ?_
              refine zCf (post := fun r u => u = va_pl L f ∧ r = (zLev sM (vI f (zA car d2 t2)) (vF f (zA car d2 t2)) j.toNatClampNeg)) (mc := 0) (ms := 0) (rest := [.int i, .ref (zA car d t)]) (av := (Value.ref (zA car d2 t2) :: [.int j]).toArray) w (by
                  rcases hs2 with rfl | rfl | rfl | rfl
                  · exact va_runU (As := [.int j]) (rest := [.int i, .ref (zA car d t)]) ⟨hx, hb, hml, hown, hts⟩ (kX3_level l G (by omega) hB j hj H.size) (va_cwU 1 hts gX6_blend_X3_level_u98X2 rfl rfl rfl rfl (by decide +kernel) ⟨(Nat.le_of_ble_eq_true rfl), (Nat.le_of_ble_eq_true rfl)⟩) (zPV w hK (px_recv (ci := 2) (fs := [.ref (vB f (zA car d2 t2))]) (r := (RX2, TX2, 1)) hK w (hB.1) (hB.2.2.1) rfl)) rfl rfl hl.1 rfl (lv_room (Nat.le_of_ble_eq_true rfl)) dX6_blend_109 ⟨(Nat.le_of_ble_eq_true rfl), (Nat.le_of_ble_eq_true rfl)⟩
                  · exact va_runU (As := [.int j]) (rest := [.int i, .ref (zA car d t)]) ⟨hx, hb, hml, hown, hts⟩ (kX3_level l G (by omega) hB j hj H.size) (va_cwU 1 hts gX6_blend_X3_level_u98X5 rfl rfl rfl rfl (by decide +kernel) ⟨(Nat.le_of_ble_eq_true rfl), (Nat.le_of_ble_eq_true rfl)⟩) (zPV w hK (px_recv (ci := 4) (fs := [.ref (vB f (zA car d2 t2))]) (r := (RX5, TX5, 1)) hK w (hB.1) (hB.2.2.1) rfl)) rfl rfl hl.1 rfl (lv_room (Nat.le_of_ble_eq_true rfl)) dX6_blend_109 ⟨(Nat.le_of_ble_eq_true rfl), (Nat.le_of_ble_eq_true rfl)⟩
                  · exact va_runU (As := [.int j]) (rest := [.int i, .ref (zA car d t)]) ⟨hx, hb, hml, hown, hts⟩ (kX0_level l G hB j hj H.size) (va_cwO 1 hts gX6_blend_X0_level_u98X0 rfl rfl rfl (b0 := cX3_level) (m0 := 2) (r0 := (some .float)) (by decide +kernel) (by decide +kernel) ⟨(Nat.le_of_ble_eq_true rfl), (Nat.le_of_ble_eq_true rfl)⟩) (zPV w hK (px_recv (ci := 0) (fs := [.ref (vB f (zA car d2 t2))]) (r := (RX0, TX0, 1)) hK w (hB.1) (hB.2.2.1) rfl)) rfl rfl hl.1 rfl (lv_room (Nat.le_of_ble_eq_true rfl)) dX6_blend_109 ⟨(Nat.le_of_ble_eq_true rfl), (Nat.le_of_ble_eq_true rfl)⟩
                  · exact va_runU (As := [.int j]) (rest := [.int i, .ref (zA car d t)]) ⟨hx, hb, hml, hown, hts⟩ (kX3_level l G (by omega) hB j hj H.size) (va_cwU 1 hts gX6_blend_X3_level_u98X1 rfl rfl rfl rfl (by decide +kernel) ⟨(Nat.le_of_ble_eq_true rfl), (Nat.le_of_ble_eq_true rfl)⟩) (zPV w hK (px_recv (ci := 1) (fs := [.ref (vB f (zA car d2 t2))]) (r := (RX1, TX1, 1)) hK w (hB.1) (hB.2.2.1) rfl)) rfl rfl hl.1 rfl (lv_room (Nat.le_of_ble_eq_true rfl)) dX6_blend_109 ⟨(Nat.le_of_ble_eq_true rfl), (Nat.le_of_ble_eq_true rfl)⟩) (fun r_18 u H locs hq w => ?_)
              obtain ⟨rfl, e_r⟩ := hq
              subst e_r
              refine lv_iload hx hb dX6_blend_112 (lv_at hl 10 rfl) ?_
              refine zCv w (va_runS (As := [.ref (zA car d t), .int i, .float (zLev sM (vI f (zA car d2 t2)) (vF f (zA car d2 t2)) j.toNatClampNeg), .int less]) (rest := []) ⟨hx, hb, hml, hown, hts⟩ (kX6_blendFloats l G hs hA i (zLev sM (vI f (zA car d2 t2)) (vF f (zA car d2 t2)) j.toNatClampNeg) less hi (zLev_fin hB (zin_lt hj)) H.size) (va_cwS 4 hts gX6_blend_X6_blendFloats rfl rfl rfl (by decide +kernel) ⟨(Nat.le_of_ble_eq_true rfl), (Nat.le_of_ble_eq_true rfl)⟩) (zPS w hK) rfl rfl hl.1 rfl (lv_room (Nat.le_of_ble_eq_true rfl)) dX6_blend_114 ⟨(Nat.le_of_ble_eq_true rfl), (Nat.le_of_ble_eq_true rfl)⟩) (fun u H locs hq w => ?_)
              subst hq
              have hA2 := zRe_up (gi2 := zPlI sN (vI f (zA car d t)) i.toNatClampNeg (zBv less (zLev sN (vI f (zA car d t)) (vF f (zA car d t)) i.toNatClampNeg) (zLev sM (vI f (zA car d2 t2)) (vF f (zA car d2 t2)) j.toNatClampNeg))) (gf2 := zPuF sN (vF f (zA car d t)) i.toNatClampNeg (zBv less (zLev sN (vI f (zA car d t)) (vF f (zA car d t)) i.toNatClampNeg) (zLev sM (vI f (zA car d2 t2)) (vF f (zA car d2 t2)) j.toNatClampNeg))) hA (zPuF_fin hA (zBv_n (zLev_fin hA (zin_lt hi)) (zLev_fin hB (zin_lt hj))))
              refine lv_goto (tgt := 139) hx hb dX6_blend_117 (by decide) ?_
              refine lv_aload hx hb dX6_blend_139 (lv_at hl 1 rfl) ?_
              refine lv_iload_n hx hb dX6_blend_141 rfl (lv_at hl 6 rfl) ?_
              refine zCi (post := fun r u => u = zPutW G L f sN (zA car d t) (zPlI sN (vI f (zA car d t)) i.toNatClampNeg (zBv less (zLev sN (vI f (zA car d t)) (vF f (zA car d t)) i.toNatClampNeg) (zLev sM (vI f (zA car d2 t2)) (vF f (zA car d2 t2)) j.toNatClampNeg))) (zPuF sN (vF f (zA car d t)) i.toNatClampNeg (zBv less (zLev sN (vI f (zA car d t)) (vF f (zA car d t)) i.toNatClampNeg) (zLev sM (vI f (zA car d2 t2)) (vF f (zA car d2 t2)) j.toNatClampNeg))) ∧ r = zTold sN (zPlI sN (vI f (zA car d t)) i.toNatClampNeg (zBv less (zLev sN (vI f (zA car d t)) (vF f (zA car d t)) i.toNatClampNeg) (zLev sM (vI f (zA car d2 t2)) (vF f (zA car d2 t2)) j.toNatClampNeg))) (zPuF sN (vF f (zA car d t)) i.toNatClampNeg (zBv less (zLev sN (vI f (zA car d t)) (vF f (zA car d t)) i.toNatClampNeg) (zLev sM (vI f (zA car d2 t2)) (vF f (zA car d2 t2)) j.toNatClampNeg))) i.toNatClampNeg) (mc := 0) (ms := 0) (rest := []) (av := (Value.ref (zA car d t) :: [.int i]).toArray) w (by
                  rcases hs with rfl | rfl | rfl | rfl
                  · exact va_runU (As := [.int i]) (rest := []) ⟨hx, hb, hml, hown, hts⟩ (kX2_told l G hA2 i hi H.size) (va_cwA 1 hts gX6_blend_X2_told_u73X2 rfl rfl rfl hK.2.1.2.1 (by decide +kernel) ⟨(Nat.le_of_ble_eq_true rfl), (Nat.le_of_ble_eq_true rfl)⟩) (zPV w hK (px_recv (ci := 2) (fs := [.ref (vB f (zA car d t))]) (r := (RX2, TX2, 1)) hK w (hA2.1) (hA2.2.2.1) rfl)) rfl rfl hl.1 rfl (lv_room (Nat.le_of_ble_eq_true rfl)) dX6_blend_142 ⟨(Nat.le_of_ble_eq_true rfl), (Nat.le_of_ble_eq_true rfl)⟩
                  · exact va_runU (As := [.int i]) (rest := []) ⟨hx, hb, hml, hown, hts⟩ (kX5_told l G hA2 i hi H.size) (va_cwA 1 hts gX6_blend_X5_told_u73X5 rfl rfl rfl hK.2.1.2.1 (by decide +kernel) ⟨(Nat.le_of_ble_eq_true rfl), (Nat.le_of_ble_eq_true rfl)⟩) (zPV w hK (px_recv (ci := 4) (fs := [.ref (vB f (zA car d t))]) (r := (RX5, TX5, 1)) hK w (hA2.1) (hA2.2.2.1) rfl)) rfl rfl hl.1 rfl (lv_room (Nat.le_of_ble_eq_true rfl)) dX6_blend_142 ⟨(Nat.le_of_ble_eq_true rfl), (Nat.le_of_ble_eq_true rfl)⟩
                  · exact va_runU (As := [.int i]) (rest := []) ⟨hx, hb, hml, hown, hts⟩ (kX0_told l G hA2 i hi H.size) (va_cwA 1 hts gX6_blend_X0_told_u73X0 rfl rfl rfl hK.2.1.2.1 (by decide +kernel) ⟨(Nat.le_of_ble_eq_true rfl), (Nat.le_of_ble_eq_true rfl)⟩) (zPV w hK (px_recv (ci := 0) (fs := [.ref (vB f (zA car d t))]) (r := (RX0, TX0, 1)) hK w (hA2.1) (hA2.2.2.1) rfl)) rfl rfl hl.1 rfl (lv_room (Nat.le_of_ble_eq_true rfl)) dX6_blend_142 ⟨(Nat.le_of_ble_eq_true rfl), (Nat.le_of_ble_eq_true rfl)⟩
                  · exact va_runU (As := [.int i]) (rest := []) ⟨hx, hb, hml, hown, hts⟩ (kX1_told l G hA2 i hi H.size) (va_cwA 1 hts gX6_blend_X1_told_u73X1 rfl rfl rfl hK.2.1.2.1 (by decide +kernel) ⟨(Nat.le_of_ble_eq_true rfl), (Nat.le_of_ble_eq_true rfl)⟩) (zPV w hK (px_recv (ci := 1) (fs := [.ref (vB f (zA car d t))]) (r := (RX1, TX1, 1)) hK w (hA2.1) (hA2.2.2.1) rfl)) rfl rfl hl.1 rfl (lv_room (Nat.le_of_ble_eq_true rfl)) dX6_blend_142 ⟨(Nat.le_of_ble_eq_true rfl), (Nat.le_of_ble_eq_true rfl)⟩) (fun r_19 u H locs hq w => ?_)
              obtain ⟨rfl, e_r⟩ := hq
              subst e_r
              refine lv_i2l hx hb dX6_blend_145 rfl ?_
              exact zRl hx hb hr hlk w dX6_blend_146 (Nat.le_of_ble_eq_true rfl) (Nat.le_of_ble_eq_true rfl) (by show (if _ then _ else _); rw [if_pos ⟨p_d, p_t, p_k⟩]; (first | rw [if_pos p_g] | rw [if_neg p_g]); (first | rw [if_pos p_f] | rw [if_neg p_f]); (first | rw [if_pos p_2] | rw [if_neg p_2]); (first | exact ⟨rfl, rfl⟩ | (rw [← hsN, ← hsM]; exact ⟨rfl, rfl⟩)))
            · have q_2 := c_17
              refine lv_iload hx hb dX6_blend_96 (lv_at hl 8 rfl) ?_
              refine lv_iconst (v := 2) hx hb dX6_blend_98 (by decide) ?_
              refine lv_icmp_ne (tgt := 120) hx hb dX6_blend_99 (by decide) (fun c_20 => ?_) (fun c_20 => ?_)
              · have p_2 : ¬ (t = 2 ∨ t2 = 2) := fun q => q.elim q_2 c_20
                have hs3 := zS_3 hs (by rw [hsN]; exact zS_ne2 ht q_2)
                refine lv_aload hx hb dX6_blend_120 (lv_at hl 1 rfl) ?_
                refine lv_iload_n hx hb dX6_blend_122 rfl (lv_at hl 6 rfl) ?_
                refine lv_iload_n hx hb dX6_blend_123 rfl (lv_at hl 5 rfl) ?_
                refine lv_iload hx hb dX6_blend_124 (lv_at hl 10 rfl) ?_
                refine zCi w (va_runS (As := [.int t, .int less]) (rest := [.int i, .ref (zA car d t)]) ⟨hx, hb, hml, hown, hts⟩ (kX6_howToBlend l G _ t less H.size) (va_cwS 2 hts gX6_blend_X6_howToBlend rfl rfl rfl (by decide +kernel) ⟨(Nat.le_of_ble_eq_true rfl), (Nat.le_of_ble_eq_true rfl)⟩) (zPS w hK) rfl rfl hl.1 rfl (lv_room (Nat.le_of_ble_eq_true rfl)) dX6_blend_126 ⟨(Nat.le_of_ble_eq_true rfl), (Nat.le_of_ble_eq_true rfl)⟩) (fun r_21 u H locs hq w => ?_)
                obtain ⟨rfl, e_r⟩ := hq
                subst e_r
                refine lv_aload hx hb dX6_blend_129 (lv_at hl 0 rfl) ?_
                refine lv_iload hx hb dX6_blend_131 (lv_at hl 9 rfl) ?_
                refine zCi (post := fun r u => u = va_pl L f ∧ r = (zTold sM (vI f (zA car d2 t2)) (vF f (zA car d2 t2)) j.toNatClampNeg)) (mc := 0) (ms := 0) (rest := [.int (zHow t less), .int i, .ref (zA car d t)]) (av := (Value.ref (zA car d2 t2) :: [.int j]).toArray) w (by
                    rcases hs2 with rfl | rfl | rfl | rfl
                    · exact va_runU (As := [.int j]) (rest := [.int (zHow t less), .int i, .ref (zA car d t)]) ⟨hx, hb, hml, hown, hts⟩ (kX2_told l G hB j hj H.size) (va_cwA 1 hts gX6_blend_X2_told_u73X2 rfl rfl rfl hK.2.1.2.1 (by decide +kernel) ⟨(Nat.le_of_ble_eq_true rfl), (Nat.le_of_ble_eq_true rfl)⟩) (zPV w hK (px_recv (ci := 2) (fs := [.ref (vB f (zA car d2 t2))]) (r := (RX2, TX2, 1)) hK w (hB.1) (hB.2.2.1) rfl)) rfl rfl hl.1 rfl (lv_room (Nat.le_of_ble_eq_true rfl)) dX6_blend_133 ⟨(Nat.le_of_ble_eq_true rfl), (Nat.le_of_ble_eq_true rfl)⟩
                    · exact va_runU (As := [.int j]) (rest := [.int (zHow t less), .int i, .ref (zA car d t)]) ⟨hx, hb, hml, hown, hts⟩ (kX5_told l G hB j hj H.size) (va_cwA 1 hts gX6_blend_X5_told_u73X5 rfl rfl rfl hK.2.1.2.1 (by decide +kernel) ⟨(Nat.le_of_ble_eq_true rfl), (Nat.le_of_ble_eq_true rfl)⟩) (zPV w hK (px_recv (ci := 4) (fs := [.ref (vB f (zA car d2 t2))]) (r := (RX5, TX5, 1)) hK w (hB.1) (hB.2.2.1) rfl)) rfl rfl hl.1 rfl (lv_room (Nat.le_of_ble_eq_true rfl)) dX6_blend_133 ⟨(Nat.le_of_ble_eq_true rfl), (Nat.le_of_ble_eq_true rfl)⟩
                    · exact va_runU (As := [.int j]) (rest := [.int (zHow t less), .int i, .ref (zA car d t)]) ⟨hx, hb, hml, hown, hts⟩ (kX0_told l G hB j hj H.size) (va_cwA 1 hts gX6_blend_X0_told_u73X0 rfl rfl rfl hK.2.1.2.1 (by decide +kernel) ⟨(Nat.le_of_ble_eq_true rfl), (Nat.le_of_ble_eq_true rfl)⟩) (zPV w hK (px_recv (ci := 0) (fs := [.ref (vB f (zA car d2 t2))]) (r := (RX0, TX0, 1)) hK w (hB.1) (hB.2.2.1) rfl)) rfl rfl hl.1 rfl (lv_room (Nat.le_of_ble_eq_true rfl)) dX6_blend_133 ⟨(Nat.le_of_ble_eq_true rfl), (Nat.le_of_ble_eq_true rfl)⟩
                    · exact va_runU (As := [.int j]) (rest := [.int (zHow t less), .int i, .ref (zA car d t)]) ⟨hx, hb, hml, hown, hts⟩ (kX1_told l G hB j hj H.size) (va_cwA 1 hts gX6_blend_X1_told_u73X1 rfl rfl rfl hK.2.1.2.1 (by decide +kernel) ⟨(Nat.le_of_ble_eq_true rfl), (Nat.le_of_ble_eq_true rfl)⟩) (zPV w hK (px_recv (ci := 1) (fs := [.ref (vB f (zA car d2 t2))]) (r := (RX1, TX1, 1)) hK w (hB.1) (hB.2.2.1) rfl)) rfl rfl hl.1 rfl (lv_room (Nat.le_of_ble_eq_true rfl)) dX6_blend_133 ⟨(Nat.le_of_ble_eq_true rfl), (Nat.le_of_ble_eq_true rfl)⟩) (fun r_22 u H locs hq w => ?_)
                obtain ⟨rfl, e_r⟩ := hq
                subst e_r
                refine zCv (post := fun u => u = zPutW G L f sN (zA car d t) (zChI sN (vI f (zA car d t)) (vF f (zA car d t)) i.toNatClampNeg (zHow t less) (zTold sM (vI f (zA car d2 t2)) (vF f (zA car d2 t2)) j.toNatClampNeg)) (zChF sN (vF f (zA car d t)) i.toNatClampNeg (zHow t less) (zTold sM (vI f (zA car d2 t2)) (vF f (zA car d2 t2)) j.toNatClampNeg))) (mc := 0) (ms := 0) (rest := []) (av := (Value.ref (zA car d t) :: [.int i, .int (zHow t less), .int (zTold sM (vI f (zA car d2 t2)) (vF f (zA car d2 t2)) j.toNatClampNeg)]).toArray) w (by
                    rcases hs3 with rfl | rfl | rfl
                    · exact va_runU (As := [.int i, .int (zHow t less), .int (zTold sM (vI f (zA car d2 t2)) (vF f (zA car d2 t2)) j.toNatClampNeg)]) (rest := []) ⟨hx, hb, hml, hown, hts⟩ (kX3_change l G (by omega) hA i (zHow t less) (zTold sM (vI f (zA car d2 t2)) (vF f (zA car d2 t2)) j.toNatClampNeg) hi zbl_dv H.size) (va_cwU 3 hts gX6_blend_X3_change_u87X2 rfl rfl rfl rfl (by decide +kernel) ⟨(Nat.le_of_ble_eq_true rfl), (Nat.le_of_ble_eq_true rfl)⟩) (zPV w hK (px_recv (ci := 2) (fs := [.ref (vB f (zA car d t))]) (r := (RX2, TX2, 1)) hK w (hA.1) (hA.2.2.1) rfl)) rfl rfl hl.1 rfl (lv_room (Nat.le_of_ble_eq_true rfl)) dX6_blend_136 ⟨(Nat.le_of_ble_eq_true rfl), (Nat.le_of_ble_eq_true rfl)⟩
                    · exact va_runU (As := [.int i, .int (zHow t less), .int (zTold sM (vI f (zA car d2 t2)) (vF f (zA car d2 t2)) j.toNatClampNeg)]) (rest := []) ⟨hx, hb, hml, hown, hts⟩ (kX3_change l G (by omega) hA i (zHow t less) (zTold sM (vI f (zA car d2 t2)) (vF f (zA car d2 t2)) j.toNatClampNeg) hi zbl_dv H.size) (va_cwU 3 hts gX6_blend_X3_change_u87X5 rfl rfl rfl rfl (by decide +kernel) ⟨(Nat.le_of_ble_eq_true rfl), (Nat.le_of_ble_eq_true rfl)⟩) (zPV w hK (px_recv (ci := 4) (fs := [.ref (vB f (zA car d t))]) (r := (RX5, TX5, 1)) hK w (hA.1) (hA.2.2.1) rfl)) rfl rfl hl.1 rfl (lv_room (Nat.le_of_ble_eq_true rfl)) dX6_blend_136 ⟨(Nat.le_of_ble_eq_true rfl), (Nat.le_of_ble_eq_true rfl)⟩
                    · exact va_runU (As := [.int i, .int (zHow t less), .int (zTold sM (vI f (zA car d2 t2)) (vF f (zA car d2 t2)) j.toNatClampNeg)]) (rest := []) ⟨hx, hb, hml, hown, hts⟩ (kX3_change l G (by omega) hA i (zHow t less) (zTold sM (vI f (zA car d2 t2)) (vF f (zA car d2 t2)) j.toNatClampNeg) hi zbl_dv H.size) (va_cwU 3 hts gX6_blend_X3_change_u87X1 rfl rfl rfl rfl (by decide +kernel) ⟨(Nat.le_of_ble_eq_true rfl), (Nat.le_of_ble_eq_true rfl)⟩) (zPV w hK (px_recv (ci := 1) (fs := [.ref (vB f (zA car d t))]) (r := (RX1, TX1, 1)) hK w (hA.1) (hA.2.2.1) rfl)) rfl rfl hl.1 rfl (lv_room (Nat.le_of_ble_eq_true rfl)) dX6_blend_136 ⟨(Nat.le_of_ble_eq_true rfl), (Nat.le_of_ble_eq_true rfl)⟩) (fun u H locs hq w => ?_)
                subst hq
                have hA2 := zRe_up (gi2 := zChI sN (vI f (zA car d t)) (vF f (zA car d t)) i.toNatClampNeg (zHow t less) (zTold sM (vI f (zA car d2 t2)) (vF f (zA car d2 t2)) j.toNatClampNeg)) (gf2 := zChF sN (vF f (zA car d t)) i.toNatClampNeg (zHow t less) (zTold sM (vI f (zA car d2 t2)) (vF f (zA car d2 t2)) j.toNatClampNeg)) hA (zChF_fin hA (zin_lt hi))
                refine lv_aload hx hb dX6_blend_139 (lv_at hl 1 rfl) ?_
                refine lv_iload_n hx hb dX6_blend_141 rfl (lv_at hl 6 rfl) ?_
                refine zCi (post := fun r u => u = zPutW G L f sN (zA car d t) (zChI sN (vI f (zA car d t)) (vF f (zA car d t)) i.toNatClampNeg (zHow t less) (zTold sM (vI f (zA car d2 t2)) (vF f (zA car d2 t2)) j.toNatClampNeg)) (zChF sN (vF f (zA car d t)) i.toNatClampNeg (zHow t less) (zTold sM (vI f (zA car d2 t2)) (vF f (zA car d2 t2)) j.toNatClampNeg)) ∧ r = zTold sN (zChI sN (vI f (zA car d t)) (vF f (zA car d t)) i.toNatClampNeg (zHow t less) (zTold sM (vI f (zA car d2 t2)) (vF f (zA car d2 t2)) j.toNatClampNeg)) (zChF sN (vF f (zA car d t)) i.toNatClampNeg (zHow t less) (zTold sM (vI f (zA car d2 t2)) (vF f (zA car d2 t2)) j.toNatClampNeg)) i.toNatClampNeg) (mc := 0) (ms := 0) (rest := []) (av := (Value.ref (zA car d t) :: [.int i]).toArray) w (by
                    rcases hs with rfl | rfl | rfl | rfl
                    · exact va_runU (As := [.int i]) (rest := []) ⟨hx, hb, hml, hown, hts⟩ (kX2_told l G hA2 i hi H.size) (va_cwA 1 hts gX6_blend_X2_told_u73X2 rfl rfl rfl hK.2.1.2.1 (by decide +kernel) ⟨(Nat.le_of_ble_eq_true rfl), (Nat.le_of_ble_eq_true rfl)⟩) (zPV w hK (px_recv (ci := 2) (fs := [.ref (vB f (zA car d t))]) (r := (RX2, TX2, 1)) hK w (hA2.1) (hA2.2.2.1) rfl)) rfl rfl hl.1 rfl (lv_room (Nat.le_of_ble_eq_true rfl)) dX6_blend_142 ⟨(Nat.le_of_ble_eq_true rfl), (Nat.le_of_ble_eq_true rfl)⟩
                    · exact va_runU (As := [.int i]) (rest := []) ⟨hx, hb, hml, hown, hts⟩ (kX5_told l G hA2 i hi H.size) (va_cwA 1 hts gX6_blend_X5_told_u73X5 rfl rfl rfl hK.2.1.2.1 (by decide +kernel) ⟨(Nat.le_of_ble_eq_true rfl), (Nat.le_of_ble_eq_true rfl)⟩) (zPV w hK (px_recv (ci := 4) (fs := [.ref (vB f (zA car d t))]) (r := (RX5, TX5, 1)) hK w (hA2.1) (hA2.2.2.1) rfl)) rfl rfl hl.1 rfl (lv_room (Nat.le_of_ble_eq_true rfl)) dX6_blend_142 ⟨(Nat.le_of_ble_eq_true rfl), (Nat.le_of_ble_eq_true rfl)⟩
                    · exact va_runU (As := [.int i]) (rest := []) ⟨hx, hb, hml, hown, hts⟩ (kX0_told l G hA2 i hi H.size) (va_cwA 1 hts gX6_blend_X0_told_u73X0 rfl rfl rfl hK.2.1.2.1 (by decide +kernel) ⟨(Nat.le_of_ble_eq_true rfl), (Nat.le_of_ble_eq_true rfl)⟩) (zPV w hK (px_recv (ci := 0) (fs := [.ref (vB f (zA car d t))]) (r := (RX0, TX0, 1)) hK w (hA2.1) (hA2.2.2.1) rfl)) rfl rfl hl.1 rfl (lv_room (Nat.le_of_ble_eq_true rfl)) dX6_blend_142 ⟨(Nat.le_of_ble_eq_true rfl), (Nat.le_of_ble_eq_true rfl)⟩
                    · exact va_runU (As := [.int i]) (rest := []) ⟨hx, hb, hml, hown, hts⟩ (kX1_told l G hA2 i hi H.size) (va_cwA 1 hts gX6_blend_X1_told_u73X1 rfl rfl rfl hK.2.1.2.1 (by decide +kernel) ⟨(Nat.le_of_ble_eq_true rfl), (Nat.le_of_ble_eq_true rfl)⟩) (zPV w hK (px_recv (ci := 1) (fs := [.ref (vB f (zA car d t))]) (r := (RX1, TX1, 1)) hK w (hA2.1) (hA2.2.2.1) rfl)) rfl rfl hl.1 rfl (lv_room (Nat.le_of_ble_eq_true rfl)) dX6_blend_142 ⟨(Nat.le_of_ble_eq_true rfl), (Nat.le_of_ble_eq_true rfl)⟩) (fun r_23 u H locs hq w => ?_)
                obtain ⟨rfl, e_r⟩ := hq
                subst e_r
                refine lv_i2l hx hb dX6_blend_145 rfl ?_
                exact zRl hx hb hr hlk w dX6_blend_146 (Nat.le_of_ble_eq_true rfl) (Nat.le_of_ble_eq_true rfl) (by show (if _ then _ else _); rw [if_pos ⟨p_d, p_t, p_k⟩]; (first | rw [if_pos p_g] | rw [if_neg p_g]); (first | rw [if_pos p_f] | rw [if_neg p_f]); (first | rw [if_pos p_2] | rw [if_neg p_2]); (first | exact ⟨rfl, rfl⟩ | (rw [← hsN, ← hsM]; exact ⟨rfl, rfl⟩)))
              · have p_2 : t = 2 ∨ t2 = 2 := Or.inr c_20
                refine lv_aload hx hb dX6_blend_102 (lv_at hl 1 rfl) ?_
                refine lv_iload_n hx hb dX6_blend_104 rfl (lv_at hl 6 rfl) ?_
                refine lv_aload hx hb dX6_blend_105 (lv_at hl 0 rfl) ?_
                refine lv_iload hx hb dX6_blend_107 (lv_at hl 9 rfl) ?_
                refine zCf (post := fun r u => u = va_pl L f ∧ r = (zLev sM (vI f (zA car d2 t2)) (vF f (zA car d2 t2)) j.toNatClampNeg)) (mc := 0) (ms := 0) (rest := [.int i, .ref (zA car d t)]) (av := (Value.ref (zA car d2 t2) :: [.int j]).toArray) w (by
                    rcases hs2 with rfl | rfl | rfl | rfl
                    · exact va_runU (As := [.int j]) (rest := [.int i, .ref (zA car d t)]) ⟨hx, hb, hml, hown, hts⟩ (kX3_level l G (by omega) hB j hj H.size) (va_cwU 1 hts gX6_blend_X3_level_u98X2 rfl rfl rfl rfl (by decide +kernel) ⟨(Nat.le_of_ble_eq_true rfl), (Nat.le_of_ble_eq_true rfl)⟩) (zPV w hK (px_recv (ci := 2) (fs := [.ref (vB f (zA car d2 t2))]) (r := (RX2, TX2, 1)) hK w (hB.1) (hB.2.2.1) rfl)) rfl rfl hl.1 rfl (lv_room (Nat.le_of_ble_eq_true rfl)) dX6_blend_109 ⟨(Nat.le_of_ble_eq_true rfl), (Nat.le_of_ble_eq_true rfl)⟩
                    · exact va_runU (As := [.int j]) (rest := [.int i, .ref (zA car d t)]) ⟨hx, hb, hml, hown, hts⟩ (kX3_level l G (by omega) hB j hj H.size) (va_cwU 1 hts gX6_blend_X3_level_u98X5 rfl rfl rfl rfl (by decide +kernel) ⟨(Nat.le_of_ble_eq_true rfl), (Nat.le_of_ble_eq_true rfl)⟩) (zPV w hK (px_recv (ci := 4) (fs := [.ref (vB f (zA car d2 t2))]) (r := (RX5, TX5, 1)) hK w (hB.1) (hB.2.2.1) rfl)) rfl rfl hl.1 rfl (lv_room (Nat.le_of_ble_eq_true rfl)) dX6_blend_109 ⟨(Nat.le_of_ble_eq_true rfl), (Nat.le_of_ble_eq_true rfl)⟩
                    · exact va_runU (As := [.int j]) (rest := [.int i, .ref (zA car d t)]) ⟨hx, hb, hml, hown, hts⟩ (kX0_level l G hB j hj H.size) (va_cwO 1 hts gX6_blend_X0_level_u98X0 rfl rfl rfl (b0 := cX3_level) (m0 := 2) (r0 := (some .float)) (by decide +kernel) (by decide +kernel) ⟨(Nat.le_of_ble_eq_true rfl), (Nat.le_of_ble_eq_true rfl)⟩) (zPV w hK (px_recv (ci := 0) (fs := [.ref (vB f (zA car d2 t2))]) (r := (RX0, TX0, 1)) hK w (hB.1) (hB.2.2.1) rfl)) rfl rfl hl.1 rfl (lv_room (Nat.le_of_ble_eq_true rfl)) dX6_blend_109 ⟨(Nat.le_of_ble_eq_true rfl), (Nat.le_of_ble_eq_true rfl)⟩
                    · exact va_runU (As := [.int j]) (rest := [.int i, .ref (zA car d t)]) ⟨hx, hb, hml, hown, hts⟩ (kX3_level l G (by omega) hB j hj H.size) (va_cwU 1 hts gX6_blend_X3_level_u98X1 rfl rfl rfl rfl (by decide +kernel) ⟨(Nat.le_of_ble_eq_true rfl), (Nat.le_of_ble_eq_true rfl)⟩) (zPV w hK (px_recv (ci := 1) (fs := [.ref (vB f (zA car d2 t2))]) (r := (RX1, TX1, 1)) hK w (hB.1) (hB.2.2.1) rfl)) rfl rfl hl.1 rfl (lv_room (Nat.le_of_ble_eq_true rfl)) dX6_blend_109 ⟨(Nat.le_of_ble_eq_true rfl), (Nat.le_of_ble_eq_true rfl)⟩) (fun r_24 u H locs hq w => ?_)
                obtain ⟨rfl, e_r⟩ := hq
                subst e_r
                refine lv_iload hx hb dX6_blend_112 (lv_at hl 10 rfl) ?_
                refine zCv w (va_runS (As := [.ref (zA car d t), .int i, .float (zLev sM (vI f (zA car d2 t2)) (vF f (zA car d2 t2)) j.toNatClampNeg), .int less]) (rest := []) ⟨hx, hb, hml, hown, hts⟩ (kX6_blendFloats l G hs hA i (zLev sM (vI f (zA car d2 t2)) (vF f (zA car d2 t2)) j.toNatClampNeg) less hi (zLev_fin hB (zin_lt hj)) H.size) (va_cwS 4 hts gX6_blend_X6_blendFloats rfl rfl rfl (by decide +kernel) ⟨(Nat.le_of_ble_eq_true rfl), (Nat.le_of_ble_eq_true rfl)⟩) (zPS w hK) rfl rfl hl.1 rfl (lv_room (Nat.le_of_ble_eq_true rfl)) dX6_blend_114 ⟨(Nat.le_of_ble_eq_true rfl), (Nat.le_of_ble_eq_true rfl)⟩) (fun u H locs hq w => ?_)
                subst hq
                have hA2 := zRe_up (gi2 := zPlI sN (vI f (zA car d t)) i.toNatClampNeg (zBv less (zLev sN (vI f (zA car d t)) (vF f (zA car d t)) i.toNatClampNeg) (zLev sM (vI f (zA car d2 t2)) (vF f (zA car d2 t2)) j.toNatClampNeg))) (gf2 := zPuF sN (vF f (zA car d t)) i.toNatClampNeg (zBv less (zLev sN (vI f (zA car d t)) (vF f (zA car d t)) i.toNatClampNeg) (zLev sM (vI f (zA car d2 t2)) (vF f (zA car d2 t2)) j.toNatClampNeg))) hA (zPuF_fin hA (zBv_n (zLev_fin hA (zin_lt hi)) (zLev_fin hB (zin_lt hj))))
                refine lv_goto (tgt := 139) hx hb dX6_blend_117 (by decide) ?_
                refine lv_aload hx hb dX6_blend_139 (lv_at hl 1 rfl) ?_
                refine lv_iload_n hx hb dX6_blend_141 rfl (lv_at hl 6 rfl) ?_
                refine zCi (post := fun r u => u = zPutW G L f sN (zA car d t) (zPlI sN (vI f (zA car d t)) i.toNatClampNeg (zBv less (zLev sN (vI f (zA car d t)) (vF f (zA car d t)) i.toNatClampNeg) (zLev sM (vI f (zA car d2 t2)) (vF f (zA car d2 t2)) j.toNatClampNeg))) (zPuF sN (vF f (zA car d t)) i.toNatClampNeg (zBv less (zLev sN (vI f (zA car d t)) (vF f (zA car d t)) i.toNatClampNeg) (zLev sM (vI f (zA car d2 t2)) (vF f (zA car d2 t2)) j.toNatClampNeg))) ∧ r = zTold sN (zPlI sN (vI f (zA car d t)) i.toNatClampNeg (zBv less (zLev sN (vI f (zA car d t)) (vF f (zA car d t)) i.toNatClampNeg) (zLev sM (vI f (zA car d2 t2)) (vF f (zA car d2 t2)) j.toNatClampNeg))) (zPuF sN (vF f (zA car d t)) i.toNatClampNeg (zBv less (zLev sN (vI f (zA car d t)) (vF f (zA car d t)) i.toNatClampNeg) (zLev sM (vI f (zA car d2 t2)) (vF f (zA car d2 t2)) j.toNatClampNeg))) i.toNatClampNeg) (mc := 0) (ms := 0) (rest := []) (av := (Value.ref (zA car d t) :: [.int i]).toArray) w (by
                    rcases hs with rfl | rfl | rfl | rfl
                    · exact va_runU (As := [.int i]) (rest := []) ⟨hx, hb, hml, hown, hts⟩ (kX2_told l G hA2 i hi H.size) (va_cwA 1 hts gX6_blend_X2_told_u73X2 rfl rfl rfl hK.2.1.2.1 (by decide +kernel) ⟨(Nat.le_of_ble_eq_true rfl), (Nat.le_of_ble_eq_true rfl)⟩) (zPV w hK (px_recv (ci := 2) (fs := [.ref (vB f (zA car d t))]) (r := (RX2, TX2, 1)) hK w (hA2.1) (hA2.2.2.1) rfl)) rfl rfl hl.1 rfl (lv_room (Nat.le_of_ble_eq_true rfl)) dX6_blend_142 ⟨(Nat.le_of_ble_eq_true rfl), (Nat.le_of_ble_eq_true rfl)⟩
                    · exact va_runU (As := [.int i]) (rest := []) ⟨hx, hb, hml, hown, hts⟩ (kX5_told l G hA2 i hi H.size) (va_cwA 1 hts gX6_blend_X5_told_u73X5 rfl rfl rfl hK.2.1.2.1 (by decide +kernel) ⟨(Nat.le_of_ble_eq_true rfl), (Nat.le_of_ble_eq_true rfl)⟩) (zPV w hK (px_recv (ci := 4) (fs := [.ref (vB f (zA car d t))]) (r := (RX5, TX5, 1)) hK w (hA2.1) (hA2.2.2.1) rfl)) rfl rfl hl.1 rfl (lv_room (Nat.le_of_ble_eq_true rfl)) dX6_blend_142 ⟨(Nat.le_of_ble_eq_true rfl), (Nat.le_of_ble_eq_true rfl)⟩
                    · exact va_runU (As := [.int i]) (rest := []) ⟨hx, hb, hml, hown, hts⟩ (kX0_told l G hA2 i hi H.size) (va_cwA 1 hts gX6_blend_X0_told_u73X0 rfl rfl rfl hK.2.1.2.1 (by decide +kernel) ⟨(Nat.le_of_ble_eq_true rfl), (Nat.le_of_ble_eq_true rfl)⟩) (zPV w hK (px_recv (ci := 0) (fs := [.ref (vB f (zA car d t))]) (r := (RX0, TX0, 1)) hK w (hA2.1) (hA2.2.2.1) rfl)) rfl rfl hl.1 rfl (lv_room (Nat.le_of_ble_eq_true rfl)) dX6_blend_142 ⟨(Nat.le_of_ble_eq_true rfl), (Nat.le_of_ble_eq_true rfl)⟩
                    · exact va_runU (As := [.int i]) (rest := []) ⟨hx, hb, hml, hown, hts⟩ (kX1_told l G hA2 i hi H.size) (va_cwA 1 hts gX6_blend_X1_told_u73X1 rfl rfl rfl hK.2.1.2.1 (by decide +kernel) ⟨(Nat.le_of_ble_eq_true rfl), (Nat.le_of_ble_eq_true rfl)⟩) (zPV w hK (px_recv (ci := 1) (fs := [.ref (vB f (zA car d t))]) (r := (RX1, TX1, 1)) hK w (hA2.1) (hA2.2.2.1) rfl)) rfl rfl hl.1 rfl (lv_room (Nat.le_of_ble_eq_true rfl)) dX6_blend_142 ⟨(Nat.le_of_ble_eq_true rfl), (Nat.le_of_ble_eq_true rfl)⟩) (fun r_25 u H locs hq w => ?_)
                obtain ⟨rfl, e_r⟩ := hq
                subst e_r
                refine lv_i2l hx hb dX6_blend_145 rfl ?_
                exact zRl hx hb hr hlk w dX6_blend_146 (Nat.le_of_ble_eq_true rfl) (Nat.le_of_ble_eq_true rfl) (by show (if _ then _ else _); rw [if_pos ⟨p_d, p_t, p_k⟩]; (first | rw [if_pos p_g] | rw [if_neg p_g]); (first | rw [if_pos p_f] | rw [if_neg p_f]); (first | rw [if_pos p_2] | rw [if_neg p_2]); (first | exact ⟨rfl, rfl⟩ | (rw [← hsN, ← hsM]; exact ⟨rfl, rfl⟩)))
          · have p_f := zcmp1 c_14
            refine lv_aload_n hx hb dX6_blend_66 rfl (lv_at hl 1 rfl) ?_
            refine lv_lload hx hb dX6_blend_67 (lv_at hl 0 rfl) ?_
            refine zCl w (va_runV (As := [.long (zPF f car d t i)]) (rest := []) ⟨hx, hb, hml, hown, hts⟩ (kX6_refuse l G h (zPF f car d t i) (zPF_why p_f) H.size) (cwV 1 hts gX6_blend_X6_refuse rfl rfl rfl (by decide +kernel) ⟨(Nat.le_of_ble_eq_true rfl), (Nat.le_of_ble_eq_true rfl)⟩) (zPV w hK (px_recv (r := (RX6, TX6, 4)) hK w mo fo rfl)) rfl rfl hl.1 rfl (lv_room (Nat.le_of_ble_eq_true rfl)) dX6_blend_69 ⟨(Nat.le_of_ble_eq_true rfl), (Nat.le_of_ble_eq_true rfl)⟩) (fun r_26 u H locs hq w => ?_)
            obtain ⟨rfl, e_r⟩ := hq
            subst e_r
            exact zRl hx hb hr hlk w dX6_blend_72 (Nat.le_of_ble_eq_true rfl) (Nat.le_of_ble_eq_true rfl) (by show (if _ then _ else _); rw [if_pos ⟨p_d, p_t, p_k⟩]; (first | rw [if_pos p_g] | rw [if_neg p_g]); (first | rw [if_pos p_f] | rw [if_neg p_f]); (first | exact ⟨rfl, rfl⟩ | (rw [← hsN, ← hsM]; exact ⟨rfl, rfl⟩)))
      · have p_k := z00 inferInstance e_r_7 c_8
        refine lv_aload_n hx hb dX6_blend_23 rfl (lv_at hl 0 rfl) ?_
        refine lv_ldc2 hx hb hown (hts (.constantLong RX6 36 (1099511627776)) (by decide +kernel)) dX6_blend_24 ?_
        refine zCl w (va_runV (As := [.long 1099511627776]) (rest := []) ⟨hx, hb, hml, hown, hts⟩ (kX6_refuse l G h zNONE zW1 H.size) (cwV 1 hts gX6_blend_X6_refuse rfl rfl rfl (by decide +kernel) ⟨(Nat.le_of_ble_eq_true rfl), (Nat.le_of_ble_eq_true rfl)⟩) (zPV w hK (px_recv (r := (RX6, TX6, 4)) hK w mo fo rfl)) rfl rfl hl.1 rfl (lv_room (Nat.le_of_ble_eq_true rfl)) dX6_blend_27 ⟨(Nat.le_of_ble_eq_true rfl), (Nat.le_of_ble_eq_true rfl)⟩) (fun r_27 u H locs hq w => ?_)
        obtain ⟨rfl, e_r⟩ := hq
        subst e_r
        exact zRl hx hb hr hlk w dX6_blend_30 (Nat.le_of_ble_eq_true rfl) (Nat.le_of_ble_eq_true rfl) (by show (if _ then _ else _); rw [if_neg (by intro q; simp_all)]; exact ⟨rfl, rfl⟩)
