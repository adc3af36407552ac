set_option maxHeartbeats 4000000 in
set_option maxRecDepth 100000 in
theorem kX6_chart (l : Launch) (G : zG) {L : List Nat} {f : Nat → va_E} {o ac aw ar : Nat} {ch : Option Nat} {car wa : Nat → Option Nat} {ta : Nat → Int32} (h : zBn G L f o ac aw ar ch car wa ta) (hct : zCT G L f car) (hwt : zWT G L f wa) (rows cols : Int32) (sz : Nat) : zMl l yX6_chart wsX6_chart { frames := 1, cells := 13, slots := 156, locals := 22 } G [.ref o, .int rows, .int cols] (va_pl L f) sz (fun r u => if zGF rows cols = 0 then (∃ q L2 f2, zNH G L f rows.toNatClampNeg cols.toNatClampNeg q L2 f2 ∧ u = va_pl L2 (va_up f2 o (.inr (5, [.ref ac, .ref aw, .ref ar, .ref q]))) ∧ r = rows.toInt64) else zRefP G L f ar ta (zGF rows cols) r u) 13 156 := by
  refine zIn (Qc := fun A => va_Ql _ (zB G A) A) (cc := cX6_chart) (maxL := 5) (ret := (some .long)) (by decide) rfl (Nat.le_of_ble_eq_true rfl) ?_
  intro p e s m below meth c A ls hx hb hr hlk hml hts hown hnm hK w hl
  have hown : s.vm.findClass RX6 = some m.cls := hown
  have hl : lv_has ls 5 [(0, .ref o), (1, .int rows), (2, .int cols)] := hl
  obtain ⟨⟨mo, mc, mw, mr⟩, fo, fc, fw, fr⟩ := id h
  refine lv_iload_n hx hb dX6_chart_0 rfl (lv_at hl 1 rfl) ?_
  refine lv_iload_n hx hb dX6_chart_1 rfl (lv_at hl 2 rfl) ?_
  refine zCl w (va_runS (As := [.int rows, .int cols]) (rest := []) ⟨hx, hb, hml, hown, hts⟩ (kX6_gridFault l G _ rows cols s.heap.size) (va_cwS 2 hts gX6_chart_X6_gridFault rfl rfl rfl (by decide +kernel) ⟨(Nat.le_of_ble_eq_true rfl), (Nat.le_of_ble_eq_true rfl)⟩) (zPS w hK) rfl rfl hl.1 rfl (lv_room (Nat.le_of_ble_eq_true rfl)) dX6_chart_2 ⟨(Nat.le_of_ble_eq_true rfl), (Nat.le_of_ble_eq_true rfl)⟩) (fun r_1 u H locs hq w => ?_)
  obtain ⟨rfl, e_r⟩ := hq
  subst e_r
  refine lv_lstore_n (lv' := [(3, .long (zGF rows cols)), (0, .ref o), (1, .int rows), (2, .int cols)]) hx hb dX6_chart_5 rfl hl (by decide) rfl (fun ls hl => ?_)
  refine lv_lload_n hx hb dX6_chart_6 rfl (lv_at hl 0 rfl) ?_
  refine lv_lconst (v := 0) hx hb dX6_chart_7 (by decide) ?_
  refine W.lcmp hx hb dX6_chart_8 ?_
  refine lv_if_eq (tgt := 18) hx hb dX6_chart_9 (by decide) (fun c_2 => ?_) (fun c_2 => ?_)
  · have p_f := zcmp0 c_2
    obtain ⟨g1, g2, g3, g4⟩ := zGF_0 p_f
    have hr2 := zle12 g1 g2
    have hc2 := zle12 g3 g4
    refine lv_aload_n hx hb dX6_chart_18 rfl (lv_at hl 1 rfl) ?_
    refine lv_iload_n hx hb dX6_chart_19 rfl (lv_at hl 2 rfl) ?_
    refine lv_iload_n hx hb dX6_chart_20 rfl (lv_at hl 3 rfl) ?_
    refine px_mna hx hb hown (hts (.classLink RX6 133 "[[I") (by decide +kernel)) (hts (.arrayClass .int) (by decide +kernel)) hK w g1 g3 rfl rfl hr2 hc2 (by show 0 + 0 + (1 + rows.toNatClampNeg) ≤ 13; omega) (by have := Nat.mul_le_mul hr2 hc2; show 0 + 0 + (rows.toNatClampNeg + rows.toNatClampNeg * cols.toNatClampNeg) ≤ 156; omega) dX6_chart_21 (fun q r H hq1 hq2 hq3 w => ?_)
    refine W.widen (k := 13) (n := 156) (by omega) (by have := Nat.mul_le_mul hr2 hc2; omega) ?_
    have hN := zNH_of (G := G) (f := f) hr2 hc2 hq1 hq2 hq3
    generalize va_up (vr_up f ((List.range rows.toNatClampNeg).map r) (.inl (G.2 4, cols.toNatClampNeg, .inl (fun _ => 0)))) q (.inl (G.2 7, rows.toNatClampNeg, zQ (fun i => if i < rows.toNatClampNeg then some (r i) else none))) = f2 at w hN
    generalize (L ++ (List.range rows.toNatClampNeg).map r) ++ [q] = L2 at w hN
    refine px_put (ci := 5) (C := RX6) (T := TX6) (N := 4) (v := .ref q) (ty := .array (.array .int)) hx hb hts hown hK w (hN.1 o mo).1 (by decide +kernel) tyX6 tyX6_ok nmX6 ((hN.1 o mo).2.trans fo) rfl 3 (by decide) (hts (.fieldLink RX6 25 "ReelBarn" "chartRows" "[[I") (by decide +kernel)) (fun _ h9 => h9) rfl (by decide +kernel) rfl rfl (Nat.le_of_ble_eq_true rfl) dX6_chart_25 (fun H locs w => ?_)
    refine lv_iload_n hx hb dX6_chart_28 rfl (lv_at hl 2 rfl) ?_
    refine lv_i2l hx hb dX6_chart_29 rfl ?_
    exact zRl hx hb hr hlk w dX6_chart_30 (Nat.le_of_ble_eq_true rfl) (Nat.le_of_ble_eq_true rfl) (by show (if _ then _ else _); (first | rw [if_pos p_f] | rw [if_neg p_f]); (first | exact ⟨rfl, rfl⟩ | exact ⟨q, L2, f2, hN, rfl, rfl⟩))
  · have p_f := zcmp1 c_2
    refine lv_aload_n hx hb dX6_chart_12 rfl (lv_at hl 1 rfl) ?_
    refine lv_lload_n hx hb dX6_chart_13 rfl (lv_at hl 0 rfl) ?_
    refine zCl w (va_runV (As := [.long (zGF rows cols)]) (rest := []) ⟨hx, hb, hml, hown, hts⟩ (kX6_refuse l G h (zGF rows cols) (zGF_why p_f) H.size) (cwV 1 hts gX6_chart_X6_refuse rfl rfl rfl (by decide +kernel) ⟨(Nat.le_of_ble_eq_true rfl), (Nat.le_of_ble_eq_true rfl)⟩) (zPV w hK (px_recv (r := (RX6, TX6, 4)) hK w mo fo rfl)) rfl rfl hl.1 rfl (lv_room (Nat.le_of_ble_eq_true rfl)) dX6_chart_14 ⟨(Nat.le_of_ble_eq_true rfl), (Nat.le_of_ble_eq_true rfl)⟩) (fun r_3 u H locs hq w => ?_)
    obtain ⟨rfl, e_r⟩ := hq
    subst e_r
    exact zRl hx hb hr hlk w dX6_chart_17 (Nat.le_of_ble_eq_true rfl) (Nat.le_of_ble_eq_true rfl) (by show (if _ then _ else _); (first | rw [if_pos p_f] | rw [if_neg p_f]); (first | exact ⟨rfl, rfl⟩ | exact ⟨q, L2, f2, hN, rfl, rfl⟩))
set_option maxHeartbeats 4000000 in
set_option maxRecDepth 100000 in
theorem kX6_init (l : Launch) (G : zG) {f : Nat → va_E} {o : Nat} (fo : f o = .inr (5, [.null, .null, .null, .null])) (sz : Nat) : zMv l yX6_init wsX6_init { frames := 1, cells := 3, slots := 28, locals := 12 } G [.ref o] (va_pl [o] f) sz (fun u => ∃ ac aw ar f2, u = va_pl [o, ac, aw, ar] f2 ∧ zBn G [o, ac, aw, ar] f2 o ac aw ar none (fun _ => none) (fun _ => none) (fun _ => 0)) 3 28 := by
  refine zIn (Qc := fun A => va_Qv _ (zB G A) A) (cc := cX6_init) (maxL := 1) (ret := none) (by decide) rfl (Nat.le_of_ble_eq_true rfl) ?_
  intro p e s m below meth c A ls hx hb hr hlk hml hts hown hnm hK w hl
  have hown : s.vm.findClass RX6 = some m.cls := hown
  have hl : lv_has ls 1 [(0, .ref o)] := hl
  have mo : o ∈ [o] := List.mem_cons_self
  refine lv_aload_n hx hb dX6_init_0 rfl (lv_at hl 0 rfl) ?_
  refine W.objInit hx hb hown (hts (.methodLink RX6 1 objectInit) (by decide +kernel)) (hts (.instanceMethod objectInit) (by decide +kernel)) (hts (.code objectInit ⟨#[0xb1]⟩ 1 none) (by decide +kernel)) rfl (by rw [hml]; exact hl.1) rfl dX6_init_1 (Nat.le_of_ble_eq_true rfl) (Nat.le_of_ble_eq_true rfl) ?_
  refine W.eq (g2 := F0 m 4 ls []) rfl ?_
  refine lv_aload_n hx hb dX6_init_4 rfl (lv_at hl 0 rfl) ?_
  refine lv_bipush (v := 16) hx hb dX6_init_5 (by decide) ?_
  refine px_newR hx hb hown (hts (.classLink RX6 9 RX3) (by decide +kernel)) hK w (by decide) rfl (by decide) (Nat.le_of_ble_eq_true rfl) (Nat.le_of_ble_eq_true rfl) dX6_init_7 (fun ac H hac w => ?_)
  refine W.widen (k := 1) (n := 16) (Nat.le_of_ble_eq_true rfl) (Nat.le_of_ble_eq_true rfl) ?_
  refine px_putF (ci := 5) (C := RX6) (T := TX6) (N := 4) (v := .ref ac) (ty := .array (.object RX3)) hx hb hts hown hK w (List.mem_append_left _ mo) (by decide +kernel) tyX6 tyX6_ok nmX6 (by rw [va_up_ne _ _ (show o ≠ ac from fun z => hac (z ▸ mo))]; exact fo) rfl 0 (by decide) (hts (.fieldLink RX6 11 "ReelBarn" "carried" "[LReelBarn$Reel;") (by decide +kernel)) (fun _ h9 => h9) rfl hnm rfl (by decide +kernel) rfl rfl (Nat.le_of_ble_eq_true rfl) dX6_init_10 (fun H locs w => ?_)
  refine lv_aload_n hx hb dX6_init_13 rfl (lv_at hl 0 rfl) ?_
  refine lv_iconst (v := 4) hx hb dX6_init_14 (by decide) ?_
  refine px_newW hx hb hown (hts (.classLink RX6 15 RX4) (by decide +kernel)) hK w (by decide) rfl (by decide) (Nat.le_of_ble_eq_true rfl) (Nat.le_of_ble_eq_true rfl) dX6_init_15 (fun aw H haw w => ?_)
  refine W.widen (k := 2) (n := 20) (Nat.le_of_ble_eq_true rfl) (Nat.le_of_ble_eq_true rfl) ?_
  refine px_putF (ci := 5) (C := RX6) (T := TX6) (N := 4) (v := .ref aw) (ty := .array (.object RX4)) hx hb hts hown hK w (List.mem_append_left _ (List.mem_append_left _ mo)) (by decide +kernel) tyX6 tyX6_ok nmX6 (by rw [va_up_ne _ _ (show o ≠ aw from fun z => haw (z ▸ (List.mem_append_left _ mo)))]; exact (va_up_self _ _ _)) rfl 1 (by decide) (hts (.fieldLink RX6 17 "ReelBarn" "walls" "[LReelBarn$Wall;") (by decide +kernel)) (fun _ h9 => h9) rfl hnm rfl (by decide +kernel) rfl rfl (Nat.le_of_ble_eq_true rfl) dX6_init_18 (fun H locs w => ?_)
  refine lv_aload_n hx hb dX6_init_21 rfl (lv_at hl 0 rfl) ?_
  refine lv_bipush (v := 8) hx hb dX6_init_22 (by decide) ?_
  refine px_newI hx hb (hts (.arrayClass .int) (by decide +kernel)) hK w (by decide) rfl (by decide) (Nat.le_of_ble_eq_true rfl) (Nat.le_of_ble_eq_true rfl) dX6_init_24 (fun ar H har w => ?_)
  refine W.widen (k := 3) (n := 28) (Nat.le_of_ble_eq_true rfl) (Nat.le_of_ble_eq_true rfl) ?_
  refine px_putF (ci := 5) (C := RX6) (T := TX6) (N := 4) (v := .ref ar) (ty := .array .int) hx hb hts hown hK w (List.mem_append_left _ (List.mem_append_left _ (List.mem_append_left _ mo))) (by decide +kernel) tyX6 tyX6_ok nmX6 (by rw [va_up_ne _ _ (show o ≠ ar from fun z => har (z ▸ (List.mem_append_left _ (List.mem_append_left _ mo))))]; exact (va_up_self _ _ _)) rfl 2 (by decide) (hts (.fieldLink RX6 21 "ReelBarn" "refusals" "[I") (by decide +kernel)) (fun _ h9 => h9) rfl hnm rfl (by decide +kernel) rfl rfl (Nat.le_of_ble_eq_true rfl) dX6_init_26 (fun H locs w => ?_)
  refine lv_aload_n hx hb dX6_init_29 rfl (lv_at hl 0 rfl) ?_
  refine lv_null hx hb dX6_init_30 ?_
  refine px_put (ci := 5) (C := RX6) (T := TX6) (N := 4) (v := .null) (ty := .array (.array .int)) hx hb hts hown hK w (List.mem_append_left _ (List.mem_append_left _ (List.mem_append_left _ mo))) (by decide +kernel) tyX6 tyX6_ok nmX6 (va_up_self _ _ _) rfl 3 (by decide) (hts (.fieldLink RX6 25 "ReelBarn" "chartRows" "[[I") (by decide +kernel)) (fun _ h9 => h9) rfl (by decide +kernel) rfl rfl (Nat.le_of_ble_eq_true rfl) dX6_init_31 (fun H locs w => ?_)
  have n1 : o ≠ ac := fun z => hac (by rw [← z]; exact List.mem_cons_self)
  have n2 : o ≠ aw := fun z => haw (by rw [← z]; exact List.mem_cons_self)
  have n3 : o ≠ ar := fun z => har (by rw [← z]; exact List.mem_cons_self)
  have n4 : ac ≠ aw := fun z => haw (by rw [← z]; exact List.mem_cons_of_mem _ List.mem_cons_self)
  have n5 : ac ≠ ar := fun z => har (by rw [← z]; exact List.mem_cons_of_mem _ List.mem_cons_self)
  have n6 : aw ≠ ar := fun z => har (by rw [← z]; exact List.mem_cons_of_mem _ (List.mem_cons_of_mem _ List.mem_cons_self))
  exact zRv hx hb hr hlk w dX6_init_34 (Nat.le_of_ble_eq_true rfl) (Nat.le_of_ble_eq_true rfl) ⟨ac, aw, ar, _, rfl, ⟨⟨List.mem_cons_self, List.mem_cons_of_mem _ List.mem_cons_self, List.mem_cons_of_mem _ (List.mem_cons_of_mem _ List.mem_cons_self), List.mem_cons_of_mem _ (List.mem_cons_of_mem _ (List.mem_cons_of_mem _ List.mem_cons_self))⟩, va_up_self _ _ _, by simp [va_up, n1, n2, n3, n4, n5, n6, Ne.symm n1, Ne.symm n2, Ne.symm n3, Ne.symm n4, Ne.symm n5, Ne.symm n6], by simp [va_up, n1, n2, n3, n4, n5, n6, Ne.symm n1, Ne.symm n2, Ne.symm n3, Ne.symm n4, Ne.symm n5, Ne.symm n6], by simp [va_up, n1, n2, n3, n4, n5, n6, Ne.symm n1, Ne.symm n2, Ne.symm n3, Ne.symm n4, Ne.symm n5, Ne.symm n6]⟩⟩
