set_option maxHeartbeats 4000000 in
set_option maxRecDepth 100000 in
theorem kX6_isDeck (l : Launch) (G : zG) (ws : va_W) (x : Int32) (sz : Nat) : zMi l yX6_isDeck wsX6_isDeck { frames := 0, cells := 0, slots := 0, locals := 0 } G [.int x] (ws) sz (fun r u => u = ws ∧ r = if zFour x then 1 else 0) 0 0 := by
  refine zIn (Qc := fun A => va_Qi _ (zB G A) A) (cc := cX6_isDeck) (maxL := 1) (ret := (some .boolean)) (by decide) rfl (Nat.le_of_ble_eq_true rfl) ?_
  intro p e s m below meth c A ls hx hb hr hlk hml hts hown hnm hK w hl
  have hown : s.vm.findClass RX6 = some m.cls := hown
  have hl : lv_has ls 1 [(0, .int x)] := hl
  refine lv_iload_n hx hb dX6_isDeck_0 rfl (lv_at hl 0 rfl) ?_
  refine lv_if_lt (tgt := 13) hx hb dX6_isDeck_1 (by decide) (fun c_1 => ?_) (fun c_1 => ?_)
  · refine lv_iconst (v := 0) hx hb dX6_isDeck_13 (by decide) ?_
    exact zRz hx hb hr hlk rfl w dX6_isDeck_14 (Nat.le_of_ble_eq_true rfl) (Nat.le_of_ble_eq_true rfl) ⟨rfl, by simp [zFour, c_1]⟩
  · refine lv_iload_n hx hb dX6_isDeck_4 rfl (lv_at hl 0 rfl) ?_
    refine lv_iconst (v := 4) hx hb dX6_isDeck_5 (by decide) ?_
    refine lv_icmp_ge (tgt := 13) hx hb dX6_isDeck_6 (by decide) (fun c_2 => ?_) (fun c_2 => ?_)
    · refine lv_iconst (v := 0) hx hb dX6_isDeck_13 (by decide) ?_
      exact zRz hx hb hr hlk rfl w dX6_isDeck_14 (Nat.le_of_ble_eq_true rfl) (Nat.le_of_ble_eq_true rfl) ⟨rfl, by simp [zFour, c_1, c_2]⟩
    · refine lv_iconst (v := 1) hx hb dX6_isDeck_9 (by decide) ?_
      refine lv_goto (tgt := 14) hx hb dX6_isDeck_10 (by decide) ?_
      exact zRz hx hb hr hlk rfl w dX6_isDeck_14 (Nat.le_of_ble_eq_true rfl) (Nat.le_of_ble_eq_true rfl) ⟨rfl, by simp [zFour, c_1, c_2]⟩
set_option maxHeartbeats 4000000 in
set_option maxRecDepth 100000 in
theorem kX6_isSort (l : Launch) (G : zG) (ws : va_W) (x : Int32) (sz : Nat) : zMi l yX6_isSort wsX6_isSort { frames := 0, cells := 0, slots := 0, locals := 0 } G [.int x] (ws) sz (fun r u => u = ws ∧ r = if zFour x then 1 else 0) 0 0 := by
  refine zIn (Qc := fun A => va_Qi _ (zB G A) A) (cc := cX6_isSort) (maxL := 1) (ret := (some .boolean)) (by decide) rfl (Nat.le_of_ble_eq_true rfl) ?_
  intro p e s m below meth c A ls hx hb hr hlk hml hts hown hnm hK w hl
  have hown : s.vm.findClass RX6 = some m.cls := hown
  have hl : lv_has ls 1 [(0, .int x)] := hl
  refine lv_iload_n hx hb dX6_isSort_0 rfl (lv_at hl 0 rfl) ?_
  refine lv_if_lt (tgt := 13) hx hb dX6_isSort_1 (by decide) (fun c_1 => ?_) (fun c_1 => ?_)
  · refine lv_iconst (v := 0) hx hb dX6_isSort_13 (by decide) ?_
    exact zRz hx hb hr hlk rfl w dX6_isSort_14 (Nat.le_of_ble_eq_true rfl) (Nat.le_of_ble_eq_true rfl) ⟨rfl, by simp [zFour, c_1]⟩
  · refine lv_iload_n hx hb dX6_isSort_4 rfl (lv_at hl 0 rfl) ?_
    refine lv_iconst (v := 4) hx hb dX6_isSort_5 (by decide) ?_
    refine lv_icmp_ge (tgt := 13) hx hb dX6_isSort_6 (by decide) (fun c_2 => ?_) (fun c_2 => ?_)
    · refine lv_iconst (v := 0) hx hb dX6_isSort_13 (by decide) ?_
      exact zRz hx hb hr hlk rfl w dX6_isSort_14 (Nat.le_of_ble_eq_true rfl) (Nat.le_of_ble_eq_true rfl) ⟨rfl, by simp [zFour, c_1, c_2]⟩
    · refine lv_iconst (v := 1) hx hb dX6_isSort_9 (by decide) ?_
      refine lv_goto (tgt := 14) hx hb dX6_isSort_10 (by decide) ?_
      exact zRz hx hb hr hlk rfl w dX6_isSort_14 (Nat.le_of_ble_eq_true rfl) (Nat.le_of_ble_eq_true rfl) ⟨rfl, by simp [zFour, c_1, c_2]⟩
set_option maxHeartbeats 4000000 in
set_option maxRecDepth 100000 in
theorem kX6_knowsHow (l : Launch) (G : zG) (ws : va_W) (t how : Int32) (sz : Nat) : zMi l yX6_knowsHow wsX6_knowsHow { frames := 0, cells := 0, slots := 0, locals := 0 } G [.int t, .int how] (ws) sz (fun r u => u = ws ∧ r = if zKnow t how then 1 else 0) 0 0 := by
  refine zIn (Qc := fun A => va_Qi _ (zB G A) A) (cc := cX6_knowsHow) (maxL := 2) (ret := (some .boolean)) (by decide) rfl (Nat.le_of_ble_eq_true rfl) ?_
  intro p e s m below meth c A ls hx hb hr hlk hml hts hown hnm hK w hl
  have hown : s.vm.findClass RX6 = some m.cls := hown
  have hl : lv_has ls 2 [(0, .int t), (1, .int how)] := hl
  refine lv_iload_n hx hb dX6_knowsHow_0 rfl (lv_at hl 0 rfl) ?_
  refine lv_iconst (v := 2) hx hb dX6_knowsHow_1 (by decide) ?_
  refine lv_icmp_ne (tgt := 20) hx hb dX6_knowsHow_2 (by decide) (fun c_1 => ?_) (fun c_1 => ?_)
  · refine lv_iload_n hx hb dX6_knowsHow_20 rfl (lv_at hl 0 rfl) ?_
    refine lv_iconst (v := 3) hx hb dX6_knowsHow_21 (by decide) ?_
    refine lv_icmp_ne (tgt := 49) hx hb dX6_knowsHow_22 (by decide) (fun c_2 => ?_) (fun c_2 => ?_)
    · refine lv_iload_n hx hb dX6_knowsHow_49 rfl (lv_at hl 1 rfl) ?_
      refine lv_if_lt (tgt := 63) hx hb dX6_knowsHow_50 (by decide) (fun c_3 => ?_) (fun c_3 => ?_)
      · refine lv_iconst (v := 0) hx hb dX6_knowsHow_63 (by decide) ?_
        exact zRz hx hb hr hlk rfl w dX6_knowsHow_64 (Nat.le_of_ble_eq_true rfl) (Nat.le_of_ble_eq_true rfl) ⟨rfl, by simp [zKnow, c_1, c_2, c_3]⟩
      · refine lv_iload_n hx hb dX6_knowsHow_53 rfl (lv_at hl 1 rfl) ?_
        refine lv_bipush (v := 8) hx hb dX6_knowsHow_54 (by decide) ?_
        refine lv_icmp_gt (tgt := 63) hx hb dX6_knowsHow_56 (by decide) (fun c_4 => ?_) (fun c_4 => ?_)
        · refine lv_iconst (v := 0) hx hb dX6_knowsHow_63 (by decide) ?_
          exact zRz hx hb hr hlk rfl w dX6_knowsHow_64 (Nat.le_of_ble_eq_true rfl) (Nat.le_of_ble_eq_true rfl) ⟨rfl, by simp [zKnow, c_1, c_2, c_3, c_4]⟩
        · refine lv_iconst (v := 1) hx hb dX6_knowsHow_59 (by decide) ?_
          refine lv_goto (tgt := 64) hx hb dX6_knowsHow_60 (by decide) ?_
          exact zRz hx hb hr hlk rfl w dX6_knowsHow_64 (Nat.le_of_ble_eq_true rfl) (Nat.le_of_ble_eq_true rfl) ⟨rfl, by simp [zKnow, c_1, c_2, c_3, c_4]⟩
    · refine lv_iload_n hx hb dX6_knowsHow_25 rfl (lv_at hl 1 rfl) ?_
      refine lv_bipush (v := 6) hx hb dX6_knowsHow_26 (by decide) ?_
      refine lv_icmp_eq (tgt := 43) hx hb dX6_knowsHow_28 (by decide) (fun c_5 => ?_) (fun c_5 => ?_)
      · refine lv_iconst (v := 1) hx hb dX6_knowsHow_43 (by decide) ?_
        refine lv_goto (tgt := 48) hx hb dX6_knowsHow_44 (by decide) ?_
        exact zRz hx hb hr hlk rfl w dX6_knowsHow_48 (Nat.le_of_ble_eq_true rfl) (Nat.le_of_ble_eq_true rfl) ⟨rfl, by simp [zKnow, c_1, c_2, c_5]⟩
      · refine lv_iload_n hx hb dX6_knowsHow_31 rfl (lv_at hl 1 rfl) ?_
        refine lv_bipush (v := 7) hx hb dX6_knowsHow_32 (by decide) ?_
        refine lv_icmp_eq (tgt := 43) hx hb dX6_knowsHow_34 (by decide) (fun c_6 => ?_) (fun c_6 => ?_)
        · refine lv_iconst (v := 1) hx hb dX6_knowsHow_43 (by decide) ?_
          refine lv_goto (tgt := 48) hx hb dX6_knowsHow_44 (by decide) ?_
          exact zRz hx hb hr hlk rfl w dX6_knowsHow_48 (Nat.le_of_ble_eq_true rfl) (Nat.le_of_ble_eq_true rfl) ⟨rfl, by simp [zKnow, c_1, c_2, c_5, c_6]⟩
        · refine lv_iload_n hx hb dX6_knowsHow_37 rfl (lv_at hl 1 rfl) ?_
          refine lv_bipush (v := 8) hx hb dX6_knowsHow_38 (by decide) ?_
          refine lv_icmp_ne (tgt := 47) hx hb dX6_knowsHow_40 (by decide) (fun c_7 => ?_) (fun c_7 => ?_)
          · refine lv_iconst (v := 0) hx hb dX6_knowsHow_47 (by decide) ?_
            exact zRz hx hb hr hlk rfl w dX6_knowsHow_48 (Nat.le_of_ble_eq_true rfl) (Nat.le_of_ble_eq_true rfl) ⟨rfl, by simp [zKnow, c_1, c_2, c_5, c_6, c_7]⟩
          · refine lv_iconst (v := 1) hx hb dX6_knowsHow_43 (by decide) ?_
            refine lv_goto (tgt := 48) hx hb dX6_knowsHow_44 (by decide) ?_
            exact zRz hx hb hr hlk rfl w dX6_knowsHow_48 (Nat.le_of_ble_eq_true rfl) (Nat.le_of_ble_eq_true rfl) ⟨rfl, by simp [zKnow, c_1, c_2, c_5, c_6, c_7]⟩
  · refine lv_iload_n hx hb dX6_knowsHow_5 rfl (lv_at hl 1 rfl) ?_
    refine lv_if_eq (tgt := 14) hx hb dX6_knowsHow_6 (by decide) (fun c_8 => ?_) (fun c_8 => ?_)
    · refine lv_iconst (v := 1) hx hb dX6_knowsHow_14 (by decide) ?_
      refine lv_goto (tgt := 19) hx hb dX6_knowsHow_15 (by decide) ?_
      exact zRz hx hb hr hlk rfl w dX6_knowsHow_19 (Nat.le_of_ble_eq_true rfl) (Nat.le_of_ble_eq_true rfl) ⟨rfl, by simp [zKnow, c_1, c_8]⟩
    · refine lv_iload_n hx hb dX6_knowsHow_9 rfl (lv_at hl 1 rfl) ?_
      refine lv_iconst (v := 1) hx hb dX6_knowsHow_10 (by decide) ?_
      refine lv_icmp_ne (tgt := 18) hx hb dX6_knowsHow_11 (by decide) (fun c_9 => ?_) (fun c_9 => ?_)
      · refine lv_iconst (v := 0) hx hb dX6_knowsHow_18 (by decide) ?_
        exact zRz hx hb hr hlk rfl w dX6_knowsHow_19 (Nat.le_of_ble_eq_true rfl) (Nat.le_of_ble_eq_true rfl) ⟨rfl, by simp [zKnow, c_1, c_8, c_9]⟩
      · refine lv_iconst (v := 1) hx hb dX6_knowsHow_14 (by decide) ?_
        refine lv_goto (tgt := 19) hx hb dX6_knowsHow_15 (by decide) ?_
        exact zRz hx hb hr hlk rfl w dX6_knowsHow_19 (Nat.le_of_ble_eq_true rfl) (Nat.le_of_ble_eq_true rfl) ⟨rfl, by simp [zKnow, c_1, c_8, c_9]⟩
set_option maxHeartbeats 4000000 in
set_option maxRecDepth 100000 in
theorem kX6_goTogether (l : Launch) (G : zG) (ws : va_W) (t u0 : Int32) (sz : Nat) : zMi l yX6_goTogether wsX6_goTogether { frames := 0, cells := 0, slots := 0, locals := 0 } G [.int t, .int u0] (ws) sz (fun r u => u = ws ∧ r = if (t = 3 ↔ u0 = 3) then 1 else 0) 0 0 := by
  refine zIn (Qc := fun A => va_Qi _ (zB G A) A) (cc := cX6_goTogether) (maxL := 2) (ret := (some .boolean)) (by decide) rfl (Nat.le_of_ble_eq_true rfl) ?_
  intro p e s m below meth c A ls hx hb hr hlk hml hts hown hnm hK w hl
  have hown : s.vm.findClass RX6 = some m.cls := hown
  have hl : lv_has ls 2 [(0, .int t), (1, .int u0)] := hl
  refine lv_iload_n hx hb dX6_goTogether_0 rfl (lv_at hl 0 rfl) ?_
  refine lv_iconst (v := 3) hx hb dX6_goTogether_1 (by decide) ?_
  refine lv_icmp_ne (tgt := 9) hx hb dX6_goTogether_2 (by decide) (fun c_1 => ?_) (fun c_1 => ?_)
  · refine lv_iconst (v := 0) hx hb dX6_goTogether_9 (by decide) ?_
    refine lv_iload_n hx hb dX6_goTogether_10 rfl (lv_at hl 1 rfl) ?_
    refine lv_iconst (v := 3) hx hb dX6_goTogether_11 (by decide) ?_
    refine lv_icmp_ne (tgt := 19) hx hb dX6_goTogether_12 (by decide) (fun c_2 => ?_) (fun c_2 => ?_)
    · refine lv_iconst (v := 0) hx hb dX6_goTogether_19 (by decide) ?_
      refine lv_icmp_ne (tgt := 27) hx hb dX6_goTogether_20 (by decide) (fun c_3 => ?_) (fun c_3 => ?_)
      · refine lv_iconst (v := 0) hx hb dX6_goTogether_27 (by decide) ?_
        exact zRz hx hb hr hlk rfl w dX6_goTogether_28 (Nat.le_of_ble_eq_true rfl) (Nat.le_of_ble_eq_true rfl) ⟨rfl, by simp_all⟩
      · refine lv_iconst (v := 1) hx hb dX6_goTogether_23 (by decide) ?_
        refine lv_goto (tgt := 28) hx hb dX6_goTogether_24 (by decide) ?_
        exact zRz hx hb hr hlk rfl w dX6_goTogether_28 (Nat.le_of_ble_eq_true rfl) (Nat.le_of_ble_eq_true rfl) ⟨rfl, by simp_all⟩
    · refine lv_iconst (v := 1) hx hb dX6_goTogether_15 (by decide) ?_
      refine lv_goto (tgt := 20) hx hb dX6_goTogether_16 (by decide) ?_
      refine lv_icmp_ne (tgt := 27) hx hb dX6_goTogether_20 (by decide) (fun c_4 => ?_) (fun c_4 => ?_)
      · refine lv_iconst (v := 0) hx hb dX6_goTogether_27 (by decide) ?_
        exact zRz hx hb hr hlk rfl w dX6_goTogether_28 (Nat.le_of_ble_eq_true rfl) (Nat.le_of_ble_eq_true rfl) ⟨rfl, by simp_all⟩
      · refine lv_iconst (v := 1) hx hb dX6_goTogether_23 (by decide) ?_
        refine lv_goto (tgt := 28) hx hb dX6_goTogether_24 (by decide) ?_
        exact zRz hx hb hr hlk rfl w dX6_goTogether_28 (Nat.le_of_ble_eq_true rfl) (Nat.le_of_ble_eq_true rfl) ⟨rfl, by simp_all⟩
  · refine lv_iconst (v := 1) hx hb dX6_goTogether_5 (by decide) ?_
    refine lv_goto (tgt := 10) hx hb dX6_goTogether_6 (by decide) ?_
    refine lv_iload_n hx hb dX6_goTogether_10 rfl (lv_at hl 1 rfl) ?_
    refine lv_iconst (v := 3) hx hb dX6_goTogether_11 (by decide) ?_
    refine lv_icmp_ne (tgt := 19) hx hb dX6_goTogether_12 (by decide) (fun c_5 => ?_) (fun c_5 => ?_)
    · refine lv_iconst (v := 0) hx hb dX6_goTogether_19 (by decide) ?_
      refine lv_icmp_ne (tgt := 27) hx hb dX6_goTogether_20 (by decide) (fun c_6 => ?_) (fun c_6 => ?_)
      · refine lv_iconst (v := 0) hx hb dX6_goTogether_27 (by decide) ?_
        exact zRz hx hb hr hlk rfl w dX6_goTogether_28 (Nat.le_of_ble_eq_true rfl) (Nat.le_of_ble_eq_true rfl) ⟨rfl, by simp_all⟩
      · refine lv_iconst (v := 1) hx hb dX6_goTogether_23 (by decide) ?_
        refine lv_goto (tgt := 28) hx hb dX6_goTogether_24 (by decide) ?_
        exact zRz hx hb hr hlk rfl w dX6_goTogether_28 (Nat.le_of_ble_eq_true rfl) (Nat.le_of_ble_eq_true rfl) ⟨rfl, by simp_all⟩
    · refine lv_iconst (v := 1) hx hb dX6_goTogether_15 (by decide) ?_
      refine lv_goto (tgt := 20) hx hb dX6_goTogether_16 (by decide) ?_
      refine lv_icmp_ne (tgt := 27) hx hb dX6_goTogether_20 (by decide) (fun c_7 => ?_) (fun c_7 => ?_)
      · refine lv_iconst (v := 0) hx hb dX6_goTogether_27 (by decide) ?_
        exact zRz hx hb hr hlk rfl w dX6_goTogether_28 (Nat.le_of_ble_eq_true rfl) (Nat.le_of_ble_eq_true rfl) ⟨rfl, by simp_all⟩
      · refine lv_iconst (v := 1) hx hb dX6_goTogether_23 (by decide) ?_
        refine lv_goto (tgt := 28) hx hb dX6_goTogether_24 (by decide) ?_
        exact zRz hx hb hr hlk rfl w dX6_goTogether_28 (Nat.le_of_ble_eq_true rfl) (Nat.le_of_ble_eq_true rfl) ⟨rfl, by simp_all⟩
set_option maxHeartbeats 4000000 in
set_option maxRecDepth 100000 in
theorem kX6_howToBlend (l : Launch) (G : zG) (ws : va_W) (t less : Int32) (sz : Nat) : zMi l yX6_howToBlend wsX6_howToBlend { frames := 0, cells := 0, slots := 0, locals := 0 } G [.int t, .int less] (ws) sz (fun r u => u = ws ∧ r = if t = 3 then 6 else if less = 0 then 0 else 1) 0 0 := by
  refine zIn (Qc := fun A => va_Qi _ (zB G A) A) (cc := cX6_howToBlend) (maxL := 2) (ret := (some .int)) (by decide) rfl (Nat.le_of_ble_eq_true rfl) ?_
  intro p e s m below meth c A ls hx hb hr hlk hml hts hown hnm hK w hl
  have hown : s.vm.findClass RX6 = some m.cls := hown
  have hl : lv_has ls 2 [(0, .int t), (1, .int less)] := hl
  refine lv_iload_n hx hb dX6_howToBlend_0 rfl (lv_at hl 0 rfl) ?_
  refine lv_iconst (v := 3) hx hb dX6_howToBlend_1 (by decide) ?_
  refine lv_icmp_ne (tgt := 8) hx hb dX6_howToBlend_2 (by decide) (fun c_1 => ?_) (fun c_1 => ?_)
  · refine lv_iload_n hx hb dX6_howToBlend_8 rfl (lv_at hl 1 rfl) ?_
    refine lv_if_eq (tgt := 16) hx hb dX6_howToBlend_9 (by decide) (fun c_2 => ?_) (fun c_2 => ?_)
    · refine lv_iconst (v := 0) hx hb dX6_howToBlend_16 (by decide) ?_
      exact zRi hx hb hr hlk w dX6_howToBlend_17 (Nat.le_of_ble_eq_true rfl) (Nat.le_of_ble_eq_true rfl) ⟨rfl, by simp [c_1, c_2]⟩
    · refine lv_iconst (v := 1) hx hb dX6_howToBlend_12 (by decide) ?_
      refine lv_goto (tgt := 17) hx hb dX6_howToBlend_13 (by decide) ?_
      exact zRi hx hb hr hlk w dX6_howToBlend_17 (Nat.le_of_ble_eq_true rfl) (Nat.le_of_ble_eq_true rfl) ⟨rfl, by simp [c_1, c_2]⟩
  · refine lv_bipush (v := 6) hx hb dX6_howToBlend_5 (by decide) ?_
    exact zRi hx hb hr hlk w dX6_howToBlend_7 (Nat.le_of_ble_eq_true rfl) (Nat.le_of_ble_eq_true rfl) ⟨rfl, by simp [c_1]⟩
set_option maxHeartbeats 4000000 in
set_option maxRecDepth 100000 in
theorem kX6_oneIfThere (l : Launch) (G : zG) (ws : va_W) (q : Option Nat) (sz : Nat) : zMl l yX6_oneIfThere wsX6_oneIfThere { frames := 0, cells := 0, slots := 0, locals := 0 } G [va_rf q] (ws) sz (fun (r : Int64) u => u = ws ∧ r = if q = none then 0 else 1) 0 0 := by
  refine zIn (Qc := fun A => va_Ql _ (zB G A) A) (cc := cX6_oneIfThere) (maxL := 1) (ret := (some .long)) (by decide) rfl (by cases q <;> exact (Nat.le_of_ble_eq_true rfl)) ?_
  intro p e s m below meth c A ls hx hb hr hlk hml hts hown hnm hK w hl
  have hown : s.vm.findClass RX6 = some m.cls := hown
  have hl : lv_has ls 1 [(0, va_rf q)] := hl
  refine z_aloadQ_n hx hb dX6_oneIfThere_0 rfl (lv_at hl 0 rfl) ?_
  refine z_ifnonnullQ (tgt := 8) hx hb dX6_oneIfThere_1 (by decide) (fun c_1 => ?_) (fun c_1 => ?_)
  · refine lv_lconst (v := 1) hx hb dX6_oneIfThere_8 (by decide) ?_
    exact zRl hx hb hr hlk w dX6_oneIfThere_9 (Nat.le_of_ble_eq_true rfl) (Nat.le_of_ble_eq_true rfl) ⟨rfl, by simp [c_1]⟩
  · refine lv_lconst (v := 0) hx hb dX6_oneIfThere_4 (by decide) ?_
    refine lv_goto (tgt := 9) hx hb dX6_oneIfThere_5 (by decide) ?_
    exact zRl hx hb hr hlk w dX6_oneIfThere_9 (Nat.le_of_ble_eq_true rfl) (Nat.le_of_ble_eq_true rfl) ⟨rfl, by simp [c_1]⟩
set_option maxHeartbeats 4000000 in
set_option maxRecDepth 100000 in
theorem kX6_gridFault (l : Launch) (G : zG) (ws : va_W) (rows cols : Int32) (sz : Nat) : zMl l yX6_gridFault wsX6_gridFault { frames := 0, cells := 0, slots := 0, locals := 0 } G [.int rows, .int cols] (ws) sz (fun r u => u = ws ∧ r = zGF rows cols) 0 0 := by
  refine zIn (Qc := fun A => va_Ql _ (zB G A) A) (cc := cX6_gridFault) (maxL := 2) (ret := (some .long)) (by decide) rfl (Nat.le_of_ble_eq_true rfl) ?_
  intro p e s m below meth c A ls hx hb hr hlk hml hts hown hnm hK w hl
  have hown : s.vm.findClass RX6 = some m.cls := hown
  have hl : lv_has ls 2 [(0, .int rows), (1, .int cols)] := hl
  refine lv_iload_n hx hb dX6_gridFault_0 rfl (lv_at hl 0 rfl) ?_
  refine lv_bipush (v := 12) hx hb dX6_gridFault_1 (by decide) ?_
  refine lv_icmp_gt (tgt := 12) hx hb dX6_gridFault_3 (by decide) (fun c_1 => ?_) (fun c_1 => ?_)
  · refine lv_ldc2 hx hb hown (hts (.constantLong RX6 42 (5497558138880)) (by decide +kernel)) dX6_gridFault_12 ?_
    exact zRl hx hb hr hlk w dX6_gridFault_15 (Nat.le_of_ble_eq_true rfl) (Nat.le_of_ble_eq_true rfl) ⟨rfl, by simp [zGF, c_1]⟩
  · refine lv_iload_n hx hb dX6_gridFault_6 rfl (lv_at hl 1 rfl) ?_
    refine lv_bipush (v := 12) hx hb dX6_gridFault_7 (by decide) ?_
    refine lv_icmp_le (tgt := 16) hx hb dX6_gridFault_9 (by decide) (fun c_2 => ?_) (fun c_2 => ?_)
    · refine lv_iload_n hx hb dX6_gridFault_16 rfl (lv_at hl 0 rfl) ?_
      refine lv_if_lt (tgt := 24) hx hb dX6_gridFault_17 (by decide) (fun c_3 => ?_) (fun c_3 => ?_)
      · refine lv_ldc2 hx hb hown (hts (.constantLong RX6 44 (4398046511104)) (by decide +kernel)) dX6_gridFault_24 ?_
        refine lv_goto (tgt := 31) hx hb dX6_gridFault_27 (by decide) ?_
        exact zRl hx hb hr hlk w dX6_gridFault_31 (Nat.le_of_ble_eq_true rfl) (Nat.le_of_ble_eq_true rfl) ⟨rfl, by simp [zGF, c_1, c_2, c_3]⟩
      · refine lv_iload_n hx hb dX6_gridFault_20 rfl (lv_at hl 1 rfl) ?_
        refine lv_if_ge (tgt := 30) hx hb dX6_gridFault_21 (by decide) (fun c_4 => ?_) (fun c_4 => ?_)
        · refine lv_lconst (v := 0) hx hb dX6_gridFault_30 (by decide) ?_
          exact zRl hx hb hr hlk w dX6_gridFault_31 (Nat.le_of_ble_eq_true rfl) (Nat.le_of_ble_eq_true rfl) ⟨rfl, by simp [zGF, c_1, c_2, c_3, c_4]⟩
        · refine lv_ldc2 hx hb hown (hts (.constantLong RX6 44 (4398046511104)) (by decide +kernel)) dX6_gridFault_24 ?_
          refine lv_goto (tgt := 31) hx hb dX6_gridFault_27 (by decide) ?_
          exact zRl hx hb hr hlk w dX6_gridFault_31 (Nat.le_of_ble_eq_true rfl) (Nat.le_of_ble_eq_true rfl) ⟨rfl, by simp [zGF, c_1, c_2, c_3, c_4]⟩
    · refine lv_ldc2 hx hb hown (hts (.constantLong RX6 42 (5497558138880)) (by decide +kernel)) dX6_gridFault_12 ?_
      exact zRl hx hb hr hlk w dX6_gridFault_15 (Nat.le_of_ble_eq_true rfl) (Nat.le_of_ble_eq_true rfl) ⟨rfl, by simp [zGF, c_1, c_2]⟩
set_option maxHeartbeats 4000000 in
set_option maxRecDepth 100000 in
theorem kX6_refuse (l : Launch) (G : zG) {L : List Nat} {f : Nat → va_E} {o ac aw ar : Nat} {ch : Option Nat} {car wa : Nat → Option Nat} {ta : Nat → Int32} (h : zBn G L f o ac aw ar ch car wa ta) (why : Int64) (hw : zWhy why) (sz : Nat) : zMl l yX6_refuse wsX6_refuse { frames := 0, cells := 0, slots := 0, locals := 0 } G [.ref o, .long why] (va_pl L f) sz (fun r u => u = va_pl L (va_up f ar (.inl (G.2 4, 8, .inl (zTa ta why)))) ∧ r = why) 0 0 := by
  refine zIn (Qc := fun A => va_Ql _ (zB G A) A) (cc := cX6_refuse) (maxL := 3) (ret := (some .long)) (by decide) rfl (Nat.le_of_ble_eq_true rfl) ?_
  intro p e s m below meth c A ls hx hb hr hlk hml hts hown hnm hK w hl
  have hown : s.vm.findClass RX6 = some m.cls := hown
  have hl : lv_has ls 3 [(0, .ref o), (1, .long why)] := hl
  obtain ⟨⟨mo, mc, mw, mr⟩, fo, fc, fw, fr⟩ := id h
  refine lv_aload_n hx hb dX6_refuse_0 rfl (lv_at hl 0 rfl) ?_
  refine px_get (ci := 5) (C := RX6) (T := TX6) (N := 4) hx hb hts hown hK w mo (by decide +kernel) fo rfl 2 (by decide) (hts (.fieldLink RX6 21 "ReelBarn" "refusals" "[I") (by decide +kernel)) (fun _ h9 => h9) rfl dX6_refuse_1 ?_
  refine lv_lload_n hx hb dX6_refuse_4 rfl (lv_at hl 1 rfl) ?_
  refine lv_bipush (v := 40) hx hb dX6_refuse_5 (by decide) ?_
  refine lv_lshr hx hb dX6_refuse_7 rfl ?_
  refine lv_l2i hx hb dX6_refuse_8 rfl ?_
  refine lv_dup2_11 hx hb dX6_refuse_9 rfl rfl ?_
  refine px_iald hx hb hK w mr fr hw dX6_refuse_10 ?_
  refine lv_iconst (v := 1) hx hb dX6_refuse_11 (by decide) ?_
  refine lv_iadd hx hb dX6_refuse_12 ?_
  refine px_iast hx hb hK w mr fr hw dX6_refuse_13 (fun H locs w => ?_)
  refine lv_lload_n hx hb dX6_refuse_14 rfl (lv_at hl 1 rfl) ?_
  exact zRl hx hb hr hlk w dX6_refuse_15 (Nat.le_of_ble_eq_true rfl) (Nat.le_of_ble_eq_true rfl) ⟨rfl, rfl⟩
set_option maxHeartbeats 4000000 in
set_option maxRecDepth 100000 in
theorem kX6_reelOn (l : Launch) (G : zG) {L : List Nat} {f : Nat → va_E} {o ac aw ar : Nat} {ch : Option Nat} {car wa : Nat → Option Nat} {ta : Nat → Int32} (h : zBn G L f o ac aw ar ch car wa ta) (d t : Int32) (hd : zFour d) (ht : zFour t) (sz : Nat) : zMq l yX6_reelOn wsX6_reelOn { frames := 0, cells := 0, slots := 0, locals := 0 } G [.ref o, .int d, .int t] (va_pl L f) sz (fun r u => u = va_pl L f ∧ r = car (zix d t)) 0 0 := by
  refine zIn (Qc := fun A => va_Qq _ (zB G A) A) (cc := cX6_reelOn) (maxL := 3) (ret := (some (.object "ReelBarn$Reel"))) (by decide) rfl (Nat.le_of_ble_eq_true rfl) ?_
  intro p e s m below meth c A ls hx hb hr hlk hml hts hown hnm hK w hl
  have hown : s.vm.findClass RX6 = some m.cls := hown
  have hl : lv_has ls 3 [(0, .ref o), (1, .int d), (2, .int t)] := hl
  obtain ⟨⟨mo, mc, mw, mr⟩, fo, fc, fw, fr⟩ := id h
  refine lv_aload_n hx hb dX6_reelOn_0 rfl (lv_at hl 0 rfl) ?_
  refine px_get (ci := 5) (C := RX6) (T := TX6) (N := 4) hx hb hts hown hK w mo (by decide +kernel) fo rfl 0 (by decide) (hts (.fieldLink RX6 11 "ReelBarn" "carried" "[LReelBarn$Reel;") (by decide +kernel)) (fun _ h9 => h9) rfl dX6_reelOn_1 ?_
  refine lv_iload_n hx hb dX6_reelOn_4 rfl (lv_at hl 1 rfl) ?_
  refine lv_iconst (v := 4) hx hb dX6_reelOn_5 (by decide) ?_
  refine lv_imul hx hb dX6_reelOn_6 ?_
  refine lv_iload_n hx hb dX6_reelOn_7 rfl (lv_at hl 2 rfl) ?_
  refine lv_iadd hx hb dX6_reelOn_8 ?_
  refine px_aldR hx hb hK w mc fc (zix_in hd ht) dX6_reelOn_9 ?_
  exact zRq hx hb hr hlk w rfl dX6_reelOn_10 (Nat.le_of_ble_eq_true rfl) (Nat.le_of_ble_eq_true rfl) ⟨rfl, rfl⟩
set_option maxHeartbeats 4000000 in
set_option maxRecDepth 100000 in
theorem kX6_carry (l : Launch) (G : zG) {L : List Nat} {f : Nat → va_E} {o ac aw ar : Nat} {ch : Option Nat} {car wa : Nat → Option Nat} {ta : Nat → Int32} (h : zBn G L f o ac aw ar ch car wa ta) (d t : Int32) (q : Option Nat) (hd : zFour d) (ht : zFour t) (hq0 : ∀ v, q = some v → ∃ s, zRA G L f s v) (sz : Nat) : zMv l yX6_carry wsX6_carry { frames := 0, cells := 0, slots := 0, locals := 0 } G [.ref o, .int d, .int t, va_rf q] (va_pl L f) sz (fun u => u = va_pl L (va_up f ac (.inl (G.2 5, 16, zQ (va_up car (zix d t) q))))) 0 0 := by
  refine zIn (Qc := fun A => va_Qv _ (zB G A) A) (cc := cX6_carry) (maxL := 4) (ret := none) (by decide) rfl (by cases q <;> exact (Nat.le_of_ble_eq_true rfl)) ?_
  intro p e s m below meth c A ls hx hb hr hlk hml hts hown hnm hK w hl
  have hown : s.vm.findClass RX6 = some m.cls := hown
  have hl : lv_has ls 4 [(0, .ref o), (1, .int d), (2, .int t), (3, va_rf q)] := hl
  obtain ⟨⟨mo, mc, mw, mr⟩, fo, fc, fw, fr⟩ := id h
  refine lv_aload_n hx hb dX6_carry_0 rfl (lv_at hl 0 rfl) ?_
  refine px_get (ci := 5) (C := RX6) (T := TX6) (N := 4) hx hb hts hown hK w mo (by decide +kernel) fo rfl 0 (by decide) (hts (.fieldLink RX6 11 "ReelBarn" "carried" "[LReelBarn$Reel;") (by decide +kernel)) (fun _ h9 => h9) rfl dX6_carry_1 ?_
  refine lv_iload_n hx hb dX6_carry_4 rfl (lv_at hl 1 rfl) ?_
  refine lv_iconst (v := 4) hx hb dX6_carry_5 (by decide) ?_
  refine lv_imul hx hb dX6_carry_6 ?_
  refine lv_iload_n hx hb dX6_carry_7 rfl (lv_at hl 2 rfl) ?_
  refine lv_iadd hx hb dX6_carry_8 ?_
  refine z_aloadQ_n hx hb dX6_carry_9 rfl (lv_at hl 3 rfl) ?_
  refine px_astRQ hx hb hK w mc fc hq0 (zix_in hd ht) dX6_carry_10 (fun H locs w => ?_)
  exact zRv hx hb hr hlk w dX6_carry_11 (Nat.le_of_ble_eq_true rfl) (Nat.le_of_ble_eq_true rfl) rfl
set_option maxHeartbeats 4000000 in
set_option maxRecDepth 100000 in
theorem kX6_reelFault (l : Launch) (G : zG) {L : List Nat} {f : Nat → va_E} {o ac aw ar : Nat} {ch : Option Nat} {car wa : Nat → Option Nat} {ta : Nat → Int32} (h : zBn G L f o ac aw ar ch car wa ta) (d t : Int32) (sz : Nat) : zMl l yX6_reelFault wsX6_reelFault { frames := 1, cells := 0, slots := 0, locals := 22 } G [.ref o, .int d, .int t] (va_pl L f) sz (fun r u => u = va_pl L f ∧ r = zRF car d t) 0 0 := by
  refine zIn (Qc := fun A => va_Ql _ (zB G A) A) (cc := cX6_reelFault) (maxL := 3) (ret := (some .long)) (by decide) rfl (Nat.le_of_ble_eq_true rfl) ?_
  intro p e s m below meth c A ls hx hb hr hlk hml hts hown hnm hK w hl
  have hown : s.vm.findClass RX6 = some m.cls := hown
  have hl : lv_has ls 3 [(0, .ref o), (1, .int d), (2, .int t)] := hl
  obtain ⟨⟨mo, mc, mw, mr⟩, fo, fc, fw, fr⟩ := id h
  refine lv_iload_n hx hb dX6_reelFault_0 rfl (lv_at hl 1 rfl) ?_
  refine zCi w (va_runS (As := [.int d]) (rest := []) ⟨hx, hb, hml, hown, hts⟩ (kX6_isDeck l G _ d s.heap.size) (va_cwS 1 hts gX6_reelFault_X6_isDeck rfl rfl rfl (by decide +kernel) ⟨(Nat.le_of_ble_eq_true rfl), (Nat.le_of_ble_eq_true rfl)⟩) (zPS w hK) rfl rfl hl.1 rfl (lv_room (Nat.le_of_ble_eq_true rfl)) dX6_reelFault_1 ⟨(Nat.le_of_ble_eq_true rfl), (Nat.le_of_ble_eq_true rfl)⟩) (fun r_1 u H locs hq w => ?_)
  obtain ⟨rfl, e_r_1⟩ := hq
  refine lv_if_eq (tgt := 14) hx hb dX6_reelFault_4 (by decide) (fun c_2 => ?_) (fun c_2 => ?_)
  · have p_d := z00 inferInstance e_r_1 c_2
    refine lv_ldc2 hx hb hown (hts (.constantLong RX6 36 (1099511627776)) (by decide +kernel)) dX6_reelFault_14 ?_
    exact zRl hx hb hr hlk w dX6_reelFault_17 (Nat.le_of_ble_eq_true rfl) (Nat.le_of_ble_eq_true rfl) ⟨rfl, by simp [zRF, p_d]⟩
  · have p_d := z01 inferInstance e_r_1 c_2
    refine lv_iload_n hx hb dX6_reelFault_7 rfl (lv_at hl 2 rfl) ?_
    refine zCi w (va_runS (As := [.int t]) (rest := []) ⟨hx, hb, hml, hown, hts⟩ (kX6_isSort l G _ t H.size) (va_cwS 1 hts gX6_reelFault_X6_isSort rfl rfl rfl (by decide +kernel) ⟨(Nat.le_of_ble_eq_true rfl), (Nat.le_of_ble_eq_true rfl)⟩) (zPS w hK) rfl rfl hl.1 rfl (lv_room (Nat.le_of_ble_eq_true rfl)) dX6_reelFault_8 ⟨(Nat.le_of_ble_eq_true rfl), (Nat.le_of_ble_eq_true rfl)⟩) (fun r_3 u H locs hq w => ?_)
    obtain ⟨rfl, e_r_3⟩ := hq
    refine lv_if_ne (tgt := 18) hx hb dX6_reelFault_11 (by decide) (fun c_4 => ?_) (fun c_4 => ?_)
    · have p_t := z01 inferInstance e_r_3 c_4
      refine lv_aload_n hx hb dX6_reelFault_18 rfl (lv_at hl 0 rfl) ?_
      refine lv_iload_n hx hb dX6_reelFault_19 rfl (lv_at hl 1 rfl) ?_
      refine lv_iload_n hx hb dX6_reelFault_20 rfl (lv_at hl 2 rfl) ?_
      refine zCq w (va_runV (As := [.int d, .int t]) (rest := []) ⟨hx, hb, hml, hown, hts⟩ (kX6_reelOn l G h d t p_d p_t H.size) (cwV 2 hts gX6_reelFault_X6_reelOn rfl rfl rfl (by decide +kernel) ⟨(Nat.le_of_ble_eq_true rfl), (Nat.le_of_ble_eq_true rfl)⟩) (zPV w hK (px_recv (r := (RX6, TX6, 4)) hK w mo fo rfl)) rfl rfl hl.1 rfl (lv_room (Nat.le_of_ble_eq_true rfl)) dX6_reelFault_21 ⟨(Nat.le_of_ble_eq_true rfl), (Nat.le_of_ble_eq_true rfl)⟩) (fun r_5 u H locs hq w => ?_)
      obtain ⟨rfl, e_r⟩ := hq
      subst e_r
      refine z_ifnonnullQ (tgt := 33) hx hb dX6_reelFault_24 (by decide) (fun c_6 => ?_) (fun c_6 => ?_)
      · refine lv_lconst (v := 0) hx hb dX6_reelFault_33 (by decide) ?_
        exact zRl hx hb hr hlk w dX6_reelFault_34 (Nat.le_of_ble_eq_true rfl) (Nat.le_of_ble_eq_true rfl) ⟨rfl, by simp [zRF, p_d, p_t, c_6]⟩
      · refine lv_ldc2 hx hb hown (hts (.constantLong RX6 134 (2199023255552)) (by decide +kernel)) dX6_reelFault_27 ?_
        refine lv_goto (tgt := 34) hx hb dX6_reelFault_30 (by decide) ?_
        exact zRl hx hb hr hlk w dX6_reelFault_34 (Nat.le_of_ble_eq_true rfl) (Nat.le_of_ble_eq_true rfl) ⟨rfl, by simp [zRF, p_d, p_t, c_6]⟩
    · have p_t := z00 inferInstance e_r_3 c_4
      refine lv_ldc2 hx hb hown (hts (.constantLong RX6 36 (1099511627776)) (by decide +kernel)) dX6_reelFault_14 ?_
      exact zRl hx hb hr hlk w dX6_reelFault_17 (Nat.le_of_ble_eq_true rfl) (Nat.le_of_ble_eq_true rfl) ⟨rfl, by simp [zRF, p_d, p_t]⟩
set_option maxHeartbeats 4000000 in
set_option maxRecDepth 100000 in
theorem kX6_placeFault (l : Launch) (G : zG) {L : List Nat} {f : Nat → va_E} {o ac aw ar : Nat} {ch : Option Nat} {car wa : Nat → Option Nat} {ta : Nat → Int32} (h : zBn G L f o ac aw ar ch car wa ta) (hct : zCT G L f car) (d t i : Int32) (sz : Nat) : zMl l yX6_placeFault wsX6_placeFault { frames := 2, cells := 0, slots := 0, locals := 44 } G [.ref o, .int d, .int t, .int i] (va_pl L f) sz (fun r u => u = va_pl L f ∧ r = zPF f car d t i) 0 0 := by
  refine zIn (Qc := fun A => va_Ql _ (zB G A) A) (cc := cX6_placeFault) (maxL := 6) (ret := (some .long)) (by decide) rfl (Nat.le_of_ble_eq_true rfl) ?_
  intro p e s m below meth c A ls hx hb hr hlk hml hts hown hnm hK w hl
  have hown : s.vm.findClass RX6 = some m.cls := hown
  have hl : lv_has ls 6 [(0, .ref o), (1, .int d), (2, .int t), (3, .int i)] := hl
  obtain ⟨⟨mo, mc, mw, mr⟩, fo, fc, fw, fr⟩ := id h
  refine lv_aload_n hx hb dX6_placeFault_0 rfl (lv_at hl 0 rfl) ?_
  refine lv_iload_n hx hb dX6_placeFault_1 rfl (lv_at hl 1 rfl) ?_
  refine lv_iload_n hx hb dX6_placeFault_2 rfl (lv_at hl 2 rfl) ?_
  refine zCl w (va_runV (As := [.int d, .int t]) (rest := []) ⟨hx, hb, hml, hown, hts⟩ (kX6_reelFault l G h d t s.heap.size) (cwV 2 hts gX6_placeFault_X6_reelFault rfl rfl rfl (by decide +kernel) ⟨(Nat.le_of_ble_eq_true rfl), (Nat.le_of_ble_eq_true rfl)⟩) (zPV w hK (px_recv (r := (RX6, TX6, 4)) hK w mo fo rfl)) rfl rfl hl.1 rfl (lv_room (Nat.le_of_ble_eq_true rfl)) dX6_placeFault_3 ⟨(Nat.le_of_ble_eq_true rfl), (Nat.le_of_ble_eq_true rfl)⟩) (fun r_1 u H locs hq w => ?_)
  obtain ⟨rfl, e_r⟩ := hq
  subst e_r
  refine lv_lstore (lv' := [(4, .long (zRF car d t)), (0, .ref o), (1, .int d), (2, .int t), (3, .int i)]) hx hb dX6_placeFault_6 hl (by decide) rfl (fun ls hl => ?_)
  refine lv_lload hx hb dX6_placeFault_8 (lv_at hl 0 rfl) ?_
  refine lv_lconst (v := 0) hx hb dX6_placeFault_10 (by decide) ?_
  refine W.lcmp hx hb dX6_placeFault_11 ?_
  refine lv_if_eq (tgt := 18) hx hb dX6_placeFault_12 (by decide) (fun c_2 => ?_) (fun c_2 => ?_)
  · have p_f := zcmp0 c_2
    obtain ⟨hd, ht, hca⟩ := zRF_0 p_f
    have hA := zCT_at hct p_f
    obtain ⟨sN, hsN⟩ : ∃ sN, sN = zS t := ⟨_, rfl⟩
    rw [← hsN] at hA
    have hs : sN = 0 ∨ sN = 1 ∨ sN = 2 ∨ sN = 3 := by rw [hsN]; exact zS_or ht
    unfold zRA at hA
    refine lv_aload_n hx hb dX6_placeFault_18 rfl (lv_at hl 1 rfl) ?_
    refine lv_iload_n hx hb dX6_placeFault_19 rfl (lv_at hl 2 rfl) ?_
    refine lv_iload_n hx hb dX6_placeFault_20 rfl (lv_at hl 3 rfl) ?_
    refine zCq w (va_runV (As := [.int d, .int t]) (rest := []) ⟨hx, hb, hml, hown, hts⟩ (kX6_reelOn l G h d t hd ht H.size) (cwV 2 hts gX6_placeFault_X6_reelOn rfl rfl rfl (by decide +kernel) ⟨(Nat.le_of_ble_eq_true rfl), (Nat.le_of_ble_eq_true rfl)⟩) (zPV w hK (px_recv (r := (RX6, TX6, 4)) hK w mo fo rfl)) rfl rfl hl.1 rfl (lv_room (Nat.le_of_ble_eq_true rfl)) dX6_placeFault_21 ⟨(Nat.le_of_ble_eq_true rfl), (Nat.le_of_ble_eq_true rfl)⟩) (fun r_3 u H locs hq w => ?_)
    obtain ⟨rfl, e_r⟩ := hq
    subst e_r
    rw [hca]
    refine lv_iload_n hx hb dX6_placeFault_24 rfl (lv_at hl 4 rfl) ?_
    refine zCi (post := fun r u => u = va_pl L f ∧ r = if zHas (vN f (zA car d t)) i then 1 else 0) (mc := 0) (ms := 0) (rest := []) (av := (Value.ref (zA car d t) :: [.int i]).toArray) w (by
        rcases hs with rfl | rfl | rfl | rfl
        · exact va_runU (As := [.int i]) (rest := []) ⟨hx, hb, hml, hown, hts⟩ (kX3_has l G (by omega) hA i H.size) (va_cwU 1 hts gX6_placeFault_X3_has_u142X2 rfl rfl rfl rfl (by decide +kernel) ⟨(Nat.le_of_ble_eq_true rfl), (Nat.le_of_ble_eq_true rfl)⟩) (zPV w hK (px_recv (ci := 2) (fs := [.ref (vB f (zA car d t))]) (r := (RX2, TX2, 1)) hK w (hA.1) (hA.2.2.1) rfl)) rfl rfl hl.1 rfl (lv_room (Nat.le_of_ble_eq_true rfl)) dX6_placeFault_25 ⟨(Nat.le_of_ble_eq_true rfl), (Nat.le_of_ble_eq_true rfl)⟩
        · exact va_runU (As := [.int i]) (rest := []) ⟨hx, hb, hml, hown, hts⟩ (kX3_has l G (by omega) hA i H.size) (va_cwU 1 hts gX6_placeFault_X3_has_u142X5 rfl rfl rfl rfl (by decide +kernel) ⟨(Nat.le_of_ble_eq_true rfl), (Nat.le_of_ble_eq_true rfl)⟩) (zPV w hK (px_recv (ci := 4) (fs := [.ref (vB f (zA car d t))]) (r := (RX5, TX5, 1)) hK w (hA.1) (hA.2.2.1) rfl)) rfl rfl hl.1 rfl (lv_room (Nat.le_of_ble_eq_true rfl)) dX6_placeFault_25 ⟨(Nat.le_of_ble_eq_true rfl), (Nat.le_of_ble_eq_true rfl)⟩
        · exact va_runU (As := [.int i]) (rest := []) ⟨hx, hb, hml, hown, hts⟩ (kX3_has l G (by omega) hA i H.size) (va_cwU 1 hts gX6_placeFault_X3_has_u142X0 rfl rfl rfl rfl (by decide +kernel) ⟨(Nat.le_of_ble_eq_true rfl), (Nat.le_of_ble_eq_true rfl)⟩) (zPV w hK (px_recv (ci := 0) (fs := [.ref (vB f (zA car d t))]) (r := (RX0, TX0, 1)) hK w (hA.1) (hA.2.2.1) rfl)) rfl rfl hl.1 rfl (lv_room (Nat.le_of_ble_eq_true rfl)) dX6_placeFault_25 ⟨(Nat.le_of_ble_eq_true rfl), (Nat.le_of_ble_eq_true rfl)⟩
        · exact va_runU (As := [.int i]) (rest := []) ⟨hx, hb, hml, hown, hts⟩ (kX3_has l G (by omega) hA i H.size) (va_cwU 1 hts gX6_placeFault_X3_has_u142X1 rfl rfl rfl rfl (by decide +kernel) ⟨(Nat.le_of_ble_eq_true rfl), (Nat.le_of_ble_eq_true rfl)⟩) (zPV w hK (px_recv (ci := 1) (fs := [.ref (vB f (zA car d t))]) (r := (RX1, TX1, 1)) hK w (hA.1) (hA.2.2.1) rfl)) rfl rfl hl.1 rfl (lv_room (Nat.le_of_ble_eq_true rfl)) dX6_placeFault_25 ⟨(Nat.le_of_ble_eq_true rfl), (Nat.le_of_ble_eq_true rfl)⟩) (fun r_4 u H locs hq w => ?_)
    obtain ⟨rfl, e_r_4⟩ := hq
    refine lv_if_eq (tgt := 35) hx hb dX6_placeFault_28 (by decide) (fun c_5 => ?_) (fun c_5 => ?_)
    · have p_h := z00 inferInstance e_r_4 c_5
      refine lv_ldc2 hx hb hown (hts (.constantLong RX6 136 (3298534883328)) (by decide +kernel)) dX6_placeFault_35 ?_
      exact zRl hx hb hr hlk w dX6_placeFault_38 (Nat.le_of_ble_eq_true rfl) (Nat.le_of_ble_eq_true rfl) ⟨rfl, by simp [zPF, p_f, p_h]⟩
    · have p_h := z01 inferInstance e_r_4 c_5
      refine lv_lconst (v := 0) hx hb dX6_placeFault_31 (by decide) ?_
      refine lv_goto (tgt := 38) hx hb dX6_placeFault_32 (by decide) ?_
      exact zRl hx hb hr hlk w dX6_placeFault_38 (Nat.le_of_ble_eq_true rfl) (Nat.le_of_ble_eq_true rfl) ⟨rfl, by simp [zPF, p_f, p_h]⟩
  · have p_f := zcmp1 c_2
    refine lv_lload hx hb dX6_placeFault_15 (lv_at hl 0 rfl) ?_
    exact zRl hx hb hr hlk w dX6_placeFault_17 (Nat.le_of_ble_eq_true rfl) (Nat.le_of_ble_eq_true rfl) ⟨rfl, by simp [zPF, p_f]⟩
