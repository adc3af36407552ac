set_option maxHeartbeats 4000000 in
set_option maxRecDepth 100000 in
theorem kX3_has (l : Launch) (G : zG) {s0 : Nat} (hs : s0 = 0 ∨ s0 = 1 ∨ s0 = 2 ∨ s0 = 3) {L : List Nat} {f : Nat → va_E} {a b n : Nat} {gi : Nat → Int32} {gf : Nat → UInt32} (h : zReel G L f s0 a b n gi gf) (i : Int32) (sz : Nat) : zMi l yX3_has wsX3_has { frames := 1, cells := 0, slots := 0, locals := 20 } G [.ref a, .int i] (va_pl L f) sz (fun r u => u = va_pl L f ∧ r = if zHas n i then 1 else 0) 0 0 := by
  refine zIn (Qc := fun A => va_Qi _ (zB G A) A) (cc := cX3_has) (maxL := 2) (ret := (some .boolean)) (by decide) rfl (Nat.le_of_ble_eq_true rfl) ?_
  intro p e s m below meth c A ls hx hb hr hlk hml hts hown hnm hK w hl
  have hown : s.vm.findClass RX3 = some m.cls := hown
  have hl : lv_has ls 2 [(0, .ref a), (1, .int i)] := hl
  refine lv_iload_n hx hb dX3_has_0 rfl (lv_at hl 1 rfl) ?_
  refine lv_if_lt (tgt := 16) hx hb dX3_has_1 (by decide) (fun c_1 => ?_) (fun c_1 => ?_)
  · refine lv_iconst (v := 0) hx hb dX3_has_16 (by decide) ?_
    exact zRz hx hb hr hlk rfl w dX3_has_17 (Nat.le_of_ble_eq_true rfl) (Nat.le_of_ble_eq_true rfl) ⟨rfl, by simp [zHas, c_1]⟩
  · refine lv_iload_n hx hb dX3_has_4 rfl (lv_at hl 1 rfl) ?_
    refine lv_aload_n hx hb dX3_has_5 rfl (lv_at hl 0 rfl) ?_
    refine zCi (post := fun r u => u = va_pl L f ∧ r = nI n) (mc := 0) (ms := 0) (rest := [.int i]) (av := (Value.ref a :: []).toArray) w (by
        rcases hs with rfl | rfl | rfl | rfl
        · exact va_runU (As := []) (rest := [.int i]) ⟨hx, hb, hml, hown, hts⟩ (kX2_places l G h s.heap.size) (va_cwA 0 hts gX3_has_X2_places_u9X2 rfl rfl rfl hK.2.1.1 (by decide +kernel) ⟨(Nat.le_of_ble_eq_true rfl), (Nat.le_of_ble_eq_true rfl)⟩) (zPV w hK (px_recv (ci := 2) (fs := [.ref b]) (r := (RX2, TX2, 1)) hK w (h.1) (h.2.2.1) rfl)) rfl rfl hl.1 rfl (lv_room (Nat.le_of_ble_eq_true rfl)) dX3_has_6 ⟨(Nat.le_of_ble_eq_true rfl), (Nat.le_of_ble_eq_true rfl)⟩
        · exact va_runU (As := []) (rest := [.int i]) ⟨hx, hb, hml, hown, hts⟩ (kX5_places l G h s.heap.size) (va_cwA 0 hts gX3_has_X5_places_u9X5 rfl rfl rfl hK.2.1.1 (by decide +kernel) ⟨(Nat.le_of_ble_eq_true rfl), (Nat.le_of_ble_eq_true rfl)⟩) (zPV w hK (px_recv (ci := 4) (fs := [.ref b]) (r := (RX5, TX5, 1)) hK w (h.1) (h.2.2.1) rfl)) rfl rfl hl.1 rfl (lv_room (Nat.le_of_ble_eq_true rfl)) dX3_has_6 ⟨(Nat.le_of_ble_eq_true rfl), (Nat.le_of_ble_eq_true rfl)⟩
        · exact va_runU (As := []) (rest := [.int i]) ⟨hx, hb, hml, hown, hts⟩ (kX0_places l G h s.heap.size) (va_cwA 0 hts gX3_has_X0_places_u9X0 rfl rfl rfl hK.2.1.1 (by decide +kernel) ⟨(Nat.le_of_ble_eq_true rfl), (Nat.le_of_ble_eq_true rfl)⟩) (zPV w hK (px_recv (ci := 0) (fs := [.ref b]) (r := (RX0, TX0, 1)) hK w (h.1) (h.2.2.1) rfl)) rfl rfl hl.1 rfl (lv_room (Nat.le_of_ble_eq_true rfl)) dX3_has_6 ⟨(Nat.le_of_ble_eq_true rfl), (Nat.le_of_ble_eq_true rfl)⟩
        · exact va_runU (As := []) (rest := [.int i]) ⟨hx, hb, hml, hown, hts⟩ (kX1_places l G h s.heap.size) (va_cwA 0 hts gX3_has_X1_places_u9X1 rfl rfl rfl hK.2.1.1 (by decide +kernel) ⟨(Nat.le_of_ble_eq_true rfl), (Nat.le_of_ble_eq_true rfl)⟩) (zPV w hK (px_recv (ci := 1) (fs := [.ref b]) (r := (RX1, TX1, 1)) hK w (h.1) (h.2.2.1) rfl)) rfl rfl hl.1 rfl (lv_room (Nat.le_of_ble_eq_true rfl)) dX3_has_6 ⟨(Nat.le_of_ble_eq_true rfl), (Nat.le_of_ble_eq_true rfl)⟩) (fun r_2 u H locs hq w => ?_)
    obtain ⟨rfl, e_r⟩ := hq
    subst e_r
    refine lv_icmp_ge (tgt := 16) hx hb dX3_has_9 (by decide) (fun c_3 => ?_) (fun c_3 => ?_)
    · refine lv_iconst (v := 0) hx hb dX3_has_16 (by decide) ?_
      exact zRz hx hb hr hlk rfl w dX3_has_17 (Nat.le_of_ble_eq_true rfl) (Nat.le_of_ble_eq_true rfl) ⟨rfl, by simp [zHas, c_1, c_3]⟩
    · refine lv_iconst (v := 1) hx hb dX3_has_12 (by decide) ?_
      refine lv_goto (tgt := 17) hx hb dX3_has_13 (by decide) ?_
      exact zRz hx hb hr hlk rfl w dX3_has_17 (Nat.le_of_ble_eq_true rfl) (Nat.le_of_ble_eq_true rfl) ⟨rfl, by simp [zHas, c_1, c_3]⟩
set_option maxHeartbeats 4000000 in
set_option maxRecDepth 100000 in
theorem kX3_reckon (l : Launch) (G : zG) (ws : va_W) (x how n : Int32) (hdv : ¬ (how = 3 ∧ n = 0)) (sz : Nat) : zMi l yX3_reckon wsX3_reckon { frames := 0, cells := 0, slots := 0, locals := 0 } G [.int x, .int how, .int n] (ws) sz (fun r u => u = ws ∧ r = zRek x how n) 0 0 := by
  refine zIn (Qc := fun A => va_Qi _ (zB G A) A) (cc := cX3_reckon) (maxL := 3) (ret := (some .int)) (by decide) rfl (Nat.le_of_ble_eq_true rfl) ?_
  intro p e s m below meth c A ls hx hb hr hlk hml hts hown hnm hK w hl
  have hown : s.vm.findClass RX3 = some m.cls := hown
  have hl : lv_has ls 3 [(0, .int x), (1, .int how), (2, .int n)] := hl
  refine lv_iload_n hx hb dX3_reckon_0 rfl (lv_at hl 1 rfl) ?_
  rcases Decidable.em (how = 0) with t_1 | t_1
  · refine lv_tableIn (tgt := 48) hx hb dX3_reckon_1 (by rw [t_1]; decide) (by rw [t_1]; decide) (by rw [t_1]; rfl) (by decide) ?_
    refine lv_iload_n hx hb dX3_reckon_48 rfl (lv_at hl 0 rfl) ?_
    refine lv_iload_n hx hb dX3_reckon_49 rfl (lv_at hl 2 rfl) ?_
    refine lv_iadd hx hb dX3_reckon_50 ?_
    exact zRi hx hb hr hlk w dX3_reckon_51 (Nat.le_of_ble_eq_true rfl) (Nat.le_of_ble_eq_true rfl) ⟨rfl, by simp [zRek, t_1]⟩
  · rcases Decidable.em (how = 1) with t_2 | t_2
    · refine lv_tableIn (tgt := 52) hx hb dX3_reckon_1 (by rw [t_2]; decide) (by rw [t_2]; decide) (by rw [t_2]; rfl) (by decide) ?_
      refine lv_iload_n hx hb dX3_reckon_52 rfl (lv_at hl 0 rfl) ?_
      refine lv_iload_n hx hb dX3_reckon_53 rfl (lv_at hl 2 rfl) ?_
      refine lv_isub hx hb dX3_reckon_54 ?_
      exact zRi hx hb hr hlk w dX3_reckon_55 (Nat.le_of_ble_eq_true rfl) (Nat.le_of_ble_eq_true rfl) ⟨rfl, by simp [zRek, t_1, t_2]⟩
    · rcases Decidable.em (how = 2) with t_3 | t_3
      · refine lv_tableIn (tgt := 56) hx hb dX3_reckon_1 (by rw [t_3]; decide) (by rw [t_3]; decide) (by rw [t_3]; rfl) (by decide) ?_
        refine lv_iload_n hx hb dX3_reckon_56 rfl (lv_at hl 0 rfl) ?_
        refine lv_iload_n hx hb dX3_reckon_57 rfl (lv_at hl 2 rfl) ?_
        refine lv_imul hx hb dX3_reckon_58 ?_
        exact zRi hx hb hr hlk w dX3_reckon_59 (Nat.le_of_ble_eq_true rfl) (Nat.le_of_ble_eq_true rfl) ⟨rfl, by simp [zRek, t_1, t_2, t_3]⟩
      · rcases Decidable.em (how = 3) with t_4 | t_4
        · refine lv_tableIn (tgt := 60) hx hb dX3_reckon_1 (by rw [t_4]; decide) (by rw [t_4]; decide) (by rw [t_4]; rfl) (by decide) ?_
          refine lv_iload_n hx hb dX3_reckon_60 rfl (lv_at hl 0 rfl) ?_
          refine lv_iload_n hx hb dX3_reckon_61 rfl (lv_at hl 2 rfl) ?_
          refine lv_idiv hx hb dX3_reckon_62 (fun q => hdv ⟨t_4, q⟩) ?_
          exact zRi hx hb hr hlk w dX3_reckon_63 (Nat.le_of_ble_eq_true rfl) (Nat.le_of_ble_eq_true rfl) ⟨rfl, by simp [zRek, t_1, t_2, t_3, t_4]⟩
        · rcases Decidable.em (how = 4) with t_5 | t_5
          · refine lv_tableIn (tgt := 64) hx hb dX3_reckon_1 (by rw [t_5]; decide) (by rw [t_5]; decide) (by rw [t_5]; rfl) (by decide) ?_
            refine lv_iload_n hx hb dX3_reckon_64 rfl (lv_at hl 0 rfl) ?_
            refine lv_iload_n hx hb dX3_reckon_65 rfl (lv_at hl 2 rfl) ?_
            refine lv_bipush (v := 31) hx hb dX3_reckon_66 (by decide) ?_
            refine lv_iand hx hb dX3_reckon_68 ?_
            refine lv_ishl hx hb dX3_reckon_69 ?_
            exact zRi hx hb hr hlk w dX3_reckon_70 (Nat.le_of_ble_eq_true rfl) (Nat.le_of_ble_eq_true rfl) ⟨rfl, by simp [zRek, t_1, t_2, t_3, t_4, t_5]⟩
          · rcases Decidable.em (how = 5) with t_6 | t_6
            · refine lv_tableIn (tgt := 71) hx hb dX3_reckon_1 (by rw [t_6]; decide) (by rw [t_6]; decide) (by rw [t_6]; rfl) (by decide) ?_
              refine lv_iload_n hx hb dX3_reckon_71 rfl (lv_at hl 0 rfl) ?_
              refine lv_iload_n hx hb dX3_reckon_72 rfl (lv_at hl 2 rfl) ?_
              refine lv_bipush (v := 31) hx hb dX3_reckon_73 (by decide) ?_
              refine lv_iand hx hb dX3_reckon_75 ?_
              refine lv_iushr hx hb dX3_reckon_76 rfl ?_
              exact zRi hx hb hr hlk w dX3_reckon_77 (Nat.le_of_ble_eq_true rfl) (Nat.le_of_ble_eq_true rfl) ⟨rfl, by simp [zRek, t_1, t_2, t_3, t_4, t_5, t_6]⟩
            · rcases Decidable.em (how = 6) with t_7 | t_7
              · refine lv_tableIn (tgt := 78) hx hb dX3_reckon_1 (by rw [t_7]; decide) (by rw [t_7]; decide) (by rw [t_7]; rfl) (by decide) ?_
                refine lv_iload_n hx hb dX3_reckon_78 rfl (lv_at hl 0 rfl) ?_
                refine lv_iload_n hx hb dX3_reckon_79 rfl (lv_at hl 2 rfl) ?_
                refine lv_ixor hx hb dX3_reckon_80 ?_
                exact zRi hx hb hr hlk w dX3_reckon_81 (Nat.le_of_ble_eq_true rfl) (Nat.le_of_ble_eq_true rfl) ⟨rfl, by simp [zRek, t_1, t_2, t_3, t_4, t_5, t_6, t_7]⟩
              · rcases Decidable.em (how = 7) with t_8 | t_8
                · refine lv_tableIn (tgt := 82) hx hb dX3_reckon_1 (by rw [t_8]; decide) (by rw [t_8]; decide) (by rw [t_8]; rfl) (by decide) ?_
                  refine lv_iload_n hx hb dX3_reckon_82 rfl (lv_at hl 0 rfl) ?_
                  refine lv_iload_n hx hb dX3_reckon_83 rfl (lv_at hl 2 rfl) ?_
                  refine lv_iand hx hb dX3_reckon_84 ?_
                  exact zRi hx hb hr hlk w dX3_reckon_85 (Nat.le_of_ble_eq_true rfl) (Nat.le_of_ble_eq_true rfl) ⟨rfl, by simp [zRek, t_1, t_2, t_3, t_4, t_5, t_6, t_7, t_8]⟩
                · refine lv_tableOut (tgt := 86) hx hb dX3_reckon_1 (by have q0 := lv_neT (k := 0) (a := 0) t_1 rfl; have q1 := lv_neT (k := 1) (a := 1) t_2 rfl; have q2 := lv_neT (k := 2) (a := 2) t_3 rfl; have q3 := lv_neT (k := 3) (a := 3) t_4 rfl; have q4 := lv_neT (k := 4) (a := 4) t_5 rfl; have q5 := lv_neT (k := 5) (a := 5) t_6 rfl; have q6 := lv_neT (k := 6) (a := 6) t_7 rfl; have q7 := lv_neT (k := 7) (a := 7) t_8 rfl; omega) (by decide) ?_
                  refine lv_iload_n hx hb dX3_reckon_86 rfl (lv_at hl 0 rfl) ?_
                  refine lv_iload_n hx hb dX3_reckon_87 rfl (lv_at hl 2 rfl) ?_
                  refine lv_ior hx hb dX3_reckon_88 ?_
                  exact zRi hx hb hr hlk w dX3_reckon_89 (Nat.le_of_ble_eq_true rfl) (Nat.le_of_ble_eq_true rfl) ⟨rfl, by simp [zRek, t_1, t_2, t_3, t_4, t_5, t_6, t_7, t_8]⟩
set_option maxHeartbeats 4000000 in
set_option maxRecDepth 100000 in
theorem kX3_change (l : Launch) (G : zG) {s0 : Nat} (hs : s0 = 0 ∨ s0 = 1 ∨ s0 = 3) {L : List Nat} {f : Nat → va_E} {a b n : Nat} {gi : Nat → Int32} {gf : Nat → UInt32} (h : zReel G L f s0 a b n gi gf) (i how x : Int32) (hi : vp_in i n) (hdv : ¬ (how = 3 ∧ x = 0)) (sz : Nat) : zMv l yX3_change wsX3_change { frames := 1, cells := 0, slots := 0, locals := 22 } G [.ref a, .int i, .int how, .int x] (va_pl L f) sz (fun u => u = va_pl L (va_up f b (zCel G s0 n (zChI s0 gi gf i.toNatClampNeg how x) (zChF s0 gf i.toNatClampNeg how x)))) 0 0 := by
  refine zIn (Qc := fun A => va_Qv _ (zB G A) A) (cc := cX3_change) (maxL := 4) (ret := none) (by decide) rfl (Nat.le_of_ble_eq_true rfl) ?_
  intro p e s m below meth c A ls hx hb hr hlk hml hts hown hnm hK w hl
  have hown : s.vm.findClass RX3 = some m.cls := hown
  have hl : lv_has ls 4 [(0, .ref a), (1, .int i), (2, .int how), (3, .int x)] := hl
  refine lv_aload_n hx hb dX3_change_0 rfl (lv_at hl 0 rfl) ?_
  refine lv_iload_n hx hb dX3_change_1 rfl (lv_at hl 1 rfl) ?_
  refine lv_aload_n hx hb dX3_change_2 rfl (lv_at hl 0 rfl) ?_
  refine lv_iload_n hx hb dX3_change_3 rfl (lv_at hl 1 rfl) ?_
  refine zCi (post := fun r u => u = va_pl L f ∧ r = zTold s0 gi gf i.toNatClampNeg) (mc := 0) (ms := 0) (rest := [.int i, .ref a]) (av := (Value.ref a :: [.int i]).toArray) w (by
      rcases hs with rfl | rfl | rfl
      · exact va_runU (As := [.int i]) (rest := [.int i, .ref a]) ⟨hx, hb, hml, hown, hts⟩ (kX2_told l G h i hi s.heap.size) (va_cwA 1 hts gX3_change_X2_told_u15X2 rfl rfl rfl hK.2.1.2.1 (by decide +kernel) ⟨(Nat.le_of_ble_eq_true rfl), (Nat.le_of_ble_eq_true rfl)⟩) (zPV w hK (px_recv (ci := 2) (fs := [.ref b]) (r := (RX2, TX2, 1)) hK w (h.1) (h.2.2.1) rfl)) rfl rfl hl.1 rfl (lv_room (Nat.le_of_ble_eq_true rfl)) dX3_change_4 ⟨(Nat.le_of_ble_eq_true rfl), (Nat.le_of_ble_eq_true rfl)⟩
      · exact va_runU (As := [.int i]) (rest := [.int i, .ref a]) ⟨hx, hb, hml, hown, hts⟩ (kX5_told l G h i hi s.heap.size) (va_cwA 1 hts gX3_change_X5_told_u15X5 rfl rfl rfl hK.2.1.2.1 (by decide +kernel) ⟨(Nat.le_of_ble_eq_true rfl), (Nat.le_of_ble_eq_true rfl)⟩) (zPV w hK (px_recv (ci := 4) (fs := [.ref b]) (r := (RX5, TX5, 1)) hK w (h.1) (h.2.2.1) rfl)) rfl rfl hl.1 rfl (lv_room (Nat.le_of_ble_eq_true rfl)) dX3_change_4 ⟨(Nat.le_of_ble_eq_true rfl), (Nat.le_of_ble_eq_true rfl)⟩
      · exact va_runU (As := [.int i]) (rest := [.int i, .ref a]) ⟨hx, hb, hml, hown, hts⟩ (kX1_told l G h i hi s.heap.size) (va_cwA 1 hts gX3_change_X1_told_u15X1 rfl rfl rfl hK.2.1.2.1 (by decide +kernel) ⟨(Nat.le_of_ble_eq_true rfl), (Nat.le_of_ble_eq_true rfl)⟩) (zPV w hK (px_recv (ci := 1) (fs := [.ref b]) (r := (RX1, TX1, 1)) hK w (h.1) (h.2.2.1) rfl)) rfl rfl hl.1 rfl (lv_room (Nat.le_of_ble_eq_true rfl)) dX3_change_4 ⟨(Nat.le_of_ble_eq_true rfl), (Nat.le_of_ble_eq_true rfl)⟩) (fun r_1 u H locs hq w => ?_)
  obtain ⟨rfl, e_r⟩ := hq
  subst e_r
  refine lv_iload_n hx hb dX3_change_7 rfl (lv_at hl 2 rfl) ?_
  refine lv_iload_n hx hb dX3_change_8 rfl (lv_at hl 3 rfl) ?_
  refine zCi w (va_runS (As := [.int (zTold s0 gi gf i.toNatClampNeg), .int how, .int x]) (rest := [.int i, .ref a]) ⟨hx, hb, hml, hown, hts⟩ (kX3_reckon l G _ (zTold s0 gi gf i.toNatClampNeg) how x hdv H.size) (va_cwS 3 hts gX3_change_X3_reckon rfl rfl rfl (by decide +kernel) ⟨(Nat.le_of_ble_eq_true rfl), (Nat.le_of_ble_eq_true rfl)⟩) (zPS w hK) rfl rfl hl.1 rfl (lv_room (Nat.le_of_ble_eq_true rfl)) dX3_change_9 ⟨(Nat.le_of_ble_eq_true rfl), (Nat.le_of_ble_eq_true rfl)⟩) (fun r_2 u H locs hq w => ?_)
  obtain ⟨rfl, e_r⟩ := hq
  subst e_r
  refine zCv (post := fun u => u = va_pl L (va_up f b (zCel G s0 n (zPuI s0 gi i.toNatClampNeg (zRek (zTold s0 gi gf i.toNatClampNeg) how x)) (zPuF s0 gf i.toNatClampNeg (zEi (zRek (zTold s0 gi gf i.toNatClampNeg) how x)))))) (mc := 0) (ms := 0) (rest := []) (av := (Value.ref a :: [.int i, .int (zRek (zTold s0 gi gf i.toNatClampNeg) how x)]).toArray) w (by
      rcases hs with rfl | rfl | rfl
      · exact va_runU (As := [.int i, .int (zRek (zTold 0 gi gf i.toNatClampNeg) how x)]) (rest := []) ⟨hx, hb, hml, hown, hts⟩ (kX2_put l G h i (zRek (zTold 0 gi gf i.toNatClampNeg) how x) hi H.size) (va_cwA 2 hts gX3_change_X2_put_u23X2 rfl rfl rfl hK.2.1.2.2 (by decide +kernel) ⟨(Nat.le_of_ble_eq_true rfl), (Nat.le_of_ble_eq_true rfl)⟩) (zPV w hK (px_recv (ci := 2) (fs := [.ref b]) (r := (RX2, TX2, 1)) hK w (h.1) (h.2.2.1) rfl)) rfl rfl hl.1 rfl (lv_room (Nat.le_of_ble_eq_true rfl)) dX3_change_12 ⟨(Nat.le_of_ble_eq_true rfl), (Nat.le_of_ble_eq_true rfl)⟩
      · exact va_runU (As := [.int i, .int (zRek (zTold 1 gi gf i.toNatClampNeg) how x)]) (rest := []) ⟨hx, hb, hml, hown, hts⟩ (kX5_put l G h i (zRek (zTold 1 gi gf i.toNatClampNeg) how x) hi H.size) (va_cwA 2 hts gX3_change_X5_put_u23X5 rfl rfl rfl hK.2.1.2.2 (by decide +kernel) ⟨(Nat.le_of_ble_eq_true rfl), (Nat.le_of_ble_eq_true rfl)⟩) (zPV w hK (px_recv (ci := 4) (fs := [.ref b]) (r := (RX5, TX5, 1)) hK w (h.1) (h.2.2.1) rfl)) rfl rfl hl.1 rfl (lv_room (Nat.le_of_ble_eq_true rfl)) dX3_change_12 ⟨(Nat.le_of_ble_eq_true rfl), (Nat.le_of_ble_eq_true rfl)⟩
      · exact va_runU (As := [.int i, .int (zRek (zTold 3 gi gf i.toNatClampNeg) how x)]) (rest := []) ⟨hx, hb, hml, hown, hts⟩ (kX1_put l G h i (zRek (zTold 3 gi gf i.toNatClampNeg) how x) hi H.size) (va_cwA 2 hts gX3_change_X1_put_u23X1 rfl rfl rfl hK.2.1.2.2 (by decide +kernel) ⟨(Nat.le_of_ble_eq_true rfl), (Nat.le_of_ble_eq_true rfl)⟩) (zPV w hK (px_recv (ci := 1) (fs := [.ref b]) (r := (RX1, TX1, 1)) hK w (h.1) (h.2.2.1) rfl)) rfl rfl hl.1 rfl (lv_room (Nat.le_of_ble_eq_true rfl)) dX3_change_12 ⟨(Nat.le_of_ble_eq_true rfl), (Nat.le_of_ble_eq_true rfl)⟩) (fun u H locs hq w => ?_)
  subst hq
  exact zRv hx hb hr hlk w dX3_change_15 (Nat.le_of_ble_eq_true rfl) (Nat.le_of_ble_eq_true rfl) (by rw [zChI_of (zne2 hs), zChF_of (zne2 hs), zPuF_of (zne2 hs), zPuI_of (zne2 hs)])
set_option maxHeartbeats 4000000 in
set_option maxRecDepth 100000 in
theorem kX3_stepUp (l : Launch) (G : zG) {s0 : Nat} (hs : s0 = 0 ∨ s0 = 1 ∨ s0 = 3) {L : List Nat} {f : Nat → va_E} {a b n : Nat} {gi : Nat → Int32} {gf : Nat → UInt32} (h : zReel G L f s0 a b n gi gf) (i : Int32) (hi : vp_in i n) (sz : Nat) : zMv l yX3_stepUp wsX3_stepUp { frames := 1, cells := 0, slots := 0, locals := 22 } G [.ref a, .int i] (va_pl L f) sz (fun u => u = va_pl L (va_up f b (zCel G s0 n (zSuI s0 gi gf i.toNatClampNeg) (zSuF s0 gf i.toNatClampNeg)))) 0 0 := by
  refine zIn (Qc := fun A => va_Qv _ (zB G A) A) (cc := cX3_stepUp) (maxL := 2) (ret := none) (by decide) rfl (Nat.le_of_ble_eq_true rfl) ?_
  intro p e s m below meth c A ls hx hb hr hlk hml hts hown hnm hK w hl
  have hown : s.vm.findClass RX3 = some m.cls := hown
  have hl : lv_has ls 2 [(0, .ref a), (1, .int i)] := hl
  refine lv_aload_n hx hb dX3_stepUp_0 rfl (lv_at hl 0 rfl) ?_
  refine lv_iload_n hx hb dX3_stepUp_1 rfl (lv_at hl 1 rfl) ?_
  refine lv_aload_n hx hb dX3_stepUp_2 rfl (lv_at hl 0 rfl) ?_
  refine lv_iload_n hx hb dX3_stepUp_3 rfl (lv_at hl 1 rfl) ?_
  refine zCi (post := fun r u => u = va_pl L f ∧ r = zTold s0 gi gf i.toNatClampNeg) (mc := 0) (ms := 0) (rest := [.int i, .ref a]) (av := (Value.ref a :: [.int i]).toArray) w (by
      rcases hs with rfl | rfl | rfl
      · exact va_runU (As := [.int i]) (rest := [.int i, .ref a]) ⟨hx, hb, hml, hown, hts⟩ (kX2_told l G h i hi s.heap.size) (va_cwA 1 hts gX3_stepUp_X2_told_u15X2 rfl rfl rfl hK.2.1.2.1 (by decide +kernel) ⟨(Nat.le_of_ble_eq_true rfl), (Nat.le_of_ble_eq_true rfl)⟩) (zPV w hK (px_recv (ci := 2) (fs := [.ref b]) (r := (RX2, TX2, 1)) hK w (h.1) (h.2.2.1) rfl)) rfl rfl hl.1 rfl (lv_room (Nat.le_of_ble_eq_true rfl)) dX3_stepUp_4 ⟨(Nat.le_of_ble_eq_true rfl), (Nat.le_of_ble_eq_true rfl)⟩
      · exact va_runU (As := [.int i]) (rest := [.int i, .ref a]) ⟨hx, hb, hml, hown, hts⟩ (kX5_told l G h i hi s.heap.size) (va_cwA 1 hts gX3_stepUp_X5_told_u15X5 rfl rfl rfl hK.2.1.2.1 (by decide +kernel) ⟨(Nat.le_of_ble_eq_true rfl), (Nat.le_of_ble_eq_true rfl)⟩) (zPV w hK (px_recv (ci := 4) (fs := [.ref b]) (r := (RX5, TX5, 1)) hK w (h.1) (h.2.2.1) rfl)) rfl rfl hl.1 rfl (lv_room (Nat.le_of_ble_eq_true rfl)) dX3_stepUp_4 ⟨(Nat.le_of_ble_eq_true rfl), (Nat.le_of_ble_eq_true rfl)⟩
      · exact va_runU (As := [.int i]) (rest := [.int i, .ref a]) ⟨hx, hb, hml, hown, hts⟩ (kX1_told l G h i hi s.heap.size) (va_cwA 1 hts gX3_stepUp_X1_told_u15X1 rfl rfl rfl hK.2.1.2.1 (by decide +kernel) ⟨(Nat.le_of_ble_eq_true rfl), (Nat.le_of_ble_eq_true rfl)⟩) (zPV w hK (px_recv (ci := 1) (fs := [.ref b]) (r := (RX1, TX1, 1)) hK w (h.1) (h.2.2.1) rfl)) rfl rfl hl.1 rfl (lv_room (Nat.le_of_ble_eq_true rfl)) dX3_stepUp_4 ⟨(Nat.le_of_ble_eq_true rfl), (Nat.le_of_ble_eq_true rfl)⟩) (fun r_1 u H locs hq w => ?_)
  obtain ⟨rfl, e_r⟩ := hq
  subst e_r
  refine lv_iconst (v := 1) hx hb dX3_stepUp_7 (by decide) ?_
  refine lv_iadd hx hb dX3_stepUp_8 ?_
  refine zCv (post := fun u => u = va_pl L (va_up f b (zCel G s0 n (zPuI s0 gi i.toNatClampNeg ((zTold s0 gi gf i.toNatClampNeg) + 1)) (zPuF s0 gf i.toNatClampNeg (zEi ((zTold s0 gi gf i.toNatClampNeg) + 1)))))) (mc := 0) (ms := 0) (rest := []) (av := (Value.ref a :: [.int i, .int ((zTold s0 gi gf i.toNatClampNeg) + 1)]).toArray) w (by
      rcases hs with rfl | rfl | rfl
      · exact va_runU (As := [.int i, .int ((zTold 0 gi gf i.toNatClampNeg) + 1)]) (rest := []) ⟨hx, hb, hml, hown, hts⟩ (kX2_put l G h i ((zTold 0 gi gf i.toNatClampNeg) + 1) hi H.size) (va_cwA 2 hts gX3_stepUp_X2_put_u23X2 rfl rfl rfl hK.2.1.2.2 (by decide +kernel) ⟨(Nat.le_of_ble_eq_true rfl), (Nat.le_of_ble_eq_true rfl)⟩) (zPV w hK (px_recv (ci := 2) (fs := [.ref b]) (r := (RX2, TX2, 1)) hK w (h.1) (h.2.2.1) rfl)) rfl rfl hl.1 rfl (lv_room (Nat.le_of_ble_eq_true rfl)) dX3_stepUp_9 ⟨(Nat.le_of_ble_eq_true rfl), (Nat.le_of_ble_eq_true rfl)⟩
      · exact va_runU (As := [.int i, .int ((zTold 1 gi gf i.toNatClampNeg) + 1)]) (rest := []) ⟨hx, hb, hml, hown, hts⟩ (kX5_put l G h i ((zTold 1 gi gf i.toNatClampNeg) + 1) hi H.size) (va_cwA 2 hts gX3_stepUp_X5_put_u23X5 rfl rfl rfl hK.2.1.2.2 (by decide +kernel) ⟨(Nat.le_of_ble_eq_true rfl), (Nat.le_of_ble_eq_true rfl)⟩) (zPV w hK (px_recv (ci := 4) (fs := [.ref b]) (r := (RX5, TX5, 1)) hK w (h.1) (h.2.2.1) rfl)) rfl rfl hl.1 rfl (lv_room (Nat.le_of_ble_eq_true rfl)) dX3_stepUp_9 ⟨(Nat.le_of_ble_eq_true rfl), (Nat.le_of_ble_eq_true rfl)⟩
      · exact va_runU (As := [.int i, .int ((zTold 3 gi gf i.toNatClampNeg) + 1)]) (rest := []) ⟨hx, hb, hml, hown, hts⟩ (kX1_put l G h i ((zTold 3 gi gf i.toNatClampNeg) + 1) hi H.size) (va_cwA 2 hts gX3_stepUp_X1_put_u23X1 rfl rfl rfl hK.2.1.2.2 (by decide +kernel) ⟨(Nat.le_of_ble_eq_true rfl), (Nat.le_of_ble_eq_true rfl)⟩) (zPV w hK (px_recv (ci := 1) (fs := [.ref b]) (r := (RX1, TX1, 1)) hK w (h.1) (h.2.2.1) rfl)) rfl rfl hl.1 rfl (lv_room (Nat.le_of_ble_eq_true rfl)) dX3_stepUp_9 ⟨(Nat.le_of_ble_eq_true rfl), (Nat.le_of_ble_eq_true rfl)⟩) (fun u H locs hq w => ?_)
  subst hq
  exact zRv hx hb hr hlk w dX3_stepUp_12 (Nat.le_of_ble_eq_true rfl) (Nat.le_of_ble_eq_true rfl) (by rw [zSuI_of (zne2 hs), zSuF_of (zne2 hs), zPuF_of (zne2 hs), zPuI_of (zne2 hs)])
set_option maxHeartbeats 4000000 in
set_option maxRecDepth 100000 in
theorem kX3_level (l : Launch) (G : zG) {s0 : Nat} (hs : s0 = 0 ∨ s0 = 1 ∨ s0 = 3) {L : List Nat} {f : Nat → va_E} {a b n : Nat} {gi : Nat → Int32} {gf : Nat → UInt32} (h : zReel G L f s0 a b n gi gf) (i : Int32) (hi : vp_in i n) (sz : Nat) : zMf l yX3_level wsX3_level { frames := 1, cells := 0, slots := 0, locals := 21 } G [.ref a, .int i] (va_pl L f) sz (fun r u => u = va_pl L f ∧ r = zLev s0 gi gf i.toNatClampNeg) 0 0 := by
  refine zIn (Qc := fun A => va_Qf _ (zB G A) A) (cc := cX3_level) (maxL := 2) (ret := (some .float)) (by decide) rfl (Nat.le_of_ble_eq_true rfl) ?_
  intro p e s m below meth c A ls hx hb hr hlk hml hts hown hnm hK w hl
  have hown : s.vm.findClass RX3 = some m.cls := hown
  have hl : lv_has ls 2 [(0, .ref a), (1, .int i)] := hl
  refine lv_aload_n hx hb dX3_level_0 rfl (lv_at hl 0 rfl) ?_
  refine lv_iload_n hx hb dX3_level_1 rfl (lv_at hl 1 rfl) ?_
  refine zCi (post := fun r u => u = va_pl L f ∧ r = zTold s0 gi gf i.toNatClampNeg) (mc := 0) (ms := 0) (rest := []) (av := (Value.ref a :: [.int i]).toArray) w (by
      rcases hs with rfl | rfl | rfl
      · exact va_runU (As := [.int i]) (rest := []) ⟨hx, hb, hml, hown, hts⟩ (kX2_told l G h i hi s.heap.size) (va_cwA 1 hts gX3_level_X2_told_u15X2 rfl rfl rfl hK.2.1.2.1 (by decide +kernel) ⟨(Nat.le_of_ble_eq_true rfl), (Nat.le_of_ble_eq_true rfl)⟩) (zPV w hK (px_recv (ci := 2) (fs := [.ref b]) (r := (RX2, TX2, 1)) hK w (h.1) (h.2.2.1) rfl)) rfl rfl hl.1 rfl (lv_room (Nat.le_of_ble_eq_true rfl)) dX3_level_2 ⟨(Nat.le_of_ble_eq_true rfl), (Nat.le_of_ble_eq_true rfl)⟩
      · exact va_runU (As := [.int i]) (rest := []) ⟨hx, hb, hml, hown, hts⟩ (kX5_told l G h i hi s.heap.size) (va_cwA 1 hts gX3_level_X5_told_u15X5 rfl rfl rfl hK.2.1.2.1 (by decide +kernel) ⟨(Nat.le_of_ble_eq_true rfl), (Nat.le_of_ble_eq_true rfl)⟩) (zPV w hK (px_recv (ci := 4) (fs := [.ref b]) (r := (RX5, TX5, 1)) hK w (h.1) (h.2.2.1) rfl)) rfl rfl hl.1 rfl (lv_room (Nat.le_of_ble_eq_true rfl)) dX3_level_2 ⟨(Nat.le_of_ble_eq_true rfl), (Nat.le_of_ble_eq_true rfl)⟩
      · exact va_runU (As := [.int i]) (rest := []) ⟨hx, hb, hml, hown, hts⟩ (kX1_told l G h i hi s.heap.size) (va_cwA 1 hts gX3_level_X1_told_u15X1 rfl rfl rfl hK.2.1.2.1 (by decide +kernel) ⟨(Nat.le_of_ble_eq_true rfl), (Nat.le_of_ble_eq_true rfl)⟩) (zPV w hK (px_recv (ci := 1) (fs := [.ref b]) (r := (RX1, TX1, 1)) hK w (h.1) (h.2.2.1) rfl)) rfl rfl hl.1 rfl (lv_room (Nat.le_of_ble_eq_true rfl)) dX3_level_2 ⟨(Nat.le_of_ble_eq_true rfl), (Nat.le_of_ble_eq_true rfl)⟩) (fun r_1 u H locs hq w => ?_)
  obtain ⟨rfl, e_r⟩ := hq
  subst e_r
  refine lv_i2f hx hb dX3_level_5 ?_
  exact zRf hx hb hr hlk w dX3_level_6 (Nat.le_of_ble_eq_true rfl) (Nat.le_of_ble_eq_true rfl) ⟨rfl, (zLev_of (zne2 hs)).symm⟩
set_option maxHeartbeats 4000000 in
set_option maxRecDepth 100000 in
theorem kX3_putLevel (l : Launch) (G : zG) {s0 : Nat} (hs : s0 = 0 ∨ s0 = 1 ∨ s0 = 3) {L : List Nat} {f : Nat → va_E} {a b n : Nat} {gi : Nat → Int32} {gf : Nat → UInt32} (h : zReel G L f s0 a b n gi gf) (i : Int32) (v : UInt32) (hi : vp_in i n) (sz : Nat) : zMv l yX3_putLevel wsX3_putLevel { frames := 1, cells := 0, slots := 0, locals := 22 } G [.ref a, .int i, .float v] (va_pl L f) sz (fun u => u = va_pl L (va_up f b (zCel G s0 n (zPlI s0 gi i.toNatClampNeg v) (zPuF s0 gf i.toNatClampNeg v)))) 0 0 := by
  refine zIn (Qc := fun A => va_Qv _ (zB G A) A) (cc := cX3_putLevel) (maxL := 3) (ret := none) (by decide) rfl (Nat.le_of_ble_eq_true rfl) ?_
  intro p e s m below meth c A ls hx hb hr hlk hml hts hown hnm hK w hl
  have hown : s.vm.findClass RX3 = some m.cls := hown
  have hl : lv_has ls 3 [(0, .ref a), (1, .int i), (2, .float v)] := hl
  refine lv_aload_n hx hb dX3_putLevel_0 rfl (lv_at hl 0 rfl) ?_
  refine lv_iload_n hx hb dX3_putLevel_1 rfl (lv_at hl 1 rfl) ?_
  refine lv_fload_n hx hb dX3_putLevel_2 rfl (lv_at hl 2 rfl) ?_
  refine lv_f2i hx hb dX3_putLevel_3 ?_
  refine zCv (post := fun u => u = va_pl L (va_up f b (zCel G s0 n (zPuI s0 gi i.toNatClampNeg (FP.f2i v)) (zPuF s0 gf i.toNatClampNeg (zEi (FP.f2i v)))))) (mc := 0) (ms := 0) (rest := []) (av := (Value.ref a :: [.int i, .int (FP.f2i v)]).toArray) w (by
      rcases hs with rfl | rfl | rfl
      · exact va_runU (As := [.int i, .int (FP.f2i v)]) (rest := []) ⟨hx, hb, hml, hown, hts⟩ (kX2_put l G h i (FP.f2i v) hi s.heap.size) (va_cwA 2 hts gX3_putLevel_X2_put_u23X2 rfl rfl rfl hK.2.1.2.2 (by decide +kernel) ⟨(Nat.le_of_ble_eq_true rfl), (Nat.le_of_ble_eq_true rfl)⟩) (zPV w hK (px_recv (ci := 2) (fs := [.ref b]) (r := (RX2, TX2, 1)) hK w (h.1) (h.2.2.1) rfl)) rfl rfl hl.1 rfl (lv_room (Nat.le_of_ble_eq_true rfl)) dX3_putLevel_4 ⟨(Nat.le_of_ble_eq_true rfl), (Nat.le_of_ble_eq_true rfl)⟩
      · exact va_runU (As := [.int i, .int (FP.f2i v)]) (rest := []) ⟨hx, hb, hml, hown, hts⟩ (kX5_put l G h i (FP.f2i v) hi s.heap.size) (va_cwA 2 hts gX3_putLevel_X5_put_u23X5 rfl rfl rfl hK.2.1.2.2 (by decide +kernel) ⟨(Nat.le_of_ble_eq_true rfl), (Nat.le_of_ble_eq_true rfl)⟩) (zPV w hK (px_recv (ci := 4) (fs := [.ref b]) (r := (RX5, TX5, 1)) hK w (h.1) (h.2.2.1) rfl)) rfl rfl hl.1 rfl (lv_room (Nat.le_of_ble_eq_true rfl)) dX3_putLevel_4 ⟨(Nat.le_of_ble_eq_true rfl), (Nat.le_of_ble_eq_true rfl)⟩
      · exact va_runU (As := [.int i, .int (FP.f2i v)]) (rest := []) ⟨hx, hb, hml, hown, hts⟩ (kX1_put l G h i (FP.f2i v) hi s.heap.size) (va_cwA 2 hts gX3_putLevel_X1_put_u23X1 rfl rfl rfl hK.2.1.2.2 (by decide +kernel) ⟨(Nat.le_of_ble_eq_true rfl), (Nat.le_of_ble_eq_true rfl)⟩) (zPV w hK (px_recv (ci := 1) (fs := [.ref b]) (r := (RX1, TX1, 1)) hK w (h.1) (h.2.2.1) rfl)) rfl rfl hl.1 rfl (lv_room (Nat.le_of_ble_eq_true rfl)) dX3_putLevel_4 ⟨(Nat.le_of_ble_eq_true rfl), (Nat.le_of_ble_eq_true rfl)⟩) (fun u H locs hq w => ?_)
  subst hq
  exact zRv hx hb hr hlk w dX3_putLevel_7 (Nat.le_of_ble_eq_true rfl) (Nat.le_of_ble_eq_true rfl) (by rw [zPlI_of (zne2 hs), zPuF_of (zne2 hs), zPuF_of (zne2 hs), zPuI_of (zne2 hs)])
