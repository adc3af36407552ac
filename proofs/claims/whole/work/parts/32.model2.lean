theorem mFM_2 {M : Nat → Nat → Int32} {t x : Int32} {k : Nat} : mFM M t k x 2 = M 2 := by
  unfold mFM
  split
  · exact va_up_ne _ _ (by decide)
  · rfl
theorem mta_in {what : Int32} (h1 : ¬ what ≤ 0) (h2 : ¬ 8 ≤ what) : vp_in what 8 := by
  rw [vp_in_iff]
  rw [Int32.le_iff_toInt_le] at h1 h2
  have e2 : (8 : Int32).toInt = 8 := by decide
  rw [Int32.toInt_zero] at h1
  omega
theorem mnt_of {M : Nat → Nat → Int32} {lev : Nat → UInt32} {y k : Int32} (hI : mI M lev) (hc : ¬ M 9 0 = -1) (h : (¬ y < 0 ∧ ¬ M 9 0 ≤ y) ∧ ¬ k < 0 ∧ k < M 9 1) : ∃ a b R C : Nat, a < R ∧ b < C ∧ R ≤ 12 ∧ C ≤ 12 ∧ y = nI a ∧ k = nI b ∧ M 9 0 = nI R ∧ M 9 1 = nI C ∧ mwx y k = 12 * a + b := by
  obtain ⟨⟨h1, h2⟩, h3, h4⟩ := h
  rcases hI.2.2.2.2.2.1 with q | ⟨R, hR, eR⟩
  · exact absurd q hc
  · obtain ⟨C, hC, eC⟩ := hI.2.2.2.2.2.2
    obtain ⟨a, ha, ea⟩ := nI_of h1
    obtain ⟨b, hb, eb⟩ := nI_of h3
    rw [eR, ea] at h2
    rw [eC, eb] at h4
    have l1 : a < R := by
      rcases Nat.lt_or_ge a R with q | q
      · exact q
      · exact absurd (nI_le q ha) h2
    have l2 := (nI_ltI hb (by omega)).mp h4
    refine ⟨a, b, R, C, l1, l2, hR, hC, ea, eb, eR, eC, ?_⟩
    unfold mwx
    rw [ea, eb, show (12 : Int32) = nI 12 from rfl, pk_mul, nI_add, nI_clamp (by omega)]
theorem mnt_in {M : Nat → Nat → Int32} {lev : Nat → UInt32} {y k : Int32} (hI : mI M lev) (hc : ¬ M 9 0 = -1) (h : (¬ y < 0 ∧ ¬ M 9 0 ≤ y) ∧ ¬ k < 0 ∧ k < M 9 1) : vp_in (12 * y + k) 144 := by
  obtain ⟨a, b, R, C, l1, l2, hR, hC, ea, eb, -, -, -⟩ := mnt_of hI hc h
  rw [ea, eb, show (12 : Int32) = nI 12 from rfl, pk_mul, nI_add]
  exact vp_in_nI (by omega) (by decide)
set_option maxHeartbeats 4000000 in
set_option maxRecDepth 100000 in
theorem kX7_tick (l : Launch) (G : zG) (ad : Nat → Nat) {M : Nat → Nat → Int32} {lev : Nat → UInt32} (hI : mI M lev) (d t i ahead : Int32) (sz : Nat) : zMl l yX7_tick wsX7_tick { frames := 2, cells := 0, slots := 0, locals := 45 } G [.ref (ad 0), .int d, .int t, .int i, .int ahead] (mW G ad M lev) sz (fun r u => if zFour d ∧ zFour t ∧ ¬ t = 3 then (if (mAg M (M 0 (mix d t)) i) = 0 then (if t = 2 then (u = mW G ad M (vf_upd lev (mat (M 0 (mix d t)) i) (zHe (FP.fadd (lev (mat (M 0 (mix d t)) i)) FP.fconst1))) ∧ r = if ahead = 0 then (mTo M lev t (mat (M 0 (mix d t)) i)).toInt64 else (mTo M (vf_upd lev (mat (M 0 (mix d t)) i) (zHe (FP.fadd (lev (mat (M 0 (mix d t)) i)) FP.fconst1))) t (mat (M 0 (mix d t)) i)).toInt64) else (u = mW G ad (mFM M t (mat (M 0 (mix d t)) i) (M 4 (mat (M 0 (mix d t)) i) + 1)) (mFL lev t (mat (M 0 (mix d t)) i) (zEi (M 4 (mat (M 0 (mix d t)) i) + 1))) ∧ r = if ahead = 0 then (mTo M lev t (mat (M 0 (mix d t)) i)).toInt64 else (mTo (mFM M t (mat (M 0 (mix d t)) i) (M 4 (mat (M 0 (mix d t)) i) + 1)) (mFL lev t (mat (M 0 (mix d t)) i) (zEi (M 4 (mat (M 0 (mix d t)) i) + 1))) t (mat (M 0 (mix d t)) i)).toInt64)) else mRefP G ad M lev (mAg M (M 0 (mix d t)) i) r u) else mRefP G ad M lev zNONE r u) 0 0 := by
  refine zIn (Qc := fun A => va_Ql _ (zB G A) A) (cc := cX7_tick) (maxL := 11) (ret := (some .long)) (by decide) rfl (Nat.le_of_ble_eq_true rfl) ?_
  intro p e s m below meth c A ls hx hb hr hlk hml hts hown hnm hK w hl
  have hown : s.vm.findClass RX7 = some m.cls := hown
  have hl : lv_has ls 11 [(0, .ref (ad 0)), (1, .int d), (2, .int t), (3, .int i), (4, .int ahead)] := hl
  refine lv_iload_n hx hb dX7_tick_0 rfl (lv_at hl 1 rfl) ?_
  refine zCi w (va_runS (As := [.int d]) (rest := []) ⟨hx, hb, hml, hown, hts⟩ (kX7_isFour l G _ d s.heap.size) (va_cwS 1 hts gX7_tick_X7_isFour rfl rfl rfl (by decide +kernel) ⟨(Nat.le_of_ble_eq_true rfl), (Nat.le_of_ble_eq_true rfl)⟩) (zPS w hK) rfl rfl hl.1 rfl (lv_room (Nat.le_of_ble_eq_true rfl)) dX7_tick_1 ⟨(Nat.le_of_ble_eq_true rfl), (Nat.le_of_ble_eq_true rfl)⟩) (fun r_1 u H locs hq w => ?_)
  obtain ⟨rfl, e_r_1⟩ := hq
  refine lv_if_eq (tgt := 19) hx hb dX7_tick_4 (by decide) (fun c_2 => ?_) (fun c_2 => ?_)
  · have p_d := z00 inferInstance e_r_1 c_2
    refine lv_aload_n hx hb dX7_tick_19 rfl (lv_at hl 0 rfl) ?_
    refine lv_ldc2 hx hb hown (hts (.constantLong RX7 59 (1099511627776)) (by decide +kernel)) dX7_tick_20 ?_
    refine zCl w (va_runV (As := [.long 1099511627776]) (rest := []) ⟨hx, hb, hml, hown, hts⟩ (kX7_refuse l G ad zNONE zW1 H.size) (cwV 1 hts gX7_tick_X7_refuse rfl rfl rfl (by decide +kernel) ⟨(Nat.le_of_ble_eq_true rfl), (Nat.le_of_ble_eq_true rfl)⟩) (zPV w hK (va_recv hK.1 w.1 (ci := 6) (q0 := 0) rfl rfl)) rfl rfl hl.1 rfl (lv_room (Nat.le_of_ble_eq_true rfl)) dX7_tick_23 ⟨(Nat.le_of_ble_eq_true rfl), (Nat.le_of_ble_eq_true rfl)⟩) (fun r_3 u H locs hq w => ?_)
    obtain ⟨rfl, e_r⟩ := hq
    subst e_r
    exact zRl hx hb hr hlk w dX7_tick_26 (Nat.le_of_ble_eq_true rfl) (Nat.le_of_ble_eq_true rfl) (by show (if _ then _ else _); rw [if_neg (fun q => p_d q.1)]; exact ⟨rfl, rfl⟩)
  · have p_d := z01 inferInstance e_r_1 c_2
    refine lv_iload_n hx hb dX7_tick_7 rfl (lv_at hl 2 rfl) ?_
    refine zCi w (va_runS (As := [.int t]) (rest := []) ⟨hx, hb, hml, hown, hts⟩ (kX7_isFour l G _ t H.size) (va_cwS 1 hts gX7_tick_X7_isFour rfl rfl rfl (by decide +kernel) ⟨(Nat.le_of_ble_eq_true rfl), (Nat.le_of_ble_eq_true rfl)⟩) (zPS w hK) rfl rfl hl.1 rfl (lv_room (Nat.le_of_ble_eq_true rfl)) dX7_tick_8 ⟨(Nat.le_of_ble_eq_true rfl), (Nat.le_of_ble_eq_true rfl)⟩) (fun r_4 u H locs hq w => ?_)
    obtain ⟨rfl, e_r_4⟩ := hq
    refine lv_if_eq (tgt := 19) hx hb dX7_tick_11 (by decide) (fun c_5 => ?_) (fun c_5 => ?_)
    · have p_t := z00 inferInstance e_r_4 c_5
      refine lv_aload_n hx hb dX7_tick_19 rfl (lv_at hl 0 rfl) ?_
      refine lv_ldc2 hx hb hown (hts (.constantLong RX7 59 (1099511627776)) (by decide +kernel)) dX7_tick_20 ?_
      refine zCl w (va_runV (As := [.long 1099511627776]) (rest := []) ⟨hx, hb, hml, hown, hts⟩ (kX7_refuse l G ad zNONE zW1 H.size) (cwV 1 hts gX7_tick_X7_refuse rfl rfl rfl (by decide +kernel) ⟨(Nat.le_of_ble_eq_true rfl), (Nat.le_of_ble_eq_true rfl)⟩) (zPV w hK (va_recv hK.1 w.1 (ci := 6) (q0 := 0) rfl rfl)) rfl rfl hl.1 rfl (lv_room (Nat.le_of_ble_eq_true rfl)) dX7_tick_23 ⟨(Nat.le_of_ble_eq_true rfl), (Nat.le_of_ble_eq_true rfl)⟩) (fun r_6 u H locs hq w => ?_)
      obtain ⟨rfl, e_r⟩ := hq
      subst e_r
      exact zRl hx hb hr hlk w dX7_tick_26 (Nat.le_of_ble_eq_true rfl) (Nat.le_of_ble_eq_true rfl) (by show (if _ then _ else _); rw [if_neg (fun q => p_t q.2.1)]; exact ⟨rfl, rfl⟩)
    · have p_t := z01 inferInstance e_r_4 c_5
      refine lv_iload_n hx hb dX7_tick_14 rfl (lv_at hl 2 rfl) ?_
      refine lv_iconst (v := 3) hx hb dX7_tick_15 (by decide) ?_
      refine lv_icmp_ne (tgt := 27) hx hb dX7_tick_16 (by decide) (fun c_7 => ?_) (fun c_7 => ?_)
      · have p_3 := c_7
        refine lv_aload_n hx hb dX7_tick_27 rfl (lv_at hl 0 rfl) ?_
        refine zget (ci := 6) (C := RX7) (T := TX7) (N := 11) hx hb hts hown hK w (by decide +kernel) 0 rfl rfl 0 (by decide) (hts (.fieldLink RX7 7 "ReelBarnModel" "carried" "[I") (by decide +kernel)) (fun _ h9 => h9) rfl dX7_tick_28 ?_
        refine lv_iconst (v := 4) hx hb dX7_tick_31 (by decide) ?_
        refine lv_iload_n hx hb dX7_tick_32 rfl (lv_at hl 1 rfl) ?_
        refine lv_imul hx hb dX7_tick_33 ?_
        refine lv_iload_n hx hb dX7_tick_34 rfl (lv_at hl 2 rfl) ?_
        refine lv_iadd hx hb dX7_tick_35 ?_
        refine zm_iald hx hb hK w 1 rfl (mix_in p_d p_t) dX7_tick_36 ?_
        refine lv_istore (lv' := [(5, .int (M 0 (((4 * d) + t).toNatClampNeg))), (0, .ref (ad 0)), (1, .int d), (2, .int t), (3, .int i), (4, .int ahead)]) hx hb dX7_tick_37 hl (by decide) rfl (fun ls hl => ?_)
        refine lv_aload_n hx hb dX7_tick_39 rfl (lv_at hl 1 rfl) ?_
        refine lv_iload hx hb dX7_tick_40 (lv_at hl 0 rfl) ?_
        refine lv_iload_n hx hb dX7_tick_42 rfl (lv_at hl 4 rfl) ?_
        refine zCl w (va_runV (As := [.int (M 0 (((4 * d) + t).toNatClampNeg)), .int i]) (rest := []) ⟨hx, hb, hml, hown, hts⟩ (kX7_against l G ad hI (M 0 (mix d t)) i (hI.1 _ (mix_lt p_d p_t)) H.size) (cwV 2 hts gX7_tick_X7_against rfl rfl rfl (by decide +kernel) ⟨(Nat.le_of_ble_eq_true rfl), (Nat.le_of_ble_eq_true rfl)⟩) (zPV w hK (va_recv hK.1 w.1 (ci := 6) (q0 := 0) rfl rfl)) rfl rfl hl.1 rfl (lv_room (Nat.le_of_ble_eq_true rfl)) dX7_tick_43 ⟨(Nat.le_of_ble_eq_true rfl), (Nat.le_of_ble_eq_true rfl)⟩) (fun r_8 u H locs hq w => ?_)
        obtain ⟨rfl, e_r⟩ := hq
        subst e_r
        refine lv_lstore (lv' := [(6, .long (mAg M (M 0 (mix d t)) i)), (5, .int (M 0 (((4 * d) + t).toNatClampNeg))), (0, .ref (ad 0)), (1, .int d), (2, .int t), (3, .int i), (4, .int ahead)]) hx hb dX7_tick_46 hl (by decide) rfl (fun ls hl => ?_)
        refine lv_lload hx hb dX7_tick_48 (lv_at hl 0 rfl) ?_
        refine lv_lconst (v := 0) hx hb dX7_tick_50 (by decide) ?_
        refine W.lcmp hx hb dX7_tick_51 ?_
        refine lv_if_eq (tgt := 62) hx hb dX7_tick_52 (by decide) (fun c_9 => ?_) (fun c_9 => ?_)
        · have p_f := zcmp0 c_9
          obtain ⟨hv, hhs⟩ := mAg_0 p_f
          have hmP := hI.1 _ (mix_lt p_d p_t)
          have hat := mat_in hI hmP hv hhs
          have hfl := hI.2.2.2.2.1 _ (zin_lt hat)
          refine lv_aload_n hx hb dX7_tick_62 rfl (lv_at hl 2 rfl) ?_
          refine lv_iload_n hx hb dX7_tick_63 rfl (lv_at hl 4 rfl) ?_
          refine lv_iload hx hb dX7_tick_64 (lv_at hl 1 rfl) ?_
          refine lv_iload_n hx hb dX7_tick_66 rfl (lv_at hl 5 rfl) ?_
          refine zCl w (va_runV (As := [.int t, .int (M 0 (((4 * d) + t).toNatClampNeg)), .int i]) (rest := []) ⟨hx, hb, hml, hown, hts⟩ (kX7_told l G ad t (M 0 (mix d t)) i hat hfl H.size) (cwV 3 hts gX7_tick_X7_told rfl rfl rfl (by decide +kernel) ⟨(Nat.le_of_ble_eq_true rfl), (Nat.le_of_ble_eq_true rfl)⟩) (zPV w hK (va_recv hK.1 w.1 (ci := 6) (q0 := 0) rfl rfl)) rfl rfl hl.1 rfl (lv_room (Nat.le_of_ble_eq_true rfl)) dX7_tick_67 ⟨(Nat.le_of_ble_eq_true rfl), (Nat.le_of_ble_eq_true rfl)⟩) (fun r_10 u H locs hq w => ?_)
          obtain ⟨rfl, e_r⟩ := hq
          subst e_r
          refine lv_lstore (lv' := [(8, .long (mTo M lev t (mat (M 0 (mix d t)) i)).toInt64), (6, .long (mAg M (M 0 (mix d t)) i)), (5, .int (M 0 (((4 * d) + t).toNatClampNeg))), (0, .ref (ad 0)), (1, .int d), (2, .int t), (3, .int i), (4, .int ahead)]) hx hb dX7_tick_70 hl (by decide) rfl (fun ls hl => ?_)
          refine lv_bipush (v := 40) hx hb dX7_tick_72 (by decide) ?_
          refine lv_iload hx hb dX7_tick_74 (lv_at hl 2 rfl) ?_
          refine lv_imul hx hb dX7_tick_76 ?_
          refine lv_iload_n hx hb dX7_tick_77 rfl (lv_at hl 6 rfl) ?_
          refine lv_iadd hx hb dX7_tick_78 ?_
          refine lv_istore (lv' := [(10, .int ((40 * (M 0 (((4 * d) + t).toNatClampNeg))) + i)), (8, .long (mTo M lev t (mat (M 0 (mix d t)) i)).toInt64), (6, .long (mAg M (M 0 (mix d t)) i)), (5, .int (M 0 (((4 * d) + t).toNatClampNeg))), (0, .ref (ad 0)), (1, .int d), (2, .int t), (3, .int i), (4, .int ahead)]) hx hb dX7_tick_79 hl (by decide) rfl (fun ls hl => ?_)
          refine lv_iload_n hx hb dX7_tick_81 rfl (lv_at hl 6 rfl) ?_
          refine lv_iconst (v := 2) hx hb dX7_tick_82 (by decide) ?_
          refine lv_icmp_ne (tgt := 108) hx hb dX7_tick_83 (by decide) (fun c_11 => ?_) (fun c_11 => ?_)
          · have p_2 := c_11
            refine lv_aload_n hx hb dX7_tick_108 rfl (lv_at hl 4 rfl) ?_
            refine lv_iload_n hx hb dX7_tick_109 rfl (lv_at hl 6 rfl) ?_
            refine lv_iload hx hb dX7_tick_110 (lv_at hl 3 rfl) ?_
            refine lv_iload_n hx hb dX7_tick_112 rfl (lv_at hl 7 rfl) ?_
            refine lv_aload_n hx hb dX7_tick_113 rfl (lv_at hl 4 rfl) ?_
            refine zget (ci := 6) (C := RX7) (T := TX7) (N := 11) hx hb hts hown hK w (by decide +kernel) 0 rfl rfl 4 (by decide) (hts (.fieldLink RX7 22 "ReelBarnModel" "whole" "[I") (by decide +kernel)) (fun _ h9 => h9) rfl dX7_tick_114 ?_
            refine lv_iload hx hb dX7_tick_117 (lv_at hl 0 rfl) ?_
            refine zm_iald hx hb hK w 5 rfl hat dX7_tick_119 ?_
            refine lv_iconst (v := 1) hx hb dX7_tick_120 (by decide) ?_
            refine lv_iadd hx hb dX7_tick_121 ?_
            refine zCv w (va_runV (As := [.int t, .int (M 0 (((4 * d) + t).toNatClampNeg)), .int i, .int ((M 4 (((40 * (M 0 (((4 * d) + t).toNatClampNeg))) + i).toNatClampNeg)) + 1)]) (rest := []) ⟨hx, hb, hml, hown, hts⟩ (kX7_fill l G ad t (M 0 (mix d t)) i ((M 4 (((40 * (M 0 (((4 * d) + t).toNatClampNeg))) + i).toNatClampNeg)) + 1) hat H.size) (cwV 4 hts gX7_tick_X7_fill rfl rfl rfl (by decide +kernel) ⟨(Nat.le_of_ble_eq_true rfl), (Nat.le_of_ble_eq_true rfl)⟩) (zPV w hK (va_recv hK.1 w.1 (ci := 6) (q0 := 0) rfl rfl)) rfl rfl hl.1 rfl (lv_room (Nat.le_of_ble_eq_true rfl)) dX7_tick_122 ⟨(Nat.le_of_ble_eq_true rfl), (Nat.le_of_ble_eq_true rfl)⟩) (fun u H locs hq w => ?_)
            subst hq
            refine lv_iload hx hb dX7_tick_125 (lv_at hl 8 rfl) ?_
            refine lv_if_eq (tgt := 141) hx hb dX7_tick_127 (by decide) (fun c_12 => ?_) (fun c_12 => ?_)
            · have p_a := c_12
              refine lv_lload hx hb dX7_tick_141 (lv_at hl 1 rfl) ?_
              exact zRl hx hb hr hlk w dX7_tick_143 (Nat.le_of_ble_eq_true rfl) (Nat.le_of_ble_eq_true rfl) (by show (if _ then _ else _); rw [if_pos ⟨p_d, p_t, p_3⟩]; (first | rw [if_pos p_f] | rw [if_neg p_f]); (first | rw [if_pos p_2] | rw [if_neg p_2]); (first | exact ⟨rfl, rfl⟩ | exact ⟨rfl, by (first | rw [if_pos p_a] | rw [if_neg p_a])⟩))
            · have p_a := c_12
              refine lv_aload_n hx hb dX7_tick_130 rfl (lv_at hl 4 rfl) ?_
              refine lv_iload_n hx hb dX7_tick_131 rfl (lv_at hl 6 rfl) ?_
              refine lv_iload hx hb dX7_tick_132 (lv_at hl 3 rfl) ?_
              refine lv_iload_n hx hb dX7_tick_134 rfl (lv_at hl 7 rfl) ?_
              refine zCl w (va_runV (As := [.int t, .int (M 0 (((4 * d) + t).toNatClampNeg)), .int i]) (rest := []) ⟨hx, hb, hml, hown, hts⟩ (kX7_told (M := (mFM M t (mat (M 0 (mix d t)) i) ((M 4 (((40 * (M 0 (((4 * d) + t).toNatClampNeg))) + i).toNatClampNeg)) + 1))) (lev := (mFL lev t (mat (M 0 (mix d t)) i) (zEi ((M 4 (((40 * (M 0 (((4 * d) + t).toNatClampNeg))) + i).toNatClampNeg)) + 1)))) l G ad t (M 0 (mix d t)) i hat (mFL_fin hfl (zn32 (zEi_fin _).notNaN)) H.size) (cwV 3 hts gX7_tick_X7_told rfl rfl rfl (by decide +kernel) ⟨(Nat.le_of_ble_eq_true rfl), (Nat.le_of_ble_eq_true rfl)⟩) (zPV w hK (va_recv hK.1 w.1 (ci := 6) (q0 := 0) rfl rfl)) rfl rfl hl.1 rfl (lv_room (Nat.le_of_ble_eq_true rfl)) dX7_tick_135 ⟨(Nat.le_of_ble_eq_true rfl), (Nat.le_of_ble_eq_true rfl)⟩) (fun r_13 u H locs hq w => ?_)
              obtain ⟨rfl, e_r⟩ := hq
              subst e_r
              refine lv_goto (tgt := 143) hx hb dX7_tick_138 (by decide) ?_
              exact zRl hx hb hr hlk w dX7_tick_143 (Nat.le_of_ble_eq_true rfl) (Nat.le_of_ble_eq_true rfl) (by show (if _ then _ else _); rw [if_pos ⟨p_d, p_t, p_3⟩]; (first | rw [if_pos p_f] | rw [if_neg p_f]); (first | rw [if_pos p_2] | rw [if_neg p_2]); (first | exact ⟨rfl, rfl⟩ | exact ⟨rfl, by (first | rw [if_pos p_a] | rw [if_neg p_a])⟩))
          · have p_2 := c_11
            refine lv_aload_n hx hb dX7_tick_86 rfl (lv_at hl 4 rfl) ?_
            refine zget (ci := 6) (C := RX7) (T := TX7) (N := 11) hx hb hts hown hK w (by decide +kernel) 0 rfl rfl 5 (by decide) (hts (.fieldLink RX7 25 "ReelBarnModel" "level" "[F") (by decide +kernel)) (fun _ h9 => h9) rfl dX7_tick_87 ?_
            refine lv_iload hx hb dX7_tick_90 (lv_at hl 0 rfl) ?_
            refine lv_aload_n hx hb dX7_tick_92 rfl (lv_at hl 4 rfl) ?_
            refine zget (ci := 6) (C := RX7) (T := TX7) (N := 11) hx hb hts hown hK w (by decide +kernel) 0 rfl rfl 5 (by decide) (hts (.fieldLink RX7 25 "ReelBarnModel" "level" "[F") (by decide +kernel)) (fun _ h9 => h9) rfl dX7_tick_93 ?_
            refine lv_iload hx hb dX7_tick_96 (lv_at hl 0 rfl) ?_
            refine zm_fald hx hb hK w 6 rfl hat dX7_tick_98 ?_
            refine lv_fconst1 hx hb dX7_tick_99 ?_
            refine lv_fadd hx hb dX7_tick_100 (zadd hfl zfin1) ?_
            refine zCf w (va_runS (As := [.float (FP.fadd (lev (((40 * (M 0 (((4 * d) + t).toNatClampNeg))) + i).toNatClampNeg)) FP.fconst1)]) (rest := [.int ((40 * (M 0 (((4 * d) + t).toNatClampNeg))) + i), .ref (ad 6)]) ⟨hx, hb, hml, hown, hts⟩ (kX7_held l G _ (FP.fadd (lev (((40 * (M 0 (((4 * d) + t).toNatClampNeg))) + i).toNatClampNeg)) FP.fconst1) H.size) (va_cwS 1 hts gX7_tick_X7_held rfl rfl rfl (by decide +kernel) ⟨(Nat.le_of_ble_eq_true rfl), (Nat.le_of_ble_eq_true rfl)⟩) (zPS w hK) rfl rfl hl.1 rfl (lv_room (Nat.le_of_ble_eq_true rfl)) dX7_tick_101 ⟨(Nat.le_of_ble_eq_true rfl), (Nat.le_of_ble_eq_true rfl)⟩) (fun r_14 u H locs hq w => ?_)
            obtain ⟨rfl, e_r⟩ := hq
            subst e_r
            refine zm_fast hx hb hK w 6 rfl hat dX7_tick_104 (fun H locs w => ?_)
            have w : zW G A s H locs (mW G ad M (vf_upd lev (((40 * (M 0 (((4 * d) + t).toNatClampNeg))) + i).toNatClampNeg) (zHe (FP.fadd (lev (((40 * (M 0 (((4 * d) + t).toNatClampNeg))) + i).toNatClampNeg)) FP.fconst1)))) := w
            refine lv_goto (tgt := 125) hx hb dX7_tick_105 (by decide) ?_
            refine lv_iload hx hb dX7_tick_125 (lv_at hl 8 rfl) ?_
            refine lv_if_eq (tgt := 141) hx hb dX7_tick_127 (by decide) (fun c_15 => ?_) (fun c_15 => ?_)
            · have p_a := c_15
              refine lv_lload hx hb dX7_tick_141 (lv_at hl 1 rfl) ?_
              exact zRl hx hb hr hlk w dX7_tick_143 (Nat.le_of_ble_eq_true rfl) (Nat.le_of_ble_eq_true rfl) (by show (if _ then _ else _); rw [if_pos ⟨p_d, p_t, p_3⟩]; (first | rw [if_pos p_f] | rw [if_neg p_f]); (first | rw [if_pos p_2] | rw [if_neg p_2]); (first | exact ⟨rfl, rfl⟩ | exact ⟨rfl, by (first | rw [if_pos p_a] | rw [if_neg p_a])⟩))
            · have p_a := c_15
              refine lv_aload_n hx hb dX7_tick_130 rfl (lv_at hl 4 rfl) ?_
              refine lv_iload_n hx hb dX7_tick_131 rfl (lv_at hl 6 rfl) ?_
              refine lv_iload hx hb dX7_tick_132 (lv_at hl 3 rfl) ?_
              refine lv_iload_n hx hb dX7_tick_134 rfl (lv_at hl 7 rfl) ?_
              refine zCl w (va_runV (As := [.int t, .int (M 0 (((4 * d) + t).toNatClampNeg)), .int i]) (rest := []) ⟨hx, hb, hml, hown, hts⟩ (kX7_told (M := M) (lev := (vf_upd lev (((40 * (M 0 (((4 * d) + t).toNatClampNeg))) + i).toNatClampNeg) (zHe (FP.fadd (lev (((40 * (M 0 (((4 * d) + t).toNatClampNeg))) + i).toNatClampNeg)) FP.fconst1)))) l G ad t (M 0 (mix d t)) i hat ((by show zFin (vf_upd lev _ _ _); unfold vf_upd; rw [if_pos rfl]; exact zHe_fin (zadd hfl zfin1))) H.size) (cwV 3 hts gX7_tick_X7_told rfl rfl rfl (by decide +kernel) ⟨(Nat.le_of_ble_eq_true rfl), (Nat.le_of_ble_eq_true rfl)⟩) (zPV w hK (va_recv hK.1 w.1 (ci := 6) (q0 := 0) rfl rfl)) rfl rfl hl.1 rfl (lv_room (Nat.le_of_ble_eq_true rfl)) dX7_tick_135 ⟨(Nat.le_of_ble_eq_true rfl), (Nat.le_of_ble_eq_true rfl)⟩) (fun r_16 u H locs hq w => ?_)
              obtain ⟨rfl, e_r⟩ := hq
              subst e_r
              refine lv_goto (tgt := 143) hx hb dX7_tick_138 (by decide) ?_
              exact zRl hx hb hr hlk w dX7_tick_143 (Nat.le_of_ble_eq_true rfl) (Nat.le_of_ble_eq_true rfl) (by show (if _ then _ else _); rw [if_pos ⟨p_d, p_t, p_3⟩]; (first | rw [if_pos p_f] | rw [if_neg p_f]); (first | rw [if_pos p_2] | rw [if_neg p_2]); (first | exact ⟨rfl, rfl⟩ | exact ⟨rfl, by (first | rw [if_pos p_a] | rw [if_neg p_a])⟩))
        · have p_f := zcmp1 c_9
          refine lv_aload_n hx hb dX7_tick_55 rfl (lv_at hl 2 rfl) ?_
          refine lv_lload hx hb dX7_tick_56 (lv_at hl 0 rfl) ?_
          refine zCl w (va_runV (As := [.long (mAg M (M 0 (mix d t)) i)]) (rest := []) ⟨hx, hb, hml, hown, hts⟩ (kX7_refuse l G ad (mAg M (M 0 (mix d t)) i) (mAg_why p_f) H.size) (cwV 1 hts gX7_tick_X7_refuse rfl rfl rfl (by decide +kernel) ⟨(Nat.le_of_ble_eq_true rfl), (Nat.le_of_ble_eq_true rfl)⟩) (zPV w hK (va_recv hK.1 w.1 (ci := 6) (q0 := 0) rfl rfl)) rfl rfl hl.1 rfl (lv_room (Nat.le_of_ble_eq_true rfl)) dX7_tick_58 ⟨(Nat.le_of_ble_eq_true rfl), (Nat.le_of_ble_eq_true rfl)⟩) (fun r_17 u H locs hq w => ?_)
          obtain ⟨rfl, e_r⟩ := hq
          subst e_r
          exact zRl hx hb hr hlk w dX7_tick_61 (Nat.le_of_ble_eq_true rfl) (Nat.le_of_ble_eq_true rfl) (by show (if _ then _ else _); rw [if_pos ⟨p_d, p_t, p_3⟩]; (first | rw [if_pos p_f] | rw [if_neg p_f]); (first | exact ⟨rfl, rfl⟩ | exact ⟨rfl, by rfl⟩))
      · have p_3 := c_7
        refine lv_aload_n hx hb dX7_tick_19 rfl (lv_at hl 0 rfl) ?_
        refine lv_ldc2 hx hb hown (hts (.constantLong RX7 59 (1099511627776)) (by decide +kernel)) dX7_tick_20 ?_
        refine zCl w (va_runV (As := [.long 1099511627776]) (rest := []) ⟨hx, hb, hml, hown, hts⟩ (kX7_refuse l G ad zNONE zW1 H.size) (cwV 1 hts gX7_tick_X7_refuse rfl rfl rfl (by decide +kernel) ⟨(Nat.le_of_ble_eq_true rfl), (Nat.le_of_ble_eq_true rfl)⟩) (zPV w hK (va_recv hK.1 w.1 (ci := 6) (q0 := 0) rfl rfl)) rfl rfl hl.1 rfl (lv_room (Nat.le_of_ble_eq_true rfl)) dX7_tick_23 ⟨(Nat.le_of_ble_eq_true rfl), (Nat.le_of_ble_eq_true rfl)⟩) (fun r_18 u H locs hq w => ?_)
        obtain ⟨rfl, e_r⟩ := hq
        subst e_r
        exact zRl hx hb hr hlk w dX7_tick_26 (Nat.le_of_ble_eq_true rfl) (Nat.le_of_ble_eq_true rfl) (by show (if _ then _ else _); rw [if_neg (fun q => q.2.2 p_3)]; exact ⟨rfl, rfl⟩)
set_option maxHeartbeats 4000000 in
set_option maxRecDepth 100000 in
theorem kX7_pin (l : Launch) (G : zG) (ad : Nat → Nat) {M : Nat → Nat → Int32} {lev : Nat → UInt32} (hI : mI M lev) (t y d : Int32) (sz : Nat) : zMl l yX7_pin wsX7_pin { frames := 1, cells := 0, slots := 0, locals := 22 } G [.ref (ad 0), .int t, .int y, .int d] (mW G ad M lev) sz (fun r u => if zFour t ∧ zFour d then (if (mAR M t y) = 0 then (u = mW G ad (va_up M 2 (upd (M 2) (mwx t y) (M 0 (mix d t)))) lev ∧ r = if (M 0 (mix d t)) = -1 then 0 else 1) else mRefP G ad M lev (mAR M t y) r u) else mRefP G ad M lev zNONE r u) 0 0 := by
  refine zIn (Qc := fun A => va_Ql _ (zB G A) A) (cc := cX7_pin) (maxL := 6) (ret := (some .long)) (by decide) rfl (Nat.le_of_ble_eq_true rfl) ?_
  intro p e s m below meth c A ls hx hb hr hlk hml hts hown hnm hK w hl
  have hown : s.vm.findClass RX7 = some m.cls := hown
  have hl : lv_has ls 6 [(0, .ref (ad 0)), (1, .int t), (2, .int y), (3, .int d)] := hl
  refine lv_iload_n hx hb dX7_pin_0 rfl (lv_at hl 1 rfl) ?_
  refine zCi w (va_runS (As := [.int t]) (rest := []) ⟨hx, hb, hml, hown, hts⟩ (kX7_isFour l G _ t s.heap.size) (va_cwS 1 hts gX7_pin_X7_isFour rfl rfl rfl (by decide +kernel) ⟨(Nat.le_of_ble_eq_true rfl), (Nat.le_of_ble_eq_true rfl)⟩) (zPS w hK) rfl rfl hl.1 rfl (lv_room (Nat.le_of_ble_eq_true rfl)) dX7_pin_1 ⟨(Nat.le_of_ble_eq_true rfl), (Nat.le_of_ble_eq_true rfl)⟩) (fun r_1 u H locs hq w => ?_)
  obtain ⟨rfl, e_r_1⟩ := hq
  refine lv_if_eq (tgt := 14) hx hb dX7_pin_4 (by decide) (fun c_2 => ?_) (fun c_2 => ?_)
  · have p_t := z00 inferInstance e_r_1 c_2
    refine lv_aload_n hx hb dX7_pin_14 rfl (lv_at hl 0 rfl) ?_
    refine lv_ldc2 hx hb hown (hts (.constantLong RX7 59 (1099511627776)) (by decide +kernel)) dX7_pin_15 ?_
    refine zCl w (va_runV (As := [.long 1099511627776]) (rest := []) ⟨hx, hb, hml, hown, hts⟩ (kX7_refuse l G ad zNONE zW1 H.size) (cwV 1 hts gX7_pin_X7_refuse rfl rfl rfl (by decide +kernel) ⟨(Nat.le_of_ble_eq_true rfl), (Nat.le_of_ble_eq_true rfl)⟩) (zPV w hK (va_recv hK.1 w.1 (ci := 6) (q0 := 0) rfl rfl)) rfl rfl hl.1 rfl (lv_room (Nat.le_of_ble_eq_true rfl)) dX7_pin_18 ⟨(Nat.le_of_ble_eq_true rfl), (Nat.le_of_ble_eq_true rfl)⟩) (fun r_3 u H locs hq w => ?_)
    obtain ⟨rfl, e_r⟩ := hq
    subst e_r
    exact zRl hx hb hr hlk w dX7_pin_21 (Nat.le_of_ble_eq_true rfl) (Nat.le_of_ble_eq_true rfl) (by show (if _ then _ else _); rw [if_neg (fun q => p_t q.1)]; exact ⟨rfl, rfl⟩)
  · have p_t := z01 inferInstance e_r_1 c_2
    refine lv_iload_n hx hb dX7_pin_7 rfl (lv_at hl 3 rfl) ?_
    refine zCi w (va_runS (As := [.int d]) (rest := []) ⟨hx, hb, hml, hown, hts⟩ (kX7_isFour l G _ d H.size) (va_cwS 1 hts gX7_pin_X7_isFour rfl rfl rfl (by decide +kernel) ⟨(Nat.le_of_ble_eq_true rfl), (Nat.le_of_ble_eq_true rfl)⟩) (zPS w hK) rfl rfl hl.1 rfl (lv_room (Nat.le_of_ble_eq_true rfl)) dX7_pin_8 ⟨(Nat.le_of_ble_eq_true rfl), (Nat.le_of_ble_eq_true rfl)⟩) (fun r_4 u H locs hq w => ?_)
    obtain ⟨rfl, e_r_4⟩ := hq
    refine lv_if_ne (tgt := 22) hx hb dX7_pin_11 (by decide) (fun c_5 => ?_) (fun c_5 => ?_)
    · have p_d := z01 inferInstance e_r_4 c_5
      refine lv_aload_n hx hb dX7_pin_22 rfl (lv_at hl 0 rfl) ?_
      refine lv_iload_n hx hb dX7_pin_23 rfl (lv_at hl 1 rfl) ?_
      refine lv_iload_n hx hb dX7_pin_24 rfl (lv_at hl 2 rfl) ?_
      refine zCl w (va_runV (As := [.int t, .int y]) (rest := []) ⟨hx, hb, hml, hown, hts⟩ (kX7_againstRow l G ad t y p_t H.size) (cwV 2 hts gX7_pin_X7_againstRow rfl rfl rfl (by decide +kernel) ⟨(Nat.le_of_ble_eq_true rfl), (Nat.le_of_ble_eq_true rfl)⟩) (zPV w hK (va_recv hK.1 w.1 (ci := 6) (q0 := 0) rfl rfl)) rfl rfl hl.1 rfl (lv_room (Nat.le_of_ble_eq_true rfl)) dX7_pin_25 ⟨(Nat.le_of_ble_eq_true rfl), (Nat.le_of_ble_eq_true rfl)⟩) (fun r_6 u H locs hq w => ?_)
      obtain ⟨rfl, e_r⟩ := hq
      subst e_r
      refine lv_lstore (lv' := [(4, .long (mAR M t y)), (0, .ref (ad 0)), (1, .int t), (2, .int y), (3, .int d)]) hx hb dX7_pin_28 hl (by decide) rfl (fun ls hl => ?_)
      refine lv_lload hx hb dX7_pin_30 (lv_at hl 0 rfl) ?_
      refine lv_lconst (v := 0) hx hb dX7_pin_32 (by decide) ?_
      refine W.lcmp hx hb dX7_pin_33 ?_
      refine lv_if_eq (tgt := 44) hx hb dX7_pin_34 (by decide) (fun c_7 => ?_) (fun c_7 => ?_)
      · have p_f := zcmp0 c_7
        have hwi := mwx_in hI p_t p_f
        refine lv_aload_n hx hb dX7_pin_44 rfl (lv_at hl 1 rfl) ?_
        refine zget (ci := 6) (C := RX7) (T := TX7) (N := 11) hx hb hts hown hK w (by decide +kernel) 0 rfl rfl 2 (by decide) (hts (.fieldLink RX7 16 "ReelBarnModel" "wall" "[I") (by decide +kernel)) (fun _ h9 => h9) rfl dX7_pin_45 ?_
        refine lv_bipush (v := 12) hx hb dX7_pin_48 (by decide) ?_
        refine lv_iload_n hx hb dX7_pin_50 rfl (lv_at hl 2 rfl) ?_
        refine lv_imul hx hb dX7_pin_51 ?_
        refine lv_iload_n hx hb dX7_pin_52 rfl (lv_at hl 3 rfl) ?_
        refine lv_iadd hx hb dX7_pin_53 ?_
        refine lv_aload_n hx hb dX7_pin_54 rfl (lv_at hl 1 rfl) ?_
        refine zget (ci := 6) (C := RX7) (T := TX7) (N := 11) hx hb hts hown hK w (by decide +kernel) 0 rfl rfl 0 (by decide) (hts (.fieldLink RX7 7 "ReelBarnModel" "carried" "[I") (by decide +kernel)) (fun _ h9 => h9) rfl dX7_pin_55 ?_
        refine lv_iconst (v := 4) hx hb dX7_pin_58 (by decide) ?_
        refine lv_iload_n hx hb dX7_pin_59 rfl (lv_at hl 4 rfl) ?_
        refine lv_imul hx hb dX7_pin_60 ?_
        refine lv_iload_n hx hb dX7_pin_61 rfl (lv_at hl 2 rfl) ?_
        refine lv_iadd hx hb dX7_pin_62 ?_
        refine zm_iald hx hb hK w 1 rfl (mix_in p_d p_t) dX7_pin_63 ?_
        refine zm_iast hx hb hK w 3 rfl hwi dX7_pin_64 (fun H locs w => ?_)
        have w : zW G A s H locs (mW G ad (va_up M 2 (upd (M 2) (((12 * t) + y).toNatClampNeg) (M 0 (((4 * d) + t).toNatClampNeg)))) lev) := w
        refine lv_aload_n hx hb dX7_pin_65 rfl (lv_at hl 1 rfl) ?_
        refine zget (ci := 6) (C := RX7) (T := TX7) (N := 11) hx hb hts hown hK w (by decide +kernel) 0 rfl rfl 2 (by decide) (hts (.fieldLink RX7 16 "ReelBarnModel" "wall" "[I") (by decide +kernel)) (fun _ h9 => h9) rfl dX7_pin_66 ?_
        refine lv_bipush (v := 12) hx hb dX7_pin_69 (by decide) ?_
        refine lv_iload_n hx hb dX7_pin_71 rfl (lv_at hl 2 rfl) ?_
        refine lv_imul hx hb dX7_pin_72 ?_
        refine lv_iload_n hx hb dX7_pin_73 rfl (lv_at hl 3 rfl) ?_
        refine lv_iadd hx hb dX7_pin_74 ?_
        refine zm_iald hx hb hK w 3 rfl hwi dX7_pin_75 ?_
        refine lv_iconst (v := (-1)) hx hb dX7_pin_76 (by decide) ?_
        refine lv_icmp_ne (tgt := 84) hx hb dX7_pin_77 (by decide) (fun c_8 => ?_) (fun c_8 => ?_)
        · have p_v := c_8
          refine lv_lconst (v := 1) hx hb dX7_pin_84 (by decide) ?_
          exact zRl hx hb hr hlk w dX7_pin_85 (Nat.le_of_ble_eq_true rfl) (Nat.le_of_ble_eq_true rfl) (by show (if _ then _ else _); rw [if_pos ⟨p_t, p_d⟩]; (first | rw [if_pos p_f] | rw [if_neg p_f]); (first | exact ⟨rfl, rfl⟩ | (refine ⟨rfl, ?_⟩; have p_w : (va_up M 2 (upd (M 2) (mwx t y) (M 0 (mix d t)))) 2 (mwx t y) = M 0 (mix d t) := (by simp [va_up, upd]); rw [p_w] at p_v; simp [p_v])))
        · have p_v := c_8
          refine lv_lconst (v := 0) hx hb dX7_pin_80 (by decide) ?_
          refine lv_goto (tgt := 85) hx hb dX7_pin_81 (by decide) ?_
          exact zRl hx hb hr hlk w dX7_pin_85 (Nat.le_of_ble_eq_true rfl) (Nat.le_of_ble_eq_true rfl) (by show (if _ then _ else _); rw [if_pos ⟨p_t, p_d⟩]; (first | rw [if_pos p_f] | rw [if_neg p_f]); (first | exact ⟨rfl, rfl⟩ | (refine ⟨rfl, ?_⟩; have p_w : (va_up M 2 (upd (M 2) (mwx t y) (M 0 (mix d t)))) 2 (mwx t y) = M 0 (mix d t) := (by simp [va_up, upd]); rw [p_w] at p_v; simp [p_v])))
      · have p_f := zcmp1 c_7
        refine lv_aload_n hx hb dX7_pin_37 rfl (lv_at hl 1 rfl) ?_
        refine lv_lload hx hb dX7_pin_38 (lv_at hl 0 rfl) ?_
        refine zCl w (va_runV (As := [.long (mAR M t y)]) (rest := []) ⟨hx, hb, hml, hown, hts⟩ (kX7_refuse l G ad (mAR M t y) (mAR_why p_f) H.size) (cwV 1 hts gX7_pin_X7_refuse rfl rfl rfl (by decide +kernel) ⟨(Nat.le_of_ble_eq_true rfl), (Nat.le_of_ble_eq_true rfl)⟩) (zPV w hK (va_recv hK.1 w.1 (ci := 6) (q0 := 0) rfl rfl)) rfl rfl hl.1 rfl (lv_room (Nat.le_of_ble_eq_true rfl)) dX7_pin_40 ⟨(Nat.le_of_ble_eq_true rfl), (Nat.le_of_ble_eq_true rfl)⟩) (fun r_9 u H locs hq w => ?_)
        obtain ⟨rfl, e_r⟩ := hq
        subst e_r
        exact zRl hx hb hr hlk w dX7_pin_43 (Nat.le_of_ble_eq_true rfl) (Nat.le_of_ble_eq_true rfl) (by show (if _ then _ else _); rw [if_pos ⟨p_t, p_d⟩]; (first | rw [if_pos p_f] | rw [if_neg p_f]); (first | exact ⟨rfl, rfl⟩ | (refine ⟨rfl, ?_⟩; have p_w : (va_up M 2 (upd (M 2) (mwx t y) (M 0 (mix d t)))) 2 (mwx t y) = M 0 (mix d t) := (by simp [va_up, upd]); rw [p_w] at p_v; simp [p_v])))
    · have p_d := z00 inferInstance e_r_4 c_5
      refine lv_aload_n hx hb dX7_pin_14 rfl (lv_at hl 0 rfl) ?_
      refine lv_ldc2 hx hb hown (hts (.constantLong RX7 59 (1099511627776)) (by decide +kernel)) dX7_pin_15 ?_
      refine zCl w (va_runV (As := [.long 1099511627776]) (rest := []) ⟨hx, hb, hml, hown, hts⟩ (kX7_refuse l G ad zNONE zW1 H.size) (cwV 1 hts gX7_pin_X7_refuse rfl rfl rfl (by decide +kernel) ⟨(Nat.le_of_ble_eq_true rfl), (Nat.le_of_ble_eq_true rfl)⟩) (zPV w hK (va_recv hK.1 w.1 (ci := 6) (q0 := 0) rfl rfl)) rfl rfl hl.1 rfl (lv_room (Nat.le_of_ble_eq_true rfl)) dX7_pin_18 ⟨(Nat.le_of_ble_eq_true rfl), (Nat.le_of_ble_eq_true rfl)⟩) (fun r_10 u H locs hq w => ?_)
      obtain ⟨rfl, e_r⟩ := hq
      subst e_r
      exact zRl hx hb hr hlk w dX7_pin_21 (Nat.le_of_ble_eq_true rfl) (Nat.le_of_ble_eq_true rfl) (by show (if _ then _ else _); rw [if_neg (fun q => p_d q.2)]; exact ⟨rfl, rfl⟩)
set_option maxHeartbeats 4000000 in
set_option maxRecDepth 100000 in
theorem kX7_peel (l : Launch) (G : zG) (ad : Nat → Nat) {M : Nat → Nat → Int32} {lev : Nat → UInt32} (hI : mI M lev) (t y d : Int32) (sz : Nat) : zMl l yX7_peel wsX7_peel { frames := 1, cells := 0, slots := 0, locals := 22 } G [.ref (ad 0), .int t, .int y, .int d] (mW G ad M lev) sz (fun r u => if zFour t ∧ zFour d then (if (mAR M t y) = 0 then (u = mW G ad (va_up M 0 (upd (M 0) (mix d t) (M 2 (mwx t y)))) lev ∧ r = if M 2 (mwx t y) = -1 then 0 else 1) else mRefP G ad M lev (mAR M t y) r u) else mRefP G ad M lev zNONE r u) 0 0 := by
  refine zIn (Qc := fun A => va_Ql _ (zB G A) A) (cc := cX7_peel) (maxL := 6) (ret := (some .long)) (by decide) rfl (Nat.le_of_ble_eq_true rfl) ?_
  intro p e s m below meth c A ls hx hb hr hlk hml hts hown hnm hK w hl
  have hown : s.vm.findClass RX7 = some m.cls := hown
  have hl : lv_has ls 6 [(0, .ref (ad 0)), (1, .int t), (2, .int y), (3, .int d)] := hl
  refine lv_iload_n hx hb dX7_peel_0 rfl (lv_at hl 1 rfl) ?_
  refine zCi w (va_runS (As := [.int t]) (rest := []) ⟨hx, hb, hml, hown, hts⟩ (kX7_isFour l G _ t s.heap.size) (va_cwS 1 hts gX7_peel_X7_isFour rfl rfl rfl (by decide +kernel) ⟨(Nat.le_of_ble_eq_true rfl), (Nat.le_of_ble_eq_true rfl)⟩) (zPS w hK) rfl rfl hl.1 rfl (lv_room (Nat.le_of_ble_eq_true rfl)) dX7_peel_1 ⟨(Nat.le_of_ble_eq_true rfl), (Nat.le_of_ble_eq_true rfl)⟩) (fun r_1 u H locs hq w => ?_)
  obtain ⟨rfl, e_r_1⟩ := hq
  refine lv_if_eq (tgt := 14) hx hb dX7_peel_4 (by decide) (fun c_2 => ?_) (fun c_2 => ?_)
  · have p_t := z00 inferInstance e_r_1 c_2
    refine lv_aload_n hx hb dX7_peel_14 rfl (lv_at hl 0 rfl) ?_
    refine lv_ldc2 hx hb hown (hts (.constantLong RX7 59 (1099511627776)) (by decide +kernel)) dX7_peel_15 ?_
    refine zCl w (va_runV (As := [.long 1099511627776]) (rest := []) ⟨hx, hb, hml, hown, hts⟩ (kX7_refuse l G ad zNONE zW1 H.size) (cwV 1 hts gX7_peel_X7_refuse rfl rfl rfl (by decide +kernel) ⟨(Nat.le_of_ble_eq_true rfl), (Nat.le_of_ble_eq_true rfl)⟩) (zPV w hK (va_recv hK.1 w.1 (ci := 6) (q0 := 0) rfl rfl)) rfl rfl hl.1 rfl (lv_room (Nat.le_of_ble_eq_true rfl)) dX7_peel_18 ⟨(Nat.le_of_ble_eq_true rfl), (Nat.le_of_ble_eq_true rfl)⟩) (fun r_3 u H locs hq w => ?_)
    obtain ⟨rfl, e_r⟩ := hq
    subst e_r
    exact zRl hx hb hr hlk w dX7_peel_21 (Nat.le_of_ble_eq_true rfl) (Nat.le_of_ble_eq_true rfl) (by show (if _ then _ else _); rw [if_neg (fun q => p_t q.1)]; exact ⟨rfl, rfl⟩)
  · have p_t := z01 inferInstance e_r_1 c_2
    refine lv_iload_n hx hb dX7_peel_7 rfl (lv_at hl 3 rfl) ?_
    refine zCi w (va_runS (As := [.int d]) (rest := []) ⟨hx, hb, hml, hown, hts⟩ (kX7_isFour l G _ d H.size) (va_cwS 1 hts gX7_peel_X7_isFour rfl rfl rfl (by decide +kernel) ⟨(Nat.le_of_ble_eq_true rfl), (Nat.le_of_ble_eq_true rfl)⟩) (zPS w hK) rfl rfl hl.1 rfl (lv_room (Nat.le_of_ble_eq_true rfl)) dX7_peel_8 ⟨(Nat.le_of_ble_eq_true rfl), (Nat.le_of_ble_eq_true rfl)⟩) (fun r_4 u H locs hq w => ?_)
    obtain ⟨rfl, e_r_4⟩ := hq
    refine lv_if_ne (tgt := 22) hx hb dX7_peel_11 (by decide) (fun c_5 => ?_) (fun c_5 => ?_)
    · have p_d := z01 inferInstance e_r_4 c_5
      refine lv_aload_n hx hb dX7_peel_22 rfl (lv_at hl 0 rfl) ?_
      refine lv_iload_n hx hb dX7_peel_23 rfl (lv_at hl 1 rfl) ?_
      refine lv_iload_n hx hb dX7_peel_24 rfl (lv_at hl 2 rfl) ?_
      refine zCl w (va_runV (As := [.int t, .int y]) (rest := []) ⟨hx, hb, hml, hown, hts⟩ (kX7_againstRow l G ad t y p_t H.size) (cwV 2 hts gX7_peel_X7_againstRow rfl rfl rfl (by decide +kernel) ⟨(Nat.le_of_ble_eq_true rfl), (Nat.le_of_ble_eq_true rfl)⟩) (zPV w hK (va_recv hK.1 w.1 (ci := 6) (q0 := 0) rfl rfl)) rfl rfl hl.1 rfl (lv_room (Nat.le_of_ble_eq_true rfl)) dX7_peel_25 ⟨(Nat.le_of_ble_eq_true rfl), (Nat.le_of_ble_eq_true rfl)⟩) (fun r_6 u H locs hq w => ?_)
      obtain ⟨rfl, e_r⟩ := hq
      subst e_r
      refine lv_lstore (lv' := [(4, .long (mAR M t y)), (0, .ref (ad 0)), (1, .int t), (2, .int y), (3, .int d)]) hx hb dX7_peel_28 hl (by decide) rfl (fun ls hl => ?_)
      refine lv_lload hx hb dX7_peel_30 (lv_at hl 0 rfl) ?_
      refine lv_lconst (v := 0) hx hb dX7_peel_32 (by decide) ?_
      refine W.lcmp hx hb dX7_peel_33 ?_
      refine lv_if_eq (tgt := 44) hx hb dX7_peel_34 (by decide) (fun c_7 => ?_) (fun c_7 => ?_)
      · have p_f := zcmp0 c_7
        have hwi := mwx_in hI p_t p_f
        refine lv_aload_n hx hb dX7_peel_44 rfl (lv_at hl 1 rfl) ?_
        refine zget (ci := 6) (C := RX7) (T := TX7) (N := 11) hx hb hts hown hK w (by decide +kernel) 0 rfl rfl 0 (by decide) (hts (.fieldLink RX7 7 "ReelBarnModel" "carried" "[I") (by decide +kernel)) (fun _ h9 => h9) rfl dX7_peel_45 ?_
        refine lv_iconst (v := 4) hx hb dX7_peel_48 (by decide) ?_
        refine lv_iload_n hx hb dX7_peel_49 rfl (lv_at hl 4 rfl) ?_
        refine lv_imul hx hb dX7_peel_50 ?_
        refine lv_iload_n hx hb dX7_peel_51 rfl (lv_at hl 2 rfl) ?_
        refine lv_iadd hx hb dX7_peel_52 ?_
        refine lv_aload_n hx hb dX7_peel_53 rfl (lv_at hl 1 rfl) ?_
        refine zget (ci := 6) (C := RX7) (T := TX7) (N := 11) hx hb hts hown hK w (by decide +kernel) 0 rfl rfl 2 (by decide) (hts (.fieldLink RX7 16 "ReelBarnModel" "wall" "[I") (by decide +kernel)) (fun _ h9 => h9) rfl dX7_peel_54 ?_
        refine lv_bipush (v := 12) hx hb dX7_peel_57 (by decide) ?_
        refine lv_iload_n hx hb dX7_peel_59 rfl (lv_at hl 2 rfl) ?_
        refine lv_imul hx hb dX7_peel_60 ?_
        refine lv_iload_n hx hb dX7_peel_61 rfl (lv_at hl 3 rfl) ?_
        refine lv_iadd hx hb dX7_peel_62 ?_
        refine zm_iald hx hb hK w 3 rfl hwi dX7_peel_63 ?_
        refine zm_iast hx hb hK w 1 rfl (mix_in p_d p_t) dX7_peel_64 (fun H locs w => ?_)
        have w : zW G A s H locs (mW G ad (va_up M 0 (upd (M 0) (((4 * d) + t).toNatClampNeg) (M 2 (((12 * t) + y).toNatClampNeg)))) lev) := w
        refine lv_aload_n hx hb dX7_peel_65 rfl (lv_at hl 1 rfl) ?_
        refine zget (ci := 6) (C := RX7) (T := TX7) (N := 11) hx hb hts hown hK w (by decide +kernel) 0 rfl rfl 2 (by decide) (hts (.fieldLink RX7 16 "ReelBarnModel" "wall" "[I") (by decide +kernel)) (fun _ h9 => h9) rfl dX7_peel_66 ?_
        refine lv_bipush (v := 12) hx hb dX7_peel_69 (by decide) ?_
        refine lv_iload_n hx hb dX7_peel_71 rfl (lv_at hl 2 rfl) ?_
        refine lv_imul hx hb dX7_peel_72 ?_
        refine lv_iload_n hx hb dX7_peel_73 rfl (lv_at hl 3 rfl) ?_
        refine lv_iadd hx hb dX7_peel_74 ?_
        refine zm_iald hx hb hK w 3 rfl hwi dX7_peel_75 ?_
        refine lv_iconst (v := (-1)) hx hb dX7_peel_76 (by decide) ?_
        refine lv_icmp_ne (tgt := 84) hx hb dX7_peel_77 (by decide) (fun c_8 => ?_) (fun c_8 => ?_)
        · have p_v := c_8
          refine lv_lconst (v := 1) hx hb dX7_peel_84 (by decide) ?_
          exact zRl hx hb hr hlk w dX7_peel_85 (Nat.le_of_ble_eq_true rfl) (Nat.le_of_ble_eq_true rfl) (by show (if _ then _ else _); rw [if_pos ⟨p_t, p_d⟩]; (first | rw [if_pos p_f] | rw [if_neg p_f]); (first | exact ⟨rfl, rfl⟩ | (refine ⟨rfl, ?_⟩; have p_w : (va_up M 0 (upd (M 0) (mix d t) (M 2 (mwx t y)))) 2 (mwx t y) = M 2 (mwx t y) := (by simp [va_up, upd]); rw [p_w] at p_v; simp [p_v])))
        · have p_v := c_8
          refine lv_lconst (v := 0) hx hb dX7_peel_80 (by decide) ?_
          refine lv_goto (tgt := 85) hx hb dX7_peel_81 (by decide) ?_
          exact zRl hx hb hr hlk w dX7_peel_85 (Nat.le_of_ble_eq_true rfl) (Nat.le_of_ble_eq_true rfl) (by show (if _ then _ else _); rw [if_pos ⟨p_t, p_d⟩]; (first | rw [if_pos p_f] | rw [if_neg p_f]); (first | exact ⟨rfl, rfl⟩ | (refine ⟨rfl, ?_⟩; have p_w : (va_up M 0 (upd (M 0) (mix d t) (M 2 (mwx t y)))) 2 (mwx t y) = M 2 (mwx t y) := (by simp [va_up, upd]); rw [p_w] at p_v; simp [p_v])))
      · have p_f := zcmp1 c_7
        refine lv_aload_n hx hb dX7_peel_37 rfl (lv_at hl 1 rfl) ?_
        refine lv_lload hx hb dX7_peel_38 (lv_at hl 0 rfl) ?_
        refine zCl w (va_runV (As := [.long (mAR M t y)]) (rest := []) ⟨hx, hb, hml, hown, hts⟩ (kX7_refuse l G ad (mAR M t y) (mAR_why p_f) H.size) (cwV 1 hts gX7_peel_X7_refuse rfl rfl rfl (by decide +kernel) ⟨(Nat.le_of_ble_eq_true rfl), (Nat.le_of_ble_eq_true rfl)⟩) (zPV w hK (va_recv hK.1 w.1 (ci := 6) (q0 := 0) rfl rfl)) rfl rfl hl.1 rfl (lv_room (Nat.le_of_ble_eq_true rfl)) dX7_peel_40 ⟨(Nat.le_of_ble_eq_true rfl), (Nat.le_of_ble_eq_true rfl)⟩) (fun r_9 u H locs hq w => ?_)
        obtain ⟨rfl, e_r⟩ := hq
        subst e_r
        exact zRl hx hb hr hlk w dX7_peel_43 (Nat.le_of_ble_eq_true rfl) (Nat.le_of_ble_eq_true rfl) (by show (if _ then _ else _); rw [if_pos ⟨p_t, p_d⟩]; (first | rw [if_pos p_f] | rw [if_neg p_f]); (first | exact ⟨rfl, rfl⟩ | (refine ⟨rfl, ?_⟩; have p_w : (va_up M 0 (upd (M 0) (mix d t) (M 2 (mwx t y)))) 2 (mwx t y) = M 2 (mwx t y) := (by simp [va_up, upd]); rw [p_w] at p_v; simp [p_v])))
    · have p_d := z00 inferInstance e_r_4 c_5
      refine lv_aload_n hx hb dX7_peel_14 rfl (lv_at hl 0 rfl) ?_
      refine lv_ldc2 hx hb hown (hts (.constantLong RX7 59 (1099511627776)) (by decide +kernel)) dX7_peel_15 ?_
      refine zCl w (va_runV (As := [.long 1099511627776]) (rest := []) ⟨hx, hb, hml, hown, hts⟩ (kX7_refuse l G ad zNONE zW1 H.size) (cwV 1 hts gX7_peel_X7_refuse rfl rfl rfl (by decide +kernel) ⟨(Nat.le_of_ble_eq_true rfl), (Nat.le_of_ble_eq_true rfl)⟩) (zPV w hK (va_recv hK.1 w.1 (ci := 6) (q0 := 0) rfl rfl)) rfl rfl hl.1 rfl (lv_room (Nat.le_of_ble_eq_true rfl)) dX7_peel_18 ⟨(Nat.le_of_ble_eq_true rfl), (Nat.le_of_ble_eq_true rfl)⟩) (fun r_10 u H locs hq w => ?_)
      obtain ⟨rfl, e_r⟩ := hq
      subst e_r
      exact zRl hx hb hr hlk w dX7_peel_21 (Nat.le_of_ble_eq_true rfl) (Nat.le_of_ble_eq_true rfl) (by show (if _ then _ else _); rw [if_neg (fun q => p_d q.2)]; exact ⟨rfl, rfl⟩)
set_option maxHeartbeats 4000000 in
set_option maxRecDepth 100000 in
theorem kX7_spot (l : Launch) (G : zG) (ad : Nat → Nat) {M : Nat → Nat → Int32} {lev : Nat → UInt32} (hI : mI M lev) (t y i : Int32) (sz : Nat) : zMl l yX7_spot wsX7_spot { frames := 2, cells := 0, slots := 0, locals := 48 } G [.ref (ad 0), .int t, .int y, .int i] (mW G ad M lev) sz (fun r u => if zFour t then (if (mAP M t y i) = 0 then (u = mW G ad M lev ∧ r = (mTo M lev t (mat (M 2 (mwx t y)) i)).toInt64) else mRefP G ad M lev (mAP M t y i) r u) else mRefP G ad M lev zNONE r u) 0 0 := by
  refine zIn (Qc := fun A => va_Ql _ (zB G A) A) (cc := cX7_spot) (maxL := 6) (ret := (some .long)) (by decide) rfl (Nat.le_of_ble_eq_true rfl) ?_
  intro p e s m below meth c A ls hx hb hr hlk hml hts hown hnm hK w hl
  have hown : s.vm.findClass RX7 = some m.cls := hown
  have hl : lv_has ls 6 [(0, .ref (ad 0)), (1, .int t), (2, .int y), (3, .int i)] := hl
  refine lv_iload_n hx hb dX7_spot_0 rfl (lv_at hl 1 rfl) ?_
  refine zCi w (va_runS (As := [.int t]) (rest := []) ⟨hx, hb, hml, hown, hts⟩ (kX7_isFour l G _ t s.heap.size) (va_cwS 1 hts gX7_spot_X7_isFour rfl rfl rfl (by decide +kernel) ⟨(Nat.le_of_ble_eq_true rfl), (Nat.le_of_ble_eq_true rfl)⟩) (zPS w hK) rfl rfl hl.1 rfl (lv_room (Nat.le_of_ble_eq_true rfl)) dX7_spot_1 ⟨(Nat.le_of_ble_eq_true rfl), (Nat.le_of_ble_eq_true rfl)⟩) (fun r_1 u H locs hq w => ?_)
  obtain ⟨rfl, e_r_1⟩ := hq
  refine lv_if_ne (tgt := 15) hx hb dX7_spot_4 (by decide) (fun c_2 => ?_) (fun c_2 => ?_)
  · have p_t := z01 inferInstance e_r_1 c_2
    refine lv_aload_n hx hb dX7_spot_15 rfl (lv_at hl 0 rfl) ?_
    refine lv_iload_n hx hb dX7_spot_16 rfl (lv_at hl 1 rfl) ?_
    refine lv_iload_n hx hb dX7_spot_17 rfl (lv_at hl 2 rfl) ?_
    refine lv_iload_n hx hb dX7_spot_18 rfl (lv_at hl 3 rfl) ?_
    refine zCl w (va_runV (As := [.int t, .int y, .int i]) (rest := []) ⟨hx, hb, hml, hown, hts⟩ (kX7_againstPlace l G ad hI t y i p_t H.size) (cwV 3 hts gX7_spot_X7_againstPlace rfl rfl rfl (by decide +kernel) ⟨(Nat.le_of_ble_eq_true rfl), (Nat.le_of_ble_eq_true rfl)⟩) (zPV w hK (va_recv hK.1 w.1 (ci := 6) (q0 := 0) rfl rfl)) rfl rfl hl.1 rfl (lv_room (Nat.le_of_ble_eq_true rfl)) dX7_spot_19 ⟨(Nat.le_of_ble_eq_true rfl), (Nat.le_of_ble_eq_true rfl)⟩) (fun r_3 u H locs hq w => ?_)
    obtain ⟨rfl, e_r⟩ := hq
    subst e_r
    refine lv_lstore (lv' := [(4, .long (mAP M t y i)), (0, .ref (ad 0)), (1, .int t), (2, .int y), (3, .int i)]) hx hb dX7_spot_22 hl (by decide) rfl (fun ls hl => ?_)
    refine lv_lload hx hb dX7_spot_24 (lv_at hl 0 rfl) ?_
    refine lv_lconst (v := 0) hx hb dX7_spot_26 (by decide) ?_
    refine W.lcmp hx hb dX7_spot_27 ?_
    refine lv_if_eq (tgt := 40) hx hb dX7_spot_28 (by decide) (fun c_4 => ?_) (fun c_4 => ?_)
    · have p_f := zcmp0 c_4
      obtain ⟨p_r, hv, hhs⟩ := mAP_0 p_f
      have hwi := mwx_in hI p_t p_r
      have hmP := hI.2.1 _ (zin_lt hwi)
      have hat := mat_in hI hmP hv hhs
      have hfl := hI.2.2.2.2.1 _ (zin_lt hat)
      refine lv_aload_n hx hb dX7_spot_40 rfl (lv_at hl 1 rfl) ?_
      refine lv_iload_n hx hb dX7_spot_41 rfl (lv_at hl 2 rfl) ?_
      refine lv_aload_n hx hb dX7_spot_42 rfl (lv_at hl 1 rfl) ?_
      refine zget (ci := 6) (C := RX7) (T := TX7) (N := 11) hx hb hts hown hK w (by decide +kernel) 0 rfl rfl 2 (by decide) (hts (.fieldLink RX7 16 "ReelBarnModel" "wall" "[I") (by decide +kernel)) (fun _ h9 => h9) rfl dX7_spot_43 ?_
      refine lv_bipush (v := 12) hx hb dX7_spot_46 (by decide) ?_
      refine lv_iload_n hx hb dX7_spot_48 rfl (lv_at hl 2 rfl) ?_
      refine lv_imul hx hb dX7_spot_49 ?_
      refine lv_iload_n hx hb dX7_spot_50 rfl (lv_at hl 3 rfl) ?_
      refine lv_iadd hx hb dX7_spot_51 ?_
      refine zm_iald hx hb hK w 3 rfl hwi dX7_spot_52 ?_
      refine lv_iload_n hx hb dX7_spot_53 rfl (lv_at hl 4 rfl) ?_
      refine zCl w (va_runV (As := [.int t, .int (M 2 (((12 * t) + y).toNatClampNeg)), .int i]) (rest := []) ⟨hx, hb, hml, hown, hts⟩ (kX7_told l G ad t (M 2 (mwx t y)) i hat hfl H.size) (cwV 3 hts gX7_spot_X7_told rfl rfl rfl (by decide +kernel) ⟨(Nat.le_of_ble_eq_true rfl), (Nat.le_of_ble_eq_true rfl)⟩) (zPV w hK (va_recv hK.1 w.1 (ci := 6) (q0 := 0) rfl rfl)) rfl rfl hl.1 rfl (lv_room (Nat.le_of_ble_eq_true rfl)) dX7_spot_54 ⟨(Nat.le_of_ble_eq_true rfl), (Nat.le_of_ble_eq_true rfl)⟩) (fun r_5 u H locs hq w => ?_)
      obtain ⟨rfl, e_r⟩ := hq
      subst e_r
      exact zRl hx hb hr hlk w dX7_spot_57 (Nat.le_of_ble_eq_true rfl) (Nat.le_of_ble_eq_true rfl) (by show (if _ then _ else _); rw [if_pos p_t]; (first | rw [if_pos p_f] | rw [if_neg p_f]); (first | exact ⟨rfl, rfl⟩ | simp [va_up]))
    · have p_f := zcmp1 c_4
      refine lv_aload_n hx hb dX7_spot_31 rfl (lv_at hl 1 rfl) ?_
      refine lv_lload hx hb dX7_spot_32 (lv_at hl 0 rfl) ?_
      refine zCl w (va_runV (As := [.long (mAP M t y i)]) (rest := []) ⟨hx, hb, hml, hown, hts⟩ (kX7_refuse l G ad (mAP M t y i) (mAP_why p_f) H.size) (cwV 1 hts gX7_spot_X7_refuse rfl rfl rfl (by decide +kernel) ⟨(Nat.le_of_ble_eq_true rfl), (Nat.le_of_ble_eq_true rfl)⟩) (zPV w hK (va_recv hK.1 w.1 (ci := 6) (q0 := 0) rfl rfl)) rfl rfl hl.1 rfl (lv_room (Nat.le_of_ble_eq_true rfl)) dX7_spot_34 ⟨(Nat.le_of_ble_eq_true rfl), (Nat.le_of_ble_eq_true rfl)⟩) (fun r_6 u H locs hq w => ?_)
      obtain ⟨rfl, e_r⟩ := hq
      subst e_r
      refine lv_goto (tgt := 57) hx hb dX7_spot_37 (by decide) ?_
      exact zRl hx hb hr hlk w dX7_spot_57 (Nat.le_of_ble_eq_true rfl) (Nat.le_of_ble_eq_true rfl) (by show (if _ then _ else _); rw [if_pos p_t]; (first | rw [if_pos p_f] | rw [if_neg p_f]); (first | exact ⟨rfl, rfl⟩ | simp [va_up]))
  · have p_t := z00 inferInstance e_r_1 c_2
    refine lv_aload_n hx hb dX7_spot_7 rfl (lv_at hl 0 rfl) ?_
    refine lv_ldc2 hx hb hown (hts (.constantLong RX7 59 (1099511627776)) (by decide +kernel)) dX7_spot_8 ?_
    refine zCl w (va_runV (As := [.long 1099511627776]) (rest := []) ⟨hx, hb, hml, hown, hts⟩ (kX7_refuse l G ad zNONE zW1 H.size) (cwV 1 hts gX7_spot_X7_refuse rfl rfl rfl (by decide +kernel) ⟨(Nat.le_of_ble_eq_true rfl), (Nat.le_of_ble_eq_true rfl)⟩) (zPV w hK (va_recv hK.1 w.1 (ci := 6) (q0 := 0) rfl rfl)) rfl rfl hl.1 rfl (lv_room (Nat.le_of_ble_eq_true rfl)) dX7_spot_11 ⟨(Nat.le_of_ble_eq_true rfl), (Nat.le_of_ble_eq_true rfl)⟩) (fun r_7 u H locs hq w => ?_)
    obtain ⟨rfl, e_r⟩ := hq
    subst e_r
    exact zRl hx hb hr hlk w dX7_spot_14 (Nat.le_of_ble_eq_true rfl) (Nat.le_of_ble_eq_true rfl) (by show (if _ then _ else _); rw [if_neg (fun q => p_t q)]; exact ⟨rfl, rfl⟩)
set_option maxHeartbeats 4000000 in
set_option maxRecDepth 100000 in
theorem kX7_paint (l : Launch) (G : zG) (ad : Nat → Nat) {M : Nat → Nat → Int32} {lev : Nat → UInt32} (hI : mI M lev) (t y i x : Int32) (sz : Nat) : zMl l yX7_paint wsX7_paint { frames := 2, cells := 0, slots := 0, locals := 48 } G [.ref (ad 0), .int t, .int y, .int i, .int x] (mW G ad M lev) sz (fun r u => if zFour t then (if (mAP M t y i) = 0 then (u = mW G ad (mFM M t (mat (M 2 (mwx t y)) i) x) (mFL lev t (mat (M 2 (mwx t y)) i) (zEi x)) ∧ r = (mTo (mFM M t (mat (M 2 (mwx t y)) i) x) (mFL lev t (mat (M 2 (mwx t y)) i) (zEi x)) t (mat (M 2 (mwx t y)) i)).toInt64) else mRefP G ad M lev (mAP M t y i) r u) else mRefP G ad M lev zNONE r u) 0 0 := by
  refine zIn (Qc := fun A => va_Ql _ (zB G A) A) (cc := cX7_paint) (maxL := 7) (ret := (some .long)) (by decide) rfl (Nat.le_of_ble_eq_true rfl) ?_
  intro p e s m below meth c A ls hx hb hr hlk hml hts hown hnm hK w hl
  have hown : s.vm.findClass RX7 = some m.cls := hown
  have hl : lv_has ls 7 [(0, .ref (ad 0)), (1, .int t), (2, .int y), (3, .int i), (4, .int x)] := hl
  refine lv_iload_n hx hb dX7_paint_0 rfl (lv_at hl 1 rfl) ?_
  refine zCi w (va_runS (As := [.int t]) (rest := []) ⟨hx, hb, hml, hown, hts⟩ (kX7_isFour l G _ t s.heap.size) (va_cwS 1 hts gX7_paint_X7_isFour rfl rfl rfl (by decide +kernel) ⟨(Nat.le_of_ble_eq_true rfl), (Nat.le_of_ble_eq_true rfl)⟩) (zPS w hK) rfl rfl hl.1 rfl (lv_room (Nat.le_of_ble_eq_true rfl)) dX7_paint_1 ⟨(Nat.le_of_ble_eq_true rfl), (Nat.le_of_ble_eq_true rfl)⟩) (fun r_1 u H locs hq w => ?_)
  obtain ⟨rfl, e_r_1⟩ := hq
  refine lv_if_ne (tgt := 15) hx hb dX7_paint_4 (by decide) (fun c_2 => ?_) (fun c_2 => ?_)
  · have p_t := z01 inferInstance e_r_1 c_2
    refine lv_aload_n hx hb dX7_paint_15 rfl (lv_at hl 0 rfl) ?_
    refine lv_iload_n hx hb dX7_paint_16 rfl (lv_at hl 1 rfl) ?_
    refine lv_iload_n hx hb dX7_paint_17 rfl (lv_at hl 2 rfl) ?_
    refine lv_iload_n hx hb dX7_paint_18 rfl (lv_at hl 3 rfl) ?_
    refine zCl w (va_runV (As := [.int t, .int y, .int i]) (rest := []) ⟨hx, hb, hml, hown, hts⟩ (kX7_againstPlace l G ad hI t y i p_t H.size) (cwV 3 hts gX7_paint_X7_againstPlace rfl rfl rfl (by decide +kernel) ⟨(Nat.le_of_ble_eq_true rfl), (Nat.le_of_ble_eq_true rfl)⟩) (zPV w hK (va_recv hK.1 w.1 (ci := 6) (q0 := 0) rfl rfl)) rfl rfl hl.1 rfl (lv_room (Nat.le_of_ble_eq_true rfl)) dX7_paint_19 ⟨(Nat.le_of_ble_eq_true rfl), (Nat.le_of_ble_eq_true rfl)⟩) (fun r_3 u H locs hq w => ?_)
    obtain ⟨rfl, e_r⟩ := hq
    subst e_r
    refine lv_lstore (lv' := [(5, .long (mAP M t y i)), (0, .ref (ad 0)), (1, .int t), (2, .int y), (3, .int i), (4, .int x)]) hx hb dX7_paint_22 hl (by decide) rfl (fun ls hl => ?_)
    refine lv_lload hx hb dX7_paint_24 (lv_at hl 0 rfl) ?_
    refine lv_lconst (v := 0) hx hb dX7_paint_26 (by decide) ?_
    refine W.lcmp hx hb dX7_paint_27 ?_
    refine lv_if_eq (tgt := 38) hx hb dX7_paint_28 (by decide) (fun c_4 => ?_) (fun c_4 => ?_)
    · have p_f := zcmp0 c_4
      obtain ⟨p_r, hv, hhs⟩ := mAP_0 p_f
      have hwi := mwx_in hI p_t p_r
      have hmP := hI.2.1 _ (zin_lt hwi)
      have hat := mat_in hI hmP hv hhs
      have hfl := hI.2.2.2.2.1 _ (zin_lt hat)
      refine lv_aload_n hx hb dX7_paint_38 rfl (lv_at hl 1 rfl) ?_
      refine lv_iload_n hx hb dX7_paint_39 rfl (lv_at hl 2 rfl) ?_
      refine lv_aload_n hx hb dX7_paint_40 rfl (lv_at hl 1 rfl) ?_
      refine zget (ci := 6) (C := RX7) (T := TX7) (N := 11) hx hb hts hown hK w (by decide +kernel) 0 rfl rfl 2 (by decide) (hts (.fieldLink RX7 16 "ReelBarnModel" "wall" "[I") (by decide +kernel)) (fun _ h9 => h9) rfl dX7_paint_41 ?_
      refine lv_bipush (v := 12) hx hb dX7_paint_44 (by decide) ?_
      refine lv_iload_n hx hb dX7_paint_46 rfl (lv_at hl 2 rfl) ?_
      refine lv_imul hx hb dX7_paint_47 ?_
      refine lv_iload_n hx hb dX7_paint_48 rfl (lv_at hl 3 rfl) ?_
      refine lv_iadd hx hb dX7_paint_49 ?_
      refine zm_iald hx hb hK w 3 rfl hwi dX7_paint_50 ?_
      refine lv_iload_n hx hb dX7_paint_51 rfl (lv_at hl 4 rfl) ?_
      refine lv_iload hx hb dX7_paint_52 (lv_at hl 5 rfl) ?_
      refine zCv w (va_runV (As := [.int t, .int (M 2 (((12 * t) + y).toNatClampNeg)), .int i, .int x]) (rest := []) ⟨hx, hb, hml, hown, hts⟩ (kX7_fill l G ad t (M 2 (mwx t y)) i x hat H.size) (cwV 4 hts gX7_paint_X7_fill rfl rfl rfl (by decide +kernel) ⟨(Nat.le_of_ble_eq_true rfl), (Nat.le_of_ble_eq_true rfl)⟩) (zPV w hK (va_recv hK.1 w.1 (ci := 6) (q0 := 0) rfl rfl)) rfl rfl hl.1 rfl (lv_room (Nat.le_of_ble_eq_true rfl)) dX7_paint_54 ⟨(Nat.le_of_ble_eq_true rfl), (Nat.le_of_ble_eq_true rfl)⟩) (fun u H locs hq w => ?_)
      subst hq
      refine lv_aload_n hx hb dX7_paint_57 rfl (lv_at hl 1 rfl) ?_
      refine lv_iload_n hx hb dX7_paint_58 rfl (lv_at hl 2 rfl) ?_
      refine lv_aload_n hx hb dX7_paint_59 rfl (lv_at hl 1 rfl) ?_
      refine zget (ci := 6) (C := RX7) (T := TX7) (N := 11) hx hb hts hown hK w (by decide +kernel) 0 rfl rfl 2 (by decide) (hts (.fieldLink RX7 16 "ReelBarnModel" "wall" "[I") (by decide +kernel)) (fun _ h9 => h9) rfl dX7_paint_60 ?_
      refine lv_bipush (v := 12) hx hb dX7_paint_63 (by decide) ?_
      refine lv_iload_n hx hb dX7_paint_65 rfl (lv_at hl 2 rfl) ?_
      refine lv_imul hx hb dX7_paint_66 ?_
      refine lv_iload_n hx hb dX7_paint_67 rfl (lv_at hl 3 rfl) ?_
      refine lv_iadd hx hb dX7_paint_68 ?_
      refine zm_iald hx hb hK w 3 rfl hwi dX7_paint_69 ?_
      rw [mFM_2]
      refine lv_iload_n hx hb dX7_paint_70 rfl (lv_at hl 4 rfl) ?_
      refine zCl w (va_runV (As := [.int t, .int (M 2 (mwx t y)), .int i]) (rest := []) ⟨hx, hb, hml, hown, hts⟩ (kX7_told (M := (mFM M t (mat (M 2 (mwx t y)) i) x)) (lev := (mFL lev t (mat (M 2 (mwx t y)) i) (zEi x))) l G ad t (M 2 (mwx t y)) i hat (mFL_fin hfl (zn32 (zEi_fin x).notNaN)) H.size) (cwV 3 hts gX7_paint_X7_told rfl rfl rfl (by decide +kernel) ⟨(Nat.le_of_ble_eq_true rfl), (Nat.le_of_ble_eq_true rfl)⟩) (zPV w hK (va_recv hK.1 w.1 (ci := 6) (q0 := 0) rfl rfl)) rfl rfl hl.1 rfl (lv_room (Nat.le_of_ble_eq_true rfl)) dX7_paint_71 ⟨(Nat.le_of_ble_eq_true rfl), (Nat.le_of_ble_eq_true rfl)⟩) (fun r_5 u H locs hq w => ?_)
      obtain ⟨rfl, e_r⟩ := hq
      subst e_r
      exact zRl hx hb hr hlk w dX7_paint_74 (Nat.le_of_ble_eq_true rfl) (Nat.le_of_ble_eq_true rfl) (by show (if _ then _ else _); rw [if_pos p_t]; (first | rw [if_pos p_f] | rw [if_neg p_f]); (first | exact ⟨rfl, rfl⟩ | simp [va_up]))
    · have p_f := zcmp1 c_4
      refine lv_aload_n hx hb dX7_paint_31 rfl (lv_at hl 1 rfl) ?_
      refine lv_lload hx hb dX7_paint_32 (lv_at hl 0 rfl) ?_
      refine zCl w (va_runV (As := [.long (mAP M t y i)]) (rest := []) ⟨hx, hb, hml, hown, hts⟩ (kX7_refuse l G ad (mAP M t y i) (mAP_why p_f) H.size) (cwV 1 hts gX7_paint_X7_refuse rfl rfl rfl (by decide +kernel) ⟨(Nat.le_of_ble_eq_true rfl), (Nat.le_of_ble_eq_true rfl)⟩) (zPV w hK (va_recv hK.1 w.1 (ci := 6) (q0 := 0) rfl rfl)) rfl rfl hl.1 rfl (lv_room (Nat.le_of_ble_eq_true rfl)) dX7_paint_34 ⟨(Nat.le_of_ble_eq_true rfl), (Nat.le_of_ble_eq_true rfl)⟩) (fun r_6 u H locs hq w => ?_)
      obtain ⟨rfl, e_r⟩ := hq
      subst e_r
      exact zRl hx hb hr hlk w dX7_paint_37 (Nat.le_of_ble_eq_true rfl) (Nat.le_of_ble_eq_true rfl) (by show (if _ then _ else _); rw [if_pos p_t]; (first | rw [if_pos p_f] | rw [if_neg p_f]); (first | exact ⟨rfl, rfl⟩ | simp [va_up]))
  · have p_t := z00 inferInstance e_r_1 c_2
    refine lv_aload_n hx hb dX7_paint_7 rfl (lv_at hl 0 rfl) ?_
    refine lv_ldc2 hx hb hown (hts (.constantLong RX7 59 (1099511627776)) (by decide +kernel)) dX7_paint_8 ?_
    refine zCl w (va_runV (As := [.long 1099511627776]) (rest := []) ⟨hx, hb, hml, hown, hts⟩ (kX7_refuse l G ad zNONE zW1 H.size) (cwV 1 hts gX7_paint_X7_refuse rfl rfl rfl (by decide +kernel) ⟨(Nat.le_of_ble_eq_true rfl), (Nat.le_of_ble_eq_true rfl)⟩) (zPV w hK (va_recv hK.1 w.1 (ci := 6) (q0 := 0) rfl rfl)) rfl rfl hl.1 rfl (lv_room (Nat.le_of_ble_eq_true rfl)) dX7_paint_11 ⟨(Nat.le_of_ble_eq_true rfl), (Nat.le_of_ble_eq_true rfl)⟩) (fun r_7 u H locs hq w => ?_)
    obtain ⟨rfl, e_r⟩ := hq
    subst e_r
    exact zRl hx hb hr hlk w dX7_paint_14 (Nat.le_of_ble_eq_true rfl) (Nat.le_of_ble_eq_true rfl) (by show (if _ then _ else _); rw [if_neg (fun q => p_t q)]; exact ⟨rfl, rfl⟩)
set_option maxHeartbeats 4000000 in
set_option maxRecDepth 100000 in
theorem kX7_span (l : Launch) (G : zG) (ad : Nat → Nat) {M : Nat → Nat → Int32} {lev : Nat → UInt32} (hI : mI M lev) (t y : Int32) (sz : Nat) : zMl l yX7_span wsX7_span { frames := 1, cells := 0, slots := 0, locals := 22 } G [.ref (ad 0), .int t, .int y] (mW G ad M lev) sz (fun r u => if zFour t then (if ¬ (M 1 (zS t)) = -1 ∧ y = -1 then (u = mW G ad M lev ∧ r = (M 1 (zS t)).toInt64) else if (mAR M t y) = 0 then (if (M 2 (mwx t y)) = -1 then mRefP G ad M lev zBARE r u else (u = mW G ad M lev ∧ r = (M 3 (M 2 (mwx t y)).toNatClampNeg).toInt64)) else mRefP G ad M lev (mAR M t y) r u) else mRefP G ad M lev zNONE r u) 0 0 := by
  refine zIn (Qc := fun A => va_Ql _ (zB G A) A) (cc := cX7_span) (maxL := 6) (ret := (some .long)) (by decide) rfl (Nat.le_of_ble_eq_true rfl) ?_
  intro p e s m below meth c A ls hx hb hr hlk hml hts hown hnm hK w hl
  have hown : s.vm.findClass RX7 = some m.cls := hown
  have hl : lv_has ls 6 [(0, .ref (ad 0)), (1, .int t), (2, .int y)] := hl
  refine lv_iload_n hx hb dX7_span_0 rfl (lv_at hl 1 rfl) ?_
  refine zCi w (va_runS (As := [.int t]) (rest := []) ⟨hx, hb, hml, hown, hts⟩ (kX7_isFour l G _ t s.heap.size) (va_cwS 1 hts gX7_span_X7_isFour rfl rfl rfl (by decide +kernel) ⟨(Nat.le_of_ble_eq_true rfl), (Nat.le_of_ble_eq_true rfl)⟩) (zPS w hK) rfl rfl hl.1 rfl (lv_room (Nat.le_of_ble_eq_true rfl)) dX7_span_1 ⟨(Nat.le_of_ble_eq_true rfl), (Nat.le_of_ble_eq_true rfl)⟩) (fun r_1 u H locs hq w => ?_)
  obtain ⟨rfl, e_r_1⟩ := hq
  refine lv_if_ne (tgt := 15) hx hb dX7_span_4 (by decide) (fun c_2 => ?_) (fun c_2 => ?_)
  · have p_t := z01 inferInstance e_r_1 c_2
    refine lv_aload_n hx hb dX7_span_15 rfl (lv_at hl 0 rfl) ?_
    refine zget (ci := 6) (C := RX7) (T := TX7) (N := 11) hx hb hts hown hK w (by decide +kernel) 0 rfl rfl 1 (by decide) (hts (.fieldLink RX7 13 "ReelBarnModel" "rowsOf" "[I") (by decide +kernel)) (fun _ h9 => h9) rfl dX7_span_16 ?_
    refine lv_iload_n hx hb dX7_span_19 rfl (lv_at hl 1 rfl) ?_
    refine zm_iald hx hb hK w 2 rfl (zfour_in p_t) dX7_span_20 ?_
    refine lv_iconst (v := (-1)) hx hb dX7_span_21 (by decide) ?_
    refine lv_icmp_eq (tgt := 38) hx hb dX7_span_22 (by decide) (fun c_3 => ?_) (fun c_3 => ?_)
    · have p_y : ¬ (¬ (M 1 (zS t)) = -1 ∧ y = -1) := fun q => q.1 c_3
      refine lv_aload_n hx hb dX7_span_38 rfl (lv_at hl 0 rfl) ?_
      refine lv_iload_n hx hb dX7_span_39 rfl (lv_at hl 1 rfl) ?_
      refine lv_iload_n hx hb dX7_span_40 rfl (lv_at hl 2 rfl) ?_
      refine zCl w (va_runV (As := [.int t, .int y]) (rest := []) ⟨hx, hb, hml, hown, hts⟩ (kX7_againstRow l G ad t y p_t H.size) (cwV 2 hts gX7_span_X7_againstRow rfl rfl rfl (by decide +kernel) ⟨(Nat.le_of_ble_eq_true rfl), (Nat.le_of_ble_eq_true rfl)⟩) (zPV w hK (va_recv hK.1 w.1 (ci := 6) (q0 := 0) rfl rfl)) rfl rfl hl.1 rfl (lv_room (Nat.le_of_ble_eq_true rfl)) dX7_span_41 ⟨(Nat.le_of_ble_eq_true rfl), (Nat.le_of_ble_eq_true rfl)⟩) (fun r_4 u H locs hq w => ?_)
      obtain ⟨rfl, e_r⟩ := hq
      subst e_r
      refine lv_lstore_n (lv' := [(3, .long (mAR M t y)), (0, .ref (ad 0)), (1, .int t), (2, .int y)]) hx hb dX7_span_44 rfl hl (by decide) rfl (fun ls hl => ?_)
      refine lv_lload_n hx hb dX7_span_45 rfl (lv_at hl 0 rfl) ?_
      refine lv_lconst (v := 0) hx hb dX7_span_46 (by decide) ?_
      refine W.lcmp hx hb dX7_span_47 ?_
      refine lv_if_eq (tgt := 57) hx hb dX7_span_48 (by decide) (fun c_5 => ?_) (fun c_5 => ?_)
      · have p_f := zcmp0 c_5
        have hwi := mwx_in hI p_t p_f
        refine lv_aload_n hx hb dX7_span_57 rfl (lv_at hl 1 rfl) ?_
        refine zget (ci := 6) (C := RX7) (T := TX7) (N := 11) hx hb hts hown hK w (by decide +kernel) 0 rfl rfl 2 (by decide) (hts (.fieldLink RX7 16 "ReelBarnModel" "wall" "[I") (by decide +kernel)) (fun _ h9 => h9) rfl dX7_span_58 ?_
        refine lv_bipush (v := 12) hx hb dX7_span_61 (by decide) ?_
        refine lv_iload_n hx hb dX7_span_63 rfl (lv_at hl 2 rfl) ?_
        refine lv_imul hx hb dX7_span_64 ?_
        refine lv_iload_n hx hb dX7_span_65 rfl (lv_at hl 3 rfl) ?_
        refine lv_iadd hx hb dX7_span_66 ?_
        refine zm_iald hx hb hK w 3 rfl hwi dX7_span_67 ?_
        refine lv_istore (lv' := [(5, .int (M 2 (((12 * t) + y).toNatClampNeg))), (3, .long (mAR M t y)), (0, .ref (ad 0)), (1, .int t), (2, .int y)]) hx hb dX7_span_68 hl (by decide) rfl (fun ls hl => ?_)
        refine lv_iload hx hb dX7_span_70 (lv_at hl 0 rfl) ?_
        refine lv_iconst (v := (-1)) hx hb dX7_span_72 (by decide) ?_
        refine lv_icmp_ne (tgt := 86) hx hb dX7_span_73 (by decide) (fun c_6 => ?_) (fun c_6 => ?_)
        · have p_v := c_6
          refine lv_aload_n hx hb dX7_span_86 rfl (lv_at hl 2 rfl) ?_
          refine zget (ci := 6) (C := RX7) (T := TX7) (N := 11) hx hb hts hown hK w (by decide +kernel) 0 rfl rfl 3 (by decide) (hts (.fieldLink RX7 19 "ReelBarnModel" "sizes" "[I") (by decide +kernel)) (fun _ h9 => h9) rfl dX7_span_87 ?_
          refine lv_iload hx hb dX7_span_90 (lv_at hl 0 rfl) ?_
          refine zm_iald hx hb hK w 4 rfl (mP_in (hI.2.1 _ (zin_lt hwi)) p_v) dX7_span_92 ?_
          refine lv_i2l hx hb dX7_span_93 rfl ?_
          exact zRl hx hb hr hlk w dX7_span_94 (Nat.le_of_ble_eq_true rfl) (Nat.le_of_ble_eq_true rfl) (by show (if _ then _ else _); rw [if_pos p_t]; (first | rw [if_pos p_y] | rw [if_neg p_y]); (first | rw [if_pos p_f] | rw [if_neg p_f]); (first | rw [if_pos p_v] | rw [if_neg p_v]); (first | exact ⟨rfl, rfl⟩ | simp [va_up]))
        · have p_v := c_6
          refine lv_aload_n hx hb dX7_span_76 rfl (lv_at hl 2 rfl) ?_
          refine lv_ldc2 hx hb hown (hts (.constantLong RX7 98 (7696581394432)) (by decide +kernel)) dX7_span_77 ?_
          refine zCl w (va_runV (As := [.long 7696581394432]) (rest := []) ⟨hx, hb, hml, hown, hts⟩ (kX7_refuse l G ad zBARE zW7 H.size) (cwV 1 hts gX7_span_X7_refuse rfl rfl rfl (by decide +kernel) ⟨(Nat.le_of_ble_eq_true rfl), (Nat.le_of_ble_eq_true rfl)⟩) (zPV w hK (va_recv hK.1 w.1 (ci := 6) (q0 := 0) rfl rfl)) rfl rfl hl.1 rfl (lv_room (Nat.le_of_ble_eq_true rfl)) dX7_span_80 ⟨(Nat.le_of_ble_eq_true rfl), (Nat.le_of_ble_eq_true rfl)⟩) (fun r_7 u H locs hq w => ?_)
          obtain ⟨rfl, e_r⟩ := hq
          subst e_r
          refine lv_goto (tgt := 94) hx hb dX7_span_83 (by decide) ?_
          exact zRl hx hb hr hlk w dX7_span_94 (Nat.le_of_ble_eq_true rfl) (Nat.le_of_ble_eq_true rfl) (by show (if _ then _ else _); rw [if_pos p_t]; (first | rw [if_pos p_y] | rw [if_neg p_y]); (first | rw [if_pos p_f] | rw [if_neg p_f]); (first | rw [if_pos p_v] | rw [if_neg p_v]); (first | exact ⟨rfl, rfl⟩ | simp [va_up]))
      · have p_f := zcmp1 c_5
        refine lv_aload_n hx hb dX7_span_51 rfl (lv_at hl 1 rfl) ?_
        refine lv_lload_n hx hb dX7_span_52 rfl (lv_at hl 0 rfl) ?_
        refine zCl w (va_runV (As := [.long (mAR M t y)]) (rest := []) ⟨hx, hb, hml, hown, hts⟩ (kX7_refuse l G ad (mAR M t y) (mAR_why p_f) H.size) (cwV 1 hts gX7_span_X7_refuse rfl rfl rfl (by decide +kernel) ⟨(Nat.le_of_ble_eq_true rfl), (Nat.le_of_ble_eq_true rfl)⟩) (zPV w hK (va_recv hK.1 w.1 (ci := 6) (q0 := 0) rfl rfl)) rfl rfl hl.1 rfl (lv_room (Nat.le_of_ble_eq_true rfl)) dX7_span_53 ⟨(Nat.le_of_ble_eq_true rfl), (Nat.le_of_ble_eq_true rfl)⟩) (fun r_8 u H locs hq w => ?_)
        obtain ⟨rfl, e_r⟩ := hq
        subst e_r
        exact zRl hx hb hr hlk w dX7_span_56 (Nat.le_of_ble_eq_true rfl) (Nat.le_of_ble_eq_true rfl) (by show (if _ then _ else _); rw [if_pos p_t]; (first | rw [if_pos p_y] | rw [if_neg p_y]); (first | rw [if_pos p_f] | rw [if_neg p_f]); (first | exact ⟨rfl, rfl⟩ | simp [va_up]))
    · have q_r := c_3
      refine lv_iload_n hx hb dX7_span_25 rfl (lv_at hl 2 rfl) ?_
      refine lv_iconst (v := (-1)) hx hb dX7_span_26 (by decide) ?_
      refine lv_icmp_ne (tgt := 38) hx hb dX7_span_27 (by decide) (fun c_9 => ?_) (fun c_9 => ?_)
      · have p_y : ¬ (¬ (M 1 (zS t)) = -1 ∧ y = -1) := fun q => c_9 q.2
        refine lv_aload_n hx hb dX7_span_38 rfl (lv_at hl 0 rfl) ?_
        refine lv_iload_n hx hb dX7_span_39 rfl (lv_at hl 1 rfl) ?_
        refine lv_iload_n hx hb dX7_span_40 rfl (lv_at hl 2 rfl) ?_
        refine zCl w (va_runV (As := [.int t, .int y]) (rest := []) ⟨hx, hb, hml, hown, hts⟩ (kX7_againstRow l G ad t y p_t H.size) (cwV 2 hts gX7_span_X7_againstRow rfl rfl rfl (by decide +kernel) ⟨(Nat.le_of_ble_eq_true rfl), (Nat.le_of_ble_eq_true rfl)⟩) (zPV w hK (va_recv hK.1 w.1 (ci := 6) (q0 := 0) rfl rfl)) rfl rfl hl.1 rfl (lv_room (Nat.le_of_ble_eq_true rfl)) dX7_span_41 ⟨(Nat.le_of_ble_eq_true rfl), (Nat.le_of_ble_eq_true rfl)⟩) (fun r_10 u H locs hq w => ?_)
        obtain ⟨rfl, e_r⟩ := hq
        subst e_r
        refine lv_lstore_n (lv' := [(3, .long (mAR M t y)), (0, .ref (ad 0)), (1, .int t), (2, .int y)]) hx hb dX7_span_44 rfl hl (by decide) rfl (fun ls hl => ?_)
        refine lv_lload_n hx hb dX7_span_45 rfl (lv_at hl 0 rfl) ?_
        refine lv_lconst (v := 0) hx hb dX7_span_46 (by decide) ?_
        refine W.lcmp hx hb dX7_span_47 ?_
        refine lv_if_eq (tgt := 57) hx hb dX7_span_48 (by decide) (fun c_11 => ?_) (fun c_11 => ?_)
        · have p_f := zcmp0 c_11
          have hwi := mwx_in hI p_t p_f
          refine lv_aload_n hx hb dX7_span_57 rfl (lv_at hl 1 rfl) ?_
          refine zget (ci := 6) (C := RX7) (T := TX7) (N := 11) hx hb hts hown hK w (by decide +kernel) 0 rfl rfl 2 (by decide) (hts (.fieldLink RX7 16 "ReelBarnModel" "wall" "[I") (by decide +kernel)) (fun _ h9 => h9) rfl dX7_span_58 ?_
          refine lv_bipush (v := 12) hx hb dX7_span_61 (by decide) ?_
          refine lv_iload_n hx hb dX7_span_63 rfl (lv_at hl 2 rfl) ?_
          refine lv_imul hx hb dX7_span_64 ?_
          refine lv_iload_n hx hb dX7_span_65 rfl (lv_at hl 3 rfl) ?_
          refine lv_iadd hx hb dX7_span_66 ?_
          refine zm_iald hx hb hK w 3 rfl hwi dX7_span_67 ?_
          refine lv_istore (lv' := [(5, .int (M 2 (((12 * t) + y).toNatClampNeg))), (3, .long (mAR M t y)), (0, .ref (ad 0)), (1, .int t), (2, .int y)]) hx hb dX7_span_68 hl (by decide) rfl (fun ls hl => ?_)
          refine lv_iload hx hb dX7_span_70 (lv_at hl 0 rfl) ?_
          refine lv_iconst (v := (-1)) hx hb dX7_span_72 (by decide) ?_
          refine lv_icmp_ne (tgt := 86) hx hb dX7_span_73 (by decide) (fun c_12 => ?_) (fun c_12 => ?_)
          · have p_v := c_12
            refine lv_aload_n hx hb dX7_span_86 rfl (lv_at hl 2 rfl) ?_
            refine zget (ci := 6) (C := RX7) (T := TX7) (N := 11) hx hb hts hown hK w (by decide +kernel) 0 rfl rfl 3 (by decide) (hts (.fieldLink RX7 19 "ReelBarnModel" "sizes" "[I") (by decide +kernel)) (fun _ h9 => h9) rfl dX7_span_87 ?_
            refine lv_iload hx hb dX7_span_90 (lv_at hl 0 rfl) ?_
            refine zm_iald hx hb hK w 4 rfl (mP_in (hI.2.1 _ (zin_lt hwi)) p_v) dX7_span_92 ?_
            refine lv_i2l hx hb dX7_span_93 rfl ?_
            exact zRl hx hb hr hlk w dX7_span_94 (Nat.le_of_ble_eq_true rfl) (Nat.le_of_ble_eq_true rfl) (by show (if _ then _ else _); rw [if_pos p_t]; (first | rw [if_pos p_y] | rw [if_neg p_y]); (first | rw [if_pos p_f] | rw [if_neg p_f]); (first | rw [if_pos p_v] | rw [if_neg p_v]); (first | exact ⟨rfl, rfl⟩ | simp [va_up]))
          · have p_v := c_12
            refine lv_aload_n hx hb dX7_span_76 rfl (lv_at hl 2 rfl) ?_
            refine lv_ldc2 hx hb hown (hts (.constantLong RX7 98 (7696581394432)) (by decide +kernel)) dX7_span_77 ?_
            refine zCl w (va_runV (As := [.long 7696581394432]) (rest := []) ⟨hx, hb, hml, hown, hts⟩ (kX7_refuse l G ad zBARE zW7 H.size) (cwV 1 hts gX7_span_X7_refuse rfl rfl rfl (by decide +kernel) ⟨(Nat.le_of_ble_eq_true rfl), (Nat.le_of_ble_eq_true rfl)⟩) (zPV w hK (va_recv hK.1 w.1 (ci := 6) (q0 := 0) rfl rfl)) rfl rfl hl.1 rfl (lv_room (Nat.le_of_ble_eq_true rfl)) dX7_span_80 ⟨(Nat.le_of_ble_eq_true rfl), (Nat.le_of_ble_eq_true rfl)⟩) (fun r_13 u H locs hq w => ?_)
            obtain ⟨rfl, e_r⟩ := hq
            subst e_r
            refine lv_goto (tgt := 94) hx hb dX7_span_83 (by decide) ?_
            exact zRl hx hb hr hlk w dX7_span_94 (Nat.le_of_ble_eq_true rfl) (Nat.le_of_ble_eq_true rfl) (by show (if _ then _ else _); rw [if_pos p_t]; (first | rw [if_pos p_y] | rw [if_neg p_y]); (first | rw [if_pos p_f] | rw [if_neg p_f]); (first | rw [if_pos p_v] | rw [if_neg p_v]); (first | exact ⟨rfl, rfl⟩ | simp [va_up]))
        · have p_f := zcmp1 c_11
          refine lv_aload_n hx hb dX7_span_51 rfl (lv_at hl 1 rfl) ?_
          refine lv_lload_n hx hb dX7_span_52 rfl (lv_at hl 0 rfl) ?_
          refine zCl w (va_runV (As := [.long (mAR M t y)]) (rest := []) ⟨hx, hb, hml, hown, hts⟩ (kX7_refuse l G ad (mAR M t y) (mAR_why p_f) H.size) (cwV 1 hts gX7_span_X7_refuse rfl rfl rfl (by decide +kernel) ⟨(Nat.le_of_ble_eq_true rfl), (Nat.le_of_ble_eq_true rfl)⟩) (zPV w hK (va_recv hK.1 w.1 (ci := 6) (q0 := 0) rfl rfl)) rfl rfl hl.1 rfl (lv_room (Nat.le_of_ble_eq_true rfl)) dX7_span_53 ⟨(Nat.le_of_ble_eq_true rfl), (Nat.le_of_ble_eq_true rfl)⟩) (fun r_14 u H locs hq w => ?_)
          obtain ⟨rfl, e_r⟩ := hq
          subst e_r
          exact zRl hx hb hr hlk w dX7_span_56 (Nat.le_of_ble_eq_true rfl) (Nat.le_of_ble_eq_true rfl) (by show (if _ then _ else _); rw [if_pos p_t]; (first | rw [if_pos p_y] | rw [if_neg p_y]); (first | rw [if_pos p_f] | rw [if_neg p_f]); (first | exact ⟨rfl, rfl⟩ | simp [va_up]))
      · have p_y : ¬ (M 1 (zS t)) = -1 ∧ y = -1 := ⟨q_r, c_9⟩
        refine lv_aload_n hx hb dX7_span_30 rfl (lv_at hl 0 rfl) ?_
        refine zget (ci := 6) (C := RX7) (T := TX7) (N := 11) hx hb hts hown hK w (by decide +kernel) 0 rfl rfl 1 (by decide) (hts (.fieldLink RX7 13 "ReelBarnModel" "rowsOf" "[I") (by decide +kernel)) (fun _ h9 => h9) rfl dX7_span_31 ?_
        refine lv_iload_n hx hb dX7_span_34 rfl (lv_at hl 1 rfl) ?_
        refine zm_iald hx hb hK w 2 rfl (zfour_in p_t) dX7_span_35 ?_
        refine lv_i2l hx hb dX7_span_36 rfl ?_
        exact zRl hx hb hr hlk w dX7_span_37 (Nat.le_of_ble_eq_true rfl) (Nat.le_of_ble_eq_true rfl) (by show (if _ then _ else _); rw [if_pos p_t]; (first | rw [if_pos p_y] | rw [if_neg p_y]); (first | exact ⟨rfl, rfl⟩ | simp [va_up]))
  · have p_t := z00 inferInstance e_r_1 c_2
    refine lv_aload_n hx hb dX7_span_7 rfl (lv_at hl 0 rfl) ?_
    refine lv_ldc2 hx hb hown (hts (.constantLong RX7 59 (1099511627776)) (by decide +kernel)) dX7_span_8 ?_
    refine zCl w (va_runV (As := [.long 1099511627776]) (rest := []) ⟨hx, hb, hml, hown, hts⟩ (kX7_refuse l G ad zNONE zW1 H.size) (cwV 1 hts gX7_span_X7_refuse rfl rfl rfl (by decide +kernel) ⟨(Nat.le_of_ble_eq_true rfl), (Nat.le_of_ble_eq_true rfl)⟩) (zPV w hK (va_recv hK.1 w.1 (ci := 6) (q0 := 0) rfl rfl)) rfl rfl hl.1 rfl (lv_room (Nat.le_of_ble_eq_true rfl)) dX7_span_11 ⟨(Nat.le_of_ble_eq_true rfl), (Nat.le_of_ble_eq_true rfl)⟩) (fun r_15 u H locs hq w => ?_)
    obtain ⟨rfl, e_r⟩ := hq
    subst e_r
    exact zRl hx hb hr hlk w dX7_span_14 (Nat.le_of_ble_eq_true rfl) (Nat.le_of_ble_eq_true rfl) (by show (if _ then _ else _); rw [if_neg (fun q => p_t q)]; exact ⟨rfl, rfl⟩)
set_option maxHeartbeats 4000000 in
set_option maxRecDepth 100000 in
theorem kX7_tally (l : Launch) (G : zG) (ad : Nat → Nat) {M : Nat → Nat → Int32} {lev : Nat → UInt32} (hI : mI M lev) (what : Int32) (sz : Nat) : zMi l yX7_tally wsX7_tally { frames := 0, cells := 0, slots := 0, locals := 0 } G [.ref (ad 0), .int what] (mW G ad M lev) sz (fun r u => u = mW G ad M lev ∧ r = if ¬ what ≤ 0 ∧ ¬ 8 ≤ what then M 8 what.toNatClampNeg else 0) 0 0 := by
  refine zIn (Qc := fun A => va_Qi _ (zB G A) A) (cc := cX7_tally) (maxL := 2) (ret := (some .int)) (by decide) rfl (Nat.le_of_ble_eq_true rfl) ?_
  intro p e s m below meth c A ls hx hb hr hlk hml hts hown hnm hK w hl
  have hown : s.vm.findClass RX7 = some m.cls := hown
  have hl : lv_has ls 2 [(0, .ref (ad 0)), (1, .int what)] := hl
  refine lv_iload_n hx hb dX7_tally_0 rfl (lv_at hl 1 rfl) ?_
  refine lv_if_le (tgt := 19) hx hb dX7_tally_1 (by decide) (fun c_1 => ?_) (fun c_1 => ?_)
  · refine lv_iconst (v := 0) hx hb dX7_tally_19 (by decide) ?_
    exact zRi hx hb hr hlk w dX7_tally_20 (Nat.le_of_ble_eq_true rfl) (Nat.le_of_ble_eq_true rfl) ⟨rfl, by simp [c_1]⟩
  · refine lv_iload_n hx hb dX7_tally_4 rfl (lv_at hl 1 rfl) ?_
    refine lv_bipush (v := 8) hx hb dX7_tally_5 (by decide) ?_
    refine lv_icmp_ge (tgt := 19) hx hb dX7_tally_7 (by decide) (fun c_2 => ?_) (fun c_2 => ?_)
    · refine lv_iconst (v := 0) hx hb dX7_tally_19 (by decide) ?_
      exact zRi hx hb hr hlk w dX7_tally_20 (Nat.le_of_ble_eq_true rfl) (Nat.le_of_ble_eq_true rfl) ⟨rfl, by simp [c_1, c_2]⟩
    · refine lv_aload_n hx hb dX7_tally_10 rfl (lv_at hl 0 rfl) ?_
      refine zget (ci := 6) (C := RX7) (T := TX7) (N := 11) hx hb hts hown hK w (by decide +kernel) 0 rfl rfl 10 (by decide) (hts (.fieldLink RX7 40 "ReelBarnModel" "refused" "[I") (by decide +kernel)) (fun _ h9 => h9) rfl dX7_tally_11 ?_
      refine lv_iload_n hx hb dX7_tally_14 rfl (lv_at hl 1 rfl) ?_
      refine zm_iald hx hb hK w 9 rfl (mta_in c_1 c_2) dX7_tally_15 ?_
      refine lv_goto (tgt := 20) hx hb dX7_tally_16 (by decide) ?_
      exact zRi hx hb hr hlk w dX7_tally_20 (Nat.le_of_ble_eq_true rfl) (Nat.le_of_ble_eq_true rfl) ⟨rfl, by simp [c_1, c_2]⟩
set_option maxHeartbeats 4000000 in
set_option maxRecDepth 100000 in
theorem kX7_note (l : Launch) (G : zG) (ad : Nat → Nat) {M : Nat → Nat → Int32} {lev : Nat → UInt32} (hI : mI M lev) (y k x : Int32) (sz : Nat) : zMl l yX7_note wsX7_note { frames := 1, cells := 0, slots := 0, locals := 22 } G [.ref (ad 0), .int y, .int k, .int x] (mW G ad M lev) sz (fun r u => if (M 9 0) = -1 then mRefP G ad M lev zVACANT r u else if (¬ y < 0 ∧ ¬ (M 9 0) ≤ y) ∧ ¬ k < 0 ∧ k < (M 9 1) then (u = mW G ad (va_up M 7 (upd (M 7) (mwx y k) (M 7 (mwx y k) + x))) lev ∧ r = (M 7 (mwx y k) + x).toInt64) else mRefP G ad M lev zBEYOND r u) 0 0 := by
  refine zIn (Qc := fun A => va_Ql _ (zB G A) A) (cc := cX7_note) (maxL := 4) (ret := (some .long)) (by decide) rfl (Nat.le_of_ble_eq_true rfl) ?_
  intro p e s m below meth c A ls hx hb hr hlk hml hts hown hnm hK w hl
  have hown : s.vm.findClass RX7 = some m.cls := hown
  have hl : lv_has ls 4 [(0, .ref (ad 0)), (1, .int y), (2, .int k), (3, .int x)] := hl
  refine lv_aload_n hx hb dX7_note_0 rfl (lv_at hl 0 rfl) ?_
  refine zget (ci := 6) (C := RX7) (T := TX7) (N := 11) hx hb hts hown hK w (by decide +kernel) 0 rfl rfl 7 (by decide) (hts (.fieldLink RX7 33 "ReelBarnModel" "chartRows" "I") (by decide +kernel)) (fun _ h9 => h9) rfl dX7_note_1 ?_
  refine lv_iconst (v := (-1)) hx hb dX7_note_4 (by decide) ?_
  refine lv_icmp_ne (tgt := 16) hx hb dX7_note_5 (by decide) (fun c_1 => ?_) (fun c_1 => ?_)
  · have p_c := c_1
    refine lv_iload_n hx hb dX7_note_16 rfl (lv_at hl 1 rfl) ?_
    refine lv_if_lt (tgt := 40) hx hb dX7_note_17 (by decide) (fun c_2 => ?_) (fun c_2 => ?_)
    · have p_b : ¬ ((¬ y < 0 ∧ ¬ (M 9 0) ≤ y) ∧ ¬ k < 0 ∧ k < (M 9 1)) := fun q => q.1.1 c_2
      refine lv_aload_n hx hb dX7_note_40 rfl (lv_at hl 0 rfl) ?_
      refine lv_ldc2 hx hb hown (hts (.constantLong RX7 75 (3298534883328)) (by decide +kernel)) dX7_note_41 ?_
      refine zCl w (va_runV (As := [.long 3298534883328]) (rest := []) ⟨hx, hb, hml, hown, hts⟩ (kX7_refuse l G ad zBEYOND zW3 s.heap.size) (cwV 1 hts gX7_note_X7_refuse rfl rfl rfl (by decide +kernel) ⟨(Nat.le_of_ble_eq_true rfl), (Nat.le_of_ble_eq_true rfl)⟩) (zPV w hK (va_recv hK.1 w.1 (ci := 6) (q0 := 0) rfl rfl)) rfl rfl hl.1 rfl (lv_room (Nat.le_of_ble_eq_true rfl)) dX7_note_44 ⟨(Nat.le_of_ble_eq_true rfl), (Nat.le_of_ble_eq_true rfl)⟩) (fun r_3 u H locs hq w => ?_)
      obtain ⟨rfl, e_r⟩ := hq
      subst e_r
      exact zRl hx hb hr hlk w dX7_note_47 (Nat.le_of_ble_eq_true rfl) (Nat.le_of_ble_eq_true rfl) (by show (if _ then _ else _); (first | rw [if_pos p_c] | rw [if_neg p_c]); (first | rw [if_pos p_b] | rw [if_neg p_b]); (first | exact ⟨rfl, rfl⟩ | exact ⟨rfl, by simp [va_up, upd]⟩))
    · have q_1 := c_2
      refine lv_iload_n hx hb dX7_note_20 rfl (lv_at hl 1 rfl) ?_
      refine lv_aload_n hx hb dX7_note_21 rfl (lv_at hl 0 rfl) ?_
      refine zget (ci := 6) (C := RX7) (T := TX7) (N := 11) hx hb hts hown hK w (by decide +kernel) 0 rfl rfl 7 (by decide) (hts (.fieldLink RX7 33 "ReelBarnModel" "chartRows" "I") (by decide +kernel)) (fun _ h9 => h9) rfl dX7_note_22 ?_
      refine lv_icmp_ge (tgt := 40) hx hb dX7_note_25 (by decide) (fun c_4 => ?_) (fun c_4 => ?_)
      · have p_b : ¬ ((¬ y < 0 ∧ ¬ (M 9 0) ≤ y) ∧ ¬ k < 0 ∧ k < (M 9 1)) := fun q => q.1.2 c_4
        refine lv_aload_n hx hb dX7_note_40 rfl (lv_at hl 0 rfl) ?_
        refine lv_ldc2 hx hb hown (hts (.constantLong RX7 75 (3298534883328)) (by decide +kernel)) dX7_note_41 ?_
        refine zCl w (va_runV (As := [.long 3298534883328]) (rest := []) ⟨hx, hb, hml, hown, hts⟩ (kX7_refuse l G ad zBEYOND zW3 s.heap.size) (cwV 1 hts gX7_note_X7_refuse rfl rfl rfl (by decide +kernel) ⟨(Nat.le_of_ble_eq_true rfl), (Nat.le_of_ble_eq_true rfl)⟩) (zPV w hK (va_recv hK.1 w.1 (ci := 6) (q0 := 0) rfl rfl)) rfl rfl hl.1 rfl (lv_room (Nat.le_of_ble_eq_true rfl)) dX7_note_44 ⟨(Nat.le_of_ble_eq_true rfl), (Nat.le_of_ble_eq_true rfl)⟩) (fun r_5 u H locs hq w => ?_)
        obtain ⟨rfl, e_r⟩ := hq
        subst e_r
        exact zRl hx hb hr hlk w dX7_note_47 (Nat.le_of_ble_eq_true rfl) (Nat.le_of_ble_eq_true rfl) (by show (if _ then _ else _); (first | rw [if_pos p_c] | rw [if_neg p_c]); (first | rw [if_pos p_b] | rw [if_neg p_b]); (first | exact ⟨rfl, rfl⟩ | exact ⟨rfl, by simp [va_up, upd]⟩))
      · have q_2 := c_4
        refine lv_iload_n hx hb dX7_note_28 rfl (lv_at hl 2 rfl) ?_
        refine lv_if_lt (tgt := 40) hx hb dX7_note_29 (by decide) (fun c_6 => ?_) (fun c_6 => ?_)
        · have p_b : ¬ ((¬ y < 0 ∧ ¬ (M 9 0) ≤ y) ∧ ¬ k < 0 ∧ k < (M 9 1)) := fun q => q.2.1 c_6
          refine lv_aload_n hx hb dX7_note_40 rfl (lv_at hl 0 rfl) ?_
          refine lv_ldc2 hx hb hown (hts (.constantLong RX7 75 (3298534883328)) (by decide +kernel)) dX7_note_41 ?_
          refine zCl w (va_runV (As := [.long 3298534883328]) (rest := []) ⟨hx, hb, hml, hown, hts⟩ (kX7_refuse l G ad zBEYOND zW3 s.heap.size) (cwV 1 hts gX7_note_X7_refuse rfl rfl rfl (by decide +kernel) ⟨(Nat.le_of_ble_eq_true rfl), (Nat.le_of_ble_eq_true rfl)⟩) (zPV w hK (va_recv hK.1 w.1 (ci := 6) (q0 := 0) rfl rfl)) rfl rfl hl.1 rfl (lv_room (Nat.le_of_ble_eq_true rfl)) dX7_note_44 ⟨(Nat.le_of_ble_eq_true rfl), (Nat.le_of_ble_eq_true rfl)⟩) (fun r_7 u H locs hq w => ?_)
          obtain ⟨rfl, e_r⟩ := hq
          subst e_r
          exact zRl hx hb hr hlk w dX7_note_47 (Nat.le_of_ble_eq_true rfl) (Nat.le_of_ble_eq_true rfl) (by show (if _ then _ else _); (first | rw [if_pos p_c] | rw [if_neg p_c]); (first | rw [if_pos p_b] | rw [if_neg p_b]); (first | exact ⟨rfl, rfl⟩ | exact ⟨rfl, by simp [va_up, upd]⟩))
        · have q_3 := c_6
          refine lv_iload_n hx hb dX7_note_32 rfl (lv_at hl 2 rfl) ?_
          refine lv_aload_n hx hb dX7_note_33 rfl (lv_at hl 0 rfl) ?_
          refine zget (ci := 6) (C := RX7) (T := TX7) (N := 11) hx hb hts hown hK w (by decide +kernel) 0 rfl rfl 8 (by decide) (hts (.fieldLink RX7 103 "ReelBarnModel" "chartColumns" "I") (by decide +kernel)) (fun _ h9 => h9) rfl dX7_note_34 ?_
          refine lv_icmp_lt (tgt := 48) hx hb dX7_note_37 (by decide) (fun c_8 => ?_) (fun c_8 => ?_)
          · have p_b : (¬ y < 0 ∧ ¬ (M 9 0) ≤ y) ∧ ¬ k < 0 ∧ k < (M 9 1) := ⟨⟨q_1, q_2⟩, q_3, c_8⟩
            have hni := mnt_in hI p_c p_b
            refine lv_aload_n hx hb dX7_note_48 rfl (lv_at hl 0 rfl) ?_
            refine zget (ci := 6) (C := RX7) (T := TX7) (N := 11) hx hb hts hown hK w (by decide +kernel) 0 rfl rfl 9 (by decide) (hts (.fieldLink RX7 37 "ReelBarnModel" "charted" "[I") (by decide +kernel)) (fun _ h9 => h9) rfl dX7_note_49 ?_
            refine lv_bipush (v := 12) hx hb dX7_note_52 (by decide) ?_
            refine lv_iload_n hx hb dX7_note_54 rfl (lv_at hl 1 rfl) ?_
            refine lv_imul hx hb dX7_note_55 ?_
            refine lv_iload_n hx hb dX7_note_56 rfl (lv_at hl 2 rfl) ?_
            refine lv_iadd hx hb dX7_note_57 ?_
            refine lv_dup2_11 hx hb dX7_note_58 rfl rfl ?_
            refine zm_iald hx hb hK w 8 rfl hni dX7_note_59 ?_
            refine lv_iload_n hx hb dX7_note_60 rfl (lv_at hl 3 rfl) ?_
            refine lv_iadd hx hb dX7_note_61 ?_
            refine zm_iast hx hb hK w 8 rfl hni dX7_note_62 (fun H locs w => ?_)
            have w : zW G A s H locs (mW G ad (va_up M 7 (upd (M 7) (((12 * y) + k).toNatClampNeg) ((M 7 (((12 * y) + k).toNatClampNeg)) + x))) lev) := w
            refine lv_aload_n hx hb dX7_note_63 rfl (lv_at hl 0 rfl) ?_
            refine zget (ci := 6) (C := RX7) (T := TX7) (N := 11) hx hb hts hown hK w (by decide +kernel) 0 rfl rfl 9 (by decide) (hts (.fieldLink RX7 37 "ReelBarnModel" "charted" "[I") (by decide +kernel)) (fun _ h9 => h9) rfl dX7_note_64 ?_
            refine lv_bipush (v := 12) hx hb dX7_note_67 (by decide) ?_
            refine lv_iload_n hx hb dX7_note_69 rfl (lv_at hl 1 rfl) ?_
            refine lv_imul hx hb dX7_note_70 ?_
            refine lv_iload_n hx hb dX7_note_71 rfl (lv_at hl 2 rfl) ?_
            refine lv_iadd hx hb dX7_note_72 ?_
            refine zm_iald hx hb hK w 8 rfl hni dX7_note_73 ?_
            refine lv_i2l hx hb dX7_note_74 rfl ?_
            exact zRl hx hb hr hlk w dX7_note_75 (Nat.le_of_ble_eq_true rfl) (Nat.le_of_ble_eq_true rfl) (by show (if _ then _ else _); (first | rw [if_pos p_c] | rw [if_neg p_c]); (first | rw [if_pos p_b] | rw [if_neg p_b]); (first | exact ⟨rfl, rfl⟩ | exact ⟨rfl, by simp [va_up, upd]⟩))
          · have p_b : ¬ ((¬ y < 0 ∧ ¬ (M 9 0) ≤ y) ∧ ¬ k < 0 ∧ k < (M 9 1)) := fun q => c_8 q.2.2
            refine lv_aload_n hx hb dX7_note_40 rfl (lv_at hl 0 rfl) ?_
            refine lv_ldc2 hx hb hown (hts (.constantLong RX7 75 (3298534883328)) (by decide +kernel)) dX7_note_41 ?_
            refine zCl w (va_runV (As := [.long 3298534883328]) (rest := []) ⟨hx, hb, hml, hown, hts⟩ (kX7_refuse l G ad zBEYOND zW3 s.heap.size) (cwV 1 hts gX7_note_X7_refuse rfl rfl rfl (by decide +kernel) ⟨(Nat.le_of_ble_eq_true rfl), (Nat.le_of_ble_eq_true rfl)⟩) (zPV w hK (va_recv hK.1 w.1 (ci := 6) (q0 := 0) rfl rfl)) rfl rfl hl.1 rfl (lv_room (Nat.le_of_ble_eq_true rfl)) dX7_note_44 ⟨(Nat.le_of_ble_eq_true rfl), (Nat.le_of_ble_eq_true rfl)⟩) (fun r_9 u H locs hq w => ?_)
            obtain ⟨rfl, e_r⟩ := hq
            subst e_r
            exact zRl hx hb hr hlk w dX7_note_47 (Nat.le_of_ble_eq_true rfl) (Nat.le_of_ble_eq_true rfl) (by show (if _ then _ else _); (first | rw [if_pos p_c] | rw [if_neg p_c]); (first | rw [if_pos p_b] | rw [if_neg p_b]); (first | exact ⟨rfl, rfl⟩ | exact ⟨rfl, by simp [va_up, upd]⟩))
  · have p_c := c_1
    refine lv_aload_n hx hb dX7_note_8 rfl (lv_at hl 0 rfl) ?_
    refine lv_ldc2 hx hb hown (hts (.constantLong RX7 73 (2199023255552)) (by decide +kernel)) dX7_note_9 ?_
    refine zCl w (va_runV (As := [.long 2199023255552]) (rest := []) ⟨hx, hb, hml, hown, hts⟩ (kX7_refuse l G ad zVACANT zW2 s.heap.size) (cwV 1 hts gX7_note_X7_refuse rfl rfl rfl (by decide +kernel) ⟨(Nat.le_of_ble_eq_true rfl), (Nat.le_of_ble_eq_true rfl)⟩) (zPV w hK (va_recv hK.1 w.1 (ci := 6) (q0 := 0) rfl rfl)) rfl rfl hl.1 rfl (lv_room (Nat.le_of_ble_eq_true rfl)) dX7_note_12 ⟨(Nat.le_of_ble_eq_true rfl), (Nat.le_of_ble_eq_true rfl)⟩) (fun r_10 u H locs hq w => ?_)
    obtain ⟨rfl, e_r⟩ := hq
    subst e_r
    exact zRl hx hb hr hlk w dX7_note_15 (Nat.le_of_ble_eq_true rfl) (Nat.le_of_ble_eq_true rfl) (by show (if _ then _ else _); (first | rw [if_pos p_c] | rw [if_neg p_c]); (first | exact ⟨rfl, rfl⟩ | exact ⟨rfl, by simp [va_up, upd]⟩))
set_option maxHeartbeats 4000000 in
set_option maxRecDepth 100000 in
theorem kX7_blend (l : Launch) (G : zG) (ad : Nat → Nat) {M : Nat → Nat → Int32} {lev : Nat → UInt32} (hI : mI M lev) (d t i d2 t2 j less : Int32) (sz : Nat) : zMl l yX7_blend wsX7_blend { frames := 2, cells := 0, slots := 0, locals := 45 } G [.ref (ad 0), .int d, .int t, .int i, .int d2, .int t2, .int j, .int less] (mW G ad M lev) sz (fun r u => if zFour d ∧ zFour t ∧ zFour d2 ∧ zFour t2 ∧ (t = 3 ↔ t2 = 3) then (if (mAg M (M 0 (mix d2 t2)) j) = 0 then (if (mAg M (M 0 (mix d t)) i) = 0 then (if t = 3 then (u = mW G ad (va_up M 4 (upd (M 4) (mat (M 0 (mix d t)) i) (M 4 (mat (M 0 (mix d t)) i) ^^^ M 4 (mat (M 0 (mix d2 t2)) j)))) lev ∧ r = (mTo (va_up M 4 (upd (M 4) (mat (M 0 (mix d t)) i) (M 4 (mat (M 0 (mix d t)) i) ^^^ M 4 (mat (M 0 (mix d2 t2)) j)))) lev t (mat (M 0 (mix d t)) i)).toInt64) else if t = 2 ∨ t2 = 2 then (if t = 2 then (u = mW G ad M (vf_upd lev (mat (M 0 (mix d t)) i) (zHe (zBv less (if t = 2 then lev (mat (M 0 (mix d t)) i) else FP.i2f (M 4 (mat (M 0 (mix d t)) i))) (if t2 = 2 then lev (mat (M 0 (mix d2 t2)) j) else FP.i2f (M 4 (mat (M 0 (mix d2 t2)) j)))))) ∧ r = (mTo M (vf_upd lev (mat (M 0 (mix d t)) i) (zHe (zBv less (if t = 2 then lev (mat (M 0 (mix d t)) i) else FP.i2f (M 4 (mat (M 0 (mix d t)) i))) (if t2 = 2 then lev (mat (M 0 (mix d2 t2)) j) else FP.i2f (M 4 (mat (M 0 (mix d2 t2)) j)))))) t (mat (M 0 (mix d t)) i)).toInt64) else (u = mW G ad (mFM M t (mat (M 0 (mix d t)) i) (FP.f2i (zBv less (if t = 2 then lev (mat (M 0 (mix d t)) i) else FP.i2f (M 4 (mat (M 0 (mix d t)) i))) (if t2 = 2 then lev (mat (M 0 (mix d2 t2)) j) else FP.i2f (M 4 (mat (M 0 (mix d2 t2)) j)))))) (mFL lev t (mat (M 0 (mix d t)) i) (zEi (FP.f2i (zBv less (if t = 2 then lev (mat (M 0 (mix d t)) i) else FP.i2f (M 4 (mat (M 0 (mix d t)) i))) (if t2 = 2 then lev (mat (M 0 (mix d2 t2)) j) else FP.i2f (M 4 (mat (M 0 (mix d2 t2)) j))))))) ∧ r = (mTo (mFM M t (mat (M 0 (mix d t)) i) (FP.f2i (zBv less (if t = 2 then lev (mat (M 0 (mix d t)) i) else FP.i2f (M 4 (mat (M 0 (mix d t)) i))) (if t2 = 2 then lev (mat (M 0 (mix d2 t2)) j) else FP.i2f (M 4 (mat (M 0 (mix d2 t2)) j)))))) (mFL lev t (mat (M 0 (mix d t)) i) (zEi (FP.f2i (zBv less (if t = 2 then lev (mat (M 0 (mix d t)) i) else FP.i2f (M 4 (mat (M 0 (mix d t)) i))) (if t2 = 2 then lev (mat (M 0 (mix d2 t2)) j) else FP.i2f (M 4 (mat (M 0 (mix d2 t2)) j))))))) t (mat (M 0 (mix d t)) i)).toInt64)) else (u = mW G ad (mFM M t (mat (M 0 (mix d t)) i) (if less = 0 then M 4 (mat (M 0 (mix d t)) i) + M 4 (mat (M 0 (mix d2 t2)) j) else M 4 (mat (M 0 (mix d t)) i) - M 4 (mat (M 0 (mix d2 t2)) j))) (mFL lev t (mat (M 0 (mix d t)) i) (zEi (if less = 0 then M 4 (mat (M 0 (mix d t)) i) + M 4 (mat (M 0 (mix d2 t2)) j) else M 4 (mat (M 0 (mix d t)) i) - M 4 (mat (M 0 (mix d2 t2)) j)))) ∧ r = (mTo (mFM M t (mat (M 0 (mix d t)) i) (if less = 0 then M 4 (mat (M 0 (mix d t)) i) + M 4 (mat (M 0 (mix d2 t2)) j) else M 4 (mat (M 0 (mix d t)) i) - M 4 (mat (M 0 (mix d2 t2)) j))) (mFL lev t (mat (M 0 (mix d t)) i) (zEi (if less = 0 then M 4 (mat (M 0 (mix d t)) i) + M 4 (mat (M 0 (mix d2 t2)) j) else M 4 (mat (M 0 (mix d t)) i) - M 4 (mat (M 0 (mix d2 t2)) j)))) t (mat (M 0 (mix d t)) i)).toInt64)) else mRefP G ad M lev (mAg M (M 0 (mix d t)) i) r u) else mRefP G ad M lev (mAg M (M 0 (mix d2 t2)) j) r u) else mRefP G ad M lev zNONE r u) 0 0 := by
  refine zIn (Qc := fun A => va_Ql _ (zB G A) A) (cc := cX7_blend) (maxL := 17) (ret := (some .long)) (by decide) rfl (Nat.le_of_ble_eq_true rfl) ?_
  intro p e s m below meth c A ls hx hb hr hlk hml hts hown hnm hK w hl
  have hown : s.vm.findClass RX7 = some m.cls := hown
  have hl : lv_has ls 17 [(0, .ref (ad 0)), (1, .int d), (2, .int t), (3, .int i), (4, .int d2), (5, .int t2), (6, .int j), (7, .int less)] := hl
  refine lv_iload_n hx hb dX7_blend_0 rfl (lv_at hl 1 rfl) ?_
  refine zCi w (va_runS (As := [.int d]) (rest := []) ⟨hx, hb, hml, hown, hts⟩ (kX7_isFour l G _ d s.heap.size) (va_cwS 1 hts gX7_blend_X7_isFour rfl rfl rfl (by decide +kernel) ⟨(Nat.le_of_ble_eq_true rfl), (Nat.le_of_ble_eq_true rfl)⟩) (zPS w hK) rfl rfl hl.1 rfl (lv_room (Nat.le_of_ble_eq_true rfl)) dX7_blend_1 ⟨(Nat.le_of_ble_eq_true rfl), (Nat.le_of_ble_eq_true rfl)⟩) (fun r_1 u H locs hq w => ?_)
  obtain ⟨rfl, e_r_1⟩ := hq
  refine lv_if_eq (tgt := 54) hx hb dX7_blend_4 (by decide) (fun c_2 => ?_) (fun c_2 => ?_)
  · have p_d := z00 inferInstance e_r_1 c_2
    refine lv_aload_n hx hb dX7_blend_54 rfl (lv_at hl 0 rfl) ?_
    refine lv_ldc2 hx hb hown (hts (.constantLong RX7 59 (1099511627776)) (by decide +kernel)) dX7_blend_55 ?_
    refine zCl w (va_runV (As := [.long 1099511627776]) (rest := []) ⟨hx, hb, hml, hown, hts⟩ (kX7_refuse l G ad zNONE zW1 H.size) (cwV 1 hts gX7_blend_X7_refuse rfl rfl rfl (by decide +kernel) ⟨(Nat.le_of_ble_eq_true rfl), (Nat.le_of_ble_eq_true rfl)⟩) (zPV w hK (va_recv hK.1 w.1 (ci := 6) (q0 := 0) rfl rfl)) rfl rfl hl.1 rfl (lv_room (Nat.le_of_ble_eq_true rfl)) dX7_blend_58 ⟨(Nat.le_of_ble_eq_true rfl), (Nat.le_of_ble_eq_true rfl)⟩) (fun r_3 u H locs hq w => ?_)
    obtain ⟨rfl, e_r⟩ := hq
    subst e_r
    exact zRl hx hb hr hlk w dX7_blend_61 (Nat.le_of_ble_eq_true rfl) (Nat.le_of_ble_eq_true rfl) (by show (if _ then _ else _); rw [if_neg (fun q => p_d q.1)]; exact ⟨rfl, rfl⟩)
  · have p_d := z01 inferInstance e_r_1 c_2
    refine lv_iload_n hx hb dX7_blend_7 rfl (lv_at hl 2 rfl) ?_
    refine zCi w (va_runS (As := [.int t]) (rest := []) ⟨hx, hb, hml, hown, hts⟩ (kX7_isFour l G _ t H.size) (va_cwS 1 hts gX7_blend_X7_isFour rfl rfl rfl (by decide +kernel) ⟨(Nat.le_of_ble_eq_true rfl), (Nat.le_of_ble_eq_true rfl)⟩) (zPS w hK) rfl rfl hl.1 rfl (lv_room (Nat.le_of_ble_eq_true rfl)) dX7_blend_8 ⟨(Nat.le_of_ble_eq_true rfl), (Nat.le_of_ble_eq_true rfl)⟩) (fun r_4 u H locs hq w => ?_)
    obtain ⟨rfl, e_r_4⟩ := hq
    refine lv_if_eq (tgt := 54) hx hb dX7_blend_11 (by decide) (fun c_5 => ?_) (fun c_5 => ?_)
    · have p_t := z00 inferInstance e_r_4 c_5
      refine lv_aload_n hx hb dX7_blend_54 rfl (lv_at hl 0 rfl) ?_
      refine lv_ldc2 hx hb hown (hts (.constantLong RX7 59 (1099511627776)) (by decide +kernel)) dX7_blend_55 ?_
      refine zCl w (va_runV (As := [.long 1099511627776]) (rest := []) ⟨hx, hb, hml, hown, hts⟩ (kX7_refuse l G ad zNONE zW1 H.size) (cwV 1 hts gX7_blend_X7_refuse rfl rfl rfl (by decide +kernel) ⟨(Nat.le_of_ble_eq_true rfl), (Nat.le_of_ble_eq_true rfl)⟩) (zPV w hK (va_recv hK.1 w.1 (ci := 6) (q0 := 0) rfl rfl)) rfl rfl hl.1 rfl (lv_room (Nat.le_of_ble_eq_true rfl)) dX7_blend_58 ⟨(Nat.le_of_ble_eq_true rfl), (Nat.le_of_ble_eq_true rfl)⟩) (fun r_6 u H locs hq w => ?_)
      obtain ⟨rfl, e_r⟩ := hq
      subst e_r
      exact zRl hx hb hr hlk w dX7_blend_61 (Nat.le_of_ble_eq_true rfl) (Nat.le_of_ble_eq_true rfl) (by show (if _ then _ else _); rw [if_neg (fun q => p_t q.2.1)]; exact ⟨rfl, rfl⟩)
    · have p_t := z01 inferInstance e_r_4 c_5
      refine lv_iload hx hb dX7_blend_14 (lv_at hl 4 rfl) ?_
      refine zCi w (va_runS (As := [.int d2]) (rest := []) ⟨hx, hb, hml, hown, hts⟩ (kX7_isFour l G _ d2 H.size) (va_cwS 1 hts gX7_blend_X7_isFour rfl rfl rfl (by decide +kernel) ⟨(Nat.le_of_ble_eq_true rfl), (Nat.le_of_ble_eq_true rfl)⟩) (zPS w hK) rfl rfl hl.1 rfl (lv_room (Nat.le_of_ble_eq_true rfl)) dX7_blend_16 ⟨(Nat.le_of_ble_eq_true rfl), (Nat.le_of_ble_eq_true rfl)⟩) (fun r_7 u H locs hq w => ?_)
      obtain ⟨rfl, e_r_7⟩ := hq
      refine lv_if_eq (tgt := 54) hx hb dX7_blend_19 (by decide) (fun c_8 => ?_) (fun c_8 => ?_)
      · have p_e := z00 inferInstance e_r_7 c_8
        refine lv_aload_n hx hb dX7_blend_54 rfl (lv_at hl 0 rfl) ?_
        refine lv_ldc2 hx hb hown (hts (.constantLong RX7 59 (1099511627776)) (by decide +kernel)) dX7_blend_55 ?_
        refine zCl w (va_runV (As := [.long 1099511627776]) (rest := []) ⟨hx, hb, hml, hown, hts⟩ (kX7_refuse l G ad zNONE zW1 H.size) (cwV 1 hts gX7_blend_X7_refuse rfl rfl rfl (by decide +kernel) ⟨(Nat.le_of_ble_eq_true rfl), (Nat.le_of_ble_eq_true rfl)⟩) (zPV w hK (va_recv hK.1 w.1 (ci := 6) (q0 := 0) rfl rfl)) rfl rfl hl.1 rfl (lv_room (Nat.le_of_ble_eq_true rfl)) dX7_blend_58 ⟨(Nat.le_of_ble_eq_true rfl), (Nat.le_of_ble_eq_true rfl)⟩) (fun r_9 u H locs hq w => ?_)
        obtain ⟨rfl, e_r⟩ := hq
        subst e_r
        exact zRl hx hb hr hlk w dX7_blend_61 (Nat.le_of_ble_eq_true rfl) (Nat.le_of_ble_eq_true rfl) (by show (if _ then _ else _); rw [if_neg (fun q => p_e q.2.2.1)]; exact ⟨rfl, rfl⟩)
      · have p_e := z01 inferInstance e_r_7 c_8
        refine lv_iload hx hb dX7_blend_22 (lv_at hl 5 rfl) ?_
        refine zCi w (va_runS (As := [.int t2]) (rest := []) ⟨hx, hb, hml, hown, hts⟩ (kX7_isFour l G _ t2 H.size) (va_cwS 1 hts gX7_blend_X7_isFour rfl rfl rfl (by decide +kernel) ⟨(Nat.le_of_ble_eq_true rfl), (Nat.le_of_ble_eq_true rfl)⟩) (zPS w hK) rfl rfl hl.1 rfl (lv_room (Nat.le_of_ble_eq_true rfl)) dX7_blend_24 ⟨(Nat.le_of_ble_eq_true rfl), (Nat.le_of_ble_eq_true rfl)⟩) (fun r_10 u H locs hq w => ?_)
        obtain ⟨rfl, e_r_10⟩ := hq
        refine lv_if_eq (tgt := 54) hx hb dX7_blend_27 (by decide) (fun c_11 => ?_) (fun c_11 => ?_)
        · have p_u := z00 inferInstance e_r_10 c_11
          refine lv_aload_n hx hb dX7_blend_54 rfl (lv_at hl 0 rfl) ?_
          refine lv_ldc2 hx hb hown (hts (.constantLong RX7 59 (1099511627776)) (by decide +kernel)) dX7_blend_55 ?_
          refine zCl w (va_runV (As := [.long 1099511627776]) (rest := []) ⟨hx, hb, hml, hown, hts⟩ (kX7_refuse l G ad zNONE zW1 H.size) (cwV 1 hts gX7_blend_X7_refuse rfl rfl rfl (by decide +kernel) ⟨(Nat.le_of_ble_eq_true rfl), (Nat.le_of_ble_eq_true rfl)⟩) (zPV w hK (va_recv hK.1 w.1 (ci := 6) (q0 := 0) rfl rfl)) rfl rfl hl.1 rfl (lv_room (Nat.le_of_ble_eq_true rfl)) dX7_blend_58 ⟨(Nat.le_of_ble_eq_true rfl), (Nat.le_of_ble_eq_true rfl)⟩) (fun r_12 u H locs hq w => ?_)
          obtain ⟨rfl, e_r⟩ := hq
          subst e_r
          exact zRl hx hb hr hlk w dX7_blend_61 (Nat.le_of_ble_eq_true rfl) (Nat.le_of_ble_eq_true rfl) (by show (if _ then _ else _); rw [if_neg (fun q => p_u q.2.2.2.1)]; exact ⟨rfl, rfl⟩)
        · have p_u := z01 inferInstance e_r_10 c_11
          refine lv_iload_n hx hb dX7_blend_30 rfl (lv_at hl 2 rfl) ?_
          refine lv_iconst (v := 3) hx hb dX7_blend_31 (by decide) ?_
          refine lv_icmp_ne (tgt := 39) hx hb dX7_blend_32 (by decide) (fun c_13 => ?_) (fun c_13 => ?_)
          · have p_3 := c_13
            refine lv_iconst (v := 0) hx hb dX7_blend_39 (by decide) ?_
            refine lv_iload hx hb dX7_blend_40 (lv_at hl 5 rfl) ?_
            refine lv_iconst (v := 3) hx hb dX7_blend_42 (by decide) ?_
            refine lv_icmp_ne (tgt := 50) hx hb dX7_blend_43 (by decide) (fun c_14 => ?_) (fun c_14 => ?_)
            · have q_3 := c_14
              refine lv_iconst (v := 0) hx hb dX7_blend_50 (by decide) ?_
              refine lv_icmp_eq (tgt := 62) hx hb dX7_blend_51 (by decide) (fun c_15 => ?_) (fun c_15 => absurd (by decide) c_15)
              have p_k : t = 3 ↔ t2 = 3 := by simp [p_3, q_3]
              refine lv_aload_n hx hb dX7_blend_62 rfl (lv_at hl 0 rfl) ?_
              refine zget (ci := 6) (C := RX7) (T := TX7) (N := 11) hx hb hts hown hK w (by decide +kernel) 0 rfl rfl 0 (by decide) (hts (.fieldLink RX7 7 "ReelBarnModel" "carried" "[I") (by decide +kernel)) (fun _ h9 => h9) rfl dX7_blend_63 ?_
              refine lv_iconst (v := 4) hx hb dX7_blend_66 (by decide) ?_
              refine lv_iload hx hb dX7_blend_67 (lv_at hl 4 rfl) ?_
              refine lv_imul hx hb dX7_blend_69 ?_
              refine lv_iload hx hb dX7_blend_70 (lv_at hl 5 rfl) ?_
              refine lv_iadd hx hb dX7_blend_72 ?_
              refine zm_iald hx hb hK w 1 rfl (mix_in p_e p_u) dX7_blend_73 ?_
              refine lv_istore (lv' := [(8, .int (M 0 (((4 * d2) + t2).toNatClampNeg))), (0, .ref (ad 0)), (1, .int d), (2, .int t), (3, .int i), (4, .int d2), (5, .int t2), (6, .int j), (7, .int less)]) hx hb dX7_blend_74 hl (by decide) rfl (fun ls hl => ?_)
              refine lv_aload_n hx hb dX7_blend_76 rfl (lv_at hl 1 rfl) ?_
              refine zget (ci := 6) (C := RX7) (T := TX7) (N := 11) hx hb hts hown hK w (by decide +kernel) 0 rfl rfl 0 (by decide) (hts (.fieldLink RX7 7 "ReelBarnModel" "carried" "[I") (by decide +kernel)) (fun _ h9 => h9) rfl dX7_blend_77 ?_
              refine lv_iconst (v := 4) hx hb dX7_blend_80 (by decide) ?_
              refine lv_iload_n hx hb dX7_blend_81 rfl (lv_at hl 2 rfl) ?_
              refine lv_imul hx hb dX7_blend_82 ?_
              refine lv_iload_n hx hb dX7_blend_83 rfl (lv_at hl 3 rfl) ?_
              refine lv_iadd hx hb dX7_blend_84 ?_
              refine zm_iald hx hb hK w 1 rfl (mix_in p_d p_t) dX7_blend_85 ?_
              refine lv_istore (lv' := [(9, .int (M 0 (((4 * d) + t).toNatClampNeg))), (8, .int (M 0 (((4 * d2) + t2).toNatClampNeg))), (0, .ref (ad 0)), (1, .int d), (2, .int t), (3, .int i), (4, .int d2), (5, .int t2), (6, .int j), (7, .int less)]) hx hb dX7_blend_86 hl (by decide) rfl (fun ls hl => ?_)
              refine lv_aload_n hx hb dX7_blend_88 rfl (lv_at hl 2 rfl) ?_
              refine lv_iload hx hb dX7_blend_89 (lv_at hl 1 rfl) ?_
              refine lv_iload hx hb dX7_blend_91 (lv_at hl 8 rfl) ?_
              refine zCl w (va_runV (As := [.int (M 0 (((4 * d2) + t2).toNatClampNeg)), .int j]) (rest := []) ⟨hx, hb, hml, hown, hts⟩ (kX7_against l G ad hI (M 0 (mix d2 t2)) j (hI.1 _ (mix_lt p_e p_u)) H.size) (cwV 2 hts gX7_blend_X7_against rfl rfl rfl (by decide +kernel) ⟨(Nat.le_of_ble_eq_true rfl), (Nat.le_of_ble_eq_true rfl)⟩) (zPV w hK (va_recv hK.1 w.1 (ci := 6) (q0 := 0) rfl rfl)) rfl rfl hl.1 rfl (lv_room (Nat.le_of_ble_eq_true rfl)) dX7_blend_93 ⟨(Nat.le_of_ble_eq_true rfl), (Nat.le_of_ble_eq_true rfl)⟩) (fun r_16 u H locs hq w => ?_)
              obtain ⟨rfl, e_r⟩ := hq
              subst e_r
              refine lv_lstore (lv' := [(10, .long (mAg M (M 0 (mix d2 t2)) j)), (9, .int (M 0 (((4 * d) + t).toNatClampNeg))), (8, .int (M 0 (((4 * d2) + t2).toNatClampNeg))), (0, .ref (ad 0)), (1, .int d), (2, .int t), (3, .int i), (4, .int d2), (5, .int t2), (6, .int j), (7, .int less)]) hx hb dX7_blend_96 hl (by decide) rfl (fun ls hl => ?_)
              refine lv_lload hx hb dX7_blend_98 (lv_at hl 0 rfl) ?_
              refine lv_lconst (v := 0) hx hb dX7_blend_100 (by decide) ?_
              refine W.lcmp hx hb dX7_blend_101 ?_
              refine lv_if_eq (tgt := 110) hx hb dX7_blend_102 (by decide) (fun c_17 => ?_) (fun c_17 => ?_)
              · have p_g := zcmp0 c_17
                obtain ⟨hv2, hhs2⟩ := mAg_0 p_g
                have hat2 := mat_in hI (hI.1 _ (mix_lt p_e p_u)) hv2 hhs2
                have hfl2 := hI.2.2.2.2.1 _ (zin_lt hat2)
                refine lv_aload_n hx hb dX7_blend_110 rfl (lv_at hl 3 rfl) ?_
                refine lv_iload hx hb dX7_blend_111 (lv_at hl 1 rfl) ?_
                refine lv_iload_n hx hb dX7_blend_113 rfl (lv_at hl 6 rfl) ?_
                refine zCl w (va_runV (As := [.int (M 0 (((4 * d) + t).toNatClampNeg)), .int i]) (rest := []) ⟨hx, hb, hml, hown, hts⟩ (kX7_against l G ad hI (M 0 (mix d t)) i (hI.1 _ (mix_lt p_d p_t)) H.size) (cwV 2 hts gX7_blend_X7_against rfl rfl rfl (by decide +kernel) ⟨(Nat.le_of_ble_eq_true rfl), (Nat.le_of_ble_eq_true rfl)⟩) (zPV w hK (va_recv hK.1 w.1 (ci := 6) (q0 := 0) rfl rfl)) rfl rfl hl.1 rfl (lv_room (Nat.le_of_ble_eq_true rfl)) dX7_blend_114 ⟨(Nat.le_of_ble_eq_true rfl), (Nat.le_of_ble_eq_true rfl)⟩) (fun r_18 u H locs hq w => ?_)
                obtain ⟨rfl, e_r⟩ := hq
                subst e_r
                refine lv_lstore (lv' := [(10, .long (mAg M (M 0 (mix d t)) i)), (9, .int (M 0 (((4 * d) + t).toNatClampNeg))), (8, .int (M 0 (((4 * d2) + t2).toNatClampNeg))), (0, .ref (ad 0)), (1, .int d), (2, .int t), (3, .int i), (4, .int d2), (5, .int t2), (6, .int j), (7, .int less)]) hx hb dX7_blend_117 hl (by decide) rfl (fun ls hl => ?_)
                refine lv_lload hx hb dX7_blend_119 (lv_at hl 0 rfl) ?_
                refine lv_lconst (v := 0) hx hb dX7_blend_121 (by decide) ?_
                refine W.lcmp hx hb dX7_blend_122 ?_
                refine lv_if_eq (tgt := 133) hx hb dX7_blend_123 (by decide) (fun c_19 => ?_) (fun c_19 => ?_)
                · have p_f := zcmp0 c_19
                  obtain ⟨hv, hhs⟩ := mAg_0 p_f
                  have hmP := hI.1 _ (mix_lt p_d p_t)
                  have hat := mat_in hI hmP hv hhs
                  have hfl := hI.2.2.2.2.1 _ (zin_lt hat)
                  refine lv_bipush (v := 40) hx hb dX7_blend_133 (by decide) ?_
                  refine lv_iload hx hb dX7_blend_135 (lv_at hl 1 rfl) ?_
                  refine lv_imul hx hb dX7_blend_137 ?_
                  refine lv_iload_n hx hb dX7_blend_138 rfl (lv_at hl 6 rfl) ?_
                  refine lv_iadd hx hb dX7_blend_139 ?_
                  refine lv_istore (lv' := [(12, .int ((40 * (M 0 (((4 * d) + t).toNatClampNeg))) + i)), (10, .long (mAg M (M 0 (mix d t)) i)), (9, .int (M 0 (((4 * d) + t).toNatClampNeg))), (8, .int (M 0 (((4 * d2) + t2).toNatClampNeg))), (0, .ref (ad 0)), (1, .int d), (2, .int t), (3, .int i), (4, .int d2), (5, .int t2), (6, .int j), (7, .int less)]) hx hb dX7_blend_140 hl (by decide) rfl (fun ls hl => ?_)
                  refine lv_bipush (v := 40) hx hb dX7_blend_142 (by decide) ?_
                  refine lv_iload hx hb dX7_blend_144 (lv_at hl 3 rfl) ?_
                  refine lv_imul hx hb dX7_blend_146 ?_
                  refine lv_iload hx hb dX7_blend_147 (lv_at hl 10 rfl) ?_
                  refine lv_iadd hx hb dX7_blend_149 ?_
                  refine lv_istore (lv' := [(13, .int ((40 * (M 0 (((4 * d2) + t2).toNatClampNeg))) + j)), (12, .int ((40 * (M 0 (((4 * d) + t).toNatClampNeg))) + i)), (10, .long (mAg M (M 0 (mix d t)) i)), (9, .int (M 0 (((4 * d) + t).toNatClampNeg))), (8, .int (M 0 (((4 * d2) + t2).toNatClampNeg))), (0, .ref (ad 0)), (1, .int d), (2, .int t), (3, .int i), (4, .int d2), (5, .int t2), (6, .int j), (7, .int less)]) hx hb dX7_blend_150 hl (by decide) rfl (fun ls hl => ?_)
                  refine lv_iload_n hx hb dX7_blend_152 rfl (lv_at hl 7 rfl) ?_
                  refine lv_iconst (v := 3) hx hb dX7_blend_153 (by decide) ?_
                  refine lv_icmp_ne (tgt := 182) hx hb dX7_blend_154 (by decide) (fun c_20 => ?_) (fun c_20 => absurd c_20 p_3)
                  refine lv_iload_n hx hb dX7_blend_182 rfl (lv_at hl 7 rfl) ?_
                  refine lv_iconst (v := 2) hx hb dX7_blend_183 (by decide) ?_
                  refine lv_icmp_eq (tgt := 193) hx hb dX7_blend_184 (by decide) (fun c_21 => ?_) (fun c_21 => ?_)
                  · have p_2 := c_21
                    refine lv_iload_n hx hb dX7_blend_193 rfl (lv_at hl 7 rfl) ?_
                    refine lv_iconst (v := 2) hx hb dX7_blend_194 (by decide) ?_
                    refine lv_icmp_ne (tgt := 208) hx hb dX7_blend_195 (by decide) (fun c_22 => absurd p_2 c_22) (fun c_22 => ?_)
                    refine lv_aload_n hx hb dX7_blend_198 rfl (lv_at hl 5 rfl) ?_
                    refine zget (ci := 6) (C := RX7) (T := TX7) (N := 11) hx hb hts hown hK w (by decide +kernel) 0 rfl rfl 5 (by decide) (hts (.fieldLink RX7 25 "ReelBarnModel" "level" "[F") (by decide +kernel)) (fun _ h9 => h9) rfl dX7_blend_199 ?_
                    refine lv_iload hx hb dX7_blend_202 (lv_at hl 1 rfl) ?_
                    refine zm_fald hx hb hK w 6 rfl hat dX7_blend_204 ?_
                    refine lv_goto (tgt := 216) hx hb dX7_blend_205 (by decide) ?_
                    refine lv_fstore (lv' := [(14, .float (lev (((40 * (M 0 (((4 * d) + t).toNatClampNeg))) + i).toNatClampNeg))), (13, .int ((40 * (M 0 (((4 * d2) + t2).toNatClampNeg))) + j)), (12, .int ((40 * (M 0 (((4 * d) + t).toNatClampNeg))) + i)), (10, .long (mAg M (M 0 (mix d t)) i)), (9, .int (M 0 (((4 * d) + t).toNatClampNeg))), (8, .int (M 0 (((4 * d2) + t2).toNatClampNeg))), (0, .ref (ad 0)), (1, .int d), (2, .int t), (3, .int i), (4, .int d2), (5, .int t2), (6, .int j), (7, .int less)]) hx hb dX7_blend_216 hl (by decide) rfl (fun ls hl => ?_)
                    refine lv_iload hx hb dX7_blend_218 (lv_at hl 11 rfl) ?_
                    refine lv_iconst (v := 2) hx hb dX7_blend_220 (by decide) ?_
                    refine lv_icmp_ne (tgt := 234) hx hb dX7_blend_221 (by decide) (fun c_23 => ?_) (fun c_23 => ?_)
                    · have q_2 := c_23
                      refine lv_aload_n hx hb dX7_blend_234 rfl (lv_at hl 6 rfl) ?_
                      refine zget (ci := 6) (C := RX7) (T := TX7) (N := 11) hx hb hts hown hK w (by decide +kernel) 0 rfl rfl 4 (by decide) (hts (.fieldLink RX7 22 "ReelBarnModel" "whole" "[I") (by decide +kernel)) (fun _ h9 => h9) rfl dX7_blend_235 ?_
                      refine lv_iload hx hb dX7_blend_238 (lv_at hl 1 rfl) ?_
                      refine zm_iald hx hb hK w 5 rfl hat2 dX7_blend_240 ?_
                      refine lv_i2f hx hb dX7_blend_241 ?_
                      refine lv_fstore (lv' := [(15, .float (FP.i2f (M 4 (((40 * (M 0 (((4 * d2) + t2).toNatClampNeg))) + j).toNatClampNeg)))), (14, .float (lev (((40 * (M 0 (((4 * d) + t).toNatClampNeg))) + i).toNatClampNeg))), (13, .int ((40 * (M 0 (((4 * d2) + t2).toNatClampNeg))) + j)), (12, .int ((40 * (M 0 (((4 * d) + t).toNatClampNeg))) + i)), (10, .long (mAg M (M 0 (mix d t)) i)), (9, .int (M 0 (((4 * d) + t).toNatClampNeg))), (8, .int (M 0 (((4 * d2) + t2).toNatClampNeg))), (0, .ref (ad 0)), (1, .int d), (2, .int t), (3, .int i), (4, .int d2), (5, .int t2), (6, .int j), (7, .int less)]) hx hb dX7_blend_242 hl (by decide) rfl (fun ls hl => ?_)
                      refine lv_iload hx hb dX7_blend_244 (lv_at hl 14 rfl) ?_
                      refine lv_if_eq (tgt := 257) hx hb dX7_blend_246 (by decide) (fun c_24 => ?_) (fun c_24 => ?_)
                      · have p_l := c_24
                        refine lv_fload hx hb dX7_blend_257 (lv_at hl 1 rfl) ?_
                        refine lv_fload hx hb dX7_blend_259 (lv_at hl 0 rfl) ?_
                        refine lv_fadd hx hb dX7_blend_261 (zadd hfl (zfin_i2f _)) ?_
                        refine lv_fstore (lv' := [(16, .float (FP.fadd (lev (((40 * (M 0 (((4 * d) + t).toNatClampNeg))) + i).toNatClampNeg)) (FP.i2f (M 4 (((40 * (M 0 (((4 * d2) + t2).toNatClampNeg))) + j).toNatClampNeg))))), (15, .float (FP.i2f (M 4 (((40 * (M 0 (((4 * d2) + t2).toNatClampNeg))) + j).toNatClampNeg)))), (14, .float (lev (((40 * (M 0 (((4 * d) + t).toNatClampNeg))) + i).toNatClampNeg))), (13, .int ((40 * (M 0 (((4 * d2) + t2).toNatClampNeg))) + j)), (12, .int ((40 * (M 0 (((4 * d) + t).toNatClampNeg))) + i)), (10, .long (mAg M (M 0 (mix d t)) i)), (9, .int (M 0 (((4 * d) + t).toNatClampNeg))), (8, .int (M 0 (((4 * d2) + t2).toNatClampNeg))), (0, .ref (ad 0)), (1, .int d), (2, .int t), (3, .int i), (4, .int d2), (5, .int t2), (6, .int j), (7, .int less)]) hx hb dX7_blend_262 hl (by decide) rfl (fun ls hl => ?_)
                        refine lv_iload_n hx hb dX7_blend_264 rfl (lv_at hl 10 rfl) ?_
                        refine lv_iconst (v := 2) hx hb dX7_blend_265 (by decide) ?_
                        refine lv_icmp_ne (tgt := 284) hx hb dX7_blend_266 (by decide) (fun c_25 => absurd p_2 c_25) (fun c_25 => ?_)
                        refine lv_aload_n hx hb dX7_blend_269 rfl (lv_at hl 8 rfl) ?_
                        refine zget (ci := 6) (C := RX7) (T := TX7) (N := 11) hx hb hts hown hK w (by decide +kernel) 0 rfl rfl 5 (by decide) (hts (.fieldLink RX7 25 "ReelBarnModel" "level" "[F") (by decide +kernel)) (fun _ h9 => h9) rfl dX7_blend_270 ?_
                        refine lv_iload hx hb dX7_blend_273 (lv_at hl 4 rfl) ?_
                        refine lv_fload hx hb dX7_blend_275 (lv_at hl 0 rfl) ?_
                        refine zCf w (va_runS (As := [.float (FP.fadd (lev (((40 * (M 0 (((4 * d) + t).toNatClampNeg))) + i).toNatClampNeg)) (FP.i2f (M 4 (((40 * (M 0 (((4 * d2) + t2).toNatClampNeg))) + j).toNatClampNeg))))]) (rest := [.int ((40 * (M 0 (((4 * d) + t).toNatClampNeg))) + i), .ref (ad 6)]) ⟨hx, hb, hml, hown, hts⟩ (kX7_held l G _ (FP.fadd (lev (((40 * (M 0 (((4 * d) + t).toNatClampNeg))) + i).toNatClampNeg)) (FP.i2f (M 4 (((40 * (M 0 (((4 * d2) + t2).toNatClampNeg))) + j).toNatClampNeg)))) H.size) (va_cwS 1 hts gX7_blend_X7_held rfl rfl rfl (by decide +kernel) ⟨(Nat.le_of_ble_eq_true rfl), (Nat.le_of_ble_eq_true rfl)⟩) (zPS w hK) rfl rfl hl.1 rfl (lv_room (Nat.le_of_ble_eq_true rfl)) dX7_blend_277 ⟨(Nat.le_of_ble_eq_true rfl), (Nat.le_of_ble_eq_true rfl)⟩) (fun r_26 u H locs hq w => ?_)
                        obtain ⟨rfl, e_r⟩ := hq
                        subst e_r
                        refine zm_fast hx hb hK w 6 rfl hat dX7_blend_280 (fun H locs w => ?_)
                        have w : zW G A s H locs (mW G ad M (vf_upd lev (((40 * (M 0 (((4 * d) + t).toNatClampNeg))) + i).toNatClampNeg) (zHe (FP.fadd (lev (((40 * (M 0 (((4 * d) + t).toNatClampNeg))) + i).toNatClampNeg)) (FP.i2f (M 4 (((40 * (M 0 (((4 * d2) + t2).toNatClampNeg))) + j).toNatClampNeg))))))) := w
                        refine lv_goto (tgt := 295) hx hb dX7_blend_281 (by decide) ?_
                        refine lv_goto (tgt := 344) hx hb dX7_blend_295 (by decide) ?_
                        refine lv_aload_n hx hb dX7_blend_344 rfl (lv_at hl 8 rfl) ?_
                        refine lv_iload_n hx hb dX7_blend_345 rfl (lv_at hl 10 rfl) ?_
                        refine lv_iload hx hb dX7_blend_346 (lv_at hl 6 rfl) ?_
                        refine lv_iload_n hx hb dX7_blend_348 rfl (lv_at hl 11 rfl) ?_
                        refine zCl w (va_runV (As := [.int t, .int (M 0 (((4 * d) + t).toNatClampNeg)), .int i]) (rest := []) ⟨hx, hb, hml, hown, hts⟩ (kX7_told (M := M) (lev := (vf_upd lev (((40 * (M 0 (((4 * d) + t).toNatClampNeg))) + i).toNatClampNeg) (zHe (FP.fadd (lev (((40 * (M 0 (((4 * d) + t).toNatClampNeg))) + i).toNatClampNeg)) (FP.i2f (M 4 (((40 * (M 0 (((4 * d2) + t2).toNatClampNeg))) + j).toNatClampNeg))))))) l G ad t (M 0 (mix d t)) i hat ((by show zFin (vf_upd lev _ _ _); unfold vf_upd; rw [if_pos rfl]; exact zHe_fin (zadd hfl (zfin_i2f _)))) H.size) (cwV 3 hts gX7_blend_X7_told rfl rfl rfl (by decide +kernel) ⟨(Nat.le_of_ble_eq_true rfl), (Nat.le_of_ble_eq_true rfl)⟩) (zPV w hK (va_recv hK.1 w.1 (ci := 6) (q0 := 0) rfl rfl)) rfl rfl hl.1 rfl (lv_room (Nat.le_of_ble_eq_true rfl)) dX7_blend_349 ⟨(Nat.le_of_ble_eq_true rfl), (Nat.le_of_ble_eq_true rfl)⟩) (fun r_27 u H locs hq w => ?_)
                        obtain ⟨rfl, e_r⟩ := hq
                        subst e_r
                        exact zRl hx hb hr hlk w dX7_blend_352 (Nat.le_of_ble_eq_true rfl) (Nat.le_of_ble_eq_true rfl) (by show (if _ then _ else _); rw [if_pos ⟨p_d, p_t, p_e, p_u, p_k⟩]; (first | rw [if_pos p_g] | rw [if_neg p_g]); (first | rw [if_pos p_f] | rw [if_neg p_f]); rw [if_neg p_3]; rw [if_pos (Or.inl p_2)]; (try simp only [zBv, if_pos p_2, if_neg q_2, if_pos p_l]); (try (first | exact ⟨rfl, rfl⟩ | exact ⟨trivial, trivial⟩)))
                      · have p_l := c_24
                        refine lv_fload hx hb dX7_blend_249 (lv_at hl 1 rfl) ?_
                        refine lv_fload hx hb dX7_blend_251 (lv_at hl 0 rfl) ?_
                        refine lv_fsub hx hb dX7_blend_253 (zsub hfl (zfin_i2f _)) ?_
                        refine lv_goto (tgt := 262) hx hb dX7_blend_254 (by decide) ?_
                        refine lv_fstore (lv' := [(16, .float (FP.fsub (lev (((40 * (M 0 (((4 * d) + t).toNatClampNeg))) + i).toNatClampNeg)) (FP.i2f (M 4 (((40 * (M 0 (((4 * d2) + t2).toNatClampNeg))) + j).toNatClampNeg))))), (15, .float (FP.i2f (M 4 (((40 * (M 0 (((4 * d2) + t2).toNatClampNeg))) + j).toNatClampNeg)))), (14, .float (lev (((40 * (M 0 (((4 * d) + t).toNatClampNeg))) + i).toNatClampNeg))), (13, .int ((40 * (M 0 (((4 * d2) + t2).toNatClampNeg))) + j)), (12, .int ((40 * (M 0 (((4 * d) + t).toNatClampNeg))) + i)), (10, .long (mAg M (M 0 (mix d t)) i)), (9, .int (M 0 (((4 * d) + t).toNatClampNeg))), (8, .int (M 0 (((4 * d2) + t2).toNatClampNeg))), (0, .ref (ad 0)), (1, .int d), (2, .int t), (3, .int i), (4, .int d2), (5, .int t2), (6, .int j), (7, .int less)]) hx hb dX7_blend_262 hl (by decide) rfl (fun ls hl => ?_)
                        refine lv_iload_n hx hb dX7_blend_264 rfl (lv_at hl 10 rfl) ?_
                        refine lv_iconst (v := 2) hx hb dX7_blend_265 (by decide) ?_
                        refine lv_icmp_ne (tgt := 284) hx hb dX7_blend_266 (by decide) (fun c_28 => absurd p_2 c_28) (fun c_28 => ?_)
                        refine lv_aload_n hx hb dX7_blend_269 rfl (lv_at hl 8 rfl) ?_
                        refine zget (ci := 6) (C := RX7) (T := TX7) (N := 11) hx hb hts hown hK w (by decide +kernel) 0 rfl rfl 5 (by decide) (hts (.fieldLink RX7 25 "ReelBarnModel" "level" "[F") (by decide +kernel)) (fun _ h9 => h9) rfl dX7_blend_270 ?_
                        refine lv_iload hx hb dX7_blend_273 (lv_at hl 4 rfl) ?_
                        refine lv_fload hx hb dX7_blend_275 (lv_at hl 0 rfl) ?_
                        refine zCf w (va_runS (As := [.float (FP.fsub (lev (((40 * (M 0 (((4 * d) + t).toNatClampNeg))) + i).toNatClampNeg)) (FP.i2f (M 4 (((40 * (M 0 (((4 * d2) + t2).toNatClampNeg))) + j).toNatClampNeg))))]) (rest := [.int ((40 * (M 0 (((4 * d) + t).toNatClampNeg))) + i), .ref (ad 6)]) ⟨hx, hb, hml, hown, hts⟩ (kX7_held l G _ (FP.fsub (lev (((40 * (M 0 (((4 * d) + t).toNatClampNeg))) + i).toNatClampNeg)) (FP.i2f (M 4 (((40 * (M 0 (((4 * d2) + t2).toNatClampNeg))) + j).toNatClampNeg)))) H.size) (va_cwS 1 hts gX7_blend_X7_held rfl rfl rfl (by decide +kernel) ⟨(Nat.le_of_ble_eq_true rfl), (Nat.le_of_ble_eq_true rfl)⟩) (zPS w hK) rfl rfl hl.1 rfl (lv_room (Nat.le_of_ble_eq_true rfl)) dX7_blend_277 ⟨(Nat.le_of_ble_eq_true rfl), (Nat.le_of_ble_eq_true rfl)⟩) (fun r_29 u H locs hq w => ?_)
                        obtain ⟨rfl, e_r⟩ := hq
                        subst e_r
                        refine zm_fast hx hb hK w 6 rfl hat dX7_blend_280 (fun H locs w => ?_)
                        have w : zW G A s H locs (mW G ad M (vf_upd lev (((40 * (M 0 (((4 * d) + t).toNatClampNeg))) + i).toNatClampNeg) (zHe (FP.fsub (lev (((40 * (M 0 (((4 * d) + t).toNatClampNeg))) + i).toNatClampNeg)) (FP.i2f (M 4 (((40 * (M 0 (((4 * d2) + t2).toNatClampNeg))) + j).toNatClampNeg))))))) := w
                        refine lv_goto (tgt := 295) hx hb dX7_blend_281 (by decide) ?_
                        refine lv_goto (tgt := 344) hx hb dX7_blend_295 (by decide) ?_
                        refine lv_aload_n hx hb dX7_blend_344 rfl (lv_at hl 8 rfl) ?_
                        refine lv_iload_n hx hb dX7_blend_345 rfl (lv_at hl 10 rfl) ?_
                        refine lv_iload hx hb dX7_blend_346 (lv_at hl 6 rfl) ?_
                        refine lv_iload_n hx hb dX7_blend_348 rfl (lv_at hl 11 rfl) ?_
                        refine zCl w (va_runV (As := [.int t, .int (M 0 (((4 * d) + t).toNatClampNeg)), .int i]) (rest := []) ⟨hx, hb, hml, hown, hts⟩ (kX7_told (M := M) (lev := (vf_upd lev (((40 * (M 0 (((4 * d) + t).toNatClampNeg))) + i).toNatClampNeg) (zHe (FP.fsub (lev (((40 * (M 0 (((4 * d) + t).toNatClampNeg))) + i).toNatClampNeg)) (FP.i2f (M 4 (((40 * (M 0 (((4 * d2) + t2).toNatClampNeg))) + j).toNatClampNeg))))))) l G ad t (M 0 (mix d t)) i hat ((by show zFin (vf_upd lev _ _ _); unfold vf_upd; rw [if_pos rfl]; exact zHe_fin (zsub hfl (zfin_i2f _)))) H.size) (cwV 3 hts gX7_blend_X7_told rfl rfl rfl (by decide +kernel) ⟨(Nat.le_of_ble_eq_true rfl), (Nat.le_of_ble_eq_true rfl)⟩) (zPV w hK (va_recv hK.1 w.1 (ci := 6) (q0 := 0) rfl rfl)) rfl rfl hl.1 rfl (lv_room (Nat.le_of_ble_eq_true rfl)) dX7_blend_349 ⟨(Nat.le_of_ble_eq_true rfl), (Nat.le_of_ble_eq_true rfl)⟩) (fun r_30 u H locs hq w => ?_)
                        obtain ⟨rfl, e_r⟩ := hq
                        subst e_r
                        exact zRl hx hb hr hlk w dX7_blend_352 (Nat.le_of_ble_eq_true rfl) (Nat.le_of_ble_eq_true rfl) (by show (if _ then _ else _); rw [if_pos ⟨p_d, p_t, p_e, p_u, p_k⟩]; (first | rw [if_pos p_g] | rw [if_neg p_g]); (first | rw [if_pos p_f] | rw [if_neg p_f]); rw [if_neg p_3]; rw [if_pos (Or.inl p_2)]; (try simp only [zBv, if_pos p_2, if_neg q_2, if_neg p_l]); (try (first | exact ⟨rfl, rfl⟩ | exact ⟨trivial, trivial⟩)))
                    · have q_2 := c_23
                      refine lv_aload_n hx hb dX7_blend_224 rfl (lv_at hl 6 rfl) ?_
                      refine zget (ci := 6) (C := RX7) (T := TX7) (N := 11) hx hb hts hown hK w (by decide +kernel) 0 rfl rfl 5 (by decide) (hts (.fieldLink RX7 25 "ReelBarnModel" "level" "[F") (by decide +kernel)) (fun _ h9 => h9) rfl dX7_blend_225 ?_
                      refine lv_iload hx hb dX7_blend_228 (lv_at hl 1 rfl) ?_
                      refine zm_fald hx hb hK w 6 rfl hat2 dX7_blend_230 ?_
                      refine lv_goto (tgt := 242) hx hb dX7_blend_231 (by decide) ?_
                      refine lv_fstore (lv' := [(15, .float (lev (((40 * (M 0 (((4 * d2) + t2).toNatClampNeg))) + j).toNatClampNeg))), (14, .float (lev (((40 * (M 0 (((4 * d) + t).toNatClampNeg))) + i).toNatClampNeg))), (13, .int ((40 * (M 0 (((4 * d2) + t2).toNatClampNeg))) + j)), (12, .int ((40 * (M 0 (((4 * d) + t).toNatClampNeg))) + i)), (10, .long (mAg M (M 0 (mix d t)) i)), (9, .int (M 0 (((4 * d) + t).toNatClampNeg))), (8, .int (M 0 (((4 * d2) + t2).toNatClampNeg))), (0, .ref (ad 0)), (1, .int d), (2, .int t), (3, .int i), (4, .int d2), (5, .int t2), (6, .int j), (7, .int less)]) hx hb dX7_blend_242 hl (by decide) rfl (fun ls hl => ?_)
                      refine lv_iload hx hb dX7_blend_244 (lv_at hl 14 rfl) ?_
                      refine lv_if_eq (tgt := 257) hx hb dX7_blend_246 (by decide) (fun c_31 => ?_) (fun c_31 => ?_)
                      · have p_l := c_31
                        refine lv_fload hx hb dX7_blend_257 (lv_at hl 1 rfl) ?_
                        refine lv_fload hx hb dX7_blend_259 (lv_at hl 0 rfl) ?_
                        refine lv_fadd hx hb dX7_blend_261 (zadd hfl hfl2) ?_
                        refine lv_fstore (lv' := [(16, .float (FP.fadd (lev (((40 * (M 0 (((4 * d) + t).toNatClampNeg))) + i).toNatClampNeg)) (lev (((40 * (M 0 (((4 * d2) + t2).toNatClampNeg))) + j).toNatClampNeg)))), (15, .float (lev (((40 * (M 0 (((4 * d2) + t2).toNatClampNeg))) + j).toNatClampNeg))), (14, .float (lev (((40 * (M 0 (((4 * d) + t).toNatClampNeg))) + i).toNatClampNeg))), (13, .int ((40 * (M 0 (((4 * d2) + t2).toNatClampNeg))) + j)), (12, .int ((40 * (M 0 (((4 * d) + t).toNatClampNeg))) + i)), (10, .long (mAg M (M 0 (mix d t)) i)), (9, .int (M 0 (((4 * d) + t).toNatClampNeg))), (8, .int (M 0 (((4 * d2) + t2).toNatClampNeg))), (0, .ref (ad 0)), (1, .int d), (2, .int t), (3, .int i), (4, .int d2), (5, .int t2), (6, .int j), (7, .int less)]) hx hb dX7_blend_262 hl (by decide) rfl (fun ls hl => ?_)
                        refine lv_iload_n hx hb dX7_blend_264 rfl (lv_at hl 10 rfl) ?_
                        refine lv_iconst (v := 2) hx hb dX7_blend_265 (by decide) ?_
                        refine lv_icmp_ne (tgt := 284) hx hb dX7_blend_266 (by decide) (fun c_32 => absurd p_2 c_32) (fun c_32 => ?_)
                        refine lv_aload_n hx hb dX7_blend_269 rfl (lv_at hl 8 rfl) ?_
                        refine zget (ci := 6) (C := RX7) (T := TX7) (N := 11) hx hb hts hown hK w (by decide +kernel) 0 rfl rfl 5 (by decide) (hts (.fieldLink RX7 25 "ReelBarnModel" "level" "[F") (by decide +kernel)) (fun _ h9 => h9) rfl dX7_blend_270 ?_
                        refine lv_iload hx hb dX7_blend_273 (lv_at hl 4 rfl) ?_
                        refine lv_fload hx hb dX7_blend_275 (lv_at hl 0 rfl) ?_
                        refine zCf w (va_runS (As := [.float (FP.fadd (lev (((40 * (M 0 (((4 * d) + t).toNatClampNeg))) + i).toNatClampNeg)) (lev (((40 * (M 0 (((4 * d2) + t2).toNatClampNeg))) + j).toNatClampNeg)))]) (rest := [.int ((40 * (M 0 (((4 * d) + t).toNatClampNeg))) + i), .ref (ad 6)]) ⟨hx, hb, hml, hown, hts⟩ (kX7_held l G _ (FP.fadd (lev (((40 * (M 0 (((4 * d) + t).toNatClampNeg))) + i).toNatClampNeg)) (lev (((40 * (M 0 (((4 * d2) + t2).toNatClampNeg))) + j).toNatClampNeg))) H.size) (va_cwS 1 hts gX7_blend_X7_held rfl rfl rfl (by decide +kernel) ⟨(Nat.le_of_ble_eq_true rfl), (Nat.le_of_ble_eq_true rfl)⟩) (zPS w hK) rfl rfl hl.1 rfl (lv_room (Nat.le_of_ble_eq_true rfl)) dX7_blend_277 ⟨(Nat.le_of_ble_eq_true rfl), (Nat.le_of_ble_eq_true rfl)⟩) (fun r_33 u H locs hq w => ?_)
                        obtain ⟨rfl, e_r⟩ := hq
                        subst e_r
                        refine zm_fast hx hb hK w 6 rfl hat dX7_blend_280 (fun H locs w => ?_)
                        have w : zW G A s H locs (mW G ad M (vf_upd lev (((40 * (M 0 (((4 * d) + t).toNatClampNeg))) + i).toNatClampNeg) (zHe (FP.fadd (lev (((40 * (M 0 (((4 * d) + t).toNatClampNeg))) + i).toNatClampNeg)) (lev (((40 * (M 0 (((4 * d2) + t2).toNatClampNeg))) + j).toNatClampNeg)))))) := w
                        refine lv_goto (tgt := 295) hx hb dX7_blend_281 (by decide) ?_
                        refine lv_goto (tgt := 344) hx hb dX7_blend_295 (by decide) ?_
                        refine lv_aload_n hx hb dX7_blend_344 rfl (lv_at hl 8 rfl) ?_
                        refine lv_iload_n hx hb dX7_blend_345 rfl (lv_at hl 10 rfl) ?_
                        refine lv_iload hx hb dX7_blend_346 (lv_at hl 6 rfl) ?_
                        refine lv_iload_n hx hb dX7_blend_348 rfl (lv_at hl 11 rfl) ?_
                        refine zCl w (va_runV (As := [.int t, .int (M 0 (((4 * d) + t).toNatClampNeg)), .int i]) (rest := []) ⟨hx, hb, hml, hown, hts⟩ (kX7_told (M := M) (lev := (vf_upd lev (((40 * (M 0 (((4 * d) + t).toNatClampNeg))) + i).toNatClampNeg) (zHe (FP.fadd (lev (((40 * (M 0 (((4 * d) + t).toNatClampNeg))) + i).toNatClampNeg)) (lev (((40 * (M 0 (((4 * d2) + t2).toNatClampNeg))) + j).toNatClampNeg)))))) l G ad t (M 0 (mix d t)) i hat ((by show zFin (vf_upd lev _ _ _); unfold vf_upd; rw [if_pos rfl]; exact zHe_fin (zadd hfl hfl2))) H.size) (cwV 3 hts gX7_blend_X7_told rfl rfl rfl (by decide +kernel) ⟨(Nat.le_of_ble_eq_true rfl), (Nat.le_of_ble_eq_true rfl)⟩) (zPV w hK (va_recv hK.1 w.1 (ci := 6) (q0 := 0) rfl rfl)) rfl rfl hl.1 rfl (lv_room (Nat.le_of_ble_eq_true rfl)) dX7_blend_349 ⟨(Nat.le_of_ble_eq_true rfl), (Nat.le_of_ble_eq_true rfl)⟩) (fun r_34 u H locs hq w => ?_)
                        obtain ⟨rfl, e_r⟩ := hq
                        subst e_r
                        exact zRl hx hb hr hlk w dX7_blend_352 (Nat.le_of_ble_eq_true rfl) (Nat.le_of_ble_eq_true rfl) (by show (if _ then _ else _); rw [if_pos ⟨p_d, p_t, p_e, p_u, p_k⟩]; (first | rw [if_pos p_g] | rw [if_neg p_g]); (first | rw [if_pos p_f] | rw [if_neg p_f]); rw [if_neg p_3]; rw [if_pos (Or.inl p_2)]; (try simp only [zBv, if_pos p_2, if_pos q_2, if_pos p_l]); (try (first | exact ⟨rfl, rfl⟩ | exact ⟨trivial, trivial⟩)))
                      · have p_l := c_31
                        refine lv_fload hx hb dX7_blend_249 (lv_at hl 1 rfl) ?_
                        refine lv_fload hx hb dX7_blend_251 (lv_at hl 0 rfl) ?_
                        refine lv_fsub hx hb dX7_blend_253 (zsub hfl hfl2) ?_
                        refine lv_goto (tgt := 262) hx hb dX7_blend_254 (by decide) ?_
                        refine lv_fstore (lv' := [(16, .float (FP.fsub (lev (((40 * (M 0 (((4 * d) + t).toNatClampNeg))) + i).toNatClampNeg)) (lev (((40 * (M 0 (((4 * d2) + t2).toNatClampNeg))) + j).toNatClampNeg)))), (15, .float (lev (((40 * (M 0 (((4 * d2) + t2).toNatClampNeg))) + j).toNatClampNeg))), (14, .float (lev (((40 * (M 0 (((4 * d) + t).toNatClampNeg))) + i).toNatClampNeg))), (13, .int ((40 * (M 0 (((4 * d2) + t2).toNatClampNeg))) + j)), (12, .int ((40 * (M 0 (((4 * d) + t).toNatClampNeg))) + i)), (10, .long (mAg M (M 0 (mix d t)) i)), (9, .int (M 0 (((4 * d) + t).toNatClampNeg))), (8, .int (M 0 (((4 * d2) + t2).toNatClampNeg))), (0, .ref (ad 0)), (1, .int d), (2, .int t), (3, .int i), (4, .int d2), (5, .int t2), (6, .int j), (7, .int less)]) hx hb dX7_blend_262 hl (by decide) rfl (fun ls hl => ?_)
                        refine lv_iload_n hx hb dX7_blend_264 rfl (lv_at hl 10 rfl) ?_
                        refine lv_iconst (v := 2) hx hb dX7_blend_265 (by decide) ?_
                        refine lv_icmp_ne (tgt := 284) hx hb dX7_blend_266 (by decide) (fun c_35 => absurd p_2 c_35) (fun c_35 => ?_)
                        refine lv_aload_n hx hb dX7_blend_269 rfl (lv_at hl 8 rfl) ?_
                        refine zget (ci := 6) (C := RX7) (T := TX7) (N := 11) hx hb hts hown hK w (by decide +kernel) 0 rfl rfl 5 (by decide) (hts (.fieldLink RX7 25 "ReelBarnModel" "level" "[F") (by decide +kernel)) (fun _ h9 => h9) rfl dX7_blend_270 ?_
                        refine lv_iload hx hb dX7_blend_273 (lv_at hl 4 rfl) ?_
                        refine lv_fload hx hb dX7_blend_275 (lv_at hl 0 rfl) ?_
                        refine zCf w (va_runS (As := [.float (FP.fsub (lev (((40 * (M 0 (((4 * d) + t).toNatClampNeg))) + i).toNatClampNeg)) (lev (((40 * (M 0 (((4 * d2) + t2).toNatClampNeg))) + j).toNatClampNeg)))]) (rest := [.int ((40 * (M 0 (((4 * d) + t).toNatClampNeg))) + i), .ref (ad 6)]) ⟨hx, hb, hml, hown, hts⟩ (kX7_held l G _ (FP.fsub (lev (((40 * (M 0 (((4 * d) + t).toNatClampNeg))) + i).toNatClampNeg)) (lev (((40 * (M 0 (((4 * d2) + t2).toNatClampNeg))) + j).toNatClampNeg))) H.size) (va_cwS 1 hts gX7_blend_X7_held rfl rfl rfl (by decide +kernel) ⟨(Nat.le_of_ble_eq_true rfl), (Nat.le_of_ble_eq_true rfl)⟩) (zPS w hK) rfl rfl hl.1 rfl (lv_room (Nat.le_of_ble_eq_true rfl)) dX7_blend_277 ⟨(Nat.le_of_ble_eq_true rfl), (Nat.le_of_ble_eq_true rfl)⟩) (fun r_36 u H locs hq w => ?_)
                        obtain ⟨rfl, e_r⟩ := hq
                        subst e_r
                        refine zm_fast hx hb hK w 6 rfl hat dX7_blend_280 (fun H locs w => ?_)
                        have w : zW G A s H locs (mW G ad M (vf_upd lev (((40 * (M 0 (((4 * d) + t).toNatClampNeg))) + i).toNatClampNeg) (zHe (FP.fsub (lev (((40 * (M 0 (((4 * d) + t).toNatClampNeg))) + i).toNatClampNeg)) (lev (((40 * (M 0 (((4 * d2) + t2).toNatClampNeg))) + j).toNatClampNeg)))))) := w
                        refine lv_goto (tgt := 295) hx hb dX7_blend_281 (by decide) ?_
                        refine lv_goto (tgt := 344) hx hb dX7_blend_295 (by decide) ?_
                        refine lv_aload_n hx hb dX7_blend_344 rfl (lv_at hl 8 rfl) ?_
                        refine lv_iload_n hx hb dX7_blend_345 rfl (lv_at hl 10 rfl) ?_
                        refine lv_iload hx hb dX7_blend_346 (lv_at hl 6 rfl) ?_
                        refine lv_iload_n hx hb dX7_blend_348 rfl (lv_at hl 11 rfl) ?_
                        refine zCl w (va_runV (As := [.int t, .int (M 0 (((4 * d) + t).toNatClampNeg)), .int i]) (rest := []) ⟨hx, hb, hml, hown, hts⟩ (kX7_told (M := M) (lev := (vf_upd lev (((40 * (M 0 (((4 * d) + t).toNatClampNeg))) + i).toNatClampNeg) (zHe (FP.fsub (lev (((40 * (M 0 (((4 * d) + t).toNatClampNeg))) + i).toNatClampNeg)) (lev (((40 * (M 0 (((4 * d2) + t2).toNatClampNeg))) + j).toNatClampNeg)))))) l G ad t (M 0 (mix d t)) i hat ((by show zFin (vf_upd lev _ _ _); unfold vf_upd; rw [if_pos rfl]; exact zHe_fin (zsub hfl hfl2))) H.size) (cwV 3 hts gX7_blend_X7_told rfl rfl rfl (by decide +kernel) ⟨(Nat.le_of_ble_eq_true rfl), (Nat.le_of_ble_eq_true rfl)⟩) (zPV w hK (va_recv hK.1 w.1 (ci := 6) (q0 := 0) rfl rfl)) rfl rfl hl.1 rfl (lv_room (Nat.le_of_ble_eq_true rfl)) dX7_blend_349 ⟨(Nat.le_of_ble_eq_true rfl), (Nat.le_of_ble_eq_true rfl)⟩) (fun r_37 u H locs hq w => ?_)
                        obtain ⟨rfl, e_r⟩ := hq
                        subst e_r
                        exact zRl hx hb hr hlk w dX7_blend_352 (Nat.le_of_ble_eq_true rfl) (Nat.le_of_ble_eq_true rfl) (by show (if _ then _ else _); rw [if_pos ⟨p_d, p_t, p_e, p_u, p_k⟩]; (first | rw [if_pos p_g] | rw [if_neg p_g]); (first | rw [if_pos p_f] | rw [if_neg p_f]); rw [if_neg p_3]; rw [if_pos (Or.inl p_2)]; (try simp only [zBv, if_pos p_2, if_pos q_2, if_neg p_l]); (try (first | exact ⟨rfl, rfl⟩ | exact ⟨trivial, trivial⟩)))
                  · have p_2 := c_21
                    refine lv_iload hx hb dX7_blend_187 (lv_at hl 10 rfl) ?_
                    refine lv_iconst (v := 2) hx hb dX7_blend_189 (by decide) ?_
                    refine lv_icmp_ne (tgt := 298) hx hb dX7_blend_190 (by decide) (fun c_38 => ?_) (fun c_38 => ?_)
                    · have q_2 := c_38
                      refine lv_aload_n hx hb dX7_blend_298 rfl (lv_at hl 5 rfl) ?_
                      refine lv_iload_n hx hb dX7_blend_299 rfl (lv_at hl 7 rfl) ?_
                      refine lv_iload hx hb dX7_blend_300 (lv_at hl 3 rfl) ?_
                      refine lv_iload_n hx hb dX7_blend_302 rfl (lv_at hl 8 rfl) ?_
                      refine lv_iload hx hb dX7_blend_303 (lv_at hl 12 rfl) ?_
                      refine lv_if_eq (tgt := 326) hx hb dX7_blend_305 (by decide) (fun c_39 => ?_) (fun c_39 => ?_)
                      · have p_l := c_39
                        refine lv_aload_n hx hb dX7_blend_326 rfl (lv_at hl 5 rfl) ?_
                        refine zget (ci := 6) (C := RX7) (T := TX7) (N := 11) hx hb hts hown hK w (by decide +kernel) 0 rfl rfl 4 (by decide) (hts (.fieldLink RX7 22 "ReelBarnModel" "whole" "[I") (by decide +kernel)) (fun _ h9 => h9) rfl dX7_blend_327 ?_
                        refine lv_iload hx hb dX7_blend_330 (lv_at hl 1 rfl) ?_
                        refine zm_iald hx hb hK w 5 rfl hat dX7_blend_332 ?_
                        refine lv_aload_n hx hb dX7_blend_333 rfl (lv_at hl 5 rfl) ?_
                        refine zget (ci := 6) (C := RX7) (T := TX7) (N := 11) hx hb hts hown hK w (by decide +kernel) 0 rfl rfl 4 (by decide) (hts (.fieldLink RX7 22 "ReelBarnModel" "whole" "[I") (by decide +kernel)) (fun _ h9 => h9) rfl dX7_blend_334 ?_
                        refine lv_iload hx hb dX7_blend_337 (lv_at hl 0 rfl) ?_
                        refine zm_iald hx hb hK w 5 rfl hat2 dX7_blend_339 ?_
                        refine lv_iadd hx hb dX7_blend_340 ?_
                        refine zCv w (va_runV (As := [.int t, .int (M 0 (((4 * d) + t).toNatClampNeg)), .int i, .int ((M 4 (((40 * (M 0 (((4 * d) + t).toNatClampNeg))) + i).toNatClampNeg)) + (M 4 (((40 * (M 0 (((4 * d2) + t2).toNatClampNeg))) + j).toNatClampNeg)))]) (rest := []) ⟨hx, hb, hml, hown, hts⟩ (kX7_fill l G ad t (M 0 (mix d t)) i ((M 4 (((40 * (M 0 (((4 * d) + t).toNatClampNeg))) + i).toNatClampNeg)) + (M 4 (((40 * (M 0 (((4 * d2) + t2).toNatClampNeg))) + j).toNatClampNeg))) hat H.size) (cwV 4 hts gX7_blend_X7_fill rfl rfl rfl (by decide +kernel) ⟨(Nat.le_of_ble_eq_true rfl), (Nat.le_of_ble_eq_true rfl)⟩) (zPV w hK (va_recv hK.1 w.1 (ci := 6) (q0 := 0) rfl rfl)) rfl rfl hl.1 rfl (lv_room (Nat.le_of_ble_eq_true rfl)) dX7_blend_341 ⟨(Nat.le_of_ble_eq_true rfl), (Nat.le_of_ble_eq_true rfl)⟩) (fun u H locs hq w => ?_)
                        subst hq
                        refine lv_aload_n hx hb dX7_blend_344 rfl (lv_at hl 5 rfl) ?_
                        refine lv_iload_n hx hb dX7_blend_345 rfl (lv_at hl 7 rfl) ?_
                        refine lv_iload hx hb dX7_blend_346 (lv_at hl 3 rfl) ?_
                        refine lv_iload_n hx hb dX7_blend_348 rfl (lv_at hl 8 rfl) ?_
                        refine zCl w (va_runV (As := [.int t, .int (M 0 (((4 * d) + t).toNatClampNeg)), .int i]) (rest := []) ⟨hx, hb, hml, hown, hts⟩ (kX7_told (M := (mFM M t (mat (M 0 (mix d t)) i) ((M 4 (((40 * (M 0 (((4 * d) + t).toNatClampNeg))) + i).toNatClampNeg)) + (M 4 (((40 * (M 0 (((4 * d2) + t2).toNatClampNeg))) + j).toNatClampNeg))))) (lev := (mFL lev t (mat (M 0 (mix d t)) i) (zEi ((M 4 (((40 * (M 0 (((4 * d) + t).toNatClampNeg))) + i).toNatClampNeg)) + (M 4 (((40 * (M 0 (((4 * d2) + t2).toNatClampNeg))) + j).toNatClampNeg)))))) l G ad t (M 0 (mix d t)) i hat (mFL_fin hfl (zn32 (zEi_fin _).notNaN)) H.size) (cwV 3 hts gX7_blend_X7_told rfl rfl rfl (by decide +kernel) ⟨(Nat.le_of_ble_eq_true rfl), (Nat.le_of_ble_eq_true rfl)⟩) (zPV w hK (va_recv hK.1 w.1 (ci := 6) (q0 := 0) rfl rfl)) rfl rfl hl.1 rfl (lv_room (Nat.le_of_ble_eq_true rfl)) dX7_blend_349 ⟨(Nat.le_of_ble_eq_true rfl), (Nat.le_of_ble_eq_true rfl)⟩) (fun r_40 u H locs hq w => ?_)
                        obtain ⟨rfl, e_r⟩ := hq
                        subst e_r
                        exact zRl hx hb hr hlk w dX7_blend_352 (Nat.le_of_ble_eq_true rfl) (Nat.le_of_ble_eq_true rfl) (by show (if _ then _ else _); rw [if_pos ⟨p_d, p_t, p_e, p_u, p_k⟩]; (first | rw [if_pos p_g] | rw [if_neg p_g]); (first | rw [if_pos p_f] | rw [if_neg p_f]); rw [if_neg p_3]; rw [if_neg (fun q => q.elim p_2 q_2)]; (try simp only [zBv, if_neg p_2, if_neg q_2, if_pos p_l]); (try (first | exact ⟨rfl, rfl⟩ | exact ⟨trivial, trivial⟩)))
                      · have p_l := c_39
                        refine lv_aload_n hx hb dX7_blend_308 rfl (lv_at hl 5 rfl) ?_
                        refine zget (ci := 6) (C := RX7) (T := TX7) (N := 11) hx hb hts hown hK w (by decide +kernel) 0 rfl rfl 4 (by decide) (hts (.fieldLink RX7 22 "ReelBarnModel" "whole" "[I") (by decide +kernel)) (fun _ h9 => h9) rfl dX7_blend_309 ?_
                        refine lv_iload hx hb dX7_blend_312 (lv_at hl 1 rfl) ?_
                        refine zm_iald hx hb hK w 5 rfl hat dX7_blend_314 ?_
                        refine lv_aload_n hx hb dX7_blend_315 rfl (lv_at hl 5 rfl) ?_
                        refine zget (ci := 6) (C := RX7) (T := TX7) (N := 11) hx hb hts hown hK w (by decide +kernel) 0 rfl rfl 4 (by decide) (hts (.fieldLink RX7 22 "ReelBarnModel" "whole" "[I") (by decide +kernel)) (fun _ h9 => h9) rfl dX7_blend_316 ?_
                        refine lv_iload hx hb dX7_blend_319 (lv_at hl 0 rfl) ?_
                        refine zm_iald hx hb hK w 5 rfl hat2 dX7_blend_321 ?_
                        refine lv_isub hx hb dX7_blend_322 ?_
                        refine lv_goto (tgt := 341) hx hb dX7_blend_323 (by decide) ?_
                        refine zCv w (va_runV (As := [.int t, .int (M 0 (((4 * d) + t).toNatClampNeg)), .int i, .int ((M 4 (((40 * (M 0 (((4 * d) + t).toNatClampNeg))) + i).toNatClampNeg)) - (M 4 (((40 * (M 0 (((4 * d2) + t2).toNatClampNeg))) + j).toNatClampNeg)))]) (rest := []) ⟨hx, hb, hml, hown, hts⟩ (kX7_fill l G ad t (M 0 (mix d t)) i ((M 4 (((40 * (M 0 (((4 * d) + t).toNatClampNeg))) + i).toNatClampNeg)) - (M 4 (((40 * (M 0 (((4 * d2) + t2).toNatClampNeg))) + j).toNatClampNeg))) hat H.size) (cwV 4 hts gX7_blend_X7_fill rfl rfl rfl (by decide +kernel) ⟨(Nat.le_of_ble_eq_true rfl), (Nat.le_of_ble_eq_true rfl)⟩) (zPV w hK (va_recv hK.1 w.1 (ci := 6) (q0 := 0) rfl rfl)) rfl rfl hl.1 rfl (lv_room (Nat.le_of_ble_eq_true rfl)) dX7_blend_341 ⟨(Nat.le_of_ble_eq_true rfl), (Nat.le_of_ble_eq_true rfl)⟩) (fun u H locs hq w => ?_)
                        subst hq
                        refine lv_aload_n hx hb dX7_blend_344 rfl (lv_at hl 5 rfl) ?_
                        refine lv_iload_n hx hb dX7_blend_345 rfl (lv_at hl 7 rfl) ?_
                        refine lv_iload hx hb dX7_blend_346 (lv_at hl 3 rfl) ?_
                        refine lv_iload_n hx hb dX7_blend_348 rfl (lv_at hl 8 rfl) ?_
                        refine zCl w (va_runV (As := [.int t, .int (M 0 (((4 * d) + t).toNatClampNeg)), .int i]) (rest := []) ⟨hx, hb, hml, hown, hts⟩ (kX7_told (M := (mFM M t (mat (M 0 (mix d t)) i) ((M 4 (((40 * (M 0 (((4 * d) + t).toNatClampNeg))) + i).toNatClampNeg)) - (M 4 (((40 * (M 0 (((4 * d2) + t2).toNatClampNeg))) + j).toNatClampNeg))))) (lev := (mFL lev t (mat (M 0 (mix d t)) i) (zEi ((M 4 (((40 * (M 0 (((4 * d) + t).toNatClampNeg))) + i).toNatClampNeg)) - (M 4 (((40 * (M 0 (((4 * d2) + t2).toNatClampNeg))) + j).toNatClampNeg)))))) l G ad t (M 0 (mix d t)) i hat (mFL_fin hfl (zn32 (zEi_fin _).notNaN)) H.size) (cwV 3 hts gX7_blend_X7_told rfl rfl rfl (by decide +kernel) ⟨(Nat.le_of_ble_eq_true rfl), (Nat.le_of_ble_eq_true rfl)⟩) (zPV w hK (va_recv hK.1 w.1 (ci := 6) (q0 := 0) rfl rfl)) rfl rfl hl.1 rfl (lv_room (Nat.le_of_ble_eq_true rfl)) dX7_blend_349 ⟨(Nat.le_of_ble_eq_true rfl), (Nat.le_of_ble_eq_true rfl)⟩) (fun r_41 u H locs hq w => ?_)
                        obtain ⟨rfl, e_r⟩ := hq
                        subst e_r
                        exact zRl hx hb hr hlk w dX7_blend_352 (Nat.le_of_ble_eq_true rfl) (Nat.le_of_ble_eq_true rfl) (by show (if _ then _ else _); rw [if_pos ⟨p_d, p_t, p_e, p_u, p_k⟩]; (first | rw [if_pos p_g] | rw [if_neg p_g]); (first | rw [if_pos p_f] | rw [if_neg p_f]); rw [if_neg p_3]; rw [if_neg (fun q => q.elim p_2 q_2)]; (try simp only [zBv, if_neg p_2, if_neg q_2, if_neg p_l]); (try (first | exact ⟨rfl, rfl⟩ | exact ⟨trivial, trivial⟩)))
                    · have q_2 := c_38
                      refine lv_iload_n hx hb dX7_blend_193 rfl (lv_at hl 7 rfl) ?_
                      refine lv_iconst (v := 2) hx hb dX7_blend_194 (by decide) ?_
                      refine lv_icmp_ne (tgt := 208) hx hb dX7_blend_195 (by decide) (fun c_42 => ?_) (fun c_42 => absurd c_42 p_2)
                      refine lv_aload_n hx hb dX7_blend_208 rfl (lv_at hl 5 rfl) ?_
                      refine zget (ci := 6) (C := RX7) (T := TX7) (N := 11) hx hb hts hown hK w (by decide +kernel) 0 rfl rfl 4 (by decide) (hts (.fieldLink RX7 22 "ReelBarnModel" "whole" "[I") (by decide +kernel)) (fun _ h9 => h9) rfl dX7_blend_209 ?_
                      refine lv_iload hx hb dX7_blend_212 (lv_at hl 1 rfl) ?_
                      refine zm_iald hx hb hK w 5 rfl hat dX7_blend_214 ?_
                      refine lv_i2f hx hb dX7_blend_215 ?_
                      refine lv_fstore (lv' := [(14, .float (FP.i2f (M 4 (((40 * (M 0 (((4 * d) + t).toNatClampNeg))) + i).toNatClampNeg)))), (13, .int ((40 * (M 0 (((4 * d2) + t2).toNatClampNeg))) + j)), (12, .int ((40 * (M 0 (((4 * d) + t).toNatClampNeg))) + i)), (10, .long (mAg M (M 0 (mix d t)) i)), (9, .int (M 0 (((4 * d) + t).toNatClampNeg))), (8, .int (M 0 (((4 * d2) + t2).toNatClampNeg))), (0, .ref (ad 0)), (1, .int d), (2, .int t), (3, .int i), (4, .int d2), (5, .int t2), (6, .int j), (7, .int less)]) hx hb dX7_blend_216 hl (by decide) rfl (fun ls hl => ?_)
                      refine lv_iload hx hb dX7_blend_218 (lv_at hl 11 rfl) ?_
                      refine lv_iconst (v := 2) hx hb dX7_blend_220 (by decide) ?_
                      refine lv_icmp_ne (tgt := 234) hx hb dX7_blend_221 (by decide) (fun c_43 => absurd q_2 c_43) (fun c_43 => ?_)
                      refine lv_aload_n hx hb dX7_blend_224 rfl (lv_at hl 6 rfl) ?_
                      refine zget (ci := 6) (C := RX7) (T := TX7) (N := 11) hx hb hts hown hK w (by decide +kernel) 0 rfl rfl 5 (by decide) (hts (.fieldLink RX7 25 "ReelBarnModel" "level" "[F") (by decide +kernel)) (fun _ h9 => h9) rfl dX7_blend_225 ?_
                      refine lv_iload hx hb dX7_blend_228 (lv_at hl 1 rfl) ?_
                      refine zm_fald hx hb hK w 6 rfl hat2 dX7_blend_230 ?_
                      refine lv_goto (tgt := 242) hx hb dX7_blend_231 (by decide) ?_
                      refine lv_fstore (lv' := [(15, .float (lev (((40 * (M 0 (((4 * d2) + t2).toNatClampNeg))) + j).toNatClampNeg))), (14, .float (FP.i2f (M 4 (((40 * (M 0 (((4 * d) + t).toNatClampNeg))) + i).toNatClampNeg)))), (13, .int ((40 * (M 0 (((4 * d2) + t2).toNatClampNeg))) + j)), (12, .int ((40 * (M 0 (((4 * d) + t).toNatClampNeg))) + i)), (10, .long (mAg M (M 0 (mix d t)) i)), (9, .int (M 0 (((4 * d) + t).toNatClampNeg))), (8, .int (M 0 (((4 * d2) + t2).toNatClampNeg))), (0, .ref (ad 0)), (1, .int d), (2, .int t), (3, .int i), (4, .int d2), (5, .int t2), (6, .int j), (7, .int less)]) hx hb dX7_blend_242 hl (by decide) rfl (fun ls hl => ?_)
                      refine lv_iload hx hb dX7_blend_244 (lv_at hl 14 rfl) ?_
                      refine lv_if_eq (tgt := 257) hx hb dX7_blend_246 (by decide) (fun c_44 => ?_) (fun c_44 => ?_)
                      · have p_l := c_44
                        refine lv_fload hx hb dX7_blend_257 (lv_at hl 1 rfl) ?_
                        refine lv_fload hx hb dX7_blend_259 (lv_at hl 0 rfl) ?_
                        refine lv_fadd hx hb dX7_blend_261 (zadd (zfin_i2f _) hfl2) ?_
                        refine lv_fstore (lv' := [(16, .float (FP.fadd (FP.i2f (M 4 (((40 * (M 0 (((4 * d) + t).toNatClampNeg))) + i).toNatClampNeg))) (lev (((40 * (M 0 (((4 * d2) + t2).toNatClampNeg))) + j).toNatClampNeg)))), (15, .float (lev (((40 * (M 0 (((4 * d2) + t2).toNatClampNeg))) + j).toNatClampNeg))), (14, .float (FP.i2f (M 4 (((40 * (M 0 (((4 * d) + t).toNatClampNeg))) + i).toNatClampNeg)))), (13, .int ((40 * (M 0 (((4 * d2) + t2).toNatClampNeg))) + j)), (12, .int ((40 * (M 0 (((4 * d) + t).toNatClampNeg))) + i)), (10, .long (mAg M (M 0 (mix d t)) i)), (9, .int (M 0 (((4 * d) + t).toNatClampNeg))), (8, .int (M 0 (((4 * d2) + t2).toNatClampNeg))), (0, .ref (ad 0)), (1, .int d), (2, .int t), (3, .int i), (4, .int d2), (5, .int t2), (6, .int j), (7, .int less)]) hx hb dX7_blend_262 hl (by decide) rfl (fun ls hl => ?_)
                        refine lv_iload_n hx hb dX7_blend_264 rfl (lv_at hl 10 rfl) ?_
                        refine lv_iconst (v := 2) hx hb dX7_blend_265 (by decide) ?_
                        refine lv_icmp_ne (tgt := 284) hx hb dX7_blend_266 (by decide) (fun c_45 => ?_) (fun c_45 => absurd c_45 p_2)
                        refine lv_aload_n hx hb dX7_blend_284 rfl (lv_at hl 8 rfl) ?_
                        refine lv_iload_n hx hb dX7_blend_285 rfl (lv_at hl 10 rfl) ?_
                        refine lv_iload hx hb dX7_blend_286 (lv_at hl 6 rfl) ?_
                        refine lv_iload_n hx hb dX7_blend_288 rfl (lv_at hl 11 rfl) ?_
                        refine lv_fload hx hb dX7_blend_289 (lv_at hl 0 rfl) ?_
                        refine lv_f2i hx hb dX7_blend_291 ?_
                        refine zCv w (va_runV (As := [.int t, .int (M 0 (((4 * d) + t).toNatClampNeg)), .int i, .int (FP.f2i (FP.fadd (FP.i2f (M 4 (((40 * (M 0 (((4 * d) + t).toNatClampNeg))) + i).toNatClampNeg))) (lev (((40 * (M 0 (((4 * d2) + t2).toNatClampNeg))) + j).toNatClampNeg))))]) (rest := []) ⟨hx, hb, hml, hown, hts⟩ (kX7_fill l G ad t (M 0 (mix d t)) i (FP.f2i (FP.fadd (FP.i2f (M 4 (((40 * (M 0 (((4 * d) + t).toNatClampNeg))) + i).toNatClampNeg))) (lev (((40 * (M 0 (((4 * d2) + t2).toNatClampNeg))) + j).toNatClampNeg)))) hat H.size) (cwV 4 hts gX7_blend_X7_fill rfl rfl rfl (by decide +kernel) ⟨(Nat.le_of_ble_eq_true rfl), (Nat.le_of_ble_eq_true rfl)⟩) (zPV w hK (va_recv hK.1 w.1 (ci := 6) (q0 := 0) rfl rfl)) rfl rfl hl.1 rfl (lv_room (Nat.le_of_ble_eq_true rfl)) dX7_blend_292 ⟨(Nat.le_of_ble_eq_true rfl), (Nat.le_of_ble_eq_true rfl)⟩) (fun u H locs hq w => ?_)
                        subst hq
                        refine lv_goto (tgt := 344) hx hb dX7_blend_295 (by decide) ?_
                        refine lv_aload_n hx hb dX7_blend_344 rfl (lv_at hl 8 rfl) ?_
                        refine lv_iload_n hx hb dX7_blend_345 rfl (lv_at hl 10 rfl) ?_
                        refine lv_iload hx hb dX7_blend_346 (lv_at hl 6 rfl) ?_
                        refine lv_iload_n hx hb dX7_blend_348 rfl (lv_at hl 11 rfl) ?_
                        refine zCl w (va_runV (As := [.int t, .int (M 0 (((4 * d) + t).toNatClampNeg)), .int i]) (rest := []) ⟨hx, hb, hml, hown, hts⟩ (kX7_told (M := (mFM M t (mat (M 0 (mix d t)) i) (FP.f2i (FP.fadd (FP.i2f (M 4 (((40 * (M 0 (((4 * d) + t).toNatClampNeg))) + i).toNatClampNeg))) (lev (((40 * (M 0 (((4 * d2) + t2).toNatClampNeg))) + j).toNatClampNeg)))))) (lev := (mFL lev t (mat (M 0 (mix d t)) i) (zEi (FP.f2i (FP.fadd (FP.i2f (M 4 (((40 * (M 0 (((4 * d) + t).toNatClampNeg))) + i).toNatClampNeg))) (lev (((40 * (M 0 (((4 * d2) + t2).toNatClampNeg))) + j).toNatClampNeg))))))) l G ad t (M 0 (mix d t)) i hat (mFL_fin hfl (zn32 (zEi_fin _).notNaN)) H.size) (cwV 3 hts gX7_blend_X7_told rfl rfl rfl (by decide +kernel) ⟨(Nat.le_of_ble_eq_true rfl), (Nat.le_of_ble_eq_true rfl)⟩) (zPV w hK (va_recv hK.1 w.1 (ci := 6) (q0 := 0) rfl rfl)) rfl rfl hl.1 rfl (lv_room (Nat.le_of_ble_eq_true rfl)) dX7_blend_349 ⟨(Nat.le_of_ble_eq_true rfl), (Nat.le_of_ble_eq_true rfl)⟩) (fun r_46 u H locs hq w => ?_)
                        obtain ⟨rfl, e_r⟩ := hq
                        subst e_r
                        exact zRl hx hb hr hlk w dX7_blend_352 (Nat.le_of_ble_eq_true rfl) (Nat.le_of_ble_eq_true rfl) (by show (if _ then _ else _); rw [if_pos ⟨p_d, p_t, p_e, p_u, p_k⟩]; (first | rw [if_pos p_g] | rw [if_neg p_g]); (first | rw [if_pos p_f] | rw [if_neg p_f]); rw [if_neg p_3]; rw [if_pos (Or.inr q_2)]; (try simp only [zBv, if_neg p_2, if_pos q_2, if_pos p_l]); (try (first | exact ⟨rfl, rfl⟩ | exact ⟨trivial, trivial⟩)))
                      · have p_l := c_44
                        refine lv_fload hx hb dX7_blend_249 (lv_at hl 1 rfl) ?_
                        refine lv_fload hx hb dX7_blend_251 (lv_at hl 0 rfl) ?_
                        refine lv_fsub hx hb dX7_blend_253 (zsub (zfin_i2f _) hfl2) ?_
                        refine lv_goto (tgt := 262) hx hb dX7_blend_254 (by decide) ?_
                        refine lv_fstore (lv' := [(16, .float (FP.fsub (FP.i2f (M 4 (((40 * (M 0 (((4 * d) + t).toNatClampNeg))) + i).toNatClampNeg))) (lev (((40 * (M 0 (((4 * d2) + t2).toNatClampNeg))) + j).toNatClampNeg)))), (15, .float (lev (((40 * (M 0 (((4 * d2) + t2).toNatClampNeg))) + j).toNatClampNeg))), (14, .float (FP.i2f (M 4 (((40 * (M 0 (((4 * d) + t).toNatClampNeg))) + i).toNatClampNeg)))), (13, .int ((40 * (M 0 (((4 * d2) + t2).toNatClampNeg))) + j)), (12, .int ((40 * (M 0 (((4 * d) + t).toNatClampNeg))) + i)), (10, .long (mAg M (M 0 (mix d t)) i)), (9, .int (M 0 (((4 * d) + t).toNatClampNeg))), (8, .int (M 0 (((4 * d2) + t2).toNatClampNeg))), (0, .ref (ad 0)), (1, .int d), (2, .int t), (3, .int i), (4, .int d2), (5, .int t2), (6, .int j), (7, .int less)]) hx hb dX7_blend_262 hl (by decide) rfl (fun ls hl => ?_)
                        refine lv_iload_n hx hb dX7_blend_264 rfl (lv_at hl 10 rfl) ?_
                        refine lv_iconst (v := 2) hx hb dX7_blend_265 (by decide) ?_
                        refine lv_icmp_ne (tgt := 284) hx hb dX7_blend_266 (by decide) (fun c_47 => ?_) (fun c_47 => absurd c_47 p_2)
                        refine lv_aload_n hx hb dX7_blend_284 rfl (lv_at hl 8 rfl) ?_
                        refine lv_iload_n hx hb dX7_blend_285 rfl (lv_at hl 10 rfl) ?_
                        refine lv_iload hx hb dX7_blend_286 (lv_at hl 6 rfl) ?_
                        refine lv_iload_n hx hb dX7_blend_288 rfl (lv_at hl 11 rfl) ?_
                        refine lv_fload hx hb dX7_blend_289 (lv_at hl 0 rfl) ?_
                        refine lv_f2i hx hb dX7_blend_291 ?_
                        refine zCv w (va_runV (As := [.int t, .int (M 0 (((4 * d) + t).toNatClampNeg)), .int i, .int (FP.f2i (FP.fsub (FP.i2f (M 4 (((40 * (M 0 (((4 * d) + t).toNatClampNeg))) + i).toNatClampNeg))) (lev (((40 * (M 0 (((4 * d2) + t2).toNatClampNeg))) + j).toNatClampNeg))))]) (rest := []) ⟨hx, hb, hml, hown, hts⟩ (kX7_fill l G ad t (M 0 (mix d t)) i (FP.f2i (FP.fsub (FP.i2f (M 4 (((40 * (M 0 (((4 * d) + t).toNatClampNeg))) + i).toNatClampNeg))) (lev (((40 * (M 0 (((4 * d2) + t2).toNatClampNeg))) + j).toNatClampNeg)))) hat H.size) (cwV 4 hts gX7_blend_X7_fill rfl rfl rfl (by decide +kernel) ⟨(Nat.le_of_ble_eq_true rfl), (Nat.le_of_ble_eq_true rfl)⟩) (zPV w hK (va_recv hK.1 w.1 (ci := 6) (q0 := 0) rfl rfl)) rfl rfl hl.1 rfl (lv_room (Nat.le_of_ble_eq_true rfl)) dX7_blend_292 ⟨(Nat.le_of_ble_eq_true rfl), (Nat.le_of_ble_eq_true rfl)⟩) (fun u H locs hq w => ?_)
                        subst hq
                        refine lv_goto (tgt := 344) hx hb dX7_blend_295 (by decide) ?_
                        refine lv_aload_n hx hb dX7_blend_344 rfl (lv_at hl 8 rfl) ?_
                        refine lv_iload_n hx hb dX7_blend_345 rfl (lv_at hl 10 rfl) ?_
                        refine lv_iload hx hb dX7_blend_346 (lv_at hl 6 rfl) ?_
                        refine lv_iload_n hx hb dX7_blend_348 rfl (lv_at hl 11 rfl) ?_
                        refine zCl w (va_runV (As := [.int t, .int (M 0 (((4 * d) + t).toNatClampNeg)), .int i]) (rest := []) ⟨hx, hb, hml, hown, hts⟩ (kX7_told (M := (mFM M t (mat (M 0 (mix d t)) i) (FP.f2i (FP.fsub (FP.i2f (M 4 (((40 * (M 0 (((4 * d) + t).toNatClampNeg))) + i).toNatClampNeg))) (lev (((40 * (M 0 (((4 * d2) + t2).toNatClampNeg))) + j).toNatClampNeg)))))) (lev := (mFL lev t (mat (M 0 (mix d t)) i) (zEi (FP.f2i (FP.fsub (FP.i2f (M 4 (((40 * (M 0 (((4 * d) + t).toNatClampNeg))) + i).toNatClampNeg))) (lev (((40 * (M 0 (((4 * d2) + t2).toNatClampNeg))) + j).toNatClampNeg))))))) l G ad t (M 0 (mix d t)) i hat (mFL_fin hfl (zn32 (zEi_fin _).notNaN)) H.size) (cwV 3 hts gX7_blend_X7_told rfl rfl rfl (by decide +kernel) ⟨(Nat.le_of_ble_eq_true rfl), (Nat.le_of_ble_eq_true rfl)⟩) (zPV w hK (va_recv hK.1 w.1 (ci := 6) (q0 := 0) rfl rfl)) rfl rfl hl.1 rfl (lv_room (Nat.le_of_ble_eq_true rfl)) dX7_blend_349 ⟨(Nat.le_of_ble_eq_true rfl), (Nat.le_of_ble_eq_true rfl)⟩) (fun r_48 u H locs hq w => ?_)
                        obtain ⟨rfl, e_r⟩ := hq
                        subst e_r
                        exact zRl hx hb hr hlk w dX7_blend_352 (Nat.le_of_ble_eq_true rfl) (Nat.le_of_ble_eq_true rfl) (by show (if _ then _ else _); rw [if_pos ⟨p_d, p_t, p_e, p_u, p_k⟩]; (first | rw [if_pos p_g] | rw [if_neg p_g]); (first | rw [if_pos p_f] | rw [if_neg p_f]); rw [if_neg p_3]; rw [if_pos (Or.inr q_2)]; (try simp only [zBv, if_neg p_2, if_pos q_2, if_neg p_l]); (try (first | exact ⟨rfl, rfl⟩ | exact ⟨trivial, trivial⟩)))
                · have p_f := zcmp1 c_19
                  refine lv_aload_n hx hb dX7_blend_126 rfl (lv_at hl 3 rfl) ?_
                  refine lv_lload hx hb dX7_blend_127 (lv_at hl 0 rfl) ?_
                  refine zCl w (va_runV (As := [.long (mAg M (M 0 (mix d t)) i)]) (rest := []) ⟨hx, hb, hml, hown, hts⟩ (kX7_refuse l G ad (mAg M (M 0 (mix d t)) i) (mAg_why p_f) H.size) (cwV 1 hts gX7_blend_X7_refuse rfl rfl rfl (by decide +kernel) ⟨(Nat.le_of_ble_eq_true rfl), (Nat.le_of_ble_eq_true rfl)⟩) (zPV w hK (va_recv hK.1 w.1 (ci := 6) (q0 := 0) rfl rfl)) rfl rfl hl.1 rfl (lv_room (Nat.le_of_ble_eq_true rfl)) dX7_blend_129 ⟨(Nat.le_of_ble_eq_true rfl), (Nat.le_of_ble_eq_true rfl)⟩) (fun r_49 u H locs hq w => ?_)
                  obtain ⟨rfl, e_r⟩ := hq
                  subst e_r
                  exact zRl hx hb hr hlk w dX7_blend_132 (Nat.le_of_ble_eq_true rfl) (Nat.le_of_ble_eq_true rfl) (by show (if _ then _ else _); rw [if_pos ⟨p_d, p_t, p_e, p_u, p_k⟩]; (first | rw [if_pos p_g] | rw [if_neg p_g]); (first | rw [if_pos p_f] | rw [if_neg p_f]); exact ⟨rfl, rfl⟩)
              · have p_g := zcmp1 c_17
                refine lv_lload hx hb dX7_blend_105 (lv_at hl 0 rfl) ?_
                refine lv_goto (tgt := 117) hx hb dX7_blend_107 (by decide) ?_
                refine lv_lstore (lv' := [(10, .long (mAg M (M 0 (mix d2 t2)) j)), (9, .int (M 0 (((4 * d) + t).toNatClampNeg))), (8, .int (M 0 (((4 * d2) + t2).toNatClampNeg))), (0, .ref (ad 0)), (1, .int d), (2, .int t), (3, .int i), (4, .int d2), (5, .int t2), (6, .int j), (7, .int less)]) hx hb dX7_blend_117 hl (by decide) rfl (fun ls hl => ?_)
                refine lv_lload hx hb dX7_blend_119 (lv_at hl 0 rfl) ?_
                refine lv_lconst (v := 0) hx hb dX7_blend_121 (by decide) ?_
                refine W.lcmp hx hb dX7_blend_122 ?_
                refine lv_if_eq (tgt := 133) hx hb dX7_blend_123 (by decide) (fun c_50 => absurd c_50 c_17) (fun c_50 => ?_)
                refine lv_aload_n hx hb dX7_blend_126 rfl (lv_at hl 3 rfl) ?_
                refine lv_lload hx hb dX7_blend_127 (lv_at hl 0 rfl) ?_
                refine zCl w (va_runV (As := [.long (mAg M (M 0 (mix d2 t2)) j)]) (rest := []) ⟨hx, hb, hml, hown, hts⟩ (kX7_refuse l G ad (mAg M (M 0 (mix d2 t2)) j) (mAg_why p_g) H.size) (cwV 1 hts gX7_blend_X7_refuse rfl rfl rfl (by decide +kernel) ⟨(Nat.le_of_ble_eq_true rfl), (Nat.le_of_ble_eq_true rfl)⟩) (zPV w hK (va_recv hK.1 w.1 (ci := 6) (q0 := 0) rfl rfl)) rfl rfl hl.1 rfl (lv_room (Nat.le_of_ble_eq_true rfl)) dX7_blend_129 ⟨(Nat.le_of_ble_eq_true rfl), (Nat.le_of_ble_eq_true rfl)⟩) (fun r_51 u H locs hq w => ?_)
                obtain ⟨rfl, e_r⟩ := hq
                subst e_r
                exact zRl hx hb hr hlk w dX7_blend_132 (Nat.le_of_ble_eq_true rfl) (Nat.le_of_ble_eq_true rfl) (by show (if _ then _ else _); rw [if_pos ⟨p_d, p_t, p_e, p_u, p_k⟩]; (first | rw [if_pos p_g] | rw [if_neg p_g]); exact ⟨rfl, rfl⟩)
            · have q_3 := c_14
              refine lv_iconst (v := 1) hx hb dX7_blend_46 (by decide) ?_
              refine lv_goto (tgt := 51) hx hb dX7_blend_47 (by decide) ?_
              refine lv_icmp_eq (tgt := 62) hx hb dX7_blend_51 (by decide) (fun c_52 => absurd c_52 (by decide)) (fun c_52 => ?_)
              have p_k : ¬ (t = 3 ↔ t2 = 3) := by simp [p_3, q_3]
              refine lv_aload_n hx hb dX7_blend_54 rfl (lv_at hl 0 rfl) ?_
              refine lv_ldc2 hx hb hown (hts (.constantLong RX7 59 (1099511627776)) (by decide +kernel)) dX7_blend_55 ?_
              refine zCl w (va_runV (As := [.long 1099511627776]) (rest := []) ⟨hx, hb, hml, hown, hts⟩ (kX7_refuse l G ad zNONE zW1 H.size) (cwV 1 hts gX7_blend_X7_refuse rfl rfl rfl (by decide +kernel) ⟨(Nat.le_of_ble_eq_true rfl), (Nat.le_of_ble_eq_true rfl)⟩) (zPV w hK (va_recv hK.1 w.1 (ci := 6) (q0 := 0) rfl rfl)) rfl rfl hl.1 rfl (lv_room (Nat.le_of_ble_eq_true rfl)) dX7_blend_58 ⟨(Nat.le_of_ble_eq_true rfl), (Nat.le_of_ble_eq_true rfl)⟩) (fun r_53 u H locs hq w => ?_)
              obtain ⟨rfl, e_r⟩ := hq
              subst e_r
              exact zRl hx hb hr hlk w dX7_blend_61 (Nat.le_of_ble_eq_true rfl) (Nat.le_of_ble_eq_true rfl) (by show (if _ then _ else _); rw [if_neg (fun q => p_k q.2.2.2.2)]; exact ⟨rfl, rfl⟩)
          · have p_3 := c_13
            refine lv_iconst (v := 1) hx hb dX7_blend_35 (by decide) ?_
            refine lv_goto (tgt := 40) hx hb dX7_blend_36 (by decide) ?_
            refine lv_iload hx hb dX7_blend_40 (lv_at hl 5 rfl) ?_
            refine lv_iconst (v := 3) hx hb dX7_blend_42 (by decide) ?_
            refine lv_icmp_ne (tgt := 50) hx hb dX7_blend_43 (by decide) (fun c_54 => ?_) (fun c_54 => ?_)
            · have q_3 := c_54
              refine lv_iconst (v := 0) hx hb dX7_blend_50 (by decide) ?_
              refine lv_icmp_eq (tgt := 62) hx hb dX7_blend_51 (by decide) (fun c_55 => absurd c_55 (by decide)) (fun c_55 => ?_)
              have p_k : ¬ (t = 3 ↔ t2 = 3) := by simp [p_3, q_3]
              refine lv_aload_n hx hb dX7_blend_54 rfl (lv_at hl 0 rfl) ?_
              refine lv_ldc2 hx hb hown (hts (.constantLong RX7 59 (1099511627776)) (by decide +kernel)) dX7_blend_55 ?_
              refine zCl w (va_runV (As := [.long 1099511627776]) (rest := []) ⟨hx, hb, hml, hown, hts⟩ (kX7_refuse l G ad zNONE zW1 H.size) (cwV 1 hts gX7_blend_X7_refuse rfl rfl rfl (by decide +kernel) ⟨(Nat.le_of_ble_eq_true rfl), (Nat.le_of_ble_eq_true rfl)⟩) (zPV w hK (va_recv hK.1 w.1 (ci := 6) (q0 := 0) rfl rfl)) rfl rfl hl.1 rfl (lv_room (Nat.le_of_ble_eq_true rfl)) dX7_blend_58 ⟨(Nat.le_of_ble_eq_true rfl), (Nat.le_of_ble_eq_true rfl)⟩) (fun r_56 u H locs hq w => ?_)
              obtain ⟨rfl, e_r⟩ := hq
              subst e_r
              exact zRl hx hb hr hlk w dX7_blend_61 (Nat.le_of_ble_eq_true rfl) (Nat.le_of_ble_eq_true rfl) (by show (if _ then _ else _); rw [if_neg (fun q => p_k q.2.2.2.2)]; exact ⟨rfl, rfl⟩)
            · have q_3 := c_54
              refine lv_iconst (v := 1) hx hb dX7_blend_46 (by decide) ?_
              refine lv_goto (tgt := 51) hx hb dX7_blend_47 (by decide) ?_
              refine lv_icmp_eq (tgt := 62) hx hb dX7_blend_51 (by decide) (fun c_57 => ?_) (fun c_57 => absurd (by decide) c_57)
              have p_k : t = 3 ↔ t2 = 3 := by simp [p_3, q_3]
              refine lv_aload_n hx hb dX7_blend_62 rfl (lv_at hl 0 rfl) ?_
              refine zget (ci := 6) (C := RX7) (T := TX7) (N := 11) hx hb hts hown hK w (by decide +kernel) 0 rfl rfl 0 (by decide) (hts (.fieldLink RX7 7 "ReelBarnModel" "carried" "[I") (by decide +kernel)) (fun _ h9 => h9) rfl dX7_blend_63 ?_
              refine lv_iconst (v := 4) hx hb dX7_blend_66 (by decide) ?_
              refine lv_iload hx hb dX7_blend_67 (lv_at hl 4 rfl) ?_
              refine lv_imul hx hb dX7_blend_69 ?_
              refine lv_iload hx hb dX7_blend_70 (lv_at hl 5 rfl) ?_
              refine lv_iadd hx hb dX7_blend_72 ?_
              refine zm_iald hx hb hK w 1 rfl (mix_in p_e p_u) dX7_blend_73 ?_
              refine lv_istore (lv' := [(8, .int (M 0 (((4 * d2) + t2).toNatClampNeg))), (0, .ref (ad 0)), (1, .int d), (2, .int t), (3, .int i), (4, .int d2), (5, .int t2), (6, .int j), (7, .int less)]) hx hb dX7_blend_74 hl (by decide) rfl (fun ls hl => ?_)
              refine lv_aload_n hx hb dX7_blend_76 rfl (lv_at hl 1 rfl) ?_
              refine zget (ci := 6) (C := RX7) (T := TX7) (N := 11) hx hb hts hown hK w (by decide +kernel) 0 rfl rfl 0 (by decide) (hts (.fieldLink RX7 7 "ReelBarnModel" "carried" "[I") (by decide +kernel)) (fun _ h9 => h9) rfl dX7_blend_77 ?_
              refine lv_iconst (v := 4) hx hb dX7_blend_80 (by decide) ?_
              refine lv_iload_n hx hb dX7_blend_81 rfl (lv_at hl 2 rfl) ?_
              refine lv_imul hx hb dX7_blend_82 ?_
              refine lv_iload_n hx hb dX7_blend_83 rfl (lv_at hl 3 rfl) ?_
              refine lv_iadd hx hb dX7_blend_84 ?_
              refine zm_iald hx hb hK w 1 rfl (mix_in p_d p_t) dX7_blend_85 ?_
              refine lv_istore (lv' := [(9, .int (M 0 (((4 * d) + t).toNatClampNeg))), (8, .int (M 0 (((4 * d2) + t2).toNatClampNeg))), (0, .ref (ad 0)), (1, .int d), (2, .int t), (3, .int i), (4, .int d2), (5, .int t2), (6, .int j), (7, .int less)]) hx hb dX7_blend_86 hl (by decide) rfl (fun ls hl => ?_)
              refine lv_aload_n hx hb dX7_blend_88 rfl (lv_at hl 2 rfl) ?_
              refine lv_iload hx hb dX7_blend_89 (lv_at hl 1 rfl) ?_
              refine lv_iload hx hb dX7_blend_91 (lv_at hl 8 rfl) ?_
              refine zCl w (va_runV (As := [.int (M 0 (((4 * d2) + t2).toNatClampNeg)), .int j]) (rest := []) ⟨hx, hb, hml, hown, hts⟩ (kX7_against l G ad hI (M 0 (mix d2 t2)) j (hI.1 _ (mix_lt p_e p_u)) H.size) (cwV 2 hts gX7_blend_X7_against rfl rfl rfl (by decide +kernel) ⟨(Nat.le_of_ble_eq_true rfl), (Nat.le_of_ble_eq_true rfl)⟩) (zPV w hK (va_recv hK.1 w.1 (ci := 6) (q0 := 0) rfl rfl)) rfl rfl hl.1 rfl (lv_room (Nat.le_of_ble_eq_true rfl)) dX7_blend_93 ⟨(Nat.le_of_ble_eq_true rfl), (Nat.le_of_ble_eq_true rfl)⟩) (fun r_58 u H locs hq w => ?_)
              obtain ⟨rfl, e_r⟩ := hq
              subst e_r
              refine lv_lstore (lv' := [(10, .long (mAg M (M 0 (mix d2 t2)) j)), (9, .int (M 0 (((4 * d) + t).toNatClampNeg))), (8, .int (M 0 (((4 * d2) + t2).toNatClampNeg))), (0, .ref (ad 0)), (1, .int d), (2, .int t), (3, .int i), (4, .int d2), (5, .int t2), (6, .int j), (7, .int less)]) hx hb dX7_blend_96 hl (by decide) rfl (fun ls hl => ?_)
              refine lv_lload hx hb dX7_blend_98 (lv_at hl 0 rfl) ?_
              refine lv_lconst (v := 0) hx hb dX7_blend_100 (by decide) ?_
              refine W.lcmp hx hb dX7_blend_101 ?_
              refine lv_if_eq (tgt := 110) hx hb dX7_blend_102 (by decide) (fun c_59 => ?_) (fun c_59 => ?_)
              · have p_g := zcmp0 c_59
                obtain ⟨hv2, hhs2⟩ := mAg_0 p_g
                have hat2 := mat_in hI (hI.1 _ (mix_lt p_e p_u)) hv2 hhs2
                have hfl2 := hI.2.2.2.2.1 _ (zin_lt hat2)
                refine lv_aload_n hx hb dX7_blend_110 rfl (lv_at hl 3 rfl) ?_
                refine lv_iload hx hb dX7_blend_111 (lv_at hl 1 rfl) ?_
                refine lv_iload_n hx hb dX7_blend_113 rfl (lv_at hl 6 rfl) ?_
                refine zCl w (va_runV (As := [.int (M 0 (((4 * d) + t).toNatClampNeg)), .int i]) (rest := []) ⟨hx, hb, hml, hown, hts⟩ (kX7_against l G ad hI (M 0 (mix d t)) i (hI.1 _ (mix_lt p_d p_t)) H.size) (cwV 2 hts gX7_blend_X7_against rfl rfl rfl (by decide +kernel) ⟨(Nat.le_of_ble_eq_true rfl), (Nat.le_of_ble_eq_true rfl)⟩) (zPV w hK (va_recv hK.1 w.1 (ci := 6) (q0 := 0) rfl rfl)) rfl rfl hl.1 rfl (lv_room (Nat.le_of_ble_eq_true rfl)) dX7_blend_114 ⟨(Nat.le_of_ble_eq_true rfl), (Nat.le_of_ble_eq_true rfl)⟩) (fun r_60 u H locs hq w => ?_)
                obtain ⟨rfl, e_r⟩ := hq
                subst e_r
                refine lv_lstore (lv' := [(10, .long (mAg M (M 0 (mix d t)) i)), (9, .int (M 0 (((4 * d) + t).toNatClampNeg))), (8, .int (M 0 (((4 * d2) + t2).toNatClampNeg))), (0, .ref (ad 0)), (1, .int d), (2, .int t), (3, .int i), (4, .int d2), (5, .int t2), (6, .int j), (7, .int less)]) hx hb dX7_blend_117 hl (by decide) rfl (fun ls hl => ?_)
                refine lv_lload hx hb dX7_blend_119 (lv_at hl 0 rfl) ?_
                refine lv_lconst (v := 0) hx hb dX7_blend_121 (by decide) ?_
                refine W.lcmp hx hb dX7_blend_122 ?_
                refine lv_if_eq (tgt := 133) hx hb dX7_blend_123 (by decide) (fun c_61 => ?_) (fun c_61 => ?_)
                · have p_f := zcmp0 c_61
                  obtain ⟨hv, hhs⟩ := mAg_0 p_f
                  have hmP := hI.1 _ (mix_lt p_d p_t)
                  have hat := mat_in hI hmP hv hhs
                  have hfl := hI.2.2.2.2.1 _ (zin_lt hat)
                  refine lv_bipush (v := 40) hx hb dX7_blend_133 (by decide) ?_
                  refine lv_iload hx hb dX7_blend_135 (lv_at hl 1 rfl) ?_
                  refine lv_imul hx hb dX7_blend_137 ?_
                  refine lv_iload_n hx hb dX7_blend_138 rfl (lv_at hl 6 rfl) ?_
                  refine lv_iadd hx hb dX7_blend_139 ?_
                  refine lv_istore (lv' := [(12, .int ((40 * (M 0 (((4 * d) + t).toNatClampNeg))) + i)), (10, .long (mAg M (M 0 (mix d t)) i)), (9, .int (M 0 (((4 * d) + t).toNatClampNeg))), (8, .int (M 0 (((4 * d2) + t2).toNatClampNeg))), (0, .ref (ad 0)), (1, .int d), (2, .int t), (3, .int i), (4, .int d2), (5, .int t2), (6, .int j), (7, .int less)]) hx hb dX7_blend_140 hl (by decide) rfl (fun ls hl => ?_)
                  refine lv_bipush (v := 40) hx hb dX7_blend_142 (by decide) ?_
                  refine lv_iload hx hb dX7_blend_144 (lv_at hl 3 rfl) ?_
                  refine lv_imul hx hb dX7_blend_146 ?_
                  refine lv_iload hx hb dX7_blend_147 (lv_at hl 10 rfl) ?_
                  refine lv_iadd hx hb dX7_blend_149 ?_
                  refine lv_istore (lv' := [(13, .int ((40 * (M 0 (((4 * d2) + t2).toNatClampNeg))) + j)), (12, .int ((40 * (M 0 (((4 * d) + t).toNatClampNeg))) + i)), (10, .long (mAg M (M 0 (mix d t)) i)), (9, .int (M 0 (((4 * d) + t).toNatClampNeg))), (8, .int (M 0 (((4 * d2) + t2).toNatClampNeg))), (0, .ref (ad 0)), (1, .int d), (2, .int t), (3, .int i), (4, .int d2), (5, .int t2), (6, .int j), (7, .int less)]) hx hb dX7_blend_150 hl (by decide) rfl (fun ls hl => ?_)
                  refine lv_iload_n hx hb dX7_blend_152 rfl (lv_at hl 7 rfl) ?_
                  refine lv_iconst (v := 3) hx hb dX7_blend_153 (by decide) ?_
                  refine lv_icmp_ne (tgt := 182) hx hb dX7_blend_154 (by decide) (fun c_62 => absurd p_3 c_62) (fun c_62 => ?_)
                  refine lv_aload_n hx hb dX7_blend_157 rfl (lv_at hl 5 rfl) ?_
                  refine zget (ci := 6) (C := RX7) (T := TX7) (N := 11) hx hb hts hown hK w (by decide +kernel) 0 rfl rfl 4 (by decide) (hts (.fieldLink RX7 22 "ReelBarnModel" "whole" "[I") (by decide +kernel)) (fun _ h9 => h9) rfl dX7_blend_158 ?_
                  refine lv_iload hx hb dX7_blend_161 (lv_at hl 1 rfl) ?_
                  refine lv_aload_n hx hb dX7_blend_163 rfl (lv_at hl 5 rfl) ?_
                  refine zget (ci := 6) (C := RX7) (T := TX7) (N := 11) hx hb hts hown hK w (by decide +kernel) 0 rfl rfl 4 (by decide) (hts (.fieldLink RX7 22 "ReelBarnModel" "whole" "[I") (by decide +kernel)) (fun _ h9 => h9) rfl dX7_blend_164 ?_
                  refine lv_iload hx hb dX7_blend_167 (lv_at hl 1 rfl) ?_
                  refine zm_iald hx hb hK w 5 rfl hat dX7_blend_169 ?_
                  refine lv_aload_n hx hb dX7_blend_170 rfl (lv_at hl 5 rfl) ?_
                  refine zget (ci := 6) (C := RX7) (T := TX7) (N := 11) hx hb hts hown hK w (by decide +kernel) 0 rfl rfl 4 (by decide) (hts (.fieldLink RX7 22 "ReelBarnModel" "whole" "[I") (by decide +kernel)) (fun _ h9 => h9) rfl dX7_blend_171 ?_
                  refine lv_iload hx hb dX7_blend_174 (lv_at hl 0 rfl) ?_
                  refine zm_iald hx hb hK w 5 rfl hat2 dX7_blend_176 ?_
                  refine lv_ixor hx hb dX7_blend_177 ?_
                  refine zm_iast hx hb hK w 5 rfl hat dX7_blend_178 (fun H locs w => ?_)
                  have w : zW G A s H locs (mW G ad (va_up M 4 (upd (M 4) (((40 * (M 0 (((4 * d) + t).toNatClampNeg))) + i).toNatClampNeg) ((M 4 (((40 * (M 0 (((4 * d) + t).toNatClampNeg))) + i).toNatClampNeg)) ^^^ (M 4 (((40 * (M 0 (((4 * d2) + t2).toNatClampNeg))) + j).toNatClampNeg))))) lev) := w
                  refine lv_goto (tgt := 344) hx hb dX7_blend_179 (by decide) ?_
                  refine lv_aload_n hx hb dX7_blend_344 rfl (lv_at hl 5 rfl) ?_
                  refine lv_iload_n hx hb dX7_blend_345 rfl (lv_at hl 7 rfl) ?_
                  refine lv_iload hx hb dX7_blend_346 (lv_at hl 3 rfl) ?_
                  refine lv_iload_n hx hb dX7_blend_348 rfl (lv_at hl 8 rfl) ?_
                  refine zCl w (va_runV (As := [.int t, .int (M 0 (((4 * d) + t).toNatClampNeg)), .int i]) (rest := []) ⟨hx, hb, hml, hown, hts⟩ (kX7_told (M := (va_up M 4 (upd (M 4) (((40 * (M 0 (((4 * d) + t).toNatClampNeg))) + i).toNatClampNeg) ((M 4 (((40 * (M 0 (((4 * d) + t).toNatClampNeg))) + i).toNatClampNeg)) ^^^ (M 4 (((40 * (M 0 (((4 * d2) + t2).toNatClampNeg))) + j).toNatClampNeg)))))) (lev := lev) l G ad t (M 0 (mix d t)) i hat (hfl) H.size) (cwV 3 hts gX7_blend_X7_told rfl rfl rfl (by decide +kernel) ⟨(Nat.le_of_ble_eq_true rfl), (Nat.le_of_ble_eq_true rfl)⟩) (zPV w hK (va_recv hK.1 w.1 (ci := 6) (q0 := 0) rfl rfl)) rfl rfl hl.1 rfl (lv_room (Nat.le_of_ble_eq_true rfl)) dX7_blend_349 ⟨(Nat.le_of_ble_eq_true rfl), (Nat.le_of_ble_eq_true rfl)⟩) (fun r_63 u H locs hq w => ?_)
                  obtain ⟨rfl, e_r⟩ := hq
                  subst e_r
                  exact zRl hx hb hr hlk w dX7_blend_352 (Nat.le_of_ble_eq_true rfl) (Nat.le_of_ble_eq_true rfl) (by show (if _ then _ else _); rw [if_pos ⟨p_d, p_t, p_e, p_u, p_k⟩]; (first | rw [if_pos p_g] | rw [if_neg p_g]); (first | rw [if_pos p_f] | rw [if_neg p_f]); rw [if_pos p_3]; (try (first | exact ⟨rfl, rfl⟩ | exact ⟨trivial, trivial⟩)))
                · have p_f := zcmp1 c_61
                  refine lv_aload_n hx hb dX7_blend_126 rfl (lv_at hl 3 rfl) ?_
                  refine lv_lload hx hb dX7_blend_127 (lv_at hl 0 rfl) ?_
                  refine zCl w (va_runV (As := [.long (mAg M (M 0 (mix d t)) i)]) (rest := []) ⟨hx, hb, hml, hown, hts⟩ (kX7_refuse l G ad (mAg M (M 0 (mix d t)) i) (mAg_why p_f) H.size) (cwV 1 hts gX7_blend_X7_refuse rfl rfl rfl (by decide +kernel) ⟨(Nat.le_of_ble_eq_true rfl), (Nat.le_of_ble_eq_true rfl)⟩) (zPV w hK (va_recv hK.1 w.1 (ci := 6) (q0 := 0) rfl rfl)) rfl rfl hl.1 rfl (lv_room (Nat.le_of_ble_eq_true rfl)) dX7_blend_129 ⟨(Nat.le_of_ble_eq_true rfl), (Nat.le_of_ble_eq_true rfl)⟩) (fun r_64 u H locs hq w => ?_)
                  obtain ⟨rfl, e_r⟩ := hq
                  subst e_r
                  exact zRl hx hb hr hlk w dX7_blend_132 (Nat.le_of_ble_eq_true rfl) (Nat.le_of_ble_eq_true rfl) (by show (if _ then _ else _); rw [if_pos ⟨p_d, p_t, p_e, p_u, p_k⟩]; (first | rw [if_pos p_g] | rw [if_neg p_g]); (first | rw [if_pos p_f] | rw [if_neg p_f]); exact ⟨rfl, rfl⟩)
              · have p_g := zcmp1 c_59
                refine lv_lload hx hb dX7_blend_105 (lv_at hl 0 rfl) ?_
                refine lv_goto (tgt := 117) hx hb dX7_blend_107 (by decide) ?_
                refine lv_lstore (lv' := [(10, .long (mAg M (M 0 (mix d2 t2)) j)), (9, .int (M 0 (((4 * d) + t).toNatClampNeg))), (8, .int (M 0 (((4 * d2) + t2).toNatClampNeg))), (0, .ref (ad 0)), (1, .int d), (2, .int t), (3, .int i), (4, .int d2), (5, .int t2), (6, .int j), (7, .int less)]) hx hb dX7_blend_117 hl (by decide) rfl (fun ls hl => ?_)
                refine lv_lload hx hb dX7_blend_119 (lv_at hl 0 rfl) ?_
                refine lv_lconst (v := 0) hx hb dX7_blend_121 (by decide) ?_
                refine W.lcmp hx hb dX7_blend_122 ?_
                refine lv_if_eq (tgt := 133) hx hb dX7_blend_123 (by decide) (fun c_65 => absurd c_65 c_59) (fun c_65 => ?_)
                refine lv_aload_n hx hb dX7_blend_126 rfl (lv_at hl 3 rfl) ?_
                refine lv_lload hx hb dX7_blend_127 (lv_at hl 0 rfl) ?_
                refine zCl w (va_runV (As := [.long (mAg M (M 0 (mix d2 t2)) j)]) (rest := []) ⟨hx, hb, hml, hown, hts⟩ (kX7_refuse l G ad (mAg M (M 0 (mix d2 t2)) j) (mAg_why p_g) H.size) (cwV 1 hts gX7_blend_X7_refuse rfl rfl rfl (by decide +kernel) ⟨(Nat.le_of_ble_eq_true rfl), (Nat.le_of_ble_eq_true rfl)⟩) (zPV w hK (va_recv hK.1 w.1 (ci := 6) (q0 := 0) rfl rfl)) rfl rfl hl.1 rfl (lv_room (Nat.le_of_ble_eq_true rfl)) dX7_blend_129 ⟨(Nat.le_of_ble_eq_true rfl), (Nat.le_of_ble_eq_true rfl)⟩) (fun r_66 u H locs hq w => ?_)
                obtain ⟨rfl, e_r⟩ := hq
                subst e_r
                exact zRl hx hb hr hlk w dX7_blend_132 (Nat.le_of_ble_eq_true rfl) (Nat.le_of_ble_eq_true rfl) (by show (if _ then _ else _); rw [if_pos ⟨p_d, p_t, p_e, p_u, p_k⟩]; (first | rw [if_pos p_g] | rw [if_neg p_g]); exact ⟨rfl, rfl⟩)
