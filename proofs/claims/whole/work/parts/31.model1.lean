def mAR (M : Nat → Nat → Int32) (t y : Int32) : Int64 := if M 1 (zS t) = -1 then zVACANT else if ¬ y < 0 ∧ y < M 1 (zS t) then 0 else zBEYOND
def mAP (M : Nat → Nat → Int32) (t y k : Int32) : Int64 := if mAR M t y = 0 then (if M 2 (mwx t y) = -1 then zBARE else if mHs M (M 2 (mwx t y)) k then 0 else zBEYOND) else mAR M t y
theorem mAR_why {M : Nat → Nat → Int32} {t y : Int32} (h : ¬ mAR M t y = 0) : zWhy (mAR M t y) := by
  unfold mAR at h ⊢
  split
  · exact zW2
  · split
    · rename_i h1 h2; rw [if_neg h1, if_pos h2] at h; exact absurd rfl h
    · exact zW3
theorem mAR_0 {M : Nat → Nat → Int32} {t y : Int32} (h : mAR M t y = 0) : ¬ M 1 (zS t) = -1 ∧ ¬ y < 0 ∧ y < M 1 (zS t) := by
  unfold mAR at h
  by_cases h1 : M 1 (zS t) = -1
  · rw [if_pos h1] at h; exact absurd h (by decide)
  · rw [if_neg h1] at h
    by_cases h2 : ¬ y < 0 ∧ y < M 1 (zS t)
    · exact ⟨h1, h2⟩
    · rw [if_neg h2] at h; exact absurd h (by decide)
theorem mAP_why {M : Nat → Nat → Int32} {t y k : Int32} (h : ¬ mAP M t y k = 0) : zWhy (mAP M t y k) := by
  unfold mAP at h ⊢
  by_cases h0 : mAR M t y = 0
  · rw [if_pos h0] at h ⊢
    split
    · exact zW7
    · split
      · rename_i h1 h2; rw [if_neg h1, if_pos h2] at h; exact absurd rfl h
      · exact zW3
  · rw [if_neg h0] at h ⊢
    exact mAR_why h0
theorem mAP_0 {M : Nat → Nat → Int32} {t y k : Int32} (h : mAP M t y k = 0) : mAR M t y = 0 ∧ ¬ M 2 (mwx t y) = -1 ∧ mHs M (M 2 (mwx t y)) k := by
  unfold mAP at h
  by_cases h0 : mAR M t y = 0
  · rw [if_pos h0] at h
    by_cases h1 : M 2 (mwx t y) = -1
    · rw [if_pos h1] at h; exact absurd h (by decide)
    · rw [if_neg h1] at h
      by_cases h2 : mHs M (M 2 (mwx t y)) k
      · exact ⟨h0, h1, h2⟩
      · rw [if_neg h2] at h; exact absurd h (by decide)
  · rw [if_neg h0] at h; exact absurd h h0
theorem mwx_of {M : Nat → Nat → Int32} {lev : Nat → UInt32} {t y : Int32} (hI : mI M lev) (ht : zFour t) (h : mAR M t y = 0) : ∃ a b n : Nat, a < 4 ∧ b < n ∧ n ≤ 12 ∧ t = nI a ∧ y = nI b ∧ zS t = a ∧ M 1 a = nI n ∧ mwx t y = 12 * a + b := by
  obtain ⟨h1, h2, h3⟩ := mAR_0 h
  obtain ⟨a, ha, ea⟩ := zFour_of ht
  have es := zS_is ha ea
  rw [es] at h1 h3
  rcases hI.2.2.1 a ha with q | ⟨n, hn, en⟩
  · exact absurd q h1
  · obtain ⟨b, hb, eb⟩ := nI_of h2
    rw [en, eb] at h3
    have hlt := (nI_ltI hb (by omega)).mp h3
    refine ⟨a, b, n, ha, hlt, hn, ea, eb, es, en, ?_⟩
    unfold mwx
    rw [ea, eb, show (12 : Int32) = nI 12 from rfl, pk_mul, nI_add, nI_clamp (by omega)]
theorem mwx_in {M : Nat → Nat → Int32} {lev : Nat → UInt32} {t y : Int32} (hI : mI M lev) (ht : zFour t) (h : mAR M t y = 0) : vp_in (12 * t + y) 48 := by
  obtain ⟨a, b, n, ha, hb, hn, ea, eb, -, -, -⟩ := mwx_of hI ht h
  rw [ea, eb, show (12 : Int32) = nI 12 from rfl, pk_mul, nI_add]
  exact vp_in_nI (by omega) (by decide)
theorem mFL_fin {lev : Nat → UInt32} {t : Int32} {k : Nat} {v : UInt32} (h : zFin (lev k)) (hv : vf_n32 v) : zFin (mFL lev t k v k) := by
  unfold mFL
  split
  · exact h
  · unfold vf_upd; rw [if_pos rfl]; exact zHe_fin hv
abbrev mKn (t how : Int32) : Prop := (t = 2 ∧ ¬ how < 0 ∧ ¬ 2 ≤ how) ∨ (¬ t = 2 ∧ t = 3 ∧ ¬ how ≤ 5 ∧ ¬ 9 ≤ how) ∨ (¬ t = 2 ∧ ¬ t = 3 ∧ ¬ how < 0 ∧ ¬ 9 ≤ how)
theorem mKn_dv {t how x : Int32} (h : mKn t how) (h3 : t = 3) : ¬ (how = 3 ∧ x &&& 1 = 0) := by
  rintro ⟨q, -⟩
  subst q
  rcases h with h | h | h
  · exact absurd (h.1.symm.trans h3) (by decide)
  · exact h.2.2.1 (by decide)
  · exact h.2.1 h3
set_option maxHeartbeats 4000000 in
set_option maxRecDepth 100000 in
theorem kX7_isFour (l : Launch) (G : zG) (ws : va_W) (x : Int32) (sz : Nat) : zMi l yX7_isFour wsX7_isFour { frames := 0, cells := 0, slots := 0, locals := 0 } G [.int x] (ws) sz (fun r u => u = ws ∧ r = if zFour x then 1 else 0) 0 0 := by
  refine zIn (Qc := fun A => va_Qi _ (zB G A) A) (cc := cX7_isFour) (maxL := 1) (ret := (some .boolean)) (by decide) rfl (Nat.le_of_ble_eq_true rfl) ?_
  intro p e s m below meth c A ls hx hb hr hlk hml hts hown hnm hK w hl
  have hown : s.vm.findClass RX7 = some m.cls := hown
  have hl : lv_has ls 1 [(0, .int x)] := hl
  refine lv_iload_n hx hb dX7_isFour_0 rfl (lv_at hl 0 rfl) ?_
  refine lv_if_lt (tgt := 13) hx hb dX7_isFour_1 (by decide) (fun c_1 => ?_) (fun c_1 => ?_)
  · refine lv_iconst (v := 0) hx hb dX7_isFour_13 (by decide) ?_
    exact zRz hx hb hr hlk rfl w dX7_isFour_14 (Nat.le_of_ble_eq_true rfl) (Nat.le_of_ble_eq_true rfl) ⟨rfl, by simp [zFour, c_1]⟩
  · refine lv_iload_n hx hb dX7_isFour_4 rfl (lv_at hl 0 rfl) ?_
    refine lv_iconst (v := 4) hx hb dX7_isFour_5 (by decide) ?_
    refine lv_icmp_ge (tgt := 13) hx hb dX7_isFour_6 (by decide) (fun c_2 => ?_) (fun c_2 => ?_)
    · refine lv_iconst (v := 0) hx hb dX7_isFour_13 (by decide) ?_
      exact zRz hx hb hr hlk rfl w dX7_isFour_14 (Nat.le_of_ble_eq_true rfl) (Nat.le_of_ble_eq_true rfl) ⟨rfl, by simp [zFour, c_1, c_2]⟩
    · refine lv_iconst (v := 1) hx hb dX7_isFour_9 (by decide) ?_
      refine lv_goto (tgt := 14) hx hb dX7_isFour_10 (by decide) ?_
      exact zRz hx hb hr hlk rfl w dX7_isFour_14 (Nat.le_of_ble_eq_true rfl) (Nat.le_of_ble_eq_true rfl) ⟨rfl, by simp [zFour, c_1, c_2]⟩
set_option maxHeartbeats 4000000 in
set_option maxRecDepth 100000 in
theorem kX7_eighth (l : Launch) (G : zG) (ws : va_W) (n : Int32) (sz : Nat) : zMf l yX7_eighth wsX7_eighth { frames := 0, cells := 0, slots := 0, locals := 0 } G [.int n] (ws) sz (fun r u => u = ws ∧ r = zEi n) 0 0 := by
  refine zIn (Qc := fun A => va_Qf _ (zB G A) A) (cc := cX7_eighth) (maxL := 1) (ret := (some .float)) (by decide) rfl (Nat.le_of_ble_eq_true rfl) ?_
  intro p e s m below meth c A ls hx hb hr hlk hml hts hown hnm hK w hl
  have hown : s.vm.findClass RX7 = some m.cls := hown
  have hl : lv_has ls 1 [(0, .int n)] := hl
  refine lv_iload_n hx hb dX7_eighth_0 rfl (lv_at hl 0 rfl) ?_
  refine lv_i2f hx hb dX7_eighth_1 ?_
  refine lv_ldcf hx hb hown (hts (.constantFloat RX7 43 (1090519040)) (by decide +kernel)) dX7_eighth_2 ?_
  refine lv_fdiv hx hb dX7_eighth_4 (zEi_n n) ?_
  exact zRf hx hb hr hlk w dX7_eighth_5 (Nat.le_of_ble_eq_true rfl) (Nat.le_of_ble_eq_true rfl) ⟨rfl, rfl⟩
set_option maxHeartbeats 4000000 in
set_option maxRecDepth 100000 in
theorem kX7_held (l : Launch) (G : zG) (ws : va_W) (v : UInt32) (sz : Nat) : zMf l yX7_held wsX7_held { frames := 0, cells := 0, slots := 0, locals := 0 } G [.float v] (ws) sz (fun r u => u = ws ∧ r = zHe v) 0 0 := by
  refine zIn (Qc := fun A => va_Qf _ (zB G A) A) (cc := cX7_held) (maxL := 1) (ret := (some .float)) (by decide) rfl (Nat.le_of_ble_eq_true rfl) ?_
  intro p e s m below meth c A ls hx hb hr hlk hml hts hown hnm hK w hl
  have hown : s.vm.findClass RX7 = some m.cls := hown
  have hl : lv_has ls 1 [(0, .float v)] := hl
  refine lv_fload_n hx hb dX7_held_0 rfl (lv_at hl 0 rfl) ?_
  refine lv_ldcf hx hb hown (hts (.constantFloat RX7 44 (1232348160)) (by decide +kernel)) dX7_held_1 ?_
  refine lv_fcmp hx hb dX7_held_3 ?_
  refine lv_if_le (tgt := 12) hx hb dX7_held_4 (by decide) (fun c_1 => ?_) (fun c_1 => ?_)
  · refine lv_fload_n hx hb dX7_held_12 rfl (lv_at hl 0 rfl) ?_
    refine lv_ldcf hx hb hown (hts (.constantFloat RX7 45 (3379831808)) (by decide +kernel)) dX7_held_13 ?_
    refine lv_fcmp hx hb dX7_held_15 ?_
    refine lv_if_ge (tgt := 24) hx hb dX7_held_16 (by decide) (fun c_2 => ?_) (fun c_2 => ?_)
    · refine lv_fload_n hx hb dX7_held_24 rfl (lv_at hl 0 rfl) ?_
      exact zRf hx hb hr hlk w dX7_held_25 (Nat.le_of_ble_eq_true rfl) (Nat.le_of_ble_eq_true rfl) ⟨rfl, by simp [zHe, c_1, c_2]⟩
    · refine lv_ldcf hx hb hown (hts (.constantFloat RX7 45 (3379831808)) (by decide +kernel)) dX7_held_19 ?_
      refine lv_goto (tgt := 25) hx hb dX7_held_21 (by decide) ?_
      exact zRf hx hb hr hlk w dX7_held_25 (Nat.le_of_ble_eq_true rfl) (Nat.le_of_ble_eq_true rfl) ⟨rfl, by simp [zHe, c_1, c_2]⟩
  · refine lv_ldcf hx hb hown (hts (.constantFloat RX7 44 (1232348160)) (by decide +kernel)) dX7_held_7 ?_
    refine lv_goto (tgt := 25) hx hb dX7_held_9 (by decide) ?_
    exact zRf hx hb hr hlk w dX7_held_25 (Nat.le_of_ble_eq_true rfl) (Nat.le_of_ble_eq_true rfl) ⟨rfl, by simp [zHe, c_1]⟩
set_option maxHeartbeats 4000000 in
set_option maxRecDepth 100000 in
theorem kX7_worked (l : Launch) (G : zG) (ws : va_W) (how x n : Int32) (hdv : ¬ (how = 3 ∧ n = 0)) (sz : Nat) : zMi l yX7_worked wsX7_worked { frames := 0, cells := 0, slots := 0, locals := 0 } G [.int how, .int x, .int n] (ws) sz (fun r u => u = ws ∧ r = zRek x how n) 0 0 := by
  refine zIn (Qc := fun A => va_Qi _ (zB G A) A) (cc := cX7_worked) (maxL := 3) (ret := (some .int)) (by decide) rfl (Nat.le_of_ble_eq_true rfl) ?_
  intro p e s m below meth c A ls hx hb hr hlk hml hts hown hnm hK w hl
  have hown : s.vm.findClass RX7 = some m.cls := hown
  have hl : lv_has ls 3 [(0, .int how), (1, .int x), (2, .int n)] := hl
  refine lv_iload_n hx hb dX7_worked_0 rfl (lv_at hl 0 rfl) ?_
  rcases Decidable.em (how = 0) with t_1 | t_1
  · refine lv_tableIn (tgt := 48) hx hb dX7_worked_1 (by rw [t_1]; decide) (by rw [t_1]; decide) (by rw [t_1]; rfl) (by decide) ?_
    refine lv_iload_n hx hb dX7_worked_48 rfl (lv_at hl 1 rfl) ?_
    refine lv_iload_n hx hb dX7_worked_49 rfl (lv_at hl 2 rfl) ?_
    refine lv_iadd hx hb dX7_worked_50 ?_
    exact zRi hx hb hr hlk w dX7_worked_51 (Nat.le_of_ble_eq_true rfl) (Nat.le_of_ble_eq_true rfl) ⟨rfl, by simp [zRek, t_1]⟩
  · rcases Decidable.em (how = 1) with t_2 | t_2
    · refine lv_tableIn (tgt := 52) hx hb dX7_worked_1 (by rw [t_2]; decide) (by rw [t_2]; decide) (by rw [t_2]; rfl) (by decide) ?_
      refine lv_iload_n hx hb dX7_worked_52 rfl (lv_at hl 1 rfl) ?_
      refine lv_iload_n hx hb dX7_worked_53 rfl (lv_at hl 2 rfl) ?_
      refine lv_isub hx hb dX7_worked_54 ?_
      exact zRi hx hb hr hlk w dX7_worked_55 (Nat.le_of_ble_eq_true rfl) (Nat.le_of_ble_eq_true rfl) ⟨rfl, by simp [zRek, t_1, t_2]⟩
    · rcases Decidable.em (how = 2) with t_3 | t_3
      · refine lv_tableIn (tgt := 56) hx hb dX7_worked_1 (by rw [t_3]; decide) (by rw [t_3]; decide) (by rw [t_3]; rfl) (by decide) ?_
        refine lv_iload_n hx hb dX7_worked_56 rfl (lv_at hl 1 rfl) ?_
        refine lv_iload_n hx hb dX7_worked_57 rfl (lv_at hl 2 rfl) ?_
        refine lv_imul hx hb dX7_worked_58 ?_
        exact zRi hx hb hr hlk w dX7_worked_59 (Nat.le_of_ble_eq_true rfl) (Nat.le_of_ble_eq_true rfl) ⟨rfl, by simp [zRek, t_1, t_2, t_3]⟩
      · rcases Decidable.em (how = 3) with t_4 | t_4
        · refine lv_tableIn (tgt := 60) hx hb dX7_worked_1 (by rw [t_4]; decide) (by rw [t_4]; decide) (by rw [t_4]; rfl) (by decide) ?_
          refine lv_iload_n hx hb dX7_worked_60 rfl (lv_at hl 1 rfl) ?_
          refine lv_iload_n hx hb dX7_worked_61 rfl (lv_at hl 2 rfl) ?_
          refine lv_idiv hx hb dX7_worked_62 (fun q => hdv ⟨t_4, q⟩) ?_
          exact zRi hx hb hr hlk w dX7_worked_63 (Nat.le_of_ble_eq_true rfl) (Nat.le_of_ble_eq_true rfl) ⟨rfl, by simp [zRek, t_1, t_2, t_3, t_4]⟩
        · rcases Decidable.em (how = 4) with t_5 | t_5
          · refine lv_tableIn (tgt := 64) hx hb dX7_worked_1 (by rw [t_5]; decide) (by rw [t_5]; decide) (by rw [t_5]; rfl) (by decide) ?_
            refine lv_iload_n hx hb dX7_worked_64 rfl (lv_at hl 1 rfl) ?_
            refine lv_iload_n hx hb dX7_worked_65 rfl (lv_at hl 2 rfl) ?_
            refine lv_bipush (v := 31) hx hb dX7_worked_66 (by decide) ?_
            refine lv_iand hx hb dX7_worked_68 ?_
            refine lv_ishl hx hb dX7_worked_69 ?_
            exact zRi hx hb hr hlk w dX7_worked_70 (Nat.le_of_ble_eq_true rfl) (Nat.le_of_ble_eq_true rfl) ⟨rfl, by simp [zRek, t_1, t_2, t_3, t_4, t_5]⟩
          · rcases Decidable.em (how = 5) with t_6 | t_6
            · refine lv_tableIn (tgt := 71) hx hb dX7_worked_1 (by rw [t_6]; decide) (by rw [t_6]; decide) (by rw [t_6]; rfl) (by decide) ?_
              refine lv_iload_n hx hb dX7_worked_71 rfl (lv_at hl 1 rfl) ?_
              refine lv_iload_n hx hb dX7_worked_72 rfl (lv_at hl 2 rfl) ?_
              refine lv_bipush (v := 31) hx hb dX7_worked_73 (by decide) ?_
              refine lv_iand hx hb dX7_worked_75 ?_
              refine lv_iushr hx hb dX7_worked_76 rfl ?_
              exact zRi hx hb hr hlk w dX7_worked_77 (Nat.le_of_ble_eq_true rfl) (Nat.le_of_ble_eq_true rfl) ⟨rfl, by simp [zRek, t_1, t_2, t_3, t_4, t_5, t_6]⟩
            · rcases Decidable.em (how = 6) with t_7 | t_7
              · refine lv_tableIn (tgt := 78) hx hb dX7_worked_1 (by rw [t_7]; decide) (by rw [t_7]; decide) (by rw [t_7]; rfl) (by decide) ?_
                refine lv_iload_n hx hb dX7_worked_78 rfl (lv_at hl 1 rfl) ?_
                refine lv_iload_n hx hb dX7_worked_79 rfl (lv_at hl 2 rfl) ?_
                refine lv_ixor hx hb dX7_worked_80 ?_
                exact zRi hx hb hr hlk w dX7_worked_81 (Nat.le_of_ble_eq_true rfl) (Nat.le_of_ble_eq_true rfl) ⟨rfl, by simp [zRek, t_1, t_2, t_3, t_4, t_5, t_6, t_7]⟩
              · rcases Decidable.em (how = 7) with t_8 | t_8
                · refine lv_tableIn (tgt := 82) hx hb dX7_worked_1 (by rw [t_8]; decide) (by rw [t_8]; decide) (by rw [t_8]; rfl) (by decide) ?_
                  refine lv_iload_n hx hb dX7_worked_82 rfl (lv_at hl 1 rfl) ?_
                  refine lv_iload_n hx hb dX7_worked_83 rfl (lv_at hl 2 rfl) ?_
                  refine lv_iand hx hb dX7_worked_84 ?_
                  exact zRi hx hb hr hlk w dX7_worked_85 (Nat.le_of_ble_eq_true rfl) (Nat.le_of_ble_eq_true rfl) ⟨rfl, by simp [zRek, t_1, t_2, t_3, t_4, t_5, t_6, t_7, t_8]⟩
                · refine lv_tableOut (tgt := 86) hx hb dX7_worked_1 (by have q0 := lv_neT (k := 0) (a := 0) t_1 rfl; have q1 := lv_neT (k := 1) (a := 1) t_2 rfl; have q2 := lv_neT (k := 2) (a := 2) t_3 rfl; have q3 := lv_neT (k := 3) (a := 3) t_4 rfl; have q4 := lv_neT (k := 4) (a := 4) t_5 rfl; have q5 := lv_neT (k := 5) (a := 5) t_6 rfl; have q6 := lv_neT (k := 6) (a := 6) t_7 rfl; have q7 := lv_neT (k := 7) (a := 7) t_8 rfl; omega) (by decide) ?_
                  refine lv_iload_n hx hb dX7_worked_86 rfl (lv_at hl 1 rfl) ?_
                  refine lv_iload_n hx hb dX7_worked_87 rfl (lv_at hl 2 rfl) ?_
                  refine lv_ior hx hb dX7_worked_88 ?_
                  exact zRi hx hb hr hlk w dX7_worked_89 (Nat.le_of_ble_eq_true rfl) (Nat.le_of_ble_eq_true rfl) ⟨rfl, by simp [zRek, t_1, t_2, t_3, t_4, t_5, t_6, t_7, t_8]⟩
set_option maxHeartbeats 4000000 in
set_option maxRecDepth 100000 in
theorem kX7_refuse (l : Launch) (G : zG) (ad : Nat → Nat) {M : Nat → Nat → Int32} {lev : Nat → UInt32} (why : Int64) (hw : zWhy why) (sz : Nat) : zMl l yX7_refuse wsX7_refuse { frames := 0, cells := 0, slots := 0, locals := 0 } G [.ref (ad 0), .long why] (mW G ad M lev) sz (fun r u => u = mW G ad (mRef M why) lev ∧ r = why) 0 0 := by
  refine zIn (Qc := fun A => va_Ql _ (zB G A) A) (cc := cX7_refuse) (maxL := 3) (ret := (some .long)) (by decide) rfl (Nat.le_of_ble_eq_true rfl) ?_
  intro p e s m below meth c A ls hx hb hr hlk hml hts hown hnm hK w hl
  have hown : s.vm.findClass RX7 = some m.cls := hown
  have hl : lv_has ls 3 [(0, .ref (ad 0)), (1, .long why)] := hl
  refine lv_aload_n hx hb dX7_refuse_0 rfl (lv_at hl 0 rfl) ?_
  refine zget (ci := 6) (C := RX7) (T := TX7) (N := 11) hx hb hts hown hK w (by decide +kernel) 0 rfl rfl 10 (by decide) (hts (.fieldLink RX7 40 "ReelBarnModel" "refused" "[I") (by decide +kernel)) (fun _ h9 => h9) rfl dX7_refuse_1 ?_
  refine lv_lload_n hx hb dX7_refuse_4 rfl (lv_at hl 1 rfl) ?_
  refine lv_bipush (v := 40) hx hb dX7_refuse_5 (by decide) ?_
  refine lv_lshr hx hb dX7_refuse_7 rfl ?_
  refine lv_l2i hx hb dX7_refuse_8 rfl ?_
  refine lv_dup2_11 hx hb dX7_refuse_9 rfl rfl ?_
  refine zm_iald hx hb hK w 9 rfl hw dX7_refuse_10 ?_
  refine lv_iconst (v := 1) hx hb dX7_refuse_11 (by decide) ?_
  refine lv_iadd hx hb dX7_refuse_12 ?_
  refine zm_iast hx hb hK w 9 rfl hw dX7_refuse_13 (fun H locs w => ?_)
  have w : zW G A s H locs (mW G ad (va_up M 8 (upd (M 8) (((why >>> ((40 : Int32).toInt64 &&& 63)).toInt32).toNatClampNeg) ((M 8 (((why >>> ((40 : Int32).toInt64 &&& 63)).toInt32).toNatClampNeg)) + 1))) lev) := w
  refine lv_lload_n hx hb dX7_refuse_14 rfl (lv_at hl 1 rfl) ?_
  exact zRl hx hb hr hlk w dX7_refuse_15 (Nat.le_of_ble_eq_true rfl) (Nat.le_of_ble_eq_true rfl) ⟨rfl, rfl⟩
set_option maxHeartbeats 4000000 in
set_option maxRecDepth 100000 in
theorem kX7_told (l : Launch) (G : zG) (ad : Nat → Nat) {M : Nat → Nat → Int32} {lev : Nat → UInt32} (t y i : Int32) (hat : vp_in (40 * y + i) 3200) (hfl : zFin (lev (mat y i))) (sz : Nat) : zMl l yX7_told wsX7_told { frames := 0, cells := 0, slots := 0, locals := 0 } G [.ref (ad 0), .int t, .int y, .int i] (mW G ad M lev) sz (fun r u => u = mW G ad M lev ∧ r = (mTo M lev t (mat y i)).toInt64) 0 0 := by
  refine zIn (Qc := fun A => va_Ql _ (zB G A) A) (cc := cX7_told) (maxL := 4) (ret := (some .long)) (by decide) rfl (Nat.le_of_ble_eq_true rfl) ?_
  intro p e s m below meth c A ls hx hb hr hlk hml hts hown hnm hK w hl
  have hown : s.vm.findClass RX7 = some m.cls := hown
  have hl : lv_has ls 4 [(0, .ref (ad 0)), (1, .int t), (2, .int y), (3, .int i)] := hl
  refine lv_iload_n hx hb dX7_told_0 rfl (lv_at hl 1 rfl) ?_
  refine lv_iconst (v := 2) hx hb dX7_told_1 (by decide) ?_
  refine lv_icmp_ne (tgt := 24) hx hb dX7_told_2 (by decide) (fun c_1 => ?_) (fun c_1 => ?_)
  · refine lv_aload_n hx hb dX7_told_24 rfl (lv_at hl 0 rfl) ?_
    refine zget (ci := 6) (C := RX7) (T := TX7) (N := 11) hx hb hts hown hK w (by decide +kernel) 0 rfl rfl 4 (by decide) (hts (.fieldLink RX7 22 "ReelBarnModel" "whole" "[I") (by decide +kernel)) (fun _ h9 => h9) rfl dX7_told_25 ?_
    refine lv_bipush (v := 40) hx hb dX7_told_28 (by decide) ?_
    refine lv_iload_n hx hb dX7_told_30 rfl (lv_at hl 2 rfl) ?_
    refine lv_imul hx hb dX7_told_31 ?_
    refine lv_iload_n hx hb dX7_told_32 rfl (lv_at hl 3 rfl) ?_
    refine lv_iadd hx hb dX7_told_33 ?_
    refine zm_iald hx hb hK w 5 rfl hat dX7_told_34 ?_
    refine lv_i2l hx hb dX7_told_35 rfl ?_
    exact zRl hx hb hr hlk w dX7_told_36 (Nat.le_of_ble_eq_true rfl) (Nat.le_of_ble_eq_true rfl) ⟨rfl, by simp [mTo, c_1]⟩
  · refine lv_aload_n hx hb dX7_told_5 rfl (lv_at hl 0 rfl) ?_
    refine zget (ci := 6) (C := RX7) (T := TX7) (N := 11) hx hb hts hown hK w (by decide +kernel) 0 rfl rfl 5 (by decide) (hts (.fieldLink RX7 25 "ReelBarnModel" "level" "[F") (by decide +kernel)) (fun _ h9 => h9) rfl dX7_told_6 ?_
    refine lv_bipush (v := 40) hx hb dX7_told_9 (by decide) ?_
    refine lv_iload_n hx hb dX7_told_11 rfl (lv_at hl 2 rfl) ?_
    refine lv_imul hx hb dX7_told_12 ?_
    refine lv_iload_n hx hb dX7_told_13 rfl (lv_at hl 3 rfl) ?_
    refine lv_iadd hx hb dX7_told_14 ?_
    refine zm_fald hx hb hK w 6 rfl hat dX7_told_15 ?_
    refine lv_ldcf hx hb hown (hts (.constantFloat RX7 43 (1090519040)) (by decide +kernel)) dX7_told_16 ?_
    refine lv_fmul hx hb dX7_told_18 (zmul8 hfl) ?_
    refine lv_f2i hx hb dX7_told_19 ?_
    refine lv_i2l hx hb dX7_told_20 rfl ?_
    refine lv_goto (tgt := 36) hx hb dX7_told_21 (by decide) ?_
    exact zRl hx hb hr hlk w dX7_told_36 (Nat.le_of_ble_eq_true rfl) (Nat.le_of_ble_eq_true rfl) ⟨rfl, by simp [mTo, c_1]⟩
set_option maxHeartbeats 4000000 in
set_option maxRecDepth 100000 in
theorem kX7_fill (l : Launch) (G : zG) (ad : Nat → Nat) {M : Nat → Nat → Int32} {lev : Nat → UInt32} (t y i x : Int32) (hat : vp_in (40 * y + i) 3200) (sz : Nat) : zMv l yX7_fill wsX7_fill { frames := 1, cells := 0, slots := 0, locals := 20 } G [.ref (ad 0), .int t, .int y, .int i, .int x] (mW G ad M lev) sz (fun u => u = mW G ad (mFM M t (mat y i) x) (mFL lev t (mat y i) (zEi x))) 0 0 := by
  refine zIn (Qc := fun A => va_Qv _ (zB G A) A) (cc := cX7_fill) (maxL := 6) (ret := none) (by decide) rfl (Nat.le_of_ble_eq_true rfl) ?_
  intro p e s m below meth c A ls hx hb hr hlk hml hts hown hnm hK w hl
  have hown : s.vm.findClass RX7 = some m.cls := hown
  have hl : lv_has ls 6 [(0, .ref (ad 0)), (1, .int t), (2, .int y), (3, .int i), (4, .int x)] := hl
  refine lv_bipush (v := 40) hx hb dX7_fill_0 (by decide) ?_
  refine lv_iload_n hx hb dX7_fill_2 rfl (lv_at hl 2 rfl) ?_
  refine lv_imul hx hb dX7_fill_3 ?_
  refine lv_iload_n hx hb dX7_fill_4 rfl (lv_at hl 3 rfl) ?_
  refine lv_iadd hx hb dX7_fill_5 ?_
  refine lv_istore (lv' := [(5, .int ((40 * y) + i)), (0, .ref (ad 0)), (1, .int t), (2, .int y), (3, .int i), (4, .int x)]) hx hb dX7_fill_6 hl (by decide) rfl (fun ls hl => ?_)
  refine lv_iload_n hx hb dX7_fill_8 rfl (lv_at hl 2 rfl) ?_
  refine lv_if_ne (tgt := 27) hx hb dX7_fill_9 (by decide) (fun c_1 => ?_) (fun c_1 => ?_)
  · refine lv_iload_n hx hb dX7_fill_27 rfl (lv_at hl 2 rfl) ?_
    refine lv_iconst (v := 1) hx hb dX7_fill_28 (by decide) ?_
    refine lv_icmp_ne (tgt := 50) hx hb dX7_fill_29 (by decide) (fun c_2 => ?_) (fun c_2 => ?_)
    · refine lv_iload_n hx hb dX7_fill_50 rfl (lv_at hl 2 rfl) ?_
      refine lv_iconst (v := 3) hx hb dX7_fill_51 (by decide) ?_
      refine lv_icmp_ne (tgt := 69) hx hb dX7_fill_52 (by decide) (fun c_3 => ?_) (fun c_3 => ?_)
      · refine lv_aload_n hx hb dX7_fill_69 rfl (lv_at hl 1 rfl) ?_
        refine zget (ci := 6) (C := RX7) (T := TX7) (N := 11) hx hb hts hown hK w (by decide +kernel) 0 rfl rfl 5 (by decide) (hts (.fieldLink RX7 25 "ReelBarnModel" "level" "[F") (by decide +kernel)) (fun _ h9 => h9) rfl dX7_fill_70 ?_
        refine lv_iload hx hb dX7_fill_73 (lv_at hl 0 rfl) ?_
        refine lv_iload hx hb dX7_fill_75 (lv_at hl 5 rfl) ?_
        refine zCf w (va_runS (As := [.int x]) (rest := [.int ((40 * y) + i), .ref (ad 6)]) ⟨hx, hb, hml, hown, hts⟩ (kX7_eighth l G _ x s.heap.size) (va_cwS 1 hts gX7_fill_X7_eighth rfl rfl rfl (by decide +kernel) ⟨(Nat.le_of_ble_eq_true rfl), (Nat.le_of_ble_eq_true rfl)⟩) (zPS w hK) rfl rfl hl.1 rfl (lv_room (Nat.le_of_ble_eq_true rfl)) dX7_fill_77 ⟨(Nat.le_of_ble_eq_true rfl), (Nat.le_of_ble_eq_true rfl)⟩) (fun r_4 u H locs hq w => ?_)
        obtain ⟨rfl, e_r⟩ := hq
        subst e_r
        refine zCf w (va_runS (As := [.float (zEi x)]) (rest := [.int ((40 * y) + i), .ref (ad 6)]) ⟨hx, hb, hml, hown, hts⟩ (kX7_held l G _ (zEi x) H.size) (va_cwS 1 hts gX7_fill_X7_held rfl rfl rfl (by decide +kernel) ⟨(Nat.le_of_ble_eq_true rfl), (Nat.le_of_ble_eq_true rfl)⟩) (zPS w hK) rfl rfl hl.1 rfl (lv_room (Nat.le_of_ble_eq_true rfl)) dX7_fill_80 ⟨(Nat.le_of_ble_eq_true rfl), (Nat.le_of_ble_eq_true rfl)⟩) (fun r_5 u H locs hq w => ?_)
        obtain ⟨rfl, e_r⟩ := hq
        subst e_r
        refine zm_fast hx hb hK w 6 rfl hat dX7_fill_83 (fun H locs w => ?_)
        have w : zW G A s H locs (mW G ad M (vf_upd lev (((40 * y) + i).toNatClampNeg) (zHe (zEi x)))) := w
        exact zRv hx hb hr hlk w dX7_fill_84 (Nat.le_of_ble_eq_true rfl) (Nat.le_of_ble_eq_true rfl) (by simp [mFM, mFL, mNar, c_1, c_2, c_3])
      · refine lv_aload_n hx hb dX7_fill_55 rfl (lv_at hl 1 rfl) ?_
        refine zget (ci := 6) (C := RX7) (T := TX7) (N := 11) hx hb hts hown hK w (by decide +kernel) 0 rfl rfl 4 (by decide) (hts (.fieldLink RX7 22 "ReelBarnModel" "whole" "[I") (by decide +kernel)) (fun _ h9 => h9) rfl dX7_fill_56 ?_
        refine lv_iload hx hb dX7_fill_59 (lv_at hl 0 rfl) ?_
        refine lv_iload hx hb dX7_fill_61 (lv_at hl 5 rfl) ?_
        refine lv_iconst (v := 1) hx hb dX7_fill_63 (by decide) ?_
        refine lv_iand hx hb dX7_fill_64 ?_
        refine zm_iast hx hb hK w 5 rfl hat dX7_fill_65 (fun H locs w => ?_)
        have w : zW G A s H locs (mW G ad (va_up M 4 (upd (M 4) (((40 * y) + i).toNatClampNeg) (x &&& 1))) lev) := w
        refine lv_goto (tgt := 84) hx hb dX7_fill_66 (by decide) ?_
        exact zRv hx hb hr hlk w dX7_fill_84 (Nat.le_of_ble_eq_true rfl) (Nat.le_of_ble_eq_true rfl) (by simp [mFM, mFL, mNar, c_1, c_2, c_3])
    · refine lv_aload_n hx hb dX7_fill_32 rfl (lv_at hl 1 rfl) ?_
      refine zget (ci := 6) (C := RX7) (T := TX7) (N := 11) hx hb hts hown hK w (by decide +kernel) 0 rfl rfl 4 (by decide) (hts (.fieldLink RX7 22 "ReelBarnModel" "whole" "[I") (by decide +kernel)) (fun _ h9 => h9) rfl dX7_fill_33 ?_
      refine lv_iload hx hb dX7_fill_36 (lv_at hl 0 rfl) ?_
      refine lv_iload hx hb dX7_fill_38 (lv_at hl 5 rfl) ?_
      refine lv_bipush (v := 16) hx hb dX7_fill_40 (by decide) ?_
      refine lv_ishl hx hb dX7_fill_42 ?_
      refine lv_bipush (v := 16) hx hb dX7_fill_43 (by decide) ?_
      refine lv_ishr hx hb dX7_fill_45 ?_
      refine zm_iast hx hb hK w 5 rfl hat dX7_fill_46 (fun H locs w => ?_)
      have w : zW G A s H locs (mW G ad (va_up M 4 (upd (M 4) (((40 * y) + i).toNatClampNeg) ((x <<< (16 &&& 31)) >>> (16 &&& 31)))) lev) := w
      refine lv_goto (tgt := 84) hx hb dX7_fill_47 (by decide) ?_
      exact zRv hx hb hr hlk w dX7_fill_84 (Nat.le_of_ble_eq_true rfl) (Nat.le_of_ble_eq_true rfl) (by simp [mFM, mFL, mNar, c_1, c_2])
  · refine lv_aload_n hx hb dX7_fill_12 rfl (lv_at hl 1 rfl) ?_
    refine zget (ci := 6) (C := RX7) (T := TX7) (N := 11) hx hb hts hown hK w (by decide +kernel) 0 rfl rfl 4 (by decide) (hts (.fieldLink RX7 22 "ReelBarnModel" "whole" "[I") (by decide +kernel)) (fun _ h9 => h9) rfl dX7_fill_13 ?_
    refine lv_iload hx hb dX7_fill_16 (lv_at hl 0 rfl) ?_
    refine lv_iload hx hb dX7_fill_18 (lv_at hl 5 rfl) ?_
    refine lv_ldc hx hb hown (hts (.constant RX7 46 (65535)) (by decide +kernel)) dX7_fill_20 ?_
    refine lv_iand hx hb dX7_fill_22 ?_
    refine zm_iast hx hb hK w 5 rfl hat dX7_fill_23 (fun H locs w => ?_)
    have w : zW G A s H locs (mW G ad (va_up M 4 (upd (M 4) (((40 * y) + i).toNatClampNeg) (x &&& 65535))) lev) := w
    refine lv_goto (tgt := 84) hx hb dX7_fill_24 (by decide) ?_
    exact zRv hx hb hr hlk w dX7_fill_84 (Nat.le_of_ble_eq_true rfl) (Nat.le_of_ble_eq_true rfl) (by simp [mFM, mFL, mNar, c_1])
set_option maxHeartbeats 4000000 in
set_option maxRecDepth 100000 in
theorem kX7_against (l : Launch) (G : zG) (ad : Nat → Nat) {M : Nat → Nat → Int32} {lev : Nat → UInt32} (hI : mI M lev) (y i : Int32) (hy : mP y) (sz : Nat) : zMl l yX7_against wsX7_against { frames := 0, cells := 0, slots := 0, locals := 0 } G [.ref (ad 0), .int y, .int i] (mW G ad M lev) sz (fun r u => u = mW G ad M lev ∧ r = mAg M y i) 0 0 := by
  refine zIn (Qc := fun A => va_Ql _ (zB G A) A) (cc := cX7_against) (maxL := 3) (ret := (some .long)) (by decide) rfl (Nat.le_of_ble_eq_true rfl) ?_
  intro p e s m below meth c A ls hx hb hr hlk hml hts hown hnm hK w hl
  have hown : s.vm.findClass RX7 = some m.cls := hown
  have hl : lv_has ls 3 [(0, .ref (ad 0)), (1, .int y), (2, .int i)] := hl
  refine lv_iload_n hx hb dX7_against_0 rfl (lv_at hl 1 rfl) ?_
  refine lv_iconst (v := (-1)) hx hb dX7_against_1 (by decide) ?_
  refine lv_icmp_ne (tgt := 11) hx hb dX7_against_2 (by decide) (fun c_1 => ?_) (fun c_1 => ?_)
  · refine lv_iload_n hx hb dX7_against_11 rfl (lv_at hl 2 rfl) ?_
    refine lv_if_lt (tgt := 25) hx hb dX7_against_12 (by decide) (fun c_2 => ?_) (fun c_2 => ?_)
    · refine lv_ldc2 hx hb hown (hts (.constantLong RX7 75 (3298534883328)) (by decide +kernel)) dX7_against_25 ?_
      refine lv_goto (tgt := 32) hx hb dX7_against_28 (by decide) ?_
      exact zRl hx hb hr hlk w dX7_against_32 (Nat.le_of_ble_eq_true rfl) (Nat.le_of_ble_eq_true rfl) ⟨rfl, by simp [mAg, mHs, c_1, c_2]⟩
    · refine lv_iload_n hx hb dX7_against_15 rfl (lv_at hl 2 rfl) ?_
      refine lv_aload_n hx hb dX7_against_16 rfl (lv_at hl 0 rfl) ?_
      refine zget (ci := 6) (C := RX7) (T := TX7) (N := 11) hx hb hts hown hK w (by decide +kernel) 0 rfl rfl 3 (by decide) (hts (.fieldLink RX7 19 "ReelBarnModel" "sizes" "[I") (by decide +kernel)) (fun _ h9 => h9) rfl dX7_against_17 ?_
      refine lv_iload_n hx hb dX7_against_20 rfl (lv_at hl 1 rfl) ?_
      refine zm_iald hx hb hK w 4 rfl (mP_in hy c_1) dX7_against_21 ?_
      refine lv_icmp_lt (tgt := 31) hx hb dX7_against_22 (by decide) (fun c_3 => ?_) (fun c_3 => ?_)
      · refine lv_lconst (v := 0) hx hb dX7_against_31 (by decide) ?_
        exact zRl hx hb hr hlk w dX7_against_32 (Nat.le_of_ble_eq_true rfl) (Nat.le_of_ble_eq_true rfl) ⟨rfl, by simp [mAg, mHs, c_1, c_2, c_3]⟩
      · refine lv_ldc2 hx hb hown (hts (.constantLong RX7 75 (3298534883328)) (by decide +kernel)) dX7_against_25 ?_
        refine lv_goto (tgt := 32) hx hb dX7_against_28 (by decide) ?_
        exact zRl hx hb hr hlk w dX7_against_32 (Nat.le_of_ble_eq_true rfl) (Nat.le_of_ble_eq_true rfl) ⟨rfl, by simp [mAg, mHs, c_1, c_2, c_3]⟩
  · refine lv_ldc2 hx hb hown (hts (.constantLong RX7 73 (2199023255552)) (by decide +kernel)) dX7_against_5 ?_
    refine lv_goto (tgt := 32) hx hb dX7_against_8 (by decide) ?_
    exact zRl hx hb hr hlk w dX7_against_32 (Nat.le_of_ble_eq_true rfl) (Nat.le_of_ble_eq_true rfl) ⟨rfl, by simp [mAg, mHs, c_1]⟩
set_option maxHeartbeats 4000000 in
set_option maxRecDepth 100000 in
theorem kX7_againstRow (l : Launch) (G : zG) (ad : Nat → Nat) {M : Nat → Nat → Int32} {lev : Nat → UInt32} (t y : Int32) (ht : zFour t) (sz : Nat) : zMl l yX7_againstRow wsX7_againstRow { frames := 0, cells := 0, slots := 0, locals := 0 } G [.ref (ad 0), .int t, .int y] (mW G ad M lev) sz (fun r u => u = mW G ad M lev ∧ r = mAR M t y) 0 0 := by
  refine zIn (Qc := fun A => va_Ql _ (zB G A) A) (cc := cX7_againstRow) (maxL := 3) (ret := (some .long)) (by decide) rfl (Nat.le_of_ble_eq_true rfl) ?_
  intro p e s m below meth c A ls hx hb hr hlk hml hts hown hnm hK w hl
  have hown : s.vm.findClass RX7 = some m.cls := hown
  have hl : lv_has ls 3 [(0, .ref (ad 0)), (1, .int t), (2, .int y)] := hl
  refine lv_aload_n hx hb dX7_againstRow_0 rfl (lv_at hl 0 rfl) ?_
  refine zget (ci := 6) (C := RX7) (T := TX7) (N := 11) hx hb hts hown hK w (by decide +kernel) 0 rfl rfl 1 (by decide) (hts (.fieldLink RX7 13 "ReelBarnModel" "rowsOf" "[I") (by decide +kernel)) (fun _ h9 => h9) rfl dX7_againstRow_1 ?_
  refine lv_iload_n hx hb dX7_againstRow_4 rfl (lv_at hl 1 rfl) ?_
  refine zm_iald hx hb hK w 2 rfl (zfour_in ht) dX7_againstRow_5 ?_
  refine lv_iconst (v := (-1)) hx hb dX7_againstRow_6 (by decide) ?_
  refine lv_icmp_ne (tgt := 16) hx hb dX7_againstRow_7 (by decide) (fun c_1 => ?_) (fun c_1 => ?_)
  · refine lv_iload_n hx hb dX7_againstRow_16 rfl (lv_at hl 2 rfl) ?_
    refine lv_if_lt (tgt := 30) hx hb dX7_againstRow_17 (by decide) (fun c_2 => ?_) (fun c_2 => ?_)
    · refine lv_ldc2 hx hb hown (hts (.constantLong RX7 75 (3298534883328)) (by decide +kernel)) dX7_againstRow_30 ?_
      refine lv_goto (tgt := 37) hx hb dX7_againstRow_33 (by decide) ?_
      exact zRl hx hb hr hlk w dX7_againstRow_37 (Nat.le_of_ble_eq_true rfl) (Nat.le_of_ble_eq_true rfl) ⟨rfl, by simp [mAR, c_1, c_2]⟩
    · refine lv_iload_n hx hb dX7_againstRow_20 rfl (lv_at hl 2 rfl) ?_
      refine lv_aload_n hx hb dX7_againstRow_21 rfl (lv_at hl 0 rfl) ?_
      refine zget (ci := 6) (C := RX7) (T := TX7) (N := 11) hx hb hts hown hK w (by decide +kernel) 0 rfl rfl 1 (by decide) (hts (.fieldLink RX7 13 "ReelBarnModel" "rowsOf" "[I") (by decide +kernel)) (fun _ h9 => h9) rfl dX7_againstRow_22 ?_
      refine lv_iload_n hx hb dX7_againstRow_25 rfl (lv_at hl 1 rfl) ?_
      refine zm_iald hx hb hK w 2 rfl (zfour_in ht) dX7_againstRow_26 ?_
      refine lv_icmp_lt (tgt := 36) hx hb dX7_againstRow_27 (by decide) (fun c_3 => ?_) (fun c_3 => ?_)
      · refine lv_lconst (v := 0) hx hb dX7_againstRow_36 (by decide) ?_
        exact zRl hx hb hr hlk w dX7_againstRow_37 (Nat.le_of_ble_eq_true rfl) (Nat.le_of_ble_eq_true rfl) ⟨rfl, by simp [mAR, c_1, c_2, c_3]⟩
      · refine lv_ldc2 hx hb hown (hts (.constantLong RX7 75 (3298534883328)) (by decide +kernel)) dX7_againstRow_30 ?_
        refine lv_goto (tgt := 37) hx hb dX7_againstRow_33 (by decide) ?_
        exact zRl hx hb hr hlk w dX7_againstRow_37 (Nat.le_of_ble_eq_true rfl) (Nat.le_of_ble_eq_true rfl) ⟨rfl, by simp [mAR, c_1, c_2, c_3]⟩
  · refine lv_ldc2 hx hb hown (hts (.constantLong RX7 73 (2199023255552)) (by decide +kernel)) dX7_againstRow_10 ?_
    refine lv_goto (tgt := 37) hx hb dX7_againstRow_13 (by decide) ?_
    exact zRl hx hb hr hlk w dX7_againstRow_37 (Nat.le_of_ble_eq_true rfl) (Nat.le_of_ble_eq_true rfl) ⟨rfl, by simp [mAR, c_1]⟩
set_option maxHeartbeats 4000000 in
set_option maxRecDepth 100000 in
theorem kX7_againstPlace (l : Launch) (G : zG) (ad : Nat → Nat) {M : Nat → Nat → Int32} {lev : Nat → UInt32} (hI : mI M lev) (t y k : Int32) (ht : zFour t) (sz : Nat) : zMl l yX7_againstPlace wsX7_againstPlace { frames := 1, cells := 0, slots := 0, locals := 22 } G [.ref (ad 0), .int t, .int y, .int k] (mW G ad M lev) sz (fun r u => u = mW G ad M lev ∧ r = mAP M t y k) 0 0 := by
  refine zIn (Qc := fun A => va_Ql _ (zB G A) A) (cc := cX7_againstPlace) (maxL := 7) (ret := (some .long)) (by decide) rfl (Nat.le_of_ble_eq_true rfl) ?_
  intro p e s m below meth c A ls hx hb hr hlk hml hts hown hnm hK w hl
  have hown : s.vm.findClass RX7 = some m.cls := hown
  have hl : lv_has ls 7 [(0, .ref (ad 0)), (1, .int t), (2, .int y), (3, .int k)] := hl
  refine lv_aload_n hx hb dX7_againstPlace_0 rfl (lv_at hl 0 rfl) ?_
  refine lv_iload_n hx hb dX7_againstPlace_1 rfl (lv_at hl 1 rfl) ?_
  refine lv_iload_n hx hb dX7_againstPlace_2 rfl (lv_at hl 2 rfl) ?_
  refine zCl w (va_runV (As := [.int t, .int y]) (rest := []) ⟨hx, hb, hml, hown, hts⟩ (kX7_againstRow l G ad t y ht s.heap.size) (cwV 2 hts gX7_againstPlace_X7_againstRow rfl rfl rfl (by decide +kernel) ⟨(Nat.le_of_ble_eq_true rfl), (Nat.le_of_ble_eq_true rfl)⟩) (zPV w hK (va_recv hK.1 w.1 (ci := 6) (q0 := 0) rfl rfl)) rfl rfl hl.1 rfl (lv_room (Nat.le_of_ble_eq_true rfl)) dX7_againstPlace_3 ⟨(Nat.le_of_ble_eq_true rfl), (Nat.le_of_ble_eq_true rfl)⟩) (fun r_1 u H locs hq w => ?_)
  obtain ⟨rfl, e_r⟩ := hq
  subst e_r
  refine lv_lstore (lv' := [(4, .long (mAR M t y)), (0, .ref (ad 0)), (1, .int t), (2, .int y), (3, .int k)]) hx hb dX7_againstPlace_6 hl (by decide) rfl (fun ls hl => ?_)
  refine lv_lload hx hb dX7_againstPlace_8 (lv_at hl 0 rfl) ?_
  refine lv_lconst (v := 0) hx hb dX7_againstPlace_10 (by decide) ?_
  refine W.lcmp hx hb dX7_againstPlace_11 ?_
  refine lv_if_eq (tgt := 18) hx hb dX7_againstPlace_12 (by decide) (fun c_2 => ?_) (fun c_2 => ?_)
  · have p_f := zcmp0 c_2
    have hwi := mwx_in hI ht p_f
    refine lv_aload_n hx hb dX7_againstPlace_18 rfl (lv_at hl 1 rfl) ?_
    refine zget (ci := 6) (C := RX7) (T := TX7) (N := 11) hx hb hts hown hK w (by decide +kernel) 0 rfl rfl 2 (by decide) (hts (.fieldLink RX7 16 "ReelBarnModel" "wall" "[I") (by decide +kernel)) (fun _ h9 => h9) rfl dX7_againstPlace_19 ?_
    refine lv_bipush (v := 12) hx hb dX7_againstPlace_22 (by decide) ?_
    refine lv_iload_n hx hb dX7_againstPlace_24 rfl (lv_at hl 2 rfl) ?_
    refine lv_imul hx hb dX7_againstPlace_25 ?_
    refine lv_iload_n hx hb dX7_againstPlace_26 rfl (lv_at hl 3 rfl) ?_
    refine lv_iadd hx hb dX7_againstPlace_27 ?_
    refine zm_iald hx hb hK w 3 rfl hwi dX7_againstPlace_28 ?_
    refine lv_istore (lv' := [(6, .int (M 2 (((12 * t) + y).toNatClampNeg))), (4, .long (mAR M t y)), (0, .ref (ad 0)), (1, .int t), (2, .int y), (3, .int k)]) hx hb dX7_againstPlace_29 hl (by decide) rfl (fun ls hl => ?_)
    refine lv_iload hx hb dX7_againstPlace_31 (lv_at hl 0 rfl) ?_
    refine lv_iconst (v := (-1)) hx hb dX7_againstPlace_33 (by decide) ?_
    refine lv_icmp_ne (tgt := 43) hx hb dX7_againstPlace_34 (by decide) (fun c_3 => ?_) (fun c_3 => ?_)
    · refine lv_iload_n hx hb dX7_againstPlace_43 rfl (lv_at hl 5 rfl) ?_
      refine lv_if_lt (tgt := 58) hx hb dX7_againstPlace_44 (by decide) (fun c_4 => ?_) (fun c_4 => ?_)
      · refine lv_ldc2 hx hb hown (hts (.constantLong RX7 75 (3298534883328)) (by decide +kernel)) dX7_againstPlace_58 ?_
        refine lv_goto (tgt := 65) hx hb dX7_againstPlace_61 (by decide) ?_
        exact zRl hx hb hr hlk w dX7_againstPlace_65 (Nat.le_of_ble_eq_true rfl) (Nat.le_of_ble_eq_true rfl) ⟨rfl, by simp [mAP, mHs, p_f, c_3, c_4]⟩
      · refine lv_iload_n hx hb dX7_againstPlace_47 rfl (lv_at hl 5 rfl) ?_
        refine lv_aload_n hx hb dX7_againstPlace_48 rfl (lv_at hl 2 rfl) ?_
        refine zget (ci := 6) (C := RX7) (T := TX7) (N := 11) hx hb hts hown hK w (by decide +kernel) 0 rfl rfl 3 (by decide) (hts (.fieldLink RX7 19 "ReelBarnModel" "sizes" "[I") (by decide +kernel)) (fun _ h9 => h9) rfl dX7_againstPlace_49 ?_
        refine lv_iload hx hb dX7_againstPlace_52 (lv_at hl 0 rfl) ?_
        refine zm_iald hx hb hK w 4 rfl (mP_in (hI.2.1 _ (zin_lt hwi)) c_3) dX7_againstPlace_54 ?_
        refine lv_icmp_lt (tgt := 64) hx hb dX7_againstPlace_55 (by decide) (fun c_5 => ?_) (fun c_5 => ?_)
        · refine lv_lconst (v := 0) hx hb dX7_againstPlace_64 (by decide) ?_
          exact zRl hx hb hr hlk w dX7_againstPlace_65 (Nat.le_of_ble_eq_true rfl) (Nat.le_of_ble_eq_true rfl) ⟨rfl, by simp [mAP, mHs, p_f, c_3, c_4, c_5]⟩
        · refine lv_ldc2 hx hb hown (hts (.constantLong RX7 75 (3298534883328)) (by decide +kernel)) dX7_againstPlace_58 ?_
          refine lv_goto (tgt := 65) hx hb dX7_againstPlace_61 (by decide) ?_
          exact zRl hx hb hr hlk w dX7_againstPlace_65 (Nat.le_of_ble_eq_true rfl) (Nat.le_of_ble_eq_true rfl) ⟨rfl, by simp [mAP, mHs, p_f, c_3, c_4, c_5]⟩
    · refine lv_ldc2 hx hb hown (hts (.constantLong RX7 98 (7696581394432)) (by decide +kernel)) dX7_againstPlace_37 ?_
      refine lv_goto (tgt := 65) hx hb dX7_againstPlace_40 (by decide) ?_
      exact zRl hx hb hr hlk w dX7_againstPlace_65 (Nat.le_of_ble_eq_true rfl) (Nat.le_of_ble_eq_true rfl) ⟨rfl, by simp [mAP, mHs, p_f, c_3]⟩
  · have p_f := zcmp1 c_2
    refine lv_lload hx hb dX7_againstPlace_15 (lv_at hl 0 rfl) ?_
    exact zRl hx hb hr hlk w dX7_againstPlace_17 (Nat.le_of_ble_eq_true rfl) (Nat.le_of_ble_eq_true rfl) ⟨rfl, by simp [mAP, mHs, p_f]⟩
set_option maxHeartbeats 4000000 in
set_option maxRecDepth 100000 in
theorem kX7_size (l : Launch) (G : zG) (ad : Nat → Nat) {M : Nat → Nat → Int32} {lev : Nat → UInt32} (hI : mI M lev) (d t : Int32) (sz : Nat) : zMl l yX7_size wsX7_size { frames := 1, cells := 0, slots := 0, locals := 22 } G [.ref (ad 0), .int d, .int t] (mW G ad M lev) sz (fun r u => if zFour d ∧ zFour t then (if (M 0 (mix d t)) = -1 then mRefP G ad M lev zVACANT r u else (u = mW G ad M lev ∧ r = (M 3 (M 0 (mix d t)).toNatClampNeg).toInt64)) else mRefP G ad M lev zNONE r u) 0 0 := by
  refine zIn (Qc := fun A => va_Ql _ (zB G A) A) (cc := cX7_size) (maxL := 4) (ret := (some .long)) (by decide) rfl (Nat.le_of_ble_eq_true rfl) ?_
  intro p e s m below meth c A ls hx hb hr hlk hml hts hown hnm hK w hl
  have hown : s.vm.findClass RX7 = some m.cls := hown
  have hl : lv_has ls 4 [(0, .ref (ad 0)), (1, .int d), (2, .int t)] := hl
  refine lv_iload_n hx hb dX7_size_0 rfl (lv_at hl 1 rfl) ?_
  refine zCi w (va_runS (As := [.int d]) (rest := []) ⟨hx, hb, hml, hown, hts⟩ (kX7_isFour l G _ d s.heap.size) (va_cwS 1 hts gX7_size_X7_isFour rfl rfl rfl (by decide +kernel) ⟨(Nat.le_of_ble_eq_true rfl), (Nat.le_of_ble_eq_true rfl)⟩) (zPS w hK) rfl rfl hl.1 rfl (lv_room (Nat.le_of_ble_eq_true rfl)) dX7_size_1 ⟨(Nat.le_of_ble_eq_true rfl), (Nat.le_of_ble_eq_true rfl)⟩) (fun r_1 u H locs hq w => ?_)
  obtain ⟨rfl, e_r_1⟩ := hq
  refine lv_if_eq (tgt := 14) hx hb dX7_size_4 (by decide) (fun c_2 => ?_) (fun c_2 => ?_)
  · have p_d := z00 inferInstance e_r_1 c_2
    refine lv_aload_n hx hb dX7_size_14 rfl (lv_at hl 0 rfl) ?_
    refine lv_ldc2 hx hb hown (hts (.constantLong RX7 59 (1099511627776)) (by decide +kernel)) dX7_size_15 ?_
    refine zCl w (va_runV (As := [.long 1099511627776]) (rest := []) ⟨hx, hb, hml, hown, hts⟩ (kX7_refuse l G ad zNONE zW1 H.size) (cwV 1 hts gX7_size_X7_refuse rfl rfl rfl (by decide +kernel) ⟨(Nat.le_of_ble_eq_true rfl), (Nat.le_of_ble_eq_true rfl)⟩) (zPV w hK (va_recv hK.1 w.1 (ci := 6) (q0 := 0) rfl rfl)) rfl rfl hl.1 rfl (lv_room (Nat.le_of_ble_eq_true rfl)) dX7_size_18 ⟨(Nat.le_of_ble_eq_true rfl), (Nat.le_of_ble_eq_true rfl)⟩) (fun r_3 u H locs hq w => ?_)
    obtain ⟨rfl, e_r⟩ := hq
    subst e_r
    exact zRl hx hb hr hlk w dX7_size_21 (Nat.le_of_ble_eq_true rfl) (Nat.le_of_ble_eq_true rfl) (by show (if _ then _ else _); rw [if_neg (fun q => p_d q.1)]; exact ⟨rfl, rfl⟩)
  · have p_d := z01 inferInstance e_r_1 c_2
    refine lv_iload_n hx hb dX7_size_7 rfl (lv_at hl 2 rfl) ?_
    refine zCi w (va_runS (As := [.int t]) (rest := []) ⟨hx, hb, hml, hown, hts⟩ (kX7_isFour l G _ t H.size) (va_cwS 1 hts gX7_size_X7_isFour rfl rfl rfl (by decide +kernel) ⟨(Nat.le_of_ble_eq_true rfl), (Nat.le_of_ble_eq_true rfl)⟩) (zPS w hK) rfl rfl hl.1 rfl (lv_room (Nat.le_of_ble_eq_true rfl)) dX7_size_8 ⟨(Nat.le_of_ble_eq_true rfl), (Nat.le_of_ble_eq_true rfl)⟩) (fun r_4 u H locs hq w => ?_)
    obtain ⟨rfl, e_r_4⟩ := hq
    refine lv_if_ne (tgt := 22) hx hb dX7_size_11 (by decide) (fun c_5 => ?_) (fun c_5 => ?_)
    · have p_t := z01 inferInstance e_r_4 c_5
      refine lv_aload_n hx hb dX7_size_22 rfl (lv_at hl 0 rfl) ?_
      refine zget (ci := 6) (C := RX7) (T := TX7) (N := 11) hx hb hts hown hK w (by decide +kernel) 0 rfl rfl 0 (by decide) (hts (.fieldLink RX7 7 "ReelBarnModel" "carried" "[I") (by decide +kernel)) (fun _ h9 => h9) rfl dX7_size_23 ?_
      refine lv_iconst (v := 4) hx hb dX7_size_26 (by decide) ?_
      refine lv_iload_n hx hb dX7_size_27 rfl (lv_at hl 1 rfl) ?_
      refine lv_imul hx hb dX7_size_28 ?_
      refine lv_iload_n hx hb dX7_size_29 rfl (lv_at hl 2 rfl) ?_
      refine lv_iadd hx hb dX7_size_30 ?_
      refine zm_iald hx hb hK w 1 rfl (mix_in p_d p_t) dX7_size_31 ?_
      refine lv_istore_n (lv' := [(3, .int (M 0 (((4 * d) + t).toNatClampNeg))), (0, .ref (ad 0)), (1, .int d), (2, .int t)]) hx hb dX7_size_32 rfl hl (by decide) rfl (fun ls hl => ?_)
      refine lv_iload_n hx hb dX7_size_33 rfl (lv_at hl 0 rfl) ?_
      refine lv_iconst (v := (-1)) hx hb dX7_size_34 (by decide) ?_
      refine lv_icmp_ne (tgt := 48) hx hb dX7_size_35 (by decide) (fun c_6 => ?_) (fun c_6 => ?_)
      · have p_v := c_6
        refine lv_aload_n hx hb dX7_size_48 rfl (lv_at hl 1 rfl) ?_
        refine zget (ci := 6) (C := RX7) (T := TX7) (N := 11) hx hb hts hown hK w (by decide +kernel) 0 rfl rfl 3 (by decide) (hts (.fieldLink RX7 19 "ReelBarnModel" "sizes" "[I") (by decide +kernel)) (fun _ h9 => h9) rfl dX7_size_49 ?_
        refine lv_iload_n hx hb dX7_size_52 rfl (lv_at hl 0 rfl) ?_
        refine zm_iald hx hb hK w 4 rfl (mP_in (hI.1 _ (mix_lt p_d p_t)) p_v) dX7_size_53 ?_
        refine lv_i2l hx hb dX7_size_54 rfl ?_
        exact zRl hx hb hr hlk w dX7_size_55 (Nat.le_of_ble_eq_true rfl) (Nat.le_of_ble_eq_true rfl) (by show (if _ then _ else _); rw [if_pos ⟨p_d, p_t⟩]; (first | rw [if_pos p_v] | rw [if_neg p_v]); (first | exact ⟨rfl, rfl⟩ | simp [va_up]))
      · have p_v := c_6
        refine lv_aload_n hx hb dX7_size_38 rfl (lv_at hl 1 rfl) ?_
        refine lv_ldc2 hx hb hown (hts (.constantLong RX7 73 (2199023255552)) (by decide +kernel)) dX7_size_39 ?_
        refine zCl w (va_runV (As := [.long 2199023255552]) (rest := []) ⟨hx, hb, hml, hown, hts⟩ (kX7_refuse l G ad zVACANT zW2 H.size) (cwV 1 hts gX7_size_X7_refuse rfl rfl rfl (by decide +kernel) ⟨(Nat.le_of_ble_eq_true rfl), (Nat.le_of_ble_eq_true rfl)⟩) (zPV w hK (va_recv hK.1 w.1 (ci := 6) (q0 := 0) rfl rfl)) rfl rfl hl.1 rfl (lv_room (Nat.le_of_ble_eq_true rfl)) dX7_size_42 ⟨(Nat.le_of_ble_eq_true rfl), (Nat.le_of_ble_eq_true rfl)⟩) (fun r_7 u H locs hq w => ?_)
        obtain ⟨rfl, e_r⟩ := hq
        subst e_r
        refine lv_goto (tgt := 55) hx hb dX7_size_45 (by decide) ?_
        exact zRl hx hb hr hlk w dX7_size_55 (Nat.le_of_ble_eq_true rfl) (Nat.le_of_ble_eq_true rfl) (by show (if _ then _ else _); rw [if_pos ⟨p_d, p_t⟩]; (first | rw [if_pos p_v] | rw [if_neg p_v]); (first | exact ⟨rfl, rfl⟩ | simp [va_up]))
    · have p_t := z00 inferInstance e_r_4 c_5
      refine lv_aload_n hx hb dX7_size_14 rfl (lv_at hl 0 rfl) ?_
      refine lv_ldc2 hx hb hown (hts (.constantLong RX7 59 (1099511627776)) (by decide +kernel)) dX7_size_15 ?_
      refine zCl w (va_runV (As := [.long 1099511627776]) (rest := []) ⟨hx, hb, hml, hown, hts⟩ (kX7_refuse l G ad zNONE zW1 H.size) (cwV 1 hts gX7_size_X7_refuse rfl rfl rfl (by decide +kernel) ⟨(Nat.le_of_ble_eq_true rfl), (Nat.le_of_ble_eq_true rfl)⟩) (zPV w hK (va_recv hK.1 w.1 (ci := 6) (q0 := 0) rfl rfl)) rfl rfl hl.1 rfl (lv_room (Nat.le_of_ble_eq_true rfl)) dX7_size_18 ⟨(Nat.le_of_ble_eq_true rfl), (Nat.le_of_ble_eq_true rfl)⟩) (fun r_8 u H locs hq w => ?_)
      obtain ⟨rfl, e_r⟩ := hq
      subst e_r
      exact zRl hx hb hr hlk w dX7_size_21 (Nat.le_of_ble_eq_true rfl) (Nat.le_of_ble_eq_true rfl) (by show (if _ then _ else _); rw [if_neg (fun q => p_t q.2)]; exact ⟨rfl, rfl⟩)
set_option maxHeartbeats 4000000 in
set_option maxRecDepth 100000 in
theorem kX7_eject (l : Launch) (G : zG) (ad : Nat → Nat) {M : Nat → Nat → Int32} {lev : Nat → UInt32} (hI : mI M lev) (d t : Int32) (sz : Nat) : zMl l yX7_eject wsX7_eject { frames := 1, cells := 0, slots := 0, locals := 22 } G [.ref (ad 0), .int d, .int t] (mW G ad M lev) sz (fun r u => if zFour d ∧ zFour t then (if (M 0 (mix d t)) = -1 then mRefP G ad M lev zVACANT r u else (u = mW G ad (va_up M 0 (upd (M 0) (mix d t) (-1))) lev ∧ r = (M 3 (M 0 (mix d t)).toNatClampNeg).toInt64)) else mRefP G ad M lev zNONE r u) 0 0 := by
  refine zIn (Qc := fun A => va_Ql _ (zB G A) A) (cc := cX7_eject) (maxL := 4) (ret := (some .long)) (by decide) rfl (Nat.le_of_ble_eq_true rfl) ?_
  intro p e s m below meth c A ls hx hb hr hlk hml hts hown hnm hK w hl
  have hown : s.vm.findClass RX7 = some m.cls := hown
  have hl : lv_has ls 4 [(0, .ref (ad 0)), (1, .int d), (2, .int t)] := hl
  refine lv_iload_n hx hb dX7_eject_0 rfl (lv_at hl 1 rfl) ?_
  refine zCi w (va_runS (As := [.int d]) (rest := []) ⟨hx, hb, hml, hown, hts⟩ (kX7_isFour l G _ d s.heap.size) (va_cwS 1 hts gX7_eject_X7_isFour rfl rfl rfl (by decide +kernel) ⟨(Nat.le_of_ble_eq_true rfl), (Nat.le_of_ble_eq_true rfl)⟩) (zPS w hK) rfl rfl hl.1 rfl (lv_room (Nat.le_of_ble_eq_true rfl)) dX7_eject_1 ⟨(Nat.le_of_ble_eq_true rfl), (Nat.le_of_ble_eq_true rfl)⟩) (fun r_1 u H locs hq w => ?_)
  obtain ⟨rfl, e_r_1⟩ := hq
  refine lv_if_eq (tgt := 14) hx hb dX7_eject_4 (by decide) (fun c_2 => ?_) (fun c_2 => ?_)
  · have p_d := z00 inferInstance e_r_1 c_2
    refine lv_aload_n hx hb dX7_eject_14 rfl (lv_at hl 0 rfl) ?_
    refine lv_ldc2 hx hb hown (hts (.constantLong RX7 59 (1099511627776)) (by decide +kernel)) dX7_eject_15 ?_
    refine zCl w (va_runV (As := [.long 1099511627776]) (rest := []) ⟨hx, hb, hml, hown, hts⟩ (kX7_refuse l G ad zNONE zW1 H.size) (cwV 1 hts gX7_eject_X7_refuse rfl rfl rfl (by decide +kernel) ⟨(Nat.le_of_ble_eq_true rfl), (Nat.le_of_ble_eq_true rfl)⟩) (zPV w hK (va_recv hK.1 w.1 (ci := 6) (q0 := 0) rfl rfl)) rfl rfl hl.1 rfl (lv_room (Nat.le_of_ble_eq_true rfl)) dX7_eject_18 ⟨(Nat.le_of_ble_eq_true rfl), (Nat.le_of_ble_eq_true rfl)⟩) (fun r_3 u H locs hq w => ?_)
    obtain ⟨rfl, e_r⟩ := hq
    subst e_r
    exact zRl hx hb hr hlk w dX7_eject_21 (Nat.le_of_ble_eq_true rfl) (Nat.le_of_ble_eq_true rfl) (by show (if _ then _ else _); rw [if_neg (fun q => p_d q.1)]; exact ⟨rfl, rfl⟩)
  · have p_d := z01 inferInstance e_r_1 c_2
    refine lv_iload_n hx hb dX7_eject_7 rfl (lv_at hl 2 rfl) ?_
    refine zCi w (va_runS (As := [.int t]) (rest := []) ⟨hx, hb, hml, hown, hts⟩ (kX7_isFour l G _ t H.size) (va_cwS 1 hts gX7_eject_X7_isFour rfl rfl rfl (by decide +kernel) ⟨(Nat.le_of_ble_eq_true rfl), (Nat.le_of_ble_eq_true rfl)⟩) (zPS w hK) rfl rfl hl.1 rfl (lv_room (Nat.le_of_ble_eq_true rfl)) dX7_eject_8 ⟨(Nat.le_of_ble_eq_true rfl), (Nat.le_of_ble_eq_true rfl)⟩) (fun r_4 u H locs hq w => ?_)
    obtain ⟨rfl, e_r_4⟩ := hq
    refine lv_if_ne (tgt := 22) hx hb dX7_eject_11 (by decide) (fun c_5 => ?_) (fun c_5 => ?_)
    · have p_t := z01 inferInstance e_r_4 c_5
      refine lv_aload_n hx hb dX7_eject_22 rfl (lv_at hl 0 rfl) ?_
      refine zget (ci := 6) (C := RX7) (T := TX7) (N := 11) hx hb hts hown hK w (by decide +kernel) 0 rfl rfl 0 (by decide) (hts (.fieldLink RX7 7 "ReelBarnModel" "carried" "[I") (by decide +kernel)) (fun _ h9 => h9) rfl dX7_eject_23 ?_
      refine lv_iconst (v := 4) hx hb dX7_eject_26 (by decide) ?_
      refine lv_iload_n hx hb dX7_eject_27 rfl (lv_at hl 1 rfl) ?_
      refine lv_imul hx hb dX7_eject_28 ?_
      refine lv_iload_n hx hb dX7_eject_29 rfl (lv_at hl 2 rfl) ?_
      refine lv_iadd hx hb dX7_eject_30 ?_
      refine zm_iald hx hb hK w 1 rfl (mix_in p_d p_t) dX7_eject_31 ?_
      refine lv_istore_n (lv' := [(3, .int (M 0 (((4 * d) + t).toNatClampNeg))), (0, .ref (ad 0)), (1, .int d), (2, .int t)]) hx hb dX7_eject_32 rfl hl (by decide) rfl (fun ls hl => ?_)
      refine lv_iload_n hx hb dX7_eject_33 rfl (lv_at hl 0 rfl) ?_
      refine lv_iconst (v := (-1)) hx hb dX7_eject_34 (by decide) ?_
      refine lv_icmp_ne (tgt := 46) hx hb dX7_eject_35 (by decide) (fun c_6 => ?_) (fun c_6 => ?_)
      · have p_v := c_6
        refine lv_aload_n hx hb dX7_eject_46 rfl (lv_at hl 1 rfl) ?_
        refine zget (ci := 6) (C := RX7) (T := TX7) (N := 11) hx hb hts hown hK w (by decide +kernel) 0 rfl rfl 0 (by decide) (hts (.fieldLink RX7 7 "ReelBarnModel" "carried" "[I") (by decide +kernel)) (fun _ h9 => h9) rfl dX7_eject_47 ?_
        refine lv_iconst (v := 4) hx hb dX7_eject_50 (by decide) ?_
        refine lv_iload_n hx hb dX7_eject_51 rfl (lv_at hl 2 rfl) ?_
        refine lv_imul hx hb dX7_eject_52 ?_
        refine lv_iload_n hx hb dX7_eject_53 rfl (lv_at hl 3 rfl) ?_
        refine lv_iadd hx hb dX7_eject_54 ?_
        refine lv_iconst (v := (-1)) hx hb dX7_eject_55 (by decide) ?_
        refine zm_iast hx hb hK w 1 rfl (mix_in p_d p_t) dX7_eject_56 (fun H locs w => ?_)
        have w : zW G A s H locs (mW G ad (va_up M 0 (upd (M 0) (((4 * d) + t).toNatClampNeg) (-1))) lev) := w
        refine lv_aload_n hx hb dX7_eject_57 rfl (lv_at hl 1 rfl) ?_
        refine zget (ci := 6) (C := RX7) (T := TX7) (N := 11) hx hb hts hown hK w (by decide +kernel) 0 rfl rfl 3 (by decide) (hts (.fieldLink RX7 19 "ReelBarnModel" "sizes" "[I") (by decide +kernel)) (fun _ h9 => h9) rfl dX7_eject_58 ?_
        refine lv_iload_n hx hb dX7_eject_61 rfl (lv_at hl 0 rfl) ?_
        refine zm_iald hx hb hK w 4 rfl (mP_in (hI.1 _ (mix_lt p_d p_t)) p_v) dX7_eject_62 ?_
        refine lv_i2l hx hb dX7_eject_63 rfl ?_
        exact zRl hx hb hr hlk w dX7_eject_64 (Nat.le_of_ble_eq_true rfl) (Nat.le_of_ble_eq_true rfl) (by show (if _ then _ else _); rw [if_pos ⟨p_d, p_t⟩]; (first | rw [if_pos p_v] | rw [if_neg p_v]); (first | exact ⟨rfl, rfl⟩ | simp [va_up]))
      · have p_v := c_6
        refine lv_aload_n hx hb dX7_eject_38 rfl (lv_at hl 1 rfl) ?_
        refine lv_ldc2 hx hb hown (hts (.constantLong RX7 73 (2199023255552)) (by decide +kernel)) dX7_eject_39 ?_
        refine zCl w (va_runV (As := [.long 2199023255552]) (rest := []) ⟨hx, hb, hml, hown, hts⟩ (kX7_refuse l G ad zVACANT zW2 H.size) (cwV 1 hts gX7_eject_X7_refuse rfl rfl rfl (by decide +kernel) ⟨(Nat.le_of_ble_eq_true rfl), (Nat.le_of_ble_eq_true rfl)⟩) (zPV w hK (va_recv hK.1 w.1 (ci := 6) (q0 := 0) rfl rfl)) rfl rfl hl.1 rfl (lv_room (Nat.le_of_ble_eq_true rfl)) dX7_eject_42 ⟨(Nat.le_of_ble_eq_true rfl), (Nat.le_of_ble_eq_true rfl)⟩) (fun r_7 u H locs hq w => ?_)
        obtain ⟨rfl, e_r⟩ := hq
        subst e_r
        exact zRl hx hb hr hlk w dX7_eject_45 (Nat.le_of_ble_eq_true rfl) (Nat.le_of_ble_eq_true rfl) (by show (if _ then _ else _); rw [if_pos ⟨p_d, p_t⟩]; (first | rw [if_pos p_v] | rw [if_neg p_v]); (first | exact ⟨rfl, rfl⟩ | simp [va_up]))
    · have p_t := z00 inferInstance e_r_4 c_5
      refine lv_aload_n hx hb dX7_eject_14 rfl (lv_at hl 0 rfl) ?_
      refine lv_ldc2 hx hb hown (hts (.constantLong RX7 59 (1099511627776)) (by decide +kernel)) dX7_eject_15 ?_
      refine zCl w (va_runV (As := [.long 1099511627776]) (rest := []) ⟨hx, hb, hml, hown, hts⟩ (kX7_refuse l G ad zNONE zW1 H.size) (cwV 1 hts gX7_eject_X7_refuse rfl rfl rfl (by decide +kernel) ⟨(Nat.le_of_ble_eq_true rfl), (Nat.le_of_ble_eq_true rfl)⟩) (zPV w hK (va_recv hK.1 w.1 (ci := 6) (q0 := 0) rfl rfl)) rfl rfl hl.1 rfl (lv_room (Nat.le_of_ble_eq_true rfl)) dX7_eject_18 ⟨(Nat.le_of_ble_eq_true rfl), (Nat.le_of_ble_eq_true rfl)⟩) (fun r_8 u H locs hq w => ?_)
      obtain ⟨rfl, e_r⟩ := hq
      subst e_r
      exact zRl hx hb hr hlk w dX7_eject_21 (Nat.le_of_ble_eq_true rfl) (Nat.le_of_ble_eq_true rfl) (by show (if _ then _ else _); rw [if_neg (fun q => p_t q.2)]; exact ⟨rfl, rfl⟩)
set_option maxHeartbeats 4000000 in
set_option maxRecDepth 100000 in
theorem kX7_share (l : Launch) (G : zG) (ad : Nat → Nat) {M : Nat → Nat → Int32} {lev : Nat → UInt32} (hI : mI M lev) (d e2 t : Int32) (sz : Nat) : zMl l yX7_share wsX7_share { frames := 1, cells := 0, slots := 0, locals := 22 } G [.ref (ad 0), .int d, .int e2, .int t] (mW G ad M lev) sz (fun r u => if zFour d ∧ zFour e2 ∧ zFour t then (u = mW G ad (va_up M 0 (upd (M 0) (mix e2 t) (M 0 (mix d t)))) lev ∧ r = if (M 0 (mix d t)) = -1 then 0 else 1) else mRefP G ad M lev zNONE r u) 0 0 := by
  refine zIn (Qc := fun A => va_Ql _ (zB G A) A) (cc := cX7_share) (maxL := 4) (ret := (some .long)) (by decide) rfl (Nat.le_of_ble_eq_true rfl) ?_
  intro p e s m below meth c A ls hx hb hr hlk hml hts hown hnm hK w hl
  have hown : s.vm.findClass RX7 = some m.cls := hown
  have hl : lv_has ls 4 [(0, .ref (ad 0)), (1, .int d), (2, .int e2), (3, .int t)] := hl
  refine lv_iload_n hx hb dX7_share_0 rfl (lv_at hl 1 rfl) ?_
  refine zCi w (va_runS (As := [.int d]) (rest := []) ⟨hx, hb, hml, hown, hts⟩ (kX7_isFour l G _ d s.heap.size) (va_cwS 1 hts gX7_share_X7_isFour rfl rfl rfl (by decide +kernel) ⟨(Nat.le_of_ble_eq_true rfl), (Nat.le_of_ble_eq_true rfl)⟩) (zPS w hK) rfl rfl hl.1 rfl (lv_room (Nat.le_of_ble_eq_true rfl)) dX7_share_1 ⟨(Nat.le_of_ble_eq_true rfl), (Nat.le_of_ble_eq_true rfl)⟩) (fun r_1 u H locs hq w => ?_)
  obtain ⟨rfl, e_r_1⟩ := hq
  refine lv_if_eq (tgt := 21) hx hb dX7_share_4 (by decide) (fun c_2 => ?_) (fun c_2 => ?_)
  · have p_d := z00 inferInstance e_r_1 c_2
    refine lv_aload_n hx hb dX7_share_21 rfl (lv_at hl 0 rfl) ?_
    refine lv_ldc2 hx hb hown (hts (.constantLong RX7 59 (1099511627776)) (by decide +kernel)) dX7_share_22 ?_
    refine zCl w (va_runV (As := [.long 1099511627776]) (rest := []) ⟨hx, hb, hml, hown, hts⟩ (kX7_refuse l G ad zNONE zW1 H.size) (cwV 1 hts gX7_share_X7_refuse rfl rfl rfl (by decide +kernel) ⟨(Nat.le_of_ble_eq_true rfl), (Nat.le_of_ble_eq_true rfl)⟩) (zPV w hK (va_recv hK.1 w.1 (ci := 6) (q0 := 0) rfl rfl)) rfl rfl hl.1 rfl (lv_room (Nat.le_of_ble_eq_true rfl)) dX7_share_25 ⟨(Nat.le_of_ble_eq_true rfl), (Nat.le_of_ble_eq_true rfl)⟩) (fun r_3 u H locs hq w => ?_)
    obtain ⟨rfl, e_r⟩ := hq
    subst e_r
    exact zRl hx hb hr hlk w dX7_share_28 (Nat.le_of_ble_eq_true rfl) (Nat.le_of_ble_eq_true rfl) (by show (if _ then _ else _); rw [if_neg (fun q => p_d q.1)]; exact ⟨rfl, rfl⟩)
  · have p_d := z01 inferInstance e_r_1 c_2
    refine lv_iload_n hx hb dX7_share_7 rfl (lv_at hl 2 rfl) ?_
    refine zCi w (va_runS (As := [.int e2]) (rest := []) ⟨hx, hb, hml, hown, hts⟩ (kX7_isFour l G _ e2 H.size) (va_cwS 1 hts gX7_share_X7_isFour rfl rfl rfl (by decide +kernel) ⟨(Nat.le_of_ble_eq_true rfl), (Nat.le_of_ble_eq_true rfl)⟩) (zPS w hK) rfl rfl hl.1 rfl (lv_room (Nat.le_of_ble_eq_true rfl)) dX7_share_8 ⟨(Nat.le_of_ble_eq_true rfl), (Nat.le_of_ble_eq_true rfl)⟩) (fun r_4 u H locs hq w => ?_)
    obtain ⟨rfl, e_r_4⟩ := hq
    refine lv_if_eq (tgt := 21) hx hb dX7_share_11 (by decide) (fun c_5 => ?_) (fun c_5 => ?_)
    · have p_e := z00 inferInstance e_r_4 c_5
      refine lv_aload_n hx hb dX7_share_21 rfl (lv_at hl 0 rfl) ?_
      refine lv_ldc2 hx hb hown (hts (.constantLong RX7 59 (1099511627776)) (by decide +kernel)) dX7_share_22 ?_
      refine zCl w (va_runV (As := [.long 1099511627776]) (rest := []) ⟨hx, hb, hml, hown, hts⟩ (kX7_refuse l G ad zNONE zW1 H.size) (cwV 1 hts gX7_share_X7_refuse rfl rfl rfl (by decide +kernel) ⟨(Nat.le_of_ble_eq_true rfl), (Nat.le_of_ble_eq_true rfl)⟩) (zPV w hK (va_recv hK.1 w.1 (ci := 6) (q0 := 0) rfl rfl)) rfl rfl hl.1 rfl (lv_room (Nat.le_of_ble_eq_true rfl)) dX7_share_25 ⟨(Nat.le_of_ble_eq_true rfl), (Nat.le_of_ble_eq_true rfl)⟩) (fun r_6 u H locs hq w => ?_)
      obtain ⟨rfl, e_r⟩ := hq
      subst e_r
      exact zRl hx hb hr hlk w dX7_share_28 (Nat.le_of_ble_eq_true rfl) (Nat.le_of_ble_eq_true rfl) (by show (if _ then _ else _); rw [if_neg (fun q => p_e q.2.1)]; exact ⟨rfl, rfl⟩)
    · have p_e := z01 inferInstance e_r_4 c_5
      refine lv_iload_n hx hb dX7_share_14 rfl (lv_at hl 3 rfl) ?_
      refine zCi w (va_runS (As := [.int t]) (rest := []) ⟨hx, hb, hml, hown, hts⟩ (kX7_isFour l G _ t H.size) (va_cwS 1 hts gX7_share_X7_isFour rfl rfl rfl (by decide +kernel) ⟨(Nat.le_of_ble_eq_true rfl), (Nat.le_of_ble_eq_true rfl)⟩) (zPS w hK) rfl rfl hl.1 rfl (lv_room (Nat.le_of_ble_eq_true rfl)) dX7_share_15 ⟨(Nat.le_of_ble_eq_true rfl), (Nat.le_of_ble_eq_true rfl)⟩) (fun r_7 u H locs hq w => ?_)
      obtain ⟨rfl, e_r_7⟩ := hq
      refine lv_if_ne (tgt := 29) hx hb dX7_share_18 (by decide) (fun c_8 => ?_) (fun c_8 => ?_)
      · have p_t := z01 inferInstance e_r_7 c_8
        refine lv_aload_n hx hb dX7_share_29 rfl (lv_at hl 0 rfl) ?_
        refine zget (ci := 6) (C := RX7) (T := TX7) (N := 11) hx hb hts hown hK w (by decide +kernel) 0 rfl rfl 0 (by decide) (hts (.fieldLink RX7 7 "ReelBarnModel" "carried" "[I") (by decide +kernel)) (fun _ h9 => h9) rfl dX7_share_30 ?_
        refine lv_iconst (v := 4) hx hb dX7_share_33 (by decide) ?_
        refine lv_iload_n hx hb dX7_share_34 rfl (lv_at hl 2 rfl) ?_
        refine lv_imul hx hb dX7_share_35 ?_
        refine lv_iload_n hx hb dX7_share_36 rfl (lv_at hl 3 rfl) ?_
        refine lv_iadd hx hb dX7_share_37 ?_
        refine lv_aload_n hx hb dX7_share_38 rfl (lv_at hl 0 rfl) ?_
        refine zget (ci := 6) (C := RX7) (T := TX7) (N := 11) hx hb hts hown hK w (by decide +kernel) 0 rfl rfl 0 (by decide) (hts (.fieldLink RX7 7 "ReelBarnModel" "carried" "[I") (by decide +kernel)) (fun _ h9 => h9) rfl dX7_share_39 ?_
        refine lv_iconst (v := 4) hx hb dX7_share_42 (by decide) ?_
        refine lv_iload_n hx hb dX7_share_43 rfl (lv_at hl 1 rfl) ?_
        refine lv_imul hx hb dX7_share_44 ?_
        refine lv_iload_n hx hb dX7_share_45 rfl (lv_at hl 3 rfl) ?_
        refine lv_iadd hx hb dX7_share_46 ?_
        refine zm_iald hx hb hK w 1 rfl (mix_in p_d p_t) dX7_share_47 ?_
        refine zm_iast hx hb hK w 1 rfl (mix_in p_e p_t) dX7_share_48 (fun H locs w => ?_)
        have w : zW G A s H locs (mW G ad (va_up M 0 (upd (M 0) (((4 * e2) + t).toNatClampNeg) (M 0 (((4 * d) + t).toNatClampNeg)))) lev) := w
        refine lv_aload_n hx hb dX7_share_49 rfl (lv_at hl 0 rfl) ?_
        refine zget (ci := 6) (C := RX7) (T := TX7) (N := 11) hx hb hts hown hK w (by decide +kernel) 0 rfl rfl 0 (by decide) (hts (.fieldLink RX7 7 "ReelBarnModel" "carried" "[I") (by decide +kernel)) (fun _ h9 => h9) rfl dX7_share_50 ?_
        refine lv_iconst (v := 4) hx hb dX7_share_53 (by decide) ?_
        refine lv_iload_n hx hb dX7_share_54 rfl (lv_at hl 2 rfl) ?_
        refine lv_imul hx hb dX7_share_55 ?_
        refine lv_iload_n hx hb dX7_share_56 rfl (lv_at hl 3 rfl) ?_
        refine lv_iadd hx hb dX7_share_57 ?_
        refine zm_iald hx hb hK w 1 rfl (mix_in p_e p_t) dX7_share_58 ?_
        refine lv_iconst (v := (-1)) hx hb dX7_share_59 (by decide) ?_
        refine lv_icmp_ne (tgt := 67) hx hb dX7_share_60 (by decide) (fun c_9 => ?_) (fun c_9 => ?_)
        · have p_v := c_9
          refine lv_lconst (v := 1) hx hb dX7_share_67 (by decide) ?_
          exact zRl hx hb hr hlk w dX7_share_68 (Nat.le_of_ble_eq_true rfl) (Nat.le_of_ble_eq_true rfl) (by show (if _ then _ else _); rw [if_pos ⟨p_d, p_e, p_t⟩]; (first | exact ⟨rfl, rfl⟩ | (refine ⟨rfl, ?_⟩; have p_w : (va_up M 0 (upd (M 0) (mix e2 t) (M 0 (mix d t)))) 0 (mix e2 t) = M 0 (mix d t) := (by simp [va_up, upd]); rw [p_w] at p_v; simp [p_v])))
        · have p_v := c_9
          refine lv_lconst (v := 0) hx hb dX7_share_63 (by decide) ?_
          refine lv_goto (tgt := 68) hx hb dX7_share_64 (by decide) ?_
          exact zRl hx hb hr hlk w dX7_share_68 (Nat.le_of_ble_eq_true rfl) (Nat.le_of_ble_eq_true rfl) (by show (if _ then _ else _); rw [if_pos ⟨p_d, p_e, p_t⟩]; (first | exact ⟨rfl, rfl⟩ | (refine ⟨rfl, ?_⟩; have p_w : (va_up M 0 (upd (M 0) (mix e2 t) (M 0 (mix d t)))) 0 (mix e2 t) = M 0 (mix d t) := (by simp [va_up, upd]); rw [p_w] at p_v; simp [p_v])))
      · have p_t := z00 inferInstance e_r_7 c_8
        refine lv_aload_n hx hb dX7_share_21 rfl (lv_at hl 0 rfl) ?_
        refine lv_ldc2 hx hb hown (hts (.constantLong RX7 59 (1099511627776)) (by decide +kernel)) dX7_share_22 ?_
        refine zCl w (va_runV (As := [.long 1099511627776]) (rest := []) ⟨hx, hb, hml, hown, hts⟩ (kX7_refuse l G ad zNONE zW1 H.size) (cwV 1 hts gX7_share_X7_refuse rfl rfl rfl (by decide +kernel) ⟨(Nat.le_of_ble_eq_true rfl), (Nat.le_of_ble_eq_true rfl)⟩) (zPV w hK (va_recv hK.1 w.1 (ci := 6) (q0 := 0) rfl rfl)) rfl rfl hl.1 rfl (lv_room (Nat.le_of_ble_eq_true rfl)) dX7_share_25 ⟨(Nat.le_of_ble_eq_true rfl), (Nat.le_of_ble_eq_true rfl)⟩) (fun r_10 u H locs hq w => ?_)
        obtain ⟨rfl, e_r⟩ := hq
        subst e_r
        exact zRl hx hb hr hlk w dX7_share_28 (Nat.le_of_ble_eq_true rfl) (Nat.le_of_ble_eq_true rfl) (by show (if _ then _ else _); rw [if_neg (fun q => p_t q.2.2)]; exact ⟨rfl, rfl⟩)
set_option maxHeartbeats 4000000 in
set_option maxRecDepth 100000 in
theorem kX7_read (l : Launch) (G : zG) (ad : Nat → Nat) {M : Nat → Nat → Int32} {lev : Nat → UInt32} (hI : mI M lev) (d t i : Int32) (sz : Nat) : zMl l yX7_read wsX7_read { frames := 1, cells := 0, slots := 0, locals := 23 } G [.ref (ad 0), .int d, .int t, .int i] (mW G ad M lev) sz (fun r u => if zFour d ∧ zFour t then (if (mAg M (M 0 (mix d t)) i) = 0 then (u = mW G ad M lev ∧ r = (mTo M lev t (mat (M 0 (mix d t)) i)).toInt64) else mRefP G ad M lev (mAg M (M 0 (mix d t)) i) r u) else mRefP G ad M lev zNONE r u) 0 0 := by
  refine zIn (Qc := fun A => va_Ql _ (zB G A) A) (cc := cX7_read) (maxL := 7) (ret := (some .long)) (by decide) rfl (Nat.le_of_ble_eq_true rfl) ?_
  intro p e s m below meth c A ls hx hb hr hlk hml hts hown hnm hK w hl
  have hown : s.vm.findClass RX7 = some m.cls := hown
  have hl : lv_has ls 7 [(0, .ref (ad 0)), (1, .int d), (2, .int t), (3, .int i)] := hl
  refine lv_iload_n hx hb dX7_read_0 rfl (lv_at hl 1 rfl) ?_
  refine zCi w (va_runS (As := [.int d]) (rest := []) ⟨hx, hb, hml, hown, hts⟩ (kX7_isFour l G _ d s.heap.size) (va_cwS 1 hts gX7_read_X7_isFour rfl rfl rfl (by decide +kernel) ⟨(Nat.le_of_ble_eq_true rfl), (Nat.le_of_ble_eq_true rfl)⟩) (zPS w hK) rfl rfl hl.1 rfl (lv_room (Nat.le_of_ble_eq_true rfl)) dX7_read_1 ⟨(Nat.le_of_ble_eq_true rfl), (Nat.le_of_ble_eq_true rfl)⟩) (fun r_1 u H locs hq w => ?_)
  obtain ⟨rfl, e_r_1⟩ := hq
  refine lv_if_eq (tgt := 14) hx hb dX7_read_4 (by decide) (fun c_2 => ?_) (fun c_2 => ?_)
  · have p_d := z00 inferInstance e_r_1 c_2
    refine lv_aload_n hx hb dX7_read_14 rfl (lv_at hl 0 rfl) ?_
    refine lv_ldc2 hx hb hown (hts (.constantLong RX7 59 (1099511627776)) (by decide +kernel)) dX7_read_15 ?_
    refine zCl w (va_runV (As := [.long 1099511627776]) (rest := []) ⟨hx, hb, hml, hown, hts⟩ (kX7_refuse l G ad zNONE zW1 H.size) (cwV 1 hts gX7_read_X7_refuse rfl rfl rfl (by decide +kernel) ⟨(Nat.le_of_ble_eq_true rfl), (Nat.le_of_ble_eq_true rfl)⟩) (zPV w hK (va_recv hK.1 w.1 (ci := 6) (q0 := 0) rfl rfl)) rfl rfl hl.1 rfl (lv_room (Nat.le_of_ble_eq_true rfl)) dX7_read_18 ⟨(Nat.le_of_ble_eq_true rfl), (Nat.le_of_ble_eq_true rfl)⟩) (fun r_3 u H locs hq w => ?_)
    obtain ⟨rfl, e_r⟩ := hq
    subst e_r
    exact zRl hx hb hr hlk w dX7_read_21 (Nat.le_of_ble_eq_true rfl) (Nat.le_of_ble_eq_true rfl) (by show (if _ then _ else _); rw [if_neg (fun q => p_d q.1)]; exact ⟨rfl, rfl⟩)
  · have p_d := z01 inferInstance e_r_1 c_2
    refine lv_iload_n hx hb dX7_read_7 rfl (lv_at hl 2 rfl) ?_
    refine zCi w (va_runS (As := [.int t]) (rest := []) ⟨hx, hb, hml, hown, hts⟩ (kX7_isFour l G _ t H.size) (va_cwS 1 hts gX7_read_X7_isFour rfl rfl rfl (by decide +kernel) ⟨(Nat.le_of_ble_eq_true rfl), (Nat.le_of_ble_eq_true rfl)⟩) (zPS w hK) rfl rfl hl.1 rfl (lv_room (Nat.le_of_ble_eq_true rfl)) dX7_read_8 ⟨(Nat.le_of_ble_eq_true rfl), (Nat.le_of_ble_eq_true rfl)⟩) (fun r_4 u H locs hq w => ?_)
    obtain ⟨rfl, e_r_4⟩ := hq
    refine lv_if_ne (tgt := 22) hx hb dX7_read_11 (by decide) (fun c_5 => ?_) (fun c_5 => ?_)
    · have p_t := z01 inferInstance e_r_4 c_5
      refine lv_aload_n hx hb dX7_read_22 rfl (lv_at hl 0 rfl) ?_
      refine zget (ci := 6) (C := RX7) (T := TX7) (N := 11) hx hb hts hown hK w (by decide +kernel) 0 rfl rfl 0 (by decide) (hts (.fieldLink RX7 7 "ReelBarnModel" "carried" "[I") (by decide +kernel)) (fun _ h9 => h9) rfl dX7_read_23 ?_
      refine lv_iconst (v := 4) hx hb dX7_read_26 (by decide) ?_
      refine lv_iload_n hx hb dX7_read_27 rfl (lv_at hl 1 rfl) ?_
      refine lv_imul hx hb dX7_read_28 ?_
      refine lv_iload_n hx hb dX7_read_29 rfl (lv_at hl 2 rfl) ?_
      refine lv_iadd hx hb dX7_read_30 ?_
      refine zm_iald hx hb hK w 1 rfl (mix_in p_d p_t) dX7_read_31 ?_
      refine lv_istore (lv' := [(4, .int (M 0 (((4 * d) + t).toNatClampNeg))), (0, .ref (ad 0)), (1, .int d), (2, .int t), (3, .int i)]) hx hb dX7_read_32 hl (by decide) rfl (fun ls hl => ?_)
      refine lv_aload_n hx hb dX7_read_34 rfl (lv_at hl 1 rfl) ?_
      refine lv_iload hx hb dX7_read_35 (lv_at hl 0 rfl) ?_
      refine lv_iload_n hx hb dX7_read_37 rfl (lv_at hl 4 rfl) ?_
      refine zCl w (va_runV (As := [.int (M 0 (((4 * d) + t).toNatClampNeg)), .int i]) (rest := []) ⟨hx, hb, hml, hown, hts⟩ (kX7_against l G ad hI (M 0 (mix d t)) i (hI.1 _ (mix_lt p_d p_t)) H.size) (cwV 2 hts gX7_read_X7_against rfl rfl rfl (by decide +kernel) ⟨(Nat.le_of_ble_eq_true rfl), (Nat.le_of_ble_eq_true rfl)⟩) (zPV w hK (va_recv hK.1 w.1 (ci := 6) (q0 := 0) rfl rfl)) rfl rfl hl.1 rfl (lv_room (Nat.le_of_ble_eq_true rfl)) dX7_read_38 ⟨(Nat.le_of_ble_eq_true rfl), (Nat.le_of_ble_eq_true rfl)⟩) (fun r_6 u H locs hq w => ?_)
      obtain ⟨rfl, e_r⟩ := hq
      subst e_r
      refine lv_lstore (lv' := [(5, .long (mAg M (M 0 (mix d t)) i)), (4, .int (M 0 (((4 * d) + t).toNatClampNeg))), (0, .ref (ad 0)), (1, .int d), (2, .int t), (3, .int i)]) hx hb dX7_read_41 hl (by decide) rfl (fun ls hl => ?_)
      refine lv_lload hx hb dX7_read_43 (lv_at hl 0 rfl) ?_
      refine lv_lconst (v := 0) hx hb dX7_read_45 (by decide) ?_
      refine W.lcmp hx hb dX7_read_46 ?_
      refine lv_if_eq (tgt := 59) hx hb dX7_read_47 (by decide) (fun c_7 => ?_) (fun c_7 => ?_)
      · have p_f := zcmp0 c_7
        obtain ⟨hv, hhs⟩ := mAg_0 p_f
        have hmP := hI.1 _ (mix_lt p_d p_t)
        have hat := mat_in hI hmP hv hhs
        have hfl := hI.2.2.2.2.1 _ (zin_lt hat)
        refine lv_aload_n hx hb dX7_read_59 rfl (lv_at hl 2 rfl) ?_
        refine lv_iload_n hx hb dX7_read_60 rfl (lv_at hl 4 rfl) ?_
        refine lv_iload hx hb dX7_read_61 (lv_at hl 1 rfl) ?_
        refine lv_iload_n hx hb dX7_read_63 rfl (lv_at hl 5 rfl) ?_
        refine zCl w (va_runV (As := [.int t, .int (M 0 (((4 * d) + t).toNatClampNeg)), .int i]) (rest := []) ⟨hx, hb, hml, hown, hts⟩ (kX7_told l G ad t (M 0 (mix d t)) i hat hfl H.size) (cwV 3 hts gX7_read_X7_told rfl rfl rfl (by decide +kernel) ⟨(Nat.le_of_ble_eq_true rfl), (Nat.le_of_ble_eq_true rfl)⟩) (zPV w hK (va_recv hK.1 w.1 (ci := 6) (q0 := 0) rfl rfl)) rfl rfl hl.1 rfl (lv_room (Nat.le_of_ble_eq_true rfl)) dX7_read_64 ⟨(Nat.le_of_ble_eq_true rfl), (Nat.le_of_ble_eq_true rfl)⟩) (fun r_8 u H locs hq w => ?_)
        obtain ⟨rfl, e_r⟩ := hq
        subst e_r
        exact zRl hx hb hr hlk w dX7_read_67 (Nat.le_of_ble_eq_true rfl) (Nat.le_of_ble_eq_true rfl) (by show (if _ then _ else _); rw [if_pos ⟨p_d, p_t⟩]; (first | rw [if_pos p_f] | rw [if_neg p_f]); (first | exact ⟨rfl, rfl⟩ | simp [va_up]))
      · have p_f := zcmp1 c_7
        refine lv_aload_n hx hb dX7_read_50 rfl (lv_at hl 2 rfl) ?_
        refine lv_lload hx hb dX7_read_51 (lv_at hl 0 rfl) ?_
        refine zCl w (va_runV (As := [.long (mAg M (M 0 (mix d t)) i)]) (rest := []) ⟨hx, hb, hml, hown, hts⟩ (kX7_refuse l G ad (mAg M (M 0 (mix d t)) i) (mAg_why p_f) H.size) (cwV 1 hts gX7_read_X7_refuse rfl rfl rfl (by decide +kernel) ⟨(Nat.le_of_ble_eq_true rfl), (Nat.le_of_ble_eq_true rfl)⟩) (zPV w hK (va_recv hK.1 w.1 (ci := 6) (q0 := 0) rfl rfl)) rfl rfl hl.1 rfl (lv_room (Nat.le_of_ble_eq_true rfl)) dX7_read_53 ⟨(Nat.le_of_ble_eq_true rfl), (Nat.le_of_ble_eq_true rfl)⟩) (fun r_9 u H locs hq w => ?_)
        obtain ⟨rfl, e_r⟩ := hq
        subst e_r
        refine lv_goto (tgt := 67) hx hb dX7_read_56 (by decide) ?_
        exact zRl hx hb hr hlk w dX7_read_67 (Nat.le_of_ble_eq_true rfl) (Nat.le_of_ble_eq_true rfl) (by show (if _ then _ else _); rw [if_pos ⟨p_d, p_t⟩]; (first | rw [if_pos p_f] | rw [if_neg p_f]); (first | exact ⟨rfl, rfl⟩ | simp [va_up]))
    · have p_t := z00 inferInstance e_r_4 c_5
      refine lv_aload_n hx hb dX7_read_14 rfl (lv_at hl 0 rfl) ?_
      refine lv_ldc2 hx hb hown (hts (.constantLong RX7 59 (1099511627776)) (by decide +kernel)) dX7_read_15 ?_
      refine zCl w (va_runV (As := [.long 1099511627776]) (rest := []) ⟨hx, hb, hml, hown, hts⟩ (kX7_refuse l G ad zNONE zW1 H.size) (cwV 1 hts gX7_read_X7_refuse rfl rfl rfl (by decide +kernel) ⟨(Nat.le_of_ble_eq_true rfl), (Nat.le_of_ble_eq_true rfl)⟩) (zPV w hK (va_recv hK.1 w.1 (ci := 6) (q0 := 0) rfl rfl)) rfl rfl hl.1 rfl (lv_room (Nat.le_of_ble_eq_true rfl)) dX7_read_18 ⟨(Nat.le_of_ble_eq_true rfl), (Nat.le_of_ble_eq_true rfl)⟩) (fun r_10 u H locs hq w => ?_)
      obtain ⟨rfl, e_r⟩ := hq
      subst e_r
      exact zRl hx hb hr hlk w dX7_read_21 (Nat.le_of_ble_eq_true rfl) (Nat.le_of_ble_eq_true rfl) (by show (if _ then _ else _); rw [if_neg (fun q => p_t q.2)]; exact ⟨rfl, rfl⟩)
set_option maxHeartbeats 4000000 in
set_option maxRecDepth 100000 in
theorem kX7_write (l : Launch) (G : zG) (ad : Nat → Nat) {M : Nat → Nat → Int32} {lev : Nat → UInt32} (hI : mI M lev) (d t i x : Int32) (sz : Nat) : zMl l yX7_write wsX7_write { frames := 2, cells := 0, slots := 0, locals := 45 } G [.ref (ad 0), .int d, .int t, .int i, .int x] (mW G ad M lev) sz (fun r u => if zFour d ∧ zFour t then (if (mAg M (M 0 (mix d t)) i) = 0 then (u = mW G ad (mFM M t (mat (M 0 (mix d t)) i) x) (mFL lev t (mat (M 0 (mix d t)) i) (zEi x)) ∧ r = (mTo (mFM M t (mat (M 0 (mix d t)) i) x) (mFL lev t (mat (M 0 (mix d t)) i) (zEi x)) t (mat (M 0 (mix d t)) i)).toInt64) else mRefP G ad M lev (mAg M (M 0 (mix d t)) i) r u) else mRefP G ad M lev zNONE r u) 0 0 := by
  refine zIn (Qc := fun A => va_Ql _ (zB G A) A) (cc := cX7_write) (maxL := 8) (ret := (some .long)) (by decide) rfl (Nat.le_of_ble_eq_true rfl) ?_
  intro p e s m below meth c A ls hx hb hr hlk hml hts hown hnm hK w hl
  have hown : s.vm.findClass RX7 = some m.cls := hown
  have hl : lv_has ls 8 [(0, .ref (ad 0)), (1, .int d), (2, .int t), (3, .int i), (4, .int x)] := hl
  refine lv_iload_n hx hb dX7_write_0 rfl (lv_at hl 1 rfl) ?_
  refine zCi w (va_runS (As := [.int d]) (rest := []) ⟨hx, hb, hml, hown, hts⟩ (kX7_isFour l G _ d s.heap.size) (va_cwS 1 hts gX7_write_X7_isFour rfl rfl rfl (by decide +kernel) ⟨(Nat.le_of_ble_eq_true rfl), (Nat.le_of_ble_eq_true rfl)⟩) (zPS w hK) rfl rfl hl.1 rfl (lv_room (Nat.le_of_ble_eq_true rfl)) dX7_write_1 ⟨(Nat.le_of_ble_eq_true rfl), (Nat.le_of_ble_eq_true rfl)⟩) (fun r_1 u H locs hq w => ?_)
  obtain ⟨rfl, e_r_1⟩ := hq
  refine lv_if_eq (tgt := 14) hx hb dX7_write_4 (by decide) (fun c_2 => ?_) (fun c_2 => ?_)
  · have p_d := z00 inferInstance e_r_1 c_2
    refine lv_aload_n hx hb dX7_write_14 rfl (lv_at hl 0 rfl) ?_
    refine lv_ldc2 hx hb hown (hts (.constantLong RX7 59 (1099511627776)) (by decide +kernel)) dX7_write_15 ?_
    refine zCl w (va_runV (As := [.long 1099511627776]) (rest := []) ⟨hx, hb, hml, hown, hts⟩ (kX7_refuse l G ad zNONE zW1 H.size) (cwV 1 hts gX7_write_X7_refuse rfl rfl rfl (by decide +kernel) ⟨(Nat.le_of_ble_eq_true rfl), (Nat.le_of_ble_eq_true rfl)⟩) (zPV w hK (va_recv hK.1 w.1 (ci := 6) (q0 := 0) rfl rfl)) rfl rfl hl.1 rfl (lv_room (Nat.le_of_ble_eq_true rfl)) dX7_write_18 ⟨(Nat.le_of_ble_eq_true rfl), (Nat.le_of_ble_eq_true rfl)⟩) (fun r_3 u H locs hq w => ?_)
    obtain ⟨rfl, e_r⟩ := hq
    subst e_r
    exact zRl hx hb hr hlk w dX7_write_21 (Nat.le_of_ble_eq_true rfl) (Nat.le_of_ble_eq_true rfl) (by show (if _ then _ else _); rw [if_neg (fun q => p_d q.1)]; exact ⟨rfl, rfl⟩)
  · have p_d := z01 inferInstance e_r_1 c_2
    refine lv_iload_n hx hb dX7_write_7 rfl (lv_at hl 2 rfl) ?_
    refine zCi w (va_runS (As := [.int t]) (rest := []) ⟨hx, hb, hml, hown, hts⟩ (kX7_isFour l G _ t H.size) (va_cwS 1 hts gX7_write_X7_isFour rfl rfl rfl (by decide +kernel) ⟨(Nat.le_of_ble_eq_true rfl), (Nat.le_of_ble_eq_true rfl)⟩) (zPS w hK) rfl rfl hl.1 rfl (lv_room (Nat.le_of_ble_eq_true rfl)) dX7_write_8 ⟨(Nat.le_of_ble_eq_true rfl), (Nat.le_of_ble_eq_true rfl)⟩) (fun r_4 u H locs hq w => ?_)
    obtain ⟨rfl, e_r_4⟩ := hq
    refine lv_if_ne (tgt := 22) hx hb dX7_write_11 (by decide) (fun c_5 => ?_) (fun c_5 => ?_)
    · have p_t := z01 inferInstance e_r_4 c_5
      refine lv_aload_n hx hb dX7_write_22 rfl (lv_at hl 0 rfl) ?_
      refine zget (ci := 6) (C := RX7) (T := TX7) (N := 11) hx hb hts hown hK w (by decide +kernel) 0 rfl rfl 0 (by decide) (hts (.fieldLink RX7 7 "ReelBarnModel" "carried" "[I") (by decide +kernel)) (fun _ h9 => h9) rfl dX7_write_23 ?_
      refine lv_iconst (v := 4) hx hb dX7_write_26 (by decide) ?_
      refine lv_iload_n hx hb dX7_write_27 rfl (lv_at hl 1 rfl) ?_
      refine lv_imul hx hb dX7_write_28 ?_
      refine lv_iload_n hx hb dX7_write_29 rfl (lv_at hl 2 rfl) ?_
      refine lv_iadd hx hb dX7_write_30 ?_
      refine zm_iald hx hb hK w 1 rfl (mix_in p_d p_t) dX7_write_31 ?_
      refine lv_istore (lv' := [(5, .int (M 0 (((4 * d) + t).toNatClampNeg))), (0, .ref (ad 0)), (1, .int d), (2, .int t), (3, .int i), (4, .int x)]) hx hb dX7_write_32 hl (by decide) rfl (fun ls hl => ?_)
      refine lv_aload_n hx hb dX7_write_34 rfl (lv_at hl 1 rfl) ?_
      refine lv_iload hx hb dX7_write_35 (lv_at hl 0 rfl) ?_
      refine lv_iload_n hx hb dX7_write_37 rfl (lv_at hl 4 rfl) ?_
      refine zCl w (va_runV (As := [.int (M 0 (((4 * d) + t).toNatClampNeg)), .int i]) (rest := []) ⟨hx, hb, hml, hown, hts⟩ (kX7_against l G ad hI (M 0 (mix d t)) i (hI.1 _ (mix_lt p_d p_t)) H.size) (cwV 2 hts gX7_write_X7_against rfl rfl rfl (by decide +kernel) ⟨(Nat.le_of_ble_eq_true rfl), (Nat.le_of_ble_eq_true rfl)⟩) (zPV w hK (va_recv hK.1 w.1 (ci := 6) (q0 := 0) rfl rfl)) rfl rfl hl.1 rfl (lv_room (Nat.le_of_ble_eq_true rfl)) dX7_write_38 ⟨(Nat.le_of_ble_eq_true rfl), (Nat.le_of_ble_eq_true rfl)⟩) (fun r_6 u H locs hq w => ?_)
      obtain ⟨rfl, e_r⟩ := hq
      subst e_r
      refine lv_lstore (lv' := [(6, .long (mAg M (M 0 (mix d t)) i)), (5, .int (M 0 (((4 * d) + t).toNatClampNeg))), (0, .ref (ad 0)), (1, .int d), (2, .int t), (3, .int i), (4, .int x)]) hx hb dX7_write_41 hl (by decide) rfl (fun ls hl => ?_)
      refine lv_lload hx hb dX7_write_43 (lv_at hl 0 rfl) ?_
      refine lv_lconst (v := 0) hx hb dX7_write_45 (by decide) ?_
      refine W.lcmp hx hb dX7_write_46 ?_
      refine lv_if_eq (tgt := 57) hx hb dX7_write_47 (by decide) (fun c_7 => ?_) (fun c_7 => ?_)
      · have p_f := zcmp0 c_7
        obtain ⟨hv, hhs⟩ := mAg_0 p_f
        have hmP := hI.1 _ (mix_lt p_d p_t)
        have hat := mat_in hI hmP hv hhs
        have hfl := hI.2.2.2.2.1 _ (zin_lt hat)
        refine lv_aload_n hx hb dX7_write_57 rfl (lv_at hl 2 rfl) ?_
        refine lv_iload_n hx hb dX7_write_58 rfl (lv_at hl 4 rfl) ?_
        refine lv_iload hx hb dX7_write_59 (lv_at hl 1 rfl) ?_
        refine lv_iload_n hx hb dX7_write_61 rfl (lv_at hl 5 rfl) ?_
        refine lv_iload hx hb dX7_write_62 (lv_at hl 6 rfl) ?_
        refine zCv w (va_runV (As := [.int t, .int (M 0 (((4 * d) + t).toNatClampNeg)), .int i, .int x]) (rest := []) ⟨hx, hb, hml, hown, hts⟩ (kX7_fill l G ad t (M 0 (mix d t)) i x hat H.size) (cwV 4 hts gX7_write_X7_fill rfl rfl rfl (by decide +kernel) ⟨(Nat.le_of_ble_eq_true rfl), (Nat.le_of_ble_eq_true rfl)⟩) (zPV w hK (va_recv hK.1 w.1 (ci := 6) (q0 := 0) rfl rfl)) rfl rfl hl.1 rfl (lv_room (Nat.le_of_ble_eq_true rfl)) dX7_write_64 ⟨(Nat.le_of_ble_eq_true rfl), (Nat.le_of_ble_eq_true rfl)⟩) (fun u H locs hq w => ?_)
        subst hq
        refine lv_aload_n hx hb dX7_write_67 rfl (lv_at hl 2 rfl) ?_
        refine lv_iload_n hx hb dX7_write_68 rfl (lv_at hl 4 rfl) ?_
        refine lv_iload hx hb dX7_write_69 (lv_at hl 1 rfl) ?_
        refine lv_iload_n hx hb dX7_write_71 rfl (lv_at hl 5 rfl) ?_
        refine zCl w (va_runV (As := [.int t, .int (M 0 (((4 * d) + t).toNatClampNeg)), .int i]) (rest := []) ⟨hx, hb, hml, hown, hts⟩ (kX7_told (M := (mFM M t (mat (M 0 (mix d t)) i) x)) (lev := (mFL lev t (mat (M 0 (mix d t)) i) (zEi x))) l G ad t (M 0 (mix d t)) i hat (mFL_fin hfl (zn32 (zEi_fin x).notNaN)) H.size) (cwV 3 hts gX7_write_X7_told rfl rfl rfl (by decide +kernel) ⟨(Nat.le_of_ble_eq_true rfl), (Nat.le_of_ble_eq_true rfl)⟩) (zPV w hK (va_recv hK.1 w.1 (ci := 6) (q0 := 0) rfl rfl)) rfl rfl hl.1 rfl (lv_room (Nat.le_of_ble_eq_true rfl)) dX7_write_72 ⟨(Nat.le_of_ble_eq_true rfl), (Nat.le_of_ble_eq_true rfl)⟩) (fun r_8 u H locs hq w => ?_)
        obtain ⟨rfl, e_r⟩ := hq
        subst e_r
        exact zRl hx hb hr hlk w dX7_write_75 (Nat.le_of_ble_eq_true rfl) (Nat.le_of_ble_eq_true rfl) (by show (if _ then _ else _); rw [if_pos ⟨p_d, p_t⟩]; (first | rw [if_pos p_f] | rw [if_neg p_f]); (first | exact ⟨rfl, rfl⟩ | simp [va_up]))
      · have p_f := zcmp1 c_7
        refine lv_aload_n hx hb dX7_write_50 rfl (lv_at hl 2 rfl) ?_
        refine lv_lload hx hb dX7_write_51 (lv_at hl 0 rfl) ?_
        refine zCl w (va_runV (As := [.long (mAg M (M 0 (mix d t)) i)]) (rest := []) ⟨hx, hb, hml, hown, hts⟩ (kX7_refuse l G ad (mAg M (M 0 (mix d t)) i) (mAg_why p_f) H.size) (cwV 1 hts gX7_write_X7_refuse rfl rfl rfl (by decide +kernel) ⟨(Nat.le_of_ble_eq_true rfl), (Nat.le_of_ble_eq_true rfl)⟩) (zPV w hK (va_recv hK.1 w.1 (ci := 6) (q0 := 0) rfl rfl)) rfl rfl hl.1 rfl (lv_room (Nat.le_of_ble_eq_true rfl)) dX7_write_53 ⟨(Nat.le_of_ble_eq_true rfl), (Nat.le_of_ble_eq_true rfl)⟩) (fun r_9 u H locs hq w => ?_)
        obtain ⟨rfl, e_r⟩ := hq
        subst e_r
        exact zRl hx hb hr hlk w dX7_write_56 (Nat.le_of_ble_eq_true rfl) (Nat.le_of_ble_eq_true rfl) (by show (if _ then _ else _); rw [if_pos ⟨p_d, p_t⟩]; (first | rw [if_pos p_f] | rw [if_neg p_f]); (first | exact ⟨rfl, rfl⟩ | simp [va_up]))
    · have p_t := z00 inferInstance e_r_4 c_5
      refine lv_aload_n hx hb dX7_write_14 rfl (lv_at hl 0 rfl) ?_
      refine lv_ldc2 hx hb hown (hts (.constantLong RX7 59 (1099511627776)) (by decide +kernel)) dX7_write_15 ?_
      refine zCl w (va_runV (As := [.long 1099511627776]) (rest := []) ⟨hx, hb, hml, hown, hts⟩ (kX7_refuse l G ad zNONE zW1 H.size) (cwV 1 hts gX7_write_X7_refuse rfl rfl rfl (by decide +kernel) ⟨(Nat.le_of_ble_eq_true rfl), (Nat.le_of_ble_eq_true rfl)⟩) (zPV w hK (va_recv hK.1 w.1 (ci := 6) (q0 := 0) rfl rfl)) rfl rfl hl.1 rfl (lv_room (Nat.le_of_ble_eq_true rfl)) dX7_write_18 ⟨(Nat.le_of_ble_eq_true rfl), (Nat.le_of_ble_eq_true rfl)⟩) (fun r_10 u H locs hq w => ?_)
      obtain ⟨rfl, e_r⟩ := hq
      subst e_r
      exact zRl hx hb hr hlk w dX7_write_21 (Nat.le_of_ble_eq_true rfl) (Nat.le_of_ble_eq_true rfl) (by show (if _ then _ else _); rw [if_neg (fun q => p_t q.2)]; exact ⟨rfl, rfl⟩)
set_option maxHeartbeats 4000000 in
set_option maxRecDepth 100000 in
theorem kX7_nudge (l : Launch) (G : zG) (ad : Nat → Nat) {M : Nat → Nat → Int32} {lev : Nat → UInt32} (hI : mI M lev) (d t i how x : Int32) (sz : Nat) : zMl l yX7_nudge wsX7_nudge { frames := 2, cells := 0, slots := 0, locals := 45 } G [.ref (ad 0), .int d, .int t, .int i, .int how, .int x] (mW G ad M lev) sz (fun r u => if zFour d ∧ zFour t ∧ mKn t how then (if (mAg M (M 0 (mix d t)) i) = 0 then (if how = 3 ∧ x = 0 then mRefP G ad M lev zDIVIDED r u else if t = 2 then (u = mW G ad M (vf_upd lev (mat (M 0 (mix d t)) i) (zHe (if how = 0 then FP.fadd (lev (mat (M 0 (mix d t)) i)) (zEi x) else FP.fsub (lev (mat (M 0 (mix d t)) i)) (zEi x)))) ∧ r = (mTo M (vf_upd lev (mat (M 0 (mix d t)) i) (zHe (if how = 0 then FP.fadd (lev (mat (M 0 (mix d t)) i)) (zEi x) else FP.fsub (lev (mat (M 0 (mix d t)) i)) (zEi x)))) t (mat (M 0 (mix d t)) i)).toInt64) else (u = mW G ad (mFM M t (mat (M 0 (mix d t)) i) (zRek (M 4 (mat (M 0 (mix d t)) i)) how (if t = 3 then x &&& 1 else x))) (mFL lev t (mat (M 0 (mix d t)) i) (zEi (zRek (M 4 (mat (M 0 (mix d t)) i)) how (if t = 3 then x &&& 1 else x)))) ∧ r = (mTo (mFM M t (mat (M 0 (mix d t)) i) (zRek (M 4 (mat (M 0 (mix d t)) i)) how (if t = 3 then x &&& 1 else x))) (mFL lev t (mat (M 0 (mix d t)) i) (zEi (zRek (M 4 (mat (M 0 (mix d t)) i)) how (if t = 3 then x &&& 1 else x)))) t (mat (M 0 (mix d t)) i)).toInt64)) else mRefP G ad M lev (mAg M (M 0 (mix d t)) i) r u) else mRefP G ad M lev zNONE r u) 0 0 := by
  refine zIn (Qc := fun A => va_Ql _ (zB G A) A) (cc := cX7_nudge) (maxL := 11) (ret := (some .long)) (by decide) rfl (Nat.le_of_ble_eq_true rfl) ?_
  intro p e s m below meth c A ls hx hb hr hlk hml hts hown hnm hK w hl
  have hown : s.vm.findClass RX7 = some m.cls := hown
  have hl : lv_has ls 11 [(0, .ref (ad 0)), (1, .int d), (2, .int t), (3, .int i), (4, .int how), (5, .int x)] := hl
  refine lv_iload_n hx hb dX7_nudge_0 rfl (lv_at hl 2 rfl) ?_
  refine lv_iconst (v := 2) hx hb dX7_nudge_1 (by decide) ?_
  refine lv_icmp_ne (tgt := 24) hx hb dX7_nudge_2 (by decide) (fun c_1 => ?_) (fun c_1 => ?_)
  · refine lv_iload_n hx hb dX7_nudge_24 rfl (lv_at hl 2 rfl) ?_
    refine lv_iconst (v := 3) hx hb dX7_nudge_25 (by decide) ?_
    refine lv_icmp_ne (tgt := 50) hx hb dX7_nudge_26 (by decide) (fun c_2 => ?_) (fun c_2 => ?_)
    · refine lv_iload hx hb dX7_nudge_50 (lv_at hl 4 rfl) ?_
      refine lv_if_lt (tgt := 66) hx hb dX7_nudge_52 (by decide) (fun c_3 => ?_) (fun c_3 => ?_)
      · refine lv_iconst (v := 0) hx hb dX7_nudge_66 (by decide) ?_
        have p_k : ¬ mKn t how := by simp [mKn, c_1, c_2, c_3]
        refine lv_istore (lv' := [(6, .int 0), (0, .ref (ad 0)), (1, .int d), (2, .int t), (3, .int i), (4, .int how), (5, .int x)]) hx hb dX7_nudge_67 hl (by decide) rfl (fun ls hl => ?_)
        refine lv_iload_n hx hb dX7_nudge_69 rfl (lv_at hl 2 rfl) ?_
        refine zCi w (va_runS (As := [.int d]) (rest := []) ⟨hx, hb, hml, hown, hts⟩ (kX7_isFour l G _ d s.heap.size) (va_cwS 1 hts gX7_nudge_X7_isFour rfl rfl rfl (by decide +kernel) ⟨(Nat.le_of_ble_eq_true rfl), (Nat.le_of_ble_eq_true rfl)⟩) (zPS w hK) rfl rfl hl.1 rfl (lv_room (Nat.le_of_ble_eq_true rfl)) dX7_nudge_70 ⟨(Nat.le_of_ble_eq_true rfl), (Nat.le_of_ble_eq_true rfl)⟩) (fun r_4 u H locs hq w => ?_)
        obtain ⟨rfl, e_r_4⟩ := hq
        refine lv_if_eq (tgt := 88) hx hb dX7_nudge_73 (by decide) (fun c_5 => ?_) (fun c_5 => ?_)
        · have p_d := z00 inferInstance e_r_4 c_5
          refine lv_aload_n hx hb dX7_nudge_88 rfl (lv_at hl 1 rfl) ?_
          refine lv_ldc2 hx hb hown (hts (.constantLong RX7 59 (1099511627776)) (by decide +kernel)) dX7_nudge_89 ?_
          refine zCl w (va_runV (As := [.long 1099511627776]) (rest := []) ⟨hx, hb, hml, hown, hts⟩ (kX7_refuse l G ad zNONE zW1 H.size) (cwV 1 hts gX7_nudge_X7_refuse rfl rfl rfl (by decide +kernel) ⟨(Nat.le_of_ble_eq_true rfl), (Nat.le_of_ble_eq_true rfl)⟩) (zPV w hK (va_recv hK.1 w.1 (ci := 6) (q0 := 0) rfl rfl)) rfl rfl hl.1 rfl (lv_room (Nat.le_of_ble_eq_true rfl)) dX7_nudge_92 ⟨(Nat.le_of_ble_eq_true rfl), (Nat.le_of_ble_eq_true rfl)⟩) (fun r_6 u H locs hq w => ?_)
          obtain ⟨rfl, e_r⟩ := hq
          subst e_r
          exact zRl hx hb hr hlk w dX7_nudge_95 (Nat.le_of_ble_eq_true rfl) (Nat.le_of_ble_eq_true rfl) (by show (if _ then _ else _); rw [if_neg (fun q => p_k q.2.2)]; exact ⟨rfl, rfl⟩)
        · have p_d := z01 inferInstance e_r_4 c_5
          refine lv_iload_n hx hb dX7_nudge_76 rfl (lv_at hl 3 rfl) ?_
          refine zCi w (va_runS (As := [.int t]) (rest := []) ⟨hx, hb, hml, hown, hts⟩ (kX7_isFour l G _ t H.size) (va_cwS 1 hts gX7_nudge_X7_isFour rfl rfl rfl (by decide +kernel) ⟨(Nat.le_of_ble_eq_true rfl), (Nat.le_of_ble_eq_true rfl)⟩) (zPS w hK) rfl rfl hl.1 rfl (lv_room (Nat.le_of_ble_eq_true rfl)) dX7_nudge_77 ⟨(Nat.le_of_ble_eq_true rfl), (Nat.le_of_ble_eq_true rfl)⟩) (fun r_7 u H locs hq w => ?_)
          obtain ⟨rfl, e_r_7⟩ := hq
          refine lv_if_eq (tgt := 88) hx hb dX7_nudge_80 (by decide) (fun c_8 => ?_) (fun c_8 => ?_)
          · have p_t := z00 inferInstance e_r_7 c_8
            refine lv_aload_n hx hb dX7_nudge_88 rfl (lv_at hl 1 rfl) ?_
            refine lv_ldc2 hx hb hown (hts (.constantLong RX7 59 (1099511627776)) (by decide +kernel)) dX7_nudge_89 ?_
            refine zCl w (va_runV (As := [.long 1099511627776]) (rest := []) ⟨hx, hb, hml, hown, hts⟩ (kX7_refuse l G ad zNONE zW1 H.size) (cwV 1 hts gX7_nudge_X7_refuse rfl rfl rfl (by decide +kernel) ⟨(Nat.le_of_ble_eq_true rfl), (Nat.le_of_ble_eq_true rfl)⟩) (zPV w hK (va_recv hK.1 w.1 (ci := 6) (q0 := 0) rfl rfl)) rfl rfl hl.1 rfl (lv_room (Nat.le_of_ble_eq_true rfl)) dX7_nudge_92 ⟨(Nat.le_of_ble_eq_true rfl), (Nat.le_of_ble_eq_true rfl)⟩) (fun r_9 u H locs hq w => ?_)
            obtain ⟨rfl, e_r⟩ := hq
            subst e_r
            exact zRl hx hb hr hlk w dX7_nudge_95 (Nat.le_of_ble_eq_true rfl) (Nat.le_of_ble_eq_true rfl) (by show (if _ then _ else _); rw [if_neg (fun q => p_k q.2.2)]; exact ⟨rfl, rfl⟩)
          · have p_t := z01 inferInstance e_r_7 c_8
            refine lv_iload hx hb dX7_nudge_83 (lv_at hl 0 rfl) ?_
            refine lv_if_ne (tgt := 96) hx hb dX7_nudge_85 (by decide) (fun c_10 => absurd (by decide) c_10) (fun c_10 => ?_)
            refine lv_aload_n hx hb dX7_nudge_88 rfl (lv_at hl 1 rfl) ?_
            refine lv_ldc2 hx hb hown (hts (.constantLong RX7 59 (1099511627776)) (by decide +kernel)) dX7_nudge_89 ?_
            refine zCl w (va_runV (As := [.long 1099511627776]) (rest := []) ⟨hx, hb, hml, hown, hts⟩ (kX7_refuse l G ad zNONE zW1 H.size) (cwV 1 hts gX7_nudge_X7_refuse rfl rfl rfl (by decide +kernel) ⟨(Nat.le_of_ble_eq_true rfl), (Nat.le_of_ble_eq_true rfl)⟩) (zPV w hK (va_recv hK.1 w.1 (ci := 6) (q0 := 0) rfl rfl)) rfl rfl hl.1 rfl (lv_room (Nat.le_of_ble_eq_true rfl)) dX7_nudge_92 ⟨(Nat.le_of_ble_eq_true rfl), (Nat.le_of_ble_eq_true rfl)⟩) (fun r_11 u H locs hq w => ?_)
            obtain ⟨rfl, e_r⟩ := hq
            subst e_r
            exact zRl hx hb hr hlk w dX7_nudge_95 (Nat.le_of_ble_eq_true rfl) (Nat.le_of_ble_eq_true rfl) (by show (if _ then _ else _); rw [if_neg (fun q => p_k q.2.2)]; exact ⟨rfl, rfl⟩)
      · refine lv_iload hx hb dX7_nudge_55 (lv_at hl 4 rfl) ?_
        refine lv_bipush (v := 9) hx hb dX7_nudge_57 (by decide) ?_
        refine lv_icmp_ge (tgt := 66) hx hb dX7_nudge_59 (by decide) (fun c_12 => ?_) (fun c_12 => ?_)
        · refine lv_iconst (v := 0) hx hb dX7_nudge_66 (by decide) ?_
          have p_k : ¬ mKn t how := by simp [mKn, c_1, c_2, c_3, c_12]
          refine lv_istore (lv' := [(6, .int 0), (0, .ref (ad 0)), (1, .int d), (2, .int t), (3, .int i), (4, .int how), (5, .int x)]) hx hb dX7_nudge_67 hl (by decide) rfl (fun ls hl => ?_)
          refine lv_iload_n hx hb dX7_nudge_69 rfl (lv_at hl 2 rfl) ?_
          refine zCi w (va_runS (As := [.int d]) (rest := []) ⟨hx, hb, hml, hown, hts⟩ (kX7_isFour l G _ d s.heap.size) (va_cwS 1 hts gX7_nudge_X7_isFour rfl rfl rfl (by decide +kernel) ⟨(Nat.le_of_ble_eq_true rfl), (Nat.le_of_ble_eq_true rfl)⟩) (zPS w hK) rfl rfl hl.1 rfl (lv_room (Nat.le_of_ble_eq_true rfl)) dX7_nudge_70 ⟨(Nat.le_of_ble_eq_true rfl), (Nat.le_of_ble_eq_true rfl)⟩) (fun r_13 u H locs hq w => ?_)
          obtain ⟨rfl, e_r_13⟩ := hq
          refine lv_if_eq (tgt := 88) hx hb dX7_nudge_73 (by decide) (fun c_14 => ?_) (fun c_14 => ?_)
          · have p_d := z00 inferInstance e_r_13 c_14
            refine lv_aload_n hx hb dX7_nudge_88 rfl (lv_at hl 1 rfl) ?_
            refine lv_ldc2 hx hb hown (hts (.constantLong RX7 59 (1099511627776)) (by decide +kernel)) dX7_nudge_89 ?_
            refine zCl w (va_runV (As := [.long 1099511627776]) (rest := []) ⟨hx, hb, hml, hown, hts⟩ (kX7_refuse l G ad zNONE zW1 H.size) (cwV 1 hts gX7_nudge_X7_refuse rfl rfl rfl (by decide +kernel) ⟨(Nat.le_of_ble_eq_true rfl), (Nat.le_of_ble_eq_true rfl)⟩) (zPV w hK (va_recv hK.1 w.1 (ci := 6) (q0 := 0) rfl rfl)) rfl rfl hl.1 rfl (lv_room (Nat.le_of_ble_eq_true rfl)) dX7_nudge_92 ⟨(Nat.le_of_ble_eq_true rfl), (Nat.le_of_ble_eq_true rfl)⟩) (fun r_15 u H locs hq w => ?_)
            obtain ⟨rfl, e_r⟩ := hq
            subst e_r
            exact zRl hx hb hr hlk w dX7_nudge_95 (Nat.le_of_ble_eq_true rfl) (Nat.le_of_ble_eq_true rfl) (by show (if _ then _ else _); rw [if_neg (fun q => p_k q.2.2)]; exact ⟨rfl, rfl⟩)
          · have p_d := z01 inferInstance e_r_13 c_14
            refine lv_iload_n hx hb dX7_nudge_76 rfl (lv_at hl 3 rfl) ?_
            refine zCi w (va_runS (As := [.int t]) (rest := []) ⟨hx, hb, hml, hown, hts⟩ (kX7_isFour l G _ t H.size) (va_cwS 1 hts gX7_nudge_X7_isFour rfl rfl rfl (by decide +kernel) ⟨(Nat.le_of_ble_eq_true rfl), (Nat.le_of_ble_eq_true rfl)⟩) (zPS w hK) rfl rfl hl.1 rfl (lv_room (Nat.le_of_ble_eq_true rfl)) dX7_nudge_77 ⟨(Nat.le_of_ble_eq_true rfl), (Nat.le_of_ble_eq_true rfl)⟩) (fun r_16 u H locs hq w => ?_)
            obtain ⟨rfl, e_r_16⟩ := hq
            refine lv_if_eq (tgt := 88) hx hb dX7_nudge_80 (by decide) (fun c_17 => ?_) (fun c_17 => ?_)
            · have p_t := z00 inferInstance e_r_16 c_17
              refine lv_aload_n hx hb dX7_nudge_88 rfl (lv_at hl 1 rfl) ?_
              refine lv_ldc2 hx hb hown (hts (.constantLong RX7 59 (1099511627776)) (by decide +kernel)) dX7_nudge_89 ?_
              refine zCl w (va_runV (As := [.long 1099511627776]) (rest := []) ⟨hx, hb, hml, hown, hts⟩ (kX7_refuse l G ad zNONE zW1 H.size) (cwV 1 hts gX7_nudge_X7_refuse rfl rfl rfl (by decide +kernel) ⟨(Nat.le_of_ble_eq_true rfl), (Nat.le_of_ble_eq_true rfl)⟩) (zPV w hK (va_recv hK.1 w.1 (ci := 6) (q0 := 0) rfl rfl)) rfl rfl hl.1 rfl (lv_room (Nat.le_of_ble_eq_true rfl)) dX7_nudge_92 ⟨(Nat.le_of_ble_eq_true rfl), (Nat.le_of_ble_eq_true rfl)⟩) (fun r_18 u H locs hq w => ?_)
              obtain ⟨rfl, e_r⟩ := hq
              subst e_r
              exact zRl hx hb hr hlk w dX7_nudge_95 (Nat.le_of_ble_eq_true rfl) (Nat.le_of_ble_eq_true rfl) (by show (if _ then _ else _); rw [if_neg (fun q => p_k q.2.2)]; exact ⟨rfl, rfl⟩)
            · have p_t := z01 inferInstance e_r_16 c_17
              refine lv_iload hx hb dX7_nudge_83 (lv_at hl 0 rfl) ?_
              refine lv_if_ne (tgt := 96) hx hb dX7_nudge_85 (by decide) (fun c_19 => absurd (by decide) c_19) (fun c_19 => ?_)
              refine lv_aload_n hx hb dX7_nudge_88 rfl (lv_at hl 1 rfl) ?_
              refine lv_ldc2 hx hb hown (hts (.constantLong RX7 59 (1099511627776)) (by decide +kernel)) dX7_nudge_89 ?_
              refine zCl w (va_runV (As := [.long 1099511627776]) (rest := []) ⟨hx, hb, hml, hown, hts⟩ (kX7_refuse l G ad zNONE zW1 H.size) (cwV 1 hts gX7_nudge_X7_refuse rfl rfl rfl (by decide +kernel) ⟨(Nat.le_of_ble_eq_true rfl), (Nat.le_of_ble_eq_true rfl)⟩) (zPV w hK (va_recv hK.1 w.1 (ci := 6) (q0 := 0) rfl rfl)) rfl rfl hl.1 rfl (lv_room (Nat.le_of_ble_eq_true rfl)) dX7_nudge_92 ⟨(Nat.le_of_ble_eq_true rfl), (Nat.le_of_ble_eq_true rfl)⟩) (fun r_20 u H locs hq w => ?_)
              obtain ⟨rfl, e_r⟩ := hq
              subst e_r
              exact zRl hx hb hr hlk w dX7_nudge_95 (Nat.le_of_ble_eq_true rfl) (Nat.le_of_ble_eq_true rfl) (by show (if _ then _ else _); rw [if_neg (fun q => p_k q.2.2)]; exact ⟨rfl, rfl⟩)
        · refine lv_iconst (v := 1) hx hb dX7_nudge_62 (by decide) ?_
          refine lv_goto (tgt := 67) hx hb dX7_nudge_63 (by decide) ?_
          have p_k : mKn t how := by simp [mKn, c_1, c_2, c_3, c_12]
          refine lv_istore (lv' := [(6, .int 1), (0, .ref (ad 0)), (1, .int d), (2, .int t), (3, .int i), (4, .int how), (5, .int x)]) hx hb dX7_nudge_67 hl (by decide) rfl (fun ls hl => ?_)
          refine lv_iload_n hx hb dX7_nudge_69 rfl (lv_at hl 2 rfl) ?_
          refine zCi w (va_runS (As := [.int d]) (rest := []) ⟨hx, hb, hml, hown, hts⟩ (kX7_isFour l G _ d s.heap.size) (va_cwS 1 hts gX7_nudge_X7_isFour rfl rfl rfl (by decide +kernel) ⟨(Nat.le_of_ble_eq_true rfl), (Nat.le_of_ble_eq_true rfl)⟩) (zPS w hK) rfl rfl hl.1 rfl (lv_room (Nat.le_of_ble_eq_true rfl)) dX7_nudge_70 ⟨(Nat.le_of_ble_eq_true rfl), (Nat.le_of_ble_eq_true rfl)⟩) (fun r_21 u H locs hq w => ?_)
          obtain ⟨rfl, e_r_21⟩ := hq
          refine lv_if_eq (tgt := 88) hx hb dX7_nudge_73 (by decide) (fun c_22 => ?_) (fun c_22 => ?_)
          · have p_d := z00 inferInstance e_r_21 c_22
            refine lv_aload_n hx hb dX7_nudge_88 rfl (lv_at hl 1 rfl) ?_
            refine lv_ldc2 hx hb hown (hts (.constantLong RX7 59 (1099511627776)) (by decide +kernel)) dX7_nudge_89 ?_
            refine zCl w (va_runV (As := [.long 1099511627776]) (rest := []) ⟨hx, hb, hml, hown, hts⟩ (kX7_refuse l G ad zNONE zW1 H.size) (cwV 1 hts gX7_nudge_X7_refuse rfl rfl rfl (by decide +kernel) ⟨(Nat.le_of_ble_eq_true rfl), (Nat.le_of_ble_eq_true rfl)⟩) (zPV w hK (va_recv hK.1 w.1 (ci := 6) (q0 := 0) rfl rfl)) rfl rfl hl.1 rfl (lv_room (Nat.le_of_ble_eq_true rfl)) dX7_nudge_92 ⟨(Nat.le_of_ble_eq_true rfl), (Nat.le_of_ble_eq_true rfl)⟩) (fun r_23 u H locs hq w => ?_)
            obtain ⟨rfl, e_r⟩ := hq
            subst e_r
            exact zRl hx hb hr hlk w dX7_nudge_95 (Nat.le_of_ble_eq_true rfl) (Nat.le_of_ble_eq_true rfl) (by show (if _ then _ else _); rw [if_neg (fun q => p_d q.1)]; exact ⟨rfl, rfl⟩)
          · have p_d := z01 inferInstance e_r_21 c_22
            refine lv_iload_n hx hb dX7_nudge_76 rfl (lv_at hl 3 rfl) ?_
            refine zCi w (va_runS (As := [.int t]) (rest := []) ⟨hx, hb, hml, hown, hts⟩ (kX7_isFour l G _ t H.size) (va_cwS 1 hts gX7_nudge_X7_isFour rfl rfl rfl (by decide +kernel) ⟨(Nat.le_of_ble_eq_true rfl), (Nat.le_of_ble_eq_true rfl)⟩) (zPS w hK) rfl rfl hl.1 rfl (lv_room (Nat.le_of_ble_eq_true rfl)) dX7_nudge_77 ⟨(Nat.le_of_ble_eq_true rfl), (Nat.le_of_ble_eq_true rfl)⟩) (fun r_24 u H locs hq w => ?_)
            obtain ⟨rfl, e_r_24⟩ := hq
            refine lv_if_eq (tgt := 88) hx hb dX7_nudge_80 (by decide) (fun c_25 => ?_) (fun c_25 => ?_)
            · have p_t := z00 inferInstance e_r_24 c_25
              refine lv_aload_n hx hb dX7_nudge_88 rfl (lv_at hl 1 rfl) ?_
              refine lv_ldc2 hx hb hown (hts (.constantLong RX7 59 (1099511627776)) (by decide +kernel)) dX7_nudge_89 ?_
              refine zCl w (va_runV (As := [.long 1099511627776]) (rest := []) ⟨hx, hb, hml, hown, hts⟩ (kX7_refuse l G ad zNONE zW1 H.size) (cwV 1 hts gX7_nudge_X7_refuse rfl rfl rfl (by decide +kernel) ⟨(Nat.le_of_ble_eq_true rfl), (Nat.le_of_ble_eq_true rfl)⟩) (zPV w hK (va_recv hK.1 w.1 (ci := 6) (q0 := 0) rfl rfl)) rfl rfl hl.1 rfl (lv_room (Nat.le_of_ble_eq_true rfl)) dX7_nudge_92 ⟨(Nat.le_of_ble_eq_true rfl), (Nat.le_of_ble_eq_true rfl)⟩) (fun r_26 u H locs hq w => ?_)
              obtain ⟨rfl, e_r⟩ := hq
              subst e_r
              exact zRl hx hb hr hlk w dX7_nudge_95 (Nat.le_of_ble_eq_true rfl) (Nat.le_of_ble_eq_true rfl) (by show (if _ then _ else _); rw [if_neg (fun q => p_t q.2.1)]; exact ⟨rfl, rfl⟩)
            · have p_t := z01 inferInstance e_r_24 c_25
              refine lv_iload hx hb dX7_nudge_83 (lv_at hl 0 rfl) ?_
              refine lv_if_ne (tgt := 96) hx hb dX7_nudge_85 (by decide) (fun c_27 => ?_) (fun c_27 => absurd c_27 (by decide))
              refine lv_aload_n hx hb dX7_nudge_96 rfl (lv_at hl 1 rfl) ?_
              refine zget (ci := 6) (C := RX7) (T := TX7) (N := 11) hx hb hts hown hK w (by decide +kernel) 0 rfl rfl 0 (by decide) (hts (.fieldLink RX7 7 "ReelBarnModel" "carried" "[I") (by decide +kernel)) (fun _ h9 => h9) rfl dX7_nudge_97 ?_
              refine lv_iconst (v := 4) hx hb dX7_nudge_100 (by decide) ?_
              refine lv_iload_n hx hb dX7_nudge_101 rfl (lv_at hl 2 rfl) ?_
              refine lv_imul hx hb dX7_nudge_102 ?_
              refine lv_iload_n hx hb dX7_nudge_103 rfl (lv_at hl 3 rfl) ?_
              refine lv_iadd hx hb dX7_nudge_104 ?_
              refine zm_iald hx hb hK w 1 rfl (mix_in p_d p_t) dX7_nudge_105 ?_
              refine lv_istore (lv' := [(7, .int (M 0 (((4 * d) + t).toNatClampNeg))), (6, .int 1), (0, .ref (ad 0)), (1, .int d), (2, .int t), (3, .int i), (4, .int how), (5, .int x)]) hx hb dX7_nudge_106 hl (by decide) rfl (fun ls hl => ?_)
              refine lv_aload_n hx hb dX7_nudge_108 rfl (lv_at hl 2 rfl) ?_
              refine lv_iload hx hb dX7_nudge_109 (lv_at hl 0 rfl) ?_
              refine lv_iload_n hx hb dX7_nudge_111 rfl (lv_at hl 5 rfl) ?_
              refine zCl w (va_runV (As := [.int (M 0 (((4 * d) + t).toNatClampNeg)), .int i]) (rest := []) ⟨hx, hb, hml, hown, hts⟩ (kX7_against l G ad hI (M 0 (mix d t)) i (hI.1 _ (mix_lt p_d p_t)) H.size) (cwV 2 hts gX7_nudge_X7_against rfl rfl rfl (by decide +kernel) ⟨(Nat.le_of_ble_eq_true rfl), (Nat.le_of_ble_eq_true rfl)⟩) (zPV w hK (va_recv hK.1 w.1 (ci := 6) (q0 := 0) rfl rfl)) rfl rfl hl.1 rfl (lv_room (Nat.le_of_ble_eq_true rfl)) dX7_nudge_112 ⟨(Nat.le_of_ble_eq_true rfl), (Nat.le_of_ble_eq_true rfl)⟩) (fun r_28 u H locs hq w => ?_)
              obtain ⟨rfl, e_r⟩ := hq
              subst e_r
              refine lv_lstore (lv' := [(8, .long (mAg M (M 0 (mix d t)) i)), (7, .int (M 0 (((4 * d) + t).toNatClampNeg))), (6, .int 1), (0, .ref (ad 0)), (1, .int d), (2, .int t), (3, .int i), (4, .int how), (5, .int x)]) hx hb dX7_nudge_115 hl (by decide) rfl (fun ls hl => ?_)
              refine lv_lload hx hb dX7_nudge_117 (lv_at hl 0 rfl) ?_
              refine lv_lconst (v := 0) hx hb dX7_nudge_119 (by decide) ?_
              refine W.lcmp hx hb dX7_nudge_120 ?_
              refine lv_if_eq (tgt := 131) hx hb dX7_nudge_121 (by decide) (fun c_29 => ?_) (fun c_29 => ?_)
              · have p_f := zcmp0 c_29
                obtain ⟨hv, hhs⟩ := mAg_0 p_f
                have hmP := hI.1 _ (mix_lt p_d p_t)
                have hat := mat_in hI hmP hv hhs
                have hfl := hI.2.2.2.2.1 _ (zin_lt hat)
                refine lv_iload hx hb dX7_nudge_131 (lv_at hl 7 rfl) ?_
                refine lv_iconst (v := 3) hx hb dX7_nudge_133 (by decide) ?_
                refine lv_icmp_ne (tgt := 150) hx hb dX7_nudge_134 (by decide) (fun c_30 => ?_) (fun c_30 => ?_)
                · have p_v : ¬ (how = 3 ∧ x = 0) := fun q => c_30 q.1
                  refine lv_bipush (v := 40) hx hb dX7_nudge_150 (by decide) ?_
                  refine lv_iload hx hb dX7_nudge_152 (lv_at hl 1 rfl) ?_
                  refine lv_imul hx hb dX7_nudge_154 ?_
                  refine lv_iload_n hx hb dX7_nudge_155 rfl (lv_at hl 6 rfl) ?_
                  refine lv_iadd hx hb dX7_nudge_156 ?_
                  refine lv_istore (lv' := [(10, .int ((40 * (M 0 (((4 * d) + t).toNatClampNeg))) + i)), (8, .long (mAg M (M 0 (mix d t)) i)), (7, .int (M 0 (((4 * d) + t).toNatClampNeg))), (6, .int 1), (0, .ref (ad 0)), (1, .int d), (2, .int t), (3, .int i), (4, .int how), (5, .int x)]) hx hb dX7_nudge_157 hl (by decide) rfl (fun ls hl => ?_)
                  refine lv_iload_n hx hb dX7_nudge_159 rfl (lv_at hl 6 rfl) ?_
                  refine lv_iconst (v := 2) hx hb dX7_nudge_160 (by decide) ?_
                  refine lv_icmp_ne (tgt := 211) hx hb dX7_nudge_161 (by decide) (fun c_31 => ?_) (fun c_31 => ?_)
                  · have p_2 := c_31
                    refine lv_aload_n hx hb dX7_nudge_211 rfl (lv_at hl 4 rfl) ?_
                    refine lv_iload_n hx hb dX7_nudge_212 rfl (lv_at hl 6 rfl) ?_
                    refine lv_iload hx hb dX7_nudge_213 (lv_at hl 2 rfl) ?_
                    refine lv_iload_n hx hb dX7_nudge_215 rfl (lv_at hl 7 rfl) ?_
                    refine lv_iload hx hb dX7_nudge_216 (lv_at hl 8 rfl) ?_
                    refine lv_aload_n hx hb dX7_nudge_218 rfl (lv_at hl 4 rfl) ?_
                    refine zget (ci := 6) (C := RX7) (T := TX7) (N := 11) hx hb hts hown hK w (by decide +kernel) 0 rfl rfl 4 (by decide) (hts (.fieldLink RX7 22 "ReelBarnModel" "whole" "[I") (by decide +kernel)) (fun _ h9 => h9) rfl dX7_nudge_219 ?_
                    refine lv_iload hx hb dX7_nudge_222 (lv_at hl 0 rfl) ?_
                    refine zm_iald hx hb hK w 5 rfl hat dX7_nudge_224 ?_
                    refine lv_iload_n hx hb dX7_nudge_225 rfl (lv_at hl 6 rfl) ?_
                    refine lv_iconst (v := 3) hx hb dX7_nudge_226 (by decide) ?_
                    refine lv_icmp_ne (tgt := 237) hx hb dX7_nudge_227 (by decide) (fun c_32 => ?_) (fun c_32 => ?_)
                    · have p_3 := c_32
                      refine lv_iload hx hb dX7_nudge_237 (lv_at hl 9 rfl) ?_
                      refine zCi w (va_runS (As := [.int how, .int (M 4 (((40 * (M 0 (((4 * d) + t).toNatClampNeg))) + i).toNatClampNeg)), .int x]) (rest := [.int i, .int (M 0 (((4 * d) + t).toNatClampNeg)), .int t, .ref (ad 0)]) ⟨hx, hb, hml, hown, hts⟩ (kX7_worked l G _ how (M 4 (mat (M 0 (mix d t)) i)) x (fun q => p_v ⟨q.1, q.2⟩) H.size) (va_cwS 3 hts gX7_nudge_X7_worked rfl rfl rfl (by decide +kernel) ⟨(Nat.le_of_ble_eq_true rfl), (Nat.le_of_ble_eq_true rfl)⟩) (zPS w hK) rfl rfl hl.1 rfl (lv_room (Nat.le_of_ble_eq_true rfl)) dX7_nudge_239 ⟨(Nat.le_of_ble_eq_true rfl), (Nat.le_of_ble_eq_true rfl)⟩) (fun r_33 u H locs hq w => ?_)
                      obtain ⟨rfl, e_r⟩ := hq
                      subst e_r
                      refine zCv w (va_runV (As := [.int t, .int (M 0 (((4 * d) + t).toNatClampNeg)), .int i, .int (zRek (M 4 (mat (M 0 (mix d t)) i)) how x)]) (rest := []) ⟨hx, hb, hml, hown, hts⟩ (kX7_fill l G ad t (M 0 (mix d t)) i (zRek (M 4 (mat (M 0 (mix d t)) i)) how x) hat H.size) (cwV 4 hts gX7_nudge_X7_fill rfl rfl rfl (by decide +kernel) ⟨(Nat.le_of_ble_eq_true rfl), (Nat.le_of_ble_eq_true rfl)⟩) (zPV w hK (va_recv hK.1 w.1 (ci := 6) (q0 := 0) rfl rfl)) rfl rfl hl.1 rfl (lv_room (Nat.le_of_ble_eq_true rfl)) dX7_nudge_242 ⟨(Nat.le_of_ble_eq_true rfl), (Nat.le_of_ble_eq_true rfl)⟩) (fun u H locs hq w => ?_)
                      subst hq
                      refine lv_aload_n hx hb dX7_nudge_245 rfl (lv_at hl 4 rfl) ?_
                      refine lv_iload_n hx hb dX7_nudge_246 rfl (lv_at hl 6 rfl) ?_
                      refine lv_iload hx hb dX7_nudge_247 (lv_at hl 2 rfl) ?_
                      refine lv_iload_n hx hb dX7_nudge_249 rfl (lv_at hl 7 rfl) ?_
                      refine zCl w (va_runV (As := [.int t, .int (M 0 (((4 * d) + t).toNatClampNeg)), .int i]) (rest := []) ⟨hx, hb, hml, hown, hts⟩ (kX7_told (M := (mFM M t (mat (M 0 (mix d t)) i) (zRek (M 4 (mat (M 0 (mix d t)) i)) how x))) (lev := (mFL lev t (mat (M 0 (mix d t)) i) (zEi (zRek (M 4 (mat (M 0 (mix d t)) i)) how x)))) l G ad t (M 0 (mix d t)) i hat (mFL_fin hfl (zn32 (zEi_fin _).notNaN)) H.size) (cwV 3 hts gX7_nudge_X7_told rfl rfl rfl (by decide +kernel) ⟨(Nat.le_of_ble_eq_true rfl), (Nat.le_of_ble_eq_true rfl)⟩) (zPV w hK (va_recv hK.1 w.1 (ci := 6) (q0 := 0) rfl rfl)) rfl rfl hl.1 rfl (lv_room (Nat.le_of_ble_eq_true rfl)) dX7_nudge_250 ⟨(Nat.le_of_ble_eq_true rfl), (Nat.le_of_ble_eq_true rfl)⟩) (fun r_34 u H locs hq w => ?_)
                      obtain ⟨rfl, e_r⟩ := hq
                      subst e_r
                      exact zRl hx hb hr hlk w dX7_nudge_253 (Nat.le_of_ble_eq_true rfl) (Nat.le_of_ble_eq_true rfl) (by show (if _ then _ else _); rw [if_pos ⟨p_d, p_t, p_k⟩]; (first | rw [if_pos p_f] | rw [if_neg p_f]); (first | rw [if_pos p_v] | rw [if_neg p_v]); (first | rw [if_pos p_2] | rw [if_neg p_2]); (try (first | rw [if_pos p_3] | rw [if_neg p_3])); exact ⟨rfl, rfl⟩)
                    · have p_3 := c_32
                      refine lv_iload hx hb dX7_nudge_230 (lv_at hl 9 rfl) ?_
                      refine lv_iconst (v := 1) hx hb dX7_nudge_232 (by decide) ?_
                      refine lv_iand hx hb dX7_nudge_233 ?_
                      refine lv_goto (tgt := 239) hx hb dX7_nudge_234 (by decide) ?_
                      refine zCi w (va_runS (As := [.int how, .int (M 4 (((40 * (M 0 (((4 * d) + t).toNatClampNeg))) + i).toNatClampNeg)), .int (x &&& 1)]) (rest := [.int i, .int (M 0 (((4 * d) + t).toNatClampNeg)), .int t, .ref (ad 0)]) ⟨hx, hb, hml, hown, hts⟩ (kX7_worked l G _ how (M 4 (mat (M 0 (mix d t)) i)) (x &&& 1) (mKn_dv p_k p_3) H.size) (va_cwS 3 hts gX7_nudge_X7_worked rfl rfl rfl (by decide +kernel) ⟨(Nat.le_of_ble_eq_true rfl), (Nat.le_of_ble_eq_true rfl)⟩) (zPS w hK) rfl rfl hl.1 rfl (lv_room (Nat.le_of_ble_eq_true rfl)) dX7_nudge_239 ⟨(Nat.le_of_ble_eq_true rfl), (Nat.le_of_ble_eq_true rfl)⟩) (fun r_35 u H locs hq w => ?_)
                      obtain ⟨rfl, e_r⟩ := hq
                      subst e_r
                      refine zCv w (va_runV (As := [.int t, .int (M 0 (((4 * d) + t).toNatClampNeg)), .int i, .int (zRek (M 4 (mat (M 0 (mix d t)) i)) how (x &&& 1))]) (rest := []) ⟨hx, hb, hml, hown, hts⟩ (kX7_fill l G ad t (M 0 (mix d t)) i (zRek (M 4 (mat (M 0 (mix d t)) i)) how (x &&& 1)) hat H.size) (cwV 4 hts gX7_nudge_X7_fill rfl rfl rfl (by decide +kernel) ⟨(Nat.le_of_ble_eq_true rfl), (Nat.le_of_ble_eq_true rfl)⟩) (zPV w hK (va_recv hK.1 w.1 (ci := 6) (q0 := 0) rfl rfl)) rfl rfl hl.1 rfl (lv_room (Nat.le_of_ble_eq_true rfl)) dX7_nudge_242 ⟨(Nat.le_of_ble_eq_true rfl), (Nat.le_of_ble_eq_true rfl)⟩) (fun u H locs hq w => ?_)
                      subst hq
                      refine lv_aload_n hx hb dX7_nudge_245 rfl (lv_at hl 4 rfl) ?_
                      refine lv_iload_n hx hb dX7_nudge_246 rfl (lv_at hl 6 rfl) ?_
                      refine lv_iload hx hb dX7_nudge_247 (lv_at hl 2 rfl) ?_
                      refine lv_iload_n hx hb dX7_nudge_249 rfl (lv_at hl 7 rfl) ?_
                      refine zCl w (va_runV (As := [.int t, .int (M 0 (((4 * d) + t).toNatClampNeg)), .int i]) (rest := []) ⟨hx, hb, hml, hown, hts⟩ (kX7_told (M := (mFM M t (mat (M 0 (mix d t)) i) (zRek (M 4 (mat (M 0 (mix d t)) i)) how (x &&& 1)))) (lev := (mFL lev t (mat (M 0 (mix d t)) i) (zEi (zRek (M 4 (mat (M 0 (mix d t)) i)) how (x &&& 1))))) l G ad t (M 0 (mix d t)) i hat (mFL_fin hfl (zn32 (zEi_fin _).notNaN)) H.size) (cwV 3 hts gX7_nudge_X7_told rfl rfl rfl (by decide +kernel) ⟨(Nat.le_of_ble_eq_true rfl), (Nat.le_of_ble_eq_true rfl)⟩) (zPV w hK (va_recv hK.1 w.1 (ci := 6) (q0 := 0) rfl rfl)) rfl rfl hl.1 rfl (lv_room (Nat.le_of_ble_eq_true rfl)) dX7_nudge_250 ⟨(Nat.le_of_ble_eq_true rfl), (Nat.le_of_ble_eq_true rfl)⟩) (fun r_36 u H locs hq w => ?_)
                      obtain ⟨rfl, e_r⟩ := hq
                      subst e_r
                      exact zRl hx hb hr hlk w dX7_nudge_253 (Nat.le_of_ble_eq_true rfl) (Nat.le_of_ble_eq_true rfl) (by show (if _ then _ else _); rw [if_pos ⟨p_d, p_t, p_k⟩]; (first | rw [if_pos p_f] | rw [if_neg p_f]); (first | rw [if_pos p_v] | rw [if_neg p_v]); (first | rw [if_pos p_2] | rw [if_neg p_2]); (try (first | rw [if_pos p_3] | rw [if_neg p_3])); exact ⟨rfl, rfl⟩)
                  · have p_2 := c_31
                    refine lv_aload_n hx hb dX7_nudge_164 rfl (lv_at hl 4 rfl) ?_
                    refine zget (ci := 6) (C := RX7) (T := TX7) (N := 11) hx hb hts hown hK w (by decide +kernel) 0 rfl rfl 5 (by decide) (hts (.fieldLink RX7 25 "ReelBarnModel" "level" "[F") (by decide +kernel)) (fun _ h9 => h9) rfl dX7_nudge_165 ?_
                    refine lv_iload hx hb dX7_nudge_168 (lv_at hl 0 rfl) ?_
                    refine lv_iload hx hb dX7_nudge_170 (lv_at hl 8 rfl) ?_
                    refine lv_if_ne (tgt := 191) hx hb dX7_nudge_172 (by decide) (fun c_37 => ?_) (fun c_37 => ?_)
                    · have p_h := c_37
                      refine lv_aload_n hx hb dX7_nudge_191 rfl (lv_at hl 4 rfl) ?_
                      refine zget (ci := 6) (C := RX7) (T := TX7) (N := 11) hx hb hts hown hK w (by decide +kernel) 0 rfl rfl 5 (by decide) (hts (.fieldLink RX7 25 "ReelBarnModel" "level" "[F") (by decide +kernel)) (fun _ h9 => h9) rfl dX7_nudge_192 ?_
                      refine lv_iload hx hb dX7_nudge_195 (lv_at hl 0 rfl) ?_
                      refine zm_fald hx hb hK w 6 rfl hat dX7_nudge_197 ?_
                      refine lv_iload hx hb dX7_nudge_198 (lv_at hl 9 rfl) ?_
                      refine zCf w (va_runS (As := [.int x]) (rest := [.float (lev (((40 * (M 0 (((4 * d) + t).toNatClampNeg))) + i).toNatClampNeg)), .int ((40 * (M 0 (((4 * d) + t).toNatClampNeg))) + i), .ref (ad 6)]) ⟨hx, hb, hml, hown, hts⟩ (kX7_eighth l G _ x H.size) (va_cwS 1 hts gX7_nudge_X7_eighth rfl rfl rfl (by decide +kernel) ⟨(Nat.le_of_ble_eq_true rfl), (Nat.le_of_ble_eq_true rfl)⟩) (zPS w hK) rfl rfl hl.1 rfl (lv_room (Nat.le_of_ble_eq_true rfl)) dX7_nudge_200 ⟨(Nat.le_of_ble_eq_true rfl), (Nat.le_of_ble_eq_true rfl)⟩) (fun r_38 u H locs hq w => ?_)
                      obtain ⟨rfl, e_r⟩ := hq
                      subst e_r
                      refine lv_fsub hx hb dX7_nudge_203 (zsub hfl (zEi_fin x)) ?_
                      refine zCf w (va_runS (As := [.float (FP.fsub (lev (((40 * (M 0 (((4 * d) + t).toNatClampNeg))) + i).toNatClampNeg)) (zEi x))]) (rest := [.int ((40 * (M 0 (((4 * d) + t).toNatClampNeg))) + i), .ref (ad 6)]) ⟨hx, hb, hml, hown, hts⟩ (kX7_held l G _ (FP.fsub (lev (((40 * (M 0 (((4 * d) + t).toNatClampNeg))) + i).toNatClampNeg)) (zEi x)) H.size) (va_cwS 1 hts gX7_nudge_X7_held rfl rfl rfl (by decide +kernel) ⟨(Nat.le_of_ble_eq_true rfl), (Nat.le_of_ble_eq_true rfl)⟩) (zPS w hK) rfl rfl hl.1 rfl (lv_room (Nat.le_of_ble_eq_true rfl)) dX7_nudge_204 ⟨(Nat.le_of_ble_eq_true rfl), (Nat.le_of_ble_eq_true rfl)⟩) (fun r_39 u H locs hq w => ?_)
                      obtain ⟨rfl, e_r⟩ := hq
                      subst e_r
                      refine zm_fast hx hb hK w 6 rfl hat dX7_nudge_207 (fun H locs w => ?_)
                      have w : zW G A s H locs (mW G ad M (vf_upd lev (((40 * (M 0 (((4 * d) + t).toNatClampNeg))) + i).toNatClampNeg) (zHe (FP.fsub (lev (((40 * (M 0 (((4 * d) + t).toNatClampNeg))) + i).toNatClampNeg)) (zEi x))))) := w
                      refine lv_goto (tgt := 245) hx hb dX7_nudge_208 (by decide) ?_
                      refine lv_aload_n hx hb dX7_nudge_245 rfl (lv_at hl 4 rfl) ?_
                      refine lv_iload_n hx hb dX7_nudge_246 rfl (lv_at hl 6 rfl) ?_
                      refine lv_iload hx hb dX7_nudge_247 (lv_at hl 2 rfl) ?_
                      refine lv_iload_n hx hb dX7_nudge_249 rfl (lv_at hl 7 rfl) ?_
                      refine zCl w (va_runV (As := [.int t, .int (M 0 (((4 * d) + t).toNatClampNeg)), .int i]) (rest := []) ⟨hx, hb, hml, hown, hts⟩ (kX7_told (M := M) (lev := (vf_upd lev (((40 * (M 0 (((4 * d) + t).toNatClampNeg))) + i).toNatClampNeg) (zHe (FP.fsub (lev (((40 * (M 0 (((4 * d) + t).toNatClampNeg))) + i).toNatClampNeg)) (zEi x))))) l G ad t (M 0 (mix d t)) i hat ((by show zFin (vf_upd lev _ _ _); unfold vf_upd; rw [if_pos rfl]; exact zHe_fin (zsub hfl (zEi_fin x)))) H.size) (cwV 3 hts gX7_nudge_X7_told rfl rfl rfl (by decide +kernel) ⟨(Nat.le_of_ble_eq_true rfl), (Nat.le_of_ble_eq_true rfl)⟩) (zPV w hK (va_recv hK.1 w.1 (ci := 6) (q0 := 0) rfl rfl)) rfl rfl hl.1 rfl (lv_room (Nat.le_of_ble_eq_true rfl)) dX7_nudge_250 ⟨(Nat.le_of_ble_eq_true rfl), (Nat.le_of_ble_eq_true rfl)⟩) (fun r_40 u H locs hq w => ?_)
                      obtain ⟨rfl, e_r⟩ := hq
                      subst e_r
                      exact zRl hx hb hr hlk w dX7_nudge_253 (Nat.le_of_ble_eq_true rfl) (Nat.le_of_ble_eq_true rfl) (by show (if _ then _ else _); rw [if_pos ⟨p_d, p_t, p_k⟩]; (first | rw [if_pos p_f] | rw [if_neg p_f]); (first | rw [if_pos p_v] | rw [if_neg p_v]); (first | rw [if_pos p_2] | rw [if_neg p_2]); (try (first | rw [if_pos p_h] | rw [if_neg p_h])); exact ⟨rfl, rfl⟩)
                    · have p_h := c_37
                      refine lv_aload_n hx hb dX7_nudge_175 rfl (lv_at hl 4 rfl) ?_
                      refine zget (ci := 6) (C := RX7) (T := TX7) (N := 11) hx hb hts hown hK w (by decide +kernel) 0 rfl rfl 5 (by decide) (hts (.fieldLink RX7 25 "ReelBarnModel" "level" "[F") (by decide +kernel)) (fun _ h9 => h9) rfl dX7_nudge_176 ?_
                      refine lv_iload hx hb dX7_nudge_179 (lv_at hl 0 rfl) ?_
                      refine zm_fald hx hb hK w 6 rfl hat dX7_nudge_181 ?_
                      refine lv_iload hx hb dX7_nudge_182 (lv_at hl 9 rfl) ?_
                      refine zCf w (va_runS (As := [.int x]) (rest := [.float (lev (((40 * (M 0 (((4 * d) + t).toNatClampNeg))) + i).toNatClampNeg)), .int ((40 * (M 0 (((4 * d) + t).toNatClampNeg))) + i), .ref (ad 6)]) ⟨hx, hb, hml, hown, hts⟩ (kX7_eighth l G _ x H.size) (va_cwS 1 hts gX7_nudge_X7_eighth rfl rfl rfl (by decide +kernel) ⟨(Nat.le_of_ble_eq_true rfl), (Nat.le_of_ble_eq_true rfl)⟩) (zPS w hK) rfl rfl hl.1 rfl (lv_room (Nat.le_of_ble_eq_true rfl)) dX7_nudge_184 ⟨(Nat.le_of_ble_eq_true rfl), (Nat.le_of_ble_eq_true rfl)⟩) (fun r_41 u H locs hq w => ?_)
                      obtain ⟨rfl, e_r⟩ := hq
                      subst e_r
                      refine lv_fadd hx hb dX7_nudge_187 (zadd hfl (zEi_fin x)) ?_
                      refine lv_goto (tgt := 204) hx hb dX7_nudge_188 (by decide) ?_
                      refine zCf w (va_runS (As := [.float (FP.fadd (lev (((40 * (M 0 (((4 * d) + t).toNatClampNeg))) + i).toNatClampNeg)) (zEi x))]) (rest := [.int ((40 * (M 0 (((4 * d) + t).toNatClampNeg))) + i), .ref (ad 6)]) ⟨hx, hb, hml, hown, hts⟩ (kX7_held l G _ (FP.fadd (lev (((40 * (M 0 (((4 * d) + t).toNatClampNeg))) + i).toNatClampNeg)) (zEi x)) H.size) (va_cwS 1 hts gX7_nudge_X7_held rfl rfl rfl (by decide +kernel) ⟨(Nat.le_of_ble_eq_true rfl), (Nat.le_of_ble_eq_true rfl)⟩) (zPS w hK) rfl rfl hl.1 rfl (lv_room (Nat.le_of_ble_eq_true rfl)) dX7_nudge_204 ⟨(Nat.le_of_ble_eq_true rfl), (Nat.le_of_ble_eq_true rfl)⟩) (fun r_42 u H locs hq w => ?_)
                      obtain ⟨rfl, e_r⟩ := hq
                      subst e_r
                      refine zm_fast hx hb hK w 6 rfl hat dX7_nudge_207 (fun H locs w => ?_)
                      have w : zW G A s H locs (mW G ad M (vf_upd lev (((40 * (M 0 (((4 * d) + t).toNatClampNeg))) + i).toNatClampNeg) (zHe (FP.fadd (lev (((40 * (M 0 (((4 * d) + t).toNatClampNeg))) + i).toNatClampNeg)) (zEi x))))) := w
                      refine lv_goto (tgt := 245) hx hb dX7_nudge_208 (by decide) ?_
                      refine lv_aload_n hx hb dX7_nudge_245 rfl (lv_at hl 4 rfl) ?_
                      refine lv_iload_n hx hb dX7_nudge_246 rfl (lv_at hl 6 rfl) ?_
                      refine lv_iload hx hb dX7_nudge_247 (lv_at hl 2 rfl) ?_
                      refine lv_iload_n hx hb dX7_nudge_249 rfl (lv_at hl 7 rfl) ?_
                      refine zCl w (va_runV (As := [.int t, .int (M 0 (((4 * d) + t).toNatClampNeg)), .int i]) (rest := []) ⟨hx, hb, hml, hown, hts⟩ (kX7_told (M := M) (lev := (vf_upd lev (((40 * (M 0 (((4 * d) + t).toNatClampNeg))) + i).toNatClampNeg) (zHe (FP.fadd (lev (((40 * (M 0 (((4 * d) + t).toNatClampNeg))) + i).toNatClampNeg)) (zEi x))))) l G ad t (M 0 (mix d t)) i hat ((by show zFin (vf_upd lev _ _ _); unfold vf_upd; rw [if_pos rfl]; exact zHe_fin (zadd hfl (zEi_fin x)))) H.size) (cwV 3 hts gX7_nudge_X7_told rfl rfl rfl (by decide +kernel) ⟨(Nat.le_of_ble_eq_true rfl), (Nat.le_of_ble_eq_true rfl)⟩) (zPV w hK (va_recv hK.1 w.1 (ci := 6) (q0 := 0) rfl rfl)) rfl rfl hl.1 rfl (lv_room (Nat.le_of_ble_eq_true rfl)) dX7_nudge_250 ⟨(Nat.le_of_ble_eq_true rfl), (Nat.le_of_ble_eq_true rfl)⟩) (fun r_43 u H locs hq w => ?_)
                      obtain ⟨rfl, e_r⟩ := hq
                      subst e_r
                      exact zRl hx hb hr hlk w dX7_nudge_253 (Nat.le_of_ble_eq_true rfl) (Nat.le_of_ble_eq_true rfl) (by show (if _ then _ else _); rw [if_pos ⟨p_d, p_t, p_k⟩]; (first | rw [if_pos p_f] | rw [if_neg p_f]); (first | rw [if_pos p_v] | rw [if_neg p_v]); (first | rw [if_pos p_2] | rw [if_neg p_2]); (try (first | rw [if_pos p_h] | rw [if_neg p_h])); exact ⟨rfl, rfl⟩)
                · have q_v := c_30
                  refine lv_iload hx hb dX7_nudge_137 (lv_at hl 8 rfl) ?_
                  refine lv_if_ne (tgt := 150) hx hb dX7_nudge_139 (by decide) (fun c_44 => ?_) (fun c_44 => ?_)
                  · have p_v : ¬ (how = 3 ∧ x = 0) := fun q => c_44 q.2
                    refine lv_bipush (v := 40) hx hb dX7_nudge_150 (by decide) ?_
                    refine lv_iload hx hb dX7_nudge_152 (lv_at hl 1 rfl) ?_
                    refine lv_imul hx hb dX7_nudge_154 ?_
                    refine lv_iload_n hx hb dX7_nudge_155 rfl (lv_at hl 6 rfl) ?_
                    refine lv_iadd hx hb dX7_nudge_156 ?_
                    refine lv_istore (lv' := [(10, .int ((40 * (M 0 (((4 * d) + t).toNatClampNeg))) + i)), (8, .long (mAg M (M 0 (mix d t)) i)), (7, .int (M 0 (((4 * d) + t).toNatClampNeg))), (6, .int 1), (0, .ref (ad 0)), (1, .int d), (2, .int t), (3, .int i), (4, .int how), (5, .int x)]) hx hb dX7_nudge_157 hl (by decide) rfl (fun ls hl => ?_)
                    refine lv_iload_n hx hb dX7_nudge_159 rfl (lv_at hl 6 rfl) ?_
                    refine lv_iconst (v := 2) hx hb dX7_nudge_160 (by decide) ?_
                    refine lv_icmp_ne (tgt := 211) hx hb dX7_nudge_161 (by decide) (fun c_45 => ?_) (fun c_45 => ?_)
                    · have p_2 := c_45
                      refine lv_aload_n hx hb dX7_nudge_211 rfl (lv_at hl 4 rfl) ?_
                      refine lv_iload_n hx hb dX7_nudge_212 rfl (lv_at hl 6 rfl) ?_
                      refine lv_iload hx hb dX7_nudge_213 (lv_at hl 2 rfl) ?_
                      refine lv_iload_n hx hb dX7_nudge_215 rfl (lv_at hl 7 rfl) ?_
                      refine lv_iload hx hb dX7_nudge_216 (lv_at hl 8 rfl) ?_
                      refine lv_aload_n hx hb dX7_nudge_218 rfl (lv_at hl 4 rfl) ?_
                      refine zget (ci := 6) (C := RX7) (T := TX7) (N := 11) hx hb hts hown hK w (by decide +kernel) 0 rfl rfl 4 (by decide) (hts (.fieldLink RX7 22 "ReelBarnModel" "whole" "[I") (by decide +kernel)) (fun _ h9 => h9) rfl dX7_nudge_219 ?_
                      refine lv_iload hx hb dX7_nudge_222 (lv_at hl 0 rfl) ?_
                      refine zm_iald hx hb hK w 5 rfl hat dX7_nudge_224 ?_
                      refine lv_iload_n hx hb dX7_nudge_225 rfl (lv_at hl 6 rfl) ?_
                      refine lv_iconst (v := 3) hx hb dX7_nudge_226 (by decide) ?_
                      refine lv_icmp_ne (tgt := 237) hx hb dX7_nudge_227 (by decide) (fun c_46 => ?_) (fun c_46 => ?_)
                      · have p_3 := c_46
                        refine lv_iload hx hb dX7_nudge_237 (lv_at hl 9 rfl) ?_
                        refine zCi w (va_runS (As := [.int how, .int (M 4 (((40 * (M 0 (((4 * d) + t).toNatClampNeg))) + i).toNatClampNeg)), .int x]) (rest := [.int i, .int (M 0 (((4 * d) + t).toNatClampNeg)), .int t, .ref (ad 0)]) ⟨hx, hb, hml, hown, hts⟩ (kX7_worked l G _ how (M 4 (mat (M 0 (mix d t)) i)) x (fun q => p_v ⟨q.1, q.2⟩) H.size) (va_cwS 3 hts gX7_nudge_X7_worked rfl rfl rfl (by decide +kernel) ⟨(Nat.le_of_ble_eq_true rfl), (Nat.le_of_ble_eq_true rfl)⟩) (zPS w hK) rfl rfl hl.1 rfl (lv_room (Nat.le_of_ble_eq_true rfl)) dX7_nudge_239 ⟨(Nat.le_of_ble_eq_true rfl), (Nat.le_of_ble_eq_true rfl)⟩) (fun r_47 u H locs hq w => ?_)
                        obtain ⟨rfl, e_r⟩ := hq
                        subst e_r
                        refine zCv w (va_runV (As := [.int t, .int (M 0 (((4 * d) + t).toNatClampNeg)), .int i, .int (zRek (M 4 (mat (M 0 (mix d t)) i)) how x)]) (rest := []) ⟨hx, hb, hml, hown, hts⟩ (kX7_fill l G ad t (M 0 (mix d t)) i (zRek (M 4 (mat (M 0 (mix d t)) i)) how x) hat H.size) (cwV 4 hts gX7_nudge_X7_fill rfl rfl rfl (by decide +kernel) ⟨(Nat.le_of_ble_eq_true rfl), (Nat.le_of_ble_eq_true rfl)⟩) (zPV w hK (va_recv hK.1 w.1 (ci := 6) (q0 := 0) rfl rfl)) rfl rfl hl.1 rfl (lv_room (Nat.le_of_ble_eq_true rfl)) dX7_nudge_242 ⟨(Nat.le_of_ble_eq_true rfl), (Nat.le_of_ble_eq_true rfl)⟩) (fun u H locs hq w => ?_)
                        subst hq
                        refine lv_aload_n hx hb dX7_nudge_245 rfl (lv_at hl 4 rfl) ?_
                        refine lv_iload_n hx hb dX7_nudge_246 rfl (lv_at hl 6 rfl) ?_
                        refine lv_iload hx hb dX7_nudge_247 (lv_at hl 2 rfl) ?_
                        refine lv_iload_n hx hb dX7_nudge_249 rfl (lv_at hl 7 rfl) ?_
                        refine zCl w (va_runV (As := [.int t, .int (M 0 (((4 * d) + t).toNatClampNeg)), .int i]) (rest := []) ⟨hx, hb, hml, hown, hts⟩ (kX7_told (M := (mFM M t (mat (M 0 (mix d t)) i) (zRek (M 4 (mat (M 0 (mix d t)) i)) how x))) (lev := (mFL lev t (mat (M 0 (mix d t)) i) (zEi (zRek (M 4 (mat (M 0 (mix d t)) i)) how x)))) l G ad t (M 0 (mix d t)) i hat (mFL_fin hfl (zn32 (zEi_fin _).notNaN)) H.size) (cwV 3 hts gX7_nudge_X7_told rfl rfl rfl (by decide +kernel) ⟨(Nat.le_of_ble_eq_true rfl), (Nat.le_of_ble_eq_true rfl)⟩) (zPV w hK (va_recv hK.1 w.1 (ci := 6) (q0 := 0) rfl rfl)) rfl rfl hl.1 rfl (lv_room (Nat.le_of_ble_eq_true rfl)) dX7_nudge_250 ⟨(Nat.le_of_ble_eq_true rfl), (Nat.le_of_ble_eq_true rfl)⟩) (fun r_48 u H locs hq w => ?_)
                        obtain ⟨rfl, e_r⟩ := hq
                        subst e_r
                        exact zRl hx hb hr hlk w dX7_nudge_253 (Nat.le_of_ble_eq_true rfl) (Nat.le_of_ble_eq_true rfl) (by show (if _ then _ else _); rw [if_pos ⟨p_d, p_t, p_k⟩]; (first | rw [if_pos p_f] | rw [if_neg p_f]); (first | rw [if_pos p_v] | rw [if_neg p_v]); (first | rw [if_pos p_2] | rw [if_neg p_2]); (try (first | rw [if_pos p_3] | rw [if_neg p_3])); exact ⟨rfl, rfl⟩)
                      · have p_3 := c_46
                        refine lv_iload hx hb dX7_nudge_230 (lv_at hl 9 rfl) ?_
                        refine lv_iconst (v := 1) hx hb dX7_nudge_232 (by decide) ?_
                        refine lv_iand hx hb dX7_nudge_233 ?_
                        refine lv_goto (tgt := 239) hx hb dX7_nudge_234 (by decide) ?_
                        refine zCi w (va_runS (As := [.int how, .int (M 4 (((40 * (M 0 (((4 * d) + t).toNatClampNeg))) + i).toNatClampNeg)), .int (x &&& 1)]) (rest := [.int i, .int (M 0 (((4 * d) + t).toNatClampNeg)), .int t, .ref (ad 0)]) ⟨hx, hb, hml, hown, hts⟩ (kX7_worked l G _ how (M 4 (mat (M 0 (mix d t)) i)) (x &&& 1) (mKn_dv p_k p_3) H.size) (va_cwS 3 hts gX7_nudge_X7_worked rfl rfl rfl (by decide +kernel) ⟨(Nat.le_of_ble_eq_true rfl), (Nat.le_of_ble_eq_true rfl)⟩) (zPS w hK) rfl rfl hl.1 rfl (lv_room (Nat.le_of_ble_eq_true rfl)) dX7_nudge_239 ⟨(Nat.le_of_ble_eq_true rfl), (Nat.le_of_ble_eq_true rfl)⟩) (fun r_49 u H locs hq w => ?_)
                        obtain ⟨rfl, e_r⟩ := hq
                        subst e_r
                        refine zCv w (va_runV (As := [.int t, .int (M 0 (((4 * d) + t).toNatClampNeg)), .int i, .int (zRek (M 4 (mat (M 0 (mix d t)) i)) how (x &&& 1))]) (rest := []) ⟨hx, hb, hml, hown, hts⟩ (kX7_fill l G ad t (M 0 (mix d t)) i (zRek (M 4 (mat (M 0 (mix d t)) i)) how (x &&& 1)) hat H.size) (cwV 4 hts gX7_nudge_X7_fill rfl rfl rfl (by decide +kernel) ⟨(Nat.le_of_ble_eq_true rfl), (Nat.le_of_ble_eq_true rfl)⟩) (zPV w hK (va_recv hK.1 w.1 (ci := 6) (q0 := 0) rfl rfl)) rfl rfl hl.1 rfl (lv_room (Nat.le_of_ble_eq_true rfl)) dX7_nudge_242 ⟨(Nat.le_of_ble_eq_true rfl), (Nat.le_of_ble_eq_true rfl)⟩) (fun u H locs hq w => ?_)
                        subst hq
                        refine lv_aload_n hx hb dX7_nudge_245 rfl (lv_at hl 4 rfl) ?_
                        refine lv_iload_n hx hb dX7_nudge_246 rfl (lv_at hl 6 rfl) ?_
                        refine lv_iload hx hb dX7_nudge_247 (lv_at hl 2 rfl) ?_
                        refine lv_iload_n hx hb dX7_nudge_249 rfl (lv_at hl 7 rfl) ?_
                        refine zCl w (va_runV (As := [.int t, .int (M 0 (((4 * d) + t).toNatClampNeg)), .int i]) (rest := []) ⟨hx, hb, hml, hown, hts⟩ (kX7_told (M := (mFM M t (mat (M 0 (mix d t)) i) (zRek (M 4 (mat (M 0 (mix d t)) i)) how (x &&& 1)))) (lev := (mFL lev t (mat (M 0 (mix d t)) i) (zEi (zRek (M 4 (mat (M 0 (mix d t)) i)) how (x &&& 1))))) l G ad t (M 0 (mix d t)) i hat (mFL_fin hfl (zn32 (zEi_fin _).notNaN)) H.size) (cwV 3 hts gX7_nudge_X7_told rfl rfl rfl (by decide +kernel) ⟨(Nat.le_of_ble_eq_true rfl), (Nat.le_of_ble_eq_true rfl)⟩) (zPV w hK (va_recv hK.1 w.1 (ci := 6) (q0 := 0) rfl rfl)) rfl rfl hl.1 rfl (lv_room (Nat.le_of_ble_eq_true rfl)) dX7_nudge_250 ⟨(Nat.le_of_ble_eq_true rfl), (Nat.le_of_ble_eq_true rfl)⟩) (fun r_50 u H locs hq w => ?_)
                        obtain ⟨rfl, e_r⟩ := hq
                        subst e_r
                        exact zRl hx hb hr hlk w dX7_nudge_253 (Nat.le_of_ble_eq_true rfl) (Nat.le_of_ble_eq_true rfl) (by show (if _ then _ else _); rw [if_pos ⟨p_d, p_t, p_k⟩]; (first | rw [if_pos p_f] | rw [if_neg p_f]); (first | rw [if_pos p_v] | rw [if_neg p_v]); (first | rw [if_pos p_2] | rw [if_neg p_2]); (try (first | rw [if_pos p_3] | rw [if_neg p_3])); exact ⟨rfl, rfl⟩)
                    · have p_2 := c_45
                      refine lv_aload_n hx hb dX7_nudge_164 rfl (lv_at hl 4 rfl) ?_
                      refine zget (ci := 6) (C := RX7) (T := TX7) (N := 11) hx hb hts hown hK w (by decide +kernel) 0 rfl rfl 5 (by decide) (hts (.fieldLink RX7 25 "ReelBarnModel" "level" "[F") (by decide +kernel)) (fun _ h9 => h9) rfl dX7_nudge_165 ?_
                      refine lv_iload hx hb dX7_nudge_168 (lv_at hl 0 rfl) ?_
                      refine lv_iload hx hb dX7_nudge_170 (lv_at hl 8 rfl) ?_
                      refine lv_if_ne (tgt := 191) hx hb dX7_nudge_172 (by decide) (fun c_51 => ?_) (fun c_51 => ?_)
                      · have p_h := c_51
                        refine lv_aload_n hx hb dX7_nudge_191 rfl (lv_at hl 4 rfl) ?_
                        refine zget (ci := 6) (C := RX7) (T := TX7) (N := 11) hx hb hts hown hK w (by decide +kernel) 0 rfl rfl 5 (by decide) (hts (.fieldLink RX7 25 "ReelBarnModel" "level" "[F") (by decide +kernel)) (fun _ h9 => h9) rfl dX7_nudge_192 ?_
                        refine lv_iload hx hb dX7_nudge_195 (lv_at hl 0 rfl) ?_
                        refine zm_fald hx hb hK w 6 rfl hat dX7_nudge_197 ?_
                        refine lv_iload hx hb dX7_nudge_198 (lv_at hl 9 rfl) ?_
                        refine zCf w (va_runS (As := [.int x]) (rest := [.float (lev (((40 * (M 0 (((4 * d) + t).toNatClampNeg))) + i).toNatClampNeg)), .int ((40 * (M 0 (((4 * d) + t).toNatClampNeg))) + i), .ref (ad 6)]) ⟨hx, hb, hml, hown, hts⟩ (kX7_eighth l G _ x H.size) (va_cwS 1 hts gX7_nudge_X7_eighth rfl rfl rfl (by decide +kernel) ⟨(Nat.le_of_ble_eq_true rfl), (Nat.le_of_ble_eq_true rfl)⟩) (zPS w hK) rfl rfl hl.1 rfl (lv_room (Nat.le_of_ble_eq_true rfl)) dX7_nudge_200 ⟨(Nat.le_of_ble_eq_true rfl), (Nat.le_of_ble_eq_true rfl)⟩) (fun r_52 u H locs hq w => ?_)
                        obtain ⟨rfl, e_r⟩ := hq
                        subst e_r
                        refine lv_fsub hx hb dX7_nudge_203 (zsub hfl (zEi_fin x)) ?_
                        refine zCf w (va_runS (As := [.float (FP.fsub (lev (((40 * (M 0 (((4 * d) + t).toNatClampNeg))) + i).toNatClampNeg)) (zEi x))]) (rest := [.int ((40 * (M 0 (((4 * d) + t).toNatClampNeg))) + i), .ref (ad 6)]) ⟨hx, hb, hml, hown, hts⟩ (kX7_held l G _ (FP.fsub (lev (((40 * (M 0 (((4 * d) + t).toNatClampNeg))) + i).toNatClampNeg)) (zEi x)) H.size) (va_cwS 1 hts gX7_nudge_X7_held rfl rfl rfl (by decide +kernel) ⟨(Nat.le_of_ble_eq_true rfl), (Nat.le_of_ble_eq_true rfl)⟩) (zPS w hK) rfl rfl hl.1 rfl (lv_room (Nat.le_of_ble_eq_true rfl)) dX7_nudge_204 ⟨(Nat.le_of_ble_eq_true rfl), (Nat.le_of_ble_eq_true rfl)⟩) (fun r_53 u H locs hq w => ?_)
                        obtain ⟨rfl, e_r⟩ := hq
                        subst e_r
                        refine zm_fast hx hb hK w 6 rfl hat dX7_nudge_207 (fun H locs w => ?_)
                        have w : zW G A s H locs (mW G ad M (vf_upd lev (((40 * (M 0 (((4 * d) + t).toNatClampNeg))) + i).toNatClampNeg) (zHe (FP.fsub (lev (((40 * (M 0 (((4 * d) + t).toNatClampNeg))) + i).toNatClampNeg)) (zEi x))))) := w
                        refine lv_goto (tgt := 245) hx hb dX7_nudge_208 (by decide) ?_
                        refine lv_aload_n hx hb dX7_nudge_245 rfl (lv_at hl 4 rfl) ?_
                        refine lv_iload_n hx hb dX7_nudge_246 rfl (lv_at hl 6 rfl) ?_
                        refine lv_iload hx hb dX7_nudge_247 (lv_at hl 2 rfl) ?_
                        refine lv_iload_n hx hb dX7_nudge_249 rfl (lv_at hl 7 rfl) ?_
                        refine zCl w (va_runV (As := [.int t, .int (M 0 (((4 * d) + t).toNatClampNeg)), .int i]) (rest := []) ⟨hx, hb, hml, hown, hts⟩ (kX7_told (M := M) (lev := (vf_upd lev (((40 * (M 0 (((4 * d) + t).toNatClampNeg))) + i).toNatClampNeg) (zHe (FP.fsub (lev (((40 * (M 0 (((4 * d) + t).toNatClampNeg))) + i).toNatClampNeg)) (zEi x))))) l G ad t (M 0 (mix d t)) i hat ((by show zFin (vf_upd lev _ _ _); unfold vf_upd; rw [if_pos rfl]; exact zHe_fin (zsub hfl (zEi_fin x)))) H.size) (cwV 3 hts gX7_nudge_X7_told rfl rfl rfl (by decide +kernel) ⟨(Nat.le_of_ble_eq_true rfl), (Nat.le_of_ble_eq_true rfl)⟩) (zPV w hK (va_recv hK.1 w.1 (ci := 6) (q0 := 0) rfl rfl)) rfl rfl hl.1 rfl (lv_room (Nat.le_of_ble_eq_true rfl)) dX7_nudge_250 ⟨(Nat.le_of_ble_eq_true rfl), (Nat.le_of_ble_eq_true rfl)⟩) (fun r_54 u H locs hq w => ?_)
                        obtain ⟨rfl, e_r⟩ := hq
                        subst e_r
                        exact zRl hx hb hr hlk w dX7_nudge_253 (Nat.le_of_ble_eq_true rfl) (Nat.le_of_ble_eq_true rfl) (by show (if _ then _ else _); rw [if_pos ⟨p_d, p_t, p_k⟩]; (first | rw [if_pos p_f] | rw [if_neg p_f]); (first | rw [if_pos p_v] | rw [if_neg p_v]); (first | rw [if_pos p_2] | rw [if_neg p_2]); (try (first | rw [if_pos p_h] | rw [if_neg p_h])); exact ⟨rfl, rfl⟩)
                      · have p_h := c_51
                        refine lv_aload_n hx hb dX7_nudge_175 rfl (lv_at hl 4 rfl) ?_
                        refine zget (ci := 6) (C := RX7) (T := TX7) (N := 11) hx hb hts hown hK w (by decide +kernel) 0 rfl rfl 5 (by decide) (hts (.fieldLink RX7 25 "ReelBarnModel" "level" "[F") (by decide +kernel)) (fun _ h9 => h9) rfl dX7_nudge_176 ?_
                        refine lv_iload hx hb dX7_nudge_179 (lv_at hl 0 rfl) ?_
                        refine zm_fald hx hb hK w 6 rfl hat dX7_nudge_181 ?_
                        refine lv_iload hx hb dX7_nudge_182 (lv_at hl 9 rfl) ?_
                        refine zCf w (va_runS (As := [.int x]) (rest := [.float (lev (((40 * (M 0 (((4 * d) + t).toNatClampNeg))) + i).toNatClampNeg)), .int ((40 * (M 0 (((4 * d) + t).toNatClampNeg))) + i), .ref (ad 6)]) ⟨hx, hb, hml, hown, hts⟩ (kX7_eighth l G _ x H.size) (va_cwS 1 hts gX7_nudge_X7_eighth rfl rfl rfl (by decide +kernel) ⟨(Nat.le_of_ble_eq_true rfl), (Nat.le_of_ble_eq_true rfl)⟩) (zPS w hK) rfl rfl hl.1 rfl (lv_room (Nat.le_of_ble_eq_true rfl)) dX7_nudge_184 ⟨(Nat.le_of_ble_eq_true rfl), (Nat.le_of_ble_eq_true rfl)⟩) (fun r_55 u H locs hq w => ?_)
                        obtain ⟨rfl, e_r⟩ := hq
                        subst e_r
                        refine lv_fadd hx hb dX7_nudge_187 (zadd hfl (zEi_fin x)) ?_
                        refine lv_goto (tgt := 204) hx hb dX7_nudge_188 (by decide) ?_
                        refine zCf w (va_runS (As := [.float (FP.fadd (lev (((40 * (M 0 (((4 * d) + t).toNatClampNeg))) + i).toNatClampNeg)) (zEi x))]) (rest := [.int ((40 * (M 0 (((4 * d) + t).toNatClampNeg))) + i), .ref (ad 6)]) ⟨hx, hb, hml, hown, hts⟩ (kX7_held l G _ (FP.fadd (lev (((40 * (M 0 (((4 * d) + t).toNatClampNeg))) + i).toNatClampNeg)) (zEi x)) H.size) (va_cwS 1 hts gX7_nudge_X7_held rfl rfl rfl (by decide +kernel) ⟨(Nat.le_of_ble_eq_true rfl), (Nat.le_of_ble_eq_true rfl)⟩) (zPS w hK) rfl rfl hl.1 rfl (lv_room (Nat.le_of_ble_eq_true rfl)) dX7_nudge_204 ⟨(Nat.le_of_ble_eq_true rfl), (Nat.le_of_ble_eq_true rfl)⟩) (fun r_56 u H locs hq w => ?_)
                        obtain ⟨rfl, e_r⟩ := hq
                        subst e_r
                        refine zm_fast hx hb hK w 6 rfl hat dX7_nudge_207 (fun H locs w => ?_)
                        have w : zW G A s H locs (mW G ad M (vf_upd lev (((40 * (M 0 (((4 * d) + t).toNatClampNeg))) + i).toNatClampNeg) (zHe (FP.fadd (lev (((40 * (M 0 (((4 * d) + t).toNatClampNeg))) + i).toNatClampNeg)) (zEi x))))) := w
                        refine lv_goto (tgt := 245) hx hb dX7_nudge_208 (by decide) ?_
                        refine lv_aload_n hx hb dX7_nudge_245 rfl (lv_at hl 4 rfl) ?_
                        refine lv_iload_n hx hb dX7_nudge_246 rfl (lv_at hl 6 rfl) ?_
                        refine lv_iload hx hb dX7_nudge_247 (lv_at hl 2 rfl) ?_
                        refine lv_iload_n hx hb dX7_nudge_249 rfl (lv_at hl 7 rfl) ?_
                        refine zCl w (va_runV (As := [.int t, .int (M 0 (((4 * d) + t).toNatClampNeg)), .int i]) (rest := []) ⟨hx, hb, hml, hown, hts⟩ (kX7_told (M := M) (lev := (vf_upd lev (((40 * (M 0 (((4 * d) + t).toNatClampNeg))) + i).toNatClampNeg) (zHe (FP.fadd (lev (((40 * (M 0 (((4 * d) + t).toNatClampNeg))) + i).toNatClampNeg)) (zEi x))))) l G ad t (M 0 (mix d t)) i hat ((by show zFin (vf_upd lev _ _ _); unfold vf_upd; rw [if_pos rfl]; exact zHe_fin (zadd hfl (zEi_fin x)))) H.size) (cwV 3 hts gX7_nudge_X7_told rfl rfl rfl (by decide +kernel) ⟨(Nat.le_of_ble_eq_true rfl), (Nat.le_of_ble_eq_true rfl)⟩) (zPV w hK (va_recv hK.1 w.1 (ci := 6) (q0 := 0) rfl rfl)) rfl rfl hl.1 rfl (lv_room (Nat.le_of_ble_eq_true rfl)) dX7_nudge_250 ⟨(Nat.le_of_ble_eq_true rfl), (Nat.le_of_ble_eq_true rfl)⟩) (fun r_57 u H locs hq w => ?_)
                        obtain ⟨rfl, e_r⟩ := hq
                        subst e_r
                        exact zRl hx hb hr hlk w dX7_nudge_253 (Nat.le_of_ble_eq_true rfl) (Nat.le_of_ble_eq_true rfl) (by show (if _ then _ else _); rw [if_pos ⟨p_d, p_t, p_k⟩]; (first | rw [if_pos p_f] | rw [if_neg p_f]); (first | rw [if_pos p_v] | rw [if_neg p_v]); (first | rw [if_pos p_2] | rw [if_neg p_2]); (try (first | rw [if_pos p_h] | rw [if_neg p_h])); exact ⟨rfl, rfl⟩)
                  · have p_v : how = 3 ∧ x = 0 := ⟨q_v, c_44⟩
                    refine lv_aload_n hx hb dX7_nudge_142 rfl (lv_at hl 3 rfl) ?_
                    refine lv_ldc2 hx hb hown (hts (.constantLong RX7 89 (6597069766656)) (by decide +kernel)) dX7_nudge_143 ?_
                    refine zCl w (va_runV (As := [.long 6597069766656]) (rest := []) ⟨hx, hb, hml, hown, hts⟩ (kX7_refuse l G ad zDIVIDED zW6 H.size) (cwV 1 hts gX7_nudge_X7_refuse rfl rfl rfl (by decide +kernel) ⟨(Nat.le_of_ble_eq_true rfl), (Nat.le_of_ble_eq_true rfl)⟩) (zPV w hK (va_recv hK.1 w.1 (ci := 6) (q0 := 0) rfl rfl)) rfl rfl hl.1 rfl (lv_room (Nat.le_of_ble_eq_true rfl)) dX7_nudge_146 ⟨(Nat.le_of_ble_eq_true rfl), (Nat.le_of_ble_eq_true rfl)⟩) (fun r_58 u H locs hq w => ?_)
                    obtain ⟨rfl, e_r⟩ := hq
                    subst e_r
                    exact zRl hx hb hr hlk w dX7_nudge_149 (Nat.le_of_ble_eq_true rfl) (Nat.le_of_ble_eq_true rfl) (by show (if _ then _ else _); rw [if_pos ⟨p_d, p_t, p_k⟩]; (first | rw [if_pos p_f] | rw [if_neg p_f]); (first | rw [if_pos p_v] | rw [if_neg p_v]); exact ⟨rfl, rfl⟩)
              · have p_f := zcmp1 c_29
                refine lv_aload_n hx hb dX7_nudge_124 rfl (lv_at hl 3 rfl) ?_
                refine lv_lload hx hb dX7_nudge_125 (lv_at hl 0 rfl) ?_
                refine zCl w (va_runV (As := [.long (mAg M (M 0 (mix d t)) i)]) (rest := []) ⟨hx, hb, hml, hown, hts⟩ (kX7_refuse l G ad (mAg M (M 0 (mix d t)) i) (mAg_why p_f) H.size) (cwV 1 hts gX7_nudge_X7_refuse rfl rfl rfl (by decide +kernel) ⟨(Nat.le_of_ble_eq_true rfl), (Nat.le_of_ble_eq_true rfl)⟩) (zPV w hK (va_recv hK.1 w.1 (ci := 6) (q0 := 0) rfl rfl)) rfl rfl hl.1 rfl (lv_room (Nat.le_of_ble_eq_true rfl)) dX7_nudge_127 ⟨(Nat.le_of_ble_eq_true rfl), (Nat.le_of_ble_eq_true rfl)⟩) (fun r_59 u H locs hq w => ?_)
                obtain ⟨rfl, e_r⟩ := hq
                subst e_r
                exact zRl hx hb hr hlk w dX7_nudge_130 (Nat.le_of_ble_eq_true rfl) (Nat.le_of_ble_eq_true rfl) (by show (if _ then _ else _); rw [if_pos ⟨p_d, p_t, p_k⟩]; (first | rw [if_pos p_f] | rw [if_neg p_f]); exact ⟨rfl, rfl⟩)
    · refine lv_iload hx hb dX7_nudge_29 (lv_at hl 4 rfl) ?_
      refine lv_iconst (v := 5) hx hb dX7_nudge_31 (by decide) ?_
      refine lv_icmp_le (tgt := 46) hx hb dX7_nudge_32 (by decide) (fun c_60 => ?_) (fun c_60 => ?_)
      · refine lv_iconst (v := 0) hx hb dX7_nudge_46 (by decide) ?_
        refine lv_goto (tgt := 67) hx hb dX7_nudge_47 (by decide) ?_
        have p_k : ¬ mKn t how := by simp [mKn, c_1, c_2, c_60]
        refine lv_istore (lv' := [(6, .int 0), (0, .ref (ad 0)), (1, .int d), (2, .int t), (3, .int i), (4, .int how), (5, .int x)]) hx hb dX7_nudge_67 hl (by decide) rfl (fun ls hl => ?_)
        refine lv_iload_n hx hb dX7_nudge_69 rfl (lv_at hl 2 rfl) ?_
        refine zCi w (va_runS (As := [.int d]) (rest := []) ⟨hx, hb, hml, hown, hts⟩ (kX7_isFour l G _ d s.heap.size) (va_cwS 1 hts gX7_nudge_X7_isFour rfl rfl rfl (by decide +kernel) ⟨(Nat.le_of_ble_eq_true rfl), (Nat.le_of_ble_eq_true rfl)⟩) (zPS w hK) rfl rfl hl.1 rfl (lv_room (Nat.le_of_ble_eq_true rfl)) dX7_nudge_70 ⟨(Nat.le_of_ble_eq_true rfl), (Nat.le_of_ble_eq_true rfl)⟩) (fun r_61 u H locs hq w => ?_)
        obtain ⟨rfl, e_r_61⟩ := hq
        refine lv_if_eq (tgt := 88) hx hb dX7_nudge_73 (by decide) (fun c_62 => ?_) (fun c_62 => ?_)
        · have p_d := z00 inferInstance e_r_61 c_62
          refine lv_aload_n hx hb dX7_nudge_88 rfl (lv_at hl 1 rfl) ?_
          refine lv_ldc2 hx hb hown (hts (.constantLong RX7 59 (1099511627776)) (by decide +kernel)) dX7_nudge_89 ?_
          refine zCl w (va_runV (As := [.long 1099511627776]) (rest := []) ⟨hx, hb, hml, hown, hts⟩ (kX7_refuse l G ad zNONE zW1 H.size) (cwV 1 hts gX7_nudge_X7_refuse rfl rfl rfl (by decide +kernel) ⟨(Nat.le_of_ble_eq_true rfl), (Nat.le_of_ble_eq_true rfl)⟩) (zPV w hK (va_recv hK.1 w.1 (ci := 6) (q0 := 0) rfl rfl)) rfl rfl hl.1 rfl (lv_room (Nat.le_of_ble_eq_true rfl)) dX7_nudge_92 ⟨(Nat.le_of_ble_eq_true rfl), (Nat.le_of_ble_eq_true rfl)⟩) (fun r_63 u H locs hq w => ?_)
          obtain ⟨rfl, e_r⟩ := hq
          subst e_r
          exact zRl hx hb hr hlk w dX7_nudge_95 (Nat.le_of_ble_eq_true rfl) (Nat.le_of_ble_eq_true rfl) (by show (if _ then _ else _); rw [if_neg (fun q => p_k q.2.2)]; exact ⟨rfl, rfl⟩)
        · have p_d := z01 inferInstance e_r_61 c_62
          refine lv_iload_n hx hb dX7_nudge_76 rfl (lv_at hl 3 rfl) ?_
          refine zCi w (va_runS (As := [.int t]) (rest := []) ⟨hx, hb, hml, hown, hts⟩ (kX7_isFour l G _ t H.size) (va_cwS 1 hts gX7_nudge_X7_isFour rfl rfl rfl (by decide +kernel) ⟨(Nat.le_of_ble_eq_true rfl), (Nat.le_of_ble_eq_true rfl)⟩) (zPS w hK) rfl rfl hl.1 rfl (lv_room (Nat.le_of_ble_eq_true rfl)) dX7_nudge_77 ⟨(Nat.le_of_ble_eq_true rfl), (Nat.le_of_ble_eq_true rfl)⟩) (fun r_64 u H locs hq w => ?_)
          obtain ⟨rfl, e_r_64⟩ := hq
          refine lv_if_eq (tgt := 88) hx hb dX7_nudge_80 (by decide) (fun c_65 => ?_) (fun c_65 => ?_)
          · have p_t := z00 inferInstance e_r_64 c_65
            refine lv_aload_n hx hb dX7_nudge_88 rfl (lv_at hl 1 rfl) ?_
            refine lv_ldc2 hx hb hown (hts (.constantLong RX7 59 (1099511627776)) (by decide +kernel)) dX7_nudge_89 ?_
            refine zCl w (va_runV (As := [.long 1099511627776]) (rest := []) ⟨hx, hb, hml, hown, hts⟩ (kX7_refuse l G ad zNONE zW1 H.size) (cwV 1 hts gX7_nudge_X7_refuse rfl rfl rfl (by decide +kernel) ⟨(Nat.le_of_ble_eq_true rfl), (Nat.le_of_ble_eq_true rfl)⟩) (zPV w hK (va_recv hK.1 w.1 (ci := 6) (q0 := 0) rfl rfl)) rfl rfl hl.1 rfl (lv_room (Nat.le_of_ble_eq_true rfl)) dX7_nudge_92 ⟨(Nat.le_of_ble_eq_true rfl), (Nat.le_of_ble_eq_true rfl)⟩) (fun r_66 u H locs hq w => ?_)
            obtain ⟨rfl, e_r⟩ := hq
            subst e_r
            exact zRl hx hb hr hlk w dX7_nudge_95 (Nat.le_of_ble_eq_true rfl) (Nat.le_of_ble_eq_true rfl) (by show (if _ then _ else _); rw [if_neg (fun q => p_k q.2.2)]; exact ⟨rfl, rfl⟩)
          · have p_t := z01 inferInstance e_r_64 c_65
            refine lv_iload hx hb dX7_nudge_83 (lv_at hl 0 rfl) ?_
            refine lv_if_ne (tgt := 96) hx hb dX7_nudge_85 (by decide) (fun c_67 => absurd (by decide) c_67) (fun c_67 => ?_)
            refine lv_aload_n hx hb dX7_nudge_88 rfl (lv_at hl 1 rfl) ?_
            refine lv_ldc2 hx hb hown (hts (.constantLong RX7 59 (1099511627776)) (by decide +kernel)) dX7_nudge_89 ?_
            refine zCl w (va_runV (As := [.long 1099511627776]) (rest := []) ⟨hx, hb, hml, hown, hts⟩ (kX7_refuse l G ad zNONE zW1 H.size) (cwV 1 hts gX7_nudge_X7_refuse rfl rfl rfl (by decide +kernel) ⟨(Nat.le_of_ble_eq_true rfl), (Nat.le_of_ble_eq_true rfl)⟩) (zPV w hK (va_recv hK.1 w.1 (ci := 6) (q0 := 0) rfl rfl)) rfl rfl hl.1 rfl (lv_room (Nat.le_of_ble_eq_true rfl)) dX7_nudge_92 ⟨(Nat.le_of_ble_eq_true rfl), (Nat.le_of_ble_eq_true rfl)⟩) (fun r_68 u H locs hq w => ?_)
            obtain ⟨rfl, e_r⟩ := hq
            subst e_r
            exact zRl hx hb hr hlk w dX7_nudge_95 (Nat.le_of_ble_eq_true rfl) (Nat.le_of_ble_eq_true rfl) (by show (if _ then _ else _); rw [if_neg (fun q => p_k q.2.2)]; exact ⟨rfl, rfl⟩)
      · refine lv_iload hx hb dX7_nudge_35 (lv_at hl 4 rfl) ?_
        refine lv_bipush (v := 9) hx hb dX7_nudge_37 (by decide) ?_
        refine lv_icmp_ge (tgt := 46) hx hb dX7_nudge_39 (by decide) (fun c_69 => ?_) (fun c_69 => ?_)
        · refine lv_iconst (v := 0) hx hb dX7_nudge_46 (by decide) ?_
          refine lv_goto (tgt := 67) hx hb dX7_nudge_47 (by decide) ?_
          have p_k : ¬ mKn t how := by simp [mKn, c_1, c_2, c_60, c_69]
          refine lv_istore (lv' := [(6, .int 0), (0, .ref (ad 0)), (1, .int d), (2, .int t), (3, .int i), (4, .int how), (5, .int x)]) hx hb dX7_nudge_67 hl (by decide) rfl (fun ls hl => ?_)
          refine lv_iload_n hx hb dX7_nudge_69 rfl (lv_at hl 2 rfl) ?_
          refine zCi w (va_runS (As := [.int d]) (rest := []) ⟨hx, hb, hml, hown, hts⟩ (kX7_isFour l G _ d s.heap.size) (va_cwS 1 hts gX7_nudge_X7_isFour rfl rfl rfl (by decide +kernel) ⟨(Nat.le_of_ble_eq_true rfl), (Nat.le_of_ble_eq_true rfl)⟩) (zPS w hK) rfl rfl hl.1 rfl (lv_room (Nat.le_of_ble_eq_true rfl)) dX7_nudge_70 ⟨(Nat.le_of_ble_eq_true rfl), (Nat.le_of_ble_eq_true rfl)⟩) (fun r_70 u H locs hq w => ?_)
          obtain ⟨rfl, e_r_70⟩ := hq
          refine lv_if_eq (tgt := 88) hx hb dX7_nudge_73 (by decide) (fun c_71 => ?_) (fun c_71 => ?_)
          · have p_d := z00 inferInstance e_r_70 c_71
            refine lv_aload_n hx hb dX7_nudge_88 rfl (lv_at hl 1 rfl) ?_
            refine lv_ldc2 hx hb hown (hts (.constantLong RX7 59 (1099511627776)) (by decide +kernel)) dX7_nudge_89 ?_
            refine zCl w (va_runV (As := [.long 1099511627776]) (rest := []) ⟨hx, hb, hml, hown, hts⟩ (kX7_refuse l G ad zNONE zW1 H.size) (cwV 1 hts gX7_nudge_X7_refuse rfl rfl rfl (by decide +kernel) ⟨(Nat.le_of_ble_eq_true rfl), (Nat.le_of_ble_eq_true rfl)⟩) (zPV w hK (va_recv hK.1 w.1 (ci := 6) (q0 := 0) rfl rfl)) rfl rfl hl.1 rfl (lv_room (Nat.le_of_ble_eq_true rfl)) dX7_nudge_92 ⟨(Nat.le_of_ble_eq_true rfl), (Nat.le_of_ble_eq_true rfl)⟩) (fun r_72 u H locs hq w => ?_)
            obtain ⟨rfl, e_r⟩ := hq
            subst e_r
            exact zRl hx hb hr hlk w dX7_nudge_95 (Nat.le_of_ble_eq_true rfl) (Nat.le_of_ble_eq_true rfl) (by show (if _ then _ else _); rw [if_neg (fun q => p_k q.2.2)]; exact ⟨rfl, rfl⟩)
          · have p_d := z01 inferInstance e_r_70 c_71
            refine lv_iload_n hx hb dX7_nudge_76 rfl (lv_at hl 3 rfl) ?_
            refine zCi w (va_runS (As := [.int t]) (rest := []) ⟨hx, hb, hml, hown, hts⟩ (kX7_isFour l G _ t H.size) (va_cwS 1 hts gX7_nudge_X7_isFour rfl rfl rfl (by decide +kernel) ⟨(Nat.le_of_ble_eq_true rfl), (Nat.le_of_ble_eq_true rfl)⟩) (zPS w hK) rfl rfl hl.1 rfl (lv_room (Nat.le_of_ble_eq_true rfl)) dX7_nudge_77 ⟨(Nat.le_of_ble_eq_true rfl), (Nat.le_of_ble_eq_true rfl)⟩) (fun r_73 u H locs hq w => ?_)
            obtain ⟨rfl, e_r_73⟩ := hq
            refine lv_if_eq (tgt := 88) hx hb dX7_nudge_80 (by decide) (fun c_74 => ?_) (fun c_74 => ?_)
            · have p_t := z00 inferInstance e_r_73 c_74
              refine lv_aload_n hx hb dX7_nudge_88 rfl (lv_at hl 1 rfl) ?_
              refine lv_ldc2 hx hb hown (hts (.constantLong RX7 59 (1099511627776)) (by decide +kernel)) dX7_nudge_89 ?_
              refine zCl w (va_runV (As := [.long 1099511627776]) (rest := []) ⟨hx, hb, hml, hown, hts⟩ (kX7_refuse l G ad zNONE zW1 H.size) (cwV 1 hts gX7_nudge_X7_refuse rfl rfl rfl (by decide +kernel) ⟨(Nat.le_of_ble_eq_true rfl), (Nat.le_of_ble_eq_true rfl)⟩) (zPV w hK (va_recv hK.1 w.1 (ci := 6) (q0 := 0) rfl rfl)) rfl rfl hl.1 rfl (lv_room (Nat.le_of_ble_eq_true rfl)) dX7_nudge_92 ⟨(Nat.le_of_ble_eq_true rfl), (Nat.le_of_ble_eq_true rfl)⟩) (fun r_75 u H locs hq w => ?_)
              obtain ⟨rfl, e_r⟩ := hq
              subst e_r
              exact zRl hx hb hr hlk w dX7_nudge_95 (Nat.le_of_ble_eq_true rfl) (Nat.le_of_ble_eq_true rfl) (by show (if _ then _ else _); rw [if_neg (fun q => p_k q.2.2)]; exact ⟨rfl, rfl⟩)
            · have p_t := z01 inferInstance e_r_73 c_74
              refine lv_iload hx hb dX7_nudge_83 (lv_at hl 0 rfl) ?_
              refine lv_if_ne (tgt := 96) hx hb dX7_nudge_85 (by decide) (fun c_76 => absurd (by decide) c_76) (fun c_76 => ?_)
              refine lv_aload_n hx hb dX7_nudge_88 rfl (lv_at hl 1 rfl) ?_
              refine lv_ldc2 hx hb hown (hts (.constantLong RX7 59 (1099511627776)) (by decide +kernel)) dX7_nudge_89 ?_
              refine zCl w (va_runV (As := [.long 1099511627776]) (rest := []) ⟨hx, hb, hml, hown, hts⟩ (kX7_refuse l G ad zNONE zW1 H.size) (cwV 1 hts gX7_nudge_X7_refuse rfl rfl rfl (by decide +kernel) ⟨(Nat.le_of_ble_eq_true rfl), (Nat.le_of_ble_eq_true rfl)⟩) (zPV w hK (va_recv hK.1 w.1 (ci := 6) (q0 := 0) rfl rfl)) rfl rfl hl.1 rfl (lv_room (Nat.le_of_ble_eq_true rfl)) dX7_nudge_92 ⟨(Nat.le_of_ble_eq_true rfl), (Nat.le_of_ble_eq_true rfl)⟩) (fun r_77 u H locs hq w => ?_)
              obtain ⟨rfl, e_r⟩ := hq
              subst e_r
              exact zRl hx hb hr hlk w dX7_nudge_95 (Nat.le_of_ble_eq_true rfl) (Nat.le_of_ble_eq_true rfl) (by show (if _ then _ else _); rw [if_neg (fun q => p_k q.2.2)]; exact ⟨rfl, rfl⟩)
        · refine lv_iconst (v := 1) hx hb dX7_nudge_42 (by decide) ?_
          refine lv_goto (tgt := 67) hx hb dX7_nudge_43 (by decide) ?_
          have p_k : mKn t how := by simp [mKn, c_1, c_2, c_60, c_69]
          refine lv_istore (lv' := [(6, .int 1), (0, .ref (ad 0)), (1, .int d), (2, .int t), (3, .int i), (4, .int how), (5, .int x)]) hx hb dX7_nudge_67 hl (by decide) rfl (fun ls hl => ?_)
          refine lv_iload_n hx hb dX7_nudge_69 rfl (lv_at hl 2 rfl) ?_
          refine zCi w (va_runS (As := [.int d]) (rest := []) ⟨hx, hb, hml, hown, hts⟩ (kX7_isFour l G _ d s.heap.size) (va_cwS 1 hts gX7_nudge_X7_isFour rfl rfl rfl (by decide +kernel) ⟨(Nat.le_of_ble_eq_true rfl), (Nat.le_of_ble_eq_true rfl)⟩) (zPS w hK) rfl rfl hl.1 rfl (lv_room (Nat.le_of_ble_eq_true rfl)) dX7_nudge_70 ⟨(Nat.le_of_ble_eq_true rfl), (Nat.le_of_ble_eq_true rfl)⟩) (fun r_78 u H locs hq w => ?_)
          obtain ⟨rfl, e_r_78⟩ := hq
          refine lv_if_eq (tgt := 88) hx hb dX7_nudge_73 (by decide) (fun c_79 => ?_) (fun c_79 => ?_)
          · have p_d := z00 inferInstance e_r_78 c_79
            refine lv_aload_n hx hb dX7_nudge_88 rfl (lv_at hl 1 rfl) ?_
            refine lv_ldc2 hx hb hown (hts (.constantLong RX7 59 (1099511627776)) (by decide +kernel)) dX7_nudge_89 ?_
            refine zCl w (va_runV (As := [.long 1099511627776]) (rest := []) ⟨hx, hb, hml, hown, hts⟩ (kX7_refuse l G ad zNONE zW1 H.size) (cwV 1 hts gX7_nudge_X7_refuse rfl rfl rfl (by decide +kernel) ⟨(Nat.le_of_ble_eq_true rfl), (Nat.le_of_ble_eq_true rfl)⟩) (zPV w hK (va_recv hK.1 w.1 (ci := 6) (q0 := 0) rfl rfl)) rfl rfl hl.1 rfl (lv_room (Nat.le_of_ble_eq_true rfl)) dX7_nudge_92 ⟨(Nat.le_of_ble_eq_true rfl), (Nat.le_of_ble_eq_true rfl)⟩) (fun r_80 u H locs hq w => ?_)
            obtain ⟨rfl, e_r⟩ := hq
            subst e_r
            exact zRl hx hb hr hlk w dX7_nudge_95 (Nat.le_of_ble_eq_true rfl) (Nat.le_of_ble_eq_true rfl) (by show (if _ then _ else _); rw [if_neg (fun q => p_d q.1)]; exact ⟨rfl, rfl⟩)
          · have p_d := z01 inferInstance e_r_78 c_79
            refine lv_iload_n hx hb dX7_nudge_76 rfl (lv_at hl 3 rfl) ?_
            refine zCi w (va_runS (As := [.int t]) (rest := []) ⟨hx, hb, hml, hown, hts⟩ (kX7_isFour l G _ t H.size) (va_cwS 1 hts gX7_nudge_X7_isFour rfl rfl rfl (by decide +kernel) ⟨(Nat.le_of_ble_eq_true rfl), (Nat.le_of_ble_eq_true rfl)⟩) (zPS w hK) rfl rfl hl.1 rfl (lv_room (Nat.le_of_ble_eq_true rfl)) dX7_nudge_77 ⟨(Nat.le_of_ble_eq_true rfl), (Nat.le_of_ble_eq_true rfl)⟩) (fun r_81 u H locs hq w => ?_)
            obtain ⟨rfl, e_r_81⟩ := hq
            refine lv_if_eq (tgt := 88) hx hb dX7_nudge_80 (by decide) (fun c_82 => ?_) (fun c_82 => ?_)
            · have p_t := z00 inferInstance e_r_81 c_82
              refine lv_aload_n hx hb dX7_nudge_88 rfl (lv_at hl 1 rfl) ?_
              refine lv_ldc2 hx hb hown (hts (.constantLong RX7 59 (1099511627776)) (by decide +kernel)) dX7_nudge_89 ?_
              refine zCl w (va_runV (As := [.long 1099511627776]) (rest := []) ⟨hx, hb, hml, hown, hts⟩ (kX7_refuse l G ad zNONE zW1 H.size) (cwV 1 hts gX7_nudge_X7_refuse rfl rfl rfl (by decide +kernel) ⟨(Nat.le_of_ble_eq_true rfl), (Nat.le_of_ble_eq_true rfl)⟩) (zPV w hK (va_recv hK.1 w.1 (ci := 6) (q0 := 0) rfl rfl)) rfl rfl hl.1 rfl (lv_room (Nat.le_of_ble_eq_true rfl)) dX7_nudge_92 ⟨(Nat.le_of_ble_eq_true rfl), (Nat.le_of_ble_eq_true rfl)⟩) (fun r_83 u H locs hq w => ?_)
              obtain ⟨rfl, e_r⟩ := hq
              subst e_r
              exact zRl hx hb hr hlk w dX7_nudge_95 (Nat.le_of_ble_eq_true rfl) (Nat.le_of_ble_eq_true rfl) (by show (if _ then _ else _); rw [if_neg (fun q => p_t q.2.1)]; exact ⟨rfl, rfl⟩)
            · have p_t := z01 inferInstance e_r_81 c_82
              refine lv_iload hx hb dX7_nudge_83 (lv_at hl 0 rfl) ?_
              refine lv_if_ne (tgt := 96) hx hb dX7_nudge_85 (by decide) (fun c_84 => ?_) (fun c_84 => absurd c_84 (by decide))
              refine lv_aload_n hx hb dX7_nudge_96 rfl (lv_at hl 1 rfl) ?_
              refine zget (ci := 6) (C := RX7) (T := TX7) (N := 11) hx hb hts hown hK w (by decide +kernel) 0 rfl rfl 0 (by decide) (hts (.fieldLink RX7 7 "ReelBarnModel" "carried" "[I") (by decide +kernel)) (fun _ h9 => h9) rfl dX7_nudge_97 ?_
              refine lv_iconst (v := 4) hx hb dX7_nudge_100 (by decide) ?_
              refine lv_iload_n hx hb dX7_nudge_101 rfl (lv_at hl 2 rfl) ?_
              refine lv_imul hx hb dX7_nudge_102 ?_
              refine lv_iload_n hx hb dX7_nudge_103 rfl (lv_at hl 3 rfl) ?_
              refine lv_iadd hx hb dX7_nudge_104 ?_
              refine zm_iald hx hb hK w 1 rfl (mix_in p_d p_t) dX7_nudge_105 ?_
              refine lv_istore (lv' := [(7, .int (M 0 (((4 * d) + t).toNatClampNeg))), (6, .int 1), (0, .ref (ad 0)), (1, .int d), (2, .int t), (3, .int i), (4, .int how), (5, .int x)]) hx hb dX7_nudge_106 hl (by decide) rfl (fun ls hl => ?_)
              refine lv_aload_n hx hb dX7_nudge_108 rfl (lv_at hl 2 rfl) ?_
              refine lv_iload hx hb dX7_nudge_109 (lv_at hl 0 rfl) ?_
              refine lv_iload_n hx hb dX7_nudge_111 rfl (lv_at hl 5 rfl) ?_
              refine zCl w (va_runV (As := [.int (M 0 (((4 * d) + t).toNatClampNeg)), .int i]) (rest := []) ⟨hx, hb, hml, hown, hts⟩ (kX7_against l G ad hI (M 0 (mix d t)) i (hI.1 _ (mix_lt p_d p_t)) H.size) (cwV 2 hts gX7_nudge_X7_against rfl rfl rfl (by decide +kernel) ⟨(Nat.le_of_ble_eq_true rfl), (Nat.le_of_ble_eq_true rfl)⟩) (zPV w hK (va_recv hK.1 w.1 (ci := 6) (q0 := 0) rfl rfl)) rfl rfl hl.1 rfl (lv_room (Nat.le_of_ble_eq_true rfl)) dX7_nudge_112 ⟨(Nat.le_of_ble_eq_true rfl), (Nat.le_of_ble_eq_true rfl)⟩) (fun r_85 u H locs hq w => ?_)
              obtain ⟨rfl, e_r⟩ := hq
              subst e_r
              refine lv_lstore (lv' := [(8, .long (mAg M (M 0 (mix d t)) i)), (7, .int (M 0 (((4 * d) + t).toNatClampNeg))), (6, .int 1), (0, .ref (ad 0)), (1, .int d), (2, .int t), (3, .int i), (4, .int how), (5, .int x)]) hx hb dX7_nudge_115 hl (by decide) rfl (fun ls hl => ?_)
              refine lv_lload hx hb dX7_nudge_117 (lv_at hl 0 rfl) ?_
              refine lv_lconst (v := 0) hx hb dX7_nudge_119 (by decide) ?_
              refine W.lcmp hx hb dX7_nudge_120 ?_
              refine lv_if_eq (tgt := 131) hx hb dX7_nudge_121 (by decide) (fun c_86 => ?_) (fun c_86 => ?_)
              · have p_f := zcmp0 c_86
                obtain ⟨hv, hhs⟩ := mAg_0 p_f
                have hmP := hI.1 _ (mix_lt p_d p_t)
                have hat := mat_in hI hmP hv hhs
                have hfl := hI.2.2.2.2.1 _ (zin_lt hat)
                refine lv_iload hx hb dX7_nudge_131 (lv_at hl 7 rfl) ?_
                refine lv_iconst (v := 3) hx hb dX7_nudge_133 (by decide) ?_
                refine lv_icmp_ne (tgt := 150) hx hb dX7_nudge_134 (by decide) (fun c_87 => ?_) (fun c_87 => ?_)
                · have p_v : ¬ (how = 3 ∧ x = 0) := fun q => c_87 q.1
                  refine lv_bipush (v := 40) hx hb dX7_nudge_150 (by decide) ?_
                  refine lv_iload hx hb dX7_nudge_152 (lv_at hl 1 rfl) ?_
                  refine lv_imul hx hb dX7_nudge_154 ?_
                  refine lv_iload_n hx hb dX7_nudge_155 rfl (lv_at hl 6 rfl) ?_
                  refine lv_iadd hx hb dX7_nudge_156 ?_
                  refine lv_istore (lv' := [(10, .int ((40 * (M 0 (((4 * d) + t).toNatClampNeg))) + i)), (8, .long (mAg M (M 0 (mix d t)) i)), (7, .int (M 0 (((4 * d) + t).toNatClampNeg))), (6, .int 1), (0, .ref (ad 0)), (1, .int d), (2, .int t), (3, .int i), (4, .int how), (5, .int x)]) hx hb dX7_nudge_157 hl (by decide) rfl (fun ls hl => ?_)
                  refine lv_iload_n hx hb dX7_nudge_159 rfl (lv_at hl 6 rfl) ?_
                  refine lv_iconst (v := 2) hx hb dX7_nudge_160 (by decide) ?_
                  refine lv_icmp_ne (tgt := 211) hx hb dX7_nudge_161 (by decide) (fun c_88 => ?_) (fun c_88 => ?_)
                  · have p_2 := c_88
                    refine lv_aload_n hx hb dX7_nudge_211 rfl (lv_at hl 4 rfl) ?_
                    refine lv_iload_n hx hb dX7_nudge_212 rfl (lv_at hl 6 rfl) ?_
                    refine lv_iload hx hb dX7_nudge_213 (lv_at hl 2 rfl) ?_
                    refine lv_iload_n hx hb dX7_nudge_215 rfl (lv_at hl 7 rfl) ?_
                    refine lv_iload hx hb dX7_nudge_216 (lv_at hl 8 rfl) ?_
                    refine lv_aload_n hx hb dX7_nudge_218 rfl (lv_at hl 4 rfl) ?_
                    refine zget (ci := 6) (C := RX7) (T := TX7) (N := 11) hx hb hts hown hK w (by decide +kernel) 0 rfl rfl 4 (by decide) (hts (.fieldLink RX7 22 "ReelBarnModel" "whole" "[I") (by decide +kernel)) (fun _ h9 => h9) rfl dX7_nudge_219 ?_
                    refine lv_iload hx hb dX7_nudge_222 (lv_at hl 0 rfl) ?_
                    refine zm_iald hx hb hK w 5 rfl hat dX7_nudge_224 ?_
                    refine lv_iload_n hx hb dX7_nudge_225 rfl (lv_at hl 6 rfl) ?_
                    refine lv_iconst (v := 3) hx hb dX7_nudge_226 (by decide) ?_
                    refine lv_icmp_ne (tgt := 237) hx hb dX7_nudge_227 (by decide) (fun c_89 => ?_) (fun c_89 => ?_)
                    · have p_3 := c_89
                      refine lv_iload hx hb dX7_nudge_237 (lv_at hl 9 rfl) ?_
                      refine zCi w (va_runS (As := [.int how, .int (M 4 (((40 * (M 0 (((4 * d) + t).toNatClampNeg))) + i).toNatClampNeg)), .int x]) (rest := [.int i, .int (M 0 (((4 * d) + t).toNatClampNeg)), .int t, .ref (ad 0)]) ⟨hx, hb, hml, hown, hts⟩ (kX7_worked l G _ how (M 4 (mat (M 0 (mix d t)) i)) x (fun q => p_v ⟨q.1, q.2⟩) H.size) (va_cwS 3 hts gX7_nudge_X7_worked rfl rfl rfl (by decide +kernel) ⟨(Nat.le_of_ble_eq_true rfl), (Nat.le_of_ble_eq_true rfl)⟩) (zPS w hK) rfl rfl hl.1 rfl (lv_room (Nat.le_of_ble_eq_true rfl)) dX7_nudge_239 ⟨(Nat.le_of_ble_eq_true rfl), (Nat.le_of_ble_eq_true rfl)⟩) (fun r_90 u H locs hq w => ?_)
                      obtain ⟨rfl, e_r⟩ := hq
                      subst e_r
                      refine zCv w (va_runV (As := [.int t, .int (M 0 (((4 * d) + t).toNatClampNeg)), .int i, .int (zRek (M 4 (mat (M 0 (mix d t)) i)) how x)]) (rest := []) ⟨hx, hb, hml, hown, hts⟩ (kX7_fill l G ad t (M 0 (mix d t)) i (zRek (M 4 (mat (M 0 (mix d t)) i)) how x) hat H.size) (cwV 4 hts gX7_nudge_X7_fill rfl rfl rfl (by decide +kernel) ⟨(Nat.le_of_ble_eq_true rfl), (Nat.le_of_ble_eq_true rfl)⟩) (zPV w hK (va_recv hK.1 w.1 (ci := 6) (q0 := 0) rfl rfl)) rfl rfl hl.1 rfl (lv_room (Nat.le_of_ble_eq_true rfl)) dX7_nudge_242 ⟨(Nat.le_of_ble_eq_true rfl), (Nat.le_of_ble_eq_true rfl)⟩) (fun u H locs hq w => ?_)
                      subst hq
                      refine lv_aload_n hx hb dX7_nudge_245 rfl (lv_at hl 4 rfl) ?_
                      refine lv_iload_n hx hb dX7_nudge_246 rfl (lv_at hl 6 rfl) ?_
                      refine lv_iload hx hb dX7_nudge_247 (lv_at hl 2 rfl) ?_
                      refine lv_iload_n hx hb dX7_nudge_249 rfl (lv_at hl 7 rfl) ?_
                      refine zCl w (va_runV (As := [.int t, .int (M 0 (((4 * d) + t).toNatClampNeg)), .int i]) (rest := []) ⟨hx, hb, hml, hown, hts⟩ (kX7_told (M := (mFM M t (mat (M 0 (mix d t)) i) (zRek (M 4 (mat (M 0 (mix d t)) i)) how x))) (lev := (mFL lev t (mat (M 0 (mix d t)) i) (zEi (zRek (M 4 (mat (M 0 (mix d t)) i)) how x)))) l G ad t (M 0 (mix d t)) i hat (mFL_fin hfl (zn32 (zEi_fin _).notNaN)) H.size) (cwV 3 hts gX7_nudge_X7_told rfl rfl rfl (by decide +kernel) ⟨(Nat.le_of_ble_eq_true rfl), (Nat.le_of_ble_eq_true rfl)⟩) (zPV w hK (va_recv hK.1 w.1 (ci := 6) (q0 := 0) rfl rfl)) rfl rfl hl.1 rfl (lv_room (Nat.le_of_ble_eq_true rfl)) dX7_nudge_250 ⟨(Nat.le_of_ble_eq_true rfl), (Nat.le_of_ble_eq_true rfl)⟩) (fun r_91 u H locs hq w => ?_)
                      obtain ⟨rfl, e_r⟩ := hq
                      subst e_r
                      exact zRl hx hb hr hlk w dX7_nudge_253 (Nat.le_of_ble_eq_true rfl) (Nat.le_of_ble_eq_true rfl) (by show (if _ then _ else _); rw [if_pos ⟨p_d, p_t, p_k⟩]; (first | rw [if_pos p_f] | rw [if_neg p_f]); (first | rw [if_pos p_v] | rw [if_neg p_v]); (first | rw [if_pos p_2] | rw [if_neg p_2]); (try (first | rw [if_pos p_3] | rw [if_neg p_3])); exact ⟨rfl, rfl⟩)
                    · have p_3 := c_89
                      refine lv_iload hx hb dX7_nudge_230 (lv_at hl 9 rfl) ?_
                      refine lv_iconst (v := 1) hx hb dX7_nudge_232 (by decide) ?_
                      refine lv_iand hx hb dX7_nudge_233 ?_
                      refine lv_goto (tgt := 239) hx hb dX7_nudge_234 (by decide) ?_
                      refine zCi w (va_runS (As := [.int how, .int (M 4 (((40 * (M 0 (((4 * d) + t).toNatClampNeg))) + i).toNatClampNeg)), .int (x &&& 1)]) (rest := [.int i, .int (M 0 (((4 * d) + t).toNatClampNeg)), .int t, .ref (ad 0)]) ⟨hx, hb, hml, hown, hts⟩ (kX7_worked l G _ how (M 4 (mat (M 0 (mix d t)) i)) (x &&& 1) (mKn_dv p_k p_3) H.size) (va_cwS 3 hts gX7_nudge_X7_worked rfl rfl rfl (by decide +kernel) ⟨(Nat.le_of_ble_eq_true rfl), (Nat.le_of_ble_eq_true rfl)⟩) (zPS w hK) rfl rfl hl.1 rfl (lv_room (Nat.le_of_ble_eq_true rfl)) dX7_nudge_239 ⟨(Nat.le_of_ble_eq_true rfl), (Nat.le_of_ble_eq_true rfl)⟩) (fun r_92 u H locs hq w => ?_)
                      obtain ⟨rfl, e_r⟩ := hq
                      subst e_r
                      refine zCv w (va_runV (As := [.int t, .int (M 0 (((4 * d) + t).toNatClampNeg)), .int i, .int (zRek (M 4 (mat (M 0 (mix d t)) i)) how (x &&& 1))]) (rest := []) ⟨hx, hb, hml, hown, hts⟩ (kX7_fill l G ad t (M 0 (mix d t)) i (zRek (M 4 (mat (M 0 (mix d t)) i)) how (x &&& 1)) hat H.size) (cwV 4 hts gX7_nudge_X7_fill rfl rfl rfl (by decide +kernel) ⟨(Nat.le_of_ble_eq_true rfl), (Nat.le_of_ble_eq_true rfl)⟩) (zPV w hK (va_recv hK.1 w.1 (ci := 6) (q0 := 0) rfl rfl)) rfl rfl hl.1 rfl (lv_room (Nat.le_of_ble_eq_true rfl)) dX7_nudge_242 ⟨(Nat.le_of_ble_eq_true rfl), (Nat.le_of_ble_eq_true rfl)⟩) (fun u H locs hq w => ?_)
                      subst hq
                      refine lv_aload_n hx hb dX7_nudge_245 rfl (lv_at hl 4 rfl) ?_
                      refine lv_iload_n hx hb dX7_nudge_246 rfl (lv_at hl 6 rfl) ?_
                      refine lv_iload hx hb dX7_nudge_247 (lv_at hl 2 rfl) ?_
                      refine lv_iload_n hx hb dX7_nudge_249 rfl (lv_at hl 7 rfl) ?_
                      refine zCl w (va_runV (As := [.int t, .int (M 0 (((4 * d) + t).toNatClampNeg)), .int i]) (rest := []) ⟨hx, hb, hml, hown, hts⟩ (kX7_told (M := (mFM M t (mat (M 0 (mix d t)) i) (zRek (M 4 (mat (M 0 (mix d t)) i)) how (x &&& 1)))) (lev := (mFL lev t (mat (M 0 (mix d t)) i) (zEi (zRek (M 4 (mat (M 0 (mix d t)) i)) how (x &&& 1))))) l G ad t (M 0 (mix d t)) i hat (mFL_fin hfl (zn32 (zEi_fin _).notNaN)) H.size) (cwV 3 hts gX7_nudge_X7_told rfl rfl rfl (by decide +kernel) ⟨(Nat.le_of_ble_eq_true rfl), (Nat.le_of_ble_eq_true rfl)⟩) (zPV w hK (va_recv hK.1 w.1 (ci := 6) (q0 := 0) rfl rfl)) rfl rfl hl.1 rfl (lv_room (Nat.le_of_ble_eq_true rfl)) dX7_nudge_250 ⟨(Nat.le_of_ble_eq_true rfl), (Nat.le_of_ble_eq_true rfl)⟩) (fun r_93 u H locs hq w => ?_)
                      obtain ⟨rfl, e_r⟩ := hq
                      subst e_r
                      exact zRl hx hb hr hlk w dX7_nudge_253 (Nat.le_of_ble_eq_true rfl) (Nat.le_of_ble_eq_true rfl) (by show (if _ then _ else _); rw [if_pos ⟨p_d, p_t, p_k⟩]; (first | rw [if_pos p_f] | rw [if_neg p_f]); (first | rw [if_pos p_v] | rw [if_neg p_v]); (first | rw [if_pos p_2] | rw [if_neg p_2]); (try (first | rw [if_pos p_3] | rw [if_neg p_3])); exact ⟨rfl, rfl⟩)
                  · have p_2 := c_88
                    refine lv_aload_n hx hb dX7_nudge_164 rfl (lv_at hl 4 rfl) ?_
                    refine zget (ci := 6) (C := RX7) (T := TX7) (N := 11) hx hb hts hown hK w (by decide +kernel) 0 rfl rfl 5 (by decide) (hts (.fieldLink RX7 25 "ReelBarnModel" "level" "[F") (by decide +kernel)) (fun _ h9 => h9) rfl dX7_nudge_165 ?_
                    refine lv_iload hx hb dX7_nudge_168 (lv_at hl 0 rfl) ?_
                    refine lv_iload hx hb dX7_nudge_170 (lv_at hl 8 rfl) ?_
                    refine lv_if_ne (tgt := 191) hx hb dX7_nudge_172 (by decide) (fun c_94 => ?_) (fun c_94 => ?_)
                    · have p_h := c_94
                      refine lv_aload_n hx hb dX7_nudge_191 rfl (lv_at hl 4 rfl) ?_
                      refine zget (ci := 6) (C := RX7) (T := TX7) (N := 11) hx hb hts hown hK w (by decide +kernel) 0 rfl rfl 5 (by decide) (hts (.fieldLink RX7 25 "ReelBarnModel" "level" "[F") (by decide +kernel)) (fun _ h9 => h9) rfl dX7_nudge_192 ?_
                      refine lv_iload hx hb dX7_nudge_195 (lv_at hl 0 rfl) ?_
                      refine zm_fald hx hb hK w 6 rfl hat dX7_nudge_197 ?_
                      refine lv_iload hx hb dX7_nudge_198 (lv_at hl 9 rfl) ?_
                      refine zCf w (va_runS (As := [.int x]) (rest := [.float (lev (((40 * (M 0 (((4 * d) + t).toNatClampNeg))) + i).toNatClampNeg)), .int ((40 * (M 0 (((4 * d) + t).toNatClampNeg))) + i), .ref (ad 6)]) ⟨hx, hb, hml, hown, hts⟩ (kX7_eighth l G _ x H.size) (va_cwS 1 hts gX7_nudge_X7_eighth rfl rfl rfl (by decide +kernel) ⟨(Nat.le_of_ble_eq_true rfl), (Nat.le_of_ble_eq_true rfl)⟩) (zPS w hK) rfl rfl hl.1 rfl (lv_room (Nat.le_of_ble_eq_true rfl)) dX7_nudge_200 ⟨(Nat.le_of_ble_eq_true rfl), (Nat.le_of_ble_eq_true rfl)⟩) (fun r_95 u H locs hq w => ?_)
                      obtain ⟨rfl, e_r⟩ := hq
                      subst e_r
                      refine lv_fsub hx hb dX7_nudge_203 (zsub hfl (zEi_fin x)) ?_
                      refine zCf w (va_runS (As := [.float (FP.fsub (lev (((40 * (M 0 (((4 * d) + t).toNatClampNeg))) + i).toNatClampNeg)) (zEi x))]) (rest := [.int ((40 * (M 0 (((4 * d) + t).toNatClampNeg))) + i), .ref (ad 6)]) ⟨hx, hb, hml, hown, hts⟩ (kX7_held l G _ (FP.fsub (lev (((40 * (M 0 (((4 * d) + t).toNatClampNeg))) + i).toNatClampNeg)) (zEi x)) H.size) (va_cwS 1 hts gX7_nudge_X7_held rfl rfl rfl (by decide +kernel) ⟨(Nat.le_of_ble_eq_true rfl), (Nat.le_of_ble_eq_true rfl)⟩) (zPS w hK) rfl rfl hl.1 rfl (lv_room (Nat.le_of_ble_eq_true rfl)) dX7_nudge_204 ⟨(Nat.le_of_ble_eq_true rfl), (Nat.le_of_ble_eq_true rfl)⟩) (fun r_96 u H locs hq w => ?_)
                      obtain ⟨rfl, e_r⟩ := hq
                      subst e_r
                      refine zm_fast hx hb hK w 6 rfl hat dX7_nudge_207 (fun H locs w => ?_)
                      have w : zW G A s H locs (mW G ad M (vf_upd lev (((40 * (M 0 (((4 * d) + t).toNatClampNeg))) + i).toNatClampNeg) (zHe (FP.fsub (lev (((40 * (M 0 (((4 * d) + t).toNatClampNeg))) + i).toNatClampNeg)) (zEi x))))) := w
                      refine lv_goto (tgt := 245) hx hb dX7_nudge_208 (by decide) ?_
                      refine lv_aload_n hx hb dX7_nudge_245 rfl (lv_at hl 4 rfl) ?_
                      refine lv_iload_n hx hb dX7_nudge_246 rfl (lv_at hl 6 rfl) ?_
                      refine lv_iload hx hb dX7_nudge_247 (lv_at hl 2 rfl) ?_
                      refine lv_iload_n hx hb dX7_nudge_249 rfl (lv_at hl 7 rfl) ?_
                      refine zCl w (va_runV (As := [.int t, .int (M 0 (((4 * d) + t).toNatClampNeg)), .int i]) (rest := []) ⟨hx, hb, hml, hown, hts⟩ (kX7_told (M := M) (lev := (vf_upd lev (((40 * (M 0 (((4 * d) + t).toNatClampNeg))) + i).toNatClampNeg) (zHe (FP.fsub (lev (((40 * (M 0 (((4 * d) + t).toNatClampNeg))) + i).toNatClampNeg)) (zEi x))))) l G ad t (M 0 (mix d t)) i hat ((by show zFin (vf_upd lev _ _ _); unfold vf_upd; rw [if_pos rfl]; exact zHe_fin (zsub hfl (zEi_fin x)))) H.size) (cwV 3 hts gX7_nudge_X7_told rfl rfl rfl (by decide +kernel) ⟨(Nat.le_of_ble_eq_true rfl), (Nat.le_of_ble_eq_true rfl)⟩) (zPV w hK (va_recv hK.1 w.1 (ci := 6) (q0 := 0) rfl rfl)) rfl rfl hl.1 rfl (lv_room (Nat.le_of_ble_eq_true rfl)) dX7_nudge_250 ⟨(Nat.le_of_ble_eq_true rfl), (Nat.le_of_ble_eq_true rfl)⟩) (fun r_97 u H locs hq w => ?_)
                      obtain ⟨rfl, e_r⟩ := hq
                      subst e_r
                      exact zRl hx hb hr hlk w dX7_nudge_253 (Nat.le_of_ble_eq_true rfl) (Nat.le_of_ble_eq_true rfl) (by show (if _ then _ else _); rw [if_pos ⟨p_d, p_t, p_k⟩]; (first | rw [if_pos p_f] | rw [if_neg p_f]); (first | rw [if_pos p_v] | rw [if_neg p_v]); (first | rw [if_pos p_2] | rw [if_neg p_2]); (try (first | rw [if_pos p_h] | rw [if_neg p_h])); exact ⟨rfl, rfl⟩)
                    · have p_h := c_94
                      refine lv_aload_n hx hb dX7_nudge_175 rfl (lv_at hl 4 rfl) ?_
                      refine zget (ci := 6) (C := RX7) (T := TX7) (N := 11) hx hb hts hown hK w (by decide +kernel) 0 rfl rfl 5 (by decide) (hts (.fieldLink RX7 25 "ReelBarnModel" "level" "[F") (by decide +kernel)) (fun _ h9 => h9) rfl dX7_nudge_176 ?_
                      refine lv_iload hx hb dX7_nudge_179 (lv_at hl 0 rfl) ?_
                      refine zm_fald hx hb hK w 6 rfl hat dX7_nudge_181 ?_
                      refine lv_iload hx hb dX7_nudge_182 (lv_at hl 9 rfl) ?_
                      refine zCf w (va_runS (As := [.int x]) (rest := [.float (lev (((40 * (M 0 (((4 * d) + t).toNatClampNeg))) + i).toNatClampNeg)), .int ((40 * (M 0 (((4 * d) + t).toNatClampNeg))) + i), .ref (ad 6)]) ⟨hx, hb, hml, hown, hts⟩ (kX7_eighth l G _ x H.size) (va_cwS 1 hts gX7_nudge_X7_eighth rfl rfl rfl (by decide +kernel) ⟨(Nat.le_of_ble_eq_true rfl), (Nat.le_of_ble_eq_true rfl)⟩) (zPS w hK) rfl rfl hl.1 rfl (lv_room (Nat.le_of_ble_eq_true rfl)) dX7_nudge_184 ⟨(Nat.le_of_ble_eq_true rfl), (Nat.le_of_ble_eq_true rfl)⟩) (fun r_98 u H locs hq w => ?_)
                      obtain ⟨rfl, e_r⟩ := hq
                      subst e_r
                      refine lv_fadd hx hb dX7_nudge_187 (zadd hfl (zEi_fin x)) ?_
                      refine lv_goto (tgt := 204) hx hb dX7_nudge_188 (by decide) ?_
                      refine zCf w (va_runS (As := [.float (FP.fadd (lev (((40 * (M 0 (((4 * d) + t).toNatClampNeg))) + i).toNatClampNeg)) (zEi x))]) (rest := [.int ((40 * (M 0 (((4 * d) + t).toNatClampNeg))) + i), .ref (ad 6)]) ⟨hx, hb, hml, hown, hts⟩ (kX7_held l G _ (FP.fadd (lev (((40 * (M 0 (((4 * d) + t).toNatClampNeg))) + i).toNatClampNeg)) (zEi x)) H.size) (va_cwS 1 hts gX7_nudge_X7_held rfl rfl rfl (by decide +kernel) ⟨(Nat.le_of_ble_eq_true rfl), (Nat.le_of_ble_eq_true rfl)⟩) (zPS w hK) rfl rfl hl.1 rfl (lv_room (Nat.le_of_ble_eq_true rfl)) dX7_nudge_204 ⟨(Nat.le_of_ble_eq_true rfl), (Nat.le_of_ble_eq_true rfl)⟩) (fun r_99 u H locs hq w => ?_)
                      obtain ⟨rfl, e_r⟩ := hq
                      subst e_r
                      refine zm_fast hx hb hK w 6 rfl hat dX7_nudge_207 (fun H locs w => ?_)
                      have w : zW G A s H locs (mW G ad M (vf_upd lev (((40 * (M 0 (((4 * d) + t).toNatClampNeg))) + i).toNatClampNeg) (zHe (FP.fadd (lev (((40 * (M 0 (((4 * d) + t).toNatClampNeg))) + i).toNatClampNeg)) (zEi x))))) := w
                      refine lv_goto (tgt := 245) hx hb dX7_nudge_208 (by decide) ?_
                      refine lv_aload_n hx hb dX7_nudge_245 rfl (lv_at hl 4 rfl) ?_
                      refine lv_iload_n hx hb dX7_nudge_246 rfl (lv_at hl 6 rfl) ?_
                      refine lv_iload hx hb dX7_nudge_247 (lv_at hl 2 rfl) ?_
                      refine lv_iload_n hx hb dX7_nudge_249 rfl (lv_at hl 7 rfl) ?_
                      refine zCl w (va_runV (As := [.int t, .int (M 0 (((4 * d) + t).toNatClampNeg)), .int i]) (rest := []) ⟨hx, hb, hml, hown, hts⟩ (kX7_told (M := M) (lev := (vf_upd lev (((40 * (M 0 (((4 * d) + t).toNatClampNeg))) + i).toNatClampNeg) (zHe (FP.fadd (lev (((40 * (M 0 (((4 * d) + t).toNatClampNeg))) + i).toNatClampNeg)) (zEi x))))) l G ad t (M 0 (mix d t)) i hat ((by show zFin (vf_upd lev _ _ _); unfold vf_upd; rw [if_pos rfl]; exact zHe_fin (zadd hfl (zEi_fin x)))) H.size) (cwV 3 hts gX7_nudge_X7_told rfl rfl rfl (by decide +kernel) ⟨(Nat.le_of_ble_eq_true rfl), (Nat.le_of_ble_eq_true rfl)⟩) (zPV w hK (va_recv hK.1 w.1 (ci := 6) (q0 := 0) rfl rfl)) rfl rfl hl.1 rfl (lv_room (Nat.le_of_ble_eq_true rfl)) dX7_nudge_250 ⟨(Nat.le_of_ble_eq_true rfl), (Nat.le_of_ble_eq_true rfl)⟩) (fun r_100 u H locs hq w => ?_)
                      obtain ⟨rfl, e_r⟩ := hq
                      subst e_r
                      exact zRl hx hb hr hlk w dX7_nudge_253 (Nat.le_of_ble_eq_true rfl) (Nat.le_of_ble_eq_true rfl) (by show (if _ then _ else _); rw [if_pos ⟨p_d, p_t, p_k⟩]; (first | rw [if_pos p_f] | rw [if_neg p_f]); (first | rw [if_pos p_v] | rw [if_neg p_v]); (first | rw [if_pos p_2] | rw [if_neg p_2]); (try (first | rw [if_pos p_h] | rw [if_neg p_h])); exact ⟨rfl, rfl⟩)
                · have q_v := c_87
                  refine lv_iload hx hb dX7_nudge_137 (lv_at hl 8 rfl) ?_
                  refine lv_if_ne (tgt := 150) hx hb dX7_nudge_139 (by decide) (fun c_101 => ?_) (fun c_101 => ?_)
                  · have p_v : ¬ (how = 3 ∧ x = 0) := fun q => c_101 q.2
                    refine lv_bipush (v := 40) hx hb dX7_nudge_150 (by decide) ?_
                    refine lv_iload hx hb dX7_nudge_152 (lv_at hl 1 rfl) ?_
                    refine lv_imul hx hb dX7_nudge_154 ?_
                    refine lv_iload_n hx hb dX7_nudge_155 rfl (lv_at hl 6 rfl) ?_
                    refine lv_iadd hx hb dX7_nudge_156 ?_
                    refine lv_istore (lv' := [(10, .int ((40 * (M 0 (((4 * d) + t).toNatClampNeg))) + i)), (8, .long (mAg M (M 0 (mix d t)) i)), (7, .int (M 0 (((4 * d) + t).toNatClampNeg))), (6, .int 1), (0, .ref (ad 0)), (1, .int d), (2, .int t), (3, .int i), (4, .int how), (5, .int x)]) hx hb dX7_nudge_157 hl (by decide) rfl (fun ls hl => ?_)
                    refine lv_iload_n hx hb dX7_nudge_159 rfl (lv_at hl 6 rfl) ?_
                    refine lv_iconst (v := 2) hx hb dX7_nudge_160 (by decide) ?_
                    refine lv_icmp_ne (tgt := 211) hx hb dX7_nudge_161 (by decide) (fun c_102 => ?_) (fun c_102 => ?_)
                    · have p_2 := c_102
                      refine lv_aload_n hx hb dX7_nudge_211 rfl (lv_at hl 4 rfl) ?_
                      refine lv_iload_n hx hb dX7_nudge_212 rfl (lv_at hl 6 rfl) ?_
                      refine lv_iload hx hb dX7_nudge_213 (lv_at hl 2 rfl) ?_
                      refine lv_iload_n hx hb dX7_nudge_215 rfl (lv_at hl 7 rfl) ?_
                      refine lv_iload hx hb dX7_nudge_216 (lv_at hl 8 rfl) ?_
                      refine lv_aload_n hx hb dX7_nudge_218 rfl (lv_at hl 4 rfl) ?_
                      refine zget (ci := 6) (C := RX7) (T := TX7) (N := 11) hx hb hts hown hK w (by decide +kernel) 0 rfl rfl 4 (by decide) (hts (.fieldLink RX7 22 "ReelBarnModel" "whole" "[I") (by decide +kernel)) (fun _ h9 => h9) rfl dX7_nudge_219 ?_
                      refine lv_iload hx hb dX7_nudge_222 (lv_at hl 0 rfl) ?_
                      refine zm_iald hx hb hK w 5 rfl hat dX7_nudge_224 ?_
                      refine lv_iload_n hx hb dX7_nudge_225 rfl (lv_at hl 6 rfl) ?_
                      refine lv_iconst (v := 3) hx hb dX7_nudge_226 (by decide) ?_
                      refine lv_icmp_ne (tgt := 237) hx hb dX7_nudge_227 (by decide) (fun c_103 => ?_) (fun c_103 => ?_)
                      · have p_3 := c_103
                        refine lv_iload hx hb dX7_nudge_237 (lv_at hl 9 rfl) ?_
                        refine zCi w (va_runS (As := [.int how, .int (M 4 (((40 * (M 0 (((4 * d) + t).toNatClampNeg))) + i).toNatClampNeg)), .int x]) (rest := [.int i, .int (M 0 (((4 * d) + t).toNatClampNeg)), .int t, .ref (ad 0)]) ⟨hx, hb, hml, hown, hts⟩ (kX7_worked l G _ how (M 4 (mat (M 0 (mix d t)) i)) x (fun q => p_v ⟨q.1, q.2⟩) H.size) (va_cwS 3 hts gX7_nudge_X7_worked rfl rfl rfl (by decide +kernel) ⟨(Nat.le_of_ble_eq_true rfl), (Nat.le_of_ble_eq_true rfl)⟩) (zPS w hK) rfl rfl hl.1 rfl (lv_room (Nat.le_of_ble_eq_true rfl)) dX7_nudge_239 ⟨(Nat.le_of_ble_eq_true rfl), (Nat.le_of_ble_eq_true rfl)⟩) (fun r_104 u H locs hq w => ?_)
                        obtain ⟨rfl, e_r⟩ := hq
                        subst e_r
                        refine zCv w (va_runV (As := [.int t, .int (M 0 (((4 * d) + t).toNatClampNeg)), .int i, .int (zRek (M 4 (mat (M 0 (mix d t)) i)) how x)]) (rest := []) ⟨hx, hb, hml, hown, hts⟩ (kX7_fill l G ad t (M 0 (mix d t)) i (zRek (M 4 (mat (M 0 (mix d t)) i)) how x) hat H.size) (cwV 4 hts gX7_nudge_X7_fill rfl rfl rfl (by decide +kernel) ⟨(Nat.le_of_ble_eq_true rfl), (Nat.le_of_ble_eq_true rfl)⟩) (zPV w hK (va_recv hK.1 w.1 (ci := 6) (q0 := 0) rfl rfl)) rfl rfl hl.1 rfl (lv_room (Nat.le_of_ble_eq_true rfl)) dX7_nudge_242 ⟨(Nat.le_of_ble_eq_true rfl), (Nat.le_of_ble_eq_true rfl)⟩) (fun u H locs hq w => ?_)
                        subst hq
                        refine lv_aload_n hx hb dX7_nudge_245 rfl (lv_at hl 4 rfl) ?_
                        refine lv_iload_n hx hb dX7_nudge_246 rfl (lv_at hl 6 rfl) ?_
                        refine lv_iload hx hb dX7_nudge_247 (lv_at hl 2 rfl) ?_
                        refine lv_iload_n hx hb dX7_nudge_249 rfl (lv_at hl 7 rfl) ?_
                        refine zCl w (va_runV (As := [.int t, .int (M 0 (((4 * d) + t).toNatClampNeg)), .int i]) (rest := []) ⟨hx, hb, hml, hown, hts⟩ (kX7_told (M := (mFM M t (mat (M 0 (mix d t)) i) (zRek (M 4 (mat (M 0 (mix d t)) i)) how x))) (lev := (mFL lev t (mat (M 0 (mix d t)) i) (zEi (zRek (M 4 (mat (M 0 (mix d t)) i)) how x)))) l G ad t (M 0 (mix d t)) i hat (mFL_fin hfl (zn32 (zEi_fin _).notNaN)) H.size) (cwV 3 hts gX7_nudge_X7_told rfl rfl rfl (by decide +kernel) ⟨(Nat.le_of_ble_eq_true rfl), (Nat.le_of_ble_eq_true rfl)⟩) (zPV w hK (va_recv hK.1 w.1 (ci := 6) (q0 := 0) rfl rfl)) rfl rfl hl.1 rfl (lv_room (Nat.le_of_ble_eq_true rfl)) dX7_nudge_250 ⟨(Nat.le_of_ble_eq_true rfl), (Nat.le_of_ble_eq_true rfl)⟩) (fun r_105 u H locs hq w => ?_)
                        obtain ⟨rfl, e_r⟩ := hq
                        subst e_r
                        exact zRl hx hb hr hlk w dX7_nudge_253 (Nat.le_of_ble_eq_true rfl) (Nat.le_of_ble_eq_true rfl) (by show (if _ then _ else _); rw [if_pos ⟨p_d, p_t, p_k⟩]; (first | rw [if_pos p_f] | rw [if_neg p_f]); (first | rw [if_pos p_v] | rw [if_neg p_v]); (first | rw [if_pos p_2] | rw [if_neg p_2]); (try (first | rw [if_pos p_3] | rw [if_neg p_3])); exact ⟨rfl, rfl⟩)
                      · have p_3 := c_103
                        refine lv_iload hx hb dX7_nudge_230 (lv_at hl 9 rfl) ?_
                        refine lv_iconst (v := 1) hx hb dX7_nudge_232 (by decide) ?_
                        refine lv_iand hx hb dX7_nudge_233 ?_
                        refine lv_goto (tgt := 239) hx hb dX7_nudge_234 (by decide) ?_
                        refine zCi w (va_runS (As := [.int how, .int (M 4 (((40 * (M 0 (((4 * d) + t).toNatClampNeg))) + i).toNatClampNeg)), .int (x &&& 1)]) (rest := [.int i, .int (M 0 (((4 * d) + t).toNatClampNeg)), .int t, .ref (ad 0)]) ⟨hx, hb, hml, hown, hts⟩ (kX7_worked l G _ how (M 4 (mat (M 0 (mix d t)) i)) (x &&& 1) (mKn_dv p_k p_3) H.size) (va_cwS 3 hts gX7_nudge_X7_worked rfl rfl rfl (by decide +kernel) ⟨(Nat.le_of_ble_eq_true rfl), (Nat.le_of_ble_eq_true rfl)⟩) (zPS w hK) rfl rfl hl.1 rfl (lv_room (Nat.le_of_ble_eq_true rfl)) dX7_nudge_239 ⟨(Nat.le_of_ble_eq_true rfl), (Nat.le_of_ble_eq_true rfl)⟩) (fun r_106 u H locs hq w => ?_)
                        obtain ⟨rfl, e_r⟩ := hq
                        subst e_r
                        refine zCv w (va_runV (As := [.int t, .int (M 0 (((4 * d) + t).toNatClampNeg)), .int i, .int (zRek (M 4 (mat (M 0 (mix d t)) i)) how (x &&& 1))]) (rest := []) ⟨hx, hb, hml, hown, hts⟩ (kX7_fill l G ad t (M 0 (mix d t)) i (zRek (M 4 (mat (M 0 (mix d t)) i)) how (x &&& 1)) hat H.size) (cwV 4 hts gX7_nudge_X7_fill rfl rfl rfl (by decide +kernel) ⟨(Nat.le_of_ble_eq_true rfl), (Nat.le_of_ble_eq_true rfl)⟩) (zPV w hK (va_recv hK.1 w.1 (ci := 6) (q0 := 0) rfl rfl)) rfl rfl hl.1 rfl (lv_room (Nat.le_of_ble_eq_true rfl)) dX7_nudge_242 ⟨(Nat.le_of_ble_eq_true rfl), (Nat.le_of_ble_eq_true rfl)⟩) (fun u H locs hq w => ?_)
                        subst hq
                        refine lv_aload_n hx hb dX7_nudge_245 rfl (lv_at hl 4 rfl) ?_
                        refine lv_iload_n hx hb dX7_nudge_246 rfl (lv_at hl 6 rfl) ?_
                        refine lv_iload hx hb dX7_nudge_247 (lv_at hl 2 rfl) ?_
                        refine lv_iload_n hx hb dX7_nudge_249 rfl (lv_at hl 7 rfl) ?_
                        refine zCl w (va_runV (As := [.int t, .int (M 0 (((4 * d) + t).toNatClampNeg)), .int i]) (rest := []) ⟨hx, hb, hml, hown, hts⟩ (kX7_told (M := (mFM M t (mat (M 0 (mix d t)) i) (zRek (M 4 (mat (M 0 (mix d t)) i)) how (x &&& 1)))) (lev := (mFL lev t (mat (M 0 (mix d t)) i) (zEi (zRek (M 4 (mat (M 0 (mix d t)) i)) how (x &&& 1))))) l G ad t (M 0 (mix d t)) i hat (mFL_fin hfl (zn32 (zEi_fin _).notNaN)) H.size) (cwV 3 hts gX7_nudge_X7_told rfl rfl rfl (by decide +kernel) ⟨(Nat.le_of_ble_eq_true rfl), (Nat.le_of_ble_eq_true rfl)⟩) (zPV w hK (va_recv hK.1 w.1 (ci := 6) (q0 := 0) rfl rfl)) rfl rfl hl.1 rfl (lv_room (Nat.le_of_ble_eq_true rfl)) dX7_nudge_250 ⟨(Nat.le_of_ble_eq_true rfl), (Nat.le_of_ble_eq_true rfl)⟩) (fun r_107 u H locs hq w => ?_)
                        obtain ⟨rfl, e_r⟩ := hq
                        subst e_r
                        exact zRl hx hb hr hlk w dX7_nudge_253 (Nat.le_of_ble_eq_true rfl) (Nat.le_of_ble_eq_true rfl) (by show (if _ then _ else _); rw [if_pos ⟨p_d, p_t, p_k⟩]; (first | rw [if_pos p_f] | rw [if_neg p_f]); (first | rw [if_pos p_v] | rw [if_neg p_v]); (first | rw [if_pos p_2] | rw [if_neg p_2]); (try (first | rw [if_pos p_3] | rw [if_neg p_3])); exact ⟨rfl, rfl⟩)
                    · have p_2 := c_102
                      refine lv_aload_n hx hb dX7_nudge_164 rfl (lv_at hl 4 rfl) ?_
                      refine zget (ci := 6) (C := RX7) (T := TX7) (N := 11) hx hb hts hown hK w (by decide +kernel) 0 rfl rfl 5 (by decide) (hts (.fieldLink RX7 25 "ReelBarnModel" "level" "[F") (by decide +kernel)) (fun _ h9 => h9) rfl dX7_nudge_165 ?_
                      refine lv_iload hx hb dX7_nudge_168 (lv_at hl 0 rfl) ?_
                      refine lv_iload hx hb dX7_nudge_170 (lv_at hl 8 rfl) ?_
                      refine lv_if_ne (tgt := 191) hx hb dX7_nudge_172 (by decide) (fun c_108 => ?_) (fun c_108 => ?_)
                      · have p_h := c_108
                        refine lv_aload_n hx hb dX7_nudge_191 rfl (lv_at hl 4 rfl) ?_
                        refine zget (ci := 6) (C := RX7) (T := TX7) (N := 11) hx hb hts hown hK w (by decide +kernel) 0 rfl rfl 5 (by decide) (hts (.fieldLink RX7 25 "ReelBarnModel" "level" "[F") (by decide +kernel)) (fun _ h9 => h9) rfl dX7_nudge_192 ?_
                        refine lv_iload hx hb dX7_nudge_195 (lv_at hl 0 rfl) ?_
                        refine zm_fald hx hb hK w 6 rfl hat dX7_nudge_197 ?_
                        refine lv_iload hx hb dX7_nudge_198 (lv_at hl 9 rfl) ?_
                        refine zCf w (va_runS (As := [.int x]) (rest := [.float (lev (((40 * (M 0 (((4 * d) + t).toNatClampNeg))) + i).toNatClampNeg)), .int ((40 * (M 0 (((4 * d) + t).toNatClampNeg))) + i), .ref (ad 6)]) ⟨hx, hb, hml, hown, hts⟩ (kX7_eighth l G _ x H.size) (va_cwS 1 hts gX7_nudge_X7_eighth rfl rfl rfl (by decide +kernel) ⟨(Nat.le_of_ble_eq_true rfl), (Nat.le_of_ble_eq_true rfl)⟩) (zPS w hK) rfl rfl hl.1 rfl (lv_room (Nat.le_of_ble_eq_true rfl)) dX7_nudge_200 ⟨(Nat.le_of_ble_eq_true rfl), (Nat.le_of_ble_eq_true rfl)⟩) (fun r_109 u H locs hq w => ?_)
                        obtain ⟨rfl, e_r⟩ := hq
                        subst e_r
                        refine lv_fsub hx hb dX7_nudge_203 (zsub hfl (zEi_fin x)) ?_
                        refine zCf w (va_runS (As := [.float (FP.fsub (lev (((40 * (M 0 (((4 * d) + t).toNatClampNeg))) + i).toNatClampNeg)) (zEi x))]) (rest := [.int ((40 * (M 0 (((4 * d) + t).toNatClampNeg))) + i), .ref (ad 6)]) ⟨hx, hb, hml, hown, hts⟩ (kX7_held l G _ (FP.fsub (lev (((40 * (M 0 (((4 * d) + t).toNatClampNeg))) + i).toNatClampNeg)) (zEi x)) H.size) (va_cwS 1 hts gX7_nudge_X7_held rfl rfl rfl (by decide +kernel) ⟨(Nat.le_of_ble_eq_true rfl), (Nat.le_of_ble_eq_true rfl)⟩) (zPS w hK) rfl rfl hl.1 rfl (lv_room (Nat.le_of_ble_eq_true rfl)) dX7_nudge_204 ⟨(Nat.le_of_ble_eq_true rfl), (Nat.le_of_ble_eq_true rfl)⟩) (fun r_110 u H locs hq w => ?_)
                        obtain ⟨rfl, e_r⟩ := hq
                        subst e_r
                        refine zm_fast hx hb hK w 6 rfl hat dX7_nudge_207 (fun H locs w => ?_)
                        have w : zW G A s H locs (mW G ad M (vf_upd lev (((40 * (M 0 (((4 * d) + t).toNatClampNeg))) + i).toNatClampNeg) (zHe (FP.fsub (lev (((40 * (M 0 (((4 * d) + t).toNatClampNeg))) + i).toNatClampNeg)) (zEi x))))) := w
                        refine lv_goto (tgt := 245) hx hb dX7_nudge_208 (by decide) ?_
                        refine lv_aload_n hx hb dX7_nudge_245 rfl (lv_at hl 4 rfl) ?_
                        refine lv_iload_n hx hb dX7_nudge_246 rfl (lv_at hl 6 rfl) ?_
                        refine lv_iload hx hb dX7_nudge_247 (lv_at hl 2 rfl) ?_
                        refine lv_iload_n hx hb dX7_nudge_249 rfl (lv_at hl 7 rfl) ?_
                        refine zCl w (va_runV (As := [.int t, .int (M 0 (((4 * d) + t).toNatClampNeg)), .int i]) (rest := []) ⟨hx, hb, hml, hown, hts⟩ (kX7_told (M := M) (lev := (vf_upd lev (((40 * (M 0 (((4 * d) + t).toNatClampNeg))) + i).toNatClampNeg) (zHe (FP.fsub (lev (((40 * (M 0 (((4 * d) + t).toNatClampNeg))) + i).toNatClampNeg)) (zEi x))))) l G ad t (M 0 (mix d t)) i hat ((by show zFin (vf_upd lev _ _ _); unfold vf_upd; rw [if_pos rfl]; exact zHe_fin (zsub hfl (zEi_fin x)))) H.size) (cwV 3 hts gX7_nudge_X7_told rfl rfl rfl (by decide +kernel) ⟨(Nat.le_of_ble_eq_true rfl), (Nat.le_of_ble_eq_true rfl)⟩) (zPV w hK (va_recv hK.1 w.1 (ci := 6) (q0 := 0) rfl rfl)) rfl rfl hl.1 rfl (lv_room (Nat.le_of_ble_eq_true rfl)) dX7_nudge_250 ⟨(Nat.le_of_ble_eq_true rfl), (Nat.le_of_ble_eq_true rfl)⟩) (fun r_111 u H locs hq w => ?_)
                        obtain ⟨rfl, e_r⟩ := hq
                        subst e_r
                        exact zRl hx hb hr hlk w dX7_nudge_253 (Nat.le_of_ble_eq_true rfl) (Nat.le_of_ble_eq_true rfl) (by show (if _ then _ else _); rw [if_pos ⟨p_d, p_t, p_k⟩]; (first | rw [if_pos p_f] | rw [if_neg p_f]); (first | rw [if_pos p_v] | rw [if_neg p_v]); (first | rw [if_pos p_2] | rw [if_neg p_2]); (try (first | rw [if_pos p_h] | rw [if_neg p_h])); exact ⟨rfl, rfl⟩)
                      · have p_h := c_108
                        refine lv_aload_n hx hb dX7_nudge_175 rfl (lv_at hl 4 rfl) ?_
                        refine zget (ci := 6) (C := RX7) (T := TX7) (N := 11) hx hb hts hown hK w (by decide +kernel) 0 rfl rfl 5 (by decide) (hts (.fieldLink RX7 25 "ReelBarnModel" "level" "[F") (by decide +kernel)) (fun _ h9 => h9) rfl dX7_nudge_176 ?_
                        refine lv_iload hx hb dX7_nudge_179 (lv_at hl 0 rfl) ?_
                        refine zm_fald hx hb hK w 6 rfl hat dX7_nudge_181 ?_
                        refine lv_iload hx hb dX7_nudge_182 (lv_at hl 9 rfl) ?_
                        refine zCf w (va_runS (As := [.int x]) (rest := [.float (lev (((40 * (M 0 (((4 * d) + t).toNatClampNeg))) + i).toNatClampNeg)), .int ((40 * (M 0 (((4 * d) + t).toNatClampNeg))) + i), .ref (ad 6)]) ⟨hx, hb, hml, hown, hts⟩ (kX7_eighth l G _ x H.size) (va_cwS 1 hts gX7_nudge_X7_eighth rfl rfl rfl (by decide +kernel) ⟨(Nat.le_of_ble_eq_true rfl), (Nat.le_of_ble_eq_true rfl)⟩) (zPS w hK) rfl rfl hl.1 rfl (lv_room (Nat.le_of_ble_eq_true rfl)) dX7_nudge_184 ⟨(Nat.le_of_ble_eq_true rfl), (Nat.le_of_ble_eq_true rfl)⟩) (fun r_112 u H locs hq w => ?_)
                        obtain ⟨rfl, e_r⟩ := hq
                        subst e_r
                        refine lv_fadd hx hb dX7_nudge_187 (zadd hfl (zEi_fin x)) ?_
                        refine lv_goto (tgt := 204) hx hb dX7_nudge_188 (by decide) ?_
                        refine zCf w (va_runS (As := [.float (FP.fadd (lev (((40 * (M 0 (((4 * d) + t).toNatClampNeg))) + i).toNatClampNeg)) (zEi x))]) (rest := [.int ((40 * (M 0 (((4 * d) + t).toNatClampNeg))) + i), .ref (ad 6)]) ⟨hx, hb, hml, hown, hts⟩ (kX7_held l G _ (FP.fadd (lev (((40 * (M 0 (((4 * d) + t).toNatClampNeg))) + i).toNatClampNeg)) (zEi x)) H.size) (va_cwS 1 hts gX7_nudge_X7_held rfl rfl rfl (by decide +kernel) ⟨(Nat.le_of_ble_eq_true rfl), (Nat.le_of_ble_eq_true rfl)⟩) (zPS w hK) rfl rfl hl.1 rfl (lv_room (Nat.le_of_ble_eq_true rfl)) dX7_nudge_204 ⟨(Nat.le_of_ble_eq_true rfl), (Nat.le_of_ble_eq_true rfl)⟩) (fun r_113 u H locs hq w => ?_)
                        obtain ⟨rfl, e_r⟩ := hq
                        subst e_r
                        refine zm_fast hx hb hK w 6 rfl hat dX7_nudge_207 (fun H locs w => ?_)
                        have w : zW G A s H locs (mW G ad M (vf_upd lev (((40 * (M 0 (((4 * d) + t).toNatClampNeg))) + i).toNatClampNeg) (zHe (FP.fadd (lev (((40 * (M 0 (((4 * d) + t).toNatClampNeg))) + i).toNatClampNeg)) (zEi x))))) := w
                        refine lv_goto (tgt := 245) hx hb dX7_nudge_208 (by decide) ?_
                        refine lv_aload_n hx hb dX7_nudge_245 rfl (lv_at hl 4 rfl) ?_
                        refine lv_iload_n hx hb dX7_nudge_246 rfl (lv_at hl 6 rfl) ?_
                        refine lv_iload hx hb dX7_nudge_247 (lv_at hl 2 rfl) ?_
                        refine lv_iload_n hx hb dX7_nudge_249 rfl (lv_at hl 7 rfl) ?_
                        refine zCl w (va_runV (As := [.int t, .int (M 0 (((4 * d) + t).toNatClampNeg)), .int i]) (rest := []) ⟨hx, hb, hml, hown, hts⟩ (kX7_told (M := M) (lev := (vf_upd lev (((40 * (M 0 (((4 * d) + t).toNatClampNeg))) + i).toNatClampNeg) (zHe (FP.fadd (lev (((40 * (M 0 (((4 * d) + t).toNatClampNeg))) + i).toNatClampNeg)) (zEi x))))) l G ad t (M 0 (mix d t)) i hat ((by show zFin (vf_upd lev _ _ _); unfold vf_upd; rw [if_pos rfl]; exact zHe_fin (zadd hfl (zEi_fin x)))) H.size) (cwV 3 hts gX7_nudge_X7_told rfl rfl rfl (by decide +kernel) ⟨(Nat.le_of_ble_eq_true rfl), (Nat.le_of_ble_eq_true rfl)⟩) (zPV w hK (va_recv hK.1 w.1 (ci := 6) (q0 := 0) rfl rfl)) rfl rfl hl.1 rfl (lv_room (Nat.le_of_ble_eq_true rfl)) dX7_nudge_250 ⟨(Nat.le_of_ble_eq_true rfl), (Nat.le_of_ble_eq_true rfl)⟩) (fun r_114 u H locs hq w => ?_)
                        obtain ⟨rfl, e_r⟩ := hq
                        subst e_r
                        exact zRl hx hb hr hlk w dX7_nudge_253 (Nat.le_of_ble_eq_true rfl) (Nat.le_of_ble_eq_true rfl) (by show (if _ then _ else _); rw [if_pos ⟨p_d, p_t, p_k⟩]; (first | rw [if_pos p_f] | rw [if_neg p_f]); (first | rw [if_pos p_v] | rw [if_neg p_v]); (first | rw [if_pos p_2] | rw [if_neg p_2]); (try (first | rw [if_pos p_h] | rw [if_neg p_h])); exact ⟨rfl, rfl⟩)
                  · have p_v : how = 3 ∧ x = 0 := ⟨q_v, c_101⟩
                    refine lv_aload_n hx hb dX7_nudge_142 rfl (lv_at hl 3 rfl) ?_
                    refine lv_ldc2 hx hb hown (hts (.constantLong RX7 89 (6597069766656)) (by decide +kernel)) dX7_nudge_143 ?_
                    refine zCl w (va_runV (As := [.long 6597069766656]) (rest := []) ⟨hx, hb, hml, hown, hts⟩ (kX7_refuse l G ad zDIVIDED zW6 H.size) (cwV 1 hts gX7_nudge_X7_refuse rfl rfl rfl (by decide +kernel) ⟨(Nat.le_of_ble_eq_true rfl), (Nat.le_of_ble_eq_true rfl)⟩) (zPV w hK (va_recv hK.1 w.1 (ci := 6) (q0 := 0) rfl rfl)) rfl rfl hl.1 rfl (lv_room (Nat.le_of_ble_eq_true rfl)) dX7_nudge_146 ⟨(Nat.le_of_ble_eq_true rfl), (Nat.le_of_ble_eq_true rfl)⟩) (fun r_115 u H locs hq w => ?_)
                    obtain ⟨rfl, e_r⟩ := hq
                    subst e_r
                    exact zRl hx hb hr hlk w dX7_nudge_149 (Nat.le_of_ble_eq_true rfl) (Nat.le_of_ble_eq_true rfl) (by show (if _ then _ else _); rw [if_pos ⟨p_d, p_t, p_k⟩]; (first | rw [if_pos p_f] | rw [if_neg p_f]); (first | rw [if_pos p_v] | rw [if_neg p_v]); exact ⟨rfl, rfl⟩)
              · have p_f := zcmp1 c_86
                refine lv_aload_n hx hb dX7_nudge_124 rfl (lv_at hl 3 rfl) ?_
                refine lv_lload hx hb dX7_nudge_125 (lv_at hl 0 rfl) ?_
                refine zCl w (va_runV (As := [.long (mAg M (M 0 (mix d t)) i)]) (rest := []) ⟨hx, hb, hml, hown, hts⟩ (kX7_refuse l G ad (mAg M (M 0 (mix d t)) i) (mAg_why p_f) H.size) (cwV 1 hts gX7_nudge_X7_refuse rfl rfl rfl (by decide +kernel) ⟨(Nat.le_of_ble_eq_true rfl), (Nat.le_of_ble_eq_true rfl)⟩) (zPV w hK (va_recv hK.1 w.1 (ci := 6) (q0 := 0) rfl rfl)) rfl rfl hl.1 rfl (lv_room (Nat.le_of_ble_eq_true rfl)) dX7_nudge_127 ⟨(Nat.le_of_ble_eq_true rfl), (Nat.le_of_ble_eq_true rfl)⟩) (fun r_116 u H locs hq w => ?_)
                obtain ⟨rfl, e_r⟩ := hq
                subst e_r
                exact zRl hx hb hr hlk w dX7_nudge_130 (Nat.le_of_ble_eq_true rfl) (Nat.le_of_ble_eq_true rfl) (by show (if _ then _ else _); rw [if_pos ⟨p_d, p_t, p_k⟩]; (first | rw [if_pos p_f] | rw [if_neg p_f]); exact ⟨rfl, rfl⟩)
  · refine lv_iload hx hb dX7_nudge_5 (lv_at hl 4 rfl) ?_
    refine lv_if_lt (tgt := 20) hx hb dX7_nudge_7 (by decide) (fun c_117 => ?_) (fun c_117 => ?_)
    · refine lv_iconst (v := 0) hx hb dX7_nudge_20 (by decide) ?_
      refine lv_goto (tgt := 67) hx hb dX7_nudge_21 (by decide) ?_
      have p_k : ¬ mKn t how := by simp [mKn, c_1, c_117]
      refine lv_istore (lv' := [(6, .int 0), (0, .ref (ad 0)), (1, .int d), (2, .int t), (3, .int i), (4, .int how), (5, .int x)]) hx hb dX7_nudge_67 hl (by decide) rfl (fun ls hl => ?_)
      refine lv_iload_n hx hb dX7_nudge_69 rfl (lv_at hl 2 rfl) ?_
      refine zCi w (va_runS (As := [.int d]) (rest := []) ⟨hx, hb, hml, hown, hts⟩ (kX7_isFour l G _ d s.heap.size) (va_cwS 1 hts gX7_nudge_X7_isFour rfl rfl rfl (by decide +kernel) ⟨(Nat.le_of_ble_eq_true rfl), (Nat.le_of_ble_eq_true rfl)⟩) (zPS w hK) rfl rfl hl.1 rfl (lv_room (Nat.le_of_ble_eq_true rfl)) dX7_nudge_70 ⟨(Nat.le_of_ble_eq_true rfl), (Nat.le_of_ble_eq_true rfl)⟩) (fun r_118 u H locs hq w => ?_)
      obtain ⟨rfl, e_r_118⟩ := hq
      refine lv_if_eq (tgt := 88) hx hb dX7_nudge_73 (by decide) (fun c_119 => ?_) (fun c_119 => ?_)
      · have p_d := z00 inferInstance e_r_118 c_119
        refine lv_aload_n hx hb dX7_nudge_88 rfl (lv_at hl 1 rfl) ?_
        refine lv_ldc2 hx hb hown (hts (.constantLong RX7 59 (1099511627776)) (by decide +kernel)) dX7_nudge_89 ?_
        refine zCl w (va_runV (As := [.long 1099511627776]) (rest := []) ⟨hx, hb, hml, hown, hts⟩ (kX7_refuse l G ad zNONE zW1 H.size) (cwV 1 hts gX7_nudge_X7_refuse rfl rfl rfl (by decide +kernel) ⟨(Nat.le_of_ble_eq_true rfl), (Nat.le_of_ble_eq_true rfl)⟩) (zPV w hK (va_recv hK.1 w.1 (ci := 6) (q0 := 0) rfl rfl)) rfl rfl hl.1 rfl (lv_room (Nat.le_of_ble_eq_true rfl)) dX7_nudge_92 ⟨(Nat.le_of_ble_eq_true rfl), (Nat.le_of_ble_eq_true rfl)⟩) (fun r_120 u H locs hq w => ?_)
        obtain ⟨rfl, e_r⟩ := hq
        subst e_r
        exact zRl hx hb hr hlk w dX7_nudge_95 (Nat.le_of_ble_eq_true rfl) (Nat.le_of_ble_eq_true rfl) (by show (if _ then _ else _); rw [if_neg (fun q => p_k q.2.2)]; exact ⟨rfl, rfl⟩)
      · have p_d := z01 inferInstance e_r_118 c_119
        refine lv_iload_n hx hb dX7_nudge_76 rfl (lv_at hl 3 rfl) ?_
        refine zCi w (va_runS (As := [.int t]) (rest := []) ⟨hx, hb, hml, hown, hts⟩ (kX7_isFour l G _ t H.size) (va_cwS 1 hts gX7_nudge_X7_isFour rfl rfl rfl (by decide +kernel) ⟨(Nat.le_of_ble_eq_true rfl), (Nat.le_of_ble_eq_true rfl)⟩) (zPS w hK) rfl rfl hl.1 rfl (lv_room (Nat.le_of_ble_eq_true rfl)) dX7_nudge_77 ⟨(Nat.le_of_ble_eq_true rfl), (Nat.le_of_ble_eq_true rfl)⟩) (fun r_121 u H locs hq w => ?_)
        obtain ⟨rfl, e_r_121⟩ := hq
        refine lv_if_eq (tgt := 88) hx hb dX7_nudge_80 (by decide) (fun c_122 => ?_) (fun c_122 => ?_)
        · have p_t := z00 inferInstance e_r_121 c_122
          refine lv_aload_n hx hb dX7_nudge_88 rfl (lv_at hl 1 rfl) ?_
          refine lv_ldc2 hx hb hown (hts (.constantLong RX7 59 (1099511627776)) (by decide +kernel)) dX7_nudge_89 ?_
          refine zCl w (va_runV (As := [.long 1099511627776]) (rest := []) ⟨hx, hb, hml, hown, hts⟩ (kX7_refuse l G ad zNONE zW1 H.size) (cwV 1 hts gX7_nudge_X7_refuse rfl rfl rfl (by decide +kernel) ⟨(Nat.le_of_ble_eq_true rfl), (Nat.le_of_ble_eq_true rfl)⟩) (zPV w hK (va_recv hK.1 w.1 (ci := 6) (q0 := 0) rfl rfl)) rfl rfl hl.1 rfl (lv_room (Nat.le_of_ble_eq_true rfl)) dX7_nudge_92 ⟨(Nat.le_of_ble_eq_true rfl), (Nat.le_of_ble_eq_true rfl)⟩) (fun r_123 u H locs hq w => ?_)
          obtain ⟨rfl, e_r⟩ := hq
          subst e_r
          exact zRl hx hb hr hlk w dX7_nudge_95 (Nat.le_of_ble_eq_true rfl) (Nat.le_of_ble_eq_true rfl) (by show (if _ then _ else _); rw [if_neg (fun q => p_k q.2.2)]; exact ⟨rfl, rfl⟩)
        · have p_t := z01 inferInstance e_r_121 c_122
          refine lv_iload hx hb dX7_nudge_83 (lv_at hl 0 rfl) ?_
          refine lv_if_ne (tgt := 96) hx hb dX7_nudge_85 (by decide) (fun c_124 => absurd (by decide) c_124) (fun c_124 => ?_)
          refine lv_aload_n hx hb dX7_nudge_88 rfl (lv_at hl 1 rfl) ?_
          refine lv_ldc2 hx hb hown (hts (.constantLong RX7 59 (1099511627776)) (by decide +kernel)) dX7_nudge_89 ?_
          refine zCl w (va_runV (As := [.long 1099511627776]) (rest := []) ⟨hx, hb, hml, hown, hts⟩ (kX7_refuse l G ad zNONE zW1 H.size) (cwV 1 hts gX7_nudge_X7_refuse rfl rfl rfl (by decide +kernel) ⟨(Nat.le_of_ble_eq_true rfl), (Nat.le_of_ble_eq_true rfl)⟩) (zPV w hK (va_recv hK.1 w.1 (ci := 6) (q0 := 0) rfl rfl)) rfl rfl hl.1 rfl (lv_room (Nat.le_of_ble_eq_true rfl)) dX7_nudge_92 ⟨(Nat.le_of_ble_eq_true rfl), (Nat.le_of_ble_eq_true rfl)⟩) (fun r_125 u H locs hq w => ?_)
          obtain ⟨rfl, e_r⟩ := hq
          subst e_r
          exact zRl hx hb hr hlk w dX7_nudge_95 (Nat.le_of_ble_eq_true rfl) (Nat.le_of_ble_eq_true rfl) (by show (if _ then _ else _); rw [if_neg (fun q => p_k q.2.2)]; exact ⟨rfl, rfl⟩)
    · refine lv_iload hx hb dX7_nudge_10 (lv_at hl 4 rfl) ?_
      refine lv_iconst (v := 2) hx hb dX7_nudge_12 (by decide) ?_
      refine lv_icmp_ge (tgt := 20) hx hb dX7_nudge_13 (by decide) (fun c_126 => ?_) (fun c_126 => ?_)
      · refine lv_iconst (v := 0) hx hb dX7_nudge_20 (by decide) ?_
        refine lv_goto (tgt := 67) hx hb dX7_nudge_21 (by decide) ?_
        have p_k : ¬ mKn t how := by simp [mKn, c_1, c_117, c_126]
        refine lv_istore (lv' := [(6, .int 0), (0, .ref (ad 0)), (1, .int d), (2, .int t), (3, .int i), (4, .int how), (5, .int x)]) hx hb dX7_nudge_67 hl (by decide) rfl (fun ls hl => ?_)
        refine lv_iload_n hx hb dX7_nudge_69 rfl (lv_at hl 2 rfl) ?_
        refine zCi w (va_runS (As := [.int d]) (rest := []) ⟨hx, hb, hml, hown, hts⟩ (kX7_isFour l G _ d s.heap.size) (va_cwS 1 hts gX7_nudge_X7_isFour rfl rfl rfl (by decide +kernel) ⟨(Nat.le_of_ble_eq_true rfl), (Nat.le_of_ble_eq_true rfl)⟩) (zPS w hK) rfl rfl hl.1 rfl (lv_room (Nat.le_of_ble_eq_true rfl)) dX7_nudge_70 ⟨(Nat.le_of_ble_eq_true rfl), (Nat.le_of_ble_eq_true rfl)⟩) (fun r_127 u H locs hq w => ?_)
        obtain ⟨rfl, e_r_127⟩ := hq
        refine lv_if_eq (tgt := 88) hx hb dX7_nudge_73 (by decide) (fun c_128 => ?_) (fun c_128 => ?_)
        · have p_d := z00 inferInstance e_r_127 c_128
          refine lv_aload_n hx hb dX7_nudge_88 rfl (lv_at hl 1 rfl) ?_
          refine lv_ldc2 hx hb hown (hts (.constantLong RX7 59 (1099511627776)) (by decide +kernel)) dX7_nudge_89 ?_
          refine zCl w (va_runV (As := [.long 1099511627776]) (rest := []) ⟨hx, hb, hml, hown, hts⟩ (kX7_refuse l G ad zNONE zW1 H.size) (cwV 1 hts gX7_nudge_X7_refuse rfl rfl rfl (by decide +kernel) ⟨(Nat.le_of_ble_eq_true rfl), (Nat.le_of_ble_eq_true rfl)⟩) (zPV w hK (va_recv hK.1 w.1 (ci := 6) (q0 := 0) rfl rfl)) rfl rfl hl.1 rfl (lv_room (Nat.le_of_ble_eq_true rfl)) dX7_nudge_92 ⟨(Nat.le_of_ble_eq_true rfl), (Nat.le_of_ble_eq_true rfl)⟩) (fun r_129 u H locs hq w => ?_)
          obtain ⟨rfl, e_r⟩ := hq
          subst e_r
          exact zRl hx hb hr hlk w dX7_nudge_95 (Nat.le_of_ble_eq_true rfl) (Nat.le_of_ble_eq_true rfl) (by show (if _ then _ else _); rw [if_neg (fun q => p_k q.2.2)]; exact ⟨rfl, rfl⟩)
        · have p_d := z01 inferInstance e_r_127 c_128
          refine lv_iload_n hx hb dX7_nudge_76 rfl (lv_at hl 3 rfl) ?_
          refine zCi w (va_runS (As := [.int t]) (rest := []) ⟨hx, hb, hml, hown, hts⟩ (kX7_isFour l G _ t H.size) (va_cwS 1 hts gX7_nudge_X7_isFour rfl rfl rfl (by decide +kernel) ⟨(Nat.le_of_ble_eq_true rfl), (Nat.le_of_ble_eq_true rfl)⟩) (zPS w hK) rfl rfl hl.1 rfl (lv_room (Nat.le_of_ble_eq_true rfl)) dX7_nudge_77 ⟨(Nat.le_of_ble_eq_true rfl), (Nat.le_of_ble_eq_true rfl)⟩) (fun r_130 u H locs hq w => ?_)
          obtain ⟨rfl, e_r_130⟩ := hq
          refine lv_if_eq (tgt := 88) hx hb dX7_nudge_80 (by decide) (fun c_131 => ?_) (fun c_131 => ?_)
          · have p_t := z00 inferInstance e_r_130 c_131
            refine lv_aload_n hx hb dX7_nudge_88 rfl (lv_at hl 1 rfl) ?_
            refine lv_ldc2 hx hb hown (hts (.constantLong RX7 59 (1099511627776)) (by decide +kernel)) dX7_nudge_89 ?_
            refine zCl w (va_runV (As := [.long 1099511627776]) (rest := []) ⟨hx, hb, hml, hown, hts⟩ (kX7_refuse l G ad zNONE zW1 H.size) (cwV 1 hts gX7_nudge_X7_refuse rfl rfl rfl (by decide +kernel) ⟨(Nat.le_of_ble_eq_true rfl), (Nat.le_of_ble_eq_true rfl)⟩) (zPV w hK (va_recv hK.1 w.1 (ci := 6) (q0 := 0) rfl rfl)) rfl rfl hl.1 rfl (lv_room (Nat.le_of_ble_eq_true rfl)) dX7_nudge_92 ⟨(Nat.le_of_ble_eq_true rfl), (Nat.le_of_ble_eq_true rfl)⟩) (fun r_132 u H locs hq w => ?_)
            obtain ⟨rfl, e_r⟩ := hq
            subst e_r
            exact zRl hx hb hr hlk w dX7_nudge_95 (Nat.le_of_ble_eq_true rfl) (Nat.le_of_ble_eq_true rfl) (by show (if _ then _ else _); rw [if_neg (fun q => p_k q.2.2)]; exact ⟨rfl, rfl⟩)
          · have p_t := z01 inferInstance e_r_130 c_131
            refine lv_iload hx hb dX7_nudge_83 (lv_at hl 0 rfl) ?_
            refine lv_if_ne (tgt := 96) hx hb dX7_nudge_85 (by decide) (fun c_133 => absurd (by decide) c_133) (fun c_133 => ?_)
            refine lv_aload_n hx hb dX7_nudge_88 rfl (lv_at hl 1 rfl) ?_
            refine lv_ldc2 hx hb hown (hts (.constantLong RX7 59 (1099511627776)) (by decide +kernel)) dX7_nudge_89 ?_
            refine zCl w (va_runV (As := [.long 1099511627776]) (rest := []) ⟨hx, hb, hml, hown, hts⟩ (kX7_refuse l G ad zNONE zW1 H.size) (cwV 1 hts gX7_nudge_X7_refuse rfl rfl rfl (by decide +kernel) ⟨(Nat.le_of_ble_eq_true rfl), (Nat.le_of_ble_eq_true rfl)⟩) (zPV w hK (va_recv hK.1 w.1 (ci := 6) (q0 := 0) rfl rfl)) rfl rfl hl.1 rfl (lv_room (Nat.le_of_ble_eq_true rfl)) dX7_nudge_92 ⟨(Nat.le_of_ble_eq_true rfl), (Nat.le_of_ble_eq_true rfl)⟩) (fun r_134 u H locs hq w => ?_)
            obtain ⟨rfl, e_r⟩ := hq
            subst e_r
            exact zRl hx hb hr hlk w dX7_nudge_95 (Nat.le_of_ble_eq_true rfl) (Nat.le_of_ble_eq_true rfl) (by show (if _ then _ else _); rw [if_neg (fun q => p_k q.2.2)]; exact ⟨rfl, rfl⟩)
      · refine lv_iconst (v := 1) hx hb dX7_nudge_16 (by decide) ?_
        refine lv_goto (tgt := 67) hx hb dX7_nudge_17 (by decide) ?_
        have p_k : mKn t how := by simp [mKn, c_1, c_117, c_126]
        refine lv_istore (lv' := [(6, .int 1), (0, .ref (ad 0)), (1, .int d), (2, .int t), (3, .int i), (4, .int how), (5, .int x)]) hx hb dX7_nudge_67 hl (by decide) rfl (fun ls hl => ?_)
        refine lv_iload_n hx hb dX7_nudge_69 rfl (lv_at hl 2 rfl) ?_
        refine zCi w (va_runS (As := [.int d]) (rest := []) ⟨hx, hb, hml, hown, hts⟩ (kX7_isFour l G _ d s.heap.size) (va_cwS 1 hts gX7_nudge_X7_isFour rfl rfl rfl (by decide +kernel) ⟨(Nat.le_of_ble_eq_true rfl), (Nat.le_of_ble_eq_true rfl)⟩) (zPS w hK) rfl rfl hl.1 rfl (lv_room (Nat.le_of_ble_eq_true rfl)) dX7_nudge_70 ⟨(Nat.le_of_ble_eq_true rfl), (Nat.le_of_ble_eq_true rfl)⟩) (fun r_135 u H locs hq w => ?_)
        obtain ⟨rfl, e_r_135⟩ := hq
        refine lv_if_eq (tgt := 88) hx hb dX7_nudge_73 (by decide) (fun c_136 => ?_) (fun c_136 => ?_)
        · have p_d := z00 inferInstance e_r_135 c_136
          refine lv_aload_n hx hb dX7_nudge_88 rfl (lv_at hl 1 rfl) ?_
          refine lv_ldc2 hx hb hown (hts (.constantLong RX7 59 (1099511627776)) (by decide +kernel)) dX7_nudge_89 ?_
          refine zCl w (va_runV (As := [.long 1099511627776]) (rest := []) ⟨hx, hb, hml, hown, hts⟩ (kX7_refuse l G ad zNONE zW1 H.size) (cwV 1 hts gX7_nudge_X7_refuse rfl rfl rfl (by decide +kernel) ⟨(Nat.le_of_ble_eq_true rfl), (Nat.le_of_ble_eq_true rfl)⟩) (zPV w hK (va_recv hK.1 w.1 (ci := 6) (q0 := 0) rfl rfl)) rfl rfl hl.1 rfl (lv_room (Nat.le_of_ble_eq_true rfl)) dX7_nudge_92 ⟨(Nat.le_of_ble_eq_true rfl), (Nat.le_of_ble_eq_true rfl)⟩) (fun r_137 u H locs hq w => ?_)
          obtain ⟨rfl, e_r⟩ := hq
          subst e_r
          exact zRl hx hb hr hlk w dX7_nudge_95 (Nat.le_of_ble_eq_true rfl) (Nat.le_of_ble_eq_true rfl) (by show (if _ then _ else _); rw [if_neg (fun q => p_d q.1)]; exact ⟨rfl, rfl⟩)
        · have p_d := z01 inferInstance e_r_135 c_136
          refine lv_iload_n hx hb dX7_nudge_76 rfl (lv_at hl 3 rfl) ?_
          refine zCi w (va_runS (As := [.int t]) (rest := []) ⟨hx, hb, hml, hown, hts⟩ (kX7_isFour l G _ t H.size) (va_cwS 1 hts gX7_nudge_X7_isFour rfl rfl rfl (by decide +kernel) ⟨(Nat.le_of_ble_eq_true rfl), (Nat.le_of_ble_eq_true rfl)⟩) (zPS w hK) rfl rfl hl.1 rfl (lv_room (Nat.le_of_ble_eq_true rfl)) dX7_nudge_77 ⟨(Nat.le_of_ble_eq_true rfl), (Nat.le_of_ble_eq_true rfl)⟩) (fun r_138 u H locs hq w => ?_)
          obtain ⟨rfl, e_r_138⟩ := hq
          refine lv_if_eq (tgt := 88) hx hb dX7_nudge_80 (by decide) (fun c_139 => ?_) (fun c_139 => ?_)
          · have p_t := z00 inferInstance e_r_138 c_139
            refine lv_aload_n hx hb dX7_nudge_88 rfl (lv_at hl 1 rfl) ?_
            refine lv_ldc2 hx hb hown (hts (.constantLong RX7 59 (1099511627776)) (by decide +kernel)) dX7_nudge_89 ?_
            refine zCl w (va_runV (As := [.long 1099511627776]) (rest := []) ⟨hx, hb, hml, hown, hts⟩ (kX7_refuse l G ad zNONE zW1 H.size) (cwV 1 hts gX7_nudge_X7_refuse rfl rfl rfl (by decide +kernel) ⟨(Nat.le_of_ble_eq_true rfl), (Nat.le_of_ble_eq_true rfl)⟩) (zPV w hK (va_recv hK.1 w.1 (ci := 6) (q0 := 0) rfl rfl)) rfl rfl hl.1 rfl (lv_room (Nat.le_of_ble_eq_true rfl)) dX7_nudge_92 ⟨(Nat.le_of_ble_eq_true rfl), (Nat.le_of_ble_eq_true rfl)⟩) (fun r_140 u H locs hq w => ?_)
            obtain ⟨rfl, e_r⟩ := hq
            subst e_r
            exact zRl hx hb hr hlk w dX7_nudge_95 (Nat.le_of_ble_eq_true rfl) (Nat.le_of_ble_eq_true rfl) (by show (if _ then _ else _); rw [if_neg (fun q => p_t q.2.1)]; exact ⟨rfl, rfl⟩)
          · have p_t := z01 inferInstance e_r_138 c_139
            refine lv_iload hx hb dX7_nudge_83 (lv_at hl 0 rfl) ?_
            refine lv_if_ne (tgt := 96) hx hb dX7_nudge_85 (by decide) (fun c_141 => ?_) (fun c_141 => absurd c_141 (by decide))
            refine lv_aload_n hx hb dX7_nudge_96 rfl (lv_at hl 1 rfl) ?_
            refine zget (ci := 6) (C := RX7) (T := TX7) (N := 11) hx hb hts hown hK w (by decide +kernel) 0 rfl rfl 0 (by decide) (hts (.fieldLink RX7 7 "ReelBarnModel" "carried" "[I") (by decide +kernel)) (fun _ h9 => h9) rfl dX7_nudge_97 ?_
            refine lv_iconst (v := 4) hx hb dX7_nudge_100 (by decide) ?_
            refine lv_iload_n hx hb dX7_nudge_101 rfl (lv_at hl 2 rfl) ?_
            refine lv_imul hx hb dX7_nudge_102 ?_
            refine lv_iload_n hx hb dX7_nudge_103 rfl (lv_at hl 3 rfl) ?_
            refine lv_iadd hx hb dX7_nudge_104 ?_
            refine zm_iald hx hb hK w 1 rfl (mix_in p_d p_t) dX7_nudge_105 ?_
            refine lv_istore (lv' := [(7, .int (M 0 (((4 * d) + t).toNatClampNeg))), (6, .int 1), (0, .ref (ad 0)), (1, .int d), (2, .int t), (3, .int i), (4, .int how), (5, .int x)]) hx hb dX7_nudge_106 hl (by decide) rfl (fun ls hl => ?_)
            refine lv_aload_n hx hb dX7_nudge_108 rfl (lv_at hl 2 rfl) ?_
            refine lv_iload hx hb dX7_nudge_109 (lv_at hl 0 rfl) ?_
            refine lv_iload_n hx hb dX7_nudge_111 rfl (lv_at hl 5 rfl) ?_
            refine zCl w (va_runV (As := [.int (M 0 (((4 * d) + t).toNatClampNeg)), .int i]) (rest := []) ⟨hx, hb, hml, hown, hts⟩ (kX7_against l G ad hI (M 0 (mix d t)) i (hI.1 _ (mix_lt p_d p_t)) H.size) (cwV 2 hts gX7_nudge_X7_against rfl rfl rfl (by decide +kernel) ⟨(Nat.le_of_ble_eq_true rfl), (Nat.le_of_ble_eq_true rfl)⟩) (zPV w hK (va_recv hK.1 w.1 (ci := 6) (q0 := 0) rfl rfl)) rfl rfl hl.1 rfl (lv_room (Nat.le_of_ble_eq_true rfl)) dX7_nudge_112 ⟨(Nat.le_of_ble_eq_true rfl), (Nat.le_of_ble_eq_true rfl)⟩) (fun r_142 u H locs hq w => ?_)
            obtain ⟨rfl, e_r⟩ := hq
            subst e_r
            refine lv_lstore (lv' := [(8, .long (mAg M (M 0 (mix d t)) i)), (7, .int (M 0 (((4 * d) + t).toNatClampNeg))), (6, .int 1), (0, .ref (ad 0)), (1, .int d), (2, .int t), (3, .int i), (4, .int how), (5, .int x)]) hx hb dX7_nudge_115 hl (by decide) rfl (fun ls hl => ?_)
            refine lv_lload hx hb dX7_nudge_117 (lv_at hl 0 rfl) ?_
            refine lv_lconst (v := 0) hx hb dX7_nudge_119 (by decide) ?_
            refine W.lcmp hx hb dX7_nudge_120 ?_
            refine lv_if_eq (tgt := 131) hx hb dX7_nudge_121 (by decide) (fun c_143 => ?_) (fun c_143 => ?_)
            · have p_f := zcmp0 c_143
              obtain ⟨hv, hhs⟩ := mAg_0 p_f
              have hmP := hI.1 _ (mix_lt p_d p_t)
              have hat := mat_in hI hmP hv hhs
              have hfl := hI.2.2.2.2.1 _ (zin_lt hat)
              refine lv_iload hx hb dX7_nudge_131 (lv_at hl 7 rfl) ?_
              refine lv_iconst (v := 3) hx hb dX7_nudge_133 (by decide) ?_
              refine lv_icmp_ne (tgt := 150) hx hb dX7_nudge_134 (by decide) (fun c_144 => ?_) (fun c_144 => ?_)
              · have p_v : ¬ (how = 3 ∧ x = 0) := fun q => c_144 q.1
                refine lv_bipush (v := 40) hx hb dX7_nudge_150 (by decide) ?_
                refine lv_iload hx hb dX7_nudge_152 (lv_at hl 1 rfl) ?_
                refine lv_imul hx hb dX7_nudge_154 ?_
                refine lv_iload_n hx hb dX7_nudge_155 rfl (lv_at hl 6 rfl) ?_
                refine lv_iadd hx hb dX7_nudge_156 ?_
                refine lv_istore (lv' := [(10, .int ((40 * (M 0 (((4 * d) + t).toNatClampNeg))) + i)), (8, .long (mAg M (M 0 (mix d t)) i)), (7, .int (M 0 (((4 * d) + t).toNatClampNeg))), (6, .int 1), (0, .ref (ad 0)), (1, .int d), (2, .int t), (3, .int i), (4, .int how), (5, .int x)]) hx hb dX7_nudge_157 hl (by decide) rfl (fun ls hl => ?_)
                refine lv_iload_n hx hb dX7_nudge_159 rfl (lv_at hl 6 rfl) ?_
                refine lv_iconst (v := 2) hx hb dX7_nudge_160 (by decide) ?_
                refine lv_icmp_ne (tgt := 211) hx hb dX7_nudge_161 (by decide) (fun c_145 => ?_) (fun c_145 => ?_)
                · have p_2 := c_145
                  refine lv_aload_n hx hb dX7_nudge_211 rfl (lv_at hl 4 rfl) ?_
                  refine lv_iload_n hx hb dX7_nudge_212 rfl (lv_at hl 6 rfl) ?_
                  refine lv_iload hx hb dX7_nudge_213 (lv_at hl 2 rfl) ?_
                  refine lv_iload_n hx hb dX7_nudge_215 rfl (lv_at hl 7 rfl) ?_
                  refine lv_iload hx hb dX7_nudge_216 (lv_at hl 8 rfl) ?_
                  refine lv_aload_n hx hb dX7_nudge_218 rfl (lv_at hl 4 rfl) ?_
                  refine zget (ci := 6) (C := RX7) (T := TX7) (N := 11) hx hb hts hown hK w (by decide +kernel) 0 rfl rfl 4 (by decide) (hts (.fieldLink RX7 22 "ReelBarnModel" "whole" "[I") (by decide +kernel)) (fun _ h9 => h9) rfl dX7_nudge_219 ?_
                  refine lv_iload hx hb dX7_nudge_222 (lv_at hl 0 rfl) ?_
                  refine zm_iald hx hb hK w 5 rfl hat dX7_nudge_224 ?_
                  refine lv_iload_n hx hb dX7_nudge_225 rfl (lv_at hl 6 rfl) ?_
                  refine lv_iconst (v := 3) hx hb dX7_nudge_226 (by decide) ?_
                  refine lv_icmp_ne (tgt := 237) hx hb dX7_nudge_227 (by decide) (fun c_146 => ?_) (fun c_146 => ?_)
                  · have p_3 := c_146
                    refine lv_iload hx hb dX7_nudge_237 (lv_at hl 9 rfl) ?_
                    refine zCi w (va_runS (As := [.int how, .int (M 4 (((40 * (M 0 (((4 * d) + t).toNatClampNeg))) + i).toNatClampNeg)), .int x]) (rest := [.int i, .int (M 0 (((4 * d) + t).toNatClampNeg)), .int t, .ref (ad 0)]) ⟨hx, hb, hml, hown, hts⟩ (kX7_worked l G _ how (M 4 (mat (M 0 (mix d t)) i)) x (fun q => p_v ⟨q.1, q.2⟩) H.size) (va_cwS 3 hts gX7_nudge_X7_worked rfl rfl rfl (by decide +kernel) ⟨(Nat.le_of_ble_eq_true rfl), (Nat.le_of_ble_eq_true rfl)⟩) (zPS w hK) rfl rfl hl.1 rfl (lv_room (Nat.le_of_ble_eq_true rfl)) dX7_nudge_239 ⟨(Nat.le_of_ble_eq_true rfl), (Nat.le_of_ble_eq_true rfl)⟩) (fun r_147 u H locs hq w => ?_)
                    obtain ⟨rfl, e_r⟩ := hq
                    subst e_r
                    refine zCv w (va_runV (As := [.int t, .int (M 0 (((4 * d) + t).toNatClampNeg)), .int i, .int (zRek (M 4 (mat (M 0 (mix d t)) i)) how x)]) (rest := []) ⟨hx, hb, hml, hown, hts⟩ (kX7_fill l G ad t (M 0 (mix d t)) i (zRek (M 4 (mat (M 0 (mix d t)) i)) how x) hat H.size) (cwV 4 hts gX7_nudge_X7_fill rfl rfl rfl (by decide +kernel) ⟨(Nat.le_of_ble_eq_true rfl), (Nat.le_of_ble_eq_true rfl)⟩) (zPV w hK (va_recv hK.1 w.1 (ci := 6) (q0 := 0) rfl rfl)) rfl rfl hl.1 rfl (lv_room (Nat.le_of_ble_eq_true rfl)) dX7_nudge_242 ⟨(Nat.le_of_ble_eq_true rfl), (Nat.le_of_ble_eq_true rfl)⟩) (fun u H locs hq w => ?_)
                    subst hq
                    refine lv_aload_n hx hb dX7_nudge_245 rfl (lv_at hl 4 rfl) ?_
                    refine lv_iload_n hx hb dX7_nudge_246 rfl (lv_at hl 6 rfl) ?_
                    refine lv_iload hx hb dX7_nudge_247 (lv_at hl 2 rfl) ?_
                    refine lv_iload_n hx hb dX7_nudge_249 rfl (lv_at hl 7 rfl) ?_
                    refine zCl w (va_runV (As := [.int t, .int (M 0 (((4 * d) + t).toNatClampNeg)), .int i]) (rest := []) ⟨hx, hb, hml, hown, hts⟩ (kX7_told (M := (mFM M t (mat (M 0 (mix d t)) i) (zRek (M 4 (mat (M 0 (mix d t)) i)) how x))) (lev := (mFL lev t (mat (M 0 (mix d t)) i) (zEi (zRek (M 4 (mat (M 0 (mix d t)) i)) how x)))) l G ad t (M 0 (mix d t)) i hat (mFL_fin hfl (zn32 (zEi_fin _).notNaN)) H.size) (cwV 3 hts gX7_nudge_X7_told rfl rfl rfl (by decide +kernel) ⟨(Nat.le_of_ble_eq_true rfl), (Nat.le_of_ble_eq_true rfl)⟩) (zPV w hK (va_recv hK.1 w.1 (ci := 6) (q0 := 0) rfl rfl)) rfl rfl hl.1 rfl (lv_room (Nat.le_of_ble_eq_true rfl)) dX7_nudge_250 ⟨(Nat.le_of_ble_eq_true rfl), (Nat.le_of_ble_eq_true rfl)⟩) (fun r_148 u H locs hq w => ?_)
                    obtain ⟨rfl, e_r⟩ := hq
                    subst e_r
                    exact zRl hx hb hr hlk w dX7_nudge_253 (Nat.le_of_ble_eq_true rfl) (Nat.le_of_ble_eq_true rfl) (by show (if _ then _ else _); rw [if_pos ⟨p_d, p_t, p_k⟩]; (first | rw [if_pos p_f] | rw [if_neg p_f]); (first | rw [if_pos p_v] | rw [if_neg p_v]); (first | rw [if_pos p_2] | rw [if_neg p_2]); (try (first | rw [if_pos p_3] | rw [if_neg p_3])); exact ⟨rfl, rfl⟩)
                  · have p_3 := c_146
                    refine lv_iload hx hb dX7_nudge_230 (lv_at hl 9 rfl) ?_
                    refine lv_iconst (v := 1) hx hb dX7_nudge_232 (by decide) ?_
                    refine lv_iand hx hb dX7_nudge_233 ?_
                    refine lv_goto (tgt := 239) hx hb dX7_nudge_234 (by decide) ?_
                    refine zCi w (va_runS (As := [.int how, .int (M 4 (((40 * (M 0 (((4 * d) + t).toNatClampNeg))) + i).toNatClampNeg)), .int (x &&& 1)]) (rest := [.int i, .int (M 0 (((4 * d) + t).toNatClampNeg)), .int t, .ref (ad 0)]) ⟨hx, hb, hml, hown, hts⟩ (kX7_worked l G _ how (M 4 (mat (M 0 (mix d t)) i)) (x &&& 1) (mKn_dv p_k p_3) H.size) (va_cwS 3 hts gX7_nudge_X7_worked rfl rfl rfl (by decide +kernel) ⟨(Nat.le_of_ble_eq_true rfl), (Nat.le_of_ble_eq_true rfl)⟩) (zPS w hK) rfl rfl hl.1 rfl (lv_room (Nat.le_of_ble_eq_true rfl)) dX7_nudge_239 ⟨(Nat.le_of_ble_eq_true rfl), (Nat.le_of_ble_eq_true rfl)⟩) (fun r_149 u H locs hq w => ?_)
                    obtain ⟨rfl, e_r⟩ := hq
                    subst e_r
                    refine zCv w (va_runV (As := [.int t, .int (M 0 (((4 * d) + t).toNatClampNeg)), .int i, .int (zRek (M 4 (mat (M 0 (mix d t)) i)) how (x &&& 1))]) (rest := []) ⟨hx, hb, hml, hown, hts⟩ (kX7_fill l G ad t (M 0 (mix d t)) i (zRek (M 4 (mat (M 0 (mix d t)) i)) how (x &&& 1)) hat H.size) (cwV 4 hts gX7_nudge_X7_fill rfl rfl rfl (by decide +kernel) ⟨(Nat.le_of_ble_eq_true rfl), (Nat.le_of_ble_eq_true rfl)⟩) (zPV w hK (va_recv hK.1 w.1 (ci := 6) (q0 := 0) rfl rfl)) rfl rfl hl.1 rfl (lv_room (Nat.le_of_ble_eq_true rfl)) dX7_nudge_242 ⟨(Nat.le_of_ble_eq_true rfl), (Nat.le_of_ble_eq_true rfl)⟩) (fun u H locs hq w => ?_)
                    subst hq
                    refine lv_aload_n hx hb dX7_nudge_245 rfl (lv_at hl 4 rfl) ?_
                    refine lv_iload_n hx hb dX7_nudge_246 rfl (lv_at hl 6 rfl) ?_
                    refine lv_iload hx hb dX7_nudge_247 (lv_at hl 2 rfl) ?_
                    refine lv_iload_n hx hb dX7_nudge_249 rfl (lv_at hl 7 rfl) ?_
                    refine zCl w (va_runV (As := [.int t, .int (M 0 (((4 * d) + t).toNatClampNeg)), .int i]) (rest := []) ⟨hx, hb, hml, hown, hts⟩ (kX7_told (M := (mFM M t (mat (M 0 (mix d t)) i) (zRek (M 4 (mat (M 0 (mix d t)) i)) how (x &&& 1)))) (lev := (mFL lev t (mat (M 0 (mix d t)) i) (zEi (zRek (M 4 (mat (M 0 (mix d t)) i)) how (x &&& 1))))) l G ad t (M 0 (mix d t)) i hat (mFL_fin hfl (zn32 (zEi_fin _).notNaN)) H.size) (cwV 3 hts gX7_nudge_X7_told rfl rfl rfl (by decide +kernel) ⟨(Nat.le_of_ble_eq_true rfl), (Nat.le_of_ble_eq_true rfl)⟩) (zPV w hK (va_recv hK.1 w.1 (ci := 6) (q0 := 0) rfl rfl)) rfl rfl hl.1 rfl (lv_room (Nat.le_of_ble_eq_true rfl)) dX7_nudge_250 ⟨(Nat.le_of_ble_eq_true rfl), (Nat.le_of_ble_eq_true rfl)⟩) (fun r_150 u H locs hq w => ?_)
                    obtain ⟨rfl, e_r⟩ := hq
                    subst e_r
                    exact zRl hx hb hr hlk w dX7_nudge_253 (Nat.le_of_ble_eq_true rfl) (Nat.le_of_ble_eq_true rfl) (by show (if _ then _ else _); rw [if_pos ⟨p_d, p_t, p_k⟩]; (first | rw [if_pos p_f] | rw [if_neg p_f]); (first | rw [if_pos p_v] | rw [if_neg p_v]); (first | rw [if_pos p_2] | rw [if_neg p_2]); (try (first | rw [if_pos p_3] | rw [if_neg p_3])); exact ⟨rfl, rfl⟩)
                · have p_2 := c_145
                  refine lv_aload_n hx hb dX7_nudge_164 rfl (lv_at hl 4 rfl) ?_
                  refine zget (ci := 6) (C := RX7) (T := TX7) (N := 11) hx hb hts hown hK w (by decide +kernel) 0 rfl rfl 5 (by decide) (hts (.fieldLink RX7 25 "ReelBarnModel" "level" "[F") (by decide +kernel)) (fun _ h9 => h9) rfl dX7_nudge_165 ?_
                  refine lv_iload hx hb dX7_nudge_168 (lv_at hl 0 rfl) ?_
                  refine lv_iload hx hb dX7_nudge_170 (lv_at hl 8 rfl) ?_
                  refine lv_if_ne (tgt := 191) hx hb dX7_nudge_172 (by decide) (fun c_151 => ?_) (fun c_151 => ?_)
                  · have p_h := c_151
                    refine lv_aload_n hx hb dX7_nudge_191 rfl (lv_at hl 4 rfl) ?_
                    refine zget (ci := 6) (C := RX7) (T := TX7) (N := 11) hx hb hts hown hK w (by decide +kernel) 0 rfl rfl 5 (by decide) (hts (.fieldLink RX7 25 "ReelBarnModel" "level" "[F") (by decide +kernel)) (fun _ h9 => h9) rfl dX7_nudge_192 ?_
                    refine lv_iload hx hb dX7_nudge_195 (lv_at hl 0 rfl) ?_
                    refine zm_fald hx hb hK w 6 rfl hat dX7_nudge_197 ?_
                    refine lv_iload hx hb dX7_nudge_198 (lv_at hl 9 rfl) ?_
                    refine zCf w (va_runS (As := [.int x]) (rest := [.float (lev (((40 * (M 0 (((4 * d) + t).toNatClampNeg))) + i).toNatClampNeg)), .int ((40 * (M 0 (((4 * d) + t).toNatClampNeg))) + i), .ref (ad 6)]) ⟨hx, hb, hml, hown, hts⟩ (kX7_eighth l G _ x H.size) (va_cwS 1 hts gX7_nudge_X7_eighth rfl rfl rfl (by decide +kernel) ⟨(Nat.le_of_ble_eq_true rfl), (Nat.le_of_ble_eq_true rfl)⟩) (zPS w hK) rfl rfl hl.1 rfl (lv_room (Nat.le_of_ble_eq_true rfl)) dX7_nudge_200 ⟨(Nat.le_of_ble_eq_true rfl), (Nat.le_of_ble_eq_true rfl)⟩) (fun r_152 u H locs hq w => ?_)
                    obtain ⟨rfl, e_r⟩ := hq
                    subst e_r
                    refine lv_fsub hx hb dX7_nudge_203 (zsub hfl (zEi_fin x)) ?_
                    refine zCf w (va_runS (As := [.float (FP.fsub (lev (((40 * (M 0 (((4 * d) + t).toNatClampNeg))) + i).toNatClampNeg)) (zEi x))]) (rest := [.int ((40 * (M 0 (((4 * d) + t).toNatClampNeg))) + i), .ref (ad 6)]) ⟨hx, hb, hml, hown, hts⟩ (kX7_held l G _ (FP.fsub (lev (((40 * (M 0 (((4 * d) + t).toNatClampNeg))) + i).toNatClampNeg)) (zEi x)) H.size) (va_cwS 1 hts gX7_nudge_X7_held rfl rfl rfl (by decide +kernel) ⟨(Nat.le_of_ble_eq_true rfl), (Nat.le_of_ble_eq_true rfl)⟩) (zPS w hK) rfl rfl hl.1 rfl (lv_room (Nat.le_of_ble_eq_true rfl)) dX7_nudge_204 ⟨(Nat.le_of_ble_eq_true rfl), (Nat.le_of_ble_eq_true rfl)⟩) (fun r_153 u H locs hq w => ?_)
                    obtain ⟨rfl, e_r⟩ := hq
                    subst e_r
                    refine zm_fast hx hb hK w 6 rfl hat dX7_nudge_207 (fun H locs w => ?_)
                    have w : zW G A s H locs (mW G ad M (vf_upd lev (((40 * (M 0 (((4 * d) + t).toNatClampNeg))) + i).toNatClampNeg) (zHe (FP.fsub (lev (((40 * (M 0 (((4 * d) + t).toNatClampNeg))) + i).toNatClampNeg)) (zEi x))))) := w
                    refine lv_goto (tgt := 245) hx hb dX7_nudge_208 (by decide) ?_
                    refine lv_aload_n hx hb dX7_nudge_245 rfl (lv_at hl 4 rfl) ?_
                    refine lv_iload_n hx hb dX7_nudge_246 rfl (lv_at hl 6 rfl) ?_
                    refine lv_iload hx hb dX7_nudge_247 (lv_at hl 2 rfl) ?_
                    refine lv_iload_n hx hb dX7_nudge_249 rfl (lv_at hl 7 rfl) ?_
                    refine zCl w (va_runV (As := [.int t, .int (M 0 (((4 * d) + t).toNatClampNeg)), .int i]) (rest := []) ⟨hx, hb, hml, hown, hts⟩ (kX7_told (M := M) (lev := (vf_upd lev (((40 * (M 0 (((4 * d) + t).toNatClampNeg))) + i).toNatClampNeg) (zHe (FP.fsub (lev (((40 * (M 0 (((4 * d) + t).toNatClampNeg))) + i).toNatClampNeg)) (zEi x))))) l G ad t (M 0 (mix d t)) i hat ((by show zFin (vf_upd lev _ _ _); unfold vf_upd; rw [if_pos rfl]; exact zHe_fin (zsub hfl (zEi_fin x)))) H.size) (cwV 3 hts gX7_nudge_X7_told rfl rfl rfl (by decide +kernel) ⟨(Nat.le_of_ble_eq_true rfl), (Nat.le_of_ble_eq_true rfl)⟩) (zPV w hK (va_recv hK.1 w.1 (ci := 6) (q0 := 0) rfl rfl)) rfl rfl hl.1 rfl (lv_room (Nat.le_of_ble_eq_true rfl)) dX7_nudge_250 ⟨(Nat.le_of_ble_eq_true rfl), (Nat.le_of_ble_eq_true rfl)⟩) (fun r_154 u H locs hq w => ?_)
                    obtain ⟨rfl, e_r⟩ := hq
                    subst e_r
                    exact zRl hx hb hr hlk w dX7_nudge_253 (Nat.le_of_ble_eq_true rfl) (Nat.le_of_ble_eq_true rfl) (by show (if _ then _ else _); rw [if_pos ⟨p_d, p_t, p_k⟩]; (first | rw [if_pos p_f] | rw [if_neg p_f]); (first | rw [if_pos p_v] | rw [if_neg p_v]); (first | rw [if_pos p_2] | rw [if_neg p_2]); (try (first | rw [if_pos p_h] | rw [if_neg p_h])); exact ⟨rfl, rfl⟩)
                  · have p_h := c_151
                    refine lv_aload_n hx hb dX7_nudge_175 rfl (lv_at hl 4 rfl) ?_
                    refine zget (ci := 6) (C := RX7) (T := TX7) (N := 11) hx hb hts hown hK w (by decide +kernel) 0 rfl rfl 5 (by decide) (hts (.fieldLink RX7 25 "ReelBarnModel" "level" "[F") (by decide +kernel)) (fun _ h9 => h9) rfl dX7_nudge_176 ?_
                    refine lv_iload hx hb dX7_nudge_179 (lv_at hl 0 rfl) ?_
                    refine zm_fald hx hb hK w 6 rfl hat dX7_nudge_181 ?_
                    refine lv_iload hx hb dX7_nudge_182 (lv_at hl 9 rfl) ?_
                    refine zCf w (va_runS (As := [.int x]) (rest := [.float (lev (((40 * (M 0 (((4 * d) + t).toNatClampNeg))) + i).toNatClampNeg)), .int ((40 * (M 0 (((4 * d) + t).toNatClampNeg))) + i), .ref (ad 6)]) ⟨hx, hb, hml, hown, hts⟩ (kX7_eighth l G _ x H.size) (va_cwS 1 hts gX7_nudge_X7_eighth rfl rfl rfl (by decide +kernel) ⟨(Nat.le_of_ble_eq_true rfl), (Nat.le_of_ble_eq_true rfl)⟩) (zPS w hK) rfl rfl hl.1 rfl (lv_room (Nat.le_of_ble_eq_true rfl)) dX7_nudge_184 ⟨(Nat.le_of_ble_eq_true rfl), (Nat.le_of_ble_eq_true rfl)⟩) (fun r_155 u H locs hq w => ?_)
                    obtain ⟨rfl, e_r⟩ := hq
                    subst e_r
                    refine lv_fadd hx hb dX7_nudge_187 (zadd hfl (zEi_fin x)) ?_
                    refine lv_goto (tgt := 204) hx hb dX7_nudge_188 (by decide) ?_
                    refine zCf w (va_runS (As := [.float (FP.fadd (lev (((40 * (M 0 (((4 * d) + t).toNatClampNeg))) + i).toNatClampNeg)) (zEi x))]) (rest := [.int ((40 * (M 0 (((4 * d) + t).toNatClampNeg))) + i), .ref (ad 6)]) ⟨hx, hb, hml, hown, hts⟩ (kX7_held l G _ (FP.fadd (lev (((40 * (M 0 (((4 * d) + t).toNatClampNeg))) + i).toNatClampNeg)) (zEi x)) H.size) (va_cwS 1 hts gX7_nudge_X7_held rfl rfl rfl (by decide +kernel) ⟨(Nat.le_of_ble_eq_true rfl), (Nat.le_of_ble_eq_true rfl)⟩) (zPS w hK) rfl rfl hl.1 rfl (lv_room (Nat.le_of_ble_eq_true rfl)) dX7_nudge_204 ⟨(Nat.le_of_ble_eq_true rfl), (Nat.le_of_ble_eq_true rfl)⟩) (fun r_156 u H locs hq w => ?_)
                    obtain ⟨rfl, e_r⟩ := hq
                    subst e_r
                    refine zm_fast hx hb hK w 6 rfl hat dX7_nudge_207 (fun H locs w => ?_)
                    have w : zW G A s H locs (mW G ad M (vf_upd lev (((40 * (M 0 (((4 * d) + t).toNatClampNeg))) + i).toNatClampNeg) (zHe (FP.fadd (lev (((40 * (M 0 (((4 * d) + t).toNatClampNeg))) + i).toNatClampNeg)) (zEi x))))) := w
                    refine lv_goto (tgt := 245) hx hb dX7_nudge_208 (by decide) ?_
                    refine lv_aload_n hx hb dX7_nudge_245 rfl (lv_at hl 4 rfl) ?_
                    refine lv_iload_n hx hb dX7_nudge_246 rfl (lv_at hl 6 rfl) ?_
                    refine lv_iload hx hb dX7_nudge_247 (lv_at hl 2 rfl) ?_
                    refine lv_iload_n hx hb dX7_nudge_249 rfl (lv_at hl 7 rfl) ?_
                    refine zCl w (va_runV (As := [.int t, .int (M 0 (((4 * d) + t).toNatClampNeg)), .int i]) (rest := []) ⟨hx, hb, hml, hown, hts⟩ (kX7_told (M := M) (lev := (vf_upd lev (((40 * (M 0 (((4 * d) + t).toNatClampNeg))) + i).toNatClampNeg) (zHe (FP.fadd (lev (((40 * (M 0 (((4 * d) + t).toNatClampNeg))) + i).toNatClampNeg)) (zEi x))))) l G ad t (M 0 (mix d t)) i hat ((by show zFin (vf_upd lev _ _ _); unfold vf_upd; rw [if_pos rfl]; exact zHe_fin (zadd hfl (zEi_fin x)))) H.size) (cwV 3 hts gX7_nudge_X7_told rfl rfl rfl (by decide +kernel) ⟨(Nat.le_of_ble_eq_true rfl), (Nat.le_of_ble_eq_true rfl)⟩) (zPV w hK (va_recv hK.1 w.1 (ci := 6) (q0 := 0) rfl rfl)) rfl rfl hl.1 rfl (lv_room (Nat.le_of_ble_eq_true rfl)) dX7_nudge_250 ⟨(Nat.le_of_ble_eq_true rfl), (Nat.le_of_ble_eq_true rfl)⟩) (fun r_157 u H locs hq w => ?_)
                    obtain ⟨rfl, e_r⟩ := hq
                    subst e_r
                    exact zRl hx hb hr hlk w dX7_nudge_253 (Nat.le_of_ble_eq_true rfl) (Nat.le_of_ble_eq_true rfl) (by show (if _ then _ else _); rw [if_pos ⟨p_d, p_t, p_k⟩]; (first | rw [if_pos p_f] | rw [if_neg p_f]); (first | rw [if_pos p_v] | rw [if_neg p_v]); (first | rw [if_pos p_2] | rw [if_neg p_2]); (try (first | rw [if_pos p_h] | rw [if_neg p_h])); exact ⟨rfl, rfl⟩)
              · have q_v := c_144
                refine lv_iload hx hb dX7_nudge_137 (lv_at hl 8 rfl) ?_
                refine lv_if_ne (tgt := 150) hx hb dX7_nudge_139 (by decide) (fun c_158 => ?_) (fun c_158 => ?_)
                · have p_v : ¬ (how = 3 ∧ x = 0) := fun q => c_158 q.2
                  refine lv_bipush (v := 40) hx hb dX7_nudge_150 (by decide) ?_
                  refine lv_iload hx hb dX7_nudge_152 (lv_at hl 1 rfl) ?_
                  refine lv_imul hx hb dX7_nudge_154 ?_
                  refine lv_iload_n hx hb dX7_nudge_155 rfl (lv_at hl 6 rfl) ?_
                  refine lv_iadd hx hb dX7_nudge_156 ?_
                  refine lv_istore (lv' := [(10, .int ((40 * (M 0 (((4 * d) + t).toNatClampNeg))) + i)), (8, .long (mAg M (M 0 (mix d t)) i)), (7, .int (M 0 (((4 * d) + t).toNatClampNeg))), (6, .int 1), (0, .ref (ad 0)), (1, .int d), (2, .int t), (3, .int i), (4, .int how), (5, .int x)]) hx hb dX7_nudge_157 hl (by decide) rfl (fun ls hl => ?_)
                  refine lv_iload_n hx hb dX7_nudge_159 rfl (lv_at hl 6 rfl) ?_
                  refine lv_iconst (v := 2) hx hb dX7_nudge_160 (by decide) ?_
                  refine lv_icmp_ne (tgt := 211) hx hb dX7_nudge_161 (by decide) (fun c_159 => ?_) (fun c_159 => ?_)
                  · have p_2 := c_159
                    refine lv_aload_n hx hb dX7_nudge_211 rfl (lv_at hl 4 rfl) ?_
                    refine lv_iload_n hx hb dX7_nudge_212 rfl (lv_at hl 6 rfl) ?_
                    refine lv_iload hx hb dX7_nudge_213 (lv_at hl 2 rfl) ?_
                    refine lv_iload_n hx hb dX7_nudge_215 rfl (lv_at hl 7 rfl) ?_
                    refine lv_iload hx hb dX7_nudge_216 (lv_at hl 8 rfl) ?_
                    refine lv_aload_n hx hb dX7_nudge_218 rfl (lv_at hl 4 rfl) ?_
                    refine zget (ci := 6) (C := RX7) (T := TX7) (N := 11) hx hb hts hown hK w (by decide +kernel) 0 rfl rfl 4 (by decide) (hts (.fieldLink RX7 22 "ReelBarnModel" "whole" "[I") (by decide +kernel)) (fun _ h9 => h9) rfl dX7_nudge_219 ?_
                    refine lv_iload hx hb dX7_nudge_222 (lv_at hl 0 rfl) ?_
                    refine zm_iald hx hb hK w 5 rfl hat dX7_nudge_224 ?_
                    refine lv_iload_n hx hb dX7_nudge_225 rfl (lv_at hl 6 rfl) ?_
                    refine lv_iconst (v := 3) hx hb dX7_nudge_226 (by decide) ?_
                    refine lv_icmp_ne (tgt := 237) hx hb dX7_nudge_227 (by decide) (fun c_160 => ?_) (fun c_160 => ?_)
                    · have p_3 := c_160
                      refine lv_iload hx hb dX7_nudge_237 (lv_at hl 9 rfl) ?_
                      refine zCi w (va_runS (As := [.int how, .int (M 4 (((40 * (M 0 (((4 * d) + t).toNatClampNeg))) + i).toNatClampNeg)), .int x]) (rest := [.int i, .int (M 0 (((4 * d) + t).toNatClampNeg)), .int t, .ref (ad 0)]) ⟨hx, hb, hml, hown, hts⟩ (kX7_worked l G _ how (M 4 (mat (M 0 (mix d t)) i)) x (fun q => p_v ⟨q.1, q.2⟩) H.size) (va_cwS 3 hts gX7_nudge_X7_worked rfl rfl rfl (by decide +kernel) ⟨(Nat.le_of_ble_eq_true rfl), (Nat.le_of_ble_eq_true rfl)⟩) (zPS w hK) rfl rfl hl.1 rfl (lv_room (Nat.le_of_ble_eq_true rfl)) dX7_nudge_239 ⟨(Nat.le_of_ble_eq_true rfl), (Nat.le_of_ble_eq_true rfl)⟩) (fun r_161 u H locs hq w => ?_)
                      obtain ⟨rfl, e_r⟩ := hq
                      subst e_r
                      refine zCv w (va_runV (As := [.int t, .int (M 0 (((4 * d) + t).toNatClampNeg)), .int i, .int (zRek (M 4 (mat (M 0 (mix d t)) i)) how x)]) (rest := []) ⟨hx, hb, hml, hown, hts⟩ (kX7_fill l G ad t (M 0 (mix d t)) i (zRek (M 4 (mat (M 0 (mix d t)) i)) how x) hat H.size) (cwV 4 hts gX7_nudge_X7_fill rfl rfl rfl (by decide +kernel) ⟨(Nat.le_of_ble_eq_true rfl), (Nat.le_of_ble_eq_true rfl)⟩) (zPV w hK (va_recv hK.1 w.1 (ci := 6) (q0 := 0) rfl rfl)) rfl rfl hl.1 rfl (lv_room (Nat.le_of_ble_eq_true rfl)) dX7_nudge_242 ⟨(Nat.le_of_ble_eq_true rfl), (Nat.le_of_ble_eq_true rfl)⟩) (fun u H locs hq w => ?_)
                      subst hq
                      refine lv_aload_n hx hb dX7_nudge_245 rfl (lv_at hl 4 rfl) ?_
                      refine lv_iload_n hx hb dX7_nudge_246 rfl (lv_at hl 6 rfl) ?_
                      refine lv_iload hx hb dX7_nudge_247 (lv_at hl 2 rfl) ?_
                      refine lv_iload_n hx hb dX7_nudge_249 rfl (lv_at hl 7 rfl) ?_
                      refine zCl w (va_runV (As := [.int t, .int (M 0 (((4 * d) + t).toNatClampNeg)), .int i]) (rest := []) ⟨hx, hb, hml, hown, hts⟩ (kX7_told (M := (mFM M t (mat (M 0 (mix d t)) i) (zRek (M 4 (mat (M 0 (mix d t)) i)) how x))) (lev := (mFL lev t (mat (M 0 (mix d t)) i) (zEi (zRek (M 4 (mat (M 0 (mix d t)) i)) how x)))) l G ad t (M 0 (mix d t)) i hat (mFL_fin hfl (zn32 (zEi_fin _).notNaN)) H.size) (cwV 3 hts gX7_nudge_X7_told rfl rfl rfl (by decide +kernel) ⟨(Nat.le_of_ble_eq_true rfl), (Nat.le_of_ble_eq_true rfl)⟩) (zPV w hK (va_recv hK.1 w.1 (ci := 6) (q0 := 0) rfl rfl)) rfl rfl hl.1 rfl (lv_room (Nat.le_of_ble_eq_true rfl)) dX7_nudge_250 ⟨(Nat.le_of_ble_eq_true rfl), (Nat.le_of_ble_eq_true rfl)⟩) (fun r_162 u H locs hq w => ?_)
                      obtain ⟨rfl, e_r⟩ := hq
                      subst e_r
                      exact zRl hx hb hr hlk w dX7_nudge_253 (Nat.le_of_ble_eq_true rfl) (Nat.le_of_ble_eq_true rfl) (by show (if _ then _ else _); rw [if_pos ⟨p_d, p_t, p_k⟩]; (first | rw [if_pos p_f] | rw [if_neg p_f]); (first | rw [if_pos p_v] | rw [if_neg p_v]); (first | rw [if_pos p_2] | rw [if_neg p_2]); (try (first | rw [if_pos p_3] | rw [if_neg p_3])); exact ⟨rfl, rfl⟩)
                    · have p_3 := c_160
                      refine lv_iload hx hb dX7_nudge_230 (lv_at hl 9 rfl) ?_
                      refine lv_iconst (v := 1) hx hb dX7_nudge_232 (by decide) ?_
                      refine lv_iand hx hb dX7_nudge_233 ?_
                      refine lv_goto (tgt := 239) hx hb dX7_nudge_234 (by decide) ?_
                      refine zCi w (va_runS (As := [.int how, .int (M 4 (((40 * (M 0 (((4 * d) + t).toNatClampNeg))) + i).toNatClampNeg)), .int (x &&& 1)]) (rest := [.int i, .int (M 0 (((4 * d) + t).toNatClampNeg)), .int t, .ref (ad 0)]) ⟨hx, hb, hml, hown, hts⟩ (kX7_worked l G _ how (M 4 (mat (M 0 (mix d t)) i)) (x &&& 1) (mKn_dv p_k p_3) H.size) (va_cwS 3 hts gX7_nudge_X7_worked rfl rfl rfl (by decide +kernel) ⟨(Nat.le_of_ble_eq_true rfl), (Nat.le_of_ble_eq_true rfl)⟩) (zPS w hK) rfl rfl hl.1 rfl (lv_room (Nat.le_of_ble_eq_true rfl)) dX7_nudge_239 ⟨(Nat.le_of_ble_eq_true rfl), (Nat.le_of_ble_eq_true rfl)⟩) (fun r_163 u H locs hq w => ?_)
                      obtain ⟨rfl, e_r⟩ := hq
                      subst e_r
                      refine zCv w (va_runV (As := [.int t, .int (M 0 (((4 * d) + t).toNatClampNeg)), .int i, .int (zRek (M 4 (mat (M 0 (mix d t)) i)) how (x &&& 1))]) (rest := []) ⟨hx, hb, hml, hown, hts⟩ (kX7_fill l G ad t (M 0 (mix d t)) i (zRek (M 4 (mat (M 0 (mix d t)) i)) how (x &&& 1)) hat H.size) (cwV 4 hts gX7_nudge_X7_fill rfl rfl rfl (by decide +kernel) ⟨(Nat.le_of_ble_eq_true rfl), (Nat.le_of_ble_eq_true rfl)⟩) (zPV w hK (va_recv hK.1 w.1 (ci := 6) (q0 := 0) rfl rfl)) rfl rfl hl.1 rfl (lv_room (Nat.le_of_ble_eq_true rfl)) dX7_nudge_242 ⟨(Nat.le_of_ble_eq_true rfl), (Nat.le_of_ble_eq_true rfl)⟩) (fun u H locs hq w => ?_)
                      subst hq
                      refine lv_aload_n hx hb dX7_nudge_245 rfl (lv_at hl 4 rfl) ?_
                      refine lv_iload_n hx hb dX7_nudge_246 rfl (lv_at hl 6 rfl) ?_
                      refine lv_iload hx hb dX7_nudge_247 (lv_at hl 2 rfl) ?_
                      refine lv_iload_n hx hb dX7_nudge_249 rfl (lv_at hl 7 rfl) ?_
                      refine zCl w (va_runV (As := [.int t, .int (M 0 (((4 * d) + t).toNatClampNeg)), .int i]) (rest := []) ⟨hx, hb, hml, hown, hts⟩ (kX7_told (M := (mFM M t (mat (M 0 (mix d t)) i) (zRek (M 4 (mat (M 0 (mix d t)) i)) how (x &&& 1)))) (lev := (mFL lev t (mat (M 0 (mix d t)) i) (zEi (zRek (M 4 (mat (M 0 (mix d t)) i)) how (x &&& 1))))) l G ad t (M 0 (mix d t)) i hat (mFL_fin hfl (zn32 (zEi_fin _).notNaN)) H.size) (cwV 3 hts gX7_nudge_X7_told rfl rfl rfl (by decide +kernel) ⟨(Nat.le_of_ble_eq_true rfl), (Nat.le_of_ble_eq_true rfl)⟩) (zPV w hK (va_recv hK.1 w.1 (ci := 6) (q0 := 0) rfl rfl)) rfl rfl hl.1 rfl (lv_room (Nat.le_of_ble_eq_true rfl)) dX7_nudge_250 ⟨(Nat.le_of_ble_eq_true rfl), (Nat.le_of_ble_eq_true rfl)⟩) (fun r_164 u H locs hq w => ?_)
                      obtain ⟨rfl, e_r⟩ := hq
                      subst e_r
                      exact zRl hx hb hr hlk w dX7_nudge_253 (Nat.le_of_ble_eq_true rfl) (Nat.le_of_ble_eq_true rfl) (by show (if _ then _ else _); rw [if_pos ⟨p_d, p_t, p_k⟩]; (first | rw [if_pos p_f] | rw [if_neg p_f]); (first | rw [if_pos p_v] | rw [if_neg p_v]); (first | rw [if_pos p_2] | rw [if_neg p_2]); (try (first | rw [if_pos p_3] | rw [if_neg p_3])); exact ⟨rfl, rfl⟩)
                  · have p_2 := c_159
                    refine lv_aload_n hx hb dX7_nudge_164 rfl (lv_at hl 4 rfl) ?_
                    refine zget (ci := 6) (C := RX7) (T := TX7) (N := 11) hx hb hts hown hK w (by decide +kernel) 0 rfl rfl 5 (by decide) (hts (.fieldLink RX7 25 "ReelBarnModel" "level" "[F") (by decide +kernel)) (fun _ h9 => h9) rfl dX7_nudge_165 ?_
                    refine lv_iload hx hb dX7_nudge_168 (lv_at hl 0 rfl) ?_
                    refine lv_iload hx hb dX7_nudge_170 (lv_at hl 8 rfl) ?_
                    refine lv_if_ne (tgt := 191) hx hb dX7_nudge_172 (by decide) (fun c_165 => ?_) (fun c_165 => ?_)
                    · have p_h := c_165
                      refine lv_aload_n hx hb dX7_nudge_191 rfl (lv_at hl 4 rfl) ?_
                      refine zget (ci := 6) (C := RX7) (T := TX7) (N := 11) hx hb hts hown hK w (by decide +kernel) 0 rfl rfl 5 (by decide) (hts (.fieldLink RX7 25 "ReelBarnModel" "level" "[F") (by decide +kernel)) (fun _ h9 => h9) rfl dX7_nudge_192 ?_
                      refine lv_iload hx hb dX7_nudge_195 (lv_at hl 0 rfl) ?_
                      refine zm_fald hx hb hK w 6 rfl hat dX7_nudge_197 ?_
                      refine lv_iload hx hb dX7_nudge_198 (lv_at hl 9 rfl) ?_
                      refine zCf w (va_runS (As := [.int x]) (rest := [.float (lev (((40 * (M 0 (((4 * d) + t).toNatClampNeg))) + i).toNatClampNeg)), .int ((40 * (M 0 (((4 * d) + t).toNatClampNeg))) + i), .ref (ad 6)]) ⟨hx, hb, hml, hown, hts⟩ (kX7_eighth l G _ x H.size) (va_cwS 1 hts gX7_nudge_X7_eighth rfl rfl rfl (by decide +kernel) ⟨(Nat.le_of_ble_eq_true rfl), (Nat.le_of_ble_eq_true rfl)⟩) (zPS w hK) rfl rfl hl.1 rfl (lv_room (Nat.le_of_ble_eq_true rfl)) dX7_nudge_200 ⟨(Nat.le_of_ble_eq_true rfl), (Nat.le_of_ble_eq_true rfl)⟩) (fun r_166 u H locs hq w => ?_)
                      obtain ⟨rfl, e_r⟩ := hq
                      subst e_r
                      refine lv_fsub hx hb dX7_nudge_203 (zsub hfl (zEi_fin x)) ?_
                      refine zCf w (va_runS (As := [.float (FP.fsub (lev (((40 * (M 0 (((4 * d) + t).toNatClampNeg))) + i).toNatClampNeg)) (zEi x))]) (rest := [.int ((40 * (M 0 (((4 * d) + t).toNatClampNeg))) + i), .ref (ad 6)]) ⟨hx, hb, hml, hown, hts⟩ (kX7_held l G _ (FP.fsub (lev (((40 * (M 0 (((4 * d) + t).toNatClampNeg))) + i).toNatClampNeg)) (zEi x)) H.size) (va_cwS 1 hts gX7_nudge_X7_held rfl rfl rfl (by decide +kernel) ⟨(Nat.le_of_ble_eq_true rfl), (Nat.le_of_ble_eq_true rfl)⟩) (zPS w hK) rfl rfl hl.1 rfl (lv_room (Nat.le_of_ble_eq_true rfl)) dX7_nudge_204 ⟨(Nat.le_of_ble_eq_true rfl), (Nat.le_of_ble_eq_true rfl)⟩) (fun r_167 u H locs hq w => ?_)
                      obtain ⟨rfl, e_r⟩ := hq
                      subst e_r
                      refine zm_fast hx hb hK w 6 rfl hat dX7_nudge_207 (fun H locs w => ?_)
                      have w : zW G A s H locs (mW G ad M (vf_upd lev (((40 * (M 0 (((4 * d) + t).toNatClampNeg))) + i).toNatClampNeg) (zHe (FP.fsub (lev (((40 * (M 0 (((4 * d) + t).toNatClampNeg))) + i).toNatClampNeg)) (zEi x))))) := w
                      refine lv_goto (tgt := 245) hx hb dX7_nudge_208 (by decide) ?_
                      refine lv_aload_n hx hb dX7_nudge_245 rfl (lv_at hl 4 rfl) ?_
                      refine lv_iload_n hx hb dX7_nudge_246 rfl (lv_at hl 6 rfl) ?_
                      refine lv_iload hx hb dX7_nudge_247 (lv_at hl 2 rfl) ?_
                      refine lv_iload_n hx hb dX7_nudge_249 rfl (lv_at hl 7 rfl) ?_
                      refine zCl w (va_runV (As := [.int t, .int (M 0 (((4 * d) + t).toNatClampNeg)), .int i]) (rest := []) ⟨hx, hb, hml, hown, hts⟩ (kX7_told (M := M) (lev := (vf_upd lev (((40 * (M 0 (((4 * d) + t).toNatClampNeg))) + i).toNatClampNeg) (zHe (FP.fsub (lev (((40 * (M 0 (((4 * d) + t).toNatClampNeg))) + i).toNatClampNeg)) (zEi x))))) l G ad t (M 0 (mix d t)) i hat ((by show zFin (vf_upd lev _ _ _); unfold vf_upd; rw [if_pos rfl]; exact zHe_fin (zsub hfl (zEi_fin x)))) H.size) (cwV 3 hts gX7_nudge_X7_told rfl rfl rfl (by decide +kernel) ⟨(Nat.le_of_ble_eq_true rfl), (Nat.le_of_ble_eq_true rfl)⟩) (zPV w hK (va_recv hK.1 w.1 (ci := 6) (q0 := 0) rfl rfl)) rfl rfl hl.1 rfl (lv_room (Nat.le_of_ble_eq_true rfl)) dX7_nudge_250 ⟨(Nat.le_of_ble_eq_true rfl), (Nat.le_of_ble_eq_true rfl)⟩) (fun r_168 u H locs hq w => ?_)
                      obtain ⟨rfl, e_r⟩ := hq
                      subst e_r
                      exact zRl hx hb hr hlk w dX7_nudge_253 (Nat.le_of_ble_eq_true rfl) (Nat.le_of_ble_eq_true rfl) (by show (if _ then _ else _); rw [if_pos ⟨p_d, p_t, p_k⟩]; (first | rw [if_pos p_f] | rw [if_neg p_f]); (first | rw [if_pos p_v] | rw [if_neg p_v]); (first | rw [if_pos p_2] | rw [if_neg p_2]); (try (first | rw [if_pos p_h] | rw [if_neg p_h])); exact ⟨rfl, rfl⟩)
                    · have p_h := c_165
                      refine lv_aload_n hx hb dX7_nudge_175 rfl (lv_at hl 4 rfl) ?_
                      refine zget (ci := 6) (C := RX7) (T := TX7) (N := 11) hx hb hts hown hK w (by decide +kernel) 0 rfl rfl 5 (by decide) (hts (.fieldLink RX7 25 "ReelBarnModel" "level" "[F") (by decide +kernel)) (fun _ h9 => h9) rfl dX7_nudge_176 ?_
                      refine lv_iload hx hb dX7_nudge_179 (lv_at hl 0 rfl) ?_
                      refine zm_fald hx hb hK w 6 rfl hat dX7_nudge_181 ?_
                      refine lv_iload hx hb dX7_nudge_182 (lv_at hl 9 rfl) ?_
                      refine zCf w (va_runS (As := [.int x]) (rest := [.float (lev (((40 * (M 0 (((4 * d) + t).toNatClampNeg))) + i).toNatClampNeg)), .int ((40 * (M 0 (((4 * d) + t).toNatClampNeg))) + i), .ref (ad 6)]) ⟨hx, hb, hml, hown, hts⟩ (kX7_eighth l G _ x H.size) (va_cwS 1 hts gX7_nudge_X7_eighth rfl rfl rfl (by decide +kernel) ⟨(Nat.le_of_ble_eq_true rfl), (Nat.le_of_ble_eq_true rfl)⟩) (zPS w hK) rfl rfl hl.1 rfl (lv_room (Nat.le_of_ble_eq_true rfl)) dX7_nudge_184 ⟨(Nat.le_of_ble_eq_true rfl), (Nat.le_of_ble_eq_true rfl)⟩) (fun r_169 u H locs hq w => ?_)
                      obtain ⟨rfl, e_r⟩ := hq
                      subst e_r
                      refine lv_fadd hx hb dX7_nudge_187 (zadd hfl (zEi_fin x)) ?_
                      refine lv_goto (tgt := 204) hx hb dX7_nudge_188 (by decide) ?_
                      refine zCf w (va_runS (As := [.float (FP.fadd (lev (((40 * (M 0 (((4 * d) + t).toNatClampNeg))) + i).toNatClampNeg)) (zEi x))]) (rest := [.int ((40 * (M 0 (((4 * d) + t).toNatClampNeg))) + i), .ref (ad 6)]) ⟨hx, hb, hml, hown, hts⟩ (kX7_held l G _ (FP.fadd (lev (((40 * (M 0 (((4 * d) + t).toNatClampNeg))) + i).toNatClampNeg)) (zEi x)) H.size) (va_cwS 1 hts gX7_nudge_X7_held rfl rfl rfl (by decide +kernel) ⟨(Nat.le_of_ble_eq_true rfl), (Nat.le_of_ble_eq_true rfl)⟩) (zPS w hK) rfl rfl hl.1 rfl (lv_room (Nat.le_of_ble_eq_true rfl)) dX7_nudge_204 ⟨(Nat.le_of_ble_eq_true rfl), (Nat.le_of_ble_eq_true rfl)⟩) (fun r_170 u H locs hq w => ?_)
                      obtain ⟨rfl, e_r⟩ := hq
                      subst e_r
                      refine zm_fast hx hb hK w 6 rfl hat dX7_nudge_207 (fun H locs w => ?_)
                      have w : zW G A s H locs (mW G ad M (vf_upd lev (((40 * (M 0 (((4 * d) + t).toNatClampNeg))) + i).toNatClampNeg) (zHe (FP.fadd (lev (((40 * (M 0 (((4 * d) + t).toNatClampNeg))) + i).toNatClampNeg)) (zEi x))))) := w
                      refine lv_goto (tgt := 245) hx hb dX7_nudge_208 (by decide) ?_
                      refine lv_aload_n hx hb dX7_nudge_245 rfl (lv_at hl 4 rfl) ?_
                      refine lv_iload_n hx hb dX7_nudge_246 rfl (lv_at hl 6 rfl) ?_
                      refine lv_iload hx hb dX7_nudge_247 (lv_at hl 2 rfl) ?_
                      refine lv_iload_n hx hb dX7_nudge_249 rfl (lv_at hl 7 rfl) ?_
                      refine zCl w (va_runV (As := [.int t, .int (M 0 (((4 * d) + t).toNatClampNeg)), .int i]) (rest := []) ⟨hx, hb, hml, hown, hts⟩ (kX7_told (M := M) (lev := (vf_upd lev (((40 * (M 0 (((4 * d) + t).toNatClampNeg))) + i).toNatClampNeg) (zHe (FP.fadd (lev (((40 * (M 0 (((4 * d) + t).toNatClampNeg))) + i).toNatClampNeg)) (zEi x))))) l G ad t (M 0 (mix d t)) i hat ((by show zFin (vf_upd lev _ _ _); unfold vf_upd; rw [if_pos rfl]; exact zHe_fin (zadd hfl (zEi_fin x)))) H.size) (cwV 3 hts gX7_nudge_X7_told rfl rfl rfl (by decide +kernel) ⟨(Nat.le_of_ble_eq_true rfl), (Nat.le_of_ble_eq_true rfl)⟩) (zPV w hK (va_recv hK.1 w.1 (ci := 6) (q0 := 0) rfl rfl)) rfl rfl hl.1 rfl (lv_room (Nat.le_of_ble_eq_true rfl)) dX7_nudge_250 ⟨(Nat.le_of_ble_eq_true rfl), (Nat.le_of_ble_eq_true rfl)⟩) (fun r_171 u H locs hq w => ?_)
                      obtain ⟨rfl, e_r⟩ := hq
                      subst e_r
                      exact zRl hx hb hr hlk w dX7_nudge_253 (Nat.le_of_ble_eq_true rfl) (Nat.le_of_ble_eq_true rfl) (by show (if _ then _ else _); rw [if_pos ⟨p_d, p_t, p_k⟩]; (first | rw [if_pos p_f] | rw [if_neg p_f]); (first | rw [if_pos p_v] | rw [if_neg p_v]); (first | rw [if_pos p_2] | rw [if_neg p_2]); (try (first | rw [if_pos p_h] | rw [if_neg p_h])); exact ⟨rfl, rfl⟩)
                · have p_v : how = 3 ∧ x = 0 := ⟨q_v, c_158⟩
                  refine lv_aload_n hx hb dX7_nudge_142 rfl (lv_at hl 3 rfl) ?_
                  refine lv_ldc2 hx hb hown (hts (.constantLong RX7 89 (6597069766656)) (by decide +kernel)) dX7_nudge_143 ?_
                  refine zCl w (va_runV (As := [.long 6597069766656]) (rest := []) ⟨hx, hb, hml, hown, hts⟩ (kX7_refuse l G ad zDIVIDED zW6 H.size) (cwV 1 hts gX7_nudge_X7_refuse rfl rfl rfl (by decide +kernel) ⟨(Nat.le_of_ble_eq_true rfl), (Nat.le_of_ble_eq_true rfl)⟩) (zPV w hK (va_recv hK.1 w.1 (ci := 6) (q0 := 0) rfl rfl)) rfl rfl hl.1 rfl (lv_room (Nat.le_of_ble_eq_true rfl)) dX7_nudge_146 ⟨(Nat.le_of_ble_eq_true rfl), (Nat.le_of_ble_eq_true rfl)⟩) (fun r_172 u H locs hq w => ?_)
                  obtain ⟨rfl, e_r⟩ := hq
                  subst e_r
                  exact zRl hx hb hr hlk w dX7_nudge_149 (Nat.le_of_ble_eq_true rfl) (Nat.le_of_ble_eq_true rfl) (by show (if _ then _ else _); rw [if_pos ⟨p_d, p_t, p_k⟩]; (first | rw [if_pos p_f] | rw [if_neg p_f]); (first | rw [if_pos p_v] | rw [if_neg p_v]); exact ⟨rfl, rfl⟩)
            · have p_f := zcmp1 c_143
              refine lv_aload_n hx hb dX7_nudge_124 rfl (lv_at hl 3 rfl) ?_
              refine lv_lload hx hb dX7_nudge_125 (lv_at hl 0 rfl) ?_
              refine zCl w (va_runV (As := [.long (mAg M (M 0 (mix d t)) i)]) (rest := []) ⟨hx, hb, hml, hown, hts⟩ (kX7_refuse l G ad (mAg M (M 0 (mix d t)) i) (mAg_why p_f) H.size) (cwV 1 hts gX7_nudge_X7_refuse rfl rfl rfl (by decide +kernel) ⟨(Nat.le_of_ble_eq_true rfl), (Nat.le_of_ble_eq_true rfl)⟩) (zPV w hK (va_recv hK.1 w.1 (ci := 6) (q0 := 0) rfl rfl)) rfl rfl hl.1 rfl (lv_room (Nat.le_of_ble_eq_true rfl)) dX7_nudge_127 ⟨(Nat.le_of_ble_eq_true rfl), (Nat.le_of_ble_eq_true rfl)⟩) (fun r_173 u H locs hq w => ?_)
              obtain ⟨rfl, e_r⟩ := hq
              subst e_r
              exact zRl hx hb hr hlk w dX7_nudge_130 (Nat.le_of_ble_eq_true rfl) (Nat.le_of_ble_eq_true rfl) (by show (if _ then _ else _); rw [if_pos ⟨p_d, p_t, p_k⟩]; (first | rw [if_pos p_f] | rw [if_neg p_f]); exact ⟨rfl, rfl⟩)
