set_option maxHeartbeats 4000000 in
set_option maxRecDepth 100000 in
theorem kX7_mount (l : Launch) (G : zG) (ad : Nat → Nat) {M : Nat → Nat → Int32} {lev : Nat → UInt32} (hI : mI M lev) (d t n : Int32) (sz : Nat) : zMl l yX7_mount wsX7_mount { frames := 1, cells := 0, slots := 0, locals := 23 } G [.ref (ad 0), .int d, .int t, .int n] (mW G ad M lev) sz (fun v u => if zFour d ∧ zFour t then (if n ≤ 40 then (if 0 ≤ n then (∃ (r : Nat) (U : Nat → Int32), mFr (va_up M 0 (upd (M 0) (mix d t) (-1))) r ∧ u = mW G ad (va_up (mRl (va_up M 0 (upd (M 0) (mix d t) (-1))) U r n n.toNatClampNeg) 0 (upd ((va_up M 0 (upd (M 0) (mix d t) (-1))) 0) (mix d t) (nI r))) (mZ 0 lev r n.toNatClampNeg) ∧ v = n.toInt64) else mRefP G ad M lev zNEGATIVE v u) else mRefP G ad M lev zGREAT v u) else mRefP G ad M lev zNONE v u) 0 0 := by
  refine zIn (Qc := fun A => va_Ql _ (zB G A) A) (cc := cX7_mount) (maxL := 4) (ret := (some .long)) (by decide) rfl (Nat.le_of_ble_eq_true rfl) ?_
  intro p e s m below meth c A ls hx hb hr hlk hml hts hown hnm hK w hl
  have hown : s.vm.findClass RX7 = some m.cls := hown
  have hl : lv_has ls 4 [(0, .ref (ad 0)), (1, .int d), (2, .int t), (3, .int n)] := hl
  refine lv_iload_n hx hb dX7_mount_0 rfl (lv_at hl 1 rfl) ?_
  refine zCi w (va_runS (As := [.int d]) (rest := []) ⟨hx, hb, hml, hown, hts⟩ (kX7_isFour l G _ d s.heap.size) (va_cwS 1 hts gX7_mount_X7_isFour rfl rfl rfl (by decide +kernel) ⟨(Nat.le_of_ble_eq_true rfl), (Nat.le_of_ble_eq_true rfl)⟩) (zPS w hK) rfl rfl hl.1 rfl (lv_room (Nat.le_of_ble_eq_true rfl)) dX7_mount_1 ⟨(Nat.le_of_ble_eq_true rfl), (Nat.le_of_ble_eq_true rfl)⟩) (fun r_1 u H locs hq w => ?_)
  obtain ⟨rfl, e_r_1⟩ := hq
  refine lv_if_eq (tgt := 14) hx hb dX7_mount_4 (by decide) (fun c_2 => ?_) (fun c_2 => ?_)
  · have p_d := z00 inferInstance e_r_1 c_2
    refine lv_aload_n hx hb dX7_mount_14 rfl (lv_at hl 0 rfl) ?_
    refine lv_ldc2 hx hb hown (hts (.constantLong RX7 59 (1099511627776)) (by decide +kernel)) dX7_mount_15 ?_
    refine zCl w (va_runV (As := [.long 1099511627776]) (rest := []) ⟨hx, hb, hml, hown, hts⟩ (kX7_refuse l G ad zNONE zW1 H.size) (cwV 1 hts gX7_mount_X7_refuse rfl rfl rfl (by decide +kernel) ⟨(Nat.le_of_ble_eq_true rfl), (Nat.le_of_ble_eq_true rfl)⟩) (zPV w hK (va_recv hK.1 w.1 (ci := 6) (q0 := 0) rfl rfl)) rfl rfl hl.1 rfl (lv_room (Nat.le_of_ble_eq_true rfl)) dX7_mount_18 ⟨(Nat.le_of_ble_eq_true rfl), (Nat.le_of_ble_eq_true rfl)⟩) (fun r_3 u H locs hq w => ?_)
    obtain ⟨rfl, e_r⟩ := hq
    subst e_r
    exact zRl hx hb hr hlk w dX7_mount_21 (Nat.le_of_ble_eq_true rfl) (Nat.le_of_ble_eq_true rfl) (by show (if _ then _ else _); rw [if_neg (fun q => p_d q.1)]; exact ⟨rfl, rfl⟩)
  · have p_d := z01 inferInstance e_r_1 c_2
    refine lv_iload_n hx hb dX7_mount_7 rfl (lv_at hl 2 rfl) ?_
    refine zCi w (va_runS (As := [.int t]) (rest := []) ⟨hx, hb, hml, hown, hts⟩ (kX7_isFour l G _ t H.size) (va_cwS 1 hts gX7_mount_X7_isFour rfl rfl rfl (by decide +kernel) ⟨(Nat.le_of_ble_eq_true rfl), (Nat.le_of_ble_eq_true rfl)⟩) (zPS w hK) rfl rfl hl.1 rfl (lv_room (Nat.le_of_ble_eq_true rfl)) dX7_mount_8 ⟨(Nat.le_of_ble_eq_true rfl), (Nat.le_of_ble_eq_true rfl)⟩) (fun r_4 u H locs hq w => ?_)
    obtain ⟨rfl, e_r_4⟩ := hq
    refine lv_if_ne (tgt := 22) hx hb dX7_mount_11 (by decide) (fun c_5 => ?_) (fun c_5 => ?_)
    · have p_t := z01 inferInstance e_r_4 c_5
      refine lv_iload_n hx hb dX7_mount_22 rfl (lv_at hl 3 rfl) ?_
      refine lv_bipush (v := 40) hx hb dX7_mount_23 (by decide) ?_
      refine lv_icmp_le (tgt := 36) hx hb dX7_mount_25 (by decide) (fun c_6 => ?_) (fun c_6 => ?_)
      · have p_g := c_6
        refine lv_iload_n hx hb dX7_mount_36 rfl (lv_at hl 3 rfl) ?_
        refine lv_if_ge (tgt := 48) hx hb dX7_mount_37 (by decide) (fun c_7 => ?_) (fun c_7 => ?_)
        · have p_n := c_7
          have hn0 : ¬ n < 0 := fun z => by rw [Int32.lt_iff_toInt_lt] at z; rw [Int32.le_iff_toInt_le] at p_n; omega
          have hn2 : n.toNatClampNeg ≤ 40 := zle40 p_n p_g
          refine lv_aload_n hx hb dX7_mount_48 rfl (lv_at hl 0 rfl) ?_
          refine zget (ci := 6) (C := RX7) (T := TX7) (N := 11) hx hb hts hown hK w (by decide +kernel) 0 rfl rfl 0 (by decide) (hts (.fieldLink RX7 7 "ReelBarnModel" "carried" "[I") (by decide +kernel)) (fun _ h9 => h9) rfl dX7_mount_49 ?_
          refine lv_iconst (v := 4) hx hb dX7_mount_52 (by decide) ?_
          refine lv_iload_n hx hb dX7_mount_53 rfl (lv_at hl 1 rfl) ?_
          refine lv_imul hx hb dX7_mount_54 ?_
          refine lv_iload_n hx hb dX7_mount_55 rfl (lv_at hl 2 rfl) ?_
          refine lv_iadd hx hb dX7_mount_56 ?_
          refine lv_iconst (v := (-1)) hx hb dX7_mount_57 (by decide) ?_
          refine zm_iast hx hb hK w 1 rfl (mix_in p_d p_t) dX7_mount_58 (fun H locs w => ?_)
          have w : zW G A s H locs (mW G ad (va_up M 0 (upd (M 0) (((4 * d) + t).toNatClampNeg) (-1))) lev) := w
          refine lv_aload_n hx hb dX7_mount_59 rfl (lv_at hl 0 rfl) ?_
          refine zget (ci := 6) (C := RX7) (T := TX7) (N := 11) hx hb hts hown hK w (by decide +kernel) 0 rfl rfl 0 (by decide) (hts (.fieldLink RX7 7 "ReelBarnModel" "carried" "[I") (by decide +kernel)) (fun _ h9 => h9) rfl dX7_mount_60 ?_
          refine lv_iconst (v := 4) hx hb dX7_mount_63 (by decide) ?_
          refine lv_iload_n hx hb dX7_mount_64 rfl (lv_at hl 1 rfl) ?_
          refine lv_imul hx hb dX7_mount_65 ?_
          refine lv_iload_n hx hb dX7_mount_66 rfl (lv_at hl 2 rfl) ?_
          refine lv_iadd hx hb dX7_mount_67 ?_
          refine lv_aload_n hx hb dX7_mount_68 rfl (lv_at hl 0 rfl) ?_
          refine lv_iload_n hx hb dX7_mount_69 rfl (lv_at hl 3 rfl) ?_
          have hI1 : mI (va_up M 0 (upd (M 0) (mix d t) (-1))) lev := mI_car hI mP_n
          refine zCi w (va_runV (As := [.int n]) (rest := [.int ((4 * d) + t), .ref (ad 1)]) ⟨hx, hb, hml, hown, hts⟩ (kX7_reel (M := (va_up M 0 (upd (M 0) (mix d t) (-1)))) l G ad hI1 n hn0 hn2 H.size) (cwV 1 hts gX7_mount_X7_reel rfl rfl rfl (by decide +kernel) ⟨(Nat.le_of_ble_eq_true rfl), (Nat.le_of_ble_eq_true rfl)⟩) (zPV w hK (va_recv hK.1 w.1 (ci := 6) (q0 := 0) rfl rfl)) rfl rfl hl.1 rfl (lv_room (Nat.le_of_ble_eq_true rfl)) dX7_mount_70 ⟨(Nat.le_of_ble_eq_true rfl), (Nat.le_of_ble_eq_true rfl)⟩) (fun r_8 u H locs hq w => ?_)
          obtain ⟨r, U, hfr, e1, rfl⟩ := hq
          subst e1
          refine zm_iast hx hb hK w 1 rfl (mix_in p_d p_t) dX7_mount_73 (fun H locs w => ?_)
          have w : zW G A s H locs (mW G ad (va_up (mRl (va_up M 0 (upd (M 0) (mix d t) (-1))) U r n n.toNatClampNeg) 0 (upd ((mRl (va_up M 0 (upd (M 0) (mix d t) (-1))) U r n n.toNatClampNeg) 0) (((4 * d) + t).toNatClampNeg) (nI r))) (mZ 0 lev r n.toNatClampNeg)) := w
          refine lv_iload_n hx hb dX7_mount_74 rfl (lv_at hl 3 rfl) ?_
          refine lv_i2l hx hb dX7_mount_75 rfl ?_
          exact zRl hx hb hr hlk w dX7_mount_76 (Nat.le_of_ble_eq_true rfl) (Nat.le_of_ble_eq_true rfl) (by show (if _ then _ else _); rw [if_pos ⟨p_d, p_t⟩]; (first | rw [if_pos p_g] | rw [if_neg p_g]); (first | rw [if_pos p_n] | rw [if_neg p_n]); (first | exact ⟨rfl, rfl⟩ | exact ⟨r, U, hfr, rfl, rfl⟩))
        · have p_n := c_7
          refine lv_aload_n hx hb dX7_mount_40 rfl (lv_at hl 0 rfl) ?_
          refine lv_ldc2 hx hb hown (hts (.constantLong RX7 67 (4398046511104)) (by decide +kernel)) dX7_mount_41 ?_
          refine zCl w (va_runV (As := [.long 4398046511104]) (rest := []) ⟨hx, hb, hml, hown, hts⟩ (kX7_refuse l G ad zNEGATIVE zW4 H.size) (cwV 1 hts gX7_mount_X7_refuse rfl rfl rfl (by decide +kernel) ⟨(Nat.le_of_ble_eq_true rfl), (Nat.le_of_ble_eq_true rfl)⟩) (zPV w hK (va_recv hK.1 w.1 (ci := 6) (q0 := 0) rfl rfl)) rfl rfl hl.1 rfl (lv_room (Nat.le_of_ble_eq_true rfl)) dX7_mount_44 ⟨(Nat.le_of_ble_eq_true rfl), (Nat.le_of_ble_eq_true rfl)⟩) (fun r_9 u H locs hq w => ?_)
          obtain ⟨rfl, e_r⟩ := hq
          subst e_r
          exact zRl hx hb hr hlk w dX7_mount_47 (Nat.le_of_ble_eq_true rfl) (Nat.le_of_ble_eq_true rfl) (by show (if _ then _ else _); rw [if_pos ⟨p_d, p_t⟩]; (first | rw [if_pos p_g] | rw [if_neg p_g]); (first | rw [if_pos p_n] | rw [if_neg p_n]); (first | exact ⟨rfl, rfl⟩ | exact ⟨r, U, hfr, rfl, rfl⟩))
      · have p_g := c_6
        refine lv_aload_n hx hb dX7_mount_28 rfl (lv_at hl 0 rfl) ?_
        refine lv_ldc2 hx hb hown (hts (.constantLong RX7 65 (5497558138880)) (by decide +kernel)) dX7_mount_29 ?_
        refine zCl w (va_runV (As := [.long 5497558138880]) (rest := []) ⟨hx, hb, hml, hown, hts⟩ (kX7_refuse l G ad zGREAT zW5 H.size) (cwV 1 hts gX7_mount_X7_refuse rfl rfl rfl (by decide +kernel) ⟨(Nat.le_of_ble_eq_true rfl), (Nat.le_of_ble_eq_true rfl)⟩) (zPV w hK (va_recv hK.1 w.1 (ci := 6) (q0 := 0) rfl rfl)) rfl rfl hl.1 rfl (lv_room (Nat.le_of_ble_eq_true rfl)) dX7_mount_32 ⟨(Nat.le_of_ble_eq_true rfl), (Nat.le_of_ble_eq_true rfl)⟩) (fun r_10 u H locs hq w => ?_)
        obtain ⟨rfl, e_r⟩ := hq
        subst e_r
        exact zRl hx hb hr hlk w dX7_mount_35 (Nat.le_of_ble_eq_true rfl) (Nat.le_of_ble_eq_true rfl) (by show (if _ then _ else _); rw [if_pos ⟨p_d, p_t⟩]; (first | rw [if_pos p_g] | rw [if_neg p_g]); (first | exact ⟨rfl, rfl⟩ | exact ⟨r, U, hfr, rfl, rfl⟩))
    · have p_t := z00 inferInstance e_r_4 c_5
      refine lv_aload_n hx hb dX7_mount_14 rfl (lv_at hl 0 rfl) ?_
      refine lv_ldc2 hx hb hown (hts (.constantLong RX7 59 (1099511627776)) (by decide +kernel)) dX7_mount_15 ?_
      refine zCl w (va_runV (As := [.long 1099511627776]) (rest := []) ⟨hx, hb, hml, hown, hts⟩ (kX7_refuse l G ad zNONE zW1 H.size) (cwV 1 hts gX7_mount_X7_refuse rfl rfl rfl (by decide +kernel) ⟨(Nat.le_of_ble_eq_true rfl), (Nat.le_of_ble_eq_true rfl)⟩) (zPV w hK (va_recv hK.1 w.1 (ci := 6) (q0 := 0) rfl rfl)) rfl rfl hl.1 rfl (lv_room (Nat.le_of_ble_eq_true rfl)) dX7_mount_18 ⟨(Nat.le_of_ble_eq_true rfl), (Nat.le_of_ble_eq_true rfl)⟩) (fun r_11 u H locs hq w => ?_)
      obtain ⟨rfl, e_r⟩ := hq
      subst e_r
      exact zRl hx hb hr hlk w dX7_mount_21 (Nat.le_of_ble_eq_true rfl) (Nat.le_of_ble_eq_true rfl) (by show (if _ then _ else _); rw [if_neg (fun q => p_t q.2)]; exact ⟨rfl, rfl⟩)
set_option maxHeartbeats 4000000 in
set_option maxRecDepth 100000 in
theorem lpF_hang {p : Program} {l : Launch} {e : Env} {R : Room} {s : State} {m : MethodId} {args : Array Value} {below : List Frame} {meth : Method} {c : Code} {A : Nat → Prop} {G : zG} {cells slots : Nat} {Q : State → Prop} (ad : Nat → Nat) {M : Nat → Nat → Int32} {lev : Nat → UInt32} (hx : p.tables.exec = Jvm.exec) (hb : c.code = cX7_hang) (hts : ∀ x ∈ wsX7_hang, x.before args s = true) (hown : s.vm.findClass RX7 = some m.cls) (hK : zK G s) {t rows cols : Int32} {s0 : Nat} (hs0 : s0 < 4) (et : t = nI s0)
    (kont : ∀ (H : Heap) (locs : List Loc) (ls : Array Slot), zW G A s H locs (mW G ad (va_up M 2 (mC (-1) (M 2) s0 12)) lev) → lv_has ls 5 [(0, .ref (ad 0)), (1, .int t), (2, .int rows), (3, .int cols)] → W p l e R s m args below meth c H locs cells slots Q (F0 m 80 ls [])) :
    ∀ (fuel k : Nat), k ≤ 12 → 12 < k + fuel → ∀ (H : Heap) (locs : List Loc) (ls : Array Slot), zW G A s H locs (mW G ad (va_up M 2 (mC (-1) (M 2) s0 k)) lev) → lv_has ls 5 [(0, .ref (ad 0)), (1, .int t), (2, .int rows), (3, .int cols), (4, .int (nI k))] → W p l e R s m args below meth c H locs cells slots Q (F0 m 54 ls []) := by
  intro fuel
  induction fuel with
  | zero => intro k h1 h2; exact absurd h2 (by omega)
  | succ fuel ih =>
    intro k hk hfu H locs ls w hl
    refine lv_iload hx hb dX7_hang_54 (lv_at hl 4 rfl) ?_
    refine lv_bipush (v := 12) hx hb dX7_hang_56 (by decide) ?_
    refine lv_icmp_ge (tgt := 80) hx hb dX7_hang_58 (by decide) (fun c_1 => ?_) (fun c_1 => ?_)
    · have hkN : k = 12 := by have := (nI_leI (a := 12) (b := k) (by decide) (by omega)).mp c_1; omega
      subst hkN
      exact kont H locs ls w (lv_sub hl [0, 1, 2, 3] rfl)
    · have hlt : k < 12 := Nat.lt_of_not_le (fun q => c_1 ((nI_leI (a := 12) (b := k) (by decide) (by omega)).mpr q))
      refine lv_aload_n hx hb dX7_hang_61 rfl (lv_at hl 0 rfl) ?_
      refine zget (ci := 6) (C := RX7) (T := TX7) (N := 11) hx hb hts hown hK w (by decide +kernel) 0 rfl rfl 2 (by decide) (hts (.fieldLink RX7 16 "ReelBarnModel" "wall" "[I") (by decide +kernel)) (fun _ h9 => h9) rfl dX7_hang_62 ?_
      refine lv_bipush (v := 12) hx hb dX7_hang_65 (by decide) ?_
      refine lv_iload_n hx hb dX7_hang_67 rfl (lv_at hl 1 rfl) ?_
      refine lv_imul hx hb dX7_hang_68 ?_
      refine lv_iload hx hb dX7_hang_69 (lv_at hl 4 rfl) ?_
      refine lv_iadd hx hb dX7_hang_71 ?_
      refine lv_iconst (v := (-1)) hx hb dX7_hang_72 (by decide) ?_
      refine zm_iast hx hb hK w 3 rfl (by rw [et, m12]; exact vp_in_nI (by omega) (by decide)) dX7_hang_73 (fun H locs w => ?_)
      have w : zW G A s H locs (mW G ad (va_up M 2 (mC (-1) (M 2) s0 (k + 1))) lev) := by
        have w2 := w
        change zW G A s H locs ((mW G ad (va_up M 2 (mC (-1) (M 2) s0 k)) lev).set 3 (ad 3, .inl (G.2 4, 48, .inl (upd (mC (-1) (M 2) s0 k) (12 * t + nI k).toNatClampNeg (-1))))) at w2
        rw [et, m12, nI_clamp (by omega), mC_s] at w2
        exact w2
      refine lv_iinc (v := ((nI k) + 1)) (lv' := [(4, .int ((nI k) + 1)), (0, .ref (ad 0)), (1, .int t), (2, .int rows), (3, .int cols)]) hx hb dX7_hang_74 hl (k := 4) rfl rfl (by decide) rfl (fun ls hl => ?_)
      refine lv_goto (tgt := 54) hx hb dX7_hang_77 (by decide) ?_
      rw [nI_1] at hl
      exact ih (k + 1) hlt (by omega) _ _ _ w (lv_sub hl [1, 2, 3, 4, 0] rfl)
set_option maxHeartbeats 4000000 in
set_option maxRecDepth 100000 in
theorem lpG_hang {p : Program} {l : Launch} {e : Env} {s : State} {m : MethodId} {args : Array Value} {below : List Frame} {meth : Method} {c : Code} {A : Nat → Prop} {G : zG} {Q : State → Prop} (ad : Nat → Nat) {M : Nat → Nat → Int32} {lev : Nat → UInt32} (hx : p.tables.exec = Jvm.exec) (hb : c.code = cX7_hang) (hts : ∀ x ∈ wsX7_hang, x.before args s = true) (hown : s.vm.findClass RX7 = some m.cls) (hK : zK G s) (hml : c.maxLocals = 5) {t rows cols : Int32} {s0 : Nat} (hs0 : s0 < 4) (et : t = nI s0) (hr1 : ¬ rows < 0) (hr2 : rows.toNatClampNeg ≤ 12) (hc1 : ¬ cols < 0) (hc2 : cols.toNatClampNeg ≤ 12)
    (kont : ∀ (N : Nat → Nat → Int32) (ln : Nat → UInt32) (H : Heap) (locs : List Loc) (ls : Array Slot), mH M lev s0 rows cols rows.toNatClampNeg N ln → zW G A s H locs (mW G ad N ln) → lv_has ls 5 [(0, .ref (ad 0)), (1, .int t), (2, .int rows), (3, .int cols)] → W p l e { frames := 1, cells := 0, slots := 0, locals := 23 } s m args below meth c H locs 0 0 Q (F0 m 119 ls [])) :
    ∀ (fuel k : Nat), k ≤ rows.toNatClampNeg → rows.toNatClampNeg < k + fuel → ∀ (N : Nat → Nat → Int32) (ln : Nat → UInt32) (H : Heap) (locs : List Loc) (ls : Array Slot), mH M lev s0 rows cols k N ln → zW G A s H locs (mW G ad N ln) → lv_has ls 5 [(0, .ref (ad 0)), (1, .int t), (2, .int rows), (3, .int cols), (4, .int (nI k))] → W p l e { frames := 1, cells := 0, slots := 0, locals := 23 } s m args below meth c H locs 0 0 Q (F0 m 90 ls []) := by
  intro fuel
  induction fuel with
  | zero => intro k h1 h2; exact absurd h2 (by omega)
  | succ fuel ih =>
    intro k hk hfu N ln H locs ls hI w hl
    refine lv_iload hx hb dX7_hang_90 (lv_at hl 4 rfl) ?_
    refine lv_iload_n hx hb dX7_hang_92 rfl (lv_at hl 2 rfl) ?_
    refine lv_icmp_ge (tgt := 119) hx hb dX7_hang_93 (by decide) (fun c_1 => ?_) (fun c_1 => ?_)
    · have hkN : k = rows.toNatClampNeg := zrow_le hr1 hk hr2 c_1
      subst hkN
      exact kont N ln H locs ls hI w (lv_sub hl [0, 1, 2, 3] rfl)
    · have hlt : k < rows.toNatClampNeg := zrow_lt hr1 hk hr2 c_1
      refine lv_aload_n hx hb dX7_hang_96 rfl (lv_at hl 0 rfl) ?_
      refine zget (ci := 6) (C := RX7) (T := TX7) (N := 11) hx hb hts hown hK w (by decide +kernel) 0 rfl rfl 2 (by decide) (hts (.fieldLink RX7 16 "ReelBarnModel" "wall" "[I") (by decide +kernel)) (fun _ h9 => h9) rfl dX7_hang_97 ?_
      refine lv_bipush (v := 12) hx hb dX7_hang_100 (by decide) ?_
      refine lv_iload_n hx hb dX7_hang_102 rfl (lv_at hl 1 rfl) ?_
      refine lv_imul hx hb dX7_hang_103 ?_
      refine lv_iload hx hb dX7_hang_104 (lv_at hl 4 rfl) ?_
      refine lv_iadd hx hb dX7_hang_106 ?_
      refine lv_aload_n hx hb dX7_hang_107 rfl (lv_at hl 0 rfl) ?_
      refine lv_iload_n hx hb dX7_hang_108 rfl (lv_at hl 3 rfl) ?_
      refine zCi w (va_runV (As := [.int cols]) (rest := [.int ((12 * t) + (nI k)), .ref (ad 3)]) ⟨hx, hb, hml, hown, hts⟩ (kX7_reel (M := N) (lev := ln) l G ad hI.2.1 cols hc1 (by omega) H.size) (cwV 1 hts gX7_hang_X7_reel rfl rfl rfl (by decide +kernel) ⟨(Nat.le_of_ble_eq_true rfl), (Nat.le_of_ble_eq_true rfl)⟩) (zPV w hK (va_recv hK.1 w.1 (ci := 6) (q0 := 0) rfl rfl)) rfl rfl hl.1 rfl (lv_room (Nat.le_of_ble_eq_true rfl)) dX7_hang_109 ⟨(Nat.le_of_ble_eq_true rfl), (Nat.le_of_ble_eq_true rfl)⟩) (fun r_2 u H locs hq w => ?_)
      obtain ⟨r, U, hfr, e1, rfl⟩ := hq
      subst e1
      refine zm_iast hx hb hK w 3 rfl (by rw [et, m12]; exact vp_in_nI (by omega) (by decide)) dX7_hang_112 (fun H locs w => ?_)
      have w : zW G A s H locs (mW G ad (va_up (mRl N U r cols cols.toNatClampNeg) 2 (upd (N 2) (12 * s0 + k) (nI r))) (mZ 0 ln r cols.toNatClampNeg)) := by
        have w2 := w
        change zW G A s H locs ((mW G ad (mRl N U r cols cols.toNatClampNeg) (mZ 0 ln r cols.toNatClampNeg)).set 3 (ad 3, .inl (G.2 4, 48, .inl (upd (N 2) (12 * t + nI k).toNatClampNeg (nI r))))) at w2
        rw [et, m12, nI_clamp (by omega)] at w2
        exact w2
      refine lv_iinc (v := ((nI k) + 1)) (lv' := [(4, .int ((nI k) + 1)), (0, .ref (ad 0)), (1, .int t), (2, .int rows), (3, .int cols)]) hx hb dX7_hang_113 hl (k := 4) rfl rfl (by decide) rfl (fun ls hl => ?_)
      refine lv_goto (tgt := 90) hx hb dX7_hang_116 (by decide) ?_
      rw [nI_1] at hl
      exact ih (k + 1) hlt (by omega) _ _ _ _ _ (mH_s hs0 (by omega) hc1 hc2 hfr hI) w (lv_sub hl [1, 2, 3, 4, 0] rfl)
set_option maxHeartbeats 4000000 in
set_option maxRecDepth 100000 in
theorem kX7_hang (l : Launch) (G : zG) (ad : Nat → Nat) {M : Nat → Nat → Int32} {lev : Nat → UInt32} (hI : mI M lev) (t rows cols : Int32) (sz : Nat) : zMl l yX7_hang wsX7_hang { frames := 1, cells := 0, slots := 0, locals := 23 } G [.ref (ad 0), .int t, .int rows, .int cols] (mW G ad M lev) sz (fun v u => if zFour t then (if zGF rows cols = 0 then (∃ (N : Nat → Nat → Int32) (ln : Nat → UInt32), mH M lev (zS t) rows cols rows.toNatClampNeg N ln ∧ u = mW G ad N ln ∧ v = rows.toInt64) else mRefP G ad M lev (zGF rows cols) v u) else mRefP G ad M lev zNONE v u) 0 0 := by
  refine zIn (Qc := fun A => va_Ql _ (zB G A) A) (cc := cX7_hang) (maxL := 5) (ret := (some .long)) (by decide) rfl (Nat.le_of_ble_eq_true rfl) ?_
  intro p e s m below meth c A ls hx hb hr hlk hml hts hown hnm hK w hl
  have hown : s.vm.findClass RX7 = some m.cls := hown
  have hl : lv_has ls 5 [(0, .ref (ad 0)), (1, .int t), (2, .int rows), (3, .int cols)] := hl
  refine lv_iload_n hx hb dX7_hang_0 rfl (lv_at hl 1 rfl) ?_
  refine zCi w (va_runS (As := [.int t]) (rest := []) ⟨hx, hb, hml, hown, hts⟩ (kX7_isFour l G _ t s.heap.size) (va_cwS 1 hts gX7_hang_X7_isFour rfl rfl rfl (by decide +kernel) ⟨(Nat.le_of_ble_eq_true rfl), (Nat.le_of_ble_eq_true rfl)⟩) (zPS w hK) rfl rfl hl.1 rfl (lv_room (Nat.le_of_ble_eq_true rfl)) dX7_hang_1 ⟨(Nat.le_of_ble_eq_true rfl), (Nat.le_of_ble_eq_true rfl)⟩) (fun r_1 u H locs hq w => ?_)
  obtain ⟨rfl, e_r_1⟩ := hq
  refine lv_if_ne (tgt := 15) hx hb dX7_hang_4 (by decide) (fun c_2 => ?_) (fun c_2 => ?_)
  · have p_t := z01 inferInstance e_r_1 c_2
    refine lv_iload_n hx hb dX7_hang_15 rfl (lv_at hl 2 rfl) ?_
    refine lv_bipush (v := 12) hx hb dX7_hang_16 (by decide) ?_
    refine lv_icmp_gt (tgt := 27) hx hb dX7_hang_18 (by decide) (fun c_3 => ?_) (fun c_3 => ?_)
    · have e_g : zGF rows cols = zGREAT := by simp [zGF, c_3]
      refine lv_aload_n hx hb dX7_hang_27 rfl (lv_at hl 0 rfl) ?_
      refine lv_ldc2 hx hb hown (hts (.constantLong RX7 65 (5497558138880)) (by decide +kernel)) dX7_hang_28 ?_
      refine zCl w (va_runV (As := [.long 5497558138880]) (rest := []) ⟨hx, hb, hml, hown, hts⟩ (kX7_refuse l G ad zGREAT zW5 H.size) (cwV 1 hts gX7_hang_X7_refuse rfl rfl rfl (by decide +kernel) ⟨(Nat.le_of_ble_eq_true rfl), (Nat.le_of_ble_eq_true rfl)⟩) (zPV w hK (va_recv hK.1 w.1 (ci := 6) (q0 := 0) rfl rfl)) rfl rfl hl.1 rfl (lv_room (Nat.le_of_ble_eq_true rfl)) dX7_hang_31 ⟨(Nat.le_of_ble_eq_true rfl), (Nat.le_of_ble_eq_true rfl)⟩) (fun r_4 u H locs hq w => ?_)
      obtain ⟨rfl, e_r⟩ := hq
      subst e_r
      exact zRl hx hb hr hlk w dX7_hang_34 (Nat.le_of_ble_eq_true rfl) (Nat.le_of_ble_eq_true rfl) (by show (if _ then _ else _); rw [if_pos p_t]; rw [if_neg (by rw [e_g]; decide), e_g]; exact ⟨rfl, rfl⟩)
    · refine lv_iload_n hx hb dX7_hang_21 rfl (lv_at hl 3 rfl) ?_
      refine lv_bipush (v := 12) hx hb dX7_hang_22 (by decide) ?_
      refine lv_icmp_le (tgt := 35) hx hb dX7_hang_24 (by decide) (fun c_5 => ?_) (fun c_5 => ?_)
      · refine lv_iload_n hx hb dX7_hang_35 rfl (lv_at hl 2 rfl) ?_
        refine lv_if_lt (tgt := 43) hx hb dX7_hang_36 (by decide) (fun c_6 => ?_) (fun c_6 => ?_)
        · have e_g : zGF rows cols = zNEGATIVE := by simp [zGF, c_3, c_5, c_6]
          refine lv_aload_n hx hb dX7_hang_43 rfl (lv_at hl 0 rfl) ?_
          refine lv_ldc2 hx hb hown (hts (.constantLong RX7 67 (4398046511104)) (by decide +kernel)) dX7_hang_44 ?_
          refine zCl w (va_runV (As := [.long 4398046511104]) (rest := []) ⟨hx, hb, hml, hown, hts⟩ (kX7_refuse l G ad zNEGATIVE zW4 H.size) (cwV 1 hts gX7_hang_X7_refuse rfl rfl rfl (by decide +kernel) ⟨(Nat.le_of_ble_eq_true rfl), (Nat.le_of_ble_eq_true rfl)⟩) (zPV w hK (va_recv hK.1 w.1 (ci := 6) (q0 := 0) rfl rfl)) rfl rfl hl.1 rfl (lv_room (Nat.le_of_ble_eq_true rfl)) dX7_hang_47 ⟨(Nat.le_of_ble_eq_true rfl), (Nat.le_of_ble_eq_true rfl)⟩) (fun r_7 u H locs hq w => ?_)
          obtain ⟨rfl, e_r⟩ := hq
          subst e_r
          exact zRl hx hb hr hlk w dX7_hang_50 (Nat.le_of_ble_eq_true rfl) (Nat.le_of_ble_eq_true rfl) (by show (if _ then _ else _); rw [if_pos p_t]; rw [if_neg (by rw [e_g]; decide), e_g]; exact ⟨rfl, rfl⟩)
        · refine lv_iload_n hx hb dX7_hang_39 rfl (lv_at hl 3 rfl) ?_
          refine lv_if_ge (tgt := 51) hx hb dX7_hang_40 (by decide) (fun c_8 => ?_) (fun c_8 => ?_)
          · have e_g : zGF rows cols = 0 := by simp [zGF, c_3, c_5, c_6, c_8]
            obtain ⟨g1, g2, g3, g4⟩ := zGF_0 e_g
            have hr2 := zle12 g1 g2
            have hc2 := zle12 g3 g4
            refine lv_iconst (v := 0) hx hb dX7_hang_51 (by decide) ?_
            refine lv_istore (lv' := [(4, .int 0), (0, .ref (ad 0)), (1, .int t), (2, .int rows), (3, .int cols)]) hx hb dX7_hang_52 hl (by decide) rfl (fun ls hl => ?_)
            obtain ⟨s0, hs0, et⟩ := zFour_of p_t
            refine lpF_hang ad hx hb hts hown hK hs0 et (fun H locs ls w hl => ?_) 13 0 (by decide) (by decide) H _ ls (by have e0 : va_up M 2 (mC (-1) (M 2) s0 0) = M := (by rw [mC_0]; funext q; unfold va_up; split <;> simp_all); rw [e0]; exact w) (lv_sub hl [1, 2, 3, 4, 0] rfl)
            refine lv_aload_n hx hb dX7_hang_80 rfl (lv_at hl 0 rfl) ?_
            refine zget (ci := 6) (C := RX7) (T := TX7) (N := 11) hx hb hts hown hK w (by decide +kernel) 0 rfl rfl 1 (by decide) (hts (.fieldLink RX7 13 "ReelBarnModel" "rowsOf" "[I") (by decide +kernel)) (fun _ h9 => h9) rfl dX7_hang_81 ?_
            refine lv_iload_n hx hb dX7_hang_84 rfl (lv_at hl 1 rfl) ?_
            refine lv_iload_n hx hb dX7_hang_85 rfl (lv_at hl 2 rfl) ?_
            refine zm_iast hx hb hK w 2 rfl (zfour_in p_t) dX7_hang_86 (fun H locs w => ?_)
            have w : zW G A s H locs (mW G ad (va_up (va_up M 2 (mC (-1) (M 2) s0 12)) 1 (upd (M 1) s0 rows)) lev) := by
              have w2 := w
              change zW G A s H locs ((mW G ad (va_up M 2 (mC (-1) (M 2) s0 12)) lev).set 2 (ad 2, .inl (G.2 4, 4, .inl (upd (M 1) t.toNatClampNeg rows)))) at w2
              rw [et, nI_clamp (by omega)] at w2
              exact w2
            refine lv_iconst (v := 0) hx hb dX7_hang_87 (by decide) ?_
            refine lv_istore (lv' := [(4, .int 0), (0, .ref (ad 0)), (1, .int t), (2, .int rows), (3, .int cols)]) hx hb dX7_hang_88 hl (by decide) rfl (fun ls hl => ?_)
            refine lpG_hang (M := M) (lev := lev) ad hx hb hts hown hK hml hs0 et g1 hr2 g3 hc2 (fun N ln H locs ls hN w hl => ?_) (rows.toNatClampNeg + 1) 0 (Nat.zero_le _) (by omega) _ _ _ _ _ (mH_0 hs0 hI g1 hr2) w (lv_sub hl [1, 2, 3, 4, 0] rfl)
            have es0 : zS t = s0 := zS_is hs0 et
            rw [← es0] at hN
            refine lv_iload_n hx hb dX7_hang_119 rfl (lv_at hl 2 rfl) ?_
            refine lv_i2l hx hb dX7_hang_120 rfl ?_
            exact zRl hx hb hr hlk w dX7_hang_121 (Nat.le_of_ble_eq_true rfl) (Nat.le_of_ble_eq_true rfl) (by show (if _ then _ else _); rw [if_pos p_t]; rw [if_pos e_g]; exact ⟨N, ln, hN, rfl, rfl⟩)
          · have e_g : zGF rows cols = zNEGATIVE := by simp [zGF, c_3, c_5, c_6, c_8]
            refine lv_aload_n hx hb dX7_hang_43 rfl (lv_at hl 0 rfl) ?_
            refine lv_ldc2 hx hb hown (hts (.constantLong RX7 67 (4398046511104)) (by decide +kernel)) dX7_hang_44 ?_
            refine zCl w (va_runV (As := [.long 4398046511104]) (rest := []) ⟨hx, hb, hml, hown, hts⟩ (kX7_refuse l G ad zNEGATIVE zW4 H.size) (cwV 1 hts gX7_hang_X7_refuse rfl rfl rfl (by decide +kernel) ⟨(Nat.le_of_ble_eq_true rfl), (Nat.le_of_ble_eq_true rfl)⟩) (zPV w hK (va_recv hK.1 w.1 (ci := 6) (q0 := 0) rfl rfl)) rfl rfl hl.1 rfl (lv_room (Nat.le_of_ble_eq_true rfl)) dX7_hang_47 ⟨(Nat.le_of_ble_eq_true rfl), (Nat.le_of_ble_eq_true rfl)⟩) (fun r_9 u H locs hq w => ?_)
            obtain ⟨rfl, e_r⟩ := hq
            subst e_r
            exact zRl hx hb hr hlk w dX7_hang_50 (Nat.le_of_ble_eq_true rfl) (Nat.le_of_ble_eq_true rfl) (by show (if _ then _ else _); rw [if_pos p_t]; rw [if_neg (by rw [e_g]; decide), e_g]; exact ⟨rfl, rfl⟩)
      · have e_g : zGF rows cols = zGREAT := by simp [zGF, c_3, c_5]
        refine lv_aload_n hx hb dX7_hang_27 rfl (lv_at hl 0 rfl) ?_
        refine lv_ldc2 hx hb hown (hts (.constantLong RX7 65 (5497558138880)) (by decide +kernel)) dX7_hang_28 ?_
        refine zCl w (va_runV (As := [.long 5497558138880]) (rest := []) ⟨hx, hb, hml, hown, hts⟩ (kX7_refuse l G ad zGREAT zW5 H.size) (cwV 1 hts gX7_hang_X7_refuse rfl rfl rfl (by decide +kernel) ⟨(Nat.le_of_ble_eq_true rfl), (Nat.le_of_ble_eq_true rfl)⟩) (zPV w hK (va_recv hK.1 w.1 (ci := 6) (q0 := 0) rfl rfl)) rfl rfl hl.1 rfl (lv_room (Nat.le_of_ble_eq_true rfl)) dX7_hang_31 ⟨(Nat.le_of_ble_eq_true rfl), (Nat.le_of_ble_eq_true rfl)⟩) (fun r_10 u H locs hq w => ?_)
        obtain ⟨rfl, e_r⟩ := hq
        subst e_r
        exact zRl hx hb hr hlk w dX7_hang_34 (Nat.le_of_ble_eq_true rfl) (Nat.le_of_ble_eq_true rfl) (by show (if _ then _ else _); rw [if_pos p_t]; rw [if_neg (by rw [e_g]; decide), e_g]; exact ⟨rfl, rfl⟩)
  · have p_t := z00 inferInstance e_r_1 c_2
    refine lv_aload_n hx hb dX7_hang_7 rfl (lv_at hl 0 rfl) ?_
    refine lv_ldc2 hx hb hown (hts (.constantLong RX7 59 (1099511627776)) (by decide +kernel)) dX7_hang_8 ?_
    refine zCl w (va_runV (As := [.long 1099511627776]) (rest := []) ⟨hx, hb, hml, hown, hts⟩ (kX7_refuse l G ad zNONE zW1 H.size) (cwV 1 hts gX7_hang_X7_refuse rfl rfl rfl (by decide +kernel) ⟨(Nat.le_of_ble_eq_true rfl), (Nat.le_of_ble_eq_true rfl)⟩) (zPV w hK (va_recv hK.1 w.1 (ci := 6) (q0 := 0) rfl rfl)) rfl rfl hl.1 rfl (lv_room (Nat.le_of_ble_eq_true rfl)) dX7_hang_11 ⟨(Nat.le_of_ble_eq_true rfl), (Nat.le_of_ble_eq_true rfl)⟩) (fun r_11 u H locs hq w => ?_)
    obtain ⟨rfl, e_r⟩ := hq
    subst e_r
    exact zRl hx hb hr hlk w dX7_hang_14 (Nat.le_of_ble_eq_true rfl) (Nat.le_of_ble_eq_true rfl) (by show (if _ then _ else _); rw [if_neg p_t]; exact ⟨rfl, rfl⟩)
set_option maxHeartbeats 4000000 in
set_option maxRecDepth 100000 in
theorem lpH_chart {p : Program} {l : Launch} {e : Env} {R : Room} {s : State} {m : MethodId} {args : Array Value} {below : List Frame} {meth : Method} {c : Code} {A : Nat → Prop} {G : zG} {cells slots : Nat} {Q : State → Prop} (ad : Nat → Nat) {M : Nat → Nat → Int32} {lev : Nat → UInt32} (hx : p.tables.exec = Jvm.exec) (hb : c.code = cX7_chart) (hts : ∀ x ∈ wsX7_chart, x.before args s = true) (hown : s.vm.findClass RX7 = some m.cls) (hK : zK G s) {rows cols : Int32}
    (kont : ∀ (C : Nat → Int32) (H : Heap) (locs : List Loc) (ls : Array Slot), (∀ j, j < 144 → C j = 0) → zW G A s H locs (mW G ad (va_up M 7 C) lev) → lv_has ls 4 [(0, .ref (ad 0)), (1, .int rows), (2, .int cols)] → W p l e R s m args below meth c H locs cells slots Q (F0 m 68 ls [])) :
    ∀ (fuel k : Nat), k ≤ 144 → 144 < k + fuel → ∀ (C : Nat → Int32) (H : Heap) (locs : List Loc) (ls : Array Slot), (∀ j, j < k → C j = 0) → zW G A s H locs (mW G ad (va_up M 7 C) lev) → lv_has ls 4 [(0, .ref (ad 0)), (1, .int rows), (2, .int cols), (3, .int (nI k))] → W p l e R s m args below meth c H locs cells slots Q (F0 m 48 ls []) := by
  intro fuel
  induction fuel with
  | zero => intro k h1 h2; exact absurd h2 (by omega)
  | succ fuel ih =>
    intro k hk hfu C H locs ls hI w hl
    refine lv_iload_n hx hb dX7_chart_48 rfl (lv_at hl 3 rfl) ?_
    refine lv_sipush (v := 144) hx hb dX7_chart_49 (by decide) ?_
    refine lv_icmp_ge (tgt := 68) hx hb dX7_chart_52 (by decide) (fun c_1 => ?_) (fun c_1 => ?_)
    · have hkN : k = 144 := by have := (nI_leI (a := 144) (b := k) (by decide) (by omega)).mp c_1; omega
      subst hkN
      exact kont C H locs ls hI w (lv_sub hl [0, 1, 2] rfl)
    · have hlt : k < 144 := Nat.lt_of_not_le (fun q => c_1 ((nI_leI (a := 144) (b := k) (by decide) (by omega)).mpr q))
      refine lv_aload_n hx hb dX7_chart_55 rfl (lv_at hl 0 rfl) ?_
      refine zget (ci := 6) (C := RX7) (T := TX7) (N := 11) hx hb hts hown hK w (by decide +kernel) 0 rfl rfl 9 (by decide) (hts (.fieldLink RX7 37 "ReelBarnModel" "charted" "[I") (by decide +kernel)) (fun _ h9 => h9) rfl dX7_chart_56 ?_
      refine lv_iload_n hx hb dX7_chart_59 rfl (lv_at hl 3 rfl) ?_
      refine lv_iconst (v := 0) hx hb dX7_chart_60 (by decide) ?_
      refine zm_iast hx hb hK w 8 rfl (vp_in_nI hlt (by decide)) dX7_chart_61 (fun H locs w => ?_)
      rw [nI_clamp (by omega)] at w
      have w : zW G A s H locs (mW G ad (va_up M 7 (upd C k 0)) lev) := w
      refine lv_iinc (v := ((nI k) + 1)) (lv' := [(3, .int ((nI k) + 1)), (0, .ref (ad 0)), (1, .int rows), (2, .int cols)]) hx hb dX7_chart_62 hl (k := 3) rfl rfl (by decide) rfl (fun ls hl => ?_)
      refine lv_goto (tgt := 48) hx hb dX7_chart_65 (by decide) ?_
      rw [nI_1] at hl
      exact ih (k + 1) hlt (by omega) _ _ _ _ (fun j hj => by by_cases q : j = k <;> simp [upd, q]; exact hI j (by omega)) w (lv_sub hl [1, 2, 3, 0] rfl)
set_option maxHeartbeats 4000000 in
set_option maxRecDepth 100000 in
theorem kX7_chart (l : Launch) (G : zG) (ad : Nat → Nat) {M : Nat → Nat → Int32} {lev : Nat → UInt32} (hI : mI M lev) (rows cols : Int32) (sz : Nat) : zMl l yX7_chart wsX7_chart { frames := 1, cells := 0, slots := 0, locals := 22 } G [.ref (ad 0), .int rows, .int cols] (mW G ad M lev) sz (fun v u => if zGF rows cols = 0 then (∃ (C : Nat → Int32), (∀ j, j < 144 → C j = 0) ∧ u = mW G ad (va_up (va_up M 9 (upd (upd (M 9) 0 rows) 1 cols)) 7 C) lev ∧ v = rows.toInt64) else mRefP G ad M lev (zGF rows cols) v u) 0 0 := by
  refine zIn (Qc := fun A => va_Ql _ (zB G A) A) (cc := cX7_chart) (maxL := 4) (ret := (some .long)) (by decide) rfl (Nat.le_of_ble_eq_true rfl) ?_
  intro p e s m below meth c A ls hx hb hr hlk hml hts hown hnm hK w hl
  have hown : s.vm.findClass RX7 = some m.cls := hown
  have hl : lv_has ls 4 [(0, .ref (ad 0)), (1, .int rows), (2, .int cols)] := hl
  refine lv_iload_n hx hb dX7_chart_0 rfl (lv_at hl 1 rfl) ?_
  refine lv_bipush (v := 12) hx hb dX7_chart_1 (by decide) ?_
  refine lv_icmp_gt (tgt := 12) hx hb dX7_chart_3 (by decide) (fun c_1 => ?_) (fun c_1 => ?_)
  · have e_g : zGF rows cols = zGREAT := by simp [zGF, c_1]
    refine lv_aload_n hx hb dX7_chart_12 rfl (lv_at hl 0 rfl) ?_
    refine lv_ldc2 hx hb hown (hts (.constantLong RX7 65 (5497558138880)) (by decide +kernel)) dX7_chart_13 ?_
    refine zCl w (va_runV (As := [.long 5497558138880]) (rest := []) ⟨hx, hb, hml, hown, hts⟩ (kX7_refuse l G ad zGREAT zW5 s.heap.size) (cwV 1 hts gX7_chart_X7_refuse rfl rfl rfl (by decide +kernel) ⟨(Nat.le_of_ble_eq_true rfl), (Nat.le_of_ble_eq_true rfl)⟩) (zPV w hK (va_recv hK.1 w.1 (ci := 6) (q0 := 0) rfl rfl)) rfl rfl hl.1 rfl (lv_room (Nat.le_of_ble_eq_true rfl)) dX7_chart_16 ⟨(Nat.le_of_ble_eq_true rfl), (Nat.le_of_ble_eq_true rfl)⟩) (fun r_2 u H locs hq w => ?_)
    obtain ⟨rfl, e_r⟩ := hq
    subst e_r
    exact zRl hx hb hr hlk w dX7_chart_19 (Nat.le_of_ble_eq_true rfl) (Nat.le_of_ble_eq_true rfl) (by show (if _ then _ else _); rw [if_neg (by rw [e_g]; decide), e_g]; exact ⟨rfl, rfl⟩)
  · refine lv_iload_n hx hb dX7_chart_6 rfl (lv_at hl 2 rfl) ?_
    refine lv_bipush (v := 12) hx hb dX7_chart_7 (by decide) ?_
    refine lv_icmp_le (tgt := 20) hx hb dX7_chart_9 (by decide) (fun c_3 => ?_) (fun c_3 => ?_)
    · refine lv_iload_n hx hb dX7_chart_20 rfl (lv_at hl 1 rfl) ?_
      refine lv_if_lt (tgt := 28) hx hb dX7_chart_21 (by decide) (fun c_4 => ?_) (fun c_4 => ?_)
      · have e_g : zGF rows cols = zNEGATIVE := by simp [zGF, c_1, c_3, c_4]
        refine lv_aload_n hx hb dX7_chart_28 rfl (lv_at hl 0 rfl) ?_
        refine lv_ldc2 hx hb hown (hts (.constantLong RX7 67 (4398046511104)) (by decide +kernel)) dX7_chart_29 ?_
        refine zCl w (va_runV (As := [.long 4398046511104]) (rest := []) ⟨hx, hb, hml, hown, hts⟩ (kX7_refuse l G ad zNEGATIVE zW4 s.heap.size) (cwV 1 hts gX7_chart_X7_refuse rfl rfl rfl (by decide +kernel) ⟨(Nat.le_of_ble_eq_true rfl), (Nat.le_of_ble_eq_true rfl)⟩) (zPV w hK (va_recv hK.1 w.1 (ci := 6) (q0 := 0) rfl rfl)) rfl rfl hl.1 rfl (lv_room (Nat.le_of_ble_eq_true rfl)) dX7_chart_32 ⟨(Nat.le_of_ble_eq_true rfl), (Nat.le_of_ble_eq_true rfl)⟩) (fun r_5 u H locs hq w => ?_)
        obtain ⟨rfl, e_r⟩ := hq
        subst e_r
        exact zRl hx hb hr hlk w dX7_chart_35 (Nat.le_of_ble_eq_true rfl) (Nat.le_of_ble_eq_true rfl) (by show (if _ then _ else _); rw [if_neg (by rw [e_g]; decide), e_g]; exact ⟨rfl, rfl⟩)
      · refine lv_iload_n hx hb dX7_chart_24 rfl (lv_at hl 2 rfl) ?_
        refine lv_if_ge (tgt := 36) hx hb dX7_chart_25 (by decide) (fun c_6 => ?_) (fun c_6 => ?_)
        · have e_g : zGF rows cols = 0 := by simp [zGF, c_1, c_3, c_4, c_6]
          obtain ⟨g1, g2, g3, g4⟩ := zGF_0 e_g
          have hr2 := zle12 g1 g2
          have hc2 := zle12 g3 g4
          refine lv_aload_n hx hb dX7_chart_36 rfl (lv_at hl 0 rfl) ?_
          refine lv_iload_n hx hb dX7_chart_37 rfl (lv_at hl 1 rfl) ?_
          refine zm_put (ci := 6) (C := RX7) (T := TX7) (N := 11) (v := .int rows) (ty := .int) hx hb hts hown hK w (by decide +kernel) tyX7 tyX7_ok nmX7 0 rfl rfl 7 (by decide) (hts (.fieldLink RX7 33 "ReelBarnModel" "chartRows" "I") (by decide +kernel)) (fun _ h9 => h9) rfl (by decide +kernel) rfl rfl (Nat.le_of_ble_eq_true rfl) dX7_chart_38 (fun H locs w => ?_)
          have w : zW G A s H locs (mW G ad (va_up M 9 (upd (M 9) 0 rows)) lev) := w
          refine lv_aload_n hx hb dX7_chart_41 rfl (lv_at hl 0 rfl) ?_
          refine lv_iload_n hx hb dX7_chart_42 rfl (lv_at hl 2 rfl) ?_
          refine zm_put (ci := 6) (C := RX7) (T := TX7) (N := 11) (v := .int cols) (ty := .int) hx hb hts hown hK w (by decide +kernel) tyX7 tyX7_ok nmX7 0 rfl rfl 8 (by decide) (hts (.fieldLink RX7 103 "ReelBarnModel" "chartColumns" "I") (by decide +kernel)) (fun _ h9 => h9) rfl (by decide +kernel) rfl rfl (Nat.le_of_ble_eq_true rfl) dX7_chart_43 (fun H locs w => ?_)
          have w : zW G A s H locs (mW G ad (va_up (va_up M 9 (upd (M 9) 0 rows)) 9 (upd ((va_up M 9 (upd (M 9) 0 rows)) 9) 1 cols)) lev) := w
          refine lv_iconst (v := 0) hx hb dX7_chart_46 (by decide) ?_
          refine lv_istore_n (lv' := [(3, .int 0), (0, .ref (ad 0)), (1, .int rows), (2, .int cols)]) hx hb dX7_chart_47 rfl hl (by decide) rfl (fun ls hl => ?_)
          have w : zW G A s H locs (mW G ad (va_up (va_up M 9 (upd (upd (M 9) 0 rows) 1 cols)) 7 (M 7)) lev) := w
          refine lpH_chart (M := (va_up M 9 (upd (upd (M 9) 0 rows) 1 cols))) ad hx hb hts hown hK (fun C H locs ls hC w hl => ?_) 145 0 (by decide) (by decide) (M 7) H _ ls (fun j hj => absurd hj (Nat.not_lt_zero j)) w (lv_sub hl [1, 2, 3, 0] rfl)
          refine lv_iload_n hx hb dX7_chart_68 rfl (lv_at hl 1 rfl) ?_
          refine lv_i2l hx hb dX7_chart_69 rfl ?_
          exact zRl hx hb hr hlk w dX7_chart_70 (Nat.le_of_ble_eq_true rfl) (Nat.le_of_ble_eq_true rfl) (by show (if _ then _ else _); rw [if_pos e_g]; exact ⟨C, hC, rfl, rfl⟩)
        · have e_g : zGF rows cols = zNEGATIVE := by simp [zGF, c_1, c_3, c_4, c_6]
          refine lv_aload_n hx hb dX7_chart_28 rfl (lv_at hl 0 rfl) ?_
          refine lv_ldc2 hx hb hown (hts (.constantLong RX7 67 (4398046511104)) (by decide +kernel)) dX7_chart_29 ?_
          refine zCl w (va_runV (As := [.long 4398046511104]) (rest := []) ⟨hx, hb, hml, hown, hts⟩ (kX7_refuse l G ad zNEGATIVE zW4 s.heap.size) (cwV 1 hts gX7_chart_X7_refuse rfl rfl rfl (by decide +kernel) ⟨(Nat.le_of_ble_eq_true rfl), (Nat.le_of_ble_eq_true rfl)⟩) (zPV w hK (va_recv hK.1 w.1 (ci := 6) (q0 := 0) rfl rfl)) rfl rfl hl.1 rfl (lv_room (Nat.le_of_ble_eq_true rfl)) dX7_chart_32 ⟨(Nat.le_of_ble_eq_true rfl), (Nat.le_of_ble_eq_true rfl)⟩) (fun r_7 u H locs hq w => ?_)
          obtain ⟨rfl, e_r⟩ := hq
          subst e_r
          exact zRl hx hb hr hlk w dX7_chart_35 (Nat.le_of_ble_eq_true rfl) (Nat.le_of_ble_eq_true rfl) (by show (if _ then _ else _); rw [if_neg (by rw [e_g]; decide), e_g]; exact ⟨rfl, rfl⟩)
    · have e_g : zGF rows cols = zGREAT := by simp [zGF, c_1, c_3]
      refine lv_aload_n hx hb dX7_chart_12 rfl (lv_at hl 0 rfl) ?_
      refine lv_ldc2 hx hb hown (hts (.constantLong RX7 65 (5497558138880)) (by decide +kernel)) dX7_chart_13 ?_
      refine zCl w (va_runV (As := [.long 5497558138880]) (rest := []) ⟨hx, hb, hml, hown, hts⟩ (kX7_refuse l G ad zGREAT zW5 s.heap.size) (cwV 1 hts gX7_chart_X7_refuse rfl rfl rfl (by decide +kernel) ⟨(Nat.le_of_ble_eq_true rfl), (Nat.le_of_ble_eq_true rfl)⟩) (zPV w hK (va_recv hK.1 w.1 (ci := 6) (q0 := 0) rfl rfl)) rfl rfl hl.1 rfl (lv_room (Nat.le_of_ble_eq_true rfl)) dX7_chart_16 ⟨(Nat.le_of_ble_eq_true rfl), (Nat.le_of_ble_eq_true rfl)⟩) (fun r_8 u H locs hq w => ?_)
      obtain ⟨rfl, e_r⟩ := hq
      subst e_r
      exact zRl hx hb hr hlk w dX7_chart_19 (Nat.le_of_ble_eq_true rfl) (Nat.le_of_ble_eq_true rfl) (by show (if _ then _ else _); rw [if_neg (by rw [e_g]; decide), e_g]; exact ⟨rfl, rfl⟩)
set_option maxHeartbeats 4000000 in
set_option maxRecDepth 100000 in
theorem lpI_car {p : Program} {l : Launch} {e : Env} {R : Room} {s : State} {m : MethodId} {args : Array Value} {below : List Frame} {meth : Method} {c : Code} {A : Nat → Prop} {G : zG} {cells slots : Nat} {Q : State → Prop} (ad : Nat → Nat) {M : Nat → Nat → Int32} {lev : Nat → UInt32} (hx : p.tables.exec = Jvm.exec) (hb : c.code = cX7_init) (hts : ∀ x ∈ wsX7_init, x.before args s = true) (hown : s.vm.findClass RX7 = some m.cls) (hK : zK G s)
    (kont : ∀ (C : Nat → Int32) (H : Heap) (locs : List Loc) (ls : Array Slot), (∀ j, j < 16 → C j = -1) → zW G A s H locs (mW G ad (va_up M 0 C) lev) → lv_has ls 2 [(0, .ref (ad 0))] → W p l e R s m args below meth c H locs cells slots Q (F0 m 104 ls [])) :
    ∀ (fuel k : Nat), k ≤ 16 → 16 < k + fuel → ∀ (C : Nat → Int32) (H : Heap) (locs : List Loc) (ls : Array Slot), (∀ j, j < k → C j = -1) → zW G A s H locs (mW G ad (va_up M 0 C) lev) → lv_has ls 2 [(0, .ref (ad 0)), (1, .int (nI k))] → W p l e R s m args below meth c H locs cells slots Q (F0 m 85 ls []) := by
  intro fuel
  induction fuel with
  | zero => intro k h1 h2; exact absurd h2 (by omega)
  | succ fuel ih =>
    intro k hk hfu C H locs ls hI w hl
    refine lv_iload_n hx hb dX7_init_85 rfl (lv_at hl 1 rfl) ?_
    refine lv_bipush (v := 16) hx hb dX7_init_86 (by decide) ?_
    refine lv_icmp_ge (tgt := 104) hx hb dX7_init_88 (by decide) (fun c_1 => ?_) (fun c_1 => ?_)
    · have hkN : k = 16 := by have := (nI_leI (a := 16) (b := k) (by decide) (by omega)).mp c_1; omega
      subst hkN
      exact kont C H locs ls hI w (lv_sub hl [0] rfl)
    · have hlt : k < 16 := Nat.lt_of_not_le (fun q => c_1 ((nI_leI (a := 16) (b := k) (by decide) (by omega)).mpr q))
      refine lv_aload_n hx hb dX7_init_91 rfl (lv_at hl 0 rfl) ?_
      refine zget (ci := 6) (C := RX7) (T := TX7) (N := 11) hx hb hts hown hK w (by decide +kernel) 0 rfl rfl 0 (by decide) (hts (.fieldLink RX7 7 "ReelBarnModel" "carried" "[I") (by decide +kernel)) (fun _ h9 => h9) rfl dX7_init_92 ?_
      refine lv_iload_n hx hb dX7_init_95 rfl (lv_at hl 1 rfl) ?_
      refine lv_iconst (v := (-1)) hx hb dX7_init_96 (by decide) ?_
      refine zm_iast hx hb hK w 1 rfl (vp_in_nI hlt (by decide)) dX7_init_97 (fun H locs w => ?_)
      rw [nI_clamp (by omega)] at w
      have w : zW G A s H locs (mW G ad (va_up M 0 (upd C k (-1))) lev) := w
      refine lv_iinc (v := ((nI k) + 1)) (lv' := [(1, .int ((nI k) + 1)), (0, .ref (ad 0))]) hx hb dX7_init_98 hl (k := 1) rfl rfl (by decide) rfl (fun ls hl => ?_)
      refine lv_goto (tgt := 85) hx hb dX7_init_101 (by decide) ?_
      rw [nI_1] at hl
      exact ih (k + 1) hlt (by omega) _ _ _ _ (fun j hj => by by_cases q : j = k <;> simp [upd, q]; exact hI j (by omega)) w (lv_sub hl [1, 0] rfl)
set_option maxHeartbeats 4000000 in
set_option maxRecDepth 100000 in
theorem lpI_wal {p : Program} {l : Launch} {e : Env} {R : Room} {s : State} {m : MethodId} {args : Array Value} {below : List Frame} {meth : Method} {c : Code} {A : Nat → Prop} {G : zG} {cells slots : Nat} {Q : State → Prop} (ad : Nat → Nat) {M : Nat → Nat → Int32} {lev : Nat → UInt32} (hx : p.tables.exec = Jvm.exec) (hb : c.code = cX7_init) (hts : ∀ x ∈ wsX7_init, x.before args s = true) (hown : s.vm.findClass RX7 = some m.cls) (hK : zK G s)
    (kont : ∀ (C : Nat → Int32) (H : Heap) (locs : List Loc) (ls : Array Slot), (∀ j, j < 48 → C j = -1) → zW G A s H locs (mW G ad (va_up M 2 C) lev) → lv_has ls 2 [(0, .ref (ad 0))] → W p l e R s m args below meth c H locs cells slots Q (F0 m 125 ls [])) :
    ∀ (fuel k : Nat), k ≤ 48 → 48 < k + fuel → ∀ (C : Nat → Int32) (H : Heap) (locs : List Loc) (ls : Array Slot), (∀ j, j < k → C j = -1) → zW G A s H locs (mW G ad (va_up M 2 C) lev) → lv_has ls 2 [(0, .ref (ad 0)), (1, .int (nI k))] → W p l e R s m args below meth c H locs cells slots Q (F0 m 106 ls []) := by
  intro fuel
  induction fuel with
  | zero => intro k h1 h2; exact absurd h2 (by omega)
  | succ fuel ih =>
    intro k hk hfu C H locs ls hI w hl
    refine lv_iload_n hx hb dX7_init_106 rfl (lv_at hl 1 rfl) ?_
    refine lv_bipush (v := 48) hx hb dX7_init_107 (by decide) ?_
    refine lv_icmp_ge (tgt := 125) hx hb dX7_init_109 (by decide) (fun c_1 => ?_) (fun c_1 => ?_)
    · have hkN : k = 48 := by have := (nI_leI (a := 48) (b := k) (by decide) (by omega)).mp c_1; omega
      subst hkN
      exact kont C H locs ls hI w (lv_sub hl [0] rfl)
    · have hlt : k < 48 := Nat.lt_of_not_le (fun q => c_1 ((nI_leI (a := 48) (b := k) (by decide) (by omega)).mpr q))
      refine lv_aload_n hx hb dX7_init_112 rfl (lv_at hl 0 rfl) ?_
      refine zget (ci := 6) (C := RX7) (T := TX7) (N := 11) hx hb hts hown hK w (by decide +kernel) 0 rfl rfl 2 (by decide) (hts (.fieldLink RX7 16 "ReelBarnModel" "wall" "[I") (by decide +kernel)) (fun _ h9 => h9) rfl dX7_init_113 ?_
      refine lv_iload_n hx hb dX7_init_116 rfl (lv_at hl 1 rfl) ?_
      refine lv_iconst (v := (-1)) hx hb dX7_init_117 (by decide) ?_
      refine zm_iast hx hb hK w 3 rfl (vp_in_nI hlt (by decide)) dX7_init_118 (fun H locs w => ?_)
      rw [nI_clamp (by omega)] at w
      have w : zW G A s H locs (mW G ad (va_up M 2 (upd C k (-1))) lev) := w
      refine lv_iinc (v := ((nI k) + 1)) (lv' := [(1, .int ((nI k) + 1)), (0, .ref (ad 0))]) hx hb dX7_init_119 hl (k := 1) rfl rfl (by decide) rfl (fun ls hl => ?_)
      refine lv_goto (tgt := 106) hx hb dX7_init_122 (by decide) ?_
      rw [nI_1] at hl
      exact ih (k + 1) hlt (by omega) _ _ _ _ (fun j hj => by by_cases q : j = k <;> simp [upd, q]; exact hI j (by omega)) w (lv_sub hl [1, 0] rfl)
set_option maxHeartbeats 4000000 in
set_option maxRecDepth 100000 in
theorem lpI_row {p : Program} {l : Launch} {e : Env} {R : Room} {s : State} {m : MethodId} {args : Array Value} {below : List Frame} {meth : Method} {c : Code} {A : Nat → Prop} {G : zG} {cells slots : Nat} {Q : State → Prop} (ad : Nat → Nat) {M : Nat → Nat → Int32} {lev : Nat → UInt32} (hx : p.tables.exec = Jvm.exec) (hb : c.code = cX7_init) (hts : ∀ x ∈ wsX7_init, x.before args s = true) (hown : s.vm.findClass RX7 = some m.cls) (hK : zK G s)
    (kont : ∀ (C : Nat → Int32) (H : Heap) (locs : List Loc) (ls : Array Slot), (∀ j, j < 4 → C j = -1) → zW G A s H locs (mW G ad (va_up M 1 C) lev) → lv_has ls 2 [(0, .ref (ad 0))] → W p l e R s m args below meth c H locs cells slots Q (F0 m 145 ls [])) :
    ∀ (fuel k : Nat), k ≤ 4 → 4 < k + fuel → ∀ (C : Nat → Int32) (H : Heap) (locs : List Loc) (ls : Array Slot), (∀ j, j < k → C j = -1) → zW G A s H locs (mW G ad (va_up M 1 C) lev) → lv_has ls 2 [(0, .ref (ad 0)), (1, .int (nI k))] → W p l e R s m args below meth c H locs cells slots Q (F0 m 127 ls []) := by
  intro fuel
  induction fuel with
  | zero => intro k h1 h2; exact absurd h2 (by omega)
  | succ fuel ih =>
    intro k hk hfu C H locs ls hI w hl
    refine lv_iload_n hx hb dX7_init_127 rfl (lv_at hl 1 rfl) ?_
    refine lv_iconst (v := 4) hx hb dX7_init_128 (by decide) ?_
    refine lv_icmp_ge (tgt := 145) hx hb dX7_init_129 (by decide) (fun c_1 => ?_) (fun c_1 => ?_)
    · have hkN : k = 4 := by have := (nI_leI (a := 4) (b := k) (by decide) (by omega)).mp c_1; omega
      subst hkN
      exact kont C H locs ls hI w (lv_sub hl [0] rfl)
    · have hlt : k < 4 := Nat.lt_of_not_le (fun q => c_1 ((nI_leI (a := 4) (b := k) (by decide) (by omega)).mpr q))
      refine lv_aload_n hx hb dX7_init_132 rfl (lv_at hl 0 rfl) ?_
      refine zget (ci := 6) (C := RX7) (T := TX7) (N := 11) hx hb hts hown hK w (by decide +kernel) 0 rfl rfl 1 (by decide) (hts (.fieldLink RX7 13 "ReelBarnModel" "rowsOf" "[I") (by decide +kernel)) (fun _ h9 => h9) rfl dX7_init_133 ?_
      refine lv_iload_n hx hb dX7_init_136 rfl (lv_at hl 1 rfl) ?_
      refine lv_iconst (v := (-1)) hx hb dX7_init_137 (by decide) ?_
      refine zm_iast hx hb hK w 2 rfl (vp_in_nI hlt (by decide)) dX7_init_138 (fun H locs w => ?_)
      rw [nI_clamp (by omega)] at w
      have w : zW G A s H locs (mW G ad (va_up M 1 (upd C k (-1))) lev) := w
      refine lv_iinc (v := ((nI k) + 1)) (lv' := [(1, .int ((nI k) + 1)), (0, .ref (ad 0))]) hx hb dX7_init_139 hl (k := 1) rfl rfl (by decide) rfl (fun ls hl => ?_)
      refine lv_goto (tgt := 127) hx hb dX7_init_142 (by decide) ?_
      rw [nI_1] at hl
      exact ih (k + 1) hlt (by omega) _ _ _ _ (fun j hj => by by_cases q : j = k <;> simp [upd, q]; exact hI j (by omega)) w (lv_sub hl [1, 0] rfl)
set_option maxHeartbeats 4000000 in
set_option maxRecDepth 100000 in
theorem kX7_init (l : Launch) (G : zG) (o : Nat) (sz : Nat) : zMv l yX7_init wsX7_init { frames := 1, cells := 9, slots := 6780, locals := 12 } G [.ref o] ([(o, .inr (6, [.null, .null, .null, .null, .null, .null, .null, .int 0, .int 0, .null, .null]))]) sz (fun u => ∃ (ad : Nat → Nat) (C1 C2 C3 : Nat → Int32), o = ad 0 ∧ (∀ j, j < 16 → C1 j = -1) ∧ (∀ j, j < 48 → C2 j = -1) ∧ (∀ j, j < 4 → C3 j = -1) ∧ u = mW G ad (va_up (va_up (va_up mM0 0 C1) 2 C2) 1 C3) (fun _ => 0)) 9 6780 := by
  refine zIn (Qc := fun A => va_Qv _ (zB G A) A) (cc := cX7_init) (maxL := 2) (ret := none) (by decide) rfl (Nat.le_of_ble_eq_true rfl) ?_
  intro p e s m below meth c A ls hx hb hr hlk hml hts hown hnm hK w hl
  have hown : s.vm.findClass RX7 = some m.cls := hown
  have hl : lv_has ls 2 [(0, .ref o)] := hl
  refine lv_aload_n hx hb dX7_init_0 rfl (lv_at hl 0 rfl) ?_
  refine W.objInit hx hb hown (hts (.methodLink RX7 1 objectInit) (by decide +kernel)) (hts (.instanceMethod objectInit) (by decide +kernel)) (hts (.code objectInit ⟨#[0xb1]⟩ 1 none) (by decide +kernel)) rfl (by rw [hml]; exact hl.1) rfl dX7_init_1 (Nat.le_of_ble_eq_true rfl) (Nat.le_of_ble_eq_true rfl) ?_
  refine W.eq (g2 := F0 m 4 ls []) rfl ?_
  refine lv_aload_n hx hb dX7_init_4 rfl (lv_at hl 0 rfl) ?_
  refine lv_bipush (v := 16) hx hb dX7_init_5 (by decide) ?_
  refine zm_newI hx hb (hts (.arrayClass .int) (by decide +kernel)) hK w (by decide) rfl (by decide) (Nat.le_of_ble_eq_true rfl) (Nat.le_of_ble_eq_true rfl) dX7_init_7 (fun q1 H w => ?_)
  refine W.widen (k := 1) (n := 16) (Nat.le_of_ble_eq_true rfl) (Nat.le_of_ble_eq_true rfl) ?_
  have w : zW G A s H _ [(o, .inr (6, [.null, .null, .null, .null, .null, .null, .null, .int 0, .int 0, .null, .null])), (q1, .inl (G.2 4, 16, .inl (fun _ => 0)))] := w
  refine zm_putF (ci := 6) (C := RX7) (T := TX7) (N := 11) (v := .ref q1) (ty := .array .int) hx hb hts hown hK w (by decide +kernel) tyX7 tyX7_ok nmX7 0 rfl rfl 0 (by decide) (hts (.fieldLink RX7 7 "ReelBarnModel" "carried" "[I") (by decide +kernel)) (fun _ h9 => h9) rfl hnm rfl (by decide +kernel) rfl rfl (Nat.le_of_ble_eq_true rfl) dX7_init_9 (fun H locs w => ?_)
  have w : zW G A s H _ [(o, .inr (6, [.ref q1, .null, .null, .null, .null, .null, .null, .int 0, .int 0, .null, .null])), (q1, .inl (G.2 4, 16, .inl (fun _ => 0)))] := w
  refine lv_aload_n hx hb dX7_init_12 rfl (lv_at hl 0 rfl) ?_
  refine lv_iconst (v := 4) hx hb dX7_init_13 (by decide) ?_
  refine zm_newI hx hb (hts (.arrayClass .int) (by decide +kernel)) hK w (by decide) rfl (by decide) (Nat.le_of_ble_eq_true rfl) (Nat.le_of_ble_eq_true rfl) dX7_init_14 (fun q2 H w => ?_)
  refine W.widen (k := 2) (n := 20) (Nat.le_of_ble_eq_true rfl) (Nat.le_of_ble_eq_true rfl) ?_
  have w : zW G A s H _ [(o, .inr (6, [.ref q1, .null, .null, .null, .null, .null, .null, .int 0, .int 0, .null, .null])), (q1, .inl (G.2 4, 16, .inl (fun _ => 0))), (q2, .inl (G.2 4, 4, .inl (fun _ => 0)))] := w
  refine zm_putF (ci := 6) (C := RX7) (T := TX7) (N := 11) (v := .ref q2) (ty := .array .int) hx hb hts hown hK w (by decide +kernel) tyX7 tyX7_ok nmX7 0 rfl rfl 1 (by decide) (hts (.fieldLink RX7 13 "ReelBarnModel" "rowsOf" "[I") (by decide +kernel)) (fun _ h9 => h9) rfl hnm rfl (by decide +kernel) rfl rfl (Nat.le_of_ble_eq_true rfl) dX7_init_16 (fun H locs w => ?_)
  have w : zW G A s H _ [(o, .inr (6, [.ref q1, .ref q2, .null, .null, .null, .null, .null, .int 0, .int 0, .null, .null])), (q1, .inl (G.2 4, 16, .inl (fun _ => 0))), (q2, .inl (G.2 4, 4, .inl (fun _ => 0)))] := w
  refine lv_aload_n hx hb dX7_init_19 rfl (lv_at hl 0 rfl) ?_
  refine lv_bipush (v := 48) hx hb dX7_init_20 (by decide) ?_
  refine zm_newI hx hb (hts (.arrayClass .int) (by decide +kernel)) hK w (by decide) rfl (by decide) (Nat.le_of_ble_eq_true rfl) (Nat.le_of_ble_eq_true rfl) dX7_init_22 (fun q3 H w => ?_)
  refine W.widen (k := 3) (n := 68) (Nat.le_of_ble_eq_true rfl) (Nat.le_of_ble_eq_true rfl) ?_
  have w : zW G A s H _ [(o, .inr (6, [.ref q1, .ref q2, .null, .null, .null, .null, .null, .int 0, .int 0, .null, .null])), (q1, .inl (G.2 4, 16, .inl (fun _ => 0))), (q2, .inl (G.2 4, 4, .inl (fun _ => 0))), (q3, .inl (G.2 4, 48, .inl (fun _ => 0)))] := w
  refine zm_putF (ci := 6) (C := RX7) (T := TX7) (N := 11) (v := .ref q3) (ty := .array .int) hx hb hts hown hK w (by decide +kernel) tyX7 tyX7_ok nmX7 0 rfl rfl 2 (by decide) (hts (.fieldLink RX7 16 "ReelBarnModel" "wall" "[I") (by decide +kernel)) (fun _ h9 => h9) rfl hnm rfl (by decide +kernel) rfl rfl (Nat.le_of_ble_eq_true rfl) dX7_init_24 (fun H locs w => ?_)
  have w : zW G A s H _ [(o, .inr (6, [.ref q1, .ref q2, .ref q3, .null, .null, .null, .null, .int 0, .int 0, .null, .null])), (q1, .inl (G.2 4, 16, .inl (fun _ => 0))), (q2, .inl (G.2 4, 4, .inl (fun _ => 0))), (q3, .inl (G.2 4, 48, .inl (fun _ => 0)))] := w
  refine lv_aload_n hx hb dX7_init_27 rfl (lv_at hl 0 rfl) ?_
  refine lv_bipush (v := 80) hx hb dX7_init_28 (by decide) ?_
  refine zm_newI hx hb (hts (.arrayClass .int) (by decide +kernel)) hK w (by decide) rfl (by decide) (Nat.le_of_ble_eq_true rfl) (Nat.le_of_ble_eq_true rfl) dX7_init_30 (fun q4 H w => ?_)
  refine W.widen (k := 4) (n := 148) (Nat.le_of_ble_eq_true rfl) (Nat.le_of_ble_eq_true rfl) ?_
  have w : zW G A s H _ [(o, .inr (6, [.ref q1, .ref q2, .ref q3, .null, .null, .null, .null, .int 0, .int 0, .null, .null])), (q1, .inl (G.2 4, 16, .inl (fun _ => 0))), (q2, .inl (G.2 4, 4, .inl (fun _ => 0))), (q3, .inl (G.2 4, 48, .inl (fun _ => 0))), (q4, .inl (G.2 4, 80, .inl (fun _ => 0)))] := w
  refine zm_putF (ci := 6) (C := RX7) (T := TX7) (N := 11) (v := .ref q4) (ty := .array .int) hx hb hts hown hK w (by decide +kernel) tyX7 tyX7_ok nmX7 0 rfl rfl 3 (by decide) (hts (.fieldLink RX7 19 "ReelBarnModel" "sizes" "[I") (by decide +kernel)) (fun _ h9 => h9) rfl hnm rfl (by decide +kernel) rfl rfl (Nat.le_of_ble_eq_true rfl) dX7_init_32 (fun H locs w => ?_)
  have w : zW G A s H _ [(o, .inr (6, [.ref q1, .ref q2, .ref q3, .ref q4, .null, .null, .null, .int 0, .int 0, .null, .null])), (q1, .inl (G.2 4, 16, .inl (fun _ => 0))), (q2, .inl (G.2 4, 4, .inl (fun _ => 0))), (q3, .inl (G.2 4, 48, .inl (fun _ => 0))), (q4, .inl (G.2 4, 80, .inl (fun _ => 0)))] := w
  refine lv_aload_n hx hb dX7_init_35 rfl (lv_at hl 0 rfl) ?_
  refine lv_sipush (v := 3200) hx hb dX7_init_36 (by decide) ?_
  refine zm_newI hx hb (hts (.arrayClass .int) (by decide +kernel)) hK w (by decide) rfl (by decide) (Nat.le_of_ble_eq_true rfl) (Nat.le_of_ble_eq_true rfl) dX7_init_39 (fun q5 H w => ?_)
  refine W.widen (k := 5) (n := 3348) (Nat.le_of_ble_eq_true rfl) (Nat.le_of_ble_eq_true rfl) ?_
  have w : zW G A s H _ [(o, .inr (6, [.ref q1, .ref q2, .ref q3, .ref q4, .null, .null, .null, .int 0, .int 0, .null, .null])), (q1, .inl (G.2 4, 16, .inl (fun _ => 0))), (q2, .inl (G.2 4, 4, .inl (fun _ => 0))), (q3, .inl (G.2 4, 48, .inl (fun _ => 0))), (q4, .inl (G.2 4, 80, .inl (fun _ => 0))), (q5, .inl (G.2 4, 3200, .inl (fun _ => 0)))] := w
  refine zm_putF (ci := 6) (C := RX7) (T := TX7) (N := 11) (v := .ref q5) (ty := .array .int) hx hb hts hown hK w (by decide +kernel) tyX7 tyX7_ok nmX7 0 rfl rfl 4 (by decide) (hts (.fieldLink RX7 22 "ReelBarnModel" "whole" "[I") (by decide +kernel)) (fun _ h9 => h9) rfl hnm rfl (by decide +kernel) rfl rfl (Nat.le_of_ble_eq_true rfl) dX7_init_41 (fun H locs w => ?_)
  have w : zW G A s H _ [(o, .inr (6, [.ref q1, .ref q2, .ref q3, .ref q4, .ref q5, .null, .null, .int 0, .int 0, .null, .null])), (q1, .inl (G.2 4, 16, .inl (fun _ => 0))), (q2, .inl (G.2 4, 4, .inl (fun _ => 0))), (q3, .inl (G.2 4, 48, .inl (fun _ => 0))), (q4, .inl (G.2 4, 80, .inl (fun _ => 0))), (q5, .inl (G.2 4, 3200, .inl (fun _ => 0)))] := w
  refine lv_aload_n hx hb dX7_init_44 rfl (lv_at hl 0 rfl) ?_
  refine lv_sipush (v := 3200) hx hb dX7_init_45 (by decide) ?_
  refine zm_newF hx hb (hts (.arrayClass .float) (by decide +kernel)) hK w (by decide) rfl (by decide) (Nat.le_of_ble_eq_true rfl) (Nat.le_of_ble_eq_true rfl) dX7_init_48 (fun q6 H w => ?_)
  refine W.widen (k := 6) (n := 6548) (Nat.le_of_ble_eq_true rfl) (Nat.le_of_ble_eq_true rfl) ?_
  have w : zW G A s H _ [(o, .inr (6, [.ref q1, .ref q2, .ref q3, .ref q4, .ref q5, .null, .null, .int 0, .int 0, .null, .null])), (q1, .inl (G.2 4, 16, .inl (fun _ => 0))), (q2, .inl (G.2 4, 4, .inl (fun _ => 0))), (q3, .inl (G.2 4, 48, .inl (fun _ => 0))), (q4, .inl (G.2 4, 80, .inl (fun _ => 0))), (q5, .inl (G.2 4, 3200, .inl (fun _ => 0))), (q6, .inl (G.2 0, 3200, .inr (.inr (.inl (fun _ => 0)))))] := w
  refine zm_putF (ci := 6) (C := RX7) (T := TX7) (N := 11) (v := .ref q6) (ty := .array .float) hx hb hts hown hK w (by decide +kernel) tyX7 tyX7_ok nmX7 0 rfl rfl 5 (by decide) (hts (.fieldLink RX7 25 "ReelBarnModel" "level" "[F") (by decide +kernel)) (fun _ h9 => h9) rfl hnm rfl (by decide +kernel) rfl rfl (Nat.le_of_ble_eq_true rfl) dX7_init_50 (fun H locs w => ?_)
  have w : zW G A s H _ [(o, .inr (6, [.ref q1, .ref q2, .ref q3, .ref q4, .ref q5, .ref q6, .null, .int 0, .int 0, .null, .null])), (q1, .inl (G.2 4, 16, .inl (fun _ => 0))), (q2, .inl (G.2 4, 4, .inl (fun _ => 0))), (q3, .inl (G.2 4, 48, .inl (fun _ => 0))), (q4, .inl (G.2 4, 80, .inl (fun _ => 0))), (q5, .inl (G.2 4, 3200, .inl (fun _ => 0))), (q6, .inl (G.2 0, 3200, .inr (.inr (.inl (fun _ => 0)))))] := w
  refine lv_aload_n hx hb dX7_init_53 rfl (lv_at hl 0 rfl) ?_
  refine lv_bipush (v := 80) hx hb dX7_init_54 (by decide) ?_
  refine zm_newZ hx hb (hts (.arrayClass .boolean) (by decide +kernel)) hK w (by decide) rfl (by decide) (Nat.le_of_ble_eq_true rfl) (Nat.le_of_ble_eq_true rfl) dX7_init_56 (fun q7 H w => ?_)
  refine W.widen (k := 7) (n := 6628) (Nat.le_of_ble_eq_true rfl) (Nat.le_of_ble_eq_true rfl) ?_
  have w : zW G A s H _ [(o, .inr (6, [.ref q1, .ref q2, .ref q3, .ref q4, .ref q5, .ref q6, .null, .int 0, .int 0, .null, .null])), (q1, .inl (G.2 4, 16, .inl (fun _ => 0))), (q2, .inl (G.2 4, 4, .inl (fun _ => 0))), (q3, .inl (G.2 4, 48, .inl (fun _ => 0))), (q4, .inl (G.2 4, 80, .inl (fun _ => 0))), (q5, .inl (G.2 4, 3200, .inl (fun _ => 0))), (q6, .inl (G.2 0, 3200, .inr (.inr (.inl (fun _ => 0))))), (q7, .inl (G.2 1, 80, .inl (fun _ => 0)))] := w
  refine zm_putF (ci := 6) (C := RX7) (T := TX7) (N := 11) (v := .ref q7) (ty := .array .boolean) hx hb hts hown hK w (by decide +kernel) tyX7 tyX7_ok nmX7 0 rfl rfl 6 (by decide) (hts (.fieldLink RX7 29 "ReelBarnModel" "isUsed" "[Z") (by decide +kernel)) (fun _ h9 => h9) rfl hnm rfl (by decide +kernel) rfl rfl (Nat.le_of_ble_eq_true rfl) dX7_init_58 (fun H locs w => ?_)
  have w : zW G A s H _ [(o, .inr (6, [.ref q1, .ref q2, .ref q3, .ref q4, .ref q5, .ref q6, .ref q7, .int 0, .int 0, .null, .null])), (q1, .inl (G.2 4, 16, .inl (fun _ => 0))), (q2, .inl (G.2 4, 4, .inl (fun _ => 0))), (q3, .inl (G.2 4, 48, .inl (fun _ => 0))), (q4, .inl (G.2 4, 80, .inl (fun _ => 0))), (q5, .inl (G.2 4, 3200, .inl (fun _ => 0))), (q6, .inl (G.2 0, 3200, .inr (.inr (.inl (fun _ => 0))))), (q7, .inl (G.2 1, 80, .inl (fun _ => 0)))] := w
  refine lv_aload_n hx hb dX7_init_61 rfl (lv_at hl 0 rfl) ?_
  refine lv_iconst (v := (-1)) hx hb dX7_init_62 (by decide) ?_
  refine zm_put (ci := 6) (C := RX7) (T := TX7) (N := 11) (v := .int (-1)) (ty := .int) hx hb hts hown hK w (by decide +kernel) tyX7 tyX7_ok nmX7 0 rfl rfl 7 (by decide) (hts (.fieldLink RX7 33 "ReelBarnModel" "chartRows" "I") (by decide +kernel)) (fun _ h9 => h9) rfl (by decide +kernel) rfl rfl (Nat.le_of_ble_eq_true rfl) dX7_init_63 (fun H locs w => ?_)
  have w : zW G A s H _ [(o, .inr (6, [.ref q1, .ref q2, .ref q3, .ref q4, .ref q5, .ref q6, .ref q7, .int (-1), .int 0, .null, .null])), (q1, .inl (G.2 4, 16, .inl (fun _ => 0))), (q2, .inl (G.2 4, 4, .inl (fun _ => 0))), (q3, .inl (G.2 4, 48, .inl (fun _ => 0))), (q4, .inl (G.2 4, 80, .inl (fun _ => 0))), (q5, .inl (G.2 4, 3200, .inl (fun _ => 0))), (q6, .inl (G.2 0, 3200, .inr (.inr (.inl (fun _ => 0))))), (q7, .inl (G.2 1, 80, .inl (fun _ => 0)))] := w
  refine lv_aload_n hx hb dX7_init_66 rfl (lv_at hl 0 rfl) ?_
  refine lv_sipush (v := 144) hx hb dX7_init_67 (by decide) ?_
  refine zm_newI hx hb (hts (.arrayClass .int) (by decide +kernel)) hK w (by decide) rfl (by decide) (Nat.le_of_ble_eq_true rfl) (Nat.le_of_ble_eq_true rfl) dX7_init_70 (fun q8 H w => ?_)
  refine W.widen (k := 8) (n := 6772) (Nat.le_of_ble_eq_true rfl) (Nat.le_of_ble_eq_true rfl) ?_
  have w : zW G A s H _ [(o, .inr (6, [.ref q1, .ref q2, .ref q3, .ref q4, .ref q5, .ref q6, .ref q7, .int (-1), .int 0, .null, .null])), (q1, .inl (G.2 4, 16, .inl (fun _ => 0))), (q2, .inl (G.2 4, 4, .inl (fun _ => 0))), (q3, .inl (G.2 4, 48, .inl (fun _ => 0))), (q4, .inl (G.2 4, 80, .inl (fun _ => 0))), (q5, .inl (G.2 4, 3200, .inl (fun _ => 0))), (q6, .inl (G.2 0, 3200, .inr (.inr (.inl (fun _ => 0))))), (q7, .inl (G.2 1, 80, .inl (fun _ => 0))), (q8, .inl (G.2 4, 144, .inl (fun _ => 0)))] := w
  refine zm_putF (ci := 6) (C := RX7) (T := TX7) (N := 11) (v := .ref q8) (ty := .array .int) hx hb hts hown hK w (by decide +kernel) tyX7 tyX7_ok nmX7 0 rfl rfl 9 (by decide) (hts (.fieldLink RX7 37 "ReelBarnModel" "charted" "[I") (by decide +kernel)) (fun _ h9 => h9) rfl hnm rfl (by decide +kernel) rfl rfl (Nat.le_of_ble_eq_true rfl) dX7_init_72 (fun H locs w => ?_)
  have w : zW G A s H _ [(o, .inr (6, [.ref q1, .ref q2, .ref q3, .ref q4, .ref q5, .ref q6, .ref q7, .int (-1), .int 0, .ref q8, .null])), (q1, .inl (G.2 4, 16, .inl (fun _ => 0))), (q2, .inl (G.2 4, 4, .inl (fun _ => 0))), (q3, .inl (G.2 4, 48, .inl (fun _ => 0))), (q4, .inl (G.2 4, 80, .inl (fun _ => 0))), (q5, .inl (G.2 4, 3200, .inl (fun _ => 0))), (q6, .inl (G.2 0, 3200, .inr (.inr (.inl (fun _ => 0))))), (q7, .inl (G.2 1, 80, .inl (fun _ => 0))), (q8, .inl (G.2 4, 144, .inl (fun _ => 0)))] := w
  refine lv_aload_n hx hb dX7_init_75 rfl (lv_at hl 0 rfl) ?_
  refine lv_bipush (v := 8) hx hb dX7_init_76 (by decide) ?_
  refine zm_newI hx hb (hts (.arrayClass .int) (by decide +kernel)) hK w (by decide) rfl (by decide) (Nat.le_of_ble_eq_true rfl) (Nat.le_of_ble_eq_true rfl) dX7_init_78 (fun q9 H w => ?_)
  refine W.widen (k := 9) (n := 6780) (Nat.le_of_ble_eq_true rfl) (Nat.le_of_ble_eq_true rfl) ?_
  have w : zW G A s H _ [(o, .inr (6, [.ref q1, .ref q2, .ref q3, .ref q4, .ref q5, .ref q6, .ref q7, .int (-1), .int 0, .ref q8, .null])), (q1, .inl (G.2 4, 16, .inl (fun _ => 0))), (q2, .inl (G.2 4, 4, .inl (fun _ => 0))), (q3, .inl (G.2 4, 48, .inl (fun _ => 0))), (q4, .inl (G.2 4, 80, .inl (fun _ => 0))), (q5, .inl (G.2 4, 3200, .inl (fun _ => 0))), (q6, .inl (G.2 0, 3200, .inr (.inr (.inl (fun _ => 0))))), (q7, .inl (G.2 1, 80, .inl (fun _ => 0))), (q8, .inl (G.2 4, 144, .inl (fun _ => 0))), (q9, .inl (G.2 4, 8, .inl (fun _ => 0)))] := w
  refine zm_putF (ci := 6) (C := RX7) (T := TX7) (N := 11) (v := .ref q9) (ty := .array .int) hx hb hts hown hK w (by decide +kernel) tyX7 tyX7_ok nmX7 0 rfl rfl 10 (by decide) (hts (.fieldLink RX7 40 "ReelBarnModel" "refused" "[I") (by decide +kernel)) (fun _ h9 => h9) rfl hnm rfl (by decide +kernel) rfl rfl (Nat.le_of_ble_eq_true rfl) dX7_init_80 (fun H locs w => ?_)
  have w : zW G A s H _ [(o, .inr (6, [.ref q1, .ref q2, .ref q3, .ref q4, .ref q5, .ref q6, .ref q7, .int (-1), .int 0, .ref q8, .ref q9])), (q1, .inl (G.2 4, 16, .inl (fun _ => 0))), (q2, .inl (G.2 4, 4, .inl (fun _ => 0))), (q3, .inl (G.2 4, 48, .inl (fun _ => 0))), (q4, .inl (G.2 4, 80, .inl (fun _ => 0))), (q5, .inl (G.2 4, 3200, .inl (fun _ => 0))), (q6, .inl (G.2 0, 3200, .inr (.inr (.inl (fun _ => 0))))), (q7, .inl (G.2 1, 80, .inl (fun _ => 0))), (q8, .inl (G.2 4, 144, .inl (fun _ => 0))), (q9, .inl (G.2 4, 8, .inl (fun _ => 0)))] := w
  have w : zW G A s H locs (mW G (mAd o q1 q2 q3 q4 q5 q6 q7 q8 q9) mM0 (fun _ => 0)) := w
  obtain ⟨ad, ead⟩ : ∃ ad, ad = (mAd o q1 q2 q3 q4 q5 q6 q7 q8 q9) := ⟨_, rfl⟩
  have ea0 : o = ad 0 := by rw [ead]; rfl
  rw [← ead] at w
  rw [ea0] at hl
  refine lv_iconst (v := 0) hx hb dX7_init_83 (by decide) ?_
  refine lv_istore_n (lv' := [(1, .int 0), (0, .ref (ad 0))]) hx hb dX7_init_84 rfl hl (by decide) rfl (fun ls hl => ?_)
  have w : zW G A s H locs (mW G ad (va_up mM0 0 (mM0 0)) (fun _ => 0)) := w
  refine lpI_car (M := mM0) ad hx hb hts hown hK (fun C1 H locs ls hC1 w hl => ?_) 17 0 (by decide) (by decide) _ H _ ls (fun j hj => absurd hj (Nat.not_lt_zero j)) w (lv_sub hl [1, 0] rfl)
  refine lv_iconst (v := 0) hx hb dX7_init_104 (by decide) ?_
  refine lv_istore_n (lv' := [(1, .int 0), (0, .ref (ad 0))]) hx hb dX7_init_105 rfl hl (by decide) rfl (fun ls hl => ?_)
  have w : zW G A s H locs (mW G ad (va_up (va_up mM0 0 C1) 2 ((va_up mM0 0 C1) 2)) (fun _ => 0)) := w
  refine lpI_wal (M := (va_up mM0 0 C1)) ad hx hb hts hown hK (fun C2 H locs ls hC2 w hl => ?_) 49 0 (by decide) (by decide) _ H _ ls (fun j hj => absurd hj (Nat.not_lt_zero j)) w (lv_sub hl [1, 0] rfl)
  refine lv_iconst (v := 0) hx hb dX7_init_125 (by decide) ?_
  refine lv_istore_n (lv' := [(1, .int 0), (0, .ref (ad 0))]) hx hb dX7_init_126 rfl hl (by decide) rfl (fun ls hl => ?_)
  have w : zW G A s H locs (mW G ad (va_up (va_up (va_up mM0 0 C1) 2 C2) 1 ((va_up (va_up mM0 0 C1) 2 C2) 1)) (fun _ => 0)) := w
  refine lpI_row (M := (va_up (va_up mM0 0 C1) 2 C2)) ad hx hb hts hown hK (fun C3 H locs ls hC3 w hl => ?_) 5 0 (by decide) (by decide) _ H _ ls (fun j hj => absurd hj (Nat.not_lt_zero j)) w (lv_sub hl [1, 0] rfl)
  exact zRv hx hb hr hlk w dX7_init_145 (Nat.le_of_ble_eq_true rfl) (Nat.le_of_ble_eq_true rfl) ⟨ad, C1, C2, C3, ea0, hC1, hC2, hC3, rfl⟩
