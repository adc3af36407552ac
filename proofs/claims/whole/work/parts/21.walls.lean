theorem zGF_0 {r c : Int32} (h : zGF r c = 0) : ¬ r < 0 ∧ r ≤ 12 ∧ ¬ c < 0 ∧ c ≤ 12 := by
  unfold zGF at h
  by_cases h1 : 12 < r ∨ ¬ c ≤ 12
  · rw [if_pos h1] at h; exact absurd h (by decide)
  · rw [if_neg h1] at h
    by_cases h2 : r < 0 ∨ ¬ 0 ≤ c
    · rw [if_pos h2] at h; exact absurd h (by decide)
    · refine ⟨fun q => h2 (Or.inl q), ?_, fun q => h2 (Or.inr ?_), ?_⟩
      · rw [Int32.le_iff_toInt_le]
        have : ¬ 12 < r := fun q => h1 (Or.inl q)
        rw [Int32.lt_iff_toInt_lt] at this
        omega
      · rw [Int32.le_iff_toInt_le]
        rw [Int32.lt_iff_toInt_lt] at q
        omega
      · by_cases h3 : c ≤ 12
        · exact h3
        · exact absurd (Or.inr h3) h1
set_option maxHeartbeats 4000000 in
set_option maxRecDepth 100000 in
theorem lp_newWall {p : Program} {l : Launch} {e : Env} {s : State} {m : MethodId} {below : List Frame} {meth : Method} {c : Code} {A : Nat → Prop} {G : zG} {L : List Nat} {f : Nat → va_E} {t rows cols : Int32} {a b : Nat} (hx : p.tables.exec = Jvm.exec) (hb : c.code = cX6_newWall) (hr : meth.sig.returnType = some (.object "ReelBarn$Wall")) (hlk : meth.locks = false) (hml : c.maxLocals = 5) (hts : ∀ x ∈ wsX6_newWall, x.before #[Value.int t, Value.int rows, Value.int cols] s = true) (hown : s.vm.findClass RX6 = some m.cls) (hK : zK G s) (ht : zFour t) (hr1 : ¬ rows < 0) (hr2 : rows.toNatClampNeg ≤ 12) (hc1 : ¬ cols < 0) (hc2 : cols.toNatClampNeg ≤ 12) :
    ∀ (n i : Nat), i ≤ rows.toNatClampNeg → rows.toNatClampNeg < i + n → ∀ (L2 : List Nat) (f2 : Nat → va_E) (g : Nat → Option Nat) (H : Heap) (locs : List Loc) (ls : Array Slot), zLI G L f (zS t) rows.toNatClampNeg cols.toNatClampNeg i a b L2 f2 g → zW G A s H locs (va_pl L2 f2) → lv_has ls 5 [(0, .int t), (1, .int rows), (2, .int cols), (3, .ref a), (4, .int (nI i))] → W p l e { frames := 4, cells := 26, slots := 505, locals := 74 } s m #[Value.int t, Value.int rows, Value.int cols] below meth c H locs (2 + 2 * i) (13 + 41 * i) (MQ below (va_Qq (fun (r : Option Nat) (u : va_W) => ∃ a L2 f2, r = some a ∧ u = va_pl L2 f2 ∧ zNW G L f (zS t) rows.toNatClampNeg cols.toNatClampNeg a L2 f2) (zB G A) A) #[Value.int t, Value.int rows, Value.int cols] s 26 505 A) (F0 m 12 ls []) := by
  intro n
  induction n with
  | zero => intro i h1 h2; exact absurd h2 (by omega)
  | succ n ih =>
    intro i hi hin L2 f2 g H locs ls hI w hl
    refine lv_iload hx hb dX6_newWall_12 (lv_at hl 4 rfl) ?_
    refine lv_iload_n hx hb dX6_newWall_14 rfl (lv_at hl 1 rfl) ?_
    refine lv_icmp_ge (tgt := 36) hx hb dX6_newWall_15 (by decide) (fun c_1 => ?_) (fun c_1 => ?_)
    · refine lv_aload_n hx hb dX6_newWall_36 rfl (lv_at hl 3 rfl) ?_
      exact zRq (r := some a) hx hb hr hlk w rfl dX6_newWall_37 (by omega) (by omega) ⟨a, L2, f2, rfl, rfl, zLI_end hr2 (by rw [zrow_le hr1 hi hr2 c_1] at hI; exact hI)⟩
    · have hlt := zrow_lt hr1 hi hr2 c_1
      obtain ⟨hI1, ⟨hI2, hI3, hI4, hI5⟩, hI6, hI7, -⟩ := id hI
      refine lv_aload_n hx hb dX6_newWall_18 rfl (lv_at hl 3 rfl) ?_
      refine px_get (ci := 3) (C := RX4) (T := TX4) (N := 1) hx hb hts hown hK w hI4 (by decide +kernel) hI6 rfl 0 (by decide) (hts (.fieldLink RX6 120 "ReelBarn$Wall" "rows" "[LReelBarn$Reel;") (by decide +kernel)) (fun _ h9 => h9) rfl dX6_newWall_19 ?_
      refine lv_iload hx hb dX6_newWall_22 (lv_at hl 4 rfl) ?_
      refine lv_iload_n hx hb dX6_newWall_24 rfl (lv_at hl 0 rfl) ?_
      refine lv_iload_n hx hb dX6_newWall_25 rfl (lv_at hl 2 rfl) ?_
      refine zCq w (va_runS (As := [.int t, .int cols]) (rest := [.int (nI i), .ref b]) ⟨hx, hb, hml, hown, hts⟩ (kX6_newReel l G t ht cols hc1 (by omega) H.size) (va_cwS 2 hts gX6_newWall_X6_newReel rfl rfl rfl (by decide +kernel) ⟨(Nat.le_of_ble_eq_true rfl), (Nat.le_of_ble_eq_true rfl)⟩) (zPS w hK) rfl rfl hl.1 rfl (lv_room (Nat.le_of_ble_eq_true rfl)) dX6_newWall_26 ⟨by show 2 + 2 * i + 2 ≤ 26; omega, by show 13 + 41 * i + 41 ≤ 505; omega⟩) (fun r_1 u H locs hq w => ?_)
      obtain ⟨x, y, e1, hxL, hyL, hyx, rfl⟩ := hq
      subst e1
      have hstep := zLI_step (by omega) hlt hxL hyL hyx hI
      have hext := zNew_ext (G := G) (f := f2) (s := zS t) (n := cols.toNatClampNeg) hxL hyL
      refine px_astRQ (q := some x) hx hb hK w (hext b hI5).1 ((hext b hI5).2.trans hI7) (fun v z => by cases z; exact ⟨_, zRA_of (zNew_reel (by omega) hyx)⟩) (vp_in_nI hlt (by omega)) dX6_newWall_29 (fun H locs w => ?_)
      rw [nI_clamp (by omega)] at w
      refine lv_iinc (v := ((nI i) + 1)) (lv' := [(4, .int ((nI i) + 1)), (0, .int t), (1, .int rows), (2, .int cols), (3, .ref a)]) hx hb dX6_newWall_30 hl (k := 4) rfl rfl (by decide) rfl (fun ls hl => ?_)
      refine lv_goto (tgt := 12) hx hb dX6_newWall_33 (by decide) ?_
      rw [nI_1] at hl
      refine W.widen (k := 2 + 2 * (i + 1)) (n := 13 + 41 * (i + 1)) (by omega) (by omega) ?_
      exact ih (i + 1) hlt (by omega) _ _ _ _ _ _ hstep w (lv_sub hl [1, 2, 3, 4, 0] rfl)
set_option maxHeartbeats 4000000 in
set_option maxRecDepth 100000 in
theorem kX6_newWall (l : Launch) (G : zG) {L : List Nat} {f : Nat → va_E} (t rows cols : Int32) (ht : zFour t) (hr1 : ¬ rows < 0) (hr2 : rows.toNatClampNeg ≤ 12) (hc1 : ¬ cols < 0) (hc2 : cols.toNatClampNeg ≤ 12) (sz : Nat) : zMq l yX6_newWall wsX6_newWall { frames := 4, cells := 26, slots := 505, locals := 74 } G [.int t, .int rows, .int cols] (va_pl L f) sz (fun (r : Option Nat) (u : va_W) => ∃ a L2 f2, r = some a ∧ u = va_pl L2 f2 ∧ zNW G L f (zS t) rows.toNatClampNeg cols.toNatClampNeg a L2 f2) 26 505 := by
  refine zIn (Qc := fun A => va_Qq _ (zB G A) A) (cc := cX6_newWall) (maxL := 5) (ret := (some (.object "ReelBarn$Wall"))) (by decide) rfl (Nat.le_of_ble_eq_true rfl) ?_
  intro p e s m below meth c A ls hx hb hr hlk hml hts hown hnm hK w hl
  have hown : s.vm.findClass RX6 = some m.cls := hown
  have hl : lv_has ls 5 [(0, .int t), (1, .int rows), (2, .int cols)] := hl
  refine px_new (ci := 3) (fs := [.null]) (C := RX4) (T := TX4) (N := 1) hx hb hts hown hK w (by decide +kernel) tyX4 tyX4_ok (hts (.classLink RX6 15 RX4) (by decide +kernel)) (hts (.instantiable RX4 1) (by decide +kernel)) (hts (.initialized RX4) (by decide +kernel)) rfl (fun j hj => by rcases (show j = 0 by omega) with rfl <;> rfl) (Nat.le_of_ble_eq_true rfl) (Nat.le_of_ble_eq_true rfl) dX6_newWall_0 (fun a H ha w => ?_)
  refine W.widen (k := 1) (n := 1) (Nat.le_of_ble_eq_true rfl) (Nat.le_of_ble_eq_true rfl) ?_
  refine lv_dup hx hb dX6_newWall_3 rfl ?_
  refine lv_iload_n hx hb dX6_newWall_4 rfl (lv_at hl 1 rfl) ?_
  refine zCv w (va_runI (As := [.int rows]) (rest := [.ref a]) ⟨hx, hb, hml, hown, hts⟩ (kX4_init l G (List.mem_append_right _ List.mem_cons_self) (va_up_self _ _ _) rows hr1 hr2 H.size) (cwI 1 hts gX6_newWall_X4_init rfl rfl rfl (hts (.initialized RX4) (by decide +kernel)) (hts (.methodLink RX6 160 yX4_init) (by decide +kernel)) (hts (.instanceMethod yX4_init) (by decide +kernel)) rfl (by decide +kernel) ⟨(Nat.le_of_ble_eq_true rfl), (Nat.le_of_ble_eq_true rfl)⟩) (zPS w hK) rfl rfl hl.1 rfl (lv_room (Nat.le_of_ble_eq_true rfl)) dX6_newWall_5 ⟨(Nat.le_of_ble_eq_true rfl), (Nat.le_of_ble_eq_true rfl)⟩) (fun u H locs hq w => ?_)
  obtain ⟨b, hb0, rfl⟩ := hq
  have hbL : b ∉ L := fun z => hb0 (List.mem_append_left _ z)
  have hba : b ≠ a := fun z => hb0 (z ▸ List.mem_append_right _ List.mem_cons_self)
  rw [zup3] at w
  refine lv_astore_n (lv' := [(3, .ref a), (0, .int t), (1, .int rows), (2, .int cols)]) hx hb dX6_newWall_8 rfl hl (by decide) rfl (fun ls hl => ?_)
  refine lv_iconst (v := 0) hx hb dX6_newWall_9 (by decide) ?_
  refine lv_istore (lv' := [(4, .int 0), (3, .ref a), (0, .int t), (1, .int rows), (2, .int cols)]) hx hb dX6_newWall_10 hl (by decide) rfl (fun ls hl => ?_)
  refine W.widen (k := 2 + 2 * 0) (n := 13 + 41 * 0) (by decide) (by decide) ?_
  exact lp_newWall hx hb hr hlk hml hts hown hK ht hr1 hr2 hc1 hc2 (rows.toNatClampNeg + 1) 0 (Nat.zero_le _) (by omega) _ _ _ _ _ _ (zLI_0 ha hbL hba) w (lv_sub hl [2, 3, 4, 1, 0] rfl)
set_option maxHeartbeats 4000000 in
set_option maxRecDepth 100000 in
theorem kX6_hang (l : Launch) (G : zG) {L : List Nat} {f : Nat → va_E} {o ac aw ar : Nat} {ch : Option Nat} {car wa : Nat → Option Nat} {ta : Nat → Int32} (h : zBn G L f o ac aw ar ch car wa ta) (hct : zCT G L f car) (hwt : zWT G L f wa) (t rows cols : Int32) (sz : Nat) : zMl l yX6_hang wsX6_hang { frames := 5, cells := 26, slots := 505, locals := 98 } G [.ref o, .int t, .int rows, .int cols] (va_pl L f) sz (fun r u => if zFour t then (if zGF rows cols = 0 then (∃ a L2 f2, zNW G L f (zS t) rows.toNatClampNeg cols.toNatClampNeg a L2 f2 ∧ u = va_pl L2 (va_up f2 aw (.inl (G.2 6, 4, zQ (va_up wa (zS t) (some a))))) ∧ r = rows.toInt64) else zRefP G L f ar ta (zGF rows cols) r u) else zRefP G L f ar ta zNONE r u) 26 505 := by
  refine zIn (Qc := fun A => va_Ql _ (zB G A) A) (cc := cX6_hang) (maxL := 6) (ret := (some .long)) (by decide) rfl (Nat.le_of_ble_eq_true rfl) ?_
  intro p e s m below meth c A ls hx hb hr hlk hml hts hown hnm hK w hl
  have hown : s.vm.findClass RX6 = some m.cls := hown
  have hl : lv_has ls 6 [(0, .ref o), (1, .int t), (2, .int rows), (3, .int cols)] := hl
  obtain ⟨⟨mo, mc, mw, mr⟩, fo, fc, fw, fr⟩ := id h
  refine lv_iload_n hx hb dX6_hang_0 rfl (lv_at hl 1 rfl) ?_
  refine zCi w (va_runS (As := [.int t]) (rest := []) ⟨hx, hb, hml, hown, hts⟩ (kX6_isSort l G _ t s.heap.size) (va_cwS 1 hts gX6_hang_X6_isSort rfl rfl rfl (by decide +kernel) ⟨(Nat.le_of_ble_eq_true rfl), (Nat.le_of_ble_eq_true rfl)⟩) (zPS w hK) rfl rfl hl.1 rfl (lv_room (Nat.le_of_ble_eq_true rfl)) dX6_hang_1 ⟨(Nat.le_of_ble_eq_true rfl), (Nat.le_of_ble_eq_true rfl)⟩) (fun r_1 u H locs hq w => ?_)
  obtain ⟨rfl, e_r_1⟩ := hq
  refine lv_if_ne (tgt := 15) hx hb dX6_hang_4 (by decide) (fun c_2 => ?_) (fun c_2 => ?_)
  · have p_t := z01 inferInstance e_r_1 c_2
    refine lv_iload_n hx hb dX6_hang_15 rfl (lv_at hl 2 rfl) ?_
    refine lv_iload_n hx hb dX6_hang_16 rfl (lv_at hl 3 rfl) ?_
    refine zCl w (va_runS (As := [.int rows, .int cols]) (rest := []) ⟨hx, hb, hml, hown, hts⟩ (kX6_gridFault l G _ rows cols H.size) (va_cwS 2 hts gX6_hang_X6_gridFault rfl rfl rfl (by decide +kernel) ⟨(Nat.le_of_ble_eq_true rfl), (Nat.le_of_ble_eq_true rfl)⟩) (zPS w hK) rfl rfl hl.1 rfl (lv_room (Nat.le_of_ble_eq_true rfl)) dX6_hang_17 ⟨(Nat.le_of_ble_eq_true rfl), (Nat.le_of_ble_eq_true rfl)⟩) (fun r_3 u H locs hq w => ?_)
    obtain ⟨rfl, e_r⟩ := hq
    subst e_r
    refine lv_lstore (lv' := [(4, .long (zGF rows cols)), (0, .ref o), (1, .int t), (2, .int rows), (3, .int cols)]) hx hb dX6_hang_20 hl (by decide) rfl (fun ls hl => ?_)
    refine lv_lload hx hb dX6_hang_22 (lv_at hl 0 rfl) ?_
    refine lv_lconst (v := 0) hx hb dX6_hang_24 (by decide) ?_
    refine W.lcmp hx hb dX6_hang_25 ?_
    refine lv_if_eq (tgt := 36) hx hb dX6_hang_26 (by decide) (fun c_4 => ?_) (fun c_4 => ?_)
    · have p_f := zcmp0 c_4
      obtain ⟨g1, g2, g3, g4⟩ := zGF_0 p_f
      have hr2 := zle12 g1 g2
      have hc2 := zle12 g3 g4
      refine lv_aload_n hx hb dX6_hang_36 rfl (lv_at hl 1 rfl) ?_
      refine px_get (ci := 5) (C := RX6) (T := TX6) (N := 4) hx hb hts hown hK w mo (by decide +kernel) fo rfl 1 (by decide) (hts (.fieldLink RX6 17 "ReelBarn" "walls" "[LReelBarn$Wall;") (by decide +kernel)) (fun _ h9 => h9) rfl dX6_hang_37 ?_
      refine lv_iload_n hx hb dX6_hang_40 rfl (lv_at hl 2 rfl) ?_
      refine lv_iload_n hx hb dX6_hang_41 rfl (lv_at hl 2 rfl) ?_
      refine lv_iload_n hx hb dX6_hang_42 rfl (lv_at hl 3 rfl) ?_
      refine lv_iload_n hx hb dX6_hang_43 rfl (lv_at hl 4 rfl) ?_
      refine zCq w (va_runS (As := [.int t, .int rows, .int cols]) (rest := [.int t, .ref aw]) ⟨hx, hb, hml, hown, hts⟩ (kX6_newWall l G t rows cols p_t g1 hr2 g3 hc2 H.size) (va_cwS 3 hts gX6_hang_X6_newWall rfl rfl rfl (by decide +kernel) ⟨(Nat.le_of_ble_eq_true rfl), (Nat.le_of_ble_eq_true rfl)⟩) (zPS w hK) rfl rfl hl.1 rfl (lv_room (Nat.le_of_ble_eq_true rfl)) dX6_hang_44 ⟨(Nat.le_of_ble_eq_true rfl), (Nat.le_of_ble_eq_true rfl)⟩) (fun r_5 u H locs hq w => ?_)
      obtain ⟨a, L2, f2, e1, rfl, hN⟩ := hq
      subst e1
      have h2 := zBn_ext hN.1 h
      obtain ⟨⟨mo2, mc2, mw2, mr2⟩, fo2, fc2, fw2, fr2⟩ := id h2
      refine px_astW hx hb hK w mw2 fw2 hN.2.2.1.1 hN.2.2.1.2.2.1 (zfour_in p_t) dX6_hang_47 (fun H locs w => ?_)
      refine lv_iload_n hx hb dX6_hang_48 rfl (lv_at hl 3 rfl) ?_
      refine lv_i2l hx hb dX6_hang_49 rfl ?_
      exact zRl hx hb hr hlk w dX6_hang_50 (Nat.le_of_ble_eq_true rfl) (Nat.le_of_ble_eq_true rfl) (by show (if _ then _ else _); (first | rw [if_pos p_t] | rw [if_neg p_t]); (first | rw [if_pos p_f] | rw [if_neg p_f]); (first | exact ⟨rfl, rfl⟩ | exact ⟨a, L2, f2, hN, rfl, rfl⟩))
    · have p_f := zcmp1 c_4
      refine lv_aload_n hx hb dX6_hang_29 rfl (lv_at hl 1 rfl) ?_
      refine lv_lload hx hb dX6_hang_30 (lv_at hl 0 rfl) ?_
      refine zCl w (va_runV (As := [.long (zGF rows cols)]) (rest := []) ⟨hx, hb, hml, hown, hts⟩ (kX6_refuse l G h (zGF rows cols) (zGF_why p_f) H.size) (cwV 1 hts gX6_hang_X6_refuse rfl rfl rfl (by decide +kernel) ⟨(Nat.le_of_ble_eq_true rfl), (Nat.le_of_ble_eq_true rfl)⟩) (zPV w hK (px_recv (r := (RX6, TX6, 4)) hK w mo fo rfl)) rfl rfl hl.1 rfl (lv_room (Nat.le_of_ble_eq_true rfl)) dX6_hang_32 ⟨(Nat.le_of_ble_eq_true rfl), (Nat.le_of_ble_eq_true rfl)⟩) (fun r_6 u H locs hq w => ?_)
      obtain ⟨rfl, e_r⟩ := hq
      subst e_r
      exact zRl hx hb hr hlk w dX6_hang_35 (Nat.le_of_ble_eq_true rfl) (Nat.le_of_ble_eq_true rfl) (by show (if _ then _ else _); (first | rw [if_pos p_t] | rw [if_neg p_t]); (first | rw [if_pos p_f] | rw [if_neg p_f]); (first | exact ⟨rfl, rfl⟩ | exact ⟨a, L2, f2, hN, rfl, rfl⟩))
  · have p_t := z00 inferInstance e_r_1 c_2
    refine lv_aload_n hx hb dX6_hang_7 rfl (lv_at hl 0 rfl) ?_
    refine lv_ldc2 hx hb hown (hts (.constantLong RX6 36 (1099511627776)) (by decide +kernel)) dX6_hang_8 ?_
    refine zCl w (va_runV (As := [.long 1099511627776]) (rest := []) ⟨hx, hb, hml, hown, hts⟩ (kX6_refuse l G h zNONE zW1 H.size) (cwV 1 hts gX6_hang_X6_refuse rfl rfl rfl (by decide +kernel) ⟨(Nat.le_of_ble_eq_true rfl), (Nat.le_of_ble_eq_true rfl)⟩) (zPV w hK (px_recv (r := (RX6, TX6, 4)) hK w mo fo rfl)) rfl rfl hl.1 rfl (lv_room (Nat.le_of_ble_eq_true rfl)) dX6_hang_11 ⟨(Nat.le_of_ble_eq_true rfl), (Nat.le_of_ble_eq_true rfl)⟩) (fun r_7 u H locs hq w => ?_)
    obtain ⟨rfl, e_r⟩ := hq
    subst e_r
    exact zRl hx hb hr hlk w dX6_hang_14 (Nat.le_of_ble_eq_true rfl) (Nat.le_of_ble_eq_true rfl) (by show (if _ then _ else _); (first | rw [if_pos p_t] | rw [if_neg p_t]); (first | exact ⟨rfl, rfl⟩ | exact ⟨a, L2, f2, hN, rfl, rfl⟩))
