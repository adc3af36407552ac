theorem zle40 {n : Int32} (h0 : 0 ≤ n) (h : n ≤ 40) : n.toNatClampNeg ≤ 40 := by
  rw [Int32.le_iff_toInt_le] at h0 h
  have e1 : (40 : Int32).toInt = 40 := by decide
  have e : n.toNatClampNeg = n.toInt.toNat := rfl
  rw [Int32.toInt_zero] at h0
  omega
theorem zle12 {n : Int32} (h0 : ¬ n < 0) (h : n ≤ 12) : n.toNatClampNeg ≤ 12 := by
  rw [Int32.lt_iff_toInt_lt] at h0
  rw [Int32.le_iff_toInt_le] at h
  have e1 : (12 : Int32).toInt = 12 := by decide
  have e : n.toNatClampNeg = n.toInt.toNat := rfl
  rw [Int32.toInt_zero] at h0
  omega
set_option maxHeartbeats 4000000 in
set_option maxRecDepth 100000 in
theorem kX2_init (l : Launch) (G : zG) {L : List Nat} {f : Nat → va_E} {a : Nat} (ma : a ∈ L) (fa : f a = .inr (2, [.null])) (n : Int32) (hn : ¬ n < 0) (hn2 : n.toNatClampNeg ≤ 40) (sz : Nat) : zMv l yX2_init wsX2_init { frames := 2, cells := 1, slots := 40, locals := 32 } G [.ref a, .int n] (va_pl L f) sz (fun u => ∃ b, b ∉ L ∧ u = va_pl (L ++ [b]) (va_up (va_up f b (zCel G 0 n.toNatClampNeg (fun _ => 0) (fun _ => 0))) a (zObj 0 b))) 1 40 := by
  refine zIn (Qc := fun A => va_Qv _ (zB G A) A) (cc := cX2_init) (maxL := 2) (ret := none) (by decide) rfl (Nat.le_of_ble_eq_true rfl) ?_
  intro p e s m below meth c A ls hx hb hr hlk hml hts hown hnm hK w hl
  have hown : s.vm.findClass RX2 = some m.cls := hown
  have hl : lv_has ls 2 [(0, .ref a), (1, .int n)] := hl
  refine lv_aload_n hx hb dX2_init_0 rfl (lv_at hl 0 rfl) ?_
  refine zCv w (va_runIN (As := []) (rest := []) ⟨hx, hb, hml, hown, hts⟩ (kX3_init l G _ a s.heap.size) ⟨va_cnB 0 hts gX2_init_X3_init_n1 rfl rfl rfl hK.2.2.1.2.2.1 (hts (.initialized RX3) (by decide +kernel)) (by decide +kernel) ⟨(Nat.le_of_ble_eq_true rfl), (Nat.le_of_ble_eq_true rfl)⟩, rfl, hts (.instanceMethod yX3_init) (by decide +kernel)⟩ (zPS w hK) rfl rfl hl.1 rfl (lv_room (Nat.le_of_ble_eq_true rfl)) dX2_init_1 ⟨(Nat.le_of_ble_eq_true rfl), (Nat.le_of_ble_eq_true rfl)⟩) (fun u H locs hq w => ?_)
  subst hq
  refine lv_aload_n hx hb dX2_init_4 rfl (lv_at hl 0 rfl) ?_
  refine lv_iload_n hx hb dX2_init_5 rfl (lv_at hl 1 rfl) ?_
  refine px_newC hx hb (hts (.arrayClass .char) (by decide +kernel)) hK w hn rfl (by omega) (Nat.le_of_ble_eq_true rfl) (by show 0 + 0 + n.toNatClampNeg ≤ 40; omega) dX2_init_6 (fun b H hb0 w => ?_)
  refine W.widen (k := 1) (n := 40) (Nat.le_of_ble_eq_true rfl) (by show 0 + 0 + n.toNatClampNeg ≤ 40; omega) ?_
  have hne : a ≠ b := fun z => hb0 (z ▸ ma)
  refine px_putF (ci := 2) (C := RX2) (T := TX2) (N := 1) (v := .ref b) (ty := .array .char) hx hb hts hown hK w (List.mem_append_left _ ma) (by decide +kernel) tyX2 tyX2_ok nmX2 (by rw [va_up_ne _ _ hne]; exact fa) rfl 0 (by decide) (hts (.fieldLink RX2 7 "ReelBarn$LetterReel" "letters" "[C") (by decide +kernel)) (fun _ h9 => h9) rfl hnm rfl (by decide +kernel) rfl rfl (Nat.le_of_ble_eq_true rfl) dX2_init_8 (fun H locs w => ?_)
  exact zRv hx hb hr hlk w dX2_init_11 (Nat.le_of_ble_eq_true rfl) (Nat.le_of_ble_eq_true rfl) ⟨b, hb0, rfl⟩
set_option maxHeartbeats 4000000 in
set_option maxRecDepth 100000 in
theorem kX5_init (l : Launch) (G : zG) {L : List Nat} {f : Nat → va_E} {a : Nat} (ma : a ∈ L) (fa : f a = .inr (4, [.null])) (n : Int32) (hn : ¬ n < 0) (hn2 : n.toNatClampNeg ≤ 40) (sz : Nat) : zMv l yX5_init wsX5_init { frames := 2, cells := 1, slots := 40, locals := 32 } G [.ref a, .int n] (va_pl L f) sz (fun u => ∃ b, b ∉ L ∧ u = va_pl (L ++ [b]) (va_up (va_up f b (zCel G 1 n.toNatClampNeg (fun _ => 0) (fun _ => 0))) a (zObj 1 b))) 1 40 := by
  refine zIn (Qc := fun A => va_Qv _ (zB G A) A) (cc := cX5_init) (maxL := 2) (ret := none) (by decide) rfl (Nat.le_of_ble_eq_true rfl) ?_
  intro p e s m below meth c A ls hx hb hr hlk hml hts hown hnm hK w hl
  have hown : s.vm.findClass RX5 = some m.cls := hown
  have hl : lv_has ls 2 [(0, .ref a), (1, .int n)] := hl
  refine lv_aload_n hx hb dX5_init_0 rfl (lv_at hl 0 rfl) ?_
  refine zCv w (va_runIN (As := []) (rest := []) ⟨hx, hb, hml, hown, hts⟩ (kX3_init l G _ a s.heap.size) ⟨va_cnB 0 hts gX5_init_X3_init_n1 rfl rfl rfl hK.2.2.1.2.2.2 (hts (.initialized RX3) (by decide +kernel)) (by decide +kernel) ⟨(Nat.le_of_ble_eq_true rfl), (Nat.le_of_ble_eq_true rfl)⟩, rfl, hts (.instanceMethod yX3_init) (by decide +kernel)⟩ (zPS w hK) rfl rfl hl.1 rfl (lv_room (Nat.le_of_ble_eq_true rfl)) dX5_init_1 ⟨(Nat.le_of_ble_eq_true rfl), (Nat.le_of_ble_eq_true rfl)⟩) (fun u H locs hq w => ?_)
  subst hq
  refine lv_aload_n hx hb dX5_init_4 rfl (lv_at hl 0 rfl) ?_
  refine lv_iload_n hx hb dX5_init_5 rfl (lv_at hl 1 rfl) ?_
  refine px_newS hx hb (hts (.arrayClass .short) (by decide +kernel)) hK w hn rfl (by omega) (Nat.le_of_ble_eq_true rfl) (by show 0 + 0 + n.toNatClampNeg ≤ 40; omega) dX5_init_6 (fun b H hb0 w => ?_)
  refine W.widen (k := 1) (n := 40) (Nat.le_of_ble_eq_true rfl) (by show 0 + 0 + n.toNatClampNeg ≤ 40; omega) ?_
  have hne : a ≠ b := fun z => hb0 (z ▸ ma)
  refine px_putF (ci := 4) (C := RX5) (T := TX5) (N := 1) (v := .ref b) (ty := .array .short) hx hb hts hown hK w (List.mem_append_left _ ma) (by decide +kernel) tyX5 tyX5_ok nmX5 (by rw [va_up_ne _ _ hne]; exact fa) rfl 0 (by decide) (hts (.fieldLink RX5 7 "ReelBarn$WaveReel" "waves" "[S") (by decide +kernel)) (fun _ h9 => h9) rfl hnm rfl (by decide +kernel) rfl rfl (Nat.le_of_ble_eq_true rfl) dX5_init_8 (fun H locs w => ?_)
  exact zRv hx hb hr hlk w dX5_init_11 (Nat.le_of_ble_eq_true rfl) (Nat.le_of_ble_eq_true rfl) ⟨b, hb0, rfl⟩
set_option maxHeartbeats 4000000 in
set_option maxRecDepth 100000 in
theorem kX0_init (l : Launch) (G : zG) {L : List Nat} {f : Nat → va_E} {a : Nat} (ma : a ∈ L) (fa : f a = .inr (0, [.null])) (n : Int32) (hn : ¬ n < 0) (hn2 : n.toNatClampNeg ≤ 40) (sz : Nat) : zMv l yX0_init wsX0_init { frames := 2, cells := 1, slots := 40, locals := 32 } G [.ref a, .int n] (va_pl L f) sz (fun u => ∃ b, b ∉ L ∧ u = va_pl (L ++ [b]) (va_up (va_up f b (zCel G 2 n.toNatClampNeg (fun _ => 0) (fun _ => 0))) a (zObj 2 b))) 1 40 := by
  refine zIn (Qc := fun A => va_Qv _ (zB G A) A) (cc := cX0_init) (maxL := 2) (ret := none) (by decide) rfl (Nat.le_of_ble_eq_true rfl) ?_
  intro p e s m below meth c A ls hx hb hr hlk hml hts hown hnm hK w hl
  have hown : s.vm.findClass RX0 = some m.cls := hown
  have hl : lv_has ls 2 [(0, .ref a), (1, .int n)] := hl
  refine lv_aload_n hx hb dX0_init_0 rfl (lv_at hl 0 rfl) ?_
  refine zCv w (va_runIN (As := []) (rest := []) ⟨hx, hb, hml, hown, hts⟩ (kX3_init l G _ a s.heap.size) ⟨va_cnB 0 hts gX0_init_X3_init_n3 rfl rfl rfl hK.2.2.1.1 (hts (.initialized RX3) (by decide +kernel)) (by decide +kernel) ⟨(Nat.le_of_ble_eq_true rfl), (Nat.le_of_ble_eq_true rfl)⟩, rfl, hts (.instanceMethod yX3_init) (by decide +kernel)⟩ (zPS w hK) rfl rfl hl.1 rfl (lv_room (Nat.le_of_ble_eq_true rfl)) dX0_init_1 ⟨(Nat.le_of_ble_eq_true rfl), (Nat.le_of_ble_eq_true rfl)⟩) (fun u H locs hq w => ?_)
  subst hq
  refine lv_aload_n hx hb dX0_init_4 rfl (lv_at hl 0 rfl) ?_
  refine lv_iload_n hx hb dX0_init_5 rfl (lv_at hl 1 rfl) ?_
  refine px_newF hx hb (hts (.arrayClass .float) (by decide +kernel)) hK w hn rfl (by omega) (Nat.le_of_ble_eq_true rfl) (by show 0 + 0 + n.toNatClampNeg ≤ 40; omega) dX0_init_6 (fun b H hb0 w => ?_)
  refine W.widen (k := 1) (n := 40) (Nat.le_of_ble_eq_true rfl) (by show 0 + 0 + n.toNatClampNeg ≤ 40; omega) ?_
  have hne : a ≠ b := fun z => hb0 (z ▸ ma)
  refine px_putF (ci := 0) (C := RX0) (T := TX0) (N := 1) (v := .ref b) (ty := .array .float) hx hb hts hown hK w (List.mem_append_left _ ma) (by decide +kernel) tyX0 tyX0_ok nmX0 (by rw [va_up_ne _ _ hne]; exact fa) rfl 0 (by decide) (hts (.fieldLink RX0 9 "ReelBarn$FaderReel" "faders" "[F") (by decide +kernel)) (fun _ h9 => h9) rfl hnm rfl (by decide +kernel) rfl rfl (Nat.le_of_ble_eq_true rfl) dX0_init_8 (fun H locs w => ?_)
  exact zRv hx hb hr hlk w dX0_init_11 (Nat.le_of_ble_eq_true rfl) (Nat.le_of_ble_eq_true rfl) ⟨b, hb0, rfl⟩
set_option maxHeartbeats 4000000 in
set_option maxRecDepth 100000 in
theorem kX1_init (l : Launch) (G : zG) {L : List Nat} {f : Nat → va_E} {a : Nat} (ma : a ∈ L) (fa : f a = .inr (1, [.null])) (n : Int32) (hn : ¬ n < 0) (hn2 : n.toNatClampNeg ≤ 40) (sz : Nat) : zMv l yX1_init wsX1_init { frames := 2, cells := 1, slots := 40, locals := 32 } G [.ref a, .int n] (va_pl L f) sz (fun u => ∃ b, b ∉ L ∧ u = va_pl (L ++ [b]) (va_up (va_up f b (zCel G 3 n.toNatClampNeg (fun _ => 0) (fun _ => 0))) a (zObj 3 b))) 1 40 := by
  refine zIn (Qc := fun A => va_Qv _ (zB G A) A) (cc := cX1_init) (maxL := 2) (ret := none) (by decide) rfl (Nat.le_of_ble_eq_true rfl) ?_
  intro p e s m below meth c A ls hx hb hr hlk hml hts hown hnm hK w hl
  have hown : s.vm.findClass RX1 = some m.cls := hown
  have hl : lv_has ls 2 [(0, .ref a), (1, .int n)] := hl
  refine lv_aload_n hx hb dX1_init_0 rfl (lv_at hl 0 rfl) ?_
  refine zCv w (va_runIN (As := []) (rest := []) ⟨hx, hb, hml, hown, hts⟩ (kX3_init l G _ a s.heap.size) ⟨va_cnB 0 hts gX1_init_X3_init_n1 rfl rfl rfl hK.2.2.1.2.1 (hts (.initialized RX3) (by decide +kernel)) (by decide +kernel) ⟨(Nat.le_of_ble_eq_true rfl), (Nat.le_of_ble_eq_true rfl)⟩, rfl, hts (.instanceMethod yX3_init) (by decide +kernel)⟩ (zPS w hK) rfl rfl hl.1 rfl (lv_room (Nat.le_of_ble_eq_true rfl)) dX1_init_1 ⟨(Nat.le_of_ble_eq_true rfl), (Nat.le_of_ble_eq_true rfl)⟩) (fun u H locs hq w => ?_)
  subst hq
  refine lv_aload_n hx hb dX1_init_4 rfl (lv_at hl 0 rfl) ?_
  refine lv_iload_n hx hb dX1_init_5 rfl (lv_at hl 1 rfl) ?_
  refine px_newZ hx hb (hts (.arrayClass .boolean) (by decide +kernel)) hK w hn rfl (by omega) (Nat.le_of_ble_eq_true rfl) (by show 0 + 0 + n.toNatClampNeg ≤ 40; omega) dX1_init_6 (fun b H hb0 w => ?_)
  refine W.widen (k := 1) (n := 40) (Nat.le_of_ble_eq_true rfl) (by show 0 + 0 + n.toNatClampNeg ≤ 40; omega) ?_
  have hne : a ≠ b := fun z => hb0 (z ▸ ma)
  refine px_putF (ci := 1) (C := RX1) (T := TX1) (N := 1) (v := .ref b) (ty := .array .boolean) hx hb hts hown hK w (List.mem_append_left _ ma) (by decide +kernel) tyX1 tyX1_ok nmX1 (by rw [va_up_ne _ _ hne]; exact fa) rfl 0 (by decide) (hts (.fieldLink RX1 7 "ReelBarn$LampReel" "lamps" "[Z") (by decide +kernel)) (fun _ h9 => h9) rfl hnm rfl (by decide +kernel) rfl rfl (Nat.le_of_ble_eq_true rfl) dX1_init_8 (fun H locs w => ?_)
  exact zRv hx hb hr hlk w dX1_init_11 (Nat.le_of_ble_eq_true rfl) (Nat.le_of_ble_eq_true rfl) ⟨b, hb0, rfl⟩
set_option maxHeartbeats 4000000 in
set_option maxRecDepth 100000 in
theorem kX4_init (l : Launch) (G : zG) {L : List Nat} {f : Nat → va_E} {a : Nat} (ma : a ∈ L) (fa : f a = .inr (3, [.null])) (n : Int32) (hn : ¬ n < 0) (hn2 : n.toNatClampNeg ≤ 12) (sz : Nat) : zMv l yX4_init wsX4_init { frames := 1, cells := 1, slots := 12, locals := 12 } G [.ref a, .int n] (va_pl L f) sz (fun u => ∃ b, b ∉ L ∧ u = va_pl (L ++ [b]) (va_up (va_up f b (.inl (G.2 5, n.toNatClampNeg, zQ (fun _ => none)))) a (.inr (3, [.ref b])))) 1 12 := by
  refine zIn (Qc := fun A => va_Qv _ (zB G A) A) (cc := cX4_init) (maxL := 2) (ret := none) (by decide) rfl (Nat.le_of_ble_eq_true rfl) ?_
  intro p e s m below meth c A ls hx hb hr hlk hml hts hown hnm hK w hl
  have hown : s.vm.findClass RX4 = some m.cls := hown
  have hl : lv_has ls 2 [(0, .ref a), (1, .int n)] := hl
  refine lv_aload_n hx hb dX4_init_0 rfl (lv_at hl 0 rfl) ?_
  refine W.objInit hx hb hown (hts (.methodLink RX4 1 objectInit) (by decide +kernel)) (hts (.instanceMethod objectInit) (by decide +kernel)) (hts (.code objectInit ⟨#[0xb1]⟩ 1 none) (by decide +kernel)) rfl (by rw [hml]; exact hl.1) rfl dX4_init_1 (Nat.le_of_ble_eq_true rfl) (Nat.le_of_ble_eq_true rfl) ?_
  refine W.eq (g2 := F0 m 4 ls []) rfl ?_
  refine lv_aload_n hx hb dX4_init_4 rfl (lv_at hl 0 rfl) ?_
  refine lv_iload_n hx hb dX4_init_5 rfl (lv_at hl 1 rfl) ?_
  refine px_newR hx hb hown (hts (.classLink RX4 7 RX3) (by decide +kernel)) hK w hn rfl (by omega) (Nat.le_of_ble_eq_true rfl) (by show 0 + n.toNatClampNeg ≤ 12; omega) dX4_init_6 (fun b H hb0 w => ?_)
  refine W.widen (k := 1) (n := 12) (Nat.le_of_ble_eq_true rfl) (by show 0 + n.toNatClampNeg ≤ 12; omega) ?_
  have hne : a ≠ b := fun z => hb0 (z ▸ ma)
  refine px_putF (ci := 3) (C := RX4) (T := TX4) (N := 1) (v := .ref b) (ty := .array (.object RX3)) hx hb hts hown hK w (List.mem_append_left _ ma) (by decide +kernel) tyX4 tyX4_ok nmX4 (by rw [va_up_ne _ _ hne]; exact fa) rfl 0 (by decide) (hts (.fieldLink RX4 9 "ReelBarn$Wall" "rows" "[LReelBarn$Reel;") (by decide +kernel)) (fun _ h9 => h9) rfl hnm rfl (by decide +kernel) rfl rfl (Nat.le_of_ble_eq_true rfl) dX4_init_9 (fun H locs w => ?_)
  exact zRv hx hb hr hlk w dX4_init_12 (Nat.le_of_ble_eq_true rfl) (Nat.le_of_ble_eq_true rfl) ⟨b, hb0, rfl⟩
set_option maxHeartbeats 4000000 in
set_option maxRecDepth 100000 in
theorem kX6_newReel (l : Launch) (G : zG) {L : List Nat} {f : Nat → va_E} (t : Int32) (ht : zFour t) (n : Int32) (hn : ¬ n < 0) (hn2 : n.toNatClampNeg ≤ 40) (sz : Nat) : zMq l yX6_newReel wsX6_newReel { frames := 3, cells := 2, slots := 41, locals := 53 } G [.int t, .int n] (va_pl L f) sz (fun r u => ∃ a b, r = some a ∧ a ∉ L ∧ b ∉ L ∧ b ≠ a ∧ u = va_pl (zNL L a b) (zNf G f (zS t) n.toNatClampNeg a b)) 2 41 := by
  refine zIn (Qc := fun A => va_Qq _ (zB G A) A) (cc := cX6_newReel) (maxL := 2) (ret := (some (.object "ReelBarn$Reel"))) (by decide) rfl (Nat.le_of_ble_eq_true rfl) ?_
  intro p e s m below meth c A ls hx hb hr hlk hml hts hown hnm hK w hl
  have hown : s.vm.findClass RX6 = some m.cls := hown
  have hl : lv_has ls 2 [(0, .int t), (1, .int n)] := hl
  refine lv_iload_n hx hb dX6_newReel_0 rfl (lv_at hl 0 rfl) ?_
  rcases Decidable.em (t = 0) with t_1 | t_1
  · refine lv_tableIn (tgt := 28) hx hb dX6_newReel_1 (by rw [t_1]; decide) (by rw [t_1]; decide) (by rw [t_1]; rfl) (by decide) ?_
    refine px_new (ci := 2) (fs := [.null]) (C := RX2) (T := TX2) (N := 1) hx hb hts hown hK w (by decide +kernel) tyX2 tyX2_ok (hts (.classLink RX6 147 RX2) (by decide +kernel)) (hts (.instantiable RX2 1) (by decide +kernel)) (hts (.initialized RX2) (by decide +kernel)) rfl (fun j hj => by rcases (show j = 0 by omega) with rfl <;> rfl) (Nat.le_of_ble_eq_true rfl) (Nat.le_of_ble_eq_true rfl) dX6_newReel_28 (fun a H ha w => ?_)
    refine W.widen (k := 1) (n := 1) (Nat.le_of_ble_eq_true rfl) (Nat.le_of_ble_eq_true rfl) ?_
    refine lv_dup hx hb dX6_newReel_31 rfl ?_
    refine lv_iload_n hx hb dX6_newReel_32 rfl (lv_at hl 1 rfl) ?_
    refine zCv w (va_runI (As := [.int n]) (rest := [.ref a]) ⟨hx, hb, hml, hown, hts⟩ (kX2_init l G (List.mem_append_right _ List.mem_cons_self) (va_up_self _ _ _) n hn hn2 H.size) (cwI 1 hts gX6_newReel_X2_init rfl rfl rfl (hts (.initialized RX2) (by decide +kernel)) (hts (.methodLink RX6 149 yX2_init) (by decide +kernel)) (hts (.instanceMethod yX2_init) (by decide +kernel)) rfl (by decide +kernel) ⟨(Nat.le_of_ble_eq_true rfl), (Nat.le_of_ble_eq_true rfl)⟩) (zPS w hK) rfl rfl hl.1 rfl (lv_room (Nat.le_of_ble_eq_true rfl)) dX6_newReel_33 ⟨(Nat.le_of_ble_eq_true rfl), (Nat.le_of_ble_eq_true rfl)⟩) (fun u H locs hq w => ?_)
    obtain ⟨b, hb0, rfl⟩ := hq
    have hbL : b ∉ L := fun z => hb0 (List.mem_append_left _ z)
    have hba : b ≠ a := fun z => hb0 (z ▸ List.mem_append_right _ List.mem_cons_self)
    rw [zup3] at w
    exact zRq hx hb hr hlk w rfl dX6_newReel_36 (Nat.le_of_ble_eq_true rfl) (Nat.le_of_ble_eq_true rfl) ⟨a, b, rfl, ha, hbL, hba, by rw [(zS_is (k := 0) (by decide) t_1)]⟩
  · rcases Decidable.em (t = 1) with t_2 | t_2
    · refine lv_tableIn (tgt := 37) hx hb dX6_newReel_1 (by rw [t_2]; decide) (by rw [t_2]; decide) (by rw [t_2]; rfl) (by decide) ?_
      refine px_new (ci := 4) (fs := [.null]) (C := RX5) (T := TX5) (N := 1) hx hb hts hown hK w (by decide +kernel) tyX5 tyX5_ok (hts (.classLink RX6 151 RX5) (by decide +kernel)) (hts (.instantiable RX5 1) (by decide +kernel)) (hts (.initialized RX5) (by decide +kernel)) rfl (fun j hj => by rcases (show j = 0 by omega) with rfl <;> rfl) (Nat.le_of_ble_eq_true rfl) (Nat.le_of_ble_eq_true rfl) dX6_newReel_37 (fun a H ha w => ?_)
      refine W.widen (k := 1) (n := 1) (Nat.le_of_ble_eq_true rfl) (Nat.le_of_ble_eq_true rfl) ?_
      refine lv_dup hx hb dX6_newReel_40 rfl ?_
      refine lv_iload_n hx hb dX6_newReel_41 rfl (lv_at hl 1 rfl) ?_
      refine zCv w (va_runI (As := [.int n]) (rest := [.ref a]) ⟨hx, hb, hml, hown, hts⟩ (kX5_init l G (List.mem_append_right _ List.mem_cons_self) (va_up_self _ _ _) n hn hn2 H.size) (cwI 1 hts gX6_newReel_X5_init rfl rfl rfl (hts (.initialized RX5) (by decide +kernel)) (hts (.methodLink RX6 153 yX5_init) (by decide +kernel)) (hts (.instanceMethod yX5_init) (by decide +kernel)) rfl (by decide +kernel) ⟨(Nat.le_of_ble_eq_true rfl), (Nat.le_of_ble_eq_true rfl)⟩) (zPS w hK) rfl rfl hl.1 rfl (lv_room (Nat.le_of_ble_eq_true rfl)) dX6_newReel_42 ⟨(Nat.le_of_ble_eq_true rfl), (Nat.le_of_ble_eq_true rfl)⟩) (fun u H locs hq w => ?_)
      obtain ⟨b, hb0, rfl⟩ := hq
      have hbL : b ∉ L := fun z => hb0 (List.mem_append_left _ z)
      have hba : b ≠ a := fun z => hb0 (z ▸ List.mem_append_right _ List.mem_cons_self)
      rw [zup3] at w
      exact zRq hx hb hr hlk w rfl dX6_newReel_45 (Nat.le_of_ble_eq_true rfl) (Nat.le_of_ble_eq_true rfl) ⟨a, b, rfl, ha, hbL, hba, by rw [(zS_is (k := 1) (by decide) t_2)]⟩
    · rcases Decidable.em (t = 2) with t_3 | t_3
      · refine lv_tableIn (tgt := 46) hx hb dX6_newReel_1 (by rw [t_3]; decide) (by rw [t_3]; decide) (by rw [t_3]; rfl) (by decide) ?_
        refine px_new (ci := 0) (fs := [.null]) (C := RX0) (T := TX0) (N := 1) hx hb hts hown hK w (by decide +kernel) tyX0 tyX0_ok (hts (.classLink RX6 154 RX0) (by decide +kernel)) (hts (.instantiable RX0 1) (by decide +kernel)) (hts (.initialized RX0) (by decide +kernel)) rfl (fun j hj => by rcases (show j = 0 by omega) with rfl <;> rfl) (Nat.le_of_ble_eq_true rfl) (Nat.le_of_ble_eq_true rfl) dX6_newReel_46 (fun a H ha w => ?_)
        refine W.widen (k := 1) (n := 1) (Nat.le_of_ble_eq_true rfl) (Nat.le_of_ble_eq_true rfl) ?_
        refine lv_dup hx hb dX6_newReel_49 rfl ?_
        refine lv_iload_n hx hb dX6_newReel_50 rfl (lv_at hl 1 rfl) ?_
        refine zCv w (va_runI (As := [.int n]) (rest := [.ref a]) ⟨hx, hb, hml, hown, hts⟩ (kX0_init l G (List.mem_append_right _ List.mem_cons_self) (va_up_self _ _ _) n hn hn2 H.size) (cwI 1 hts gX6_newReel_X0_init rfl rfl rfl (hts (.initialized RX0) (by decide +kernel)) (hts (.methodLink RX6 156 yX0_init) (by decide +kernel)) (hts (.instanceMethod yX0_init) (by decide +kernel)) rfl (by decide +kernel) ⟨(Nat.le_of_ble_eq_true rfl), (Nat.le_of_ble_eq_true rfl)⟩) (zPS w hK) rfl rfl hl.1 rfl (lv_room (Nat.le_of_ble_eq_true rfl)) dX6_newReel_51 ⟨(Nat.le_of_ble_eq_true rfl), (Nat.le_of_ble_eq_true rfl)⟩) (fun u H locs hq w => ?_)
        obtain ⟨b, hb0, rfl⟩ := hq
        have hbL : b ∉ L := fun z => hb0 (List.mem_append_left _ z)
        have hba : b ≠ a := fun z => hb0 (z ▸ List.mem_append_right _ List.mem_cons_self)
        rw [zup3] at w
        exact zRq hx hb hr hlk w rfl dX6_newReel_54 (Nat.le_of_ble_eq_true rfl) (Nat.le_of_ble_eq_true rfl) ⟨a, b, rfl, ha, hbL, hba, by rw [(zS_is (k := 2) (by decide) t_3)]⟩
      · refine lv_tableOut (tgt := 55) hx hb dX6_newReel_1 (by have q0 := lv_neT (k := 0) (a := 0) t_1 rfl; have q1 := lv_neT (k := 1) (a := 1) t_2 rfl; have q2 := lv_neT (k := 2) (a := 2) t_3 rfl; omega) (by decide) ?_
        refine px_new (ci := 1) (fs := [.null]) (C := RX1) (T := TX1) (N := 1) hx hb hts hown hK w (by decide +kernel) tyX1 tyX1_ok (hts (.classLink RX6 157 RX1) (by decide +kernel)) (hts (.instantiable RX1 1) (by decide +kernel)) (hts (.initialized RX1) (by decide +kernel)) rfl (fun j hj => by rcases (show j = 0 by omega) with rfl <;> rfl) (Nat.le_of_ble_eq_true rfl) (Nat.le_of_ble_eq_true rfl) dX6_newReel_55 (fun a H ha w => ?_)
        refine W.widen (k := 1) (n := 1) (Nat.le_of_ble_eq_true rfl) (Nat.le_of_ble_eq_true rfl) ?_
        refine lv_dup hx hb dX6_newReel_58 rfl ?_
        refine lv_iload_n hx hb dX6_newReel_59 rfl (lv_at hl 1 rfl) ?_
        refine zCv w (va_runI (As := [.int n]) (rest := [.ref a]) ⟨hx, hb, hml, hown, hts⟩ (kX1_init l G (List.mem_append_right _ List.mem_cons_self) (va_up_self _ _ _) n hn hn2 H.size) (cwI 1 hts gX6_newReel_X1_init rfl rfl rfl (hts (.initialized RX1) (by decide +kernel)) (hts (.methodLink RX6 159 yX1_init) (by decide +kernel)) (hts (.instanceMethod yX1_init) (by decide +kernel)) rfl (by decide +kernel) ⟨(Nat.le_of_ble_eq_true rfl), (Nat.le_of_ble_eq_true rfl)⟩) (zPS w hK) rfl rfl hl.1 rfl (lv_room (Nat.le_of_ble_eq_true rfl)) dX6_newReel_60 ⟨(Nat.le_of_ble_eq_true rfl), (Nat.le_of_ble_eq_true rfl)⟩) (fun u H locs hq w => ?_)
        obtain ⟨b, hb0, rfl⟩ := hq
        have hbL : b ∉ L := fun z => hb0 (List.mem_append_left _ z)
        have hba : b ≠ a := fun z => hb0 (z ▸ List.mem_append_right _ List.mem_cons_self)
        rw [zup3] at w
        exact zRq hx hb hr hlk w rfl dX6_newReel_63 (Nat.le_of_ble_eq_true rfl) (Nat.le_of_ble_eq_true rfl) ⟨a, b, rfl, ha, hbL, hba, by rw [(zS_is3 ht t_1 t_2 t_3)]⟩
set_option maxHeartbeats 4000000 in
set_option maxRecDepth 100000 in
theorem kX6_mount (l : Launch) (G : zG) {L : List Nat} {f : Nat → va_E} {o ac aw ar : Nat} {ch : Option Nat} {car wa : Nat → Option Nat} {ta : Nat → Int32} (h : zBn G L f o ac aw ar ch car wa ta) (hct : zCT G L f car) (hwt : zWT G L f wa) (d t n : Int32) (sz : Nat) : zMl l yX6_mount wsX6_mount { frames := 4, cells := 2, slots := 41, locals := 74 } G [.ref o, .int d, .int t, .int n] (va_pl L f) sz (fun r u => if zFour d ∧ zFour t then (if n ≤ 40 then (if 0 ≤ n then (∃ a b, a ∉ L ∧ b ∉ L ∧ b ≠ a ∧ u = zCarW G (zNL L a b) (zNf G f (zS t) n.toNatClampNeg a b) ac (va_up car (zix d t) (some a)) ∧ r = n.toInt64) else zRefP G L f ar ta zNEGATIVE r u) else zRefP G L f ar ta zGREAT r u) else zRefP G L f ar ta zNONE r u) 2 41 := by
  refine zIn (Qc := fun A => va_Ql _ (zB G A) A) (cc := cX6_mount) (maxL := 4) (ret := (some .long)) (by decide) rfl (Nat.le_of_ble_eq_true rfl) ?_
  intro p e s m below meth c A ls hx hb hr hlk hml hts hown hnm hK w hl
  have hown : s.vm.findClass RX6 = some m.cls := hown
  have hl : lv_has ls 4 [(0, .ref o), (1, .int d), (2, .int t), (3, .int n)] := hl
  obtain ⟨⟨mo, mc, mw, mr⟩, fo, fc, fw, fr⟩ := id h
  refine lv_iload_n hx hb dX6_mount_0 rfl (lv_at hl 1 rfl) ?_
  refine zCi w (va_runS (As := [.int d]) (rest := []) ⟨hx, hb, hml, hown, hts⟩ (kX6_isDeck l G _ d s.heap.size) (va_cwS 1 hts gX6_mount_X6_isDeck rfl rfl rfl (by decide +kernel) ⟨(Nat.le_of_ble_eq_true rfl), (Nat.le_of_ble_eq_true rfl)⟩) (zPS w hK) rfl rfl hl.1 rfl (lv_room (Nat.le_of_ble_eq_true rfl)) dX6_mount_1 ⟨(Nat.le_of_ble_eq_true rfl), (Nat.le_of_ble_eq_true rfl)⟩) (fun r_1 u H locs hq w => ?_)
  obtain ⟨rfl, e_r_1⟩ := hq
  refine lv_if_eq (tgt := 14) hx hb dX6_mount_4 (by decide) (fun c_2 => ?_) (fun c_2 => ?_)
  · have p_d := z00 inferInstance e_r_1 c_2
    refine lv_aload_n hx hb dX6_mount_14 rfl (lv_at hl 0 rfl) ?_
    refine lv_ldc2 hx hb hown (hts (.constantLong RX6 36 (1099511627776)) (by decide +kernel)) dX6_mount_15 ?_
    refine zCl w (va_runV (As := [.long 1099511627776]) (rest := []) ⟨hx, hb, hml, hown, hts⟩ (kX6_refuse l G h zNONE zW1 H.size) (cwV 1 hts gX6_mount_X6_refuse rfl rfl rfl (by decide +kernel) ⟨(Nat.le_of_ble_eq_true rfl), (Nat.le_of_ble_eq_true rfl)⟩) (zPV w hK (px_recv (r := (RX6, TX6, 4)) hK w mo fo rfl)) rfl rfl hl.1 rfl (lv_room (Nat.le_of_ble_eq_true rfl)) dX6_mount_18 ⟨(Nat.le_of_ble_eq_true rfl), (Nat.le_of_ble_eq_true rfl)⟩) (fun r_3 u H locs hq w => ?_)
    obtain ⟨rfl, e_r⟩ := hq
    subst e_r
    exact zRl hx hb hr hlk w dX6_mount_21 (Nat.le_of_ble_eq_true rfl) (Nat.le_of_ble_eq_true rfl) (by show (if _ then _ else _); rw [if_neg (by intro q; simp_all)]; exact ⟨rfl, rfl⟩)
  · have p_d := z01 inferInstance e_r_1 c_2
    refine lv_iload_n hx hb dX6_mount_7 rfl (lv_at hl 2 rfl) ?_
    refine zCi w (va_runS (As := [.int t]) (rest := []) ⟨hx, hb, hml, hown, hts⟩ (kX6_isSort l G _ t H.size) (va_cwS 1 hts gX6_mount_X6_isSort rfl rfl rfl (by decide +kernel) ⟨(Nat.le_of_ble_eq_true rfl), (Nat.le_of_ble_eq_true rfl)⟩) (zPS w hK) rfl rfl hl.1 rfl (lv_room (Nat.le_of_ble_eq_true rfl)) dX6_mount_8 ⟨(Nat.le_of_ble_eq_true rfl), (Nat.le_of_ble_eq_true rfl)⟩) (fun r_4 u H locs hq w => ?_)
    obtain ⟨rfl, e_r_4⟩ := hq
    refine lv_if_ne (tgt := 22) hx hb dX6_mount_11 (by decide) (fun c_5 => ?_) (fun c_5 => ?_)
    · have p_t := z01 inferInstance e_r_4 c_5
      refine lv_iload_n hx hb dX6_mount_22 rfl (lv_at hl 3 rfl) ?_
      refine lv_bipush (v := 40) hx hb dX6_mount_23 (by decide) ?_
      refine lv_icmp_le (tgt := 36) hx hb dX6_mount_25 (by decide) (fun c_6 => ?_) (fun c_6 => ?_)
      · have p_g := c_6
        refine lv_iload_n hx hb dX6_mount_36 rfl (lv_at hl 3 rfl) ?_
        refine lv_if_ge (tgt := 48) hx hb dX6_mount_37 (by decide) (fun c_7 => ?_) (fun c_7 => ?_)
        · have p_n := c_7
          have hn0 : ¬ n < 0 := fun z => by rw [Int32.lt_iff_toInt_lt] at z; rw [Int32.le_iff_toInt_le] at p_n; omega
          have hn2 : n.toNatClampNeg ≤ 40 := zle40 p_n p_g
          refine lv_aload_n hx hb dX6_mount_48 rfl (lv_at hl 0 rfl) ?_
          refine lv_iload_n hx hb dX6_mount_49 rfl (lv_at hl 1 rfl) ?_
          refine lv_iload_n hx hb dX6_mount_50 rfl (lv_at hl 2 rfl) ?_
          refine lv_iload_n hx hb dX6_mount_51 rfl (lv_at hl 2 rfl) ?_
          refine lv_iload_n hx hb dX6_mount_52 rfl (lv_at hl 3 rfl) ?_
          refine zCq w (va_runS (As := [.int t, .int n]) (rest := [.int t, .int d, .ref o]) ⟨hx, hb, hml, hown, hts⟩ (kX6_newReel l G t p_t n hn0 hn2 H.size) (va_cwS 2 hts gX6_mount_X6_newReel rfl rfl rfl (by decide +kernel) ⟨(Nat.le_of_ble_eq_true rfl), (Nat.le_of_ble_eq_true rfl)⟩) (zPS w hK) rfl rfl hl.1 rfl (lv_room (Nat.le_of_ble_eq_true rfl)) dX6_mount_53 ⟨(Nat.le_of_ble_eq_true rfl), (Nat.le_of_ble_eq_true rfl)⟩) (fun r_8 u H locs hq w => ?_)
          obtain ⟨a, b, e1, ha, hb0, hba, rfl⟩ := hq
          subst e1
          have h2 := zBn_ext (zNew_ext (G := G) (f := f) (s := zS t) (n := n.toNatClampNeg) ha hb0) h
          have hR := zRA_of (zNew_reel (G := G) (L := L) (f := f) (s := zS t) hn2 hba)
          obtain ⟨⟨mo2, mc2, mw2, mr2⟩, fo2, fc2, fw2, fr2⟩ := id h2
          refine zCv w (va_runV (As := [.int d, .int t, va_rf (some a)]) (rest := []) ⟨hx, hb, hml, hown, hts⟩ (kX6_carry l G h2 d t (some a) p_d p_t (fun v z => by cases z; exact ⟨_, hR⟩) H.size) (cwV 3 hts gX6_mount_X6_carry rfl rfl rfl (by decide +kernel) ⟨(Nat.le_of_ble_eq_true rfl), (Nat.le_of_ble_eq_true rfl)⟩) (zPV w hK (px_recv (r := (RX6, TX6, 4)) hK w mo2 fo2 rfl)) rfl rfl hl.1 rfl (lv_room (Nat.le_of_ble_eq_true rfl)) dX6_mount_56 ⟨(Nat.le_of_ble_eq_true rfl), (Nat.le_of_ble_eq_true rfl)⟩) (fun u H locs hq w => ?_)
          subst hq
          refine lv_iload_n hx hb dX6_mount_59 rfl (lv_at hl 3 rfl) ?_
          refine lv_i2l hx hb dX6_mount_60 rfl ?_
          exact zRl hx hb hr hlk w dX6_mount_61 (Nat.le_of_ble_eq_true rfl) (Nat.le_of_ble_eq_true rfl) (by show (if _ then _ else _); rw [if_pos ⟨p_d, p_t⟩]; (first | rw [if_pos p_g] | rw [if_neg p_g]); (first | rw [if_pos p_n] | rw [if_neg p_n]); (first | exact ⟨rfl, rfl⟩ | exact ⟨a, b, ha, hb0, hba, rfl, rfl⟩))
        · have p_n := c_7
          refine lv_aload_n hx hb dX6_mount_40 rfl (lv_at hl 0 rfl) ?_
          refine lv_ldc2 hx hb hown (hts (.constantLong RX6 44 (4398046511104)) (by decide +kernel)) dX6_mount_41 ?_
          refine zCl w (va_runV (As := [.long 4398046511104]) (rest := []) ⟨hx, hb, hml, hown, hts⟩ (kX6_refuse l G h zNEGATIVE zW4 H.size) (cwV 1 hts gX6_mount_X6_refuse rfl rfl rfl (by decide +kernel) ⟨(Nat.le_of_ble_eq_true rfl), (Nat.le_of_ble_eq_true rfl)⟩) (zPV w hK (px_recv (r := (RX6, TX6, 4)) hK w mo fo rfl)) rfl rfl hl.1 rfl (lv_room (Nat.le_of_ble_eq_true rfl)) dX6_mount_44 ⟨(Nat.le_of_ble_eq_true rfl), (Nat.le_of_ble_eq_true rfl)⟩) (fun r_9 u H locs hq w => ?_)
          obtain ⟨rfl, e_r⟩ := hq
          subst e_r
          exact zRl hx hb hr hlk w dX6_mount_47 (Nat.le_of_ble_eq_true rfl) (Nat.le_of_ble_eq_true rfl) (by show (if _ then _ else _); rw [if_pos ⟨p_d, p_t⟩]; (first | rw [if_pos p_g] | rw [if_neg p_g]); (first | rw [if_pos p_n] | rw [if_neg p_n]); (first | exact ⟨rfl, rfl⟩ | exact ⟨a, b, ha, hb0, hba, rfl, rfl⟩))
      · have p_g := c_6
        refine lv_aload_n hx hb dX6_mount_28 rfl (lv_at hl 0 rfl) ?_
        refine lv_ldc2 hx hb hown (hts (.constantLong RX6 42 (5497558138880)) (by decide +kernel)) dX6_mount_29 ?_
        refine zCl w (va_runV (As := [.long 5497558138880]) (rest := []) ⟨hx, hb, hml, hown, hts⟩ (kX6_refuse l G h zGREAT zW5 H.size) (cwV 1 hts gX6_mount_X6_refuse rfl rfl rfl (by decide +kernel) ⟨(Nat.le_of_ble_eq_true rfl), (Nat.le_of_ble_eq_true rfl)⟩) (zPV w hK (px_recv (r := (RX6, TX6, 4)) hK w mo fo rfl)) rfl rfl hl.1 rfl (lv_room (Nat.le_of_ble_eq_true rfl)) dX6_mount_32 ⟨(Nat.le_of_ble_eq_true rfl), (Nat.le_of_ble_eq_true rfl)⟩) (fun r_10 u H locs hq w => ?_)
        obtain ⟨rfl, e_r⟩ := hq
        subst e_r
        exact zRl hx hb hr hlk w dX6_mount_35 (Nat.le_of_ble_eq_true rfl) (Nat.le_of_ble_eq_true rfl) (by show (if _ then _ else _); rw [if_pos ⟨p_d, p_t⟩]; (first | rw [if_pos p_g] | rw [if_neg p_g]); (first | exact ⟨rfl, rfl⟩ | exact ⟨a, b, ha, hb0, hba, rfl, rfl⟩))
    · have p_t := z00 inferInstance e_r_4 c_5
      refine lv_aload_n hx hb dX6_mount_14 rfl (lv_at hl 0 rfl) ?_
      refine lv_ldc2 hx hb hown (hts (.constantLong RX6 36 (1099511627776)) (by decide +kernel)) dX6_mount_15 ?_
      refine zCl w (va_runV (As := [.long 1099511627776]) (rest := []) ⟨hx, hb, hml, hown, hts⟩ (kX6_refuse l G h zNONE zW1 H.size) (cwV 1 hts gX6_mount_X6_refuse rfl rfl rfl (by decide +kernel) ⟨(Nat.le_of_ble_eq_true rfl), (Nat.le_of_ble_eq_true rfl)⟩) (zPV w hK (px_recv (r := (RX6, TX6, 4)) hK w mo fo rfl)) rfl rfl hl.1 rfl (lv_room (Nat.le_of_ble_eq_true rfl)) dX6_mount_18 ⟨(Nat.le_of_ble_eq_true rfl), (Nat.le_of_ble_eq_true rfl)⟩) (fun r_11 u H locs hq w => ?_)
      obtain ⟨rfl, e_r⟩ := hq
      subst e_r
      exact zRl hx hb hr hlk w dX6_mount_21 (Nat.le_of_ble_eq_true rfl) (Nat.le_of_ble_eq_true rfl) (by show (if _ then _ else _); rw [if_neg (by intro q; simp_all)]; exact ⟨rfl, rfl⟩)
