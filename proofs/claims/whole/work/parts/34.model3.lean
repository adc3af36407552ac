theorem zrow_le2 {n : Int32} {i : Nat} (hp : ¬ n < 0) (hi : i ≤ n.toNatClampNeg) (hs : n.toNatClampNeg ≤ 40) (h : n ≤ nI i) : i = n.toNatClampNeg := by
  obtain ⟨j, hj, e⟩ := nI_of hp
  subst e
  rw [nI_clamp hj] at hi hs ⊢
  have := (nI_leI hj (by omega)).mp h
  omega
theorem zrow_lt2 {n : Int32} {i : Nat} (hp : ¬ n < 0) (hi : i ≤ n.toNatClampNeg) (hs : n.toNatClampNeg ≤ 40) (h : ¬ n ≤ nI i) : i < n.toNatClampNeg := by
  obtain ⟨j, hj, e⟩ := nI_of hp
  subst e
  rw [nI_clamp hj] at hi hs ⊢
  have : ¬ j ≤ i := fun q => h ((nI_leI hj (by omega)).mpr q)
  omega
set_option maxHeartbeats 4000000 in
set_option maxRecDepth 100000 in
theorem lpA_reel {p : Program} {l : Launch} {e : Env} {R : Room} {s : State} {m : MethodId} {args : Array Value} {below : List Frame} {meth : Method} {c : Code} {A : Nat → Prop} {G : zG} {cells slots : Nat} {Q : State → Prop} (ad : Nat → Nat) {M : Nat → Nat → Int32} {lev : Nat → UInt32} (hx : p.tables.exec = Jvm.exec) (hb : c.code = cX7_reel) (hts : ∀ x ∈ wsX7_reel, x.before args s = true) (hown : s.vm.findClass RX7 = some m.cls) (hK : zK G s) {n : Int32}
    (kont : ∀ (U : Nat → Int32) (H : Heap) (locs : List Loc) (ls : Array Slot), (∀ j, j < 80 → U j = 0) → zW G A s H locs (mW G ad (va_up M 6 U) lev) → lv_has ls 4 [(0, .ref (ad 0)), (1, .int n)] → W p l e R s m args below meth c H locs cells slots Q (F0 m 21 ls [])) :
    ∀ (fuel k : Nat), k ≤ 80 → 80 < k + fuel → ∀ (U : Nat → Int32) (H : Heap) (locs : List Loc) (ls : Array Slot), (∀ j, j < k → U j = 0) → zW G A s H locs (mW G ad (va_up M 6 U) lev) → lv_has ls 4 [(0, .ref (ad 0)), (1, .int n), (2, .int (nI k))] → W p l e R s m args below meth c H locs cells slots Q (F0 m 2 ls []) := by
  intro fuel
  induction fuel with
  | zero => intro k h1 h2; exact absurd h2 (by omega)
  | succ fuel ih =>
    intro k hk hfu U H locs ls hI w hl
    refine lv_iload_n hx hb dX7_reel_2 rfl (lv_at hl 2 rfl) ?_
    refine lv_bipush (v := 80) hx hb dX7_reel_3 (by decide) ?_
    refine lv_icmp_ge (tgt := 21) hx hb dX7_reel_5 (by decide) (fun c_1 => ?_) (fun c_1 => ?_)
    · have hkN : k = 80 := by have := (nI_leI (a := 80) (b := k) (by decide) (by omega)).mp c_1; omega
      subst hkN
      exact kont U H locs ls hI w (lv_sub hl [0, 1] rfl)
    · have hlt : k < 80 := Nat.lt_of_not_le (fun q => c_1 ((nI_leI (a := 80) (b := k) (by decide) (by omega)).mpr q))
      refine lv_aload_n hx hb dX7_reel_8 rfl (lv_at hl 0 rfl) ?_
      refine zget (ci := 6) (C := RX7) (T := TX7) (N := 11) hx hb hts hown hK w (by decide +kernel) 0 rfl rfl 6 (by decide) (hts (.fieldLink RX7 29 "ReelBarnModel" "isUsed" "[Z") (by decide +kernel)) (fun _ h9 => h9) rfl dX7_reel_9 ?_
      refine lv_iload_n hx hb dX7_reel_12 rfl (lv_at hl 2 rfl) ?_
      refine lv_iconst (v := 0) hx hb dX7_reel_13 (by decide) ?_
      refine zm_zast hx hb hK w 7 rfl (vp_in_nI hlt (by decide)) dX7_reel_14 (fun H locs w => ?_)
      rw [nI_clamp (by omega)] at w
      have w : zW G A s H locs (mW G ad (va_up M 6 (upd U k 0)) lev) := w
      refine lv_iinc (v := ((nI k) + 1)) (lv' := [(2, .int ((nI k) + 1)), (0, .ref (ad 0)), (1, .int n)]) hx hb dX7_reel_15 hl (k := 2) rfl rfl (by decide) rfl (fun ls hl => ?_)
      refine lv_goto (tgt := 2) hx hb dX7_reel_18 (by decide) ?_
      rw [nI_1] at hl
      exact ih (k + 1) hlt (by omega) _ _ _ _ (fun j hj => by by_cases q : j = k <;> simp [upd, q]; exact hI j (by omega)) w (lv_sub hl [1, 2, 0] rfl)
set_option maxHeartbeats 4000000 in
set_option maxRecDepth 100000 in
theorem lpB_reel {p : Program} {l : Launch} {e : Env} {R : Room} {s : State} {m : MethodId} {args : Array Value} {below : List Frame} {meth : Method} {c : Code} {A : Nat → Prop} {G : zG} {cells slots : Nat} {Q : State → Prop} (ad : Nat → Nat) {M : Nat → Nat → Int32} {lev : Nat → UInt32} (hx : p.tables.exec = Jvm.exec) (hb : c.code = cX7_reel) (hts : ∀ x ∈ wsX7_reel, x.before args s = true) (hown : s.vm.findClass RX7 = some m.cls) (hK : zK G s) {n : Int32} (hIM : mI M lev)
    (kont : ∀ (U : Nat → Int32) (H : Heap) (locs : List Loc) (ls : Array Slot), mU M 16 0 U → zW G A s H locs (mW G ad (va_up M 6 U) lev) → lv_has ls 4 [(0, .ref (ad 0)), (1, .int n)] → W p l e R s m args below meth c H locs cells slots Q (F0 m 57 ls [])) :
    ∀ (fuel k : Nat), k ≤ 16 → 16 < k + fuel → ∀ (U : Nat → Int32) (H : Heap) (locs : List Loc) (ls : Array Slot), mU M k 0 U → zW G A s H locs (mW G ad (va_up M 6 U) lev) → lv_has ls 4 [(0, .ref (ad 0)), (1, .int n), (2, .int (nI k))] → W p l e R s m args below meth c H locs cells slots Q (F0 m 23 ls []) := by
  intro fuel
  induction fuel with
  | zero => intro k h1 h2; exact absurd h2 (by omega)
  | succ fuel ih =>
    intro k hk hfu U H locs ls hI w hl
    refine lv_iload_n hx hb dX7_reel_23 rfl (lv_at hl 2 rfl) ?_
    refine lv_bipush (v := 16) hx hb dX7_reel_24 (by decide) ?_
    refine lv_icmp_ge (tgt := 57) hx hb dX7_reel_26 (by decide) (fun c_1 => ?_) (fun c_1 => ?_)
    · have hkN : k = 16 := by have := (nI_leI (a := 16) (b := k) (by decide) (by omega)).mp c_1; omega
      subst hkN
      exact kont U H locs ls hI w (lv_sub hl [0, 1] rfl)
    · have hlt : k < 16 := Nat.lt_of_not_le (fun q => c_1 ((nI_leI (a := 16) (b := k) (by decide) (by omega)).mpr q))
      refine lv_aload_n hx hb dX7_reel_29 rfl (lv_at hl 0 rfl) ?_
      refine zget (ci := 6) (C := RX7) (T := TX7) (N := 11) hx hb hts hown hK w (by decide +kernel) 0 rfl rfl 0 (by decide) (hts (.fieldLink RX7 7 "ReelBarnModel" "carried" "[I") (by decide +kernel)) (fun _ h9 => h9) rfl dX7_reel_30 ?_
      refine lv_iload_n hx hb dX7_reel_33 rfl (lv_at hl 2 rfl) ?_
      refine zm_iald hx hb hK w 1 rfl (vp_in_nI hlt (by decide)) dX7_reel_34 ?_
      rw [nI_clamp (by omega)]
      change W p l e R s m args below meth c H locs cells slots Q (F0 m _ ls (.int (M 0 k) :: []))
      refine lv_iconst (v := (-1)) hx hb dX7_reel_35 (by decide) ?_
      refine lv_icmp_eq (tgt := 51) hx hb dX7_reel_36 (by decide) (fun c_2 => ?_) (fun c_2 => ?_)
      · have hm := c_2
        refine lv_iinc (v := ((nI k) + 1)) (lv' := [(2, .int ((nI k) + 1)), (0, .ref (ad 0)), (1, .int n)]) hx hb dX7_reel_51 hl (k := 2) rfl rfl (by decide) rfl (fun ls hl => ?_)
        refine lv_goto (tgt := 23) hx hb dX7_reel_54 (by decide) ?_
        rw [nI_1] at hl
        exact ih (k + 1) hlt (by omega) _ _ _ _ (mU_an hI hm) w (lv_sub hl [1, 2, 0] rfl)
      · have hm := c_2
        obtain ⟨rr, hrr, hre⟩ : ∃ rr : Nat, rr < 80 ∧ M 0 k = nI rr := (hIM.1 k hlt).resolve_left hm
        refine lv_aload_n hx hb dX7_reel_39 rfl (lv_at hl 0 rfl) ?_
        refine zget (ci := 6) (C := RX7) (T := TX7) (N := 11) hx hb hts hown hK w (by decide +kernel) 0 rfl rfl 6 (by decide) (hts (.fieldLink RX7 29 "ReelBarnModel" "isUsed" "[Z") (by decide +kernel)) (fun _ h9 => h9) rfl dX7_reel_40 ?_
        refine lv_aload_n hx hb dX7_reel_43 rfl (lv_at hl 0 rfl) ?_
        refine zget (ci := 6) (C := RX7) (T := TX7) (N := 11) hx hb hts hown hK w (by decide +kernel) 0 rfl rfl 0 (by decide) (hts (.fieldLink RX7 7 "ReelBarnModel" "carried" "[I") (by decide +kernel)) (fun _ h9 => h9) rfl dX7_reel_44 ?_
        refine lv_iload_n hx hb dX7_reel_47 rfl (lv_at hl 2 rfl) ?_
        refine zm_iald hx hb hK w 1 rfl (vp_in_nI hlt (by decide)) dX7_reel_48 ?_
        rw [nI_clamp (by omega)]
        change W p l e R s m args below meth c H locs cells slots Q (F0 m _ ls (.int (M 0 k) :: [.ref (ad 7)]))
        refine lv_iconst (v := 1) hx hb dX7_reel_49 (by decide) ?_
        refine zm_zast hx hb hK w 7 rfl (by rw [hre]; exact vp_in_nI hrr (by decide)) dX7_reel_50 (fun H locs w => ?_)
        rw [hre, nI_clamp (by omega)] at w
        have w : zW G A s H locs (mW G ad (va_up M 6 (upd U rr 1)) lev) := w
        refine lv_iinc (v := ((nI k) + 1)) (lv' := [(2, .int ((nI k) + 1)), (0, .ref (ad 0)), (1, .int n)]) hx hb dX7_reel_51 hl (k := 2) rfl rfl (by decide) rfl (fun ls hl => ?_)
        refine lv_goto (tgt := 23) hx hb dX7_reel_54 (by decide) ?_
        rw [nI_1] at hl
        exact ih (k + 1) hlt (by omega) _ _ _ _ (mU_a hrr hI hre) w (lv_sub hl [1, 2, 0] rfl)
set_option maxHeartbeats 4000000 in
set_option maxRecDepth 100000 in
theorem lpC_reel {p : Program} {l : Launch} {e : Env} {R : Room} {s : State} {m : MethodId} {args : Array Value} {below : List Frame} {meth : Method} {c : Code} {A : Nat → Prop} {G : zG} {cells slots : Nat} {Q : State → Prop} (ad : Nat → Nat) {M : Nat → Nat → Int32} {lev : Nat → UInt32} (hx : p.tables.exec = Jvm.exec) (hb : c.code = cX7_reel) (hts : ∀ x ∈ wsX7_reel, x.before args s = true) (hown : s.vm.findClass RX7 = some m.cls) (hK : zK G s) {n : Int32} (hIM : mI M lev)
    (kont : ∀ (U : Nat → Int32) (H : Heap) (locs : List Loc) (ls : Array Slot), mU M 16 48 U → zW G A s H locs (mW G ad (va_up M 6 U) lev) → lv_has ls 4 [(0, .ref (ad 0)), (1, .int n)] → W p l e R s m args below meth c H locs cells slots Q (F0 m 93 ls [])) :
    ∀ (fuel k : Nat), k ≤ 48 → 48 < k + fuel → ∀ (U : Nat → Int32) (H : Heap) (locs : List Loc) (ls : Array Slot), mU M 16 k U → zW G A s H locs (mW G ad (va_up M 6 U) lev) → lv_has ls 4 [(0, .ref (ad 0)), (1, .int n), (2, .int (nI k))] → W p l e R s m args below meth c H locs cells slots Q (F0 m 59 ls []) := by
  intro fuel
  induction fuel with
  | zero => intro k h1 h2; exact absurd h2 (by omega)
  | succ fuel ih =>
    intro k hk hfu U H locs ls hI w hl
    refine lv_iload_n hx hb dX7_reel_59 rfl (lv_at hl 2 rfl) ?_
    refine lv_bipush (v := 48) hx hb dX7_reel_60 (by decide) ?_
    refine lv_icmp_ge (tgt := 93) hx hb dX7_reel_62 (by decide) (fun c_1 => ?_) (fun c_1 => ?_)
    · have hkN : k = 48 := by have := (nI_leI (a := 48) (b := k) (by decide) (by omega)).mp c_1; omega
      subst hkN
      exact kont U H locs ls hI w (lv_sub hl [0, 1] rfl)
    · have hlt : k < 48 := Nat.lt_of_not_le (fun q => c_1 ((nI_leI (a := 48) (b := k) (by decide) (by omega)).mpr q))
      refine lv_aload_n hx hb dX7_reel_65 rfl (lv_at hl 0 rfl) ?_
      refine zget (ci := 6) (C := RX7) (T := TX7) (N := 11) hx hb hts hown hK w (by decide +kernel) 0 rfl rfl 2 (by decide) (hts (.fieldLink RX7 16 "ReelBarnModel" "wall" "[I") (by decide +kernel)) (fun _ h9 => h9) rfl dX7_reel_66 ?_
      refine lv_iload_n hx hb dX7_reel_69 rfl (lv_at hl 2 rfl) ?_
      refine zm_iald hx hb hK w 3 rfl (vp_in_nI hlt (by decide)) dX7_reel_70 ?_
      rw [nI_clamp (by omega)]
      change W p l e R s m args below meth c H locs cells slots Q (F0 m _ ls (.int (M 2 k) :: []))
      refine lv_iconst (v := (-1)) hx hb dX7_reel_71 (by decide) ?_
      refine lv_icmp_eq (tgt := 87) hx hb dX7_reel_72 (by decide) (fun c_2 => ?_) (fun c_2 => ?_)
      · have hm := c_2
        refine lv_iinc (v := ((nI k) + 1)) (lv' := [(2, .int ((nI k) + 1)), (0, .ref (ad 0)), (1, .int n)]) hx hb dX7_reel_87 hl (k := 2) rfl rfl (by decide) rfl (fun ls hl => ?_)
        refine lv_goto (tgt := 59) hx hb dX7_reel_90 (by decide) ?_
        rw [nI_1] at hl
        exact ih (k + 1) hlt (by omega) _ _ _ _ (mU_bn hI hm) w (lv_sub hl [1, 2, 0] rfl)
      · have hm := c_2
        obtain ⟨rr, hrr, hre⟩ : ∃ rr : Nat, rr < 80 ∧ M 2 k = nI rr := (hIM.2.1 k hlt).resolve_left hm
        refine lv_aload_n hx hb dX7_reel_75 rfl (lv_at hl 0 rfl) ?_
        refine zget (ci := 6) (C := RX7) (T := TX7) (N := 11) hx hb hts hown hK w (by decide +kernel) 0 rfl rfl 6 (by decide) (hts (.fieldLink RX7 29 "ReelBarnModel" "isUsed" "[Z") (by decide +kernel)) (fun _ h9 => h9) rfl dX7_reel_76 ?_
        refine lv_aload_n hx hb dX7_reel_79 rfl (lv_at hl 0 rfl) ?_
        refine zget (ci := 6) (C := RX7) (T := TX7) (N := 11) hx hb hts hown hK w (by decide +kernel) 0 rfl rfl 2 (by decide) (hts (.fieldLink RX7 16 "ReelBarnModel" "wall" "[I") (by decide +kernel)) (fun _ h9 => h9) rfl dX7_reel_80 ?_
        refine lv_iload_n hx hb dX7_reel_83 rfl (lv_at hl 2 rfl) ?_
        refine zm_iald hx hb hK w 3 rfl (vp_in_nI hlt (by decide)) dX7_reel_84 ?_
        rw [nI_clamp (by omega)]
        change W p l e R s m args below meth c H locs cells slots Q (F0 m _ ls (.int (M 2 k) :: [.ref (ad 7)]))
        refine lv_iconst (v := 1) hx hb dX7_reel_85 (by decide) ?_
        refine zm_zast hx hb hK w 7 rfl (by rw [hre]; exact vp_in_nI hrr (by decide)) dX7_reel_86 (fun H locs w => ?_)
        rw [hre, nI_clamp (by omega)] at w
        have w : zW G A s H locs (mW G ad (va_up M 6 (upd U rr 1)) lev) := w
        refine lv_iinc (v := ((nI k) + 1)) (lv' := [(2, .int ((nI k) + 1)), (0, .ref (ad 0)), (1, .int n)]) hx hb dX7_reel_87 hl (k := 2) rfl rfl (by decide) rfl (fun ls hl => ?_)
        refine lv_goto (tgt := 59) hx hb dX7_reel_90 (by decide) ?_
        rw [nI_1] at hl
        exact ih (k + 1) hlt (by omega) _ _ _ _ (mU_b hrr hI hre) w (lv_sub hl [1, 2, 0] rfl)
set_option maxHeartbeats 4000000 in
set_option maxRecDepth 100000 in
theorem lpD_reel {p : Program} {l : Launch} {e : Env} {R : Room} {s : State} {m : MethodId} {args : Array Value} {below : List Frame} {meth : Method} {c : Code} {A : Nat → Prop} {G : zG} {cells slots : Nat} {Q : State → Prop} (ad : Nat → Nat) {M : Nat → Nat → Int32} {lev : Nat → UInt32} (hx : p.tables.exec = Jvm.exec) (hb : c.code = cX7_reel) (hts : ∀ x ∈ wsX7_reel, x.before args s = true) (hown : s.vm.findClass RX7 = some m.cls) (hK : zK G s) {n : Int32} {U : Nat → Int32} {r0 : Nat} (hr1 : r0 < 80) (hr0 : U r0 = 0)
    (kont : ∀ (r : Nat) (H : Heap) (locs : List Loc) (ls : Array Slot), r < 80 → U r = 0 → zW G A s H locs (mW G ad (va_up M 6 U) lev) → lv_has ls 4 [(0, .ref (ad 0)), (1, .int n), (2, .int (nI r))] → W p l e R s m args below meth c H locs cells slots Q (F0 m 110 ls [])) :
    ∀ (fuel k : Nat), k ≤ r0 → r0 < k + fuel → ∀ (H : Heap) (locs : List Loc) (ls : Array Slot), zW G A s H locs (mW G ad (va_up M 6 U) lev) → lv_has ls 4 [(0, .ref (ad 0)), (1, .int n), (2, .int (nI k))] → W p l e R s m args below meth c H locs cells slots Q (F0 m 95 ls []) := by
  intro fuel
  induction fuel with
  | zero => intro k h1 h2; exact absurd h2 (by omega)
  | succ fuel ih =>
    intro k hk hfu H locs ls w hl
    refine lv_aload_n hx hb dX7_reel_95 rfl (lv_at hl 0 rfl) ?_
    refine zget (ci := 6) (C := RX7) (T := TX7) (N := 11) hx hb hts hown hK w (by decide +kernel) 0 rfl rfl 6 (by decide) (hts (.fieldLink RX7 29 "ReelBarnModel" "isUsed" "[Z") (by decide +kernel)) (fun _ h9 => h9) rfl dX7_reel_96 ?_
    refine lv_iload_n hx hb dX7_reel_99 rfl (lv_at hl 2 rfl) ?_
    refine zm_zald hx hb hK w 7 rfl (vp_in_nI (by omega) (by decide)) dX7_reel_100 ?_
    rw [nI_clamp (by omega)]
    change W p l e R s m args below meth c H locs cells slots Q (F0 m _ ls (.int (U k) :: []))
    refine lv_if_eq (tgt := 110) hx hb dX7_reel_101 (by decide) (fun c_1 => ?_) (fun c_1 => ?_)
    · exact kont k H locs ls (by omega) c_1 w hl
    · refine lv_iinc (v := ((nI k) + 1)) (lv' := [(2, .int ((nI k) + 1)), (0, .ref (ad 0)), (1, .int n)]) hx hb dX7_reel_104 hl (k := 2) rfl rfl (by decide) rfl (fun ls hl => ?_)
      refine lv_goto (tgt := 95) hx hb dX7_reel_107 (by decide) ?_
      rw [nI_1] at hl
      have hne : k ≠ r0 := fun q => c_1 (by rw [q]; exact hr0)
      exact ih (k + 1) (by omega) (by omega) _ _ _ w (lv_sub hl [1, 2, 0] rfl)
set_option maxHeartbeats 4000000 in
set_option maxRecDepth 100000 in
theorem lpE_reel {p : Program} {l : Launch} {e : Env} {R : Room} {s : State} {m : MethodId} {args : Array Value} {below : List Frame} {meth : Method} {c : Code} {A : Nat → Prop} {G : zG} {cells slots : Nat} {Q : State → Prop} (ad : Nat → Nat) {M : Nat → Nat → Int32} {lev : Nat → UInt32} (hx : p.tables.exec = Jvm.exec) (hb : c.code = cX7_reel) (hts : ∀ x ∈ wsX7_reel, x.before args s = true) (hown : s.vm.findClass RX7 = some m.cls) (hK : zK G s) {n : Int32} {U : Nat → Int32} {r : Nat} (hr : r < 80) (hn : ¬ n < 0) (hn2 : n.toNatClampNeg ≤ 40)
    (kont : ∀ (H : Heap) (locs : List Loc) (ls : Array Slot), zW G A s H locs (mW G ad (mRl M U r n n.toNatClampNeg) (mZ 0 lev r n.toNatClampNeg)) → lv_has ls 4 [(0, .ref (ad 0)), (1, .int n), (2, .int (nI r))] → W p l e R s m args below meth c H locs cells slots Q (F0 m 154 ls [])) :
    ∀ (fuel k : Nat), k ≤ n.toNatClampNeg → n.toNatClampNeg < k + fuel → ∀ (H : Heap) (locs : List Loc) (ls : Array Slot), zW G A s H locs (mW G ad (mRl M U r n k) (mZ 0 lev r k)) → lv_has ls 4 [(0, .ref (ad 0)), (1, .int n), (2, .int (nI r)), (3, .int (nI k))] → W p l e R s m args below meth c H locs cells slots Q (F0 m 119 ls []) := by
  intro fuel
  induction fuel with
  | zero => intro k h1 h2; exact absurd h2 (by omega)
  | succ fuel ih =>
    intro k hk hfu H locs ls w hl
    refine lv_iload_n hx hb dX7_reel_119 rfl (lv_at hl 3 rfl) ?_
    refine lv_iload_n hx hb dX7_reel_120 rfl (lv_at hl 1 rfl) ?_
    refine lv_icmp_ge (tgt := 154) hx hb dX7_reel_121 (by decide) (fun c_1 => ?_) (fun c_1 => ?_)
    · have hkN : k = n.toNatClampNeg := zrow_le2 hn hk hn2 c_1
      subst hkN
      exact kont H locs ls w (lv_sub hl [0, 1, 2] rfl)
    · have hlt : k < n.toNatClampNeg := zrow_lt2 hn hk hn2 c_1
      refine lv_aload_n hx hb dX7_reel_124 rfl (lv_at hl 0 rfl) ?_
      refine zget (ci := 6) (C := RX7) (T := TX7) (N := 11) hx hb hts hown hK w (by decide +kernel) 0 rfl rfl 4 (by decide) (hts (.fieldLink RX7 22 "ReelBarnModel" "whole" "[I") (by decide +kernel)) (fun _ h9 => h9) rfl dX7_reel_125 ?_
      refine lv_bipush (v := 40) hx hb dX7_reel_128 (by decide) ?_
      refine lv_iload_n hx hb dX7_reel_130 rfl (lv_at hl 2 rfl) ?_
      refine lv_imul hx hb dX7_reel_131 ?_
      refine lv_iload_n hx hb dX7_reel_132 rfl (lv_at hl 3 rfl) ?_
      refine lv_iadd hx hb dX7_reel_133 ?_
      refine lv_iconst (v := 0) hx hb dX7_reel_134 (by decide) ?_
      refine zm_iast hx hb hK w 5 rfl (by rw [m40]; exact vp_in_nI (by omega) (by decide)) dX7_reel_135 (fun H locs w => ?_)
      rw [m40, nI_clamp (by omega)] at w
      have w : zW G A s H locs (mW G ad (mRl M U r n (k + 1)) (mZ 0 lev r k)) := by
        have e0 : upd (mZ 0 (M 4) r k) (40 * r + k) 0 = mZ 0 (M 4) r (k + 1) := mZ_s _ _ _
        show zW G A s H locs _
        have w2 := w
        change zW G A s H locs ((mW G ad (mRl M U r n k) (mZ 0 lev r k)).set 5 (ad 5, .inl (G.2 4, 3200, .inl (upd (mZ 0 (M 4) r k) (40 * r + k) 0)))) at w2
        rw [e0] at w2
        exact w2
      refine lv_aload_n hx hb dX7_reel_136 rfl (lv_at hl 0 rfl) ?_
      refine zget (ci := 6) (C := RX7) (T := TX7) (N := 11) hx hb hts hown hK w (by decide +kernel) 0 rfl rfl 5 (by decide) (hts (.fieldLink RX7 25 "ReelBarnModel" "level" "[F") (by decide +kernel)) (fun _ h9 => h9) rfl dX7_reel_137 ?_
      refine lv_bipush (v := 40) hx hb dX7_reel_140 (by decide) ?_
      refine lv_iload_n hx hb dX7_reel_142 rfl (lv_at hl 2 rfl) ?_
      refine lv_imul hx hb dX7_reel_143 ?_
      refine lv_iload_n hx hb dX7_reel_144 rfl (lv_at hl 3 rfl) ?_
      refine lv_iadd hx hb dX7_reel_145 ?_
      refine lv_fconst0 hx hb dX7_reel_146 ?_
      refine zm_fast hx hb hK w 6 rfl (by rw [m40]; exact vp_in_nI (by omega) (by decide)) dX7_reel_147 (fun H locs w => ?_)
      rw [m40, nI_clamp (by omega)] at w
      have w : zW G A s H locs (mW G ad (mRl M U r n (k + 1)) (mZ 0 lev r (k + 1))) := by
        have e0 : vf_upd (mZ 0 lev r k) (40 * r + k) 0 = mZ 0 lev r (k + 1) := mZ_sf _ _ _
        have w2 := w
        change zW G A s H locs ((mW G ad (mRl M U r n (k + 1)) (mZ 0 lev r k)).set 6 (ad 6, .inl (G.2 0, 3200, .inr (.inr (.inl (vf_upd (mZ 0 lev r k) (40 * r + k) 0)))))) at w2
        rw [e0] at w2
        exact w2
      refine lv_iinc (v := ((nI k) + 1)) (lv' := [(3, .int ((nI k) + 1)), (0, .ref (ad 0)), (1, .int n), (2, .int (nI r))]) hx hb dX7_reel_148 hl (k := 3) rfl rfl (by decide) rfl (fun ls hl => ?_)
      refine lv_goto (tgt := 119) hx hb dX7_reel_151 (by decide) ?_
      rw [nI_1] at hl
      exact ih (k + 1) hlt (by omega) _ _ _ w (lv_sub hl [1, 2, 3, 0] rfl)
set_option maxHeartbeats 4000000 in
set_option maxRecDepth 100000 in
theorem kX7_reel (l : Launch) (G : zG) (ad : Nat → Nat) {M : Nat → Nat → Int32} {lev : Nat → UInt32} (hI : mI M lev) (n : Int32) (hn : ¬ n < 0) (hn2 : n.toNatClampNeg ≤ 40) (sz : Nat) : zMi l yX7_reel wsX7_reel { frames := 0, cells := 0, slots := 0, locals := 0 } G [.ref (ad 0), .int n] (mW G ad M lev) sz (fun v u => ∃ (r : Nat) (U : Nat → Int32), mFr M r ∧ v = nI r ∧ u = mW G ad (mRl M U r n n.toNatClampNeg) (mZ 0 lev r n.toNatClampNeg)) 0 0 := by
  refine zIn (Qc := fun A => va_Qi _ (zB G A) A) (cc := cX7_reel) (maxL := 4) (ret := (some .int)) (by decide) rfl (Nat.le_of_ble_eq_true rfl) ?_
  intro p e s m below meth c A ls hx hb hr hlk hml hts hown hnm hK w hl
  have hown : s.vm.findClass RX7 = some m.cls := hown
  have hl : lv_has ls 4 [(0, .ref (ad 0)), (1, .int n)] := hl
  refine lv_iconst (v := 0) hx hb dX7_reel_0 (by decide) ?_
  refine lv_istore_n (lv' := [(2, .int 0), (0, .ref (ad 0)), (1, .int n)]) hx hb dX7_reel_1 rfl hl (by decide) rfl (fun ls hl => ?_)
  refine lpA_reel ad hx hb hts hown hK (fun U H locs ls hU w hl => ?_) 81 0 (by decide) (by decide) (M 6) s.heap [] ls (fun j hj => absurd hj (Nat.not_lt_zero j)) (by have e0 : va_up M 6 (M 6) = M := (by funext q; unfold va_up; split <;> simp_all); rw [e0]; exact w) (lv_sub hl [1, 2, 0] rfl)
  refine lv_iconst (v := 0) hx hb dX7_reel_21 (by decide) ?_
  refine lv_istore_n (lv' := [(2, .int 0), (0, .ref (ad 0)), (1, .int n)]) hx hb dX7_reel_22 rfl hl (by decide) rfl (fun ls hl => ?_)
  refine lpB_reel ad hx hb hts hown hK hI (fun U H locs ls hU w hl => ?_) 17 0 (by decide) (by decide) U H locs ls (mU_0 hU) w (lv_sub hl [1, 2, 0] rfl)
  refine lv_iconst (v := 0) hx hb dX7_reel_57 (by decide) ?_
  refine lv_istore_n (lv' := [(2, .int 0), (0, .ref (ad 0)), (1, .int n)]) hx hb dX7_reel_58 rfl hl (by decide) rfl (fun ls hl => ?_)
  refine lpC_reel ad hx hb hts hown hK hI (fun U H locs ls hU w hl => ?_) 49 0 (by decide) (by decide) U H locs ls hU w (lv_sub hl [1, 2, 0] rfl)
  refine lv_iconst (v := 0) hx hb dX7_reel_93 (by decide) ?_
  refine lv_istore_n (lv' := [(2, .int 0), (0, .ref (ad 0)), (1, .int n)]) hx hb dX7_reel_94 rfl hl (by decide) rfl (fun ls hl => ?_)
  obtain ⟨r0, hr1, hr0⟩ := mU_free hU
  refine lpD_reel ad hx hb hts hown hK hr1 hr0 (fun r H locs ls hr2 hu w hl => ?_) (r0 + 1) 0 (Nat.zero_le _) (by omega) H locs ls w (lv_sub hl [1, 2, 0] rfl)
  refine lv_aload_n hx hb dX7_reel_110 rfl (lv_at hl 0 rfl) ?_
  refine zget (ci := 6) (C := RX7) (T := TX7) (N := 11) hx hb hts hown hK w (by decide +kernel) 0 rfl rfl 3 (by decide) (hts (.fieldLink RX7 19 "ReelBarnModel" "sizes" "[I") (by decide +kernel)) (fun _ h9 => h9) rfl dX7_reel_111 ?_
  refine lv_iload_n hx hb dX7_reel_114 rfl (lv_at hl 2 rfl) ?_
  refine lv_iload_n hx hb dX7_reel_115 rfl (lv_at hl 1 rfl) ?_
  refine zm_iast hx hb hK w 4 rfl (vp_in_nI hr2 (by decide)) dX7_reel_116 (fun H locs w => ?_)
  rw [nI_clamp (by omega)] at w
  have w : zW G A s H locs (mW G ad (mRl M U r n 0) (mZ 0 lev r 0)) := by
    unfold mRl
    rw [mZ_0, mZ_0]
    exact w
  refine lv_iconst (v := 0) hx hb dX7_reel_117 (by decide) ?_
  refine lv_istore_n (lv' := [(3, .int 0), (0, .ref (ad 0)), (1, .int n), (2, .int (nI r))]) hx hb dX7_reel_118 rfl hl (by decide) rfl (fun ls hl => ?_)
  refine lpE_reel ad hx hb hts hown hK hr2 hn hn2 (fun H locs ls w hl => ?_) (n.toNatClampNeg + 1) 0 (Nat.zero_le _) (by omega) H locs ls w (lv_sub hl [1, 2, 3, 0] rfl)
  refine lv_iload_n hx hb dX7_reel_154 rfl (lv_at hl 2 rfl) ?_
  exact zRi hx hb hr hlk w dX7_reel_155 (Nat.le_of_ble_eq_true rfl) (Nat.le_of_ble_eq_true rfl) ⟨r, U, mFr_of hr2 hU hu, rfl, rfl⟩
