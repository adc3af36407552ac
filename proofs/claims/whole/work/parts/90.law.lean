set_option maxHeartbeats 4000000 in
set_option maxRecDepth 100000 in
/-- THE LAW'S LOOP -/
theorem law_loop {p : Program} {l : Launch} {e : Env} {s : State} {m : MethodId} {below : List Frame} {meth : Method} {c : Code} {b L : Nat} {xs : Nat → Int32} {G : zG} {ad : Nat → Nat} {o ac aw ar : Nat} (hL : L ≤ 4096) (C : zLaw p s m c b L xs G) (hr : meth.sig.returnType = ret) (hlocks : meth.locks = false) :
    ∀ (n j : Nat), 8 * j ≤ L → 513 ≤ j + n → ∀ (u : va_W) (M : Nat → Nat → Int32) (lev : Nat → UInt32) (H : Heap) (locs : List Loc) (ls : Array Slot), zLI2 G o ac aw ar u M lev → zW G (zAl s) s H locs (u ++ mW G ad M lev) → lv_has ls 4 [(3, .int (nI (8 * j))), (2, .ref (ad 0)), (1, .ref o), (0, .ref b)] → W p l e room_1 s m #[Value.ref b] below meth c H locs (14 + 26 * j) (6823 + 505 * j) (lw_Z below #[Value.ref b] s) (F0 m 18 ls []) := by
  obtain ⟨hx, hb, hml, hown, hts, hX, hbl, hK⟩ := id C
  have hbA : ¬ zAl s b := Nat.not_le.mpr hbl
  intro n
  induction n with
  | zero =>
    intro j h1 h2
    exact absurd h2 (by omega)
  | succ n ih =>
    intro j hj hjn u M lev H locs ls hz w hl
    obtain ⟨x3, e3⟩ : ∃ x : Int32, x = nI (8 * j) := ⟨_, rfl⟩
    rw [← e3] at hl
    refine lv_iload_n hx hb dL_law_18 rfl (lv_at hl 0 rfl) ?_
    refine lv_aload_n hx hb dL_law_19 rfl (lv_at hl 3 rfl) ?_
    refine va_slen hx hb hX hbl hbA w.2.2.1 dL_law_20 ?_
    refine lv_bipush (v := 8) hx hb dL_law_21 (by decide) ?_
    refine lv_isub hx hb dL_law_23 ?_
    refine lv_icmp_gt (tgt := 983) hx hb dL_law_24 (by decide) (fun c_1 => ?_) (fun c_1 => ?_)
    · refine lv_iconst (v := 1) hx hb dL_law_983 (by decide) ?_
      refine va_forget (fun q hq => w.2.2.1.2.2 q hq) ?_
      refine W.widen (k := 600000) (n := 7302250) (by omega) (by omega) ?_
      exact lw_ret hx hb hr hlocks dL_law_984
    · have h8 : 8 * j + 8 ≤ L := zl8 hL hj (by rw [← e3]; exact c_1)
      have hv : ∀ k : Nat, k < 8 → vp_in (x3 + nI k) L := fun k hk => by rw [e3, nI_add]; exact vp_in_nI (by omega) (by omega)
      have hv0 : vp_in x3 L := by rw [e3]; exact vp_in_nI (by omega) (by omega)
      have hc1 : 14 + 26 * j + 26 ≤ 600000 := by omega
      have hs1 : 6823 + 505 * j + 505 ≤ 7302250 := by omega
      have fin : ∀ (u : va_W) (M : Nat → Nat → Int32) (lev : Nat → UInt32) (H : Heap) (locs : List Loc), zLI2 G o ac aw ar u M lev → zW G (zAl s) s H locs (u ++ mW G ad M lev) → W p l e room_1 s m #[Value.ref b] below meth c H locs (14 + 26 * j + 26) (6823 + 505 * j + 505) (lw_Z below #[Value.ref b] s) (F0 m 977 ls []) := by
        intro u M lev H locs hz w
        refine lv_iinc (v := x3 + 8) (lv' := [(3, .int (x3 + 8)), (2, .ref (ad 0)), (1, .ref o), (0, .ref b)]) hx hb dL_law_977 hl (k := 0) rfl rfl (by decide) rfl (fun ls hl => ?_)
        refine lv_goto (tgt := 18) hx hb dL_law_980 (by decide) ?_
        refine W.widen (k := 14 + 26 * (j + 1)) (n := 6823 + 505 * (j + 1)) (by omega) (by omega) ?_
        refine ih (j + 1) (by omega) (by omega) u M lev H locs ls hz w ?_
        have e8 : x3 + 8 = nI (8 * (j + 1)) := by
          rw [e3, show (8 : Int32) = nI 8 from rfl, nI_add]
          rfl
        rw [← e8]
        exact hl
      refine lv_aload_n hx hb dL_law_27 rfl (lv_at hl 3 rfl) ?_
      refine lv_iload_n hx hb dL_law_28 rfl (lv_at hl 0 rfl) ?_
      refine va_sld hx hb hX hbl hbA w.2.2.1 hv0 dL_law_29 ?_
      refine lv_bipush (v := 31) hx hb dL_law_30 (by decide) ?_
      refine lv_iand hx hb dL_law_32 ?_
      refine lv_topi (fun y _ => ?_)
      rcases Decidable.em (y = 0) with t0 | t0
      · refine lv_tableIn (tgt := 120) hx hb dL_law_33 (by rw [t0]; decide) (by rw [t0]; decide) (by rw [t0]; rfl) (by decide) ?_
        exact law_mount C hv hl hc1 hs1 hz w fin
      rcases Decidable.em (y = 1) with t1 | t1
      · refine lv_tableIn (tgt := 164) hx hb dL_law_33 (by rw [t1]; decide) (by rw [t1]; decide) (by rw [t1]; rfl) (by decide) ?_
        exact law_eject C hv hl hc1 hs1 hz w fin
      rcases Decidable.em (y = 2) with t2 | t2
      · refine lv_tableIn (tgt := 198) hx hb dL_law_33 (by rw [t2]; decide) (by rw [t2]; decide) (by rw [t2]; rfl) (by decide) ?_
        exact law_share C hv hl hc1 hs1 hz w fin
      rcases Decidable.em (y = 3) with t3 | t3
      · refine lv_tableIn (tgt := 242) hx hb dL_law_33 (by rw [t3]; decide) (by rw [t3]; decide) (by rw [t3]; rfl) (by decide) ?_
        exact law_size C hv hl hc1 hs1 hz w fin
      rcases Decidable.em (y = 4) with t4 | t4
      · refine lv_tableIn (tgt := 276) hx hb dL_law_33 (by rw [t4]; decide) (by rw [t4]; decide) (by rw [t4]; rfl) (by decide) ?_
        exact law_read C hv hl hc1 hs1 hz w fin
      rcases Decidable.em (y = 5) with t5 | t5
      · refine lv_tableIn (tgt := 320) hx hb dL_law_33 (by rw [t5]; decide) (by rw [t5]; decide) (by rw [t5]; rfl) (by decide) ?_
        exact law_write C hv hl hc1 hs1 hz w fin
      rcases Decidable.em (y = 6) with t6 | t6
      · refine lv_tableIn (tgt := 374) hx hb dL_law_33 (by rw [t6]; decide) (by rw [t6]; decide) (by rw [t6]; rfl) (by decide) ?_
        exact law_nudge C hv hl hc1 hs1 hz w fin
      rcases Decidable.em (y = 7) with t7 | t7
      · refine lv_tableIn (tgt := 438) hx hb dL_law_33 (by rw [t7]; decide) (by rw [t7]; decide) (by rw [t7]; rfl) (by decide) ?_
        exact law_tick C hv hl hc1 hs1 hz w fin
      rcases Decidable.em (y = 8) with t8 | t8
      · refine lv_tableIn (tgt := 508) hx hb dL_law_33 (by rw [t8]; decide) (by rw [t8]; decide) (by rw [t8]; rfl) (by decide) ?_
        exact law_blend C hv hl hc1 hs1 hz w fin
      rcases Decidable.em (y = 9) with t9 | t9
      · refine lv_tableIn (tgt := 612) hx hb dL_law_33 (by rw [t9]; decide) (by rw [t9]; decide) (by rw [t9]; rfl) (by decide) ?_
        exact law_hang C hv hl hc1 hs1 hz w fin
      rcases Decidable.em (y = 10) with t10 | t10
      · refine lv_tableIn (tgt := 656) hx hb dL_law_33 (by rw [t10]; decide) (by rw [t10]; decide) (by rw [t10]; rfl) (by decide) ?_
        exact law_pin C hv hl hc1 hs1 hz w fin
      rcases Decidable.em (y = 11) with t11 | t11
      · refine lv_tableIn (tgt := 700) hx hb dL_law_33 (by rw [t11]; decide) (by rw [t11]; decide) (by rw [t11]; rfl) (by decide) ?_
        exact law_peel C hv hl hc1 hs1 hz w fin
      rcases Decidable.em (y = 12) with t12 | t12
      · refine lv_tableIn (tgt := 744) hx hb dL_law_33 (by rw [t12]; decide) (by rw [t12]; decide) (by rw [t12]; rfl) (by decide) ?_
        exact law_spot C hv hl hc1 hs1 hz w fin
      rcases Decidable.em (y = 13) with t13 | t13
      · refine lv_tableIn (tgt := 788) hx hb dL_law_33 (by rw [t13]; decide) (by rw [t13]; decide) (by rw [t13]; rfl) (by decide) ?_
        exact law_paint C hv hl hc1 hs1 hz w fin
      rcases Decidable.em (y = 14) with t14 | t14
      · refine lv_tableIn (tgt := 842) hx hb dL_law_33 (by rw [t14]; decide) (by rw [t14]; decide) (by rw [t14]; rfl) (by decide) ?_
        exact law_span C hv hl hc1 hs1 hz w fin
      rcases Decidable.em (y = 15) with t15 | t15
      · refine lv_tableIn (tgt := 876) hx hb dL_law_33 (by rw [t15]; decide) (by rw [t15]; decide) (by rw [t15]; rfl) (by decide) ?_
        exact law_chart C hv hl hc1 hs1 hz w fin
      rcases Decidable.em (y = 16) with t16 | t16
      · refine lv_tableIn (tgt := 910) hx hb dL_law_33 (by rw [t16]; decide) (by rw [t16]; decide) (by rw [t16]; rfl) (by decide) ?_
        exact law_note C hv hl hc1 hs1 hz w fin
      rcases Decidable.em (y = 17) with t17 | t17
      · refine lv_tableIn (tgt := 954) hx hb dL_law_33 (by rw [t17]; decide) (by rw [t17]; decide) (by rw [t17]; rfl) (by decide) ?_
        exact law_tally C hv hl hc1 hs1 hz w fin
      refine lv_tableOut (tgt := 977) hx hb dL_law_33 (by have q0 := lv_neT (k := 0) (a := 0) t0 rfl; have q1 := lv_neT (k := 1) (a := 1) t1 rfl; have q2 := lv_neT (k := 2) (a := 2) t2 rfl; have q3 := lv_neT (k := 3) (a := 3) t3 rfl; have q4 := lv_neT (k := 4) (a := 4) t4 rfl; have q5 := lv_neT (k := 5) (a := 5) t5 rfl; have q6 := lv_neT (k := 6) (a := 6) t6 rfl; have q7 := lv_neT (k := 7) (a := 7) t7 rfl; have q8 := lv_neT (k := 8) (a := 8) t8 rfl; have q9 := lv_neT (k := 9) (a := 9) t9 rfl; have q10 := lv_neT (k := 10) (a := 10) t10 rfl; have q11 := lv_neT (k := 11) (a := 11) t11 rfl; have q12 := lv_neT (k := 12) (a := 12) t12 rfl; have q13 := lv_neT (k := 13) (a := 13) t13 rfl; have q14 := lv_neT (k := 14) (a := 14) t14 rfl; have q15 := lv_neT (k := 15) (a := 15) t15 rfl; have q16 := lv_neT (k := 16) (a := 16) t16 rfl; have q17 := lv_neT (k := 17) (a := 17) t17 rfl; omega) (by decide) ?_
      exact W.widen (by omega) (by omega) (fin u M lev H locs hz w)
set_option maxHeartbeats 4000000 in
set_option maxRecDepth 100000 in
/-- THE LAW, from its entry -/
theorem whole_start {p : Program} {e : Env} {s : State} {m : MethodId} {below : List Frame} {meth : Method} {c : Code} (l : Launch) {b L : Nat} {xs : Nat → Int32} (hL : L ≤ 4096) (C0 : lw_At p s m meth c b L xs) : W p l e room_1 s m #[Value.ref b] below meth c s.heap [] 0 0 (lw_Z below #[Value.ref b] s) (entryFrame m ([Value.ref b] : List Value).toArray 4) := by
  obtain ⟨hx, hb, hr, hml, hown, hta, hX, hbl, hlocks, hgv⟩ := id C0
  have hb : c.code = cL_law := hb
  have hown : s.vm.findClass RL = some m.cls := hown
  have hts : ∀ w ∈ wsL_law, w.before #[Value.ref b] s = true := fun w h => hta w (wsL_law_in w h)
  obtain ⟨G, hK⟩ := zK_start hta
  have C : zLaw p s m c b L xs G := ⟨hx, hb, hml, hown, hts, hX, hbl, hK⟩
  have w : zW G (zAl s) s s.heap [] (va_pl [] (fun _ => .inr (5, []))) := ⟨fun k q h => by simp [va_pl] at h, ⟨fun i j x y h => by simp [va_pl] at h, fun k q h => by simp [va_pl] at h⟩, va_S.rf, fun _ h => h⟩
  have hl := lv_entry ([.ref b]) (n := 4) (Nat.le_of_ble_eq_true rfl)
  rw [lg_entry_eq]
  generalize (lg_sl ([.ref b]) ++ List.replicate (4 - (lg_sl ([.ref b])).length) Slot.unset).toArray = ls at hl ⊢
  have hl : lv_has ls 4 [(0, .ref b)] := hl
  refine px_new (ci := 5) (fs := [.null, .null, .null, .null]) (C := RX6) (T := TX6) (N := 4) hx hb hta hown hK w inX6 tyX6 tyX6_ok (hta (.classLink RL 7 RX6) (by decide +kernel)) (hta (.instantiable RX6 4) (by decide +kernel)) (hta (.initialized RX6) (by decide +kernel)) rfl (fun j hj => by rcases (show j = 0 ∨ j = 1 ∨ j = 2 ∨ j = 3 by omega) with rfl | rfl | rfl | rfl <;> rfl) (Nat.le_of_ble_eq_true rfl) (Nat.le_of_ble_eq_true rfl) dL_law_0 (fun o H _ w => ?_)
  refine W.widen (k := 1) (n := 4) (by omega) (by omega) ?_
  refine lv_dup hx hb dL_law_3 rfl ?_
  refine zCv w (va_runI (As := []) (rest := [.ref o]) ⟨hx, hb, hml, hown, hts⟩ (kX6_init l G (f := va_up (fun _ => .inr (5, [])) o (.inr (5, [.null, .null, .null, .null]))) (o := o) (by unfold va_up; rw [if_pos rfl]) H.size) (cwI 0 hts gL_law_X6_init rfl rfl rfl (hta (.initialized RX6) (by decide +kernel)) (hta (.methodLink RL 9 yX6_init) (by decide +kernel)) (hta (.instanceMethod yX6_init) (by decide +kernel)) rfl (by decide +kernel) ⟨(Nat.le_of_ble_eq_true rfl), (Nat.le_of_ble_eq_true rfl)⟩) (zPS w hK) rfl rfl hl.1 rfl (lv_room (Nat.le_of_ble_eq_true rfl)) dL_law_4 ⟨(Nat.le_of_ble_eq_true rfl), (Nat.le_of_ble_eq_true rfl)⟩) (fun u H locs hq w => ?_)
  obtain ⟨ac, aw, ar, f2, rfl, hB⟩ := hq
  refine W.widen (k := 4) (n := 32) (by omega) (by omega) ?_
  refine lv_astore_n (lv' := [(1, .ref o), (0, .ref b)]) hx hb dL_law_7 rfl hl (by decide) rfl (fun ls hl => ?_)
  refine va_new (ci := 6) (fs := [.null, .null, .null, .null, .null, .null, .null, .int 0, .int 0, .null, .null]) (C := RX7) (T := TX7) (N := 11) hx hb hta inX7 tyX7 tyX7_ok hown (hta (.classLink RL 10 RX7) (by decide +kernel)) (hta (.instantiable RX7 11) (by decide +kernel)) (hta (.initialized RX7) (by decide +kernel)) hK.1 w.1 w.2.1 w.2.2.1 w.2.2.2 rfl (fun j hj => by rcases (show j = 0 ∨ j = 1 ∨ j = 2 ∨ j = 3 ∨ j = 4 ∨ j = 5 ∨ j = 6 ∨ j = 7 ∨ j = 8 ∨ j = 9 ∨ j = 10 by omega) with rfl | rfl | rfl | rfl | rfl | rfl | rfl | rfl | rfl | rfl | rfl <;> rfl) (Nat.le_of_ble_eq_true rfl) (Nat.le_of_ble_eq_true rfl) dL_law_8 (fun q H hP hD hS => ?_)
  have w : zW G (zAl s) s H locs (va_pl [o, ac, aw, ar] f2 ++ [(q, .inr (6, [.null, .null, .null, .null, .null, .null, .null, .int 0, .int 0, .null, .null]))]) := ⟨hP, hD, hS, w.2.2.2⟩
  have w := zWs w
  refine W.widen (k := 5) (n := 43) (by omega) (by omega) ?_
  refine lv_dup hx hb dL_law_11 rfl ?_
  refine zXv w (va_runI (As := []) (rest := [.ref q]) ⟨hx, hb, hml, hown, hts⟩ (kX7_init l G q H.size) (cwI 0 hts gL_law_X7_init rfl rfl rfl (hta (.initialized RX7) (by decide +kernel)) (hta (.methodLink RL 12 yX7_init) (by decide +kernel)) (hta (.instanceMethod yX7_init) (by decide +kernel)) rfl (by decide +kernel) ⟨(Nat.le_of_ble_eq_true rfl), (Nat.le_of_ble_eq_true rfl)⟩) (zPS (zWl w) hK) rfl rfl hl.1 rfl (lv_room (Nat.le_of_ble_eq_true rfl)) dL_law_12 ⟨(Nat.le_of_ble_eq_true rfl), (Nat.le_of_ble_eq_true rfl)⟩) (fun u H locs hq w => ?_)
  obtain ⟨ad, C1, C2, C3, e0, h1, h2, h3, rfl⟩ := hq
  have w9 := zWs w
  subst e0
  refine W.widen (k := 14) (n := 6823) (by omega) (by omega) ?_
  refine lv_astore_n (lv' := [(2, .ref (ad 0)), (1, .ref o), (0, .ref b)]) hx hb dL_law_15 rfl hl (by decide) rfl (fun ls hl => ?_)
  refine lv_iconst (v := 0) hx hb dL_law_16 (by decide) ?_
  refine lv_istore_n (lv' := [(3, .int 0), (2, .ref (ad 0)), (1, .ref o), (0, .ref b)]) hx hb dL_law_17 rfl hl (by decide) rfl (fun ls hl => ?_)
  exact law_loop hL C hr hlocks 513 0 (Nat.zero_le L) (by omega) _ _ _ _ _ ls (zStart hB h1 h2 h3) w9 hl
set_option maxHeartbeats 4000000 in
theorem lw_walk (l : Launch) (b : Addr) (xs : List Int32) : MetFree l x (headSpec (Jvm.Cond.code x code maxLocals ret :: tables_1) room_1) (lw_P b xs) (fun _ _ _ _ _ => True) lw_Q := by
  refine MetFree.of_bodyS (code := code) (maxLocals := maxLocals) (ret := ret) (by decide) ?_ ?_
  · intro args s m h hn
    obtain ⟨meth, c, h1, h2, h3, h4, h5, h6, -, -⟩ := Cond.code_spec hn (atoms_spec (ws := Jvm.Cond.code x code maxLocals ret :: tables_1) h _ List.mem_cons_self)
    exact ⟨meth, c, h1, h2, h3, h4, h5, h6⟩
  · intro p e s m args below meth c s₁ B hml0 hP _
    obtain ⟨rfl, hx, hbd, hgv⟩ := hP
    obtain ⟨scr, harrAt, hlist, hof, hsmall⟩ := hx
    obtain ⟨hcb, hkn, -, -⟩ := State.arrayAt?_spec harrAt
    have hown : s.vm.findClass R_law = some m.cls := findClass_of_methodNamed B.named
    have hts0 : ∀ c ∈ (Jvm.Cond.code x code maxLocals ret :: tables_1), c.before #[Value.ref b] s = true := atoms_spec (ws := Jvm.Cond.code x code maxLocals ret :: tables_1) B.pre
    have hts : ∀ w ∈ lw_tbl, w.before #[Value.ref b] s = true := k2_hts_sels lw_privs (fun w hw => hts0 w (List.mem_cons_of_mem _ hw)) lw_privs_ok
    have hml : c.maxLocals = 4 := B.maxLocals_eq (hts0 _ List.mem_cons_self)
    have X₀ : Stand p l e room_1 s m #[Value.ref b] below meth c s₁ [] 0 0 := Stand.of_body B
    have hh0 : s₁.heap = s.heap := by rw [B.state]; rfl
    have hsz : scr.slots.size = xs.length := by rw [← Array.length_toList, hlist, List.length_map]
    have hval : ∀ j : Nat, j < xs.length → scr.slots[j]? = some (.int (xs.getD j 0)) := fun j hj => by
      rw [← Array.getElem?_toList, hlist]
      simp [hj]
    have hbl : b < s.heap.size := (Array.getElem?_eq_some_iff.mp hcb).1
    have hX : va_X b xs.length (fun j => xs.getD j 0) s s.heap := ⟨scr, hcb, hof, hkn, hsz, hval⟩
    have K : W p l e room_1 s m #[Value.ref b] below meth c s₁.heap [] 0 0 (lw_Z below #[Value.ref b] s) (entryFrame m ([Value.ref b] : List Value).toArray 4) := by
      rw [hh0]
      exact whole_start l hbd ⟨B.exec, B.bytes, B.returns, hml, hown, hts, hX, hbl, B.notSynchronized, hgv⟩
    obtain ⟨t, a1, o, b1, b2, b3⟩ := K s₁ rfl X₀
    exact ⟨t, o, a1, b1, b2, b3⟩
theorem lw_pre_spec {args : Array Value} {s : State} (h : (Jvm.Cond.and given_1 narrow_1).before args s = true) (hr : rest_1_c.before args s = true) : ∃ (b : Addr) (xs : List Int32), lw_P b xs args s := by
  have hs := flat_of_before _ h
  have hq := flat_of_before _ hr
  have hc : (Cond.count 1).before args s = true := hs _ (by decide +kernel)
  have harr : (Cond.arrayOf (.arg 0) .int).before args s = true := hs _ (by decide +kernel)
  have hle : (Cond.le (.length (.arg 0)) (.int 4096)).before args s = true := hs _ (by decide +kernel)
  have hlen : (Cond.isInt (.length (.arg 0))).before args s = true := hq _ (by decide +kernel)
  have hall : (Cond.all (.arg 0) (.isInt (.elem (.arg 0) (.index 0)))).before args s = true := hq _ (by decide +kernel)
  obtain ⟨b, xs, hb, hx⟩ := State.ints_of_pre rfl harr hlen hall
  have hsm : xs.length < 2 ^ 31 := hx.choose_spec.2.2.2
  have hev : (Term.length (.arg 0)).eval args s none [] s = some (.int xs.length.toInt32) := hx.length_eval hb
  have hv := Cond.le_ints hev (show (Term.int 4096).eval args s none [] s = some (.int 4096) from rfl)
  have hd : xs.length.toInt32 ≤ 4096 := by
    simpa [Cond.before, Cond.holds, hv] using hle
  have hN : xs.length ≤ 4096 := (Int32.ofNat_le_ofNat hsm (by decide)).mp (show Int32.ofNat xs.length ≤ Int32.ofNat 4096 from hd)
  exact ⟨b, xs, Cond.one_arg hc (show args[0]? = some (.ref b) from hb), hx, hN, h⟩
theorem lw_comes (l : Launch) : Comes l x (Jvm.Cond.code x code maxLocals ret :: tables_1) room_1 (fun tb e args s => Calls_1 tb e args s ∧ rest_1 tb e args s ∧ Pre_1 tb e args s)
    (fun _ _ args s o t => lw_Q args s o t) := by
  intro p e ha hc hk s m args below hf hfit hheap happ hpre
  obtain ⟨b, xs, hP⟩ := lw_pre_spec hpre.2.2 hpre.2.1
  obtain ⟨k, o, h1, h2, h3, hQ⟩ := lw_walk l b xs p e ha hc hk s m args below hf ((Spec.applies_iff_loose hf).mp happ).1 hP trivial
  exact ⟨k, o, h1, h2, h3, hQ⟩
theorem lw_frame {s t : State} {o : Outcome} {args : Array Value} (h : Framed s o t [] 600000 7302250) :
    Framed s o t (fieldLocs frame_1_writes args s ++ arrayLocs frame_1_arrays args s ++ staticLocs frame_1_statics s) 600000 7302250 := h
theorem lw_limb (L : Cond) (hL : ∀ (args : Array Value) (s t : State), L.after args s (.returned (some (.int 1))) t = true) :
    ArmFor flags0 classFile x code maxLocals ret World_1 tables_1 room_1 Calls_1 rest_1 Pre_1
      (fun tb e a s o t => postC L tb e a s o t ∧ Framed s o t (fieldLocs frame_1_writes a s ++ arrayLocs frame_1_arrays a s ++ staticLocs frame_1_statics s) 600000 7302250) := by
  intro l _ _ _ p e ha hc hk s m args below hf hfit hheap happ hpre
  obtain ⟨k, o, h1, h2, h3, rfl, hF⟩ := lw_comes l p e ha hc hk s m args below hf hfit hheap happ hpre
  exact ⟨k, _, h1, h2, h3, hL args s _, lw_frame hF⟩
theorem i_vc : Claimed_1_1 ∧ Claimed_1_2 := ⟨lw_limb limb_1_1 (fun args s t => by simp [limb_1_1, Cond.after, Cond.holds, Cond.value]), lw_limb limb_1_2 (fun args s t => Cond.after_iff.mpr (by
  first | (rw [show limb_1_2 = Cond.eq .result (.int 1) from rfl, Cond.eq_ints (x := 1) (y := 1) rfl rfl]; simp; done) | (simp [limb_1_2, Cond.value, Term.eval]; done)))⟩
