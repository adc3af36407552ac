/-! ===== the words of the tables, at the law's entry ===== -/
theorem zArP {s : State} {args : Array Value} {ty : FieldType} (h : (Cond.arrayClass ty).before args s = true) : ∃ c : ClassId, ArrOfT s c ty ∧ s.vm.findClass ("[" ++ ty.toString) = some c := by
  obtain ⟨c, k, comp, h1, h2, h3⟩ := Cond.arrayClass_spec h
  exact ⟨c, fun n z => ⟨fun k h => (by cases h), k, h2, comp, h3⟩, h1⟩
theorem zArrO {s : State} {C : String} (h : va_AO C s) : ∃ c : ClassId, ArrOfT s c (.object C) ∧ va_RA s c (.object C) := by
  obtain ⟨comp, c, k, h1, h2, h3, h4, h5⟩ := Cond.arrayOver_spec h
  exact ⟨c, fun n z => ⟨fun k h => (by cases h), k, h3, comp, h4⟩, k, comp, h3, h4, h1, h5⟩
theorem zArrA {s : State} (h : zOA s) : ∃ c : ClassId, ArrOfT s c (.array .int) ∧ s.vm.findClass ("[" ++ (FieldType.array .int).toString) = some c := by
  obtain ⟨comp, c, k, h1, h2, h3, h4⟩ := Cond.arrayOver_specA h
  exact ⟨c, fun n z => ⟨fun k h => (by cases h), k, h2, comp, h3⟩, h4⟩
def zS7 {α : Type} (a0 a1 a2 a3 a4 a5 a6 : α) : Nat → α := fun k => match k with
  | 0 => a0
  | 1 => a1
  | 2 => a2
  | 3 => a3
  | 4 => a4
  | 5 => a5
  | _ => a6
def zS8 {α : Type} (a0 a1 a2 a3 a4 a5 a6 a7 : α) : Nat → α := fun k => match k with
  | 0 => a0
  | 1 => a1
  | 2 => a2
  | 3 => a3
  | 4 => a4
  | 5 => a5
  | 6 => a6
  | _ => a7
set_option maxHeartbeats 4000000 in
set_option maxRecDepth 100000 in
theorem zK_start {b : Nat} {s : State} (hts : ∀ w ∈ lw_tbl, w.before #[Value.ref b] s = true) : ∃ G : zG, zK G s := by
  obtain ⟨c0, i0, k0⟩ := u_known (C := RX0) (T := TX0) (N := 1) (n := 1) hts inX0 (hts (.instantiable RX0 1) (by decide +kernel))
  obtain ⟨c1, i1, k1⟩ := u_known (C := RX1) (T := TX1) (N := 1) (n := 1) hts inX1 (hts (.instantiable RX1 1) (by decide +kernel))
  obtain ⟨c2, i2, k2⟩ := u_known (C := RX2) (T := TX2) (N := 1) (n := 1) hts inX2 (hts (.instantiable RX2 1) (by decide +kernel))
  obtain ⟨c3, i3, k3⟩ := u_known (C := RX4) (T := TX4) (N := 1) (n := 1) hts inX4 (hts (.instantiable RX4 1) (by decide +kernel))
  obtain ⟨c4, i4, k4⟩ := u_known (C := RX5) (T := TX5) (N := 1) (n := 1) hts inX5 (hts (.instantiable RX5 1) (by decide +kernel))
  obtain ⟨c5, i5, k5⟩ := u_known (C := RX6) (T := TX6) (N := 4) (n := 4) hts inX6 (hts (.instantiable RX6 4) (by decide +kernel))
  obtain ⟨c6, i6, k6⟩ := u_known (C := RX7) (T := TX7) (N := 11) (n := 11) hts inX7 (hts (.instantiable RX7 11) (by decide +kernel))
  obtain ⟨y0, a0, n0⟩ := zArP (hts (.arrayClass .float) (by decide +kernel))
  obtain ⟨y1, a1, n1⟩ := zArP (hts (.arrayClass .boolean) (by decide +kernel))
  obtain ⟨y2, a2, n2⟩ := zArP (hts (.arrayClass .char) (by decide +kernel))
  obtain ⟨y3, a3, n3⟩ := zArP (hts (.arrayClass .short) (by decide +kernel))
  obtain ⟨y4, a4, n4⟩ := zArP (hts (.arrayClass .int) (by decide +kernel))
  have o5 : va_AO RX3 s := va_AO.of (hts (.arrayOver (.object RX3)) (by decide +kernel))
  have o6 : va_AO RX4 s := va_AO.of (hts (.arrayOver (.object RX4)) (by decide +kernel))
  have o7 : zOA s := hts (.arrayOver (.array .int)) (by decide +kernel)
  obtain ⟨y5, a5, n5⟩ := zArrO o5
  obtain ⟨y6, a6, n6⟩ := zArrO o6
  obtain ⟨y7, a7, n7⟩ := zArrA o7
  refine ⟨((zS7 c0 c1 c2 c3 c4 c5 c6, zS7 i0 i1 i2 i3 i4 i5 i6), zS8 y0 y1 y2 y3 y4 y5 y6 y7), ⟨?_, ?_⟩, ⟨?_, ?_, ?_⟩, ⟨?_, ?_, ?_, ?_⟩, ⟨?_, ?_, ?_, ?_⟩, o5, o6, o7⟩
  · intro k q hq
    match k, hq with
    | 0, hq => cases hq; exact k0
    | 1, hq => cases hq; exact k1
    | 2, hq => cases hq; exact k2
    | 3, hq => cases hq; exact k3
    | 4, hq => cases hq; exact k4
    | 5, hq => cases hq; exact k5
    | 6, hq => cases hq; exact k6
    | k + 7, hq => simp [vwCl] at hq
  · intro k q hq
    match k, hq with
    | 0, hq => cases hq; exact ⟨a0, n0⟩
    | 1, hq => cases hq; exact ⟨a1, n1⟩
    | 2, hq => cases hq; exact ⟨a2, n2⟩
    | 3, hq => cases hq; exact ⟨a3, n3⟩
    | 4, hq => cases hq; exact ⟨a4, n4⟩
    | 5, hq => cases hq; exact ⟨a5, n5⟩
    | 6, hq => cases hq; exact ⟨a6, n6⟩
    | 7, hq => cases hq; exact ⟨a7, n7⟩
    | k + 8, hq => simp [zT] at hq
  · exact va_Nw.of rfl (hts (.declares ⟨"ReelBarn$Reel", "places", "()I"⟩) (by decide +kernel))
  · exact va_Nw.of rfl (hts (.declares ⟨"ReelBarn$Reel", "told", "(I)I"⟩) (by decide +kernel))
  · exact va_Nw.of rfl (hts (.declares ⟨"ReelBarn$Reel", "put", "(II)V"⟩) (by decide +kernel))
  · exact va_Nw.of rfl (hts (.methodLinkNest RX0 3 yX3_init RX6) (by decide +kernel))
  · exact va_Nw.of rfl (hts (.methodLinkNest RX1 1 yX3_init RX6) (by decide +kernel))
  · exact va_Nw.of rfl (hts (.methodLinkNest RX2 1 yX3_init RX6) (by decide +kernel))
  · exact va_Nw.of rfl (hts (.methodLinkNest RX5 1 yX3_init RX6) (by decide +kernel))
  · exact va_Nw.of rfl (hts (.castable RX0 RX3) (by decide +kernel))
  · exact va_Nw.of rfl (hts (.castable RX1 RX3) (by decide +kernel))
  · exact va_Nw.of rfl (hts (.castable RX2 RX3) (by decide +kernel))
  · exact va_Nw.of rfl (hts (.castable RX5 RX3) (by decide +kernel))
/-! ===== two fresh things are alike ===== -/
theorem zStart {G : zG} {o ac aw ar : Nat} {f : Nat → va_E} {C1 C2 C3 : Nat → Int32} (h : zBn G [o, ac, aw, ar] f o ac aw ar none (fun _ => none) (fun _ => none) (fun _ => 0)) (h1 : ∀ j, j < 16 → C1 j = -1) (h2 : ∀ j, j < 48 → C2 j = -1) (h3 : ∀ j, j < 4 → C3 j = -1) : zLI2 G o ac aw ar (va_pl [o, ac, aw, ar] f) (va_up (va_up (va_up mM0 0 C1) 2 C2) 1 C3) (fun _ => 0) := by
  have key : ∀ x c b, x ∈ [o, ac, aw, ar] → ¬ f x = .inr (c, [.ref b]) := by
    intro x c b hx e
    obtain ⟨-, e1, e2, e3, e4⟩ := h
    simp only [List.mem_cons, List.not_mem_nil, or_false] at hx
    rcases hx with q | q | q | q
    · rw [q, e1] at e; simp at e
    · rw [q, e2] at e; cases e
    · rw [q, e3] at e; cases e
    · rw [q, e4] at e; cases e
  have nrc : ∀ s a, ¬ zRc f (fun _ => none) (fun _ => none) s a := by
    rintro s a (⟨k, -, -, e⟩ | ⟨w, j, e, -⟩)
    · cases e
    · cases e
  refine ⟨[o, ac, aw, ar], f, none, 0, _, _, _, fun _ => 0, rfl, ⟨h, fun k _ a e => (by cases e), fun s _ a e => (by cases e), fun q e => (by cases e), ⟨fun x c b hx e => absurd e (key x c b hx), fun x y c e b hx _ e1 _ => absurd e1 (key x c b hx)⟩, fun x c b hx e => absurd e (key x c b hx), fun s s2 a _ _ e => (by cases e), fun q e => (by cases e)⟩, fun k hk => h1 k hk, fun s hs => h3 s hs, fun s j hs hj => h2 _ (by omega), fun s a _ q => absurd q (nrc s a), fun s a s2 a2 _ _ q => absurd q (nrc s a), ⟨rfl, fun q e => (by cases e)⟩, fun k _ => rfl, fun k hk => Or.inl (h1 k hk), fun k hk => Or.inl (h2 k hk), fun s hs => Or.inl (h3 s hs), fun r _ => ⟨0, by omega, rfl⟩, fun j _ => zfin0, Or.inl rfl, 0, by omega, rfl⟩
theorem zl8 {L i : Nat} (hL : L ≤ 4096) (hi : i ≤ L) (h : ¬ (Int32.ofNat L - 8 < nI i)) : i + 8 ≤ L := by
  rcases Nat.lt_or_ge L (i + 8) with q | q
  · refine absurd ?_ h
    have e1 : (Int32.ofNat L).toInt = (L : Int) := nI_toInt (by omega)
    have e2 : (Int32.ofNat L - 8).toInt = (L : Int) - 8 := by
      rw [Int32.toInt_sub, e1, show (8 : Int32).toInt = 8 from rfl]
      exact Int.bmod_eq_of_le (by omega) (by omega)
    rw [Int32.lt_iff_toInt_lt, e2, nI_toInt (by omega)]
    omega
  · exact q
