section ZU5
variable {G : zG} {o ac aw ar : Nat} {L L2 : List Nat} {f F : Nat → va_E} {ch : Option Nat} {m0 : Nat} {car wa : Nat → Option Nat} {ta : Nat → Int32} {φ : Nat → Nat} {M N : Nat → Nat → Int32} {lev ln : Nat → UInt32}
/-- which number a reel of the new wall has -/
noncomputable def zPh (φ : Nat → Nat) (L : List Nat) (F : Nat → va_E) (w rows s : Nat) (N : Nat → Nat → Int32) : Nat → Nat := fun x =>
  if h : ∃ j, j < rows ∧ vQ F w j = some x ∧ x ∉ L then (N 2 (12 * s + Classical.choose h)).toNatClampNeg else φ x
theorem zPh_old {w rows s x : Nat} (hx : x ∈ L) : zPh φ L F w rows s N x = φ x := by
  unfold zPh
  rw [dif_neg]
  rintro ⟨j, -, -, h⟩
  exact h hx
theorem zPh_new {w rows s x j : Nat} (hj : j < rows) (e : vQ F w j = some x) (hx : x ∉ L) (hinj : ∀ i j, i < rows → j < rows → vQ F w i = vQ F w j → i = j) : zPh φ L F w rows s N x = (N 2 (12 * s + j)).toNatClampNeg := by
  have h : ∃ j, j < rows ∧ vQ F w j = some x ∧ x ∉ L := ⟨j, hj, e, hx⟩
  unfold zPh
  rw [dif_pos h]
  obtain ⟨h1, h2, -⟩ := Classical.choose_spec h
  rw [hinj _ j h1 hj (by rw [h2, e])]
theorem mq_old {w rows s : Nat} {q : Option Nat} (h : ∀ x, q = some x → x ∈ L) : mq (zPh φ L F w rows s N) q = mq φ q := by
  cases q with
  | none => rfl
  | some x => show nI _ = nI _; rw [zPh_old (h x rfl)]
/-- hang -/
theorem zU_hang {s0 w : Nat} {rows cols : Int32} (hs0 : s0 < 4) (hr1 : ¬ rows < 0) (hr2 : rows.toNatClampNeg ≤ 12) (hc1 : ¬ cols < 0) (hc2 : cols.toNatClampNeg ≤ 12) (hN : zNW G L f s0 rows.toNatClampNeg cols.toNatClampNeg w L2 F) (hH : mH M lev s0 rows cols rows.toNatClampNeg N ln) (h : zREL G o ac aw ar L f ch m0 car wa ta φ M lev) :
    zREL G o ac aw ar L2 (va_up F aw (.inl (G.2 6, 4, zQ (va_up wa s0 (some w))))) ch m0 car (va_up wa s0 (some w)) ta (zPh φ L F w rows.toNatClampNeg s0 N) N ln := by
  obtain ⟨e, hwL, hW, eR, hbL, hrow, hinj, ho, hno⟩ := hN
  obtain ⟨⟨n0, n1, n7, n8, n9⟩, hI2, g3, g4, g5, g6, g7⟩ := hH
  obtain ⟨hinv, r1, r2, r3, r4, r5, r6, r7, hI⟩ := id h
  obtain ⟨hinv2, -, -, -, -, -, q6, -, -⟩ := zREL_ext e ho hno h
  obtain ⟨⟨hm, fo, fc, fw, fr⟩, hct, hwt, hht, how, hun, hwi, hhq⟩ := id hinv2
  obtain ⟨-, hctL, hwtL, hhtL, -, -, hwiL, -⟩ := id hinv
  have hq : ∀ q, ch = some q → q ≠ aw ∧ ∀ i, i < eN (F q) → eQ (F q) i ≠ some aw := fun q eq => by
    refine ⟨(hhq q eq).1, fun i hi z => ?_⟩
    obtain ⟨b, e1, e2, e3⟩ := (hht q eq).2.2.2.2 i hi
    rw [z] at e1
    cases e1
    rw [fw] at e3
    cases (zinl e3).2
  have hown : ∀ x c y, x ∈ L2 → F x = .inr (c, [.ref y]) → y ≠ aw := fun x c y hx ex => (hun x c y hx ex).2.1
  obtain ⟨k1, k2⟩ := zSp (G := G) (X2 := (G.2 6, 4, zQ (va_up wa s0 (some w)))) fw hown
  obtain ⟨d0, d1, d2, d3, d4⟩ := zCh (G := G) (M := N) (X2 := (G.2 6, 4, zQ (va_up wa s0 (some w)))) fw hq hht hun hhq
  have hOW := zOW_up (X2 := (G.2 6, 4, zQ (va_up wa s0 (some w)))) fw how
  generalize hF3 : va_up F aw (.inl (G.2 6, 4, zQ (va_up wa s0 (some w)))) = F3
  rw [hF3] at k1 k2 d0 d1 d2 d3 d4 hOW
  have hT : ∀ s x, zRA G L2 F s x → zRA G L2 F3 s x := fun s x hx => zRA_same (k1 s x hx).1 (k1 s x hx).2 hx
  have F3o : ∀ x, x ≠ aw → F3 x = F x := fun x hx => by rw [← hF3]; exact va_up_ne _ _ hx
  have wT : ∀ s x, zWA G L2 F s x → zWA G L2 F3 s x ∧ vN F3 x = vN F x ∧ vQ F3 x = vQ F x := fun s x hx => ⟨zWA_same (hT s) (k2 s x hx).1 (k2 s x hx).2 hx, vN_same (k2 s x hx).1 (k2 s x hx).2, vQ_same (k2 s x hx).1 (k2 s x hx).2⟩
  obtain ⟨w1, w2, w3⟩ := wT s0 w hW
  have oldw : ∀ s v, s < 4 → wa s = some v → v ∈ L ∧ zWA G L2 F3 s v ∧ vN F3 v = vN f v ∧ vQ F3 v = vQ f v := fun s v hs ev => by
    have h0 := hwtL s hs v ev
    obtain ⟨e1, e2⟩ := zExt_wN e h0
    obtain ⟨a1, a2, a3⟩ := wT s v (hwt s hs v ev)
    exact ⟨h0.1, a1, by rw [a2, e1], by rw [a3, e2]⟩
  have wneq : ∀ s v, s < 4 → wa s = some v → v ≠ w := fun s v hs ev z => hwL (z ▸ (oldw s v hs ev).1)
  have cases : ∀ s x, s < 4 → zRc F3 car (va_up wa s0 (some w)) s x → (zRc f car wa s x ∧ x ∈ L ∧ mIn M s0 (φ x)) ∨ (s = s0 ∧ ∃ j, j < rows.toNatClampNeg ∧ vQ F w j = some x ∧ x ∉ L) := fun s x hs hx => by
    rcases hx with ⟨k, hk, hkm, ek⟩ | ⟨v, j, ev, hj, ej⟩
    · have hr : zRc f car wa s x := Or.inl ⟨k, hk, hkm, ek⟩
      refine Or.inl ⟨hr, (zRc_RA hinv hs hr).1, Or.inl ⟨k, hk, ?_⟩⟩
      rw [r1 k hk, ek]
      rfl
    · by_cases hss : s = s0
      · subst hss
        rw [va_up_self] at ev
        cases ev
        rw [w2, eR] at hj
        rw [w3] at ej
        obtain ⟨x2, y2, p1, p2, p3, p4⟩ := hrow j hj
        rw [p1] at ej
        cases ej
        exact Or.inr ⟨rfl, j, hj, p1, p2⟩
      · rw [va_up_ne _ _ hss] at ev
        obtain ⟨a0, a1, a2, a3⟩ := oldw s v hs ev
        rw [a2] at hj
        rw [a3] at ej
        have hr : zRc f car wa s x := Or.inr ⟨v, j, ev, hj, ej⟩
        have h12 := (hwtL s hs v ev).2.2.2.2.1
        refine Or.inl ⟨hr, (zRc_RA hinv hs hr).1, Or.inr ⟨12 * s + j, by omega, by omega, ?_⟩⟩
        rw [r3 s j hs (by omega), ev]
        show (if j < vN f v then mq φ (vQ f v j) else -1) = _
        rw [if_pos hj, ej]
        rfl
  have carL : ∀ k, k < 16 → ∀ x, car k = some x → x ∈ L := fun k hk x ex => (hctL k hk x ex).1
  have naw : ∀ z, z ∈ L → z ≠ aw → F3 z = f z := fun z hz hn => by rw [F3o z hn, (e z hz).2]
  have nac : ac ≠ aw := fun z => by rw [z, fw] at fc; exact absurd (zinl fc).1 (by decide)
  have nar : ar ≠ aw := fun z => by rw [z, fw] at fr; exact absurd (zinl fr).1 (by decide)
  have newr : ∀ j, j < rows.toNatClampNeg → ∃ x y r, vQ F w j = some x ∧ x ∉ L ∧ zReel G L2 F s0 x y cols.toNatClampNeg (fun _ => 0) (fun _ => 0) ∧ r < 80 ∧ N 2 (12 * s0 + j) = nI r ∧ ¬ mIn M s0 r ∧ N 3 r = cols ∧ (∀ i, i < cols.toNatClampNeg → N 4 (40 * r + i) = 0 ∧ ln (40 * r + i) = 0) ∧ zPh φ L F w rows.toNatClampNeg s0 N x = r := fun j hj => by
    obtain ⟨x, y, p1, p2, p3, p4⟩ := hrow j hj
    obtain ⟨r, t1, t2, t3, t4, t5⟩ := g5 j hj
    refine ⟨x, y, r, p1, p2, p4, t1, t2, t3, t4, t5, ?_⟩
    rw [zPh_new hj p1 p2 hinj, t2, nI_clamp (by omega)]
  refine ⟨⟨⟨hm, ?_, ?_, ?_, ?_⟩, fun k hk x ex => hT _ x (hct k hk x ex), fun s hs v ev => ?_, d1, hOW, d2, fun s s2 v hs hs2 ev ev2 => ?_, d3⟩, fun k hk => ?_, fun s hs => ?_, fun s j hs hj => ?_, fun s x hs hx => ?_, fun s x s2 x2 hs hs2 hx hx2 ee => ?_, d4 ?_, fun k hk => by rw [n8]; exact r7 k hk, hI2⟩
  · rw [F3o o (zobj_ne fw fo)]; exact fo
  · rw [F3o ac nac]; exact fc
  · rw [← hF3]; exact va_up_self _ _ _
  · rw [F3o ar nar]; exact fr
  · by_cases hss : s = s0
    · subst hss
      rw [va_up_self] at ev
      cases ev
      exact w1
    · rw [va_up_ne _ _ hss] at ev
      exact (oldw s v hs ev).2.1
  · by_cases h1 : s = s0 <;> by_cases h2 : s2 = s0
    · omega
    · subst h1
      rw [va_up_self] at ev
      cases ev
      rw [va_up_ne _ _ h2] at ev2
      exact absurd rfl (wneq s2 w hs2 ev2)
    · subst h2
      rw [va_up_self] at ev2
      cases ev2
      rw [va_up_ne _ _ h1] at ev
      exact absurd rfl (wneq s w hs ev)
    · rw [va_up_ne _ _ h1] at ev
      rw [va_up_ne _ _ h2] at ev2
      exact hwiL s s2 v hs hs2 ev ev2
  · rw [n0, r1 k hk, mq_old (carL k hk)]
  · rw [n1]
    by_cases hss : s = s0
    · subst hss
      rw [pk_us, va_up_self]
      show rows = nI _
      rw [w2, eR]
      obtain ⟨j, hj, ej⟩ := nI_of hr1
      rw [ej, nI_clamp hj]
    · rw [pk_un hss, va_up_ne _ _ hss, r2 s hs]
      cases hv : wa s with
      | none => rfl
      | some v => show nI _ = nI _; rw [(oldw s v hs hv).2.2.1]
  · by_cases hss : s = s0
    · subst hss
      rw [va_up_self]
      show _ = (if j < vN F3 w then mq _ (vQ F3 w j) else -1)
      rw [w2, w3, eR]
      by_cases hj2 : j < rows.toNatClampNeg
      · rw [if_pos hj2]
        obtain ⟨x, y, r, p1, p2, p3, p4, p5, p6, p7, p8, p9⟩ := newr j hj2
        rw [p1, p5]
        show nI r = nI _
        rw [p9]
      · rw [if_neg hj2]
        exact g4 j (by omega) hj
    · rw [va_up_ne _ _ hss, g3 _ (by omega) (by omega), r3 s j hs hj]
      cases hv : wa s with
      | none => rfl
      | some v =>
        obtain ⟨a0, a1, a2, a3⟩ := oldw s v hs hv
        show (if j < vN f v then mq φ (vQ f v j) else -1) = (if j < vN F3 v then mq _ (vQ F3 v j) else -1)
        rw [a2, a3]
        by_cases hj2 : j < vN f v
        · rw [if_pos hj2, if_pos hj2, mq_old (fun x ex => (zRc_RA hinv hs (Or.inr ⟨v, j, hv, hj2, ex⟩)).1)]
        · rw [if_neg hj2, if_neg hj2]
  · rcases cases s x hs hx with ⟨hr, hxL, hin⟩ | ⟨hss, j, hj, ej, hxL⟩
    · obtain ⟨p1, p2, p3⟩ := r4 s x hs hr
      obtain ⟨t1, t2⟩ := g7 (φ x) p1 hin
      have hA := zRc_RA hinv hs hr
      obtain ⟨e1, e2⟩ := zExt_R e hA
      obtain ⟨e3, e4⟩ := k1 s x (zRA_ext e hA)
      have h40 := hA.2.2.2.2.1
      rw [zPh_old hxL, vN_same e3 e4, vI_same e3 e4, vF_same e3 e4, vN_same e1 e2, vI_same e1 e2, vF_same e1 e2]
      refine ⟨p1, by rw [t1]; exact p2, fun i hi => ?_⟩
      rw [(t2 i (by omega)).1, (t2 i (by omega)).2]
      exact p3 i hi
    · obtain ⟨x2, y, r, p1, p2, p3, p4, p5, p6, p7, p8, p9⟩ := newr j hj
      rw [ej] at p1
      cases p1
      subst hss
      obtain ⟨e3, e4⟩ := k1 s x (zRA_of p3)
      rw [p9, vN_same e3 e4, vI_same e3 e4, vF_same e3 e4, zRe_N p3]
      refine ⟨p4, ?_, fun i hi => ?_⟩
      · rw [p7]
        obtain ⟨j2, hj2, ej2⟩ := nI_of hc1
        rw [ej2, nI_clamp hj2]
      · rw [(p8 i hi).1, (p8 i hi).2]
        by_cases h2 : s = 2
        · rw [h2] at p3 ⊢
          rw [zRe_F p3]
          exact (rfl : (0 : UInt32) = 0)
        · rw [zRe_I p3 h2]
          have hc := zCo_0 (s := s)
          revert hc
          unfold zCo
          split
          · exact absurd rfl h2
          · exact fun z => z
          · exact fun z => z
  · rcases cases s x hs hx with ⟨hr, hxL, hin⟩ | ⟨hss, j, hj, ej, hxL⟩ <;> rcases cases s2 x2 hs2 hx2 with ⟨hr2, hxL2, hin2⟩ | ⟨hss2, j2, hj2, ej2, hxL2⟩
    · rw [zPh_old hxL, zPh_old hxL2] at ee
      exact r5 s x s2 x2 hs hs2 hr hr2 ee
    · obtain ⟨x3, y, r, p1, p2, p3, p4, p5, p6, p7, p8, p9⟩ := newr j2 hj2
      rw [ej2] at p1
      cases p1
      rw [zPh_old hxL, p9] at ee
      exact absurd (ee ▸ hin) p6
    · obtain ⟨x3, y, r, p1, p2, p3, p4, p5, p6, p7, p8, p9⟩ := newr j hj
      rw [ej] at p1
      cases p1
      rw [zPh_old hxL2, p9] at ee
      exact absurd (ee ▸ hin2) p6
    · obtain ⟨x3, y, r, p1, p2, p3, p4, p5, p6, p7, p8, p9⟩ := newr j hj
      obtain ⟨x4, y4, r4', s1, s2', s3, s4, s5, s6, s7, s8, s9⟩ := newr j2 hj2
      rw [ej] at p1
      cases p1
      rw [ej2] at s1
      cases s1
      rw [p9, s9] at ee
      have hjj : j = j2 := g6 j j2 hj hj2 (by rw [p5, s5, ee])
      subst hjj
      rw [ej] at ej2
      cases ej2
      rfl
  · exact ⟨by rw [n9]; exact q6.1, fun q eq => ⟨by rw [n9]; exact (q6.2 q eq).1, fun i j hi hj => by rw [n7]; exact (q6.2 q eq).2 i j hi hj⟩⟩
/-- chart -/
theorem zU_chart {q : Nat} {rows cols : Int32} {C : Nat → Int32} (hr1 : ¬ rows < 0) (hr2 : rows.toNatClampNeg ≤ 12) (hc1 : ¬ cols < 0) (hc2 : cols.toNatClampNeg ≤ 12) (hN : zNH G L f rows.toNatClampNeg cols.toNatClampNeg q L2 F) (hC : ∀ j, j < 144 → C j = 0) (h : zREL G o ac aw ar L f ch m0 car wa ta φ M lev) :
    zREL G o ac aw ar L2 (va_up F o (.inr (5, [.ref ac, .ref aw, .ref ar, .ref q]))) (some q) cols.toNatClampNeg car wa ta φ (va_up (va_up M 9 (upd (upd (M 9) 0 rows) 1 cols)) 7 C) lev := by
  obtain ⟨e, hqL, hA, eN1, hrow, hinj, ho, hnw⟩ := hN
  have hno : zNO L L2 F := fun x c b hx hxL ex => absurd ex (hnw x c b hx hxL)
  obtain ⟨hinv, r1, r2, r3, r4, r5, r6, r7, hI⟩ := id h
  obtain ⟨hinv2, -, q2, q3, q4, q5, -, -, -⟩ := zREL_ext e ho hno h
  obtain ⟨⟨hm, fo, fc, fw, fr⟩, hct, hwt, hht, how, hun, hwi, hhq⟩ := id hinv2
  obtain ⟨⟨⟨mo, mc, mw, mr⟩, -⟩, -⟩ := id hinv
  generalize hF3 : va_up F o (.inr (5, [.ref ac, .ref aw, .ref ar, .ref q])) = F3
  have F3o : ∀ x, x ≠ o → F3 x = F x := fun x hx => by rw [← hF3]; exact va_up_ne _ _ hx
  have F3s : F3 o = .inr (5, [.ref ac, .ref aw, .ref ar, va_rf (some q)]) := by rw [← hF3]; exact va_up_self _ _ _
  have nin : ∀ x X, F x = .inl X → x ≠ o := fun x X ex z => by rw [z, fo] at ex; cases ex
  have nob : ∀ x c b, F x = .inr (c, [.ref b]) → x ≠ o := fun x c b ex z => by rw [z, fo] at ex; cases ex
  have hob : ∀ x c b, F3 x = .inr (c, [.ref b]) → F x = .inr (c, [.ref b]) := fun x c b ex => by
    by_cases hx : x = o
    · rw [hx, F3s] at ex; cases ex
    · rw [F3o x hx] at ex; exact ex
  have rS : ∀ s x, zRA G L2 F s x → F3 x = F x ∧ F3 (vB F x) = F (vB F x) := fun s x hx => ⟨F3o x (nob x _ _ hx.2.2.1), F3o _ (nin _ _ hx.2.2.2.1)⟩
  have wS : ∀ s x, zWA G L2 F s x → F3 x = F x ∧ F3 (vB F x) = F (vB F x) := fun s x hx => ⟨F3o x (nob x _ _ hx.2.2.1), F3o _ (nin _ _ hx.2.2.2.1)⟩
  have hT : ∀ s x, zRA G L2 F s x → zRA G L2 F3 s x := fun s x hx => zRA_same (rS s x hx).1 (rS s x hx).2 hx
  have wN : ∀ s, s < 4 → ∀ w, wa s = some w → vN F3 w = vN F w ∧ vQ F3 w = vQ F w := fun s hs w ew => by
    obtain ⟨e1, e2⟩ := wS s w (hwt s hs w ew)
    exact ⟨vN_same e1 e2, vQ_same e1 e2⟩
  have hRc : ∀ s a, s < 4 → (zRc F3 car wa s a ↔ zRc F car wa s a) := fun s a hs => zRc_same (wN s hs)
  obtain ⟨mq1, fq, hn12, hm12, hrw⟩ := id hA
  have Fq3 : F3 q = F q := F3o q (nin q _ fq)
  have oq : ∀ q2, some q = some q2 → q2 = q := fun q2 e2 => by cases e2; rfl
  have row3 : ∀ i b, i < eN (F q) → eQ (F q) i = some b → F3 b = F b ∧ b ∉ L := fun i b hi eb => by
    obtain ⟨b2, g1, g2, g3⟩ := hrw i hi
    rw [g1] at eb
    cases eb
    rw [eN1] at hi
    obtain ⟨b3, t1, t2, t3⟩ := hrow i hi
    rw [g1] at t1
    cases t1
    exact ⟨F3o b (nin b _ g3), t2⟩
  refine ⟨⟨⟨hm, F3s, ?_, ?_, ?_⟩, fun k hk x ex => hT _ x (hct k hk x ex), fun s hs w ew => zWA_same (hT s) (wS s w (hwt s hs w ew)).1 (wS s w (hwt s hs w ew)).2 (hwt s hs w ew), fun q2 e2 => ?_, ⟨fun x c b hx ex => how.1 x c b hx (hob x c b ex), fun x y c c2 b hx hy ex ey => how.2 x y c c2 b hx hy (hob x c b ex) (hob y c2 b ey)⟩, fun x c b hx ex => ?_, hwi, fun q2 e2 => ?_⟩, r1, fun s hs => ?_, fun s j hs hj => ?_, fun s a hs hr => ?_, fun s a s2 a2 hs hs2 hr hr2 ee => q5 s a s2 a2 hs hs2 ((hRc s a hs).mp hr) ((hRc s2 a2 hs2).mp hr2) ee, ⟨?_, fun q2 e2 => ?_⟩, r7, ?_⟩
  · rw [F3o ac (nin ac _ fc)]; exact fc
  · rw [F3o aw (nin aw _ fw)]; exact fw
  · rw [F3o ar (nin ar _ fr)]; exact fr
  · have := oq q2 e2
    subst this
    exact zHA_same Fq3 (fun i b hi eb => (row3 i b hi eb).1) hA
  · have ex2 := hob x c b ex
    obtain ⟨u1, u2, u3, -⟩ := hun x c b hx ex2
    refine ⟨u1, u2, u3, fun q2 e2 => ?_⟩
    have := oq q2 e2
    subst this
    rw [Fq3]
    by_cases hxL : x ∈ L
    · have hbL : b ∈ L := by
        rw [(e x hxL).2] at ex2
        exact hinv.2.2.2.2.1.1 x c b hxL ex2
      exact ⟨fun z => hqL (z ▸ hbL), fun i hi z => (row3 i b hi z).2 hbL⟩
    · exact absurd ex2 (hnw x c b hx hxL)
  · have := oq q2 e2
    subst this
    rw [Fq3]
    exact ⟨fun z => hqL (z ▸ mw), fun i hi z => (row3 i ar hi z).2 mr, fun i j hi hj z => hinj i j (by rw [← eN1]; exact hi) (by rw [← eN1]; exact hj) z⟩
  · show M 1 s = mwl F3 (wa s)
    rw [q2 s hs]
    cases hw : wa s with
    | none => rfl
    | some w => show nI _ = nI _; rw [(wN s hs w hw).1]
  · show M 2 (12 * s + j) = mrw F3 φ (wa s) j
    rw [q3 s j hs hj]
    cases hw : wa s with
    | none => rfl
    | some w =>
      show (if j < vN F w then mq φ (vQ F w j) else -1) = (if j < vN F3 w then mq φ (vQ F3 w j) else -1)
      rw [(wN s hs w hw).1, (wN s hs w hw).2]
  · have hr' := (hRc s a hs).mp hr
    obtain ⟨e1, e2⟩ := rS s a (zRc_RA hinv2 hs hr')
    rw [vN_same e1 e2, vI_same e1 e2, vF_same e1 e2]
    exact q4 s a hs hr'
  · show upd (upd (M 9) 0 rows) 1 cols 0 = nI (eN (F3 q))
    rw [Fq3, eN1, pk_un (by decide), pk_us]
    obtain ⟨j, hj, ej⟩ := nI_of hr1
    rw [ej, nI_clamp hj]
  · have := oq q2 e2
    subst this
    rw [Fq3]
    refine ⟨?_, fun i j hi hj => ?_⟩
    · show upd (upd (M 9) 0 rows) 1 cols 1 = nI cols.toNatClampNeg
      rw [pk_us]
      obtain ⟨j, hj, ej⟩ := nI_of hc1
      rw [ej, nI_clamp hj]
    · show C (12 * i + j) = _
      rw [hC _ (by omega)]
      have hi2 := hi
      rw [eN1] at hi2
      obtain ⟨b, t1, t2, t3⟩ := hrow i hi2
      rw [t1]
      show 0 = eI (F3 b) j
      rw [(row3 i b hi t1).1, t3]
  · obtain ⟨i1, i2, i3, i4, i5, i6, i7⟩ := hI
    refine ⟨i1, i2, i3, i4, i5, ?_, ?_⟩
    · show upd (upd (M 9) 0 rows) 1 cols 0 = -1 ∨ ∃ n : Nat, n ≤ 12 ∧ upd (upd (M 9) 0 rows) 1 cols 0 = nI n
      rw [pk_un (by decide), pk_us]
      obtain ⟨j, hj, ej⟩ := nI_of hr1
      rw [ej, nI_clamp hj] at hr2
      exact Or.inr ⟨j, hr2, ej⟩
    · show ∃ n : Nat, n ≤ 12 ∧ upd (upd (M 9) 0 rows) 1 cols 1 = nI n
      rw [pk_us]
      obtain ⟨j, hj, ej⟩ := nI_of hc1
      rw [ej, nI_clamp hj] at hc2
      exact ⟨j, hc2, ej⟩
end ZU5
