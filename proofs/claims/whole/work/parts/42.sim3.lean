theorem zKc_inj {s t : Nat} (hs : s < 4) (ht : t < 4) (h : zKc s = zKc t) : s = t := by
  rcases (show s = 0 ∨ s = 1 ∨ s = 2 ∨ s = 3 by omega) with rfl | rfl | rfl | rfl <;> rcases (show t = 0 ∨ t = 1 ∨ t = 2 ∨ t = 3 by omega) with rfl | rfl | rfl | rfl <;> first | rfl | (exfalso; revert h; decide)
theorem zKc_ne3 (s : Nat) : zKc s ≠ 3 := by
  unfold zKc
  split <;> decide
section ZU3
variable {G : zG} {o ac aw ar : Nat} {L : List Nat} {f : Nat → va_E} {ch : Option Nat} {m0 : Nat} {car wa : Nat → Option Nat} {ta : Nat → Int32} {φ : Nat → Nat} {M N : Nat → Nat → Int32} {lev ln : Nat → UInt32}
/-- place i of a reel gets other contents, on both sides -/
theorem zU_put {s0 a i : Nat} {gi2 : Nat → Int32} {gf2 : Nat → UInt32} (hs0 : s0 < 4) (hr : zRc f car wa s0 a) (hi : i < vN f a) (hfin : ∀ j, j < vN f a → zFin (gf2 j)) (h : zREL G o ac aw ar L f ch m0 car wa ta φ M lev)
    (hgi : ∀ j, j ≠ i → s0 ≠ 2 → gi2 j = vI f a j) (hgf : ∀ j, j ≠ i → s0 = 2 → gf2 j = vF f a j)
    (hN0 : N 0 = M 0 ∧ N 1 = M 1 ∧ N 2 = M 2 ∧ N 3 = M 3 ∧ N 7 = M 7 ∧ N 8 = M 8 ∧ N 9 = M 9) (hN4 : ∀ j, j ≠ 40 * φ a + i → N 4 j = M 4 j) (hln : ∀ j, j ≠ 40 * φ a + i → ln j = lev j) (hlf : zFin (ln (40 * φ a + i)))
    (hco : zCo s0 (gi2 i) (gf2 i) (N 4 (40 * φ a + i)) (ln (40 * φ a + i))) :
    zREL G o ac aw ar L (va_up f (vB f a) (zCel G s0 (vN f a) gi2 gf2)) ch m0 car wa ta φ N ln := by
  obtain ⟨hinv, r1, r2, r3, r4, r5, r6, r7, hI⟩ := h
  obtain ⟨hB, hct, hwt, hht, how, hun, hwi, hhq⟩ := id hinv
  obtain ⟨n0, n1, n2, n3, n7, n8, n9⟩ := hN0
  have hA := zRc_RA hinv hs0 hr
  obtain ⟨ma, mb, fa, fb, h40, hfi⟩ := id hA
  have fb1 : f (vB f a) = .inl (G.2 (zKa s0), vN f a, zArr s0 (vI f a) (vF f a)) := fb
  have fa1 : f a = .inr (zKc s0, [.ref (vB f a)]) := fa
  obtain ⟨b1, b2, b3, b4, b5, b6, b7⟩ := zT_ow (M := N) (X2 := (G.2 (zKa s0), vN f a, zArr s0 gi2 gf2)) hinv fb1 ma fa1
  generalize hF : va_up f (vB f a) (zCel G s0 (vN f a) gi2 gf2) = F
  have hF2 : va_up f (vB f a) (.inl (G.2 (zKa s0), vN f a, zArr s0 gi2 gf2)) = F := hF
  rw [hF2] at b1 b2 b3 b4 b5 b6 b7
  have Fb : F (vB f a) = zCel G s0 (vN f a) gi2 gf2 := by rw [← hF]; exact va_up_self _ _ _
  have Fa : F a = f a := by rw [← hF]; exact va_up_ne _ _ (zobj_ne fb1 fa1)
  have hA2 : zReel G L F s0 a (vB f a) (vN f a) gi2 gf2 := ⟨ma, mb, by rw [Fa]; exact fa, Fb, h40, hfin⟩
  have onlys : ∀ s x, s < 4 → zRA G L f s x → x = a → s = s0 := fun s x hs hx e => by
    have := hx.2.2.1
    rw [e, fa1] at this
    unfold zObj at this
    injection this with q
    injection q with q1 q2
    exact (zKc_inj hs hs0 q1.symm)
  have hT : ∀ s x, s < 4 → zRA G L f s x → zRA G L F s x := fun s x hs hx => by
    by_cases e : x = a
    · have es := onlys s x hs hx e
      subst e
      subst es
      exact zRA_of hA2
    · obtain ⟨e1, e2⟩ := b7 x e s (Or.inl hx)
      exact zRA_same e1 e2 hx
  have hwne : ∀ s w, zWA G L f s w → w ≠ a := fun s w hw e => by
    have := hw.2.2.1
    rw [e, fa1] at this
    injection this with q
    injection q with q1 q2
    exact zKc_ne3 s0 q1
  have wS : ∀ s w, zWA G L f s w → F w = f w ∧ F (vB f w) = f (vB f w) := fun s w hw => b7 w (hwne s w hw) s (Or.inr hw)
  have wN : ∀ s, s < 4 → ∀ w, wa s = some w → vN F w = vN f w ∧ vQ F w = vQ f w := fun s hs w e => by
    obtain ⟨e1, e2⟩ := wS s w (hwt s hs w e)
    exact ⟨vN_same e1 e2, vQ_same e1 e2⟩
  have hRc : ∀ s x, s < 4 → (zRc F car wa s x ↔ zRc f car wa s x) := fun s x hs => zRc_same (wN s hs)
  refine ⟨⟨b1, fun k hk x e => hT _ x (Nat.mod_lt _ (by decide)) (hct k hk x e), fun s hs w e => zWA_same (fun x hx => hT s x hs hx) (wS s w (hwt s hs w e)).1 (wS s w (hwt s hs w e)).2 (hwt s hs w e), b2, b3, b4, hwi, b5⟩, fun k hk => by rw [n0]; exact r1 k hk, fun s hs => ?_, fun s j hs hj => ?_, fun s x hs hx => ?_, fun s x s2 x2 hs hs2 hx hx2 e => r5 s x s2 x2 hs hs2 ((hRc s x hs).mp hx) ((hRc s2 x2 hs2).mp hx2) e, ?_, fun k hk => by rw [n8]; exact r7 k hk, ?_⟩
  · rw [n1, r2 s hs]
    cases hw : wa s with
    | none => rfl
    | some w => show nI _ = nI _; rw [(wN s hs w hw).1]
  · rw [n2, r3 s j hs hj]
    cases hw : wa s with
    | none => rfl
    | some w =>
      show (if j < vN f w then mq φ (vQ f w j) else -1) = (if j < vN F w then mq φ (vQ F w j) else -1)
      rw [(wN s hs w hw).1, (wN s hs w hw).2]
  · have hx' := (hRc s x hs).mp hx
    have hxA := zRc_RA hinv hs hx'
    obtain ⟨p1, p2, p3⟩ := r4 s x hs hx'
    by_cases e : x = a
    · have es := onlys s x hs hxA e
      subst e
      subst es
      have eN1 := zRe_N hA2
      refine ⟨p1, by rw [n3, p2, eN1], fun j hj => ?_⟩
      rw [eN1] at hj
      by_cases hji : j = i
      · subst hji
        by_cases h2 : s = 2
        · subst h2
          rw [zRe_F hA2]
          exact hco
        · rw [zRe_I hA2 h2]
          revert hco
          unfold zCo
          split
          · exact absurd rfl h2
          · exact fun q => q
          · exact fun q => q
      · rw [hN4 _ (by omega), hln _ (by omega)]
        have hold := p3 j hj
        by_cases h2 : s = 2
        · subst h2
          rw [zRe_F hA2, hgf j hji rfl]
          exact hold
        · rw [zRe_I hA2 h2, hgi j hji h2]
          revert hold
          unfold zCo
          split
          · exact absurd rfl h2
          · exact fun q => q
          · exact fun q => q
    · obtain ⟨e1, e2⟩ := b7 x e s (Or.inl hxA)
      have hne : φ x ≠ φ a := fun q => e (r5 s x s0 a hs hs0 hx' hr q)
      have hxn : vN f x ≤ 40 := hxA.2.2.2.2.1
      rw [vN_same e1 e2, vI_same e1 e2, vF_same e1 e2]
      refine ⟨p1, by rw [n3]; exact p2, fun j hj => ?_⟩
      rw [hN4 _ (by omega), hln _ (by omega)]
      exact p3 j hj
  · exact b6 ⟨by rw [n9]; exact r6.1, fun q e => ⟨by rw [n9]; exact (r6.2 q e).1, fun i j hi hj => by rw [n7]; exact (r6.2 q e).2 i j hi hj⟩⟩
  · obtain ⟨i1, i2, i3, i4, i5, i6, i7⟩ := hI
    refine ⟨by rw [n0]; exact i1, by rw [n2]; exact i2, by rw [n1]; exact i3, by rw [n3]; exact i4, fun j hj => ?_, by rw [n9]; exact i6, by rw [n9]; exact i7⟩
    by_cases hj2 : j = 40 * φ a + i
    · rw [hj2]; exact hlf
    · rw [hln j hj2]; exact i5 j hj
/-- a row of the wall gets what a deck has -/
theorem zU_pin {s0 y w0 : Nat} {q0 : Option Nat} (hs0 : s0 < 4) (hw : wa s0 = some w0) (hy : y < vN f w0) (hq0 : ∀ a, q0 = some a → zRc f car wa s0 a) (h : zREL G o ac aw ar L f ch m0 car wa ta φ M lev) :
    zREL G o ac aw ar L (va_up f (vB f w0) (.inl (G.2 5, vN f w0, zQ (va_up (vQ f w0) y q0)))) ch m0 car wa ta φ (va_up M 2 (upd (M 2) (12 * s0 + y) (mq φ q0))) lev := by
  obtain ⟨hinv, r1, r2, r3, r4, r5, r6, r7, hI⟩ := h
  obtain ⟨hB, hct, hwt, hht, how, hun, hwi, hhq⟩ := id hinv
  have hW := hwt s0 hs0 w0 hw
  obtain ⟨mw, mb, fw, fb, h12, hre⟩ := id hW
  obtain ⟨b1, b2, b3, b4, b5, b6, b7⟩ := zT_ow (M := va_up M 2 (upd (M 2) (12 * s0 + y) (mq φ q0))) (X2 := (G.2 5, vN f w0, zQ (va_up (vQ f w0) y q0))) hinv fb mw fw
  generalize hF : va_up f (vB f w0) (.inl (G.2 5, vN f w0, zQ (va_up (vQ f w0) y q0))) = F
  rw [hF] at b1 b2 b3 b4 b5 b6 b7
  have Fb : F (vB f w0) = .inl (G.2 5, vN f w0, zQ (va_up (vQ f w0) y q0)) := by rw [← hF]; exact va_up_self _ _ _
  have Fw : F w0 = f w0 := by rw [← hF]; exact va_up_ne _ _ (zobj_ne fb fw)
  have eB : vB F w0 = vB f w0 := vB_ext Fw
  have eN0 : vN F w0 = vN f w0 := by unfold vN; rw [eB, Fb]; rfl
  have eQ0 : vQ F w0 = va_up (vQ f w0) y q0 := by unfold vQ; rw [eB, Fb]; rfl
  have rne : ∀ s x, zRA G L f s x → x ≠ w0 := fun s x hx e => by
    have := hx.2.2.1
    rw [e, fw] at this
    unfold zObj at this
    injection this with q
    injection q with q1 q2
    exact zKc_ne3 s q1.symm
  have rS : ∀ s x, zRA G L f s x → F x = f x ∧ F (vB f x) = f (vB f x) := fun s x hx => b7 x (rne s x hx) s (Or.inl hx)
  have hT : ∀ s x, zRA G L f s x → zRA G L F s x := fun s x hx => zRA_same (rS s x hx).1 (rS s x hx).2 hx
  have wne : ∀ s w, s < 4 → wa s = some w → s ≠ s0 → w ≠ w0 := fun s w hs e hne z => hne (hwi s s0 w0 hs hs0 (by rw [e, z]) hw)
  have wS : ∀ s w, s < 4 → wa s = some w → s ≠ s0 → F w = f w ∧ F (vB f w) = f (vB f w) := fun s w hs e hne => b7 w (wne s w hs e hne) s (Or.inr (hwt s hs w e))
  have sub : ∀ s x, s < 4 → zRc F car wa s x → zRc f car wa s x := fun s x hs hr => by
    rcases hr with hr | ⟨w, j, e1, e2, e3⟩
    · exact Or.inl hr
    · by_cases hss : s = s0
      · subst hss
        rw [hw] at e1
        cases e1
        rw [eN0] at e2
        rw [eQ0] at e3
        by_cases hj : j = y
        · subst hj
          rw [va_up_self] at e3
          exact hq0 x e3
        · rw [va_up_ne _ _ hj] at e3
          exact Or.inr ⟨w0, j, hw, e2, e3⟩
      · obtain ⟨g1, g2⟩ := wS s w hs e1 hss
        rw [vN_same g1 g2] at e2
        rw [vQ_same g1 g2] at e3
        exact Or.inr ⟨w, j, e1, e2, e3⟩
  have mPq : mP (mq φ q0) := by
    cases q0 with
    | none => exact mP_n
    | some a => exact mP_r (r4 _ a hs0 (hq0 a rfl)).1
  refine ⟨⟨b1, fun k hk x e => hT _ x (hct k hk x e), fun s hs w e => ?_, b2, b3, b4, hwi, b5⟩, r1, fun s hs => ?_, fun s j hs hj => ?_, fun s x hs hx => ?_, fun s x s2 x2 hs hs2 hx hx2 e => r5 s x s2 x2 hs hs2 (sub s x hs hx) (sub s2 x2 hs2 hx2) e, b6 r6, r7, mI_wal hI mPq⟩
  · by_cases hss : s = s0
    · subst hss
      rw [hw] at e
      cases e
      refine ⟨mw, by rw [eB]; exact mb, by rw [eB, Fw]; exact fw, by rw [eN0, eQ0, eB]; exact Fb, by rw [eN0]; exact h12, fun i hi x hx => ?_⟩
      rw [eN0] at hi
      rw [eQ0] at hx
      apply hT
      by_cases hj : i = y
      · subst hj
        rw [va_up_self] at hx
        exact zRc_RA hinv hs (hq0 x hx)
      · rw [va_up_ne _ _ hj] at hx
        exact hre i hi x hx
    · obtain ⟨g1, g2⟩ := wS s w hs e hss
      exact zWA_same (hT s) g1 g2 (hwt s hs w e)
  · show M 1 s = mwl F (wa s)
    rw [r2 s hs]
    cases hwx : wa s with
    | none => rfl
    | some w =>
      show nI _ = nI _
      by_cases hss : s = s0
      · subst hss
        rw [hw] at hwx
        cases hwx
        rw [eN0]
      · obtain ⟨g1, g2⟩ := wS s w hs hwx hss
        rw [vN_same g1 g2]
  · show upd (M 2) (12 * s0 + y) (mq φ q0) (12 * s + j) = mrw F φ (wa s) j
    by_cases hss : s = s0
    · subst hss
      rw [hw]
      show _ = (if j < vN F w0 then mq φ (vQ F w0 j) else -1)
      rw [eN0, eQ0]
      by_cases hj2 : j = y
      · subst hj2
        rw [pk_us, va_up_self, if_pos hy]
      · rw [pk_un (by omega), va_up_ne _ _ hj2, r3 s j hs hj, hw]
        rfl
    · rw [pk_un (by omega), r3 s j hs hj]
      cases hwx : wa s with
      | none => rfl
      | some w =>
        obtain ⟨g1, g2⟩ := wS s w hs hwx hss
        show (if j < vN f w then mq φ (vQ f w j) else -1) = (if j < vN F w then mq φ (vQ F w j) else -1)
        rw [vN_same g1 g2, vQ_same g1 g2]
  · have hx' := sub s x hs hx
    obtain ⟨g1, g2⟩ := rS s x (zRc_RA hinv hs hx')
    rw [vN_same g1 g2, vI_same g1 g2, vF_same g1 g2]
    exact r4 s x hs hx'
/-- a place of the chart -/
theorem zU_note {q y k : Nat} {x : Int32} (hq : ch = some q) (hy : y < eN (f q)) (hk : k < m0) (h : zREL G o ac aw ar L f ch m0 car wa ta φ M lev) {b : Nat} (hb : eQ (f q) y = some b) :
    zREL G o ac aw ar L (va_up f b (.inl (G.2 4, m0, .inl (upd (eI (f b)) k x)))) ch m0 car wa ta φ (va_up M 7 (upd (M 7) (12 * y + k) x)) lev := by
  obtain ⟨hinv, r1, r2, r3, r4, r5, r6, r7, hI⟩ := h
  obtain ⟨⟨hm, fo, fc, fw, fr⟩, hct, hwt, hht, how, hun, hwi, hhq⟩ := id hinv
  obtain ⟨mq0, fq, hn12, hm12, hrow⟩ := id (hht q hq)
  obtain ⟨b0, eb0, mb, fb⟩ := hrow y hy
  rw [hb] at eb0
  cases eb0
  obtain ⟨hqw, hrr, hinj⟩ := hhq q hq
  have hown : ∀ x c z, x ∈ L → f x = .inr (c, [.ref z]) → z ≠ b := fun x c z hx e zz => ((hun x c z hx e).2.2.2 q hq).2 y hy (by rw [hb, zz])
  obtain ⟨k1, k2⟩ := zSp (G := G) (X2 := (G.2 4, m0, .inl (upd (eI (f b)) k x))) fb hown
  obtain ⟨c1, c2⟩ := zSp2 (G := G) (X2 := (G.2 4, m0, .inl (upd (eI (f b)) k x))) fb hown hct hwt
  have how2 := zOW_up (X2 := (G.2 4, m0, .inl (upd (eI (f b)) k x))) fb how
  have hob : ∀ z o1, va_up f b (.inl (G.2 4, m0, .inl (upd (eI (f b)) k x))) z = .inr o1 → f z = .inr o1 := fun z o1 e => (zup_obj fb).mp e
  generalize hF : va_up f b (.inl (G.2 4, m0, .inl (upd (eI (f b)) k x))) = F
  rw [hF] at k1 k2 c1 c2 how2 hob
  have Fb : F b = .inl (G.2 4, m0, .inl (upd (eI (f b)) k x)) := by rw [← hF]; exact va_up_self _ _ _
  have Fo : ∀ z, z ≠ b → F z = f z := fun z hz => by rw [← hF]; exact va_up_ne _ _ hz
  have nq : q ≠ b := fun z => by rw [z, fb] at fq; cases (zinl fq).2
  have nac : ac ≠ b := fun z => by rw [z, fb] at fc; cases (zinl fc).2
  have naw : aw ≠ b := fun z => by rw [z, fb] at fw; cases (zinl fw).2
  have nar : ar ≠ b := fun z => hrr y hy (by rw [hb, z])
  have wN : ∀ s, s < 4 → ∀ w, wa s = some w → vN F w = vN f w ∧ vQ F w = vQ f w := fun s hs w e => by
    obtain ⟨e1, e2⟩ := k2 s w (hwt s hs w e)
    exact ⟨vN_same e1 e2, vQ_same e1 e2⟩
  have hRc : ∀ s a, s < 4 → (zRc F car wa s a ↔ zRc f car wa s a) := fun s a hs => zRc_same (wN s hs)
  have onlyq : ∀ q2, ch = some q2 → q2 = q := fun q2 e => by rw [hq] at e; cases e; rfl
  refine ⟨⟨⟨hm, by rw [Fo o (zobj_ne fb fo)]; exact fo, by rw [Fo ac nac]; exact fc, by rw [Fo aw naw]; exact fw, by rw [Fo ar nar]; exact fr⟩, c1, c2, fun q2 e => ?_, how2, fun x2 c z hx e => ?_, hwi, fun q2 e => ?_⟩, r1, fun s hs => ?_, fun s j hs hj => ?_, fun s a hs hr => ?_, fun s a s2 a2 hs hs2 hr hr2 e => r5 s a s2 a2 hs hs2 ((hRc s a hs).mp hr) ((hRc s2 a2 hs2).mp hr2) e, ⟨?_, fun q2 e => ?_⟩, r7, hI⟩
  · have := onlyq q2 e
    subst this
    unfold zHA
    rw [Fo q2 nq]
    refine ⟨mq0, fq, hn12, hm12, fun i hi => ?_⟩
    obtain ⟨b2, g1, g2, g3⟩ := hrow i hi
    refine ⟨b2, g1, g2, ?_⟩
    by_cases hbb : b2 = b
    · rw [hbb, Fb]
      rfl
    · rw [Fo b2 hbb]
      exact g3
  · obtain ⟨u1, u2, u3, u4⟩ := hun x2 c z hx (hob x2 _ e)
    refine ⟨u1, u2, u3, fun q2 e2 => ?_⟩
    have := onlyq q2 e2
    subst this
    rw [Fo q2 nq]
    exact u4 q2 e2
  · have := onlyq q2 e
    subst this
    rw [Fo q2 nq]
    exact hhq q2 e
  · show M 1 s = mwl F (wa s)
    rw [r2 s hs]
    cases hw : wa s with
    | none => rfl
    | some w => show nI _ = nI _; rw [(wN s hs w hw).1]
  · show M 2 (12 * s + j) = mrw F φ (wa s) j
    rw [r3 s j hs hj]
    cases hw : wa s with
    | none => rfl
    | some w =>
      show (if j < vN f w then mq φ (vQ f w j) else -1) = (if j < vN F w then mq φ (vQ F w j) else -1)
      rw [(wN s hs w hw).1, (wN s hs w hw).2]
  · have hr' := (hRc s a hs).mp hr
    obtain ⟨e1, e2⟩ := k1 s a (zRc_RA hinv hs hr')
    rw [vN_same e1 e2, vI_same e1 e2, vF_same e1 e2]
    exact r4 s a hs hr'
  · show M 9 0 = mch F ch
    rw [r6.1, hq]
    show nI _ = nI _
    rw [Fo q nq]
  · have := onlyq q2 e
    subst this
    rw [Fo q2 nq]
    refine ⟨(r6.2 q2 e).1, fun i j hi hj => ?_⟩
    show upd (M 7) (12 * y + k) x (12 * i + j) = _
    obtain ⟨b2, g1, g2, g3⟩ := hrow i hi
    have old := (r6.2 q2 e).2 i j hi hj
    rw [g1] at old ⊢
    show _ = eI (F b2) j
    by_cases hiy : i = y
    · subst hiy
      rw [hb] at g1
      cases g1
      rw [Fb]
      show _ = upd (eI (f b)) k x j
      by_cases hjk : j = k
      · subst hjk
        rw [pk_us, pk_us]
      · rw [pk_un (by omega), pk_un hjk]
        exact old
    · have hbb : b2 ≠ b := fun z => hiy (hinj i y hi hy (by rw [g1, hb, z]))
      rw [Fo b2 hbb, pk_un (by omega)]
      exact old
end ZU3
