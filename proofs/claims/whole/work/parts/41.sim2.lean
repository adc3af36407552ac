theorem zinl {c1 c2 : ClassId} {n1 n2 : Nat} {x1 x2 : zAr} (h : (.inl (c1, n1, x1) : va_E) = .inl (c2, n2, x2)) : n1 = n2 ∧ x1 = x2 := by
  cases h
  exact ⟨rfl, rfl⟩
section ZU2
variable {G : zG} {o ac aw ar : Nat} {L : List Nat} {f : Nat → va_E} {ch : Option Nat} {m0 : Nat} {car wa : Nat → Option Nat} {ta : Nat → Int32} {φ : Nat → Nat} {M : Nat → Nat → Int32} {lev : Nat → UInt32}
/-- the chart's cells stay -/
theorem zCh {b : Nat} {X2 : ClassId × vp_A} {X : ClassId × vp_A} (hb : f b = .inl X) (hq : ∀ q, ch = some q → q ≠ b ∧ ∀ i, i < eN (f q) → eQ (f q) i ≠ some b) (hht : zHT G L f ch m0) (hun : zUN L f ac aw ar ch) (hhq : zHQ f aw ar ch) :
    (∀ q, ch = some q → va_up f b (.inl X2) q = f q) ∧ zHT G L (va_up f b (.inl X2)) ch m0 ∧ zUN L (va_up f b (.inl X2)) ac aw ar ch ∧ zHQ (va_up f b (.inl X2)) aw ar ch ∧ (zR6 f ch m0 M → zR6 (va_up f b (.inl X2)) ch m0 M) := by
  have e1 : ∀ q, ch = some q → va_up f b (.inl X2) q = f q := fun q e => va_up_ne _ _ (hq q e).1
  have e2 : ∀ q i y, ch = some q → i < eN (f q) → eQ (f q) i = some y → va_up f b (.inl X2) y = f y := fun q i y e hi ey => va_up_ne _ _ (fun z => (hq q e).2 i hi (by rw [ey, z]))
  refine ⟨e1, fun q e => zHA_same (e1 q e) (fun i y hi ey => e2 q i y e hi ey) (hht q e), fun x c y hx ex => ?_, fun q e => ?_, fun r6 => ⟨?_, fun q e => ?_⟩⟩
  · obtain ⟨u1, u2, u3, u4⟩ := hun x c y hx ((zup_obj hb).mp ex)
    exact ⟨u1, u2, u3, fun q e => by rw [e1 q e]; exact u4 q e⟩
  · rw [e1 q e]
    exact hhq q e
  · rw [r6.1]
    cases hc : ch with
    | none => rfl
    | some q => show nI _ = nI _; rw [e1 q hc]
  · rw [e1 q e]
    refine ⟨(r6.2 q e).1, fun i j hi hj => ?_⟩
    obtain ⟨y, g1, -, -⟩ := (hht q e).2.2.2.2 i hi
    rw [(r6.2 q e).2 i j hi hj, g1]
    show eI (f y) j = eI (va_up f b (.inl X2) y) j
    rw [e2 q i y e hi g1]
/-- a change of a row that nobody owns and that isn't the chart's -/
theorem zT_sp {b : Nat} {X X2 : ClassId × vp_A} (hinv : zINV G o ac aw ar L f ch m0 car wa ta) (hb : f b = .inl X) (hown : ∀ x c y, x ∈ L → f x = .inr (c, [.ref y]) → y ≠ b) (hq : ∀ q, ch = some q → q ≠ b ∧ ∀ i, i < eN (f q) → eQ (f q) i ≠ some b) :
    (zCT G L (va_up f b (.inl X2)) car ∧ zWT G L (va_up f b (.inl X2)) wa ∧ zHT G L (va_up f b (.inl X2)) ch m0 ∧ zOW L (va_up f b (.inl X2)) ∧ zUN L (va_up f b (.inl X2)) ac aw ar ch ∧ zHQ (va_up f b (.inl X2)) aw ar ch) ∧
    (zR2 f wa M → zR2 (va_up f b (.inl X2)) wa M) ∧ (zR3 f wa φ M → zR3 (va_up f b (.inl X2)) wa φ M) ∧ (zR4 f car wa φ M lev → zR4 (va_up f b (.inl X2)) car wa φ M lev) ∧ (zR5 f car wa φ → zR5 (va_up f b (.inl X2)) car wa φ) ∧ (zR6 f ch m0 M → zR6 (va_up f b (.inl X2)) ch m0 M) ∧
    (∀ s x, zRA G L f s x → zRA G L (va_up f b (.inl X2)) s x) ∧ (∀ s a, s < 4 → ∀ car2, zRc (va_up f b (.inl X2)) car2 wa s a ↔ zRc f car2 wa s a) ∧ (∀ s x, zRA G L f s x → vN (va_up f b (.inl X2)) x = vN f x ∧ vI (va_up f b (.inl X2)) x = vI f x ∧ vF (va_up f b (.inl X2)) x = vF f x) := by
  obtain ⟨hB, hct, hwt, hht, how, hun, hwi, hhq⟩ := id hinv
  obtain ⟨k1, k2⟩ := zSp (G := G) (X2 := X2) hb hown
  obtain ⟨c1, c2⟩ := zSp2 (G := G) (X2 := X2) hb hown hct hwt
  obtain ⟨d0, d1, d2, d3, d4⟩ := zCh (G := G) (M := M) (X2 := X2) hb hq hht hun hhq
  have wN : ∀ s, s < 4 → ∀ w, wa s = some w → vN (va_up f b (.inl X2)) w = vN f w ∧ vQ (va_up f b (.inl X2)) w = vQ f w := fun s hs w e => by
    obtain ⟨e1, e2⟩ := k2 s w (hwt s hs w e)
    exact ⟨vN_same e1 e2, vQ_same e1 e2⟩
  have hRc : ∀ s a, s < 4 → ∀ car2, zRc (va_up f b (.inl X2)) car2 wa s a ↔ zRc f car2 wa s a := fun s a hs car2 => zRc_same (wN s hs)
  have hV : ∀ s x, zRA G L f s x → vN (va_up f b (.inl X2)) x = vN f x ∧ vI (va_up f b (.inl X2)) x = vI f x ∧ vF (va_up f b (.inl X2)) x = vF f x := fun s x h => by
    obtain ⟨e1, e2⟩ := k1 s x h
    exact ⟨vN_same e1 e2, vI_same e1 e2, vF_same e1 e2⟩
  refine ⟨⟨c1, c2, d1, zOW_up hb how, d2, d3⟩, fun r2 s hs => ?_, fun r3 s j hs hj => ?_, fun r4 s a hs hr => ?_, fun r5 s a s2 a2 hs hs2 hr hr2 e => r5 s a s2 a2 hs hs2 ((hRc s a hs car).mp hr) ((hRc s2 a2 hs2 car).mp hr2) e, d4, fun s x h => zRA_same (k1 s x h).1 (k1 s x h).2 h, hRc, hV⟩
  · rw [r2 s hs]
    cases hw : wa s with
    | none => rfl
    | some w => show nI _ = nI _; rw [(wN s hs w hw).1]
  · rw [r3 s j hs hj]
    cases hw : wa s with
    | none => rfl
    | some w =>
      show (if j < vN f w then mq φ (vQ f w j) else -1) = (if j < vN (va_up f b (.inl X2)) w then mq φ (vQ (va_up f b (.inl X2)) w j) else -1)
      rw [(wN s hs w hw).1, (wN s hs w hw).2]
  · have hr' := (hRc s a hs car).mp hr
    obtain ⟨e1, e2, e3⟩ := hV s a (zRc_RA hinv hs hr')
    rw [e1, e2, e3]
    exact r4 s a hs hr'
/-- a change of a row that w0 owns -/
theorem zT_ow {w0 c0 b : Nat} {X X2 : ClassId × vp_A} (hinv : zINV G o ac aw ar L f ch m0 car wa ta) (hb : f b = .inl X) (hw0 : w0 ∈ L) (ho : f w0 = .inr (c0, [.ref b])) :
    zBn G L (va_up f b (.inl X2)) o ac aw ar ch car wa ta ∧ zHT G L (va_up f b (.inl X2)) ch m0 ∧ zOW L (va_up f b (.inl X2)) ∧ zUN L (va_up f b (.inl X2)) ac aw ar ch ∧ zHQ (va_up f b (.inl X2)) aw ar ch ∧ (zR6 f ch m0 M → zR6 (va_up f b (.inl X2)) ch m0 M) ∧
    (∀ x, x ≠ w0 → ∀ s, (zRA G L f s x ∨ zWA G L f s x) → va_up f b (.inl X2) x = f x ∧ va_up f b (.inl X2) (vB f x) = f (vB f x)) := by
  obtain ⟨hB, hct, hwt, hht, how, hun, hwi, hhq⟩ := id hinv
  obtain ⟨u1, u2, u3, u4⟩ := hun w0 c0 b hw0 ho
  obtain ⟨d0, d1, d2, d3, d4⟩ := zCh (G := G) (M := M) (X2 := X2) hb (fun q e => ⟨fun z => (u4 q e).1 z.symm, fun i hi z => (u4 q e).2 i hi z⟩) hht hun hhq
  obtain ⟨hm, fo, fc, fw, fr⟩ := hB
  refine ⟨⟨hm, ?_, ?_, ?_, ?_⟩, d1, zOW_up hb how, d2, d3, d4, fun x hx s h => ?_⟩
  · rw [va_up_ne _ _ (zobj_ne hb fo)]; exact fo
  · rw [va_up_ne _ _ (fun z => u1 z.symm)]; exact fc
  · rw [va_up_ne _ _ (fun z => u2 z.symm)]; exact fw
  · rw [va_up_ne _ _ (fun z => u3 z.symm)]; exact fr
  · obtain ⟨c1, h1, h2⟩ : ∃ c1, x ∈ L ∧ f x = .inr (c1, [.ref (vB f x)]) := by
      rcases h with h | h
      · exact ⟨_, h.1, h.2.2.1⟩
      · exact ⟨_, h.1, h.2.2.1⟩
    refine ⟨va_up_ne _ _ (zobj_ne hb h2), va_up_ne _ _ (fun z => hx ?_)⟩
    rw [z] at h2
    exact how.2 x w0 c1 c0 b h1 hw0 h2 ho
/-- an act that is refused -/
theorem zU_ref {why : Int64} (hw : zWhy why) (h : zREL G o ac aw ar L f ch m0 car wa ta φ M lev) : zREL G o ac aw ar L (va_up f ar (.inl (G.2 4, 8, .inl (zTa ta why)))) ch m0 car wa (zTa ta why) φ (mRef M why) lev := by
  obtain ⟨hinv, r1, r2, r3, r4, r5, r6, r7, hI⟩ := h
  obtain ⟨⟨hm, fo, fc, fw, fr⟩, hct, hwt, hht, how, hun, hwi, hhq⟩ := id hinv
  have hq : ∀ q, ch = some q → q ≠ ar ∧ ∀ i, i < eN (f q) → eQ (f q) i ≠ some ar := fun q e => by
    refine ⟨fun z => ?_, (hhq q e).2.1⟩
    have h2 := (hht q e).2.1
    rw [z, fr] at h2
    cases (zinl h2).2
  obtain ⟨⟨t1, t2, t3, t4, t5, t6⟩, k2, k3, k4, k5, k6, -, -, -⟩ := zT_sp (M := mRef M why) (φ := φ) (lev := lev) (X2 := (G.2 4, 8, .inl (zTa ta why))) hinv fr (fun x c y hx e => (hun x c y hx e).2.2.1) hq
  have n1 : ac ≠ ar := fun z => by rw [z, fr] at fc; exact absurd (zinl fc).1 (by decide)
  have n2 : aw ≠ ar := fun z => by rw [z, fr] at fw; exact absurd (zinl fw).1 (by decide)
  refine ⟨⟨⟨hm, ?_, ?_, ?_, va_up_self _ _ _⟩, t1, t2, t3, t4, t5, hwi, t6⟩, r1, k2 r2, k3 r3, k4 r4, k5 r5, k6 r6, fun k hk => ?_, hI⟩
  · rw [va_up_ne _ _ (zobj_ne fr fo)]; exact fo
  · rw [va_up_ne _ _ n1]; exact fc
  · rw [va_up_ne _ _ n2]; exact fw
  · show zTa (M 8) why k = zTa ta why k
    unfold zTa upd
    split
    · rw [r7 _ (zin_lt hw)]
    · exact r7 k hk
/-- a deck gets what a deck or a wall of the sort has, or nothing -/
theorem zU_car {k0 : Nat} {q0 : Option Nat} (hk0 : k0 < 16) (hq0 : ∀ a, q0 = some a → zRc f car wa (k0 % 4) a) (h : zREL G o ac aw ar L f ch m0 car wa ta φ M lev) : zREL G o ac aw ar L (va_up f ac (.inl (G.2 5, 16, zQ (va_up car k0 q0)))) ch m0 (va_up car k0 q0) wa ta φ (va_up M 0 (upd (M 0) k0 (mq φ q0))) lev := by
  obtain ⟨hinv, r1, r2, r3, r4, r5, r6, r7, hI⟩ := h
  obtain ⟨⟨hm, fo, fc, fw, fr⟩, hct, hwt, hht, how, hun, hwi, hhq⟩ := id hinv
  have hq : ∀ q, ch = some q → q ≠ ac ∧ ∀ i, i < eN (f q) → eQ (f q) i ≠ some ac := fun q e => by
    obtain ⟨g1, g2, g3, g4, g5⟩ := hht q e
    refine ⟨fun z => ?_, fun i hi z => ?_⟩
    · rw [z, fc] at g3
      have g33 : 16 ≤ 12 := g3
      omega
    · obtain ⟨b, e1, e2, e3⟩ := g5 i hi
      rw [z] at e1
      cases e1
      rw [fc] at e3
      cases (zinl e3).2
  obtain ⟨⟨t1, t2, t3, t4, t5, t6⟩, k2, k3, k4, k5, k6, kT, kR, kV⟩ := zT_sp (M := va_up M 0 (upd (M 0) k0 (mq φ q0))) (φ := φ) (lev := lev) (X2 := (G.2 5, 16, zQ (va_up car k0 q0))) hinv fc (fun x c y hx e => (hun x c y hx e).1) hq
  have n1 : ar ≠ ac := fun z => by rw [z, fc] at fr; exact absurd (zinl fr).1 (by decide)
  have n2 : aw ≠ ac := fun z => by rw [z, fc] at fw; exact absurd (zinl fw).1 (by decide)
  have sub : ∀ s a, s < 4 → zRc f (va_up car k0 q0) wa s a → zRc f car wa s a := fun s a hs hr => by
    rcases hr with ⟨k, hk, hkm, e⟩ | hr
    · by_cases hkk : k = k0
      · subst hkk
        rw [va_up_self] at e
        rw [← hkm]
        exact hq0 a e
      · rw [va_up_ne _ _ hkk] at e
        exact Or.inl ⟨k, hk, hkm, e⟩
    · exact Or.inr hr
  have mPq : mP (mq φ q0) := by
    cases q0 with
    | none => exact mP_n
    | some a => exact mP_r (r4 _ a (Nat.mod_lt _ (by decide)) (hq0 a rfl)).1
  refine ⟨⟨⟨hm, ?_, va_up_self _ _ _, ?_, ?_⟩, fun k hk a e => ?_, t2, t3, t4, t5, hwi, t6⟩, fun k hk => ?_, k2 r2, k3 r3, fun s a hs hr => ?_, fun s a s2 a2 hs hs2 hr hr2 e => ?_, k6 r6, r7, mI_car hI mPq⟩
  · rw [va_up_ne _ _ (zobj_ne fc fo)]; exact fo
  · rw [va_up_ne _ _ n2]; exact fw
  · rw [va_up_ne _ _ n1]; exact fr
  · apply kT
    by_cases hkk : k = k0
    · subst hkk
      rw [va_up_self] at e
      exact zRc_RA hinv (Nat.mod_lt _ (by decide)) (hq0 a e)
    · rw [va_up_ne _ _ hkk] at e
      exact hct k hk a e
  · show upd (M 0) k0 (mq φ q0) k = mq φ (va_up car k0 q0 k)
    by_cases hkk : k = k0
    · subst hkk
      rw [pk_us, va_up_self]
    · rw [pk_un hkk, va_up_ne _ _ hkk]
      exact r1 k hk
  · have hr' := sub s a hs ((kR s a hs _).mp hr)
    obtain ⟨e1, e2, e3⟩ := kV s a (zRc_RA hinv hs hr')
    rw [e1, e2, e3]
    exact r4 s a hs hr'
  · exact r5 s a s2 a2 hs hs2 (sub s a hs ((kR s a hs _).mp hr)) (sub s2 a2 hs2 ((kR s2 a2 hs2 _).mp hr2)) e
end ZU2
