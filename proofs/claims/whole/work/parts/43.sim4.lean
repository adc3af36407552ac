section ZU4
variable {G : zG} {o ac aw ar : Nat} {L L2 : List Nat} {f F : Nat → va_E} {ch : Option Nat} {m0 : Nat} {car wa : Nat → Option Nat} {ta : Nat → Int32} {φ : Nat → Nat} {M N : Nat → Nat → Int32} {lev ln : Nat → UInt32}
theorem zExt_R {s x : Nat} (e : zExt L f L2 F) (h : zRA G L f s x) : F x = f x ∧ F (vB f x) = f (vB f x) := ⟨(e x h.1).2, (e _ h.2.1).2⟩
theorem zExt_W {s x : Nat} (e : zExt L f L2 F) (h : zWA G L f s x) : F x = f x ∧ F (vB f x) = f (vB f x) := ⟨(e x h.1).2, (e _ h.2.1).2⟩
theorem zExt_wN {w s : Nat} (e : zExt L f L2 F) (h : zWA G L f s w) : vN F w = vN f w ∧ vQ F w = vQ f w := by
  obtain ⟨e1, e2⟩ := zExt_W e h
  exact ⟨vN_same e1 e2, vQ_same e1 e2⟩
theorem zINV_ext (e : zExt L f L2 F) (ho : zOW L f → zOW L2 F) (hno : zNO L L2 F) (h : zINV G o ac aw ar L f ch m0 car wa ta) : zINV G o ac aw ar L2 F ch m0 car wa ta := by
  obtain ⟨hB, hct, hwt, hht, how, hun, hwi, hhq⟩ := h
  obtain ⟨⟨mo, mc, mw, mr⟩, -⟩ := id hB
  have eq1 : ∀ q, ch = some q → F q = f q := fun q hq => (e q (hht q hq).1).2
  refine ⟨zBn_ext e hB, fun k hk a ea => zRA_ext e (hct k hk a ea), fun s hs a ea => zWA_ext e (hwt s hs a ea), fun q hq => zHA_ext e (hht q hq), ho how, fun x c b hx ex => ?_, hwi, fun q hq => by rw [eq1 q hq]; exact hhq q hq⟩
  by_cases hxL : x ∈ L
  · rw [(e x hxL).2] at ex
    obtain ⟨u1, u2, u3, u4⟩ := hun x c b hxL ex
    exact ⟨u1, u2, u3, fun q hq => by rw [eq1 q hq]; exact u4 q hq⟩
  · have hb := hno x c b hx hxL ex
    refine ⟨fun z => hb (z ▸ mc), fun z => hb (z ▸ mw), fun z => hb (z ▸ mr), fun q hq => ⟨fun z => hb (z ▸ (hht q hq).1), fun i hi z => ?_⟩⟩
    rw [eq1 q hq] at hi z
    obtain ⟨b2, g1, g2, -⟩ := (hht q hq).2.2.2.2 i hi
    rw [z] at g1
    cases g1
    exact hb g2
theorem zREL_ext (e : zExt L f L2 F) (ho : zOW L f → zOW L2 F) (hno : zNO L L2 F) (h : zREL G o ac aw ar L f ch m0 car wa ta φ M lev) : zREL G o ac aw ar L2 F ch m0 car wa ta φ M lev := by
  obtain ⟨hinv, r1, r2, r3, r4, r5, r6, r7, hI⟩ := h
  obtain ⟨hB, hct, hwt, hht, how, hun, hwi, hhq⟩ := id hinv
  have wN : ∀ s, s < 4 → ∀ w, wa s = some w → vN F w = vN f w ∧ vQ F w = vQ f w := fun s hs w ew => zExt_wN e (hwt s hs w ew)
  have hRc : ∀ s a, s < 4 → (zRc F car wa s a ↔ zRc f car wa s a) := fun s a hs => zRc_same (wN s hs)
  refine ⟨zINV_ext e ho hno hinv, r1, fun s hs => ?_, fun s j hs hj => ?_, fun s a hs hr => ?_, fun s a s2 a2 hs hs2 hr hr2 q => r5 s a s2 a2 hs hs2 ((hRc s a hs).mp hr) ((hRc s2 a2 hs2).mp hr2) q, ⟨?_, fun q hq => ?_⟩, r7, hI⟩
  · rw [r2 s hs]
    cases hw : wa s with
    | none => rfl
    | some w => show nI _ = nI _; rw [(wN s hs w hw).1]
  · rw [r3 s j hs hj]
    cases hw : wa s with
    | none => rfl
    | some w =>
      show (if j < vN f w then mq φ (vQ f w j) else -1) = (if j < vN F w then mq φ (vQ F w j) else -1)
      rw [(wN s hs w hw).1, (wN s hs w hw).2]
  · have hr' := (hRc s a hs).mp hr
    obtain ⟨e1, e2⟩ := zExt_R e (zRc_RA hinv hs hr')
    rw [vN_same e1 e2, vI_same e1 e2, vF_same e1 e2]
    exact r4 s a hs hr'
  · rw [r6.1]
    cases hc : ch with
    | none => rfl
    | some q => show nI _ = nI _; rw [(e q (hht q hc).1).2]
  · have e1 := (e q (hht q hq).1).2
    rw [e1]
    refine ⟨(r6.2 q hq).1, fun i j hi hj => ?_⟩
    obtain ⟨b2, g1, g2, -⟩ := (hht q hq).2.2.2.2 i hi
    rw [(r6.2 q hq).2 i j hi hj, g1]
    show eI (f b2) j = eI (F b2) j
    rw [(e b2 g2).2]
/-- the reference takes a number that nobody has -/
theorem zREL_reel {U : Nat → Int32} {r : Nat} {n : Int32} (hn : ¬ n < 0) (hn2 : n.toNatClampNeg ≤ 40) (hfr : mFr M r) (h : zREL G o ac aw ar L f ch m0 car wa ta φ M lev) : zREL G o ac aw ar L f ch m0 car wa ta φ (mRl M U r n n.toNatClampNeg) (mZ 0 lev r n.toNatClampNeg) ∧ ∀ s a, s < 4 → zRc f car wa s a → φ a ≠ r := by
  obtain ⟨hinv, r1, r2, r3, r4, r5, r6, r7, hI⟩ := h
  have hne : ∀ s a, s < 4 → zRc f car wa s a → φ a ≠ r := fun s a hs hr z => by
    rcases hr with ⟨k, hk, -, ek⟩ | ⟨w, j, ew, hj, ej⟩
    · have := r1 k hk
      rw [ek] at this
      exact hfr.2.1 k hk (by rw [this, ← z]; rfl)
    · have h12 := (hinv.2.2.1 s hs w ew).2.2.2.2.1
      have := r3 s j hs (by omega)
      rw [ew] at this
      have e2 : mrw f φ (some w) j = nI (φ a) := by
        show (if j < vN f w then mq φ (vQ f w j) else -1) = _
        rw [if_pos hj, ej]
        rfl
      exact hfr.2.2 (12 * s + j) (by omega) (by rw [this, e2, z])
  refine ⟨⟨hinv, r1, r2, r3, fun s a hs hr => ?_, r5, r6, r7, mI_reel hI hn hn2⟩, hne⟩
  obtain ⟨p1, p2, p3⟩ := r4 s a hs hr
  have hz := hne s a hs hr
  have h40 := (zRc_RA hinv hs hr).2.2.2.2.1
  refine ⟨p1, ?_, fun i hi => ?_⟩
  · show upd (M 3) r n (φ a) = _
    rw [pk_un hz]
    exact p2
  · have e1 : mZ 0 (M 4) r n.toNatClampNeg (40 * φ a + i) = M 4 (40 * φ a + i) := by
      unfold mZ
      rw [if_neg (by omega)]
    have e2 : mZ 0 lev r n.toNatClampNeg (40 * φ a + i) = lev (40 * φ a + i) := by
      unfold mZ
      rw [if_neg (by omega)]
    show zCo s _ _ (mZ 0 (M 4) r n.toNatClampNeg (40 * φ a + i)) (mZ 0 lev r n.toNatClampNeg (40 * φ a + i))
    rw [e1, e2]
    exact p3 i hi
theorem mq_up {φ : Nat → Nat} {a r : Nat} {q : Option Nat} (h : ∀ x, q = some x → x ≠ a) : mq (va_up φ a r) q = mq φ q := by
  cases q with
  | none => rfl
  | some x => show nI _ = nI _; rw [va_up_ne _ _ (h x rfl)]
/-- a deck gets a reel that nobody had -/
theorem zU_set {k0 a r : Nat} (hk0 : k0 < 16) (hA : zRA G L f (k0 % 4) a) (hna : ∀ s, s < 4 → ¬ zRc f car wa s a) (hr80 : r < 80) (hr : ∀ s x, s < 4 → zRc f car wa s x → φ x ≠ r) (h3 : M 3 r = nI (vN f a)) (h4 : ∀ i, i < vN f a → zCo (k0 % 4) (vI f a i) (vF f a i) (M 4 (40 * r + i)) (lev (40 * r + i))) (h : zREL G o ac aw ar L f ch m0 car wa ta φ M lev) :
    zREL G o ac aw ar L (va_up f ac (.inl (G.2 5, 16, zQ (va_up car k0 (some a))))) ch m0 (va_up car k0 (some a)) wa ta (va_up φ a r) (va_up M 0 (upd (M 0) k0 (nI r))) lev := by
  obtain ⟨hinv, r1, r2, r3, r4, r5, r6, r7, hI⟩ := h
  obtain ⟨⟨hm, fo, fc, fw, fr⟩, hct, hwt, hht, how, hun, hwi, hhq⟩ := id hinv
  have hq : ∀ q, ch = some q → q ≠ ac ∧ ∀ i, i < eN (f q) → eQ (f q) i ≠ some ac := fun q e => by
    obtain ⟨g1, g2, g3, g4, g5⟩ := hht q e
    refine ⟨fun z => ?_, fun i hi z => ?_⟩
    · rw [z, fc] at g3
      have g33 : 16 ≤ 12 := g3
      omega
    · obtain ⟨b, e1, e2, e3⟩ := g5 i hi
      rw [z] at e1
      cases e1
      rw [fc] at e3
      cases (zinl e3).2
  obtain ⟨⟨t1, t2, t3, t4, t5, t6⟩, k2, -, -, -, k6, kT, kR, kV⟩ := zT_sp (M := va_up M 0 (upd (M 0) k0 (nI r))) (φ := φ) (lev := lev) (X2 := (G.2 5, 16, zQ (va_up car k0 (some a)))) hinv fc (fun x c y hx e => (hun x c y hx e).1) hq
  have n1 : ar ≠ ac := fun z => by rw [z, fc] at fr; exact absurd (zinl fr).1 (by decide)
  have n2 : aw ≠ ac := fun z => by rw [z, fc] at fw; exact absurd (zinl fw).1 (by decide)
  have wS := (zSp (G := G) (X2 := (G.2 5, 16, zQ (va_up car k0 (some a)))) fc (fun x c y hx e => (hun x c y hx e).1)).2
  have sub : ∀ s x, s < 4 → zRc f (va_up car k0 (some a)) wa s x → (x = a ∧ s = k0 % 4) ∨ zRc f car wa s x := fun s x hs hx => by
    rcases hx with ⟨k, hk, hkm, e⟩ | hx
    · by_cases hkk : k = k0
      · subst hkk
        rw [va_up_self] at e
        cases e
        exact Or.inl ⟨rfl, hkm.symm⟩
      · rw [va_up_ne _ _ hkk] at e
        exact Or.inr (Or.inl ⟨k, hk, hkm, e⟩)
    · exact Or.inr (Or.inr hx)
  have ne : ∀ s x, s < 4 → zRc f car wa s x → x ≠ a := fun s x hs hx z => hna s hs (z ▸ hx)
  refine ⟨⟨⟨hm, ?_, va_up_self _ _ _, ?_, ?_⟩, fun k hk x e => ?_, t2, t3, t4, t5, hwi, t6⟩, fun k hk => ?_, k2 r2, fun s j hs hj => ?_, fun s x hs hx => ?_, fun s x s2 x2 hs hs2 hx hx2 e => ?_, k6 r6, r7, mI_car hI (mP_r hr80)⟩
  · rw [va_up_ne _ _ (zobj_ne fc fo)]; exact fo
  · rw [va_up_ne _ _ n2]; exact fw
  · rw [va_up_ne _ _ n1]; exact fr
  · apply kT
    by_cases hkk : k = k0
    · subst hkk
      rw [va_up_self] at e
      cases e
      exact hA
    · rw [va_up_ne _ _ hkk] at e
      exact hct k hk x e
  · show upd (M 0) k0 (nI r) k = mq (va_up φ a r) (va_up car k0 (some a) k)
    by_cases hkk : k = k0
    · subst hkk
      rw [pk_us, va_up_self]
      show nI r = nI _
      rw [va_up_self]
    · rw [pk_un hkk, va_up_ne _ _ hkk, mq_up (fun x ex => ne (k % 4) x (Nat.mod_lt _ (by decide)) (Or.inl ⟨k, hk, rfl, ex⟩))]
      exact r1 k hk
  · show M 2 (12 * s + j) = _
    rw [r3 s j hs hj]
    cases hw : wa s with
    | none => rfl
    | some w =>
      obtain ⟨e1, e2⟩ := wS s w (hwt s hs w hw)
      show (if j < vN f w then mq φ (vQ f w j) else -1) = (if j < vN _ w then mq (va_up φ a r) (vQ _ w j) else -1)
      rw [vN_same e1 e2, vQ_same e1 e2]
      by_cases hj2 : j < vN f w
      · rw [if_pos hj2, if_pos hj2, mq_up (fun x ex => ne s x hs (Or.inr ⟨w, j, hw, hj2, ex⟩))]
      · rw [if_neg hj2, if_neg hj2]
  · rcases sub s x hs ((kR s x hs _).mp hx) with ⟨ex, es⟩ | hx'
    · subst ex
      subst es
      obtain ⟨e1, e2, e3⟩ := kV _ x hA
      rw [e1, e2, e3, va_up_self]
      exact ⟨hr80, h3, h4⟩
    · obtain ⟨e1, e2, e3⟩ := kV s x (zRc_RA hinv hs hx')
      rw [e1, e2, e3, va_up_ne _ _ (ne s x hs hx')]
      exact r4 s x hs hx'
  · rcases sub s x hs ((kR s x hs _).mp hx) with ⟨ex, -⟩ | hx' <;> rcases sub s2 x2 hs2 ((kR s2 x2 hs2 _).mp hx2) with ⟨ex2, -⟩ | hx2'
    · rw [ex, ex2]
    · rw [ex, va_up_self, va_up_ne _ _ (ne s2 x2 hs2 hx2')] at e
      exact absurd e.symm (hr s2 x2 hs2 hx2')
    · rw [ex2, va_up_self, va_up_ne _ _ (ne s x hs hx')] at e
      exact absurd e (hr s x hs hx')
    · rw [va_up_ne _ _ (ne s x hs hx'), va_up_ne _ _ (ne s2 x2 hs2 hx2')] at e
      exact r5 s x s2 x2 hs hs2 hx' hx2' e
theorem zCo_0 {s : Nat} : zCo s 0 0 0 0 := by
  unfold zCo
  split
  · rfl
  · exact ⟨rfl, Or.inl rfl⟩
  · rfl
/-- mount -/
theorem zU_mount {k0 a b r : Nat} {n : Int32} {U : Nat → Int32} (hk0 : k0 < 16) (hn : ¬ n < 0) (hn2 : n.toNatClampNeg ≤ 40) (ha : a ∉ L) (hb : b ∉ L) (hba : b ≠ a) (hfr : mFr (va_up M 0 (upd (M 0) k0 (-1))) r) (h : zREL G o ac aw ar L f ch m0 car wa ta φ M lev) :
    zREL G o ac aw ar (zNL L a b) (va_up (zNf G f (k0 % 4) n.toNatClampNeg a b) ac (.inl (G.2 5, 16, zQ (va_up car k0 (some a))))) ch m0 (va_up car k0 (some a)) wa ta (va_up φ a r) (va_up (mRl (va_up M 0 (upd (M 0) k0 (-1))) U r n n.toNatClampNeg) 0 (upd ((va_up M 0 (upd (M 0) k0 (-1))) 0) k0 (nI r))) (mZ 0 lev r n.toNatClampNeg) := by
  have mc : ac ∈ L := h.1.1.1.2.1
  have h1 := zU_car (q0 := none) hk0 (fun x e => by cases e) h
  have e1 := zAdd_ext (f := va_up f ac (.inl (G.2 5, 16, zQ (va_up car k0 none)))) (c0 := zKc (k0 % 4)) (X := (G.2 (zKa (k0 % 4)), n.toNatClampNeg, zArr (k0 % 4) (fun _ => 0) (fun _ => 0))) ha hb
  have h2 := zREL_ext e1 (zAdd_ow ha hb hba) (zAdd_no hb hba) h1
  obtain ⟨h3, hne⟩ := zREL_reel (U := U) hn hn2 hfr h2
  have hR : zReel G (zNL L a b) (zNf G (va_up f ac (.inl (G.2 5, 16, zQ (va_up car k0 none)))) (k0 % 4) n.toNatClampNeg a b) (k0 % 4) a b n.toNatClampNeg (fun _ => 0) (fun _ => 0) := zNew_reel hn2 hba
  have hinv2 := h2.1
  have hna : ∀ s, s < 4 → ¬ zRc (zNf G (va_up f ac (.inl (G.2 5, 16, zQ (va_up car k0 none)))) (k0 % 4) n.toNatClampNeg a b) (va_up car k0 none) wa s a := fun s hs q => by
    have q1 : zRc (va_up f ac (.inl (G.2 5, 16, zQ (va_up car k0 none)))) (va_up car k0 none) wa s a := (zRc_same (fun w ew => zExt_wN e1 (h1.1.2.2.1 s hs w ew))).mp q
    exact ha (zRc_RA h1.1 hs q1).1
  have eN1 := zRe_N hR
  have hz : ∀ i, i < n.toNatClampNeg → mZ 0 (M 4) r n.toNatClampNeg (40 * r + i) = 0 ∧ mZ 0 lev r n.toNatClampNeg (40 * r + i) = 0 := fun i hi => by
    unfold mZ
    rw [if_pos (by omega), if_pos (by omega)]
    exact ⟨rfl, rfl⟩
  have h5 := zU_set (r := r) hk0 (zRA_of hR) hna hfr.1 hne (by
    show upd (M 3) r n r = nI _
    rw [pk_us, eN1]
    obtain ⟨j, hj, ej⟩ := nI_of hn
    rw [ej, nI_clamp hj]) (fun i hi => by
    rw [eN1] at hi
    show zCo _ _ _ (mZ 0 (M 4) r n.toNatClampNeg (40 * r + i)) (mZ 0 lev r n.toNatClampNeg (40 * r + i))
    rw [(hz i hi).1, (hz i hi).2]
    by_cases h2 : k0 % 4 = 2
    · rw [h2] at hR ⊢
      rw [zRe_F hR]
      exact (rfl : (0 : UInt32) = 0)
    · rw [zRe_I hR h2]
      have hc := zCo_0 (s := k0 % 4)
      revert hc
      unfold zCo
      split
      · rename_i q; exact absurd q h2
      · exact fun z => z
      · exact fun z => z) h3
  have ec : va_up (va_up car k0 none) k0 (some a) = va_up car k0 (some a) := by
    funext q
    unfold va_up
    split <;> rfl
  have ef : va_up (zNf G (va_up f ac (.inl (G.2 5, 16, zQ (va_up car k0 none)))) (k0 % 4) n.toNatClampNeg a b) ac (.inl (G.2 5, 16, zQ (va_up car k0 (some a)))) = va_up (zNf G f (k0 % 4) n.toNatClampNeg a b) ac (.inl (G.2 5, 16, zQ (va_up car k0 (some a)))) := by
    funext q
    by_cases q1 : q = ac
    · rw [q1, va_up_self, va_up_self]
    · rw [va_up_ne _ _ q1, va_up_ne _ _ q1]
      show va_up _ _ _ _ = va_up _ _ _ _
      by_cases q2 : q = a
      · rw [q2, va_up_self, va_up_self]
      · rw [va_up_ne _ _ q2, va_up_ne _ _ q2]
        by_cases q3 : q = b
        · rw [q3, va_up_self, va_up_self]
        · rw [va_up_ne _ _ q3, va_up_ne _ _ q3, va_up_ne _ _ q1]
  rw [ec] at h5
  have h6 : zREL G o ac aw ar (zNL L a b) (va_up (zNf G (va_up f ac (.inl (G.2 5, 16, zQ (va_up car k0 none)))) (k0 % 4) n.toNatClampNeg a b) ac (.inl (G.2 5, 16, zQ (va_up car k0 (some a))))) ch m0 (va_up car k0 (some a)) wa ta (va_up φ a r) (va_up (mRl (va_up M 0 (upd (M 0) k0 (-1))) U r n n.toNatClampNeg) 0 (upd ((va_up M 0 (upd (M 0) k0 (-1))) 0) k0 (nI r))) (mZ 0 lev r n.toNatClampNeg) := h5
  rw [ef] at h6
  exact h6
end ZU4
