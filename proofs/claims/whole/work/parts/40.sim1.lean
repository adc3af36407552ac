/-! ===== class and reference side by side ===== -/
def mq (φ : Nat → Nat) (q : Option Nat) : Int32 := match q with
  | none => -1
  | some a => nI (φ a)
/-- a reel of sort s that a deck or the sort's wall has -/
def zRc (f : Nat → va_E) (car wa : Nat → Option Nat) (s a : Nat) : Prop := (∃ k, k < 16 ∧ k % 4 = s ∧ car k = some a) ∨ ∃ w j, wa s = some w ∧ j < vN f w ∧ vQ f w j = some a
def zCo (s : Nat) (vi : Int32) (vf : UInt32) (mi : Int32) (mf : UInt32) : Prop := match s with
  | 2 => mf = vf
  | 3 => mi = vi ∧ (vi = 0 ∨ vi = 1)
  | _ => mi = vi
def mwl (f : Nat → va_E) (q : Option Nat) : Int32 := match q with
  | none => -1
  | some w => nI (vN f w)
def mrw (f : Nat → va_E) (φ : Nat → Nat) (q : Option Nat) (j : Nat) : Int32 := match q with
  | none => -1
  | some w => if j < vN f w then mq φ (vQ f w j) else -1
def mch (f : Nat → va_E) (q : Option Nat) : Int32 := match q with
  | none => -1
  | some w => nI (eN (f w))
/-- no owner has one of the barn's own rows -/
def zUN (L : List Nat) (f : Nat → va_E) (ac aw ar : Nat) (ch : Option Nat) : Prop := ∀ x c b, x ∈ L → f x = .inr (c, [.ref b]) → b ≠ ac ∧ b ≠ aw ∧ b ≠ ar ∧ ∀ q, ch = some q → b ≠ q ∧ ∀ i, i < eN (f q) → eQ (f q) i ≠ some b
def zWI (wa : Nat → Option Nat) : Prop := ∀ s s2 a, s < 4 → s2 < 4 → wa s = some a → wa s2 = some a → s = s2
def zHQ (f : Nat → va_E) (aw ar : Nat) (ch : Option Nat) : Prop := ∀ q, ch = some q → q ≠ aw ∧ (∀ i, i < eN (f q) → eQ (f q) i ≠ some ar) ∧ ∀ i j, i < eN (f q) → j < eN (f q) → eQ (f q) i = eQ (f q) j → i = j
/-- the class's side -/
def zINV (G : zG) (o ac aw ar : Nat) (L : List Nat) (f : Nat → va_E) (ch : Option Nat) (m0 : Nat) (car wa : Nat → Option Nat) (ta : Nat → Int32) : Prop :=
  zBn G L f o ac aw ar ch car wa ta ∧ zCT G L f car ∧ zWT G L f wa ∧ zHT G L f ch m0 ∧ zOW L f ∧ zUN L f ac aw ar ch ∧ zWI wa ∧ zHQ f aw ar ch
def zR1 (car : Nat → Option Nat) (φ : Nat → Nat) (M : Nat → Nat → Int32) : Prop := ∀ k, k < 16 → M 0 k = mq φ (car k)
def zR2 (f : Nat → va_E) (wa : Nat → Option Nat) (M : Nat → Nat → Int32) : Prop := ∀ s, s < 4 → M 1 s = mwl f (wa s)
def zR3 (f : Nat → va_E) (wa : Nat → Option Nat) (φ : Nat → Nat) (M : Nat → Nat → Int32) : Prop := ∀ s j, s < 4 → j < 12 → M 2 (12 * s + j) = mrw f φ (wa s) j
def zR4 (f : Nat → va_E) (car wa : Nat → Option Nat) (φ : Nat → Nat) (M : Nat → Nat → Int32) (lev : Nat → UInt32) : Prop := ∀ s a, s < 4 → zRc f car wa s a → φ a < 80 ∧ M 3 (φ a) = nI (vN f a) ∧ ∀ i, i < vN f a → zCo s (vI f a i) (vF f a i) (M 4 (40 * φ a + i)) (lev (40 * φ a + i))
def zR5 (f : Nat → va_E) (car wa : Nat → Option Nat) (φ : Nat → Nat) : Prop := ∀ s a s2 a2, s < 4 → s2 < 4 → zRc f car wa s a → zRc f car wa s2 a2 → φ a = φ a2 → a = a2
def zR6 (f : Nat → va_E) (ch : Option Nat) (m0 : Nat) (M : Nat → Nat → Int32) : Prop := M 9 0 = mch f ch ∧ ∀ q, ch = some q → M 9 1 = nI m0 ∧ ∀ i j, i < eN (f q) → j < m0 → M 7 (12 * i + j) = eI (f ((eQ (f q) i).getD 0)) j
def zR7 (ta : Nat → Int32) (M : Nat → Nat → Int32) : Prop := ∀ k, k < 8 → M 8 k = ta k
def zREL (G : zG) (o ac aw ar : Nat) (L : List Nat) (f : Nat → va_E) (ch : Option Nat) (m0 : Nat) (car wa : Nat → Option Nat) (ta : Nat → Int32) (φ : Nat → Nat) (M : Nat → Nat → Int32) (lev : Nat → UInt32) : Prop :=
  zINV G o ac aw ar L f ch m0 car wa ta ∧ zR1 car φ M ∧ zR2 f wa M ∧ zR3 f wa φ M ∧ zR4 f car wa φ M lev ∧ zR5 f car wa φ ∧ zR6 f ch m0 M ∧ zR7 ta M ∧ mI M lev
/-- some state of the class that goes with the reference's -/
def zLI2 (G : zG) (o ac aw ar : Nat) (u : va_W) (M : Nat → Nat → Int32) (lev : Nat → UInt32) : Prop := ∃ L f ch m0 car wa ta φ, u = va_pl L f ∧ zREL G o ac aw ar L f ch m0 car wa ta φ M lev
/-- answers alike, and the relation holds behind them -/
def zOK (G : zG) (ad : Nat → Nat) (o ac aw ar : Nat) (r v : Int64) (u u2 : va_W) : Prop := r = v ∧ ∃ M lev, u2 = mW G ad M lev ∧ zLI2 G o ac aw ar u M lev
/-! what depends on a cell, and what doesn't -/
section ZKEEP
variable {G : zG} {L : List Nat} {f f2 : Nat → va_E} {s a w b : Nat}
theorem zRA_obj (h : zRA G L f s a) : a ∈ L ∧ f a = .inr (zKc s, [.ref (vB f a)]) := ⟨h.1, h.2.2.1⟩
theorem zRA_same (e1 : f2 a = f a) (e2 : f2 (vB f a) = f (vB f a)) (h : zRA G L f s a) : zRA G L f2 s a := by
  have e3 := vB_ext e1
  unfold zRA vN vI vF at h ⊢
  rw [e3, e2]
  exact ⟨h.1, h.2.1, by rw [e1]; exact h.2.2.1, by rw [e2]; exact h.2.2.2.1, h.2.2.2.2⟩
theorem vN_same (e1 : f2 a = f a) (e2 : f2 (vB f a) = f (vB f a)) : vN f2 a = vN f a := by unfold vN; rw [vB_ext e1, e2]
theorem vI_same (e1 : f2 a = f a) (e2 : f2 (vB f a) = f (vB f a)) : vI f2 a = vI f a := by unfold vI; rw [vB_ext e1, e2]
theorem vF_same (e1 : f2 a = f a) (e2 : f2 (vB f a) = f (vB f a)) : vF f2 a = vF f a := by unfold vF; rw [vB_ext e1, e2]
theorem vQ_same (e1 : f2 a = f a) (e2 : f2 (vB f a) = f (vB f a)) : vQ f2 a = vQ f a := by unfold vQ; rw [vB_ext e1, e2]
theorem zWA_same (hT : ∀ x, zRA G L f s x → zRA G L f2 s x) (e1 : f2 w = f w) (e2 : f2 (vB f w) = f (vB f w)) (h : zWA G L f s w) : zWA G L f2 s w := by
  have e3 := vB_ext e1
  unfold zWA vN vQ at h ⊢
  rw [e3, e2, e1]
  obtain ⟨h1, h2, h3, h4, h5, h6⟩ := h
  exact ⟨h1, h2, h3, h4, h5, fun i hi x hx => hT x (h6 i hi x hx)⟩
theorem zHA_same {q m : Nat} (e1 : f2 q = f q) (e2 : ∀ i b, i < eN (f q) → eQ (f q) i = some b → f2 b = f b) (h : zHA G L f q m) : zHA G L f2 q m := by
  obtain ⟨h1, h2, h3, h4, h5⟩ := h
  unfold zHA
  rw [e1]
  refine ⟨h1, h2, h3, h4, fun i hi => ?_⟩
  obtain ⟨b, g1, g2, g3⟩ := h5 i hi
  refine ⟨b, g1, g2, ?_⟩
  rw [e2 i b hi g1]
  exact g3
/-- a row of its own changes: objects stay -/
theorem zup_obj {X X2 : ClassId × vp_A} {x : Nat} {o1 : Nat × List Value} (hb : f b = .inl X) : va_up f b (.inl X2) x = .inr o1 ↔ f x = .inr o1 := by
  by_cases h : x = b
  · subst h
    rw [va_up_self, hb]
    constructor <;> intro q <;> cases q
  · rw [va_up_ne _ _ h]
theorem zOW_up {X X2 : ClassId × vp_A} (hb : f b = .inl X) (h : zOW L f) : zOW L (va_up f b (.inl X2)) :=
  ⟨fun x c y hx q => h.1 x c y hx ((zup_obj hb).mp q), fun x y c e z hx hy q1 q2 => h.2 x y c e z hx hy ((zup_obj hb).mp q1) ((zup_obj hb).mp q2)⟩
theorem zobj_ne {X : ClassId × vp_A} {x : Nat} {o1 : Nat × List Value} (hb : f b = .inl X) (hx : f x = .inr o1) : x ≠ b := fun q => by rw [q, hb] at hx; cases hx
theorem zRc_same {f2 : Nat → va_E} {car wa : Nat → Option Nat} (h : ∀ w, wa s = some w → vN f2 w = vN f w ∧ vQ f2 w = vQ f w) : zRc f2 car wa s a ↔ zRc f car wa s a := by
  unfold zRc
  constructor
  · rintro (q | ⟨w, j, h1, h2, h3⟩)
    · exact Or.inl q
    · obtain ⟨e1, e2⟩ := h w h1
      rw [e1] at h2
      rw [e2] at h3
      exact Or.inr ⟨w, j, h1, h2, h3⟩
  · rintro (q | ⟨w, j, h1, h2, h3⟩)
    · exact Or.inl q
    · obtain ⟨e1, e2⟩ := h w h1
      rw [← e1] at h2
      rw [← e2] at h3
      exact Or.inr ⟨w, j, h1, h2, h3⟩
end ZKEEP
section ZU
variable {G : zG} {o ac aw ar : Nat} {L : List Nat} {f : Nat → va_E} {ch : Option Nat} {m0 : Nat} {car wa : Nat → Option Nat} {ta : Nat → Int32} {φ : Nat → Nat} {M : Nat → Nat → Int32} {lev : Nat → UInt32}
/-- reachable reels are typed -/
theorem zRc_RA {s a : Nat} (h : zINV G o ac aw ar L f ch m0 car wa ta) (hs : s < 4) (hr : zRc f car wa s a) : zRA G L f s a := by
  rcases hr with ⟨k, hk, hm, e⟩ | ⟨w, j, e1, hj, e2⟩
  · rw [← hm]
    exact h.2.1 k hk a e
  · exact (h.2.2.1 s hs w e1).2.2.2.2.2 j hj a e2
/-- a change of a row that nobody owns, and that isn't a cell of the chart: reels, walls and chart stay -/
theorem zSp {b : Nat} {X X2 : ClassId × vp_A} (hb : f b = .inl X) (hown : ∀ x c y, x ∈ L → f x = .inr (c, [.ref y]) → y ≠ b) :
    (∀ s x, zRA G L f s x → va_up f b (.inl X2) x = f x ∧ va_up f b (.inl X2) (vB f x) = f (vB f x)) ∧ (∀ s x, zWA G L f s x → va_up f b (.inl X2) x = f x ∧ va_up f b (.inl X2) (vB f x) = f (vB f x)) := by
  refine ⟨fun s x h => ?_, fun s x h => ?_⟩
  · obtain ⟨h1, h2⟩ := zRA_obj h
    exact ⟨va_up_ne _ _ (zobj_ne hb h2), va_up_ne _ _ (hown x _ _ h1 h2)⟩
  · obtain ⟨h1, h2, h3, -⟩ := h
    exact ⟨va_up_ne _ _ (zobj_ne hb h3), va_up_ne _ _ (hown x _ _ h1 h3)⟩
/-- .. as the invariant's typed parts say it -/
theorem zSp2 {b : Nat} {X X2 : ClassId × vp_A} (hb : f b = .inl X) (hown : ∀ x c y, x ∈ L → f x = .inr (c, [.ref y]) → y ≠ b) (hct : zCT G L f car) (hwt : zWT G L f wa) :
    zCT G L (va_up f b (.inl X2)) car ∧ zWT G L (va_up f b (.inl X2)) wa := by
  obtain ⟨k1, k2⟩ := zSp (G := G) (X2 := X2) hb hown
  have hT : ∀ s x, zRA G L f s x → zRA G L (va_up f b (.inl X2)) s x := fun s x h => zRA_same (k1 s x h).1 (k1 s x h).2 h
  exact ⟨fun k hk a e => hT _ _ (hct k hk a e), fun s hs a e => zWA_same (hT s) (k2 s a (hwt s hs a e)).1 (k2 s a (hwt s hs a e)).2 (hwt s hs a e)⟩
end ZU
