/-! ===== what grows ===== -/
def zExt (L : List Nat) (f : Nat → va_E) (L2 : List Nat) (f2 : Nat → va_E) : Prop := ∀ x, x ∈ L → x ∈ L2 ∧ f2 x = f x
/-- each row of a reel or of a wall is there, and has one owner -/
def zOW (L : List Nat) (f : Nat → va_E) : Prop := (∀ x c b, x ∈ L → f x = .inr (c, [.ref b]) → b ∈ L) ∧ ∀ x y c e b, x ∈ L → y ∈ L → f x = .inr (c, [.ref b]) → f y = .inr (e, [.ref b]) → x = y
theorem zExt.rf {L : List Nat} {f : Nat → va_E} : zExt L f L f := fun _ h => ⟨h, rfl⟩
theorem zExt.tr {L L2 L3 : List Nat} {f f2 f3 : Nat → va_E} (h : zExt L f L2 f2) (k : zExt L2 f2 L3 f3) : zExt L f L3 f3 := fun x hx => ⟨(k x (h x hx).1).1, ((k x (h x hx).1).2).trans (h x hx).2⟩
/-- a new reel at a, its row at b -/
abbrev zNL (L : List Nat) (a b : Nat) : List Nat := (L ++ [a]) ++ [b]
abbrev zNf (G : zG) (f : Nat → va_E) (s n a b : Nat) : Nat → va_E := va_up (va_up f b (zCel G s n (fun _ => 0) (fun _ => 0))) a (zObj s b)
theorem zup3 {f : Nat → va_E} {a b : Nat} {x y z : va_E} : va_up (va_up (va_up f a x) b y) a z = va_up (va_up f b y) a z := by
  funext q
  unfold va_up
  split
  · rfl
  · split
    · rfl
    · rfl
section ZNEW
variable {G : zG} {L L2 : List Nat} {f f2 : Nat → va_E} {s n a b : Nat}
theorem zNew_ext (ha : a ∉ L) (hb : b ∉ L) : zExt L f (zNL L a b) (zNf G f s n a b) := fun x hx => by
  refine ⟨List.mem_append_left _ (List.mem_append_left _ hx), ?_⟩
  have n1 : x ≠ a := fun q => ha (q ▸ hx)
  have n2 : x ≠ b := fun q => hb (q ▸ hx)
  show va_up _ _ _ _ = _
  rw [va_up_ne _ _ n1, va_up_ne _ _ n2]
theorem zNew_reel (hn : n ≤ 40) (hab : b ≠ a) : zReel G (zNL L a b) (zNf G f s n a b) s a b n (fun _ => 0) (fun _ => 0) :=
  ⟨List.mem_append_left _ (List.mem_append_right _ List.mem_cons_self), List.mem_append_right _ List.mem_cons_self, va_up_self _ _ _, by show va_up _ _ _ _ = _; rw [va_up_ne _ _ hab, va_up_self], hn, fun _ _ => zfin0⟩
theorem zNew_ow (ha : a ∉ L) (hb : b ∉ L) (hab : b ≠ a) (h : zOW L f) : zOW (zNL L a b) (zNf G f s n a b) := by
  have mem : ∀ x, x ∈ zNL L a b → x ∈ L ∨ x = a ∨ x = b := fun x hx => by
    rcases List.mem_append.mp hx with h | h
    · rcases List.mem_append.mp h with h | h
      · exact Or.inl h
      · exact Or.inr (Or.inl (List.mem_singleton.mp h))
    · exact Or.inr (Or.inr (List.mem_singleton.mp h))
  have eo : ∀ x, x ∈ L → zNf G f s n a b x = f x := fun x hx => ((zNew_ext ha hb) x hx).2
  have ea : zNf G f s n a b a = zObj s b := va_up_self _ _ _
  have eb : zNf G f s n a b b = zCel G s n (fun _ => 0) (fun _ => 0) := by show va_up _ _ _ _ = _; rw [va_up_ne _ _ hab, va_up_self]
  have nb : ∀ c b2, zNf G f s n a b b ≠ .inr (c, [.ref b2]) := fun c b2 q => by rw [eb] at q; unfold zCel at q; cases q
  have ab : ∀ c b2, zNf G f s n a b a = .inr (c, [.ref b2]) → b2 = b := fun c b2 q => by rw [ea] at q; unfold zObj at q; cases q; rfl
  refine ⟨fun x c b2 hx q => ?_, fun x y c e b2 hx hy q1 q2 => ?_⟩
  · rcases mem x hx with h1 | h1 | h1
    · rw [eo x h1] at q
      exact List.mem_append_left _ (List.mem_append_left _ (h.1 x c b2 h1 q))
    · subst h1
      rw [ab c b2 q]
      exact List.mem_append_right _ List.mem_cons_self
    · subst h1
      exact absurd q (nb c b2)
  · rcases mem x hx with h1 | h1 | h1 <;> rcases mem y hy with h2 | h2 | h2
    · rw [eo x h1] at q1
      rw [eo y h2] at q2
      exact h.2 x y c e b2 h1 h2 q1 q2
    · subst h2
      rw [eo x h1] at q1
      have := ab e b2 q2
      subst this
      exact absurd (h.1 x c b2 h1 q1) hb
    · subst h2
      exact absurd q2 (nb e b2)
    · subst h1
      rw [eo y h2] at q2
      have := ab c b2 q1
      subst this
      exact absurd (h.1 y e b2 h2 q2) hb
    · rw [h1, h2]
    · subst h2
      exact absurd q2 (nb e b2)
    · subst h1
      exact absurd q1 (nb c b2)
    · subst h1
      exact absurd q1 (nb c b2)
    · subst h1
      exact absurd q1 (nb c b2)
theorem zReel_ext {gi : Nat → Int32} {gf : Nat → UInt32} (e : zExt L f L2 f2) (h : zReel G L f s a b n gi gf) : zReel G L2 f2 s a b n gi gf :=
  ⟨(e a h.1).1, (e b h.2.1).1, by rw [(e a h.1).2]; exact h.2.2.1, by rw [(e b h.2.1).2]; exact h.2.2.2.1, h.2.2.2.2⟩
theorem vB_ext (e : f2 a = f a) : vB f2 a = vB f a := by unfold vB; rw [e]
theorem zRA_ext (e : zExt L f L2 f2) (h : zRA G L f s a) : zRA G L2 f2 s a := zRA_of (zReel_ext e h)
theorem zWA_ext (e : zExt L f L2 f2) (h : zWA G L f s a) : zWA G L2 f2 s a := by
  obtain ⟨h1, h2, h3, h4, h5, h6⟩ := h
  have e1 : f2 a = f a := (e a h1).2
  have e2 : vB f2 a = vB f a := vB_ext e1
  have e3 : f2 (vB f a) = f (vB f a) := (e _ h2).2
  unfold zWA vN vQ
  rw [e2, e1, e3]
  exact ⟨(e a h1).1, (e _ h2).1, h3, h4, h5, fun i hi x hx => zRA_ext e (h6 i hi x hx)⟩
theorem zHA_ext {q m : Nat} (e : zExt L f L2 f2) (h : zHA G L f q m) : zHA G L2 f2 q m := by
  obtain ⟨h1, h2, h3, h4, h5⟩ := h
  have e1 : f2 q = f q := (e q h1).2
  unfold zHA
  rw [e1]
  refine ⟨(e q h1).1, h2, h3, h4, fun i hi => ?_⟩
  obtain ⟨b, g1, g2, g3⟩ := h5 i hi
  refine ⟨b, g1, (e b g2).1, ?_⟩
  rw [(e b g2).2]
  exact g3
theorem zBn_ext {o ac aw ar : Nat} {ch : Option Nat} {car wa : Nat → Option Nat} {ta : Nat → Int32} (e : zExt L f L2 f2) (h : zBn G L f o ac aw ar ch car wa ta) : zBn G L2 f2 o ac aw ar ch car wa ta := by
  obtain ⟨⟨m1, m2, m3, m4⟩, f1, g2, g3, g4⟩ := h
  exact ⟨⟨(e _ m1).1, (e _ m2).1, (e _ m3).1, (e _ m4).1⟩, by rw [(e _ m1).2]; exact f1, by rw [(e _ m2).2]; exact g2, by rw [(e _ m3).2]; exact g3, by rw [(e _ m4).2]; exact g4⟩
end ZNEW
theorem zS_is {t : Int32} {k : Nat} (hk : k < 4) (h : t = nI k) : zS t = k := by
  unfold zS
  rw [h, nI_clamp (by omega)]
theorem zS_is3 {t : Int32} (ht : zFour t) (h0 : ¬ t = 0) (h1 : ¬ t = 1) (h2 : ¬ t = 2) : zS t = 3 := by
  obtain ⟨b, hb, eb⟩ := zFour_of ht
  have e := zS_is hb eb
  rw [e]
  have n0 : b ≠ 0 := fun q => h0 (by rw [eb, q]; rfl)
  have n1 : b ≠ 1 := fun q => h1 (by rw [eb, q]; rfl)
  have n2 : b ≠ 2 := fun q => h2 (by rw [eb, q]; rfl)
  omega
/-- what is new owns nothing that was there -/
def zNO (L L2 : List Nat) (f2 : Nat → va_E) : Prop := ∀ x c b, x ∈ L2 → x ∉ L → f2 x = .inr (c, [.ref b]) → b ∉ L
/-! a wall that grows, row by row -/
def zLI (G : zG) (L : List Nat) (f : Nat → va_E) (s rows cols i a b : Nat) (L2 : List Nat) (f2 : Nat → va_E) (g : Nat → Option Nat) : Prop :=
  zExt L f L2 f2 ∧ (a ∉ L ∧ b ∉ L ∧ a ∈ L2 ∧ b ∈ L2) ∧ f2 a = .inr (3, [.ref b]) ∧ f2 b = .inl (G.2 5, rows, zQ g) ∧ (∀ j, j < i → ∃ x y, g j = some x ∧ x ∉ L ∧ y ∉ L ∧ zReel G L2 f2 s x y cols (fun _ => 0) (fun _ => 0)) ∧ (∀ j k, j < i → k < i → g j = g k → j = k) ∧ ((zOW L f → zOW L2 f2) ∧ zNO L L2 f2)
def zNW (G : zG) (L : List Nat) (f : Nat → va_E) (s rows cols a : Nat) (L2 : List Nat) (f2 : Nat → va_E) : Prop :=
  zExt L f L2 f2 ∧ a ∉ L ∧ zWA G L2 f2 s a ∧ vN f2 a = rows ∧ vB f2 a ∉ L ∧ (∀ i, i < rows → ∃ x y, vQ f2 a i = some x ∧ x ∉ L ∧ y ∉ L ∧ zReel G L2 f2 s x y cols (fun _ => 0) (fun _ => 0)) ∧ (∀ i j, i < rows → j < rows → vQ f2 a i = vQ f2 a j → i = j) ∧ ((zOW L f → zOW L2 f2) ∧ zNO L L2 f2)
section ZLOOP
variable {G : zG} {L L2 : List Nat} {f f2 : Nat → va_E} {s rows cols i a b : Nat} {g : Nat → Option Nat}
theorem zLI_end (hr : rows ≤ 12) (h : zLI G L f s rows cols rows a b L2 f2 g) : zNW G L f s rows cols a L2 f2 := by
  obtain ⟨h1, ⟨h2, h3, h4, h5⟩, h6, h7, h8, h9, h10⟩ := h
  have eB : vB f2 a = b := by unfold vB; rw [h6]
  have eN1 : vN f2 a = rows := by unfold vN; rw [eB, h7]; rfl
  have eQ1 : vQ f2 a = g := by unfold vQ; rw [eB, h7]; rfl
  refine ⟨h1, h2, ⟨h4, by rw [eB]; exact h5, by rw [eB]; exact h6, by rw [eN1, eQ1, eB]; exact h7, by rw [eN1]; exact hr, fun j hj x hx => ?_⟩, eN1, by rw [eB]; exact h3, fun j hj => ?_, fun j k hj hk q => ?_, h10⟩
  · rw [eN1] at hj
    rw [eQ1] at hx
    obtain ⟨x2, y, g1, -, -, g4⟩ := h8 j hj
    rw [g1] at hx
    cases hx
    exact zRA_of g4
  · rw [eQ1]
    exact h8 j hj
  · rw [eQ1] at q
    exact h9 j k hj hk q
theorem zLI_step {x y : Nat} (hc : cols ≤ 40) (hi : i < rows) (hx : x ∉ L2) (hy : y ∉ L2) (hxy : y ≠ x) (h : zLI G L f s rows cols i a b L2 f2 g) : zLI G L f s rows cols (i + 1) a b (zNL L2 x y) (va_up (zNf G f2 s cols x y) b (.inl (G.2 5, rows, zQ (va_up g i (some x))))) (va_up g i (some x)) := by
  obtain ⟨h1, ⟨h2, h3, h4, h5⟩, h6, h7, h8, h9, h10⟩ := h
  have e := zNew_ext (G := G) (f := f2) (s := s) (n := cols) hx hy
  have hab : a ≠ b := fun q => by rw [q, h7] at h6; cases h6
  have nL : ∀ z, z ∉ L2 → z ∉ L := fun z hz q => hz (h1 z q).1
  have up : ∀ z, z ≠ b → va_up (zNf G f2 s cols x y) b (.inl (G.2 5, rows, zQ (va_up g i (some x)))) z = zNf G f2 s cols x y z := fun z hz => va_up_ne _ _ hz
  have keep : ∀ (x2 y2 : Nat), zReel G (zNL L2 x y) (zNf G f2 s cols x y) s x2 y2 cols (fun _ => 0) (fun _ => 0) → y2 ∉ L ∨ True → y2 ≠ b → zReel G (zNL L2 x y) (va_up (zNf G f2 s cols x y) b (.inl (G.2 5, rows, zQ (va_up g i (some x))))) s x2 y2 cols (fun _ => 0) (fun _ => 0) := fun x2 y2 hr _ hyb => by
    have hxb : x2 ≠ b := fun q => by
      have h0 := hr.2.2.1
      rw [q, (e b h5).2, h7] at h0
      unfold zObj at h0
      cases h0
    exact ⟨hr.1, hr.2.1, by rw [up _ hxb]; exact hr.2.2.1, by rw [up _ hyb]; exact hr.2.2.2.1, hr.2.2.2.2⟩
  refine ⟨fun z hz => ⟨(e z (h1 z hz).1).1, ?_⟩, ⟨h2, h3, (e a h4).1, (e b h5).1⟩, ?_, va_up_self _ _ _, fun j hj => ?_, fun j k hj hk q => ?_, fun ho => ?_, fun z c b2 hz hzL q => ?_⟩
  · rw [up z (fun q => h3 (q ▸ hz)), (e z (h1 z hz).1).2]
    exact (h1 z hz).2
  · rw [up a hab, (e a h4).2]
    exact h6
  · by_cases hji : j = i
    · subst hji
      refine ⟨x, y, va_up_self _ _ _, nL x hx, nL y hy, ?_⟩
      exact keep x y (zNew_reel hc hxy) (Or.inr trivial) (fun q => hy (q ▸ h5))
    · obtain ⟨x2, y2, g1, g2, g3, g4⟩ := h8 j (by omega)
      refine ⟨x2, y2, by rw [va_up_ne _ _ hji]; exact g1, g2, g3, ?_⟩
      refine keep x2 y2 (zReel_ext e g4) (Or.inr trivial) (fun q => ?_)
      have h0 := g4.2.2.2.1
      rw [q, h7] at h0
      unfold zCel at h0
      simp only [Sum.inl.injEq, Prod.mk.injEq] at h0
      have h00 := h0.2.2
      unfold zArr at h00
      split at h00 <;> cases h00
  · have hne : ∀ j2, j2 < i → g j2 ≠ some x := fun j2 hj2 q => by
      obtain ⟨x2, y2, g1, g2, g3, g4⟩ := h8 j2 hj2
      rw [g1] at q
      cases q
      exact hx g4.1
    by_cases hji : j = i <;> by_cases hki : k = i
    · omega
    · subst hji
      rw [va_up_self, va_up_ne _ _ hki] at q
      exact absurd q.symm (hne k (by omega))
    · subst hki
      rw [va_up_self, va_up_ne _ _ hji] at q
      exact absurd q (hne j (by omega))
    · rw [va_up_ne _ _ hji, va_up_ne _ _ hki] at q
      exact h9 j k (by omega) (by omega) q
  · have o2 := zNew_ow (G := G) (s := s) (n := cols) hx hy hxy (h10.1 ho)
    have nb : ∀ z c b2, va_up (zNf G f2 s cols x y) b (.inl (G.2 5, rows, zQ (va_up g i (some x)))) z = .inr (c, [.ref b2]) → zNf G f2 s cols x y z = .inr (c, [.ref b2]) := fun z c b2 q => by
      by_cases hz : z = b
      · subst hz
        rw [va_up_self] at q
        cases q
      · rw [up z hz] at q
        exact q
    exact ⟨fun z c b2 hz q => o2.1 z c b2 hz (nb z c b2 q), fun z1 z2 c1 c2 b2 m1 m2 q1 q2 => o2.2 z1 z2 c1 c2 b2 m1 m2 (nb _ _ _ q1) (nb _ _ _ q2)⟩
  · by_cases hzb : z = b
    · subst hzb
      rw [va_up_self] at q
      cases q
    · rw [up z hzb] at q
      rcases List.mem_append.mp hz with hz | hz
      · rcases List.mem_append.mp hz with hz | hz
        · rw [(e z hz).2] at q
          exact h10.2 z c b2 hz hzL q
        · have ez := List.mem_singleton.mp hz
          subst ez
          have q2 : zObj s y = .inr (c, [.ref b2]) := (va_up_self _ _ _).symm.trans q
          unfold zObj at q2
          cases q2
          exact nL y hy
      · have ez := List.mem_singleton.mp hz
        subst ez
        have q2 : zCel G s cols (fun _ => 0) (fun _ => 0) = .inr (c, [.ref b2]) := by
          rw [← q]
          show _ = va_up _ _ _ _
          rw [va_up_ne _ _ hxy, va_up_self]
        unfold zCel at q2
        cases q2
end ZLOOP
