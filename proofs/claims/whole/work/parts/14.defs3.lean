/-! ===== walls ===== -/
abbrev vQ (f : Nat → va_E) (a : Nat) : Nat → Option Nat := eQ (f (vB f a))
def zWA (G : zG) (L : List Nat) (f : Nat → va_E) (s a : Nat) : Prop :=
  a ∈ L ∧ vB f a ∈ L ∧ f a = .inr (3, [.ref (vB f a)]) ∧ f (vB f a) = .inl (G.2 5, vN f a, zQ (vQ f a)) ∧ vN f a ≤ 12 ∧ ∀ i, i < vN f a → ∀ x, vQ f a i = some x → zRA G L f s x
def zWT (G : zG) (L : List Nat) (f : Nat → va_E) (wa : Nat → Option Nat) : Prop := ∀ s, s < 4 → ∀ a, wa s = some a → zWA G L f s a
abbrev zWa (wa : Nat → Option Nat) (t : Int32) : Nat := (wa (zS t)).getD 0
def zWF (wa : Nat → Option Nat) (t : Int32) : Int64 := if zFour t then (if wa (zS t) = none then zVACANT else 0) else zNONE
def zRoF (f : Nat → va_E) (wa : Nat → Option Nat) (t y : Int32) : Int64 := if zWF wa t = 0 then (if zHas (vN f (zWa wa t)) y then 0 else zBEYOND) else zWF wa t
def zWR (f : Nat → va_E) (wa : Nat → Option Nat) (t y : Int32) : Int64 := if zRoF f wa t y = 0 then (if vQ f (zWa wa t) y.toNatClampNeg = none then zBARE else 0) else zRoF f wa t y
abbrev zWx (f : Nat → va_E) (wa : Nat → Option Nat) (t y : Int32) : Nat := (vQ f (zWa wa t) y.toNatClampNeg).getD 0
def zWP (f : Nat → va_E) (wa : Nat → Option Nat) (t y k : Int32) : Int64 := if zWR f wa t y = 0 then (if zHas (vN f (zWx f wa t y)) k then 0 else zBEYOND) else zWR f wa t y
section ZWF
variable {G : zG} {L : List Nat} {f : Nat → va_E} {wa : Nat → Option Nat} {t y k : Int32}
theorem zget0 {q : Option Nat} (h : ¬ q = none) : q = some (q.getD 0) := by
  cases q with
  | none => exact absurd rfl h
  | some a => rfl
theorem zWF_why (h : ¬ zWF wa t = 0) : zWhy (zWF wa t) := by
  unfold zWF at h ⊢
  split
  · split
    · exact zW2
    · rename_i h1 h2; rw [if_pos h1, if_neg h2] at h; exact absurd rfl h
  · exact zW1
theorem zWF_0 (h : zWF wa t = 0) : zFour t ∧ wa (zS t) = some (zWa wa t) := by
  unfold zWF at h
  by_cases h1 : zFour t
  · rw [if_pos h1] at h
    by_cases h2 : wa (zS t) = none
    · rw [if_pos h2] at h; exact absurd h (by decide)
    · exact ⟨h1, zget0 h2⟩
  · rw [if_neg h1] at h; exact absurd h (by decide)
theorem zRoF_why (h : ¬ zRoF f wa t y = 0) : zWhy (zRoF f wa t y) := by
  unfold zRoF at h ⊢
  by_cases h1 : zWF wa t = 0
  · rw [if_pos h1] at h ⊢
    split
    · rename_i h2; rw [if_pos h2] at h; exact absurd rfl h
    · exact zW3
  · rw [if_neg h1] at h ⊢
    exact zWF_why h1
theorem zRoF_0 (h : zRoF f wa t y = 0) : zWF wa t = 0 ∧ zHas (vN f (zWa wa t)) y := by
  unfold zRoF at h
  by_cases h1 : zWF wa t = 0
  · rw [if_pos h1] at h
    by_cases h2 : zHas (vN f (zWa wa t)) y
    · exact ⟨h1, h2⟩
    · rw [if_neg h2] at h; exact absurd h (by decide)
  · rw [if_neg h1] at h; exact absurd h h1
theorem zWR_why (h : ¬ zWR f wa t y = 0) : zWhy (zWR f wa t y) := by
  unfold zWR at h ⊢
  by_cases h1 : zRoF f wa t y = 0
  · rw [if_pos h1] at h ⊢
    split
    · exact zW7
    · rename_i h2; rw [if_neg h2] at h; exact absurd rfl h
  · rw [if_neg h1] at h ⊢
    exact zRoF_why h1
theorem zWR_0 (h : zWR f wa t y = 0) : zRoF f wa t y = 0 ∧ vQ f (zWa wa t) y.toNatClampNeg = some (zWx f wa t y) := by
  unfold zWR at h
  by_cases h1 : zRoF f wa t y = 0
  · rw [if_pos h1] at h
    by_cases h2 : vQ f (zWa wa t) y.toNatClampNeg = none
    · rw [if_pos h2] at h; exact absurd h (by decide)
    · exact ⟨h1, zget0 h2⟩
  · rw [if_neg h1] at h; exact absurd h h1
theorem zWP_why (h : ¬ zWP f wa t y k = 0) : zWhy (zWP f wa t y k) := by
  unfold zWP at h ⊢
  by_cases h1 : zWR f wa t y = 0
  · rw [if_pos h1] at h ⊢
    split
    · rename_i h2; rw [if_pos h2] at h; exact absurd rfl h
    · exact zW3
  · rw [if_neg h1] at h ⊢
    exact zWR_why h1
theorem zWP_0 (h : zWP f wa t y k = 0) : zWR f wa t y = 0 ∧ zHas (vN f (zWx f wa t y)) k := by
  unfold zWP at h
  by_cases h1 : zWR f wa t y = 0
  · rw [if_pos h1] at h
    by_cases h2 : zHas (vN f (zWx f wa t y)) k
    · exact ⟨h1, h2⟩
    · rw [if_neg h2] at h; exact absurd h (by decide)
  · rw [if_neg h1] at h; exact absurd h h1
theorem zWT_at (h : zWT G L f wa) (h0 : zWF wa t = 0) : zWA G L f (zS t) (zWa wa t) := by
  obtain ⟨h1, h2⟩ := zWF_0 h0
  exact h _ (zS_lt h1) _ h2
theorem zWT_x (h : zWT G L f wa) (h0 : zWR f wa t y = 0) : zRA G L f (zS t) (zWx f wa t y) := by
  obtain ⟨h1, h2⟩ := zWR_0 h0
  obtain ⟨h3, h4⟩ := zRoF_0 h1
  obtain ⟨-, -, -, -, h5, h6⟩ := zWT_at h h3
  refine h6 _ ?_ _ h2
  have := zHas_in h4 (by omega)
  exact Nat.not_le.mp fun q => this (Or.inr q)
theorem zin12 {n : Nat} {y : Int32} (h : zHas n y) (hn : n ≤ 12) : vp_in y n := zHas_in h (by omega)
theorem zin40 {n : Nat} {y : Int32} (h : zHas n y) (hn : n ≤ 40) : vp_in y n := zHas_in h (by omega)
end ZWF
/-- an act that is refused -/
def zRefP (G : zG) (L : List Nat) (f : Nat → va_E) (ar : Nat) (ta : Nat → Int32) (why : Int64) (r : Int64) (u : va_W) : Prop := u = va_pl L (va_up f ar (.inl (G.2 4, 8, .inl (zTa ta why)))) ∧ r = why
/-- a reel's places are what they were, but gi2, gf2 -/
abbrev zPutW (G : zG) (L : List Nat) (f : Nat → va_E) (s a : Nat) (gi2 : Nat → Int32) (gf2 : Nat → UInt32) : va_W := va_pl L (va_up f (vB f a) (zCel G s (vN f a) gi2 gf2))
abbrev zCarW (G : zG) (L : List Nat) (f : Nat → va_E) (ac : Nat) (car2 : Nat → Option Nat) : va_W := va_pl L (va_up f ac (.inl (G.2 5, 16, zQ car2)))
section ZLV
variable {G : zG} {L : List Nat} {f : Nat → va_E} {s a b n : Nat} {gi : Nat → Int32} {gf : Nat → UInt32}
theorem zLev_fin (h : zReel G L f s a b n gi gf) {i : Nat} (hi : i < n) : zFin (zLev s gi gf i) := by
  unfold zLev
  split
  · exact h.2.2.2.2.2 i hi
  · exact zfin_i2f _
theorem zin_lt {i : Int32} {n : Nat} (h : vp_in i n) : i.toNatClampNeg < n := Nat.not_le.mp fun q => h (Or.inr q)
theorem zPuF_fin (h : zReel G L f s a b n gi gf) {i : Nat} {v : UInt32} (hv : vf_n32 v) : ∀ j, j < n → zFin (zPuF s gf i v j) := by
  unfold zPuF
  split
  · exact zfin_up h.2.2.2.2.2 hv
  · exact h.2.2.2.2.2
theorem zChF_fin (h : zReel G L f s a b n gi gf) {i : Nat} (hi : i < n) {how x : Int32} : ∀ j, j < n → zFin (zChF s gf i how x j) := by
  unfold zChF
  split
  · refine zfin_up h.2.2.2.2.2 ?_
    split
    · exact zsub (h.2.2.2.2.2 i hi) (zEi_fin x)
    · exact zadd (h.2.2.2.2.2 i hi) (zEi_fin x)
  · exact h.2.2.2.2.2
theorem zSuF_fin (h : zReel G L f s a b n gi gf) {i : Nat} (hi : i < n) : ∀ j, j < n → zFin (zSuF s gf i j) := by
  unfold zSuF
  split
  · exact zfin_up h.2.2.2.2.2 (zadd (h.2.2.2.2.2 i hi) zfin1)
  · exact h.2.2.2.2.2
end ZLV
