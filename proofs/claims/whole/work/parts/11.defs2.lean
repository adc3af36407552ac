/-! ===== what the acts on a place make of it ===== -/
def zRek (x how n : Int32) : Int32 := if how = 0 then x + n else if how = 1 then x - n else if how = 2 then x * n else if how = 3 then x / n else if how = 4 then x <<< ((n &&& 31) &&& 31) else if how = 5 then (x.toUInt32 >>> ((n &&& 31).toUInt32 &&& Int32.toUInt32 31)).toInt32 else if how = 6 then x ^^^ n else if how = 7 then x &&& n else x ||| n
def zChI (s : Nat) (gi : Nat → Int32) (gf : Nat → UInt32) (i : Nat) (how x : Int32) : Nat → Int32 := match s with
  | 2 => gi
  | _ => upd gi i (zNar s (zRek (zTold s gi gf i) how x))
def zChF (s : Nat) (gf : Nat → UInt32) (i : Nat) (how x : Int32) : Nat → UInt32 := match s with
  | 2 => vf_upd gf i (zHe (if how = 1 then FP.fsub (gf i) (zEi x) else FP.fadd (gf i) (zEi x)))
  | _ => gf
def zSuI (s : Nat) (gi : Nat → Int32) (gf : Nat → UInt32) (i : Nat) : Nat → Int32 := match s with
  | 2 => gi
  | _ => upd gi i (zNar s (zTold s gi gf i + 1))
def zSuF (s : Nat) (gf : Nat → UInt32) (i : Nat) : Nat → UInt32 := match s with
  | 2 => vf_upd gf i (zHe (FP.fadd (gf i) FP.fconst1))
  | _ => gf
def zLev (s : Nat) (gi : Nat → Int32) (gf : Nat → UInt32) (i : Nat) : UInt32 := match s with
  | 2 => gf i
  | _ => FP.i2f (zTold s gi gf i)
def zPlI (s : Nat) (gi : Nat → Int32) (i : Nat) (v : UInt32) : Nat → Int32 := match s with
  | 2 => gi
  | _ => upd gi i (zNar s (FP.f2i v))
/-! ===== reading cells ===== -/
def vB (f : Nat → va_E) (a : Nat) : Nat := match f a with
  | .inr (_, [.ref b]) => b
  | _ => 0
def eN (x : va_E) : Nat := match x with
  | .inl (_, n, _) => n
  | _ => 0
def eI (x : va_E) : Nat → Int32 := match x with
  | .inl (_, _, .inl g) => g
  | _ => fun _ => 0
def eF (x : va_E) : Nat → UInt32 := match x with
  | .inl (_, _, .inr (.inr (.inl g))) => g
  | _ => fun _ => 0
def eQ (x : va_E) : Nat → Option Nat := match x with
  | .inl (_, _, .inr (.inr (.inr (.inr g)))) => g
  | _ => fun _ => none
abbrev vN (f : Nat → va_E) (a : Nat) : Nat := eN (f (vB f a))
abbrev vI (f : Nat → va_E) (a : Nat) : Nat → Int32 := eI (f (vB f a))
abbrev vF (f : Nat → va_E) (a : Nat) : Nat → UInt32 := eF (f (vB f a))
/-- a reel of sort s at a -/
def zRA (G : zG) (L : List Nat) (f : Nat → va_E) (s a : Nat) : Prop := zReel G L f s a (vB f a) (vN f a) (vI f a) (vF f a)
section ZRE
variable {G : zG} {L : List Nat} {f : Nat → va_E} {s a b n : Nat} {gi : Nat → Int32} {gf : Nat → UInt32}
theorem zRe_B (h : zReel G L f s a b n gi gf) : vB f a = b := by
  have h1 := h.2.2.1
  unfold vB
  rw [h1]
  rfl
theorem zRe_N (h : zReel G L f s a b n gi gf) : vN f a = n := by
  unfold vN
  rw [zRe_B h, h.2.2.2.1]
  rfl
theorem zRe_I (h : zReel G L f s a b n gi gf) (hs : ¬ s = 2) : vI f a = gi := by
  unfold vI
  rw [zRe_B h, h.2.2.2.1]
  unfold zCel zArr
  split
  · exact absurd rfl hs
  · rfl
theorem zRe_F (h : zReel G L f 2 a b n gi gf) : vF f a = gf := by
  unfold vF
  rw [zRe_B h, h.2.2.2.1]
  rfl
theorem zCel_i (G : zG) {s n : Nat} (hs : ¬ s = 2) (gi : Nat → Int32) (gf gf2 : Nat → UInt32) : zCel G s n gi gf = zCel G s n gi gf2 := by
  unfold zCel zArr
  split
  · exact absurd rfl hs
  · rfl
theorem zCel_f (G : zG) (n : Nat) (gi gi2 : Nat → Int32) (gf : Nat → UInt32) : zCel G 2 n gi gf = zCel G 2 n gi2 gf := rfl
/-- what a reel's cells are, read off the world -/
theorem zRA_of (h : zReel G L f s a b n gi gf) : zRA G L f s a := by
  have e1 := zRe_B h
  have e2 := zRe_N h
  unfold zRA
  rw [e1, e2]
  obtain ⟨h1, h2, h3, h4, h5, h6⟩ := id h
  by_cases hs : s = 2
  · subst hs
    rw [zRe_F h]
    exact ⟨h1, h2, h3, by rw [h4]; rfl, h5, h6⟩
  · rw [zRe_I h hs]
    refine ⟨h1, h2, h3, by rw [h4]; exact zCel_i G hs _ _ _, h5, fun j _ => ?_⟩
    have : vF f a = fun _ => 0 := by
      unfold vF
      rw [e1, h4]
      unfold zCel zArr
      split
      · exact absurd rfl hs
      · rfl
    rw [this]
    exact zfin0
theorem zRe_ne (h : zReel G L f s a b n gi gf) : a ≠ b := by
  intro q
  have h1 := h.2.2.1
  have h2 := h.2.2.2.1
  rw [q, h2] at h1
  unfold zCel zObj at h1
  cases h1
theorem zRe_up (h : zReel G L f s a b n gi gf) {gi2 : Nat → Int32} {gf2 : Nat → UInt32} (hf : ∀ j, j < n → zFin (gf2 j)) : zReel G L (va_up f b (zCel G s n gi2 gf2)) s a b n gi2 gf2 :=
  ⟨h.1, h.2.1, by rw [va_up_ne _ _ (zRe_ne h)]; exact h.2.2.1, va_up_self _ _ _, h.2.2.2.2.1, hf⟩
end ZRE
theorem zfin_up {gf : Nat → UInt32} {n i : Nat} {v : UInt32} (h : ∀ j, j < n → zFin (gf j)) (hv : vf_n32 v) : ∀ j, j < n → zFin (vf_upd gf i (zHe v) j) := by
  intro j hj
  unfold vf_upd
  split
  · exact zHe_fin hv
  · exact h j hj
/-! ===== the barn: its object, the decks' row, the walls' row, the tally's row ===== -/
abbrev zQ (g : Nat → Option Nat) : zAr := .inr (.inr (.inr (.inr g)))
def zBn (G : zG) (L : List Nat) (f : Nat → va_E) (o ac aw ar : Nat) (ch : Option Nat) (car wa : Nat → Option Nat) (ta : Nat → Int32) : Prop :=
  (o ∈ L ∧ ac ∈ L ∧ aw ∈ L ∧ ar ∈ L) ∧ f o = .inr (5, [.ref ac, .ref aw, .ref ar, va_rf ch]) ∧ f ac = .inl (G.2 5, 16, zQ car) ∧ f aw = .inl (G.2 6, 4, zQ wa) ∧ f ar = .inl (G.2 4, 8, .inl ta)
abbrev zix (d t : Int32) : Nat := (d * 4 + t).toNatClampNeg
abbrev zS (t : Int32) : Nat := t.toNatClampNeg
theorem zix_nI {a b : Nat} (ha : a < 4) (hb : b < 4) : (nI a * 4 + nI b) = nI (a * 4 + b) := by
  rw [show (4 : Int32) = nI 4 from rfl, pk_mul, nI_add]
theorem zix_of {d t : Int32} (hd : zFour d) (ht : zFour t) : ∃ a b, a < 4 ∧ b < 4 ∧ d = nI a ∧ t = nI b ∧ zix d t = a * 4 + b ∧ zS t = b := by
  obtain ⟨a, ha, ea⟩ := zFour_of hd
  obtain ⟨b, hb, eb⟩ := zFour_of ht
  refine ⟨a, b, ha, hb, ea, eb, ?_, ?_⟩
  · unfold zix
    rw [ea, eb, zix_nI ha hb, nI_clamp (by omega)]
  · unfold zS
    rw [eb, nI_clamp (by omega)]
theorem zix_in {d t : Int32} (hd : zFour d) (ht : zFour t) : vp_in (d * 4 + t) 16 := by
  obtain ⟨a, b, ha, hb, ea, eb, -, -⟩ := zix_of hd ht
  rw [ea, eb, zix_nI ha hb]
  exact vp_in_nI (by omega) (by decide)
theorem zfour_in {t : Int32} (ht : zFour t) : vp_in t 4 := by
  obtain ⟨b, hb, eb⟩ := zFour_of ht
  rw [eb]
  exact vp_in_nI hb (by decide)
theorem zS_lt {t : Int32} (ht : zFour t) : zS t < 4 := by
  obtain ⟨b, hb, eb⟩ := zFour_of ht
  unfold zS
  rw [eb, nI_clamp (by omega)]
  exact hb
theorem zS_or {t : Int32} (ht : zFour t) : zS t = 0 ∨ zS t = 1 ∨ zS t = 2 ∨ zS t = 3 := by
  have := zS_lt ht
  omega
/-- the tally's place of a refusal -/
abbrev zWi (why : Int64) : Int32 := (why >>> ((40 : Int32).toInt64 &&& 63)).toInt32
abbrev zWhy (why : Int64) : Prop := vp_in (zWi why) 8
def zTa (ta : Nat → Int32) (why : Int64) : Nat → Int32 := upd ta (zWi why).toNatClampNeg (ta (zWi why).toNatClampNeg + 1)
abbrev zNONE : Int64 := 1099511627776
abbrev zVACANT : Int64 := 2199023255552
abbrev zBEYOND : Int64 := 3298534883328
abbrev zNEGATIVE : Int64 := 4398046511104
abbrev zGREAT : Int64 := 5497558138880
abbrev zDIVIDED : Int64 := 6597069766656
abbrev zBARE : Int64 := 7696581394432
theorem zW1 : zWhy zNONE := by unfold zWhy vp_in; decide +kernel
theorem zW2 : zWhy zVACANT := by unfold zWhy vp_in; decide +kernel
theorem zW3 : zWhy zBEYOND := by unfold zWhy vp_in; decide +kernel
theorem zW4 : zWhy zNEGATIVE := by unfold zWhy vp_in; decide +kernel
theorem zW5 : zWhy zGREAT := by unfold zWhy vp_in; decide +kernel
theorem zW6 : zWhy zDIVIDED := by unfold zWhy vp_in; decide +kernel
theorem zW7 : zWhy zBARE := by unfold zWhy vp_in; decide +kernel
/-- which refusals an act may answer -/
abbrev zHas (n : Nat) (i : Int32) : Prop := ¬ i < 0 ∧ ¬ nI n ≤ i
theorem zHas_in {n : Nat} {i : Int32} (h : zHas n i) (hn : n < 2 ^ 31) : vp_in i n := by
  rintro (q | q)
  · exact h.1 q
  · apply h.2
    rw [Int32.le_iff_toInt_le, nI_toInt hn]
    have := h.1
    rw [Int32.lt_iff_toInt_lt] at this
    have e : i.toNatClampNeg = i.toInt.toNat := rfl
    rw [Int32.toInt_zero] at this
    omega
def zRF (car : Nat → Option Nat) (d t : Int32) : Int64 := if zFour d ∧ zFour t then (if car (zix d t) = none then zVACANT else 0) else zNONE
abbrev zA (car : Nat → Option Nat) (d t : Int32) : Nat := (car (zix d t)).getD 0
def zPF (f : Nat → va_E) (car : Nat → Option Nat) (d t i : Int32) : Int64 := if zRF car d t = 0 then (if zHas (vN f (zA car d t)) i then 0 else zBEYOND) else zRF car d t
def zGF (rows cols : Int32) : Int64 := if 12 < rows ∨ ¬ cols ≤ 12 then zGREAT else if rows < 0 ∨ ¬ 0 ≤ cols then zNEGATIVE else 0
theorem zRF_why {car : Nat → Option Nat} {d t : Int32} (h : ¬ zRF car d t = 0) : zWhy (zRF car d t) := by
  unfold zRF at h ⊢
  split
  · split
    · exact zW2
    · rename_i h1 h2; rw [if_pos h1, if_neg h2] at h; exact absurd rfl h
  · exact zW1
theorem zRF_0 {car : Nat → Option Nat} {d t : Int32} (h : zRF car d t = 0) : zFour d ∧ zFour t ∧ car (zix d t) = some (zA car d t) := by
  unfold zRF at h
  by_cases h1 : zFour d ∧ zFour t
  · rw [if_pos h1] at h
    by_cases h2 : car (zix d t) = none
    · rw [if_pos h2] at h; exact absurd h (by decide)
    · refine ⟨h1.1, h1.2, ?_⟩
      cases h3 : car (zix d t) with
      | none => exact absurd h3 h2
      | some a => unfold zA; rw [h3]; rfl
  · rw [if_neg h1] at h; exact absurd h (by decide)
theorem zPF_why {f : Nat → va_E} {car : Nat → Option Nat} {d t i : Int32} (h : ¬ zPF f car d t i = 0) : zWhy (zPF f car d t i) := by
  unfold zPF at h ⊢
  by_cases h1 : zRF car d t = 0
  · rw [if_pos h1] at h ⊢
    split
    · rename_i h2; rw [if_pos h2] at h; exact absurd rfl h
    · exact zW3
  · rw [if_neg h1] at h ⊢
    exact zRF_why h1
theorem zPF_0 {f : Nat → va_E} {car : Nat → Option Nat} {d t i : Int32} (h : zPF f car d t i = 0) : zRF car d t = 0 ∧ zHas (vN f (zA car d t)) i := by
  unfold zPF at h
  by_cases h1 : zRF car d t = 0
  · rw [if_pos h1] at h
    by_cases h2 : zHas (vN f (zA car d t)) i
    · exact ⟨h1, h2⟩
    · rw [if_neg h2] at h; exact absurd h (by decide)
  · rw [if_neg h1] at h; exact absurd h h1
theorem zGF_why {r c : Int32} (h : ¬ zGF r c = 0) : zWhy (zGF r c) := by
  unfold zGF at h ⊢
  split
  · exact zW5
  · split
    · exact zW4
    · rename_i h1 h2; rw [if_neg h1, if_neg h2] at h; exact absurd rfl h
abbrev zKnow (t how : Int32) : Prop := (t = 2 ∧ (how = 0 ∨ how = 1)) ∨ (¬ t = 2 ∧ t = 3 ∧ (how = 6 ∨ how = 7 ∨ how = 8)) ∨ (¬ t = 2 ∧ ¬ t = 3 ∧ ¬ how < 0 ∧ ¬ 8 < how)
/-- every deck carries reels of the right sort -/
def zCT (G : zG) (L : List Nat) (f : Nat → va_E) (car : Nat → Option Nat) : Prop := ∀ k, k < 16 → ∀ a, car k = some a → zRA G L f (k % 4) a
theorem zCT_at {G : zG} {L : List Nat} {f : Nat → va_E} {car : Nat → Option Nat} {d t : Int32} (h : zCT G L f car) (h0 : zRF car d t = 0) : zRA G L f (zS t) (zA car d t) := by
  obtain ⟨hd, ht, hc⟩ := zRF_0 h0
  obtain ⟨a, b, ha, hb, -, -, e1, e2⟩ := zix_of hd ht
  rw [e2]
  rw [e1] at hc
  have := h (a * 4 + b) (by omega) _ hc
  rw [show (a * 4 + b) % 4 = b by omega] at this
  exact this
theorem zRk_s (s : Nat) : zRk (zKc s) := by
  unfold zKc zRk
  split <;> simp
section ZPQ
variable {p : Program} {l : Launch} {e : Env} {R : Room} {s : State} {m : MethodId} {args : Array Value} {below : List Frame} {meth : Method} {c : Code} {H : Heap} {locs : List Loc} {cells slots mc ms : Nat} {Q : State → Prop} {cc : ByteArray} {pc : Nat} {ls : Array Slot} {rest st0 : List Value} {G : zG} {A : Nat → Prop} {L : List Nat} {f : Nat → va_E} {a : Nat}
theorem px_astRQ (hx : p.tables.exec = Jvm.exec) (hb : c.code = cc) (hK : zK G s) (w : zW G A s H locs (va_pl L f)) (ha : a ∈ L) {n : Nat} {q : Option Nat} {g : Nat → Option Nat} (hf : f a = .inl (G.2 5, n, .inr (.inr (.inr (.inr g))))) (hv : ∀ v, q = some v → ∃ s, zRA G L f s v) {i : Int32} (hi : vp_in i n) (hdg : decode cc pc = .ok (.aastore, 1))
    (kk : ∀ (H1 : Heap) (locs1 : List Loc), zW G A s H1 locs1 (va_pl L (va_up f a (.inl (G.2 5, n, zQ (va_up g i.toNatClampNeg q))))) → W p l e R s m args below meth c H1 locs1 cells slots Q (F0 m (pc + 1) ls rest)) : W p l e R s m args below meth c H locs cells slots Q (F0 m pc ls (va_rf q :: .int i :: .ref a :: rest)) := by
  cases q with
  | none => exact px_astRN hx hb hK w ha hf hi hdg kk
  | some v =>
    obtain ⟨t, h1, -, h3, -⟩ := hv v rfl
    exact px_astR (ci := zKc t) hx hb hK w ha hf h1 h3 (zRk_s t) hi hdg kk
end ZPQ
section ZNE
variable {s i : Nat} {gi : Nat → Int32} {gf : Nat → UInt32} {how x : Int32} {v : UInt32} (hs : s = 0 ∨ s = 1 ∨ s = 3)
theorem zne2 {s : Nat} (hs : s = 0 ∨ s = 1 ∨ s = 3) : ¬ s = 2 := by omega
theorem zPuF_of {s i : Nat} {gf : Nat → UInt32} {v : UInt32} (hs : ¬ s = 2) : zPuF s gf i v = gf := by
  unfold zPuF
  split
  · exact absurd rfl hs
  · rfl
theorem zPuI_of {s i : Nat} {gi : Nat → Int32} {x : Int32} (hs : ¬ s = 2) : zPuI s gi i x = upd gi i (zNar s x) := by
  unfold zPuI
  split
  · exact absurd rfl hs
  · rfl
theorem zChF_of {s i : Nat} {gf : Nat → UInt32} {how x : Int32} (hs : ¬ s = 2) : zChF s gf i how x = gf := by
  unfold zChF
  split
  · exact absurd rfl hs
  · rfl
theorem zChI_of {s i : Nat} {gi : Nat → Int32} {gf : Nat → UInt32} {how x : Int32} (hs : ¬ s = 2) : zChI s gi gf i how x = upd gi i (zNar s (zRek (zTold s gi gf i) how x)) := by
  unfold zChI
  split
  · exact absurd rfl hs
  · rfl
theorem zSuF_of {s i : Nat} {gf : Nat → UInt32} (hs : ¬ s = 2) : zSuF s gf i = gf := by
  unfold zSuF
  split
  · exact absurd rfl hs
  · rfl
theorem zSuI_of {s i : Nat} {gi : Nat → Int32} {gf : Nat → UInt32} (hs : ¬ s = 2) : zSuI s gi gf i = upd gi i (zNar s (zTold s gi gf i + 1)) := by
  unfold zSuI
  split
  · exact absurd rfl hs
  · rfl
theorem zPlI_of {s i : Nat} {gi : Nat → Int32} {v : UInt32} (hs : ¬ s = 2) : zPlI s gi i v = upd gi i (zNar s (FP.f2i v)) := by
  unfold zPlI
  split
  · exact absurd rfl hs
  · rfl
theorem zLev_of {s i : Nat} {gi : Nat → Int32} {gf : Nat → UInt32} (hs : ¬ s = 2) : zLev s gi gf i = FP.i2f (zTold s gi gf i) := by
  unfold zLev
  split
  · exact absurd rfl hs
  · rfl
end ZNE
