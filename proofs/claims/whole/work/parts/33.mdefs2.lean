/-! ===== the reference's search for a free reel ===== -/
/-- which numbers are marked, when a decks and b rows of walls have been looked at -/
def mU (M : Nat → Nat → Int32) (a b : Nat) (U : Nat → Int32) : Prop :=
  (∀ r, r < 80 → ¬ U r = 0 → (∃ j, j < a ∧ M 0 j = nI r) ∨ ∃ j, j < b ∧ M 2 j = nI r) ∧ (∀ j r, j < a → r < 80 → M 0 j = nI r → ¬ U r = 0) ∧ ∀ j r, j < b → r < 80 → M 2 j = nI r → ¬ U r = 0
theorem mU_0 {M : Nat → Nat → Int32} {U : Nat → Int32} (h : ∀ j, j < 80 → U j = 0) : mU M 0 0 U :=
  ⟨fun r hr q => absurd (h r hr) q, fun j r hj => absurd hj (Nat.not_lt_zero j), fun j r hj => absurd hj (Nat.not_lt_zero j)⟩
theorem nI_inj {a b : Nat} (ha : a < 80) (hb : b < 80) (h : nI a = nI b) : a = b := (nI_eq (by omega) (by omega)).mp h
theorem mU_a {M : Nat → Nat → Int32} {U : Nat → Int32} {a b r : Nat} (hr : r < 80) (h : mU M a b U) (e : M 0 a = nI r) : mU M (a + 1) b (upd U r 1) := by
  obtain ⟨h1, h2, h3⟩ := h
  refine ⟨fun q hq hu => ?_, fun j q hj hq e2 => ?_, fun j q hj hq e2 => ?_⟩
  · by_cases hqr : q = r
    · subst hqr; exact Or.inl ⟨a, by omega, e⟩
    · rw [pk_un hqr] at hu
      rcases h1 q hq hu with ⟨j, hj, e3⟩ | h
      · exact Or.inl ⟨j, by omega, e3⟩
      · exact Or.inr h
  · by_cases hqr : q = r
    · subst hqr; rw [pk_us]; decide
    · rw [pk_un hqr]
      by_cases hja : j = a
      · subst hja; rw [e] at e2; exact absurd (nI_inj hr hq e2).symm hqr
      · exact h2 j q (by omega) hq e2
  · by_cases hqr : q = r
    · subst hqr; rw [pk_us]; decide
    · rw [pk_un hqr]; exact h3 j q hj hq e2
theorem mU_b {M : Nat → Nat → Int32} {U : Nat → Int32} {a b r : Nat} (hr : r < 80) (h : mU M a b U) (e : M 2 b = nI r) : mU M a (b + 1) (upd U r 1) := by
  obtain ⟨h1, h2, h3⟩ := h
  refine ⟨fun q hq hu => ?_, fun j q hj hq e2 => ?_, fun j q hj hq e2 => ?_⟩
  · by_cases hqr : q = r
    · subst hqr; exact Or.inr ⟨b, by omega, e⟩
    · rw [pk_un hqr] at hu
      rcases h1 q hq hu with h | ⟨j, hj, e3⟩
      · exact Or.inl h
      · exact Or.inr ⟨j, by omega, e3⟩
  · by_cases hqr : q = r
    · subst hqr; rw [pk_us]; decide
    · rw [pk_un hqr]; exact h2 j q hj hq e2
  · by_cases hqr : q = r
    · subst hqr; rw [pk_us]; decide
    · rw [pk_un hqr]
      by_cases hja : j = b
      · subst hja; rw [e] at e2; exact absurd (nI_inj hr hq e2).symm hqr
      · exact h3 j q (by omega) hq e2
theorem mU_an {M : Nat → Nat → Int32} {U : Nat → Int32} {a b : Nat} (h : mU M a b U) (e : M 0 a = -1) : mU M (a + 1) b U := by
  obtain ⟨h1, h2, h3⟩ := h
  refine ⟨fun q hq hu => ?_, fun j q hj hq e2 => ?_, h3⟩
  · rcases h1 q hq hu with ⟨j, hj, e3⟩ | h
    · exact Or.inl ⟨j, by omega, e3⟩
    · exact Or.inr h
  · by_cases hja : j = a
    · subst hja; rw [e] at e2; exact absurd e2.symm (nI_m1 q (by omega))
    · exact h2 j q (by omega) hq e2
theorem mU_bn {M : Nat → Nat → Int32} {U : Nat → Int32} {a b : Nat} (h : mU M a b U) (e : M 2 b = -1) : mU M a (b + 1) U := by
  obtain ⟨h1, h2, h3⟩ := h
  refine ⟨fun q hq hu => ?_, h2, fun j q hj hq e2 => ?_⟩
  · rcases h1 q hq hu with h | ⟨j, hj, e3⟩
    · exact Or.inl h
    · exact Or.inr ⟨j, by omega, e3⟩
  · by_cases hja : j = b
    · subst hja; rw [e] at e2; exact absurd e2.symm (nI_m1 q (by omega))
    · exact h3 j q (by omega) hq e2
/-- among more numbers than a list has, one isn't in it -/
theorem mPig : ∀ (n : Nat) (l : List Nat), l.length < n → ∃ r, r < n ∧ r ∉ l
  | 0, l, h => absurd h (Nat.not_lt_zero _)
  | n + 1, l, h => by
    by_cases hn : n ∈ l
    · have h2 : (l.filter (fun x => decide (x ≠ n))).length < n := by
        have h3 : (l.filter (fun x => decide (x ≠ n))).length < l.length := by
          rcases Nat.lt_or_ge (l.filter (fun x => decide (x ≠ n))).length l.length with q | q
          · exact q
          · have e : l.filter (fun x => decide (x ≠ n)) = l := List.filter_sublist.eq_of_length (Nat.le_antisymm (List.length_filter_le _ _) q)
            have : n ∈ l.filter (fun x => decide (x ≠ n)) := by rw [e]; exact hn
            have := (List.mem_filter.mp this).2
            simp at this
        omega
      obtain ⟨r, hr, hl⟩ := mPig n _ h2
      refine ⟨r, by omega, fun q => hl (List.mem_filter.mpr ⟨q, ?_⟩)⟩
      simp
      omega
    · exact ⟨n, by omega, hn⟩
theorem mU_free {M : Nat → Nat → Int32} {U : Nat → Int32} (h : mU M 16 48 U) : ∃ r, r < 80 ∧ U r = 0 := by
  obtain ⟨r, hr, hl⟩ := mPig 65 ((List.range 16).map (fun j => (M 0 j).toNatClampNeg) ++ (List.range 48).map (fun j => (M 2 j).toNatClampNeg)) (by simp)
  refine ⟨r, by omega, ?_⟩
  by_cases hu : U r = 0
  · exact hu
  · exfalso
    apply hl
    rcases h.1 r (by omega) hu with ⟨j, hj, e⟩ | ⟨j, hj, e⟩
    · exact List.mem_append_left _ (List.mem_map.mpr ⟨j, List.mem_range.mpr hj, by rw [e, nI_clamp (by omega)]⟩)
    · exact List.mem_append_right _ (List.mem_map.mpr ⟨j, List.mem_range.mpr hj, by rw [e, nI_clamp (by omega)]⟩)
/-- n places from 40 r on are 0 -/
def mZ {α : Type} (z : α) (g : Nat → α) (r n : Nat) : Nat → α := fun j => if 40 * r ≤ j ∧ j < 40 * r + n then z else g j
theorem mZ_0 {α : Type} (z : α) (g : Nat → α) (r : Nat) : mZ z g r 0 = g := by
  funext j
  unfold mZ
  rw [if_neg (by omega)]
theorem mZ_s (g : Nat → Int32) (r n : Nat) : upd (mZ 0 g r n) (40 * r + n) 0 = mZ 0 g r (n + 1) := by
  funext j
  unfold upd mZ
  by_cases h : j = 40 * r + n
  · rw [if_pos h, if_pos (by omega)]
  · rw [if_neg h]
    by_cases h2 : 40 * r ≤ j ∧ j < 40 * r + n
    · rw [if_pos h2, if_pos (by omega)]
    · rw [if_neg h2, if_neg (by omega)]
theorem mZ_sf (g : Nat → UInt32) (r n : Nat) : vf_upd (mZ 0 g r n) (40 * r + n) 0 = mZ 0 g r (n + 1) := by
  funext j
  unfold vf_upd mZ
  by_cases h : j = 40 * r + n
  · rw [if_pos h, if_pos (by omega)]
  · rw [if_neg h]
    by_cases h2 : 40 * r ≤ j ∧ j < 40 * r + n
    · rw [if_pos h2, if_pos (by omega)]
    · rw [if_neg h2, if_neg (by omega)]
/-- behind reel(n), which took r -/
abbrev mRl (M : Nat → Nat → Int32) (U : Nat → Int32) (r : Nat) (n : Int32) (i : Nat) : Nat → Nat → Int32 := va_up (va_up (va_up M 6 U) 3 (upd (M 3) r n)) 4 (mZ 0 (M 4) r i)
def mFr (M : Nat → Nat → Int32) (r : Nat) : Prop := r < 80 ∧ (∀ k, k < 16 → ¬ M 0 k = nI r) ∧ ∀ k, k < 48 → ¬ M 2 k = nI r
theorem mFr_of {M : Nat → Nat → Int32} {U : Nat → Int32} {r : Nat} (hr : r < 80) (h : mU M 16 48 U) (hu : U r = 0) : mFr M r :=
  ⟨hr, fun k hk e => h.2.1 k r hk hr e hu, fun k hk e => h.2.2 k r hk hr e hu⟩
theorem m40 {r i : Nat} : (40 : Int32) * nI r + nI i = nI (40 * r + i) := by
  rw [show (40 : Int32) = nI 40 from rfl, pk_mul, nI_add]
theorem m12 {r i : Nat} : (12 : Int32) * nI r + nI i = nI (12 * r + i) := by
  rw [show (12 : Int32) = nI 12 from rfl, pk_mul, nI_add]
