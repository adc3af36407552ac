/-- a new chart at q -/
def zNH (G : zG) (L : List Nat) (f : Nat → va_E) (rows cols q : Nat) (L2 : List Nat) (f2 : Nat → va_E) : Prop :=
  zExt L f L2 f2 ∧ q ∉ L ∧ zHA G L2 f2 q cols ∧ eN (f2 q) = rows ∧ (∀ i, i < rows → ∃ b, eQ (f2 q) i = some b ∧ b ∉ L ∧ eI (f2 b) = fun _ => 0) ∧ (∀ i j, i < rows → j < rows → eQ (f2 q) i = eQ (f2 q) j → i = j) ∧ ((zOW L f → zOW L2 f2) ∧ ∀ x c b, x ∈ L2 → x ∉ L → f2 x ≠ .inr (c, [.ref b]))
theorem zNH_of {G : zG} {L : List Nat} {f : Nat → va_E} {N K q : Nat} {r : Nat → Nat} (hN : N ≤ 12) (hK : K ≤ 12) (h1 : ∀ i j : Nat, i < N → j < N → r i = r j → i = j) (h2 : ∀ i : Nat, i < N → r i ∉ L) (h3 : q ∉ L ++ (List.range N).map r) :
    zNH G L f N K q ((L ++ (List.range N).map r) ++ [q]) (va_up (vr_up f ((List.range N).map r) (.inl (G.2 4, K, .inl (fun _ => 0)))) q (.inl (G.2 7, N, zQ (fun i => if i < N then some (r i) else none)))) := by
  generalize hF : va_up (vr_up f ((List.range N).map r) (.inl (G.2 4, K, .inl (fun _ => 0)))) q (.inl (G.2 7, N, zQ (fun i => if i < N then some (r i) else none))) = F
  have hqL : q ∉ L := fun z => h3 (List.mem_append_left _ z)
  have hqr : q ∉ (List.range N).map r := fun z => h3 (List.mem_append_right _ z)
  have hrL : ∀ x, x ∈ (List.range N).map r → x ∉ L := fun x hx => by
    obtain ⟨i, hi, rfl⟩ := List.mem_map.mp hx
    exact h2 i (List.mem_range.mp hi)
  have inr : ∀ i, i < N → r i ∈ (List.range N).map r := fun i hi => List.mem_map.mpr ⟨i, List.mem_range.mpr hi, rfl⟩
  have Fq : F q = .inl (G.2 7, N, zQ (fun i => if i < N then some (r i) else none)) := by rw [← hF]; exact va_up_self _ _ _
  have Fr : ∀ x, x ∈ (List.range N).map r → F x = .inl (G.2 4, K, .inl (fun _ => 0)) := fun x hx => by
    have n1 : x ≠ q := fun z => hqr (z ▸ hx)
    rw [← hF, va_up_ne _ _ n1, vr_up_in hx]
  have Fo : ∀ x, x ∈ L → F x = f x := fun x hx => by
    have n1 : x ≠ q := fun z => hqL (z ▸ hx)
    rw [← hF, va_up_ne _ _ n1, vr_up_ne (fun z => hrL x z hx)]
  have eN1 : eN (F q) = N := by rw [Fq]; rfl
  have eQ1 : eQ (F q) = fun i => if i < N then some (r i) else none := by rw [Fq]; rfl
  have mem : ∀ x, x ∈ (L ++ (List.range N).map r) ++ [q] → x ∈ L ∨ x ∈ (List.range N).map r ∨ x = q := fun x hx => by
    rcases List.mem_append.mp hx with h | h
    · rcases List.mem_append.mp h with h | h
      · exact Or.inl h
      · exact Or.inr (Or.inl h)
    · exact Or.inr (Or.inr (List.mem_singleton.mp h))
  have onlyL : ∀ x c b, x ∈ (L ++ (List.range N).map r) ++ [q] → F x = .inr (c, [.ref b]) → x ∈ L ∧ f x = .inr (c, [.ref b]) := fun x c b hx z => by
    rcases mem x hx with h | h | h
    · exact ⟨h, by rw [← Fo x h]; exact z⟩
    · rw [Fr x h] at z; cases z
    · subst h; rw [Fq] at z; cases z
  refine ⟨fun x hx => ⟨List.mem_append_left _ (List.mem_append_left _ hx), Fo x hx⟩, hqL, ⟨List.mem_append_right _ List.mem_cons_self, by rw [eN1, eQ1]; exact Fq, by rw [eN1]; exact hN, hK, fun i hi => ?_⟩, eN1, fun i hi => ?_, fun i j hi hj z => ?_, fun ho => ?_, fun x c b hx hxL z => absurd (onlyL x c b hx z).1 hxL⟩
  · rw [eN1] at hi
    refine ⟨r i, by rw [eQ1]; exact if_pos hi, List.mem_append_left _ (List.mem_append_right _ (inr i hi)), ?_⟩
    rw [Fr _ (inr i hi)]
    rfl
  · refine ⟨r i, by rw [eQ1]; exact if_pos hi, h2 i hi, ?_⟩
    rw [Fr _ (inr i hi)]
    rfl
  · rw [eQ1] at z
    have z2 : some (r i) = some (r j) := by
      have e1 : (if i < N then some (r i) else none) = some (r i) := if_pos hi
      have e2 : (if j < N then some (r j) else none) = some (r j) := if_pos hj
      rw [← e1, ← e2]
      exact z
    exact h1 i j hi hj (Option.some.inj z2)
  · refine ⟨fun x c b hx z => ?_, fun x y c e b hx hy z1 z2 => ?_⟩
    · obtain ⟨k1, k2⟩ := onlyL x c b hx z
      exact List.mem_append_left _ (List.mem_append_left _ (ho.1 x c b k1 k2))
    · obtain ⟨k1, k2⟩ := onlyL x c b hx z1
      obtain ⟨k3, k4⟩ := onlyL y e b hy z2
      exact ho.2 x y c e b k1 k3 k2 k4
