section ZNEWG
variable {G : zG} {L : List Nat} {f : Nat → va_E} {c0 a b : Nat} {X : ClassId × vp_A}
theorem zAdd_ext (ha : a ∉ L) (hb : b ∉ L) : zExt L f (zNL L a b) (va_up (va_up f b (.inl X)) a (.inr (c0, [.ref b]))) := fun x hx => by
  refine ⟨List.mem_append_left _ (List.mem_append_left _ hx), ?_⟩
  have n1 : x ≠ a := fun q => ha (q ▸ hx)
  have n2 : x ≠ b := fun q => hb (q ▸ hx)
  rw [va_up_ne _ _ n1, va_up_ne _ _ n2]
theorem zAdd_ow (ha : a ∉ L) (hb : b ∉ L) (hab : b ≠ a) (h : zOW L f) : zOW (zNL L a b) (va_up (va_up f b (.inl X)) a (.inr (c0, [.ref b]))) := by
  generalize hF : va_up (va_up f b (.inl X)) a (.inr (c0, [.ref b])) = F
  have mem : ∀ x, x ∈ zNL L a b → x ∈ L ∨ x = a ∨ x = b := fun x hx => by
    rcases List.mem_append.mp hx with h | h
    · rcases List.mem_append.mp h with h | h
      · exact Or.inl h
      · exact Or.inr (Or.inl (List.mem_singleton.mp h))
    · exact Or.inr (Or.inr (List.mem_singleton.mp h))
  have eo : ∀ x, x ∈ L → F x = f x := fun x hx => by rw [← hF]; exact ((zAdd_ext ha hb) x hx).2
  have ea : F a = .inr (c0, [.ref b]) := by rw [← hF]; exact va_up_self _ _ _
  have eb : F b = .inl X := by rw [← hF, va_up_ne _ _ hab, va_up_self]
  have nb : ∀ c b2, F b ≠ .inr (c, [.ref b2]) := fun c b2 q => by rw [eb] at q; cases q
  have ab : ∀ c b2, F a = .inr (c, [.ref b2]) → b2 = b := fun c b2 q => by rw [ea] at q; cases q; rfl
  refine ⟨fun x c b2 hx q => ?_, fun x y c e b2 hx hy q1 q2 => ?_⟩
  · rcases mem x hx with h1 | h1 | h1
    · rw [eo x h1] at q
      exact List.mem_append_left _ (List.mem_append_left _ (h.1 x c b2 h1 q))
    · subst h1
      rw [ab c b2 q]
      exact List.mem_append_right _ List.mem_cons_self
    · subst h1
      exact absurd q (nb c b2)
  · rcases mem x hx with h1 | h1 | h1 <;> rcases mem y hy with h2 | h2 | h2
    · rw [eo x h1] at q1
      rw [eo y h2] at q2
      exact h.2 x y c e b2 h1 h2 q1 q2
    · subst h2
      rw [eo x h1] at q1
      have := ab e b2 q2
      subst this
      exact absurd (h.1 x c b2 h1 q1) hb
    · subst h2
      exact absurd q2 (nb e b2)
    · subst h1
      rw [eo y h2] at q2
      have := ab c b2 q1
      subst this
      exact absurd (h.1 y e b2 h2 q2) hb
    · rw [h1, h2]
    · subst h2
      exact absurd q2 (nb e b2)
    · subst h1
      exact absurd q1 (nb c b2)
    · subst h1
      exact absurd q1 (nb c b2)
    · subst h1
      exact absurd q1 (nb c b2)
theorem zAdd_no (hb : b ∉ L) (hab : b ≠ a) : zNO L (zNL L a b) (va_up (va_up f b (.inl X)) a (.inr (c0, [.ref b]))) := fun z c b2 hz hzL q => by
  rcases List.mem_append.mp hz with hz | hz
  · rcases List.mem_append.mp hz with hz | hz
    · exact absurd hz hzL
    · have ez := List.mem_singleton.mp hz
      subst ez
      rw [va_up_self] at q
      cases q
      exact hb
  · have ez := List.mem_singleton.mp hz
    subst ez
    rw [va_up_ne _ _ hab, va_up_self] at q
    cases q
theorem zLI_0 {s rows cols : Nat} (ha : a ∉ L) (hb : b ∉ L) (hab : b ≠ a) : zLI G L f s rows cols 0 a b (zNL L a b) (va_up (va_up f b (.inl (G.2 5, rows, zQ (fun _ => none)))) a (.inr (3, [.ref b]))) (fun _ => none) :=
  ⟨zAdd_ext ha hb, ⟨ha, hb, List.mem_append_left _ (List.mem_append_right _ List.mem_cons_self), List.mem_append_right _ List.mem_cons_self⟩, va_up_self _ _ _, by rw [va_up_ne _ _ hab, va_up_self], fun j hj => absurd hj (Nat.not_lt_zero j), fun j k hj => absurd hj (Nat.not_lt_zero j), zAdd_ow ha hb hab, zAdd_no hb hab⟩
end ZNEWG
theorem zrow_le {rows : Int32} {i : Nat} (hp : ¬ rows < 0) (hi : i ≤ rows.toNatClampNeg) (hs : rows.toNatClampNeg ≤ 12) (h : rows ≤ nI i) : i = rows.toNatClampNeg := by
  obtain ⟨j, hj, e⟩ := nI_of hp
  subst e
  rw [nI_clamp hj] at hi hs ⊢
  have := (nI_leI hj (by omega)).mp h
  omega
theorem zrow_lt {rows : Int32} {i : Nat} (hp : ¬ rows < 0) (hi : i ≤ rows.toNatClampNeg) (hs : rows.toNatClampNeg ≤ 12) (h : ¬ rows ≤ nI i) : i < rows.toNatClampNeg := by
  obtain ⟨j, hj, e⟩ := nI_of hp
  subst e
  rw [nI_clamp hj] at hi hs ⊢
  have : ¬ j ≤ i := fun q => h ((nI_leI hj (by omega)).mpr q)
  omega
