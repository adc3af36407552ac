/-! ===== the chart, the tally, blending ===== -/
abbrev zHas2 (n : Nat) (y : Int32) : Prop := ¬ y < 0 ∧ y < nI n
theorem zHas2_in {n : Nat} {y : Int32} (h : zHas2 n y) (hn : n < 2 ^ 31) : vp_in y n := by
  refine zHas_in ⟨h.1, fun q => ?_⟩ hn
  have h2 := h.2
  rw [Int32.le_iff_toInt_le] at q
  rw [Int32.lt_iff_toInt_lt] at h2
  omega
/-- a chart at q: rows of m ints -/
def zHA (G : zG) (L : List Nat) (f : Nat → va_E) (q m : Nat) : Prop :=
  q ∈ L ∧ f q = .inl (G.2 7, eN (f q), zQ (eQ (f q))) ∧ eN (f q) ≤ 12 ∧ m ≤ 12 ∧ ∀ i, i < eN (f q) → ∃ b, eQ (f q) i = some b ∧ b ∈ L ∧ f b = .inl (G.2 4, m, .inl (eI (f b)))
def zHT (G : zG) (L : List Nat) (f : Nat → va_E) (ch : Option Nat) (m : Nat) : Prop := ∀ q, ch = some q → zHA G L f q m
abbrev zHb (f : Nat → va_E) (q : Nat) (y : Int32) : Nat := (eQ (f q) y.toNatClampNeg).getD 0
theorem zHA_row {G : zG} {L : List Nat} {f : Nat → va_E} {q m : Nat} {y : Int32} (h : zHA G L f q m) (hy : vp_in y (eN (f q))) : eQ (f q) y.toNatClampNeg = some (zHb f q y) ∧ zHb f q y ∈ L ∧ f (zHb f q y) = .inl (G.2 4, m, .inl (eI (f (zHb f q y)))) := by
  obtain ⟨b, h1, h2, h3⟩ := h.2.2.2.2 _ (zin_lt hy)
  have e : zHb f q y = b := by unfold zHb; rw [h1]; rfl
  rw [e]
  exact ⟨h1, h2, h3⟩
theorem zS_ne2 {t : Int32} (ht : zFour t) (h : ¬ t = 2) : ¬ zS t = 2 := by
  obtain ⟨b, hb, eb⟩ := zFour_of ht
  unfold zS
  rw [eb, nI_clamp (by omega)]
  intro q
  apply h
  rw [eb, q]
  rfl
theorem zS_3 {s : Nat} (hs : s = 0 ∨ s = 1 ∨ s = 2 ∨ s = 3) (h : ¬ s = 2) : s = 0 ∨ s = 1 ∨ s = 3 := by omega
theorem zbl_dv {t less x : Int32} : ¬ ((if t = 3 then (6 : Int32) else if less = 0 then 0 else 1) = 3 ∧ x = 0) := by
  rintro ⟨h, -⟩
  split at h
  · exact absurd h (by decide)
  · split at h
    · exact absurd h (by decide)
    · exact absurd h (by decide)
abbrev zBv (less : Int32) (x v : UInt32) : UInt32 := if less = 0 then FP.fadd x v else FP.fsub x v
theorem zBv_n {less : Int32} {x v : UInt32} (h1 : zFin x) (h2 : zFin v) : vf_n32 (zBv less x v) := by
  unfold zBv
  split
  · exact zadd h1 h2
  · exact zsub h1 h2
abbrev zHow (t less : Int32) : Int32 := if t = 3 then 6 else if less = 0 then 0 else 1
section ZARR
variable {p : Program} {l : Launch} {e : Env} {R : Room} {s : State} {m : MethodId} {args : Array Value} {below : List Frame} {meth : Method} {c : Code} {H : Heap} {locs : List Loc} {cells slots mc ms : Nat} {Q : State → Prop} {cc : ByteArray} {pc : Nat} {ls : Array Slot} {rest st0 : List Value} {G : zG} {A : Nat → Prop} {L : List Nat} {f : Nat → va_E} {a : Nat}
theorem px_aldA (hx : p.tables.exec = Jvm.exec) (hb : c.code = cc) (hK : zK G s) (w : zW G A s H locs (va_pl L f)) (ha : a ∈ L) {n : Nat} {g : Nat → Option Nat} (hf : f a = .inl (G.2 7, n, .inr (.inr (.inr (.inr g))))) {i : Int32} (hi : vp_in i n) (hdg : decode cc pc = .ok (.aaload, 1))
    (kk : W p l e R s m args below meth c H locs cells slots Q (F0 m (pc + 1) ls (va_rf (g i.toNatClampNeg) :: rest))) : W p l e R s m args below meth c H locs cells slots Q (F0 m pc ls (.int i :: .ref a :: rest)) := by
  obtain ⟨k, hk⟩ := pgIx (f := f) ha
  rw [hf] at hk
  have hlt : i.toNatClampNeg < n := zin_lt hi
  exact W.aald (v := va_rf (g i.toNatClampNeg)) (ty := .array .int) hx hb (w.1 k _ hk) ((hK.1.2 7 _ rfl).1 n (fun j => va_rf (g j))) rfl (fun q => by cases q) (by show ¬ (i < 0 ∨ (arrV _ _ _).slots.size ≤ _); rw [arrV_size]; exact hi) (by show (arrV _ _ _).slots[_]? = _; rw [arrV_read _ _ hlt]) rfl rfl hdg kk
end ZARR
