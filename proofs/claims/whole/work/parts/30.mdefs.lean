/-! ===== the reference: its object and nine rows; M k: the k-th row of ints, lev: the floats ===== -/
abbrev mW (G : zG) (ad : Nat → Nat) (M : Nat → Nat → Int32) (lev : Nat → UInt32) : va_W := [(ad 0, .inr (6, [.ref (ad 1), .ref (ad 2), .ref (ad 3), .ref (ad 4), .ref (ad 5), .ref (ad 6), .ref (ad 7), .int (M 9 0), .int (M 9 1), .ref (ad 8), .ref (ad 9)])), (ad 1, .inl (G.2 4, 16, .inl (M 0))), (ad 2, .inl (G.2 4, 4, .inl (M 1))), (ad 3, .inl (G.2 4, 48, .inl (M 2))), (ad 4, .inl (G.2 4, 80, .inl (M 3))), (ad 5, .inl (G.2 4, 3200, .inl (M 4))), (ad 6, .inl (G.2 0, 3200, .inr (.inr (.inl lev)))), (ad 7, .inl (G.2 1, 80, .inl (M 6))), (ad 8, .inl (G.2 4, 144, .inl (M 7))), (ad 9, .inl (G.2 4, 8, .inl (M 8)))]
/-- a number of a reel, or none -/
def mP (v : Int32) : Prop := v = -1 ∨ ∃ r : Nat, r < 80 ∧ v = nI r
def mI (M : Nat → Nat → Int32) (lev : Nat → UInt32) : Prop :=
  (∀ k, k < 16 → mP (M 0 k)) ∧ (∀ k, k < 48 → mP (M 2 k)) ∧ (∀ s, s < 4 → M 1 s = -1 ∨ ∃ n : Nat, n ≤ 12 ∧ M 1 s = nI n) ∧ (∀ r, r < 80 → ∃ n : Nat, n ≤ 40 ∧ M 3 r = nI n) ∧ (∀ j, j < 3200 → zFin (lev j)) ∧ (M 9 0 = -1 ∨ ∃ n : Nat, n ≤ 12 ∧ M 9 0 = nI n) ∧ ∃ n : Nat, n ≤ 12 ∧ M 9 1 = nI n
abbrev mix (d t : Int32) : Nat := (4 * d + t).toNatClampNeg
abbrev mwx (t y : Int32) : Nat := (12 * t + y).toNatClampNeg
abbrev mat (y i : Int32) : Nat := (40 * y + i).toNatClampNeg
theorem mix_zix (d t : Int32) : mix d t = zix d t := by
  unfold mix zix
  rw [Int32.mul_comm]
theorem mix_in {d t : Int32} (hd : zFour d) (ht : zFour t) : vp_in (4 * d + t) 16 := by
  have := zix_in hd ht
  rw [Int32.mul_comm] at this
  exact this
theorem mix_lt {d t : Int32} (hd : zFour d) (ht : zFour t) : mix d t < 16 := zin_lt (mix_in hd ht)
theorem nI_m1 (r : Nat) (h : r < 2 ^ 31) : ¬ nI r = -1 := by
  intro q
  have h1 := nI_toInt h
  rw [q] at h1
  have e : (-1 : Int32).toInt = -1 := by decide
  omega
theorem mP_in {v : Int32} (h : mP v) (hn : ¬ v = -1) : vp_in v 80 := by
  rcases h with h | ⟨r, hr, e⟩
  · exact absurd h hn
  · rw [e]; exact vp_in_nI hr (by decide)
abbrev mHs (M : Nat → Nat → Int32) (y i : Int32) : Prop := ¬ i < 0 ∧ i < M 3 y.toNatClampNeg
theorem mat_of {M : Nat → Nat → Int32} {lev : Nat → UInt32} {y i : Int32} (hI : mI M lev) (hy : mP y) (hn : ¬ y = -1) (h : mHs M y i) : ∃ r j n : Nat, r < 80 ∧ j < n ∧ n ≤ 40 ∧ y = nI r ∧ i = nI j ∧ M 3 r = nI n ∧ mat y i = 40 * r + j := by
  rcases hy with hy | ⟨r, hr, e⟩
  · exact absurd hy hn
  · obtain ⟨n, hn2, e2⟩ := hI.2.2.2.1 r hr
    obtain ⟨h1, h2⟩ := h
    rw [e, nI_clamp (by omega), e2] at h2
    obtain ⟨j, hj, e3⟩ := nI_of h1
    rw [e3] at h2
    have hlt := (nI_ltI hj (by omega)).mp h2
    refine ⟨r, j, n, hr, hlt, hn2, e, e3, e2, ?_⟩
    unfold mat
    rw [e, e3, show (40 : Int32) = nI 40 from rfl, pk_mul, nI_add, nI_clamp (by omega)]
theorem mat_in {M : Nat → Nat → Int32} {lev : Nat → UInt32} {y i : Int32} (hI : mI M lev) (hy : mP y) (hn : ¬ y = -1) (h : mHs M y i) : vp_in (40 * y + i) 3200 := by
  obtain ⟨r, j, n, hr, hj, hn2, e1, e2, -, -⟩ := mat_of hI hy hn h
  rw [e1, e2, show (40 : Int32) = nI 40 from rfl, pk_mul, nI_add]
  exact vp_in_nI (by omega) (by decide)
def mAg (M : Nat → Nat → Int32) (y i : Int32) : Int64 := if y = -1 then zVACANT else if mHs M y i then 0 else zBEYOND
theorem mAg_why {M : Nat → Nat → Int32} {y i : Int32} (h : ¬ mAg M y i = 0) : zWhy (mAg M y i) := by
  unfold mAg at h ⊢
  split
  · exact zW2
  · split
    · rename_i h1 h2; rw [if_neg h1, if_pos h2] at h; exact absurd rfl h
    · exact zW3
theorem mAg_0 {M : Nat → Nat → Int32} {y i : Int32} (h : mAg M y i = 0) : ¬ y = -1 ∧ mHs M y i := by
  unfold mAg at h
  by_cases h1 : y = -1
  · rw [if_pos h1] at h; exact absurd h (by decide)
  · rw [if_neg h1] at h
    by_cases h2 : mHs M y i
    · exact ⟨h1, h2⟩
    · rw [if_neg h2] at h; exact absurd h (by decide)
def mTo (M : Nat → Nat → Int32) (lev : Nat → UInt32) (t : Int32) (k : Nat) : Int32 := if t = 2 then FP.f2i (FP.fmul (lev k) 1090519040) else M 4 k
def mNar (t x : Int32) : Int32 := if t = 0 then x &&& 65535 else if t = 1 then (x <<< ((16 : Int32) &&& 31)) >>> ((16 : Int32) &&& 31) else x &&& 1
def mFM (M : Nat → Nat → Int32) (t : Int32) (k : Nat) (x : Int32) : Nat → Nat → Int32 := if t = 0 ∨ t = 1 ∨ t = 3 then va_up M 4 (upd (M 4) k (mNar t x)) else M
def mFL (lev : Nat → UInt32) (t : Int32) (k : Nat) (v : UInt32) : Nat → UInt32 := if t = 0 ∨ t = 1 ∨ t = 3 then lev else vf_upd lev k (zHe v)
/-- a refusal -/
abbrev mRef (M : Nat → Nat → Int32) (why : Int64) : Nat → Nat → Int32 := va_up M 8 (zTa (M 8) why)
def mRefP (G : zG) (ad : Nat → Nat) (M : Nat → Nat → Int32) (lev : Nat → UInt32) (why r : Int64) (u : va_W) : Prop := u = mW G ad (mRef M why) lev ∧ r = why
section ZM
variable {p : Program} {l : Launch} {e : Env} {R : Room} {s : State} {m : MethodId} {args : Array Value} {below : List Frame} {meth : Method} {c : Code} {H : Heap} {locs : List Loc} {cells slots : Nat} {Q : State → Prop} {cc : ByteArray} {pc : Nat} {ls : Array Slot} {rest : List Value} {G : zG} {A : Nat → Prop} {ws : va_W} {a : Nat}
theorem zm_iald (hx : p.tables.exec = Jvm.exec) (hb : c.code = cc) (hK : zK G s) (w : zW G A s H locs ws) (q0 : Nat) {n : Nat} {g : Nat → Int32} (ha : ws[q0]? = some (a, .inl (G.2 4, n, .inl g))) {i : Int32} (hi : vp_in i n) (hdg : decode cc pc = .ok (.iaload, 1)) (kk : W p l e R s m args below meth c H locs cells slots Q (F0 m (pc + 1) ls (.int (g i.toNatClampNeg) :: rest))) : W p l e R s m args below meth c H locs cells slots Q (F0 m pc ls (.int i :: .ref a :: rest)) :=
  va_iald hx hb hK.1 w.1 q0 4 ha rfl hi hdg kk
theorem zm_zald (hx : p.tables.exec = Jvm.exec) (hb : c.code = cc) (hK : zK G s) (w : zW G A s H locs ws) (q0 : Nat) {n : Nat} {g : Nat → Int32} (ha : ws[q0]? = some (a, .inl (G.2 1, n, .inl g))) {i : Int32} (hi : vp_in i n) (hdg : decode cc pc = .ok (.baload, 1)) (kk : W p l e R s m args below meth c H locs cells slots Q (F0 m (pc + 1) ls (.int (g i.toNatClampNeg) :: rest))) : W p l e R s m args below meth c H locs cells slots Q (F0 m pc ls (.int i :: .ref a :: rest)) :=
  va_zald hx hb hK.1 w.1 q0 1 ha rfl hi hdg kk
theorem zm_fald (hx : p.tables.exec = Jvm.exec) (hb : c.code = cc) (hK : zK G s) (w : zW G A s H locs ws) (q0 : Nat) {n : Nat} {g : Nat → UInt32} (ha : ws[q0]? = some (a, .inl (G.2 0, n, .inr (.inr (.inl g))))) {i : Int32} (hi : vp_in i n) (hdg : decode cc pc = .ok (.faload, 1)) (kk : W p l e R s m args below meth c H locs cells slots Q (F0 m (pc + 1) ls (.float (g i.toNatClampNeg) :: rest))) : W p l e R s m args below meth c H locs cells slots Q (F0 m pc ls (.int i :: .ref a :: rest)) :=
  va_fald hx hb hK.1 w.1 q0 0 ha rfl hi hdg kk
theorem zm_iast (hx : p.tables.exec = Jvm.exec) (hb : c.code = cc) (hK : zK G s) (w : zW G A s H locs ws) (q0 : Nat) {n : Nat} {g : Nat → Int32} (ha : ws[q0]? = some (a, .inl (G.2 4, n, .inl g))) {i x : Int32} (hi : vp_in i n) (hdg : decode cc pc = .ok (.iastore, 1)) (kk : ∀ (H1 : Heap) (locs1 : List Loc), zW G A s H1 locs1 (ws.set q0 (a, .inl (G.2 4, n, .inl (upd g i.toNatClampNeg x)))) → W p l e R s m args below meth c H1 locs1 cells slots Q (F0 m (pc + 1) ls rest)) : W p l e R s m args below meth c H locs cells slots Q (F0 m pc ls (.int x :: .int i :: .ref a :: rest)) :=
  va_iast hx hb hK.1 w.1 w.2.1 w.2.2.1 q0 4 ha rfl hi hdg (fun H1 locs1 hP hD hS => kk H1 locs1 ⟨hP, hD, hS, w.2.2.2⟩)
theorem zm_zast (hx : p.tables.exec = Jvm.exec) (hb : c.code = cc) (hK : zK G s) (w : zW G A s H locs ws) (q0 : Nat) {n : Nat} {g : Nat → Int32} (ha : ws[q0]? = some (a, .inl (G.2 1, n, .inl g))) {i x : Int32} (hi : vp_in i n) (hdg : decode cc pc = .ok (.bastore, 1)) (kk : ∀ (H1 : Heap) (locs1 : List Loc), zW G A s H1 locs1 (ws.set q0 (a, .inl (G.2 1, n, .inl (upd g i.toNatClampNeg (vp_nar .boolean x))))) → W p l e R s m args below meth c H1 locs1 cells slots Q (F0 m (pc + 1) ls rest)) : W p l e R s m args below meth c H locs cells slots Q (F0 m pc ls (.int x :: .int i :: .ref a :: rest)) :=
  va_zast hx hb hK.1 w.1 w.2.1 w.2.2.1 q0 1 ha rfl hi hdg (fun H1 locs1 hP hD hS => kk H1 locs1 ⟨hP, hD, hS, w.2.2.2⟩)
theorem zm_fast (hx : p.tables.exec = Jvm.exec) (hb : c.code = cc) (hK : zK G s) (w : zW G A s H locs ws) (q0 : Nat) {n : Nat} {g : Nat → UInt32} (ha : ws[q0]? = some (a, .inl (G.2 0, n, .inr (.inr (.inl g))))) {i : Int32} {x : UInt32} (hi : vp_in i n) (hdg : decode cc pc = .ok (.fastore, 1)) (kk : ∀ (H1 : Heap) (locs1 : List Loc), zW G A s H1 locs1 (ws.set q0 (a, .inl (G.2 0, n, .inr (.inr (.inl (vf_upd g i.toNatClampNeg x)))))) → W p l e R s m args below meth c H1 locs1 cells slots Q (F0 m (pc + 1) ls rest)) : W p l e R s m args below meth c H locs cells slots Q (F0 m pc ls (.float x :: .int i :: .ref a :: rest)) :=
  va_fast hx hb hK.1 w.1 w.2.1 w.2.2.1 q0 0 ha rfl hi hdg (fun H1 locs1 hP hD hS => kk H1 locs1 ⟨hP, hD, hS, w.2.2.2⟩)
theorem zm_put (hx : p.tables.exec = Jvm.exec) (hb : c.code = cc) {own ref C : String} {T : u_T} {N ci index : Nat} {Ts : List Cond} (hts : ∀ w ∈ Ts, w.before args s = true) (hown : s.vm.findClass own = some m.cls) (hK : zK G s) (w : zW G A s H locs ws) (hin : ∀ w ∈ u_ws C T N, w ∈ Ts) (ty0 : Nat → FieldType) (hty : ∀ k, k < N → parseFieldDescriptor (T k).2.2.1 = some (ty0 k)) (hnm : ∀ a, a < N → ∀ b, b < N → a ≠ b → (T a).2.1 ≠ (T b).2.1) (q0 : Nat) {fs : List Value} (he : ws[q0]? = some (a, .inr (ci, fs))) (hc : vwCl[ci]? = some (C, T, N)) (k : Nat) (hk : k < N) (hlink : (Cond.fieldLink own index ref (T k).2.1 (T k).2.2.1).before args s = true) (hsame : ∀ x, s.fieldFound? (T k).1 (T k).2.1 (T k).2.2.1 = some x → s.fieldFound? ref (T k).2.1 (T k).2.2.1 = some x) (hfin : (T k).2.2.2 = false) {ty : FieldType} {v : Value} (hd : parseFieldDescriptor (T k).2.2.1 = some ty) (hn : narrow ty v = v) (hfit : fits ty v = true) (hl : k < fs.length) (hdg : decode cc pc = .ok (.putfield index, 3))
    (kk : ∀ (H1 : Heap) (locs1 : List Loc), zW G A s H1 locs1 (ws.set q0 (a, .inr (ci, fs.set k v))) → W p l e R s m args below meth c H1 locs1 cells slots Q (F0 m (pc + 3) ls rest)) : W p l e R s m args below meth c H locs cells slots Q (F0 m pc ls (v :: .ref a :: rest)) :=
  va_put hx hb hts hin ty0 hty hnm hown hK.1 w.1 w.2.1 w.2.2.1 q0 he hc k hk hlink hsame hfin hd hn hfit hl hdg (fun H1 locs1 hP hD hS => kk H1 locs1 ⟨hP, hD, hS, w.2.2.2⟩)
theorem zm_putF (hx : p.tables.exec = Jvm.exec) (hb : c.code = cc) {own ref C : String} {T : u_T} {N ci index : Nat} {Ts : List Cond} (hts : ∀ w ∈ Ts, w.before args s = true) (hown : s.vm.findClass own = some m.cls) (hK : zK G s) (w : zW G A s H locs ws) (hin : ∀ w ∈ u_ws C T N, w ∈ Ts) (ty0 : Nat → FieldType) (hty : ∀ k, k < N → parseFieldDescriptor (T k).2.2.1 = some (ty0 k)) (hnm : ∀ a, a < N → ∀ b, b < N → a ≠ b → (T a).2.1 ≠ (T b).2.1) (q0 : Nat) {fs : List Value} (he : ws[q0]? = some (a, .inr (ci, fs))) (hc : vwCl[ci]? = some (C, T, N)) (k : Nat) (hk : k < N) (hlink : (Cond.fieldLink own index ref (T k).2.1 (T k).2.2.1).before args s = true) (hsame : ∀ x, s.fieldFound? (T k).1 (T k).2.1 (T k).2.2.1 = some x → s.fieldFound? ref (T k).2.1 (T k).2.2.1 = some x) (hfin : (T k).2.2.2 = true) (hin2 : meth.name = "<init>") (hdecl : (T k).1 = own) {ty : FieldType} {v : Value} (hd : parseFieldDescriptor (T k).2.2.1 = some ty) (hn : narrow ty v = v) (hfit : fits ty v = true) (hl : k < fs.length) (hdg : decode cc pc = .ok (.putfield index, 3))
    (kk : ∀ (H1 : Heap) (locs1 : List Loc), zW G A s H1 locs1 (ws.set q0 (a, .inr (ci, fs.set k v))) → W p l e R s m args below meth c H1 locs1 cells slots Q (F0 m (pc + 3) ls rest)) : W p l e R s m args below meth c H locs cells slots Q (F0 m pc ls (v :: .ref a :: rest)) :=
  va_putF hx hb hts hin ty0 hty hnm hown hK.1 w.1 w.2.1 w.2.2.1 q0 he hc k hk hlink hsame hfin hin2 hdecl hd hn hfit hl hdg (fun H1 locs1 hP hD hS => kk H1 locs1 ⟨hP, hD, hS, w.2.2.2⟩)
end ZM
