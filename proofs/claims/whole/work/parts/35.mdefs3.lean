/-! ===== the reference: walls, the chart, its making ===== -/
theorem mI_car {M : Nat → Nat → Int32} {lev : Nat → UInt32} {k : Nat} {v : Int32} (h : mI M lev) (hv : mP v) : mI (va_up M 0 (upd (M 0) k v)) lev := by
  obtain ⟨h1, h2⟩ := h
  refine ⟨fun j hj => ?_, h2⟩
  show mP (upd (M 0) k v j)
  unfold upd
  split
  · exact hv
  · exact h1 j hj
theorem mI_wal {M : Nat → Nat → Int32} {lev : Nat → UInt32} {k : Nat} {v : Int32} (h : mI M lev) (hv : mP v) : mI (va_up M 2 (upd (M 2) k v)) lev := by
  obtain ⟨h1, h2, h3⟩ := h
  refine ⟨h1, fun j hj => ?_, h3⟩
  show mP (upd (M 2) k v j)
  unfold upd
  split
  · exact hv
  · exact h2 j hj
theorem mP_r {r : Nat} (h : r < 80) : mP (nI r) := Or.inr ⟨r, h, rfl⟩
theorem mP_n : mP (-1) := Or.inl rfl
theorem mI_reel {M : Nat → Nat → Int32} {lev : Nat → UInt32} {U : Nat → Int32} {r : Nat} {n : Int32} {i : Nat} (h : mI M lev) (hn : ¬ n < 0) (hn2 : n.toNatClampNeg ≤ 40) : mI (mRl M U r n i) (mZ 0 lev r i) := by
  obtain ⟨h1, h2, h3, h4, h5, h6, h7⟩ := h
  refine ⟨h1, h2, h3, fun q hq => ?_, fun j hj => ?_, h6, h7⟩
  · show ∃ m : Nat, m ≤ 40 ∧ upd (M 3) r n q = nI m
    unfold upd
    split
    · obtain ⟨j, hj, e⟩ := nI_of hn
      rw [e, nI_clamp hj] at hn2
      exact ⟨j, hn2, e⟩
    · exact h4 q hq
  · unfold mZ
    split
    · exact zfin0
    · exact h5 j hj
/-- n rows from 12 s on are z -/
def mC (z : Int32) (g : Nat → Int32) (s n : Nat) : Nat → Int32 := fun j => if 12 * s ≤ j ∧ j < 12 * s + n then z else g j
theorem mC_0 (z : Int32) (g : Nat → Int32) (s : Nat) : mC z g s 0 = g := by
  funext j
  unfold mC
  rw [if_neg (by omega)]
theorem mC_s (z : Int32) (g : Nat → Int32) (s n : Nat) : upd (mC z g s n) (12 * s + n) z = mC z g s (n + 1) := by
  funext j
  unfold upd mC
  by_cases h : j = 12 * s + n
  · rw [if_pos h, if_pos (by omega)]
  · rw [if_neg h]
    by_cases h2 : 12 * s ≤ j ∧ j < 12 * s + n
    · rw [if_pos h2, if_pos (by omega)]
    · rw [if_neg h2, if_neg (by omega)]
/-- a number that a deck, or another sort's wall, has -/
def mIn (M : Nat → Nat → Int32) (s r : Nat) : Prop := (∃ q, q < 16 ∧ M 0 q = nI r) ∨ ∃ q, q < 48 ∧ (q < 12 * s ∨ 12 * s + 12 ≤ q) ∧ M 2 q = nI r
/-- the wall of sort s, when k of its rows are hung -/
def mH (M : Nat → Nat → Int32) (lev : Nat → UInt32) (s : Nat) (rows cols : Int32) (k : Nat) (N : Nat → Nat → Int32) (ln : Nat → UInt32) : Prop :=
  (N 0 = M 0 ∧ N 1 = upd (M 1) s rows ∧ N 7 = M 7 ∧ N 8 = M 8 ∧ N 9 = M 9) ∧ mI N ln ∧ (∀ j, j < 48 → (j < 12 * s ∨ 12 * s + 12 ≤ j) → N 2 j = M 2 j) ∧ (∀ j, k ≤ j → j < 12 → N 2 (12 * s + j) = -1) ∧
  (∀ j, j < k → ∃ r, r < 80 ∧ N 2 (12 * s + j) = nI r ∧ ¬ mIn M s r ∧ N 3 r = cols ∧ ∀ i, i < cols.toNatClampNeg → N 4 (40 * r + i) = 0 ∧ ln (40 * r + i) = 0) ∧
  (∀ j j', j < k → j' < k → N 2 (12 * s + j) = N 2 (12 * s + j') → j = j') ∧
  ∀ r, r < 80 → mIn M s r → N 3 r = M 3 r ∧ ∀ i, i < 40 → N 4 (40 * r + i) = M 4 (40 * r + i) ∧ ln (40 * r + i) = lev (40 * r + i)
theorem mH_0 {M : Nat → Nat → Int32} {lev : Nat → UInt32} {s : Nat} {rows cols : Int32} (hs : s < 4) (hI : mI M lev) (hr : ¬ rows < 0) (hr2 : rows.toNatClampNeg ≤ 12) : mH M lev s rows cols 0 (va_up (va_up M 2 (mC (-1) (M 2) s 12)) 1 (upd (M 1) s rows)) lev := by
  obtain ⟨h1, h2, h3, h4⟩ := id hI
  refine ⟨⟨rfl, rfl, rfl, rfl, rfl⟩, ⟨h1, fun k hk => ?_, fun q hq => ?_, h4⟩, fun j hj hd => ?_, fun j _ hj => ?_, fun j hj => absurd hj (Nat.not_lt_zero j), fun j j' hj => absurd hj (Nat.not_lt_zero j), fun r _ _ => ⟨rfl, fun i _ => ⟨rfl, rfl⟩⟩⟩
  · show mP (mC (-1) (M 2) s 12 k)
    unfold mC
    split
    · exact mP_n
    · exact h2 k hk
  · show upd (M 1) s rows q = -1 ∨ ∃ n : Nat, n ≤ 12 ∧ upd (M 1) s rows q = nI n
    unfold upd
    split
    · obtain ⟨j, hj, e⟩ := nI_of hr
      rw [e, nI_clamp hj] at hr2
      exact Or.inr ⟨j, hr2, e⟩
    · exact h3 q hq
  · show mC (-1) (M 2) s 12 j = M 2 j
    unfold mC
    rw [if_neg (by omega)]
  · show mC (-1) (M 2) s 12 (12 * s + j) = -1
    unfold mC
    rw [if_pos (by omega)]
theorem mH_s {M N : Nat → Nat → Int32} {lev ln : Nat → UInt32} {U : Nat → Int32} {s k r : Nat} {rows cols : Int32} (hs : s < 4) (hk : k < 12) (hc : ¬ cols < 0) (hc2 : cols.toNatClampNeg ≤ 12) (hf : mFr N r) (h : mH M lev s rows cols k N ln) : mH M lev s rows cols (k + 1) (va_up (mRl N U r cols cols.toNatClampNeg) 2 (upd (N 2) (12 * s + k) (nI r))) (mZ 0 ln r cols.toNatClampNeg) := by
  obtain ⟨⟨e0, e1, e7, e8, e9⟩, hI, h3, h4, h5, h6, h7⟩ := h
  obtain ⟨hr, f0, f2⟩ := hf
  have hnin : ¬ mIn M s r := fun q => by
    rcases q with ⟨q, hq, e⟩ | ⟨q, hq, hd, e⟩
    · exact f0 q hq (by rw [e0]; exact e)
    · exact f2 q hq (by rw [h3 q hq hd]; exact e)
  have n2 : ∀ j, j ≠ 12 * s + k → upd (N 2) (12 * s + k) (nI r) j = N 2 j := fun j hj => pk_un hj
  have n3 : ∀ q, q ≠ r → upd (N 3) r cols q = N 3 q := fun q hq => pk_un hq
  have n4 : ∀ q i, q ≠ r → q < 80 → i < 40 → mZ 0 (N 4) r cols.toNatClampNeg (40 * q + i) = N 4 (40 * q + i) := fun q i hq _ hi => by
    unfold mZ
    rw [if_neg (by omega)]
  have nl : ∀ q i, q ≠ r → q < 80 → i < 40 → mZ 0 ln r cols.toNatClampNeg (40 * q + i) = ln (40 * q + i) := fun q i hq _ hi => by
    unfold mZ
    rw [if_neg (by omega)]
  refine ⟨⟨e0, e1, e7, e8, e9⟩, ?_, fun j hj hd => ?_, fun j hj hj2 => ?_, fun j hj => ?_, fun j j' hj hj' e => ?_, fun q hq hin => ?_⟩
  · exact mI_wal (M := mRl N U r cols cols.toNatClampNeg) (mI_reel hI hc (by omega)) (mP_r hr)
  · show upd (N 2) (12 * s + k) (nI r) j = M 2 j
    rw [n2 j (by omega)]
    exact h3 j hj hd
  · show upd (N 2) (12 * s + k) (nI r) (12 * s + j) = -1
    rw [n2 _ (by omega)]
    exact h4 j (by omega) hj2
  · by_cases hjk : j = k
    · subst hjk
      refine ⟨r, hr, pk_us, hnin, pk_us, fun i hi => ⟨?_, ?_⟩⟩
      · show mZ 0 (N 4) r cols.toNatClampNeg (40 * r + i) = 0
        unfold mZ
        rw [if_pos (by omega)]
      · unfold mZ
        rw [if_pos (by omega)]
    · obtain ⟨q, hq, g1, g2, g3, g4⟩ := h5 j (by omega)
      have hqr : q ≠ r := fun z => f2 (12 * s + j) (by omega) (by rw [g1, z])
      refine ⟨q, hq, ?_, g2, ?_, fun i hi => ⟨?_, ?_⟩⟩
      · show upd (N 2) (12 * s + k) (nI r) (12 * s + j) = nI q
        rw [n2 _ (by omega)]
        exact g1
      · show upd (N 3) r cols q = cols
        rw [n3 q hqr]
        exact g3
      · show mZ 0 (N 4) r cols.toNatClampNeg (40 * q + i) = 0
        rw [n4 q i hqr hq (by omega)]
        exact (g4 i hi).1
      · rw [nl q i hqr hq (by omega)]
        exact (g4 i hi).2
  · have e2 : upd (N 2) (12 * s + k) (nI r) (12 * s + j) = upd (N 2) (12 * s + k) (nI r) (12 * s + j') := e
    by_cases a : j = k <;> by_cases b : j' = k
    · omega
    · subst a
      rw [pk_us, n2 _ (by omega)] at e2
      exact absurd e2.symm (f2 _ (by omega))
    · subst b
      rw [pk_us, n2 _ (by omega)] at e2
      exact absurd e2 (f2 _ (by omega))
    · rw [n2 _ (by omega), n2 _ (by omega)] at e2
      exact h6 j j' (by omega) (by omega) e2
  · obtain ⟨g1, g2⟩ := h7 q hq hin
    have hqr : q ≠ r := fun z => hnin (z ▸ hin)
    refine ⟨?_, fun i hi => ⟨?_, ?_⟩⟩
    · show upd (N 3) r cols q = M 3 q
      rw [n3 q hqr]
      exact g1
    · show mZ 0 (N 4) r cols.toNatClampNeg (40 * q + i) = M 4 (40 * q + i)
      rw [n4 q i hqr hq hi]
      exact (g2 i hi).1
    · rw [nl q i hqr hq hi]
      exact (g2 i hi).2
section ZMN
variable {p : Program} {l : Launch} {e : Env} {R : Room} {s : State} {m : MethodId} {args : Array Value} {below : List Frame} {meth : Method} {c : Code} {H : Heap} {locs : List Loc} {cells slots : Nat} {Q : State → Prop} {cc : ByteArray} {pc : Nat} {ls : Array Slot} {rest : List Value} {G : zG} {A : Nat → Prop} {ws : va_W}
set_option maxHeartbeats 200000 in
theorem zm_newI (hx : p.tables.exec = Jvm.exec) (hb : c.code = cc) (harr : (Cond.arrayClass .int).before args s = true) (hK : zK G s) (w : zW G A s H locs ws) {n : Int32} {N' : Nat} (hn : ¬ n < 0) (hN : n.toNatClampNeg = N') (hb2 : N' ≤ 4096) (hcells : cells + 1 ≤ R.cells) (hslots : slots + N' ≤ R.slots) (hdg : decode cc pc = .ok (.newarray .int, 2)) (kk : ∀ (q : Nat) (H1 : Heap), zW G A s H1 locs (ws ++ [(q, .inl (G.2 4, N', .inl (fun _ => 0)))]) → W p l e R s m args below meth c H1 locs (cells + 1) (slots + N') Q (F0 m (pc + 2) ls (.ref q :: rest))) : W p l e R s m args below meth c H locs cells slots Q (F0 m pc ls (.int n :: rest)) := by
  refine va_newa (a0 := (N', .inl (fun _ => 0))) (atype := .int) (ty := .int) hx hb harr rfl hK.1 w.1 w.2.1 w.2.2.1 w.2.2.2 (fun cA => rfl) hn hN (by show N' * 4 ≤ _; omega) hcells hslots hdg (fun q cA H1 hK2 hP hD hS => ?_)
  have e1 : s.vm.findClass ("[" ++ (FieldType.toString .int)) = some (G.2 4) := (hK.1.2 4 _ rfl).2
  have e2 : s.vm.findClass ("[" ++ (FieldType.toString .int)) = some cA := (hK2.2 8 _ rfl).2
  have e3 : cA = G.2 4 := Option.some.inj (e2.symm.trans e1)
  subst e3
  exact kk q H1 ⟨hP, hD, hS, w.2.2.2⟩
set_option maxHeartbeats 200000 in
theorem zm_newF (hx : p.tables.exec = Jvm.exec) (hb : c.code = cc) (harr : (Cond.arrayClass .float).before args s = true) (hK : zK G s) (w : zW G A s H locs ws) {n : Int32} {N' : Nat} (hn : ¬ n < 0) (hN : n.toNatClampNeg = N') (hb2 : N' ≤ 4096) (hcells : cells + 1 ≤ R.cells) (hslots : slots + N' ≤ R.slots) (hdg : decode cc pc = .ok (.newarray .float, 2)) (kk : ∀ (q : Nat) (H1 : Heap), zW G A s H1 locs (ws ++ [(q, .inl (G.2 0, N', .inr (.inr (.inl (fun _ => 0)))))]) → W p l e R s m args below meth c H1 locs (cells + 1) (slots + N') Q (F0 m (pc + 2) ls (.ref q :: rest))) : W p l e R s m args below meth c H locs cells slots Q (F0 m pc ls (.int n :: rest)) := by
  refine va_newa (a0 := (N', .inr (.inr (.inl (fun _ => 0))))) (atype := .float) (ty := .float) hx hb harr rfl hK.1 w.1 w.2.1 w.2.2.1 w.2.2.2 (fun cA => rfl) hn hN (by show N' * 4 ≤ _; omega) hcells hslots hdg (fun q cA H1 hK2 hP hD hS => ?_)
  have e1 : s.vm.findClass ("[" ++ (FieldType.toString .float)) = some (G.2 0) := (hK.1.2 0 _ rfl).2
  have e2 : s.vm.findClass ("[" ++ (FieldType.toString .float)) = some cA := (hK2.2 8 _ rfl).2
  have e3 : cA = G.2 0 := Option.some.inj (e2.symm.trans e1)
  subst e3
  exact kk q H1 ⟨hP, hD, hS, w.2.2.2⟩
set_option maxHeartbeats 200000 in
theorem zm_newZ (hx : p.tables.exec = Jvm.exec) (hb : c.code = cc) (harr : (Cond.arrayClass .boolean).before args s = true) (hK : zK G s) (w : zW G A s H locs ws) {n : Int32} {N' : Nat} (hn : ¬ n < 0) (hN : n.toNatClampNeg = N') (hb2 : N' ≤ 4096) (hcells : cells + 1 ≤ R.cells) (hslots : slots + N' ≤ R.slots) (hdg : decode cc pc = .ok (.newarray .boolean, 2)) (kk : ∀ (q : Nat) (H1 : Heap), zW G A s H1 locs (ws ++ [(q, .inl (G.2 1, N', .inl (fun _ => 0)))]) → W p l e R s m args below meth c H1 locs (cells + 1) (slots + N') Q (F0 m (pc + 2) ls (.ref q :: rest))) : W p l e R s m args below meth c H locs cells slots Q (F0 m pc ls (.int n :: rest)) := by
  refine va_newa (a0 := (N', .inl (fun _ => 0))) (atype := .boolean) (ty := .boolean) hx hb harr rfl hK.1 w.1 w.2.1 w.2.2.1 w.2.2.2 (fun cA => rfl) hn hN (by show N' * 1 ≤ _; omega) hcells hslots hdg (fun q cA H1 hK2 hP hD hS => ?_)
  have e1 : s.vm.findClass ("[" ++ (FieldType.toString .boolean)) = some (G.2 1) := (hK.1.2 1 _ rfl).2
  have e2 : s.vm.findClass ("[" ++ (FieldType.toString .boolean)) = some cA := (hK2.2 8 _ rfl).2
  have e3 : cA = G.2 1 := Option.some.inj (e2.symm.trans e1)
  subst e3
  exact kk q H1 ⟨hP, hD, hS, w.2.2.2⟩
end ZMN
/-- the rows' addresses, as a function -/
abbrev mAd (o q1 q2 q3 q4 q5 q6 q7 q8 q9 : Nat) : Nat → Nat := fun k => [o, q1, q2, q3, q4, q5, q6, q7, q8, q9].getD k 0
abbrev mM0 : Nat → Nat → Int32 := va_up (fun _ _ => 0) 9 (upd (fun _ => 0) 0 (-1))
