/-! ===== a world that is a pool: the addresses L, and what f says of each ===== -/
section ZPOOL
variable {p : Program} {l : Launch} {e : Env} {R : Room} {s : State} {m : MethodId} {args : Array Value} {below : List Frame} {meth : Method} {c : Code} {H : Heap} {locs : List Loc} {cells slots mc ms : Nat} {Q : State → Prop} {cc : ByteArray} {pc : Nat} {ls : Array Slot} {rest st0 : List Value} {G : zG} {A : Nat → Prop} {L : List Nat} {f : Nat → va_E} {a : Nat}
theorem px_get (hx : p.tables.exec = Jvm.exec) (hb : c.code = cc) {own ref C : String} {T : u_T} {N ci index : Nat} {Ts : List Cond} (hts : ∀ w ∈ Ts, w.before args s = true) (hown : s.vm.findClass own = some m.cls) (hK : zK G s) (w : zW G A s H locs (va_pl L f)) (ha : a ∈ L) (hin : ∀ w ∈ u_ws C T N, w ∈ Ts) {fs : List Value} (hf : f a = .inr (ci, fs)) (hc : vwCl[ci]? = some (C, T, N)) (k : Nat) (hk : k < N) (hlink : (Cond.fieldLink own index ref (T k).2.1 (T k).2.2.1).before args s = true) (hsame : ∀ x, s.fieldFound? (T k).1 (T k).2.1 (T k).2.2.1 = some x → s.fieldFound? ref (T k).2.1 (T k).2.2.1 = some x) {v : Value} (hv : fs[k]? = some v) (hdg : decode cc pc = .ok (.getfield index, 3))
    (kk : W p l e R s m args below meth c H locs cells slots Q (F0 m (pc + 3) ls (v :: rest))) : W p l e R s m args below meth c H locs cells slots Q (F0 m pc ls (.ref a :: rest)) := by
  obtain ⟨i, hi⟩ := pgIx (f := f) ha
  rw [hf] at hi
  exact va_get hx hb hts hin hown hK.1 w.1 i hi hc k hk hlink hsame hv hdg kk
theorem px_put (hx : p.tables.exec = Jvm.exec) (hb : c.code = cc) {own ref C : String} {T : u_T} {N ci index : Nat} {Ts : List Cond} (hts : ∀ w ∈ Ts, w.before args s = true) (hown : s.vm.findClass own = some m.cls) (hK : zK G s) (w : zW G A s H locs (va_pl L f)) (ha : a ∈ L) (hin : ∀ w ∈ u_ws C T N, w ∈ Ts) (ty0 : Nat → FieldType) (hty : ∀ k, k < N → parseFieldDescriptor (T k).2.2.1 = some (ty0 k)) (hnm : ∀ a, a < N → ∀ b, b < N → a ≠ b → (T a).2.1 ≠ (T b).2.1) {fs : List Value} (hf : f a = .inr (ci, fs)) (hc : vwCl[ci]? = some (C, T, N)) (k : Nat) (hk : k < N) (hlink : (Cond.fieldLink own index ref (T k).2.1 (T k).2.2.1).before args s = true) (hsame : ∀ x, s.fieldFound? (T k).1 (T k).2.1 (T k).2.2.1 = some x → s.fieldFound? ref (T k).2.1 (T k).2.2.1 = some x) (hfin : (T k).2.2.2 = false) {ty : FieldType} {v : Value} (hd : parseFieldDescriptor (T k).2.2.1 = some ty) (hn : narrow ty v = v) (hfit : fits ty v = true) (hl : k < fs.length) (hdg : decode cc pc = .ok (.putfield index, 3))
    (kk : ∀ (H1 : Heap) (locs1 : List Loc), zW G A s H1 locs1 (va_pl L (va_up f a (.inr (ci, fs.set k v)))) → W p l e R s m args below meth c H1 locs1 cells slots Q (F0 m (pc + 3) ls rest)) : W p l e R s m args below meth c H locs cells slots Q (F0 m pc ls (v :: .ref a :: rest)) := by
  obtain ⟨i, hi⟩ := pgIx (f := f) ha
  have hi2 := hi
  rw [hf] at hi2
  refine va_put hx hb hts hin ty0 hty hnm hown hK.1 w.1 w.2.1 w.2.2.1 i hi2 hc k hk hlink hsame hfin hd hn hfit hl hdg (fun H1 locs1 hP hD hS => ?_)
  rw [pgSt w.2.1 ha hi] at hP hD
  exact kk H1 locs1 ⟨hP, hD, hS, w.2.2.2⟩
theorem px_putF (hx : p.tables.exec = Jvm.exec) (hb : c.code = cc) {own ref C : String} {T : u_T} {N ci index : Nat} {Ts : List Cond} (hts : ∀ w ∈ Ts, w.before args s = true) (hown : s.vm.findClass own = some m.cls) (hK : zK G s) (w : zW G A s H locs (va_pl L f)) (ha : a ∈ L) (hin : ∀ w ∈ u_ws C T N, w ∈ Ts) (ty0 : Nat → FieldType) (hty : ∀ k, k < N → parseFieldDescriptor (T k).2.2.1 = some (ty0 k)) (hnm : ∀ a, a < N → ∀ b, b < N → a ≠ b → (T a).2.1 ≠ (T b).2.1) {fs : List Value} (hf : f a = .inr (ci, fs)) (hc : vwCl[ci]? = some (C, T, N)) (k : Nat) (hk : k < N) (hlink : (Cond.fieldLink own index ref (T k).2.1 (T k).2.2.1).before args s = true) (hsame : ∀ x, s.fieldFound? (T k).1 (T k).2.1 (T k).2.2.1 = some x → s.fieldFound? ref (T k).2.1 (T k).2.2.1 = some x) (hfin : (T k).2.2.2 = true) (hin2 : meth.name = "<init>") (hdecl : (T k).1 = own) {ty : FieldType} {v : Value} (hd : parseFieldDescriptor (T k).2.2.1 = some ty) (hn : narrow ty v = v) (hfit : fits ty v = true) (hl : k < fs.length) (hdg : decode cc pc = .ok (.putfield index, 3))
    (kk : ∀ (H1 : Heap) (locs1 : List Loc), zW G A s H1 locs1 (va_pl L (va_up f a (.inr (ci, fs.set k v)))) → W p l e R s m args below meth c H1 locs1 cells slots Q (F0 m (pc + 3) ls rest)) : W p l e R s m args below meth c H locs cells slots Q (F0 m pc ls (v :: .ref a :: rest)) := by
  obtain ⟨i, hi⟩ := pgIx (f := f) ha
  have hi2 := hi
  rw [hf] at hi2
  refine va_putF hx hb hts hin ty0 hty hnm hown hK.1 w.1 w.2.1 w.2.2.1 i hi2 hc k hk hlink hsame hfin hin2 hdecl hd hn hfit hl hdg (fun H1 locs1 hP hD hS => ?_)
  rw [pgSt w.2.1 ha hi] at hP hD
  exact kk H1 locs1 ⟨hP, hD, hS, w.2.2.2⟩
theorem px_iald (hx : p.tables.exec = Jvm.exec) (hb : c.code = cc) (hK : zK G s) (w : zW G A s H locs (va_pl L f)) (ha : a ∈ L) {n : Nat} {g : Nat → Int32} (hf : f a = .inl (G.2 4, n, .inl g)) {i : Int32} (hi : vp_in i n) (hdg : decode cc pc = .ok (.iaload, 1))
    (kk : W p l e R s m args below meth c H locs cells slots Q (F0 m (pc + 1) ls (.int (g i.toNatClampNeg) :: rest))) : W p l e R s m args below meth c H locs cells slots Q (F0 m pc ls (.int i :: .ref a :: rest)) := by
  obtain ⟨k, hk⟩ := pgIx (f := f) ha
  rw [hf] at hk
  exact va_iald hx hb hK.1 w.1 k 4 hk rfl hi hdg kk
theorem px_zald (hx : p.tables.exec = Jvm.exec) (hb : c.code = cc) (hK : zK G s) (w : zW G A s H locs (va_pl L f)) (ha : a ∈ L) {n : Nat} {g : Nat → Int32} (hf : f a = .inl (G.2 1, n, .inl g)) {i : Int32} (hi : vp_in i n) (hdg : decode cc pc = .ok (.baload, 1))
    (kk : W p l e R s m args below meth c H locs cells slots Q (F0 m (pc + 1) ls (.int (g i.toNatClampNeg) :: rest))) : W p l e R s m args below meth c H locs cells slots Q (F0 m pc ls (.int i :: .ref a :: rest)) := by
  obtain ⟨k, hk⟩ := pgIx (f := f) ha
  rw [hf] at hk
  exact va_zald hx hb hK.1 w.1 k 1 hk rfl hi hdg kk
theorem px_cald (hx : p.tables.exec = Jvm.exec) (hb : c.code = cc) (hK : zK G s) (w : zW G A s H locs (va_pl L f)) (ha : a ∈ L) {n : Nat} {g : Nat → Int32} (hf : f a = .inl (G.2 2, n, .inl g)) {i : Int32} (hi : vp_in i n) (hdg : decode cc pc = .ok (.caload, 1))
    (kk : W p l e R s m args below meth c H locs cells slots Q (F0 m (pc + 1) ls (.int (g i.toNatClampNeg) :: rest))) : W p l e R s m args below meth c H locs cells slots Q (F0 m pc ls (.int i :: .ref a :: rest)) := by
  obtain ⟨k, hk⟩ := pgIx (f := f) ha
  rw [hf] at hk
  exact va_cald hx hb hK.1 w.1 k 2 hk rfl hi hdg kk
theorem px_sald (hx : p.tables.exec = Jvm.exec) (hb : c.code = cc) (hK : zK G s) (w : zW G A s H locs (va_pl L f)) (ha : a ∈ L) {n : Nat} {g : Nat → Int32} (hf : f a = .inl (G.2 3, n, .inl g)) {i : Int32} (hi : vp_in i n) (hdg : decode cc pc = .ok (.saload, 1))
    (kk : W p l e R s m args below meth c H locs cells slots Q (F0 m (pc + 1) ls (.int (g i.toNatClampNeg) :: rest))) : W p l e R s m args below meth c H locs cells slots Q (F0 m pc ls (.int i :: .ref a :: rest)) := by
  obtain ⟨k, hk⟩ := pgIx (f := f) ha
  rw [hf] at hk
  exact va_sald hx hb hK.1 w.1 k 3 hk rfl hi hdg kk
theorem px_fald (hx : p.tables.exec = Jvm.exec) (hb : c.code = cc) (hK : zK G s) (w : zW G A s H locs (va_pl L f)) (ha : a ∈ L) {n : Nat} {g : Nat → UInt32} (hf : f a = .inl (G.2 0, n, .inr (.inr (.inl g)))) {i : Int32} (hi : vp_in i n) (hdg : decode cc pc = .ok (.faload, 1))
    (kk : W p l e R s m args below meth c H locs cells slots Q (F0 m (pc + 1) ls (.float (g i.toNatClampNeg) :: rest))) : W p l e R s m args below meth c H locs cells slots Q (F0 m pc ls (.int i :: .ref a :: rest)) := by
  obtain ⟨k, hk⟩ := pgIx (f := f) ha
  rw [hf] at hk
  exact va_fald hx hb hK.1 w.1 k 0 hk rfl hi hdg kk
theorem px_aldR (hx : p.tables.exec = Jvm.exec) (hb : c.code = cc) (hK : zK G s) (w : zW G A s H locs (va_pl L f)) (ha : a ∈ L) {n : Nat} {g : Nat → Option Nat} (hf : f a = .inl (G.2 5, n, .inr (.inr (.inr (.inr g))))) {i : Int32} (hi : vp_in i n) (hdg : decode cc pc = .ok (.aaload, 1))
    (kk : W p l e R s m args below meth c H locs cells slots Q (F0 m (pc + 1) ls (va_rf (g i.toNatClampNeg) :: rest))) : W p l e R s m args below meth c H locs cells slots Q (F0 m pc ls (.int i :: .ref a :: rest)) := by
  obtain ⟨k, hk⟩ := pgIx (f := f) ha
  rw [hf] at hk
  exact va_aldq (C := RX3) hx hb hK.1 w.1 k 5 hk rfl hi hdg kk
theorem px_aldW (hx : p.tables.exec = Jvm.exec) (hb : c.code = cc) (hK : zK G s) (w : zW G A s H locs (va_pl L f)) (ha : a ∈ L) {n : Nat} {g : Nat → Option Nat} (hf : f a = .inl (G.2 6, n, .inr (.inr (.inr (.inr g))))) {i : Int32} (hi : vp_in i n) (hdg : decode cc pc = .ok (.aaload, 1))
    (kk : W p l e R s m args below meth c H locs cells slots Q (F0 m (pc + 1) ls (va_rf (g i.toNatClampNeg) :: rest))) : W p l e R s m args below meth c H locs cells slots Q (F0 m pc ls (.int i :: .ref a :: rest)) := by
  obtain ⟨k, hk⟩ := pgIx (f := f) ha
  rw [hf] at hk
  exact va_aldq (C := RX4) hx hb hK.1 w.1 k 6 hk rfl hi hdg kk
theorem px_iast (hx : p.tables.exec = Jvm.exec) (hb : c.code = cc) (hK : zK G s) (w : zW G A s H locs (va_pl L f)) (ha : a ∈ L) {n : Nat} {g : Nat → Int32} (hf : f a = .inl (G.2 4, n, .inl g)) {i : Int32} {x : Int32} (hi : vp_in i n) (hdg : decode cc pc = .ok (.iastore, 1))
    (kk : ∀ (H1 : Heap) (locs1 : List Loc), zW G A s H1 locs1 (va_pl L (va_up f a (.inl (G.2 4, n, .inl (upd g i.toNatClampNeg x))))) → W p l e R s m args below meth c H1 locs1 cells slots Q (F0 m (pc + 1) ls rest)) : W p l e R s m args below meth c H locs cells slots Q (F0 m pc ls (.int x :: .int i :: .ref a :: rest)) := by
  obtain ⟨k, hk⟩ := pgIx (f := f) ha
  have hk2 := hk
  rw [hf] at hk2
  refine va_iast hx hb hK.1 w.1 w.2.1 w.2.2.1 k 4 hk2 rfl hi hdg (fun H1 locs1 hP hD hS => ?_)
  rw [pgSt w.2.1 ha hk] at hP hD
  exact kk H1 locs1 ⟨hP, hD, hS, w.2.2.2⟩
theorem px_zast (hx : p.tables.exec = Jvm.exec) (hb : c.code = cc) (hK : zK G s) (w : zW G A s H locs (va_pl L f)) (ha : a ∈ L) {n : Nat} {g : Nat → Int32} (hf : f a = .inl (G.2 1, n, .inl g)) {i : Int32} {x : Int32} (hi : vp_in i n) (hdg : decode cc pc = .ok (.bastore, 1))
    (kk : ∀ (H1 : Heap) (locs1 : List Loc), zW G A s H1 locs1 (va_pl L (va_up f a (.inl (G.2 1, n, .inl (upd g i.toNatClampNeg (vp_nar .boolean x)))))) → W p l e R s m args below meth c H1 locs1 cells slots Q (F0 m (pc + 1) ls rest)) : W p l e R s m args below meth c H locs cells slots Q (F0 m pc ls (.int x :: .int i :: .ref a :: rest)) := by
  obtain ⟨k, hk⟩ := pgIx (f := f) ha
  have hk2 := hk
  rw [hf] at hk2
  refine va_zast hx hb hK.1 w.1 w.2.1 w.2.2.1 k 1 hk2 rfl hi hdg (fun H1 locs1 hP hD hS => ?_)
  rw [pgSt w.2.1 ha hk] at hP hD
  exact kk H1 locs1 ⟨hP, hD, hS, w.2.2.2⟩
theorem px_cast (hx : p.tables.exec = Jvm.exec) (hb : c.code = cc) (hK : zK G s) (w : zW G A s H locs (va_pl L f)) (ha : a ∈ L) {n : Nat} {g : Nat → Int32} (hf : f a = .inl (G.2 2, n, .inl g)) {i : Int32} {x : Int32} (hi : vp_in i n) (hdg : decode cc pc = .ok (.castore, 1))
    (kk : ∀ (H1 : Heap) (locs1 : List Loc), zW G A s H1 locs1 (va_pl L (va_up f a (.inl (G.2 2, n, .inl (upd g i.toNatClampNeg (vp_nar .char x)))))) → W p l e R s m args below meth c H1 locs1 cells slots Q (F0 m (pc + 1) ls rest)) : W p l e R s m args below meth c H locs cells slots Q (F0 m pc ls (.int x :: .int i :: .ref a :: rest)) := by
  obtain ⟨k, hk⟩ := pgIx (f := f) ha
  have hk2 := hk
  rw [hf] at hk2
  refine va_cast hx hb hK.1 w.1 w.2.1 w.2.2.1 k 2 hk2 rfl hi hdg (fun H1 locs1 hP hD hS => ?_)
  rw [pgSt w.2.1 ha hk] at hP hD
  exact kk H1 locs1 ⟨hP, hD, hS, w.2.2.2⟩
theorem px_sast (hx : p.tables.exec = Jvm.exec) (hb : c.code = cc) (hK : zK G s) (w : zW G A s H locs (va_pl L f)) (ha : a ∈ L) {n : Nat} {g : Nat → Int32} (hf : f a = .inl (G.2 3, n, .inl g)) {i : Int32} {x : Int32} (hi : vp_in i n) (hdg : decode cc pc = .ok (.sastore, 1))
    (kk : ∀ (H1 : Heap) (locs1 : List Loc), zW G A s H1 locs1 (va_pl L (va_up f a (.inl (G.2 3, n, .inl (upd g i.toNatClampNeg (vp_nar .short x)))))) → W p l e R s m args below meth c H1 locs1 cells slots Q (F0 m (pc + 1) ls rest)) : W p l e R s m args below meth c H locs cells slots Q (F0 m pc ls (.int x :: .int i :: .ref a :: rest)) := by
  obtain ⟨k, hk⟩ := pgIx (f := f) ha
  have hk2 := hk
  rw [hf] at hk2
  refine va_sast hx hb hK.1 w.1 w.2.1 w.2.2.1 k 3 hk2 rfl hi hdg (fun H1 locs1 hP hD hS => ?_)
  rw [pgSt w.2.1 ha hk] at hP hD
  exact kk H1 locs1 ⟨hP, hD, hS, w.2.2.2⟩
theorem px_fast (hx : p.tables.exec = Jvm.exec) (hb : c.code = cc) (hK : zK G s) (w : zW G A s H locs (va_pl L f)) (ha : a ∈ L) {n : Nat} {g : Nat → UInt32} (hf : f a = .inl (G.2 0, n, .inr (.inr (.inl g)))) {i : Int32} {x : UInt32} (hi : vp_in i n) (hdg : decode cc pc = .ok (.fastore, 1))
    (kk : ∀ (H1 : Heap) (locs1 : List Loc), zW G A s H1 locs1 (va_pl L (va_up f a (.inl (G.2 0, n, .inr (.inr (.inl (vf_upd g i.toNatClampNeg x))))))) → W p l e R s m args below meth c H1 locs1 cells slots Q (F0 m (pc + 1) ls rest)) : W p l e R s m args below meth c H locs cells slots Q (F0 m pc ls (.float x :: .int i :: .ref a :: rest)) := by
  obtain ⟨k, hk⟩ := pgIx (f := f) ha
  have hk2 := hk
  rw [hf] at hk2
  refine va_fast hx hb hK.1 w.1 w.2.1 w.2.2.1 k 0 hk2 rfl hi hdg (fun H1 locs1 hP hD hS => ?_)
  rw [pgSt w.2.1 ha hk] at hP hD
  exact kk H1 locs1 ⟨hP, hD, hS, w.2.2.2⟩
theorem px_astRN (hx : p.tables.exec = Jvm.exec) (hb : c.code = cc) (hK : zK G s) (w : zW G A s H locs (va_pl L f)) (ha : a ∈ L) {n : Nat} {g : Nat → Option Nat} (hf : f a = .inl (G.2 5, n, .inr (.inr (.inr (.inr g))))) {i : Int32} (hi : vp_in i n) (hdg : decode cc pc = .ok (.aastore, 1))
    (kk : ∀ (H1 : Heap) (locs1 : List Loc), zW G A s H1 locs1 (va_pl L (va_up f a (.inl (G.2 5, n, .inr (.inr (.inr (.inr (va_up g i.toNatClampNeg none)))))))) → W p l e R s m args below meth c H1 locs1 cells slots Q (F0 m (pc + 1) ls rest)) : W p l e R s m args below meth c H locs cells slots Q (F0 m pc ls (.null :: .int i :: .ref a :: rest)) := by
  obtain ⟨k, hk⟩ := pgIx (f := f) ha
  have hk2 := hk
  rw [hf] at hk2
  refine va_astqN (C := RX3) hx hb hK.1 w.1 w.2.1 w.2.2.1 k 5 hk2 rfl hi hdg (fun H1 locs1 hP hD hS => ?_)
  rw [pgSt w.2.1 ha hk] at hP hD
  exact kk H1 locs1 ⟨hP, hD, hS, w.2.2.2⟩
/-- the four kinds of reel: their class's number, the place of the word that it is a Reel -/
def zRk (ci : Nat) : Prop := ci = 0 ∨ ci = 1 ∨ ci = 2 ∨ ci = 4
theorem px_astR (hx : p.tables.exec = Jvm.exec) (hb : c.code = cc) (hK : zK G s) (w : zW G A s H locs (va_pl L f)) (ha : a ∈ L) {n v ci : Nat} {fs : List Value} {g : Nat → Option Nat} (hf : f a = .inl (G.2 5, n, .inr (.inr (.inr (.inr g))))) (hv : v ∈ L) (hfv : f v = .inr (ci, fs)) (hci : zRk ci) {i : Int32} (hi : vp_in i n) (hdg : decode cc pc = .ok (.aastore, 1))
    (kk : ∀ (H1 : Heap) (locs1 : List Loc), zW G A s H1 locs1 (va_pl L (va_up f a (.inl (G.2 5, n, .inr (.inr (.inr (.inr (va_up g i.toNatClampNeg (some v))))))))) → W p l e R s m args below meth c H1 locs1 cells slots Q (F0 m (pc + 1) ls rest)) : W p l e R s m args below meth c H locs cells slots Q (F0 m pc ls (.ref v :: .int i :: .ref a :: rest)) := by
  obtain ⟨k, hk⟩ := pgIx (f := f) ha
  obtain ⟨kv, hkv⟩ := pgIx (f := f) hv
  have hk2 := hk
  rw [hf] at hk2
  rw [hfv] at hkv
  have go : ∀ (r : vw_C), vwCl[ci]? = some r → va_Nw (.castable r.1 RX3) s → W p l e R s m args below meth c H locs cells slots Q (F0 m pc ls (.ref v :: .int i :: .ref a :: rest)) := fun r hr hca => by
    refine va_astqO (E := RX3) hx hb hK.1 w.1 w.2.1 w.2.2.1 k 5 kv ci hk2 rfl hca hkv hr hi hdg (fun H1 locs1 hP hD hS => ?_)
    rw [pgSt w.2.1 ha hk] at hP hD
    exact kk H1 locs1 ⟨hP, hD, hS, w.2.2.2⟩
  obtain ⟨-, -, -, ⟨c1, c2, c3, c4⟩, -⟩ := hK
  rcases hci with rfl | rfl | rfl | rfl
  · exact go _ rfl c1
  · exact go _ rfl c2
  · exact go _ rfl c3
  · exact go _ rfl c4
theorem px_astW (hx : p.tables.exec = Jvm.exec) (hb : c.code = cc) (hK : zK G s) (w : zW G A s H locs (va_pl L f)) (ha : a ∈ L) {n v : Nat} {fs : List Value} {g : Nat → Option Nat} (hf : f a = .inl (G.2 6, n, .inr (.inr (.inr (.inr g))))) (hv : v ∈ L) (hfv : f v = .inr (3, fs)) {i : Int32} (hi : vp_in i n) (hdg : decode cc pc = .ok (.aastore, 1))
    (kk : ∀ (H1 : Heap) (locs1 : List Loc), zW G A s H1 locs1 (va_pl L (va_up f a (.inl (G.2 6, n, .inr (.inr (.inr (.inr (va_up g i.toNatClampNeg (some v))))))))) → W p l e R s m args below meth c H1 locs1 cells slots Q (F0 m (pc + 1) ls rest)) : W p l e R s m args below meth c H locs cells slots Q (F0 m pc ls (.ref v :: .int i :: .ref a :: rest)) := by
  obtain ⟨k, hk⟩ := pgIx (f := f) ha
  obtain ⟨kv, hkv⟩ := pgIx (f := f) hv
  have hk2 := hk
  rw [hf] at hk2
  rw [hfv] at hkv
  refine va_astq (r := (RX4, TX4, 1)) hx hb hK.1 w.1 w.2.1 w.2.2.1 k 6 kv 3 hk2 rfl hkv rfl hi hdg (fun H1 locs1 hP hD hS => ?_)
  rw [pgSt w.2.1 ha hk] at hP hD
  exact kk H1 locs1 ⟨hP, hD, hS, w.2.2.2⟩
theorem px_alen (hx : p.tables.exec = Jvm.exec) (hb : c.code = cc) (hK : zK G s) (w : zW G A s H locs (va_pl L f)) (ha : a ∈ L) {cA : ClassId} {x : vp_A} (hf : f a = .inl (cA, x)) (t0 : Nat) {ty : FieldType} (ht : (zT G.2)[t0]? = some (cA, ty)) (hdg : decode cc pc = .ok (.arraylength, 1))
    (kk : W p l e R s m args below meth c H locs cells slots Q (F0 m (pc + 1) ls (.int (nI x.1) :: rest))) : W p l e R s m args below meth c H locs cells slots Q (F0 m pc ls (.ref a :: rest)) := by
  obtain ⟨k, hk⟩ := pgIx (f := f) ha
  rw [hf] at hk
  exact va_alen hx hb hK.1 w.1 k t0 hk ht rfl hdg kk
theorem px_recv {ci : Nat} {fs : List Value} {r : vw_C} (hK : zK G s) (w : zW G A s H locs (va_pl L f)) (ha : a ∈ L) (hf : f a = .inr (ci, fs)) (hc : vwCl[ci]? = some r) : ∃ cell : Cell, H[a]? = some cell ∧ cell.vm.isStatics = false ∧ s.vm.findClass r.1 = some cell.cls := by
  obtain ⟨k, hk⟩ := pgIx (f := f) ha
  rw [hf] at hk
  exact va_recv hK.1 w.1 hc hk
set_option maxHeartbeats 200000 in
theorem px_new (hx : p.tables.exec = Jvm.exec) (hb : c.code = cc) {own C : String} {T : u_T} {N ci index : Nat} {Ts : List Cond} (hts : ∀ w ∈ Ts, w.before args s = true) (hown : s.vm.findClass own = some m.cls) (hK : zK G s) (w : zW G A s H locs (va_pl L f)) (hin : ∀ w ∈ u_ws C T N, w ∈ Ts) (ty : Nat → FieldType) (hty : ∀ k, k < N → parseFieldDescriptor (T k).2.2.1 = some (ty k)) (hcl : (Cond.classLink own index C).before args s = true) (hinst : (Cond.instantiable C N).before args s = true) (hini : (Cond.initialized C).before args s = true) (hc : vwCl[ci]? = some (C, T, N)) {fs : List Value} (hfs : ∀ j, j < N → defaultValue (ty j) = vp_V fs j) (hcells : cells + 1 ≤ R.cells) (hslots : slots + N ≤ R.slots) (hdg : decode cc pc = .ok (.new index, 3))
    (kk : ∀ (q : Nat) (H1 : Heap), q ∉ L → zW G A s H1 locs (va_pl (L ++ [q]) (va_up f q (.inr (ci, fs)))) → W p l e R s m args below meth c H1 locs (cells + 1) (slots + N) Q (F0 m (pc + 3) ls (.ref q :: rest))) : W p l e R s m args below meth c H locs cells slots Q (F0 m pc ls rest) := by
  refine va_new hx hb hts hin ty hty hown hcl hinst hini hK.1 w.1 w.2.1 w.2.2.1 w.2.2.2 hc hfs hcells hslots hdg (fun q H1 hP hD hS => ?_)
  have hq : q ∉ L := va_pl_fresh2 (X := []) hD
  rw [va_pl_push hq] at hP hD
  exact kk q H1 hq ⟨hP, hD, hS, w.2.2.2⟩
set_option maxHeartbeats 200000 in
theorem px_newI (hx : p.tables.exec = Jvm.exec) (hb : c.code = cc) (harr : (Cond.arrayClass .int).before args s = true) (hK : zK G s) (w : zW G A s H locs (va_pl L f)) {n : Int32} {N' : Nat} (hn : ¬ n < 0) (hN : n.toNatClampNeg = N') (hb2 : N' ≤ 4096) (hcells : cells + 1 ≤ R.cells) (hslots : slots + N' ≤ R.slots) (hdg : decode cc pc = .ok (.newarray .int, 2))
    (kk : ∀ (q : Nat) (H1 : Heap), q ∉ L → zW G A s H1 locs (va_pl (L ++ [q]) (va_up f q (.inl (G.2 4, N', .inl (fun _ => 0))))) → W p l e R s m args below meth c H1 locs (cells + 1) (slots + N') Q (F0 m (pc + 2) ls (.ref q :: rest))) : W p l e R s m args below meth c H locs cells slots Q (F0 m pc ls (.int n :: rest)) := by
  refine va_newa (a0 := (N', .inl (fun _ => 0))) (atype := .int) (ty := .int) hx hb harr rfl hK.1 w.1 w.2.1 w.2.2.1 w.2.2.2 (fun cA => rfl) hn hN (by show N' * 4 ≤ _; omega) hcells hslots hdg (fun q cA H1 hK2 hP hD hS => ?_)
  have e1 : s.vm.findClass ("[" ++ (FieldType.toString .int)) = some (G.2 4) := (hK.1.2 4 _ rfl).2
  have e2 : s.vm.findClass ("[" ++ (FieldType.toString .int)) = some cA := (hK2.2 8 _ rfl).2
  have e3 : cA = G.2 4 := Option.some.inj (e2.symm.trans e1)
  subst e3
  have hq : q ∉ L := va_pl_fresh2 (X := []) hD
  rw [va_pl_push hq] at hP hD
  exact kk q H1 hq ⟨hP, hD, hS, w.2.2.2⟩
set_option maxHeartbeats 200000 in
theorem px_newZ (hx : p.tables.exec = Jvm.exec) (hb : c.code = cc) (harr : (Cond.arrayClass .boolean).before args s = true) (hK : zK G s) (w : zW G A s H locs (va_pl L f)) {n : Int32} {N' : Nat} (hn : ¬ n < 0) (hN : n.toNatClampNeg = N') (hb2 : N' ≤ 4096) (hcells : cells + 1 ≤ R.cells) (hslots : slots + N' ≤ R.slots) (hdg : decode cc pc = .ok (.newarray .boolean, 2))
    (kk : ∀ (q : Nat) (H1 : Heap), q ∉ L → zW G A s H1 locs (va_pl (L ++ [q]) (va_up f q (.inl (G.2 1, N', .inl (fun _ => 0))))) → W p l e R s m args below meth c H1 locs (cells + 1) (slots + N') Q (F0 m (pc + 2) ls (.ref q :: rest))) : W p l e R s m args below meth c H locs cells slots Q (F0 m pc ls (.int n :: rest)) := by
  refine va_newa (a0 := (N', .inl (fun _ => 0))) (atype := .boolean) (ty := .boolean) hx hb harr rfl hK.1 w.1 w.2.1 w.2.2.1 w.2.2.2 (fun cA => rfl) hn hN (by show N' * 1 ≤ _; omega) hcells hslots hdg (fun q cA H1 hK2 hP hD hS => ?_)
  have e1 : s.vm.findClass ("[" ++ (FieldType.toString .boolean)) = some (G.2 1) := (hK.1.2 1 _ rfl).2
  have e2 : s.vm.findClass ("[" ++ (FieldType.toString .boolean)) = some cA := (hK2.2 8 _ rfl).2
  have e3 : cA = G.2 1 := Option.some.inj (e2.symm.trans e1)
  subst e3
  have hq : q ∉ L := va_pl_fresh2 (X := []) hD
  rw [va_pl_push hq] at hP hD
  exact kk q H1 hq ⟨hP, hD, hS, w.2.2.2⟩
set_option maxHeartbeats 200000 in
theorem px_newC (hx : p.tables.exec = Jvm.exec) (hb : c.code = cc) (harr : (Cond.arrayClass .char).before args s = true) (hK : zK G s) (w : zW G A s H locs (va_pl L f)) {n : Int32} {N' : Nat} (hn : ¬ n < 0) (hN : n.toNatClampNeg = N') (hb2 : N' ≤ 4096) (hcells : cells + 1 ≤ R.cells) (hslots : slots + N' ≤ R.slots) (hdg : decode cc pc = .ok (.newarray .char, 2))
    (kk : ∀ (q : Nat) (H1 : Heap), q ∉ L → zW G A s H1 locs (va_pl (L ++ [q]) (va_up f q (.inl (G.2 2, N', .inl (fun _ => 0))))) → W p l e R s m args below meth c H1 locs (cells + 1) (slots + N') Q (F0 m (pc + 2) ls (.ref q :: rest))) : W p l e R s m args below meth c H locs cells slots Q (F0 m pc ls (.int n :: rest)) := by
  refine va_newa (a0 := (N', .inl (fun _ => 0))) (atype := .char) (ty := .char) hx hb harr rfl hK.1 w.1 w.2.1 w.2.2.1 w.2.2.2 (fun cA => rfl) hn hN (by show N' * 2 ≤ _; omega) hcells hslots hdg (fun q cA H1 hK2 hP hD hS => ?_)
  have e1 : s.vm.findClass ("[" ++ (FieldType.toString .char)) = some (G.2 2) := (hK.1.2 2 _ rfl).2
  have e2 : s.vm.findClass ("[" ++ (FieldType.toString .char)) = some cA := (hK2.2 8 _ rfl).2
  have e3 : cA = G.2 2 := Option.some.inj (e2.symm.trans e1)
  subst e3
  have hq : q ∉ L := va_pl_fresh2 (X := []) hD
  rw [va_pl_push hq] at hP hD
  exact kk q H1 hq ⟨hP, hD, hS, w.2.2.2⟩
set_option maxHeartbeats 200000 in
theorem px_newS (hx : p.tables.exec = Jvm.exec) (hb : c.code = cc) (harr : (Cond.arrayClass .short).before args s = true) (hK : zK G s) (w : zW G A s H locs (va_pl L f)) {n : Int32} {N' : Nat} (hn : ¬ n < 0) (hN : n.toNatClampNeg = N') (hb2 : N' ≤ 4096) (hcells : cells + 1 ≤ R.cells) (hslots : slots + N' ≤ R.slots) (hdg : decode cc pc = .ok (.newarray .short, 2))
    (kk : ∀ (q : Nat) (H1 : Heap), q ∉ L → zW G A s H1 locs (va_pl (L ++ [q]) (va_up f q (.inl (G.2 3, N', .inl (fun _ => 0))))) → W p l e R s m args below meth c H1 locs (cells + 1) (slots + N') Q (F0 m (pc + 2) ls (.ref q :: rest))) : W p l e R s m args below meth c H locs cells slots Q (F0 m pc ls (.int n :: rest)) := by
  refine va_newa (a0 := (N', .inl (fun _ => 0))) (atype := .short) (ty := .short) hx hb harr rfl hK.1 w.1 w.2.1 w.2.2.1 w.2.2.2 (fun cA => rfl) hn hN (by show N' * 2 ≤ _; omega) hcells hslots hdg (fun q cA H1 hK2 hP hD hS => ?_)
  have e1 : s.vm.findClass ("[" ++ (FieldType.toString .short)) = some (G.2 3) := (hK.1.2 3 _ rfl).2
  have e2 : s.vm.findClass ("[" ++ (FieldType.toString .short)) = some cA := (hK2.2 8 _ rfl).2
  have e3 : cA = G.2 3 := Option.some.inj (e2.symm.trans e1)
  subst e3
  have hq : q ∉ L := va_pl_fresh2 (X := []) hD
  rw [va_pl_push hq] at hP hD
  exact kk q H1 hq ⟨hP, hD, hS, w.2.2.2⟩
set_option maxHeartbeats 200000 in
theorem px_newF (hx : p.tables.exec = Jvm.exec) (hb : c.code = cc) (harr : (Cond.arrayClass .float).before args s = true) (hK : zK G s) (w : zW G A s H locs (va_pl L f)) {n : Int32} {N' : Nat} (hn : ¬ n < 0) (hN : n.toNatClampNeg = N') (hb2 : N' ≤ 4096) (hcells : cells + 1 ≤ R.cells) (hslots : slots + N' ≤ R.slots) (hdg : decode cc pc = .ok (.newarray .float, 2))
    (kk : ∀ (q : Nat) (H1 : Heap), q ∉ L → zW G A s H1 locs (va_pl (L ++ [q]) (va_up f q (.inl (G.2 0, N', .inr (.inr (.inl (fun _ => 0))))))) → W p l e R s m args below meth c H1 locs (cells + 1) (slots + N') Q (F0 m (pc + 2) ls (.ref q :: rest))) : W p l e R s m args below meth c H locs cells slots Q (F0 m pc ls (.int n :: rest)) := by
  refine va_newa (a0 := (N', .inr (.inr (.inl (fun _ => 0))))) (atype := .float) (ty := .float) hx hb harr rfl hK.1 w.1 w.2.1 w.2.2.1 w.2.2.2 (fun cA => rfl) hn hN (by show N' * 4 ≤ _; omega) hcells hslots hdg (fun q cA H1 hK2 hP hD hS => ?_)
  have e1 : s.vm.findClass ("[" ++ (FieldType.toString .float)) = some (G.2 0) := (hK.1.2 0 _ rfl).2
  have e2 : s.vm.findClass ("[" ++ (FieldType.toString .float)) = some cA := (hK2.2 8 _ rfl).2
  have e3 : cA = G.2 0 := Option.some.inj (e2.symm.trans e1)
  subst e3
  have hq : q ∉ L := va_pl_fresh2 (X := []) hD
  rw [va_pl_push hq] at hP hD
  exact kk q H1 hq ⟨hP, hD, hS, w.2.2.2⟩
set_option maxHeartbeats 200000 in
theorem px_newR (hx : p.tables.exec = Jvm.exec) (hb : c.code = cc) {own : String} {index : Nat} (hown : s.vm.findClass own = some m.cls) (hcl : (Cond.classLink own index RX3).before args s = true) (hK : zK G s) (w : zW G A s H locs (va_pl L f)) {n : Int32} {N' : Nat} (hn : ¬ n < 0) (hN : n.toNatClampNeg = N') (hb2 : N' ≤ 4096) (hcells : cells + 1 ≤ R.cells) (hslots : slots + N' ≤ R.slots) (hdg : decode cc pc = .ok (.anewarray index, 3))
    (kk : ∀ (q : Nat) (H1 : Heap), q ∉ L → zW G A s H1 locs (va_pl (L ++ [q]) (va_up f q (.inl (G.2 5, N', .inr (.inr (.inr (.inr (fun _ => none)))))))) → W p l e R s m args below meth c H1 locs (cells + 1) (slots + N') Q (F0 m (pc + 3) ls (.ref q :: rest))) : W p l e R s m args below meth c H locs cells slots Q (F0 m pc ls (.int n :: rest)) := by
  refine va_newq hx hb hown hcl hK.2.2.2.2.1 hK.1 w.1 w.2.1 w.2.2.1 w.2.2.2 hn hN (by omega) hcells hslots hdg (fun q cA H1 hK2 hP hD hS => ?_)
  obtain ⟨-, -, -, -, -, e1⟩ := (hK.1.2 5 _ rfl).2
  obtain ⟨-, -, -, -, -, e2⟩ := (hK2.2 8 _ rfl).2
  have e3 : cA = G.2 5 := Option.some.inj (e2.symm.trans e1)
  subst e3
  have hq : q ∉ L := va_pl_fresh2 (X := []) hD
  rw [va_pl_push hq] at hP hD
  exact kk q H1 hq ⟨hP, hD, hS, w.2.2.2⟩
set_option maxHeartbeats 200000 in
theorem px_newW (hx : p.tables.exec = Jvm.exec) (hb : c.code = cc) {own : String} {index : Nat} (hown : s.vm.findClass own = some m.cls) (hcl : (Cond.classLink own index RX4).before args s = true) (hK : zK G s) (w : zW G A s H locs (va_pl L f)) {n : Int32} {N' : Nat} (hn : ¬ n < 0) (hN : n.toNatClampNeg = N') (hb2 : N' ≤ 4096) (hcells : cells + 1 ≤ R.cells) (hslots : slots + N' ≤ R.slots) (hdg : decode cc pc = .ok (.anewarray index, 3))
    (kk : ∀ (q : Nat) (H1 : Heap), q ∉ L → zW G A s H1 locs (va_pl (L ++ [q]) (va_up f q (.inl (G.2 6, N', .inr (.inr (.inr (.inr (fun _ => none)))))))) → W p l e R s m args below meth c H1 locs (cells + 1) (slots + N') Q (F0 m (pc + 3) ls (.ref q :: rest))) : W p l e R s m args below meth c H locs cells slots Q (F0 m pc ls (.int n :: rest)) := by
  refine va_newq hx hb hown hcl hK.2.2.2.2.2.1 hK.1 w.1 w.2.1 w.2.2.1 w.2.2.2 hn hN (by omega) hcells hslots hdg (fun q cA H1 hK2 hP hD hS => ?_)
  obtain ⟨-, -, -, -, -, e1⟩ := (hK.1.2 6 _ rfl).2
  obtain ⟨-, -, -, -, -, e2⟩ := (hK2.2 8 _ rfl).2
  have e3 : cA = G.2 6 := Option.some.inj (e2.symm.trans e1)
  subst e3
  have hq : q ∉ L := va_pl_fresh2 (X := []) hD
  rw [va_pl_push hq] at hP hD
  exact kk q H1 hq ⟨hP, hD, hS, w.2.2.2⟩
end ZPOOL
