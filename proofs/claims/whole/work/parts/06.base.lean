/-! ===== the frame of every contract here: one world of cells, one set of words of the tables ===== -/
abbrev zG : Type := va_G × (Nat → ClassId)
/-- the array classes: 0 float, 1 boolean, 2 char, 3 short, 4 int, 5 Reel, 6 Wall, 7 rows of ints -/
def zT (cy : Nat → ClassId) : List (ClassId × FieldType) := [(cy 0, .float), (cy 1, .boolean), (cy 2, .char), (cy 3, .short), (cy 4, .int), (cy 5, .object RX3), (cy 6, .object RX4), (cy 7, .array .int)]
def zOA (U : State) : Prop := (Cond.arrayOver (.array .int)).before #[] U = true
theorem zidx {u U : State} (hvm : u.vm.Alike U.vm) (comp : ClassId) : (U.vm.classes.findIdx? fun (x : Class) => match x.kind with | .array component _ => component == comp | _ => false) = (u.vm.classes.findIdx? fun (x : Class) => match x.kind with | .array component _ => component == comp | _ => false) := by
  have h1 := va_idx_bare U.vm comp
  have h2 := va_idx_bare u.vm comp
  first | rw [hvm.bare_eq] at h1 | rw [← hvm.bare_eq] at h1
  exact h1.symm.trans h2
def zOk (V : State) (o : Option Nat) : Prop := ((o.bind fun c => (V.vm.classes[c]?).map fun (k : Class) => match k.kind with | .array _ ty => decide (ty = FieldType.array FieldType.int) && decide (V.vm.findClass ("[" ++ (FieldType.array FieldType.int).toString) = some c) | _ => false) == some true) = true
theorem zOA_iff (V : State) : zOA V ↔ ∃ comp : ClassId, V.vm.findClass (FieldType.array FieldType.int).toString = some comp ∧ zOk V (V.vm.classes.findIdx? fun (x : Class) => match x.kind with | .array component _ => component == comp | _ => false) := by
  constructor
  · intro h
    unfold zOA Cond.before Cond.holds at h
    simp only [Cond.value] at h
    cases hc : V.vm.findClass (FieldType.array FieldType.int).toString with
    | none => rw [hc] at h; simp at h
    | some comp =>
      rw [hc, Option.bind_some] at h
      exact ⟨comp, rfl, h⟩
  · rintro ⟨comp, hc, h⟩
    unfold zOA Cond.before Cond.holds
    simp only [Cond.value]
    rw [hc, Option.bind_some]
    exact h
theorem zOA.moved {u U : State} (hvm : u.vm.Alike U.vm) (h : zOA u) : zOA U := by
  obtain ⟨comp, hc, h⟩ := (zOA_iff u).mp h
  refine (zOA_iff U).mpr ⟨comp, by rw [hvm.findClass]; exact hc, ?_⟩
  rw [zidx hvm comp]
  generalize (u.vm.classes.findIdx? fun (x : Class) => match x.kind with | .array component _ => component == comp | _ => false) = o at h ⊢
  cases o with
  | none => exact h
  | some j =>
    unfold zOk at h ⊢
    rw [Option.bind_some] at h ⊢
    cases hk : u.vm.classes[j]? with
    | none => rw [hk] at h; simp at h
    | some k =>
      obtain ⟨k', hk', he⟩ := hvm.2.2 _ _ hk
      have hkind : k'.kind = k.kind := by rw [he]
      rw [hk] at h
      rw [hk', hvm.findClass]
      simp only [Option.map_some] at h ⊢
      rw [hkind]
      exact h
def zK (G : zG) (U : State) : Prop :=
  va_K G.1 vwCl (zT G.2) U ∧
  (va_Nw (.declares ⟨"ReelBarn$Reel", "places", "()I"⟩) U ∧ va_Nw (.declares ⟨"ReelBarn$Reel", "told", "(I)I"⟩) U ∧ va_Nw (.declares ⟨"ReelBarn$Reel", "put", "(II)V"⟩) U) ∧
  (va_Nw (.methodLinkNest RX0 3 yX3_init RX6) U ∧ va_Nw (.methodLinkNest RX1 1 yX3_init RX6) U ∧ va_Nw (.methodLinkNest RX2 1 yX3_init RX6) U ∧ va_Nw (.methodLinkNest RX5 1 yX3_init RX6) U) ∧
  (va_Nw (.castable RX0 RX3) U ∧ va_Nw (.castable RX1 RX3) U ∧ va_Nw (.castable RX2 RX3) U ∧ va_Nw (.castable RX5 RX3) U) ∧
  (va_AO RX3 U ∧ va_AO RX4 U ∧ zOA U)
theorem zK.warm {G : zG} {s U : State} (hW : s.WarmedH U.vm) (h : zK G s) : zK G U := by
  obtain ⟨h0, ⟨a1, a2, a3⟩, ⟨b1, b2, b3, b4⟩, ⟨c1, c2, c3, c4⟩, d1, d2, d3⟩ := h
  exact ⟨h0.moved hW.alike, ⟨va_Nw.warmD hW a1, va_Nw.warmD hW a2, va_Nw.warmD hW a3⟩, ⟨va_Nw.warmM hW b1, va_Nw.warmM hW b2, va_Nw.warmM hW b3, va_Nw.warmM hW b4⟩, ⟨va_Nw.warmC hW c1, va_Nw.warmC hW c2, va_Nw.warmC hW c3, va_Nw.warmC hW c4⟩, d1.moved hW.alike, d2.moved hW.alike, d3.moved hW.alike⟩
theorem zK.same {G : zG} {u U : State} (hv : u.vm = U.vm) (h : zK G u) : zK G U := by
  obtain ⟨h0, ⟨a1, a2, a3⟩, ⟨b1, b2, b3, b4⟩, ⟨c1, c2, c3, c4⟩, d1, d2, d3⟩ := h
  have hA : u.vm.Alike U.vm := by rw [← hv]; exact Vm.Alike.refl u.vm
  exact ⟨h0.moved hA, ⟨a1.same rfl hv, a2.same rfl hv, a3.same rfl hv⟩, ⟨b1.same rfl hv, b2.same rfl hv, b3.same rfl hv, b4.same rfl hv⟩, ⟨c1.same rfl hv, c2.same rfl hv, c3.same rfl hv, c4.same rfl hv⟩, d1.moved hA, d2.moved hA, d3.moved hA⟩
/-- a method's start: its arguments, and a world of cells -/
def zPc (G : zG) (av : List Value) (ws : va_W) (sz : Nat) : Array Value → State → Prop := va_Pc av (fun U => U.heap.size = sz ∧ va_P G.1 vwCl ws U.heap ∧ zK G U ∧ va_D (fun _ => True) ws)
/-- the world behind it -/
def zB (G : zG) (A : Nat → Prop) (u : va_W) (t : State) : Prop := va_P G.1 vwCl u t.heap ∧ va_D A u
/-- the world on the way -/
def zW (G : zG) (A : Nat → Prop) (s : State) (H : Heap) (locs : List Loc) (ws : va_W) : Prop := va_P G.1 vwCl ws H ∧ va_D A ws ∧ va_S A s.heap H locs ∧ ∀ q, s.heap.size ≤ q → A q
abbrev zMl (l : Launch) (y : MethodName) (w : List Cond) (rm : Room) (G : zG) (av : List Value) (ws : va_W) (sz : Nat) (post : Int64 → va_W → Prop) (mc ms : Nat) : Prop := Met l y w rm (zPc G av ws sz) (va_Ql post (zB G (va_A ws sz)) (va_A ws sz)) mc ms (va_A ws sz)
abbrev zMi (l : Launch) (y : MethodName) (w : List Cond) (rm : Room) (G : zG) (av : List Value) (ws : va_W) (sz : Nat) (post : Int32 → va_W → Prop) (mc ms : Nat) : Prop := Met l y w rm (zPc G av ws sz) (va_Qi post (zB G (va_A ws sz)) (va_A ws sz)) mc ms (va_A ws sz)
abbrev zMf (l : Launch) (y : MethodName) (w : List Cond) (rm : Room) (G : zG) (av : List Value) (ws : va_W) (sz : Nat) (post : UInt32 → va_W → Prop) (mc ms : Nat) : Prop := Met l y w rm (zPc G av ws sz) (va_Qf post (zB G (va_A ws sz)) (va_A ws sz)) mc ms (va_A ws sz)
abbrev zMv (l : Launch) (y : MethodName) (w : List Cond) (rm : Room) (G : zG) (av : List Value) (ws : va_W) (sz : Nat) (post : va_W → Prop) (mc ms : Nat) : Prop := Met l y w rm (zPc G av ws sz) (va_Qv post (zB G (va_A ws sz)) (va_A ws sz)) mc ms (va_A ws sz)
abbrev zMq (l : Launch) (y : MethodName) (w : List Cond) (rm : Room) (G : zG) (av : List Value) (ws : va_W) (sz : Nat) (post : Option Nat → va_W → Prop) (mc ms : Nat) : Prop := Met l y w rm (zPc G av ws sz) (va_Qq post (zB G (va_A ws sz)) (va_A ws sz)) mc ms (va_A ws sz)
/-- a contract out of a walk -/
theorem zIn {l : Launch} {y : MethodName} {w w' : List Cond} {rm : Room} {G : zG} {av : List Value} {ws : va_W} {sz : Nat} {cc : ByteArray} {maxL : Nat} {ret : Option FieldType} {mc ms : Nat} {Qc : (Nat → Prop) → Array Value → State → Outcome → State → Prop} (hy : plainName y.cls = true) (hw : w = Cond.code y cc maxL ret :: w') (hlen : (lg_sl av).length ≤ maxL)
    (body : ∀ (p : Program) (e : Env) (s : State) (m : MethodId) (below : List Frame) (meth : Method) (c : Code) (A : Nat → Prop) (ls : Array Slot), p.tables.exec = Jvm.exec → c.code = cc → meth.sig.returnType = ret → meth.locks = false → c.maxLocals = maxL → (∀ x ∈ w, x.before av.toArray s = true) → s.vm.findClass y.cls = some m.cls → meth.name = y.name → zK G s → zW G A s s.heap [] ws → lv_has ls maxL (lv_args 0 av) → W p l e rm s m av.toArray below meth c s.heap [] 0 0 (MQ below (Qc A) av.toArray s mc ms A) (F0 m 0 ls [])) : Met l y w rm (zPc G av ws sz) (Qc (va_A ws sz)) mc ms (va_A ws sz) := by
  refine Met.ofW (cc := cc) (maxL := maxL) (ret := ret) hy hw ?_
  intro p e s m args below meth c s₁ B hml hv
  obtain ⟨rfl, hsz, hP, hK, hD0⟩ := hv
  subst hsz
  rw [lg_entry_eq]
  exact body p e s m below meth c _ _ B.exec B.bytes B.returns B.notSynchronized hml (atoms_spec (ws := w) B.pre) (findClass_of_methodNamed B.named) (name_of_methodNamed B.named B.method).1 hK ⟨hP, hD0.self, va_S.rf, fun q h => Or.inr h⟩ (lv_entry av hlen)
theorem zFree {G : zG} {A : Nat → Prop} {s : State} {H : Heap} {locs : List Loc} {ws : va_W} (w : zW G A s H locs ws) : ∀ q, va_A ws H.size q → A q := by
  intro q h
  rcases h with ⟨k, e, h⟩ | h
  · exact w.2.1.2 k (q, e) h
  · exact w.2.2.2 q (Nat.le_trans w.2.2.1.1 h)
section ZROWS
variable {p : Program} {l : Launch} {e : Env} {R : Room} {s : State} {m : MethodId} {args : Array Value} {below : List Frame} {meth : Method} {c : Code} {H : Heap} {locs : List Loc} {cells slots mc ms : Nat} {Q : State → Prop} {cc : ByteArray} {pc : Nat} {ls : Array Slot} {rest st0 : List Value} {G : zG} {A : Nat → Prop} {ws u : va_W} {av : Array Value}
theorem zRl {v : Int64} {post : Int64 → va_W → Prop} (hx : p.tables.exec = Jvm.exec) (hb : c.code = cc) (hr : meth.sig.returnType = some .long) (hlk : meth.locks = false) (w : zW G A s H locs u) (hdg : decode cc pc = .ok (.lreturn, 1)) (h1 : cells ≤ mc) (h2 : slots ≤ ms) (hp : post v u) : W p l e R s m args below meth c H locs cells slots (MQ below (va_Ql post (zB G A) A) args s mc ms A) (F0 m pc ls [.long v]) := by
  refine W.widen h1 h2 ?_
  exact W.lret hx hb hr (fun t ht hW => ⟨⟨v, u, rfl, hp, by rw [ht]; exact w.1, w.2.1⟩, w.2.2.1.F ht⟩) w.2.2.1.2.2 hdg hlk
theorem zRi {v : Int32} {post : Int32 → va_W → Prop} (hx : p.tables.exec = Jvm.exec) (hb : c.code = cc) (hr : meth.sig.returnType = some .int) (hlk : meth.locks = false) (w : zW G A s H locs u) (hdg : decode cc pc = .ok (.ireturn, 1)) (h1 : cells ≤ mc) (h2 : slots ≤ ms) (hp : post v u) : W p l e R s m args below meth c H locs cells slots (MQ below (va_Qi post (zB G A) A) args s mc ms A) (F0 m pc ls [.int v]) := by
  refine W.widen h1 h2 ?_
  exact W.iret hx hb hr (fun t ht hW => ⟨⟨v, u, rfl, hp, by rw [ht]; exact w.1, w.2.1⟩, w.2.2.1.F ht⟩) w.2.2.1.2.2 hdg hlk
theorem zRz {v : Int32} {post : Int32 → va_W → Prop} (hx : p.tables.exec = Jvm.exec) (hb : c.code = cc) (hr : meth.sig.returnType = some .boolean) (hlk : meth.locks = false) (hn : narrow .boolean (.int v) = .int v) (w : zW G A s H locs u) (hdg : decode cc pc = .ok (.ireturn, 1)) (h1 : cells ≤ mc) (h2 : slots ≤ ms) (hp : post v u) : W p l e R s m args below meth c H locs cells slots (MQ below (va_Qi post (zB G A) A) args s mc ms A) (F0 m pc ls [.int v]) := by
  refine W.widen h1 h2 ?_
  exact W.zret hx hb hr hn (fun t ht hW => ⟨⟨v, u, rfl, hp, by rw [ht]; exact w.1, w.2.1⟩, w.2.2.1.F ht⟩) w.2.2.1.2.2 hdg hlk
theorem zRf {v : UInt32} {post : UInt32 → va_W → Prop} (hx : p.tables.exec = Jvm.exec) (hb : c.code = cc) (hr : meth.sig.returnType = some .float) (hlk : meth.locks = false) (w : zW G A s H locs u) (hdg : decode cc pc = .ok (.freturn, 1)) (h1 : cells ≤ mc) (h2 : slots ≤ ms) (hp : post v u) : W p l e R s m args below meth c H locs cells slots (MQ below (va_Qf post (zB G A) A) args s mc ms A) (F0 m pc ls [.float v]) := by
  refine W.widen h1 h2 ?_
  exact W.fret hx hb hr (fun t ht hW => ⟨⟨v, u, rfl, hp, by rw [ht]; exact w.1, w.2.1⟩, w.2.2.1.F ht⟩) w.2.2.1.2.2 hdg hlk
theorem zRv {post : va_W → Prop} (hx : p.tables.exec = Jvm.exec) (hb : c.code = cc) (hr : meth.sig.returnType = none) (hlk : meth.locks = false) (w : zW G A s H locs u) (hdg : decode cc pc = .ok (.return_, 1)) (h1 : cells ≤ mc) (h2 : slots ≤ ms) (hp : post u) : W p l e R s m args below meth c H locs cells slots (MQ below (va_Qv post (zB G A) A) args s mc ms A) (F0 m pc ls []) := by
  refine W.widen h1 h2 ?_
  exact W.vret hx hb hr (fun t ht hW => ⟨⟨u, rfl, hp, by rw [ht]; exact w.1, w.2.1⟩, w.2.2.1.F ht⟩) w.2.2.1.2.2 hdg hlk
theorem zRq {v : Value} {r : Option Nat} {C : String} {post : Option Nat → va_W → Prop} (hx : p.tables.exec = Jvm.exec) (hb : c.code = cc) (hr : meth.sig.returnType = some (.object C)) (hlk : meth.locks = false) (w : zW G A s H locs u) (hv : v = va_rf r) (hdg : decode cc pc = .ok (.areturn, 1)) (h1 : cells ≤ mc) (h2 : slots ≤ ms) (hp : post r u) : W p l e R s m args below meth c H locs cells slots (MQ below (va_Qq post (zB G A) A) args s mc ms A) (F0 m pc ls [v]) := by
  subst hv
  refine W.widen h1 h2 ?_
  exact W.aret hx hb hr (Or.inl ⟨C, rfl⟩) (va_rf_or r) (fun t ht hW => ⟨⟨r, u, rfl, hp, by rw [ht]; exact w.1, w.2.1⟩, w.2.2.1.F ht⟩) w.2.2.1.2.2 hdg hlk
theorem zPV {b : Nat} {As : List Value} {C : String} (w : zW G A s H locs ws) (hK : zK G s) (hr : ∃ cell : Cell, H[b]? = some cell ∧ cell.vm.isStatics = false ∧ s.vm.findClass C = some cell.cls) : PreV s H C b (zPc G (.ref b :: As) ws H.size) As :=
  ⟨fun a U g mk q => by obtain ⟨q0, q1, qP, qK, qD⟩ := q; exact ⟨q0, q1, qP, zK.same rfl qK, qD⟩, hr, fun U hU hW => ⟨rfl, by rw [hU], by rw [hU]; exact w.1, hK.warm hW, w.2.1.weaken (fun _ _ _ _ => trivial)⟩⟩
theorem zPS {As : List Value} (w : zW G A s H locs ws) (hK : zK G s) : PreS s H (zPc G As ws H.size) As :=
  ⟨fun a U g mk q => by obtain ⟨q0, q1, qP, qK, qD⟩ := q; exact ⟨q0, q1, qP, zK.same rfl qK, qD⟩, fun U hU hW => ⟨rfl, by rw [hU], by rw [hU]; exact w.1, hK.warm hW, w.2.1.weaken (fun _ _ _ _ => trivial)⟩⟩
theorem zCl {post : Int64 → va_W → Prop} (w : zW G A s H locs ws) (hr : va_Run p l e R s m args below meth c H locs cells slots mc ms (F0 m pc ls st0) rest (va_Ql post (zB G (va_A ws H.size)) (va_A ws H.size) av) (va_A ws H.size)) (kk : ∀ (r : Int64) (u : va_W) (H1 : Heap) (locs1 : List Loc), post r u → zW G A s H1 locs1 u → W p l e R s m args below meth c H1 locs1 (cells + mc) (slots + ms) Q (F0 m (pc + 3) ls (.long r :: rest))) : W p l e R s m args below meth c H locs cells slots Q (F0 m pc ls st0) :=
  va_calll hr w.2.2.1 (fun q _ h => zFree w q h) (zFree w) (fun r u t H1 locs1 ht _ hq hB _ _ hS => kk r u H1 locs1 hq ⟨by rw [← ht]; exact hB.1, hB.2.weaken (fun _ q _ h => zFree w q.1 h), hS, w.2.2.2⟩)
theorem zCi {post : Int32 → va_W → Prop} (w : zW G A s H locs ws) (hr : va_Run p l e R s m args below meth c H locs cells slots mc ms (F0 m pc ls st0) rest (va_Qi post (zB G (va_A ws H.size)) (va_A ws H.size) av) (va_A ws H.size)) (kk : ∀ (r : Int32) (u : va_W) (H1 : Heap) (locs1 : List Loc), post r u → zW G A s H1 locs1 u → W p l e R s m args below meth c H1 locs1 (cells + mc) (slots + ms) Q (F0 m (pc + 3) ls (.int r :: rest))) : W p l e R s m args below meth c H locs cells slots Q (F0 m pc ls st0) :=
  va_calli hr w.2.2.1 (fun q _ h => zFree w q h) (zFree w) (fun r u t H1 locs1 ht _ hq hB _ _ hS => kk r u H1 locs1 hq ⟨by rw [← ht]; exact hB.1, hB.2.weaken (fun _ q _ h => zFree w q.1 h), hS, w.2.2.2⟩)
theorem zCf {post : UInt32 → va_W → Prop} (w : zW G A s H locs ws) (hr : va_Run p l e R s m args below meth c H locs cells slots mc ms (F0 m pc ls st0) rest (va_Qf post (zB G (va_A ws H.size)) (va_A ws H.size) av) (va_A ws H.size)) (kk : ∀ (r : UInt32) (u : va_W) (H1 : Heap) (locs1 : List Loc), post r u → zW G A s H1 locs1 u → W p l e R s m args below meth c H1 locs1 (cells + mc) (slots + ms) Q (F0 m (pc + 3) ls (.float r :: rest))) : W p l e R s m args below meth c H locs cells slots Q (F0 m pc ls st0) :=
  va_callf hr w.2.2.1 (fun q _ h => zFree w q h) (zFree w) (fun r u t H1 locs1 ht _ hq hB _ _ hS => kk r u H1 locs1 hq ⟨by rw [← ht]; exact hB.1, hB.2.weaken (fun _ q _ h => zFree w q.1 h), hS, w.2.2.2⟩)
theorem zCq {post : Option Nat → va_W → Prop} (w : zW G A s H locs ws) (hr : va_Run p l e R s m args below meth c H locs cells slots mc ms (F0 m pc ls st0) rest (va_Qq post (zB G (va_A ws H.size)) (va_A ws H.size) av) (va_A ws H.size)) (kk : ∀ (r : Option Nat) (u : va_W) (H1 : Heap) (locs1 : List Loc), post r u → zW G A s H1 locs1 u → W p l e R s m args below meth c H1 locs1 (cells + mc) (slots + ms) Q (F0 m (pc + 3) ls (va_rf r :: rest))) : W p l e R s m args below meth c H locs cells slots Q (F0 m pc ls st0) :=
  va_callq hr w.2.2.1 (fun q _ h => zFree w q h) (zFree w) (fun r u t H1 locs1 ht _ hq hB _ _ hS => kk r u H1 locs1 hq ⟨by rw [← ht]; exact hB.1, hB.2.weaken (fun _ q _ h => zFree w q.1 h), hS, w.2.2.2⟩)
theorem zCv {post : va_W → Prop} (w : zW G A s H locs ws) (hr : va_Run p l e R s m args below meth c H locs cells slots mc ms (F0 m pc ls st0) rest (va_Qv post (zB G (va_A ws H.size)) (va_A ws H.size) av) (va_A ws H.size)) (kk : ∀ (u : va_W) (H1 : Heap) (locs1 : List Loc), post u → zW G A s H1 locs1 u → W p l e R s m args below meth c H1 locs1 (cells + mc) (slots + ms) Q (F0 m (pc + 3) ls rest)) : W p l e R s m args below meth c H locs cells slots Q (F0 m pc ls st0) :=
  va_callv hr w.2.2.1 (fun q _ h => zFree w q h) (zFree w) (fun u t H1 locs1 ht _ hq hB _ _ hS => kk u H1 locs1 hq ⟨by rw [← ht]; exact hB.1, hB.2.weaken (fun _ q _ h => zFree w q.1 h), hS, w.2.2.2⟩)
/-! fields and arrays of a listed world -/
theorem zget (hx : p.tables.exec = Jvm.exec) (hb : c.code = cc) {own ref C : String} {T : u_T} {N ci index a : Nat} {Ts : List Cond} (hts : ∀ w ∈ Ts, w.before args s = true) (hown : s.vm.findClass own = some m.cls) (hK : zK G s) (w : zW G A s H locs ws) (hin : ∀ w ∈ u_ws C T N, w ∈ Ts) (q0 : Nat) {fs : List Value} (he : ws[q0]? = some (a, .inr (ci, fs))) (hc : vwCl[ci]? = some (C, T, N)) (k : Nat) (hk : k < N) (hlink : (Cond.fieldLink own index ref (T k).2.1 (T k).2.2.1).before args s = true) (hsame : ∀ x, s.fieldFound? (T k).1 (T k).2.1 (T k).2.2.1 = some x → s.fieldFound? ref (T k).2.1 (T k).2.2.1 = some x) {v : Value} (hv : fs[k]? = some v) (hdg : decode cc pc = .ok (.getfield index, 3))
    (kk : W p l e R s m args below meth c H locs cells slots Q (F0 m (pc + 3) ls (v :: rest))) : W p l e R s m args below meth c H locs cells slots Q (F0 m pc ls (.ref a :: rest)) :=
  va_get hx hb hts hin hown hK.1 w.1 q0 he hc k hk hlink hsame hv hdg kk
theorem pgIx {L : List Nat} {f : Nat → va_E} {a : Nat} (h : a ∈ L) : ∃ k : Nat, (va_pl L f)[k]? = some (a, f a) := va_pl_get (X := []) h
theorem pgSt {L : List Nat} {f : Nat → va_E} {a k : Nat} {x : va_E} (hD : va_D A (va_pl L f)) (h : a ∈ L) (hk : (va_pl L f)[k]? = some (a, f a)) : (va_pl L f).set k (a, x) = va_pl L (va_up f a x) := va_pl_set (X := []) hD h hk
end ZROWS
