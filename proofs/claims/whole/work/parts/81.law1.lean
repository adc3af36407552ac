/-! THE CLAIM OUT OF ONE WALK OF THE LAW'S BODY. Your part is whole_start (and what it stands on); all else here is the same for every law, but numbers. -/
def R_law : String := "ReelBarnLaw"
def lw_P (b : Addr) (xs : List Int32) (args : Array Value) (s : State) : Prop := args = #[.ref b] ∧ s.IntsAt b xs ∧ xs.length ≤ 4096 ∧ (Jvm.Cond.and given_1 narrow_1).before args s = true
def lw_Q (_ : Array Value) (s : State) (o : Outcome) (t : State) : Prop := o = .returned (some (.int 1)) ∧ Framed s o t [] 600000 7302250
def lw_Z (below : List Frame) (a : Array Value) (s : State) : State → Prop := fun t => ∃ o, t.status = .running ∧ Ended t below o ∧ lw_Q a s o t
/-- the law's own end, with 1 on the stack, nothing written that was there before, its room as the claim has it -/
theorem lw_ret {p : Program} {l : Launch} {e : Env} {s : State} {m : MethodId} {below : List Frame} {meth : Method} {c : Code} {b : Nat} (hx : p.tables.exec = Jvm.exec) (hb : c.code = code) (hr : meth.sig.returnType = ret) (hlocks : meth.locks = false) {pc : Nat} {H : Heap} {ls : Array Slot} (hdg : decode code pc = .ok (.ireturn, 1)) : W p l e room_1 s m #[Value.ref b] below meth c H [] 600000 7302250 (lw_Z below #[Value.ref b] s) (F0 m pc ls [.int 1]) := by
  intro T hT X
  obtain ⟨fs, hret, hrun, hended, hW, hframe⟩ := X.leave (v := some (.int 1)) (hlocks := hlocks) (fun h => by rw [hr] at h; cases h)
  have hmeth' : T.vm.method? m = some meth := X.method'
  refine ⟨T.setFrames fs, ?_, .returned (some (.int 1)), hrun, hended, rfl, ⟨_, rfl⟩, hW, hframe⟩
  jvm_step X.here [X.here.top, hx, hb, hdg, hmeth', hr, ret, narrow_b1]
  (try refine ⟨rfl, ?_⟩); (try refine ⟨rfl, ?_⟩)
  first | (intro acts; rw [hret _ acts rfl rfl rfl]) | rw [hret _ _ rfl rfl rfl]
  exact Steps.refl _
/-- what holds at the law's entry: the machine, the code, the tables' words (any of lw_tbl by 'hts w (by decide +kernel)'), the script of L ints xs at the cell b, what the Statement gives of the start (any of its parts by flat_of_before) -/
def lw_At (p : Program) (s : State) (m : MethodId) (meth : Method) (c : Code) (b L : Nat) (xs : Nat → Int32) : Prop :=
  p.tables.exec = Jvm.exec ∧ c.code = code ∧ meth.sig.returnType = ret ∧ c.maxLocals = 4 ∧ s.vm.findClass R_law = some m.cls ∧ (∀ w ∈ lw_tbl, w.before #[Value.ref b] s = true) ∧ va_X b L xs s s.heap ∧ b < s.heap.size ∧ meth.locks = false ∧ (Jvm.Cond.and given_1 narrow_1).before #[Value.ref b] s = true
/-! ===== two worlds side by side ===== -/
section LAWW
variable {p : Program} {l : Launch} {e : Env} {R : Room} {s : State} {m : MethodId} {args : Array Value} {below : List Frame} {meth : Method} {c : Code} {H H1 : Heap} {locs locs1 : List Loc} {cells slots mc ms : Nat} {Q : State → Prop} {pc : Nat} {ls : Array Slot} {rest st0 : List Value} {G : zG} {A : Nat → Prop} {w1 w2 u : va_W} {av : Array Value}
theorem zLl {k : Nat} {q : Nat × va_E} (h : w1[k]? = some q) : (w1 ++ w2)[k]? = some q := by
  rw [List.getElem?_append_left (List.getElem?_eq_some_iff.mp h).1]
  exact h
theorem zLr {k : Nat} {q : Nat × va_E} (h : w2[k]? = some q) : (w1 ++ w2)[w1.length + k]? = some q := by
  rw [List.getElem?_append_right (Nat.le_add_right _ _), Nat.add_sub_cancel_left]
  exact h
theorem zWl (w : zW G A s H locs (w1 ++ w2)) : zW G A s H locs w1 := ⟨fun k q h => w.1 k q (zLl h), ⟨fun i j x y hi hj e => w.2.1.1 i j x y (zLl hi) (zLl hj) e, fun k q h => w.2.1.2 k q (zLl h)⟩, w.2.2.1, w.2.2.2⟩
theorem zWr (w : zW G A s H locs (w1 ++ w2)) : zW G A s H locs w2 := ⟨fun k q h => w.1 _ q (zLr h), ⟨fun i j x y hi hj e => by have := w.2.1.1 _ _ x y (zLr hi) (zLr hj) e; omega, fun k q h => w.2.1.2 _ q (zLr h)⟩, w.2.2.1, w.2.2.2⟩
theorem zWs (w : zW G A s H locs (w1 ++ w2)) : zW G A s H locs (w2 ++ w1) :=
  ⟨va_P.app (zWr w).1 (zWl w).1, va_D.app (zWr w).2.1 (zWl w).2.1 (fun i j x y hi hj e => by
    have h1 := w.2.1.1 _ _ y x (zLl hj) (zLr hi) e.symm
    have h2 := (List.getElem?_eq_some_iff.mp hj).1
    omega), w.2.2.1, w.2.2.2⟩
theorem zJn (w : zW G A s H locs (w1 ++ w2)) (hk : ∀ q : Nat, q < H.size → ¬ va_A w1 H.size q → H1[q]? = H[q]?) (hP : va_P G.1 vwCl u H1) (hD : va_D (va_A w1 H.size) u) (hS : va_S A s.heap H1 locs1) : zW G A s H1 locs1 (u ++ w2) := by
  have apart : ∀ (k : Nat) (q : Nat × va_E), w2[k]? = some q → q.1 < H.size ∧ ¬ va_A w1 H.size q.1 := by
    intro k q hq
    have hl := (w.1 _ q (zLr hq)).lt
    refine ⟨hl, fun h => ?_⟩
    rcases h with ⟨k2, e, h⟩ | h
    · have h1 := w.2.1.1 _ _ (q.1, e) q (zLl h) (zLr hq) rfl
      have h2 := (List.getElem?_eq_some_iff.mp h).1
      omega
    · omega
  refine ⟨va_P.app hP ((zWr w).1.kept (fun k q hq => hk q.1 (apart k q hq).1 (apart k q hq).2)), va_D.app (hD.weaken (fun k q _ h => zFree (zWl w) q.1 h)) (zWr w).2.1 (fun i j x y hi hj e => ?_), hS, w.2.2.2⟩
  have h1 := hD.2 i x hi
  rw [e] at h1
  exact (apart j y hj).2 h1
theorem zXl {post : Int64 → va_W → Prop} (w : zW G A s H locs (w1 ++ w2)) (hr : va_Run p l e R s m args below meth c H locs cells slots mc ms (F0 m pc ls st0) rest (va_Ql post (zB G (va_A w1 H.size)) (va_A w1 H.size) av) (va_A w1 H.size)) (kk : ∀ (r : Int64) (u : va_W) (H1 : Heap) (locs1 : List Loc), post r u → zW G A s H1 locs1 (u ++ w2) → W p l e R s m args below meth c H1 locs1 (cells + mc) (slots + ms) Q (F0 m (pc + 3) ls (.long r :: rest))) : W p l e R s m args below meth c H locs cells slots Q (F0 m pc ls st0) :=
  va_calll hr w.2.2.1 (fun q _ h => zFree (zWl w) q h) (zFree (zWl w)) (fun r u t H1 locs1 ht _ hq hB _ hk hS => kk r u H1 locs1 hq (zJn w hk (by rw [← ht]; exact hB.1) hB.2 hS))
theorem zXi {post : Int32 → va_W → Prop} (w : zW G A s H locs (w1 ++ w2)) (hr : va_Run p l e R s m args below meth c H locs cells slots mc ms (F0 m pc ls st0) rest (va_Qi post (zB G (va_A w1 H.size)) (va_A w1 H.size) av) (va_A w1 H.size)) (kk : ∀ (r : Int32) (u : va_W) (H1 : Heap) (locs1 : List Loc), post r u → zW G A s H1 locs1 (u ++ w2) → W p l e R s m args below meth c H1 locs1 (cells + mc) (slots + ms) Q (F0 m (pc + 3) ls (.int r :: rest))) : W p l e R s m args below meth c H locs cells slots Q (F0 m pc ls st0) :=
  va_calli hr w.2.2.1 (fun q _ h => zFree (zWl w) q h) (zFree (zWl w)) (fun r u t H1 locs1 ht _ hq hB _ hk hS => kk r u H1 locs1 hq (zJn w hk (by rw [← ht]; exact hB.1) hB.2 hS))
theorem zXv {post : va_W → Prop} (w : zW G A s H locs (w1 ++ w2)) (hr : va_Run p l e R s m args below meth c H locs cells slots mc ms (F0 m pc ls st0) rest (va_Qv post (zB G (va_A w1 H.size)) (va_A w1 H.size) av) (va_A w1 H.size)) (kk : ∀ (u : va_W) (H1 : Heap) (locs1 : List Loc), post u → zW G A s H1 locs1 (u ++ w2) → W p l e R s m args below meth c H1 locs1 (cells + mc) (slots + ms) Q (F0 m (pc + 3) ls rest)) : W p l e R s m args below meth c H locs cells slots Q (F0 m pc ls st0) :=
  va_callv hr w.2.2.1 (fun q _ h => zFree (zWl w) q h) (zFree (zWl w)) (fun u t H1 locs1 ht _ hq hB _ hk hS => kk u H1 locs1 hq (zJn w hk (by rw [← ht]; exact hB.1) hB.2 hS))
end LAWW
/-- what the law knows all the way -/
def zLaw (p : Program) (s : State) (m : MethodId) (c : Code) (b L : Nat) (xs : Nat → Int32) (G : zG) : Prop := p.tables.exec = Jvm.exec ∧ c.code = cL_law ∧ c.maxLocals = 4 ∧ s.vm.findClass RL = some m.cls ∧ (∀ w ∈ wsL_law, w.before #[Value.ref b] s = true) ∧ va_X b L xs s s.heap ∧ b < s.heap.size ∧ zK G s
abbrev zAl (s : State) : Nat → Prop := fun q => s.heap.size ≤ q
