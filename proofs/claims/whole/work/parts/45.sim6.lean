/-! ===== numbers alike ===== -/
theorem wN0 (x : Int32) : (x.toUInt32 % 65536).toInt32 = x &&& 65535 := by
  rw [pk_char, pk_and x 16 (by decide)]
theorem wN1 (x : Int32) : x.toInt16.toInt32 = (x <<< ((16 : Int32) &&& 31)) >>> ((16 : Int32) &&& 31) := by
  apply Int32.toInt_inj.mp
  rw [pk_shr _ _ 16 (by decide)]
  have h1 := pk_shl x ((16 : Int32) &&& 31) 16 (by decide)
  generalize x <<< ((16 : Int32) &&& 31) = z at h1 ⊢
  have h2 : z.toInt = if 2 * z.toBitVec.toNat < 2 ^ 32 then (z.toBitVec.toNat : Int) else (z.toBitVec.toNat : Int) - 2 ^ 32 := by
    show z.toBitVec.toInt = _
    rw [BitVec.toInt_eq_toNat_cond]
    rfl
  have h3 : x.toInt16.toInt32.toInt = if 2 * (x.toBitVec.toNat % 2 ^ 16) < 2 ^ 16 then ((x.toBitVec.toNat % 2 ^ 16 : Nat) : Int) else ((x.toBitVec.toNat % 2 ^ 16 : Nat) : Int) - 2 ^ 16 := by
    rw [Int16.toInt_toInt32]
    show x.toInt16.toBitVec.toInt = _
    rw [BitVec.toInt_eq_toNat_cond]
    have e : x.toInt16.toBitVec.toNat = x.toBitVec.toNat % 2 ^ 16 := by
      show (x.toBitVec.signExtend 16).toNat = _
      rw [BitVec.signExtend_eq_setWidth_of_le _ (by decide), BitVec.toNat_setWidth]
    rw [e]
    rfl
  rw [h3, h2, h1, Int.shiftRight_eq_div_pow]
  have hx := x.toBitVec.isLt
  split <;> split <;> omega
theorem wA1 (x : Int32) : x &&& 1 = 0 ∨ x &&& 1 = 1 := by
  rw [pk_and x 1 (by decide)]
  rcases (show x.toBitVec.toNat % 2 ^ 1 = 0 ∨ x.toBitVec.toNat % 2 ^ 1 = 1 by omega) with h | h
  · rw [h]; exact Or.inl rfl
  · rw [h]; exact Or.inr rfl
theorem wN3 (x : Int32) : (if x &&& 1 = 1 then (1 : Int32) else 0) = x &&& 1 := by
  rcases wA1 x with h | h
  · rw [h]; rfl
  · rw [h]; rfl
theorem wbit (x y : Int32) : (x ^^^ y) &&& 1 = (x ^^^ (y &&& 1)) &&& 1 ∧ (x &&& y) &&& 1 = (x &&& (y &&& 1)) &&& 1 ∧ (x ||| y) &&& 1 = (x ||| (y &&& 1)) &&& 1 := by
  refine ⟨?_, ?_, ?_⟩ <;> (apply Int32.toBitVec_inj.mp; simp only [Int32.toBitVec_and, Int32.toBitVec_xor, Int32.toBitVec_or]; ext i hi; simp; by_cases h0 : i = 0 <;> simp [h0])
theorem wlt {n : Nat} {i : Int32} : (¬ nI n ≤ i) ↔ i < nI n := by
  rw [Int32.le_iff_toInt_le, Int32.lt_iff_toInt_lt]
  omega
theorem wge {x y : Int32} : (¬ y ≤ x) ↔ x < y := by
  rw [Int32.le_iff_toInt_le, Int32.lt_iff_toInt_lt]
  omega
theorem wkn {t how : Int32} : zKnow t how ↔ mKn t how := by
  have i0 : how = 0 ↔ how.toInt = 0 := by rw [← Int32.toInt_inj]; rfl
  have i1 : how = 1 ↔ how.toInt = 1 := by rw [← Int32.toInt_inj]; rfl
  have i6 : how = 6 ↔ how.toInt = 6 := by rw [← Int32.toInt_inj]; rfl
  have i7 : how = 7 ↔ how.toInt = 7 := by rw [← Int32.toInt_inj]; rfl
  have i8 : how = 8 ↔ how.toInt = 8 := by rw [← Int32.toInt_inj]; rfl
  have e0 : (0 : Int32).toInt = 0 := rfl
  have e2 : (2 : Int32).toInt = 2 := rfl
  have e5 : (5 : Int32).toInt = 5 := rfl
  have e8 : (8 : Int32).toInt = 8 := rfl
  have e9 : (9 : Int32).toInt = 9 := rfl
  have a : (how = 0 ∨ how = 1) ↔ (¬ how < 0 ∧ ¬ 2 ≤ how) := by
    rw [i0, i1, Int32.lt_iff_toInt_lt, Int32.le_iff_toInt_le, e0, e2]; omega
  have b : (how = 6 ∨ how = 7 ∨ how = 8) ↔ (¬ how ≤ 5 ∧ ¬ 9 ≤ how) := by
    rw [i6, i7, i8, Int32.le_iff_toInt_le, Int32.le_iff_toInt_le, e5, e9]; omega
  have c : (¬ how < 0 ∧ ¬ 8 < how) ↔ (¬ how < 0 ∧ ¬ 9 ≤ how) := by
    rw [Int32.lt_iff_toInt_lt, Int32.lt_iff_toInt_lt, Int32.le_iff_toInt_le, e0, e8, e9]; omega
  unfold zKnow mKn
  rw [a, b, c]
/-- a sort's number and the int -/
theorem ws_t {s : Nat} {t : Int32} (hs : s < 4) (e : t = nI s) (k : Nat) (hk : k < 4) : t = nI k ↔ s = k := by
  rw [e]
  exact ⟨fun q => (nI_eq (by omega) (by omega)).mp q, fun q => by rw [q]⟩
section WS
variable {s : Nat} {t : Int32} (hs : s < 4) (e : t = nI s)
theorem ws2 {s : Nat} {t : Int32} (hs : s < 4) (e : t = nI s) : t = 2 ↔ s = 2 := ws_t hs e 2 (by decide)
theorem ws3 {s : Nat} {t : Int32} (hs : s < 4) (e : t = nI s) : t = 3 ↔ s = 3 := ws_t hs e 3 (by decide)
theorem ws0 {s : Nat} {t : Int32} (hs : s < 4) (e : t = nI s) : t = 0 ↔ s = 0 := ws_t hs e 0 (by decide)
theorem ws1 {s : Nat} {t : Int32} (hs : s < 4) (e : t = nI s) : t = 1 ↔ s = 1 := ws_t hs e 1 (by decide)
end WS
theorem wTold {s : Nat} {t : Int32} {gi : Nat → Int32} {gf : Nat → UInt32} {i k : Nat} {M : Nat → Nat → Int32} {lev : Nat → UInt32} (hs : s < 4) (e : t = nI s) (h : zCo s (gi i) (gf i) (M 4 k) (lev k)) : zTold s gi gf i = mTo M lev t k := by
  unfold mTo
  rcases (show s = 0 ∨ s = 1 ∨ s = 2 ∨ s = 3 by omega) with rfl | rfl | rfl | rfl
  · rw [if_neg (by rw [ws2 hs e]; decide)]; exact h.symm
  · rw [if_neg (by rw [ws2 hs e]; decide)]; exact h.symm
  · rw [if_pos ((ws2 hs e).mpr rfl)]
    have h2 : lev k = gf i := h
    rw [h2]
    rfl
  · rw [if_neg (by rw [ws2 hs e]; decide)]
    obtain ⟨h1, h2⟩ : M 4 k = gi i ∧ (gi i = 0 ∨ gi i = 1) := h
    show (if gi i = 0 then (0 : Int32) else 1) = _
    rw [h1]
    rcases h2 with h2 | h2
    · rw [h2]; rfl
    · rw [h2]; rfl
theorem wNar {s : Nat} {t x : Int32} (hs : s < 4) (e : t = nI s) (h2 : ¬ s = 2) : zNar s x = mNar t x := by
  unfold mNar
  rcases (show s = 0 ∨ s = 1 ∨ s = 3 by omega) with rfl | rfl | rfl
  · rw [if_pos ((ws0 hs e).mpr rfl)]; exact wN0 x
  · rw [if_neg (by rw [ws0 hs e]; decide), if_pos ((ws1 hs e).mpr rfl)]; exact wN1 x
  · rw [if_neg (by rw [ws0 hs e]; decide), if_neg (by rw [ws1 hs e]; decide)]; exact wN3 x
theorem wF4 {s : Nat} {t x : Int32} {M : Nat → Nat → Int32} {k : Nat} (hs : s < 4) (e : t = nI s) (h2 : ¬ s = 2) : mFM M t k x = va_up M 4 (upd (M 4) k (mNar t x)) := by
  unfold mFM
  rw [if_pos]
  rw [ws0 hs e, ws1 hs e, ws3 hs e]
  omega
theorem wFl {s : Nat} {t : Int32} {lev : Nat → UInt32} {k : Nat} {v : UInt32} (hs : s < 4) (e : t = nI s) (h2 : ¬ s = 2) : mFL lev t k v = lev := by
  unfold mFL
  rw [if_pos]
  rw [ws0 hs e, ws1 hs e, ws3 hs e]
  omega
theorem wF4' {t x : Int32} {M : Nat → Nat → Int32} {k : Nat} (e : t = 2) : mFM M t k x = M := by
  unfold mFM
  rw [if_neg]
  rw [e]
  decide
theorem wFl' {t : Int32} {lev : Nat → UInt32} {k : Nat} {v : UInt32} (e : t = 2) : mFL lev t k v = vf_upd lev k (zHe v) := by
  unfold mFL
  rw [if_neg]
  rw [e]
  decide
theorem wCoN {s : Nat} {t x : Int32} {vf mf : UInt32} (hs : s < 4) (e : t = nI s) (h2 : ¬ s = 2) : zCo s (zNar s x) vf (mNar t x) mf := by
  rw [← wNar hs e h2]
  rcases (show s = 0 ∨ s = 1 ∨ s = 3 by omega) with rfl | rfl | rfl
  · exact rfl
  · exact rfl
  · refine ⟨rfl, ?_⟩
    show (if x &&& 1 = 1 then (1 : Int32) else 0) = 0 ∨ (if x &&& 1 = 1 then (1 : Int32) else 0) = 1
    rw [wN3]
    exact wA1 x
/-! ===== faults alike ===== -/
section WFA
variable {G : zG} {ad : Nat → Nat} {o ac aw ar : Nat} {L : List Nat} {f : Nat → va_E} {ch : Option Nat} {m0 : Nat} {car wa : Nat → Option Nat} {ta : Nat → Int32} {φ : Nat → Nat} {M : Nat → Nat → Int32} {lev : Nat → UInt32} {r v : Int64} {u u2 : va_W}
theorem zOK_ref {why : Int64} (hw : zWhy why) (h : zREL G o ac aw ar L f ch m0 car wa ta φ M lev) (h1 : zRefP G L f ar ta why r u) (h2 : mRefP G ad M lev why v u2) : zOK G ad o ac aw ar r v u u2 :=
  ⟨h1.2.trans h2.2.symm, _, _, h2.1, L, _, ch, m0, car, wa, _, φ, h1.1, zU_ref hw h⟩
theorem zOK_same (h : zREL G o ac aw ar L f ch m0 car wa ta φ M lev) (h1 : u = va_pl L f) (h2 : u2 = mW G ad M lev) (e : r = v) : zOK G ad o ac aw ar r v u u2 :=
  ⟨e, M, lev, h2, L, f, ch, m0, car, wa, ta, φ, h1, h⟩
theorem wM0 {d t : Int32} (h : zREL G o ac aw ar L f ch m0 car wa ta φ M lev) (hd : zFour d) (ht : zFour t) : M 0 (mix d t) = mq φ (car (zix d t)) := by
  rw [mix_zix]
  exact h.2.1 _ (zin_lt (zix_in hd ht))
theorem wRc {d t : Int32} {a : Nat} (hd : zFour d) (ht : zFour t) (e : car (zix d t) = some a) : zRc f car wa (zS t) a ∧ zix d t < 16 ∧ zix d t % 4 = zS t := by
  obtain ⟨x, y, hx, hy, -, -, e1, e2⟩ := zix_of hd ht
  refine ⟨Or.inl ⟨zix d t, by omega, by omega, e⟩, by omega, by omega⟩
theorem wt_nI {t : Int32} (ht : zFour t) : t = nI (zS t) := by
  obtain ⟨b, hb, eb⟩ := zFour_of ht
  rw [zS_is hb eb]
  exact eb
theorem mq_m1 {q : Option Nat} (h : ∀ a, q = some a → φ a < 80) : mq φ q = -1 ↔ q = none := by
  cases q with
  | none => exact ⟨fun _ => rfl, fun _ => rfl⟩
  | some a => exact ⟨fun z => absurd z (nI_m1 _ (by have := h a rfl; omega)), fun z => by cases z⟩
/-- a reachable reel, as the reference has it -/
theorem wAg {s a : Nat} {i : Int32} (h : zREL G o ac aw ar L f ch m0 car wa ta φ M lev) (hs : s < 4) (hr : zRc f car wa s a) : mAg M (nI (φ a)) i = if zHas (vN f a) i then 0 else zBEYOND := by
  obtain ⟨p1, p2, -⟩ := h.2.2.2.2.1 s a hs hr
  unfold mAg mHs
  rw [if_neg (nI_m1 _ (by omega)), nI_clamp (by omega), p2]
  unfold zHas
  simp only [wlt]
theorem wPF {d t i : Int32} (h : zREL G o ac aw ar L f ch m0 car wa ta φ M lev) (hd : zFour d) (ht : zFour t) : zPF f car d t i = mAg M (M 0 (mix d t)) i := by
  rw [wM0 h hd ht]
  cases hc : car (zix d t) with
  | none =>
    have e0 : zRF car d t = zVACANT := by unfold zRF; rw [if_pos ⟨hd, ht⟩, if_pos hc]
    unfold zPF
    rw [e0, if_neg (by decide)]
    rfl
  | some a =>
    have e : zA car d t = a := by unfold zA; rw [hc]; rfl
    have e0 : zRF car d t = 0 := by unfold zRF; rw [if_pos ⟨hd, ht⟩, if_neg (by rw [hc]; intro q; cases q)]
    unfold zPF
    rw [e0, if_pos rfl, e]
    exact (wAg h (zS_lt ht) (wRc hd ht hc).1).symm
theorem wPFn {d t i : Int32} (hn : ¬ (zFour d ∧ zFour t)) : zPF f car d t i = zNONE := by
  have e0 : zRF car d t = zNONE := by unfold zRF; rw [if_neg hn]
  unfold zPF
  rw [e0, if_neg (by decide)]
/-- a place that is there, on both sides -/
theorem wAt {s a : Nat} {i : Int32} (h : zREL G o ac aw ar L f ch m0 car wa ta φ M lev) (hs : s < 4) (hr : zRc f car wa s a) (hh : zHas (vN f a) i) : mat (nI (φ a)) i = 40 * φ a + i.toNatClampNeg ∧ i.toNatClampNeg < vN f a ∧ zCo s (vI f a i.toNatClampNeg) (vF f a i.toNatClampNeg) (M 4 (40 * φ a + i.toNatClampNeg)) (lev (40 * φ a + i.toNatClampNeg)) := by
  obtain ⟨p1, p2, p3⟩ := h.2.2.2.2.1 s a hs hr
  have h40 := (zRc_RA h.1 hs hr).2.2.2.2.1
  have hi := zin_lt (zin40 hh h40)
  refine ⟨?_, hi, p3 _ hi⟩
  obtain ⟨j, hj, ej⟩ := nI_of hh.1
  unfold mat
  rw [ej, m40, nI_clamp hj]
  rw [ej, nI_clamp hj] at hi
  exact nI_clamp (by omega)
end WFA
