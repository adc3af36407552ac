section ST2
variable {G : zG} {ad : Nat → Nat} {o ac aw ar : Nat} {L : List Nat} {f : Nat → va_E} {ch : Option Nat} {m0 : Nat} {car wa : Nat → Option Nat} {ta : Nat → Int32} {φ : Nat → Nat} {M : Nat → Nat → Int32} {lev : Nat → UInt32} {r v : Int64} {u u2 : va_W}
theorem wHs {s a : Nat} {i : Int32} (h : zREL G o ac aw ar L f ch m0 car wa ta φ M lev) (hs : s < 4) (hr : zRc f car wa s a) : mHs M (nI (φ a)) i ↔ zHas (vN f a) i := by
  obtain ⟨p1, p2, -⟩ := h.2.2.2.2.1 s a hs hr
  unfold mHs zHas
  rw [nI_clamp (by omega), p2, wlt]
theorem zWF_n {t : Int32} (ht : zFour t) (hw : wa (zS t) = none) : zWF wa t = zVACANT := by unfold zWF; rw [if_pos ht, if_pos hw]
theorem zWF_s {t : Int32} {w : Nat} (ht : zFour t) (hw : wa (zS t) = some w) : zWF wa t = 0 := by unfold zWF; rw [if_pos ht, if_neg (by rw [hw]; intro q; cases q)]
theorem zWF_x {t : Int32} (ht : ¬ zFour t) : zWF wa t = zNONE := by unfold zWF; rw [if_neg ht]
theorem zRoF_x {t y : Int32} (ht : ¬ zFour t) : zRoF f wa t y = zNONE := by unfold zRoF; rw [zWF_x ht, if_neg (by decide)]
theorem zWR_x {t y : Int32} (ht : ¬ zFour t) : zWR f wa t y = zNONE := by unfold zWR; rw [zRoF_x ht, if_neg (by decide)]
theorem zWP_x {t y i : Int32} (ht : ¬ zFour t) : zWP f wa t y i = zNONE := by unfold zWP; rw [zWR_x ht, if_neg (by decide)]
theorem wAR {t y : Int32} (h : zREL G o ac aw ar L f ch m0 car wa ta φ M lev) (ht : zFour t) : zRoF f wa t y = mAR M t y := by
  have e1 := h.2.2.1 _ (zS_lt ht)
  cases hw : wa (zS t) with
  | none =>
    rw [hw] at e1
    unfold zRoF mAR
    rw [zWF_n ht hw, if_neg (by decide), if_pos (show M 1 (zS t) = -1 from e1)]
  | some w =>
    rw [hw] at e1
    have e2 : M 1 (zS t) = nI (vN f w) := e1
    have e3 : zWa wa t = w := by unfold zWa; rw [hw]; rfl
    have h12 := (h.1.2.2.1 _ (zS_lt ht) w hw).2.2.2.2.1
    unfold zRoF mAR
    rw [zWF_s ht hw, if_pos rfl, e3, e2, if_neg (nI_m1 _ (by omega))]
    unfold zHas
    simp only [wlt]
theorem wRow {t y : Int32} (h : zREL G o ac aw ar L f ch m0 car wa ta φ M lev) (ht : zFour t) (hX : mAR M t y = 0) : ∃ w, wa (zS t) = some w ∧ zWa wa t = w ∧ y.toNatClampNeg < vN f w ∧ mwx t y = 12 * zS t + y.toNatClampNeg ∧ M 2 (mwx t y) = mq φ (vQ f w y.toNatClampNeg) := by
  have hz : zRoF f wa t y = 0 := by rw [wAR h ht]; exact hX
  obtain ⟨h0, hh⟩ := zRoF_0 hz
  obtain ⟨-, hw⟩ := zWF_0 h0
  have hW := h.1.2.2.1 _ (zS_lt ht) _ hw
  have hj := zin_lt (zin12 hh hW.2.2.2.2.1)
  have h12 := hW.2.2.2.2.1
  have e : mwx t y = 12 * zS t + y.toNatClampNeg := by
    obtain ⟨j, hjj, ej⟩ := nI_of hh.1
    have et := wt_nI ht
    have hs := zS_lt ht
    rw [ej, nI_clamp hjj] at hj
    unfold mwx
    generalize zS t = s at et hs ⊢
    rw [et, ej, m12, nI_clamp hjj]
    exact nI_clamp (by omega)
  refine ⟨zWa wa t, hw, rfl, hj, e, ?_⟩
  rw [e, h.2.2.2.1 _ _ (zS_lt ht) (by omega), hw]
  show (if _ < _ then _ else _) = _
  rw [if_pos hj]
theorem wrc {t y : Int32} {w x : Nat} (hw : wa (zS t) = some w) (hj : y.toNatClampNeg < vN f w) (e : vQ f w y.toNatClampNeg = some x) : zRc f car wa (zS t) x := Or.inr ⟨w, _, hw, hj, e⟩
theorem wWR {t y : Int32} (h : zREL G o ac aw ar L f ch m0 car wa ta φ M lev) (ht : zFour t) : zWR f wa t y = if mAR M t y = 0 then (if M 2 (mwx t y) = -1 then zBARE else 0) else mAR M t y := by
  unfold zWR
  rw [wAR h ht]
  by_cases hX : mAR M t y = 0
  · rw [if_pos hX, if_pos hX]
    obtain ⟨w, hw, ew, hj, e1, e2⟩ := wRow h ht hX
    rw [ew, e2]
    simp only [mq_m1 (fun a e => (h.2.2.2.2.1 _ a (zS_lt ht) (wrc hw hj e)).1)]
  · rw [if_neg hX, if_neg hX]
theorem wWP {t y i : Int32} (h : zREL G o ac aw ar L f ch m0 car wa ta φ M lev) (ht : zFour t) : zWP f wa t y i = mAP M t y i := by
  unfold zWP mAP
  rw [wWR h ht]
  by_cases hX : mAR M t y = 0
  · rw [if_pos hX, if_pos hX]
    obtain ⟨w, hw, ew, hj, e1, e2⟩ := wRow h ht hX
    by_cases hb : M 2 (mwx t y) = -1
    · rw [if_pos hb, if_pos hb, if_neg (by decide)]
    · rw [if_neg hb, if_neg hb, if_pos rfl]
      cases hq : vQ f w y.toNatClampNeg with
      | none => rw [e2, hq] at hb; exact absurd rfl hb
      | some x =>
        have ex : zWx f wa t y = x := by unfold zWx; rw [ew, hq]; rfl
        have em : M 2 (mwx t y) = nI (φ x) := by rw [e2, hq]; rfl
        rw [ex, em]
        simp only [wHs h (zS_lt ht) (wrc (car := car) hw hj hq)]
  · rw [if_neg hX, if_neg hX, if_neg hX]
theorem wWPl {t y i : Int32} (h : zREL G o ac aw ar L f ch m0 car wa ta φ M lev) (ht : zFour t) (hX : mAP M t y i = 0) : ∃ x, zWx f wa t y = x ∧ zRc f car wa (zS t) x ∧ mat (M 2 (mwx t y)) i = 40 * φ x + i.toNatClampNeg ∧ i.toNatClampNeg < vN f x ∧ zCo (zS t) (vI f x i.toNatClampNeg) (vF f x i.toNatClampNeg) (M 4 (40 * φ x + i.toNatClampNeg)) (lev (40 * φ x + i.toNatClampNeg)) := by
  obtain ⟨p1, p2, p3⟩ := mAP_0 hX
  obtain ⟨w, hw, ew, hj, e1, e2⟩ := wRow h ht p1
  cases hq : vQ f w y.toNatClampNeg with
  | none => rw [e2, hq] at p2; exact absurd rfl p2
  | some x =>
    have ex : zWx f wa t y = x := by unfold zWx; rw [ew, hq]; rfl
    have em : M 2 (mwx t y) = nI (φ x) := by rw [e2, hq]; rfl
    have hr : zRc f car wa (zS t) x := wrc hw hj hq
    rw [em] at p3 ⊢
    obtain ⟨q1, q2, q3⟩ := wAt h (zS_lt ht) hr ((wHs h (zS_lt ht) hr).mp p3)
    exact ⟨x, ex, hr, q1, q2, q3⟩
theorem wLev {s : Nat} {t : Int32} {gi : Nat → Int32} {gf : Nat → UInt32} {i k : Nat} (hs : s < 4) (e : t = nI s) (h : zCo s (gi i) (gf i) (M 4 k) (lev k)) : zLev s gi gf i = if t = 2 then lev k else FP.i2f (M 4 k) := by
  by_cases h2 : s = 2
  · rw [if_pos ((ws2 hs e).mpr h2)]
    subst h2
    exact (show lev k = gf i from h).symm
  · rw [if_neg (fun q => h2 ((ws2 hs e).mp q)), zLev_of h2, wTold hs e h]
    unfold mTo
    rw [if_neg (fun q => h2 ((ws2 hs e).mp q))]
theorem wInt {s : Nat} {t : Int32} {gi : Nat → Int32} {gf : Nat → UInt32} {i k : Nat} (hs : s < 4) (e : t = nI s) (h2 : ¬ s = 2) (h : zCo s (gi i) (gf i) (M 4 k) (lev k)) : zTold s gi gf i = M 4 k := by
  rw [wTold hs e h]
  unfold mTo
  rw [if_neg (fun q => h2 ((ws2 hs e).mp q))]
theorem st_spot {t y i : Int32} (h : zREL G o ac aw ar L f ch m0 car wa ta φ M lev) (h1 : (fun r u => if zWP f wa t y i = 0 then (u = va_pl L f ∧ r = (zTold (zS t) (vI f (zWx f wa t y)) (vF f (zWx f wa t y)) i.toNatClampNeg).toInt64) else zRefP G L f ar ta (zWP f wa t y i) r u) r u) (h2 : (fun r u => if zFour t then (if (mAP M t y i) = 0 then (u = mW G ad M lev ∧ r = (mTo M lev t (mat (M 2 (mwx t y)) i)).toInt64) else mRefP G ad M lev (mAP M t y i) r u) else mRefP G ad M lev zNONE r u) v u2) : zOK G ad o ac aw ar r v u u2 := by
  by_cases ht : zFour t
  · rw [wWP h ht] at h1
    rw [if_pos ht] at h2
    by_cases hX : mAP M t y i = 0
    · rw [if_pos hX] at h1 h2
      obtain ⟨a, ea, hr, eat, hi, hco⟩ := wWPl h ht hX
      rw [ea] at h1
      rw [eat] at h2
      exact zOK_same h h1.1 h2.1 (by rw [h1.2, h2.2, wTold (zS_lt ht) (wt_nI ht) hco])
    · rw [if_neg hX] at h1 h2
      exact zOK_ref (mAP_why hX) h h1 h2
  · rw [zWP_x ht, if_neg (by decide)] at h1
    rw [if_neg ht] at h2
    exact zOK_ref zW1 h h1 h2
theorem st_paint {t y i x : Int32} (h : zREL G o ac aw ar L f ch m0 car wa ta φ M lev) (h1 : (fun r u => if zWP f wa t y i = 0 then (u = zPutW G L f (zS t) (zWx f wa t y) (zPuI (zS t) (vI f (zWx f wa t y)) i.toNatClampNeg x) (zPuF (zS t) (vF f (zWx f wa t y)) i.toNatClampNeg (zEi x)) ∧ r = (zTold (zS t) (zPuI (zS t) (vI f (zWx f wa t y)) i.toNatClampNeg x) (zPuF (zS t) (vF f (zWx f wa t y)) i.toNatClampNeg (zEi x)) i.toNatClampNeg).toInt64) else zRefP G L f ar ta (zWP f wa t y i) r u) r u) (h2 : (fun r u => if zFour t then (if (mAP M t y i) = 0 then (u = mW G ad (mFM M t (mat (M 2 (mwx t y)) i) x) (mFL lev t (mat (M 2 (mwx t y)) i) (zEi x)) ∧ r = (mTo (mFM M t (mat (M 2 (mwx t y)) i) x) (mFL lev t (mat (M 2 (mwx t y)) i) (zEi x)) t (mat (M 2 (mwx t y)) i)).toInt64) else mRefP G ad M lev (mAP M t y i) r u) else mRefP G ad M lev zNONE r u) v u2) : zOK G ad o ac aw ar r v u u2 := by
  by_cases ht : zFour t
  · rw [wWP h ht] at h1
    rw [if_pos ht] at h2
    by_cases hX : mAP M t y i = 0
    · rw [if_pos hX] at h1 h2
      obtain ⟨a, ea, hr, eat, hi, hco⟩ := wWPl h ht hX
      rw [ea] at h1
      rw [eat] at h2
      by_cases hs2 : zS t = 2
      · have et : t = 2 := (ws2 (zS_lt ht) (wt_nI ht)).mpr hs2
        exact zOK_putF ht hs2 h hr hi (by rw [hs2]; rfl) (by rw [hs2]; rfl) (zn32 (zEi_fin x).notNaN) (wF4' et) (wFl' et) h1 h2
      · exact zOK_putI ht hs2 h hr hi (zPuI_of hs2) (zPuF_of hs2) (wF4 (zS_lt ht) (wt_nI ht) hs2) (wFl (zS_lt ht) (wt_nI ht) hs2) (fun _ _ => wCoN (zS_lt ht) (wt_nI ht) hs2) h1 h2
    · rw [if_neg hX] at h1 h2
      exact zOK_ref (mAP_why hX) h h1 h2
  · rw [zWP_x ht, if_neg (by decide)] at h1
    rw [if_neg ht] at h2
    exact zOK_ref zW1 h h1 h2
theorem st_pin {t y d : Int32} (h : zREL G o ac aw ar L f ch m0 car wa ta φ M lev) (h1 : (fun r u => if zFour d then (if zRoF f wa t y = 0 then (u = va_pl L (va_up f (vB f (zWa wa t)) (.inl (G.2 5, vN f (zWa wa t), zQ (va_up (vQ f (zWa wa t)) y.toNatClampNeg (car (zix d t)))))) ∧ r = if (car (zix d t)) = none then 0 else 1) else zRefP G L f ar ta (zRoF f wa t y) r u) else zRefP G L f ar ta zNONE r u) r u) (h2 : (fun r u => if zFour t ∧ zFour d then (if (mAR M t y) = 0 then (u = mW G ad (va_up M 2 (upd (M 2) (mwx t y) (M 0 (mix d t)))) lev ∧ r = if (M 0 (mix d t)) = -1 then 0 else 1) else mRefP G ad M lev (mAR M t y) r u) else mRefP G ad M lev zNONE r u) v u2) : zOK G ad o ac aw ar r v u u2 := by
  by_cases hd : zFour d
  · rw [if_pos hd] at h1
    by_cases ht : zFour t
    · rw [if_pos ⟨ht, hd⟩] at h2
      rw [wAR h ht] at h1
      by_cases hX : mAR M t y = 0
      · rw [if_pos hX] at h1 h2
        obtain ⟨w, hw, ew, hj, e1, e2⟩ := wRow h ht hX
        rw [ew] at h1
        rw [e1, wM0 h hd ht] at h2
        have hrc : ∀ a, car (zix d t) = some a → zRc f car wa (zS t) a := fun a e => (wRc hd ht e).1
        refine ⟨?_, _, _, h2.1, L, _, ch, m0, car, wa, ta, φ, h1.1, zU_pin (zS_lt ht) hw hj hrc h⟩
        rw [h1.2, h2.2]
        simp only [mq_m1 (fun a e => (h.2.2.2.2.1 _ a (zS_lt ht) (hrc a e)).1)]
      · rw [if_neg hX] at h1 h2
        exact zOK_ref (mAR_why hX) h h1 h2
    · rw [zRoF_x ht, if_neg (by decide)] at h1
      rw [if_neg (fun q => ht q.1)] at h2
      exact zOK_ref zW1 h h1 h2
  · rw [if_neg hd] at h1
    rw [if_neg (fun q => hd q.2)] at h2
    exact zOK_ref zW1 h h1 h2
theorem st_peel {t y d : Int32} (h : zREL G o ac aw ar L f ch m0 car wa ta φ M lev) (h1 : (fun r u => if zFour d then (if zRoF f wa t y = 0 then (u = zCarW G L f ac (va_up car (zix d t) (vQ f (zWa wa t) y.toNatClampNeg)) ∧ r = if (vQ f (zWa wa t) y.toNatClampNeg) = none then 0 else 1) else zRefP G L f ar ta (zRoF f wa t y) r u) else zRefP G L f ar ta zNONE r u) r u) (h2 : (fun r u => if zFour t ∧ zFour d then (if (mAR M t y) = 0 then (u = mW G ad (va_up M 0 (upd (M 0) (mix d t) (M 2 (mwx t y)))) lev ∧ r = if M 2 (mwx t y) = -1 then 0 else 1) else mRefP G ad M lev (mAR M t y) r u) else mRefP G ad M lev zNONE r u) v u2) : zOK G ad o ac aw ar r v u u2 := by
  by_cases hd : zFour d
  · rw [if_pos hd] at h1
    by_cases ht : zFour t
    · rw [if_pos ⟨ht, hd⟩] at h2
      rw [wAR h ht] at h1
      by_cases hX : mAR M t y = 0
      · rw [if_pos hX] at h1 h2
        obtain ⟨w, hw, ew, hj, e1, e2⟩ := wRow h ht hX
        rw [ew] at h1
        rw [e2, mix_zix] at h2
        have hrc : ∀ a, vQ f w y.toNatClampNeg = some a → zRc f car wa (zS t) a := fun a e => wrc hw hj e
        refine ⟨?_, _, _, h2.1, L, _, ch, m0, _, wa, ta, φ, h1.1, zU_car (wk hd ht).1 (fun a e => by rw [(wk hd ht).2]; exact hrc a e) h⟩
        rw [h1.2, h2.2]
        simp only [mq_m1 (fun a e => (h.2.2.2.2.1 _ a (zS_lt ht) (hrc a e)).1)]
      · rw [if_neg hX] at h1 h2
        exact zOK_ref (mAR_why hX) h h1 h2
    · rw [zRoF_x ht, if_neg (by decide)] at h1
      rw [if_neg (fun q => ht q.1)] at h2
      exact zOK_ref zW1 h h1 h2
  · rw [if_neg hd] at h1
    rw [if_neg (fun q => hd q.2)] at h2
    exact zOK_ref zW1 h h1 h2
theorem st_span {t y : Int32} (h : zREL G o ac aw ar L f ch m0 car wa ta φ M lev) (h1 : (fun r u => if y = -1 then (if zWF wa t = 0 then (u = va_pl L f ∧ r = (nI (vN f (zWa wa t))).toInt64) else zRefP G L f ar ta (zWF wa t) r u) else (if zWR f wa t y = 0 then (u = va_pl L f ∧ r = (nI (vN f (zWx f wa t y))).toInt64) else zRefP G L f ar ta (zWR f wa t y) r u)) r u) (h2 : (fun r u => if zFour t then (if ¬ (M 1 (zS t)) = -1 ∧ y = -1 then (u = mW G ad M lev ∧ r = (M 1 (zS t)).toInt64) else if (mAR M t y) = 0 then (if (M 2 (mwx t y)) = -1 then mRefP G ad M lev zBARE r u else (u = mW G ad M lev ∧ r = (M 3 (M 2 (mwx t y)).toNatClampNeg).toInt64)) else mRefP G ad M lev (mAR M t y) r u) else mRefP G ad M lev zNONE r u) v u2) : zOK G ad o ac aw ar r v u u2 := by
  by_cases ht : zFour t
  · rw [if_pos ht] at h2
    have e1 := h.2.2.1 _ (zS_lt ht)
    by_cases hy : y = -1
    · rw [if_pos hy] at h1
      cases hw : wa (zS t) with
      | none =>
        rw [hw] at e1
        have e2 : M 1 (zS t) = -1 := e1
        have e3 : mAR M t y = zVACANT := by unfold mAR; rw [if_pos e2]
        rw [zWF_n ht hw, if_neg (by decide)] at h1
        rw [if_neg (fun q => q.1 e2), e3, if_neg (by decide)] at h2
        exact zOK_ref zW2 h h1 h2
      | some w =>
        rw [hw] at e1
        have e2 : M 1 (zS t) = nI (vN f w) := e1
        have h12 := (h.1.2.2.1 _ (zS_lt ht) w hw).2.2.2.2.1
        have e3 : zWa wa t = w := by unfold zWa; rw [hw]; rfl
        rw [zWF_s ht hw, if_pos rfl, e3] at h1
        rw [e2, if_pos ⟨nI_m1 _ (by omega), hy⟩] at h2
        exact zOK_same h h1.1 h2.1 (by rw [h1.2, h2.2])
    · rw [if_neg hy, wWR h ht] at h1
      rw [if_neg (fun q => hy q.2)] at h2
      by_cases hX : mAR M t y = 0
      · rw [if_pos hX] at h1 h2
        obtain ⟨w, hw, ew, hj, e4, e5⟩ := wRow h ht hX
        by_cases hb : M 2 (mwx t y) = -1
        · rw [if_pos hb, if_neg (by decide)] at h1
          rw [if_pos hb] at h2
          exact zOK_ref zW7 h h1 h2
        · rw [if_neg hb, if_pos rfl] at h1
          rw [if_neg hb] at h2
          cases hq : vQ f w y.toNatClampNeg with
          | none => rw [e5, hq] at hb; exact absurd rfl hb
          | some x =>
            have ex : zWx f wa t y = x := by unfold zWx; rw [ew, hq]; rfl
            have em : M 2 (mwx t y) = nI (φ x) := by rw [e5, hq]; rfl
            obtain ⟨p1, p2, -⟩ := h.2.2.2.2.1 _ x (zS_lt ht) (wrc (car := car) hw hj hq)
            rw [ex] at h1
            rw [em, nI_clamp (by omega), p2] at h2
            exact zOK_same h h1.1 h2.1 (by rw [h1.2, h2.2])
      · rw [if_neg hX, if_neg hX] at h1
        rw [if_neg hX] at h2
        exact zOK_ref (mAR_why hX) h h1 h2
  · rw [if_neg ht] at h2
    by_cases hy : y = -1
    · rw [if_pos hy, zWF_x ht, if_neg (by decide)] at h1
      exact zOK_ref zW1 h h1 h2
    · rw [if_neg hy, zWR_x ht, if_neg (by decide)] at h1
      exact zOK_ref zW1 h h1 h2
theorem st_note {y k x : Int32} (h : zREL G o ac aw ar L f ch m0 car wa ta φ M lev) (h1 : (fun r u => if ch = none then zRefP G L f ar ta zVACANT r u else if zHas2 (eN (f (ch.getD 0))) y then (if zHas2 m0 k then (u = va_pl L (va_up f (zHb f (ch.getD 0) y) (.inl (G.2 4, m0, .inl (upd (eI (f (zHb f (ch.getD 0) y))) k.toNatClampNeg (eI (f (zHb f (ch.getD 0) y)) k.toNatClampNeg + x))))) ∧ r = (eI (f (zHb f (ch.getD 0) y)) k.toNatClampNeg + x).toInt64) else zRefP G L f ar ta zBEYOND r u) else zRefP G L f ar ta zBEYOND r u) r u) (h2 : (fun r u => if (M 9 0) = -1 then mRefP G ad M lev zVACANT r u else if (¬ y < 0 ∧ ¬ (M 9 0) ≤ y) ∧ ¬ k < 0 ∧ k < (M 9 1) then (u = mW G ad (va_up M 7 (upd (M 7) (mwx y k) (M 7 (mwx y k) + x))) lev ∧ r = (M 7 (mwx y k) + x).toInt64) else mRefP G ad M lev zBEYOND r u) v u2) : zOK G ad o ac aw ar r v u u2 := by
  obtain ⟨r6a, r6b⟩ := h.2.2.2.2.2.2.1
  cases hc : ch with
  | none =>
    rw [hc] at r6a h1
    rw [if_pos rfl] at h1
    rw [if_pos (show M 9 0 = -1 from r6a)] at h2
    exact zOK_ref zW2 h h1 h2
  | some q =>
    obtain ⟨e1, e2⟩ := r6b q hc
    have hA := h.1.2.2.2.1 q hc
    rw [hc] at r6a
    have e0 : M 9 0 = nI (eN (f q)) := r6a
    have hn12 := hA.2.2.1
    have hm12 := hA.2.2.2.1
    rw [hc, if_neg (fun z => by cases z)] at h1
    simp only [Option.getD_some] at h1
    rw [e0, e1, if_neg (nI_m1 _ (by omega))] at h2
    by_cases hy : zHas2 (eN (f q)) y
    · rw [if_pos hy] at h1
      by_cases hk : zHas2 m0 k
      · rw [if_pos hk] at h1
        rw [if_pos ⟨⟨hy.1, wge.mpr hy.2⟩, hk⟩] at h2
        have hyi := zHas2_in hy (by omega)
        have hki := zHas2_in hk (by omega)
        obtain ⟨g1, g2, g3⟩ := zHA_row hA hyi
        have emw : mwx y k = 12 * y.toNatClampNeg + k.toNatClampNeg := by
          obtain ⟨a, ha, ea⟩ := nI_of hy.1
          obtain ⟨b, hb, eb⟩ := nI_of hk.1
          have l1 := zin_lt hyi
          have l2 := zin_lt hki
          rw [ea, nI_clamp ha] at l1
          rw [eb, nI_clamp hb] at l2
          unfold mwx
          rw [ea, eb, m12, nI_clamp ha, nI_clamp hb]
          exact nI_clamp (by omega)
        have old := e2 _ _ (zin_lt hyi) (zin_lt hki)
        have eb0 : (eQ (f q) y.toNatClampNeg).getD 0 = zHb f q y := rfl
        rw [eb0] at old
        rw [emw, old] at h2
        refine ⟨by rw [h1.2, h2.2], _, _, h2.1, L, _, ch, m0, car, wa, ta, φ, h1.1, zU_note hc (zin_lt hyi) (zin_lt hki) h g1⟩
      · rw [if_neg hk] at h1
        rw [if_neg (fun z => hk z.2)] at h2
        exact zOK_ref zW3 h h1 h2
    · rw [if_neg hy] at h1
      rw [if_neg (fun z => hy ⟨z.1.1, wge.mp z.1.2⟩)] at h2
      exact zOK_ref zW3 h h1 h2
theorem st_tally {what : Int32} {r v : Int32} (h : zREL G o ac aw ar L f ch m0 car wa ta φ M lev) (h1 : (fun r u => u = va_pl L f ∧ r = if ¬ what < 1 ∧ ¬ 7 < what then ta what.toNatClampNeg else 0) r u) (h2 : (fun r u => u = mW G ad M lev ∧ r = if ¬ what ≤ 0 ∧ ¬ 8 ≤ what then M 8 what.toNatClampNeg else 0) v u2) : r = v ∧ ∃ M lev, u2 = mW G ad M lev ∧ zLI2 G o ac aw ar u M lev := by
  refine ⟨?_, M, lev, h2.1, L, f, ch, m0, car, wa, ta, φ, h1.1, h⟩
  have ec : (¬ what < 1 ∧ ¬ 7 < what) ↔ (¬ what ≤ 0 ∧ ¬ 8 ≤ what) := by
    rw [Int32.lt_iff_toInt_lt, Int32.lt_iff_toInt_lt, Int32.le_iff_toInt_le, Int32.le_iff_toInt_le, show (1 : Int32).toInt = 1 from rfl, show (7 : Int32).toInt = 7 from rfl, show (0 : Int32).toInt = 0 from rfl, show (8 : Int32).toInt = 8 from rfl]
    omega
  rw [h1.2, h2.2]
  by_cases hc : ¬ what < 1 ∧ ¬ 7 < what
  · rw [if_pos hc, if_pos (ec.mp hc)]
    exact (h.2.2.2.2.2.2.2.1 _ (zin_lt (zta_in hc.1 hc.2))).symm
  · rw [if_neg hc, if_neg (fun q => hc (ec.mpr q))]
theorem st_blend {d t i d2 t2 j less : Int32} (h : zREL G o ac aw ar L f ch m0 car wa ta φ M lev) (h1 : (fun r u => if zFour d ∧ zFour t ∧ (t = 3 ↔ t2 = 3) then (if zPF f car d2 t2 j = 0 then (if zPF f car d t i = 0 then (if t = 2 ∨ t2 = 2 then (u = zPutW G L f (zS t) (zA car d t) (zPlI (zS t) (vI f (zA car d t)) i.toNatClampNeg (zBv less (zLev (zS t) (vI f (zA car d t)) (vF f (zA car d t)) i.toNatClampNeg) (zLev (zS t2) (vI f (zA car d2 t2)) (vF f (zA car d2 t2)) j.toNatClampNeg))) (zPuF (zS t) (vF f (zA car d t)) i.toNatClampNeg (zBv less (zLev (zS t) (vI f (zA car d t)) (vF f (zA car d t)) i.toNatClampNeg) (zLev (zS t2) (vI f (zA car d2 t2)) (vF f (zA car d2 t2)) j.toNatClampNeg))) ∧ r = (zTold (zS t) (zPlI (zS t) (vI f (zA car d t)) i.toNatClampNeg (zBv less (zLev (zS t) (vI f (zA car d t)) (vF f (zA car d t)) i.toNatClampNeg) (zLev (zS t2) (vI f (zA car d2 t2)) (vF f (zA car d2 t2)) j.toNatClampNeg))) (zPuF (zS t) (vF f (zA car d t)) i.toNatClampNeg (zBv less (zLev (zS t) (vI f (zA car d t)) (vF f (zA car d t)) i.toNatClampNeg) (zLev (zS t2) (vI f (zA car d2 t2)) (vF f (zA car d2 t2)) j.toNatClampNeg))) i.toNatClampNeg).toInt64) else (u = zPutW G L f (zS t) (zA car d t) (zChI (zS t) (vI f (zA car d t)) (vF f (zA car d t)) i.toNatClampNeg (zHow t less) (zTold (zS t2) (vI f (zA car d2 t2)) (vF f (zA car d2 t2)) j.toNatClampNeg)) (zChF (zS t) (vF f (zA car d t)) i.toNatClampNeg (zHow t less) (zTold (zS t2) (vI f (zA car d2 t2)) (vF f (zA car d2 t2)) j.toNatClampNeg)) ∧ r = (zTold (zS t) (zChI (zS t) (vI f (zA car d t)) (vF f (zA car d t)) i.toNatClampNeg (zHow t less) (zTold (zS t2) (vI f (zA car d2 t2)) (vF f (zA car d2 t2)) j.toNatClampNeg)) (zChF (zS t) (vF f (zA car d t)) i.toNatClampNeg (zHow t less) (zTold (zS t2) (vI f (zA car d2 t2)) (vF f (zA car d2 t2)) j.toNatClampNeg)) i.toNatClampNeg).toInt64)) else zRefP G L f ar ta (zPF f car d t i) r u) else zRefP G L f ar ta (zPF f car d2 t2 j) r u) else zRefP G L f ar ta zNONE r u) r u) (h2 : (fun r u => if zFour d ∧ zFour t ∧ zFour d2 ∧ zFour t2 ∧ (t = 3 ↔ t2 = 3) then (if (mAg M (M 0 (mix d2 t2)) j) = 0 then (if (mAg M (M 0 (mix d t)) i) = 0 then (if t = 3 then (u = mW G ad (va_up M 4 (upd (M 4) (mat (M 0 (mix d t)) i) (M 4 (mat (M 0 (mix d t)) i) ^^^ M 4 (mat (M 0 (mix d2 t2)) j)))) lev ∧ r = (mTo (va_up M 4 (upd (M 4) (mat (M 0 (mix d t)) i) (M 4 (mat (M 0 (mix d t)) i) ^^^ M 4 (mat (M 0 (mix d2 t2)) j)))) lev t (mat (M 0 (mix d t)) i)).toInt64) else if t = 2 ∨ t2 = 2 then (if t = 2 then (u = mW G ad M (vf_upd lev (mat (M 0 (mix d t)) i) (zHe (zBv less (if t = 2 then lev (mat (M 0 (mix d t)) i) else FP.i2f (M 4 (mat (M 0 (mix d t)) i))) (if t2 = 2 then lev (mat (M 0 (mix d2 t2)) j) else FP.i2f (M 4 (mat (M 0 (mix d2 t2)) j)))))) ∧ r = (mTo M (vf_upd lev (mat (M 0 (mix d t)) i) (zHe (zBv less (if t = 2 then lev (mat (M 0 (mix d t)) i) else FP.i2f (M 4 (mat (M 0 (mix d t)) i))) (if t2 = 2 then lev (mat (M 0 (mix d2 t2)) j) else FP.i2f (M 4 (mat (M 0 (mix d2 t2)) j)))))) t (mat (M 0 (mix d t)) i)).toInt64) else (u = mW G ad (mFM M t (mat (M 0 (mix d t)) i) (FP.f2i (zBv less (if t = 2 then lev (mat (M 0 (mix d t)) i) else FP.i2f (M 4 (mat (M 0 (mix d t)) i))) (if t2 = 2 then lev (mat (M 0 (mix d2 t2)) j) else FP.i2f (M 4 (mat (M 0 (mix d2 t2)) j)))))) (mFL lev t (mat (M 0 (mix d t)) i) (zEi (FP.f2i (zBv less (if t = 2 then lev (mat (M 0 (mix d t)) i) else FP.i2f (M 4 (mat (M 0 (mix d t)) i))) (if t2 = 2 then lev (mat (M 0 (mix d2 t2)) j) else FP.i2f (M 4 (mat (M 0 (mix d2 t2)) j))))))) ∧ r = (mTo (mFM M t (mat (M 0 (mix d t)) i) (FP.f2i (zBv less (if t = 2 then lev (mat (M 0 (mix d t)) i) else FP.i2f (M 4 (mat (M 0 (mix d t)) i))) (if t2 = 2 then lev (mat (M 0 (mix d2 t2)) j) else FP.i2f (M 4 (mat (M 0 (mix d2 t2)) j)))))) (mFL lev t (mat (M 0 (mix d t)) i) (zEi (FP.f2i (zBv less (if t = 2 then lev (mat (M 0 (mix d t)) i) else FP.i2f (M 4 (mat (M 0 (mix d t)) i))) (if t2 = 2 then lev (mat (M 0 (mix d2 t2)) j) else FP.i2f (M 4 (mat (M 0 (mix d2 t2)) j))))))) t (mat (M 0 (mix d t)) i)).toInt64)) else (u = mW G ad (mFM M t (mat (M 0 (mix d t)) i) (if less = 0 then M 4 (mat (M 0 (mix d t)) i) + M 4 (mat (M 0 (mix d2 t2)) j) else M 4 (mat (M 0 (mix d t)) i) - M 4 (mat (M 0 (mix d2 t2)) j))) (mFL lev t (mat (M 0 (mix d t)) i) (zEi (if less = 0 then M 4 (mat (M 0 (mix d t)) i) + M 4 (mat (M 0 (mix d2 t2)) j) else M 4 (mat (M 0 (mix d t)) i) - M 4 (mat (M 0 (mix d2 t2)) j)))) ∧ r = (mTo (mFM M t (mat (M 0 (mix d t)) i) (if less = 0 then M 4 (mat (M 0 (mix d t)) i) + M 4 (mat (M 0 (mix d2 t2)) j) else M 4 (mat (M 0 (mix d t)) i) - M 4 (mat (M 0 (mix d2 t2)) j))) (mFL lev t (mat (M 0 (mix d t)) i) (zEi (if less = 0 then M 4 (mat (M 0 (mix d t)) i) + M 4 (mat (M 0 (mix d2 t2)) j) else M 4 (mat (M 0 (mix d t)) i) - M 4 (mat (M 0 (mix d2 t2)) j)))) t (mat (M 0 (mix d t)) i)).toInt64)) else mRefP G ad M lev (mAg M (M 0 (mix d t)) i) r u) else mRefP G ad M lev (mAg M (M 0 (mix d2 t2)) j) r u) else mRefP G ad M lev zNONE r u) v u2) : zOK G ad o ac aw ar r v u u2 := by
  by_cases hc : zFour d ∧ zFour t ∧ (t = 3 ↔ t2 = 3)
  · rw [if_pos hc] at h1
    obtain ⟨hd, ht, h33⟩ := hc
    by_cases hdt2 : zFour d2 ∧ zFour t2
    · obtain ⟨hd2, ht2⟩ := hdt2
      rw [wPF h hd2 ht2, wPF h hd ht] at h1
      rw [if_pos ⟨hd, ht, hd2, ht2, h33⟩] at h2
      by_cases hX2 : mAg M (M 0 (mix d2 t2)) j = 0
      · rw [if_pos hX2] at h1 h2
        by_cases hX : mAg M (M 0 (mix d t)) i = 0
        · rw [if_pos hX] at h1 h2
          obtain ⟨a, ea, hr, eat, hi, hco⟩ := wPl h hd ht hX
          obtain ⟨b, eb, hr2, eat2, hj, hco2⟩ := wPl h hd2 ht2 hX2
          rw [ea, eb] at h1
          rw [eat, eat2] at h2
          have st1 := zS_lt ht
          have st2 := zS_lt ht2
          have et := wt_nI ht
          have et2 := wt_nI ht2
          have hA := zRc_RA h.1 st1 hr
          have hB := zRc_RA h.1 st2 hr2
          have eLa := wLev (M := M) (lev := lev) (gi := vI f a) (gf := vF f a) st1 et hco
          have eLb := wLev (M := M) (lev := lev) (gi := vI f b) (gf := vF f b) st2 et2 hco2
          have fLa := zLev_fin hA hi
          have fLb := zLev_fin hB hj
          by_cases h3 : t = 3
          · have h32 := h33.mp h3
            have es : zS t = 3 := (ws3 st1 et).mp h3
            have es2 : zS t2 = 3 := (ws3 st2 et2).mp h32
            rw [if_neg (by rw [h3, h32]; decide)] at h1
            rw [if_pos h3] at h2
            have hs2 : ¬ zS t = 2 := by omega
            obtain ⟨p1, p2⟩ : M 4 (40 * φ a + i.toNatClampNeg) = vI f a i.toNatClampNeg ∧ (vI f a i.toNatClampNeg = 0 ∨ vI f a i.toNatClampNeg = 1) := by rw [es] at hco; exact hco
            obtain ⟨p3, p4⟩ : M 4 (40 * φ b + j.toNatClampNeg) = vI f b j.toNatClampNeg ∧ (vI f b j.toNatClampNeg = 0 ∨ vI f b j.toNatClampNeg = 1) := by rw [es2] at hco2; exact hco2
            have e1 := wInt (M := M) (lev := lev) st1 et hs2 hco
            have e2 := wInt (M := M) (lev := lev) st2 et2 (by omega) hco2
            have eh : zHow t less = 6 := if_pos h3
            refine zOK_putI (y := zNar (zS t) (zRek (zTold (zS t) (vI f a) (vF f a) i.toNatClampNeg) (zHow t less) (zTold (zS t2) (vI f b) (vF f b) j.toNatClampNeg))) (z := M 4 (40 * φ a + i.toNatClampNeg) ^^^ M 4 (40 * φ b + j.toNatClampNeg)) ht hs2 h hr hi (zChI_of hs2) (zChF_of hs2) rfl rfl (fun vf mf => ?_) h1 h2
            rw [e1, e2, eh, p1, p3, es]
            rcases p2 with q | q <;> rcases p4 with q2 | q2 <;> rw [q, q2] <;> exact ⟨by decide, by decide⟩
          · have es : ¬ zS t = 3 := fun q => h3 ((ws3 st1 et).mpr q)
            rw [if_neg h3] at h2
            by_cases h22 : t = 2 ∨ t2 = 2
            · rw [if_pos h22] at h1 h2
              rw [← eLa, ← eLb] at h2
              by_cases h2t : t = 2
              · have es2 : zS t = 2 := (ws2 st1 et).mp h2t
                rw [if_pos h2t] at h2
                exact zOK_putF ht es2 h hr hi (by rw [es2]; rfl) (by rw [es2]; rfl) (zBv_n fLa fLb) rfl rfl h1 h2
              · have es2 : ¬ zS t = 2 := fun q => h2t ((ws2 st1 et).mpr q)
                rw [if_neg h2t] at h2
                exact zOK_putI ht es2 h hr hi (zPlI_of es2) (zPuF_of es2) (wF4 st1 et es2) (wFl st1 et es2) (fun _ _ => wCoN st1 et es2) h1 h2
            · rw [if_neg h22] at h1 h2
              have es2 : ¬ zS t = 2 := fun q => h22 (Or.inl ((ws2 st1 et).mpr q))
              have es22 : ¬ zS t2 = 2 := fun q => h22 (Or.inr ((ws2 st2 et2).mpr q))
              have e1 := wInt (M := M) (lev := lev) st1 et es2 hco
              have e2 := wInt (M := M) (lev := lev) st2 et2 es22 hco2
              have er : zRek (zTold (zS t) (vI f a) (vF f a) i.toNatClampNeg) (zHow t less) (zTold (zS t2) (vI f b) (vF f b) j.toNatClampNeg) = (if less = 0 then M 4 (40 * φ a + i.toNatClampNeg) + M 4 (40 * φ b + j.toNatClampNeg) else M 4 (40 * φ a + i.toNatClampNeg) - M 4 (40 * φ b + j.toNatClampNeg)) := by
                rw [e1, e2]
                unfold zHow
                rw [if_neg h3]
                by_cases hl : less = 0
                · rw [if_pos hl, if_pos hl]
                  rfl
                · rw [if_neg hl, if_neg hl]
                  rfl
              refine zOK_putI ht es2 h hr hi (zChI_of es2) (zChF_of es2) (wF4 st1 et es2) (wFl st1 et es2) (fun _ _ => ?_) h1 h2
              rw [er]
              exact wCoN st1 et es2
        · rw [if_neg hX] at h1 h2
          exact zOK_ref (mAg_why hX) h h1 h2
      · rw [if_neg hX2] at h1 h2
        exact zOK_ref (mAg_why hX2) h h1 h2
    · rw [wPFn hdt2, if_neg (by decide)] at h1
      rw [if_neg (fun q => hdt2 ⟨q.2.2.1, q.2.2.2.1⟩)] at h2
      exact zOK_ref zW1 h h1 h2
  · rw [if_neg hc] at h1
    rw [if_neg (fun q => hc ⟨q.1, q.2.1, q.2.2.2.2⟩)] at h2
    exact zOK_ref zW1 h h1 h2
end ST2
