section ST
variable {G : zG} {ad : Nat → Nat} {o ac aw ar : Nat} {L : List Nat} {f : Nat → va_E} {ch : Option Nat} {m0 : Nat} {car wa : Nat → Option Nat} {ta : Nat → Int32} {φ : Nat → Nat} {M : Nat → Nat → Int32} {lev : Nat → UInt32} {r v : Int64} {u u2 : va_W}
theorem wk {d t : Int32} (hd : zFour d) (ht : zFour t) : zix d t < 16 ∧ zix d t % 4 = zS t := by
  obtain ⟨x, y, hx, hy, -, -, e1, e2⟩ := zix_of hd ht
  exact ⟨by omega, by omega⟩
theorem zRF_n {d t : Int32} (hd : zFour d) (ht : zFour t) (hc : car (zix d t) = none) : zRF car d t = zVACANT := by unfold zRF; rw [if_pos ⟨hd, ht⟩, if_pos hc]
theorem zRF_s {d t : Int32} {a : Nat} (hd : zFour d) (ht : zFour t) (hc : car (zix d t) = some a) : zRF car d t = 0 := by unfold zRF; rw [if_pos ⟨hd, ht⟩, if_neg (by rw [hc]; intro q; cases q)]
theorem zRF_x {d t : Int32} (hn : ¬ (zFour d ∧ zFour t)) : zRF car d t = zNONE := by unfold zRF; rw [if_neg hn]
theorem zA_s {d t : Int32} {a : Nat} (hc : car (zix d t) = some a) : zA car d t = a := by unfold zA; rw [hc]; rfl
theorem wPl {d t i : Int32} (h : zREL G o ac aw ar L f ch m0 car wa ta φ M lev) (hd : zFour d) (ht : zFour t) (hX : mAg M (M 0 (mix d t)) i = 0) : ∃ a, zA car d t = a ∧ zRc f car wa (zS t) a ∧ mat (M 0 (mix d t)) i = 40 * φ a + i.toNatClampNeg ∧ i.toNatClampNeg < vN f a ∧ zCo (zS t) (vI f a i.toNatClampNeg) (vF f a i.toNatClampNeg) (M 4 (40 * φ a + i.toNatClampNeg)) (lev (40 * φ a + i.toNatClampNeg)) := by
  have hz : zPF f car d t i = 0 := by rw [wPF h hd ht]; exact hX
  obtain ⟨p0, hh⟩ := zPF_0 hz
  obtain ⟨-, -, hc⟩ := zRF_0 p0
  have hr := (wRc (f := f) (wa := wa) hd ht hc).1
  obtain ⟨e1, e2, e3⟩ := wAt h (zS_lt ht) hr hh
  refine ⟨zA car d t, rfl, hr, ?_, e2, e3⟩
  rw [wM0 h hd ht, hc]
  exact e1
/-- a place put, ints -/
theorem zOK_putI {t : Int32} {a ii : Nat} {gi2 : Nat → Int32} {gf2 : Nat → UInt32} {N : Nat → Nat → Int32} {ln : Nat → UInt32} {y z : Int32} (ht : zFour t) (h2 : ¬ zS t = 2) (h : zREL G o ac aw ar L f ch m0 car wa ta φ M lev) (hr : zRc f car wa (zS t) a) (hi : ii < vN f a) (eg : gi2 = upd (vI f a) ii y) (ef : gf2 = vF f a) (eN1 : N = va_up M 4 (upd (M 4) (40 * φ a + ii) z)) (el : ln = lev) (hco : ∀ vf mf, zCo (zS t) y vf z mf)
    (h1 : u = zPutW G L f (zS t) a gi2 gf2 ∧ r = (zTold (zS t) gi2 gf2 ii).toInt64) (h3 : u2 = mW G ad N ln ∧ v = (mTo N ln t (40 * φ a + ii)).toInt64) : zOK G ad o ac aw ar r v u u2 := by
  have hA := zRc_RA h.1 (zS_lt ht) hr
  have p1 := (h.2.2.2.2.1 _ a (zS_lt ht) hr).1
  have h40 := hA.2.2.2.2.1
  subst eg ef eN1 el
  have hco2 : zCo (zS t) (upd (vI f a) ii y ii) (vF f a ii) (va_up M 4 (upd (M 4) (40 * φ a + ii) z) 4 (40 * φ a + ii)) (ln (40 * φ a + ii)) := by
    show zCo (zS t) (upd (vI f a) ii y ii) (vF f a ii) (upd (M 4) (40 * φ a + ii) z (40 * φ a + ii)) (ln (40 * φ a + ii))
    rw [pk_us, pk_us]
    exact hco _ _
  refine ⟨?_, _, _, h3.1, L, _, ch, m0, car, wa, ta, φ, h1.1, zU_put (zS_lt ht) hr hi hA.2.2.2.2.2 h (fun j hj _ => pk_un hj) (fun j _ q => absurd q h2) ⟨rfl, rfl, rfl, rfl, rfl, rfl, rfl⟩ (fun j hj => pk_un hj) (fun _ _ => rfl) (h.2.2.2.2.2.2.2.2.2.2.2.2.1 _ (by omega)) hco2⟩
  rw [h1.2, h3.2, wTold (zS_lt ht) (wt_nI ht) hco2]
/-- .. floats -/
theorem zOK_putF {t : Int32} {a ii : Nat} {gi2 : Nat → Int32} {gf2 : Nat → UInt32} {N : Nat → Nat → Int32} {ln : Nat → UInt32} {y : UInt32} (ht : zFour t) (h2 : zS t = 2) (h : zREL G o ac aw ar L f ch m0 car wa ta φ M lev) (hr : zRc f car wa (zS t) a) (hi : ii < vN f a) (eg : gi2 = vI f a) (ef : gf2 = vf_upd (vF f a) ii (zHe y)) (hy : vf_n32 y) (eN1 : N = M) (el : ln = vf_upd lev (40 * φ a + ii) (zHe y))
    (h1 : u = zPutW G L f (zS t) a gi2 gf2 ∧ r = (zTold (zS t) gi2 gf2 ii).toInt64) (h3 : u2 = mW G ad N ln ∧ v = (mTo N ln t (40 * φ a + ii)).toInt64) : zOK G ad o ac aw ar r v u u2 := by
  have hA := zRc_RA h.1 (zS_lt ht) hr
  subst eg ef eN1 el
  have e1 : vf_upd (vF f a) ii (zHe y) ii = zHe y := by unfold vf_upd; rw [if_pos rfl]
  have e2 : vf_upd lev (40 * φ a + ii) (zHe y) (40 * φ a + ii) = zHe y := by unfold vf_upd; rw [if_pos rfl]
  have hco2 : zCo (zS t) (vI f a ii) (vf_upd (vF f a) ii (zHe y) ii) (N 4 (40 * φ a + ii)) (vf_upd lev (40 * φ a + ii) (zHe y) (40 * φ a + ii)) := by
    rw [e1, e2, h2]
    exact (rfl : zHe y = zHe y)
  refine ⟨?_, _, _, h3.1, L, _, ch, m0, car, wa, ta, φ, h1.1, zU_put (zS_lt ht) hr hi (zfin_up hA.2.2.2.2.2 hy) h (fun j _ q => absurd h2 q) (fun j hj _ => by unfold vf_upd; rw [if_neg hj]) ⟨rfl, rfl, rfl, rfl, rfl, rfl, rfl⟩ (fun _ _ => rfl) (fun j hj => by unfold vf_upd; rw [if_neg hj]) (by rw [e2]; exact zHe_fin hy) hco2⟩
  rw [h1.2, h3.2, wTold (zS_lt ht) (wt_nI ht) hco2]
theorem st_size {d t : Int32} (h : zREL G o ac aw ar L f ch m0 car wa ta φ M lev) (h1 : (fun r u => if zRF car d t = 0 then (u = va_pl L f ∧ r = (nI (vN f (zA car d t))).toInt64) else zRefP G L f ar ta (zRF car d t) r u) r u) (h2 : (fun r u => if zFour d ∧ zFour t then (if (M 0 (mix d t)) = -1 then mRefP G ad M lev zVACANT r u else (u = mW G ad M lev ∧ r = (M 3 (M 0 (mix d t)).toNatClampNeg).toInt64)) else mRefP G ad M lev zNONE r u) v u2) : zOK G ad o ac aw ar r v u u2 := by
  by_cases hdt : zFour d ∧ zFour t
  · rw [if_pos hdt, wM0 h hdt.1 hdt.2] at h2
    cases hc : car (zix d t) with
    | none =>
      rw [zRF_n hdt.1 hdt.2 hc, if_neg (by decide)] at h1
      rw [hc, if_pos (show mq φ none = -1 from rfl)] at h2
      exact zOK_ref zW2 h h1 h2
    | some a =>
      obtain ⟨p1, p2, -⟩ := h.2.2.2.2.1 _ a (zS_lt hdt.2) (wRc hdt.1 hdt.2 hc).1
      have em : mq φ (some a) = nI (φ a) := rfl
      rw [zRF_s hdt.1 hdt.2 hc, if_pos rfl, zA_s hc] at h1
      rw [hc, em, if_neg (nI_m1 _ (by omega)), nI_clamp (by omega), p2] at h2
      exact zOK_same h h1.1 h2.1 (by rw [h1.2, h2.2])
  · rw [zRF_x hdt, if_neg (by decide)] at h1
    rw [if_neg hdt] at h2
    exact zOK_ref zW1 h h1 h2
theorem st_eject {d t : Int32} (h : zREL G o ac aw ar L f ch m0 car wa ta φ M lev) (h1 : (fun r u => if zRF car d t = 0 then (u = zCarW G L f ac (va_up car (zix d t) none) ∧ r = (nI (vN f (zA car d t))).toInt64) else zRefP G L f ar ta (zRF car d t) r u) r u) (h2 : (fun r u => if zFour d ∧ zFour t then (if (M 0 (mix d t)) = -1 then mRefP G ad M lev zVACANT r u else (u = mW G ad (va_up M 0 (upd (M 0) (mix d t) (-1))) lev ∧ r = (M 3 (M 0 (mix d t)).toNatClampNeg).toInt64)) else mRefP G ad M lev zNONE r u) v u2) : zOK G ad o ac aw ar r v u u2 := by
  by_cases hdt : zFour d ∧ zFour t
  · rw [if_pos hdt, wM0 h hdt.1 hdt.2] at h2
    cases hc : car (zix d t) with
    | none =>
      rw [zRF_n hdt.1 hdt.2 hc, if_neg (by decide)] at h1
      rw [hc, if_pos (show mq φ none = -1 from rfl)] at h2
      exact zOK_ref zW2 h h1 h2
    | some a =>
      obtain ⟨p1, p2, -⟩ := h.2.2.2.2.1 _ a (zS_lt hdt.2) (wRc hdt.1 hdt.2 hc).1
      have em : mq φ (some a) = nI (φ a) := rfl
      rw [zRF_s hdt.1 hdt.2 hc, if_pos rfl, zA_s hc] at h1
      rw [hc, em, if_neg (nI_m1 _ (by omega)), nI_clamp (by omega), p2, mix_zix] at h2
      exact ⟨by rw [h1.2, h2.2], _, _, h2.1, L, _, ch, m0, _, wa, ta, φ, h1.1, zU_car (q0 := none) (wk hdt.1 hdt.2).1 (fun x e => by cases e) h⟩
  · rw [zRF_x hdt, if_neg (by decide)] at h1
    rw [if_neg hdt] at h2
    exact zOK_ref zW1 h h1 h2
theorem st_share {d e2 t : Int32} (h : zREL G o ac aw ar L f ch m0 car wa ta φ M lev) (h1 : (fun r u => if zFour d ∧ zFour e2 ∧ zFour t then (u = zCarW G L f ac (va_up car (zix e2 t) (car (zix d t))) ∧ r = if (car (zix d t)) = none then 0 else 1) else zRefP G L f ar ta zNONE r u) r u) (h2 : (fun r u => if zFour d ∧ zFour e2 ∧ zFour t then (u = mW G ad (va_up M 0 (upd (M 0) (mix e2 t) (M 0 (mix d t)))) lev ∧ r = if (M 0 (mix d t)) = -1 then 0 else 1) else mRefP G ad M lev zNONE r u) v u2) : zOK G ad o ac aw ar r v u u2 := by
  by_cases hdt : zFour d ∧ zFour e2 ∧ zFour t
  · rw [if_pos hdt] at h1
    rw [if_pos hdt, wM0 h hdt.1 hdt.2.2, mix_zix] at h2
    have hrc : ∀ a, car (zix d t) = some a → zRc f car wa (zix e2 t % 4) a := fun a e => by
      rw [(wk hdt.2.1 hdt.2.2).2]
      exact (wRc hdt.1 hdt.2.2 e).1
    refine ⟨?_, _, _, h2.1, L, _, ch, m0, _, wa, ta, φ, h1.1, zU_car (wk hdt.2.1 hdt.2.2).1 hrc h⟩
    rw [h1.2, h2.2]
    simp only [mq_m1 (fun a e => (h.2.2.2.2.1 _ a (zS_lt hdt.2.2) (wRc hdt.1 hdt.2.2 e).1).1)]
  · rw [if_neg hdt] at h1 h2
    exact zOK_ref zW1 h h1 h2
theorem st_read {d t i : Int32} (h : zREL G o ac aw ar L f ch m0 car wa ta φ M lev) (h1 : (fun r u => if zPF f car d t i = 0 then (u = va_pl L f ∧ r = (zTold (zS t) (vI f (zA car d t)) (vF f (zA car d t)) i.toNatClampNeg).toInt64) else zRefP G L f ar ta (zPF f car d t i) r u) r u) (h2 : (fun r u => if zFour d ∧ zFour t then (if (mAg M (M 0 (mix d t)) i) = 0 then (u = mW G ad M lev ∧ r = (mTo M lev t (mat (M 0 (mix d t)) i)).toInt64) else mRefP G ad M lev (mAg M (M 0 (mix d t)) i) r u) else mRefP G ad M lev zNONE r u) v u2) : zOK G ad o ac aw ar r v u u2 := by
  by_cases hdt : zFour d ∧ zFour t
  · rw [wPF h hdt.1 hdt.2] at h1
    rw [if_pos hdt] at h2
    by_cases hX : mAg M (M 0 (mix d t)) i = 0
    · rw [if_pos hX] at h1 h2
      obtain ⟨a, ea, hr, eat, hi, hco⟩ := wPl h hdt.1 hdt.2 hX
      rw [ea] at h1
      rw [eat] at h2
      exact zOK_same h h1.1 h2.1 (by rw [h1.2, h2.2, wTold (zS_lt hdt.2) (wt_nI hdt.2) hco])
    · rw [if_neg hX] at h1 h2
      exact zOK_ref (mAg_why hX) h h1 h2
  · rw [wPFn hdt, if_neg (by decide)] at h1
    rw [if_neg hdt] at h2
    exact zOK_ref zW1 h h1 h2
theorem st_write {d t i x : Int32} (h : zREL G o ac aw ar L f ch m0 car wa ta φ M lev) (h1 : (fun r u => if zPF f car d t i = 0 then (u = zPutW G L f (zS t) (zA car d t) (zPuI (zS t) (vI f (zA car d t)) i.toNatClampNeg x) (zPuF (zS t) (vF f (zA car d t)) i.toNatClampNeg (zEi x)) ∧ r = (zTold (zS t) (zPuI (zS t) (vI f (zA car d t)) i.toNatClampNeg x) (zPuF (zS t) (vF f (zA car d t)) i.toNatClampNeg (zEi x)) i.toNatClampNeg).toInt64) else zRefP G L f ar ta (zPF f car d t i) r u) r u) (h2 : (fun r u => if zFour d ∧ zFour t then (if (mAg M (M 0 (mix d t)) i) = 0 then (u = mW G ad (mFM M t (mat (M 0 (mix d t)) i) x) (mFL lev t (mat (M 0 (mix d t)) i) (zEi x)) ∧ r = (mTo (mFM M t (mat (M 0 (mix d t)) i) x) (mFL lev t (mat (M 0 (mix d t)) i) (zEi x)) t (mat (M 0 (mix d t)) i)).toInt64) else mRefP G ad M lev (mAg M (M 0 (mix d t)) i) r u) else mRefP G ad M lev zNONE r u) v u2) : zOK G ad o ac aw ar r v u u2 := by
  by_cases hdt : zFour d ∧ zFour t
  · rw [wPF h hdt.1 hdt.2] at h1
    rw [if_pos hdt] at h2
    by_cases hX : mAg M (M 0 (mix d t)) i = 0
    · rw [if_pos hX] at h1 h2
      obtain ⟨a, ea, hr, eat, hi, hco⟩ := wPl h hdt.1 hdt.2 hX
      rw [ea] at h1
      rw [eat] at h2
      by_cases hs2 : zS t = 2
      · have et : t = 2 := (ws2 (zS_lt hdt.2) (wt_nI hdt.2)).mpr hs2
        exact zOK_putF hdt.2 hs2 h hr hi (by rw [hs2]; rfl) (by rw [hs2]; rfl) (zn32 (zEi_fin x).notNaN) (wF4' et) (wFl' et) h1 h2
      · exact zOK_putI hdt.2 hs2 h hr hi (zPuI_of hs2) (zPuF_of hs2) (wF4 (zS_lt hdt.2) (wt_nI hdt.2) hs2) (wFl (zS_lt hdt.2) (wt_nI hdt.2) hs2) (fun _ _ => wCoN (zS_lt hdt.2) (wt_nI hdt.2) hs2) h1 h2
    · rw [if_neg hX] at h1 h2
      exact zOK_ref (mAg_why hX) h h1 h2
  · rw [wPFn hdt, if_neg (by decide)] at h1
    rw [if_neg hdt] at h2
    exact zOK_ref zW1 h h1 h2
theorem st_nudge {d t i how x : Int32} (h : zREL G o ac aw ar L f ch m0 car wa ta φ M lev) (h1 : (fun r u => if zKnow t how then (if zPF f car d t i = 0 then (if how = 3 ∧ x = 0 then zRefP G L f ar ta zDIVIDED r u else (u = zPutW G L f (zS t) (zA car d t) (zChI (zS t) (vI f (zA car d t)) (vF f (zA car d t)) i.toNatClampNeg how x) (zChF (zS t) (vF f (zA car d t)) i.toNatClampNeg how x) ∧ r = (zTold (zS t) (zChI (zS t) (vI f (zA car d t)) (vF f (zA car d t)) i.toNatClampNeg how x) (zChF (zS t) (vF f (zA car d t)) i.toNatClampNeg how x) i.toNatClampNeg).toInt64)) else zRefP G L f ar ta (zPF f car d t i) r u) else zRefP G L f ar ta zNONE r u) r u) (h2 : (fun r u => if zFour d ∧ zFour t ∧ mKn t how then (if (mAg M (M 0 (mix d t)) i) = 0 then (if how = 3 ∧ x = 0 then mRefP G ad M lev zDIVIDED r u else if t = 2 then (u = mW G ad M (vf_upd lev (mat (M 0 (mix d t)) i) (zHe (if how = 0 then FP.fadd (lev (mat (M 0 (mix d t)) i)) (zEi x) else FP.fsub (lev (mat (M 0 (mix d t)) i)) (zEi x)))) ∧ r = (mTo M (vf_upd lev (mat (M 0 (mix d t)) i) (zHe (if how = 0 then FP.fadd (lev (mat (M 0 (mix d t)) i)) (zEi x) else FP.fsub (lev (mat (M 0 (mix d t)) i)) (zEi x)))) t (mat (M 0 (mix d t)) i)).toInt64) else (u = mW G ad (mFM M t (mat (M 0 (mix d t)) i) (zRek (M 4 (mat (M 0 (mix d t)) i)) how (if t = 3 then x &&& 1 else x))) (mFL lev t (mat (M 0 (mix d t)) i) (zEi (zRek (M 4 (mat (M 0 (mix d t)) i)) how (if t = 3 then x &&& 1 else x)))) ∧ r = (mTo (mFM M t (mat (M 0 (mix d t)) i) (zRek (M 4 (mat (M 0 (mix d t)) i)) how (if t = 3 then x &&& 1 else x))) (mFL lev t (mat (M 0 (mix d t)) i) (zEi (zRek (M 4 (mat (M 0 (mix d t)) i)) how (if t = 3 then x &&& 1 else x)))) t (mat (M 0 (mix d t)) i)).toInt64)) else mRefP G ad M lev (mAg M (M 0 (mix d t)) i) r u) else mRefP G ad M lev zNONE r u) v u2) : zOK G ad o ac aw ar r v u u2 := by
  by_cases hk : zKnow t how
  · rw [if_pos hk] at h1
    by_cases hdt : zFour d ∧ zFour t
    · rw [wPF h hdt.1 hdt.2] at h1
      rw [if_pos ⟨hdt.1, hdt.2, wkn.mp hk⟩] at h2
      by_cases hX : mAg M (M 0 (mix d t)) i = 0
      · rw [if_pos hX] at h1 h2
        by_cases hv : how = 3 ∧ x = 0
        · rw [if_pos hv] at h1 h2
          exact zOK_ref zW6 h h1 h2
        · rw [if_neg hv] at h1 h2
          obtain ⟨a, ea, hr, eat, hi, hco⟩ := wPl h hdt.1 hdt.2 hX
          rw [ea] at h1
          rw [eat] at h2
          by_cases hs2 : zS t = 2
          · have et : t = 2 := (ws2 (zS_lt hdt.2) (wt_nI hdt.2)).mpr hs2
            rw [if_pos et] at h2
            have hfa := zRc_RA h.1 (zS_lt hdt.2) hr
            have elv : lev (40 * φ a + i.toNatClampNeg) = vF f a i.toNatClampNeg := by rw [hs2] at hco; exact hco
            have hh : how = 0 ∨ how = 1 := by
              rcases hk with q | q | q
              · exact q.2
              · exact absurd et q.1
              · exact absurd et q.1
            have ev : (if how = 0 then FP.fadd (lev (40 * φ a + i.toNatClampNeg)) (zEi x) else FP.fsub (lev (40 * φ a + i.toNatClampNeg)) (zEi x)) = (if how = 1 then FP.fsub (vF f a i.toNatClampNeg) (zEi x) else FP.fadd (vF f a i.toNatClampNeg) (zEi x)) := by
              rw [elv]
              rcases hh with q | q
              · rw [if_pos q, if_neg (by rw [q]; decide)]
              · rw [if_neg (by rw [q]; decide), if_pos q]
            rw [ev] at h2
            have hn : vf_n32 (if how = 1 then FP.fsub (vF f a i.toNatClampNeg) (zEi x) else FP.fadd (vF f a i.toNatClampNeg) (zEi x)) := by
              split
              · exact zsub (hfa.2.2.2.2.2 _ hi) (zEi_fin x)
              · exact zadd (hfa.2.2.2.2.2 _ hi) (zEi_fin x)
            exact zOK_putF hdt.2 hs2 h hr hi (by rw [hs2]; rfl) (by rw [hs2]; rfl) hn rfl rfl h1 h2
          · rw [if_neg (fun q => hs2 ((ws2 (zS_lt hdt.2) (wt_nI hdt.2)).mp q))] at h2
            refine zOK_putI (y := zNar (zS t) (zRek (zTold (zS t) (vI f a) (vF f a) i.toNatClampNeg) how x)) (z := mNar t (zRek (M 4 (40 * φ a + i.toNatClampNeg)) how (if t = 3 then x &&& 1 else x))) hdt.2 hs2 h hr hi (zChI_of hs2) (zChF_of hs2) (wF4 (zS_lt hdt.2) (wt_nI hdt.2) hs2) (wFl (zS_lt hdt.2) (wt_nI hdt.2) hs2) (fun vf mf => ?_) h1 h2
            have e1 : zTold (zS t) (vI f a) (vF f a) i.toNatClampNeg = M 4 (40 * φ a + i.toNatClampNeg) := by
              rw [wTold (zS_lt hdt.2) (wt_nI hdt.2) hco]
              unfold mTo
              rw [if_neg (fun q => hs2 ((ws2 (zS_lt hdt.2) (wt_nI hdt.2)).mp q))]
            have e2 : zNar (zS t) (zRek (zTold (zS t) (vI f a) (vF f a) i.toNatClampNeg) how x) = zNar (zS t) (zRek (M 4 (40 * φ a + i.toNatClampNeg)) how (if t = 3 then x &&& 1 else x)) := by
              rw [e1]
              by_cases h3 : t = 3
              · rw [if_pos h3, (ws3 (zS_lt hdt.2) (wt_nI hdt.2)).mp h3]
                have hh : how = 6 ∨ how = 7 ∨ how = 8 := by
                  rcases hk with q | q | q
                  · rw [h3] at q; exact absurd q.1 (by decide)
                  · exact q.2.2
                  · exact absurd h3 q.2.1
                obtain ⟨b1, b2, b3⟩ := wbit (M 4 (40 * φ a + i.toNatClampNeg)) x
                show (if _ &&& 1 = 1 then (1 : Int32) else 0) = (if _ &&& 1 = 1 then (1 : Int32) else 0)
                rw [wN3, wN3]
                rcases hh with q | q | q
                · rw [q]; exact b1
                · rw [q]; exact b2
                · rw [q]; exact b3
              · rw [if_neg h3]
            rw [e2]
            exact wCoN (zS_lt hdt.2) (wt_nI hdt.2) hs2
      · rw [if_neg hX] at h1 h2
        exact zOK_ref (mAg_why hX) h h1 h2
    · rw [wPFn hdt, if_neg (by decide)] at h1
      rw [if_neg (fun q => hdt ⟨q.1, q.2.1⟩)] at h2
      exact zOK_ref zW1 h h1 h2
  · rw [if_neg hk] at h1
    rw [if_neg (fun q => hk (wkn.mpr q.2.2))] at h2
    exact zOK_ref zW1 h h1 h2
theorem st_tick {d t i ahead : Int32} (h : zREL G o ac aw ar L f ch m0 car wa ta φ M lev) (h1 : (fun r u => if t = 3 then zRefP G L f ar ta zNONE r u else if zPF f car d t i = 0 then (u = zPutW G L f (zS t) (zA car d t) (zSuI (zS t) (vI f (zA car d t)) (vF f (zA car d t)) i.toNatClampNeg) (zSuF (zS t) (vF f (zA car d t)) i.toNatClampNeg) ∧ r = if ahead = 0 then (zTold (zS t) (vI f (zA car d t)) (vF f (zA car d t)) i.toNatClampNeg).toInt64 else (zTold (zS t) (zSuI (zS t) (vI f (zA car d t)) (vF f (zA car d t)) i.toNatClampNeg) (zSuF (zS t) (vF f (zA car d t)) i.toNatClampNeg) i.toNatClampNeg).toInt64) else zRefP G L f ar ta (zPF f car d t i) r u) r u) (h2 : (fun r u => if zFour d ∧ zFour t ∧ ¬ t = 3 then (if (mAg M (M 0 (mix d t)) i) = 0 then (if t = 2 then (u = mW G ad M (vf_upd lev (mat (M 0 (mix d t)) i) (zHe (FP.fadd (lev (mat (M 0 (mix d t)) i)) FP.fconst1))) ∧ r = if ahead = 0 then (mTo M lev t (mat (M 0 (mix d t)) i)).toInt64 else (mTo M (vf_upd lev (mat (M 0 (mix d t)) i) (zHe (FP.fadd (lev (mat (M 0 (mix d t)) i)) FP.fconst1))) t (mat (M 0 (mix d t)) i)).toInt64) else (u = mW G ad (mFM M t (mat (M 0 (mix d t)) i) (M 4 (mat (M 0 (mix d t)) i) + 1)) (mFL lev t (mat (M 0 (mix d t)) i) (zEi (M 4 (mat (M 0 (mix d t)) i) + 1))) ∧ r = if ahead = 0 then (mTo M lev t (mat (M 0 (mix d t)) i)).toInt64 else (mTo (mFM M t (mat (M 0 (mix d t)) i) (M 4 (mat (M 0 (mix d t)) i) + 1)) (mFL lev t (mat (M 0 (mix d t)) i) (zEi (M 4 (mat (M 0 (mix d t)) i) + 1))) t (mat (M 0 (mix d t)) i)).toInt64)) else mRefP G ad M lev (mAg M (M 0 (mix d t)) i) r u) else mRefP G ad M lev zNONE r u) v u2) : zOK G ad o ac aw ar r v u u2 := by
  by_cases h3 : t = 3
  · rw [if_pos h3] at h1
    rw [if_neg (fun q => q.2.2 h3)] at h2
    exact zOK_ref zW1 h h1 h2
  · rw [if_neg h3] at h1
    by_cases hdt : zFour d ∧ zFour t
    · rw [wPF h hdt.1 hdt.2] at h1
      rw [if_pos ⟨hdt.1, hdt.2, h3⟩] at h2
      by_cases hX : mAg M (M 0 (mix d t)) i = 0
      · rw [if_pos hX] at h1 h2
        obtain ⟨a, ea, hr, eat, hi, hco⟩ := wPl h hdt.1 hdt.2 hX
        rw [ea] at h1
        rw [eat] at h2
        have eo := wTold (gi := vI f a) (gf := vF f a) (M := M) (lev := lev) (zS_lt hdt.2) (wt_nI hdt.2) hco
        by_cases hs2 : zS t = 2
        · have et : t = 2 := (ws2 (zS_lt hdt.2) (wt_nI hdt.2)).mpr hs2
          rw [if_pos et] at h2
          have elv : lev (40 * φ a + i.toNatClampNeg) = vF f a i.toNatClampNeg := by rw [hs2] at hco; exact hco
          have hfa := zRc_RA h.1 (zS_lt hdt.2) hr
          rw [elv] at h2
          have k := zOK_putF (ad := ad) hdt.2 hs2 h hr hi (gi2 := zSuI (zS t) (vI f a) (vF f a) i.toNatClampNeg) (gf2 := zSuF (zS t) (vF f a) i.toNatClampNeg) (by rw [hs2]; rfl) (by rw [hs2]; rfl) (zadd (hfa.2.2.2.2.2 _ hi) zfin1) rfl rfl ⟨h1.1, rfl⟩ ⟨h2.1, rfl⟩
          refine ⟨?_, k.2⟩
          rw [h1.2, h2.2, eo, k.1]
        · rw [if_neg (fun q => hs2 ((ws2 (zS_lt hdt.2) (wt_nI hdt.2)).mp q))] at h2
          have e1 : zTold (zS t) (vI f a) (vF f a) i.toNatClampNeg = M 4 (40 * φ a + i.toNatClampNeg) := by
            rw [eo]
            unfold mTo
            rw [if_neg (fun q => hs2 ((ws2 (zS_lt hdt.2) (wt_nI hdt.2)).mp q))]
          have k := zOK_putI (ad := ad) (z := mNar t (M 4 (40 * φ a + i.toNatClampNeg) + 1)) hdt.2 hs2 h hr hi (gi2 := zSuI (zS t) (vI f a) (vF f a) i.toNatClampNeg) (gf2 := zSuF (zS t) (vF f a) i.toNatClampNeg) (zSuI_of hs2) (zSuF_of hs2) (wF4 (zS_lt hdt.2) (wt_nI hdt.2) hs2) (wFl (zS_lt hdt.2) (wt_nI hdt.2) hs2) (fun _ _ => by rw [e1]; exact wCoN (zS_lt hdt.2) (wt_nI hdt.2) hs2) ⟨h1.1, rfl⟩ ⟨h2.1, rfl⟩
          refine ⟨?_, k.2⟩
          rw [h1.2, h2.2, eo, k.1]
      · rw [if_neg hX] at h1 h2
        exact zOK_ref (mAg_why hX) h h1 h2
    · rw [wPFn hdt, if_neg (by decide)] at h1
      rw [if_neg (fun q => hdt ⟨q.1, q.2.1⟩)] at h2
      exact zOK_ref zW1 h h1 h2
theorem st_mount {d t n : Int32} (h : zREL G o ac aw ar L f ch m0 car wa ta φ M lev) (h1 : (fun r u => if zFour d ∧ zFour t then (if n ≤ 40 then (if 0 ≤ n then (∃ a b, a ∉ L ∧ b ∉ L ∧ b ≠ a ∧ u = zCarW G (zNL L a b) (zNf G f (zS t) n.toNatClampNeg a b) ac (va_up car (zix d t) (some a)) ∧ r = n.toInt64) else zRefP G L f ar ta zNEGATIVE r u) else zRefP G L f ar ta zGREAT r u) else zRefP G L f ar ta zNONE r u) r u) (h2 : (fun v u => if zFour d ∧ zFour t then (if n ≤ 40 then (if 0 ≤ n then (∃ (r : Nat) (U : Nat → Int32), mFr (va_up M 0 (upd (M 0) (mix d t) (-1))) r ∧ u = mW G ad (va_up (mRl (va_up M 0 (upd (M 0) (mix d t) (-1))) U r n n.toNatClampNeg) 0 (upd ((va_up M 0 (upd (M 0) (mix d t) (-1))) 0) (mix d t) (nI r))) (mZ 0 lev r n.toNatClampNeg) ∧ v = n.toInt64) else mRefP G ad M lev zNEGATIVE v u) else mRefP G ad M lev zGREAT v u) else mRefP G ad M lev zNONE v u) v u2) : zOK G ad o ac aw ar r v u u2 := by
  by_cases hdt : zFour d ∧ zFour t
  · rw [if_pos hdt] at h1 h2
    by_cases h40 : n ≤ 40
    · rw [if_pos h40] at h1 h2
      by_cases h0 : 0 ≤ n
      · rw [if_pos h0] at h1 h2
        obtain ⟨a, b, ha, hb, hba, e1, e2⟩ := h1
        obtain ⟨q, U, hfr, e3, e4⟩ := h2
        rw [mix_zix] at hfr e3
        have hn0 : ¬ n < 0 := fun z => by rw [Int32.lt_iff_toInt_lt] at z; rw [Int32.le_iff_toInt_le] at h0; omega
        have k := zU_mount (U := U) (wk hdt.1 hdt.2).1 hn0 (zle40 h0 h40) ha hb hba hfr h
        rw [(wk hdt.1 hdt.2).2] at k
        exact ⟨by rw [e2, e4], _, _, e3, _, _, ch, m0, _, wa, ta, _, e1, k⟩
      · rw [if_neg h0] at h1 h2
        exact zOK_ref zW4 h h1 h2
    · rw [if_neg h40] at h1 h2
      exact zOK_ref zW5 h h1 h2
  · rw [if_neg hdt] at h1 h2
    exact zOK_ref zW1 h h1 h2
theorem st_hang {t rows cols : Int32} (h : zREL G o ac aw ar L f ch m0 car wa ta φ M lev) (h1 : (fun r u => if zFour t then (if zGF rows cols = 0 then (∃ a L2 f2, zNW G L f (zS t) rows.toNatClampNeg cols.toNatClampNeg a L2 f2 ∧ u = va_pl L2 (va_up f2 aw (.inl (G.2 6, 4, zQ (va_up wa (zS t) (some a))))) ∧ r = rows.toInt64) else zRefP G L f ar ta (zGF rows cols) r u) else zRefP G L f ar ta zNONE r u) r u) (h2 : (fun v u => if zFour t then (if zGF rows cols = 0 then (∃ (N : Nat → Nat → Int32) (ln : Nat → UInt32), mH M lev (zS t) rows cols rows.toNatClampNeg N ln ∧ u = mW G ad N ln ∧ v = rows.toInt64) else mRefP G ad M lev (zGF rows cols) v u) else mRefP G ad M lev zNONE v u) v u2) : zOK G ad o ac aw ar r v u u2 := by
  by_cases ht : zFour t
  · rw [if_pos ht] at h1 h2
    by_cases hg : zGF rows cols = 0
    · rw [if_pos hg] at h1 h2
      obtain ⟨w, L2, F, hN, e1, e2⟩ := h1
      obtain ⟨N, ln, hH, e3, e4⟩ := h2
      obtain ⟨g1, g2, g3, g4⟩ := zGF_0 hg
      exact ⟨by rw [e2, e4], N, ln, e3, L2, _, ch, m0, car, _, ta, _, e1, zU_hang (zS_lt ht) g1 (zle12 g1 g2) g3 (zle12 g3 g4) hN hH h⟩
    · rw [if_neg hg] at h1 h2
      exact zOK_ref (zGF_why hg) h h1 h2
  · rw [if_neg ht] at h1 h2
    exact zOK_ref zW1 h h1 h2
theorem st_chart {rows cols : Int32} (h : zREL G o ac aw ar L f ch m0 car wa ta φ M lev) (h1 : (fun r u => if zGF rows cols = 0 then (∃ q L2 f2, zNH G L f rows.toNatClampNeg cols.toNatClampNeg q L2 f2 ∧ u = va_pl L2 (va_up f2 o (.inr (5, [.ref ac, .ref aw, .ref ar, .ref q]))) ∧ r = rows.toInt64) else zRefP G L f ar ta (zGF rows cols) r u) r u) (h2 : (fun v u => if zGF rows cols = 0 then (∃ (C : Nat → Int32), (∀ j, j < 144 → C j = 0) ∧ u = mW G ad (va_up (va_up M 9 (upd (upd (M 9) 0 rows) 1 cols)) 7 C) lev ∧ v = rows.toInt64) else mRefP G ad M lev (zGF rows cols) v u) v u2) : zOK G ad o ac aw ar r v u u2 := by
  by_cases hg : zGF rows cols = 0
  · rw [if_pos hg] at h1 h2
    obtain ⟨q, L2, F, hN, e1, e2⟩ := h1
    obtain ⟨C, hC, e3, e4⟩ := h2
    obtain ⟨g1, g2, g3, g4⟩ := zGF_0 hg
    exact ⟨by rw [e2, e4], _, lev, e3, L2, _, some q, _, car, wa, ta, φ, e1, zU_chart g1 (zle12 g1 g2) g3 (zle12 g3 g4) hN hC h⟩
  · rw [if_neg hg] at h1 h2
    exact zOK_ref (zGF_why hg) h h1 h2
end ST
