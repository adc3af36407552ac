/-! ===== floats that are numbers ===== -/
abbrev zFin (a : UInt32) : Prop := Jvm.FP.Core.FFin a
theorem zmask (a : UInt32) : (a &&& 0x7fffffff).toNat = a.toNat % 2 ^ 31 := by
  have := Jvm.FP.Core.mask_toNat32 a
  exact this
theorem zn32 {a : UInt32} (h : Jvm.FP.Core.fIsNaN a = false) : vf_n32 a := by
  have h1 : ¬ (2139095040 < a.toNat % 2 ^ 31) := fun q => by
    have := (Jvm.FP.Core.isNaN_bits32 a).mpr q
    rw [h] at this
    cases this
  show a &&& 0x7fffffff ≤ 0x7f800000
  rw [UInt32.le_iff_toNat_le, zmask]
  have e : (0x7f800000 : UInt32).toNat = 2139095040 := by decide
  omega
theorem zn32_of {a : UInt32} (h : vf_n32 a) : Jvm.FP.Core.fIsNaN a = false := by
  have h1 : a &&& 0x7fffffff ≤ 0x7f800000 := h
  rw [UInt32.le_iff_toNat_le, zmask] at h1
  have e : (0x7f800000 : UInt32).toNat = 2139095040 := by decide
  cases hq : Jvm.FP.Core.fIsNaN a with
  | false => rfl
  | true =>
    have := (Jvm.FP.Core.isNaN_bits32 a).mp hq
    omega
theorem zfin8 : zFin 1090519040 := by
  rw [zFin, Jvm.FP.Core.fin_bits32]; decide
theorem zfin1 : zFin FP.fconst1 := by
  rw [zFin, Jvm.FP.Core.fin_bits32]; decide
theorem zfin0 : zFin 0 := by
  rw [zFin, Jvm.FP.Core.fin_bits32]; decide
theorem zfinM : zFin 1232348160 := by
  rw [zFin, Jvm.FP.Core.fin_bits32]; decide
theorem zfinN : zFin 3379831808 := by
  rw [zFin, Jvm.FP.Core.fin_bits32]; decide
theorem zfin_i2f (n : Int32) : zFin (FP.i2f n) := Jvm.FP.Core.i2f_fin n
theorem zmul8 {a : UInt32} (h : zFin a) : vf_n32 (FP.fmul a 1090519040) := zn32 (Jvm.FP.Core.fmul_out h zfin8)
theorem zadd {a b : UInt32} (h : zFin a) (h2 : zFin b) : vf_n32 (FP.fadd a b) := zn32 (Jvm.FP.Core.fadd_out h.notNaN h2)
theorem zsub {a b : UInt32} (h : zFin a) (h2 : zFin b) : vf_n32 (FP.fsub a b) := zn32 (Jvm.FP.Core.fsub_out h.notNaN h2)
/-- n, divided by 8 -/
def zEi (n : Int32) : UInt32 := FP.fdiv (FP.i2f n) 1090519040
theorem zEi_fin (n : Int32) : zFin (zEi n) := by
  have h := Jvm.FP.Core.fdiv_mag (a := FP.i2f n) (b := 1090519040) (K := 160) (L := 130) (Jvm.FP.Core.i2f_mag n) (by decide) (by decide) (by decide) (by decide)
  have h2 : (zEi n).toNat % 2 ^ 31 < (160 + (149 - 23 - 1) - 130 + 3) * 2 ^ 23 := h
  exact Jvm.FP.Core.fin_of_lt32 h2 (by decide)
theorem zEi_n (n : Int32) : vf_n32 (FP.fdiv (FP.i2f n) 1090519040) := zn32 (zEi_fin n).notNaN
/-- within the bounds -/
def zHe (v : UInt32) : UInt32 := if Op.cmpValue (FP.fcmp v 1232348160) .l ≤ 0 then (if 0 ≤ Op.cmpValue (FP.fcmp v 3379831808) .g then v else 3379831808) else 1232348160
theorem zHe_fin {v : UInt32} (h : vf_n32 v) : zFin (zHe v) := by
  have hv : Jvm.FP.Core.val32 v ≠ .nan := (Jvm.FP.Core.notNaN_iff32 v).mp (zn32_of h)
  have hM : Jvm.FP.Core.val32 1232348160 ≠ .nan := zfinM.ne_nan
  have hN : Jvm.FP.Core.val32 3379831808 ≠ .nan := zfinN.ne_nan
  have kM : Jvm.FP.Core.fkey 1232348160 = 1232348160 := by decide +kernel
  have kN : Jvm.FP.Core.fkey 3379831808 = -1232348160 := by decide +kernel
  unfold zHe
  by_cases h1 : Op.cmpValue (FP.fcmp v 1232348160) .l ≤ 0
  · rw [if_pos h1]
    by_cases h2 : 0 ≤ Op.cmpValue (FP.fcmp v 3379831808) .g
    · rw [if_pos h2]
      have g1 : ¬ Jvm.FP.Core.fcmp v 1232348160 = some .gt := fun q => by
        have q2 : FP.fcmp v 1232348160 = some .gt := q
        rw [q2] at h1
        exact absurd h1 (by decide)
      have g2 : ¬ Jvm.FP.Core.fcmp v 3379831808 = some .lt := fun q => by
        have q2 : FP.fcmp v 3379831808 = some .lt := q
        rw [q2] at h2
        exact absurd h2 (by decide)
      rw [Jvm.FP.Core.fcmp_gt_key hv hM, kM] at g1
      rw [Jvm.FP.Core.fcmp_lt_key hv hN, kN] at g2
      rw [zFin, Jvm.FP.Core.fin_bits32]
      unfold Jvm.FP.Core.fkey at g1 g2
      have hlt := v.toNat_lt
      split at g1 <;> omega
    · rw [if_neg h2]; exact zfinN
  · rw [if_neg h1]; exact zfinM
/-! ===== reels, by their sort: 0 letters, 1 waves, 2 faders, 3 lamps ===== -/
def zKc (s : Nat) : Nat := match s with
  | 0 => 2
  | 1 => 4
  | 2 => 0
  | _ => 1
def zKa (s : Nat) : Nat := match s with
  | 0 => 2
  | 1 => 3
  | 2 => 0
  | _ => 1
abbrev zAr : Type := (Nat → Int32) ⊕ (Nat → Int64) ⊕ (Nat → UInt32) ⊕ (Nat → UInt64) ⊕ (Nat → Option Nat)
def zArr (s : Nat) (gi : Nat → Int32) (gf : Nat → UInt32) : zAr := match s with
  | 2 => .inr (.inr (.inl gf))
  | _ => .inl gi
/-- the reel's array, the reel itself -/
def zCel (G : zG) (s n : Nat) (gi : Nat → Int32) (gf : Nat → UInt32) : va_E := .inl (G.2 (zKa s), n, zArr s gi gf)
def zObj (s b : Nat) : va_E := .inr (zKc s, [.ref b])
/-- what a place tells -/
def zTold (s : Nat) (gi : Nat → Int32) (gf : Nat → UInt32) (i : Nat) : Int32 := match s with
  | 2 => FP.f2i (FP.fmul (gf i) 1090519040)
  | 3 => if gi i = 0 then 0 else 1
  | _ => gi i
/-- what is kept of an int -/
def zNar (s : Nat) (x : Int32) : Int32 := match s with
  | 0 => (x.toUInt32 % 65536).toInt32
  | 1 => x.toInt16.toInt32
  | _ => if x &&& 1 = 1 then 1 else 0
def zPuI (s : Nat) (gi : Nat → Int32) (i : Nat) (x : Int32) : Nat → Int32 := match s with
  | 2 => gi
  | _ => upd gi i (zNar s x)
def zPuF (s : Nat) (gf : Nat → UInt32) (i : Nat) (v : UInt32) : Nat → UInt32 := match s with
  | 2 => vf_upd gf i (zHe v)
  | _ => gf
/-- a reel of sort s at a, its array at b, n places -/
def zReel (G : zG) (L : List Nat) (f : Nat → va_E) (s a b n : Nat) (gi : Nat → Int32) (gf : Nat → UInt32) : Prop :=
  a ∈ L ∧ b ∈ L ∧ f a = zObj s b ∧ f b = zCel G s n gi gf ∧ n ≤ 40 ∧ ∀ j, j < n → zFin (gf j)
