/-! the plain words of a granary: its numbers w in 257 cells, as the reference keeps them; and the reference's small methods over them -/
abbrev Wd : Type := Nat → Int32
def mw (M : MS) (w : Wd) : MS := (M.1, va_up M.2 0 w)
theorem mw_w {M : MS} {w : Wd} : (mw M w).2 0 = w := by simp [mw, va_up]
theorem mw_1 {M : MS} {w : Wd} {k : Nat} : (mw M w).1 k = M.1 k := rfl
theorem mw_n {M : MS} {w : Wd} {k : Nat} (h : k ≠ 0) : (mw M w).2 k = M.2 k := by simp [mw, va_up, h]
theorem up_up {α : Type} {f : Nat → α} {k : Nat} {v w : α} : va_up (va_up f k v) k w = va_up f k w := funext fun j => by unfold va_up; split <;> rfl
theorem va_s {α : Type} {f : Nat → α} {k : Nat} {v : α} : va_up f k v k = v := by simp [va_up]
theorem up_self {α : Type} {f : Nat → α} {k : Nat} : va_up f k (f k) = f := funext fun j => by unfold va_up; split <;> simp_all
theorem mw_up {M : MS} {w v : Wd} : (((mw M w).1, va_up (mw M w).2 0 v) : MS) = mw M v := by unfold mw; rw [up_up]
theorem mw_mw {M : MS} {w v : Wd} : mw (mw M w) v = mw M v := mw_up
theorem mw_self {M : MS} : mw M (M.2 0) = M := by unfold mw; rw [up_self]
theorem nI_a (a c k f : Nat) : nI a + nI c * nI k + nI f = nI (a + c * k + f) := by rw [pk_mul, nI_add, nI_add]
theorem nI_b (a c k : Nat) : nI a + nI c * nI k = nI (a + c * k) := by rw [pk_mul, nI_add]
theorem gi_n {α : Type} {a b : α} {n N : Nat} (h : n < N) (hN : N < 2 ^ 31) : (if gIn (nI n) N then a else b) = a := if_pos (nI_in h hN)
theorem r_ofSack {M : MS} {w : Wd} {k : Nat} (hk : k < 6) (f : Nat) (hf : f < 12) : fX11_ofSack (mw M w) (nI k) (nI f) = some (w (161 + 12 * k + f)) := by
  unfold fX11_ofSack fX11_ofSack_0
  rw [show (161 + 12 * nI k + nI f : Int32) = nI (161 + 12 * k + f) from nI_a 161 12 k f, if_pos (nI_in (by omega) (by decide)), nI_clamp (by omega), mw_w]
theorem r_putsSack {M : MS} {w : Wd} {k : Nat} {v : Int32} (hk : k < 6) (f : Nat) (hf : f < 12) : fX11_putsSack (mw M w) (nI k) (nI f) v = some (mw M (upd w (161 + 12 * k + f) v)) := by
  unfold fX11_putsSack fX11_putsSack_0 fX11_putsSack_16
  rw [show (161 + 12 * nI k + nI f : Int32) = nI (161 + 12 * k + f) from nI_a 161 12 k f, if_pos (nI_in (by omega) (by decide)), nI_clamp (by omega), mw_w, mw_up]
theorem r_ofCat {M : MS} {w : Wd} {k : Nat} (hk : k < 8) (f : Nat) (hf : f < 12) : fX11_ofCat (mw M w) (nI k) (nI f) = some (w (65 + 12 * k + f)) := by
  unfold fX11_ofCat fX11_ofCat_0
  rw [show (65 + 12 * nI k + nI f : Int32) = nI (65 + 12 * k + f) from nI_a 65 12 k f, if_pos (nI_in (by omega) (by decide)), nI_clamp (by omega), mw_w]
theorem r_putsCat {M : MS} {w : Wd} {k : Nat} {v : Int32} (hk : k < 8) (f : Nat) (hf : f < 12) : fX11_putsCat (mw M w) (nI k) (nI f) v = some (mw M (upd w (65 + 12 * k + f) v)) := by
  unfold fX11_putsCat fX11_putsCat_0 fX11_putsCat_15
  rw [show (65 + 12 * nI k + nI f : Int32) = nI (65 + 12 * k + f) from nI_a 65 12 k f, if_pos (nI_in (by omega) (by decide)), nI_clamp (by omega), mw_w, mw_up]
theorem r_shiftCat {M : MS} {w : Wd} {k : Nat} (hk : k < 12) : fX11_shiftCat (mw M w) (nI k) = some (w (233 + 2 * k)) := by
  unfold fX11_shiftCat fX11_shiftCat_0
  rw [show (233 + 2 * nI k : Int32) = nI (233 + 2 * k) from nI_b 233 2 k, if_pos (nI_in (by omega) (by decide)), nI_clamp (by omega), mw_w]
theorem r_shiftHours {M : MS} {w : Wd} {k : Nat} (hk : k < 12) : fX11_shiftHours (mw M w) (nI k) = some (w (233 + 2 * k + 1)) := by
  unfold fX11_shiftHours fX11_shiftHours_0
  rw [show (233 + 2 * nI k + 1 : Int32) = nI (233 + 2 * k + 1) from nI_a 233 2 k 1, if_pos (nI_in (by omega) (by decide)), nI_clamp (by omega), mw_w]
/-! the same at written numbers -/
theorem rs0 {M : MS} {w : Wd} {k : Nat} (hk : k < 6) : fX11_ofSack (mw M w) (nI k) 0 = some (w (161 + 12 * k + 0)) := r_ofSack hk 0 (by decide)
theorem ps0 {M : MS} {w : Wd} {k : Nat} {v : Int32} (hk : k < 6) : fX11_putsSack (mw M w) (nI k) 0 v = some (mw M (upd w (161 + 12 * k + 0) v)) := r_putsSack hk 0 (by decide)
theorem rc0 {M : MS} {w : Wd} {k : Nat} (hk : k < 8) : fX11_ofCat (mw M w) (nI k) 0 = some (w (65 + 12 * k + 0)) := r_ofCat hk 0 (by decide)
theorem pc0 {M : MS} {w : Wd} {k : Nat} {v : Int32} (hk : k < 8) : fX11_putsCat (mw M w) (nI k) 0 v = some (mw M (upd w (65 + 12 * k + 0) v)) := r_putsCat hk 0 (by decide)
theorem rs1 {M : MS} {w : Wd} {k : Nat} (hk : k < 6) : fX11_ofSack (mw M w) (nI k) 1 = some (w (161 + 12 * k + 1)) := r_ofSack hk 1 (by decide)
theorem ps1 {M : MS} {w : Wd} {k : Nat} {v : Int32} (hk : k < 6) : fX11_putsSack (mw M w) (nI k) 1 v = some (mw M (upd w (161 + 12 * k + 1) v)) := r_putsSack hk 1 (by decide)
theorem rc1 {M : MS} {w : Wd} {k : Nat} (hk : k < 8) : fX11_ofCat (mw M w) (nI k) 1 = some (w (65 + 12 * k + 1)) := r_ofCat hk 1 (by decide)
theorem pc1 {M : MS} {w : Wd} {k : Nat} {v : Int32} (hk : k < 8) : fX11_putsCat (mw M w) (nI k) 1 v = some (mw M (upd w (65 + 12 * k + 1) v)) := r_putsCat hk 1 (by decide)
theorem rs2 {M : MS} {w : Wd} {k : Nat} (hk : k < 6) : fX11_ofSack (mw M w) (nI k) 2 = some (w (161 + 12 * k + 2)) := r_ofSack hk 2 (by decide)
theorem ps2 {M : MS} {w : Wd} {k : Nat} {v : Int32} (hk : k < 6) : fX11_putsSack (mw M w) (nI k) 2 v = some (mw M (upd w (161 + 12 * k + 2) v)) := r_putsSack hk 2 (by decide)
theorem rc2 {M : MS} {w : Wd} {k : Nat} (hk : k < 8) : fX11_ofCat (mw M w) (nI k) 2 = some (w (65 + 12 * k + 2)) := r_ofCat hk 2 (by decide)
theorem pc2 {M : MS} {w : Wd} {k : Nat} {v : Int32} (hk : k < 8) : fX11_putsCat (mw M w) (nI k) 2 v = some (mw M (upd w (65 + 12 * k + 2) v)) := r_putsCat hk 2 (by decide)
theorem rs3 {M : MS} {w : Wd} {k : Nat} (hk : k < 6) : fX11_ofSack (mw M w) (nI k) 3 = some (w (161 + 12 * k + 3)) := r_ofSack hk 3 (by decide)
theorem ps3 {M : MS} {w : Wd} {k : Nat} {v : Int32} (hk : k < 6) : fX11_putsSack (mw M w) (nI k) 3 v = some (mw M (upd w (161 + 12 * k + 3) v)) := r_putsSack hk 3 (by decide)
theorem rc3 {M : MS} {w : Wd} {k : Nat} (hk : k < 8) : fX11_ofCat (mw M w) (nI k) 3 = some (w (65 + 12 * k + 3)) := r_ofCat hk 3 (by decide)
theorem pc3 {M : MS} {w : Wd} {k : Nat} {v : Int32} (hk : k < 8) : fX11_putsCat (mw M w) (nI k) 3 v = some (mw M (upd w (65 + 12 * k + 3) v)) := r_putsCat hk 3 (by decide)
theorem rs4 {M : MS} {w : Wd} {k : Nat} (hk : k < 6) : fX11_ofSack (mw M w) (nI k) 4 = some (w (161 + 12 * k + 4)) := r_ofSack hk 4 (by decide)
theorem ps4 {M : MS} {w : Wd} {k : Nat} {v : Int32} (hk : k < 6) : fX11_putsSack (mw M w) (nI k) 4 v = some (mw M (upd w (161 + 12 * k + 4) v)) := r_putsSack hk 4 (by decide)
theorem rc4 {M : MS} {w : Wd} {k : Nat} (hk : k < 8) : fX11_ofCat (mw M w) (nI k) 4 = some (w (65 + 12 * k + 4)) := r_ofCat hk 4 (by decide)
theorem pc4 {M : MS} {w : Wd} {k : Nat} {v : Int32} (hk : k < 8) : fX11_putsCat (mw M w) (nI k) 4 v = some (mw M (upd w (65 + 12 * k + 4) v)) := r_putsCat hk 4 (by decide)
theorem rs5 {M : MS} {w : Wd} {k : Nat} (hk : k < 6) : fX11_ofSack (mw M w) (nI k) 5 = some (w (161 + 12 * k + 5)) := r_ofSack hk 5 (by decide)
theorem ps5 {M : MS} {w : Wd} {k : Nat} {v : Int32} (hk : k < 6) : fX11_putsSack (mw M w) (nI k) 5 v = some (mw M (upd w (161 + 12 * k + 5) v)) := r_putsSack hk 5 (by decide)
theorem rc5 {M : MS} {w : Wd} {k : Nat} (hk : k < 8) : fX11_ofCat (mw M w) (nI k) 5 = some (w (65 + 12 * k + 5)) := r_ofCat hk 5 (by decide)
theorem pc5 {M : MS} {w : Wd} {k : Nat} {v : Int32} (hk : k < 8) : fX11_putsCat (mw M w) (nI k) 5 v = some (mw M (upd w (65 + 12 * k + 5) v)) := r_putsCat hk 5 (by decide)
theorem rs6 {M : MS} {w : Wd} {k : Nat} (hk : k < 6) : fX11_ofSack (mw M w) (nI k) 6 = some (w (161 + 12 * k + 6)) := r_ofSack hk 6 (by decide)
theorem ps6 {M : MS} {w : Wd} {k : Nat} {v : Int32} (hk : k < 6) : fX11_putsSack (mw M w) (nI k) 6 v = some (mw M (upd w (161 + 12 * k + 6) v)) := r_putsSack hk 6 (by decide)
theorem rc6 {M : MS} {w : Wd} {k : Nat} (hk : k < 8) : fX11_ofCat (mw M w) (nI k) 6 = some (w (65 + 12 * k + 6)) := r_ofCat hk 6 (by decide)
theorem pc6 {M : MS} {w : Wd} {k : Nat} {v : Int32} (hk : k < 8) : fX11_putsCat (mw M w) (nI k) 6 v = some (mw M (upd w (65 + 12 * k + 6) v)) := r_putsCat hk 6 (by decide)
theorem rs7 {M : MS} {w : Wd} {k : Nat} (hk : k < 6) : fX11_ofSack (mw M w) (nI k) 7 = some (w (161 + 12 * k + 7)) := r_ofSack hk 7 (by decide)
theorem ps7 {M : MS} {w : Wd} {k : Nat} {v : Int32} (hk : k < 6) : fX11_putsSack (mw M w) (nI k) 7 v = some (mw M (upd w (161 + 12 * k + 7) v)) := r_putsSack hk 7 (by decide)
theorem rc7 {M : MS} {w : Wd} {k : Nat} (hk : k < 8) : fX11_ofCat (mw M w) (nI k) 7 = some (w (65 + 12 * k + 7)) := r_ofCat hk 7 (by decide)
theorem pc7 {M : MS} {w : Wd} {k : Nat} {v : Int32} (hk : k < 8) : fX11_putsCat (mw M w) (nI k) 7 v = some (mw M (upd w (65 + 12 * k + 7) v)) := r_putsCat hk 7 (by decide)
theorem rs8 {M : MS} {w : Wd} {k : Nat} (hk : k < 6) : fX11_ofSack (mw M w) (nI k) 8 = some (w (161 + 12 * k + 8)) := r_ofSack hk 8 (by decide)
theorem ps8 {M : MS} {w : Wd} {k : Nat} {v : Int32} (hk : k < 6) : fX11_putsSack (mw M w) (nI k) 8 v = some (mw M (upd w (161 + 12 * k + 8) v)) := r_putsSack hk 8 (by decide)
theorem rc8 {M : MS} {w : Wd} {k : Nat} (hk : k < 8) : fX11_ofCat (mw M w) (nI k) 8 = some (w (65 + 12 * k + 8)) := r_ofCat hk 8 (by decide)
theorem pc8 {M : MS} {w : Wd} {k : Nat} {v : Int32} (hk : k < 8) : fX11_putsCat (mw M w) (nI k) 8 v = some (mw M (upd w (65 + 12 * k + 8) v)) := r_putsCat hk 8 (by decide)
theorem rs9 {M : MS} {w : Wd} {k : Nat} (hk : k < 6) : fX11_ofSack (mw M w) (nI k) 9 = some (w (161 + 12 * k + 9)) := r_ofSack hk 9 (by decide)
theorem ps9 {M : MS} {w : Wd} {k : Nat} {v : Int32} (hk : k < 6) : fX11_putsSack (mw M w) (nI k) 9 v = some (mw M (upd w (161 + 12 * k + 9) v)) := r_putsSack hk 9 (by decide)
theorem rc9 {M : MS} {w : Wd} {k : Nat} (hk : k < 8) : fX11_ofCat (mw M w) (nI k) 9 = some (w (65 + 12 * k + 9)) := r_ofCat hk 9 (by decide)
theorem pc9 {M : MS} {w : Wd} {k : Nat} {v : Int32} (hk : k < 8) : fX11_putsCat (mw M w) (nI k) 9 v = some (mw M (upd w (65 + 12 * k + 9) v)) := r_putsCat hk 9 (by decide)
theorem rs10 {M : MS} {w : Wd} {k : Nat} (hk : k < 6) : fX11_ofSack (mw M w) (nI k) 10 = some (w (161 + 12 * k + 10)) := r_ofSack hk 10 (by decide)
theorem ps10 {M : MS} {w : Wd} {k : Nat} {v : Int32} (hk : k < 6) : fX11_putsSack (mw M w) (nI k) 10 v = some (mw M (upd w (161 + 12 * k + 10) v)) := r_putsSack hk 10 (by decide)
theorem rc10 {M : MS} {w : Wd} {k : Nat} (hk : k < 8) : fX11_ofCat (mw M w) (nI k) 10 = some (w (65 + 12 * k + 10)) := r_ofCat hk 10 (by decide)
theorem pc10 {M : MS} {w : Wd} {k : Nat} {v : Int32} (hk : k < 8) : fX11_putsCat (mw M w) (nI k) 10 v = some (mw M (upd w (65 + 12 * k + 10) v)) := r_putsCat hk 10 (by decide)
theorem rs11 {M : MS} {w : Wd} {k : Nat} (hk : k < 6) : fX11_ofSack (mw M w) (nI k) 11 = some (w (161 + 12 * k + 11)) := r_ofSack hk 11 (by decide)
theorem ps11 {M : MS} {w : Wd} {k : Nat} {v : Int32} (hk : k < 6) : fX11_putsSack (mw M w) (nI k) 11 v = some (mw M (upd w (161 + 12 * k + 11) v)) := r_putsSack hk 11 (by decide)
theorem rc11 {M : MS} {w : Wd} {k : Nat} (hk : k < 8) : fX11_ofCat (mw M w) (nI k) 11 = some (w (65 + 12 * k + 11)) := r_ofCat hk 11 (by decide)
theorem pc11 {M : MS} {w : Wd} {k : Nat} {v : Int32} (hk : k < 8) : fX11_putsCat (mw M w) (nI k) 11 v = some (mw M (upd w (65 + 12 * k + 11) v)) := r_putsCat hk 11 (by decide)
theorem gi0 {α : Type} {a b : α} : (if gIn 0 257 then a else b) = a := gi_n (n := 0) (by decide) (by decide)
theorem tn0 : (0 : Int32).toNatClampNeg = 0 := by decide +kernel
theorem gi1 {α : Type} {a b : α} : (if gIn 1 257 then a else b) = a := gi_n (n := 1) (by decide) (by decide)
theorem tn1 : (1 : Int32).toNatClampNeg = 1 := by decide +kernel
theorem gi2 {α : Type} {a b : α} : (if gIn 2 257 then a else b) = a := gi_n (n := 2) (by decide) (by decide)
theorem tn2 : (2 : Int32).toNatClampNeg = 2 := by decide +kernel
theorem gi3 {α : Type} {a b : α} : (if gIn 3 257 then a else b) = a := gi_n (n := 3) (by decide) (by decide)
theorem tn3 : (3 : Int32).toNatClampNeg = 3 := by decide +kernel
theorem gi4 {α : Type} {a b : α} : (if gIn 4 257 then a else b) = a := gi_n (n := 4) (by decide) (by decide)
theorem tn4 : (4 : Int32).toNatClampNeg = 4 := by decide +kernel
theorem gi5 {α : Type} {a b : α} : (if gIn 5 257 then a else b) = a := gi_n (n := 5) (by decide) (by decide)
theorem tn5 : (5 : Int32).toNatClampNeg = 5 := by decide +kernel
theorem gi6 {α : Type} {a b : α} : (if gIn 6 257 then a else b) = a := gi_n (n := 6) (by decide) (by decide)
theorem tn6 : (6 : Int32).toNatClampNeg = 6 := by decide +kernel
theorem gi7 {α : Type} {a b : α} : (if gIn 7 257 then a else b) = a := gi_n (n := 7) (by decide) (by decide)
theorem tn7 : (7 : Int32).toNatClampNeg = 7 := by decide +kernel
theorem gi8 {α : Type} {a b : α} : (if gIn 8 257 then a else b) = a := gi_n (n := 8) (by decide) (by decide)
theorem tn8 : (8 : Int32).toNatClampNeg = 8 := by decide +kernel
theorem gi9 {α : Type} {a b : α} : (if gIn 9 257 then a else b) = a := gi_n (n := 9) (by decide) (by decide)
theorem tn9 : (9 : Int32).toNatClampNeg = 9 := by decide +kernel
theorem gi10 {α : Type} {a b : α} : (if gIn 10 257 then a else b) = a := gi_n (n := 10) (by decide) (by decide)
theorem tn10 : (10 : Int32).toNatClampNeg = 10 := by decide +kernel
theorem gi11 {α : Type} {a b : α} : (if gIn 11 257 then a else b) = a := gi_n (n := 11) (by decide) (by decide)
theorem tn11 : (11 : Int32).toNatClampNeg = 11 := by decide +kernel
theorem gi12 {α : Type} {a b : α} : (if gIn 12 257 then a else b) = a := gi_n (n := 12) (by decide) (by decide)
theorem tn12 : (12 : Int32).toNatClampNeg = 12 := by decide +kernel
theorem gi13 {α : Type} {a b : α} : (if gIn 13 257 then a else b) = a := gi_n (n := 13) (by decide) (by decide)
theorem tn13 : (13 : Int32).toNatClampNeg = 13 := by decide +kernel
theorem gi14 {α : Type} {a b : α} : (if gIn 14 257 then a else b) = a := gi_n (n := 14) (by decide) (by decide)
theorem tn14 : (14 : Int32).toNatClampNeg = 14 := by decide +kernel
theorem gi15 {α : Type} {a b : α} : (if gIn 15 257 then a else b) = a := gi_n (n := 15) (by decide) (by decide)
theorem tn15 : (15 : Int32).toNatClampNeg = 15 := by decide +kernel
theorem gi16 {α : Type} {a b : α} : (if gIn 16 257 then a else b) = a := gi_n (n := 16) (by decide) (by decide)
theorem tn16 : (16 : Int32).toNatClampNeg = 16 := by decide +kernel
theorem gi17 {α : Type} {a b : α} : (if gIn 17 257 then a else b) = a := gi_n (n := 17) (by decide) (by decide)
theorem tn17 : (17 : Int32).toNatClampNeg = 17 := by decide +kernel
theorem gi18 {α : Type} {a b : α} : (if gIn 18 257 then a else b) = a := gi_n (n := 18) (by decide) (by decide)
theorem tn18 : (18 : Int32).toNatClampNeg = 18 := by decide +kernel
theorem gi19 {α : Type} {a b : α} : (if gIn 19 257 then a else b) = a := gi_n (n := 19) (by decide) (by decide)
theorem tn19 : (19 : Int32).toNatClampNeg = 19 := by decide +kernel
/-! what an hour does, piece by piece -/
def strengthW (w : Wd) (c : Nat) : Int32 := if 0 < w (65 + 12 * c + 7) - w (65 + 12 * c + 9) / 4 then w (65 + 12 * c + 7) - w (65 + 12 * c + 9) / 4 else 0
def restW (w : Wd) (c : Nat) (by_ : Int32) : Wd := upd w (65 + 12 * c + 9) (if 0 < w (65 + 12 * c + 9) - by_ then w (65 + 12 * c + 9) - by_ else 0)
def swearsInW (w : Wd) (c : Nat) : Wd := upd (upd (upd w 5 (nI c)) 12 (w 12 + 1)) (65 + 12 * c + 11) (w (65 + 12 * c + 11) + 1)
def starveW (w : Wd) (k : Nat) (x : Int32) : Wd := upd (upd w (161 + 12 * k + 8) (w (161 + 12 * k + 8) - x)) 11 (w 11 + x)
def nxtL (w : Wd) (n k : Nat) : Nat → Nat → Int32
  | 0, _ => -1
  | r + 1, j => if w (161 + 12 * ((k + j) % n) + 9) = 1 then nI ((k + j) % n) else nxtL w n k r (j + 1)
def nS (w : Wd) : Nat := (w 1).toNatClampNeg
def nC (w : Wd) : Nat := (w 0).toNatClampNeg
def nH (w : Wd) : Nat := (w 2).toNatClampNeg
def nextW (w : Wd) (k : Nat) : Int32 := nxtL w (nS w) k (nS w - 1) 1
def movesW (w : Wd) (k j : Nat) : Wd :=
  let m := w (161 + 12 * j + 8) + w (161 + 12 * k + 8)
  let w2 := upd (upd w (161 + 12 * j + 8) m) (161 + 12 * k + 8) 0
  if m ≤ 99 then w2 else starveW w2 j (m - 99)
def tailW (w : Wd) (k : Nat) (m t : Int32) : Wd := if t = -1 then starveW w k ((m + 1) / 2) else movesW w k t.toNatClampNeg
def eatW (w : Wd) (k : Nat) (e : Int32) : Wd := upd (upd (upd w (161 + 12 * k + 7) (w (161 + 12 * k + 7) - e)) (161 + 12 * k + 10) (w (161 + 12 * k + 10) + e)) 9 (w 9 + e)
def eatsW (w : Wd) (k : Nat) : Wd :=
  let m := w (161 + 12 * k + 8)
  let w3 := eatW w k (if w (161 + 12 * k + 7) < m then w (161 + 12 * k + 7) else m)
  if m = 0 then w3 else if w3 (161 + 12 * k + 7) ≤ 0 then (if w3 (161 + 12 * k + 9) = 1 then tailW w3 k m (nextW w3 k) else tailW w3 k m (-1)) else w3
def breedsW (w : Wd) (k : Nat) : Wd :=
  let b := if 99 - w (161 + 12 * k + 8) < w (161 + 12 * k + 8) / 2 then 99 - w (161 + 12 * k + 8) else w (161 + 12 * k + 8) / 2
  upd (upd w (161 + 12 * k + 8) (w (161 + 12 * k + 8) + b)) 10 (w 10 + b)
