-- the greatest common divisor
def gcdZ (a b : Int) : Int := ((Nat.gcd a.toNat b.toNat : Nat) : Int)
theorem gcd_prod {x y t : Nat} (h : y ≤ x) (hy : 0 < y) {P : Nat} (hp : x * y * 2 ^ t ≤ P) : y * (x % y) * 2 ^ (t + 1) ≤ P := by
  have h1 : 2 * (x % y) ≤ x := by
    have hm := Nat.div_add_mod x y
    have hl := Nat.mod_lt x hy
    have hd : 1 ≤ x / y := (Nat.one_le_div_iff hy).mpr h
    have h3 : y * 1 ≤ y * (x / y) := Nat.mul_le_mul_left y hd
    omega
  have h2 : y * (x % y) * 2 ^ (t + 1) = y * (2 * (x % y)) * 2 ^ t := by
    rw [Nat.pow_succ, Nat.mul_comm 2 (x % y), ← Nat.mul_assoc, ← Nat.mul_assoc, Nat.mul_right_comm]
  have h4 : y * (2 * (x % y)) * 2 ^ t ≤ y * x * 2 ^ t := Nat.mul_le_mul_right _ (Nat.mul_le_mul_left _ h1)
  rw [h2]
  rw [Nat.mul_comm y x] at h4
  exact Nat.le_trans h4 hp
theorem gcd_end {x y : Nat} (hx : 0 < x) (hp : x * y * 2 ^ 64 ≤ 10000000000000000) : y = 0 := by
  rcases Nat.eq_zero_or_pos y with q | q
  · exact q
  · have : 1 ≤ x * y := Nat.mul_pos hx q
    have h2 : 1 * 2 ^ 64 ≤ x * y * 2 ^ 64 := Nat.mul_le_mul_right _ this
    omega
theorem gcd_step (x y : Nat) : Nat.gcd y (x % y) = Nat.gcd x y := by
  rw [Nat.gcd_comm x y, Nat.gcd_rec y x, Nat.gcd_comm]
-- how likely
def wz (t a b c : Int) : Nat → Int × Int × Int
  | 0 => (a, b, c)
  | k + 1 => (((wz t a b c k).1 + (wz t a b c k).2.1 + (wz t a b c k).2.2) * (10 - t), (wz t a b c k).1 * t, (wz t a b c k).2.1 * t)
def ph (v : Nat → Int) (k : Int) : Int := if v 1 % 3 = k then 1 else 0
def waysZ (v : Nat → Int) (x : Nat) (t : Int) : Int := if v 2 + v 3 = 0 then 10 ^ x else (wz t (ph v 0) (ph v 1) (ph v 2) x).1 + (wz t (ph v 0) (ph v 1) (ph v 2) x).2.1 + (wz t (ph v 0) (ph v 1) (ph v 2) x).2.2
theorem wz_in {t a b c : Int} (ht : 0 ≤ t ∧ t ≤ 10) (h : 0 ≤ a ∧ 0 ≤ b ∧ 0 ≤ c ∧ a + b + c ≤ 1) : ∀ k : Nat, 0 ≤ (wz t a b c k).1 ∧ 0 ≤ (wz t a b c k).2.1 ∧ 0 ≤ (wz t a b c k).2.2 ∧ (wz t a b c k).1 + (wz t a b c k).2.1 + (wz t a b c k).2.2 ≤ 10 ^ k
  | 0 => by unfold wz; dsimp only; omega
  | k + 1 => by
    obtain ⟨h1, h2, h3, h4⟩ := wz_in ht h k
    unfold wz
    dsimp only
    rw [Int.pow_succ]
    generalize (wz t a b c k).1 = x at *
    generalize (wz t a b c k).2.1 = y at *
    generalize (wz t a b c k).2.2 = z at *
    have e1 : 0 ≤ (x + y + z) * (10 - t) := Int.mul_nonneg (by omega) (by omega)
    have e2 : 0 ≤ x * t := Int.mul_nonneg h1 ht.1
    have e3 : 0 ≤ y * t := Int.mul_nonneg h2 ht.1
    have e4 : 0 ≤ z * t := Int.mul_nonneg h3 ht.1
    have e5 : (x + y + z) * (10 - t) = 10 * (x + y + z) - (x * t + y * t + z * t) := by
      rw [Int.mul_sub, Int.mul_comm _ 10, Int.add_mul, Int.add_mul]
    omega
theorem ph_in (v : Nat → Int) (hv : 0 ≤ v 1) : 0 ≤ ph v 0 ∧ 0 ≤ ph v 1 ∧ 0 ≤ ph v 2 ∧ ph v 0 + ph v 1 + ph v 2 ≤ 1 := by unfold ph; omega
theorem ways_in {v : Nat → Int} (hv : 0 ≤ v 1) {x : Nat} {t : Int} (ht : 0 ≤ t ∧ t ≤ 10) : 0 ≤ waysZ v x t ∧ waysZ v x t ≤ 10 ^ x := by
  have hp : (0 : Int) ≤ 10 ^ x := Int.le_of_lt (Int.pow_pos (by decide))
  unfold waysZ
  split
  · omega
  · have := wz_in ht (ph_in v hv) x
    omega
def oddZ (v : Nat → Int) (x : Nat) (t y : Int) : Int := (if y = 0 then 10 ^ x - waysZ v x t else 10 ^ x) / gcdZ (10 ^ x) (10 ^ x - waysZ v x t)
def oddsR (n z x t y : Int) (pv : Nat → Nat → Int) : Int := if 0 ≤ z ∧ z < n then (if (1 ≤ x ∧ x ≤ 8) ∧ (0 ≤ t ∧ t ≤ 10) ∧ (0 ≤ y ∧ y ≤ 1) then oddZ (pv z.toNat) x.toNat t y else -102) else -101
theorem p10_le {x : Nat} (h : x ≤ 8) : (0 : Int) < 10 ^ x ∧ (10 : Int) ^ x ≤ 100000000 := by
  rcases (show x = 0 ∨ x = 1 ∨ x = 2 ∨ x = 3 ∨ x = 4 ∨ x = 5 ∨ x = 6 ∨ x = 7 ∨ x = 8 by omega) with q | q | q | q | q | q | q | q | q <;> subst q <;> decide
theorem gcdZ_pos {a b : Int} (h : 0 < a) : 0 < gcdZ a b := by
  unfold gcdZ
  have : 0 < Nat.gcd a.toNat b.toNat := Nat.gcd_pos_of_pos_left _ (by omega)
  omega
theorem gcdZ_le {a b : Int} (h : 0 < a) : gcdZ a b ≤ a := by
  unfold gcdZ
  have := Nat.gcd_le_left b.toNat (show 0 < a.toNat by omega)
  omega
def popZ (z : Int) : Int := ((popN 16 z.toNat : Nat) : Int)
def lwZ (f c : Int) : Int := max 1 (popZ (f / 2 ^ (min c 16).toNat))
def lookL (w : Nat → Int) : Nat → Int × Int
  | 0 => (-1, 17)
  | k + 1 => if w (k + 1) < (lookL w k).2 then (((k + 1 : Nat) : Int), w (k + 1)) else lookL w k
def lookZ (f r : Int) : Int := if f = 0 then -1 else (lookL (fun h => lwZ f ((h : Int) * r)) 12).1
theorem popN_le : ∀ (k n : Nat), popN k n ≤ k
  | 0, _ => Nat.le_refl 0
  | k + 1, n => by unfold popN; have := popN_le k (n / 2); omega
theorem lwZ_in (f c : Int) : 1 ≤ lwZ f c ∧ lwZ f c ≤ 16 := by
  have := popN_le 16 (f / 2 ^ (min c 16).toNat).toNat
  unfold lwZ popZ
  omega
def panR (n z x k : Int) (pv : Nat → Nat → Int) (s1 s2 s3 : Nat → Int) : Int := if 0 ≤ z ∧ z < n then (if 0 ≤ x ∧ x ≤ 3 then muchP (pv z.toNat) x else if x = 4 then pv z.toNat 0 else if x = 5 then pv z.toNat 1 else if x = 6 then topP (pv z.toNat) else if x = 7 then fatsZ s1 s2 s3 k z (pv z.toNat) 16 else if x = 8 then lookZ (fatsZ s1 s2 s3 k z (pv z.toNat) 16) (1 + pv z.toNat 0) else -102) else -101
-- two children
def Wk2 (X : zX) (n : Nat) (co : Nat → Nat) (kd : Nat → Nat) (ch ck : Nat → Nat) (fh fk : Nat → Nat → Int) (i j : Nat) : va_W := (((List.range n).erase i).erase j).flatMap (fun i => Wchild X (co i) (kd i) (ch i) (ck i) (fh i) (fk i))
theorem kid_foc2 {X : zX} {n : Nat} {co kd ch ck : Nat → Nat} {fh fk : Nat → Nat → Int} {i j : Nat} (hi : i < n) (hj : j < n) (hij : j ≠ i) : (Wkids X n co kd ch ck fh fk).Perm (zb [Wchild X (co i) (kd i) (ch i) (ck i) (fh i) (fk i), Wchild X (co j) (kd j) (ch j) (ck j) (fh j) (fk j), Wk2 X n co kd ch ck fh fk i j]) := by
  refine (kid_foc hi).trans ?_
  simp only [zb, List.flatten_cons, List.flatten_nil, List.append_nil]
  refine List.Perm.append_left _ ?_
  have hm : j ∈ (List.range n).erase i := by
    rw [List.nodup_range.mem_erase_iff]
    exact ⟨hij, List.mem_range.mpr hj⟩
  have := perm_flatMap (fun i => Wchild X (co i) (kd i) (ch i) (ck i) (fh i) (fk i)) (List.perm_cons_erase hm)
  rw [List.flatMap_cons] at this
  exact this
-- nights
def nsd (z : Int) : Int := (1103515245 * z + 12345) % 2147483648
theorem nsd_in (z : Int) : 0 ≤ nsd z ∧ nsd z < 2147483648 := by unfold nsd; omega
def NZ (t n : Int) (kd : Nat → Nat) (z : Int) (pv : Nat → Nat → Int) : Nat → Int × Int × Int × (Nat → Nat → Int)
  | 0 => (z, 0, 0, pv)
  | k + 1 => if nsd (NZ t n kd z pv k).1 / 65536 % 2 = 0 then (nsd (NZ t n kd z pv k).1, (NZ t n kd z pv k).2.1, (NZ t n kd z pv k).2.2.1, wtS n (NZ t n kd z pv k).2.2.2)
    else (nsd (nsd (nsd (NZ t n kd z pv k).1)), (NZ t n kd z pv k).2.1 + (if topP ((NZ t n kd z pv k).2.2.2 (nsd (nsd (nsd (NZ t n kd z pv k).1)) / 65536 % n).toNat) = 2 then 1 else 0),
      (NZ t n kd z pv k).2.2.1 + wOf (kd (nsd (nsd (NZ t n kd z pv k).1) / 65536 % t).toNat) (topP ((NZ t n kd z pv k).2.2.2 (nsd (nsd (nsd (NZ t n kd z pv k).1)) / 65536 % n).toNat)),
      tkS (NZ t n kd z pv k).2.2.2 (nsd (nsd (nsd (NZ t n kd z pv k).1)) / 65536 % n).toNat)
def nightsR (t n d x z y : Int) (kd : Nat → Nat) (pv : Nat → Nat → Int) : Int := if (1 ≤ x ∧ x ≤ 60) ∧ 0 ≤ z ∧ (0 ≤ y ∧ y ≤ 2) then (if d ≤ 0 then -103 else if y = 2 then (NZ t n kd z pv x.toNat).1 else if y = 0 then (NZ t n kd z pv x.toNat).2.1 else (NZ t n kd z pv x.toNat).2.2.1) else -102
theorem NZ_seed {t n : Int} {kd : Nat → Nat} {z : Int} {pv : Nat → Nat → Int} (h : 0 ≤ z ∧ z < 2147483648) : ∀ k : Nat, 0 ≤ (NZ t n kd z pv k).1 ∧ (NZ t n kd z pv k).1 < 2147483648
  | 0 => h
  | k + 1 => by
    unfold NZ
    split
    · exact nsd_in _
    · exact nsd_in _
theorem NZ_h {t n : Int} {kd : Nat → Nat} {z : Int} {pv : Nat → Nat → Int} {k : Nat} (h : nsd (NZ t n kd z pv k).1 / 65536 % 2 = 0) : NZ t n kd z pv (k + 1) = (nsd (NZ t n kd z pv k).1, (NZ t n kd z pv k).2.1, (NZ t n kd z pv k).2.2.1, wtS n (NZ t n kd z pv k).2.2.2) := by
  conv => lhs; unfold NZ
  rw [if_pos h]
theorem NZ_s {t n : Int} {kd : Nat → Nat} {z : Int} {pv : Nat → Nat → Int} {k : Nat} (h : ¬ nsd (NZ t n kd z pv k).1 / 65536 % 2 = 0) : NZ t n kd z pv (k + 1) = (nsd (nsd (nsd (NZ t n kd z pv k).1)), (NZ t n kd z pv k).2.1 + (if topP ((NZ t n kd z pv k).2.2.2 (nsd (nsd (nsd (NZ t n kd z pv k).1)) / 65536 % n).toNat) = 2 then 1 else 0),
      (NZ t n kd z pv k).2.2.1 + wOf (kd (nsd (nsd (NZ t n kd z pv k).1) / 65536 % t).toNat) (topP ((NZ t n kd z pv k).2.2.2 (nsd (nsd (nsd (NZ t n kd z pv k).1)) / 65536 % n).toNat)),
      tkS (NZ t n kd z pv k).2.2.2 (nsd (nsd (nsd (NZ t n kd z pv k).1)) / 65536 % n).toNat) := by
  conv => lhs; unfold NZ
  rw [if_neg h]
theorem prod0 {x y : Nat} (hx : x ≤ 100000000) (hy : y ≤ 100000000) : x * y * 2 ^ 0 ≤ 10000000000000000 := by
  have := Nat.mul_le_mul hx hy
  omega
def NIv (t n : Int) (kd : Nat → Nat) (z : Int) (pv : Nat → Nat → Int) (i : Nat) (V : Nat → Nat → Int) : Prop := PanS V ∧ (∀ j, j < n.toNat → PanG (2000 + i) (V j)) ∧ ∀ j, j < n.toNat → V j = (NZ t n kd z pv i).2.2.2 j
theorem nz_0 {t n : Int} {kd : Nat → Nat} {z : Int} {pv tpv : Nat → Nat → Int} (hpv : PanS pv) (htp : PanS tpv) (hpg : ∀ j, j < n.toNat → PanG 2000 (pv j)) : NIv t n kd z pv 0 (catTo pv tpv n.toNat) := by
  refine ⟨fun j hj => ?_, fun j hj => ?_, fun j hj => ?_⟩
  · unfold catTo
    split
    · exact hpv j hj
    · exact htp j hj
  · unfold catTo
    rw [if_pos hj]
    exact hpg j hj
  · unfold catTo
    rw [if_pos hj]
    rfl
theorem nz_h {t n : Int} {kd : Nat → Nat} {z : Int} {pv V : Nat → Nat → Int} {i : Nat} (hn : 0 ≤ n ∧ n ≤ 3) (h : NIv t n kd z pv i V) (hi : i ≤ 1000) (hd : nsd (NZ t n kd z pv i).1 / 65536 % 2 = 0) : NIv t n kd z pv (i + 1) (catTo (fun j => hourP (V j)) V n.toNat) := by
  obtain ⟨h1, h2, h3⟩ := h
  refine ⟨fun j hj => ?_, fun j hj => ?_, fun j hj => ?_⟩
  · unfold catTo
    split
    · rename_i q
      exact (PanB_hour (by omega) (h2 j q)).1
    · exact h1 j hj
  · unfold catTo
    rw [if_pos hj]
    have := PanB_hour (by omega) (h2 j hj)
    rw [show (2000 : Int) + ((i + 1 : Nat) : Int) = 2000 + i + 1 by omega]
    exact this
  · rw [NZ_h hd]
    unfold wtS catTo
    dsimp only
    rw [if_pos hj, if_pos hj, h3 j hj]
theorem nz_s {t n : Int} {kd : Nat → Nat} {z : Int} {pv V : Nat → Nat → Int} {i : Nat} {now : Int} (hn : 0 ≤ n ∧ n ≤ 3) (h : NIv t n kd z pv i V) (hi : i ≤ 1000) (hd : ¬ nsd (NZ t n kd z pv i).1 / 65536 % 2 = 0) (hw : now = (NZ t n kd z pv i).1) (hp : (nsd (nsd (nsd now)) / 65536 % n).toNat < n.toNat) : NIv t n kd z pv (i + 1) (va_up V (nsd (nsd (nsd now)) / 65536 % n).toNat (takeP (V (nsd (nsd (nsd now)) / 65536 % n).toNat))) := by
  obtain ⟨h1, h2, h3⟩ := h
  have hg : ∀ j, j < n.toNat → PanG (2000 + ((i + 1 : Nat) : Int)) (V j) := fun j hj => ⟨(h2 j hj).1, by have := (h2 j hj).2; omega⟩
  refine ⟨fun j hj => ?_, fun j hj => ?_, fun j hj => ?_⟩
  · unfold va_up
    split
    · exact (PanB_take (N := 2000 + ((i + 1 : Nat) : Int)) (by omega) (hg _ hp)).1
    · exact h1 j hj
  · unfold va_up
    split
    · exact PanB_take (by omega) (hg _ hp)
    · exact hg j hj
  · rw [NZ_s hd]
    dsimp only
    rw [← hw]
    unfold tkS va_up
    split
    · rw [h3 _ hp]
    · exact h3 j hj
