def isK (k : Nat) (z : Int) : Int := if z = 0 ∨ z = (k : Int) ∨ (z = 3 ∧ k = 4) then 1 else 0
theorem isK_01 (k : Nat) (z : Int) : isK k z = 0 ∨ isK k z = 1 := by unfold isK; omega
def asR (t z x : Int) (kd : Nat → Nat) : Int := if 0 ≤ z ∧ z < t then (if 0 ≤ x ∧ x ≤ 4 then (if isK (kd z.toNat) x = 0 then -1 else z) else -102) else -101
def childR (t z x : Int) (kd : Nat → Nat) (fh : Nat → Nat → Int) : Int := if 0 ≤ z ∧ z < t then (if x = 0 then (kd z.toNat : Int) else if 1 ≤ x ∧ x ≤ 3 then fh z.toNat x.toNat else if x = 4 then wAll (kd z.toNat) (fh z.toNat) else if 11 ≤ x ∧ x ≤ 13 then wOf (kd z.toNat) (x - 10) else -102) else -101
/-- one SKIMS a PAN -/
def skimR (t n z x : Int) (pv fh : Nat → Nat → Int) : Int := if (0 ≤ z ∧ z < t) ∧ (0 ≤ x ∧ x < n) then (if topP (pv x.toNat) = -1 then -103 else if 99 ≤ fh z.toNat (topP (pv x.toNat)).toNat then -104 else topP (pv x.toNat)) else -101
def skimB (t n z x : Int) (pv fh : Nat → Nat → Int) : Prop := ((0 ≤ z ∧ z < t) ∧ (0 ≤ x ∧ x < n)) ∧ ¬ topP (pv x.toNat) = -1 ∧ ¬ 99 ≤ fh z.toNat (topP (pv x.toNat)).toNat
def skimV (t n z x : Int) (pv fh : Nat → Nat → Int) : Nat → Nat → Int := if 0 < skimR t n z x pv fh then va_up pv x.toNat (takeP (pv x.toNat)) else pv
def skimH (t n z x : Int) (pv fh : Nat → Nat → Int) : Nat → Nat → Int := if 0 < skimR t n z x pv fh then va_up fh z.toNat (haveZ (fh z.toNat) (topP (pv x.toNat))) else fh
def HadB (n : Nat) (fh : Nat → Nat → Int) : Prop := ∀ j, j < n → ∀ i, 0 ≤ fh j i ∧ fh j i ≤ 99
def seeR (n z x y k : Int) : Int := if 0 ≤ z ∧ z < n then (if (1 ≤ x ∧ x ≤ 12) ∧ (0 ≤ y ∧ y ≤ 40) then (if 6 ≤ k then -104 else k + 1) else -102) else -101
def seeN (n z x y k : Int) : Int := if 0 < seeR n z x y k then k + 1 else k
def seeF (n z x y k w : Int) (f : Nat → Int) : Nat → Int := if 0 < seeR n z x y k then updZ f k.toNat w else f
def worthA (t : Int) (kd : Nat → Nat) (fh : Nat → Nat → Int) : Int := sumZ (fun j => wAll (kd j) (fh j)) t.toNat
def filmA (t : Int) (fh : Nat → Nat → Int) : Int := sumZ (fun j => fh j 2) t.toNat
def countR (z n t u k pn dr td : Int) (pv fh : Nat → Nat → Int) (kd : Nat → Nat) : Int :=
  if z = 0 then n else if z = 1 then t else if 2 ≤ z ∧ z ≤ 5 then sumZ (fun j => muchP (pv j) (z - 2)) n.toNat else if z = 6 then u else if z = 7 then worthA t kd fh else if z = 8 then filmA t fh else if z = 9 then k else if z = 10 then pn else if z = 11 then dr else if z = 12 then td else -102
def keepK (fh fk : Nat → Nat → Int) (n : Nat) : Nat → Nat → Int := catTo (fun j => catZ (fh j) (fk j) 4) fk n
def planR (t z x y n : Int) (kd : Nat → Nat) (pv : Nat → Nat → Int) : Int := if 0 ≤ z ∧ z < t then (if (1 ≤ x ∧ x ≤ 4) ∧ (y = 0 ∨ (10 ≤ y ∧ y ≤ 13)) then (if y = 0 then (PL (kd z.toNat) n x.toNat pv).1 else ((PL (kd z.toNat) n x.toNat pv).2 / 4 ^ (y - 10).toNat) % 4 - 1) else -102) else -101
def thS (n : Int) (pv : Nat → Nat → Int) : Nat := thZ n pv 0 + thZ n pv 1 + thZ n pv 2
def trV (n : Int) (pv : Nat → Nat → Int) (k1 k2 : Nat) : Int × Int := V3 (uOf k1 pv) (uOf k2 pv) (thZ n pv 0 + thZ n pv 1 + thZ n pv 2) (thZ n pv 0) (thZ n pv 1) (thZ n pv 2)
def treatyR (t z x y n k : Int) (kd : Nat → Nat) (pv : Nat → Nat → Int) : Int := if (0 ≤ z ∧ z < t) ∧ (0 ≤ x ∧ x < t) ∧ ¬ z = x then (if 0 ≤ y ∧ y ≤ 1 then (if 40 ≤ k then -103 else if y = 0 then 1000 + (trV n pv (kd z.toNat) (kd x.toNat)).1 else (trV n pv (kd z.toNat) (kd x.toNat)).2) else -102) else -101
def treatyN (t z x y k : Int) : Int := if (0 ≤ z ∧ z < t) ∧ (0 ≤ x ∧ x < t) ∧ ¬ z = x then (if 0 ≤ y ∧ y ≤ 1 then (if 40 ≤ k then k else k + 1) else k) else k
theorem updZ_id (f : Nat → Int) (k : Nat) : updZ f k (f k) = f := by
  funext j
  unfold updZ
  split
  · rename_i q; rw [q]
  · rfl
theorem p4_le4 {r : Nat} (h : r ≤ 4) : (4 : Int) ^ r ≤ 256 := by
  rcases (show r = 0 ∨ r = 1 ∨ r = 2 ∨ r = 3 ∨ r = 4 by omega) with q | q | q | q | q <;> subst q <;> decide
