-- a PAN: 0 sill, 1 still, 2 fat, 3 cream, 4 film, 5 blue
def Wpan (a : Nat) (v : Nat → Int) : va_W := [(a, .inr (4, [.int (iI (v 0)), .int (iI (v 1)), .int (iI (v 2)), .int (iI (v 3)), .int (iI (v 4)), .int (iI (v 5))]))]
def mkP (a b c d e f : Int) : Nat → Int := fun i => if i = 0 then a else if i = 1 then b else if i = 2 then c else if i = 3 then d else if i = 4 then e else f
def PanB (v : Nat → Int) : Prop := (0 ≤ v 0 ∧ v 0 ≤ 2) ∧ (0 ≤ v 1 ∧ v 1 ≤ 100000) ∧ 0 ≤ v 2 ∧ 0 ≤ v 3 ∧ 0 ≤ v 4 ∧ 0 ≤ v 5 ∧ v 2 + v 3 + v 4 + v 5 ≤ 20
theorem Wpan_congr {a : Nat} {u v : Nat → Int} (h : u 0 = v 0 ∧ u 1 = v 1 ∧ u 2 = v 2 ∧ u 3 = v 3 ∧ u 4 = v 4 ∧ u 5 = v 5) : Wpan a u = Wpan a v := by
  obtain ⟨h0, h1, h2, h3, h4, h5⟩ := h
  unfold Wpan
  rw [h0, h1, h2, h3, h4, h5]
theorem zPan_congr {a : Nat} {u v : Nat → Int} (h : u 0 = v 0 ∧ u 1 = v 1 ∧ u 2 = v 2 ∧ u 3 = v 3 ∧ u 4 = v 4 ∧ u 5 = v 5) : zb [Wpan a u] = zb [Wpan a v] := by rw [Wpan_congr h]
theorem mkP_0 (a b c d e f : Int) : mkP a b c d e f 0 = a := rfl
theorem mkP_1 (a b c d e f : Int) : mkP a b c d e f 1 = b := rfl
theorem mkP_2 (a b c d e f : Int) : mkP a b c d e f 2 = c := rfl
theorem mkP_3 (a b c d e f : Int) : mkP a b c d e f 3 = d := rfl
theorem mkP_4 (a b c d e f : Int) : mkP a b c d e f 4 = e := rfl
theorem mkP_5 (a b c d e f : Int) : mkP a b c d e f 5 = f := rfl
def topP (v : Nat → Int) : Int := if 0 < v 4 then 2 else if 0 < v 3 then 1 else if 0 < v 5 then 3 else -1
def hourP (v : Nat → Int) : Nat → Int := mkP (v 0) (v 1 + 1) (v 2 - min (v 2) (1 + v 0))
  (if (v 1 + 1) % 3 = 0 ∧ 0 < v 3 + min (v 2) (1 + v 0) then v 3 + min (v 2) (1 + v 0) - 1 else v 3 + min (v 2) (1 + v 0))
  (if (v 1 + 1) % 3 = 0 ∧ 0 < v 3 + min (v 2) (1 + v 0) then v 4 + 1 else v 4) (v 5)
def takeP (v : Nat → Int) : Nat → Int := mkP (v 0) (if topP v = -1 then v 1 else 0) (v 2) (if topP v = 1 then v 3 - 1 else v 3) (if topP v = 2 then v 4 - 1 else v 4) (if topP v = 3 then v 5 - 1 else v 5)
def mixP (v : Nat → Int) : Nat → Int := mkP (v 0) 0 (v 2 + v 3 + v 4) 0 0 (v 5)
def pourP (v : Nat → Int) (f b : Int) : Nat → Int := mkP (v 0) 0 (v 2 + f) (v 3) (v 4) (v 5 + b)
def muchP (v : Nat → Int) (k : Int) : Int := if k = 0 then v 2 else if k = 1 then v 3 else if k = 2 then v 4 else v 5
def risenP (v : Nat → Int) (n f : Int) : Int := v 3 + v 4 + min f (n * (1 + v 0))
theorem topP_in (v : Nat → Int) : (topP v = -1 ∨ topP v = 1 ∨ topP v = 2 ∨ topP v = 3) ∧ -1 ≤ topP v ∧ topP v ≤ 3 := by unfold topP; omega
