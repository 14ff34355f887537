-- the TREATY's own rows: a ahead, b for a, d for b; x best, y its pan
def Wtr (X : zX) (o a b d : Nat) (x y : Int) (fa fA fB : Nat → Int) : va_W := [(o, .inr (9, [.ref a, .ref b, .ref d, .int (iI x), .int (iI y)])), (a, zArr (X.2.1 2) 441 fa), (b, zArr (X.2.1 2) 63 fA), (d, zArr (X.2.1 2) 63 fB)]
def lefT (v : Nat → Int) (z : Int) : Int := if z ≤ v 5 then 3 else if z ≤ v 5 + v 3 then 1 else 2
def layF (k : Nat) (v : Nat → Int) (u m : Nat) (f : Nat → Int) : Nat → Int := fun j => if u * 21 < j ∧ j ≤ u * 21 + m then wOf k (lefT v ((j : Int) - (u * 21 : Nat))) else f j
theorem layF_0 (k : Nat) (v : Nat → Int) (u : Nat) (f : Nat → Int) : layF k v u 0 f = f := by
  funext j
  exact if_neg (by omega)
theorem layF_step (k : Nat) (v : Nat → Int) (u m : Nat) (f : Nat → Int) (z : Int) (hz : z = wOf k (lefT v ((m + 1 : Nat) : Int))) : updZ (layF k v u m f) (u * 21 + (m + 1)) z = layF k v u (m + 1) f := by
  funext j
  unfold updZ layF
  by_cases h : j = u * 21 + (m + 1)
  · rw [if_pos h, if_pos (by omega), hz]
    congr 2
    omega
  · rw [if_neg h]
    by_cases q : u * 21 < j ∧ j ≤ u * 21 + m
    · rw [if_pos q, if_pos (by omega)]
    · rw [if_neg q, if_neg (by omega)]
theorem wOf_in (k : Nat) (x : Int) : 0 ≤ wOf k x ∧ wOf k x ≤ 16 := by unfold wOf wC wF wB; omega
def TrB (f : Nat → Int) : Prop := ∀ j : Nat, 0 ≤ f j ∧ f j ≤ 16
theorem layF_in {k : Nat} {v : Nat → Int} {u m : Nat} {f : Nat → Int} (h : TrB f) : TrB (layF k v u m f) := by
  intro j
  unfold layF
  split
  · exact wOf_in _ _
  · exact h j
def conB (tk u z x y : Int) : Int × Int := if y = -1 ∨ (tk = 1 ∧ x < z) ∨ (¬ tk = 1 ∧ z < x) then (z, u) else (x, y)
def vlT (tk z : Int) (fA fB : Nat → Int) (j : Nat) : Int := if tk = 1 then z + fA j else z - fB j
def wg1 (tk i z : Int) (fA fB : Nat → Int) : Int × Int := if 0 < i then conB tk 0 (vlT tk z fA fB (0 * 21 + i).toNat) 0 (-1) else (0, -1)
def wg2 (tk i z : Int) (fA fB : Nat → Int) (s : Int × Int) : Int × Int := if 0 < i then conB tk 1 (vlT tk z fA fB (1 * 21 + i).toNat) s.1 s.2 else s
def wg3 (tk i z : Int) (fA fB : Nat → Int) (s : Int × Int) : Int × Int := if 0 < i then conB tk 2 (vlT tk z fA fB (2 * 21 + i).toNat) s.1 s.2 else s
def wgh (tk i j k z0 z1 z2 : Int) (fA fB : Nat → Int) : Int × Int := wg3 tk k z2 fA fB (wg2 tk j z1 fA fB (wg1 tk i z0 fA fB))
theorem vlT_in {tk z : Int} {fA fB : Nat → Int} (j : Nat) (hA : TrB fA) (hB : TrB fB) (hz : -10000 ≤ z ∧ z ≤ 10000) : -10100 ≤ vlT tk z fA fB j ∧ vlT tk z fA fB j ≤ 10100 := by
  have h1 := hA j
  have h2 := hB j
  unfold vlT
  omega
theorem conB_in {tk u z x y : Int} (hu : 0 ≤ u ∧ u ≤ 2) (hz : -10100 ≤ z ∧ z ≤ 10100) (hx : (-100000 ≤ x ∧ x ≤ 100000) ∧ (-1 ≤ y ∧ y ≤ 2)) : (-100000 ≤ (conB tk u z x y).1 ∧ (conB tk u z x y).1 ≤ 100000) ∧ (-1 ≤ (conB tk u z x y).2 ∧ (conB tk u z x y).2 ≤ 2) := by
  unfold conB
  split
  · dsimp only; omega
  · dsimp only; omega
