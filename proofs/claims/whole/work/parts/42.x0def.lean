-- the class' own object and its row of children
def WX0 (X : zX) (ad : Nat → Nat) (st : Nat → Int) (ca : Nat → Option Nat) : va_W := [(ad 0, .inr (11, [.ref (ad 1), .ref (ad 3), .ref (ad 9), .int (iI (st 3)), .int (iI (st 4)), .ref (ad 5), .int (iI (st 6)), .int (iI (st 7)), .int (iI (st 8)), .int (iI (st 9)), .ref (ad 10), .ref (ad 12), .ref (ad 16), .ref (ad 18), .ref (ad 19), .ref (ad 30)])), (ad 9, zRef (X.2.1 3) 5 ca)]
def KidA (st : Nat → Int) (ca : Nat → Option Nat) (co : Nat → Nat) : Prop := (0 ≤ st 3 ∧ st 3 ≤ 5) ∧ ∀ i : Nat, i < (st 3).toNat → ca i = some (co i)
-- the children
def Wkids (X : zX) (n : Nat) (co : Nat → Nat) (kd : Nat → Nat) (ch ck : Nat → Nat) (fh fk : Nat → Nat → Int) : va_W := fam n (fun i => Wchild X (co i) (kd i) (ch i) (ck i) (fh i) (fk i))
def Wkx (X : zX) (n : Nat) (co : Nat → Nat) (kd : Nat → Nat) (ch ck : Nat → Nat) (fh fk : Nat → Nat → Int) (i : Nat) : va_W := famx n (fun i => Wchild X (co i) (kd i) (ch i) (ck i) (fh i) (fk i)) i
theorem kid_foc {X : zX} {n : Nat} {co kd ch ck : Nat → Nat} {fh fk : Nat → Nat → Int} {i : Nat} (hi : i < n) : (Wkids X n co kd ch ck fh fk).Perm (zb [Wchild X (co i) (kd i) (ch i) (ck i) (fh i) (fk i), Wkx X n co kd ch ck fh fk i]) := by
  simp only [zb, List.flatten_cons, List.flatten_nil, List.append_nil]
  exact fam_focus (g := fun i => Wchild X (co i) (kd i) (ch i) (ck i) (fh i) (fk i)) hi
theorem kid_unf {X : zX} {n : Nat} {co kd ch ck : Nat → Nat} {fh fk : Nat → Nat → Int} {i : Nat} (hi : i < n) (u t : Nat → Int) : (zb [Wchild X (co i) (kd i) (ch i) (ck i) u t, Wkx X n co kd ch ck fh fk i]).Perm (Wkids X n co kd ch ck (va_up fh i u) (va_up fk i t)) := by
  refine List.Perm.trans ?_ (kid_foc (fh := va_up fh i u) (fk := va_up fk i t) hi).symm
  have e1 : va_up fh i u i = u := by simp [va_up]
  have e3 : va_up fk i t i = t := by simp [va_up]
  have e2 : Wkx X n co kd ch ck (va_up fh i u) (va_up fk i t) i = Wkx X n co kd ch ck fh fk i := by
    unfold Wkx
    exact famx_cong (fun j _ hj => by simp [va_up, hj])
  rw [e1, e2, e3]
theorem Wkids_cong {X : zX} {n : Nat} {co kd ch ck : Nat → Nat} {fh fk fh' fk' : Nat → Nat → Int} (h : ∀ j, j < n → fh j = fh' j ∧ fk j = fk' j) : Wkids X n co kd ch ck fh fk = Wkids X n co kd ch ck fh' fk' := by
  unfold Wkids
  exact fam_cong (fun j hj => by rw [(h j hj).1, (h j hj).2])
def KidK (n : Nat) (kd : Nat → Nat) : Prop := ∀ j, j < n → KindOk (kd j)
-- what is answered and done, of pans
def inP (n z : Int) : Prop := 0 ≤ z ∧ z < n
def letterR (n z : Int) : Int := if 32 ≤ z ∧ z ≤ 126 then (if n = 24 then -104 else n + 1) else -102
def letterN (n z : Int) : Int := if 32 ≤ z ∧ z ≤ 126 then (if n = 24 then n else n + 1) else n
def letterF (n z : Int) (f : Nat → Int) : Nat → Int := if 32 ≤ z ∧ z ≤ 126 then (if n = 24 then f else updZ f n.toNat z) else f
def hourR (t u : Int) : Int := if t ≤ 0 then -103 else if 999 ≤ u then -104 else u + 1
def hourU (t u : Int) : Int := if t ≤ 0 then u else if 999 ≤ u then u else u + 1
def hourV (t u n : Int) (pv : Nat → Nat → Int) : Nat → Nat → Int := if t ≤ 0 then pv else if 999 ≤ u then pv else wtS n pv
def stirR (n z : Int) (pv : Nat → Nat → Int) : Int := if 0 ≤ z ∧ z < n then pv z.toNat 2 + pv z.toNat 3 + pv z.toNat 4 else -101
def stirV (n z : Int) (pv : Nat → Nat → Int) : Nat → Nat → Int := if 0 ≤ z ∧ z < n then va_up pv z.toNat (mixP (pv z.toNat)) else pv
def allP (v : Nat → Int) : Int := v 2 + (v 4 + v 3 + v 5)
def pourR (n z x y : Int) (pv : Nat → Nat → Int) : Int := if 0 ≤ z ∧ z < n then (if (0 ≤ x ∧ x ≤ 9) ∧ (0 ≤ y ∧ y ≤ 9) then (if 20 < allP (pv z.toNat) + x + y then -104 else allP (pv z.toNat) + x + y) else -102) else -101
def pourV (n z x y : Int) (pv : Nat → Nat → Int) : Nat → Nat → Int := if 0 ≤ z ∧ z < n then (if (0 ≤ x ∧ x ≤ 9) ∧ (0 ≤ y ∧ y ≤ 9) then (if 20 < allP (pv z.toNat) + x + y then pv else va_up pv z.toNat (pourP (pv z.toNat) x y)) else pv) else pv
def hoursP (v : Nat → Int) : Nat → (Nat → Int)
  | 0 => v
  | k + 1 => hourP (hoursP v k)
def laterR (n z x y : Int) (pv : Nat → Nat → Int) : Int := if 0 ≤ z ∧ z < n then (if (0 ≤ x ∧ x ≤ 40) ∧ (0 ≤ y ∧ y ≤ 3) then muchP (hoursP (pv z.toNat) x.toNat) y else -102) else -101
theorem hoursP_in {N : Int} {v : Nat → Int} (h : PanG N v) : ∀ k : Nat, N + k ≤ 100000 → PanG (N + k) (hoursP v k)
  | 0, _ => by unfold hoursP; simpa using h
  | k + 1, q => by
    have ih := hoursP_in h k (by omega)
    have := PanB_hour (by omega) ih
    rw [show N + ((k + 1 : Nat) : Int) = N + k + 1 by omega]
    exact this
