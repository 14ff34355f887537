-- a CHILD: its object, what it had, what was kept of it; k its kind
def kci (k : Nat) : Nat := if k = 0 then 0 else if k = 1 then 1 else if k = 2 then 6 else if k = 3 then 10 else 2
def Wchild (X : zX) (o : Nat) (k : Nat) (a b : Nat) (fh fk : Nat → Int) : va_W := [(o, .inr (kci k, [.ref a, .ref b])), (a, zArr (X.2.1 2) 4 fh), (b, zArr (X.2.1 2) 4 fk)]
def KindOk (k : Nat) : Prop := k = 0 ∨ k = 1 ∨ k = 2 ∨ k = 3 ∨ k = 4
def wC (k : Nat) : Int := if k = 1 then 4 else if k = 2 then 1 else if k = 4 then 0 else 2
def wF (k : Nat) : Int := if k = 3 then 8 else if k = 4 then 16 else 4
def wB (k : Nat) : Int := if k = 1 then 0 else if k = 2 then 2 else if k = 4 then 0 else 1
def wOf (k : Nat) (x : Int) : Int := if x = 1 then wC k else if x = 2 then wF k else if x = 3 then wB k else 0
def wAll (k : Nat) (f : Nat → Int) : Int := f 1 * wC k + f 2 * wF k + f 3 * wB k
def hadZ (f : Nat → Int) (x : Int) : Int := if 1 ≤ x ∧ x ≤ 3 then f x.toNat else 0
def haveZ (f : Nat → Int) (x : Int) : Nat → Int := if 1 ≤ x ∧ x ≤ 3 then updZ f x.toNat (f x.toNat + 1) else f
-- SIGHTS
def Wsig (X : zX) (o a b d : Nat) (n : Int) (f1 f2 f3 : Nat → Int) : va_W := [(o, .inr (8, [.ref a, .ref b, .ref d, .int (iI n)])), (a, zArr (X.2.1 2) 6 f1), (b, zArr (X.2.1 2) 6 f2), (d, zArr (X.2.1 2) 6 f3)]
def canZ (f1 f2 f3 : Nat → Int) (u : Int) (v : Nat → Int) (x : Int) : Nat → Int
  | 0 => 1
  | k + 1 => if f1 k = u ∧ ¬ risenP v (f2 k) x = f3 k then 0 else canZ f1 f2 f3 u v x k
theorem canZ_no {f1 f2 f3 : Nat → Int} {u : Int} {v : Nat → Int} {x : Int} {i : Nat} (h1 : f1 i = u) (h2 : ¬ risenP v (f2 i) x = f3 i) : ∀ {k : Nat}, i < k → canZ f1 f2 f3 u v x k = 0
  | 0, q => absurd q (Nat.not_lt_zero _)
  | k + 1, q => by
    unfold canZ
    by_cases e : i = k
    · rw [if_pos (by rw [← e]; exact ⟨h1, h2⟩)]
    · split
      · rfl
      · exact canZ_no h1 h2 (by omega)
theorem canZ_01 (f1 f2 f3 : Nat → Int) (u : Int) (v : Nat → Int) (x : Int) : ∀ k : Nat, canZ f1 f2 f3 u v x k = 0 ∨ canZ f1 f2 f3 u v x k = 1
  | 0 => Or.inr rfl
  | k + 1 => by
    unfold canZ
    split
    · exact Or.inl rfl
    · exact canZ_01 f1 f2 f3 u v x k
def fatsZ (f1 f2 f3 : Nat → Int) (n : Int) (u : Int) (v : Nat → Int) : Nat → Int
  | 0 => 0
  | k + 1 => if canZ f1 f2 f3 u v k n.toNat = 0 then fatsZ f1 f2 f3 n u v k else fatsZ f1 f2 f3 n u v k + 2 ^ k
theorem fatsZ_in (f1 f2 f3 : Nat → Int) (n : Int) (u : Int) (v : Nat → Int) : ∀ k : Nat, 0 ≤ fatsZ f1 f2 f3 n u v k ∧ fatsZ f1 f2 f3 n u v k < 2 ^ k
  | 0 => by unfold fatsZ; decide
  | k + 1 => by
    have ih := fatsZ_in f1 f2 f3 n u v k
    unfold fatsZ
    rw [Int.pow_succ]
    split <;> omega
def SigB (n : Int) (f1 f2 f3 : Nat → Int) : Prop := (0 ≤ n ∧ n ≤ 6) ∧ ∀ j : Nat, j < 6 → (0 ≤ f1 j ∧ f1 j ≤ 2) ∧ (0 ≤ f2 j ∧ f2 j ≤ 12) ∧ (0 ≤ f3 j ∧ f3 j ≤ 40)
theorem risenP_in {v : Nat → Int} {n x : Int} (hv : PanB v) (hn : 0 ≤ n ∧ n ≤ 100) (hx : 0 ≤ x ∧ x ≤ 100) : 0 ≤ risenP v n x ∧ risenP v n x ≤ 200 := by
  obtain ⟨⟨h00, h01⟩, ⟨h10, h11⟩, h2, h3, h4, h5, h6⟩ := hv
  have hm : 0 ≤ n * (1 + v 0) := Int.mul_nonneg hn.1 (by omega)
  unfold risenP
  omega
