-- THE PAGE: its object, its letters; n how many, then what is expected, how many pans and children were read
def Wpage (X : zX) (o b : Nat) (n x y t : Int) (f : Nat → Int) : va_W := [(o, .inr (3, [.ref b, .int (iI n), .int (iI x), .int (iI y), .int (iI t)])), (b, zArr (X.2.1 1) 24 f)]
def PageB (n : Int) (f : Nat → Int) : Prop := (0 ≤ n ∧ n ≤ 24) ∧ ∀ j : Nat, 0 ≤ f j ∧ f j ≤ 126
def atZ (f : Nat → Int) (n z : Int) : Int := if 0 ≤ z ∧ z < n then f z.toNat else 0
theorem atZ_in {f : Nat → Int} {n : Int} (h : PageB n f) (z : Int) : 0 ≤ atZ f n z ∧ atZ f n z ≤ 126 := by
  unfold atZ
  split
  · exact h.2 _
  · omega
def exB (x y t z : Int) : Int :=
  if x = 0 then (if idx0 z < 0 then -1 else 1)
  else if x = 1 then (if 48 ≤ z ∧ z ≤ 57 then 2 else -1)
  else if x = 2 then (if 48 ≤ z ∧ z ≤ 57 then 3 else -1)
  else if x = 3 then (if z = 59 then 4 else if z = 44 ∧ y < 3 then 0 else -1)
  else if x = 4 then (if idx1 z < 0 then -1 else 5)
  else (if z = 44 ∧ t < 5 then 4 else -1)
theorem idx0_in (z : Int) : -1 ≤ idx0 z ∧ idx0 z ≤ 2 := by unfold idx0; omega
theorem idx1_in (z : Int) : -1 ≤ idx1 z ∧ idx1 z ≤ 4 := by unfold idx1; omega
theorem exB_in (x y t z : Int) : -1 ≤ exB x y t z ∧ exB x y t z ≤ 5 := by unfold exB; omega
/-- the reading of a page: k letters are left, at the place i -/
def scanP (f : Nat → Int) : Nat → Nat → Int → Int → Int → Int × Int × Int × Int
  | 0, i, x, y, t => ((i : Int), x, y, t)
  | k + 1, i, x, y, t => if exB x y t (f i) = -1 then ((i : Int), x, y, t) else scanP f k (i + 1) (exB x y t (f i)) (y + (if exB x y t (f i) = 3 then 1 else 0)) (t + (if exB x y t (f i) = 5 then 1 else 0))
theorem scanP_stop {f : Nat → Int} {k i : Nat} {x y t : Int} (h : exB x y t (f i) = -1) : scanP f k i x y t = ((i : Int), x, y, t) := by
  cases k with
  | zero => rfl
  | succ k => unfold scanP; rw [if_pos h]
theorem scanP_go {f : Nat → Int} {k i : Nat} {x y t : Int} (h : ¬ exB x y t (f i) = -1) : scanP f (k + 1) i x y t = scanP f k (i + 1) (exB x y t (f i)) (y + (if exB x y t (f i) = 3 then 1 else 0)) (t + (if exB x y t (f i) = 5 then 1 else 0)) := by
  conv => lhs; unfold scanP
  rw [if_neg h]
section ZP
variable {p : Program} {l : Launch} {e : Env} {R : Room} {s : State} {m : MethodId} {args : Array Value} {below : List Frame} {meth : Method} {c : Code} {H : Heap} {locs : List Loc} {cells slots : Nat} {Q : State → Prop}
variable {cc : ByteArray} {pc : Nat} {ls : Array Slot} {rest : List Value} {X : zX} {A : Nat → Prop} {w : va_W} {q : Nat} {f : Nat → Int} {n : Nat} {z x : Int}
theorem z_cast (hx : p.tables.exec = Jvm.exec) (hb : c.code = cc) (hK : zKV X s) (hP : va_P X.1 vwCl w H) (hD : va_D A w) (hS : va_S A s.heap H locs) (q0 : Nat) (ha : w[q0]? = some (q, zArr (X.2.1 1) n f)) (hi : 0 ≤ z ∧ z < n ∧ n < 2147483648) (hv : 0 ≤ x ∧ x < 65536) (hdg : decode cc pc = .ok (.castore, 1))
    (kk : ∀ (H1 : Heap) (locs1 : List Loc), va_P X.1 vwCl (w.set q0 (q, zArr (X.2.1 1) n (updZ f z.toNat x))) H1 → va_D A (w.set q0 (q, zArr (X.2.1 1) n (updZ f z.toNat x))) → va_S A s.heap H1 locs1 → W p l e R s m args below meth c H1 locs1 cells slots Q (F0 m (pc + 1) ls rest)) : W p l e R s m args below meth c H locs cells slots Q (F0 m pc ls (.int (iI x) :: .int (iI z) :: .ref q :: rest)) :=
  va_cast hx hb hK hP hD hS q0 1 ha rfl (iI_in hi) hdg (by
    have e : vp_nar .char (iI x) = iI x := by
      obtain ⟨k, rfl⟩ := Int.eq_ofNat_of_zero_le hv.1
      have h1 := pk_charN (q := k) (by omega)
      have h2 : narrow .char (.int (iI (k : Int))) = .int (iI (k : Int)) := h1.1
      unfold vp_nar
      rw [h2]
    rw [iI_clamp ⟨by omega, by omega⟩, e, upd_iI]; exact kk)
theorem z_bast (hx : p.tables.exec = Jvm.exec) (hb : c.code = cc) (hK : zKV X s) (hP : va_P X.1 vwCl w H) (hD : va_D A w) (hS : va_S A s.heap H locs) (q0 : Nat) (ha : w[q0]? = some (q, zArr (X.2.1 0) n f)) (hi : 0 ≤ z ∧ z < n ∧ n < 2147483648) (hv : -128 ≤ x ∧ x < 128) (hdg : decode cc pc = .ok (.bastore, 1))
    (kk : ∀ (H1 : Heap) (locs1 : List Loc), va_P X.1 vwCl (w.set q0 (q, zArr (X.2.1 0) n (updZ f z.toNat x))) H1 → va_D A (w.set q0 (q, zArr (X.2.1 0) n (updZ f z.toNat x))) → va_S A s.heap H1 locs1 → W p l e R s m args below meth c H1 locs1 cells slots Q (F0 m (pc + 1) ls rest)) : W p l e R s m args below meth c H locs cells slots Q (F0 m pc ls (.int (iI x) :: .int (iI z) :: .ref q :: rest)) :=
  va_bast hx hb hK hP hD hS q0 0 ha rfl (iI_in hi) hdg (by
    have e : vp_nar .byte (iI x) = iI x := by
      rw [vp_nar_byte]
      apply Int32.toInt_inj.mp
      rw [Int8.toInt_toInt32, iI_toInt ⟨by omega, by omega⟩]
      unfold iI
      rw [Int32.toInt8_ofInt, Int8.toInt_ofInt]
      apply Int.bmod_eq_of_le <;> (unfold Int8.size; omega)
    rw [iI_clamp ⟨by omega, by omega⟩, e, upd_iI]; exact kk)
end ZP
theorem zcharN {x : Int} (h : 0 ≤ x ∧ x ≤ 126) : narrow .char (.int (iI x)) = .int (iI x) := by
  obtain ⟨k, rfl⟩ := Int.eq_ofNat_of_zero_le h.1
  exact (pk_charN (q := k) (by omega)).1
theorem scanP_in (f : Nat → Int) : ∀ (k i : Nat) (x y t : Int), 0 ≤ x ∧ x ≤ 5 → 0 ≤ y ∧ y ≤ i → 0 ≤ t ∧ t ≤ i → (0 ≤ (scanP f k i x y t).1 ∧ (scanP f k i x y t).1 ≤ i + k) ∧ (0 ≤ (scanP f k i x y t).2.1 ∧ (scanP f k i x y t).2.1 ≤ 5) ∧ (0 ≤ (scanP f k i x y t).2.2.1 ∧ (scanP f k i x y t).2.2.1 ≤ i + k) ∧ (0 ≤ (scanP f k i x y t).2.2.2 ∧ (scanP f k i x y t).2.2.2 ≤ i + k)
  | 0, i, x, y, t, hx, hy, ht => by unfold scanP; dsimp only; omega
  | k + 1, i, x, y, t, hx, hy, ht => by
    unfold scanP
    have hb := exB_in x y t (f i)
    split
    · dsimp only; omega
    · have ih := scanP_in f k (i + 1) (exB x y t (f i)) (y + (if exB x y t (f i) = 3 then 1 else 0)) (t + (if exB x y t (f i) = 5 then 1 else 0)) (by omega) (by omega) (by omega)
      omega
