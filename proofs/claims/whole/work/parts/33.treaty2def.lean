-- what two come to: u p i and t p i are the WORTH for a and for b of the i-th thing from below of pan p
def tkZ (n : Nat) : Int := if n % 2 = 0 then 1 else 0
def vlG (tk z p q : Int) : Int := if tk = 1 then z + p else z - q
def VV (u t : Nat → Nat → Int) (N : Nat) : Nat → Nat → Nat → Nat → Int × Int
  | 0, _, _, _ => (0, -1)
  | k + 1, x, y, z =>
    let tk := tkZ (N - (x + y + z))
    let s1 := if 0 < x then conB tk 0 (vlG tk (VV u t N k (x - 1) y z).1 (u 0 x) (t 0 x)) 0 (-1) else ((0 : Int), (-1 : Int))
    let s2 := if 0 < y then conB tk 1 (vlG tk (VV u t N k x (y - 1) z).1 (u 1 y) (t 1 y)) s1.1 s1.2 else s1
    if 0 < z then conB tk 2 (vlG tk (VV u t N k x y (z - 1)).1 (u 2 z) (t 2 z)) s2.1 s2.2 else s2
theorem VV_more (u t : Nat → Nat → Int) (N : Nat) : ∀ (k x y z : Nat), x + y + z < k → VV u t N (k + 1) x y z = VV u t N k x y z
  | 0, _, _, _, h => absurd h (Nat.not_lt_zero _)
  | k + 1, x, y, z, h => by
    rw [VV]
    conv => rhs; rw [VV]
    have e1 : 0 < x → VV u t N (k + 1) (x - 1) y z = VV u t N k (x - 1) y z := fun q => VV_more u t N k (x - 1) y z (by omega)
    have e2 : 0 < y → VV u t N (k + 1) x (y - 1) z = VV u t N k x (y - 1) z := fun q => VV_more u t N k x (y - 1) z (by omega)
    have e3 : 0 < z → VV u t N (k + 1) x y (z - 1) = VV u t N k x y (z - 1) := fun q => VV_more u t N k x y (z - 1) (by omega)
    by_cases q1 : 0 < x <;> by_cases q2 : 0 < y <;> by_cases q3 : 0 < z <;> simp only [q1, q2, q3, if_true, if_false] <;> simp only [e1, e2, e3, q1, q2, q3]
theorem VV_any (u t : Nat → Nat → Int) (N x y z : Nat) : ∀ k : Nat, VV u t N (x + y + z + 1 + k) x y z = VV u t N (x + y + z + 1) x y z
  | 0 => rfl
  | k + 1 => by rw [← Nat.add_assoc, VV_more u t N _ x y z (by omega)]; exact VV_any u t N x y z k
/-- by its own length -/
def V3 (u t : Nat → Nat → Int) (N x y z : Nat) : Int × Int := VV u t N (x + y + z + 1) x y z
theorem V3_of (u t : Nat → Nat → Int) (N x y z k : Nat) (h : x + y + z < k) : VV u t N k x y z = V3 u t N x y z := by
  have := VV_any u t N x y z (k - (x + y + z + 1))
  rw [show x + y + z + 1 + (k - (x + y + z + 1)) = k by omega] at this
  exact this
theorem V3_eq (u t : Nat → Nat → Int) (N x y z : Nat) : V3 u t N x y z =
    (let tk := tkZ (N - (x + y + z))
     let s1 := if 0 < x then conB tk 0 (vlG tk (V3 u t N (x - 1) y z).1 (u 0 x) (t 0 x)) 0 (-1) else ((0 : Int), (-1 : Int))
     let s2 := if 0 < y then conB tk 1 (vlG tk (V3 u t N x (y - 1) z).1 (u 1 y) (t 1 y)) s1.1 s1.2 else s1
     if 0 < z then conB tk 2 (vlG tk (V3 u t N x y (z - 1)).1 (u 2 z) (t 2 z)) s2.1 s2.2 else s2) := by
  unfold V3
  conv => lhs; rw [VV]
  have e1 : 0 < x → VV u t N (x + y + z) (x - 1) y z = V3 u t N (x - 1) y z := fun q => V3_of u t N (x - 1) y z _ (by omega)
  have e2 : 0 < y → VV u t N (x + y + z) x (y - 1) z = V3 u t N x (y - 1) z := fun q => V3_of u t N x (y - 1) z _ (by omega)
  have e3 : 0 < z → VV u t N (x + y + z) x y (z - 1) = V3 u t N x y (z - 1) := fun q => V3_of u t N x y (z - 1) _ (by omega)
  by_cases q1 : 0 < x <;> by_cases q2 : 0 < y <;> by_cases q3 : 0 < z <;> simp only [q1, q2, q3, if_true, if_false] <;> simp only [e1, e2, e3, q1, q2, q3] <;> rfl
def G16 (u : Nat → Nat → Int) : Prop := ∀ p i : Nat, 0 ≤ u p i ∧ u p i ≤ 16
theorem conB_le {tk p z x y : Int} {m : Int} (hz : -m ≤ z ∧ z ≤ m) (hx : -m ≤ x ∧ x ≤ m) : -m ≤ (conB tk p z x y).1 ∧ (conB tk p z x y).1 ≤ m := by
  unfold conB
  split
  · exact hz
  · exact hx
theorem VV_le {u t : Nat → Nat → Int} (hu : G16 u) (ht : G16 t) (N : Nat) : ∀ (k x y z : Nat), -(16 * ((x + y + z : Nat) : Int)) ≤ (VV u t N k x y z).1 ∧ (VV u t N k x y z).1 ≤ 16 * ((x + y + z : Nat) : Int)
  | 0, x, y, z => by unfold VV; dsimp only; omega
  | k + 1, x, y, z => by
    rw [VV]
    have key : ∀ (tk : Int) (a b c p i : Nat), a + b + c + 1 = x + y + z → -(16 * ((x + y + z : Nat) : Int)) ≤ vlG tk (VV u t N k a b c).1 (u p i) (t p i) ∧ vlG tk (VV u t N k a b c).1 (u p i) (t p i) ≤ 16 * ((x + y + z : Nat) : Int) := by
      intro tk a b c p i h
      have h1 := VV_le hu ht N k a b c
      have h2 := hu p i
      have h3 := ht p i
      unfold vlG
      omega
    have z0 : -(16 * ((x + y + z : Nat) : Int)) ≤ 0 ∧ (0 : Int) ≤ 16 * ((x + y + z : Nat) : Int) := by omega
    by_cases q1 : 0 < x <;> by_cases q2 : 0 < y <;> by_cases q3 : 0 < z <;> simp only [q1, q2, q3, if_true, if_false] <;>
      (repeat (first | exact z0 | exact key _ _ _ _ _ _ (by omega) | refine conB_le ?_ ?_))
theorem V3_le {u t : Nat → Nat → Int} (hu : G16 u) (ht : G16 t) (N x y z : Nat) (h : x + y + z ≤ 60) : -1000 ≤ (V3 u t N x y z).1 ∧ (V3 u t N x y z).1 ≤ 1000 := by
  have := VV_le hu ht N (x + y + z + 1) x y z
  unfold V3
  omega
theorem conB_p {tk p z x y : Int} (hp : -1 ≤ p ∧ p ≤ 2) (hy : -1 ≤ y ∧ y ≤ 2) : -1 ≤ (conB tk p z x y).2 ∧ (conB tk p z x y).2 ≤ 2 := by
  unfold conB
  split
  · exact hp
  · exact hy
theorem V3_p (u t : Nat → Nat → Int) (N x y z : Nat) : -1 ≤ (V3 u t N x y z).2 ∧ (V3 u t N x y z).2 ≤ 2 := by
  rw [V3_eq]
  dsimp only
  by_cases q1 : 0 < x <;> by_cases q2 : 0 < y <;> by_cases q3 : 0 < z <;> simp only [q1, q2, q3, if_true, if_false] <;>
    (repeat (first | (constructor <;> decide) | refine conB_p (by decide) ?_))
def uOf (k : Nat) (pv : Nat → Nat → Int) : Nat → Nat → Int := fun p i => wOf k (lefT (pv p) (i : Int))
theorem uOf_16 (k : Nat) (pv : Nat → Nat → Int) : G16 (uOf k pv) := fun _ _ => wOf_in _ _
def onZ (v : Nat → Int) : Int := v 4 + v 3 + v 5
/-- how many things there are on a pan, none where there is no pan -/
def thZ (n : Int) (pv : Nat → Nat → Int) (p : Nat) : Nat := if (p : Int) < n then (onZ (pv p)).toNat else 0
/-- what the rows hold for the pans' things -/
def RowOk (f : Nat → Int) (u : Nat → Nat → Int) (F S T : Nat) : Prop := (∀ i, 1 ≤ i → i ≤ F → f (0 * 21 + i) = u 0 i) ∧ (∀ i, 1 ≤ i → i ≤ S → f (1 * 21 + i) = u 1 i) ∧ ∀ i, 1 ≤ i → i ≤ T → f (2 * 21 + i) = u 2 i
theorem wgh_V3 {u t : Nat → Nat → Int} {fA fB : Nat → Int} {F S T N : Nat} (hA : RowOk fA u F S T) (hB : RowOk fB t F S T) {x y z : Nat} (hx : x ≤ F) (hy : y ≤ S) (hz : z ≤ T) {z0 z1 z2 tk : Int} (htk : tk = tkZ (N - (x + y + z)))
    (h0 : 0 < x → z0 = (V3 u t N (x - 1) y z).1) (h1 : 0 < y → z1 = (V3 u t N x (y - 1) z).1) (h2 : 0 < z → z2 = (V3 u t N x y (z - 1)).1) : wgh tk x y z z0 z1 z2 fA fB = V3 u t N x y z := by
  rw [V3_eq]
  unfold wgh wg3 wg2 wg1
  dsimp only
  rw [← htk]
  have hv : ∀ (e : Int) (a b : Int) (j : Nat), fA j = a → fB j = b → vlT tk e fA fB j = vlG tk e a b := by
    intro e a b j ha hb
    unfold vlT vlG
    rw [ha, hb]
  have e0 : 0 < x → vlT tk z0 fA fB (0 * 21 + (x : Int)).toNat = vlG tk (V3 u t N (x - 1) y z).1 (u 0 x) (t 0 x) := fun q => by
    rw [show (0 * 21 + (x : Int)).toNat = 0 * 21 + x by omega, hv _ _ _ _ (hA.1 x q hx) (hB.1 x q hx), h0 q]
  have e1 : 0 < y → vlT tk z1 fA fB (1 * 21 + (y : Int)).toNat = vlG tk (V3 u t N x (y - 1) z).1 (u 1 y) (t 1 y) := fun q => by
    rw [show (1 * 21 + (y : Int)).toNat = 1 * 21 + y by omega, hv _ _ _ _ (hA.2.1 y q hy) (hB.2.1 y q hy), h1 q]
  have e2 : 0 < z → vlT tk z2 fA fB (2 * 21 + (z : Int)).toNat = vlG tk (V3 u t N x y (z - 1)).1 (u 2 z) (t 2 z) := fun q => by
    rw [show (2 * 21 + (z : Int)).toNat = 2 * 21 + z by omega, hv _ _ _ _ (hA.2.2 z q hz) (hB.2.2 z q hz), h2 q]
  have c0 : (0 < (x : Int)) ↔ 0 < x := by omega
  have c1 : (0 < (y : Int)) ↔ 0 < y := by omega
  have c2 : (0 < (z : Int)) ↔ 0 < z := by omega
  simp only [c0, c1, c2]
  by_cases q1 : 0 < x <;> by_cases q2 : 0 < y <;> by_cases q3 : 0 < z <;> simp only [q1, q2, q3, if_true, if_false] <;> simp only [e0, e1, e2, q1, q2, q3]
/-- the rows of the first numbers: what is done is of this layer, what is not is of the layer before -/
def Lay (u t : Nat → Nat → Int) (N : Nat) (fa : Nat → Int) (S T x y z : Nat) : Prop := ∀ b c : Nat, b ≤ S → c ≤ T → ((b < y ∨ (b = y ∧ c < z)) → fa (b * 21 + c) = (V3 u t N x b c).1) ∧ (¬ (b < y ∨ (b = y ∧ c < z)) → 0 < x → fa (b * 21 + c) = (V3 u t N (x - 1) b c).1)
theorem Lay_step {u t : Nat → Nat → Int} {N : Nat} {fa : Nat → Int} {S T x y z : Nat} (hT : T ≤ 20) (hz : z ≤ T) (h : Lay u t N fa S T x y z) {w : Int} (hw : w = (V3 u t N x y z).1) : Lay u t N (updZ fa (y * 21 + z) w) S T x y (z + 1) := by
  intro b c hb hc
  unfold updZ
  by_cases e : b * 21 + c = y * 21 + z
  · have e1 : b = y := by omega
    have e2 : c = z := by omega
    subst e1; subst e2
    rw [if_pos rfl]
    exact ⟨fun _ => hw, fun q => absurd (Or.inr ⟨rfl, by omega⟩) q⟩
  · rw [if_neg e]
    have h0 := h b c hb hc
    refine ⟨fun q => h0.1 ?_, fun q1 q2 => h0.2 ?_ q2⟩
    · rcases q with q | ⟨q, q'⟩
      · exact Or.inl q
      · subst q; exact Or.inr ⟨rfl, by omega⟩
    · intro q
      apply q1
      rcases q with q | ⟨q, q'⟩
      · exact Or.inl q
      · exact Or.inr ⟨q, by omega⟩
theorem Lay_row {u t : Nat → Nat → Int} {N : Nat} {fa : Nat → Int} {S T x y : Nat} (h : Lay u t N fa S T x y (T + 1)) : Lay u t N fa S T x (y + 1) 0 := by
  intro b c hb hc
  have h0 := h b c hb hc
  refine ⟨fun q => h0.1 (by omega), fun q1 q2 => h0.2 (by omega) q2⟩
theorem Lay_layer {u t : Nat → Nat → Int} {N : Nat} {fa : Nat → Int} {S T x : Nat} (h : Lay u t N fa S T x (S + 1) 0) : Lay u t N fa S T (x + 1) 0 0 := by
  intro b c hb hc
  have h0 := h b c hb hc
  refine ⟨fun q => by omega, fun q1 q2 => ?_⟩
  rw [h0.1 (by omega)]
  rfl
theorem tkZ_in (n : Nat) : tkZ n = 0 ∨ tkZ n = 1 := by unfold tkZ; omega
