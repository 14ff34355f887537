-- how likely, as the reference counts it
def OddI (v : Nat → Int) (t : Int) (i : Nat) (u l0 l1 l2 : Int) : Prop := (v 2 + v 3 = 0 → u = 0) ∧ (¬ v 2 + v 3 = 0 → (l0, l1, l2) = wz t (ph v 0) (ph v 1) (ph v 2) i ∧ u = 10 ^ i - (l0 + l1 + l2))
theorem odd_0 {v : Nat → Int} {t l0 l1 l2 : Int} (hv : 0 ≤ v 1) (h0 : l0 = ph v 0) (h1 : l1 = ph v 1) (h2 : l2 = ph v 2) : OddI v t 0 0 l0 l1 l2 := by
  refine ⟨fun _ => rfl, fun _ => ⟨by rw [h0, h1, h2]; rfl, ?_⟩⟩
  rw [h0, h1, h2]
  unfold ph
  omega
theorem odd_s1 {v : Nat → Int} {t : Int} {i : Nat} {u l0 l1 l2 : Int} (hb : ¬ v 2 + v 3 = 0) (h : OddI v t i u l0 l1 l2) : OddI v t (i + 1) (10 * u + l2 * t) ((l0 + l1 + l2) * (10 - t)) (l0 * t) (l1 * t) := by
  refine ⟨fun q => absurd q hb, fun _ => ?_⟩
  obtain ⟨h1, h2⟩ := h.2 hb
  refine ⟨?_, ?_⟩
  · show _ = wz t (ph v 0) (ph v 1) (ph v 2) (i + 1)
    unfold wz
    rw [← h1]
  · rw [h2, Int.pow_succ]
    have e5 : (l0 + l1 + l2) * (10 - t) = 10 * (l0 + l1 + l2) - (l0 * t + l1 * t + l2 * t) := by
      rw [Int.mul_sub, Int.mul_comm _ 10, Int.add_mul, Int.add_mul]
    rw [e5]
    omega
theorem odd_s0 {v : Nat → Int} {t : Int} {i : Nat} {u l0 l1 l2 m0 m1 m2 : Int} (hb : v 2 + v 3 = 0) (h : OddI v t i u l0 l1 l2) : OddI v t (i + 1) (10 * u + 0) m0 m1 m2 := ⟨fun _ => by rw [h.1 hb]; rfl, fun q => absurd hb q⟩
theorem odd_e {v : Nat → Int} {t : Int} {i : Nat} {u l0 l1 l2 : Int} (h : OddI v t i u l0 l1 l2) : u = 10 ^ i - waysZ v i t := by
  unfold waysZ
  split
  · rename_i q; rw [h.1 q]; omega
  · rename_i q
    obtain ⟨h1, h2⟩ := h.2 q
    rw [← h1, h2]
theorem gcdZ_comm (a b : Int) : gcdZ a b = gcdZ b a := by unfold gcdZ; rw [Nat.gcd_comm]
theorem riseP_B {v : Nat → Int} (h : PanB v) : PanB (riseP v) ∧ riseP v 0 = v 0 ∧ riseP v 2 + riseP v 3 = v 2 + v 3 ∧ (0 < v 2 + v 3 ↔ 0 < riseP v 3) := by
  obtain ⟨⟨h00, h01⟩, ⟨h10, h11⟩, h2, h3, h4, h5, h6⟩ := h
  unfold PanB riseP
  simp only [mkP_0, mkP_1, mkP_2, mkP_3, mkP_4, mkP_5]
  refine ⟨by omega, trivial, by omega, ?_⟩
  constructor <;> intro _ <;> omega
theorem takeP_id {v : Nat → Int} (h : topP v = -1) : v 0 = takeP v 0 ∧ v 1 = takeP v 1 ∧ v 2 = takeP v 2 ∧ v 3 = takeP v 3 ∧ v 4 = takeP v 4 ∧ v 5 = takeP v 5 := by
  unfold takeP
  simp only [mkP_0, mkP_1, mkP_2, mkP_3, mkP_4, mkP_5, h]
  simp
theorem catZ_0 (f g : Nat → Int) : catZ f g 0 = g := by
  funext j
  exact if_neg (Nat.not_lt_zero j)
theorem catZ_step (f g : Nat → Int) (i : Nat) : updZ (catZ f g i) i (f i) = catZ f g (i + 1) := by
  funext j
  unfold updZ catZ
  by_cases h : j = i
  · rw [if_pos h, if_pos (by omega), h]
  · rw [if_neg h]
    by_cases q : j < i
    · rw [if_pos q, if_pos (by omega)]
    · rw [if_neg q, if_neg (by omega)]
theorem hourV_0 {t u n : Int} {pv : Nat → Nat → Int} (j : Nat) : wtS n pv j 0 = pv j 0 := by
  unfold wtS catTo
  split <;> rfl
theorem NZ_sill {t n : Int} {kd : Nat → Nat} {z : Int} {pv : Nat → Nat → Int} : ∀ (k j : Nat), (NZ t n kd z pv k).2.2.2 j 0 = pv j 0
  | 0, _ => rfl
  | k + 1, j => by
    have ih := NZ_sill (t := t) (n := n) (kd := kd) (z := z) (pv := pv) k
    by_cases h : nsd (NZ t n kd z pv k).1 / 65536 % 2 = 0
    · rw [NZ_h h]
      show wtS n _ j 0 = _
      rw [hourV_0 (t := 0) (u := 0) j, ih]
    · rw [NZ_s h]
      show tkS _ _ j 0 = _
      unfold tkS va_up
      split
      · rename_i q; rw [← ih j, q]; rfl
      · exact ih j
