-- the digest
def fdz (g : Nat → Int) : Nat → Int → Int
  | 0, h => h
  | k + 1, h => 31 * fdz g k h + g k
def itz (F : Nat → Int → Int) : Nat → Int → Int
  | 0, h => h
  | k + 1, h => F k (itz F k h)
def dgP (n sn : Int) (pv : Nat → Nat → Int) (s1 s2 s3 : Nat → Int) (j : Nat) (h : Int) : Int := 31 * (31 * fdz (fun w => laterR n j 7 w pv) 4 (fdz (fun w => panR n j w sn pv s1 s2 s3) 9 h) + oddsR n j 4 5 0 pv) + oddsR n j 4 5 1 pv
def dgC (t n : Int) (kd : Nat → Nat) (fh pv : Nat → Nat → Int) (j : Nat) (h : Int) : Int := 31 * (31 * (31 * fdz (fun w => childR t j (11 + w) kd fh) 3 (fdz (fun w => childR t j w kd fh) 5 h) + planR t j 2 0 n kd pv) + planR t j 2 10 n kd pv) + planR t j 2 11 n kd pv
def dgR (n t u sn pn dr td : Int) (pv fh : Nat → Nat → Int) (kd : Nat → Nat) (s1 s2 s3 f : Nat → Int) : Int :=
  fdz (fun w => countR w n t u sn pn dr td pv fh kd) 13 (fdz (fun j => f j) pn.toNat (itz (dgC t n kd fh pv) t.toNat (itz (dgP n sn pv s1 s2 s3) n.toNat 1213)))
theorem lookL_in (w : Nat → Int) : ∀ k : Nat, -1 ≤ (lookL w k).1 ∧ (lookL w k).1 ≤ k
  | 0 => by unfold lookL; dsimp only; omega
  | k + 1 => by
    have := lookL_in w k
    unfold lookL
    split
    · dsimp only; omega
    · omega
theorem lookZ_in (f r : Int) : -1 ≤ lookZ f r ∧ lookZ f r ≤ 12 := by
  unfold lookZ
  split
  · omega
  · exact lookL_in _ 12
theorem muchP_in {v : Nat → Int} (h : PanB v) (k : Int) : 0 ≤ muchP v k ∧ muchP v k ≤ 20 := by
  obtain ⟨_, _, h2, h3, h4, h5, h6⟩ := h
  unfold muchP
  omega
theorem panR_in {n z x k : Int} {pv : Nat → Nat → Int} {s1 s2 s3 : Nat → Int} (hn : n ≤ 3) (hpv : PanS pv) : -1000 ≤ panR n z x k pv s1 s2 s3 ∧ panR n z x k pv s1 s2 s3 ≤ 100000 := by
  unfold panR
  by_cases hz : 0 ≤ z ∧ z < n
  · rw [if_pos hz]
    have hb := hpv z.toNat (by omega)
    have h1 := muchP_in hb x
    have h2 := topP_in (pv z.toNat)
    have h3 := fatsZ_in s1 s2 s3 k z (pv z.toNat) 16
    have h4 := lookZ_in (fatsZ s1 s2 s3 k z (pv z.toNat) 16) (1 + pv z.toNat 0)
    obtain ⟨⟨h00, h01⟩, ⟨h10, h11⟩, _⟩ := hb
    rw [show (2 : Int) ^ 16 = 65536 from rfl] at h3
    repeat' split
    all_goals omega
  · rw [if_neg hz]; omega
theorem laterR_in {n z x y : Int} {pv : Nat → Nat → Int} (hpg : ∀ j, j < n.toNat → PanG 2000 (pv j)) : -1000 ≤ laterR n z x y pv ∧ laterR n z x y pv ≤ 100000 := by
  unfold laterR
  split
  · split
    · have hb := hoursP_in (hpg z.toNat (by omega)) x.toNat (by omega)
      have := muchP_in hb.1 y
      omega
    · omega
  · omega
theorem oddZ_in {v : Nat → Int} (hv : 0 ≤ v 1) {x : Nat} (hx : x ≤ 8) {t y : Int} (ht : 0 ≤ t ∧ t ≤ 10) : 0 ≤ oddZ v x t y ∧ oddZ v x t y ≤ 100000000 := by
  have h1 := p10_le hx
  have h2 := ways_in hv (x := x) ht
  have h3 := gcdZ_pos (a := 10 ^ x) (b := 10 ^ x - waysZ v x t) h1.1
  unfold oddZ
  have key : ∀ a : Int, 0 ≤ a → a ≤ 100000000 → 0 ≤ a / gcdZ (10 ^ x) (10 ^ x - waysZ v x t) ∧ a / gcdZ (10 ^ x) (10 ^ x - waysZ v x t) ≤ 100000000 := fun a ha hb => ⟨Int.ediv_nonneg ha (by omega), Int.le_trans (Int.ediv_le_self _ ha) hb⟩
  split
  · exact key _ (by omega) (by omega)
  · exact key _ (by omega) (by omega)
theorem oddsR_in {n z x t y : Int} {pv : Nat → Nat → Int} (hn : n ≤ 3) (hpv : PanS pv) : -1000 ≤ oddsR n z x t y pv ∧ oddsR n z x t y pv ≤ 100000000 := by
  unfold oddsR
  split
  · split
    · have := oddZ_in (v := pv z.toNat) (hpv z.toNat (by omega)).2.1.1 (x := x.toNat) (by omega) (t := t) (y := y) (by omega)
      omega
    · omega
  · omega
theorem wAll_in {k : Nat} {f : Nat → Int} (hf : ∀ i, 0 ≤ f i ∧ f i ≤ 99) : 0 ≤ wAll k f ∧ wAll k f ≤ 2500 := by
  have h1 := hf 1
  have h2 := hf 2
  have h3 := hf 3
  unfold wAll wC wF wB
  repeat' split
  all_goals omega
theorem wOf_in9 (k : Nat) (x : Int) : 0 ≤ wOf k x ∧ wOf k x ≤ 16 := by
  unfold wOf wC wF wB
  repeat' split
  all_goals omega
theorem childR_in {t z x : Int} {kd : Nat → Nat} {fh : Nat → Nat → Int} (hk : KidK t.toNat kd) (hh : HadB t.toNat fh) : -1000 ≤ childR t z x kd fh ∧ childR t z x kd fh ≤ 100000 := by
  unfold childR
  split
  · have h1 := hk z.toNat (by omega)
    have h2 := hh z.toNat (by omega)
    have h3 := h2 x.toNat
    have h4 := wAll_in (k := kd z.toNat) h2
    have h5 := wOf_in9 (kd z.toNat) (x - 10)
    unfold KindOk at h1
    repeat' split
    all_goals omega
  · omega
theorem planR_in {t z x y n : Int} {kd : Nat → Nat} {pv : Nat → Nat → Int} (hn : 1 ≤ n ∧ n ≤ 3) : -1000 ≤ planR t z x y n kd pv ∧ planR t z x y n kd pv ≤ 100000 := by
  unfold planR
  split
  · split
    · have h1 := PL_in (kd z.toNat) (show 0 ≤ n ∧ n ≤ 3 by omega) x.toNat pv
      have h2 := p4_le4 (r := x.toNat) (by omega)
      split
      · omega
      · omega
    · omega
  · omega
theorem sumZ_in {f : Nat → Int} {B : Int} (hB : 0 ≤ B) : ∀ k : Nat, (∀ j, j < k → 0 ≤ f j ∧ f j ≤ B) → 0 ≤ sumZ f k ∧ sumZ f k ≤ B * k
  | 0, _ => by unfold sumZ; simp
  | k + 1, h => by
    have ih := sumZ_in hB k (fun j hj => h j (by omega))
    have h1 := h k (by omega)
    have e : B * ((k + 1 : Nat) : Int) = B * k + B := by rw [Int.natCast_add, Int.mul_add]; simp
    unfold sumZ
    rw [e]
    omega
theorem countR_in {z n t u k pn dr td : Int} {pv fh : Nat → Nat → Int} {kd : Nat → Nat} (hn : 0 ≤ n ∧ n ≤ 3) (ht : 0 ≤ t ∧ t ≤ 5) (hu : 0 ≤ u ∧ u ≤ 1000) (hk : 0 ≤ k ∧ k ≤ 6) (hp : 0 ≤ pn ∧ pn ≤ 24) (hd : 0 ≤ dr ∧ dr ≤ 1000) (hd2 : 0 ≤ td ∧ td ≤ 1000) (hpv : PanS pv) (hh : HadB t.toNat fh) : -1000 ≤ countR z n t u k pn dr td pv fh kd ∧ countR z n t u k pn dr td pv fh kd ≤ 100000 := by
  have h1 := sumZ_in (f := fun j => muchP (pv j) (z - 2)) (B := 20) (by omega) n.toNat (fun j hj => muchP_in (hpv j (by omega)) _)
  have h2 := sumZ_in (f := fun j => wAll (kd j) (fh j)) (B := 2500) (by omega) t.toNat (fun j hj => wAll_in (hh j hj))
  have h3 := sumZ_in (f := fun j => fh j 2) (B := 99) (by omega) t.toNat (fun j hj => hh j hj 2)
  unfold countR worthA filmA
  repeat' split
  all_goals omega
