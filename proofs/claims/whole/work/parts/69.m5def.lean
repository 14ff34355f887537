-- what two come to, as the reference lays it: by what was taken
def selZ (q : Nat) (x y z : Int) : Int := if q = 0 then x else if q = 1 then y else z
def slZ (q : Nat) (x y z : Int) : Int := 441 * (if q = 0 then x + 1 else x) + 21 * (if q = 1 then y + 1 else y) + (if q = 2 then z + 1 else z)
def tbZ (v : Nat → Int) (w : Int) : Int := if w < v 4 then 2 else if w < v 4 + v 3 then 1 else 3
def tkI (s : Int) : Int := if s % 2 = 0 then 1 else 0
def mfZ (ka kb : Nat) (pv : Nat → Nat → Int) (fm : Nat → Int) (q : Nat) (x y z : Int) : Int := vlG (tkI (x + y + z)) (fm (slZ q x y z).toNat) (wOf ka (tbZ (pv q) (selZ q x y z))) (wOf kb (tbZ (pv q) (selZ q x y z)))
def FmB (fm : Nat → Int) : Prop := ∀ j : Nat, -100000 ≤ fm j ∧ fm j ≤ 100000
theorem mfZ_in {ka kb : Nat} {pv : Nat → Nat → Int} {fm : Nat → Int} (h : FmB fm) (q : Nat) (x y z : Int) : -200000 ≤ mfZ ka kb pv fm q x y z ∧ mfZ ka kb pv fm q x y z ≤ 200000 := by
  have h1 := h (slZ q x y z).toNat
  have h2 := wOf_in ka (tbZ (pv q) (selZ q x y z))
  have h3 := wOf_in kb (tbZ (pv q) (selZ q x y z))
  unfold mfZ vlG
  split <;> omega
def cnS (ka kb : Nat) (n : Int) (pv : Nat → Nat → Int) (fm : Nat → Int) (x y z : Int) : Nat → Int × Int
  | 0 => (0, -1)
  | i + 1 => if selZ i x y z < ((thZ n pv i : Nat) : Int) then conB (tkI (x + y + z)) (i : Int) (mfZ ka kb pv fm i x y z) (cnS ka kb n pv fm x y z i).1 (cnS ka kb n pv fm x y z i).2 else cnS ka kb n pv fm x y z i
theorem cnS_y {ka kb : Nat} {n : Int} {pv : Nat → Nat → Int} {fm : Nat → Int} {x y z : Int} {i : Nat} (h : selZ i x y z < ((thZ n pv i : Nat) : Int)) : cnS ka kb n pv fm x y z (i + 1) = conB (tkI (x + y + z)) (i : Int) (mfZ ka kb pv fm i x y z) (cnS ka kb n pv fm x y z i).1 (cnS ka kb n pv fm x y z i).2 := by
  conv => lhs; unfold cnS
  rw [if_pos h]
theorem cnS_n {ka kb : Nat} {n : Int} {pv : Nat → Nat → Int} {fm : Nat → Int} {x y z : Int} {i : Nat} (h : ¬ selZ i x y z < ((thZ n pv i : Nat) : Int)) : cnS ka kb n pv fm x y z (i + 1) = cnS ka kb n pv fm x y z i := by
  conv => lhs; unfold cnS
  rw [if_neg h]
theorem conB_y {tk u z x y : Int} (h : y = -1 ∨ (tk = 1 ∧ x < z) ∨ (¬ tk = 1 ∧ z < x)) : conB tk u z x y = (z, u) := if_pos h
theorem conB_n {tk u z x y : Int} (h : ¬ (y = -1 ∨ (tk = 1 ∧ x < z) ∨ (¬ tk = 1 ∧ z < x))) : conB tk u z x y = (x, y) := if_neg h
theorem tkI_in (s : Int) : tkI s = 0 ∨ tkI s = 1 := by unfold tkI; omega
theorem th_20 {n : Int} {pv : Nat → Nat → Int} (hn : 0 ≤ n ∧ n ≤ 3) (h : PanS pv) (p : Nat) : thZ n pv p ≤ 20 := by
  unfold thZ
  split
  · obtain ⟨_, _, h2, h3, h4, h5, h6⟩ := h p (by omega)
    unfold onZ
    omega
  · omega
theorem th_on {n : Int} {pv : Nat → Nat → Int} (hn : 0 ≤ n ∧ n ≤ 3) (h : PanS pv) {p : Nat} (hp : 0 < thZ n pv p) : ((thZ n pv p : Nat) : Int) = pv p 4 + pv p 3 + pv p 5 ∧ (p : Int) < n ∧ 0 ≤ pv p 3 := by
  unfold thZ at hp ⊢
  split at hp
  · rename_i q
    obtain ⟨_, _, h2, h3, h4, h5, h6⟩ := h p (by omega)
    rw [if_pos q]
    unfold onZ
    omega
  · omega
theorem tb_left {v : Nat → Int} {l w : Int} (h3 : 0 ≤ v 3) (h : l + w = v 4 + v 3 + v 5) : tbZ v w = lefT v l := by
  unfold tbZ lefT
  split <;> split <;> omega
/-- what is laid is what two come to -/
def LyP (ka kb : Nat) (n : Int) (pv : Nat → Nat → Int) (fm : Nat → Int) (x y z : Int) : Prop := ∀ a b c : Nat, a ≤ thZ n pv 0 → b ≤ thZ n pv 1 → c ≤ thZ n pv 2 → (x < (a : Int) ∨ (x = (a : Int) ∧ (y < (b : Int) ∨ (y = (b : Int) ∧ z < (c : Int))))) → fm (441 * a + 21 * b + c) = (V3 (uOf ka pv) (uOf kb pv) (thZ n pv 0 + thZ n pv 1 + thZ n pv 2) (thZ n pv 0 - a) (thZ n pv 1 - b) (thZ n pv 2 - c)).1
theorem cn_V3 {ka kb : Nat} {n : Int} {pv : Nat → Nat → Int} {fm : Nat → Int} (hn : 0 ≤ n ∧ n ≤ 3) (hpv : PanS pv) {a b c : Nat} (ha : a ≤ thZ n pv 0) (hb : b ≤ thZ n pv 1) (hc : c ≤ thZ n pv 2) (h : LyP ka kb n pv fm (a : Int) (b : Int) (c : Int)) : cnS ka kb n pv fm (a : Int) (b : Int) (c : Int) n.toNat = V3 (uOf ka pv) (uOf kb pv) (thZ n pv 0 + thZ n pv 1 + thZ n pv 2) (thZ n pv 0 - a) (thZ n pv 1 - b) (thZ n pv 2 - c) := by
  have htk : tkZ (thZ n pv 0 + thZ n pv 1 + thZ n pv 2 - (thZ n pv 0 - a + (thZ n pv 1 - b) + (thZ n pv 2 - c))) = tkI ((a : Int) + b + c) := by
    unfold tkZ tkI
    rw [show thZ n pv 0 + thZ n pv 1 + thZ n pv 2 - (thZ n pv 0 - a + (thZ n pv 1 - b) + (thZ n pv 2 - c)) = a + b + c by omega]
    split <;> split <;> omega
  have m0 : a < thZ n pv 0 → mfZ ka kb pv fm 0 a b c = vlG (tkI ((a : Int) + b + c)) (V3 (uOf ka pv) (uOf kb pv) (thZ n pv 0 + thZ n pv 1 + thZ n pv 2) (thZ n pv 0 - a - 1) (thZ n pv 1 - b) (thZ n pv 2 - c)).1 (uOf ka pv 0 (thZ n pv 0 - a)) (uOf kb pv 0 (thZ n pv 0 - a)) := fun q => by
    have e := h (a + 1) b c (by omega) hb hc (Or.inl (by omega))
    have t := th_on hn hpv (p := 0) (by omega)
    unfold mfZ
    rw [show (slZ 0 (a : Int) b c).toNat = 441 * (a + 1) + 21 * b + c by unfold slZ; rw [if_pos rfl, if_neg (by decide), if_neg (by decide)]; omega, e, show thZ n pv 0 - (a + 1) = thZ n pv 0 - a - 1 by omega, show selZ 0 (a : Int) b c = a from rfl, tb_left (l := ((thZ n pv 0 - a : Nat) : Int)) (w := (a : Int)) t.2.2 (by omega)]
    rfl
  have m1 : b < thZ n pv 1 → mfZ ka kb pv fm 1 a b c = vlG (tkI ((a : Int) + b + c)) (V3 (uOf ka pv) (uOf kb pv) (thZ n pv 0 + thZ n pv 1 + thZ n pv 2) (thZ n pv 0 - a) (thZ n pv 1 - b - 1) (thZ n pv 2 - c)).1 (uOf ka pv 1 (thZ n pv 1 - b)) (uOf kb pv 1 (thZ n pv 1 - b)) := fun q => by
    have e := h a (b + 1) c ha (by omega) hc (Or.inr ⟨rfl, Or.inl (by omega)⟩)
    have t := th_on hn hpv (p := 1) (by omega)
    unfold mfZ
    rw [show (slZ 1 (a : Int) b c).toNat = 441 * a + 21 * (b + 1) + c by unfold slZ; rw [if_neg (by decide), if_pos rfl, if_neg (by decide)]; omega, e, show thZ n pv 1 - (b + 1) = thZ n pv 1 - b - 1 by omega, show selZ 1 (a : Int) b c = b from rfl, tb_left (l := ((thZ n pv 1 - b : Nat) : Int)) (w := (b : Int)) t.2.2 (by omega)]
    rfl
  have m2 : c < thZ n pv 2 → mfZ ka kb pv fm 2 a b c = vlG (tkI ((a : Int) + b + c)) (V3 (uOf ka pv) (uOf kb pv) (thZ n pv 0 + thZ n pv 1 + thZ n pv 2) (thZ n pv 0 - a) (thZ n pv 1 - b) (thZ n pv 2 - c - 1)).1 (uOf ka pv 2 (thZ n pv 2 - c)) (uOf kb pv 2 (thZ n pv 2 - c)) := fun q => by
    have e := h a b (c + 1) ha hb (by omega) (Or.inr ⟨rfl, Or.inr ⟨rfl, by omega⟩⟩)
    have t := th_on hn hpv (p := 2) (by omega)
    unfold mfZ
    rw [show (slZ 2 (a : Int) b c).toNat = 441 * a + 21 * b + (c + 1) by unfold slZ; rw [if_neg (by decide), if_neg (by decide), if_pos rfl]; omega, e, show thZ n pv 2 - (c + 1) = thZ n pv 2 - c - 1 by omega, show selZ 2 (a : Int) b c = c from rfl, tb_left (l := ((thZ n pv 2 - c : Nat) : Int)) (w := (c : Int)) t.2.2 (by omega)]
    rfl
  rw [V3_eq]
  dsimp only
  rw [htk]
  have t0 : ∀ p : Nat, n.toNat ≤ p → thZ n pv p = 0 := fun p hp => if_neg (by omega)
  have s1 : cnS ka kb n pv fm a b c 1 = if 0 < thZ n pv 0 - a then conB (tkI ((a : Int) + b + c)) 0 (vlG (tkI ((a : Int) + b + c)) (V3 (uOf ka pv) (uOf kb pv) (thZ n pv 0 + thZ n pv 1 + thZ n pv 2) (thZ n pv 0 - a - 1) (thZ n pv 1 - b) (thZ n pv 2 - c)).1 (uOf ka pv 0 (thZ n pv 0 - a)) (uOf kb pv 0 (thZ n pv 0 - a))) 0 (-1) else ((0 : Int), (-1 : Int)) := by
    by_cases q : a < thZ n pv 0
    · rw [cnS_y (i := 0) (show (a : Int) < ((thZ n pv 0 : Nat) : Int) by omega), m0 q, if_pos (by omega)]
      rfl
    · rw [cnS_n (i := 0) (show ¬ (a : Int) < ((thZ n pv 0 : Nat) : Int) by omega), if_neg (by omega)]
      rfl
  have s2 : cnS ka kb n pv fm a b c 2 = if 0 < thZ n pv 1 - b then conB (tkI ((a : Int) + b + c)) 1 (vlG (tkI ((a : Int) + b + c)) (V3 (uOf ka pv) (uOf kb pv) (thZ n pv 0 + thZ n pv 1 + thZ n pv 2) (thZ n pv 0 - a) (thZ n pv 1 - b - 1) (thZ n pv 2 - c)).1 (uOf ka pv 1 (thZ n pv 1 - b)) (uOf kb pv 1 (thZ n pv 1 - b))) (cnS ka kb n pv fm a b c 1).1 (cnS ka kb n pv fm a b c 1).2 else cnS ka kb n pv fm a b c 1 := by
    by_cases q : b < thZ n pv 1
    · rw [cnS_y (i := 1) (show (b : Int) < ((thZ n pv 1 : Nat) : Int) by omega), m1 q, if_pos (by omega)]
      rfl
    · rw [cnS_n (i := 1) (show ¬ (b : Int) < ((thZ n pv 1 : Nat) : Int) by omega), if_neg (by omega)]
  have s3 : cnS ka kb n pv fm a b c 3 = if 0 < thZ n pv 2 - c then conB (tkI ((a : Int) + b + c)) 2 (vlG (tkI ((a : Int) + b + c)) (V3 (uOf ka pv) (uOf kb pv) (thZ n pv 0 + thZ n pv 1 + thZ n pv 2) (thZ n pv 0 - a) (thZ n pv 1 - b) (thZ n pv 2 - c - 1)).1 (uOf ka pv 2 (thZ n pv 2 - c)) (uOf kb pv 2 (thZ n pv 2 - c))) (cnS ka kb n pv fm a b c 2).1 (cnS ka kb n pv fm a b c 2).2 else cnS ka kb n pv fm a b c 2 := by
    by_cases q : c < thZ n pv 2
    · rw [cnS_y (i := 2) (show (c : Int) < ((thZ n pv 2 : Nat) : Int) by omega), m2 q, if_pos (by omega)]
      rfl
    · rw [cnS_n (i := 2) (show ¬ (c : Int) < ((thZ n pv 2 : Nat) : Int) by omega), if_neg (by omega)]
  rw [← s1, ← s2, ← s3]
  have k0 : ∀ p : Nat, n.toNat ≤ p → p < 3 → cnS ka kb n pv fm a b c (p + 1) = cnS ka kb n pv fm a b c p := fun p hp h3 => cnS_n (by
    rw [t0 p hp]
    unfold selZ
    split
    · omega
    · split <;> omega)
  rcases (show n.toNat = 0 ∨ n.toNat = 1 ∨ n.toNat = 2 ∨ n.toNat = 3 by omega) with q | q | q | q
  · rw [q, k0 2 (by omega) (by omega), k0 1 (by omega) (by omega), k0 0 (by omega) (by omega)]
  · rw [q, k0 2 (by omega) (by omega), k0 1 (by omega) (by omega)]
  · rw [q, k0 2 (by omega) (by omega)]
  · rw [q]
/-- one step of the laying -/
theorem Ly_st {ka kb : Nat} {n : Int} {pv : Nat → Nat → Int} {fm : Nat → Int} (hn : 0 ≤ n ∧ n ≤ 3) (hpv : PanS pv) {x y z w : Int} (hx : 0 ≤ x ∧ x ≤ ((thZ n pv 0 : Nat) : Int)) (hy : 0 ≤ y ∧ y ≤ ((thZ n pv 1 : Nat) : Int)) (hz : 0 ≤ z ∧ z ≤ ((thZ n pv 2 : Nat) : Int)) (h : LyP ka kb n pv fm x y z) (hw : w = (cnS ka kb n pv fm x y z n.toNat).1) : LyP ka kb n pv (updZ fm (441 * x + 21 * y + z).toNat w) x y (z + -1) := by
  intro a b c ha hb hc q
  have h0 := th_20 hn hpv 0
  have h1 := th_20 hn hpv 1
  have h2 := th_20 hn hpv 2
  obtain ⟨x, rfl⟩ := Int.eq_ofNat_of_zero_le hx.1
  obtain ⟨y, rfl⟩ := Int.eq_ofNat_of_zero_le hy.1
  obtain ⟨z, rfl⟩ := Int.eq_ofNat_of_zero_le hz.1
  rw [show (441 * (x : Int) + 21 * y + z).toNat = 441 * x + 21 * y + z by omega]
  by_cases e : a = x ∧ b = y ∧ c = z
  · obtain ⟨rfl, rfl, rfl⟩ := e
    rw [updZ_same, hw, cn_V3 hn hpv ha hb hc h]
  · rw [updZ_ne _ _ (by omega)]
    exact h a b c ha hb hc (by omega)
theorem Ly_row {ka kb : Nat} {n : Int} {pv : Nat → Nat → Int} {fm : Nat → Int} {x y : Int} (h : LyP ka kb n pv fm x y (-1)) : LyP ka kb n pv fm x (y + -1) ((thZ n pv 2 : Nat) : Int) := fun a b c ha hb hc q => h a b c ha hb hc (by omega)
theorem Ly_lay {ka kb : Nat} {n : Int} {pv : Nat → Nat → Int} {fm : Nat → Int} {x : Int} (h : LyP ka kb n pv fm x (-1) ((thZ n pv 2 : Nat) : Int)) : LyP ka kb n pv fm (x + -1) ((thZ n pv 1 : Nat) : Int) ((thZ n pv 2 : Nat) : Int) := fun a b c ha hb hc q => h a b c ha hb hc (by omega)
theorem Ly_0 (ka kb : Nat) (n : Int) (pv : Nat → Nat → Int) (fm : Nat → Int) : LyP ka kb n pv fm ((thZ n pv 0 : Nat) : Int) ((thZ n pv 1 : Nat) : Int) ((thZ n pv 2 : Nat) : Int) := fun a b c ha hb hc q => by omega
theorem cnS_in {ka kb : Nat} {n : Int} {pv : Nat → Nat → Int} {fm : Nat → Int} {x y z : Int} (hn : 0 ≤ n ∧ n ≤ 3) (hpv : PanS pv) (hx : 0 ≤ x ∧ x ≤ ((thZ n pv 0 : Nat) : Int)) (hy : 0 ≤ y ∧ y ≤ ((thZ n pv 1 : Nat) : Int)) (hz : 0 ≤ z ∧ z ≤ ((thZ n pv 2 : Nat) : Int)) (h : LyP ka kb n pv fm x y z) : -100000 ≤ (cnS ka kb n pv fm x y z n.toNat).1 ∧ (cnS ka kb n pv fm x y z n.toNat).1 ≤ 100000 := by
  have h0 := th_20 hn hpv 0
  have h1 := th_20 hn hpv 1
  have h2 := th_20 hn hpv 2
  obtain ⟨x, rfl⟩ := Int.eq_ofNat_of_zero_le hx.1
  obtain ⟨y, rfl⟩ := Int.eq_ofNat_of_zero_le hy.1
  obtain ⟨z, rfl⟩ := Int.eq_ofNat_of_zero_le hz.1
  rw [cn_V3 hn hpv (by omega) (by omega) (by omega) h]
  have := V3_le (uOf_16 ka pv) (uOf_16 kb pv) (thZ n pv 0 + thZ n pv 1 + thZ n pv 2) (thZ n pv 0 - x) (thZ n pv 1 - y) (thZ n pv 2 - z) (by omega)
  omega
theorem Fm_up {fm : Nat → Int} {k : Nat} {w : Int} (h : FmB fm) (hw : -100000 ≤ w ∧ w ≤ 100000) : FmB (updZ fm k w) := by
  intro j
  unfold updZ
  split
  · exact hw
  · exact h j
/-- which pan is the first of the best -/
theorem cn_min {ka kb : Nat} {n : Int} {pv : Nat → Nat → Int} {fm : Nat → Int} {x y z : Int} : ∀ i : Nat, (cnS ka kb n pv fm x y z i = (0, -1) ∧ ∀ q, q < i → ¬ selZ q x y z < ((thZ n pv q : Nat) : Int)) ∨ (∃ q : Nat, q < i ∧ (cnS ka kb n pv fm x y z i).2 = (q : Int) ∧ selZ q x y z < ((thZ n pv q : Nat) : Int) ∧ mfZ ka kb pv fm q x y z = (cnS ka kb n pv fm x y z i).1 ∧ (∀ r : Nat, r < q → selZ r x y z < ((thZ n pv r : Nat) : Int) → ¬ mfZ ka kb pv fm r x y z = (cnS ka kb n pv fm x y z i).1) ∧ ∀ r : Nat, r < i → selZ r x y z < ((thZ n pv r : Nat) : Int) → (tkI (x + y + z) = 1 → mfZ ka kb pv fm r x y z ≤ (cnS ka kb n pv fm x y z i).1) ∧ (¬ tkI (x + y + z) = 1 → (cnS ka kb n pv fm x y z i).1 ≤ mfZ ka kb pv fm r x y z))
  | 0 => Or.inl ⟨rfl, fun q hq => absurd hq (Nat.not_lt_zero q)⟩
  | i + 1 => by
    by_cases hl : selZ i x y z < ((thZ n pv i : Nat) : Int)
    · refine Or.inr ?_
      have e := cnS_y (ka := ka) (kb := kb) (fm := fm) hl
      rcases cn_min (ka := ka) (kb := kb) (n := n) (pv := pv) (fm := fm) (x := x) (y := y) (z := z) i with ⟨h1, h2⟩ | ⟨q, h1, h2, h3, h4, h5, h6⟩
      · rw [h1, conB_y (Or.inl rfl)] at e
        rw [e]
        refine ⟨i, by omega, rfl, hl, rfl, fun r hr hr2 => absurd hr2 (h2 r hr), fun r hr hr2 => ?_⟩
        have : r = i := by
          rcases Nat.lt_or_ge r i with w | w
          · exact absurd hr2 (h2 r w)
          · omega
        subst this
        exact ⟨fun _ => Int.le_refl _, fun _ => Int.le_refl _⟩
      · by_cases hc : (cnS ka kb n pv fm x y z i).2 = -1 ∨ (tkI (x + y + z) = 1 ∧ (cnS ka kb n pv fm x y z i).1 < mfZ ka kb pv fm i x y z) ∨ (¬ tkI (x + y + z) = 1 ∧ mfZ ka kb pv fm i x y z < (cnS ka kb n pv fm x y z i).1)
        · rw [conB_y hc] at e
          rw [e]
          refine ⟨i, by omega, rfl, hl, rfl, fun r hr hr2 => ?_, fun r hr hr2 => ?_⟩
          · have := h6 r hr hr2
            dsimp only
            omega
          · dsimp only
            rcases Nat.lt_or_ge r i with w | w
            · have := h6 r w hr2
              omega
            · rw [show r = i by omega]
              exact ⟨fun _ => Int.le_refl _, fun _ => Int.le_refl _⟩
        · rw [conB_n hc] at e
          rw [e]
          refine ⟨q, by omega, h2, h3, h4, h5, fun r hr hr2 => ?_⟩
          rcases Nat.lt_or_ge r i with w | w
          · exact h6 r w hr2
          · rw [show r = i by omega]
            dsimp only
            omega
    · have e := cnS_n (ka := ka) (kb := kb) (fm := fm) hl
      rw [e]
      rcases cn_min (ka := ka) (kb := kb) (n := n) (pv := pv) (fm := fm) (x := x) (y := y) (z := z) i with ⟨h1, h2⟩ | ⟨q, h1, h2, h3, h4, h5, h6⟩
      · refine Or.inl ⟨h1, fun q hq => ?_⟩
        rcases Nat.lt_or_ge q i with w | w
        · exact h2 q w
        · rw [show q = i by omega]; exact hl
      · refine Or.inr ⟨q, by omega, h2, h3, h4, h5, fun r hr hr2 => ?_⟩
        rcases Nat.lt_or_ge r i with w | w
        · exact h6 r w hr2
        · exact absurd (by rw [show i = r by omega]; exact hr2) hl
/-- found, going down -/
def FdP (ok : Nat → Prop) (n y w : Int) : Prop := (w = -1 ∧ ∀ q : Nat, y < (q : Int) → (q : Int) < n → ¬ ok q) ∨ (∃ q : Nat, w = (q : Int) ∧ y < (q : Int) ∧ (q : Int) < n ∧ ok q ∧ ∀ r : Nat, y < (r : Int) → r < q → ¬ ok r)
theorem Fd_y {ok : Nat → Prop} {n y w : Int} (hy : 0 ≤ y ∧ y < n) (hok : ok y.toNat) (h : FdP ok n y w) : FdP ok n (y + -1) y := Or.inr ⟨y.toNat, by omega, by omega, by omega, hok, fun r h1 h2 => by omega⟩
theorem Fd_n {ok : Nat → Prop} {n y w : Int} (hy : 0 ≤ y ∧ y < n) (hok : ¬ ok y.toNat) (h : FdP ok n y w) : FdP ok n (y + -1) w := by
  have key : ∀ q : Nat, y + -1 < (q : Int) → ¬ y < (q : Int) → ¬ ok q := fun q h1 h2 => by rw [show q = y.toNat by omega]; exact hok
  rcases h with ⟨h1, h2⟩ | ⟨q, h1, h2, h3, h4, h5⟩
  · refine Or.inl ⟨h1, fun q h3 h4 => ?_⟩
    by_cases z : y < (q : Int)
    · exact h2 q z h4
    · exact key q h3 z
  · refine Or.inr ⟨q, h1, by omega, h3, h4, fun r h6 h7 => ?_⟩
    by_cases z : y < (r : Int)
    · exact h5 r z h7
    · exact key r h6 z
theorem Fd_e {ka kb : Nat} {n : Int} {pv : Nat → Nat → Int} {fm : Nat → Int} {w v : Int} (hv : v = (cnS ka kb n pv fm 0 0 0 n.toNat).1) (h : FdP (fun q => 0 < thZ n pv q ∧ mfZ ka kb pv fm q 0 0 0 = v) n (-1) w) : w = (cnS ka kb n pv fm 0 0 0 n.toNat).2 := by
  have hs : ∀ q : Nat, selZ q 0 0 0 = 0 := fun q => by unfold selZ; split; rfl; split <;> rfl
  subst hv
  rcases cn_min (ka := ka) (kb := kb) (n := n) (pv := pv) (fm := fm) (x := 0) (y := 0) (z := 0) n.toNat with ⟨h1, h2⟩ | ⟨q, h1, h2, h3, h4, h5, h6⟩
  · rcases h with ⟨g1, _⟩ | ⟨q, g1, g2, g3, g4, _⟩
    · rw [h1, g1]
    · have := h2 q (by omega)
      rw [hs] at this
      omega
  · rw [hs] at h3
    rcases h with ⟨_, g2⟩ | ⟨r, g1, g2, g3, g4, g5⟩
    · exact absurd ⟨by omega, h4⟩ (g2 q (by omega) (by omega))
    · rw [h2, g1]
      rcases Nat.lt_trichotomy q r with w | w | w
      · exact absurd ⟨by omega, h4⟩ (g5 q (by omega) w)
      · rw [w]
      · have := h5 r w (by rw [hs]; omega)
        exact absurd g4.2 this
theorem bf_st {tk u w u' now : Int} {S : Int × Int} {i : Nat} (hst : (w = 0 ∧ u = (if tk = 1 then -268435456 else 268435456) ∧ S = (0, -1)) ∨ (w = 1 ∧ u = S.1 ∧ ¬ S.2 = -1)) (hb : -200000 ≤ now ∧ now ≤ 200000) (hc : (tk = 1 ∧ u < now ∧ u' = now) ∨ (tk = 1 ∧ now ≤ u ∧ u' = u) ∨ (¬ tk = 1 ∧ now < u ∧ u' = now) ∨ (¬ tk = 1 ∧ u ≤ now ∧ u' = u)) : u' = (conB tk (i : Int) now S.1 S.2).1 ∧ ¬ (conB tk (i : Int) now S.1 S.2).2 = -1 := by
  rcases hst with ⟨h1, h2, h3⟩ | ⟨h1, h2, h3⟩
  · rw [h3, conB_y (Or.inl rfl)]
    refine ⟨?_, ?_⟩
    · show u' = now
      by_cases q : tk = 1
      · rw [if_pos q] at h2; omega
      · rw [if_neg q] at h2; omega
    · show ¬ (i : Int) = -1
      omega
  · by_cases q : (tk = 1 ∧ S.1 < now) ∨ (¬ tk = 1 ∧ now < S.1)
    · rw [conB_y (Or.inr q)]
      refine ⟨?_, ?_⟩
      · show u' = now
        omega
      · show ¬ (i : Int) = -1
        omega
    · rw [conB_n (fun z => by rcases z with z | z; exact h3 z; exact q z)]
      refine ⟨?_, h3⟩
      show u' = S.1
      omega
theorem tr_end {ka kb : Nat} {n : Int} {pv : Nat → Nat → Int} {fm : Nat → Int} (hn : 0 ≤ n ∧ n ≤ 3) (hpv : PanS pv) (h : LyP ka kb n pv fm (-1) ((thZ n pv 1 : Nat) : Int) ((thZ n pv 2 : Nat) : Int)) : fm 0 = (trV n pv ka kb).1 ∧ cnS ka kb n pv fm 0 0 0 n.toNat = trV n pv ka kb := by
  refine ⟨?_, ?_⟩
  · have := h 0 0 0 (Nat.zero_le _) (Nat.zero_le _) (Nat.zero_le _) (Or.inl (by decide))
    exact this
  · have h0 : LyP ka kb n pv fm ((0 : Nat) : Int) ((0 : Nat) : Int) ((0 : Nat) : Int) := fun a b c ha hb hc q => h a b c ha hb hc (Or.inl (by omega))
    exact cn_V3 (a := 0) (b := 0) (c := 0) hn hpv (Nat.zero_le _) (Nat.zero_le _) (Nat.zero_le _) h0
