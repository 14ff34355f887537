-- what one has by a row of pans, each 1 more (0: waiting); all rows, one behind another
def joW (a w : Int) : Int := if w = -1 then -1 else a + w
theorem joW_jo {a b x : Int} (hb : 0 ≤ b) (hx : -1 ≤ x) : joW a (joW b x) = joW (a + b) x := by
  unfold joW
  by_cases q : x = -1
  · rw [if_pos q, if_pos rfl, if_pos q]
  · rw [if_neg q, if_neg (by omega), if_neg q]
    omega
theorem joW_0 {x : Int} : joW 0 x = x := by
  unfold joW
  by_cases q : x = -1
  · rw [if_pos q, q]
  · rw [if_neg q]
    omega
def WBi (k : Nat) (n : Int) (f : Nat → Int) : Nat → Nat → (Nat → Nat → Int) → Int
  | 0, _, _ => 0
  | r + 1, i, pv => if f i = 0 then (if bareZ pv n.toNat = 1 then WBi k n f r (i + 1) (wtS n pv) else -1)
    else if topP (pv (f i - 1).toNat) = -1 then -1
    else joW (wOf k (topP (pv (f i - 1).toNat))) (WBi k n f r (i + 1) (wtS n (tkS pv (f i - 1).toNat)))
theorem WBi_w {k : Nat} {n : Int} {f : Nat → Int} {r i : Nat} {pv : Nat → Nat → Int} (h0 : f i = 0) (hb : bareZ pv n.toNat = 1) : WBi k n f (r + 1) i pv = WBi k n f r (i + 1) (wtS n pv) := by
  conv => lhs; unfold WBi
  rw [if_pos h0, if_pos hb]
theorem WBi_x0 {k : Nat} {n : Int} {f : Nat → Int} {r i : Nat} {pv : Nat → Nat → Int} (h0 : f i = 0) (hb : ¬ bareZ pv n.toNat = 1) : WBi k n f (r + 1) i pv = -1 := by
  conv => lhs; unfold WBi
  rw [if_pos h0, if_neg hb]
theorem WBi_x1 {k : Nat} {n : Int} {f : Nat → Int} {r i : Nat} {pv : Nat → Nat → Int} (h0 : ¬ f i = 0) (hb : topP (pv (f i - 1).toNat) = -1) : WBi k n f (r + 1) i pv = -1 := by
  conv => lhs; unfold WBi
  rw [if_neg h0, if_pos hb]
theorem WBi_t {k : Nat} {n : Int} {f : Nat → Int} {r i : Nat} {pv : Nat → Nat → Int} (h0 : ¬ f i = 0) (hb : ¬ topP (pv (f i - 1).toNat) = -1) : WBi k n f (r + 1) i pv = joW (wOf k (topP (pv (f i - 1).toNat))) (WBi k n f r (i + 1) (wtS n (tkS pv (f i - 1).toNat))) := by
  conv => lhs; unfold WBi
  rw [if_neg h0, if_neg hb]
theorem WBi_ge (k : Nat) (n : Int) (f : Nat → Int) : ∀ (r i : Nat) (pv : Nat → Nat → Int), -1 ≤ WBi k n f r i pv
  | 0, _, _ => by unfold WBi; omega
  | r + 1, i, pv => by
    unfold WBi
    split
    · split
      · exact WBi_ge k n f r _ _
      · omega
    · split
      · omega
      · have h1 := WBi_ge k n f r (i + 1) (wtS n (tkS pv (f i - 1).toNat))
        have h2 := wOf_in k (topP (pv (f i - 1).toNat))
        unfold joW
        split <;> omega
theorem WBi_cong (k : Nat) (n : Int) {f g : Nat → Int} : ∀ (r i : Nat) (pv : Nat → Nat → Int), (∀ j, i ≤ j → j < i + r → f j = g j) → WBi k n f r i pv = WBi k n g r i pv
  | 0, _, _, _ => rfl
  | r + 1, i, pv, h => by
    have e := h i (Nat.le_refl i) (by omega)
    have ih : ∀ pv, WBi k n f r (i + 1) pv = WBi k n g r (i + 1) pv := fun pv => WBi_cong k n r (i + 1) pv (fun j h1 h2 => h j (by omega) (by omega))
    unfold WBi
    rw [e, ih, ih]
theorem WBi_sh (k : Nat) (n : Int) (f : Nat → Int) : ∀ (r i : Nat) (pv : Nat → Nat → Int), WBi k n f r (i + 1) pv = WBi k n (fun j => f (j + 1)) r i pv
  | 0, _, _ => rfl
  | r + 1, i, pv => by
    have ih : ∀ pv, WBi k n f r (i + 1 + 1) pv = WBi k n (fun j => f (j + 1)) r (i + 1) pv := fun pv => WBi_sh k n f r (i + 1) pv
    unfold WBi
    rw [ih, ih]
-- the first of the best
def bsE (F : Nat → Int) : Nat → Int × Nat
  | 0 => (-1, 0)
  | e + 1 => if (bsE F e).1 < F e then (F e, e) else bsE F e
theorem bsE_y {F : Nat → Int} {e : Nat} (h : (bsE F e).1 < F e) : bsE F (e + 1) = (F e, e) := by
  conv => lhs; unfold bsE
  rw [if_pos h]
theorem bsE_n {F : Nat → Int} {e : Nat} (h : ¬ (bsE F e).1 < F e) : bsE F (e + 1) = bsE F e := by
  conv => lhs; unfold bsE
  rw [if_neg h]
theorem bsE_ge (F : Nat → Int) : ∀ e : Nat, -1 ≤ (bsE F e).1
  | 0 => by unfold bsE; dsimp only; omega
  | e + 1 => by
    have ih := bsE_ge F e
    by_cases h : (bsE F e).1 < F e
    · rw [bsE_y h]; dsimp only; omega
    · rw [bsE_n h]; exact ih
theorem bsE_cong {F G : Nat → Int} : ∀ {m : Nat}, (∀ e, e < m → F e = G e) → bsE F m = bsE G m
  | 0, _ => rfl
  | m + 1, h => by
    have ih := bsE_cong (m := m) (fun e he => h e (by omega))
    unfold bsE
    rw [ih, h m (by omega)]
theorem bsE_block (F : Nat → Int) (a : Nat) : ∀ m : Nat, bsE F (a + m) = if (bsE F a).1 < (bsE (fun e => F (a + e)) m).1 then ((bsE (fun e => F (a + e)) m).1, a + (bsE (fun e => F (a + e)) m).2) else bsE F a
  | 0 => by
    have h := bsE_ge F a
    have e : (bsE (fun e => F (a + e)) 0).1 = -1 := rfl
    rw [if_neg (by omega)]
    rfl
  | m + 1 => by
    have ih := bsE_block F a m
    rw [show a + (m + 1) = (a + m) + 1 by omega]
    by_cases h1 : (bsE F a).1 < (bsE (fun e => F (a + e)) m).1
    · rw [if_pos h1] at ih
      by_cases h2 : (bsE (fun e => F (a + e)) m).1 < F (a + m)
      · rw [bsE_y (F := F) (e := a + m) (by rw [ih]; exact h2), bsE_y (F := fun e => F (a + e)) (e := m) h2, if_pos (show (bsE F a).1 < F (a + m) by omega)]
      · rw [bsE_n (F := F) (e := a + m) (by rw [ih]; exact h2), bsE_n (F := fun e => F (a + e)) (e := m) h2, if_pos h1, ih]
    · rw [if_neg h1] at ih
      by_cases h2 : (bsE F a).1 < F (a + m)
      · rw [bsE_y (F := F) (e := a + m) (by rw [ih]; exact h2), bsE_y (F := fun e => F (a + e)) (e := m) (show (bsE (fun e => F (a + e)) m).1 < F (a + m) by omega), if_pos h2]
      · rw [bsE_n (F := F) (e := a + m) (by rw [ih]; exact h2), ih]
        by_cases h3 : (bsE (fun e => F (a + e)) m).1 < F (a + m)
        · rw [bsE_y (F := fun e => F (a + e)) (e := m) h3, if_neg h2]
        · rw [bsE_n (F := fun e => F (a + e)) (e := m) h3, if_neg h1]
theorem bsE_no {F : Nat → Int} : ∀ {m : Nat}, (∀ e, e < m → F e = -1) → bsE F m = (-1, 0)
  | 0, _ => rfl
  | m + 1, h => by
    have ih := bsE_no (m := m) (fun e he => h e (by omega))
    rw [bsE_n (by rw [ih, h m (by omega)]; decide), ih]
theorem bsE_jo {F : Nat → Int} {w : Int} (hw : 0 ≤ w) (hF : ∀ e, -1 ≤ F e) : ∀ m : Nat, bsE (fun e => joW w (F e)) m = (joW w (bsE F m).1, (bsE F m).2)
  | 0 => rfl
  | m + 1 => by
    have ih := bsE_jo hw hF m
    have h1 := bsE_ge F m
    have h2 := hF m
    by_cases h : (bsE F m).1 < F m
    · rw [bsE_y h, bsE_y (F := fun e => joW w (F e)) (by rw [ih]; show joW w (bsE F m).1 < joW w (F m); unfold joW; split <;> split <;> omega)]
    · rw [bsE_n h, bsE_n (F := fun e => joW w (F e)) (by rw [ih]; show ¬ joW w (bsE F m).1 < joW w (F m); unfold joW; split <;> split <;> omega), ih]
-- the rows by their numbers
def rwR (b : Nat) : Nat → Nat → (Nat → Int)
  | 0, _ => fun _ => 0
  | h + 1, e => fun j => if j = 0 then ((e / b ^ h : Nat) : Int) else rwR b h (e % b ^ h) (j - 1)
theorem rwR_hi (b : Nat) : ∀ (h e j : Nat), h ≤ j → rwR b h e j = 0
  | 0, _, _, _ => rfl
  | h + 1, e, j, q => by
    unfold rwR
    rw [if_neg (by omega)]
    exact rwR_hi b h _ _ (by omega)
theorem rwR_blk {b h d e : Nat} (he : e < b ^ h) : (rwR b (h + 1) (d * b ^ h + e) 0 = d) ∧ ∀ j, rwR b (h + 1) (d * b ^ h + e) (j + 1) = rwR b h e j := by
  have hp : 0 < b ^ h := by omega
  have e1 : (d * b ^ h + e) / b ^ h = d := by
    rw [Nat.mul_comm, Nat.mul_add_div hp, Nat.div_eq_of_lt he]
    rfl
  have e2 : (d * b ^ h + e) % b ^ h = e := by
    rw [Nat.mul_comm, Nat.mul_add_mod, Nat.mod_eq_of_lt he]
  refine ⟨?_, fun j => ?_⟩
  · unfold rwR
    rw [if_pos rfl, e1]
  · conv => lhs; unfold rwR
    rw [if_neg (by omega), e2, Nat.add_sub_cancel]
/-- the number of a row -/
def evB (B : Int) (f : Nat → Int) : Nat → Int
  | 0 => 0
  | k + 1 => evB B f k * B + f k
theorem evB_cong {B : Int} {f g : Nat → Int} : ∀ {h : Nat}, (∀ j, j < h → f j = g j) → evB B f h = evB B g h
  | 0, _ => rfl
  | h + 1, q => by
    unfold evB
    rw [evB_cong (h := h) (fun j hj => q j (by omega)), q h (by omega)]
theorem evB_sh (B : Int) (f : Nat → Int) : ∀ h : Nat, evB B f (h + 1) = f 0 * B ^ h + evB B (fun j => f (j + 1)) h
  | 0 => by
    show 0 * B + f 0 = f 0 * B ^ 0 + 0
    rw [Int.pow_zero]
    omega
  | h + 1 => by
    have ih := evB_sh B f h
    show evB B f (h + 1) * B + f (h + 1) = f 0 * B ^ (h + 1) + (evB B (fun j => f (j + 1)) h * B + f (h + 1))
    rw [ih, Int.pow_succ, Int.add_mul, Int.mul_assoc]
    omega
theorem evB_in {B : Int} {f : Nat → Int} (hB : 0 < B) : ∀ {h : Nat}, (∀ j, j < h → 0 ≤ f j ∧ f j < B) → 0 ≤ evB B f h ∧ evB B f h < B ^ h
  | 0, _ => by
    unfold evB
    rw [Int.pow_zero]
    omega
  | h + 1, q => by
    have ih := evB_in hB (h := h) (fun j hj => q j (by omega))
    have h1 := q h (by omega)
    unfold evB
    rw [Int.pow_succ]
    have h2 : 0 ≤ evB B f h * B := Int.mul_nonneg ih.1 (by omega)
    have h3 : (evB B f h + 1) * B ≤ B ^ h * B := Int.mul_le_mul_of_nonneg_right (by omega) (by omega)
    rw [Int.add_mul] at h3
    omega
theorem row_dig {b : Nat} (hb : 0 < b) : ∀ {h : Nat} {f : Nat → Int} {e : Nat}, (∀ j, j < h → 0 ≤ f j ∧ f j < (b : Int)) → evB (b : Int) f h = e → ∀ j, j < h → f j = rwR b h e j
  | 0, _, _, _, _, j, hj => absurd hj (Nat.not_lt_zero j)
  | h + 1, f, e, hd, he, j, hj => by
    have h0 := hd 0 (by omega)
    have hs : ∀ j, j < h → 0 ≤ f (j + 1) ∧ f (j + 1) < (b : Int) := fun j hj => hd (j + 1) (by omega)
    have hi := evB_in (B := (b : Int)) (f := fun j => f (j + 1)) (by omega) hs
    rw [evB_sh] at he
    obtain ⟨d, hd0⟩ := Int.eq_ofNat_of_zero_le h0.1
    obtain ⟨r, hr⟩ := Int.eq_ofNat_of_zero_le hi.1
    have hp : ((b : Int)) ^ h = ((b ^ h : Nat) : Int) := by rw [Int.natCast_pow]
    rw [hr, hp] at hi
    have hlt : r < b ^ h := by omega
    have hee : e = d * b ^ h + r := by
      rw [hd0, hr, hp, ← Int.natCast_mul, ← Int.natCast_add] at he
      omega
    have hk := rwR_blk (b := b) (h := h) (d := d) hlt
    rw [hee]
    rcases Nat.eq_zero_or_pos j with q | q
    · subst q
      rw [hk.1, hd0]
    · obtain ⟨i, rfl⟩ : ∃ i, j = i + 1 := ⟨j - 1, by omega⟩
      rw [hk.2 i]
      exact row_dig hb (h := h) (f := fun j => f (j + 1)) hs hr i (by omega)
-- the next row
def zrT (f : Nat → Int) (i h : Nat) : Nat → Int := fun j => if i ≤ j ∧ j < h then 0 else f j
theorem zrT_h {f : Nat → Int} {i h : Nat} (q : h ≤ i) : zrT f i h = f := by
  funext j
  exact if_neg (by omega)
theorem zrT_st {f : Nat → Int} {i h : Nat} (q : i < h) : updZ (zrT f (i + 1) h) i 0 = zrT f i h := by
  funext j
  unfold updZ zrT
  by_cases e : j = i
  · rw [if_pos e, if_pos (by omega)]
  · rw [if_neg e]
    by_cases e2 : i + 1 ≤ j ∧ j < h
    · rw [if_pos e2, if_pos (by omega)]
    · rw [if_neg e2, if_neg (by omega)]
theorem evB_nn {n : Int} {f : Nat → Int} {i : Nat} : ∀ {m : Nat}, (∀ j, i ≤ j → j < i + m → f j = n) → evB (n + 1) f (i + m) + 1 = (evB (n + 1) f i + 1) * (n + 1) ^ m
  | 0, _ => by
    rw [Int.pow_zero, Int.mul_one]
    rfl
  | m + 1, h => by
    have ih := evB_nn (m := m) (fun j h1 h2 => h j h1 (by omega))
    show evB (n + 1) f (i + m) * (n + 1) + f (i + m) + 1 = _
    rw [h (i + m) (by omega) (by omega), Int.pow_succ, ← Int.mul_assoc, ← ih, Int.add_mul]
    omega
theorem evB_00 {B : Int} {f : Nat → Int} {i : Nat} : ∀ {m : Nat}, (∀ j, i ≤ j → j < i + m → f j = 0) → evB B f (i + m) = evB B f i * B ^ m
  | 0, _ => by
    rw [Int.pow_zero, Int.mul_one]
    rfl
  | m + 1, h => by
    have ih := evB_00 (B := B) (m := m) (fun j h1 h2 => h j h1 (by omega))
    show evB B f (i + m) * B + f (i + m) = _
    rw [h (i + m) (by omega) (by omega), Int.pow_succ, ← Int.mul_assoc, ← ih]
    omega
theorem nx_all {n : Int} {f : Nat → Int} {h : Nat} (ha : ∀ j : Nat, j < h → f j = n) : evB (n + 1) f h + 1 = (n + 1) ^ h := by
  have := evB_nn (n := n) (f := f) (i := 0) (m := h) (fun j _ h2 => ha j (by omega))
  rw [Nat.zero_add] at this
  rw [this]
  show (0 + 1) * _ = _
  rw [Int.zero_add, Int.one_mul]
theorem nx_suc {n : Int} {f : Nat → Int} {h i : Nat} {w : Int} (hi : i < h) (ha : ∀ j : Nat, i < j → j < h → f j = n) (hr : ∀ j, j < h → 0 ≤ f j ∧ f j ≤ n) (hne : ¬ f i = n) (hw : w = f i + 1) : evB (n + 1) (updZ (zrT f (i + 1) h) i w) h = evB (n + 1) f h + 1 ∧ ∀ j, j < h → 0 ≤ updZ (zrT f (i + 1) h) i w j ∧ updZ (zrT f (i + 1) h) i w j ≤ n := by
  obtain ⟨m, rfl⟩ : ∃ m, h = (i + 1) + m := ⟨h - (i + 1), by omega⟩
  have e1 := evB_nn (n := n) (f := f) (i := i + 1) (m := m) (fun j h1 h2 => ha j (by omega) h2)
  have e2 := evB_00 (B := n + 1) (f := updZ (zrT f (i + 1) (i + 1 + m)) i w) (i := i + 1) (m := m) (fun j h1 h2 => by
    rw [updZ_ne _ _ (by omega)]
    exact if_pos ⟨h1, h2⟩)
  have e3 : evB (n + 1) (updZ (zrT f (i + 1) (i + 1 + m)) i w) (i + 1) = evB (n + 1) f (i + 1) + 1 := by
    show evB (n + 1) _ i * (n + 1) + updZ _ i w i = evB (n + 1) f i * (n + 1) + f i + 1
    rw [updZ_same, hw, evB_cong (g := f) (h := i) (fun j hj => by
      rw [updZ_ne _ _ (by omega)]
      exact if_neg (by omega))]
    omega
  refine ⟨?_, fun j hj => ?_⟩
  · rw [e1, e2, e3]
  · have h1 := hr j hj
    have h2 := hr i hi
    unfold updZ zrT
    split
    · omega
    · split <;> omega
-- the best of all rows is the plan
theorem bare_top {pv : Nat → Nat → Int} : ∀ {m : Nat}, bareZ pv m = 1 → ∀ i, i < m → topP (pv i) = -1
  | 0, _, i, hi => absurd hi (Nat.not_lt_zero i)
  | m + 1, h, i, hi => by
    unfold bareZ at h
    by_cases q : topP (pv m) = -1
    · rw [if_pos q] at h
      rcases Nat.lt_or_ge i m with z | z
      · exact bare_top h i z
      · rw [show i = m by omega]; exact q
    · rw [if_neg q] at h
      exact absurd h (by decide)
def FFp (k : Nat) (n : Int) (h : Nat) (pv : Nat → Nat → Int) (e : Nat) : Int := WBi k n (rwR (n.toNat + 1) h e) h 0 pv
theorem FF_blk {k : Nat} {n : Int} {h : Nat} {pv : Nat → Nat → Int} {d e : Nat} (he : e < (n.toNat + 1) ^ h) : FFp k n (h + 1) pv (d * (n.toNat + 1) ^ h + e) = (if d = 0 then (if bareZ pv n.toNat = 1 then FFp k n h (wtS n pv) e else -1) else if topP (pv (d - 1)) = -1 then -1 else joW (wOf k (topP (pv (d - 1)))) (FFp k n h (wtS n (tkS pv (d - 1))) e)) := by
  obtain ⟨h1, h2⟩ := rwR_blk (b := n.toNat + 1) (h := h) (d := d) he
  have hs : ∀ pv', WBi k n (rwR (n.toNat + 1) (h + 1) (d * (n.toNat + 1) ^ h + e)) h 1 pv' = FFp k n h pv' e := by
    intro pv'
    rw [WBi_sh]
    exact WBi_cong k n h 0 pv' (fun j _ _ => h2 j)
  unfold FFp
  conv => lhs; unfold WBi
  rw [h1, hs, hs]
  by_cases q : d = 0
  · subst q
    rfl
  · rw [if_neg (show ¬ ((d : Nat) : Int) = 0 by omega), if_neg q, show (((d : Nat) : Int) - 1).toNat = d - 1 by omega]
    rfl
theorem dig4 {d : Nat} {P : Int} (hd : d ≤ 3) : (((d : Int) + 4 * P) / 4 ^ 0 % 4 = d) ∧ ∀ j : Nat, ((d : Int) + 4 * P) / 4 ^ (j + 1) % 4 = P / 4 ^ j % 4 := by
  refine ⟨?_, fun j => ?_⟩
  · rw [Int.pow_zero, Int.ediv_one]
    omega
  · rw [Int.pow_succ, Int.mul_comm (4 ^ j) 4, ← Int.ediv_ediv_of_nonneg (by decide), show ((d : Int) + 4 * P) / 4 = P by omega]
def DgE (b h E : Nat) (P : Int) : Prop := E < b ^ h ∧ ∀ j, rwR b h E j = P / 4 ^ j % 4
theorem DgE_c {b h E d : Nat} {P : Int} (hd : d ≤ 3) (hb : d < b) (h0 : DgE b h E P) : DgE b (h + 1) (d * b ^ h + E) (d + 4 * P) := by
  obtain ⟨h1, h2⟩ := h0
  obtain ⟨e1, e2⟩ := rwR_blk (b := b) (h := h) (d := d) h1
  obtain ⟨f1, f2⟩ := dig4 (P := P) hd
  refine ⟨?_, fun j => ?_⟩
  · have : (d + 1) * b ^ h ≤ b * b ^ h := Nat.mul_le_mul_right _ (by omega)
    rw [Nat.pow_succ, Nat.mul_comm (b ^ h) b]
    rw [Nat.add_mul] at this
    omega
  · rcases Nat.eq_zero_or_pos j with q | q
    · subst q
      rw [e1, f1]
    · obtain ⟨i, rfl⟩ : ∃ i, j = i + 1 := ⟨j - 1, by omega⟩
      rw [e2, f2, h2]
theorem DgE_0 {b h : Nat} (hb : 0 < b) : DgE b h 0 0 := by
  refine ⟨Nat.pow_pos hb, ?_⟩
  have key : ∀ (h j : Nat), rwR b h 0 j = 0 := by
    intro h
    induction h with
    | zero => intro j; rfl
    | succ h ih =>
      intro j
      unfold rwR
      split
      · rw [Nat.zero_div]; rfl
      · rw [Nat.zero_mod]; exact ih _
  intro j
  rw [key, Int.zero_ediv]
  rfl
theorem plan_eq (k : Nat) {n : Int} (hn : 1 ≤ n ∧ n ≤ 3) : ∀ (h : Nat) (pv : Nat → Nat → Int), ∃ E : Nat, bsE (FFp k n h pv) ((n.toNat + 1) ^ h) = ((PL k n h pv).1, E) ∧ DgE (n.toNat + 1) h E (PL k n h pv).2
  | 0, pv => by
    refine ⟨0, ?_, DgE_0 (by omega)⟩
    show (if (-1 : Int) < 0 then ((0 : Int), 0) else _) = _
    rw [if_pos (by decide)]
    rfl
  | h + 1, pv => by
    have ih := plan_eq k hn h
    have hM : 0 < (n.toNat + 1) ^ h := Nat.pow_pos (by omega)
    have hno : ∀ D : Nat, (∀ e, e < (n.toNat + 1) ^ h → FFp k n (h + 1) pv (D * (n.toNat + 1) ^ h + e) = -1) → bsE (FFp k n (h + 1) pv) ((D + 1) * (n.toNat + 1) ^ h) = bsE (FFp k n (h + 1) pv) (D * (n.toNat + 1) ^ h) := by
      intro D hD
      have h1 := bsE_ge (FFp k n (h + 1) pv) (D * (n.toNat + 1) ^ h)
      rw [show (D + 1) * (n.toNat + 1) ^ h = D * (n.toNat + 1) ^ h + (n.toNat + 1) ^ h by rw [Nat.add_mul, Nat.one_mul], bsE_block, bsE_no hD, if_neg (show ¬ (bsE (FFp k n (h + 1) pv) (D * (n.toNat + 1) ^ h)).1 < -1 by omega)]
    have e0 : (n.toNat + 1) ^ (h + 1) = (n.toNat + 1) * (n.toNat + 1) ^ h := by rw [Nat.pow_succ, Nat.mul_comm]
    rw [e0]
    by_cases hb : bareZ pv n.toNat = 1
    · obtain ⟨E, h1, h2⟩ := ih (wtS n pv)
      have hp := (PL_in k (show 0 ≤ n ∧ n ≤ 3 by omega) h (wtS n pv)).1.1
      have key : ∀ i : Nat, i ≤ n.toNat → bsE (FFp k n (h + 1) pv) ((i + 1) * (n.toNat + 1) ^ h) = ((PL k n h (wtS n pv)).1, E) := by
        intro i
        induction i with
        | zero =>
          intro _
          have e2 : ∀ e, e < (n.toNat + 1) ^ h → FFp k n (h + 1) pv (0 * (n.toNat + 1) ^ h + e) = FFp k n h (wtS n pv) e := fun e he => by
            rw [FF_blk (d := 0) he, if_pos rfl, if_pos hb]
          rw [show (0 + 1) * (n.toNat + 1) ^ h = 0 * (n.toNat + 1) ^ h + (n.toNat + 1) ^ h by rw [Nat.add_mul, Nat.one_mul], bsE_block, bsE_cong e2, h1, show bsE (FFp k n (h + 1) pv) (0 * (n.toNat + 1) ^ h) = (-1, 0) by rw [Nat.zero_mul]; rfl, if_pos (show (-1 : Int) < (PL k n h (wtS n pv)).1 by omega), Nat.zero_mul, Nat.zero_add]
        | succ i ihi =>
          intro hi
          rw [hno (i + 1) (fun e he => by rw [FF_blk (d := i + 1) he, if_neg (by omega), if_pos (bare_top hb (i + 1 - 1) (by omega))])]
          exact ihi (by omega)
      refine ⟨E, ?_, ?_⟩
      · rw [key n.toNat (Nat.le_refl _), PL_bare hb]
      · rw [PL_bare hb]
        have := DgE_c (b := n.toNat + 1) (d := 0) (by omega) (by omega) h2
        rw [Nat.zero_mul, Nat.zero_add] at this
        rw [show 4 * (PL k n h (wtS n pv)).2 = ((0 : Nat) : Int) + 4 * (PL k n h (wtS n pv)).2 by omega]
        exact this
    · rw [PL_go hb]
      have key : ∀ i : Nat, i ≤ n.toNat → ∃ E : Nat, bsE (FFp k n (h + 1) pv) ((i + 1) * (n.toNat + 1) ^ h) = ((bst (fun i => (wOf k (topP (pv i)) + (PL k n h (wtS n (tkS pv i))).1, (PL k n h (wtS n (tkS pv i))).2)) (fun i => topP (pv i)) i).1, E) ∧ DgE (n.toNat + 1) (h + 1) E (bst (fun i => (wOf k (topP (pv i)) + (PL k n h (wtS n (tkS pv i))).1, (PL k n h (wtS n (tkS pv i))).2)) (fun i => topP (pv i)) i).2 := by
        intro i
        induction i with
        | zero =>
          intro _
          refine ⟨0, ?_, DgE_0 (by omega)⟩
          rw [hno 0 (fun e he => by rw [FF_blk (d := 0) he, if_pos rfl, if_neg hb]), Nat.zero_mul]
          rfl
        | succ i ihi =>
          intro hi
          obtain ⟨E, h1, h2⟩ := ihi (by omega)
          by_cases ht : topP (pv i) = -1
          · refine ⟨E, ?_, ?_⟩
            · rw [hno (i + 1) (fun e he => by rw [FF_blk (d := i + 1) he, if_neg (by omega), if_pos (show topP (pv (i + 1 - 1)) = -1 from ht)]), h1]
              conv => rhs; unfold bst
              rw [if_pos ht]
            · conv => rhs; unfold bst
              rw [if_pos ht]
              exact h2
          · obtain ⟨E', h3, h4⟩ := ih (wtS n (tkS pv i))
            have hw := wOf_in k (topP (pv i))
            have hp := (PL_in k (show 0 ≤ n ∧ n ≤ 3 by omega) h (wtS n (tkS pv i))).1.1
            have e2 : ∀ e, e < (n.toNat + 1) ^ h → FFp k n (h + 1) pv ((i + 1) * (n.toNat + 1) ^ h + e) = joW (wOf k (topP (pv i))) (FFp k n h (wtS n (tkS pv i)) e) := fun e he => by
              rw [FF_blk (d := i + 1) he, if_neg (by omega), if_neg (show ¬ topP (pv (i + 1 - 1)) = -1 from ht)]
              rfl
            have e3 : bsE (FFp k n (h + 1) pv) ((i + 1 + 1) * (n.toNat + 1) ^ h) = if (bst (fun i => (wOf k (topP (pv i)) + (PL k n h (wtS n (tkS pv i))).1, (PL k n h (wtS n (tkS pv i))).2)) (fun i => topP (pv i)) i).1 < wOf k (topP (pv i)) + (PL k n h (wtS n (tkS pv i))).1 then (wOf k (topP (pv i)) + (PL k n h (wtS n (tkS pv i))).1, (i + 1) * (n.toNat + 1) ^ h + E') else bsE (FFp k n (h + 1) pv) ((i + 1) * (n.toNat + 1) ^ h) := by
              rw [show (i + 1 + 1) * (n.toNat + 1) ^ h = (i + 1) * (n.toNat + 1) ^ h + (n.toNat + 1) ^ h by rw [Nat.add_mul (i + 1), Nat.one_mul], bsE_block, bsE_cong e2, bsE_jo (F := FFp k n h (wtS n (tkS pv i))) hw.1 (fun e => WBi_ge _ _ _ _ _ _), h3, h1]
              dsimp only
              rw [show joW (wOf k (topP (pv i))) (PL k n h (wtS n (tkS pv i))).1 = wOf k (topP (pv i)) + (PL k n h (wtS n (tkS pv i))).1 from if_neg (by omega)]
            by_cases hc : (bst (fun i => (wOf k (topP (pv i)) + (PL k n h (wtS n (tkS pv i))).1, (PL k n h (wtS n (tkS pv i))).2)) (fun i => topP (pv i)) i).1 < wOf k (topP (pv i)) + (PL k n h (wtS n (tkS pv i))).1
            · refine ⟨(i + 1) * (n.toNat + 1) ^ h + E', ?_, ?_⟩
              · rw [e3, if_pos hc]
                conv => rhs; unfold bst
                rw [if_neg ht, if_pos hc]
              · conv => rhs; unfold bst
                rw [if_neg ht, if_pos hc]
                exact DgE_c (by omega) (by omega) h4
            · refine ⟨E, ?_, ?_⟩
              · rw [e3, if_neg hc, h1]
                conv => rhs; unfold bst
                rw [if_neg ht, if_neg hc]
              · conv => rhs; unfold bst
                rw [if_neg ht, if_neg hc]
                exact h2
      exact key n.toNat (Nat.le_refl _)
-- the pans, as they are tried
theorem pl_tk {n N : Int} {V : Nat → Nat → Int} (hN : 0 ≤ N) (h1 : PanS V) (h2 : ∀ j, j < n.toNat → PanG N (V j)) (p : Nat) : PanS (va_up V p (takeP (V p))) ∧ ∀ j, j < n.toNat → PanG N (va_up V p (takeP (V p)) j) := by
  refine ⟨fun j hj => ?_, fun j hj => ?_⟩
  · by_cases q : j = p
    · subst q
      rw [va_up_s]
      exact (PanB_take (N := 100000) (by omega) ⟨h1 j hj, (h1 j hj).2.1.2⟩).1
    · rw [va_up_n _ _ q]
      exact h1 j hj
  · by_cases q : j = p
    · subst q
      rw [va_up_s]
      exact PanB_take hN (h2 j hj)
    · rw [va_up_n _ _ q]
      exact h2 j hj
theorem pl_wt {n N : Int} {V : Nat → Nat → Int} (hN : N < 100000) (h1 : PanS V) (h2 : ∀ j, j < n.toNat → PanG N (V j)) : PanS (wtS n V) ∧ ∀ j, j < n.toNat → PanG (N + 1) (wtS n V j) := by
  refine ⟨fun j hj => ?_, fun j hj => ?_⟩
  · unfold wtS catTo
    split
    · rename_i q
      exact (PanB_hour hN (h2 j q)).1
    · exact h1 j hj
  · unfold wtS catTo
    rw [if_pos hj]
    exact PanB_hour hN (h2 j hj)
theorem tk_0 (V : Nat → Nat → Int) (p j : Nat) : va_up V p (takeP (V p)) j 0 = V j 0 := by
  by_cases q : j = p
  · subst q
    rw [va_up_s]
    rfl
  · rw [va_up_n _ _ q]
theorem wt_0 (n : Int) (V : Nat → Nat → Int) (j : Nat) : wtS n V j 0 = V j 0 := hourV_0 (t := 0) (u := 0) j
theorem WBi_le (k : Nat) (n : Int) (f : Nat → Int) : ∀ (r i : Nat) (pv : Nat → Nat → Int), WBi k n f r i pv ≤ 16 * (r : Int)
  | 0, _, _ => by unfold WBi; omega
  | r + 1, i, pv => by
    unfold WBi
    split
    · split
      · have := WBi_le k n f r (i + 1) (wtS n pv)
        omega
      · omega
    · split
      · omega
      · have h1 := WBi_le k n f r (i + 1) (wtS n (tkS pv (f i - 1).toNat))
        have h2 := wOf_in k (topP (pv (f i - 1).toNat))
        unfold joW
        split <;> omega
theorem bsE_le {F : Nat → Int} {B : Int} (hB : -1 ≤ B) (hF : ∀ e, F e ≤ B) : ∀ e : Nat, (bsE F e).1 ≤ B
  | 0 => hB
  | e + 1 => by
    by_cases h : (bsE F e).1 < F e
    · rw [bsE_y h]; exact hF e
    · rw [bsE_n h]; exact bsE_le hB hF e
