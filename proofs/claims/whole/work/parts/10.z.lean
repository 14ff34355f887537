-- Numbers: an Int32 by an Int
def iI (z : Int) : Int32 := Int32.ofInt z
abbrev InR (z : Int) : Prop := -2147483648 ≤ z ∧ z < 2147483648
theorem iI_toInt {z : Int} (h : InR z) : (iI z).toInt = z := by
  unfold iI
  rw [Int32.toInt_ofInt]
  apply Int.bmod_eq_of_le <;> (unfold Int32.size; omega)
theorem iI_of (x : Int32) : ∃ z : Int, InR z ∧ x = iI z := by
  refine ⟨x.toInt, ⟨?_, ?_⟩, ?_⟩
  · have := x.le_toInt; omega
  · have := x.toInt_lt; omega
  · unfold iI; exact (Int32.ofInt_toInt x).symm
theorem iI_add (a b : Int) : iI a + iI b = iI (a + b) := (Int32.ofInt_add a b).symm
theorem iI_sub (a b : Int) : iI a - iI b = iI (a - b) := (Int32.ofInt_sub a b).symm
theorem iI_mul (a b : Int) : iI a * iI b = iI (a * b) := (Int32.ofInt_mul a b).symm
theorem iI_neg (a : Int) : -iI a = iI (-a) := (Int32.ofInt_neg a).symm
theorem iI_lt {a b : Int} (h : InR a ∧ InR b) : iI a < iI b ↔ a < b := by
  rw [Int32.lt_iff_toInt_lt, iI_toInt h.1, iI_toInt h.2]
theorem iI_le {a b : Int} (h : InR a ∧ InR b) : iI a ≤ iI b ↔ a ≤ b := by
  rw [Int32.le_iff_toInt_le, iI_toInt h.1, iI_toInt h.2]
theorem iI_eq {a b : Int} (h : InR a ∧ InR b) : iI a = iI b ↔ a = b := by
  constructor
  · intro q
    have := congrArg Int32.toInt q
    rwa [iI_toInt h.1, iI_toInt h.2] at this
  · intro q; rw [q]
theorem iI_0 : iI 0 = 0 := rfl
theorem iI_nI (n : Nat) : iI (n : Int) = nI n := rfl
theorem iI_clamp {z : Int} (h : InR z) : (iI z).toNatClampNeg = z.toNat := by
  unfold Int32.toNatClampNeg
  rw [iI_toInt h]
theorem iI_in {z : Int} {n : Nat} (h : 0 ≤ z ∧ z < n ∧ n < 2147483648) : vp_in (iI z) n := by
  rw [vp_in_iff, iI_toInt ⟨by omega, by omega⟩]
  omega
theorem iI_div {a d : Int} (h : (0 ≤ a ∧ a < 2147483648) ∧ (0 < d ∧ d < 2147483648)) : iI a / iI d = iI (a / d) := by
  obtain ⟨n, rfl⟩ := Int.eq_ofNat_of_zero_le h.1.1
  obtain ⟨k, rfl⟩ := Int.eq_ofNat_of_zero_le (show 0 ≤ d by omega)
  exact pk_div (a := n) (d := k) (by omega) (by omega) (by omega)
theorem iI_rem {a d : Int} (h : (0 ≤ a ∧ a < 2147483648) ∧ (0 < d ∧ d < 2147483648)) : iI a - iI a / iI d * iI d = iI (a % d) := by
  rw [iI_div h, iI_mul, iI_sub, Int.emod_def, Int.mul_comm]
def updZ (f : Nat → Int) (k : Nat) (x : Int) : Nat → Int := fun j => if j = k then x else f j
theorem updZ_same (f : Nat → Int) (k : Nat) (x : Int) : updZ f k x k = x := if_pos rfl
theorem updZ_ne (f : Nat → Int) {k j : Nat} (x : Int) (h : j ≠ k) : updZ f k x j = f j := if_neg h
theorem upd_iI (f : Nat → Int) (k : Nat) (x : Int) : upd (fun j => iI (f j)) k (iI x) = fun j => iI (updZ f k x j) := by
  funext j
  unfold upd updZ
  split <;> rfl
-- Worlds: parts by rearrangement
theorem zp_perm {D : va_G} {cl : List vw_C} {w w' : va_W} {H : Heap} (h : va_P D cl w H) (hp : w.Perm w') : va_P D cl w' H := by
  intro k q hk
  obtain ⟨i, hi⟩ := List.getElem?_of_mem (hp.mem_iff.mpr (List.mem_of_getElem? hk))
  exact h i q hi
/-- apart, said of the list of addresses -/
theorem zd_iff {A : Nat → Prop} {w : va_W} : va_D A w ↔ (w.map Prod.fst).Nodup ∧ ∀ q ∈ w, A q.1 := by
  constructor
  · intro h
    refine ⟨?_, fun q hq => ?_⟩
    · refine List.pairwise_iff_getElem.mpr ?_
      intro i j hi hj hij he
      rw [List.getElem_map, List.getElem_map] at he
      rw [List.length_map] at hi hj
      have := h.1 i j _ _ (List.getElem?_eq_getElem hi) (List.getElem?_eq_getElem hj) he
      omega
    · obtain ⟨i, hi⟩ := List.getElem?_of_mem hq
      exact h.2 i q hi
  · intro h
    refine ⟨fun i j p q hi hj he => ?_, fun k q hk => h.2 q (List.mem_of_getElem? hk)⟩
    obtain ⟨hil, ei⟩ := List.getElem?_eq_some_iff.mp hi
    obtain ⟨hjl, ej⟩ := List.getElem?_eq_some_iff.mp hj
    have hn := List.pairwise_iff_getElem.mp h.1
    have key : ∀ (a b : Nat) (ha : a < w.length) (hb : b < w.length), a < b → w[a].1 ≠ w[b].1 := by
      intro a b ha hb hab
      have := hn a b (by rw [List.length_map]; exact ha) (by rw [List.length_map]; exact hb) hab
      rwa [List.getElem_map, List.getElem_map] at this
    rcases Nat.lt_trichotomy i j with q1 | q1 | q1
    · exact absurd (by rw [ei, ej]; exact he) (key i j hil hjl q1)
    · exact q1
    · exact absurd (by rw [ei, ej]; exact he.symm) (key j i hjl hil q1)
theorem zd_perm {A : Nat → Prop} {w w' : va_W} (h : va_D A w) (hp : w.Perm w') : va_D A w' := by
  rw [zd_iff] at h ⊢
  exact ⟨(hp.map Prod.fst).nodup_iff.mp h.1, fun q hq => h.2 q (hp.mem_iff.mpr hq)⟩
theorem zp_app {D : va_G} {cl : List vw_C} {w1 w2 : va_W} {H : Heap} : va_P D cl (w1 ++ w2) H ↔ va_P D cl w1 H ∧ va_P D cl w2 H := by
  constructor
  · intro h
    refine ⟨fun k q hk => ?_, fun k q hk => ?_⟩
    · obtain ⟨i, hi⟩ := List.getElem?_of_mem (List.mem_append_left w2 (List.mem_of_getElem? hk))
      exact h i q hi
    · obtain ⟨i, hi⟩ := List.getElem?_of_mem (List.mem_append_right w1 (List.mem_of_getElem? hk))
      exact h i q hi
  · intro h
    exact va_P.app h.1 h.2
theorem zd_left {A : Nat → Prop} {w1 w2 : va_W} (h : va_D A (w1 ++ w2)) : va_D A w1 := by
  rw [zd_iff] at h ⊢
  refine ⟨?_, fun q hq => h.2 q (List.mem_append_left _ hq)⟩
  have := h.1
  rw [List.map_append] at this
  exact (List.nodup_append.mp this).1
theorem za_iff {w : va_W} {sz q : Nat} : va_A w sz q ↔ q ∈ w.map Prod.fst ∨ sz ≤ q := by
  unfold va_A
  constructor
  · rintro (⟨k, e, h⟩ | h)
    · exact Or.inl (List.mem_map.mpr ⟨_, List.mem_of_getElem? h, rfl⟩)
    · exact Or.inr h
  · rintro (h | h)
    · obtain ⟨⟨a, e⟩, h1, rfl⟩ := List.mem_map.mp h
      obtain ⟨i, hi⟩ := List.getElem?_of_mem h1
      exact Or.inl ⟨i, e, hi⟩
    · exact Or.inr h
/-- behind a call: the callee's cells come back, the rest is as it was -/
theorem z_join {A0 : Nat → Prop} {D : va_G} {cl : List vw_C} {wc wr w1 : va_W} {H H1 : Heap} (hP : va_P D cl (wc ++ wr) H) (hD : va_D A0 (wc ++ wr))
    (hk : ∀ q : Nat, q < H.size → ¬ va_A wc H.size q → H1[q]? = H[q]?) (hF : ∀ q, va_A wc H.size q → A0 q) (hP1 : va_P D cl w1 H1) (hD1 : va_D (va_A wc H.size) w1) : va_P D cl (w1 ++ wr) H1 ∧ va_D A0 (w1 ++ wr) := by
  have hdis : ∀ q ∈ wr, q.1 < H.size ∧ ¬ va_A wc H.size q.1 := by
    intro q hq
    obtain ⟨i, hi⟩ := List.getElem?_of_mem hq
    have hl := ((zp_app.mp hP).2 i q hi).lt
    refine ⟨hl, fun h => ?_⟩
    rcases za_iff.mp h with h | h
    · have hn := (zd_iff.mp hD).1
      rw [List.map_append] at hn
      exact (List.nodup_append.mp hn).2.2 q.1 h q.1 (List.mem_map.mpr ⟨q, hq, rfl⟩) rfl
    · omega
  refine ⟨zp_app.mpr ⟨hP1, fun k q hq => ?_⟩, ?_⟩
  · obtain ⟨g1, g2⟩ := hdis q (List.mem_of_getElem? hq)
    exact ((zp_app.mp hP).2 k q hq).kept (hk q.1 g1 g2)
  · rw [zd_iff] at hD hD1 ⊢
    rw [List.map_append] at hD ⊢
    refine ⟨List.nodup_append.mpr ⟨hD1.1, (List.nodup_append.mp hD.1).2.1, ?_⟩, fun q hq => ?_⟩
    · intro x hx y hy hxy
      subst hxy
      obtain ⟨q, hq, rfl⟩ := List.mem_map.mp hy
      obtain ⟨p, hp, he⟩ := List.mem_map.mp hx
      exact (hdis q hq).2 (by rw [← he]; exact hD1.2 p hp)
    · rcases List.mem_append.mp hq with h | h
      · exact hF q.1 (hD1.2 q h)
      · exact hD.2 q (List.mem_append_right _ h)
