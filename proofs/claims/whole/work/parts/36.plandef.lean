-- the PLANNER: its object, its shelves, its paths
def Wpl (X : zX) (o a b : Nat) (hq : Nat → Nat) (fp : Nat → Int) : va_W := [(o, .inr (5, [.ref a, .ref b])), (a, zRef (X.2.1 5) 4 (fun i => some (hq i))), (b, zArr (X.2.1 2) 5 fp)]
def wtS (n : Int) (pv : Nat → Nat → Int) : Nat → Nat → Int := catTo (fun j => hourP (pv j)) pv n.toNat
def tkS (pv : Nat → Nat → Int) (i : Nat) : Nat → Nat → Int := va_up pv i (takeP (pv i))
def bst (f : Nat → Int × Int) (g : Nat → Int) : Nat → Int × Int
  | 0 => (-1, 0)
  | i + 1 => if g i = -1 then bst f g i else if (bst f g i).1 < (f i).1 then ((f i).1, ((i + 1 : Nat) : Int) + 4 * (f i).2) else bst f g i
/-- what one has most by it in so many hours, and how: the pans, each 1 more, the first lowest by fours -/
def PL (k : Nat) (n : Int) : Nat → (Nat → Nat → Int) → Int × Int
  | 0, _ => (0, 0)
  | r + 1, pv => if bareZ pv n.toNat = 1 then ((PL k n r (wtS n pv)).1, 4 * (PL k n r (wtS n pv)).2)
    else bst (fun i => (wOf k (topP (pv i)) + (PL k n r (wtS n (tkS pv i))).1, (PL k n r (wtS n (tkS pv i))).2)) (fun i => topP (pv i)) n.toNat
theorem PL_bare {k : Nat} {n : Int} {r : Nat} {pv : Nat → Nat → Int} (h : bareZ pv n.toNat = 1) : PL k n (r + 1) pv = ((PL k n r (wtS n pv)).1, 4 * (PL k n r (wtS n pv)).2) := by
  conv => lhs; unfold PL
  rw [if_pos h]
theorem PL_go {k : Nat} {n : Int} {r : Nat} {pv : Nat → Nat → Int} (h : ¬ bareZ pv n.toNat = 1) : PL k n (r + 1) pv = bst (fun i => (wOf k (topP (pv i)) + (PL k n r (wtS n (tkS pv i))).1, (PL k n r (wtS n (tkS pv i))).2)) (fun i => topP (pv i)) n.toNat := by
  conv => lhs; unfold PL
  rw [if_neg h]
theorem bst_cong {f f' : Nat → Int × Int} {g g' : Nat → Int} : ∀ {m : Nat}, (∀ i, i < m → f i = f' i) → (∀ i, i < m → g i = g' i) → bst f g m = bst f' g' m
  | 0, _, _ => rfl
  | m + 1, hf, hg => by
    have ih := bst_cong (f := f) (f' := f') (g := g) (g' := g') (m := m) (fun i hi => hf i (by omega)) (fun i hi => hg i (by omega))
    unfold bst
    rw [ih, hf m (by omega), hg m (by omega)]
theorem bareZ_cong {pv pv' : Nat → Nat → Int} : ∀ {m : Nat}, (∀ j, j < m → pv j = pv' j) → bareZ pv m = bareZ pv' m
  | 0, _ => rfl
  | m + 1, h => by
    unfold bareZ
    rw [h m (by omega), bareZ_cong (fun j hj => h j (by omega))]
theorem PL_cong (k : Nat) (n : Int) : ∀ (r : Nat) {pv pv' : Nat → Nat → Int}, (∀ j, j < n.toNat → pv j = pv' j) → PL k n r pv = PL k n r pv'
  | 0, _, _, _ => rfl
  | r + 1, pv, pv', h => by
    have hw : ∀ {u u' : Nat → Nat → Int}, (∀ j, j < n.toNat → u j = u' j) → PL k n r (wtS n u) = PL k n r (wtS n u') := fun q => PL_cong k n r (fun j hj => by
      unfold wtS catTo
      rw [if_pos hj, if_pos hj]
      dsimp only
      rw [q j hj])
    have ht : ∀ i, i < n.toNat → ∀ j, j < n.toNat → tkS pv i j = tkS pv' i j := fun i hi j hj => by
      unfold tkS va_up
      by_cases e : j = i
      · rw [if_pos e, if_pos e, h i hi]
      · rw [if_neg e, if_neg e, h j hj]
    unfold PL
    rw [bareZ_cong h, hw h]
    split
    · rfl
    · exact bst_cong (fun i hi => by rw [hw (ht i hi), h i hi]) (fun i hi => by rw [h i hi])
theorem bst_in {f : Nat → Int × Int} {g : Nat → Int} {M N : Int} (hM : -1 ≤ M) (hN : 0 ≤ N) (hf : ∀ i, (0 ≤ (f i).1 ∧ (f i).1 ≤ M) ∧ 0 ≤ (f i).2 ∧ (f i).2 ≤ N) : ∀ m : Nat, m ≤ 3 → (-1 ≤ (bst f g m).1 ∧ (bst f g m).1 ≤ M) ∧ 0 ≤ (bst f g m).2 ∧ (bst f g m).2 ≤ 3 + 4 * N
  | 0, _ => by unfold bst; dsimp only; omega
  | m + 1, h => by
    have ih := bst_in (g := g) hM hN hf m (by omega)
    have h1 := hf m
    unfold bst
    split
    · exact ih
    · split
      · dsimp only; omega
      · exact ih
theorem bst_pos {f : Nat → Int × Int} {g : Nat → Int} (hf : ∀ i, 0 ≤ (f i).1) : ∀ (m : Nat), (∃ i, i < m ∧ ¬ g i = -1) → 0 ≤ (bst f g m).1
  | 0, h => by obtain ⟨i, h1, _⟩ := h; omega
  | m + 1, h => by
    have h1 := hf m
    unfold bst
    split
    · rename_i q
      obtain ⟨i, hi, hg⟩ := h
      have : i < m := by
        rcases Nat.lt_or_ge i m with z | z
        · exact z
        · exact absurd (by rw [show i = m by omega]; exact q) hg
      exact bst_pos hf m ⟨i, this, hg⟩
    · split
      · exact h1
      · rename_i q; omega
theorem bareZ_ex {pv : Nat → Nat → Int} : ∀ {m : Nat}, ¬ bareZ pv m = 1 → ∃ i, i < m ∧ ¬ topP (pv i) = -1
  | 0, h => absurd rfl h
  | m + 1, h => by
    unfold bareZ at h
    by_cases t : topP (pv m) = -1
    · rw [if_pos t] at h
      obtain ⟨i, h1, h2⟩ := bareZ_ex h
      exact ⟨i, by omega, h2⟩
    · exact ⟨m, by omega, t⟩
theorem bareZ_01 (pv : Nat → Nat → Int) : ∀ m : Nat, bareZ pv m = 0 ∨ bareZ pv m = 1
  | 0 => Or.inr rfl
  | m + 1 => by
    unfold bareZ
    split
    · exact bareZ_01 pv m
    · exact Or.inl rfl
theorem PL_in (k : Nat) {n : Int} (hn : 0 ≤ n ∧ n ≤ 3) : ∀ (r : Nat) (pv : Nat → Nat → Int), (0 ≤ (PL k n r pv).1 ∧ (PL k n r pv).1 ≤ 16 * (r : Int)) ∧ 0 ≤ (PL k n r pv).2 ∧ (PL k n r pv).2 + 1 ≤ 4 ^ r
  | 0, pv => by unfold PL; dsimp only; omega
  | r + 1, pv => by
    have ih := PL_in k hn r
    unfold PL
    rw [Int.pow_succ]
    split
    · have := ih (wtS n pv); dsimp only; omega
    · rename_i hb
      have hf : ∀ i, (0 ≤ (wOf k (topP (pv i)) + (PL k n r (wtS n (tkS pv i))).1, (PL k n r (wtS n (tkS pv i))).2).1 ∧ (wOf k (topP (pv i)) + (PL k n r (wtS n (tkS pv i))).1, (PL k n r (wtS n (tkS pv i))).2).1 ≤ 16 * ((r + 1 : Nat) : Int)) ∧ 0 ≤ (wOf k (topP (pv i)) + (PL k n r (wtS n (tkS pv i))).1, (PL k n r (wtS n (tkS pv i))).2).2 ∧ (wOf k (topP (pv i)) + (PL k n r (wtS n (tkS pv i))).1, (PL k n r (wtS n (tkS pv i))).2).2 ≤ 4 ^ r - 1 := by
        intro i
        have h1 := ih (wtS n (tkS pv i))
        have h2 := wOf_in k (topP (pv i))
        dsimp only
        omega
      have h0 := (ih pv).2
      have h3 := bst_in (g := fun i => topP (pv i)) (by omega) (by omega : (0 : Int) ≤ 4 ^ r - 1) hf n.toNat (by omega)
      have h4 := bst_pos (g := fun i => topP (pv i)) (fun i => (hf i).1.1) n.toNat (bareZ_ex hb)
      omega
theorem p4_le {r : Nat} (h : r ≤ 3) : (4 : Int) ^ r ≤ 64 := by
  rcases (show r = 0 ∨ r = 1 ∨ r = 2 ∨ r = 3 by omega) with q | q | q | q <;> subst q <;> decide
/-- a pan that has not stood longer than so many hours -/
def PanG (N : Int) (v : Nat → Int) : Prop := PanB v ∧ v 1 ≤ N
theorem PanB_hour {N : Int} (hN : N < 100000) {v : Nat → Int} (h : PanG N v) : PanG (N + 1) (hourP v) := by
  obtain ⟨⟨⟨h00, h01⟩, ⟨h10, h11⟩, h2, h3, h4, h5, h6⟩, h7⟩ := h
  unfold PanG PanB hourP
  simp only [mkP_0, mkP_1, mkP_2, mkP_3, mkP_4, mkP_5]
  omega
theorem PanB_take {N : Int} (hN : 0 ≤ N) {v : Nat → Int} (h : PanG N v) : PanG N (takeP v) := by
  obtain ⟨⟨⟨h00, h01⟩, ⟨h10, h11⟩, h2, h3, h4, h5, h6⟩, h7⟩ := h
  unfold PanG PanB takeP topP
  simp only [mkP_0, mkP_1, mkP_2, mkP_3, mkP_4, mkP_5]
  omega
theorem iI_shl {a : Int} {i : Nat} (hi : i < 32) (h : 0 ≤ a ∧ a < 4294967296) (h2 : a * 2 ^ i < 4294967296) : iI a <<< (iI (i : Int) &&& 31) = iI (a * 2 ^ i) := by
  obtain ⟨n, rfl⟩ := Int.eq_ofNat_of_zero_le h.1
  rw [pow_cast, ← Int.natCast_mul] at h2 ⊢
  exact pk_shlN (n := n) (nI i &&& 31) i (zs_l i hi) (by omega)
theorem iI_shr {a : Int} {i : Nat} (hi : i < 32) (h : 0 ≤ a ∧ a < 2147483648) : iI a >>> (iI (i : Int) &&& 31) = iI (a / 2 ^ i) := by
  obtain ⟨n, rfl⟩ := Int.eq_ofNat_of_zero_le h.1
  rw [pow_cast, ← Int.natCast_ediv]
  exact pk_shrN (n := n) (by omega) (nI i &&& 31) i (zs_l i hi)
theorem iI_ors {a b : Int} (i : Nat) (h : 0 ≤ a ∧ a < 2 ^ i) (hb : 0 ≤ b) : iI a ||| iI (2 ^ i * b) = iI (a + 2 ^ i * b) := by
  obtain ⟨n, rfl⟩ := Int.eq_ofNat_of_zero_le h.1
  obtain ⟨q, rfl⟩ := Int.eq_ofNat_of_zero_le hb
  rw [pow_cast] at h ⊢
  have hn : n < 2 ^ i := by omega
  rw [← Int.natCast_mul, ← Int.natCast_add]
  show nI n ||| nI (2 ^ i * q) = nI (n + 2 ^ i * q)
  rw [zn_or, Nat.or_comm, Nat.add_comm, Nat.two_pow_add_eq_or_of_lt hn]
theorem iI_and3 {a : Int} (h : 0 ≤ a ∧ a < 2147483648) : iI a &&& iI 3 = iI (a % 4) := by
  obtain ⟨n, rfl⟩ := Int.eq_ofNat_of_zero_le h.1
  have := pk_andN (n := n) (by omega) (m := iI 3) 2 (by decide)
  rw [show ((n : Int) % 4) = ((n % 4 : Nat) : Int) by omega]
  exact this
section ZPL
variable {p : Program} {l : Launch} {e : Env} {R : Room} {s : State} {m : MethodId} {args : Array Value} {below : List Frame} {meth : Method} {c : Code} {H : Heap} {locs : List Loc} {cells slots : Nat} {Q : State → Prop}
variable {cc : ByteArray} {pc : Nat} {ls : Array Slot} {rest : List Value} {a b : Int}
theorem z_shl (i : Nat) (hx : p.tables.exec = Jvm.exec) (hb : c.code = cc) (hs : b = (i : Int)) (hi : i < 32) (h : (0 ≤ a ∧ a < 4294967296) ∧ a * 2 ^ i < 4294967296) (hdg : decode cc pc = .ok (.ishl, 1)) (k : W p l e R s m args below meth c H locs cells slots Q (F0 m (pc + 1) ls (.int (iI (a * 2 ^ i)) :: rest))) : W p l e R s m args below meth c H locs cells slots Q (F0 m pc ls (.int (iI b) :: .int (iI a) :: rest)) := lv_ishl hx hb hdg (by rw [hs, iI_shl hi h.1 h.2]; exact k)
theorem z_shr (i : Nat) (hx : p.tables.exec = Jvm.exec) (hb : c.code = cc) (hs : b = (i : Int)) (hi : i < 32) (h : 0 ≤ a ∧ a < 2147483648) (hdg : decode cc pc = .ok (.ishr, 1)) (k : W p l e R s m args below meth c H locs cells slots Q (F0 m (pc + 1) ls (.int (iI (a / 2 ^ i)) :: rest))) : W p l e R s m args below meth c H locs cells slots Q (F0 m pc ls (.int (iI b) :: .int (iI a) :: rest)) := lv_ishr hx hb hdg (by rw [hs, iI_shr hi h]; exact k)
theorem z_ors (i : Nat) (t : Int) (hx : p.tables.exec = Jvm.exec) (hb : c.code = cc) (hs : b = 2 ^ i * t) (ht : 0 ≤ t) (h : 0 ≤ a ∧ a < 2 ^ i) (hdg : decode cc pc = .ok (.ior, 1)) (k : W p l e R s m args below meth c H locs cells slots Q (F0 m (pc + 1) ls (.int (iI (a + b)) :: rest))) : W p l e R s m args below meth c H locs cells slots Q (F0 m pc ls (.int (iI b) :: .int (iI a) :: rest)) := lv_ior hx hb hdg (by rw [hs, iI_ors i h ht, ← hs]; exact k)
theorem z_and3 (hx : p.tables.exec = Jvm.exec) (hb : c.code = cc) (h : 0 ≤ a ∧ a < 2147483648) (hdg : decode cc pc = .ok (.iand, 1)) (k : W p l e R s m args below meth c H locs cells slots Q (F0 m (pc + 1) ls (.int (iI (a % 4)) :: rest))) : W p l e R s m args below meth c H locs cells slots Q (F0 m pc ls (.int (iI 3) :: .int (iI a) :: rest)) := lv_iand hx hb hdg (by rw [iI_and3 h]; exact k)
end ZPL
