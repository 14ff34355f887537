-- a DAIRY out of THE PAGE
def isD (f : Nat → Int) (n : Int) : Prop := (scanP f n.toNat 0 0 0 0).1 = n ∧ (scanP f n.toNat 0 0 0 0).2.1 = 5 ∧ 2 ≤ (scanP f n.toNat 0 0 0 0).2.2.2
def dgO (z : Int) : Prop := 48 ≤ z ∧ z ≤ 57
/-- what is known of a page that was read up to i -/
def RdI (f : Nat → Int) (i : Nat) (x : Int) (y t : Nat) : Prop :=
  (∀ p : Nat, p < y → 0 ≤ idx0 (f (4 * p)) ∧ dgO (f (4 * p + 1)) ∧ dgO (f (4 * p + 2))) ∧ (∀ c : Nat, c < t → 0 ≤ idx1 (f (4 * y + 2 * c))) ∧
  ((x = 0 ∧ i = 4 * y ∧ y ≤ 2 ∧ t = 0) ∨ (x = 1 ∧ i = 4 * y + 1 ∧ y ≤ 2 ∧ t = 0 ∧ 0 ≤ idx0 (f (4 * y))) ∨ (x = 2 ∧ i = 4 * y + 2 ∧ y ≤ 2 ∧ t = 0 ∧ 0 ≤ idx0 (f (4 * y)) ∧ dgO (f (4 * y + 1))) ∨ (x = 3 ∧ i + 1 = 4 * y ∧ 1 ≤ y ∧ y ≤ 3 ∧ t = 0) ∨ (x = 4 ∧ i = 4 * y + 2 * t ∧ 1 ≤ y ∧ y ≤ 3 ∧ t ≤ 4) ∨ (x = 5 ∧ i + 1 = 4 * y + 2 * t ∧ 1 ≤ y ∧ y ≤ 3 ∧ 1 ≤ t ∧ t ≤ 5))
theorem RdI_go {f : Nat → Int} {i : Nat} {x : Int} {y t : Nat} (h : RdI f i x y t) (hg : ¬ exB x y t (f i) = -1) : RdI f (i + 1) (exB x y t (f i)) (y + (if exB x y t (f i) = 3 then 1 else 0)) (t + (if exB x y t (f i) = 5 then 1 else 0)) := by
  obtain ⟨h1, h2, h3⟩ := h
  rcases h3 with ⟨q, hi, hy, ht⟩ | ⟨q, hi, hy, ht, ha⟩ | ⟨q, hi, hy, ht, ha, hb⟩ | ⟨q, hi, hy, hy2, ht⟩ | ⟨q, hi, hy, hy2, ht⟩ | ⟨q, hi, hy, hy2, ht, ht2⟩
  · subst q
    have e : exB 0 y t (f i) = 1 := by unfold exB at hg ⊢; rw [if_pos rfl] at hg ⊢; split at hg <;> simp_all
    have e2 : 0 ≤ idx0 (f i) := by unfold exB at e; rw [if_pos rfl] at e; split at e <;> omega
    rw [e, if_neg (by decide), if_neg (by decide)]
    refine ⟨h1, h2, Or.inr (Or.inl ⟨rfl, by omega, by omega, by omega, ?_⟩)⟩
    show 0 ≤ idx0 (f (4 * y))
    rw [← hi]; exact e2
  · subst q
    have e : exB 1 y t (f i) = 2 ∧ dgO (f i) := by unfold exB at hg ⊢; rw [if_neg (by decide), if_pos rfl] at hg ⊢; unfold dgO; split at hg <;> simp_all
    rw [e.1, if_neg (by decide), if_neg (by decide)]
    refine ⟨h1, h2, Or.inr (Or.inr (Or.inl ⟨rfl, by omega, by omega, by omega, ha, ?_⟩))⟩
    show dgO (f (4 * y + 1))
    rw [← hi]; exact e.2
  · subst q
    have e : exB 2 y t (f i) = 3 ∧ dgO (f i) := by unfold exB at hg ⊢; rw [if_neg (by decide), if_neg (by decide), if_pos rfl] at hg ⊢; unfold dgO; split at hg <;> simp_all
    rw [e.1, if_pos rfl, if_neg (by decide)]
    subst ht
    refine ⟨fun p hp => ?_, fun c hc => by omega, Or.inr (Or.inr (Or.inr (Or.inl ⟨rfl, by omega, by omega, by omega, by omega⟩)))⟩
    rcases Nat.lt_or_ge p y with q | q
    · exact h1 p q
    · have hpy : p = y := by omega
      subst hpy
      exact ⟨ha, hb, by rw [← hi]; exact e.2⟩
  · subst q
    have e : exB 3 y t (f i) = 4 ∨ (exB 3 y t (f i) = 0 ∧ (y : Int) < 3) := by
      unfold exB at hg ⊢
      rw [if_neg (by decide), if_neg (by decide), if_neg (by decide), if_pos rfl] at hg ⊢
      split
      · exact Or.inl rfl
      · split
        · rename_i q; exact Or.inr ⟨rfl, q.2⟩
        · rename_i q1 q2; rw [if_neg q1, if_neg q2] at hg; exact absurd rfl hg
    subst ht
    rcases e with e | ⟨e, e2⟩
    · rw [e, if_neg (by decide), if_neg (by decide)]
      exact ⟨h1, fun c hc => by omega, Or.inr (Or.inr (Or.inr (Or.inr (Or.inl ⟨rfl, by omega, by omega, by omega, by omega⟩))))⟩
    · rw [e, if_neg (by decide), if_neg (by decide)]
      exact ⟨h1, fun c hc => by omega, Or.inl ⟨rfl, by omega, by omega, by omega⟩⟩
  · subst q
    have e : exB 4 y t (f i) = 5 ∧ 0 ≤ idx1 (f i) := by
      unfold exB at hg ⊢
      rw [if_neg (by decide), if_neg (by decide), if_neg (by decide), if_neg (by decide), if_pos rfl] at hg ⊢
      split at hg
      · exact absurd rfl hg
      · rename_i q; rw [if_neg q]; exact ⟨rfl, by omega⟩
    rw [e.1, if_neg (by decide), if_pos rfl]
    refine ⟨h1, fun c hc => ?_, Or.inr (Or.inr (Or.inr (Or.inr (Or.inr ⟨rfl, by omega, by omega, by omega, by omega, by omega⟩))))⟩
    rcases Nat.lt_or_ge c t with q | q
    · exact h2 c q
    · have hct : c = t := by omega
      subst hct
      show 0 ≤ idx1 (f (4 * y + 2 * c))
      rw [← hi]; exact e.2
  · subst q
    have e : exB 5 y t (f i) = 4 ∧ (t : Int) < 5 := by
      unfold exB at hg ⊢
      rw [if_neg (by decide), if_neg (by decide), if_neg (by decide), if_neg (by decide), if_neg (by decide)] at hg ⊢
      split at hg
      · rename_i q; rw [if_pos q]; exact ⟨rfl, q.2⟩
      · exact absurd rfl hg
    rw [e.1, if_neg (by decide), if_neg (by decide)]
    exact ⟨h1, h2, Or.inr (Or.inr (Or.inr (Or.inr (Or.inl ⟨rfl, by omega, by omega, by omega, by omega⟩))))⟩
theorem scan_inv (f : Nat → Int) : ∀ (k i : Nat) (x : Int) (y t : Nat), RdI f i x y t → ∃ i' y' t' : Nat, scanP f k i x y t = ((i' : Int), (scanP f k i x y t).2.1, (y' : Int), (t' : Int)) ∧ RdI f i' (scanP f k i x y t).2.1 y' t'
  | 0, i, x, y, t, h => ⟨i, y, t, rfl, h⟩
  | k + 1, i, x, y, t, h => by
    by_cases hg : exB x y t (f i) = -1
    · refine ⟨i, y, t, ?_, ?_⟩
      · rw [scanP_stop hg]
      · rw [scanP_stop hg]; exact h
    · have ih := scan_inv f k (i + 1) (exB x y t (f i)) (y + (if exB x y t (f i) = 3 then 1 else 0)) (t + (if exB x y t (f i) = 5 then 1 else 0)) (RdI_go h hg)
      rw [scanP_go hg]
      have e1 : (((y + (if exB x y t (f i) = 3 then 1 else 0) : Nat)) : Int) = (y : Int) + (if exB x y t (f i) = 3 then 1 else 0) := by split <;> simp
      have e2 : (((t + (if exB x y t (f i) = 5 then 1 else 0) : Nat)) : Int) = (t : Int) + (if exB x y t (f i) = 5 then 1 else 0) := by split <;> simp
      rw [e1, e2] at ih
      exact ih
/-- what a page has that is a DAIRY -/
theorem isD_facts {f : Nat → Int} {n : Int} (hn : 0 ≤ n) (h : isD f n) : ∃ y t : Nat, (scanP f n.toNat 0 0 0 0).2.2.1 = y ∧ (scanP f n.toNat 0 0 0 0).2.2.2 = t ∧ (1 ≤ y ∧ y ≤ 3) ∧ (2 ≤ t ∧ t ≤ 5) ∧ n + 1 = 4 * y + 2 * t ∧ (∀ p : Nat, p < y → 0 ≤ idx0 (f (4 * p)) ∧ dgO (f (4 * p + 1)) ∧ dgO (f (4 * p + 2))) ∧ ∀ c : Nat, c < t → 0 ≤ idx1 (f (4 * y + 2 * c)) := by
  obtain ⟨h1, h2, h3⟩ := h
  obtain ⟨i', y', t', e, r1, r2, r3⟩ := scan_inv f n.toNat 0 0 0 0 ⟨fun p hp => by omega, fun c hc => by omega, Or.inl ⟨rfl, rfl, by omega, rfl⟩⟩
  have e1 : (scanP f n.toNat 0 0 0 0).1 = i' := congrArg Prod.fst e
  have e3 : (scanP f n.toNat 0 0 0 0).2.2.1 = y' := congrArg (fun z => z.2.2.1) e
  have e4 : (scanP f n.toNat 0 0 0 0).2.2.2 = t' := congrArg (fun z => z.2.2.2) e
  refine ⟨y', t', e3, e4, ?_⟩
  have h2' : (scanP f n.toNat 0 (↑(0 : Nat)) (↑(0 : Nat)) 0).2.1 = 5 := h2
  rcases r3 with ⟨q, _⟩ | ⟨q, _⟩ | ⟨q, _⟩ | ⟨q, _⟩ | ⟨q, _⟩ | ⟨q, hi, hy, hy2, ht, ht2⟩
  · exact absurd (q.symm.trans h2) (by decide)
  · exact absurd (q.symm.trans h2) (by decide)
  · exact absurd (q.symm.trans h2) (by decide)
  · exact absurd (q.symm.trans h2) (by decide)
  · exact absurd (q.symm.trans h2) (by decide)
  · exact ⟨⟨hy, hy2⟩, ⟨by omega, ht2⟩, by omega, r1, r2⟩
def pdZ (f : Nat → Int) (n : Int) (j : Nat) : Nat → Int := mkP (idx0 (atZ f n (4 * j))) 0 (atZ f n (4 * j + 1) - 48) 0 0 (atZ f n (4 * j + 2) - 48)
def kdZ (f : Nat → Int) (n y : Int) (c : Nat) : Nat := (idx1 (atZ f n (4 * y + 2 * c))).toNat
theorem kids_snoc {X : zX} {n : Nat} {co kd ch ck : Nat → Nat} {o a b : Nat} : (zb [Wkids X n co kd ch ck (fun _ _ => 0) (fun _ _ => 0), Wchild X o (kd n) a b (fun _ => 0) (fun _ => 0)]).Perm (Wkids X (n + 1) (va_up co n o) kd (va_up ch n a) (va_up ck n b) (fun _ _ => 0) (fun _ _ => 0)) := by
  have e : Wkids X (n + 1) (va_up co n o) kd (va_up ch n a) (va_up ck n b) (fun _ _ => 0) (fun _ _ => 0) = Wkids X n co kd ch ck (fun _ _ => 0) (fun _ _ => 0) ++ Wchild X o (kd n) a b (fun _ => 0) (fun _ => 0) := by
    unfold Wkids fam
    rw [List.range_succ, List.flatMap_append, List.flatMap_cons, List.flatMap_nil, List.append_nil]
    congr 1
    · refine flatMap_cong (fun j hj => ?_)
      have : ¬ j = n := by have := List.mem_range.mp hj; omega
      simp [va_up, this]
    · simp [va_up]
  rw [e]
  simp [zb]
section ZK5
variable {p : Program} {l : Launch} {e : Env} {R : Room} {s : State} {m : MethodId} {args : Array Value} {below : List Frame} {meth : Method} {c : Code} {H : Heap} {locs : List Loc} {cells slots : Nat} {Q : State → Prop}
variable {cc : ByteArray} {pc : Nat} {ls : Array Slot} {rest : List Value} {X : zX} {A : Nat → Prop}
theorem z_aastK (hx : p.tables.exec = Jvm.exec) (hb : c.code = cc) (hK : zK X A s s.heap) {w : va_W} (hP : va_P X.1 vwCl w H) (hD : va_D A w) (hS : va_S A s.heap H locs) (q0 qk : Nat) {k : Nat} (hk : KindOk k) {a n v : Nat} {vs : List Value} {f : Nat → Option Nat} (ha : w[q0]? = some (a, zRef (X.2.1 3) n f)) (hv : w[qk]? = some (v, .inr (kci k, vs))) {z : Int} (hi : 0 ≤ z ∧ z < n ∧ n < 2147483648) (hdg : decode cc pc = .ok (.aastore, 1))
    (kk : ∀ (H1 : Heap) (locs1 : List Loc), va_P X.1 vwCl (w.set q0 (a, zRef (X.2.1 3) n (va_up f z.toNat (some v)))) H1 → va_D A (w.set q0 (a, zRef (X.2.1 3) n (va_up f z.toNat (some v)))) → va_S A s.heap H1 locs1 → W p l e R s m args below meth c H1 locs1 cells slots Q (F0 m (pc + 1) ls rest)) :
    W p l e R s m args below meth c H locs cells slots Q (F0 m pc ls (.ref v :: .int (iI z) :: .ref a :: rest)) := by
  rcases hk with rfl | rfl | rfl | rfl | rfl
  · exact z_aast hx hb hK.1 hP hD hS q0 3 qk 0 ha rfl hv rfl hi hdg kk
  · exact z_aastO (E := "SkimmedSons$Child") (r := (RX1, TX1, 2)) hx hb hK.1 hP hD hS q0 3 qk 1 ha rfl (hK.2.2.2.2.2.1.2 ("SkimmedSons$Heir", "SkimmedSons$Child") (by decide)) hv rfl hi hdg kk
  · exact z_aastO (E := "SkimmedSons$Child") (r := (RX6, TX6, 2)) hx hb hK.1 hP hD hS q0 3 qk 6 ha rfl (hK.2.2.2.2.2.1.2 ("SkimmedSons$Second", "SkimmedSons$Child") (by decide)) hv rfl hi hdg kk
  · exact z_aastO (E := "SkimmedSons$Child") (r := (RX10, TX10, 2)) hx hb hK.1 hP hD hS q0 3 qk 10 ha rfl (hK.2.2.2.2.2.1.2 ("SkimmedSons$Youngest", "SkimmedSons$Child") (by decide)) hv rfl hi hdg kk
  · exact z_aastO (E := "SkimmedSons$Child") (r := (RX2, TX2, 2)) hx hb hK.1 hP hD hS q0 3 qk 2 ha rfl (hK.2.2.2.2.2.1.2 ("SkimmedSons$Joan", "SkimmedSons$Child") (by decide)) hv rfl hi hdg kk
end ZK5
