-- families of cells, one at a time
theorem perm_flatMap {α β : Type} {l l' : List α} (f : α → List β) (h : l.Perm l') : (l.flatMap f).Perm (l'.flatMap f) := by
  induction h with
  | nil => exact List.Perm.refl _
  | cons x _ ih => simp only [List.flatMap_cons]; exact List.Perm.append_left _ ih
  | swap x y l =>
    simp only [List.flatMap_cons]
    rw [← List.append_assoc, ← List.append_assoc]
    exact List.Perm.append_right _ List.perm_append_comm
  | trans _ _ h1 h2 => exact h1.trans h2
theorem flatMap_cong {α β : Type} {f g : α → List β} : ∀ {l : List α}, (∀ x ∈ l, f x = g x) → l.flatMap f = l.flatMap g
  | [], _ => rfl
  | x :: l, h => by
    rw [List.flatMap_cons, List.flatMap_cons, h x List.mem_cons_self, flatMap_cong (fun y hy => h y (List.mem_cons_of_mem _ hy))]
def fam (n : Nat) (g : Nat → va_W) : va_W := (List.range n).flatMap g
def famx (n : Nat) (g : Nat → va_W) (i : Nat) : va_W := ((List.range n).erase i).flatMap g
theorem fam_focus {n : Nat} {g : Nat → va_W} {i : Nat} (hi : i < n) : (fam n g).Perm (g i ++ famx n g i) := by
  have := perm_flatMap g (List.perm_cons_erase (List.mem_range.mpr hi))
  rwa [List.flatMap_cons] at this
theorem famx_cong {n : Nat} {g g' : Nat → va_W} {i : Nat} (h : ∀ j, j < n → j ≠ i → g j = g' j) : famx n g i = famx n g' i :=
  flatMap_cong (fun j hj => by
    rw [List.nodup_range.mem_erase_iff] at hj
    exact h j (List.mem_range.mp hj.2) hj.1)
theorem fam_cong {n : Nat} {g g' : Nat → va_W} (h : ∀ j, j < n → g j = g' j) : fam n g = fam n g' :=
  flatMap_cong (fun j hj => h j (List.mem_range.mp hj))
-- a SHELF: h the object, r its array, q the pans' addresses, n how many, pv what is in them
def Wsh0 (X : zX) (h r : Nat) (q : Nat → Nat) (n : Int) : va_W := [(h, .inr (7, [.ref r, .int (iI n)])), (r, zRef (X.2.1 4) 3 (fun i => some (q i)))]
def Wshelf (X : zX) (h r : Nat) (q : Nat → Nat) (n : Int) (pv : Nat → Nat → Int) : va_W := Wsh0 X h r q n ++ fam 3 (fun i => Wpan (q i) (pv i))
def Wshx (X : zX) (h r : Nat) (q : Nat → Nat) (n : Int) (pv : Nat → Nat → Int) (i : Nat) : va_W := Wsh0 X h r q n ++ famx 3 (fun j => Wpan (q j) (pv j)) i
theorem shelf_foc {X : zX} {h r : Nat} {q : Nat → Nat} {n : Int} {pv : Nat → Nat → Int} {i : Nat} (hi : i < 3) : (Wshelf X h r q n pv).Perm (zb [Wpan (q i) (pv i), Wshx X h r q n pv i]) := by
  unfold Wshelf Wshx
  simp only [zb, List.flatten_cons, List.flatten_nil, List.append_nil]
  refine (List.Perm.append_left _ (fam_focus (g := fun i => Wpan (q i) (pv i)) hi)).trans ?_
  rw [← List.append_assoc, ← List.append_assoc]
  exact List.Perm.append_right _ List.perm_append_comm
theorem shelf_unf {X : zX} {h r : Nat} {q : Nat → Nat} {n : Int} {pv : Nat → Nat → Int} {i : Nat} (hi : i < 3) (u : Nat → Int) : (zb [Wpan (q i) u, Wshx X h r q n pv i]).Perm (Wshelf X h r q n (va_up pv i u)) := by
  refine List.Perm.trans ?_ (shelf_foc (pv := va_up pv i u) hi).symm
  have e1 : va_up pv i u i = u := by simp [va_up]
  have e2 : Wshx X h r q n (va_up pv i u) i = Wshx X h r q n pv i := by
    unfold Wshx
    rw [famx_cong (g := fun j => Wpan (q j) (va_up pv i u j)) (g' := fun j => Wpan (q j) (pv j)) (fun j _ hj => by simp [va_up, hj])]
  rw [e1, e2]
theorem Wshelf_cong {X : zX} {h r : Nat} {q : Nat → Nat} {n n' : Int} {pv pv' : Nat → Nat → Int} (hn : n = n') (hp : ∀ j, j < 3 → pv j = pv' j) : Wshelf X h r q n pv = Wshelf X h r q n' pv' := by
  unfold Wshelf
  rw [hn, fam_cong (g := fun i => Wpan (q i) (pv i)) (g' := fun i => Wpan (q i) (pv' i)) (fun j hj => by rw [hp j hj])]
/-- a block in place of others, anywhere in a world -/
theorem zrep {pre post bs cs : List va_W} (h : (zb bs).Perm (zb cs)) : (zb (pre ++ bs ++ post)).Perm (zb (pre ++ cs ++ post)) := by
  simp only [zb, List.flatten_append]
  exact List.Perm.append_right _ (List.Perm.append_left _ h)
theorem zb1 {w : va_W} : zb [w] = w := by simp [zb]
def catTo {α : Type} (f g : Nat → α) (i : Nat) : Nat → α := fun j => if j < i then f j else g j
theorem catTo_0 {α : Type} (f g : Nat → α) : catTo f g 0 = g := by
  funext j
  exact if_neg (Nat.not_lt_zero j)
theorem catTo_at {α : Type} (f g : Nat → α) (i : Nat) : catTo f g i i = g i := if_neg (Nat.lt_irrefl i)
theorem catTo_step {α : Type} (f g : Nat → α) (i : Nat) : va_up (catTo f g i) i (f i) = catTo f g (i + 1) := by
  funext j
  unfold va_up catTo
  by_cases h : j = i
  · rw [if_pos h, if_pos (by omega), h]
  · rw [if_neg h]
    by_cases q : j < i
    · rw [if_pos q, if_pos (by omega)]
    · rw [if_neg q, if_neg (by omega)]
def sumZ (f : Nat → Int) : Nat → Int
  | 0 => 0
  | k + 1 => sumZ f k + f k
def bareZ (pv : Nat → Nat → Int) : Nat → Int
  | 0 => 1
  | k + 1 => if topP (pv k) = -1 then bareZ pv k else 0
theorem bareZ_no {pv : Nat → Nat → Int} {i : Nat} (h : ¬ topP (pv i) = -1) : ∀ {k : Nat}, i < k → bareZ pv k = 0
  | 0, q => absurd q (Nat.not_lt_zero _)
  | k + 1, q => by
    unfold bareZ
    by_cases e : i = k
    · rw [if_neg (by rw [← e]; exact h)]
    · by_cases t : topP (pv k) = -1
      · rw [if_pos t]; exact bareZ_no h (by omega)
      · rw [if_neg t]
def PanS (pv : Nat → Nat → Int) : Prop := ∀ j, j < 3 → PanB (pv j)
theorem va_upId {α : Type} (f : Nat → α) (i : Nat) : va_up f i (f i) = f := by
  funext j
  unfold va_up
  split
  · rename_i h; rw [h]
  · rfl
