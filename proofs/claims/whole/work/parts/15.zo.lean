-- a row of references counts only as far as it is long
theorem vp_q_cong (cA : ClassId) {n : Nat} {f g : Nat → Option Nat} (h : ∀ j, j < n → f j = g j) : vp_cell cA (n, .inr (.inr (.inr (.inr f)))) = vp_cell cA (n, .inr (.inr (.inr (.inr g)))) := by
  rw [vp_cell_q, vp_cell_q]
  unfold arrV
  exact congrArg (fun z => ({ cls := cA, slots := Array.ofFn z } : Cell)) (funext fun (j : Fin n) => by dsimp only; rw [h j.1 j.2])
theorem vp_i_cong (cA : ClassId) {n : Nat} {f g : Nat → Int} (h : ∀ j, j < n → f j = g j) : vp_cell cA (n, .inl (fun j => iI (f j))) = vp_cell cA (n, .inl (fun j => iI (g j))) := by
  rw [vp_cell_i, vp_cell_i]
  unfold arrV
  exact congrArg (fun z => ({ cls := cA, slots := Array.ofFn z } : Cell)) (funext fun (j : Fin n) => by dsimp only; rw [h j.1 j.2])
theorem zp_one {D : va_G} {cl : List vw_C} {q : Nat × va_E} {H : Heap} : va_P D cl [q] H ↔ va_at D cl q H := by
  constructor
  · intro h
    exact h 0 q rfl
  · intro h k x hk
    have hz : k < 1 := (List.getElem?_eq_some_iff.mp hk).1
    rw [show k = 0 by omega] at hk
    cases hk
    exact h
theorem zp_ref {D : va_G} {cl : List vw_C} {pre post : List va_W} {a n : Nat} {cA : ClassId} {f g : Nat → Option Nat} {H : Heap} (h : ∀ j, j < n → f j = g j) (hP : va_P D cl (zb (pre ++ [[(a, zRef cA n f)]] ++ post)) H) : va_P D cl (zb (pre ++ [[(a, zRef cA n g)]] ++ post)) H := by
  simp only [zb, List.flatten_append, List.flatten_cons, List.flatten_nil, List.append_nil] at hP ⊢
  rw [zp_app, zp_app] at hP ⊢
  refine ⟨⟨hP.1.1, ?_⟩, hP.2⟩
  have h2 := zp_one.mp hP.1.2
  refine zp_one.mpr ?_
  show H[a]? = some (vp_cell cA (n, .inr (.inr (.inr (.inr g)))))
  rw [← vp_q_cong cA h]
  exact h2
theorem zp_arr {D : va_G} {cl : List vw_C} {pre post : List va_W} {a n : Nat} {cA : ClassId} {f g : Nat → Int} {H : Heap} (h : ∀ j, j < n → f j = g j) (hP : va_P D cl (zb (pre ++ [[(a, zArr cA n f)]] ++ post)) H) : va_P D cl (zb (pre ++ [[(a, zArr cA n g)]] ++ post)) H := by
  simp only [zb, List.flatten_append, List.flatten_cons, List.flatten_nil, List.append_nil] at hP ⊢
  rw [zp_app, zp_app] at hP ⊢
  refine ⟨⟨hP.1.1, ?_⟩, hP.2⟩
  have h2 := zp_one.mp hP.1.2
  refine zp_one.mpr ?_
  show H[a]? = some (vp_cell cA (n, .inl (fun j => iI (g j))))
  rw [← vp_i_cong cA h]
  exact h2
theorem zd_fst {A : Nat → Prop} {w w' : va_W} (e : w.map Prod.fst = w'.map Prod.fst) (h : va_D A w) : va_D A w' := by
  rw [zd_iff] at h ⊢
  refine ⟨e ▸ h.1, fun q hq => ?_⟩
  have h1 : q.1 ∈ w.map Prod.fst := e ▸ List.mem_map.mpr ⟨q, hq, rfl⟩
  obtain ⟨x, hx, he⟩ := List.mem_map.mp h1
  rw [← he]
  exact h.2 x hx
theorem zd_ref {A : Nat → Prop} {pre post : List va_W} {a n : Nat} {cA : ClassId} {f g : Nat → Option Nat} (h : va_D A (zb (pre ++ [[(a, zRef cA n f)]] ++ post))) : va_D A (zb (pre ++ [[(a, zRef cA n g)]] ++ post)) :=
  zd_fst (by simp [zb]) h
theorem zd_arr {A : Nat → Prop} {pre post : List va_W} {a n : Nat} {cA : ClassId} {f g : Nat → Int} (h : va_D A (zb (pre ++ [[(a, zArr cA n f)]] ++ post))) : va_D A (zb (pre ++ [[(a, zArr cA n g)]] ++ post)) :=
  zd_fst (by simp [zb]) h
/-- what isn't wanted any more -/
theorem zp_less {D : va_G} {cl : List vw_C} {bs cs ds : List va_W} {H : Heap} (h : va_P D cl (zb bs) H) (hp : bs.Perm (cs ++ ds)) : va_P D cl (zb cs) H := (zp_app.mp (zp_perm h (zblk hp))).1
theorem zd_less {A : Nat → Prop} {bs cs ds : List va_W} (h : va_D A (zb bs)) (hp : bs.Perm (cs ++ ds)) : va_D A (zb cs) := zd_left (zd_perm h (zblk hp))
def nth4 {α : Type} (a b c d : α) : Nat → α := fun i => if i = 0 then a else if i = 1 then b else if i = 2 then c else d
def nthL (l : List Nat) : Nat → Nat := fun k => l.getD k 0
