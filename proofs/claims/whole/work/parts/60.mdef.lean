-- THE REFERENCE: its object (numbers mi, longs ml, rows at ma), its pans
def WMo (o : Nat) (ma : Nat → Nat) (mi ml : Nat → Int) : va_W := [(o, .inr (12, [.int (iI (mi 0)), .int (iI (mi 1)), .int (iI (mi 2)), .ref (ma 3), .ref (ma 4), .ref (ma 5), .ref (ma 6), .ref (ma 7), .ref (ma 8), .ref (ma 9), .ref (ma 10), .int (iI (mi 11)), .int (iI (mi 12)), .int (iI (mi 13)), .ref (ma 14), .ref (ma 15), .ref (ma 16), .int (iI (mi 17)), .ref (ma 18), .int (iI (mi 19)), .int (iI (mi 20)), .int (iI (mi 21)), .ref (ma 22), .ref (ma 23), .ref (ma 24), .ref (ma 25), .ref (ma 26), .ref (ma 27), .long (lI (ml 28)), .int (iI (mi 29)), .int (iI (mi 30)), .int (iI (mi 31)), .int (iI (mi 32)), .ref (ma 33), .ref (ma 34), .ref (ma 35), .ref (ma 36), .long (lI (ml 37))]))]
def WMx (X : zX) (ma : Nat → Nat) (f0 f1 f2 f3 f4 f5 : Nat → Int) : va_W := [(ma 3, zArr (X.2.1 2) 3 f0), (ma 8, zArr (X.2.1 2) 3 f1), (ma 4, zArr (X.2.1 2) 3 f2), (ma 5, zArr (X.2.1 2) 3 f3), (ma 6, zArr (X.2.1 2) 3 f4), (ma 7, zArr (X.2.1 2) 3 f5)]
def WMp (X : zX) (ma : Nat → Nat) (pv : Nat → Nat → Int) : va_W := WMx X ma (fun j => pv j 0) (fun j => pv j 1) (fun j => pv j 2) (fun j => pv j 3) (fun j => pv j 4) (fun j => pv j 5)
def mk6 (f0 f1 f2 f3 f4 f5 : Nat → Int) : Nat → Nat → Int := fun j => mkP (f0 j) (f1 j) (f2 j) (f3 j) (f4 j) (f5 j)
theorem WMx_p {X : zX} {ma : Nat → Nat} {f0 f1 f2 f3 f4 f5 : Nat → Int} {pv : Nat → Nat → Int} (h : ∀ j, f0 j = pv j 0 ∧ f1 j = pv j 1 ∧ f2 j = pv j 2 ∧ f3 j = pv j 3 ∧ f4 j = pv j 4 ∧ f5 j = pv j 5) : WMx X ma f0 f1 f2 f3 f4 f5 = WMp X ma pv := by
  unfold WMp
  rw [show f0 = fun j => pv j 0 from funext fun j => (h j).1, show f1 = fun j => pv j 1 from funext fun j => (h j).2.1, show f2 = fun j => pv j 2 from funext fun j => (h j).2.2.1, show f3 = fun j => pv j 3 from funext fun j => (h j).2.2.2.1, show f4 = fun j => pv j 4 from funext fun j => (h j).2.2.2.2.1, show f5 = fun j => pv j 5 from funext fun j => (h j).2.2.2.2.2]
theorem WMx_up {X : zX} {ma : Nat → Nat} {f0 f1 f2 f3 f4 f5 : Nat → Int} {pv : Nat → Nat → Int} {p : Nat} {v : Nat → Int} (ho : ∀ j, ¬ j = p → f0 j = pv j 0 ∧ f1 j = pv j 1 ∧ f2 j = pv j 2 ∧ f3 j = pv j 3 ∧ f4 j = pv j 4 ∧ f5 j = pv j 5) (hp : f0 p = v 0 ∧ f1 p = v 1 ∧ f2 p = v 2 ∧ f3 p = v 3 ∧ f4 p = v 4 ∧ f5 p = v 5) : WMx X ma f0 f1 f2 f3 f4 f5 = WMp X ma (va_up pv p v) := by
  refine WMx_p (fun j => ?_)
  by_cases q : j = p
  · subst q
    simpa [va_up] using hp
  · have := ho j q
    simpa [va_up, q] using this
theorem WMp_cong {X : zX} {ma : Nat → Nat} {pv pv' : Nat → Nat → Int} (h : ∀ j, pv j 0 = pv' j 0 ∧ pv j 1 = pv' j 1 ∧ pv j 2 = pv' j 2 ∧ pv j 3 = pv' j 3 ∧ pv j 4 = pv' j 4 ∧ pv j 5 = pv' j 5) : WMp X ma pv = WMp X ma pv' := WMx_p h
def fhZ (h : Nat → Int) : Nat → Nat → Int := fun c w => h (4 * c + w)
def kdM (k : Nat → Int) : Nat → Nat := fun c => (k c).toNat
def KidM (t : Int) (k : Nat → Int) : Prop := ∀ j : Nat, (j : Int) < t → 0 ≤ k j ∧ k j ≤ 4
def HadM (h : Nat → Int) : Prop := ∀ j : Nat, 0 ≤ h j ∧ h j ≤ 99
def riseP (v : Nat → Int) : Nat → Int := mkP (v 0) (v 1) (v 2 - min (v 2) (1 + v 0)) (v 3 + min (v 2) (1 + v 0)) (v 4) (v 5)
theorem lk_out {d a : Int} : ∀ {ps : List (Int × Int)}, (∀ q ∈ ps, ¬ q.1 = a) → Op.lookupswitch.offset ps d a = d
  | [], _ => rfl
  | (b, o) :: r, h => by
    unfold Op.lookupswitch.offset
    rw [if_neg (h (b, o) List.mem_cons_self)]
    exact lk_out (fun q hq => h q (List.mem_cons_of_mem _ hq))
theorem catTo_up {α : Type} (f g : Nat → α) (i : Nat) {x : α} (h : x = f i) : va_up (catTo f g i) i x = catTo f g (i + 1) := by
  rw [h]; exact catTo_step f g i
-- the page, as the reference reads it
theorem exB_0 (x y t : Int) (hx : 0 ≤ x ∧ x ≤ 5) : exB x y t 0 = -1 := by unfold exB idx0 idx1; omega
theorem scan_bad {f : Nat → Int} {n : Int} {i : Nat} {x y t : Int} (hi : (i : Int) ≤ n) (h : exB x y t (atZ f n i) = -1) : scanP f (n.toNat - i) i x y t = ((i : Int), x, y, t) := by
  by_cases q : (i : Int) < n
  · rw [show atZ f n i = f i from if_pos ⟨by omega, q⟩] at h
    exact scanP_stop h
  · rw [show n.toNat - i = 0 by omega]; rfl
theorem scan_ok {f : Nat → Int} {n : Int} {i : Nat} {x y t : Int} (hi : (i : Int) ≤ n) (hx : 0 ≤ x ∧ x ≤ 5) (h : ¬ exB x y t (atZ f n i) = -1) : (i : Int) < n ∧ scanP f (n.toNat - i) i x y t = scanP f (n.toNat - (i + 1)) (i + 1) (exB x y t (atZ f n i)) (y + (if exB x y t (atZ f n i) = 3 then 1 else 0)) (t + (if exB x y t (atZ f n i) = 5 then 1 else 0)) := by
  by_cases q : (i : Int) < n
  · refine ⟨q, ?_⟩
    rw [show atZ f n i = f i from if_pos ⟨by omega, q⟩] at h ⊢
    rw [show n.toNat - i = (n.toNat - (i + 1)) + 1 by omega, scanP_go h]
  · rw [show atZ f n i = 0 from if_neg (by omega)] at h
    exact absurd (exB_0 x y t hx) h
def rdPan (f : Nat → Int) (n z : Int) : Int := if idx0 (atZ f n z) = -1 then z else if ¬ (48 ≤ atZ f n (z + 1) ∧ atZ f n (z + 1) ≤ 57) then z + 1 else if ¬ (48 ≤ atZ f n (z + 2) ∧ atZ f n (z + 2) ≤ 57) then z + 2 else z + 3
theorem scan_panN {f : Nat → Int} {n : Int} {i : Nat} {y t : Int} (hi : (i : Int) ≤ n) (h : ¬ rdPan f n i = i + 3) : ∃ x, (0 ≤ x ∧ x ≤ 2) ∧ scanP f (n.toNat - i) i 0 y t = (rdPan f n i, x, y, t) := by
  have h0 := idx0_in (atZ f n i)
  by_cases q0 : idx0 (atZ f n i) = -1
  · refine ⟨0, by omega, ?_⟩
    rw [scan_bad hi (by unfold exB; omega), show rdPan f n i = i from if_pos q0]
  · obtain ⟨hl, e⟩ := scan_ok (f := f) (x := 0) (y := y) (t := t) hi (by omega) (by unfold exB; omega)
    rw [show exB 0 y t (atZ f n i) = 1 by unfold exB; omega, if_neg (by decide), if_neg (by decide), Int.add_zero, Int.add_zero] at e
    by_cases q1 : (48 ≤ atZ f n ((i : Int) + 1) ∧ atZ f n ((i : Int) + 1) ≤ 57)
    · have q1' : 48 ≤ atZ f n ((i + 1 : Nat) : Int) ∧ atZ f n ((i + 1 : Nat) : Int) ≤ 57 := q1
      obtain ⟨hl2, e2⟩ := scan_ok (x := 1) (y := y) (t := t) (i := i + 1) (f := f) (n := n) (by omega) (by omega) (by unfold exB; omega)
      rw [show exB 1 y t (atZ f n ((i + 1 : Nat) : Int)) = 2 by unfold exB; omega, if_neg (by decide), if_neg (by decide), Int.add_zero, Int.add_zero] at e2
      by_cases q2 : (48 ≤ atZ f n ((i : Int) + 2) ∧ atZ f n ((i : Int) + 2) ≤ 57)
      · exact absurd (by unfold rdPan; rw [if_neg q0, if_neg (fun z => z q1), if_neg (fun z => z q2)]) h
      · have q2' : ¬ (48 ≤ atZ f n ((i + 1 + 1 : Nat) : Int) ∧ atZ f n ((i + 1 + 1 : Nat) : Int) ≤ 57) := q2
        refine ⟨2, by omega, ?_⟩
        rw [e, e2, scan_bad (i := i + 1 + 1) (by omega) (by unfold exB; omega), show rdPan f n i = (i : Int) + 2 by unfold rdPan; rw [if_neg q0, if_neg (fun z => z q1), if_pos q2]]
        rfl
    · have q1' : ¬ (48 ≤ atZ f n ((i + 1 : Nat) : Int) ∧ atZ f n ((i + 1 : Nat) : Int) ≤ 57) := q1
      refine ⟨1, by omega, ?_⟩
      rw [e, scan_bad (i := i + 1) (by omega) (by unfold exB; omega), show rdPan f n i = (i : Int) + 1 by unfold rdPan; rw [if_neg q0, if_pos q1]]
      rfl
theorem scan_panY {f : Nat → Int} {n : Int} {i : Nat} {y t : Int} (hi : (i : Int) ≤ n) (h : rdPan f n i = i + 3) : ((i + 3 : Nat) : Int) ≤ n ∧ scanP f (n.toNat - i) i 0 y t = scanP f (n.toNat - (i + 3)) (i + 3) 3 (y + 1) t := by
  have h0 := idx0_in (atZ f n i)
  have q0 : ¬ idx0 (atZ f n i) = -1 := fun q => by rw [show rdPan f n i = i from if_pos q] at h; omega
  have q1 : (48 ≤ atZ f n ((i + 1 : Nat) : Int) ∧ atZ f n ((i + 1 : Nat) : Int) ≤ 57) := by
    by_cases q : (48 ≤ atZ f n ((i : Int) + 1) ∧ atZ f n ((i : Int) + 1) ≤ 57)
    · exact q
    · rw [show rdPan f n i = (i : Int) + 1 by unfold rdPan; rw [if_neg q0, if_pos q]] at h; omega
  have q1' : ¬ ¬ (48 ≤ atZ f n ((i : Int) + 1) ∧ atZ f n ((i : Int) + 1) ≤ 57) := fun z => z q1
  have q2 : (48 ≤ atZ f n ((i + 1 + 1 : Nat) : Int) ∧ atZ f n ((i + 1 + 1 : Nat) : Int) ≤ 57) := by
    by_cases q : (48 ≤ atZ f n ((i : Int) + 2) ∧ atZ f n ((i : Int) + 2) ≤ 57)
    · exact q
    · rw [show rdPan f n i = (i : Int) + 2 by unfold rdPan; rw [if_neg q0, if_neg q1', if_pos q]] at h; omega
  obtain ⟨hl, e⟩ := scan_ok (f := f) (x := 0) (y := y) (t := t) hi (by omega) (by unfold exB; omega)
  rw [show exB 0 y t (atZ f n i) = 1 by unfold exB; omega, if_neg (by decide), if_neg (by decide), Int.add_zero, Int.add_zero] at e
  obtain ⟨hl2, e2⟩ := scan_ok (x := 1) (y := y) (t := t) (i := i + 1) (f := f) (n := n) (by omega) (by omega) (by unfold exB; omega)
  rw [show exB 1 y t (atZ f n ((i + 1 : Nat) : Int)) = 2 by unfold exB; omega, if_neg (by decide), if_neg (by decide), Int.add_zero, Int.add_zero] at e2
  obtain ⟨hl3, e3⟩ := scan_ok (x := 2) (y := y) (t := t) (i := i + 1 + 1) (f := f) (n := n) (by omega) (by omega) (by unfold exB; omega)
  rw [show exB 2 y t (atZ f n ((i + 1 + 1 : Nat) : Int)) = 3 by unfold exB; omega, if_pos rfl, if_neg (by decide), Int.add_zero] at e3
  exact ⟨by omega, by rw [e, e2, e3]⟩
def whZ (S : Int × Int × Int × Int) (n : Int) : Int := if S.1 = n ∧ S.2.1 = 5 ∧ 2 ≤ S.2.2.2 then 1 else 0
theorem updZ_of {f : Nat → Int} {k : Nat} {x : Int} (h : f k = x) : updZ f k x = f := by rw [← h]; exact updZ_id f k
theorem updZ_comm (f : Nat → Int) {a b : Nat} (x y : Int) (h : ¬ a = b) : updZ (updZ f a x) b y = updZ (updZ f b y) a x := by
  funext j
  unfold updZ
  by_cases q : j = b
  · rw [if_pos q, if_neg (by omega), if_pos q]
  · rw [if_neg q]
    by_cases q2 : j = a
    · rw [if_pos q2, if_pos q2]
    · rw [if_neg q2, if_neg q2, if_neg q]
/-- no more pans are read once children are -/
theorem scan_y4 {f : Nat → Int} {y : Int} : ∀ {k i : Nat} {t x : Int}, x = 4 ∨ x = 5 → (scanP f k i x y t).2.2.1 = y
  | 0, _, _, _, _ => rfl
  | k + 1, i, t, x, hx => by
    by_cases h : exB x y t (f i) = -1
    · rw [scanP_stop h]
    · rw [scanP_go h]
      have h3 : ¬ exB x y t (f i) = 3 ∧ (exB x y t (f i) = 4 ∨ exB x y t (f i) = 5) := by
        rcases hx with q | q <;> subst q <;> unfold exB at h ⊢ <;> omega
      rw [if_neg h3.1, Int.add_zero]
      exact scan_y4 h3.2
theorem rdPan_in (f : Nat → Int) (n z : Int) : z ≤ rdPan f n z ∧ rdPan f n z ≤ z + 3 := by
  unfold rdPan
  repeat' split
  all_goals omega
