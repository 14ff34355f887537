-- bits, one at a time
theorem iI_and1 {a : Int} (h : 0 ≤ a ∧ a < 2147483648) : iI a &&& iI 1 = iI (a % 2) := by
  obtain ⟨n, rfl⟩ := Int.eq_ofNat_of_zero_le h.1
  have := pk_andN (n := n) (by omega) (m := iI 1) 1 (by decide)
  rw [show ((n : Int) % 2) = ((n % 2 : Nat) : Int) by omega]
  exact this
section ZM2
variable {p : Program} {l : Launch} {e : Env} {R : Room} {s : State} {m : MethodId} {args : Array Value} {below : List Frame} {meth : Method} {c : Code} {H : Heap} {locs : List Loc} {cells slots : Nat} {Q : State → Prop}
variable {cc : ByteArray} {pc : Nat} {ls : Array Slot} {rest : List Value} {a b : Int}
theorem z_and1 (hx : p.tables.exec = Jvm.exec) (hb : c.code = cc) (h : 0 ≤ a ∧ a < 2147483648) (hdg : decode cc pc = .ok (.iand, 1)) (k : W p l e R s m args below meth c H locs cells slots Q (F0 m (pc + 1) ls (.int (iI (a % 2)) :: rest))) : W p l e R s m args below meth c H locs cells slots Q (F0 m pc ls (.int (iI 1) :: .int (iI a) :: rest)) := lv_iand hx hb hdg (by rw [iI_and1 h]; exact k)
end ZM2
def btZ (f : Int) (k : Nat) : Int := f / 2 ^ k % 2
theorem btZ_01 (f : Int) (k : Nat) : btZ f k = 0 ∨ btZ f k = 1 := by unfold btZ; omega
def smZ (f c : Int) (a : Nat) : Nat → Int
  | 0 => 0
  | k + 1 => smZ f c a k + (if btZ f a = 1 ∧ btZ f k = 1 ∧ min (a : Int) c = min (k : Int) c then 1 else 0)
def wsZ (f c : Int) : Nat → Int
  | 0 => 0
  | k + 1 => if wsZ f c k < smZ f c k 16 then smZ f c k 16 else wsZ f c k
theorem smZ_in (f c : Int) (a : Nat) : ∀ k : Nat, 0 ≤ smZ f c a k ∧ smZ f c a k ≤ k
  | 0 => by unfold smZ; omega
  | k + 1 => by
    have := smZ_in f c a k
    unfold smZ
    split <;> omega
theorem wsZ_in (f c : Int) : ∀ k : Nat, 0 ≤ wsZ f c k ∧ wsZ f c k ≤ 16
  | 0 => by unfold wsZ; omega
  | k + 1 => by
    have := wsZ_in f c k
    have := smZ_in f c k 16
    unfold wsZ
    split <;> omega
/-- the bits from C on -/
def tlZ (f : Int) (C : Nat) : Nat → Int
  | 0 => 0
  | k + 1 => tlZ f C k + (if C ≤ k then btZ f k else 0)
theorem tlZ_0 {f : Int} {C : Nat} : ∀ {k : Nat}, (∀ a, a < k → C ≤ a → btZ f a = 0) → tlZ f C k = 0
  | 0, _ => rfl
  | k + 1, h => by
    unfold tlZ
    rw [tlZ_0 (k := k) (fun a ha => h a (by omega))]
    split
    · rename_i q; rw [h k (by omega) q]; rfl
    · rfl
theorem tlZ_nn (f : Int) (C : Nat) : ∀ k : Nat, 0 ≤ tlZ f C k
  | 0 => Int.le_refl 0
  | k + 1 => by
    have := tlZ_nn f C k
    have := btZ_01 f k
    unfold tlZ
    split <;> omega
theorem tlZ_step (f : Int) (C : Nat) : ∀ k : Nat, tlZ f C k = (if C < k then btZ f C else 0) + tlZ f (C + 1) k
  | 0 => by unfold tlZ; simp
  | k + 1 => by
    have ih := tlZ_step f C k
    unfold tlZ
    rw [ih]
    by_cases q : C < k
    · rw [if_pos q, if_pos (show C < k + 1 by omega), if_pos (show C ≤ k by omega), if_pos (show C + 1 ≤ k by omega)]; omega
    · rw [if_neg q]
      by_cases q2 : C = k
      · subst q2; rw [if_pos (show C < C + 1 by omega), if_pos (show C ≤ C by omega), if_neg (show ¬ C + 1 ≤ C by omega)]; omega
      · rw [if_neg (show ¬ C < k + 1 by omega), if_neg (show ¬ C ≤ k by omega), if_neg (show ¬ C + 1 ≤ k by omega)]; omega
theorem smZ_no {f c : Int} {a : Nat} (h : ¬ btZ f a = 1) : ∀ k : Nat, smZ f c a k = 0
  | 0 => rfl
  | k + 1 => by unfold smZ; rw [smZ_no h k, if_neg (fun q => h q.1)]; rfl
theorem smZ_lo {f c : Int} {a : Nat} (h : btZ f a = 1) (hc : (a : Int) < c) : ∀ k : Nat, smZ f c a k = if a < k then 1 else 0
  | 0 => by unfold smZ; simp
  | k + 1 => by
    unfold smZ
    rw [smZ_lo h hc k]
    by_cases q : a = k
    · subst q; rw [if_neg (Nat.lt_irrefl a), if_pos ⟨h, h, rfl⟩, if_pos (by omega)]; rfl
    · rw [if_neg (show ¬ (btZ f a = 1 ∧ btZ f k = 1 ∧ min (a : Int) c = min (k : Int) c) from fun z => by have := z.2.2; omega)]
      by_cases q2 : a < k
      · rw [if_pos q2, if_pos (by omega)]; rfl
      · rw [if_neg q2, if_neg (by omega)]; rfl
theorem smZ_hi {f c : Int} {a : Nat} (h : btZ f a = 1) (hc0 : 0 ≤ c) (hc : c ≤ a) : ∀ k : Nat, smZ f c a k = tlZ f c.toNat k
  | 0 => rfl
  | k + 1 => by
    unfold smZ tlZ
    rw [smZ_hi h hc0 hc k]
    by_cases q : c.toNat ≤ k
    · rw [if_pos q]
      rcases btZ_01 f k with z | z
      · rw [z, if_neg (fun w => by have := w.2.1; omega)]
      · rw [z, if_pos ⟨h, rfl, by omega⟩]
    · rw [if_neg q, if_neg (fun w => by have := w.2.2; omega)]
theorem popN_more : ∀ (k j n : Nat), n < 2 ^ k → popN (k + j) n = popN k n
  | 0, j, n, h => by
    have : n = 0 := by omega
    subst this
    rw [Nat.zero_add]
    have key : ∀ j : Nat, popN j 0 = 0 := by
      intro j
      induction j with
      | zero => rfl
      | succ j ih => unfold popN; simpa using ih
    rw [key j]; rfl
  | k + 1, j, n, h => by
    rw [show k + 1 + j = (k + j) + 1 by omega]
    unfold popN
    rw [popN_more k j (n / 2) (by rw [Nat.pow_succ] at h; omega)]
theorem tlZ_pop (f : Nat) : ∀ (d C : Nat), C + d = 16 → tlZ (f : Int) C 16 = ((popN d (f / 2 ^ C) : Nat) : Int)
  | 0, C, h => by
    rw [tlZ_0 (fun a h1 h2 => by omega)]
    rfl
  | d + 1, C, h => by
    rw [tlZ_step, if_pos (by omega), tlZ_pop f d (C + 1) (by omega)]
    conv => rhs; unfold popN
    have e1 : f / 2 ^ C / 2 = f / 2 ^ (C + 1) := by rw [Nat.pow_succ, Nat.div_div_eq_div_mul]
    have e2 : btZ (f : Int) C = ((f / 2 ^ C % 2 : Nat) : Int) := by
      unfold btZ
      rw [pow_cast, ← Int.natCast_ediv]
      omega
    rw [e1, e2]
    omega
theorem bits_k {f : Int} (hf : 0 ≤ f) : ∀ k : Nat, f < 2 ^ k → (∀ a : Nat, a < k → btZ f a = 0) → f = 0
  | 0, h, _ => by rw [Int.pow_zero] at h; omega
  | k + 1, h, hb => by
    have h1 := hb k (by omega)
    unfold btZ at h1
    have hp : (0 : Int) < 2 ^ k := Int.pow_pos (by decide)
    have h2 : f / 2 ^ k < 2 := Int.ediv_lt_of_lt_mul hp (by rw [Int.pow_succ] at h; omega)
    have h3 : 0 ≤ f / 2 ^ k := Int.ediv_nonneg hf (by omega)
    have h4 : f / 2 ^ k = 0 := by omega
    have h5 : f < 2 ^ k := by
      have h6 := Int.emod_lt_of_pos f hp
      have h7 := Int.mul_ediv_add_emod f (2 ^ k)
      rw [h4] at h7
      omega
    exact bits_k hf k h5 (fun a ha => hb a (by omega))
theorem bits_0 {f : Int} (hf : 0 ≤ f ∧ f < 65536) (h : ∀ a : Nat, a < 16 → btZ f a = 0) : f = 0 := bits_k hf.1 16 hf.2 h
theorem wsZ_le {f c B : Int} (hB : 0 ≤ B) : ∀ k : Nat, (∀ a, a < k → smZ f c a 16 ≤ B) → wsZ f c k ≤ B
  | 0, _ => by unfold wsZ; omega
  | k + 1, h => by
    have := wsZ_le hB k (fun a ha => h a (by omega))
    have := h k (by omega)
    unfold wsZ
    split <;> omega
theorem wsZ_ge {f c : Int} : ∀ (k a : Nat), a < k → smZ f c a 16 ≤ wsZ f c k
  | 0, a, h => absurd h (Nat.not_lt_zero _)
  | k + 1, a, h => by
    unfold wsZ
    by_cases q : a = k
    · subst q
      split <;> omega
    · have := wsZ_ge (f := f) (c := c) k a (by omega)
      split <;> omega
theorem wsZ_lw {f c : Int} (hf : 0 < f ∧ f < 65536) (hc : 1 ≤ c) : wsZ f c 16 = lwZ f c := by
  obtain ⟨C, hC⟩ : ∃ q : Nat, q = (min c 16).toNat := ⟨_, rfl⟩
  obtain ⟨n, rfl⟩ := Int.eq_ofNat_of_zero_le (show 0 ≤ f by omega)
  have hT : popZ ((n : Int) / 2 ^ C) = tlZ (n : Int) C 16 := by
    unfold popZ
    rw [tlZ_pop n (16 - C) C (by omega), pow_cast, ← Int.natCast_ediv]
    have hlt : n / 2 ^ C < 2 ^ (16 - C) := by
      have h1 : n < 2 ^ C * 2 ^ (16 - C) := by rw [← Nat.pow_add, show C + (16 - C) = 16 by omega]; omega
      exact Nat.div_lt_of_lt_mul h1
    have := popN_more (16 - C) C (n / 2 ^ C) hlt
    rw [show 16 - C + C = 16 by omega] at this
    rw [show ((n / 2 ^ C : Nat) : Int).toNat = n / 2 ^ C from rfl, this]
  unfold lwZ
  rw [← hC, hT]
  have hT0 := tlZ_nn (n : Int) C 16
  have hub : wsZ (n : Int) c 16 ≤ max 1 (tlZ (n : Int) C 16) := by
    refine wsZ_le (by omega) 16 (fun a ha => ?_)
    rcases btZ_01 (n : Int) a with q | q
    · rw [smZ_no (by omega)]; omega
    · by_cases z : (a : Int) < c
      · rw [smZ_lo q z, if_pos ha]; omega
      · rw [smZ_hi q (by omega) (by omega), show c.toNat = C by omega]; omega
  by_cases h1 : ∃ a, a < 16 ∧ C ≤ a ∧ btZ (n : Int) a = 1
  · obtain ⟨a, h2, h3, h4⟩ := h1
    have h5 := wsZ_ge (f := (n : Int)) (c := c) 16 a h2
    rw [smZ_hi h4 (by omega) (by omega), show c.toNat = C by omega] at h5
    have h6 : 1 ≤ tlZ (n : Int) C 16 := by
      rcases Int.lt_or_le 0 (tlZ (n : Int) C 16) with z | z
      · omega
      · exfalso
        have h7 := wsZ_ge (f := (n : Int)) (c := c) 16 a h2
        have key : ∀ k : Nat, a < k → btZ (n : Int) a ≤ tlZ (n : Int) C k := by
          intro k
          induction k with
          | zero => intro h; omega
          | succ k ih =>
            intro h
            unfold tlZ
            have := tlZ_nn (n : Int) C k
            have := btZ_01 (n : Int) k
            by_cases e : a = k
            · subst e; rw [if_pos h3]; omega
            · have := ih (by omega); split <;> omega
        have := key 16 h2
        omega
    omega
  · have h2 : tlZ (n : Int) C 16 = 0 := tlZ_0 (fun a h3 h4 => by
      rcases btZ_01 (n : Int) a with q | q
      · exact q
      · exact absurd ⟨a, h3, h4, q⟩ h1)
    by_cases h3 : ∃ a, a < 16 ∧ btZ (n : Int) a = 1
    · obtain ⟨a, h4, h5⟩ := h3
      have h6 : (a : Int) < c := by
        by_cases z : (a : Int) < c
        · exact z
        · exact absurd ⟨a, h4, by omega, h5⟩ h1
      have h7 := wsZ_ge (f := (n : Int)) (c := c) 16 a h4
      rw [smZ_lo h5 h6, if_pos h4] at h7
      omega
    · have : (n : Int) = 0 := bits_0 (by omega) (fun a ha => by
        rcases btZ_01 (n : Int) a with q | q
        · exact q
        · exact absurd ⟨a, ha, q⟩ h3)
      omega
-- the pans, kept and brought back
def svI (r : Nat) : Nat := if r = 0 then 2 else if r = 1 then 3 else if r = 2 then 4 else if r = 3 then 5 else 1
def savF (b : Nat) (pv : Nat → Nat → Int) (sa : Nat → Int) : Nat → Int := fun k => if b ≤ k ∧ k < b + 15 then pv ((k - b) / 5) (svI ((k - b) % 5)) else sa k
def LdOk (b : Nat) (sa : Nat → Int) (pv pv0 : Nat → Nat → Int) : Prop := ∀ p : Nat, p < 3 → pv0 p 0 = pv p 0 ∧ pv0 p 2 = sa (b + 5 * p) ∧ pv0 p 3 = sa (b + 5 * p + 1) ∧ pv0 p 4 = sa (b + 5 * p + 2) ∧ pv0 p 5 = sa (b + 5 * p + 3) ∧ pv0 p 1 = sa (b + 5 * p + 4)
theorem LdOk_sav {b : Nat} {sa : Nat → Int} {pv pv0 : Nat → Nat → Int} (h : ∀ p : Nat, p < 3 → pv0 p 0 = pv p 0) : LdOk b (savF b pv0 sa) pv pv0 := by
  intro p hp
  have key : ∀ r : Nat, r < 5 → savF b pv0 sa (b + 5 * p + r) = pv0 p (svI r) := by
    intro r hr
    unfold savF
    rw [if_pos (by omega), show (b + 5 * p + r - b) / 5 = p by omega, show (b + 5 * p + r - b) % 5 = r by omega]
  exact ⟨h p hp, (key 0 (by decide)).symm, (key 1 (by decide)).symm, (key 2 (by decide)).symm, (key 3 (by decide)).symm, (key 4 (by decide)).symm⟩
theorem savF_lo {b : Nat} {pv : Nat → Nat → Int} {sa : Nat → Int} {k : Nat} (h : k < b) : savF b pv sa k = sa k := if_neg (by omega)
theorem savF_0 (pv : Nat → Nat → Int) (sa : Nat → Int) : (updZ (updZ (updZ (updZ (updZ (updZ (updZ (updZ (updZ (updZ (updZ (updZ (updZ (updZ (updZ sa 0 (pv 0 2)) 1 (pv 0 3)) 2 (pv 0 4)) 3 (pv 0 5)) 4 (pv 0 1)) 5 (pv 1 2)) 6 (pv 1 3)) 7 (pv 1 4)) 8 (pv 1 5)) 9 (pv 1 1)) 10 (pv 2 2)) 11 (pv 2 3)) 12 (pv 2 4)) 13 (pv 2 5)) 14 (pv 2 1)) = savF 0 pv sa := by
  funext k
  by_cases h : 0 ≤ k ∧ k < 0 + 15
  · unfold savF
    rw [if_pos h]
    rcases (show k = 0 ∨ k = 1 ∨ k = 2 ∨ k = 3 ∨ k = 4 ∨ k = 5 ∨ k = 6 ∨ k = 7 ∨ k = 8 ∨ k = 9 ∨ k = 10 ∨ k = 11 ∨ k = 12 ∨ k = 13 ∨ k = 14 by omega) with rfl | rfl | rfl | rfl | rfl | rfl | rfl | rfl | rfl | rfl | rfl | rfl | rfl | rfl | rfl <;> rfl
  · unfold savF updZ
    rw [if_neg h, if_neg (by omega), if_neg (by omega), if_neg (by omega), if_neg (by omega), if_neg (by omega), if_neg (by omega), if_neg (by omega), if_neg (by omega), if_neg (by omega), if_neg (by omega), if_neg (by omega), if_neg (by omega), if_neg (by omega), if_neg (by omega), if_neg (by omega)]
theorem savF_15 (pv : Nat → Nat → Int) (sa : Nat → Int) : (updZ (updZ (updZ (updZ (updZ (updZ (updZ (updZ (updZ (updZ (updZ (updZ (updZ (updZ (updZ sa 15 (pv 0 2)) 16 (pv 0 3)) 17 (pv 0 4)) 18 (pv 0 5)) 19 (pv 0 1)) 20 (pv 1 2)) 21 (pv 1 3)) 22 (pv 1 4)) 23 (pv 1 5)) 24 (pv 1 1)) 25 (pv 2 2)) 26 (pv 2 3)) 27 (pv 2 4)) 28 (pv 2 5)) 29 (pv 2 1)) = savF 15 pv sa := by
  funext k
  by_cases h : 15 ≤ k ∧ k < 15 + 15
  · unfold savF
    rw [if_pos h]
    rcases (show k = 15 ∨ k = 16 ∨ k = 17 ∨ k = 18 ∨ k = 19 ∨ k = 20 ∨ k = 21 ∨ k = 22 ∨ k = 23 ∨ k = 24 ∨ k = 25 ∨ k = 26 ∨ k = 27 ∨ k = 28 ∨ k = 29 by omega) with rfl | rfl | rfl | rfl | rfl | rfl | rfl | rfl | rfl | rfl | rfl | rfl | rfl | rfl | rfl <;> rfl
  · unfold savF updZ
    rw [if_neg h, if_neg (by omega), if_neg (by omega), if_neg (by omega), if_neg (by omega), if_neg (by omega), if_neg (by omega), if_neg (by omega), if_neg (by omega), if_neg (by omega), if_neg (by omega), if_neg (by omega), if_neg (by omega), if_neg (by omega), if_neg (by omega), if_neg (by omega)]
theorem zp_cong {D : va_G} {cl : List vw_C} {pre post : List va_W} {w w' : va_W} {H : Heap} (h : va_P D cl w H → va_P D cl w' H) (hP : va_P D cl (zb (pre ++ [w] ++ post)) H) : va_P D cl (zb (pre ++ [w'] ++ post)) H := by
  simp only [zb, List.flatten_append, List.flatten_cons, List.flatten_nil, List.append_nil] at hP ⊢
  rw [zp_app, zp_app] at hP ⊢
  exact ⟨⟨hP.1.1, h hP.1.2⟩, hP.2⟩
theorem zd_cong {A : Nat → Prop} {pre post : List va_W} {w w' : va_W} (h : w.map Prod.fst = w'.map Prod.fst) (hD : va_D A (zb (pre ++ [w] ++ post))) : va_D A (zb (pre ++ [w'] ++ post)) :=
  zd_fst (by simp [zb, h]) hD
theorem zp_a1 {D : va_G} {cl : List vw_C} {a n : Nat} {cA : ClassId} {f g : Nat → Int} {H : Heap} (h : ∀ j, j < n → f j = g j) (hP : va_P D cl [(a, zArr cA n f)] H) : va_P D cl [(a, zArr cA n g)] H := by
  have h2 := zp_one.mp hP
  refine zp_one.mpr ?_
  show H[a]? = some (vp_cell cA (n, .inl (fun j => iI (g j))))
  rw [← vp_i_cong cA h]
  exact h2
theorem wm_cells {D : va_G} {cl : List vw_C} {X : zX} {ma : Nat → Nat} {f0 f1 f2 f3 f4 f5 : Nat → Int} {pv : Nat → Nat → Int} {H : Heap} (h : ∀ j, j < 3 → f0 j = pv j 0 ∧ f1 j = pv j 1 ∧ f2 j = pv j 2 ∧ f3 j = pv j 3 ∧ f4 j = pv j 4 ∧ f5 j = pv j 5) (hP : va_P D cl (WMx X ma f0 f1 f2 f3 f4 f5) H) : va_P D cl (WMp X ma pv) H := by
  have hP : va_P D cl ([(ma 3, zArr (X.2.1 2) 3 f0)] ++ ([(ma 8, zArr (X.2.1 2) 3 f1)] ++ ([(ma 4, zArr (X.2.1 2) 3 f2)] ++ ([(ma 5, zArr (X.2.1 2) 3 f3)] ++ ([(ma 6, zArr (X.2.1 2) 3 f4)] ++ [(ma 7, zArr (X.2.1 2) 3 f5)]))))) H := hP
  show va_P D cl ([(ma 3, zArr (X.2.1 2) 3 fun j => pv j 0)] ++ ([(ma 8, zArr (X.2.1 2) 3 fun j => pv j 1)] ++ ([(ma 4, zArr (X.2.1 2) 3 fun j => pv j 2)] ++ ([(ma 5, zArr (X.2.1 2) 3 fun j => pv j 3)] ++ ([(ma 6, zArr (X.2.1 2) 3 fun j => pv j 4)] ++ [(ma 7, zArr (X.2.1 2) 3 fun j => pv j 5)]))))) H
  rw [zp_app, zp_app, zp_app, zp_app, zp_app] at hP ⊢
  obtain ⟨h0, h1, h2, h3, h4, h5⟩ := hP
  exact ⟨zp_a1 (fun j hj => (h j hj).1) h0, zp_a1 (fun j hj => (h j hj).2.1) h1, zp_a1 (fun j hj => (h j hj).2.2.1) h2, zp_a1 (fun j hj => (h j hj).2.2.2.1) h3, zp_a1 (fun j hj => (h j hj).2.2.2.2.1) h4, zp_a1 (fun j hj => (h j hj).2.2.2.2.2) h5⟩
def skimG (t n z x : Int) (pv : Nat → Nat → Int) (hz : Nat → Int) : Nat → Int := if 0 < skimR t n z x pv (fhZ hz) then updZ hz (4 * z + topP (pv x.toNat)).toNat (hz (4 * z + topP (pv x.toNat)).toNat + 1) else hz
theorem hoursP_0 (v : Nat → Int) : ∀ k : Nat, hoursP v k 0 = v 0
  | 0 => rfl
  | k + 1 => by show hourP (hoursP v k) 0 = v 0; rw [← hoursP_0 v k]; rfl
theorem va_up_s {α : Type} (f : Nat → α) (i : Nat) (x : α) : va_up f i x i = x := by simp [va_up]
theorem va_up_n {α : Type} (f : Nat → α) {i j : Nat} (x : α) (h : ¬ j = i) : va_up f i x j = f j := by simp [va_up, h]
theorem va_up_up {α : Type} (f : Nat → α) (i : Nat) (x y : α) : va_up (va_up f i x) i y = va_up f i y := by
  funext j
  unfold va_up
  split <;> rfl
theorem look_step {V : Nat → Int} {i : Nat} {u w wv u' w' : Int} {P : Prop} (h9 : wv = V i) (hwv : 0 ≤ wv ∧ wv ≤ 16) (huw : (i = 1 ∧ u = -1 ∧ w = 268435456) ∨ (2 ≤ i ∧ P ∧ (u, w) = lookL V (i - 1))) (hn : (wv < w ∧ u' = i ∧ w' = wv) ∨ (w ≤ wv ∧ u' = u ∧ w' = w)) : (u', w') = lookL V i := by
  rcases huw with ⟨q1, q2, q3⟩ | ⟨q1, _, q3⟩
  · subst q1
    rcases hn with ⟨_, e1, e2⟩ | ⟨e0, _, _⟩
    · rw [e1, e2, h9]
      show _ = lookL V (0 + 1)
      unfold lookL
      rw [if_pos (show V (0 + 1) < (lookL V 0).2 by show V 1 < 17; omega)]
    · omega
  · obtain ⟨k, rfl⟩ : ∃ k, i = k + 1 := ⟨i - 1, by omega⟩
    rw [show k + 1 - 1 = k by omega] at q3
    have h1 : (lookL V k).2 = w := by rw [← q3]
    unfold lookL
    rcases hn with ⟨e0, e1, e2⟩ | ⟨e0, e1, e2⟩
    · rw [if_pos (by omega), e1, e2, h9]
    · rw [if_neg (by omega), e1, e2]; exact q3
