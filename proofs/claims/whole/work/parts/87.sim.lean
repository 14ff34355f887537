-- THE TWO, side by side
def stF (a b c d e f : Int) : Nat → Int := fun i => if i = 3 then a else if i = 4 then b else if i = 6 then c else if i = 7 then d else if i = 8 then e else f
theorem WX0_cong {X : zX} {ad : Nat → Nat} {st st' : Nat → Int} {ca : Nat → Option Nat} (h : st 3 = st' 3 ∧ st 4 = st' 4 ∧ st 6 = st' 6 ∧ st 7 = st' 7 ∧ st 8 = st' 8 ∧ st 9 = st' 9) : WX0 X ad st ca = WX0 X ad st' ca := by
  obtain ⟨h3, h4, h6, h7, h8, h9⟩ := h
  unfold WX0
  rw [h3, h4, h6, h7, h8, h9]
theorem flat_cells {D : va_G} {cl : List vw_C} {H : Heap} {g g' : Nat → va_W} : ∀ {l : List Nat}, (∀ j ∈ l, va_P D cl (g j) H → va_P D cl (g' j) H) → va_P D cl (l.flatMap g) H → va_P D cl (l.flatMap g') H
  | [], _, h => h
  | x :: l, hh, h => by
    rw [List.flatMap_cons] at h ⊢
    rw [zp_app] at h ⊢
    exact ⟨hh x List.mem_cons_self h.1, flat_cells (fun j hj => hh j (List.mem_cons_of_mem _ hj)) h.2⟩
theorem child_cells {D : va_G} {cl : List vw_C} {H : Heap} {X : zX} {o k k' a b : Nat} {fh fk fh' fk' : Nat → Int} (hk : k = k') (h : ∀ w, w < 4 → fh w = fh' w ∧ fk w = fk' w) (hP : va_P D cl (Wchild X o k a b fh fk) H) : va_P D cl (Wchild X o k' a b fh' fk') H := by
  subst hk
  have hP : va_P D cl ([(o, .inr (kci k, [.ref a, .ref b]))] ++ ([(a, zArr (X.2.1 2) 4 fh)] ++ [(b, zArr (X.2.1 2) 4 fk)])) H := hP
  show va_P D cl ([(o, .inr (kci k, [.ref a, .ref b]))] ++ ([(a, zArr (X.2.1 2) 4 fh')] ++ [(b, zArr (X.2.1 2) 4 fk')])) H
  rw [zp_app, zp_app] at hP ⊢
  exact ⟨hP.1, zp_a1 (fun j hj => (h j hj).1) hP.2.1, zp_a1 (fun j hj => (h j hj).2) hP.2.2⟩
theorem kids_cells {D : va_G} {cl : List vw_C} {H : Heap} {X : zX} {n : Nat} {co kd kd' ch ck : Nat → Nat} {fh fk fh' fk' : Nat → Nat → Int} (h : ∀ j, j < n → kd j = kd' j ∧ ∀ w, w < 4 → fh j w = fh' j w ∧ fk j w = fk' j w) (hP : va_P D cl (Wkids X n co kd ch ck fh fk) H) : va_P D cl (Wkids X n co kd' ch ck fh' fk') H := by
  unfold Wkids fam at hP ⊢
  exact flat_cells (fun j hj => child_cells (h j (List.mem_range.mp hj)).1 (h j (List.mem_range.mp hj)).2) hP
theorem kids_fst {X : zX} {n : Nat} {co kd kd' ch ck : Nat → Nat} {fh fk fh' fk' : Nat → Nat → Int} : (Wkids X n co kd ch ck fh fk).map Prod.fst = (Wkids X n co kd' ch ck fh' fk').map Prod.fst := by
  unfold Wkids fam
  rw [List.map_flatMap, List.map_flatMap]
  rfl
theorem sk_pos {t n z x : Int} {pv fh : Nat → Nat → Int} (h : 0 < skimR t n z x pv fh) : ((0 ≤ z ∧ z < t) ∧ (0 ≤ x ∧ x < n)) ∧ ¬ topP (pv x.toNat) = -1 ∧ ¬ 99 ≤ fh z.toNat (topP (pv x.toNat)).toNat := by
  unfold skimR at h
  by_cases q : (0 ≤ z ∧ z < t) ∧ (0 ≤ x ∧ x < n)
  · rw [if_pos q] at h
    by_cases q2 : topP (pv x.toNat) = -1
    · rw [if_pos q2] at h; omega
    · rw [if_neg q2] at h
      by_cases q3 : 99 ≤ fh z.toNat (topP (pv x.toNat)).toNat
      · rw [if_pos q3] at h; omega
      · exact ⟨q, q2, q3⟩
  · rw [if_neg q] at h; omega
theorem skim_rows {t n z x : Int} {pv : Nat → Nat → Int} {hz : Nat → Int} (j w : Nat) (hw : w < 4) : skimH t n z x pv (fhZ hz) j w = fhZ (skimG t n z x pv hz) j w := by
  unfold skimH skimG
  by_cases h : 0 < skimR t n z x pv (fhZ hz)
  · rw [if_pos h, if_pos h]
    have ht := topP_in (pv x.toNat)
    have hq := sk_pos h
    have e1 : haveZ (fhZ hz z.toNat) (topP (pv x.toNat)) = updZ (fhZ hz z.toNat) (topP (pv x.toNat)).toNat (fhZ hz z.toNat (topP (pv x.toNat)).toNat + 1) := if_pos (by omega)
    rw [e1, show (4 * z + topP (pv x.toNat)).toNat = 4 * z.toNat + (topP (pv x.toNat)).toNat by omega]
    by_cases q : j = z.toNat
    · subst q
      rw [va_up_s]
      unfold fhZ updZ
      by_cases q2 : w = (topP (pv x.toNat)).toNat
      · rw [if_pos q2, if_pos (by omega)]
      · rw [if_neg q2, if_neg (by omega)]
    · rw [va_up_n _ _ q]
      unfold fhZ updZ
      rw [if_neg (by omega)]
  · rw [if_neg h, if_neg h]
theorem skim_had {t n z x : Int} {pv : Nat → Nat → Int} {hz : Nat → Int} (hh : HadM hz) : HadM (skimG t n z x pv hz) := by
  intro j
  unfold skimG
  by_cases h : 0 < skimR t n z x pv (fhZ hz)
  · rw [if_pos h]
    have ht := topP_in (pv x.toNat)
    have hq := sk_pos h
    have e : fhZ hz z.toNat (topP (pv x.toNat)).toNat = hz (4 * z + topP (pv x.toNat)).toNat := by
      rw [show (4 * z + topP (pv x.toNat)).toNat = 4 * z.toNat + (topP (pv x.toNat)).toNat by omega]
      rfl
    rw [e] at hq
    have h1 := hh (4 * z + topP (pv x.toNat)).toNat
    unfold updZ
    split
    · omega
    · exact hh j
  · rw [if_neg h]
    exact hh j
theorem catZ_had {a b : Nat → Int} {n : Nat} (h1 : HadM a) (h2 : HadM b) : HadM (catZ a b n) := by
  intro j
  unfold catZ
  split
  · exact h1 j
  · exact h2 j
theorem had_0 : HadM (fun _ => 0) := fun _ => (show (0 : Int) ≤ 0 ∧ (0 : Int) ≤ 99 by decide)
theorem keep_rows {t : Nat} {hz kh : Nat → Int} {fk : Nat → Nat → Int} (ht : t ≤ 5) {j w : Nat} (hj : j < t) (hw : w < 4) : keepK (fhZ hz) fk t j w = fhZ (catZ hz kh 20) j w := by
  unfold keepK catTo
  rw [if_pos hj]
  show catZ (fhZ hz j) (fk j) 4 w = fhZ (catZ hz kh 20) j w
  rw [show catZ (fhZ hz j) (fk j) 4 w = fhZ hz j w from if_pos hw]
  unfold fhZ catZ
  rw [if_pos (by omega)]
theorem rest_rows {t : Nat} {hz kh : Nat → Int} {fk : Nat → Nat → Int} (ht : t ≤ 5) {j w : Nat} (hj : j < t) (hw : w < 4) (h : fk j w = fhZ kh j w) : keepK fk (fhZ hz) t j w = fhZ (catZ kh hz 20) j w := by
  unfold keepK catTo
  rw [if_pos hj]
  have e : catZ (fk j) (fhZ hz j) 4 w = fk j w := if_pos hw
  dsimp only
  rw [e, h]
  unfold fhZ catZ
  rw [if_pos (by omega)]
theorem zero_rows {t : Nat} {hz : Nat → Int} (ht : t ≤ 5) {j w : Nat} (hj : j < t) (hw : w < 4) : (0 : Int) = fhZ (catZ (fun _ => 0) hz 20) j w := by
  unfold fhZ catZ
  rw [if_pos (by omega)]
-- the pans behind what is done
def PvO (n u : Int) (pv pv' : Nat → Nat → Int) : Prop := PanS pv' ∧ (∀ j, j < n.toNat → pv' j 1 ≤ u) ∧ (∀ j, pv' j 0 = pv j 0) ∧ ∀ j, n.toNat ≤ j → pv' j = pv j
theorem pv_id {n u : Int} {pv : Nat → Nat → Int} (h1 : PanS pv) (h2 : ∀ j, j < n.toNat → pv j 1 ≤ u) : PvO n u pv pv := ⟨h1, h2, fun _ => rfl, fun _ _ => rfl⟩
theorem pv_hour {t u n : Int} {pv : Nat → Nat → Int} (hn : n ≤ 3) (h1 : PanS pv) (h2 : ∀ j, j < n.toNat → pv j 1 ≤ u) (hu : 0 ≤ u ∧ u ≤ 999) : PvO n (hourU t u) pv (hourV t u n pv) ∧ (0 ≤ hourU t u ∧ hourU t u ≤ 999) := by
  unfold hourU hourV
  by_cases q : t ≤ 0
  · rw [if_pos q, if_pos q]; exact ⟨pv_id h1 h2, hu⟩
  · rw [if_neg q, if_neg q]
    by_cases q2 : 999 ≤ u
    · rw [if_pos q2, if_pos q2]; exact ⟨pv_id h1 h2, hu⟩
    · rw [if_neg q2, if_neg q2]
      have h3 := pl_wt (n := n) (N := u) (V := pv) (by omega) h1 (fun j hj => ⟨h1 j (by omega), h2 j hj⟩)
      refine ⟨⟨h3.1, fun j hj => (h3.2 j hj).2, fun j => wt_0 n pv j, fun j hj => ?_⟩, by omega⟩
      unfold wtS catTo
      rw [if_neg (by omega)]
theorem pv_skim {t n z x u : Int} {pv fh : Nat → Nat → Int} (hn : n ≤ 3) (h1 : PanS pv) (h2 : ∀ j, j < n.toNat → pv j 1 ≤ u) (hu : 0 ≤ u) : PvO n u pv (skimV t n z x pv fh) := by
  unfold skimV
  by_cases h : 0 < skimR t n z x pv fh
  · rw [if_pos h]
    have hq := sk_pos h
    have h3 := pl_tk (n := n) (N := u) (V := pv) hu h1 (fun j hj => ⟨h1 j (by omega), h2 j hj⟩) x.toNat
    exact ⟨h3.1, fun j hj => (h3.2 j hj).2, fun j => tk_0 pv _ j, fun j hj => va_up_n _ _ (by omega)⟩
  · rw [if_neg h]; exact pv_id h1 h2
theorem pv_one {n z u : Int} {pv : Nat → Nat → Int} {v : Nat → Int} (hz : 0 ≤ z ∧ z < n) (h1 : PanS pv) (h2 : ∀ j, j < n.toNat → pv j 1 ≤ u) (hv : PanB v) (hv1 : v 1 ≤ u) (hv0 : v 0 = pv z.toNat 0) : PvO n u pv (va_up pv z.toNat v) := by
  refine ⟨fun j hj => ?_, fun j hj => ?_, fun j => ?_, fun j hj => va_up_n _ _ (by omega)⟩
  · by_cases q : j = z.toNat
    · rw [q, va_up_s]; exact hv
    · rw [va_up_n _ _ q]; exact h1 j hj
  · by_cases q : j = z.toNat
    · rw [q, va_up_s]; exact hv1
    · rw [va_up_n _ _ q]; exact h2 j hj
  · by_cases q : j = z.toNat
    · rw [q, va_up_s]; exact hv0
    · rw [va_up_n _ _ q]
theorem pv_stir {n z u : Int} {pv : Nat → Nat → Int} (hn : n ≤ 3) (h1 : PanS pv) (h2 : ∀ j, j < n.toNat → pv j 1 ≤ u) (hu : 0 ≤ u) : PvO n u pv (stirV n z pv) := by
  unfold stirV
  by_cases h : 0 ≤ z ∧ z < n
  · rw [if_pos h]
    refine pv_one h h1 h2 ?_ hu rfl
    obtain ⟨h0, h1, h2, h3, h4, h5, h6⟩ := h1 z.toNat (by omega)
    unfold PanB mixP
    simp only [mkP_0, mkP_1, mkP_2, mkP_3, mkP_4, mkP_5]
    omega
  · rw [if_neg h]; exact pv_id h1 h2
theorem pv_pour {n z x y u : Int} {pv : Nat → Nat → Int} (hn : n ≤ 3) (h1 : PanS pv) (h2 : ∀ j, j < n.toNat → pv j 1 ≤ u) (hu : 0 ≤ u) : PvO n u pv (pourV n z x y pv) := by
  unfold pourV
  by_cases h : 0 ≤ z ∧ z < n
  · rw [if_pos h]
    by_cases q : (0 ≤ x ∧ x ≤ 9) ∧ (0 ≤ y ∧ y ≤ 9)
    · rw [if_pos q]
      by_cases q2 : 20 < allP (pv z.toNat) + x + y
      · rw [if_pos q2]; exact pv_id h1 h2
      · rw [if_neg q2]
        refine pv_one h h1 h2 ?_ hu rfl
        obtain ⟨h0, h1, h2, h3, h4, h5, h6⟩ := h1 z.toNat (by omega)
        unfold allP at q2
        unfold PanB pourP
        simp only [mkP_0, mkP_1, mkP_2, mkP_3, mkP_4, mkP_5]
        omega
    · rw [if_neg q]; exact pv_id h1 h2
  · rw [if_neg h]; exact pv_id h1 h2
-- what is kept
theorem Ld_pv {n u : Int} {sa : Nat → Int} {pv pv' ipv : Nat → Nat → Int} (ho : PvO n u pv pv') (h : LdOk 0 sa pv (catTo ipv pv n.toNat)) : LdOk 0 sa pv' (catTo ipv pv' n.toNat) := by
  intro p hp
  have h0 := h p hp
  unfold catTo at h0 ⊢
  by_cases q : p < n.toNat
  · rw [if_pos q] at h0 ⊢
    rw [ho.2.2.1 p]
    exact h0
  · rw [if_neg q] at h0 ⊢
    rw [ho.2.2.2 p (by omega)]
    exact h0
theorem Ld_sa {sa sa' : Nat → Int} {pv pv0 : Nat → Nat → Int} (hs : ∀ k, k < 15 → sa' k = sa k) (h : LdOk 0 sa pv pv0) : LdOk 0 sa' pv pv0 := by
  intro p hp
  have h0 := h p hp
  rw [hs (0 + 5 * p) (by omega), hs (0 + 5 * p + 1) (by omega), hs (0 + 5 * p + 2) (by omega), hs (0 + 5 * p + 3) (by omega), hs (0 + 5 * p + 4) (by omega)]
  exact h0
def ImI (s8 : Int) (mi : Nat → Int) (in0 : Int) (sa : Nat → Int) (pv ipv fk : Nat → Nat → Int) (kh : Nat → Int) : Prop := (s8 = 0 ∧ (mi 29 = 0 ∨ ¬ mi 30 = mi 0)) ∨ (s8 = 1 ∧ (mi 29 = 1 ∧ mi 30 = mi 0) ∧ (0 ≤ mi 31 ∧ mi 31 ≤ 999) ∧ in0 = mi 1 ∧ LdOk 0 sa pv (catTo ipv pv (mi 1).toNat) ∧ (∀ j, j < (mi 1).toNat → PanB (ipv j) ∧ ipv j 1 ≤ mi 31) ∧ ∀ j, j < (mi 2).toNat → ∀ w, w < 4 → fk j w = fhZ kh j w)
theorem Im_pv {s8 in0 u : Int} {mi sa kh : Nat → Int} {pv pv' ipv fk : Nat → Nat → Int} (ho : PvO (mi 1) u pv pv') (h : ImI s8 mi in0 sa pv ipv fk kh) : ImI s8 mi in0 sa pv' ipv fk kh := by
  rcases h with h | ⟨h1, h2, h3, h4, h5, h6⟩
  · exact Or.inl h
  · exact Or.inr ⟨h1, h2, h3, h4, Ld_pv ho h5, h6⟩
theorem Im_sa {s8 in0 : Int} {mi sa sa' kh : Nat → Int} {pv ipv fk : Nat → Nat → Int} (hs : ∀ k, k < 15 → sa' k = sa k) (h : ImI s8 mi in0 sa pv ipv fk kh) : ImI s8 mi in0 sa' pv ipv fk kh := by
  rcases h with h | ⟨h1, h2, h3, h4, h5, h6⟩
  · exact Or.inl h
  · exact Or.inr ⟨h1, h2, h3, h4, Ld_sa hs h5, h6⟩
theorem catTo_cc (pv ipv : Nat → Nat → Int) (n : Nat) : catTo (catTo pv ipv n) pv n = pv := by
  funext j
  unfold catTo
  split <;> rfl
theorem catTo_c2 (ipv pv : Nat → Nat → Int) (n : Nat) : catTo ipv (catTo ipv pv n) n = catTo ipv pv n := by
  funext j
  unfold catTo
  split <;> rfl
theorem Im_image {mi sa kh hz : Nat → Int} {pv ipv fk : Nat → Nat → Int} (hn : mi 1 ≤ 3) (ht : 0 ≤ mi 2 ∧ mi 2 ≤ 5) (hu : 0 ≤ mi 11 ∧ mi 11 ≤ 999) (h1 : PanS pv) (h2 : ∀ j, j < (mi 1).toNat → pv j 1 ≤ mi 11) : ImI 1 (updZ (updZ (updZ (updZ mi 29 1) 30 (mi 0)) 31 (mi 11)) 32 (mi 13)) (mi 1) (savF 0 pv sa) pv (catTo pv ipv (mi 1).toNat) (keepK (fhZ hz) fk (mi 2).toNat) (catZ hz kh 20) := by
  refine Or.inr ⟨rfl, ⟨rfl, rfl⟩, hu, rfl, ?_, ?_, ?_⟩
  · show LdOk 0 (savF 0 pv sa) pv (catTo (catTo pv ipv (mi 1).toNat) pv (mi 1).toNat)
    rw [catTo_cc]
    exact LdOk_sav (fun p _ => rfl)
  · show ∀ j, j < (mi 1).toNat → PanB (catTo pv ipv (mi 1).toNat j) ∧ catTo pv ipv (mi 1).toNat j 1 ≤ mi 11
    intro j hj
    rw [show catTo pv ipv (mi 1).toNat j = pv j from if_pos hj]
    exact ⟨h1 j (by omega), h2 j hj⟩
  · show ∀ j, j < (mi 2).toNat → ∀ w, w < 4 → keepK (fhZ hz) fk (mi 2).toNat j w = fhZ (catZ hz kh 20) j w
    intro j hj w hw
    exact keep_rows (by omega) hj hw
theorem Im_rest {s8 in0 : Int} {mi sa kh : Nat → Int} {pv ipv fk : Nat → Nat → Int} (hn : mi 1 ≤ 3) (h8 : s8 = 1) (h1 : PanS pv) (h : ImI s8 mi in0 sa pv ipv fk kh) : ImI s8 (updZ (updZ mi 11 (mi 31)) 13 (mi 32)) in0 sa (catTo ipv pv (mi 1).toNat) ipv fk kh ∧ PanS (catTo ipv pv (mi 1).toNat) ∧ (∀ j, j < (mi 1).toNat → catTo ipv pv (mi 1).toNat j 1 ≤ mi 31) ∧ LdOk 0 sa pv (catTo ipv pv (mi 1).toNat) ∧ in0 = mi 1 ∧ (mi 29 = 1 ∧ mi 30 = mi 0) ∧ (0 ≤ mi 31 ∧ mi 31 ≤ 999) ∧ ∀ j, j < (mi 2).toNat → ∀ w, w < 4 → fk j w = fhZ kh j w := by
  rcases h with h | ⟨g1, g2, g3, g4, g5, g6, g7⟩
  · exact absurd h.1 (by omega)
  · refine ⟨Or.inr ⟨g1, g2, g3, g4, ?_, g6, g7⟩, fun j hj => ?_, fun j hj => ?_, g5, g4, g2, g3, g7⟩
    · show LdOk 0 sa (catTo ipv pv (mi 1).toNat) (catTo ipv (catTo ipv pv (mi 1).toNat) (mi 1).toNat)
      rw [catTo_c2]
      intro p hp
      exact ⟨rfl, (g5 p hp).2⟩
    · unfold catTo
      split
      · rename_i q; exact (g6 j q).1
      · exact h1 j hj
    · rw [show catTo ipv pv (mi 1).toNat j = ipv j from if_pos hj]
      exact (g6 j hj).2
-- the page, what is seen
theorem letter_ok {n z : Int} {f : Nat → Int} (h : PageB n f) : PageB (letterN n z) (letterF n z f) := by
  unfold letterN letterF
  by_cases q : 32 ≤ z ∧ z ≤ 126
  · rw [if_pos q, if_pos q]
    by_cases q2 : n = 24
    · rw [if_pos q2, if_pos q2]; exact h
    · rw [if_neg q2, if_neg q2]
      refine ⟨by have := h.1; omega, fun j => ?_⟩
      unfold updZ
      split
      · omega
      · exact h.2 j
  · rw [if_neg q, if_neg q]; exact h
theorem see_ok {n z x y k : Int} {s1 s2 s3 : Nat → Int} (hn : n ≤ 3) (h : SigB k s1 s2 s3) : SigB (seeN n z x y k) (seeF n z x y k z s1) (seeF n z x y k x s2) (seeF n z x y k y s3) := by
  unfold seeN seeF
  by_cases q : 0 < seeR n z x y k
  · rw [if_pos q, if_pos q, if_pos q, if_pos q]
    have hq : (0 ≤ z ∧ z < n) ∧ (1 ≤ x ∧ x ≤ 12) ∧ (0 ≤ y ∧ y ≤ 40) ∧ k < 6 := by
      unfold seeR at q
      by_cases a : 0 ≤ z ∧ z < n
      · rw [if_pos a] at q
        by_cases b : (1 ≤ x ∧ x ≤ 12) ∧ (0 ≤ y ∧ y ≤ 40)
        · rw [if_pos b] at q
          by_cases c : 6 ≤ k
          · rw [if_pos c] at q; omega
          · exact ⟨a, b.1, b.2, by omega⟩
        · rw [if_neg b] at q; omega
      · rw [if_neg a] at q; omega
    refine ⟨by have := h.1; omega, fun j hj => ?_⟩
    have h2 := h.2 j hj
    unfold updZ
    refine ⟨?_, ?_, ?_⟩ <;> split <;> omega
  · rw [if_neg q, if_neg q, if_neg q, if_neg q]; exact h
theorem sig_0 : SigB 0 (fun _ => 0) (fun _ => 0) (fun _ => 0) := ⟨(show (0 : Int) ≤ 0 ∧ (0 : Int) ≤ 6 by decide), fun _ _ => (show ((0 : Int) ≤ 0 ∧ (0 : Int) ≤ 2) ∧ ((0 : Int) ≤ 0 ∧ (0 : Int) ≤ 12) ∧ ((0 : Int) ≤ 0 ∧ (0 : Int) ≤ 40) by decide)⟩
theorem pan_0 : PanS (fun _ _ => 0) := fun _ _ => (show ((0 : Int) ≤ 0 ∧ (0 : Int) ≤ 2) ∧ ((0 : Int) ≤ 0 ∧ (0 : Int) ≤ 100000) ∧ (0 : Int) ≤ 0 ∧ (0 : Int) ≤ 0 ∧ (0 : Int) ≤ 0 ∧ (0 : Int) ≤ 0 ∧ (0 : Int) + 0 + 0 + 0 ≤ 20 by decide)
theorem dairy_ok {f : Nat → Int} {n : Int} {pv : Nat → Nat → Int} (hp : PageB n f) (h : isD f n) (hpv : PanS pv) {y t : Nat} (hy : (scanP f n.toNat 0 0 0 0).2.2.1 = (y : Int)) (ht : (scanP f n.toNat 0 0 0 0).2.2.2 = (t : Int)) : (1 ≤ y ∧ y ≤ 3) ∧ (2 ≤ t ∧ t ≤ 5) ∧ PanS (catTo (pdZ f n) pv y) ∧ (∀ j, j < y → catTo (pdZ f n) pv y j 1 ≤ 0) ∧ ∀ c : Nat, c < t → 0 ≤ idx1 (atZ f n (4 * (y : Int) + 2 * (c : Int))) ∧ idx1 (atZ f n (4 * (y : Int) + 2 * (c : Int))) ≤ 4 := by
  obtain ⟨y', t', e1, e2, h3, h4, h5, h6, h7⟩ := isD_facts hp.1.1 h
  have ey : y' = y := by omega
  have et : t' = t := by omega
  subst ey
  subst et
  refine ⟨h3, h4, fun j hj => ?_, fun j hj => ?_, fun c hc => ?_⟩
  · unfold catTo
    split
    · rename_i q
      obtain ⟨a, b, d⟩ := h6 j q
      have i0 := idx0_in (f (4 * j))
      unfold dgO at b d
      have a0 : atZ f n (4 * (j : Int)) = f (4 * j) := by unfold atZ; rw [if_pos (by omega), show (4 * (j : Int)).toNat = 4 * j by omega]
      have a1 : atZ f n (4 * (j : Int) + 1) = f (4 * j + 1) := by unfold atZ; rw [if_pos (by omega), show (4 * (j : Int) + 1).toNat = 4 * j + 1 by omega]
      have a2 : atZ f n (4 * (j : Int) + 2) = f (4 * j + 2) := by unfold atZ; rw [if_pos (by omega), show (4 * (j : Int) + 2).toNat = 4 * j + 2 by omega]
      unfold PanB pdZ
      simp only [mkP_0, mkP_1, mkP_2, mkP_3, mkP_4, mkP_5, a0, a1, a2]
      omega
    · exact hpv j hj
  · rw [show catTo (pdZ f n) pv y' j = pdZ f n j from if_pos hj]
    exact Int.le_refl 0
  · have h8 := h7 c hc
    have h9 := idx1_in (f (4 * y' + 2 * c))
    have a0 : atZ f n (4 * (y' : Int) + 2 * (c : Int)) = f (4 * y' + 2 * c) := by unfold atZ; rw [if_pos (by omega), show (4 * (y' : Int) + 2 * (c : Int)).toNat = 4 * y' + 2 * c by omega]
    rw [a0]
    omega
theorem dairy_kd {f : Nat → Int} {n : Int} {kz : Nat → Int} {y t : Nat} {j : Nat} (hj : j < t) : kdZ f n (y : Int) j = kdM (catZ (fun c : Nat => idx1 (atZ f n (4 * (y : Int) + 2 * (c : Int)))) kz t) j := by
  unfold kdM catZ kdZ
  rw [if_pos hj]
theorem dairy_km {f : Nat → Int} {n : Int} {kz : Nat → Int} {y t : Nat} (h : ∀ c : Nat, c < t → 0 ≤ idx1 (atZ f n (4 * (y : Int) + 2 * (c : Int))) ∧ idx1 (atZ f n (4 * (y : Int) + 2 * (c : Int))) ≤ 4) : KidM (t : Int) (catZ (fun c : Nat => idx1 (atZ f n (4 * (y : Int) + 2 * (c : Int)))) kz t) := by
  intro j hj
  rw [show catZ (fun c : Nat => idx1 (atZ f n (4 * (y : Int) + 2 * (c : Int)))) kz t j = idx1 (atZ f n (4 * (y : Int) + 2 * (j : Int))) from if_pos (by omega)]
  exact h j (by omega)
-- the reference's numbers, behind a reading
theorem mj_3 {mj mi : Nat → Int} (h : ∀ k : Nat, ¬ k = 19 → ¬ k = 20 → ¬ k = 21 → mj k = mi k) : mj = updZ (updZ (updZ mi 19 (mj 19)) 20 (mj 20)) 21 (mj 21) := by
  funext k
  unfold updZ
  by_cases q1 : k = 21
  · rw [if_pos q1, q1]
  · rw [if_neg q1]
    by_cases q2 : k = 20
    · rw [if_pos q2, q2]
    · rw [if_neg q2]
      by_cases q3 : k = 19
      · rw [if_pos q3, q3]
      · rw [if_neg q3]; exact h k q3 q2 q1
theorem mj_9 {mj mi : Nat → Int} {y t : Int} (h1 : mj 1 = y) (h2 : mj 2 = t) (h11 : mj 11 = 0) (h0 : mj 0 = mi 0 + 1) (h13 : mj 13 = 0) (h17 : mj 17 = 0) (h : ∀ k : Nat, ¬ k = 0 → ¬ k = 1 → ¬ k = 2 → ¬ k = 11 → ¬ k = 13 → ¬ k = 17 → ¬ k = 19 → ¬ k = 20 → ¬ k = 21 → mj k = mi k) : mj = updZ (updZ (updZ (updZ (updZ (updZ (updZ (updZ (updZ mi 0 (mi 0 + 1)) 1 y) 2 t) 11 0) 13 0) 17 0) 19 (mj 19)) 20 (mj 20)) 21 (mj 21) := by
  funext k
  unfold updZ
  by_cases q1 : k = 21
  · rw [if_pos q1, q1]
  · rw [if_neg q1]
    by_cases q2 : k = 20
    · rw [if_pos q2, q2]
    · rw [if_neg q2]
      by_cases q3 : k = 19
      · rw [if_pos q3, q3]
      · rw [if_neg q3]
        by_cases q4 : k = 17
        · rw [if_pos q4, q4, h17]
        · rw [if_neg q4]
          by_cases q5 : k = 13
          · rw [if_pos q5, q5, h13]
          · rw [if_neg q5]
            by_cases q6 : k = 11
            · rw [if_pos q6, q6, h11]
            · rw [if_neg q6]
              by_cases q7 : k = 2
              · rw [if_pos q7, q7, h2]
              · rw [if_neg q7]
                by_cases q8 : k = 1
                · rw [if_pos q8, q8, h1]
                · rw [if_neg q8]
                  by_cases q9 : k = 0
                  · rw [if_pos q9, q9, h0]
                  · rw [if_neg q9]; exact h k q9 q8 q7 q6 q5 q4 q3 q2 q1
theorem hourR_eq {t t' u : Int} (h : t ≤ 0 ↔ t' ≤ 0) : hourR t u = hourR t' u := by unfold hourR; simp only [h]
theorem hourV_eq {t t' u n : Int} {pv : Nat → Nat → Int} (h : t ≤ 0 ↔ t' ≤ 0) : hourV t u n pv = hourV t' u n pv := by unfold hourV; simp only [h]
theorem hourU_eq {t t' u : Int} (h : t ≤ 0 ↔ t' ≤ 0) : hourU t u = hourU t' u := by unfold hourU; simp only [h]
theorem nightsR_eq {t n d d' x z y : Int} {kd : Nat → Nat} {pv : Nat → Nat → Int} (h : d ≤ 0 ↔ d' ≤ 0) : nightsR t n d x z y kd pv = nightsR t n d' x z y kd pv := by unfold nightsR; simp only [h]
theorem treatyN_in {t z x y k : Int} (h : 0 ≤ k ∧ k ≤ 40) : 0 ≤ treatyN t z x y k ∧ treatyN t z x y k ≤ 40 := by
  unfold treatyN
  repeat' split
  all_goals omega
section ZL
variable {p : Program} {l : Launch} {e : Env} {R : Room} {s : State} {m : MethodId} {args : Array Value} {below : List Frame} {meth : Method} {c : Code} {H : Heap} {locs : List Loc} {cells slots : Nat} {Q : State → Prop}
variable {cc : ByteArray} {pc : Nat} {ls : Array Slot} {rest : List Value} {A : Nat → Prop}
theorem z_sld (hx : p.tables.exec = Jvm.exec) (hb : c.code = cc) {b L : Nat} {xs : Nat → Int32} {xz : Nat → Int} (hxz : ∀ k, InR (xz k) ∧ xs k = iI (xz k)) (hX : va_X b L xs s s.heap) (hbl : b < s.heap.size) (hbA : ¬ A b) (hS : va_S A s.heap H locs) {z : Int} (hi : 0 ≤ z ∧ z < L ∧ L ≤ 320) (hdg : decode cc pc = .ok (.iaload, 1))
    (kk : W p l e R s m args below meth c H locs cells slots Q (F0 m (pc + 1) ls (.int (iI (xz z.toNat)) :: rest))) : W p l e R s m args below meth c H locs cells slots Q (F0 m pc ls (.int (iI z) :: .ref b :: rest)) :=
  va_sld hx hb hX hbl hbA hS (iI_in ⟨hi.1, hi.2.1, by omega⟩) hdg (by rw [iI_clamp ⟨by omega, by omega⟩, (hxz z.toNat).2]; exact kk)
theorem z_sand (hx : p.tables.exec = Jvm.exec) (hb : c.code = cc) {a b : Int32} (hdg : decode cc pc = .ok (.iand, 1)) (kk : ∀ k : Int, InR k → W p l e R s m args below meth c H locs cells slots Q (F0 m (pc + 1) ls (.int (iI k) :: rest))) : W p l e R s m args below meth c H locs cells slots Q (F0 m pc ls (.int b :: .int a :: rest)) := by
  refine lv_iand hx hb hdg ?_
  obtain ⟨k, hk, e⟩ := iI_of (a &&& b)
  rw [e]
  exact kk k hk
end ZL
