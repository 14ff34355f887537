-- what every method is given, at the law's entry
theorem zk_ab {s : State} {args : Array Value} (h : (Cond.arrayClass .byte).before args s = true) : ∃ c : ClassId, ArrOfT s c .byte ∧ va_RA s c .byte := by
  obtain ⟨c, k, comp, h1, h2, h3⟩ := Cond.arrayClass_spec h
  exact ⟨c, fun n z => ⟨fun _ q => (by cases q), k, h2, comp, h3⟩, h1⟩
theorem zk_ac {s : State} {args : Array Value} (h : (Cond.arrayClass .char).before args s = true) : ∃ c : ClassId, ArrOfT s c .char ∧ va_RA s c .char := by
  obtain ⟨c, k, comp, h1, h2, h3⟩ := Cond.arrayClass_spec h
  exact ⟨c, fun n z => ⟨fun _ q => (by cases q), k, h2, comp, h3⟩, h1⟩
theorem zk_ai {s : State} {args : Array Value} (h : (Cond.arrayClass .int).before args s = true) : ∃ c : ClassId, ArrOfT s c .int ∧ va_RA s c .int := by
  obtain ⟨c, k, comp, h1, h2, h3⟩ := Cond.arrayClass_spec h
  exact ⟨c, fun n z => ⟨fun _ q => (by cases q), k, h2, comp, h3⟩, h1⟩
theorem zk_ao {s : State} {args : Array Value} {C : String} (h : (Cond.arrayOver (.object C)).before args s = true) : ∃ c : ClassId, ArrOfT s c (.object C) ∧ va_RA s c (.object C) := by
  obtain ⟨comp, c, k, h1, h2, h3, h4, h5⟩ := Cond.arrayOver_spec h
  exact ⟨c, fun n z => ⟨fun _ q => (by cases q), k, h3, comp, h4⟩, k, comp, h3, h4, h1, h5⟩
theorem zk_nc : ∀ q ∈ ncL, Cond.not (.castable q.1 q.2) ∈ flatC (Jvm.Cond.and given_1 narrow_1) := by decide +kernel
theorem zk_yc : ∀ q ∈ ycL, Cond.castable q.1 q.2 ∈ lw_tbl := by decide +kernel
theorem zk_nf : ∀ q ∈ nfL, Cond.fieldLinkNest q.1 q.2.1 q.2.2.1 q.2.2.2.1 q.2.2.2.2.1 q.2.2.2.2.2 ∈ lw_tbl := by decide +kernel
theorem zk_nm : ∀ q ∈ nmL, Cond.methodLinkNest q.1 q.2.1 q.2.2.1 q.2.2.2 ∈ lw_tbl := by decide +kernel
theorem zk_aoL : ∀ q ∈ aoL, Cond.arrayOver (.object q) ∈ lw_tbl := by decide +kernel
set_option maxHeartbeats 4000000 in
set_option maxRecDepth 100000 in
theorem zk_cls {s : State} {b : Nat} (hts0 : ∀ w ∈ lw_tbl, w.before #[Value.ref b] s = true) : ∃ (dC : Nat → ClassId) (dI : Nat → Nat → Nat), ∀ (k : Nat) (q : vw_C), vwCl[k]? = some q → u_Kn s q.1 q.2.1 q.2.2 (dC k) (dI k) := by
  have hts : ∀ w ∈ wsL_law, w.before #[Value.ref b] s = true := fun w h => hts0 w (wsL_law_in w h)
  obtain ⟨c0, i0, k0⟩ := u_known (C := RX0) (T := TX0) (N := 2) (n := 2) hts inlX0 (hts0 (.instantiable RX0 2) (by decide +kernel))
  obtain ⟨c1, i1, k1⟩ := u_known (C := RX1) (T := TX1) (N := 2) (n := 2) hts inlX1 (hts0 (.instantiable RX1 2) (by decide +kernel))
  obtain ⟨c2, i2, k2⟩ := u_known (C := RX2) (T := TX2) (N := 2) (n := 2) hts inlX2 (hts0 (.instantiable RX2 2) (by decide +kernel))
  obtain ⟨c3, i3, k3⟩ := u_known (C := RX3) (T := TX3) (N := 5) (n := 5) hts inlX3 (hts0 (.instantiable RX3 5) (by decide +kernel))
  obtain ⟨c4, i4, k4⟩ := u_known (C := RX4) (T := TX4) (N := 6) (n := 6) hts inlX4 (hts0 (.instantiable RX4 6) (by decide +kernel))
  obtain ⟨c5, i5, k5⟩ := u_known (C := RX5) (T := TX5) (N := 2) (n := 2) hts inlX5 (hts0 (.instantiable RX5 2) (by decide +kernel))
  obtain ⟨c6, i6, k6⟩ := u_known (C := RX6) (T := TX6) (N := 2) (n := 2) hts inlX6 (hts0 (.instantiable RX6 2) (by decide +kernel))
  obtain ⟨c7, i7, k7⟩ := u_known (C := RX7) (T := TX7) (N := 2) (n := 2) hts inlX7 (hts0 (.instantiable RX7 2) (by decide +kernel))
  obtain ⟨c8, i8, k8⟩ := u_known (C := RX8) (T := TX8) (N := 4) (n := 4) hts inlX8 (hts0 (.instantiable RX8 4) (by decide +kernel))
  obtain ⟨c9, i9, k9⟩ := u_known (C := RX9) (T := TX9) (N := 5) (n := 5) hts inlX9 (hts0 (.instantiable RX9 5) (by decide +kernel))
  obtain ⟨c10, i10, k10⟩ := u_known (C := RX10) (T := TX10) (N := 2) (n := 2) hts inlX10 (hts0 (.instantiable RX10 2) (by decide +kernel))
  obtain ⟨c11, i11, k11⟩ := u_known (C := RX11) (T := TX11) (N := 16) (n := 16) hts inlX11 (hts0 (.instantiable RX11 16) (by decide +kernel))
  obtain ⟨c12, i12, k12⟩ := u_known (C := RX12) (T := TX12) (N := 38) (n := 38) hts inlX12 (hts0 (.instantiable RX12 38) (by decide +kernel))
  refine ⟨fun k => [c0, c1, c2, c3, c4, c5, c6, c7, c8, c9, c10, c11, c12].getD k c0, fun k => [i0, i1, i2, i3, i4, i5, i6, i7, i8, i9, i10, i11, i12].getD k i0, ?_⟩
  intro k q hq
  match k, hq with
  | 0, hq => cases hq; exact k0
  | 1, hq => cases hq; exact k1
  | 2, hq => cases hq; exact k2
  | 3, hq => cases hq; exact k3
  | 4, hq => cases hq; exact k4
  | 5, hq => cases hq; exact k5
  | 6, hq => cases hq; exact k6
  | 7, hq => cases hq; exact k7
  | 8, hq => cases hq; exact k8
  | 9, hq => cases hq; exact k9
  | 10, hq => cases hq; exact k10
  | 11, hq => cases hq; exact k11
  | 12, hq => cases hq; exact k12
  | k + 13, hq => simp at hq
theorem zk_tys {s : State} {b : Nat} (hts0 : ∀ w ∈ lw_tbl, w.before #[Value.ref b] s = true) : ∃ ty : Nat → ClassId, ∀ (k : Nat) (q : ClassId × FieldType), (tyL ty)[k]? = some q → ArrOfT s q.1 q.2 ∧ va_RA s q.1 q.2 := by
  obtain ⟨a0, h0⟩ := zk_ab (hts0 (.arrayClass .byte) (by decide +kernel))
  obtain ⟨a1, h1⟩ := zk_ac (hts0 (.arrayClass .char) (by decide +kernel))
  obtain ⟨a2, h2⟩ := zk_ai (hts0 (.arrayClass .int) (by decide +kernel))
  obtain ⟨a3, h3⟩ := zk_ao (hts0 (.arrayOver (.object "SkimmedSons$Child")) (by decide +kernel))
  obtain ⟨a4, h4⟩ := zk_ao (hts0 (.arrayOver (.object "SkimmedSons$Pan")) (by decide +kernel))
  obtain ⟨a5, h5⟩ := zk_ao (hts0 (.arrayOver (.object "SkimmedSons$Shelf")) (by decide +kernel))
  refine ⟨fun k => [a0, a1, a2, a3, a4, a5].getD k a0, ?_⟩
  intro k q hq
  match k, hq with
  | 0, hq => cases hq; exact h0
  | 1, hq => cases hq; exact h1
  | 2, hq => cases hq; exact h2
  | 3, hq => cases hq; exact h3
  | 4, hq => cases hq; exact h4
  | 5, hq => cases hq; exact h5
  | k + 6, hq => simp at hq
set_option maxHeartbeats 4000000 in
set_option maxRecDepth 100000 in
theorem zk_str {s : State} {b : Nat} {A : Nat → Prop} (hs : ∀ c ∈ flatC (Jvm.Cond.and given_1 narrow_1), c.before #[Value.ref b] s = true) (hA : ∀ a : Nat, a < s.heap.size → ¬ A a) : ∃ adK adV : Nat → Nat, vk_S 2 [3, 5] zTx adK adV A s s.heap ∧ ∀ i : Nat, i < 2 → ((fun i : Nat => if i = 0 then Term.string "SkimmedSons$Page" 44 else Term.string "SkimmedSons$Page" 56) i).eval #[Value.ref b] s none [] s = some (.ref (adK i)) := by
  have h1 : ∀ i : Nat, i < 2 → [3, 5].getD i 0 < 2 ^ 31 := by decide
  have h2 : ∀ i : Nat, i < 2 → (Cond.exactly ((fun i : Nat => if i = 0 then Term.string "SkimmedSons$Page" 44 else Term.string "SkimmedSons$Page" 56) i) "java/lang/String").before #[Value.ref b] s = true := fun i hi => by
    rcases (show i = 0 ∨ i = 1 by omega) with rfl | rfl
    · exact hs (.exactly (.string "SkimmedSons$Page" 44) "java/lang/String") (by decide +kernel)
    · exact hs (.exactly (.string "SkimmedSons$Page" 56) "java/lang/String") (by decide +kernel)
  have h3 : ∀ i : Nat, i < 2 → (Cond.eq (.field ((fun i : Nat => if i = 0 then Term.string "SkimmedSons$Page" 44 else Term.string "SkimmedSons$Page" 56) i) "java/lang/String" "coder" "B") (.int 0)).before #[Value.ref b] s = true := fun i hi => by
    rcases (show i = 0 ∨ i = 1 by omega) with rfl | rfl
    · exact hs (.eq (.field (.string "SkimmedSons$Page" 44) "java/lang/String" "coder" "B") (.int 0)) (by decide +kernel)
    · exact hs (.eq (.field (.string "SkimmedSons$Page" 56) "java/lang/String" "coder" "B") (.int 0)) (by decide +kernel)
  have h4 : ∀ i : Nat, i < 2 → (Cond.arrayOf (.field ((fun i : Nat => if i = 0 then Term.string "SkimmedSons$Page" 44 else Term.string "SkimmedSons$Page" 56) i) "java/lang/String" "value" "[B") .byte).before #[Value.ref b] s = true := fun i hi => by
    rcases (show i = 0 ∨ i = 1 by omega) with rfl | rfl
    · exact hs (.arrayOf (.field (.string "SkimmedSons$Page" 44) "java/lang/String" "value" "[B") .byte) (by decide +kernel)
    · exact hs (.arrayOf (.field (.string "SkimmedSons$Page" 56) "java/lang/String" "value" "[B") .byte) (by decide +kernel)
  have h5 : ∀ i : Nat, i < 2 → (Cond.eq (.length (.field ((fun i : Nat => if i = 0 then Term.string "SkimmedSons$Page" 44 else Term.string "SkimmedSons$Page" 56) i) "java/lang/String" "value" "[B")) (.int (Int32.ofNat ([3, 5].getD i 0)))).before #[Value.ref b] s = true := fun i hi => by
    rcases (show i = 0 ∨ i = 1 by omega) with rfl | rfl
    · exact hs (.eq (.length (.field (.string "SkimmedSons$Page" 44) "java/lang/String" "value" "[B")) (.int 3)) (by decide +kernel)
    · exact hs (.eq (.length (.field (.string "SkimmedSons$Page" 56) "java/lang/String" "value" "[B")) (.int 5)) (by decide +kernel)
  have h6 : ∀ i : Nat, i < 2 → ∀ j : Nat, j < [3, 5].getD i 0 → (Cond.eq (.elem (.field ((fun i : Nat => if i = 0 then Term.string "SkimmedSons$Page" 44 else Term.string "SkimmedSons$Page" 56) i) "java/lang/String" "value" "[B") (.int (Int32.ofNat j))) (.int ((zTx.getD i []).getD j 0))).before #[Value.ref b] s = true := fun i hi j hj => by
    rcases (show i = 0 ∨ i = 1 by omega) with rfl | rfl
    · rcases (show j = 0 ∨ j = 1 ∨ j = 2 from by have hj : j < 3 := hj; omega) with rfl | rfl | rfl
      · exact hs (.eq (.elem (.field (.string "SkimmedSons$Page" 44) "java/lang/String" "value" "[B") (.int 0)) (.int 119)) (by decide +kernel)
      · exact hs (.eq (.elem (.field (.string "SkimmedSons$Page" 44) "java/lang/String" "value" "[B") (.int 1)) (.int 99)) (by decide +kernel)
      · exact hs (.eq (.elem (.field (.string "SkimmedSons$Page" 44) "java/lang/String" "value" "[B") (.int 2)) (.int 102)) (by decide +kernel)
    · rcases (show j = 0 ∨ j = 1 ∨ j = 2 ∨ j = 3 ∨ j = 4 from by have hj : j < 5 := hj; omega) with rfl | rfl | rfl | rfl | rfl
      · exact hs (.eq (.elem (.field (.string "SkimmedSons$Page" 56) "java/lang/String" "value" "[B") (.int 0)) (.int 99)) (by decide +kernel)
      · exact hs (.eq (.elem (.field (.string "SkimmedSons$Page" 56) "java/lang/String" "value" "[B") (.int 1)) (.int 104)) (by decide +kernel)
      · exact hs (.eq (.elem (.field (.string "SkimmedSons$Page" 56) "java/lang/String" "value" "[B") (.int 2)) (.int 115)) (by decide +kernel)
      · exact hs (.eq (.elem (.field (.string "SkimmedSons$Page" 56) "java/lang/String" "value" "[B") (.int 3)) (.int 121)) (by decide +kernel)
      · exact hs (.eq (.elem (.field (.string "SkimmedSons$Page" 56) "java/lang/String" "value" "[B") (.int 4)) (.int 106)) (by decide +kernel)
  have h7 : ∀ i j : Nat, i < 2 → j < 2 → i ≠ j → (Cond.not (Cond.eq ((fun i : Nat => if i = 0 then Term.string "SkimmedSons$Page" 44 else Term.string "SkimmedSons$Page" 56) i) ((fun i : Nat => if i = 0 then Term.string "SkimmedSons$Page" 44 else Term.string "SkimmedSons$Page" 56) j))).before #[Value.ref b] s = true ∨ (Cond.not (Cond.eq ((fun i : Nat => if i = 0 then Term.string "SkimmedSons$Page" 44 else Term.string "SkimmedSons$Page" 56) j) ((fun i : Nat => if i = 0 then Term.string "SkimmedSons$Page" 44 else Term.string "SkimmedSons$Page" 56) i))).before #[Value.ref b] s = true := fun i j hi hj hij => by
    rcases (show (i = 0 ∧ j = 1) ∨ (i = 1 ∧ j = 0) by omega) with ⟨rfl, rfl⟩ | ⟨rfl, rfl⟩
    · exact Or.inl (hs (.not (.eq (.string "SkimmedSons$Page" 44) (.string "SkimmedSons$Page" 56))) (by decide +kernel))
    · exact Or.inr (hs (.not (.eq (.string "SkimmedSons$Page" 44) (.string "SkimmedSons$Page" 56))) (by decide +kernel))
  exact vk_Sof (tm := fun i : Nat => if i = 0 then Term.string "SkimmedSons$Page" 44 else Term.string "SkimmedSons$Page" 56) h1 h2 h3 h4 h5 h6 h7 hA
set_option maxHeartbeats 4000000 in
set_option maxRecDepth 100000 in
theorem zk_start {s : State} {b : Nat} (hts0 : ∀ w ∈ lw_tbl, w.before #[Value.ref b] s = true) (hgv : (Jvm.Cond.and given_1 narrow_1).before #[Value.ref b] s = true) : ∃ X : zX, zK X (fun q : Nat => s.heap.size ≤ q) s s.heap := by
  have hs := flat_of_before _ hgv
  have hA : ∀ a : Nat, a < s.heap.size → ¬ (fun q : Nat => s.heap.size ≤ q) a := fun a h => Nat.not_le.mpr h
  obtain ⟨dC, dI, hC⟩ := zk_cls hts0
  obtain ⟨ty, hT⟩ := zk_tys hts0
  obtain ⟨adK, adV, hV, hE⟩ := zk_str hs hA
  refine ⟨((dC, dI), ty, adK, adV), ⟨hC, hT⟩, hV, ⟨?_, ?_⟩, ⟨?_, ?_⟩, ?_, ⟨?_, ?_⟩, ?_, ?_, ?_⟩
  · exact vk_R.of (hts0 (.stringRef RX11 117 "wcf") (by decide +kernel)) (va_eqR (hs (.eq (.string "SkimmedSons$Page" 44) (.string "SkimmedSons" 117)) (by decide +kernel)) (hE 0 (by decide)))
  · exact vk_R.of (hts0 (.stringRef RX11 143 "chsyj") (by decide +kernel)) (va_eqR (hs (.eq (.string "SkimmedSons$Page" 56) (.string "SkimmedSons" 143)) (by decide +kernel)) (hE 1 (by decide)))
  · exact vk_R.of (hts0 (.stringRef RX3 44 "wcf") (by decide +kernel)) (hE 0 (by decide))
  · exact vk_R.of (hts0 (.stringRef RX3 56 "chsyj") (by decide +kernel)) (hE 1 (by decide))
  · exact va_Zof (hts0 (.laysStatic "java/lang/String" "COMPACT_STRINGS" "Z") (by decide +kernel)) (hts0 (.initialized "java/lang/String") (by decide +kernel)) (va_eqi (hs (.eq (.static "java/lang/String" "COMPACT_STRINGS" "Z") (.int 1)) (by decide +kernel))) hA
  · exact fun q hq => va_Nc.of (hs _ (zk_nc q hq))
  · exact fun q hq => va_Nw.of rfl (hts0 _ (zk_yc q hq))
  · exact fun q hq => va_Nw.of rfl (hts0 _ (zk_nf q hq))
  · exact fun q hq => va_Nw.of rfl (hts0 _ (zk_nm q hq))
  · exact fun q hq => va_AO.of (hts0 _ (zk_aoL q hq))
