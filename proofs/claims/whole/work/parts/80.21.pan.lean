set_option maxHeartbeats 1000000 in
set_option maxRecDepth 100000 in
theorem c_X4_fill (l : Launch) (X : zX) (a : Nat) (v : Nat → Int) (x : Int) (y : Int) (z : Int)  : zF l X yX4_fill wsX4_fill 0 0 [.ref a, .int (iI x), .int (iI y), .int (iI z)] (zb [Wpan a v]) none (zb [Wpan a (mkP x 0 y 0 0 z)]) := by
  refine z_enter (cc := cX4_fill) (maxL := 4) (ret := none) (by decide) rfl (Nat.le_of_ble_eq_true rfl) ?_
  intro p e s m below meth c A ls Q hQ hE hl hP hD
  obtain ⟨hx, hb, hr, hml, hown, hts, hlocks, hnm, hA, hK⟩ := hE
  have hown : s.vm.findClass RX4 = some m.cls := hown
  have hS : va_S A s.heap s.heap [] := va_S.rf
  have hl : lv_has ls 4 [(0, .ref a), (1, .int (iI x)), (2, .int (iI y)), (3, .int (iI z))] := hl
  have inX4 : ∀ w ∈ u_ws RX4 TX4 6, w ∈ wsX4_fill := by decide +kernel
  refine lv_aload_n hx hb dX4_fill_0 rfl (lv_at hl 0 rfl) ?_
  refine lv_iload_n hx hb dX4_fill_1 rfl (lv_at hl 1 rfl) ?_
  refine va_put (ci := 4) (v := .int (iI x)) (ty := .int) (C := RX4) (T := TX4) (N := 6) hx hb hts inX4 tyX4 tyX4_ok nmX4 hown hK.1 hP hD hS 0 rfl rfl 0 (by decide) (hts (.fieldLink RX4 9 "SkimmedSons$Pan" "sill" "I") (by decide +kernel)) (fun _ h9 => h9) rfl (by decide +kernel) rfl rfl (Nat.le_of_ble_eq_true rfl) dX4_fill_2 (fun H locs hP hD hS => ?_)
  have hP : va_P X.1 vwCl (zb [Wpan a (updZ v 0 x)]) H := hP
  have hD : va_D A (zb [Wpan a (updZ v 0 x)]) := hD
  refine lv_aload_n hx hb dX4_fill_5 rfl (lv_at hl 0 rfl) ?_
  refine lv_iconst (v := iI 0) hx hb dX4_fill_6 (by decide) ?_
  refine va_put (ci := 4) (v := .int (iI 0)) (ty := .int) (C := RX4) (T := TX4) (N := 6) hx hb hts inX4 tyX4 tyX4_ok nmX4 hown hK.1 hP hD hS 0 rfl rfl 1 (by decide) (hts (.fieldLink RX4 15 "SkimmedSons$Pan" "still" "I") (by decide +kernel)) (fun _ h9 => h9) rfl (by decide +kernel) rfl rfl (Nat.le_of_ble_eq_true rfl) dX4_fill_7 (fun H locs hP hD hS => ?_)
  have hP : va_P X.1 vwCl (zb [Wpan a (updZ (updZ v 0 x) 1 0)]) H := hP
  have hD : va_D A (zb [Wpan a (updZ (updZ v 0 x) 1 0)]) := hD
  refine lv_aload_n hx hb dX4_fill_10 rfl (lv_at hl 0 rfl) ?_
  refine lv_iload_n hx hb dX4_fill_11 rfl (lv_at hl 2 rfl) ?_
  refine va_put (ci := 4) (v := .int (iI y)) (ty := .int) (C := RX4) (T := TX4) (N := 6) hx hb hts inX4 tyX4 tyX4_ok nmX4 hown hK.1 hP hD hS 0 rfl rfl 2 (by decide) (hts (.fieldLink RX4 18 "SkimmedSons$Pan" "fat" "I") (by decide +kernel)) (fun _ h9 => h9) rfl (by decide +kernel) rfl rfl (Nat.le_of_ble_eq_true rfl) dX4_fill_12 (fun H locs hP hD hS => ?_)
  have hP : va_P X.1 vwCl (zb [Wpan a (updZ (updZ (updZ v 0 x) 1 0) 2 y)]) H := hP
  have hD : va_D A (zb [Wpan a (updZ (updZ (updZ v 0 x) 1 0) 2 y)]) := hD
  refine lv_aload_n hx hb dX4_fill_15 rfl (lv_at hl 0 rfl) ?_
  refine lv_iconst (v := iI 0) hx hb dX4_fill_16 (by decide) ?_
  refine va_put (ci := 4) (v := .int (iI 0)) (ty := .int) (C := RX4) (T := TX4) (N := 6) hx hb hts inX4 tyX4 tyX4_ok nmX4 hown hK.1 hP hD hS 0 rfl rfl 3 (by decide) (hts (.fieldLink RX4 21 "SkimmedSons$Pan" "cream" "I") (by decide +kernel)) (fun _ h9 => h9) rfl (by decide +kernel) rfl rfl (Nat.le_of_ble_eq_true rfl) dX4_fill_17 (fun H locs hP hD hS => ?_)
  have hP : va_P X.1 vwCl (zb [Wpan a (updZ (updZ (updZ (updZ v 0 x) 1 0) 2 y) 3 0)]) H := hP
  have hD : va_D A (zb [Wpan a (updZ (updZ (updZ (updZ v 0 x) 1 0) 2 y) 3 0)]) := hD
  refine lv_aload_n hx hb dX4_fill_20 rfl (lv_at hl 0 rfl) ?_
  refine lv_iconst (v := iI 0) hx hb dX4_fill_21 (by decide) ?_
  refine va_put (ci := 4) (v := .int (iI 0)) (ty := .int) (C := RX4) (T := TX4) (N := 6) hx hb hts inX4 tyX4 tyX4_ok nmX4 hown hK.1 hP hD hS 0 rfl rfl 4 (by decide) (hts (.fieldLink RX4 24 "SkimmedSons$Pan" "film" "I") (by decide +kernel)) (fun _ h9 => h9) rfl (by decide +kernel) rfl rfl (Nat.le_of_ble_eq_true rfl) dX4_fill_22 (fun H locs hP hD hS => ?_)
  have hP : va_P X.1 vwCl (zb [Wpan a (updZ (updZ (updZ (updZ (updZ v 0 x) 1 0) 2 y) 3 0) 4 0)]) H := hP
  have hD : va_D A (zb [Wpan a (updZ (updZ (updZ (updZ (updZ v 0 x) 1 0) 2 y) 3 0) 4 0)]) := hD
  refine lv_aload_n hx hb dX4_fill_25 rfl (lv_at hl 0 rfl) ?_
  refine lv_iload_n hx hb dX4_fill_26 rfl (lv_at hl 3 rfl) ?_
  refine va_put (ci := 4) (v := .int (iI z)) (ty := .int) (C := RX4) (T := TX4) (N := 6) hx hb hts inX4 tyX4 tyX4_ok nmX4 hown hK.1 hP hD hS 0 rfl rfl 5 (by decide) (hts (.fieldLink RX4 27 "SkimmedSons$Pan" "blue" "I") (by decide +kernel)) (fun _ h9 => h9) rfl (by decide +kernel) rfl rfl (Nat.le_of_ble_eq_true rfl) dX4_fill_27 (fun H locs hP hD hS => ?_)
  have hP : va_P X.1 vwCl (zb [Wpan a (updZ (updZ (updZ (updZ (updZ (updZ v 0 x) 1 0) 2 y) 3 0) 4 0) 5 z)]) H := hP
  have hD : va_D A (zb [Wpan a (updZ (updZ (updZ (updZ (updZ (updZ v 0 x) 1 0) 2 y) 3 0) 4 0) 5 z)]) := hD
  have hw : zb [Wpan a (updZ (updZ (updZ (updZ (updZ (updZ v 0 x) 1 0) 2 y) 3 0) 4 0) 5 z)] = zb [Wpan a (mkP x 0 y 0 0 z)] := by rfl
  rw [hw] at hP hD
  exact z_vret hQ hx hb hr hlocks hS ⟨Nat.le_of_ble_eq_true rfl, Nat.le_of_ble_eq_true rfl⟩ dX4_fill_30 () rfl trivial hP hD
set_option maxHeartbeats 1000000 in
set_option maxRecDepth 100000 in
theorem c_X4_copyFrom (l : Launch) (X : zX) (a : Nat) (v : Nat → Int) (b : Nat) (u : Nat → Int)  : zF l X yX4_copyFrom wsX4_copyFrom 0 0 [.ref a, .ref b] (zb [Wpan a v, Wpan b u]) none (zb [Wpan a u, Wpan b u]) := by
  refine z_enter (cc := cX4_copyFrom) (maxL := 2) (ret := none) (by decide) rfl (Nat.le_of_ble_eq_true rfl) ?_
  intro p e s m below meth c A ls Q hQ hE hl hP hD
  obtain ⟨hx, hb, hr, hml, hown, hts, hlocks, hnm, hA, hK⟩ := hE
  have hown : s.vm.findClass RX4 = some m.cls := hown
  have hS : va_S A s.heap s.heap [] := va_S.rf
  have hl : lv_has ls 2 [(0, .ref a), (1, .ref b)] := hl
  have inX4 : ∀ w ∈ u_ws RX4 TX4 6, w ∈ wsX4_copyFrom := by decide +kernel
  refine lv_aload_n hx hb dX4_copyFrom_0 rfl (lv_at hl 0 rfl) ?_
  refine lv_aload_n hx hb dX4_copyFrom_1 rfl (lv_at hl 1 rfl) ?_
  refine va_get (ci := 4) (v := .int (iI (u 0))) (C := RX4) (T := TX4) (N := 6) hx hb hts inX4 hown hK.1 hP 1 rfl rfl 0 (by decide) (hts (.fieldLink RX4 9 "SkimmedSons$Pan" "sill" "I") (by decide +kernel)) (fun _ h9 => h9) rfl dX4_copyFrom_2 ?_
  refine va_put (ci := 4) (v := .int (iI (u 0))) (ty := .int) (C := RX4) (T := TX4) (N := 6) hx hb hts inX4 tyX4 tyX4_ok nmX4 hown hK.1 hP hD hS 0 rfl rfl 0 (by decide) (hts (.fieldLink RX4 9 "SkimmedSons$Pan" "sill" "I") (by decide +kernel)) (fun _ h9 => h9) rfl (by decide +kernel) rfl rfl (Nat.le_of_ble_eq_true rfl) dX4_copyFrom_5 (fun H locs hP hD hS => ?_)
  have hP : va_P X.1 vwCl (zb [Wpan a (updZ v 0 (u 0)), Wpan b u]) H := hP
  have hD : va_D A (zb [Wpan a (updZ v 0 (u 0)), Wpan b u]) := hD
  refine lv_aload_n hx hb dX4_copyFrom_8 rfl (lv_at hl 0 rfl) ?_
  refine lv_aload_n hx hb dX4_copyFrom_9 rfl (lv_at hl 1 rfl) ?_
  refine va_get (ci := 4) (v := .int (iI (u 1))) (C := RX4) (T := TX4) (N := 6) hx hb hts inX4 hown hK.1 hP 1 rfl rfl 1 (by decide) (hts (.fieldLink RX4 15 "SkimmedSons$Pan" "still" "I") (by decide +kernel)) (fun _ h9 => h9) rfl dX4_copyFrom_10 ?_
  refine va_put (ci := 4) (v := .int (iI (u 1))) (ty := .int) (C := RX4) (T := TX4) (N := 6) hx hb hts inX4 tyX4 tyX4_ok nmX4 hown hK.1 hP hD hS 0 rfl rfl 1 (by decide) (hts (.fieldLink RX4 15 "SkimmedSons$Pan" "still" "I") (by decide +kernel)) (fun _ h9 => h9) rfl (by decide +kernel) rfl rfl (Nat.le_of_ble_eq_true rfl) dX4_copyFrom_13 (fun H locs hP hD hS => ?_)
  have hP : va_P X.1 vwCl (zb [Wpan a (updZ (updZ v 0 (u 0)) 1 (u 1)), Wpan b u]) H := hP
  have hD : va_D A (zb [Wpan a (updZ (updZ v 0 (u 0)) 1 (u 1)), Wpan b u]) := hD
  refine lv_aload_n hx hb dX4_copyFrom_16 rfl (lv_at hl 0 rfl) ?_
  refine lv_aload_n hx hb dX4_copyFrom_17 rfl (lv_at hl 1 rfl) ?_
  refine va_get (ci := 4) (v := .int (iI (u 2))) (C := RX4) (T := TX4) (N := 6) hx hb hts inX4 hown hK.1 hP 1 rfl rfl 2 (by decide) (hts (.fieldLink RX4 18 "SkimmedSons$Pan" "fat" "I") (by decide +kernel)) (fun _ h9 => h9) rfl dX4_copyFrom_18 ?_
  refine va_put (ci := 4) (v := .int (iI (u 2))) (ty := .int) (C := RX4) (T := TX4) (N := 6) hx hb hts inX4 tyX4 tyX4_ok nmX4 hown hK.1 hP hD hS 0 rfl rfl 2 (by decide) (hts (.fieldLink RX4 18 "SkimmedSons$Pan" "fat" "I") (by decide +kernel)) (fun _ h9 => h9) rfl (by decide +kernel) rfl rfl (Nat.le_of_ble_eq_true rfl) dX4_copyFrom_21 (fun H locs hP hD hS => ?_)
  have hP : va_P X.1 vwCl (zb [Wpan a (updZ (updZ (updZ v 0 (u 0)) 1 (u 1)) 2 (u 2)), Wpan b u]) H := hP
  have hD : va_D A (zb [Wpan a (updZ (updZ (updZ v 0 (u 0)) 1 (u 1)) 2 (u 2)), Wpan b u]) := hD
  refine lv_aload_n hx hb dX4_copyFrom_24 rfl (lv_at hl 0 rfl) ?_
  refine lv_aload_n hx hb dX4_copyFrom_25 rfl (lv_at hl 1 rfl) ?_
  refine va_get (ci := 4) (v := .int (iI (u 3))) (C := RX4) (T := TX4) (N := 6) hx hb hts inX4 hown hK.1 hP 1 rfl rfl 3 (by decide) (hts (.fieldLink RX4 21 "SkimmedSons$Pan" "cream" "I") (by decide +kernel)) (fun _ h9 => h9) rfl dX4_copyFrom_26 ?_
  refine va_put (ci := 4) (v := .int (iI (u 3))) (ty := .int) (C := RX4) (T := TX4) (N := 6) hx hb hts inX4 tyX4 tyX4_ok nmX4 hown hK.1 hP hD hS 0 rfl rfl 3 (by decide) (hts (.fieldLink RX4 21 "SkimmedSons$Pan" "cream" "I") (by decide +kernel)) (fun _ h9 => h9) rfl (by decide +kernel) rfl rfl (Nat.le_of_ble_eq_true rfl) dX4_copyFrom_29 (fun H locs hP hD hS => ?_)
  have hP : va_P X.1 vwCl (zb [Wpan a (updZ (updZ (updZ (updZ v 0 (u 0)) 1 (u 1)) 2 (u 2)) 3 (u 3)), Wpan b u]) H := hP
  have hD : va_D A (zb [Wpan a (updZ (updZ (updZ (updZ v 0 (u 0)) 1 (u 1)) 2 (u 2)) 3 (u 3)), Wpan b u]) := hD
  refine lv_aload_n hx hb dX4_copyFrom_32 rfl (lv_at hl 0 rfl) ?_
  refine lv_aload_n hx hb dX4_copyFrom_33 rfl (lv_at hl 1 rfl) ?_
  refine va_get (ci := 4) (v := .int (iI (u 4))) (C := RX4) (T := TX4) (N := 6) hx hb hts inX4 hown hK.1 hP 1 rfl rfl 4 (by decide) (hts (.fieldLink RX4 24 "SkimmedSons$Pan" "film" "I") (by decide +kernel)) (fun _ h9 => h9) rfl dX4_copyFrom_34 ?_
  refine va_put (ci := 4) (v := .int (iI (u 4))) (ty := .int) (C := RX4) (T := TX4) (N := 6) hx hb hts inX4 tyX4 tyX4_ok nmX4 hown hK.1 hP hD hS 0 rfl rfl 4 (by decide) (hts (.fieldLink RX4 24 "SkimmedSons$Pan" "film" "I") (by decide +kernel)) (fun _ h9 => h9) rfl (by decide +kernel) rfl rfl (Nat.le_of_ble_eq_true rfl) dX4_copyFrom_37 (fun H locs hP hD hS => ?_)
  have hP : va_P X.1 vwCl (zb [Wpan a (updZ (updZ (updZ (updZ (updZ v 0 (u 0)) 1 (u 1)) 2 (u 2)) 3 (u 3)) 4 (u 4)), Wpan b u]) H := hP
  have hD : va_D A (zb [Wpan a (updZ (updZ (updZ (updZ (updZ v 0 (u 0)) 1 (u 1)) 2 (u 2)) 3 (u 3)) 4 (u 4)), Wpan b u]) := hD
  refine lv_aload_n hx hb dX4_copyFrom_40 rfl (lv_at hl 0 rfl) ?_
  refine lv_aload_n hx hb dX4_copyFrom_41 rfl (lv_at hl 1 rfl) ?_
  refine va_get (ci := 4) (v := .int (iI (u 5))) (C := RX4) (T := TX4) (N := 6) hx hb hts inX4 hown hK.1 hP 1 rfl rfl 5 (by decide) (hts (.fieldLink RX4 27 "SkimmedSons$Pan" "blue" "I") (by decide +kernel)) (fun _ h9 => h9) rfl dX4_copyFrom_42 ?_
  refine va_put (ci := 4) (v := .int (iI (u 5))) (ty := .int) (C := RX4) (T := TX4) (N := 6) hx hb hts inX4 tyX4 tyX4_ok nmX4 hown hK.1 hP hD hS 0 rfl rfl 5 (by decide) (hts (.fieldLink RX4 27 "SkimmedSons$Pan" "blue" "I") (by decide +kernel)) (fun _ h9 => h9) rfl (by decide +kernel) rfl rfl (Nat.le_of_ble_eq_true rfl) dX4_copyFrom_45 (fun H locs hP hD hS => ?_)
  have hP : va_P X.1 vwCl (zb [Wpan a (updZ (updZ (updZ (updZ (updZ (updZ v 0 (u 0)) 1 (u 1)) 2 (u 2)) 3 (u 3)) 4 (u 4)) 5 (u 5)), Wpan b u]) H := hP
  have hD : va_D A (zb [Wpan a (updZ (updZ (updZ (updZ (updZ (updZ v 0 (u 0)) 1 (u 1)) 2 (u 2)) 3 (u 3)) 4 (u 4)) 5 (u 5)), Wpan b u]) := hD
  have hw : zb [Wpan a (updZ (updZ (updZ (updZ (updZ (updZ v 0 (u 0)) 1 (u 1)) 2 (u 2)) 3 (u 3)) 4 (u 4)) 5 (u 5)), Wpan b u] = zb [Wpan a u, Wpan b u] := by rfl
  rw [hw] at hP hD
  exact z_vret hQ hx hb hr hlocks hS ⟨Nat.le_of_ble_eq_true rfl, Nat.le_of_ble_eq_true rfl⟩ dX4_copyFrom_48 () rfl trivial hP hD
set_option maxHeartbeats 1000000 in
set_option maxRecDepth 100000 in
theorem c_X4_risePerHour (l : Launch) (X : zX) (a : Nat) (v : Nat → Int)  : zF l X yX4_risePerHour wsX4_risePerHour 0 0 [.ref a] (zb [Wpan a v]) (some (.int (iI (1 + v 0)))) (zb [Wpan a v]) := by
  refine z_enter (cc := cX4_risePerHour) (maxL := 1) (ret := (some .int)) (by decide) rfl (Nat.le_of_ble_eq_true rfl) ?_
  intro p e s m below meth c A ls Q hQ hE hl hP hD
  obtain ⟨hx, hb, hr, hml, hown, hts, hlocks, hnm, hA, hK⟩ := hE
  have hown : s.vm.findClass RX4 = some m.cls := hown
  have hS : va_S A s.heap s.heap [] := va_S.rf
  have hl : lv_has ls 1 [(0, .ref a)] := hl
  have inX4 : ∀ w ∈ u_ws RX4 TX4 6, w ∈ wsX4_risePerHour := by decide +kernel
  refine lv_iconst (v := iI 1) hx hb dX4_risePerHour_0 (by decide) ?_
  refine lv_aload_n hx hb dX4_risePerHour_1 rfl (lv_at hl 0 rfl) ?_
  refine va_get (ci := 4) (v := .int (iI (v 0))) (C := RX4) (T := TX4) (N := 6) hx hb hts inX4 hown hK.1 hP 0 rfl rfl 0 (by decide) (hts (.fieldLink RX4 9 "SkimmedSons$Pan" "sill" "I") (by decide +kernel)) (fun _ h9 => h9) rfl dX4_risePerHour_2 ?_
  refine z_iadd hx hb dX4_risePerHour_5 ?_
  exact z_iret hQ hx hb hr hlocks hS ⟨Nat.le_of_ble_eq_true rfl, Nat.le_of_ble_eq_true rfl⟩ dX4_risePerHour_6 () (congrArg (fun z => some (Value.int (iI z))) (show (1 + v 0 : Int) = 1 + (v 0) by omega)) trivial hP hD
set_option maxHeartbeats 1000000 in
set_option maxRecDepth 100000 in
theorem c_X4_standHour (l : Launch) (X : zX) (a : Nat) (v : Nat → Int) (hv : PanB v) : zF l X yX4_standHour wsX4_standHour 1 40 [.ref a] (zb [Wpan a v]) none (zb [Wpan a (hourP v)]) := by
  refine z_enter (cc := cX4_standHour) (maxL := 2) (ret := none) (by decide) rfl (Nat.le_of_ble_eq_true rfl) ?_
  intro p e s m below meth c A ls Q hQ hE hl hP hD
  obtain ⟨hx, hb, hr, hml, hown, hts, hlocks, hnm, hA, hK⟩ := hE
  have hown : s.vm.findClass RX4 = some m.cls := hown
  have hS : va_S A s.heap s.heap [] := va_S.rf
  have hl : lv_has ls 2 [(0, .ref a)] := hl
  have inX4 : ∀ w ∈ u_ws RX4 TX4 6, w ∈ wsX4_standHour := by decide +kernel
  obtain ⟨⟨h00, h01⟩, ⟨h10, h11⟩, h2, h3, h4, h5, h6⟩ := id hv
  refine lv_aload_n hx hb dX4_standHour_0 rfl (lv_at hl 0 rfl) ?_
  refine va_get (ci := 4) (v := .int (iI (v 2))) (C := RX4) (T := TX4) (N := 6) hx hb hts inX4 hown hK.1 hP 0 rfl rfl 2 (by decide) (hts (.fieldLink RX4 18 "SkimmedSons$Pan" "fat" "I") (by decide +kernel)) (fun _ h9 => h9) rfl dX4_standHour_1 ?_
  refine lv_aload_n hx hb dX4_standHour_4 rfl (lv_at hl 0 rfl) ?_
  have hPm := zp_perm hP (zblk (show List.Perm ([Wpan a v] : List va_W) ([Wpan a v] ++ []) from (zf1 _ 0 _ rfl).trans ((List.Perm.refl _).cons _)))
  have hDm := zd_perm hD (zblk (show List.Perm ([Wpan a v] : List va_W) ([Wpan a v] ++ []) from (zf1 _ 0 _ rfl).trans ((List.Perm.refl _).cons _)))
  refine z_callV (wr := zb []) (As := []) (rest := [.int (iI (v 2))]) ⟨hx, hb, hml, hown, hts⟩ (c_X4_risePerHour l X a v ) (cwV 0 hts gX4_standHour_X4_risePerHour rfl rfl rfl (by decide +kernel) ⟨Nat.le_of_ble_eq_true rfl, Nat.le_of_ble_eq_true rfl⟩) rfl rfl hl.1 dX4_standHour_5 rfl rfl (Nat.le_of_ble_eq_true rfl) ⟨Nat.le_of_ble_eq_true rfl, Nat.le_of_ble_eq_true rfl⟩ hS hA hK hPm hDm (fun _ H locs _ hP hD hS => ?_)
  have hP := zp_perm hP ((zblk (show List.Perm ([Wpan a v] : List va_W) ([Wpan a v] ++ []) from (zf1 _ 0 _ rfl).trans ((List.Perm.refl _).cons _)))).symm
  have hD := zd_perm hD ((zblk (show List.Perm ([Wpan a v] : List va_W) ([Wpan a v] ++ []) from (zf1 _ 0 _ rfl).trans ((List.Perm.refl _).cons _)))).symm
  have hP : va_P X.1 vwCl (zb [Wpan a v]) H := hP
  have hD : va_D A (zb [Wpan a v]) := hD
  refine W.eq (g2 := F0 m 8 ls [.int (iI (1 + v 0)), .int (iI (v 2))]) rfl ?_
  refine z_mmin hx hb (hml.trans hl.1.symm) hown (hts (.methodLink RX4 34 Lib.Math.min.name) (by decide +kernel)) (hts (.static Lib.Math.min.name) (by decide +kernel)) (hts (.initialized "java/lang/Math") (by decide +kernel)) (hts (.code Lib.Math.min.name Lib.Math.min.code 2 (some .int)) (by decide +kernel)) (Nat.le_of_ble_eq_true rfl) (Nat.le_of_ble_eq_true rfl) (Nat.le_of_ble_eq_true rfl) (Nat.le_of_ble_eq_true rfl) (by omega) dX4_standHour_8 ?_
  refine z_topi (fun z_1 ez_1 => ?_)
  refine lv_istore_n (lv' := [(1, .int (iI z_1)), (0, .ref a)]) hx hb dX4_standHour_11 rfl hl (by decide) rfl (fun ls hl => ?_)
  refine lv_aload_n hx hb dX4_standHour_12 rfl (lv_at hl 1 rfl) ?_
  refine lv_dup hx hb dX4_standHour_13 rfl ?_
  refine va_get (ci := 4) (v := .int (iI (v 2))) (C := RX4) (T := TX4) (N := 6) hx hb hts inX4 hown hK.1 hP 0 rfl rfl 2 (by decide) (hts (.fieldLink RX4 18 "SkimmedSons$Pan" "fat" "I") (by decide +kernel)) (fun _ h9 => h9) rfl dX4_standHour_14 ?_
  refine lv_iload_n hx hb dX4_standHour_17 rfl (lv_at hl 0 rfl) ?_
  refine z_isub hx hb dX4_standHour_18 ?_
  refine z_topi (fun z_2 ez_2 => ?_)
  refine va_put (ci := 4) (v := .int (iI z_2)) (ty := .int) (C := RX4) (T := TX4) (N := 6) hx hb hts inX4 tyX4 tyX4_ok nmX4 hown hK.1 hP hD hS 0 rfl rfl 2 (by decide) (hts (.fieldLink RX4 18 "SkimmedSons$Pan" "fat" "I") (by decide +kernel)) (fun _ h9 => h9) rfl (by decide +kernel) rfl rfl (Nat.le_of_ble_eq_true rfl) dX4_standHour_19 (fun H locs hP hD hS => ?_)
  have hP : va_P X.1 vwCl (zb [Wpan a (updZ v 2 z_2)]) H := hP
  have hD : va_D A (zb [Wpan a (updZ v 2 z_2)]) := hD
  refine lv_aload_n hx hb dX4_standHour_22 rfl (lv_at hl 1 rfl) ?_
  refine lv_dup hx hb dX4_standHour_23 rfl ?_
  refine va_get (ci := 4) (v := .int (iI (v 3))) (C := RX4) (T := TX4) (N := 6) hx hb hts inX4 hown hK.1 hP 0 rfl rfl 3 (by decide) (hts (.fieldLink RX4 21 "SkimmedSons$Pan" "cream" "I") (by decide +kernel)) (fun _ h9 => h9) rfl dX4_standHour_24 ?_
  refine lv_iload_n hx hb dX4_standHour_27 rfl (lv_at hl 0 rfl) ?_
  refine z_iadd hx hb dX4_standHour_28 ?_
  refine z_topi (fun z_3 ez_3 => ?_)
  refine va_put (ci := 4) (v := .int (iI z_3)) (ty := .int) (C := RX4) (T := TX4) (N := 6) hx hb hts inX4 tyX4 tyX4_ok nmX4 hown hK.1 hP hD hS 0 rfl rfl 3 (by decide) (hts (.fieldLink RX4 21 "SkimmedSons$Pan" "cream" "I") (by decide +kernel)) (fun _ h9 => h9) rfl (by decide +kernel) rfl rfl (Nat.le_of_ble_eq_true rfl) dX4_standHour_29 (fun H locs hP hD hS => ?_)
  have hP : va_P X.1 vwCl (zb [Wpan a (updZ (updZ v 2 z_2) 3 z_3)]) H := hP
  have hD : va_D A (zb [Wpan a (updZ (updZ v 2 z_2) 3 z_3)]) := hD
  refine lv_aload_n hx hb dX4_standHour_32 rfl (lv_at hl 1 rfl) ?_
  refine lv_dup hx hb dX4_standHour_33 rfl ?_
  refine va_get (ci := 4) (v := .int (iI (v 1))) (C := RX4) (T := TX4) (N := 6) hx hb hts inX4 hown hK.1 hP 0 rfl rfl 1 (by decide) (hts (.fieldLink RX4 15 "SkimmedSons$Pan" "still" "I") (by decide +kernel)) (fun _ h9 => h9) rfl dX4_standHour_34 ?_
  refine lv_iconst (v := iI 1) hx hb dX4_standHour_37 (by decide) ?_
  refine z_iadd hx hb dX4_standHour_38 ?_
  refine z_topi (fun z_4 ez_4 => ?_)
  refine va_put (ci := 4) (v := .int (iI z_4)) (ty := .int) (C := RX4) (T := TX4) (N := 6) hx hb hts inX4 tyX4 tyX4_ok nmX4 hown hK.1 hP hD hS 0 rfl rfl 1 (by decide) (hts (.fieldLink RX4 15 "SkimmedSons$Pan" "still" "I") (by decide +kernel)) (fun _ h9 => h9) rfl (by decide +kernel) rfl rfl (Nat.le_of_ble_eq_true rfl) dX4_standHour_39 (fun H locs hP hD hS => ?_)
  have hP : va_P X.1 vwCl (zb [Wpan a (updZ (updZ (updZ v 2 z_2) 3 z_3) 1 z_4)]) H := hP
  have hD : va_D A (zb [Wpan a (updZ (updZ (updZ v 2 z_2) 3 z_3) 1 z_4)]) := hD
  refine lv_aload_n hx hb dX4_standHour_42 rfl (lv_at hl 1 rfl) ?_
  refine va_get (ci := 4) (v := .int (iI z_4)) (C := RX4) (T := TX4) (N := 6) hx hb hts inX4 hown hK.1 hP 0 rfl rfl 1 (by decide) (hts (.fieldLink RX4 15 "SkimmedSons$Pan" "still" "I") (by decide +kernel)) (fun _ h9 => h9) rfl dX4_standHour_43 ?_
  refine lv_iconst (v := iI 3) hx hb dX4_standHour_46 (by decide) ?_
  refine z_irem hx hb (by omega) dX4_standHour_47 ?_
  refine z_if_ne (tgt := 78) hx hb (by omega) dX4_standHour_48 (by decide) (fun c_5 => ?_) (fun c_5 => ?_)
  · skip
    have hw : zb [Wpan a (updZ (updZ (updZ v 2 z_2) 3 z_3) 1 z_4)] = zb [Wpan a (hourP v)] := by refine zPan_congr ?_; simp only [updZ, hourP, mkP]; simp; omega
    rw [hw] at hP hD
    exact z_vret hQ hx hb hr hlocks hS ⟨Nat.le_of_ble_eq_true rfl, Nat.le_of_ble_eq_true rfl⟩ dX4_standHour_78 () rfl trivial hP hD
  · skip
    refine lv_aload_n hx hb dX4_standHour_51 rfl (lv_at hl 1 rfl) ?_
    refine va_get (ci := 4) (v := .int (iI z_3)) (C := RX4) (T := TX4) (N := 6) hx hb hts inX4 hown hK.1 hP 0 rfl rfl 3 (by decide) (hts (.fieldLink RX4 21 "SkimmedSons$Pan" "cream" "I") (by decide +kernel)) (fun _ h9 => h9) rfl dX4_standHour_52 ?_
    refine z_if_le (tgt := 78) hx hb (by omega) dX4_standHour_55 (by decide) (fun c_6 => ?_) (fun c_6 => ?_)
    · skip
      have hw : zb [Wpan a (updZ (updZ (updZ v 2 z_2) 3 z_3) 1 z_4)] = zb [Wpan a (hourP v)] := by refine zPan_congr ?_; simp only [updZ, hourP, mkP]; simp; omega
      rw [hw] at hP hD
      exact z_vret hQ hx hb hr hlocks hS ⟨Nat.le_of_ble_eq_true rfl, Nat.le_of_ble_eq_true rfl⟩ dX4_standHour_78 () rfl trivial hP hD
    · skip
      refine lv_aload_n hx hb dX4_standHour_58 rfl (lv_at hl 1 rfl) ?_
      refine lv_dup hx hb dX4_standHour_59 rfl ?_
      refine va_get (ci := 4) (v := .int (iI z_3)) (C := RX4) (T := TX4) (N := 6) hx hb hts inX4 hown hK.1 hP 0 rfl rfl 3 (by decide) (hts (.fieldLink RX4 21 "SkimmedSons$Pan" "cream" "I") (by decide +kernel)) (fun _ h9 => h9) rfl dX4_standHour_60 ?_
      refine lv_iconst (v := iI 1) hx hb dX4_standHour_63 (by decide) ?_
      refine z_isub hx hb dX4_standHour_64 ?_
      refine z_topi (fun z_7 ez_7 => ?_)
      refine va_put (ci := 4) (v := .int (iI z_7)) (ty := .int) (C := RX4) (T := TX4) (N := 6) hx hb hts inX4 tyX4 tyX4_ok nmX4 hown hK.1 hP hD hS 0 rfl rfl 3 (by decide) (hts (.fieldLink RX4 21 "SkimmedSons$Pan" "cream" "I") (by decide +kernel)) (fun _ h9 => h9) rfl (by decide +kernel) rfl rfl (Nat.le_of_ble_eq_true rfl) dX4_standHour_65 (fun H locs hP hD hS => ?_)
      have hP : va_P X.1 vwCl (zb [Wpan a (updZ (updZ (updZ v 2 z_2) 1 z_4) 3 z_7)]) H := hP
      have hD : va_D A (zb [Wpan a (updZ (updZ (updZ v 2 z_2) 1 z_4) 3 z_7)]) := hD
      refine lv_aload_n hx hb dX4_standHour_68 rfl (lv_at hl 1 rfl) ?_
      refine lv_dup hx hb dX4_standHour_69 rfl ?_
      refine va_get (ci := 4) (v := .int (iI (v 4))) (C := RX4) (T := TX4) (N := 6) hx hb hts inX4 hown hK.1 hP 0 rfl rfl 4 (by decide) (hts (.fieldLink RX4 24 "SkimmedSons$Pan" "film" "I") (by decide +kernel)) (fun _ h9 => h9) rfl dX4_standHour_70 ?_
      refine lv_iconst (v := iI 1) hx hb dX4_standHour_73 (by decide) ?_
      refine z_iadd hx hb dX4_standHour_74 ?_
      refine z_topi (fun z_8 ez_8 => ?_)
      refine va_put (ci := 4) (v := .int (iI z_8)) (ty := .int) (C := RX4) (T := TX4) (N := 6) hx hb hts inX4 tyX4 tyX4_ok nmX4 hown hK.1 hP hD hS 0 rfl rfl 4 (by decide) (hts (.fieldLink RX4 24 "SkimmedSons$Pan" "film" "I") (by decide +kernel)) (fun _ h9 => h9) rfl (by decide +kernel) rfl rfl (Nat.le_of_ble_eq_true rfl) dX4_standHour_75 (fun H locs hP hD hS => ?_)
      have hP : va_P X.1 vwCl (zb [Wpan a (updZ (updZ (updZ (updZ v 2 z_2) 1 z_4) 3 z_7) 4 z_8)]) H := hP
      have hD : va_D A (zb [Wpan a (updZ (updZ (updZ (updZ v 2 z_2) 1 z_4) 3 z_7) 4 z_8)]) := hD
      have hw : zb [Wpan a (updZ (updZ (updZ (updZ v 2 z_2) 1 z_4) 3 z_7) 4 z_8)] = zb [Wpan a (hourP v)] := by refine zPan_congr ?_; simp only [updZ, hourP, mkP]; simp; omega
      rw [hw] at hP hD
      exact z_vret hQ hx hb hr hlocks hS ⟨Nat.le_of_ble_eq_true rfl, Nat.le_of_ble_eq_true rfl⟩ dX4_standHour_78 () rfl trivial hP hD
set_option maxHeartbeats 1000000 in
set_option maxRecDepth 100000 in
theorem c_X4_top (l : Launch) (X : zX) (a : Nat) (v : Nat → Int) (hv : PanB v) : zF l X yX4_top wsX4_top 0 0 [.ref a] (zb [Wpan a v]) (some (.int (iI (topP v)))) (zb [Wpan a v]) := by
  refine z_enter (cc := cX4_top) (maxL := 1) (ret := (some .int)) (by decide) rfl (Nat.le_of_ble_eq_true rfl) ?_
  intro p e s m below meth c A ls Q hQ hE hl hP hD
  obtain ⟨hx, hb, hr, hml, hown, hts, hlocks, hnm, hA, hK⟩ := hE
  have hown : s.vm.findClass RX4 = some m.cls := hown
  have hS : va_S A s.heap s.heap [] := va_S.rf
  have hl : lv_has ls 1 [(0, .ref a)] := hl
  have inX4 : ∀ w ∈ u_ws RX4 TX4 6, w ∈ wsX4_top := by decide +kernel
  obtain ⟨⟨h00, h01⟩, ⟨h10, h11⟩, h2, h3, h4, h5, h6⟩ := id hv
  refine lv_aload_n hx hb dX4_top_0 rfl (lv_at hl 0 rfl) ?_
  refine va_get (ci := 4) (v := .int (iI (v 4))) (C := RX4) (T := TX4) (N := 6) hx hb hts inX4 hown hK.1 hP 0 rfl rfl 4 (by decide) (hts (.fieldLink RX4 24 "SkimmedSons$Pan" "film" "I") (by decide +kernel)) (fun _ h9 => h9) rfl dX4_top_1 ?_
  refine z_if_le (tgt := 9) hx hb (by omega) dX4_top_4 (by decide) (fun c_1 => ?_) (fun c_1 => ?_)
  · skip
    refine lv_aload_n hx hb dX4_top_9 rfl (lv_at hl 0 rfl) ?_
    refine va_get (ci := 4) (v := .int (iI (v 3))) (C := RX4) (T := TX4) (N := 6) hx hb hts inX4 hown hK.1 hP 0 rfl rfl 3 (by decide) (hts (.fieldLink RX4 21 "SkimmedSons$Pan" "cream" "I") (by decide +kernel)) (fun _ h9 => h9) rfl dX4_top_10 ?_
    refine z_if_le (tgt := 18) hx hb (by omega) dX4_top_13 (by decide) (fun c_2 => ?_) (fun c_2 => ?_)
    · skip
      refine lv_aload_n hx hb dX4_top_18 rfl (lv_at hl 0 rfl) ?_
      refine va_get (ci := 4) (v := .int (iI (v 5))) (C := RX4) (T := TX4) (N := 6) hx hb hts inX4 hown hK.1 hP 0 rfl rfl 5 (by decide) (hts (.fieldLink RX4 27 "SkimmedSons$Pan" "blue" "I") (by decide +kernel)) (fun _ h9 => h9) rfl dX4_top_19 ?_
      refine z_if_le (tgt := 29) hx hb (by omega) dX4_top_22 (by decide) (fun c_3 => ?_) (fun c_3 => ?_)
      · skip
        refine lv_iconst (v := iI (-1)) hx hb dX4_top_29 (by decide) ?_
        exact z_iret hQ hx hb hr hlocks hS ⟨Nat.le_of_ble_eq_true rfl, Nat.le_of_ble_eq_true rfl⟩ dX4_top_30 () (congrArg (fun z => some (Value.int (iI z))) (show (topP v : Int) = (-1) by unfold topP; omega)) trivial hP hD
      · skip
        refine lv_iconst (v := iI 3) hx hb dX4_top_25 (by decide) ?_
        refine lv_goto (tgt := 30) hx hb dX4_top_26 (by decide) ?_
        exact z_iret hQ hx hb hr hlocks hS ⟨Nat.le_of_ble_eq_true rfl, Nat.le_of_ble_eq_true rfl⟩ dX4_top_30 () (congrArg (fun z => some (Value.int (iI z))) (show (topP v : Int) = 3 by unfold topP; omega)) trivial hP hD
    · skip
      refine lv_iconst (v := iI 1) hx hb dX4_top_16 (by decide) ?_
      exact z_iret hQ hx hb hr hlocks hS ⟨Nat.le_of_ble_eq_true rfl, Nat.le_of_ble_eq_true rfl⟩ dX4_top_17 () (congrArg (fun z => some (Value.int (iI z))) (show (topP v : Int) = 1 by unfold topP; omega)) trivial hP hD
  · skip
    refine lv_iconst (v := iI 2) hx hb dX4_top_7 (by decide) ?_
    exact z_iret hQ hx hb hr hlocks hS ⟨Nat.le_of_ble_eq_true rfl, Nat.le_of_ble_eq_true rfl⟩ dX4_top_8 () (congrArg (fun z => some (Value.int (iI z))) (show (topP v : Int) = 2 by unfold topP; omega)) trivial hP hD
set_option maxHeartbeats 1000000 in
set_option maxRecDepth 100000 in
theorem c_X4_takeTop (l : Launch) (X : zX) (a : Nat) (v : Nat → Int) (hv : PanB v) : zF l X yX4_takeTop wsX4_takeTop 1 20 [.ref a] (zb [Wpan a v]) none (zb [Wpan a (takeP v)]) := by
  refine z_enter (cc := cX4_takeTop) (maxL := 1) (ret := none) (by decide) rfl (Nat.le_of_ble_eq_true rfl) ?_
  intro p e s m below meth c A ls Q hQ hE hl hP hD
  obtain ⟨hx, hb, hr, hml, hown, hts, hlocks, hnm, hA, hK⟩ := hE
  have hown : s.vm.findClass RX4 = some m.cls := hown
  have hS : va_S A s.heap s.heap [] := va_S.rf
  have hl : lv_has ls 1 [(0, .ref a)] := hl
  have inX4 : ∀ w ∈ u_ws RX4 TX4 6, w ∈ wsX4_takeTop := by decide +kernel
  obtain ⟨⟨h00, h01⟩, ⟨h10, h11⟩, h2, h3, h4, h5, h6⟩ := id hv
  have ht := topP_in v
  refine lv_aload_n hx hb dX4_takeTop_0 rfl (lv_at hl 0 rfl) ?_
  have hPm := zp_perm hP (zblk (show List.Perm ([Wpan a v] : List va_W) ([Wpan a v] ++ []) from (zf1 _ 0 _ rfl).trans ((List.Perm.refl _).cons _)))
  have hDm := zd_perm hD (zblk (show List.Perm ([Wpan a v] : List va_W) ([Wpan a v] ++ []) from (zf1 _ 0 _ rfl).trans ((List.Perm.refl _).cons _)))
  refine z_callV (wr := zb []) (As := []) (rest := []) ⟨hx, hb, hml, hown, hts⟩ (c_X4_top l X a v (by exact hv)) (cwV 0 hts gX4_takeTop_X4_top rfl rfl rfl (by decide +kernel) ⟨Nat.le_of_ble_eq_true rfl, Nat.le_of_ble_eq_true rfl⟩) rfl rfl hl.1 dX4_takeTop_1 rfl rfl (Nat.le_of_ble_eq_true rfl) ⟨Nat.le_of_ble_eq_true rfl, Nat.le_of_ble_eq_true rfl⟩ hS hA hK hPm hDm (fun _ H locs _ hP hD hS => ?_)
  have hP := zp_perm hP ((zblk (show List.Perm ([Wpan a v] : List va_W) ([Wpan a v] ++ []) from (zf1 _ 0 _ rfl).trans ((List.Perm.refl _).cons _)))).symm
  have hD := zd_perm hD ((zblk (show List.Perm ([Wpan a v] : List va_W) ([Wpan a v] ++ []) from (zf1 _ 0 _ rfl).trans ((List.Perm.refl _).cons _)))).symm
  have hP : va_P X.1 vwCl (zb [Wpan a v]) H := hP
  have hD : va_D A (zb [Wpan a v]) := hD
  refine W.eq (g2 := F0 m 4 ls [.int (iI (topP v))]) rfl ?_
  rcases (show (topP v < 1 ∨ 3 < topP v) ∨ topP v = 1 ∨ topP v = 2 ∨ topP v = 3 by omega) with c_1 | c_1 | c_1 | c_1
  · skip
    refine z_tabOut (tgt := 71) hx hb (by omega) dX4_takeTop_4 c_1 (by decide) ?_
    have hw : zb [Wpan a v] = zb [Wpan a (takeP v)] := by refine zPan_congr ?_; simp only [updZ, takeP, mkP]; simp; omega
    rw [hw] at hP hD
    exact z_vret hQ hx hb hr hlocks hS ⟨Nat.le_of_ble_eq_true rfl, Nat.le_of_ble_eq_true rfl⟩ dX4_takeTop_71 () rfl trivial hP hD
  · skip
    refine z_tabIn (tgt := 45) (off := 41) hx hb (by omega) dX4_takeTop_4 c_1 (by decide) rfl (by decide) ?_
    refine lv_aload_n hx hb dX4_takeTop_45 rfl (lv_at hl 0 rfl) ?_
    refine lv_dup hx hb dX4_takeTop_46 rfl ?_
    refine va_get (ci := 4) (v := .int (iI (v 3))) (C := RX4) (T := TX4) (N := 6) hx hb hts inX4 hown hK.1 hP 0 rfl rfl 3 (by decide) (hts (.fieldLink RX4 21 "SkimmedSons$Pan" "cream" "I") (by decide +kernel)) (fun _ h9 => h9) rfl dX4_takeTop_47 ?_
    refine lv_iconst (v := iI 1) hx hb dX4_takeTop_50 (by decide) ?_
    refine z_isub hx hb dX4_takeTop_51 ?_
    refine z_topi (fun z_2 ez_2 => ?_)
    refine va_put (ci := 4) (v := .int (iI z_2)) (ty := .int) (C := RX4) (T := TX4) (N := 6) hx hb hts inX4 tyX4 tyX4_ok nmX4 hown hK.1 hP hD hS 0 rfl rfl 3 (by decide) (hts (.fieldLink RX4 21 "SkimmedSons$Pan" "cream" "I") (by decide +kernel)) (fun _ h9 => h9) rfl (by decide +kernel) rfl rfl (Nat.le_of_ble_eq_true rfl) dX4_takeTop_52 (fun H locs hP hD hS => ?_)
    have hP : va_P X.1 vwCl (zb [Wpan a (updZ v 3 z_2)]) H := hP
    have hD : va_D A (zb [Wpan a (updZ v 3 z_2)]) := hD
    refine lv_goto (tgt := 72) hx hb dX4_takeTop_55 (by decide) ?_
    refine lv_aload_n hx hb dX4_takeTop_72 rfl (lv_at hl 0 rfl) ?_
    refine lv_iconst (v := iI 0) hx hb dX4_takeTop_73 (by decide) ?_
    refine va_put (ci := 4) (v := .int (iI 0)) (ty := .int) (C := RX4) (T := TX4) (N := 6) hx hb hts inX4 tyX4 tyX4_ok nmX4 hown hK.1 hP hD hS 0 rfl rfl 1 (by decide) (hts (.fieldLink RX4 15 "SkimmedSons$Pan" "still" "I") (by decide +kernel)) (fun _ h9 => h9) rfl (by decide +kernel) rfl rfl (Nat.le_of_ble_eq_true rfl) dX4_takeTop_74 (fun H locs hP hD hS => ?_)
    have hP : va_P X.1 vwCl (zb [Wpan a (updZ (updZ v 3 z_2) 1 0)]) H := hP
    have hD : va_D A (zb [Wpan a (updZ (updZ v 3 z_2) 1 0)]) := hD
    have hw : zb [Wpan a (updZ (updZ v 3 z_2) 1 0)] = zb [Wpan a (takeP v)] := by refine zPan_congr ?_; simp only [updZ, takeP, mkP]; simp; omega
    rw [hw] at hP hD
    exact z_vret hQ hx hb hr hlocks hS ⟨Nat.le_of_ble_eq_true rfl, Nat.le_of_ble_eq_true rfl⟩ dX4_takeTop_77 () rfl trivial hP hD
  · skip
    refine z_tabIn (tgt := 32) (off := 28) hx hb (by omega) dX4_takeTop_4 c_1 (by decide) rfl (by decide) ?_
    refine lv_aload_n hx hb dX4_takeTop_32 rfl (lv_at hl 0 rfl) ?_
    refine lv_dup hx hb dX4_takeTop_33 rfl ?_
    refine va_get (ci := 4) (v := .int (iI (v 4))) (C := RX4) (T := TX4) (N := 6) hx hb hts inX4 hown hK.1 hP 0 rfl rfl 4 (by decide) (hts (.fieldLink RX4 24 "SkimmedSons$Pan" "film" "I") (by decide +kernel)) (fun _ h9 => h9) rfl dX4_takeTop_34 ?_
    refine lv_iconst (v := iI 1) hx hb dX4_takeTop_37 (by decide) ?_
    refine z_isub hx hb dX4_takeTop_38 ?_
    refine z_topi (fun z_3 ez_3 => ?_)
    refine va_put (ci := 4) (v := .int (iI z_3)) (ty := .int) (C := RX4) (T := TX4) (N := 6) hx hb hts inX4 tyX4 tyX4_ok nmX4 hown hK.1 hP hD hS 0 rfl rfl 4 (by decide) (hts (.fieldLink RX4 24 "SkimmedSons$Pan" "film" "I") (by decide +kernel)) (fun _ h9 => h9) rfl (by decide +kernel) rfl rfl (Nat.le_of_ble_eq_true rfl) dX4_takeTop_39 (fun H locs hP hD hS => ?_)
    have hP : va_P X.1 vwCl (zb [Wpan a (updZ v 4 z_3)]) H := hP
    have hD : va_D A (zb [Wpan a (updZ v 4 z_3)]) := hD
    refine lv_goto (tgt := 72) hx hb dX4_takeTop_42 (by decide) ?_
    refine lv_aload_n hx hb dX4_takeTop_72 rfl (lv_at hl 0 rfl) ?_
    refine lv_iconst (v := iI 0) hx hb dX4_takeTop_73 (by decide) ?_
    refine va_put (ci := 4) (v := .int (iI 0)) (ty := .int) (C := RX4) (T := TX4) (N := 6) hx hb hts inX4 tyX4 tyX4_ok nmX4 hown hK.1 hP hD hS 0 rfl rfl 1 (by decide) (hts (.fieldLink RX4 15 "SkimmedSons$Pan" "still" "I") (by decide +kernel)) (fun _ h9 => h9) rfl (by decide +kernel) rfl rfl (Nat.le_of_ble_eq_true rfl) dX4_takeTop_74 (fun H locs hP hD hS => ?_)
    have hP : va_P X.1 vwCl (zb [Wpan a (updZ (updZ v 4 z_3) 1 0)]) H := hP
    have hD : va_D A (zb [Wpan a (updZ (updZ v 4 z_3) 1 0)]) := hD
    have hw : zb [Wpan a (updZ (updZ v 4 z_3) 1 0)] = zb [Wpan a (takeP v)] := by refine zPan_congr ?_; simp only [updZ, takeP, mkP]; simp; omega
    rw [hw] at hP hD
    exact z_vret hQ hx hb hr hlocks hS ⟨Nat.le_of_ble_eq_true rfl, Nat.le_of_ble_eq_true rfl⟩ dX4_takeTop_77 () rfl trivial hP hD
  · skip
    refine z_tabIn (tgt := 58) (off := 54) hx hb (by omega) dX4_takeTop_4 c_1 (by decide) rfl (by decide) ?_
    refine lv_aload_n hx hb dX4_takeTop_58 rfl (lv_at hl 0 rfl) ?_
    refine lv_dup hx hb dX4_takeTop_59 rfl ?_
    refine va_get (ci := 4) (v := .int (iI (v 5))) (C := RX4) (T := TX4) (N := 6) hx hb hts inX4 hown hK.1 hP 0 rfl rfl 5 (by decide) (hts (.fieldLink RX4 27 "SkimmedSons$Pan" "blue" "I") (by decide +kernel)) (fun _ h9 => h9) rfl dX4_takeTop_60 ?_
    refine lv_iconst (v := iI 1) hx hb dX4_takeTop_63 (by decide) ?_
    refine z_isub hx hb dX4_takeTop_64 ?_
    refine z_topi (fun z_4 ez_4 => ?_)
    refine va_put (ci := 4) (v := .int (iI z_4)) (ty := .int) (C := RX4) (T := TX4) (N := 6) hx hb hts inX4 tyX4 tyX4_ok nmX4 hown hK.1 hP hD hS 0 rfl rfl 5 (by decide) (hts (.fieldLink RX4 27 "SkimmedSons$Pan" "blue" "I") (by decide +kernel)) (fun _ h9 => h9) rfl (by decide +kernel) rfl rfl (Nat.le_of_ble_eq_true rfl) dX4_takeTop_65 (fun H locs hP hD hS => ?_)
    have hP : va_P X.1 vwCl (zb [Wpan a (updZ v 5 z_4)]) H := hP
    have hD : va_D A (zb [Wpan a (updZ v 5 z_4)]) := hD
    refine lv_goto (tgt := 72) hx hb dX4_takeTop_68 (by decide) ?_
    refine lv_aload_n hx hb dX4_takeTop_72 rfl (lv_at hl 0 rfl) ?_
    refine lv_iconst (v := iI 0) hx hb dX4_takeTop_73 (by decide) ?_
    refine va_put (ci := 4) (v := .int (iI 0)) (ty := .int) (C := RX4) (T := TX4) (N := 6) hx hb hts inX4 tyX4 tyX4_ok nmX4 hown hK.1 hP hD hS 0 rfl rfl 1 (by decide) (hts (.fieldLink RX4 15 "SkimmedSons$Pan" "still" "I") (by decide +kernel)) (fun _ h9 => h9) rfl (by decide +kernel) rfl rfl (Nat.le_of_ble_eq_true rfl) dX4_takeTop_74 (fun H locs hP hD hS => ?_)
    have hP : va_P X.1 vwCl (zb [Wpan a (updZ (updZ v 5 z_4) 1 0)]) H := hP
    have hD : va_D A (zb [Wpan a (updZ (updZ v 5 z_4) 1 0)]) := hD
    have hw : zb [Wpan a (updZ (updZ v 5 z_4) 1 0)] = zb [Wpan a (takeP v)] := by refine zPan_congr ?_; simp only [updZ, takeP, mkP]; simp; omega
    rw [hw] at hP hD
    exact z_vret hQ hx hb hr hlocks hS ⟨Nat.le_of_ble_eq_true rfl, Nat.le_of_ble_eq_true rfl⟩ dX4_takeTop_77 () rfl trivial hP hD
set_option maxHeartbeats 1000000 in
set_option maxRecDepth 100000 in
theorem c_X4_mix (l : Launch) (X : zX) (a : Nat) (v : Nat → Int)  : zF l X yX4_mix wsX4_mix 0 0 [.ref a] (zb [Wpan a v]) none (zb [Wpan a (mixP v)]) := by
  refine z_enter (cc := cX4_mix) (maxL := 1) (ret := none) (by decide) rfl (Nat.le_of_ble_eq_true rfl) ?_
  intro p e s m below meth c A ls Q hQ hE hl hP hD
  obtain ⟨hx, hb, hr, hml, hown, hts, hlocks, hnm, hA, hK⟩ := hE
  have hown : s.vm.findClass RX4 = some m.cls := hown
  have hS : va_S A s.heap s.heap [] := va_S.rf
  have hl : lv_has ls 1 [(0, .ref a)] := hl
  have inX4 : ∀ w ∈ u_ws RX4 TX4 6, w ∈ wsX4_mix := by decide +kernel
  refine lv_aload_n hx hb dX4_mix_0 rfl (lv_at hl 0 rfl) ?_
  refine lv_dup hx hb dX4_mix_1 rfl ?_
  refine va_get (ci := 4) (v := .int (iI (v 2))) (C := RX4) (T := TX4) (N := 6) hx hb hts inX4 hown hK.1 hP 0 rfl rfl 2 (by decide) (hts (.fieldLink RX4 18 "SkimmedSons$Pan" "fat" "I") (by decide +kernel)) (fun _ h9 => h9) rfl dX4_mix_2 ?_
  refine lv_aload_n hx hb dX4_mix_5 rfl (lv_at hl 0 rfl) ?_
  refine va_get (ci := 4) (v := .int (iI (v 3))) (C := RX4) (T := TX4) (N := 6) hx hb hts inX4 hown hK.1 hP 0 rfl rfl 3 (by decide) (hts (.fieldLink RX4 21 "SkimmedSons$Pan" "cream" "I") (by decide +kernel)) (fun _ h9 => h9) rfl dX4_mix_6 ?_
  refine lv_aload_n hx hb dX4_mix_9 rfl (lv_at hl 0 rfl) ?_
  refine va_get (ci := 4) (v := .int (iI (v 4))) (C := RX4) (T := TX4) (N := 6) hx hb hts inX4 hown hK.1 hP 0 rfl rfl 4 (by decide) (hts (.fieldLink RX4 24 "SkimmedSons$Pan" "film" "I") (by decide +kernel)) (fun _ h9 => h9) rfl dX4_mix_10 ?_
  refine z_iadd hx hb dX4_mix_13 ?_
  refine z_iadd hx hb dX4_mix_14 ?_
  refine z_topi (fun z_1 ez_1 => ?_)
  refine va_put (ci := 4) (v := .int (iI z_1)) (ty := .int) (C := RX4) (T := TX4) (N := 6) hx hb hts inX4 tyX4 tyX4_ok nmX4 hown hK.1 hP hD hS 0 rfl rfl 2 (by decide) (hts (.fieldLink RX4 18 "SkimmedSons$Pan" "fat" "I") (by decide +kernel)) (fun _ h9 => h9) rfl (by decide +kernel) rfl rfl (Nat.le_of_ble_eq_true rfl) dX4_mix_15 (fun H locs hP hD hS => ?_)
  have hP : va_P X.1 vwCl (zb [Wpan a (updZ v 2 z_1)]) H := hP
  have hD : va_D A (zb [Wpan a (updZ v 2 z_1)]) := hD
  refine lv_aload_n hx hb dX4_mix_18 rfl (lv_at hl 0 rfl) ?_
  refine lv_iconst (v := iI 0) hx hb dX4_mix_19 (by decide) ?_
  refine va_put (ci := 4) (v := .int (iI 0)) (ty := .int) (C := RX4) (T := TX4) (N := 6) hx hb hts inX4 tyX4 tyX4_ok nmX4 hown hK.1 hP hD hS 0 rfl rfl 3 (by decide) (hts (.fieldLink RX4 21 "SkimmedSons$Pan" "cream" "I") (by decide +kernel)) (fun _ h9 => h9) rfl (by decide +kernel) rfl rfl (Nat.le_of_ble_eq_true rfl) dX4_mix_20 (fun H locs hP hD hS => ?_)
  have hP : va_P X.1 vwCl (zb [Wpan a (updZ (updZ v 2 z_1) 3 0)]) H := hP
  have hD : va_D A (zb [Wpan a (updZ (updZ v 2 z_1) 3 0)]) := hD
  refine lv_aload_n hx hb dX4_mix_23 rfl (lv_at hl 0 rfl) ?_
  refine lv_iconst (v := iI 0) hx hb dX4_mix_24 (by decide) ?_
  refine va_put (ci := 4) (v := .int (iI 0)) (ty := .int) (C := RX4) (T := TX4) (N := 6) hx hb hts inX4 tyX4 tyX4_ok nmX4 hown hK.1 hP hD hS 0 rfl rfl 4 (by decide) (hts (.fieldLink RX4 24 "SkimmedSons$Pan" "film" "I") (by decide +kernel)) (fun _ h9 => h9) rfl (by decide +kernel) rfl rfl (Nat.le_of_ble_eq_true rfl) dX4_mix_25 (fun H locs hP hD hS => ?_)
  have hP : va_P X.1 vwCl (zb [Wpan a (updZ (updZ (updZ v 2 z_1) 3 0) 4 0)]) H := hP
  have hD : va_D A (zb [Wpan a (updZ (updZ (updZ v 2 z_1) 3 0) 4 0)]) := hD
  refine lv_aload_n hx hb dX4_mix_28 rfl (lv_at hl 0 rfl) ?_
  refine lv_iconst (v := iI 0) hx hb dX4_mix_29 (by decide) ?_
  refine va_put (ci := 4) (v := .int (iI 0)) (ty := .int) (C := RX4) (T := TX4) (N := 6) hx hb hts inX4 tyX4 tyX4_ok nmX4 hown hK.1 hP hD hS 0 rfl rfl 1 (by decide) (hts (.fieldLink RX4 15 "SkimmedSons$Pan" "still" "I") (by decide +kernel)) (fun _ h9 => h9) rfl (by decide +kernel) rfl rfl (Nat.le_of_ble_eq_true rfl) dX4_mix_30 (fun H locs hP hD hS => ?_)
  have hP : va_P X.1 vwCl (zb [Wpan a (updZ (updZ (updZ (updZ v 2 z_1) 3 0) 4 0) 1 0)]) H := hP
  have hD : va_D A (zb [Wpan a (updZ (updZ (updZ (updZ v 2 z_1) 3 0) 4 0) 1 0)]) := hD
  have hw : zb [Wpan a (updZ (updZ (updZ (updZ v 2 z_1) 3 0) 4 0) 1 0)] = zb [Wpan a (mixP v)] := by refine zPan_congr ?_; simp only [updZ, mixP, mkP]; simp; omega
  rw [hw] at hP hD
  exact z_vret hQ hx hb hr hlocks hS ⟨Nat.le_of_ble_eq_true rfl, Nat.le_of_ble_eq_true rfl⟩ dX4_mix_33 () rfl trivial hP hD
set_option maxHeartbeats 1000000 in
set_option maxRecDepth 100000 in
theorem c_X4_takeIn (l : Launch) (X : zX) (a : Nat) (v : Nat → Int) (x : Int) (y : Int)  : zF l X yX4_takeIn wsX4_takeIn 0 0 [.ref a, .int (iI x), .int (iI y)] (zb [Wpan a v]) none (zb [Wpan a (pourP v x y)]) := by
  refine z_enter (cc := cX4_takeIn) (maxL := 3) (ret := none) (by decide) rfl (Nat.le_of_ble_eq_true rfl) ?_
  intro p e s m below meth c A ls Q hQ hE hl hP hD
  obtain ⟨hx, hb, hr, hml, hown, hts, hlocks, hnm, hA, hK⟩ := hE
  have hown : s.vm.findClass RX4 = some m.cls := hown
  have hS : va_S A s.heap s.heap [] := va_S.rf
  have hl : lv_has ls 3 [(0, .ref a), (1, .int (iI x)), (2, .int (iI y))] := hl
  have inX4 : ∀ w ∈ u_ws RX4 TX4 6, w ∈ wsX4_takeIn := by decide +kernel
  refine lv_aload_n hx hb dX4_takeIn_0 rfl (lv_at hl 0 rfl) ?_
  refine lv_dup hx hb dX4_takeIn_1 rfl ?_
  refine va_get (ci := 4) (v := .int (iI (v 2))) (C := RX4) (T := TX4) (N := 6) hx hb hts inX4 hown hK.1 hP 0 rfl rfl 2 (by decide) (hts (.fieldLink RX4 18 "SkimmedSons$Pan" "fat" "I") (by decide +kernel)) (fun _ h9 => h9) rfl dX4_takeIn_2 ?_
  refine lv_iload_n hx hb dX4_takeIn_5 rfl (lv_at hl 1 rfl) ?_
  refine z_iadd hx hb dX4_takeIn_6 ?_
  refine z_topi (fun z_1 ez_1 => ?_)
  refine va_put (ci := 4) (v := .int (iI z_1)) (ty := .int) (C := RX4) (T := TX4) (N := 6) hx hb hts inX4 tyX4 tyX4_ok nmX4 hown hK.1 hP hD hS 0 rfl rfl 2 (by decide) (hts (.fieldLink RX4 18 "SkimmedSons$Pan" "fat" "I") (by decide +kernel)) (fun _ h9 => h9) rfl (by decide +kernel) rfl rfl (Nat.le_of_ble_eq_true rfl) dX4_takeIn_7 (fun H locs hP hD hS => ?_)
  have hP : va_P X.1 vwCl (zb [Wpan a (updZ v 2 z_1)]) H := hP
  have hD : va_D A (zb [Wpan a (updZ v 2 z_1)]) := hD
  refine lv_aload_n hx hb dX4_takeIn_10 rfl (lv_at hl 0 rfl) ?_
  refine lv_dup hx hb dX4_takeIn_11 rfl ?_
  refine va_get (ci := 4) (v := .int (iI (v 5))) (C := RX4) (T := TX4) (N := 6) hx hb hts inX4 hown hK.1 hP 0 rfl rfl 5 (by decide) (hts (.fieldLink RX4 27 "SkimmedSons$Pan" "blue" "I") (by decide +kernel)) (fun _ h9 => h9) rfl dX4_takeIn_12 ?_
  refine lv_iload_n hx hb dX4_takeIn_15 rfl (lv_at hl 2 rfl) ?_
  refine z_iadd hx hb dX4_takeIn_16 ?_
  refine z_topi (fun z_2 ez_2 => ?_)
  refine va_put (ci := 4) (v := .int (iI z_2)) (ty := .int) (C := RX4) (T := TX4) (N := 6) hx hb hts inX4 tyX4 tyX4_ok nmX4 hown hK.1 hP hD hS 0 rfl rfl 5 (by decide) (hts (.fieldLink RX4 27 "SkimmedSons$Pan" "blue" "I") (by decide +kernel)) (fun _ h9 => h9) rfl (by decide +kernel) rfl rfl (Nat.le_of_ble_eq_true rfl) dX4_takeIn_17 (fun H locs hP hD hS => ?_)
  have hP : va_P X.1 vwCl (zb [Wpan a (updZ (updZ v 2 z_1) 5 z_2)]) H := hP
  have hD : va_D A (zb [Wpan a (updZ (updZ v 2 z_1) 5 z_2)]) := hD
  refine lv_aload_n hx hb dX4_takeIn_20 rfl (lv_at hl 0 rfl) ?_
  refine lv_iconst (v := iI 0) hx hb dX4_takeIn_21 (by decide) ?_
  refine va_put (ci := 4) (v := .int (iI 0)) (ty := .int) (C := RX4) (T := TX4) (N := 6) hx hb hts inX4 tyX4 tyX4_ok nmX4 hown hK.1 hP hD hS 0 rfl rfl 1 (by decide) (hts (.fieldLink RX4 15 "SkimmedSons$Pan" "still" "I") (by decide +kernel)) (fun _ h9 => h9) rfl (by decide +kernel) rfl rfl (Nat.le_of_ble_eq_true rfl) dX4_takeIn_22 (fun H locs hP hD hS => ?_)
  have hP : va_P X.1 vwCl (zb [Wpan a (updZ (updZ (updZ v 2 z_1) 5 z_2) 1 0)]) H := hP
  have hD : va_D A (zb [Wpan a (updZ (updZ (updZ v 2 z_1) 5 z_2) 1 0)]) := hD
  have hw : zb [Wpan a (updZ (updZ (updZ v 2 z_1) 5 z_2) 1 0)] = zb [Wpan a (pourP v x y)] := by refine zPan_congr ?_; simp only [updZ, pourP, mkP]; simp; omega
  rw [hw] at hP hD
  exact z_vret hQ hx hb hr hlocks hS ⟨Nat.le_of_ble_eq_true rfl, Nat.le_of_ble_eq_true rfl⟩ dX4_takeIn_25 () rfl trivial hP hD
set_option maxHeartbeats 1000000 in
set_option maxRecDepth 100000 in
theorem c_X4_much (l : Launch) (X : zX) (a : Nat) (v : Nat → Int) (k : Int) (hk : InR k) : zF l X yX4_much wsX4_much 0 0 [.ref a, .int (iI k)] (zb [Wpan a v]) (some (.int (iI (muchP v k)))) (zb [Wpan a v]) := by
  refine z_enter (cc := cX4_much) (maxL := 2) (ret := (some .int)) (by decide) rfl (Nat.le_of_ble_eq_true rfl) ?_
  intro p e s m below meth c A ls Q hQ hE hl hP hD
  obtain ⟨hx, hb, hr, hml, hown, hts, hlocks, hnm, hA, hK⟩ := hE
  have hown : s.vm.findClass RX4 = some m.cls := hown
  have hS : va_S A s.heap s.heap [] := va_S.rf
  have hl : lv_has ls 2 [(0, .ref a), (1, .int (iI k))] := hl
  have inX4 : ∀ w ∈ u_ws RX4 TX4 6, w ∈ wsX4_much := by decide +kernel
  obtain ⟨hk1, hk2⟩ := id hk
  refine lv_iload_n hx hb dX4_much_0 rfl (lv_at hl 1 rfl) ?_
  rcases (show (k < 0 ∨ 2 < k) ∨ k = 0 ∨ k = 1 ∨ k = 2 by omega) with c_1 | c_1 | c_1 | c_1
  · skip
    refine z_tabOut (tgt := 43) hx hb (by omega) dX4_much_1 c_1 (by decide) ?_
    refine lv_aload_n hx hb dX4_much_43 rfl (lv_at hl 0 rfl) ?_
    refine va_get (ci := 4) (v := .int (iI (v 5))) (C := RX4) (T := TX4) (N := 6) hx hb hts inX4 hown hK.1 hP 0 rfl rfl 5 (by decide) (hts (.fieldLink RX4 27 "SkimmedSons$Pan" "blue" "I") (by decide +kernel)) (fun _ h9 => h9) rfl dX4_much_44 ?_
    exact z_iret hQ hx hb hr hlocks hS ⟨Nat.le_of_ble_eq_true rfl, Nat.le_of_ble_eq_true rfl⟩ dX4_much_47 () (congrArg (fun z => some (Value.int (iI z))) (show (muchP v k : Int) = v 5 by unfold muchP; omega)) trivial hP hD
  · skip
    refine z_tabIn (tgt := 28) (off := 27) hx hb (by omega) dX4_much_1 c_1 (by decide) rfl (by decide) ?_
    refine lv_aload_n hx hb dX4_much_28 rfl (lv_at hl 0 rfl) ?_
    refine va_get (ci := 4) (v := .int (iI (v 2))) (C := RX4) (T := TX4) (N := 6) hx hb hts inX4 hown hK.1 hP 0 rfl rfl 2 (by decide) (hts (.fieldLink RX4 18 "SkimmedSons$Pan" "fat" "I") (by decide +kernel)) (fun _ h9 => h9) rfl dX4_much_29 ?_
    exact z_iret hQ hx hb hr hlocks hS ⟨Nat.le_of_ble_eq_true rfl, Nat.le_of_ble_eq_true rfl⟩ dX4_much_32 () (congrArg (fun z => some (Value.int (iI z))) (show (muchP v k : Int) = v 2 by unfold muchP; omega)) trivial hP hD
  · skip
    refine z_tabIn (tgt := 33) (off := 32) hx hb (by omega) dX4_much_1 c_1 (by decide) rfl (by decide) ?_
    refine lv_aload_n hx hb dX4_much_33 rfl (lv_at hl 0 rfl) ?_
    refine va_get (ci := 4) (v := .int (iI (v 3))) (C := RX4) (T := TX4) (N := 6) hx hb hts inX4 hown hK.1 hP 0 rfl rfl 3 (by decide) (hts (.fieldLink RX4 21 "SkimmedSons$Pan" "cream" "I") (by decide +kernel)) (fun _ h9 => h9) rfl dX4_much_34 ?_
    exact z_iret hQ hx hb hr hlocks hS ⟨Nat.le_of_ble_eq_true rfl, Nat.le_of_ble_eq_true rfl⟩ dX4_much_37 () (congrArg (fun z => some (Value.int (iI z))) (show (muchP v k : Int) = v 3 by unfold muchP; omega)) trivial hP hD
  · skip
    refine z_tabIn (tgt := 38) (off := 37) hx hb (by omega) dX4_much_1 c_1 (by decide) rfl (by decide) ?_
    refine lv_aload_n hx hb dX4_much_38 rfl (lv_at hl 0 rfl) ?_
    refine va_get (ci := 4) (v := .int (iI (v 4))) (C := RX4) (T := TX4) (N := 6) hx hb hts inX4 hown hK.1 hP 0 rfl rfl 4 (by decide) (hts (.fieldLink RX4 24 "SkimmedSons$Pan" "film" "I") (by decide +kernel)) (fun _ h9 => h9) rfl dX4_much_39 ?_
    exact z_iret hQ hx hb hr hlocks hS ⟨Nat.le_of_ble_eq_true rfl, Nat.le_of_ble_eq_true rfl⟩ dX4_much_42 () (congrArg (fun z => some (Value.int (iI z))) (show (muchP v k : Int) = v 4 by unfold muchP; omega)) trivial hP hD
set_option maxHeartbeats 1000000 in
set_option maxRecDepth 100000 in
theorem c_X4_onIt (l : Launch) (X : zX) (a : Nat) (v : Nat → Int)  : zF l X yX4_onIt wsX4_onIt 0 0 [.ref a] (zb [Wpan a v]) (some (.int (iI (v 4 + v 3 + v 5)))) (zb [Wpan a v]) := by
  refine z_enter (cc := cX4_onIt) (maxL := 1) (ret := (some .int)) (by decide) rfl (Nat.le_of_ble_eq_true rfl) ?_
  intro p e s m below meth c A ls Q hQ hE hl hP hD
  obtain ⟨hx, hb, hr, hml, hown, hts, hlocks, hnm, hA, hK⟩ := hE
  have hown : s.vm.findClass RX4 = some m.cls := hown
  have hS : va_S A s.heap s.heap [] := va_S.rf
  have hl : lv_has ls 1 [(0, .ref a)] := hl
  have inX4 : ∀ w ∈ u_ws RX4 TX4 6, w ∈ wsX4_onIt := by decide +kernel
  refine lv_aload_n hx hb dX4_onIt_0 rfl (lv_at hl 0 rfl) ?_
  refine va_get (ci := 4) (v := .int (iI (v 4))) (C := RX4) (T := TX4) (N := 6) hx hb hts inX4 hown hK.1 hP 0 rfl rfl 4 (by decide) (hts (.fieldLink RX4 24 "SkimmedSons$Pan" "film" "I") (by decide +kernel)) (fun _ h9 => h9) rfl dX4_onIt_1 ?_
  refine lv_aload_n hx hb dX4_onIt_4 rfl (lv_at hl 0 rfl) ?_
  refine va_get (ci := 4) (v := .int (iI (v 3))) (C := RX4) (T := TX4) (N := 6) hx hb hts inX4 hown hK.1 hP 0 rfl rfl 3 (by decide) (hts (.fieldLink RX4 21 "SkimmedSons$Pan" "cream" "I") (by decide +kernel)) (fun _ h9 => h9) rfl dX4_onIt_5 ?_
  refine z_iadd hx hb dX4_onIt_8 ?_
  refine lv_aload_n hx hb dX4_onIt_9 rfl (lv_at hl 0 rfl) ?_
  refine va_get (ci := 4) (v := .int (iI (v 5))) (C := RX4) (T := TX4) (N := 6) hx hb hts inX4 hown hK.1 hP 0 rfl rfl 5 (by decide) (hts (.fieldLink RX4 27 "SkimmedSons$Pan" "blue" "I") (by decide +kernel)) (fun _ h9 => h9) rfl dX4_onIt_10 ?_
  refine z_iadd hx hb dX4_onIt_13 ?_
  exact z_iret hQ hx hb hr hlocks hS ⟨Nat.le_of_ble_eq_true rfl, Nat.le_of_ble_eq_true rfl⟩ dX4_onIt_14 () (congrArg (fun z => some (Value.int (iI z))) (show (v 4 + v 3 + v 5 : Int) = ((v 4) + (v 3)) + (v 5) by omega)) trivial hP hD
set_option maxHeartbeats 1000000 in
set_option maxRecDepth 100000 in
theorem c_X4_all (l : Launch) (X : zX) (a : Nat) (v : Nat → Int)  : zF l X yX4_all wsX4_all 1 20 [.ref a] (zb [Wpan a v]) (some (.int (iI (v 2 + (v 4 + v 3 + v 5))))) (zb [Wpan a v]) := by
  refine z_enter (cc := cX4_all) (maxL := 1) (ret := (some .int)) (by decide) rfl (Nat.le_of_ble_eq_true rfl) ?_
  intro p e s m below meth c A ls Q hQ hE hl hP hD
  obtain ⟨hx, hb, hr, hml, hown, hts, hlocks, hnm, hA, hK⟩ := hE
  have hown : s.vm.findClass RX4 = some m.cls := hown
  have hS : va_S A s.heap s.heap [] := va_S.rf
  have hl : lv_has ls 1 [(0, .ref a)] := hl
  have inX4 : ∀ w ∈ u_ws RX4 TX4 6, w ∈ wsX4_all := by decide +kernel
  refine lv_aload_n hx hb dX4_all_0 rfl (lv_at hl 0 rfl) ?_
  refine va_get (ci := 4) (v := .int (iI (v 2))) (C := RX4) (T := TX4) (N := 6) hx hb hts inX4 hown hK.1 hP 0 rfl rfl 2 (by decide) (hts (.fieldLink RX4 18 "SkimmedSons$Pan" "fat" "I") (by decide +kernel)) (fun _ h9 => h9) rfl dX4_all_1 ?_
  refine lv_aload_n hx hb dX4_all_4 rfl (lv_at hl 0 rfl) ?_
  have hPm := zp_perm hP (zblk (show List.Perm ([Wpan a v] : List va_W) ([Wpan a v] ++ []) from (zf1 _ 0 _ rfl).trans ((List.Perm.refl _).cons _)))
  have hDm := zd_perm hD (zblk (show List.Perm ([Wpan a v] : List va_W) ([Wpan a v] ++ []) from (zf1 _ 0 _ rfl).trans ((List.Perm.refl _).cons _)))
  refine z_callV (wr := zb []) (As := []) (rest := [.int (iI (v 2))]) ⟨hx, hb, hml, hown, hts⟩ (c_X4_onIt l X a v ) (cwV 0 hts gX4_all_X4_onIt rfl rfl rfl (by decide +kernel) ⟨Nat.le_of_ble_eq_true rfl, Nat.le_of_ble_eq_true rfl⟩) rfl rfl hl.1 dX4_all_5 rfl rfl (Nat.le_of_ble_eq_true rfl) ⟨Nat.le_of_ble_eq_true rfl, Nat.le_of_ble_eq_true rfl⟩ hS hA hK hPm hDm (fun _ H locs _ hP hD hS => ?_)
  have hP := zp_perm hP ((zblk (show List.Perm ([Wpan a v] : List va_W) ([Wpan a v] ++ []) from (zf1 _ 0 _ rfl).trans ((List.Perm.refl _).cons _)))).symm
  have hD := zd_perm hD ((zblk (show List.Perm ([Wpan a v] : List va_W) ([Wpan a v] ++ []) from (zf1 _ 0 _ rfl).trans ((List.Perm.refl _).cons _)))).symm
  have hP : va_P X.1 vwCl (zb [Wpan a v]) H := hP
  have hD : va_D A (zb [Wpan a v]) := hD
  refine W.eq (g2 := F0 m 8 ls [.int (iI (v 4 + v 3 + v 5)), .int (iI (v 2))]) rfl ?_
  refine z_iadd hx hb dX4_all_8 ?_
  exact z_iret hQ hx hb hr hlocks hS ⟨Nat.le_of_ble_eq_true rfl, Nat.le_of_ble_eq_true rfl⟩ dX4_all_9 () (congrArg (fun z => some (Value.int (iI z))) (show (v 2 + (v 4 + v 3 + v 5) : Int) = (v 2) + (v 4 + v 3 + v 5) by omega)) trivial hP hD
set_option maxHeartbeats 1000000 in
set_option maxRecDepth 100000 in
theorem c_X4_risenBehind (l : Launch) (X : zX) (a : Nat) (v : Nat → Int) (n : Int) (k : Int) (hv : PanB v) (hn : 0 ≤ n ∧ n ≤ 100) (hk : 0 ≤ k ∧ k ≤ 100) : zF l X yX4_risenBehind wsX4_risenBehind 1 40 [.ref a, .int (iI n), .int (iI k)] (zb [Wpan a v]) (some (.int (iI (risenP v n k)))) (zb [Wpan a v]) := by
  refine z_enter (cc := cX4_risenBehind) (maxL := 3) (ret := (some .int)) (by decide) rfl (Nat.le_of_ble_eq_true rfl) ?_
  intro p e s m below meth c A ls Q hQ hE hl hP hD
  obtain ⟨hx, hb, hr, hml, hown, hts, hlocks, hnm, hA, hK⟩ := hE
  have hown : s.vm.findClass RX4 = some m.cls := hown
  have hS : va_S A s.heap s.heap [] := va_S.rf
  have hl : lv_has ls 3 [(0, .ref a), (1, .int (iI n)), (2, .int (iI k))] := hl
  have inX4 : ∀ w ∈ u_ws RX4 TX4 6, w ∈ wsX4_risenBehind := by decide +kernel
  obtain ⟨⟨h00, h01⟩, ⟨h10, h11⟩, h2, h3, h4, h5, h6⟩ := id hv
  have hm : 0 ≤ n * (1 + v 0) := Int.mul_nonneg hn.1 (by omega)
  have hm2 : n * (1 + v 0) ≤ 100 * 3 := Int.mul_le_mul hn.2 (by omega) (by omega) (by omega)
  refine lv_aload_n hx hb dX4_risenBehind_0 rfl (lv_at hl 0 rfl) ?_
  refine va_get (ci := 4) (v := .int (iI (v 3))) (C := RX4) (T := TX4) (N := 6) hx hb hts inX4 hown hK.1 hP 0 rfl rfl 3 (by decide) (hts (.fieldLink RX4 21 "SkimmedSons$Pan" "cream" "I") (by decide +kernel)) (fun _ h9 => h9) rfl dX4_risenBehind_1 ?_
  refine lv_aload_n hx hb dX4_risenBehind_4 rfl (lv_at hl 0 rfl) ?_
  refine va_get (ci := 4) (v := .int (iI (v 4))) (C := RX4) (T := TX4) (N := 6) hx hb hts inX4 hown hK.1 hP 0 rfl rfl 4 (by decide) (hts (.fieldLink RX4 24 "SkimmedSons$Pan" "film" "I") (by decide +kernel)) (fun _ h9 => h9) rfl dX4_risenBehind_5 ?_
  refine z_iadd hx hb dX4_risenBehind_8 ?_
  refine lv_iload_n hx hb dX4_risenBehind_9 rfl (lv_at hl 2 rfl) ?_
  refine lv_iload_n hx hb dX4_risenBehind_10 rfl (lv_at hl 1 rfl) ?_
  refine lv_aload_n hx hb dX4_risenBehind_11 rfl (lv_at hl 0 rfl) ?_
  have hPm := zp_perm hP (zblk (show List.Perm ([Wpan a v] : List va_W) ([Wpan a v] ++ []) from (zf1 _ 0 _ rfl).trans ((List.Perm.refl _).cons _)))
  have hDm := zd_perm hD (zblk (show List.Perm ([Wpan a v] : List va_W) ([Wpan a v] ++ []) from (zf1 _ 0 _ rfl).trans ((List.Perm.refl _).cons _)))
  refine z_callV (wr := zb []) (As := []) (rest := [.int (iI n), .int (iI k), .int (iI ((v 3) + (v 4)))]) ⟨hx, hb, hml, hown, hts⟩ (c_X4_risePerHour l X a v ) (cwV 0 hts gX4_risenBehind_X4_risePerHour rfl rfl rfl (by decide +kernel) ⟨Nat.le_of_ble_eq_true rfl, Nat.le_of_ble_eq_true rfl⟩) rfl rfl hl.1 dX4_risenBehind_12 rfl rfl (Nat.le_of_ble_eq_true rfl) ⟨Nat.le_of_ble_eq_true rfl, Nat.le_of_ble_eq_true rfl⟩ hS hA hK hPm hDm (fun _ H locs _ hP hD hS => ?_)
  have hP := zp_perm hP ((zblk (show List.Perm ([Wpan a v] : List va_W) ([Wpan a v] ++ []) from (zf1 _ 0 _ rfl).trans ((List.Perm.refl _).cons _)))).symm
  have hD := zd_perm hD ((zblk (show List.Perm ([Wpan a v] : List va_W) ([Wpan a v] ++ []) from (zf1 _ 0 _ rfl).trans ((List.Perm.refl _).cons _)))).symm
  have hP : va_P X.1 vwCl (zb [Wpan a v]) H := hP
  have hD : va_D A (zb [Wpan a v]) := hD
  refine W.eq (g2 := F0 m 15 ls [.int (iI (1 + v 0)), .int (iI n), .int (iI k), .int (iI ((v 3) + (v 4)))]) rfl ?_
  refine z_imul hx hb dX4_risenBehind_15 ?_
  refine z_mmin hx hb (hml.trans hl.1.symm) hown (hts (.methodLink RX4 34 Lib.Math.min.name) (by decide +kernel)) (hts (.static Lib.Math.min.name) (by decide +kernel)) (hts (.initialized "java/lang/Math") (by decide +kernel)) (hts (.code Lib.Math.min.name Lib.Math.min.code 2 (some .int)) (by decide +kernel)) (Nat.le_of_ble_eq_true rfl) (Nat.le_of_ble_eq_true rfl) (Nat.le_of_ble_eq_true rfl) (Nat.le_of_ble_eq_true rfl) (by omega) dX4_risenBehind_16 ?_
  refine z_iadd hx hb dX4_risenBehind_19 ?_
  exact z_iret hQ hx hb hr hlocks hS ⟨Nat.le_of_ble_eq_true rfl, Nat.le_of_ble_eq_true rfl⟩ dX4_risenBehind_20 () (congrArg (fun z => some (Value.int (iI z))) (show (risenP v n k : Int) = ((v 3) + (v 4)) + (min k (n * (1 + v 0))) by unfold risenP; omega)) trivial hP hD
