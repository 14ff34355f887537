set_option maxHeartbeats 1000000 in
set_option maxRecDepth 100000 in
theorem c_X8_size (l : Launch) (X : zX) (o : Nat) (a : Nat) (b : Nat) (d : Nat) (n : Int) (f1 : Nat → Int) (f2 : Nat → Int) (f3 : Nat → Int)  : zF l X yX8_size wsX8_size 0 0 [.ref o] (zb [Wsig X o a b d n f1 f2 f3]) (some (.int (iI n))) (zb [Wsig X o a b d n f1 f2 f3]) := by
  refine z_enter (cc := cX8_size) (maxL := 1) (ret := (some .int)) (by decide) rfl (Nat.le_of_ble_eq_true rfl) ?_
  intro p e s m below meth c A ls Q hQ hE hl hP hD
  obtain ⟨hx, hb, hr, hml, hown, hts, hlocks, hnm, hA, hK⟩ := hE
  have hown : s.vm.findClass RX8 = some m.cls := hown
  have hS : va_S A s.heap s.heap [] := va_S.rf
  have hl : lv_has ls 1 [(0, .ref o)] := hl
  have inX8 : ∀ w ∈ u_ws RX8 TX8 4, w ∈ wsX8_size := by decide +kernel
  refine lv_aload_n hx hb dX8_size_0 rfl (lv_at hl 0 rfl) ?_
  refine va_get (ci := 8) (v := .int (iI n)) (C := RX8) (T := TX8) (N := 4) hx hb hts inX8 hown hK.1 hP 0 rfl rfl 3 (by decide) (hts (.fieldLink RX8 21 "SkimmedSons$Sights" "count" "I") (by decide +kernel)) (fun _ h9 => h9) rfl dX8_size_1 ?_
  exact z_iret hQ hx hb hr hlocks hS ⟨Nat.le_of_ble_eq_true rfl, Nat.le_of_ble_eq_true rfl⟩ dX8_size_4 () rfl trivial hP hD
set_option maxHeartbeats 1000000 in
set_option maxRecDepth 100000 in
theorem c_X8_isFull (l : Launch) (X : zX) (o : Nat) (a : Nat) (b : Nat) (d : Nat) (n : Int) (f1 : Nat → Int) (f2 : Nat → Int) (f3 : Nat → Int) (hn : 0 ≤ n ∧ n ≤ 6) : zF l X yX8_isFull wsX8_isFull 0 0 [.ref o] (zb [Wsig X o a b d n f1 f2 f3]) (some (.int (iI (if 6 ≤ n then 1 else 0)))) (zb [Wsig X o a b d n f1 f2 f3]) := by
  refine z_enter (cc := cX8_isFull) (maxL := 1) (ret := (some .boolean)) (by decide) rfl (Nat.le_of_ble_eq_true rfl) ?_
  intro p e s m below meth c A ls Q hQ hE hl hP hD
  obtain ⟨hx, hb, hr, hml, hown, hts, hlocks, hnm, hA, hK⟩ := hE
  have hown : s.vm.findClass RX8 = some m.cls := hown
  have hS : va_S A s.heap s.heap [] := va_S.rf
  have hl : lv_has ls 1 [(0, .ref o)] := hl
  have inX8 : ∀ w ∈ u_ws RX8 TX8 4, w ∈ wsX8_isFull := by decide +kernel
  refine lv_aload_n hx hb dX8_isFull_0 rfl (lv_at hl 0 rfl) ?_
  refine va_get (ci := 8) (v := .int (iI n)) (C := RX8) (T := TX8) (N := 4) hx hb hts inX8 hown hK.1 hP 0 rfl rfl 3 (by decide) (hts (.fieldLink RX8 21 "SkimmedSons$Sights" "count" "I") (by decide +kernel)) (fun _ h9 => h9) rfl dX8_isFull_1 ?_
  refine lv_bipush (v := iI 6) hx hb dX8_isFull_4 (by decide) ?_
  refine z_icmp_lt (tgt := 13) hx hb (by omega) dX8_isFull_6 (by decide) (fun c_1 => ?_) (fun c_1 => ?_)
  · skip
    refine lv_iconst (v := iI 0) hx hb dX8_isFull_13 (by decide) ?_
    exact z_zret (ty := .boolean) hQ hx hb hr (by rfl) hlocks hS ⟨Nat.le_of_ble_eq_true rfl, Nat.le_of_ble_eq_true rfl⟩ dX8_isFull_14 () (congrArg (fun z => some (Value.int (iI z))) (show (if 6 ≤ n then 1 else 0 : Int) = 0 by omega)) trivial hP hD
  · skip
    refine lv_iconst (v := iI 1) hx hb dX8_isFull_9 (by decide) ?_
    refine lv_goto (tgt := 14) hx hb dX8_isFull_10 (by decide) ?_
    exact z_zret (ty := .boolean) hQ hx hb hr (by rfl) hlocks hS ⟨Nat.le_of_ble_eq_true rfl, Nat.le_of_ble_eq_true rfl⟩ dX8_isFull_14 () (congrArg (fun z => some (Value.int (iI z))) (show (if 6 ≤ n then 1 else 0 : Int) = 1 by omega)) trivial hP hD
set_option maxHeartbeats 1000000 in
set_option maxRecDepth 100000 in
theorem c_X8_clear (l : Launch) (X : zX) (o : Nat) (a : Nat) (b : Nat) (d : Nat) (n : Int) (f1 : Nat → Int) (f2 : Nat → Int) (f3 : Nat → Int)  : zF l X yX8_clear wsX8_clear 0 0 [.ref o] (zb [Wsig X o a b d n f1 f2 f3]) (some (.int (iI n))) (zb [Wsig X o a b d 0 f1 f2 f3]) := by
  refine z_enter (cc := cX8_clear) (maxL := 2) (ret := (some .int)) (by decide) rfl (Nat.le_of_ble_eq_true rfl) ?_
  intro p e s m below meth c A ls Q hQ hE hl hP hD
  obtain ⟨hx, hb, hr, hml, hown, hts, hlocks, hnm, hA, hK⟩ := hE
  have hown : s.vm.findClass RX8 = some m.cls := hown
  have hS : va_S A s.heap s.heap [] := va_S.rf
  have hl : lv_has ls 2 [(0, .ref o)] := hl
  have inX8 : ∀ w ∈ u_ws RX8 TX8 4, w ∈ wsX8_clear := by decide +kernel
  refine lv_aload_n hx hb dX8_clear_0 rfl (lv_at hl 0 rfl) ?_
  refine va_get (ci := 8) (v := .int (iI n)) (C := RX8) (T := TX8) (N := 4) hx hb hts inX8 hown hK.1 hP 0 rfl rfl 3 (by decide) (hts (.fieldLink RX8 21 "SkimmedSons$Sights" "count" "I") (by decide +kernel)) (fun _ h9 => h9) rfl dX8_clear_1 ?_
  refine lv_istore_n (lv' := [(1, .int (iI n)), (0, .ref o)]) hx hb dX8_clear_4 rfl hl (by decide) rfl (fun ls hl => ?_)
  refine lv_aload_n hx hb dX8_clear_5 rfl (lv_at hl 1 rfl) ?_
  refine lv_iconst (v := iI 0) hx hb dX8_clear_6 (by decide) ?_
  refine va_put (ci := 8) (v := .int (iI 0)) (ty := .int) (C := RX8) (T := TX8) (N := 4) hx hb hts inX8 tyX8 tyX8_ok nmX8 hown hK.1 hP hD hS 0 rfl rfl 3 (by decide) (hts (.fieldLink RX8 21 "SkimmedSons$Sights" "count" "I") (by decide +kernel)) (fun _ h9 => h9) rfl (by decide +kernel) rfl rfl (Nat.le_of_ble_eq_true rfl) dX8_clear_7 (fun H locs hP hD hS => ?_)
  have hP : va_P X.1 vwCl (zb [Wsig X o a b d 0 f1 f2 f3]) H := hP
  have hD : va_D A (zb [Wsig X o a b d 0 f1 f2 f3]) := hD
  refine lv_iload_n hx hb dX8_clear_10 rfl (lv_at hl 0 rfl) ?_
  exact z_iret hQ hx hb hr hlocks hS ⟨Nat.le_of_ble_eq_true rfl, Nat.le_of_ble_eq_true rfl⟩ dX8_clear_11 () rfl trivial hP hD
set_option maxHeartbeats 1000000 in
set_option maxRecDepth 100000 in
theorem c_X8_add (l : Launch) (X : zX) (o : Nat) (a : Nat) (b : Nat) (d : Nat) (n : Int) (f1 : Nat → Int) (f2 : Nat → Int) (f3 : Nat → Int) (x : Int) (y : Int) (z : Int) (hn : 0 ≤ n ∧ n < 6) : zF l X yX8_add wsX8_add 1 20 [.ref o, .int (iI x), .int (iI y), .int (iI z)] (zb [Wsig X o a b d n f1 f2 f3]) none (zb [Wsig X o a b d (n + 1) (updZ f1 n.toNat x) (updZ f2 n.toNat y) (updZ f3 n.toNat z)]) := by
  refine z_enter (cc := cX8_add) (maxL := 4) (ret := none) (by decide) rfl (Nat.le_of_ble_eq_true rfl) ?_
  intro p e s m below meth c A ls Q hQ hE hl hP hD
  obtain ⟨hx, hb, hr, hml, hown, hts, hlocks, hnm, hA, hK⟩ := hE
  have hown : s.vm.findClass RX8 = some m.cls := hown
  have hS : va_S A s.heap s.heap [] := va_S.rf
  have hl : lv_has ls 4 [(0, .ref o), (1, .int (iI x)), (2, .int (iI y)), (3, .int (iI z))] := hl
  have inX8 : ∀ w ∈ u_ws RX8 TX8 4, w ∈ wsX8_add := by decide +kernel
  refine lv_aload_n hx hb dX8_add_0 rfl (lv_at hl 0 rfl) ?_
  have hPm := zp_perm hP (zblk (show List.Perm ([Wsig X o a b d n f1 f2 f3] : List va_W) ([Wsig X o a b d n f1 f2 f3] ++ []) from (zf1 _ 0 _ rfl).trans ((List.Perm.refl _).cons _)))
  have hDm := zd_perm hD (zblk (show List.Perm ([Wsig X o a b d n f1 f2 f3] : List va_W) ([Wsig X o a b d n f1 f2 f3] ++ []) from (zf1 _ 0 _ rfl).trans ((List.Perm.refl _).cons _)))
  refine z_callV (wr := zb []) (As := []) (rest := []) ⟨hx, hb, hml, hown, hts⟩ (c_X8_isFull l X o a b d n f1 f2 f3 (by omega)) (cwV 0 hts gX8_add_X8_isFull rfl rfl rfl (by decide +kernel) ⟨Nat.le_of_ble_eq_true rfl, Nat.le_of_ble_eq_true rfl⟩) rfl rfl hl.1 dX8_add_1 rfl rfl (Nat.le_of_ble_eq_true rfl) ⟨Nat.le_of_ble_eq_true rfl, Nat.le_of_ble_eq_true rfl⟩ hS hA hK hPm hDm (fun _ H locs _ hP hD hS => ?_)
  have hP := zp_perm hP ((zblk (show List.Perm ([Wsig X o a b d n f1 f2 f3] : List va_W) ([Wsig X o a b d n f1 f2 f3] ++ []) from (zf1 _ 0 _ rfl).trans ((List.Perm.refl _).cons _)))).symm
  have hD := zd_perm hD ((zblk (show List.Perm ([Wsig X o a b d n f1 f2 f3] : List va_W) ([Wsig X o a b d n f1 f2 f3] ++ []) from (zf1 _ 0 _ rfl).trans ((List.Perm.refl _).cons _)))).symm
  have hP : va_P X.1 vwCl (zb [Wsig X o a b d n f1 f2 f3]) H := hP
  have hD : va_D A (zb [Wsig X o a b d n f1 f2 f3]) := hD
  refine W.eq (g2 := F0 m 4 ls [.int (iI (if 6 ≤ n then 1 else 0))]) rfl ?_
  refine z_if_ne (tgt := 47) hx hb (by omega) dX8_add_4 (by decide) (fun c_1 => ?_) (fun c_1 => ?_)
  · skip
    exact absurd c_1 (by omega)
  · skip
    refine lv_aload_n hx hb dX8_add_7 rfl (lv_at hl 0 rfl) ?_
    refine va_get (ci := 8) (v := .ref a) (C := RX8) (T := TX8) (N := 4) hx hb hts inX8 hown hK.1 hP 0 rfl rfl 0 (by decide) (hts (.fieldLink RX8 9 "SkimmedSons$Sights" "pans" "[I") (by decide +kernel)) (fun _ h9 => h9) rfl dX8_add_8 ?_
    refine lv_aload_n hx hb dX8_add_11 rfl (lv_at hl 0 rfl) ?_
    refine va_get (ci := 8) (v := .int (iI n)) (C := RX8) (T := TX8) (N := 4) hx hb hts inX8 hown hK.1 hP 0 rfl rfl 3 (by decide) (hts (.fieldLink RX8 21 "SkimmedSons$Sights" "count" "I") (by decide +kernel)) (fun _ h9 => h9) rfl dX8_add_12 ?_
    refine lv_iload_n hx hb dX8_add_15 rfl (lv_at hl 1 rfl) ?_
    refine z_iast hx hb hK.1 hP hD hS 1 rfl (by omega) dX8_add_16 (fun H locs hP hD hS => ?_)
    have hP : va_P X.1 vwCl (zb [Wsig X o a b d n (updZ f1 n.toNat x) f2 f3]) H := hP
    have hD : va_D A (zb [Wsig X o a b d n (updZ f1 n.toNat x) f2 f3]) := hD
    refine lv_aload_n hx hb dX8_add_17 rfl (lv_at hl 0 rfl) ?_
    refine va_get (ci := 8) (v := .ref b) (C := RX8) (T := TX8) (N := 4) hx hb hts inX8 hown hK.1 hP 0 rfl rfl 1 (by decide) (hts (.fieldLink RX8 15 "SkimmedSons$Sights" "behind" "[I") (by decide +kernel)) (fun _ h9 => h9) rfl dX8_add_18 ?_
    refine lv_aload_n hx hb dX8_add_21 rfl (lv_at hl 0 rfl) ?_
    refine va_get (ci := 8) (v := .int (iI n)) (C := RX8) (T := TX8) (N := 4) hx hb hts inX8 hown hK.1 hP 0 rfl rfl 3 (by decide) (hts (.fieldLink RX8 21 "SkimmedSons$Sights" "count" "I") (by decide +kernel)) (fun _ h9 => h9) rfl dX8_add_22 ?_
    refine lv_iload_n hx hb dX8_add_25 rfl (lv_at hl 2 rfl) ?_
    refine z_iast hx hb hK.1 hP hD hS 2 rfl (by omega) dX8_add_26 (fun H locs hP hD hS => ?_)
    have hP : va_P X.1 vwCl (zb [Wsig X o a b d n (updZ f1 n.toNat x) (updZ f2 n.toNat y) f3]) H := hP
    have hD : va_D A (zb [Wsig X o a b d n (updZ f1 n.toNat x) (updZ f2 n.toNat y) f3]) := hD
    refine lv_aload_n hx hb dX8_add_27 rfl (lv_at hl 0 rfl) ?_
    refine va_get (ci := 8) (v := .ref d) (C := RX8) (T := TX8) (N := 4) hx hb hts inX8 hown hK.1 hP 0 rfl rfl 2 (by decide) (hts (.fieldLink RX8 18 "SkimmedSons$Sights" "much" "[I") (by decide +kernel)) (fun _ h9 => h9) rfl dX8_add_28 ?_
    refine lv_aload_n hx hb dX8_add_31 rfl (lv_at hl 0 rfl) ?_
    refine va_get (ci := 8) (v := .int (iI n)) (C := RX8) (T := TX8) (N := 4) hx hb hts inX8 hown hK.1 hP 0 rfl rfl 3 (by decide) (hts (.fieldLink RX8 21 "SkimmedSons$Sights" "count" "I") (by decide +kernel)) (fun _ h9 => h9) rfl dX8_add_32 ?_
    refine lv_iload_n hx hb dX8_add_35 rfl (lv_at hl 3 rfl) ?_
    refine z_iast hx hb hK.1 hP hD hS 3 rfl (by omega) dX8_add_36 (fun H locs hP hD hS => ?_)
    have hP : va_P X.1 vwCl (zb [Wsig X o a b d n (updZ f1 n.toNat x) (updZ f2 n.toNat y) (updZ f3 n.toNat z)]) H := hP
    have hD : va_D A (zb [Wsig X o a b d n (updZ f1 n.toNat x) (updZ f2 n.toNat y) (updZ f3 n.toNat z)]) := hD
    refine lv_aload_n hx hb dX8_add_37 rfl (lv_at hl 0 rfl) ?_
    refine lv_dup hx hb dX8_add_38 rfl ?_
    refine va_get (ci := 8) (v := .int (iI n)) (C := RX8) (T := TX8) (N := 4) hx hb hts inX8 hown hK.1 hP 0 rfl rfl 3 (by decide) (hts (.fieldLink RX8 21 "SkimmedSons$Sights" "count" "I") (by decide +kernel)) (fun _ h9 => h9) rfl dX8_add_39 ?_
    refine lv_iconst (v := iI 1) hx hb dX8_add_42 (by decide) ?_
    refine z_iadd hx hb dX8_add_43 ?_
    refine z_topi (fun z_2 ez_2 => ?_)
    refine va_put (ci := 8) (v := .int (iI z_2)) (ty := .int) (C := RX8) (T := TX8) (N := 4) hx hb hts inX8 tyX8 tyX8_ok nmX8 hown hK.1 hP hD hS 0 rfl rfl 3 (by decide) (hts (.fieldLink RX8 21 "SkimmedSons$Sights" "count" "I") (by decide +kernel)) (fun _ h9 => h9) rfl (by decide +kernel) rfl rfl (Nat.le_of_ble_eq_true rfl) dX8_add_44 (fun H locs hP hD hS => ?_)
    have hP : va_P X.1 vwCl (zb [Wsig X o a b d z_2 (updZ f1 n.toNat x) (updZ f2 n.toNat y) (updZ f3 n.toNat z)]) H := hP
    have hD : va_D A (zb [Wsig X o a b d z_2 (updZ f1 n.toNat x) (updZ f2 n.toNat y) (updZ f3 n.toNat z)]) := hD
    have hw : zb [Wsig X o a b d z_2 (updZ f1 n.toNat x) (updZ f2 n.toNat y) (updZ f3 n.toNat z)] = zb [Wsig X o a b d (n + 1) (updZ f1 n.toNat x) (updZ f2 n.toNat y) (updZ f3 n.toNat z)] := by subst_vars; rfl
    rw [hw] at hP hD
    exact z_vret hQ hx hb hr hlocks hS ⟨Nat.le_of_ble_eq_true rfl, Nat.le_of_ble_eq_true rfl⟩ dX8_add_47 () rfl trivial hP hD
set_option maxHeartbeats 1000000 in
set_option maxRecDepth 100000 in
theorem c_X8_copyFrom (l : Launch) (X : zX) (o : Nat) (a : Nat) (b : Nat) (d : Nat) (n : Int) (f1 : Nat → Int) (f2 : Nat → Int) (f3 : Nat → Int) (o2 : Nat) (a2 : Nat) (b2 : Nat) (d2 : Nat) (n2 : Int) (g1 : Nat → Int) (g2 : Nat → Int) (g3 : Nat → Int)  : zF l X yX8_copyFrom wsX8_copyFrom 1 100 [.ref o, .ref o2] (zb [Wsig X o a b d n f1 f2 f3, Wsig X o2 a2 b2 d2 n2 g1 g2 g3]) none (zb [Wsig X o a b d n2 (catZ g1 f1 6) (catZ g2 f2 6) (catZ g3 f3 6), Wsig X o2 a2 b2 d2 n2 g1 g2 g3]) := by
  refine z_enter (cc := cX8_copyFrom) (maxL := 2) (ret := none) (by decide) rfl (Nat.le_of_ble_eq_true rfl) ?_
  intro p e s m below meth c A ls Q hQ hE hl hP hD
  obtain ⟨hx, hb, hr, hml, hown, hts, hlocks, hnm, hA, hK⟩ := hE
  have hown : s.vm.findClass RX8 = some m.cls := hown
  have hS : va_S A s.heap s.heap [] := va_S.rf
  have hl : lv_has ls 2 [(0, .ref o), (1, .ref o2)] := hl
  have inX8 : ∀ w ∈ u_ws RX8 TX8 4, w ∈ wsX8_copyFrom := by decide +kernel
  refine lv_aload_n hx hb dX8_copyFrom_0 rfl (lv_at hl 1 rfl) ?_
  refine va_get (ci := 8) (v := .ref a2) (C := RX8) (T := TX8) (N := 4) hx hb hts inX8 hown hK.1 hP 4 rfl rfl 0 (by decide) (hts (.fieldLink RX8 9 "SkimmedSons$Sights" "pans" "[I") (by decide +kernel)) (fun _ h9 => h9) rfl dX8_copyFrom_1 ?_
  refine lv_iconst (v := iI 0) hx hb dX8_copyFrom_4 (by decide) ?_
  refine lv_aload_n hx hb dX8_copyFrom_5 rfl (lv_at hl 0 rfl) ?_
  refine va_get (ci := 8) (v := .ref a) (C := RX8) (T := TX8) (N := 4) hx hb hts inX8 hown hK.1 hP 0 rfl rfl 0 (by decide) (hts (.fieldLink RX8 9 "SkimmedSons$Sights" "pans" "[I") (by decide +kernel)) (fun _ h9 => h9) rfl dX8_copyFrom_6 ?_
  refine lv_iconst (v := iI 0) hx hb dX8_copyFrom_9 (by decide) ?_
  refine lv_bipush (v := iI 6) hx hb dX8_copyFrom_10 (by decide) ?_
  refine z_copy (k := 6) hx hb (hml.trans hl.1.symm) hown (hts (.methodLink RX8 29 arraycopyName) (by decide +kernel)) (hts (.native arraycopyName) (by decide +kernel)) (hts (.static arraycopyName) (by decide +kernel)) (hts (.initialized "java/lang/System") (by decide +kernel)) hK.1 hP hD hS 5 1 rfl rfl (by decide) (Nat.le_of_ble_eq_true rfl) (by decide +kernel) dX8_copyFrom_12 (fun H locs hP hD hS => ?_)
  have hP : va_P X.1 vwCl (zb [Wsig X o a b d n (catZ g1 f1 6) f2 f3, Wsig X o2 a2 b2 d2 n2 g1 g2 g3]) H := hP
  have hD : va_D A (zb [Wsig X o a b d n (catZ g1 f1 6) f2 f3, Wsig X o2 a2 b2 d2 n2 g1 g2 g3]) := hD
  refine lv_aload_n hx hb dX8_copyFrom_15 rfl (lv_at hl 1 rfl) ?_
  refine va_get (ci := 8) (v := .ref b2) (C := RX8) (T := TX8) (N := 4) hx hb hts inX8 hown hK.1 hP 4 rfl rfl 1 (by decide) (hts (.fieldLink RX8 15 "SkimmedSons$Sights" "behind" "[I") (by decide +kernel)) (fun _ h9 => h9) rfl dX8_copyFrom_16 ?_
  refine lv_iconst (v := iI 0) hx hb dX8_copyFrom_19 (by decide) ?_
  refine lv_aload_n hx hb dX8_copyFrom_20 rfl (lv_at hl 0 rfl) ?_
  refine va_get (ci := 8) (v := .ref b) (C := RX8) (T := TX8) (N := 4) hx hb hts inX8 hown hK.1 hP 0 rfl rfl 1 (by decide) (hts (.fieldLink RX8 15 "SkimmedSons$Sights" "behind" "[I") (by decide +kernel)) (fun _ h9 => h9) rfl dX8_copyFrom_21 ?_
  refine lv_iconst (v := iI 0) hx hb dX8_copyFrom_24 (by decide) ?_
  refine lv_bipush (v := iI 6) hx hb dX8_copyFrom_25 (by decide) ?_
  refine z_copy (k := 6) hx hb (hml.trans hl.1.symm) hown (hts (.methodLink RX8 29 arraycopyName) (by decide +kernel)) (hts (.native arraycopyName) (by decide +kernel)) (hts (.static arraycopyName) (by decide +kernel)) (hts (.initialized "java/lang/System") (by decide +kernel)) hK.1 hP hD hS 6 2 rfl rfl (by decide) (Nat.le_of_ble_eq_true rfl) (by decide +kernel) dX8_copyFrom_27 (fun H locs hP hD hS => ?_)
  have hP : va_P X.1 vwCl (zb [Wsig X o a b d n (catZ g1 f1 6) (catZ g2 f2 6) f3, Wsig X o2 a2 b2 d2 n2 g1 g2 g3]) H := hP
  have hD : va_D A (zb [Wsig X o a b d n (catZ g1 f1 6) (catZ g2 f2 6) f3, Wsig X o2 a2 b2 d2 n2 g1 g2 g3]) := hD
  refine lv_aload_n hx hb dX8_copyFrom_30 rfl (lv_at hl 1 rfl) ?_
  refine va_get (ci := 8) (v := .ref d2) (C := RX8) (T := TX8) (N := 4) hx hb hts inX8 hown hK.1 hP 4 rfl rfl 2 (by decide) (hts (.fieldLink RX8 18 "SkimmedSons$Sights" "much" "[I") (by decide +kernel)) (fun _ h9 => h9) rfl dX8_copyFrom_31 ?_
  refine lv_iconst (v := iI 0) hx hb dX8_copyFrom_34 (by decide) ?_
  refine lv_aload_n hx hb dX8_copyFrom_35 rfl (lv_at hl 0 rfl) ?_
  refine va_get (ci := 8) (v := .ref d) (C := RX8) (T := TX8) (N := 4) hx hb hts inX8 hown hK.1 hP 0 rfl rfl 2 (by decide) (hts (.fieldLink RX8 18 "SkimmedSons$Sights" "much" "[I") (by decide +kernel)) (fun _ h9 => h9) rfl dX8_copyFrom_36 ?_
  refine lv_iconst (v := iI 0) hx hb dX8_copyFrom_39 (by decide) ?_
  refine lv_bipush (v := iI 6) hx hb dX8_copyFrom_40 (by decide) ?_
  refine z_copy (k := 6) hx hb (hml.trans hl.1.symm) hown (hts (.methodLink RX8 29 arraycopyName) (by decide +kernel)) (hts (.native arraycopyName) (by decide +kernel)) (hts (.static arraycopyName) (by decide +kernel)) (hts (.initialized "java/lang/System") (by decide +kernel)) hK.1 hP hD hS 7 3 rfl rfl (by decide) (Nat.le_of_ble_eq_true rfl) (by decide +kernel) dX8_copyFrom_42 (fun H locs hP hD hS => ?_)
  have hP : va_P X.1 vwCl (zb [Wsig X o a b d n (catZ g1 f1 6) (catZ g2 f2 6) (catZ g3 f3 6), Wsig X o2 a2 b2 d2 n2 g1 g2 g3]) H := hP
  have hD : va_D A (zb [Wsig X o a b d n (catZ g1 f1 6) (catZ g2 f2 6) (catZ g3 f3 6), Wsig X o2 a2 b2 d2 n2 g1 g2 g3]) := hD
  refine lv_aload_n hx hb dX8_copyFrom_45 rfl (lv_at hl 0 rfl) ?_
  refine lv_aload_n hx hb dX8_copyFrom_46 rfl (lv_at hl 1 rfl) ?_
  refine va_get (ci := 8) (v := .int (iI n2)) (C := RX8) (T := TX8) (N := 4) hx hb hts inX8 hown hK.1 hP 4 rfl rfl 3 (by decide) (hts (.fieldLink RX8 21 "SkimmedSons$Sights" "count" "I") (by decide +kernel)) (fun _ h9 => h9) rfl dX8_copyFrom_47 ?_
  refine va_put (ci := 8) (v := .int (iI n2)) (ty := .int) (C := RX8) (T := TX8) (N := 4) hx hb hts inX8 tyX8 tyX8_ok nmX8 hown hK.1 hP hD hS 0 rfl rfl 3 (by decide) (hts (.fieldLink RX8 21 "SkimmedSons$Sights" "count" "I") (by decide +kernel)) (fun _ h9 => h9) rfl (by decide +kernel) rfl rfl (Nat.le_of_ble_eq_true rfl) dX8_copyFrom_50 (fun H locs hP hD hS => ?_)
  have hP : va_P X.1 vwCl (zb [Wsig X o a b d n2 (catZ g1 f1 6) (catZ g2 f2 6) (catZ g3 f3 6), Wsig X o2 a2 b2 d2 n2 g1 g2 g3]) H := hP
  have hD : va_D A (zb [Wsig X o a b d n2 (catZ g1 f1 6) (catZ g2 f2 6) (catZ g3 f3 6), Wsig X o2 a2 b2 d2 n2 g1 g2 g3]) := hD
  exact z_vret hQ hx hb hr hlocks hS ⟨Nat.le_of_ble_eq_true rfl, Nat.le_of_ble_eq_true rfl⟩ dX8_copyFrom_53 () rfl trivial hP hD
set_option maxHeartbeats 1000000 in
set_option maxRecDepth 100000 in
theorem c_X8_canBe (l : Launch) (X : zX) (o : Nat) (a : Nat) (b : Nat) (d : Nat) (n : Int) (f1 : Nat → Int) (f2 : Nat → Int) (f3 : Nat → Int) (u : Int) (t : Nat) (v : Nat → Int) (x : Int) (hs : SigB n f1 f2 f3) (hv : PanB v) (hu : -2147483648 ≤ u ∧ u < 2147483648) (hx0 : 0 ≤ x ∧ x ≤ 100) : zF l X yX8_canBe wsX8_canBe 2 62 [.ref o, .int (iI u), .ref t, .int (iI x)] (zb [Wsig X o a b d n f1 f2 f3, Wpan t v]) (some (.int (iI (canZ f1 f2 f3 u v x n.toNat)))) (zb [Wsig X o a b d n f1 f2 f3, Wpan t v]) := by
  refine z_enter (cc := cX8_canBe) (maxL := 5) (ret := (some .boolean)) (by decide) rfl (Nat.le_of_ble_eq_true rfl) ?_
  intro p e s m below meth c A ls Q hQ hE hl hP hD
  obtain ⟨hx, hb, hr, hml, hown, hts, hlocks, hnm, hA, hK⟩ := hE
  have hown : s.vm.findClass RX8 = some m.cls := hown
  have hS : va_S A s.heap s.heap [] := va_S.rf
  have hl : lv_has ls 5 [(0, .ref o), (1, .int (iI u)), (2, .ref t), (3, .int (iI x))] := hl
  have inX8 : ∀ w ∈ u_ws RX8 TX8 4, w ∈ wsX8_canBe := by decide +kernel
  obtain ⟨hn, hf⟩ := id hs
  refine lv_iconst (v := iI 0) hx hb dX8_canBe_0 (by decide) ?_
  refine lv_istore (lv' := [(4, .int (iI 0)), (0, .ref o), (1, .int (iI u)), (2, .ref t), (3, .int (iI x))]) hx hb dX8_canBe_1 hl (by decide) rfl (fun ls hl => ?_)
  have L3 : ∀ (fu : Nat) (i : Nat), ((i : Int) ≤ n) → (canZ f1 f2 f3 u v x i = 1) → (n - ↑i).toNat < fu → ∀ (H : Heap) (locs : List Loc) (ls : Array Slot), va_P X.1 vwCl (zb [Wsig X o a b d n f1 f2 f3, Wpan t v]) H → va_D A (zb [Wsig X o a b d n f1 f2 f3, Wpan t v]) → va_S A s.heap H locs → lv_has ls 5 [(0, .ref o), (1, .int (iI u)), (2, .ref t), (3, .int (iI x)), (4, .int (iI (↑i)))] → W p l e { frames := 2, cells := 0, slots := 0, locals := 62 } s m ([.ref o, .int (iI u), .ref t, .int (iI x)] : List Value).toArray below meth c H locs 0 0 Q (F0 m 3 ls []) := by
    intro fu
    induction fu with
    | zero => intro i hi hcz hm; exact absurd hm (Nat.not_lt_zero _)
    | succ fu ih3 =>
      intro i hi hcz hm H locs ls hP hD hS hl
      refine lv_iload hx hb dX8_canBe_3 (lv_at hl 4 rfl) ?_
      refine lv_aload_n hx hb dX8_canBe_5 rfl (lv_at hl 0 rfl) ?_
      refine va_get (ci := 8) (v := .int (iI n)) (C := RX8) (T := TX8) (N := 4) hx hb hts inX8 hown hK.1 hP 0 rfl rfl 3 (by decide) (hts (.fieldLink RX8 21 "SkimmedSons$Sights" "count" "I") (by decide +kernel)) (fun _ h9 => h9) rfl dX8_canBe_6 ?_
      refine z_icmp_ge (tgt := 53) hx hb (by omega) dX8_canBe_9 (by decide) (fun c_1 => ?_) (fun c_1 => ?_)
      · skip
        refine lv_iconst (v := iI 1) hx hb dX8_canBe_53 (by decide) ?_
        exact z_zret (ty := .boolean) hQ hx hb hr (by rfl) hlocks hS ⟨Nat.le_of_ble_eq_true rfl, Nat.le_of_ble_eq_true rfl⟩ dX8_canBe_54 () (congrArg (fun z => some (Value.int (iI z))) (show (canZ f1 f2 f3 u v x n.toNat : Int) = 1 by rw [← hcz]; congr 1; omega)) trivial hP hD
      · skip
        refine lv_aload_n hx hb dX8_canBe_12 rfl (lv_at hl 0 rfl) ?_
        refine va_get (ci := 8) (v := .ref a) (C := RX8) (T := TX8) (N := 4) hx hb hts inX8 hown hK.1 hP 0 rfl rfl 0 (by decide) (hts (.fieldLink RX8 9 "SkimmedSons$Sights" "pans" "[I") (by decide +kernel)) (fun _ h9 => h9) rfl dX8_canBe_13 ?_
        refine lv_iload hx hb dX8_canBe_16 (lv_at hl 4 rfl) ?_
        have hfi := hf i (by omega)
        refine z_iald hx hb hK.1 hP 1 rfl (by omega) dX8_canBe_18 ?_
        refine W.eq (g2 := F0 m 19 ls [.int (iI (f1 i))]) rfl ?_
        refine lv_iload_n hx hb dX8_canBe_19 rfl (lv_at hl 1 rfl) ?_
        refine z_icmp_ne (tgt := 47) hx hb (by omega) dX8_canBe_20 (by decide) (fun c_2 => ?_) (fun c_2 => ?_)
        · skip
          refine z_iinc (k := 4) (lv' := [(4, .int (iI ((↑i) + 1))), (0, .ref o), (1, .int (iI u)), (2, .ref t), (3, .int (iI x))]) hx hb dX8_canBe_47 hl rfl (by decide) rfl (fun ls hl => ?_)
          refine lv_goto (tgt := 3) hx hb dX8_canBe_50 (by decide) ?_
          exact ih3  (i + 1) (by omega) (by unfold canZ; rw [if_neg (by omega)]; exact hcz) (by omega) _ _ _ hP hD hS (lv_sub hl [1, 2, 3, 4, 0] rfl)
        · skip
          refine lv_aload_n hx hb dX8_canBe_23 rfl (lv_at hl 2 rfl) ?_
          refine lv_aload_n hx hb dX8_canBe_24 rfl (lv_at hl 0 rfl) ?_
          refine va_get (ci := 8) (v := .ref b) (C := RX8) (T := TX8) (N := 4) hx hb hts inX8 hown hK.1 hP 0 rfl rfl 1 (by decide) (hts (.fieldLink RX8 15 "SkimmedSons$Sights" "behind" "[I") (by decide +kernel)) (fun _ h9 => h9) rfl dX8_canBe_25 ?_
          refine lv_iload hx hb dX8_canBe_28 (lv_at hl 4 rfl) ?_
          refine z_iald hx hb hK.1 hP 2 rfl (by omega) dX8_canBe_30 ?_
          refine W.eq (g2 := F0 m 31 ls [.int (iI (f2 i)), .ref t]) rfl ?_
          refine lv_iload_n hx hb dX8_canBe_31 rfl (lv_at hl 3 rfl) ?_
          have hPm := zp_perm hP (zblk (show List.Perm ([Wsig X o a b d n f1 f2 f3, Wpan t v] : List va_W) ([Wpan t v] ++ [Wsig X o a b d n f1 f2 f3]) from (zf1 _ 1 _ rfl).trans ((List.Perm.refl _).cons _)))
          have hDm := zd_perm hD (zblk (show List.Perm ([Wsig X o a b d n f1 f2 f3, Wpan t v] : List va_W) ([Wpan t v] ++ [Wsig X o a b d n f1 f2 f3]) from (zf1 _ 1 _ rfl).trans ((List.Perm.refl _).cons _)))
          refine z_callV (wr := zb [Wsig X o a b d n f1 f2 f3]) (As := [.int (iI (f2 i)), .int (iI x)]) (rest := []) ⟨hx, hb, hml, hown, hts⟩ (c_X4_risenBehind l X t v (f2 i) x (by exact hv) (by omega) (by omega)) (cwV 2 hts gX8_canBe_X4_risenBehind rfl rfl rfl (by decide +kernel) ⟨Nat.le_of_ble_eq_true rfl, Nat.le_of_ble_eq_true rfl⟩) rfl rfl hl.1 dX8_canBe_32 rfl rfl (Nat.le_of_ble_eq_true rfl) ⟨Nat.le_of_ble_eq_true rfl, Nat.le_of_ble_eq_true rfl⟩ hS hA hK hPm hDm (fun _ H locs _ hP hD hS => ?_)
          have hP := zp_perm hP ((zblk (show List.Perm ([Wsig X o a b d n f1 f2 f3, Wpan t v] : List va_W) ([Wpan t v] ++ [Wsig X o a b d n f1 f2 f3]) from (zf1 _ 1 _ rfl).trans ((List.Perm.refl _).cons _)))).symm
          have hD := zd_perm hD ((zblk (show List.Perm ([Wsig X o a b d n f1 f2 f3, Wpan t v] : List va_W) ([Wpan t v] ++ [Wsig X o a b d n f1 f2 f3]) from (zf1 _ 1 _ rfl).trans ((List.Perm.refl _).cons _)))).symm
          have hP : va_P X.1 vwCl (zb [Wsig X o a b d n f1 f2 f3, Wpan t v]) H := hP
          have hD : va_D A (zb [Wsig X o a b d n f1 f2 f3, Wpan t v]) := hD
          refine W.eq (g2 := F0 m 35 ls [.int (iI (risenP v (f2 i) x))]) rfl ?_
          have hri := risenP_in (n := f2 i) hv (by omega) (by omega : 0 ≤ x ∧ x ≤ 100)
          refine lv_aload_n hx hb dX8_canBe_35 rfl (lv_at hl 0 rfl) ?_
          refine va_get (ci := 8) (v := .ref d) (C := RX8) (T := TX8) (N := 4) hx hb hts inX8 hown hK.1 hP 0 rfl rfl 2 (by decide) (hts (.fieldLink RX8 18 "SkimmedSons$Sights" "much" "[I") (by decide +kernel)) (fun _ h9 => h9) rfl dX8_canBe_36 ?_
          refine lv_iload hx hb dX8_canBe_39 (lv_at hl 4 rfl) ?_
          refine z_iald hx hb hK.1 hP 3 rfl (by omega) dX8_canBe_41 ?_
          refine W.eq (g2 := F0 m 42 ls [.int (iI (f3 i)), .int (iI (risenP v (f2 i) x))]) rfl ?_
          refine z_icmp_eq (tgt := 47) hx hb (by omega) dX8_canBe_42 (by decide) (fun c_4 => ?_) (fun c_4 => ?_)
          · skip
            refine z_iinc (k := 4) (lv' := [(4, .int (iI ((↑i) + 1))), (0, .ref o), (1, .int (iI u)), (2, .ref t), (3, .int (iI x))]) hx hb dX8_canBe_47 hl rfl (by decide) rfl (fun ls hl => ?_)
            refine lv_goto (tgt := 3) hx hb dX8_canBe_50 (by decide) ?_
            exact ih3  (i + 1) (by omega) (by unfold canZ; rw [if_neg (by omega)]; exact hcz) (by omega) _ _ _ hP hD hS (lv_sub hl [1, 2, 3, 4, 0] rfl)
          · skip
            refine lv_iconst (v := iI 0) hx hb dX8_canBe_45 (by decide) ?_
            exact z_zret (ty := .boolean) hQ hx hb hr (by rfl) hlocks hS ⟨Nat.le_of_ble_eq_true rfl, Nat.le_of_ble_eq_true rfl⟩ dX8_canBe_46 () (congrArg (fun z => some (Value.int (iI z))) (show (canZ f1 f2 f3 u v x n.toNat : Int) = 0 by exact canZ_no (i := i) (by omega) (by omega) (by omega))) trivial hP hD
  exact L3 ((n - ↑(0 : Nat)).toNat + 1) 0 (by omega) (by rfl) (by omega) _ _ _ hP hD hS (lv_sub hl [1, 2, 3, 4, 0] rfl)
set_option maxHeartbeats 1000000 in
set_option maxRecDepth 100000 in
theorem c_X8_fats (l : Launch) (X : zX) (o : Nat) (a : Nat) (b : Nat) (d : Nat) (n : Int) (f1 : Nat → Int) (f2 : Nat → Int) (f3 : Nat → Int) (u : Int) (t : Nat) (v : Nat → Int) (hs : SigB n f1 f2 f3) (hv : PanB v) (hu : -2147483648 ≤ u ∧ u < 2147483648) : zF l X yX8_fats wsX8_fats 3 86 [.ref o, .int (iI u), .ref t] (zb [Wsig X o a b d n f1 f2 f3, Wpan t v]) (some (.int (iI (fatsZ f1 f2 f3 n u v 16)))) (zb [Wsig X o a b d n f1 f2 f3, Wpan t v]) := by
  refine z_enter (cc := cX8_fats) (maxL := 5) (ret := (some .int)) (by decide) rfl (Nat.le_of_ble_eq_true rfl) ?_
  intro p e s m below meth c A ls Q hQ hE hl hP hD
  obtain ⟨hx, hb, hr, hml, hown, hts, hlocks, hnm, hA, hK⟩ := hE
  have hown : s.vm.findClass RX8 = some m.cls := hown
  have hS : va_S A s.heap s.heap [] := va_S.rf
  have hl : lv_has ls 5 [(0, .ref o), (1, .int (iI u)), (2, .ref t)] := hl
  refine lv_iconst (v := iI 0) hx hb dX8_fats_0 (by decide) ?_
  refine lv_istore_n (lv' := [(3, .int (iI 0)), (0, .ref o), (1, .int (iI u)), (2, .ref t)]) hx hb dX8_fats_1 rfl hl (by decide) rfl (fun ls hl => ?_)
  refine lv_iconst (v := iI 0) hx hb dX8_fats_2 (by decide) ?_
  refine lv_istore (lv' := [(4, .int (iI 0)), (3, .int (iI 0)), (0, .ref o), (1, .int (iI u)), (2, .ref t)]) hx hb dX8_fats_3 hl (by decide) rfl (fun ls hl => ?_)
  have L5 : ∀ (fu : Nat) (i : Nat) (y : Int), (i ≤ 16) → (y = fatsZ f1 f2 f3 n u v i) → (16 - i) < fu → ∀ (H : Heap) (locs : List Loc) (ls : Array Slot), va_P X.1 vwCl (zb [Wsig X o a b d n f1 f2 f3, Wpan t v]) H → va_D A (zb [Wsig X o a b d n f1 f2 f3, Wpan t v]) → va_S A s.heap H locs → lv_has ls 5 [(0, .ref o), (1, .int (iI u)), (2, .ref t), (3, .int (iI y)), (4, .int (iI (↑i)))] → W p l e { frames := 3, cells := 0, slots := 0, locals := 86 } s m ([.ref o, .int (iI u), .ref t] : List Value).toArray below meth c H locs 0 0 Q (F0 m 5 ls []) := by
    intro fu
    induction fu with
    | zero => intro i y hi hy hm; exact absurd hm (Nat.not_lt_zero _)
    | succ fu ih5 =>
      intro i y hi hy hm H locs ls hP hD hS hl
      refine lv_iload hx hb dX8_fats_5 (lv_at hl 4 rfl) ?_
      refine lv_bipush (v := iI 16) hx hb dX8_fats_7 (by decide) ?_
      refine z_icmp_ge (tgt := 36) hx hb (by omega) dX8_fats_9 (by decide) (fun c_1 => ?_) (fun c_1 => ?_)
      · skip
        refine lv_iload_n hx hb dX8_fats_36 rfl (lv_at hl 3 rfl) ?_
        exact z_iret hQ hx hb hr hlocks hS ⟨Nat.le_of_ble_eq_true rfl, Nat.le_of_ble_eq_true rfl⟩ dX8_fats_37 () (congrArg (fun z => some (Value.int (iI z))) (show (fatsZ f1 f2 f3 n u v 16 : Int) = y by rw [hy, show i = 16 by omega])) trivial hP hD
      · skip
        refine lv_aload_n hx hb dX8_fats_12 rfl (lv_at hl 0 rfl) ?_
        refine lv_iload_n hx hb dX8_fats_13 rfl (lv_at hl 1 rfl) ?_
        refine lv_aload_n hx hb dX8_fats_14 rfl (lv_at hl 2 rfl) ?_
        refine lv_iload hx hb dX8_fats_15 (lv_at hl 4 rfl) ?_
        have hPm := zp_perm hP (zblk (show List.Perm ([Wsig X o a b d n f1 f2 f3, Wpan t v] : List va_W) ([Wsig X o a b d n f1 f2 f3, Wpan t v] ++ []) from (zf1 _ 0 _ rfl).trans (((zf1 _ 0 _ rfl).trans ((List.Perm.refl _).cons _)).cons _)))
        have hDm := zd_perm hD (zblk (show List.Perm ([Wsig X o a b d n f1 f2 f3, Wpan t v] : List va_W) ([Wsig X o a b d n f1 f2 f3, Wpan t v] ++ []) from (zf1 _ 0 _ rfl).trans (((zf1 _ 0 _ rfl).trans ((List.Perm.refl _).cons _)).cons _)))
        refine z_callV (wr := zb []) (As := [.int (iI u), .ref t, .int (iI (↑i))]) (rest := []) ⟨hx, hb, hml, hown, hts⟩ (c_X8_canBe l X o a b d n f1 f2 f3 u t v (↑i : Int) (by exact hs) (by exact hv) (by exact hu) (by omega)) (cwV 3 hts gX8_fats_X8_canBe rfl rfl rfl (by decide +kernel) ⟨Nat.le_of_ble_eq_true rfl, Nat.le_of_ble_eq_true rfl⟩) rfl rfl hl.1 dX8_fats_17 rfl rfl (Nat.le_of_ble_eq_true rfl) ⟨Nat.le_of_ble_eq_true rfl, Nat.le_of_ble_eq_true rfl⟩ hS hA hK hPm hDm (fun _ H locs _ hP hD hS => ?_)
        have hP := zp_perm hP ((zblk (show List.Perm ([Wsig X o a b d n f1 f2 f3, Wpan t v] : List va_W) ([Wsig X o a b d n f1 f2 f3, Wpan t v] ++ []) from (zf1 _ 0 _ rfl).trans (((zf1 _ 0 _ rfl).trans ((List.Perm.refl _).cons _)).cons _)))).symm
        have hD := zd_perm hD ((zblk (show List.Perm ([Wsig X o a b d n f1 f2 f3, Wpan t v] : List va_W) ([Wsig X o a b d n f1 f2 f3, Wpan t v] ++ []) from (zf1 _ 0 _ rfl).trans (((zf1 _ 0 _ rfl).trans ((List.Perm.refl _).cons _)).cons _)))).symm
        have hP : va_P X.1 vwCl (zb [Wsig X o a b d n f1 f2 f3, Wpan t v]) H := hP
        have hD : va_D A (zb [Wsig X o a b d n f1 f2 f3, Wpan t v]) := hD
        refine W.eq (g2 := F0 m 20 ls [.int (iI (canZ f1 f2 f3 u v (↑i : Int) n.toNat))]) rfl ?_
        have hc01 := canZ_01 f1 f2 f3 u v ↑i n.toNat
        refine z_if_eq (tgt := 30) hx hb (by omega) dX8_fats_20 (by decide) (fun c_2 => ?_) (fun c_2 => ?_)
        · skip
          refine z_iinc (k := 4) (lv' := [(4, .int (iI ((↑i) + 1))), (0, .ref o), (1, .int (iI u)), (2, .ref t), (3, .int (iI y))]) hx hb dX8_fats_30 hl rfl (by decide) rfl (fun ls hl => ?_)
          refine lv_goto (tgt := 5) hx hb dX8_fats_33 (by decide) ?_
          exact ih5  (i + 1) y (by omega) (by unfold fatsZ; first | (rw [if_pos (by omega)]; omega) | (rw [if_neg (by omega)]; omega)) (by omega) _ _ _ hP hD hS (lv_sub hl [1, 2, 3, 4, 0] rfl)
        · skip
          refine lv_iload_n hx hb dX8_fats_23 rfl (lv_at hl 3 rfl) ?_
          refine lv_iconst (v := iI 1) hx hb dX8_fats_24 (by decide) ?_
          refine lv_iload hx hb dX8_fats_25 (lv_at hl 4 rfl) ?_
          refine z_shl1 (i := i) hx hb (by omega) dX8_fats_27 ?_
          refine z_orp (i := i) hx hb (by rw [hy]; exact fatsZ_in f1 f2 f3 n u v i) dX8_fats_28 ?_
          refine z_topi (fun z_4 ez_4 => ?_)
          refine lv_istore_n (lv' := [(3, .int (iI z_4)), (0, .ref o), (1, .int (iI u)), (2, .ref t), (4, .int (iI (↑i)))]) hx hb dX8_fats_29 rfl hl (by decide) rfl (fun ls hl => ?_)
          refine z_iinc (k := 4) (lv' := [(4, .int (iI ((↑i) + 1))), (3, .int (iI z_4)), (0, .ref o), (1, .int (iI u)), (2, .ref t)]) hx hb dX8_fats_30 hl rfl (by decide) rfl (fun ls hl => ?_)
          refine lv_goto (tgt := 5) hx hb dX8_fats_33 (by decide) ?_
          exact ih5  (i + 1) z_4 (by omega) (by unfold fatsZ; first | (rw [if_pos (by omega)]; omega) | (rw [if_neg (by omega)]; omega)) (by omega) _ _ _ hP hD hS (lv_sub hl [2, 3, 4, 1, 0] rfl)
  exact L5 ((16 - 0) + 1) 0 0 (by omega) (by rfl) (by omega) _ _ _ hP hD hS (lv_sub hl [2, 3, 4, 1, 0] rfl)
