set_option maxHeartbeats 1000000 in
set_option maxRecDepth 100000 in
theorem c_X3_size (l : Launch) (X : zX) (o : Nat) (b : Nat) (n : Int) (x : Int) (y : Int) (t : Int) (f : Nat → Int)  : zF l X yX3_size wsX3_size 0 0 [.ref o] (zb [Wpage X o b n x y t f]) (some (.int (iI n))) (zb [Wpage X o b n x y t f]) := by
  refine z_enter (cc := cX3_size) (maxL := 1) (ret := (some .int)) (by decide) rfl (Nat.le_of_ble_eq_true rfl) ?_
  intro p e s m below meth c A ls Q hQ hE hl hP hD
  obtain ⟨hx, hb, hr, hml, hown, hts, hlocks, hnm, hA, hK⟩ := hE
  have hown : s.vm.findClass RX3 = some m.cls := hown
  have hS : va_S A s.heap s.heap [] := va_S.rf
  have hl : lv_has ls 1 [(0, .ref o)] := hl
  have inX3 : ∀ w ∈ u_ws RX3 TX3 5, w ∈ wsX3_size := by decide +kernel
  refine lv_aload_n hx hb dX3_size_0 rfl (lv_at hl 0 rfl) ?_
  refine va_get (ci := 3) (v := .int (iI n)) (C := RX3) (T := TX3) (N := 5) hx hb hts inX3 hown hK.1 hP 0 rfl rfl 1 (by decide) (hts (.fieldLink RX3 15 "SkimmedSons$Page" "length" "I") (by decide +kernel)) (fun _ h9 => h9) rfl dX3_size_1 ?_
  exact z_iret hQ hx hb hr hlocks hS ⟨Nat.le_of_ble_eq_true rfl, Nat.le_of_ble_eq_true rfl⟩ dX3_size_4 () rfl trivial hP hD
set_option maxHeartbeats 1000000 in
set_option maxRecDepth 100000 in
theorem c_X3_pans (l : Launch) (X : zX) (o : Nat) (b : Nat) (n : Int) (x : Int) (y : Int) (t : Int) (f : Nat → Int)  : zF l X yX3_pans wsX3_pans 0 0 [.ref o] (zb [Wpage X o b n x y t f]) (some (.int (iI y))) (zb [Wpage X o b n x y t f]) := by
  refine z_enter (cc := cX3_pans) (maxL := 1) (ret := (some .int)) (by decide) rfl (Nat.le_of_ble_eq_true rfl) ?_
  intro p e s m below meth c A ls Q hQ hE hl hP hD
  obtain ⟨hx, hb, hr, hml, hown, hts, hlocks, hnm, hA, hK⟩ := hE
  have hown : s.vm.findClass RX3 = some m.cls := hown
  have hS : va_S A s.heap s.heap [] := va_S.rf
  have hl : lv_has ls 1 [(0, .ref o)] := hl
  have inX3 : ∀ w ∈ u_ws RX3 TX3 5, w ∈ wsX3_pans := by decide +kernel
  refine lv_aload_n hx hb dX3_pans_0 rfl (lv_at hl 0 rfl) ?_
  refine va_get (ci := 3) (v := .int (iI y)) (C := RX3) (T := TX3) (N := 5) hx hb hts inX3 hown hK.1 hP 0 rfl rfl 3 (by decide) (hts (.fieldLink RX3 23 "SkimmedSons$Page" "pansRead" "I") (by decide +kernel)) (fun _ h9 => h9) rfl dX3_pans_1 ?_
  exact z_iret hQ hx hb hr hlocks hS ⟨Nat.le_of_ble_eq_true rfl, Nat.le_of_ble_eq_true rfl⟩ dX3_pans_4 () rfl trivial hP hD
set_option maxHeartbeats 1000000 in
set_option maxRecDepth 100000 in
theorem c_X3_children (l : Launch) (X : zX) (o : Nat) (b : Nat) (n : Int) (x : Int) (y : Int) (t : Int) (f : Nat → Int)  : zF l X yX3_children wsX3_children 0 0 [.ref o] (zb [Wpage X o b n x y t f]) (some (.int (iI t))) (zb [Wpage X o b n x y t f]) := by
  refine z_enter (cc := cX3_children) (maxL := 1) (ret := (some .int)) (by decide) rfl (Nat.le_of_ble_eq_true rfl) ?_
  intro p e s m below meth c A ls Q hQ hE hl hP hD
  obtain ⟨hx, hb, hr, hml, hown, hts, hlocks, hnm, hA, hK⟩ := hE
  have hown : s.vm.findClass RX3 = some m.cls := hown
  have hS : va_S A s.heap s.heap [] := va_S.rf
  have hl : lv_has ls 1 [(0, .ref o)] := hl
  have inX3 : ∀ w ∈ u_ws RX3 TX3 5, w ∈ wsX3_children := by decide +kernel
  refine lv_aload_n hx hb dX3_children_0 rfl (lv_at hl 0 rfl) ?_
  refine va_get (ci := 3) (v := .int (iI t)) (C := RX3) (T := TX3) (N := 5) hx hb hts inX3 hown hK.1 hP 0 rfl rfl 4 (by decide) (hts (.fieldLink RX3 26 "SkimmedSons$Page" "childrenRead" "I") (by decide +kernel)) (fun _ h9 => h9) rfl dX3_children_1 ?_
  exact z_iret hQ hx hb hr hlocks hS ⟨Nat.le_of_ble_eq_true rfl, Nat.le_of_ble_eq_true rfl⟩ dX3_children_4 () rfl trivial hP hD
set_option maxHeartbeats 1000000 in
set_option maxRecDepth 100000 in
theorem c_X3_startOfPan (l : Launch) (X : zX) (o : Nat) (b : Nat) (n : Int) (x : Int) (y : Int) (t : Int) (f : Nat → Int) (z : Int)  : zF l X yX3_startOfPan wsX3_startOfPan 0 0 [.ref o, .int (iI z)] (zb [Wpage X o b n x y t f]) (some (.int (iI (4 * z)))) (zb [Wpage X o b n x y t f]) := by
  refine z_enter (cc := cX3_startOfPan) (maxL := 2) (ret := (some .int)) (by decide) rfl (Nat.le_of_ble_eq_true rfl) ?_
  intro p e s m below meth c A ls Q hQ hE hl hP hD
  obtain ⟨hx, hb, hr, hml, hown, hts, hlocks, hnm, hA, hK⟩ := hE
  have hown : s.vm.findClass RX3 = some m.cls := hown
  have hS : va_S A s.heap s.heap [] := va_S.rf
  have hl : lv_has ls 2 [(0, .ref o), (1, .int (iI z))] := hl
  refine lv_iconst (v := iI 4) hx hb dX3_startOfPan_0 (by decide) ?_
  refine lv_iload_n hx hb dX3_startOfPan_1 rfl (lv_at hl 1 rfl) ?_
  refine z_imul hx hb dX3_startOfPan_2 ?_
  exact z_iret hQ hx hb hr hlocks hS ⟨Nat.le_of_ble_eq_true rfl, Nat.le_of_ble_eq_true rfl⟩ dX3_startOfPan_3 () rfl trivial hP hD
set_option maxHeartbeats 1000000 in
set_option maxRecDepth 100000 in
theorem c_X3_startOfChild (l : Launch) (X : zX) (o : Nat) (b : Nat) (n : Int) (x : Int) (y : Int) (t : Int) (f : Nat → Int) (z : Int)  : zF l X yX3_startOfChild wsX3_startOfChild 0 0 [.ref o, .int (iI z)] (zb [Wpage X o b n x y t f]) (some (.int (iI (4 * y + 2 * z)))) (zb [Wpage X o b n x y t f]) := by
  refine z_enter (cc := cX3_startOfChild) (maxL := 2) (ret := (some .int)) (by decide) rfl (Nat.le_of_ble_eq_true rfl) ?_
  intro p e s m below meth c A ls Q hQ hE hl hP hD
  obtain ⟨hx, hb, hr, hml, hown, hts, hlocks, hnm, hA, hK⟩ := hE
  have hown : s.vm.findClass RX3 = some m.cls := hown
  have hS : va_S A s.heap s.heap [] := va_S.rf
  have hl : lv_has ls 2 [(0, .ref o), (1, .int (iI z))] := hl
  have inX3 : ∀ w ∈ u_ws RX3 TX3 5, w ∈ wsX3_startOfChild := by decide +kernel
  refine lv_iconst (v := iI 4) hx hb dX3_startOfChild_0 (by decide) ?_
  refine lv_aload_n hx hb dX3_startOfChild_1 rfl (lv_at hl 0 rfl) ?_
  refine va_get (ci := 3) (v := .int (iI y)) (C := RX3) (T := TX3) (N := 5) hx hb hts inX3 hown hK.1 hP 0 rfl rfl 3 (by decide) (hts (.fieldLink RX3 23 "SkimmedSons$Page" "pansRead" "I") (by decide +kernel)) (fun _ h9 => h9) rfl dX3_startOfChild_2 ?_
  refine z_imul hx hb dX3_startOfChild_5 ?_
  refine lv_iconst (v := iI 2) hx hb dX3_startOfChild_6 (by decide) ?_
  refine lv_iload_n hx hb dX3_startOfChild_7 rfl (lv_at hl 1 rfl) ?_
  refine z_imul hx hb dX3_startOfChild_8 ?_
  refine z_iadd hx hb dX3_startOfChild_9 ?_
  exact z_iret hQ hx hb hr hlocks hS ⟨Nat.le_of_ble_eq_true rfl, Nat.le_of_ble_eq_true rfl⟩ dX3_startOfChild_10 () (congrArg (fun z => some (Value.int (iI z))) (show (4 * y + 2 * z : Int) = (4 * y) + (2 * z) by omega)) trivial hP hD
set_option maxHeartbeats 1000000 in
set_option maxRecDepth 100000 in
theorem c_X3_isFull (l : Launch) (X : zX) (o : Nat) (b : Nat) (n : Int) (x : Int) (y : Int) (t : Int) (f : Nat → Int) (hn : 0 ≤ n ∧ n ≤ 24) : zF l X yX3_isFull wsX3_isFull 0 0 [.ref o] (zb [Wpage X o b n x y t f]) (some (.int (iI (if 24 ≤ n then 1 else 0)))) (zb [Wpage X o b n x y t f]) := by
  refine z_enter (cc := cX3_isFull) (maxL := 1) (ret := (some .boolean)) (by decide) rfl (Nat.le_of_ble_eq_true rfl) ?_
  intro p e s m below meth c A ls Q hQ hE hl hP hD
  obtain ⟨hx, hb, hr, hml, hown, hts, hlocks, hnm, hA, hK⟩ := hE
  have hown : s.vm.findClass RX3 = some m.cls := hown
  have hS : va_S A s.heap s.heap [] := va_S.rf
  have hl : lv_has ls 1 [(0, .ref o)] := hl
  have inX3 : ∀ w ∈ u_ws RX3 TX3 5, w ∈ wsX3_isFull := by decide +kernel
  refine lv_aload_n hx hb dX3_isFull_0 rfl (lv_at hl 0 rfl) ?_
  refine va_get (ci := 3) (v := .int (iI n)) (C := RX3) (T := TX3) (N := 5) hx hb hts inX3 hown hK.1 hP 0 rfl rfl 1 (by decide) (hts (.fieldLink RX3 15 "SkimmedSons$Page" "length" "I") (by decide +kernel)) (fun _ h9 => h9) rfl dX3_isFull_1 ?_
  refine lv_aload_n hx hb dX3_isFull_4 rfl (lv_at hl 0 rfl) ?_
  refine va_get (ci := 3) (v := .ref b) (C := RX3) (T := TX3) (N := 5) hx hb hts inX3 hown hK.1 hP 0 rfl rfl 0 (by decide) (hts (.fieldLink RX3 9 "SkimmedSons$Page" "letters" "[C") (by decide +kernel)) (fun _ h9 => h9) rfl dX3_isFull_5 ?_
  refine z_alen (a := 24) hx hb hK.1 hP 1 1 rfl rfl rfl dX3_isFull_8 ?_
  refine z_icmp_lt (tgt := 16) hx hb (by omega) dX3_isFull_9 (by decide) (fun c_1 => ?_) (fun c_1 => ?_)
  · skip
    refine lv_iconst (v := iI 0) hx hb dX3_isFull_16 (by decide) ?_
    exact z_zret (ty := .boolean) hQ hx hb hr (by rfl) hlocks hS ⟨Nat.le_of_ble_eq_true rfl, Nat.le_of_ble_eq_true rfl⟩ dX3_isFull_17 () (congrArg (fun z => some (Value.int (iI z))) (show (if 24 ≤ n then 1 else 0 : Int) = 0 by omega)) trivial hP hD
  · skip
    refine lv_iconst (v := iI 1) hx hb dX3_isFull_12 (by decide) ?_
    refine lv_goto (tgt := 17) hx hb dX3_isFull_13 (by decide) ?_
    exact z_zret (ty := .boolean) hQ hx hb hr (by rfl) hlocks hS ⟨Nat.le_of_ble_eq_true rfl, Nat.le_of_ble_eq_true rfl⟩ dX3_isFull_17 () (congrArg (fun z => some (Value.int (iI z))) (show (if 24 ≤ n then 1 else 0 : Int) = 1 by omega)) trivial hP hD
set_option maxHeartbeats 1000000 in
set_option maxRecDepth 100000 in
theorem c_X3_add (l : Launch) (X : zX) (o : Nat) (b : Nat) (n : Int) (x : Int) (y : Int) (t : Int) (f : Nat → Int) (z : Int) (hn : 0 ≤ n ∧ n < 24) (hz : 0 ≤ z ∧ z ≤ 126) : zF l X yX3_add wsX3_add 1 20 [.ref o, .int (iI z)] (zb [Wpage X o b n x y t f]) none (zb [Wpage X o b (n + 1) x y t (updZ f n.toNat z)]) := by
  refine z_enter (cc := cX3_add) (maxL := 2) (ret := none) (by decide) rfl (Nat.le_of_ble_eq_true rfl) ?_
  intro p e s m below meth c A ls Q hQ hE hl hP hD
  obtain ⟨hx, hb, hr, hml, hown, hts, hlocks, hnm, hA, hK⟩ := hE
  have hown : s.vm.findClass RX3 = some m.cls := hown
  have hS : va_S A s.heap s.heap [] := va_S.rf
  have hl : lv_has ls 2 [(0, .ref o), (1, .int (iI z))] := hl
  have inX3 : ∀ w ∈ u_ws RX3 TX3 5, w ∈ wsX3_add := by decide +kernel
  refine lv_aload_n hx hb dX3_add_0 rfl (lv_at hl 0 rfl) ?_
  have hPm := zp_perm hP (zblk (show List.Perm ([Wpage X o b n x y t f] : List va_W) ([Wpage X o b n x y t f] ++ []) from (zf1 _ 0 _ rfl).trans ((List.Perm.refl _).cons _)))
  have hDm := zd_perm hD (zblk (show List.Perm ([Wpage X o b n x y t f] : List va_W) ([Wpage X o b n x y t f] ++ []) from (zf1 _ 0 _ rfl).trans ((List.Perm.refl _).cons _)))
  refine z_callV (wr := zb []) (As := []) (rest := []) ⟨hx, hb, hml, hown, hts⟩ (c_X3_isFull l X o b n x y t f (by omega)) (cwV 0 hts gX3_add_X3_isFull rfl rfl rfl (by decide +kernel) ⟨Nat.le_of_ble_eq_true rfl, Nat.le_of_ble_eq_true rfl⟩) rfl rfl hl.1 dX3_add_1 rfl rfl (Nat.le_of_ble_eq_true rfl) ⟨Nat.le_of_ble_eq_true rfl, Nat.le_of_ble_eq_true rfl⟩ hS hA hK hPm hDm (fun _ H locs _ hP hD hS => ?_)
  have hP := zp_perm hP ((zblk (show List.Perm ([Wpage X o b n x y t f] : List va_W) ([Wpage X o b n x y t f] ++ []) from (zf1 _ 0 _ rfl).trans ((List.Perm.refl _).cons _)))).symm
  have hD := zd_perm hD ((zblk (show List.Perm ([Wpage X o b n x y t f] : List va_W) ([Wpage X o b n x y t f] ++ []) from (zf1 _ 0 _ rfl).trans ((List.Perm.refl _).cons _)))).symm
  have hP : va_P X.1 vwCl (zb [Wpage X o b n x y t f]) H := hP
  have hD : va_D A (zb [Wpage X o b n x y t f]) := hD
  refine W.eq (g2 := F0 m 4 ls [.int (iI (if 24 ≤ n then 1 else 0))]) rfl ?_
  refine z_if_ne (tgt := 27) hx hb (by omega) dX3_add_4 (by decide) (fun c_1 => ?_) (fun c_1 => ?_)
  · skip
    exact absurd c_1 (by omega)
  · skip
    refine lv_aload_n hx hb dX3_add_7 rfl (lv_at hl 0 rfl) ?_
    refine va_get (ci := 3) (v := .ref b) (C := RX3) (T := TX3) (N := 5) hx hb hts inX3 hown hK.1 hP 0 rfl rfl 0 (by decide) (hts (.fieldLink RX3 9 "SkimmedSons$Page" "letters" "[C") (by decide +kernel)) (fun _ h9 => h9) rfl dX3_add_8 ?_
    refine lv_aload_n hx hb dX3_add_11 rfl (lv_at hl 0 rfl) ?_
    refine va_get (ci := 3) (v := .int (iI n)) (C := RX3) (T := TX3) (N := 5) hx hb hts inX3 hown hK.1 hP 0 rfl rfl 1 (by decide) (hts (.fieldLink RX3 15 "SkimmedSons$Page" "length" "I") (by decide +kernel)) (fun _ h9 => h9) rfl dX3_add_12 ?_
    refine lv_iload_n hx hb dX3_add_15 rfl (lv_at hl 1 rfl) ?_
    refine z_cast hx hb hK.1 hP hD hS 1 rfl (by omega) (by omega) dX3_add_16 (fun H locs hP hD hS => ?_)
    have hP : va_P X.1 vwCl (zb [Wpage X o b n x y t (updZ f n.toNat z)]) H := hP
    have hD : va_D A (zb [Wpage X o b n x y t (updZ f n.toNat z)]) := hD
    refine lv_aload_n hx hb dX3_add_17 rfl (lv_at hl 0 rfl) ?_
    refine lv_dup hx hb dX3_add_18 rfl ?_
    refine va_get (ci := 3) (v := .int (iI n)) (C := RX3) (T := TX3) (N := 5) hx hb hts inX3 hown hK.1 hP 0 rfl rfl 1 (by decide) (hts (.fieldLink RX3 15 "SkimmedSons$Page" "length" "I") (by decide +kernel)) (fun _ h9 => h9) rfl dX3_add_19 ?_
    refine lv_iconst (v := iI 1) hx hb dX3_add_22 (by decide) ?_
    refine z_iadd hx hb dX3_add_23 ?_
    refine z_topi (fun z_2 ez_2 => ?_)
    refine va_put (ci := 3) (v := .int (iI z_2)) (ty := .int) (C := RX3) (T := TX3) (N := 5) hx hb hts inX3 tyX3 tyX3_ok nmX3 hown hK.1 hP hD hS 0 rfl rfl 1 (by decide) (hts (.fieldLink RX3 15 "SkimmedSons$Page" "length" "I") (by decide +kernel)) (fun _ h9 => h9) rfl (by decide +kernel) rfl rfl (Nat.le_of_ble_eq_true rfl) dX3_add_24 (fun H locs hP hD hS => ?_)
    have hP : va_P X.1 vwCl (zb [Wpage X o b z_2 x y t (updZ f n.toNat z)]) H := hP
    have hD : va_D A (zb [Wpage X o b z_2 x y t (updZ f n.toNat z)]) := hD
    have hw : zb [Wpage X o b z_2 x y t (updZ f n.toNat z)] = zb [Wpage X o b (n + 1) x y t (updZ f n.toNat z)] := by subst_vars; rfl
    rw [hw] at hP hD
    exact z_vret hQ hx hb hr hlocks hS ⟨Nat.le_of_ble_eq_true rfl, Nat.le_of_ble_eq_true rfl⟩ dX3_add_27 () rfl trivial hP hD
set_option maxHeartbeats 1000000 in
set_option maxRecDepth 100000 in
theorem c_X3_clear (l : Launch) (X : zX) (o : Nat) (b : Nat) (n : Int) (x : Int) (y : Int) (t : Int) (f : Nat → Int)  : zF l X yX3_clear wsX3_clear 0 0 [.ref o] (zb [Wpage X o b n x y t f]) (some (.int (iI n))) (zb [Wpage X o b 0 x y t f]) := by
  refine z_enter (cc := cX3_clear) (maxL := 2) (ret := (some .int)) (by decide) rfl (Nat.le_of_ble_eq_true rfl) ?_
  intro p e s m below meth c A ls Q hQ hE hl hP hD
  obtain ⟨hx, hb, hr, hml, hown, hts, hlocks, hnm, hA, hK⟩ := hE
  have hown : s.vm.findClass RX3 = some m.cls := hown
  have hS : va_S A s.heap s.heap [] := va_S.rf
  have hl : lv_has ls 2 [(0, .ref o)] := hl
  have inX3 : ∀ w ∈ u_ws RX3 TX3 5, w ∈ wsX3_clear := by decide +kernel
  refine lv_aload_n hx hb dX3_clear_0 rfl (lv_at hl 0 rfl) ?_
  refine va_get (ci := 3) (v := .int (iI n)) (C := RX3) (T := TX3) (N := 5) hx hb hts inX3 hown hK.1 hP 0 rfl rfl 1 (by decide) (hts (.fieldLink RX3 15 "SkimmedSons$Page" "length" "I") (by decide +kernel)) (fun _ h9 => h9) rfl dX3_clear_1 ?_
  refine lv_istore_n (lv' := [(1, .int (iI n)), (0, .ref o)]) hx hb dX3_clear_4 rfl hl (by decide) rfl (fun ls hl => ?_)
  refine lv_aload_n hx hb dX3_clear_5 rfl (lv_at hl 1 rfl) ?_
  refine lv_iconst (v := iI 0) hx hb dX3_clear_6 (by decide) ?_
  refine va_put (ci := 3) (v := .int (iI 0)) (ty := .int) (C := RX3) (T := TX3) (N := 5) hx hb hts inX3 tyX3 tyX3_ok nmX3 hown hK.1 hP hD hS 0 rfl rfl 1 (by decide) (hts (.fieldLink RX3 15 "SkimmedSons$Page" "length" "I") (by decide +kernel)) (fun _ h9 => h9) rfl (by decide +kernel) rfl rfl (Nat.le_of_ble_eq_true rfl) dX3_clear_7 (fun H locs hP hD hS => ?_)
  have hP : va_P X.1 vwCl (zb [Wpage X o b 0 x y t f]) H := hP
  have hD : va_D A (zb [Wpage X o b 0 x y t f]) := hD
  refine lv_iload_n hx hb dX3_clear_10 rfl (lv_at hl 0 rfl) ?_
  exact z_iret hQ hx hb hr hlocks hS ⟨Nat.le_of_ble_eq_true rfl, Nat.le_of_ble_eq_true rfl⟩ dX3_clear_11 () rfl trivial hP hD
set_option maxHeartbeats 1000000 in
set_option maxRecDepth 100000 in
theorem c_X3_at (l : Launch) (X : zX) (o : Nat) (b : Nat) (n : Int) (x : Int) (y : Int) (t : Int) (f : Nat → Int) (z : Int) (hs : PageB n f) (hz : -2147483648 ≤ z ∧ z < 2147483648) : zF l X yX3_at wsX3_at 0 0 [.ref o, .int (iI z)] (zb [Wpage X o b n x y t f]) (some (.int (iI (atZ f n z)))) (zb [Wpage X o b n x y t f]) := by
  refine z_enter (cc := cX3_at) (maxL := 2) (ret := (some .char)) (by decide) rfl (Nat.le_of_ble_eq_true rfl) ?_
  intro p e s m below meth c A ls Q hQ hE hl hP hD
  obtain ⟨hx, hb, hr, hml, hown, hts, hlocks, hnm, hA, hK⟩ := hE
  have hown : s.vm.findClass RX3 = some m.cls := hown
  have hS : va_S A s.heap s.heap [] := va_S.rf
  have hl : lv_has ls 2 [(0, .ref o), (1, .int (iI z))] := hl
  have inX3 : ∀ w ∈ u_ws RX3 TX3 5, w ∈ wsX3_at := by decide +kernel
  obtain ⟨hn, hf⟩ := id hs
  refine lv_iload_n hx hb dX3_at_0 rfl (lv_at hl 1 rfl) ?_
  refine z_if_lt (tgt := 30) hx hb (by omega) dX3_at_1 (by decide) (fun c_1 => ?_) (fun c_1 => ?_)
  · skip
    refine lv_iconst (v := iI 0) hx hb dX3_at_30 (by decide) ?_
    exact z_zret (ty := .char) hQ hx hb hr (by exact zcharN (by first | (have := hf z.toNat; omega) | omega)) hlocks hS ⟨Nat.le_of_ble_eq_true rfl, Nat.le_of_ble_eq_true rfl⟩ dX3_at_31 () (congrArg (fun z => some (Value.int (iI z))) (show (atZ f n z : Int) = 0 by unfold atZ; first | rw [if_pos (by omega)] | rw [if_neg (by omega)])) trivial hP hD
  · skip
    refine lv_iload_n hx hb dX3_at_4 rfl (lv_at hl 1 rfl) ?_
    refine lv_aload_n hx hb dX3_at_5 rfl (lv_at hl 0 rfl) ?_
    refine va_get (ci := 3) (v := .int (iI n)) (C := RX3) (T := TX3) (N := 5) hx hb hts inX3 hown hK.1 hP 0 rfl rfl 1 (by decide) (hts (.fieldLink RX3 15 "SkimmedSons$Page" "length" "I") (by decide +kernel)) (fun _ h9 => h9) rfl dX3_at_6 ?_
    refine z_icmp_ge (tgt := 30) hx hb (by omega) dX3_at_9 (by decide) (fun c_2 => ?_) (fun c_2 => ?_)
    · skip
      refine lv_iconst (v := iI 0) hx hb dX3_at_30 (by decide) ?_
      exact z_zret (ty := .char) hQ hx hb hr (by exact zcharN (by first | (have := hf z.toNat; omega) | omega)) hlocks hS ⟨Nat.le_of_ble_eq_true rfl, Nat.le_of_ble_eq_true rfl⟩ dX3_at_31 () (congrArg (fun z => some (Value.int (iI z))) (show (atZ f n z : Int) = 0 by unfold atZ; first | rw [if_pos (by omega)] | rw [if_neg (by omega)])) trivial hP hD
    · skip
      refine lv_iload_n hx hb dX3_at_12 rfl (lv_at hl 1 rfl) ?_
      refine lv_aload_n hx hb dX3_at_13 rfl (lv_at hl 0 rfl) ?_
      refine va_get (ci := 3) (v := .ref b) (C := RX3) (T := TX3) (N := 5) hx hb hts inX3 hown hK.1 hP 0 rfl rfl 0 (by decide) (hts (.fieldLink RX3 9 "SkimmedSons$Page" "letters" "[C") (by decide +kernel)) (fun _ h9 => h9) rfl dX3_at_14 ?_
      refine z_alen (a := 24) hx hb hK.1 hP 1 1 rfl rfl rfl dX3_at_17 ?_
      refine z_icmp_ge (tgt := 30) hx hb (by omega) dX3_at_18 (by decide) (fun c_3 => ?_) (fun c_3 => ?_)
      · skip
        exact absurd c_3 (by omega)
      · skip
        refine lv_aload_n hx hb dX3_at_21 rfl (lv_at hl 0 rfl) ?_
        refine va_get (ci := 3) (v := .ref b) (C := RX3) (T := TX3) (N := 5) hx hb hts inX3 hown hK.1 hP 0 rfl rfl 0 (by decide) (hts (.fieldLink RX3 9 "SkimmedSons$Page" "letters" "[C") (by decide +kernel)) (fun _ h9 => h9) rfl dX3_at_22 ?_
        refine lv_iload_n hx hb dX3_at_25 rfl (lv_at hl 1 rfl) ?_
        refine z_cald hx hb hK.1 hP 1 rfl (by omega) dX3_at_26 ?_
        refine W.eq (g2 := F0 m 27 ls [.int (iI (f z.toNat))]) rfl ?_
        refine lv_goto (tgt := 31) hx hb dX3_at_27 (by decide) ?_
        exact z_zret (ty := .char) hQ hx hb hr (by exact zcharN (by first | (have := hf z.toNat; omega) | omega)) hlocks hS ⟨Nat.le_of_ble_eq_true rfl, Nat.le_of_ble_eq_true rfl⟩ dX3_at_31 () (congrArg (fun z => some (Value.int (iI z))) (show (atZ f n z : Int) = f z.toNat by unfold atZ; first | rw [if_pos (by omega)] | rw [if_neg (by omega)])) trivial hP hD
set_option maxHeartbeats 1000000 in
set_option maxRecDepth 100000 in
theorem c_X3_isDigit (l : Launch) (X : zX) (z : Int) (hz : 0 ≤ z ∧ z ≤ 126) : zF l X yX3_isDigit wsX3_isDigit 0 0 [.int (iI z)] (zb []) (some (.int (iI (if 48 ≤ z ∧ z ≤ 57 then 1 else 0)))) (zb []) := by
  refine z_enter (cc := cX3_isDigit) (maxL := 1) (ret := (some .boolean)) (by decide) rfl (Nat.le_of_ble_eq_true rfl) ?_
  intro p e s m below meth c A ls Q hQ hE hl hP hD
  obtain ⟨hx, hb, hr, hml, hown, hts, hlocks, hnm, hA, hK⟩ := hE
  have hown : s.vm.findClass RX3 = some m.cls := hown
  have hS : va_S A s.heap s.heap [] := va_S.rf
  have hl : lv_has ls 1 [(0, .int (iI z))] := hl
  refine lv_iload_n hx hb dX3_isDigit_0 rfl (lv_at hl 0 rfl) ?_
  refine lv_bipush (v := iI 48) hx hb dX3_isDigit_1 (by decide) ?_
  refine z_icmp_lt (tgt := 16) hx hb (by omega) dX3_isDigit_3 (by decide) (fun c_1 => ?_) (fun c_1 => ?_)
  · skip
    refine lv_iconst (v := iI 0) hx hb dX3_isDigit_16 (by decide) ?_
    exact z_zret (ty := .boolean) hQ hx hb hr (by rfl) hlocks hS ⟨Nat.le_of_ble_eq_true rfl, Nat.le_of_ble_eq_true rfl⟩ dX3_isDigit_17 () (congrArg (fun z => some (Value.int (iI z))) (show (if 48 ≤ z ∧ z ≤ 57 then 1 else 0 : Int) = 0 by omega)) trivial hP hD
  · skip
    refine lv_iload_n hx hb dX3_isDigit_6 rfl (lv_at hl 0 rfl) ?_
    refine lv_bipush (v := iI 57) hx hb dX3_isDigit_7 (by decide) ?_
    refine z_icmp_gt (tgt := 16) hx hb (by omega) dX3_isDigit_9 (by decide) (fun c_2 => ?_) (fun c_2 => ?_)
    · skip
      refine lv_iconst (v := iI 0) hx hb dX3_isDigit_16 (by decide) ?_
      exact z_zret (ty := .boolean) hQ hx hb hr (by rfl) hlocks hS ⟨Nat.le_of_ble_eq_true rfl, Nat.le_of_ble_eq_true rfl⟩ dX3_isDigit_17 () (congrArg (fun z => some (Value.int (iI z))) (show (if 48 ≤ z ∧ z ≤ 57 then 1 else 0 : Int) = 0 by omega)) trivial hP hD
    · skip
      refine lv_iconst (v := iI 1) hx hb dX3_isDigit_12 (by decide) ?_
      refine lv_goto (tgt := 17) hx hb dX3_isDigit_13 (by decide) ?_
      exact z_zret (ty := .boolean) hQ hx hb hr (by rfl) hlocks hS ⟨Nat.le_of_ble_eq_true rfl, Nat.le_of_ble_eq_true rfl⟩ dX3_isDigit_17 () (congrArg (fun z => some (Value.int (iI z))) (show (if 48 ≤ z ∧ z ≤ 57 then 1 else 0 : Int) = 1 by omega)) trivial hP hD
set_option maxHeartbeats 1000000 in
set_option maxRecDepth 100000 in
theorem c_X3_expectedBehind (l : Launch) (X : zX) (o : Nat) (b : Nat) (n : Int) (x : Int) (y : Int) (t : Int) (f : Nat → Int) (z : Int) (hz : 0 ≤ z ∧ z ≤ 126) (hx0 : 0 ≤ x ∧ x ≤ 5) (hy0 : 0 ≤ y ∧ y ≤ 100) (ht0 : 0 ≤ t ∧ t ≤ 100) : zF l X yX3_expectedBehind wsX3_expectedBehind 4 106 [.ref o, .int (iI z)] (zb [Wpage X o b n x y t f]) (some (.int (iI (exB x y t z)))) (zb [Wpage X o b n x y t f]) := by
  refine z_enter (cc := cX3_expectedBehind) (maxL := 2) (ret := (some .int)) (by decide) rfl (Nat.le_of_ble_eq_true rfl) ?_
  intro p e s m below meth c A ls Q hQ hE hl hP hD
  obtain ⟨hx, hb, hr, hml, hown, hts, hlocks, hnm, hA, hK⟩ := hE
  have hown : s.vm.findClass RX3 = some m.cls := hown
  have hS : va_S A s.heap s.heap [] := va_S.rf
  have hl : lv_has ls 2 [(0, .ref o), (1, .int (iI z))] := hl
  have inX3 : ∀ w ∈ u_ws RX3 TX3 5, w ∈ wsX3_expectedBehind := by decide +kernel
  have hi0 := idx0_in z
  have hi1 := idx1_in z
  refine lv_aload_n hx hb dX3_expectedBehind_0 rfl (lv_at hl 0 rfl) ?_
  refine va_get (ci := 3) (v := .int (iI x)) (C := RX3) (T := TX3) (N := 5) hx hb hts inX3 hown hK.1 hP 0 rfl rfl 2 (by decide) (hts (.fieldLink RX3 33 "SkimmedSons$Page" "expected" "I") (by decide +kernel)) (fun _ h9 => h9) rfl dX3_expectedBehind_1 ?_
  rcases (show (x < 0 ∨ 4 < x) ∨ x = 0 ∨ x = 1 ∨ x = 2 ∨ x = 3 ∨ x = 4 by omega) with c_1 | c_1 | c_1 | c_1 | c_1 | c_1
  · skip
    refine z_tabOut (tgt := 124) hx hb (by omega) dX3_expectedBehind_4 c_1 (by decide) ?_
    refine lv_iload_n hx hb dX3_expectedBehind_124 rfl (lv_at hl 1 rfl) ?_
    refine lv_bipush (v := iI 44) hx hb dX3_expectedBehind_125 (by decide) ?_
    refine z_icmp_ne (tgt := 142) hx hb (by omega) dX3_expectedBehind_127 (by decide) (fun c_2 => ?_) (fun c_2 => ?_)
    · skip
      refine lv_iconst (v := iI (-1)) hx hb dX3_expectedBehind_142 (by decide) ?_
      exact z_iret hQ hx hb hr hlocks hS ⟨Nat.le_of_ble_eq_true rfl, Nat.le_of_ble_eq_true rfl⟩ dX3_expectedBehind_143 () (congrArg (fun z => some (Value.int (iI z))) (show (exB x y t z : Int) = (-1) by unfold exB; omega)) trivial hP hD
    · skip
      refine lv_aload_n hx hb dX3_expectedBehind_130 rfl (lv_at hl 0 rfl) ?_
      refine va_get (ci := 3) (v := .int (iI t)) (C := RX3) (T := TX3) (N := 5) hx hb hts inX3 hown hK.1 hP 0 rfl rfl 4 (by decide) (hts (.fieldLink RX3 26 "SkimmedSons$Page" "childrenRead" "I") (by decide +kernel)) (fun _ h9 => h9) rfl dX3_expectedBehind_131 ?_
      refine lv_iconst (v := iI 5) hx hb dX3_expectedBehind_134 (by decide) ?_
      refine z_icmp_ge (tgt := 142) hx hb (by omega) dX3_expectedBehind_135 (by decide) (fun c_3 => ?_) (fun c_3 => ?_)
      · skip
        refine lv_iconst (v := iI (-1)) hx hb dX3_expectedBehind_142 (by decide) ?_
        exact z_iret hQ hx hb hr hlocks hS ⟨Nat.le_of_ble_eq_true rfl, Nat.le_of_ble_eq_true rfl⟩ dX3_expectedBehind_143 () (congrArg (fun z => some (Value.int (iI z))) (show (exB x y t z : Int) = (-1) by unfold exB; omega)) trivial hP hD
      · skip
        refine lv_iconst (v := iI 4) hx hb dX3_expectedBehind_138 (by decide) ?_
        refine lv_goto (tgt := 143) hx hb dX3_expectedBehind_139 (by decide) ?_
        exact z_iret hQ hx hb hr hlocks hS ⟨Nat.le_of_ble_eq_true rfl, Nat.le_of_ble_eq_true rfl⟩ dX3_expectedBehind_143 () (congrArg (fun z => some (Value.int (iI z))) (show (exB x y t z : Int) = 4 by unfold exB; omega)) trivial hP hD
  · skip
    refine z_tabIn (tgt := 40) (off := 36) hx hb (by omega) dX3_expectedBehind_4 c_1 (by decide) rfl (by decide) ?_
    refine va_ldcS hx hb hown hK.2.2.2.1.1 dX3_expectedBehind_40 ?_
    refine lv_iload_n hx hb dX3_expectedBehind_42 rfl (lv_at hl 1 rfl) ?_
    have hPm := zp_perm hP (zblk (show List.Perm ([Wpage X o b n x y t f] : List va_W) ([] ++ [Wpage X o b n x y t f]) from List.Perm.refl _))
    have hDm := zd_perm hD (zblk (show List.Perm ([Wpage X o b n x y t f] : List va_W) ([] ++ [Wpage X o b n x y t f]) from List.Perm.refl _))
    refine z_callVR (wr := zb [Wpage X o b n x y t f]) (As := [.int (iI z)]) (rest := []) ⟨hx, hb, hml, hown, hts⟩ (c_J0_indexOf_0f7a4_0 l X z (by omega)) (cwV 1 hts gX3_expectedBehind_J0_indexOf_0f7a4 rfl rfl rfl (by decide +kernel) ⟨Nat.le_of_ble_eq_true rfl, Nat.le_of_ble_eq_true rfl⟩) (vk_recv hK.2.1 (i := 0) (by decide) hS) hl.1 dX3_expectedBehind_43 rfl rfl (Nat.le_of_ble_eq_true rfl) ⟨Nat.le_of_ble_eq_true rfl, Nat.le_of_ble_eq_true rfl⟩ hS hA hK hPm hDm (fun _ H locs _ hP hD hS => ?_)
    have hP := zp_perm hP ((zblk (show List.Perm ([Wpage X o b n x y t f] : List va_W) ([] ++ [Wpage X o b n x y t f]) from List.Perm.refl _))).symm
    have hD := zd_perm hD ((zblk (show List.Perm ([Wpage X o b n x y t f] : List va_W) ([] ++ [Wpage X o b n x y t f]) from List.Perm.refl _))).symm
    have hP : va_P X.1 vwCl (zb [Wpage X o b n x y t f]) H := hP
    have hD : va_D A (zb [Wpage X o b n x y t f]) := hD
    refine W.eq (g2 := F0 m 46 ls [.int (iI (idx0 z))]) rfl ?_
    refine z_if_lt (tgt := 53) hx hb (by omega) dX3_expectedBehind_46 (by decide) (fun c_4 => ?_) (fun c_4 => ?_)
    · skip
      refine lv_iconst (v := iI (-1)) hx hb dX3_expectedBehind_53 (by decide) ?_
      exact z_iret hQ hx hb hr hlocks hS ⟨Nat.le_of_ble_eq_true rfl, Nat.le_of_ble_eq_true rfl⟩ dX3_expectedBehind_54 () (congrArg (fun z => some (Value.int (iI z))) (show (exB x y t z : Int) = (-1) by unfold exB; omega)) trivial hP hD
    · skip
      refine lv_iconst (v := iI 1) hx hb dX3_expectedBehind_49 (by decide) ?_
      refine lv_goto (tgt := 54) hx hb dX3_expectedBehind_50 (by decide) ?_
      exact z_iret hQ hx hb hr hlocks hS ⟨Nat.le_of_ble_eq_true rfl, Nat.le_of_ble_eq_true rfl⟩ dX3_expectedBehind_54 () (congrArg (fun z => some (Value.int (iI z))) (show (exB x y t z : Int) = 1 by unfold exB; omega)) trivial hP hD
  · skip
    refine z_tabIn (tgt := 55) (off := 51) hx hb (by omega) dX3_expectedBehind_4 c_1 (by decide) rfl (by decide) ?_
    refine lv_iload_n hx hb dX3_expectedBehind_55 rfl (lv_at hl 1 rfl) ?_
    have hPm := zp_perm hP (zblk (show List.Perm ([Wpage X o b n x y t f] : List va_W) ([] ++ [Wpage X o b n x y t f]) from List.Perm.refl _))
    have hDm := zd_perm hD (zblk (show List.Perm ([Wpage X o b n x y t f] : List va_W) ([] ++ [Wpage X o b n x y t f]) from List.Perm.refl _))
    refine z_callS (wr := zb [Wpage X o b n x y t f]) (As := [.int (iI z)]) (rest := []) ⟨hx, hb, hml, hown, hts⟩ (c_X3_isDigit l X z (by omega)) (va_cwS 1 hts gX3_expectedBehind_X3_isDigit rfl rfl rfl (by decide +kernel) ⟨Nat.le_of_ble_eq_true rfl, Nat.le_of_ble_eq_true rfl⟩) hl.1 dX3_expectedBehind_56 rfl rfl (Nat.le_of_ble_eq_true rfl) ⟨Nat.le_of_ble_eq_true rfl, Nat.le_of_ble_eq_true rfl⟩ hS hA hK hPm hDm (fun _ H locs _ hP hD hS => ?_)
    have hP := zp_perm hP ((zblk (show List.Perm ([Wpage X o b n x y t f] : List va_W) ([] ++ [Wpage X o b n x y t f]) from List.Perm.refl _))).symm
    have hD := zd_perm hD ((zblk (show List.Perm ([Wpage X o b n x y t f] : List va_W) ([] ++ [Wpage X o b n x y t f]) from List.Perm.refl _))).symm
    have hP : va_P X.1 vwCl (zb [Wpage X o b n x y t f]) H := hP
    have hD : va_D A (zb [Wpage X o b n x y t f]) := hD
    refine W.eq (g2 := F0 m 59 ls [.int (iI (if 48 ≤ z ∧ z ≤ 57 then 1 else 0))]) rfl ?_
    refine z_if_eq (tgt := 66) hx hb (by omega) dX3_expectedBehind_59 (by decide) (fun c_5 => ?_) (fun c_5 => ?_)
    · skip
      refine lv_iconst (v := iI (-1)) hx hb dX3_expectedBehind_66 (by decide) ?_
      exact z_iret hQ hx hb hr hlocks hS ⟨Nat.le_of_ble_eq_true rfl, Nat.le_of_ble_eq_true rfl⟩ dX3_expectedBehind_67 () (congrArg (fun z => some (Value.int (iI z))) (show (exB x y t z : Int) = (-1) by unfold exB; omega)) trivial hP hD
    · skip
      refine lv_iconst (v := iI 2) hx hb dX3_expectedBehind_62 (by decide) ?_
      refine lv_goto (tgt := 67) hx hb dX3_expectedBehind_63 (by decide) ?_
      exact z_iret hQ hx hb hr hlocks hS ⟨Nat.le_of_ble_eq_true rfl, Nat.le_of_ble_eq_true rfl⟩ dX3_expectedBehind_67 () (congrArg (fun z => some (Value.int (iI z))) (show (exB x y t z : Int) = 2 by unfold exB; omega)) trivial hP hD
  · skip
    refine z_tabIn (tgt := 68) (off := 64) hx hb (by omega) dX3_expectedBehind_4 c_1 (by decide) rfl (by decide) ?_
    refine lv_iload_n hx hb dX3_expectedBehind_68 rfl (lv_at hl 1 rfl) ?_
    have hPm := zp_perm hP (zblk (show List.Perm ([Wpage X o b n x y t f] : List va_W) ([] ++ [Wpage X o b n x y t f]) from List.Perm.refl _))
    have hDm := zd_perm hD (zblk (show List.Perm ([Wpage X o b n x y t f] : List va_W) ([] ++ [Wpage X o b n x y t f]) from List.Perm.refl _))
    refine z_callS (wr := zb [Wpage X o b n x y t f]) (As := [.int (iI z)]) (rest := []) ⟨hx, hb, hml, hown, hts⟩ (c_X3_isDigit l X z (by omega)) (va_cwS 1 hts gX3_expectedBehind_X3_isDigit rfl rfl rfl (by decide +kernel) ⟨Nat.le_of_ble_eq_true rfl, Nat.le_of_ble_eq_true rfl⟩) hl.1 dX3_expectedBehind_69 rfl rfl (Nat.le_of_ble_eq_true rfl) ⟨Nat.le_of_ble_eq_true rfl, Nat.le_of_ble_eq_true rfl⟩ hS hA hK hPm hDm (fun _ H locs _ hP hD hS => ?_)
    have hP := zp_perm hP ((zblk (show List.Perm ([Wpage X o b n x y t f] : List va_W) ([] ++ [Wpage X o b n x y t f]) from List.Perm.refl _))).symm
    have hD := zd_perm hD ((zblk (show List.Perm ([Wpage X o b n x y t f] : List va_W) ([] ++ [Wpage X o b n x y t f]) from List.Perm.refl _))).symm
    have hP : va_P X.1 vwCl (zb [Wpage X o b n x y t f]) H := hP
    have hD : va_D A (zb [Wpage X o b n x y t f]) := hD
    refine W.eq (g2 := F0 m 72 ls [.int (iI (if 48 ≤ z ∧ z ≤ 57 then 1 else 0))]) rfl ?_
    refine z_if_eq (tgt := 79) hx hb (by omega) dX3_expectedBehind_72 (by decide) (fun c_6 => ?_) (fun c_6 => ?_)
    · skip
      refine lv_iconst (v := iI (-1)) hx hb dX3_expectedBehind_79 (by decide) ?_
      exact z_iret hQ hx hb hr hlocks hS ⟨Nat.le_of_ble_eq_true rfl, Nat.le_of_ble_eq_true rfl⟩ dX3_expectedBehind_80 () (congrArg (fun z => some (Value.int (iI z))) (show (exB x y t z : Int) = (-1) by unfold exB; omega)) trivial hP hD
    · skip
      refine lv_iconst (v := iI 3) hx hb dX3_expectedBehind_75 (by decide) ?_
      refine lv_goto (tgt := 80) hx hb dX3_expectedBehind_76 (by decide) ?_
      exact z_iret hQ hx hb hr hlocks hS ⟨Nat.le_of_ble_eq_true rfl, Nat.le_of_ble_eq_true rfl⟩ dX3_expectedBehind_80 () (congrArg (fun z => some (Value.int (iI z))) (show (exB x y t z : Int) = 3 by unfold exB; omega)) trivial hP hD
  · skip
    refine z_tabIn (tgt := 81) (off := 77) hx hb (by omega) dX3_expectedBehind_4 c_1 (by decide) rfl (by decide) ?_
    refine lv_iload_n hx hb dX3_expectedBehind_81 rfl (lv_at hl 1 rfl) ?_
    refine lv_bipush (v := iI 59) hx hb dX3_expectedBehind_82 (by decide) ?_
    refine z_icmp_ne (tgt := 89) hx hb (by omega) dX3_expectedBehind_84 (by decide) (fun c_7 => ?_) (fun c_7 => ?_)
    · skip
      refine lv_iload_n hx hb dX3_expectedBehind_89 rfl (lv_at hl 1 rfl) ?_
      refine lv_bipush (v := iI 44) hx hb dX3_expectedBehind_90 (by decide) ?_
      refine z_icmp_ne (tgt := 107) hx hb (by omega) dX3_expectedBehind_92 (by decide) (fun c_8 => ?_) (fun c_8 => ?_)
      · skip
        refine lv_iconst (v := iI (-1)) hx hb dX3_expectedBehind_107 (by decide) ?_
        exact z_iret hQ hx hb hr hlocks hS ⟨Nat.le_of_ble_eq_true rfl, Nat.le_of_ble_eq_true rfl⟩ dX3_expectedBehind_108 () (congrArg (fun z => some (Value.int (iI z))) (show (exB x y t z : Int) = (-1) by unfold exB; omega)) trivial hP hD
      · skip
        refine lv_aload_n hx hb dX3_expectedBehind_95 rfl (lv_at hl 0 rfl) ?_
        refine va_get (ci := 3) (v := .int (iI y)) (C := RX3) (T := TX3) (N := 5) hx hb hts inX3 hown hK.1 hP 0 rfl rfl 3 (by decide) (hts (.fieldLink RX3 23 "SkimmedSons$Page" "pansRead" "I") (by decide +kernel)) (fun _ h9 => h9) rfl dX3_expectedBehind_96 ?_
        refine lv_iconst (v := iI 3) hx hb dX3_expectedBehind_99 (by decide) ?_
        refine z_icmp_ge (tgt := 107) hx hb (by omega) dX3_expectedBehind_100 (by decide) (fun c_9 => ?_) (fun c_9 => ?_)
        · skip
          refine lv_iconst (v := iI (-1)) hx hb dX3_expectedBehind_107 (by decide) ?_
          exact z_iret hQ hx hb hr hlocks hS ⟨Nat.le_of_ble_eq_true rfl, Nat.le_of_ble_eq_true rfl⟩ dX3_expectedBehind_108 () (congrArg (fun z => some (Value.int (iI z))) (show (exB x y t z : Int) = (-1) by unfold exB; omega)) trivial hP hD
        · skip
          refine lv_iconst (v := iI 0) hx hb dX3_expectedBehind_103 (by decide) ?_
          refine lv_goto (tgt := 108) hx hb dX3_expectedBehind_104 (by decide) ?_
          exact z_iret hQ hx hb hr hlocks hS ⟨Nat.le_of_ble_eq_true rfl, Nat.le_of_ble_eq_true rfl⟩ dX3_expectedBehind_108 () (congrArg (fun z => some (Value.int (iI z))) (show (exB x y t z : Int) = 0 by unfold exB; omega)) trivial hP hD
    · skip
      refine lv_iconst (v := iI 4) hx hb dX3_expectedBehind_87 (by decide) ?_
      exact z_iret hQ hx hb hr hlocks hS ⟨Nat.le_of_ble_eq_true rfl, Nat.le_of_ble_eq_true rfl⟩ dX3_expectedBehind_88 () (congrArg (fun z => some (Value.int (iI z))) (show (exB x y t z : Int) = 4 by unfold exB; omega)) trivial hP hD
  · skip
    refine z_tabIn (tgt := 109) (off := 105) hx hb (by omega) dX3_expectedBehind_4 c_1 (by decide) rfl (by decide) ?_
    refine va_ldcS hx hb hown hK.2.2.2.1.2 dX3_expectedBehind_109 ?_
    refine lv_iload_n hx hb dX3_expectedBehind_111 rfl (lv_at hl 1 rfl) ?_
    have hPm := zp_perm hP (zblk (show List.Perm ([Wpage X o b n x y t f] : List va_W) ([] ++ [Wpage X o b n x y t f]) from List.Perm.refl _))
    have hDm := zd_perm hD (zblk (show List.Perm ([Wpage X o b n x y t f] : List va_W) ([] ++ [Wpage X o b n x y t f]) from List.Perm.refl _))
    refine z_callVR (wr := zb [Wpage X o b n x y t f]) (As := [.int (iI z)]) (rest := []) ⟨hx, hb, hml, hown, hts⟩ (c_J0_indexOf_0f7a4_1 l X z (by omega)) (cwV 1 hts gX3_expectedBehind_J0_indexOf_0f7a4 rfl rfl rfl (by decide +kernel) ⟨Nat.le_of_ble_eq_true rfl, Nat.le_of_ble_eq_true rfl⟩) (vk_recv hK.2.1 (i := 1) (by decide) hS) hl.1 dX3_expectedBehind_112 rfl rfl (Nat.le_of_ble_eq_true rfl) ⟨Nat.le_of_ble_eq_true rfl, Nat.le_of_ble_eq_true rfl⟩ hS hA hK hPm hDm (fun _ H locs _ hP hD hS => ?_)
    have hP := zp_perm hP ((zblk (show List.Perm ([Wpage X o b n x y t f] : List va_W) ([] ++ [Wpage X o b n x y t f]) from List.Perm.refl _))).symm
    have hD := zd_perm hD ((zblk (show List.Perm ([Wpage X o b n x y t f] : List va_W) ([] ++ [Wpage X o b n x y t f]) from List.Perm.refl _))).symm
    have hP : va_P X.1 vwCl (zb [Wpage X o b n x y t f]) H := hP
    have hD : va_D A (zb [Wpage X o b n x y t f]) := hD
    refine W.eq (g2 := F0 m 115 ls [.int (iI (idx1 z))]) rfl ?_
    refine z_if_lt (tgt := 122) hx hb (by omega) dX3_expectedBehind_115 (by decide) (fun c_10 => ?_) (fun c_10 => ?_)
    · skip
      refine lv_iconst (v := iI (-1)) hx hb dX3_expectedBehind_122 (by decide) ?_
      exact z_iret hQ hx hb hr hlocks hS ⟨Nat.le_of_ble_eq_true rfl, Nat.le_of_ble_eq_true rfl⟩ dX3_expectedBehind_123 () (congrArg (fun z => some (Value.int (iI z))) (show (exB x y t z : Int) = (-1) by unfold exB; omega)) trivial hP hD
    · skip
      refine lv_iconst (v := iI 5) hx hb dX3_expectedBehind_118 (by decide) ?_
      refine lv_goto (tgt := 123) hx hb dX3_expectedBehind_119 (by decide) ?_
      exact z_iret hQ hx hb hr hlocks hS ⟨Nat.le_of_ble_eq_true rfl, Nat.le_of_ble_eq_true rfl⟩ dX3_expectedBehind_123 () (congrArg (fun z => some (Value.int (iI z))) (show (exB x y t z : Int) = 5 by unfold exB; omega)) trivial hP hD
set_option maxHeartbeats 1000000 in
set_option maxRecDepth 100000 in
theorem c_X3_firstWrong (l : Launch) (X : zX) (o : Nat) (b : Nat) (n : Int) (x : Int) (y : Int) (t : Int) (f : Nat → Int) (hs : PageB n f) : zF l X yX3_firstWrong wsX3_firstWrong 5 127 [.ref o] (zb [Wpage X o b n x y t f]) (some (.int (iI ((scanP f n.toNat 0 0 0 0).1)))) (zb [Wpage X o b n ((scanP f n.toNat 0 0 0 0).2.1) ((scanP f n.toNat 0 0 0 0).2.2.1) ((scanP f n.toNat 0 0 0 0).2.2.2) f]) := by
  refine z_enter (cc := cX3_firstWrong) (maxL := 3) (ret := (some .int)) (by decide) rfl (Nat.le_of_ble_eq_true rfl) ?_
  intro p e s m below meth c A ls Q hQ hE hl hP hD
  obtain ⟨hx, hb, hr, hml, hown, hts, hlocks, hnm, hA, hK⟩ := hE
  have hown : s.vm.findClass RX3 = some m.cls := hown
  have hS : va_S A s.heap s.heap [] := va_S.rf
  have hl : lv_has ls 3 [(0, .ref o)] := hl
  have inX3 : ∀ w ∈ u_ws RX3 TX3 5, w ∈ wsX3_firstWrong := by decide +kernel
  obtain ⟨hn, hf⟩ := id hs
  refine lv_aload_n hx hb dX3_firstWrong_0 rfl (lv_at hl 0 rfl) ?_
  refine lv_iconst (v := iI 0) hx hb dX3_firstWrong_1 (by decide) ?_
  refine va_put (ci := 3) (v := .int (iI 0)) (ty := .int) (C := RX3) (T := TX3) (N := 5) hx hb hts inX3 tyX3 tyX3_ok nmX3 hown hK.1 hP hD hS 0 rfl rfl 2 (by decide) (hts (.fieldLink RX3 33 "SkimmedSons$Page" "expected" "I") (by decide +kernel)) (fun _ h9 => h9) rfl (by decide +kernel) rfl rfl (Nat.le_of_ble_eq_true rfl) dX3_firstWrong_2 (fun H locs hP hD hS => ?_)
  have hP : va_P X.1 vwCl (zb [Wpage X o b n 0 y t f]) H := hP
  have hD : va_D A (zb [Wpage X o b n 0 y t f]) := hD
  refine lv_aload_n hx hb dX3_firstWrong_5 rfl (lv_at hl 0 rfl) ?_
  refine lv_iconst (v := iI 0) hx hb dX3_firstWrong_6 (by decide) ?_
  refine va_put (ci := 3) (v := .int (iI 0)) (ty := .int) (C := RX3) (T := TX3) (N := 5) hx hb hts inX3 tyX3 tyX3_ok nmX3 hown hK.1 hP hD hS 0 rfl rfl 3 (by decide) (hts (.fieldLink RX3 23 "SkimmedSons$Page" "pansRead" "I") (by decide +kernel)) (fun _ h9 => h9) rfl (by decide +kernel) rfl rfl (Nat.le_of_ble_eq_true rfl) dX3_firstWrong_7 (fun H locs hP hD hS => ?_)
  have hP : va_P X.1 vwCl (zb [Wpage X o b n 0 0 t f]) H := hP
  have hD : va_D A (zb [Wpage X o b n 0 0 t f]) := hD
  refine lv_aload_n hx hb dX3_firstWrong_10 rfl (lv_at hl 0 rfl) ?_
  refine lv_iconst (v := iI 0) hx hb dX3_firstWrong_11 (by decide) ?_
  refine va_put (ci := 3) (v := .int (iI 0)) (ty := .int) (C := RX3) (T := TX3) (N := 5) hx hb hts inX3 tyX3 tyX3_ok nmX3 hown hK.1 hP hD hS 0 rfl rfl 4 (by decide) (hts (.fieldLink RX3 26 "SkimmedSons$Page" "childrenRead" "I") (by decide +kernel)) (fun _ h9 => h9) rfl (by decide +kernel) rfl rfl (Nat.le_of_ble_eq_true rfl) dX3_firstWrong_12 (fun H locs hP hD hS => ?_)
  have hP : va_P X.1 vwCl (zb [Wpage X o b n 0 0 0 f]) H := hP
  have hD : va_D A (zb [Wpage X o b n 0 0 0 f]) := hD
  refine lv_iconst (v := iI 0) hx hb dX3_firstWrong_15 (by decide) ?_
  refine lv_istore_n (lv' := [(1, .int (iI 0)), (0, .ref o)]) hx hb dX3_firstWrong_16 rfl hl (by decide) rfl (fun ls hl => ?_)
  have L17 : ∀ (fu : Nat) (i : Nat) (x2 : Int) (y2 : Int) (t2 : Int), ((i : Int) ≤ n) → (0 ≤ x2 ∧ x2 ≤ 5) → (0 ≤ y2 ∧ y2 ≤ i) → (0 ≤ t2 ∧ t2 ≤ i) → (scanP f (n.toNat - i) i x2 y2 t2 = scanP f n.toNat 0 0 0 0) → (n - ↑i).toNat < fu → ∀ (H : Heap) (locs : List Loc) (ls : Array Slot), va_P X.1 vwCl (zb [Wpage X o b n x2 y2 t2 f]) H → va_D A (zb [Wpage X o b n x2 y2 t2 f]) → va_S A s.heap H locs → lv_has ls 3 [(0, .ref o), (1, .int (iI (↑i)))] → W p l e { frames := 5, cells := 0, slots := 0, locals := 127 } s m ([.ref o] : List Value).toArray below meth c H locs 0 0 Q (F0 m 17 ls []) := by
    intro fu
    induction fu with
    | zero => intro i x2 y2 t2 hi hxb hyb htb hsc hm; exact absurd hm (Nat.not_lt_zero _)
    | succ fu ih17 =>
      intro i x2 y2 t2 hi hxb hyb htb hsc hm H locs ls hP hD hS hl
      refine lv_iload_n hx hb dX3_firstWrong_17 rfl (lv_at hl 1 rfl) ?_
      refine lv_aload_n hx hb dX3_firstWrong_18 rfl (lv_at hl 0 rfl) ?_
      refine va_get (ci := 3) (v := .int (iI n)) (C := RX3) (T := TX3) (N := 5) hx hb hts inX3 hown hK.1 hP 0 rfl rfl 1 (by decide) (hts (.fieldLink RX3 15 "SkimmedSons$Page" "length" "I") (by decide +kernel)) (fun _ h9 => h9) rfl dX3_firstWrong_19 ?_
      refine z_icmp_ge (tgt := 91) hx hb (by omega) dX3_firstWrong_22 (by decide) (fun c_1 => ?_) (fun c_1 => ?_)
      · skip
        refine lv_aload_n hx hb dX3_firstWrong_91 rfl (lv_at hl 0 rfl) ?_
        refine va_get (ci := 3) (v := .int (iI n)) (C := RX3) (T := TX3) (N := 5) hx hb hts inX3 hown hK.1 hP 0 rfl rfl 1 (by decide) (hts (.fieldLink RX3 15 "SkimmedSons$Page" "length" "I") (by decide +kernel)) (fun _ h9 => h9) rfl dX3_firstWrong_92 ?_
        have hw : zb [Wpage X o b n x2 y2 t2 f] = zb [Wpage X o b n ((scanP f n.toNat 0 0 0 0).2.1) ((scanP f n.toNat 0 0 0 0).2.2.1) ((scanP f n.toNat 0 0 0 0).2.2.2) f] := by rw [← hsc, show n.toNat - i = 0 by omega]; rfl
        rw [hw] at hP hD
        exact z_iret hQ hx hb hr hlocks hS ⟨Nat.le_of_ble_eq_true rfl, Nat.le_of_ble_eq_true rfl⟩ dX3_firstWrong_95 () (congrArg (fun z => some (Value.int (iI z))) (show ((scanP f n.toNat 0 0 0 0).1 : Int) = n by rw [← hsc, show n.toNat - i = 0 by omega]; unfold scanP; omega)) trivial hP hD
      · skip
        refine lv_aload_n hx hb dX3_firstWrong_25 rfl (lv_at hl 0 rfl) ?_
        refine lv_aload_n hx hb dX3_firstWrong_26 rfl (lv_at hl 0 rfl) ?_
        refine lv_iload_n hx hb dX3_firstWrong_27 rfl (lv_at hl 1 rfl) ?_
        have hPm := zp_perm hP (zblk (show List.Perm ([Wpage X o b n x2 y2 t2 f] : List va_W) ([Wpage X o b n x2 y2 t2 f] ++ []) from (zf1 _ 0 _ rfl).trans ((List.Perm.refl _).cons _)))
        have hDm := zd_perm hD (zblk (show List.Perm ([Wpage X o b n x2 y2 t2 f] : List va_W) ([Wpage X o b n x2 y2 t2 f] ++ []) from (zf1 _ 0 _ rfl).trans ((List.Perm.refl _).cons _)))
        refine z_callV (wr := zb []) (As := [.int (iI (↑i))]) (rest := [.ref o]) ⟨hx, hb, hml, hown, hts⟩ (c_X3_at l X o b n x2 y2 t2 f (↑i : Int) (by exact hs) (by omega)) (cwV 1 hts gX3_firstWrong_X3_at rfl rfl rfl (by decide +kernel) ⟨Nat.le_of_ble_eq_true rfl, Nat.le_of_ble_eq_true rfl⟩) rfl rfl hl.1 dX3_firstWrong_28 rfl rfl (Nat.le_of_ble_eq_true rfl) ⟨Nat.le_of_ble_eq_true rfl, Nat.le_of_ble_eq_true rfl⟩ hS hA hK hPm hDm (fun _ H locs _ hP hD hS => ?_)
        have hP := zp_perm hP ((zblk (show List.Perm ([Wpage X o b n x2 y2 t2 f] : List va_W) ([Wpage X o b n x2 y2 t2 f] ++ []) from (zf1 _ 0 _ rfl).trans ((List.Perm.refl _).cons _)))).symm
        have hD := zd_perm hD ((zblk (show List.Perm ([Wpage X o b n x2 y2 t2 f] : List va_W) ([Wpage X o b n x2 y2 t2 f] ++ []) from (zf1 _ 0 _ rfl).trans ((List.Perm.refl _).cons _)))).symm
        have hP : va_P X.1 vwCl (zb [Wpage X o b n x2 y2 t2 f]) H := hP
        have hD : va_D A (zb [Wpage X o b n x2 y2 t2 f]) := hD
        refine W.eq (g2 := F0 m 31 ls [.int (iI (atZ f n (↑i : Int))), .ref o]) rfl ?_
        have hPm := zp_perm hP (zblk (show List.Perm ([Wpage X o b n x2 y2 t2 f] : List va_W) ([Wpage X o b n x2 y2 t2 f] ++ []) from (zf1 _ 0 _ rfl).trans ((List.Perm.refl _).cons _)))
        have hDm := zd_perm hD (zblk (show List.Perm ([Wpage X o b n x2 y2 t2 f] : List va_W) ([Wpage X o b n x2 y2 t2 f] ++ []) from (zf1 _ 0 _ rfl).trans ((List.Perm.refl _).cons _)))
        refine z_callV (wr := zb []) (As := [.int (iI (atZ f n (↑i : Int)))]) (rest := []) ⟨hx, hb, hml, hown, hts⟩ (c_X3_expectedBehind l X o b n x2 y2 t2 f (atZ f n (↑i : Int)) (by have := hf i; rw [show atZ f n ↑i = f i from if_pos ⟨by omega, by omega⟩]; omega) (by omega) (by omega) (by omega)) (cwV 1 hts gX3_firstWrong_X3_expectedBehind rfl rfl rfl (by decide +kernel) ⟨Nat.le_of_ble_eq_true rfl, Nat.le_of_ble_eq_true rfl⟩) rfl rfl hl.1 dX3_firstWrong_31 rfl rfl (Nat.le_of_ble_eq_true rfl) ⟨Nat.le_of_ble_eq_true rfl, Nat.le_of_ble_eq_true rfl⟩ hS hA hK hPm hDm (fun _ H locs _ hP hD hS => ?_)
        have hP := zp_perm hP ((zblk (show List.Perm ([Wpage X o b n x2 y2 t2 f] : List va_W) ([Wpage X o b n x2 y2 t2 f] ++ []) from (zf1 _ 0 _ rfl).trans ((List.Perm.refl _).cons _)))).symm
        have hD := zd_perm hD ((zblk (show List.Perm ([Wpage X o b n x2 y2 t2 f] : List va_W) ([Wpage X o b n x2 y2 t2 f] ++ []) from (zf1 _ 0 _ rfl).trans ((List.Perm.refl _).cons _)))).symm
        have hP : va_P X.1 vwCl (zb [Wpage X o b n x2 y2 t2 f]) H := hP
        have hD : va_D A (zb [Wpage X o b n x2 y2 t2 f]) := hD
        refine W.eq (g2 := F0 m 34 ls [.int (iI (exB x2 y2 t2 (atZ f n (↑i : Int))))]) rfl ?_
        rw [show atZ f n ↑i = f i from if_pos ⟨by omega, by omega⟩]
        have hex := exB_in x2 y2 t2 (f i)
        refine z_topi (fun z_2 ez_2 => ?_)
        refine lv_istore_n (lv' := [(2, .int (iI z_2)), (0, .ref o), (1, .int (iI (↑i)))]) hx hb dX3_firstWrong_34 rfl hl (by decide) rfl (fun ls hl => ?_)
        refine lv_iload_n hx hb dX3_firstWrong_35 rfl (lv_at hl 0 rfl) ?_
        refine lv_iconst (v := iI (-1)) hx hb dX3_firstWrong_36 (by decide) ?_
        refine z_icmp_ne (tgt := 42) hx hb (by omega) dX3_firstWrong_37 (by decide) (fun c_3 => ?_) (fun c_3 => ?_)
        · skip
          refine lv_aload_n hx hb dX3_firstWrong_42 rfl (lv_at hl 1 rfl) ?_
          refine lv_dup hx hb dX3_firstWrong_43 rfl ?_
          refine va_get (ci := 3) (v := .int (iI y2)) (C := RX3) (T := TX3) (N := 5) hx hb hts inX3 hown hK.1 hP 0 rfl rfl 3 (by decide) (hts (.fieldLink RX3 23 "SkimmedSons$Page" "pansRead" "I") (by decide +kernel)) (fun _ h9 => h9) rfl dX3_firstWrong_44 ?_
          refine lv_iload_n hx hb dX3_firstWrong_47 rfl (lv_at hl 0 rfl) ?_
          refine lv_iconst (v := iI 3) hx hb dX3_firstWrong_48 (by decide) ?_
          refine z_icmp_ne (tgt := 56) hx hb (by omega) dX3_firstWrong_49 (by decide) (fun c_4 => ?_) (fun c_4 => ?_)
          · skip
            refine lv_iconst (v := iI 0) hx hb dX3_firstWrong_56 (by decide) ?_
            refine z_iadd hx hb dX3_firstWrong_57 ?_
            refine z_topi (fun z_5 ez_5 => ?_)
            refine va_put (ci := 3) (v := .int (iI z_5)) (ty := .int) (C := RX3) (T := TX3) (N := 5) hx hb hts inX3 tyX3 tyX3_ok nmX3 hown hK.1 hP hD hS 0 rfl rfl 3 (by decide) (hts (.fieldLink RX3 23 "SkimmedSons$Page" "pansRead" "I") (by decide +kernel)) (fun _ h9 => h9) rfl (by decide +kernel) rfl rfl (Nat.le_of_ble_eq_true rfl) dX3_firstWrong_58 (fun H locs hP hD hS => ?_)
            have hP : va_P X.1 vwCl (zb [Wpage X o b n x2 z_5 t2 f]) H := hP
            have hD : va_D A (zb [Wpage X o b n x2 z_5 t2 f]) := hD
            refine lv_aload_n hx hb dX3_firstWrong_61 rfl (lv_at hl 1 rfl) ?_
            refine lv_dup hx hb dX3_firstWrong_62 rfl ?_
            refine va_get (ci := 3) (v := .int (iI t2)) (C := RX3) (T := TX3) (N := 5) hx hb hts inX3 hown hK.1 hP 0 rfl rfl 4 (by decide) (hts (.fieldLink RX3 26 "SkimmedSons$Page" "childrenRead" "I") (by decide +kernel)) (fun _ h9 => h9) rfl dX3_firstWrong_63 ?_
            refine lv_iload_n hx hb dX3_firstWrong_66 rfl (lv_at hl 0 rfl) ?_
            refine lv_iconst (v := iI 5) hx hb dX3_firstWrong_67 (by decide) ?_
            refine z_icmp_ne (tgt := 75) hx hb (by omega) dX3_firstWrong_68 (by decide) (fun c_6 => ?_) (fun c_6 => ?_)
            · skip
              refine lv_iconst (v := iI 0) hx hb dX3_firstWrong_75 (by decide) ?_
              refine z_iadd hx hb dX3_firstWrong_76 ?_
              refine z_topi (fun z_7 ez_7 => ?_)
              refine va_put (ci := 3) (v := .int (iI z_7)) (ty := .int) (C := RX3) (T := TX3) (N := 5) hx hb hts inX3 tyX3 tyX3_ok nmX3 hown hK.1 hP hD hS 0 rfl rfl 4 (by decide) (hts (.fieldLink RX3 26 "SkimmedSons$Page" "childrenRead" "I") (by decide +kernel)) (fun _ h9 => h9) rfl (by decide +kernel) rfl rfl (Nat.le_of_ble_eq_true rfl) dX3_firstWrong_77 (fun H locs hP hD hS => ?_)
              have hP : va_P X.1 vwCl (zb [Wpage X o b n x2 z_5 z_7 f]) H := hP
              have hD : va_D A (zb [Wpage X o b n x2 z_5 z_7 f]) := hD
              refine lv_aload_n hx hb dX3_firstWrong_80 rfl (lv_at hl 1 rfl) ?_
              refine lv_iload_n hx hb dX3_firstWrong_81 rfl (lv_at hl 0 rfl) ?_
              refine va_put (ci := 3) (v := .int (iI z_2)) (ty := .int) (C := RX3) (T := TX3) (N := 5) hx hb hts inX3 tyX3 tyX3_ok nmX3 hown hK.1 hP hD hS 0 rfl rfl 2 (by decide) (hts (.fieldLink RX3 33 "SkimmedSons$Page" "expected" "I") (by decide +kernel)) (fun _ h9 => h9) rfl (by decide +kernel) rfl rfl (Nat.le_of_ble_eq_true rfl) dX3_firstWrong_82 (fun H locs hP hD hS => ?_)
              have hP : va_P X.1 vwCl (zb [Wpage X o b n z_2 z_5 z_7 f]) H := hP
              have hD : va_D A (zb [Wpage X o b n z_2 z_5 z_7 f]) := hD
              refine z_iinc (k := 2) (lv' := [(1, .int (iI ((↑i) + 1))), (2, .int (iI z_2)), (0, .ref o)]) hx hb dX3_firstWrong_85 hl rfl (by decide) rfl (fun ls hl => ?_)
              refine lv_goto (tgt := 17) hx hb dX3_firstWrong_88 (by decide) ?_
              exact ih17  (i + 1) z_2 z_5 z_7 (by omega) (by omega) (by omega) (by omega) (by rw [← hsc, show n.toNat - i = (n.toNat - (i + 1)) + 1 by omega]; rw [scanP_go (by omega)]; congr 1 <;> omega) (by omega) _ _ _ hP hD hS (lv_sub hl [2, 0] rfl)
            · skip
              refine lv_iconst (v := iI 1) hx hb dX3_firstWrong_71 (by decide) ?_
              refine lv_goto (tgt := 76) hx hb dX3_firstWrong_72 (by decide) ?_
              refine z_iadd hx hb dX3_firstWrong_76 ?_
              refine z_topi (fun z_9 ez_9 => ?_)
              refine va_put (ci := 3) (v := .int (iI z_9)) (ty := .int) (C := RX3) (T := TX3) (N := 5) hx hb hts inX3 tyX3 tyX3_ok nmX3 hown hK.1 hP hD hS 0 rfl rfl 4 (by decide) (hts (.fieldLink RX3 26 "SkimmedSons$Page" "childrenRead" "I") (by decide +kernel)) (fun _ h9 => h9) rfl (by decide +kernel) rfl rfl (Nat.le_of_ble_eq_true rfl) dX3_firstWrong_77 (fun H locs hP hD hS => ?_)
              have hP : va_P X.1 vwCl (zb [Wpage X o b n x2 z_5 z_9 f]) H := hP
              have hD : va_D A (zb [Wpage X o b n x2 z_5 z_9 f]) := hD
              refine lv_aload_n hx hb dX3_firstWrong_80 rfl (lv_at hl 1 rfl) ?_
              refine lv_iload_n hx hb dX3_firstWrong_81 rfl (lv_at hl 0 rfl) ?_
              refine va_put (ci := 3) (v := .int (iI z_2)) (ty := .int) (C := RX3) (T := TX3) (N := 5) hx hb hts inX3 tyX3 tyX3_ok nmX3 hown hK.1 hP hD hS 0 rfl rfl 2 (by decide) (hts (.fieldLink RX3 33 "SkimmedSons$Page" "expected" "I") (by decide +kernel)) (fun _ h9 => h9) rfl (by decide +kernel) rfl rfl (Nat.le_of_ble_eq_true rfl) dX3_firstWrong_82 (fun H locs hP hD hS => ?_)
              have hP : va_P X.1 vwCl (zb [Wpage X o b n z_2 z_5 z_9 f]) H := hP
              have hD : va_D A (zb [Wpage X o b n z_2 z_5 z_9 f]) := hD
              refine z_iinc (k := 2) (lv' := [(1, .int (iI ((↑i) + 1))), (2, .int (iI z_2)), (0, .ref o)]) hx hb dX3_firstWrong_85 hl rfl (by decide) rfl (fun ls hl => ?_)
              refine lv_goto (tgt := 17) hx hb dX3_firstWrong_88 (by decide) ?_
              exact ih17  (i + 1) z_2 z_5 z_9 (by omega) (by omega) (by omega) (by omega) (by rw [← hsc, show n.toNat - i = (n.toNat - (i + 1)) + 1 by omega]; rw [scanP_go (by omega)]; congr 1 <;> omega) (by omega) _ _ _ hP hD hS (lv_sub hl [2, 0] rfl)
          · skip
            refine lv_iconst (v := iI 1) hx hb dX3_firstWrong_52 (by decide) ?_
            refine lv_goto (tgt := 57) hx hb dX3_firstWrong_53 (by decide) ?_
            refine z_iadd hx hb dX3_firstWrong_57 ?_
            refine z_topi (fun z_11 ez_11 => ?_)
            refine va_put (ci := 3) (v := .int (iI z_11)) (ty := .int) (C := RX3) (T := TX3) (N := 5) hx hb hts inX3 tyX3 tyX3_ok nmX3 hown hK.1 hP hD hS 0 rfl rfl 3 (by decide) (hts (.fieldLink RX3 23 "SkimmedSons$Page" "pansRead" "I") (by decide +kernel)) (fun _ h9 => h9) rfl (by decide +kernel) rfl rfl (Nat.le_of_ble_eq_true rfl) dX3_firstWrong_58 (fun H locs hP hD hS => ?_)
            have hP : va_P X.1 vwCl (zb [Wpage X o b n x2 z_11 t2 f]) H := hP
            have hD : va_D A (zb [Wpage X o b n x2 z_11 t2 f]) := hD
            refine lv_aload_n hx hb dX3_firstWrong_61 rfl (lv_at hl 1 rfl) ?_
            refine lv_dup hx hb dX3_firstWrong_62 rfl ?_
            refine va_get (ci := 3) (v := .int (iI t2)) (C := RX3) (T := TX3) (N := 5) hx hb hts inX3 hown hK.1 hP 0 rfl rfl 4 (by decide) (hts (.fieldLink RX3 26 "SkimmedSons$Page" "childrenRead" "I") (by decide +kernel)) (fun _ h9 => h9) rfl dX3_firstWrong_63 ?_
            refine lv_iload_n hx hb dX3_firstWrong_66 rfl (lv_at hl 0 rfl) ?_
            refine lv_iconst (v := iI 5) hx hb dX3_firstWrong_67 (by decide) ?_
            refine z_icmp_ne (tgt := 75) hx hb (by omega) dX3_firstWrong_68 (by decide) (fun c_12 => ?_) (fun c_12 => ?_)
            · skip
              refine lv_iconst (v := iI 0) hx hb dX3_firstWrong_75 (by decide) ?_
              refine z_iadd hx hb dX3_firstWrong_76 ?_
              refine z_topi (fun z_13 ez_13 => ?_)
              refine va_put (ci := 3) (v := .int (iI z_13)) (ty := .int) (C := RX3) (T := TX3) (N := 5) hx hb hts inX3 tyX3 tyX3_ok nmX3 hown hK.1 hP hD hS 0 rfl rfl 4 (by decide) (hts (.fieldLink RX3 26 "SkimmedSons$Page" "childrenRead" "I") (by decide +kernel)) (fun _ h9 => h9) rfl (by decide +kernel) rfl rfl (Nat.le_of_ble_eq_true rfl) dX3_firstWrong_77 (fun H locs hP hD hS => ?_)
              have hP : va_P X.1 vwCl (zb [Wpage X o b n x2 z_11 z_13 f]) H := hP
              have hD : va_D A (zb [Wpage X o b n x2 z_11 z_13 f]) := hD
              refine lv_aload_n hx hb dX3_firstWrong_80 rfl (lv_at hl 1 rfl) ?_
              refine lv_iload_n hx hb dX3_firstWrong_81 rfl (lv_at hl 0 rfl) ?_
              refine va_put (ci := 3) (v := .int (iI z_2)) (ty := .int) (C := RX3) (T := TX3) (N := 5) hx hb hts inX3 tyX3 tyX3_ok nmX3 hown hK.1 hP hD hS 0 rfl rfl 2 (by decide) (hts (.fieldLink RX3 33 "SkimmedSons$Page" "expected" "I") (by decide +kernel)) (fun _ h9 => h9) rfl (by decide +kernel) rfl rfl (Nat.le_of_ble_eq_true rfl) dX3_firstWrong_82 (fun H locs hP hD hS => ?_)
              have hP : va_P X.1 vwCl (zb [Wpage X o b n z_2 z_11 z_13 f]) H := hP
              have hD : va_D A (zb [Wpage X o b n z_2 z_11 z_13 f]) := hD
              refine z_iinc (k := 2) (lv' := [(1, .int (iI ((↑i) + 1))), (2, .int (iI z_2)), (0, .ref o)]) hx hb dX3_firstWrong_85 hl rfl (by decide) rfl (fun ls hl => ?_)
              refine lv_goto (tgt := 17) hx hb dX3_firstWrong_88 (by decide) ?_
              exact ih17  (i + 1) z_2 z_11 z_13 (by omega) (by omega) (by omega) (by omega) (by rw [← hsc, show n.toNat - i = (n.toNat - (i + 1)) + 1 by omega]; rw [scanP_go (by omega)]; congr 1 <;> omega) (by omega) _ _ _ hP hD hS (lv_sub hl [2, 0] rfl)
            · skip
              refine lv_iconst (v := iI 1) hx hb dX3_firstWrong_71 (by decide) ?_
              refine lv_goto (tgt := 76) hx hb dX3_firstWrong_72 (by decide) ?_
              refine z_iadd hx hb dX3_firstWrong_76 ?_
              refine z_topi (fun z_15 ez_15 => ?_)
              refine va_put (ci := 3) (v := .int (iI z_15)) (ty := .int) (C := RX3) (T := TX3) (N := 5) hx hb hts inX3 tyX3 tyX3_ok nmX3 hown hK.1 hP hD hS 0 rfl rfl 4 (by decide) (hts (.fieldLink RX3 26 "SkimmedSons$Page" "childrenRead" "I") (by decide +kernel)) (fun _ h9 => h9) rfl (by decide +kernel) rfl rfl (Nat.le_of_ble_eq_true rfl) dX3_firstWrong_77 (fun H locs hP hD hS => ?_)
              have hP : va_P X.1 vwCl (zb [Wpage X o b n x2 z_11 z_15 f]) H := hP
              have hD : va_D A (zb [Wpage X o b n x2 z_11 z_15 f]) := hD
              refine lv_aload_n hx hb dX3_firstWrong_80 rfl (lv_at hl 1 rfl) ?_
              refine lv_iload_n hx hb dX3_firstWrong_81 rfl (lv_at hl 0 rfl) ?_
              refine va_put (ci := 3) (v := .int (iI z_2)) (ty := .int) (C := RX3) (T := TX3) (N := 5) hx hb hts inX3 tyX3 tyX3_ok nmX3 hown hK.1 hP hD hS 0 rfl rfl 2 (by decide) (hts (.fieldLink RX3 33 "SkimmedSons$Page" "expected" "I") (by decide +kernel)) (fun _ h9 => h9) rfl (by decide +kernel) rfl rfl (Nat.le_of_ble_eq_true rfl) dX3_firstWrong_82 (fun H locs hP hD hS => ?_)
              have hP : va_P X.1 vwCl (zb [Wpage X o b n z_2 z_11 z_15 f]) H := hP
              have hD : va_D A (zb [Wpage X o b n z_2 z_11 z_15 f]) := hD
              refine z_iinc (k := 2) (lv' := [(1, .int (iI ((↑i) + 1))), (2, .int (iI z_2)), (0, .ref o)]) hx hb dX3_firstWrong_85 hl rfl (by decide) rfl (fun ls hl => ?_)
              refine lv_goto (tgt := 17) hx hb dX3_firstWrong_88 (by decide) ?_
              exact ih17  (i + 1) z_2 z_11 z_15 (by omega) (by omega) (by omega) (by omega) (by rw [← hsc, show n.toNat - i = (n.toNat - (i + 1)) + 1 by omega]; rw [scanP_go (by omega)]; congr 1 <;> omega) (by omega) _ _ _ hP hD hS (lv_sub hl [2, 0] rfl)
        · skip
          refine lv_iload_n hx hb dX3_firstWrong_40 rfl (lv_at hl 2 rfl) ?_
          have hw : zb [Wpage X o b n x2 y2 t2 f] = zb [Wpage X o b n ((scanP f n.toNat 0 0 0 0).2.1) ((scanP f n.toNat 0 0 0 0).2.2.1) ((scanP f n.toNat 0 0 0 0).2.2.2) f] := by rw [← hsc, scanP_stop (by omega)]
          rw [hw] at hP hD
          exact z_iret hQ hx hb hr hlocks hS ⟨Nat.le_of_ble_eq_true rfl, Nat.le_of_ble_eq_true rfl⟩ dX3_firstWrong_41 () (congrArg (fun z => some (Value.int (iI z))) (show ((scanP f n.toNat 0 0 0 0).1 : Int) = ↑i by rw [← hsc, scanP_stop (by omega)])) trivial hP hD
  exact L17 ((n - ↑(0 : Nat)).toNat + 1) 0 0 0 0 (by omega) (by omega) (by omega) (by omega) (by rfl) (by omega) _ _ _ hP hD hS (lv_sub hl [1, 0] rfl)
set_option maxHeartbeats 1000000 in
set_option maxRecDepth 100000 in
theorem c_X3_isDairy (l : Launch) (X : zX) (o : Nat) (b : Nat) (n : Int) (x : Int) (y : Int) (t : Int) (f : Nat → Int) (hs : PageB n f) : zF l X yX3_isDairy wsX3_isDairy 6 149 [.ref o] (zb [Wpage X o b n x y t f]) (some (.int (iI (if (scanP f n.toNat 0 0 0 0).1 = n ∧ (scanP f n.toNat 0 0 0 0).2.1 = 5 ∧ 2 ≤ (scanP f n.toNat 0 0 0 0).2.2.2 then 1 else 0)))) (zb [Wpage X o b n ((scanP f n.toNat 0 0 0 0).2.1) ((scanP f n.toNat 0 0 0 0).2.2.1) ((scanP f n.toNat 0 0 0 0).2.2.2) f]) := by
  refine z_enter (cc := cX3_isDairy) (maxL := 1) (ret := (some .boolean)) (by decide) rfl (Nat.le_of_ble_eq_true rfl) ?_
  intro p e s m below meth c A ls Q hQ hE hl hP hD
  obtain ⟨hx, hb, hr, hml, hown, hts, hlocks, hnm, hA, hK⟩ := hE
  have hown : s.vm.findClass RX3 = some m.cls := hown
  have hS : va_S A s.heap s.heap [] := va_S.rf
  have hl : lv_has ls 1 [(0, .ref o)] := hl
  have inX3 : ∀ w ∈ u_ws RX3 TX3 5, w ∈ wsX3_isDairy := by decide +kernel
  obtain ⟨hn, hf⟩ := id hs
  have hsi := scanP_in f n.toNat 0 0 0 0 (by omega) (by omega) (by omega)
  refine lv_aload_n hx hb dX3_isDairy_0 rfl (lv_at hl 0 rfl) ?_
  have hPm := zp_perm hP (zblk (show List.Perm ([Wpage X o b n x y t f] : List va_W) ([Wpage X o b n x y t f] ++ []) from (zf1 _ 0 _ rfl).trans ((List.Perm.refl _).cons _)))
  have hDm := zd_perm hD (zblk (show List.Perm ([Wpage X o b n x y t f] : List va_W) ([Wpage X o b n x y t f] ++ []) from (zf1 _ 0 _ rfl).trans ((List.Perm.refl _).cons _)))
  refine z_callV (wr := zb []) (As := []) (rest := []) ⟨hx, hb, hml, hown, hts⟩ (c_X3_firstWrong l X o b n x y t f (by exact hs)) (cwV 0 hts gX3_isDairy_X3_firstWrong rfl rfl rfl (by decide +kernel) ⟨Nat.le_of_ble_eq_true rfl, Nat.le_of_ble_eq_true rfl⟩) rfl rfl hl.1 dX3_isDairy_1 rfl rfl (Nat.le_of_ble_eq_true rfl) ⟨Nat.le_of_ble_eq_true rfl, Nat.le_of_ble_eq_true rfl⟩ hS hA hK hPm hDm (fun _ H locs _ hP hD hS => ?_)
  have hP := zp_perm hP ((zblk (show List.Perm ([Wpage X o b n ((scanP f n.toNat 0 0 0 0).2.1) ((scanP f n.toNat 0 0 0 0).2.2.1) ((scanP f n.toNat 0 0 0 0).2.2.2) f] : List va_W) ([Wpage X o b n ((scanP f n.toNat 0 0 0 0).2.1) ((scanP f n.toNat 0 0 0 0).2.2.1) ((scanP f n.toNat 0 0 0 0).2.2.2) f] ++ []) from (zf1 _ 0 _ rfl).trans ((List.Perm.refl _).cons _)))).symm
  have hD := zd_perm hD ((zblk (show List.Perm ([Wpage X o b n ((scanP f n.toNat 0 0 0 0).2.1) ((scanP f n.toNat 0 0 0 0).2.2.1) ((scanP f n.toNat 0 0 0 0).2.2.2) f] : List va_W) ([Wpage X o b n ((scanP f n.toNat 0 0 0 0).2.1) ((scanP f n.toNat 0 0 0 0).2.2.1) ((scanP f n.toNat 0 0 0 0).2.2.2) f] ++ []) from (zf1 _ 0 _ rfl).trans ((List.Perm.refl _).cons _)))).symm
  have hP : va_P X.1 vwCl (zb [Wpage X o b n ((scanP f n.toNat 0 0 0 0).2.1) ((scanP f n.toNat 0 0 0 0).2.2.1) ((scanP f n.toNat 0 0 0 0).2.2.2) f]) H := hP
  have hD : va_D A (zb [Wpage X o b n ((scanP f n.toNat 0 0 0 0).2.1) ((scanP f n.toNat 0 0 0 0).2.2.1) ((scanP f n.toNat 0 0 0 0).2.2.2) f]) := hD
  refine W.eq (g2 := F0 m 4 ls [.int (iI ((scanP f n.toNat 0 0 0 0).1))]) rfl ?_
  refine lv_aload_n hx hb dX3_isDairy_4 rfl (lv_at hl 0 rfl) ?_
  refine va_get (ci := 3) (v := .int (iI n)) (C := RX3) (T := TX3) (N := 5) hx hb hts inX3 hown hK.1 hP 0 rfl rfl 1 (by decide) (hts (.fieldLink RX3 15 "SkimmedSons$Page" "length" "I") (by decide +kernel)) (fun _ h9 => h9) rfl dX3_isDairy_5 ?_
  refine z_icmp_ne (tgt := 31) hx hb (by omega) dX3_isDairy_8 (by decide) (fun c_1 => ?_) (fun c_1 => ?_)
  · skip
    refine lv_iconst (v := iI 0) hx hb dX3_isDairy_31 (by decide) ?_
    exact z_zret (ty := .boolean) hQ hx hb hr (by rfl) hlocks hS ⟨Nat.le_of_ble_eq_true rfl, Nat.le_of_ble_eq_true rfl⟩ dX3_isDairy_32 () (congrArg (fun z => some (Value.int (iI z))) (show (if (scanP f n.toNat 0 0 0 0).1 = n ∧ (scanP f n.toNat 0 0 0 0).2.1 = 5 ∧ 2 ≤ (scanP f n.toNat 0 0 0 0).2.2.2 then 1 else 0 : Int) = 0 by omega)) trivial hP hD
  · skip
    refine lv_aload_n hx hb dX3_isDairy_11 rfl (lv_at hl 0 rfl) ?_
    refine va_get (ci := 3) (v := .int (iI ((scanP f n.toNat 0 0 0 0).2.1))) (C := RX3) (T := TX3) (N := 5) hx hb hts inX3 hown hK.1 hP 0 rfl rfl 2 (by decide) (hts (.fieldLink RX3 33 "SkimmedSons$Page" "expected" "I") (by decide +kernel)) (fun _ h9 => h9) rfl dX3_isDairy_12 ?_
    refine lv_iconst (v := iI 5) hx hb dX3_isDairy_15 (by decide) ?_
    refine z_icmp_ne (tgt := 31) hx hb (by omega) dX3_isDairy_16 (by decide) (fun c_2 => ?_) (fun c_2 => ?_)
    · skip
      refine lv_iconst (v := iI 0) hx hb dX3_isDairy_31 (by decide) ?_
      exact z_zret (ty := .boolean) hQ hx hb hr (by rfl) hlocks hS ⟨Nat.le_of_ble_eq_true rfl, Nat.le_of_ble_eq_true rfl⟩ dX3_isDairy_32 () (congrArg (fun z => some (Value.int (iI z))) (show (if (scanP f n.toNat 0 0 0 0).1 = n ∧ (scanP f n.toNat 0 0 0 0).2.1 = 5 ∧ 2 ≤ (scanP f n.toNat 0 0 0 0).2.2.2 then 1 else 0 : Int) = 0 by omega)) trivial hP hD
    · skip
      refine lv_aload_n hx hb dX3_isDairy_19 rfl (lv_at hl 0 rfl) ?_
      refine va_get (ci := 3) (v := .int (iI ((scanP f n.toNat 0 0 0 0).2.2.2))) (C := RX3) (T := TX3) (N := 5) hx hb hts inX3 hown hK.1 hP 0 rfl rfl 4 (by decide) (hts (.fieldLink RX3 26 "SkimmedSons$Page" "childrenRead" "I") (by decide +kernel)) (fun _ h9 => h9) rfl dX3_isDairy_20 ?_
      refine lv_iconst (v := iI 2) hx hb dX3_isDairy_23 (by decide) ?_
      refine z_icmp_lt (tgt := 31) hx hb (by omega) dX3_isDairy_24 (by decide) (fun c_3 => ?_) (fun c_3 => ?_)
      · skip
        refine lv_iconst (v := iI 0) hx hb dX3_isDairy_31 (by decide) ?_
        exact z_zret (ty := .boolean) hQ hx hb hr (by rfl) hlocks hS ⟨Nat.le_of_ble_eq_true rfl, Nat.le_of_ble_eq_true rfl⟩ dX3_isDairy_32 () (congrArg (fun z => some (Value.int (iI z))) (show (if (scanP f n.toNat 0 0 0 0).1 = n ∧ (scanP f n.toNat 0 0 0 0).2.1 = 5 ∧ 2 ≤ (scanP f n.toNat 0 0 0 0).2.2.2 then 1 else 0 : Int) = 0 by omega)) trivial hP hD
      · skip
        refine lv_iconst (v := iI 1) hx hb dX3_isDairy_27 (by decide) ?_
        refine lv_goto (tgt := 32) hx hb dX3_isDairy_28 (by decide) ?_
        exact z_zret (ty := .boolean) hQ hx hb hr (by rfl) hlocks hS ⟨Nat.le_of_ble_eq_true rfl, Nat.le_of_ble_eq_true rfl⟩ dX3_isDairy_32 () (congrArg (fun z => some (Value.int (iI z))) (show (if (scanP f n.toNat 0 0 0 0).1 = n ∧ (scanP f n.toNat 0 0 0 0).2.1 = 5 ∧ 2 ≤ (scanP f n.toNat 0 0 0 0).2.2.2 then 1 else 0 : Int) = 1 by omega)) trivial hP hD
