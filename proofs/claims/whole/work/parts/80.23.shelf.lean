set_option maxHeartbeats 1000000 in
set_option maxRecDepth 100000 in
theorem c_X7_size (l : Launch) (X : zX) (h : Nat) (r : Nat) (q : Nat → Nat) (n : Int) (pv : Nat → Nat → Int)  : zF l X yX7_size wsX7_size 0 0 [.ref h] (zb [Wshelf X h r q n pv]) (some (.int (iI n))) (zb [Wshelf X h r q n pv]) := by
  refine z_enter (cc := cX7_size) (maxL := 1) (ret := (some .int)) (by decide) rfl (Nat.le_of_ble_eq_true rfl) ?_
  intro p e s m below meth c A ls Q hQ hE hl hP hD
  obtain ⟨hx, hb, hr, hml, hown, hts, hlocks, hnm, hA, hK⟩ := hE
  have hown : s.vm.findClass RX7 = some m.cls := hown
  have hS : va_S A s.heap s.heap [] := va_S.rf
  have hl : lv_has ls 1 [(0, .ref h)] := hl
  have inX7 : ∀ w ∈ u_ws RX7 TX7 2, w ∈ wsX7_size := by decide +kernel
  refine lv_aload_n hx hb dX7_size_0 rfl (lv_at hl 0 rfl) ?_
  refine va_get (ci := 7) (v := .int (iI n)) (C := RX7) (T := TX7) (N := 2) hx hb hts inX7 hown hK.1 hP 0 rfl rfl 1 (by decide) (hts (.fieldLink RX7 18 "SkimmedSons$Shelf" "count" "I") (by decide +kernel)) (fun _ h9 => h9) rfl dX7_size_1 ?_
  exact z_iret hQ hx hb hr hlocks hS ⟨Nat.le_of_ble_eq_true rfl, Nat.le_of_ble_eq_true rfl⟩ dX7_size_4 () rfl trivial hP hD
set_option maxHeartbeats 1000000 in
set_option maxRecDepth 100000 in
theorem c_X7_clear (l : Launch) (X : zX) (h : Nat) (r : Nat) (q : Nat → Nat) (n : Int) (pv : Nat → Nat → Int)  : zF l X yX7_clear wsX7_clear 0 0 [.ref h] (zb [Wshelf X h r q n pv]) none (zb [Wshelf X h r q 0 pv]) := by
  refine z_enter (cc := cX7_clear) (maxL := 1) (ret := none) (by decide) rfl (Nat.le_of_ble_eq_true rfl) ?_
  intro p e s m below meth c A ls Q hQ hE hl hP hD
  obtain ⟨hx, hb, hr, hml, hown, hts, hlocks, hnm, hA, hK⟩ := hE
  have hown : s.vm.findClass RX7 = some m.cls := hown
  have hS : va_S A s.heap s.heap [] := va_S.rf
  have hl : lv_has ls 1 [(0, .ref h)] := hl
  have inX7 : ∀ w ∈ u_ws RX7 TX7 2, w ∈ wsX7_clear := by decide +kernel
  refine lv_aload_n hx hb dX7_clear_0 rfl (lv_at hl 0 rfl) ?_
  refine lv_iconst (v := iI 0) hx hb dX7_clear_1 (by decide) ?_
  refine va_put (ci := 7) (v := .int (iI 0)) (ty := .int) (C := RX7) (T := TX7) (N := 2) hx hb hts inX7 tyX7 tyX7_ok nmX7 hown hK.1 hP hD hS 0 rfl rfl 1 (by decide) (hts (.fieldLink RX7 18 "SkimmedSons$Shelf" "count" "I") (by decide +kernel)) (fun _ h9 => h9) rfl (by decide +kernel) rfl rfl (Nat.le_of_ble_eq_true rfl) dX7_clear_2 (fun H locs hP hD hS => ?_)
  have hP : va_P X.1 vwCl (zb [Wshelf X h r q 0 pv]) H := hP
  have hD : va_D A (zb [Wshelf X h r q 0 pv]) := hD
  exact z_vret hQ hx hb hr hlocks hS ⟨Nat.le_of_ble_eq_true rfl, Nat.le_of_ble_eq_true rfl⟩ dX7_clear_5 () rfl trivial hP hD
set_option maxHeartbeats 1000000 in
set_option maxRecDepth 100000 in
theorem c_X7_at_s (l : Launch) (X : zX) (h : Nat) (r : Nat) (q : Nat → Nat) (n : Int) (pv : Nat → Nat → Int) (z : Int) (hn : 0 ≤ n ∧ n ≤ 3) (hz : 0 ≤ z ∧ z < n) : zF l X yX7_at wsX7_at 0 0 [.ref h, .int (iI z)] (zb [Wshelf X h r q n pv]) (some (Value.ref (q z.toNat))) (zb [Wshelf X h r q n pv]) := by
  refine z_enter (cc := cX7_at) (maxL := 2) (ret := (some (.object "SkimmedSons$Pan"))) (by decide) rfl (Nat.le_of_ble_eq_true rfl) ?_
  intro p e s m below meth c A ls Q hQ hE hl hP hD
  obtain ⟨hx, hb, hr, hml, hown, hts, hlocks, hnm, hA, hK⟩ := hE
  have hown : s.vm.findClass RX7 = some m.cls := hown
  have hS : va_S A s.heap s.heap [] := va_S.rf
  have hl : lv_has ls 2 [(0, .ref h), (1, .int (iI z))] := hl
  have inX7 : ∀ w ∈ u_ws RX7 TX7 2, w ∈ wsX7_at := by decide +kernel
  refine lv_iload_n hx hb dX7_at_0 rfl (lv_at hl 1 rfl) ?_
  refine z_if_lt (tgt := 30) hx hb (by omega) dX7_at_1 (by decide) (fun c_1 => ?_) (fun c_1 => ?_)
  · skip
    exact absurd c_1 (by omega)
  · skip
    refine lv_iload_n hx hb dX7_at_4 rfl (lv_at hl 1 rfl) ?_
    refine lv_aload_n hx hb dX7_at_5 rfl (lv_at hl 0 rfl) ?_
    refine va_get (ci := 7) (v := .int (iI n)) (C := RX7) (T := TX7) (N := 2) hx hb hts inX7 hown hK.1 hP 0 rfl rfl 1 (by decide) (hts (.fieldLink RX7 18 "SkimmedSons$Shelf" "count" "I") (by decide +kernel)) (fun _ h9 => h9) rfl dX7_at_6 ?_
    refine z_icmp_ge (tgt := 30) hx hb (by omega) dX7_at_9 (by decide) (fun c_2 => ?_) (fun c_2 => ?_)
    · skip
      exact absurd c_2 (by omega)
    · skip
      refine lv_iload_n hx hb dX7_at_12 rfl (lv_at hl 1 rfl) ?_
      refine lv_aload_n hx hb dX7_at_13 rfl (lv_at hl 0 rfl) ?_
      refine va_get (ci := 7) (v := .ref r) (C := RX7) (T := TX7) (N := 2) hx hb hts inX7 hown hK.1 hP 0 rfl rfl 0 (by decide) (hts (.fieldLink RX7 11 "SkimmedSons$Shelf" "pans" "[LSkimmedSons$Pan;") (by decide +kernel)) (fun _ h9 => h9) rfl dX7_at_14 ?_
      refine z_alen (a := 3) hx hb hK.1 hP 1 4 rfl rfl rfl dX7_at_17 ?_
      refine z_icmp_ge (tgt := 30) hx hb (by omega) dX7_at_18 (by decide) (fun c_3 => ?_) (fun c_3 => ?_)
      · skip
        exact absurd c_3 (by omega)
      · skip
        refine lv_aload_n hx hb dX7_at_21 rfl (lv_at hl 0 rfl) ?_
        refine va_get (ci := 7) (v := .ref r) (C := RX7) (T := TX7) (N := 2) hx hb hts inX7 hown hK.1 hP 0 rfl rfl 0 (by decide) (hts (.fieldLink RX7 11 "SkimmedSons$Shelf" "pans" "[LSkimmedSons$Pan;") (by decide +kernel)) (fun _ h9 => h9) rfl dX7_at_22 ?_
        refine lv_iload_n hx hb dX7_at_25 rfl (lv_at hl 1 rfl) ?_
        refine z_aald (v := .ref (q z.toNat)) hx hb hK.1 hP 1 4 rfl rfl (by omega) dX7_at_26 (by rfl) ?_
        refine lv_goto (tgt := 31) hx hb dX7_at_27 (by decide) ?_
        exact z_aret hQ hx hb hr (Or.inr ⟨_, rfl⟩) hlocks hS ⟨Nat.le_of_ble_eq_true rfl, Nat.le_of_ble_eq_true rfl⟩ dX7_at_31 () (congrArg some (show Value.ref (q z.toNat) = Value.ref (q z.toNat) by rfl)) trivial hP hD
set_option maxHeartbeats 1000000 in
set_option maxRecDepth 100000 in
theorem c_X7_at_n (l : Launch) (X : zX) (h : Nat) (r : Nat) (q : Nat → Nat) (n : Int) (pv : Nat → Nat → Int) (z : Int) (hn : 0 ≤ n ∧ n ≤ 3) (hr : -2147483648 ≤ z ∧ z < 2147483648) (hz : z < 0 ∨ n ≤ z) : zF l X yX7_at wsX7_at 0 0 [.ref h, .int (iI z)] (zb [Wshelf X h r q n pv]) (some Value.null) (zb [Wshelf X h r q n pv]) := by
  refine z_enter (cc := cX7_at) (maxL := 2) (ret := (some (.object "SkimmedSons$Pan"))) (by decide) rfl (Nat.le_of_ble_eq_true rfl) ?_
  intro p e s m below meth c A ls Q hQ hE hl hP hD
  obtain ⟨hx, hb, hr, hml, hown, hts, hlocks, hnm, hA, hK⟩ := hE
  have hown : s.vm.findClass RX7 = some m.cls := hown
  have hS : va_S A s.heap s.heap [] := va_S.rf
  have hl : lv_has ls 2 [(0, .ref h), (1, .int (iI z))] := hl
  have inX7 : ∀ w ∈ u_ws RX7 TX7 2, w ∈ wsX7_at := by decide +kernel
  refine lv_iload_n hx hb dX7_at_0 rfl (lv_at hl 1 rfl) ?_
  refine z_if_lt (tgt := 30) hx hb (by omega) dX7_at_1 (by decide) (fun c_1 => ?_) (fun c_1 => ?_)
  · skip
    refine lv_null hx hb dX7_at_30 ?_
    exact z_aret hQ hx hb hr (Or.inl rfl) hlocks hS ⟨Nat.le_of_ble_eq_true rfl, Nat.le_of_ble_eq_true rfl⟩ dX7_at_31 () (congrArg some (show Value.null = Value.null by rfl)) trivial hP hD
  · skip
    refine lv_iload_n hx hb dX7_at_4 rfl (lv_at hl 1 rfl) ?_
    refine lv_aload_n hx hb dX7_at_5 rfl (lv_at hl 0 rfl) ?_
    refine va_get (ci := 7) (v := .int (iI n)) (C := RX7) (T := TX7) (N := 2) hx hb hts inX7 hown hK.1 hP 0 rfl rfl 1 (by decide) (hts (.fieldLink RX7 18 "SkimmedSons$Shelf" "count" "I") (by decide +kernel)) (fun _ h9 => h9) rfl dX7_at_6 ?_
    refine z_icmp_ge (tgt := 30) hx hb (by omega) dX7_at_9 (by decide) (fun c_2 => ?_) (fun c_2 => ?_)
    · skip
      refine lv_null hx hb dX7_at_30 ?_
      exact z_aret hQ hx hb hr (Or.inl rfl) hlocks hS ⟨Nat.le_of_ble_eq_true rfl, Nat.le_of_ble_eq_true rfl⟩ dX7_at_31 () (congrArg some (show Value.null = Value.null by rfl)) trivial hP hD
    · skip
      refine lv_iload_n hx hb dX7_at_12 rfl (lv_at hl 1 rfl) ?_
      refine lv_aload_n hx hb dX7_at_13 rfl (lv_at hl 0 rfl) ?_
      refine va_get (ci := 7) (v := .ref r) (C := RX7) (T := TX7) (N := 2) hx hb hts inX7 hown hK.1 hP 0 rfl rfl 0 (by decide) (hts (.fieldLink RX7 11 "SkimmedSons$Shelf" "pans" "[LSkimmedSons$Pan;") (by decide +kernel)) (fun _ h9 => h9) rfl dX7_at_14 ?_
      refine z_alen (a := 3) hx hb hK.1 hP 1 4 rfl rfl rfl dX7_at_17 ?_
      refine z_icmp_ge (tgt := 30) hx hb (by omega) dX7_at_18 (by decide) (fun c_3 => ?_) (fun c_3 => ?_)
      · skip
        refine lv_null hx hb dX7_at_30 ?_
        exact z_aret hQ hx hb hr (Or.inl rfl) hlocks hS ⟨Nat.le_of_ble_eq_true rfl, Nat.le_of_ble_eq_true rfl⟩ dX7_at_31 () (congrArg some (show Value.null = Value.null by rfl)) trivial hP hD
      · skip
        exact absurd c_3 (by omega)
set_option maxHeartbeats 1000000 in
set_option maxRecDepth 100000 in
theorem c_X7_add (l : Launch) (X : zX) (h : Nat) (r : Nat) (q : Nat → Nat) (n : Int) (pv : Nat → Nat → Int) (x : Int) (y : Int) (z : Int) (hn : 0 ≤ n ∧ n < 3) : zF l X yX7_add wsX7_add 1 23 [.ref h, .int (iI x), .int (iI y), .int (iI z)] (zb [Wshelf X h r q n pv]) none (zb [Wshelf X h r q (n + 1) (va_up pv n.toNat (mkP x 0 y 0 0 z))]) := by
  refine z_enter (cc := cX7_add) (maxL := 4) (ret := none) (by decide) rfl (Nat.le_of_ble_eq_true rfl) ?_
  intro p e s m below meth c A ls Q hQ hE hl hP hD
  obtain ⟨hx, hb, hr, hml, hown, hts, hlocks, hnm, hA, hK⟩ := hE
  have hown : s.vm.findClass RX7 = some m.cls := hown
  have hS : va_S A s.heap s.heap [] := va_S.rf
  have hl : lv_has ls 4 [(0, .ref h), (1, .int (iI x)), (2, .int (iI y)), (3, .int (iI z))] := hl
  have inX7 : ∀ w ∈ u_ws RX7 TX7 2, w ∈ wsX7_add := by decide +kernel
  refine lv_aload_n hx hb dX7_add_0 rfl (lv_at hl 0 rfl) ?_
  refine va_get (ci := 7) (v := .int (iI n)) (C := RX7) (T := TX7) (N := 2) hx hb hts inX7 hown hK.1 hP 0 rfl rfl 1 (by decide) (hts (.fieldLink RX7 18 "SkimmedSons$Shelf" "count" "I") (by decide +kernel)) (fun _ h9 => h9) rfl dX7_add_1 ?_
  refine lv_aload_n hx hb dX7_add_4 rfl (lv_at hl 0 rfl) ?_
  refine va_get (ci := 7) (v := .ref r) (C := RX7) (T := TX7) (N := 2) hx hb hts inX7 hown hK.1 hP 0 rfl rfl 0 (by decide) (hts (.fieldLink RX7 11 "SkimmedSons$Shelf" "pans" "[LSkimmedSons$Pan;") (by decide +kernel)) (fun _ h9 => h9) rfl dX7_add_5 ?_
  refine z_alen (a := 3) hx hb hK.1 hP 1 4 rfl rfl rfl dX7_add_8 ?_
  refine z_icmp_ge (tgt := 37) hx hb (by omega) dX7_add_9 (by decide) (fun c_1 => ?_) (fun c_1 => ?_)
  · skip
    exact absurd c_1 (by omega)
  · skip
    refine lv_aload_n hx hb dX7_add_12 rfl (lv_at hl 0 rfl) ?_
    refine va_get (ci := 7) (v := .ref r) (C := RX7) (T := TX7) (N := 2) hx hb hts inX7 hown hK.1 hP 0 rfl rfl 0 (by decide) (hts (.fieldLink RX7 11 "SkimmedSons$Shelf" "pans" "[LSkimmedSons$Pan;") (by decide +kernel)) (fun _ h9 => h9) rfl dX7_add_13 ?_
    refine lv_aload_n hx hb dX7_add_16 rfl (lv_at hl 0 rfl) ?_
    refine va_get (ci := 7) (v := .int (iI n)) (C := RX7) (T := TX7) (N := 2) hx hb hts inX7 hown hK.1 hP 0 rfl rfl 1 (by decide) (hts (.fieldLink RX7 18 "SkimmedSons$Shelf" "count" "I") (by decide +kernel)) (fun _ h9 => h9) rfl dX7_add_17 ?_
    refine z_aald (v := .ref (q n.toNat)) hx hb hK.1 hP 1 4 rfl rfl (by omega) dX7_add_20 (by rfl) ?_
    refine lv_iload_n hx hb dX7_add_21 rfl (lv_at hl 1 rfl) ?_
    refine lv_iload_n hx hb dX7_add_22 rfl (lv_at hl 2 rfl) ?_
    refine lv_iload_n hx hb dX7_add_23 rfl (lv_at hl 3 rfl) ?_
    have hP := zp_perm hP (show List.Perm (zb [Wshelf X h r q n pv]) (zb [Wpan (q n.toNat) (pv n.toNat), Wshx X h r q n pv n.toNat]) from zrep (pre := []) (post := []) (bs := [Wshelf X h r q n pv]) (cs := [Wpan (q n.toNat) (pv n.toNat), Wshx X h r q n pv n.toNat]) (by rw [zb1]; exact shelf_foc (by omega)))
    have hD := zd_perm hD (show List.Perm (zb [Wshelf X h r q n pv]) (zb [Wpan (q n.toNat) (pv n.toNat), Wshx X h r q n pv n.toNat]) from zrep (pre := []) (post := []) (bs := [Wshelf X h r q n pv]) (cs := [Wpan (q n.toNat) (pv n.toNat), Wshx X h r q n pv n.toNat]) (by rw [zb1]; exact shelf_foc (by omega)))
    have hPm := zp_perm hP (zblk (show List.Perm ([Wpan (q n.toNat) (pv n.toNat), Wshx X h r q n pv n.toNat] : List va_W) ([Wpan (q n.toNat) (pv n.toNat)] ++ [Wshx X h r q n pv n.toNat]) from (zf1 _ 0 _ rfl).trans ((List.Perm.refl _).cons _)))
    have hDm := zd_perm hD (zblk (show List.Perm ([Wpan (q n.toNat) (pv n.toNat), Wshx X h r q n pv n.toNat] : List va_W) ([Wpan (q n.toNat) (pv n.toNat)] ++ [Wshx X h r q n pv n.toNat]) from (zf1 _ 0 _ rfl).trans ((List.Perm.refl _).cons _)))
    refine z_callV (wr := zb [Wshx X h r q n pv n.toNat]) (As := [.int (iI x), .int (iI y), .int (iI z)]) (rest := []) ⟨hx, hb, hml, hown, hts⟩ (c_X4_fill l X (q n.toNat) (pv n.toNat) x y z ) (cwV 3 hts gX7_add_X4_fill rfl rfl rfl (by decide +kernel) ⟨Nat.le_of_ble_eq_true rfl, Nat.le_of_ble_eq_true rfl⟩) rfl rfl hl.1 dX7_add_24 rfl rfl (Nat.le_of_ble_eq_true rfl) ⟨Nat.le_of_ble_eq_true rfl, Nat.le_of_ble_eq_true rfl⟩ hS hA hK hPm hDm (fun _ H locs _ hP hD hS => ?_)
    have hP := zp_perm hP ((zblk (show List.Perm ([Wpan (q n.toNat) (mkP x 0 y 0 0 z), Wshx X h r q n pv n.toNat] : List va_W) ([Wpan (q n.toNat) (mkP x 0 y 0 0 z)] ++ [Wshx X h r q n pv n.toNat]) from (zf1 _ 0 _ rfl).trans ((List.Perm.refl _).cons _)))).symm
    have hD := zd_perm hD ((zblk (show List.Perm ([Wpan (q n.toNat) (mkP x 0 y 0 0 z), Wshx X h r q n pv n.toNat] : List va_W) ([Wpan (q n.toNat) (mkP x 0 y 0 0 z)] ++ [Wshx X h r q n pv n.toNat]) from (zf1 _ 0 _ rfl).trans ((List.Perm.refl _).cons _)))).symm
    have hP : va_P X.1 vwCl (zb [Wpan (q n.toNat) (mkP x 0 y 0 0 z), Wshx X h r q n pv n.toNat]) H := hP
    have hD : va_D A (zb [Wpan (q n.toNat) (mkP x 0 y 0 0 z), Wshx X h r q n pv n.toNat]) := hD
    refine W.eq (g2 := F0 m 27 ls []) rfl ?_
    have hP := zp_perm hP (show List.Perm (zb [Wpan (q n.toNat) (mkP x 0 y 0 0 z), Wshx X h r q n pv n.toNat]) (zb [Wshelf X h r q n (va_up pv n.toNat (mkP x 0 y 0 0 z))]) from zrep (pre := []) (post := []) (bs := [Wpan (q n.toNat) (mkP x 0 y 0 0 z), Wshx X h r q n pv n.toNat]) (cs := [Wshelf X h r q n (va_up pv n.toNat (mkP x 0 y 0 0 z))]) (by rw [zb1]; exact shelf_unf (by omega) _))
    have hD := zd_perm hD (show List.Perm (zb [Wpan (q n.toNat) (mkP x 0 y 0 0 z), Wshx X h r q n pv n.toNat]) (zb [Wshelf X h r q n (va_up pv n.toNat (mkP x 0 y 0 0 z))]) from zrep (pre := []) (post := []) (bs := [Wpan (q n.toNat) (mkP x 0 y 0 0 z), Wshx X h r q n pv n.toNat]) (cs := [Wshelf X h r q n (va_up pv n.toNat (mkP x 0 y 0 0 z))]) (by rw [zb1]; exact shelf_unf (by omega) _))
    refine lv_aload_n hx hb dX7_add_27 rfl (lv_at hl 0 rfl) ?_
    refine lv_dup hx hb dX7_add_28 rfl ?_
    refine va_get (ci := 7) (v := .int (iI n)) (C := RX7) (T := TX7) (N := 2) hx hb hts inX7 hown hK.1 hP 0 rfl rfl 1 (by decide) (hts (.fieldLink RX7 18 "SkimmedSons$Shelf" "count" "I") (by decide +kernel)) (fun _ h9 => h9) rfl dX7_add_29 ?_
    refine lv_iconst (v := iI 1) hx hb dX7_add_32 (by decide) ?_
    refine z_iadd hx hb dX7_add_33 ?_
    refine z_topi (fun z_2 ez_2 => ?_)
    refine va_put (ci := 7) (v := .int (iI z_2)) (ty := .int) (C := RX7) (T := TX7) (N := 2) hx hb hts inX7 tyX7 tyX7_ok nmX7 hown hK.1 hP hD hS 0 rfl rfl 1 (by decide) (hts (.fieldLink RX7 18 "SkimmedSons$Shelf" "count" "I") (by decide +kernel)) (fun _ h9 => h9) rfl (by decide +kernel) rfl rfl (Nat.le_of_ble_eq_true rfl) dX7_add_34 (fun H locs hP hD hS => ?_)
    have hP : va_P X.1 vwCl (zb [Wshelf X h r q z_2 (va_up pv n.toNat (mkP x 0 y 0 0 z))]) H := hP
    have hD : va_D A (zb [Wshelf X h r q z_2 (va_up pv n.toNat (mkP x 0 y 0 0 z))]) := hD
    have hw : zb [Wshelf X h r q z_2 (va_up pv n.toNat (mkP x 0 y 0 0 z))] = zb [Wshelf X h r q (n + 1) (va_up pv n.toNat (mkP x 0 y 0 0 z))] := by subst ez_2; rfl
    rw [hw] at hP hD
    exact z_vret hQ hx hb hr hlocks hS ⟨Nat.le_of_ble_eq_true rfl, Nat.le_of_ble_eq_true rfl⟩ dX7_add_37 () rfl trivial hP hD
set_option maxHeartbeats 1000000 in
set_option maxRecDepth 100000 in
theorem c_X7_standHour (l : Launch) (X : zX) (h : Nat) (r : Nat) (q : Nat → Nat) (n : Int) (pv : Nat → Nat → Int) (hn : 0 ≤ n ∧ n ≤ 3) (hpv : PanS pv) : zF l X yX7_standHour wsX7_standHour 2 61 [.ref h] (zb [Wshelf X h r q n pv]) none (zb [Wshelf X h r q n (catTo (fun j => hourP (pv j)) pv n.toNat)]) := by
  refine z_enter (cc := cX7_standHour) (maxL := 2) (ret := none) (by decide) rfl (Nat.le_of_ble_eq_true rfl) ?_
  intro p e s m below meth c A ls Q hQ hE hl hP hD
  obtain ⟨hx, hb, hr, hml, hown, hts, hlocks, hnm, hA, hK⟩ := hE
  have hown : s.vm.findClass RX7 = some m.cls := hown
  have hS : va_S A s.heap s.heap [] := va_S.rf
  have hl : lv_has ls 2 [(0, .ref h)] := hl
  have inX7 : ∀ w ∈ u_ws RX7 TX7 2, w ∈ wsX7_standHour := by decide +kernel
  refine lv_iconst (v := iI 0) hx hb dX7_standHour_0 (by decide) ?_
  refine lv_istore_n (lv' := [(1, .int (iI 0)), (0, .ref h)]) hx hb dX7_standHour_1 rfl hl (by decide) rfl (fun ls hl => ?_)
  have L2 : ∀ (fu : Nat) (i : Nat), ((i : Int) ≤ n) → (n - ↑i).toNat < fu → ∀ (H : Heap) (locs : List Loc) (ls : Array Slot), va_P X.1 vwCl (zb [Wshelf X h r q n (catTo (fun j => hourP (pv j)) pv i)]) H → va_D A (zb [Wshelf X h r q n (catTo (fun j => hourP (pv j)) pv i)]) → va_S A s.heap H locs → lv_has ls 2 [(0, .ref h), (1, .int (iI (↑i)))] → W p l e { frames := 2, cells := 0, slots := 0, locals := 61 } s m ([.ref h] : List Value).toArray below meth c H locs 0 0 Q (F0 m 2 ls []) := by
    intro fu
    induction fu with
    | zero => intro i hi hm; exact absurd hm (Nat.not_lt_zero _)
    | succ fu ih2 =>
      intro i hi hm H locs ls hP hD hS hl
      refine lv_iload_n hx hb dX7_standHour_2 rfl (lv_at hl 1 rfl) ?_
      refine lv_aload_n hx hb dX7_standHour_3 rfl (lv_at hl 0 rfl) ?_
      refine va_get (ci := 7) (v := .int (iI n)) (C := RX7) (T := TX7) (N := 2) hx hb hts inX7 hown hK.1 hP 0 rfl rfl 1 (by decide) (hts (.fieldLink RX7 18 "SkimmedSons$Shelf" "count" "I") (by decide +kernel)) (fun _ h9 => h9) rfl dX7_standHour_4 ?_
      refine z_icmp_ge (tgt := 25) hx hb (by omega) dX7_standHour_7 (by decide) (fun c_1 => ?_) (fun c_1 => ?_)
      · skip
        have hw : zb [Wshelf X h r q n (catTo (fun j => hourP (pv j)) pv i)] = zb [Wshelf X h r q n (catTo (fun j => hourP (pv j)) pv n.toNat)] := by rw [show i = n.toNat by omega]
        rw [hw] at hP hD
        exact z_vret hQ hx hb hr hlocks hS ⟨Nat.le_of_ble_eq_true rfl, Nat.le_of_ble_eq_true rfl⟩ dX7_standHour_25 () rfl trivial hP hD
      · skip
        refine lv_aload_n hx hb dX7_standHour_10 rfl (lv_at hl 0 rfl) ?_
        refine va_get (ci := 7) (v := .ref r) (C := RX7) (T := TX7) (N := 2) hx hb hts inX7 hown hK.1 hP 0 rfl rfl 0 (by decide) (hts (.fieldLink RX7 11 "SkimmedSons$Shelf" "pans" "[LSkimmedSons$Pan;") (by decide +kernel)) (fun _ h9 => h9) rfl dX7_standHour_11 ?_
        refine lv_iload_n hx hb dX7_standHour_14 rfl (lv_at hl 1 rfl) ?_
        refine z_aald (v := .ref (q i)) hx hb hK.1 hP 1 4 rfl rfl (by omega) dX7_standHour_15 (by rfl) ?_
        have hP := zp_perm hP (show List.Perm (zb [Wshelf X h r q n (catTo (fun j => hourP (pv j)) pv i)]) (zb [Wpan (q i) ((catTo (fun j => hourP (pv j)) pv i) i), Wshx X h r q n (catTo (fun j => hourP (pv j)) pv i) i]) from zrep (pre := []) (post := []) (bs := [Wshelf X h r q n (catTo (fun j => hourP (pv j)) pv i)]) (cs := [Wpan (q i) ((catTo (fun j => hourP (pv j)) pv i) i), Wshx X h r q n (catTo (fun j => hourP (pv j)) pv i) i]) (by rw [zb1]; exact shelf_foc (by omega)))
        have hD := zd_perm hD (show List.Perm (zb [Wshelf X h r q n (catTo (fun j => hourP (pv j)) pv i)]) (zb [Wpan (q i) ((catTo (fun j => hourP (pv j)) pv i) i), Wshx X h r q n (catTo (fun j => hourP (pv j)) pv i) i]) from zrep (pre := []) (post := []) (bs := [Wshelf X h r q n (catTo (fun j => hourP (pv j)) pv i)]) (cs := [Wpan (q i) ((catTo (fun j => hourP (pv j)) pv i) i), Wshx X h r q n (catTo (fun j => hourP (pv j)) pv i) i]) (by rw [zb1]; exact shelf_foc (by omega)))
        rw [show (catTo (fun j => hourP (pv j)) pv i) i = pv i from catTo_at _ _ _] at hP hD
        have hPm := zp_perm hP (zblk (show List.Perm ([Wpan (q i) (pv i), Wshx X h r q n (catTo (fun j => hourP (pv j)) pv i) i] : List va_W) ([Wpan (q i) (pv i)] ++ [Wshx X h r q n (catTo (fun j => hourP (pv j)) pv i) i]) from (zf1 _ 0 _ rfl).trans ((List.Perm.refl _).cons _)))
        have hDm := zd_perm hD (zblk (show List.Perm ([Wpan (q i) (pv i), Wshx X h r q n (catTo (fun j => hourP (pv j)) pv i) i] : List va_W) ([Wpan (q i) (pv i)] ++ [Wshx X h r q n (catTo (fun j => hourP (pv j)) pv i) i]) from (zf1 _ 0 _ rfl).trans ((List.Perm.refl _).cons _)))
        refine z_callV (wr := zb [Wshx X h r q n (catTo (fun j => hourP (pv j)) pv i) i]) (As := []) (rest := []) ⟨hx, hb, hml, hown, hts⟩ (c_X4_standHour l X (q i) (pv i) (by exact hpv i (by omega))) (cwV 0 hts gX7_standHour_X4_standHour rfl rfl rfl (by decide +kernel) ⟨Nat.le_of_ble_eq_true rfl, Nat.le_of_ble_eq_true rfl⟩) rfl rfl hl.1 dX7_standHour_16 rfl rfl (Nat.le_of_ble_eq_true rfl) ⟨Nat.le_of_ble_eq_true rfl, Nat.le_of_ble_eq_true rfl⟩ hS hA hK hPm hDm (fun _ H locs _ hP hD hS => ?_)
        have hP := zp_perm hP ((zblk (show List.Perm ([Wpan (q i) (hourP (pv i)), Wshx X h r q n (catTo (fun j => hourP (pv j)) pv i) i] : List va_W) ([Wpan (q i) (hourP (pv i))] ++ [Wshx X h r q n (catTo (fun j => hourP (pv j)) pv i) i]) from (zf1 _ 0 _ rfl).trans ((List.Perm.refl _).cons _)))).symm
        have hD := zd_perm hD ((zblk (show List.Perm ([Wpan (q i) (hourP (pv i)), Wshx X h r q n (catTo (fun j => hourP (pv j)) pv i) i] : List va_W) ([Wpan (q i) (hourP (pv i))] ++ [Wshx X h r q n (catTo (fun j => hourP (pv j)) pv i) i]) from (zf1 _ 0 _ rfl).trans ((List.Perm.refl _).cons _)))).symm
        have hP : va_P X.1 vwCl (zb [Wpan (q i) (hourP (pv i)), Wshx X h r q n (catTo (fun j => hourP (pv j)) pv i) i]) H := hP
        have hD : va_D A (zb [Wpan (q i) (hourP (pv i)), Wshx X h r q n (catTo (fun j => hourP (pv j)) pv i) i]) := hD
        refine W.eq (g2 := F0 m 19 ls []) rfl ?_
        have hP := zp_perm hP (show List.Perm (zb [Wpan (q i) (hourP (pv i)), Wshx X h r q n (catTo (fun j => hourP (pv j)) pv i) i]) (zb [Wshelf X h r q n (va_up (catTo (fun j => hourP (pv j)) pv i) i (hourP (pv i)))]) from zrep (pre := []) (post := []) (bs := [Wpan (q i) (hourP (pv i)), Wshx X h r q n (catTo (fun j => hourP (pv j)) pv i) i]) (cs := [Wshelf X h r q n (va_up (catTo (fun j => hourP (pv j)) pv i) i (hourP (pv i)))]) (by rw [zb1]; exact shelf_unf (by omega) _))
        have hD := zd_perm hD (show List.Perm (zb [Wpan (q i) (hourP (pv i)), Wshx X h r q n (catTo (fun j => hourP (pv j)) pv i) i]) (zb [Wshelf X h r q n (va_up (catTo (fun j => hourP (pv j)) pv i) i (hourP (pv i)))]) from zrep (pre := []) (post := []) (bs := [Wpan (q i) (hourP (pv i)), Wshx X h r q n (catTo (fun j => hourP (pv j)) pv i) i]) (cs := [Wshelf X h r q n (va_up (catTo (fun j => hourP (pv j)) pv i) i (hourP (pv i)))]) (by rw [zb1]; exact shelf_unf (by omega) _))
        refine z_iinc (k := 1) (lv' := [(1, .int (iI ((↑i) + 1))), (0, .ref h)]) hx hb dX7_standHour_19 hl rfl (by decide) rfl (fun ls hl => ?_)
        refine lv_goto (tgt := 2) hx hb dX7_standHour_22 (by decide) ?_
        have hw_2 : zb [Wshelf X h r q n (va_up (catTo (fun j => hourP (pv j)) pv i) i (hourP (pv i)))] = zb [Wshelf X h r q n (catTo (fun j => hourP (pv j)) pv (i + 1))] := by rw [catTo_step (fun j => hourP (pv j)) pv i]
        rw [hw_2] at hP hD
        exact ih2  (i + 1) (by omega) (by omega) _ _ _ hP hD hS (lv_sub hl [1, 0] rfl)
  have hw_3 : zb [Wshelf X h r q n pv] = zb [Wshelf X h r q n (catTo (fun j => hourP (pv j)) pv 0)] := by rw [catTo_0]
  rw [hw_3] at hP hD
  exact L2 ((n - ↑(0 : Nat)).toNat + 1) 0 (by omega) (by omega) _ _ _ hP hD hS (lv_sub hl [1, 0] rfl)
set_option maxHeartbeats 1000000 in
set_option maxRecDepth 100000 in
theorem c_X7_copyFrom (l : Launch) (X : zX) (h : Nat) (r : Nat) (q : Nat → Nat) (n : Int) (pv : Nat → Nat → Int) (h2 : Nat) (r2 : Nat) (q2 : Nat → Nat) (n2 : Int) (pv2 : Nat → Nat → Int) (hn2 : 0 ≤ n2 ∧ n2 ≤ 3) : zF l X yX7_copyFrom wsX7_copyFrom 1 40 [.ref h, .ref h2] (zb [Wshelf X h r q n pv, Wshelf X h2 r2 q2 n2 pv2]) none (zb [Wshelf X h r q n2 (catTo pv2 pv n2.toNat), Wshelf X h2 r2 q2 n2 pv2]) := by
  refine z_enter (cc := cX7_copyFrom) (maxL := 3) (ret := none) (by decide) rfl (Nat.le_of_ble_eq_true rfl) ?_
  intro p e s m below meth c A ls Q hQ hE hl hP hD
  obtain ⟨hx, hb, hr, hml, hown, hts, hlocks, hnm, hA, hK⟩ := hE
  have hown : s.vm.findClass RX7 = some m.cls := hown
  have hS : va_S A s.heap s.heap [] := va_S.rf
  have hl : lv_has ls 3 [(0, .ref h), (1, .ref h2)] := hl
  have inX7 : ∀ w ∈ u_ws RX7 TX7 2, w ∈ wsX7_copyFrom := by decide +kernel
  refine lv_aload_n hx hb dX7_copyFrom_0 rfl (lv_at hl 0 rfl) ?_
  refine lv_aload_n hx hb dX7_copyFrom_1 rfl (lv_at hl 1 rfl) ?_
  refine va_get (ci := 7) (v := .int (iI n2)) (C := RX7) (T := TX7) (N := 2) hx hb hts inX7 hown hK.1 hP 5 rfl rfl 1 (by decide) (hts (.fieldLink RX7 18 "SkimmedSons$Shelf" "count" "I") (by decide +kernel)) (fun _ h9 => h9) rfl dX7_copyFrom_2 ?_
  refine lv_aload_n hx hb dX7_copyFrom_5 rfl (lv_at hl 0 rfl) ?_
  refine va_get (ci := 7) (v := .ref r) (C := RX7) (T := TX7) (N := 2) hx hb hts inX7 hown hK.1 hP 0 rfl rfl 0 (by decide) (hts (.fieldLink RX7 11 "SkimmedSons$Shelf" "pans" "[LSkimmedSons$Pan;") (by decide +kernel)) (fun _ h9 => h9) rfl dX7_copyFrom_6 ?_
  refine z_alen (a := 3) hx hb hK.1 hP 1 4 rfl rfl rfl dX7_copyFrom_9 ?_
  refine z_mmin hx hb (hml.trans hl.1.symm) hown (hts (.methodLink RX7 26 Lib.Math.min.name) (by decide +kernel)) (hts (.static Lib.Math.min.name) (by decide +kernel)) (hts (.initialized "java/lang/Math") (by decide +kernel)) (hts (.code Lib.Math.min.name Lib.Math.min.code 2 (some .int)) (by decide +kernel)) (Nat.le_of_ble_eq_true rfl) (Nat.le_of_ble_eq_true rfl) (Nat.le_of_ble_eq_true rfl) (Nat.le_of_ble_eq_true rfl) (by omega) dX7_copyFrom_10 ?_
  refine va_put (ci := 7) (v := .int (iI (min n2 3))) (ty := .int) (C := RX7) (T := TX7) (N := 2) hx hb hts inX7 tyX7 tyX7_ok nmX7 hown hK.1 hP hD hS 0 rfl rfl 1 (by decide) (hts (.fieldLink RX7 18 "SkimmedSons$Shelf" "count" "I") (by decide +kernel)) (fun _ h9 => h9) rfl (by decide +kernel) rfl rfl (Nat.le_of_ble_eq_true rfl) dX7_copyFrom_13 (fun H locs hP hD hS => ?_)
  have hP : va_P X.1 vwCl (zb [Wshelf X h r q (min n2 3) pv, Wshelf X h2 r2 q2 n2 pv2]) H := hP
  have hD : va_D A (zb [Wshelf X h r q (min n2 3) pv, Wshelf X h2 r2 q2 n2 pv2]) := hD
  refine lv_iconst (v := iI 0) hx hb dX7_copyFrom_16 (by decide) ?_
  refine lv_istore_n (lv' := [(2, .int (iI 0)), (0, .ref h), (1, .ref h2)]) hx hb dX7_copyFrom_17 rfl hl (by decide) rfl (fun ls hl => ?_)
  have L18 : ∀ (fu : Nat) (i : Nat), ((i : Int) ≤ n2) → (n2 - ↑i).toNat < fu → ∀ (H : Heap) (locs : List Loc) (ls : Array Slot), va_P X.1 vwCl (zb [Wshelf X h r q n2 (catTo pv2 pv i), Wshelf X h2 r2 q2 n2 pv2]) H → va_D A (zb [Wshelf X h r q n2 (catTo pv2 pv i), Wshelf X h2 r2 q2 n2 pv2]) → va_S A s.heap H locs → lv_has ls 3 [(0, .ref h), (1, .ref h2), (2, .int (iI (↑i)))] → W p l e { frames := 1, cells := 0, slots := 0, locals := 40 } s m ([.ref h, .ref h2] : List Value).toArray below meth c H locs 0 0 Q (F0 m 18 ls []) := by
    intro fu
    induction fu with
    | zero => intro i hi hm; exact absurd hm (Nat.not_lt_zero _)
    | succ fu ih18 =>
      intro i hi hm H locs ls hP hD hS hl
      refine lv_iload_n hx hb dX7_copyFrom_18 rfl (lv_at hl 2 rfl) ?_
      refine lv_aload_n hx hb dX7_copyFrom_19 rfl (lv_at hl 0 rfl) ?_
      refine va_get (ci := 7) (v := .int (iI n2)) (C := RX7) (T := TX7) (N := 2) hx hb hts inX7 hown hK.1 hP 0 rfl rfl 1 (by decide) (hts (.fieldLink RX7 18 "SkimmedSons$Shelf" "count" "I") (by decide +kernel)) (fun _ h9 => h9) rfl dX7_copyFrom_20 ?_
      refine z_icmp_ge (tgt := 47) hx hb (by omega) dX7_copyFrom_23 (by decide) (fun c_1 => ?_) (fun c_1 => ?_)
      · skip
        have hw : zb [Wshelf X h r q n2 (catTo pv2 pv i), Wshelf X h2 r2 q2 n2 pv2] = zb [Wshelf X h r q n2 (catTo pv2 pv n2.toNat), Wshelf X h2 r2 q2 n2 pv2] := by rw [show i = n2.toNat by omega]
        rw [hw] at hP hD
        exact z_vret hQ hx hb hr hlocks hS ⟨Nat.le_of_ble_eq_true rfl, Nat.le_of_ble_eq_true rfl⟩ dX7_copyFrom_47 () rfl trivial hP hD
      · skip
        refine lv_aload_n hx hb dX7_copyFrom_26 rfl (lv_at hl 0 rfl) ?_
        refine va_get (ci := 7) (v := .ref r) (C := RX7) (T := TX7) (N := 2) hx hb hts inX7 hown hK.1 hP 0 rfl rfl 0 (by decide) (hts (.fieldLink RX7 11 "SkimmedSons$Shelf" "pans" "[LSkimmedSons$Pan;") (by decide +kernel)) (fun _ h9 => h9) rfl dX7_copyFrom_27 ?_
        refine lv_iload_n hx hb dX7_copyFrom_30 rfl (lv_at hl 2 rfl) ?_
        refine z_aald (v := .ref (q i)) hx hb hK.1 hP 1 4 rfl rfl (by omega) dX7_copyFrom_31 (by rfl) ?_
        refine lv_aload_n hx hb dX7_copyFrom_32 rfl (lv_at hl 1 rfl) ?_
        refine va_get (ci := 7) (v := .ref r2) (C := RX7) (T := TX7) (N := 2) hx hb hts inX7 hown hK.1 hP 5 rfl rfl 0 (by decide) (hts (.fieldLink RX7 11 "SkimmedSons$Shelf" "pans" "[LSkimmedSons$Pan;") (by decide +kernel)) (fun _ h9 => h9) rfl dX7_copyFrom_33 ?_
        refine lv_iload_n hx hb dX7_copyFrom_36 rfl (lv_at hl 2 rfl) ?_
        refine z_aald (v := .ref (q2 i)) hx hb hK.1 hP 6 4 rfl rfl (by omega) dX7_copyFrom_37 (by rfl) ?_
        have hP := zp_perm hP (show List.Perm (zb [Wshelf X h r q n2 (catTo pv2 pv i), Wshelf X h2 r2 q2 n2 pv2]) (zb [Wpan (q i) ((catTo pv2 pv i) i), Wshx X h r q n2 (catTo pv2 pv i) i, Wshelf X h2 r2 q2 n2 pv2]) from zrep (pre := []) (post := [Wshelf X h2 r2 q2 n2 pv2]) (bs := [Wshelf X h r q n2 (catTo pv2 pv i)]) (cs := [Wpan (q i) ((catTo pv2 pv i) i), Wshx X h r q n2 (catTo pv2 pv i) i]) (by rw [zb1]; exact shelf_foc (by omega)))
        have hD := zd_perm hD (show List.Perm (zb [Wshelf X h r q n2 (catTo pv2 pv i), Wshelf X h2 r2 q2 n2 pv2]) (zb [Wpan (q i) ((catTo pv2 pv i) i), Wshx X h r q n2 (catTo pv2 pv i) i, Wshelf X h2 r2 q2 n2 pv2]) from zrep (pre := []) (post := [Wshelf X h2 r2 q2 n2 pv2]) (bs := [Wshelf X h r q n2 (catTo pv2 pv i)]) (cs := [Wpan (q i) ((catTo pv2 pv i) i), Wshx X h r q n2 (catTo pv2 pv i) i]) (by rw [zb1]; exact shelf_foc (by omega)))
        rw [show (catTo pv2 pv i) i = pv i from catTo_at _ _ _] at hP hD
        have hP := zp_perm hP (show List.Perm (zb [Wpan (q i) (pv i), Wshx X h r q n2 (catTo pv2 pv i) i, Wshelf X h2 r2 q2 n2 pv2]) (zb [Wpan (q i) (pv i), Wshx X h r q n2 (catTo pv2 pv i) i, Wpan (q2 i) (pv2 i), Wshx X h2 r2 q2 n2 pv2 i]) from zrep (pre := [Wpan (q i) (pv i), Wshx X h r q n2 (catTo pv2 pv i) i]) (post := []) (bs := [Wshelf X h2 r2 q2 n2 pv2]) (cs := [Wpan (q2 i) (pv2 i), Wshx X h2 r2 q2 n2 pv2 i]) (by rw [zb1]; exact shelf_foc (by omega)))
        have hD := zd_perm hD (show List.Perm (zb [Wpan (q i) (pv i), Wshx X h r q n2 (catTo pv2 pv i) i, Wshelf X h2 r2 q2 n2 pv2]) (zb [Wpan (q i) (pv i), Wshx X h r q n2 (catTo pv2 pv i) i, Wpan (q2 i) (pv2 i), Wshx X h2 r2 q2 n2 pv2 i]) from zrep (pre := [Wpan (q i) (pv i), Wshx X h r q n2 (catTo pv2 pv i) i]) (post := []) (bs := [Wshelf X h2 r2 q2 n2 pv2]) (cs := [Wpan (q2 i) (pv2 i), Wshx X h2 r2 q2 n2 pv2 i]) (by rw [zb1]; exact shelf_foc (by omega)))
        have hPm := zp_perm hP (zblk (show List.Perm ([Wpan (q i) (pv i), Wshx X h r q n2 (catTo pv2 pv i) i, Wpan (q2 i) (pv2 i), Wshx X h2 r2 q2 n2 pv2 i] : List va_W) ([Wpan (q i) (pv i), Wpan (q2 i) (pv2 i)] ++ [Wshx X h r q n2 (catTo pv2 pv i) i, Wshx X h2 r2 q2 n2 pv2 i]) from (zf1 _ 0 _ rfl).trans (((zf1 _ 1 _ rfl).trans ((List.Perm.refl _).cons _)).cons _)))
        have hDm := zd_perm hD (zblk (show List.Perm ([Wpan (q i) (pv i), Wshx X h r q n2 (catTo pv2 pv i) i, Wpan (q2 i) (pv2 i), Wshx X h2 r2 q2 n2 pv2 i] : List va_W) ([Wpan (q i) (pv i), Wpan (q2 i) (pv2 i)] ++ [Wshx X h r q n2 (catTo pv2 pv i) i, Wshx X h2 r2 q2 n2 pv2 i]) from (zf1 _ 0 _ rfl).trans (((zf1 _ 1 _ rfl).trans ((List.Perm.refl _).cons _)).cons _)))
        refine z_callV (wr := zb [Wshx X h r q n2 (catTo pv2 pv i) i, Wshx X h2 r2 q2 n2 pv2 i]) (As := [.ref (q2 i)]) (rest := []) ⟨hx, hb, hml, hown, hts⟩ (c_X4_copyFrom l X (q i) (pv i) (q2 i) (pv2 i) ) (cwV 1 hts gX7_copyFrom_X4_copyFrom rfl rfl rfl (by decide +kernel) ⟨Nat.le_of_ble_eq_true rfl, Nat.le_of_ble_eq_true rfl⟩) rfl rfl hl.1 dX7_copyFrom_38 rfl rfl (Nat.le_of_ble_eq_true rfl) ⟨Nat.le_of_ble_eq_true rfl, Nat.le_of_ble_eq_true rfl⟩ hS hA hK hPm hDm (fun _ H locs _ hP hD hS => ?_)
        have hP := zp_perm hP ((zblk (show List.Perm ([Wpan (q i) (pv2 i), Wshx X h r q n2 (catTo pv2 pv i) i, Wpan (q2 i) (pv2 i), Wshx X h2 r2 q2 n2 pv2 i] : List va_W) ([Wpan (q i) (pv2 i), Wpan (q2 i) (pv2 i)] ++ [Wshx X h r q n2 (catTo pv2 pv i) i, Wshx X h2 r2 q2 n2 pv2 i]) from (zf1 _ 0 _ rfl).trans (((zf1 _ 1 _ rfl).trans ((List.Perm.refl _).cons _)).cons _)))).symm
        have hD := zd_perm hD ((zblk (show List.Perm ([Wpan (q i) (pv2 i), Wshx X h r q n2 (catTo pv2 pv i) i, Wpan (q2 i) (pv2 i), Wshx X h2 r2 q2 n2 pv2 i] : List va_W) ([Wpan (q i) (pv2 i), Wpan (q2 i) (pv2 i)] ++ [Wshx X h r q n2 (catTo pv2 pv i) i, Wshx X h2 r2 q2 n2 pv2 i]) from (zf1 _ 0 _ rfl).trans (((zf1 _ 1 _ rfl).trans ((List.Perm.refl _).cons _)).cons _)))).symm
        have hP : va_P X.1 vwCl (zb [Wpan (q i) (pv2 i), Wshx X h r q n2 (catTo pv2 pv i) i, Wpan (q2 i) (pv2 i), Wshx X h2 r2 q2 n2 pv2 i]) H := hP
        have hD : va_D A (zb [Wpan (q i) (pv2 i), Wshx X h r q n2 (catTo pv2 pv i) i, Wpan (q2 i) (pv2 i), Wshx X h2 r2 q2 n2 pv2 i]) := hD
        refine W.eq (g2 := F0 m 41 ls []) rfl ?_
        have hP := zp_perm hP (show List.Perm (zb [Wpan (q i) (pv2 i), Wshx X h r q n2 (catTo pv2 pv i) i, Wpan (q2 i) (pv2 i), Wshx X h2 r2 q2 n2 pv2 i]) (zb [Wpan (q i) (pv2 i), Wshx X h r q n2 (catTo pv2 pv i) i, Wshelf X h2 r2 q2 n2 (va_up pv2 i (pv2 i))]) from zrep (pre := [Wpan (q i) (pv2 i), Wshx X h r q n2 (catTo pv2 pv i) i]) (post := []) (bs := [Wpan (q2 i) (pv2 i), Wshx X h2 r2 q2 n2 pv2 i]) (cs := [Wshelf X h2 r2 q2 n2 (va_up pv2 i (pv2 i))]) (by rw [zb1]; exact shelf_unf (by omega) _))
        have hD := zd_perm hD (show List.Perm (zb [Wpan (q i) (pv2 i), Wshx X h r q n2 (catTo pv2 pv i) i, Wpan (q2 i) (pv2 i), Wshx X h2 r2 q2 n2 pv2 i]) (zb [Wpan (q i) (pv2 i), Wshx X h r q n2 (catTo pv2 pv i) i, Wshelf X h2 r2 q2 n2 (va_up pv2 i (pv2 i))]) from zrep (pre := [Wpan (q i) (pv2 i), Wshx X h r q n2 (catTo pv2 pv i) i]) (post := []) (bs := [Wpan (q2 i) (pv2 i), Wshx X h2 r2 q2 n2 pv2 i]) (cs := [Wshelf X h2 r2 q2 n2 (va_up pv2 i (pv2 i))]) (by rw [zb1]; exact shelf_unf (by omega) _))
        have hP := zp_perm hP (show List.Perm (zb [Wpan (q i) (pv2 i), Wshx X h r q n2 (catTo pv2 pv i) i, Wshelf X h2 r2 q2 n2 (va_up pv2 i (pv2 i))]) (zb [Wshelf X h r q n2 (va_up (catTo pv2 pv i) i (pv2 i)), Wshelf X h2 r2 q2 n2 (va_up pv2 i (pv2 i))]) from zrep (pre := []) (post := [Wshelf X h2 r2 q2 n2 (va_up pv2 i (pv2 i))]) (bs := [Wpan (q i) (pv2 i), Wshx X h r q n2 (catTo pv2 pv i) i]) (cs := [Wshelf X h r q n2 (va_up (catTo pv2 pv i) i (pv2 i))]) (by rw [zb1]; exact shelf_unf (by omega) _))
        have hD := zd_perm hD (show List.Perm (zb [Wpan (q i) (pv2 i), Wshx X h r q n2 (catTo pv2 pv i) i, Wshelf X h2 r2 q2 n2 (va_up pv2 i (pv2 i))]) (zb [Wshelf X h r q n2 (va_up (catTo pv2 pv i) i (pv2 i)), Wshelf X h2 r2 q2 n2 (va_up pv2 i (pv2 i))]) from zrep (pre := []) (post := [Wshelf X h2 r2 q2 n2 (va_up pv2 i (pv2 i))]) (bs := [Wpan (q i) (pv2 i), Wshx X h r q n2 (catTo pv2 pv i) i]) (cs := [Wshelf X h r q n2 (va_up (catTo pv2 pv i) i (pv2 i))]) (by rw [zb1]; exact shelf_unf (by omega) _))
        refine z_iinc (k := 2) (lv' := [(2, .int (iI ((↑i) + 1))), (0, .ref h), (1, .ref h2)]) hx hb dX7_copyFrom_41 hl rfl (by decide) rfl (fun ls hl => ?_)
        refine lv_goto (tgt := 18) hx hb dX7_copyFrom_44 (by decide) ?_
        have hw_2 : zb [Wshelf X h r q n2 (va_up (catTo pv2 pv i) i (pv2 i)), Wshelf X h2 r2 q2 n2 (va_up pv2 i (pv2 i))] = zb [Wshelf X h r q n2 (catTo pv2 pv (i + 1)), Wshelf X h2 r2 q2 n2 pv2] := by rw [catTo_step pv2 pv i, va_upId]
        rw [hw_2] at hP hD
        exact ih18  (i + 1) (by omega) (by omega) _ _ _ hP hD hS (lv_sub hl [1, 2, 0] rfl)
  have hw_3 : zb [Wshelf X h r q (min n2 3) pv, Wshelf X h2 r2 q2 n2 pv2] = zb [Wshelf X h r q n2 (catTo pv2 pv 0), Wshelf X h2 r2 q2 n2 pv2] := by rw [catTo_0, show min n2 3 = n2 by omega]
  rw [hw_3] at hP hD
  exact L18 ((n2 - ↑(0 : Nat)).toNat + 1) 0 (by omega) (by omega) _ _ _ hP hD hS (lv_sub hl [1, 2, 0] rfl)
set_option maxHeartbeats 1000000 in
set_option maxRecDepth 100000 in
theorem c_X7_topOf_s (l : Launch) (X : zX) (h : Nat) (r : Nat) (q : Nat → Nat) (n : Int) (pv : Nat → Nat → Int) (z : Int) (hn : 0 ≤ n ∧ n ≤ 3) (hpv : PanS pv) (hz : 0 ≤ z ∧ z < n) : zF l X yX7_topOf wsX7_topOf 1 21 [.ref h, .int (iI z)] (zb [Wshelf X h r q n pv]) (some (.int (iI (topP (pv z.toNat))))) (zb [Wshelf X h r q n pv]) := by
  refine z_enter (cc := cX7_topOf) (maxL := 3) (ret := (some .int)) (by decide) rfl (Nat.le_of_ble_eq_true rfl) ?_
  intro p e s m below meth c A ls Q hQ hE hl hP hD
  obtain ⟨hx, hb, hr, hml, hown, hts, hlocks, hnm, hA, hK⟩ := hE
  have hown : s.vm.findClass RX7 = some m.cls := hown
  have hS : va_S A s.heap s.heap [] := va_S.rf
  have hl : lv_has ls 3 [(0, .ref h), (1, .int (iI z))] := hl
  refine lv_aload_n hx hb dX7_topOf_0 rfl (lv_at hl 0 rfl) ?_
  refine lv_iload_n hx hb dX7_topOf_1 rfl (lv_at hl 1 rfl) ?_
  have hPm := zp_perm hP (zblk (show List.Perm ([Wshelf X h r q n pv] : List va_W) ([Wshelf X h r q n pv] ++ []) from (zf1 _ 0 _ rfl).trans ((List.Perm.refl _).cons _)))
  have hDm := zd_perm hD (zblk (show List.Perm ([Wshelf X h r q n pv] : List va_W) ([Wshelf X h r q n pv] ++ []) from (zf1 _ 0 _ rfl).trans ((List.Perm.refl _).cons _)))
  refine z_callV (wr := zb []) (As := [.int (iI z)]) (rest := []) ⟨hx, hb, hml, hown, hts⟩ (c_X7_at_s l X h r q n pv z (by omega) (by omega)) (cwV 1 hts gX7_topOf_X7_at rfl rfl rfl (by decide +kernel) ⟨Nat.le_of_ble_eq_true rfl, Nat.le_of_ble_eq_true rfl⟩) rfl rfl hl.1 dX7_topOf_2 rfl rfl (Nat.le_of_ble_eq_true rfl) ⟨Nat.le_of_ble_eq_true rfl, Nat.le_of_ble_eq_true rfl⟩ hS hA hK hPm hDm (fun _ H locs _ hP hD hS => ?_)
  have hP := zp_perm hP ((zblk (show List.Perm ([Wshelf X h r q n pv] : List va_W) ([Wshelf X h r q n pv] ++ []) from (zf1 _ 0 _ rfl).trans ((List.Perm.refl _).cons _)))).symm
  have hD := zd_perm hD ((zblk (show List.Perm ([Wshelf X h r q n pv] : List va_W) ([Wshelf X h r q n pv] ++ []) from (zf1 _ 0 _ rfl).trans ((List.Perm.refl _).cons _)))).symm
  have hP : va_P X.1 vwCl (zb [Wshelf X h r q n pv]) H := hP
  have hD : va_D A (zb [Wshelf X h r q n pv]) := hD
  refine W.eq (g2 := F0 m 5 ls [.ref (q z.toNat)]) rfl ?_
  refine lv_astore_n (lv' := [(2, .ref (q z.toNat)), (0, .ref h), (1, .int (iI z))]) hx hb dX7_topOf_5 rfl hl (by decide) rfl (fun ls hl => ?_)
  refine lv_aload_n hx hb dX7_topOf_6 rfl (lv_at hl 0 rfl) ?_
  refine lv_ifnonnull (tgt := 14) hx hb dX7_topOf_7 (by decide) ?_
  refine lv_aload_n hx hb dX7_topOf_14 rfl (lv_at hl 0 rfl) ?_
  have hP := zp_perm hP (show List.Perm (zb [Wshelf X h r q n pv]) (zb [Wpan (q z.toNat) (pv z.toNat), Wshx X h r q n pv z.toNat]) from zrep (pre := []) (post := []) (bs := [Wshelf X h r q n pv]) (cs := [Wpan (q z.toNat) (pv z.toNat), Wshx X h r q n pv z.toNat]) (by rw [zb1]; exact shelf_foc (by omega)))
  have hD := zd_perm hD (show List.Perm (zb [Wshelf X h r q n pv]) (zb [Wpan (q z.toNat) (pv z.toNat), Wshx X h r q n pv z.toNat]) from zrep (pre := []) (post := []) (bs := [Wshelf X h r q n pv]) (cs := [Wpan (q z.toNat) (pv z.toNat), Wshx X h r q n pv z.toNat]) (by rw [zb1]; exact shelf_foc (by omega)))
  have hPm := zp_perm hP (zblk (show List.Perm ([Wpan (q z.toNat) (pv z.toNat), Wshx X h r q n pv z.toNat] : List va_W) ([Wpan (q z.toNat) (pv z.toNat)] ++ [Wshx X h r q n pv z.toNat]) from (zf1 _ 0 _ rfl).trans ((List.Perm.refl _).cons _)))
  have hDm := zd_perm hD (zblk (show List.Perm ([Wpan (q z.toNat) (pv z.toNat), Wshx X h r q n pv z.toNat] : List va_W) ([Wpan (q z.toNat) (pv z.toNat)] ++ [Wshx X h r q n pv z.toNat]) from (zf1 _ 0 _ rfl).trans ((List.Perm.refl _).cons _)))
  refine z_callV (wr := zb [Wshx X h r q n pv z.toNat]) (As := []) (rest := []) ⟨hx, hb, hml, hown, hts⟩ (c_X4_top l X (q z.toNat) (pv z.toNat) (by exact hpv _ (by omega))) (cwV 0 hts gX7_topOf_X4_top rfl rfl rfl (by decide +kernel) ⟨Nat.le_of_ble_eq_true rfl, Nat.le_of_ble_eq_true rfl⟩) rfl rfl hl.1 dX7_topOf_15 rfl rfl (Nat.le_of_ble_eq_true rfl) ⟨Nat.le_of_ble_eq_true rfl, Nat.le_of_ble_eq_true rfl⟩ hS hA hK hPm hDm (fun _ H locs _ hP hD hS => ?_)
  have hP := zp_perm hP ((zblk (show List.Perm ([Wpan (q z.toNat) (pv z.toNat), Wshx X h r q n pv z.toNat] : List va_W) ([Wpan (q z.toNat) (pv z.toNat)] ++ [Wshx X h r q n pv z.toNat]) from (zf1 _ 0 _ rfl).trans ((List.Perm.refl _).cons _)))).symm
  have hD := zd_perm hD ((zblk (show List.Perm ([Wpan (q z.toNat) (pv z.toNat), Wshx X h r q n pv z.toNat] : List va_W) ([Wpan (q z.toNat) (pv z.toNat)] ++ [Wshx X h r q n pv z.toNat]) from (zf1 _ 0 _ rfl).trans ((List.Perm.refl _).cons _)))).symm
  have hP : va_P X.1 vwCl (zb [Wpan (q z.toNat) (pv z.toNat), Wshx X h r q n pv z.toNat]) H := hP
  have hD : va_D A (zb [Wpan (q z.toNat) (pv z.toNat), Wshx X h r q n pv z.toNat]) := hD
  refine W.eq (g2 := F0 m 18 ls [.int (iI (topP (pv z.toNat)))]) rfl ?_
  have hP := zp_perm hP (show List.Perm (zb [Wpan (q z.toNat) (pv z.toNat), Wshx X h r q n pv z.toNat]) (zb [Wshelf X h r q n (va_up pv z.toNat (pv z.toNat))]) from zrep (pre := []) (post := []) (bs := [Wpan (q z.toNat) (pv z.toNat), Wshx X h r q n pv z.toNat]) (cs := [Wshelf X h r q n (va_up pv z.toNat (pv z.toNat))]) (by rw [zb1]; exact shelf_unf (by omega) _))
  have hD := zd_perm hD (show List.Perm (zb [Wpan (q z.toNat) (pv z.toNat), Wshx X h r q n pv z.toNat]) (zb [Wshelf X h r q n (va_up pv z.toNat (pv z.toNat))]) from zrep (pre := []) (post := []) (bs := [Wpan (q z.toNat) (pv z.toNat), Wshx X h r q n pv z.toNat]) (cs := [Wshelf X h r q n (va_up pv z.toNat (pv z.toNat))]) (by rw [zb1]; exact shelf_unf (by omega) _))
  have hw : zb [Wshelf X h r q n (va_up pv z.toNat (pv z.toNat))] = zb [Wshelf X h r q n pv] := by rw [va_upId]
  rw [hw] at hP hD
  exact z_iret hQ hx hb hr hlocks hS ⟨Nat.le_of_ble_eq_true rfl, Nat.le_of_ble_eq_true rfl⟩ dX7_topOf_18 () rfl trivial hP hD
set_option maxHeartbeats 1000000 in
set_option maxRecDepth 100000 in
theorem c_X7_takeFrom_s (l : Launch) (X : zX) (h : Nat) (r : Nat) (q : Nat → Nat) (n : Int) (pv : Nat → Nat → Int) (z : Int) (hn : 0 ≤ n ∧ n ≤ 3) (hpv : PanS pv) (hz : 0 ≤ z ∧ z < n) : zF l X yX7_takeFrom wsX7_takeFrom 2 40 [.ref h, .int (iI z)] (zb [Wshelf X h r q n pv]) (some (.int (iI (topP (pv z.toNat))))) (zb [Wshelf X h r q n (va_up pv z.toNat (takeP (pv z.toNat)))]) := by
  refine z_enter (cc := cX7_takeFrom) (maxL := 4) (ret := (some .int)) (by decide) rfl (Nat.le_of_ble_eq_true rfl) ?_
  intro p e s m below meth c A ls Q hQ hE hl hP hD
  obtain ⟨hx, hb, hr, hml, hown, hts, hlocks, hnm, hA, hK⟩ := hE
  have hown : s.vm.findClass RX7 = some m.cls := hown
  have hS : va_S A s.heap s.heap [] := va_S.rf
  have hl : lv_has ls 4 [(0, .ref h), (1, .int (iI z))] := hl
  refine lv_aload_n hx hb dX7_takeFrom_0 rfl (lv_at hl 0 rfl) ?_
  refine lv_iload_n hx hb dX7_takeFrom_1 rfl (lv_at hl 1 rfl) ?_
  have hPm := zp_perm hP (zblk (show List.Perm ([Wshelf X h r q n pv] : List va_W) ([Wshelf X h r q n pv] ++ []) from (zf1 _ 0 _ rfl).trans ((List.Perm.refl _).cons _)))
  have hDm := zd_perm hD (zblk (show List.Perm ([Wshelf X h r q n pv] : List va_W) ([Wshelf X h r q n pv] ++ []) from (zf1 _ 0 _ rfl).trans ((List.Perm.refl _).cons _)))
  refine z_callV (wr := zb []) (As := [.int (iI z)]) (rest := []) ⟨hx, hb, hml, hown, hts⟩ (c_X7_at_s l X h r q n pv z (by omega) (by omega)) (cwV 1 hts gX7_takeFrom_X7_at rfl rfl rfl (by decide +kernel) ⟨Nat.le_of_ble_eq_true rfl, Nat.le_of_ble_eq_true rfl⟩) rfl rfl hl.1 dX7_takeFrom_2 rfl rfl (Nat.le_of_ble_eq_true rfl) ⟨Nat.le_of_ble_eq_true rfl, Nat.le_of_ble_eq_true rfl⟩ hS hA hK hPm hDm (fun _ H locs _ hP hD hS => ?_)
  have hP := zp_perm hP ((zblk (show List.Perm ([Wshelf X h r q n pv] : List va_W) ([Wshelf X h r q n pv] ++ []) from (zf1 _ 0 _ rfl).trans ((List.Perm.refl _).cons _)))).symm
  have hD := zd_perm hD ((zblk (show List.Perm ([Wshelf X h r q n pv] : List va_W) ([Wshelf X h r q n pv] ++ []) from (zf1 _ 0 _ rfl).trans ((List.Perm.refl _).cons _)))).symm
  have hP : va_P X.1 vwCl (zb [Wshelf X h r q n pv]) H := hP
  have hD : va_D A (zb [Wshelf X h r q n pv]) := hD
  refine W.eq (g2 := F0 m 5 ls [.ref (q z.toNat)]) rfl ?_
  refine lv_astore_n (lv' := [(2, .ref (q z.toNat)), (0, .ref h), (1, .int (iI z))]) hx hb dX7_takeFrom_5 rfl hl (by decide) rfl (fun ls hl => ?_)
  refine lv_aload_n hx hb dX7_takeFrom_6 rfl (lv_at hl 0 rfl) ?_
  refine lv_ifnonnull (tgt := 12) hx hb dX7_takeFrom_7 (by decide) ?_
  refine lv_aload_n hx hb dX7_takeFrom_12 rfl (lv_at hl 0 rfl) ?_
  have hP := zp_perm hP (show List.Perm (zb [Wshelf X h r q n pv]) (zb [Wpan (q z.toNat) (pv z.toNat), Wshx X h r q n pv z.toNat]) from zrep (pre := []) (post := []) (bs := [Wshelf X h r q n pv]) (cs := [Wpan (q z.toNat) (pv z.toNat), Wshx X h r q n pv z.toNat]) (by rw [zb1]; exact shelf_foc (by omega)))
  have hD := zd_perm hD (show List.Perm (zb [Wshelf X h r q n pv]) (zb [Wpan (q z.toNat) (pv z.toNat), Wshx X h r q n pv z.toNat]) from zrep (pre := []) (post := []) (bs := [Wshelf X h r q n pv]) (cs := [Wpan (q z.toNat) (pv z.toNat), Wshx X h r q n pv z.toNat]) (by rw [zb1]; exact shelf_foc (by omega)))
  have hPm := zp_perm hP (zblk (show List.Perm ([Wpan (q z.toNat) (pv z.toNat), Wshx X h r q n pv z.toNat] : List va_W) ([Wpan (q z.toNat) (pv z.toNat)] ++ [Wshx X h r q n pv z.toNat]) from (zf1 _ 0 _ rfl).trans ((List.Perm.refl _).cons _)))
  have hDm := zd_perm hD (zblk (show List.Perm ([Wpan (q z.toNat) (pv z.toNat), Wshx X h r q n pv z.toNat] : List va_W) ([Wpan (q z.toNat) (pv z.toNat)] ++ [Wshx X h r q n pv z.toNat]) from (zf1 _ 0 _ rfl).trans ((List.Perm.refl _).cons _)))
  refine z_callV (wr := zb [Wshx X h r q n pv z.toNat]) (As := []) (rest := []) ⟨hx, hb, hml, hown, hts⟩ (c_X4_top l X (q z.toNat) (pv z.toNat) (by exact hpv _ (by omega))) (cwV 0 hts gX7_takeFrom_X4_top rfl rfl rfl (by decide +kernel) ⟨Nat.le_of_ble_eq_true rfl, Nat.le_of_ble_eq_true rfl⟩) rfl rfl hl.1 dX7_takeFrom_13 rfl rfl (Nat.le_of_ble_eq_true rfl) ⟨Nat.le_of_ble_eq_true rfl, Nat.le_of_ble_eq_true rfl⟩ hS hA hK hPm hDm (fun _ H locs _ hP hD hS => ?_)
  have hP := zp_perm hP ((zblk (show List.Perm ([Wpan (q z.toNat) (pv z.toNat), Wshx X h r q n pv z.toNat] : List va_W) ([Wpan (q z.toNat) (pv z.toNat)] ++ [Wshx X h r q n pv z.toNat]) from (zf1 _ 0 _ rfl).trans ((List.Perm.refl _).cons _)))).symm
  have hD := zd_perm hD ((zblk (show List.Perm ([Wpan (q z.toNat) (pv z.toNat), Wshx X h r q n pv z.toNat] : List va_W) ([Wpan (q z.toNat) (pv z.toNat)] ++ [Wshx X h r q n pv z.toNat]) from (zf1 _ 0 _ rfl).trans ((List.Perm.refl _).cons _)))).symm
  have hP : va_P X.1 vwCl (zb [Wpan (q z.toNat) (pv z.toNat), Wshx X h r q n pv z.toNat]) H := hP
  have hD : va_D A (zb [Wpan (q z.toNat) (pv z.toNat), Wshx X h r q n pv z.toNat]) := hD
  refine W.eq (g2 := F0 m 16 ls [.int (iI (topP (pv z.toNat)))]) rfl ?_
  refine z_topi (fun z_1 ez_1 => ?_)
  refine lv_istore_n (lv' := [(3, .int (iI z_1)), (2, .ref (q z.toNat)), (0, .ref h), (1, .int (iI z))]) hx hb dX7_takeFrom_16 rfl hl (by decide) rfl (fun ls hl => ?_)
  refine lv_aload_n hx hb dX7_takeFrom_17 rfl (lv_at hl 1 rfl) ?_
  have hPm := zp_perm hP (zblk (show List.Perm ([Wpan (q z.toNat) (pv z.toNat), Wshx X h r q n pv z.toNat] : List va_W) ([Wpan (q z.toNat) (pv z.toNat)] ++ [Wshx X h r q n pv z.toNat]) from (zf1 _ 0 _ rfl).trans ((List.Perm.refl _).cons _)))
  have hDm := zd_perm hD (zblk (show List.Perm ([Wpan (q z.toNat) (pv z.toNat), Wshx X h r q n pv z.toNat] : List va_W) ([Wpan (q z.toNat) (pv z.toNat)] ++ [Wshx X h r q n pv z.toNat]) from (zf1 _ 0 _ rfl).trans ((List.Perm.refl _).cons _)))
  refine z_callV (wr := zb [Wshx X h r q n pv z.toNat]) (As := []) (rest := []) ⟨hx, hb, hml, hown, hts⟩ (c_X4_takeTop l X (q z.toNat) (pv z.toNat) (by exact hpv _ (by omega))) (cwV 0 hts gX7_takeFrom_X4_takeTop rfl rfl rfl (by decide +kernel) ⟨Nat.le_of_ble_eq_true rfl, Nat.le_of_ble_eq_true rfl⟩) rfl rfl hl.1 dX7_takeFrom_18 rfl rfl (Nat.le_of_ble_eq_true rfl) ⟨Nat.le_of_ble_eq_true rfl, Nat.le_of_ble_eq_true rfl⟩ hS hA hK hPm hDm (fun _ H locs _ hP hD hS => ?_)
  have hP := zp_perm hP ((zblk (show List.Perm ([Wpan (q z.toNat) (takeP (pv z.toNat)), Wshx X h r q n pv z.toNat] : List va_W) ([Wpan (q z.toNat) (takeP (pv z.toNat))] ++ [Wshx X h r q n pv z.toNat]) from (zf1 _ 0 _ rfl).trans ((List.Perm.refl _).cons _)))).symm
  have hD := zd_perm hD ((zblk (show List.Perm ([Wpan (q z.toNat) (takeP (pv z.toNat)), Wshx X h r q n pv z.toNat] : List va_W) ([Wpan (q z.toNat) (takeP (pv z.toNat))] ++ [Wshx X h r q n pv z.toNat]) from (zf1 _ 0 _ rfl).trans ((List.Perm.refl _).cons _)))).symm
  have hP : va_P X.1 vwCl (zb [Wpan (q z.toNat) (takeP (pv z.toNat)), Wshx X h r q n pv z.toNat]) H := hP
  have hD : va_D A (zb [Wpan (q z.toNat) (takeP (pv z.toNat)), Wshx X h r q n pv z.toNat]) := hD
  refine W.eq (g2 := F0 m 21 ls []) rfl ?_
  have hP := zp_perm hP (show List.Perm (zb [Wpan (q z.toNat) (takeP (pv z.toNat)), Wshx X h r q n pv z.toNat]) (zb [Wshelf X h r q n (va_up pv z.toNat (takeP (pv z.toNat)))]) from zrep (pre := []) (post := []) (bs := [Wpan (q z.toNat) (takeP (pv z.toNat)), Wshx X h r q n pv z.toNat]) (cs := [Wshelf X h r q n (va_up pv z.toNat (takeP (pv z.toNat)))]) (by rw [zb1]; exact shelf_unf (by omega) _))
  have hD := zd_perm hD (show List.Perm (zb [Wpan (q z.toNat) (takeP (pv z.toNat)), Wshx X h r q n pv z.toNat]) (zb [Wshelf X h r q n (va_up pv z.toNat (takeP (pv z.toNat)))]) from zrep (pre := []) (post := []) (bs := [Wpan (q z.toNat) (takeP (pv z.toNat)), Wshx X h r q n pv z.toNat]) (cs := [Wshelf X h r q n (va_up pv z.toNat (takeP (pv z.toNat)))]) (by rw [zb1]; exact shelf_unf (by omega) _))
  refine lv_iload_n hx hb dX7_takeFrom_21 rfl (lv_at hl 0 rfl) ?_
  exact z_iret hQ hx hb hr hlocks hS ⟨Nat.le_of_ble_eq_true rfl, Nat.le_of_ble_eq_true rfl⟩ dX7_takeFrom_22 () (congrArg (fun z => some (Value.int (iI z))) (show (topP (pv z.toNat) : Int) = z_1 by exact ez_1.symm)) trivial hP hD
set_option maxHeartbeats 1000000 in
set_option maxRecDepth 100000 in
theorem c_X7_takeFrom_n (l : Launch) (X : zX) (h : Nat) (r : Nat) (q : Nat → Nat) (n : Int) (pv : Nat → Nat → Int) (z : Int) (hn : 0 ≤ n ∧ n ≤ 3) (hr : -2147483648 ≤ z ∧ z < 2147483648) (hz : z < 0 ∨ n ≤ z) : zF l X yX7_takeFrom wsX7_takeFrom 2 40 [.ref h, .int (iI z)] (zb [Wshelf X h r q n pv]) (some (.int (iI (-1)))) (zb [Wshelf X h r q n pv]) := by
  refine z_enter (cc := cX7_takeFrom) (maxL := 4) (ret := (some .int)) (by decide) rfl (Nat.le_of_ble_eq_true rfl) ?_
  intro p e s m below meth c A ls Q hQ hE hl hP hD
  obtain ⟨hx, hb, hr, hml, hown, hts, hlocks, hnm, hA, hK⟩ := hE
  have hown : s.vm.findClass RX7 = some m.cls := hown
  have hS : va_S A s.heap s.heap [] := va_S.rf
  have hl : lv_has ls 4 [(0, .ref h), (1, .int (iI z))] := hl
  refine lv_aload_n hx hb dX7_takeFrom_0 rfl (lv_at hl 0 rfl) ?_
  refine lv_iload_n hx hb dX7_takeFrom_1 rfl (lv_at hl 1 rfl) ?_
  have hPm := zp_perm hP (zblk (show List.Perm ([Wshelf X h r q n pv] : List va_W) ([Wshelf X h r q n pv] ++ []) from (zf1 _ 0 _ rfl).trans ((List.Perm.refl _).cons _)))
  have hDm := zd_perm hD (zblk (show List.Perm ([Wshelf X h r q n pv] : List va_W) ([Wshelf X h r q n pv] ++ []) from (zf1 _ 0 _ rfl).trans ((List.Perm.refl _).cons _)))
  refine z_callV (wr := zb []) (As := [.int (iI z)]) (rest := []) ⟨hx, hb, hml, hown, hts⟩ (c_X7_at_n l X h r q n pv z (by omega) (by omega) (by omega)) (cwV 1 hts gX7_takeFrom_X7_at rfl rfl rfl (by decide +kernel) ⟨Nat.le_of_ble_eq_true rfl, Nat.le_of_ble_eq_true rfl⟩) rfl rfl hl.1 dX7_takeFrom_2 rfl rfl (Nat.le_of_ble_eq_true rfl) ⟨Nat.le_of_ble_eq_true rfl, Nat.le_of_ble_eq_true rfl⟩ hS hA hK hPm hDm (fun _ H locs _ hP hD hS => ?_)
  have hP := zp_perm hP ((zblk (show List.Perm ([Wshelf X h r q n pv] : List va_W) ([Wshelf X h r q n pv] ++ []) from (zf1 _ 0 _ rfl).trans ((List.Perm.refl _).cons _)))).symm
  have hD := zd_perm hD ((zblk (show List.Perm ([Wshelf X h r q n pv] : List va_W) ([Wshelf X h r q n pv] ++ []) from (zf1 _ 0 _ rfl).trans ((List.Perm.refl _).cons _)))).symm
  have hP : va_P X.1 vwCl (zb [Wshelf X h r q n pv]) H := hP
  have hD : va_D A (zb [Wshelf X h r q n pv]) := hD
  refine W.eq (g2 := F0 m 5 ls [.null]) rfl ?_
  refine lv_astore_nN (lv' := [(2, .null), (0, .ref h), (1, .int (iI z))]) hx hb dX7_takeFrom_5 rfl hl (by decide) rfl (fun ls hl => ?_)
  refine lv_aload_nN hx hb dX7_takeFrom_6 rfl (lv_at hl 0 rfl) ?_
  refine lv_ifnonnullN hx hb dX7_takeFrom_7 ?_
  refine lv_iconst (v := iI (-1)) hx hb dX7_takeFrom_10 (by decide) ?_
  exact z_iret hQ hx hb hr hlocks hS ⟨Nat.le_of_ble_eq_true rfl, Nat.le_of_ble_eq_true rfl⟩ dX7_takeFrom_11 () rfl trivial hP hD
set_option maxHeartbeats 1000000 in
set_option maxRecDepth 100000 in
theorem c_X7_isBare (l : Launch) (X : zX) (h : Nat) (r : Nat) (q : Nat → Nat) (n : Int) (pv : Nat → Nat → Int) (hn : 0 ≤ n ∧ n ≤ 3) (hpv : PanS pv) : zF l X yX7_isBare wsX7_isBare 1 20 [.ref h] (zb [Wshelf X h r q n pv]) (some (.int (iI (bareZ pv n.toNat)))) (zb [Wshelf X h r q n pv]) := by
  refine z_enter (cc := cX7_isBare) (maxL := 2) (ret := (some .boolean)) (by decide) rfl (Nat.le_of_ble_eq_true rfl) ?_
  intro p e s m below meth c A ls Q hQ hE hl hP hD
  obtain ⟨hx, hb, hr, hml, hown, hts, hlocks, hnm, hA, hK⟩ := hE
  have hown : s.vm.findClass RX7 = some m.cls := hown
  have hS : va_S A s.heap s.heap [] := va_S.rf
  have hl : lv_has ls 2 [(0, .ref h)] := hl
  have inX7 : ∀ w ∈ u_ws RX7 TX7 2, w ∈ wsX7_isBare := by decide +kernel
  refine lv_iconst (v := iI 0) hx hb dX7_isBare_0 (by decide) ?_
  refine lv_istore_n (lv' := [(1, .int (iI 0)), (0, .ref h)]) hx hb dX7_isBare_1 rfl hl (by decide) rfl (fun ls hl => ?_)
  have L2 : ∀ (fu : Nat) (i : Nat), ((i : Int) ≤ n) → (bareZ pv i = 1) → (n - ↑i).toNat < fu → ∀ (H : Heap) (locs : List Loc) (ls : Array Slot), va_P X.1 vwCl (zb [Wshelf X h r q n pv]) H → va_D A (zb [Wshelf X h r q n pv]) → va_S A s.heap H locs → lv_has ls 2 [(0, .ref h), (1, .int (iI (↑i)))] → W p l e { frames := 1, cells := 0, slots := 0, locals := 20 } s m ([.ref h] : List Value).toArray below meth c H locs 0 0 Q (F0 m 2 ls []) := by
    intro fu
    induction fu with
    | zero => intro i hi hbz hm; exact absurd hm (Nat.not_lt_zero _)
    | succ fu ih2 =>
      intro i hi hbz hm H locs ls hP hD hS hl
      refine lv_iload_n hx hb dX7_isBare_2 rfl (lv_at hl 1 rfl) ?_
      refine lv_aload_n hx hb dX7_isBare_3 rfl (lv_at hl 0 rfl) ?_
      refine va_get (ci := 7) (v := .int (iI n)) (C := RX7) (T := TX7) (N := 2) hx hb hts inX7 hown hK.1 hP 0 rfl rfl 1 (by decide) (hts (.fieldLink RX7 18 "SkimmedSons$Shelf" "count" "I") (by decide +kernel)) (fun _ h9 => h9) rfl dX7_isBare_4 ?_
      refine z_icmp_ge (tgt := 31) hx hb (by omega) dX7_isBare_7 (by decide) (fun c_1 => ?_) (fun c_1 => ?_)
      · skip
        refine lv_iconst (v := iI 1) hx hb dX7_isBare_31 (by decide) ?_
        exact z_zret (ty := .boolean) hQ hx hb hr (by rfl) hlocks hS ⟨Nat.le_of_ble_eq_true rfl, Nat.le_of_ble_eq_true rfl⟩ dX7_isBare_32 () (congrArg (fun z => some (Value.int (iI z))) (show (bareZ pv n.toNat : Int) = 1 by rw [← hbz]; congr 1; omega)) trivial hP hD
      · skip
        refine lv_aload_n hx hb dX7_isBare_10 rfl (lv_at hl 0 rfl) ?_
        refine va_get (ci := 7) (v := .ref r) (C := RX7) (T := TX7) (N := 2) hx hb hts inX7 hown hK.1 hP 0 rfl rfl 0 (by decide) (hts (.fieldLink RX7 11 "SkimmedSons$Shelf" "pans" "[LSkimmedSons$Pan;") (by decide +kernel)) (fun _ h9 => h9) rfl dX7_isBare_11 ?_
        refine lv_iload_n hx hb dX7_isBare_14 rfl (lv_at hl 1 rfl) ?_
        refine z_aald (v := .ref (q i)) hx hb hK.1 hP 1 4 rfl rfl (by omega) dX7_isBare_15 (by rfl) ?_
        have hP := zp_perm hP (show List.Perm (zb [Wshelf X h r q n pv]) (zb [Wpan (q i) (pv i), Wshx X h r q n pv i]) from zrep (pre := []) (post := []) (bs := [Wshelf X h r q n pv]) (cs := [Wpan (q i) (pv i), Wshx X h r q n pv i]) (by rw [zb1]; exact shelf_foc (by omega)))
        have hD := zd_perm hD (show List.Perm (zb [Wshelf X h r q n pv]) (zb [Wpan (q i) (pv i), Wshx X h r q n pv i]) from zrep (pre := []) (post := []) (bs := [Wshelf X h r q n pv]) (cs := [Wpan (q i) (pv i), Wshx X h r q n pv i]) (by rw [zb1]; exact shelf_foc (by omega)))
        have hPm := zp_perm hP (zblk (show List.Perm ([Wpan (q i) (pv i), Wshx X h r q n pv i] : List va_W) ([Wpan (q i) (pv i)] ++ [Wshx X h r q n pv i]) from (zf1 _ 0 _ rfl).trans ((List.Perm.refl _).cons _)))
        have hDm := zd_perm hD (zblk (show List.Perm ([Wpan (q i) (pv i), Wshx X h r q n pv i] : List va_W) ([Wpan (q i) (pv i)] ++ [Wshx X h r q n pv i]) from (zf1 _ 0 _ rfl).trans ((List.Perm.refl _).cons _)))
        refine z_callV (wr := zb [Wshx X h r q n pv i]) (As := []) (rest := []) ⟨hx, hb, hml, hown, hts⟩ (c_X4_top l X (q i) (pv i) (by exact hpv i (by omega))) (cwV 0 hts gX7_isBare_X4_top rfl rfl rfl (by decide +kernel) ⟨Nat.le_of_ble_eq_true rfl, Nat.le_of_ble_eq_true rfl⟩) rfl rfl hl.1 dX7_isBare_16 rfl rfl (Nat.le_of_ble_eq_true rfl) ⟨Nat.le_of_ble_eq_true rfl, Nat.le_of_ble_eq_true rfl⟩ hS hA hK hPm hDm (fun _ H locs _ hP hD hS => ?_)
        have hP := zp_perm hP ((zblk (show List.Perm ([Wpan (q i) (pv i), Wshx X h r q n pv i] : List va_W) ([Wpan (q i) (pv i)] ++ [Wshx X h r q n pv i]) from (zf1 _ 0 _ rfl).trans ((List.Perm.refl _).cons _)))).symm
        have hD := zd_perm hD ((zblk (show List.Perm ([Wpan (q i) (pv i), Wshx X h r q n pv i] : List va_W) ([Wpan (q i) (pv i)] ++ [Wshx X h r q n pv i]) from (zf1 _ 0 _ rfl).trans ((List.Perm.refl _).cons _)))).symm
        have hP : va_P X.1 vwCl (zb [Wpan (q i) (pv i), Wshx X h r q n pv i]) H := hP
        have hD : va_D A (zb [Wpan (q i) (pv i), Wshx X h r q n pv i]) := hD
        refine W.eq (g2 := F0 m 19 ls [.int (iI (topP (pv i)))]) rfl ?_
        have hP := zp_perm hP (show List.Perm (zb [Wpan (q i) (pv i), Wshx X h r q n pv i]) (zb [Wshelf X h r q n (va_up pv i (pv i))]) from zrep (pre := []) (post := []) (bs := [Wpan (q i) (pv i), Wshx X h r q n pv i]) (cs := [Wshelf X h r q n (va_up pv i (pv i))]) (by rw [zb1]; exact shelf_unf (by omega) _))
        have hD := zd_perm hD (show List.Perm (zb [Wpan (q i) (pv i), Wshx X h r q n pv i]) (zb [Wshelf X h r q n (va_up pv i (pv i))]) from zrep (pre := []) (post := []) (bs := [Wpan (q i) (pv i), Wshx X h r q n pv i]) (cs := [Wshelf X h r q n (va_up pv i (pv i))]) (by rw [zb1]; exact shelf_unf (by omega) _))
        have htp := topP_in (pv i)
        refine lv_iconst (v := iI (-1)) hx hb dX7_isBare_19 (by decide) ?_
        refine z_icmp_eq (tgt := 25) hx hb (by omega) dX7_isBare_20 (by decide) (fun c_2 => ?_) (fun c_2 => ?_)
        · skip
          refine z_iinc (k := 1) (lv' := [(1, .int (iI ((↑i) + 1))), (0, .ref h)]) hx hb dX7_isBare_25 hl rfl (by decide) rfl (fun ls hl => ?_)
          refine lv_goto (tgt := 2) hx hb dX7_isBare_28 (by decide) ?_
          have hw_3 : zb [Wshelf X h r q n (va_up pv i (pv i))] = zb [Wshelf X h r q n pv] := by rw [va_upId]
          rw [hw_3] at hP hD
          exact ih2  (i + 1) (by omega) (by unfold bareZ; rw [if_pos (by omega)]; exact hbz) (by omega) _ _ _ hP hD hS (lv_sub hl [1, 0] rfl)
        · skip
          refine lv_iconst (v := iI 0) hx hb dX7_isBare_23 (by decide) ?_
          have hw : zb [Wshelf X h r q n (va_up pv i (pv i))] = zb [Wshelf X h r q n pv] := by rw [va_upId]
          rw [hw] at hP hD
          exact z_zret (ty := .boolean) hQ hx hb hr (by rfl) hlocks hS ⟨Nat.le_of_ble_eq_true rfl, Nat.le_of_ble_eq_true rfl⟩ dX7_isBare_24 () (congrArg (fun z => some (Value.int (iI z))) (show (bareZ pv n.toNat : Int) = 0 by exact bareZ_no (i := i) (by omega) (by omega))) trivial hP hD
  exact L2 ((n - ↑(0 : Nat)).toNat + 1) 0 (by omega) (by rfl) (by omega) _ _ _ hP hD hS (lv_sub hl [1, 0] rfl)
set_option maxHeartbeats 1000000 in
set_option maxRecDepth 100000 in
theorem c_X7_sum (l : Launch) (X : zX) (h : Nat) (r : Nat) (q : Nat → Nat) (n : Int) (pv : Nat → Nat → Int) (k : Int) (hn : 0 ≤ n ∧ n ≤ 3) (hk : InR k) : zF l X yX7_sum wsX7_sum 1 21 [.ref h, .int (iI k)] (zb [Wshelf X h r q n pv]) (some (.int (iI (sumZ (fun j => muchP (pv j) k) n.toNat)))) (zb [Wshelf X h r q n pv]) := by
  refine z_enter (cc := cX7_sum) (maxL := 4) (ret := (some .int)) (by decide) rfl (Nat.le_of_ble_eq_true rfl) ?_
  intro p e s m below meth c A ls Q hQ hE hl hP hD
  obtain ⟨hx, hb, hr, hml, hown, hts, hlocks, hnm, hA, hK⟩ := hE
  have hown : s.vm.findClass RX7 = some m.cls := hown
  have hS : va_S A s.heap s.heap [] := va_S.rf
  have hl : lv_has ls 4 [(0, .ref h), (1, .int (iI k))] := hl
  have inX7 : ∀ w ∈ u_ws RX7 TX7 2, w ∈ wsX7_sum := by decide +kernel
  refine lv_iconst (v := iI 0) hx hb dX7_sum_0 (by decide) ?_
  refine lv_istore_n (lv' := [(2, .int (iI 0)), (0, .ref h), (1, .int (iI k))]) hx hb dX7_sum_1 rfl hl (by decide) rfl (fun ls hl => ?_)
  refine lv_iconst (v := iI 0) hx hb dX7_sum_2 (by decide) ?_
  refine lv_istore_n (lv' := [(3, .int (iI 0)), (2, .int (iI 0)), (0, .ref h), (1, .int (iI k))]) hx hb dX7_sum_3 rfl hl (by decide) rfl (fun ls hl => ?_)
  have L4 : ∀ (fu : Nat) (i : Nat) (y : Int), ((i : Int) ≤ n) → (y = sumZ (fun j => muchP (pv j) k) i) → (n - ↑i).toNat < fu → ∀ (H : Heap) (locs : List Loc) (ls : Array Slot), va_P X.1 vwCl (zb [Wshelf X h r q n pv]) H → va_D A (zb [Wshelf X h r q n pv]) → va_S A s.heap H locs → lv_has ls 4 [(0, .ref h), (1, .int (iI k)), (2, .int (iI y)), (3, .int (iI (↑i)))] → W p l e { frames := 1, cells := 0, slots := 0, locals := 21 } s m ([.ref h, .int (iI k)] : List Value).toArray below meth c H locs 0 0 Q (F0 m 4 ls []) := by
    intro fu
    induction fu with
    | zero => intro i y hi hy hm; exact absurd hm (Nat.not_lt_zero _)
    | succ fu ih4 =>
      intro i y hi hy hm H locs ls hP hD hS hl
      refine lv_iload_n hx hb dX7_sum_4 rfl (lv_at hl 3 rfl) ?_
      refine lv_aload_n hx hb dX7_sum_5 rfl (lv_at hl 0 rfl) ?_
      refine va_get (ci := 7) (v := .int (iI n)) (C := RX7) (T := TX7) (N := 2) hx hb hts inX7 hown hK.1 hP 0 rfl rfl 1 (by decide) (hts (.fieldLink RX7 18 "SkimmedSons$Shelf" "count" "I") (by decide +kernel)) (fun _ h9 => h9) rfl dX7_sum_6 ?_
      refine z_icmp_ge (tgt := 31) hx hb (by omega) dX7_sum_9 (by decide) (fun c_1 => ?_) (fun c_1 => ?_)
      · skip
        refine lv_iload_n hx hb dX7_sum_31 rfl (lv_at hl 2 rfl) ?_
        exact z_iret hQ hx hb hr hlocks hS ⟨Nat.le_of_ble_eq_true rfl, Nat.le_of_ble_eq_true rfl⟩ dX7_sum_32 () (congrArg (fun z => some (Value.int (iI z))) (show (sumZ (fun j => muchP (pv j) k) n.toNat : Int) = y by rw [hy, show i = n.toNat by omega])) trivial hP hD
      · skip
        refine lv_iload_n hx hb dX7_sum_12 rfl (lv_at hl 2 rfl) ?_
        refine lv_aload_n hx hb dX7_sum_13 rfl (lv_at hl 0 rfl) ?_
        refine va_get (ci := 7) (v := .ref r) (C := RX7) (T := TX7) (N := 2) hx hb hts inX7 hown hK.1 hP 0 rfl rfl 0 (by decide) (hts (.fieldLink RX7 11 "SkimmedSons$Shelf" "pans" "[LSkimmedSons$Pan;") (by decide +kernel)) (fun _ h9 => h9) rfl dX7_sum_14 ?_
        refine lv_iload_n hx hb dX7_sum_17 rfl (lv_at hl 3 rfl) ?_
        refine z_aald (v := .ref (q i)) hx hb hK.1 hP 1 4 rfl rfl (by omega) dX7_sum_18 (by rfl) ?_
        refine lv_iload_n hx hb dX7_sum_19 rfl (lv_at hl 1 rfl) ?_
        have hP := zp_perm hP (show List.Perm (zb [Wshelf X h r q n pv]) (zb [Wpan (q i) (pv i), Wshx X h r q n pv i]) from zrep (pre := []) (post := []) (bs := [Wshelf X h r q n pv]) (cs := [Wpan (q i) (pv i), Wshx X h r q n pv i]) (by rw [zb1]; exact shelf_foc (by omega)))
        have hD := zd_perm hD (show List.Perm (zb [Wshelf X h r q n pv]) (zb [Wpan (q i) (pv i), Wshx X h r q n pv i]) from zrep (pre := []) (post := []) (bs := [Wshelf X h r q n pv]) (cs := [Wpan (q i) (pv i), Wshx X h r q n pv i]) (by rw [zb1]; exact shelf_foc (by omega)))
        have hPm := zp_perm hP (zblk (show List.Perm ([Wpan (q i) (pv i), Wshx X h r q n pv i] : List va_W) ([Wpan (q i) (pv i)] ++ [Wshx X h r q n pv i]) from (zf1 _ 0 _ rfl).trans ((List.Perm.refl _).cons _)))
        have hDm := zd_perm hD (zblk (show List.Perm ([Wpan (q i) (pv i), Wshx X h r q n pv i] : List va_W) ([Wpan (q i) (pv i)] ++ [Wshx X h r q n pv i]) from (zf1 _ 0 _ rfl).trans ((List.Perm.refl _).cons _)))
        refine z_callV (wr := zb [Wshx X h r q n pv i]) (As := [.int (iI k)]) (rest := [.int (iI y)]) ⟨hx, hb, hml, hown, hts⟩ (c_X4_much l X (q i) (pv i) k (by exact hk)) (cwV 1 hts gX7_sum_X4_much rfl rfl rfl (by decide +kernel) ⟨Nat.le_of_ble_eq_true rfl, Nat.le_of_ble_eq_true rfl⟩) rfl rfl hl.1 dX7_sum_20 rfl rfl (Nat.le_of_ble_eq_true rfl) ⟨Nat.le_of_ble_eq_true rfl, Nat.le_of_ble_eq_true rfl⟩ hS hA hK hPm hDm (fun _ H locs _ hP hD hS => ?_)
        have hP := zp_perm hP ((zblk (show List.Perm ([Wpan (q i) (pv i), Wshx X h r q n pv i] : List va_W) ([Wpan (q i) (pv i)] ++ [Wshx X h r q n pv i]) from (zf1 _ 0 _ rfl).trans ((List.Perm.refl _).cons _)))).symm
        have hD := zd_perm hD ((zblk (show List.Perm ([Wpan (q i) (pv i), Wshx X h r q n pv i] : List va_W) ([Wpan (q i) (pv i)] ++ [Wshx X h r q n pv i]) from (zf1 _ 0 _ rfl).trans ((List.Perm.refl _).cons _)))).symm
        have hP : va_P X.1 vwCl (zb [Wpan (q i) (pv i), Wshx X h r q n pv i]) H := hP
        have hD : va_D A (zb [Wpan (q i) (pv i), Wshx X h r q n pv i]) := hD
        refine W.eq (g2 := F0 m 23 ls [.int (iI (muchP (pv i) k)), .int (iI y)]) rfl ?_
        have hP := zp_perm hP (show List.Perm (zb [Wpan (q i) (pv i), Wshx X h r q n pv i]) (zb [Wshelf X h r q n (va_up pv i (pv i))]) from zrep (pre := []) (post := []) (bs := [Wpan (q i) (pv i), Wshx X h r q n pv i]) (cs := [Wshelf X h r q n (va_up pv i (pv i))]) (by rw [zb1]; exact shelf_unf (by omega) _))
        have hD := zd_perm hD (show List.Perm (zb [Wpan (q i) (pv i), Wshx X h r q n pv i]) (zb [Wshelf X h r q n (va_up pv i (pv i))]) from zrep (pre := []) (post := []) (bs := [Wpan (q i) (pv i), Wshx X h r q n pv i]) (cs := [Wshelf X h r q n (va_up pv i (pv i))]) (by rw [zb1]; exact shelf_unf (by omega) _))
        refine z_iadd hx hb dX7_sum_23 ?_
        refine z_topi (fun z_2 ez_2 => ?_)
        refine lv_istore_n (lv' := [(2, .int (iI z_2)), (0, .ref h), (1, .int (iI k)), (3, .int (iI (↑i)))]) hx hb dX7_sum_24 rfl hl (by decide) rfl (fun ls hl => ?_)
        refine z_iinc (k := 3) (lv' := [(3, .int (iI ((↑i) + 1))), (2, .int (iI z_2)), (0, .ref h), (1, .int (iI k))]) hx hb dX7_sum_25 hl rfl (by decide) rfl (fun ls hl => ?_)
        refine lv_goto (tgt := 4) hx hb dX7_sum_28 (by decide) ?_
        have hw_3 : zb [Wshelf X h r q n (va_up pv i (pv i))] = zb [Wshelf X h r q n pv] := by rw [va_upId]
        rw [hw_3] at hP hD
        exact ih4  (i + 1) z_2 (by omega) (by rw [ez_2, hy]; rfl) (by omega) _ _ _ hP hD hS (lv_sub hl [2, 3, 1, 0] rfl)
  exact L4 ((n - ↑(0 : Nat)).toNat + 1) 0 0 (by omega) (by rfl) (by omega) _ _ _ hP hD hS (lv_sub hl [2, 3, 1, 0] rfl)
