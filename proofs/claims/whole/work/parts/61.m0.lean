set_option maxHeartbeats 1000000 in
set_option maxRecDepth 100000 in
theorem c_X12_within (l : Launch) (X : zX) (z : Int) (x : Int) (y : Int) (hz : (-2147483648 ≤ z ∧ z < 2147483648) ∧ (-2147483648 ≤ x ∧ x < 2147483648) ∧ (-2147483648 ≤ y ∧ y < 2147483648)) : zF l X yX12_within wsX12_within 0 0 [.int (iI z), .int (iI x), .int (iI y)] (zb []) (some (.int (iI (if x ≤ z ∧ z ≤ y then 1 else 0)))) (zb []) := by
  refine z_enter (cc := cX12_within) (maxL := 3) (ret := (some .boolean)) (by decide) rfl (Nat.le_of_ble_eq_true rfl) ?_
  intro p e s m below meth c A ls Q hQ hE hl hP hD
  obtain ⟨hx, hb, hr, hml, hown, hts, hlocks, hnm, hA, hK⟩ := hE
  have hown : s.vm.findClass RX12 = some m.cls := hown
  have hS : va_S A s.heap s.heap [] := va_S.rf
  have hl : lv_has ls 3 [(0, .int (iI z)), (1, .int (iI x)), (2, .int (iI y))] := hl
  refine lv_iload_n hx hb dX12_within_0 rfl (lv_at hl 0 rfl) ?_
  refine lv_iload_n hx hb dX12_within_1 rfl (lv_at hl 1 rfl) ?_
  refine z_icmp_lt (tgt := 14) hx hb (by omega) dX12_within_2 (by decide) (fun c_1 => ?_) (fun c_1 => ?_)
  · skip
    refine lv_iconst (v := iI 0) hx hb dX12_within_14 (by decide) ?_
    exact z_zret (ty := .boolean) hQ hx hb hr (by rfl) hlocks hS ⟨(Nat.le_of_ble_eq_true rfl), (Nat.le_of_ble_eq_true rfl)⟩ dX12_within_15 () (congrArg (fun z => some (Value.int (iI z))) (show (if x ≤ z ∧ z ≤ y then 1 else 0 : Int) = 0 by omega)) trivial hP hD
  · skip
    refine lv_iload_n hx hb dX12_within_5 rfl (lv_at hl 0 rfl) ?_
    refine lv_iload_n hx hb dX12_within_6 rfl (lv_at hl 2 rfl) ?_
    refine z_icmp_gt (tgt := 14) hx hb (by omega) dX12_within_7 (by decide) (fun c_2 => ?_) (fun c_2 => ?_)
    · skip
      refine lv_iconst (v := iI 0) hx hb dX12_within_14 (by decide) ?_
      exact z_zret (ty := .boolean) hQ hx hb hr (by rfl) hlocks hS ⟨(Nat.le_of_ble_eq_true rfl), (Nat.le_of_ble_eq_true rfl)⟩ dX12_within_15 () (congrArg (fun z => some (Value.int (iI z))) (show (if x ≤ z ∧ z ≤ y then 1 else 0 : Int) = 0 by omega)) trivial hP hD
    · skip
      refine lv_iconst (v := iI 1) hx hb dX12_within_10 (by decide) ?_
      refine lv_goto (tgt := 15) hx hb dX12_within_11 (by decide) ?_
      exact z_zret (ty := .boolean) hQ hx hb hr (by rfl) hlocks hS ⟨(Nat.le_of_ble_eq_true rfl), (Nat.le_of_ble_eq_true rfl)⟩ dX12_within_15 () (congrArg (fun z => some (Value.int (iI z))) (show (if x ≤ z ∧ z ≤ y then 1 else 0 : Int) = 1 by omega)) trivial hP hD
set_option maxHeartbeats 1000000 in
set_option maxRecDepth 100000 in
theorem c_X12_letter (l : Launch) (X : zX) (o : Nat) (ma : Nat → Nat) (mi : Nat → Int) (ml : Nat → Int) (f : Nat → Int) (z : Int) (hs : PageB (mi 17) f) (hrz : -2147483648 ≤ z ∧ z < 2147483648) : zF l X yX12_letter wsX12_letter 1 22 [.ref o, .int (iI z)] (zb [WMo o ma mi ml, Wa X 0 (ma 18) 24 f]) (some (.int (iI (letterR (mi 17) z)))) (zb [WMo o ma (updZ mi 17 (letterN (mi 17) z)) ml, Wa X 0 (ma 18) 24 (letterF (mi 17) z f)]) := by
  refine z_enter (cc := cX12_letter) (maxL := 2) (ret := (some .int)) (by decide) rfl (Nat.le_of_ble_eq_true rfl) ?_
  intro p e s m below meth c A ls Q hQ hE hl hP hD
  obtain ⟨hx, hb, hr, hml, hown, hts, hlocks, hnm, hA, hK⟩ := hE
  have hown : s.vm.findClass RX12 = some m.cls := hown
  have hS : va_S A s.heap s.heap [] := va_S.rf
  have hl : lv_has ls 2 [(0, .ref o), (1, .int (iI z))] := hl
  have inX12 : ∀ w ∈ u_ws RX12 TX12 38, w ∈ wsX12_letter := by decide +kernel
  obtain ⟨hn, hf⟩ := id hs
  refine lv_iload_n hx hb dX12_letter_0 rfl (lv_at hl 1 rfl) ?_
  refine lv_bipush (v := iI 32) hx hb dX12_letter_1 (by decide) ?_
  refine lv_bipush (v := iI 126) hx hb dX12_letter_3 (by decide) ?_
  have hPm := zp_perm hP (zblk (show List.Perm ([WMo o ma mi ml, Wa X 0 (ma 18) 24 f] : List va_W) ([] ++ [WMo o ma mi ml, Wa X 0 (ma 18) 24 f]) from List.Perm.refl _))
  have hDm := zd_perm hD (zblk (show List.Perm ([WMo o ma mi ml, Wa X 0 (ma 18) 24 f] : List va_W) ([] ++ [WMo o ma mi ml, Wa X 0 (ma 18) 24 f]) from List.Perm.refl _))
  refine z_callS (wr := zb [WMo o ma mi ml, Wa X 0 (ma 18) 24 f]) (As := [.int (iI z), .int (iI 32), .int (iI 126)]) (rest := []) ⟨hx, hb, hml, hown, hts⟩ (c_X12_within l X z 32 126 (by omega)) (va_cwS 3 hts gX12_letter_X12_within rfl rfl rfl (by decide +kernel) ⟨Nat.le_of_ble_eq_true rfl, Nat.le_of_ble_eq_true rfl⟩) hl.1 dX12_letter_5 rfl rfl (Nat.le_of_ble_eq_true rfl) ⟨(Nat.le_of_ble_eq_true rfl), (Nat.le_of_ble_eq_true rfl)⟩ hS hA hK hPm hDm (fun _ H locs _ hP hD hS => ?_)
  have hP := zp_perm hP ((zblk (show List.Perm ([WMo o ma mi ml, Wa X 0 (ma 18) 24 f] : List va_W) ([] ++ [WMo o ma mi ml, Wa X 0 (ma 18) 24 f]) from List.Perm.refl _))).symm
  have hD := zd_perm hD ((zblk (show List.Perm ([WMo o ma mi ml, Wa X 0 (ma 18) 24 f] : List va_W) ([] ++ [WMo o ma mi ml, Wa X 0 (ma 18) 24 f]) from List.Perm.refl _))).symm
  have hP : va_P X.1 vwCl (zb [WMo o ma mi ml, Wa X 0 (ma 18) 24 f]) H := hP
  have hD : va_D A (zb [WMo o ma mi ml, Wa X 0 (ma 18) 24 f]) := hD
  refine W.eq (g2 := F0 m 8 ls [.int (iI (if 32 ≤ z ∧ z ≤ 126 then 1 else 0))]) rfl ?_
  refine z_if_ne (tgt := 14) hx hb (by omega) dX12_letter_8 (by decide) (fun c_1 => ?_) (fun c_1 => ?_)
  · skip
    refine lv_aload_n hx hb dX12_letter_14 rfl (lv_at hl 0 rfl) ?_
    refine va_get (ci := 12) (v := .int (iI (mi 17))) (C := RX12) (T := TX12) (N := 38) hx hb hts inX12 hown hK.1 hP 0 rfl rfl 17 (by decide) (hts (.fieldLink RX12 81 "SkimmedSonsModel" "pageLength" "I") (by decide +kernel)) (fun _ h9 => h9) rfl dX12_letter_15 ?_
    refine lv_bipush (v := iI 24) hx hb dX12_letter_18 (by decide) ?_
    refine z_icmp_ne (tgt := 26) hx hb (by omega) dX12_letter_20 (by decide) (fun c_2 => ?_) (fun c_2 => ?_)
    · skip
      refine lv_aload_n hx hb dX12_letter_26 rfl (lv_at hl 0 rfl) ?_
      refine va_get (ci := 12) (v := .ref (ma 18)) (C := RX12) (T := TX12) (N := 38) hx hb hts inX12 hown hK.1 hP 0 rfl rfl 18 (by decide) (hts (.fieldLink RX12 43 "SkimmedSonsModel" "page" "[B") (by decide +kernel)) (fun _ h9 => h9) rfl dX12_letter_27 ?_
      refine lv_aload_n hx hb dX12_letter_30 rfl (lv_at hl 0 rfl) ?_
      refine va_get (ci := 12) (v := .int (iI (mi 17))) (C := RX12) (T := TX12) (N := 38) hx hb hts inX12 hown hK.1 hP 0 rfl rfl 17 (by decide) (hts (.fieldLink RX12 81 "SkimmedSonsModel" "pageLength" "I") (by decide +kernel)) (fun _ h9 => h9) rfl dX12_letter_31 ?_
      refine lv_iload_n hx hb dX12_letter_34 rfl (lv_at hl 1 rfl) ?_
      refine z_i2b hx hb (by omega) dX12_letter_35 ?_
      refine z_bast hx hb hK.1 hP hD hS 1 rfl (by omega) (by omega) dX12_letter_36 (fun H locs hP hD hS => ?_)
      have hP : va_P X.1 vwCl (zb [WMo o ma mi ml, Wa X 0 (ma 18) 24 (updZ f ((mi 17).toNat) z)]) H := hP
      have hD : va_D A (zb [WMo o ma mi ml, Wa X 0 (ma 18) 24 (updZ f ((mi 17).toNat) z)]) := hD
      refine lv_aload_n hx hb dX12_letter_37 rfl (lv_at hl 0 rfl) ?_
      refine lv_dup hx hb dX12_letter_38 rfl ?_
      refine va_get (ci := 12) (v := .int (iI (mi 17))) (C := RX12) (T := TX12) (N := 38) hx hb hts inX12 hown hK.1 hP 0 rfl rfl 17 (by decide) (hts (.fieldLink RX12 81 "SkimmedSonsModel" "pageLength" "I") (by decide +kernel)) (fun _ h9 => h9) rfl dX12_letter_39 ?_
      refine lv_iconst (v := iI 1) hx hb dX12_letter_42 (by decide) ?_
      refine z_iadd hx hb dX12_letter_43 ?_
      refine z_topi (fun z_3 ez_3 => ?_)
      refine va_put (ci := 12) (v := .int (iI z_3)) (ty := .int) (C := RX12) (T := TX12) (N := 38) hx hb hts inX12 tyX12 tyX12_ok nmX12 hown hK.1 hP hD hS 0 rfl rfl 17 (by decide) (hts (.fieldLink RX12 81 "SkimmedSonsModel" "pageLength" "I") (by decide +kernel)) (fun _ h9 => h9) rfl (by decide +kernel) rfl rfl (Nat.le_of_ble_eq_true rfl) dX12_letter_44 (fun H locs hP hD hS => ?_)
      have hP : va_P X.1 vwCl (zb [WMo o ma (updZ mi 17 z_3) ml, Wa X 0 (ma 18) 24 (updZ f ((mi 17).toNat) z)]) H := hP
      have hD : va_D A (zb [WMo o ma (updZ mi 17 z_3) ml, Wa X 0 (ma 18) 24 (updZ f ((mi 17).toNat) z)]) := hD
      refine lv_aload_n hx hb dX12_letter_47 rfl (lv_at hl 0 rfl) ?_
      refine va_get (ci := 12) (v := .int (iI z_3)) (C := RX12) (T := TX12) (N := 38) hx hb hts inX12 hown hK.1 hP 0 rfl rfl 17 (by decide) (hts (.fieldLink RX12 81 "SkimmedSonsModel" "pageLength" "I") (by decide +kernel)) (fun _ h9 => h9) rfl dX12_letter_48 ?_
      have hw : zb [WMo o ma (updZ mi 17 z_3) ml, Wa X 0 (ma 18) 24 (updZ f ((mi 17).toNat) z)] = zb [WMo o ma (updZ mi 17 (letterN (mi 17) z)) ml, Wa X 0 (ma 18) 24 (letterF (mi 17) z f)] := by unfold letterN letterF; (repeat (first | rw [if_pos (by omega)] | rw [if_neg (by omega)])); first | (rw [updZ_id]; done) | (subst_vars; rfl) | done
      rw [hw] at hP hD
      exact z_iret hQ hx hb hr hlocks hS ⟨(Nat.le_of_ble_eq_true rfl), (Nat.le_of_ble_eq_true rfl)⟩ dX12_letter_51 () (congrArg (fun z => some (Value.int (iI z))) (show (letterR (mi 17) z : Int) = z_3 by unfold letterR; omega)) trivial hP hD
    · skip
      refine lv_bipush (v := iI (-104)) hx hb dX12_letter_23 (by decide) ?_
      have hw : zb [WMo o ma mi ml, Wa X 0 (ma 18) 24 f] = zb [WMo o ma (updZ mi 17 (letterN (mi 17) z)) ml, Wa X 0 (ma 18) 24 (letterF (mi 17) z f)] := by unfold letterN letterF; (repeat (first | rw [if_pos (by omega)] | rw [if_neg (by omega)])); first | (rw [updZ_id]; done) | (subst_vars; rfl) | done
      rw [hw] at hP hD
      exact z_iret hQ hx hb hr hlocks hS ⟨(Nat.le_of_ble_eq_true rfl), (Nat.le_of_ble_eq_true rfl)⟩ dX12_letter_25 () (congrArg (fun z => some (Value.int (iI z))) (show (letterR (mi 17) z : Int) = (-104) by unfold letterR; omega)) trivial hP hD
  · skip
    refine lv_bipush (v := iI (-102)) hx hb dX12_letter_11 (by decide) ?_
    have hw : zb [WMo o ma mi ml, Wa X 0 (ma 18) 24 f] = zb [WMo o ma (updZ mi 17 (letterN (mi 17) z)) ml, Wa X 0 (ma 18) 24 (letterF (mi 17) z f)] := by unfold letterN letterF; (repeat (first | rw [if_pos (by omega)] | rw [if_neg (by omega)])); first | (rw [updZ_id]; done) | (subst_vars; rfl) | done
    rw [hw] at hP hD
    exact z_iret hQ hx hb hr hlocks hS ⟨(Nat.le_of_ble_eq_true rfl), (Nat.le_of_ble_eq_true rfl)⟩ dX12_letter_13 () (congrArg (fun z => some (Value.int (iI z))) (show (letterR (mi 17) z : Int) = (-102) by unfold letterR; omega)) trivial hP hD
set_option maxHeartbeats 1000000 in
set_option maxRecDepth 100000 in
theorem c_X12_blank (l : Launch) (X : zX) (o : Nat) (ma : Nat → Nat) (mi : Nat → Int) (ml : Nat → Int)  : zF l X yX12_blank wsX12_blank 0 0 [.ref o] (zb [WMo o ma mi ml]) (some (.int (iI (mi 17)))) (zb [WMo o ma (updZ mi 17 0) ml]) := by
  refine z_enter (cc := cX12_blank) (maxL := 2) (ret := (some .int)) (by decide) rfl (Nat.le_of_ble_eq_true rfl) ?_
  intro p e s m below meth c A ls Q hQ hE hl hP hD
  obtain ⟨hx, hb, hr, hml, hown, hts, hlocks, hnm, hA, hK⟩ := hE
  have hown : s.vm.findClass RX12 = some m.cls := hown
  have hS : va_S A s.heap s.heap [] := va_S.rf
  have hl : lv_has ls 2 [(0, .ref o)] := hl
  have inX12 : ∀ w ∈ u_ws RX12 TX12 38, w ∈ wsX12_blank := by decide +kernel
  refine lv_aload_n hx hb dX12_blank_0 rfl (lv_at hl 0 rfl) ?_
  refine va_get (ci := 12) (v := .int (iI (mi 17))) (C := RX12) (T := TX12) (N := 38) hx hb hts inX12 hown hK.1 hP 0 rfl rfl 17 (by decide) (hts (.fieldLink RX12 81 "SkimmedSonsModel" "pageLength" "I") (by decide +kernel)) (fun _ h9 => h9) rfl dX12_blank_1 ?_
  refine lv_istore_n (lv' := [(1, .int (iI (mi 17))), (0, .ref o)]) hx hb dX12_blank_4 rfl hl (by decide) rfl (fun ls hl => ?_)
  refine lv_aload_n hx hb dX12_blank_5 rfl (lv_at hl 1 rfl) ?_
  refine lv_iconst (v := iI 0) hx hb dX12_blank_6 (by decide) ?_
  refine va_put (ci := 12) (v := .int (iI 0)) (ty := .int) (C := RX12) (T := TX12) (N := 38) hx hb hts inX12 tyX12 tyX12_ok nmX12 hown hK.1 hP hD hS 0 rfl rfl 17 (by decide) (hts (.fieldLink RX12 81 "SkimmedSonsModel" "pageLength" "I") (by decide +kernel)) (fun _ h9 => h9) rfl (by decide +kernel) rfl rfl (Nat.le_of_ble_eq_true rfl) dX12_blank_7 (fun H locs hP hD hS => ?_)
  have hP : va_P X.1 vwCl (zb [WMo o ma (updZ mi 17 0) ml]) H := hP
  have hD : va_D A (zb [WMo o ma (updZ mi 17 0) ml]) := hD
  refine lv_iload_n hx hb dX12_blank_10 rfl (lv_at hl 0 rfl) ?_
  exact z_iret hQ hx hb hr hlocks hS ⟨(Nat.le_of_ble_eq_true rfl), (Nat.le_of_ble_eq_true rfl)⟩ dX12_blank_11 () rfl trivial hP hD
set_option maxHeartbeats 1000000 in
set_option maxRecDepth 100000 in
theorem c_X12_sillBy (l : Launch) (X : zX) (z : Int) (hz : 0 ≤ z ∧ z ≤ 126) : zF l X yX12_sillBy wsX12_sillBy 0 0 [.int (iI z)] (zb []) (some (.int (iI (idx0 z)))) (zb []) := by
  refine z_enter (cc := cX12_sillBy) (maxL := 1) (ret := (some .int)) (by decide) rfl (Nat.le_of_ble_eq_true rfl) ?_
  intro p e s m below meth c A ls Q hQ hE hl hP hD
  obtain ⟨hx, hb, hr, hml, hown, hts, hlocks, hnm, hA, hK⟩ := hE
  have hown : s.vm.findClass RX12 = some m.cls := hown
  have hS : va_S A s.heap s.heap [] := va_S.rf
  have hl : lv_has ls 1 [(0, .int (iI z))] := hl
  refine lv_iload_n hx hb dX12_sillBy_0 rfl (lv_at hl 0 rfl) ?_
  refine lv_bipush (v := iI 119) hx hb dX12_sillBy_1 (by decide) ?_
  refine z_icmp_ne (tgt := 10) hx hb (by omega) dX12_sillBy_3 (by decide) (fun c_1 => ?_) (fun c_1 => ?_)
  · skip
    refine lv_iload_n hx hb dX12_sillBy_10 rfl (lv_at hl 0 rfl) ?_
    refine lv_bipush (v := iI 99) hx hb dX12_sillBy_11 (by decide) ?_
    refine z_icmp_ne (tgt := 20) hx hb (by omega) dX12_sillBy_13 (by decide) (fun c_2 => ?_) (fun c_2 => ?_)
    · skip
      refine lv_iload_n hx hb dX12_sillBy_20 rfl (lv_at hl 0 rfl) ?_
      refine lv_bipush (v := iI 102) hx hb dX12_sillBy_21 (by decide) ?_
      refine z_icmp_ne (tgt := 30) hx hb (by omega) dX12_sillBy_23 (by decide) (fun c_3 => ?_) (fun c_3 => ?_)
      · skip
        refine lv_iconst (v := iI (-1)) hx hb dX12_sillBy_30 (by decide) ?_
        exact z_iret hQ hx hb hr hlocks hS ⟨(Nat.le_of_ble_eq_true rfl), (Nat.le_of_ble_eq_true rfl)⟩ dX12_sillBy_31 () (congrArg (fun z => some (Value.int (iI z))) (show (idx0 z : Int) = (-1) by unfold idx0; omega)) trivial hP hD
      · skip
        refine lv_iconst (v := iI 2) hx hb dX12_sillBy_26 (by decide) ?_
        refine lv_goto (tgt := 31) hx hb dX12_sillBy_27 (by decide) ?_
        exact z_iret hQ hx hb hr hlocks hS ⟨(Nat.le_of_ble_eq_true rfl), (Nat.le_of_ble_eq_true rfl)⟩ dX12_sillBy_31 () (congrArg (fun z => some (Value.int (iI z))) (show (idx0 z : Int) = 2 by unfold idx0; omega)) trivial hP hD
    · skip
      refine lv_iconst (v := iI 1) hx hb dX12_sillBy_16 (by decide) ?_
      refine lv_goto (tgt := 31) hx hb dX12_sillBy_17 (by decide) ?_
      exact z_iret hQ hx hb hr hlocks hS ⟨(Nat.le_of_ble_eq_true rfl), (Nat.le_of_ble_eq_true rfl)⟩ dX12_sillBy_31 () (congrArg (fun z => some (Value.int (iI z))) (show (idx0 z : Int) = 1 by unfold idx0; omega)) trivial hP hD
  · skip
    refine lv_iconst (v := iI 0) hx hb dX12_sillBy_6 (by decide) ?_
    refine lv_goto (tgt := 31) hx hb dX12_sillBy_7 (by decide) ?_
    exact z_iret hQ hx hb hr hlocks hS ⟨(Nat.le_of_ble_eq_true rfl), (Nat.le_of_ble_eq_true rfl)⟩ dX12_sillBy_31 () (congrArg (fun z => some (Value.int (iI z))) (show (idx0 z : Int) = 0 by unfold idx0; omega)) trivial hP hD
set_option maxHeartbeats 1000000 in
set_option maxRecDepth 100000 in
theorem c_X12_kindBy (l : Launch) (X : zX) (z : Int) (hz : 0 ≤ z ∧ z ≤ 126) : zF l X yX12_kindBy wsX12_kindBy 0 0 [.int (iI z)] (zb []) (some (.int (iI (idx1 z)))) (zb []) := by
  refine z_enter (cc := cX12_kindBy) (maxL := 1) (ret := (some .int)) (by decide) rfl (Nat.le_of_ble_eq_true rfl) ?_
  intro p e s m below meth c A ls Q hQ hE hl hP hD
  obtain ⟨hx, hb, hr, hml, hown, hts, hlocks, hnm, hA, hK⟩ := hE
  have hown : s.vm.findClass RX12 = some m.cls := hown
  have hS : va_S A s.heap s.heap [] := va_S.rf
  have hl : lv_has ls 1 [(0, .int (iI z))] := hl
  refine lv_iload_n hx hb dX12_kindBy_0 rfl (lv_at hl 0 rfl) ?_
  rcases (show (¬ z = 99 ∧ ¬ z = 104 ∧ ¬ z = 106 ∧ ¬ z = 115 ∧ ¬ z = 121) ∨ z = 99 ∨ z = 104 ∨ z = 106 ∨ z = 115 ∨ z = 121 by omega) with c_1 | c_1 | c_1 | c_1 | c_1 | c_1
  · skip
    refine z_look (off := 61) (tgt := 62) hx hb (by omega) dX12_kindBy_1 (by decide) (by exact lk_out (by simp; omega)) (by decide) ?_
    refine lv_iconst (v := iI (-1)) hx hb dX12_kindBy_62 (by decide) ?_
    exact z_iret hQ hx hb hr hlocks hS ⟨(Nat.le_of_ble_eq_true rfl), (Nat.le_of_ble_eq_true rfl)⟩ dX12_kindBy_63 () (congrArg (fun z => some (Value.int (iI z))) (show (idx1 z : Int) = (-1) by unfold idx1; omega)) trivial hP hD
  · skip
    refine z_look (off := 51) (tgt := 52) hx hb (by omega) dX12_kindBy_1 (by decide) (by rw [c_1]; rfl) (by decide) ?_
    refine lv_iconst (v := iI 0) hx hb dX12_kindBy_52 (by decide) ?_
    exact z_iret hQ hx hb hr hlocks hS ⟨(Nat.le_of_ble_eq_true rfl), (Nat.le_of_ble_eq_true rfl)⟩ dX12_kindBy_53 () (congrArg (fun z => some (Value.int (iI z))) (show (idx1 z : Int) = 0 by unfold idx1; omega)) trivial hP hD
  · skip
    refine z_look (off := 53) (tgt := 54) hx hb (by omega) dX12_kindBy_1 (by decide) (by rw [c_1]; rfl) (by decide) ?_
    refine lv_iconst (v := iI 1) hx hb dX12_kindBy_54 (by decide) ?_
    exact z_iret hQ hx hb hr hlocks hS ⟨(Nat.le_of_ble_eq_true rfl), (Nat.le_of_ble_eq_true rfl)⟩ dX12_kindBy_55 () (congrArg (fun z => some (Value.int (iI z))) (show (idx1 z : Int) = 1 by unfold idx1; omega)) trivial hP hD
  · skip
    refine z_look (off := 59) (tgt := 60) hx hb (by omega) dX12_kindBy_1 (by decide) (by rw [c_1]; rfl) (by decide) ?_
    refine lv_iconst (v := iI 4) hx hb dX12_kindBy_60 (by decide) ?_
    exact z_iret hQ hx hb hr hlocks hS ⟨(Nat.le_of_ble_eq_true rfl), (Nat.le_of_ble_eq_true rfl)⟩ dX12_kindBy_61 () (congrArg (fun z => some (Value.int (iI z))) (show (idx1 z : Int) = 4 by unfold idx1; omega)) trivial hP hD
  · skip
    refine z_look (off := 55) (tgt := 56) hx hb (by omega) dX12_kindBy_1 (by decide) (by rw [c_1]; rfl) (by decide) ?_
    refine lv_iconst (v := iI 2) hx hb dX12_kindBy_56 (by decide) ?_
    exact z_iret hQ hx hb hr hlocks hS ⟨(Nat.le_of_ble_eq_true rfl), (Nat.le_of_ble_eq_true rfl)⟩ dX12_kindBy_57 () (congrArg (fun z => some (Value.int (iI z))) (show (idx1 z : Int) = 2 by unfold idx1; omega)) trivial hP hD
  · skip
    refine z_look (off := 57) (tgt := 58) hx hb (by omega) dX12_kindBy_1 (by decide) (by rw [c_1]; rfl) (by decide) ?_
    refine lv_iconst (v := iI 3) hx hb dX12_kindBy_58 (by decide) ?_
    exact z_iret hQ hx hb hr hlocks hS ⟨(Nat.le_of_ble_eq_true rfl), (Nat.le_of_ble_eq_true rfl)⟩ dX12_kindBy_59 () (congrArg (fun z => some (Value.int (iI z))) (show (idx1 z : Int) = 3 by unfold idx1; omega)) trivial hP hD
set_option maxHeartbeats 1000000 in
set_option maxRecDepth 100000 in
theorem c_X12_at (l : Launch) (X : zX) (o : Nat) (ma : Nat → Nat) (mi : Nat → Int) (ml : Nat → Int) (f : Nat → Int) (z : Int) (hs : PageB (mi 17) f) (hz : 0 ≤ z ∧ z ≤ 1000) : zF l X yX12_at wsX12_at 0 0 [.ref o, .int (iI z)] (zb [WMo o ma mi ml, Wa X 0 (ma 18) 24 f]) (some (.int (iI (atZ f (mi 17) z)))) (zb [WMo o ma mi ml, Wa X 0 (ma 18) 24 f]) := by
  refine z_enter (cc := cX12_at) (maxL := 2) (ret := (some .int)) (by decide) rfl (Nat.le_of_ble_eq_true rfl) ?_
  intro p e s m below meth c A ls Q hQ hE hl hP hD
  obtain ⟨hx, hb, hr, hml, hown, hts, hlocks, hnm, hA, hK⟩ := hE
  have hown : s.vm.findClass RX12 = some m.cls := hown
  have hS : va_S A s.heap s.heap [] := va_S.rf
  have hl : lv_has ls 2 [(0, .ref o), (1, .int (iI z))] := hl
  have inX12 : ∀ w ∈ u_ws RX12 TX12 38, w ∈ wsX12_at := by decide +kernel
  obtain ⟨hn, hf⟩ := id hs
  refine lv_iload_n hx hb dX12_at_0 rfl (lv_at hl 1 rfl) ?_
  refine lv_aload_n hx hb dX12_at_1 rfl (lv_at hl 0 rfl) ?_
  refine va_get (ci := 12) (v := .int (iI (mi 17))) (C := RX12) (T := TX12) (N := 38) hx hb hts inX12 hown hK.1 hP 0 rfl rfl 17 (by decide) (hts (.fieldLink RX12 81 "SkimmedSonsModel" "pageLength" "I") (by decide +kernel)) (fun _ h9 => h9) rfl dX12_at_2 ?_
  refine z_icmp_ge (tgt := 17) hx hb (by omega) dX12_at_5 (by decide) (fun c_1 => ?_) (fun c_1 => ?_)
  · skip
    refine lv_iconst (v := iI 0) hx hb dX12_at_17 (by decide) ?_
    exact z_iret hQ hx hb hr hlocks hS ⟨(Nat.le_of_ble_eq_true rfl), (Nat.le_of_ble_eq_true rfl)⟩ dX12_at_18 () (congrArg (fun z => some (Value.int (iI z))) (show (atZ f (mi 17) z : Int) = 0 by unfold atZ; first | (rw [if_pos (by omega)]; done) | (rw [if_neg (by omega)]; done))) trivial hP hD
  · skip
    refine lv_aload_n hx hb dX12_at_8 rfl (lv_at hl 0 rfl) ?_
    refine va_get (ci := 12) (v := .ref (ma 18)) (C := RX12) (T := TX12) (N := 38) hx hb hts inX12 hown hK.1 hP 0 rfl rfl 18 (by decide) (hts (.fieldLink RX12 43 "SkimmedSonsModel" "page" "[B") (by decide +kernel)) (fun _ h9 => h9) rfl dX12_at_9 ?_
    refine lv_iload_n hx hb dX12_at_12 rfl (lv_at hl 1 rfl) ?_
    refine z_bald hx hb hK.1 hP 1 rfl (by omega) dX12_at_13 ?_
    refine W.eq (g2 := F0 m 14 ls [.int (iI (f z.toNat))]) rfl ?_
    refine lv_goto (tgt := 18) hx hb dX12_at_14 (by decide) ?_
    exact z_iret hQ hx hb hr hlocks hS ⟨(Nat.le_of_ble_eq_true rfl), (Nat.le_of_ble_eq_true rfl)⟩ dX12_at_18 () (congrArg (fun z => some (Value.int (iI z))) (show (atZ f (mi 17) z : Int) = f z.toNat by unfold atZ; first | (rw [if_pos (by omega)]; done) | (rw [if_neg (by omega)]; done))) trivial hP hD
set_option maxHeartbeats 1000000 in
set_option maxRecDepth 100000 in
theorem c_X12_isFigure (l : Launch) (X : zX) (o : Nat) (ma : Nat → Nat) (mi : Nat → Int) (ml : Nat → Int) (f : Nat → Int) (z : Int) (hs : PageB (mi 17) f) (hz : 0 ≤ z ∧ z ≤ 1000) : zF l X yX12_isFigure wsX12_isFigure 1 22 [.ref o, .int (iI z)] (zb [WMo o ma mi ml, Wa X 0 (ma 18) 24 f]) (some (.int (iI (if 48 ≤ atZ f (mi 17) z ∧ atZ f (mi 17) z ≤ 57 then 1 else 0)))) (zb [WMo o ma mi ml, Wa X 0 (ma 18) 24 f]) := by
  refine z_enter (cc := cX12_isFigure) (maxL := 2) (ret := (some .boolean)) (by decide) rfl (Nat.le_of_ble_eq_true rfl) ?_
  intro p e s m below meth c A ls Q hQ hE hl hP hD
  obtain ⟨hx, hb, hr, hml, hown, hts, hlocks, hnm, hA, hK⟩ := hE
  have hown : s.vm.findClass RX12 = some m.cls := hown
  have hS : va_S A s.heap s.heap [] := va_S.rf
  have hl : lv_has ls 2 [(0, .ref o), (1, .int (iI z))] := hl
  obtain ⟨hn, hf⟩ := id hs
  have ha := atZ_in hs z
  refine lv_aload_n hx hb dX12_isFigure_0 rfl (lv_at hl 0 rfl) ?_
  refine lv_iload_n hx hb dX12_isFigure_1 rfl (lv_at hl 1 rfl) ?_
  have hPm := zp_perm hP (zblk (show List.Perm ([WMo o ma mi ml, Wa X 0 (ma 18) 24 f] : List va_W) ([WMo o ma mi ml, Wa X 0 (ma 18) 24 f] ++ []) from (zf1 _ 0 _ rfl).trans (((zf1 _ 0 _ rfl).trans ((List.Perm.refl _).cons _)).cons _)))
  have hDm := zd_perm hD (zblk (show List.Perm ([WMo o ma mi ml, Wa X 0 (ma 18) 24 f] : List va_W) ([WMo o ma mi ml, Wa X 0 (ma 18) 24 f] ++ []) from (zf1 _ 0 _ rfl).trans (((zf1 _ 0 _ rfl).trans ((List.Perm.refl _).cons _)).cons _)))
  refine z_callV (wr := zb []) (As := [.int (iI z)]) (rest := []) ⟨hx, hb, hml, hown, hts⟩ (c_X12_at l X o ma mi ml f z (by exact hs) (by omega)) (cwV 1 hts gX12_isFigure_X12_at rfl rfl rfl (by decide +kernel) ⟨Nat.le_of_ble_eq_true rfl, Nat.le_of_ble_eq_true rfl⟩) rfl rfl hl.1 dX12_isFigure_2 rfl rfl (Nat.le_of_ble_eq_true rfl) ⟨(Nat.le_of_ble_eq_true rfl), (Nat.le_of_ble_eq_true rfl)⟩ hS hA hK hPm hDm (fun _ H locs _ hP hD hS => ?_)
  have hP := zp_perm hP ((zblk (show List.Perm ([WMo o ma mi ml, Wa X 0 (ma 18) 24 f] : List va_W) ([WMo o ma mi ml, Wa X 0 (ma 18) 24 f] ++ []) from (zf1 _ 0 _ rfl).trans (((zf1 _ 0 _ rfl).trans ((List.Perm.refl _).cons _)).cons _)))).symm
  have hD := zd_perm hD ((zblk (show List.Perm ([WMo o ma mi ml, Wa X 0 (ma 18) 24 f] : List va_W) ([WMo o ma mi ml, Wa X 0 (ma 18) 24 f] ++ []) from (zf1 _ 0 _ rfl).trans (((zf1 _ 0 _ rfl).trans ((List.Perm.refl _).cons _)).cons _)))).symm
  have hP : va_P X.1 vwCl (zb [WMo o ma mi ml, Wa X 0 (ma 18) 24 f]) H := hP
  have hD : va_D A (zb [WMo o ma mi ml, Wa X 0 (ma 18) 24 f]) := hD
  refine W.eq (g2 := F0 m 5 ls [.int (iI (atZ f (mi 17) z))]) rfl ?_
  refine lv_bipush (v := iI 48) hx hb dX12_isFigure_5 (by decide) ?_
  refine z_isub hx hb dX12_isFigure_7 ?_
  refine lv_iconst (v := iI 0) hx hb dX12_isFigure_8 (by decide) ?_
  refine lv_bipush (v := iI 9) hx hb dX12_isFigure_9 (by decide) ?_
  have hPm := zp_perm hP (zblk (show List.Perm ([WMo o ma mi ml, Wa X 0 (ma 18) 24 f] : List va_W) ([] ++ [WMo o ma mi ml, Wa X 0 (ma 18) 24 f]) from List.Perm.refl _))
  have hDm := zd_perm hD (zblk (show List.Perm ([WMo o ma mi ml, Wa X 0 (ma 18) 24 f] : List va_W) ([] ++ [WMo o ma mi ml, Wa X 0 (ma 18) 24 f]) from List.Perm.refl _))
  refine z_callS (wr := zb [WMo o ma mi ml, Wa X 0 (ma 18) 24 f]) (As := [.int (iI ((atZ f (mi 17) z) - 48)), .int (iI 0), .int (iI 9)]) (rest := []) ⟨hx, hb, hml, hown, hts⟩ (c_X12_within l X ((atZ f (mi 17) z) - 48) 0 9 (by omega)) (va_cwS 3 hts gX12_isFigure_X12_within rfl rfl rfl (by decide +kernel) ⟨Nat.le_of_ble_eq_true rfl, Nat.le_of_ble_eq_true rfl⟩) hl.1 dX12_isFigure_11 rfl rfl (Nat.le_of_ble_eq_true rfl) ⟨(Nat.le_of_ble_eq_true rfl), (Nat.le_of_ble_eq_true rfl)⟩ hS hA hK hPm hDm (fun _ H locs _ hP hD hS => ?_)
  have hP := zp_perm hP ((zblk (show List.Perm ([WMo o ma mi ml, Wa X 0 (ma 18) 24 f] : List va_W) ([] ++ [WMo o ma mi ml, Wa X 0 (ma 18) 24 f]) from List.Perm.refl _))).symm
  have hD := zd_perm hD ((zblk (show List.Perm ([WMo o ma mi ml, Wa X 0 (ma 18) 24 f] : List va_W) ([] ++ [WMo o ma mi ml, Wa X 0 (ma 18) 24 f]) from List.Perm.refl _))).symm
  have hP : va_P X.1 vwCl (zb [WMo o ma mi ml, Wa X 0 (ma 18) 24 f]) H := hP
  have hD : va_D A (zb [WMo o ma mi ml, Wa X 0 (ma 18) 24 f]) := hD
  refine W.eq (g2 := F0 m 14 ls [.int (iI (if 0 ≤ ((atZ f (mi 17) z) - 48) ∧ ((atZ f (mi 17) z) - 48) ≤ 9 then 1 else 0))]) rfl ?_
  exact z_zret (ty := .boolean) hQ hx hb hr (by split <;> rfl) hlocks hS ⟨(Nat.le_of_ble_eq_true rfl), (Nat.le_of_ble_eq_true rfl)⟩ dX12_isFigure_14 () (congrArg (fun z => some (Value.int (iI z))) (show (if 48 ≤ atZ f (mi 17) z ∧ atZ f (mi 17) z ≤ 57 then 1 else 0 : Int) = if 0 ≤ ((atZ f (mi 17) z) - 48) ∧ ((atZ f (mi 17) z) - 48) ≤ 9 then 1 else 0 by omega)) trivial hP hD
set_option maxHeartbeats 1000000 in
set_option maxRecDepth 100000 in
theorem c_X12_readPan (l : Launch) (X : zX) (o : Nat) (ma : Nat → Nat) (mi : Nat → Int) (ml : Nat → Int) (f : Nat → Int) (z : Int) (hs : PageB (mi 17) f) (hz : 0 ≤ z ∧ z ≤ 100) : zF l X yX12_readPan wsX12_readPan 2 43 [.ref o, .int (iI z)] (zb [WMo o ma mi ml, Wa X 0 (ma 18) 24 f]) (some (.int (iI (rdPan f (mi 17) z)))) (zb [WMo o ma mi ml, Wa X 0 (ma 18) 24 f]) := by
  refine z_enter (cc := cX12_readPan) (maxL := 2) (ret := (some .int)) (by decide) rfl (Nat.le_of_ble_eq_true rfl) ?_
  intro p e s m below meth c A ls Q hQ hE hl hP hD
  obtain ⟨hx, hb, hr, hml, hown, hts, hlocks, hnm, hA, hK⟩ := hE
  have hown : s.vm.findClass RX12 = some m.cls := hown
  have hS : va_S A s.heap s.heap [] := va_S.rf
  have hl : lv_has ls 2 [(0, .ref o), (1, .int (iI z))] := hl
  obtain ⟨hn, hf⟩ := id hs
  have ha := atZ_in hs z
  have hi0 := idx0_in (atZ f (mi 17) z)
  refine lv_aload_n hx hb dX12_readPan_0 rfl (lv_at hl 0 rfl) ?_
  refine lv_iload_n hx hb dX12_readPan_1 rfl (lv_at hl 1 rfl) ?_
  have hPm := zp_perm hP (zblk (show List.Perm ([WMo o ma mi ml, Wa X 0 (ma 18) 24 f] : List va_W) ([WMo o ma mi ml, Wa X 0 (ma 18) 24 f] ++ []) from (zf1 _ 0 _ rfl).trans (((zf1 _ 0 _ rfl).trans ((List.Perm.refl _).cons _)).cons _)))
  have hDm := zd_perm hD (zblk (show List.Perm ([WMo o ma mi ml, Wa X 0 (ma 18) 24 f] : List va_W) ([WMo o ma mi ml, Wa X 0 (ma 18) 24 f] ++ []) from (zf1 _ 0 _ rfl).trans (((zf1 _ 0 _ rfl).trans ((List.Perm.refl _).cons _)).cons _)))
  refine z_callV (wr := zb []) (As := [.int (iI z)]) (rest := []) ⟨hx, hb, hml, hown, hts⟩ (c_X12_at l X o ma mi ml f z (by exact hs) (by omega)) (cwV 1 hts gX12_readPan_X12_at rfl rfl rfl (by decide +kernel) ⟨Nat.le_of_ble_eq_true rfl, Nat.le_of_ble_eq_true rfl⟩) rfl rfl hl.1 dX12_readPan_2 rfl rfl (Nat.le_of_ble_eq_true rfl) ⟨(Nat.le_of_ble_eq_true rfl), (Nat.le_of_ble_eq_true rfl)⟩ hS hA hK hPm hDm (fun _ H locs _ hP hD hS => ?_)
  have hP := zp_perm hP ((zblk (show List.Perm ([WMo o ma mi ml, Wa X 0 (ma 18) 24 f] : List va_W) ([WMo o ma mi ml, Wa X 0 (ma 18) 24 f] ++ []) from (zf1 _ 0 _ rfl).trans (((zf1 _ 0 _ rfl).trans ((List.Perm.refl _).cons _)).cons _)))).symm
  have hD := zd_perm hD ((zblk (show List.Perm ([WMo o ma mi ml, Wa X 0 (ma 18) 24 f] : List va_W) ([WMo o ma mi ml, Wa X 0 (ma 18) 24 f] ++ []) from (zf1 _ 0 _ rfl).trans (((zf1 _ 0 _ rfl).trans ((List.Perm.refl _).cons _)).cons _)))).symm
  have hP : va_P X.1 vwCl (zb [WMo o ma mi ml, Wa X 0 (ma 18) 24 f]) H := hP
  have hD : va_D A (zb [WMo o ma mi ml, Wa X 0 (ma 18) 24 f]) := hD
  refine W.eq (g2 := F0 m 5 ls [.int (iI (atZ f (mi 17) z))]) rfl ?_
  have hPm := zp_perm hP (zblk (show List.Perm ([WMo o ma mi ml, Wa X 0 (ma 18) 24 f] : List va_W) ([] ++ [WMo o ma mi ml, Wa X 0 (ma 18) 24 f]) from List.Perm.refl _))
  have hDm := zd_perm hD (zblk (show List.Perm ([WMo o ma mi ml, Wa X 0 (ma 18) 24 f] : List va_W) ([] ++ [WMo o ma mi ml, Wa X 0 (ma 18) 24 f]) from List.Perm.refl _))
  refine z_callS (wr := zb [WMo o ma mi ml, Wa X 0 (ma 18) 24 f]) (As := [.int (iI (atZ f (mi 17) z))]) (rest := []) ⟨hx, hb, hml, hown, hts⟩ (c_X12_sillBy l X (atZ f (mi 17) z) (by omega)) (va_cwS 1 hts gX12_readPan_X12_sillBy rfl rfl rfl (by decide +kernel) ⟨Nat.le_of_ble_eq_true rfl, Nat.le_of_ble_eq_true rfl⟩) hl.1 dX12_readPan_5 rfl rfl (Nat.le_of_ble_eq_true rfl) ⟨(Nat.le_of_ble_eq_true rfl), (Nat.le_of_ble_eq_true rfl)⟩ hS hA hK hPm hDm (fun _ H locs _ hP hD hS => ?_)
  have hP := zp_perm hP ((zblk (show List.Perm ([WMo o ma mi ml, Wa X 0 (ma 18) 24 f] : List va_W) ([] ++ [WMo o ma mi ml, Wa X 0 (ma 18) 24 f]) from List.Perm.refl _))).symm
  have hD := zd_perm hD ((zblk (show List.Perm ([WMo o ma mi ml, Wa X 0 (ma 18) 24 f] : List va_W) ([] ++ [WMo o ma mi ml, Wa X 0 (ma 18) 24 f]) from List.Perm.refl _))).symm
  have hP : va_P X.1 vwCl (zb [WMo o ma mi ml, Wa X 0 (ma 18) 24 f]) H := hP
  have hD : va_D A (zb [WMo o ma mi ml, Wa X 0 (ma 18) 24 f]) := hD
  refine W.eq (g2 := F0 m 8 ls [.int (iI (idx0 (atZ f (mi 17) z)))]) rfl ?_
  refine lv_iconst (v := iI (-1)) hx hb dX12_readPan_8 (by decide) ?_
  refine z_icmp_ne (tgt := 14) hx hb (by omega) dX12_readPan_9 (by decide) (fun c_1 => ?_) (fun c_1 => ?_)
  · skip
    refine lv_aload_n hx hb dX12_readPan_14 rfl (lv_at hl 0 rfl) ?_
    refine lv_iload_n hx hb dX12_readPan_15 rfl (lv_at hl 1 rfl) ?_
    refine lv_iconst (v := iI 1) hx hb dX12_readPan_16 (by decide) ?_
    refine z_iadd hx hb dX12_readPan_17 ?_
    have hPm := zp_perm hP (zblk (show List.Perm ([WMo o ma mi ml, Wa X 0 (ma 18) 24 f] : List va_W) ([WMo o ma mi ml, Wa X 0 (ma 18) 24 f] ++ []) from (zf1 _ 0 _ rfl).trans (((zf1 _ 0 _ rfl).trans ((List.Perm.refl _).cons _)).cons _)))
    have hDm := zd_perm hD (zblk (show List.Perm ([WMo o ma mi ml, Wa X 0 (ma 18) 24 f] : List va_W) ([WMo o ma mi ml, Wa X 0 (ma 18) 24 f] ++ []) from (zf1 _ 0 _ rfl).trans (((zf1 _ 0 _ rfl).trans ((List.Perm.refl _).cons _)).cons _)))
    refine z_callV (wr := zb []) (As := [.int (iI (z + 1))]) (rest := []) ⟨hx, hb, hml, hown, hts⟩ (c_X12_isFigure l X o ma mi ml f (z + 1) (by exact hs) (by omega)) (cwV 1 hts gX12_readPan_X12_isFigure rfl rfl rfl (by decide +kernel) ⟨Nat.le_of_ble_eq_true rfl, Nat.le_of_ble_eq_true rfl⟩) rfl rfl hl.1 dX12_readPan_18 rfl rfl (Nat.le_of_ble_eq_true rfl) ⟨(Nat.le_of_ble_eq_true rfl), (Nat.le_of_ble_eq_true rfl)⟩ hS hA hK hPm hDm (fun _ H locs _ hP hD hS => ?_)
    have hP := zp_perm hP ((zblk (show List.Perm ([WMo o ma mi ml, Wa X 0 (ma 18) 24 f] : List va_W) ([WMo o ma mi ml, Wa X 0 (ma 18) 24 f] ++ []) from (zf1 _ 0 _ rfl).trans (((zf1 _ 0 _ rfl).trans ((List.Perm.refl _).cons _)).cons _)))).symm
    have hD := zd_perm hD ((zblk (show List.Perm ([WMo o ma mi ml, Wa X 0 (ma 18) 24 f] : List va_W) ([WMo o ma mi ml, Wa X 0 (ma 18) 24 f] ++ []) from (zf1 _ 0 _ rfl).trans (((zf1 _ 0 _ rfl).trans ((List.Perm.refl _).cons _)).cons _)))).symm
    have hP : va_P X.1 vwCl (zb [WMo o ma mi ml, Wa X 0 (ma 18) 24 f]) H := hP
    have hD : va_D A (zb [WMo o ma mi ml, Wa X 0 (ma 18) 24 f]) := hD
    refine W.eq (g2 := F0 m 21 ls [.int (iI (if 48 ≤ atZ f (mi 17) (z + 1) ∧ atZ f (mi 17) (z + 1) ≤ 57 then 1 else 0))]) rfl ?_
    refine z_if_ne (tgt := 30) hx hb (by omega) dX12_readPan_21 (by decide) (fun c_2 => ?_) (fun c_2 => ?_)
    · skip
      refine lv_aload_n hx hb dX12_readPan_30 rfl (lv_at hl 0 rfl) ?_
      refine lv_iload_n hx hb dX12_readPan_31 rfl (lv_at hl 1 rfl) ?_
      refine lv_iconst (v := iI 2) hx hb dX12_readPan_32 (by decide) ?_
      refine z_iadd hx hb dX12_readPan_33 ?_
      have hPm := zp_perm hP (zblk (show List.Perm ([WMo o ma mi ml, Wa X 0 (ma 18) 24 f] : List va_W) ([WMo o ma mi ml, Wa X 0 (ma 18) 24 f] ++ []) from (zf1 _ 0 _ rfl).trans (((zf1 _ 0 _ rfl).trans ((List.Perm.refl _).cons _)).cons _)))
      have hDm := zd_perm hD (zblk (show List.Perm ([WMo o ma mi ml, Wa X 0 (ma 18) 24 f] : List va_W) ([WMo o ma mi ml, Wa X 0 (ma 18) 24 f] ++ []) from (zf1 _ 0 _ rfl).trans (((zf1 _ 0 _ rfl).trans ((List.Perm.refl _).cons _)).cons _)))
      refine z_callV (wr := zb []) (As := [.int (iI (z + 2))]) (rest := []) ⟨hx, hb, hml, hown, hts⟩ (c_X12_isFigure l X o ma mi ml f (z + 2) (by exact hs) (by omega)) (cwV 1 hts gX12_readPan_X12_isFigure rfl rfl rfl (by decide +kernel) ⟨Nat.le_of_ble_eq_true rfl, Nat.le_of_ble_eq_true rfl⟩) rfl rfl hl.1 dX12_readPan_34 rfl rfl (Nat.le_of_ble_eq_true rfl) ⟨(Nat.le_of_ble_eq_true rfl), (Nat.le_of_ble_eq_true rfl)⟩ hS hA hK hPm hDm (fun _ H locs _ hP hD hS => ?_)
      have hP := zp_perm hP ((zblk (show List.Perm ([WMo o ma mi ml, Wa X 0 (ma 18) 24 f] : List va_W) ([WMo o ma mi ml, Wa X 0 (ma 18) 24 f] ++ []) from (zf1 _ 0 _ rfl).trans (((zf1 _ 0 _ rfl).trans ((List.Perm.refl _).cons _)).cons _)))).symm
      have hD := zd_perm hD ((zblk (show List.Perm ([WMo o ma mi ml, Wa X 0 (ma 18) 24 f] : List va_W) ([WMo o ma mi ml, Wa X 0 (ma 18) 24 f] ++ []) from (zf1 _ 0 _ rfl).trans (((zf1 _ 0 _ rfl).trans ((List.Perm.refl _).cons _)).cons _)))).symm
      have hP : va_P X.1 vwCl (zb [WMo o ma mi ml, Wa X 0 (ma 18) 24 f]) H := hP
      have hD : va_D A (zb [WMo o ma mi ml, Wa X 0 (ma 18) 24 f]) := hD
      refine W.eq (g2 := F0 m 37 ls [.int (iI (if 48 ≤ atZ f (mi 17) (z + 2) ∧ atZ f (mi 17) (z + 2) ≤ 57 then 1 else 0))]) rfl ?_
      refine z_if_ne (tgt := 46) hx hb (by omega) dX12_readPan_37 (by decide) (fun c_3 => ?_) (fun c_3 => ?_)
      · skip
        refine lv_iload_n hx hb dX12_readPan_46 rfl (lv_at hl 1 rfl) ?_
        refine lv_iconst (v := iI 3) hx hb dX12_readPan_47 (by decide) ?_
        refine z_iadd hx hb dX12_readPan_48 ?_
        exact z_iret hQ hx hb hr hlocks hS ⟨(Nat.le_of_ble_eq_true rfl), (Nat.le_of_ble_eq_true rfl)⟩ dX12_readPan_49 () (congrArg (fun z => some (Value.int (iI z))) (show (rdPan f (mi 17) z : Int) = z + 3 by unfold rdPan; (repeat (first | rw [if_pos (by omega)] | rw [if_neg (by omega)])))) trivial hP hD
      · skip
        refine lv_iload_n hx hb dX12_readPan_40 rfl (lv_at hl 1 rfl) ?_
        refine lv_iconst (v := iI 2) hx hb dX12_readPan_41 (by decide) ?_
        refine z_iadd hx hb dX12_readPan_42 ?_
        refine lv_goto (tgt := 49) hx hb dX12_readPan_43 (by decide) ?_
        exact z_iret hQ hx hb hr hlocks hS ⟨(Nat.le_of_ble_eq_true rfl), (Nat.le_of_ble_eq_true rfl)⟩ dX12_readPan_49 () (congrArg (fun z => some (Value.int (iI z))) (show (rdPan f (mi 17) z : Int) = z + 2 by unfold rdPan; (repeat (first | rw [if_pos (by omega)] | rw [if_neg (by omega)])))) trivial hP hD
    · skip
      refine lv_iload_n hx hb dX12_readPan_24 rfl (lv_at hl 1 rfl) ?_
      refine lv_iconst (v := iI 1) hx hb dX12_readPan_25 (by decide) ?_
      refine z_iadd hx hb dX12_readPan_26 ?_
      refine lv_goto (tgt := 49) hx hb dX12_readPan_27 (by decide) ?_
      exact z_iret hQ hx hb hr hlocks hS ⟨(Nat.le_of_ble_eq_true rfl), (Nat.le_of_ble_eq_true rfl)⟩ dX12_readPan_49 () (congrArg (fun z => some (Value.int (iI z))) (show (rdPan f (mi 17) z : Int) = z + 1 by unfold rdPan; (repeat (first | rw [if_pos (by omega)] | rw [if_neg (by omega)])))) trivial hP hD
  · skip
    refine lv_iload_n hx hb dX12_readPan_12 rfl (lv_at hl 1 rfl) ?_
    exact z_iret hQ hx hb hr hlocks hS ⟨(Nat.le_of_ble_eq_true rfl), (Nat.le_of_ble_eq_true rfl)⟩ dX12_readPan_13 () (congrArg (fun z => some (Value.int (iI z))) (show (rdPan f (mi 17) z : Int) = z by unfold rdPan; (repeat (first | rw [if_pos (by omega)] | rw [if_neg (by omega)])))) trivial hP hD
set_option maxHeartbeats 1000000 in
set_option maxRecDepth 100000 in
theorem c_X12_readChildren (l : Launch) (X : zX) (o : Nat) (ma : Nat → Nat) (mi : Nat → Int) (ml : Nat → Int) (f : Nat → Int) (i0 : Nat) (y0 : Int) (hs : PageB (mi 17) f) (hi0 : (i0 : Int) ≤ mi 17) (hm0 : mi 19 = 0 ∧ mi 21 = 0) : zM (S := (Nat → Int)) l X yX12_readChildren wsX12_readChildren { frames := 1, cells := 0, slots := 0, locals := 21 } [.ref o, .int (iI (↑i0))] (zb [WMo o ma mi ml, Wa X 0 (ma 18) 24 f]) (fun u => (some (.int (iI ((scanP f ((mi 17).toNat - i0) i0 4 y0 0).1))))) (fun u => zb [WMo o ma u ml, Wa X 0 (ma 18) 24 f]) (fun u => u 19 = whZ (scanP f ((mi 17).toNat - i0) i0 4 y0 0) (mi 17) ∧ u 21 = (scanP f ((mi 17).toNat - i0) i0 4 y0 0).2.2.2 ∧ ∀ k : Nat, ¬ k = 19 → ¬ k = 21 → u k = mi k) := by
  refine z_enter (cc := cX12_readChildren) (maxL := 3) (ret := (some .int)) (by decide) rfl (Nat.le_of_ble_eq_true rfl) ?_
  intro p e s m below meth c A ls Q hQ hE hl hP hD
  obtain ⟨hx, hb, hr, hml, hown, hts, hlocks, hnm, hA, hK⟩ := hE
  have hown : s.vm.findClass RX12 = some m.cls := hown
  have hS : va_S A s.heap s.heap [] := va_S.rf
  have hl : lv_has ls 3 [(0, .ref o), (1, .int (iI (↑i0)))] := hl
  have inX12 : ∀ w ∈ u_ws RX12 TX12 38, w ∈ wsX12_readChildren := by decide +kernel
  obtain ⟨hn, hf⟩ := id hs
  refine lv_iload_n hx hb dX12_readChildren_0 rfl (lv_at hl 1 rfl) ?_
  refine lv_istore_n (lv' := [(2, .int (iI (↑i0))), (0, .ref o), (1, .int (iI (↑i0)))]) hx hb dX12_readChildren_1 rfl hl (by decide) rfl (fun ls hl => ?_)
  have L2 : ∀ (fu : Nat) (i : Nat) (t : Nat), ((i : Int) ≤ mi 17) → (t ≤ 4) → (scanP f ((mi 17).toNat - i) i 4 y0 t = scanP f ((mi 17).toNat - i0) i0 4 y0 0) → ((mi 17).toNat + 1 - i) < fu → ∀ (H : Heap) (locs : List Loc) (ls : Array Slot), va_P X.1 vwCl (zb [WMo o ma (updZ (updZ mi 21 (↑t)) 19 0) ml, Wa X 0 (ma 18) 24 f]) H → va_D A (zb [WMo o ma (updZ (updZ mi 21 (↑t)) 19 0) ml, Wa X 0 (ma 18) 24 f]) → va_S A s.heap H locs → lv_has ls 3 [(0, .ref o), (2, .int (iI (↑i)))] → W p l e { frames := 1, cells := 0, slots := 0, locals := 21 } s m ([.ref o, .int (iI (↑i0))] : List Value).toArray below meth c H locs 0 0 Q (F0 m 2 ls []) := by
    intro fu
    induction fu with
    | zero => intro i t hi ht hsc hm; exact absurd hm (Nat.not_lt_zero _)
    | succ fu ih2 =>
      intro i t hi ht hsc hm H locs ls hP hD hS hl
      have hai := atZ_in hs (i : Int)
      have hai1 := atZ_in hs ((i : Int) + 1)
      have hc1 : atZ f (mi 17) ((i + 1 : Nat) : Int) = atZ f (mi 17) ((i : Int) + 1) := rfl
      have hi1 := idx1_in (atZ f (mi 17) (i : Int))
      refine lv_aload_n hx hb dX12_readChildren_2 rfl (lv_at hl 0 rfl) ?_
      refine va_get (ci := 12) (v := .int (iI (↑t))) (C := RX12) (T := TX12) (N := 38) hx hb hts inX12 hown hK.1 hP 0 rfl rfl 21 (by decide) (hts (.fieldLink RX12 96 "SkimmedSonsModel" "newChildren" "I") (by decide +kernel)) (fun _ h9 => h9) rfl dX12_readChildren_3 ?_
      refine lv_iconst (v := iI 5) hx hb dX12_readChildren_6 (by decide) ?_
      refine z_icmp_ge (tgt := 88) hx hb (by omega) dX12_readChildren_7 (by decide) (fun c_1 => ?_) (fun c_1 => ?_)
      · skip
        exact absurd c_1 (by omega)
      · skip
        refine lv_aload_n hx hb dX12_readChildren_10 rfl (lv_at hl 0 rfl) ?_
        refine lv_iload_n hx hb dX12_readChildren_11 rfl (lv_at hl 1 rfl) ?_
        have hPm := zp_perm hP (zblk (show List.Perm ([WMo o ma (updZ (updZ mi 21 (↑t)) 19 0) ml, Wa X 0 (ma 18) 24 f] : List va_W) ([WMo o ma (updZ (updZ mi 21 (↑t)) 19 0) ml, Wa X 0 (ma 18) 24 f] ++ []) from (zf1 _ 0 _ rfl).trans (((zf1 _ 0 _ rfl).trans ((List.Perm.refl _).cons _)).cons _)))
        have hDm := zd_perm hD (zblk (show List.Perm ([WMo o ma (updZ (updZ mi 21 (↑t)) 19 0) ml, Wa X 0 (ma 18) 24 f] : List va_W) ([WMo o ma (updZ (updZ mi 21 (↑t)) 19 0) ml, Wa X 0 (ma 18) 24 f] ++ []) from (zf1 _ 0 _ rfl).trans (((zf1 _ 0 _ rfl).trans ((List.Perm.refl _).cons _)).cons _)))
        refine z_callV (wr := zb []) (As := [.int (iI (↑i))]) (rest := []) ⟨hx, hb, hml, hown, hts⟩ (c_X12_at l X o ma (updZ (updZ mi 21 (↑t)) 19 0) ml f (↑i : Int) (by exact hs) (by omega)) (cwV 1 hts gX12_readChildren_X12_at rfl rfl rfl (by decide +kernel) ⟨Nat.le_of_ble_eq_true rfl, Nat.le_of_ble_eq_true rfl⟩) rfl rfl hl.1 dX12_readChildren_12 rfl rfl (Nat.le_of_ble_eq_true rfl) ⟨(Nat.le_of_ble_eq_true rfl), (Nat.le_of_ble_eq_true rfl)⟩ hS hA hK hPm hDm (fun _ H locs _ hP hD hS => ?_)
        have hP := zp_perm hP ((zblk (show List.Perm ([WMo o ma (updZ (updZ mi 21 (↑t)) 19 0) ml, Wa X 0 (ma 18) 24 f] : List va_W) ([WMo o ma (updZ (updZ mi 21 (↑t)) 19 0) ml, Wa X 0 (ma 18) 24 f] ++ []) from (zf1 _ 0 _ rfl).trans (((zf1 _ 0 _ rfl).trans ((List.Perm.refl _).cons _)).cons _)))).symm
        have hD := zd_perm hD ((zblk (show List.Perm ([WMo o ma (updZ (updZ mi 21 (↑t)) 19 0) ml, Wa X 0 (ma 18) 24 f] : List va_W) ([WMo o ma (updZ (updZ mi 21 (↑t)) 19 0) ml, Wa X 0 (ma 18) 24 f] ++ []) from (zf1 _ 0 _ rfl).trans (((zf1 _ 0 _ rfl).trans ((List.Perm.refl _).cons _)).cons _)))).symm
        have hP : va_P X.1 vwCl (zb [WMo o ma (updZ (updZ mi 21 (↑t)) 19 0) ml, Wa X 0 (ma 18) 24 f]) H := hP
        have hD : va_D A (zb [WMo o ma (updZ (updZ mi 21 (↑t)) 19 0) ml, Wa X 0 (ma 18) 24 f]) := hD
        refine W.eq (g2 := F0 m 15 ls [.int (iI (atZ f ((mi 17)) (↑i : Int)))]) rfl ?_
        have hPm := zp_perm hP (zblk (show List.Perm ([WMo o ma (updZ (updZ mi 21 (↑t)) 19 0) ml, Wa X 0 (ma 18) 24 f] : List va_W) ([] ++ [WMo o ma (updZ (updZ mi 21 (↑t)) 19 0) ml, Wa X 0 (ma 18) 24 f]) from List.Perm.refl _))
        have hDm := zd_perm hD (zblk (show List.Perm ([WMo o ma (updZ (updZ mi 21 (↑t)) 19 0) ml, Wa X 0 (ma 18) 24 f] : List va_W) ([] ++ [WMo o ma (updZ (updZ mi 21 (↑t)) 19 0) ml, Wa X 0 (ma 18) 24 f]) from List.Perm.refl _))
        refine z_callS (wr := zb [WMo o ma (updZ (updZ mi 21 (↑t)) 19 0) ml, Wa X 0 (ma 18) 24 f]) (As := [.int (iI (atZ f ((mi 17)) (↑i : Int)))]) (rest := []) ⟨hx, hb, hml, hown, hts⟩ (c_X12_kindBy l X (atZ f ((mi 17)) (↑i : Int)) (by omega)) (va_cwS 1 hts gX12_readChildren_X12_kindBy rfl rfl rfl (by decide +kernel) ⟨Nat.le_of_ble_eq_true rfl, Nat.le_of_ble_eq_true rfl⟩) hl.1 dX12_readChildren_15 rfl rfl (Nat.le_of_ble_eq_true rfl) ⟨(Nat.le_of_ble_eq_true rfl), (Nat.le_of_ble_eq_true rfl)⟩ hS hA hK hPm hDm (fun _ H locs _ hP hD hS => ?_)
        have hP := zp_perm hP ((zblk (show List.Perm ([WMo o ma (updZ (updZ mi 21 (↑t)) 19 0) ml, Wa X 0 (ma 18) 24 f] : List va_W) ([] ++ [WMo o ma (updZ (updZ mi 21 (↑t)) 19 0) ml, Wa X 0 (ma 18) 24 f]) from List.Perm.refl _))).symm
        have hD := zd_perm hD ((zblk (show List.Perm ([WMo o ma (updZ (updZ mi 21 (↑t)) 19 0) ml, Wa X 0 (ma 18) 24 f] : List va_W) ([] ++ [WMo o ma (updZ (updZ mi 21 (↑t)) 19 0) ml, Wa X 0 (ma 18) 24 f]) from List.Perm.refl _))).symm
        have hP : va_P X.1 vwCl (zb [WMo o ma (updZ (updZ mi 21 (↑t)) 19 0) ml, Wa X 0 (ma 18) 24 f]) H := hP
        have hD : va_D A (zb [WMo o ma (updZ (updZ mi 21 (↑t)) 19 0) ml, Wa X 0 (ma 18) 24 f]) := hD
        refine W.eq (g2 := F0 m 18 ls [.int (iI (idx1 (atZ f ((mi 17)) (↑i : Int))))]) rfl ?_
        refine lv_iconst (v := iI (-1)) hx hb dX12_readChildren_18 (by decide) ?_
        refine z_icmp_ne (tgt := 24) hx hb (by omega) dX12_readChildren_19 (by decide) (fun c_2 => ?_) (fun c_2 => ?_)
        · skip
          have hex : exB 4 y0 ↑t (atZ f (mi 17) ↑i) = 5 := by unfold exB; omega
          obtain ⟨hil, hs5⟩ := scan_ok (f := f) (n := mi 17) (i := i) (x := 4) (y := y0) (t := ↑t) hi (by omega) (by omega)
          rw [hex, if_neg (by decide), if_pos rfl, Int.add_zero, hsc] at hs5
          have hat1 : (i : Int) + 1 = mi 17 → atZ f (mi 17) ((i : Int) + 1) = 0 := fun q => if_neg (by omega)
          refine lv_aload_n hx hb dX12_readChildren_24 rfl (lv_at hl 0 rfl) ?_
          refine lv_dup hx hb dX12_readChildren_25 rfl ?_
          refine va_get (ci := 12) (v := .int (iI (↑t))) (C := RX12) (T := TX12) (N := 38) hx hb hts inX12 hown hK.1 hP 0 rfl rfl 21 (by decide) (hts (.fieldLink RX12 96 "SkimmedSonsModel" "newChildren" "I") (by decide +kernel)) (fun _ h9 => h9) rfl dX12_readChildren_26 ?_
          refine lv_iconst (v := iI 1) hx hb dX12_readChildren_29 (by decide) ?_
          refine z_iadd hx hb dX12_readChildren_30 ?_
          refine z_topi (fun z_3 ez_3 => ?_)
          refine va_put (ci := 12) (v := .int (iI z_3)) (ty := .int) (C := RX12) (T := TX12) (N := 38) hx hb hts inX12 tyX12 tyX12_ok nmX12 hown hK.1 hP hD hS 0 rfl rfl 21 (by decide) (hts (.fieldLink RX12 96 "SkimmedSonsModel" "newChildren" "I") (by decide +kernel)) (fun _ h9 => h9) rfl (by decide +kernel) rfl rfl (Nat.le_of_ble_eq_true rfl) dX12_readChildren_31 (fun H locs hP hD hS => ?_)
          have hP : va_P X.1 vwCl (zb [WMo o ma (updZ (updZ mi 19 0) 21 z_3) ml, Wa X 0 (ma 18) 24 f]) H := hP
          have hD : va_D A (zb [WMo o ma (updZ (updZ mi 19 0) 21 z_3) ml, Wa X 0 (ma 18) 24 f]) := hD
          refine z_iinc (k := 1) (lv' := [(2, .int (iI ((↑i) + 1))), (0, .ref o)]) hx hb dX12_readChildren_34 hl rfl (by decide) rfl (fun ls hl => ?_)
          refine lv_aload_n hx hb dX12_readChildren_37 rfl (lv_at hl 1 rfl) ?_
          refine lv_iload_n hx hb dX12_readChildren_38 rfl (lv_at hl 0 rfl) ?_
          refine lv_aload_n hx hb dX12_readChildren_39 rfl (lv_at hl 1 rfl) ?_
          refine va_get (ci := 12) (v := .int (iI (mi 17))) (C := RX12) (T := TX12) (N := 38) hx hb hts inX12 hown hK.1 hP 0 rfl rfl 17 (by decide) (hts (.fieldLink RX12 81 "SkimmedSonsModel" "pageLength" "I") (by decide +kernel)) (fun _ h9 => h9) rfl dX12_readChildren_40 ?_
          refine z_icmp_ne (tgt := 58) hx hb (by omega) dX12_readChildren_43 (by decide) (fun c_4 => ?_) (fun c_4 => ?_)
          · skip
            refine lv_iconst (v := iI 0) hx hb dX12_readChildren_58 (by decide) ?_
            refine va_put (ci := 12) (v := .int (iI 0)) (ty := .boolean) (C := RX12) (T := TX12) (N := 38) hx hb hts inX12 tyX12 tyX12_ok nmX12 hown hK.1 hP hD hS 0 rfl rfl 19 (by decide) (hts (.fieldLink RX12 102 "SkimmedSonsModel" "isWhole" "Z") (by decide +kernel)) (fun _ h9 => h9) rfl (by decide +kernel) (by rfl) (by rfl) (Nat.le_of_ble_eq_true rfl) dX12_readChildren_59 (fun H locs hP hD hS => ?_)
            have hP : va_P X.1 vwCl (zb [WMo o ma (updZ (updZ mi 21 z_3) 19 0) ml, Wa X 0 (ma 18) 24 f]) H := hP
            have hD : va_D A (zb [WMo o ma (updZ (updZ mi 21 z_3) 19 0) ml, Wa X 0 (ma 18) 24 f]) := hD
            refine lv_aload_n hx hb dX12_readChildren_62 rfl (lv_at hl 1 rfl) ?_
            refine va_get (ci := 12) (v := .int (iI z_3)) (C := RX12) (T := TX12) (N := 38) hx hb hts inX12 hown hK.1 hP 0 rfl rfl 21 (by decide) (hts (.fieldLink RX12 96 "SkimmedSonsModel" "newChildren" "I") (by decide +kernel)) (fun _ h9 => h9) rfl dX12_readChildren_63 ?_
            refine lv_iconst (v := iI 5) hx hb dX12_readChildren_66 (by decide) ?_
            refine z_icmp_eq (tgt := 80) hx hb (by omega) dX12_readChildren_67 (by decide) (fun c_5 => ?_) (fun c_5 => ?_)
            · skip
              have hend : scanP f ((mi 17).toNat - i0) i0 4 y0 0 = (((i + 1 : Nat) : Int), 5, y0, (t : Int) + 1) := by rw [hs5]; exact scan_bad (i := i + 1) (x := 5) (y := y0) (t := (t : Int) + 1) (by omega) (by unfold exB; rw [if_neg (by decide), if_neg (by decide), if_neg (by decide), if_neg (by decide), if_neg (by decide)]; exact if_neg (by omega))
              refine lv_iload_n hx hb dX12_readChildren_80 rfl (lv_at hl 0 rfl) ?_
              exact z_iret hQ hx hb hr hlocks hS ⟨(Nat.le_of_ble_eq_true rfl), (Nat.le_of_ble_eq_true rfl)⟩ dX12_readChildren_81 (updZ (updZ mi 21 z_3) 19 0) (congrArg (fun z => some (Value.int (iI z))) (show ((scanP f ((mi 17).toNat - i0) i0 4 y0 0).1 : Int) = (↑i) + 1 by rw [hend]; rfl)) (by (try dsimp only); refine ⟨?_, ?_, fun k h19 h21 => by simp [updZ, h19, h21]⟩; (rw [hend]; unfold whZ; dsimp only; first | (rw [if_pos (by omega)]; rfl) | (rw [if_neg (by omega)]; rfl)); (rw [hend]; subst_vars; rfl)) hP hD
            · skip
              refine lv_aload_n hx hb dX12_readChildren_70 rfl (lv_at hl 1 rfl) ?_
              refine lv_iload_n hx hb dX12_readChildren_71 rfl (lv_at hl 0 rfl) ?_
              have hPm := zp_perm hP (zblk (show List.Perm ([WMo o ma (updZ (updZ mi 21 z_3) 19 0) ml, Wa X 0 (ma 18) 24 f] : List va_W) ([WMo o ma (updZ (updZ mi 21 z_3) 19 0) ml, Wa X 0 (ma 18) 24 f] ++ []) from (zf1 _ 0 _ rfl).trans (((zf1 _ 0 _ rfl).trans ((List.Perm.refl _).cons _)).cons _)))
              have hDm := zd_perm hD (zblk (show List.Perm ([WMo o ma (updZ (updZ mi 21 z_3) 19 0) ml, Wa X 0 (ma 18) 24 f] : List va_W) ([WMo o ma (updZ (updZ mi 21 z_3) 19 0) ml, Wa X 0 (ma 18) 24 f] ++ []) from (zf1 _ 0 _ rfl).trans (((zf1 _ 0 _ rfl).trans ((List.Perm.refl _).cons _)).cons _)))
              refine z_callV (wr := zb []) (As := [.int (iI ((↑i) + 1))]) (rest := []) ⟨hx, hb, hml, hown, hts⟩ (c_X12_at l X o ma (updZ (updZ mi 21 z_3) 19 0) ml f ((↑i) + 1 : Int) (by exact hs) (by omega)) (cwV 1 hts gX12_readChildren_X12_at rfl rfl rfl (by decide +kernel) ⟨Nat.le_of_ble_eq_true rfl, Nat.le_of_ble_eq_true rfl⟩) rfl rfl hl.1 dX12_readChildren_72 rfl rfl (Nat.le_of_ble_eq_true rfl) ⟨(Nat.le_of_ble_eq_true rfl), (Nat.le_of_ble_eq_true rfl)⟩ hS hA hK hPm hDm (fun _ H locs _ hP hD hS => ?_)
              have hP := zp_perm hP ((zblk (show List.Perm ([WMo o ma (updZ (updZ mi 21 z_3) 19 0) ml, Wa X 0 (ma 18) 24 f] : List va_W) ([WMo o ma (updZ (updZ mi 21 z_3) 19 0) ml, Wa X 0 (ma 18) 24 f] ++ []) from (zf1 _ 0 _ rfl).trans (((zf1 _ 0 _ rfl).trans ((List.Perm.refl _).cons _)).cons _)))).symm
              have hD := zd_perm hD ((zblk (show List.Perm ([WMo o ma (updZ (updZ mi 21 z_3) 19 0) ml, Wa X 0 (ma 18) 24 f] : List va_W) ([WMo o ma (updZ (updZ mi 21 z_3) 19 0) ml, Wa X 0 (ma 18) 24 f] ++ []) from (zf1 _ 0 _ rfl).trans (((zf1 _ 0 _ rfl).trans ((List.Perm.refl _).cons _)).cons _)))).symm
              have hP : va_P X.1 vwCl (zb [WMo o ma (updZ (updZ mi 21 z_3) 19 0) ml, Wa X 0 (ma 18) 24 f]) H := hP
              have hD : va_D A (zb [WMo o ma (updZ (updZ mi 21 z_3) 19 0) ml, Wa X 0 (ma 18) 24 f]) := hD
              refine W.eq (g2 := F0 m 75 ls [.int (iI (atZ f ((mi 17)) ((↑i) + 1 : Int)))]) rfl ?_
              refine lv_bipush (v := iI 44) hx hb dX12_readChildren_75 (by decide) ?_
              refine z_icmp_eq (tgt := 82) hx hb (by omega) dX12_readChildren_77 (by decide) (fun c_6 => ?_) (fun c_6 => ?_)
              · skip
                refine z_iinc (k := 0) (lv' := [(2, .int (iI (((↑i) + 1) + 1))), (0, .ref o)]) hx hb dX12_readChildren_82 hl rfl (by decide) rfl (fun ls hl => ?_)
                refine lv_goto (tgt := 2) hx hb dX12_readChildren_85 (by decide) ?_
                have hw_7 : zb [WMo o ma (updZ (updZ mi 21 z_3) 19 0) ml, Wa X 0 (ma 18) 24 f] = zb [WMo o ma (updZ (updZ mi 21 (↑(t + 1))) 19 0) ml, Wa X 0 (ma 18) 24 f] := by first | rfl | (subst_vars; rfl) | (exfalso; omega)
                rw [hw_7] at hP hD
                exact ih2  (i + 2) (t + 1) (by omega) (by omega) (by rw [hs5, (scan_ok (f := f) (n := mi 17) (i := i + 1) (x := 5) (y := y0) (t := (t : Int) + 1) (by omega) (by omega) (by unfold exB; omega)).2]; rw [show exB 5 y0 ((t : Int) + 1) (atZ f (mi 17) ((i + 1 : Nat) : Int)) = 4 by unfold exB; omega, if_neg (by decide), if_neg (by decide), Int.add_zero, Int.add_zero]; rfl) (by omega) _ _ _ hP hD hS (lv_sub hl [1, 0] rfl)
              · skip
                have hend : scanP f ((mi 17).toNat - i0) i0 4 y0 0 = (((i + 1 : Nat) : Int), 5, y0, (t : Int) + 1) := by rw [hs5]; exact scan_bad (i := i + 1) (x := 5) (y := y0) (t := (t : Int) + 1) (by omega) (by unfold exB; rw [if_neg (by decide), if_neg (by decide), if_neg (by decide), if_neg (by decide), if_neg (by decide)]; exact if_neg (by omega))
                refine lv_iload_n hx hb dX12_readChildren_80 rfl (lv_at hl 0 rfl) ?_
                exact z_iret hQ hx hb hr hlocks hS ⟨(Nat.le_of_ble_eq_true rfl), (Nat.le_of_ble_eq_true rfl)⟩ dX12_readChildren_81 (updZ (updZ mi 21 z_3) 19 0) (congrArg (fun z => some (Value.int (iI z))) (show ((scanP f ((mi 17).toNat - i0) i0 4 y0 0).1 : Int) = (↑i) + 1 by rw [hend]; rfl)) (by (try dsimp only); refine ⟨?_, ?_, fun k h19 h21 => by simp [updZ, h19, h21]⟩; (rw [hend]; unfold whZ; dsimp only; first | (rw [if_pos (by omega)]; rfl) | (rw [if_neg (by omega)]; rfl)); (rw [hend]; subst_vars; rfl)) hP hD
          · skip
            refine lv_aload_n hx hb dX12_readChildren_46 rfl (lv_at hl 1 rfl) ?_
            refine va_get (ci := 12) (v := .int (iI z_3)) (C := RX12) (T := TX12) (N := 38) hx hb hts inX12 hown hK.1 hP 0 rfl rfl 21 (by decide) (hts (.fieldLink RX12 96 "SkimmedSonsModel" "newChildren" "I") (by decide +kernel)) (fun _ h9 => h9) rfl dX12_readChildren_47 ?_
            refine lv_iconst (v := iI 1) hx hb dX12_readChildren_50 (by decide) ?_
            refine z_icmp_le (tgt := 58) hx hb (by omega) dX12_readChildren_51 (by decide) (fun c_8 => ?_) (fun c_8 => ?_)
            · skip
              refine lv_iconst (v := iI 0) hx hb dX12_readChildren_58 (by decide) ?_
              refine va_put (ci := 12) (v := .int (iI 0)) (ty := .boolean) (C := RX12) (T := TX12) (N := 38) hx hb hts inX12 tyX12 tyX12_ok nmX12 hown hK.1 hP hD hS 0 rfl rfl 19 (by decide) (hts (.fieldLink RX12 102 "SkimmedSonsModel" "isWhole" "Z") (by decide +kernel)) (fun _ h9 => h9) rfl (by decide +kernel) (by rfl) (by rfl) (Nat.le_of_ble_eq_true rfl) dX12_readChildren_59 (fun H locs hP hD hS => ?_)
              have hP : va_P X.1 vwCl (zb [WMo o ma (updZ (updZ mi 21 z_3) 19 0) ml, Wa X 0 (ma 18) 24 f]) H := hP
              have hD : va_D A (zb [WMo o ma (updZ (updZ mi 21 z_3) 19 0) ml, Wa X 0 (ma 18) 24 f]) := hD
              refine lv_aload_n hx hb dX12_readChildren_62 rfl (lv_at hl 1 rfl) ?_
              refine va_get (ci := 12) (v := .int (iI z_3)) (C := RX12) (T := TX12) (N := 38) hx hb hts inX12 hown hK.1 hP 0 rfl rfl 21 (by decide) (hts (.fieldLink RX12 96 "SkimmedSonsModel" "newChildren" "I") (by decide +kernel)) (fun _ h9 => h9) rfl dX12_readChildren_63 ?_
              refine lv_iconst (v := iI 5) hx hb dX12_readChildren_66 (by decide) ?_
              refine z_icmp_eq (tgt := 80) hx hb (by omega) dX12_readChildren_67 (by decide) (fun c_9 => ?_) (fun c_9 => ?_)
              · skip
                have hend : scanP f ((mi 17).toNat - i0) i0 4 y0 0 = (((i + 1 : Nat) : Int), 5, y0, (t : Int) + 1) := by rw [hs5]; exact scan_bad (i := i + 1) (x := 5) (y := y0) (t := (t : Int) + 1) (by omega) (by unfold exB; rw [if_neg (by decide), if_neg (by decide), if_neg (by decide), if_neg (by decide), if_neg (by decide)]; exact if_neg (by omega))
                refine lv_iload_n hx hb dX12_readChildren_80 rfl (lv_at hl 0 rfl) ?_
                exact z_iret hQ hx hb hr hlocks hS ⟨(Nat.le_of_ble_eq_true rfl), (Nat.le_of_ble_eq_true rfl)⟩ dX12_readChildren_81 (updZ (updZ mi 21 z_3) 19 0) (congrArg (fun z => some (Value.int (iI z))) (show ((scanP f ((mi 17).toNat - i0) i0 4 y0 0).1 : Int) = (↑i) + 1 by rw [hend]; rfl)) (by (try dsimp only); refine ⟨?_, ?_, fun k h19 h21 => by simp [updZ, h19, h21]⟩; (rw [hend]; unfold whZ; dsimp only; first | (rw [if_pos (by omega)]; rfl) | (rw [if_neg (by omega)]; rfl)); (rw [hend]; subst_vars; rfl)) hP hD
              · skip
                refine lv_aload_n hx hb dX12_readChildren_70 rfl (lv_at hl 1 rfl) ?_
                refine lv_iload_n hx hb dX12_readChildren_71 rfl (lv_at hl 0 rfl) ?_
                have hPm := zp_perm hP (zblk (show List.Perm ([WMo o ma (updZ (updZ mi 21 z_3) 19 0) ml, Wa X 0 (ma 18) 24 f] : List va_W) ([WMo o ma (updZ (updZ mi 21 z_3) 19 0) ml, Wa X 0 (ma 18) 24 f] ++ []) from (zf1 _ 0 _ rfl).trans (((zf1 _ 0 _ rfl).trans ((List.Perm.refl _).cons _)).cons _)))
                have hDm := zd_perm hD (zblk (show List.Perm ([WMo o ma (updZ (updZ mi 21 z_3) 19 0) ml, Wa X 0 (ma 18) 24 f] : List va_W) ([WMo o ma (updZ (updZ mi 21 z_3) 19 0) ml, Wa X 0 (ma 18) 24 f] ++ []) from (zf1 _ 0 _ rfl).trans (((zf1 _ 0 _ rfl).trans ((List.Perm.refl _).cons _)).cons _)))
                refine z_callV (wr := zb []) (As := [.int (iI ((↑i) + 1))]) (rest := []) ⟨hx, hb, hml, hown, hts⟩ (c_X12_at l X o ma (updZ (updZ mi 21 z_3) 19 0) ml f ((↑i) + 1 : Int) (by exact hs) (by omega)) (cwV 1 hts gX12_readChildren_X12_at rfl rfl rfl (by decide +kernel) ⟨Nat.le_of_ble_eq_true rfl, Nat.le_of_ble_eq_true rfl⟩) rfl rfl hl.1 dX12_readChildren_72 rfl rfl (Nat.le_of_ble_eq_true rfl) ⟨(Nat.le_of_ble_eq_true rfl), (Nat.le_of_ble_eq_true rfl)⟩ hS hA hK hPm hDm (fun _ H locs _ hP hD hS => ?_)
                have hP := zp_perm hP ((zblk (show List.Perm ([WMo o ma (updZ (updZ mi 21 z_3) 19 0) ml, Wa X 0 (ma 18) 24 f] : List va_W) ([WMo o ma (updZ (updZ mi 21 z_3) 19 0) ml, Wa X 0 (ma 18) 24 f] ++ []) from (zf1 _ 0 _ rfl).trans (((zf1 _ 0 _ rfl).trans ((List.Perm.refl _).cons _)).cons _)))).symm
                have hD := zd_perm hD ((zblk (show List.Perm ([WMo o ma (updZ (updZ mi 21 z_3) 19 0) ml, Wa X 0 (ma 18) 24 f] : List va_W) ([WMo o ma (updZ (updZ mi 21 z_3) 19 0) ml, Wa X 0 (ma 18) 24 f] ++ []) from (zf1 _ 0 _ rfl).trans (((zf1 _ 0 _ rfl).trans ((List.Perm.refl _).cons _)).cons _)))).symm
                have hP : va_P X.1 vwCl (zb [WMo o ma (updZ (updZ mi 21 z_3) 19 0) ml, Wa X 0 (ma 18) 24 f]) H := hP
                have hD : va_D A (zb [WMo o ma (updZ (updZ mi 21 z_3) 19 0) ml, Wa X 0 (ma 18) 24 f]) := hD
                refine W.eq (g2 := F0 m 75 ls [.int (iI (atZ f ((mi 17)) ((↑i) + 1 : Int)))]) rfl ?_
                refine lv_bipush (v := iI 44) hx hb dX12_readChildren_75 (by decide) ?_
                refine z_icmp_eq (tgt := 82) hx hb (by omega) dX12_readChildren_77 (by decide) (fun c_10 => ?_) (fun c_10 => ?_)
                · skip
                  refine z_iinc (k := 0) (lv' := [(2, .int (iI (((↑i) + 1) + 1))), (0, .ref o)]) hx hb dX12_readChildren_82 hl rfl (by decide) rfl (fun ls hl => ?_)
                  refine lv_goto (tgt := 2) hx hb dX12_readChildren_85 (by decide) ?_
                  have hw_11 : zb [WMo o ma (updZ (updZ mi 21 z_3) 19 0) ml, Wa X 0 (ma 18) 24 f] = zb [WMo o ma (updZ (updZ mi 21 (↑(t + 1))) 19 0) ml, Wa X 0 (ma 18) 24 f] := by first | rfl | (subst_vars; rfl) | (exfalso; omega)
                  rw [hw_11] at hP hD
                  exact ih2  (i + 2) (t + 1) (by omega) (by omega) (by rw [hs5, (scan_ok (f := f) (n := mi 17) (i := i + 1) (x := 5) (y := y0) (t := (t : Int) + 1) (by omega) (by omega) (by unfold exB; omega)).2]; rw [show exB 5 y0 ((t : Int) + 1) (atZ f (mi 17) ((i + 1 : Nat) : Int)) = 4 by unfold exB; omega, if_neg (by decide), if_neg (by decide), Int.add_zero, Int.add_zero]; rfl) (by omega) _ _ _ hP hD hS (lv_sub hl [1, 0] rfl)
                · skip
                  have hend : scanP f ((mi 17).toNat - i0) i0 4 y0 0 = (((i + 1 : Nat) : Int), 5, y0, (t : Int) + 1) := by rw [hs5]; exact scan_bad (i := i + 1) (x := 5) (y := y0) (t := (t : Int) + 1) (by omega) (by unfold exB; rw [if_neg (by decide), if_neg (by decide), if_neg (by decide), if_neg (by decide), if_neg (by decide)]; exact if_neg (by omega))
                  refine lv_iload_n hx hb dX12_readChildren_80 rfl (lv_at hl 0 rfl) ?_
                  exact z_iret hQ hx hb hr hlocks hS ⟨(Nat.le_of_ble_eq_true rfl), (Nat.le_of_ble_eq_true rfl)⟩ dX12_readChildren_81 (updZ (updZ mi 21 z_3) 19 0) (congrArg (fun z => some (Value.int (iI z))) (show ((scanP f ((mi 17).toNat - i0) i0 4 y0 0).1 : Int) = (↑i) + 1 by rw [hend]; rfl)) (by (try dsimp only); refine ⟨?_, ?_, fun k h19 h21 => by simp [updZ, h19, h21]⟩; (rw [hend]; unfold whZ; dsimp only; first | (rw [if_pos (by omega)]; rfl) | (rw [if_neg (by omega)]; rfl)); (rw [hend]; subst_vars; rfl)) hP hD
            · skip
              refine lv_iconst (v := iI 1) hx hb dX12_readChildren_54 (by decide) ?_
              refine lv_goto (tgt := 59) hx hb dX12_readChildren_55 (by decide) ?_
              refine va_put (ci := 12) (v := .int (iI 1)) (ty := .boolean) (C := RX12) (T := TX12) (N := 38) hx hb hts inX12 tyX12 tyX12_ok nmX12 hown hK.1 hP hD hS 0 rfl rfl 19 (by decide) (hts (.fieldLink RX12 102 "SkimmedSonsModel" "isWhole" "Z") (by decide +kernel)) (fun _ h9 => h9) rfl (by decide +kernel) (by rfl) (by rfl) (Nat.le_of_ble_eq_true rfl) dX12_readChildren_59 (fun H locs hP hD hS => ?_)
              have hP : va_P X.1 vwCl (zb [WMo o ma (updZ (updZ mi 21 z_3) 19 1) ml, Wa X 0 (ma 18) 24 f]) H := hP
              have hD : va_D A (zb [WMo o ma (updZ (updZ mi 21 z_3) 19 1) ml, Wa X 0 (ma 18) 24 f]) := hD
              refine lv_aload_n hx hb dX12_readChildren_62 rfl (lv_at hl 1 rfl) ?_
              refine va_get (ci := 12) (v := .int (iI z_3)) (C := RX12) (T := TX12) (N := 38) hx hb hts inX12 hown hK.1 hP 0 rfl rfl 21 (by decide) (hts (.fieldLink RX12 96 "SkimmedSonsModel" "newChildren" "I") (by decide +kernel)) (fun _ h9 => h9) rfl dX12_readChildren_63 ?_
              refine lv_iconst (v := iI 5) hx hb dX12_readChildren_66 (by decide) ?_
              refine z_icmp_eq (tgt := 80) hx hb (by omega) dX12_readChildren_67 (by decide) (fun c_12 => ?_) (fun c_12 => ?_)
              · skip
                have hend : scanP f ((mi 17).toNat - i0) i0 4 y0 0 = (((i + 1 : Nat) : Int), 5, y0, (t : Int) + 1) := by rw [hs5]; exact scan_bad (i := i + 1) (x := 5) (y := y0) (t := (t : Int) + 1) (by omega) (by unfold exB; rw [if_neg (by decide), if_neg (by decide), if_neg (by decide), if_neg (by decide), if_neg (by decide)]; exact if_neg (by omega))
                refine lv_iload_n hx hb dX12_readChildren_80 rfl (lv_at hl 0 rfl) ?_
                exact z_iret hQ hx hb hr hlocks hS ⟨(Nat.le_of_ble_eq_true rfl), (Nat.le_of_ble_eq_true rfl)⟩ dX12_readChildren_81 (updZ (updZ mi 21 z_3) 19 1) (congrArg (fun z => some (Value.int (iI z))) (show ((scanP f ((mi 17).toNat - i0) i0 4 y0 0).1 : Int) = (↑i) + 1 by rw [hend]; rfl)) (by (try dsimp only); refine ⟨?_, ?_, fun k h19 h21 => by simp [updZ, h19, h21]⟩; (rw [hend]; unfold whZ; dsimp only; first | (rw [if_pos (by omega)]; rfl) | (rw [if_neg (by omega)]; rfl)); (rw [hend]; subst_vars; rfl)) hP hD
              · skip
                refine lv_aload_n hx hb dX12_readChildren_70 rfl (lv_at hl 1 rfl) ?_
                refine lv_iload_n hx hb dX12_readChildren_71 rfl (lv_at hl 0 rfl) ?_
                have hPm := zp_perm hP (zblk (show List.Perm ([WMo o ma (updZ (updZ mi 21 z_3) 19 1) ml, Wa X 0 (ma 18) 24 f] : List va_W) ([WMo o ma (updZ (updZ mi 21 z_3) 19 1) ml, Wa X 0 (ma 18) 24 f] ++ []) from (zf1 _ 0 _ rfl).trans (((zf1 _ 0 _ rfl).trans ((List.Perm.refl _).cons _)).cons _)))
                have hDm := zd_perm hD (zblk (show List.Perm ([WMo o ma (updZ (updZ mi 21 z_3) 19 1) ml, Wa X 0 (ma 18) 24 f] : List va_W) ([WMo o ma (updZ (updZ mi 21 z_3) 19 1) ml, Wa X 0 (ma 18) 24 f] ++ []) from (zf1 _ 0 _ rfl).trans (((zf1 _ 0 _ rfl).trans ((List.Perm.refl _).cons _)).cons _)))
                refine z_callV (wr := zb []) (As := [.int (iI ((↑i) + 1))]) (rest := []) ⟨hx, hb, hml, hown, hts⟩ (c_X12_at l X o ma (updZ (updZ mi 21 z_3) 19 1) ml f ((↑i) + 1 : Int) (by exact hs) (by omega)) (cwV 1 hts gX12_readChildren_X12_at rfl rfl rfl (by decide +kernel) ⟨Nat.le_of_ble_eq_true rfl, Nat.le_of_ble_eq_true rfl⟩) rfl rfl hl.1 dX12_readChildren_72 rfl rfl (Nat.le_of_ble_eq_true rfl) ⟨(Nat.le_of_ble_eq_true rfl), (Nat.le_of_ble_eq_true rfl)⟩ hS hA hK hPm hDm (fun _ H locs _ hP hD hS => ?_)
                have hP := zp_perm hP ((zblk (show List.Perm ([WMo o ma (updZ (updZ mi 21 z_3) 19 1) ml, Wa X 0 (ma 18) 24 f] : List va_W) ([WMo o ma (updZ (updZ mi 21 z_3) 19 1) ml, Wa X 0 (ma 18) 24 f] ++ []) from (zf1 _ 0 _ rfl).trans (((zf1 _ 0 _ rfl).trans ((List.Perm.refl _).cons _)).cons _)))).symm
                have hD := zd_perm hD ((zblk (show List.Perm ([WMo o ma (updZ (updZ mi 21 z_3) 19 1) ml, Wa X 0 (ma 18) 24 f] : List va_W) ([WMo o ma (updZ (updZ mi 21 z_3) 19 1) ml, Wa X 0 (ma 18) 24 f] ++ []) from (zf1 _ 0 _ rfl).trans (((zf1 _ 0 _ rfl).trans ((List.Perm.refl _).cons _)).cons _)))).symm
                have hP : va_P X.1 vwCl (zb [WMo o ma (updZ (updZ mi 21 z_3) 19 1) ml, Wa X 0 (ma 18) 24 f]) H := hP
                have hD : va_D A (zb [WMo o ma (updZ (updZ mi 21 z_3) 19 1) ml, Wa X 0 (ma 18) 24 f]) := hD
                refine W.eq (g2 := F0 m 75 ls [.int (iI (atZ f ((mi 17)) ((↑i) + 1 : Int)))]) rfl ?_
                refine lv_bipush (v := iI 44) hx hb dX12_readChildren_75 (by decide) ?_
                refine z_icmp_eq (tgt := 82) hx hb (by omega) dX12_readChildren_77 (by decide) (fun c_13 => ?_) (fun c_13 => ?_)
                · skip
                  refine z_iinc (k := 0) (lv' := [(2, .int (iI (((↑i) + 1) + 1))), (0, .ref o)]) hx hb dX12_readChildren_82 hl rfl (by decide) rfl (fun ls hl => ?_)
                  refine lv_goto (tgt := 2) hx hb dX12_readChildren_85 (by decide) ?_
                  have hw_14 : zb [WMo o ma (updZ (updZ mi 21 z_3) 19 1) ml, Wa X 0 (ma 18) 24 f] = zb [WMo o ma (updZ (updZ mi 21 (↑(t + 1))) 19 0) ml, Wa X 0 (ma 18) 24 f] := by first | rfl | (subst_vars; rfl) | (exfalso; omega)
                  rw [hw_14] at hP hD
                  exact ih2  (i + 2) (t + 1) (by omega) (by omega) (by rw [hs5, (scan_ok (f := f) (n := mi 17) (i := i + 1) (x := 5) (y := y0) (t := (t : Int) + 1) (by omega) (by omega) (by unfold exB; omega)).2]; rw [show exB 5 y0 ((t : Int) + 1) (atZ f (mi 17) ((i + 1 : Nat) : Int)) = 4 by unfold exB; omega, if_neg (by decide), if_neg (by decide), Int.add_zero, Int.add_zero]; rfl) (by omega) _ _ _ hP hD hS (lv_sub hl [1, 0] rfl)
                · skip
                  have hend : scanP f ((mi 17).toNat - i0) i0 4 y0 0 = (((i + 1 : Nat) : Int), 5, y0, (t : Int) + 1) := by rw [hs5]; exact scan_bad (i := i + 1) (x := 5) (y := y0) (t := (t : Int) + 1) (by omega) (by unfold exB; rw [if_neg (by decide), if_neg (by decide), if_neg (by decide), if_neg (by decide), if_neg (by decide)]; exact if_neg (by omega))
                  refine lv_iload_n hx hb dX12_readChildren_80 rfl (lv_at hl 0 rfl) ?_
                  exact z_iret hQ hx hb hr hlocks hS ⟨(Nat.le_of_ble_eq_true rfl), (Nat.le_of_ble_eq_true rfl)⟩ dX12_readChildren_81 (updZ (updZ mi 21 z_3) 19 1) (congrArg (fun z => some (Value.int (iI z))) (show ((scanP f ((mi 17).toNat - i0) i0 4 y0 0).1 : Int) = (↑i) + 1 by rw [hend]; rfl)) (by (try dsimp only); refine ⟨?_, ?_, fun k h19 h21 => by simp [updZ, h19, h21]⟩; (rw [hend]; unfold whZ; dsimp only; first | (rw [if_pos (by omega)]; rfl) | (rw [if_neg (by omega)]; rfl)); (rw [hend]; subst_vars; rfl)) hP hD
        · skip
          have hend : scanP f ((mi 17).toNat - i0) i0 4 y0 0 = ((i : Int), 4, y0, (t : Int)) := by rw [← hsc]; exact scan_bad (i := i) (x := 4) hi (by unfold exB; omega)
          refine lv_iload_n hx hb dX12_readChildren_22 rfl (lv_at hl 1 rfl) ?_
          exact z_iret hQ hx hb hr hlocks hS ⟨(Nat.le_of_ble_eq_true rfl), (Nat.le_of_ble_eq_true rfl)⟩ dX12_readChildren_23 (updZ (updZ mi 21 (↑t)) 19 0) (congrArg (fun z => some (Value.int (iI z))) (show ((scanP f ((mi 17).toNat - i0) i0 4 y0 0).1 : Int) = ↑i by rw [hend])) (by (try dsimp only); refine ⟨?_, ?_, fun k h19 h21 => by simp [updZ, h19, h21]⟩; (rw [hend]; unfold whZ; exact (if_neg (fun q => by have h9 : (4 : Int) = 5 := q.2.1; omega)).symm); (rw [hend]; rfl)) hP hD
  have hw_15 : zb [WMo o ma mi ml, Wa X 0 (ma 18) 24 f] = zb [WMo o ma (updZ (updZ mi 21 (↑0)) 19 0) ml, Wa X 0 (ma 18) 24 f] := by rw [updZ_of hm0.2, updZ_of hm0.1]
  rw [hw_15] at hP hD
  exact L2 (((mi 17).toNat + 1 - i0) + 1) i0 0 (by omega) (by omega) (by rfl) (by omega) _ _ _ hP hD hS (lv_sub hl [1, 0] rfl)
set_option maxHeartbeats 1000000 in
set_option maxRecDepth 100000 in
theorem c_X12_read (l : Launch) (X : zX) (o : Nat) (ma : Nat → Nat) (mi : Nat → Int) (ml : Nat → Int) (f : Nat → Int) (hs : PageB (mi 17) f) : zM (S := (Nat → Int)) l X yX12_read wsX12_read { frames := 3, cells := 0, slots := 0, locals := 64 } [.ref o] (zb [WMo o ma mi ml, Wa X 0 (ma 18) 24 f]) (fun u => (some (.int (iI ((scanP f (mi 17).toNat 0 0 0 0).1))))) (fun u => zb [WMo o ma u ml, Wa X 0 (ma 18) 24 f]) (fun u => u 19 = whZ (scanP f (mi 17).toNat 0 0 0 0) (mi 17) ∧ u 20 = (scanP f (mi 17).toNat 0 0 0 0).2.2.1 ∧ u 21 = (scanP f (mi 17).toNat 0 0 0 0).2.2.2 ∧ ∀ k : Nat, ¬ k = 19 → ¬ k = 20 → ¬ k = 21 → u k = mi k) := by
  refine z_enter (cc := cX12_read) (maxL := 3) (ret := (some .int)) (by decide) rfl (Nat.le_of_ble_eq_true rfl) ?_
  intro p e s m below meth c A ls Q hQ hE hl hP hD
  obtain ⟨hx, hb, hr, hml, hown, hts, hlocks, hnm, hA, hK⟩ := hE
  have hown : s.vm.findClass RX12 = some m.cls := hown
  have hS : va_S A s.heap s.heap [] := va_S.rf
  have hl : lv_has ls 3 [(0, .ref o)] := hl
  have inX12 : ∀ w ∈ u_ws RX12 TX12 38, w ∈ wsX12_read := by decide +kernel
  obtain ⟨hn, hf⟩ := id hs
  refine lv_aload_n hx hb dX12_read_0 rfl (lv_at hl 0 rfl) ?_
  refine lv_iconst (v := iI 0) hx hb dX12_read_1 (by decide) ?_
  refine va_put (ci := 12) (v := .int (iI 0)) (ty := .boolean) (C := RX12) (T := TX12) (N := 38) hx hb hts inX12 tyX12 tyX12_ok nmX12 hown hK.1 hP hD hS 0 rfl rfl 19 (by decide) (hts (.fieldLink RX12 102 "SkimmedSonsModel" "isWhole" "Z") (by decide +kernel)) (fun _ h9 => h9) rfl (by decide +kernel) (by rfl) (by rfl) (Nat.le_of_ble_eq_true rfl) dX12_read_2 (fun H locs hP hD hS => ?_)
  have hP : va_P X.1 vwCl (zb [WMo o ma (updZ mi 19 0) ml, Wa X 0 (ma 18) 24 f]) H := hP
  have hD : va_D A (zb [WMo o ma (updZ mi 19 0) ml, Wa X 0 (ma 18) 24 f]) := hD
  refine lv_aload_n hx hb dX12_read_5 rfl (lv_at hl 0 rfl) ?_
  refine lv_iconst (v := iI 0) hx hb dX12_read_6 (by decide) ?_
  refine va_put (ci := 12) (v := .int (iI 0)) (ty := .int) (C := RX12) (T := TX12) (N := 38) hx hb hts inX12 tyX12 tyX12_ok nmX12 hown hK.1 hP hD hS 0 rfl rfl 20 (by decide) (hts (.fieldLink RX12 106 "SkimmedSonsModel" "newPans" "I") (by decide +kernel)) (fun _ h9 => h9) rfl (by decide +kernel) rfl rfl (Nat.le_of_ble_eq_true rfl) dX12_read_7 (fun H locs hP hD hS => ?_)
  have hP : va_P X.1 vwCl (zb [WMo o ma (updZ (updZ mi 19 0) 20 0) ml, Wa X 0 (ma 18) 24 f]) H := hP
  have hD : va_D A (zb [WMo o ma (updZ (updZ mi 19 0) 20 0) ml, Wa X 0 (ma 18) 24 f]) := hD
  refine lv_aload_n hx hb dX12_read_10 rfl (lv_at hl 0 rfl) ?_
  refine lv_iconst (v := iI 0) hx hb dX12_read_11 (by decide) ?_
  refine va_put (ci := 12) (v := .int (iI 0)) (ty := .int) (C := RX12) (T := TX12) (N := 38) hx hb hts inX12 tyX12 tyX12_ok nmX12 hown hK.1 hP hD hS 0 rfl rfl 21 (by decide) (hts (.fieldLink RX12 96 "SkimmedSonsModel" "newChildren" "I") (by decide +kernel)) (fun _ h9 => h9) rfl (by decide +kernel) rfl rfl (Nat.le_of_ble_eq_true rfl) dX12_read_12 (fun H locs hP hD hS => ?_)
  have hP : va_P X.1 vwCl (zb [WMo o ma (updZ (updZ (updZ mi 19 0) 20 0) 21 0) ml, Wa X 0 (ma 18) 24 f]) H := hP
  have hD : va_D A (zb [WMo o ma (updZ (updZ (updZ mi 19 0) 20 0) 21 0) ml, Wa X 0 (ma 18) 24 f]) := hD
  refine lv_iconst (v := iI 0) hx hb dX12_read_15 (by decide) ?_
  refine lv_istore_n (lv' := [(1, .int (iI 0)), (0, .ref o)]) hx hb dX12_read_16 rfl hl (by decide) rfl (fun ls hl => ?_)
  have L17 : ∀ (fu : Nat) (i : Nat) (y : Nat), ((i : Int) ≤ mi 17) → (y ≤ 2) → (scanP f ((mi 17).toNat - i) i 0 y 0 = scanP f (mi 17).toNat 0 0 0 0) → ((mi 17).toNat + 1 - i) < fu → ∀ (H : Heap) (locs : List Loc) (ls : Array Slot), va_P X.1 vwCl (zb [WMo o ma (updZ (updZ (updZ mi 19 0) 21 0) 20 (↑y)) ml, Wa X 0 (ma 18) 24 f]) H → va_D A (zb [WMo o ma (updZ (updZ (updZ mi 19 0) 21 0) 20 (↑y)) ml, Wa X 0 (ma 18) 24 f]) → va_S A s.heap H locs → lv_has ls 3 [(0, .ref o), (1, .int (iI (↑i)))] → W p l e { frames := 3, cells := 0, slots := 0, locals := 64 } s m ([.ref o] : List Value).toArray below meth c H locs 0 0 Q (F0 m 17 ls []) := by
    intro fu
    induction fu with
    | zero => intro i y hi hy hsc hm; exact absurd hm (Nat.not_lt_zero _)
    | succ fu ih17 =>
      intro i y hi hy hsc hm H locs ls hP hD hS hl
      have hrp := rdPan_in f (mi 17) ↑i
      refine lv_aload_n hx hb dX12_read_17 rfl (lv_at hl 0 rfl) ?_
      refine va_get (ci := 12) (v := .int (iI (↑y))) (C := RX12) (T := TX12) (N := 38) hx hb hts inX12 hown hK.1 hP 0 rfl rfl 20 (by decide) (hts (.fieldLink RX12 106 "SkimmedSonsModel" "newPans" "I") (by decide +kernel)) (fun _ h9 => h9) rfl dX12_read_18 ?_
      refine lv_iconst (v := iI 3) hx hb dX12_read_21 (by decide) ?_
      refine z_icmp_ge (tgt := 96) hx hb (by omega) dX12_read_22 (by decide) (fun c_1 => ?_) (fun c_1 => ?_)
      · skip
        exact absurd c_1 (by omega)
      · skip
        refine lv_aload_n hx hb dX12_read_25 rfl (lv_at hl 0 rfl) ?_
        refine lv_iload_n hx hb dX12_read_26 rfl (lv_at hl 1 rfl) ?_
        have hPm := zp_perm hP (zblk (show List.Perm ([WMo o ma (updZ (updZ (updZ mi 19 0) 21 0) 20 (↑y)) ml, Wa X 0 (ma 18) 24 f] : List va_W) ([WMo o ma (updZ (updZ (updZ mi 19 0) 21 0) 20 (↑y)) ml, Wa X 0 (ma 18) 24 f] ++ []) from (zf1 _ 0 _ rfl).trans (((zf1 _ 0 _ rfl).trans ((List.Perm.refl _).cons _)).cons _)))
        have hDm := zd_perm hD (zblk (show List.Perm ([WMo o ma (updZ (updZ (updZ mi 19 0) 21 0) 20 (↑y)) ml, Wa X 0 (ma 18) 24 f] : List va_W) ([WMo o ma (updZ (updZ (updZ mi 19 0) 21 0) 20 (↑y)) ml, Wa X 0 (ma 18) 24 f] ++ []) from (zf1 _ 0 _ rfl).trans (((zf1 _ 0 _ rfl).trans ((List.Perm.refl _).cons _)).cons _)))
        refine z_callV (wr := zb []) (As := [.int (iI (↑i))]) (rest := []) ⟨hx, hb, hml, hown, hts⟩ (c_X12_readPan l X o ma (updZ (updZ (updZ mi 19 0) 21 0) 20 (↑y)) ml f (↑i : Int) (by exact hs) (by omega)) (cwV 1 hts gX12_read_X12_readPan rfl rfl rfl (by decide +kernel) ⟨Nat.le_of_ble_eq_true rfl, Nat.le_of_ble_eq_true rfl⟩) rfl rfl hl.1 dX12_read_27 rfl rfl (Nat.le_of_ble_eq_true rfl) ⟨(Nat.le_of_ble_eq_true rfl), (Nat.le_of_ble_eq_true rfl)⟩ hS hA hK hPm hDm (fun _ H locs _ hP hD hS => ?_)
        have hP := zp_perm hP ((zblk (show List.Perm ([WMo o ma (updZ (updZ (updZ mi 19 0) 21 0) 20 (↑y)) ml, Wa X 0 (ma 18) 24 f] : List va_W) ([WMo o ma (updZ (updZ (updZ mi 19 0) 21 0) 20 (↑y)) ml, Wa X 0 (ma 18) 24 f] ++ []) from (zf1 _ 0 _ rfl).trans (((zf1 _ 0 _ rfl).trans ((List.Perm.refl _).cons _)).cons _)))).symm
        have hD := zd_perm hD ((zblk (show List.Perm ([WMo o ma (updZ (updZ (updZ mi 19 0) 21 0) 20 (↑y)) ml, Wa X 0 (ma 18) 24 f] : List va_W) ([WMo o ma (updZ (updZ (updZ mi 19 0) 21 0) 20 (↑y)) ml, Wa X 0 (ma 18) 24 f] ++ []) from (zf1 _ 0 _ rfl).trans (((zf1 _ 0 _ rfl).trans ((List.Perm.refl _).cons _)).cons _)))).symm
        have hP : va_P X.1 vwCl (zb [WMo o ma (updZ (updZ (updZ mi 19 0) 21 0) 20 (↑y)) ml, Wa X 0 (ma 18) 24 f]) H := hP
        have hD : va_D A (zb [WMo o ma (updZ (updZ (updZ mi 19 0) 21 0) 20 (↑y)) ml, Wa X 0 (ma 18) 24 f]) := hD
        refine W.eq (g2 := F0 m 30 ls [.int (iI (rdPan f ((mi 17)) (↑i : Int)))]) rfl ?_
        refine z_topi (fun z_2 ez_2 => ?_)
        refine lv_istore_n (lv' := [(2, .int (iI z_2)), (0, .ref o), (1, .int (iI (↑i)))]) hx hb dX12_read_30 rfl hl (by decide) rfl (fun ls hl => ?_)
        refine lv_iload_n hx hb dX12_read_31 rfl (lv_at hl 0 rfl) ?_
        refine lv_iload_n hx hb dX12_read_32 rfl (lv_at hl 2 rfl) ?_
        refine lv_iconst (v := iI 3) hx hb dX12_read_33 (by decide) ?_
        refine z_iadd hx hb dX12_read_34 ?_
        refine z_icmp_eq (tgt := 40) hx hb (by omega) dX12_read_35 (by decide) (fun c_3 => ?_) (fun c_3 => ?_)
        · skip
          have he3 : rdPan f (mi 17) ↑i = ↑i + 3 := by omega
          obtain rfl : z_2 = ((i + 3 : Nat) : Int) := by omega
          obtain ⟨hl3, hs3⟩ := scan_panY (f := f) (n := mi 17) (i := i) (y := ↑y) (t := 0) hi (by omega)
          rw [hsc] at hs3
          have hai3 := atZ_in hs ((i + 3 : Nat) : Int)
          refine lv_aload_n hx hb dX12_read_40 rfl (lv_at hl 1 rfl) ?_
          refine lv_dup hx hb dX12_read_41 rfl ?_
          refine va_get (ci := 12) (v := .int (iI (↑y))) (C := RX12) (T := TX12) (N := 38) hx hb hts inX12 hown hK.1 hP 0 rfl rfl 20 (by decide) (hts (.fieldLink RX12 106 "SkimmedSonsModel" "newPans" "I") (by decide +kernel)) (fun _ h9 => h9) rfl dX12_read_42 ?_
          refine lv_iconst (v := iI 1) hx hb dX12_read_45 (by decide) ?_
          refine z_iadd hx hb dX12_read_46 ?_
          refine z_topi (fun z_4 ez_4 => ?_)
          refine va_put (ci := 12) (v := .int (iI z_4)) (ty := .int) (C := RX12) (T := TX12) (N := 38) hx hb hts inX12 tyX12 tyX12_ok nmX12 hown hK.1 hP hD hS 0 rfl rfl 20 (by decide) (hts (.fieldLink RX12 106 "SkimmedSonsModel" "newPans" "I") (by decide +kernel)) (fun _ h9 => h9) rfl (by decide +kernel) rfl rfl (Nat.le_of_ble_eq_true rfl) dX12_read_47 (fun H locs hP hD hS => ?_)
          have hP : va_P X.1 vwCl (zb [WMo o ma (updZ (updZ (updZ mi 19 0) 21 0) 20 z_4) ml, Wa X 0 (ma 18) 24 f]) H := hP
          have hD : va_D A (zb [WMo o ma (updZ (updZ (updZ mi 19 0) 21 0) 20 z_4) ml, Wa X 0 (ma 18) 24 f]) := hD
          refine lv_iload_n hx hb dX12_read_50 rfl (lv_at hl 0 rfl) ?_
          refine lv_istore_n (lv' := [(1, .int (iI ((i + 3 : Nat) : Int))), (2, .int (iI ((i + 3 : Nat) : Int))), (0, .ref o)]) hx hb dX12_read_51 rfl hl (by decide) rfl (fun ls hl => ?_)
          refine lv_aload_n hx hb dX12_read_52 rfl (lv_at hl 2 rfl) ?_
          refine lv_iload_n hx hb dX12_read_53 rfl (lv_at hl 0 rfl) ?_
          have hPm := zp_perm hP (zblk (show List.Perm ([WMo o ma (updZ (updZ (updZ mi 19 0) 21 0) 20 z_4) ml, Wa X 0 (ma 18) 24 f] : List va_W) ([WMo o ma (updZ (updZ (updZ mi 19 0) 21 0) 20 z_4) ml, Wa X 0 (ma 18) 24 f] ++ []) from (zf1 _ 0 _ rfl).trans (((zf1 _ 0 _ rfl).trans ((List.Perm.refl _).cons _)).cons _)))
          have hDm := zd_perm hD (zblk (show List.Perm ([WMo o ma (updZ (updZ (updZ mi 19 0) 21 0) 20 z_4) ml, Wa X 0 (ma 18) 24 f] : List va_W) ([WMo o ma (updZ (updZ (updZ mi 19 0) 21 0) 20 z_4) ml, Wa X 0 (ma 18) 24 f] ++ []) from (zf1 _ 0 _ rfl).trans (((zf1 _ 0 _ rfl).trans ((List.Perm.refl _).cons _)).cons _)))
          refine z_callV (wr := zb []) (As := [.int (iI ((i + 3 : Nat) : Int))]) (rest := []) ⟨hx, hb, hml, hown, hts⟩ (c_X12_at l X o ma (updZ (updZ (updZ mi 19 0) 21 0) 20 z_4) ml f ((i + 3 : Nat) : Int) (by exact hs) (by omega)) (cwV 1 hts gX12_read_X12_at rfl rfl rfl (by decide +kernel) ⟨Nat.le_of_ble_eq_true rfl, Nat.le_of_ble_eq_true rfl⟩) rfl rfl hl.1 dX12_read_54 rfl rfl (Nat.le_of_ble_eq_true rfl) ⟨(Nat.le_of_ble_eq_true rfl), (Nat.le_of_ble_eq_true rfl)⟩ hS hA hK hPm hDm (fun _ H locs _ hP hD hS => ?_)
          have hP := zp_perm hP ((zblk (show List.Perm ([WMo o ma (updZ (updZ (updZ mi 19 0) 21 0) 20 z_4) ml, Wa X 0 (ma 18) 24 f] : List va_W) ([WMo o ma (updZ (updZ (updZ mi 19 0) 21 0) 20 z_4) ml, Wa X 0 (ma 18) 24 f] ++ []) from (zf1 _ 0 _ rfl).trans (((zf1 _ 0 _ rfl).trans ((List.Perm.refl _).cons _)).cons _)))).symm
          have hD := zd_perm hD ((zblk (show List.Perm ([WMo o ma (updZ (updZ (updZ mi 19 0) 21 0) 20 z_4) ml, Wa X 0 (ma 18) 24 f] : List va_W) ([WMo o ma (updZ (updZ (updZ mi 19 0) 21 0) 20 z_4) ml, Wa X 0 (ma 18) 24 f] ++ []) from (zf1 _ 0 _ rfl).trans (((zf1 _ 0 _ rfl).trans ((List.Perm.refl _).cons _)).cons _)))).symm
          have hP : va_P X.1 vwCl (zb [WMo o ma (updZ (updZ (updZ mi 19 0) 21 0) 20 z_4) ml, Wa X 0 (ma 18) 24 f]) H := hP
          have hD : va_D A (zb [WMo o ma (updZ (updZ (updZ mi 19 0) 21 0) 20 z_4) ml, Wa X 0 (ma 18) 24 f]) := hD
          refine W.eq (g2 := F0 m 57 ls [.int (iI (atZ f ((mi 17)) ((i + 3 : Nat) : Int)))]) rfl ?_
          refine lv_bipush (v := iI 59) hx hb dX12_read_57 (by decide) ?_
          refine z_icmp_ne (tgt := 70) hx hb (by omega) dX12_read_59 (by decide) (fun c_5 => ?_) (fun c_5 => ?_)
          · skip
            refine lv_aload_n hx hb dX12_read_70 rfl (lv_at hl 2 rfl) ?_
            refine va_get (ci := 12) (v := .int (iI z_4)) (C := RX12) (T := TX12) (N := 38) hx hb hts inX12 hown hK.1 hP 0 rfl rfl 20 (by decide) (hts (.fieldLink RX12 106 "SkimmedSonsModel" "newPans" "I") (by decide +kernel)) (fun _ h9 => h9) rfl dX12_read_71 ?_
            refine lv_iconst (v := iI 3) hx hb dX12_read_74 (by decide) ?_
            refine z_icmp_eq (tgt := 88) hx hb (by omega) dX12_read_75 (by decide) (fun c_6 => ?_) (fun c_6 => ?_)
            · skip
              have hend : scanP f (mi 17).toNat 0 0 0 0 = (((i + 3 : Nat) : Int), 3, (y : Int) + 1, 0) := by rw [hs3]; exact scan_bad (i := i + 3) (x := 3) hl3 (by unfold exB; rw [if_neg (by decide), if_neg (by decide), if_neg (by decide), if_pos rfl, if_neg (by omega)]; exact if_neg (by omega))
              refine lv_iload_n hx hb dX12_read_88 rfl (lv_at hl 0 rfl) ?_
              exact z_iret hQ hx hb hr hlocks hS ⟨(Nat.le_of_ble_eq_true rfl), (Nat.le_of_ble_eq_true rfl)⟩ dX12_read_89 (updZ (updZ (updZ mi 19 0) 21 0) 20 z_4) (congrArg (fun z => some (Value.int (iI z))) (show ((scanP f (mi 17).toNat 0 0 0 0).1 : Int) = ((i + 3 : Nat) : Int) by rw [hend])) (by (try dsimp only); rw [hend]; refine ⟨?_, by subst_vars; rfl, rfl, fun k h19 h20 h21 => by simp [updZ, h19, h20, h21]⟩; unfold whZ; exact (if_neg (fun q => by have h9 : (3 : Int) = 5 := q.2.1; omega)).symm) hP hD
            · skip
              refine lv_aload_n hx hb dX12_read_78 rfl (lv_at hl 2 rfl) ?_
              refine lv_iload_n hx hb dX12_read_79 rfl (lv_at hl 0 rfl) ?_
              have hPm := zp_perm hP (zblk (show List.Perm ([WMo o ma (updZ (updZ (updZ mi 19 0) 21 0) 20 z_4) ml, Wa X 0 (ma 18) 24 f] : List va_W) ([WMo o ma (updZ (updZ (updZ mi 19 0) 21 0) 20 z_4) ml, Wa X 0 (ma 18) 24 f] ++ []) from (zf1 _ 0 _ rfl).trans (((zf1 _ 0 _ rfl).trans ((List.Perm.refl _).cons _)).cons _)))
              have hDm := zd_perm hD (zblk (show List.Perm ([WMo o ma (updZ (updZ (updZ mi 19 0) 21 0) 20 z_4) ml, Wa X 0 (ma 18) 24 f] : List va_W) ([WMo o ma (updZ (updZ (updZ mi 19 0) 21 0) 20 z_4) ml, Wa X 0 (ma 18) 24 f] ++ []) from (zf1 _ 0 _ rfl).trans (((zf1 _ 0 _ rfl).trans ((List.Perm.refl _).cons _)).cons _)))
              refine z_callV (wr := zb []) (As := [.int (iI ((i + 3 : Nat) : Int))]) (rest := []) ⟨hx, hb, hml, hown, hts⟩ (c_X12_at l X o ma (updZ (updZ (updZ mi 19 0) 21 0) 20 z_4) ml f ((i + 3 : Nat) : Int) (by exact hs) (by omega)) (cwV 1 hts gX12_read_X12_at rfl rfl rfl (by decide +kernel) ⟨Nat.le_of_ble_eq_true rfl, Nat.le_of_ble_eq_true rfl⟩) rfl rfl hl.1 dX12_read_80 rfl rfl (Nat.le_of_ble_eq_true rfl) ⟨(Nat.le_of_ble_eq_true rfl), (Nat.le_of_ble_eq_true rfl)⟩ hS hA hK hPm hDm (fun _ H locs _ hP hD hS => ?_)
              have hP := zp_perm hP ((zblk (show List.Perm ([WMo o ma (updZ (updZ (updZ mi 19 0) 21 0) 20 z_4) ml, Wa X 0 (ma 18) 24 f] : List va_W) ([WMo o ma (updZ (updZ (updZ mi 19 0) 21 0) 20 z_4) ml, Wa X 0 (ma 18) 24 f] ++ []) from (zf1 _ 0 _ rfl).trans (((zf1 _ 0 _ rfl).trans ((List.Perm.refl _).cons _)).cons _)))).symm
              have hD := zd_perm hD ((zblk (show List.Perm ([WMo o ma (updZ (updZ (updZ mi 19 0) 21 0) 20 z_4) ml, Wa X 0 (ma 18) 24 f] : List va_W) ([WMo o ma (updZ (updZ (updZ mi 19 0) 21 0) 20 z_4) ml, Wa X 0 (ma 18) 24 f] ++ []) from (zf1 _ 0 _ rfl).trans (((zf1 _ 0 _ rfl).trans ((List.Perm.refl _).cons _)).cons _)))).symm
              have hP : va_P X.1 vwCl (zb [WMo o ma (updZ (updZ (updZ mi 19 0) 21 0) 20 z_4) ml, Wa X 0 (ma 18) 24 f]) H := hP
              have hD : va_D A (zb [WMo o ma (updZ (updZ (updZ mi 19 0) 21 0) 20 z_4) ml, Wa X 0 (ma 18) 24 f]) := hD
              refine W.eq (g2 := F0 m 83 ls [.int (iI (atZ f ((mi 17)) ((i + 3 : Nat) : Int)))]) rfl ?_
              refine lv_bipush (v := iI 44) hx hb dX12_read_83 (by decide) ?_
              refine z_icmp_eq (tgt := 90) hx hb (by omega) dX12_read_85 (by decide) (fun c_7 => ?_) (fun c_7 => ?_)
              · skip
                obtain ⟨hl4, hs4⟩ := scan_ok (f := f) (n := mi 17) (i := i + 3) (x := 3) (y := (y : Int) + 1) (t := 0) hl3 (by omega) (by rw [show atZ f (mi 17) ((i + 3 : Nat) : Int) = 44 by omega]; unfold exB; omega)
                rw [← hs3, show exB 3 ((y : Int) + 1) 0 (atZ f (mi 17) ((i + 3 : Nat) : Int)) = 0 by rw [show atZ f (mi 17) ((i + 3 : Nat) : Int) = 44 by omega]; unfold exB; omega, if_neg (by decide), if_neg (by decide), Int.add_zero, Int.add_zero] at hs4
                refine z_iinc (k := 0) (lv' := [(1, .int (iI (((i + 3 : Nat) : Int) + 1))), (2, .int (iI ((i + 3 : Nat) : Int))), (0, .ref o)]) hx hb dX12_read_90 hl rfl (by decide) rfl (fun ls hl => ?_)
                refine lv_goto (tgt := 17) hx hb dX12_read_93 (by decide) ?_
                have hw_8 : zb [WMo o ma (updZ (updZ (updZ mi 19 0) 21 0) 20 z_4) ml, Wa X 0 (ma 18) 24 f] = zb [WMo o ma (updZ (updZ (updZ mi 19 0) 21 0) 20 (↑(y + 1))) ml, Wa X 0 (ma 18) 24 f] := by subst_vars; rfl
                rw [hw_8] at hP hD
                exact ih17  (i + 4) (y + 1) (by omega) (by omega) (by exact hs4.symm) (by omega) _ _ _ hP hD hS (lv_sub hl [2, 0] rfl)
              · skip
                have hend : scanP f (mi 17).toNat 0 0 0 0 = (((i + 3 : Nat) : Int), 3, (y : Int) + 1, 0) := by rw [hs3]; exact scan_bad (i := i + 3) (x := 3) hl3 (by unfold exB; rw [if_neg (by decide), if_neg (by decide), if_neg (by decide), if_pos rfl, if_neg (by omega)]; exact if_neg (by omega))
                refine lv_iload_n hx hb dX12_read_88 rfl (lv_at hl 0 rfl) ?_
                exact z_iret hQ hx hb hr hlocks hS ⟨(Nat.le_of_ble_eq_true rfl), (Nat.le_of_ble_eq_true rfl)⟩ dX12_read_89 (updZ (updZ (updZ mi 19 0) 21 0) 20 z_4) (congrArg (fun z => some (Value.int (iI z))) (show ((scanP f (mi 17).toNat 0 0 0 0).1 : Int) = ((i + 3 : Nat) : Int) by rw [hend])) (by (try dsimp only); rw [hend]; refine ⟨?_, by subst_vars; rfl, rfl, fun k h19 h20 h21 => by simp [updZ, h19, h20, h21]⟩; unfold whZ; exact (if_neg (fun q => by have h9 : (3 : Int) = 5 := q.2.1; omega)).symm) hP hD
          · skip
            obtain ⟨hl4, hs4⟩ := scan_ok (f := f) (n := mi 17) (i := i + 3) (x := 3) (y := (y : Int) + 1) (t := 0) hl3 (by omega) (by rw [show atZ f (mi 17) ((i + 3 : Nat) : Int) = 59 by omega]; unfold exB; omega)
            rw [← hs3, show exB 3 ((y : Int) + 1) 0 (atZ f (mi 17) ((i + 3 : Nat) : Int)) = 4 by rw [show atZ f (mi 17) ((i + 3 : Nat) : Int) = 59 by omega]; unfold exB; omega, if_neg (by decide), if_neg (by decide), Int.add_zero, Int.add_zero] at hs4
            refine lv_aload_n hx hb dX12_read_62 rfl (lv_at hl 2 rfl) ?_
            refine lv_iload_n hx hb dX12_read_63 rfl (lv_at hl 0 rfl) ?_
            refine lv_iconst (v := iI 1) hx hb dX12_read_64 (by decide) ?_
            refine z_iadd hx hb dX12_read_65 ?_
            obtain ⟨i4, hi4⟩ : ∃ q : Nat, q = i + 4 := ⟨_, rfl⟩
            refine W.eq (g2 := F0 m 66 ls [.int (iI ↑i4), .ref o]) (by rw [show ((i + 3 : Nat) : Int) + 1 = (i4 : Int) by omega]) ?_
            have hPm := zp_perm hP (zblk (show List.Perm ([WMo o ma (updZ (updZ (updZ mi 19 0) 21 0) 20 z_4) ml, Wa X 0 (ma 18) 24 f] : List va_W) ([WMo o ma (updZ (updZ (updZ mi 19 0) 21 0) 20 z_4) ml, Wa X 0 (ma 18) 24 f] ++ []) from (zf1 _ 0 _ rfl).trans (((zf1 _ 0 _ rfl).trans ((List.Perm.refl _).cons _)).cons _)))
            have hDm := zd_perm hD (zblk (show List.Perm ([WMo o ma (updZ (updZ (updZ mi 19 0) 21 0) 20 z_4) ml, Wa X 0 (ma 18) 24 f] : List va_W) ([WMo o ma (updZ (updZ (updZ mi 19 0) 21 0) 20 z_4) ml, Wa X 0 (ma 18) 24 f] ++ []) from (zf1 _ 0 _ rfl).trans (((zf1 _ 0 _ rfl).trans ((List.Perm.refl _).cons _)).cons _)))
            refine z_callV (wr := zb []) (As := [.int (iI (↑i4))]) (rest := []) ⟨hx, hb, hml, hown, hts⟩ (c_X12_readChildren l X o ma (updZ (updZ (updZ mi 19 0) 21 0) 20 z_4) ml f i4 ((y : Int) + 1) (by exact hs) (by show (i4 : Int) ≤ mi 17; omega) (by exact ⟨rfl, rfl⟩)) (cwV 1 hts gX12_read_X12_readChildren rfl rfl rfl (by decide +kernel) ⟨Nat.le_of_ble_eq_true rfl, Nat.le_of_ble_eq_true rfl⟩) rfl rfl hl.1 dX12_read_66 rfl rfl (Nat.le_of_ble_eq_true rfl) ⟨(Nat.le_of_ble_eq_true rfl), (Nat.le_of_ble_eq_true rfl)⟩ hS hA hK hPm hDm (fun u H locs hpost hP hD hS => ?_)
            obtain ⟨mj9_9, rfl⟩ : ∃ z, z = u := ⟨_, rfl⟩
            have hpost : mj9_9 19 = whZ (scanP f (((updZ (updZ (updZ mi 19 0) 21 0) 20 z_4) 17).toNat - i4) i4 4 ((y : Int) + 1) 0) ((updZ (updZ (updZ mi 19 0) 21 0) 20 z_4) 17) ∧ mj9_9 21 = (scanP f (((updZ (updZ (updZ mi 19 0) 21 0) 20 z_4) 17).toNat - i4) i4 4 ((y : Int) + 1) 0).2.2.2 ∧ ∀ k : Nat, ¬ k = 19 → ¬ k = 21 → mj9_9 k = (updZ (updZ (updZ mi 19 0) 21 0) 20 z_4) k := hpost
            have hP := zp_perm hP ((zblk (show List.Perm ([WMo o ma mj9_9 ml, Wa X 0 (ma 18) 24 f] : List va_W) ([WMo o ma mj9_9 ml, Wa X 0 (ma 18) 24 f] ++ []) from (zf1 _ 0 _ rfl).trans (((zf1 _ 0 _ rfl).trans ((List.Perm.refl _).cons _)).cons _)))).symm
            have hD := zd_perm hD ((zblk (show List.Perm ([WMo o ma mj9_9 ml, Wa X 0 (ma 18) 24 f] : List va_W) ([WMo o ma mj9_9 ml, Wa X 0 (ma 18) 24 f] ++ []) from (zf1 _ 0 _ rfl).trans (((zf1 _ 0 _ rfl).trans ((List.Perm.refl _).cons _)).cons _)))).symm
            have hP : va_P X.1 vwCl (zb [WMo o ma mj9_9 ml, Wa X 0 (ma 18) 24 f]) H := hP
            have hD : va_D A (zb [WMo o ma mj9_9 ml, Wa X 0 (ma 18) 24 f]) := hD
            refine W.eq (g2 := F0 m 69 ls [.int (iI ((scanP f (((mi 17)).toNat - i4) i4 4 ((y : Int) + 1) 0).1))]) rfl ?_
            exact z_iret hQ hx hb hr hlocks hS ⟨(Nat.le_of_ble_eq_true rfl), (Nat.le_of_ble_eq_true rfl)⟩ dX12_read_69 mj9_9 (congrArg (fun z => some (Value.int (iI z))) (show ((scanP f (mi 17).toNat 0 0 0 0).1 : Int) = (scanP f (((mi 17)).toNat - i4) i4 4 ((y : Int) + 1) 0).1 by rw [hs4, hi4])) (by (try dsimp only); obtain ⟨p1, p2, p3⟩ := hpost; subst hi4; rw [hs4]; refine ⟨p1, ?_, p2, fun k h19 h20 h21 => ?_⟩; (rw [p3 20 (by decide) (by decide), scan_y4 (Or.inl rfl)]; subst_vars; rfl); (rw [p3 k h19 h21]; simp [updZ, h19, h20, h21])) hP hD
        · skip
          obtain ⟨x9, hx9, hend⟩ := scan_panN (f := f) (n := mi 17) (i := i) (y := ↑y) (t := 0) hi (by omega)
          rw [hsc] at hend
          refine lv_iload_n hx hb dX12_read_38 rfl (lv_at hl 0 rfl) ?_
          exact z_iret hQ hx hb hr hlocks hS ⟨(Nat.le_of_ble_eq_true rfl), (Nat.le_of_ble_eq_true rfl)⟩ dX12_read_39 (updZ (updZ (updZ mi 19 0) 21 0) 20 (↑y)) (congrArg (fun z => some (Value.int (iI z))) (show ((scanP f (mi 17).toNat 0 0 0 0).1 : Int) = z_2 by rw [hend]; dsimp only; omega)) (by (try dsimp only); rw [hend]; refine ⟨?_, rfl, rfl, fun k h19 h20 h21 => by simp [updZ, h19, h20, h21]⟩; unfold whZ; exact (if_neg (fun q => by have := q.2.1; dsimp only at this; omega)).symm) hP hD
  have hw_10 : zb [WMo o ma (updZ (updZ (updZ mi 19 0) 20 0) 21 0) ml, Wa X 0 (ma 18) 24 f] = zb [WMo o ma (updZ (updZ (updZ mi 19 0) 21 0) 20 (↑0)) ml, Wa X 0 (ma 18) 24 f] := by rw [updZ_comm _ 0 0 (show ¬ 20 = 21 by decide)]
  rw [hw_10] at hP hD
  exact L17 (((mi 17).toNat + 1 - 0) + 1) 0 0 (by omega) (by omega) (by rfl) (by omega) _ _ _ hP hD hS (lv_sub hl [1, 0] rfl)
set_option maxHeartbeats 1000000 in
set_option maxRecDepth 100000 in
theorem c_X12_fault (l : Launch) (X : zX) (o : Nat) (ma : Nat → Nat) (mi : Nat → Int) (ml : Nat → Int) (f : Nat → Int) (hs : PageB (mi 17) f) : zM (S := (Nat → Int)) l X yX12_fault wsX12_fault { frames := 4, cells := 0, slots := 0, locals := 86 } [.ref o] (zb [WMo o ma mi ml, Wa X 0 (ma 18) 24 f]) (fun u => (some (.int (iI ((scanP f (mi 17).toNat 0 0 0 0).1))))) (fun u => zb [WMo o ma u ml, Wa X 0 (ma 18) 24 f]) (fun u => u 19 = whZ (scanP f (mi 17).toNat 0 0 0 0) (mi 17) ∧ u 20 = (scanP f (mi 17).toNat 0 0 0 0).2.2.1 ∧ u 21 = (scanP f (mi 17).toNat 0 0 0 0).2.2.2 ∧ ∀ k : Nat, ¬ k = 19 → ¬ k = 20 → ¬ k = 21 → u k = mi k) := by
  refine z_enter (cc := cX12_fault) (maxL := 1) (ret := (some .int)) (by decide) rfl (Nat.le_of_ble_eq_true rfl) ?_
  intro p e s m below meth c A ls Q hQ hE hl hP hD
  obtain ⟨hx, hb, hr, hml, hown, hts, hlocks, hnm, hA, hK⟩ := hE
  have hown : s.vm.findClass RX12 = some m.cls := hown
  have hS : va_S A s.heap s.heap [] := va_S.rf
  have hl : lv_has ls 1 [(0, .ref o)] := hl
  refine lv_aload_n hx hb dX12_fault_0 rfl (lv_at hl 0 rfl) ?_
  have hPm := zp_perm hP (zblk (show List.Perm ([WMo o ma mi ml, Wa X 0 (ma 18) 24 f] : List va_W) ([WMo o ma mi ml, Wa X 0 (ma 18) 24 f] ++ []) from (zf1 _ 0 _ rfl).trans (((zf1 _ 0 _ rfl).trans ((List.Perm.refl _).cons _)).cons _)))
  have hDm := zd_perm hD (zblk (show List.Perm ([WMo o ma mi ml, Wa X 0 (ma 18) 24 f] : List va_W) ([WMo o ma mi ml, Wa X 0 (ma 18) 24 f] ++ []) from (zf1 _ 0 _ rfl).trans (((zf1 _ 0 _ rfl).trans ((List.Perm.refl _).cons _)).cons _)))
  refine z_callV (wr := zb []) (As := []) (rest := []) ⟨hx, hb, hml, hown, hts⟩ (c_X12_read l X o ma mi ml f (by exact hs)) (cwV 0 hts gX12_fault_X12_read rfl rfl rfl (by decide +kernel) ⟨Nat.le_of_ble_eq_true rfl, Nat.le_of_ble_eq_true rfl⟩) rfl rfl hl.1 dX12_fault_1 rfl rfl (Nat.le_of_ble_eq_true rfl) ⟨(Nat.le_of_ble_eq_true rfl), (Nat.le_of_ble_eq_true rfl)⟩ hS hA hK hPm hDm (fun u H locs hpost hP hD hS => ?_)
  obtain ⟨mj9_1, rfl⟩ : ∃ z, z = u := ⟨_, rfl⟩
  have hpost : mj9_1 19 = whZ (scanP f (mi 17).toNat 0 0 0 0) (mi 17) ∧ mj9_1 20 = (scanP f (mi 17).toNat 0 0 0 0).2.2.1 ∧ mj9_1 21 = (scanP f (mi 17).toNat 0 0 0 0).2.2.2 ∧ ∀ k : Nat, ¬ k = 19 → ¬ k = 20 → ¬ k = 21 → mj9_1 k = mi k := hpost
  have hP := zp_perm hP ((zblk (show List.Perm ([WMo o ma mj9_1 ml, Wa X 0 (ma 18) 24 f] : List va_W) ([WMo o ma mj9_1 ml, Wa X 0 (ma 18) 24 f] ++ []) from (zf1 _ 0 _ rfl).trans (((zf1 _ 0 _ rfl).trans ((List.Perm.refl _).cons _)).cons _)))).symm
  have hD := zd_perm hD ((zblk (show List.Perm ([WMo o ma mj9_1 ml, Wa X 0 (ma 18) 24 f] : List va_W) ([WMo o ma mj9_1 ml, Wa X 0 (ma 18) 24 f] ++ []) from (zf1 _ 0 _ rfl).trans (((zf1 _ 0 _ rfl).trans ((List.Perm.refl _).cons _)).cons _)))).symm
  have hP : va_P X.1 vwCl (zb [WMo o ma mj9_1 ml, Wa X 0 (ma 18) 24 f]) H := hP
  have hD : va_D A (zb [WMo o ma mj9_1 ml, Wa X 0 (ma 18) 24 f]) := hD
  refine W.eq (g2 := F0 m 4 ls [.int (iI ((scanP f (mi 17).toNat 0 0 0 0).1))]) rfl ?_
  exact z_iret hQ hx hb hr hlocks hS ⟨(Nat.le_of_ble_eq_true rfl), (Nat.le_of_ble_eq_true rfl)⟩ dX12_fault_4 mj9_1 rfl (by (try dsimp only); exact hpost) hP hD
