set_option maxHeartbeats 1000000 in
set_option maxRecDepth 100000 in
theorem c_X12_isPan (l : Launch) (X : zX) (o : Nat) (ma : Nat → Nat) (mi : Nat → Int) (ml : Nat → Int) (z : Int) (hn : 0 ≤ mi 1 ∧ mi 1 ≤ 3) (hrz : -2147483648 ≤ z ∧ z < 2147483648) : zF l X yX12_isPan wsX12_isPan 1 22 [.ref o, .int (iI z)] (zb [WMo o ma mi ml]) (some (.int (iI (if 0 ≤ z ∧ z < mi 1 then 1 else 0)))) (zb [WMo o ma mi ml]) := by
  refine z_enter (cc := cX12_isPan) (maxL := 2) (ret := (some .boolean)) (by decide) rfl (Nat.le_of_ble_eq_true rfl) ?_
  intro p e s m below meth c A ls Q hQ hE hl hP hD
  obtain ⟨hx, hb, hr, hml, hown, hts, hlocks, hnm, hA, hK⟩ := hE
  have hown : s.vm.findClass RX12 = some m.cls := hown
  have hS : va_S A s.heap s.heap [] := va_S.rf
  have hl : lv_has ls 2 [(0, .ref o), (1, .int (iI z))] := hl
  have inX12 : ∀ w ∈ u_ws RX12 TX12 38, w ∈ wsX12_isPan := by decide +kernel
  refine lv_iload_n hx hb dX12_isPan_0 rfl (lv_at hl 1 rfl) ?_
  refine lv_iconst (v := iI 0) hx hb dX12_isPan_1 (by decide) ?_
  refine lv_aload_n hx hb dX12_isPan_2 rfl (lv_at hl 0 rfl) ?_
  refine va_get (ci := 12) (v := .int (iI (mi 1))) (C := RX12) (T := TX12) (N := 38) hx hb hts inX12 hown hK.1 hP 0 rfl rfl 1 (by decide) (hts (.fieldLink RX12 119 "SkimmedSonsModel" "pans" "I") (by decide +kernel)) (fun _ h9 => h9) rfl dX12_isPan_3 ?_
  refine lv_iconst (v := iI 1) hx hb dX12_isPan_6 (by decide) ?_
  refine z_isub hx hb dX12_isPan_7 ?_
  have hPm := zp_perm hP (zblk (show List.Perm ([WMo o ma mi ml] : List va_W) ([] ++ [WMo o ma mi ml]) from List.Perm.refl _))
  have hDm := zd_perm hD (zblk (show List.Perm ([WMo o ma mi ml] : List va_W) ([] ++ [WMo o ma mi ml]) from List.Perm.refl _))
  refine z_callS (wr := zb [WMo o ma mi ml]) (As := [.int (iI z), .int (iI 0), .int (iI ((mi 1) - 1))]) (rest := []) ⟨hx, hb, hml, hown, hts⟩ (c_X12_within l X z 0 ((mi 1) - 1) (by omega)) (va_cwS 3 hts gX12_isPan_X12_within rfl rfl rfl (by decide +kernel) ⟨Nat.le_of_ble_eq_true rfl, Nat.le_of_ble_eq_true rfl⟩) hl.1 dX12_isPan_8 rfl rfl (Nat.le_of_ble_eq_true rfl) ⟨(Nat.le_of_ble_eq_true rfl), (Nat.le_of_ble_eq_true rfl)⟩ hS hA hK hPm hDm (fun _ H locs _ hP hD hS => ?_)
  have hP := zp_perm hP ((zblk (show List.Perm ([WMo o ma mi ml] : List va_W) ([] ++ [WMo o ma mi ml]) from List.Perm.refl _))).symm
  have hD := zd_perm hD ((zblk (show List.Perm ([WMo o ma mi ml] : List va_W) ([] ++ [WMo o ma mi ml]) from List.Perm.refl _))).symm
  have hP : va_P X.1 vwCl (zb [WMo o ma mi ml]) H := hP
  have hD : va_D A (zb [WMo o ma mi ml]) := hD
  refine W.eq (g2 := F0 m 11 ls [.int (iI (if 0 ≤ z ∧ z ≤ ((mi 1) - 1) then 1 else 0))]) rfl ?_
  exact z_zret (ty := .boolean) hQ hx hb hr (by split <;> rfl) hlocks hS ⟨(Nat.le_of_ble_eq_true rfl), (Nat.le_of_ble_eq_true rfl)⟩ dX12_isPan_11 () (congrArg (fun z => some (Value.int (iI z))) (show (if 0 ≤ z ∧ z < mi 1 then 1 else 0 : Int) = if 0 ≤ z ∧ z ≤ ((mi 1) - 1) then 1 else 0 by omega)) trivial hP hD
set_option maxHeartbeats 1000000 in
set_option maxRecDepth 100000 in
theorem c_X12_isChild (l : Launch) (X : zX) (o : Nat) (ma : Nat → Nat) (mi : Nat → Int) (ml : Nat → Int) (z : Int) (ht : 0 ≤ mi 2 ∧ mi 2 ≤ 5) (hrz : -2147483648 ≤ z ∧ z < 2147483648) : zF l X yX12_isChild wsX12_isChild 1 22 [.ref o, .int (iI z)] (zb [WMo o ma mi ml]) (some (.int (iI (if 0 ≤ z ∧ z < mi 2 then 1 else 0)))) (zb [WMo o ma mi ml]) := by
  refine z_enter (cc := cX12_isChild) (maxL := 2) (ret := (some .boolean)) (by decide) rfl (Nat.le_of_ble_eq_true rfl) ?_
  intro p e s m below meth c A ls Q hQ hE hl hP hD
  obtain ⟨hx, hb, hr, hml, hown, hts, hlocks, hnm, hA, hK⟩ := hE
  have hown : s.vm.findClass RX12 = some m.cls := hown
  have hS : va_S A s.heap s.heap [] := va_S.rf
  have hl : lv_has ls 2 [(0, .ref o), (1, .int (iI z))] := hl
  have inX12 : ∀ w ∈ u_ws RX12 TX12 38, w ∈ wsX12_isChild := by decide +kernel
  refine lv_iload_n hx hb dX12_isChild_0 rfl (lv_at hl 1 rfl) ?_
  refine lv_iconst (v := iI 0) hx hb dX12_isChild_1 (by decide) ?_
  refine lv_aload_n hx hb dX12_isChild_2 rfl (lv_at hl 0 rfl) ?_
  refine va_get (ci := 12) (v := .int (iI (mi 2))) (C := RX12) (T := TX12) (N := 38) hx hb hts inX12 hown hK.1 hP 0 rfl rfl 2 (by decide) (hts (.fieldLink RX12 122 "SkimmedSonsModel" "children" "I") (by decide +kernel)) (fun _ h9 => h9) rfl dX12_isChild_3 ?_
  refine lv_iconst (v := iI 1) hx hb dX12_isChild_6 (by decide) ?_
  refine z_isub hx hb dX12_isChild_7 ?_
  have hPm := zp_perm hP (zblk (show List.Perm ([WMo o ma mi ml] : List va_W) ([] ++ [WMo o ma mi ml]) from List.Perm.refl _))
  have hDm := zd_perm hD (zblk (show List.Perm ([WMo o ma mi ml] : List va_W) ([] ++ [WMo o ma mi ml]) from List.Perm.refl _))
  refine z_callS (wr := zb [WMo o ma mi ml]) (As := [.int (iI z), .int (iI 0), .int (iI ((mi 2) - 1))]) (rest := []) ⟨hx, hb, hml, hown, hts⟩ (c_X12_within l X z 0 ((mi 2) - 1) (by omega)) (va_cwS 3 hts gX12_isChild_X12_within rfl rfl rfl (by decide +kernel) ⟨Nat.le_of_ble_eq_true rfl, Nat.le_of_ble_eq_true rfl⟩) hl.1 dX12_isChild_8 rfl rfl (Nat.le_of_ble_eq_true rfl) ⟨(Nat.le_of_ble_eq_true rfl), (Nat.le_of_ble_eq_true rfl)⟩ hS hA hK hPm hDm (fun _ H locs _ hP hD hS => ?_)
  have hP := zp_perm hP ((zblk (show List.Perm ([WMo o ma mi ml] : List va_W) ([] ++ [WMo o ma mi ml]) from List.Perm.refl _))).symm
  have hD := zd_perm hD ((zblk (show List.Perm ([WMo o ma mi ml] : List va_W) ([] ++ [WMo o ma mi ml]) from List.Perm.refl _))).symm
  have hP : va_P X.1 vwCl (zb [WMo o ma mi ml]) H := hP
  have hD : va_D A (zb [WMo o ma mi ml]) := hD
  refine W.eq (g2 := F0 m 11 ls [.int (iI (if 0 ≤ z ∧ z ≤ ((mi 2) - 1) then 1 else 0))]) rfl ?_
  exact z_zret (ty := .boolean) hQ hx hb hr (by split <;> rfl) hlocks hS ⟨(Nat.le_of_ble_eq_true rfl), (Nat.le_of_ble_eq_true rfl)⟩ dX12_isChild_11 () (congrArg (fun z => some (Value.int (iI z))) (show (if 0 ≤ z ∧ z < mi 2 then 1 else 0 : Int) = if 0 ≤ z ∧ z ≤ ((mi 2) - 1) then 1 else 0 by omega)) trivial hP hD
set_option maxHeartbeats 1000000 in
set_option maxRecDepth 100000 in
theorem c_X12_topOf (l : Launch) (X : zX) (o : Nat) (ma : Nat → Nat) (mi : Nat → Int) (ml : Nat → Int) (pv : Nat → Nat → Int) (z : Int) (hpz : PanB (pv z.toNat)) (hz3 : 0 ≤ z ∧ z < 3) : zF l X yX12_topOf wsX12_topOf 0 0 [.ref o, .int (iI z)] (zb [WMo o ma mi ml, WMp X ma pv]) (some (.int (iI (topP (pv z.toNat))))) (zb [WMo o ma mi ml, WMp X ma pv]) := by
  refine z_enter (cc := cX12_topOf) (maxL := 2) (ret := (some .int)) (by decide) rfl (Nat.le_of_ble_eq_true rfl) ?_
  intro p e s m below meth c A ls Q hQ hE hl hP hD
  obtain ⟨hx, hb, hr, hml, hown, hts, hlocks, hnm, hA, hK⟩ := hE
  have hown : s.vm.findClass RX12 = some m.cls := hown
  have hS : va_S A s.heap s.heap [] := va_S.rf
  have hl : lv_has ls 2 [(0, .ref o), (1, .int (iI z))] := hl
  have inX12 : ∀ w ∈ u_ws RX12 TX12 38, w ∈ wsX12_topOf := by decide +kernel
  obtain ⟨⟨h00, h01⟩, ⟨h10, h11⟩, h2, h3, h4, h5, h6⟩ := id hpz
  refine lv_aload_n hx hb dX12_topOf_0 rfl (lv_at hl 0 rfl) ?_
  refine va_get (ci := 12) (v := .ref (ma 6)) (C := RX12) (T := TX12) (N := 38) hx hb hts inX12 hown hK.1 hP 0 rfl rfl 6 (by decide) (hts (.fieldLink RX12 19 "SkimmedSonsModel" "filmOf" "[I") (by decide +kernel)) (fun _ h9 => h9) rfl dX12_topOf_1 ?_
  refine lv_iload_n hx hb dX12_topOf_4 rfl (lv_at hl 1 rfl) ?_
  refine z_iald hx hb hK.1 hP 5 rfl (by omega) dX12_topOf_5 ?_
  refine W.eq (g2 := F0 m 6 ls [.int (iI (pv z.toNat 4))]) rfl ?_
  refine z_if_le (tgt := 13) hx hb (by omega) dX12_topOf_6 (by decide) (fun c_1 => ?_) (fun c_1 => ?_)
  · skip
    refine lv_aload_n hx hb dX12_topOf_13 rfl (lv_at hl 0 rfl) ?_
    refine va_get (ci := 12) (v := .ref (ma 5)) (C := RX12) (T := TX12) (N := 38) hx hb hts inX12 hown hK.1 hP 0 rfl rfl 5 (by decide) (hts (.fieldLink RX12 16 "SkimmedSonsModel" "creamOf" "[I") (by decide +kernel)) (fun _ h9 => h9) rfl dX12_topOf_14 ?_
    refine lv_iload_n hx hb dX12_topOf_17 rfl (lv_at hl 1 rfl) ?_
    refine z_iald hx hb hK.1 hP 4 rfl (by omega) dX12_topOf_18 ?_
    refine W.eq (g2 := F0 m 19 ls [.int (iI (pv z.toNat 3))]) rfl ?_
    refine z_if_le (tgt := 26) hx hb (by omega) dX12_topOf_19 (by decide) (fun c_2 => ?_) (fun c_2 => ?_)
    · skip
      refine lv_aload_n hx hb dX12_topOf_26 rfl (lv_at hl 0 rfl) ?_
      refine va_get (ci := 12) (v := .ref (ma 7)) (C := RX12) (T := TX12) (N := 38) hx hb hts inX12 hown hK.1 hP 0 rfl rfl 7 (by decide) (hts (.fieldLink RX12 22 "SkimmedSonsModel" "blueOf" "[I") (by decide +kernel)) (fun _ h9 => h9) rfl dX12_topOf_27 ?_
      refine lv_iload_n hx hb dX12_topOf_30 rfl (lv_at hl 1 rfl) ?_
      refine z_iald hx hb hK.1 hP 6 rfl (by omega) dX12_topOf_31 ?_
      refine W.eq (g2 := F0 m 32 ls [.int (iI (pv z.toNat 5))]) rfl ?_
      refine z_if_le (tgt := 39) hx hb (by omega) dX12_topOf_32 (by decide) (fun c_3 => ?_) (fun c_3 => ?_)
      · skip
        refine lv_iconst (v := iI (-1)) hx hb dX12_topOf_39 (by decide) ?_
        exact z_iret hQ hx hb hr hlocks hS ⟨(Nat.le_of_ble_eq_true rfl), (Nat.le_of_ble_eq_true rfl)⟩ dX12_topOf_40 () (congrArg (fun z => some (Value.int (iI z))) (show (topP (pv z.toNat) : Int) = (-1) by unfold topP; (repeat (first | rw [if_pos (by omega)] | rw [if_neg (by omega)])))) trivial hP hD
      · skip
        refine lv_iconst (v := iI 3) hx hb dX12_topOf_35 (by decide) ?_
        refine lv_goto (tgt := 40) hx hb dX12_topOf_36 (by decide) ?_
        exact z_iret hQ hx hb hr hlocks hS ⟨(Nat.le_of_ble_eq_true rfl), (Nat.le_of_ble_eq_true rfl)⟩ dX12_topOf_40 () (congrArg (fun z => some (Value.int (iI z))) (show (topP (pv z.toNat) : Int) = 3 by unfold topP; (repeat (first | rw [if_pos (by omega)] | rw [if_neg (by omega)])))) trivial hP hD
    · skip
      refine lv_iconst (v := iI 1) hx hb dX12_topOf_22 (by decide) ?_
      refine lv_goto (tgt := 40) hx hb dX12_topOf_23 (by decide) ?_
      exact z_iret hQ hx hb hr hlocks hS ⟨(Nat.le_of_ble_eq_true rfl), (Nat.le_of_ble_eq_true rfl)⟩ dX12_topOf_40 () (congrArg (fun z => some (Value.int (iI z))) (show (topP (pv z.toNat) : Int) = 1 by unfold topP; (repeat (first | rw [if_pos (by omega)] | rw [if_neg (by omega)])))) trivial hP hD
  · skip
    refine lv_iconst (v := iI 2) hx hb dX12_topOf_9 (by decide) ?_
    refine lv_goto (tgt := 40) hx hb dX12_topOf_10 (by decide) ?_
    exact z_iret hQ hx hb hr hlocks hS ⟨(Nat.le_of_ble_eq_true rfl), (Nat.le_of_ble_eq_true rfl)⟩ dX12_topOf_40 () (congrArg (fun z => some (Value.int (iI z))) (show (topP (pv z.toNat) : Int) = 2 by unfold topP; (repeat (first | rw [if_pos (by omega)] | rw [if_neg (by omega)])))) trivial hP hD
set_option maxHeartbeats 1000000 in
set_option maxRecDepth 100000 in
theorem c_X12_worthOf (l : Launch) (X : zX) (o : Nat) (ma : Nat → Nat) (mi : Nat → Int) (ml : Nat → Int) (kz : Nat → Int) (z : Int) (x : Int) (hzk : 0 ≤ z ∧ z < 5) (hkz : 0 ≤ kz z.toNat ∧ kz z.toNat ≤ 4) (hx1 : 1 ≤ x ∧ x ≤ 3) : zF l X yX12_worthOf wsX12_worthOf 0 0 [.ref o, .int (iI z), .int (iI x)] (zb [WMo o ma mi ml, Wa X 2 (ma 9) 5 kz]) (some (.int (iI (wOf (kdM kz z.toNat) x)))) (zb [WMo o ma mi ml, Wa X 2 (ma 9) 5 kz]) := by
  refine z_enter (cc := cX12_worthOf) (maxL := 4) (ret := (some .int)) (by decide) rfl (Nat.le_of_ble_eq_true rfl) ?_
  intro p e s m below meth c A ls Q hQ hE hl hP hD
  obtain ⟨hx, hb, hr, hml, hown, hts, hlocks, hnm, hA, hK⟩ := hE
  have hown : s.vm.findClass RX12 = some m.cls := hown
  have hS : va_S A s.heap s.heap [] := va_S.rf
  have hl : lv_has ls 4 [(0, .ref o), (1, .int (iI z)), (2, .int (iI x))] := hl
  have inX12 : ∀ w ∈ u_ws RX12 TX12 38, w ∈ wsX12_worthOf := by decide +kernel
  have hqk : kdM kz z.toNat = (kz z.toNat).toNat := rfl
  refine lv_iload_n hx hb dX12_worthOf_0 rfl (lv_at hl 2 rfl) ?_
  refine lv_iconst (v := iI 2) hx hb dX12_worthOf_1 (by decide) ?_
  refine z_icmp_ne (tgt := 9) hx hb (by omega) dX12_worthOf_2 (by decide) (fun c_1 => ?_) (fun c_1 => ?_)
  · skip
    refine lv_iload_n hx hb dX12_worthOf_9 rfl (lv_at hl 2 rfl) ?_
    refine lv_iconst (v := iI 1) hx hb dX12_worthOf_10 (by decide) ?_
    refine z_icmp_ne (tgt := 18) hx hb (by omega) dX12_worthOf_11 (by decide) (fun c_2 => ?_) (fun c_2 => ?_)
    · skip
      refine lv_iconst (v := iI 1) hx hb dX12_worthOf_18 (by decide) ?_
      refine lv_istore_n (lv' := [(3, .int (iI 1)), (0, .ref o), (1, .int (iI z)), (2, .int (iI x))]) hx hb dX12_worthOf_19 rfl hl (by decide) rfl (fun ls hl => ?_)
      refine lv_aload_n hx hb dX12_worthOf_20 rfl (lv_at hl 1 rfl) ?_
      refine va_get (ci := 12) (v := .ref (ma 9)) (C := RX12) (T := TX12) (N := 38) hx hb hts inX12 hown hK.1 hP 0 rfl rfl 9 (by decide) (hts (.fieldLink RX12 28 "SkimmedSonsModel" "kindOf" "[I") (by decide +kernel)) (fun _ h9 => h9) rfl dX12_worthOf_21 ?_
      refine lv_iload_n hx hb dX12_worthOf_24 rfl (lv_at hl 2 rfl) ?_
      refine z_iald hx hb hK.1 hP 1 rfl (by omega) dX12_worthOf_25 ?_
      refine W.eq (g2 := F0 m 26 ls [.int (iI (kz z.toNat))]) rfl ?_
      rcases (show (kz z.toNat < 1 ∨ 4 < kz z.toNat) ∨ kz z.toNat = 1 ∨ kz z.toNat = 2 ∨ kz z.toNat = 3 ∨ kz z.toNat = 4 by omega) with c_3 | c_3 | c_3 | c_3 | c_3
      · skip
        refine z_tabOut (tgt := 120) hx hb (by omega) dX12_worthOf_26 c_3 (by decide) ?_
        refine lv_iload_n hx hb dX12_worthOf_120 rfl (lv_at hl 0 rfl) ?_
        exact z_iret hQ hx hb hr hlocks hS ⟨(Nat.le_of_ble_eq_true rfl), (Nat.le_of_ble_eq_true rfl)⟩ dX12_worthOf_121 () (congrArg (fun z => some (Value.int (iI z))) (show (wOf (kdM kz z.toNat) x : Int) = 1 by first | (exfalso; omega; done) | (unfold wOf wC wF wB; (repeat (first | rw [if_pos (by omega)] | rw [if_neg (by omega)])); done))) trivial hP hD
      · skip
        refine z_tabIn (tgt := 56) (off := 30) hx hb (by omega) dX12_worthOf_26 c_3 (by decide) rfl (by decide) ?_
        refine lv_iload_n hx hb dX12_worthOf_56 rfl (lv_at hl 3 rfl) ?_
        refine lv_iconst (v := iI 1) hx hb dX12_worthOf_57 (by decide) ?_
        refine z_icmp_ne (tgt := 65) hx hb (by omega) dX12_worthOf_58 (by decide) (fun c_4 => ?_) (fun c_4 => ?_)
        · skip
          refine lv_iload_n hx hb dX12_worthOf_65 rfl (lv_at hl 3 rfl) ?_
          refine lv_iconst (v := iI 3) hx hb dX12_worthOf_66 (by decide) ?_
          refine z_icmp_ne (tgt := 74) hx hb (by omega) dX12_worthOf_67 (by decide) (fun c_5 => ?_) (fun c_5 => ?_)
          · skip
            refine lv_iload_n hx hb dX12_worthOf_74 rfl (lv_at hl 0 rfl) ?_
            exact z_iret hQ hx hb hr hlocks hS ⟨(Nat.le_of_ble_eq_true rfl), (Nat.le_of_ble_eq_true rfl)⟩ dX12_worthOf_75 () (congrArg (fun z => some (Value.int (iI z))) (show (wOf (kdM kz z.toNat) x : Int) = 1 by first | (exfalso; omega; done) | (unfold wOf wC wF wB; (repeat (first | rw [if_pos (by omega)] | rw [if_neg (by omega)])); done))) trivial hP hD
          · skip
            refine lv_iconst (v := iI 0) hx hb dX12_worthOf_70 (by decide) ?_
            refine lv_goto (tgt := 75) hx hb dX12_worthOf_71 (by decide) ?_
            exact z_iret hQ hx hb hr hlocks hS ⟨(Nat.le_of_ble_eq_true rfl), (Nat.le_of_ble_eq_true rfl)⟩ dX12_worthOf_75 () (congrArg (fun z => some (Value.int (iI z))) (show (wOf (kdM kz z.toNat) x : Int) = 0 by first | (exfalso; omega; done) | (unfold wOf wC wF wB; (repeat (first | rw [if_pos (by omega)] | rw [if_neg (by omega)])); done))) trivial hP hD
        · skip
          refine lv_iconst (v := iI 4) hx hb dX12_worthOf_61 (by decide) ?_
          refine lv_goto (tgt := 75) hx hb dX12_worthOf_62 (by decide) ?_
          exact z_iret hQ hx hb hr hlocks hS ⟨(Nat.le_of_ble_eq_true rfl), (Nat.le_of_ble_eq_true rfl)⟩ dX12_worthOf_75 () (congrArg (fun z => some (Value.int (iI z))) (show (wOf (kdM kz z.toNat) x : Int) = 4 by first | (exfalso; omega; done) | (unfold wOf wC wF wB; (repeat (first | rw [if_pos (by omega)] | rw [if_neg (by omega)])); done))) trivial hP hD
      · skip
        refine z_tabIn (tgt := 76) (off := 50) hx hb (by omega) dX12_worthOf_26 c_3 (by decide) rfl (by decide) ?_
        refine lv_iload_n hx hb dX12_worthOf_76 rfl (lv_at hl 3 rfl) ?_
        refine lv_iconst (v := iI 1) hx hb dX12_worthOf_77 (by decide) ?_
        refine z_icmp_ne (tgt := 85) hx hb (by omega) dX12_worthOf_78 (by decide) (fun c_6 => ?_) (fun c_6 => ?_)
        · skip
          refine lv_iload_n hx hb dX12_worthOf_85 rfl (lv_at hl 3 rfl) ?_
          refine lv_iconst (v := iI 3) hx hb dX12_worthOf_86 (by decide) ?_
          refine z_icmp_ne (tgt := 94) hx hb (by omega) dX12_worthOf_87 (by decide) (fun c_7 => ?_) (fun c_7 => ?_)
          · skip
            refine lv_iload_n hx hb dX12_worthOf_94 rfl (lv_at hl 0 rfl) ?_
            exact z_iret hQ hx hb hr hlocks hS ⟨(Nat.le_of_ble_eq_true rfl), (Nat.le_of_ble_eq_true rfl)⟩ dX12_worthOf_95 () (congrArg (fun z => some (Value.int (iI z))) (show (wOf (kdM kz z.toNat) x : Int) = 1 by first | (exfalso; omega; done) | (unfold wOf wC wF wB; (repeat (first | rw [if_pos (by omega)] | rw [if_neg (by omega)])); done))) trivial hP hD
          · skip
            refine lv_iconst (v := iI 2) hx hb dX12_worthOf_90 (by decide) ?_
            refine lv_goto (tgt := 95) hx hb dX12_worthOf_91 (by decide) ?_
            exact z_iret hQ hx hb hr hlocks hS ⟨(Nat.le_of_ble_eq_true rfl), (Nat.le_of_ble_eq_true rfl)⟩ dX12_worthOf_95 () (congrArg (fun z => some (Value.int (iI z))) (show (wOf (kdM kz z.toNat) x : Int) = 2 by first | (exfalso; omega; done) | (unfold wOf wC wF wB; (repeat (first | rw [if_pos (by omega)] | rw [if_neg (by omega)])); done))) trivial hP hD
        · skip
          refine lv_iconst (v := iI 1) hx hb dX12_worthOf_81 (by decide) ?_
          refine lv_goto (tgt := 95) hx hb dX12_worthOf_82 (by decide) ?_
          exact z_iret hQ hx hb hr hlocks hS ⟨(Nat.le_of_ble_eq_true rfl), (Nat.le_of_ble_eq_true rfl)⟩ dX12_worthOf_95 () (congrArg (fun z => some (Value.int (iI z))) (show (wOf (kdM kz z.toNat) x : Int) = 1 by first | (exfalso; omega; done) | (unfold wOf wC wF wB; (repeat (first | rw [if_pos (by omega)] | rw [if_neg (by omega)])); done))) trivial hP hD
      · skip
        refine z_tabIn (tgt := 96) (off := 70) hx hb (by omega) dX12_worthOf_26 c_3 (by decide) rfl (by decide) ?_
        refine lv_iload_n hx hb dX12_worthOf_96 rfl (lv_at hl 3 rfl) ?_
        refine lv_iconst (v := iI 2) hx hb dX12_worthOf_97 (by decide) ?_
        refine z_icmp_ne (tgt := 106) hx hb (by omega) dX12_worthOf_98 (by decide) (fun c_8 => ?_) (fun c_8 => ?_)
        · skip
          refine lv_iload_n hx hb dX12_worthOf_106 rfl (lv_at hl 0 rfl) ?_
          exact z_iret hQ hx hb hr hlocks hS ⟨(Nat.le_of_ble_eq_true rfl), (Nat.le_of_ble_eq_true rfl)⟩ dX12_worthOf_107 () (congrArg (fun z => some (Value.int (iI z))) (show (wOf (kdM kz z.toNat) x : Int) = 1 by first | (exfalso; omega; done) | (unfold wOf wC wF wB; (repeat (first | rw [if_pos (by omega)] | rw [if_neg (by omega)])); done))) trivial hP hD
        · skip
          refine lv_bipush (v := iI 8) hx hb dX12_worthOf_101 (by decide) ?_
          refine lv_goto (tgt := 107) hx hb dX12_worthOf_103 (by decide) ?_
          exact z_iret hQ hx hb hr hlocks hS ⟨(Nat.le_of_ble_eq_true rfl), (Nat.le_of_ble_eq_true rfl)⟩ dX12_worthOf_107 () (congrArg (fun z => some (Value.int (iI z))) (show (wOf (kdM kz z.toNat) x : Int) = 8 by first | (exfalso; omega; done) | (unfold wOf wC wF wB; (repeat (first | rw [if_pos (by omega)] | rw [if_neg (by omega)])); done))) trivial hP hD
      · skip
        refine z_tabIn (tgt := 108) (off := 82) hx hb (by omega) dX12_worthOf_26 c_3 (by decide) rfl (by decide) ?_
        refine lv_iload_n hx hb dX12_worthOf_108 rfl (lv_at hl 3 rfl) ?_
        refine lv_iconst (v := iI 2) hx hb dX12_worthOf_109 (by decide) ?_
        refine z_icmp_ne (tgt := 118) hx hb (by omega) dX12_worthOf_110 (by decide) (fun c_9 => ?_) (fun c_9 => ?_)
        · skip
          refine lv_iconst (v := iI 0) hx hb dX12_worthOf_118 (by decide) ?_
          exact z_iret hQ hx hb hr hlocks hS ⟨(Nat.le_of_ble_eq_true rfl), (Nat.le_of_ble_eq_true rfl)⟩ dX12_worthOf_119 () (congrArg (fun z => some (Value.int (iI z))) (show (wOf (kdM kz z.toNat) x : Int) = 0 by first | (exfalso; omega; done) | (unfold wOf wC wF wB; (repeat (first | rw [if_pos (by omega)] | rw [if_neg (by omega)])); done))) trivial hP hD
        · skip
          refine lv_bipush (v := iI 16) hx hb dX12_worthOf_113 (by decide) ?_
          refine lv_goto (tgt := 119) hx hb dX12_worthOf_115 (by decide) ?_
          exact z_iret hQ hx hb hr hlocks hS ⟨(Nat.le_of_ble_eq_true rfl), (Nat.le_of_ble_eq_true rfl)⟩ dX12_worthOf_119 () (congrArg (fun z => some (Value.int (iI z))) (show (wOf (kdM kz z.toNat) x : Int) = 16 by first | (exfalso; omega; done) | (unfold wOf wC wF wB; (repeat (first | rw [if_pos (by omega)] | rw [if_neg (by omega)])); done))) trivial hP hD
    · skip
      refine lv_iconst (v := iI 2) hx hb dX12_worthOf_14 (by decide) ?_
      refine lv_goto (tgt := 19) hx hb dX12_worthOf_15 (by decide) ?_
      refine lv_istore_n (lv' := [(3, .int (iI 2)), (0, .ref o), (1, .int (iI z)), (2, .int (iI x))]) hx hb dX12_worthOf_19 rfl hl (by decide) rfl (fun ls hl => ?_)
      refine lv_aload_n hx hb dX12_worthOf_20 rfl (lv_at hl 1 rfl) ?_
      refine va_get (ci := 12) (v := .ref (ma 9)) (C := RX12) (T := TX12) (N := 38) hx hb hts inX12 hown hK.1 hP 0 rfl rfl 9 (by decide) (hts (.fieldLink RX12 28 "SkimmedSonsModel" "kindOf" "[I") (by decide +kernel)) (fun _ h9 => h9) rfl dX12_worthOf_21 ?_
      refine lv_iload_n hx hb dX12_worthOf_24 rfl (lv_at hl 2 rfl) ?_
      refine z_iald hx hb hK.1 hP 1 rfl (by omega) dX12_worthOf_25 ?_
      refine W.eq (g2 := F0 m 26 ls [.int (iI (kz z.toNat))]) rfl ?_
      rcases (show (kz z.toNat < 1 ∨ 4 < kz z.toNat) ∨ kz z.toNat = 1 ∨ kz z.toNat = 2 ∨ kz z.toNat = 3 ∨ kz z.toNat = 4 by omega) with c_10 | c_10 | c_10 | c_10 | c_10
      · skip
        refine z_tabOut (tgt := 120) hx hb (by omega) dX12_worthOf_26 c_10 (by decide) ?_
        refine lv_iload_n hx hb dX12_worthOf_120 rfl (lv_at hl 0 rfl) ?_
        exact z_iret hQ hx hb hr hlocks hS ⟨(Nat.le_of_ble_eq_true rfl), (Nat.le_of_ble_eq_true rfl)⟩ dX12_worthOf_121 () (congrArg (fun z => some (Value.int (iI z))) (show (wOf (kdM kz z.toNat) x : Int) = 2 by first | (exfalso; omega; done) | (unfold wOf wC wF wB; (repeat (first | rw [if_pos (by omega)] | rw [if_neg (by omega)])); done))) trivial hP hD
      · skip
        refine z_tabIn (tgt := 56) (off := 30) hx hb (by omega) dX12_worthOf_26 c_10 (by decide) rfl (by decide) ?_
        refine lv_iload_n hx hb dX12_worthOf_56 rfl (lv_at hl 3 rfl) ?_
        refine lv_iconst (v := iI 1) hx hb dX12_worthOf_57 (by decide) ?_
        refine z_icmp_ne (tgt := 65) hx hb (by omega) dX12_worthOf_58 (by decide) (fun c_11 => ?_) (fun c_11 => ?_)
        · skip
          refine lv_iload_n hx hb dX12_worthOf_65 rfl (lv_at hl 3 rfl) ?_
          refine lv_iconst (v := iI 3) hx hb dX12_worthOf_66 (by decide) ?_
          refine z_icmp_ne (tgt := 74) hx hb (by omega) dX12_worthOf_67 (by decide) (fun c_12 => ?_) (fun c_12 => ?_)
          · skip
            refine lv_iload_n hx hb dX12_worthOf_74 rfl (lv_at hl 0 rfl) ?_
            exact z_iret hQ hx hb hr hlocks hS ⟨(Nat.le_of_ble_eq_true rfl), (Nat.le_of_ble_eq_true rfl)⟩ dX12_worthOf_75 () (congrArg (fun z => some (Value.int (iI z))) (show (wOf (kdM kz z.toNat) x : Int) = 2 by first | (exfalso; omega; done) | (unfold wOf wC wF wB; (repeat (first | rw [if_pos (by omega)] | rw [if_neg (by omega)])); done))) trivial hP hD
          · skip
            refine lv_iconst (v := iI 0) hx hb dX12_worthOf_70 (by decide) ?_
            refine lv_goto (tgt := 75) hx hb dX12_worthOf_71 (by decide) ?_
            exact z_iret hQ hx hb hr hlocks hS ⟨(Nat.le_of_ble_eq_true rfl), (Nat.le_of_ble_eq_true rfl)⟩ dX12_worthOf_75 () (congrArg (fun z => some (Value.int (iI z))) (show (wOf (kdM kz z.toNat) x : Int) = 0 by first | (exfalso; omega; done) | (unfold wOf wC wF wB; (repeat (first | rw [if_pos (by omega)] | rw [if_neg (by omega)])); done))) trivial hP hD
        · skip
          refine lv_iconst (v := iI 4) hx hb dX12_worthOf_61 (by decide) ?_
          refine lv_goto (tgt := 75) hx hb dX12_worthOf_62 (by decide) ?_
          exact z_iret hQ hx hb hr hlocks hS ⟨(Nat.le_of_ble_eq_true rfl), (Nat.le_of_ble_eq_true rfl)⟩ dX12_worthOf_75 () (congrArg (fun z => some (Value.int (iI z))) (show (wOf (kdM kz z.toNat) x : Int) = 4 by first | (exfalso; omega; done) | (unfold wOf wC wF wB; (repeat (first | rw [if_pos (by omega)] | rw [if_neg (by omega)])); done))) trivial hP hD
      · skip
        refine z_tabIn (tgt := 76) (off := 50) hx hb (by omega) dX12_worthOf_26 c_10 (by decide) rfl (by decide) ?_
        refine lv_iload_n hx hb dX12_worthOf_76 rfl (lv_at hl 3 rfl) ?_
        refine lv_iconst (v := iI 1) hx hb dX12_worthOf_77 (by decide) ?_
        refine z_icmp_ne (tgt := 85) hx hb (by omega) dX12_worthOf_78 (by decide) (fun c_13 => ?_) (fun c_13 => ?_)
        · skip
          refine lv_iload_n hx hb dX12_worthOf_85 rfl (lv_at hl 3 rfl) ?_
          refine lv_iconst (v := iI 3) hx hb dX12_worthOf_86 (by decide) ?_
          refine z_icmp_ne (tgt := 94) hx hb (by omega) dX12_worthOf_87 (by decide) (fun c_14 => ?_) (fun c_14 => ?_)
          · skip
            refine lv_iload_n hx hb dX12_worthOf_94 rfl (lv_at hl 0 rfl) ?_
            exact z_iret hQ hx hb hr hlocks hS ⟨(Nat.le_of_ble_eq_true rfl), (Nat.le_of_ble_eq_true rfl)⟩ dX12_worthOf_95 () (congrArg (fun z => some (Value.int (iI z))) (show (wOf (kdM kz z.toNat) x : Int) = 2 by first | (exfalso; omega; done) | (unfold wOf wC wF wB; (repeat (first | rw [if_pos (by omega)] | rw [if_neg (by omega)])); done))) trivial hP hD
          · skip
            refine lv_iconst (v := iI 2) hx hb dX12_worthOf_90 (by decide) ?_
            refine lv_goto (tgt := 95) hx hb dX12_worthOf_91 (by decide) ?_
            exact z_iret hQ hx hb hr hlocks hS ⟨(Nat.le_of_ble_eq_true rfl), (Nat.le_of_ble_eq_true rfl)⟩ dX12_worthOf_95 () (congrArg (fun z => some (Value.int (iI z))) (show (wOf (kdM kz z.toNat) x : Int) = 2 by first | (exfalso; omega; done) | (unfold wOf wC wF wB; (repeat (first | rw [if_pos (by omega)] | rw [if_neg (by omega)])); done))) trivial hP hD
        · skip
          refine lv_iconst (v := iI 1) hx hb dX12_worthOf_81 (by decide) ?_
          refine lv_goto (tgt := 95) hx hb dX12_worthOf_82 (by decide) ?_
          exact z_iret hQ hx hb hr hlocks hS ⟨(Nat.le_of_ble_eq_true rfl), (Nat.le_of_ble_eq_true rfl)⟩ dX12_worthOf_95 () (congrArg (fun z => some (Value.int (iI z))) (show (wOf (kdM kz z.toNat) x : Int) = 1 by first | (exfalso; omega; done) | (unfold wOf wC wF wB; (repeat (first | rw [if_pos (by omega)] | rw [if_neg (by omega)])); done))) trivial hP hD
      · skip
        refine z_tabIn (tgt := 96) (off := 70) hx hb (by omega) dX12_worthOf_26 c_10 (by decide) rfl (by decide) ?_
        refine lv_iload_n hx hb dX12_worthOf_96 rfl (lv_at hl 3 rfl) ?_
        refine lv_iconst (v := iI 2) hx hb dX12_worthOf_97 (by decide) ?_
        refine z_icmp_ne (tgt := 106) hx hb (by omega) dX12_worthOf_98 (by decide) (fun c_15 => ?_) (fun c_15 => ?_)
        · skip
          refine lv_iload_n hx hb dX12_worthOf_106 rfl (lv_at hl 0 rfl) ?_
          exact z_iret hQ hx hb hr hlocks hS ⟨(Nat.le_of_ble_eq_true rfl), (Nat.le_of_ble_eq_true rfl)⟩ dX12_worthOf_107 () (congrArg (fun z => some (Value.int (iI z))) (show (wOf (kdM kz z.toNat) x : Int) = 2 by first | (exfalso; omega; done) | (unfold wOf wC wF wB; (repeat (first | rw [if_pos (by omega)] | rw [if_neg (by omega)])); done))) trivial hP hD
        · skip
          refine lv_bipush (v := iI 8) hx hb dX12_worthOf_101 (by decide) ?_
          refine lv_goto (tgt := 107) hx hb dX12_worthOf_103 (by decide) ?_
          exact z_iret hQ hx hb hr hlocks hS ⟨(Nat.le_of_ble_eq_true rfl), (Nat.le_of_ble_eq_true rfl)⟩ dX12_worthOf_107 () (congrArg (fun z => some (Value.int (iI z))) (show (wOf (kdM kz z.toNat) x : Int) = 8 by first | (exfalso; omega; done) | (unfold wOf wC wF wB; (repeat (first | rw [if_pos (by omega)] | rw [if_neg (by omega)])); done))) trivial hP hD
      · skip
        refine z_tabIn (tgt := 108) (off := 82) hx hb (by omega) dX12_worthOf_26 c_10 (by decide) rfl (by decide) ?_
        refine lv_iload_n hx hb dX12_worthOf_108 rfl (lv_at hl 3 rfl) ?_
        refine lv_iconst (v := iI 2) hx hb dX12_worthOf_109 (by decide) ?_
        refine z_icmp_ne (tgt := 118) hx hb (by omega) dX12_worthOf_110 (by decide) (fun c_16 => ?_) (fun c_16 => ?_)
        · skip
          refine lv_iconst (v := iI 0) hx hb dX12_worthOf_118 (by decide) ?_
          exact z_iret hQ hx hb hr hlocks hS ⟨(Nat.le_of_ble_eq_true rfl), (Nat.le_of_ble_eq_true rfl)⟩ dX12_worthOf_119 () (congrArg (fun z => some (Value.int (iI z))) (show (wOf (kdM kz z.toNat) x : Int) = 0 by first | (exfalso; omega; done) | (unfold wOf wC wF wB; (repeat (first | rw [if_pos (by omega)] | rw [if_neg (by omega)])); done))) trivial hP hD
        · skip
          refine lv_bipush (v := iI 16) hx hb dX12_worthOf_113 (by decide) ?_
          refine lv_goto (tgt := 119) hx hb dX12_worthOf_115 (by decide) ?_
          exact z_iret hQ hx hb hr hlocks hS ⟨(Nat.le_of_ble_eq_true rfl), (Nat.le_of_ble_eq_true rfl)⟩ dX12_worthOf_119 () (congrArg (fun z => some (Value.int (iI z))) (show (wOf (kdM kz z.toNat) x : Int) = 16 by first | (exfalso; omega; done) | (unfold wOf wC wF wB; (repeat (first | rw [if_pos (by omega)] | rw [if_neg (by omega)])); done))) trivial hP hD
  · skip
    refine lv_iconst (v := iI 4) hx hb dX12_worthOf_5 (by decide) ?_
    refine lv_goto (tgt := 19) hx hb dX12_worthOf_6 (by decide) ?_
    refine lv_istore_n (lv' := [(3, .int (iI 4)), (0, .ref o), (1, .int (iI z)), (2, .int (iI x))]) hx hb dX12_worthOf_19 rfl hl (by decide) rfl (fun ls hl => ?_)
    refine lv_aload_n hx hb dX12_worthOf_20 rfl (lv_at hl 1 rfl) ?_
    refine va_get (ci := 12) (v := .ref (ma 9)) (C := RX12) (T := TX12) (N := 38) hx hb hts inX12 hown hK.1 hP 0 rfl rfl 9 (by decide) (hts (.fieldLink RX12 28 "SkimmedSonsModel" "kindOf" "[I") (by decide +kernel)) (fun _ h9 => h9) rfl dX12_worthOf_21 ?_
    refine lv_iload_n hx hb dX12_worthOf_24 rfl (lv_at hl 2 rfl) ?_
    refine z_iald hx hb hK.1 hP 1 rfl (by omega) dX12_worthOf_25 ?_
    refine W.eq (g2 := F0 m 26 ls [.int (iI (kz z.toNat))]) rfl ?_
    rcases (show (kz z.toNat < 1 ∨ 4 < kz z.toNat) ∨ kz z.toNat = 1 ∨ kz z.toNat = 2 ∨ kz z.toNat = 3 ∨ kz z.toNat = 4 by omega) with c_17 | c_17 | c_17 | c_17 | c_17
    · skip
      refine z_tabOut (tgt := 120) hx hb (by omega) dX12_worthOf_26 c_17 (by decide) ?_
      refine lv_iload_n hx hb dX12_worthOf_120 rfl (lv_at hl 0 rfl) ?_
      exact z_iret hQ hx hb hr hlocks hS ⟨(Nat.le_of_ble_eq_true rfl), (Nat.le_of_ble_eq_true rfl)⟩ dX12_worthOf_121 () (congrArg (fun z => some (Value.int (iI z))) (show (wOf (kdM kz z.toNat) x : Int) = 4 by first | (exfalso; omega; done) | (unfold wOf wC wF wB; (repeat (first | rw [if_pos (by omega)] | rw [if_neg (by omega)])); done))) trivial hP hD
    · skip
      refine z_tabIn (tgt := 56) (off := 30) hx hb (by omega) dX12_worthOf_26 c_17 (by decide) rfl (by decide) ?_
      refine lv_iload_n hx hb dX12_worthOf_56 rfl (lv_at hl 3 rfl) ?_
      refine lv_iconst (v := iI 1) hx hb dX12_worthOf_57 (by decide) ?_
      refine z_icmp_ne (tgt := 65) hx hb (by omega) dX12_worthOf_58 (by decide) (fun c_18 => ?_) (fun c_18 => ?_)
      · skip
        refine lv_iload_n hx hb dX12_worthOf_65 rfl (lv_at hl 3 rfl) ?_
        refine lv_iconst (v := iI 3) hx hb dX12_worthOf_66 (by decide) ?_
        refine z_icmp_ne (tgt := 74) hx hb (by omega) dX12_worthOf_67 (by decide) (fun c_19 => ?_) (fun c_19 => ?_)
        · skip
          refine lv_iload_n hx hb dX12_worthOf_74 rfl (lv_at hl 0 rfl) ?_
          exact z_iret hQ hx hb hr hlocks hS ⟨(Nat.le_of_ble_eq_true rfl), (Nat.le_of_ble_eq_true rfl)⟩ dX12_worthOf_75 () (congrArg (fun z => some (Value.int (iI z))) (show (wOf (kdM kz z.toNat) x : Int) = 4 by first | (exfalso; omega; done) | (unfold wOf wC wF wB; (repeat (first | rw [if_pos (by omega)] | rw [if_neg (by omega)])); done))) trivial hP hD
        · skip
          refine lv_iconst (v := iI 0) hx hb dX12_worthOf_70 (by decide) ?_
          refine lv_goto (tgt := 75) hx hb dX12_worthOf_71 (by decide) ?_
          exact z_iret hQ hx hb hr hlocks hS ⟨(Nat.le_of_ble_eq_true rfl), (Nat.le_of_ble_eq_true rfl)⟩ dX12_worthOf_75 () (congrArg (fun z => some (Value.int (iI z))) (show (wOf (kdM kz z.toNat) x : Int) = 0 by first | (exfalso; omega; done) | (unfold wOf wC wF wB; (repeat (first | rw [if_pos (by omega)] | rw [if_neg (by omega)])); done))) trivial hP hD
      · skip
        refine lv_iconst (v := iI 4) hx hb dX12_worthOf_61 (by decide) ?_
        refine lv_goto (tgt := 75) hx hb dX12_worthOf_62 (by decide) ?_
        exact z_iret hQ hx hb hr hlocks hS ⟨(Nat.le_of_ble_eq_true rfl), (Nat.le_of_ble_eq_true rfl)⟩ dX12_worthOf_75 () (congrArg (fun z => some (Value.int (iI z))) (show (wOf (kdM kz z.toNat) x : Int) = 4 by first | (exfalso; omega; done) | (unfold wOf wC wF wB; (repeat (first | rw [if_pos (by omega)] | rw [if_neg (by omega)])); done))) trivial hP hD
    · skip
      refine z_tabIn (tgt := 76) (off := 50) hx hb (by omega) dX12_worthOf_26 c_17 (by decide) rfl (by decide) ?_
      refine lv_iload_n hx hb dX12_worthOf_76 rfl (lv_at hl 3 rfl) ?_
      refine lv_iconst (v := iI 1) hx hb dX12_worthOf_77 (by decide) ?_
      refine z_icmp_ne (tgt := 85) hx hb (by omega) dX12_worthOf_78 (by decide) (fun c_20 => ?_) (fun c_20 => ?_)
      · skip
        refine lv_iload_n hx hb dX12_worthOf_85 rfl (lv_at hl 3 rfl) ?_
        refine lv_iconst (v := iI 3) hx hb dX12_worthOf_86 (by decide) ?_
        refine z_icmp_ne (tgt := 94) hx hb (by omega) dX12_worthOf_87 (by decide) (fun c_21 => ?_) (fun c_21 => ?_)
        · skip
          refine lv_iload_n hx hb dX12_worthOf_94 rfl (lv_at hl 0 rfl) ?_
          exact z_iret hQ hx hb hr hlocks hS ⟨(Nat.le_of_ble_eq_true rfl), (Nat.le_of_ble_eq_true rfl)⟩ dX12_worthOf_95 () (congrArg (fun z => some (Value.int (iI z))) (show (wOf (kdM kz z.toNat) x : Int) = 4 by first | (exfalso; omega; done) | (unfold wOf wC wF wB; (repeat (first | rw [if_pos (by omega)] | rw [if_neg (by omega)])); done))) trivial hP hD
        · skip
          refine lv_iconst (v := iI 2) hx hb dX12_worthOf_90 (by decide) ?_
          refine lv_goto (tgt := 95) hx hb dX12_worthOf_91 (by decide) ?_
          exact z_iret hQ hx hb hr hlocks hS ⟨(Nat.le_of_ble_eq_true rfl), (Nat.le_of_ble_eq_true rfl)⟩ dX12_worthOf_95 () (congrArg (fun z => some (Value.int (iI z))) (show (wOf (kdM kz z.toNat) x : Int) = 2 by first | (exfalso; omega; done) | (unfold wOf wC wF wB; (repeat (first | rw [if_pos (by omega)] | rw [if_neg (by omega)])); done))) trivial hP hD
      · skip
        refine lv_iconst (v := iI 1) hx hb dX12_worthOf_81 (by decide) ?_
        refine lv_goto (tgt := 95) hx hb dX12_worthOf_82 (by decide) ?_
        exact z_iret hQ hx hb hr hlocks hS ⟨(Nat.le_of_ble_eq_true rfl), (Nat.le_of_ble_eq_true rfl)⟩ dX12_worthOf_95 () (congrArg (fun z => some (Value.int (iI z))) (show (wOf (kdM kz z.toNat) x : Int) = 1 by first | (exfalso; omega; done) | (unfold wOf wC wF wB; (repeat (first | rw [if_pos (by omega)] | rw [if_neg (by omega)])); done))) trivial hP hD
    · skip
      refine z_tabIn (tgt := 96) (off := 70) hx hb (by omega) dX12_worthOf_26 c_17 (by decide) rfl (by decide) ?_
      refine lv_iload_n hx hb dX12_worthOf_96 rfl (lv_at hl 3 rfl) ?_
      refine lv_iconst (v := iI 2) hx hb dX12_worthOf_97 (by decide) ?_
      refine z_icmp_ne (tgt := 106) hx hb (by omega) dX12_worthOf_98 (by decide) (fun c_22 => ?_) (fun c_22 => ?_)
      · skip
        refine lv_iload_n hx hb dX12_worthOf_106 rfl (lv_at hl 0 rfl) ?_
        exact z_iret hQ hx hb hr hlocks hS ⟨(Nat.le_of_ble_eq_true rfl), (Nat.le_of_ble_eq_true rfl)⟩ dX12_worthOf_107 () (congrArg (fun z => some (Value.int (iI z))) (show (wOf (kdM kz z.toNat) x : Int) = 4 by first | (exfalso; omega; done) | (unfold wOf wC wF wB; (repeat (first | rw [if_pos (by omega)] | rw [if_neg (by omega)])); done))) trivial hP hD
      · skip
        refine lv_bipush (v := iI 8) hx hb dX12_worthOf_101 (by decide) ?_
        refine lv_goto (tgt := 107) hx hb dX12_worthOf_103 (by decide) ?_
        exact z_iret hQ hx hb hr hlocks hS ⟨(Nat.le_of_ble_eq_true rfl), (Nat.le_of_ble_eq_true rfl)⟩ dX12_worthOf_107 () (congrArg (fun z => some (Value.int (iI z))) (show (wOf (kdM kz z.toNat) x : Int) = 8 by first | (exfalso; omega; done) | (unfold wOf wC wF wB; (repeat (first | rw [if_pos (by omega)] | rw [if_neg (by omega)])); done))) trivial hP hD
    · skip
      refine z_tabIn (tgt := 108) (off := 82) hx hb (by omega) dX12_worthOf_26 c_17 (by decide) rfl (by decide) ?_
      refine lv_iload_n hx hb dX12_worthOf_108 rfl (lv_at hl 3 rfl) ?_
      refine lv_iconst (v := iI 2) hx hb dX12_worthOf_109 (by decide) ?_
      refine z_icmp_ne (tgt := 118) hx hb (by omega) dX12_worthOf_110 (by decide) (fun c_23 => ?_) (fun c_23 => ?_)
      · skip
        refine lv_iconst (v := iI 0) hx hb dX12_worthOf_118 (by decide) ?_
        exact z_iret hQ hx hb hr hlocks hS ⟨(Nat.le_of_ble_eq_true rfl), (Nat.le_of_ble_eq_true rfl)⟩ dX12_worthOf_119 () (congrArg (fun z => some (Value.int (iI z))) (show (wOf (kdM kz z.toNat) x : Int) = 0 by first | (exfalso; omega; done) | (unfold wOf wC wF wB; (repeat (first | rw [if_pos (by omega)] | rw [if_neg (by omega)])); done))) trivial hP hD
      · skip
        refine lv_bipush (v := iI 16) hx hb dX12_worthOf_113 (by decide) ?_
        refine lv_goto (tgt := 119) hx hb dX12_worthOf_115 (by decide) ?_
        exact z_iret hQ hx hb hr hlocks hS ⟨(Nat.le_of_ble_eq_true rfl), (Nat.le_of_ble_eq_true rfl)⟩ dX12_worthOf_119 () (congrArg (fun z => some (Value.int (iI z))) (show (wOf (kdM kz z.toNat) x : Int) = 16 by first | (exfalso; omega; done) | (unfold wOf wC wF wB; (repeat (first | rw [if_pos (by omega)] | rw [if_neg (by omega)])); done))) trivial hP hD
set_option maxHeartbeats 1000000 in
set_option maxRecDepth 100000 in
theorem c_X12_worthHad (l : Launch) (X : zX) (o : Nat) (ma : Nat → Nat) (mi : Nat → Int) (ml : Nat → Int) (kz : Nat → Int) (hz : Nat → Int) (z : Int) (hzk : 0 ≤ z ∧ z < 5) (hkz : 0 ≤ kz z.toNat ∧ kz z.toNat ≤ 4) : zF l X yX12_worthHad wsX12_worthHad 1 23 [.ref o, .int (iI z)] (zb [WMo o ma mi ml, Wa X 2 (ma 9) 5 kz, Wa X 2 (ma 10) 20 hz]) (some (.int (iI (wAll (kdM kz z.toNat) (fhZ hz z.toNat))))) (zb [WMo o ma mi ml, Wa X 2 (ma 9) 5 kz, Wa X 2 (ma 10) 20 hz]) := by
  refine z_enter (cc := cX12_worthHad) (maxL := 4) (ret := (some .int)) (by decide) rfl (Nat.le_of_ble_eq_true rfl) ?_
  intro p e s m below meth c A ls Q hQ hE hl hP hD
  obtain ⟨hx, hb, hr, hml, hown, hts, hlocks, hnm, hA, hK⟩ := hE
  have hown : s.vm.findClass RX12 = some m.cls := hown
  have hS : va_S A s.heap s.heap [] := va_S.rf
  have hl : lv_has ls 4 [(0, .ref o), (1, .int (iI z))] := hl
  have inX12 : ∀ w ∈ u_ws RX12 TX12 38, w ∈ wsX12_worthHad := by decide +kernel
  refine lv_iconst (v := iI 0) hx hb dX12_worthHad_0 (by decide) ?_
  refine lv_istore_n (lv' := [(2, .int (iI 0)), (0, .ref o), (1, .int (iI z))]) hx hb dX12_worthHad_1 rfl hl (by decide) rfl (fun ls hl => ?_)
  refine lv_iconst (v := iI 1) hx hb dX12_worthHad_2 (by decide) ?_
  refine lv_istore_n (lv' := [(3, .int (iI 1)), (2, .int (iI 0)), (0, .ref o), (1, .int (iI z))]) hx hb dX12_worthHad_3 rfl hl (by decide) rfl (fun ls hl => ?_)
  refine lv_iload_n hx hb dX12_worthHad_4 rfl (lv_at hl 0 rfl) ?_
  refine lv_iconst (v := iI 3) hx hb dX12_worthHad_5 (by decide) ?_
  refine z_icmp_gt (tgt := 35) hx hb (by omega) dX12_worthHad_6 (by decide) (fun c_1 => ?_) (fun c_1 => ?_)
  · skip
    exact absurd c_1 (by omega)
  · skip
    refine lv_iload_n hx hb dX12_worthHad_9 rfl (lv_at hl 1 rfl) ?_
    refine lv_aload_n hx hb dX12_worthHad_10 rfl (lv_at hl 2 rfl) ?_
    refine va_get (ci := 12) (v := .ref (ma 10)) (C := RX12) (T := TX12) (N := 38) hx hb hts inX12 hown hK.1 hP 0 rfl rfl 10 (by decide) (hts (.fieldLink RX12 31 "SkimmedSonsModel" "hadOf" "[I") (by decide +kernel)) (fun _ h9 => h9) rfl dX12_worthHad_11 ?_
    refine lv_iconst (v := iI 4) hx hb dX12_worthHad_14 (by decide) ?_
    refine lv_iload_n hx hb dX12_worthHad_15 rfl (lv_at hl 3 rfl) ?_
    refine z_imul hx hb dX12_worthHad_16 ?_
    refine lv_iload_n hx hb dX12_worthHad_17 rfl (lv_at hl 0 rfl) ?_
    refine z_iadd hx hb dX12_worthHad_18 ?_
    refine z_iald hx hb hK.1 hP 2 rfl (by omega) dX12_worthHad_19 ?_
    refine W.eq (g2 := F0 m 20 ls [.int (iI (hz (((4 * z) + 1).toNat))), .int (iI 0)]) rfl ?_
    refine lv_aload_n hx hb dX12_worthHad_20 rfl (lv_at hl 2 rfl) ?_
    refine lv_iload_n hx hb dX12_worthHad_21 rfl (lv_at hl 3 rfl) ?_
    refine lv_iload_n hx hb dX12_worthHad_22 rfl (lv_at hl 0 rfl) ?_
    have hPm := zp_perm hP (zblk (show List.Perm ([WMo o ma mi ml, Wa X 2 (ma 9) 5 kz, Wa X 2 (ma 10) 20 hz] : List va_W) ([WMo o ma mi ml, Wa X 2 (ma 9) 5 kz] ++ [Wa X 2 (ma 10) 20 hz]) from (zf1 _ 0 _ rfl).trans (((zf1 _ 0 _ rfl).trans ((List.Perm.refl _).cons _)).cons _)))
    have hDm := zd_perm hD (zblk (show List.Perm ([WMo o ma mi ml, Wa X 2 (ma 9) 5 kz, Wa X 2 (ma 10) 20 hz] : List va_W) ([WMo o ma mi ml, Wa X 2 (ma 9) 5 kz] ++ [Wa X 2 (ma 10) 20 hz]) from (zf1 _ 0 _ rfl).trans (((zf1 _ 0 _ rfl).trans ((List.Perm.refl _).cons _)).cons _)))
    refine z_callV (wr := zb [Wa X 2 (ma 10) 20 hz]) (As := [.int (iI z), .int (iI 1)]) (rest := [.int (iI (hz (((4 * z) + 1).toNat))), .int (iI 0)]) ⟨hx, hb, hml, hown, hts⟩ (c_X12_worthOf l X o ma mi ml kz z 1 (by omega) (by exact hkz) (by omega)) (cwV 2 hts gX12_worthHad_X12_worthOf rfl rfl rfl (by decide +kernel) ⟨Nat.le_of_ble_eq_true rfl, Nat.le_of_ble_eq_true rfl⟩) rfl rfl hl.1 dX12_worthHad_23 rfl rfl (Nat.le_of_ble_eq_true rfl) ⟨(Nat.le_of_ble_eq_true rfl), (Nat.le_of_ble_eq_true rfl)⟩ hS hA hK hPm hDm (fun _ H locs _ hP hD hS => ?_)
    have hP := zp_perm hP ((zblk (show List.Perm ([WMo o ma mi ml, Wa X 2 (ma 9) 5 kz, Wa X 2 (ma 10) 20 hz] : List va_W) ([WMo o ma mi ml, Wa X 2 (ma 9) 5 kz] ++ [Wa X 2 (ma 10) 20 hz]) from (zf1 _ 0 _ rfl).trans (((zf1 _ 0 _ rfl).trans ((List.Perm.refl _).cons _)).cons _)))).symm
    have hD := zd_perm hD ((zblk (show List.Perm ([WMo o ma mi ml, Wa X 2 (ma 9) 5 kz, Wa X 2 (ma 10) 20 hz] : List va_W) ([WMo o ma mi ml, Wa X 2 (ma 9) 5 kz] ++ [Wa X 2 (ma 10) 20 hz]) from (zf1 _ 0 _ rfl).trans (((zf1 _ 0 _ rfl).trans ((List.Perm.refl _).cons _)).cons _)))).symm
    have hP : va_P X.1 vwCl (zb [WMo o ma mi ml, Wa X 2 (ma 9) 5 kz, Wa X 2 (ma 10) 20 hz]) H := hP
    have hD : va_D A (zb [WMo o ma mi ml, Wa X 2 (ma 9) 5 kz, Wa X 2 (ma 10) 20 hz]) := hD
    refine W.eq (g2 := F0 m 26 ls [.int (iI (wOf (kdM kz z.toNat) 1)), .int (iI (hz (((4 * z) + 1).toNat))), .int (iI 0)]) rfl ?_
    refine z_imul hx hb dX12_worthHad_26 ?_
    refine z_iadd hx hb dX12_worthHad_27 ?_
    refine z_topi (fun z_2 ez_2 => ?_)
    refine lv_istore_n (lv' := [(2, .int (iI z_2)), (3, .int (iI 1)), (0, .ref o), (1, .int (iI z))]) hx hb dX12_worthHad_28 rfl hl (by decide) rfl (fun ls hl => ?_)
    refine z_iinc (k := 1) (lv' := [(3, .int (iI 2)), (2, .int (iI z_2)), (0, .ref o), (1, .int (iI z))]) hx hb dX12_worthHad_29 hl rfl (by decide) rfl (fun ls hl => ?_)
    refine lv_goto (tgt := 4) hx hb dX12_worthHad_32 (by decide) ?_
    refine lv_iload_n hx hb dX12_worthHad_4 rfl (lv_at hl 0 rfl) ?_
    refine lv_iconst (v := iI 3) hx hb dX12_worthHad_5 (by decide) ?_
    refine z_icmp_gt (tgt := 35) hx hb (by omega) dX12_worthHad_6 (by decide) (fun c_3 => ?_) (fun c_3 => ?_)
    · skip
      exact absurd c_3 (by omega)
    · skip
      refine lv_iload_n hx hb dX12_worthHad_9 rfl (lv_at hl 1 rfl) ?_
      refine lv_aload_n hx hb dX12_worthHad_10 rfl (lv_at hl 2 rfl) ?_
      refine va_get (ci := 12) (v := .ref (ma 10)) (C := RX12) (T := TX12) (N := 38) hx hb hts inX12 hown hK.1 hP 0 rfl rfl 10 (by decide) (hts (.fieldLink RX12 31 "SkimmedSonsModel" "hadOf" "[I") (by decide +kernel)) (fun _ h9 => h9) rfl dX12_worthHad_11 ?_
      refine lv_iconst (v := iI 4) hx hb dX12_worthHad_14 (by decide) ?_
      refine lv_iload_n hx hb dX12_worthHad_15 rfl (lv_at hl 3 rfl) ?_
      refine z_imul hx hb dX12_worthHad_16 ?_
      refine lv_iload_n hx hb dX12_worthHad_17 rfl (lv_at hl 0 rfl) ?_
      refine z_iadd hx hb dX12_worthHad_18 ?_
      refine z_iald hx hb hK.1 hP 2 rfl (by omega) dX12_worthHad_19 ?_
      refine W.eq (g2 := F0 m 20 ls [.int (iI (hz (((4 * z) + 2).toNat))), .int (iI z_2)]) rfl ?_
      refine lv_aload_n hx hb dX12_worthHad_20 rfl (lv_at hl 2 rfl) ?_
      refine lv_iload_n hx hb dX12_worthHad_21 rfl (lv_at hl 3 rfl) ?_
      refine lv_iload_n hx hb dX12_worthHad_22 rfl (lv_at hl 0 rfl) ?_
      have hPm := zp_perm hP (zblk (show List.Perm ([WMo o ma mi ml, Wa X 2 (ma 9) 5 kz, Wa X 2 (ma 10) 20 hz] : List va_W) ([WMo o ma mi ml, Wa X 2 (ma 9) 5 kz] ++ [Wa X 2 (ma 10) 20 hz]) from (zf1 _ 0 _ rfl).trans (((zf1 _ 0 _ rfl).trans ((List.Perm.refl _).cons _)).cons _)))
      have hDm := zd_perm hD (zblk (show List.Perm ([WMo o ma mi ml, Wa X 2 (ma 9) 5 kz, Wa X 2 (ma 10) 20 hz] : List va_W) ([WMo o ma mi ml, Wa X 2 (ma 9) 5 kz] ++ [Wa X 2 (ma 10) 20 hz]) from (zf1 _ 0 _ rfl).trans (((zf1 _ 0 _ rfl).trans ((List.Perm.refl _).cons _)).cons _)))
      refine z_callV (wr := zb [Wa X 2 (ma 10) 20 hz]) (As := [.int (iI z), .int (iI 2)]) (rest := [.int (iI (hz (((4 * z) + 2).toNat))), .int (iI z_2)]) ⟨hx, hb, hml, hown, hts⟩ (c_X12_worthOf l X o ma mi ml kz z 2 (by omega) (by exact hkz) (by omega)) (cwV 2 hts gX12_worthHad_X12_worthOf rfl rfl rfl (by decide +kernel) ⟨Nat.le_of_ble_eq_true rfl, Nat.le_of_ble_eq_true rfl⟩) rfl rfl hl.1 dX12_worthHad_23 rfl rfl (Nat.le_of_ble_eq_true rfl) ⟨(Nat.le_of_ble_eq_true rfl), (Nat.le_of_ble_eq_true rfl)⟩ hS hA hK hPm hDm (fun _ H locs _ hP hD hS => ?_)
      have hP := zp_perm hP ((zblk (show List.Perm ([WMo o ma mi ml, Wa X 2 (ma 9) 5 kz, Wa X 2 (ma 10) 20 hz] : List va_W) ([WMo o ma mi ml, Wa X 2 (ma 9) 5 kz] ++ [Wa X 2 (ma 10) 20 hz]) from (zf1 _ 0 _ rfl).trans (((zf1 _ 0 _ rfl).trans ((List.Perm.refl _).cons _)).cons _)))).symm
      have hD := zd_perm hD ((zblk (show List.Perm ([WMo o ma mi ml, Wa X 2 (ma 9) 5 kz, Wa X 2 (ma 10) 20 hz] : List va_W) ([WMo o ma mi ml, Wa X 2 (ma 9) 5 kz] ++ [Wa X 2 (ma 10) 20 hz]) from (zf1 _ 0 _ rfl).trans (((zf1 _ 0 _ rfl).trans ((List.Perm.refl _).cons _)).cons _)))).symm
      have hP : va_P X.1 vwCl (zb [WMo o ma mi ml, Wa X 2 (ma 9) 5 kz, Wa X 2 (ma 10) 20 hz]) H := hP
      have hD : va_D A (zb [WMo o ma mi ml, Wa X 2 (ma 9) 5 kz, Wa X 2 (ma 10) 20 hz]) := hD
      refine W.eq (g2 := F0 m 26 ls [.int (iI (wOf (kdM kz z.toNat) 2)), .int (iI (hz (((4 * z) + 2).toNat))), .int (iI z_2)]) rfl ?_
      refine z_imul hx hb dX12_worthHad_26 ?_
      refine z_iadd hx hb dX12_worthHad_27 ?_
      refine z_topi (fun z_4 ez_4 => ?_)
      refine lv_istore_n (lv' := [(2, .int (iI z_4)), (3, .int (iI 2)), (0, .ref o), (1, .int (iI z))]) hx hb dX12_worthHad_28 rfl hl (by decide) rfl (fun ls hl => ?_)
      refine z_iinc (k := 1) (lv' := [(3, .int (iI 3)), (2, .int (iI z_4)), (0, .ref o), (1, .int (iI z))]) hx hb dX12_worthHad_29 hl rfl (by decide) rfl (fun ls hl => ?_)
      refine lv_goto (tgt := 4) hx hb dX12_worthHad_32 (by decide) ?_
      refine lv_iload_n hx hb dX12_worthHad_4 rfl (lv_at hl 0 rfl) ?_
      refine lv_iconst (v := iI 3) hx hb dX12_worthHad_5 (by decide) ?_
      refine z_icmp_gt (tgt := 35) hx hb (by omega) dX12_worthHad_6 (by decide) (fun c_5 => ?_) (fun c_5 => ?_)
      · skip
        exact absurd c_5 (by omega)
      · skip
        refine lv_iload_n hx hb dX12_worthHad_9 rfl (lv_at hl 1 rfl) ?_
        refine lv_aload_n hx hb dX12_worthHad_10 rfl (lv_at hl 2 rfl) ?_
        refine va_get (ci := 12) (v := .ref (ma 10)) (C := RX12) (T := TX12) (N := 38) hx hb hts inX12 hown hK.1 hP 0 rfl rfl 10 (by decide) (hts (.fieldLink RX12 31 "SkimmedSonsModel" "hadOf" "[I") (by decide +kernel)) (fun _ h9 => h9) rfl dX12_worthHad_11 ?_
        refine lv_iconst (v := iI 4) hx hb dX12_worthHad_14 (by decide) ?_
        refine lv_iload_n hx hb dX12_worthHad_15 rfl (lv_at hl 3 rfl) ?_
        refine z_imul hx hb dX12_worthHad_16 ?_
        refine lv_iload_n hx hb dX12_worthHad_17 rfl (lv_at hl 0 rfl) ?_
        refine z_iadd hx hb dX12_worthHad_18 ?_
        refine z_iald hx hb hK.1 hP 2 rfl (by omega) dX12_worthHad_19 ?_
        refine W.eq (g2 := F0 m 20 ls [.int (iI (hz (((4 * z) + 3).toNat))), .int (iI z_4)]) rfl ?_
        refine lv_aload_n hx hb dX12_worthHad_20 rfl (lv_at hl 2 rfl) ?_
        refine lv_iload_n hx hb dX12_worthHad_21 rfl (lv_at hl 3 rfl) ?_
        refine lv_iload_n hx hb dX12_worthHad_22 rfl (lv_at hl 0 rfl) ?_
        have hPm := zp_perm hP (zblk (show List.Perm ([WMo o ma mi ml, Wa X 2 (ma 9) 5 kz, Wa X 2 (ma 10) 20 hz] : List va_W) ([WMo o ma mi ml, Wa X 2 (ma 9) 5 kz] ++ [Wa X 2 (ma 10) 20 hz]) from (zf1 _ 0 _ rfl).trans (((zf1 _ 0 _ rfl).trans ((List.Perm.refl _).cons _)).cons _)))
        have hDm := zd_perm hD (zblk (show List.Perm ([WMo o ma mi ml, Wa X 2 (ma 9) 5 kz, Wa X 2 (ma 10) 20 hz] : List va_W) ([WMo o ma mi ml, Wa X 2 (ma 9) 5 kz] ++ [Wa X 2 (ma 10) 20 hz]) from (zf1 _ 0 _ rfl).trans (((zf1 _ 0 _ rfl).trans ((List.Perm.refl _).cons _)).cons _)))
        refine z_callV (wr := zb [Wa X 2 (ma 10) 20 hz]) (As := [.int (iI z), .int (iI 3)]) (rest := [.int (iI (hz (((4 * z) + 3).toNat))), .int (iI z_4)]) ⟨hx, hb, hml, hown, hts⟩ (c_X12_worthOf l X o ma mi ml kz z 3 (by omega) (by exact hkz) (by omega)) (cwV 2 hts gX12_worthHad_X12_worthOf rfl rfl rfl (by decide +kernel) ⟨Nat.le_of_ble_eq_true rfl, Nat.le_of_ble_eq_true rfl⟩) rfl rfl hl.1 dX12_worthHad_23 rfl rfl (Nat.le_of_ble_eq_true rfl) ⟨(Nat.le_of_ble_eq_true rfl), (Nat.le_of_ble_eq_true rfl)⟩ hS hA hK hPm hDm (fun _ H locs _ hP hD hS => ?_)
        have hP := zp_perm hP ((zblk (show List.Perm ([WMo o ma mi ml, Wa X 2 (ma 9) 5 kz, Wa X 2 (ma 10) 20 hz] : List va_W) ([WMo o ma mi ml, Wa X 2 (ma 9) 5 kz] ++ [Wa X 2 (ma 10) 20 hz]) from (zf1 _ 0 _ rfl).trans (((zf1 _ 0 _ rfl).trans ((List.Perm.refl _).cons _)).cons _)))).symm
        have hD := zd_perm hD ((zblk (show List.Perm ([WMo o ma mi ml, Wa X 2 (ma 9) 5 kz, Wa X 2 (ma 10) 20 hz] : List va_W) ([WMo o ma mi ml, Wa X 2 (ma 9) 5 kz] ++ [Wa X 2 (ma 10) 20 hz]) from (zf1 _ 0 _ rfl).trans (((zf1 _ 0 _ rfl).trans ((List.Perm.refl _).cons _)).cons _)))).symm
        have hP : va_P X.1 vwCl (zb [WMo o ma mi ml, Wa X 2 (ma 9) 5 kz, Wa X 2 (ma 10) 20 hz]) H := hP
        have hD : va_D A (zb [WMo o ma mi ml, Wa X 2 (ma 9) 5 kz, Wa X 2 (ma 10) 20 hz]) := hD
        refine W.eq (g2 := F0 m 26 ls [.int (iI (wOf (kdM kz z.toNat) 3)), .int (iI (hz (((4 * z) + 3).toNat))), .int (iI z_4)]) rfl ?_
        refine z_imul hx hb dX12_worthHad_26 ?_
        refine z_iadd hx hb dX12_worthHad_27 ?_
        refine z_topi (fun z_6 ez_6 => ?_)
        refine lv_istore_n (lv' := [(2, .int (iI z_6)), (3, .int (iI 3)), (0, .ref o), (1, .int (iI z))]) hx hb dX12_worthHad_28 rfl hl (by decide) rfl (fun ls hl => ?_)
        refine z_iinc (k := 1) (lv' := [(3, .int (iI 4)), (2, .int (iI z_6)), (0, .ref o), (1, .int (iI z))]) hx hb dX12_worthHad_29 hl rfl (by decide) rfl (fun ls hl => ?_)
        refine lv_goto (tgt := 4) hx hb dX12_worthHad_32 (by decide) ?_
        refine lv_iload_n hx hb dX12_worthHad_4 rfl (lv_at hl 0 rfl) ?_
        refine lv_iconst (v := iI 3) hx hb dX12_worthHad_5 (by decide) ?_
        refine z_icmp_gt (tgt := 35) hx hb (by omega) dX12_worthHad_6 (by decide) (fun c_7 => ?_) (fun c_7 => ?_)
        · skip
          refine lv_iload_n hx hb dX12_worthHad_35 rfl (lv_at hl 1 rfl) ?_
          exact z_iret hQ hx hb hr hlocks hS ⟨(Nat.le_of_ble_eq_true rfl), (Nat.le_of_ble_eq_true rfl)⟩ dX12_worthHad_36 () (congrArg (fun z => some (Value.int (iI z))) (show (wAll (kdM kz z.toNat) (fhZ hz z.toNat) : Int) = z_6 by subst_vars; unfold wAll fhZ; rw [show wC (kdM kz z.toNat) = wOf (kdM kz z.toNat) 1 from rfl, show wF (kdM kz z.toNat) = wOf (kdM kz z.toNat) 2 from rfl, show wB (kdM kz z.toNat) = wOf (kdM kz z.toNat) 3 from rfl, show (4 * z + 1).toNat = 4 * z.toNat + 1 by omega, show (4 * z + 2).toNat = 4 * z.toNat + 2 by omega, show (4 * z + 3).toNat = 4 * z.toNat + 3 by omega, Int.zero_add])) trivial hP hD
        · skip
          exact absurd c_7 (by omega)
set_option maxHeartbeats 1000000 in
set_option maxRecDepth 100000 in
theorem c_X12_risenBy (l : Launch) (X : zX) (o : Nat) (ma : Nat → Nat) (mi : Nat → Int) (ml : Nat → Int) (pv : Nat → Nat → Int) (z : Int) (x : Int) (y : Int) (hpz : PanB (pv z.toNat)) (hz3 : 0 ≤ z ∧ z < 3) (hx1 : 0 ≤ x ∧ x ≤ 100) (hy1 : 0 ≤ y ∧ y ≤ 100) : zF l X yX12_risenBy wsX12_risenBy 0 0 [.ref o, .int (iI z), .int (iI x), .int (iI y)] (zb [WMo o ma mi ml, WMp X ma pv]) (some (.int (iI (risenP (pv z.toNat) y x)))) (zb [WMo o ma mi ml, WMp X ma pv]) := by
  refine z_enter (cc := cX12_risenBy) (maxL := 5) (ret := (some .int)) (by decide) rfl (Nat.le_of_ble_eq_true rfl) ?_
  intro p e s m below meth c A ls Q hQ hE hl hP hD
  obtain ⟨hx, hb, hr, hml, hown, hts, hlocks, hnm, hA, hK⟩ := hE
  have hown : s.vm.findClass RX12 = some m.cls := hown
  have hS : va_S A s.heap s.heap [] := va_S.rf
  have hl : lv_has ls 5 [(0, .ref o), (1, .int (iI z)), (2, .int (iI x)), (3, .int (iI y))] := hl
  have inX12 : ∀ w ∈ u_ws RX12 TX12 38, w ∈ wsX12_risenBy := by decide +kernel
  obtain ⟨⟨h00, h01⟩, ⟨h10, h11⟩, h2, h3, h4, h5, h6⟩ := id hpz
  have hm0 : 0 ≤ y * (pv z.toNat 0 + 1) := Int.mul_nonneg hy1.1 (by omega)
  have hm1 : y * (pv z.toNat 0 + 1) ≤ 100 * 3 := Int.mul_le_mul hy1.2 (by omega) (by omega) (by omega)
  refine lv_iload_n hx hb dX12_risenBy_0 rfl (lv_at hl 3 rfl) ?_
  refine lv_aload_n hx hb dX12_risenBy_1 rfl (lv_at hl 0 rfl) ?_
  refine va_get (ci := 12) (v := .ref (ma 3)) (C := RX12) (T := TX12) (N := 38) hx hb hts inX12 hown hK.1 hP 0 rfl rfl 3 (by decide) (hts (.fieldLink RX12 7 "SkimmedSonsModel" "sillOf" "[I") (by decide +kernel)) (fun _ h9 => h9) rfl dX12_risenBy_2 ?_
  refine lv_iload_n hx hb dX12_risenBy_5 rfl (lv_at hl 1 rfl) ?_
  refine z_iald hx hb hK.1 hP 1 rfl (by omega) dX12_risenBy_6 ?_
  refine W.eq (g2 := F0 m 7 ls [.int (iI (pv z.toNat 0)), .int (iI y)]) rfl ?_
  refine lv_iconst (v := iI 1) hx hb dX12_risenBy_7 (by decide) ?_
  refine z_iadd hx hb dX12_risenBy_8 ?_
  refine z_imul hx hb dX12_risenBy_9 ?_
  refine z_topi (fun z_1 ez_1 => ?_)
  refine lv_istore (lv' := [(4, .int (iI z_1)), (0, .ref o), (1, .int (iI z)), (2, .int (iI x)), (3, .int (iI y))]) hx hb dX12_risenBy_10 hl (by decide) rfl (fun ls hl => ?_)
  refine lv_aload_n hx hb dX12_risenBy_12 rfl (lv_at hl 1 rfl) ?_
  refine va_get (ci := 12) (v := .ref (ma 5)) (C := RX12) (T := TX12) (N := 38) hx hb hts inX12 hown hK.1 hP 0 rfl rfl 5 (by decide) (hts (.fieldLink RX12 16 "SkimmedSonsModel" "creamOf" "[I") (by decide +kernel)) (fun _ h9 => h9) rfl dX12_risenBy_13 ?_
  refine lv_iload_n hx hb dX12_risenBy_16 rfl (lv_at hl 2 rfl) ?_
  refine z_iald hx hb hK.1 hP 4 rfl (by omega) dX12_risenBy_17 ?_
  refine W.eq (g2 := F0 m 18 ls [.int (iI (pv z.toNat 3))]) rfl ?_
  refine lv_aload_n hx hb dX12_risenBy_18 rfl (lv_at hl 1 rfl) ?_
  refine va_get (ci := 12) (v := .ref (ma 6)) (C := RX12) (T := TX12) (N := 38) hx hb hts inX12 hown hK.1 hP 0 rfl rfl 6 (by decide) (hts (.fieldLink RX12 19 "SkimmedSonsModel" "filmOf" "[I") (by decide +kernel)) (fun _ h9 => h9) rfl dX12_risenBy_19 ?_
  refine lv_iload_n hx hb dX12_risenBy_22 rfl (lv_at hl 2 rfl) ?_
  refine z_iald hx hb hK.1 hP 5 rfl (by omega) dX12_risenBy_23 ?_
  refine W.eq (g2 := F0 m 24 ls [.int (iI (pv z.toNat 4)), .int (iI (pv z.toNat 3))]) rfl ?_
  refine z_iadd hx hb dX12_risenBy_24 ?_
  refine lv_iload_n hx hb dX12_risenBy_25 rfl (lv_at hl 3 rfl) ?_
  refine lv_iload hx hb dX12_risenBy_26 (lv_at hl 0 rfl) ?_
  refine z_icmp_ge (tgt := 35) hx hb (by omega) dX12_risenBy_28 (by decide) (fun c_2 => ?_) (fun c_2 => ?_)
  · skip
    refine lv_iload hx hb dX12_risenBy_35 (lv_at hl 0 rfl) ?_
    refine z_iadd hx hb dX12_risenBy_37 ?_
    exact z_iret hQ hx hb hr hlocks hS ⟨(Nat.le_of_ble_eq_true rfl), (Nat.le_of_ble_eq_true rfl)⟩ dX12_risenBy_38 () (congrArg (fun z => some (Value.int (iI z))) (show (risenP (pv z.toNat) y x : Int) = ((pv z.toNat 3) + (pv z.toNat 4)) + z_1 by unfold risenP; rw [Int.add_comm 1 (pv z.toNat 0)]; omega)) trivial hP hD
  · skip
    refine lv_iload_n hx hb dX12_risenBy_31 rfl (lv_at hl 3 rfl) ?_
    refine lv_goto (tgt := 37) hx hb dX12_risenBy_32 (by decide) ?_
    refine z_iadd hx hb dX12_risenBy_37 ?_
    exact z_iret hQ hx hb hr hlocks hS ⟨(Nat.le_of_ble_eq_true rfl), (Nat.le_of_ble_eq_true rfl)⟩ dX12_risenBy_38 () (congrArg (fun z => some (Value.int (iI z))) (show (risenP (pv z.toNat) y x : Int) = ((pv z.toNat 3) + (pv z.toNat 4)) + x by unfold risenP; rw [Int.add_comm 1 (pv z.toNat 0)]; omega)) trivial hP hD
set_option maxHeartbeats 1000000 in
set_option maxRecDepth 100000 in
theorem c_X12_rise (l : Launch) (X : zX) (o : Nat) (ma : Nat → Nat) (mi : Nat → Int) (ml : Nat → Int) (pv : Nat → Nat → Int) (z : Int) (hpz : PanB (pv z.toNat)) (hz3 : 0 ≤ z ∧ z < 3) : zF l X yX12_rise wsX12_rise 0 0 [.ref o, .int (iI z)] (zb [WMo o ma mi ml, WMp X ma pv]) none (zb [WMo o ma mi ml, WMp X ma (va_up pv z.toNat (riseP (pv z.toNat)))]) := by
  refine z_enter (cc := cX12_rise) (maxL := 3) (ret := none) (by decide) rfl (Nat.le_of_ble_eq_true rfl) ?_
  intro p e s m below meth c A ls Q hQ hE hl hP hD
  obtain ⟨hx, hb, hr, hml, hown, hts, hlocks, hnm, hA, hK⟩ := hE
  have hown : s.vm.findClass RX12 = some m.cls := hown
  have hS : va_S A s.heap s.heap [] := va_S.rf
  have hl : lv_has ls 3 [(0, .ref o), (1, .int (iI z))] := hl
  have inX12 : ∀ w ∈ u_ws RX12 TX12 38, w ∈ wsX12_rise := by decide +kernel
  obtain ⟨⟨h00, h01⟩, ⟨h10, h11⟩, h2, h3, h4, h5, h6⟩ := id hpz
  refine lv_aload_n hx hb dX12_rise_0 rfl (lv_at hl 0 rfl) ?_
  refine va_get (ci := 12) (v := .ref (ma 4)) (C := RX12) (T := TX12) (N := 38) hx hb hts inX12 hown hK.1 hP 0 rfl rfl 4 (by decide) (hts (.fieldLink RX12 13 "SkimmedSonsModel" "fatOf" "[I") (by decide +kernel)) (fun _ h9 => h9) rfl dX12_rise_1 ?_
  refine lv_iload_n hx hb dX12_rise_4 rfl (lv_at hl 1 rfl) ?_
  refine z_iald hx hb hK.1 hP 3 rfl (by omega) dX12_rise_5 ?_
  refine W.eq (g2 := F0 m 6 ls [.int (iI (pv z.toNat 2))]) rfl ?_
  refine lv_aload_n hx hb dX12_rise_6 rfl (lv_at hl 0 rfl) ?_
  refine va_get (ci := 12) (v := .ref (ma 3)) (C := RX12) (T := TX12) (N := 38) hx hb hts inX12 hown hK.1 hP 0 rfl rfl 3 (by decide) (hts (.fieldLink RX12 7 "SkimmedSonsModel" "sillOf" "[I") (by decide +kernel)) (fun _ h9 => h9) rfl dX12_rise_7 ?_
  refine lv_iload_n hx hb dX12_rise_10 rfl (lv_at hl 1 rfl) ?_
  refine z_iald hx hb hK.1 hP 1 rfl (by omega) dX12_rise_11 ?_
  refine W.eq (g2 := F0 m 12 ls [.int (iI (pv z.toNat 0)), .int (iI (pv z.toNat 2))]) rfl ?_
  refine lv_iconst (v := iI 1) hx hb dX12_rise_12 (by decide) ?_
  refine z_iadd hx hb dX12_rise_13 ?_
  refine z_icmp_ge (tgt := 26) hx hb (by omega) dX12_rise_14 (by decide) (fun c_1 => ?_) (fun c_1 => ?_)
  · skip
    refine lv_aload_n hx hb dX12_rise_26 rfl (lv_at hl 0 rfl) ?_
    refine va_get (ci := 12) (v := .ref (ma 3)) (C := RX12) (T := TX12) (N := 38) hx hb hts inX12 hown hK.1 hP 0 rfl rfl 3 (by decide) (hts (.fieldLink RX12 7 "SkimmedSonsModel" "sillOf" "[I") (by decide +kernel)) (fun _ h9 => h9) rfl dX12_rise_27 ?_
    refine lv_iload_n hx hb dX12_rise_30 rfl (lv_at hl 1 rfl) ?_
    refine z_iald hx hb hK.1 hP 1 rfl (by omega) dX12_rise_31 ?_
    refine W.eq (g2 := F0 m 32 ls [.int (iI (pv z.toNat 0))]) rfl ?_
    refine lv_iconst (v := iI 1) hx hb dX12_rise_32 (by decide) ?_
    refine z_iadd hx hb dX12_rise_33 ?_
    refine z_topi (fun z_2 ez_2 => ?_)
    refine lv_istore_n (lv' := [(2, .int (iI z_2)), (0, .ref o), (1, .int (iI z))]) hx hb dX12_rise_34 rfl hl (by decide) rfl (fun ls hl => ?_)
    refine lv_aload_n hx hb dX12_rise_35 rfl (lv_at hl 1 rfl) ?_
    refine va_get (ci := 12) (v := .ref (ma 4)) (C := RX12) (T := TX12) (N := 38) hx hb hts inX12 hown hK.1 hP 0 rfl rfl 4 (by decide) (hts (.fieldLink RX12 13 "SkimmedSonsModel" "fatOf" "[I") (by decide +kernel)) (fun _ h9 => h9) rfl dX12_rise_36 ?_
    refine lv_iload_n hx hb dX12_rise_39 rfl (lv_at hl 2 rfl) ?_
    refine lv_dup2_11 hx hb dX12_rise_40 rfl rfl ?_
    refine z_iald hx hb hK.1 hP 3 rfl (by omega) dX12_rise_41 ?_
    refine W.eq (g2 := F0 m 42 ls [.int (iI (pv z.toNat 2)), .int (iI z), .ref (ma 4)]) rfl ?_
    refine lv_iload_n hx hb dX12_rise_42 rfl (lv_at hl 0 rfl) ?_
    refine z_isub hx hb dX12_rise_43 ?_
    refine z_topi (fun z_3 ez_3 => ?_)
    refine z_iast hx hb hK.1 hP hD hS 3 rfl (by omega) dX12_rise_44 (fun H locs hP hD hS => ?_)
    have hP : va_P X.1 vwCl (zb [WMo o ma mi ml, WMx X ma (fun j => pv j 0) (fun j => pv j 1) (updZ (fun j => pv j 2) z.toNat z_3) (fun j => pv j 3) (fun j => pv j 4) (fun j => pv j 5)]) H := hP
    have hD : va_D A (zb [WMo o ma mi ml, WMx X ma (fun j => pv j 0) (fun j => pv j 1) (updZ (fun j => pv j 2) z.toNat z_3) (fun j => pv j 3) (fun j => pv j 4) (fun j => pv j 5)]) := hD
    refine lv_aload_n hx hb dX12_rise_45 rfl (lv_at hl 1 rfl) ?_
    refine va_get (ci := 12) (v := .ref (ma 5)) (C := RX12) (T := TX12) (N := 38) hx hb hts inX12 hown hK.1 hP 0 rfl rfl 5 (by decide) (hts (.fieldLink RX12 16 "SkimmedSonsModel" "creamOf" "[I") (by decide +kernel)) (fun _ h9 => h9) rfl dX12_rise_46 ?_
    refine lv_iload_n hx hb dX12_rise_49 rfl (lv_at hl 2 rfl) ?_
    refine lv_dup2_11 hx hb dX12_rise_50 rfl rfl ?_
    refine z_iald hx hb hK.1 hP 4 rfl (by omega) dX12_rise_51 ?_
    refine W.eq (g2 := F0 m 52 ls [.int (iI (pv z.toNat 3)), .int (iI z), .ref (ma 5)]) rfl ?_
    refine lv_iload_n hx hb dX12_rise_52 rfl (lv_at hl 0 rfl) ?_
    refine z_iadd hx hb dX12_rise_53 ?_
    refine z_topi (fun z_4 ez_4 => ?_)
    refine z_iast hx hb hK.1 hP hD hS 4 rfl (by omega) dX12_rise_54 (fun H locs hP hD hS => ?_)
    have hP : va_P X.1 vwCl (zb [WMo o ma mi ml, WMx X ma (fun j => pv j 0) (fun j => pv j 1) (updZ (fun j => pv j 2) z.toNat z_3) (updZ (fun j => pv j 3) z.toNat z_4) (fun j => pv j 4) (fun j => pv j 5)]) H := hP
    have hD : va_D A (zb [WMo o ma mi ml, WMx X ma (fun j => pv j 0) (fun j => pv j 1) (updZ (fun j => pv j 2) z.toNat z_3) (updZ (fun j => pv j 3) z.toNat z_4) (fun j => pv j 4) (fun j => pv j 5)]) := hD
    have hw : zb [WMo o ma mi ml, WMx X ma (fun j => pv j 0) (fun j => pv j 1) (updZ (fun j => pv j 2) z.toNat z_3) (updZ (fun j => pv j 3) z.toNat z_4) (fun j => pv j 4) (fun j => pv j 5)] = zb [WMo o ma mi ml, WMp X ma (va_up pv z.toNat (riseP (pv z.toNat)))] := by rw [WMx_up (pv := pv) (p := z.toNat) (v := riseP (pv z.toNat)) (fun j hj => by simp [updZ, hj]) (by refine ⟨?_, ?_, ?_, ?_, ?_, ?_⟩ <;> (try simp only [updZ_same, riseP, mkP_0, mkP_1, mkP_2, mkP_3, mkP_4, mkP_5]) <;> omega)]
    rw [hw] at hP hD
    exact z_vret hQ hx hb hr hlocks hS ⟨(Nat.le_of_ble_eq_true rfl), (Nat.le_of_ble_eq_true rfl)⟩ dX12_rise_55 () rfl trivial hP hD
  · skip
    refine lv_aload_n hx hb dX12_rise_17 rfl (lv_at hl 0 rfl) ?_
    refine va_get (ci := 12) (v := .ref (ma 4)) (C := RX12) (T := TX12) (N := 38) hx hb hts inX12 hown hK.1 hP 0 rfl rfl 4 (by decide) (hts (.fieldLink RX12 13 "SkimmedSonsModel" "fatOf" "[I") (by decide +kernel)) (fun _ h9 => h9) rfl dX12_rise_18 ?_
    refine lv_iload_n hx hb dX12_rise_21 rfl (lv_at hl 1 rfl) ?_
    refine z_iald hx hb hK.1 hP 3 rfl (by omega) dX12_rise_22 ?_
    refine W.eq (g2 := F0 m 23 ls [.int (iI (pv z.toNat 2))]) rfl ?_
    refine lv_goto (tgt := 34) hx hb dX12_rise_23 (by decide) ?_
    refine lv_istore_n (lv' := [(2, .int (iI (pv z.toNat 2))), (0, .ref o), (1, .int (iI z))]) hx hb dX12_rise_34 rfl hl (by decide) rfl (fun ls hl => ?_)
    refine lv_aload_n hx hb dX12_rise_35 rfl (lv_at hl 1 rfl) ?_
    refine va_get (ci := 12) (v := .ref (ma 4)) (C := RX12) (T := TX12) (N := 38) hx hb hts inX12 hown hK.1 hP 0 rfl rfl 4 (by decide) (hts (.fieldLink RX12 13 "SkimmedSonsModel" "fatOf" "[I") (by decide +kernel)) (fun _ h9 => h9) rfl dX12_rise_36 ?_
    refine lv_iload_n hx hb dX12_rise_39 rfl (lv_at hl 2 rfl) ?_
    refine lv_dup2_11 hx hb dX12_rise_40 rfl rfl ?_
    refine z_iald hx hb hK.1 hP 3 rfl (by omega) dX12_rise_41 ?_
    refine W.eq (g2 := F0 m 42 ls [.int (iI (pv z.toNat 2)), .int (iI z), .ref (ma 4)]) rfl ?_
    refine lv_iload_n hx hb dX12_rise_42 rfl (lv_at hl 0 rfl) ?_
    refine z_isub hx hb dX12_rise_43 ?_
    refine z_topi (fun z_5 ez_5 => ?_)
    refine z_iast hx hb hK.1 hP hD hS 3 rfl (by omega) dX12_rise_44 (fun H locs hP hD hS => ?_)
    have hP : va_P X.1 vwCl (zb [WMo o ma mi ml, WMx X ma (fun j => pv j 0) (fun j => pv j 1) (updZ (fun j => pv j 2) z.toNat z_5) (fun j => pv j 3) (fun j => pv j 4) (fun j => pv j 5)]) H := hP
    have hD : va_D A (zb [WMo o ma mi ml, WMx X ma (fun j => pv j 0) (fun j => pv j 1) (updZ (fun j => pv j 2) z.toNat z_5) (fun j => pv j 3) (fun j => pv j 4) (fun j => pv j 5)]) := hD
    refine lv_aload_n hx hb dX12_rise_45 rfl (lv_at hl 1 rfl) ?_
    refine va_get (ci := 12) (v := .ref (ma 5)) (C := RX12) (T := TX12) (N := 38) hx hb hts inX12 hown hK.1 hP 0 rfl rfl 5 (by decide) (hts (.fieldLink RX12 16 "SkimmedSonsModel" "creamOf" "[I") (by decide +kernel)) (fun _ h9 => h9) rfl dX12_rise_46 ?_
    refine lv_iload_n hx hb dX12_rise_49 rfl (lv_at hl 2 rfl) ?_
    refine lv_dup2_11 hx hb dX12_rise_50 rfl rfl ?_
    refine z_iald hx hb hK.1 hP 4 rfl (by omega) dX12_rise_51 ?_
    refine W.eq (g2 := F0 m 52 ls [.int (iI (pv z.toNat 3)), .int (iI z), .ref (ma 5)]) rfl ?_
    refine lv_iload_n hx hb dX12_rise_52 rfl (lv_at hl 0 rfl) ?_
    refine z_iadd hx hb dX12_rise_53 ?_
    refine z_topi (fun z_6 ez_6 => ?_)
    refine z_iast hx hb hK.1 hP hD hS 4 rfl (by omega) dX12_rise_54 (fun H locs hP hD hS => ?_)
    have hP : va_P X.1 vwCl (zb [WMo o ma mi ml, WMx X ma (fun j => pv j 0) (fun j => pv j 1) (updZ (fun j => pv j 2) z.toNat z_5) (updZ (fun j => pv j 3) z.toNat z_6) (fun j => pv j 4) (fun j => pv j 5)]) H := hP
    have hD : va_D A (zb [WMo o ma mi ml, WMx X ma (fun j => pv j 0) (fun j => pv j 1) (updZ (fun j => pv j 2) z.toNat z_5) (updZ (fun j => pv j 3) z.toNat z_6) (fun j => pv j 4) (fun j => pv j 5)]) := hD
    have hw : zb [WMo o ma mi ml, WMx X ma (fun j => pv j 0) (fun j => pv j 1) (updZ (fun j => pv j 2) z.toNat z_5) (updZ (fun j => pv j 3) z.toNat z_6) (fun j => pv j 4) (fun j => pv j 5)] = zb [WMo o ma mi ml, WMp X ma (va_up pv z.toNat (riseP (pv z.toNat)))] := by rw [WMx_up (pv := pv) (p := z.toNat) (v := riseP (pv z.toNat)) (fun j hj => by simp [updZ, hj]) (by refine ⟨?_, ?_, ?_, ?_, ?_, ?_⟩ <;> (try simp only [updZ_same, riseP, mkP_0, mkP_1, mkP_2, mkP_3, mkP_4, mkP_5]) <;> omega)]
    rw [hw] at hP hD
    exact z_vret hQ hx hb hr hlocks hS ⟨(Nat.le_of_ble_eq_true rfl), (Nat.le_of_ble_eq_true rfl)⟩ dX12_rise_55 () rfl trivial hP hD
set_option maxHeartbeats 1000000 in
set_option maxRecDepth 100000 in
theorem c_X12_goBy (l : Launch) (X : zX) (o : Nat) (ma : Nat → Nat) (mi : Nat → Int) (ml : Nat → Int) (pv : Nat → Nat → Int) (z : Int) (hpz : PanB (pv z.toNat)) (hz3 : 0 ≤ z ∧ z < 3) : zF l X yX12_goBy wsX12_goBy 1 22 [.ref o, .int (iI z)] (zb [WMo o ma mi ml, WMp X ma pv]) none (zb [WMo o ma mi ml, WMp X ma (va_up pv z.toNat (hourP (pv z.toNat)))]) := by
  refine z_enter (cc := cX12_goBy) (maxL := 2) (ret := none) (by decide) rfl (Nat.le_of_ble_eq_true rfl) ?_
  intro p e s m below meth c A ls Q hQ hE hl hP hD
  obtain ⟨hx, hb, hr, hml, hown, hts, hlocks, hnm, hA, hK⟩ := hE
  have hown : s.vm.findClass RX12 = some m.cls := hown
  have hS : va_S A s.heap s.heap [] := va_S.rf
  have hl : lv_has ls 2 [(0, .ref o), (1, .int (iI z))] := hl
  have inX12 : ∀ w ∈ u_ws RX12 TX12 38, w ∈ wsX12_goBy := by decide +kernel
  obtain ⟨⟨h00, h01⟩, ⟨h10, h11⟩, h2, h3, h4, h5, h6⟩ := id hpz
  refine lv_aload_n hx hb dX12_goBy_0 rfl (lv_at hl 0 rfl) ?_
  refine lv_iload_n hx hb dX12_goBy_1 rfl (lv_at hl 1 rfl) ?_
  have hPm := zp_perm hP (zblk (show List.Perm ([WMo o ma mi ml, WMp X ma pv] : List va_W) ([WMo o ma mi ml, WMp X ma pv] ++ []) from (zf1 _ 0 _ rfl).trans (((zf1 _ 0 _ rfl).trans ((List.Perm.refl _).cons _)).cons _)))
  have hDm := zd_perm hD (zblk (show List.Perm ([WMo o ma mi ml, WMp X ma pv] : List va_W) ([WMo o ma mi ml, WMp X ma pv] ++ []) from (zf1 _ 0 _ rfl).trans (((zf1 _ 0 _ rfl).trans ((List.Perm.refl _).cons _)).cons _)))
  refine z_callV (wr := zb []) (As := [.int (iI z)]) (rest := []) ⟨hx, hb, hml, hown, hts⟩ (c_X12_rise l X o ma mi ml pv z (by exact hpz) (by omega)) (cwV 1 hts gX12_goBy_X12_rise rfl rfl rfl (by decide +kernel) ⟨Nat.le_of_ble_eq_true rfl, Nat.le_of_ble_eq_true rfl⟩) rfl rfl hl.1 dX12_goBy_2 rfl rfl (Nat.le_of_ble_eq_true rfl) ⟨(Nat.le_of_ble_eq_true rfl), (Nat.le_of_ble_eq_true rfl)⟩ hS hA hK hPm hDm (fun _ H locs _ hP hD hS => ?_)
  have hP := zp_perm hP ((zblk (show List.Perm ([WMo o ma mi ml, WMp X ma (va_up pv z.toNat (riseP (pv z.toNat)))] : List va_W) ([WMo o ma mi ml, WMp X ma (va_up pv z.toNat (riseP (pv z.toNat)))] ++ []) from (zf1 _ 0 _ rfl).trans (((zf1 _ 0 _ rfl).trans ((List.Perm.refl _).cons _)).cons _)))).symm
  have hD := zd_perm hD ((zblk (show List.Perm ([WMo o ma mi ml, WMp X ma (va_up pv z.toNat (riseP (pv z.toNat)))] : List va_W) ([WMo o ma mi ml, WMp X ma (va_up pv z.toNat (riseP (pv z.toNat)))] ++ []) from (zf1 _ 0 _ rfl).trans (((zf1 _ 0 _ rfl).trans ((List.Perm.refl _).cons _)).cons _)))).symm
  have hP : va_P X.1 vwCl (zb [WMo o ma mi ml, WMp X ma (va_up pv z.toNat (riseP (pv z.toNat)))]) H := hP
  have hD : va_D A (zb [WMo o ma mi ml, WMp X ma (va_up pv z.toNat (riseP (pv z.toNat)))]) := hD
  refine W.eq (g2 := F0 m 5 ls []) rfl ?_
  obtain ⟨pu, hpu⟩ : ∃ q : Nat → Nat → Int, q = va_up pv z.toNat (riseP (pv z.toNat)) := ⟨_, rfl⟩
  rw [← hpu] at hP hD
  have hpq : pu z.toNat = riseP (pv z.toNat) := by rw [hpu]; simp [va_up]
  have hpo : ∀ j, ¬ j = z.toNat → pu j = pv j := fun j hj => by rw [hpu]; simp [va_up, hj]
  have hq0 : pu z.toNat 0 = pv z.toNat 0 := by rw [hpq]; rfl
  have hq1 : pu z.toNat 1 = pv z.toNat 1 := by rw [hpq]; rfl
  have hq2 : pu z.toNat 2 = pv z.toNat 2 - min (pv z.toNat 2) (1 + pv z.toNat 0) := by rw [hpq]; rfl
  have hq3 : pu z.toNat 3 = pv z.toNat 3 + min (pv z.toNat 2) (1 + pv z.toNat 0) := by rw [hpq]; rfl
  have hq4 : pu z.toNat 4 = pv z.toNat 4 := by rw [hpq]; rfl
  have hq5 : pu z.toNat 5 = pv z.toNat 5 := by rw [hpq]; rfl
  refine lv_aload_n hx hb dX12_goBy_5 rfl (lv_at hl 0 rfl) ?_
  refine va_get (ci := 12) (v := .ref (ma 8)) (C := RX12) (T := TX12) (N := 38) hx hb hts inX12 hown hK.1 hP 0 rfl rfl 8 (by decide) (hts (.fieldLink RX12 25 "SkimmedSonsModel" "stillOf" "[I") (by decide +kernel)) (fun _ h9 => h9) rfl dX12_goBy_6 ?_
  refine lv_iload_n hx hb dX12_goBy_9 rfl (lv_at hl 1 rfl) ?_
  refine lv_dup2_11 hx hb dX12_goBy_10 rfl rfl ?_
  refine z_iald hx hb hK.1 hP 2 rfl (by omega) dX12_goBy_11 ?_
  refine W.eq (g2 := F0 m 12 ls [.int (iI (pu z.toNat 1)), .int (iI z), .ref (ma 8)]) rfl ?_
  refine lv_iconst (v := iI 1) hx hb dX12_goBy_12 (by decide) ?_
  refine z_iadd hx hb dX12_goBy_13 ?_
  refine z_topi (fun z_1 ez_1 => ?_)
  refine z_iast hx hb hK.1 hP hD hS 2 rfl (by omega) dX12_goBy_14 (fun H locs hP hD hS => ?_)
  have hP : va_P X.1 vwCl (zb [WMo o ma mi ml, WMx X ma (fun j => pu j 0) (updZ (fun j => pu j 1) z.toNat z_1) (fun j => pu j 2) (fun j => pu j 3) (fun j => pu j 4) (fun j => pu j 5)]) H := hP
  have hD : va_D A (zb [WMo o ma mi ml, WMx X ma (fun j => pu j 0) (updZ (fun j => pu j 1) z.toNat z_1) (fun j => pu j 2) (fun j => pu j 3) (fun j => pu j 4) (fun j => pu j 5)]) := hD
  refine lv_aload_n hx hb dX12_goBy_15 rfl (lv_at hl 0 rfl) ?_
  refine va_get (ci := 12) (v := .ref (ma 8)) (C := RX12) (T := TX12) (N := 38) hx hb hts inX12 hown hK.1 hP 0 rfl rfl 8 (by decide) (hts (.fieldLink RX12 25 "SkimmedSonsModel" "stillOf" "[I") (by decide +kernel)) (fun _ h9 => h9) rfl dX12_goBy_16 ?_
  refine lv_iload_n hx hb dX12_goBy_19 rfl (lv_at hl 1 rfl) ?_
  refine z_iald hx hb hK.1 hP 2 rfl (by omega) dX12_goBy_20 ?_
  refine W.eq (g2 := F0 m 21 ls [.int (iI z_1)]) (by simp only [updZ_same]) ?_
  refine lv_iconst (v := iI 3) hx hb dX12_goBy_21 (by decide) ?_
  refine z_irem hx hb (by omega) dX12_goBy_22 ?_
  refine z_if_ne (tgt := 55) hx hb (by omega) dX12_goBy_23 (by decide) (fun c_2 => ?_) (fun c_2 => ?_)
  · skip
    have hw : zb [WMo o ma mi ml, WMx X ma (fun j => pu j 0) (updZ (fun j => pu j 1) z.toNat z_1) (fun j => pu j 2) (fun j => pu j 3) (fun j => pu j 4) (fun j => pu j 5)] = zb [WMo o ma mi ml, WMp X ma (va_up pv z.toNat (hourP (pv z.toNat)))] := by rw [WMx_up (pv := pv) (p := z.toNat) (v := hourP (pv z.toNat)) (fun j hj => by simp [updZ, hj, hpo j hj]) (by refine ⟨?_, ?_, ?_, ?_, ?_, ?_⟩ <;> (try simp only [updZ_same, hourP, mkP_0, mkP_1, mkP_2, mkP_3, mkP_4, mkP_5]) <;> omega)]
    rw [hw] at hP hD
    exact z_vret hQ hx hb hr hlocks hS ⟨(Nat.le_of_ble_eq_true rfl), (Nat.le_of_ble_eq_true rfl)⟩ dX12_goBy_55 () rfl trivial hP hD
  · skip
    refine lv_aload_n hx hb dX12_goBy_26 rfl (lv_at hl 0 rfl) ?_
    refine va_get (ci := 12) (v := .ref (ma 5)) (C := RX12) (T := TX12) (N := 38) hx hb hts inX12 hown hK.1 hP 0 rfl rfl 5 (by decide) (hts (.fieldLink RX12 16 "SkimmedSonsModel" "creamOf" "[I") (by decide +kernel)) (fun _ h9 => h9) rfl dX12_goBy_27 ?_
    refine lv_iload_n hx hb dX12_goBy_30 rfl (lv_at hl 1 rfl) ?_
    refine z_iald hx hb hK.1 hP 4 rfl (by omega) dX12_goBy_31 ?_
    refine W.eq (g2 := F0 m 32 ls [.int (iI (pu z.toNat 3))]) rfl ?_
    refine z_if_le (tgt := 55) hx hb (by omega) dX12_goBy_32 (by decide) (fun c_3 => ?_) (fun c_3 => ?_)
    · skip
      have hw : zb [WMo o ma mi ml, WMx X ma (fun j => pu j 0) (updZ (fun j => pu j 1) z.toNat z_1) (fun j => pu j 2) (fun j => pu j 3) (fun j => pu j 4) (fun j => pu j 5)] = zb [WMo o ma mi ml, WMp X ma (va_up pv z.toNat (hourP (pv z.toNat)))] := by rw [WMx_up (pv := pv) (p := z.toNat) (v := hourP (pv z.toNat)) (fun j hj => by simp [updZ, hj, hpo j hj]) (by refine ⟨?_, ?_, ?_, ?_, ?_, ?_⟩ <;> (try simp only [updZ_same, hourP, mkP_0, mkP_1, mkP_2, mkP_3, mkP_4, mkP_5]) <;> omega)]
      rw [hw] at hP hD
      exact z_vret hQ hx hb hr hlocks hS ⟨(Nat.le_of_ble_eq_true rfl), (Nat.le_of_ble_eq_true rfl)⟩ dX12_goBy_55 () rfl trivial hP hD
    · skip
      refine lv_aload_n hx hb dX12_goBy_35 rfl (lv_at hl 0 rfl) ?_
      refine va_get (ci := 12) (v := .ref (ma 5)) (C := RX12) (T := TX12) (N := 38) hx hb hts inX12 hown hK.1 hP 0 rfl rfl 5 (by decide) (hts (.fieldLink RX12 16 "SkimmedSonsModel" "creamOf" "[I") (by decide +kernel)) (fun _ h9 => h9) rfl dX12_goBy_36 ?_
      refine lv_iload_n hx hb dX12_goBy_39 rfl (lv_at hl 1 rfl) ?_
      refine lv_dup2_11 hx hb dX12_goBy_40 rfl rfl ?_
      refine z_iald hx hb hK.1 hP 4 rfl (by omega) dX12_goBy_41 ?_
      refine W.eq (g2 := F0 m 42 ls [.int (iI (pu z.toNat 3)), .int (iI z), .ref (ma 5)]) rfl ?_
      refine lv_iconst (v := iI 1) hx hb dX12_goBy_42 (by decide) ?_
      refine z_isub hx hb dX12_goBy_43 ?_
      refine z_topi (fun z_4 ez_4 => ?_)
      refine z_iast hx hb hK.1 hP hD hS 4 rfl (by omega) dX12_goBy_44 (fun H locs hP hD hS => ?_)
      have hP : va_P X.1 vwCl (zb [WMo o ma mi ml, WMx X ma (fun j => pu j 0) (updZ (fun j => pu j 1) z.toNat z_1) (fun j => pu j 2) (updZ (fun j => pu j 3) z.toNat z_4) (fun j => pu j 4) (fun j => pu j 5)]) H := hP
      have hD : va_D A (zb [WMo o ma mi ml, WMx X ma (fun j => pu j 0) (updZ (fun j => pu j 1) z.toNat z_1) (fun j => pu j 2) (updZ (fun j => pu j 3) z.toNat z_4) (fun j => pu j 4) (fun j => pu j 5)]) := hD
      refine lv_aload_n hx hb dX12_goBy_45 rfl (lv_at hl 0 rfl) ?_
      refine va_get (ci := 12) (v := .ref (ma 6)) (C := RX12) (T := TX12) (N := 38) hx hb hts inX12 hown hK.1 hP 0 rfl rfl 6 (by decide) (hts (.fieldLink RX12 19 "SkimmedSonsModel" "filmOf" "[I") (by decide +kernel)) (fun _ h9 => h9) rfl dX12_goBy_46 ?_
      refine lv_iload_n hx hb dX12_goBy_49 rfl (lv_at hl 1 rfl) ?_
      refine lv_dup2_11 hx hb dX12_goBy_50 rfl rfl ?_
      refine z_iald hx hb hK.1 hP 5 rfl (by omega) dX12_goBy_51 ?_
      refine W.eq (g2 := F0 m 52 ls [.int (iI (pu z.toNat 4)), .int (iI z), .ref (ma 6)]) rfl ?_
      refine lv_iconst (v := iI 1) hx hb dX12_goBy_52 (by decide) ?_
      refine z_iadd hx hb dX12_goBy_53 ?_
      refine z_topi (fun z_5 ez_5 => ?_)
      refine z_iast hx hb hK.1 hP hD hS 5 rfl (by omega) dX12_goBy_54 (fun H locs hP hD hS => ?_)
      have hP : va_P X.1 vwCl (zb [WMo o ma mi ml, WMx X ma (fun j => pu j 0) (updZ (fun j => pu j 1) z.toNat z_1) (fun j => pu j 2) (updZ (fun j => pu j 3) z.toNat z_4) (updZ (fun j => pu j 4) z.toNat z_5) (fun j => pu j 5)]) H := hP
      have hD : va_D A (zb [WMo o ma mi ml, WMx X ma (fun j => pu j 0) (updZ (fun j => pu j 1) z.toNat z_1) (fun j => pu j 2) (updZ (fun j => pu j 3) z.toNat z_4) (updZ (fun j => pu j 4) z.toNat z_5) (fun j => pu j 5)]) := hD
      have hw : zb [WMo o ma mi ml, WMx X ma (fun j => pu j 0) (updZ (fun j => pu j 1) z.toNat z_1) (fun j => pu j 2) (updZ (fun j => pu j 3) z.toNat z_4) (updZ (fun j => pu j 4) z.toNat z_5) (fun j => pu j 5)] = zb [WMo o ma mi ml, WMp X ma (va_up pv z.toNat (hourP (pv z.toNat)))] := by rw [WMx_up (pv := pv) (p := z.toNat) (v := hourP (pv z.toNat)) (fun j hj => by simp [updZ, hj, hpo j hj]) (by refine ⟨?_, ?_, ?_, ?_, ?_, ?_⟩ <;> (try simp only [updZ_same, hourP, mkP_0, mkP_1, mkP_2, mkP_3, mkP_4, mkP_5]) <;> omega)]
      rw [hw] at hP hD
      exact z_vret hQ hx hb hr hlocks hS ⟨(Nat.le_of_ble_eq_true rfl), (Nat.le_of_ble_eq_true rfl)⟩ dX12_goBy_55 () rfl trivial hP hD
set_option maxHeartbeats 1000000 in
set_option maxRecDepth 100000 in
theorem c_X12_goByAll (l : Launch) (X : zX) (o : Nat) (ma : Nat → Nat) (mi : Nat → Int) (ml : Nat → Int) (pv : Nat → Nat → Int) (hn : 0 ≤ mi 1 ∧ mi 1 ≤ 3) (hpv : PanS pv) : zF l X yX12_goByAll wsX12_goByAll 2 43 [.ref o] (zb [WMo o ma mi ml, WMp X ma pv]) none (zb [WMo o ma mi ml, WMp X ma (wtS (mi 1) pv)]) := by
  refine z_enter (cc := cX12_goByAll) (maxL := 2) (ret := none) (by decide) rfl (Nat.le_of_ble_eq_true rfl) ?_
  intro p e s m below meth c A ls Q hQ hE hl hP hD
  obtain ⟨hx, hb, hr, hml, hown, hts, hlocks, hnm, hA, hK⟩ := hE
  have hown : s.vm.findClass RX12 = some m.cls := hown
  have hS : va_S A s.heap s.heap [] := va_S.rf
  have hl : lv_has ls 2 [(0, .ref o)] := hl
  have inX12 : ∀ w ∈ u_ws RX12 TX12 38, w ∈ wsX12_goByAll := by decide +kernel
  refine lv_iconst (v := iI 0) hx hb dX12_goByAll_0 (by decide) ?_
  refine lv_istore_n (lv' := [(1, .int (iI 0)), (0, .ref o)]) hx hb dX12_goByAll_1 rfl hl (by decide) rfl (fun ls hl => ?_)
  have L2 : ∀ (fu : Nat) (i : Nat), ((i : Int) ≤ mi 1) → (mi 1 - ↑i).toNat < fu → ∀ (H : Heap) (locs : List Loc) (ls : Array Slot), va_P X.1 vwCl (zb [WMo o ma mi ml, WMp X ma (catTo (fun j => hourP (pv j)) pv i)]) H → va_D A (zb [WMo o ma mi ml, WMp X ma (catTo (fun j => hourP (pv j)) pv i)]) → va_S A s.heap H locs → lv_has ls 2 [(0, .ref o), (1, .int (iI (↑i)))] → W p l e { frames := 2, cells := 0, slots := 0, locals := 43 } s m ([.ref o] : List Value).toArray below meth c H locs 0 0 Q (F0 m 2 ls []) := by
    intro fu
    induction fu with
    | zero => intro i hi hm; exact absurd hm (Nat.not_lt_zero _)
    | succ fu ih2 =>
      intro i hi hm H locs ls hP hD hS hl
      refine lv_iload_n hx hb dX12_goByAll_2 rfl (lv_at hl 1 rfl) ?_
      refine lv_aload_n hx hb dX12_goByAll_3 rfl (lv_at hl 0 rfl) ?_
      refine va_get (ci := 12) (v := .int (iI (mi 1))) (C := RX12) (T := TX12) (N := 38) hx hb hts inX12 hown hK.1 hP 0 rfl rfl 1 (by decide) (hts (.fieldLink RX12 119 "SkimmedSonsModel" "pans" "I") (by decide +kernel)) (fun _ h9 => h9) rfl dX12_goByAll_4 ?_
      refine z_icmp_ge (tgt := 21) hx hb (by omega) dX12_goByAll_7 (by decide) (fun c_1 => ?_) (fun c_1 => ?_)
      · skip
        have hw : zb [WMo o ma mi ml, WMp X ma (catTo (fun j => hourP (pv j)) pv i)] = zb [WMo o ma mi ml, WMp X ma (wtS (mi 1) pv)] := by unfold wtS; rw [show i = (mi 1).toNat by omega]
        rw [hw] at hP hD
        exact z_vret hQ hx hb hr hlocks hS ⟨(Nat.le_of_ble_eq_true rfl), (Nat.le_of_ble_eq_true rfl)⟩ dX12_goByAll_21 () rfl trivial hP hD
      · skip
        refine lv_aload_n hx hb dX12_goByAll_10 rfl (lv_at hl 0 rfl) ?_
        refine lv_iload_n hx hb dX12_goByAll_11 rfl (lv_at hl 1 rfl) ?_
        have hPm := zp_perm hP (zblk (show List.Perm ([WMo o ma mi ml, WMp X ma (catTo (fun j => hourP (pv j)) pv i)] : List va_W) ([WMo o ma mi ml, WMp X ma (catTo (fun j => hourP (pv j)) pv i)] ++ []) from (zf1 _ 0 _ rfl).trans (((zf1 _ 0 _ rfl).trans ((List.Perm.refl _).cons _)).cons _)))
        have hDm := zd_perm hD (zblk (show List.Perm ([WMo o ma mi ml, WMp X ma (catTo (fun j => hourP (pv j)) pv i)] : List va_W) ([WMo o ma mi ml, WMp X ma (catTo (fun j => hourP (pv j)) pv i)] ++ []) from (zf1 _ 0 _ rfl).trans (((zf1 _ 0 _ rfl).trans ((List.Perm.refl _).cons _)).cons _)))
        refine z_callV (wr := zb []) (As := [.int (iI (↑i))]) (rest := []) ⟨hx, hb, hml, hown, hts⟩ (c_X12_goBy l X o ma mi ml (catTo (fun j => hourP (pv j)) pv i) (↑i : Int) (by show PanB (catTo _ _ i i); rw [catTo_at]; exact hpv i (by omega)) (by omega)) (cwV 1 hts gX12_goByAll_X12_goBy rfl rfl rfl (by decide +kernel) ⟨Nat.le_of_ble_eq_true rfl, Nat.le_of_ble_eq_true rfl⟩) rfl rfl hl.1 dX12_goByAll_12 rfl rfl (Nat.le_of_ble_eq_true rfl) ⟨(Nat.le_of_ble_eq_true rfl), (Nat.le_of_ble_eq_true rfl)⟩ hS hA hK hPm hDm (fun _ H locs _ hP hD hS => ?_)
        have hP := zp_perm hP ((zblk (show List.Perm ([WMo o ma mi ml, WMp X ma (va_up (catTo (fun j => hourP (pv j)) pv i) i (hourP ((catTo (fun j => hourP (pv j)) pv i) i)))] : List va_W) ([WMo o ma mi ml, WMp X ma (va_up (catTo (fun j => hourP (pv j)) pv i) i (hourP ((catTo (fun j => hourP (pv j)) pv i) i)))] ++ []) from (zf1 _ 0 _ rfl).trans (((zf1 _ 0 _ rfl).trans ((List.Perm.refl _).cons _)).cons _)))).symm
        have hD := zd_perm hD ((zblk (show List.Perm ([WMo o ma mi ml, WMp X ma (va_up (catTo (fun j => hourP (pv j)) pv i) i (hourP ((catTo (fun j => hourP (pv j)) pv i) i)))] : List va_W) ([WMo o ma mi ml, WMp X ma (va_up (catTo (fun j => hourP (pv j)) pv i) i (hourP ((catTo (fun j => hourP (pv j)) pv i) i)))] ++ []) from (zf1 _ 0 _ rfl).trans (((zf1 _ 0 _ rfl).trans ((List.Perm.refl _).cons _)).cons _)))).symm
        have hP : va_P X.1 vwCl (zb [WMo o ma mi ml, WMp X ma (va_up (catTo (fun j => hourP (pv j)) pv i) i (hourP ((catTo (fun j => hourP (pv j)) pv i) i)))]) H := hP
        have hD : va_D A (zb [WMo o ma mi ml, WMp X ma (va_up (catTo (fun j => hourP (pv j)) pv i) i (hourP ((catTo (fun j => hourP (pv j)) pv i) i)))]) := hD
        refine W.eq (g2 := F0 m 15 ls []) rfl ?_
        refine z_iinc (k := 1) (lv' := [(1, .int (iI ((↑i) + 1))), (0, .ref o)]) hx hb dX12_goByAll_15 hl rfl (by decide) rfl (fun ls hl => ?_)
        refine lv_goto (tgt := 2) hx hb dX12_goByAll_18 (by decide) ?_
        have hw_2 : zb [WMo o ma mi ml, WMp X ma (va_up (catTo (fun j => hourP (pv j)) pv i) i (hourP ((catTo (fun j => hourP (pv j)) pv i) i)))] = zb [WMo o ma mi ml, WMp X ma (catTo (fun j => hourP (pv j)) pv (i + 1))] := by rw [catTo_at, catTo_step (fun j => hourP (pv j)) pv i]
        rw [hw_2] at hP hD
        exact ih2  (i + 1) (by omega) (by omega) _ _ _ hP hD hS (lv_sub hl [1, 0] rfl)
  have hw_3 : zb [WMo o ma mi ml, WMp X ma pv] = zb [WMo o ma mi ml, WMp X ma (catTo (fun j => hourP (pv j)) pv 0)] := by rw [catTo_0]
  rw [hw_3] at hP hD
  exact L2 ((mi 1 - ↑(0 : Nat)).toNat + 1) 0 (by omega) (by omega) _ _ _ hP hD hS (lv_sub hl [1, 0] rfl)
set_option maxHeartbeats 1000000 in
set_option maxRecDepth 100000 in
theorem c_X12_take (l : Launch) (X : zX) (o : Nat) (ma : Nat → Nat) (mi : Nat → Int) (ml : Nat → Int) (pv : Nat → Nat → Int) (z : Int) (x : Int) (hpz : PanB (pv z.toNat)) (hz3 : 0 ≤ z ∧ z < 3) (hx1 : x = topP (pv z.toNat)) (hx2 : ¬ x = -1) : zF l X yX12_take wsX12_take 0 0 [.ref o, .int (iI z), .int (iI x)] (zb [WMo o ma mi ml, WMp X ma pv]) none (zb [WMo o ma mi ml, WMp X ma (va_up pv z.toNat (takeP (pv z.toNat)))]) := by
  refine z_enter (cc := cX12_take) (maxL := 3) (ret := none) (by decide) rfl (Nat.le_of_ble_eq_true rfl) ?_
  intro p e s m below meth c A ls Q hQ hE hl hP hD
  obtain ⟨hx, hb, hr, hml, hown, hts, hlocks, hnm, hA, hK⟩ := hE
  have hown : s.vm.findClass RX12 = some m.cls := hown
  have hS : va_S A s.heap s.heap [] := va_S.rf
  have hl : lv_has ls 3 [(0, .ref o), (1, .int (iI z)), (2, .int (iI x))] := hl
  have inX12 : ∀ w ∈ u_ws RX12 TX12 38, w ∈ wsX12_take := by decide +kernel
  obtain ⟨⟨h00, h01⟩, ⟨h10, h11⟩, h2, h3, h4, h5, h6⟩ := id hpz
  have htp := topP_in (pv z.toNat)
  refine lv_aload_n hx hb dX12_take_0 rfl (lv_at hl 0 rfl) ?_
  refine va_get (ci := 12) (v := .ref (ma 6)) (C := RX12) (T := TX12) (N := 38) hx hb hts inX12 hown hK.1 hP 0 rfl rfl 6 (by decide) (hts (.fieldLink RX12 19 "SkimmedSonsModel" "filmOf" "[I") (by decide +kernel)) (fun _ h9 => h9) rfl dX12_take_1 ?_
  refine lv_iload_n hx hb dX12_take_4 rfl (lv_at hl 1 rfl) ?_
  refine lv_dup2_11 hx hb dX12_take_5 rfl rfl ?_
  refine z_iald hx hb hK.1 hP 5 rfl (by omega) dX12_take_6 ?_
  refine W.eq (g2 := F0 m 7 ls [.int (iI (pv z.toNat 4)), .int (iI z), .ref (ma 6)]) rfl ?_
  refine lv_iload_n hx hb dX12_take_7 rfl (lv_at hl 2 rfl) ?_
  refine lv_iconst (v := iI 2) hx hb dX12_take_8 (by decide) ?_
  refine z_icmp_ne (tgt := 16) hx hb (by omega) dX12_take_9 (by decide) (fun c_1 => ?_) (fun c_1 => ?_)
  · skip
    refine lv_iconst (v := iI 0) hx hb dX12_take_16 (by decide) ?_
    refine z_isub hx hb dX12_take_17 ?_
    refine z_topi (fun z_2 ez_2 => ?_)
    refine z_iast hx hb hK.1 hP hD hS 5 rfl (by omega) dX12_take_18 (fun H locs hP hD hS => ?_)
    have hP : va_P X.1 vwCl (zb [WMo o ma mi ml, WMx X ma (fun j => pv j 0) (fun j => pv j 1) (fun j => pv j 2) (fun j => pv j 3) (updZ (fun j => pv j 4) z.toNat z_2) (fun j => pv j 5)]) H := hP
    have hD : va_D A (zb [WMo o ma mi ml, WMx X ma (fun j => pv j 0) (fun j => pv j 1) (fun j => pv j 2) (fun j => pv j 3) (updZ (fun j => pv j 4) z.toNat z_2) (fun j => pv j 5)]) := hD
    refine lv_aload_n hx hb dX12_take_19 rfl (lv_at hl 0 rfl) ?_
    refine va_get (ci := 12) (v := .ref (ma 5)) (C := RX12) (T := TX12) (N := 38) hx hb hts inX12 hown hK.1 hP 0 rfl rfl 5 (by decide) (hts (.fieldLink RX12 16 "SkimmedSonsModel" "creamOf" "[I") (by decide +kernel)) (fun _ h9 => h9) rfl dX12_take_20 ?_
    refine lv_iload_n hx hb dX12_take_23 rfl (lv_at hl 1 rfl) ?_
    refine lv_dup2_11 hx hb dX12_take_24 rfl rfl ?_
    refine z_iald hx hb hK.1 hP 4 rfl (by omega) dX12_take_25 ?_
    refine W.eq (g2 := F0 m 26 ls [.int (iI (pv z.toNat 3)), .int (iI z), .ref (ma 5)]) rfl ?_
    refine lv_iload_n hx hb dX12_take_26 rfl (lv_at hl 2 rfl) ?_
    refine lv_iconst (v := iI 1) hx hb dX12_take_27 (by decide) ?_
    refine z_icmp_ne (tgt := 35) hx hb (by omega) dX12_take_28 (by decide) (fun c_3 => ?_) (fun c_3 => ?_)
    · skip
      refine lv_iconst (v := iI 0) hx hb dX12_take_35 (by decide) ?_
      refine z_isub hx hb dX12_take_36 ?_
      refine z_topi (fun z_4 ez_4 => ?_)
      refine z_iast hx hb hK.1 hP hD hS 4 rfl (by omega) dX12_take_37 (fun H locs hP hD hS => ?_)
      have hP : va_P X.1 vwCl (zb [WMo o ma mi ml, WMx X ma (fun j => pv j 0) (fun j => pv j 1) (fun j => pv j 2) (updZ (fun j => pv j 3) z.toNat z_4) (updZ (fun j => pv j 4) z.toNat z_2) (fun j => pv j 5)]) H := hP
      have hD : va_D A (zb [WMo o ma mi ml, WMx X ma (fun j => pv j 0) (fun j => pv j 1) (fun j => pv j 2) (updZ (fun j => pv j 3) z.toNat z_4) (updZ (fun j => pv j 4) z.toNat z_2) (fun j => pv j 5)]) := hD
      refine lv_aload_n hx hb dX12_take_38 rfl (lv_at hl 0 rfl) ?_
      refine va_get (ci := 12) (v := .ref (ma 7)) (C := RX12) (T := TX12) (N := 38) hx hb hts inX12 hown hK.1 hP 0 rfl rfl 7 (by decide) (hts (.fieldLink RX12 22 "SkimmedSonsModel" "blueOf" "[I") (by decide +kernel)) (fun _ h9 => h9) rfl dX12_take_39 ?_
      refine lv_iload_n hx hb dX12_take_42 rfl (lv_at hl 1 rfl) ?_
      refine lv_dup2_11 hx hb dX12_take_43 rfl rfl ?_
      refine z_iald hx hb hK.1 hP 6 rfl (by omega) dX12_take_44 ?_
      refine W.eq (g2 := F0 m 45 ls [.int (iI (pv z.toNat 5)), .int (iI z), .ref (ma 7)]) rfl ?_
      refine lv_iload_n hx hb dX12_take_45 rfl (lv_at hl 2 rfl) ?_
      refine lv_iconst (v := iI 3) hx hb dX12_take_46 (by decide) ?_
      refine z_icmp_ne (tgt := 54) hx hb (by omega) dX12_take_47 (by decide) (fun c_5 => ?_) (fun c_5 => ?_)
      · skip
        refine lv_iconst (v := iI 0) hx hb dX12_take_54 (by decide) ?_
        refine z_isub hx hb dX12_take_55 ?_
        refine z_topi (fun z_6 ez_6 => ?_)
        refine z_iast hx hb hK.1 hP hD hS 6 rfl (by omega) dX12_take_56 (fun H locs hP hD hS => ?_)
        have hP : va_P X.1 vwCl (zb [WMo o ma mi ml, WMx X ma (fun j => pv j 0) (fun j => pv j 1) (fun j => pv j 2) (updZ (fun j => pv j 3) z.toNat z_4) (updZ (fun j => pv j 4) z.toNat z_2) (updZ (fun j => pv j 5) z.toNat z_6)]) H := hP
        have hD : va_D A (zb [WMo o ma mi ml, WMx X ma (fun j => pv j 0) (fun j => pv j 1) (fun j => pv j 2) (updZ (fun j => pv j 3) z.toNat z_4) (updZ (fun j => pv j 4) z.toNat z_2) (updZ (fun j => pv j 5) z.toNat z_6)]) := hD
        refine lv_aload_n hx hb dX12_take_57 rfl (lv_at hl 0 rfl) ?_
        refine va_get (ci := 12) (v := .ref (ma 8)) (C := RX12) (T := TX12) (N := 38) hx hb hts inX12 hown hK.1 hP 0 rfl rfl 8 (by decide) (hts (.fieldLink RX12 25 "SkimmedSonsModel" "stillOf" "[I") (by decide +kernel)) (fun _ h9 => h9) rfl dX12_take_58 ?_
        refine lv_iload_n hx hb dX12_take_61 rfl (lv_at hl 1 rfl) ?_
        refine lv_iconst (v := iI 0) hx hb dX12_take_62 (by decide) ?_
        refine z_iast hx hb hK.1 hP hD hS 2 rfl (by omega) dX12_take_63 (fun H locs hP hD hS => ?_)
        have hP : va_P X.1 vwCl (zb [WMo o ma mi ml, WMx X ma (fun j => pv j 0) (updZ (fun j => pv j 1) z.toNat 0) (fun j => pv j 2) (updZ (fun j => pv j 3) z.toNat z_4) (updZ (fun j => pv j 4) z.toNat z_2) (updZ (fun j => pv j 5) z.toNat z_6)]) H := hP
        have hD : va_D A (zb [WMo o ma mi ml, WMx X ma (fun j => pv j 0) (updZ (fun j => pv j 1) z.toNat 0) (fun j => pv j 2) (updZ (fun j => pv j 3) z.toNat z_4) (updZ (fun j => pv j 4) z.toNat z_2) (updZ (fun j => pv j 5) z.toNat z_6)]) := hD
        have hw : zb [WMo o ma mi ml, WMx X ma (fun j => pv j 0) (updZ (fun j => pv j 1) z.toNat 0) (fun j => pv j 2) (updZ (fun j => pv j 3) z.toNat z_4) (updZ (fun j => pv j 4) z.toNat z_2) (updZ (fun j => pv j 5) z.toNat z_6)] = zb [WMo o ma mi ml, WMp X ma (va_up pv z.toNat (takeP (pv z.toNat)))] := by rw [WMx_up (pv := pv) (p := z.toNat) (v := takeP (pv z.toNat)) (fun j hj => by simp [updZ, hj]) (by refine ⟨?_, ?_, ?_, ?_, ?_, ?_⟩ <;> (try simp only [updZ_same, takeP, mkP_0, mkP_1, mkP_2, mkP_3, mkP_4, mkP_5]) <;> omega)]
        rw [hw] at hP hD
        exact z_vret hQ hx hb hr hlocks hS ⟨(Nat.le_of_ble_eq_true rfl), (Nat.le_of_ble_eq_true rfl)⟩ dX12_take_64 () rfl trivial hP hD
      · skip
        refine lv_iconst (v := iI 1) hx hb dX12_take_50 (by decide) ?_
        refine lv_goto (tgt := 55) hx hb dX12_take_51 (by decide) ?_
        refine z_isub hx hb dX12_take_55 ?_
        refine z_topi (fun z_7 ez_7 => ?_)
        refine z_iast hx hb hK.1 hP hD hS 6 rfl (by omega) dX12_take_56 (fun H locs hP hD hS => ?_)
        have hP : va_P X.1 vwCl (zb [WMo o ma mi ml, WMx X ma (fun j => pv j 0) (fun j => pv j 1) (fun j => pv j 2) (updZ (fun j => pv j 3) z.toNat z_4) (updZ (fun j => pv j 4) z.toNat z_2) (updZ (fun j => pv j 5) z.toNat z_7)]) H := hP
        have hD : va_D A (zb [WMo o ma mi ml, WMx X ma (fun j => pv j 0) (fun j => pv j 1) (fun j => pv j 2) (updZ (fun j => pv j 3) z.toNat z_4) (updZ (fun j => pv j 4) z.toNat z_2) (updZ (fun j => pv j 5) z.toNat z_7)]) := hD
        refine lv_aload_n hx hb dX12_take_57 rfl (lv_at hl 0 rfl) ?_
        refine va_get (ci := 12) (v := .ref (ma 8)) (C := RX12) (T := TX12) (N := 38) hx hb hts inX12 hown hK.1 hP 0 rfl rfl 8 (by decide) (hts (.fieldLink RX12 25 "SkimmedSonsModel" "stillOf" "[I") (by decide +kernel)) (fun _ h9 => h9) rfl dX12_take_58 ?_
        refine lv_iload_n hx hb dX12_take_61 rfl (lv_at hl 1 rfl) ?_
        refine lv_iconst (v := iI 0) hx hb dX12_take_62 (by decide) ?_
        refine z_iast hx hb hK.1 hP hD hS 2 rfl (by omega) dX12_take_63 (fun H locs hP hD hS => ?_)
        have hP : va_P X.1 vwCl (zb [WMo o ma mi ml, WMx X ma (fun j => pv j 0) (updZ (fun j => pv j 1) z.toNat 0) (fun j => pv j 2) (updZ (fun j => pv j 3) z.toNat z_4) (updZ (fun j => pv j 4) z.toNat z_2) (updZ (fun j => pv j 5) z.toNat z_7)]) H := hP
        have hD : va_D A (zb [WMo o ma mi ml, WMx X ma (fun j => pv j 0) (updZ (fun j => pv j 1) z.toNat 0) (fun j => pv j 2) (updZ (fun j => pv j 3) z.toNat z_4) (updZ (fun j => pv j 4) z.toNat z_2) (updZ (fun j => pv j 5) z.toNat z_7)]) := hD
        have hw : zb [WMo o ma mi ml, WMx X ma (fun j => pv j 0) (updZ (fun j => pv j 1) z.toNat 0) (fun j => pv j 2) (updZ (fun j => pv j 3) z.toNat z_4) (updZ (fun j => pv j 4) z.toNat z_2) (updZ (fun j => pv j 5) z.toNat z_7)] = zb [WMo o ma mi ml, WMp X ma (va_up pv z.toNat (takeP (pv z.toNat)))] := by rw [WMx_up (pv := pv) (p := z.toNat) (v := takeP (pv z.toNat)) (fun j hj => by simp [updZ, hj]) (by refine ⟨?_, ?_, ?_, ?_, ?_, ?_⟩ <;> (try simp only [updZ_same, takeP, mkP_0, mkP_1, mkP_2, mkP_3, mkP_4, mkP_5]) <;> omega)]
        rw [hw] at hP hD
        exact z_vret hQ hx hb hr hlocks hS ⟨(Nat.le_of_ble_eq_true rfl), (Nat.le_of_ble_eq_true rfl)⟩ dX12_take_64 () rfl trivial hP hD
    · skip
      refine lv_iconst (v := iI 1) hx hb dX12_take_31 (by decide) ?_
      refine lv_goto (tgt := 36) hx hb dX12_take_32 (by decide) ?_
      refine z_isub hx hb dX12_take_36 ?_
      refine z_topi (fun z_8 ez_8 => ?_)
      refine z_iast hx hb hK.1 hP hD hS 4 rfl (by omega) dX12_take_37 (fun H locs hP hD hS => ?_)
      have hP : va_P X.1 vwCl (zb [WMo o ma mi ml, WMx X ma (fun j => pv j 0) (fun j => pv j 1) (fun j => pv j 2) (updZ (fun j => pv j 3) z.toNat z_8) (updZ (fun j => pv j 4) z.toNat z_2) (fun j => pv j 5)]) H := hP
      have hD : va_D A (zb [WMo o ma mi ml, WMx X ma (fun j => pv j 0) (fun j => pv j 1) (fun j => pv j 2) (updZ (fun j => pv j 3) z.toNat z_8) (updZ (fun j => pv j 4) z.toNat z_2) (fun j => pv j 5)]) := hD
      refine lv_aload_n hx hb dX12_take_38 rfl (lv_at hl 0 rfl) ?_
      refine va_get (ci := 12) (v := .ref (ma 7)) (C := RX12) (T := TX12) (N := 38) hx hb hts inX12 hown hK.1 hP 0 rfl rfl 7 (by decide) (hts (.fieldLink RX12 22 "SkimmedSonsModel" "blueOf" "[I") (by decide +kernel)) (fun _ h9 => h9) rfl dX12_take_39 ?_
      refine lv_iload_n hx hb dX12_take_42 rfl (lv_at hl 1 rfl) ?_
      refine lv_dup2_11 hx hb dX12_take_43 rfl rfl ?_
      refine z_iald hx hb hK.1 hP 6 rfl (by omega) dX12_take_44 ?_
      refine W.eq (g2 := F0 m 45 ls [.int (iI (pv z.toNat 5)), .int (iI z), .ref (ma 7)]) rfl ?_
      refine lv_iload_n hx hb dX12_take_45 rfl (lv_at hl 2 rfl) ?_
      refine lv_iconst (v := iI 3) hx hb dX12_take_46 (by decide) ?_
      refine z_icmp_ne (tgt := 54) hx hb (by omega) dX12_take_47 (by decide) (fun c_9 => ?_) (fun c_9 => ?_)
      · skip
        refine lv_iconst (v := iI 0) hx hb dX12_take_54 (by decide) ?_
        refine z_isub hx hb dX12_take_55 ?_
        refine z_topi (fun z_10 ez_10 => ?_)
        refine z_iast hx hb hK.1 hP hD hS 6 rfl (by omega) dX12_take_56 (fun H locs hP hD hS => ?_)
        have hP : va_P X.1 vwCl (zb [WMo o ma mi ml, WMx X ma (fun j => pv j 0) (fun j => pv j 1) (fun j => pv j 2) (updZ (fun j => pv j 3) z.toNat z_8) (updZ (fun j => pv j 4) z.toNat z_2) (updZ (fun j => pv j 5) z.toNat z_10)]) H := hP
        have hD : va_D A (zb [WMo o ma mi ml, WMx X ma (fun j => pv j 0) (fun j => pv j 1) (fun j => pv j 2) (updZ (fun j => pv j 3) z.toNat z_8) (updZ (fun j => pv j 4) z.toNat z_2) (updZ (fun j => pv j 5) z.toNat z_10)]) := hD
        refine lv_aload_n hx hb dX12_take_57 rfl (lv_at hl 0 rfl) ?_
        refine va_get (ci := 12) (v := .ref (ma 8)) (C := RX12) (T := TX12) (N := 38) hx hb hts inX12 hown hK.1 hP 0 rfl rfl 8 (by decide) (hts (.fieldLink RX12 25 "SkimmedSonsModel" "stillOf" "[I") (by decide +kernel)) (fun _ h9 => h9) rfl dX12_take_58 ?_
        refine lv_iload_n hx hb dX12_take_61 rfl (lv_at hl 1 rfl) ?_
        refine lv_iconst (v := iI 0) hx hb dX12_take_62 (by decide) ?_
        refine z_iast hx hb hK.1 hP hD hS 2 rfl (by omega) dX12_take_63 (fun H locs hP hD hS => ?_)
        have hP : va_P X.1 vwCl (zb [WMo o ma mi ml, WMx X ma (fun j => pv j 0) (updZ (fun j => pv j 1) z.toNat 0) (fun j => pv j 2) (updZ (fun j => pv j 3) z.toNat z_8) (updZ (fun j => pv j 4) z.toNat z_2) (updZ (fun j => pv j 5) z.toNat z_10)]) H := hP
        have hD : va_D A (zb [WMo o ma mi ml, WMx X ma (fun j => pv j 0) (updZ (fun j => pv j 1) z.toNat 0) (fun j => pv j 2) (updZ (fun j => pv j 3) z.toNat z_8) (updZ (fun j => pv j 4) z.toNat z_2) (updZ (fun j => pv j 5) z.toNat z_10)]) := hD
        have hw : zb [WMo o ma mi ml, WMx X ma (fun j => pv j 0) (updZ (fun j => pv j 1) z.toNat 0) (fun j => pv j 2) (updZ (fun j => pv j 3) z.toNat z_8) (updZ (fun j => pv j 4) z.toNat z_2) (updZ (fun j => pv j 5) z.toNat z_10)] = zb [WMo o ma mi ml, WMp X ma (va_up pv z.toNat (takeP (pv z.toNat)))] := by rw [WMx_up (pv := pv) (p := z.toNat) (v := takeP (pv z.toNat)) (fun j hj => by simp [updZ, hj]) (by refine ⟨?_, ?_, ?_, ?_, ?_, ?_⟩ <;> (try simp only [updZ_same, takeP, mkP_0, mkP_1, mkP_2, mkP_3, mkP_4, mkP_5]) <;> omega)]
        rw [hw] at hP hD
        exact z_vret hQ hx hb hr hlocks hS ⟨(Nat.le_of_ble_eq_true rfl), (Nat.le_of_ble_eq_true rfl)⟩ dX12_take_64 () rfl trivial hP hD
      · skip
        refine lv_iconst (v := iI 1) hx hb dX12_take_50 (by decide) ?_
        refine lv_goto (tgt := 55) hx hb dX12_take_51 (by decide) ?_
        refine z_isub hx hb dX12_take_55 ?_
        refine z_topi (fun z_11 ez_11 => ?_)
        refine z_iast hx hb hK.1 hP hD hS 6 rfl (by omega) dX12_take_56 (fun H locs hP hD hS => ?_)
        have hP : va_P X.1 vwCl (zb [WMo o ma mi ml, WMx X ma (fun j => pv j 0) (fun j => pv j 1) (fun j => pv j 2) (updZ (fun j => pv j 3) z.toNat z_8) (updZ (fun j => pv j 4) z.toNat z_2) (updZ (fun j => pv j 5) z.toNat z_11)]) H := hP
        have hD : va_D A (zb [WMo o ma mi ml, WMx X ma (fun j => pv j 0) (fun j => pv j 1) (fun j => pv j 2) (updZ (fun j => pv j 3) z.toNat z_8) (updZ (fun j => pv j 4) z.toNat z_2) (updZ (fun j => pv j 5) z.toNat z_11)]) := hD
        refine lv_aload_n hx hb dX12_take_57 rfl (lv_at hl 0 rfl) ?_
        refine va_get (ci := 12) (v := .ref (ma 8)) (C := RX12) (T := TX12) (N := 38) hx hb hts inX12 hown hK.1 hP 0 rfl rfl 8 (by decide) (hts (.fieldLink RX12 25 "SkimmedSonsModel" "stillOf" "[I") (by decide +kernel)) (fun _ h9 => h9) rfl dX12_take_58 ?_
        refine lv_iload_n hx hb dX12_take_61 rfl (lv_at hl 1 rfl) ?_
        refine lv_iconst (v := iI 0) hx hb dX12_take_62 (by decide) ?_
        refine z_iast hx hb hK.1 hP hD hS 2 rfl (by omega) dX12_take_63 (fun H locs hP hD hS => ?_)
        have hP : va_P X.1 vwCl (zb [WMo o ma mi ml, WMx X ma (fun j => pv j 0) (updZ (fun j => pv j 1) z.toNat 0) (fun j => pv j 2) (updZ (fun j => pv j 3) z.toNat z_8) (updZ (fun j => pv j 4) z.toNat z_2) (updZ (fun j => pv j 5) z.toNat z_11)]) H := hP
        have hD : va_D A (zb [WMo o ma mi ml, WMx X ma (fun j => pv j 0) (updZ (fun j => pv j 1) z.toNat 0) (fun j => pv j 2) (updZ (fun j => pv j 3) z.toNat z_8) (updZ (fun j => pv j 4) z.toNat z_2) (updZ (fun j => pv j 5) z.toNat z_11)]) := hD
        have hw : zb [WMo o ma mi ml, WMx X ma (fun j => pv j 0) (updZ (fun j => pv j 1) z.toNat 0) (fun j => pv j 2) (updZ (fun j => pv j 3) z.toNat z_8) (updZ (fun j => pv j 4) z.toNat z_2) (updZ (fun j => pv j 5) z.toNat z_11)] = zb [WMo o ma mi ml, WMp X ma (va_up pv z.toNat (takeP (pv z.toNat)))] := by rw [WMx_up (pv := pv) (p := z.toNat) (v := takeP (pv z.toNat)) (fun j hj => by simp [updZ, hj]) (by refine ⟨?_, ?_, ?_, ?_, ?_, ?_⟩ <;> (try simp only [updZ_same, takeP, mkP_0, mkP_1, mkP_2, mkP_3, mkP_4, mkP_5]) <;> omega)]
        rw [hw] at hP hD
        exact z_vret hQ hx hb hr hlocks hS ⟨(Nat.le_of_ble_eq_true rfl), (Nat.le_of_ble_eq_true rfl)⟩ dX12_take_64 () rfl trivial hP hD
  · skip
    refine lv_iconst (v := iI 1) hx hb dX12_take_12 (by decide) ?_
    refine lv_goto (tgt := 17) hx hb dX12_take_13 (by decide) ?_
    refine z_isub hx hb dX12_take_17 ?_
    refine z_topi (fun z_12 ez_12 => ?_)
    refine z_iast hx hb hK.1 hP hD hS 5 rfl (by omega) dX12_take_18 (fun H locs hP hD hS => ?_)
    have hP : va_P X.1 vwCl (zb [WMo o ma mi ml, WMx X ma (fun j => pv j 0) (fun j => pv j 1) (fun j => pv j 2) (fun j => pv j 3) (updZ (fun j => pv j 4) z.toNat z_12) (fun j => pv j 5)]) H := hP
    have hD : va_D A (zb [WMo o ma mi ml, WMx X ma (fun j => pv j 0) (fun j => pv j 1) (fun j => pv j 2) (fun j => pv j 3) (updZ (fun j => pv j 4) z.toNat z_12) (fun j => pv j 5)]) := hD
    refine lv_aload_n hx hb dX12_take_19 rfl (lv_at hl 0 rfl) ?_
    refine va_get (ci := 12) (v := .ref (ma 5)) (C := RX12) (T := TX12) (N := 38) hx hb hts inX12 hown hK.1 hP 0 rfl rfl 5 (by decide) (hts (.fieldLink RX12 16 "SkimmedSonsModel" "creamOf" "[I") (by decide +kernel)) (fun _ h9 => h9) rfl dX12_take_20 ?_
    refine lv_iload_n hx hb dX12_take_23 rfl (lv_at hl 1 rfl) ?_
    refine lv_dup2_11 hx hb dX12_take_24 rfl rfl ?_
    refine z_iald hx hb hK.1 hP 4 rfl (by omega) dX12_take_25 ?_
    refine W.eq (g2 := F0 m 26 ls [.int (iI (pv z.toNat 3)), .int (iI z), .ref (ma 5)]) rfl ?_
    refine lv_iload_n hx hb dX12_take_26 rfl (lv_at hl 2 rfl) ?_
    refine lv_iconst (v := iI 1) hx hb dX12_take_27 (by decide) ?_
    refine z_icmp_ne (tgt := 35) hx hb (by omega) dX12_take_28 (by decide) (fun c_13 => ?_) (fun c_13 => ?_)
    · skip
      refine lv_iconst (v := iI 0) hx hb dX12_take_35 (by decide) ?_
      refine z_isub hx hb dX12_take_36 ?_
      refine z_topi (fun z_14 ez_14 => ?_)
      refine z_iast hx hb hK.1 hP hD hS 4 rfl (by omega) dX12_take_37 (fun H locs hP hD hS => ?_)
      have hP : va_P X.1 vwCl (zb [WMo o ma mi ml, WMx X ma (fun j => pv j 0) (fun j => pv j 1) (fun j => pv j 2) (updZ (fun j => pv j 3) z.toNat z_14) (updZ (fun j => pv j 4) z.toNat z_12) (fun j => pv j 5)]) H := hP
      have hD : va_D A (zb [WMo o ma mi ml, WMx X ma (fun j => pv j 0) (fun j => pv j 1) (fun j => pv j 2) (updZ (fun j => pv j 3) z.toNat z_14) (updZ (fun j => pv j 4) z.toNat z_12) (fun j => pv j 5)]) := hD
      refine lv_aload_n hx hb dX12_take_38 rfl (lv_at hl 0 rfl) ?_
      refine va_get (ci := 12) (v := .ref (ma 7)) (C := RX12) (T := TX12) (N := 38) hx hb hts inX12 hown hK.1 hP 0 rfl rfl 7 (by decide) (hts (.fieldLink RX12 22 "SkimmedSonsModel" "blueOf" "[I") (by decide +kernel)) (fun _ h9 => h9) rfl dX12_take_39 ?_
      refine lv_iload_n hx hb dX12_take_42 rfl (lv_at hl 1 rfl) ?_
      refine lv_dup2_11 hx hb dX12_take_43 rfl rfl ?_
      refine z_iald hx hb hK.1 hP 6 rfl (by omega) dX12_take_44 ?_
      refine W.eq (g2 := F0 m 45 ls [.int (iI (pv z.toNat 5)), .int (iI z), .ref (ma 7)]) rfl ?_
      refine lv_iload_n hx hb dX12_take_45 rfl (lv_at hl 2 rfl) ?_
      refine lv_iconst (v := iI 3) hx hb dX12_take_46 (by decide) ?_
      refine z_icmp_ne (tgt := 54) hx hb (by omega) dX12_take_47 (by decide) (fun c_15 => ?_) (fun c_15 => ?_)
      · skip
        refine lv_iconst (v := iI 0) hx hb dX12_take_54 (by decide) ?_
        refine z_isub hx hb dX12_take_55 ?_
        refine z_topi (fun z_16 ez_16 => ?_)
        refine z_iast hx hb hK.1 hP hD hS 6 rfl (by omega) dX12_take_56 (fun H locs hP hD hS => ?_)
        have hP : va_P X.1 vwCl (zb [WMo o ma mi ml, WMx X ma (fun j => pv j 0) (fun j => pv j 1) (fun j => pv j 2) (updZ (fun j => pv j 3) z.toNat z_14) (updZ (fun j => pv j 4) z.toNat z_12) (updZ (fun j => pv j 5) z.toNat z_16)]) H := hP
        have hD : va_D A (zb [WMo o ma mi ml, WMx X ma (fun j => pv j 0) (fun j => pv j 1) (fun j => pv j 2) (updZ (fun j => pv j 3) z.toNat z_14) (updZ (fun j => pv j 4) z.toNat z_12) (updZ (fun j => pv j 5) z.toNat z_16)]) := hD
        refine lv_aload_n hx hb dX12_take_57 rfl (lv_at hl 0 rfl) ?_
        refine va_get (ci := 12) (v := .ref (ma 8)) (C := RX12) (T := TX12) (N := 38) hx hb hts inX12 hown hK.1 hP 0 rfl rfl 8 (by decide) (hts (.fieldLink RX12 25 "SkimmedSonsModel" "stillOf" "[I") (by decide +kernel)) (fun _ h9 => h9) rfl dX12_take_58 ?_
        refine lv_iload_n hx hb dX12_take_61 rfl (lv_at hl 1 rfl) ?_
        refine lv_iconst (v := iI 0) hx hb dX12_take_62 (by decide) ?_
        refine z_iast hx hb hK.1 hP hD hS 2 rfl (by omega) dX12_take_63 (fun H locs hP hD hS => ?_)
        have hP : va_P X.1 vwCl (zb [WMo o ma mi ml, WMx X ma (fun j => pv j 0) (updZ (fun j => pv j 1) z.toNat 0) (fun j => pv j 2) (updZ (fun j => pv j 3) z.toNat z_14) (updZ (fun j => pv j 4) z.toNat z_12) (updZ (fun j => pv j 5) z.toNat z_16)]) H := hP
        have hD : va_D A (zb [WMo o ma mi ml, WMx X ma (fun j => pv j 0) (updZ (fun j => pv j 1) z.toNat 0) (fun j => pv j 2) (updZ (fun j => pv j 3) z.toNat z_14) (updZ (fun j => pv j 4) z.toNat z_12) (updZ (fun j => pv j 5) z.toNat z_16)]) := hD
        have hw : zb [WMo o ma mi ml, WMx X ma (fun j => pv j 0) (updZ (fun j => pv j 1) z.toNat 0) (fun j => pv j 2) (updZ (fun j => pv j 3) z.toNat z_14) (updZ (fun j => pv j 4) z.toNat z_12) (updZ (fun j => pv j 5) z.toNat z_16)] = zb [WMo o ma mi ml, WMp X ma (va_up pv z.toNat (takeP (pv z.toNat)))] := by rw [WMx_up (pv := pv) (p := z.toNat) (v := takeP (pv z.toNat)) (fun j hj => by simp [updZ, hj]) (by refine ⟨?_, ?_, ?_, ?_, ?_, ?_⟩ <;> (try simp only [updZ_same, takeP, mkP_0, mkP_1, mkP_2, mkP_3, mkP_4, mkP_5]) <;> omega)]
        rw [hw] at hP hD
        exact z_vret hQ hx hb hr hlocks hS ⟨(Nat.le_of_ble_eq_true rfl), (Nat.le_of_ble_eq_true rfl)⟩ dX12_take_64 () rfl trivial hP hD
      · skip
        refine lv_iconst (v := iI 1) hx hb dX12_take_50 (by decide) ?_
        refine lv_goto (tgt := 55) hx hb dX12_take_51 (by decide) ?_
        refine z_isub hx hb dX12_take_55 ?_
        refine z_topi (fun z_17 ez_17 => ?_)
        refine z_iast hx hb hK.1 hP hD hS 6 rfl (by omega) dX12_take_56 (fun H locs hP hD hS => ?_)
        have hP : va_P X.1 vwCl (zb [WMo o ma mi ml, WMx X ma (fun j => pv j 0) (fun j => pv j 1) (fun j => pv j 2) (updZ (fun j => pv j 3) z.toNat z_14) (updZ (fun j => pv j 4) z.toNat z_12) (updZ (fun j => pv j 5) z.toNat z_17)]) H := hP
        have hD : va_D A (zb [WMo o ma mi ml, WMx X ma (fun j => pv j 0) (fun j => pv j 1) (fun j => pv j 2) (updZ (fun j => pv j 3) z.toNat z_14) (updZ (fun j => pv j 4) z.toNat z_12) (updZ (fun j => pv j 5) z.toNat z_17)]) := hD
        refine lv_aload_n hx hb dX12_take_57 rfl (lv_at hl 0 rfl) ?_
        refine va_get (ci := 12) (v := .ref (ma 8)) (C := RX12) (T := TX12) (N := 38) hx hb hts inX12 hown hK.1 hP 0 rfl rfl 8 (by decide) (hts (.fieldLink RX12 25 "SkimmedSonsModel" "stillOf" "[I") (by decide +kernel)) (fun _ h9 => h9) rfl dX12_take_58 ?_
        refine lv_iload_n hx hb dX12_take_61 rfl (lv_at hl 1 rfl) ?_
        refine lv_iconst (v := iI 0) hx hb dX12_take_62 (by decide) ?_
        refine z_iast hx hb hK.1 hP hD hS 2 rfl (by omega) dX12_take_63 (fun H locs hP hD hS => ?_)
        have hP : va_P X.1 vwCl (zb [WMo o ma mi ml, WMx X ma (fun j => pv j 0) (updZ (fun j => pv j 1) z.toNat 0) (fun j => pv j 2) (updZ (fun j => pv j 3) z.toNat z_14) (updZ (fun j => pv j 4) z.toNat z_12) (updZ (fun j => pv j 5) z.toNat z_17)]) H := hP
        have hD : va_D A (zb [WMo o ma mi ml, WMx X ma (fun j => pv j 0) (updZ (fun j => pv j 1) z.toNat 0) (fun j => pv j 2) (updZ (fun j => pv j 3) z.toNat z_14) (updZ (fun j => pv j 4) z.toNat z_12) (updZ (fun j => pv j 5) z.toNat z_17)]) := hD
        have hw : zb [WMo o ma mi ml, WMx X ma (fun j => pv j 0) (updZ (fun j => pv j 1) z.toNat 0) (fun j => pv j 2) (updZ (fun j => pv j 3) z.toNat z_14) (updZ (fun j => pv j 4) z.toNat z_12) (updZ (fun j => pv j 5) z.toNat z_17)] = zb [WMo o ma mi ml, WMp X ma (va_up pv z.toNat (takeP (pv z.toNat)))] := by rw [WMx_up (pv := pv) (p := z.toNat) (v := takeP (pv z.toNat)) (fun j hj => by simp [updZ, hj]) (by refine ⟨?_, ?_, ?_, ?_, ?_, ?_⟩ <;> (try simp only [updZ_same, takeP, mkP_0, mkP_1, mkP_2, mkP_3, mkP_4, mkP_5]) <;> omega)]
        rw [hw] at hP hD
        exact z_vret hQ hx hb hr hlocks hS ⟨(Nat.le_of_ble_eq_true rfl), (Nat.le_of_ble_eq_true rfl)⟩ dX12_take_64 () rfl trivial hP hD
    · skip
      refine lv_iconst (v := iI 1) hx hb dX12_take_31 (by decide) ?_
      refine lv_goto (tgt := 36) hx hb dX12_take_32 (by decide) ?_
      refine z_isub hx hb dX12_take_36 ?_
      refine z_topi (fun z_18 ez_18 => ?_)
      refine z_iast hx hb hK.1 hP hD hS 4 rfl (by omega) dX12_take_37 (fun H locs hP hD hS => ?_)
      have hP : va_P X.1 vwCl (zb [WMo o ma mi ml, WMx X ma (fun j => pv j 0) (fun j => pv j 1) (fun j => pv j 2) (updZ (fun j => pv j 3) z.toNat z_18) (updZ (fun j => pv j 4) z.toNat z_12) (fun j => pv j 5)]) H := hP
      have hD : va_D A (zb [WMo o ma mi ml, WMx X ma (fun j => pv j 0) (fun j => pv j 1) (fun j => pv j 2) (updZ (fun j => pv j 3) z.toNat z_18) (updZ (fun j => pv j 4) z.toNat z_12) (fun j => pv j 5)]) := hD
      refine lv_aload_n hx hb dX12_take_38 rfl (lv_at hl 0 rfl) ?_
      refine va_get (ci := 12) (v := .ref (ma 7)) (C := RX12) (T := TX12) (N := 38) hx hb hts inX12 hown hK.1 hP 0 rfl rfl 7 (by decide) (hts (.fieldLink RX12 22 "SkimmedSonsModel" "blueOf" "[I") (by decide +kernel)) (fun _ h9 => h9) rfl dX12_take_39 ?_
      refine lv_iload_n hx hb dX12_take_42 rfl (lv_at hl 1 rfl) ?_
      refine lv_dup2_11 hx hb dX12_take_43 rfl rfl ?_
      refine z_iald hx hb hK.1 hP 6 rfl (by omega) dX12_take_44 ?_
      refine W.eq (g2 := F0 m 45 ls [.int (iI (pv z.toNat 5)), .int (iI z), .ref (ma 7)]) rfl ?_
      refine lv_iload_n hx hb dX12_take_45 rfl (lv_at hl 2 rfl) ?_
      refine lv_iconst (v := iI 3) hx hb dX12_take_46 (by decide) ?_
      refine z_icmp_ne (tgt := 54) hx hb (by omega) dX12_take_47 (by decide) (fun c_19 => ?_) (fun c_19 => ?_)
      · skip
        refine lv_iconst (v := iI 0) hx hb dX12_take_54 (by decide) ?_
        refine z_isub hx hb dX12_take_55 ?_
        refine z_topi (fun z_20 ez_20 => ?_)
        refine z_iast hx hb hK.1 hP hD hS 6 rfl (by omega) dX12_take_56 (fun H locs hP hD hS => ?_)
        have hP : va_P X.1 vwCl (zb [WMo o ma mi ml, WMx X ma (fun j => pv j 0) (fun j => pv j 1) (fun j => pv j 2) (updZ (fun j => pv j 3) z.toNat z_18) (updZ (fun j => pv j 4) z.toNat z_12) (updZ (fun j => pv j 5) z.toNat z_20)]) H := hP
        have hD : va_D A (zb [WMo o ma mi ml, WMx X ma (fun j => pv j 0) (fun j => pv j 1) (fun j => pv j 2) (updZ (fun j => pv j 3) z.toNat z_18) (updZ (fun j => pv j 4) z.toNat z_12) (updZ (fun j => pv j 5) z.toNat z_20)]) := hD
        refine lv_aload_n hx hb dX12_take_57 rfl (lv_at hl 0 rfl) ?_
        refine va_get (ci := 12) (v := .ref (ma 8)) (C := RX12) (T := TX12) (N := 38) hx hb hts inX12 hown hK.1 hP 0 rfl rfl 8 (by decide) (hts (.fieldLink RX12 25 "SkimmedSonsModel" "stillOf" "[I") (by decide +kernel)) (fun _ h9 => h9) rfl dX12_take_58 ?_
        refine lv_iload_n hx hb dX12_take_61 rfl (lv_at hl 1 rfl) ?_
        refine lv_iconst (v := iI 0) hx hb dX12_take_62 (by decide) ?_
        refine z_iast hx hb hK.1 hP hD hS 2 rfl (by omega) dX12_take_63 (fun H locs hP hD hS => ?_)
        have hP : va_P X.1 vwCl (zb [WMo o ma mi ml, WMx X ma (fun j => pv j 0) (updZ (fun j => pv j 1) z.toNat 0) (fun j => pv j 2) (updZ (fun j => pv j 3) z.toNat z_18) (updZ (fun j => pv j 4) z.toNat z_12) (updZ (fun j => pv j 5) z.toNat z_20)]) H := hP
        have hD : va_D A (zb [WMo o ma mi ml, WMx X ma (fun j => pv j 0) (updZ (fun j => pv j 1) z.toNat 0) (fun j => pv j 2) (updZ (fun j => pv j 3) z.toNat z_18) (updZ (fun j => pv j 4) z.toNat z_12) (updZ (fun j => pv j 5) z.toNat z_20)]) := hD
        have hw : zb [WMo o ma mi ml, WMx X ma (fun j => pv j 0) (updZ (fun j => pv j 1) z.toNat 0) (fun j => pv j 2) (updZ (fun j => pv j 3) z.toNat z_18) (updZ (fun j => pv j 4) z.toNat z_12) (updZ (fun j => pv j 5) z.toNat z_20)] = zb [WMo o ma mi ml, WMp X ma (va_up pv z.toNat (takeP (pv z.toNat)))] := by rw [WMx_up (pv := pv) (p := z.toNat) (v := takeP (pv z.toNat)) (fun j hj => by simp [updZ, hj]) (by refine ⟨?_, ?_, ?_, ?_, ?_, ?_⟩ <;> (try simp only [updZ_same, takeP, mkP_0, mkP_1, mkP_2, mkP_3, mkP_4, mkP_5]) <;> omega)]
        rw [hw] at hP hD
        exact z_vret hQ hx hb hr hlocks hS ⟨(Nat.le_of_ble_eq_true rfl), (Nat.le_of_ble_eq_true rfl)⟩ dX12_take_64 () rfl trivial hP hD
      · skip
        refine lv_iconst (v := iI 1) hx hb dX12_take_50 (by decide) ?_
        refine lv_goto (tgt := 55) hx hb dX12_take_51 (by decide) ?_
        refine z_isub hx hb dX12_take_55 ?_
        refine z_topi (fun z_21 ez_21 => ?_)
        refine z_iast hx hb hK.1 hP hD hS 6 rfl (by omega) dX12_take_56 (fun H locs hP hD hS => ?_)
        have hP : va_P X.1 vwCl (zb [WMo o ma mi ml, WMx X ma (fun j => pv j 0) (fun j => pv j 1) (fun j => pv j 2) (updZ (fun j => pv j 3) z.toNat z_18) (updZ (fun j => pv j 4) z.toNat z_12) (updZ (fun j => pv j 5) z.toNat z_21)]) H := hP
        have hD : va_D A (zb [WMo o ma mi ml, WMx X ma (fun j => pv j 0) (fun j => pv j 1) (fun j => pv j 2) (updZ (fun j => pv j 3) z.toNat z_18) (updZ (fun j => pv j 4) z.toNat z_12) (updZ (fun j => pv j 5) z.toNat z_21)]) := hD
        refine lv_aload_n hx hb dX12_take_57 rfl (lv_at hl 0 rfl) ?_
        refine va_get (ci := 12) (v := .ref (ma 8)) (C := RX12) (T := TX12) (N := 38) hx hb hts inX12 hown hK.1 hP 0 rfl rfl 8 (by decide) (hts (.fieldLink RX12 25 "SkimmedSonsModel" "stillOf" "[I") (by decide +kernel)) (fun _ h9 => h9) rfl dX12_take_58 ?_
        refine lv_iload_n hx hb dX12_take_61 rfl (lv_at hl 1 rfl) ?_
        refine lv_iconst (v := iI 0) hx hb dX12_take_62 (by decide) ?_
        refine z_iast hx hb hK.1 hP hD hS 2 rfl (by omega) dX12_take_63 (fun H locs hP hD hS => ?_)
        have hP : va_P X.1 vwCl (zb [WMo o ma mi ml, WMx X ma (fun j => pv j 0) (updZ (fun j => pv j 1) z.toNat 0) (fun j => pv j 2) (updZ (fun j => pv j 3) z.toNat z_18) (updZ (fun j => pv j 4) z.toNat z_12) (updZ (fun j => pv j 5) z.toNat z_21)]) H := hP
        have hD : va_D A (zb [WMo o ma mi ml, WMx X ma (fun j => pv j 0) (updZ (fun j => pv j 1) z.toNat 0) (fun j => pv j 2) (updZ (fun j => pv j 3) z.toNat z_18) (updZ (fun j => pv j 4) z.toNat z_12) (updZ (fun j => pv j 5) z.toNat z_21)]) := hD
        have hw : zb [WMo o ma mi ml, WMx X ma (fun j => pv j 0) (updZ (fun j => pv j 1) z.toNat 0) (fun j => pv j 2) (updZ (fun j => pv j 3) z.toNat z_18) (updZ (fun j => pv j 4) z.toNat z_12) (updZ (fun j => pv j 5) z.toNat z_21)] = zb [WMo o ma mi ml, WMp X ma (va_up pv z.toNat (takeP (pv z.toNat)))] := by rw [WMx_up (pv := pv) (p := z.toNat) (v := takeP (pv z.toNat)) (fun j hj => by simp [updZ, hj]) (by refine ⟨?_, ?_, ?_, ?_, ?_, ?_⟩ <;> (try simp only [updZ_same, takeP, mkP_0, mkP_1, mkP_2, mkP_3, mkP_4, mkP_5]) <;> omega)]
        rw [hw] at hP hD
        exact z_vret hQ hx hb hr hlocks hS ⟨(Nat.le_of_ble_eq_true rfl), (Nat.le_of_ble_eq_true rfl)⟩ dX12_take_64 () rfl trivial hP hD
