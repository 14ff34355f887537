set_option maxHeartbeats 1000000 in
set_option maxRecDepth 100000 in
theorem c_X12_things (l : Launch) (X : zX) (o : Nat) (ma : Nat → Nat) (mi : Nat → Int) (ml : Nat → Int) (pv : Nat → Nat → Int) (z : Int) (hn : 0 ≤ mi 1 ∧ mi 1 ≤ 3) (hpv : PanS pv) (hz3 : 0 ≤ z ∧ z < 3) : zF l X yX12_things wsX12_things 0 0 [.ref o, .int (iI z)] (zb [WMo o ma mi ml, WMp X ma pv]) (some (.int (iI ((thZ (mi 1) pv z.toNat : Nat) : Int)))) (zb [WMo o ma mi ml, WMp X ma pv]) := by
  refine z_enter (cc := cX12_things) (maxL := 2) (ret := (some .int)) (by decide) rfl (Nat.le_of_ble_eq_true rfl) ?_
  intro p e s m below meth c A ls Q hQ hE hl hP hD
  obtain ⟨hx, hb, hr, hml, hown, hts, hlocks, hnm, hA, hK⟩ := hE
  have hown : s.vm.findClass RX12 = some m.cls := hown
  have hS : va_S A s.heap s.heap [] := va_S.rf
  have hl : lv_has ls 2 [(0, .ref o), (1, .int (iI z))] := hl
  have inX12 : ∀ w ∈ u_ws RX12 TX12 38, w ∈ wsX12_things := by decide +kernel
  refine lv_iload_n hx hb dX12_things_0 rfl (lv_at hl 1 rfl) ?_
  refine lv_aload_n hx hb dX12_things_1 rfl (lv_at hl 0 rfl) ?_
  refine va_get (ci := 12) (v := .int (iI (mi 1))) (C := RX12) (T := TX12) (N := 38) hx hb hts inX12 hown hK.1 hP 0 rfl rfl 1 (by decide) (hts (.fieldLink RX12 119 "SkimmedSonsModel" "pans" "I") (by decide +kernel)) (fun _ h9 => h9) rfl dX12_things_2 ?_
  refine z_icmp_ge (tgt := 31) hx hb (by omega) dX12_things_5 (by decide) (fun c_1 => ?_) (fun c_1 => ?_)
  · skip
    refine lv_iconst (v := iI 0) hx hb dX12_things_31 (by decide) ?_
    exact z_iret hQ hx hb hr hlocks hS ⟨(Nat.le_of_ble_eq_true rfl), (Nat.le_of_ble_eq_true rfl)⟩ dX12_things_32 () (congrArg (fun z => some (Value.int (iI z))) (show (((thZ (mi 1) pv z.toNat : Nat) : Int) : Int) = 0 by unfold thZ onZ; first | (rw [if_pos (by omega)]; omega) | (rw [if_neg (by omega)]; omega) | (rw [if_neg (by omega)]; rfl))) trivial hP hD
  · skip
    obtain ⟨⟨h00, h01⟩, ⟨h10, h11⟩, h2, h3, h4, h5, h6⟩ := hpv z.toNat (by omega)
    refine lv_aload_n hx hb dX12_things_8 rfl (lv_at hl 0 rfl) ?_
    refine va_get (ci := 12) (v := .ref (ma 6)) (C := RX12) (T := TX12) (N := 38) hx hb hts inX12 hown hK.1 hP 0 rfl rfl 6 (by decide) (hts (.fieldLink RX12 19 "SkimmedSonsModel" "filmOf" "[I") (by decide +kernel)) (fun _ h9 => h9) rfl dX12_things_9 ?_
    refine lv_iload_n hx hb dX12_things_12 rfl (lv_at hl 1 rfl) ?_
    refine z_iald hx hb hK.1 hP 5 rfl (by omega) dX12_things_13 ?_
    refine W.eq (g2 := F0 m 14 ls [.int (iI (pv z.toNat 4))]) rfl ?_
    refine lv_aload_n hx hb dX12_things_14 rfl (lv_at hl 0 rfl) ?_
    refine va_get (ci := 12) (v := .ref (ma 5)) (C := RX12) (T := TX12) (N := 38) hx hb hts inX12 hown hK.1 hP 0 rfl rfl 5 (by decide) (hts (.fieldLink RX12 16 "SkimmedSonsModel" "creamOf" "[I") (by decide +kernel)) (fun _ h9 => h9) rfl dX12_things_15 ?_
    refine lv_iload_n hx hb dX12_things_18 rfl (lv_at hl 1 rfl) ?_
    refine z_iald hx hb hK.1 hP 4 rfl (by omega) dX12_things_19 ?_
    refine W.eq (g2 := F0 m 20 ls [.int (iI (pv z.toNat 3)), .int (iI (pv z.toNat 4))]) rfl ?_
    refine z_iadd hx hb dX12_things_20 ?_
    refine lv_aload_n hx hb dX12_things_21 rfl (lv_at hl 0 rfl) ?_
    refine va_get (ci := 12) (v := .ref (ma 7)) (C := RX12) (T := TX12) (N := 38) hx hb hts inX12 hown hK.1 hP 0 rfl rfl 7 (by decide) (hts (.fieldLink RX12 22 "SkimmedSonsModel" "blueOf" "[I") (by decide +kernel)) (fun _ h9 => h9) rfl dX12_things_22 ?_
    refine lv_iload_n hx hb dX12_things_25 rfl (lv_at hl 1 rfl) ?_
    refine z_iald hx hb hK.1 hP 6 rfl (by omega) dX12_things_26 ?_
    refine W.eq (g2 := F0 m 27 ls [.int (iI (pv z.toNat 5)), .int (iI ((pv z.toNat 4) + (pv z.toNat 3)))]) rfl ?_
    refine z_iadd hx hb dX12_things_27 ?_
    refine lv_goto (tgt := 32) hx hb dX12_things_28 (by decide) ?_
    exact z_iret hQ hx hb hr hlocks hS ⟨(Nat.le_of_ble_eq_true rfl), (Nat.le_of_ble_eq_true rfl)⟩ dX12_things_32 () (congrArg (fun z => some (Value.int (iI z))) (show (((thZ (mi 1) pv z.toNat : Nat) : Int) : Int) = ((pv z.toNat 4) + (pv z.toNat 3)) + (pv z.toNat 5) by unfold thZ onZ; first | (rw [if_pos (by omega)]; omega) | (rw [if_neg (by omega)]; omega) | (rw [if_neg (by omega)]; rfl))) trivial hP hD
set_option maxHeartbeats 1000000 in
set_option maxRecDepth 100000 in
theorem c_X12_topBehind (l : Launch) (X : zX) (o : Nat) (ma : Nat → Nat) (mi : Nat → Int) (ml : Nat → Int) (pv : Nat → Nat → Int) (z : Int) (x : Int) (hpz : PanB (pv z.toNat)) (hz3 : 0 ≤ z ∧ z < 3) (hx1 : 0 ≤ x ∧ x ≤ 100) : zF l X yX12_topBehind wsX12_topBehind 0 0 [.ref o, .int (iI z), .int (iI x)] (zb [WMo o ma mi ml, WMp X ma pv]) (some (.int (iI (tbZ (pv z.toNat) x)))) (zb [WMo o ma mi ml, WMp X ma pv]) := by
  refine z_enter (cc := cX12_topBehind) (maxL := 3) (ret := (some .int)) (by decide) rfl (Nat.le_of_ble_eq_true rfl) ?_
  intro p e s m below meth c A ls Q hQ hE hl hP hD
  obtain ⟨hx, hb, hr, hml, hown, hts, hlocks, hnm, hA, hK⟩ := hE
  have hown : s.vm.findClass RX12 = some m.cls := hown
  have hS : va_S A s.heap s.heap [] := va_S.rf
  have hl : lv_has ls 3 [(0, .ref o), (1, .int (iI z)), (2, .int (iI x))] := hl
  have inX12 : ∀ w ∈ u_ws RX12 TX12 38, w ∈ wsX12_topBehind := by decide +kernel
  obtain ⟨⟨h00, h01⟩, ⟨h10, h11⟩, h2, h3, h4, h5, h6⟩ := id hpz
  refine lv_iload_n hx hb dX12_topBehind_0 rfl (lv_at hl 2 rfl) ?_
  refine lv_aload_n hx hb dX12_topBehind_1 rfl (lv_at hl 0 rfl) ?_
  refine va_get (ci := 12) (v := .ref (ma 6)) (C := RX12) (T := TX12) (N := 38) hx hb hts inX12 hown hK.1 hP 0 rfl rfl 6 (by decide) (hts (.fieldLink RX12 19 "SkimmedSonsModel" "filmOf" "[I") (by decide +kernel)) (fun _ h9 => h9) rfl dX12_topBehind_2 ?_
  refine lv_iload_n hx hb dX12_topBehind_5 rfl (lv_at hl 1 rfl) ?_
  refine z_iald hx hb hK.1 hP 5 rfl (by omega) dX12_topBehind_6 ?_
  refine W.eq (g2 := F0 m 7 ls [.int (iI (pv z.toNat 4)), .int (iI x)]) rfl ?_
  refine z_icmp_ge (tgt := 14) hx hb (by omega) dX12_topBehind_7 (by decide) (fun c_1 => ?_) (fun c_1 => ?_)
  · skip
    refine lv_iload_n hx hb dX12_topBehind_14 rfl (lv_at hl 2 rfl) ?_
    refine lv_aload_n hx hb dX12_topBehind_15 rfl (lv_at hl 0 rfl) ?_
    refine va_get (ci := 12) (v := .ref (ma 6)) (C := RX12) (T := TX12) (N := 38) hx hb hts inX12 hown hK.1 hP 0 rfl rfl 6 (by decide) (hts (.fieldLink RX12 19 "SkimmedSonsModel" "filmOf" "[I") (by decide +kernel)) (fun _ h9 => h9) rfl dX12_topBehind_16 ?_
    refine lv_iload_n hx hb dX12_topBehind_19 rfl (lv_at hl 1 rfl) ?_
    refine z_iald hx hb hK.1 hP 5 rfl (by omega) dX12_topBehind_20 ?_
    refine W.eq (g2 := F0 m 21 ls [.int (iI (pv z.toNat 4)), .int (iI x)]) rfl ?_
    refine lv_aload_n hx hb dX12_topBehind_21 rfl (lv_at hl 0 rfl) ?_
    refine va_get (ci := 12) (v := .ref (ma 5)) (C := RX12) (T := TX12) (N := 38) hx hb hts inX12 hown hK.1 hP 0 rfl rfl 5 (by decide) (hts (.fieldLink RX12 16 "SkimmedSonsModel" "creamOf" "[I") (by decide +kernel)) (fun _ h9 => h9) rfl dX12_topBehind_22 ?_
    refine lv_iload_n hx hb dX12_topBehind_25 rfl (lv_at hl 1 rfl) ?_
    refine z_iald hx hb hK.1 hP 4 rfl (by omega) dX12_topBehind_26 ?_
    refine W.eq (g2 := F0 m 27 ls [.int (iI (pv z.toNat 3)), .int (iI (pv z.toNat 4)), .int (iI x)]) rfl ?_
    refine z_iadd hx hb dX12_topBehind_27 ?_
    refine z_icmp_ge (tgt := 35) hx hb (by omega) dX12_topBehind_28 (by decide) (fun c_2 => ?_) (fun c_2 => ?_)
    · skip
      refine lv_iconst (v := iI 3) hx hb dX12_topBehind_35 (by decide) ?_
      exact z_iret hQ hx hb hr hlocks hS ⟨(Nat.le_of_ble_eq_true rfl), (Nat.le_of_ble_eq_true rfl)⟩ dX12_topBehind_36 () (congrArg (fun z => some (Value.int (iI z))) (show (tbZ (pv z.toNat) x : Int) = 3 by unfold tbZ; omega)) trivial hP hD
    · skip
      refine lv_iconst (v := iI 1) hx hb dX12_topBehind_31 (by decide) ?_
      refine lv_goto (tgt := 36) hx hb dX12_topBehind_32 (by decide) ?_
      exact z_iret hQ hx hb hr hlocks hS ⟨(Nat.le_of_ble_eq_true rfl), (Nat.le_of_ble_eq_true rfl)⟩ dX12_topBehind_36 () (congrArg (fun z => some (Value.int (iI z))) (show (tbZ (pv z.toNat) x : Int) = 1 by unfold tbZ; omega)) trivial hP hD
  · skip
    refine lv_iconst (v := iI 2) hx hb dX12_topBehind_10 (by decide) ?_
    refine lv_goto (tgt := 36) hx hb dX12_topBehind_11 (by decide) ?_
    exact z_iret hQ hx hb hr hlocks hS ⟨(Nat.le_of_ble_eq_true rfl), (Nat.le_of_ble_eq_true rfl)⟩ dX12_topBehind_36 () (congrArg (fun z => some (Value.int (iI z))) (show (tbZ (pv z.toNat) x : Int) = 2 by unfold tbZ; omega)) trivial hP hD
set_option maxHeartbeats 1000000 in
set_option maxRecDepth 100000 in
theorem c_X12_slot (l : Launch) (X : zX) (x : Int) (y : Int) (z : Int)  : zF l X yX12_slot wsX12_slot 0 0 [.int (iI x), .int (iI y), .int (iI z)] (zb []) (some (.int (iI (441 * x + 21 * y + z)))) (zb []) := by
  refine z_enter (cc := cX12_slot) (maxL := 3) (ret := (some .int)) (by decide) rfl (Nat.le_of_ble_eq_true rfl) ?_
  intro p e s m below meth c A ls Q hQ hE hl hP hD
  obtain ⟨hx, hb, hr, hml, hown, hts, hlocks, hnm, hA, hK⟩ := hE
  have hown : s.vm.findClass RX12 = some m.cls := hown
  have hS : va_S A s.heap s.heap [] := va_S.rf
  have hl : lv_has ls 3 [(0, .int (iI x)), (1, .int (iI y)), (2, .int (iI z))] := hl
  refine lv_sipush (v := iI 441) hx hb dX12_slot_0 (by decide) ?_
  refine lv_iload_n hx hb dX12_slot_3 rfl (lv_at hl 0 rfl) ?_
  refine z_imul hx hb dX12_slot_4 ?_
  refine lv_bipush (v := iI 21) hx hb dX12_slot_5 (by decide) ?_
  refine lv_iload_n hx hb dX12_slot_7 rfl (lv_at hl 1 rfl) ?_
  refine z_imul hx hb dX12_slot_8 ?_
  refine z_iadd hx hb dX12_slot_9 ?_
  refine lv_iload_n hx hb dX12_slot_10 rfl (lv_at hl 2 rfl) ?_
  refine z_iadd hx hb dX12_slot_11 ?_
  exact z_iret hQ hx hb hr hlocks hS ⟨(Nat.le_of_ble_eq_true rfl), (Nat.le_of_ble_eq_true rfl)⟩ dX12_slot_12 () (congrArg (fun z => some (Value.int (iI z))) (show (441 * x + 21 * y + z : Int) = ((441 * x) + (21 * y)) + z by omega)) trivial hP hD
set_option maxHeartbeats 1000000 in
set_option maxRecDepth 100000 in
theorem c_X12_moreFrom (l : Launch) (X : zX) (o : Nat) (ma : Nat → Nat) (mi : Nat → Int) (ml : Nat → Int) (pv : Nat → Nat → Int) (kz : Nat → Int) (fm : Nat → Int) (a : Int) (b : Int) (q : Nat) (x : Int) (y : Int) (z : Int) (hab : (0 ≤ a ∧ a < 5) ∧ (0 ≤ b ∧ b < 5)) (hka : 0 ≤ kz a.toNat ∧ kz a.toNat ≤ 4) (hkb : 0 ≤ kz b.toNat ∧ kz b.toNat ≤ 4) (hq3 : q < 3) (hpq : PanB (pv q)) (hxyz : (0 ≤ x ∧ x ≤ 20) ∧ (0 ≤ y ∧ y ≤ 20) ∧ (0 ≤ z ∧ z ≤ 20)) (hsl : selZ q x y z < 20) (hfm : FmB fm) : zF l X yX12_moreFrom wsX12_moreFrom 1 23 [.ref o, .int (iI a), .int (iI b), .int (iI (↑q)), .int (iI x), .int (iI y), .int (iI z)] (zb [WMo o ma mi ml, WMp X ma pv, Wa X 2 (ma 9) 5 kz, Wa X 2 (ma 25) 9261 fm]) (some (.int (iI (mfZ (kdM kz a.toNat) (kdM kz b.toNat) pv fm q x y z)))) (zb [WMo o ma mi ml, WMp X ma pv, Wa X 2 (ma 9) 5 kz, Wa X 2 (ma 25) 9261 fm]) := by
  refine z_enter (cc := cX12_moreFrom) (maxL := 10) (ret := (some .int)) (by decide) rfl (Nat.le_of_ble_eq_true rfl) ?_
  intro p e s m below meth c A ls Q hQ hE hl hP hD
  obtain ⟨hx, hb, hr, hml, hown, hts, hlocks, hnm, hA, hK⟩ := hE
  have hown : s.vm.findClass RX12 = some m.cls := hown
  have hS : va_S A s.heap s.heap [] := va_S.rf
  have hl : lv_has ls 10 [(0, .ref o), (1, .int (iI a)), (2, .int (iI b)), (3, .int (iI (↑q))), (4, .int (iI x)), (5, .int (iI y)), (6, .int (iI z))] := hl
  have inX12 : ∀ w ∈ u_ws RX12 TX12 38, w ∈ wsX12_moreFrom := by decide +kernel
  rcases (show q = 0 ∨ q = 1 ∨ q = 2 by omega) with rfl | rfl | rfl
  · skip
    have hl : lv_has ls 10 [(0, .ref o), (1, .int (iI a)), (2, .int (iI b)), (3, .int (iI 0)), (4, .int (iI x)), (5, .int (iI y)), (6, .int (iI z))] := hl
    have hsx : selZ 0 x y z = x := rfl
    refine lv_iload hx hb dX12_moreFrom_0 (lv_at hl 4 rfl) ?_
    refine lv_iload hx hb dX12_moreFrom_2 (lv_at hl 5 rfl) ?_
    refine z_iadd hx hb dX12_moreFrom_4 ?_
    refine lv_iload hx hb dX12_moreFrom_5 (lv_at hl 6 rfl) ?_
    refine z_iadd hx hb dX12_moreFrom_7 ?_
    refine lv_iconst (v := iI 2) hx hb dX12_moreFrom_8 (by decide) ?_
    refine z_irem hx hb (by omega) dX12_moreFrom_9 ?_
    refine z_if_ne (tgt := 17) hx hb (by omega) dX12_moreFrom_10 (by decide) (fun c_1 => ?_) (fun c_1 => ?_)
    · skip
      refine lv_iconst (v := iI 0) hx hb dX12_moreFrom_17 (by decide) ?_
      refine lv_istore (lv' := [(7, .int (iI 0)), (0, .ref o), (1, .int (iI a)), (2, .int (iI b)), (3, .int (iI 0)), (4, .int (iI x)), (5, .int (iI y)), (6, .int (iI z))]) hx hb dX12_moreFrom_18 hl (by decide) rfl (fun ls hl => ?_)
      refine lv_aload_n hx hb dX12_moreFrom_20 rfl (lv_at hl 1 rfl) ?_
      refine lv_iload_n hx hb dX12_moreFrom_21 rfl (lv_at hl 4 rfl) ?_
      refine lv_iload_n hx hb dX12_moreFrom_22 rfl (lv_at hl 4 rfl) ?_
      refine z_if_ne (tgt := 31) hx hb (by omega) dX12_moreFrom_23 (by decide) (fun c_2 => ?_) (fun c_2 => ?_)
      · skip
        exact absurd c_2 (by omega)
      · skip
        refine lv_iload hx hb dX12_moreFrom_26 (lv_at hl 5 rfl) ?_
        refine lv_goto (tgt := 43) hx hb dX12_moreFrom_28 (by decide) ?_
        have hPm := zp_perm hP (zblk (show List.Perm ([WMo o ma mi ml, WMp X ma pv, Wa X 2 (ma 9) 5 kz, Wa X 2 (ma 25) 9261 fm] : List va_W) ([WMo o ma mi ml, WMp X ma pv] ++ [Wa X 2 (ma 9) 5 kz, Wa X 2 (ma 25) 9261 fm]) from (zf1 _ 0 _ rfl).trans (((zf1 _ 0 _ rfl).trans ((List.Perm.refl _).cons _)).cons _)))
        have hDm := zd_perm hD (zblk (show List.Perm ([WMo o ma mi ml, WMp X ma pv, Wa X 2 (ma 9) 5 kz, Wa X 2 (ma 25) 9261 fm] : List va_W) ([WMo o ma mi ml, WMp X ma pv] ++ [Wa X 2 (ma 9) 5 kz, Wa X 2 (ma 25) 9261 fm]) from (zf1 _ 0 _ rfl).trans (((zf1 _ 0 _ rfl).trans ((List.Perm.refl _).cons _)).cons _)))
        refine z_callV (wr := zb [Wa X 2 (ma 9) 5 kz, Wa X 2 (ma 25) 9261 fm]) (As := [.int (iI 0), .int (iI x)]) (rest := []) ⟨hx, hb, hml, hown, hts⟩ (c_X12_topBehind l X o ma mi ml pv 0 x (by exact hpq) (by omega) (by omega)) (cwV 2 hts gX12_moreFrom_X12_topBehind rfl rfl rfl (by decide +kernel) ⟨Nat.le_of_ble_eq_true rfl, Nat.le_of_ble_eq_true rfl⟩) rfl rfl hl.1 dX12_moreFrom_43 rfl rfl (Nat.le_of_ble_eq_true rfl) ⟨(Nat.le_of_ble_eq_true rfl), (Nat.le_of_ble_eq_true rfl)⟩ hS hA hK hPm hDm (fun _ H locs _ hP hD hS => ?_)
        have hP := zp_perm hP ((zblk (show List.Perm ([WMo o ma mi ml, WMp X ma pv, Wa X 2 (ma 9) 5 kz, Wa X 2 (ma 25) 9261 fm] : List va_W) ([WMo o ma mi ml, WMp X ma pv] ++ [Wa X 2 (ma 9) 5 kz, Wa X 2 (ma 25) 9261 fm]) from (zf1 _ 0 _ rfl).trans (((zf1 _ 0 _ rfl).trans ((List.Perm.refl _).cons _)).cons _)))).symm
        have hD := zd_perm hD ((zblk (show List.Perm ([WMo o ma mi ml, WMp X ma pv, Wa X 2 (ma 9) 5 kz, Wa X 2 (ma 25) 9261 fm] : List va_W) ([WMo o ma mi ml, WMp X ma pv] ++ [Wa X 2 (ma 9) 5 kz, Wa X 2 (ma 25) 9261 fm]) from (zf1 _ 0 _ rfl).trans (((zf1 _ 0 _ rfl).trans ((List.Perm.refl _).cons _)).cons _)))).symm
        have hP : va_P X.1 vwCl (zb [WMo o ma mi ml, WMp X ma pv, Wa X 2 (ma 9) 5 kz, Wa X 2 (ma 25) 9261 fm]) H := hP
        have hD : va_D A (zb [WMo o ma mi ml, WMp X ma pv, Wa X 2 (ma 9) 5 kz, Wa X 2 (ma 25) 9261 fm]) := hD
        refine W.eq (g2 := F0 m 46 ls [.int (iI (tbZ (pv 0) x))]) rfl ?_
        refine z_topi (fun z_3 ez_3 => ?_)
        refine lv_istore (lv' := [(8, .int (iI z_3)), (7, .int (iI 0)), (0, .ref o), (1, .int (iI a)), (2, .int (iI b)), (3, .int (iI 0)), (4, .int (iI x)), (5, .int (iI y)), (6, .int (iI z))]) hx hb dX12_moreFrom_46 hl (by decide) rfl (fun ls hl => ?_)
        refine lv_aload_n hx hb dX12_moreFrom_48 rfl (lv_at hl 2 rfl) ?_
        refine va_get (ci := 12) (v := .ref (ma 25)) (C := RX12) (T := TX12) (N := 38) hx hb hts inX12 hown hK.1 hP 0 rfl rfl 25 (by decide) (hts (.fieldLink RX12 56 "SkimmedSonsModel" "moreBy" "[I") (by decide +kernel)) (fun _ h9 => h9) rfl dX12_moreFrom_49 ?_
        refine lv_iload_n hx hb dX12_moreFrom_52 rfl (lv_at hl 5 rfl) ?_
        refine z_if_ne (tgt := 63) hx hb (by omega) dX12_moreFrom_53 (by decide) (fun c_4 => ?_) (fun c_4 => ?_)
        · skip
          exact absurd c_4 (by omega)
        · skip
          refine lv_iload hx hb dX12_moreFrom_56 (lv_at hl 6 rfl) ?_
          refine lv_iconst (v := iI 1) hx hb dX12_moreFrom_58 (by decide) ?_
          refine z_iadd hx hb dX12_moreFrom_59 ?_
          refine lv_goto (tgt := 65) hx hb dX12_moreFrom_60 (by decide) ?_
          refine lv_iload_n hx hb dX12_moreFrom_65 rfl (lv_at hl 5 rfl) ?_
          refine lv_iconst (v := iI 1) hx hb dX12_moreFrom_66 (by decide) ?_
          refine z_icmp_ne (tgt := 77) hx hb (by omega) dX12_moreFrom_67 (by decide) (fun c_5 => ?_) (fun c_5 => ?_)
          · skip
            refine lv_iload hx hb dX12_moreFrom_77 (lv_at hl 7 rfl) ?_
            refine lv_iload_n hx hb dX12_moreFrom_79 rfl (lv_at hl 5 rfl) ?_
            refine lv_iconst (v := iI 2) hx hb dX12_moreFrom_80 (by decide) ?_
            refine z_icmp_ne (tgt := 91) hx hb (by omega) dX12_moreFrom_81 (by decide) (fun c_6 => ?_) (fun c_6 => ?_)
            · skip
              refine lv_iload hx hb dX12_moreFrom_91 (lv_at hl 8 rfl) ?_
              have hPm := zp_perm hP (zblk (show List.Perm ([WMo o ma mi ml, WMp X ma pv, Wa X 2 (ma 9) 5 kz, Wa X 2 (ma 25) 9261 fm] : List va_W) ([] ++ [WMo o ma mi ml, WMp X ma pv, Wa X 2 (ma 9) 5 kz, Wa X 2 (ma 25) 9261 fm]) from List.Perm.refl _))
              have hDm := zd_perm hD (zblk (show List.Perm ([WMo o ma mi ml, WMp X ma pv, Wa X 2 (ma 9) 5 kz, Wa X 2 (ma 25) 9261 fm] : List va_W) ([] ++ [WMo o ma mi ml, WMp X ma pv, Wa X 2 (ma 9) 5 kz, Wa X 2 (ma 25) 9261 fm]) from List.Perm.refl _))
              refine z_callS (wr := zb [WMo o ma mi ml, WMp X ma pv, Wa X 2 (ma 9) 5 kz, Wa X 2 (ma 25) 9261 fm]) (As := [.int (iI (x + 1)), .int (iI y), .int (iI z)]) (rest := [.ref (ma 25)]) ⟨hx, hb, hml, hown, hts⟩ (c_X12_slot l X (x + 1) y z ) (va_cwS 3 hts gX12_moreFrom_X12_slot rfl rfl rfl (by decide +kernel) ⟨Nat.le_of_ble_eq_true rfl, Nat.le_of_ble_eq_true rfl⟩) hl.1 dX12_moreFrom_93 rfl rfl (Nat.le_of_ble_eq_true rfl) ⟨(Nat.le_of_ble_eq_true rfl), (Nat.le_of_ble_eq_true rfl)⟩ hS hA hK hPm hDm (fun _ H locs _ hP hD hS => ?_)
              have hP := zp_perm hP ((zblk (show List.Perm ([WMo o ma mi ml, WMp X ma pv, Wa X 2 (ma 9) 5 kz, Wa X 2 (ma 25) 9261 fm] : List va_W) ([] ++ [WMo o ma mi ml, WMp X ma pv, Wa X 2 (ma 9) 5 kz, Wa X 2 (ma 25) 9261 fm]) from List.Perm.refl _))).symm
              have hD := zd_perm hD ((zblk (show List.Perm ([WMo o ma mi ml, WMp X ma pv, Wa X 2 (ma 9) 5 kz, Wa X 2 (ma 25) 9261 fm] : List va_W) ([] ++ [WMo o ma mi ml, WMp X ma pv, Wa X 2 (ma 9) 5 kz, Wa X 2 (ma 25) 9261 fm]) from List.Perm.refl _))).symm
              have hP : va_P X.1 vwCl (zb [WMo o ma mi ml, WMp X ma pv, Wa X 2 (ma 9) 5 kz, Wa X 2 (ma 25) 9261 fm]) H := hP
              have hD : va_D A (zb [WMo o ma mi ml, WMp X ma pv, Wa X 2 (ma 9) 5 kz, Wa X 2 (ma 25) 9261 fm]) := hD
              refine W.eq (g2 := F0 m 96 ls [.int (iI (441 * (x + 1) + 21 * y + z)), .ref (ma 25)]) rfl ?_
              have hfi := hfm (441 * (x + 1) + 21 * y + z).toNat
              refine z_iald hx hb hK.1 hP 8 rfl (by omega) dX12_moreFrom_96 ?_
              refine W.eq (g2 := F0 m 97 ls [.int (iI (fm ((441 * (x + 1) + 21 * y + z).toNat)))]) rfl ?_
              refine z_topi (fun z_7 ez_7 => ?_)
              refine lv_istore (lv' := [(9, .int (iI z_7)), (8, .int (iI z_3)), (7, .int (iI 0)), (0, .ref o), (1, .int (iI a)), (2, .int (iI b)), (3, .int (iI 0)), (4, .int (iI x)), (5, .int (iI y)), (6, .int (iI z))]) hx hb dX12_moreFrom_97 hl (by decide) rfl (fun ls hl => ?_)
              refine lv_iload hx hb dX12_moreFrom_99 (lv_at hl 0 rfl) ?_
              refine lv_iload hx hb dX12_moreFrom_101 (lv_at hl 2 rfl) ?_
              refine z_if_eq (tgt := 116) hx hb (by omega) dX12_moreFrom_103 (by decide) (fun c_8 => ?_) (fun c_8 => ?_)
              · skip
                refine lv_aload_n hx hb dX12_moreFrom_116 rfl (lv_at hl 3 rfl) ?_
                refine lv_iload_n hx hb dX12_moreFrom_117 rfl (lv_at hl 5 rfl) ?_
                refine lv_iload hx hb dX12_moreFrom_118 (lv_at hl 1 rfl) ?_
                have hPm := zp_perm hP (zblk (show List.Perm ([WMo o ma mi ml, WMp X ma pv, Wa X 2 (ma 9) 5 kz, Wa X 2 (ma 25) 9261 fm] : List va_W) ([WMo o ma mi ml, Wa X 2 (ma 9) 5 kz] ++ [WMp X ma pv, Wa X 2 (ma 25) 9261 fm]) from (zf1 _ 0 _ rfl).trans (((zf1 _ 1 _ rfl).trans ((List.Perm.refl _).cons _)).cons _)))
                have hDm := zd_perm hD (zblk (show List.Perm ([WMo o ma mi ml, WMp X ma pv, Wa X 2 (ma 9) 5 kz, Wa X 2 (ma 25) 9261 fm] : List va_W) ([WMo o ma mi ml, Wa X 2 (ma 9) 5 kz] ++ [WMp X ma pv, Wa X 2 (ma 25) 9261 fm]) from (zf1 _ 0 _ rfl).trans (((zf1 _ 1 _ rfl).trans ((List.Perm.refl _).cons _)).cons _)))
                refine z_callV (wr := zb [WMp X ma pv, Wa X 2 (ma 25) 9261 fm]) (As := [.int (iI b), .int (iI z_3)]) (rest := [.int (iI z_7)]) ⟨hx, hb, hml, hown, hts⟩ (c_X12_worthOf l X o ma mi ml kz b z_3 (by omega) (by exact hkb) (by subst_vars; unfold tbZ; split; decide; split <;> decide)) (cwV 2 hts gX12_moreFrom_X12_worthOf rfl rfl rfl (by decide +kernel) ⟨Nat.le_of_ble_eq_true rfl, Nat.le_of_ble_eq_true rfl⟩) rfl rfl hl.1 dX12_moreFrom_120 rfl rfl (Nat.le_of_ble_eq_true rfl) ⟨(Nat.le_of_ble_eq_true rfl), (Nat.le_of_ble_eq_true rfl)⟩ hS hA hK hPm hDm (fun _ H locs _ hP hD hS => ?_)
                have hP := zp_perm hP ((zblk (show List.Perm ([WMo o ma mi ml, WMp X ma pv, Wa X 2 (ma 9) 5 kz, Wa X 2 (ma 25) 9261 fm] : List va_W) ([WMo o ma mi ml, Wa X 2 (ma 9) 5 kz] ++ [WMp X ma pv, Wa X 2 (ma 25) 9261 fm]) from (zf1 _ 0 _ rfl).trans (((zf1 _ 1 _ rfl).trans ((List.Perm.refl _).cons _)).cons _)))).symm
                have hD := zd_perm hD ((zblk (show List.Perm ([WMo o ma mi ml, WMp X ma pv, Wa X 2 (ma 9) 5 kz, Wa X 2 (ma 25) 9261 fm] : List va_W) ([WMo o ma mi ml, Wa X 2 (ma 9) 5 kz] ++ [WMp X ma pv, Wa X 2 (ma 25) 9261 fm]) from (zf1 _ 0 _ rfl).trans (((zf1 _ 1 _ rfl).trans ((List.Perm.refl _).cons _)).cons _)))).symm
                have hP : va_P X.1 vwCl (zb [WMo o ma mi ml, WMp X ma pv, Wa X 2 (ma 9) 5 kz, Wa X 2 (ma 25) 9261 fm]) H := hP
                have hD : va_D A (zb [WMo o ma mi ml, WMp X ma pv, Wa X 2 (ma 9) 5 kz, Wa X 2 (ma 25) 9261 fm]) := hD
                refine W.eq (g2 := F0 m 123 ls [.int (iI (wOf (kdM kz b.toNat) z_3)), .int (iI z_7)]) rfl ?_
                refine z_ineg hx hb dX12_moreFrom_123 ?_
                refine z_iadd hx hb dX12_moreFrom_124 ?_
                have hmf : mfZ (kdM kz a.toNat) (kdM kz b.toNat) pv fm 0 x y z = fm (441 * (x + 1) + 21 * y + z).toNat + -(wOf (kdM kz b.toNat) (tbZ (pv 0) x)) := by unfold mfZ vlG; rw [show slZ 0 x y z = 441 * (x + 1) + 21 * y + z from rfl, show tkI (x + y + z) = 0 by unfold tkI; omega] <;> rfl
                exact z_iret hQ hx hb hr hlocks hS ⟨(Nat.le_of_ble_eq_true rfl), (Nat.le_of_ble_eq_true rfl)⟩ dX12_moreFrom_125 () (congrArg (fun z => some (Value.int (iI z))) (show (mfZ (kdM kz a.toNat) (kdM kz b.toNat) pv fm 0 x y z : Int) = z_7 + (-(wOf (kdM kz b.toNat) z_3)) by subst_vars; exact hmf)) trivial hP hD
              · skip
                exact absurd c_8 (by omega)
            · skip
              exact absurd c_6 (by omega)
          · skip
            exact absurd c_5 (by omega)
    · skip
      refine lv_iconst (v := iI 1) hx hb dX12_moreFrom_13 (by decide) ?_
      refine lv_goto (tgt := 18) hx hb dX12_moreFrom_14 (by decide) ?_
      refine lv_istore (lv' := [(7, .int (iI 1)), (0, .ref o), (1, .int (iI a)), (2, .int (iI b)), (3, .int (iI 0)), (4, .int (iI x)), (5, .int (iI y)), (6, .int (iI z))]) hx hb dX12_moreFrom_18 hl (by decide) rfl (fun ls hl => ?_)
      refine lv_aload_n hx hb dX12_moreFrom_20 rfl (lv_at hl 1 rfl) ?_
      refine lv_iload_n hx hb dX12_moreFrom_21 rfl (lv_at hl 4 rfl) ?_
      refine lv_iload_n hx hb dX12_moreFrom_22 rfl (lv_at hl 4 rfl) ?_
      refine z_if_ne (tgt := 31) hx hb (by omega) dX12_moreFrom_23 (by decide) (fun c_9 => ?_) (fun c_9 => ?_)
      · skip
        exact absurd c_9 (by omega)
      · skip
        refine lv_iload hx hb dX12_moreFrom_26 (lv_at hl 5 rfl) ?_
        refine lv_goto (tgt := 43) hx hb dX12_moreFrom_28 (by decide) ?_
        have hPm := zp_perm hP (zblk (show List.Perm ([WMo o ma mi ml, WMp X ma pv, Wa X 2 (ma 9) 5 kz, Wa X 2 (ma 25) 9261 fm] : List va_W) ([WMo o ma mi ml, WMp X ma pv] ++ [Wa X 2 (ma 9) 5 kz, Wa X 2 (ma 25) 9261 fm]) from (zf1 _ 0 _ rfl).trans (((zf1 _ 0 _ rfl).trans ((List.Perm.refl _).cons _)).cons _)))
        have hDm := zd_perm hD (zblk (show List.Perm ([WMo o ma mi ml, WMp X ma pv, Wa X 2 (ma 9) 5 kz, Wa X 2 (ma 25) 9261 fm] : List va_W) ([WMo o ma mi ml, WMp X ma pv] ++ [Wa X 2 (ma 9) 5 kz, Wa X 2 (ma 25) 9261 fm]) from (zf1 _ 0 _ rfl).trans (((zf1 _ 0 _ rfl).trans ((List.Perm.refl _).cons _)).cons _)))
        refine z_callV (wr := zb [Wa X 2 (ma 9) 5 kz, Wa X 2 (ma 25) 9261 fm]) (As := [.int (iI 0), .int (iI x)]) (rest := []) ⟨hx, hb, hml, hown, hts⟩ (c_X12_topBehind l X o ma mi ml pv 0 x (by exact hpq) (by omega) (by omega)) (cwV 2 hts gX12_moreFrom_X12_topBehind rfl rfl rfl (by decide +kernel) ⟨Nat.le_of_ble_eq_true rfl, Nat.le_of_ble_eq_true rfl⟩) rfl rfl hl.1 dX12_moreFrom_43 rfl rfl (Nat.le_of_ble_eq_true rfl) ⟨(Nat.le_of_ble_eq_true rfl), (Nat.le_of_ble_eq_true rfl)⟩ hS hA hK hPm hDm (fun _ H locs _ hP hD hS => ?_)
        have hP := zp_perm hP ((zblk (show List.Perm ([WMo o ma mi ml, WMp X ma pv, Wa X 2 (ma 9) 5 kz, Wa X 2 (ma 25) 9261 fm] : List va_W) ([WMo o ma mi ml, WMp X ma pv] ++ [Wa X 2 (ma 9) 5 kz, Wa X 2 (ma 25) 9261 fm]) from (zf1 _ 0 _ rfl).trans (((zf1 _ 0 _ rfl).trans ((List.Perm.refl _).cons _)).cons _)))).symm
        have hD := zd_perm hD ((zblk (show List.Perm ([WMo o ma mi ml, WMp X ma pv, Wa X 2 (ma 9) 5 kz, Wa X 2 (ma 25) 9261 fm] : List va_W) ([WMo o ma mi ml, WMp X ma pv] ++ [Wa X 2 (ma 9) 5 kz, Wa X 2 (ma 25) 9261 fm]) from (zf1 _ 0 _ rfl).trans (((zf1 _ 0 _ rfl).trans ((List.Perm.refl _).cons _)).cons _)))).symm
        have hP : va_P X.1 vwCl (zb [WMo o ma mi ml, WMp X ma pv, Wa X 2 (ma 9) 5 kz, Wa X 2 (ma 25) 9261 fm]) H := hP
        have hD : va_D A (zb [WMo o ma mi ml, WMp X ma pv, Wa X 2 (ma 9) 5 kz, Wa X 2 (ma 25) 9261 fm]) := hD
        refine W.eq (g2 := F0 m 46 ls [.int (iI (tbZ (pv 0) x))]) rfl ?_
        refine z_topi (fun z_10 ez_10 => ?_)
        refine lv_istore (lv' := [(8, .int (iI z_10)), (7, .int (iI 1)), (0, .ref o), (1, .int (iI a)), (2, .int (iI b)), (3, .int (iI 0)), (4, .int (iI x)), (5, .int (iI y)), (6, .int (iI z))]) hx hb dX12_moreFrom_46 hl (by decide) rfl (fun ls hl => ?_)
        refine lv_aload_n hx hb dX12_moreFrom_48 rfl (lv_at hl 2 rfl) ?_
        refine va_get (ci := 12) (v := .ref (ma 25)) (C := RX12) (T := TX12) (N := 38) hx hb hts inX12 hown hK.1 hP 0 rfl rfl 25 (by decide) (hts (.fieldLink RX12 56 "SkimmedSonsModel" "moreBy" "[I") (by decide +kernel)) (fun _ h9 => h9) rfl dX12_moreFrom_49 ?_
        refine lv_iload_n hx hb dX12_moreFrom_52 rfl (lv_at hl 5 rfl) ?_
        refine z_if_ne (tgt := 63) hx hb (by omega) dX12_moreFrom_53 (by decide) (fun c_11 => ?_) (fun c_11 => ?_)
        · skip
          exact absurd c_11 (by omega)
        · skip
          refine lv_iload hx hb dX12_moreFrom_56 (lv_at hl 6 rfl) ?_
          refine lv_iconst (v := iI 1) hx hb dX12_moreFrom_58 (by decide) ?_
          refine z_iadd hx hb dX12_moreFrom_59 ?_
          refine lv_goto (tgt := 65) hx hb dX12_moreFrom_60 (by decide) ?_
          refine lv_iload_n hx hb dX12_moreFrom_65 rfl (lv_at hl 5 rfl) ?_
          refine lv_iconst (v := iI 1) hx hb dX12_moreFrom_66 (by decide) ?_
          refine z_icmp_ne (tgt := 77) hx hb (by omega) dX12_moreFrom_67 (by decide) (fun c_12 => ?_) (fun c_12 => ?_)
          · skip
            refine lv_iload hx hb dX12_moreFrom_77 (lv_at hl 7 rfl) ?_
            refine lv_iload_n hx hb dX12_moreFrom_79 rfl (lv_at hl 5 rfl) ?_
            refine lv_iconst (v := iI 2) hx hb dX12_moreFrom_80 (by decide) ?_
            refine z_icmp_ne (tgt := 91) hx hb (by omega) dX12_moreFrom_81 (by decide) (fun c_13 => ?_) (fun c_13 => ?_)
            · skip
              refine lv_iload hx hb dX12_moreFrom_91 (lv_at hl 8 rfl) ?_
              have hPm := zp_perm hP (zblk (show List.Perm ([WMo o ma mi ml, WMp X ma pv, Wa X 2 (ma 9) 5 kz, Wa X 2 (ma 25) 9261 fm] : List va_W) ([] ++ [WMo o ma mi ml, WMp X ma pv, Wa X 2 (ma 9) 5 kz, Wa X 2 (ma 25) 9261 fm]) from List.Perm.refl _))
              have hDm := zd_perm hD (zblk (show List.Perm ([WMo o ma mi ml, WMp X ma pv, Wa X 2 (ma 9) 5 kz, Wa X 2 (ma 25) 9261 fm] : List va_W) ([] ++ [WMo o ma mi ml, WMp X ma pv, Wa X 2 (ma 9) 5 kz, Wa X 2 (ma 25) 9261 fm]) from List.Perm.refl _))
              refine z_callS (wr := zb [WMo o ma mi ml, WMp X ma pv, Wa X 2 (ma 9) 5 kz, Wa X 2 (ma 25) 9261 fm]) (As := [.int (iI (x + 1)), .int (iI y), .int (iI z)]) (rest := [.ref (ma 25)]) ⟨hx, hb, hml, hown, hts⟩ (c_X12_slot l X (x + 1) y z ) (va_cwS 3 hts gX12_moreFrom_X12_slot rfl rfl rfl (by decide +kernel) ⟨Nat.le_of_ble_eq_true rfl, Nat.le_of_ble_eq_true rfl⟩) hl.1 dX12_moreFrom_93 rfl rfl (Nat.le_of_ble_eq_true rfl) ⟨(Nat.le_of_ble_eq_true rfl), (Nat.le_of_ble_eq_true rfl)⟩ hS hA hK hPm hDm (fun _ H locs _ hP hD hS => ?_)
              have hP := zp_perm hP ((zblk (show List.Perm ([WMo o ma mi ml, WMp X ma pv, Wa X 2 (ma 9) 5 kz, Wa X 2 (ma 25) 9261 fm] : List va_W) ([] ++ [WMo o ma mi ml, WMp X ma pv, Wa X 2 (ma 9) 5 kz, Wa X 2 (ma 25) 9261 fm]) from List.Perm.refl _))).symm
              have hD := zd_perm hD ((zblk (show List.Perm ([WMo o ma mi ml, WMp X ma pv, Wa X 2 (ma 9) 5 kz, Wa X 2 (ma 25) 9261 fm] : List va_W) ([] ++ [WMo o ma mi ml, WMp X ma pv, Wa X 2 (ma 9) 5 kz, Wa X 2 (ma 25) 9261 fm]) from List.Perm.refl _))).symm
              have hP : va_P X.1 vwCl (zb [WMo o ma mi ml, WMp X ma pv, Wa X 2 (ma 9) 5 kz, Wa X 2 (ma 25) 9261 fm]) H := hP
              have hD : va_D A (zb [WMo o ma mi ml, WMp X ma pv, Wa X 2 (ma 9) 5 kz, Wa X 2 (ma 25) 9261 fm]) := hD
              refine W.eq (g2 := F0 m 96 ls [.int (iI (441 * (x + 1) + 21 * y + z)), .ref (ma 25)]) rfl ?_
              have hfi := hfm (441 * (x + 1) + 21 * y + z).toNat
              refine z_iald hx hb hK.1 hP 8 rfl (by omega) dX12_moreFrom_96 ?_
              refine W.eq (g2 := F0 m 97 ls [.int (iI (fm ((441 * (x + 1) + 21 * y + z).toNat)))]) rfl ?_
              refine z_topi (fun z_14 ez_14 => ?_)
              refine lv_istore (lv' := [(9, .int (iI z_14)), (8, .int (iI z_10)), (7, .int (iI 1)), (0, .ref o), (1, .int (iI a)), (2, .int (iI b)), (3, .int (iI 0)), (4, .int (iI x)), (5, .int (iI y)), (6, .int (iI z))]) hx hb dX12_moreFrom_97 hl (by decide) rfl (fun ls hl => ?_)
              refine lv_iload hx hb dX12_moreFrom_99 (lv_at hl 0 rfl) ?_
              refine lv_iload hx hb dX12_moreFrom_101 (lv_at hl 2 rfl) ?_
              refine z_if_eq (tgt := 116) hx hb (by omega) dX12_moreFrom_103 (by decide) (fun c_15 => ?_) (fun c_15 => ?_)
              · skip
                exact absurd c_15 (by omega)
              · skip
                refine lv_aload_n hx hb dX12_moreFrom_106 rfl (lv_at hl 3 rfl) ?_
                refine lv_iload_n hx hb dX12_moreFrom_107 rfl (lv_at hl 4 rfl) ?_
                refine lv_iload hx hb dX12_moreFrom_108 (lv_at hl 1 rfl) ?_
                have hPm := zp_perm hP (zblk (show List.Perm ([WMo o ma mi ml, WMp X ma pv, Wa X 2 (ma 9) 5 kz, Wa X 2 (ma 25) 9261 fm] : List va_W) ([WMo o ma mi ml, Wa X 2 (ma 9) 5 kz] ++ [WMp X ma pv, Wa X 2 (ma 25) 9261 fm]) from (zf1 _ 0 _ rfl).trans (((zf1 _ 1 _ rfl).trans ((List.Perm.refl _).cons _)).cons _)))
                have hDm := zd_perm hD (zblk (show List.Perm ([WMo o ma mi ml, WMp X ma pv, Wa X 2 (ma 9) 5 kz, Wa X 2 (ma 25) 9261 fm] : List va_W) ([WMo o ma mi ml, Wa X 2 (ma 9) 5 kz] ++ [WMp X ma pv, Wa X 2 (ma 25) 9261 fm]) from (zf1 _ 0 _ rfl).trans (((zf1 _ 1 _ rfl).trans ((List.Perm.refl _).cons _)).cons _)))
                refine z_callV (wr := zb [WMp X ma pv, Wa X 2 (ma 25) 9261 fm]) (As := [.int (iI a), .int (iI z_10)]) (rest := [.int (iI z_14)]) ⟨hx, hb, hml, hown, hts⟩ (c_X12_worthOf l X o ma mi ml kz a z_10 (by omega) (by exact hka) (by subst_vars; unfold tbZ; split; decide; split <;> decide)) (cwV 2 hts gX12_moreFrom_X12_worthOf rfl rfl rfl (by decide +kernel) ⟨Nat.le_of_ble_eq_true rfl, Nat.le_of_ble_eq_true rfl⟩) rfl rfl hl.1 dX12_moreFrom_110 rfl rfl (Nat.le_of_ble_eq_true rfl) ⟨(Nat.le_of_ble_eq_true rfl), (Nat.le_of_ble_eq_true rfl)⟩ hS hA hK hPm hDm (fun _ H locs _ hP hD hS => ?_)
                have hP := zp_perm hP ((zblk (show List.Perm ([WMo o ma mi ml, WMp X ma pv, Wa X 2 (ma 9) 5 kz, Wa X 2 (ma 25) 9261 fm] : List va_W) ([WMo o ma mi ml, Wa X 2 (ma 9) 5 kz] ++ [WMp X ma pv, Wa X 2 (ma 25) 9261 fm]) from (zf1 _ 0 _ rfl).trans (((zf1 _ 1 _ rfl).trans ((List.Perm.refl _).cons _)).cons _)))).symm
                have hD := zd_perm hD ((zblk (show List.Perm ([WMo o ma mi ml, WMp X ma pv, Wa X 2 (ma 9) 5 kz, Wa X 2 (ma 25) 9261 fm] : List va_W) ([WMo o ma mi ml, Wa X 2 (ma 9) 5 kz] ++ [WMp X ma pv, Wa X 2 (ma 25) 9261 fm]) from (zf1 _ 0 _ rfl).trans (((zf1 _ 1 _ rfl).trans ((List.Perm.refl _).cons _)).cons _)))).symm
                have hP : va_P X.1 vwCl (zb [WMo o ma mi ml, WMp X ma pv, Wa X 2 (ma 9) 5 kz, Wa X 2 (ma 25) 9261 fm]) H := hP
                have hD : va_D A (zb [WMo o ma mi ml, WMp X ma pv, Wa X 2 (ma 9) 5 kz, Wa X 2 (ma 25) 9261 fm]) := hD
                refine W.eq (g2 := F0 m 113 ls [.int (iI (wOf (kdM kz a.toNat) z_10)), .int (iI z_14)]) rfl ?_
                refine lv_goto (tgt := 124) hx hb dX12_moreFrom_113 (by decide) ?_
                refine z_iadd hx hb dX12_moreFrom_124 ?_
                have hmf : mfZ (kdM kz a.toNat) (kdM kz b.toNat) pv fm 0 x y z = fm (441 * (x + 1) + 21 * y + z).toNat + wOf (kdM kz a.toNat) (tbZ (pv 0) x) := by unfold mfZ vlG; rw [show slZ 0 x y z = 441 * (x + 1) + 21 * y + z from rfl, show tkI (x + y + z) = 1 by unfold tkI; omega] <;> rfl
                exact z_iret hQ hx hb hr hlocks hS ⟨(Nat.le_of_ble_eq_true rfl), (Nat.le_of_ble_eq_true rfl)⟩ dX12_moreFrom_125 () (congrArg (fun z => some (Value.int (iI z))) (show (mfZ (kdM kz a.toNat) (kdM kz b.toNat) pv fm 0 x y z : Int) = z_14 + (wOf (kdM kz a.toNat) z_10) by subst_vars; exact hmf)) trivial hP hD
            · skip
              exact absurd c_13 (by omega)
          · skip
            exact absurd c_12 (by omega)
  · skip
    have hl : lv_has ls 10 [(0, .ref o), (1, .int (iI a)), (2, .int (iI b)), (3, .int (iI 1)), (4, .int (iI x)), (5, .int (iI y)), (6, .int (iI z))] := hl
    have hsx : selZ 1 x y z = y := rfl
    refine lv_iload hx hb dX12_moreFrom_0 (lv_at hl 4 rfl) ?_
    refine lv_iload hx hb dX12_moreFrom_2 (lv_at hl 5 rfl) ?_
    refine z_iadd hx hb dX12_moreFrom_4 ?_
    refine lv_iload hx hb dX12_moreFrom_5 (lv_at hl 6 rfl) ?_
    refine z_iadd hx hb dX12_moreFrom_7 ?_
    refine lv_iconst (v := iI 2) hx hb dX12_moreFrom_8 (by decide) ?_
    refine z_irem hx hb (by omega) dX12_moreFrom_9 ?_
    refine z_if_ne (tgt := 17) hx hb (by omega) dX12_moreFrom_10 (by decide) (fun c_16 => ?_) (fun c_16 => ?_)
    · skip
      refine lv_iconst (v := iI 0) hx hb dX12_moreFrom_17 (by decide) ?_
      refine lv_istore (lv' := [(7, .int (iI 0)), (0, .ref o), (1, .int (iI a)), (2, .int (iI b)), (3, .int (iI 1)), (4, .int (iI x)), (5, .int (iI y)), (6, .int (iI z))]) hx hb dX12_moreFrom_18 hl (by decide) rfl (fun ls hl => ?_)
      refine lv_aload_n hx hb dX12_moreFrom_20 rfl (lv_at hl 1 rfl) ?_
      refine lv_iload_n hx hb dX12_moreFrom_21 rfl (lv_at hl 4 rfl) ?_
      refine lv_iload_n hx hb dX12_moreFrom_22 rfl (lv_at hl 4 rfl) ?_
      refine z_if_ne (tgt := 31) hx hb (by omega) dX12_moreFrom_23 (by decide) (fun c_17 => ?_) (fun c_17 => ?_)
      · skip
        refine lv_iload_n hx hb dX12_moreFrom_31 rfl (lv_at hl 4 rfl) ?_
        refine lv_iconst (v := iI 1) hx hb dX12_moreFrom_32 (by decide) ?_
        refine z_icmp_ne (tgt := 41) hx hb (by omega) dX12_moreFrom_33 (by decide) (fun c_18 => ?_) (fun c_18 => ?_)
        · skip
          exact absurd c_18 (by omega)
        · skip
          refine lv_iload hx hb dX12_moreFrom_36 (lv_at hl 6 rfl) ?_
          refine lv_goto (tgt := 43) hx hb dX12_moreFrom_38 (by decide) ?_
          have hPm := zp_perm hP (zblk (show List.Perm ([WMo o ma mi ml, WMp X ma pv, Wa X 2 (ma 9) 5 kz, Wa X 2 (ma 25) 9261 fm] : List va_W) ([WMo o ma mi ml, WMp X ma pv] ++ [Wa X 2 (ma 9) 5 kz, Wa X 2 (ma 25) 9261 fm]) from (zf1 _ 0 _ rfl).trans (((zf1 _ 0 _ rfl).trans ((List.Perm.refl _).cons _)).cons _)))
          have hDm := zd_perm hD (zblk (show List.Perm ([WMo o ma mi ml, WMp X ma pv, Wa X 2 (ma 9) 5 kz, Wa X 2 (ma 25) 9261 fm] : List va_W) ([WMo o ma mi ml, WMp X ma pv] ++ [Wa X 2 (ma 9) 5 kz, Wa X 2 (ma 25) 9261 fm]) from (zf1 _ 0 _ rfl).trans (((zf1 _ 0 _ rfl).trans ((List.Perm.refl _).cons _)).cons _)))
          refine z_callV (wr := zb [Wa X 2 (ma 9) 5 kz, Wa X 2 (ma 25) 9261 fm]) (As := [.int (iI 1), .int (iI y)]) (rest := []) ⟨hx, hb, hml, hown, hts⟩ (c_X12_topBehind l X o ma mi ml pv 1 y (by exact hpq) (by omega) (by omega)) (cwV 2 hts gX12_moreFrom_X12_topBehind rfl rfl rfl (by decide +kernel) ⟨Nat.le_of_ble_eq_true rfl, Nat.le_of_ble_eq_true rfl⟩) rfl rfl hl.1 dX12_moreFrom_43 rfl rfl (Nat.le_of_ble_eq_true rfl) ⟨(Nat.le_of_ble_eq_true rfl), (Nat.le_of_ble_eq_true rfl)⟩ hS hA hK hPm hDm (fun _ H locs _ hP hD hS => ?_)
          have hP := zp_perm hP ((zblk (show List.Perm ([WMo o ma mi ml, WMp X ma pv, Wa X 2 (ma 9) 5 kz, Wa X 2 (ma 25) 9261 fm] : List va_W) ([WMo o ma mi ml, WMp X ma pv] ++ [Wa X 2 (ma 9) 5 kz, Wa X 2 (ma 25) 9261 fm]) from (zf1 _ 0 _ rfl).trans (((zf1 _ 0 _ rfl).trans ((List.Perm.refl _).cons _)).cons _)))).symm
          have hD := zd_perm hD ((zblk (show List.Perm ([WMo o ma mi ml, WMp X ma pv, Wa X 2 (ma 9) 5 kz, Wa X 2 (ma 25) 9261 fm] : List va_W) ([WMo o ma mi ml, WMp X ma pv] ++ [Wa X 2 (ma 9) 5 kz, Wa X 2 (ma 25) 9261 fm]) from (zf1 _ 0 _ rfl).trans (((zf1 _ 0 _ rfl).trans ((List.Perm.refl _).cons _)).cons _)))).symm
          have hP : va_P X.1 vwCl (zb [WMo o ma mi ml, WMp X ma pv, Wa X 2 (ma 9) 5 kz, Wa X 2 (ma 25) 9261 fm]) H := hP
          have hD : va_D A (zb [WMo o ma mi ml, WMp X ma pv, Wa X 2 (ma 9) 5 kz, Wa X 2 (ma 25) 9261 fm]) := hD
          refine W.eq (g2 := F0 m 46 ls [.int (iI (tbZ (pv 1) y))]) rfl ?_
          refine z_topi (fun z_19 ez_19 => ?_)
          refine lv_istore (lv' := [(8, .int (iI z_19)), (7, .int (iI 0)), (0, .ref o), (1, .int (iI a)), (2, .int (iI b)), (3, .int (iI 1)), (4, .int (iI x)), (5, .int (iI y)), (6, .int (iI z))]) hx hb dX12_moreFrom_46 hl (by decide) rfl (fun ls hl => ?_)
          refine lv_aload_n hx hb dX12_moreFrom_48 rfl (lv_at hl 2 rfl) ?_
          refine va_get (ci := 12) (v := .ref (ma 25)) (C := RX12) (T := TX12) (N := 38) hx hb hts inX12 hown hK.1 hP 0 rfl rfl 25 (by decide) (hts (.fieldLink RX12 56 "SkimmedSonsModel" "moreBy" "[I") (by decide +kernel)) (fun _ h9 => h9) rfl dX12_moreFrom_49 ?_
          refine lv_iload_n hx hb dX12_moreFrom_52 rfl (lv_at hl 5 rfl) ?_
          refine z_if_ne (tgt := 63) hx hb (by omega) dX12_moreFrom_53 (by decide) (fun c_20 => ?_) (fun c_20 => ?_)
          · skip
            refine lv_iload hx hb dX12_moreFrom_63 (lv_at hl 6 rfl) ?_
            refine lv_iload_n hx hb dX12_moreFrom_65 rfl (lv_at hl 5 rfl) ?_
            refine lv_iconst (v := iI 1) hx hb dX12_moreFrom_66 (by decide) ?_
            refine z_icmp_ne (tgt := 77) hx hb (by omega) dX12_moreFrom_67 (by decide) (fun c_21 => ?_) (fun c_21 => ?_)
            · skip
              exact absurd c_21 (by omega)
            · skip
              refine lv_iload hx hb dX12_moreFrom_70 (lv_at hl 7 rfl) ?_
              refine lv_iconst (v := iI 1) hx hb dX12_moreFrom_72 (by decide) ?_
              refine z_iadd hx hb dX12_moreFrom_73 ?_
              refine lv_goto (tgt := 79) hx hb dX12_moreFrom_74 (by decide) ?_
              refine lv_iload_n hx hb dX12_moreFrom_79 rfl (lv_at hl 5 rfl) ?_
              refine lv_iconst (v := iI 2) hx hb dX12_moreFrom_80 (by decide) ?_
              refine z_icmp_ne (tgt := 91) hx hb (by omega) dX12_moreFrom_81 (by decide) (fun c_22 => ?_) (fun c_22 => ?_)
              · skip
                refine lv_iload hx hb dX12_moreFrom_91 (lv_at hl 8 rfl) ?_
                have hPm := zp_perm hP (zblk (show List.Perm ([WMo o ma mi ml, WMp X ma pv, Wa X 2 (ma 9) 5 kz, Wa X 2 (ma 25) 9261 fm] : List va_W) ([] ++ [WMo o ma mi ml, WMp X ma pv, Wa X 2 (ma 9) 5 kz, Wa X 2 (ma 25) 9261 fm]) from List.Perm.refl _))
                have hDm := zd_perm hD (zblk (show List.Perm ([WMo o ma mi ml, WMp X ma pv, Wa X 2 (ma 9) 5 kz, Wa X 2 (ma 25) 9261 fm] : List va_W) ([] ++ [WMo o ma mi ml, WMp X ma pv, Wa X 2 (ma 9) 5 kz, Wa X 2 (ma 25) 9261 fm]) from List.Perm.refl _))
                refine z_callS (wr := zb [WMo o ma mi ml, WMp X ma pv, Wa X 2 (ma 9) 5 kz, Wa X 2 (ma 25) 9261 fm]) (As := [.int (iI x), .int (iI (y + 1)), .int (iI z)]) (rest := [.ref (ma 25)]) ⟨hx, hb, hml, hown, hts⟩ (c_X12_slot l X x (y + 1) z ) (va_cwS 3 hts gX12_moreFrom_X12_slot rfl rfl rfl (by decide +kernel) ⟨Nat.le_of_ble_eq_true rfl, Nat.le_of_ble_eq_true rfl⟩) hl.1 dX12_moreFrom_93 rfl rfl (Nat.le_of_ble_eq_true rfl) ⟨(Nat.le_of_ble_eq_true rfl), (Nat.le_of_ble_eq_true rfl)⟩ hS hA hK hPm hDm (fun _ H locs _ hP hD hS => ?_)
                have hP := zp_perm hP ((zblk (show List.Perm ([WMo o ma mi ml, WMp X ma pv, Wa X 2 (ma 9) 5 kz, Wa X 2 (ma 25) 9261 fm] : List va_W) ([] ++ [WMo o ma mi ml, WMp X ma pv, Wa X 2 (ma 9) 5 kz, Wa X 2 (ma 25) 9261 fm]) from List.Perm.refl _))).symm
                have hD := zd_perm hD ((zblk (show List.Perm ([WMo o ma mi ml, WMp X ma pv, Wa X 2 (ma 9) 5 kz, Wa X 2 (ma 25) 9261 fm] : List va_W) ([] ++ [WMo o ma mi ml, WMp X ma pv, Wa X 2 (ma 9) 5 kz, Wa X 2 (ma 25) 9261 fm]) from List.Perm.refl _))).symm
                have hP : va_P X.1 vwCl (zb [WMo o ma mi ml, WMp X ma pv, Wa X 2 (ma 9) 5 kz, Wa X 2 (ma 25) 9261 fm]) H := hP
                have hD : va_D A (zb [WMo o ma mi ml, WMp X ma pv, Wa X 2 (ma 9) 5 kz, Wa X 2 (ma 25) 9261 fm]) := hD
                refine W.eq (g2 := F0 m 96 ls [.int (iI (441 * x + 21 * (y + 1) + z)), .ref (ma 25)]) rfl ?_
                have hfi := hfm (441 * x + 21 * (y + 1) + z).toNat
                refine z_iald hx hb hK.1 hP 8 rfl (by omega) dX12_moreFrom_96 ?_
                refine W.eq (g2 := F0 m 97 ls [.int (iI (fm ((441 * x + 21 * (y + 1) + z).toNat)))]) rfl ?_
                refine z_topi (fun z_23 ez_23 => ?_)
                refine lv_istore (lv' := [(9, .int (iI z_23)), (8, .int (iI z_19)), (7, .int (iI 0)), (0, .ref o), (1, .int (iI a)), (2, .int (iI b)), (3, .int (iI 1)), (4, .int (iI x)), (5, .int (iI y)), (6, .int (iI z))]) hx hb dX12_moreFrom_97 hl (by decide) rfl (fun ls hl => ?_)
                refine lv_iload hx hb dX12_moreFrom_99 (lv_at hl 0 rfl) ?_
                refine lv_iload hx hb dX12_moreFrom_101 (lv_at hl 2 rfl) ?_
                refine z_if_eq (tgt := 116) hx hb (by omega) dX12_moreFrom_103 (by decide) (fun c_24 => ?_) (fun c_24 => ?_)
                · skip
                  refine lv_aload_n hx hb dX12_moreFrom_116 rfl (lv_at hl 3 rfl) ?_
                  refine lv_iload_n hx hb dX12_moreFrom_117 rfl (lv_at hl 5 rfl) ?_
                  refine lv_iload hx hb dX12_moreFrom_118 (lv_at hl 1 rfl) ?_
                  have hPm := zp_perm hP (zblk (show List.Perm ([WMo o ma mi ml, WMp X ma pv, Wa X 2 (ma 9) 5 kz, Wa X 2 (ma 25) 9261 fm] : List va_W) ([WMo o ma mi ml, Wa X 2 (ma 9) 5 kz] ++ [WMp X ma pv, Wa X 2 (ma 25) 9261 fm]) from (zf1 _ 0 _ rfl).trans (((zf1 _ 1 _ rfl).trans ((List.Perm.refl _).cons _)).cons _)))
                  have hDm := zd_perm hD (zblk (show List.Perm ([WMo o ma mi ml, WMp X ma pv, Wa X 2 (ma 9) 5 kz, Wa X 2 (ma 25) 9261 fm] : List va_W) ([WMo o ma mi ml, Wa X 2 (ma 9) 5 kz] ++ [WMp X ma pv, Wa X 2 (ma 25) 9261 fm]) from (zf1 _ 0 _ rfl).trans (((zf1 _ 1 _ rfl).trans ((List.Perm.refl _).cons _)).cons _)))
                  refine z_callV (wr := zb [WMp X ma pv, Wa X 2 (ma 25) 9261 fm]) (As := [.int (iI b), .int (iI z_19)]) (rest := [.int (iI z_23)]) ⟨hx, hb, hml, hown, hts⟩ (c_X12_worthOf l X o ma mi ml kz b z_19 (by omega) (by exact hkb) (by subst_vars; unfold tbZ; split; decide; split <;> decide)) (cwV 2 hts gX12_moreFrom_X12_worthOf rfl rfl rfl (by decide +kernel) ⟨Nat.le_of_ble_eq_true rfl, Nat.le_of_ble_eq_true rfl⟩) rfl rfl hl.1 dX12_moreFrom_120 rfl rfl (Nat.le_of_ble_eq_true rfl) ⟨(Nat.le_of_ble_eq_true rfl), (Nat.le_of_ble_eq_true rfl)⟩ hS hA hK hPm hDm (fun _ H locs _ hP hD hS => ?_)
                  have hP := zp_perm hP ((zblk (show List.Perm ([WMo o ma mi ml, WMp X ma pv, Wa X 2 (ma 9) 5 kz, Wa X 2 (ma 25) 9261 fm] : List va_W) ([WMo o ma mi ml, Wa X 2 (ma 9) 5 kz] ++ [WMp X ma pv, Wa X 2 (ma 25) 9261 fm]) from (zf1 _ 0 _ rfl).trans (((zf1 _ 1 _ rfl).trans ((List.Perm.refl _).cons _)).cons _)))).symm
                  have hD := zd_perm hD ((zblk (show List.Perm ([WMo o ma mi ml, WMp X ma pv, Wa X 2 (ma 9) 5 kz, Wa X 2 (ma 25) 9261 fm] : List va_W) ([WMo o ma mi ml, Wa X 2 (ma 9) 5 kz] ++ [WMp X ma pv, Wa X 2 (ma 25) 9261 fm]) from (zf1 _ 0 _ rfl).trans (((zf1 _ 1 _ rfl).trans ((List.Perm.refl _).cons _)).cons _)))).symm
                  have hP : va_P X.1 vwCl (zb [WMo o ma mi ml, WMp X ma pv, Wa X 2 (ma 9) 5 kz, Wa X 2 (ma 25) 9261 fm]) H := hP
                  have hD : va_D A (zb [WMo o ma mi ml, WMp X ma pv, Wa X 2 (ma 9) 5 kz, Wa X 2 (ma 25) 9261 fm]) := hD
                  refine W.eq (g2 := F0 m 123 ls [.int (iI (wOf (kdM kz b.toNat) z_19)), .int (iI z_23)]) rfl ?_
                  refine z_ineg hx hb dX12_moreFrom_123 ?_
                  refine z_iadd hx hb dX12_moreFrom_124 ?_
                  have hmf : mfZ (kdM kz a.toNat) (kdM kz b.toNat) pv fm 1 x y z = fm (441 * x + 21 * (y + 1) + z).toNat + -(wOf (kdM kz b.toNat) (tbZ (pv 1) y)) := by unfold mfZ vlG; rw [show slZ 1 x y z = 441 * x + 21 * (y + 1) + z from rfl, show tkI (x + y + z) = 0 by unfold tkI; omega] <;> rfl
                  exact z_iret hQ hx hb hr hlocks hS ⟨(Nat.le_of_ble_eq_true rfl), (Nat.le_of_ble_eq_true rfl)⟩ dX12_moreFrom_125 () (congrArg (fun z => some (Value.int (iI z))) (show (mfZ (kdM kz a.toNat) (kdM kz b.toNat) pv fm 1 x y z : Int) = z_23 + (-(wOf (kdM kz b.toNat) z_19)) by subst_vars; exact hmf)) trivial hP hD
                · skip
                  exact absurd c_24 (by omega)
              · skip
                exact absurd c_22 (by omega)
          · skip
            exact absurd c_20 (by omega)
      · skip
        exact absurd c_17 (by omega)
    · skip
      refine lv_iconst (v := iI 1) hx hb dX12_moreFrom_13 (by decide) ?_
      refine lv_goto (tgt := 18) hx hb dX12_moreFrom_14 (by decide) ?_
      refine lv_istore (lv' := [(7, .int (iI 1)), (0, .ref o), (1, .int (iI a)), (2, .int (iI b)), (3, .int (iI 1)), (4, .int (iI x)), (5, .int (iI y)), (6, .int (iI z))]) hx hb dX12_moreFrom_18 hl (by decide) rfl (fun ls hl => ?_)
      refine lv_aload_n hx hb dX12_moreFrom_20 rfl (lv_at hl 1 rfl) ?_
      refine lv_iload_n hx hb dX12_moreFrom_21 rfl (lv_at hl 4 rfl) ?_
      refine lv_iload_n hx hb dX12_moreFrom_22 rfl (lv_at hl 4 rfl) ?_
      refine z_if_ne (tgt := 31) hx hb (by omega) dX12_moreFrom_23 (by decide) (fun c_25 => ?_) (fun c_25 => ?_)
      · skip
        refine lv_iload_n hx hb dX12_moreFrom_31 rfl (lv_at hl 4 rfl) ?_
        refine lv_iconst (v := iI 1) hx hb dX12_moreFrom_32 (by decide) ?_
        refine z_icmp_ne (tgt := 41) hx hb (by omega) dX12_moreFrom_33 (by decide) (fun c_26 => ?_) (fun c_26 => ?_)
        · skip
          exact absurd c_26 (by omega)
        · skip
          refine lv_iload hx hb dX12_moreFrom_36 (lv_at hl 6 rfl) ?_
          refine lv_goto (tgt := 43) hx hb dX12_moreFrom_38 (by decide) ?_
          have hPm := zp_perm hP (zblk (show List.Perm ([WMo o ma mi ml, WMp X ma pv, Wa X 2 (ma 9) 5 kz, Wa X 2 (ma 25) 9261 fm] : List va_W) ([WMo o ma mi ml, WMp X ma pv] ++ [Wa X 2 (ma 9) 5 kz, Wa X 2 (ma 25) 9261 fm]) from (zf1 _ 0 _ rfl).trans (((zf1 _ 0 _ rfl).trans ((List.Perm.refl _).cons _)).cons _)))
          have hDm := zd_perm hD (zblk (show List.Perm ([WMo o ma mi ml, WMp X ma pv, Wa X 2 (ma 9) 5 kz, Wa X 2 (ma 25) 9261 fm] : List va_W) ([WMo o ma mi ml, WMp X ma pv] ++ [Wa X 2 (ma 9) 5 kz, Wa X 2 (ma 25) 9261 fm]) from (zf1 _ 0 _ rfl).trans (((zf1 _ 0 _ rfl).trans ((List.Perm.refl _).cons _)).cons _)))
          refine z_callV (wr := zb [Wa X 2 (ma 9) 5 kz, Wa X 2 (ma 25) 9261 fm]) (As := [.int (iI 1), .int (iI y)]) (rest := []) ⟨hx, hb, hml, hown, hts⟩ (c_X12_topBehind l X o ma mi ml pv 1 y (by exact hpq) (by omega) (by omega)) (cwV 2 hts gX12_moreFrom_X12_topBehind rfl rfl rfl (by decide +kernel) ⟨Nat.le_of_ble_eq_true rfl, Nat.le_of_ble_eq_true rfl⟩) rfl rfl hl.1 dX12_moreFrom_43 rfl rfl (Nat.le_of_ble_eq_true rfl) ⟨(Nat.le_of_ble_eq_true rfl), (Nat.le_of_ble_eq_true rfl)⟩ hS hA hK hPm hDm (fun _ H locs _ hP hD hS => ?_)
          have hP := zp_perm hP ((zblk (show List.Perm ([WMo o ma mi ml, WMp X ma pv, Wa X 2 (ma 9) 5 kz, Wa X 2 (ma 25) 9261 fm] : List va_W) ([WMo o ma mi ml, WMp X ma pv] ++ [Wa X 2 (ma 9) 5 kz, Wa X 2 (ma 25) 9261 fm]) from (zf1 _ 0 _ rfl).trans (((zf1 _ 0 _ rfl).trans ((List.Perm.refl _).cons _)).cons _)))).symm
          have hD := zd_perm hD ((zblk (show List.Perm ([WMo o ma mi ml, WMp X ma pv, Wa X 2 (ma 9) 5 kz, Wa X 2 (ma 25) 9261 fm] : List va_W) ([WMo o ma mi ml, WMp X ma pv] ++ [Wa X 2 (ma 9) 5 kz, Wa X 2 (ma 25) 9261 fm]) from (zf1 _ 0 _ rfl).trans (((zf1 _ 0 _ rfl).trans ((List.Perm.refl _).cons _)).cons _)))).symm
          have hP : va_P X.1 vwCl (zb [WMo o ma mi ml, WMp X ma pv, Wa X 2 (ma 9) 5 kz, Wa X 2 (ma 25) 9261 fm]) H := hP
          have hD : va_D A (zb [WMo o ma mi ml, WMp X ma pv, Wa X 2 (ma 9) 5 kz, Wa X 2 (ma 25) 9261 fm]) := hD
          refine W.eq (g2 := F0 m 46 ls [.int (iI (tbZ (pv 1) y))]) rfl ?_
          refine z_topi (fun z_27 ez_27 => ?_)
          refine lv_istore (lv' := [(8, .int (iI z_27)), (7, .int (iI 1)), (0, .ref o), (1, .int (iI a)), (2, .int (iI b)), (3, .int (iI 1)), (4, .int (iI x)), (5, .int (iI y)), (6, .int (iI z))]) hx hb dX12_moreFrom_46 hl (by decide) rfl (fun ls hl => ?_)
          refine lv_aload_n hx hb dX12_moreFrom_48 rfl (lv_at hl 2 rfl) ?_
          refine va_get (ci := 12) (v := .ref (ma 25)) (C := RX12) (T := TX12) (N := 38) hx hb hts inX12 hown hK.1 hP 0 rfl rfl 25 (by decide) (hts (.fieldLink RX12 56 "SkimmedSonsModel" "moreBy" "[I") (by decide +kernel)) (fun _ h9 => h9) rfl dX12_moreFrom_49 ?_
          refine lv_iload_n hx hb dX12_moreFrom_52 rfl (lv_at hl 5 rfl) ?_
          refine z_if_ne (tgt := 63) hx hb (by omega) dX12_moreFrom_53 (by decide) (fun c_28 => ?_) (fun c_28 => ?_)
          · skip
            refine lv_iload hx hb dX12_moreFrom_63 (lv_at hl 6 rfl) ?_
            refine lv_iload_n hx hb dX12_moreFrom_65 rfl (lv_at hl 5 rfl) ?_
            refine lv_iconst (v := iI 1) hx hb dX12_moreFrom_66 (by decide) ?_
            refine z_icmp_ne (tgt := 77) hx hb (by omega) dX12_moreFrom_67 (by decide) (fun c_29 => ?_) (fun c_29 => ?_)
            · skip
              exact absurd c_29 (by omega)
            · skip
              refine lv_iload hx hb dX12_moreFrom_70 (lv_at hl 7 rfl) ?_
              refine lv_iconst (v := iI 1) hx hb dX12_moreFrom_72 (by decide) ?_
              refine z_iadd hx hb dX12_moreFrom_73 ?_
              refine lv_goto (tgt := 79) hx hb dX12_moreFrom_74 (by decide) ?_
              refine lv_iload_n hx hb dX12_moreFrom_79 rfl (lv_at hl 5 rfl) ?_
              refine lv_iconst (v := iI 2) hx hb dX12_moreFrom_80 (by decide) ?_
              refine z_icmp_ne (tgt := 91) hx hb (by omega) dX12_moreFrom_81 (by decide) (fun c_30 => ?_) (fun c_30 => ?_)
              · skip
                refine lv_iload hx hb dX12_moreFrom_91 (lv_at hl 8 rfl) ?_
                have hPm := zp_perm hP (zblk (show List.Perm ([WMo o ma mi ml, WMp X ma pv, Wa X 2 (ma 9) 5 kz, Wa X 2 (ma 25) 9261 fm] : List va_W) ([] ++ [WMo o ma mi ml, WMp X ma pv, Wa X 2 (ma 9) 5 kz, Wa X 2 (ma 25) 9261 fm]) from List.Perm.refl _))
                have hDm := zd_perm hD (zblk (show List.Perm ([WMo o ma mi ml, WMp X ma pv, Wa X 2 (ma 9) 5 kz, Wa X 2 (ma 25) 9261 fm] : List va_W) ([] ++ [WMo o ma mi ml, WMp X ma pv, Wa X 2 (ma 9) 5 kz, Wa X 2 (ma 25) 9261 fm]) from List.Perm.refl _))
                refine z_callS (wr := zb [WMo o ma mi ml, WMp X ma pv, Wa X 2 (ma 9) 5 kz, Wa X 2 (ma 25) 9261 fm]) (As := [.int (iI x), .int (iI (y + 1)), .int (iI z)]) (rest := [.ref (ma 25)]) ⟨hx, hb, hml, hown, hts⟩ (c_X12_slot l X x (y + 1) z ) (va_cwS 3 hts gX12_moreFrom_X12_slot rfl rfl rfl (by decide +kernel) ⟨Nat.le_of_ble_eq_true rfl, Nat.le_of_ble_eq_true rfl⟩) hl.1 dX12_moreFrom_93 rfl rfl (Nat.le_of_ble_eq_true rfl) ⟨(Nat.le_of_ble_eq_true rfl), (Nat.le_of_ble_eq_true rfl)⟩ hS hA hK hPm hDm (fun _ H locs _ hP hD hS => ?_)
                have hP := zp_perm hP ((zblk (show List.Perm ([WMo o ma mi ml, WMp X ma pv, Wa X 2 (ma 9) 5 kz, Wa X 2 (ma 25) 9261 fm] : List va_W) ([] ++ [WMo o ma mi ml, WMp X ma pv, Wa X 2 (ma 9) 5 kz, Wa X 2 (ma 25) 9261 fm]) from List.Perm.refl _))).symm
                have hD := zd_perm hD ((zblk (show List.Perm ([WMo o ma mi ml, WMp X ma pv, Wa X 2 (ma 9) 5 kz, Wa X 2 (ma 25) 9261 fm] : List va_W) ([] ++ [WMo o ma mi ml, WMp X ma pv, Wa X 2 (ma 9) 5 kz, Wa X 2 (ma 25) 9261 fm]) from List.Perm.refl _))).symm
                have hP : va_P X.1 vwCl (zb [WMo o ma mi ml, WMp X ma pv, Wa X 2 (ma 9) 5 kz, Wa X 2 (ma 25) 9261 fm]) H := hP
                have hD : va_D A (zb [WMo o ma mi ml, WMp X ma pv, Wa X 2 (ma 9) 5 kz, Wa X 2 (ma 25) 9261 fm]) := hD
                refine W.eq (g2 := F0 m 96 ls [.int (iI (441 * x + 21 * (y + 1) + z)), .ref (ma 25)]) rfl ?_
                have hfi := hfm (441 * x + 21 * (y + 1) + z).toNat
                refine z_iald hx hb hK.1 hP 8 rfl (by omega) dX12_moreFrom_96 ?_
                refine W.eq (g2 := F0 m 97 ls [.int (iI (fm ((441 * x + 21 * (y + 1) + z).toNat)))]) rfl ?_
                refine z_topi (fun z_31 ez_31 => ?_)
                refine lv_istore (lv' := [(9, .int (iI z_31)), (8, .int (iI z_27)), (7, .int (iI 1)), (0, .ref o), (1, .int (iI a)), (2, .int (iI b)), (3, .int (iI 1)), (4, .int (iI x)), (5, .int (iI y)), (6, .int (iI z))]) hx hb dX12_moreFrom_97 hl (by decide) rfl (fun ls hl => ?_)
                refine lv_iload hx hb dX12_moreFrom_99 (lv_at hl 0 rfl) ?_
                refine lv_iload hx hb dX12_moreFrom_101 (lv_at hl 2 rfl) ?_
                refine z_if_eq (tgt := 116) hx hb (by omega) dX12_moreFrom_103 (by decide) (fun c_32 => ?_) (fun c_32 => ?_)
                · skip
                  exact absurd c_32 (by omega)
                · skip
                  refine lv_aload_n hx hb dX12_moreFrom_106 rfl (lv_at hl 3 rfl) ?_
                  refine lv_iload_n hx hb dX12_moreFrom_107 rfl (lv_at hl 4 rfl) ?_
                  refine lv_iload hx hb dX12_moreFrom_108 (lv_at hl 1 rfl) ?_
                  have hPm := zp_perm hP (zblk (show List.Perm ([WMo o ma mi ml, WMp X ma pv, Wa X 2 (ma 9) 5 kz, Wa X 2 (ma 25) 9261 fm] : List va_W) ([WMo o ma mi ml, Wa X 2 (ma 9) 5 kz] ++ [WMp X ma pv, Wa X 2 (ma 25) 9261 fm]) from (zf1 _ 0 _ rfl).trans (((zf1 _ 1 _ rfl).trans ((List.Perm.refl _).cons _)).cons _)))
                  have hDm := zd_perm hD (zblk (show List.Perm ([WMo o ma mi ml, WMp X ma pv, Wa X 2 (ma 9) 5 kz, Wa X 2 (ma 25) 9261 fm] : List va_W) ([WMo o ma mi ml, Wa X 2 (ma 9) 5 kz] ++ [WMp X ma pv, Wa X 2 (ma 25) 9261 fm]) from (zf1 _ 0 _ rfl).trans (((zf1 _ 1 _ rfl).trans ((List.Perm.refl _).cons _)).cons _)))
                  refine z_callV (wr := zb [WMp X ma pv, Wa X 2 (ma 25) 9261 fm]) (As := [.int (iI a), .int (iI z_27)]) (rest := [.int (iI z_31)]) ⟨hx, hb, hml, hown, hts⟩ (c_X12_worthOf l X o ma mi ml kz a z_27 (by omega) (by exact hka) (by subst_vars; unfold tbZ; split; decide; split <;> decide)) (cwV 2 hts gX12_moreFrom_X12_worthOf rfl rfl rfl (by decide +kernel) ⟨Nat.le_of_ble_eq_true rfl, Nat.le_of_ble_eq_true rfl⟩) rfl rfl hl.1 dX12_moreFrom_110 rfl rfl (Nat.le_of_ble_eq_true rfl) ⟨(Nat.le_of_ble_eq_true rfl), (Nat.le_of_ble_eq_true rfl)⟩ hS hA hK hPm hDm (fun _ H locs _ hP hD hS => ?_)
                  have hP := zp_perm hP ((zblk (show List.Perm ([WMo o ma mi ml, WMp X ma pv, Wa X 2 (ma 9) 5 kz, Wa X 2 (ma 25) 9261 fm] : List va_W) ([WMo o ma mi ml, Wa X 2 (ma 9) 5 kz] ++ [WMp X ma pv, Wa X 2 (ma 25) 9261 fm]) from (zf1 _ 0 _ rfl).trans (((zf1 _ 1 _ rfl).trans ((List.Perm.refl _).cons _)).cons _)))).symm
                  have hD := zd_perm hD ((zblk (show List.Perm ([WMo o ma mi ml, WMp X ma pv, Wa X 2 (ma 9) 5 kz, Wa X 2 (ma 25) 9261 fm] : List va_W) ([WMo o ma mi ml, Wa X 2 (ma 9) 5 kz] ++ [WMp X ma pv, Wa X 2 (ma 25) 9261 fm]) from (zf1 _ 0 _ rfl).trans (((zf1 _ 1 _ rfl).trans ((List.Perm.refl _).cons _)).cons _)))).symm
                  have hP : va_P X.1 vwCl (zb [WMo o ma mi ml, WMp X ma pv, Wa X 2 (ma 9) 5 kz, Wa X 2 (ma 25) 9261 fm]) H := hP
                  have hD : va_D A (zb [WMo o ma mi ml, WMp X ma pv, Wa X 2 (ma 9) 5 kz, Wa X 2 (ma 25) 9261 fm]) := hD
                  refine W.eq (g2 := F0 m 113 ls [.int (iI (wOf (kdM kz a.toNat) z_27)), .int (iI z_31)]) rfl ?_
                  refine lv_goto (tgt := 124) hx hb dX12_moreFrom_113 (by decide) ?_
                  refine z_iadd hx hb dX12_moreFrom_124 ?_
                  have hmf : mfZ (kdM kz a.toNat) (kdM kz b.toNat) pv fm 1 x y z = fm (441 * x + 21 * (y + 1) + z).toNat + wOf (kdM kz a.toNat) (tbZ (pv 1) y) := by unfold mfZ vlG; rw [show slZ 1 x y z = 441 * x + 21 * (y + 1) + z from rfl, show tkI (x + y + z) = 1 by unfold tkI; omega] <;> rfl
                  exact z_iret hQ hx hb hr hlocks hS ⟨(Nat.le_of_ble_eq_true rfl), (Nat.le_of_ble_eq_true rfl)⟩ dX12_moreFrom_125 () (congrArg (fun z => some (Value.int (iI z))) (show (mfZ (kdM kz a.toNat) (kdM kz b.toNat) pv fm 1 x y z : Int) = z_31 + (wOf (kdM kz a.toNat) z_27) by subst_vars; exact hmf)) trivial hP hD
              · skip
                exact absurd c_30 (by omega)
          · skip
            exact absurd c_28 (by omega)
      · skip
        exact absurd c_25 (by omega)
  · skip
    have hl : lv_has ls 10 [(0, .ref o), (1, .int (iI a)), (2, .int (iI b)), (3, .int (iI 2)), (4, .int (iI x)), (5, .int (iI y)), (6, .int (iI z))] := hl
    have hsx : selZ 2 x y z = z := rfl
    refine lv_iload hx hb dX12_moreFrom_0 (lv_at hl 4 rfl) ?_
    refine lv_iload hx hb dX12_moreFrom_2 (lv_at hl 5 rfl) ?_
    refine z_iadd hx hb dX12_moreFrom_4 ?_
    refine lv_iload hx hb dX12_moreFrom_5 (lv_at hl 6 rfl) ?_
    refine z_iadd hx hb dX12_moreFrom_7 ?_
    refine lv_iconst (v := iI 2) hx hb dX12_moreFrom_8 (by decide) ?_
    refine z_irem hx hb (by omega) dX12_moreFrom_9 ?_
    refine z_if_ne (tgt := 17) hx hb (by omega) dX12_moreFrom_10 (by decide) (fun c_33 => ?_) (fun c_33 => ?_)
    · skip
      refine lv_iconst (v := iI 0) hx hb dX12_moreFrom_17 (by decide) ?_
      refine lv_istore (lv' := [(7, .int (iI 0)), (0, .ref o), (1, .int (iI a)), (2, .int (iI b)), (3, .int (iI 2)), (4, .int (iI x)), (5, .int (iI y)), (6, .int (iI z))]) hx hb dX12_moreFrom_18 hl (by decide) rfl (fun ls hl => ?_)
      refine lv_aload_n hx hb dX12_moreFrom_20 rfl (lv_at hl 1 rfl) ?_
      refine lv_iload_n hx hb dX12_moreFrom_21 rfl (lv_at hl 4 rfl) ?_
      refine lv_iload_n hx hb dX12_moreFrom_22 rfl (lv_at hl 4 rfl) ?_
      refine z_if_ne (tgt := 31) hx hb (by omega) dX12_moreFrom_23 (by decide) (fun c_34 => ?_) (fun c_34 => ?_)
      · skip
        refine lv_iload_n hx hb dX12_moreFrom_31 rfl (lv_at hl 4 rfl) ?_
        refine lv_iconst (v := iI 1) hx hb dX12_moreFrom_32 (by decide) ?_
        refine z_icmp_ne (tgt := 41) hx hb (by omega) dX12_moreFrom_33 (by decide) (fun c_35 => ?_) (fun c_35 => ?_)
        · skip
          refine lv_iload hx hb dX12_moreFrom_41 (lv_at hl 7 rfl) ?_
          have hPm := zp_perm hP (zblk (show List.Perm ([WMo o ma mi ml, WMp X ma pv, Wa X 2 (ma 9) 5 kz, Wa X 2 (ma 25) 9261 fm] : List va_W) ([WMo o ma mi ml, WMp X ma pv] ++ [Wa X 2 (ma 9) 5 kz, Wa X 2 (ma 25) 9261 fm]) from (zf1 _ 0 _ rfl).trans (((zf1 _ 0 _ rfl).trans ((List.Perm.refl _).cons _)).cons _)))
          have hDm := zd_perm hD (zblk (show List.Perm ([WMo o ma mi ml, WMp X ma pv, Wa X 2 (ma 9) 5 kz, Wa X 2 (ma 25) 9261 fm] : List va_W) ([WMo o ma mi ml, WMp X ma pv] ++ [Wa X 2 (ma 9) 5 kz, Wa X 2 (ma 25) 9261 fm]) from (zf1 _ 0 _ rfl).trans (((zf1 _ 0 _ rfl).trans ((List.Perm.refl _).cons _)).cons _)))
          refine z_callV (wr := zb [Wa X 2 (ma 9) 5 kz, Wa X 2 (ma 25) 9261 fm]) (As := [.int (iI 2), .int (iI z)]) (rest := []) ⟨hx, hb, hml, hown, hts⟩ (c_X12_topBehind l X o ma mi ml pv 2 z (by exact hpq) (by omega) (by omega)) (cwV 2 hts gX12_moreFrom_X12_topBehind rfl rfl rfl (by decide +kernel) ⟨Nat.le_of_ble_eq_true rfl, Nat.le_of_ble_eq_true rfl⟩) rfl rfl hl.1 dX12_moreFrom_43 rfl rfl (Nat.le_of_ble_eq_true rfl) ⟨(Nat.le_of_ble_eq_true rfl), (Nat.le_of_ble_eq_true rfl)⟩ hS hA hK hPm hDm (fun _ H locs _ hP hD hS => ?_)
          have hP := zp_perm hP ((zblk (show List.Perm ([WMo o ma mi ml, WMp X ma pv, Wa X 2 (ma 9) 5 kz, Wa X 2 (ma 25) 9261 fm] : List va_W) ([WMo o ma mi ml, WMp X ma pv] ++ [Wa X 2 (ma 9) 5 kz, Wa X 2 (ma 25) 9261 fm]) from (zf1 _ 0 _ rfl).trans (((zf1 _ 0 _ rfl).trans ((List.Perm.refl _).cons _)).cons _)))).symm
          have hD := zd_perm hD ((zblk (show List.Perm ([WMo o ma mi ml, WMp X ma pv, Wa X 2 (ma 9) 5 kz, Wa X 2 (ma 25) 9261 fm] : List va_W) ([WMo o ma mi ml, WMp X ma pv] ++ [Wa X 2 (ma 9) 5 kz, Wa X 2 (ma 25) 9261 fm]) from (zf1 _ 0 _ rfl).trans (((zf1 _ 0 _ rfl).trans ((List.Perm.refl _).cons _)).cons _)))).symm
          have hP : va_P X.1 vwCl (zb [WMo o ma mi ml, WMp X ma pv, Wa X 2 (ma 9) 5 kz, Wa X 2 (ma 25) 9261 fm]) H := hP
          have hD : va_D A (zb [WMo o ma mi ml, WMp X ma pv, Wa X 2 (ma 9) 5 kz, Wa X 2 (ma 25) 9261 fm]) := hD
          refine W.eq (g2 := F0 m 46 ls [.int (iI (tbZ (pv 2) z))]) rfl ?_
          refine z_topi (fun z_36 ez_36 => ?_)
          refine lv_istore (lv' := [(8, .int (iI z_36)), (7, .int (iI 0)), (0, .ref o), (1, .int (iI a)), (2, .int (iI b)), (3, .int (iI 2)), (4, .int (iI x)), (5, .int (iI y)), (6, .int (iI z))]) hx hb dX12_moreFrom_46 hl (by decide) rfl (fun ls hl => ?_)
          refine lv_aload_n hx hb dX12_moreFrom_48 rfl (lv_at hl 2 rfl) ?_
          refine va_get (ci := 12) (v := .ref (ma 25)) (C := RX12) (T := TX12) (N := 38) hx hb hts inX12 hown hK.1 hP 0 rfl rfl 25 (by decide) (hts (.fieldLink RX12 56 "SkimmedSonsModel" "moreBy" "[I") (by decide +kernel)) (fun _ h9 => h9) rfl dX12_moreFrom_49 ?_
          refine lv_iload_n hx hb dX12_moreFrom_52 rfl (lv_at hl 5 rfl) ?_
          refine z_if_ne (tgt := 63) hx hb (by omega) dX12_moreFrom_53 (by decide) (fun c_37 => ?_) (fun c_37 => ?_)
          · skip
            refine lv_iload hx hb dX12_moreFrom_63 (lv_at hl 6 rfl) ?_
            refine lv_iload_n hx hb dX12_moreFrom_65 rfl (lv_at hl 5 rfl) ?_
            refine lv_iconst (v := iI 1) hx hb dX12_moreFrom_66 (by decide) ?_
            refine z_icmp_ne (tgt := 77) hx hb (by omega) dX12_moreFrom_67 (by decide) (fun c_38 => ?_) (fun c_38 => ?_)
            · skip
              refine lv_iload hx hb dX12_moreFrom_77 (lv_at hl 7 rfl) ?_
              refine lv_iload_n hx hb dX12_moreFrom_79 rfl (lv_at hl 5 rfl) ?_
              refine lv_iconst (v := iI 2) hx hb dX12_moreFrom_80 (by decide) ?_
              refine z_icmp_ne (tgt := 91) hx hb (by omega) dX12_moreFrom_81 (by decide) (fun c_39 => ?_) (fun c_39 => ?_)
              · skip
                exact absurd c_39 (by omega)
              · skip
                refine lv_iload hx hb dX12_moreFrom_84 (lv_at hl 8 rfl) ?_
                refine lv_iconst (v := iI 1) hx hb dX12_moreFrom_86 (by decide) ?_
                refine z_iadd hx hb dX12_moreFrom_87 ?_
                refine lv_goto (tgt := 93) hx hb dX12_moreFrom_88 (by decide) ?_
                have hPm := zp_perm hP (zblk (show List.Perm ([WMo o ma mi ml, WMp X ma pv, Wa X 2 (ma 9) 5 kz, Wa X 2 (ma 25) 9261 fm] : List va_W) ([] ++ [WMo o ma mi ml, WMp X ma pv, Wa X 2 (ma 9) 5 kz, Wa X 2 (ma 25) 9261 fm]) from List.Perm.refl _))
                have hDm := zd_perm hD (zblk (show List.Perm ([WMo o ma mi ml, WMp X ma pv, Wa X 2 (ma 9) 5 kz, Wa X 2 (ma 25) 9261 fm] : List va_W) ([] ++ [WMo o ma mi ml, WMp X ma pv, Wa X 2 (ma 9) 5 kz, Wa X 2 (ma 25) 9261 fm]) from List.Perm.refl _))
                refine z_callS (wr := zb [WMo o ma mi ml, WMp X ma pv, Wa X 2 (ma 9) 5 kz, Wa X 2 (ma 25) 9261 fm]) (As := [.int (iI x), .int (iI y), .int (iI (z + 1))]) (rest := [.ref (ma 25)]) ⟨hx, hb, hml, hown, hts⟩ (c_X12_slot l X x y (z + 1) ) (va_cwS 3 hts gX12_moreFrom_X12_slot rfl rfl rfl (by decide +kernel) ⟨Nat.le_of_ble_eq_true rfl, Nat.le_of_ble_eq_true rfl⟩) hl.1 dX12_moreFrom_93 rfl rfl (Nat.le_of_ble_eq_true rfl) ⟨(Nat.le_of_ble_eq_true rfl), (Nat.le_of_ble_eq_true rfl)⟩ hS hA hK hPm hDm (fun _ H locs _ hP hD hS => ?_)
                have hP := zp_perm hP ((zblk (show List.Perm ([WMo o ma mi ml, WMp X ma pv, Wa X 2 (ma 9) 5 kz, Wa X 2 (ma 25) 9261 fm] : List va_W) ([] ++ [WMo o ma mi ml, WMp X ma pv, Wa X 2 (ma 9) 5 kz, Wa X 2 (ma 25) 9261 fm]) from List.Perm.refl _))).symm
                have hD := zd_perm hD ((zblk (show List.Perm ([WMo o ma mi ml, WMp X ma pv, Wa X 2 (ma 9) 5 kz, Wa X 2 (ma 25) 9261 fm] : List va_W) ([] ++ [WMo o ma mi ml, WMp X ma pv, Wa X 2 (ma 9) 5 kz, Wa X 2 (ma 25) 9261 fm]) from List.Perm.refl _))).symm
                have hP : va_P X.1 vwCl (zb [WMo o ma mi ml, WMp X ma pv, Wa X 2 (ma 9) 5 kz, Wa X 2 (ma 25) 9261 fm]) H := hP
                have hD : va_D A (zb [WMo o ma mi ml, WMp X ma pv, Wa X 2 (ma 9) 5 kz, Wa X 2 (ma 25) 9261 fm]) := hD
                refine W.eq (g2 := F0 m 96 ls [.int (iI (441 * x + 21 * y + (z + 1))), .ref (ma 25)]) rfl ?_
                have hfi := hfm (441 * x + 21 * y + (z + 1)).toNat
                refine z_iald hx hb hK.1 hP 8 rfl (by omega) dX12_moreFrom_96 ?_
                refine W.eq (g2 := F0 m 97 ls [.int (iI (fm ((441 * x + 21 * y + (z + 1)).toNat)))]) rfl ?_
                refine z_topi (fun z_40 ez_40 => ?_)
                refine lv_istore (lv' := [(9, .int (iI z_40)), (8, .int (iI z_36)), (7, .int (iI 0)), (0, .ref o), (1, .int (iI a)), (2, .int (iI b)), (3, .int (iI 2)), (4, .int (iI x)), (5, .int (iI y)), (6, .int (iI z))]) hx hb dX12_moreFrom_97 hl (by decide) rfl (fun ls hl => ?_)
                refine lv_iload hx hb dX12_moreFrom_99 (lv_at hl 0 rfl) ?_
                refine lv_iload hx hb dX12_moreFrom_101 (lv_at hl 2 rfl) ?_
                refine z_if_eq (tgt := 116) hx hb (by omega) dX12_moreFrom_103 (by decide) (fun c_41 => ?_) (fun c_41 => ?_)
                · skip
                  refine lv_aload_n hx hb dX12_moreFrom_116 rfl (lv_at hl 3 rfl) ?_
                  refine lv_iload_n hx hb dX12_moreFrom_117 rfl (lv_at hl 5 rfl) ?_
                  refine lv_iload hx hb dX12_moreFrom_118 (lv_at hl 1 rfl) ?_
                  have hPm := zp_perm hP (zblk (show List.Perm ([WMo o ma mi ml, WMp X ma pv, Wa X 2 (ma 9) 5 kz, Wa X 2 (ma 25) 9261 fm] : List va_W) ([WMo o ma mi ml, Wa X 2 (ma 9) 5 kz] ++ [WMp X ma pv, Wa X 2 (ma 25) 9261 fm]) from (zf1 _ 0 _ rfl).trans (((zf1 _ 1 _ rfl).trans ((List.Perm.refl _).cons _)).cons _)))
                  have hDm := zd_perm hD (zblk (show List.Perm ([WMo o ma mi ml, WMp X ma pv, Wa X 2 (ma 9) 5 kz, Wa X 2 (ma 25) 9261 fm] : List va_W) ([WMo o ma mi ml, Wa X 2 (ma 9) 5 kz] ++ [WMp X ma pv, Wa X 2 (ma 25) 9261 fm]) from (zf1 _ 0 _ rfl).trans (((zf1 _ 1 _ rfl).trans ((List.Perm.refl _).cons _)).cons _)))
                  refine z_callV (wr := zb [WMp X ma pv, Wa X 2 (ma 25) 9261 fm]) (As := [.int (iI b), .int (iI z_36)]) (rest := [.int (iI z_40)]) ⟨hx, hb, hml, hown, hts⟩ (c_X12_worthOf l X o ma mi ml kz b z_36 (by omega) (by exact hkb) (by subst_vars; unfold tbZ; split; decide; split <;> decide)) (cwV 2 hts gX12_moreFrom_X12_worthOf rfl rfl rfl (by decide +kernel) ⟨Nat.le_of_ble_eq_true rfl, Nat.le_of_ble_eq_true rfl⟩) rfl rfl hl.1 dX12_moreFrom_120 rfl rfl (Nat.le_of_ble_eq_true rfl) ⟨(Nat.le_of_ble_eq_true rfl), (Nat.le_of_ble_eq_true rfl)⟩ hS hA hK hPm hDm (fun _ H locs _ hP hD hS => ?_)
                  have hP := zp_perm hP ((zblk (show List.Perm ([WMo o ma mi ml, WMp X ma pv, Wa X 2 (ma 9) 5 kz, Wa X 2 (ma 25) 9261 fm] : List va_W) ([WMo o ma mi ml, Wa X 2 (ma 9) 5 kz] ++ [WMp X ma pv, Wa X 2 (ma 25) 9261 fm]) from (zf1 _ 0 _ rfl).trans (((zf1 _ 1 _ rfl).trans ((List.Perm.refl _).cons _)).cons _)))).symm
                  have hD := zd_perm hD ((zblk (show List.Perm ([WMo o ma mi ml, WMp X ma pv, Wa X 2 (ma 9) 5 kz, Wa X 2 (ma 25) 9261 fm] : List va_W) ([WMo o ma mi ml, Wa X 2 (ma 9) 5 kz] ++ [WMp X ma pv, Wa X 2 (ma 25) 9261 fm]) from (zf1 _ 0 _ rfl).trans (((zf1 _ 1 _ rfl).trans ((List.Perm.refl _).cons _)).cons _)))).symm
                  have hP : va_P X.1 vwCl (zb [WMo o ma mi ml, WMp X ma pv, Wa X 2 (ma 9) 5 kz, Wa X 2 (ma 25) 9261 fm]) H := hP
                  have hD : va_D A (zb [WMo o ma mi ml, WMp X ma pv, Wa X 2 (ma 9) 5 kz, Wa X 2 (ma 25) 9261 fm]) := hD
                  refine W.eq (g2 := F0 m 123 ls [.int (iI (wOf (kdM kz b.toNat) z_36)), .int (iI z_40)]) rfl ?_
                  refine z_ineg hx hb dX12_moreFrom_123 ?_
                  refine z_iadd hx hb dX12_moreFrom_124 ?_
                  have hmf : mfZ (kdM kz a.toNat) (kdM kz b.toNat) pv fm 2 x y z = fm (441 * x + 21 * y + (z + 1)).toNat + -(wOf (kdM kz b.toNat) (tbZ (pv 2) z)) := by unfold mfZ vlG; rw [show slZ 2 x y z = 441 * x + 21 * y + (z + 1) from rfl, show tkI (x + y + z) = 0 by unfold tkI; omega] <;> rfl
                  exact z_iret hQ hx hb hr hlocks hS ⟨(Nat.le_of_ble_eq_true rfl), (Nat.le_of_ble_eq_true rfl)⟩ dX12_moreFrom_125 () (congrArg (fun z => some (Value.int (iI z))) (show (mfZ (kdM kz a.toNat) (kdM kz b.toNat) pv fm 2 x y z : Int) = z_40 + (-(wOf (kdM kz b.toNat) z_36)) by subst_vars; exact hmf)) trivial hP hD
                · skip
                  exact absurd c_41 (by omega)
            · skip
              exact absurd c_38 (by omega)
          · skip
            exact absurd c_37 (by omega)
        · skip
          exact absurd c_35 (by omega)
      · skip
        exact absurd c_34 (by omega)
    · skip
      refine lv_iconst (v := iI 1) hx hb dX12_moreFrom_13 (by decide) ?_
      refine lv_goto (tgt := 18) hx hb dX12_moreFrom_14 (by decide) ?_
      refine lv_istore (lv' := [(7, .int (iI 1)), (0, .ref o), (1, .int (iI a)), (2, .int (iI b)), (3, .int (iI 2)), (4, .int (iI x)), (5, .int (iI y)), (6, .int (iI z))]) hx hb dX12_moreFrom_18 hl (by decide) rfl (fun ls hl => ?_)
      refine lv_aload_n hx hb dX12_moreFrom_20 rfl (lv_at hl 1 rfl) ?_
      refine lv_iload_n hx hb dX12_moreFrom_21 rfl (lv_at hl 4 rfl) ?_
      refine lv_iload_n hx hb dX12_moreFrom_22 rfl (lv_at hl 4 rfl) ?_
      refine z_if_ne (tgt := 31) hx hb (by omega) dX12_moreFrom_23 (by decide) (fun c_42 => ?_) (fun c_42 => ?_)
      · skip
        refine lv_iload_n hx hb dX12_moreFrom_31 rfl (lv_at hl 4 rfl) ?_
        refine lv_iconst (v := iI 1) hx hb dX12_moreFrom_32 (by decide) ?_
        refine z_icmp_ne (tgt := 41) hx hb (by omega) dX12_moreFrom_33 (by decide) (fun c_43 => ?_) (fun c_43 => ?_)
        · skip
          refine lv_iload hx hb dX12_moreFrom_41 (lv_at hl 7 rfl) ?_
          have hPm := zp_perm hP (zblk (show List.Perm ([WMo o ma mi ml, WMp X ma pv, Wa X 2 (ma 9) 5 kz, Wa X 2 (ma 25) 9261 fm] : List va_W) ([WMo o ma mi ml, WMp X ma pv] ++ [Wa X 2 (ma 9) 5 kz, Wa X 2 (ma 25) 9261 fm]) from (zf1 _ 0 _ rfl).trans (((zf1 _ 0 _ rfl).trans ((List.Perm.refl _).cons _)).cons _)))
          have hDm := zd_perm hD (zblk (show List.Perm ([WMo o ma mi ml, WMp X ma pv, Wa X 2 (ma 9) 5 kz, Wa X 2 (ma 25) 9261 fm] : List va_W) ([WMo o ma mi ml, WMp X ma pv] ++ [Wa X 2 (ma 9) 5 kz, Wa X 2 (ma 25) 9261 fm]) from (zf1 _ 0 _ rfl).trans (((zf1 _ 0 _ rfl).trans ((List.Perm.refl _).cons _)).cons _)))
          refine z_callV (wr := zb [Wa X 2 (ma 9) 5 kz, Wa X 2 (ma 25) 9261 fm]) (As := [.int (iI 2), .int (iI z)]) (rest := []) ⟨hx, hb, hml, hown, hts⟩ (c_X12_topBehind l X o ma mi ml pv 2 z (by exact hpq) (by omega) (by omega)) (cwV 2 hts gX12_moreFrom_X12_topBehind rfl rfl rfl (by decide +kernel) ⟨Nat.le_of_ble_eq_true rfl, Nat.le_of_ble_eq_true rfl⟩) rfl rfl hl.1 dX12_moreFrom_43 rfl rfl (Nat.le_of_ble_eq_true rfl) ⟨(Nat.le_of_ble_eq_true rfl), (Nat.le_of_ble_eq_true rfl)⟩ hS hA hK hPm hDm (fun _ H locs _ hP hD hS => ?_)
          have hP := zp_perm hP ((zblk (show List.Perm ([WMo o ma mi ml, WMp X ma pv, Wa X 2 (ma 9) 5 kz, Wa X 2 (ma 25) 9261 fm] : List va_W) ([WMo o ma mi ml, WMp X ma pv] ++ [Wa X 2 (ma 9) 5 kz, Wa X 2 (ma 25) 9261 fm]) from (zf1 _ 0 _ rfl).trans (((zf1 _ 0 _ rfl).trans ((List.Perm.refl _).cons _)).cons _)))).symm
          have hD := zd_perm hD ((zblk (show List.Perm ([WMo o ma mi ml, WMp X ma pv, Wa X 2 (ma 9) 5 kz, Wa X 2 (ma 25) 9261 fm] : List va_W) ([WMo o ma mi ml, WMp X ma pv] ++ [Wa X 2 (ma 9) 5 kz, Wa X 2 (ma 25) 9261 fm]) from (zf1 _ 0 _ rfl).trans (((zf1 _ 0 _ rfl).trans ((List.Perm.refl _).cons _)).cons _)))).symm
          have hP : va_P X.1 vwCl (zb [WMo o ma mi ml, WMp X ma pv, Wa X 2 (ma 9) 5 kz, Wa X 2 (ma 25) 9261 fm]) H := hP
          have hD : va_D A (zb [WMo o ma mi ml, WMp X ma pv, Wa X 2 (ma 9) 5 kz, Wa X 2 (ma 25) 9261 fm]) := hD
          refine W.eq (g2 := F0 m 46 ls [.int (iI (tbZ (pv 2) z))]) rfl ?_
          refine z_topi (fun z_44 ez_44 => ?_)
          refine lv_istore (lv' := [(8, .int (iI z_44)), (7, .int (iI 1)), (0, .ref o), (1, .int (iI a)), (2, .int (iI b)), (3, .int (iI 2)), (4, .int (iI x)), (5, .int (iI y)), (6, .int (iI z))]) hx hb dX12_moreFrom_46 hl (by decide) rfl (fun ls hl => ?_)
          refine lv_aload_n hx hb dX12_moreFrom_48 rfl (lv_at hl 2 rfl) ?_
          refine va_get (ci := 12) (v := .ref (ma 25)) (C := RX12) (T := TX12) (N := 38) hx hb hts inX12 hown hK.1 hP 0 rfl rfl 25 (by decide) (hts (.fieldLink RX12 56 "SkimmedSonsModel" "moreBy" "[I") (by decide +kernel)) (fun _ h9 => h9) rfl dX12_moreFrom_49 ?_
          refine lv_iload_n hx hb dX12_moreFrom_52 rfl (lv_at hl 5 rfl) ?_
          refine z_if_ne (tgt := 63) hx hb (by omega) dX12_moreFrom_53 (by decide) (fun c_45 => ?_) (fun c_45 => ?_)
          · skip
            refine lv_iload hx hb dX12_moreFrom_63 (lv_at hl 6 rfl) ?_
            refine lv_iload_n hx hb dX12_moreFrom_65 rfl (lv_at hl 5 rfl) ?_
            refine lv_iconst (v := iI 1) hx hb dX12_moreFrom_66 (by decide) ?_
            refine z_icmp_ne (tgt := 77) hx hb (by omega) dX12_moreFrom_67 (by decide) (fun c_46 => ?_) (fun c_46 => ?_)
            · skip
              refine lv_iload hx hb dX12_moreFrom_77 (lv_at hl 7 rfl) ?_
              refine lv_iload_n hx hb dX12_moreFrom_79 rfl (lv_at hl 5 rfl) ?_
              refine lv_iconst (v := iI 2) hx hb dX12_moreFrom_80 (by decide) ?_
              refine z_icmp_ne (tgt := 91) hx hb (by omega) dX12_moreFrom_81 (by decide) (fun c_47 => ?_) (fun c_47 => ?_)
              · skip
                exact absurd c_47 (by omega)
              · skip
                refine lv_iload hx hb dX12_moreFrom_84 (lv_at hl 8 rfl) ?_
                refine lv_iconst (v := iI 1) hx hb dX12_moreFrom_86 (by decide) ?_
                refine z_iadd hx hb dX12_moreFrom_87 ?_
                refine lv_goto (tgt := 93) hx hb dX12_moreFrom_88 (by decide) ?_
                have hPm := zp_perm hP (zblk (show List.Perm ([WMo o ma mi ml, WMp X ma pv, Wa X 2 (ma 9) 5 kz, Wa X 2 (ma 25) 9261 fm] : List va_W) ([] ++ [WMo o ma mi ml, WMp X ma pv, Wa X 2 (ma 9) 5 kz, Wa X 2 (ma 25) 9261 fm]) from List.Perm.refl _))
                have hDm := zd_perm hD (zblk (show List.Perm ([WMo o ma mi ml, WMp X ma pv, Wa X 2 (ma 9) 5 kz, Wa X 2 (ma 25) 9261 fm] : List va_W) ([] ++ [WMo o ma mi ml, WMp X ma pv, Wa X 2 (ma 9) 5 kz, Wa X 2 (ma 25) 9261 fm]) from List.Perm.refl _))
                refine z_callS (wr := zb [WMo o ma mi ml, WMp X ma pv, Wa X 2 (ma 9) 5 kz, Wa X 2 (ma 25) 9261 fm]) (As := [.int (iI x), .int (iI y), .int (iI (z + 1))]) (rest := [.ref (ma 25)]) ⟨hx, hb, hml, hown, hts⟩ (c_X12_slot l X x y (z + 1) ) (va_cwS 3 hts gX12_moreFrom_X12_slot rfl rfl rfl (by decide +kernel) ⟨Nat.le_of_ble_eq_true rfl, Nat.le_of_ble_eq_true rfl⟩) hl.1 dX12_moreFrom_93 rfl rfl (Nat.le_of_ble_eq_true rfl) ⟨(Nat.le_of_ble_eq_true rfl), (Nat.le_of_ble_eq_true rfl)⟩ hS hA hK hPm hDm (fun _ H locs _ hP hD hS => ?_)
                have hP := zp_perm hP ((zblk (show List.Perm ([WMo o ma mi ml, WMp X ma pv, Wa X 2 (ma 9) 5 kz, Wa X 2 (ma 25) 9261 fm] : List va_W) ([] ++ [WMo o ma mi ml, WMp X ma pv, Wa X 2 (ma 9) 5 kz, Wa X 2 (ma 25) 9261 fm]) from List.Perm.refl _))).symm
                have hD := zd_perm hD ((zblk (show List.Perm ([WMo o ma mi ml, WMp X ma pv, Wa X 2 (ma 9) 5 kz, Wa X 2 (ma 25) 9261 fm] : List va_W) ([] ++ [WMo o ma mi ml, WMp X ma pv, Wa X 2 (ma 9) 5 kz, Wa X 2 (ma 25) 9261 fm]) from List.Perm.refl _))).symm
                have hP : va_P X.1 vwCl (zb [WMo o ma mi ml, WMp X ma pv, Wa X 2 (ma 9) 5 kz, Wa X 2 (ma 25) 9261 fm]) H := hP
                have hD : va_D A (zb [WMo o ma mi ml, WMp X ma pv, Wa X 2 (ma 9) 5 kz, Wa X 2 (ma 25) 9261 fm]) := hD
                refine W.eq (g2 := F0 m 96 ls [.int (iI (441 * x + 21 * y + (z + 1))), .ref (ma 25)]) rfl ?_
                have hfi := hfm (441 * x + 21 * y + (z + 1)).toNat
                refine z_iald hx hb hK.1 hP 8 rfl (by omega) dX12_moreFrom_96 ?_
                refine W.eq (g2 := F0 m 97 ls [.int (iI (fm ((441 * x + 21 * y + (z + 1)).toNat)))]) rfl ?_
                refine z_topi (fun z_48 ez_48 => ?_)
                refine lv_istore (lv' := [(9, .int (iI z_48)), (8, .int (iI z_44)), (7, .int (iI 1)), (0, .ref o), (1, .int (iI a)), (2, .int (iI b)), (3, .int (iI 2)), (4, .int (iI x)), (5, .int (iI y)), (6, .int (iI z))]) hx hb dX12_moreFrom_97 hl (by decide) rfl (fun ls hl => ?_)
                refine lv_iload hx hb dX12_moreFrom_99 (lv_at hl 0 rfl) ?_
                refine lv_iload hx hb dX12_moreFrom_101 (lv_at hl 2 rfl) ?_
                refine z_if_eq (tgt := 116) hx hb (by omega) dX12_moreFrom_103 (by decide) (fun c_49 => ?_) (fun c_49 => ?_)
                · skip
                  exact absurd c_49 (by omega)
                · skip
                  refine lv_aload_n hx hb dX12_moreFrom_106 rfl (lv_at hl 3 rfl) ?_
                  refine lv_iload_n hx hb dX12_moreFrom_107 rfl (lv_at hl 4 rfl) ?_
                  refine lv_iload hx hb dX12_moreFrom_108 (lv_at hl 1 rfl) ?_
                  have hPm := zp_perm hP (zblk (show List.Perm ([WMo o ma mi ml, WMp X ma pv, Wa X 2 (ma 9) 5 kz, Wa X 2 (ma 25) 9261 fm] : List va_W) ([WMo o ma mi ml, Wa X 2 (ma 9) 5 kz] ++ [WMp X ma pv, Wa X 2 (ma 25) 9261 fm]) from (zf1 _ 0 _ rfl).trans (((zf1 _ 1 _ rfl).trans ((List.Perm.refl _).cons _)).cons _)))
                  have hDm := zd_perm hD (zblk (show List.Perm ([WMo o ma mi ml, WMp X ma pv, Wa X 2 (ma 9) 5 kz, Wa X 2 (ma 25) 9261 fm] : List va_W) ([WMo o ma mi ml, Wa X 2 (ma 9) 5 kz] ++ [WMp X ma pv, Wa X 2 (ma 25) 9261 fm]) from (zf1 _ 0 _ rfl).trans (((zf1 _ 1 _ rfl).trans ((List.Perm.refl _).cons _)).cons _)))
                  refine z_callV (wr := zb [WMp X ma pv, Wa X 2 (ma 25) 9261 fm]) (As := [.int (iI a), .int (iI z_44)]) (rest := [.int (iI z_48)]) ⟨hx, hb, hml, hown, hts⟩ (c_X12_worthOf l X o ma mi ml kz a z_44 (by omega) (by exact hka) (by subst_vars; unfold tbZ; split; decide; split <;> decide)) (cwV 2 hts gX12_moreFrom_X12_worthOf rfl rfl rfl (by decide +kernel) ⟨Nat.le_of_ble_eq_true rfl, Nat.le_of_ble_eq_true rfl⟩) rfl rfl hl.1 dX12_moreFrom_110 rfl rfl (Nat.le_of_ble_eq_true rfl) ⟨(Nat.le_of_ble_eq_true rfl), (Nat.le_of_ble_eq_true rfl)⟩ hS hA hK hPm hDm (fun _ H locs _ hP hD hS => ?_)
                  have hP := zp_perm hP ((zblk (show List.Perm ([WMo o ma mi ml, WMp X ma pv, Wa X 2 (ma 9) 5 kz, Wa X 2 (ma 25) 9261 fm] : List va_W) ([WMo o ma mi ml, Wa X 2 (ma 9) 5 kz] ++ [WMp X ma pv, Wa X 2 (ma 25) 9261 fm]) from (zf1 _ 0 _ rfl).trans (((zf1 _ 1 _ rfl).trans ((List.Perm.refl _).cons _)).cons _)))).symm
                  have hD := zd_perm hD ((zblk (show List.Perm ([WMo o ma mi ml, WMp X ma pv, Wa X 2 (ma 9) 5 kz, Wa X 2 (ma 25) 9261 fm] : List va_W) ([WMo o ma mi ml, Wa X 2 (ma 9) 5 kz] ++ [WMp X ma pv, Wa X 2 (ma 25) 9261 fm]) from (zf1 _ 0 _ rfl).trans (((zf1 _ 1 _ rfl).trans ((List.Perm.refl _).cons _)).cons _)))).symm
                  have hP : va_P X.1 vwCl (zb [WMo o ma mi ml, WMp X ma pv, Wa X 2 (ma 9) 5 kz, Wa X 2 (ma 25) 9261 fm]) H := hP
                  have hD : va_D A (zb [WMo o ma mi ml, WMp X ma pv, Wa X 2 (ma 9) 5 kz, Wa X 2 (ma 25) 9261 fm]) := hD
                  refine W.eq (g2 := F0 m 113 ls [.int (iI (wOf (kdM kz a.toNat) z_44)), .int (iI z_48)]) rfl ?_
                  refine lv_goto (tgt := 124) hx hb dX12_moreFrom_113 (by decide) ?_
                  refine z_iadd hx hb dX12_moreFrom_124 ?_
                  have hmf : mfZ (kdM kz a.toNat) (kdM kz b.toNat) pv fm 2 x y z = fm (441 * x + 21 * y + (z + 1)).toNat + wOf (kdM kz a.toNat) (tbZ (pv 2) z) := by unfold mfZ vlG; rw [show slZ 2 x y z = 441 * x + 21 * y + (z + 1) from rfl, show tkI (x + y + z) = 1 by unfold tkI; omega] <;> rfl
                  exact z_iret hQ hx hb hr hlocks hS ⟨(Nat.le_of_ble_eq_true rfl), (Nat.le_of_ble_eq_true rfl)⟩ dX12_moreFrom_125 () (congrArg (fun z => some (Value.int (iI z))) (show (mfZ (kdM kz a.toNat) (kdM kz b.toNat) pv fm 2 x y z : Int) = z_48 + (wOf (kdM kz a.toNat) z_44) by subst_vars; exact hmf)) trivial hP hD
            · skip
              exact absurd c_46 (by omega)
          · skip
            exact absurd c_45 (by omega)
        · skip
          exact absurd c_43 (by omega)
      · skip
        exact absurd c_42 (by omega)
set_option maxHeartbeats 1000000 in
set_option maxRecDepth 100000 in
theorem c_X12_isLeft (l : Launch) (X : zX) (o : Nat) (ma : Nat → Nat) (mi : Nat → Int) (ml : Nat → Int) (pv : Nat → Nat → Int) (q : Nat) (x : Int) (y : Int) (z : Int) (hn : 0 ≤ mi 1 ∧ mi 1 ≤ 3) (hpv : PanS pv) (hq3 : q < 3) (hxyz : (0 ≤ x ∧ x ≤ 20) ∧ (0 ≤ y ∧ y ≤ 20) ∧ (0 ≤ z ∧ z ≤ 20)) : zF l X yX12_isLeft wsX12_isLeft 1 21 [.ref o, .int (iI (↑q)), .int (iI x), .int (iI y), .int (iI z)] (zb [WMo o ma mi ml, WMp X ma pv]) (some (.int (iI (if selZ q x y z < ((thZ (mi 1) pv q : Nat) : Int) then 1 else 0)))) (zb [WMo o ma mi ml, WMp X ma pv]) := by
  refine z_enter (cc := cX12_isLeft) (maxL := 5) (ret := (some .boolean)) (by decide) rfl (Nat.le_of_ble_eq_true rfl) ?_
  intro p e s m below meth c A ls Q hQ hE hl hP hD
  obtain ⟨hx, hb, hr, hml, hown, hts, hlocks, hnm, hA, hK⟩ := hE
  have hown : s.vm.findClass RX12 = some m.cls := hown
  have hS : va_S A s.heap s.heap [] := va_S.rf
  have hl : lv_has ls 5 [(0, .ref o), (1, .int (iI (↑q))), (2, .int (iI x)), (3, .int (iI y)), (4, .int (iI z))] := hl
  rcases (show q = 0 ∨ q = 1 ∨ q = 2 by omega) with rfl | rfl | rfl
  · skip
    have hl : lv_has ls 5 [(0, .ref o), (1, .int (iI 0)), (2, .int (iI x)), (3, .int (iI y)), (4, .int (iI z))] := hl
    have hsx : selZ 0 x y z = x := rfl
    refine lv_iload_n hx hb dX12_isLeft_0 rfl (lv_at hl 1 rfl) ?_
    refine z_if_ne (tgt := 8) hx hb (by omega) dX12_isLeft_1 (by decide) (fun c_1 => ?_) (fun c_1 => ?_)
    · skip
      exact absurd c_1 (by omega)
    · skip
      refine lv_iload_n hx hb dX12_isLeft_4 rfl (lv_at hl 2 rfl) ?_
      refine lv_goto (tgt := 19) hx hb dX12_isLeft_5 (by decide) ?_
      refine lv_aload_n hx hb dX12_isLeft_19 rfl (lv_at hl 0 rfl) ?_
      refine lv_iload_n hx hb dX12_isLeft_20 rfl (lv_at hl 1 rfl) ?_
      have hPm := zp_perm hP (zblk (show List.Perm ([WMo o ma mi ml, WMp X ma pv] : List va_W) ([WMo o ma mi ml, WMp X ma pv] ++ []) from (zf1 _ 0 _ rfl).trans (((zf1 _ 0 _ rfl).trans ((List.Perm.refl _).cons _)).cons _)))
      have hDm := zd_perm hD (zblk (show List.Perm ([WMo o ma mi ml, WMp X ma pv] : List va_W) ([WMo o ma mi ml, WMp X ma pv] ++ []) from (zf1 _ 0 _ rfl).trans (((zf1 _ 0 _ rfl).trans ((List.Perm.refl _).cons _)).cons _)))
      refine z_callV (wr := zb []) (As := [.int (iI 0)]) (rest := [.int (iI x)]) ⟨hx, hb, hml, hown, hts⟩ (c_X12_things l X o ma mi ml pv 0 (by omega) (by exact hpv) (by omega)) (cwV 1 hts gX12_isLeft_X12_things rfl rfl rfl (by decide +kernel) ⟨Nat.le_of_ble_eq_true rfl, Nat.le_of_ble_eq_true rfl⟩) rfl rfl hl.1 dX12_isLeft_21 rfl rfl (Nat.le_of_ble_eq_true rfl) ⟨(Nat.le_of_ble_eq_true rfl), (Nat.le_of_ble_eq_true rfl)⟩ hS hA hK hPm hDm (fun _ H locs _ hP hD hS => ?_)
      have hP := zp_perm hP ((zblk (show List.Perm ([WMo o ma mi ml, WMp X ma pv] : List va_W) ([WMo o ma mi ml, WMp X ma pv] ++ []) from (zf1 _ 0 _ rfl).trans (((zf1 _ 0 _ rfl).trans ((List.Perm.refl _).cons _)).cons _)))).symm
      have hD := zd_perm hD ((zblk (show List.Perm ([WMo o ma mi ml, WMp X ma pv] : List va_W) ([WMo o ma mi ml, WMp X ma pv] ++ []) from (zf1 _ 0 _ rfl).trans (((zf1 _ 0 _ rfl).trans ((List.Perm.refl _).cons _)).cons _)))).symm
      have hP : va_P X.1 vwCl (zb [WMo o ma mi ml, WMp X ma pv]) H := hP
      have hD : va_D A (zb [WMo o ma mi ml, WMp X ma pv]) := hD
      refine W.eq (g2 := F0 m 24 ls [.int (iI ((thZ (mi 1) pv 0 : Nat) : Int)), .int (iI x)]) rfl ?_
      have ht9 := th_20 hn hpv 0
      refine z_icmp_ge (tgt := 31) hx hb (by omega) dX12_isLeft_24 (by decide) (fun c_2 => ?_) (fun c_2 => ?_)
      · skip
        refine lv_iconst (v := iI 0) hx hb dX12_isLeft_31 (by decide) ?_
        exact z_zret (ty := .boolean) hQ hx hb hr (by rfl) hlocks hS ⟨(Nat.le_of_ble_eq_true rfl), (Nat.le_of_ble_eq_true rfl)⟩ dX12_isLeft_32 () (congrArg (fun z => some (Value.int (iI z))) (show (if selZ 0 x y z < ((thZ (mi 1) pv 0 : Nat) : Int) then 1 else 0 : Int) = 0 by first | (rw [if_pos (by rw [hsx]; omega)]; done) | (rw [if_neg (by rw [hsx]; omega)]; done))) trivial hP hD
      · skip
        refine lv_iconst (v := iI 1) hx hb dX12_isLeft_27 (by decide) ?_
        refine lv_goto (tgt := 32) hx hb dX12_isLeft_28 (by decide) ?_
        exact z_zret (ty := .boolean) hQ hx hb hr (by rfl) hlocks hS ⟨(Nat.le_of_ble_eq_true rfl), (Nat.le_of_ble_eq_true rfl)⟩ dX12_isLeft_32 () (congrArg (fun z => some (Value.int (iI z))) (show (if selZ 0 x y z < ((thZ (mi 1) pv 0 : Nat) : Int) then 1 else 0 : Int) = 1 by first | (rw [if_pos (by rw [hsx]; omega)]; done) | (rw [if_neg (by rw [hsx]; omega)]; done))) trivial hP hD
  · skip
    have hl : lv_has ls 5 [(0, .ref o), (1, .int (iI 1)), (2, .int (iI x)), (3, .int (iI y)), (4, .int (iI z))] := hl
    have hsx : selZ 1 x y z = y := rfl
    refine lv_iload_n hx hb dX12_isLeft_0 rfl (lv_at hl 1 rfl) ?_
    refine z_if_ne (tgt := 8) hx hb (by omega) dX12_isLeft_1 (by decide) (fun c_3 => ?_) (fun c_3 => ?_)
    · skip
      refine lv_iload_n hx hb dX12_isLeft_8 rfl (lv_at hl 1 rfl) ?_
      refine lv_iconst (v := iI 1) hx hb dX12_isLeft_9 (by decide) ?_
      refine z_icmp_ne (tgt := 17) hx hb (by omega) dX12_isLeft_10 (by decide) (fun c_4 => ?_) (fun c_4 => ?_)
      · skip
        exact absurd c_4 (by omega)
      · skip
        refine lv_iload_n hx hb dX12_isLeft_13 rfl (lv_at hl 3 rfl) ?_
        refine lv_goto (tgt := 19) hx hb dX12_isLeft_14 (by decide) ?_
        refine lv_aload_n hx hb dX12_isLeft_19 rfl (lv_at hl 0 rfl) ?_
        refine lv_iload_n hx hb dX12_isLeft_20 rfl (lv_at hl 1 rfl) ?_
        have hPm := zp_perm hP (zblk (show List.Perm ([WMo o ma mi ml, WMp X ma pv] : List va_W) ([WMo o ma mi ml, WMp X ma pv] ++ []) from (zf1 _ 0 _ rfl).trans (((zf1 _ 0 _ rfl).trans ((List.Perm.refl _).cons _)).cons _)))
        have hDm := zd_perm hD (zblk (show List.Perm ([WMo o ma mi ml, WMp X ma pv] : List va_W) ([WMo o ma mi ml, WMp X ma pv] ++ []) from (zf1 _ 0 _ rfl).trans (((zf1 _ 0 _ rfl).trans ((List.Perm.refl _).cons _)).cons _)))
        refine z_callV (wr := zb []) (As := [.int (iI 1)]) (rest := [.int (iI y)]) ⟨hx, hb, hml, hown, hts⟩ (c_X12_things l X o ma mi ml pv 1 (by omega) (by exact hpv) (by omega)) (cwV 1 hts gX12_isLeft_X12_things rfl rfl rfl (by decide +kernel) ⟨Nat.le_of_ble_eq_true rfl, Nat.le_of_ble_eq_true rfl⟩) rfl rfl hl.1 dX12_isLeft_21 rfl rfl (Nat.le_of_ble_eq_true rfl) ⟨(Nat.le_of_ble_eq_true rfl), (Nat.le_of_ble_eq_true rfl)⟩ hS hA hK hPm hDm (fun _ H locs _ hP hD hS => ?_)
        have hP := zp_perm hP ((zblk (show List.Perm ([WMo o ma mi ml, WMp X ma pv] : List va_W) ([WMo o ma mi ml, WMp X ma pv] ++ []) from (zf1 _ 0 _ rfl).trans (((zf1 _ 0 _ rfl).trans ((List.Perm.refl _).cons _)).cons _)))).symm
        have hD := zd_perm hD ((zblk (show List.Perm ([WMo o ma mi ml, WMp X ma pv] : List va_W) ([WMo o ma mi ml, WMp X ma pv] ++ []) from (zf1 _ 0 _ rfl).trans (((zf1 _ 0 _ rfl).trans ((List.Perm.refl _).cons _)).cons _)))).symm
        have hP : va_P X.1 vwCl (zb [WMo o ma mi ml, WMp X ma pv]) H := hP
        have hD : va_D A (zb [WMo o ma mi ml, WMp X ma pv]) := hD
        refine W.eq (g2 := F0 m 24 ls [.int (iI ((thZ (mi 1) pv 1 : Nat) : Int)), .int (iI y)]) rfl ?_
        have ht9 := th_20 hn hpv 1
        refine z_icmp_ge (tgt := 31) hx hb (by omega) dX12_isLeft_24 (by decide) (fun c_5 => ?_) (fun c_5 => ?_)
        · skip
          refine lv_iconst (v := iI 0) hx hb dX12_isLeft_31 (by decide) ?_
          exact z_zret (ty := .boolean) hQ hx hb hr (by rfl) hlocks hS ⟨(Nat.le_of_ble_eq_true rfl), (Nat.le_of_ble_eq_true rfl)⟩ dX12_isLeft_32 () (congrArg (fun z => some (Value.int (iI z))) (show (if selZ 1 x y z < ((thZ (mi 1) pv 1 : Nat) : Int) then 1 else 0 : Int) = 0 by first | (rw [if_pos (by rw [hsx]; omega)]; done) | (rw [if_neg (by rw [hsx]; omega)]; done))) trivial hP hD
        · skip
          refine lv_iconst (v := iI 1) hx hb dX12_isLeft_27 (by decide) ?_
          refine lv_goto (tgt := 32) hx hb dX12_isLeft_28 (by decide) ?_
          exact z_zret (ty := .boolean) hQ hx hb hr (by rfl) hlocks hS ⟨(Nat.le_of_ble_eq_true rfl), (Nat.le_of_ble_eq_true rfl)⟩ dX12_isLeft_32 () (congrArg (fun z => some (Value.int (iI z))) (show (if selZ 1 x y z < ((thZ (mi 1) pv 1 : Nat) : Int) then 1 else 0 : Int) = 1 by first | (rw [if_pos (by rw [hsx]; omega)]; done) | (rw [if_neg (by rw [hsx]; omega)]; done))) trivial hP hD
    · skip
      exact absurd c_3 (by omega)
  · skip
    have hl : lv_has ls 5 [(0, .ref o), (1, .int (iI 2)), (2, .int (iI x)), (3, .int (iI y)), (4, .int (iI z))] := hl
    have hsx : selZ 2 x y z = z := rfl
    refine lv_iload_n hx hb dX12_isLeft_0 rfl (lv_at hl 1 rfl) ?_
    refine z_if_ne (tgt := 8) hx hb (by omega) dX12_isLeft_1 (by decide) (fun c_6 => ?_) (fun c_6 => ?_)
    · skip
      refine lv_iload_n hx hb dX12_isLeft_8 rfl (lv_at hl 1 rfl) ?_
      refine lv_iconst (v := iI 1) hx hb dX12_isLeft_9 (by decide) ?_
      refine z_icmp_ne (tgt := 17) hx hb (by omega) dX12_isLeft_10 (by decide) (fun c_7 => ?_) (fun c_7 => ?_)
      · skip
        refine lv_iload hx hb dX12_isLeft_17 (lv_at hl 4 rfl) ?_
        refine lv_aload_n hx hb dX12_isLeft_19 rfl (lv_at hl 0 rfl) ?_
        refine lv_iload_n hx hb dX12_isLeft_20 rfl (lv_at hl 1 rfl) ?_
        have hPm := zp_perm hP (zblk (show List.Perm ([WMo o ma mi ml, WMp X ma pv] : List va_W) ([WMo o ma mi ml, WMp X ma pv] ++ []) from (zf1 _ 0 _ rfl).trans (((zf1 _ 0 _ rfl).trans ((List.Perm.refl _).cons _)).cons _)))
        have hDm := zd_perm hD (zblk (show List.Perm ([WMo o ma mi ml, WMp X ma pv] : List va_W) ([WMo o ma mi ml, WMp X ma pv] ++ []) from (zf1 _ 0 _ rfl).trans (((zf1 _ 0 _ rfl).trans ((List.Perm.refl _).cons _)).cons _)))
        refine z_callV (wr := zb []) (As := [.int (iI 2)]) (rest := [.int (iI z)]) ⟨hx, hb, hml, hown, hts⟩ (c_X12_things l X o ma mi ml pv 2 (by omega) (by exact hpv) (by omega)) (cwV 1 hts gX12_isLeft_X12_things rfl rfl rfl (by decide +kernel) ⟨Nat.le_of_ble_eq_true rfl, Nat.le_of_ble_eq_true rfl⟩) rfl rfl hl.1 dX12_isLeft_21 rfl rfl (Nat.le_of_ble_eq_true rfl) ⟨(Nat.le_of_ble_eq_true rfl), (Nat.le_of_ble_eq_true rfl)⟩ hS hA hK hPm hDm (fun _ H locs _ hP hD hS => ?_)
        have hP := zp_perm hP ((zblk (show List.Perm ([WMo o ma mi ml, WMp X ma pv] : List va_W) ([WMo o ma mi ml, WMp X ma pv] ++ []) from (zf1 _ 0 _ rfl).trans (((zf1 _ 0 _ rfl).trans ((List.Perm.refl _).cons _)).cons _)))).symm
        have hD := zd_perm hD ((zblk (show List.Perm ([WMo o ma mi ml, WMp X ma pv] : List va_W) ([WMo o ma mi ml, WMp X ma pv] ++ []) from (zf1 _ 0 _ rfl).trans (((zf1 _ 0 _ rfl).trans ((List.Perm.refl _).cons _)).cons _)))).symm
        have hP : va_P X.1 vwCl (zb [WMo o ma mi ml, WMp X ma pv]) H := hP
        have hD : va_D A (zb [WMo o ma mi ml, WMp X ma pv]) := hD
        refine W.eq (g2 := F0 m 24 ls [.int (iI ((thZ (mi 1) pv 2 : Nat) : Int)), .int (iI z)]) rfl ?_
        have ht9 := th_20 hn hpv 2
        refine z_icmp_ge (tgt := 31) hx hb (by omega) dX12_isLeft_24 (by decide) (fun c_8 => ?_) (fun c_8 => ?_)
        · skip
          refine lv_iconst (v := iI 0) hx hb dX12_isLeft_31 (by decide) ?_
          exact z_zret (ty := .boolean) hQ hx hb hr (by rfl) hlocks hS ⟨(Nat.le_of_ble_eq_true rfl), (Nat.le_of_ble_eq_true rfl)⟩ dX12_isLeft_32 () (congrArg (fun z => some (Value.int (iI z))) (show (if selZ 2 x y z < ((thZ (mi 1) pv 2 : Nat) : Int) then 1 else 0 : Int) = 0 by first | (rw [if_pos (by rw [hsx]; omega)]; done) | (rw [if_neg (by rw [hsx]; omega)]; done))) trivial hP hD
        · skip
          refine lv_iconst (v := iI 1) hx hb dX12_isLeft_27 (by decide) ?_
          refine lv_goto (tgt := 32) hx hb dX12_isLeft_28 (by decide) ?_
          exact z_zret (ty := .boolean) hQ hx hb hr (by rfl) hlocks hS ⟨(Nat.le_of_ble_eq_true rfl), (Nat.le_of_ble_eq_true rfl)⟩ dX12_isLeft_32 () (congrArg (fun z => some (Value.int (iI z))) (show (if selZ 2 x y z < ((thZ (mi 1) pv 2 : Nat) : Int) then 1 else 0 : Int) = 1 by first | (rw [if_pos (by rw [hsx]; omega)]; done) | (rw [if_neg (by rw [hsx]; omega)]; done))) trivial hP hD
      · skip
        exact absurd c_7 (by omega)
    · skip
      exact absurd c_6 (by omega)
set_option maxHeartbeats 1000000 in
set_option maxRecDepth 100000 in
theorem c_X12_bestFrom (l : Launch) (X : zX) (o : Nat) (ma : Nat → Nat) (mi : Nat → Int) (ml : Nat → Int) (pv : Nat → Nat → Int) (kz : Nat → Int) (fm : Nat → Int) (a : Int) (b : Int) (x : Int) (y : Int) (z : Int) (hn : 0 ≤ mi 1 ∧ mi 1 ≤ 3) (hpv : PanS pv) (hab : (0 ≤ a ∧ a < 5) ∧ (0 ≤ b ∧ b < 5)) (hka : 0 ≤ kz a.toNat ∧ kz a.toNat ≤ 4) (hkb : 0 ≤ kz b.toNat ∧ kz b.toNat ≤ 4) (hxyz : (0 ≤ x ∧ x ≤ 20) ∧ (0 ≤ y ∧ y ≤ 20) ∧ (0 ≤ z ∧ z ≤ 20)) (hfm : FmB fm) : zF l X yX12_bestFrom wsX12_bestFrom 2 52 [.ref o, .int (iI a), .int (iI b), .int (iI x), .int (iI y), .int (iI z)] (zb [WMo o ma mi ml, WMp X ma pv, Wa X 2 (ma 9) 5 kz, Wa X 2 (ma 25) 9261 fm]) (some (.int (iI ((cnS (kdM kz a.toNat) (kdM kz b.toNat) (mi 1) pv fm x y z (mi 1).toNat).1)))) (zb [WMo o ma mi ml, WMp X ma pv, Wa X 2 (ma 9) 5 kz, Wa X 2 (ma 25) 9261 fm]) := by
  refine z_enter (cc := cX12_bestFrom) (maxL := 11) (ret := (some .int)) (by decide) rfl (Nat.le_of_ble_eq_true rfl) ?_
  intro p e s m below meth c A ls Q hQ hE hl hP hD
  obtain ⟨hx, hb, hr, hml, hown, hts, hlocks, hnm, hA, hK⟩ := hE
  have hown : s.vm.findClass RX12 = some m.cls := hown
  have hS : va_S A s.heap s.heap [] := va_S.rf
  have hl : lv_has ls 11 [(0, .ref o), (1, .int (iI a)), (2, .int (iI b)), (3, .int (iI x)), (4, .int (iI y)), (5, .int (iI z))] := hl
  have inX12 : ∀ w ∈ u_ws RX12 TX12 38, w ∈ wsX12_bestFrom := by decide +kernel
  refine lv_iload_n hx hb dX12_bestFrom_0 rfl (lv_at hl 3 rfl) ?_
  refine lv_iload hx hb dX12_bestFrom_1 (lv_at hl 4 rfl) ?_
  refine z_iadd hx hb dX12_bestFrom_3 ?_
  refine lv_iload hx hb dX12_bestFrom_4 (lv_at hl 5 rfl) ?_
  refine z_iadd hx hb dX12_bestFrom_6 ?_
  refine lv_iconst (v := iI 2) hx hb dX12_bestFrom_7 (by decide) ?_
  refine z_irem hx hb (by omega) dX12_bestFrom_8 ?_
  refine z_if_ne (tgt := 16) hx hb (by omega) dX12_bestFrom_9 (by decide) (fun c_1 => ?_) (fun c_1 => ?_)
  · skip
    have htk : tkI (x + y + z) = 0 := by unfold tkI; omega
    refine lv_iconst (v := iI 0) hx hb dX12_bestFrom_16 (by decide) ?_
    refine lv_istore (lv' := [(6, .int (iI 0)), (0, .ref o), (1, .int (iI a)), (2, .int (iI b)), (3, .int (iI x)), (4, .int (iI y)), (5, .int (iI z))]) hx hb dX12_bestFrom_17 hl (by decide) rfl (fun ls hl => ?_)
    refine lv_iload hx hb dX12_bestFrom_19 (lv_at hl 0 rfl) ?_
    refine z_if_eq (tgt := 29) hx hb (by omega) dX12_bestFrom_21 (by decide) (fun c_2 => ?_) (fun c_2 => ?_)
    · skip
      refine lv_ldc (v := iI 268435456) hx hb hown (hts (.constant RX12 209 (268435456)) (by decide +kernel)) dX12_bestFrom_29 ?_
      refine lv_istore (lv' := [(7, .int (iI 268435456)), (6, .int (iI 0)), (0, .ref o), (1, .int (iI a)), (2, .int (iI b)), (3, .int (iI x)), (4, .int (iI y)), (5, .int (iI z))]) hx hb dX12_bestFrom_31 hl (by decide) rfl (fun ls hl => ?_)
      refine lv_iconst (v := iI 0) hx hb dX12_bestFrom_33 (by decide) ?_
      refine lv_istore (lv' := [(8, .int (iI 0)), (7, .int (iI 268435456)), (6, .int (iI 0)), (0, .ref o), (1, .int (iI a)), (2, .int (iI b)), (3, .int (iI x)), (4, .int (iI y)), (5, .int (iI z))]) hx hb dX12_bestFrom_34 hl (by decide) rfl (fun ls hl => ?_)
      refine lv_iconst (v := iI 0) hx hb dX12_bestFrom_36 (by decide) ?_
      refine lv_istore (lv' := [(9, .int (iI 0)), (8, .int (iI 0)), (7, .int (iI 268435456)), (6, .int (iI 0)), (0, .ref o), (1, .int (iI a)), (2, .int (iI b)), (3, .int (iI x)), (4, .int (iI y)), (5, .int (iI z))]) hx hb dX12_bestFrom_37 hl (by decide) rfl (fun ls hl => ?_)
      have L39 : ∀ (fu : Nat) (i : Nat) (u : Int) (w : Int), ((i : Int) ≤ mi 1) → ((w = 0 ∧ u = (if tkI (x + y + z) = 1 then -268435456 else 268435456) ∧ cnS (kdM kz a.toNat) (kdM kz b.toNat) (mi 1) pv fm x y z i = (0, -1)) ∨ (w = 1 ∧ u = (cnS (kdM kz a.toNat) (kdM kz b.toNat) (mi 1) pv fm x y z i).1 ∧ ¬ (cnS (kdM kz a.toNat) (kdM kz b.toNat) (mi 1) pv fm x y z i).2 = -1)) → (-268435456 ≤ u ∧ u ≤ 268435456) → (mi 1 - ↑i).toNat < fu → ∀ (H : Heap) (locs : List Loc) (ls : Array Slot), va_P X.1 vwCl (zb [WMo o ma mi ml, WMp X ma pv, Wa X 2 (ma 9) 5 kz, Wa X 2 (ma 25) 9261 fm]) H → va_D A (zb [WMo o ma mi ml, WMp X ma pv, Wa X 2 (ma 9) 5 kz, Wa X 2 (ma 25) 9261 fm]) → va_S A s.heap H locs → lv_has ls 11 [(0, .ref o), (1, .int (iI a)), (2, .int (iI b)), (3, .int (iI x)), (4, .int (iI y)), (5, .int (iI z)), (6, .int (iI 0)), (7, .int (iI u)), (8, .int (iI w)), (9, .int (iI (↑i)))] → W p l e { frames := 2, cells := 0, slots := 0, locals := 52 } s m ([.ref o, .int (iI a), .int (iI b), .int (iI x), .int (iI y), .int (iI z)] : List Value).toArray below meth c H locs 0 0 Q (F0 m 39 ls []) := by
        intro fu
        induction fu with
        | zero => intro i u w hi hst hub hm; exact absurd hm (Nat.not_lt_zero _)
        | succ fu ih39 =>
          intro i u w hi hst hub hm H locs ls hP hD hS hl
          have htn := th_20 hn hpv i
          have hmi := mfZ_in (ka := (kdM kz a.toNat)) (kb := (kdM kz b.toNat)) (pv := pv) hfm i x y z
          refine lv_iload hx hb dX12_bestFrom_39 (lv_at hl 9 rfl) ?_
          refine lv_aload_n hx hb dX12_bestFrom_41 rfl (lv_at hl 0 rfl) ?_
          refine va_get (ci := 12) (v := .int (iI (mi 1))) (C := RX12) (T := TX12) (N := 38) hx hb hts inX12 hown hK.1 hP 0 rfl rfl 1 (by decide) (hts (.fieldLink RX12 119 "SkimmedSonsModel" "pans" "I") (by decide +kernel)) (fun _ h9 => h9) rfl dX12_bestFrom_42 ?_
          refine z_icmp_ge (tgt := 119) hx hb (by omega) dX12_bestFrom_45 (by decide) (fun c_3 => ?_) (fun c_3 => ?_)
          · skip
            refine lv_iload hx hb dX12_bestFrom_119 (lv_at hl 8 rfl) ?_
            refine z_if_eq (tgt := 129) hx hb (by omega) dX12_bestFrom_121 (by decide) (fun c_4 => ?_) (fun c_4 => ?_)
            · skip
              refine lv_iconst (v := iI 0) hx hb dX12_bestFrom_129 (by decide) ?_
              exact z_iret hQ hx hb hr hlocks hS ⟨(Nat.le_of_ble_eq_true rfl), (Nat.le_of_ble_eq_true rfl)⟩ dX12_bestFrom_130 () (congrArg (fun z => some (Value.int (iI z))) (show ((cnS (kdM kz a.toNat) (kdM kz b.toNat) (mi 1) pv fm x y z (mi 1).toNat).1 : Int) = 0 by rw [show (mi 1).toNat = i by omega]; rcases hst with ⟨q1, q2, q3⟩ | ⟨q1, q2, q3⟩ <;> first | (exfalso; omega) | (rw [q3]) | exact q2.symm)) trivial hP hD
            · skip
              refine lv_iload hx hb dX12_bestFrom_124 (lv_at hl 7 rfl) ?_
              refine lv_goto (tgt := 130) hx hb dX12_bestFrom_126 (by decide) ?_
              exact z_iret hQ hx hb hr hlocks hS ⟨(Nat.le_of_ble_eq_true rfl), (Nat.le_of_ble_eq_true rfl)⟩ dX12_bestFrom_130 () (congrArg (fun z => some (Value.int (iI z))) (show ((cnS (kdM kz a.toNat) (kdM kz b.toNat) (mi 1) pv fm x y z (mi 1).toNat).1 : Int) = u by rw [show (mi 1).toNat = i by omega]; rcases hst with ⟨q1, q2, q3⟩ | ⟨q1, q2, q3⟩ <;> first | (exfalso; omega) | (rw [q3]) | exact q2.symm)) trivial hP hD
          · skip
            refine lv_aload_n hx hb dX12_bestFrom_48 rfl (lv_at hl 0 rfl) ?_
            refine lv_iload hx hb dX12_bestFrom_49 (lv_at hl 9 rfl) ?_
            refine lv_iload_n hx hb dX12_bestFrom_51 rfl (lv_at hl 3 rfl) ?_
            refine lv_iload hx hb dX12_bestFrom_52 (lv_at hl 4 rfl) ?_
            refine lv_iload hx hb dX12_bestFrom_54 (lv_at hl 5 rfl) ?_
            have hPm := zp_perm hP (zblk (show List.Perm ([WMo o ma mi ml, WMp X ma pv, Wa X 2 (ma 9) 5 kz, Wa X 2 (ma 25) 9261 fm] : List va_W) ([WMo o ma mi ml, WMp X ma pv] ++ [Wa X 2 (ma 9) 5 kz, Wa X 2 (ma 25) 9261 fm]) from (zf1 _ 0 _ rfl).trans (((zf1 _ 0 _ rfl).trans ((List.Perm.refl _).cons _)).cons _)))
            have hDm := zd_perm hD (zblk (show List.Perm ([WMo o ma mi ml, WMp X ma pv, Wa X 2 (ma 9) 5 kz, Wa X 2 (ma 25) 9261 fm] : List va_W) ([WMo o ma mi ml, WMp X ma pv] ++ [Wa X 2 (ma 9) 5 kz, Wa X 2 (ma 25) 9261 fm]) from (zf1 _ 0 _ rfl).trans (((zf1 _ 0 _ rfl).trans ((List.Perm.refl _).cons _)).cons _)))
            refine z_callV (wr := zb [Wa X 2 (ma 9) 5 kz, Wa X 2 (ma 25) 9261 fm]) (As := [.int (iI (↑i)), .int (iI x), .int (iI y), .int (iI z)]) (rest := []) ⟨hx, hb, hml, hown, hts⟩ (c_X12_isLeft l X o ma mi ml pv i x y z (by omega) (by exact hpv) (by omega) (by exact hxyz)) (cwV 4 hts gX12_bestFrom_X12_isLeft rfl rfl rfl (by decide +kernel) ⟨Nat.le_of_ble_eq_true rfl, Nat.le_of_ble_eq_true rfl⟩) rfl rfl hl.1 dX12_bestFrom_56 rfl rfl (Nat.le_of_ble_eq_true rfl) ⟨(Nat.le_of_ble_eq_true rfl), (Nat.le_of_ble_eq_true rfl)⟩ hS hA hK hPm hDm (fun _ H locs _ hP hD hS => ?_)
            have hP := zp_perm hP ((zblk (show List.Perm ([WMo o ma mi ml, WMp X ma pv, Wa X 2 (ma 9) 5 kz, Wa X 2 (ma 25) 9261 fm] : List va_W) ([WMo o ma mi ml, WMp X ma pv] ++ [Wa X 2 (ma 9) 5 kz, Wa X 2 (ma 25) 9261 fm]) from (zf1 _ 0 _ rfl).trans (((zf1 _ 0 _ rfl).trans ((List.Perm.refl _).cons _)).cons _)))).symm
            have hD := zd_perm hD ((zblk (show List.Perm ([WMo o ma mi ml, WMp X ma pv, Wa X 2 (ma 9) 5 kz, Wa X 2 (ma 25) 9261 fm] : List va_W) ([WMo o ma mi ml, WMp X ma pv] ++ [Wa X 2 (ma 9) 5 kz, Wa X 2 (ma 25) 9261 fm]) from (zf1 _ 0 _ rfl).trans (((zf1 _ 0 _ rfl).trans ((List.Perm.refl _).cons _)).cons _)))).symm
            have hP : va_P X.1 vwCl (zb [WMo o ma mi ml, WMp X ma pv, Wa X 2 (ma 9) 5 kz, Wa X 2 (ma 25) 9261 fm]) H := hP
            have hD : va_D A (zb [WMo o ma mi ml, WMp X ma pv, Wa X 2 (ma 9) 5 kz, Wa X 2 (ma 25) 9261 fm]) := hD
            refine W.eq (g2 := F0 m 59 ls [.int (iI (if selZ i x y z < ((thZ (mi 1) pv i : Nat) : Int) then 1 else 0))]) rfl ?_
            refine z_if_eq (tgt := 113) hx hb (by omega) dX12_bestFrom_59 (by decide) (fun c_5 => ?_) (fun c_5 => ?_)
            · skip
              refine z_iinc (k := 9) (lv' := [(9, .int (iI ((↑i) + 1))), (0, .ref o), (1, .int (iI a)), (2, .int (iI b)), (3, .int (iI x)), (4, .int (iI y)), (5, .int (iI z)), (6, .int (iI 0)), (7, .int (iI u)), (8, .int (iI w))]) hx hb dX12_bestFrom_113 hl rfl (by decide) rfl (fun ls hl => ?_)
              refine lv_goto (tgt := 39) hx hb dX12_bestFrom_116 (by decide) ?_
              exact ih39  (i + 1) u w (by omega) (by rw [cnS_n (by omega)]; exact hst) (by omega) (by omega) _ _ _ hP hD hS (lv_sub hl [1, 2, 3, 4, 5, 6, 7, 8, 9, 0] rfl)
            · skip
              refine lv_aload_n hx hb dX12_bestFrom_62 rfl (lv_at hl 0 rfl) ?_
              refine lv_iload_n hx hb dX12_bestFrom_63 rfl (lv_at hl 1 rfl) ?_
              refine lv_iload_n hx hb dX12_bestFrom_64 rfl (lv_at hl 2 rfl) ?_
              refine lv_iload hx hb dX12_bestFrom_65 (lv_at hl 9 rfl) ?_
              refine lv_iload_n hx hb dX12_bestFrom_67 rfl (lv_at hl 3 rfl) ?_
              refine lv_iload hx hb dX12_bestFrom_68 (lv_at hl 4 rfl) ?_
              refine lv_iload hx hb dX12_bestFrom_70 (lv_at hl 5 rfl) ?_
              have hPm := zp_perm hP (zblk (show List.Perm ([WMo o ma mi ml, WMp X ma pv, Wa X 2 (ma 9) 5 kz, Wa X 2 (ma 25) 9261 fm] : List va_W) ([WMo o ma mi ml, WMp X ma pv, Wa X 2 (ma 9) 5 kz, Wa X 2 (ma 25) 9261 fm] ++ []) from (zf1 _ 0 _ rfl).trans (((zf1 _ 0 _ rfl).trans (((zf1 _ 0 _ rfl).trans (((zf1 _ 0 _ rfl).trans ((List.Perm.refl _).cons _)).cons _)).cons _)).cons _)))
              have hDm := zd_perm hD (zblk (show List.Perm ([WMo o ma mi ml, WMp X ma pv, Wa X 2 (ma 9) 5 kz, Wa X 2 (ma 25) 9261 fm] : List va_W) ([WMo o ma mi ml, WMp X ma pv, Wa X 2 (ma 9) 5 kz, Wa X 2 (ma 25) 9261 fm] ++ []) from (zf1 _ 0 _ rfl).trans (((zf1 _ 0 _ rfl).trans (((zf1 _ 0 _ rfl).trans (((zf1 _ 0 _ rfl).trans ((List.Perm.refl _).cons _)).cons _)).cons _)).cons _)))
              refine z_callV (wr := zb []) (As := [.int (iI a), .int (iI b), .int (iI (↑i)), .int (iI x), .int (iI y), .int (iI z)]) (rest := []) ⟨hx, hb, hml, hown, hts⟩ (c_X12_moreFrom l X o ma mi ml pv kz fm a b i x y z (by exact hab) (by exact hka) (by exact hkb) (by omega) (by exact hpv _ (by omega)) (by exact hxyz) (by omega) (by exact hfm)) (cwV 6 hts gX12_bestFrom_X12_moreFrom rfl rfl rfl (by decide +kernel) ⟨Nat.le_of_ble_eq_true rfl, Nat.le_of_ble_eq_true rfl⟩) rfl rfl hl.1 dX12_bestFrom_72 rfl rfl (Nat.le_of_ble_eq_true rfl) ⟨(Nat.le_of_ble_eq_true rfl), (Nat.le_of_ble_eq_true rfl)⟩ hS hA hK hPm hDm (fun _ H locs _ hP hD hS => ?_)
              have hP := zp_perm hP ((zblk (show List.Perm ([WMo o ma mi ml, WMp X ma pv, Wa X 2 (ma 9) 5 kz, Wa X 2 (ma 25) 9261 fm] : List va_W) ([WMo o ma mi ml, WMp X ma pv, Wa X 2 (ma 9) 5 kz, Wa X 2 (ma 25) 9261 fm] ++ []) from (zf1 _ 0 _ rfl).trans (((zf1 _ 0 _ rfl).trans (((zf1 _ 0 _ rfl).trans (((zf1 _ 0 _ rfl).trans ((List.Perm.refl _).cons _)).cons _)).cons _)).cons _)))).symm
              have hD := zd_perm hD ((zblk (show List.Perm ([WMo o ma mi ml, WMp X ma pv, Wa X 2 (ma 9) 5 kz, Wa X 2 (ma 25) 9261 fm] : List va_W) ([WMo o ma mi ml, WMp X ma pv, Wa X 2 (ma 9) 5 kz, Wa X 2 (ma 25) 9261 fm] ++ []) from (zf1 _ 0 _ rfl).trans (((zf1 _ 0 _ rfl).trans (((zf1 _ 0 _ rfl).trans (((zf1 _ 0 _ rfl).trans ((List.Perm.refl _).cons _)).cons _)).cons _)).cons _)))).symm
              have hP : va_P X.1 vwCl (zb [WMo o ma mi ml, WMp X ma pv, Wa X 2 (ma 9) 5 kz, Wa X 2 (ma 25) 9261 fm]) H := hP
              have hD : va_D A (zb [WMo o ma mi ml, WMp X ma pv, Wa X 2 (ma 9) 5 kz, Wa X 2 (ma 25) 9261 fm]) := hD
              refine W.eq (g2 := F0 m 75 ls [.int (iI (mfZ (kdM kz a.toNat) (kdM kz b.toNat) pv fm i x y z))]) rfl ?_
              refine z_topi (fun z_7 ez_7 => ?_)
              refine lv_istore (lv' := [(10, .int (iI z_7)), (0, .ref o), (1, .int (iI a)), (2, .int (iI b)), (3, .int (iI x)), (4, .int (iI y)), (5, .int (iI z)), (6, .int (iI 0)), (7, .int (iI u)), (8, .int (iI w)), (9, .int (iI (↑i)))]) hx hb dX12_bestFrom_75 hl (by decide) rfl (fun ls hl => ?_)
              refine lv_iload hx hb dX12_bestFrom_77 (lv_at hl 7 rfl) ?_
              refine lv_iload hx hb dX12_bestFrom_79 (lv_at hl 0 rfl) ?_
              refine lv_iload hx hb dX12_bestFrom_81 (lv_at hl 8 rfl) ?_
              refine z_icmp_le (tgt := 90) hx hb (by omega) dX12_bestFrom_83 (by decide) (fun c_8 => ?_) (fun c_8 => ?_)
              · skip
                refine lv_iconst (v := iI 0) hx hb dX12_bestFrom_90 (by decide) ?_
                refine z_icmp_ne (tgt := 106) hx hb (by omega) dX12_bestFrom_91 (by decide) (fun c_9 => ?_) (fun c_9 => ?_)
                · skip
                  exact absurd c_9 (by omega)
                · skip
                  refine lv_iload hx hb dX12_bestFrom_94 (lv_at hl 0 rfl) ?_
                  refine lv_iload hx hb dX12_bestFrom_96 (lv_at hl 8 rfl) ?_
                  refine z_icmp_eq (tgt := 106) hx hb (by omega) dX12_bestFrom_98 (by decide) (fun c_10 => ?_) (fun c_10 => ?_)
                  · skip
                    refine lv_iload hx hb dX12_bestFrom_106 (lv_at hl 8 rfl) ?_
                    refine lv_istore (lv' := [(7, .int (iI u)), (10, .int (iI z_7)), (0, .ref o), (1, .int (iI a)), (2, .int (iI b)), (3, .int (iI x)), (4, .int (iI y)), (5, .int (iI z)), (6, .int (iI 0)), (8, .int (iI w)), (9, .int (iI (↑i)))]) hx hb dX12_bestFrom_108 hl (by decide) rfl (fun ls hl => ?_)
                    refine lv_iconst (v := iI 1) hx hb dX12_bestFrom_110 (by decide) ?_
                    refine lv_istore (lv' := [(8, .int (iI 1)), (7, .int (iI u)), (10, .int (iI z_7)), (0, .ref o), (1, .int (iI a)), (2, .int (iI b)), (3, .int (iI x)), (4, .int (iI y)), (5, .int (iI z)), (6, .int (iI 0)), (9, .int (iI (↑i)))]) hx hb dX12_bestFrom_111 hl (by decide) rfl (fun ls hl => ?_)
                    refine z_iinc (k := 10) (lv' := [(9, .int (iI ((↑i) + 1))), (8, .int (iI 1)), (7, .int (iI u)), (10, .int (iI z_7)), (0, .ref o), (1, .int (iI a)), (2, .int (iI b)), (3, .int (iI x)), (4, .int (iI y)), (5, .int (iI z)), (6, .int (iI 0))]) hx hb dX12_bestFrom_113 hl rfl (by decide) rfl (fun ls hl => ?_)
                    refine lv_goto (tgt := 39) hx hb dX12_bestFrom_116 (by decide) ?_
                    exact ih39  (i + 1) u 1 (by omega) (by refine Or.inr ⟨rfl, ?_⟩; rw [cnS_y (by omega)]; exact bf_st hst (mfZ_in hfm _ _ _ _) (by omega)) (by omega) (by omega) _ _ _ hP hD hS (lv_sub hl [4, 5, 6, 7, 8, 9, 10, 2, 1, 0] rfl)
                  · skip
                    refine lv_iload hx hb dX12_bestFrom_101 (lv_at hl 0 rfl) ?_
                    refine lv_goto (tgt := 108) hx hb dX12_bestFrom_103 (by decide) ?_
                    refine lv_istore (lv' := [(7, .int (iI z_7)), (10, .int (iI z_7)), (0, .ref o), (1, .int (iI a)), (2, .int (iI b)), (3, .int (iI x)), (4, .int (iI y)), (5, .int (iI z)), (6, .int (iI 0)), (8, .int (iI w)), (9, .int (iI (↑i)))]) hx hb dX12_bestFrom_108 hl (by decide) rfl (fun ls hl => ?_)
                    refine lv_iconst (v := iI 1) hx hb dX12_bestFrom_110 (by decide) ?_
                    refine lv_istore (lv' := [(8, .int (iI 1)), (7, .int (iI z_7)), (10, .int (iI z_7)), (0, .ref o), (1, .int (iI a)), (2, .int (iI b)), (3, .int (iI x)), (4, .int (iI y)), (5, .int (iI z)), (6, .int (iI 0)), (9, .int (iI (↑i)))]) hx hb dX12_bestFrom_111 hl (by decide) rfl (fun ls hl => ?_)
                    refine z_iinc (k := 10) (lv' := [(9, .int (iI ((↑i) + 1))), (8, .int (iI 1)), (7, .int (iI z_7)), (10, .int (iI z_7)), (0, .ref o), (1, .int (iI a)), (2, .int (iI b)), (3, .int (iI x)), (4, .int (iI y)), (5, .int (iI z)), (6, .int (iI 0))]) hx hb dX12_bestFrom_113 hl rfl (by decide) rfl (fun ls hl => ?_)
                    refine lv_goto (tgt := 39) hx hb dX12_bestFrom_116 (by decide) ?_
                    exact ih39  (i + 1) z_7 1 (by omega) (by refine Or.inr ⟨rfl, ?_⟩; rw [cnS_y (by omega)]; exact bf_st hst (mfZ_in hfm _ _ _ _) (by omega)) (by omega) (by omega) _ _ _ hP hD hS (lv_sub hl [4, 5, 6, 7, 8, 9, 10, 2, 1, 0] rfl)
              · skip
                refine lv_iconst (v := iI 1) hx hb dX12_bestFrom_86 (by decide) ?_
                refine lv_goto (tgt := 91) hx hb dX12_bestFrom_87 (by decide) ?_
                refine z_icmp_ne (tgt := 106) hx hb (by omega) dX12_bestFrom_91 (by decide) (fun c_13 => ?_) (fun c_13 => ?_)
                · skip
                  refine lv_iload hx hb dX12_bestFrom_106 (lv_at hl 8 rfl) ?_
                  refine lv_istore (lv' := [(7, .int (iI u)), (10, .int (iI z_7)), (0, .ref o), (1, .int (iI a)), (2, .int (iI b)), (3, .int (iI x)), (4, .int (iI y)), (5, .int (iI z)), (6, .int (iI 0)), (8, .int (iI w)), (9, .int (iI (↑i)))]) hx hb dX12_bestFrom_108 hl (by decide) rfl (fun ls hl => ?_)
                  refine lv_iconst (v := iI 1) hx hb dX12_bestFrom_110 (by decide) ?_
                  refine lv_istore (lv' := [(8, .int (iI 1)), (7, .int (iI u)), (10, .int (iI z_7)), (0, .ref o), (1, .int (iI a)), (2, .int (iI b)), (3, .int (iI x)), (4, .int (iI y)), (5, .int (iI z)), (6, .int (iI 0)), (9, .int (iI (↑i)))]) hx hb dX12_bestFrom_111 hl (by decide) rfl (fun ls hl => ?_)
                  refine z_iinc (k := 10) (lv' := [(9, .int (iI ((↑i) + 1))), (8, .int (iI 1)), (7, .int (iI u)), (10, .int (iI z_7)), (0, .ref o), (1, .int (iI a)), (2, .int (iI b)), (3, .int (iI x)), (4, .int (iI y)), (5, .int (iI z)), (6, .int (iI 0))]) hx hb dX12_bestFrom_113 hl rfl (by decide) rfl (fun ls hl => ?_)
                  refine lv_goto (tgt := 39) hx hb dX12_bestFrom_116 (by decide) ?_
                  exact ih39  (i + 1) u 1 (by omega) (by refine Or.inr ⟨rfl, ?_⟩; rw [cnS_y (by omega)]; exact bf_st hst (mfZ_in hfm _ _ _ _) (by omega)) (by omega) (by omega) _ _ _ hP hD hS (lv_sub hl [4, 5, 6, 7, 8, 9, 10, 2, 1, 0] rfl)
                · skip
                  exact absurd c_13 (by omega)
      exact L39 ((mi 1 - ↑(0 : Nat)).toNat + 1) 0 268435456 0 (by omega) (by refine Or.inl ⟨rfl, ?_, rfl⟩; first | (rw [if_pos htk]; done) | (rw [if_neg (by omega)]; done)) (by omega) (by omega) _ _ _ hP hD hS (lv_sub hl [4, 5, 6, 7, 8, 9, 3, 2, 1, 0] rfl)
    · skip
      exact absurd c_2 (by omega)
  · skip
    have htk : tkI (x + y + z) = 1 := by unfold tkI; omega
    refine lv_iconst (v := iI 1) hx hb dX12_bestFrom_12 (by decide) ?_
    refine lv_goto (tgt := 17) hx hb dX12_bestFrom_13 (by decide) ?_
    refine lv_istore (lv' := [(6, .int (iI 1)), (0, .ref o), (1, .int (iI a)), (2, .int (iI b)), (3, .int (iI x)), (4, .int (iI y)), (5, .int (iI z))]) hx hb dX12_bestFrom_17 hl (by decide) rfl (fun ls hl => ?_)
    refine lv_iload hx hb dX12_bestFrom_19 (lv_at hl 0 rfl) ?_
    refine z_if_eq (tgt := 29) hx hb (by omega) dX12_bestFrom_21 (by decide) (fun c_16 => ?_) (fun c_16 => ?_)
    · skip
      exact absurd c_16 (by omega)
    · skip
      refine lv_ldc (v := iI (-268435456)) hx hb hown (hts (.constant RX12 208 (-268435456)) (by decide +kernel)) dX12_bestFrom_24 ?_
      refine lv_goto (tgt := 31) hx hb dX12_bestFrom_26 (by decide) ?_
      refine lv_istore (lv' := [(7, .int (iI (-268435456))), (6, .int (iI 1)), (0, .ref o), (1, .int (iI a)), (2, .int (iI b)), (3, .int (iI x)), (4, .int (iI y)), (5, .int (iI z))]) hx hb dX12_bestFrom_31 hl (by decide) rfl (fun ls hl => ?_)
      refine lv_iconst (v := iI 0) hx hb dX12_bestFrom_33 (by decide) ?_
      refine lv_istore (lv' := [(8, .int (iI 0)), (7, .int (iI (-268435456))), (6, .int (iI 1)), (0, .ref o), (1, .int (iI a)), (2, .int (iI b)), (3, .int (iI x)), (4, .int (iI y)), (5, .int (iI z))]) hx hb dX12_bestFrom_34 hl (by decide) rfl (fun ls hl => ?_)
      refine lv_iconst (v := iI 0) hx hb dX12_bestFrom_36 (by decide) ?_
      refine lv_istore (lv' := [(9, .int (iI 0)), (8, .int (iI 0)), (7, .int (iI (-268435456))), (6, .int (iI 1)), (0, .ref o), (1, .int (iI a)), (2, .int (iI b)), (3, .int (iI x)), (4, .int (iI y)), (5, .int (iI z))]) hx hb dX12_bestFrom_37 hl (by decide) rfl (fun ls hl => ?_)
      have L39 : ∀ (fu : Nat) (i : Nat) (u : Int) (w : Int), ((i : Int) ≤ mi 1) → ((w = 0 ∧ u = (if tkI (x + y + z) = 1 then -268435456 else 268435456) ∧ cnS (kdM kz a.toNat) (kdM kz b.toNat) (mi 1) pv fm x y z i = (0, -1)) ∨ (w = 1 ∧ u = (cnS (kdM kz a.toNat) (kdM kz b.toNat) (mi 1) pv fm x y z i).1 ∧ ¬ (cnS (kdM kz a.toNat) (kdM kz b.toNat) (mi 1) pv fm x y z i).2 = -1)) → (-268435456 ≤ u ∧ u ≤ 268435456) → (mi 1 - ↑i).toNat < fu → ∀ (H : Heap) (locs : List Loc) (ls : Array Slot), va_P X.1 vwCl (zb [WMo o ma mi ml, WMp X ma pv, Wa X 2 (ma 9) 5 kz, Wa X 2 (ma 25) 9261 fm]) H → va_D A (zb [WMo o ma mi ml, WMp X ma pv, Wa X 2 (ma 9) 5 kz, Wa X 2 (ma 25) 9261 fm]) → va_S A s.heap H locs → lv_has ls 11 [(0, .ref o), (1, .int (iI a)), (2, .int (iI b)), (3, .int (iI x)), (4, .int (iI y)), (5, .int (iI z)), (6, .int (iI 1)), (7, .int (iI u)), (8, .int (iI w)), (9, .int (iI (↑i)))] → W p l e { frames := 2, cells := 0, slots := 0, locals := 52 } s m ([.ref o, .int (iI a), .int (iI b), .int (iI x), .int (iI y), .int (iI z)] : List Value).toArray below meth c H locs 0 0 Q (F0 m 39 ls []) := by
        intro fu
        induction fu with
        | zero => intro i u w hi hst hub hm; exact absurd hm (Nat.not_lt_zero _)
        | succ fu ih39 =>
          intro i u w hi hst hub hm H locs ls hP hD hS hl
          have htn := th_20 hn hpv i
          have hmi := mfZ_in (ka := (kdM kz a.toNat)) (kb := (kdM kz b.toNat)) (pv := pv) hfm i x y z
          refine lv_iload hx hb dX12_bestFrom_39 (lv_at hl 9 rfl) ?_
          refine lv_aload_n hx hb dX12_bestFrom_41 rfl (lv_at hl 0 rfl) ?_
          refine va_get (ci := 12) (v := .int (iI (mi 1))) (C := RX12) (T := TX12) (N := 38) hx hb hts inX12 hown hK.1 hP 0 rfl rfl 1 (by decide) (hts (.fieldLink RX12 119 "SkimmedSonsModel" "pans" "I") (by decide +kernel)) (fun _ h9 => h9) rfl dX12_bestFrom_42 ?_
          refine z_icmp_ge (tgt := 119) hx hb (by omega) dX12_bestFrom_45 (by decide) (fun c_17 => ?_) (fun c_17 => ?_)
          · skip
            refine lv_iload hx hb dX12_bestFrom_119 (lv_at hl 8 rfl) ?_
            refine z_if_eq (tgt := 129) hx hb (by omega) dX12_bestFrom_121 (by decide) (fun c_18 => ?_) (fun c_18 => ?_)
            · skip
              refine lv_iconst (v := iI 0) hx hb dX12_bestFrom_129 (by decide) ?_
              exact z_iret hQ hx hb hr hlocks hS ⟨(Nat.le_of_ble_eq_true rfl), (Nat.le_of_ble_eq_true rfl)⟩ dX12_bestFrom_130 () (congrArg (fun z => some (Value.int (iI z))) (show ((cnS (kdM kz a.toNat) (kdM kz b.toNat) (mi 1) pv fm x y z (mi 1).toNat).1 : Int) = 0 by rw [show (mi 1).toNat = i by omega]; rcases hst with ⟨q1, q2, q3⟩ | ⟨q1, q2, q3⟩ <;> first | (exfalso; omega) | (rw [q3]) | exact q2.symm)) trivial hP hD
            · skip
              refine lv_iload hx hb dX12_bestFrom_124 (lv_at hl 7 rfl) ?_
              refine lv_goto (tgt := 130) hx hb dX12_bestFrom_126 (by decide) ?_
              exact z_iret hQ hx hb hr hlocks hS ⟨(Nat.le_of_ble_eq_true rfl), (Nat.le_of_ble_eq_true rfl)⟩ dX12_bestFrom_130 () (congrArg (fun z => some (Value.int (iI z))) (show ((cnS (kdM kz a.toNat) (kdM kz b.toNat) (mi 1) pv fm x y z (mi 1).toNat).1 : Int) = u by rw [show (mi 1).toNat = i by omega]; rcases hst with ⟨q1, q2, q3⟩ | ⟨q1, q2, q3⟩ <;> first | (exfalso; omega) | (rw [q3]) | exact q2.symm)) trivial hP hD
          · skip
            refine lv_aload_n hx hb dX12_bestFrom_48 rfl (lv_at hl 0 rfl) ?_
            refine lv_iload hx hb dX12_bestFrom_49 (lv_at hl 9 rfl) ?_
            refine lv_iload_n hx hb dX12_bestFrom_51 rfl (lv_at hl 3 rfl) ?_
            refine lv_iload hx hb dX12_bestFrom_52 (lv_at hl 4 rfl) ?_
            refine lv_iload hx hb dX12_bestFrom_54 (lv_at hl 5 rfl) ?_
            have hPm := zp_perm hP (zblk (show List.Perm ([WMo o ma mi ml, WMp X ma pv, Wa X 2 (ma 9) 5 kz, Wa X 2 (ma 25) 9261 fm] : List va_W) ([WMo o ma mi ml, WMp X ma pv] ++ [Wa X 2 (ma 9) 5 kz, Wa X 2 (ma 25) 9261 fm]) from (zf1 _ 0 _ rfl).trans (((zf1 _ 0 _ rfl).trans ((List.Perm.refl _).cons _)).cons _)))
            have hDm := zd_perm hD (zblk (show List.Perm ([WMo o ma mi ml, WMp X ma pv, Wa X 2 (ma 9) 5 kz, Wa X 2 (ma 25) 9261 fm] : List va_W) ([WMo o ma mi ml, WMp X ma pv] ++ [Wa X 2 (ma 9) 5 kz, Wa X 2 (ma 25) 9261 fm]) from (zf1 _ 0 _ rfl).trans (((zf1 _ 0 _ rfl).trans ((List.Perm.refl _).cons _)).cons _)))
            refine z_callV (wr := zb [Wa X 2 (ma 9) 5 kz, Wa X 2 (ma 25) 9261 fm]) (As := [.int (iI (↑i)), .int (iI x), .int (iI y), .int (iI z)]) (rest := []) ⟨hx, hb, hml, hown, hts⟩ (c_X12_isLeft l X o ma mi ml pv i x y z (by omega) (by exact hpv) (by omega) (by exact hxyz)) (cwV 4 hts gX12_bestFrom_X12_isLeft rfl rfl rfl (by decide +kernel) ⟨Nat.le_of_ble_eq_true rfl, Nat.le_of_ble_eq_true rfl⟩) rfl rfl hl.1 dX12_bestFrom_56 rfl rfl (Nat.le_of_ble_eq_true rfl) ⟨(Nat.le_of_ble_eq_true rfl), (Nat.le_of_ble_eq_true rfl)⟩ hS hA hK hPm hDm (fun _ H locs _ hP hD hS => ?_)
            have hP := zp_perm hP ((zblk (show List.Perm ([WMo o ma mi ml, WMp X ma pv, Wa X 2 (ma 9) 5 kz, Wa X 2 (ma 25) 9261 fm] : List va_W) ([WMo o ma mi ml, WMp X ma pv] ++ [Wa X 2 (ma 9) 5 kz, Wa X 2 (ma 25) 9261 fm]) from (zf1 _ 0 _ rfl).trans (((zf1 _ 0 _ rfl).trans ((List.Perm.refl _).cons _)).cons _)))).symm
            have hD := zd_perm hD ((zblk (show List.Perm ([WMo o ma mi ml, WMp X ma pv, Wa X 2 (ma 9) 5 kz, Wa X 2 (ma 25) 9261 fm] : List va_W) ([WMo o ma mi ml, WMp X ma pv] ++ [Wa X 2 (ma 9) 5 kz, Wa X 2 (ma 25) 9261 fm]) from (zf1 _ 0 _ rfl).trans (((zf1 _ 0 _ rfl).trans ((List.Perm.refl _).cons _)).cons _)))).symm
            have hP : va_P X.1 vwCl (zb [WMo o ma mi ml, WMp X ma pv, Wa X 2 (ma 9) 5 kz, Wa X 2 (ma 25) 9261 fm]) H := hP
            have hD : va_D A (zb [WMo o ma mi ml, WMp X ma pv, Wa X 2 (ma 9) 5 kz, Wa X 2 (ma 25) 9261 fm]) := hD
            refine W.eq (g2 := F0 m 59 ls [.int (iI (if selZ i x y z < ((thZ (mi 1) pv i : Nat) : Int) then 1 else 0))]) rfl ?_
            refine z_if_eq (tgt := 113) hx hb (by omega) dX12_bestFrom_59 (by decide) (fun c_19 => ?_) (fun c_19 => ?_)
            · skip
              refine z_iinc (k := 9) (lv' := [(9, .int (iI ((↑i) + 1))), (0, .ref o), (1, .int (iI a)), (2, .int (iI b)), (3, .int (iI x)), (4, .int (iI y)), (5, .int (iI z)), (6, .int (iI 1)), (7, .int (iI u)), (8, .int (iI w))]) hx hb dX12_bestFrom_113 hl rfl (by decide) rfl (fun ls hl => ?_)
              refine lv_goto (tgt := 39) hx hb dX12_bestFrom_116 (by decide) ?_
              exact ih39  (i + 1) u w (by omega) (by rw [cnS_n (by omega)]; exact hst) (by omega) (by omega) _ _ _ hP hD hS (lv_sub hl [1, 2, 3, 4, 5, 6, 7, 8, 9, 0] rfl)
            · skip
              refine lv_aload_n hx hb dX12_bestFrom_62 rfl (lv_at hl 0 rfl) ?_
              refine lv_iload_n hx hb dX12_bestFrom_63 rfl (lv_at hl 1 rfl) ?_
              refine lv_iload_n hx hb dX12_bestFrom_64 rfl (lv_at hl 2 rfl) ?_
              refine lv_iload hx hb dX12_bestFrom_65 (lv_at hl 9 rfl) ?_
              refine lv_iload_n hx hb dX12_bestFrom_67 rfl (lv_at hl 3 rfl) ?_
              refine lv_iload hx hb dX12_bestFrom_68 (lv_at hl 4 rfl) ?_
              refine lv_iload hx hb dX12_bestFrom_70 (lv_at hl 5 rfl) ?_
              have hPm := zp_perm hP (zblk (show List.Perm ([WMo o ma mi ml, WMp X ma pv, Wa X 2 (ma 9) 5 kz, Wa X 2 (ma 25) 9261 fm] : List va_W) ([WMo o ma mi ml, WMp X ma pv, Wa X 2 (ma 9) 5 kz, Wa X 2 (ma 25) 9261 fm] ++ []) from (zf1 _ 0 _ rfl).trans (((zf1 _ 0 _ rfl).trans (((zf1 _ 0 _ rfl).trans (((zf1 _ 0 _ rfl).trans ((List.Perm.refl _).cons _)).cons _)).cons _)).cons _)))
              have hDm := zd_perm hD (zblk (show List.Perm ([WMo o ma mi ml, WMp X ma pv, Wa X 2 (ma 9) 5 kz, Wa X 2 (ma 25) 9261 fm] : List va_W) ([WMo o ma mi ml, WMp X ma pv, Wa X 2 (ma 9) 5 kz, Wa X 2 (ma 25) 9261 fm] ++ []) from (zf1 _ 0 _ rfl).trans (((zf1 _ 0 _ rfl).trans (((zf1 _ 0 _ rfl).trans (((zf1 _ 0 _ rfl).trans ((List.Perm.refl _).cons _)).cons _)).cons _)).cons _)))
              refine z_callV (wr := zb []) (As := [.int (iI a), .int (iI b), .int (iI (↑i)), .int (iI x), .int (iI y), .int (iI z)]) (rest := []) ⟨hx, hb, hml, hown, hts⟩ (c_X12_moreFrom l X o ma mi ml pv kz fm a b i x y z (by exact hab) (by exact hka) (by exact hkb) (by omega) (by exact hpv _ (by omega)) (by exact hxyz) (by omega) (by exact hfm)) (cwV 6 hts gX12_bestFrom_X12_moreFrom rfl rfl rfl (by decide +kernel) ⟨Nat.le_of_ble_eq_true rfl, Nat.le_of_ble_eq_true rfl⟩) rfl rfl hl.1 dX12_bestFrom_72 rfl rfl (Nat.le_of_ble_eq_true rfl) ⟨(Nat.le_of_ble_eq_true rfl), (Nat.le_of_ble_eq_true rfl)⟩ hS hA hK hPm hDm (fun _ H locs _ hP hD hS => ?_)
              have hP := zp_perm hP ((zblk (show List.Perm ([WMo o ma mi ml, WMp X ma pv, Wa X 2 (ma 9) 5 kz, Wa X 2 (ma 25) 9261 fm] : List va_W) ([WMo o ma mi ml, WMp X ma pv, Wa X 2 (ma 9) 5 kz, Wa X 2 (ma 25) 9261 fm] ++ []) from (zf1 _ 0 _ rfl).trans (((zf1 _ 0 _ rfl).trans (((zf1 _ 0 _ rfl).trans (((zf1 _ 0 _ rfl).trans ((List.Perm.refl _).cons _)).cons _)).cons _)).cons _)))).symm
              have hD := zd_perm hD ((zblk (show List.Perm ([WMo o ma mi ml, WMp X ma pv, Wa X 2 (ma 9) 5 kz, Wa X 2 (ma 25) 9261 fm] : List va_W) ([WMo o ma mi ml, WMp X ma pv, Wa X 2 (ma 9) 5 kz, Wa X 2 (ma 25) 9261 fm] ++ []) from (zf1 _ 0 _ rfl).trans (((zf1 _ 0 _ rfl).trans (((zf1 _ 0 _ rfl).trans (((zf1 _ 0 _ rfl).trans ((List.Perm.refl _).cons _)).cons _)).cons _)).cons _)))).symm
              have hP : va_P X.1 vwCl (zb [WMo o ma mi ml, WMp X ma pv, Wa X 2 (ma 9) 5 kz, Wa X 2 (ma 25) 9261 fm]) H := hP
              have hD : va_D A (zb [WMo o ma mi ml, WMp X ma pv, Wa X 2 (ma 9) 5 kz, Wa X 2 (ma 25) 9261 fm]) := hD
              refine W.eq (g2 := F0 m 75 ls [.int (iI (mfZ (kdM kz a.toNat) (kdM kz b.toNat) pv fm i x y z))]) rfl ?_
              refine z_topi (fun z_21 ez_21 => ?_)
              refine lv_istore (lv' := [(10, .int (iI z_21)), (0, .ref o), (1, .int (iI a)), (2, .int (iI b)), (3, .int (iI x)), (4, .int (iI y)), (5, .int (iI z)), (6, .int (iI 1)), (7, .int (iI u)), (8, .int (iI w)), (9, .int (iI (↑i)))]) hx hb dX12_bestFrom_75 hl (by decide) rfl (fun ls hl => ?_)
              refine lv_iload hx hb dX12_bestFrom_77 (lv_at hl 7 rfl) ?_
              refine lv_iload hx hb dX12_bestFrom_79 (lv_at hl 0 rfl) ?_
              refine lv_iload hx hb dX12_bestFrom_81 (lv_at hl 8 rfl) ?_
              refine z_icmp_le (tgt := 90) hx hb (by omega) dX12_bestFrom_83 (by decide) (fun c_22 => ?_) (fun c_22 => ?_)
              · skip
                refine lv_iconst (v := iI 0) hx hb dX12_bestFrom_90 (by decide) ?_
                refine z_icmp_ne (tgt := 106) hx hb (by omega) dX12_bestFrom_91 (by decide) (fun c_23 => ?_) (fun c_23 => ?_)
                · skip
                  refine lv_iload hx hb dX12_bestFrom_106 (lv_at hl 8 rfl) ?_
                  refine lv_istore (lv' := [(7, .int (iI u)), (10, .int (iI z_21)), (0, .ref o), (1, .int (iI a)), (2, .int (iI b)), (3, .int (iI x)), (4, .int (iI y)), (5, .int (iI z)), (6, .int (iI 1)), (8, .int (iI w)), (9, .int (iI (↑i)))]) hx hb dX12_bestFrom_108 hl (by decide) rfl (fun ls hl => ?_)
                  refine lv_iconst (v := iI 1) hx hb dX12_bestFrom_110 (by decide) ?_
                  refine lv_istore (lv' := [(8, .int (iI 1)), (7, .int (iI u)), (10, .int (iI z_21)), (0, .ref o), (1, .int (iI a)), (2, .int (iI b)), (3, .int (iI x)), (4, .int (iI y)), (5, .int (iI z)), (6, .int (iI 1)), (9, .int (iI (↑i)))]) hx hb dX12_bestFrom_111 hl (by decide) rfl (fun ls hl => ?_)
                  refine z_iinc (k := 10) (lv' := [(9, .int (iI ((↑i) + 1))), (8, .int (iI 1)), (7, .int (iI u)), (10, .int (iI z_21)), (0, .ref o), (1, .int (iI a)), (2, .int (iI b)), (3, .int (iI x)), (4, .int (iI y)), (5, .int (iI z)), (6, .int (iI 1))]) hx hb dX12_bestFrom_113 hl rfl (by decide) rfl (fun ls hl => ?_)
                  refine lv_goto (tgt := 39) hx hb dX12_bestFrom_116 (by decide) ?_
                  exact ih39  (i + 1) u 1 (by omega) (by refine Or.inr ⟨rfl, ?_⟩; rw [cnS_y (by omega)]; exact bf_st hst (mfZ_in hfm _ _ _ _) (by omega)) (by omega) (by omega) _ _ _ hP hD hS (lv_sub hl [4, 5, 6, 7, 8, 9, 10, 2, 1, 0] rfl)
                · skip
                  exact absurd c_23 (by omega)
              · skip
                refine lv_iconst (v := iI 1) hx hb dX12_bestFrom_86 (by decide) ?_
                refine lv_goto (tgt := 91) hx hb dX12_bestFrom_87 (by decide) ?_
                refine z_icmp_ne (tgt := 106) hx hb (by omega) dX12_bestFrom_91 (by decide) (fun c_25 => ?_) (fun c_25 => ?_)
                · skip
                  exact absurd c_25 (by omega)
                · skip
                  refine lv_iload hx hb dX12_bestFrom_94 (lv_at hl 0 rfl) ?_
                  refine lv_iload hx hb dX12_bestFrom_96 (lv_at hl 8 rfl) ?_
                  refine z_icmp_eq (tgt := 106) hx hb (by omega) dX12_bestFrom_98 (by decide) (fun c_26 => ?_) (fun c_26 => ?_)
                  · skip
                    exact absurd c_26 (by omega)
                  · skip
                    refine lv_iload hx hb dX12_bestFrom_101 (lv_at hl 0 rfl) ?_
                    refine lv_goto (tgt := 108) hx hb dX12_bestFrom_103 (by decide) ?_
                    refine lv_istore (lv' := [(7, .int (iI z_21)), (10, .int (iI z_21)), (0, .ref o), (1, .int (iI a)), (2, .int (iI b)), (3, .int (iI x)), (4, .int (iI y)), (5, .int (iI z)), (6, .int (iI 1)), (8, .int (iI w)), (9, .int (iI (↑i)))]) hx hb dX12_bestFrom_108 hl (by decide) rfl (fun ls hl => ?_)
                    refine lv_iconst (v := iI 1) hx hb dX12_bestFrom_110 (by decide) ?_
                    refine lv_istore (lv' := [(8, .int (iI 1)), (7, .int (iI z_21)), (10, .int (iI z_21)), (0, .ref o), (1, .int (iI a)), (2, .int (iI b)), (3, .int (iI x)), (4, .int (iI y)), (5, .int (iI z)), (6, .int (iI 1)), (9, .int (iI (↑i)))]) hx hb dX12_bestFrom_111 hl (by decide) rfl (fun ls hl => ?_)
                    refine z_iinc (k := 10) (lv' := [(9, .int (iI ((↑i) + 1))), (8, .int (iI 1)), (7, .int (iI z_21)), (10, .int (iI z_21)), (0, .ref o), (1, .int (iI a)), (2, .int (iI b)), (3, .int (iI x)), (4, .int (iI y)), (5, .int (iI z)), (6, .int (iI 1))]) hx hb dX12_bestFrom_113 hl rfl (by decide) rfl (fun ls hl => ?_)
                    refine lv_goto (tgt := 39) hx hb dX12_bestFrom_116 (by decide) ?_
                    exact ih39  (i + 1) z_21 1 (by omega) (by refine Or.inr ⟨rfl, ?_⟩; rw [cnS_y (by omega)]; exact bf_st hst (mfZ_in hfm _ _ _ _) (by omega)) (by omega) (by omega) _ _ _ hP hD hS (lv_sub hl [4, 5, 6, 7, 8, 9, 10, 2, 1, 0] rfl)
      exact L39 ((mi 1 - ↑(0 : Nat)).toNat + 1) 0 (-268435456) 0 (by omega) (by refine Or.inl ⟨rfl, ?_, rfl⟩; first | (rw [if_pos htk]; done) | (rw [if_neg (by omega)]; done)) (by omega) (by omega) _ _ _ hP hD hS (lv_sub hl [4, 5, 6, 7, 8, 9, 3, 2, 1, 0] rfl)
set_option maxHeartbeats 1000000 in
set_option maxRecDepth 100000 in
theorem c_X12_layTreaty (l : Launch) (X : zX) (o : Nat) (ma : Nat → Nat) (mi : Nat → Int) (ml : Nat → Int) (pv : Nat → Nat → Int) (kz : Nat → Int) (fm : Nat → Int) (a : Int) (b : Int) (hn : 0 ≤ mi 1 ∧ mi 1 ≤ 3) (hpv : PanS pv) (hab : (0 ≤ a ∧ a < 5) ∧ (0 ≤ b ∧ b < 5)) (hka : 0 ≤ kz a.toNat ∧ kz a.toNat ≤ 4) (hkb : 0 ≤ kz b.toNat ∧ kz b.toNat ≤ 4) (hfm : FmB fm) : zM (S := (Nat → Int)) l X yX12_layTreaty wsX12_layTreaty { frames := 3, cells := 0, slots := 0, locals := 82 } [.ref o, .int (iI a), .int (iI b)] (zb [WMo o ma mi ml, WMp X ma pv, Wa X 2 (ma 9) 5 kz, Wa X 2 (ma 25) 9261 fm]) (fun u => none) (fun u => zb [WMo o ma mi ml, WMp X ma pv, Wa X 2 (ma 9) 5 kz, Wa X 2 (ma 25) 9261 u]) (fun u => FmB u ∧ LyP (kdM kz a.toNat) (kdM kz b.toNat) (mi 1) pv u (-1) ((thZ (mi 1) pv 1 : Nat) : Int) ((thZ (mi 1) pv 2 : Nat) : Int)) := by
  refine z_enter (cc := cX12_layTreaty) (maxL := 6) (ret := none) (by decide) rfl (Nat.le_of_ble_eq_true rfl) ?_
  intro p e s m below meth c A ls Q hQ hE hl hP hD
  obtain ⟨hx, hb, hr, hml, hown, hts, hlocks, hnm, hA, hK⟩ := hE
  have hown : s.vm.findClass RX12 = some m.cls := hown
  have hS : va_S A s.heap s.heap [] := va_S.rf
  have hl : lv_has ls 6 [(0, .ref o), (1, .int (iI a)), (2, .int (iI b))] := hl
  have inX12 : ∀ w ∈ u_ws RX12 TX12 38, w ∈ wsX12_layTreaty := by decide +kernel
  have t0 := th_20 hn hpv 0
  have t1 := th_20 hn hpv 1
  have t2 := th_20 hn hpv 2
  refine lv_aload_n hx hb dX12_layTreaty_0 rfl (lv_at hl 0 rfl) ?_
  refine lv_iconst (v := iI 0) hx hb dX12_layTreaty_1 (by decide) ?_
  have hPm := zp_perm hP (zblk (show List.Perm ([WMo o ma mi ml, WMp X ma pv, Wa X 2 (ma 9) 5 kz, Wa X 2 (ma 25) 9261 fm] : List va_W) ([WMo o ma mi ml, WMp X ma pv] ++ [Wa X 2 (ma 9) 5 kz, Wa X 2 (ma 25) 9261 fm]) from (zf1 _ 0 _ rfl).trans (((zf1 _ 0 _ rfl).trans ((List.Perm.refl _).cons _)).cons _)))
  have hDm := zd_perm hD (zblk (show List.Perm ([WMo o ma mi ml, WMp X ma pv, Wa X 2 (ma 9) 5 kz, Wa X 2 (ma 25) 9261 fm] : List va_W) ([WMo o ma mi ml, WMp X ma pv] ++ [Wa X 2 (ma 9) 5 kz, Wa X 2 (ma 25) 9261 fm]) from (zf1 _ 0 _ rfl).trans (((zf1 _ 0 _ rfl).trans ((List.Perm.refl _).cons _)).cons _)))
  refine z_callV (wr := zb [Wa X 2 (ma 9) 5 kz, Wa X 2 (ma 25) 9261 fm]) (As := [.int (iI 0)]) (rest := []) ⟨hx, hb, hml, hown, hts⟩ (c_X12_things l X o ma mi ml pv 0 (by omega) (by exact hpv) (by omega)) (cwV 1 hts gX12_layTreaty_X12_things rfl rfl rfl (by decide +kernel) ⟨Nat.le_of_ble_eq_true rfl, Nat.le_of_ble_eq_true rfl⟩) rfl rfl hl.1 dX12_layTreaty_2 rfl rfl (Nat.le_of_ble_eq_true rfl) ⟨(Nat.le_of_ble_eq_true rfl), (Nat.le_of_ble_eq_true rfl)⟩ hS hA hK hPm hDm (fun _ H locs _ hP hD hS => ?_)
  have hP := zp_perm hP ((zblk (show List.Perm ([WMo o ma mi ml, WMp X ma pv, Wa X 2 (ma 9) 5 kz, Wa X 2 (ma 25) 9261 fm] : List va_W) ([WMo o ma mi ml, WMp X ma pv] ++ [Wa X 2 (ma 9) 5 kz, Wa X 2 (ma 25) 9261 fm]) from (zf1 _ 0 _ rfl).trans (((zf1 _ 0 _ rfl).trans ((List.Perm.refl _).cons _)).cons _)))).symm
  have hD := zd_perm hD ((zblk (show List.Perm ([WMo o ma mi ml, WMp X ma pv, Wa X 2 (ma 9) 5 kz, Wa X 2 (ma 25) 9261 fm] : List va_W) ([WMo o ma mi ml, WMp X ma pv] ++ [Wa X 2 (ma 9) 5 kz, Wa X 2 (ma 25) 9261 fm]) from (zf1 _ 0 _ rfl).trans (((zf1 _ 0 _ rfl).trans ((List.Perm.refl _).cons _)).cons _)))).symm
  have hP : va_P X.1 vwCl (zb [WMo o ma mi ml, WMp X ma pv, Wa X 2 (ma 9) 5 kz, Wa X 2 (ma 25) 9261 fm]) H := hP
  have hD : va_D A (zb [WMo o ma mi ml, WMp X ma pv, Wa X 2 (ma 9) 5 kz, Wa X 2 (ma 25) 9261 fm]) := hD
  refine W.eq (g2 := F0 m 5 ls [.int (iI ((thZ (mi 1) pv 0 : Nat) : Int))]) rfl ?_
  refine lv_istore_n (lv' := [(3, .int (iI ((thZ (mi 1) pv 0 : Nat) : Int))), (0, .ref o), (1, .int (iI a)), (2, .int (iI b))]) hx hb dX12_layTreaty_5 rfl hl (by decide) rfl (fun ls hl => ?_)
  have L6 : ∀ (fu : Nat) (x : Int) (fm1 : Nat → Int), (-1 ≤ x ∧ x ≤ ((thZ (mi 1) pv 0 : Nat) : Int)) → (FmB fm1) → (LyP (kdM kz a.toNat) (kdM kz b.toNat) (mi 1) pv fm1 x ((thZ (mi 1) pv 1 : Nat) : Int) ((thZ (mi 1) pv 2 : Nat) : Int)) → (x + 1).toNat < fu → ∀ (H : Heap) (locs : List Loc) (ls : Array Slot), va_P X.1 vwCl (zb [WMo o ma mi ml, WMp X ma pv, Wa X 2 (ma 9) 5 kz, Wa X 2 (ma 25) 9261 fm1]) H → va_D A (zb [WMo o ma mi ml, WMp X ma pv, Wa X 2 (ma 9) 5 kz, Wa X 2 (ma 25) 9261 fm1]) → va_S A s.heap H locs → lv_has ls 6 [(0, .ref o), (1, .int (iI a)), (2, .int (iI b)), (3, .int (iI x))] → W p l e { frames := 3, cells := 0, slots := 0, locals := 82 } s m ([.ref o, .int (iI a), .int (iI b)] : List Value).toArray below meth c H locs 0 0 Q (F0 m 6 ls []) := by
    intro fu
    induction fu with
    | zero => intro x fm1 hxr hF1 hL1 hm; exact absurd hm (Nat.not_lt_zero _)
    | succ fu ih6 =>
      intro x fm1 hxr hF1 hL1 hm H locs ls hP hD hS hl
      refine lv_iload_n hx hb dX12_layTreaty_6 rfl (lv_at hl 3 rfl) ?_
      refine z_if_lt (tgt := 76) hx hb (by omega) dX12_layTreaty_7 (by decide) (fun c_1 => ?_) (fun c_1 => ?_)
      · skip
        exact z_vret hQ hx hb hr hlocks hS ⟨(Nat.le_of_ble_eq_true rfl), (Nat.le_of_ble_eq_true rfl)⟩ dX12_layTreaty_76 fm1 rfl (by (try dsimp only); rw [show x = -1 by omega] at hL1; exact ⟨hF1, hL1⟩) hP hD
      · skip
        refine lv_aload_n hx hb dX12_layTreaty_10 rfl (lv_at hl 0 rfl) ?_
        refine lv_iconst (v := iI 1) hx hb dX12_layTreaty_11 (by decide) ?_
        have hPm := zp_perm hP (zblk (show List.Perm ([WMo o ma mi ml, WMp X ma pv, Wa X 2 (ma 9) 5 kz, Wa X 2 (ma 25) 9261 fm1] : List va_W) ([WMo o ma mi ml, WMp X ma pv] ++ [Wa X 2 (ma 9) 5 kz, Wa X 2 (ma 25) 9261 fm1]) from (zf1 _ 0 _ rfl).trans (((zf1 _ 0 _ rfl).trans ((List.Perm.refl _).cons _)).cons _)))
        have hDm := zd_perm hD (zblk (show List.Perm ([WMo o ma mi ml, WMp X ma pv, Wa X 2 (ma 9) 5 kz, Wa X 2 (ma 25) 9261 fm1] : List va_W) ([WMo o ma mi ml, WMp X ma pv] ++ [Wa X 2 (ma 9) 5 kz, Wa X 2 (ma 25) 9261 fm1]) from (zf1 _ 0 _ rfl).trans (((zf1 _ 0 _ rfl).trans ((List.Perm.refl _).cons _)).cons _)))
        refine z_callV (wr := zb [Wa X 2 (ma 9) 5 kz, Wa X 2 (ma 25) 9261 fm1]) (As := [.int (iI 1)]) (rest := []) ⟨hx, hb, hml, hown, hts⟩ (c_X12_things l X o ma mi ml pv 1 (by omega) (by exact hpv) (by omega)) (cwV 1 hts gX12_layTreaty_X12_things rfl rfl rfl (by decide +kernel) ⟨Nat.le_of_ble_eq_true rfl, Nat.le_of_ble_eq_true rfl⟩) rfl rfl hl.1 dX12_layTreaty_12 rfl rfl (Nat.le_of_ble_eq_true rfl) ⟨(Nat.le_of_ble_eq_true rfl), (Nat.le_of_ble_eq_true rfl)⟩ hS hA hK hPm hDm (fun _ H locs _ hP hD hS => ?_)
        have hP := zp_perm hP ((zblk (show List.Perm ([WMo o ma mi ml, WMp X ma pv, Wa X 2 (ma 9) 5 kz, Wa X 2 (ma 25) 9261 fm1] : List va_W) ([WMo o ma mi ml, WMp X ma pv] ++ [Wa X 2 (ma 9) 5 kz, Wa X 2 (ma 25) 9261 fm1]) from (zf1 _ 0 _ rfl).trans (((zf1 _ 0 _ rfl).trans ((List.Perm.refl _).cons _)).cons _)))).symm
        have hD := zd_perm hD ((zblk (show List.Perm ([WMo o ma mi ml, WMp X ma pv, Wa X 2 (ma 9) 5 kz, Wa X 2 (ma 25) 9261 fm1] : List va_W) ([WMo o ma mi ml, WMp X ma pv] ++ [Wa X 2 (ma 9) 5 kz, Wa X 2 (ma 25) 9261 fm1]) from (zf1 _ 0 _ rfl).trans (((zf1 _ 0 _ rfl).trans ((List.Perm.refl _).cons _)).cons _)))).symm
        have hP : va_P X.1 vwCl (zb [WMo o ma mi ml, WMp X ma pv, Wa X 2 (ma 9) 5 kz, Wa X 2 (ma 25) 9261 fm1]) H := hP
        have hD : va_D A (zb [WMo o ma mi ml, WMp X ma pv, Wa X 2 (ma 9) 5 kz, Wa X 2 (ma 25) 9261 fm1]) := hD
        refine W.eq (g2 := F0 m 15 ls [.int (iI ((thZ (mi 1) pv 1 : Nat) : Int))]) rfl ?_
        refine lv_istore (lv' := [(4, .int (iI ((thZ (mi 1) pv 1 : Nat) : Int))), (0, .ref o), (1, .int (iI a)), (2, .int (iI b)), (3, .int (iI x))]) hx hb dX12_layTreaty_15 hl (by decide) rfl (fun ls hl => ?_)
        have L17 : ∀ (fu : Nat) (y : Int) (fm2 : Nat → Int), (-1 ≤ y ∧ y ≤ ((thZ (mi 1) pv 1 : Nat) : Int)) → (FmB fm2) → (LyP (kdM kz a.toNat) (kdM kz b.toNat) (mi 1) pv fm2 x y ((thZ (mi 1) pv 2 : Nat) : Int)) → (y + 1).toNat < fu → ∀ (H : Heap) (locs : List Loc) (ls : Array Slot), va_P X.1 vwCl (zb [WMo o ma mi ml, WMp X ma pv, Wa X 2 (ma 9) 5 kz, Wa X 2 (ma 25) 9261 fm2]) H → va_D A (zb [WMo o ma mi ml, WMp X ma pv, Wa X 2 (ma 9) 5 kz, Wa X 2 (ma 25) 9261 fm2]) → va_S A s.heap H locs → lv_has ls 6 [(0, .ref o), (1, .int (iI a)), (2, .int (iI b)), (3, .int (iI x)), (4, .int (iI y))] → W p l e { frames := 3, cells := 0, slots := 0, locals := 82 } s m ([.ref o, .int (iI a), .int (iI b)] : List Value).toArray below meth c H locs 0 0 Q (F0 m 17 ls []) := by
          intro fu
          induction fu with
          | zero => intro y fm2 hyr hF2 hL2 hm; exact absurd hm (Nat.not_lt_zero _)
          | succ fu ih17 =>
            intro y fm2 hyr hF2 hL2 hm H locs ls hP hD hS hl
            refine lv_iload hx hb dX12_layTreaty_17 (lv_at hl 4 rfl) ?_
            refine z_if_lt (tgt := 70) hx hb (by omega) dX12_layTreaty_19 (by decide) (fun c_2 => ?_) (fun c_2 => ?_)
            · skip
              refine z_iinc (k := 3) (lv' := [(3, .int (iI (x + (-1)))), (0, .ref o), (1, .int (iI a)), (2, .int (iI b)), (4, .int (iI y))]) hx hb dX12_layTreaty_70 hl rfl (by decide) rfl (fun ls hl => ?_)
              refine lv_goto (tgt := 6) hx hb dX12_layTreaty_73 (by decide) ?_
              exact ih6  (x + (-1)) fm2 (by omega) (by exact hF2) (by rw [show y = -1 by omega] at hL2; exact Ly_lay hL2) (by omega) _ _ _ hP hD hS (lv_sub hl [1, 2, 3, 0] rfl)
            · skip
              refine lv_aload_n hx hb dX12_layTreaty_22 rfl (lv_at hl 0 rfl) ?_
              refine lv_iconst (v := iI 2) hx hb dX12_layTreaty_23 (by decide) ?_
              have hPm := zp_perm hP (zblk (show List.Perm ([WMo o ma mi ml, WMp X ma pv, Wa X 2 (ma 9) 5 kz, Wa X 2 (ma 25) 9261 fm2] : List va_W) ([WMo o ma mi ml, WMp X ma pv] ++ [Wa X 2 (ma 9) 5 kz, Wa X 2 (ma 25) 9261 fm2]) from (zf1 _ 0 _ rfl).trans (((zf1 _ 0 _ rfl).trans ((List.Perm.refl _).cons _)).cons _)))
              have hDm := zd_perm hD (zblk (show List.Perm ([WMo o ma mi ml, WMp X ma pv, Wa X 2 (ma 9) 5 kz, Wa X 2 (ma 25) 9261 fm2] : List va_W) ([WMo o ma mi ml, WMp X ma pv] ++ [Wa X 2 (ma 9) 5 kz, Wa X 2 (ma 25) 9261 fm2]) from (zf1 _ 0 _ rfl).trans (((zf1 _ 0 _ rfl).trans ((List.Perm.refl _).cons _)).cons _)))
              refine z_callV (wr := zb [Wa X 2 (ma 9) 5 kz, Wa X 2 (ma 25) 9261 fm2]) (As := [.int (iI 2)]) (rest := []) ⟨hx, hb, hml, hown, hts⟩ (c_X12_things l X o ma mi ml pv 2 (by omega) (by exact hpv) (by omega)) (cwV 1 hts gX12_layTreaty_X12_things rfl rfl rfl (by decide +kernel) ⟨Nat.le_of_ble_eq_true rfl, Nat.le_of_ble_eq_true rfl⟩) rfl rfl hl.1 dX12_layTreaty_24 rfl rfl (Nat.le_of_ble_eq_true rfl) ⟨(Nat.le_of_ble_eq_true rfl), (Nat.le_of_ble_eq_true rfl)⟩ hS hA hK hPm hDm (fun _ H locs _ hP hD hS => ?_)
              have hP := zp_perm hP ((zblk (show List.Perm ([WMo o ma mi ml, WMp X ma pv, Wa X 2 (ma 9) 5 kz, Wa X 2 (ma 25) 9261 fm2] : List va_W) ([WMo o ma mi ml, WMp X ma pv] ++ [Wa X 2 (ma 9) 5 kz, Wa X 2 (ma 25) 9261 fm2]) from (zf1 _ 0 _ rfl).trans (((zf1 _ 0 _ rfl).trans ((List.Perm.refl _).cons _)).cons _)))).symm
              have hD := zd_perm hD ((zblk (show List.Perm ([WMo o ma mi ml, WMp X ma pv, Wa X 2 (ma 9) 5 kz, Wa X 2 (ma 25) 9261 fm2] : List va_W) ([WMo o ma mi ml, WMp X ma pv] ++ [Wa X 2 (ma 9) 5 kz, Wa X 2 (ma 25) 9261 fm2]) from (zf1 _ 0 _ rfl).trans (((zf1 _ 0 _ rfl).trans ((List.Perm.refl _).cons _)).cons _)))).symm
              have hP : va_P X.1 vwCl (zb [WMo o ma mi ml, WMp X ma pv, Wa X 2 (ma 9) 5 kz, Wa X 2 (ma 25) 9261 fm2]) H := hP
              have hD : va_D A (zb [WMo o ma mi ml, WMp X ma pv, Wa X 2 (ma 9) 5 kz, Wa X 2 (ma 25) 9261 fm2]) := hD
              refine W.eq (g2 := F0 m 27 ls [.int (iI ((thZ (mi 1) pv 2 : Nat) : Int))]) rfl ?_
              refine lv_istore (lv' := [(5, .int (iI ((thZ (mi 1) pv 2 : Nat) : Int))), (0, .ref o), (1, .int (iI a)), (2, .int (iI b)), (3, .int (iI x)), (4, .int (iI y))]) hx hb dX12_layTreaty_27 hl (by decide) rfl (fun ls hl => ?_)
              have L29 : ∀ (fu : Nat) (z : Int) (fm3 : Nat → Int), (-1 ≤ z ∧ z ≤ ((thZ (mi 1) pv 2 : Nat) : Int)) → (FmB fm3) → (LyP (kdM kz a.toNat) (kdM kz b.toNat) (mi 1) pv fm3 x y z) → (z + 1).toNat < fu → ∀ (H : Heap) (locs : List Loc) (ls : Array Slot), va_P X.1 vwCl (zb [WMo o ma mi ml, WMp X ma pv, Wa X 2 (ma 9) 5 kz, Wa X 2 (ma 25) 9261 fm3]) H → va_D A (zb [WMo o ma mi ml, WMp X ma pv, Wa X 2 (ma 9) 5 kz, Wa X 2 (ma 25) 9261 fm3]) → va_S A s.heap H locs → lv_has ls 6 [(0, .ref o), (1, .int (iI a)), (2, .int (iI b)), (3, .int (iI x)), (4, .int (iI y)), (5, .int (iI z))] → W p l e { frames := 3, cells := 0, slots := 0, locals := 82 } s m ([.ref o, .int (iI a), .int (iI b)] : List Value).toArray below meth c H locs 0 0 Q (F0 m 29 ls []) := by
                intro fu
                induction fu with
                | zero => intro z fm3 hzr hF3 hL3 hm; exact absurd hm (Nat.not_lt_zero _)
                | succ fu ih29 =>
                  intro z fm3 hzr hF3 hL3 hm H locs ls hP hD hS hl
                  refine lv_iload hx hb dX12_layTreaty_29 (lv_at hl 5 rfl) ?_
                  refine z_if_lt (tgt := 64) hx hb (by omega) dX12_layTreaty_31 (by decide) (fun c_4 => ?_) (fun c_4 => ?_)
                  · skip
                    refine z_iinc (k := 4) (lv' := [(4, .int (iI (y + (-1)))), (0, .ref o), (1, .int (iI a)), (2, .int (iI b)), (3, .int (iI x)), (5, .int (iI z))]) hx hb dX12_layTreaty_64 hl rfl (by decide) rfl (fun ls hl => ?_)
                    refine lv_goto (tgt := 17) hx hb dX12_layTreaty_67 (by decide) ?_
                    exact ih17  (y + (-1)) fm3 (by omega) (by exact hF3) (by rw [show z = -1 by omega] at hL3; exact Ly_row hL3) (by omega) _ _ _ hP hD hS (lv_sub hl [1, 2, 3, 4, 0] rfl)
                  · skip
                    refine lv_aload_n hx hb dX12_layTreaty_34 rfl (lv_at hl 0 rfl) ?_
                    refine va_get (ci := 12) (v := .ref (ma 25)) (C := RX12) (T := TX12) (N := 38) hx hb hts inX12 hown hK.1 hP 0 rfl rfl 25 (by decide) (hts (.fieldLink RX12 56 "SkimmedSonsModel" "moreBy" "[I") (by decide +kernel)) (fun _ h9 => h9) rfl dX12_layTreaty_35 ?_
                    refine lv_iload_n hx hb dX12_layTreaty_38 rfl (lv_at hl 3 rfl) ?_
                    refine lv_iload hx hb dX12_layTreaty_39 (lv_at hl 4 rfl) ?_
                    refine lv_iload hx hb dX12_layTreaty_41 (lv_at hl 5 rfl) ?_
                    have hPm := zp_perm hP (zblk (show List.Perm ([WMo o ma mi ml, WMp X ma pv, Wa X 2 (ma 9) 5 kz, Wa X 2 (ma 25) 9261 fm3] : List va_W) ([] ++ [WMo o ma mi ml, WMp X ma pv, Wa X 2 (ma 9) 5 kz, Wa X 2 (ma 25) 9261 fm3]) from List.Perm.refl _))
                    have hDm := zd_perm hD (zblk (show List.Perm ([WMo o ma mi ml, WMp X ma pv, Wa X 2 (ma 9) 5 kz, Wa X 2 (ma 25) 9261 fm3] : List va_W) ([] ++ [WMo o ma mi ml, WMp X ma pv, Wa X 2 (ma 9) 5 kz, Wa X 2 (ma 25) 9261 fm3]) from List.Perm.refl _))
                    refine z_callS (wr := zb [WMo o ma mi ml, WMp X ma pv, Wa X 2 (ma 9) 5 kz, Wa X 2 (ma 25) 9261 fm3]) (As := [.int (iI x), .int (iI y), .int (iI z)]) (rest := [.ref (ma 25)]) ⟨hx, hb, hml, hown, hts⟩ (c_X12_slot l X x y z ) (va_cwS 3 hts gX12_layTreaty_X12_slot rfl rfl rfl (by decide +kernel) ⟨Nat.le_of_ble_eq_true rfl, Nat.le_of_ble_eq_true rfl⟩) hl.1 dX12_layTreaty_43 rfl rfl (Nat.le_of_ble_eq_true rfl) ⟨(Nat.le_of_ble_eq_true rfl), (Nat.le_of_ble_eq_true rfl)⟩ hS hA hK hPm hDm (fun _ H locs _ hP hD hS => ?_)
                    have hP := zp_perm hP ((zblk (show List.Perm ([WMo o ma mi ml, WMp X ma pv, Wa X 2 (ma 9) 5 kz, Wa X 2 (ma 25) 9261 fm3] : List va_W) ([] ++ [WMo o ma mi ml, WMp X ma pv, Wa X 2 (ma 9) 5 kz, Wa X 2 (ma 25) 9261 fm3]) from List.Perm.refl _))).symm
                    have hD := zd_perm hD ((zblk (show List.Perm ([WMo o ma mi ml, WMp X ma pv, Wa X 2 (ma 9) 5 kz, Wa X 2 (ma 25) 9261 fm3] : List va_W) ([] ++ [WMo o ma mi ml, WMp X ma pv, Wa X 2 (ma 9) 5 kz, Wa X 2 (ma 25) 9261 fm3]) from List.Perm.refl _))).symm
                    have hP : va_P X.1 vwCl (zb [WMo o ma mi ml, WMp X ma pv, Wa X 2 (ma 9) 5 kz, Wa X 2 (ma 25) 9261 fm3]) H := hP
                    have hD : va_D A (zb [WMo o ma mi ml, WMp X ma pv, Wa X 2 (ma 9) 5 kz, Wa X 2 (ma 25) 9261 fm3]) := hD
                    refine W.eq (g2 := F0 m 46 ls [.int (iI (441 * x + 21 * y + z)), .ref (ma 25)]) rfl ?_
                    refine lv_aload_n hx hb dX12_layTreaty_46 rfl (lv_at hl 0 rfl) ?_
                    refine lv_iload_n hx hb dX12_layTreaty_47 rfl (lv_at hl 1 rfl) ?_
                    refine lv_iload_n hx hb dX12_layTreaty_48 rfl (lv_at hl 2 rfl) ?_
                    refine lv_iload_n hx hb dX12_layTreaty_49 rfl (lv_at hl 3 rfl) ?_
                    refine lv_iload hx hb dX12_layTreaty_50 (lv_at hl 4 rfl) ?_
                    refine lv_iload hx hb dX12_layTreaty_52 (lv_at hl 5 rfl) ?_
                    have hPm := zp_perm hP (zblk (show List.Perm ([WMo o ma mi ml, WMp X ma pv, Wa X 2 (ma 9) 5 kz, Wa X 2 (ma 25) 9261 fm3] : List va_W) ([WMo o ma mi ml, WMp X ma pv, Wa X 2 (ma 9) 5 kz, Wa X 2 (ma 25) 9261 fm3] ++ []) from (zf1 _ 0 _ rfl).trans (((zf1 _ 0 _ rfl).trans (((zf1 _ 0 _ rfl).trans (((zf1 _ 0 _ rfl).trans ((List.Perm.refl _).cons _)).cons _)).cons _)).cons _)))
                    have hDm := zd_perm hD (zblk (show List.Perm ([WMo o ma mi ml, WMp X ma pv, Wa X 2 (ma 9) 5 kz, Wa X 2 (ma 25) 9261 fm3] : List va_W) ([WMo o ma mi ml, WMp X ma pv, Wa X 2 (ma 9) 5 kz, Wa X 2 (ma 25) 9261 fm3] ++ []) from (zf1 _ 0 _ rfl).trans (((zf1 _ 0 _ rfl).trans (((zf1 _ 0 _ rfl).trans (((zf1 _ 0 _ rfl).trans ((List.Perm.refl _).cons _)).cons _)).cons _)).cons _)))
                    refine z_callV (wr := zb []) (As := [.int (iI a), .int (iI b), .int (iI x), .int (iI y), .int (iI z)]) (rest := [.int (iI (441 * x + 21 * y + z)), .ref (ma 25)]) ⟨hx, hb, hml, hown, hts⟩ (c_X12_bestFrom l X o ma mi ml pv kz fm3 a b x y z (by omega) (by exact hpv) (by exact hab) (by exact hka) (by exact hkb) (by omega) (by exact hF3)) (cwV 5 hts gX12_layTreaty_X12_bestFrom rfl rfl rfl (by decide +kernel) ⟨Nat.le_of_ble_eq_true rfl, Nat.le_of_ble_eq_true rfl⟩) rfl rfl hl.1 dX12_layTreaty_54 rfl rfl (Nat.le_of_ble_eq_true rfl) ⟨(Nat.le_of_ble_eq_true rfl), (Nat.le_of_ble_eq_true rfl)⟩ hS hA hK hPm hDm (fun _ H locs _ hP hD hS => ?_)
                    have hP := zp_perm hP ((zblk (show List.Perm ([WMo o ma mi ml, WMp X ma pv, Wa X 2 (ma 9) 5 kz, Wa X 2 (ma 25) 9261 fm3] : List va_W) ([WMo o ma mi ml, WMp X ma pv, Wa X 2 (ma 9) 5 kz, Wa X 2 (ma 25) 9261 fm3] ++ []) from (zf1 _ 0 _ rfl).trans (((zf1 _ 0 _ rfl).trans (((zf1 _ 0 _ rfl).trans (((zf1 _ 0 _ rfl).trans ((List.Perm.refl _).cons _)).cons _)).cons _)).cons _)))).symm
                    have hD := zd_perm hD ((zblk (show List.Perm ([WMo o ma mi ml, WMp X ma pv, Wa X 2 (ma 9) 5 kz, Wa X 2 (ma 25) 9261 fm3] : List va_W) ([WMo o ma mi ml, WMp X ma pv, Wa X 2 (ma 9) 5 kz, Wa X 2 (ma 25) 9261 fm3] ++ []) from (zf1 _ 0 _ rfl).trans (((zf1 _ 0 _ rfl).trans (((zf1 _ 0 _ rfl).trans (((zf1 _ 0 _ rfl).trans ((List.Perm.refl _).cons _)).cons _)).cons _)).cons _)))).symm
                    have hP : va_P X.1 vwCl (zb [WMo o ma mi ml, WMp X ma pv, Wa X 2 (ma 9) 5 kz, Wa X 2 (ma 25) 9261 fm3]) H := hP
                    have hD : va_D A (zb [WMo o ma mi ml, WMp X ma pv, Wa X 2 (ma 9) 5 kz, Wa X 2 (ma 25) 9261 fm3]) := hD
                    refine W.eq (g2 := F0 m 57 ls [.int (iI ((cnS (kdM kz a.toNat) (kdM kz b.toNat) (mi 1) pv fm3 x y z (mi 1).toNat).1)), .int (iI (441 * x + 21 * y + z)), .ref (ma 25)]) rfl ?_
                    refine z_topi (fun z_6 ez_6 => ?_)
                    refine z_iast hx hb hK.1 hP hD hS 8 rfl (by omega) dX12_layTreaty_57 (fun H locs hP hD hS => ?_)
                    have hP : va_P X.1 vwCl (zb [WMo o ma mi ml, WMp X ma pv, Wa X 2 (ma 9) 5 kz, Wa X 2 (ma 25) 9261 (updZ fm3 ((441 * x + 21 * y + z).toNat) z_6)]) H := hP
                    have hD : va_D A (zb [WMo o ma mi ml, WMp X ma pv, Wa X 2 (ma 9) 5 kz, Wa X 2 (ma 25) 9261 (updZ fm3 ((441 * x + 21 * y + z).toNat) z_6)]) := hD
                    refine z_iinc (k := 5) (lv' := [(5, .int (iI (z + (-1)))), (0, .ref o), (1, .int (iI a)), (2, .int (iI b)), (3, .int (iI x)), (4, .int (iI y))]) hx hb dX12_layTreaty_58 hl rfl (by decide) rfl (fun ls hl => ?_)
                    refine lv_goto (tgt := 29) hx hb dX12_layTreaty_61 (by decide) ?_
                    exact ih29  (z + (-1)) (updZ fm3 ((441 * x + 21 * y + z).toNat) z_6) (by omega) (by refine Fm_up hF3 ?_; rw [ez_6]; exact cnS_in hn hpv (by omega) (by omega) (by omega) hL3) (by exact Ly_st hn hpv (by omega) (by omega) (by omega) hL3 ez_6) (by omega) _ _ _ hP hD hS (lv_sub hl [1, 2, 3, 4, 5, 0] rfl)
              exact L29 (21 + 1) ((thZ (mi 1) pv 2 : Nat) : Int) fm2 (by omega) (by exact hF2) (by exact hL2) (by omega) _ _ _ hP hD hS (lv_sub hl [1, 2, 3, 4, 5, 0] rfl)
        exact L17 (21 + 1) ((thZ (mi 1) pv 1 : Nat) : Int) fm1 (by omega) (by exact hF1) (by exact hL1) (by omega) _ _ _ hP hD hS (lv_sub hl [1, 2, 3, 4, 0] rfl)
  exact L6 (21 + 1) ((thZ (mi 1) pv 0 : Nat) : Int) fm (by omega) (by exact hfm) (by exact Ly_0 _ _ _ _ _) (by omega) _ _ _ hP hD hS (lv_sub hl [1, 2, 3, 0] rfl)
set_option maxHeartbeats 1000000 in
set_option maxRecDepth 100000 in
theorem c_X12_treatyNow (l : Launch) (X : zX) (o : Nat) (ma : Nat → Nat) (mi : Nat → Int) (ml : Nat → Int) (pv : Nat → Nat → Int) (kz : Nat → Int) (fm : Nat → Int) (a : Int) (b : Int) (y : Int) (hn : 0 ≤ mi 1 ∧ mi 1 ≤ 3) (hpv : PanS pv) (hab : (0 ≤ a ∧ a < 5) ∧ (0 ≤ b ∧ b < 5)) (hka : 0 ≤ kz a.toNat ∧ kz a.toNat ≤ 4) (hkb : 0 ≤ kz b.toNat ∧ kz b.toNat ≤ 4) (hfm : FmB fm) (hy1 : 0 ≤ y ∧ y ≤ 1) : zM (S := (Nat → Int)) l X yX12_treatyNow wsX12_treatyNow { frames := 4, cells := 0, slots := 0, locals := 107 } [.ref o, .int (iI a), .int (iI b), .int (iI y)] (zb [WMo o ma mi ml, WMp X ma pv, Wa X 2 (ma 9) 5 kz, Wa X 2 (ma 25) 9261 fm]) (fun u => (some (.int (iI (if y = 0 then 1000 + (trV (mi 1) pv (kdM kz a.toNat) (kdM kz b.toNat)).1 else (trV (mi 1) pv (kdM kz a.toNat) (kdM kz b.toNat)).2))))) (fun u => zb [WMo o ma mi ml, WMp X ma pv, Wa X 2 (ma 9) 5 kz, Wa X 2 (ma 25) 9261 u]) (fun u => FmB u) := by
  refine z_enter (cc := cX12_treatyNow) (maxL := 6) (ret := (some .int)) (by decide) rfl (Nat.le_of_ble_eq_true rfl) ?_
  intro p e s m below meth c A ls Q hQ hE hl hP hD
  obtain ⟨hx, hb, hr, hml, hown, hts, hlocks, hnm, hA, hK⟩ := hE
  have hown : s.vm.findClass RX12 = some m.cls := hown
  have hS : va_S A s.heap s.heap [] := va_S.rf
  have hl : lv_has ls 6 [(0, .ref o), (1, .int (iI a)), (2, .int (iI b)), (3, .int (iI y))] := hl
  have inX12 : ∀ w ∈ u_ws RX12 TX12 38, w ∈ wsX12_treatyNow := by decide +kernel
  refine lv_aload_n hx hb dX12_treatyNow_0 rfl (lv_at hl 0 rfl) ?_
  refine lv_iload_n hx hb dX12_treatyNow_1 rfl (lv_at hl 1 rfl) ?_
  refine lv_iload_n hx hb dX12_treatyNow_2 rfl (lv_at hl 2 rfl) ?_
  have hPm := zp_perm hP (zblk (show List.Perm ([WMo o ma mi ml, WMp X ma pv, Wa X 2 (ma 9) 5 kz, Wa X 2 (ma 25) 9261 fm] : List va_W) ([WMo o ma mi ml, WMp X ma pv, Wa X 2 (ma 9) 5 kz, Wa X 2 (ma 25) 9261 fm] ++ []) from (zf1 _ 0 _ rfl).trans (((zf1 _ 0 _ rfl).trans (((zf1 _ 0 _ rfl).trans (((zf1 _ 0 _ rfl).trans ((List.Perm.refl _).cons _)).cons _)).cons _)).cons _)))
  have hDm := zd_perm hD (zblk (show List.Perm ([WMo o ma mi ml, WMp X ma pv, Wa X 2 (ma 9) 5 kz, Wa X 2 (ma 25) 9261 fm] : List va_W) ([WMo o ma mi ml, WMp X ma pv, Wa X 2 (ma 9) 5 kz, Wa X 2 (ma 25) 9261 fm] ++ []) from (zf1 _ 0 _ rfl).trans (((zf1 _ 0 _ rfl).trans (((zf1 _ 0 _ rfl).trans (((zf1 _ 0 _ rfl).trans ((List.Perm.refl _).cons _)).cons _)).cons _)).cons _)))
  refine z_callV (wr := zb []) (As := [.int (iI a), .int (iI b)]) (rest := []) ⟨hx, hb, hml, hown, hts⟩ (c_X12_layTreaty l X o ma mi ml pv kz fm a b (by omega) (by exact hpv) (by exact hab) (by exact hka) (by exact hkb) (by first | exact hfm | exact hF1)) (cwV 2 hts gX12_treatyNow_X12_layTreaty rfl rfl rfl (by decide +kernel) ⟨Nat.le_of_ble_eq_true rfl, Nat.le_of_ble_eq_true rfl⟩) rfl rfl hl.1 dX12_treatyNow_3 rfl rfl (Nat.le_of_ble_eq_true rfl) ⟨(Nat.le_of_ble_eq_true rfl), (Nat.le_of_ble_eq_true rfl)⟩ hS hA hK hPm hDm (fun u H locs hpost hP hD hS => ?_)
  obtain ⟨fm9_1, rfl⟩ : ∃ z, z = u := ⟨_, rfl⟩
  have hpost : FmB fm9_1 ∧ LyP (kdM kz a.toNat) (kdM kz b.toNat) (mi 1) pv fm9_1 (-1) ((thZ (mi 1) pv 1 : Nat) : Int) ((thZ (mi 1) pv 2 : Nat) : Int) := hpost
  have hP := zp_perm hP ((zblk (show List.Perm ([WMo o ma mi ml, WMp X ma pv, Wa X 2 (ma 9) 5 kz, Wa X 2 (ma 25) 9261 fm9_1] : List va_W) ([WMo o ma mi ml, WMp X ma pv, Wa X 2 (ma 9) 5 kz, Wa X 2 (ma 25) 9261 fm9_1] ++ []) from (zf1 _ 0 _ rfl).trans (((zf1 _ 0 _ rfl).trans (((zf1 _ 0 _ rfl).trans (((zf1 _ 0 _ rfl).trans ((List.Perm.refl _).cons _)).cons _)).cons _)).cons _)))).symm
  have hD := zd_perm hD ((zblk (show List.Perm ([WMo o ma mi ml, WMp X ma pv, Wa X 2 (ma 9) 5 kz, Wa X 2 (ma 25) 9261 fm9_1] : List va_W) ([WMo o ma mi ml, WMp X ma pv, Wa X 2 (ma 9) 5 kz, Wa X 2 (ma 25) 9261 fm9_1] ++ []) from (zf1 _ 0 _ rfl).trans (((zf1 _ 0 _ rfl).trans (((zf1 _ 0 _ rfl).trans (((zf1 _ 0 _ rfl).trans ((List.Perm.refl _).cons _)).cons _)).cons _)).cons _)))).symm
  have hP : va_P X.1 vwCl (zb [WMo o ma mi ml, WMp X ma pv, Wa X 2 (ma 9) 5 kz, Wa X 2 (ma 25) 9261 fm9_1]) H := hP
  have hD : va_D A (zb [WMo o ma mi ml, WMp X ma pv, Wa X 2 (ma 9) 5 kz, Wa X 2 (ma 25) 9261 fm9_1]) := hD
  refine W.eq (g2 := F0 m 6 ls []) rfl ?_
  obtain ⟨fm1, hfm1⟩ : ∃ q : Nat → Int, q = fm9_1 := ⟨_, rfl⟩
  rw [← hfm1] at hP hD hpost
  have hP : va_P X.1 vwCl (zb [WMo o ma mi ml, WMp X ma pv, Wa X 2 (ma 9) 5 kz, Wa X 2 (ma 25) 9261 fm1]) H := hP
  have hD : va_D A (zb [WMo o ma mi ml, WMp X ma pv, Wa X 2 (ma 9) 5 kz, Wa X 2 (ma 25) 9261 fm1]) := hD
  obtain ⟨hF1, hL1⟩ := hpost
  obtain ⟨hT1, hT2⟩ := tr_end hn hpv hL1
  have hb0 := hF1 0
  refine lv_iload_n hx hb dX12_treatyNow_6 rfl (lv_at hl 3 rfl) ?_
  refine z_if_ne (tgt := 21) hx hb (by omega) dX12_treatyNow_7 (by decide) (fun c_2 => ?_) (fun c_2 => ?_)
  · skip
    refine lv_iconst (v := iI (-1)) hx hb dX12_treatyNow_21 (by decide) ?_
    refine lv_istore (lv' := [(4, .int (iI (-1))), (0, .ref o), (1, .int (iI a)), (2, .int (iI b)), (3, .int (iI y))]) hx hb dX12_treatyNow_22 hl (by decide) rfl (fun ls hl => ?_)
    refine lv_aload_n hx hb dX12_treatyNow_24 rfl (lv_at hl 1 rfl) ?_
    refine va_get (ci := 12) (v := .int (iI (mi 1))) (C := RX12) (T := TX12) (N := 38) hx hb hts inX12 hown hK.1 hP 0 rfl rfl 1 (by decide) (hts (.fieldLink RX12 119 "SkimmedSonsModel" "pans" "I") (by decide +kernel)) (fun _ h9 => h9) rfl dX12_treatyNow_25 ?_
    refine lv_iconst (v := iI 1) hx hb dX12_treatyNow_28 (by decide) ?_
    refine z_isub hx hb dX12_treatyNow_29 ?_
    refine z_topi (fun z_3 ez_3 => ?_)
    refine lv_istore (lv' := [(5, .int (iI z_3)), (4, .int (iI (-1))), (0, .ref o), (1, .int (iI a)), (2, .int (iI b)), (3, .int (iI y))]) hx hb dX12_treatyNow_30 hl (by decide) rfl (fun ls hl => ?_)
    have L32 : ∀ (fu : Nat) (w : Int) (y5 : Int), (-1 ≤ y5 ∧ y5 < mi 1) → (FdP (fun q => 0 < thZ (mi 1) pv q ∧ mfZ (kdM kz a.toNat) (kdM kz b.toNat) pv fm1 q 0 0 0 = fm1 0) (mi 1) y5 w) → (y5 + 1).toNat < fu → ∀ (H : Heap) (locs : List Loc) (ls : Array Slot), va_P X.1 vwCl (zb [WMo o ma mi ml, WMp X ma pv, Wa X 2 (ma 9) 5 kz, Wa X 2 (ma 25) 9261 fm1]) H → va_D A (zb [WMo o ma mi ml, WMp X ma pv, Wa X 2 (ma 9) 5 kz, Wa X 2 (ma 25) 9261 fm1]) → va_S A s.heap H locs → lv_has ls 6 [(0, .ref o), (1, .int (iI a)), (2, .int (iI b)), (3, .int (iI y)), (4, .int (iI w)), (5, .int (iI y5))] → W p l e { frames := 4, cells := 0, slots := 0, locals := 107 } s m ([.ref o, .int (iI a), .int (iI b), .int (iI y)] : List Value).toArray below meth c H locs 0 0 Q (F0 m 32 ls []) := by
      intro fu
      induction fu with
      | zero => intro w y5 hy5 hF hm; exact absurd hm (Nat.not_lt_zero _)
      | succ fu ih32 =>
        intro w y5 hy5 hF hm H locs ls hP hD hS hl
        refine lv_iload hx hb dX12_treatyNow_32 (lv_at hl 5 rfl) ?_
        refine z_if_lt (tgt := 84) hx hb (by omega) dX12_treatyNow_34 (by decide) (fun c_4 => ?_) (fun c_4 => ?_)
        · skip
          refine lv_iload hx hb dX12_treatyNow_84 (lv_at hl 4 rfl) ?_
          exact z_iret hQ hx hb hr hlocks hS ⟨(Nat.le_of_ble_eq_true rfl), (Nat.le_of_ble_eq_true rfl)⟩ dX12_treatyNow_86 fm1 (congrArg (fun z => some (Value.int (iI z))) (show (if y = 0 then 1000 + (trV (mi 1) pv (kdM kz a.toNat) (kdM kz b.toNat)).1 else (trV (mi 1) pv (kdM kz a.toNat) (kdM kz b.toNat)).2 : Int) = w by rw [if_neg (by omega), ← hT2]; rw [show y5 = -1 by omega] at hF; exact (Fd_e (by rw [hT2]; exact hT1) hF).symm)) (by (try dsimp only); exact hF1) hP hD
        · skip
          obtain ⟨q, rfl⟩ := Int.eq_ofNat_of_zero_le (show 0 ≤ y5 by omega)
          have htq := th_20 hn hpv q
          have hmq := mfZ_in (ka := (kdM kz a.toNat)) (kb := (kdM kz b.toNat)) (pv := pv) hF1 q 0 0 0
          have hsq : selZ q 0 0 0 = 0 := by unfold selZ; split; rfl; split <;> rfl
          refine lv_aload_n hx hb dX12_treatyNow_37 rfl (lv_at hl 0 rfl) ?_
          refine lv_iload hx hb dX12_treatyNow_38 (lv_at hl 5 rfl) ?_
          refine lv_iconst (v := iI 0) hx hb dX12_treatyNow_40 (by decide) ?_
          refine lv_iconst (v := iI 0) hx hb dX12_treatyNow_41 (by decide) ?_
          refine lv_iconst (v := iI 0) hx hb dX12_treatyNow_42 (by decide) ?_
          have hPm := zp_perm hP (zblk (show List.Perm ([WMo o ma mi ml, WMp X ma pv, Wa X 2 (ma 9) 5 kz, Wa X 2 (ma 25) 9261 fm1] : List va_W) ([WMo o ma mi ml, WMp X ma pv] ++ [Wa X 2 (ma 9) 5 kz, Wa X 2 (ma 25) 9261 fm1]) from (zf1 _ 0 _ rfl).trans (((zf1 _ 0 _ rfl).trans ((List.Perm.refl _).cons _)).cons _)))
          have hDm := zd_perm hD (zblk (show List.Perm ([WMo o ma mi ml, WMp X ma pv, Wa X 2 (ma 9) 5 kz, Wa X 2 (ma 25) 9261 fm1] : List va_W) ([WMo o ma mi ml, WMp X ma pv] ++ [Wa X 2 (ma 9) 5 kz, Wa X 2 (ma 25) 9261 fm1]) from (zf1 _ 0 _ rfl).trans (((zf1 _ 0 _ rfl).trans ((List.Perm.refl _).cons _)).cons _)))
          refine z_callV (wr := zb [Wa X 2 (ma 9) 5 kz, Wa X 2 (ma 25) 9261 fm1]) (As := [.int (iI (↑q)), .int (iI 0), .int (iI 0), .int (iI 0)]) (rest := []) ⟨hx, hb, hml, hown, hts⟩ (c_X12_isLeft l X o ma mi ml pv q 0 0 0 (by omega) (by exact hpv) (by omega) (by omega)) (cwV 4 hts gX12_treatyNow_X12_isLeft rfl rfl rfl (by decide +kernel) ⟨Nat.le_of_ble_eq_true rfl, Nat.le_of_ble_eq_true rfl⟩) rfl rfl hl.1 dX12_treatyNow_43 rfl rfl (Nat.le_of_ble_eq_true rfl) ⟨(Nat.le_of_ble_eq_true rfl), (Nat.le_of_ble_eq_true rfl)⟩ hS hA hK hPm hDm (fun _ H locs _ hP hD hS => ?_)
          have hP := zp_perm hP ((zblk (show List.Perm ([WMo o ma mi ml, WMp X ma pv, Wa X 2 (ma 9) 5 kz, Wa X 2 (ma 25) 9261 fm1] : List va_W) ([WMo o ma mi ml, WMp X ma pv] ++ [Wa X 2 (ma 9) 5 kz, Wa X 2 (ma 25) 9261 fm1]) from (zf1 _ 0 _ rfl).trans (((zf1 _ 0 _ rfl).trans ((List.Perm.refl _).cons _)).cons _)))).symm
          have hD := zd_perm hD ((zblk (show List.Perm ([WMo o ma mi ml, WMp X ma pv, Wa X 2 (ma 9) 5 kz, Wa X 2 (ma 25) 9261 fm1] : List va_W) ([WMo o ma mi ml, WMp X ma pv] ++ [Wa X 2 (ma 9) 5 kz, Wa X 2 (ma 25) 9261 fm1]) from (zf1 _ 0 _ rfl).trans (((zf1 _ 0 _ rfl).trans ((List.Perm.refl _).cons _)).cons _)))).symm
          have hP : va_P X.1 vwCl (zb [WMo o ma mi ml, WMp X ma pv, Wa X 2 (ma 9) 5 kz, Wa X 2 (ma 25) 9261 fm1]) H := hP
          have hD : va_D A (zb [WMo o ma mi ml, WMp X ma pv, Wa X 2 (ma 9) 5 kz, Wa X 2 (ma 25) 9261 fm1]) := hD
          refine W.eq (g2 := F0 m 46 ls [.int (iI (if selZ q 0 0 0 < ((thZ (mi 1) pv q : Nat) : Int) then 1 else 0))]) rfl ?_
          refine z_if_eq (tgt := 74) hx hb (by omega) dX12_treatyNow_46 (by decide) (fun c_5 => ?_) (fun c_5 => ?_)
          · skip
            refine lv_iload hx hb dX12_treatyNow_74 (lv_at hl 4 rfl) ?_
            refine lv_istore (lv' := [(4, .int (iI w)), (0, .ref o), (1, .int (iI a)), (2, .int (iI b)), (3, .int (iI y)), (5, .int (iI (↑q)))]) hx hb dX12_treatyNow_76 hl (by decide) rfl (fun ls hl => ?_)
            refine z_iinc (k := 5) (lv' := [(5, .int (iI ((↑q) + (-1)))), (4, .int (iI w)), (0, .ref o), (1, .int (iI a)), (2, .int (iI b)), (3, .int (iI y))]) hx hb dX12_treatyNow_78 hl rfl (by decide) rfl (fun ls hl => ?_)
            refine lv_goto (tgt := 32) hx hb dX12_treatyNow_81 (by decide) ?_
            exact ih32  w ((↑q) + (-1)) (by omega) (by first | exact Fd_y (by omega) (show 0 < thZ (mi 1) pv q ∧ mfZ (kdM kz a.toNat) (kdM kz b.toNat) pv fm1 q 0 0 0 = fm1 0 from ⟨by omega, by omega⟩) hF | exact Fd_n (by omega) (show ¬ (0 < thZ (mi 1) pv q ∧ mfZ (kdM kz a.toNat) (kdM kz b.toNat) pv fm1 q 0 0 0 = fm1 0) from fun z9 => by have := z9.1; have := z9.2; omega) hF) (by omega) _ _ _ hP hD hS (lv_sub hl [2, 3, 4, 5, 1, 0] rfl)
          · skip
            refine lv_aload_n hx hb dX12_treatyNow_49 rfl (lv_at hl 0 rfl) ?_
            refine lv_iload_n hx hb dX12_treatyNow_50 rfl (lv_at hl 1 rfl) ?_
            refine lv_iload_n hx hb dX12_treatyNow_51 rfl (lv_at hl 2 rfl) ?_
            refine lv_iload hx hb dX12_treatyNow_52 (lv_at hl 5 rfl) ?_
            refine lv_iconst (v := iI 0) hx hb dX12_treatyNow_54 (by decide) ?_
            refine lv_iconst (v := iI 0) hx hb dX12_treatyNow_55 (by decide) ?_
            refine lv_iconst (v := iI 0) hx hb dX12_treatyNow_56 (by decide) ?_
            have hPm := zp_perm hP (zblk (show List.Perm ([WMo o ma mi ml, WMp X ma pv, Wa X 2 (ma 9) 5 kz, Wa X 2 (ma 25) 9261 fm1] : List va_W) ([WMo o ma mi ml, WMp X ma pv, Wa X 2 (ma 9) 5 kz, Wa X 2 (ma 25) 9261 fm1] ++ []) from (zf1 _ 0 _ rfl).trans (((zf1 _ 0 _ rfl).trans (((zf1 _ 0 _ rfl).trans (((zf1 _ 0 _ rfl).trans ((List.Perm.refl _).cons _)).cons _)).cons _)).cons _)))
            have hDm := zd_perm hD (zblk (show List.Perm ([WMo o ma mi ml, WMp X ma pv, Wa X 2 (ma 9) 5 kz, Wa X 2 (ma 25) 9261 fm1] : List va_W) ([WMo o ma mi ml, WMp X ma pv, Wa X 2 (ma 9) 5 kz, Wa X 2 (ma 25) 9261 fm1] ++ []) from (zf1 _ 0 _ rfl).trans (((zf1 _ 0 _ rfl).trans (((zf1 _ 0 _ rfl).trans (((zf1 _ 0 _ rfl).trans ((List.Perm.refl _).cons _)).cons _)).cons _)).cons _)))
            refine z_callV (wr := zb []) (As := [.int (iI a), .int (iI b), .int (iI (↑q)), .int (iI 0), .int (iI 0), .int (iI 0)]) (rest := []) ⟨hx, hb, hml, hown, hts⟩ (c_X12_moreFrom l X o ma mi ml pv kz fm1 a b q 0 0 0 (by exact hab) (by exact hka) (by exact hkb) (by omega) (by exact hpv _ (by omega)) (by omega) (by omega) (by first | exact hfm | exact hF1)) (cwV 6 hts gX12_treatyNow_X12_moreFrom rfl rfl rfl (by decide +kernel) ⟨Nat.le_of_ble_eq_true rfl, Nat.le_of_ble_eq_true rfl⟩) rfl rfl hl.1 dX12_treatyNow_57 rfl rfl (Nat.le_of_ble_eq_true rfl) ⟨(Nat.le_of_ble_eq_true rfl), (Nat.le_of_ble_eq_true rfl)⟩ hS hA hK hPm hDm (fun _ H locs _ hP hD hS => ?_)
            have hP := zp_perm hP ((zblk (show List.Perm ([WMo o ma mi ml, WMp X ma pv, Wa X 2 (ma 9) 5 kz, Wa X 2 (ma 25) 9261 fm1] : List va_W) ([WMo o ma mi ml, WMp X ma pv, Wa X 2 (ma 9) 5 kz, Wa X 2 (ma 25) 9261 fm1] ++ []) from (zf1 _ 0 _ rfl).trans (((zf1 _ 0 _ rfl).trans (((zf1 _ 0 _ rfl).trans (((zf1 _ 0 _ rfl).trans ((List.Perm.refl _).cons _)).cons _)).cons _)).cons _)))).symm
            have hD := zd_perm hD ((zblk (show List.Perm ([WMo o ma mi ml, WMp X ma pv, Wa X 2 (ma 9) 5 kz, Wa X 2 (ma 25) 9261 fm1] : List va_W) ([WMo o ma mi ml, WMp X ma pv, Wa X 2 (ma 9) 5 kz, Wa X 2 (ma 25) 9261 fm1] ++ []) from (zf1 _ 0 _ rfl).trans (((zf1 _ 0 _ rfl).trans (((zf1 _ 0 _ rfl).trans (((zf1 _ 0 _ rfl).trans ((List.Perm.refl _).cons _)).cons _)).cons _)).cons _)))).symm
            have hP : va_P X.1 vwCl (zb [WMo o ma mi ml, WMp X ma pv, Wa X 2 (ma 9) 5 kz, Wa X 2 (ma 25) 9261 fm1]) H := hP
            have hD : va_D A (zb [WMo o ma mi ml, WMp X ma pv, Wa X 2 (ma 9) 5 kz, Wa X 2 (ma 25) 9261 fm1]) := hD
            refine W.eq (g2 := F0 m 60 ls [.int (iI (mfZ (kdM kz a.toNat) (kdM kz b.toNat) pv fm1 q 0 0 0))]) rfl ?_
            refine lv_aload_n hx hb dX12_treatyNow_60 rfl (lv_at hl 0 rfl) ?_
            refine va_get (ci := 12) (v := .ref (ma 25)) (C := RX12) (T := TX12) (N := 38) hx hb hts inX12 hown hK.1 hP 0 rfl rfl 25 (by decide) (hts (.fieldLink RX12 56 "SkimmedSonsModel" "moreBy" "[I") (by decide +kernel)) (fun _ h9 => h9) rfl dX12_treatyNow_61 ?_
            refine lv_iconst (v := iI 0) hx hb dX12_treatyNow_64 (by decide) ?_
            refine z_iald hx hb hK.1 hP 8 rfl (by omega) dX12_treatyNow_65 ?_
            refine W.eq (g2 := F0 m 66 ls [.int (iI (fm1 0)), .int (iI (mfZ (kdM kz a.toNat) (kdM kz b.toNat) pv fm1 q 0 0 0))]) rfl ?_
            refine z_icmp_ne (tgt := 74) hx hb (by omega) dX12_treatyNow_66 (by decide) (fun c_7 => ?_) (fun c_7 => ?_)
            · skip
              refine lv_iload hx hb dX12_treatyNow_74 (lv_at hl 4 rfl) ?_
              refine lv_istore (lv' := [(4, .int (iI w)), (0, .ref o), (1, .int (iI a)), (2, .int (iI b)), (3, .int (iI y)), (5, .int (iI (↑q)))]) hx hb dX12_treatyNow_76 hl (by decide) rfl (fun ls hl => ?_)
              refine z_iinc (k := 5) (lv' := [(5, .int (iI ((↑q) + (-1)))), (4, .int (iI w)), (0, .ref o), (1, .int (iI a)), (2, .int (iI b)), (3, .int (iI y))]) hx hb dX12_treatyNow_78 hl rfl (by decide) rfl (fun ls hl => ?_)
              refine lv_goto (tgt := 32) hx hb dX12_treatyNow_81 (by decide) ?_
              exact ih32  w ((↑q) + (-1)) (by omega) (by first | exact Fd_y (by omega) (show 0 < thZ (mi 1) pv q ∧ mfZ (kdM kz a.toNat) (kdM kz b.toNat) pv fm1 q 0 0 0 = fm1 0 from ⟨by omega, by omega⟩) hF | exact Fd_n (by omega) (show ¬ (0 < thZ (mi 1) pv q ∧ mfZ (kdM kz a.toNat) (kdM kz b.toNat) pv fm1 q 0 0 0 = fm1 0) from fun z9 => by have := z9.1; have := z9.2; omega) hF) (by omega) _ _ _ hP hD hS (lv_sub hl [2, 3, 4, 5, 1, 0] rfl)
            · skip
              refine lv_iload hx hb dX12_treatyNow_69 (lv_at hl 5 rfl) ?_
              refine lv_goto (tgt := 76) hx hb dX12_treatyNow_71 (by decide) ?_
              refine lv_istore (lv' := [(4, .int (iI (↑q))), (0, .ref o), (1, .int (iI a)), (2, .int (iI b)), (3, .int (iI y)), (5, .int (iI (↑q)))]) hx hb dX12_treatyNow_76 hl (by decide) rfl (fun ls hl => ?_)
              refine z_iinc (k := 5) (lv' := [(5, .int (iI ((↑q) + (-1)))), (4, .int (iI (↑q))), (0, .ref o), (1, .int (iI a)), (2, .int (iI b)), (3, .int (iI y))]) hx hb dX12_treatyNow_78 hl rfl (by decide) rfl (fun ls hl => ?_)
              refine lv_goto (tgt := 32) hx hb dX12_treatyNow_81 (by decide) ?_
              exact ih32  (↑q) ((↑q) + (-1)) (by omega) (by first | exact Fd_y (by omega) (show 0 < thZ (mi 1) pv q ∧ mfZ (kdM kz a.toNat) (kdM kz b.toNat) pv fm1 q 0 0 0 = fm1 0 from ⟨by omega, by omega⟩) hF | exact Fd_n (by omega) (show ¬ (0 < thZ (mi 1) pv q ∧ mfZ (kdM kz a.toNat) (kdM kz b.toNat) pv fm1 q 0 0 0 = fm1 0) from fun z9 => by have := z9.1; have := z9.2; omega) hF) (by omega) _ _ _ hP hD hS (lv_sub hl [2, 3, 4, 5, 1, 0] rfl)
    exact L32 (3 + 1) (-1) z_3 (by omega) (by exact Or.inl ⟨rfl, fun q h1 h2 => by omega⟩) (by omega) _ _ _ hP hD hS (lv_sub hl [2, 3, 4, 5, 1, 0] rfl)
  · skip
    refine lv_aload_n hx hb dX12_treatyNow_10 rfl (lv_at hl 0 rfl) ?_
    refine va_get (ci := 12) (v := .ref (ma 25)) (C := RX12) (T := TX12) (N := 38) hx hb hts inX12 hown hK.1 hP 0 rfl rfl 25 (by decide) (hts (.fieldLink RX12 56 "SkimmedSonsModel" "moreBy" "[I") (by decide +kernel)) (fun _ h9 => h9) rfl dX12_treatyNow_11 ?_
    refine lv_iconst (v := iI 0) hx hb dX12_treatyNow_14 (by decide) ?_
    refine z_iald hx hb hK.1 hP 8 rfl (by omega) dX12_treatyNow_15 ?_
    refine W.eq (g2 := F0 m 16 ls [.int (iI (fm1 0))]) rfl ?_
    refine lv_sipush (v := iI 1000) hx hb dX12_treatyNow_16 (by decide) ?_
    refine z_iadd hx hb dX12_treatyNow_19 ?_
    exact z_iret hQ hx hb hr hlocks hS ⟨(Nat.le_of_ble_eq_true rfl), (Nat.le_of_ble_eq_true rfl)⟩ dX12_treatyNow_20 fm1 (congrArg (fun z => some (Value.int (iI z))) (show (if y = 0 then 1000 + (trV (mi 1) pv (kdM kz a.toNat) (kdM kz b.toNat)).1 else (trV (mi 1) pv (kdM kz a.toNat) (kdM kz b.toNat)).2 : Int) = (fm1 0) + 1000 by rw [if_pos (by omega), ← hT1]; omega)) (by (try dsimp only); exact hF1) hP hD
set_option maxHeartbeats 1000000 in
set_option maxRecDepth 100000 in
theorem c_X12_treaty (l : Launch) (X : zX) (o : Nat) (ma : Nat → Nat) (mi : Nat → Int) (ml : Nat → Int) (pv : Nat → Nat → Int) (kz : Nat → Int) (fm : Nat → Int) (z : Int) (x : Int) (y : Int) (hn : 0 ≤ mi 1 ∧ mi 1 ≤ 3) (ht : 0 ≤ mi 2 ∧ mi 2 ≤ 5) (hpv : PanS pv) (hkm : KidM (mi 2) kz) (hfm : FmB fm) (hak : 0 ≤ mi 12 ∧ mi 12 ≤ 40) (hrz : -2147483648 ≤ z ∧ z < 2147483648) (hrx : -2147483648 ≤ x ∧ x < 2147483648) (hry : -2147483648 ≤ y ∧ y < 2147483648) : zM (S := (Nat → Int)) l X yX12_treaty wsX12_treaty { frames := 5, cells := 0, slots := 0, locals := 132 } [.ref o, .int (iI z), .int (iI x), .int (iI y)] (zb [WMo o ma mi ml, WMp X ma pv, Wa X 2 (ma 9) 5 kz, Wa X 2 (ma 25) 9261 fm]) (fun u => (some (.int (iI (treatyR (mi 2) z x y (mi 1) (mi 12) (kdM kz) pv))))) (fun u => zb [WMo o ma (updZ mi 12 (treatyN (mi 2) z x y (mi 12))) ml, WMp X ma pv, Wa X 2 (ma 9) 5 kz, Wa X 2 (ma 25) 9261 u]) (fun u => FmB u) := by
  refine z_enter (cc := cX12_treaty) (maxL := 4) (ret := (some .int)) (by decide) rfl (Nat.le_of_ble_eq_true rfl) ?_
  intro p e s m below meth c A ls Q hQ hE hl hP hD
  obtain ⟨hx, hb, hr, hml, hown, hts, hlocks, hnm, hA, hK⟩ := hE
  have hown : s.vm.findClass RX12 = some m.cls := hown
  have hS : va_S A s.heap s.heap [] := va_S.rf
  have hl : lv_has ls 4 [(0, .ref o), (1, .int (iI z)), (2, .int (iI x)), (3, .int (iI y))] := hl
  have inX12 : ∀ w ∈ u_ws RX12 TX12 38, w ∈ wsX12_treaty := by decide +kernel
  refine lv_aload_n hx hb dX12_treaty_0 rfl (lv_at hl 0 rfl) ?_
  refine lv_iload_n hx hb dX12_treaty_1 rfl (lv_at hl 1 rfl) ?_
  have hPm := zp_perm hP (zblk (show List.Perm ([WMo o ma mi ml, WMp X ma pv, Wa X 2 (ma 9) 5 kz, Wa X 2 (ma 25) 9261 fm] : List va_W) ([WMo o ma mi ml] ++ [WMp X ma pv, Wa X 2 (ma 9) 5 kz, Wa X 2 (ma 25) 9261 fm]) from (zf1 _ 0 _ rfl).trans ((List.Perm.refl _).cons _)))
  have hDm := zd_perm hD (zblk (show List.Perm ([WMo o ma mi ml, WMp X ma pv, Wa X 2 (ma 9) 5 kz, Wa X 2 (ma 25) 9261 fm] : List va_W) ([WMo o ma mi ml] ++ [WMp X ma pv, Wa X 2 (ma 9) 5 kz, Wa X 2 (ma 25) 9261 fm]) from (zf1 _ 0 _ rfl).trans ((List.Perm.refl _).cons _)))
  refine z_callV (wr := zb [WMp X ma pv, Wa X 2 (ma 9) 5 kz, Wa X 2 (ma 25) 9261 fm]) (As := [.int (iI z)]) (rest := []) ⟨hx, hb, hml, hown, hts⟩ (c_X12_isChild l X o ma mi ml z (by omega) (by omega)) (cwV 1 hts gX12_treaty_X12_isChild rfl rfl rfl (by decide +kernel) ⟨Nat.le_of_ble_eq_true rfl, Nat.le_of_ble_eq_true rfl⟩) rfl rfl hl.1 dX12_treaty_2 rfl rfl (Nat.le_of_ble_eq_true rfl) ⟨(Nat.le_of_ble_eq_true rfl), (Nat.le_of_ble_eq_true rfl)⟩ hS hA hK hPm hDm (fun _ H locs _ hP hD hS => ?_)
  have hP := zp_perm hP ((zblk (show List.Perm ([WMo o ma mi ml, WMp X ma pv, Wa X 2 (ma 9) 5 kz, Wa X 2 (ma 25) 9261 fm] : List va_W) ([WMo o ma mi ml] ++ [WMp X ma pv, Wa X 2 (ma 9) 5 kz, Wa X 2 (ma 25) 9261 fm]) from (zf1 _ 0 _ rfl).trans ((List.Perm.refl _).cons _)))).symm
  have hD := zd_perm hD ((zblk (show List.Perm ([WMo o ma mi ml, WMp X ma pv, Wa X 2 (ma 9) 5 kz, Wa X 2 (ma 25) 9261 fm] : List va_W) ([WMo o ma mi ml] ++ [WMp X ma pv, Wa X 2 (ma 9) 5 kz, Wa X 2 (ma 25) 9261 fm]) from (zf1 _ 0 _ rfl).trans ((List.Perm.refl _).cons _)))).symm
  have hP : va_P X.1 vwCl (zb [WMo o ma mi ml, WMp X ma pv, Wa X 2 (ma 9) 5 kz, Wa X 2 (ma 25) 9261 fm]) H := hP
  have hD : va_D A (zb [WMo o ma mi ml, WMp X ma pv, Wa X 2 (ma 9) 5 kz, Wa X 2 (ma 25) 9261 fm]) := hD
  refine W.eq (g2 := F0 m 5 ls [.int (iI (if 0 ≤ z ∧ z < mi 2 then 1 else 0))]) rfl ?_
  refine z_if_eq (tgt := 21) hx hb (by omega) dX12_treaty_5 (by decide) (fun c_1 => ?_) (fun c_1 => ?_)
  · skip
    refine lv_bipush (v := iI (-101)) hx hb dX12_treaty_21 (by decide) ?_
    have hw : zb [WMo o ma mi ml, WMp X ma pv, Wa X 2 (ma 9) 5 kz, Wa X 2 (ma 25) 9261 fm] = zb [WMo o ma (updZ mi 12 (treatyN (mi 2) z x y (mi 12))) ml, WMp X ma pv, Wa X 2 (ma 9) 5 kz, Wa X 2 (ma 25) 9261 fm] := by unfold treatyN; (repeat (first | rw [if_pos (by omega)] | rw [if_neg (by omega)])); first | done | (rw [updZ_id]; done) | (subst_vars; rfl)
    rw [hw] at hP hD
    exact z_iret hQ hx hb hr hlocks hS ⟨(Nat.le_of_ble_eq_true rfl), (Nat.le_of_ble_eq_true rfl)⟩ dX12_treaty_23 fm (congrArg (fun z => some (Value.int (iI z))) (show (treatyR (mi 2) z x y (mi 1) (mi 12) (kdM kz) pv : Int) = (-101) by unfold treatyR; (repeat (first | rw [if_pos (by omega)] | rw [if_neg (by omega)])); first | done | rfl)) (by (try dsimp only); first | exact hfm | exact hpost) hP hD
  · skip
    refine lv_aload_n hx hb dX12_treaty_8 rfl (lv_at hl 0 rfl) ?_
    refine lv_iload_n hx hb dX12_treaty_9 rfl (lv_at hl 2 rfl) ?_
    have hPm := zp_perm hP (zblk (show List.Perm ([WMo o ma mi ml, WMp X ma pv, Wa X 2 (ma 9) 5 kz, Wa X 2 (ma 25) 9261 fm] : List va_W) ([WMo o ma mi ml] ++ [WMp X ma pv, Wa X 2 (ma 9) 5 kz, Wa X 2 (ma 25) 9261 fm]) from (zf1 _ 0 _ rfl).trans ((List.Perm.refl _).cons _)))
    have hDm := zd_perm hD (zblk (show List.Perm ([WMo o ma mi ml, WMp X ma pv, Wa X 2 (ma 9) 5 kz, Wa X 2 (ma 25) 9261 fm] : List va_W) ([WMo o ma mi ml] ++ [WMp X ma pv, Wa X 2 (ma 9) 5 kz, Wa X 2 (ma 25) 9261 fm]) from (zf1 _ 0 _ rfl).trans ((List.Perm.refl _).cons _)))
    refine z_callV (wr := zb [WMp X ma pv, Wa X 2 (ma 9) 5 kz, Wa X 2 (ma 25) 9261 fm]) (As := [.int (iI x)]) (rest := []) ⟨hx, hb, hml, hown, hts⟩ (c_X12_isChild l X o ma mi ml x (by omega) (by omega)) (cwV 1 hts gX12_treaty_X12_isChild rfl rfl rfl (by decide +kernel) ⟨Nat.le_of_ble_eq_true rfl, Nat.le_of_ble_eq_true rfl⟩) rfl rfl hl.1 dX12_treaty_10 rfl rfl (Nat.le_of_ble_eq_true rfl) ⟨(Nat.le_of_ble_eq_true rfl), (Nat.le_of_ble_eq_true rfl)⟩ hS hA hK hPm hDm (fun _ H locs _ hP hD hS => ?_)
    have hP := zp_perm hP ((zblk (show List.Perm ([WMo o ma mi ml, WMp X ma pv, Wa X 2 (ma 9) 5 kz, Wa X 2 (ma 25) 9261 fm] : List va_W) ([WMo o ma mi ml] ++ [WMp X ma pv, Wa X 2 (ma 9) 5 kz, Wa X 2 (ma 25) 9261 fm]) from (zf1 _ 0 _ rfl).trans ((List.Perm.refl _).cons _)))).symm
    have hD := zd_perm hD ((zblk (show List.Perm ([WMo o ma mi ml, WMp X ma pv, Wa X 2 (ma 9) 5 kz, Wa X 2 (ma 25) 9261 fm] : List va_W) ([WMo o ma mi ml] ++ [WMp X ma pv, Wa X 2 (ma 9) 5 kz, Wa X 2 (ma 25) 9261 fm]) from (zf1 _ 0 _ rfl).trans ((List.Perm.refl _).cons _)))).symm
    have hP : va_P X.1 vwCl (zb [WMo o ma mi ml, WMp X ma pv, Wa X 2 (ma 9) 5 kz, Wa X 2 (ma 25) 9261 fm]) H := hP
    have hD : va_D A (zb [WMo o ma mi ml, WMp X ma pv, Wa X 2 (ma 9) 5 kz, Wa X 2 (ma 25) 9261 fm]) := hD
    refine W.eq (g2 := F0 m 13 ls [.int (iI (if 0 ≤ x ∧ x < mi 2 then 1 else 0))]) rfl ?_
    refine z_if_eq (tgt := 21) hx hb (by omega) dX12_treaty_13 (by decide) (fun c_2 => ?_) (fun c_2 => ?_)
    · skip
      refine lv_bipush (v := iI (-101)) hx hb dX12_treaty_21 (by decide) ?_
      have hw : zb [WMo o ma mi ml, WMp X ma pv, Wa X 2 (ma 9) 5 kz, Wa X 2 (ma 25) 9261 fm] = zb [WMo o ma (updZ mi 12 (treatyN (mi 2) z x y (mi 12))) ml, WMp X ma pv, Wa X 2 (ma 9) 5 kz, Wa X 2 (ma 25) 9261 fm] := by unfold treatyN; (repeat (first | rw [if_pos (by omega)] | rw [if_neg (by omega)])); first | done | (rw [updZ_id]; done) | (subst_vars; rfl)
      rw [hw] at hP hD
      exact z_iret hQ hx hb hr hlocks hS ⟨(Nat.le_of_ble_eq_true rfl), (Nat.le_of_ble_eq_true rfl)⟩ dX12_treaty_23 fm (congrArg (fun z => some (Value.int (iI z))) (show (treatyR (mi 2) z x y (mi 1) (mi 12) (kdM kz) pv : Int) = (-101) by unfold treatyR; (repeat (first | rw [if_pos (by omega)] | rw [if_neg (by omega)])); first | done | rfl)) (by (try dsimp only); first | exact hfm | exact hpost) hP hD
    · skip
      refine lv_iload_n hx hb dX12_treaty_16 rfl (lv_at hl 1 rfl) ?_
      refine lv_iload_n hx hb dX12_treaty_17 rfl (lv_at hl 2 rfl) ?_
      refine z_icmp_ne (tgt := 24) hx hb (by omega) dX12_treaty_18 (by decide) (fun c_3 => ?_) (fun c_3 => ?_)
      · skip
        refine lv_iload_n hx hb dX12_treaty_24 rfl (lv_at hl 3 rfl) ?_
        refine lv_iconst (v := iI 0) hx hb dX12_treaty_25 (by decide) ?_
        refine lv_iconst (v := iI 1) hx hb dX12_treaty_26 (by decide) ?_
        have hPm := zp_perm hP (zblk (show List.Perm ([WMo o ma mi ml, WMp X ma pv, Wa X 2 (ma 9) 5 kz, Wa X 2 (ma 25) 9261 fm] : List va_W) ([] ++ [WMo o ma mi ml, WMp X ma pv, Wa X 2 (ma 9) 5 kz, Wa X 2 (ma 25) 9261 fm]) from List.Perm.refl _))
        have hDm := zd_perm hD (zblk (show List.Perm ([WMo o ma mi ml, WMp X ma pv, Wa X 2 (ma 9) 5 kz, Wa X 2 (ma 25) 9261 fm] : List va_W) ([] ++ [WMo o ma mi ml, WMp X ma pv, Wa X 2 (ma 9) 5 kz, Wa X 2 (ma 25) 9261 fm]) from List.Perm.refl _))
        refine z_callS (wr := zb [WMo o ma mi ml, WMp X ma pv, Wa X 2 (ma 9) 5 kz, Wa X 2 (ma 25) 9261 fm]) (As := [.int (iI y), .int (iI 0), .int (iI 1)]) (rest := []) ⟨hx, hb, hml, hown, hts⟩ (c_X12_within l X y 0 1 (by omega)) (va_cwS 3 hts gX12_treaty_X12_within rfl rfl rfl (by decide +kernel) ⟨Nat.le_of_ble_eq_true rfl, Nat.le_of_ble_eq_true rfl⟩) hl.1 dX12_treaty_27 rfl rfl (Nat.le_of_ble_eq_true rfl) ⟨(Nat.le_of_ble_eq_true rfl), (Nat.le_of_ble_eq_true rfl)⟩ hS hA hK hPm hDm (fun _ H locs _ hP hD hS => ?_)
        have hP := zp_perm hP ((zblk (show List.Perm ([WMo o ma mi ml, WMp X ma pv, Wa X 2 (ma 9) 5 kz, Wa X 2 (ma 25) 9261 fm] : List va_W) ([] ++ [WMo o ma mi ml, WMp X ma pv, Wa X 2 (ma 9) 5 kz, Wa X 2 (ma 25) 9261 fm]) from List.Perm.refl _))).symm
        have hD := zd_perm hD ((zblk (show List.Perm ([WMo o ma mi ml, WMp X ma pv, Wa X 2 (ma 9) 5 kz, Wa X 2 (ma 25) 9261 fm] : List va_W) ([] ++ [WMo o ma mi ml, WMp X ma pv, Wa X 2 (ma 9) 5 kz, Wa X 2 (ma 25) 9261 fm]) from List.Perm.refl _))).symm
        have hP : va_P X.1 vwCl (zb [WMo o ma mi ml, WMp X ma pv, Wa X 2 (ma 9) 5 kz, Wa X 2 (ma 25) 9261 fm]) H := hP
        have hD : va_D A (zb [WMo o ma mi ml, WMp X ma pv, Wa X 2 (ma 9) 5 kz, Wa X 2 (ma 25) 9261 fm]) := hD
        refine W.eq (g2 := F0 m 30 ls [.int (iI (if 0 ≤ y ∧ y ≤ 1 then 1 else 0))]) rfl ?_
        refine z_if_ne (tgt := 36) hx hb (by omega) dX12_treaty_30 (by decide) (fun c_4 => ?_) (fun c_4 => ?_)
        · skip
          refine lv_aload_n hx hb dX12_treaty_36 rfl (lv_at hl 0 rfl) ?_
          refine va_get (ci := 12) (v := .int (iI (mi 12))) (C := RX12) (T := TX12) (N := 38) hx hb hts inX12 hown hK.1 hP 0 rfl rfl 12 (by decide) (hts (.fieldLink RX12 225 "SkimmedSonsModel" "asks" "I") (by decide +kernel)) (fun _ h9 => h9) rfl dX12_treaty_37 ?_
          refine lv_bipush (v := iI 40) hx hb dX12_treaty_40 (by decide) ?_
          refine z_icmp_ne (tgt := 48) hx hb (by omega) dX12_treaty_42 (by decide) (fun c_5 => ?_) (fun c_5 => ?_)
          · skip
            refine lv_aload_n hx hb dX12_treaty_48 rfl (lv_at hl 0 rfl) ?_
            refine lv_dup hx hb dX12_treaty_49 rfl ?_
            refine va_get (ci := 12) (v := .int (iI (mi 12))) (C := RX12) (T := TX12) (N := 38) hx hb hts inX12 hown hK.1 hP 0 rfl rfl 12 (by decide) (hts (.fieldLink RX12 225 "SkimmedSonsModel" "asks" "I") (by decide +kernel)) (fun _ h9 => h9) rfl dX12_treaty_50 ?_
            refine lv_iconst (v := iI 1) hx hb dX12_treaty_53 (by decide) ?_
            refine z_iadd hx hb dX12_treaty_54 ?_
            refine z_topi (fun z_6 ez_6 => ?_)
            refine va_put (ci := 12) (v := .int (iI z_6)) (ty := .int) (C := RX12) (T := TX12) (N := 38) hx hb hts inX12 tyX12 tyX12_ok nmX12 hown hK.1 hP hD hS 0 rfl rfl 12 (by decide) (hts (.fieldLink RX12 225 "SkimmedSonsModel" "asks" "I") (by decide +kernel)) (fun _ h9 => h9) rfl (by decide +kernel) rfl rfl (Nat.le_of_ble_eq_true rfl) dX12_treaty_55 (fun H locs hP hD hS => ?_)
            have hP : va_P X.1 vwCl (zb [WMo o ma (updZ mi 12 z_6) ml, WMp X ma pv, Wa X 2 (ma 9) 5 kz, Wa X 2 (ma 25) 9261 fm]) H := hP
            have hD : va_D A (zb [WMo o ma (updZ mi 12 z_6) ml, WMp X ma pv, Wa X 2 (ma 9) 5 kz, Wa X 2 (ma 25) 9261 fm]) := hD
            refine lv_aload_n hx hb dX12_treaty_58 rfl (lv_at hl 0 rfl) ?_
            refine lv_iload_n hx hb dX12_treaty_59 rfl (lv_at hl 1 rfl) ?_
            refine lv_iload_n hx hb dX12_treaty_60 rfl (lv_at hl 2 rfl) ?_
            refine lv_iload_n hx hb dX12_treaty_61 rfl (lv_at hl 3 rfl) ?_
            have hPm := zp_perm hP (zblk (show List.Perm ([WMo o ma (updZ mi 12 z_6) ml, WMp X ma pv, Wa X 2 (ma 9) 5 kz, Wa X 2 (ma 25) 9261 fm] : List va_W) ([WMo o ma (updZ mi 12 z_6) ml, WMp X ma pv, Wa X 2 (ma 9) 5 kz, Wa X 2 (ma 25) 9261 fm] ++ []) from (zf1 _ 0 _ rfl).trans (((zf1 _ 0 _ rfl).trans (((zf1 _ 0 _ rfl).trans (((zf1 _ 0 _ rfl).trans ((List.Perm.refl _).cons _)).cons _)).cons _)).cons _)))
            have hDm := zd_perm hD (zblk (show List.Perm ([WMo o ma (updZ mi 12 z_6) ml, WMp X ma pv, Wa X 2 (ma 9) 5 kz, Wa X 2 (ma 25) 9261 fm] : List va_W) ([WMo o ma (updZ mi 12 z_6) ml, WMp X ma pv, Wa X 2 (ma 9) 5 kz, Wa X 2 (ma 25) 9261 fm] ++ []) from (zf1 _ 0 _ rfl).trans (((zf1 _ 0 _ rfl).trans (((zf1 _ 0 _ rfl).trans (((zf1 _ 0 _ rfl).trans ((List.Perm.refl _).cons _)).cons _)).cons _)).cons _)))
            refine z_callV (wr := zb []) (As := [.int (iI z), .int (iI x), .int (iI y)]) (rest := []) ⟨hx, hb, hml, hown, hts⟩ (c_X12_treatyNow l X o ma (updZ mi 12 z_6) ml pv kz fm z x y (by exact hn) (by exact hpv) (by omega) (by exact hkm _ (by omega)) (by exact hkm _ (by omega)) (by exact hfm) (by omega)) (cwV 3 hts gX12_treaty_X12_treatyNow rfl rfl rfl (by decide +kernel) ⟨Nat.le_of_ble_eq_true rfl, Nat.le_of_ble_eq_true rfl⟩) rfl rfl hl.1 dX12_treaty_62 rfl rfl (Nat.le_of_ble_eq_true rfl) ⟨(Nat.le_of_ble_eq_true rfl), (Nat.le_of_ble_eq_true rfl)⟩ hS hA hK hPm hDm (fun u H locs hpost hP hD hS => ?_)
            obtain ⟨fm9_7, rfl⟩ : ∃ z, z = u := ⟨_, rfl⟩
            have hpost : FmB fm9_7 := hpost
            have hP := zp_perm hP ((zblk (show List.Perm ([WMo o ma (updZ mi 12 z_6) ml, WMp X ma pv, Wa X 2 (ma 9) 5 kz, Wa X 2 (ma 25) 9261 fm9_7] : List va_W) ([WMo o ma (updZ mi 12 z_6) ml, WMp X ma pv, Wa X 2 (ma 9) 5 kz, Wa X 2 (ma 25) 9261 fm9_7] ++ []) from (zf1 _ 0 _ rfl).trans (((zf1 _ 0 _ rfl).trans (((zf1 _ 0 _ rfl).trans (((zf1 _ 0 _ rfl).trans ((List.Perm.refl _).cons _)).cons _)).cons _)).cons _)))).symm
            have hD := zd_perm hD ((zblk (show List.Perm ([WMo o ma (updZ mi 12 z_6) ml, WMp X ma pv, Wa X 2 (ma 9) 5 kz, Wa X 2 (ma 25) 9261 fm9_7] : List va_W) ([WMo o ma (updZ mi 12 z_6) ml, WMp X ma pv, Wa X 2 (ma 9) 5 kz, Wa X 2 (ma 25) 9261 fm9_7] ++ []) from (zf1 _ 0 _ rfl).trans (((zf1 _ 0 _ rfl).trans (((zf1 _ 0 _ rfl).trans (((zf1 _ 0 _ rfl).trans ((List.Perm.refl _).cons _)).cons _)).cons _)).cons _)))).symm
            have hP : va_P X.1 vwCl (zb [WMo o ma (updZ mi 12 z_6) ml, WMp X ma pv, Wa X 2 (ma 9) 5 kz, Wa X 2 (ma 25) 9261 fm9_7]) H := hP
            have hD : va_D A (zb [WMo o ma (updZ mi 12 z_6) ml, WMp X ma pv, Wa X 2 (ma 9) 5 kz, Wa X 2 (ma 25) 9261 fm9_7]) := hD
            refine W.eq (g2 := F0 m 65 ls [.int (iI (if y = 0 then 1000 + (trV ((mi 1)) pv (kdM kz z.toNat) (kdM kz x.toNat)).1 else (trV ((mi 1)) pv (kdM kz z.toNat) (kdM kz x.toNat)).2))]) rfl ?_
            have hw : zb [WMo o ma (updZ mi 12 z_6) ml, WMp X ma pv, Wa X 2 (ma 9) 5 kz, Wa X 2 (ma 25) 9261 fm9_7] = zb [WMo o ma (updZ mi 12 (treatyN (mi 2) z x y (mi 12))) ml, WMp X ma pv, Wa X 2 (ma 9) 5 kz, Wa X 2 (ma 25) 9261 fm9_7] := by unfold treatyN; (repeat (first | rw [if_pos (by omega)] | rw [if_neg (by omega)])); first | done | (rw [updZ_id]; done) | (subst_vars; rfl)
            rw [hw] at hP hD
            exact z_iret hQ hx hb hr hlocks hS ⟨(Nat.le_of_ble_eq_true rfl), (Nat.le_of_ble_eq_true rfl)⟩ dX12_treaty_65 fm9_7 (congrArg (fun z => some (Value.int (iI z))) (show (treatyR (mi 2) z x y (mi 1) (mi 12) (kdM kz) pv : Int) = if y = 0 then 1000 + (trV ((mi 1)) pv (kdM kz z.toNat) (kdM kz x.toNat)).1 else (trV ((mi 1)) pv (kdM kz z.toNat) (kdM kz x.toNat)).2 by unfold treatyR; (repeat (first | rw [if_pos (by omega)] | rw [if_neg (by omega)])); first | done | rfl)) (by (try dsimp only); first | exact hfm | exact hpost) hP hD
          · skip
            refine lv_bipush (v := iI (-103)) hx hb dX12_treaty_45 (by decide) ?_
            have hw : zb [WMo o ma mi ml, WMp X ma pv, Wa X 2 (ma 9) 5 kz, Wa X 2 (ma 25) 9261 fm] = zb [WMo o ma (updZ mi 12 (treatyN (mi 2) z x y (mi 12))) ml, WMp X ma pv, Wa X 2 (ma 9) 5 kz, Wa X 2 (ma 25) 9261 fm] := by unfold treatyN; (repeat (first | rw [if_pos (by omega)] | rw [if_neg (by omega)])); first | done | (rw [updZ_id]; done) | (subst_vars; rfl)
            rw [hw] at hP hD
            exact z_iret hQ hx hb hr hlocks hS ⟨(Nat.le_of_ble_eq_true rfl), (Nat.le_of_ble_eq_true rfl)⟩ dX12_treaty_47 fm (congrArg (fun z => some (Value.int (iI z))) (show (treatyR (mi 2) z x y (mi 1) (mi 12) (kdM kz) pv : Int) = (-103) by unfold treatyR; (repeat (first | rw [if_pos (by omega)] | rw [if_neg (by omega)])); first | done | rfl)) (by (try dsimp only); first | exact hfm | exact hpost) hP hD
        · skip
          refine lv_bipush (v := iI (-102)) hx hb dX12_treaty_33 (by decide) ?_
          have hw : zb [WMo o ma mi ml, WMp X ma pv, Wa X 2 (ma 9) 5 kz, Wa X 2 (ma 25) 9261 fm] = zb [WMo o ma (updZ mi 12 (treatyN (mi 2) z x y (mi 12))) ml, WMp X ma pv, Wa X 2 (ma 9) 5 kz, Wa X 2 (ma 25) 9261 fm] := by unfold treatyN; (repeat (first | rw [if_pos (by omega)] | rw [if_neg (by omega)])); first | done | (rw [updZ_id]; done) | (subst_vars; rfl)
          rw [hw] at hP hD
          exact z_iret hQ hx hb hr hlocks hS ⟨(Nat.le_of_ble_eq_true rfl), (Nat.le_of_ble_eq_true rfl)⟩ dX12_treaty_35 fm (congrArg (fun z => some (Value.int (iI z))) (show (treatyR (mi 2) z x y (mi 1) (mi 12) (kdM kz) pv : Int) = (-102) by unfold treatyR; (repeat (first | rw [if_pos (by omega)] | rw [if_neg (by omega)])); first | done | rfl)) (by (try dsimp only); first | exact hfm | exact hpost) hP hD
      · skip
        refine lv_bipush (v := iI (-101)) hx hb dX12_treaty_21 (by decide) ?_
        have hw : zb [WMo o ma mi ml, WMp X ma pv, Wa X 2 (ma 9) 5 kz, Wa X 2 (ma 25) 9261 fm] = zb [WMo o ma (updZ mi 12 (treatyN (mi 2) z x y (mi 12))) ml, WMp X ma pv, Wa X 2 (ma 9) 5 kz, Wa X 2 (ma 25) 9261 fm] := by unfold treatyN; (repeat (first | rw [if_pos (by omega)] | rw [if_neg (by omega)])); first | done | (rw [updZ_id]; done) | (subst_vars; rfl)
        rw [hw] at hP hD
        exact z_iret hQ hx hb hr hlocks hS ⟨(Nat.le_of_ble_eq_true rfl), (Nat.le_of_ble_eq_true rfl)⟩ dX12_treaty_23 fm (congrArg (fun z => some (Value.int (iI z))) (show (treatyR (mi 2) z x y (mi 1) (mi 12) (kdM kz) pv : Int) = (-101) by unfold treatyR; (repeat (first | rw [if_pos (by omega)] | rw [if_neg (by omega)])); first | done | rfl)) (by (try dsimp only); first | exact hfm | exact hpost) hP hD
