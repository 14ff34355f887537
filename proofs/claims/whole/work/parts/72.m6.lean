set_option maxHeartbeats 1000000 in
set_option maxRecDepth 100000 in
theorem c_X12_nights (l : Launch) (X : zX) (o : Nat) (ma : Nat → Nat) (mi : Nat → Int) (ml : Nat → Int) (pv : Nat → Nat → Int) (kz : Nat → Int) (sa : Nat → Int) (x : Int) (z : Int) (y : Int) (hn : 0 ≤ mi 1 ∧ mi 1 ≤ 3) (ht : 0 ≤ mi 2 ∧ mi 2 ≤ 5) (hn2 : 0 < mi 1 → 1 ≤ mi 2) (hpv : PanS pv) (hpg : ∀ j, j < (mi 1).toNat → PanG 2000 (pv j)) (hkm : KidM (mi 2) kz) (hrx : -2147483648 ≤ x ∧ x < 2147483648) (hrz : -2147483648 ≤ z ∧ z < 2147483648) (hry : -2147483648 ≤ y ∧ y < 2147483648) : zM (S := (Nat → Int) × (Nat → Int)) l X yX12_nights wsX12_nights { frames := 4, cells := 0, slots := 0, locals := 93 } [.ref o, .int (iI x), .int (iI z), .int (iI y)] (zb [WMo o ma mi ml, WMp X ma pv, Wa X 2 (ma 9) 5 kz, Wa X 2 (ma 22) 105 sa]) (fun u => (some (.int (iI (nightsR (mi 2) (mi 1) (mi 1) x z y (kdM kz) pv))))) (fun u => zb [WMo o ma mi u.1, WMp X ma pv, Wa X 2 (ma 9) 5 kz, Wa X 2 (ma 22) 105 u.2]) (fun u => ∀ k, k < 15 → u.2 k = sa k) := by
  refine z_enter (cc := cX12_nights) (maxL := 4) (ret := (some .int)) (by decide) rfl (Nat.le_of_ble_eq_true rfl) ?_
  intro p e s m below meth c A ls Q hQ hE hl hP hD
  obtain ⟨hx, hb, hr, hml, hown, hts, hlocks, hnm, hA, hK⟩ := hE
  have hown : s.vm.findClass RX12 = some m.cls := hown
  have hS : va_S A s.heap s.heap [] := va_S.rf
  have hl : lv_has ls 4 [(0, .ref o), (1, .int (iI x)), (2, .int (iI z)), (3, .int (iI y))] := hl
  have inX12 : ∀ w ∈ u_ws RX12 TX12 38, w ∈ wsX12_nights := by decide +kernel
  refine lv_iload_n hx hb dX12_nights_0 rfl (lv_at hl 1 rfl) ?_
  refine lv_iconst (v := iI 1) hx hb dX12_nights_1 (by decide) ?_
  refine lv_bipush (v := iI 60) hx hb dX12_nights_2 (by decide) ?_
  have hPm := zp_perm hP (zblk (show List.Perm ([WMo o ma mi ml, WMp X ma pv, Wa X 2 (ma 9) 5 kz, Wa X 2 (ma 22) 105 sa] : List va_W) ([] ++ [WMo o ma mi ml, WMp X ma pv, Wa X 2 (ma 9) 5 kz, Wa X 2 (ma 22) 105 sa]) from List.Perm.refl _))
  have hDm := zd_perm hD (zblk (show List.Perm ([WMo o ma mi ml, WMp X ma pv, Wa X 2 (ma 9) 5 kz, Wa X 2 (ma 22) 105 sa] : List va_W) ([] ++ [WMo o ma mi ml, WMp X ma pv, Wa X 2 (ma 9) 5 kz, Wa X 2 (ma 22) 105 sa]) from List.Perm.refl _))
  refine z_callS (wr := zb [WMo o ma mi ml, WMp X ma pv, Wa X 2 (ma 9) 5 kz, Wa X 2 (ma 22) 105 sa]) (As := [.int (iI x), .int (iI 1), .int (iI 60)]) (rest := []) ⟨hx, hb, hml, hown, hts⟩ (c_X12_within l X x 1 60 (by omega)) (va_cwS 3 hts gX12_nights_X12_within rfl rfl rfl (by decide +kernel) ⟨Nat.le_of_ble_eq_true rfl, Nat.le_of_ble_eq_true rfl⟩) hl.1 dX12_nights_4 rfl rfl (Nat.le_of_ble_eq_true rfl) ⟨(Nat.le_of_ble_eq_true rfl), (Nat.le_of_ble_eq_true rfl)⟩ hS hA hK hPm hDm (fun _ H locs _ hP hD hS => ?_)
  have hP := zp_perm hP ((zblk (show List.Perm ([WMo o ma mi ml, WMp X ma pv, Wa X 2 (ma 9) 5 kz, Wa X 2 (ma 22) 105 sa] : List va_W) ([] ++ [WMo o ma mi ml, WMp X ma pv, Wa X 2 (ma 9) 5 kz, Wa X 2 (ma 22) 105 sa]) from List.Perm.refl _))).symm
  have hD := zd_perm hD ((zblk (show List.Perm ([WMo o ma mi ml, WMp X ma pv, Wa X 2 (ma 9) 5 kz, Wa X 2 (ma 22) 105 sa] : List va_W) ([] ++ [WMo o ma mi ml, WMp X ma pv, Wa X 2 (ma 9) 5 kz, Wa X 2 (ma 22) 105 sa]) from List.Perm.refl _))).symm
  have hP : va_P X.1 vwCl (zb [WMo o ma mi ml, WMp X ma pv, Wa X 2 (ma 9) 5 kz, Wa X 2 (ma 22) 105 sa]) H := hP
  have hD : va_D A (zb [WMo o ma mi ml, WMp X ma pv, Wa X 2 (ma 9) 5 kz, Wa X 2 (ma 22) 105 sa]) := hD
  refine W.eq (g2 := F0 m 7 ls [.int (iI (if 1 ≤ x ∧ x ≤ 60 then 1 else 0))]) rfl ?_
  refine z_if_eq (tgt := 23) hx hb (by omega) dX12_nights_7 (by decide) (fun c_1 => ?_) (fun c_1 => ?_)
  · skip
    refine lv_bipush (v := iI (-102)) hx hb dX12_nights_23 (by decide) ?_
    exact z_iret hQ hx hb hr hlocks hS ⟨(Nat.le_of_ble_eq_true rfl), (Nat.le_of_ble_eq_true rfl)⟩ dX12_nights_25 (ml, sa) (congrArg (fun z => some (Value.int (iI z))) (show (nightsR (mi 2) (mi 1) (mi 1) x z y (kdM kz) pv : Int) = (-102) by first | rfl | (unfold nightsR; (repeat (first | rw [if_pos (by omega)] | rw [if_neg (by omega)])); done))) (by (try dsimp only); intro k hk; first | rfl | exact savF_lo hk) hP hD
  · skip
    refine lv_iload_n hx hb dX12_nights_10 rfl (lv_at hl 2 rfl) ?_
    refine z_if_lt (tgt := 23) hx hb (by omega) dX12_nights_11 (by decide) (fun c_2 => ?_) (fun c_2 => ?_)
    · skip
      refine lv_bipush (v := iI (-102)) hx hb dX12_nights_23 (by decide) ?_
      exact z_iret hQ hx hb hr hlocks hS ⟨(Nat.le_of_ble_eq_true rfl), (Nat.le_of_ble_eq_true rfl)⟩ dX12_nights_25 (ml, sa) (congrArg (fun z => some (Value.int (iI z))) (show (nightsR (mi 2) (mi 1) (mi 1) x z y (kdM kz) pv : Int) = (-102) by first | rfl | (unfold nightsR; (repeat (first | rw [if_pos (by omega)] | rw [if_neg (by omega)])); done))) (by (try dsimp only); intro k hk; first | rfl | exact savF_lo hk) hP hD
    · skip
      refine lv_iload_n hx hb dX12_nights_14 rfl (lv_at hl 3 rfl) ?_
      refine lv_iconst (v := iI 0) hx hb dX12_nights_15 (by decide) ?_
      refine lv_iconst (v := iI 2) hx hb dX12_nights_16 (by decide) ?_
      have hPm := zp_perm hP (zblk (show List.Perm ([WMo o ma mi ml, WMp X ma pv, Wa X 2 (ma 9) 5 kz, Wa X 2 (ma 22) 105 sa] : List va_W) ([] ++ [WMo o ma mi ml, WMp X ma pv, Wa X 2 (ma 9) 5 kz, Wa X 2 (ma 22) 105 sa]) from List.Perm.refl _))
      have hDm := zd_perm hD (zblk (show List.Perm ([WMo o ma mi ml, WMp X ma pv, Wa X 2 (ma 9) 5 kz, Wa X 2 (ma 22) 105 sa] : List va_W) ([] ++ [WMo o ma mi ml, WMp X ma pv, Wa X 2 (ma 9) 5 kz, Wa X 2 (ma 22) 105 sa]) from List.Perm.refl _))
      refine z_callS (wr := zb [WMo o ma mi ml, WMp X ma pv, Wa X 2 (ma 9) 5 kz, Wa X 2 (ma 22) 105 sa]) (As := [.int (iI y), .int (iI 0), .int (iI 2)]) (rest := []) ⟨hx, hb, hml, hown, hts⟩ (c_X12_within l X y 0 2 (by omega)) (va_cwS 3 hts gX12_nights_X12_within rfl rfl rfl (by decide +kernel) ⟨Nat.le_of_ble_eq_true rfl, Nat.le_of_ble_eq_true rfl⟩) hl.1 dX12_nights_17 rfl rfl (Nat.le_of_ble_eq_true rfl) ⟨(Nat.le_of_ble_eq_true rfl), (Nat.le_of_ble_eq_true rfl)⟩ hS hA hK hPm hDm (fun _ H locs _ hP hD hS => ?_)
      have hP := zp_perm hP ((zblk (show List.Perm ([WMo o ma mi ml, WMp X ma pv, Wa X 2 (ma 9) 5 kz, Wa X 2 (ma 22) 105 sa] : List va_W) ([] ++ [WMo o ma mi ml, WMp X ma pv, Wa X 2 (ma 9) 5 kz, Wa X 2 (ma 22) 105 sa]) from List.Perm.refl _))).symm
      have hD := zd_perm hD ((zblk (show List.Perm ([WMo o ma mi ml, WMp X ma pv, Wa X 2 (ma 9) 5 kz, Wa X 2 (ma 22) 105 sa] : List va_W) ([] ++ [WMo o ma mi ml, WMp X ma pv, Wa X 2 (ma 9) 5 kz, Wa X 2 (ma 22) 105 sa]) from List.Perm.refl _))).symm
      have hP : va_P X.1 vwCl (zb [WMo o ma mi ml, WMp X ma pv, Wa X 2 (ma 9) 5 kz, Wa X 2 (ma 22) 105 sa]) H := hP
      have hD : va_D A (zb [WMo o ma mi ml, WMp X ma pv, Wa X 2 (ma 9) 5 kz, Wa X 2 (ma 22) 105 sa]) := hD
      refine W.eq (g2 := F0 m 20 ls [.int (iI (if 0 ≤ y ∧ y ≤ 2 then 1 else 0))]) rfl ?_
      refine z_if_ne (tgt := 26) hx hb (by omega) dX12_nights_20 (by decide) (fun c_3 => ?_) (fun c_3 => ?_)
      · skip
        refine lv_aload_n hx hb dX12_nights_26 rfl (lv_at hl 0 rfl) ?_
        refine va_get (ci := 12) (v := .int (iI (mi 1))) (C := RX12) (T := TX12) (N := 38) hx hb hts inX12 hown hK.1 hP 0 rfl rfl 1 (by decide) (hts (.fieldLink RX12 119 "SkimmedSonsModel" "pans" "I") (by decide +kernel)) (fun _ h9 => h9) rfl dX12_nights_27 ?_
        refine z_if_ne (tgt := 38) hx hb (by omega) dX12_nights_30 (by decide) (fun c_4 => ?_) (fun c_4 => ?_)
        · skip
          refine lv_aload_n hx hb dX12_nights_38 rfl (lv_at hl 0 rfl) ?_
          refine lv_iload_n hx hb dX12_nights_39 rfl (lv_at hl 1 rfl) ?_
          refine lv_iload_n hx hb dX12_nights_40 rfl (lv_at hl 2 rfl) ?_
          refine lv_iload_n hx hb dX12_nights_41 rfl (lv_at hl 3 rfl) ?_
          have hPm := zp_perm hP (zblk (show List.Perm ([WMo o ma mi ml, WMp X ma pv, Wa X 2 (ma 9) 5 kz, Wa X 2 (ma 22) 105 sa] : List va_W) ([WMo o ma mi ml, WMp X ma pv, Wa X 2 (ma 9) 5 kz, Wa X 2 (ma 22) 105 sa] ++ []) from (zf1 _ 0 _ rfl).trans (((zf1 _ 0 _ rfl).trans (((zf1 _ 0 _ rfl).trans (((zf1 _ 0 _ rfl).trans ((List.Perm.refl _).cons _)).cons _)).cons _)).cons _)))
          have hDm := zd_perm hD (zblk (show List.Perm ([WMo o ma mi ml, WMp X ma pv, Wa X 2 (ma 9) 5 kz, Wa X 2 (ma 22) 105 sa] : List va_W) ([WMo o ma mi ml, WMp X ma pv, Wa X 2 (ma 9) 5 kz, Wa X 2 (ma 22) 105 sa] ++ []) from (zf1 _ 0 _ rfl).trans (((zf1 _ 0 _ rfl).trans (((zf1 _ 0 _ rfl).trans (((zf1 _ 0 _ rfl).trans ((List.Perm.refl _).cons _)).cons _)).cons _)).cons _)))
          refine z_callV (wr := zb []) (As := [.int (iI x), .int (iI z), .int (iI y)]) (rest := []) ⟨hx, hb, hml, hown, hts⟩ (c_X12_nightsNow l X o ma mi ml pv kz sa x z y (by omega) (by omega) (by exact hpv) (by exact hpg) (by exact hkm) (by omega) (by omega) (by omega)) (cwV 3 hts gX12_nights_X12_nightsNow rfl rfl rfl (by decide +kernel) ⟨Nat.le_of_ble_eq_true rfl, Nat.le_of_ble_eq_true rfl⟩) rfl rfl hl.1 dX12_nights_42 rfl rfl (Nat.le_of_ble_eq_true rfl) ⟨(Nat.le_of_ble_eq_true rfl), (Nat.le_of_ble_eq_true rfl)⟩ hS hA hK hPm hDm (fun u H locs _ hP hD hS => ?_)
          obtain ⟨sd9_5, rfl⟩ : ∃ z, z = u := ⟨_, rfl⟩
          have hP := zp_perm hP ((zblk (show List.Perm ([WMo o ma mi (updZ ml 28 sd9_5), WMp X ma pv, Wa X 2 (ma 9) 5 kz, Wa X 2 (ma 22) 105 (savF 15 pv sa)] : List va_W) ([WMo o ma mi (updZ ml 28 sd9_5), WMp X ma pv, Wa X 2 (ma 9) 5 kz, Wa X 2 (ma 22) 105 (savF 15 pv sa)] ++ []) from (zf1 _ 0 _ rfl).trans (((zf1 _ 0 _ rfl).trans (((zf1 _ 0 _ rfl).trans (((zf1 _ 0 _ rfl).trans ((List.Perm.refl _).cons _)).cons _)).cons _)).cons _)))).symm
          have hD := zd_perm hD ((zblk (show List.Perm ([WMo o ma mi (updZ ml 28 sd9_5), WMp X ma pv, Wa X 2 (ma 9) 5 kz, Wa X 2 (ma 22) 105 (savF 15 pv sa)] : List va_W) ([WMo o ma mi (updZ ml 28 sd9_5), WMp X ma pv, Wa X 2 (ma 9) 5 kz, Wa X 2 (ma 22) 105 (savF 15 pv sa)] ++ []) from (zf1 _ 0 _ rfl).trans (((zf1 _ 0 _ rfl).trans (((zf1 _ 0 _ rfl).trans (((zf1 _ 0 _ rfl).trans ((List.Perm.refl _).cons _)).cons _)).cons _)).cons _)))).symm
          have hP : va_P X.1 vwCl (zb [WMo o ma mi (updZ ml 28 sd9_5), WMp X ma pv, Wa X 2 (ma 9) 5 kz, Wa X 2 (ma 22) 105 (savF 15 pv sa)]) H := hP
          have hD : va_D A (zb [WMo o ma mi (updZ ml 28 sd9_5), WMp X ma pv, Wa X 2 (ma 9) 5 kz, Wa X 2 (ma 22) 105 (savF 15 pv sa)]) := hD
          refine W.eq (g2 := F0 m 45 ls [.int (iI (nightsR (mi 2) (mi 1) (mi 1) x z y (kdM kz) pv))]) rfl ?_
          exact z_iret hQ hx hb hr hlocks hS ⟨(Nat.le_of_ble_eq_true rfl), (Nat.le_of_ble_eq_true rfl)⟩ dX12_nights_45 ((updZ ml 28 sd9_5), (savF 15 pv sa)) rfl (by (try dsimp only); intro k hk; first | rfl | exact savF_lo hk) hP hD
        · skip
          refine lv_bipush (v := iI (-103)) hx hb dX12_nights_33 (by decide) ?_
          refine lv_goto (tgt := 45) hx hb dX12_nights_35 (by decide) ?_
          exact z_iret hQ hx hb hr hlocks hS ⟨(Nat.le_of_ble_eq_true rfl), (Nat.le_of_ble_eq_true rfl)⟩ dX12_nights_45 (ml, sa) (congrArg (fun z => some (Value.int (iI z))) (show (nightsR (mi 2) (mi 1) (mi 1) x z y (kdM kz) pv : Int) = (-103) by first | rfl | (unfold nightsR; (repeat (first | rw [if_pos (by omega)] | rw [if_neg (by omega)])); done))) (by (try dsimp only); intro k hk; first | rfl | exact savF_lo hk) hP hD
      · skip
        refine lv_bipush (v := iI (-102)) hx hb dX12_nights_23 (by decide) ?_
        exact z_iret hQ hx hb hr hlocks hS ⟨(Nat.le_of_ble_eq_true rfl), (Nat.le_of_ble_eq_true rfl)⟩ dX12_nights_25 (ml, sa) (congrArg (fun z => some (Value.int (iI z))) (show (nightsR (mi 2) (mi 1) (mi 1) x z y (kdM kz) pv : Int) = (-102) by first | rfl | (unfold nightsR; (repeat (first | rw [if_pos (by omega)] | rw [if_neg (by omega)])); done))) (by (try dsimp only); intro k hk; first | rfl | exact savF_lo hk) hP hD
set_option maxHeartbeats 1000000 in
set_option maxRecDepth 100000 in
theorem c_X12_image_n (l : Launch) (X : zX) (o : Nat) (ma : Nat → Nat) (mi : Nat → Int) (ml : Nat → Int) (hp0 : mi 1 = 0) : zF l X yX12_image wsX12_image 1 23 [.ref o] (zb [WMo o ma mi ml]) (some (.int (iI (-103)))) (zb [WMo o ma mi ml]) := by
  refine z_enter (cc := cX12_image) (maxL := 2) (ret := (some .int)) (by decide) rfl (Nat.le_of_ble_eq_true rfl) ?_
  intro p e s m below meth c A ls Q hQ hE hl hP hD
  obtain ⟨hx, hb, hr, hml, hown, hts, hlocks, hnm, hA, hK⟩ := hE
  have hown : s.vm.findClass RX12 = some m.cls := hown
  have hS : va_S A s.heap s.heap [] := va_S.rf
  have hl : lv_has ls 2 [(0, .ref o)] := hl
  have inX12 : ∀ w ∈ u_ws RX12 TX12 38, w ∈ wsX12_image := by decide +kernel
  refine lv_aload_n hx hb dX12_image_0 rfl (lv_at hl 0 rfl) ?_
  refine va_get (ci := 12) (v := .int (iI (mi 1))) (C := RX12) (T := TX12) (N := 38) hx hb hts inX12 hown hK.1 hP 0 rfl rfl 1 (by decide) (hts (.fieldLink RX12 119 "SkimmedSonsModel" "pans" "I") (by decide +kernel)) (fun _ h9 => h9) rfl dX12_image_1 ?_
  refine z_if_ne (tgt := 10) hx hb (by omega) dX12_image_4 (by decide) (fun c_1 => ?_) (fun c_1 => ?_)
  · skip
    exact absurd c_1 (by omega)
  · skip
    refine lv_bipush (v := iI (-103)) hx hb dX12_image_7 (by decide) ?_
    exact z_iret hQ hx hb hr hlocks hS ⟨(Nat.le_of_ble_eq_true rfl), (Nat.le_of_ble_eq_true rfl)⟩ dX12_image_9 () (congrArg (fun z => some (Value.int (iI z))) (show (-103 : Int) = (-103) by omega)) trivial hP hD
set_option maxHeartbeats 1000000 in
set_option maxRecDepth 100000 in
theorem c_X12_image_s (l : Launch) (X : zX) (o : Nat) (ma : Nat → Nat) (mi : Nat → Int) (ml : Nat → Int) (pv : Nat → Nat → Int) (sa : Nat → Int) (hz : Nat → Int) (s1 : Nat → Int) (s2 : Nat → Int) (s3 : Nat → Int) (kh : Nat → Int) (k1 : Nat → Int) (k2 : Nat → Int) (k3 : Nat → Int) (hn : 0 ≤ mi 1 ∧ mi 1 ≤ 3) (hp1 : ¬ mi 1 = 0) : zF l X yX12_image wsX12_image 1 23 [.ref o] (zb [WMo o ma mi ml, WMp X ma pv, Wa X 2 (ma 22) 105 sa, Wa X 2 (ma 10) 20 hz, Wa X 2 (ma 14) 6 s1, Wa X 2 (ma 15) 6 s2, Wa X 2 (ma 16) 6 s3, Wa X 2 (ma 33) 20 kh, Wa X 2 (ma 34) 6 k1, Wa X 2 (ma 35) 6 k2, Wa X 2 (ma 36) 6 k3]) (some (.int (iI (mi 11)))) (zb [WMo o ma (updZ (updZ (updZ (updZ mi 29 1) 30 (mi 0)) 31 (mi 11)) 32 (mi 13)) ml, WMp X ma pv, Wa X 2 (ma 22) 105 (savF 0 pv sa), Wa X 2 (ma 10) 20 hz, Wa X 2 (ma 14) 6 s1, Wa X 2 (ma 15) 6 s2, Wa X 2 (ma 16) 6 s3, Wa X 2 (ma 33) 20 (catZ hz kh 20), Wa X 2 (ma 34) 6 (catZ s1 k1 6), Wa X 2 (ma 35) 6 (catZ s2 k2 6), Wa X 2 (ma 36) 6 (catZ s3 k3 6)]) := by
  refine z_enter (cc := cX12_image) (maxL := 2) (ret := (some .int)) (by decide) rfl (Nat.le_of_ble_eq_true rfl) ?_
  intro p e s m below meth c A ls Q hQ hE hl hP hD
  obtain ⟨hx, hb, hr, hml, hown, hts, hlocks, hnm, hA, hK⟩ := hE
  have hown : s.vm.findClass RX12 = some m.cls := hown
  have hS : va_S A s.heap s.heap [] := va_S.rf
  have hl : lv_has ls 2 [(0, .ref o)] := hl
  have inX12 : ∀ w ∈ u_ws RX12 TX12 38, w ∈ wsX12_image := by decide +kernel
  refine lv_aload_n hx hb dX12_image_0 rfl (lv_at hl 0 rfl) ?_
  refine va_get (ci := 12) (v := .int (iI (mi 1))) (C := RX12) (T := TX12) (N := 38) hx hb hts inX12 hown hK.1 hP 0 rfl rfl 1 (by decide) (hts (.fieldLink RX12 119 "SkimmedSonsModel" "pans" "I") (by decide +kernel)) (fun _ h9 => h9) rfl dX12_image_1 ?_
  refine z_if_ne (tgt := 10) hx hb (by omega) dX12_image_4 (by decide) (fun c_1 => ?_) (fun c_1 => ?_)
  · skip
    refine lv_aload_n hx hb dX12_image_10 rfl (lv_at hl 0 rfl) ?_
    refine lv_iconst (v := iI 1) hx hb dX12_image_11 (by decide) ?_
    refine va_put (ci := 12) (v := .int (iI 1)) (ty := .boolean) (C := RX12) (T := TX12) (N := 38) hx hb hts inX12 tyX12 tyX12_ok nmX12 hown hK.1 hP hD hS 0 rfl rfl 29 (by decide) (hts (.fieldLink RX12 266 "SkimmedSonsModel" "isKept" "Z") (by decide +kernel)) (fun _ h9 => h9) rfl (by decide +kernel) (by rfl) (by rfl) (Nat.le_of_ble_eq_true rfl) dX12_image_12 (fun H locs hP hD hS => ?_)
    have hP : va_P X.1 vwCl (zb [WMo o ma (updZ mi 29 1) ml, WMp X ma pv, Wa X 2 (ma 22) 105 sa, Wa X 2 (ma 10) 20 hz, Wa X 2 (ma 14) 6 s1, Wa X 2 (ma 15) 6 s2, Wa X 2 (ma 16) 6 s3, Wa X 2 (ma 33) 20 kh, Wa X 2 (ma 34) 6 k1, Wa X 2 (ma 35) 6 k2, Wa X 2 (ma 36) 6 k3]) H := hP
    have hD : va_D A (zb [WMo o ma (updZ mi 29 1) ml, WMp X ma pv, Wa X 2 (ma 22) 105 sa, Wa X 2 (ma 10) 20 hz, Wa X 2 (ma 14) 6 s1, Wa X 2 (ma 15) 6 s2, Wa X 2 (ma 16) 6 s3, Wa X 2 (ma 33) 20 kh, Wa X 2 (ma 34) 6 k1, Wa X 2 (ma 35) 6 k2, Wa X 2 (ma 36) 6 k3]) := hD
    refine lv_aload_n hx hb dX12_image_15 rfl (lv_at hl 0 rfl) ?_
    refine lv_aload_n hx hb dX12_image_16 rfl (lv_at hl 0 rfl) ?_
    refine va_get (ci := 12) (v := .int (iI (mi 0))) (C := RX12) (T := TX12) (N := 38) hx hb hts inX12 hown hK.1 hP 0 rfl rfl 0 (by decide) (hts (.fieldLink RX12 128 "SkimmedSonsModel" "dairies" "I") (by decide +kernel)) (fun _ h9 => h9) rfl dX12_image_17 ?_
    refine va_put (ci := 12) (v := .int (iI (mi 0))) (ty := .int) (C := RX12) (T := TX12) (N := 38) hx hb hts inX12 tyX12 tyX12_ok nmX12 hown hK.1 hP hD hS 0 rfl rfl 30 (by decide) (hts (.fieldLink RX12 269 "SkimmedSonsModel" "keptDairy" "I") (by decide +kernel)) (fun _ h9 => h9) rfl (by decide +kernel) rfl rfl (Nat.le_of_ble_eq_true rfl) dX12_image_20 (fun H locs hP hD hS => ?_)
    have hP : va_P X.1 vwCl (zb [WMo o ma (updZ (updZ mi 29 1) 30 (mi 0)) ml, WMp X ma pv, Wa X 2 (ma 22) 105 sa, Wa X 2 (ma 10) 20 hz, Wa X 2 (ma 14) 6 s1, Wa X 2 (ma 15) 6 s2, Wa X 2 (ma 16) 6 s3, Wa X 2 (ma 33) 20 kh, Wa X 2 (ma 34) 6 k1, Wa X 2 (ma 35) 6 k2, Wa X 2 (ma 36) 6 k3]) H := hP
    have hD : va_D A (zb [WMo o ma (updZ (updZ mi 29 1) 30 (mi 0)) ml, WMp X ma pv, Wa X 2 (ma 22) 105 sa, Wa X 2 (ma 10) 20 hz, Wa X 2 (ma 14) 6 s1, Wa X 2 (ma 15) 6 s2, Wa X 2 (ma 16) 6 s3, Wa X 2 (ma 33) 20 kh, Wa X 2 (ma 34) 6 k1, Wa X 2 (ma 35) 6 k2, Wa X 2 (ma 36) 6 k3]) := hD
    refine lv_aload_n hx hb dX12_image_23 rfl (lv_at hl 0 rfl) ?_
    refine lv_aload_n hx hb dX12_image_24 rfl (lv_at hl 0 rfl) ?_
    refine va_get (ci := 12) (v := .int (iI (mi 11))) (C := RX12) (T := TX12) (N := 38) hx hb hts inX12 hown hK.1 hP 0 rfl rfl 11 (by decide) (hts (.fieldLink RX12 125 "SkimmedSonsModel" "hours" "I") (by decide +kernel)) (fun _ h9 => h9) rfl dX12_image_25 ?_
    refine va_put (ci := 12) (v := .int (iI (mi 11))) (ty := .int) (C := RX12) (T := TX12) (N := 38) hx hb hts inX12 tyX12 tyX12_ok nmX12 hown hK.1 hP hD hS 0 rfl rfl 31 (by decide) (hts (.fieldLink RX12 272 "SkimmedSonsModel" "keptHours" "I") (by decide +kernel)) (fun _ h9 => h9) rfl (by decide +kernel) rfl rfl (Nat.le_of_ble_eq_true rfl) dX12_image_28 (fun H locs hP hD hS => ?_)
    have hP : va_P X.1 vwCl (zb [WMo o ma (updZ (updZ (updZ mi 29 1) 30 (mi 0)) 31 (mi 11)) ml, WMp X ma pv, Wa X 2 (ma 22) 105 sa, Wa X 2 (ma 10) 20 hz, Wa X 2 (ma 14) 6 s1, Wa X 2 (ma 15) 6 s2, Wa X 2 (ma 16) 6 s3, Wa X 2 (ma 33) 20 kh, Wa X 2 (ma 34) 6 k1, Wa X 2 (ma 35) 6 k2, Wa X 2 (ma 36) 6 k3]) H := hP
    have hD : va_D A (zb [WMo o ma (updZ (updZ (updZ mi 29 1) 30 (mi 0)) 31 (mi 11)) ml, WMp X ma pv, Wa X 2 (ma 22) 105 sa, Wa X 2 (ma 10) 20 hz, Wa X 2 (ma 14) 6 s1, Wa X 2 (ma 15) 6 s2, Wa X 2 (ma 16) 6 s3, Wa X 2 (ma 33) 20 kh, Wa X 2 (ma 34) 6 k1, Wa X 2 (ma 35) 6 k2, Wa X 2 (ma 36) 6 k3]) := hD
    refine lv_aload_n hx hb dX12_image_31 rfl (lv_at hl 0 rfl) ?_
    refine lv_aload_n hx hb dX12_image_32 rfl (lv_at hl 0 rfl) ?_
    refine va_get (ci := 12) (v := .int (iI (mi 13))) (C := RX12) (T := TX12) (N := 38) hx hb hts inX12 hown hK.1 hP 0 rfl rfl 13 (by decide) (hts (.fieldLink RX12 131 "SkimmedSonsModel" "seen" "I") (by decide +kernel)) (fun _ h9 => h9) rfl dX12_image_33 ?_
    refine va_put (ci := 12) (v := .int (iI (mi 13))) (ty := .int) (C := RX12) (T := TX12) (N := 38) hx hb hts inX12 tyX12 tyX12_ok nmX12 hown hK.1 hP hD hS 0 rfl rfl 32 (by decide) (hts (.fieldLink RX12 275 "SkimmedSonsModel" "keptSeen" "I") (by decide +kernel)) (fun _ h9 => h9) rfl (by decide +kernel) rfl rfl (Nat.le_of_ble_eq_true rfl) dX12_image_36 (fun H locs hP hD hS => ?_)
    have hP : va_P X.1 vwCl (zb [WMo o ma (updZ (updZ (updZ (updZ mi 29 1) 30 (mi 0)) 31 (mi 11)) 32 (mi 13)) ml, WMp X ma pv, Wa X 2 (ma 22) 105 sa, Wa X 2 (ma 10) 20 hz, Wa X 2 (ma 14) 6 s1, Wa X 2 (ma 15) 6 s2, Wa X 2 (ma 16) 6 s3, Wa X 2 (ma 33) 20 kh, Wa X 2 (ma 34) 6 k1, Wa X 2 (ma 35) 6 k2, Wa X 2 (ma 36) 6 k3]) H := hP
    have hD : va_D A (zb [WMo o ma (updZ (updZ (updZ (updZ mi 29 1) 30 (mi 0)) 31 (mi 11)) 32 (mi 13)) ml, WMp X ma pv, Wa X 2 (ma 22) 105 sa, Wa X 2 (ma 10) 20 hz, Wa X 2 (ma 14) 6 s1, Wa X 2 (ma 15) 6 s2, Wa X 2 (ma 16) 6 s3, Wa X 2 (ma 33) 20 kh, Wa X 2 (ma 34) 6 k1, Wa X 2 (ma 35) 6 k2, Wa X 2 (ma 36) 6 k3]) := hD
    refine lv_aload_n hx hb dX12_image_39 rfl (lv_at hl 0 rfl) ?_
    refine lv_iconst (v := iI 0) hx hb dX12_image_40 (by decide) ?_
    have hPm := zp_perm hP (zblk (show List.Perm ([WMo o ma (updZ (updZ (updZ (updZ mi 29 1) 30 (mi 0)) 31 (mi 11)) 32 (mi 13)) ml, WMp X ma pv, Wa X 2 (ma 22) 105 sa, Wa X 2 (ma 10) 20 hz, Wa X 2 (ma 14) 6 s1, Wa X 2 (ma 15) 6 s2, Wa X 2 (ma 16) 6 s3, Wa X 2 (ma 33) 20 kh, Wa X 2 (ma 34) 6 k1, Wa X 2 (ma 35) 6 k2, Wa X 2 (ma 36) 6 k3] : List va_W) ([WMo o ma (updZ (updZ (updZ (updZ mi 29 1) 30 (mi 0)) 31 (mi 11)) 32 (mi 13)) ml, WMp X ma pv, Wa X 2 (ma 22) 105 sa] ++ [Wa X 2 (ma 10) 20 hz, Wa X 2 (ma 14) 6 s1, Wa X 2 (ma 15) 6 s2, Wa X 2 (ma 16) 6 s3, Wa X 2 (ma 33) 20 kh, Wa X 2 (ma 34) 6 k1, Wa X 2 (ma 35) 6 k2, Wa X 2 (ma 36) 6 k3]) from (zf1 _ 0 _ rfl).trans (((zf1 _ 0 _ rfl).trans (((zf1 _ 0 _ rfl).trans ((List.Perm.refl _).cons _)).cons _)).cons _)))
    have hDm := zd_perm hD (zblk (show List.Perm ([WMo o ma (updZ (updZ (updZ (updZ mi 29 1) 30 (mi 0)) 31 (mi 11)) 32 (mi 13)) ml, WMp X ma pv, Wa X 2 (ma 22) 105 sa, Wa X 2 (ma 10) 20 hz, Wa X 2 (ma 14) 6 s1, Wa X 2 (ma 15) 6 s2, Wa X 2 (ma 16) 6 s3, Wa X 2 (ma 33) 20 kh, Wa X 2 (ma 34) 6 k1, Wa X 2 (ma 35) 6 k2, Wa X 2 (ma 36) 6 k3] : List va_W) ([WMo o ma (updZ (updZ (updZ (updZ mi 29 1) 30 (mi 0)) 31 (mi 11)) 32 (mi 13)) ml, WMp X ma pv, Wa X 2 (ma 22) 105 sa] ++ [Wa X 2 (ma 10) 20 hz, Wa X 2 (ma 14) 6 s1, Wa X 2 (ma 15) 6 s2, Wa X 2 (ma 16) 6 s3, Wa X 2 (ma 33) 20 kh, Wa X 2 (ma 34) 6 k1, Wa X 2 (ma 35) 6 k2, Wa X 2 (ma 36) 6 k3]) from (zf1 _ 0 _ rfl).trans (((zf1 _ 0 _ rfl).trans (((zf1 _ 0 _ rfl).trans ((List.Perm.refl _).cons _)).cons _)).cons _)))
    refine z_callV (wr := zb [Wa X 2 (ma 10) 20 hz, Wa X 2 (ma 14) 6 s1, Wa X 2 (ma 15) 6 s2, Wa X 2 (ma 16) 6 s3, Wa X 2 (ma 33) 20 kh, Wa X 2 (ma 34) 6 k1, Wa X 2 (ma 35) 6 k2, Wa X 2 (ma 36) 6 k3]) (As := [.int (iI 0)]) (rest := []) ⟨hx, hb, hml, hown, hts⟩ (c_X12_save_0 l X o ma (updZ (updZ (updZ (updZ mi 29 1) 30 (mi 0)) 31 (mi 11)) 32 (mi 13)) ml pv sa ) (cwV 1 hts gX12_image_X12_save rfl rfl rfl (by decide +kernel) ⟨Nat.le_of_ble_eq_true rfl, Nat.le_of_ble_eq_true rfl⟩) rfl rfl hl.1 dX12_image_41 rfl rfl (Nat.le_of_ble_eq_true rfl) ⟨(Nat.le_of_ble_eq_true rfl), (Nat.le_of_ble_eq_true rfl)⟩ hS hA hK hPm hDm (fun _ H locs _ hP hD hS => ?_)
    have hP := zp_perm hP ((zblk (show List.Perm ([WMo o ma (updZ (updZ (updZ (updZ mi 29 1) 30 (mi 0)) 31 (mi 11)) 32 (mi 13)) ml, WMp X ma pv, Wa X 2 (ma 22) 105 (savF 0 pv sa), Wa X 2 (ma 10) 20 hz, Wa X 2 (ma 14) 6 s1, Wa X 2 (ma 15) 6 s2, Wa X 2 (ma 16) 6 s3, Wa X 2 (ma 33) 20 kh, Wa X 2 (ma 34) 6 k1, Wa X 2 (ma 35) 6 k2, Wa X 2 (ma 36) 6 k3] : List va_W) ([WMo o ma (updZ (updZ (updZ (updZ mi 29 1) 30 (mi 0)) 31 (mi 11)) 32 (mi 13)) ml, WMp X ma pv, Wa X 2 (ma 22) 105 (savF 0 pv sa)] ++ [Wa X 2 (ma 10) 20 hz, Wa X 2 (ma 14) 6 s1, Wa X 2 (ma 15) 6 s2, Wa X 2 (ma 16) 6 s3, Wa X 2 (ma 33) 20 kh, Wa X 2 (ma 34) 6 k1, Wa X 2 (ma 35) 6 k2, Wa X 2 (ma 36) 6 k3]) from (zf1 _ 0 _ rfl).trans (((zf1 _ 0 _ rfl).trans (((zf1 _ 0 _ rfl).trans ((List.Perm.refl _).cons _)).cons _)).cons _)))).symm
    have hD := zd_perm hD ((zblk (show List.Perm ([WMo o ma (updZ (updZ (updZ (updZ mi 29 1) 30 (mi 0)) 31 (mi 11)) 32 (mi 13)) ml, WMp X ma pv, Wa X 2 (ma 22) 105 (savF 0 pv sa), Wa X 2 (ma 10) 20 hz, Wa X 2 (ma 14) 6 s1, Wa X 2 (ma 15) 6 s2, Wa X 2 (ma 16) 6 s3, Wa X 2 (ma 33) 20 kh, Wa X 2 (ma 34) 6 k1, Wa X 2 (ma 35) 6 k2, Wa X 2 (ma 36) 6 k3] : List va_W) ([WMo o ma (updZ (updZ (updZ (updZ mi 29 1) 30 (mi 0)) 31 (mi 11)) 32 (mi 13)) ml, WMp X ma pv, Wa X 2 (ma 22) 105 (savF 0 pv sa)] ++ [Wa X 2 (ma 10) 20 hz, Wa X 2 (ma 14) 6 s1, Wa X 2 (ma 15) 6 s2, Wa X 2 (ma 16) 6 s3, Wa X 2 (ma 33) 20 kh, Wa X 2 (ma 34) 6 k1, Wa X 2 (ma 35) 6 k2, Wa X 2 (ma 36) 6 k3]) from (zf1 _ 0 _ rfl).trans (((zf1 _ 0 _ rfl).trans (((zf1 _ 0 _ rfl).trans ((List.Perm.refl _).cons _)).cons _)).cons _)))).symm
    have hP : va_P X.1 vwCl (zb [WMo o ma (updZ (updZ (updZ (updZ mi 29 1) 30 (mi 0)) 31 (mi 11)) 32 (mi 13)) ml, WMp X ma pv, Wa X 2 (ma 22) 105 (savF 0 pv sa), Wa X 2 (ma 10) 20 hz, Wa X 2 (ma 14) 6 s1, Wa X 2 (ma 15) 6 s2, Wa X 2 (ma 16) 6 s3, Wa X 2 (ma 33) 20 kh, Wa X 2 (ma 34) 6 k1, Wa X 2 (ma 35) 6 k2, Wa X 2 (ma 36) 6 k3]) H := hP
    have hD : va_D A (zb [WMo o ma (updZ (updZ (updZ (updZ mi 29 1) 30 (mi 0)) 31 (mi 11)) 32 (mi 13)) ml, WMp X ma pv, Wa X 2 (ma 22) 105 (savF 0 pv sa), Wa X 2 (ma 10) 20 hz, Wa X 2 (ma 14) 6 s1, Wa X 2 (ma 15) 6 s2, Wa X 2 (ma 16) 6 s3, Wa X 2 (ma 33) 20 kh, Wa X 2 (ma 34) 6 k1, Wa X 2 (ma 35) 6 k2, Wa X 2 (ma 36) 6 k3]) := hD
    refine W.eq (g2 := F0 m 44 ls []) rfl ?_
    refine lv_iconst (v := iI 0) hx hb dX12_image_44 (by decide) ?_
    refine lv_istore_n (lv' := [(1, .int (iI 0)), (0, .ref o)]) hx hb dX12_image_45 rfl hl (by decide) rfl (fun ls hl => ?_)
    have L46 : ∀ (fu : Nat) (i : Nat), (i ≤ 20) → (20 - i) < fu → ∀ (H : Heap) (locs : List Loc) (ls : Array Slot), va_P X.1 vwCl (zb [WMo o ma (updZ (updZ (updZ (updZ mi 29 1) 30 (mi 0)) 31 (mi 11)) 32 (mi 13)) ml, WMp X ma pv, Wa X 2 (ma 22) 105 (savF 0 pv sa), Wa X 2 (ma 10) 20 hz, Wa X 2 (ma 14) 6 s1, Wa X 2 (ma 15) 6 s2, Wa X 2 (ma 16) 6 s3, Wa X 2 (ma 33) 20 (catZ hz kh i), Wa X 2 (ma 34) 6 k1, Wa X 2 (ma 35) 6 k2, Wa X 2 (ma 36) 6 k3]) H → va_D A (zb [WMo o ma (updZ (updZ (updZ (updZ mi 29 1) 30 (mi 0)) 31 (mi 11)) 32 (mi 13)) ml, WMp X ma pv, Wa X 2 (ma 22) 105 (savF 0 pv sa), Wa X 2 (ma 10) 20 hz, Wa X 2 (ma 14) 6 s1, Wa X 2 (ma 15) 6 s2, Wa X 2 (ma 16) 6 s3, Wa X 2 (ma 33) 20 (catZ hz kh i), Wa X 2 (ma 34) 6 k1, Wa X 2 (ma 35) 6 k2, Wa X 2 (ma 36) 6 k3]) → va_S A s.heap H locs → lv_has ls 2 [(0, .ref o), (1, .int (iI (↑i)))] → W p l e { frames := 1, cells := 0, slots := 0, locals := 23 } s m ([.ref o] : List Value).toArray below meth c H locs 0 0 Q (F0 m 46 ls []) := by
      intro fu
      induction fu with
      | zero => intro i hi hm; exact absurd hm (Nat.not_lt_zero _)
      | succ fu ih46 =>
        intro i hi hm H locs ls hP hD hS hl
        refine lv_iload_n hx hb dX12_image_46 rfl (lv_at hl 1 rfl) ?_
        refine lv_bipush (v := iI 20) hx hb dX12_image_47 (by decide) ?_
        refine z_icmp_ge (tgt := 70) hx hb (by omega) dX12_image_49 (by decide) (fun c_2 => ?_) (fun c_2 => ?_)
        · skip
          refine lv_iconst (v := iI 0) hx hb dX12_image_70 (by decide) ?_
          refine lv_istore_n (lv' := [(1, .int (iI 0)), (0, .ref o)]) hx hb dX12_image_71 rfl hl (by decide) rfl (fun ls hl => ?_)
          have L72 : ∀ (fu : Nat) (j : Nat), (j ≤ 6) → (6 - j) < fu → ∀ (H : Heap) (locs : List Loc) (ls : Array Slot), va_P X.1 vwCl (zb [WMo o ma (updZ (updZ (updZ (updZ mi 29 1) 30 (mi 0)) 31 (mi 11)) 32 (mi 13)) ml, WMp X ma pv, Wa X 2 (ma 22) 105 (savF 0 pv sa), Wa X 2 (ma 10) 20 hz, Wa X 2 (ma 14) 6 s1, Wa X 2 (ma 15) 6 s2, Wa X 2 (ma 16) 6 s3, Wa X 2 (ma 33) 20 (catZ hz kh 20), Wa X 2 (ma 34) 6 (catZ s1 k1 j), Wa X 2 (ma 35) 6 (catZ s2 k2 j), Wa X 2 (ma 36) 6 (catZ s3 k3 j)]) H → va_D A (zb [WMo o ma (updZ (updZ (updZ (updZ mi 29 1) 30 (mi 0)) 31 (mi 11)) 32 (mi 13)) ml, WMp X ma pv, Wa X 2 (ma 22) 105 (savF 0 pv sa), Wa X 2 (ma 10) 20 hz, Wa X 2 (ma 14) 6 s1, Wa X 2 (ma 15) 6 s2, Wa X 2 (ma 16) 6 s3, Wa X 2 (ma 33) 20 (catZ hz kh 20), Wa X 2 (ma 34) 6 (catZ s1 k1 j), Wa X 2 (ma 35) 6 (catZ s2 k2 j), Wa X 2 (ma 36) 6 (catZ s3 k3 j)]) → va_S A s.heap H locs → lv_has ls 2 [(0, .ref o), (1, .int (iI (↑j)))] → W p l e { frames := 1, cells := 0, slots := 0, locals := 23 } s m ([.ref o] : List Value).toArray below meth c H locs 0 0 Q (F0 m 72 ls []) := by
            intro fu
            induction fu with
            | zero => intro j hj hm; exact absurd hm (Nat.not_lt_zero _)
            | succ fu ih72 =>
              intro j hj hm H locs ls hP hD hS hl
              refine lv_iload_n hx hb dX12_image_72 rfl (lv_at hl 1 rfl) ?_
              refine lv_bipush (v := iI 6) hx hb dX12_image_73 (by decide) ?_
              refine z_icmp_ge (tgt := 120) hx hb (by omega) dX12_image_75 (by decide) (fun c_3 => ?_) (fun c_3 => ?_)
              · skip
                refine lv_aload_n hx hb dX12_image_120 rfl (lv_at hl 0 rfl) ?_
                refine va_get (ci := 12) (v := .int (iI (mi 11))) (C := RX12) (T := TX12) (N := 38) hx hb hts inX12 hown hK.1 hP 0 rfl rfl 11 (by decide) (hts (.fieldLink RX12 125 "SkimmedSonsModel" "hours" "I") (by decide +kernel)) (fun _ h9 => h9) rfl dX12_image_121 ?_
                have hw : zb [WMo o ma (updZ (updZ (updZ (updZ mi 29 1) 30 (mi 0)) 31 (mi 11)) 32 (mi 13)) ml, WMp X ma pv, Wa X 2 (ma 22) 105 (savF 0 pv sa), Wa X 2 (ma 10) 20 hz, Wa X 2 (ma 14) 6 s1, Wa X 2 (ma 15) 6 s2, Wa X 2 (ma 16) 6 s3, Wa X 2 (ma 33) 20 (catZ hz kh 20), Wa X 2 (ma 34) 6 (catZ s1 k1 j), Wa X 2 (ma 35) 6 (catZ s2 k2 j), Wa X 2 (ma 36) 6 (catZ s3 k3 j)] = zb [WMo o ma (updZ (updZ (updZ (updZ mi 29 1) 30 (mi 0)) 31 (mi 11)) 32 (mi 13)) ml, WMp X ma pv, Wa X 2 (ma 22) 105 (savF 0 pv sa), Wa X 2 (ma 10) 20 hz, Wa X 2 (ma 14) 6 s1, Wa X 2 (ma 15) 6 s2, Wa X 2 (ma 16) 6 s3, Wa X 2 (ma 33) 20 (catZ hz kh 20), Wa X 2 (ma 34) 6 (catZ s1 k1 6), Wa X 2 (ma 35) 6 (catZ s2 k2 6), Wa X 2 (ma 36) 6 (catZ s3 k3 6)] := by rw [show j = 6 by omega]
                rw [hw] at hP hD
                exact z_iret hQ hx hb hr hlocks hS ⟨(Nat.le_of_ble_eq_true rfl), (Nat.le_of_ble_eq_true rfl)⟩ dX12_image_124 () rfl trivial hP hD
              · skip
                refine lv_aload_n hx hb dX12_image_78 rfl (lv_at hl 0 rfl) ?_
                refine va_get (ci := 12) (v := .ref (ma 34)) (C := RX12) (T := TX12) (N := 38) hx hb hts inX12 hown hK.1 hP 0 rfl rfl 34 (by decide) (hts (.fieldLink RX12 68 "SkimmedSonsModel" "keptPan" "[I") (by decide +kernel)) (fun _ h9 => h9) rfl dX12_image_79 ?_
                refine lv_iload_n hx hb dX12_image_82 rfl (lv_at hl 1 rfl) ?_
                refine lv_aload_n hx hb dX12_image_83 rfl (lv_at hl 0 rfl) ?_
                refine va_get (ci := 12) (v := .ref (ma 14)) (C := RX12) (T := TX12) (N := 38) hx hb hts inX12 hown hK.1 hP 0 rfl rfl 14 (by decide) (hts (.fieldLink RX12 34 "SkimmedSonsModel" "seenPan" "[I") (by decide +kernel)) (fun _ h9 => h9) rfl dX12_image_84 ?_
                refine lv_iload_n hx hb dX12_image_87 rfl (lv_at hl 1 rfl) ?_
                refine z_iald hx hb hK.1 hP 9 rfl (by omega) dX12_image_88 ?_
                refine W.eq (g2 := F0 m 89 ls [.int (iI (s1 j)), .int (iI (↑j)), .ref (ma 34)]) rfl ?_
                refine z_iast hx hb hK.1 hP hD hS 13 rfl (by omega) dX12_image_89 (fun H locs hP hD hS => ?_)
                have hP : va_P X.1 vwCl (zb [WMo o ma (updZ (updZ (updZ (updZ mi 29 1) 30 (mi 0)) 31 (mi 11)) 32 (mi 13)) ml, WMp X ma pv, Wa X 2 (ma 22) 105 (savF 0 pv sa), Wa X 2 (ma 10) 20 hz, Wa X 2 (ma 14) 6 s1, Wa X 2 (ma 15) 6 s2, Wa X 2 (ma 16) 6 s3, Wa X 2 (ma 33) 20 (catZ hz kh 20), Wa X 2 (ma 34) 6 (updZ (catZ s1 k1 j) j (s1 j)), Wa X 2 (ma 35) 6 (catZ s2 k2 j), Wa X 2 (ma 36) 6 (catZ s3 k3 j)]) H := hP
                have hD : va_D A (zb [WMo o ma (updZ (updZ (updZ (updZ mi 29 1) 30 (mi 0)) 31 (mi 11)) 32 (mi 13)) ml, WMp X ma pv, Wa X 2 (ma 22) 105 (savF 0 pv sa), Wa X 2 (ma 10) 20 hz, Wa X 2 (ma 14) 6 s1, Wa X 2 (ma 15) 6 s2, Wa X 2 (ma 16) 6 s3, Wa X 2 (ma 33) 20 (catZ hz kh 20), Wa X 2 (ma 34) 6 (updZ (catZ s1 k1 j) j (s1 j)), Wa X 2 (ma 35) 6 (catZ s2 k2 j), Wa X 2 (ma 36) 6 (catZ s3 k3 j)]) := hD
                refine lv_aload_n hx hb dX12_image_90 rfl (lv_at hl 0 rfl) ?_
                refine va_get (ci := 12) (v := .ref (ma 35)) (C := RX12) (T := TX12) (N := 38) hx hb hts inX12 hown hK.1 hP 0 rfl rfl 35 (by decide) (hts (.fieldLink RX12 71 "SkimmedSonsModel" "keptSeenHours" "[I") (by decide +kernel)) (fun _ h9 => h9) rfl dX12_image_91 ?_
                refine lv_iload_n hx hb dX12_image_94 rfl (lv_at hl 1 rfl) ?_
                refine lv_aload_n hx hb dX12_image_95 rfl (lv_at hl 0 rfl) ?_
                refine va_get (ci := 12) (v := .ref (ma 15)) (C := RX12) (T := TX12) (N := 38) hx hb hts inX12 hown hK.1 hP 0 rfl rfl 15 (by decide) (hts (.fieldLink RX12 37 "SkimmedSonsModel" "seenHours" "[I") (by decide +kernel)) (fun _ h9 => h9) rfl dX12_image_96 ?_
                refine lv_iload_n hx hb dX12_image_99 rfl (lv_at hl 1 rfl) ?_
                refine z_iald hx hb hK.1 hP 10 rfl (by omega) dX12_image_100 ?_
                refine W.eq (g2 := F0 m 101 ls [.int (iI (s2 j)), .int (iI (↑j)), .ref (ma 35)]) rfl ?_
                refine z_iast hx hb hK.1 hP hD hS 14 rfl (by omega) dX12_image_101 (fun H locs hP hD hS => ?_)
                have hP : va_P X.1 vwCl (zb [WMo o ma (updZ (updZ (updZ (updZ mi 29 1) 30 (mi 0)) 31 (mi 11)) 32 (mi 13)) ml, WMp X ma pv, Wa X 2 (ma 22) 105 (savF 0 pv sa), Wa X 2 (ma 10) 20 hz, Wa X 2 (ma 14) 6 s1, Wa X 2 (ma 15) 6 s2, Wa X 2 (ma 16) 6 s3, Wa X 2 (ma 33) 20 (catZ hz kh 20), Wa X 2 (ma 34) 6 (updZ (catZ s1 k1 j) j (s1 j)), Wa X 2 (ma 35) 6 (updZ (catZ s2 k2 j) j (s2 j)), Wa X 2 (ma 36) 6 (catZ s3 k3 j)]) H := hP
                have hD : va_D A (zb [WMo o ma (updZ (updZ (updZ (updZ mi 29 1) 30 (mi 0)) 31 (mi 11)) 32 (mi 13)) ml, WMp X ma pv, Wa X 2 (ma 22) 105 (savF 0 pv sa), Wa X 2 (ma 10) 20 hz, Wa X 2 (ma 14) 6 s1, Wa X 2 (ma 15) 6 s2, Wa X 2 (ma 16) 6 s3, Wa X 2 (ma 33) 20 (catZ hz kh 20), Wa X 2 (ma 34) 6 (updZ (catZ s1 k1 j) j (s1 j)), Wa X 2 (ma 35) 6 (updZ (catZ s2 k2 j) j (s2 j)), Wa X 2 (ma 36) 6 (catZ s3 k3 j)]) := hD
                refine lv_aload_n hx hb dX12_image_102 rfl (lv_at hl 0 rfl) ?_
                refine va_get (ci := 12) (v := .ref (ma 36)) (C := RX12) (T := TX12) (N := 38) hx hb hts inX12 hown hK.1 hP 0 rfl rfl 36 (by decide) (hts (.fieldLink RX12 74 "SkimmedSonsModel" "keptMuch" "[I") (by decide +kernel)) (fun _ h9 => h9) rfl dX12_image_103 ?_
                refine lv_iload_n hx hb dX12_image_106 rfl (lv_at hl 1 rfl) ?_
                refine lv_aload_n hx hb dX12_image_107 rfl (lv_at hl 0 rfl) ?_
                refine va_get (ci := 12) (v := .ref (ma 16)) (C := RX12) (T := TX12) (N := 38) hx hb hts inX12 hown hK.1 hP 0 rfl rfl 16 (by decide) (hts (.fieldLink RX12 40 "SkimmedSonsModel" "seenMuch" "[I") (by decide +kernel)) (fun _ h9 => h9) rfl dX12_image_108 ?_
                refine lv_iload_n hx hb dX12_image_111 rfl (lv_at hl 1 rfl) ?_
                refine z_iald hx hb hK.1 hP 11 rfl (by omega) dX12_image_112 ?_
                refine W.eq (g2 := F0 m 113 ls [.int (iI (s3 j)), .int (iI (↑j)), .ref (ma 36)]) rfl ?_
                refine z_iast hx hb hK.1 hP hD hS 15 rfl (by omega) dX12_image_113 (fun H locs hP hD hS => ?_)
                have hP : va_P X.1 vwCl (zb [WMo o ma (updZ (updZ (updZ (updZ mi 29 1) 30 (mi 0)) 31 (mi 11)) 32 (mi 13)) ml, WMp X ma pv, Wa X 2 (ma 22) 105 (savF 0 pv sa), Wa X 2 (ma 10) 20 hz, Wa X 2 (ma 14) 6 s1, Wa X 2 (ma 15) 6 s2, Wa X 2 (ma 16) 6 s3, Wa X 2 (ma 33) 20 (catZ hz kh 20), Wa X 2 (ma 34) 6 (updZ (catZ s1 k1 j) j (s1 j)), Wa X 2 (ma 35) 6 (updZ (catZ s2 k2 j) j (s2 j)), Wa X 2 (ma 36) 6 (updZ (catZ s3 k3 j) j (s3 j))]) H := hP
                have hD : va_D A (zb [WMo o ma (updZ (updZ (updZ (updZ mi 29 1) 30 (mi 0)) 31 (mi 11)) 32 (mi 13)) ml, WMp X ma pv, Wa X 2 (ma 22) 105 (savF 0 pv sa), Wa X 2 (ma 10) 20 hz, Wa X 2 (ma 14) 6 s1, Wa X 2 (ma 15) 6 s2, Wa X 2 (ma 16) 6 s3, Wa X 2 (ma 33) 20 (catZ hz kh 20), Wa X 2 (ma 34) 6 (updZ (catZ s1 k1 j) j (s1 j)), Wa X 2 (ma 35) 6 (updZ (catZ s2 k2 j) j (s2 j)), Wa X 2 (ma 36) 6 (updZ (catZ s3 k3 j) j (s3 j))]) := hD
                refine z_iinc (k := 1) (lv' := [(1, .int (iI ((↑j) + 1))), (0, .ref o)]) hx hb dX12_image_114 hl rfl (by decide) rfl (fun ls hl => ?_)
                refine lv_goto (tgt := 72) hx hb dX12_image_117 (by decide) ?_
                have hw_4 : zb [WMo o ma (updZ (updZ (updZ (updZ mi 29 1) 30 (mi 0)) 31 (mi 11)) 32 (mi 13)) ml, WMp X ma pv, Wa X 2 (ma 22) 105 (savF 0 pv sa), Wa X 2 (ma 10) 20 hz, Wa X 2 (ma 14) 6 s1, Wa X 2 (ma 15) 6 s2, Wa X 2 (ma 16) 6 s3, Wa X 2 (ma 33) 20 (catZ hz kh 20), Wa X 2 (ma 34) 6 (updZ (catZ s1 k1 j) j (s1 j)), Wa X 2 (ma 35) 6 (updZ (catZ s2 k2 j) j (s2 j)), Wa X 2 (ma 36) 6 (updZ (catZ s3 k3 j) j (s3 j))] = zb [WMo o ma (updZ (updZ (updZ (updZ mi 29 1) 30 (mi 0)) 31 (mi 11)) 32 (mi 13)) ml, WMp X ma pv, Wa X 2 (ma 22) 105 (savF 0 pv sa), Wa X 2 (ma 10) 20 hz, Wa X 2 (ma 14) 6 s1, Wa X 2 (ma 15) 6 s2, Wa X 2 (ma 16) 6 s3, Wa X 2 (ma 33) 20 (catZ hz kh 20), Wa X 2 (ma 34) 6 (catZ s1 k1 (j + 1)), Wa X 2 (ma 35) 6 (catZ s2 k2 (j + 1)), Wa X 2 (ma 36) 6 (catZ s3 k3 (j + 1))] := by rw [catZ_step s1 k1 j, catZ_step s2 k2 j, catZ_step s3 k3 j]
                rw [hw_4] at hP hD
                exact ih72  (j + 1) (by omega) (by omega) _ _ _ hP hD hS (lv_sub hl [1, 0] rfl)
          have hw_5 : zb [WMo o ma (updZ (updZ (updZ (updZ mi 29 1) 30 (mi 0)) 31 (mi 11)) 32 (mi 13)) ml, WMp X ma pv, Wa X 2 (ma 22) 105 (savF 0 pv sa), Wa X 2 (ma 10) 20 hz, Wa X 2 (ma 14) 6 s1, Wa X 2 (ma 15) 6 s2, Wa X 2 (ma 16) 6 s3, Wa X 2 (ma 33) 20 (catZ hz kh i), Wa X 2 (ma 34) 6 k1, Wa X 2 (ma 35) 6 k2, Wa X 2 (ma 36) 6 k3] = zb [WMo o ma (updZ (updZ (updZ (updZ mi 29 1) 30 (mi 0)) 31 (mi 11)) 32 (mi 13)) ml, WMp X ma pv, Wa X 2 (ma 22) 105 (savF 0 pv sa), Wa X 2 (ma 10) 20 hz, Wa X 2 (ma 14) 6 s1, Wa X 2 (ma 15) 6 s2, Wa X 2 (ma 16) 6 s3, Wa X 2 (ma 33) 20 (catZ hz kh 20), Wa X 2 (ma 34) 6 (catZ s1 k1 0), Wa X 2 (ma 35) 6 (catZ s2 k2 0), Wa X 2 (ma 36) 6 (catZ s3 k3 0)] := by rw [catZ_0, catZ_0, catZ_0, show i = 20 by omega]
          rw [hw_5] at hP hD
          exact L72 ((6 - 0) + 1) 0 (by omega) (by omega) _ _ _ hP hD hS (lv_sub hl [1, 0] rfl)
        · skip
          refine lv_aload_n hx hb dX12_image_52 rfl (lv_at hl 0 rfl) ?_
          refine va_get (ci := 12) (v := .ref (ma 33)) (C := RX12) (T := TX12) (N := 38) hx hb hts inX12 hown hK.1 hP 0 rfl rfl 33 (by decide) (hts (.fieldLink RX12 65 "SkimmedSonsModel" "keptHad" "[I") (by decide +kernel)) (fun _ h9 => h9) rfl dX12_image_53 ?_
          refine lv_iload_n hx hb dX12_image_56 rfl (lv_at hl 1 rfl) ?_
          refine lv_aload_n hx hb dX12_image_57 rfl (lv_at hl 0 rfl) ?_
          refine va_get (ci := 12) (v := .ref (ma 10)) (C := RX12) (T := TX12) (N := 38) hx hb hts inX12 hown hK.1 hP 0 rfl rfl 10 (by decide) (hts (.fieldLink RX12 31 "SkimmedSonsModel" "hadOf" "[I") (by decide +kernel)) (fun _ h9 => h9) rfl dX12_image_58 ?_
          refine lv_iload_n hx hb dX12_image_61 rfl (lv_at hl 1 rfl) ?_
          refine z_iald hx hb hK.1 hP 8 rfl (by omega) dX12_image_62 ?_
          refine W.eq (g2 := F0 m 63 ls [.int (iI (hz i)), .int (iI (↑i)), .ref (ma 33)]) rfl ?_
          refine z_iast hx hb hK.1 hP hD hS 12 rfl (by omega) dX12_image_63 (fun H locs hP hD hS => ?_)
          have hP : va_P X.1 vwCl (zb [WMo o ma (updZ (updZ (updZ (updZ mi 29 1) 30 (mi 0)) 31 (mi 11)) 32 (mi 13)) ml, WMp X ma pv, Wa X 2 (ma 22) 105 (savF 0 pv sa), Wa X 2 (ma 10) 20 hz, Wa X 2 (ma 14) 6 s1, Wa X 2 (ma 15) 6 s2, Wa X 2 (ma 16) 6 s3, Wa X 2 (ma 33) 20 (updZ (catZ hz kh i) i (hz i)), Wa X 2 (ma 34) 6 k1, Wa X 2 (ma 35) 6 k2, Wa X 2 (ma 36) 6 k3]) H := hP
          have hD : va_D A (zb [WMo o ma (updZ (updZ (updZ (updZ mi 29 1) 30 (mi 0)) 31 (mi 11)) 32 (mi 13)) ml, WMp X ma pv, Wa X 2 (ma 22) 105 (savF 0 pv sa), Wa X 2 (ma 10) 20 hz, Wa X 2 (ma 14) 6 s1, Wa X 2 (ma 15) 6 s2, Wa X 2 (ma 16) 6 s3, Wa X 2 (ma 33) 20 (updZ (catZ hz kh i) i (hz i)), Wa X 2 (ma 34) 6 k1, Wa X 2 (ma 35) 6 k2, Wa X 2 (ma 36) 6 k3]) := hD
          refine z_iinc (k := 1) (lv' := [(1, .int (iI ((↑i) + 1))), (0, .ref o)]) hx hb dX12_image_64 hl rfl (by decide) rfl (fun ls hl => ?_)
          refine lv_goto (tgt := 46) hx hb dX12_image_67 (by decide) ?_
          have hw_6 : zb [WMo o ma (updZ (updZ (updZ (updZ mi 29 1) 30 (mi 0)) 31 (mi 11)) 32 (mi 13)) ml, WMp X ma pv, Wa X 2 (ma 22) 105 (savF 0 pv sa), Wa X 2 (ma 10) 20 hz, Wa X 2 (ma 14) 6 s1, Wa X 2 (ma 15) 6 s2, Wa X 2 (ma 16) 6 s3, Wa X 2 (ma 33) 20 (updZ (catZ hz kh i) i (hz i)), Wa X 2 (ma 34) 6 k1, Wa X 2 (ma 35) 6 k2, Wa X 2 (ma 36) 6 k3] = zb [WMo o ma (updZ (updZ (updZ (updZ mi 29 1) 30 (mi 0)) 31 (mi 11)) 32 (mi 13)) ml, WMp X ma pv, Wa X 2 (ma 22) 105 (savF 0 pv sa), Wa X 2 (ma 10) 20 hz, Wa X 2 (ma 14) 6 s1, Wa X 2 (ma 15) 6 s2, Wa X 2 (ma 16) 6 s3, Wa X 2 (ma 33) 20 (catZ hz kh (i + 1)), Wa X 2 (ma 34) 6 k1, Wa X 2 (ma 35) 6 k2, Wa X 2 (ma 36) 6 k3] := by first | (rw [← catZ_step]; done) | (subst_vars; rw [← catZ_step]; done)
          rw [hw_6] at hP hD
          exact ih46  (i + 1) (by omega) (by omega) _ _ _ hP hD hS (lv_sub hl [1, 0] rfl)
    have hw_7 : zb [WMo o ma (updZ (updZ (updZ (updZ mi 29 1) 30 (mi 0)) 31 (mi 11)) 32 (mi 13)) ml, WMp X ma pv, Wa X 2 (ma 22) 105 (savF 0 pv sa), Wa X 2 (ma 10) 20 hz, Wa X 2 (ma 14) 6 s1, Wa X 2 (ma 15) 6 s2, Wa X 2 (ma 16) 6 s3, Wa X 2 (ma 33) 20 kh, Wa X 2 (ma 34) 6 k1, Wa X 2 (ma 35) 6 k2, Wa X 2 (ma 36) 6 k3] = zb [WMo o ma (updZ (updZ (updZ (updZ mi 29 1) 30 (mi 0)) 31 (mi 11)) 32 (mi 13)) ml, WMp X ma pv, Wa X 2 (ma 22) 105 (savF 0 pv sa), Wa X 2 (ma 10) 20 hz, Wa X 2 (ma 14) 6 s1, Wa X 2 (ma 15) 6 s2, Wa X 2 (ma 16) 6 s3, Wa X 2 (ma 33) 20 (catZ hz kh 0), Wa X 2 (ma 34) 6 k1, Wa X 2 (ma 35) 6 k2, Wa X 2 (ma 36) 6 k3] := by rw [catZ_0]
    rw [hw_7] at hP hD
    exact L46 ((20 - 0) + 1) 0 (by omega) (by omega) _ _ _ hP hD hS (lv_sub hl [1, 0] rfl)
  · skip
    exact absurd c_1 (by omega)
set_option maxHeartbeats 1000000 in
set_option maxRecDepth 100000 in
theorem c_X12_restore_n (l : Launch) (X : zX) (o : Nat) (ma : Nat → Nat) (mi : Nat → Int) (ml : Nat → Int) (hk0 : mi 29 = 0 ∨ ¬ mi 30 = mi 0) (hkr : (0 ≤ mi 29 ∧ mi 29 ≤ 1) ∧ (0 ≤ mi 30 ∧ mi 30 ≤ 1000) ∧ (0 ≤ mi 0 ∧ mi 0 ≤ 1000)) : zF l X yX12_restore wsX12_restore 1 23 [.ref o] (zb [WMo o ma mi ml]) (some (.int (iI (-103)))) (zb [WMo o ma mi ml]) := by
  refine z_enter (cc := cX12_restore) (maxL := 2) (ret := (some .int)) (by decide) rfl (Nat.le_of_ble_eq_true rfl) ?_
  intro p e s m below meth c A ls Q hQ hE hl hP hD
  obtain ⟨hx, hb, hr, hml, hown, hts, hlocks, hnm, hA, hK⟩ := hE
  have hown : s.vm.findClass RX12 = some m.cls := hown
  have hS : va_S A s.heap s.heap [] := va_S.rf
  have hl : lv_has ls 2 [(0, .ref o)] := hl
  have inX12 : ∀ w ∈ u_ws RX12 TX12 38, w ∈ wsX12_restore := by decide +kernel
  refine lv_aload_n hx hb dX12_restore_0 rfl (lv_at hl 0 rfl) ?_
  refine va_get (ci := 12) (v := .int (iI (mi 29))) (C := RX12) (T := TX12) (N := 38) hx hb hts inX12 hown hK.1 hP 0 rfl rfl 29 (by decide) (hts (.fieldLink RX12 266 "SkimmedSonsModel" "isKept" "Z") (by decide +kernel)) (fun _ h9 => h9) rfl dX12_restore_1 ?_
  refine z_if_eq (tgt := 18) hx hb (by omega) dX12_restore_4 (by decide) (fun c_1 => ?_) (fun c_1 => ?_)
  · skip
    refine lv_bipush (v := iI (-103)) hx hb dX12_restore_18 (by decide) ?_
    exact z_iret hQ hx hb hr hlocks hS ⟨(Nat.le_of_ble_eq_true rfl), (Nat.le_of_ble_eq_true rfl)⟩ dX12_restore_20 () (congrArg (fun z => some (Value.int (iI z))) (show (-103 : Int) = (-103) by omega)) trivial hP hD
  · skip
    refine lv_aload_n hx hb dX12_restore_7 rfl (lv_at hl 0 rfl) ?_
    refine va_get (ci := 12) (v := .int (iI (mi 30))) (C := RX12) (T := TX12) (N := 38) hx hb hts inX12 hown hK.1 hP 0 rfl rfl 30 (by decide) (hts (.fieldLink RX12 269 "SkimmedSonsModel" "keptDairy" "I") (by decide +kernel)) (fun _ h9 => h9) rfl dX12_restore_8 ?_
    refine lv_aload_n hx hb dX12_restore_11 rfl (lv_at hl 0 rfl) ?_
    refine va_get (ci := 12) (v := .int (iI (mi 0))) (C := RX12) (T := TX12) (N := 38) hx hb hts inX12 hown hK.1 hP 0 rfl rfl 0 (by decide) (hts (.fieldLink RX12 128 "SkimmedSonsModel" "dairies" "I") (by decide +kernel)) (fun _ h9 => h9) rfl dX12_restore_12 ?_
    refine z_icmp_eq (tgt := 21) hx hb (by omega) dX12_restore_15 (by decide) (fun c_2 => ?_) (fun c_2 => ?_)
    · skip
      exact absurd c_2 (by omega)
    · skip
      refine lv_bipush (v := iI (-103)) hx hb dX12_restore_18 (by decide) ?_
      exact z_iret hQ hx hb hr hlocks hS ⟨(Nat.le_of_ble_eq_true rfl), (Nat.le_of_ble_eq_true rfl)⟩ dX12_restore_20 () (congrArg (fun z => some (Value.int (iI z))) (show (-103 : Int) = (-103) by omega)) trivial hP hD
set_option maxHeartbeats 1000000 in
set_option maxRecDepth 100000 in
theorem c_X12_restore_s (l : Launch) (X : zX) (o : Nat) (ma : Nat → Nat) (mi : Nat → Int) (ml : Nat → Int) (pv : Nat → Nat → Int) (sa : Nat → Int) (hz : Nat → Int) (s1 : Nat → Int) (s2 : Nat → Int) (s3 : Nat → Int) (kh : Nat → Int) (k1 : Nat → Int) (k2 : Nat → Int) (k3 : Nat → Int) (pv0 : Nat → Nat → Int) (hk1 : mi 29 = 1 ∧ mi 30 = mi 0) (hkr : (0 ≤ mi 30 ∧ mi 30 ≤ 1000) ∧ (0 ≤ mi 0 ∧ mi 0 ≤ 1000)) (hld : LdOk 0 sa pv pv0) : zF l X yX12_restore wsX12_restore 1 23 [.ref o] (zb [WMo o ma mi ml, WMp X ma pv, Wa X 2 (ma 22) 105 sa, Wa X 2 (ma 10) 20 hz, Wa X 2 (ma 14) 6 s1, Wa X 2 (ma 15) 6 s2, Wa X 2 (ma 16) 6 s3, Wa X 2 (ma 33) 20 kh, Wa X 2 (ma 34) 6 k1, Wa X 2 (ma 35) 6 k2, Wa X 2 (ma 36) 6 k3]) (some (.int (iI (mi 31)))) (zb [WMo o ma (updZ (updZ mi 11 (mi 31)) 13 (mi 32)) ml, WMp X ma pv0, Wa X 2 (ma 22) 105 sa, Wa X 2 (ma 10) 20 (catZ kh hz 20), Wa X 2 (ma 14) 6 (catZ k1 s1 6), Wa X 2 (ma 15) 6 (catZ k2 s2 6), Wa X 2 (ma 16) 6 (catZ k3 s3 6), Wa X 2 (ma 33) 20 kh, Wa X 2 (ma 34) 6 k1, Wa X 2 (ma 35) 6 k2, Wa X 2 (ma 36) 6 k3]) := by
  refine z_enter (cc := cX12_restore) (maxL := 2) (ret := (some .int)) (by decide) rfl (Nat.le_of_ble_eq_true rfl) ?_
  intro p e s m below meth c A ls Q hQ hE hl hP hD
  obtain ⟨hx, hb, hr, hml, hown, hts, hlocks, hnm, hA, hK⟩ := hE
  have hown : s.vm.findClass RX12 = some m.cls := hown
  have hS : va_S A s.heap s.heap [] := va_S.rf
  have hl : lv_has ls 2 [(0, .ref o)] := hl
  have inX12 : ∀ w ∈ u_ws RX12 TX12 38, w ∈ wsX12_restore := by decide +kernel
  refine lv_aload_n hx hb dX12_restore_0 rfl (lv_at hl 0 rfl) ?_
  refine va_get (ci := 12) (v := .int (iI (mi 29))) (C := RX12) (T := TX12) (N := 38) hx hb hts inX12 hown hK.1 hP 0 rfl rfl 29 (by decide) (hts (.fieldLink RX12 266 "SkimmedSonsModel" "isKept" "Z") (by decide +kernel)) (fun _ h9 => h9) rfl dX12_restore_1 ?_
  refine z_if_eq (tgt := 18) hx hb (by omega) dX12_restore_4 (by decide) (fun c_1 => ?_) (fun c_1 => ?_)
  · skip
    exact absurd c_1 (by omega)
  · skip
    refine lv_aload_n hx hb dX12_restore_7 rfl (lv_at hl 0 rfl) ?_
    refine va_get (ci := 12) (v := .int (iI (mi 30))) (C := RX12) (T := TX12) (N := 38) hx hb hts inX12 hown hK.1 hP 0 rfl rfl 30 (by decide) (hts (.fieldLink RX12 269 "SkimmedSonsModel" "keptDairy" "I") (by decide +kernel)) (fun _ h9 => h9) rfl dX12_restore_8 ?_
    refine lv_aload_n hx hb dX12_restore_11 rfl (lv_at hl 0 rfl) ?_
    refine va_get (ci := 12) (v := .int (iI (mi 0))) (C := RX12) (T := TX12) (N := 38) hx hb hts inX12 hown hK.1 hP 0 rfl rfl 0 (by decide) (hts (.fieldLink RX12 128 "SkimmedSonsModel" "dairies" "I") (by decide +kernel)) (fun _ h9 => h9) rfl dX12_restore_12 ?_
    refine z_icmp_eq (tgt := 21) hx hb (by omega) dX12_restore_15 (by decide) (fun c_2 => ?_) (fun c_2 => ?_)
    · skip
      refine lv_aload_n hx hb dX12_restore_21 rfl (lv_at hl 0 rfl) ?_
      refine lv_aload_n hx hb dX12_restore_22 rfl (lv_at hl 0 rfl) ?_
      refine va_get (ci := 12) (v := .int (iI (mi 31))) (C := RX12) (T := TX12) (N := 38) hx hb hts inX12 hown hK.1 hP 0 rfl rfl 31 (by decide) (hts (.fieldLink RX12 272 "SkimmedSonsModel" "keptHours" "I") (by decide +kernel)) (fun _ h9 => h9) rfl dX12_restore_23 ?_
      refine va_put (ci := 12) (v := .int (iI (mi 31))) (ty := .int) (C := RX12) (T := TX12) (N := 38) hx hb hts inX12 tyX12 tyX12_ok nmX12 hown hK.1 hP hD hS 0 rfl rfl 11 (by decide) (hts (.fieldLink RX12 125 "SkimmedSonsModel" "hours" "I") (by decide +kernel)) (fun _ h9 => h9) rfl (by decide +kernel) rfl rfl (Nat.le_of_ble_eq_true rfl) dX12_restore_26 (fun H locs hP hD hS => ?_)
      have hP : va_P X.1 vwCl (zb [WMo o ma (updZ mi 11 (mi 31)) ml, WMp X ma pv, Wa X 2 (ma 22) 105 sa, Wa X 2 (ma 10) 20 hz, Wa X 2 (ma 14) 6 s1, Wa X 2 (ma 15) 6 s2, Wa X 2 (ma 16) 6 s3, Wa X 2 (ma 33) 20 kh, Wa X 2 (ma 34) 6 k1, Wa X 2 (ma 35) 6 k2, Wa X 2 (ma 36) 6 k3]) H := hP
      have hD : va_D A (zb [WMo o ma (updZ mi 11 (mi 31)) ml, WMp X ma pv, Wa X 2 (ma 22) 105 sa, Wa X 2 (ma 10) 20 hz, Wa X 2 (ma 14) 6 s1, Wa X 2 (ma 15) 6 s2, Wa X 2 (ma 16) 6 s3, Wa X 2 (ma 33) 20 kh, Wa X 2 (ma 34) 6 k1, Wa X 2 (ma 35) 6 k2, Wa X 2 (ma 36) 6 k3]) := hD
      refine lv_aload_n hx hb dX12_restore_29 rfl (lv_at hl 0 rfl) ?_
      refine lv_aload_n hx hb dX12_restore_30 rfl (lv_at hl 0 rfl) ?_
      refine va_get (ci := 12) (v := .int (iI (mi 32))) (C := RX12) (T := TX12) (N := 38) hx hb hts inX12 hown hK.1 hP 0 rfl rfl 32 (by decide) (hts (.fieldLink RX12 275 "SkimmedSonsModel" "keptSeen" "I") (by decide +kernel)) (fun _ h9 => h9) rfl dX12_restore_31 ?_
      refine va_put (ci := 12) (v := .int (iI (mi 32))) (ty := .int) (C := RX12) (T := TX12) (N := 38) hx hb hts inX12 tyX12 tyX12_ok nmX12 hown hK.1 hP hD hS 0 rfl rfl 13 (by decide) (hts (.fieldLink RX12 131 "SkimmedSonsModel" "seen" "I") (by decide +kernel)) (fun _ h9 => h9) rfl (by decide +kernel) rfl rfl (Nat.le_of_ble_eq_true rfl) dX12_restore_34 (fun H locs hP hD hS => ?_)
      have hP : va_P X.1 vwCl (zb [WMo o ma (updZ (updZ mi 11 (mi 31)) 13 (mi 32)) ml, WMp X ma pv, Wa X 2 (ma 22) 105 sa, Wa X 2 (ma 10) 20 hz, Wa X 2 (ma 14) 6 s1, Wa X 2 (ma 15) 6 s2, Wa X 2 (ma 16) 6 s3, Wa X 2 (ma 33) 20 kh, Wa X 2 (ma 34) 6 k1, Wa X 2 (ma 35) 6 k2, Wa X 2 (ma 36) 6 k3]) H := hP
      have hD : va_D A (zb [WMo o ma (updZ (updZ mi 11 (mi 31)) 13 (mi 32)) ml, WMp X ma pv, Wa X 2 (ma 22) 105 sa, Wa X 2 (ma 10) 20 hz, Wa X 2 (ma 14) 6 s1, Wa X 2 (ma 15) 6 s2, Wa X 2 (ma 16) 6 s3, Wa X 2 (ma 33) 20 kh, Wa X 2 (ma 34) 6 k1, Wa X 2 (ma 35) 6 k2, Wa X 2 (ma 36) 6 k3]) := hD
      refine lv_aload_n hx hb dX12_restore_37 rfl (lv_at hl 0 rfl) ?_
      refine lv_iconst (v := iI 0) hx hb dX12_restore_38 (by decide) ?_
      have hPm := zp_perm hP (zblk (show List.Perm ([WMo o ma (updZ (updZ mi 11 (mi 31)) 13 (mi 32)) ml, WMp X ma pv, Wa X 2 (ma 22) 105 sa, Wa X 2 (ma 10) 20 hz, Wa X 2 (ma 14) 6 s1, Wa X 2 (ma 15) 6 s2, Wa X 2 (ma 16) 6 s3, Wa X 2 (ma 33) 20 kh, Wa X 2 (ma 34) 6 k1, Wa X 2 (ma 35) 6 k2, Wa X 2 (ma 36) 6 k3] : List va_W) ([WMo o ma (updZ (updZ mi 11 (mi 31)) 13 (mi 32)) ml, WMp X ma pv, Wa X 2 (ma 22) 105 sa] ++ [Wa X 2 (ma 10) 20 hz, Wa X 2 (ma 14) 6 s1, Wa X 2 (ma 15) 6 s2, Wa X 2 (ma 16) 6 s3, Wa X 2 (ma 33) 20 kh, Wa X 2 (ma 34) 6 k1, Wa X 2 (ma 35) 6 k2, Wa X 2 (ma 36) 6 k3]) from (zf1 _ 0 _ rfl).trans (((zf1 _ 0 _ rfl).trans (((zf1 _ 0 _ rfl).trans ((List.Perm.refl _).cons _)).cons _)).cons _)))
      have hDm := zd_perm hD (zblk (show List.Perm ([WMo o ma (updZ (updZ mi 11 (mi 31)) 13 (mi 32)) ml, WMp X ma pv, Wa X 2 (ma 22) 105 sa, Wa X 2 (ma 10) 20 hz, Wa X 2 (ma 14) 6 s1, Wa X 2 (ma 15) 6 s2, Wa X 2 (ma 16) 6 s3, Wa X 2 (ma 33) 20 kh, Wa X 2 (ma 34) 6 k1, Wa X 2 (ma 35) 6 k2, Wa X 2 (ma 36) 6 k3] : List va_W) ([WMo o ma (updZ (updZ mi 11 (mi 31)) 13 (mi 32)) ml, WMp X ma pv, Wa X 2 (ma 22) 105 sa] ++ [Wa X 2 (ma 10) 20 hz, Wa X 2 (ma 14) 6 s1, Wa X 2 (ma 15) 6 s2, Wa X 2 (ma 16) 6 s3, Wa X 2 (ma 33) 20 kh, Wa X 2 (ma 34) 6 k1, Wa X 2 (ma 35) 6 k2, Wa X 2 (ma 36) 6 k3]) from (zf1 _ 0 _ rfl).trans (((zf1 _ 0 _ rfl).trans (((zf1 _ 0 _ rfl).trans ((List.Perm.refl _).cons _)).cons _)).cons _)))
      refine z_callV (wr := zb [Wa X 2 (ma 10) 20 hz, Wa X 2 (ma 14) 6 s1, Wa X 2 (ma 15) 6 s2, Wa X 2 (ma 16) 6 s3, Wa X 2 (ma 33) 20 kh, Wa X 2 (ma 34) 6 k1, Wa X 2 (ma 35) 6 k2, Wa X 2 (ma 36) 6 k3]) (As := [.int (iI 0)]) (rest := []) ⟨hx, hb, hml, hown, hts⟩ (c_X12_load_0 l X o ma (updZ (updZ mi 11 (mi 31)) 13 (mi 32)) ml pv sa pv0 (by exact hld)) (cwV 1 hts gX12_restore_X12_load rfl rfl rfl (by decide +kernel) ⟨Nat.le_of_ble_eq_true rfl, Nat.le_of_ble_eq_true rfl⟩) rfl rfl hl.1 dX12_restore_39 rfl rfl (Nat.le_of_ble_eq_true rfl) ⟨(Nat.le_of_ble_eq_true rfl), (Nat.le_of_ble_eq_true rfl)⟩ hS hA hK hPm hDm (fun _ H locs _ hP hD hS => ?_)
      have hP := zp_perm hP ((zblk (show List.Perm ([WMo o ma (updZ (updZ mi 11 (mi 31)) 13 (mi 32)) ml, WMp X ma pv0, Wa X 2 (ma 22) 105 sa, Wa X 2 (ma 10) 20 hz, Wa X 2 (ma 14) 6 s1, Wa X 2 (ma 15) 6 s2, Wa X 2 (ma 16) 6 s3, Wa X 2 (ma 33) 20 kh, Wa X 2 (ma 34) 6 k1, Wa X 2 (ma 35) 6 k2, Wa X 2 (ma 36) 6 k3] : List va_W) ([WMo o ma (updZ (updZ mi 11 (mi 31)) 13 (mi 32)) ml, WMp X ma pv0, Wa X 2 (ma 22) 105 sa] ++ [Wa X 2 (ma 10) 20 hz, Wa X 2 (ma 14) 6 s1, Wa X 2 (ma 15) 6 s2, Wa X 2 (ma 16) 6 s3, Wa X 2 (ma 33) 20 kh, Wa X 2 (ma 34) 6 k1, Wa X 2 (ma 35) 6 k2, Wa X 2 (ma 36) 6 k3]) from (zf1 _ 0 _ rfl).trans (((zf1 _ 0 _ rfl).trans (((zf1 _ 0 _ rfl).trans ((List.Perm.refl _).cons _)).cons _)).cons _)))).symm
      have hD := zd_perm hD ((zblk (show List.Perm ([WMo o ma (updZ (updZ mi 11 (mi 31)) 13 (mi 32)) ml, WMp X ma pv0, Wa X 2 (ma 22) 105 sa, Wa X 2 (ma 10) 20 hz, Wa X 2 (ma 14) 6 s1, Wa X 2 (ma 15) 6 s2, Wa X 2 (ma 16) 6 s3, Wa X 2 (ma 33) 20 kh, Wa X 2 (ma 34) 6 k1, Wa X 2 (ma 35) 6 k2, Wa X 2 (ma 36) 6 k3] : List va_W) ([WMo o ma (updZ (updZ mi 11 (mi 31)) 13 (mi 32)) ml, WMp X ma pv0, Wa X 2 (ma 22) 105 sa] ++ [Wa X 2 (ma 10) 20 hz, Wa X 2 (ma 14) 6 s1, Wa X 2 (ma 15) 6 s2, Wa X 2 (ma 16) 6 s3, Wa X 2 (ma 33) 20 kh, Wa X 2 (ma 34) 6 k1, Wa X 2 (ma 35) 6 k2, Wa X 2 (ma 36) 6 k3]) from (zf1 _ 0 _ rfl).trans (((zf1 _ 0 _ rfl).trans (((zf1 _ 0 _ rfl).trans ((List.Perm.refl _).cons _)).cons _)).cons _)))).symm
      have hP : va_P X.1 vwCl (zb [WMo o ma (updZ (updZ mi 11 (mi 31)) 13 (mi 32)) ml, WMp X ma pv0, Wa X 2 (ma 22) 105 sa, Wa X 2 (ma 10) 20 hz, Wa X 2 (ma 14) 6 s1, Wa X 2 (ma 15) 6 s2, Wa X 2 (ma 16) 6 s3, Wa X 2 (ma 33) 20 kh, Wa X 2 (ma 34) 6 k1, Wa X 2 (ma 35) 6 k2, Wa X 2 (ma 36) 6 k3]) H := hP
      have hD : va_D A (zb [WMo o ma (updZ (updZ mi 11 (mi 31)) 13 (mi 32)) ml, WMp X ma pv0, Wa X 2 (ma 22) 105 sa, Wa X 2 (ma 10) 20 hz, Wa X 2 (ma 14) 6 s1, Wa X 2 (ma 15) 6 s2, Wa X 2 (ma 16) 6 s3, Wa X 2 (ma 33) 20 kh, Wa X 2 (ma 34) 6 k1, Wa X 2 (ma 35) 6 k2, Wa X 2 (ma 36) 6 k3]) := hD
      refine W.eq (g2 := F0 m 42 ls []) rfl ?_
      refine lv_iconst (v := iI 0) hx hb dX12_restore_42 (by decide) ?_
      refine lv_istore_n (lv' := [(1, .int (iI 0)), (0, .ref o)]) hx hb dX12_restore_43 rfl hl (by decide) rfl (fun ls hl => ?_)
      have L44 : ∀ (fu : Nat) (i : Nat), (i ≤ 20) → (20 - i) < fu → ∀ (H : Heap) (locs : List Loc) (ls : Array Slot), va_P X.1 vwCl (zb [WMo o ma (updZ (updZ mi 11 (mi 31)) 13 (mi 32)) ml, WMp X ma pv0, Wa X 2 (ma 22) 105 sa, Wa X 2 (ma 10) 20 (catZ kh hz i), Wa X 2 (ma 14) 6 s1, Wa X 2 (ma 15) 6 s2, Wa X 2 (ma 16) 6 s3, Wa X 2 (ma 33) 20 kh, Wa X 2 (ma 34) 6 k1, Wa X 2 (ma 35) 6 k2, Wa X 2 (ma 36) 6 k3]) H → va_D A (zb [WMo o ma (updZ (updZ mi 11 (mi 31)) 13 (mi 32)) ml, WMp X ma pv0, Wa X 2 (ma 22) 105 sa, Wa X 2 (ma 10) 20 (catZ kh hz i), Wa X 2 (ma 14) 6 s1, Wa X 2 (ma 15) 6 s2, Wa X 2 (ma 16) 6 s3, Wa X 2 (ma 33) 20 kh, Wa X 2 (ma 34) 6 k1, Wa X 2 (ma 35) 6 k2, Wa X 2 (ma 36) 6 k3]) → va_S A s.heap H locs → lv_has ls 2 [(0, .ref o), (1, .int (iI (↑i)))] → W p l e { frames := 1, cells := 0, slots := 0, locals := 23 } s m ([.ref o] : List Value).toArray below meth c H locs 0 0 Q (F0 m 44 ls []) := by
        intro fu
        induction fu with
        | zero => intro i hi hm; exact absurd hm (Nat.not_lt_zero _)
        | succ fu ih44 =>
          intro i hi hm H locs ls hP hD hS hl
          refine lv_iload_n hx hb dX12_restore_44 rfl (lv_at hl 1 rfl) ?_
          refine lv_bipush (v := iI 20) hx hb dX12_restore_45 (by decide) ?_
          refine z_icmp_ge (tgt := 68) hx hb (by omega) dX12_restore_47 (by decide) (fun c_3 => ?_) (fun c_3 => ?_)
          · skip
            refine lv_iconst (v := iI 0) hx hb dX12_restore_68 (by decide) ?_
            refine lv_istore_n (lv' := [(1, .int (iI 0)), (0, .ref o)]) hx hb dX12_restore_69 rfl hl (by decide) rfl (fun ls hl => ?_)
            have L70 : ∀ (fu : Nat) (j : Nat), (j ≤ 6) → (6 - j) < fu → ∀ (H : Heap) (locs : List Loc) (ls : Array Slot), va_P X.1 vwCl (zb [WMo o ma (updZ (updZ mi 11 (mi 31)) 13 (mi 32)) ml, WMp X ma pv0, Wa X 2 (ma 22) 105 sa, Wa X 2 (ma 10) 20 (catZ kh hz 20), Wa X 2 (ma 14) 6 (catZ k1 s1 j), Wa X 2 (ma 15) 6 (catZ k2 s2 j), Wa X 2 (ma 16) 6 (catZ k3 s3 j), Wa X 2 (ma 33) 20 kh, Wa X 2 (ma 34) 6 k1, Wa X 2 (ma 35) 6 k2, Wa X 2 (ma 36) 6 k3]) H → va_D A (zb [WMo o ma (updZ (updZ mi 11 (mi 31)) 13 (mi 32)) ml, WMp X ma pv0, Wa X 2 (ma 22) 105 sa, Wa X 2 (ma 10) 20 (catZ kh hz 20), Wa X 2 (ma 14) 6 (catZ k1 s1 j), Wa X 2 (ma 15) 6 (catZ k2 s2 j), Wa X 2 (ma 16) 6 (catZ k3 s3 j), Wa X 2 (ma 33) 20 kh, Wa X 2 (ma 34) 6 k1, Wa X 2 (ma 35) 6 k2, Wa X 2 (ma 36) 6 k3]) → va_S A s.heap H locs → lv_has ls 2 [(0, .ref o), (1, .int (iI (↑j)))] → W p l e { frames := 1, cells := 0, slots := 0, locals := 23 } s m ([.ref o] : List Value).toArray below meth c H locs 0 0 Q (F0 m 70 ls []) := by
              intro fu
              induction fu with
              | zero => intro j hj hm; exact absurd hm (Nat.not_lt_zero _)
              | succ fu ih70 =>
                intro j hj hm H locs ls hP hD hS hl
                refine lv_iload_n hx hb dX12_restore_70 rfl (lv_at hl 1 rfl) ?_
                refine lv_bipush (v := iI 6) hx hb dX12_restore_71 (by decide) ?_
                refine z_icmp_ge (tgt := 118) hx hb (by omega) dX12_restore_73 (by decide) (fun c_4 => ?_) (fun c_4 => ?_)
                · skip
                  refine lv_aload_n hx hb dX12_restore_118 rfl (lv_at hl 0 rfl) ?_
                  refine va_get (ci := 12) (v := .int (iI (mi 31))) (C := RX12) (T := TX12) (N := 38) hx hb hts inX12 hown hK.1 hP 0 rfl rfl 11 (by decide) (hts (.fieldLink RX12 125 "SkimmedSonsModel" "hours" "I") (by decide +kernel)) (fun _ h9 => h9) rfl dX12_restore_119 ?_
                  have hw : zb [WMo o ma (updZ (updZ mi 11 (mi 31)) 13 (mi 32)) ml, WMp X ma pv0, Wa X 2 (ma 22) 105 sa, Wa X 2 (ma 10) 20 (catZ kh hz 20), Wa X 2 (ma 14) 6 (catZ k1 s1 j), Wa X 2 (ma 15) 6 (catZ k2 s2 j), Wa X 2 (ma 16) 6 (catZ k3 s3 j), Wa X 2 (ma 33) 20 kh, Wa X 2 (ma 34) 6 k1, Wa X 2 (ma 35) 6 k2, Wa X 2 (ma 36) 6 k3] = zb [WMo o ma (updZ (updZ mi 11 (mi 31)) 13 (mi 32)) ml, WMp X ma pv0, Wa X 2 (ma 22) 105 sa, Wa X 2 (ma 10) 20 (catZ kh hz 20), Wa X 2 (ma 14) 6 (catZ k1 s1 6), Wa X 2 (ma 15) 6 (catZ k2 s2 6), Wa X 2 (ma 16) 6 (catZ k3 s3 6), Wa X 2 (ma 33) 20 kh, Wa X 2 (ma 34) 6 k1, Wa X 2 (ma 35) 6 k2, Wa X 2 (ma 36) 6 k3] := by rw [show j = 6 by omega]
                  rw [hw] at hP hD
                  exact z_iret hQ hx hb hr hlocks hS ⟨(Nat.le_of_ble_eq_true rfl), (Nat.le_of_ble_eq_true rfl)⟩ dX12_restore_122 () rfl trivial hP hD
                · skip
                  refine lv_aload_n hx hb dX12_restore_76 rfl (lv_at hl 0 rfl) ?_
                  refine va_get (ci := 12) (v := .ref (ma 14)) (C := RX12) (T := TX12) (N := 38) hx hb hts inX12 hown hK.1 hP 0 rfl rfl 14 (by decide) (hts (.fieldLink RX12 34 "SkimmedSonsModel" "seenPan" "[I") (by decide +kernel)) (fun _ h9 => h9) rfl dX12_restore_77 ?_
                  refine lv_iload_n hx hb dX12_restore_80 rfl (lv_at hl 1 rfl) ?_
                  refine lv_aload_n hx hb dX12_restore_81 rfl (lv_at hl 0 rfl) ?_
                  refine va_get (ci := 12) (v := .ref (ma 34)) (C := RX12) (T := TX12) (N := 38) hx hb hts inX12 hown hK.1 hP 0 rfl rfl 34 (by decide) (hts (.fieldLink RX12 68 "SkimmedSonsModel" "keptPan" "[I") (by decide +kernel)) (fun _ h9 => h9) rfl dX12_restore_82 ?_
                  refine lv_iload_n hx hb dX12_restore_85 rfl (lv_at hl 1 rfl) ?_
                  refine z_iald hx hb hK.1 hP 13 rfl (by omega) dX12_restore_86 ?_
                  refine W.eq (g2 := F0 m 87 ls [.int (iI (k1 j)), .int (iI (↑j)), .ref (ma 14)]) rfl ?_
                  refine z_iast hx hb hK.1 hP hD hS 9 rfl (by omega) dX12_restore_87 (fun H locs hP hD hS => ?_)
                  have hP : va_P X.1 vwCl (zb [WMo o ma (updZ (updZ mi 11 (mi 31)) 13 (mi 32)) ml, WMp X ma pv0, Wa X 2 (ma 22) 105 sa, Wa X 2 (ma 10) 20 (catZ kh hz 20), Wa X 2 (ma 14) 6 (updZ (catZ k1 s1 j) j (k1 j)), Wa X 2 (ma 15) 6 (catZ k2 s2 j), Wa X 2 (ma 16) 6 (catZ k3 s3 j), Wa X 2 (ma 33) 20 kh, Wa X 2 (ma 34) 6 k1, Wa X 2 (ma 35) 6 k2, Wa X 2 (ma 36) 6 k3]) H := hP
                  have hD : va_D A (zb [WMo o ma (updZ (updZ mi 11 (mi 31)) 13 (mi 32)) ml, WMp X ma pv0, Wa X 2 (ma 22) 105 sa, Wa X 2 (ma 10) 20 (catZ kh hz 20), Wa X 2 (ma 14) 6 (updZ (catZ k1 s1 j) j (k1 j)), Wa X 2 (ma 15) 6 (catZ k2 s2 j), Wa X 2 (ma 16) 6 (catZ k3 s3 j), Wa X 2 (ma 33) 20 kh, Wa X 2 (ma 34) 6 k1, Wa X 2 (ma 35) 6 k2, Wa X 2 (ma 36) 6 k3]) := hD
                  refine lv_aload_n hx hb dX12_restore_88 rfl (lv_at hl 0 rfl) ?_
                  refine va_get (ci := 12) (v := .ref (ma 15)) (C := RX12) (T := TX12) (N := 38) hx hb hts inX12 hown hK.1 hP 0 rfl rfl 15 (by decide) (hts (.fieldLink RX12 37 "SkimmedSonsModel" "seenHours" "[I") (by decide +kernel)) (fun _ h9 => h9) rfl dX12_restore_89 ?_
                  refine lv_iload_n hx hb dX12_restore_92 rfl (lv_at hl 1 rfl) ?_
                  refine lv_aload_n hx hb dX12_restore_93 rfl (lv_at hl 0 rfl) ?_
                  refine va_get (ci := 12) (v := .ref (ma 35)) (C := RX12) (T := TX12) (N := 38) hx hb hts inX12 hown hK.1 hP 0 rfl rfl 35 (by decide) (hts (.fieldLink RX12 71 "SkimmedSonsModel" "keptSeenHours" "[I") (by decide +kernel)) (fun _ h9 => h9) rfl dX12_restore_94 ?_
                  refine lv_iload_n hx hb dX12_restore_97 rfl (lv_at hl 1 rfl) ?_
                  refine z_iald hx hb hK.1 hP 14 rfl (by omega) dX12_restore_98 ?_
                  refine W.eq (g2 := F0 m 99 ls [.int (iI (k2 j)), .int (iI (↑j)), .ref (ma 15)]) rfl ?_
                  refine z_iast hx hb hK.1 hP hD hS 10 rfl (by omega) dX12_restore_99 (fun H locs hP hD hS => ?_)
                  have hP : va_P X.1 vwCl (zb [WMo o ma (updZ (updZ mi 11 (mi 31)) 13 (mi 32)) ml, WMp X ma pv0, Wa X 2 (ma 22) 105 sa, Wa X 2 (ma 10) 20 (catZ kh hz 20), Wa X 2 (ma 14) 6 (updZ (catZ k1 s1 j) j (k1 j)), Wa X 2 (ma 15) 6 (updZ (catZ k2 s2 j) j (k2 j)), Wa X 2 (ma 16) 6 (catZ k3 s3 j), Wa X 2 (ma 33) 20 kh, Wa X 2 (ma 34) 6 k1, Wa X 2 (ma 35) 6 k2, Wa X 2 (ma 36) 6 k3]) H := hP
                  have hD : va_D A (zb [WMo o ma (updZ (updZ mi 11 (mi 31)) 13 (mi 32)) ml, WMp X ma pv0, Wa X 2 (ma 22) 105 sa, Wa X 2 (ma 10) 20 (catZ kh hz 20), Wa X 2 (ma 14) 6 (updZ (catZ k1 s1 j) j (k1 j)), Wa X 2 (ma 15) 6 (updZ (catZ k2 s2 j) j (k2 j)), Wa X 2 (ma 16) 6 (catZ k3 s3 j), Wa X 2 (ma 33) 20 kh, Wa X 2 (ma 34) 6 k1, Wa X 2 (ma 35) 6 k2, Wa X 2 (ma 36) 6 k3]) := hD
                  refine lv_aload_n hx hb dX12_restore_100 rfl (lv_at hl 0 rfl) ?_
                  refine va_get (ci := 12) (v := .ref (ma 16)) (C := RX12) (T := TX12) (N := 38) hx hb hts inX12 hown hK.1 hP 0 rfl rfl 16 (by decide) (hts (.fieldLink RX12 40 "SkimmedSonsModel" "seenMuch" "[I") (by decide +kernel)) (fun _ h9 => h9) rfl dX12_restore_101 ?_
                  refine lv_iload_n hx hb dX12_restore_104 rfl (lv_at hl 1 rfl) ?_
                  refine lv_aload_n hx hb dX12_restore_105 rfl (lv_at hl 0 rfl) ?_
                  refine va_get (ci := 12) (v := .ref (ma 36)) (C := RX12) (T := TX12) (N := 38) hx hb hts inX12 hown hK.1 hP 0 rfl rfl 36 (by decide) (hts (.fieldLink RX12 74 "SkimmedSonsModel" "keptMuch" "[I") (by decide +kernel)) (fun _ h9 => h9) rfl dX12_restore_106 ?_
                  refine lv_iload_n hx hb dX12_restore_109 rfl (lv_at hl 1 rfl) ?_
                  refine z_iald hx hb hK.1 hP 15 rfl (by omega) dX12_restore_110 ?_
                  refine W.eq (g2 := F0 m 111 ls [.int (iI (k3 j)), .int (iI (↑j)), .ref (ma 16)]) rfl ?_
                  refine z_iast hx hb hK.1 hP hD hS 11 rfl (by omega) dX12_restore_111 (fun H locs hP hD hS => ?_)
                  have hP : va_P X.1 vwCl (zb [WMo o ma (updZ (updZ mi 11 (mi 31)) 13 (mi 32)) ml, WMp X ma pv0, Wa X 2 (ma 22) 105 sa, Wa X 2 (ma 10) 20 (catZ kh hz 20), Wa X 2 (ma 14) 6 (updZ (catZ k1 s1 j) j (k1 j)), Wa X 2 (ma 15) 6 (updZ (catZ k2 s2 j) j (k2 j)), Wa X 2 (ma 16) 6 (updZ (catZ k3 s3 j) j (k3 j)), Wa X 2 (ma 33) 20 kh, Wa X 2 (ma 34) 6 k1, Wa X 2 (ma 35) 6 k2, Wa X 2 (ma 36) 6 k3]) H := hP
                  have hD : va_D A (zb [WMo o ma (updZ (updZ mi 11 (mi 31)) 13 (mi 32)) ml, WMp X ma pv0, Wa X 2 (ma 22) 105 sa, Wa X 2 (ma 10) 20 (catZ kh hz 20), Wa X 2 (ma 14) 6 (updZ (catZ k1 s1 j) j (k1 j)), Wa X 2 (ma 15) 6 (updZ (catZ k2 s2 j) j (k2 j)), Wa X 2 (ma 16) 6 (updZ (catZ k3 s3 j) j (k3 j)), Wa X 2 (ma 33) 20 kh, Wa X 2 (ma 34) 6 k1, Wa X 2 (ma 35) 6 k2, Wa X 2 (ma 36) 6 k3]) := hD
                  refine z_iinc (k := 1) (lv' := [(1, .int (iI ((↑j) + 1))), (0, .ref o)]) hx hb dX12_restore_112 hl rfl (by decide) rfl (fun ls hl => ?_)
                  refine lv_goto (tgt := 70) hx hb dX12_restore_115 (by decide) ?_
                  have hw_5 : zb [WMo o ma (updZ (updZ mi 11 (mi 31)) 13 (mi 32)) ml, WMp X ma pv0, Wa X 2 (ma 22) 105 sa, Wa X 2 (ma 10) 20 (catZ kh hz 20), Wa X 2 (ma 14) 6 (updZ (catZ k1 s1 j) j (k1 j)), Wa X 2 (ma 15) 6 (updZ (catZ k2 s2 j) j (k2 j)), Wa X 2 (ma 16) 6 (updZ (catZ k3 s3 j) j (k3 j)), Wa X 2 (ma 33) 20 kh, Wa X 2 (ma 34) 6 k1, Wa X 2 (ma 35) 6 k2, Wa X 2 (ma 36) 6 k3] = zb [WMo o ma (updZ (updZ mi 11 (mi 31)) 13 (mi 32)) ml, WMp X ma pv0, Wa X 2 (ma 22) 105 sa, Wa X 2 (ma 10) 20 (catZ kh hz 20), Wa X 2 (ma 14) 6 (catZ k1 s1 (j + 1)), Wa X 2 (ma 15) 6 (catZ k2 s2 (j + 1)), Wa X 2 (ma 16) 6 (catZ k3 s3 (j + 1)), Wa X 2 (ma 33) 20 kh, Wa X 2 (ma 34) 6 k1, Wa X 2 (ma 35) 6 k2, Wa X 2 (ma 36) 6 k3] := by rw [catZ_step k1 s1 j, catZ_step k2 s2 j, catZ_step k3 s3 j]
                  rw [hw_5] at hP hD
                  exact ih70  (j + 1) (by omega) (by omega) _ _ _ hP hD hS (lv_sub hl [1, 0] rfl)
            have hw_6 : zb [WMo o ma (updZ (updZ mi 11 (mi 31)) 13 (mi 32)) ml, WMp X ma pv0, Wa X 2 (ma 22) 105 sa, Wa X 2 (ma 10) 20 (catZ kh hz i), Wa X 2 (ma 14) 6 s1, Wa X 2 (ma 15) 6 s2, Wa X 2 (ma 16) 6 s3, Wa X 2 (ma 33) 20 kh, Wa X 2 (ma 34) 6 k1, Wa X 2 (ma 35) 6 k2, Wa X 2 (ma 36) 6 k3] = zb [WMo o ma (updZ (updZ mi 11 (mi 31)) 13 (mi 32)) ml, WMp X ma pv0, Wa X 2 (ma 22) 105 sa, Wa X 2 (ma 10) 20 (catZ kh hz 20), Wa X 2 (ma 14) 6 (catZ k1 s1 0), Wa X 2 (ma 15) 6 (catZ k2 s2 0), Wa X 2 (ma 16) 6 (catZ k3 s3 0), Wa X 2 (ma 33) 20 kh, Wa X 2 (ma 34) 6 k1, Wa X 2 (ma 35) 6 k2, Wa X 2 (ma 36) 6 k3] := by rw [catZ_0, catZ_0, catZ_0, show i = 20 by omega]
            rw [hw_6] at hP hD
            exact L70 ((6 - 0) + 1) 0 (by omega) (by omega) _ _ _ hP hD hS (lv_sub hl [1, 0] rfl)
          · skip
            refine lv_aload_n hx hb dX12_restore_50 rfl (lv_at hl 0 rfl) ?_
            refine va_get (ci := 12) (v := .ref (ma 10)) (C := RX12) (T := TX12) (N := 38) hx hb hts inX12 hown hK.1 hP 0 rfl rfl 10 (by decide) (hts (.fieldLink RX12 31 "SkimmedSonsModel" "hadOf" "[I") (by decide +kernel)) (fun _ h9 => h9) rfl dX12_restore_51 ?_
            refine lv_iload_n hx hb dX12_restore_54 rfl (lv_at hl 1 rfl) ?_
            refine lv_aload_n hx hb dX12_restore_55 rfl (lv_at hl 0 rfl) ?_
            refine va_get (ci := 12) (v := .ref (ma 33)) (C := RX12) (T := TX12) (N := 38) hx hb hts inX12 hown hK.1 hP 0 rfl rfl 33 (by decide) (hts (.fieldLink RX12 65 "SkimmedSonsModel" "keptHad" "[I") (by decide +kernel)) (fun _ h9 => h9) rfl dX12_restore_56 ?_
            refine lv_iload_n hx hb dX12_restore_59 rfl (lv_at hl 1 rfl) ?_
            refine z_iald hx hb hK.1 hP 12 rfl (by omega) dX12_restore_60 ?_
            refine W.eq (g2 := F0 m 61 ls [.int (iI (kh i)), .int (iI (↑i)), .ref (ma 10)]) rfl ?_
            refine z_iast hx hb hK.1 hP hD hS 8 rfl (by omega) dX12_restore_61 (fun H locs hP hD hS => ?_)
            have hP : va_P X.1 vwCl (zb [WMo o ma (updZ (updZ mi 11 (mi 31)) 13 (mi 32)) ml, WMp X ma pv0, Wa X 2 (ma 22) 105 sa, Wa X 2 (ma 10) 20 (updZ (catZ kh hz i) i (kh i)), Wa X 2 (ma 14) 6 s1, Wa X 2 (ma 15) 6 s2, Wa X 2 (ma 16) 6 s3, Wa X 2 (ma 33) 20 kh, Wa X 2 (ma 34) 6 k1, Wa X 2 (ma 35) 6 k2, Wa X 2 (ma 36) 6 k3]) H := hP
            have hD : va_D A (zb [WMo o ma (updZ (updZ mi 11 (mi 31)) 13 (mi 32)) ml, WMp X ma pv0, Wa X 2 (ma 22) 105 sa, Wa X 2 (ma 10) 20 (updZ (catZ kh hz i) i (kh i)), Wa X 2 (ma 14) 6 s1, Wa X 2 (ma 15) 6 s2, Wa X 2 (ma 16) 6 s3, Wa X 2 (ma 33) 20 kh, Wa X 2 (ma 34) 6 k1, Wa X 2 (ma 35) 6 k2, Wa X 2 (ma 36) 6 k3]) := hD
            refine z_iinc (k := 1) (lv' := [(1, .int (iI ((↑i) + 1))), (0, .ref o)]) hx hb dX12_restore_62 hl rfl (by decide) rfl (fun ls hl => ?_)
            refine lv_goto (tgt := 44) hx hb dX12_restore_65 (by decide) ?_
            have hw_7 : zb [WMo o ma (updZ (updZ mi 11 (mi 31)) 13 (mi 32)) ml, WMp X ma pv0, Wa X 2 (ma 22) 105 sa, Wa X 2 (ma 10) 20 (updZ (catZ kh hz i) i (kh i)), Wa X 2 (ma 14) 6 s1, Wa X 2 (ma 15) 6 s2, Wa X 2 (ma 16) 6 s3, Wa X 2 (ma 33) 20 kh, Wa X 2 (ma 34) 6 k1, Wa X 2 (ma 35) 6 k2, Wa X 2 (ma 36) 6 k3] = zb [WMo o ma (updZ (updZ mi 11 (mi 31)) 13 (mi 32)) ml, WMp X ma pv0, Wa X 2 (ma 22) 105 sa, Wa X 2 (ma 10) 20 (catZ kh hz (i + 1)), Wa X 2 (ma 14) 6 s1, Wa X 2 (ma 15) 6 s2, Wa X 2 (ma 16) 6 s3, Wa X 2 (ma 33) 20 kh, Wa X 2 (ma 34) 6 k1, Wa X 2 (ma 35) 6 k2, Wa X 2 (ma 36) 6 k3] := by first | (rw [← catZ_step]; done) | (subst_vars; rw [← catZ_step]; done)
            rw [hw_7] at hP hD
            exact ih44  (i + 1) (by omega) (by omega) _ _ _ hP hD hS (lv_sub hl [1, 0] rfl)
      have hw_8 : zb [WMo o ma (updZ (updZ mi 11 (mi 31)) 13 (mi 32)) ml, WMp X ma pv0, Wa X 2 (ma 22) 105 sa, Wa X 2 (ma 10) 20 hz, Wa X 2 (ma 14) 6 s1, Wa X 2 (ma 15) 6 s2, Wa X 2 (ma 16) 6 s3, Wa X 2 (ma 33) 20 kh, Wa X 2 (ma 34) 6 k1, Wa X 2 (ma 35) 6 k2, Wa X 2 (ma 36) 6 k3] = zb [WMo o ma (updZ (updZ mi 11 (mi 31)) 13 (mi 32)) ml, WMp X ma pv0, Wa X 2 (ma 22) 105 sa, Wa X 2 (ma 10) 20 (catZ kh hz 0), Wa X 2 (ma 14) 6 s1, Wa X 2 (ma 15) 6 s2, Wa X 2 (ma 16) 6 s3, Wa X 2 (ma 33) 20 kh, Wa X 2 (ma 34) 6 k1, Wa X 2 (ma 35) 6 k2, Wa X 2 (ma 36) 6 k3] := by rw [catZ_0]
      rw [hw_8] at hP hD
      exact L44 ((20 - 0) + 1) 0 (by omega) (by omega) _ _ _ hP hD hS (lv_sub hl [1, 0] rfl)
    · skip
      exact absurd c_2 (by omega)
set_option maxHeartbeats 1000000 in
set_option maxRecDepth 100000 in
theorem c_X12_inPans (l : Launch) (X : zX) (o : Nat) (ma : Nat → Nat) (mi : Nat → Int) (ml : Nat → Int) (pv : Nat → Nat → Int) (s1 : Nat → Int) (s2 : Nat → Int) (s3 : Nat → Int) (x : Int) (hn : 0 ≤ mi 1 ∧ mi 1 ≤ 3) (hpv : PanS pv) (hsg : SigB (mi 13) s1 s2 s3) (hx3 : 0 ≤ x ∧ x ≤ 3) : zF l X yX12_inPans wsX12_inPans 4 99 [.ref o, .int (iI x)] (zb [WMo o ma mi ml, WMp X ma pv, Wa X 2 (ma 14) 6 s1, Wa X 2 (ma 15) 6 s2, Wa X 2 (ma 16) 6 s3]) (some (.int (iI (sumZ (fun j => muchP (pv j) x) (mi 1).toNat)))) (zb [WMo o ma mi ml, WMp X ma pv, Wa X 2 (ma 14) 6 s1, Wa X 2 (ma 15) 6 s2, Wa X 2 (ma 16) 6 s3]) := by
  refine z_enter (cc := cX12_inPans) (maxL := 4) (ret := (some .int)) (by decide) rfl (Nat.le_of_ble_eq_true rfl) ?_
  intro p e s m below meth c A ls Q hQ hE hl hP hD
  obtain ⟨hx, hb, hr, hml, hown, hts, hlocks, hnm, hA, hK⟩ := hE
  have hown : s.vm.findClass RX12 = some m.cls := hown
  have hS : va_S A s.heap s.heap [] := va_S.rf
  have hl : lv_has ls 4 [(0, .ref o), (1, .int (iI x))] := hl
  have inX12 : ∀ w ∈ u_ws RX12 TX12 38, w ∈ wsX12_inPans := by decide +kernel
  refine lv_iconst (v := iI 0) hx hb dX12_inPans_0 (by decide) ?_
  refine lv_istore_n (lv' := [(2, .int (iI 0)), (0, .ref o), (1, .int (iI x))]) hx hb dX12_inPans_1 rfl hl (by decide) rfl (fun ls hl => ?_)
  refine lv_iconst (v := iI 0) hx hb dX12_inPans_2 (by decide) ?_
  refine lv_istore_n (lv' := [(3, .int (iI 0)), (2, .int (iI 0)), (0, .ref o), (1, .int (iI x))]) hx hb dX12_inPans_3 rfl hl (by decide) rfl (fun ls hl => ?_)
  have L4 : ∀ (fu : Nat) (i : Nat) (u : Int), ((i : Int) ≤ mi 1) → (u = sumZ (fun j => muchP (pv j) x) i) → (mi 1 - ↑i).toNat < fu → ∀ (H : Heap) (locs : List Loc) (ls : Array Slot), va_P X.1 vwCl (zb [WMo o ma mi ml, WMp X ma pv, Wa X 2 (ma 14) 6 s1, Wa X 2 (ma 15) 6 s2, Wa X 2 (ma 16) 6 s3]) H → va_D A (zb [WMo o ma mi ml, WMp X ma pv, Wa X 2 (ma 14) 6 s1, Wa X 2 (ma 15) 6 s2, Wa X 2 (ma 16) 6 s3]) → va_S A s.heap H locs → lv_has ls 4 [(0, .ref o), (1, .int (iI x)), (2, .int (iI u)), (3, .int (iI (↑i)))] → W p l e { frames := 4, cells := 0, slots := 0, locals := 99 } s m ([.ref o, .int (iI x)] : List Value).toArray below meth c H locs 0 0 Q (F0 m 4 ls []) := by
    intro fu
    induction fu with
    | zero => intro i u hi hu hm; exact absurd hm (Nat.not_lt_zero _)
    | succ fu ih4 =>
      intro i u hi hu hm H locs ls hP hD hS hl
      refine lv_iload_n hx hb dX12_inPans_4 rfl (lv_at hl 3 rfl) ?_
      refine lv_aload_n hx hb dX12_inPans_5 rfl (lv_at hl 0 rfl) ?_
      refine va_get (ci := 12) (v := .int (iI (mi 1))) (C := RX12) (T := TX12) (N := 38) hx hb hts inX12 hown hK.1 hP 0 rfl rfl 1 (by decide) (hts (.fieldLink RX12 119 "SkimmedSonsModel" "pans" "I") (by decide +kernel)) (fun _ h9 => h9) rfl dX12_inPans_6 ?_
      refine z_icmp_ge (tgt := 27) hx hb (by omega) dX12_inPans_9 (by decide) (fun c_1 => ?_) (fun c_1 => ?_)
      · skip
        refine lv_iload_n hx hb dX12_inPans_27 rfl (lv_at hl 2 rfl) ?_
        exact z_iret hQ hx hb hr hlocks hS ⟨(Nat.le_of_ble_eq_true rfl), (Nat.le_of_ble_eq_true rfl)⟩ dX12_inPans_28 () (congrArg (fun z => some (Value.int (iI z))) (show (sumZ (fun j => muchP (pv j) x) (mi 1).toNat : Int) = u by rw [hu, show i = (mi 1).toNat by omega])) trivial hP hD
      · skip
        refine lv_iload_n hx hb dX12_inPans_12 rfl (lv_at hl 2 rfl) ?_
        refine lv_aload_n hx hb dX12_inPans_13 rfl (lv_at hl 0 rfl) ?_
        refine lv_iload_n hx hb dX12_inPans_14 rfl (lv_at hl 3 rfl) ?_
        refine lv_iload_n hx hb dX12_inPans_15 rfl (lv_at hl 1 rfl) ?_
        have hPm := zp_perm hP (zblk (show List.Perm ([WMo o ma mi ml, WMp X ma pv, Wa X 2 (ma 14) 6 s1, Wa X 2 (ma 15) 6 s2, Wa X 2 (ma 16) 6 s3] : List va_W) ([WMo o ma mi ml, WMp X ma pv, Wa X 2 (ma 14) 6 s1, Wa X 2 (ma 15) 6 s2, Wa X 2 (ma 16) 6 s3] ++ []) from (zf1 _ 0 _ rfl).trans (((zf1 _ 0 _ rfl).trans (((zf1 _ 0 _ rfl).trans (((zf1 _ 0 _ rfl).trans (((zf1 _ 0 _ rfl).trans ((List.Perm.refl _).cons _)).cons _)).cons _)).cons _)).cons _)))
        have hDm := zd_perm hD (zblk (show List.Perm ([WMo o ma mi ml, WMp X ma pv, Wa X 2 (ma 14) 6 s1, Wa X 2 (ma 15) 6 s2, Wa X 2 (ma 16) 6 s3] : List va_W) ([WMo o ma mi ml, WMp X ma pv, Wa X 2 (ma 14) 6 s1, Wa X 2 (ma 15) 6 s2, Wa X 2 (ma 16) 6 s3] ++ []) from (zf1 _ 0 _ rfl).trans (((zf1 _ 0 _ rfl).trans (((zf1 _ 0 _ rfl).trans (((zf1 _ 0 _ rfl).trans (((zf1 _ 0 _ rfl).trans ((List.Perm.refl _).cons _)).cons _)).cons _)).cons _)).cons _)))
        refine z_callV (wr := zb []) (As := [.int (iI (↑i)), .int (iI x)]) (rest := [.int (iI u)]) ⟨hx, hb, hml, hown, hts⟩ (c_X12_panNow l X o ma mi ml pv s1 s2 s3 (↑i : Int) x (by omega) (by exact hpv _ (by omega)) (by omega) (by exact hsg) (by omega)) (cwV 2 hts gX12_inPans_X12_panNow rfl rfl rfl (by decide +kernel) ⟨Nat.le_of_ble_eq_true rfl, Nat.le_of_ble_eq_true rfl⟩) rfl rfl hl.1 dX12_inPans_16 rfl rfl (Nat.le_of_ble_eq_true rfl) ⟨(Nat.le_of_ble_eq_true rfl), (Nat.le_of_ble_eq_true rfl)⟩ hS hA hK hPm hDm (fun _ H locs _ hP hD hS => ?_)
        have hP := zp_perm hP ((zblk (show List.Perm ([WMo o ma mi ml, WMp X ma pv, Wa X 2 (ma 14) 6 s1, Wa X 2 (ma 15) 6 s2, Wa X 2 (ma 16) 6 s3] : List va_W) ([WMo o ma mi ml, WMp X ma pv, Wa X 2 (ma 14) 6 s1, Wa X 2 (ma 15) 6 s2, Wa X 2 (ma 16) 6 s3] ++ []) from (zf1 _ 0 _ rfl).trans (((zf1 _ 0 _ rfl).trans (((zf1 _ 0 _ rfl).trans (((zf1 _ 0 _ rfl).trans (((zf1 _ 0 _ rfl).trans ((List.Perm.refl _).cons _)).cons _)).cons _)).cons _)).cons _)))).symm
        have hD := zd_perm hD ((zblk (show List.Perm ([WMo o ma mi ml, WMp X ma pv, Wa X 2 (ma 14) 6 s1, Wa X 2 (ma 15) 6 s2, Wa X 2 (ma 16) 6 s3] : List va_W) ([WMo o ma mi ml, WMp X ma pv, Wa X 2 (ma 14) 6 s1, Wa X 2 (ma 15) 6 s2, Wa X 2 (ma 16) 6 s3] ++ []) from (zf1 _ 0 _ rfl).trans (((zf1 _ 0 _ rfl).trans (((zf1 _ 0 _ rfl).trans (((zf1 _ 0 _ rfl).trans (((zf1 _ 0 _ rfl).trans ((List.Perm.refl _).cons _)).cons _)).cons _)).cons _)).cons _)))).symm
        have hP : va_P X.1 vwCl (zb [WMo o ma mi ml, WMp X ma pv, Wa X 2 (ma 14) 6 s1, Wa X 2 (ma 15) 6 s2, Wa X 2 (ma 16) 6 s3]) H := hP
        have hD : va_D A (zb [WMo o ma mi ml, WMp X ma pv, Wa X 2 (ma 14) 6 s1, Wa X 2 (ma 15) 6 s2, Wa X 2 (ma 16) 6 s3]) := hD
        refine W.eq (g2 := F0 m 19 ls [.int (iI (panR (mi 1) (↑i : Int) x (mi 13) pv s1 s2 s3)), .int (iI u)]) rfl ?_
        have hpe : panR (mi 1) ↑i x (mi 13) pv s1 s2 s3 = muchP (pv i) x := by unfold panR; rw [if_pos (by omega), if_pos (by omega)]; rfl
        refine z_iadd hx hb dX12_inPans_19 ?_
        refine z_topi (fun z_2 ez_2 => ?_)
        refine lv_istore_n (lv' := [(2, .int (iI z_2)), (0, .ref o), (1, .int (iI x)), (3, .int (iI (↑i)))]) hx hb dX12_inPans_20 rfl hl (by decide) rfl (fun ls hl => ?_)
        refine z_iinc (k := 3) (lv' := [(3, .int (iI ((↑i) + 1))), (2, .int (iI z_2)), (0, .ref o), (1, .int (iI x))]) hx hb dX12_inPans_21 hl rfl (by decide) rfl (fun ls hl => ?_)
        refine lv_goto (tgt := 4) hx hb dX12_inPans_24 (by decide) ?_
        exact ih4  (i + 1) z_2 (by omega) (by rw [ez_2, hu, hpe]; rfl) (by omega) _ _ _ hP hD hS (lv_sub hl [2, 3, 1, 0] rfl)
  exact L4 ((mi 1 - ↑(0 : Nat)).toNat + 1) 0 0 (by omega) (by rfl) (by omega) _ _ _ hP hD hS (lv_sub hl [2, 3, 1, 0] rfl)
set_option maxHeartbeats 1000000 in
set_option maxRecDepth 100000 in
theorem c_X12_ofChildren_1 (l : Launch) (X : zX) (o : Nat) (ma : Nat → Nat) (mi : Nat → Int) (ml : Nat → Int) (kz : Nat → Int) (hz : Nat → Int) (ht : 0 ≤ mi 2 ∧ mi 2 ≤ 5) (hkm : KidM (mi 2) kz) : zF l X yX12_ofChildren wsX12_ofChildren 2 46 [.ref o, .int (iI 1)] (zb [WMo o ma mi ml, Wa X 2 (ma 9) 5 kz, Wa X 2 (ma 10) 20 hz]) (some (.int (iI (worthA (mi 2) (kdM kz) (fhZ hz))))) (zb [WMo o ma mi ml, Wa X 2 (ma 9) 5 kz, Wa X 2 (ma 10) 20 hz]) := by
  refine z_enter (cc := cX12_ofChildren) (maxL := 4) (ret := (some .int)) (by decide) rfl (Nat.le_of_ble_eq_true rfl) ?_
  intro p e s m below meth c A ls Q hQ hE hl hP hD
  obtain ⟨hx, hb, hr, hml, hown, hts, hlocks, hnm, hA, hK⟩ := hE
  have hown : s.vm.findClass RX12 = some m.cls := hown
  have hS : va_S A s.heap s.heap [] := va_S.rf
  have hl : lv_has ls 4 [(0, .ref o), (1, .int (iI 1))] := hl
  have inX12 : ∀ w ∈ u_ws RX12 TX12 38, w ∈ wsX12_ofChildren := by decide +kernel
  refine lv_iconst (v := iI 0) hx hb dX12_ofChildren_0 (by decide) ?_
  refine lv_istore_n (lv' := [(2, .int (iI 0)), (0, .ref o), (1, .int (iI 1))]) hx hb dX12_ofChildren_1 rfl hl (by decide) rfl (fun ls hl => ?_)
  refine lv_iconst (v := iI 0) hx hb dX12_ofChildren_2 (by decide) ?_
  refine lv_istore_n (lv' := [(3, .int (iI 0)), (2, .int (iI 0)), (0, .ref o), (1, .int (iI 1))]) hx hb dX12_ofChildren_3 rfl hl (by decide) rfl (fun ls hl => ?_)
  have L4 : ∀ (fu : Nat) (i : Nat) (u : Int), ((i : Int) ≤ mi 2) → (u = sumZ (fun j => wAll (kdM kz j) (fhZ hz j)) i) → (mi 2 - ↑i).toNat < fu → ∀ (H : Heap) (locs : List Loc) (ls : Array Slot), va_P X.1 vwCl (zb [WMo o ma mi ml, Wa X 2 (ma 9) 5 kz, Wa X 2 (ma 10) 20 hz]) H → va_D A (zb [WMo o ma mi ml, Wa X 2 (ma 9) 5 kz, Wa X 2 (ma 10) 20 hz]) → va_S A s.heap H locs → lv_has ls 4 [(0, .ref o), (1, .int (iI 1)), (2, .int (iI u)), (3, .int (iI (↑i)))] → W p l e { frames := 2, cells := 0, slots := 0, locals := 46 } s m ([.ref o, .int (iI 1)] : List Value).toArray below meth c H locs 0 0 Q (F0 m 4 ls []) := by
    intro fu
    induction fu with
    | zero => intro i u hi hu hm; exact absurd hm (Nat.not_lt_zero _)
    | succ fu ih4 =>
      intro i u hi hu hm H locs ls hP hD hS hl
      refine lv_iload_n hx hb dX12_ofChildren_4 rfl (lv_at hl 3 rfl) ?_
      refine lv_aload_n hx hb dX12_ofChildren_5 rfl (lv_at hl 0 rfl) ?_
      refine va_get (ci := 12) (v := .int (iI (mi 2))) (C := RX12) (T := TX12) (N := 38) hx hb hts inX12 hown hK.1 hP 0 rfl rfl 2 (by decide) (hts (.fieldLink RX12 122 "SkimmedSonsModel" "children" "I") (by decide +kernel)) (fun _ h9 => h9) rfl dX12_ofChildren_6 ?_
      refine z_icmp_ge (tgt := 43) hx hb (by omega) dX12_ofChildren_9 (by decide) (fun c_1 => ?_) (fun c_1 => ?_)
      · skip
        refine lv_iload_n hx hb dX12_ofChildren_43 rfl (lv_at hl 2 rfl) ?_
        exact z_iret hQ hx hb hr hlocks hS ⟨(Nat.le_of_ble_eq_true rfl), (Nat.le_of_ble_eq_true rfl)⟩ dX12_ofChildren_44 () (congrArg (fun z => some (Value.int (iI z))) (show (worthA (mi 2) (kdM kz) (fhZ hz) : Int) = u by unfold worthA; rw [hu, show i = (mi 2).toNat by omega])) trivial hP hD
      · skip
        refine lv_iload_n hx hb dX12_ofChildren_12 rfl (lv_at hl 2 rfl) ?_
        refine lv_iload_n hx hb dX12_ofChildren_13 rfl (lv_at hl 1 rfl) ?_
        refine z_if_eq (tgt := 25) hx hb (by omega) dX12_ofChildren_14 (by decide) (fun c_2 => ?_) (fun c_2 => ?_)
        · skip
          exact absurd c_2 (by omega)
        · skip
          refine lv_aload_n hx hb dX12_ofChildren_17 rfl (lv_at hl 0 rfl) ?_
          refine lv_iload_n hx hb dX12_ofChildren_18 rfl (lv_at hl 3 rfl) ?_
          have hPm := zp_perm hP (zblk (show List.Perm ([WMo o ma mi ml, Wa X 2 (ma 9) 5 kz, Wa X 2 (ma 10) 20 hz] : List va_W) ([WMo o ma mi ml, Wa X 2 (ma 9) 5 kz, Wa X 2 (ma 10) 20 hz] ++ []) from (zf1 _ 0 _ rfl).trans (((zf1 _ 0 _ rfl).trans (((zf1 _ 0 _ rfl).trans ((List.Perm.refl _).cons _)).cons _)).cons _)))
          have hDm := zd_perm hD (zblk (show List.Perm ([WMo o ma mi ml, Wa X 2 (ma 9) 5 kz, Wa X 2 (ma 10) 20 hz] : List va_W) ([WMo o ma mi ml, Wa X 2 (ma 9) 5 kz, Wa X 2 (ma 10) 20 hz] ++ []) from (zf1 _ 0 _ rfl).trans (((zf1 _ 0 _ rfl).trans (((zf1 _ 0 _ rfl).trans ((List.Perm.refl _).cons _)).cons _)).cons _)))
          refine z_callV (wr := zb []) (As := [.int (iI (↑i))]) (rest := [.int (iI u)]) ⟨hx, hb, hml, hown, hts⟩ (c_X12_worthHad l X o ma mi ml kz hz (↑i : Int) (by omega) (by exact hkm _ (by omega))) (cwV 1 hts gX12_ofChildren_X12_worthHad rfl rfl rfl (by decide +kernel) ⟨Nat.le_of_ble_eq_true rfl, Nat.le_of_ble_eq_true rfl⟩) rfl rfl hl.1 dX12_ofChildren_19 rfl rfl (Nat.le_of_ble_eq_true rfl) ⟨(Nat.le_of_ble_eq_true rfl), (Nat.le_of_ble_eq_true rfl)⟩ hS hA hK hPm hDm (fun _ H locs _ hP hD hS => ?_)
          have hP := zp_perm hP ((zblk (show List.Perm ([WMo o ma mi ml, Wa X 2 (ma 9) 5 kz, Wa X 2 (ma 10) 20 hz] : List va_W) ([WMo o ma mi ml, Wa X 2 (ma 9) 5 kz, Wa X 2 (ma 10) 20 hz] ++ []) from (zf1 _ 0 _ rfl).trans (((zf1 _ 0 _ rfl).trans (((zf1 _ 0 _ rfl).trans ((List.Perm.refl _).cons _)).cons _)).cons _)))).symm
          have hD := zd_perm hD ((zblk (show List.Perm ([WMo o ma mi ml, Wa X 2 (ma 9) 5 kz, Wa X 2 (ma 10) 20 hz] : List va_W) ([WMo o ma mi ml, Wa X 2 (ma 9) 5 kz, Wa X 2 (ma 10) 20 hz] ++ []) from (zf1 _ 0 _ rfl).trans (((zf1 _ 0 _ rfl).trans (((zf1 _ 0 _ rfl).trans ((List.Perm.refl _).cons _)).cons _)).cons _)))).symm
          have hP : va_P X.1 vwCl (zb [WMo o ma mi ml, Wa X 2 (ma 9) 5 kz, Wa X 2 (ma 10) 20 hz]) H := hP
          have hD : va_D A (zb [WMo o ma mi ml, Wa X 2 (ma 9) 5 kz, Wa X 2 (ma 10) 20 hz]) := hD
          refine W.eq (g2 := F0 m 22 ls [.int (iI (wAll (kdM kz i) (fhZ hz i))), .int (iI u)]) rfl ?_
          refine lv_goto (tgt := 35) hx hb dX12_ofChildren_22 (by decide) ?_
          refine z_iadd hx hb dX12_ofChildren_35 ?_
          refine z_topi (fun z_3 ez_3 => ?_)
          refine lv_istore_n (lv' := [(2, .int (iI z_3)), (0, .ref o), (1, .int (iI 1)), (3, .int (iI (↑i)))]) hx hb dX12_ofChildren_36 rfl hl (by decide) rfl (fun ls hl => ?_)
          refine z_iinc (k := 3) (lv' := [(3, .int (iI ((↑i) + 1))), (2, .int (iI z_3)), (0, .ref o), (1, .int (iI 1))]) hx hb dX12_ofChildren_37 hl rfl (by decide) rfl (fun ls hl => ?_)
          refine lv_goto (tgt := 4) hx hb dX12_ofChildren_40 (by decide) ?_
          exact ih4  (i + 1) z_3 (by omega) (by rw [ez_3, hu]; first | rfl | (show _ + hz (4 * (i : Int) + 2).toNat = _ + hz (4 * i + 2); rw [show (4 * (i : Int) + 2).toNat = 4 * i + 2 by omega])) (by omega) _ _ _ hP hD hS (lv_sub hl [2, 3, 1, 0] rfl)
  exact L4 ((mi 2 - ↑(0 : Nat)).toNat + 1) 0 0 (by omega) (by rfl) (by omega) _ _ _ hP hD hS (lv_sub hl [2, 3, 1, 0] rfl)
set_option maxHeartbeats 1000000 in
set_option maxRecDepth 100000 in
theorem c_X12_ofChildren_0 (l : Launch) (X : zX) (o : Nat) (ma : Nat → Nat) (mi : Nat → Int) (ml : Nat → Int) (kz : Nat → Int) (hz : Nat → Int) (ht : 0 ≤ mi 2 ∧ mi 2 ≤ 5) (hkm : KidM (mi 2) kz) : zF l X yX12_ofChildren wsX12_ofChildren 2 46 [.ref o, .int (iI 0)] (zb [WMo o ma mi ml, Wa X 2 (ma 9) 5 kz, Wa X 2 (ma 10) 20 hz]) (some (.int (iI (filmA (mi 2) (fhZ hz))))) (zb [WMo o ma mi ml, Wa X 2 (ma 9) 5 kz, Wa X 2 (ma 10) 20 hz]) := by
  refine z_enter (cc := cX12_ofChildren) (maxL := 4) (ret := (some .int)) (by decide) rfl (Nat.le_of_ble_eq_true rfl) ?_
  intro p e s m below meth c A ls Q hQ hE hl hP hD
  obtain ⟨hx, hb, hr, hml, hown, hts, hlocks, hnm, hA, hK⟩ := hE
  have hown : s.vm.findClass RX12 = some m.cls := hown
  have hS : va_S A s.heap s.heap [] := va_S.rf
  have hl : lv_has ls 4 [(0, .ref o), (1, .int (iI 0))] := hl
  have inX12 : ∀ w ∈ u_ws RX12 TX12 38, w ∈ wsX12_ofChildren := by decide +kernel
  refine lv_iconst (v := iI 0) hx hb dX12_ofChildren_0 (by decide) ?_
  refine lv_istore_n (lv' := [(2, .int (iI 0)), (0, .ref o), (1, .int (iI 0))]) hx hb dX12_ofChildren_1 rfl hl (by decide) rfl (fun ls hl => ?_)
  refine lv_iconst (v := iI 0) hx hb dX12_ofChildren_2 (by decide) ?_
  refine lv_istore_n (lv' := [(3, .int (iI 0)), (2, .int (iI 0)), (0, .ref o), (1, .int (iI 0))]) hx hb dX12_ofChildren_3 rfl hl (by decide) rfl (fun ls hl => ?_)
  have L4 : ∀ (fu : Nat) (i : Nat) (u : Int), ((i : Int) ≤ mi 2) → (u = sumZ (fun j => fhZ hz j 2) i) → (mi 2 - ↑i).toNat < fu → ∀ (H : Heap) (locs : List Loc) (ls : Array Slot), va_P X.1 vwCl (zb [WMo o ma mi ml, Wa X 2 (ma 9) 5 kz, Wa X 2 (ma 10) 20 hz]) H → va_D A (zb [WMo o ma mi ml, Wa X 2 (ma 9) 5 kz, Wa X 2 (ma 10) 20 hz]) → va_S A s.heap H locs → lv_has ls 4 [(0, .ref o), (1, .int (iI 0)), (2, .int (iI u)), (3, .int (iI (↑i)))] → W p l e { frames := 2, cells := 0, slots := 0, locals := 46 } s m ([.ref o, .int (iI 0)] : List Value).toArray below meth c H locs 0 0 Q (F0 m 4 ls []) := by
    intro fu
    induction fu with
    | zero => intro i u hi hu hm; exact absurd hm (Nat.not_lt_zero _)
    | succ fu ih4 =>
      intro i u hi hu hm H locs ls hP hD hS hl
      refine lv_iload_n hx hb dX12_ofChildren_4 rfl (lv_at hl 3 rfl) ?_
      refine lv_aload_n hx hb dX12_ofChildren_5 rfl (lv_at hl 0 rfl) ?_
      refine va_get (ci := 12) (v := .int (iI (mi 2))) (C := RX12) (T := TX12) (N := 38) hx hb hts inX12 hown hK.1 hP 0 rfl rfl 2 (by decide) (hts (.fieldLink RX12 122 "SkimmedSonsModel" "children" "I") (by decide +kernel)) (fun _ h9 => h9) rfl dX12_ofChildren_6 ?_
      refine z_icmp_ge (tgt := 43) hx hb (by omega) dX12_ofChildren_9 (by decide) (fun c_1 => ?_) (fun c_1 => ?_)
      · skip
        refine lv_iload_n hx hb dX12_ofChildren_43 rfl (lv_at hl 2 rfl) ?_
        exact z_iret hQ hx hb hr hlocks hS ⟨(Nat.le_of_ble_eq_true rfl), (Nat.le_of_ble_eq_true rfl)⟩ dX12_ofChildren_44 () (congrArg (fun z => some (Value.int (iI z))) (show (filmA (mi 2) (fhZ hz) : Int) = u by unfold filmA; rw [hu, show i = (mi 2).toNat by omega])) trivial hP hD
      · skip
        refine lv_iload_n hx hb dX12_ofChildren_12 rfl (lv_at hl 2 rfl) ?_
        refine lv_iload_n hx hb dX12_ofChildren_13 rfl (lv_at hl 1 rfl) ?_
        refine z_if_eq (tgt := 25) hx hb (by omega) dX12_ofChildren_14 (by decide) (fun c_2 => ?_) (fun c_2 => ?_)
        · skip
          refine lv_aload_n hx hb dX12_ofChildren_25 rfl (lv_at hl 0 rfl) ?_
          refine va_get (ci := 12) (v := .ref (ma 10)) (C := RX12) (T := TX12) (N := 38) hx hb hts inX12 hown hK.1 hP 0 rfl rfl 10 (by decide) (hts (.fieldLink RX12 31 "SkimmedSonsModel" "hadOf" "[I") (by decide +kernel)) (fun _ h9 => h9) rfl dX12_ofChildren_26 ?_
          refine lv_iconst (v := iI 4) hx hb dX12_ofChildren_29 (by decide) ?_
          refine lv_iload_n hx hb dX12_ofChildren_30 rfl (lv_at hl 3 rfl) ?_
          refine z_imul hx hb dX12_ofChildren_31 ?_
          refine lv_iconst (v := iI 2) hx hb dX12_ofChildren_32 (by decide) ?_
          refine z_iadd hx hb dX12_ofChildren_33 ?_
          refine z_iald hx hb hK.1 hP 2 rfl (by omega) dX12_ofChildren_34 ?_
          refine W.eq (g2 := F0 m 35 ls [.int (iI (hz (((4 * (↑i)) + 2 : Int).toNat))), .int (iI u)]) rfl ?_
          refine z_iadd hx hb dX12_ofChildren_35 ?_
          refine z_topi (fun z_3 ez_3 => ?_)
          refine lv_istore_n (lv' := [(2, .int (iI z_3)), (0, .ref o), (1, .int (iI 0)), (3, .int (iI (↑i)))]) hx hb dX12_ofChildren_36 rfl hl (by decide) rfl (fun ls hl => ?_)
          refine z_iinc (k := 3) (lv' := [(3, .int (iI ((↑i) + 1))), (2, .int (iI z_3)), (0, .ref o), (1, .int (iI 0))]) hx hb dX12_ofChildren_37 hl rfl (by decide) rfl (fun ls hl => ?_)
          refine lv_goto (tgt := 4) hx hb dX12_ofChildren_40 (by decide) ?_
          exact ih4  (i + 1) z_3 (by omega) (by rw [ez_3, hu]; first | rfl | (show _ + hz (4 * (i : Int) + 2).toNat = _ + hz (4 * i + 2); rw [show (4 * (i : Int) + 2).toNat = 4 * i + 2 by omega])) (by omega) _ _ _ hP hD hS (lv_sub hl [2, 3, 1, 0] rfl)
        · skip
          exact absurd c_2 (by omega)
  exact L4 ((mi 2 - ↑(0 : Nat)).toNat + 1) 0 0 (by omega) (by rfl) (by omega) _ _ _ hP hD hS (lv_sub hl [2, 3, 1, 0] rfl)
set_option maxHeartbeats 1000000 in
set_option maxRecDepth 100000 in
theorem c_X12_howMany (l : Launch) (X : zX) (o : Nat) (ma : Nat → Nat) (mi : Nat → Int) (ml : Nat → Int) (pv : Nat → Nat → Int) (kz : Nat → Int) (hz : Nat → Int) (s1 : Nat → Int) (s2 : Nat → Int) (s3 : Nat → Int) (z : Int) (hn : 0 ≤ mi 1 ∧ mi 1 ≤ 3) (ht : 0 ≤ mi 2 ∧ mi 2 ≤ 5) (hpv : PanS pv) (hkm : KidM (mi 2) kz) (hsg : SigB (mi 13) s1 s2 s3) (hrz : -2147483648 ≤ z ∧ z < 2147483648) : zF l X yX12_howMany wsX12_howMany 5 122 [.ref o, .int (iI z)] (zb [WMo o ma mi ml, WMp X ma pv, Wa X 2 (ma 9) 5 kz, Wa X 2 (ma 10) 20 hz, Wa X 2 (ma 14) 6 s1, Wa X 2 (ma 15) 6 s2, Wa X 2 (ma 16) 6 s3]) (some (.int (iI (countR z (mi 1) (mi 2) (mi 11) (mi 13) (mi 17) (mi 0) (mi 12) pv (fhZ hz) (kdM kz))))) (zb [WMo o ma mi ml, WMp X ma pv, Wa X 2 (ma 9) 5 kz, Wa X 2 (ma 10) 20 hz, Wa X 2 (ma 14) 6 s1, Wa X 2 (ma 15) 6 s2, Wa X 2 (ma 16) 6 s3]) := by
  refine z_enter (cc := cX12_howMany) (maxL := 2) (ret := (some .int)) (by decide) rfl (Nat.le_of_ble_eq_true rfl) ?_
  intro p e s m below meth c A ls Q hQ hE hl hP hD
  obtain ⟨hx, hb, hr, hml, hown, hts, hlocks, hnm, hA, hK⟩ := hE
  have hown : s.vm.findClass RX12 = some m.cls := hown
  have hS : va_S A s.heap s.heap [] := va_S.rf
  have hl : lv_has ls 2 [(0, .ref o), (1, .int (iI z))] := hl
  have inX12 : ∀ w ∈ u_ws RX12 TX12 38, w ∈ wsX12_howMany := by decide +kernel
  refine lv_iload_n hx hb dX12_howMany_0 rfl (lv_at hl 1 rfl) ?_
  rcases (show (z < 0 ∨ 12 < z) ∨ z = 0 ∨ z = 1 ∨ z = 2 ∨ z = 3 ∨ z = 4 ∨ z = 5 ∨ z = 6 ∨ z = 7 ∨ z = 8 ∨ z = 9 ∨ z = 10 ∨ z = 11 ∨ z = 12 by omega) with c_1 | c_1 | c_1 | c_1 | c_1 | c_1 | c_1 | c_1 | c_1 | c_1 | c_1 | c_1 | c_1 | c_1
  · skip
    refine z_tabOut (tgt := 123) hx hb (by omega) dX12_howMany_1 c_1 (by decide) ?_
    refine lv_bipush (v := iI (-102)) hx hb dX12_howMany_123 (by decide) ?_
    exact z_iret hQ hx hb hr hlocks hS ⟨(Nat.le_of_ble_eq_true rfl), (Nat.le_of_ble_eq_true rfl)⟩ dX12_howMany_125 () (congrArg (fun z => some (Value.int (iI z))) (show (countR z (mi 1) (mi 2) (mi 11) (mi 13) (mi 17) (mi 0) (mi 12) pv (fhZ hz) (kdM kz) : Int) = (-102) by unfold countR; (repeat (first | rw [if_pos (by omega)] | rw [if_neg (by omega)])); first | done | rfl)) trivial hP hD
  · skip
    refine z_tabIn (tgt := 68) (off := 67) hx hb (by omega) dX12_howMany_1 c_1 (by decide) rfl (by decide) ?_
    refine lv_aload_n hx hb dX12_howMany_68 rfl (lv_at hl 0 rfl) ?_
    refine va_get (ci := 12) (v := .int (iI (mi 1))) (C := RX12) (T := TX12) (N := 38) hx hb hts inX12 hown hK.1 hP 0 rfl rfl 1 (by decide) (hts (.fieldLink RX12 119 "SkimmedSonsModel" "pans" "I") (by decide +kernel)) (fun _ h9 => h9) rfl dX12_howMany_69 ?_
    exact z_iret hQ hx hb hr hlocks hS ⟨(Nat.le_of_ble_eq_true rfl), (Nat.le_of_ble_eq_true rfl)⟩ dX12_howMany_72 () (congrArg (fun z => some (Value.int (iI z))) (show (countR z (mi 1) (mi 2) (mi 11) (mi 13) (mi 17) (mi 0) (mi 12) pv (fhZ hz) (kdM kz) : Int) = mi 1 by unfold countR; (repeat (first | rw [if_pos (by omega)] | rw [if_neg (by omega)])); first | done | rfl)) trivial hP hD
  · skip
    refine z_tabIn (tgt := 73) (off := 72) hx hb (by omega) dX12_howMany_1 c_1 (by decide) rfl (by decide) ?_
    refine lv_aload_n hx hb dX12_howMany_73 rfl (lv_at hl 0 rfl) ?_
    refine va_get (ci := 12) (v := .int (iI (mi 2))) (C := RX12) (T := TX12) (N := 38) hx hb hts inX12 hown hK.1 hP 0 rfl rfl 2 (by decide) (hts (.fieldLink RX12 122 "SkimmedSonsModel" "children" "I") (by decide +kernel)) (fun _ h9 => h9) rfl dX12_howMany_74 ?_
    exact z_iret hQ hx hb hr hlocks hS ⟨(Nat.le_of_ble_eq_true rfl), (Nat.le_of_ble_eq_true rfl)⟩ dX12_howMany_77 () (congrArg (fun z => some (Value.int (iI z))) (show (countR z (mi 1) (mi 2) (mi 11) (mi 13) (mi 17) (mi 0) (mi 12) pv (fhZ hz) (kdM kz) : Int) = mi 2 by unfold countR; (repeat (first | rw [if_pos (by omega)] | rw [if_neg (by omega)])); first | done | rfl)) trivial hP hD
  · skip
    refine z_tabIn (tgt := 78) (off := 77) hx hb (by omega) dX12_howMany_1 c_1 (by decide) rfl (by decide) ?_
    refine lv_aload_n hx hb dX12_howMany_78 rfl (lv_at hl 0 rfl) ?_
    refine lv_iload_n hx hb dX12_howMany_79 rfl (lv_at hl 1 rfl) ?_
    refine lv_iconst (v := iI 2) hx hb dX12_howMany_80 (by decide) ?_
    refine z_isub hx hb dX12_howMany_81 ?_
    have hPm := zp_perm hP (zblk (show List.Perm ([WMo o ma mi ml, WMp X ma pv, Wa X 2 (ma 9) 5 kz, Wa X 2 (ma 10) 20 hz, Wa X 2 (ma 14) 6 s1, Wa X 2 (ma 15) 6 s2, Wa X 2 (ma 16) 6 s3] : List va_W) ([WMo o ma mi ml, WMp X ma pv, Wa X 2 (ma 14) 6 s1, Wa X 2 (ma 15) 6 s2, Wa X 2 (ma 16) 6 s3] ++ [Wa X 2 (ma 9) 5 kz, Wa X 2 (ma 10) 20 hz]) from (zf1 _ 0 _ rfl).trans (((zf1 _ 0 _ rfl).trans (((zf1 _ 2 _ rfl).trans (((zf1 _ 2 _ rfl).trans (((zf1 _ 2 _ rfl).trans ((List.Perm.refl _).cons _)).cons _)).cons _)).cons _)).cons _)))
    have hDm := zd_perm hD (zblk (show List.Perm ([WMo o ma mi ml, WMp X ma pv, Wa X 2 (ma 9) 5 kz, Wa X 2 (ma 10) 20 hz, Wa X 2 (ma 14) 6 s1, Wa X 2 (ma 15) 6 s2, Wa X 2 (ma 16) 6 s3] : List va_W) ([WMo o ma mi ml, WMp X ma pv, Wa X 2 (ma 14) 6 s1, Wa X 2 (ma 15) 6 s2, Wa X 2 (ma 16) 6 s3] ++ [Wa X 2 (ma 9) 5 kz, Wa X 2 (ma 10) 20 hz]) from (zf1 _ 0 _ rfl).trans (((zf1 _ 0 _ rfl).trans (((zf1 _ 2 _ rfl).trans (((zf1 _ 2 _ rfl).trans (((zf1 _ 2 _ rfl).trans ((List.Perm.refl _).cons _)).cons _)).cons _)).cons _)).cons _)))
    refine z_callV (wr := zb [Wa X 2 (ma 9) 5 kz, Wa X 2 (ma 10) 20 hz]) (As := [.int (iI (z - 2))]) (rest := []) ⟨hx, hb, hml, hown, hts⟩ (c_X12_inPans l X o ma mi ml pv s1 s2 s3 (z - 2) (by omega) (by exact hpv) (by exact hsg) (by omega)) (cwV 1 hts gX12_howMany_X12_inPans rfl rfl rfl (by decide +kernel) ⟨Nat.le_of_ble_eq_true rfl, Nat.le_of_ble_eq_true rfl⟩) rfl rfl hl.1 dX12_howMany_82 rfl rfl (Nat.le_of_ble_eq_true rfl) ⟨(Nat.le_of_ble_eq_true rfl), (Nat.le_of_ble_eq_true rfl)⟩ hS hA hK hPm hDm (fun _ H locs _ hP hD hS => ?_)
    have hP := zp_perm hP ((zblk (show List.Perm ([WMo o ma mi ml, WMp X ma pv, Wa X 2 (ma 9) 5 kz, Wa X 2 (ma 10) 20 hz, Wa X 2 (ma 14) 6 s1, Wa X 2 (ma 15) 6 s2, Wa X 2 (ma 16) 6 s3] : List va_W) ([WMo o ma mi ml, WMp X ma pv, Wa X 2 (ma 14) 6 s1, Wa X 2 (ma 15) 6 s2, Wa X 2 (ma 16) 6 s3] ++ [Wa X 2 (ma 9) 5 kz, Wa X 2 (ma 10) 20 hz]) from (zf1 _ 0 _ rfl).trans (((zf1 _ 0 _ rfl).trans (((zf1 _ 2 _ rfl).trans (((zf1 _ 2 _ rfl).trans (((zf1 _ 2 _ rfl).trans ((List.Perm.refl _).cons _)).cons _)).cons _)).cons _)).cons _)))).symm
    have hD := zd_perm hD ((zblk (show List.Perm ([WMo o ma mi ml, WMp X ma pv, Wa X 2 (ma 9) 5 kz, Wa X 2 (ma 10) 20 hz, Wa X 2 (ma 14) 6 s1, Wa X 2 (ma 15) 6 s2, Wa X 2 (ma 16) 6 s3] : List va_W) ([WMo o ma mi ml, WMp X ma pv, Wa X 2 (ma 14) 6 s1, Wa X 2 (ma 15) 6 s2, Wa X 2 (ma 16) 6 s3] ++ [Wa X 2 (ma 9) 5 kz, Wa X 2 (ma 10) 20 hz]) from (zf1 _ 0 _ rfl).trans (((zf1 _ 0 _ rfl).trans (((zf1 _ 2 _ rfl).trans (((zf1 _ 2 _ rfl).trans (((zf1 _ 2 _ rfl).trans ((List.Perm.refl _).cons _)).cons _)).cons _)).cons _)).cons _)))).symm
    have hP : va_P X.1 vwCl (zb [WMo o ma mi ml, WMp X ma pv, Wa X 2 (ma 9) 5 kz, Wa X 2 (ma 10) 20 hz, Wa X 2 (ma 14) 6 s1, Wa X 2 (ma 15) 6 s2, Wa X 2 (ma 16) 6 s3]) H := hP
    have hD : va_D A (zb [WMo o ma mi ml, WMp X ma pv, Wa X 2 (ma 9) 5 kz, Wa X 2 (ma 10) 20 hz, Wa X 2 (ma 14) 6 s1, Wa X 2 (ma 15) 6 s2, Wa X 2 (ma 16) 6 s3]) := hD
    refine W.eq (g2 := F0 m 85 ls [.int (iI (sumZ (fun j => muchP (pv j) (z - 2)) (mi 1).toNat))]) rfl ?_
    exact z_iret hQ hx hb hr hlocks hS ⟨(Nat.le_of_ble_eq_true rfl), (Nat.le_of_ble_eq_true rfl)⟩ dX12_howMany_85 () (congrArg (fun z => some (Value.int (iI z))) (show (countR z (mi 1) (mi 2) (mi 11) (mi 13) (mi 17) (mi 0) (mi 12) pv (fhZ hz) (kdM kz) : Int) = sumZ (fun j => muchP (pv j) (z - 2)) (mi 1).toNat by unfold countR; (repeat (first | rw [if_pos (by omega)] | rw [if_neg (by omega)])); first | done | rfl)) trivial hP hD
  · skip
    refine z_tabIn (tgt := 78) (off := 77) hx hb (by omega) dX12_howMany_1 c_1 (by decide) rfl (by decide) ?_
    refine lv_aload_n hx hb dX12_howMany_78 rfl (lv_at hl 0 rfl) ?_
    refine lv_iload_n hx hb dX12_howMany_79 rfl (lv_at hl 1 rfl) ?_
    refine lv_iconst (v := iI 2) hx hb dX12_howMany_80 (by decide) ?_
    refine z_isub hx hb dX12_howMany_81 ?_
    have hPm := zp_perm hP (zblk (show List.Perm ([WMo o ma mi ml, WMp X ma pv, Wa X 2 (ma 9) 5 kz, Wa X 2 (ma 10) 20 hz, Wa X 2 (ma 14) 6 s1, Wa X 2 (ma 15) 6 s2, Wa X 2 (ma 16) 6 s3] : List va_W) ([WMo o ma mi ml, WMp X ma pv, Wa X 2 (ma 14) 6 s1, Wa X 2 (ma 15) 6 s2, Wa X 2 (ma 16) 6 s3] ++ [Wa X 2 (ma 9) 5 kz, Wa X 2 (ma 10) 20 hz]) from (zf1 _ 0 _ rfl).trans (((zf1 _ 0 _ rfl).trans (((zf1 _ 2 _ rfl).trans (((zf1 _ 2 _ rfl).trans (((zf1 _ 2 _ rfl).trans ((List.Perm.refl _).cons _)).cons _)).cons _)).cons _)).cons _)))
    have hDm := zd_perm hD (zblk (show List.Perm ([WMo o ma mi ml, WMp X ma pv, Wa X 2 (ma 9) 5 kz, Wa X 2 (ma 10) 20 hz, Wa X 2 (ma 14) 6 s1, Wa X 2 (ma 15) 6 s2, Wa X 2 (ma 16) 6 s3] : List va_W) ([WMo o ma mi ml, WMp X ma pv, Wa X 2 (ma 14) 6 s1, Wa X 2 (ma 15) 6 s2, Wa X 2 (ma 16) 6 s3] ++ [Wa X 2 (ma 9) 5 kz, Wa X 2 (ma 10) 20 hz]) from (zf1 _ 0 _ rfl).trans (((zf1 _ 0 _ rfl).trans (((zf1 _ 2 _ rfl).trans (((zf1 _ 2 _ rfl).trans (((zf1 _ 2 _ rfl).trans ((List.Perm.refl _).cons _)).cons _)).cons _)).cons _)).cons _)))
    refine z_callV (wr := zb [Wa X 2 (ma 9) 5 kz, Wa X 2 (ma 10) 20 hz]) (As := [.int (iI (z - 2))]) (rest := []) ⟨hx, hb, hml, hown, hts⟩ (c_X12_inPans l X o ma mi ml pv s1 s2 s3 (z - 2) (by omega) (by exact hpv) (by exact hsg) (by omega)) (cwV 1 hts gX12_howMany_X12_inPans rfl rfl rfl (by decide +kernel) ⟨Nat.le_of_ble_eq_true rfl, Nat.le_of_ble_eq_true rfl⟩) rfl rfl hl.1 dX12_howMany_82 rfl rfl (Nat.le_of_ble_eq_true rfl) ⟨(Nat.le_of_ble_eq_true rfl), (Nat.le_of_ble_eq_true rfl)⟩ hS hA hK hPm hDm (fun _ H locs _ hP hD hS => ?_)
    have hP := zp_perm hP ((zblk (show List.Perm ([WMo o ma mi ml, WMp X ma pv, Wa X 2 (ma 9) 5 kz, Wa X 2 (ma 10) 20 hz, Wa X 2 (ma 14) 6 s1, Wa X 2 (ma 15) 6 s2, Wa X 2 (ma 16) 6 s3] : List va_W) ([WMo o ma mi ml, WMp X ma pv, Wa X 2 (ma 14) 6 s1, Wa X 2 (ma 15) 6 s2, Wa X 2 (ma 16) 6 s3] ++ [Wa X 2 (ma 9) 5 kz, Wa X 2 (ma 10) 20 hz]) from (zf1 _ 0 _ rfl).trans (((zf1 _ 0 _ rfl).trans (((zf1 _ 2 _ rfl).trans (((zf1 _ 2 _ rfl).trans (((zf1 _ 2 _ rfl).trans ((List.Perm.refl _).cons _)).cons _)).cons _)).cons _)).cons _)))).symm
    have hD := zd_perm hD ((zblk (show List.Perm ([WMo o ma mi ml, WMp X ma pv, Wa X 2 (ma 9) 5 kz, Wa X 2 (ma 10) 20 hz, Wa X 2 (ma 14) 6 s1, Wa X 2 (ma 15) 6 s2, Wa X 2 (ma 16) 6 s3] : List va_W) ([WMo o ma mi ml, WMp X ma pv, Wa X 2 (ma 14) 6 s1, Wa X 2 (ma 15) 6 s2, Wa X 2 (ma 16) 6 s3] ++ [Wa X 2 (ma 9) 5 kz, Wa X 2 (ma 10) 20 hz]) from (zf1 _ 0 _ rfl).trans (((zf1 _ 0 _ rfl).trans (((zf1 _ 2 _ rfl).trans (((zf1 _ 2 _ rfl).trans (((zf1 _ 2 _ rfl).trans ((List.Perm.refl _).cons _)).cons _)).cons _)).cons _)).cons _)))).symm
    have hP : va_P X.1 vwCl (zb [WMo o ma mi ml, WMp X ma pv, Wa X 2 (ma 9) 5 kz, Wa X 2 (ma 10) 20 hz, Wa X 2 (ma 14) 6 s1, Wa X 2 (ma 15) 6 s2, Wa X 2 (ma 16) 6 s3]) H := hP
    have hD : va_D A (zb [WMo o ma mi ml, WMp X ma pv, Wa X 2 (ma 9) 5 kz, Wa X 2 (ma 10) 20 hz, Wa X 2 (ma 14) 6 s1, Wa X 2 (ma 15) 6 s2, Wa X 2 (ma 16) 6 s3]) := hD
    refine W.eq (g2 := F0 m 85 ls [.int (iI (sumZ (fun j => muchP (pv j) (z - 2)) (mi 1).toNat))]) rfl ?_
    exact z_iret hQ hx hb hr hlocks hS ⟨(Nat.le_of_ble_eq_true rfl), (Nat.le_of_ble_eq_true rfl)⟩ dX12_howMany_85 () (congrArg (fun z => some (Value.int (iI z))) (show (countR z (mi 1) (mi 2) (mi 11) (mi 13) (mi 17) (mi 0) (mi 12) pv (fhZ hz) (kdM kz) : Int) = sumZ (fun j => muchP (pv j) (z - 2)) (mi 1).toNat by unfold countR; (repeat (first | rw [if_pos (by omega)] | rw [if_neg (by omega)])); first | done | rfl)) trivial hP hD
  · skip
    refine z_tabIn (tgt := 78) (off := 77) hx hb (by omega) dX12_howMany_1 c_1 (by decide) rfl (by decide) ?_
    refine lv_aload_n hx hb dX12_howMany_78 rfl (lv_at hl 0 rfl) ?_
    refine lv_iload_n hx hb dX12_howMany_79 rfl (lv_at hl 1 rfl) ?_
    refine lv_iconst (v := iI 2) hx hb dX12_howMany_80 (by decide) ?_
    refine z_isub hx hb dX12_howMany_81 ?_
    have hPm := zp_perm hP (zblk (show List.Perm ([WMo o ma mi ml, WMp X ma pv, Wa X 2 (ma 9) 5 kz, Wa X 2 (ma 10) 20 hz, Wa X 2 (ma 14) 6 s1, Wa X 2 (ma 15) 6 s2, Wa X 2 (ma 16) 6 s3] : List va_W) ([WMo o ma mi ml, WMp X ma pv, Wa X 2 (ma 14) 6 s1, Wa X 2 (ma 15) 6 s2, Wa X 2 (ma 16) 6 s3] ++ [Wa X 2 (ma 9) 5 kz, Wa X 2 (ma 10) 20 hz]) from (zf1 _ 0 _ rfl).trans (((zf1 _ 0 _ rfl).trans (((zf1 _ 2 _ rfl).trans (((zf1 _ 2 _ rfl).trans (((zf1 _ 2 _ rfl).trans ((List.Perm.refl _).cons _)).cons _)).cons _)).cons _)).cons _)))
    have hDm := zd_perm hD (zblk (show List.Perm ([WMo o ma mi ml, WMp X ma pv, Wa X 2 (ma 9) 5 kz, Wa X 2 (ma 10) 20 hz, Wa X 2 (ma 14) 6 s1, Wa X 2 (ma 15) 6 s2, Wa X 2 (ma 16) 6 s3] : List va_W) ([WMo o ma mi ml, WMp X ma pv, Wa X 2 (ma 14) 6 s1, Wa X 2 (ma 15) 6 s2, Wa X 2 (ma 16) 6 s3] ++ [Wa X 2 (ma 9) 5 kz, Wa X 2 (ma 10) 20 hz]) from (zf1 _ 0 _ rfl).trans (((zf1 _ 0 _ rfl).trans (((zf1 _ 2 _ rfl).trans (((zf1 _ 2 _ rfl).trans (((zf1 _ 2 _ rfl).trans ((List.Perm.refl _).cons _)).cons _)).cons _)).cons _)).cons _)))
    refine z_callV (wr := zb [Wa X 2 (ma 9) 5 kz, Wa X 2 (ma 10) 20 hz]) (As := [.int (iI (z - 2))]) (rest := []) ⟨hx, hb, hml, hown, hts⟩ (c_X12_inPans l X o ma mi ml pv s1 s2 s3 (z - 2) (by omega) (by exact hpv) (by exact hsg) (by omega)) (cwV 1 hts gX12_howMany_X12_inPans rfl rfl rfl (by decide +kernel) ⟨Nat.le_of_ble_eq_true rfl, Nat.le_of_ble_eq_true rfl⟩) rfl rfl hl.1 dX12_howMany_82 rfl rfl (Nat.le_of_ble_eq_true rfl) ⟨(Nat.le_of_ble_eq_true rfl), (Nat.le_of_ble_eq_true rfl)⟩ hS hA hK hPm hDm (fun _ H locs _ hP hD hS => ?_)
    have hP := zp_perm hP ((zblk (show List.Perm ([WMo o ma mi ml, WMp X ma pv, Wa X 2 (ma 9) 5 kz, Wa X 2 (ma 10) 20 hz, Wa X 2 (ma 14) 6 s1, Wa X 2 (ma 15) 6 s2, Wa X 2 (ma 16) 6 s3] : List va_W) ([WMo o ma mi ml, WMp X ma pv, Wa X 2 (ma 14) 6 s1, Wa X 2 (ma 15) 6 s2, Wa X 2 (ma 16) 6 s3] ++ [Wa X 2 (ma 9) 5 kz, Wa X 2 (ma 10) 20 hz]) from (zf1 _ 0 _ rfl).trans (((zf1 _ 0 _ rfl).trans (((zf1 _ 2 _ rfl).trans (((zf1 _ 2 _ rfl).trans (((zf1 _ 2 _ rfl).trans ((List.Perm.refl _).cons _)).cons _)).cons _)).cons _)).cons _)))).symm
    have hD := zd_perm hD ((zblk (show List.Perm ([WMo o ma mi ml, WMp X ma pv, Wa X 2 (ma 9) 5 kz, Wa X 2 (ma 10) 20 hz, Wa X 2 (ma 14) 6 s1, Wa X 2 (ma 15) 6 s2, Wa X 2 (ma 16) 6 s3] : List va_W) ([WMo o ma mi ml, WMp X ma pv, Wa X 2 (ma 14) 6 s1, Wa X 2 (ma 15) 6 s2, Wa X 2 (ma 16) 6 s3] ++ [Wa X 2 (ma 9) 5 kz, Wa X 2 (ma 10) 20 hz]) from (zf1 _ 0 _ rfl).trans (((zf1 _ 0 _ rfl).trans (((zf1 _ 2 _ rfl).trans (((zf1 _ 2 _ rfl).trans (((zf1 _ 2 _ rfl).trans ((List.Perm.refl _).cons _)).cons _)).cons _)).cons _)).cons _)))).symm
    have hP : va_P X.1 vwCl (zb [WMo o ma mi ml, WMp X ma pv, Wa X 2 (ma 9) 5 kz, Wa X 2 (ma 10) 20 hz, Wa X 2 (ma 14) 6 s1, Wa X 2 (ma 15) 6 s2, Wa X 2 (ma 16) 6 s3]) H := hP
    have hD : va_D A (zb [WMo o ma mi ml, WMp X ma pv, Wa X 2 (ma 9) 5 kz, Wa X 2 (ma 10) 20 hz, Wa X 2 (ma 14) 6 s1, Wa X 2 (ma 15) 6 s2, Wa X 2 (ma 16) 6 s3]) := hD
    refine W.eq (g2 := F0 m 85 ls [.int (iI (sumZ (fun j => muchP (pv j) (z - 2)) (mi 1).toNat))]) rfl ?_
    exact z_iret hQ hx hb hr hlocks hS ⟨(Nat.le_of_ble_eq_true rfl), (Nat.le_of_ble_eq_true rfl)⟩ dX12_howMany_85 () (congrArg (fun z => some (Value.int (iI z))) (show (countR z (mi 1) (mi 2) (mi 11) (mi 13) (mi 17) (mi 0) (mi 12) pv (fhZ hz) (kdM kz) : Int) = sumZ (fun j => muchP (pv j) (z - 2)) (mi 1).toNat by unfold countR; (repeat (first | rw [if_pos (by omega)] | rw [if_neg (by omega)])); first | done | rfl)) trivial hP hD
  · skip
    refine z_tabIn (tgt := 78) (off := 77) hx hb (by omega) dX12_howMany_1 c_1 (by decide) rfl (by decide) ?_
    refine lv_aload_n hx hb dX12_howMany_78 rfl (lv_at hl 0 rfl) ?_
    refine lv_iload_n hx hb dX12_howMany_79 rfl (lv_at hl 1 rfl) ?_
    refine lv_iconst (v := iI 2) hx hb dX12_howMany_80 (by decide) ?_
    refine z_isub hx hb dX12_howMany_81 ?_
    have hPm := zp_perm hP (zblk (show List.Perm ([WMo o ma mi ml, WMp X ma pv, Wa X 2 (ma 9) 5 kz, Wa X 2 (ma 10) 20 hz, Wa X 2 (ma 14) 6 s1, Wa X 2 (ma 15) 6 s2, Wa X 2 (ma 16) 6 s3] : List va_W) ([WMo o ma mi ml, WMp X ma pv, Wa X 2 (ma 14) 6 s1, Wa X 2 (ma 15) 6 s2, Wa X 2 (ma 16) 6 s3] ++ [Wa X 2 (ma 9) 5 kz, Wa X 2 (ma 10) 20 hz]) from (zf1 _ 0 _ rfl).trans (((zf1 _ 0 _ rfl).trans (((zf1 _ 2 _ rfl).trans (((zf1 _ 2 _ rfl).trans (((zf1 _ 2 _ rfl).trans ((List.Perm.refl _).cons _)).cons _)).cons _)).cons _)).cons _)))
    have hDm := zd_perm hD (zblk (show List.Perm ([WMo o ma mi ml, WMp X ma pv, Wa X 2 (ma 9) 5 kz, Wa X 2 (ma 10) 20 hz, Wa X 2 (ma 14) 6 s1, Wa X 2 (ma 15) 6 s2, Wa X 2 (ma 16) 6 s3] : List va_W) ([WMo o ma mi ml, WMp X ma pv, Wa X 2 (ma 14) 6 s1, Wa X 2 (ma 15) 6 s2, Wa X 2 (ma 16) 6 s3] ++ [Wa X 2 (ma 9) 5 kz, Wa X 2 (ma 10) 20 hz]) from (zf1 _ 0 _ rfl).trans (((zf1 _ 0 _ rfl).trans (((zf1 _ 2 _ rfl).trans (((zf1 _ 2 _ rfl).trans (((zf1 _ 2 _ rfl).trans ((List.Perm.refl _).cons _)).cons _)).cons _)).cons _)).cons _)))
    refine z_callV (wr := zb [Wa X 2 (ma 9) 5 kz, Wa X 2 (ma 10) 20 hz]) (As := [.int (iI (z - 2))]) (rest := []) ⟨hx, hb, hml, hown, hts⟩ (c_X12_inPans l X o ma mi ml pv s1 s2 s3 (z - 2) (by omega) (by exact hpv) (by exact hsg) (by omega)) (cwV 1 hts gX12_howMany_X12_inPans rfl rfl rfl (by decide +kernel) ⟨Nat.le_of_ble_eq_true rfl, Nat.le_of_ble_eq_true rfl⟩) rfl rfl hl.1 dX12_howMany_82 rfl rfl (Nat.le_of_ble_eq_true rfl) ⟨(Nat.le_of_ble_eq_true rfl), (Nat.le_of_ble_eq_true rfl)⟩ hS hA hK hPm hDm (fun _ H locs _ hP hD hS => ?_)
    have hP := zp_perm hP ((zblk (show List.Perm ([WMo o ma mi ml, WMp X ma pv, Wa X 2 (ma 9) 5 kz, Wa X 2 (ma 10) 20 hz, Wa X 2 (ma 14) 6 s1, Wa X 2 (ma 15) 6 s2, Wa X 2 (ma 16) 6 s3] : List va_W) ([WMo o ma mi ml, WMp X ma pv, Wa X 2 (ma 14) 6 s1, Wa X 2 (ma 15) 6 s2, Wa X 2 (ma 16) 6 s3] ++ [Wa X 2 (ma 9) 5 kz, Wa X 2 (ma 10) 20 hz]) from (zf1 _ 0 _ rfl).trans (((zf1 _ 0 _ rfl).trans (((zf1 _ 2 _ rfl).trans (((zf1 _ 2 _ rfl).trans (((zf1 _ 2 _ rfl).trans ((List.Perm.refl _).cons _)).cons _)).cons _)).cons _)).cons _)))).symm
    have hD := zd_perm hD ((zblk (show List.Perm ([WMo o ma mi ml, WMp X ma pv, Wa X 2 (ma 9) 5 kz, Wa X 2 (ma 10) 20 hz, Wa X 2 (ma 14) 6 s1, Wa X 2 (ma 15) 6 s2, Wa X 2 (ma 16) 6 s3] : List va_W) ([WMo o ma mi ml, WMp X ma pv, Wa X 2 (ma 14) 6 s1, Wa X 2 (ma 15) 6 s2, Wa X 2 (ma 16) 6 s3] ++ [Wa X 2 (ma 9) 5 kz, Wa X 2 (ma 10) 20 hz]) from (zf1 _ 0 _ rfl).trans (((zf1 _ 0 _ rfl).trans (((zf1 _ 2 _ rfl).trans (((zf1 _ 2 _ rfl).trans (((zf1 _ 2 _ rfl).trans ((List.Perm.refl _).cons _)).cons _)).cons _)).cons _)).cons _)))).symm
    have hP : va_P X.1 vwCl (zb [WMo o ma mi ml, WMp X ma pv, Wa X 2 (ma 9) 5 kz, Wa X 2 (ma 10) 20 hz, Wa X 2 (ma 14) 6 s1, Wa X 2 (ma 15) 6 s2, Wa X 2 (ma 16) 6 s3]) H := hP
    have hD : va_D A (zb [WMo o ma mi ml, WMp X ma pv, Wa X 2 (ma 9) 5 kz, Wa X 2 (ma 10) 20 hz, Wa X 2 (ma 14) 6 s1, Wa X 2 (ma 15) 6 s2, Wa X 2 (ma 16) 6 s3]) := hD
    refine W.eq (g2 := F0 m 85 ls [.int (iI (sumZ (fun j => muchP (pv j) (z - 2)) (mi 1).toNat))]) rfl ?_
    exact z_iret hQ hx hb hr hlocks hS ⟨(Nat.le_of_ble_eq_true rfl), (Nat.le_of_ble_eq_true rfl)⟩ dX12_howMany_85 () (congrArg (fun z => some (Value.int (iI z))) (show (countR z (mi 1) (mi 2) (mi 11) (mi 13) (mi 17) (mi 0) (mi 12) pv (fhZ hz) (kdM kz) : Int) = sumZ (fun j => muchP (pv j) (z - 2)) (mi 1).toNat by unfold countR; (repeat (first | rw [if_pos (by omega)] | rw [if_neg (by omega)])); first | done | rfl)) trivial hP hD
  · skip
    refine z_tabIn (tgt := 86) (off := 85) hx hb (by omega) dX12_howMany_1 c_1 (by decide) rfl (by decide) ?_
    refine lv_aload_n hx hb dX12_howMany_86 rfl (lv_at hl 0 rfl) ?_
    refine va_get (ci := 12) (v := .int (iI (mi 11))) (C := RX12) (T := TX12) (N := 38) hx hb hts inX12 hown hK.1 hP 0 rfl rfl 11 (by decide) (hts (.fieldLink RX12 125 "SkimmedSonsModel" "hours" "I") (by decide +kernel)) (fun _ h9 => h9) rfl dX12_howMany_87 ?_
    exact z_iret hQ hx hb hr hlocks hS ⟨(Nat.le_of_ble_eq_true rfl), (Nat.le_of_ble_eq_true rfl)⟩ dX12_howMany_90 () (congrArg (fun z => some (Value.int (iI z))) (show (countR z (mi 1) (mi 2) (mi 11) (mi 13) (mi 17) (mi 0) (mi 12) pv (fhZ hz) (kdM kz) : Int) = mi 11 by unfold countR; (repeat (first | rw [if_pos (by omega)] | rw [if_neg (by omega)])); first | done | rfl)) trivial hP hD
  · skip
    refine z_tabIn (tgt := 91) (off := 90) hx hb (by omega) dX12_howMany_1 c_1 (by decide) rfl (by decide) ?_
    refine lv_aload_n hx hb dX12_howMany_91 rfl (lv_at hl 0 rfl) ?_
    refine lv_iconst (v := iI 1) hx hb dX12_howMany_92 (by decide) ?_
    have hPm := zp_perm hP (zblk (show List.Perm ([WMo o ma mi ml, WMp X ma pv, Wa X 2 (ma 9) 5 kz, Wa X 2 (ma 10) 20 hz, Wa X 2 (ma 14) 6 s1, Wa X 2 (ma 15) 6 s2, Wa X 2 (ma 16) 6 s3] : List va_W) ([WMo o ma mi ml, Wa X 2 (ma 9) 5 kz, Wa X 2 (ma 10) 20 hz] ++ [WMp X ma pv, Wa X 2 (ma 14) 6 s1, Wa X 2 (ma 15) 6 s2, Wa X 2 (ma 16) 6 s3]) from (zf1 _ 0 _ rfl).trans (((zf1 _ 1 _ rfl).trans (((zf1 _ 1 _ rfl).trans ((List.Perm.refl _).cons _)).cons _)).cons _)))
    have hDm := zd_perm hD (zblk (show List.Perm ([WMo o ma mi ml, WMp X ma pv, Wa X 2 (ma 9) 5 kz, Wa X 2 (ma 10) 20 hz, Wa X 2 (ma 14) 6 s1, Wa X 2 (ma 15) 6 s2, Wa X 2 (ma 16) 6 s3] : List va_W) ([WMo o ma mi ml, Wa X 2 (ma 9) 5 kz, Wa X 2 (ma 10) 20 hz] ++ [WMp X ma pv, Wa X 2 (ma 14) 6 s1, Wa X 2 (ma 15) 6 s2, Wa X 2 (ma 16) 6 s3]) from (zf1 _ 0 _ rfl).trans (((zf1 _ 1 _ rfl).trans (((zf1 _ 1 _ rfl).trans ((List.Perm.refl _).cons _)).cons _)).cons _)))
    refine z_callV (wr := zb [WMp X ma pv, Wa X 2 (ma 14) 6 s1, Wa X 2 (ma 15) 6 s2, Wa X 2 (ma 16) 6 s3]) (As := [.int (iI 1)]) (rest := []) ⟨hx, hb, hml, hown, hts⟩ (c_X12_ofChildren_1 l X o ma mi ml kz hz (by omega) (by exact hkm)) (cwV 1 hts gX12_howMany_X12_ofChildren rfl rfl rfl (by decide +kernel) ⟨Nat.le_of_ble_eq_true rfl, Nat.le_of_ble_eq_true rfl⟩) rfl rfl hl.1 dX12_howMany_93 rfl rfl (Nat.le_of_ble_eq_true rfl) ⟨(Nat.le_of_ble_eq_true rfl), (Nat.le_of_ble_eq_true rfl)⟩ hS hA hK hPm hDm (fun _ H locs _ hP hD hS => ?_)
    have hP := zp_perm hP ((zblk (show List.Perm ([WMo o ma mi ml, WMp X ma pv, Wa X 2 (ma 9) 5 kz, Wa X 2 (ma 10) 20 hz, Wa X 2 (ma 14) 6 s1, Wa X 2 (ma 15) 6 s2, Wa X 2 (ma 16) 6 s3] : List va_W) ([WMo o ma mi ml, Wa X 2 (ma 9) 5 kz, Wa X 2 (ma 10) 20 hz] ++ [WMp X ma pv, Wa X 2 (ma 14) 6 s1, Wa X 2 (ma 15) 6 s2, Wa X 2 (ma 16) 6 s3]) from (zf1 _ 0 _ rfl).trans (((zf1 _ 1 _ rfl).trans (((zf1 _ 1 _ rfl).trans ((List.Perm.refl _).cons _)).cons _)).cons _)))).symm
    have hD := zd_perm hD ((zblk (show List.Perm ([WMo o ma mi ml, WMp X ma pv, Wa X 2 (ma 9) 5 kz, Wa X 2 (ma 10) 20 hz, Wa X 2 (ma 14) 6 s1, Wa X 2 (ma 15) 6 s2, Wa X 2 (ma 16) 6 s3] : List va_W) ([WMo o ma mi ml, Wa X 2 (ma 9) 5 kz, Wa X 2 (ma 10) 20 hz] ++ [WMp X ma pv, Wa X 2 (ma 14) 6 s1, Wa X 2 (ma 15) 6 s2, Wa X 2 (ma 16) 6 s3]) from (zf1 _ 0 _ rfl).trans (((zf1 _ 1 _ rfl).trans (((zf1 _ 1 _ rfl).trans ((List.Perm.refl _).cons _)).cons _)).cons _)))).symm
    have hP : va_P X.1 vwCl (zb [WMo o ma mi ml, WMp X ma pv, Wa X 2 (ma 9) 5 kz, Wa X 2 (ma 10) 20 hz, Wa X 2 (ma 14) 6 s1, Wa X 2 (ma 15) 6 s2, Wa X 2 (ma 16) 6 s3]) H := hP
    have hD : va_D A (zb [WMo o ma mi ml, WMp X ma pv, Wa X 2 (ma 9) 5 kz, Wa X 2 (ma 10) 20 hz, Wa X 2 (ma 14) 6 s1, Wa X 2 (ma 15) 6 s2, Wa X 2 (ma 16) 6 s3]) := hD
    refine W.eq (g2 := F0 m 96 ls [.int (iI (worthA (mi 2) (kdM kz) (fhZ hz)))]) rfl ?_
    exact z_iret hQ hx hb hr hlocks hS ⟨(Nat.le_of_ble_eq_true rfl), (Nat.le_of_ble_eq_true rfl)⟩ dX12_howMany_96 () (congrArg (fun z => some (Value.int (iI z))) (show (countR z (mi 1) (mi 2) (mi 11) (mi 13) (mi 17) (mi 0) (mi 12) pv (fhZ hz) (kdM kz) : Int) = worthA (mi 2) (kdM kz) (fhZ hz) by unfold countR; (repeat (first | rw [if_pos (by omega)] | rw [if_neg (by omega)])); first | done | rfl)) trivial hP hD
  · skip
    refine z_tabIn (tgt := 97) (off := 96) hx hb (by omega) dX12_howMany_1 c_1 (by decide) rfl (by decide) ?_
    refine lv_aload_n hx hb dX12_howMany_97 rfl (lv_at hl 0 rfl) ?_
    refine lv_iconst (v := iI 0) hx hb dX12_howMany_98 (by decide) ?_
    have hPm := zp_perm hP (zblk (show List.Perm ([WMo o ma mi ml, WMp X ma pv, Wa X 2 (ma 9) 5 kz, Wa X 2 (ma 10) 20 hz, Wa X 2 (ma 14) 6 s1, Wa X 2 (ma 15) 6 s2, Wa X 2 (ma 16) 6 s3] : List va_W) ([WMo o ma mi ml, Wa X 2 (ma 9) 5 kz, Wa X 2 (ma 10) 20 hz] ++ [WMp X ma pv, Wa X 2 (ma 14) 6 s1, Wa X 2 (ma 15) 6 s2, Wa X 2 (ma 16) 6 s3]) from (zf1 _ 0 _ rfl).trans (((zf1 _ 1 _ rfl).trans (((zf1 _ 1 _ rfl).trans ((List.Perm.refl _).cons _)).cons _)).cons _)))
    have hDm := zd_perm hD (zblk (show List.Perm ([WMo o ma mi ml, WMp X ma pv, Wa X 2 (ma 9) 5 kz, Wa X 2 (ma 10) 20 hz, Wa X 2 (ma 14) 6 s1, Wa X 2 (ma 15) 6 s2, Wa X 2 (ma 16) 6 s3] : List va_W) ([WMo o ma mi ml, Wa X 2 (ma 9) 5 kz, Wa X 2 (ma 10) 20 hz] ++ [WMp X ma pv, Wa X 2 (ma 14) 6 s1, Wa X 2 (ma 15) 6 s2, Wa X 2 (ma 16) 6 s3]) from (zf1 _ 0 _ rfl).trans (((zf1 _ 1 _ rfl).trans (((zf1 _ 1 _ rfl).trans ((List.Perm.refl _).cons _)).cons _)).cons _)))
    refine z_callV (wr := zb [WMp X ma pv, Wa X 2 (ma 14) 6 s1, Wa X 2 (ma 15) 6 s2, Wa X 2 (ma 16) 6 s3]) (As := [.int (iI 0)]) (rest := []) ⟨hx, hb, hml, hown, hts⟩ (c_X12_ofChildren_0 l X o ma mi ml kz hz (by omega) (by exact hkm)) (cwV 1 hts gX12_howMany_X12_ofChildren rfl rfl rfl (by decide +kernel) ⟨Nat.le_of_ble_eq_true rfl, Nat.le_of_ble_eq_true rfl⟩) rfl rfl hl.1 dX12_howMany_99 rfl rfl (Nat.le_of_ble_eq_true rfl) ⟨(Nat.le_of_ble_eq_true rfl), (Nat.le_of_ble_eq_true rfl)⟩ hS hA hK hPm hDm (fun _ H locs _ hP hD hS => ?_)
    have hP := zp_perm hP ((zblk (show List.Perm ([WMo o ma mi ml, WMp X ma pv, Wa X 2 (ma 9) 5 kz, Wa X 2 (ma 10) 20 hz, Wa X 2 (ma 14) 6 s1, Wa X 2 (ma 15) 6 s2, Wa X 2 (ma 16) 6 s3] : List va_W) ([WMo o ma mi ml, Wa X 2 (ma 9) 5 kz, Wa X 2 (ma 10) 20 hz] ++ [WMp X ma pv, Wa X 2 (ma 14) 6 s1, Wa X 2 (ma 15) 6 s2, Wa X 2 (ma 16) 6 s3]) from (zf1 _ 0 _ rfl).trans (((zf1 _ 1 _ rfl).trans (((zf1 _ 1 _ rfl).trans ((List.Perm.refl _).cons _)).cons _)).cons _)))).symm
    have hD := zd_perm hD ((zblk (show List.Perm ([WMo o ma mi ml, WMp X ma pv, Wa X 2 (ma 9) 5 kz, Wa X 2 (ma 10) 20 hz, Wa X 2 (ma 14) 6 s1, Wa X 2 (ma 15) 6 s2, Wa X 2 (ma 16) 6 s3] : List va_W) ([WMo o ma mi ml, Wa X 2 (ma 9) 5 kz, Wa X 2 (ma 10) 20 hz] ++ [WMp X ma pv, Wa X 2 (ma 14) 6 s1, Wa X 2 (ma 15) 6 s2, Wa X 2 (ma 16) 6 s3]) from (zf1 _ 0 _ rfl).trans (((zf1 _ 1 _ rfl).trans (((zf1 _ 1 _ rfl).trans ((List.Perm.refl _).cons _)).cons _)).cons _)))).symm
    have hP : va_P X.1 vwCl (zb [WMo o ma mi ml, WMp X ma pv, Wa X 2 (ma 9) 5 kz, Wa X 2 (ma 10) 20 hz, Wa X 2 (ma 14) 6 s1, Wa X 2 (ma 15) 6 s2, Wa X 2 (ma 16) 6 s3]) H := hP
    have hD : va_D A (zb [WMo o ma mi ml, WMp X ma pv, Wa X 2 (ma 9) 5 kz, Wa X 2 (ma 10) 20 hz, Wa X 2 (ma 14) 6 s1, Wa X 2 (ma 15) 6 s2, Wa X 2 (ma 16) 6 s3]) := hD
    refine W.eq (g2 := F0 m 102 ls [.int (iI (filmA (mi 2) (fhZ hz)))]) rfl ?_
    exact z_iret hQ hx hb hr hlocks hS ⟨(Nat.le_of_ble_eq_true rfl), (Nat.le_of_ble_eq_true rfl)⟩ dX12_howMany_102 () (congrArg (fun z => some (Value.int (iI z))) (show (countR z (mi 1) (mi 2) (mi 11) (mi 13) (mi 17) (mi 0) (mi 12) pv (fhZ hz) (kdM kz) : Int) = filmA (mi 2) (fhZ hz) by unfold countR; (repeat (first | rw [if_pos (by omega)] | rw [if_neg (by omega)])); first | done | rfl)) trivial hP hD
  · skip
    refine z_tabIn (tgt := 103) (off := 102) hx hb (by omega) dX12_howMany_1 c_1 (by decide) rfl (by decide) ?_
    refine lv_aload_n hx hb dX12_howMany_103 rfl (lv_at hl 0 rfl) ?_
    refine va_get (ci := 12) (v := .int (iI (mi 13))) (C := RX12) (T := TX12) (N := 38) hx hb hts inX12 hown hK.1 hP 0 rfl rfl 13 (by decide) (hts (.fieldLink RX12 131 "SkimmedSonsModel" "seen" "I") (by decide +kernel)) (fun _ h9 => h9) rfl dX12_howMany_104 ?_
    exact z_iret hQ hx hb hr hlocks hS ⟨(Nat.le_of_ble_eq_true rfl), (Nat.le_of_ble_eq_true rfl)⟩ dX12_howMany_107 () (congrArg (fun z => some (Value.int (iI z))) (show (countR z (mi 1) (mi 2) (mi 11) (mi 13) (mi 17) (mi 0) (mi 12) pv (fhZ hz) (kdM kz) : Int) = mi 13 by unfold countR; (repeat (first | rw [if_pos (by omega)] | rw [if_neg (by omega)])); first | done | rfl)) trivial hP hD
  · skip
    refine z_tabIn (tgt := 108) (off := 107) hx hb (by omega) dX12_howMany_1 c_1 (by decide) rfl (by decide) ?_
    refine lv_aload_n hx hb dX12_howMany_108 rfl (lv_at hl 0 rfl) ?_
    refine va_get (ci := 12) (v := .int (iI (mi 17))) (C := RX12) (T := TX12) (N := 38) hx hb hts inX12 hown hK.1 hP 0 rfl rfl 17 (by decide) (hts (.fieldLink RX12 81 "SkimmedSonsModel" "pageLength" "I") (by decide +kernel)) (fun _ h9 => h9) rfl dX12_howMany_109 ?_
    exact z_iret hQ hx hb hr hlocks hS ⟨(Nat.le_of_ble_eq_true rfl), (Nat.le_of_ble_eq_true rfl)⟩ dX12_howMany_112 () (congrArg (fun z => some (Value.int (iI z))) (show (countR z (mi 1) (mi 2) (mi 11) (mi 13) (mi 17) (mi 0) (mi 12) pv (fhZ hz) (kdM kz) : Int) = mi 17 by unfold countR; (repeat (first | rw [if_pos (by omega)] | rw [if_neg (by omega)])); first | done | rfl)) trivial hP hD
  · skip
    refine z_tabIn (tgt := 113) (off := 112) hx hb (by omega) dX12_howMany_1 c_1 (by decide) rfl (by decide) ?_
    refine lv_aload_n hx hb dX12_howMany_113 rfl (lv_at hl 0 rfl) ?_
    refine va_get (ci := 12) (v := .int (iI (mi 0))) (C := RX12) (T := TX12) (N := 38) hx hb hts inX12 hown hK.1 hP 0 rfl rfl 0 (by decide) (hts (.fieldLink RX12 128 "SkimmedSonsModel" "dairies" "I") (by decide +kernel)) (fun _ h9 => h9) rfl dX12_howMany_114 ?_
    exact z_iret hQ hx hb hr hlocks hS ⟨(Nat.le_of_ble_eq_true rfl), (Nat.le_of_ble_eq_true rfl)⟩ dX12_howMany_117 () (congrArg (fun z => some (Value.int (iI z))) (show (countR z (mi 1) (mi 2) (mi 11) (mi 13) (mi 17) (mi 0) (mi 12) pv (fhZ hz) (kdM kz) : Int) = mi 0 by unfold countR; (repeat (first | rw [if_pos (by omega)] | rw [if_neg (by omega)])); first | done | rfl)) trivial hP hD
  · skip
    refine z_tabIn (tgt := 118) (off := 117) hx hb (by omega) dX12_howMany_1 c_1 (by decide) rfl (by decide) ?_
    refine lv_aload_n hx hb dX12_howMany_118 rfl (lv_at hl 0 rfl) ?_
    refine va_get (ci := 12) (v := .int (iI (mi 12))) (C := RX12) (T := TX12) (N := 38) hx hb hts inX12 hown hK.1 hP 0 rfl rfl 12 (by decide) (hts (.fieldLink RX12 225 "SkimmedSonsModel" "asks" "I") (by decide +kernel)) (fun _ h9 => h9) rfl dX12_howMany_119 ?_
    exact z_iret hQ hx hb hr hlocks hS ⟨(Nat.le_of_ble_eq_true rfl), (Nat.le_of_ble_eq_true rfl)⟩ dX12_howMany_122 () (congrArg (fun z => some (Value.int (iI z))) (show (countR z (mi 1) (mi 2) (mi 11) (mi 13) (mi 17) (mi 0) (mi 12) pv (fhZ hz) (kdM kz) : Int) = mi 12 by unfold countR; (repeat (first | rw [if_pos (by omega)] | rw [if_neg (by omega)])); first | done | rfl)) trivial hP hD
set_option maxHeartbeats 1000000 in
set_option maxRecDepth 100000 in
theorem c_X12_count (l : Launch) (X : zX) (o : Nat) (ma : Nat → Nat) (mi : Nat → Int) (ml : Nat → Int) (pv : Nat → Nat → Int) (kz : Nat → Int) (hz : Nat → Int) (s1 : Nat → Int) (s2 : Nat → Int) (s3 : Nat → Int) (z : Int) (hn : 0 ≤ mi 1 ∧ mi 1 ≤ 3) (ht : 0 ≤ mi 2 ∧ mi 2 ≤ 5) (hpv : PanS pv) (hkm : KidM (mi 2) kz) (hsg : SigB (mi 13) s1 s2 s3) (hrz : -2147483648 ≤ z ∧ z < 2147483648) : zF l X yX12_count wsX12_count 6 143 [.ref o, .int (iI z)] (zb [WMo o ma mi ml, WMp X ma pv, Wa X 2 (ma 9) 5 kz, Wa X 2 (ma 10) 20 hz, Wa X 2 (ma 14) 6 s1, Wa X 2 (ma 15) 6 s2, Wa X 2 (ma 16) 6 s3]) (some (.int (iI (countR z (mi 1) (mi 2) (mi 11) (mi 13) (mi 17) (mi 0) (mi 12) pv (fhZ hz) (kdM kz))))) (zb [WMo o ma mi ml, WMp X ma pv, Wa X 2 (ma 9) 5 kz, Wa X 2 (ma 10) 20 hz, Wa X 2 (ma 14) 6 s1, Wa X 2 (ma 15) 6 s2, Wa X 2 (ma 16) 6 s3]) := by
  refine z_enter (cc := cX12_count) (maxL := 2) (ret := (some .int)) (by decide) rfl (Nat.le_of_ble_eq_true rfl) ?_
  intro p e s m below meth c A ls Q hQ hE hl hP hD
  obtain ⟨hx, hb, hr, hml, hown, hts, hlocks, hnm, hA, hK⟩ := hE
  have hown : s.vm.findClass RX12 = some m.cls := hown
  have hS : va_S A s.heap s.heap [] := va_S.rf
  have hl : lv_has ls 2 [(0, .ref o), (1, .int (iI z))] := hl
  refine lv_aload_n hx hb dX12_count_0 rfl (lv_at hl 0 rfl) ?_
  refine lv_iload_n hx hb dX12_count_1 rfl (lv_at hl 1 rfl) ?_
  have hPm := zp_perm hP (zblk (show List.Perm ([WMo o ma mi ml, WMp X ma pv, Wa X 2 (ma 9) 5 kz, Wa X 2 (ma 10) 20 hz, Wa X 2 (ma 14) 6 s1, Wa X 2 (ma 15) 6 s2, Wa X 2 (ma 16) 6 s3] : List va_W) ([WMo o ma mi ml, WMp X ma pv, Wa X 2 (ma 9) 5 kz, Wa X 2 (ma 10) 20 hz, Wa X 2 (ma 14) 6 s1, Wa X 2 (ma 15) 6 s2, Wa X 2 (ma 16) 6 s3] ++ []) from (zf1 _ 0 _ rfl).trans (((zf1 _ 0 _ rfl).trans (((zf1 _ 0 _ rfl).trans (((zf1 _ 0 _ rfl).trans (((zf1 _ 0 _ rfl).trans (((zf1 _ 0 _ rfl).trans (((zf1 _ 0 _ rfl).trans ((List.Perm.refl _).cons _)).cons _)).cons _)).cons _)).cons _)).cons _)).cons _)))
  have hDm := zd_perm hD (zblk (show List.Perm ([WMo o ma mi ml, WMp X ma pv, Wa X 2 (ma 9) 5 kz, Wa X 2 (ma 10) 20 hz, Wa X 2 (ma 14) 6 s1, Wa X 2 (ma 15) 6 s2, Wa X 2 (ma 16) 6 s3] : List va_W) ([WMo o ma mi ml, WMp X ma pv, Wa X 2 (ma 9) 5 kz, Wa X 2 (ma 10) 20 hz, Wa X 2 (ma 14) 6 s1, Wa X 2 (ma 15) 6 s2, Wa X 2 (ma 16) 6 s3] ++ []) from (zf1 _ 0 _ rfl).trans (((zf1 _ 0 _ rfl).trans (((zf1 _ 0 _ rfl).trans (((zf1 _ 0 _ rfl).trans (((zf1 _ 0 _ rfl).trans (((zf1 _ 0 _ rfl).trans (((zf1 _ 0 _ rfl).trans ((List.Perm.refl _).cons _)).cons _)).cons _)).cons _)).cons _)).cons _)).cons _)))
  refine z_callV (wr := zb []) (As := [.int (iI z)]) (rest := []) ⟨hx, hb, hml, hown, hts⟩ (c_X12_howMany l X o ma mi ml pv kz hz s1 s2 s3 z (by omega) (by omega) (by exact hpv) (by exact hkm) (by exact hsg) (by omega)) (cwV 1 hts gX12_count_X12_howMany rfl rfl rfl (by decide +kernel) ⟨Nat.le_of_ble_eq_true rfl, Nat.le_of_ble_eq_true rfl⟩) rfl rfl hl.1 dX12_count_2 rfl rfl (Nat.le_of_ble_eq_true rfl) ⟨(Nat.le_of_ble_eq_true rfl), (Nat.le_of_ble_eq_true rfl)⟩ hS hA hK hPm hDm (fun _ H locs _ hP hD hS => ?_)
  have hP := zp_perm hP ((zblk (show List.Perm ([WMo o ma mi ml, WMp X ma pv, Wa X 2 (ma 9) 5 kz, Wa X 2 (ma 10) 20 hz, Wa X 2 (ma 14) 6 s1, Wa X 2 (ma 15) 6 s2, Wa X 2 (ma 16) 6 s3] : List va_W) ([WMo o ma mi ml, WMp X ma pv, Wa X 2 (ma 9) 5 kz, Wa X 2 (ma 10) 20 hz, Wa X 2 (ma 14) 6 s1, Wa X 2 (ma 15) 6 s2, Wa X 2 (ma 16) 6 s3] ++ []) from (zf1 _ 0 _ rfl).trans (((zf1 _ 0 _ rfl).trans (((zf1 _ 0 _ rfl).trans (((zf1 _ 0 _ rfl).trans (((zf1 _ 0 _ rfl).trans (((zf1 _ 0 _ rfl).trans (((zf1 _ 0 _ rfl).trans ((List.Perm.refl _).cons _)).cons _)).cons _)).cons _)).cons _)).cons _)).cons _)))).symm
  have hD := zd_perm hD ((zblk (show List.Perm ([WMo o ma mi ml, WMp X ma pv, Wa X 2 (ma 9) 5 kz, Wa X 2 (ma 10) 20 hz, Wa X 2 (ma 14) 6 s1, Wa X 2 (ma 15) 6 s2, Wa X 2 (ma 16) 6 s3] : List va_W) ([WMo o ma mi ml, WMp X ma pv, Wa X 2 (ma 9) 5 kz, Wa X 2 (ma 10) 20 hz, Wa X 2 (ma 14) 6 s1, Wa X 2 (ma 15) 6 s2, Wa X 2 (ma 16) 6 s3] ++ []) from (zf1 _ 0 _ rfl).trans (((zf1 _ 0 _ rfl).trans (((zf1 _ 0 _ rfl).trans (((zf1 _ 0 _ rfl).trans (((zf1 _ 0 _ rfl).trans (((zf1 _ 0 _ rfl).trans (((zf1 _ 0 _ rfl).trans ((List.Perm.refl _).cons _)).cons _)).cons _)).cons _)).cons _)).cons _)).cons _)))).symm
  have hP : va_P X.1 vwCl (zb [WMo o ma mi ml, WMp X ma pv, Wa X 2 (ma 9) 5 kz, Wa X 2 (ma 10) 20 hz, Wa X 2 (ma 14) 6 s1, Wa X 2 (ma 15) 6 s2, Wa X 2 (ma 16) 6 s3]) H := hP
  have hD : va_D A (zb [WMo o ma mi ml, WMp X ma pv, Wa X 2 (ma 9) 5 kz, Wa X 2 (ma 10) 20 hz, Wa X 2 (ma 14) 6 s1, Wa X 2 (ma 15) 6 s2, Wa X 2 (ma 16) 6 s3]) := hD
  refine W.eq (g2 := F0 m 5 ls [.int (iI (countR z (mi 1) (mi 2) (mi 11) (mi 13) (mi 17) (mi 0) (mi 12) pv (fhZ hz) (kdM kz)))]) rfl ?_
  exact z_iret hQ hx hb hr hlocks hS ⟨(Nat.le_of_ble_eq_true rfl), (Nat.le_of_ble_eq_true rfl)⟩ dX12_count_5 () rfl trivial hP hD
set_option maxHeartbeats 1000000 in
set_option maxRecDepth 100000 in
theorem c_X12_mix (l : Launch) (X : zX) (o : Nat) (ma : Nat → Nat) (mi : Nat → Int) (ml : Nat → Int) (v : Int)  : zF l X yX12_mix wsX12_mix 0 0 [.ref o, .long (lI v)] (zb [WMo o ma mi ml]) none (zb [WMo o ma mi (updZ ml 37 (31 * ml 37 + v))]) := by
  refine z_enter (cc := cX12_mix) (maxL := 3) (ret := none) (by decide) rfl (Nat.le_of_ble_eq_true rfl) ?_
  intro p e s m below meth c A ls Q hQ hE hl hP hD
  obtain ⟨hx, hb, hr, hml, hown, hts, hlocks, hnm, hA, hK⟩ := hE
  have hown : s.vm.findClass RX12 = some m.cls := hown
  have hS : va_S A s.heap s.heap [] := va_S.rf
  have hl : lv_has ls 3 [(0, .ref o), (1, .long (lI v))] := hl
  have inX12 : ∀ w ∈ u_ws RX12 TX12 38, w ∈ wsX12_mix := by decide +kernel
  refine lv_aload_n hx hb dX12_mix_0 rfl (lv_at hl 0 rfl) ?_
  refine lv_ldc2 (v := lI 31) hx hb hown (hts (.constantLong RX12 288 (31)) (by decide +kernel)) dX12_mix_1 ?_
  refine lv_aload_n hx hb dX12_mix_4 rfl (lv_at hl 0 rfl) ?_
  refine va_get (ci := 12) (v := .long (lI (ml 37))) (C := RX12) (T := TX12) (N := 38) hx hb hts inX12 hown hK.1 hP 0 rfl rfl 37 (by decide) (hts (.fieldLink RX12 290 "SkimmedSonsModel" "h" "J") (by decide +kernel)) (fun _ h9 => h9) rfl dX12_mix_5 ?_
  refine z_lmul hx hb dX12_mix_8 ?_
  refine lv_lload_n hx hb dX12_mix_9 rfl (lv_at hl 1 rfl) ?_
  refine z_ladd hx hb dX12_mix_10 ?_
  refine va_put (ci := 12) (v := .long (lI ((31 * (ml 37)) + v))) (ty := .long) (C := RX12) (T := TX12) (N := 38) hx hb hts inX12 tyX12 tyX12_ok nmX12 hown hK.1 hP hD hS 0 rfl rfl 37 (by decide) (hts (.fieldLink RX12 290 "SkimmedSonsModel" "h" "J") (by decide +kernel)) (fun _ h9 => h9) rfl (by decide +kernel) rfl rfl (Nat.le_of_ble_eq_true rfl) dX12_mix_11 (fun H locs hP hD hS => ?_)
  have hP : va_P X.1 vwCl (zb [WMo o ma mi (updZ ml 37 ((31 * (ml 37)) + v))]) H := hP
  have hD : va_D A (zb [WMo o ma mi (updZ ml 37 ((31 * (ml 37)) + v))]) := hD
  have hw : zb [WMo o ma mi (updZ ml 37 ((31 * (ml 37)) + v))] = zb [WMo o ma mi (updZ ml 37 (31 * ml 37 + v))] := by rfl
  rw [hw] at hP hD
  exact z_vret hQ hx hb hr hlocks hS ⟨(Nat.le_of_ble_eq_true rfl), (Nat.le_of_ble_eq_true rfl)⟩ dX12_mix_14 () rfl trivial hP hD
