set_option maxHeartbeats 1000000 in
set_option maxRecDepth 100000 in
theorem c_X12_oddsNow (l : Launch) (X : zX) (o : Nat) (ma : Nat → Nat) (mi : Nat → Int) (ml : Nat → Int) (pv : Nat → Nat → Int) (sa : Nat → Int) (lk : Nat → Int) (nx : Nat → Int) (z : Int) (x : Int) (t : Int) (y : Int) (hn : 0 ≤ mi 1 ∧ mi 1 ≤ 3) (hpv : PanS pv) (hzm : 0 ≤ z ∧ z < mi 1) (hx8 : 1 ≤ x ∧ x ≤ 8) (ht10 : 0 ≤ t ∧ t ≤ 10) (hy1 : 0 ≤ y ∧ y ≤ 1) : zM (S := (Nat → Int) × (Nat → Int)) l X yX12_oddsNow wsX12_oddsNow { frames := 1, cells := 0, slots := 0, locals := 24 } [.ref o, .int (iI z), .int (iI x), .int (iI t), .int (iI y)] (zb [WMo o ma mi ml, WMp X ma pv, Wa X 2 (ma 22) 105 sa, Wa X 2 (ma 26) 3 lk, Wa X 2 (ma 27) 3 nx]) (fun u => (some (.int (iI (oddsR (mi 1) z x t y pv))))) (fun u => zb [WMo o ma mi ml, WMp X ma pv, Wa X 2 (ma 22) 105 (savF 15 pv sa), Wa X 2 (ma 26) 3 u.1, Wa X 2 (ma 27) 3 u.2]) (fun u => True) := by
  refine z_enter (cc := cX12_oddsNow) (maxL := 10) (ret := (some .int)) (by decide) rfl (Nat.le_of_ble_eq_true rfl) ?_
  intro p e s m below meth c A ls Q hQ hE hl hP hD
  obtain ⟨hx, hb, hr, hml, hown, hts, hlocks, hnm, hA, hK⟩ := hE
  have hown : s.vm.findClass RX12 = some m.cls := hown
  have hS : va_S A s.heap s.heap [] := va_S.rf
  have hl : lv_has ls 10 [(0, .ref o), (1, .int (iI z)), (2, .int (iI x)), (3, .int (iI t)), (4, .int (iI y))] := hl
  have inX12 : ∀ w ∈ u_ws RX12 TX12 38, w ∈ wsX12_oddsNow := by decide +kernel
  have hpz := hpv z.toNat (by omega)
  obtain ⟨⟨h00, h01⟩, ⟨h10, h11⟩, h2, h3, h4, h5, h6⟩ := id hpz
  have C45 : ∀ (lk2 : Nat → Int), (lk2 0 = ph (pv z.toNat) 0 ∧ lk2 1 = ph (pv z.toNat) 1 ∧ lk2 2 = ph (pv z.toNat) 2) → ∀ (H : Heap) (locs : List Loc) (ls : Array Slot), va_P X.1 vwCl (zb [WMo o ma mi ml, WMp X ma pv, Wa X 2 (ma 22) 105 (savF 15 pv sa), Wa X 2 (ma 26) 3 lk2, Wa X 2 (ma 27) 3 nx]) H → va_D A (zb [WMo o ma mi ml, WMp X ma pv, Wa X 2 (ma 22) 105 (savF 15 pv sa), Wa X 2 (ma 26) 3 lk2, Wa X 2 (ma 27) 3 nx]) → va_S A s.heap H locs → lv_has ls 10 [(0, .ref o), (1, .int (iI z)), (2, .int (iI x)), (3, .int (iI t)), (4, .int (iI y))] → W p l e { frames := 1, cells := 0, slots := 0, locals := 24 } s m ([.ref o, .int (iI z), .int (iI x), .int (iI t), .int (iI y)] : List Value).toArray below meth c H locs 0 0 Q (F0 m 45 ls []) := by
    intro lk2 hlk H locs ls hP hD hS hl
    refine lv_iconst (v := iI 0) hx hb dX12_oddsNow_45 (by decide) ?_
    refine lv_istore (lv' := [(5, .int (iI 0)), (0, .ref o), (1, .int (iI z)), (2, .int (iI x)), (3, .int (iI t)), (4, .int (iI y))]) hx hb dX12_oddsNow_46 hl (by decide) rfl (fun ls hl => ?_)
    refine lv_iconst (v := iI 1) hx hb dX12_oddsNow_48 (by decide) ?_
    refine lv_istore (lv' := [(6, .int (iI 1)), (5, .int (iI 0)), (0, .ref o), (1, .int (iI z)), (2, .int (iI x)), (3, .int (iI t)), (4, .int (iI y))]) hx hb dX12_oddsNow_49 hl (by decide) rfl (fun ls hl => ?_)
    refine lv_iconst (v := iI 0) hx hb dX12_oddsNow_51 (by decide) ?_
    refine lv_istore (lv' := [(7, .int (iI 0)), (6, .int (iI 1)), (5, .int (iI 0)), (0, .ref o), (1, .int (iI z)), (2, .int (iI x)), (3, .int (iI t)), (4, .int (iI y))]) hx hb dX12_oddsNow_52 hl (by decide) rfl (fun ls hl => ?_)
    have L54 : ∀ (fu : Nat) (i : Nat) (u : Int) (w : Int) (lk3 : Nat → Int) (nx3 : Nat → Int) (pu : Nat → Nat → Int), ((i : Int) ≤ x) → (w = 10 ^ i) → (OddI (pv z.toNat) t i u (lk3 0) (lk3 1) (lk3 2)) → (∀ j, ¬ j = z.toNat → pu j = pv j) → (PanB (pu z.toNat)) → (pu z.toNat 0 = pv z.toNat 0) → (pu z.toNat 2 + pu z.toNat 3 = pv z.toNat 2 + pv z.toNat 3) → (x - ↑i).toNat < fu → ∀ (H : Heap) (locs : List Loc) (ls : Array Slot), va_P X.1 vwCl (zb [WMo o ma mi ml, WMp X ma pu, Wa X 2 (ma 22) 105 (savF 15 pv sa), Wa X 2 (ma 26) 3 lk3, Wa X 2 (ma 27) 3 nx3]) H → va_D A (zb [WMo o ma mi ml, WMp X ma pu, Wa X 2 (ma 22) 105 (savF 15 pv sa), Wa X 2 (ma 26) 3 lk3, Wa X 2 (ma 27) 3 nx3]) → va_S A s.heap H locs → lv_has ls 10 [(0, .ref o), (1, .int (iI z)), (2, .int (iI x)), (3, .int (iI t)), (4, .int (iI y)), (5, .int (iI u)), (6, .int (iI w)), (7, .int (iI (↑i)))] → W p l e { frames := 1, cells := 0, slots := 0, locals := 24 } s m ([.ref o, .int (iI z), .int (iI x), .int (iI t), .int (iI y)] : List Value).toArray below meth c H locs 0 0 Q (F0 m 54 ls []) := by
      intro fu
      induction fu with
      | zero => intro i u w lk3 nx3 pu hi hw hod hp1 hp2 hp3 hp4 hm; exact absurd hm (Nat.not_lt_zero _)
      | succ fu ih54 =>
        intro i u w lk3 nx3 pu hi hw hod hp1 hp2 hp3 hp4 hm H locs ls hP hD hS hl
        refine lv_iload hx hb dX12_oddsNow_54 (lv_at hl 7 rfl) ?_
        refine lv_iload_n hx hb dX12_oddsNow_56 rfl (lv_at hl 2 rfl) ?_
        refine z_icmp_ge (tgt := 225) hx hb (by omega) dX12_oddsNow_57 (by decide) (fun c_1 => ?_) (fun c_1 => ?_)
        · skip
          have hue := odd_e hod
          have hxi : i = x.toNat := by omega
          rw [hxi] at hue hw
          have hw8 := p10_le (x := x.toNat) (by omega)
          have hwy := ways_in (v := pv z.toNat) (x := x.toNat) (t := t) h10 ht10
          rw [← hw] at hw8 hwy hue
          have hg1 := gcdZ_pos (a := w) (b := u) (by omega)
          have hg2 := gcdZ_le (a := w) (b := u) (by omega)
          rw [gcdZ_comm] at hg1 hg2
          refine lv_aload_n hx hb dX12_oddsNow_225 rfl (lv_at hl 0 rfl) ?_
          refine lv_iconst (v := iI 1) hx hb dX12_oddsNow_226 (by decide) ?_
          have hPm := zp_perm hP (zblk (show List.Perm ([WMo o ma mi ml, WMp X ma pu, Wa X 2 (ma 22) 105 (savF 15 pv sa), Wa X 2 (ma 26) 3 lk3, Wa X 2 (ma 27) 3 nx3] : List va_W) ([WMo o ma mi ml, WMp X ma pu, Wa X 2 (ma 22) 105 (savF 15 pv sa)] ++ [Wa X 2 (ma 26) 3 lk3, Wa X 2 (ma 27) 3 nx3]) from (zf1 _ 0 _ rfl).trans (((zf1 _ 0 _ rfl).trans (((zf1 _ 0 _ rfl).trans ((List.Perm.refl _).cons _)).cons _)).cons _)))
          have hDm := zd_perm hD (zblk (show List.Perm ([WMo o ma mi ml, WMp X ma pu, Wa X 2 (ma 22) 105 (savF 15 pv sa), Wa X 2 (ma 26) 3 lk3, Wa X 2 (ma 27) 3 nx3] : List va_W) ([WMo o ma mi ml, WMp X ma pu, Wa X 2 (ma 22) 105 (savF 15 pv sa)] ++ [Wa X 2 (ma 26) 3 lk3, Wa X 2 (ma 27) 3 nx3]) from (zf1 _ 0 _ rfl).trans (((zf1 _ 0 _ rfl).trans (((zf1 _ 0 _ rfl).trans ((List.Perm.refl _).cons _)).cons _)).cons _)))
          refine z_callV (wr := zb [Wa X 2 (ma 26) 3 lk3, Wa X 2 (ma 27) 3 nx3]) (As := [.int (iI 1)]) (rest := []) ⟨hx, hb, hml, hown, hts⟩ (c_X12_load_1 l X o ma mi ml pu (savF 15 pv sa) pv (by refine LdOk_sav (fun p hp => ?_); by_cases q : p = z.toNat; (rw [q]; exact hp3.symm); (rw [hp1 p q]))) (cwV 1 hts gX12_oddsNow_X12_load rfl rfl rfl (by decide +kernel) ⟨Nat.le_of_ble_eq_true rfl, Nat.le_of_ble_eq_true rfl⟩) rfl rfl hl.1 dX12_oddsNow_227 rfl rfl (Nat.le_of_ble_eq_true rfl) ⟨(Nat.le_of_ble_eq_true rfl), (Nat.le_of_ble_eq_true rfl)⟩ hS hA hK hPm hDm (fun _ H locs _ hP hD hS => ?_)
          have hP := zp_perm hP ((zblk (show List.Perm ([WMo o ma mi ml, WMp X ma pv, Wa X 2 (ma 22) 105 (savF 15 pv sa), Wa X 2 (ma 26) 3 lk3, Wa X 2 (ma 27) 3 nx3] : List va_W) ([WMo o ma mi ml, WMp X ma pv, Wa X 2 (ma 22) 105 (savF 15 pv sa)] ++ [Wa X 2 (ma 26) 3 lk3, Wa X 2 (ma 27) 3 nx3]) from (zf1 _ 0 _ rfl).trans (((zf1 _ 0 _ rfl).trans (((zf1 _ 0 _ rfl).trans ((List.Perm.refl _).cons _)).cons _)).cons _)))).symm
          have hD := zd_perm hD ((zblk (show List.Perm ([WMo o ma mi ml, WMp X ma pv, Wa X 2 (ma 22) 105 (savF 15 pv sa), Wa X 2 (ma 26) 3 lk3, Wa X 2 (ma 27) 3 nx3] : List va_W) ([WMo o ma mi ml, WMp X ma pv, Wa X 2 (ma 22) 105 (savF 15 pv sa)] ++ [Wa X 2 (ma 26) 3 lk3, Wa X 2 (ma 27) 3 nx3]) from (zf1 _ 0 _ rfl).trans (((zf1 _ 0 _ rfl).trans (((zf1 _ 0 _ rfl).trans ((List.Perm.refl _).cons _)).cons _)).cons _)))).symm
          have hP : va_P X.1 vwCl (zb [WMo o ma mi ml, WMp X ma pv, Wa X 2 (ma 22) 105 (savF 15 pv sa), Wa X 2 (ma 26) 3 lk3, Wa X 2 (ma 27) 3 nx3]) H := hP
          have hD : va_D A (zb [WMo o ma mi ml, WMp X ma pv, Wa X 2 (ma 22) 105 (savF 15 pv sa), Wa X 2 (ma 26) 3 lk3, Wa X 2 (ma 27) 3 nx3]) := hD
          refine W.eq (g2 := F0 m 230 ls []) rfl ?_
          refine lv_iload hx hb dX12_oddsNow_230 (lv_at hl 5 rfl) ?_
          refine lv_iload hx hb dX12_oddsNow_232 (lv_at hl 6 rfl) ?_
          have hPm := zp_perm hP (zblk (show List.Perm ([WMo o ma mi ml, WMp X ma pv, Wa X 2 (ma 22) 105 (savF 15 pv sa), Wa X 2 (ma 26) 3 lk3, Wa X 2 (ma 27) 3 nx3] : List va_W) ([] ++ [WMo o ma mi ml, WMp X ma pv, Wa X 2 (ma 22) 105 (savF 15 pv sa), Wa X 2 (ma 26) 3 lk3, Wa X 2 (ma 27) 3 nx3]) from List.Perm.refl _))
          have hDm := zd_perm hD (zblk (show List.Perm ([WMo o ma mi ml, WMp X ma pv, Wa X 2 (ma 22) 105 (savF 15 pv sa), Wa X 2 (ma 26) 3 lk3, Wa X 2 (ma 27) 3 nx3] : List va_W) ([] ++ [WMo o ma mi ml, WMp X ma pv, Wa X 2 (ma 22) 105 (savF 15 pv sa), Wa X 2 (ma 26) 3 lk3, Wa X 2 (ma 27) 3 nx3]) from List.Perm.refl _))
          refine z_callS (wr := zb [WMo o ma mi ml, WMp X ma pv, Wa X 2 (ma 22) 105 (savF 15 pv sa), Wa X 2 (ma 26) 3 lk3, Wa X 2 (ma 27) 3 nx3]) (As := [.int (iI u), .int (iI w)]) (rest := []) ⟨hx, hb, hml, hown, hts⟩ (c_X12_divisor l X u w (by omega) (by omega)) (va_cwS 2 hts gX12_oddsNow_X12_divisor rfl rfl rfl (by decide +kernel) ⟨Nat.le_of_ble_eq_true rfl, Nat.le_of_ble_eq_true rfl⟩) hl.1 dX12_oddsNow_234 rfl rfl (Nat.le_of_ble_eq_true rfl) ⟨(Nat.le_of_ble_eq_true rfl), (Nat.le_of_ble_eq_true rfl)⟩ hS hA hK hPm hDm (fun _ H locs _ hP hD hS => ?_)
          have hP := zp_perm hP ((zblk (show List.Perm ([WMo o ma mi ml, WMp X ma pv, Wa X 2 (ma 22) 105 (savF 15 pv sa), Wa X 2 (ma 26) 3 lk3, Wa X 2 (ma 27) 3 nx3] : List va_W) ([] ++ [WMo o ma mi ml, WMp X ma pv, Wa X 2 (ma 22) 105 (savF 15 pv sa), Wa X 2 (ma 26) 3 lk3, Wa X 2 (ma 27) 3 nx3]) from List.Perm.refl _))).symm
          have hD := zd_perm hD ((zblk (show List.Perm ([WMo o ma mi ml, WMp X ma pv, Wa X 2 (ma 22) 105 (savF 15 pv sa), Wa X 2 (ma 26) 3 lk3, Wa X 2 (ma 27) 3 nx3] : List va_W) ([] ++ [WMo o ma mi ml, WMp X ma pv, Wa X 2 (ma 22) 105 (savF 15 pv sa), Wa X 2 (ma 26) 3 lk3, Wa X 2 (ma 27) 3 nx3]) from List.Perm.refl _))).symm
          have hP : va_P X.1 vwCl (zb [WMo o ma mi ml, WMp X ma pv, Wa X 2 (ma 22) 105 (savF 15 pv sa), Wa X 2 (ma 26) 3 lk3, Wa X 2 (ma 27) 3 nx3]) H := hP
          have hD : va_D A (zb [WMo o ma mi ml, WMp X ma pv, Wa X 2 (ma 22) 105 (savF 15 pv sa), Wa X 2 (ma 26) 3 lk3, Wa X 2 (ma 27) 3 nx3]) := hD
          refine W.eq (g2 := F0 m 237 ls [.int (iI (gcdZ u w))]) rfl ?_
          refine lv_istore (lv' := [(7, .int (iI (gcdZ u w))), (0, .ref o), (1, .int (iI z)), (2, .int (iI x)), (3, .int (iI t)), (4, .int (iI y)), (5, .int (iI u)), (6, .int (iI w))]) hx hb dX12_oddsNow_237 hl (by decide) rfl (fun ls hl => ?_)
          refine lv_iload hx hb dX12_oddsNow_239 (lv_at hl 5 rfl) ?_
          refine z_if_ne (tgt := 252) hx hb (by omega) dX12_oddsNow_241 (by decide) (fun c_2 => ?_) (fun c_2 => ?_)
          · skip
            refine lv_iload hx hb dX12_oddsNow_252 (lv_at hl 7 rfl) ?_
            refine lv_iload hx hb dX12_oddsNow_254 (lv_at hl 0 rfl) ?_
            refine z_idiv hx hb (by omega) dX12_oddsNow_256 ?_
            exact z_iret hQ hx hb hr hlocks hS ⟨(Nat.le_of_ble_eq_true rfl), (Nat.le_of_ble_eq_true rfl)⟩ dX12_oddsNow_257 (lk3, nx3) (congrArg (fun z => some (Value.int (iI z))) (show (oddsR (mi 1) z x t y pv : Int) = w / (gcdZ u w) by unfold oddsR; rw [if_pos (by omega), if_pos (by omega)]; unfold oddZ; rw [← hw, gcdZ_comm, ← hue]; first | (rw [if_pos (by omega)]; done) | (rw [if_neg (by omega)]; done))) trivial hP hD
          · skip
            refine lv_iload hx hb dX12_oddsNow_244 (lv_at hl 6 rfl) ?_
            refine lv_iload hx hb dX12_oddsNow_246 (lv_at hl 0 rfl) ?_
            refine z_idiv hx hb (by omega) dX12_oddsNow_248 ?_
            refine lv_goto (tgt := 257) hx hb dX12_oddsNow_249 (by decide) ?_
            exact z_iret hQ hx hb hr hlocks hS ⟨(Nat.le_of_ble_eq_true rfl), (Nat.le_of_ble_eq_true rfl)⟩ dX12_oddsNow_257 (lk3, nx3) (congrArg (fun z => some (Value.int (iI z))) (show (oddsR (mi 1) z x t y pv : Int) = u / (gcdZ u w) by unfold oddsR; rw [if_pos (by omega), if_pos (by omega)]; unfold oddZ; rw [← hw, gcdZ_comm, ← hue]; first | (rw [if_pos (by omega)]; done) | (rw [if_neg (by omega)]; done))) trivial hP hD
        · skip
          refine lv_aload_n hx hb dX12_oddsNow_60 rfl (lv_at hl 0 rfl) ?_
          refine lv_iload_n hx hb dX12_oddsNow_61 rfl (lv_at hl 1 rfl) ?_
          have hPm := zp_perm hP (zblk (show List.Perm ([WMo o ma mi ml, WMp X ma pu, Wa X 2 (ma 22) 105 (savF 15 pv sa), Wa X 2 (ma 26) 3 lk3, Wa X 2 (ma 27) 3 nx3] : List va_W) ([WMo o ma mi ml, WMp X ma pu] ++ [Wa X 2 (ma 22) 105 (savF 15 pv sa), Wa X 2 (ma 26) 3 lk3, Wa X 2 (ma 27) 3 nx3]) from (zf1 _ 0 _ rfl).trans (((zf1 _ 0 _ rfl).trans ((List.Perm.refl _).cons _)).cons _)))
          have hDm := zd_perm hD (zblk (show List.Perm ([WMo o ma mi ml, WMp X ma pu, Wa X 2 (ma 22) 105 (savF 15 pv sa), Wa X 2 (ma 26) 3 lk3, Wa X 2 (ma 27) 3 nx3] : List va_W) ([WMo o ma mi ml, WMp X ma pu] ++ [Wa X 2 (ma 22) 105 (savF 15 pv sa), Wa X 2 (ma 26) 3 lk3, Wa X 2 (ma 27) 3 nx3]) from (zf1 _ 0 _ rfl).trans (((zf1 _ 0 _ rfl).trans ((List.Perm.refl _).cons _)).cons _)))
          refine z_callV (wr := zb [Wa X 2 (ma 22) 105 (savF 15 pv sa), Wa X 2 (ma 26) 3 lk3, Wa X 2 (ma 27) 3 nx3]) (As := [.int (iI z)]) (rest := []) ⟨hx, hb, hml, hown, hts⟩ (c_X12_rise l X o ma mi ml pu z (by exact hp2) (by omega)) (cwV 1 hts gX12_oddsNow_X12_rise rfl rfl rfl (by decide +kernel) ⟨Nat.le_of_ble_eq_true rfl, Nat.le_of_ble_eq_true rfl⟩) rfl rfl hl.1 dX12_oddsNow_62 rfl rfl (Nat.le_of_ble_eq_true rfl) ⟨(Nat.le_of_ble_eq_true rfl), (Nat.le_of_ble_eq_true rfl)⟩ hS hA hK hPm hDm (fun _ H locs _ hP hD hS => ?_)
          have hP := zp_perm hP ((zblk (show List.Perm ([WMo o ma mi ml, WMp X ma (va_up pu z.toNat (riseP (pu z.toNat))), Wa X 2 (ma 22) 105 (savF 15 pv sa), Wa X 2 (ma 26) 3 lk3, Wa X 2 (ma 27) 3 nx3] : List va_W) ([WMo o ma mi ml, WMp X ma (va_up pu z.toNat (riseP (pu z.toNat)))] ++ [Wa X 2 (ma 22) 105 (savF 15 pv sa), Wa X 2 (ma 26) 3 lk3, Wa X 2 (ma 27) 3 nx3]) from (zf1 _ 0 _ rfl).trans (((zf1 _ 0 _ rfl).trans ((List.Perm.refl _).cons _)).cons _)))).symm
          have hD := zd_perm hD ((zblk (show List.Perm ([WMo o ma mi ml, WMp X ma (va_up pu z.toNat (riseP (pu z.toNat))), Wa X 2 (ma 22) 105 (savF 15 pv sa), Wa X 2 (ma 26) 3 lk3, Wa X 2 (ma 27) 3 nx3] : List va_W) ([WMo o ma mi ml, WMp X ma (va_up pu z.toNat (riseP (pu z.toNat)))] ++ [Wa X 2 (ma 22) 105 (savF 15 pv sa), Wa X 2 (ma 26) 3 lk3, Wa X 2 (ma 27) 3 nx3]) from (zf1 _ 0 _ rfl).trans (((zf1 _ 0 _ rfl).trans ((List.Perm.refl _).cons _)).cons _)))).symm
          have hP : va_P X.1 vwCl (zb [WMo o ma mi ml, WMp X ma (va_up pu z.toNat (riseP (pu z.toNat))), Wa X 2 (ma 22) 105 (savF 15 pv sa), Wa X 2 (ma 26) 3 lk3, Wa X 2 (ma 27) 3 nx3]) H := hP
          have hD : va_D A (zb [WMo o ma mi ml, WMp X ma (va_up pu z.toNat (riseP (pu z.toNat))), Wa X 2 (ma 22) 105 (savF 15 pv sa), Wa X 2 (ma 26) 3 lk3, Wa X 2 (ma 27) 3 nx3]) := hD
          refine W.eq (g2 := F0 m 65 ls []) rfl ?_
          obtain ⟨pr, hpr⟩ : ∃ q : Nat → Nat → Int, q = va_up pu z.toNat (riseP (pu z.toNat)) := ⟨_, rfl⟩
          rw [← hpr] at hP hD
          have hrb := riseP_B hp2
          have hpe : pr z.toNat = riseP (pu z.toNat) := by rw [hpr]; exact va_up_s _ _ _
          have hpo : ∀ j, ¬ j = z.toNat → pr j = pv j := fun j hj => by rw [hpr, va_up_n _ _ hj]; exact hp1 j hj
          rw [← hpe] at hrb
          obtain ⟨hb1, hb2, hb3, hb4⟩ := hrb
          have hb5 := hb1.2.2.2.1
          have hb6 := hb1.2.2.2.2.2.2
          have hb7 := hb1.2.2.1
          have hb8 := hb1.2.2.2.2.1
          have hb9 := hb1.2.2.2.2.2.1
          refine lv_aload_n hx hb dX12_oddsNow_65 rfl (lv_at hl 0 rfl) ?_
          refine va_get (ci := 12) (v := .ref (ma 5)) (C := RX12) (T := TX12) (N := 38) hx hb hts inX12 hown hK.1 hP 0 rfl rfl 5 (by decide) (hts (.fieldLink RX12 16 "SkimmedSonsModel" "creamOf" "[I") (by decide +kernel)) (fun _ h9 => h9) rfl dX12_oddsNow_66 ?_
          refine lv_iload_n hx hb dX12_oddsNow_69 rfl (lv_at hl 1 rfl) ?_
          refine z_iald hx hb hK.1 hP 4 rfl (by omega) dX12_oddsNow_70 ?_
          refine W.eq (g2 := F0 m 71 ls [.int (iI (pr z.toNat 3))]) rfl ?_
          refine z_if_le (tgt := 78) hx hb (by omega) dX12_oddsNow_71 (by decide) (fun c_3 => ?_) (fun c_3 => ?_)
          · skip
            refine lv_iconst (v := iI 0) hx hb dX12_oddsNow_78 (by decide) ?_
            refine lv_istore (lv' := [(8, .int (iI 0)), (0, .ref o), (1, .int (iI z)), (2, .int (iI x)), (3, .int (iI t)), (4, .int (iI y)), (5, .int (iI u)), (6, .int (iI w)), (7, .int (iI (↑i)))]) hx hb dX12_oddsNow_79 hl (by decide) rfl (fun ls hl => ?_)
            refine lv_bipush (v := iI 10) hx hb dX12_oddsNow_81 (by decide) ?_
            refine lv_iload hx hb dX12_oddsNow_83 (lv_at hl 6 rfl) ?_
            refine z_imul hx hb dX12_oddsNow_85 ?_
            refine lv_iload hx hb dX12_oddsNow_86 (lv_at hl 0 rfl) ?_
            refine z_if_eq (tgt := 102) hx hb (by omega) dX12_oddsNow_88 (by decide) (fun c_4 => ?_) (fun c_4 => ?_)
            · skip
              refine lv_iconst (v := iI 0) hx hb dX12_oddsNow_102 (by decide) ?_
              refine z_iadd hx hb dX12_oddsNow_103 ?_
              refine z_topi (fun z_5 ez_5 => ?_)
              refine lv_istore (lv' := [(5, .int (iI z_5)), (8, .int (iI 0)), (0, .ref o), (1, .int (iI z)), (2, .int (iI x)), (3, .int (iI t)), (4, .int (iI y)), (6, .int (iI w)), (7, .int (iI (↑i)))]) hx hb dX12_oddsNow_104 hl (by decide) rfl (fun ls hl => ?_)
              refine lv_aload_n hx hb dX12_oddsNow_106 rfl (lv_at hl 2 rfl) ?_
              refine va_get (ci := 12) (v := .ref (ma 27)) (C := RX12) (T := TX12) (N := 38) hx hb hts inX12 hown hK.1 hP 0 rfl rfl 27 (by decide) (hts (.fieldLink RX12 62 "SkimmedSonsModel" "next" "[I") (by decide +kernel)) (fun _ h9 => h9) rfl dX12_oddsNow_107 ?_
              refine lv_iconst (v := iI 0) hx hb dX12_oddsNow_110 (by decide) ?_
              refine lv_aload_n hx hb dX12_oddsNow_111 rfl (lv_at hl 2 rfl) ?_
              refine va_get (ci := 12) (v := .ref (ma 26)) (C := RX12) (T := TX12) (N := 38) hx hb hts inX12 hown hK.1 hP 0 rfl rfl 26 (by decide) (hts (.fieldLink RX12 59 "SkimmedSonsModel" "likely" "[I") (by decide +kernel)) (fun _ h9 => h9) rfl dX12_oddsNow_112 ?_
              refine lv_iconst (v := iI 0) hx hb dX12_oddsNow_115 (by decide) ?_
              refine z_iald hx hb hK.1 hP 8 rfl (by omega) dX12_oddsNow_116 ?_
              refine W.eq (g2 := F0 m 117 ls [.int (iI (lk3 0)), .int (iI 0), .ref (ma 27)]) rfl ?_
              refine lv_aload_n hx hb dX12_oddsNow_117 rfl (lv_at hl 2 rfl) ?_
              refine va_get (ci := 12) (v := .ref (ma 26)) (C := RX12) (T := TX12) (N := 38) hx hb hts inX12 hown hK.1 hP 0 rfl rfl 26 (by decide) (hts (.fieldLink RX12 59 "SkimmedSonsModel" "likely" "[I") (by decide +kernel)) (fun _ h9 => h9) rfl dX12_oddsNow_118 ?_
              refine lv_iconst (v := iI 1) hx hb dX12_oddsNow_121 (by decide) ?_
              refine z_iald hx hb hK.1 hP 8 rfl (by omega) dX12_oddsNow_122 ?_
              refine W.eq (g2 := F0 m 123 ls [.int (iI (lk3 1)), .int (iI (lk3 0)), .int (iI 0), .ref (ma 27)]) rfl ?_
              refine z_iadd hx hb dX12_oddsNow_123 ?_
              refine lv_aload_n hx hb dX12_oddsNow_124 rfl (lv_at hl 2 rfl) ?_
              refine va_get (ci := 12) (v := .ref (ma 26)) (C := RX12) (T := TX12) (N := 38) hx hb hts inX12 hown hK.1 hP 0 rfl rfl 26 (by decide) (hts (.fieldLink RX12 59 "SkimmedSonsModel" "likely" "[I") (by decide +kernel)) (fun _ h9 => h9) rfl dX12_oddsNow_125 ?_
              refine lv_iconst (v := iI 2) hx hb dX12_oddsNow_128 (by decide) ?_
              refine z_iald hx hb hK.1 hP 8 rfl (by omega) dX12_oddsNow_129 ?_
              refine W.eq (g2 := F0 m 130 ls [.int (iI (lk3 2)), .int (iI ((lk3 0) + (lk3 1))), .int (iI 0), .ref (ma 27)]) rfl ?_
              refine z_iadd hx hb dX12_oddsNow_130 ?_
              refine lv_bipush (v := iI 10) hx hb dX12_oddsNow_131 (by decide) ?_
              refine lv_iload_n hx hb dX12_oddsNow_133 rfl (lv_at hl 5 rfl) ?_
              refine z_isub hx hb dX12_oddsNow_134 ?_
              refine z_imul hx hb dX12_oddsNow_135 ?_
              refine lv_iload hx hb dX12_oddsNow_136 (lv_at hl 1 rfl) ?_
              refine z_if_eq (tgt := 145) hx hb (by omega) dX12_oddsNow_138 (by decide) (fun c_6 => ?_) (fun c_6 => ?_)
              · skip
                refine lv_aload_n hx hb dX12_oddsNow_145 rfl (lv_at hl 2 rfl) ?_
                refine va_get (ci := 12) (v := .ref (ma 26)) (C := RX12) (T := TX12) (N := 38) hx hb hts inX12 hown hK.1 hP 0 rfl rfl 26 (by decide) (hts (.fieldLink RX12 59 "SkimmedSonsModel" "likely" "[I") (by decide +kernel)) (fun _ h9 => h9) rfl dX12_oddsNow_146 ?_
                refine lv_iconst (v := iI 2) hx hb dX12_oddsNow_149 (by decide) ?_
                refine z_iald hx hb hK.1 hP 8 rfl (by omega) dX12_oddsNow_150 ?_
                refine W.eq (g2 := F0 m 151 ls [.int (iI (lk3 2)), .int (iI ((((lk3 0) + (lk3 1)) + (lk3 2)) * (10 - t))), .int (iI 0), .ref (ma 27)]) rfl ?_
                refine lv_iload_n hx hb dX12_oddsNow_151 rfl (lv_at hl 5 rfl) ?_
                refine z_imul hx hb dX12_oddsNow_152 ?_
                refine z_iadd hx hb dX12_oddsNow_153 ?_
                refine z_topi (fun z_7 ez_7 => ?_)
                refine z_iast hx hb hK.1 hP hD hS 9 rfl (by omega) dX12_oddsNow_154 (fun H locs hP hD hS => ?_)
                have hP : va_P X.1 vwCl (zb [WMo o ma mi ml, WMp X ma pr, Wa X 2 (ma 22) 105 (savF 15 pv sa), Wa X 2 (ma 26) 3 lk3, Wa X 2 (ma 27) 3 (updZ nx3 0 z_7)]) H := hP
                have hD : va_D A (zb [WMo o ma mi ml, WMp X ma pr, Wa X 2 (ma 22) 105 (savF 15 pv sa), Wa X 2 (ma 26) 3 lk3, Wa X 2 (ma 27) 3 (updZ nx3 0 z_7)]) := hD
                refine lv_aload_n hx hb dX12_oddsNow_155 rfl (lv_at hl 2 rfl) ?_
                refine va_get (ci := 12) (v := .ref (ma 27)) (C := RX12) (T := TX12) (N := 38) hx hb hts inX12 hown hK.1 hP 0 rfl rfl 27 (by decide) (hts (.fieldLink RX12 62 "SkimmedSonsModel" "next" "[I") (by decide +kernel)) (fun _ h9 => h9) rfl dX12_oddsNow_156 ?_
                refine lv_iconst (v := iI 1) hx hb dX12_oddsNow_159 (by decide) ?_
                refine lv_aload_n hx hb dX12_oddsNow_160 rfl (lv_at hl 2 rfl) ?_
                refine va_get (ci := 12) (v := .ref (ma 26)) (C := RX12) (T := TX12) (N := 38) hx hb hts inX12 hown hK.1 hP 0 rfl rfl 26 (by decide) (hts (.fieldLink RX12 59 "SkimmedSonsModel" "likely" "[I") (by decide +kernel)) (fun _ h9 => h9) rfl dX12_oddsNow_161 ?_
                refine lv_iconst (v := iI 0) hx hb dX12_oddsNow_164 (by decide) ?_
                refine z_iald hx hb hK.1 hP 8 rfl (by omega) dX12_oddsNow_165 ?_
                refine W.eq (g2 := F0 m 166 ls [.int (iI (lk3 0)), .int (iI 1), .ref (ma 27)]) rfl ?_
                refine lv_iload_n hx hb dX12_oddsNow_166 rfl (lv_at hl 5 rfl) ?_
                refine z_imul hx hb dX12_oddsNow_167 ?_
                refine z_topi (fun z_8 ez_8 => ?_)
                refine z_iast hx hb hK.1 hP hD hS 9 rfl (by omega) dX12_oddsNow_168 (fun H locs hP hD hS => ?_)
                have hP : va_P X.1 vwCl (zb [WMo o ma mi ml, WMp X ma pr, Wa X 2 (ma 22) 105 (savF 15 pv sa), Wa X 2 (ma 26) 3 lk3, Wa X 2 (ma 27) 3 (updZ (updZ nx3 0 z_7) 1 z_8)]) H := hP
                have hD : va_D A (zb [WMo o ma mi ml, WMp X ma pr, Wa X 2 (ma 22) 105 (savF 15 pv sa), Wa X 2 (ma 26) 3 lk3, Wa X 2 (ma 27) 3 (updZ (updZ nx3 0 z_7) 1 z_8)]) := hD
                refine lv_aload_n hx hb dX12_oddsNow_169 rfl (lv_at hl 2 rfl) ?_
                refine va_get (ci := 12) (v := .ref (ma 27)) (C := RX12) (T := TX12) (N := 38) hx hb hts inX12 hown hK.1 hP 0 rfl rfl 27 (by decide) (hts (.fieldLink RX12 62 "SkimmedSonsModel" "next" "[I") (by decide +kernel)) (fun _ h9 => h9) rfl dX12_oddsNow_170 ?_
                refine lv_iconst (v := iI 2) hx hb dX12_oddsNow_173 (by decide) ?_
                refine lv_aload_n hx hb dX12_oddsNow_174 rfl (lv_at hl 2 rfl) ?_
                refine va_get (ci := 12) (v := .ref (ma 26)) (C := RX12) (T := TX12) (N := 38) hx hb hts inX12 hown hK.1 hP 0 rfl rfl 26 (by decide) (hts (.fieldLink RX12 59 "SkimmedSonsModel" "likely" "[I") (by decide +kernel)) (fun _ h9 => h9) rfl dX12_oddsNow_175 ?_
                refine lv_iconst (v := iI 1) hx hb dX12_oddsNow_178 (by decide) ?_
                refine z_iald hx hb hK.1 hP 8 rfl (by omega) dX12_oddsNow_179 ?_
                refine W.eq (g2 := F0 m 180 ls [.int (iI (lk3 1)), .int (iI 2), .ref (ma 27)]) rfl ?_
                refine lv_iload_n hx hb dX12_oddsNow_180 rfl (lv_at hl 5 rfl) ?_
                refine z_imul hx hb dX12_oddsNow_181 ?_
                refine z_topi (fun z_9 ez_9 => ?_)
                refine z_iast hx hb hK.1 hP hD hS 9 rfl (by omega) dX12_oddsNow_182 (fun H locs hP hD hS => ?_)
                have hP : va_P X.1 vwCl (zb [WMo o ma mi ml, WMp X ma pr, Wa X 2 (ma 22) 105 (savF 15 pv sa), Wa X 2 (ma 26) 3 lk3, Wa X 2 (ma 27) 3 (updZ (updZ (updZ nx3 0 z_7) 1 z_8) 2 z_9)]) H := hP
                have hD : va_D A (zb [WMo o ma mi ml, WMp X ma pr, Wa X 2 (ma 22) 105 (savF 15 pv sa), Wa X 2 (ma 26) 3 lk3, Wa X 2 (ma 27) 3 (updZ (updZ (updZ nx3 0 z_7) 1 z_8) 2 z_9)]) := hD
                refine lv_iconst (v := iI 0) hx hb dX12_oddsNow_183 (by decide) ?_
                refine lv_istore (lv' := [(9, .int (iI 0)), (5, .int (iI z_5)), (8, .int (iI 0)), (0, .ref o), (1, .int (iI z)), (2, .int (iI x)), (3, .int (iI t)), (4, .int (iI y)), (6, .int (iI w)), (7, .int (iI (↑i)))]) hx hb dX12_oddsNow_184 hl (by decide) rfl (fun ls hl => ?_)
                refine lv_iload hx hb dX12_oddsNow_186 (lv_at hl 0 rfl) ?_
                refine lv_iconst (v := iI 3) hx hb dX12_oddsNow_188 (by decide) ?_
                refine z_icmp_ge (tgt := 212) hx hb (by omega) dX12_oddsNow_189 (by decide) (fun c_10 => ?_) (fun c_10 => ?_)
                · skip
                  exact absurd c_10 (by omega)
                · skip
                  refine lv_aload_n hx hb dX12_oddsNow_192 rfl (lv_at hl 3 rfl) ?_
                  refine va_get (ci := 12) (v := .ref (ma 26)) (C := RX12) (T := TX12) (N := 38) hx hb hts inX12 hown hK.1 hP 0 rfl rfl 26 (by decide) (hts (.fieldLink RX12 59 "SkimmedSonsModel" "likely" "[I") (by decide +kernel)) (fun _ h9 => h9) rfl dX12_oddsNow_193 ?_
                  refine lv_iload hx hb dX12_oddsNow_196 (lv_at hl 0 rfl) ?_
                  refine lv_aload_n hx hb dX12_oddsNow_198 rfl (lv_at hl 3 rfl) ?_
                  refine va_get (ci := 12) (v := .ref (ma 27)) (C := RX12) (T := TX12) (N := 38) hx hb hts inX12 hown hK.1 hP 0 rfl rfl 27 (by decide) (hts (.fieldLink RX12 62 "SkimmedSonsModel" "next" "[I") (by decide +kernel)) (fun _ h9 => h9) rfl dX12_oddsNow_199 ?_
                  refine lv_iload hx hb dX12_oddsNow_202 (lv_at hl 0 rfl) ?_
                  refine z_iald hx hb hK.1 hP 9 rfl (by omega) dX12_oddsNow_204 ?_
                  refine W.eq (g2 := F0 m 205 ls [.int (iI z_7), .int (iI 0), .ref (ma 26)]) rfl ?_
                  refine z_iast hx hb hK.1 hP hD hS 8 rfl (by omega) dX12_oddsNow_205 (fun H locs hP hD hS => ?_)
                  have hP : va_P X.1 vwCl (zb [WMo o ma mi ml, WMp X ma pr, Wa X 2 (ma 22) 105 (savF 15 pv sa), Wa X 2 (ma 26) 3 (updZ lk3 0 z_7), Wa X 2 (ma 27) 3 (updZ (updZ (updZ nx3 0 z_7) 1 z_8) 2 z_9)]) H := hP
                  have hD : va_D A (zb [WMo o ma mi ml, WMp X ma pr, Wa X 2 (ma 22) 105 (savF 15 pv sa), Wa X 2 (ma 26) 3 (updZ lk3 0 z_7), Wa X 2 (ma 27) 3 (updZ (updZ (updZ nx3 0 z_7) 1 z_8) 2 z_9)]) := hD
                  refine z_iinc (k := 0) (lv' := [(9, .int (iI 1)), (5, .int (iI z_5)), (8, .int (iI 0)), (0, .ref o), (1, .int (iI z)), (2, .int (iI x)), (3, .int (iI t)), (4, .int (iI y)), (6, .int (iI w)), (7, .int (iI (↑i)))]) hx hb dX12_oddsNow_206 hl rfl (by decide) rfl (fun ls hl => ?_)
                  refine lv_goto (tgt := 186) hx hb dX12_oddsNow_209 (by decide) ?_
                  refine lv_iload hx hb dX12_oddsNow_186 (lv_at hl 0 rfl) ?_
                  refine lv_iconst (v := iI 3) hx hb dX12_oddsNow_188 (by decide) ?_
                  refine z_icmp_ge (tgt := 212) hx hb (by omega) dX12_oddsNow_189 (by decide) (fun c_11 => ?_) (fun c_11 => ?_)
                  · skip
                    exact absurd c_11 (by omega)
                  · skip
                    refine lv_aload_n hx hb dX12_oddsNow_192 rfl (lv_at hl 3 rfl) ?_
                    refine va_get (ci := 12) (v := .ref (ma 26)) (C := RX12) (T := TX12) (N := 38) hx hb hts inX12 hown hK.1 hP 0 rfl rfl 26 (by decide) (hts (.fieldLink RX12 59 "SkimmedSonsModel" "likely" "[I") (by decide +kernel)) (fun _ h9 => h9) rfl dX12_oddsNow_193 ?_
                    refine lv_iload hx hb dX12_oddsNow_196 (lv_at hl 0 rfl) ?_
                    refine lv_aload_n hx hb dX12_oddsNow_198 rfl (lv_at hl 3 rfl) ?_
                    refine va_get (ci := 12) (v := .ref (ma 27)) (C := RX12) (T := TX12) (N := 38) hx hb hts inX12 hown hK.1 hP 0 rfl rfl 27 (by decide) (hts (.fieldLink RX12 62 "SkimmedSonsModel" "next" "[I") (by decide +kernel)) (fun _ h9 => h9) rfl dX12_oddsNow_199 ?_
                    refine lv_iload hx hb dX12_oddsNow_202 (lv_at hl 0 rfl) ?_
                    refine z_iald hx hb hK.1 hP 9 rfl (by omega) dX12_oddsNow_204 ?_
                    refine W.eq (g2 := F0 m 205 ls [.int (iI z_8), .int (iI 1), .ref (ma 26)]) rfl ?_
                    refine z_iast hx hb hK.1 hP hD hS 8 rfl (by omega) dX12_oddsNow_205 (fun H locs hP hD hS => ?_)
                    have hP : va_P X.1 vwCl (zb [WMo o ma mi ml, WMp X ma pr, Wa X 2 (ma 22) 105 (savF 15 pv sa), Wa X 2 (ma 26) 3 (updZ (updZ lk3 0 z_7) 1 z_8), Wa X 2 (ma 27) 3 (updZ (updZ (updZ nx3 0 z_7) 1 z_8) 2 z_9)]) H := hP
                    have hD : va_D A (zb [WMo o ma mi ml, WMp X ma pr, Wa X 2 (ma 22) 105 (savF 15 pv sa), Wa X 2 (ma 26) 3 (updZ (updZ lk3 0 z_7) 1 z_8), Wa X 2 (ma 27) 3 (updZ (updZ (updZ nx3 0 z_7) 1 z_8) 2 z_9)]) := hD
                    refine z_iinc (k := 0) (lv' := [(9, .int (iI 2)), (5, .int (iI z_5)), (8, .int (iI 0)), (0, .ref o), (1, .int (iI z)), (2, .int (iI x)), (3, .int (iI t)), (4, .int (iI y)), (6, .int (iI w)), (7, .int (iI (↑i)))]) hx hb dX12_oddsNow_206 hl rfl (by decide) rfl (fun ls hl => ?_)
                    refine lv_goto (tgt := 186) hx hb dX12_oddsNow_209 (by decide) ?_
                    refine lv_iload hx hb dX12_oddsNow_186 (lv_at hl 0 rfl) ?_
                    refine lv_iconst (v := iI 3) hx hb dX12_oddsNow_188 (by decide) ?_
                    refine z_icmp_ge (tgt := 212) hx hb (by omega) dX12_oddsNow_189 (by decide) (fun c_12 => ?_) (fun c_12 => ?_)
                    · skip
                      exact absurd c_12 (by omega)
                    · skip
                      refine lv_aload_n hx hb dX12_oddsNow_192 rfl (lv_at hl 3 rfl) ?_
                      refine va_get (ci := 12) (v := .ref (ma 26)) (C := RX12) (T := TX12) (N := 38) hx hb hts inX12 hown hK.1 hP 0 rfl rfl 26 (by decide) (hts (.fieldLink RX12 59 "SkimmedSonsModel" "likely" "[I") (by decide +kernel)) (fun _ h9 => h9) rfl dX12_oddsNow_193 ?_
                      refine lv_iload hx hb dX12_oddsNow_196 (lv_at hl 0 rfl) ?_
                      refine lv_aload_n hx hb dX12_oddsNow_198 rfl (lv_at hl 3 rfl) ?_
                      refine va_get (ci := 12) (v := .ref (ma 27)) (C := RX12) (T := TX12) (N := 38) hx hb hts inX12 hown hK.1 hP 0 rfl rfl 27 (by decide) (hts (.fieldLink RX12 62 "SkimmedSonsModel" "next" "[I") (by decide +kernel)) (fun _ h9 => h9) rfl dX12_oddsNow_199 ?_
                      refine lv_iload hx hb dX12_oddsNow_202 (lv_at hl 0 rfl) ?_
                      refine z_iald hx hb hK.1 hP 9 rfl (by omega) dX12_oddsNow_204 ?_
                      refine W.eq (g2 := F0 m 205 ls [.int (iI z_9), .int (iI 2), .ref (ma 26)]) rfl ?_
                      refine z_iast hx hb hK.1 hP hD hS 8 rfl (by omega) dX12_oddsNow_205 (fun H locs hP hD hS => ?_)
                      have hP : va_P X.1 vwCl (zb [WMo o ma mi ml, WMp X ma pr, Wa X 2 (ma 22) 105 (savF 15 pv sa), Wa X 2 (ma 26) 3 (updZ (updZ (updZ lk3 0 z_7) 1 z_8) 2 z_9), Wa X 2 (ma 27) 3 (updZ (updZ (updZ nx3 0 z_7) 1 z_8) 2 z_9)]) H := hP
                      have hD : va_D A (zb [WMo o ma mi ml, WMp X ma pr, Wa X 2 (ma 22) 105 (savF 15 pv sa), Wa X 2 (ma 26) 3 (updZ (updZ (updZ lk3 0 z_7) 1 z_8) 2 z_9), Wa X 2 (ma 27) 3 (updZ (updZ (updZ nx3 0 z_7) 1 z_8) 2 z_9)]) := hD
                      refine z_iinc (k := 0) (lv' := [(9, .int (iI 3)), (5, .int (iI z_5)), (8, .int (iI 0)), (0, .ref o), (1, .int (iI z)), (2, .int (iI x)), (3, .int (iI t)), (4, .int (iI y)), (6, .int (iI w)), (7, .int (iI (↑i)))]) hx hb dX12_oddsNow_206 hl rfl (by decide) rfl (fun ls hl => ?_)
                      refine lv_goto (tgt := 186) hx hb dX12_oddsNow_209 (by decide) ?_
                      refine lv_iload hx hb dX12_oddsNow_186 (lv_at hl 0 rfl) ?_
                      refine lv_iconst (v := iI 3) hx hb dX12_oddsNow_188 (by decide) ?_
                      refine z_icmp_ge (tgt := 212) hx hb (by omega) dX12_oddsNow_189 (by decide) (fun c_13 => ?_) (fun c_13 => ?_)
                      · skip
                        refine lv_iload hx hb dX12_oddsNow_212 (lv_at hl 8 rfl) ?_
                        refine lv_bipush (v := iI 10) hx hb dX12_oddsNow_214 (by decide) ?_
                        refine z_imul hx hb dX12_oddsNow_216 ?_
                        refine z_topi (fun z_14 ez_14 => ?_)
                        refine lv_istore (lv' := [(6, .int (iI z_14)), (9, .int (iI 3)), (5, .int (iI z_5)), (8, .int (iI 0)), (0, .ref o), (1, .int (iI z)), (2, .int (iI x)), (3, .int (iI t)), (4, .int (iI y)), (7, .int (iI (↑i)))]) hx hb dX12_oddsNow_217 hl (by decide) rfl (fun ls hl => ?_)
                        refine z_iinc (k := 9) (lv' := [(7, .int (iI ((↑i) + 1))), (6, .int (iI z_14)), (9, .int (iI 3)), (5, .int (iI z_5)), (8, .int (iI 0)), (0, .ref o), (1, .int (iI z)), (2, .int (iI x)), (3, .int (iI t)), (4, .int (iI y))]) hx hb dX12_oddsNow_219 hl rfl (by decide) rfl (fun ls hl => ?_)
                        refine lv_goto (tgt := 54) hx hb dX12_oddsNow_222 (by decide) ?_
                        exact ih54  (i + 1) z_5 z_14 (updZ (updZ (updZ lk3 0 z_7) 1 z_8) 2 z_9) (updZ (updZ (updZ nx3 0 z_7) 1 z_8) 2 z_9) pr (by omega) (by rw [ez_14, hw, Int.pow_succ]) (by first | (exfalso; omega) | (have h9 := odd_s1 (by omega) hod; subst_vars; simp only [Int.add_zero]; exact h9) | (have h9 := odd_s0 (m0 := (updZ (updZ (updZ lk3 0 z_7) 1 z_8) 2 z_9) 0) (m1 := (updZ (updZ (updZ lk3 0 z_7) 1 z_8) 2 z_9) 1) (m2 := (updZ (updZ (updZ lk3 0 z_7) 1 z_8) 2 z_9) 2) (by omega) hod; subst_vars; exact h9)) (by exact hpo) (by exact hb1) (by omega) (by omega) (by omega) _ _ _ hP hD hS (lv_sub hl [5, 6, 7, 8, 9, 3, 1, 0] rfl)
                      · skip
                        exact absurd c_13 (by omega)
              · skip
                exact absurd c_6 (by omega)
            · skip
              exact absurd c_4 (by omega)
          · skip
            refine lv_iconst (v := iI 1) hx hb dX12_oddsNow_74 (by decide) ?_
            refine lv_goto (tgt := 79) hx hb dX12_oddsNow_75 (by decide) ?_
            refine lv_istore (lv' := [(8, .int (iI 1)), (0, .ref o), (1, .int (iI z)), (2, .int (iI x)), (3, .int (iI t)), (4, .int (iI y)), (5, .int (iI u)), (6, .int (iI w)), (7, .int (iI (↑i)))]) hx hb dX12_oddsNow_79 hl (by decide) rfl (fun ls hl => ?_)
            refine lv_bipush (v := iI 10) hx hb dX12_oddsNow_81 (by decide) ?_
            refine lv_iload hx hb dX12_oddsNow_83 (lv_at hl 6 rfl) ?_
            refine z_imul hx hb dX12_oddsNow_85 ?_
            refine lv_iload hx hb dX12_oddsNow_86 (lv_at hl 0 rfl) ?_
            refine z_if_eq (tgt := 102) hx hb (by omega) dX12_oddsNow_88 (by decide) (fun c_16 => ?_) (fun c_16 => ?_)
            · skip
              exact absurd c_16 (by omega)
            · skip
              refine lv_aload_n hx hb dX12_oddsNow_91 rfl (lv_at hl 1 rfl) ?_
              refine va_get (ci := 12) (v := .ref (ma 26)) (C := RX12) (T := TX12) (N := 38) hx hb hts inX12 hown hK.1 hP 0 rfl rfl 26 (by decide) (hts (.fieldLink RX12 59 "SkimmedSonsModel" "likely" "[I") (by decide +kernel)) (fun _ h9 => h9) rfl dX12_oddsNow_92 ?_
              refine lv_iconst (v := iI 2) hx hb dX12_oddsNow_95 (by decide) ?_
              refine z_iald hx hb hK.1 hP 8 rfl (by omega) dX12_oddsNow_96 ?_
              refine W.eq (g2 := F0 m 97 ls [.int (iI (lk3 2)), .int (iI (10 * u))]) rfl ?_
              refine lv_iload_n hx hb dX12_oddsNow_97 rfl (lv_at hl 4 rfl) ?_
              refine z_imul hx hb dX12_oddsNow_98 ?_
              refine lv_goto (tgt := 103) hx hb dX12_oddsNow_99 (by decide) ?_
              refine z_iadd hx hb dX12_oddsNow_103 ?_
              refine z_topi (fun z_17 ez_17 => ?_)
              refine lv_istore (lv' := [(5, .int (iI z_17)), (8, .int (iI 1)), (0, .ref o), (1, .int (iI z)), (2, .int (iI x)), (3, .int (iI t)), (4, .int (iI y)), (6, .int (iI w)), (7, .int (iI (↑i)))]) hx hb dX12_oddsNow_104 hl (by decide) rfl (fun ls hl => ?_)
              refine lv_aload_n hx hb dX12_oddsNow_106 rfl (lv_at hl 2 rfl) ?_
              refine va_get (ci := 12) (v := .ref (ma 27)) (C := RX12) (T := TX12) (N := 38) hx hb hts inX12 hown hK.1 hP 0 rfl rfl 27 (by decide) (hts (.fieldLink RX12 62 "SkimmedSonsModel" "next" "[I") (by decide +kernel)) (fun _ h9 => h9) rfl dX12_oddsNow_107 ?_
              refine lv_iconst (v := iI 0) hx hb dX12_oddsNow_110 (by decide) ?_
              refine lv_aload_n hx hb dX12_oddsNow_111 rfl (lv_at hl 2 rfl) ?_
              refine va_get (ci := 12) (v := .ref (ma 26)) (C := RX12) (T := TX12) (N := 38) hx hb hts inX12 hown hK.1 hP 0 rfl rfl 26 (by decide) (hts (.fieldLink RX12 59 "SkimmedSonsModel" "likely" "[I") (by decide +kernel)) (fun _ h9 => h9) rfl dX12_oddsNow_112 ?_
              refine lv_iconst (v := iI 0) hx hb dX12_oddsNow_115 (by decide) ?_
              refine z_iald hx hb hK.1 hP 8 rfl (by omega) dX12_oddsNow_116 ?_
              refine W.eq (g2 := F0 m 117 ls [.int (iI (lk3 0)), .int (iI 0), .ref (ma 27)]) rfl ?_
              refine lv_aload_n hx hb dX12_oddsNow_117 rfl (lv_at hl 2 rfl) ?_
              refine va_get (ci := 12) (v := .ref (ma 26)) (C := RX12) (T := TX12) (N := 38) hx hb hts inX12 hown hK.1 hP 0 rfl rfl 26 (by decide) (hts (.fieldLink RX12 59 "SkimmedSonsModel" "likely" "[I") (by decide +kernel)) (fun _ h9 => h9) rfl dX12_oddsNow_118 ?_
              refine lv_iconst (v := iI 1) hx hb dX12_oddsNow_121 (by decide) ?_
              refine z_iald hx hb hK.1 hP 8 rfl (by omega) dX12_oddsNow_122 ?_
              refine W.eq (g2 := F0 m 123 ls [.int (iI (lk3 1)), .int (iI (lk3 0)), .int (iI 0), .ref (ma 27)]) rfl ?_
              refine z_iadd hx hb dX12_oddsNow_123 ?_
              refine lv_aload_n hx hb dX12_oddsNow_124 rfl (lv_at hl 2 rfl) ?_
              refine va_get (ci := 12) (v := .ref (ma 26)) (C := RX12) (T := TX12) (N := 38) hx hb hts inX12 hown hK.1 hP 0 rfl rfl 26 (by decide) (hts (.fieldLink RX12 59 "SkimmedSonsModel" "likely" "[I") (by decide +kernel)) (fun _ h9 => h9) rfl dX12_oddsNow_125 ?_
              refine lv_iconst (v := iI 2) hx hb dX12_oddsNow_128 (by decide) ?_
              refine z_iald hx hb hK.1 hP 8 rfl (by omega) dX12_oddsNow_129 ?_
              refine W.eq (g2 := F0 m 130 ls [.int (iI (lk3 2)), .int (iI ((lk3 0) + (lk3 1))), .int (iI 0), .ref (ma 27)]) rfl ?_
              refine z_iadd hx hb dX12_oddsNow_130 ?_
              refine lv_bipush (v := iI 10) hx hb dX12_oddsNow_131 (by decide) ?_
              refine lv_iload_n hx hb dX12_oddsNow_133 rfl (lv_at hl 5 rfl) ?_
              refine z_isub hx hb dX12_oddsNow_134 ?_
              refine z_imul hx hb dX12_oddsNow_135 ?_
              refine lv_iload hx hb dX12_oddsNow_136 (lv_at hl 1 rfl) ?_
              refine z_if_eq (tgt := 145) hx hb (by omega) dX12_oddsNow_138 (by decide) (fun c_18 => ?_) (fun c_18 => ?_)
              · skip
                exact absurd c_18 (by omega)
              · skip
                refine lv_iconst (v := iI 0) hx hb dX12_oddsNow_141 (by decide) ?_
                refine lv_goto (tgt := 153) hx hb dX12_oddsNow_142 (by decide) ?_
                refine z_iadd hx hb dX12_oddsNow_153 ?_
                refine z_topi (fun z_19 ez_19 => ?_)
                refine z_iast hx hb hK.1 hP hD hS 9 rfl (by omega) dX12_oddsNow_154 (fun H locs hP hD hS => ?_)
                have hP : va_P X.1 vwCl (zb [WMo o ma mi ml, WMp X ma pr, Wa X 2 (ma 22) 105 (savF 15 pv sa), Wa X 2 (ma 26) 3 lk3, Wa X 2 (ma 27) 3 (updZ nx3 0 z_19)]) H := hP
                have hD : va_D A (zb [WMo o ma mi ml, WMp X ma pr, Wa X 2 (ma 22) 105 (savF 15 pv sa), Wa X 2 (ma 26) 3 lk3, Wa X 2 (ma 27) 3 (updZ nx3 0 z_19)]) := hD
                refine lv_aload_n hx hb dX12_oddsNow_155 rfl (lv_at hl 2 rfl) ?_
                refine va_get (ci := 12) (v := .ref (ma 27)) (C := RX12) (T := TX12) (N := 38) hx hb hts inX12 hown hK.1 hP 0 rfl rfl 27 (by decide) (hts (.fieldLink RX12 62 "SkimmedSonsModel" "next" "[I") (by decide +kernel)) (fun _ h9 => h9) rfl dX12_oddsNow_156 ?_
                refine lv_iconst (v := iI 1) hx hb dX12_oddsNow_159 (by decide) ?_
                refine lv_aload_n hx hb dX12_oddsNow_160 rfl (lv_at hl 2 rfl) ?_
                refine va_get (ci := 12) (v := .ref (ma 26)) (C := RX12) (T := TX12) (N := 38) hx hb hts inX12 hown hK.1 hP 0 rfl rfl 26 (by decide) (hts (.fieldLink RX12 59 "SkimmedSonsModel" "likely" "[I") (by decide +kernel)) (fun _ h9 => h9) rfl dX12_oddsNow_161 ?_
                refine lv_iconst (v := iI 0) hx hb dX12_oddsNow_164 (by decide) ?_
                refine z_iald hx hb hK.1 hP 8 rfl (by omega) dX12_oddsNow_165 ?_
                refine W.eq (g2 := F0 m 166 ls [.int (iI (lk3 0)), .int (iI 1), .ref (ma 27)]) rfl ?_
                refine lv_iload_n hx hb dX12_oddsNow_166 rfl (lv_at hl 5 rfl) ?_
                refine z_imul hx hb dX12_oddsNow_167 ?_
                refine z_topi (fun z_20 ez_20 => ?_)
                refine z_iast hx hb hK.1 hP hD hS 9 rfl (by omega) dX12_oddsNow_168 (fun H locs hP hD hS => ?_)
                have hP : va_P X.1 vwCl (zb [WMo o ma mi ml, WMp X ma pr, Wa X 2 (ma 22) 105 (savF 15 pv sa), Wa X 2 (ma 26) 3 lk3, Wa X 2 (ma 27) 3 (updZ (updZ nx3 0 z_19) 1 z_20)]) H := hP
                have hD : va_D A (zb [WMo o ma mi ml, WMp X ma pr, Wa X 2 (ma 22) 105 (savF 15 pv sa), Wa X 2 (ma 26) 3 lk3, Wa X 2 (ma 27) 3 (updZ (updZ nx3 0 z_19) 1 z_20)]) := hD
                refine lv_aload_n hx hb dX12_oddsNow_169 rfl (lv_at hl 2 rfl) ?_
                refine va_get (ci := 12) (v := .ref (ma 27)) (C := RX12) (T := TX12) (N := 38) hx hb hts inX12 hown hK.1 hP 0 rfl rfl 27 (by decide) (hts (.fieldLink RX12 62 "SkimmedSonsModel" "next" "[I") (by decide +kernel)) (fun _ h9 => h9) rfl dX12_oddsNow_170 ?_
                refine lv_iconst (v := iI 2) hx hb dX12_oddsNow_173 (by decide) ?_
                refine lv_aload_n hx hb dX12_oddsNow_174 rfl (lv_at hl 2 rfl) ?_
                refine va_get (ci := 12) (v := .ref (ma 26)) (C := RX12) (T := TX12) (N := 38) hx hb hts inX12 hown hK.1 hP 0 rfl rfl 26 (by decide) (hts (.fieldLink RX12 59 "SkimmedSonsModel" "likely" "[I") (by decide +kernel)) (fun _ h9 => h9) rfl dX12_oddsNow_175 ?_
                refine lv_iconst (v := iI 1) hx hb dX12_oddsNow_178 (by decide) ?_
                refine z_iald hx hb hK.1 hP 8 rfl (by omega) dX12_oddsNow_179 ?_
                refine W.eq (g2 := F0 m 180 ls [.int (iI (lk3 1)), .int (iI 2), .ref (ma 27)]) rfl ?_
                refine lv_iload_n hx hb dX12_oddsNow_180 rfl (lv_at hl 5 rfl) ?_
                refine z_imul hx hb dX12_oddsNow_181 ?_
                refine z_topi (fun z_21 ez_21 => ?_)
                refine z_iast hx hb hK.1 hP hD hS 9 rfl (by omega) dX12_oddsNow_182 (fun H locs hP hD hS => ?_)
                have hP : va_P X.1 vwCl (zb [WMo o ma mi ml, WMp X ma pr, Wa X 2 (ma 22) 105 (savF 15 pv sa), Wa X 2 (ma 26) 3 lk3, Wa X 2 (ma 27) 3 (updZ (updZ (updZ nx3 0 z_19) 1 z_20) 2 z_21)]) H := hP
                have hD : va_D A (zb [WMo o ma mi ml, WMp X ma pr, Wa X 2 (ma 22) 105 (savF 15 pv sa), Wa X 2 (ma 26) 3 lk3, Wa X 2 (ma 27) 3 (updZ (updZ (updZ nx3 0 z_19) 1 z_20) 2 z_21)]) := hD
                refine lv_iconst (v := iI 0) hx hb dX12_oddsNow_183 (by decide) ?_
                refine lv_istore (lv' := [(9, .int (iI 0)), (5, .int (iI z_17)), (8, .int (iI 1)), (0, .ref o), (1, .int (iI z)), (2, .int (iI x)), (3, .int (iI t)), (4, .int (iI y)), (6, .int (iI w)), (7, .int (iI (↑i)))]) hx hb dX12_oddsNow_184 hl (by decide) rfl (fun ls hl => ?_)
                refine lv_iload hx hb dX12_oddsNow_186 (lv_at hl 0 rfl) ?_
                refine lv_iconst (v := iI 3) hx hb dX12_oddsNow_188 (by decide) ?_
                refine z_icmp_ge (tgt := 212) hx hb (by omega) dX12_oddsNow_189 (by decide) (fun c_22 => ?_) (fun c_22 => ?_)
                · skip
                  exact absurd c_22 (by omega)
                · skip
                  refine lv_aload_n hx hb dX12_oddsNow_192 rfl (lv_at hl 3 rfl) ?_
                  refine va_get (ci := 12) (v := .ref (ma 26)) (C := RX12) (T := TX12) (N := 38) hx hb hts inX12 hown hK.1 hP 0 rfl rfl 26 (by decide) (hts (.fieldLink RX12 59 "SkimmedSonsModel" "likely" "[I") (by decide +kernel)) (fun _ h9 => h9) rfl dX12_oddsNow_193 ?_
                  refine lv_iload hx hb dX12_oddsNow_196 (lv_at hl 0 rfl) ?_
                  refine lv_aload_n hx hb dX12_oddsNow_198 rfl (lv_at hl 3 rfl) ?_
                  refine va_get (ci := 12) (v := .ref (ma 27)) (C := RX12) (T := TX12) (N := 38) hx hb hts inX12 hown hK.1 hP 0 rfl rfl 27 (by decide) (hts (.fieldLink RX12 62 "SkimmedSonsModel" "next" "[I") (by decide +kernel)) (fun _ h9 => h9) rfl dX12_oddsNow_199 ?_
                  refine lv_iload hx hb dX12_oddsNow_202 (lv_at hl 0 rfl) ?_
                  refine z_iald hx hb hK.1 hP 9 rfl (by omega) dX12_oddsNow_204 ?_
                  refine W.eq (g2 := F0 m 205 ls [.int (iI z_19), .int (iI 0), .ref (ma 26)]) rfl ?_
                  refine z_iast hx hb hK.1 hP hD hS 8 rfl (by omega) dX12_oddsNow_205 (fun H locs hP hD hS => ?_)
                  have hP : va_P X.1 vwCl (zb [WMo o ma mi ml, WMp X ma pr, Wa X 2 (ma 22) 105 (savF 15 pv sa), Wa X 2 (ma 26) 3 (updZ lk3 0 z_19), Wa X 2 (ma 27) 3 (updZ (updZ (updZ nx3 0 z_19) 1 z_20) 2 z_21)]) H := hP
                  have hD : va_D A (zb [WMo o ma mi ml, WMp X ma pr, Wa X 2 (ma 22) 105 (savF 15 pv sa), Wa X 2 (ma 26) 3 (updZ lk3 0 z_19), Wa X 2 (ma 27) 3 (updZ (updZ (updZ nx3 0 z_19) 1 z_20) 2 z_21)]) := hD
                  refine z_iinc (k := 0) (lv' := [(9, .int (iI 1)), (5, .int (iI z_17)), (8, .int (iI 1)), (0, .ref o), (1, .int (iI z)), (2, .int (iI x)), (3, .int (iI t)), (4, .int (iI y)), (6, .int (iI w)), (7, .int (iI (↑i)))]) hx hb dX12_oddsNow_206 hl rfl (by decide) rfl (fun ls hl => ?_)
                  refine lv_goto (tgt := 186) hx hb dX12_oddsNow_209 (by decide) ?_
                  refine lv_iload hx hb dX12_oddsNow_186 (lv_at hl 0 rfl) ?_
                  refine lv_iconst (v := iI 3) hx hb dX12_oddsNow_188 (by decide) ?_
                  refine z_icmp_ge (tgt := 212) hx hb (by omega) dX12_oddsNow_189 (by decide) (fun c_23 => ?_) (fun c_23 => ?_)
                  · skip
                    exact absurd c_23 (by omega)
                  · skip
                    refine lv_aload_n hx hb dX12_oddsNow_192 rfl (lv_at hl 3 rfl) ?_
                    refine va_get (ci := 12) (v := .ref (ma 26)) (C := RX12) (T := TX12) (N := 38) hx hb hts inX12 hown hK.1 hP 0 rfl rfl 26 (by decide) (hts (.fieldLink RX12 59 "SkimmedSonsModel" "likely" "[I") (by decide +kernel)) (fun _ h9 => h9) rfl dX12_oddsNow_193 ?_
                    refine lv_iload hx hb dX12_oddsNow_196 (lv_at hl 0 rfl) ?_
                    refine lv_aload_n hx hb dX12_oddsNow_198 rfl (lv_at hl 3 rfl) ?_
                    refine va_get (ci := 12) (v := .ref (ma 27)) (C := RX12) (T := TX12) (N := 38) hx hb hts inX12 hown hK.1 hP 0 rfl rfl 27 (by decide) (hts (.fieldLink RX12 62 "SkimmedSonsModel" "next" "[I") (by decide +kernel)) (fun _ h9 => h9) rfl dX12_oddsNow_199 ?_
                    refine lv_iload hx hb dX12_oddsNow_202 (lv_at hl 0 rfl) ?_
                    refine z_iald hx hb hK.1 hP 9 rfl (by omega) dX12_oddsNow_204 ?_
                    refine W.eq (g2 := F0 m 205 ls [.int (iI z_20), .int (iI 1), .ref (ma 26)]) rfl ?_
                    refine z_iast hx hb hK.1 hP hD hS 8 rfl (by omega) dX12_oddsNow_205 (fun H locs hP hD hS => ?_)
                    have hP : va_P X.1 vwCl (zb [WMo o ma mi ml, WMp X ma pr, Wa X 2 (ma 22) 105 (savF 15 pv sa), Wa X 2 (ma 26) 3 (updZ (updZ lk3 0 z_19) 1 z_20), Wa X 2 (ma 27) 3 (updZ (updZ (updZ nx3 0 z_19) 1 z_20) 2 z_21)]) H := hP
                    have hD : va_D A (zb [WMo o ma mi ml, WMp X ma pr, Wa X 2 (ma 22) 105 (savF 15 pv sa), Wa X 2 (ma 26) 3 (updZ (updZ lk3 0 z_19) 1 z_20), Wa X 2 (ma 27) 3 (updZ (updZ (updZ nx3 0 z_19) 1 z_20) 2 z_21)]) := hD
                    refine z_iinc (k := 0) (lv' := [(9, .int (iI 2)), (5, .int (iI z_17)), (8, .int (iI 1)), (0, .ref o), (1, .int (iI z)), (2, .int (iI x)), (3, .int (iI t)), (4, .int (iI y)), (6, .int (iI w)), (7, .int (iI (↑i)))]) hx hb dX12_oddsNow_206 hl rfl (by decide) rfl (fun ls hl => ?_)
                    refine lv_goto (tgt := 186) hx hb dX12_oddsNow_209 (by decide) ?_
                    refine lv_iload hx hb dX12_oddsNow_186 (lv_at hl 0 rfl) ?_
                    refine lv_iconst (v := iI 3) hx hb dX12_oddsNow_188 (by decide) ?_
                    refine z_icmp_ge (tgt := 212) hx hb (by omega) dX12_oddsNow_189 (by decide) (fun c_24 => ?_) (fun c_24 => ?_)
                    · skip
                      exact absurd c_24 (by omega)
                    · skip
                      refine lv_aload_n hx hb dX12_oddsNow_192 rfl (lv_at hl 3 rfl) ?_
                      refine va_get (ci := 12) (v := .ref (ma 26)) (C := RX12) (T := TX12) (N := 38) hx hb hts inX12 hown hK.1 hP 0 rfl rfl 26 (by decide) (hts (.fieldLink RX12 59 "SkimmedSonsModel" "likely" "[I") (by decide +kernel)) (fun _ h9 => h9) rfl dX12_oddsNow_193 ?_
                      refine lv_iload hx hb dX12_oddsNow_196 (lv_at hl 0 rfl) ?_
                      refine lv_aload_n hx hb dX12_oddsNow_198 rfl (lv_at hl 3 rfl) ?_
                      refine va_get (ci := 12) (v := .ref (ma 27)) (C := RX12) (T := TX12) (N := 38) hx hb hts inX12 hown hK.1 hP 0 rfl rfl 27 (by decide) (hts (.fieldLink RX12 62 "SkimmedSonsModel" "next" "[I") (by decide +kernel)) (fun _ h9 => h9) rfl dX12_oddsNow_199 ?_
                      refine lv_iload hx hb dX12_oddsNow_202 (lv_at hl 0 rfl) ?_
                      refine z_iald hx hb hK.1 hP 9 rfl (by omega) dX12_oddsNow_204 ?_
                      refine W.eq (g2 := F0 m 205 ls [.int (iI z_21), .int (iI 2), .ref (ma 26)]) rfl ?_
                      refine z_iast hx hb hK.1 hP hD hS 8 rfl (by omega) dX12_oddsNow_205 (fun H locs hP hD hS => ?_)
                      have hP : va_P X.1 vwCl (zb [WMo o ma mi ml, WMp X ma pr, Wa X 2 (ma 22) 105 (savF 15 pv sa), Wa X 2 (ma 26) 3 (updZ (updZ (updZ lk3 0 z_19) 1 z_20) 2 z_21), Wa X 2 (ma 27) 3 (updZ (updZ (updZ nx3 0 z_19) 1 z_20) 2 z_21)]) H := hP
                      have hD : va_D A (zb [WMo o ma mi ml, WMp X ma pr, Wa X 2 (ma 22) 105 (savF 15 pv sa), Wa X 2 (ma 26) 3 (updZ (updZ (updZ lk3 0 z_19) 1 z_20) 2 z_21), Wa X 2 (ma 27) 3 (updZ (updZ (updZ nx3 0 z_19) 1 z_20) 2 z_21)]) := hD
                      refine z_iinc (k := 0) (lv' := [(9, .int (iI 3)), (5, .int (iI z_17)), (8, .int (iI 1)), (0, .ref o), (1, .int (iI z)), (2, .int (iI x)), (3, .int (iI t)), (4, .int (iI y)), (6, .int (iI w)), (7, .int (iI (↑i)))]) hx hb dX12_oddsNow_206 hl rfl (by decide) rfl (fun ls hl => ?_)
                      refine lv_goto (tgt := 186) hx hb dX12_oddsNow_209 (by decide) ?_
                      refine lv_iload hx hb dX12_oddsNow_186 (lv_at hl 0 rfl) ?_
                      refine lv_iconst (v := iI 3) hx hb dX12_oddsNow_188 (by decide) ?_
                      refine z_icmp_ge (tgt := 212) hx hb (by omega) dX12_oddsNow_189 (by decide) (fun c_25 => ?_) (fun c_25 => ?_)
                      · skip
                        refine lv_iload hx hb dX12_oddsNow_212 (lv_at hl 8 rfl) ?_
                        refine lv_bipush (v := iI 10) hx hb dX12_oddsNow_214 (by decide) ?_
                        refine z_imul hx hb dX12_oddsNow_216 ?_
                        refine z_topi (fun z_26 ez_26 => ?_)
                        refine lv_istore (lv' := [(6, .int (iI z_26)), (9, .int (iI 3)), (5, .int (iI z_17)), (8, .int (iI 1)), (0, .ref o), (1, .int (iI z)), (2, .int (iI x)), (3, .int (iI t)), (4, .int (iI y)), (7, .int (iI (↑i)))]) hx hb dX12_oddsNow_217 hl (by decide) rfl (fun ls hl => ?_)
                        refine z_iinc (k := 9) (lv' := [(7, .int (iI ((↑i) + 1))), (6, .int (iI z_26)), (9, .int (iI 3)), (5, .int (iI z_17)), (8, .int (iI 1)), (0, .ref o), (1, .int (iI z)), (2, .int (iI x)), (3, .int (iI t)), (4, .int (iI y))]) hx hb dX12_oddsNow_219 hl rfl (by decide) rfl (fun ls hl => ?_)
                        refine lv_goto (tgt := 54) hx hb dX12_oddsNow_222 (by decide) ?_
                        exact ih54  (i + 1) z_17 z_26 (updZ (updZ (updZ lk3 0 z_19) 1 z_20) 2 z_21) (updZ (updZ (updZ nx3 0 z_19) 1 z_20) 2 z_21) pr (by omega) (by rw [ez_26, hw, Int.pow_succ]) (by first | (exfalso; omega) | (have h9 := odd_s1 (by omega) hod; subst_vars; simp only [Int.add_zero]; exact h9) | (have h9 := odd_s0 (m0 := (updZ (updZ (updZ lk3 0 z_19) 1 z_20) 2 z_21) 0) (m1 := (updZ (updZ (updZ lk3 0 z_19) 1 z_20) 2 z_21) 1) (m2 := (updZ (updZ (updZ lk3 0 z_19) 1 z_20) 2 z_21) 2) (by omega) hod; subst_vars; exact h9)) (by exact hpo) (by exact hb1) (by omega) (by omega) (by omega) _ _ _ hP hD hS (lv_sub hl [5, 6, 7, 8, 9, 3, 1, 0] rfl)
                      · skip
                        exact absurd c_25 (by omega)
    exact L54 ((x - ↑(0 : Nat)).toNat + 1) 0 0 1 lk2 nx pv (by omega) (by rfl) (by exact odd_0 h10 hlk.1 hlk.2.1 hlk.2.2) (by intro j _; rfl) (by exact hpz) (by rfl) (by rfl) (by omega) _ _ _ hP hD hS (lv_sub hl [3, 4, 5, 6, 7, 2, 1, 0] rfl)
  refine lv_aload_n hx hb dX12_oddsNow_0 rfl (lv_at hl 0 rfl) ?_
  refine lv_iconst (v := iI 1) hx hb dX12_oddsNow_1 (by decide) ?_
  have hPm := zp_perm hP (zblk (show List.Perm ([WMo o ma mi ml, WMp X ma pv, Wa X 2 (ma 22) 105 sa, Wa X 2 (ma 26) 3 lk, Wa X 2 (ma 27) 3 nx] : List va_W) ([WMo o ma mi ml, WMp X ma pv, Wa X 2 (ma 22) 105 sa] ++ [Wa X 2 (ma 26) 3 lk, Wa X 2 (ma 27) 3 nx]) from (zf1 _ 0 _ rfl).trans (((zf1 _ 0 _ rfl).trans (((zf1 _ 0 _ rfl).trans ((List.Perm.refl _).cons _)).cons _)).cons _)))
  have hDm := zd_perm hD (zblk (show List.Perm ([WMo o ma mi ml, WMp X ma pv, Wa X 2 (ma 22) 105 sa, Wa X 2 (ma 26) 3 lk, Wa X 2 (ma 27) 3 nx] : List va_W) ([WMo o ma mi ml, WMp X ma pv, Wa X 2 (ma 22) 105 sa] ++ [Wa X 2 (ma 26) 3 lk, Wa X 2 (ma 27) 3 nx]) from (zf1 _ 0 _ rfl).trans (((zf1 _ 0 _ rfl).trans (((zf1 _ 0 _ rfl).trans ((List.Perm.refl _).cons _)).cons _)).cons _)))
  refine z_callV (wr := zb [Wa X 2 (ma 26) 3 lk, Wa X 2 (ma 27) 3 nx]) (As := [.int (iI 1)]) (rest := []) ⟨hx, hb, hml, hown, hts⟩ (c_X12_save_1 l X o ma mi ml pv sa ) (cwV 1 hts gX12_oddsNow_X12_save rfl rfl rfl (by decide +kernel) ⟨Nat.le_of_ble_eq_true rfl, Nat.le_of_ble_eq_true rfl⟩) rfl rfl hl.1 dX12_oddsNow_2 rfl rfl (Nat.le_of_ble_eq_true rfl) ⟨(Nat.le_of_ble_eq_true rfl), (Nat.le_of_ble_eq_true rfl)⟩ hS hA hK hPm hDm (fun _ H locs _ hP hD hS => ?_)
  have hP := zp_perm hP ((zblk (show List.Perm ([WMo o ma mi ml, WMp X ma pv, Wa X 2 (ma 22) 105 (savF 15 pv sa), Wa X 2 (ma 26) 3 lk, Wa X 2 (ma 27) 3 nx] : List va_W) ([WMo o ma mi ml, WMp X ma pv, Wa X 2 (ma 22) 105 (savF 15 pv sa)] ++ [Wa X 2 (ma 26) 3 lk, Wa X 2 (ma 27) 3 nx]) from (zf1 _ 0 _ rfl).trans (((zf1 _ 0 _ rfl).trans (((zf1 _ 0 _ rfl).trans ((List.Perm.refl _).cons _)).cons _)).cons _)))).symm
  have hD := zd_perm hD ((zblk (show List.Perm ([WMo o ma mi ml, WMp X ma pv, Wa X 2 (ma 22) 105 (savF 15 pv sa), Wa X 2 (ma 26) 3 lk, Wa X 2 (ma 27) 3 nx] : List va_W) ([WMo o ma mi ml, WMp X ma pv, Wa X 2 (ma 22) 105 (savF 15 pv sa)] ++ [Wa X 2 (ma 26) 3 lk, Wa X 2 (ma 27) 3 nx]) from (zf1 _ 0 _ rfl).trans (((zf1 _ 0 _ rfl).trans (((zf1 _ 0 _ rfl).trans ((List.Perm.refl _).cons _)).cons _)).cons _)))).symm
  have hP : va_P X.1 vwCl (zb [WMo o ma mi ml, WMp X ma pv, Wa X 2 (ma 22) 105 (savF 15 pv sa), Wa X 2 (ma 26) 3 lk, Wa X 2 (ma 27) 3 nx]) H := hP
  have hD : va_D A (zb [WMo o ma mi ml, WMp X ma pv, Wa X 2 (ma 22) 105 (savF 15 pv sa), Wa X 2 (ma 26) 3 lk, Wa X 2 (ma 27) 3 nx]) := hD
  refine W.eq (g2 := F0 m 5 ls []) rfl ?_
  refine lv_iconst (v := iI 0) hx hb dX12_oddsNow_5 (by decide) ?_
  refine lv_istore (lv' := [(5, .int (iI 0)), (0, .ref o), (1, .int (iI z)), (2, .int (iI x)), (3, .int (iI t)), (4, .int (iI y))]) hx hb dX12_oddsNow_6 hl (by decide) rfl (fun ls hl => ?_)
  refine lv_iload hx hb dX12_oddsNow_8 (lv_at hl 0 rfl) ?_
  refine lv_iconst (v := iI 3) hx hb dX12_oddsNow_10 (by decide) ?_
  refine z_icmp_ge (tgt := 45) hx hb (by omega) dX12_oddsNow_11 (by decide) (fun c_29 => ?_) (fun c_29 => ?_)
  · skip
    exact absurd c_29 (by omega)
  · skip
    refine lv_aload_n hx hb dX12_oddsNow_14 rfl (lv_at hl 1 rfl) ?_
    refine va_get (ci := 12) (v := .ref (ma 26)) (C := RX12) (T := TX12) (N := 38) hx hb hts inX12 hown hK.1 hP 0 rfl rfl 26 (by decide) (hts (.fieldLink RX12 59 "SkimmedSonsModel" "likely" "[I") (by decide +kernel)) (fun _ h9 => h9) rfl dX12_oddsNow_15 ?_
    refine lv_iload hx hb dX12_oddsNow_18 (lv_at hl 0 rfl) ?_
    refine lv_aload_n hx hb dX12_oddsNow_20 rfl (lv_at hl 1 rfl) ?_
    refine va_get (ci := 12) (v := .ref (ma 8)) (C := RX12) (T := TX12) (N := 38) hx hb hts inX12 hown hK.1 hP 0 rfl rfl 8 (by decide) (hts (.fieldLink RX12 25 "SkimmedSonsModel" "stillOf" "[I") (by decide +kernel)) (fun _ h9 => h9) rfl dX12_oddsNow_21 ?_
    refine lv_iload_n hx hb dX12_oddsNow_24 rfl (lv_at hl 2 rfl) ?_
    refine z_iald hx hb hK.1 hP 2 rfl (by omega) dX12_oddsNow_25 ?_
    refine W.eq (g2 := F0 m 26 ls [.int (iI (pv z.toNat 1)), .int (iI 0), .ref (ma 26)]) rfl ?_
    refine lv_iconst (v := iI 3) hx hb dX12_oddsNow_26 (by decide) ?_
    refine z_irem hx hb (by omega) dX12_oddsNow_27 ?_
    refine lv_iload hx hb dX12_oddsNow_28 (lv_at hl 0 rfl) ?_
    refine z_icmp_ne (tgt := 37) hx hb (by omega) dX12_oddsNow_30 (by decide) (fun c_30 => ?_) (fun c_30 => ?_)
    · skip
      refine lv_iconst (v := iI 0) hx hb dX12_oddsNow_37 (by decide) ?_
      refine z_iast hx hb hK.1 hP hD hS 8 rfl (by omega) dX12_oddsNow_38 (fun H locs hP hD hS => ?_)
      have hP : va_P X.1 vwCl (zb [WMo o ma mi ml, WMp X ma pv, Wa X 2 (ma 22) 105 (savF 15 pv sa), Wa X 2 (ma 26) 3 (updZ lk 0 0), Wa X 2 (ma 27) 3 nx]) H := hP
      have hD : va_D A (zb [WMo o ma mi ml, WMp X ma pv, Wa X 2 (ma 22) 105 (savF 15 pv sa), Wa X 2 (ma 26) 3 (updZ lk 0 0), Wa X 2 (ma 27) 3 nx]) := hD
      refine z_iinc (k := 0) (lv' := [(5, .int (iI 1)), (0, .ref o), (1, .int (iI z)), (2, .int (iI x)), (3, .int (iI t)), (4, .int (iI y))]) hx hb dX12_oddsNow_39 hl rfl (by decide) rfl (fun ls hl => ?_)
      refine lv_goto (tgt := 8) hx hb dX12_oddsNow_42 (by decide) ?_
      refine lv_iload hx hb dX12_oddsNow_8 (lv_at hl 0 rfl) ?_
      refine lv_iconst (v := iI 3) hx hb dX12_oddsNow_10 (by decide) ?_
      refine z_icmp_ge (tgt := 45) hx hb (by omega) dX12_oddsNow_11 (by decide) (fun c_31 => ?_) (fun c_31 => ?_)
      · skip
        exact absurd c_31 (by omega)
      · skip
        refine lv_aload_n hx hb dX12_oddsNow_14 rfl (lv_at hl 1 rfl) ?_
        refine va_get (ci := 12) (v := .ref (ma 26)) (C := RX12) (T := TX12) (N := 38) hx hb hts inX12 hown hK.1 hP 0 rfl rfl 26 (by decide) (hts (.fieldLink RX12 59 "SkimmedSonsModel" "likely" "[I") (by decide +kernel)) (fun _ h9 => h9) rfl dX12_oddsNow_15 ?_
        refine lv_iload hx hb dX12_oddsNow_18 (lv_at hl 0 rfl) ?_
        refine lv_aload_n hx hb dX12_oddsNow_20 rfl (lv_at hl 1 rfl) ?_
        refine va_get (ci := 12) (v := .ref (ma 8)) (C := RX12) (T := TX12) (N := 38) hx hb hts inX12 hown hK.1 hP 0 rfl rfl 8 (by decide) (hts (.fieldLink RX12 25 "SkimmedSonsModel" "stillOf" "[I") (by decide +kernel)) (fun _ h9 => h9) rfl dX12_oddsNow_21 ?_
        refine lv_iload_n hx hb dX12_oddsNow_24 rfl (lv_at hl 2 rfl) ?_
        refine z_iald hx hb hK.1 hP 2 rfl (by omega) dX12_oddsNow_25 ?_
        refine W.eq (g2 := F0 m 26 ls [.int (iI (pv z.toNat 1)), .int (iI 1), .ref (ma 26)]) rfl ?_
        refine lv_iconst (v := iI 3) hx hb dX12_oddsNow_26 (by decide) ?_
        refine z_irem hx hb (by omega) dX12_oddsNow_27 ?_
        refine lv_iload hx hb dX12_oddsNow_28 (lv_at hl 0 rfl) ?_
        refine z_icmp_ne (tgt := 37) hx hb (by omega) dX12_oddsNow_30 (by decide) (fun c_32 => ?_) (fun c_32 => ?_)
        · skip
          refine lv_iconst (v := iI 0) hx hb dX12_oddsNow_37 (by decide) ?_
          refine z_iast hx hb hK.1 hP hD hS 8 rfl (by omega) dX12_oddsNow_38 (fun H locs hP hD hS => ?_)
          have hP : va_P X.1 vwCl (zb [WMo o ma mi ml, WMp X ma pv, Wa X 2 (ma 22) 105 (savF 15 pv sa), Wa X 2 (ma 26) 3 (updZ (updZ lk 0 0) 1 0), Wa X 2 (ma 27) 3 nx]) H := hP
          have hD : va_D A (zb [WMo o ma mi ml, WMp X ma pv, Wa X 2 (ma 22) 105 (savF 15 pv sa), Wa X 2 (ma 26) 3 (updZ (updZ lk 0 0) 1 0), Wa X 2 (ma 27) 3 nx]) := hD
          refine z_iinc (k := 0) (lv' := [(5, .int (iI 2)), (0, .ref o), (1, .int (iI z)), (2, .int (iI x)), (3, .int (iI t)), (4, .int (iI y))]) hx hb dX12_oddsNow_39 hl rfl (by decide) rfl (fun ls hl => ?_)
          refine lv_goto (tgt := 8) hx hb dX12_oddsNow_42 (by decide) ?_
          refine lv_iload hx hb dX12_oddsNow_8 (lv_at hl 0 rfl) ?_
          refine lv_iconst (v := iI 3) hx hb dX12_oddsNow_10 (by decide) ?_
          refine z_icmp_ge (tgt := 45) hx hb (by omega) dX12_oddsNow_11 (by decide) (fun c_33 => ?_) (fun c_33 => ?_)
          · skip
            exact absurd c_33 (by omega)
          · skip
            refine lv_aload_n hx hb dX12_oddsNow_14 rfl (lv_at hl 1 rfl) ?_
            refine va_get (ci := 12) (v := .ref (ma 26)) (C := RX12) (T := TX12) (N := 38) hx hb hts inX12 hown hK.1 hP 0 rfl rfl 26 (by decide) (hts (.fieldLink RX12 59 "SkimmedSonsModel" "likely" "[I") (by decide +kernel)) (fun _ h9 => h9) rfl dX12_oddsNow_15 ?_
            refine lv_iload hx hb dX12_oddsNow_18 (lv_at hl 0 rfl) ?_
            refine lv_aload_n hx hb dX12_oddsNow_20 rfl (lv_at hl 1 rfl) ?_
            refine va_get (ci := 12) (v := .ref (ma 8)) (C := RX12) (T := TX12) (N := 38) hx hb hts inX12 hown hK.1 hP 0 rfl rfl 8 (by decide) (hts (.fieldLink RX12 25 "SkimmedSonsModel" "stillOf" "[I") (by decide +kernel)) (fun _ h9 => h9) rfl dX12_oddsNow_21 ?_
            refine lv_iload_n hx hb dX12_oddsNow_24 rfl (lv_at hl 2 rfl) ?_
            refine z_iald hx hb hK.1 hP 2 rfl (by omega) dX12_oddsNow_25 ?_
            refine W.eq (g2 := F0 m 26 ls [.int (iI (pv z.toNat 1)), .int (iI 2), .ref (ma 26)]) rfl ?_
            refine lv_iconst (v := iI 3) hx hb dX12_oddsNow_26 (by decide) ?_
            refine z_irem hx hb (by omega) dX12_oddsNow_27 ?_
            refine lv_iload hx hb dX12_oddsNow_28 (lv_at hl 0 rfl) ?_
            refine z_icmp_ne (tgt := 37) hx hb (by omega) dX12_oddsNow_30 (by decide) (fun c_34 => ?_) (fun c_34 => ?_)
            · skip
              refine lv_iconst (v := iI 0) hx hb dX12_oddsNow_37 (by decide) ?_
              refine z_iast hx hb hK.1 hP hD hS 8 rfl (by omega) dX12_oddsNow_38 (fun H locs hP hD hS => ?_)
              have hP : va_P X.1 vwCl (zb [WMo o ma mi ml, WMp X ma pv, Wa X 2 (ma 22) 105 (savF 15 pv sa), Wa X 2 (ma 26) 3 (updZ (updZ (updZ lk 0 0) 1 0) 2 0), Wa X 2 (ma 27) 3 nx]) H := hP
              have hD : va_D A (zb [WMo o ma mi ml, WMp X ma pv, Wa X 2 (ma 22) 105 (savF 15 pv sa), Wa X 2 (ma 26) 3 (updZ (updZ (updZ lk 0 0) 1 0) 2 0), Wa X 2 (ma 27) 3 nx]) := hD
              refine z_iinc (k := 0) (lv' := [(5, .int (iI 3)), (0, .ref o), (1, .int (iI z)), (2, .int (iI x)), (3, .int (iI t)), (4, .int (iI y))]) hx hb dX12_oddsNow_39 hl rfl (by decide) rfl (fun ls hl => ?_)
              refine lv_goto (tgt := 8) hx hb dX12_oddsNow_42 (by decide) ?_
              refine lv_iload hx hb dX12_oddsNow_8 (lv_at hl 0 rfl) ?_
              refine lv_iconst (v := iI 3) hx hb dX12_oddsNow_10 (by decide) ?_
              refine z_icmp_ge (tgt := 45) hx hb (by omega) dX12_oddsNow_11 (by decide) (fun c_35 => ?_) (fun c_35 => ?_)
              · skip
                exact C45  (updZ (updZ (updZ lk 0 0) 1 0) 2 0) (by unfold ph updZ; omega)  _ _ _ hP hD hS (lv_sub hl [1, 2, 3, 4, 5] rfl)
              · skip
                exact absurd c_35 (by omega)
            · skip
              refine lv_iconst (v := iI 1) hx hb dX12_oddsNow_33 (by decide) ?_
              refine lv_goto (tgt := 38) hx hb dX12_oddsNow_34 (by decide) ?_
              refine z_iast hx hb hK.1 hP hD hS 8 rfl (by omega) dX12_oddsNow_38 (fun H locs hP hD hS => ?_)
              have hP : va_P X.1 vwCl (zb [WMo o ma mi ml, WMp X ma pv, Wa X 2 (ma 22) 105 (savF 15 pv sa), Wa X 2 (ma 26) 3 (updZ (updZ (updZ lk 0 0) 1 0) 2 1), Wa X 2 (ma 27) 3 nx]) H := hP
              have hD : va_D A (zb [WMo o ma mi ml, WMp X ma pv, Wa X 2 (ma 22) 105 (savF 15 pv sa), Wa X 2 (ma 26) 3 (updZ (updZ (updZ lk 0 0) 1 0) 2 1), Wa X 2 (ma 27) 3 nx]) := hD
              refine z_iinc (k := 0) (lv' := [(5, .int (iI 3)), (0, .ref o), (1, .int (iI z)), (2, .int (iI x)), (3, .int (iI t)), (4, .int (iI y))]) hx hb dX12_oddsNow_39 hl rfl (by decide) rfl (fun ls hl => ?_)
              refine lv_goto (tgt := 8) hx hb dX12_oddsNow_42 (by decide) ?_
              refine lv_iload hx hb dX12_oddsNow_8 (lv_at hl 0 rfl) ?_
              refine lv_iconst (v := iI 3) hx hb dX12_oddsNow_10 (by decide) ?_
              refine z_icmp_ge (tgt := 45) hx hb (by omega) dX12_oddsNow_11 (by decide) (fun c_37 => ?_) (fun c_37 => ?_)
              · skip
                exact C45  (updZ (updZ (updZ lk 0 0) 1 0) 2 1) (by unfold ph updZ; omega)  _ _ _ hP hD hS (lv_sub hl [1, 2, 3, 4, 5] rfl)
              · skip
                exact absurd c_37 (by omega)
        · skip
          refine lv_iconst (v := iI 1) hx hb dX12_oddsNow_33 (by decide) ?_
          refine lv_goto (tgt := 38) hx hb dX12_oddsNow_34 (by decide) ?_
          refine z_iast hx hb hK.1 hP hD hS 8 rfl (by omega) dX12_oddsNow_38 (fun H locs hP hD hS => ?_)
          have hP : va_P X.1 vwCl (zb [WMo o ma mi ml, WMp X ma pv, Wa X 2 (ma 22) 105 (savF 15 pv sa), Wa X 2 (ma 26) 3 (updZ (updZ lk 0 0) 1 1), Wa X 2 (ma 27) 3 nx]) H := hP
          have hD : va_D A (zb [WMo o ma mi ml, WMp X ma pv, Wa X 2 (ma 22) 105 (savF 15 pv sa), Wa X 2 (ma 26) 3 (updZ (updZ lk 0 0) 1 1), Wa X 2 (ma 27) 3 nx]) := hD
          refine z_iinc (k := 0) (lv' := [(5, .int (iI 2)), (0, .ref o), (1, .int (iI z)), (2, .int (iI x)), (3, .int (iI t)), (4, .int (iI y))]) hx hb dX12_oddsNow_39 hl rfl (by decide) rfl (fun ls hl => ?_)
          refine lv_goto (tgt := 8) hx hb dX12_oddsNow_42 (by decide) ?_
          refine lv_iload hx hb dX12_oddsNow_8 (lv_at hl 0 rfl) ?_
          refine lv_iconst (v := iI 3) hx hb dX12_oddsNow_10 (by decide) ?_
          refine z_icmp_ge (tgt := 45) hx hb (by omega) dX12_oddsNow_11 (by decide) (fun c_39 => ?_) (fun c_39 => ?_)
          · skip
            exact absurd c_39 (by omega)
          · skip
            refine lv_aload_n hx hb dX12_oddsNow_14 rfl (lv_at hl 1 rfl) ?_
            refine va_get (ci := 12) (v := .ref (ma 26)) (C := RX12) (T := TX12) (N := 38) hx hb hts inX12 hown hK.1 hP 0 rfl rfl 26 (by decide) (hts (.fieldLink RX12 59 "SkimmedSonsModel" "likely" "[I") (by decide +kernel)) (fun _ h9 => h9) rfl dX12_oddsNow_15 ?_
            refine lv_iload hx hb dX12_oddsNow_18 (lv_at hl 0 rfl) ?_
            refine lv_aload_n hx hb dX12_oddsNow_20 rfl (lv_at hl 1 rfl) ?_
            refine va_get (ci := 12) (v := .ref (ma 8)) (C := RX12) (T := TX12) (N := 38) hx hb hts inX12 hown hK.1 hP 0 rfl rfl 8 (by decide) (hts (.fieldLink RX12 25 "SkimmedSonsModel" "stillOf" "[I") (by decide +kernel)) (fun _ h9 => h9) rfl dX12_oddsNow_21 ?_
            refine lv_iload_n hx hb dX12_oddsNow_24 rfl (lv_at hl 2 rfl) ?_
            refine z_iald hx hb hK.1 hP 2 rfl (by omega) dX12_oddsNow_25 ?_
            refine W.eq (g2 := F0 m 26 ls [.int (iI (pv z.toNat 1)), .int (iI 2), .ref (ma 26)]) rfl ?_
            refine lv_iconst (v := iI 3) hx hb dX12_oddsNow_26 (by decide) ?_
            refine z_irem hx hb (by omega) dX12_oddsNow_27 ?_
            refine lv_iload hx hb dX12_oddsNow_28 (lv_at hl 0 rfl) ?_
            refine z_icmp_ne (tgt := 37) hx hb (by omega) dX12_oddsNow_30 (by decide) (fun c_40 => ?_) (fun c_40 => ?_)
            · skip
              refine lv_iconst (v := iI 0) hx hb dX12_oddsNow_37 (by decide) ?_
              refine z_iast hx hb hK.1 hP hD hS 8 rfl (by omega) dX12_oddsNow_38 (fun H locs hP hD hS => ?_)
              have hP : va_P X.1 vwCl (zb [WMo o ma mi ml, WMp X ma pv, Wa X 2 (ma 22) 105 (savF 15 pv sa), Wa X 2 (ma 26) 3 (updZ (updZ (updZ lk 0 0) 1 1) 2 0), Wa X 2 (ma 27) 3 nx]) H := hP
              have hD : va_D A (zb [WMo o ma mi ml, WMp X ma pv, Wa X 2 (ma 22) 105 (savF 15 pv sa), Wa X 2 (ma 26) 3 (updZ (updZ (updZ lk 0 0) 1 1) 2 0), Wa X 2 (ma 27) 3 nx]) := hD
              refine z_iinc (k := 0) (lv' := [(5, .int (iI 3)), (0, .ref o), (1, .int (iI z)), (2, .int (iI x)), (3, .int (iI t)), (4, .int (iI y))]) hx hb dX12_oddsNow_39 hl rfl (by decide) rfl (fun ls hl => ?_)
              refine lv_goto (tgt := 8) hx hb dX12_oddsNow_42 (by decide) ?_
              refine lv_iload hx hb dX12_oddsNow_8 (lv_at hl 0 rfl) ?_
              refine lv_iconst (v := iI 3) hx hb dX12_oddsNow_10 (by decide) ?_
              refine z_icmp_ge (tgt := 45) hx hb (by omega) dX12_oddsNow_11 (by decide) (fun c_41 => ?_) (fun c_41 => ?_)
              · skip
                exact C45  (updZ (updZ (updZ lk 0 0) 1 1) 2 0) (by unfold ph updZ; omega)  _ _ _ hP hD hS (lv_sub hl [1, 2, 3, 4, 5] rfl)
              · skip
                exact absurd c_41 (by omega)
            · skip
              refine lv_iconst (v := iI 1) hx hb dX12_oddsNow_33 (by decide) ?_
              refine lv_goto (tgt := 38) hx hb dX12_oddsNow_34 (by decide) ?_
              refine z_iast hx hb hK.1 hP hD hS 8 rfl (by omega) dX12_oddsNow_38 (fun H locs hP hD hS => ?_)
              have hP : va_P X.1 vwCl (zb [WMo o ma mi ml, WMp X ma pv, Wa X 2 (ma 22) 105 (savF 15 pv sa), Wa X 2 (ma 26) 3 (updZ (updZ (updZ lk 0 0) 1 1) 2 1), Wa X 2 (ma 27) 3 nx]) H := hP
              have hD : va_D A (zb [WMo o ma mi ml, WMp X ma pv, Wa X 2 (ma 22) 105 (savF 15 pv sa), Wa X 2 (ma 26) 3 (updZ (updZ (updZ lk 0 0) 1 1) 2 1), Wa X 2 (ma 27) 3 nx]) := hD
              refine z_iinc (k := 0) (lv' := [(5, .int (iI 3)), (0, .ref o), (1, .int (iI z)), (2, .int (iI x)), (3, .int (iI t)), (4, .int (iI y))]) hx hb dX12_oddsNow_39 hl rfl (by decide) rfl (fun ls hl => ?_)
              refine lv_goto (tgt := 8) hx hb dX12_oddsNow_42 (by decide) ?_
              refine lv_iload hx hb dX12_oddsNow_8 (lv_at hl 0 rfl) ?_
              refine lv_iconst (v := iI 3) hx hb dX12_oddsNow_10 (by decide) ?_
              refine z_icmp_ge (tgt := 45) hx hb (by omega) dX12_oddsNow_11 (by decide) (fun c_43 => ?_) (fun c_43 => ?_)
              · skip
                exact C45  (updZ (updZ (updZ lk 0 0) 1 1) 2 1) (by unfold ph updZ; omega)  _ _ _ hP hD hS (lv_sub hl [1, 2, 3, 4, 5] rfl)
              · skip
                exact absurd c_43 (by omega)
    · skip
      refine lv_iconst (v := iI 1) hx hb dX12_oddsNow_33 (by decide) ?_
      refine lv_goto (tgt := 38) hx hb dX12_oddsNow_34 (by decide) ?_
      refine z_iast hx hb hK.1 hP hD hS 8 rfl (by omega) dX12_oddsNow_38 (fun H locs hP hD hS => ?_)
      have hP : va_P X.1 vwCl (zb [WMo o ma mi ml, WMp X ma pv, Wa X 2 (ma 22) 105 (savF 15 pv sa), Wa X 2 (ma 26) 3 (updZ lk 0 1), Wa X 2 (ma 27) 3 nx]) H := hP
      have hD : va_D A (zb [WMo o ma mi ml, WMp X ma pv, Wa X 2 (ma 22) 105 (savF 15 pv sa), Wa X 2 (ma 26) 3 (updZ lk 0 1), Wa X 2 (ma 27) 3 nx]) := hD
      refine z_iinc (k := 0) (lv' := [(5, .int (iI 1)), (0, .ref o), (1, .int (iI z)), (2, .int (iI x)), (3, .int (iI t)), (4, .int (iI y))]) hx hb dX12_oddsNow_39 hl rfl (by decide) rfl (fun ls hl => ?_)
      refine lv_goto (tgt := 8) hx hb dX12_oddsNow_42 (by decide) ?_
      refine lv_iload hx hb dX12_oddsNow_8 (lv_at hl 0 rfl) ?_
      refine lv_iconst (v := iI 3) hx hb dX12_oddsNow_10 (by decide) ?_
      refine z_icmp_ge (tgt := 45) hx hb (by omega) dX12_oddsNow_11 (by decide) (fun c_45 => ?_) (fun c_45 => ?_)
      · skip
        exact absurd c_45 (by omega)
      · skip
        refine lv_aload_n hx hb dX12_oddsNow_14 rfl (lv_at hl 1 rfl) ?_
        refine va_get (ci := 12) (v := .ref (ma 26)) (C := RX12) (T := TX12) (N := 38) hx hb hts inX12 hown hK.1 hP 0 rfl rfl 26 (by decide) (hts (.fieldLink RX12 59 "SkimmedSonsModel" "likely" "[I") (by decide +kernel)) (fun _ h9 => h9) rfl dX12_oddsNow_15 ?_
        refine lv_iload hx hb dX12_oddsNow_18 (lv_at hl 0 rfl) ?_
        refine lv_aload_n hx hb dX12_oddsNow_20 rfl (lv_at hl 1 rfl) ?_
        refine va_get (ci := 12) (v := .ref (ma 8)) (C := RX12) (T := TX12) (N := 38) hx hb hts inX12 hown hK.1 hP 0 rfl rfl 8 (by decide) (hts (.fieldLink RX12 25 "SkimmedSonsModel" "stillOf" "[I") (by decide +kernel)) (fun _ h9 => h9) rfl dX12_oddsNow_21 ?_
        refine lv_iload_n hx hb dX12_oddsNow_24 rfl (lv_at hl 2 rfl) ?_
        refine z_iald hx hb hK.1 hP 2 rfl (by omega) dX12_oddsNow_25 ?_
        refine W.eq (g2 := F0 m 26 ls [.int (iI (pv z.toNat 1)), .int (iI 1), .ref (ma 26)]) rfl ?_
        refine lv_iconst (v := iI 3) hx hb dX12_oddsNow_26 (by decide) ?_
        refine z_irem hx hb (by omega) dX12_oddsNow_27 ?_
        refine lv_iload hx hb dX12_oddsNow_28 (lv_at hl 0 rfl) ?_
        refine z_icmp_ne (tgt := 37) hx hb (by omega) dX12_oddsNow_30 (by decide) (fun c_46 => ?_) (fun c_46 => ?_)
        · skip
          refine lv_iconst (v := iI 0) hx hb dX12_oddsNow_37 (by decide) ?_
          refine z_iast hx hb hK.1 hP hD hS 8 rfl (by omega) dX12_oddsNow_38 (fun H locs hP hD hS => ?_)
          have hP : va_P X.1 vwCl (zb [WMo o ma mi ml, WMp X ma pv, Wa X 2 (ma 22) 105 (savF 15 pv sa), Wa X 2 (ma 26) 3 (updZ (updZ lk 0 1) 1 0), Wa X 2 (ma 27) 3 nx]) H := hP
          have hD : va_D A (zb [WMo o ma mi ml, WMp X ma pv, Wa X 2 (ma 22) 105 (savF 15 pv sa), Wa X 2 (ma 26) 3 (updZ (updZ lk 0 1) 1 0), Wa X 2 (ma 27) 3 nx]) := hD
          refine z_iinc (k := 0) (lv' := [(5, .int (iI 2)), (0, .ref o), (1, .int (iI z)), (2, .int (iI x)), (3, .int (iI t)), (4, .int (iI y))]) hx hb dX12_oddsNow_39 hl rfl (by decide) rfl (fun ls hl => ?_)
          refine lv_goto (tgt := 8) hx hb dX12_oddsNow_42 (by decide) ?_
          refine lv_iload hx hb dX12_oddsNow_8 (lv_at hl 0 rfl) ?_
          refine lv_iconst (v := iI 3) hx hb dX12_oddsNow_10 (by decide) ?_
          refine z_icmp_ge (tgt := 45) hx hb (by omega) dX12_oddsNow_11 (by decide) (fun c_47 => ?_) (fun c_47 => ?_)
          · skip
            exact absurd c_47 (by omega)
          · skip
            refine lv_aload_n hx hb dX12_oddsNow_14 rfl (lv_at hl 1 rfl) ?_
            refine va_get (ci := 12) (v := .ref (ma 26)) (C := RX12) (T := TX12) (N := 38) hx hb hts inX12 hown hK.1 hP 0 rfl rfl 26 (by decide) (hts (.fieldLink RX12 59 "SkimmedSonsModel" "likely" "[I") (by decide +kernel)) (fun _ h9 => h9) rfl dX12_oddsNow_15 ?_
            refine lv_iload hx hb dX12_oddsNow_18 (lv_at hl 0 rfl) ?_
            refine lv_aload_n hx hb dX12_oddsNow_20 rfl (lv_at hl 1 rfl) ?_
            refine va_get (ci := 12) (v := .ref (ma 8)) (C := RX12) (T := TX12) (N := 38) hx hb hts inX12 hown hK.1 hP 0 rfl rfl 8 (by decide) (hts (.fieldLink RX12 25 "SkimmedSonsModel" "stillOf" "[I") (by decide +kernel)) (fun _ h9 => h9) rfl dX12_oddsNow_21 ?_
            refine lv_iload_n hx hb dX12_oddsNow_24 rfl (lv_at hl 2 rfl) ?_
            refine z_iald hx hb hK.1 hP 2 rfl (by omega) dX12_oddsNow_25 ?_
            refine W.eq (g2 := F0 m 26 ls [.int (iI (pv z.toNat 1)), .int (iI 2), .ref (ma 26)]) rfl ?_
            refine lv_iconst (v := iI 3) hx hb dX12_oddsNow_26 (by decide) ?_
            refine z_irem hx hb (by omega) dX12_oddsNow_27 ?_
            refine lv_iload hx hb dX12_oddsNow_28 (lv_at hl 0 rfl) ?_
            refine z_icmp_ne (tgt := 37) hx hb (by omega) dX12_oddsNow_30 (by decide) (fun c_48 => ?_) (fun c_48 => ?_)
            · skip
              refine lv_iconst (v := iI 0) hx hb dX12_oddsNow_37 (by decide) ?_
              refine z_iast hx hb hK.1 hP hD hS 8 rfl (by omega) dX12_oddsNow_38 (fun H locs hP hD hS => ?_)
              have hP : va_P X.1 vwCl (zb [WMo o ma mi ml, WMp X ma pv, Wa X 2 (ma 22) 105 (savF 15 pv sa), Wa X 2 (ma 26) 3 (updZ (updZ (updZ lk 0 1) 1 0) 2 0), Wa X 2 (ma 27) 3 nx]) H := hP
              have hD : va_D A (zb [WMo o ma mi ml, WMp X ma pv, Wa X 2 (ma 22) 105 (savF 15 pv sa), Wa X 2 (ma 26) 3 (updZ (updZ (updZ lk 0 1) 1 0) 2 0), Wa X 2 (ma 27) 3 nx]) := hD
              refine z_iinc (k := 0) (lv' := [(5, .int (iI 3)), (0, .ref o), (1, .int (iI z)), (2, .int (iI x)), (3, .int (iI t)), (4, .int (iI y))]) hx hb dX12_oddsNow_39 hl rfl (by decide) rfl (fun ls hl => ?_)
              refine lv_goto (tgt := 8) hx hb dX12_oddsNow_42 (by decide) ?_
              refine lv_iload hx hb dX12_oddsNow_8 (lv_at hl 0 rfl) ?_
              refine lv_iconst (v := iI 3) hx hb dX12_oddsNow_10 (by decide) ?_
              refine z_icmp_ge (tgt := 45) hx hb (by omega) dX12_oddsNow_11 (by decide) (fun c_49 => ?_) (fun c_49 => ?_)
              · skip
                exact C45  (updZ (updZ (updZ lk 0 1) 1 0) 2 0) (by unfold ph updZ; omega)  _ _ _ hP hD hS (lv_sub hl [1, 2, 3, 4, 5] rfl)
              · skip
                exact absurd c_49 (by omega)
            · skip
              refine lv_iconst (v := iI 1) hx hb dX12_oddsNow_33 (by decide) ?_
              refine lv_goto (tgt := 38) hx hb dX12_oddsNow_34 (by decide) ?_
              refine z_iast hx hb hK.1 hP hD hS 8 rfl (by omega) dX12_oddsNow_38 (fun H locs hP hD hS => ?_)
              have hP : va_P X.1 vwCl (zb [WMo o ma mi ml, WMp X ma pv, Wa X 2 (ma 22) 105 (savF 15 pv sa), Wa X 2 (ma 26) 3 (updZ (updZ (updZ lk 0 1) 1 0) 2 1), Wa X 2 (ma 27) 3 nx]) H := hP
              have hD : va_D A (zb [WMo o ma mi ml, WMp X ma pv, Wa X 2 (ma 22) 105 (savF 15 pv sa), Wa X 2 (ma 26) 3 (updZ (updZ (updZ lk 0 1) 1 0) 2 1), Wa X 2 (ma 27) 3 nx]) := hD
              refine z_iinc (k := 0) (lv' := [(5, .int (iI 3)), (0, .ref o), (1, .int (iI z)), (2, .int (iI x)), (3, .int (iI t)), (4, .int (iI y))]) hx hb dX12_oddsNow_39 hl rfl (by decide) rfl (fun ls hl => ?_)
              refine lv_goto (tgt := 8) hx hb dX12_oddsNow_42 (by decide) ?_
              refine lv_iload hx hb dX12_oddsNow_8 (lv_at hl 0 rfl) ?_
              refine lv_iconst (v := iI 3) hx hb dX12_oddsNow_10 (by decide) ?_
              refine z_icmp_ge (tgt := 45) hx hb (by omega) dX12_oddsNow_11 (by decide) (fun c_51 => ?_) (fun c_51 => ?_)
              · skip
                exact C45  (updZ (updZ (updZ lk 0 1) 1 0) 2 1) (by unfold ph updZ; omega)  _ _ _ hP hD hS (lv_sub hl [1, 2, 3, 4, 5] rfl)
              · skip
                exact absurd c_51 (by omega)
        · skip
          refine lv_iconst (v := iI 1) hx hb dX12_oddsNow_33 (by decide) ?_
          refine lv_goto (tgt := 38) hx hb dX12_oddsNow_34 (by decide) ?_
          refine z_iast hx hb hK.1 hP hD hS 8 rfl (by omega) dX12_oddsNow_38 (fun H locs hP hD hS => ?_)
          have hP : va_P X.1 vwCl (zb [WMo o ma mi ml, WMp X ma pv, Wa X 2 (ma 22) 105 (savF 15 pv sa), Wa X 2 (ma 26) 3 (updZ (updZ lk 0 1) 1 1), Wa X 2 (ma 27) 3 nx]) H := hP
          have hD : va_D A (zb [WMo o ma mi ml, WMp X ma pv, Wa X 2 (ma 22) 105 (savF 15 pv sa), Wa X 2 (ma 26) 3 (updZ (updZ lk 0 1) 1 1), Wa X 2 (ma 27) 3 nx]) := hD
          refine z_iinc (k := 0) (lv' := [(5, .int (iI 2)), (0, .ref o), (1, .int (iI z)), (2, .int (iI x)), (3, .int (iI t)), (4, .int (iI y))]) hx hb dX12_oddsNow_39 hl rfl (by decide) rfl (fun ls hl => ?_)
          refine lv_goto (tgt := 8) hx hb dX12_oddsNow_42 (by decide) ?_
          refine lv_iload hx hb dX12_oddsNow_8 (lv_at hl 0 rfl) ?_
          refine lv_iconst (v := iI 3) hx hb dX12_oddsNow_10 (by decide) ?_
          refine z_icmp_ge (tgt := 45) hx hb (by omega) dX12_oddsNow_11 (by decide) (fun c_53 => ?_) (fun c_53 => ?_)
          · skip
            exact absurd c_53 (by omega)
          · skip
            refine lv_aload_n hx hb dX12_oddsNow_14 rfl (lv_at hl 1 rfl) ?_
            refine va_get (ci := 12) (v := .ref (ma 26)) (C := RX12) (T := TX12) (N := 38) hx hb hts inX12 hown hK.1 hP 0 rfl rfl 26 (by decide) (hts (.fieldLink RX12 59 "SkimmedSonsModel" "likely" "[I") (by decide +kernel)) (fun _ h9 => h9) rfl dX12_oddsNow_15 ?_
            refine lv_iload hx hb dX12_oddsNow_18 (lv_at hl 0 rfl) ?_
            refine lv_aload_n hx hb dX12_oddsNow_20 rfl (lv_at hl 1 rfl) ?_
            refine va_get (ci := 12) (v := .ref (ma 8)) (C := RX12) (T := TX12) (N := 38) hx hb hts inX12 hown hK.1 hP 0 rfl rfl 8 (by decide) (hts (.fieldLink RX12 25 "SkimmedSonsModel" "stillOf" "[I") (by decide +kernel)) (fun _ h9 => h9) rfl dX12_oddsNow_21 ?_
            refine lv_iload_n hx hb dX12_oddsNow_24 rfl (lv_at hl 2 rfl) ?_
            refine z_iald hx hb hK.1 hP 2 rfl (by omega) dX12_oddsNow_25 ?_
            refine W.eq (g2 := F0 m 26 ls [.int (iI (pv z.toNat 1)), .int (iI 2), .ref (ma 26)]) rfl ?_
            refine lv_iconst (v := iI 3) hx hb dX12_oddsNow_26 (by decide) ?_
            refine z_irem hx hb (by omega) dX12_oddsNow_27 ?_
            refine lv_iload hx hb dX12_oddsNow_28 (lv_at hl 0 rfl) ?_
            refine z_icmp_ne (tgt := 37) hx hb (by omega) dX12_oddsNow_30 (by decide) (fun c_54 => ?_) (fun c_54 => ?_)
            · skip
              refine lv_iconst (v := iI 0) hx hb dX12_oddsNow_37 (by decide) ?_
              refine z_iast hx hb hK.1 hP hD hS 8 rfl (by omega) dX12_oddsNow_38 (fun H locs hP hD hS => ?_)
              have hP : va_P X.1 vwCl (zb [WMo o ma mi ml, WMp X ma pv, Wa X 2 (ma 22) 105 (savF 15 pv sa), Wa X 2 (ma 26) 3 (updZ (updZ (updZ lk 0 1) 1 1) 2 0), Wa X 2 (ma 27) 3 nx]) H := hP
              have hD : va_D A (zb [WMo o ma mi ml, WMp X ma pv, Wa X 2 (ma 22) 105 (savF 15 pv sa), Wa X 2 (ma 26) 3 (updZ (updZ (updZ lk 0 1) 1 1) 2 0), Wa X 2 (ma 27) 3 nx]) := hD
              refine z_iinc (k := 0) (lv' := [(5, .int (iI 3)), (0, .ref o), (1, .int (iI z)), (2, .int (iI x)), (3, .int (iI t)), (4, .int (iI y))]) hx hb dX12_oddsNow_39 hl rfl (by decide) rfl (fun ls hl => ?_)
              refine lv_goto (tgt := 8) hx hb dX12_oddsNow_42 (by decide) ?_
              refine lv_iload hx hb dX12_oddsNow_8 (lv_at hl 0 rfl) ?_
              refine lv_iconst (v := iI 3) hx hb dX12_oddsNow_10 (by decide) ?_
              refine z_icmp_ge (tgt := 45) hx hb (by omega) dX12_oddsNow_11 (by decide) (fun c_55 => ?_) (fun c_55 => ?_)
              · skip
                exact C45  (updZ (updZ (updZ lk 0 1) 1 1) 2 0) (by unfold ph updZ; omega)  _ _ _ hP hD hS (lv_sub hl [1, 2, 3, 4, 5] rfl)
              · skip
                exact absurd c_55 (by omega)
            · skip
              refine lv_iconst (v := iI 1) hx hb dX12_oddsNow_33 (by decide) ?_
              refine lv_goto (tgt := 38) hx hb dX12_oddsNow_34 (by decide) ?_
              refine z_iast hx hb hK.1 hP hD hS 8 rfl (by omega) dX12_oddsNow_38 (fun H locs hP hD hS => ?_)
              have hP : va_P X.1 vwCl (zb [WMo o ma mi ml, WMp X ma pv, Wa X 2 (ma 22) 105 (savF 15 pv sa), Wa X 2 (ma 26) 3 (updZ (updZ (updZ lk 0 1) 1 1) 2 1), Wa X 2 (ma 27) 3 nx]) H := hP
              have hD : va_D A (zb [WMo o ma mi ml, WMp X ma pv, Wa X 2 (ma 22) 105 (savF 15 pv sa), Wa X 2 (ma 26) 3 (updZ (updZ (updZ lk 0 1) 1 1) 2 1), Wa X 2 (ma 27) 3 nx]) := hD
              refine z_iinc (k := 0) (lv' := [(5, .int (iI 3)), (0, .ref o), (1, .int (iI z)), (2, .int (iI x)), (3, .int (iI t)), (4, .int (iI y))]) hx hb dX12_oddsNow_39 hl rfl (by decide) rfl (fun ls hl => ?_)
              refine lv_goto (tgt := 8) hx hb dX12_oddsNow_42 (by decide) ?_
              refine lv_iload hx hb dX12_oddsNow_8 (lv_at hl 0 rfl) ?_
              refine lv_iconst (v := iI 3) hx hb dX12_oddsNow_10 (by decide) ?_
              refine z_icmp_ge (tgt := 45) hx hb (by omega) dX12_oddsNow_11 (by decide) (fun c_57 => ?_) (fun c_57 => ?_)
              · skip
                exact C45  (updZ (updZ (updZ lk 0 1) 1 1) 2 1) (by unfold ph updZ; omega)  _ _ _ hP hD hS (lv_sub hl [1, 2, 3, 4, 5] rfl)
              · skip
                exact absurd c_57 (by omega)
set_option maxHeartbeats 1000000 in
set_option maxRecDepth 100000 in
theorem c_X12_odds (l : Launch) (X : zX) (o : Nat) (ma : Nat → Nat) (mi : Nat → Int) (ml : Nat → Int) (pv : Nat → Nat → Int) (sa : Nat → Int) (lk : Nat → Int) (nx : Nat → Int) (z : Int) (x : Int) (t : Int) (y : Int) (hn : 0 ≤ mi 1 ∧ mi 1 ≤ 3) (hpv : PanS pv) (hrz : -2147483648 ≤ z ∧ z < 2147483648) (hrx : -2147483648 ≤ x ∧ x < 2147483648) (hrt : -2147483648 ≤ t ∧ t < 2147483648) (hry : -2147483648 ≤ y ∧ y < 2147483648) : zM (S := (Nat → Int) × (Nat → Int) × (Nat → Int)) l X yX12_odds wsX12_odds { frames := 2, cells := 0, slots := 0, locals := 53 } [.ref o, .int (iI z), .int (iI x), .int (iI t), .int (iI y)] (zb [WMo o ma mi ml, WMp X ma pv, Wa X 2 (ma 22) 105 sa, Wa X 2 (ma 26) 3 lk, Wa X 2 (ma 27) 3 nx]) (fun u => (some (.int (iI (oddsR (mi 1) z x t y pv))))) (fun u => zb [WMo o ma mi ml, WMp X ma pv, Wa X 2 (ma 22) 105 u.1, Wa X 2 (ma 26) 3 u.2.1, Wa X 2 (ma 27) 3 u.2.2]) (fun u => ∀ k, k < 15 → u.1 k = sa k) := by
  refine z_enter (cc := cX12_odds) (maxL := 6) (ret := (some .int)) (by decide) rfl (Nat.le_of_ble_eq_true rfl) ?_
  intro p e s m below meth c A ls Q hQ hE hl hP hD
  obtain ⟨hx, hb, hr, hml, hown, hts, hlocks, hnm, hA, hK⟩ := hE
  have hown : s.vm.findClass RX12 = some m.cls := hown
  have hS : va_S A s.heap s.heap [] := va_S.rf
  have hl : lv_has ls 6 [(0, .ref o), (1, .int (iI z)), (2, .int (iI x)), (3, .int (iI t)), (4, .int (iI y))] := hl
  refine lv_aload_n hx hb dX12_odds_0 rfl (lv_at hl 0 rfl) ?_
  refine lv_iload_n hx hb dX12_odds_1 rfl (lv_at hl 1 rfl) ?_
  have hPm := zp_perm hP (zblk (show List.Perm ([WMo o ma mi ml, WMp X ma pv, Wa X 2 (ma 22) 105 sa, Wa X 2 (ma 26) 3 lk, Wa X 2 (ma 27) 3 nx] : List va_W) ([WMo o ma mi ml] ++ [WMp X ma pv, Wa X 2 (ma 22) 105 sa, Wa X 2 (ma 26) 3 lk, Wa X 2 (ma 27) 3 nx]) from (zf1 _ 0 _ rfl).trans ((List.Perm.refl _).cons _)))
  have hDm := zd_perm hD (zblk (show List.Perm ([WMo o ma mi ml, WMp X ma pv, Wa X 2 (ma 22) 105 sa, Wa X 2 (ma 26) 3 lk, Wa X 2 (ma 27) 3 nx] : List va_W) ([WMo o ma mi ml] ++ [WMp X ma pv, Wa X 2 (ma 22) 105 sa, Wa X 2 (ma 26) 3 lk, Wa X 2 (ma 27) 3 nx]) from (zf1 _ 0 _ rfl).trans ((List.Perm.refl _).cons _)))
  refine z_callV (wr := zb [WMp X ma pv, Wa X 2 (ma 22) 105 sa, Wa X 2 (ma 26) 3 lk, Wa X 2 (ma 27) 3 nx]) (As := [.int (iI z)]) (rest := []) ⟨hx, hb, hml, hown, hts⟩ (c_X12_isPan l X o ma mi ml z (by omega) (by omega)) (cwV 1 hts gX12_odds_X12_isPan rfl rfl rfl (by decide +kernel) ⟨Nat.le_of_ble_eq_true rfl, Nat.le_of_ble_eq_true rfl⟩) rfl rfl hl.1 dX12_odds_2 rfl rfl (Nat.le_of_ble_eq_true rfl) ⟨(Nat.le_of_ble_eq_true rfl), (Nat.le_of_ble_eq_true rfl)⟩ hS hA hK hPm hDm (fun _ H locs _ hP hD hS => ?_)
  have hP := zp_perm hP ((zblk (show List.Perm ([WMo o ma mi ml, WMp X ma pv, Wa X 2 (ma 22) 105 sa, Wa X 2 (ma 26) 3 lk, Wa X 2 (ma 27) 3 nx] : List va_W) ([WMo o ma mi ml] ++ [WMp X ma pv, Wa X 2 (ma 22) 105 sa, Wa X 2 (ma 26) 3 lk, Wa X 2 (ma 27) 3 nx]) from (zf1 _ 0 _ rfl).trans ((List.Perm.refl _).cons _)))).symm
  have hD := zd_perm hD ((zblk (show List.Perm ([WMo o ma mi ml, WMp X ma pv, Wa X 2 (ma 22) 105 sa, Wa X 2 (ma 26) 3 lk, Wa X 2 (ma 27) 3 nx] : List va_W) ([WMo o ma mi ml] ++ [WMp X ma pv, Wa X 2 (ma 22) 105 sa, Wa X 2 (ma 26) 3 lk, Wa X 2 (ma 27) 3 nx]) from (zf1 _ 0 _ rfl).trans ((List.Perm.refl _).cons _)))).symm
  have hP : va_P X.1 vwCl (zb [WMo o ma mi ml, WMp X ma pv, Wa X 2 (ma 22) 105 sa, Wa X 2 (ma 26) 3 lk, Wa X 2 (ma 27) 3 nx]) H := hP
  have hD : va_D A (zb [WMo o ma mi ml, WMp X ma pv, Wa X 2 (ma 22) 105 sa, Wa X 2 (ma 26) 3 lk, Wa X 2 (ma 27) 3 nx]) := hD
  refine W.eq (g2 := F0 m 5 ls [.int (iI (if 0 ≤ z ∧ z < mi 1 then 1 else 0))]) rfl ?_
  refine z_if_ne (tgt := 11) hx hb (by omega) dX12_odds_5 (by decide) (fun c_1 => ?_) (fun c_1 => ?_)
  · skip
    refine lv_iload_n hx hb dX12_odds_11 rfl (lv_at hl 2 rfl) ?_
    refine lv_iconst (v := iI 1) hx hb dX12_odds_12 (by decide) ?_
    refine lv_bipush (v := iI 8) hx hb dX12_odds_13 (by decide) ?_
    have hPm := zp_perm hP (zblk (show List.Perm ([WMo o ma mi ml, WMp X ma pv, Wa X 2 (ma 22) 105 sa, Wa X 2 (ma 26) 3 lk, Wa X 2 (ma 27) 3 nx] : List va_W) ([] ++ [WMo o ma mi ml, WMp X ma pv, Wa X 2 (ma 22) 105 sa, Wa X 2 (ma 26) 3 lk, Wa X 2 (ma 27) 3 nx]) from List.Perm.refl _))
    have hDm := zd_perm hD (zblk (show List.Perm ([WMo o ma mi ml, WMp X ma pv, Wa X 2 (ma 22) 105 sa, Wa X 2 (ma 26) 3 lk, Wa X 2 (ma 27) 3 nx] : List va_W) ([] ++ [WMo o ma mi ml, WMp X ma pv, Wa X 2 (ma 22) 105 sa, Wa X 2 (ma 26) 3 lk, Wa X 2 (ma 27) 3 nx]) from List.Perm.refl _))
    refine z_callS (wr := zb [WMo o ma mi ml, WMp X ma pv, Wa X 2 (ma 22) 105 sa, Wa X 2 (ma 26) 3 lk, Wa X 2 (ma 27) 3 nx]) (As := [.int (iI x), .int (iI 1), .int (iI 8)]) (rest := []) ⟨hx, hb, hml, hown, hts⟩ (c_X12_within l X x 1 8 (by omega)) (va_cwS 3 hts gX12_odds_X12_within rfl rfl rfl (by decide +kernel) ⟨Nat.le_of_ble_eq_true rfl, Nat.le_of_ble_eq_true rfl⟩) hl.1 dX12_odds_15 rfl rfl (Nat.le_of_ble_eq_true rfl) ⟨(Nat.le_of_ble_eq_true rfl), (Nat.le_of_ble_eq_true rfl)⟩ hS hA hK hPm hDm (fun _ H locs _ hP hD hS => ?_)
    have hP := zp_perm hP ((zblk (show List.Perm ([WMo o ma mi ml, WMp X ma pv, Wa X 2 (ma 22) 105 sa, Wa X 2 (ma 26) 3 lk, Wa X 2 (ma 27) 3 nx] : List va_W) ([] ++ [WMo o ma mi ml, WMp X ma pv, Wa X 2 (ma 22) 105 sa, Wa X 2 (ma 26) 3 lk, Wa X 2 (ma 27) 3 nx]) from List.Perm.refl _))).symm
    have hD := zd_perm hD ((zblk (show List.Perm ([WMo o ma mi ml, WMp X ma pv, Wa X 2 (ma 22) 105 sa, Wa X 2 (ma 26) 3 lk, Wa X 2 (ma 27) 3 nx] : List va_W) ([] ++ [WMo o ma mi ml, WMp X ma pv, Wa X 2 (ma 22) 105 sa, Wa X 2 (ma 26) 3 lk, Wa X 2 (ma 27) 3 nx]) from List.Perm.refl _))).symm
    have hP : va_P X.1 vwCl (zb [WMo o ma mi ml, WMp X ma pv, Wa X 2 (ma 22) 105 sa, Wa X 2 (ma 26) 3 lk, Wa X 2 (ma 27) 3 nx]) H := hP
    have hD : va_D A (zb [WMo o ma mi ml, WMp X ma pv, Wa X 2 (ma 22) 105 sa, Wa X 2 (ma 26) 3 lk, Wa X 2 (ma 27) 3 nx]) := hD
    refine W.eq (g2 := F0 m 18 ls [.int (iI (if 1 ≤ x ∧ x ≤ 8 then 1 else 0))]) rfl ?_
    refine z_if_eq (tgt := 45) hx hb (by omega) dX12_odds_18 (by decide) (fun c_2 => ?_) (fun c_2 => ?_)
    · skip
      refine lv_iconst (v := iI 0) hx hb dX12_odds_45 (by decide) ?_
      refine lv_istore (lv' := [(5, .int (iI 0)), (0, .ref o), (1, .int (iI z)), (2, .int (iI x)), (3, .int (iI t)), (4, .int (iI y))]) hx hb dX12_odds_46 hl (by decide) rfl (fun ls hl => ?_)
      refine lv_iload hx hb dX12_odds_48 (lv_at hl 0 rfl) ?_
      refine z_if_eq (tgt := 65) hx hb (by omega) dX12_odds_50 (by decide) (fun c_3 => ?_) (fun c_3 => ?_)
      · skip
        refine lv_bipush (v := iI (-102)) hx hb dX12_odds_65 (by decide) ?_
        exact z_iret hQ hx hb hr hlocks hS ⟨(Nat.le_of_ble_eq_true rfl), (Nat.le_of_ble_eq_true rfl)⟩ dX12_odds_67 (sa, lk, nx) (congrArg (fun z => some (Value.int (iI z))) (show (oddsR (mi 1) z x t y pv : Int) = (-102) by first | rfl | (unfold oddsR; (repeat (first | rw [if_pos (by omega)] | rw [if_neg (by omega)])); done))) (by (try dsimp only); intro k hk; first | rfl | exact savF_lo hk) hP hD
      · skip
        exact absurd c_3 (by omega)
    · skip
      refine lv_iload_n hx hb dX12_odds_21 rfl (lv_at hl 3 rfl) ?_
      refine lv_iconst (v := iI 0) hx hb dX12_odds_22 (by decide) ?_
      refine lv_bipush (v := iI 10) hx hb dX12_odds_23 (by decide) ?_
      have hPm := zp_perm hP (zblk (show List.Perm ([WMo o ma mi ml, WMp X ma pv, Wa X 2 (ma 22) 105 sa, Wa X 2 (ma 26) 3 lk, Wa X 2 (ma 27) 3 nx] : List va_W) ([] ++ [WMo o ma mi ml, WMp X ma pv, Wa X 2 (ma 22) 105 sa, Wa X 2 (ma 26) 3 lk, Wa X 2 (ma 27) 3 nx]) from List.Perm.refl _))
      have hDm := zd_perm hD (zblk (show List.Perm ([WMo o ma mi ml, WMp X ma pv, Wa X 2 (ma 22) 105 sa, Wa X 2 (ma 26) 3 lk, Wa X 2 (ma 27) 3 nx] : List va_W) ([] ++ [WMo o ma mi ml, WMp X ma pv, Wa X 2 (ma 22) 105 sa, Wa X 2 (ma 26) 3 lk, Wa X 2 (ma 27) 3 nx]) from List.Perm.refl _))
      refine z_callS (wr := zb [WMo o ma mi ml, WMp X ma pv, Wa X 2 (ma 22) 105 sa, Wa X 2 (ma 26) 3 lk, Wa X 2 (ma 27) 3 nx]) (As := [.int (iI t), .int (iI 0), .int (iI 10)]) (rest := []) ⟨hx, hb, hml, hown, hts⟩ (c_X12_within l X t 0 10 (by omega)) (va_cwS 3 hts gX12_odds_X12_within rfl rfl rfl (by decide +kernel) ⟨Nat.le_of_ble_eq_true rfl, Nat.le_of_ble_eq_true rfl⟩) hl.1 dX12_odds_25 rfl rfl (Nat.le_of_ble_eq_true rfl) ⟨(Nat.le_of_ble_eq_true rfl), (Nat.le_of_ble_eq_true rfl)⟩ hS hA hK hPm hDm (fun _ H locs _ hP hD hS => ?_)
      have hP := zp_perm hP ((zblk (show List.Perm ([WMo o ma mi ml, WMp X ma pv, Wa X 2 (ma 22) 105 sa, Wa X 2 (ma 26) 3 lk, Wa X 2 (ma 27) 3 nx] : List va_W) ([] ++ [WMo o ma mi ml, WMp X ma pv, Wa X 2 (ma 22) 105 sa, Wa X 2 (ma 26) 3 lk, Wa X 2 (ma 27) 3 nx]) from List.Perm.refl _))).symm
      have hD := zd_perm hD ((zblk (show List.Perm ([WMo o ma mi ml, WMp X ma pv, Wa X 2 (ma 22) 105 sa, Wa X 2 (ma 26) 3 lk, Wa X 2 (ma 27) 3 nx] : List va_W) ([] ++ [WMo o ma mi ml, WMp X ma pv, Wa X 2 (ma 22) 105 sa, Wa X 2 (ma 26) 3 lk, Wa X 2 (ma 27) 3 nx]) from List.Perm.refl _))).symm
      have hP : va_P X.1 vwCl (zb [WMo o ma mi ml, WMp X ma pv, Wa X 2 (ma 22) 105 sa, Wa X 2 (ma 26) 3 lk, Wa X 2 (ma 27) 3 nx]) H := hP
      have hD : va_D A (zb [WMo o ma mi ml, WMp X ma pv, Wa X 2 (ma 22) 105 sa, Wa X 2 (ma 26) 3 lk, Wa X 2 (ma 27) 3 nx]) := hD
      refine W.eq (g2 := F0 m 28 ls [.int (iI (if 0 ≤ t ∧ t ≤ 10 then 1 else 0))]) rfl ?_
      refine z_if_eq (tgt := 45) hx hb (by omega) dX12_odds_28 (by decide) (fun c_4 => ?_) (fun c_4 => ?_)
      · skip
        refine lv_iconst (v := iI 0) hx hb dX12_odds_45 (by decide) ?_
        refine lv_istore (lv' := [(5, .int (iI 0)), (0, .ref o), (1, .int (iI z)), (2, .int (iI x)), (3, .int (iI t)), (4, .int (iI y))]) hx hb dX12_odds_46 hl (by decide) rfl (fun ls hl => ?_)
        refine lv_iload hx hb dX12_odds_48 (lv_at hl 0 rfl) ?_
        refine z_if_eq (tgt := 65) hx hb (by omega) dX12_odds_50 (by decide) (fun c_5 => ?_) (fun c_5 => ?_)
        · skip
          refine lv_bipush (v := iI (-102)) hx hb dX12_odds_65 (by decide) ?_
          exact z_iret hQ hx hb hr hlocks hS ⟨(Nat.le_of_ble_eq_true rfl), (Nat.le_of_ble_eq_true rfl)⟩ dX12_odds_67 (sa, lk, nx) (congrArg (fun z => some (Value.int (iI z))) (show (oddsR (mi 1) z x t y pv : Int) = (-102) by first | rfl | (unfold oddsR; (repeat (first | rw [if_pos (by omega)] | rw [if_neg (by omega)])); done))) (by (try dsimp only); intro k hk; first | rfl | exact savF_lo hk) hP hD
        · skip
          exact absurd c_5 (by omega)
      · skip
        refine lv_iload hx hb dX12_odds_31 (lv_at hl 4 rfl) ?_
        refine lv_iconst (v := iI 0) hx hb dX12_odds_33 (by decide) ?_
        refine lv_iconst (v := iI 1) hx hb dX12_odds_34 (by decide) ?_
        have hPm := zp_perm hP (zblk (show List.Perm ([WMo o ma mi ml, WMp X ma pv, Wa X 2 (ma 22) 105 sa, Wa X 2 (ma 26) 3 lk, Wa X 2 (ma 27) 3 nx] : List va_W) ([] ++ [WMo o ma mi ml, WMp X ma pv, Wa X 2 (ma 22) 105 sa, Wa X 2 (ma 26) 3 lk, Wa X 2 (ma 27) 3 nx]) from List.Perm.refl _))
        have hDm := zd_perm hD (zblk (show List.Perm ([WMo o ma mi ml, WMp X ma pv, Wa X 2 (ma 22) 105 sa, Wa X 2 (ma 26) 3 lk, Wa X 2 (ma 27) 3 nx] : List va_W) ([] ++ [WMo o ma mi ml, WMp X ma pv, Wa X 2 (ma 22) 105 sa, Wa X 2 (ma 26) 3 lk, Wa X 2 (ma 27) 3 nx]) from List.Perm.refl _))
        refine z_callS (wr := zb [WMo o ma mi ml, WMp X ma pv, Wa X 2 (ma 22) 105 sa, Wa X 2 (ma 26) 3 lk, Wa X 2 (ma 27) 3 nx]) (As := [.int (iI y), .int (iI 0), .int (iI 1)]) (rest := []) ⟨hx, hb, hml, hown, hts⟩ (c_X12_within l X y 0 1 (by omega)) (va_cwS 3 hts gX12_odds_X12_within rfl rfl rfl (by decide +kernel) ⟨Nat.le_of_ble_eq_true rfl, Nat.le_of_ble_eq_true rfl⟩) hl.1 dX12_odds_35 rfl rfl (Nat.le_of_ble_eq_true rfl) ⟨(Nat.le_of_ble_eq_true rfl), (Nat.le_of_ble_eq_true rfl)⟩ hS hA hK hPm hDm (fun _ H locs _ hP hD hS => ?_)
        have hP := zp_perm hP ((zblk (show List.Perm ([WMo o ma mi ml, WMp X ma pv, Wa X 2 (ma 22) 105 sa, Wa X 2 (ma 26) 3 lk, Wa X 2 (ma 27) 3 nx] : List va_W) ([] ++ [WMo o ma mi ml, WMp X ma pv, Wa X 2 (ma 22) 105 sa, Wa X 2 (ma 26) 3 lk, Wa X 2 (ma 27) 3 nx]) from List.Perm.refl _))).symm
        have hD := zd_perm hD ((zblk (show List.Perm ([WMo o ma mi ml, WMp X ma pv, Wa X 2 (ma 22) 105 sa, Wa X 2 (ma 26) 3 lk, Wa X 2 (ma 27) 3 nx] : List va_W) ([] ++ [WMo o ma mi ml, WMp X ma pv, Wa X 2 (ma 22) 105 sa, Wa X 2 (ma 26) 3 lk, Wa X 2 (ma 27) 3 nx]) from List.Perm.refl _))).symm
        have hP : va_P X.1 vwCl (zb [WMo o ma mi ml, WMp X ma pv, Wa X 2 (ma 22) 105 sa, Wa X 2 (ma 26) 3 lk, Wa X 2 (ma 27) 3 nx]) H := hP
        have hD : va_D A (zb [WMo o ma mi ml, WMp X ma pv, Wa X 2 (ma 22) 105 sa, Wa X 2 (ma 26) 3 lk, Wa X 2 (ma 27) 3 nx]) := hD
        refine W.eq (g2 := F0 m 38 ls [.int (iI (if 0 ≤ y ∧ y ≤ 1 then 1 else 0))]) rfl ?_
        refine z_if_eq (tgt := 45) hx hb (by omega) dX12_odds_38 (by decide) (fun c_6 => ?_) (fun c_6 => ?_)
        · skip
          refine lv_iconst (v := iI 0) hx hb dX12_odds_45 (by decide) ?_
          refine lv_istore (lv' := [(5, .int (iI 0)), (0, .ref o), (1, .int (iI z)), (2, .int (iI x)), (3, .int (iI t)), (4, .int (iI y))]) hx hb dX12_odds_46 hl (by decide) rfl (fun ls hl => ?_)
          refine lv_iload hx hb dX12_odds_48 (lv_at hl 0 rfl) ?_
          refine z_if_eq (tgt := 65) hx hb (by omega) dX12_odds_50 (by decide) (fun c_7 => ?_) (fun c_7 => ?_)
          · skip
            refine lv_bipush (v := iI (-102)) hx hb dX12_odds_65 (by decide) ?_
            exact z_iret hQ hx hb hr hlocks hS ⟨(Nat.le_of_ble_eq_true rfl), (Nat.le_of_ble_eq_true rfl)⟩ dX12_odds_67 (sa, lk, nx) (congrArg (fun z => some (Value.int (iI z))) (show (oddsR (mi 1) z x t y pv : Int) = (-102) by first | rfl | (unfold oddsR; (repeat (first | rw [if_pos (by omega)] | rw [if_neg (by omega)])); done))) (by (try dsimp only); intro k hk; first | rfl | exact savF_lo hk) hP hD
          · skip
            exact absurd c_7 (by omega)
        · skip
          refine lv_iconst (v := iI 1) hx hb dX12_odds_41 (by decide) ?_
          refine lv_goto (tgt := 46) hx hb dX12_odds_42 (by decide) ?_
          refine lv_istore (lv' := [(5, .int (iI 1)), (0, .ref o), (1, .int (iI z)), (2, .int (iI x)), (3, .int (iI t)), (4, .int (iI y))]) hx hb dX12_odds_46 hl (by decide) rfl (fun ls hl => ?_)
          refine lv_iload hx hb dX12_odds_48 (lv_at hl 0 rfl) ?_
          refine z_if_eq (tgt := 65) hx hb (by omega) dX12_odds_50 (by decide) (fun c_8 => ?_) (fun c_8 => ?_)
          · skip
            exact absurd c_8 (by omega)
          · skip
            refine lv_aload_n hx hb dX12_odds_53 rfl (lv_at hl 1 rfl) ?_
            refine lv_iload_n hx hb dX12_odds_54 rfl (lv_at hl 2 rfl) ?_
            refine lv_iload_n hx hb dX12_odds_55 rfl (lv_at hl 3 rfl) ?_
            refine lv_iload_n hx hb dX12_odds_56 rfl (lv_at hl 4 rfl) ?_
            refine lv_iload hx hb dX12_odds_57 (lv_at hl 5 rfl) ?_
            have hPm := zp_perm hP (zblk (show List.Perm ([WMo o ma mi ml, WMp X ma pv, Wa X 2 (ma 22) 105 sa, Wa X 2 (ma 26) 3 lk, Wa X 2 (ma 27) 3 nx] : List va_W) ([WMo o ma mi ml, WMp X ma pv, Wa X 2 (ma 22) 105 sa, Wa X 2 (ma 26) 3 lk, Wa X 2 (ma 27) 3 nx] ++ []) from (zf1 _ 0 _ rfl).trans (((zf1 _ 0 _ rfl).trans (((zf1 _ 0 _ rfl).trans (((zf1 _ 0 _ rfl).trans (((zf1 _ 0 _ rfl).trans ((List.Perm.refl _).cons _)).cons _)).cons _)).cons _)).cons _)))
            have hDm := zd_perm hD (zblk (show List.Perm ([WMo o ma mi ml, WMp X ma pv, Wa X 2 (ma 22) 105 sa, Wa X 2 (ma 26) 3 lk, Wa X 2 (ma 27) 3 nx] : List va_W) ([WMo o ma mi ml, WMp X ma pv, Wa X 2 (ma 22) 105 sa, Wa X 2 (ma 26) 3 lk, Wa X 2 (ma 27) 3 nx] ++ []) from (zf1 _ 0 _ rfl).trans (((zf1 _ 0 _ rfl).trans (((zf1 _ 0 _ rfl).trans (((zf1 _ 0 _ rfl).trans (((zf1 _ 0 _ rfl).trans ((List.Perm.refl _).cons _)).cons _)).cons _)).cons _)).cons _)))
            refine z_callV (wr := zb []) (As := [.int (iI z), .int (iI x), .int (iI t), .int (iI y)]) (rest := []) ⟨hx, hb, hml, hown, hts⟩ (c_X12_oddsNow l X o ma mi ml pv sa lk nx z x t y (by omega) (by exact hpv) (by omega) (by omega) (by omega) (by omega)) (cwV 4 hts gX12_odds_X12_oddsNow rfl rfl rfl (by decide +kernel) ⟨Nat.le_of_ble_eq_true rfl, Nat.le_of_ble_eq_true rfl⟩) rfl rfl hl.1 dX12_odds_59 rfl rfl (Nat.le_of_ble_eq_true rfl) ⟨(Nat.le_of_ble_eq_true rfl), (Nat.le_of_ble_eq_true rfl)⟩ hS hA hK hPm hDm (fun u H locs _ hP hD hS => ?_)
            obtain ⟨lk9_9, nx9_10⟩ := u
            have hP := zp_perm hP ((zblk (show List.Perm ([WMo o ma mi ml, WMp X ma pv, Wa X 2 (ma 22) 105 (savF 15 pv sa), Wa X 2 (ma 26) 3 lk9_9, Wa X 2 (ma 27) 3 nx9_10] : List va_W) ([WMo o ma mi ml, WMp X ma pv, Wa X 2 (ma 22) 105 (savF 15 pv sa), Wa X 2 (ma 26) 3 lk9_9, Wa X 2 (ma 27) 3 nx9_10] ++ []) from (zf1 _ 0 _ rfl).trans (((zf1 _ 0 _ rfl).trans (((zf1 _ 0 _ rfl).trans (((zf1 _ 0 _ rfl).trans (((zf1 _ 0 _ rfl).trans ((List.Perm.refl _).cons _)).cons _)).cons _)).cons _)).cons _)))).symm
            have hD := zd_perm hD ((zblk (show List.Perm ([WMo o ma mi ml, WMp X ma pv, Wa X 2 (ma 22) 105 (savF 15 pv sa), Wa X 2 (ma 26) 3 lk9_9, Wa X 2 (ma 27) 3 nx9_10] : List va_W) ([WMo o ma mi ml, WMp X ma pv, Wa X 2 (ma 22) 105 (savF 15 pv sa), Wa X 2 (ma 26) 3 lk9_9, Wa X 2 (ma 27) 3 nx9_10] ++ []) from (zf1 _ 0 _ rfl).trans (((zf1 _ 0 _ rfl).trans (((zf1 _ 0 _ rfl).trans (((zf1 _ 0 _ rfl).trans (((zf1 _ 0 _ rfl).trans ((List.Perm.refl _).cons _)).cons _)).cons _)).cons _)).cons _)))).symm
            have hP : va_P X.1 vwCl (zb [WMo o ma mi ml, WMp X ma pv, Wa X 2 (ma 22) 105 (savF 15 pv sa), Wa X 2 (ma 26) 3 lk9_9, Wa X 2 (ma 27) 3 nx9_10]) H := hP
            have hD : va_D A (zb [WMo o ma mi ml, WMp X ma pv, Wa X 2 (ma 22) 105 (savF 15 pv sa), Wa X 2 (ma 26) 3 lk9_9, Wa X 2 (ma 27) 3 nx9_10]) := hD
            refine W.eq (g2 := F0 m 62 ls [.int (iI (oddsR (mi 1) z x t y pv))]) rfl ?_
            refine lv_goto (tgt := 67) hx hb dX12_odds_62 (by decide) ?_
            exact z_iret hQ hx hb hr hlocks hS ⟨(Nat.le_of_ble_eq_true rfl), (Nat.le_of_ble_eq_true rfl)⟩ dX12_odds_67 ((savF 15 pv sa), lk9_9, nx9_10) rfl (by (try dsimp only); intro k hk; first | rfl | exact savF_lo hk) hP hD
  · skip
    refine lv_bipush (v := iI (-101)) hx hb dX12_odds_8 (by decide) ?_
    exact z_iret hQ hx hb hr hlocks hS ⟨(Nat.le_of_ble_eq_true rfl), (Nat.le_of_ble_eq_true rfl)⟩ dX12_odds_10 (sa, lk, nx) (congrArg (fun z => some (Value.int (iI z))) (show (oddsR (mi 1) z x t y pv : Int) = (-101) by first | rfl | (unfold oddsR; (repeat (first | rw [if_pos (by omega)] | rw [if_neg (by omega)])); done))) (by (try dsimp only); intro k hk; first | rfl | exact savF_lo hk) hP hD
set_option maxHeartbeats 1000000 in
set_option maxRecDepth 100000 in
theorem c_X12_draw (l : Launch) (X : zX) (o : Nat) (ma : Nat → Nat) (mi : Nat → Int) (ml : Nat → Int) (x : Int) (hsd : 0 ≤ ml 28 ∧ ml 28 < 2147483648) (hx1 : 1 ≤ x ∧ x ≤ 1000) : zF l X yX12_draw wsX12_draw 0 0 [.ref o, .int (iI x)] (zb [WMo o ma mi ml]) (some (.int (iI (nsd (ml 28) / 65536 % x)))) (zb [WMo o ma mi (updZ ml 28 (nsd (ml 28)))]) := by
  refine z_enter (cc := cX12_draw) (maxL := 2) (ret := (some .int)) (by decide) rfl (Nat.le_of_ble_eq_true rfl) ?_
  intro p e s m below meth c A ls Q hQ hE hl hP hD
  obtain ⟨hx, hb, hr, hml, hown, hts, hlocks, hnm, hA, hK⟩ := hE
  have hown : s.vm.findClass RX12 = some m.cls := hown
  have hS : va_S A s.heap s.heap [] := va_S.rf
  have hl : lv_has ls 2 [(0, .ref o), (1, .int (iI x))] := hl
  have inX12 : ∀ w ∈ u_ws RX12 TX12 38, w ∈ wsX12_draw := by decide +kernel
  have hnn := nsd_in (ml 28)
  have hnd : nsd (ml 28) = (1103515245 * ml 28 + 12345) % 2147483648 := rfl
  refine lv_aload_n hx hb dX12_draw_0 rfl (lv_at hl 0 rfl) ?_
  refine lv_ldc2 (v := lI 1103515245) hx hb hown (hts (.constantLong RX12 248 (1103515245)) (by decide +kernel)) dX12_draw_1 ?_
  refine lv_aload_n hx hb dX12_draw_4 rfl (lv_at hl 0 rfl) ?_
  refine va_get (ci := 12) (v := .long (lI (ml 28))) (C := RX12) (T := TX12) (N := 38) hx hb hts inX12 hown hK.1 hP 0 rfl rfl 28 (by decide) (hts (.fieldLink RX12 250 "SkimmedSonsModel" "seedNow" "J") (by decide +kernel)) (fun _ h9 => h9) rfl dX12_draw_5 ?_
  refine z_lmul hx hb dX12_draw_8 ?_
  refine lv_ldc2 (v := lI 12345) hx hb hown (hts (.constantLong RX12 254 (12345)) (by decide +kernel)) dX12_draw_9 ?_
  refine z_ladd hx hb dX12_draw_12 ?_
  refine lv_ldc2 (v := lI 2147483647) hx hb hown (hts (.constantLong RX12 256 (2147483647)) (by decide +kernel)) dX12_draw_13 ?_
  refine z_land31 hx hb (by omega) dX12_draw_16 ?_
  refine va_put (ci := 12) (v := .long (lI (((1103515245 * (ml 28)) + 12345) % 2147483648))) (ty := .long) (C := RX12) (T := TX12) (N := 38) hx hb hts inX12 tyX12 tyX12_ok nmX12 hown hK.1 hP hD hS 0 rfl rfl 28 (by decide) (hts (.fieldLink RX12 250 "SkimmedSonsModel" "seedNow" "J") (by decide +kernel)) (fun _ h9 => h9) rfl (by decide +kernel) rfl rfl (Nat.le_of_ble_eq_true rfl) dX12_draw_17 (fun H locs hP hD hS => ?_)
  have hP : va_P X.1 vwCl (zb [WMo o ma mi (updZ ml 28 (((1103515245 * (ml 28)) + 12345) % 2147483648))]) H := hP
  have hD : va_D A (zb [WMo o ma mi (updZ ml 28 (((1103515245 * (ml 28)) + 12345) % 2147483648))]) := hD
  refine lv_aload_n hx hb dX12_draw_20 rfl (lv_at hl 0 rfl) ?_
  refine va_get (ci := 12) (v := .long (lI (((1103515245 * (ml 28)) + 12345) % 2147483648))) (C := RX12) (T := TX12) (N := 38) hx hb hts inX12 hown hK.1 hP 0 rfl rfl 28 (by decide) (hts (.fieldLink RX12 250 "SkimmedSonsModel" "seedNow" "J") (by decide +kernel)) (fun _ h9 => h9) rfl dX12_draw_21 ?_
  refine lv_ldc2 (v := lI 65536) hx hb hown (hts (.constantLong RX12 258 (65536)) (by decide +kernel)) dX12_draw_24 ?_
  refine z_ldiv hx hb (by omega) dX12_draw_27 ?_
  refine lv_iload_n hx hb dX12_draw_28 rfl (lv_at hl 1 rfl) ?_
  refine z_i2l hx hb (by omega) dX12_draw_29 ?_
  refine z_lrem hx hb (by omega) dX12_draw_30 ?_
  refine z_l2i hx hb dX12_draw_31 ?_
  have hw : zb [WMo o ma mi (updZ ml 28 (((1103515245 * (ml 28)) + 12345) % 2147483648))] = zb [WMo o ma mi (updZ ml 28 (nsd (ml 28)))] := by rfl
  rw [hw] at hP hD
  exact z_iret hQ hx hb hr hlocks hS ⟨(Nat.le_of_ble_eq_true rfl), (Nat.le_of_ble_eq_true rfl)⟩ dX12_draw_32 () (congrArg (fun z => some (Value.int (iI z))) (show (nsd (ml 28) / 65536 % x : Int) = ((((1103515245 * (ml 28)) + 12345) % 2147483648) / 65536) % x by rfl)) trivial hP hD
set_option maxHeartbeats 1000000 in
set_option maxRecDepth 100000 in
theorem c_X12_nightsNow (l : Launch) (X : zX) (o : Nat) (ma : Nat → Nat) (mi : Nat → Int) (ml : Nat → Int) (pv : Nat → Nat → Int) (kz : Nat → Int) (sa : Nat → Int) (x : Int) (z : Int) (y : Int) (hn : 1 ≤ mi 1 ∧ mi 1 ≤ 3) (ht : 1 ≤ mi 2 ∧ mi 2 ≤ 5) (hpv : PanS pv) (hpg : ∀ j, j < (mi 1).toNat → PanG 2000 (pv j)) (hkm : KidM (mi 2) kz) (hx6 : 1 ≤ x ∧ x ≤ 60) (hz0 : 0 ≤ z ∧ z < 2147483648) (hy2 : 0 ≤ y ∧ y ≤ 2) : zM (S := (Int)) l X yX12_nightsNow wsX12_nightsNow { frames := 3, cells := 0, slots := 0, locals := 64 } [.ref o, .int (iI x), .int (iI z), .int (iI y)] (zb [WMo o ma mi ml, WMp X ma pv, Wa X 2 (ma 9) 5 kz, Wa X 2 (ma 22) 105 sa]) (fun u => (some (.int (iI (nightsR (mi 2) (mi 1) (mi 1) x z y (kdM kz) pv))))) (fun u => zb [WMo o ma mi (updZ ml 28 u), WMp X ma pv, Wa X 2 (ma 9) 5 kz, Wa X 2 (ma 22) 105 (savF 15 pv sa)]) (fun u => True) := by
  refine z_enter (cc := cX12_nightsNow) (maxL := 10) (ret := (some .int)) (by decide) rfl (Nat.le_of_ble_eq_true rfl) ?_
  intro p e s m below meth c A ls Q hQ hE hl hP hD
  obtain ⟨hx, hb, hr, hml, hown, hts, hlocks, hnm, hA, hK⟩ := hE
  have hown : s.vm.findClass RX12 = some m.cls := hown
  have hS : va_S A s.heap s.heap [] := va_S.rf
  have hl : lv_has ls 10 [(0, .ref o), (1, .int (iI x)), (2, .int (iI z)), (3, .int (iI y))] := hl
  have inX12 : ∀ w ∈ u_ws RX12 TX12 38, w ∈ wsX12_nightsNow := by decide +kernel
  have hn : 0 ≤ mi 1 ∧ mi 1 ≤ 3 := by omega
  refine lv_aload_n hx hb dX12_nightsNow_0 rfl (lv_at hl 0 rfl) ?_
  refine lv_iconst (v := iI 1) hx hb dX12_nightsNow_1 (by decide) ?_
  have hPm := zp_perm hP (zblk (show List.Perm ([WMo o ma mi ml, WMp X ma pv, Wa X 2 (ma 9) 5 kz, Wa X 2 (ma 22) 105 sa] : List va_W) ([WMo o ma mi ml, WMp X ma pv, Wa X 2 (ma 22) 105 sa] ++ [Wa X 2 (ma 9) 5 kz]) from (zf1 _ 0 _ rfl).trans (((zf1 _ 0 _ rfl).trans (((zf1 _ 1 _ rfl).trans ((List.Perm.refl _).cons _)).cons _)).cons _)))
  have hDm := zd_perm hD (zblk (show List.Perm ([WMo o ma mi ml, WMp X ma pv, Wa X 2 (ma 9) 5 kz, Wa X 2 (ma 22) 105 sa] : List va_W) ([WMo o ma mi ml, WMp X ma pv, Wa X 2 (ma 22) 105 sa] ++ [Wa X 2 (ma 9) 5 kz]) from (zf1 _ 0 _ rfl).trans (((zf1 _ 0 _ rfl).trans (((zf1 _ 1 _ rfl).trans ((List.Perm.refl _).cons _)).cons _)).cons _)))
  refine z_callV (wr := zb [Wa X 2 (ma 9) 5 kz]) (As := [.int (iI 1)]) (rest := []) ⟨hx, hb, hml, hown, hts⟩ (c_X12_save_1 l X o ma mi ml pv sa ) (cwV 1 hts gX12_nightsNow_X12_save rfl rfl rfl (by decide +kernel) ⟨Nat.le_of_ble_eq_true rfl, Nat.le_of_ble_eq_true rfl⟩) rfl rfl hl.1 dX12_nightsNow_2 rfl rfl (Nat.le_of_ble_eq_true rfl) ⟨(Nat.le_of_ble_eq_true rfl), (Nat.le_of_ble_eq_true rfl)⟩ hS hA hK hPm hDm (fun _ H locs _ hP hD hS => ?_)
  have hP := zp_perm hP ((zblk (show List.Perm ([WMo o ma mi ml, WMp X ma pv, Wa X 2 (ma 9) 5 kz, Wa X 2 (ma 22) 105 (savF 15 pv sa)] : List va_W) ([WMo o ma mi ml, WMp X ma pv, Wa X 2 (ma 22) 105 (savF 15 pv sa)] ++ [Wa X 2 (ma 9) 5 kz]) from (zf1 _ 0 _ rfl).trans (((zf1 _ 0 _ rfl).trans (((zf1 _ 1 _ rfl).trans ((List.Perm.refl _).cons _)).cons _)).cons _)))).symm
  have hD := zd_perm hD ((zblk (show List.Perm ([WMo o ma mi ml, WMp X ma pv, Wa X 2 (ma 9) 5 kz, Wa X 2 (ma 22) 105 (savF 15 pv sa)] : List va_W) ([WMo o ma mi ml, WMp X ma pv, Wa X 2 (ma 22) 105 (savF 15 pv sa)] ++ [Wa X 2 (ma 9) 5 kz]) from (zf1 _ 0 _ rfl).trans (((zf1 _ 0 _ rfl).trans (((zf1 _ 1 _ rfl).trans ((List.Perm.refl _).cons _)).cons _)).cons _)))).symm
  have hP : va_P X.1 vwCl (zb [WMo o ma mi ml, WMp X ma pv, Wa X 2 (ma 9) 5 kz, Wa X 2 (ma 22) 105 (savF 15 pv sa)]) H := hP
  have hD : va_D A (zb [WMo o ma mi ml, WMp X ma pv, Wa X 2 (ma 9) 5 kz, Wa X 2 (ma 22) 105 (savF 15 pv sa)]) := hD
  refine W.eq (g2 := F0 m 5 ls []) rfl ?_
  refine lv_aload_n hx hb dX12_nightsNow_5 rfl (lv_at hl 0 rfl) ?_
  refine lv_iload_n hx hb dX12_nightsNow_6 rfl (lv_at hl 2 rfl) ?_
  refine z_i2l hx hb (by omega) dX12_nightsNow_7 ?_
  refine va_put (ci := 12) (v := .long (lI z)) (ty := .long) (C := RX12) (T := TX12) (N := 38) hx hb hts inX12 tyX12 tyX12_ok nmX12 hown hK.1 hP hD hS 0 rfl rfl 28 (by decide) (hts (.fieldLink RX12 250 "SkimmedSonsModel" "seedNow" "J") (by decide +kernel)) (fun _ h9 => h9) rfl (by decide +kernel) rfl rfl (Nat.le_of_ble_eq_true rfl) dX12_nightsNow_8 (fun H locs hP hD hS => ?_)
  have hP : va_P X.1 vwCl (zb [WMo o ma mi (updZ ml 28 z), WMp X ma pv, Wa X 2 (ma 9) 5 kz, Wa X 2 (ma 22) 105 (savF 15 pv sa)]) H := hP
  have hD : va_D A (zb [WMo o ma mi (updZ ml 28 z), WMp X ma pv, Wa X 2 (ma 9) 5 kz, Wa X 2 (ma 22) 105 (savF 15 pv sa)]) := hD
  refine lv_iconst (v := iI 0) hx hb dX12_nightsNow_11 (by decide) ?_
  refine lv_istore (lv' := [(4, .int (iI 0)), (0, .ref o), (1, .int (iI x)), (2, .int (iI z)), (3, .int (iI y))]) hx hb dX12_nightsNow_12 hl (by decide) rfl (fun ls hl => ?_)
  refine lv_iconst (v := iI 0) hx hb dX12_nightsNow_14 (by decide) ?_
  refine lv_istore (lv' := [(5, .int (iI 0)), (4, .int (iI 0)), (0, .ref o), (1, .int (iI x)), (2, .int (iI z)), (3, .int (iI y))]) hx hb dX12_nightsNow_15 hl (by decide) rfl (fun ls hl => ?_)
  refine lv_iconst (v := iI 0) hx hb dX12_nightsNow_17 (by decide) ?_
  refine lv_istore (lv' := [(6, .int (iI 0)), (5, .int (iI 0)), (4, .int (iI 0)), (0, .ref o), (1, .int (iI x)), (2, .int (iI z)), (3, .int (iI y))]) hx hb dX12_nightsNow_18 hl (by decide) rfl (fun ls hl => ?_)
  have L20 : ∀ (fu : Nat) (i : Nat) (now : Int) (u : Int) (w : Int) (V : Nat → Nat → Int), ((i : Int) ≤ x) → (NIv (mi 2) (mi 1) (kdM kz) z pv i V) → (now = (NZ (mi 2) (mi 1) (kdM kz) z pv i).1) → (u = (NZ (mi 2) (mi 1) (kdM kz) z pv i).2.1) → (w = (NZ (mi 2) (mi 1) (kdM kz) z pv i).2.2.1) → (∀ p : Nat, V p 0 = pv p 0) → (x - ↑i).toNat < fu → ∀ (H : Heap) (locs : List Loc) (ls : Array Slot), va_P X.1 vwCl (zb [WMo o ma mi (updZ ml 28 now), WMp X ma V, Wa X 2 (ma 9) 5 kz, Wa X 2 (ma 22) 105 (savF 15 pv sa)]) H → va_D A (zb [WMo o ma mi (updZ ml 28 now), WMp X ma V, Wa X 2 (ma 9) 5 kz, Wa X 2 (ma 22) 105 (savF 15 pv sa)]) → va_S A s.heap H locs → lv_has ls 10 [(0, .ref o), (1, .int (iI x)), (3, .int (iI y)), (4, .int (iI u)), (5, .int (iI w)), (6, .int (iI (↑i)))] → W p l e { frames := 3, cells := 0, slots := 0, locals := 64 } s m ([.ref o, .int (iI x), .int (iI z), .int (iI y)] : List Value).toArray below meth c H locs 0 0 Q (F0 m 20 ls []) := by
    intro fu
    induction fu with
    | zero => intro i now u w V hi hV hw1 hu1 hw2 hsl hm; exact absurd hm (Nat.not_lt_zero _)
    | succ fu ih20 =>
      intro i now u w V hi hV hw1 hu1 hw2 hsl hm H locs ls hP hD hS hl
      have hno : 0 ≤ now ∧ now < 2147483648 := by rw [hw1]; exact NZ_seed (by omega) i
      have hs1 := nsd_in now
      have hs2 := nsd_in (nsd now)
      have hs3 := nsd_in (nsd (nsd now))
      have hc0 : 0 ≤ (nsd (nsd now) / 65536 % mi 2) ∧ (nsd (nsd now) / 65536 % mi 2) < mi 2 := ⟨Int.emod_nonneg _ (by omega), Int.emod_lt_of_pos _ (by omega)⟩
      have hp0 : 0 ≤ (nsd (nsd (nsd now)) / 65536 % mi 1) ∧ (nsd (nsd (nsd now)) / 65536 % mi 1) < mi 1 := ⟨Int.emod_nonneg _ (by omega), Int.emod_lt_of_pos _ (by omega)⟩
      have hkq := hkm (nsd (nsd now) / 65536 % mi 2).toNat (by omega)
      have htp := topP_in (V (nsd (nsd (nsd now)) / 65536 % mi 1).toNat)
      refine lv_iload hx hb dX12_nightsNow_20 (lv_at hl 5 rfl) ?_
      refine lv_iload_n hx hb dX12_nightsNow_22 rfl (lv_at hl 1 rfl) ?_
      refine z_icmp_ge (tgt := 118) hx hb (by omega) dX12_nightsNow_23 (by decide) (fun c_1 => ?_) (fun c_1 => ?_)
      · skip
        refine lv_aload_n hx hb dX12_nightsNow_118 rfl (lv_at hl 0 rfl) ?_
        refine lv_iconst (v := iI 1) hx hb dX12_nightsNow_119 (by decide) ?_
        have hPm := zp_perm hP (zblk (show List.Perm ([WMo o ma mi (updZ ml 28 now), WMp X ma V, Wa X 2 (ma 9) 5 kz, Wa X 2 (ma 22) 105 (savF 15 pv sa)] : List va_W) ([WMo o ma mi (updZ ml 28 now), WMp X ma V, Wa X 2 (ma 22) 105 (savF 15 pv sa)] ++ [Wa X 2 (ma 9) 5 kz]) from (zf1 _ 0 _ rfl).trans (((zf1 _ 0 _ rfl).trans (((zf1 _ 1 _ rfl).trans ((List.Perm.refl _).cons _)).cons _)).cons _)))
        have hDm := zd_perm hD (zblk (show List.Perm ([WMo o ma mi (updZ ml 28 now), WMp X ma V, Wa X 2 (ma 9) 5 kz, Wa X 2 (ma 22) 105 (savF 15 pv sa)] : List va_W) ([WMo o ma mi (updZ ml 28 now), WMp X ma V, Wa X 2 (ma 22) 105 (savF 15 pv sa)] ++ [Wa X 2 (ma 9) 5 kz]) from (zf1 _ 0 _ rfl).trans (((zf1 _ 0 _ rfl).trans (((zf1 _ 1 _ rfl).trans ((List.Perm.refl _).cons _)).cons _)).cons _)))
        refine z_callV (wr := zb [Wa X 2 (ma 9) 5 kz]) (As := [.int (iI 1)]) (rest := []) ⟨hx, hb, hml, hown, hts⟩ (c_X12_load_1 l X o ma mi (updZ ml 28 now) V (savF 15 pv sa) pv (by refine LdOk_sav (fun p hp => ?_); exact (hsl p).symm)) (cwV 1 hts gX12_nightsNow_X12_load rfl rfl rfl (by decide +kernel) ⟨Nat.le_of_ble_eq_true rfl, Nat.le_of_ble_eq_true rfl⟩) rfl rfl hl.1 dX12_nightsNow_120 rfl rfl (Nat.le_of_ble_eq_true rfl) ⟨(Nat.le_of_ble_eq_true rfl), (Nat.le_of_ble_eq_true rfl)⟩ hS hA hK hPm hDm (fun _ H locs _ hP hD hS => ?_)
        have hP := zp_perm hP ((zblk (show List.Perm ([WMo o ma mi (updZ ml 28 now), WMp X ma pv, Wa X 2 (ma 9) 5 kz, Wa X 2 (ma 22) 105 (savF 15 pv sa)] : List va_W) ([WMo o ma mi (updZ ml 28 now), WMp X ma pv, Wa X 2 (ma 22) 105 (savF 15 pv sa)] ++ [Wa X 2 (ma 9) 5 kz]) from (zf1 _ 0 _ rfl).trans (((zf1 _ 0 _ rfl).trans (((zf1 _ 1 _ rfl).trans ((List.Perm.refl _).cons _)).cons _)).cons _)))).symm
        have hD := zd_perm hD ((zblk (show List.Perm ([WMo o ma mi (updZ ml 28 now), WMp X ma pv, Wa X 2 (ma 9) 5 kz, Wa X 2 (ma 22) 105 (savF 15 pv sa)] : List va_W) ([WMo o ma mi (updZ ml 28 now), WMp X ma pv, Wa X 2 (ma 22) 105 (savF 15 pv sa)] ++ [Wa X 2 (ma 9) 5 kz]) from (zf1 _ 0 _ rfl).trans (((zf1 _ 0 _ rfl).trans (((zf1 _ 1 _ rfl).trans ((List.Perm.refl _).cons _)).cons _)).cons _)))).symm
        have hP : va_P X.1 vwCl (zb [WMo o ma mi (updZ ml 28 now), WMp X ma pv, Wa X 2 (ma 9) 5 kz, Wa X 2 (ma 22) 105 (savF 15 pv sa)]) H := hP
        have hD : va_D A (zb [WMo o ma mi (updZ ml 28 now), WMp X ma pv, Wa X 2 (ma 9) 5 kz, Wa X 2 (ma 22) 105 (savF 15 pv sa)]) := hD
        refine W.eq (g2 := F0 m 123 ls []) rfl ?_
        refine lv_iload_n hx hb dX12_nightsNow_123 rfl (lv_at hl 2 rfl) ?_
        refine z_if_ne (tgt := 132) hx hb (by omega) dX12_nightsNow_124 (by decide) (fun c_2 => ?_) (fun c_2 => ?_)
        · skip
          refine lv_iload_n hx hb dX12_nightsNow_132 rfl (lv_at hl 2 rfl) ?_
          refine lv_iconst (v := iI 1) hx hb dX12_nightsNow_133 (by decide) ?_
          refine z_icmp_ne (tgt := 142) hx hb (by omega) dX12_nightsNow_134 (by decide) (fun c_3 => ?_) (fun c_3 => ?_)
          · skip
            refine lv_aload_n hx hb dX12_nightsNow_142 rfl (lv_at hl 0 rfl) ?_
            refine va_get (ci := 12) (v := .long (lI now)) (C := RX12) (T := TX12) (N := 38) hx hb hts inX12 hown hK.1 hP 0 rfl rfl 28 (by decide) (hts (.fieldLink RX12 250 "SkimmedSonsModel" "seedNow" "J") (by decide +kernel)) (fun _ h9 => h9) rfl dX12_nightsNow_143 ?_
            refine z_l2i hx hb dX12_nightsNow_146 ?_
            exact z_iret hQ hx hb hr hlocks hS ⟨(Nat.le_of_ble_eq_true rfl), (Nat.le_of_ble_eq_true rfl)⟩ dX12_nightsNow_147 now (congrArg (fun z => some (Value.int (iI z))) (show (nightsR (mi 2) (mi 1) (mi 1) x z y (kdM kz) pv : Int) = now by unfold nightsR; rw [if_pos (by omega), if_neg (by omega), ← show i = x.toNat by omega]; first | (rw [if_pos (by omega)]; exact hw1.symm) | (rw [if_neg (by omega), if_pos (by omega)]; exact hu1.symm) | (rw [if_neg (by omega), if_neg (by omega)]; exact hw2.symm))) trivial hP hD
          · skip
            refine lv_iload hx hb dX12_nightsNow_137 (lv_at hl 4 rfl) ?_
            refine lv_goto (tgt := 147) hx hb dX12_nightsNow_139 (by decide) ?_
            exact z_iret hQ hx hb hr hlocks hS ⟨(Nat.le_of_ble_eq_true rfl), (Nat.le_of_ble_eq_true rfl)⟩ dX12_nightsNow_147 now (congrArg (fun z => some (Value.int (iI z))) (show (nightsR (mi 2) (mi 1) (mi 1) x z y (kdM kz) pv : Int) = w by unfold nightsR; rw [if_pos (by omega), if_neg (by omega), ← show i = x.toNat by omega]; first | (rw [if_pos (by omega)]; exact hw1.symm) | (rw [if_neg (by omega), if_pos (by omega)]; exact hu1.symm) | (rw [if_neg (by omega), if_neg (by omega)]; exact hw2.symm))) trivial hP hD
        · skip
          refine lv_iload hx hb dX12_nightsNow_127 (lv_at hl 3 rfl) ?_
          refine lv_goto (tgt := 147) hx hb dX12_nightsNow_129 (by decide) ?_
          exact z_iret hQ hx hb hr hlocks hS ⟨(Nat.le_of_ble_eq_true rfl), (Nat.le_of_ble_eq_true rfl)⟩ dX12_nightsNow_147 now (congrArg (fun z => some (Value.int (iI z))) (show (nightsR (mi 2) (mi 1) (mi 1) x z y (kdM kz) pv : Int) = u by unfold nightsR; rw [if_pos (by omega), if_neg (by omega), ← show i = x.toNat by omega]; first | (rw [if_pos (by omega)]; exact hw1.symm) | (rw [if_neg (by omega), if_pos (by omega)]; exact hu1.symm) | (rw [if_neg (by omega), if_neg (by omega)]; exact hw2.symm))) trivial hP hD
      · skip
        refine lv_aload_n hx hb dX12_nightsNow_26 rfl (lv_at hl 0 rfl) ?_
        refine lv_iconst (v := iI 2) hx hb dX12_nightsNow_27 (by decide) ?_
        have hPm := zp_perm hP (zblk (show List.Perm ([WMo o ma mi (updZ ml 28 now), WMp X ma V, Wa X 2 (ma 9) 5 kz, Wa X 2 (ma 22) 105 (savF 15 pv sa)] : List va_W) ([WMo o ma mi (updZ ml 28 now)] ++ [WMp X ma V, Wa X 2 (ma 9) 5 kz, Wa X 2 (ma 22) 105 (savF 15 pv sa)]) from (zf1 _ 0 _ rfl).trans ((List.Perm.refl _).cons _)))
        have hDm := zd_perm hD (zblk (show List.Perm ([WMo o ma mi (updZ ml 28 now), WMp X ma V, Wa X 2 (ma 9) 5 kz, Wa X 2 (ma 22) 105 (savF 15 pv sa)] : List va_W) ([WMo o ma mi (updZ ml 28 now)] ++ [WMp X ma V, Wa X 2 (ma 9) 5 kz, Wa X 2 (ma 22) 105 (savF 15 pv sa)]) from (zf1 _ 0 _ rfl).trans ((List.Perm.refl _).cons _)))
        refine z_callV (wr := zb [WMp X ma V, Wa X 2 (ma 9) 5 kz, Wa X 2 (ma 22) 105 (savF 15 pv sa)]) (As := [.int (iI 2)]) (rest := []) ⟨hx, hb, hml, hown, hts⟩ (c_X12_draw l X o ma mi (updZ ml 28 now) 2 (by exact hno) (by omega)) (cwV 1 hts gX12_nightsNow_X12_draw rfl rfl rfl (by decide +kernel) ⟨Nat.le_of_ble_eq_true rfl, Nat.le_of_ble_eq_true rfl⟩) rfl rfl hl.1 dX12_nightsNow_28 rfl rfl (Nat.le_of_ble_eq_true rfl) ⟨(Nat.le_of_ble_eq_true rfl), (Nat.le_of_ble_eq_true rfl)⟩ hS hA hK hPm hDm (fun _ H locs _ hP hD hS => ?_)
        have hP := zp_perm hP ((zblk (show List.Perm ([WMo o ma mi (updZ ml 28 (nsd ((now)))), WMp X ma V, Wa X 2 (ma 9) 5 kz, Wa X 2 (ma 22) 105 (savF 15 pv sa)] : List va_W) ([WMo o ma mi (updZ ml 28 (nsd ((now))))] ++ [WMp X ma V, Wa X 2 (ma 9) 5 kz, Wa X 2 (ma 22) 105 (savF 15 pv sa)]) from (zf1 _ 0 _ rfl).trans ((List.Perm.refl _).cons _)))).symm
        have hD := zd_perm hD ((zblk (show List.Perm ([WMo o ma mi (updZ ml 28 (nsd ((now)))), WMp X ma V, Wa X 2 (ma 9) 5 kz, Wa X 2 (ma 22) 105 (savF 15 pv sa)] : List va_W) ([WMo o ma mi (updZ ml 28 (nsd ((now))))] ++ [WMp X ma V, Wa X 2 (ma 9) 5 kz, Wa X 2 (ma 22) 105 (savF 15 pv sa)]) from (zf1 _ 0 _ rfl).trans ((List.Perm.refl _).cons _)))).symm
        have hP : va_P X.1 vwCl (zb [WMo o ma mi (updZ ml 28 (nsd ((now)))), WMp X ma V, Wa X 2 (ma 9) 5 kz, Wa X 2 (ma 22) 105 (savF 15 pv sa)]) H := hP
        have hD : va_D A (zb [WMo o ma mi (updZ ml 28 (nsd ((now)))), WMp X ma V, Wa X 2 (ma 9) 5 kz, Wa X 2 (ma 22) 105 (savF 15 pv sa)]) := hD
        refine W.eq (g2 := F0 m 31 ls [.int (iI (nsd ((now)) / 65536 % 2))]) rfl ?_
        refine z_if_ne (tgt := 41) hx hb (by omega) dX12_nightsNow_31 (by decide) (fun c_4 => ?_) (fun c_4 => ?_)
        · skip
          have hdr : ¬ nsd (NZ (mi 2) (mi 1) (kdM kz) z pv i).1 / 65536 % 2 = 0 := by rw [← hw1]; omega
          refine lv_aload_n hx hb dX12_nightsNow_41 rfl (lv_at hl 0 rfl) ?_
          refine lv_aload_n hx hb dX12_nightsNow_42 rfl (lv_at hl 0 rfl) ?_
          refine va_get (ci := 12) (v := .int (iI (mi 2))) (C := RX12) (T := TX12) (N := 38) hx hb hts inX12 hown hK.1 hP 0 rfl rfl 2 (by decide) (hts (.fieldLink RX12 122 "SkimmedSonsModel" "children" "I") (by decide +kernel)) (fun _ h9 => h9) rfl dX12_nightsNow_43 ?_
          have hPm := zp_perm hP (zblk (show List.Perm ([WMo o ma mi (updZ ml 28 (nsd ((now)))), WMp X ma V, Wa X 2 (ma 9) 5 kz, Wa X 2 (ma 22) 105 (savF 15 pv sa)] : List va_W) ([WMo o ma mi (updZ ml 28 (nsd ((now))))] ++ [WMp X ma V, Wa X 2 (ma 9) 5 kz, Wa X 2 (ma 22) 105 (savF 15 pv sa)]) from (zf1 _ 0 _ rfl).trans ((List.Perm.refl _).cons _)))
          have hDm := zd_perm hD (zblk (show List.Perm ([WMo o ma mi (updZ ml 28 (nsd ((now)))), WMp X ma V, Wa X 2 (ma 9) 5 kz, Wa X 2 (ma 22) 105 (savF 15 pv sa)] : List va_W) ([WMo o ma mi (updZ ml 28 (nsd ((now))))] ++ [WMp X ma V, Wa X 2 (ma 9) 5 kz, Wa X 2 (ma 22) 105 (savF 15 pv sa)]) from (zf1 _ 0 _ rfl).trans ((List.Perm.refl _).cons _)))
          refine z_callV (wr := zb [WMp X ma V, Wa X 2 (ma 9) 5 kz, Wa X 2 (ma 22) 105 (savF 15 pv sa)]) (As := [.int (iI (mi 2))]) (rest := []) ⟨hx, hb, hml, hown, hts⟩ (c_X12_draw l X o ma mi (updZ ml 28 (nsd ((now)))) (mi 2) (by exact hs1) (by omega)) (cwV 1 hts gX12_nightsNow_X12_draw rfl rfl rfl (by decide +kernel) ⟨Nat.le_of_ble_eq_true rfl, Nat.le_of_ble_eq_true rfl⟩) rfl rfl hl.1 dX12_nightsNow_46 rfl rfl (Nat.le_of_ble_eq_true rfl) ⟨(Nat.le_of_ble_eq_true rfl), (Nat.le_of_ble_eq_true rfl)⟩ hS hA hK hPm hDm (fun _ H locs _ hP hD hS => ?_)
          have hP := zp_perm hP ((zblk (show List.Perm ([WMo o ma mi (updZ ml 28 (nsd ((nsd ((now)))))), WMp X ma V, Wa X 2 (ma 9) 5 kz, Wa X 2 (ma 22) 105 (savF 15 pv sa)] : List va_W) ([WMo o ma mi (updZ ml 28 (nsd ((nsd ((now))))))] ++ [WMp X ma V, Wa X 2 (ma 9) 5 kz, Wa X 2 (ma 22) 105 (savF 15 pv sa)]) from (zf1 _ 0 _ rfl).trans ((List.Perm.refl _).cons _)))).symm
          have hD := zd_perm hD ((zblk (show List.Perm ([WMo o ma mi (updZ ml 28 (nsd ((nsd ((now)))))), WMp X ma V, Wa X 2 (ma 9) 5 kz, Wa X 2 (ma 22) 105 (savF 15 pv sa)] : List va_W) ([WMo o ma mi (updZ ml 28 (nsd ((nsd ((now))))))] ++ [WMp X ma V, Wa X 2 (ma 9) 5 kz, Wa X 2 (ma 22) 105 (savF 15 pv sa)]) from (zf1 _ 0 _ rfl).trans ((List.Perm.refl _).cons _)))).symm
          have hP : va_P X.1 vwCl (zb [WMo o ma mi (updZ ml 28 (nsd ((nsd ((now)))))), WMp X ma V, Wa X 2 (ma 9) 5 kz, Wa X 2 (ma 22) 105 (savF 15 pv sa)]) H := hP
          have hD : va_D A (zb [WMo o ma mi (updZ ml 28 (nsd ((nsd ((now)))))), WMp X ma V, Wa X 2 (ma 9) 5 kz, Wa X 2 (ma 22) 105 (savF 15 pv sa)]) := hD
          refine W.eq (g2 := F0 m 49 ls [.int (iI (nsd ((nsd ((now)))) / 65536 % (mi 2)))]) rfl ?_
          refine z_topi (fun z_5 ez_5 => ?_)
          refine lv_istore (lv' := [(7, .int (iI z_5)), (0, .ref o), (1, .int (iI x)), (3, .int (iI y)), (4, .int (iI u)), (5, .int (iI w)), (6, .int (iI (↑i)))]) hx hb dX12_nightsNow_49 hl (by decide) rfl (fun ls hl => ?_)
          subst ez_5
          refine lv_aload_n hx hb dX12_nightsNow_51 rfl (lv_at hl 1 rfl) ?_
          refine lv_aload_n hx hb dX12_nightsNow_52 rfl (lv_at hl 1 rfl) ?_
          refine va_get (ci := 12) (v := .int (iI (mi 1))) (C := RX12) (T := TX12) (N := 38) hx hb hts inX12 hown hK.1 hP 0 rfl rfl 1 (by decide) (hts (.fieldLink RX12 119 "SkimmedSonsModel" "pans" "I") (by decide +kernel)) (fun _ h9 => h9) rfl dX12_nightsNow_53 ?_
          have hPm := zp_perm hP (zblk (show List.Perm ([WMo o ma mi (updZ ml 28 (nsd ((nsd ((now)))))), WMp X ma V, Wa X 2 (ma 9) 5 kz, Wa X 2 (ma 22) 105 (savF 15 pv sa)] : List va_W) ([WMo o ma mi (updZ ml 28 (nsd ((nsd ((now))))))] ++ [WMp X ma V, Wa X 2 (ma 9) 5 kz, Wa X 2 (ma 22) 105 (savF 15 pv sa)]) from (zf1 _ 0 _ rfl).trans ((List.Perm.refl _).cons _)))
          have hDm := zd_perm hD (zblk (show List.Perm ([WMo o ma mi (updZ ml 28 (nsd ((nsd ((now)))))), WMp X ma V, Wa X 2 (ma 9) 5 kz, Wa X 2 (ma 22) 105 (savF 15 pv sa)] : List va_W) ([WMo o ma mi (updZ ml 28 (nsd ((nsd ((now))))))] ++ [WMp X ma V, Wa X 2 (ma 9) 5 kz, Wa X 2 (ma 22) 105 (savF 15 pv sa)]) from (zf1 _ 0 _ rfl).trans ((List.Perm.refl _).cons _)))
          refine z_callV (wr := zb [WMp X ma V, Wa X 2 (ma 9) 5 kz, Wa X 2 (ma 22) 105 (savF 15 pv sa)]) (As := [.int (iI (mi 1))]) (rest := []) ⟨hx, hb, hml, hown, hts⟩ (c_X12_draw l X o ma mi (updZ ml 28 (nsd ((nsd ((now)))))) (mi 1) (by exact hs2) (by omega)) (cwV 1 hts gX12_nightsNow_X12_draw rfl rfl rfl (by decide +kernel) ⟨Nat.le_of_ble_eq_true rfl, Nat.le_of_ble_eq_true rfl⟩) rfl rfl hl.1 dX12_nightsNow_56 rfl rfl (Nat.le_of_ble_eq_true rfl) ⟨(Nat.le_of_ble_eq_true rfl), (Nat.le_of_ble_eq_true rfl)⟩ hS hA hK hPm hDm (fun _ H locs _ hP hD hS => ?_)
          have hP := zp_perm hP ((zblk (show List.Perm ([WMo o ma mi (updZ ml 28 (nsd ((nsd ((nsd ((now)))))))), WMp X ma V, Wa X 2 (ma 9) 5 kz, Wa X 2 (ma 22) 105 (savF 15 pv sa)] : List va_W) ([WMo o ma mi (updZ ml 28 (nsd ((nsd ((nsd ((now))))))))] ++ [WMp X ma V, Wa X 2 (ma 9) 5 kz, Wa X 2 (ma 22) 105 (savF 15 pv sa)]) from (zf1 _ 0 _ rfl).trans ((List.Perm.refl _).cons _)))).symm
          have hD := zd_perm hD ((zblk (show List.Perm ([WMo o ma mi (updZ ml 28 (nsd ((nsd ((nsd ((now)))))))), WMp X ma V, Wa X 2 (ma 9) 5 kz, Wa X 2 (ma 22) 105 (savF 15 pv sa)] : List va_W) ([WMo o ma mi (updZ ml 28 (nsd ((nsd ((nsd ((now))))))))] ++ [WMp X ma V, Wa X 2 (ma 9) 5 kz, Wa X 2 (ma 22) 105 (savF 15 pv sa)]) from (zf1 _ 0 _ rfl).trans ((List.Perm.refl _).cons _)))).symm
          have hP : va_P X.1 vwCl (zb [WMo o ma mi (updZ ml 28 (nsd ((nsd ((nsd ((now)))))))), WMp X ma V, Wa X 2 (ma 9) 5 kz, Wa X 2 (ma 22) 105 (savF 15 pv sa)]) H := hP
          have hD : va_D A (zb [WMo o ma mi (updZ ml 28 (nsd ((nsd ((nsd ((now)))))))), WMp X ma V, Wa X 2 (ma 9) 5 kz, Wa X 2 (ma 22) 105 (savF 15 pv sa)]) := hD
          refine W.eq (g2 := F0 m 59 ls [.int (iI (nsd ((nsd ((nsd ((now)))))) / 65536 % (mi 1)))]) rfl ?_
          refine z_topi (fun z_6 ez_6 => ?_)
          refine lv_istore (lv' := [(8, .int (iI z_6)), (7, .int (iI (nsd ((nsd ((now)))) / 65536 % (mi 2)))), (0, .ref o), (1, .int (iI x)), (3, .int (iI y)), (4, .int (iI u)), (5, .int (iI w)), (6, .int (iI (↑i)))]) hx hb dX12_nightsNow_59 hl (by decide) rfl (fun ls hl => ?_)
          subst ez_6
          refine lv_aload_n hx hb dX12_nightsNow_61 rfl (lv_at hl 2 rfl) ?_
          refine lv_iload hx hb dX12_nightsNow_62 (lv_at hl 0 rfl) ?_
          have hPm := zp_perm hP (zblk (show List.Perm ([WMo o ma mi (updZ ml 28 (nsd ((nsd ((nsd ((now)))))))), WMp X ma V, Wa X 2 (ma 9) 5 kz, Wa X 2 (ma 22) 105 (savF 15 pv sa)] : List va_W) ([WMo o ma mi (updZ ml 28 (nsd ((nsd ((nsd ((now)))))))), WMp X ma V] ++ [Wa X 2 (ma 9) 5 kz, Wa X 2 (ma 22) 105 (savF 15 pv sa)]) from (zf1 _ 0 _ rfl).trans (((zf1 _ 0 _ rfl).trans ((List.Perm.refl _).cons _)).cons _)))
          have hDm := zd_perm hD (zblk (show List.Perm ([WMo o ma mi (updZ ml 28 (nsd ((nsd ((nsd ((now)))))))), WMp X ma V, Wa X 2 (ma 9) 5 kz, Wa X 2 (ma 22) 105 (savF 15 pv sa)] : List va_W) ([WMo o ma mi (updZ ml 28 (nsd ((nsd ((nsd ((now)))))))), WMp X ma V] ++ [Wa X 2 (ma 9) 5 kz, Wa X 2 (ma 22) 105 (savF 15 pv sa)]) from (zf1 _ 0 _ rfl).trans (((zf1 _ 0 _ rfl).trans ((List.Perm.refl _).cons _)).cons _)))
          refine z_callV (wr := zb [Wa X 2 (ma 9) 5 kz, Wa X 2 (ma 22) 105 (savF 15 pv sa)]) (As := [.int (iI (nsd ((nsd ((nsd ((now)))))) / 65536 % (mi 1)))]) (rest := []) ⟨hx, hb, hml, hown, hts⟩ (c_X12_topOf l X o ma mi (updZ ml 28 (nsd ((nsd ((nsd ((now)))))))) V (nsd ((nsd ((nsd ((now)))))) / 65536 % (mi 1)) (by exact hV.1 _ (by omega)) (by omega)) (cwV 1 hts gX12_nightsNow_X12_topOf rfl rfl rfl (by decide +kernel) ⟨Nat.le_of_ble_eq_true rfl, Nat.le_of_ble_eq_true rfl⟩) rfl rfl hl.1 dX12_nightsNow_64 rfl rfl (Nat.le_of_ble_eq_true rfl) ⟨(Nat.le_of_ble_eq_true rfl), (Nat.le_of_ble_eq_true rfl)⟩ hS hA hK hPm hDm (fun _ H locs _ hP hD hS => ?_)
          have hP := zp_perm hP ((zblk (show List.Perm ([WMo o ma mi (updZ ml 28 (nsd ((nsd ((nsd ((now)))))))), WMp X ma V, Wa X 2 (ma 9) 5 kz, Wa X 2 (ma 22) 105 (savF 15 pv sa)] : List va_W) ([WMo o ma mi (updZ ml 28 (nsd ((nsd ((nsd ((now)))))))), WMp X ma V] ++ [Wa X 2 (ma 9) 5 kz, Wa X 2 (ma 22) 105 (savF 15 pv sa)]) from (zf1 _ 0 _ rfl).trans (((zf1 _ 0 _ rfl).trans ((List.Perm.refl _).cons _)).cons _)))).symm
          have hD := zd_perm hD ((zblk (show List.Perm ([WMo o ma mi (updZ ml 28 (nsd ((nsd ((nsd ((now)))))))), WMp X ma V, Wa X 2 (ma 9) 5 kz, Wa X 2 (ma 22) 105 (savF 15 pv sa)] : List va_W) ([WMo o ma mi (updZ ml 28 (nsd ((nsd ((nsd ((now)))))))), WMp X ma V] ++ [Wa X 2 (ma 9) 5 kz, Wa X 2 (ma 22) 105 (savF 15 pv sa)]) from (zf1 _ 0 _ rfl).trans (((zf1 _ 0 _ rfl).trans ((List.Perm.refl _).cons _)).cons _)))).symm
          have hP : va_P X.1 vwCl (zb [WMo o ma mi (updZ ml 28 (nsd ((nsd ((nsd ((now)))))))), WMp X ma V, Wa X 2 (ma 9) 5 kz, Wa X 2 (ma 22) 105 (savF 15 pv sa)]) H := hP
          have hD : va_D A (zb [WMo o ma mi (updZ ml 28 (nsd ((nsd ((nsd ((now)))))))), WMp X ma V, Wa X 2 (ma 9) 5 kz, Wa X 2 (ma 22) 105 (savF 15 pv sa)]) := hD
          refine W.eq (g2 := F0 m 67 ls [.int (iI (topP (V (nsd ((nsd ((nsd ((now)))))) / 65536 % (mi 1)).toNat)))]) rfl ?_
          refine z_topi (fun z_7 ez_7 => ?_)
          refine lv_istore (lv' := [(9, .int (iI z_7)), (8, .int (iI (nsd ((nsd ((nsd ((now)))))) / 65536 % (mi 1)))), (7, .int (iI (nsd ((nsd ((now)))) / 65536 % (mi 2)))), (0, .ref o), (1, .int (iI x)), (3, .int (iI y)), (4, .int (iI u)), (5, .int (iI w)), (6, .int (iI (↑i)))]) hx hb dX12_nightsNow_67 hl (by decide) rfl (fun ls hl => ?_)
          subst ez_7
          refine lv_iload hx hb dX12_nightsNow_69 (lv_at hl 0 rfl) ?_
          refine lv_iconst (v := iI (-1)) hx hb dX12_nightsNow_71 (by decide) ?_
          refine z_icmp_eq (tgt := 112) hx hb (by omega) dX12_nightsNow_72 (by decide) (fun c_8 => ?_) (fun c_8 => ?_)
          · skip
            rw [WMp_cong (pv := V) (pv' := va_up V (nsd (nsd (nsd now)) / 65536 % mi 1).toNat (takeP (V (nsd (nsd (nsd now)) / 65536 % mi 1).toNat))) (fun j => by by_cases q : j = (nsd (nsd (nsd now)) / 65536 % mi 1).toNat; (rw [q, va_up_s]; exact takeP_id (by omega)); (rw [va_up_n _ _ q]; exact ⟨rfl, rfl, rfl, rfl, rfl, rfl⟩))] at hP hD
            refine z_iinc (k := 8) (lv' := [(6, .int (iI ((↑i) + 1))), (9, .int (iI (topP (V (nsd ((nsd ((nsd ((now)))))) / 65536 % (mi 1)).toNat)))), (8, .int (iI (nsd ((nsd ((nsd ((now)))))) / 65536 % (mi 1)))), (7, .int (iI (nsd ((nsd ((now)))) / 65536 % (mi 2)))), (0, .ref o), (1, .int (iI x)), (3, .int (iI y)), (4, .int (iI u)), (5, .int (iI w))]) hx hb dX12_nightsNow_112 hl rfl (by decide) rfl (fun ls hl => ?_)
            refine lv_goto (tgt := 20) hx hb dX12_nightsNow_115 (by decide) ?_
            exact ih20  (i + 1) (nsd ((nsd ((nsd ((now))))))) u w (va_up V (nsd (nsd (nsd now)) / 65536 % mi 1).toNat (takeP (V (nsd (nsd (nsd now)) / 65536 % mi 1).toNat))) (by omega) (by exact nz_s hn hV (by omega) hdr hw1 (by omega)) (by rw [NZ_s hdr, ← hw1]) (by rw [NZ_s hdr]; dsimp only; rw [← hw1, ← hV.2.2 _ (by omega), ← hu1]; first | (rw [if_pos (by omega)]; omega) | (rw [if_neg (by omega)]; omega)) (by rw [NZ_s hdr]; dsimp only; rw [← hw1, ← hV.2.2 _ (by omega), ← hw2]; first | (subst_vars; rfl) | (rw [show topP (V (nsd (nsd (nsd now)) / 65536 % mi 1).toNat) = -1 by omega]; exact (Int.add_zero _).symm)) (by intro p; unfold va_up; split; (rename_i q; rw [← hsl p, q]; rfl); exact hsl p) (by omega) _ _ _ hP hD hS (lv_sub hl [4, 5, 6, 7, 8, 0] rfl)
          · skip
            refine lv_aload_n hx hb dX12_nightsNow_75 rfl (lv_at hl 3 rfl) ?_
            refine lv_iload hx hb dX12_nightsNow_76 (lv_at hl 1 rfl) ?_
            refine lv_iload hx hb dX12_nightsNow_78 (lv_at hl 0 rfl) ?_
            have hPm := zp_perm hP (zblk (show List.Perm ([WMo o ma mi (updZ ml 28 (nsd ((nsd ((nsd ((now)))))))), WMp X ma V, Wa X 2 (ma 9) 5 kz, Wa X 2 (ma 22) 105 (savF 15 pv sa)] : List va_W) ([WMo o ma mi (updZ ml 28 (nsd ((nsd ((nsd ((now)))))))), WMp X ma V] ++ [Wa X 2 (ma 9) 5 kz, Wa X 2 (ma 22) 105 (savF 15 pv sa)]) from (zf1 _ 0 _ rfl).trans (((zf1 _ 0 _ rfl).trans ((List.Perm.refl _).cons _)).cons _)))
            have hDm := zd_perm hD (zblk (show List.Perm ([WMo o ma mi (updZ ml 28 (nsd ((nsd ((nsd ((now)))))))), WMp X ma V, Wa X 2 (ma 9) 5 kz, Wa X 2 (ma 22) 105 (savF 15 pv sa)] : List va_W) ([WMo o ma mi (updZ ml 28 (nsd ((nsd ((nsd ((now)))))))), WMp X ma V] ++ [Wa X 2 (ma 9) 5 kz, Wa X 2 (ma 22) 105 (savF 15 pv sa)]) from (zf1 _ 0 _ rfl).trans (((zf1 _ 0 _ rfl).trans ((List.Perm.refl _).cons _)).cons _)))
            refine z_callV (wr := zb [Wa X 2 (ma 9) 5 kz, Wa X 2 (ma 22) 105 (savF 15 pv sa)]) (As := [.int (iI (nsd ((nsd ((nsd ((now)))))) / 65536 % (mi 1))), .int (iI (topP (V (nsd ((nsd ((nsd ((now)))))) / 65536 % (mi 1)).toNat)))]) (rest := []) ⟨hx, hb, hml, hown, hts⟩ (c_X12_take l X o ma mi (updZ ml 28 (nsd ((nsd ((nsd ((now)))))))) V (nsd ((nsd ((nsd ((now)))))) / 65536 % (mi 1)) (topP (V (nsd ((nsd ((nsd ((now)))))) / 65536 % (mi 1)).toNat)) (by exact hV.1 _ (by omega)) (by omega) (by rfl) (by omega)) (cwV 2 hts gX12_nightsNow_X12_take rfl rfl rfl (by decide +kernel) ⟨Nat.le_of_ble_eq_true rfl, Nat.le_of_ble_eq_true rfl⟩) rfl rfl hl.1 dX12_nightsNow_80 rfl rfl (Nat.le_of_ble_eq_true rfl) ⟨(Nat.le_of_ble_eq_true rfl), (Nat.le_of_ble_eq_true rfl)⟩ hS hA hK hPm hDm (fun _ H locs _ hP hD hS => ?_)
            have hP := zp_perm hP ((zblk (show List.Perm ([WMo o ma mi (updZ ml 28 (nsd ((nsd ((nsd ((now)))))))), WMp X ma (va_up V (nsd ((nsd ((nsd ((now)))))) / 65536 % (mi 1)).toNat (takeP (V (nsd ((nsd ((nsd ((now)))))) / 65536 % (mi 1)).toNat))), Wa X 2 (ma 9) 5 kz, Wa X 2 (ma 22) 105 (savF 15 pv sa)] : List va_W) ([WMo o ma mi (updZ ml 28 (nsd ((nsd ((nsd ((now)))))))), WMp X ma (va_up V (nsd ((nsd ((nsd ((now)))))) / 65536 % (mi 1)).toNat (takeP (V (nsd ((nsd ((nsd ((now)))))) / 65536 % (mi 1)).toNat)))] ++ [Wa X 2 (ma 9) 5 kz, Wa X 2 (ma 22) 105 (savF 15 pv sa)]) from (zf1 _ 0 _ rfl).trans (((zf1 _ 0 _ rfl).trans ((List.Perm.refl _).cons _)).cons _)))).symm
            have hD := zd_perm hD ((zblk (show List.Perm ([WMo o ma mi (updZ ml 28 (nsd ((nsd ((nsd ((now)))))))), WMp X ma (va_up V (nsd ((nsd ((nsd ((now)))))) / 65536 % (mi 1)).toNat (takeP (V (nsd ((nsd ((nsd ((now)))))) / 65536 % (mi 1)).toNat))), Wa X 2 (ma 9) 5 kz, Wa X 2 (ma 22) 105 (savF 15 pv sa)] : List va_W) ([WMo o ma mi (updZ ml 28 (nsd ((nsd ((nsd ((now)))))))), WMp X ma (va_up V (nsd ((nsd ((nsd ((now)))))) / 65536 % (mi 1)).toNat (takeP (V (nsd ((nsd ((nsd ((now)))))) / 65536 % (mi 1)).toNat)))] ++ [Wa X 2 (ma 9) 5 kz, Wa X 2 (ma 22) 105 (savF 15 pv sa)]) from (zf1 _ 0 _ rfl).trans (((zf1 _ 0 _ rfl).trans ((List.Perm.refl _).cons _)).cons _)))).symm
            have hP : va_P X.1 vwCl (zb [WMo o ma mi (updZ ml 28 (nsd ((nsd ((nsd ((now)))))))), WMp X ma (va_up V (nsd ((nsd ((nsd ((now)))))) / 65536 % (mi 1)).toNat (takeP (V (nsd ((nsd ((nsd ((now)))))) / 65536 % (mi 1)).toNat))), Wa X 2 (ma 9) 5 kz, Wa X 2 (ma 22) 105 (savF 15 pv sa)]) H := hP
            have hD : va_D A (zb [WMo o ma mi (updZ ml 28 (nsd ((nsd ((nsd ((now)))))))), WMp X ma (va_up V (nsd ((nsd ((nsd ((now)))))) / 65536 % (mi 1)).toNat (takeP (V (nsd ((nsd ((nsd ((now)))))) / 65536 % (mi 1)).toNat))), Wa X 2 (ma 9) 5 kz, Wa X 2 (ma 22) 105 (savF 15 pv sa)]) := hD
            refine W.eq (g2 := F0 m 83 ls []) rfl ?_
            refine lv_iload hx hb dX12_nightsNow_83 (lv_at hl 6 rfl) ?_
            refine lv_iload hx hb dX12_nightsNow_85 (lv_at hl 0 rfl) ?_
            refine lv_iconst (v := iI 2) hx hb dX12_nightsNow_87 (by decide) ?_
            refine z_icmp_ne (tgt := 95) hx hb (by omega) dX12_nightsNow_88 (by decide) (fun c_10 => ?_) (fun c_10 => ?_)
            · skip
              refine lv_iconst (v := iI 0) hx hb dX12_nightsNow_95 (by decide) ?_
              refine z_iadd hx hb dX12_nightsNow_96 ?_
              refine z_topi (fun z_11 ez_11 => ?_)
              refine lv_istore (lv' := [(4, .int (iI z_11)), (9, .int (iI (topP (V (nsd ((nsd ((nsd ((now)))))) / 65536 % (mi 1)).toNat)))), (8, .int (iI (nsd ((nsd ((nsd ((now)))))) / 65536 % (mi 1)))), (7, .int (iI (nsd ((nsd ((now)))) / 65536 % (mi 2)))), (0, .ref o), (1, .int (iI x)), (3, .int (iI y)), (5, .int (iI w)), (6, .int (iI (↑i)))]) hx hb dX12_nightsNow_97 hl (by decide) rfl (fun ls hl => ?_)
              refine lv_iload hx hb dX12_nightsNow_99 (lv_at hl 7 rfl) ?_
              refine lv_aload_n hx hb dX12_nightsNow_101 rfl (lv_at hl 4 rfl) ?_
              refine lv_iload hx hb dX12_nightsNow_102 (lv_at hl 3 rfl) ?_
              refine lv_iload hx hb dX12_nightsNow_104 (lv_at hl 1 rfl) ?_
              have hPm := zp_perm hP (zblk (show List.Perm ([WMo o ma mi (updZ ml 28 (nsd ((nsd ((nsd ((now)))))))), WMp X ma (va_up V (nsd ((nsd ((nsd ((now)))))) / 65536 % (mi 1)).toNat (takeP (V (nsd ((nsd ((nsd ((now)))))) / 65536 % (mi 1)).toNat))), Wa X 2 (ma 9) 5 kz, Wa X 2 (ma 22) 105 (savF 15 pv sa)] : List va_W) ([WMo o ma mi (updZ ml 28 (nsd ((nsd ((nsd ((now)))))))), Wa X 2 (ma 9) 5 kz] ++ [WMp X ma (va_up V (nsd ((nsd ((nsd ((now)))))) / 65536 % (mi 1)).toNat (takeP (V (nsd ((nsd ((nsd ((now)))))) / 65536 % (mi 1)).toNat))), Wa X 2 (ma 22) 105 (savF 15 pv sa)]) from (zf1 _ 0 _ rfl).trans (((zf1 _ 1 _ rfl).trans ((List.Perm.refl _).cons _)).cons _)))
              have hDm := zd_perm hD (zblk (show List.Perm ([WMo o ma mi (updZ ml 28 (nsd ((nsd ((nsd ((now)))))))), WMp X ma (va_up V (nsd ((nsd ((nsd ((now)))))) / 65536 % (mi 1)).toNat (takeP (V (nsd ((nsd ((nsd ((now)))))) / 65536 % (mi 1)).toNat))), Wa X 2 (ma 9) 5 kz, Wa X 2 (ma 22) 105 (savF 15 pv sa)] : List va_W) ([WMo o ma mi (updZ ml 28 (nsd ((nsd ((nsd ((now)))))))), Wa X 2 (ma 9) 5 kz] ++ [WMp X ma (va_up V (nsd ((nsd ((nsd ((now)))))) / 65536 % (mi 1)).toNat (takeP (V (nsd ((nsd ((nsd ((now)))))) / 65536 % (mi 1)).toNat))), Wa X 2 (ma 22) 105 (savF 15 pv sa)]) from (zf1 _ 0 _ rfl).trans (((zf1 _ 1 _ rfl).trans ((List.Perm.refl _).cons _)).cons _)))
              refine z_callV (wr := zb [WMp X ma (va_up V (nsd ((nsd ((nsd ((now)))))) / 65536 % (mi 1)).toNat (takeP (V (nsd ((nsd ((nsd ((now)))))) / 65536 % (mi 1)).toNat))), Wa X 2 (ma 22) 105 (savF 15 pv sa)]) (As := [.int (iI (nsd ((nsd ((now)))) / 65536 % (mi 2))), .int (iI (topP (V (nsd ((nsd ((nsd ((now)))))) / 65536 % (mi 1)).toNat)))]) (rest := [.int (iI w)]) ⟨hx, hb, hml, hown, hts⟩ (c_X12_worthOf l X o ma mi (updZ ml 28 (nsd ((nsd ((nsd ((now)))))))) kz (nsd ((nsd ((now)))) / 65536 % (mi 2)) (topP (V (nsd ((nsd ((nsd ((now)))))) / 65536 % (mi 1)).toNat)) (by omega) (by exact hkq) (by omega)) (cwV 2 hts gX12_nightsNow_X12_worthOf rfl rfl rfl (by decide +kernel) ⟨Nat.le_of_ble_eq_true rfl, Nat.le_of_ble_eq_true rfl⟩) rfl rfl hl.1 dX12_nightsNow_106 rfl rfl (Nat.le_of_ble_eq_true rfl) ⟨(Nat.le_of_ble_eq_true rfl), (Nat.le_of_ble_eq_true rfl)⟩ hS hA hK hPm hDm (fun _ H locs _ hP hD hS => ?_)
              have hP := zp_perm hP ((zblk (show List.Perm ([WMo o ma mi (updZ ml 28 (nsd ((nsd ((nsd ((now)))))))), WMp X ma (va_up V (nsd ((nsd ((nsd ((now)))))) / 65536 % (mi 1)).toNat (takeP (V (nsd ((nsd ((nsd ((now)))))) / 65536 % (mi 1)).toNat))), Wa X 2 (ma 9) 5 kz, Wa X 2 (ma 22) 105 (savF 15 pv sa)] : List va_W) ([WMo o ma mi (updZ ml 28 (nsd ((nsd ((nsd ((now)))))))), Wa X 2 (ma 9) 5 kz] ++ [WMp X ma (va_up V (nsd ((nsd ((nsd ((now)))))) / 65536 % (mi 1)).toNat (takeP (V (nsd ((nsd ((nsd ((now)))))) / 65536 % (mi 1)).toNat))), Wa X 2 (ma 22) 105 (savF 15 pv sa)]) from (zf1 _ 0 _ rfl).trans (((zf1 _ 1 _ rfl).trans ((List.Perm.refl _).cons _)).cons _)))).symm
              have hD := zd_perm hD ((zblk (show List.Perm ([WMo o ma mi (updZ ml 28 (nsd ((nsd ((nsd ((now)))))))), WMp X ma (va_up V (nsd ((nsd ((nsd ((now)))))) / 65536 % (mi 1)).toNat (takeP (V (nsd ((nsd ((nsd ((now)))))) / 65536 % (mi 1)).toNat))), Wa X 2 (ma 9) 5 kz, Wa X 2 (ma 22) 105 (savF 15 pv sa)] : List va_W) ([WMo o ma mi (updZ ml 28 (nsd ((nsd ((nsd ((now)))))))), Wa X 2 (ma 9) 5 kz] ++ [WMp X ma (va_up V (nsd ((nsd ((nsd ((now)))))) / 65536 % (mi 1)).toNat (takeP (V (nsd ((nsd ((nsd ((now)))))) / 65536 % (mi 1)).toNat))), Wa X 2 (ma 22) 105 (savF 15 pv sa)]) from (zf1 _ 0 _ rfl).trans (((zf1 _ 1 _ rfl).trans ((List.Perm.refl _).cons _)).cons _)))).symm
              have hP : va_P X.1 vwCl (zb [WMo o ma mi (updZ ml 28 (nsd ((nsd ((nsd ((now)))))))), WMp X ma (va_up V (nsd ((nsd ((nsd ((now)))))) / 65536 % (mi 1)).toNat (takeP (V (nsd ((nsd ((nsd ((now)))))) / 65536 % (mi 1)).toNat))), Wa X 2 (ma 9) 5 kz, Wa X 2 (ma 22) 105 (savF 15 pv sa)]) H := hP
              have hD : va_D A (zb [WMo o ma mi (updZ ml 28 (nsd ((nsd ((nsd ((now)))))))), WMp X ma (va_up V (nsd ((nsd ((nsd ((now)))))) / 65536 % (mi 1)).toNat (takeP (V (nsd ((nsd ((nsd ((now)))))) / 65536 % (mi 1)).toNat))), Wa X 2 (ma 9) 5 kz, Wa X 2 (ma 22) 105 (savF 15 pv sa)]) := hD
              refine W.eq (g2 := F0 m 109 ls [.int (iI (wOf (kdM kz (nsd ((nsd ((now)))) / 65536 % (mi 2)).toNat) (topP (V (nsd ((nsd ((nsd ((now)))))) / 65536 % (mi 1)).toNat)))), .int (iI w)]) rfl ?_
              refine z_iadd hx hb dX12_nightsNow_109 ?_
              refine z_topi (fun z_12 ez_12 => ?_)
              refine lv_istore (lv' := [(5, .int (iI z_12)), (4, .int (iI z_11)), (9, .int (iI (topP (V (nsd ((nsd ((nsd ((now)))))) / 65536 % (mi 1)).toNat)))), (8, .int (iI (nsd ((nsd ((nsd ((now)))))) / 65536 % (mi 1)))), (7, .int (iI (nsd ((nsd ((now)))) / 65536 % (mi 2)))), (0, .ref o), (1, .int (iI x)), (3, .int (iI y)), (6, .int (iI (↑i)))]) hx hb dX12_nightsNow_110 hl (by decide) rfl (fun ls hl => ?_)
              refine z_iinc (k := 8) (lv' := [(6, .int (iI ((↑i) + 1))), (5, .int (iI z_12)), (4, .int (iI z_11)), (9, .int (iI (topP (V (nsd ((nsd ((nsd ((now)))))) / 65536 % (mi 1)).toNat)))), (8, .int (iI (nsd ((nsd ((nsd ((now)))))) / 65536 % (mi 1)))), (7, .int (iI (nsd ((nsd ((now)))) / 65536 % (mi 2)))), (0, .ref o), (1, .int (iI x)), (3, .int (iI y))]) hx hb dX12_nightsNow_112 hl rfl (by decide) rfl (fun ls hl => ?_)
              refine lv_goto (tgt := 20) hx hb dX12_nightsNow_115 (by decide) ?_
              exact ih20  (i + 1) (nsd ((nsd ((nsd ((now))))))) z_11 z_12 (va_up V (nsd ((nsd ((nsd ((now)))))) / 65536 % (mi 1)).toNat (takeP (V (nsd ((nsd ((nsd ((now)))))) / 65536 % (mi 1)).toNat))) (by omega) (by exact nz_s hn hV (by omega) hdr hw1 (by omega)) (by rw [NZ_s hdr, ← hw1]) (by rw [NZ_s hdr]; dsimp only; rw [← hw1, ← hV.2.2 _ (by omega), ← hu1]; first | (rw [if_pos (by omega)]; omega) | (rw [if_neg (by omega)]; omega)) (by rw [NZ_s hdr]; dsimp only; rw [← hw1, ← hV.2.2 _ (by omega), ← hw2]; first | (subst_vars; rfl) | (rw [show topP (V (nsd (nsd (nsd now)) / 65536 % mi 1).toNat) = -1 by omega]; exact (Int.add_zero _).symm)) (by intro p; unfold va_up; split; (rename_i q; rw [← hsl p, q]; rfl); exact hsl p) (by omega) _ _ _ hP hD hS (lv_sub hl [6, 7, 8, 2, 1, 0] rfl)
            · skip
              refine lv_iconst (v := iI 1) hx hb dX12_nightsNow_91 (by decide) ?_
              refine lv_goto (tgt := 96) hx hb dX12_nightsNow_92 (by decide) ?_
              refine z_iadd hx hb dX12_nightsNow_96 ?_
              refine z_topi (fun z_14 ez_14 => ?_)
              refine lv_istore (lv' := [(4, .int (iI z_14)), (9, .int (iI (topP (V (nsd ((nsd ((nsd ((now)))))) / 65536 % (mi 1)).toNat)))), (8, .int (iI (nsd ((nsd ((nsd ((now)))))) / 65536 % (mi 1)))), (7, .int (iI (nsd ((nsd ((now)))) / 65536 % (mi 2)))), (0, .ref o), (1, .int (iI x)), (3, .int (iI y)), (5, .int (iI w)), (6, .int (iI (↑i)))]) hx hb dX12_nightsNow_97 hl (by decide) rfl (fun ls hl => ?_)
              refine lv_iload hx hb dX12_nightsNow_99 (lv_at hl 7 rfl) ?_
              refine lv_aload_n hx hb dX12_nightsNow_101 rfl (lv_at hl 4 rfl) ?_
              refine lv_iload hx hb dX12_nightsNow_102 (lv_at hl 3 rfl) ?_
              refine lv_iload hx hb dX12_nightsNow_104 (lv_at hl 1 rfl) ?_
              have hPm := zp_perm hP (zblk (show List.Perm ([WMo o ma mi (updZ ml 28 (nsd ((nsd ((nsd ((now)))))))), WMp X ma (va_up V (nsd ((nsd ((nsd ((now)))))) / 65536 % (mi 1)).toNat (takeP (V (nsd ((nsd ((nsd ((now)))))) / 65536 % (mi 1)).toNat))), Wa X 2 (ma 9) 5 kz, Wa X 2 (ma 22) 105 (savF 15 pv sa)] : List va_W) ([WMo o ma mi (updZ ml 28 (nsd ((nsd ((nsd ((now)))))))), Wa X 2 (ma 9) 5 kz] ++ [WMp X ma (va_up V (nsd ((nsd ((nsd ((now)))))) / 65536 % (mi 1)).toNat (takeP (V (nsd ((nsd ((nsd ((now)))))) / 65536 % (mi 1)).toNat))), Wa X 2 (ma 22) 105 (savF 15 pv sa)]) from (zf1 _ 0 _ rfl).trans (((zf1 _ 1 _ rfl).trans ((List.Perm.refl _).cons _)).cons _)))
              have hDm := zd_perm hD (zblk (show List.Perm ([WMo o ma mi (updZ ml 28 (nsd ((nsd ((nsd ((now)))))))), WMp X ma (va_up V (nsd ((nsd ((nsd ((now)))))) / 65536 % (mi 1)).toNat (takeP (V (nsd ((nsd ((nsd ((now)))))) / 65536 % (mi 1)).toNat))), Wa X 2 (ma 9) 5 kz, Wa X 2 (ma 22) 105 (savF 15 pv sa)] : List va_W) ([WMo o ma mi (updZ ml 28 (nsd ((nsd ((nsd ((now)))))))), Wa X 2 (ma 9) 5 kz] ++ [WMp X ma (va_up V (nsd ((nsd ((nsd ((now)))))) / 65536 % (mi 1)).toNat (takeP (V (nsd ((nsd ((nsd ((now)))))) / 65536 % (mi 1)).toNat))), Wa X 2 (ma 22) 105 (savF 15 pv sa)]) from (zf1 _ 0 _ rfl).trans (((zf1 _ 1 _ rfl).trans ((List.Perm.refl _).cons _)).cons _)))
              refine z_callV (wr := zb [WMp X ma (va_up V (nsd ((nsd ((nsd ((now)))))) / 65536 % (mi 1)).toNat (takeP (V (nsd ((nsd ((nsd ((now)))))) / 65536 % (mi 1)).toNat))), Wa X 2 (ma 22) 105 (savF 15 pv sa)]) (As := [.int (iI (nsd ((nsd ((now)))) / 65536 % (mi 2))), .int (iI (topP (V (nsd ((nsd ((nsd ((now)))))) / 65536 % (mi 1)).toNat)))]) (rest := [.int (iI w)]) ⟨hx, hb, hml, hown, hts⟩ (c_X12_worthOf l X o ma mi (updZ ml 28 (nsd ((nsd ((nsd ((now)))))))) kz (nsd ((nsd ((now)))) / 65536 % (mi 2)) (topP (V (nsd ((nsd ((nsd ((now)))))) / 65536 % (mi 1)).toNat)) (by omega) (by exact hkq) (by omega)) (cwV 2 hts gX12_nightsNow_X12_worthOf rfl rfl rfl (by decide +kernel) ⟨Nat.le_of_ble_eq_true rfl, Nat.le_of_ble_eq_true rfl⟩) rfl rfl hl.1 dX12_nightsNow_106 rfl rfl (Nat.le_of_ble_eq_true rfl) ⟨(Nat.le_of_ble_eq_true rfl), (Nat.le_of_ble_eq_true rfl)⟩ hS hA hK hPm hDm (fun _ H locs _ hP hD hS => ?_)
              have hP := zp_perm hP ((zblk (show List.Perm ([WMo o ma mi (updZ ml 28 (nsd ((nsd ((nsd ((now)))))))), WMp X ma (va_up V (nsd ((nsd ((nsd ((now)))))) / 65536 % (mi 1)).toNat (takeP (V (nsd ((nsd ((nsd ((now)))))) / 65536 % (mi 1)).toNat))), Wa X 2 (ma 9) 5 kz, Wa X 2 (ma 22) 105 (savF 15 pv sa)] : List va_W) ([WMo o ma mi (updZ ml 28 (nsd ((nsd ((nsd ((now)))))))), Wa X 2 (ma 9) 5 kz] ++ [WMp X ma (va_up V (nsd ((nsd ((nsd ((now)))))) / 65536 % (mi 1)).toNat (takeP (V (nsd ((nsd ((nsd ((now)))))) / 65536 % (mi 1)).toNat))), Wa X 2 (ma 22) 105 (savF 15 pv sa)]) from (zf1 _ 0 _ rfl).trans (((zf1 _ 1 _ rfl).trans ((List.Perm.refl _).cons _)).cons _)))).symm
              have hD := zd_perm hD ((zblk (show List.Perm ([WMo o ma mi (updZ ml 28 (nsd ((nsd ((nsd ((now)))))))), WMp X ma (va_up V (nsd ((nsd ((nsd ((now)))))) / 65536 % (mi 1)).toNat (takeP (V (nsd ((nsd ((nsd ((now)))))) / 65536 % (mi 1)).toNat))), Wa X 2 (ma 9) 5 kz, Wa X 2 (ma 22) 105 (savF 15 pv sa)] : List va_W) ([WMo o ma mi (updZ ml 28 (nsd ((nsd ((nsd ((now)))))))), Wa X 2 (ma 9) 5 kz] ++ [WMp X ma (va_up V (nsd ((nsd ((nsd ((now)))))) / 65536 % (mi 1)).toNat (takeP (V (nsd ((nsd ((nsd ((now)))))) / 65536 % (mi 1)).toNat))), Wa X 2 (ma 22) 105 (savF 15 pv sa)]) from (zf1 _ 0 _ rfl).trans (((zf1 _ 1 _ rfl).trans ((List.Perm.refl _).cons _)).cons _)))).symm
              have hP : va_P X.1 vwCl (zb [WMo o ma mi (updZ ml 28 (nsd ((nsd ((nsd ((now)))))))), WMp X ma (va_up V (nsd ((nsd ((nsd ((now)))))) / 65536 % (mi 1)).toNat (takeP (V (nsd ((nsd ((nsd ((now)))))) / 65536 % (mi 1)).toNat))), Wa X 2 (ma 9) 5 kz, Wa X 2 (ma 22) 105 (savF 15 pv sa)]) H := hP
              have hD : va_D A (zb [WMo o ma mi (updZ ml 28 (nsd ((nsd ((nsd ((now)))))))), WMp X ma (va_up V (nsd ((nsd ((nsd ((now)))))) / 65536 % (mi 1)).toNat (takeP (V (nsd ((nsd ((nsd ((now)))))) / 65536 % (mi 1)).toNat))), Wa X 2 (ma 9) 5 kz, Wa X 2 (ma 22) 105 (savF 15 pv sa)]) := hD
              refine W.eq (g2 := F0 m 109 ls [.int (iI (wOf (kdM kz (nsd ((nsd ((now)))) / 65536 % (mi 2)).toNat) (topP (V (nsd ((nsd ((nsd ((now)))))) / 65536 % (mi 1)).toNat)))), .int (iI w)]) rfl ?_
              refine z_iadd hx hb dX12_nightsNow_109 ?_
              refine z_topi (fun z_15 ez_15 => ?_)
              refine lv_istore (lv' := [(5, .int (iI z_15)), (4, .int (iI z_14)), (9, .int (iI (topP (V (nsd ((nsd ((nsd ((now)))))) / 65536 % (mi 1)).toNat)))), (8, .int (iI (nsd ((nsd ((nsd ((now)))))) / 65536 % (mi 1)))), (7, .int (iI (nsd ((nsd ((now)))) / 65536 % (mi 2)))), (0, .ref o), (1, .int (iI x)), (3, .int (iI y)), (6, .int (iI (↑i)))]) hx hb dX12_nightsNow_110 hl (by decide) rfl (fun ls hl => ?_)
              refine z_iinc (k := 8) (lv' := [(6, .int (iI ((↑i) + 1))), (5, .int (iI z_15)), (4, .int (iI z_14)), (9, .int (iI (topP (V (nsd ((nsd ((nsd ((now)))))) / 65536 % (mi 1)).toNat)))), (8, .int (iI (nsd ((nsd ((nsd ((now)))))) / 65536 % (mi 1)))), (7, .int (iI (nsd ((nsd ((now)))) / 65536 % (mi 2)))), (0, .ref o), (1, .int (iI x)), (3, .int (iI y))]) hx hb dX12_nightsNow_112 hl rfl (by decide) rfl (fun ls hl => ?_)
              refine lv_goto (tgt := 20) hx hb dX12_nightsNow_115 (by decide) ?_
              exact ih20  (i + 1) (nsd ((nsd ((nsd ((now))))))) z_14 z_15 (va_up V (nsd ((nsd ((nsd ((now)))))) / 65536 % (mi 1)).toNat (takeP (V (nsd ((nsd ((nsd ((now)))))) / 65536 % (mi 1)).toNat))) (by omega) (by exact nz_s hn hV (by omega) hdr hw1 (by omega)) (by rw [NZ_s hdr, ← hw1]) (by rw [NZ_s hdr]; dsimp only; rw [← hw1, ← hV.2.2 _ (by omega), ← hu1]; first | (rw [if_pos (by omega)]; omega) | (rw [if_neg (by omega)]; omega)) (by rw [NZ_s hdr]; dsimp only; rw [← hw1, ← hV.2.2 _ (by omega), ← hw2]; first | (subst_vars; rfl) | (rw [show topP (V (nsd (nsd (nsd now)) / 65536 % mi 1).toNat) = -1 by omega]; exact (Int.add_zero _).symm)) (by intro p; unfold va_up; split; (rename_i q; rw [← hsl p, q]; rfl); exact hsl p) (by omega) _ _ _ hP hD hS (lv_sub hl [6, 7, 8, 2, 1, 0] rfl)
        · skip
          have hdr : nsd (NZ (mi 2) (mi 1) (kdM kz) z pv i).1 / 65536 % 2 = 0 := by rw [← hw1]; omega
          refine lv_aload_n hx hb dX12_nightsNow_34 rfl (lv_at hl 0 rfl) ?_
          have hPm := zp_perm hP (zblk (show List.Perm ([WMo o ma mi (updZ ml 28 (nsd ((now)))), WMp X ma V, Wa X 2 (ma 9) 5 kz, Wa X 2 (ma 22) 105 (savF 15 pv sa)] : List va_W) ([WMo o ma mi (updZ ml 28 (nsd ((now)))), WMp X ma V] ++ [Wa X 2 (ma 9) 5 kz, Wa X 2 (ma 22) 105 (savF 15 pv sa)]) from (zf1 _ 0 _ rfl).trans (((zf1 _ 0 _ rfl).trans ((List.Perm.refl _).cons _)).cons _)))
          have hDm := zd_perm hD (zblk (show List.Perm ([WMo o ma mi (updZ ml 28 (nsd ((now)))), WMp X ma V, Wa X 2 (ma 9) 5 kz, Wa X 2 (ma 22) 105 (savF 15 pv sa)] : List va_W) ([WMo o ma mi (updZ ml 28 (nsd ((now)))), WMp X ma V] ++ [Wa X 2 (ma 9) 5 kz, Wa X 2 (ma 22) 105 (savF 15 pv sa)]) from (zf1 _ 0 _ rfl).trans (((zf1 _ 0 _ rfl).trans ((List.Perm.refl _).cons _)).cons _)))
          refine z_callV (wr := zb [Wa X 2 (ma 9) 5 kz, Wa X 2 (ma 22) 105 (savF 15 pv sa)]) (As := []) (rest := []) ⟨hx, hb, hml, hown, hts⟩ (c_X12_goByAll l X o ma mi (updZ ml 28 (nsd ((now)))) V (by omega) (by exact hV.1)) (cwV 0 hts gX12_nightsNow_X12_goByAll rfl rfl rfl (by decide +kernel) ⟨Nat.le_of_ble_eq_true rfl, Nat.le_of_ble_eq_true rfl⟩) rfl rfl hl.1 dX12_nightsNow_35 rfl rfl (Nat.le_of_ble_eq_true rfl) ⟨(Nat.le_of_ble_eq_true rfl), (Nat.le_of_ble_eq_true rfl)⟩ hS hA hK hPm hDm (fun _ H locs _ hP hD hS => ?_)
          have hP := zp_perm hP ((zblk (show List.Perm ([WMo o ma mi (updZ ml 28 (nsd ((now)))), WMp X ma (wtS (mi 1) V), Wa X 2 (ma 9) 5 kz, Wa X 2 (ma 22) 105 (savF 15 pv sa)] : List va_W) ([WMo o ma mi (updZ ml 28 (nsd ((now)))), WMp X ma (wtS (mi 1) V)] ++ [Wa X 2 (ma 9) 5 kz, Wa X 2 (ma 22) 105 (savF 15 pv sa)]) from (zf1 _ 0 _ rfl).trans (((zf1 _ 0 _ rfl).trans ((List.Perm.refl _).cons _)).cons _)))).symm
          have hD := zd_perm hD ((zblk (show List.Perm ([WMo o ma mi (updZ ml 28 (nsd ((now)))), WMp X ma (wtS (mi 1) V), Wa X 2 (ma 9) 5 kz, Wa X 2 (ma 22) 105 (savF 15 pv sa)] : List va_W) ([WMo o ma mi (updZ ml 28 (nsd ((now)))), WMp X ma (wtS (mi 1) V)] ++ [Wa X 2 (ma 9) 5 kz, Wa X 2 (ma 22) 105 (savF 15 pv sa)]) from (zf1 _ 0 _ rfl).trans (((zf1 _ 0 _ rfl).trans ((List.Perm.refl _).cons _)).cons _)))).symm
          have hP : va_P X.1 vwCl (zb [WMo o ma mi (updZ ml 28 (nsd ((now)))), WMp X ma (wtS (mi 1) V), Wa X 2 (ma 9) 5 kz, Wa X 2 (ma 22) 105 (savF 15 pv sa)]) H := hP
          have hD : va_D A (zb [WMo o ma mi (updZ ml 28 (nsd ((now)))), WMp X ma (wtS (mi 1) V), Wa X 2 (ma 9) 5 kz, Wa X 2 (ma 22) 105 (savF 15 pv sa)]) := hD
          refine W.eq (g2 := F0 m 38 ls []) rfl ?_
          refine lv_goto (tgt := 112) hx hb dX12_nightsNow_38 (by decide) ?_
          refine z_iinc (k := 5) (lv' := [(6, .int (iI ((↑i) + 1))), (0, .ref o), (1, .int (iI x)), (3, .int (iI y)), (4, .int (iI u)), (5, .int (iI w))]) hx hb dX12_nightsNow_112 hl rfl (by decide) rfl (fun ls hl => ?_)
          refine lv_goto (tgt := 20) hx hb dX12_nightsNow_115 (by decide) ?_
          exact ih20  (i + 1) (nsd ((now))) u w (wtS (mi 1) V) (by omega) (by exact nz_h hn hV (by omega) (by rw [← hw1]; omega)) (by rw [NZ_h hdr, ← hw1]) (by rw [NZ_h hdr]; exact hu1) (by rw [NZ_h hdr]; exact hw2) (by intro p; rw [hourV_0 (t := 0) (u := 0) p]; exact hsl p) (by omega) _ _ _ hP hD hS (lv_sub hl [1, 2, 3, 4, 5, 0] rfl)
  exact L20 ((x - ↑(0 : Nat)).toNat + 1) 0 z 0 0 pv (by omega) (by exact ⟨hpv, fun j hj => by have := hpg j hj; rw [show (2000 : Int) + ((0 : Nat) : Int) = 2000 by omega]; exact this, fun j _ => rfl⟩) (by rfl) (by rfl) (by rfl) (by intro p; rfl) (by omega) _ _ _ hP hD hS (lv_sub hl [3, 4, 6, 2, 1, 0] rfl)
