set_option maxHeartbeats 1000000 in
set_option maxRecDepth 100000 in
theorem c_X12_isAny (l : Launch) (X : zX) (o : Nat) (ma : Nat → Nat) (mi : Nat → Int) (ml : Nat → Int) (pv : Nat → Nat → Int) (hn : 0 ≤ mi 1 ∧ mi 1 ≤ 3) (hpv : PanS pv) : zF l X yX12_isAny wsX12_isAny 1 21 [.ref o] (zb [WMo o ma mi ml, WMp X ma pv]) (some (.int (iI (1 - bareZ pv (mi 1).toNat)))) (zb [WMo o ma mi ml, WMp X ma pv]) := by
  refine z_enter (cc := cX12_isAny) (maxL := 3) (ret := (some .boolean)) (by decide) rfl (Nat.le_of_ble_eq_true rfl) ?_
  intro p e s m below meth c A ls Q hQ hE hl hP hD
  obtain ⟨hx, hb, hr, hml, hown, hts, hlocks, hnm, hA, hK⟩ := hE
  have hown : s.vm.findClass RX12 = some m.cls := hown
  have hS : va_S A s.heap s.heap [] := va_S.rf
  have hl : lv_has ls 3 [(0, .ref o)] := hl
  have inX12 : ∀ w ∈ u_ws RX12 TX12 38, w ∈ wsX12_isAny := by decide +kernel
  refine lv_iconst (v := iI 0) hx hb dX12_isAny_0 (by decide) ?_
  refine lv_istore_n (lv' := [(1, .int (iI 0)), (0, .ref o)]) hx hb dX12_isAny_1 rfl hl (by decide) rfl (fun ls hl => ?_)
  refine lv_iconst (v := iI 0) hx hb dX12_isAny_2 (by decide) ?_
  refine lv_istore_n (lv' := [(2, .int (iI 0)), (1, .int (iI 0)), (0, .ref o)]) hx hb dX12_isAny_3 rfl hl (by decide) rfl (fun ls hl => ?_)
  have L4 : ∀ (fu : Nat) (i : Nat) (w : Int), ((i : Int) ≤ mi 1) → (w = 1 - bareZ pv i) → (mi 1 - ↑i).toNat < fu → ∀ (H : Heap) (locs : List Loc) (ls : Array Slot), va_P X.1 vwCl (zb [WMo o ma mi ml, WMp X ma pv]) H → va_D A (zb [WMo o ma mi ml, WMp X ma pv]) → va_S A s.heap H locs → lv_has ls 3 [(0, .ref o), (1, .int (iI w)), (2, .int (iI (↑i)))] → W p l e { frames := 1, cells := 0, slots := 0, locals := 21 } s m ([.ref o] : List Value).toArray below meth c H locs 0 0 Q (F0 m 4 ls []) := by
    intro fu
    induction fu with
    | zero => intro i w hi hw hm; exact absurd hm (Nat.not_lt_zero _)
    | succ fu ih4 =>
      intro i w hi hw hm H locs ls hP hD hS hl
      have hb01 := bareZ_01 pv i
      have htp := topP_in (pv i)
      refine lv_iload_n hx hb dX12_isAny_4 rfl (lv_at hl 2 rfl) ?_
      refine lv_aload_n hx hb dX12_isAny_5 rfl (lv_at hl 0 rfl) ?_
      refine va_get (ci := 12) (v := .int (iI (mi 1))) (C := RX12) (T := TX12) (N := 38) hx hb hts inX12 hown hK.1 hP 0 rfl rfl 1 (by decide) (hts (.fieldLink RX12 119 "SkimmedSonsModel" "pans" "I") (by decide +kernel)) (fun _ h9 => h9) rfl dX12_isAny_6 ?_
      refine z_icmp_ge (tgt := 37) hx hb (by omega) dX12_isAny_9 (by decide) (fun c_1 => ?_) (fun c_1 => ?_)
      · skip
        refine lv_iload_n hx hb dX12_isAny_37 rfl (lv_at hl 1 rfl) ?_
        exact z_zret (ty := .boolean) hQ hx hb hr (by rcases (show w = 0 ∨ w = 1 by omega) with q | q <;> rw [q] <;> rfl) hlocks hS ⟨(Nat.le_of_ble_eq_true rfl), (Nat.le_of_ble_eq_true rfl)⟩ dX12_isAny_38 () (congrArg (fun z => some (Value.int (iI z))) (show (1 - bareZ pv (mi 1).toNat : Int) = w by rw [hw, show i = (mi 1).toNat by omega])) trivial hP hD
      · skip
        refine lv_iload_n hx hb dX12_isAny_12 rfl (lv_at hl 1 rfl) ?_
        refine z_if_ne (tgt := 25) hx hb (by omega) dX12_isAny_13 (by decide) (fun c_2 => ?_) (fun c_2 => ?_)
        · skip
          refine lv_iconst (v := iI 1) hx hb dX12_isAny_25 (by decide) ?_
          refine lv_goto (tgt := 30) hx hb dX12_isAny_26 (by decide) ?_
          refine lv_istore_n (lv' := [(1, .int (iI 1)), (0, .ref o), (2, .int (iI (↑i)))]) hx hb dX12_isAny_30 rfl hl (by decide) rfl (fun ls hl => ?_)
          refine z_iinc (k := 2) (lv' := [(2, .int (iI ((↑i) + 1))), (1, .int (iI 1)), (0, .ref o)]) hx hb dX12_isAny_31 hl rfl (by decide) rfl (fun ls hl => ?_)
          refine lv_goto (tgt := 4) hx hb dX12_isAny_34 (by decide) ?_
          exact ih4  (i + 1) 1 (by omega) (by unfold bareZ; first | (rw [if_pos (by omega)]; omega) | (rw [if_neg (by omega)]; omega) | (split <;> omega)) (by omega) _ _ _ hP hD hS (lv_sub hl [2, 1, 0] rfl)
        · skip
          refine lv_aload_n hx hb dX12_isAny_16 rfl (lv_at hl 0 rfl) ?_
          refine lv_iload_n hx hb dX12_isAny_17 rfl (lv_at hl 2 rfl) ?_
          have hPm := zp_perm hP (zblk (show List.Perm ([WMo o ma mi ml, WMp X ma pv] : List va_W) ([WMo o ma mi ml, WMp X ma pv] ++ []) from (zf1 _ 0 _ rfl).trans (((zf1 _ 0 _ rfl).trans ((List.Perm.refl _).cons _)).cons _)))
          have hDm := zd_perm hD (zblk (show List.Perm ([WMo o ma mi ml, WMp X ma pv] : List va_W) ([WMo o ma mi ml, WMp X ma pv] ++ []) from (zf1 _ 0 _ rfl).trans (((zf1 _ 0 _ rfl).trans ((List.Perm.refl _).cons _)).cons _)))
          refine z_callV (wr := zb []) (As := [.int (iI (↑i))]) (rest := []) ⟨hx, hb, hml, hown, hts⟩ (c_X12_topOf l X o ma mi ml pv (↑i : Int) (by exact hpv _ (by omega)) (by omega)) (cwV 1 hts gX12_isAny_X12_topOf rfl rfl rfl (by decide +kernel) ⟨Nat.le_of_ble_eq_true rfl, Nat.le_of_ble_eq_true rfl⟩) rfl rfl hl.1 dX12_isAny_18 rfl rfl (Nat.le_of_ble_eq_true rfl) ⟨(Nat.le_of_ble_eq_true rfl), (Nat.le_of_ble_eq_true rfl)⟩ hS hA hK hPm hDm (fun _ H locs _ hP hD hS => ?_)
          have hP := zp_perm hP ((zblk (show List.Perm ([WMo o ma mi ml, WMp X ma pv] : List va_W) ([WMo o ma mi ml, WMp X ma pv] ++ []) from (zf1 _ 0 _ rfl).trans (((zf1 _ 0 _ rfl).trans ((List.Perm.refl _).cons _)).cons _)))).symm
          have hD := zd_perm hD ((zblk (show List.Perm ([WMo o ma mi ml, WMp X ma pv] : List va_W) ([WMo o ma mi ml, WMp X ma pv] ++ []) from (zf1 _ 0 _ rfl).trans (((zf1 _ 0 _ rfl).trans ((List.Perm.refl _).cons _)).cons _)))).symm
          have hP : va_P X.1 vwCl (zb [WMo o ma mi ml, WMp X ma pv]) H := hP
          have hD : va_D A (zb [WMo o ma mi ml, WMp X ma pv]) := hD
          refine W.eq (g2 := F0 m 21 ls [.int (iI (topP (pv i)))]) rfl ?_
          refine lv_iconst (v := iI (-1)) hx hb dX12_isAny_21 (by decide) ?_
          refine z_icmp_eq (tgt := 29) hx hb (by omega) dX12_isAny_22 (by decide) (fun c_4 => ?_) (fun c_4 => ?_)
          · skip
            refine lv_iconst (v := iI 0) hx hb dX12_isAny_29 (by decide) ?_
            refine lv_istore_n (lv' := [(1, .int (iI 0)), (0, .ref o), (2, .int (iI (↑i)))]) hx hb dX12_isAny_30 rfl hl (by decide) rfl (fun ls hl => ?_)
            refine z_iinc (k := 2) (lv' := [(2, .int (iI ((↑i) + 1))), (1, .int (iI 0)), (0, .ref o)]) hx hb dX12_isAny_31 hl rfl (by decide) rfl (fun ls hl => ?_)
            refine lv_goto (tgt := 4) hx hb dX12_isAny_34 (by decide) ?_
            exact ih4  (i + 1) 0 (by omega) (by unfold bareZ; first | (rw [if_pos (by omega)]; omega) | (rw [if_neg (by omega)]; omega) | (split <;> omega)) (by omega) _ _ _ hP hD hS (lv_sub hl [2, 1, 0] rfl)
          · skip
            refine lv_iconst (v := iI 1) hx hb dX12_isAny_25 (by decide) ?_
            refine lv_goto (tgt := 30) hx hb dX12_isAny_26 (by decide) ?_
            refine lv_istore_n (lv' := [(1, .int (iI 1)), (0, .ref o), (2, .int (iI (↑i)))]) hx hb dX12_isAny_30 rfl hl (by decide) rfl (fun ls hl => ?_)
            refine z_iinc (k := 2) (lv' := [(2, .int (iI ((↑i) + 1))), (1, .int (iI 1)), (0, .ref o)]) hx hb dX12_isAny_31 hl rfl (by decide) rfl (fun ls hl => ?_)
            refine lv_goto (tgt := 4) hx hb dX12_isAny_34 (by decide) ?_
            exact ih4  (i + 1) 1 (by omega) (by unfold bareZ; first | (rw [if_pos (by omega)]; omega) | (rw [if_neg (by omega)]; omega) | (split <;> omega)) (by omega) _ _ _ hP hD hS (lv_sub hl [2, 1, 0] rfl)
  exact L4 ((mi 1 - ↑(0 : Nat)).toNat + 1) 0 0 (by omega) (by rfl) (by omega) _ _ _ hP hD hS (lv_sub hl [2, 1, 0] rfl)
set_option maxHeartbeats 1000000 in
set_option maxRecDepth 100000 in
theorem c_X12_worthBy (l : Launch) (X : zX) (o : Nat) (ma : Nat → Nat) (mi : Nat → Int) (ml : Nat → Int) (pv : Nat → Nat → Int) (kz : Nat → Int) (rf : Nat → Int) (z : Int) (h : Nat) (hn : 0 ≤ mi 1 ∧ mi 1 ≤ 3) (hpv : PanS pv) (hpg : ∀ j, j < (mi 1).toNat → PanG 2000 (pv j)) (hzk : 0 ≤ z ∧ z < 5) (hkz : 0 ≤ kz z.toNat ∧ kz z.toNat ≤ 4) (hh4 : h ≤ 4) (hdg : ∀ j, j < h → 0 ≤ rf j ∧ rf j ≤ mi 1) : zM (S := (Nat → Nat → Int)) l X yX12_worthBy wsX12_worthBy { frames := 3, cells := 0, slots := 0, locals := 64 } [.ref o, .int (iI z), .int (iI (↑h))] (zb [WMo o ma mi ml, WMp X ma pv, Wa X 2 (ma 9) 5 kz, Wa X 2 (ma 23) 4 rf]) (fun u => (some (.int (iI (WBi (kdM kz z.toNat) (mi 1) rf h 0 pv))))) (fun u => zb [WMo o ma mi ml, WMp X ma u, Wa X 2 (ma 9) 5 kz, Wa X 2 (ma 23) 4 rf]) (fun u => ∀ p : Nat, u p 0 = pv p 0) := by
  refine z_enter (cc := cX12_worthBy) (maxL := 7) (ret := (some .int)) (by decide) rfl (Nat.le_of_ble_eq_true rfl) ?_
  intro p e s m below meth c A ls Q hQ hE hl hP hD
  obtain ⟨hx, hb, hr, hml, hown, hts, hlocks, hnm, hA, hK⟩ := hE
  have hown : s.vm.findClass RX12 = some m.cls := hown
  have hS : va_S A s.heap s.heap [] := va_S.rf
  have hl : lv_has ls 7 [(0, .ref o), (1, .int (iI z)), (2, .int (iI (↑h)))] := hl
  have inX12 : ∀ w ∈ u_ws RX12 TX12 38, w ∈ wsX12_worthBy := by decide +kernel
  refine lv_iconst (v := iI 0) hx hb dX12_worthBy_0 (by decide) ?_
  refine lv_istore_n (lv' := [(3, .int (iI 0)), (0, .ref o), (1, .int (iI z)), (2, .int (iI (↑h)))]) hx hb dX12_worthBy_1 rfl hl (by decide) rfl (fun ls hl => ?_)
  refine lv_iconst (v := iI 0) hx hb dX12_worthBy_2 (by decide) ?_
  refine lv_istore (lv' := [(4, .int (iI 0)), (3, .int (iI 0)), (0, .ref o), (1, .int (iI z)), (2, .int (iI (↑h)))]) hx hb dX12_worthBy_3 hl (by decide) rfl (fun ls hl => ?_)
  have L5 : ∀ (fu : Nat) (i : Nat) (a : Int) (V : Nat → Nat → Int), (i ≤ h) → (PanS V) → (∀ j, j < (mi 1).toNat → PanG (2000 + (i : Int)) (V j)) → (∀ p : Nat, V p 0 = pv p 0) → (0 ≤ a ∧ a ≤ 16 * (i : Int)) → (WBi (kdM kz z.toNat) (mi 1) rf h 0 pv = joW a (WBi (kdM kz z.toNat) (mi 1) rf (h - i) i V)) → (h - i) < fu → ∀ (H : Heap) (locs : List Loc) (ls : Array Slot), va_P X.1 vwCl (zb [WMo o ma mi ml, WMp X ma V, Wa X 2 (ma 9) 5 kz, Wa X 2 (ma 23) 4 rf]) H → va_D A (zb [WMo o ma mi ml, WMp X ma V, Wa X 2 (ma 9) 5 kz, Wa X 2 (ma 23) 4 rf]) → va_S A s.heap H locs → lv_has ls 7 [(0, .ref o), (1, .int (iI z)), (2, .int (iI (↑h))), (3, .int (iI a)), (4, .int (iI (↑i)))] → W p l e { frames := 3, cells := 0, slots := 0, locals := 64 } s m ([.ref o, .int (iI z), .int (iI (↑h))] : List Value).toArray below meth c H locs 0 0 Q (F0 m 5 ls []) := by
    intro fu
    induction fu with
    | zero => intro i a V hi hV1 hV2 hsl ha hWB hm; exact absurd hm (Nat.not_lt_zero _)
    | succ fu ih5 =>
      intro i a V hi hV1 hV2 hsl ha hWB hm H locs ls hP hD hS hl
      have hb01 := bareZ_01 V (mi 1).toNat
      refine lv_iload hx hb dX12_worthBy_5 (lv_at hl 4 rfl) ?_
      refine lv_iload_n hx hb dX12_worthBy_7 rfl (lv_at hl 2 rfl) ?_
      refine z_icmp_ge (tgt := 107) hx hb (by omega) dX12_worthBy_8 (by decide) (fun c_1 => ?_) (fun c_1 => ?_)
      · skip
        refine lv_iload_n hx hb dX12_worthBy_107 rfl (lv_at hl 3 rfl) ?_
        exact z_iret hQ hx hb hr hlocks hS ⟨(Nat.le_of_ble_eq_true rfl), (Nat.le_of_ble_eq_true rfl)⟩ dX12_worthBy_108 V (congrArg (fun z => some (Value.int (iI z))) (show (WBi (kdM kz z.toNat) (mi 1) rf h 0 pv : Int) = a by rw [hWB, show h - i = 0 by omega]; show joW a 0 = a; unfold joW; rw [if_neg (by decide)]; omega)) (by (try dsimp only); exact hsl) hP hD
      · skip
        have hdi := hdg i (by omega)
        refine lv_aload_n hx hb dX12_worthBy_11 rfl (lv_at hl 0 rfl) ?_
        refine va_get (ci := 12) (v := .ref (ma 23)) (C := RX12) (T := TX12) (N := 38) hx hb hts inX12 hown hK.1 hP 0 rfl rfl 23 (by decide) (hts (.fieldLink RX12 50 "SkimmedSonsModel" "row" "[I") (by decide +kernel)) (fun _ h9 => h9) rfl dX12_worthBy_12 ?_
        refine lv_iload hx hb dX12_worthBy_15 (lv_at hl 4 rfl) ?_
        refine z_iald hx hb hK.1 hP 8 rfl (by omega) dX12_worthBy_17 ?_
        refine W.eq (g2 := F0 m 18 ls [.int (iI (rf i))]) rfl ?_
        refine lv_iconst (v := iI 1) hx hb dX12_worthBy_18 (by decide) ?_
        refine z_isub hx hb dX12_worthBy_19 ?_
        refine z_topi (fun z_2 ez_2 => ?_)
        refine lv_istore (lv' := [(5, .int (iI z_2)), (0, .ref o), (1, .int (iI z)), (2, .int (iI (↑h))), (3, .int (iI a)), (4, .int (iI (↑i)))]) hx hb dX12_worthBy_20 hl (by decide) rfl (fun ls hl => ?_)
        refine lv_iload hx hb dX12_worthBy_22 (lv_at hl 0 rfl) ?_
        refine z_if_ge (tgt := 42) hx hb (by omega) dX12_worthBy_24 (by decide) (fun c_3 => ?_) (fun c_3 => ?_)
        · skip
          have htp := topP_in (V z_2.toNat)
          have hpe : z_2 = rf i - 1 := ez_2
          have hpd : (rf i - 1).toNat = z_2.toNat := by rw [hpe]
          refine lv_aload_n hx hb dX12_worthBy_42 rfl (lv_at hl 1 rfl) ?_
          refine lv_iload hx hb dX12_worthBy_43 (lv_at hl 0 rfl) ?_
          have hPm := zp_perm hP (zblk (show List.Perm ([WMo o ma mi ml, WMp X ma V, Wa X 2 (ma 9) 5 kz, Wa X 2 (ma 23) 4 rf] : List va_W) ([WMo o ma mi ml, WMp X ma V] ++ [Wa X 2 (ma 9) 5 kz, Wa X 2 (ma 23) 4 rf]) from (zf1 _ 0 _ rfl).trans (((zf1 _ 0 _ rfl).trans ((List.Perm.refl _).cons _)).cons _)))
          have hDm := zd_perm hD (zblk (show List.Perm ([WMo o ma mi ml, WMp X ma V, Wa X 2 (ma 9) 5 kz, Wa X 2 (ma 23) 4 rf] : List va_W) ([WMo o ma mi ml, WMp X ma V] ++ [Wa X 2 (ma 9) 5 kz, Wa X 2 (ma 23) 4 rf]) from (zf1 _ 0 _ rfl).trans (((zf1 _ 0 _ rfl).trans ((List.Perm.refl _).cons _)).cons _)))
          refine z_callV (wr := zb [Wa X 2 (ma 9) 5 kz, Wa X 2 (ma 23) 4 rf]) (As := [.int (iI z_2)]) (rest := []) ⟨hx, hb, hml, hown, hts⟩ (c_X12_topOf l X o ma mi ml V z_2 (by exact hV1 _ (by omega)) (by omega)) (cwV 1 hts gX12_worthBy_X12_topOf rfl rfl rfl (by decide +kernel) ⟨Nat.le_of_ble_eq_true rfl, Nat.le_of_ble_eq_true rfl⟩) rfl rfl hl.1 dX12_worthBy_45 rfl rfl (Nat.le_of_ble_eq_true rfl) ⟨(Nat.le_of_ble_eq_true rfl), (Nat.le_of_ble_eq_true rfl)⟩ hS hA hK hPm hDm (fun _ H locs _ hP hD hS => ?_)
          have hP := zp_perm hP ((zblk (show List.Perm ([WMo o ma mi ml, WMp X ma V, Wa X 2 (ma 9) 5 kz, Wa X 2 (ma 23) 4 rf] : List va_W) ([WMo o ma mi ml, WMp X ma V] ++ [Wa X 2 (ma 9) 5 kz, Wa X 2 (ma 23) 4 rf]) from (zf1 _ 0 _ rfl).trans (((zf1 _ 0 _ rfl).trans ((List.Perm.refl _).cons _)).cons _)))).symm
          have hD := zd_perm hD ((zblk (show List.Perm ([WMo o ma mi ml, WMp X ma V, Wa X 2 (ma 9) 5 kz, Wa X 2 (ma 23) 4 rf] : List va_W) ([WMo o ma mi ml, WMp X ma V] ++ [Wa X 2 (ma 9) 5 kz, Wa X 2 (ma 23) 4 rf]) from (zf1 _ 0 _ rfl).trans (((zf1 _ 0 _ rfl).trans ((List.Perm.refl _).cons _)).cons _)))).symm
          have hP : va_P X.1 vwCl (zb [WMo o ma mi ml, WMp X ma V, Wa X 2 (ma 9) 5 kz, Wa X 2 (ma 23) 4 rf]) H := hP
          have hD : va_D A (zb [WMo o ma mi ml, WMp X ma V, Wa X 2 (ma 9) 5 kz, Wa X 2 (ma 23) 4 rf]) := hD
          refine W.eq (g2 := F0 m 48 ls [.int (iI (topP (V z_2.toNat)))]) rfl ?_
          refine lv_iconst (v := iI (-1)) hx hb dX12_worthBy_48 (by decide) ?_
          refine z_icmp_eq (tgt := 56) hx hb (by omega) dX12_worthBy_49 (by decide) (fun c_4 => ?_) (fun c_4 => ?_)
          · skip
            refine lv_iconst (v := iI 0) hx hb dX12_worthBy_56 (by decide) ?_
            refine lv_istore (lv' := [(6, .int (iI 0)), (5, .int (iI z_2)), (0, .ref o), (1, .int (iI z)), (2, .int (iI (↑h))), (3, .int (iI a)), (4, .int (iI (↑i)))]) hx hb dX12_worthBy_57 hl (by decide) rfl (fun ls hl => ?_)
            refine lv_iload hx hb dX12_worthBy_59 (lv_at hl 0 rfl) ?_
            refine z_if_ne (tgt := 66) hx hb (by omega) dX12_worthBy_61 (by decide) (fun c_5 => ?_) (fun c_5 => ?_)
            · skip
              exact absurd c_5 (by omega)
            · skip
              refine lv_iconst (v := iI (-1)) hx hb dX12_worthBy_64 (by decide) ?_
              exact z_iret hQ hx hb hr hlocks hS ⟨(Nat.le_of_ble_eq_true rfl), (Nat.le_of_ble_eq_true rfl)⟩ dX12_worthBy_65 V (congrArg (fun z => some (Value.int (iI z))) (show (WBi (kdM kz z.toNat) (mi 1) rf h 0 pv : Int) = (-1) by rw [hWB, show h - i = (h - (i + 1)) + 1 by omega]; first | (rw [WBi_x0 (by omega) (by omega)]; rfl) | (rw [WBi_x1 (by omega) (by rw [hpd]; omega)]; rfl))) (by (try dsimp only); exact hsl) hP hD
          · skip
            refine lv_iconst (v := iI 1) hx hb dX12_worthBy_52 (by decide) ?_
            refine lv_goto (tgt := 57) hx hb dX12_worthBy_53 (by decide) ?_
            refine lv_istore (lv' := [(6, .int (iI 1)), (5, .int (iI z_2)), (0, .ref o), (1, .int (iI z)), (2, .int (iI (↑h))), (3, .int (iI a)), (4, .int (iI (↑i)))]) hx hb dX12_worthBy_57 hl (by decide) rfl (fun ls hl => ?_)
            refine lv_iload hx hb dX12_worthBy_59 (lv_at hl 0 rfl) ?_
            refine z_if_ne (tgt := 66) hx hb (by omega) dX12_worthBy_61 (by decide) (fun c_6 => ?_) (fun c_6 => ?_)
            · skip
              refine lv_iload hx hb dX12_worthBy_66 (lv_at hl 1 rfl) ?_
              refine z_if_lt (tgt := 97) hx hb (by omega) dX12_worthBy_68 (by decide) (fun c_7 => ?_) (fun c_7 => ?_)
              · skip
                exact absurd c_7 (by omega)
              · skip
                refine lv_iload_n hx hb dX12_worthBy_71 rfl (lv_at hl 5 rfl) ?_
                refine lv_aload_n hx hb dX12_worthBy_72 rfl (lv_at hl 2 rfl) ?_
                refine lv_iload_n hx hb dX12_worthBy_73 rfl (lv_at hl 3 rfl) ?_
                refine lv_aload_n hx hb dX12_worthBy_74 rfl (lv_at hl 2 rfl) ?_
                refine lv_iload hx hb dX12_worthBy_75 (lv_at hl 1 rfl) ?_
                have hPm := zp_perm hP (zblk (show List.Perm ([WMo o ma mi ml, WMp X ma V, Wa X 2 (ma 9) 5 kz, Wa X 2 (ma 23) 4 rf] : List va_W) ([WMo o ma mi ml, WMp X ma V] ++ [Wa X 2 (ma 9) 5 kz, Wa X 2 (ma 23) 4 rf]) from (zf1 _ 0 _ rfl).trans (((zf1 _ 0 _ rfl).trans ((List.Perm.refl _).cons _)).cons _)))
                have hDm := zd_perm hD (zblk (show List.Perm ([WMo o ma mi ml, WMp X ma V, Wa X 2 (ma 9) 5 kz, Wa X 2 (ma 23) 4 rf] : List va_W) ([WMo o ma mi ml, WMp X ma V] ++ [Wa X 2 (ma 9) 5 kz, Wa X 2 (ma 23) 4 rf]) from (zf1 _ 0 _ rfl).trans (((zf1 _ 0 _ rfl).trans ((List.Perm.refl _).cons _)).cons _)))
                refine z_callV (wr := zb [Wa X 2 (ma 9) 5 kz, Wa X 2 (ma 23) 4 rf]) (As := [.int (iI z_2)]) (rest := [.int (iI z), .ref o, .int (iI a)]) ⟨hx, hb, hml, hown, hts⟩ (c_X12_topOf l X o ma mi ml V z_2 (by exact hV1 _ (by omega)) (by omega)) (cwV 1 hts gX12_worthBy_X12_topOf rfl rfl rfl (by decide +kernel) ⟨Nat.le_of_ble_eq_true rfl, Nat.le_of_ble_eq_true rfl⟩) rfl rfl hl.1 dX12_worthBy_77 rfl rfl (Nat.le_of_ble_eq_true rfl) ⟨(Nat.le_of_ble_eq_true rfl), (Nat.le_of_ble_eq_true rfl)⟩ hS hA hK hPm hDm (fun _ H locs _ hP hD hS => ?_)
                have hP := zp_perm hP ((zblk (show List.Perm ([WMo o ma mi ml, WMp X ma V, Wa X 2 (ma 9) 5 kz, Wa X 2 (ma 23) 4 rf] : List va_W) ([WMo o ma mi ml, WMp X ma V] ++ [Wa X 2 (ma 9) 5 kz, Wa X 2 (ma 23) 4 rf]) from (zf1 _ 0 _ rfl).trans (((zf1 _ 0 _ rfl).trans ((List.Perm.refl _).cons _)).cons _)))).symm
                have hD := zd_perm hD ((zblk (show List.Perm ([WMo o ma mi ml, WMp X ma V, Wa X 2 (ma 9) 5 kz, Wa X 2 (ma 23) 4 rf] : List va_W) ([WMo o ma mi ml, WMp X ma V] ++ [Wa X 2 (ma 9) 5 kz, Wa X 2 (ma 23) 4 rf]) from (zf1 _ 0 _ rfl).trans (((zf1 _ 0 _ rfl).trans ((List.Perm.refl _).cons _)).cons _)))).symm
                have hP : va_P X.1 vwCl (zb [WMo o ma mi ml, WMp X ma V, Wa X 2 (ma 9) 5 kz, Wa X 2 (ma 23) 4 rf]) H := hP
                have hD : va_D A (zb [WMo o ma mi ml, WMp X ma V, Wa X 2 (ma 9) 5 kz, Wa X 2 (ma 23) 4 rf]) := hD
                refine W.eq (g2 := F0 m 80 ls [.int (iI (topP (V z_2.toNat))), .int (iI z), .ref o, .int (iI a)]) rfl ?_
                have hPm := zp_perm hP (zblk (show List.Perm ([WMo o ma mi ml, WMp X ma V, Wa X 2 (ma 9) 5 kz, Wa X 2 (ma 23) 4 rf] : List va_W) ([WMo o ma mi ml, Wa X 2 (ma 9) 5 kz] ++ [WMp X ma V, Wa X 2 (ma 23) 4 rf]) from (zf1 _ 0 _ rfl).trans (((zf1 _ 1 _ rfl).trans ((List.Perm.refl _).cons _)).cons _)))
                have hDm := zd_perm hD (zblk (show List.Perm ([WMo o ma mi ml, WMp X ma V, Wa X 2 (ma 9) 5 kz, Wa X 2 (ma 23) 4 rf] : List va_W) ([WMo o ma mi ml, Wa X 2 (ma 9) 5 kz] ++ [WMp X ma V, Wa X 2 (ma 23) 4 rf]) from (zf1 _ 0 _ rfl).trans (((zf1 _ 1 _ rfl).trans ((List.Perm.refl _).cons _)).cons _)))
                refine z_callV (wr := zb [WMp X ma V, Wa X 2 (ma 23) 4 rf]) (As := [.int (iI z), .int (iI (topP (V z_2.toNat)))]) (rest := [.int (iI a)]) ⟨hx, hb, hml, hown, hts⟩ (c_X12_worthOf l X o ma mi ml kz z (topP (V z_2.toNat)) (by omega) (by exact hkz) (by omega)) (cwV 2 hts gX12_worthBy_X12_worthOf rfl rfl rfl (by decide +kernel) ⟨Nat.le_of_ble_eq_true rfl, Nat.le_of_ble_eq_true rfl⟩) rfl rfl hl.1 dX12_worthBy_80 rfl rfl (Nat.le_of_ble_eq_true rfl) ⟨(Nat.le_of_ble_eq_true rfl), (Nat.le_of_ble_eq_true rfl)⟩ hS hA hK hPm hDm (fun _ H locs _ hP hD hS => ?_)
                have hP := zp_perm hP ((zblk (show List.Perm ([WMo o ma mi ml, WMp X ma V, Wa X 2 (ma 9) 5 kz, Wa X 2 (ma 23) 4 rf] : List va_W) ([WMo o ma mi ml, Wa X 2 (ma 9) 5 kz] ++ [WMp X ma V, Wa X 2 (ma 23) 4 rf]) from (zf1 _ 0 _ rfl).trans (((zf1 _ 1 _ rfl).trans ((List.Perm.refl _).cons _)).cons _)))).symm
                have hD := zd_perm hD ((zblk (show List.Perm ([WMo o ma mi ml, WMp X ma V, Wa X 2 (ma 9) 5 kz, Wa X 2 (ma 23) 4 rf] : List va_W) ([WMo o ma mi ml, Wa X 2 (ma 9) 5 kz] ++ [WMp X ma V, Wa X 2 (ma 23) 4 rf]) from (zf1 _ 0 _ rfl).trans (((zf1 _ 1 _ rfl).trans ((List.Perm.refl _).cons _)).cons _)))).symm
                have hP : va_P X.1 vwCl (zb [WMo o ma mi ml, WMp X ma V, Wa X 2 (ma 9) 5 kz, Wa X 2 (ma 23) 4 rf]) H := hP
                have hD : va_D A (zb [WMo o ma mi ml, WMp X ma V, Wa X 2 (ma 9) 5 kz, Wa X 2 (ma 23) 4 rf]) := hD
                refine W.eq (g2 := F0 m 83 ls [.int (iI (wOf (kdM kz z.toNat) (topP (V z_2.toNat)))), .int (iI a)]) rfl ?_
                refine z_iadd hx hb dX12_worthBy_83 ?_
                refine z_topi (fun z_8 ez_8 => ?_)
                refine lv_istore_n (lv' := [(3, .int (iI z_8)), (6, .int (iI 1)), (5, .int (iI z_2)), (0, .ref o), (1, .int (iI z)), (2, .int (iI (↑h))), (4, .int (iI (↑i)))]) hx hb dX12_worthBy_84 rfl hl (by decide) rfl (fun ls hl => ?_)
                refine lv_aload_n hx hb dX12_worthBy_85 rfl (lv_at hl 3 rfl) ?_
                refine lv_iload hx hb dX12_worthBy_86 (lv_at hl 2 rfl) ?_
                refine lv_aload_n hx hb dX12_worthBy_88 rfl (lv_at hl 3 rfl) ?_
                refine lv_iload hx hb dX12_worthBy_89 (lv_at hl 2 rfl) ?_
                have hPm := zp_perm hP (zblk (show List.Perm ([WMo o ma mi ml, WMp X ma V, Wa X 2 (ma 9) 5 kz, Wa X 2 (ma 23) 4 rf] : List va_W) ([WMo o ma mi ml, WMp X ma V] ++ [Wa X 2 (ma 9) 5 kz, Wa X 2 (ma 23) 4 rf]) from (zf1 _ 0 _ rfl).trans (((zf1 _ 0 _ rfl).trans ((List.Perm.refl _).cons _)).cons _)))
                have hDm := zd_perm hD (zblk (show List.Perm ([WMo o ma mi ml, WMp X ma V, Wa X 2 (ma 9) 5 kz, Wa X 2 (ma 23) 4 rf] : List va_W) ([WMo o ma mi ml, WMp X ma V] ++ [Wa X 2 (ma 9) 5 kz, Wa X 2 (ma 23) 4 rf]) from (zf1 _ 0 _ rfl).trans (((zf1 _ 0 _ rfl).trans ((List.Perm.refl _).cons _)).cons _)))
                refine z_callV (wr := zb [Wa X 2 (ma 9) 5 kz, Wa X 2 (ma 23) 4 rf]) (As := [.int (iI z_2)]) (rest := [.int (iI z_2), .ref o]) ⟨hx, hb, hml, hown, hts⟩ (c_X12_topOf l X o ma mi ml V z_2 (by exact hV1 _ (by omega)) (by omega)) (cwV 1 hts gX12_worthBy_X12_topOf rfl rfl rfl (by decide +kernel) ⟨Nat.le_of_ble_eq_true rfl, Nat.le_of_ble_eq_true rfl⟩) rfl rfl hl.1 dX12_worthBy_91 rfl rfl (Nat.le_of_ble_eq_true rfl) ⟨(Nat.le_of_ble_eq_true rfl), (Nat.le_of_ble_eq_true rfl)⟩ hS hA hK hPm hDm (fun _ H locs _ hP hD hS => ?_)
                have hP := zp_perm hP ((zblk (show List.Perm ([WMo o ma mi ml, WMp X ma V, Wa X 2 (ma 9) 5 kz, Wa X 2 (ma 23) 4 rf] : List va_W) ([WMo o ma mi ml, WMp X ma V] ++ [Wa X 2 (ma 9) 5 kz, Wa X 2 (ma 23) 4 rf]) from (zf1 _ 0 _ rfl).trans (((zf1 _ 0 _ rfl).trans ((List.Perm.refl _).cons _)).cons _)))).symm
                have hD := zd_perm hD ((zblk (show List.Perm ([WMo o ma mi ml, WMp X ma V, Wa X 2 (ma 9) 5 kz, Wa X 2 (ma 23) 4 rf] : List va_W) ([WMo o ma mi ml, WMp X ma V] ++ [Wa X 2 (ma 9) 5 kz, Wa X 2 (ma 23) 4 rf]) from (zf1 _ 0 _ rfl).trans (((zf1 _ 0 _ rfl).trans ((List.Perm.refl _).cons _)).cons _)))).symm
                have hP : va_P X.1 vwCl (zb [WMo o ma mi ml, WMp X ma V, Wa X 2 (ma 9) 5 kz, Wa X 2 (ma 23) 4 rf]) H := hP
                have hD : va_D A (zb [WMo o ma mi ml, WMp X ma V, Wa X 2 (ma 9) 5 kz, Wa X 2 (ma 23) 4 rf]) := hD
                refine W.eq (g2 := F0 m 94 ls [.int (iI (topP (V z_2.toNat))), .int (iI z_2), .ref o]) rfl ?_
                have hPm := zp_perm hP (zblk (show List.Perm ([WMo o ma mi ml, WMp X ma V, Wa X 2 (ma 9) 5 kz, Wa X 2 (ma 23) 4 rf] : List va_W) ([WMo o ma mi ml, WMp X ma V] ++ [Wa X 2 (ma 9) 5 kz, Wa X 2 (ma 23) 4 rf]) from (zf1 _ 0 _ rfl).trans (((zf1 _ 0 _ rfl).trans ((List.Perm.refl _).cons _)).cons _)))
                have hDm := zd_perm hD (zblk (show List.Perm ([WMo o ma mi ml, WMp X ma V, Wa X 2 (ma 9) 5 kz, Wa X 2 (ma 23) 4 rf] : List va_W) ([WMo o ma mi ml, WMp X ma V] ++ [Wa X 2 (ma 9) 5 kz, Wa X 2 (ma 23) 4 rf]) from (zf1 _ 0 _ rfl).trans (((zf1 _ 0 _ rfl).trans ((List.Perm.refl _).cons _)).cons _)))
                refine z_callV (wr := zb [Wa X 2 (ma 9) 5 kz, Wa X 2 (ma 23) 4 rf]) (As := [.int (iI z_2), .int (iI (topP (V z_2.toNat)))]) (rest := []) ⟨hx, hb, hml, hown, hts⟩ (c_X12_take l X o ma mi ml V z_2 (topP (V z_2.toNat)) (by exact hV1 _ (by omega)) (by omega) (by rfl) (by omega)) (cwV 2 hts gX12_worthBy_X12_take rfl rfl rfl (by decide +kernel) ⟨Nat.le_of_ble_eq_true rfl, Nat.le_of_ble_eq_true rfl⟩) rfl rfl hl.1 dX12_worthBy_94 rfl rfl (Nat.le_of_ble_eq_true rfl) ⟨(Nat.le_of_ble_eq_true rfl), (Nat.le_of_ble_eq_true rfl)⟩ hS hA hK hPm hDm (fun _ H locs _ hP hD hS => ?_)
                have hP := zp_perm hP ((zblk (show List.Perm ([WMo o ma mi ml, WMp X ma (va_up V z_2.toNat (takeP (V z_2.toNat))), Wa X 2 (ma 9) 5 kz, Wa X 2 (ma 23) 4 rf] : List va_W) ([WMo o ma mi ml, WMp X ma (va_up V z_2.toNat (takeP (V z_2.toNat)))] ++ [Wa X 2 (ma 9) 5 kz, Wa X 2 (ma 23) 4 rf]) from (zf1 _ 0 _ rfl).trans (((zf1 _ 0 _ rfl).trans ((List.Perm.refl _).cons _)).cons _)))).symm
                have hD := zd_perm hD ((zblk (show List.Perm ([WMo o ma mi ml, WMp X ma (va_up V z_2.toNat (takeP (V z_2.toNat))), Wa X 2 (ma 9) 5 kz, Wa X 2 (ma 23) 4 rf] : List va_W) ([WMo o ma mi ml, WMp X ma (va_up V z_2.toNat (takeP (V z_2.toNat)))] ++ [Wa X 2 (ma 9) 5 kz, Wa X 2 (ma 23) 4 rf]) from (zf1 _ 0 _ rfl).trans (((zf1 _ 0 _ rfl).trans ((List.Perm.refl _).cons _)).cons _)))).symm
                have hP : va_P X.1 vwCl (zb [WMo o ma mi ml, WMp X ma (va_up V z_2.toNat (takeP (V z_2.toNat))), Wa X 2 (ma 9) 5 kz, Wa X 2 (ma 23) 4 rf]) H := hP
                have hD : va_D A (zb [WMo o ma mi ml, WMp X ma (va_up V z_2.toNat (takeP (V z_2.toNat))), Wa X 2 (ma 9) 5 kz, Wa X 2 (ma 23) 4 rf]) := hD
                refine W.eq (g2 := F0 m 97 ls []) rfl ?_
                refine lv_aload_n hx hb dX12_worthBy_97 rfl (lv_at hl 3 rfl) ?_
                have hPm := zp_perm hP (zblk (show List.Perm ([WMo o ma mi ml, WMp X ma (va_up V z_2.toNat (takeP (V z_2.toNat))), Wa X 2 (ma 9) 5 kz, Wa X 2 (ma 23) 4 rf] : List va_W) ([WMo o ma mi ml, WMp X ma (va_up V z_2.toNat (takeP (V z_2.toNat)))] ++ [Wa X 2 (ma 9) 5 kz, Wa X 2 (ma 23) 4 rf]) from (zf1 _ 0 _ rfl).trans (((zf1 _ 0 _ rfl).trans ((List.Perm.refl _).cons _)).cons _)))
                have hDm := zd_perm hD (zblk (show List.Perm ([WMo o ma mi ml, WMp X ma (va_up V z_2.toNat (takeP (V z_2.toNat))), Wa X 2 (ma 9) 5 kz, Wa X 2 (ma 23) 4 rf] : List va_W) ([WMo o ma mi ml, WMp X ma (va_up V z_2.toNat (takeP (V z_2.toNat)))] ++ [Wa X 2 (ma 9) 5 kz, Wa X 2 (ma 23) 4 rf]) from (zf1 _ 0 _ rfl).trans (((zf1 _ 0 _ rfl).trans ((List.Perm.refl _).cons _)).cons _)))
                refine z_callV (wr := zb [Wa X 2 (ma 9) 5 kz, Wa X 2 (ma 23) 4 rf]) (As := []) (rest := []) ⟨hx, hb, hml, hown, hts⟩ (c_X12_goByAll l X o ma mi ml (va_up V z_2.toNat (takeP (V z_2.toNat))) (by omega) (by first | exact hV1 | exact (pl_tk (n := mi 1) (N := 2000 + (i : Int)) (by omega) hV1 hV2 _).1)) (cwV 0 hts gX12_worthBy_X12_goByAll rfl rfl rfl (by decide +kernel) ⟨Nat.le_of_ble_eq_true rfl, Nat.le_of_ble_eq_true rfl⟩) rfl rfl hl.1 dX12_worthBy_98 rfl rfl (Nat.le_of_ble_eq_true rfl) ⟨(Nat.le_of_ble_eq_true rfl), (Nat.le_of_ble_eq_true rfl)⟩ hS hA hK hPm hDm (fun _ H locs _ hP hD hS => ?_)
                have hP := zp_perm hP ((zblk (show List.Perm ([WMo o ma mi ml, WMp X ma (wtS (mi 1) (va_up V z_2.toNat (takeP (V z_2.toNat)))), Wa X 2 (ma 9) 5 kz, Wa X 2 (ma 23) 4 rf] : List va_W) ([WMo o ma mi ml, WMp X ma (wtS (mi 1) (va_up V z_2.toNat (takeP (V z_2.toNat))))] ++ [Wa X 2 (ma 9) 5 kz, Wa X 2 (ma 23) 4 rf]) from (zf1 _ 0 _ rfl).trans (((zf1 _ 0 _ rfl).trans ((List.Perm.refl _).cons _)).cons _)))).symm
                have hD := zd_perm hD ((zblk (show List.Perm ([WMo o ma mi ml, WMp X ma (wtS (mi 1) (va_up V z_2.toNat (takeP (V z_2.toNat)))), Wa X 2 (ma 9) 5 kz, Wa X 2 (ma 23) 4 rf] : List va_W) ([WMo o ma mi ml, WMp X ma (wtS (mi 1) (va_up V z_2.toNat (takeP (V z_2.toNat))))] ++ [Wa X 2 (ma 9) 5 kz, Wa X 2 (ma 23) 4 rf]) from (zf1 _ 0 _ rfl).trans (((zf1 _ 0 _ rfl).trans ((List.Perm.refl _).cons _)).cons _)))).symm
                have hP : va_P X.1 vwCl (zb [WMo o ma mi ml, WMp X ma (wtS (mi 1) (va_up V z_2.toNat (takeP (V z_2.toNat)))), Wa X 2 (ma 9) 5 kz, Wa X 2 (ma 23) 4 rf]) H := hP
                have hD : va_D A (zb [WMo o ma mi ml, WMp X ma (wtS (mi 1) (va_up V z_2.toNat (takeP (V z_2.toNat)))), Wa X 2 (ma 9) 5 kz, Wa X 2 (ma 23) 4 rf]) := hD
                refine W.eq (g2 := F0 m 101 ls []) rfl ?_
                refine z_iinc (k := 6) (lv' := [(4, .int (iI ((↑i) + 1))), (3, .int (iI z_8)), (6, .int (iI 1)), (5, .int (iI z_2)), (0, .ref o), (1, .int (iI z)), (2, .int (iI (↑h)))]) hx hb dX12_worthBy_101 hl rfl (by decide) rfl (fun ls hl => ?_)
                refine lv_goto (tgt := 5) hx hb dX12_worthBy_104 (by decide) ?_
                exact ih5  (i + 1) z_8 (wtS (mi 1) (va_up V z_2.toNat (takeP (V z_2.toNat)))) (by omega) (by exact (pl_wt (n := mi 1) (N := 2000 + (i : Int)) (by omega) (pl_tk (n := mi 1) (N := 2000 + (i : Int)) (by omega) hV1 hV2 z_2.toNat).1 (pl_tk (n := mi 1) (N := 2000 + (i : Int)) (by omega) hV1 hV2 z_2.toNat).2).1) (by intro j hj; have h9 := (pl_wt (n := mi 1) (N := 2000 + (i : Int)) (by omega) (pl_tk (n := mi 1) (N := 2000 + (i : Int)) (by omega) hV1 hV2 z_2.toNat).1 (pl_tk (n := mi 1) (N := 2000 + (i : Int)) (by omega) hV1 hV2 z_2.toNat).2).2 j hj; rw [show (2000 : Int) + ((i + 1 : Nat) : Int) = 2000 + (i : Int) + 1 by omega]; exact h9) (by intro p; rw [wt_0, tk_0]; exact hsl p) (by have h9 := wOf_in (kdM kz z.toNat) (topP (V z_2.toNat)); omega) (by rw [hWB, show h - i = (h - (i + 1)) + 1 by omega, WBi_t (by omega) (by rw [hpd]; omega), joW_jo (wOf_in _ _).1 (WBi_ge _ _ _ _ _ _), hpd, ← ez_8]; rfl) (by omega) _ _ _ hP hD hS (lv_sub hl [4, 5, 6, 1, 0] rfl)
            · skip
              exact absurd c_6 (by omega)
        · skip
          refine lv_aload_n hx hb dX12_worthBy_27 rfl (lv_at hl 1 rfl) ?_
          have hPm := zp_perm hP (zblk (show List.Perm ([WMo o ma mi ml, WMp X ma V, Wa X 2 (ma 9) 5 kz, Wa X 2 (ma 23) 4 rf] : List va_W) ([WMo o ma mi ml, WMp X ma V] ++ [Wa X 2 (ma 9) 5 kz, Wa X 2 (ma 23) 4 rf]) from (zf1 _ 0 _ rfl).trans (((zf1 _ 0 _ rfl).trans ((List.Perm.refl _).cons _)).cons _)))
          have hDm := zd_perm hD (zblk (show List.Perm ([WMo o ma mi ml, WMp X ma V, Wa X 2 (ma 9) 5 kz, Wa X 2 (ma 23) 4 rf] : List va_W) ([WMo o ma mi ml, WMp X ma V] ++ [Wa X 2 (ma 9) 5 kz, Wa X 2 (ma 23) 4 rf]) from (zf1 _ 0 _ rfl).trans (((zf1 _ 0 _ rfl).trans ((List.Perm.refl _).cons _)).cons _)))
          refine z_callV (wr := zb [Wa X 2 (ma 9) 5 kz, Wa X 2 (ma 23) 4 rf]) (As := []) (rest := []) ⟨hx, hb, hml, hown, hts⟩ (c_X12_isAny l X o ma mi ml V (by omega) (by exact hV1)) (cwV 0 hts gX12_worthBy_X12_isAny rfl rfl rfl (by decide +kernel) ⟨Nat.le_of_ble_eq_true rfl, Nat.le_of_ble_eq_true rfl⟩) rfl rfl hl.1 dX12_worthBy_28 rfl rfl (Nat.le_of_ble_eq_true rfl) ⟨(Nat.le_of_ble_eq_true rfl), (Nat.le_of_ble_eq_true rfl)⟩ hS hA hK hPm hDm (fun _ H locs _ hP hD hS => ?_)
          have hP := zp_perm hP ((zblk (show List.Perm ([WMo o ma mi ml, WMp X ma V, Wa X 2 (ma 9) 5 kz, Wa X 2 (ma 23) 4 rf] : List va_W) ([WMo o ma mi ml, WMp X ma V] ++ [Wa X 2 (ma 9) 5 kz, Wa X 2 (ma 23) 4 rf]) from (zf1 _ 0 _ rfl).trans (((zf1 _ 0 _ rfl).trans ((List.Perm.refl _).cons _)).cons _)))).symm
          have hD := zd_perm hD ((zblk (show List.Perm ([WMo o ma mi ml, WMp X ma V, Wa X 2 (ma 9) 5 kz, Wa X 2 (ma 23) 4 rf] : List va_W) ([WMo o ma mi ml, WMp X ma V] ++ [Wa X 2 (ma 9) 5 kz, Wa X 2 (ma 23) 4 rf]) from (zf1 _ 0 _ rfl).trans (((zf1 _ 0 _ rfl).trans ((List.Perm.refl _).cons _)).cons _)))).symm
          have hP : va_P X.1 vwCl (zb [WMo o ma mi ml, WMp X ma V, Wa X 2 (ma 9) 5 kz, Wa X 2 (ma 23) 4 rf]) H := hP
          have hD : va_D A (zb [WMo o ma mi ml, WMp X ma V, Wa X 2 (ma 9) 5 kz, Wa X 2 (ma 23) 4 rf]) := hD
          refine W.eq (g2 := F0 m 31 ls [.int (iI (1 - bareZ V (mi 1).toNat))]) rfl ?_
          refine z_if_ne (tgt := 38) hx hb (by omega) dX12_worthBy_31 (by decide) (fun c_10 => ?_) (fun c_10 => ?_)
          · skip
            refine lv_iconst (v := iI 0) hx hb dX12_worthBy_38 (by decide) ?_
            refine lv_goto (tgt := 57) hx hb dX12_worthBy_39 (by decide) ?_
            refine lv_istore (lv' := [(6, .int (iI 0)), (5, .int (iI z_2)), (0, .ref o), (1, .int (iI z)), (2, .int (iI (↑h))), (3, .int (iI a)), (4, .int (iI (↑i)))]) hx hb dX12_worthBy_57 hl (by decide) rfl (fun ls hl => ?_)
            refine lv_iload hx hb dX12_worthBy_59 (lv_at hl 0 rfl) ?_
            refine z_if_ne (tgt := 66) hx hb (by omega) dX12_worthBy_61 (by decide) (fun c_11 => ?_) (fun c_11 => ?_)
            · skip
              exact absurd c_11 (by omega)
            · skip
              refine lv_iconst (v := iI (-1)) hx hb dX12_worthBy_64 (by decide) ?_
              exact z_iret hQ hx hb hr hlocks hS ⟨(Nat.le_of_ble_eq_true rfl), (Nat.le_of_ble_eq_true rfl)⟩ dX12_worthBy_65 V (congrArg (fun z => some (Value.int (iI z))) (show (WBi (kdM kz z.toNat) (mi 1) rf h 0 pv : Int) = (-1) by rw [hWB, show h - i = (h - (i + 1)) + 1 by omega]; first | (rw [WBi_x0 (by omega) (by omega)]; rfl) | (rw [WBi_x1 (by omega) (by rw [hpd]; omega)]; rfl))) (by (try dsimp only); exact hsl) hP hD
          · skip
            refine lv_iconst (v := iI 1) hx hb dX12_worthBy_34 (by decide) ?_
            refine lv_goto (tgt := 57) hx hb dX12_worthBy_35 (by decide) ?_
            refine lv_istore (lv' := [(6, .int (iI 1)), (5, .int (iI z_2)), (0, .ref o), (1, .int (iI z)), (2, .int (iI (↑h))), (3, .int (iI a)), (4, .int (iI (↑i)))]) hx hb dX12_worthBy_57 hl (by decide) rfl (fun ls hl => ?_)
            refine lv_iload hx hb dX12_worthBy_59 (lv_at hl 0 rfl) ?_
            refine z_if_ne (tgt := 66) hx hb (by omega) dX12_worthBy_61 (by decide) (fun c_12 => ?_) (fun c_12 => ?_)
            · skip
              refine lv_iload hx hb dX12_worthBy_66 (lv_at hl 1 rfl) ?_
              refine z_if_lt (tgt := 97) hx hb (by omega) dX12_worthBy_68 (by decide) (fun c_13 => ?_) (fun c_13 => ?_)
              · skip
                refine lv_aload_n hx hb dX12_worthBy_97 rfl (lv_at hl 2 rfl) ?_
                have hPm := zp_perm hP (zblk (show List.Perm ([WMo o ma mi ml, WMp X ma V, Wa X 2 (ma 9) 5 kz, Wa X 2 (ma 23) 4 rf] : List va_W) ([WMo o ma mi ml, WMp X ma V] ++ [Wa X 2 (ma 9) 5 kz, Wa X 2 (ma 23) 4 rf]) from (zf1 _ 0 _ rfl).trans (((zf1 _ 0 _ rfl).trans ((List.Perm.refl _).cons _)).cons _)))
                have hDm := zd_perm hD (zblk (show List.Perm ([WMo o ma mi ml, WMp X ma V, Wa X 2 (ma 9) 5 kz, Wa X 2 (ma 23) 4 rf] : List va_W) ([WMo o ma mi ml, WMp X ma V] ++ [Wa X 2 (ma 9) 5 kz, Wa X 2 (ma 23) 4 rf]) from (zf1 _ 0 _ rfl).trans (((zf1 _ 0 _ rfl).trans ((List.Perm.refl _).cons _)).cons _)))
                refine z_callV (wr := zb [Wa X 2 (ma 9) 5 kz, Wa X 2 (ma 23) 4 rf]) (As := []) (rest := []) ⟨hx, hb, hml, hown, hts⟩ (c_X12_goByAll l X o ma mi ml V (by omega) (by first | exact hV1 | exact (pl_tk (n := mi 1) (N := 2000 + (i : Int)) (by omega) hV1 hV2 _).1)) (cwV 0 hts gX12_worthBy_X12_goByAll rfl rfl rfl (by decide +kernel) ⟨Nat.le_of_ble_eq_true rfl, Nat.le_of_ble_eq_true rfl⟩) rfl rfl hl.1 dX12_worthBy_98 rfl rfl (Nat.le_of_ble_eq_true rfl) ⟨(Nat.le_of_ble_eq_true rfl), (Nat.le_of_ble_eq_true rfl)⟩ hS hA hK hPm hDm (fun _ H locs _ hP hD hS => ?_)
                have hP := zp_perm hP ((zblk (show List.Perm ([WMo o ma mi ml, WMp X ma (wtS (mi 1) V), Wa X 2 (ma 9) 5 kz, Wa X 2 (ma 23) 4 rf] : List va_W) ([WMo o ma mi ml, WMp X ma (wtS (mi 1) V)] ++ [Wa X 2 (ma 9) 5 kz, Wa X 2 (ma 23) 4 rf]) from (zf1 _ 0 _ rfl).trans (((zf1 _ 0 _ rfl).trans ((List.Perm.refl _).cons _)).cons _)))).symm
                have hD := zd_perm hD ((zblk (show List.Perm ([WMo o ma mi ml, WMp X ma (wtS (mi 1) V), Wa X 2 (ma 9) 5 kz, Wa X 2 (ma 23) 4 rf] : List va_W) ([WMo o ma mi ml, WMp X ma (wtS (mi 1) V)] ++ [Wa X 2 (ma 9) 5 kz, Wa X 2 (ma 23) 4 rf]) from (zf1 _ 0 _ rfl).trans (((zf1 _ 0 _ rfl).trans ((List.Perm.refl _).cons _)).cons _)))).symm
                have hP : va_P X.1 vwCl (zb [WMo o ma mi ml, WMp X ma (wtS (mi 1) V), Wa X 2 (ma 9) 5 kz, Wa X 2 (ma 23) 4 rf]) H := hP
                have hD : va_D A (zb [WMo o ma mi ml, WMp X ma (wtS (mi 1) V), Wa X 2 (ma 9) 5 kz, Wa X 2 (ma 23) 4 rf]) := hD
                refine W.eq (g2 := F0 m 101 ls []) rfl ?_
                refine z_iinc (k := 6) (lv' := [(4, .int (iI ((↑i) + 1))), (6, .int (iI 1)), (5, .int (iI z_2)), (0, .ref o), (1, .int (iI z)), (2, .int (iI (↑h))), (3, .int (iI a))]) hx hb dX12_worthBy_101 hl rfl (by decide) rfl (fun ls hl => ?_)
                refine lv_goto (tgt := 5) hx hb dX12_worthBy_104 (by decide) ?_
                exact ih5  (i + 1) a (wtS (mi 1) V) (by omega) (by exact (pl_wt (n := mi 1) (N := 2000 + (i : Int)) (by omega) hV1 hV2).1) (by intro j hj; have h9 := (pl_wt (n := mi 1) (N := 2000 + (i : Int)) (by omega) hV1 hV2).2 j hj; rw [show (2000 : Int) + ((i + 1 : Nat) : Int) = 2000 + (i : Int) + 1 by omega]; exact h9) (by intro p; rw [wt_0]; exact hsl p) (by omega) (by rw [hWB, show h - i = (h - (i + 1)) + 1 by omega, WBi_w (by omega) (by omega)]) (by omega) _ _ _ hP hD hS (lv_sub hl [3, 4, 5, 6, 0] rfl)
              · skip
                exact absurd c_13 (by omega)
            · skip
              exact absurd c_12 (by omega)
  exact L5 ((h - 0) + 1) 0 0 pv (by omega) (by exact hpv) (by intro j hj; have h9 := hpg j hj; rw [show (2000 : Int) + ((0 : Nat) : Int) = 2000 by omega]; exact h9) (by intro p; rfl) (by omega) (by exact joW_0.symm) (by omega) _ _ _ hP hD hS (lv_sub hl [2, 3, 4, 1, 0] rfl)
set_option maxHeartbeats 1000000 in
set_option maxRecDepth 100000 in
theorem c_X12_nextRow (l : Launch) (X : zX) (o : Nat) (ma : Nat → Nat) (mi : Nat → Int) (ml : Nat → Int) (rf : Nat → Int) (h : Nat) (hn : 0 ≤ mi 1 ∧ mi 1 ≤ 3) (hh4 : h ≤ 4) (hdg : ∀ j, j < h → 0 ≤ rf j ∧ rf j ≤ mi 1) : zM (S := (Nat → Int) × (Int)) l X yX12_nextRow wsX12_nextRow { frames := 0, cells := 0, slots := 0, locals := 0 } [.ref o, .int (iI (↑h))] (zb [WMo o ma mi ml, Wa X 2 (ma 23) 4 rf]) (fun u => (some (.int (iI u.2)))) (fun u => zb [WMo o ma mi ml, Wa X 2 (ma 23) 4 u.1]) (fun u => (u.2 = 0 ∧ evB (mi 1 + 1) rf h + 1 = (mi 1 + 1) ^ h) ∨ (u.2 = 1 ∧ evB (mi 1 + 1) u.1 h = evB (mi 1 + 1) rf h + 1 ∧ ∀ j, j < h → 0 ≤ u.1 j ∧ u.1 j ≤ mi 1)) := by
  refine z_enter (cc := cX12_nextRow) (maxL := 3) (ret := (some .boolean)) (by decide) rfl (Nat.le_of_ble_eq_true rfl) ?_
  intro p e s m below meth c A ls Q hQ hE hl hP hD
  obtain ⟨hx, hb, hr, hml, hown, hts, hlocks, hnm, hA, hK⟩ := hE
  have hown : s.vm.findClass RX12 = some m.cls := hown
  have hS : va_S A s.heap s.heap [] := va_S.rf
  have hl : lv_has ls 3 [(0, .ref o), (1, .int (iI (↑h)))] := hl
  have inX12 : ∀ w ∈ u_ws RX12 TX12 38, w ∈ wsX12_nextRow := by decide +kernel
  refine lv_iload_n hx hb dX12_nextRow_0 rfl (lv_at hl 1 rfl) ?_
  refine lv_iconst (v := iI 1) hx hb dX12_nextRow_1 (by decide) ?_
  refine z_isub hx hb dX12_nextRow_2 ?_
  refine z_topi (fun z_1 ez_1 => ?_)
  refine lv_istore_n (lv' := [(2, .int (iI z_1)), (0, .ref o), (1, .int (iI (↑h)))]) hx hb dX12_nextRow_3 rfl hl (by decide) rfl (fun ls hl => ?_)
  have L4 : ∀ (fu : Nat) (y : Int), (-1 ≤ y ∧ y < (h : Int)) → (∀ j : Nat, y < (j : Int) → j < h → rf j = mi 1) → (y + 1).toNat < fu → ∀ (H : Heap) (locs : List Loc) (ls : Array Slot), va_P X.1 vwCl (zb [WMo o ma mi ml, Wa X 2 (ma 23) 4 (zrT rf (y + 1).toNat h)]) H → va_D A (zb [WMo o ma mi ml, Wa X 2 (ma 23) 4 (zrT rf (y + 1).toNat h)]) → va_S A s.heap H locs → lv_has ls 3 [(0, .ref o), (1, .int (iI (↑h))), (2, .int (iI y))] → W p l e { frames := 0, cells := 0, slots := 0, locals := 0 } s m ([.ref o, .int (iI (↑h))] : List Value).toArray below meth c H locs 0 0 Q (F0 m 4 ls []) := by
    intro fu
    induction fu with
    | zero => intro y hy hall hm; exact absurd hm (Nat.not_lt_zero _)
    | succ fu ih4 =>
      intro y hy hall hm H locs ls hP hD hS hl
      have hze : 0 ≤ y → zrT rf (y + 1).toNat h y.toNat = rf y.toNat := fun q => if_neg (by omega)
      refine lv_iload_n hx hb dX12_nextRow_4 rfl (lv_at hl 2 rfl) ?_
      refine z_if_lt (tgt := 34) hx hb (by omega) dX12_nextRow_5 (by decide) (fun c_2 => ?_) (fun c_2 => ?_)
      · skip
        refine lv_iload_n hx hb dX12_nextRow_34 rfl (lv_at hl 2 rfl) ?_
        refine z_if_ge (tgt := 40) hx hb (by omega) dX12_nextRow_35 (by decide) (fun c_3 => ?_) (fun c_3 => ?_)
        · skip
          have hze3 := hze (by omega)
          have hdy3 := hdg y.toNat (by omega)
          refine lv_aload_n hx hb dX12_nextRow_40 rfl (lv_at hl 0 rfl) ?_
          refine va_get (ci := 12) (v := .ref (ma 23)) (C := RX12) (T := TX12) (N := 38) hx hb hts inX12 hown hK.1 hP 0 rfl rfl 23 (by decide) (hts (.fieldLink RX12 50 "SkimmedSonsModel" "row" "[I") (by decide +kernel)) (fun _ h9 => h9) rfl dX12_nextRow_41 ?_
          refine lv_iload_n hx hb dX12_nextRow_44 rfl (lv_at hl 2 rfl) ?_
          refine lv_dup2_11 hx hb dX12_nextRow_45 rfl rfl ?_
          refine z_iald hx hb hK.1 hP 1 rfl (by omega) dX12_nextRow_46 ?_
          refine W.eq (g2 := F0 m 47 ls [.int (iI ((zrT rf (y + 1).toNat h) y.toNat)), .int (iI y), .ref (ma 23)]) rfl ?_
          refine lv_iconst (v := iI 1) hx hb dX12_nextRow_47 (by decide) ?_
          refine z_iadd hx hb dX12_nextRow_48 ?_
          refine z_topi (fun z_4 ez_4 => ?_)
          refine z_iast hx hb hK.1 hP hD hS 1 rfl (by omega) dX12_nextRow_49 (fun H locs hP hD hS => ?_)
          have hP : va_P X.1 vwCl (zb [WMo o ma mi ml, Wa X 2 (ma 23) 4 (updZ (zrT rf (y + 1).toNat h) y.toNat z_4)]) H := hP
          have hD : va_D A (zb [WMo o ma mi ml, Wa X 2 (ma 23) 4 (updZ (zrT rf (y + 1).toNat h) y.toNat z_4)]) := hD
          have hnx := nx_suc (n := mi 1) (f := rf) (h := h) (i := y.toNat) (w := z_4) (by omega) (fun j h1 h2 => hall j (by omega) h2) hdg (by omega) (by omega)
          rw [show y.toNat + 1 = (y + 1).toNat by omega] at hnx
          refine lv_iconst (v := iI 1) hx hb dX12_nextRow_50 (by decide) ?_
          exact z_zret (ty := .boolean) hQ hx hb hr (by rfl) hlocks hS ⟨(Nat.le_of_ble_eq_true rfl), (Nat.le_of_ble_eq_true rfl)⟩ dX12_nextRow_51 ((updZ (zrT rf (y + 1).toNat h) y.toNat z_4), 1) rfl (by (try dsimp only); exact Or.inr ⟨rfl, hnx⟩) hP hD
        · skip
          refine lv_iconst (v := iI 0) hx hb dX12_nextRow_38 (by decide) ?_
          exact z_zret (ty := .boolean) hQ hx hb hr (by rfl) hlocks hS ⟨(Nat.le_of_ble_eq_true rfl), (Nat.le_of_ble_eq_true rfl)⟩ dX12_nextRow_39 ((zrT rf (y + 1).toNat h), 0) rfl (by (try dsimp only); refine Or.inl ⟨rfl, nx_all (fun j hj => hall j (by omega) hj)⟩) hP hD
      · skip
        refine lv_aload_n hx hb dX12_nextRow_8 rfl (lv_at hl 0 rfl) ?_
        refine va_get (ci := 12) (v := .ref (ma 23)) (C := RX12) (T := TX12) (N := 38) hx hb hts inX12 hown hK.1 hP 0 rfl rfl 23 (by decide) (hts (.fieldLink RX12 50 "SkimmedSonsModel" "row" "[I") (by decide +kernel)) (fun _ h9 => h9) rfl dX12_nextRow_9 ?_
        refine lv_iload_n hx hb dX12_nextRow_12 rfl (lv_at hl 2 rfl) ?_
        have hdy := hdg y.toNat (by omega)
        have hze2 := hze (by omega)
        refine z_iald hx hb hK.1 hP 1 rfl (by omega) dX12_nextRow_13 ?_
        refine W.eq (g2 := F0 m 14 ls [.int (iI ((zrT rf (y + 1).toNat h) y.toNat))]) rfl ?_
        refine lv_aload_n hx hb dX12_nextRow_14 rfl (lv_at hl 0 rfl) ?_
        refine va_get (ci := 12) (v := .int (iI (mi 1))) (C := RX12) (T := TX12) (N := 38) hx hb hts inX12 hown hK.1 hP 0 rfl rfl 1 (by decide) (hts (.fieldLink RX12 119 "SkimmedSonsModel" "pans" "I") (by decide +kernel)) (fun _ h9 => h9) rfl dX12_nextRow_15 ?_
        refine z_icmp_ne (tgt := 34) hx hb (by omega) dX12_nextRow_18 (by decide) (fun c_5 => ?_) (fun c_5 => ?_)
        · skip
          refine lv_iload_n hx hb dX12_nextRow_34 rfl (lv_at hl 2 rfl) ?_
          refine z_if_ge (tgt := 40) hx hb (by omega) dX12_nextRow_35 (by decide) (fun c_6 => ?_) (fun c_6 => ?_)
          · skip
            have hze3 := hze (by omega)
            have hdy3 := hdg y.toNat (by omega)
            refine lv_aload_n hx hb dX12_nextRow_40 rfl (lv_at hl 0 rfl) ?_
            refine va_get (ci := 12) (v := .ref (ma 23)) (C := RX12) (T := TX12) (N := 38) hx hb hts inX12 hown hK.1 hP 0 rfl rfl 23 (by decide) (hts (.fieldLink RX12 50 "SkimmedSonsModel" "row" "[I") (by decide +kernel)) (fun _ h9 => h9) rfl dX12_nextRow_41 ?_
            refine lv_iload_n hx hb dX12_nextRow_44 rfl (lv_at hl 2 rfl) ?_
            refine lv_dup2_11 hx hb dX12_nextRow_45 rfl rfl ?_
            refine z_iald hx hb hK.1 hP 1 rfl (by omega) dX12_nextRow_46 ?_
            refine W.eq (g2 := F0 m 47 ls [.int (iI ((zrT rf (y + 1).toNat h) y.toNat)), .int (iI y), .ref (ma 23)]) rfl ?_
            refine lv_iconst (v := iI 1) hx hb dX12_nextRow_47 (by decide) ?_
            refine z_iadd hx hb dX12_nextRow_48 ?_
            refine z_topi (fun z_7 ez_7 => ?_)
            refine z_iast hx hb hK.1 hP hD hS 1 rfl (by omega) dX12_nextRow_49 (fun H locs hP hD hS => ?_)
            have hP : va_P X.1 vwCl (zb [WMo o ma mi ml, Wa X 2 (ma 23) 4 (updZ (zrT rf (y + 1).toNat h) y.toNat z_7)]) H := hP
            have hD : va_D A (zb [WMo o ma mi ml, Wa X 2 (ma 23) 4 (updZ (zrT rf (y + 1).toNat h) y.toNat z_7)]) := hD
            have hnx := nx_suc (n := mi 1) (f := rf) (h := h) (i := y.toNat) (w := z_7) (by omega) (fun j h1 h2 => hall j (by omega) h2) hdg (by omega) (by omega)
            rw [show y.toNat + 1 = (y + 1).toNat by omega] at hnx
            refine lv_iconst (v := iI 1) hx hb dX12_nextRow_50 (by decide) ?_
            exact z_zret (ty := .boolean) hQ hx hb hr (by rfl) hlocks hS ⟨(Nat.le_of_ble_eq_true rfl), (Nat.le_of_ble_eq_true rfl)⟩ dX12_nextRow_51 ((updZ (zrT rf (y + 1).toNat h) y.toNat z_7), 1) rfl (by (try dsimp only); exact Or.inr ⟨rfl, hnx⟩) hP hD
          · skip
            refine lv_iconst (v := iI 0) hx hb dX12_nextRow_38 (by decide) ?_
            exact z_zret (ty := .boolean) hQ hx hb hr (by rfl) hlocks hS ⟨(Nat.le_of_ble_eq_true rfl), (Nat.le_of_ble_eq_true rfl)⟩ dX12_nextRow_39 ((zrT rf (y + 1).toNat h), 0) rfl (by (try dsimp only); refine Or.inl ⟨rfl, nx_all (fun j hj => hall j (by omega) hj)⟩) hP hD
        · skip
          refine lv_aload_n hx hb dX12_nextRow_21 rfl (lv_at hl 0 rfl) ?_
          refine va_get (ci := 12) (v := .ref (ma 23)) (C := RX12) (T := TX12) (N := 38) hx hb hts inX12 hown hK.1 hP 0 rfl rfl 23 (by decide) (hts (.fieldLink RX12 50 "SkimmedSonsModel" "row" "[I") (by decide +kernel)) (fun _ h9 => h9) rfl dX12_nextRow_22 ?_
          refine lv_iload_n hx hb dX12_nextRow_25 rfl (lv_at hl 2 rfl) ?_
          refine lv_iconst (v := iI 0) hx hb dX12_nextRow_26 (by decide) ?_
          refine z_iast hx hb hK.1 hP hD hS 1 rfl (by omega) dX12_nextRow_27 (fun H locs hP hD hS => ?_)
          have hP : va_P X.1 vwCl (zb [WMo o ma mi ml, Wa X 2 (ma 23) 4 (updZ (zrT rf (y + 1).toNat h) y.toNat 0)]) H := hP
          have hD : va_D A (zb [WMo o ma mi ml, Wa X 2 (ma 23) 4 (updZ (zrT rf (y + 1).toNat h) y.toNat 0)]) := hD
          refine z_iinc (k := 2) (lv' := [(2, .int (iI (y + (-1)))), (0, .ref o), (1, .int (iI (↑h)))]) hx hb dX12_nextRow_28 hl rfl (by decide) rfl (fun ls hl => ?_)
          refine lv_goto (tgt := 4) hx hb dX12_nextRow_31 (by decide) ?_
          have hw_8 : zb [WMo o ma mi ml, Wa X 2 (ma 23) 4 (updZ (zrT rf (y + 1).toNat h) y.toNat 0)] = zb [WMo o ma mi ml, Wa X 2 (ma 23) 4 (zrT rf ((y + (-1)) + 1).toNat h)] := by rw [show (y + 1).toNat = y.toNat + 1 by omega, zrT_st (by omega), show (y + -1 + 1).toNat = y.toNat by omega]
          rw [hw_8] at hP hD
          exact ih4  (y + (-1)) (by omega) (by intro j h1 h2; by_cases q : (j : Int) = y; (rw [show j = y.toNat by omega]; rw [← hze (by omega)]; omega); exact hall j (by omega) h2) (by omega) _ _ _ hP hD hS (lv_sub hl [1, 2, 0] rfl)
  have hw_9 : zb [WMo o ma mi ml, Wa X 2 (ma 23) 4 rf] = zb [WMo o ma mi ml, Wa X 2 (ma 23) 4 (zrT rf (z_1 + 1).toNat h)] := by rw [zrT_h (by omega)]
  rw [hw_9] at hP hD
  exact L4 (h + 1) z_1 (by omega) (by intro j h1 h2; omega) (by omega) _ _ _ hP hD hS (lv_sub hl [1, 2, 0] rfl)
set_option maxHeartbeats 1000000 in
set_option maxRecDepth 100000 in
theorem c_X12_planNow (l : Launch) (X : zX) (o : Nat) (ma : Nat → Nat) (mi : Nat → Int) (ml : Nat → Int) (pv : Nat → Nat → Int) (kz : Nat → Int) (sa : Nat → Int) (rf : Nat → Int) (br : Nat → Int) (z : Int) (h : Nat) (y : Int) (hn1 : 1 ≤ mi 1 ∧ mi 1 ≤ 3) (hzk : 0 ≤ z ∧ z < 5) (hkz : 0 ≤ kz z.toNat ∧ kz z.toNat ≤ 4) (hpv : PanS pv) (hpg : ∀ j, j < (mi 1).toNat → PanG 2000 (pv j)) (hh1 : 1 ≤ h ∧ h ≤ 4) (hy0 : y = 0 ∨ (10 ≤ y ∧ y ≤ 13)) : zM (S := (Nat → Int) × (Nat → Int)) l X yX12_planNow wsX12_planNow { frames := 4, cells := 0, slots := 0, locals := 90 } [.ref o, .int (iI z), .int (iI (↑h)), .int (iI y)] (zb [WMo o ma mi ml, WMp X ma pv, Wa X 2 (ma 9) 5 kz, Wa X 2 (ma 22) 105 sa, Wa X 2 (ma 23) 4 rf, Wa X 2 (ma 24) 4 br]) (fun u => (some (.int (iI (if (y : Int) = 0 then (PL (kdM kz z.toNat) (mi 1) h pv).1 else ((PL (kdM kz z.toNat) (mi 1) h pv).2 / 4 ^ ((y : Int) - 10).toNat) % 4 - 1))))) (fun u => zb [WMo o ma mi ml, WMp X ma pv, Wa X 2 (ma 9) 5 kz, Wa X 2 (ma 22) 105 (savF 15 pv sa), Wa X 2 (ma 23) 4 u.1, Wa X 2 (ma 24) 4 u.2]) (fun u => True) := by
  refine z_enter (cc := cX12_planNow) (maxL := 8) (ret := (some .int)) (by decide) rfl (Nat.le_of_ble_eq_true rfl) ?_
  intro p e s m below meth c A ls Q hQ hE hl hP hD
  obtain ⟨hx, hb, hr, hml, hown, hts, hlocks, hnm, hA, hK⟩ := hE
  have hown : s.vm.findClass RX12 = some m.cls := hown
  have hS : va_S A s.heap s.heap [] := va_S.rf
  have hl : lv_has ls 8 [(0, .ref o), (1, .int (iI z)), (2, .int (iI (↑h))), (3, .int (iI y))] := hl
  have inX12 : ∀ w ∈ u_ws RX12 TX12 38, w ∈ wsX12_planNow := by decide +kernel
  have hn : 0 ≤ mi 1 ∧ mi 1 ≤ 3 := by omega
  obtain ⟨E9, hE1, hE2⟩ := plan_eq (kdM kz z.toNat) hn1 h pv
  refine lv_iconst (v := iI 0) hx hb dX12_planNow_0 (by decide) ?_
  refine lv_istore (lv' := [(4, .int (iI 0)), (0, .ref o), (1, .int (iI z)), (2, .int (iI (↑h))), (3, .int (iI y))]) hx hb dX12_planNow_1 hl (by decide) rfl (fun ls hl => ?_)
  refine lv_iload hx hb dX12_planNow_3 (lv_at hl 0 rfl) ?_
  refine lv_iconst (v := iI 4) hx hb dX12_planNow_5 (by decide) ?_
  refine z_icmp_ge (tgt := 31) hx hb (by omega) dX12_planNow_6 (by decide) (fun c_1 => ?_) (fun c_1 => ?_)
  · skip
    exact absurd c_1 (by omega)
  · skip
    refine lv_aload_n hx hb dX12_planNow_9 rfl (lv_at hl 1 rfl) ?_
    refine va_get (ci := 12) (v := .ref (ma 23)) (C := RX12) (T := TX12) (N := 38) hx hb hts inX12 hown hK.1 hP 0 rfl rfl 23 (by decide) (hts (.fieldLink RX12 50 "SkimmedSonsModel" "row" "[I") (by decide +kernel)) (fun _ h9 => h9) rfl dX12_planNow_10 ?_
    refine lv_iload hx hb dX12_planNow_13 (lv_at hl 0 rfl) ?_
    refine lv_iconst (v := iI 0) hx hb dX12_planNow_15 (by decide) ?_
    refine z_iast hx hb hK.1 hP hD hS 9 rfl (by omega) dX12_planNow_16 (fun H locs hP hD hS => ?_)
    have hP : va_P X.1 vwCl (zb [WMo o ma mi ml, WMp X ma pv, Wa X 2 (ma 9) 5 kz, Wa X 2 (ma 22) 105 sa, Wa X 2 (ma 23) 4 (updZ rf 0 0), Wa X 2 (ma 24) 4 br]) H := hP
    have hD : va_D A (zb [WMo o ma mi ml, WMp X ma pv, Wa X 2 (ma 9) 5 kz, Wa X 2 (ma 22) 105 sa, Wa X 2 (ma 23) 4 (updZ rf 0 0), Wa X 2 (ma 24) 4 br]) := hD
    refine lv_aload_n hx hb dX12_planNow_17 rfl (lv_at hl 1 rfl) ?_
    refine va_get (ci := 12) (v := .ref (ma 24)) (C := RX12) (T := TX12) (N := 38) hx hb hts inX12 hown hK.1 hP 0 rfl rfl 24 (by decide) (hts (.fieldLink RX12 53 "SkimmedSonsModel" "bestRow" "[I") (by decide +kernel)) (fun _ h9 => h9) rfl dX12_planNow_18 ?_
    refine lv_iload hx hb dX12_planNow_21 (lv_at hl 0 rfl) ?_
    refine lv_iconst (v := iI 0) hx hb dX12_planNow_23 (by decide) ?_
    refine z_iast hx hb hK.1 hP hD hS 10 rfl (by omega) dX12_planNow_24 (fun H locs hP hD hS => ?_)
    have hP : va_P X.1 vwCl (zb [WMo o ma mi ml, WMp X ma pv, Wa X 2 (ma 9) 5 kz, Wa X 2 (ma 22) 105 sa, Wa X 2 (ma 23) 4 (updZ rf 0 0), Wa X 2 (ma 24) 4 (updZ br 0 0)]) H := hP
    have hD : va_D A (zb [WMo o ma mi ml, WMp X ma pv, Wa X 2 (ma 9) 5 kz, Wa X 2 (ma 22) 105 sa, Wa X 2 (ma 23) 4 (updZ rf 0 0), Wa X 2 (ma 24) 4 (updZ br 0 0)]) := hD
    refine z_iinc (k := 0) (lv' := [(4, .int (iI 1)), (0, .ref o), (1, .int (iI z)), (2, .int (iI (↑h))), (3, .int (iI y))]) hx hb dX12_planNow_25 hl rfl (by decide) rfl (fun ls hl => ?_)
    refine lv_goto (tgt := 3) hx hb dX12_planNow_28 (by decide) ?_
    refine lv_iload hx hb dX12_planNow_3 (lv_at hl 0 rfl) ?_
    refine lv_iconst (v := iI 4) hx hb dX12_planNow_5 (by decide) ?_
    refine z_icmp_ge (tgt := 31) hx hb (by omega) dX12_planNow_6 (by decide) (fun c_2 => ?_) (fun c_2 => ?_)
    · skip
      exact absurd c_2 (by omega)
    · skip
      refine lv_aload_n hx hb dX12_planNow_9 rfl (lv_at hl 1 rfl) ?_
      refine va_get (ci := 12) (v := .ref (ma 23)) (C := RX12) (T := TX12) (N := 38) hx hb hts inX12 hown hK.1 hP 0 rfl rfl 23 (by decide) (hts (.fieldLink RX12 50 "SkimmedSonsModel" "row" "[I") (by decide +kernel)) (fun _ h9 => h9) rfl dX12_planNow_10 ?_
      refine lv_iload hx hb dX12_planNow_13 (lv_at hl 0 rfl) ?_
      refine lv_iconst (v := iI 0) hx hb dX12_planNow_15 (by decide) ?_
      refine z_iast hx hb hK.1 hP hD hS 9 rfl (by omega) dX12_planNow_16 (fun H locs hP hD hS => ?_)
      have hP : va_P X.1 vwCl (zb [WMo o ma mi ml, WMp X ma pv, Wa X 2 (ma 9) 5 kz, Wa X 2 (ma 22) 105 sa, Wa X 2 (ma 23) 4 (updZ (updZ rf 0 0) 1 0), Wa X 2 (ma 24) 4 (updZ br 0 0)]) H := hP
      have hD : va_D A (zb [WMo o ma mi ml, WMp X ma pv, Wa X 2 (ma 9) 5 kz, Wa X 2 (ma 22) 105 sa, Wa X 2 (ma 23) 4 (updZ (updZ rf 0 0) 1 0), Wa X 2 (ma 24) 4 (updZ br 0 0)]) := hD
      refine lv_aload_n hx hb dX12_planNow_17 rfl (lv_at hl 1 rfl) ?_
      refine va_get (ci := 12) (v := .ref (ma 24)) (C := RX12) (T := TX12) (N := 38) hx hb hts inX12 hown hK.1 hP 0 rfl rfl 24 (by decide) (hts (.fieldLink RX12 53 "SkimmedSonsModel" "bestRow" "[I") (by decide +kernel)) (fun _ h9 => h9) rfl dX12_planNow_18 ?_
      refine lv_iload hx hb dX12_planNow_21 (lv_at hl 0 rfl) ?_
      refine lv_iconst (v := iI 0) hx hb dX12_planNow_23 (by decide) ?_
      refine z_iast hx hb hK.1 hP hD hS 10 rfl (by omega) dX12_planNow_24 (fun H locs hP hD hS => ?_)
      have hP : va_P X.1 vwCl (zb [WMo o ma mi ml, WMp X ma pv, Wa X 2 (ma 9) 5 kz, Wa X 2 (ma 22) 105 sa, Wa X 2 (ma 23) 4 (updZ (updZ rf 0 0) 1 0), Wa X 2 (ma 24) 4 (updZ (updZ br 0 0) 1 0)]) H := hP
      have hD : va_D A (zb [WMo o ma mi ml, WMp X ma pv, Wa X 2 (ma 9) 5 kz, Wa X 2 (ma 22) 105 sa, Wa X 2 (ma 23) 4 (updZ (updZ rf 0 0) 1 0), Wa X 2 (ma 24) 4 (updZ (updZ br 0 0) 1 0)]) := hD
      refine z_iinc (k := 0) (lv' := [(4, .int (iI 2)), (0, .ref o), (1, .int (iI z)), (2, .int (iI (↑h))), (3, .int (iI y))]) hx hb dX12_planNow_25 hl rfl (by decide) rfl (fun ls hl => ?_)
      refine lv_goto (tgt := 3) hx hb dX12_planNow_28 (by decide) ?_
      refine lv_iload hx hb dX12_planNow_3 (lv_at hl 0 rfl) ?_
      refine lv_iconst (v := iI 4) hx hb dX12_planNow_5 (by decide) ?_
      refine z_icmp_ge (tgt := 31) hx hb (by omega) dX12_planNow_6 (by decide) (fun c_3 => ?_) (fun c_3 => ?_)
      · skip
        exact absurd c_3 (by omega)
      · skip
        refine lv_aload_n hx hb dX12_planNow_9 rfl (lv_at hl 1 rfl) ?_
        refine va_get (ci := 12) (v := .ref (ma 23)) (C := RX12) (T := TX12) (N := 38) hx hb hts inX12 hown hK.1 hP 0 rfl rfl 23 (by decide) (hts (.fieldLink RX12 50 "SkimmedSonsModel" "row" "[I") (by decide +kernel)) (fun _ h9 => h9) rfl dX12_planNow_10 ?_
        refine lv_iload hx hb dX12_planNow_13 (lv_at hl 0 rfl) ?_
        refine lv_iconst (v := iI 0) hx hb dX12_planNow_15 (by decide) ?_
        refine z_iast hx hb hK.1 hP hD hS 9 rfl (by omega) dX12_planNow_16 (fun H locs hP hD hS => ?_)
        have hP : va_P X.1 vwCl (zb [WMo o ma mi ml, WMp X ma pv, Wa X 2 (ma 9) 5 kz, Wa X 2 (ma 22) 105 sa, Wa X 2 (ma 23) 4 (updZ (updZ (updZ rf 0 0) 1 0) 2 0), Wa X 2 (ma 24) 4 (updZ (updZ br 0 0) 1 0)]) H := hP
        have hD : va_D A (zb [WMo o ma mi ml, WMp X ma pv, Wa X 2 (ma 9) 5 kz, Wa X 2 (ma 22) 105 sa, Wa X 2 (ma 23) 4 (updZ (updZ (updZ rf 0 0) 1 0) 2 0), Wa X 2 (ma 24) 4 (updZ (updZ br 0 0) 1 0)]) := hD
        refine lv_aload_n hx hb dX12_planNow_17 rfl (lv_at hl 1 rfl) ?_
        refine va_get (ci := 12) (v := .ref (ma 24)) (C := RX12) (T := TX12) (N := 38) hx hb hts inX12 hown hK.1 hP 0 rfl rfl 24 (by decide) (hts (.fieldLink RX12 53 "SkimmedSonsModel" "bestRow" "[I") (by decide +kernel)) (fun _ h9 => h9) rfl dX12_planNow_18 ?_
        refine lv_iload hx hb dX12_planNow_21 (lv_at hl 0 rfl) ?_
        refine lv_iconst (v := iI 0) hx hb dX12_planNow_23 (by decide) ?_
        refine z_iast hx hb hK.1 hP hD hS 10 rfl (by omega) dX12_planNow_24 (fun H locs hP hD hS => ?_)
        have hP : va_P X.1 vwCl (zb [WMo o ma mi ml, WMp X ma pv, Wa X 2 (ma 9) 5 kz, Wa X 2 (ma 22) 105 sa, Wa X 2 (ma 23) 4 (updZ (updZ (updZ rf 0 0) 1 0) 2 0), Wa X 2 (ma 24) 4 (updZ (updZ (updZ br 0 0) 1 0) 2 0)]) H := hP
        have hD : va_D A (zb [WMo o ma mi ml, WMp X ma pv, Wa X 2 (ma 9) 5 kz, Wa X 2 (ma 22) 105 sa, Wa X 2 (ma 23) 4 (updZ (updZ (updZ rf 0 0) 1 0) 2 0), Wa X 2 (ma 24) 4 (updZ (updZ (updZ br 0 0) 1 0) 2 0)]) := hD
        refine z_iinc (k := 0) (lv' := [(4, .int (iI 3)), (0, .ref o), (1, .int (iI z)), (2, .int (iI (↑h))), (3, .int (iI y))]) hx hb dX12_planNow_25 hl rfl (by decide) rfl (fun ls hl => ?_)
        refine lv_goto (tgt := 3) hx hb dX12_planNow_28 (by decide) ?_
        refine lv_iload hx hb dX12_planNow_3 (lv_at hl 0 rfl) ?_
        refine lv_iconst (v := iI 4) hx hb dX12_planNow_5 (by decide) ?_
        refine z_icmp_ge (tgt := 31) hx hb (by omega) dX12_planNow_6 (by decide) (fun c_4 => ?_) (fun c_4 => ?_)
        · skip
          exact absurd c_4 (by omega)
        · skip
          refine lv_aload_n hx hb dX12_planNow_9 rfl (lv_at hl 1 rfl) ?_
          refine va_get (ci := 12) (v := .ref (ma 23)) (C := RX12) (T := TX12) (N := 38) hx hb hts inX12 hown hK.1 hP 0 rfl rfl 23 (by decide) (hts (.fieldLink RX12 50 "SkimmedSonsModel" "row" "[I") (by decide +kernel)) (fun _ h9 => h9) rfl dX12_planNow_10 ?_
          refine lv_iload hx hb dX12_planNow_13 (lv_at hl 0 rfl) ?_
          refine lv_iconst (v := iI 0) hx hb dX12_planNow_15 (by decide) ?_
          refine z_iast hx hb hK.1 hP hD hS 9 rfl (by omega) dX12_planNow_16 (fun H locs hP hD hS => ?_)
          have hP : va_P X.1 vwCl (zb [WMo o ma mi ml, WMp X ma pv, Wa X 2 (ma 9) 5 kz, Wa X 2 (ma 22) 105 sa, Wa X 2 (ma 23) 4 (updZ (updZ (updZ (updZ rf 0 0) 1 0) 2 0) 3 0), Wa X 2 (ma 24) 4 (updZ (updZ (updZ br 0 0) 1 0) 2 0)]) H := hP
          have hD : va_D A (zb [WMo o ma mi ml, WMp X ma pv, Wa X 2 (ma 9) 5 kz, Wa X 2 (ma 22) 105 sa, Wa X 2 (ma 23) 4 (updZ (updZ (updZ (updZ rf 0 0) 1 0) 2 0) 3 0), Wa X 2 (ma 24) 4 (updZ (updZ (updZ br 0 0) 1 0) 2 0)]) := hD
          refine lv_aload_n hx hb dX12_planNow_17 rfl (lv_at hl 1 rfl) ?_
          refine va_get (ci := 12) (v := .ref (ma 24)) (C := RX12) (T := TX12) (N := 38) hx hb hts inX12 hown hK.1 hP 0 rfl rfl 24 (by decide) (hts (.fieldLink RX12 53 "SkimmedSonsModel" "bestRow" "[I") (by decide +kernel)) (fun _ h9 => h9) rfl dX12_planNow_18 ?_
          refine lv_iload hx hb dX12_planNow_21 (lv_at hl 0 rfl) ?_
          refine lv_iconst (v := iI 0) hx hb dX12_planNow_23 (by decide) ?_
          refine z_iast hx hb hK.1 hP hD hS 10 rfl (by omega) dX12_planNow_24 (fun H locs hP hD hS => ?_)
          have hP : va_P X.1 vwCl (zb [WMo o ma mi ml, WMp X ma pv, Wa X 2 (ma 9) 5 kz, Wa X 2 (ma 22) 105 sa, Wa X 2 (ma 23) 4 (updZ (updZ (updZ (updZ rf 0 0) 1 0) 2 0) 3 0), Wa X 2 (ma 24) 4 (updZ (updZ (updZ (updZ br 0 0) 1 0) 2 0) 3 0)]) H := hP
          have hD : va_D A (zb [WMo o ma mi ml, WMp X ma pv, Wa X 2 (ma 9) 5 kz, Wa X 2 (ma 22) 105 sa, Wa X 2 (ma 23) 4 (updZ (updZ (updZ (updZ rf 0 0) 1 0) 2 0) 3 0), Wa X 2 (ma 24) 4 (updZ (updZ (updZ (updZ br 0 0) 1 0) 2 0) 3 0)]) := hD
          refine z_iinc (k := 0) (lv' := [(4, .int (iI 4)), (0, .ref o), (1, .int (iI z)), (2, .int (iI (↑h))), (3, .int (iI y))]) hx hb dX12_planNow_25 hl rfl (by decide) rfl (fun ls hl => ?_)
          refine lv_goto (tgt := 3) hx hb dX12_planNow_28 (by decide) ?_
          refine lv_iload hx hb dX12_planNow_3 (lv_at hl 0 rfl) ?_
          refine lv_iconst (v := iI 4) hx hb dX12_planNow_5 (by decide) ?_
          refine z_icmp_ge (tgt := 31) hx hb (by omega) dX12_planNow_6 (by decide) (fun c_5 => ?_) (fun c_5 => ?_)
          · skip
            refine lv_aload_n hx hb dX12_planNow_31 rfl (lv_at hl 1 rfl) ?_
            refine lv_iconst (v := iI 1) hx hb dX12_planNow_32 (by decide) ?_
            have hPm := zp_perm hP (zblk (show List.Perm ([WMo o ma mi ml, WMp X ma pv, Wa X 2 (ma 9) 5 kz, Wa X 2 (ma 22) 105 sa, Wa X 2 (ma 23) 4 (updZ (updZ (updZ (updZ rf 0 0) 1 0) 2 0) 3 0), Wa X 2 (ma 24) 4 (updZ (updZ (updZ (updZ br 0 0) 1 0) 2 0) 3 0)] : List va_W) ([WMo o ma mi ml, WMp X ma pv, Wa X 2 (ma 22) 105 sa] ++ [Wa X 2 (ma 9) 5 kz, Wa X 2 (ma 23) 4 (updZ (updZ (updZ (updZ rf 0 0) 1 0) 2 0) 3 0), Wa X 2 (ma 24) 4 (updZ (updZ (updZ (updZ br 0 0) 1 0) 2 0) 3 0)]) from (zf1 _ 0 _ rfl).trans (((zf1 _ 0 _ rfl).trans (((zf1 _ 1 _ rfl).trans ((List.Perm.refl _).cons _)).cons _)).cons _)))
            have hDm := zd_perm hD (zblk (show List.Perm ([WMo o ma mi ml, WMp X ma pv, Wa X 2 (ma 9) 5 kz, Wa X 2 (ma 22) 105 sa, Wa X 2 (ma 23) 4 (updZ (updZ (updZ (updZ rf 0 0) 1 0) 2 0) 3 0), Wa X 2 (ma 24) 4 (updZ (updZ (updZ (updZ br 0 0) 1 0) 2 0) 3 0)] : List va_W) ([WMo o ma mi ml, WMp X ma pv, Wa X 2 (ma 22) 105 sa] ++ [Wa X 2 (ma 9) 5 kz, Wa X 2 (ma 23) 4 (updZ (updZ (updZ (updZ rf 0 0) 1 0) 2 0) 3 0), Wa X 2 (ma 24) 4 (updZ (updZ (updZ (updZ br 0 0) 1 0) 2 0) 3 0)]) from (zf1 _ 0 _ rfl).trans (((zf1 _ 0 _ rfl).trans (((zf1 _ 1 _ rfl).trans ((List.Perm.refl _).cons _)).cons _)).cons _)))
            refine z_callV (wr := zb [Wa X 2 (ma 9) 5 kz, Wa X 2 (ma 23) 4 (updZ (updZ (updZ (updZ rf 0 0) 1 0) 2 0) 3 0), Wa X 2 (ma 24) 4 (updZ (updZ (updZ (updZ br 0 0) 1 0) 2 0) 3 0)]) (As := [.int (iI 1)]) (rest := []) ⟨hx, hb, hml, hown, hts⟩ (c_X12_save_1 l X o ma mi ml pv sa ) (cwV 1 hts gX12_planNow_X12_save rfl rfl rfl (by decide +kernel) ⟨Nat.le_of_ble_eq_true rfl, Nat.le_of_ble_eq_true rfl⟩) rfl rfl hl.1 dX12_planNow_33 rfl rfl (Nat.le_of_ble_eq_true rfl) ⟨(Nat.le_of_ble_eq_true rfl), (Nat.le_of_ble_eq_true rfl)⟩ hS hA hK hPm hDm (fun _ H locs _ hP hD hS => ?_)
            have hP := zp_perm hP ((zblk (show List.Perm ([WMo o ma mi ml, WMp X ma pv, Wa X 2 (ma 9) 5 kz, Wa X 2 (ma 22) 105 (savF 15 pv sa), Wa X 2 (ma 23) 4 (updZ (updZ (updZ (updZ rf 0 0) 1 0) 2 0) 3 0), Wa X 2 (ma 24) 4 (updZ (updZ (updZ (updZ br 0 0) 1 0) 2 0) 3 0)] : List va_W) ([WMo o ma mi ml, WMp X ma pv, Wa X 2 (ma 22) 105 (savF 15 pv sa)] ++ [Wa X 2 (ma 9) 5 kz, Wa X 2 (ma 23) 4 (updZ (updZ (updZ (updZ rf 0 0) 1 0) 2 0) 3 0), Wa X 2 (ma 24) 4 (updZ (updZ (updZ (updZ br 0 0) 1 0) 2 0) 3 0)]) from (zf1 _ 0 _ rfl).trans (((zf1 _ 0 _ rfl).trans (((zf1 _ 1 _ rfl).trans ((List.Perm.refl _).cons _)).cons _)).cons _)))).symm
            have hD := zd_perm hD ((zblk (show List.Perm ([WMo o ma mi ml, WMp X ma pv, Wa X 2 (ma 9) 5 kz, Wa X 2 (ma 22) 105 (savF 15 pv sa), Wa X 2 (ma 23) 4 (updZ (updZ (updZ (updZ rf 0 0) 1 0) 2 0) 3 0), Wa X 2 (ma 24) 4 (updZ (updZ (updZ (updZ br 0 0) 1 0) 2 0) 3 0)] : List va_W) ([WMo o ma mi ml, WMp X ma pv, Wa X 2 (ma 22) 105 (savF 15 pv sa)] ++ [Wa X 2 (ma 9) 5 kz, Wa X 2 (ma 23) 4 (updZ (updZ (updZ (updZ rf 0 0) 1 0) 2 0) 3 0), Wa X 2 (ma 24) 4 (updZ (updZ (updZ (updZ br 0 0) 1 0) 2 0) 3 0)]) from (zf1 _ 0 _ rfl).trans (((zf1 _ 0 _ rfl).trans (((zf1 _ 1 _ rfl).trans ((List.Perm.refl _).cons _)).cons _)).cons _)))).symm
            have hP : va_P X.1 vwCl (zb [WMo o ma mi ml, WMp X ma pv, Wa X 2 (ma 9) 5 kz, Wa X 2 (ma 22) 105 (savF 15 pv sa), Wa X 2 (ma 23) 4 (updZ (updZ (updZ (updZ rf 0 0) 1 0) 2 0) 3 0), Wa X 2 (ma 24) 4 (updZ (updZ (updZ (updZ br 0 0) 1 0) 2 0) 3 0)]) H := hP
            have hD : va_D A (zb [WMo o ma mi ml, WMp X ma pv, Wa X 2 (ma 9) 5 kz, Wa X 2 (ma 22) 105 (savF 15 pv sa), Wa X 2 (ma 23) 4 (updZ (updZ (updZ (updZ rf 0 0) 1 0) 2 0) 3 0), Wa X 2 (ma 24) 4 (updZ (updZ (updZ (updZ br 0 0) 1 0) 2 0) 3 0)]) := hD
            refine W.eq (g2 := F0 m 36 ls []) rfl ?_
            refine lv_iconst (v := iI (-1)) hx hb dX12_planNow_36 (by decide) ?_
            refine lv_istore (lv' := [(4, .int (iI (-1))), (0, .ref o), (1, .int (iI z)), (2, .int (iI (↑h))), (3, .int (iI y))]) hx hb dX12_planNow_37 hl (by decide) rfl (fun ls hl => ?_)
            refine lv_iconst (v := iI 1) hx hb dX12_planNow_39 (by decide) ?_
            refine lv_istore (lv' := [(5, .int (iI 1)), (4, .int (iI (-1))), (0, .ref o), (1, .int (iI z)), (2, .int (iI (↑h))), (3, .int (iI y))]) hx hb dX12_planNow_40 hl (by decide) rfl (fun ls hl => ?_)
            have L42 : ∀ (fu : Nat) (e0 : Nat) (bb : Int) (mo : Int) (rf : Nat → Int) (br : Nat → Int), ((mo = 1 ∧ evB (mi 1 + 1) rf h = (e0 : Int) ∧ ∀ j, j < h → 0 ≤ rf j ∧ rf j ≤ mi 1) ∨ (mo = 0 ∧ e0 = ((mi 1).toNat + 1) ^ h)) → (bb = (bsE (FFp (kdM kz z.toNat) (mi 1) h pv) e0).1) → (∀ j, j < 4 → br j = rwR ((mi 1).toNat + 1) h (bsE (FFp (kdM kz z.toNat) (mi 1) h pv) e0).2 j) → (((mi 1).toNat + 1) ^ h - e0) < fu → ∀ (H : Heap) (locs : List Loc) (ls : Array Slot), va_P X.1 vwCl (zb [WMo o ma mi ml, WMp X ma pv, Wa X 2 (ma 9) 5 kz, Wa X 2 (ma 22) 105 (savF 15 pv sa), Wa X 2 (ma 23) 4 rf, Wa X 2 (ma 24) 4 br]) H → va_D A (zb [WMo o ma mi ml, WMp X ma pv, Wa X 2 (ma 9) 5 kz, Wa X 2 (ma 22) 105 (savF 15 pv sa), Wa X 2 (ma 23) 4 rf, Wa X 2 (ma 24) 4 br]) → va_S A s.heap H locs → lv_has ls 8 [(0, .ref o), (1, .int (iI z)), (2, .int (iI (↑h))), (3, .int (iI y)), (4, .int (iI bb)), (5, .int (iI mo))] → W p l e { frames := 4, cells := 0, slots := 0, locals := 90 } s m ([.ref o, .int (iI z), .int (iI (↑h)), .int (iI y)] : List Value).toArray below meth c H locs 0 0 Q (F0 m 42 ls []) := by
              intro fu
              induction fu with
              | zero => intro e0 bb mo rf br hmo hbb hbr hm; exact absurd hm (Nat.not_lt_zero _)
              | succ fu ih42 =>
                intro e0 bb mo rf br hmo hbb hbr hm H locs ls hP hD hS hl
                have hbg := bsE_ge (FFp (kdM kz z.toNat) (mi 1) h pv) e0
                have hbl := bsE_le (F := (FFp (kdM kz z.toNat) (mi 1) h pv)) (B := 64) (by omega) (fun e => by have := WBi_le (kdM kz z.toNat) (mi 1) (rwR ((mi 1).toNat + 1) h e) h 0 pv; unfold FFp; omega) e0
                refine lv_iload hx hb dX12_planNow_42 (lv_at hl 5 rfl) ?_
                refine z_if_eq (tgt := 110) hx hb (by omega) dX12_planNow_44 (by decide) (fun c_6 => ?_) (fun c_6 => ?_)
                · skip
                  have hee : e0 = ((mi 1).toNat + 1) ^ h := by rcases hmo with q | q; omega; exact q.2
                  rw [hee, hE1] at hbb hbr
                  refine lv_iload_n hx hb dX12_planNow_110 rfl (lv_at hl 3 rfl) ?_
                  refine z_if_ne (tgt := 119) hx hb (by omega) dX12_planNow_111 (by decide) (fun c_7 => ?_) (fun c_7 => ?_)
                  · skip
                    refine lv_aload_n hx hb dX12_planNow_119 rfl (lv_at hl 0 rfl) ?_
                    refine va_get (ci := 12) (v := .ref (ma 24)) (C := RX12) (T := TX12) (N := 38) hx hb hts inX12 hown hK.1 hP 0 rfl rfl 24 (by decide) (hts (.fieldLink RX12 53 "SkimmedSonsModel" "bestRow" "[I") (by decide +kernel)) (fun _ h9 => h9) rfl dX12_planNow_120 ?_
                    refine lv_iload_n hx hb dX12_planNow_123 rfl (lv_at hl 3 rfl) ?_
                    refine lv_bipush (v := iI 10) hx hb dX12_planNow_124 (by decide) ?_
                    refine z_isub hx hb dX12_planNow_126 ?_
                    refine z_iald hx hb hK.1 hP 10 rfl (by omega) dX12_planNow_127 ?_
                    refine W.eq (g2 := F0 m 128 ls [.int (iI (br ((y - 10).toNat)))]) rfl ?_
                    refine lv_iconst (v := iI 1) hx hb dX12_planNow_128 (by decide) ?_
                    refine z_isub hx hb dX12_planNow_129 ?_
                    exact z_iret hQ hx hb hr hlocks hS ⟨(Nat.le_of_ble_eq_true rfl), (Nat.le_of_ble_eq_true rfl)⟩ dX12_planNow_130 (rf, br) (congrArg (fun z => some (Value.int (iI z))) (show (if (y : Int) = 0 then (PL (kdM kz z.toNat) (mi 1) h pv).1 else ((PL (kdM kz z.toNat) (mi 1) h pv).2 / 4 ^ ((y : Int) - 10).toNat) % 4 - 1 : Int) = (br ((y - 10).toNat)) - 1 by first | (rw [if_pos (by omega)]; exact hbb.symm) | (rw [if_neg (by omega), hbr _ (by omega)]; show _ = rwR _ _ E9 _ - 1; rw [hE2.2]))) trivial hP hD
                  · skip
                    refine lv_iload hx hb dX12_planNow_114 (lv_at hl 4 rfl) ?_
                    refine lv_goto (tgt := 130) hx hb dX12_planNow_116 (by decide) ?_
                    exact z_iret hQ hx hb hr hlocks hS ⟨(Nat.le_of_ble_eq_true rfl), (Nat.le_of_ble_eq_true rfl)⟩ dX12_planNow_130 (rf, br) (congrArg (fun z => some (Value.int (iI z))) (show (if (y : Int) = 0 then (PL (kdM kz z.toNat) (mi 1) h pv).1 else ((PL (kdM kz z.toNat) (mi 1) h pv).2 / 4 ^ ((y : Int) - 10).toNat) % 4 - 1 : Int) = bb by first | (rw [if_pos (by omega)]; exact hbb.symm) | (rw [if_neg (by omega), hbr _ (by omega)]; show _ = rwR _ _ E9 _ - 1; rw [hE2.2]))) trivial hP hD
                · skip
                  obtain ⟨hre, hrd⟩ : evB (mi 1 + 1) rf h = (e0 : Int) ∧ ∀ j, j < h → 0 ≤ rf j ∧ rf j ≤ mi 1 := by rcases hmo with q | q; exact q.2; omega
                  have helt : e0 < ((mi 1).toNat + 1) ^ h := by have h8 := evB_in (B := mi 1 + 1) (f := rf) (h := h) (by omega) (fun j hj => by have := hrd j hj; omega); rw [hre, show (mi 1 + 1) = ((((mi 1).toNat + 1) : Nat) : Int) by omega, ← Int.natCast_pow] at h8; omega
                  refine lv_aload_n hx hb dX12_planNow_47 rfl (lv_at hl 0 rfl) ?_
                  refine lv_iload_n hx hb dX12_planNow_48 rfl (lv_at hl 1 rfl) ?_
                  refine lv_iload_n hx hb dX12_planNow_49 rfl (lv_at hl 2 rfl) ?_
                  have hPm := zp_perm hP (zblk (show List.Perm ([WMo o ma mi ml, WMp X ma pv, Wa X 2 (ma 9) 5 kz, Wa X 2 (ma 22) 105 (savF 15 pv sa), Wa X 2 (ma 23) 4 rf, Wa X 2 (ma 24) 4 br] : List va_W) ([WMo o ma mi ml, WMp X ma pv, Wa X 2 (ma 9) 5 kz, Wa X 2 (ma 23) 4 rf] ++ [Wa X 2 (ma 22) 105 (savF 15 pv sa), Wa X 2 (ma 24) 4 br]) from (zf1 _ 0 _ rfl).trans (((zf1 _ 0 _ rfl).trans (((zf1 _ 0 _ rfl).trans (((zf1 _ 1 _ rfl).trans ((List.Perm.refl _).cons _)).cons _)).cons _)).cons _)))
                  have hDm := zd_perm hD (zblk (show List.Perm ([WMo o ma mi ml, WMp X ma pv, Wa X 2 (ma 9) 5 kz, Wa X 2 (ma 22) 105 (savF 15 pv sa), Wa X 2 (ma 23) 4 rf, Wa X 2 (ma 24) 4 br] : List va_W) ([WMo o ma mi ml, WMp X ma pv, Wa X 2 (ma 9) 5 kz, Wa X 2 (ma 23) 4 rf] ++ [Wa X 2 (ma 22) 105 (savF 15 pv sa), Wa X 2 (ma 24) 4 br]) from (zf1 _ 0 _ rfl).trans (((zf1 _ 0 _ rfl).trans (((zf1 _ 0 _ rfl).trans (((zf1 _ 1 _ rfl).trans ((List.Perm.refl _).cons _)).cons _)).cons _)).cons _)))
                  refine z_callV (wr := zb [Wa X 2 (ma 22) 105 (savF 15 pv sa), Wa X 2 (ma 24) 4 br]) (As := [.int (iI z), .int (iI (↑h))]) (rest := []) ⟨hx, hb, hml, hown, hts⟩ (c_X12_worthBy l X o ma mi ml pv kz rf z h (by omega) (by exact hpv) (by exact hpg) (by omega) (by exact hkz) (by omega) (by exact hrd)) (cwV 2 hts gX12_planNow_X12_worthBy rfl rfl rfl (by decide +kernel) ⟨Nat.le_of_ble_eq_true rfl, Nat.le_of_ble_eq_true rfl⟩) rfl rfl hl.1 dX12_planNow_50 rfl rfl (Nat.le_of_ble_eq_true rfl) ⟨(Nat.le_of_ble_eq_true rfl), (Nat.le_of_ble_eq_true rfl)⟩ hS hA hK hPm hDm (fun u H locs hpost hP hD hS => ?_)
                  obtain ⟨pu9_8, rfl⟩ : ∃ z, z = u := ⟨_, rfl⟩
                  have hpost : ∀ p : Nat, pu9_8 p 0 = pv p 0 := hpost
                  have hwp := hpost
                  have hP := zp_perm hP ((zblk (show List.Perm ([WMo o ma mi ml, WMp X ma pu9_8, Wa X 2 (ma 9) 5 kz, Wa X 2 (ma 22) 105 (savF 15 pv sa), Wa X 2 (ma 23) 4 rf, Wa X 2 (ma 24) 4 br] : List va_W) ([WMo o ma mi ml, WMp X ma pu9_8, Wa X 2 (ma 9) 5 kz, Wa X 2 (ma 23) 4 rf] ++ [Wa X 2 (ma 22) 105 (savF 15 pv sa), Wa X 2 (ma 24) 4 br]) from (zf1 _ 0 _ rfl).trans (((zf1 _ 0 _ rfl).trans (((zf1 _ 0 _ rfl).trans (((zf1 _ 1 _ rfl).trans ((List.Perm.refl _).cons _)).cons _)).cons _)).cons _)))).symm
                  have hD := zd_perm hD ((zblk (show List.Perm ([WMo o ma mi ml, WMp X ma pu9_8, Wa X 2 (ma 9) 5 kz, Wa X 2 (ma 22) 105 (savF 15 pv sa), Wa X 2 (ma 23) 4 rf, Wa X 2 (ma 24) 4 br] : List va_W) ([WMo o ma mi ml, WMp X ma pu9_8, Wa X 2 (ma 9) 5 kz, Wa X 2 (ma 23) 4 rf] ++ [Wa X 2 (ma 22) 105 (savF 15 pv sa), Wa X 2 (ma 24) 4 br]) from (zf1 _ 0 _ rfl).trans (((zf1 _ 0 _ rfl).trans (((zf1 _ 0 _ rfl).trans (((zf1 _ 1 _ rfl).trans ((List.Perm.refl _).cons _)).cons _)).cons _)).cons _)))).symm
                  have hP : va_P X.1 vwCl (zb [WMo o ma mi ml, WMp X ma pu9_8, Wa X 2 (ma 9) 5 kz, Wa X 2 (ma 22) 105 (savF 15 pv sa), Wa X 2 (ma 23) 4 rf, Wa X 2 (ma 24) 4 br]) H := hP
                  have hD : va_D A (zb [WMo o ma mi ml, WMp X ma pu9_8, Wa X 2 (ma 9) 5 kz, Wa X 2 (ma 22) 105 (savF 15 pv sa), Wa X 2 (ma 23) 4 rf, Wa X 2 (ma 24) 4 br]) := hD
                  refine W.eq (g2 := F0 m 53 ls [.int (iI (WBi (kdM kz z.toNat) (mi 1) rf h 0 pv))]) rfl ?_
                  refine z_topi (fun z_9 ez_9 => ?_)
                  refine lv_istore (lv' := [(6, .int (iI z_9)), (0, .ref o), (1, .int (iI z)), (2, .int (iI (↑h))), (3, .int (iI y)), (4, .int (iI bb)), (5, .int (iI mo))]) hx hb dX12_planNow_53 hl (by decide) rfl (fun ls hl => ?_)
                  have hcb : mi 1 + 1 = ((((mi 1).toNat + 1) : Nat) : Int) := by omega
                  have hwf : z_9 = FFp (kdM kz z.toNat) (mi 1) h pv e0 := by rw [ez_9]; exact WBi_cong _ _ h 0 pv (fun j _ h2 => row_dig (b := ((mi 1).toNat + 1)) (by omega) (fun j hj => by have := hrd j hj; omega) (by rw [← hcb]; exact hre) j (by omega))
                  have hge := WBi_ge (kdM kz z.toNat) (mi 1) rf h 0 pv
                  have hgl := WBi_le (kdM kz z.toNat) (mi 1) rf h 0 pv
                  refine lv_aload_n hx hb dX12_planNow_55 rfl (lv_at hl 1 rfl) ?_
                  refine lv_iconst (v := iI 1) hx hb dX12_planNow_56 (by decide) ?_
                  have hPm := zp_perm hP (zblk (show List.Perm ([WMo o ma mi ml, WMp X ma pu9_8, Wa X 2 (ma 9) 5 kz, Wa X 2 (ma 22) 105 (savF 15 pv sa), Wa X 2 (ma 23) 4 rf, Wa X 2 (ma 24) 4 br] : List va_W) ([WMo o ma mi ml, WMp X ma pu9_8, Wa X 2 (ma 22) 105 (savF 15 pv sa)] ++ [Wa X 2 (ma 9) 5 kz, Wa X 2 (ma 23) 4 rf, Wa X 2 (ma 24) 4 br]) from (zf1 _ 0 _ rfl).trans (((zf1 _ 0 _ rfl).trans (((zf1 _ 1 _ rfl).trans ((List.Perm.refl _).cons _)).cons _)).cons _)))
                  have hDm := zd_perm hD (zblk (show List.Perm ([WMo o ma mi ml, WMp X ma pu9_8, Wa X 2 (ma 9) 5 kz, Wa X 2 (ma 22) 105 (savF 15 pv sa), Wa X 2 (ma 23) 4 rf, Wa X 2 (ma 24) 4 br] : List va_W) ([WMo o ma mi ml, WMp X ma pu9_8, Wa X 2 (ma 22) 105 (savF 15 pv sa)] ++ [Wa X 2 (ma 9) 5 kz, Wa X 2 (ma 23) 4 rf, Wa X 2 (ma 24) 4 br]) from (zf1 _ 0 _ rfl).trans (((zf1 _ 0 _ rfl).trans (((zf1 _ 1 _ rfl).trans ((List.Perm.refl _).cons _)).cons _)).cons _)))
                  refine z_callV (wr := zb [Wa X 2 (ma 9) 5 kz, Wa X 2 (ma 23) 4 rf, Wa X 2 (ma 24) 4 br]) (As := [.int (iI 1)]) (rest := []) ⟨hx, hb, hml, hown, hts⟩ (c_X12_load_1 l X o ma mi ml pu9_8 (savF 15 pv sa) pv (by refine LdOk_sav (fun p hp => ?_); exact (hwp p).symm)) (cwV 1 hts gX12_planNow_X12_load rfl rfl rfl (by decide +kernel) ⟨Nat.le_of_ble_eq_true rfl, Nat.le_of_ble_eq_true rfl⟩) rfl rfl hl.1 dX12_planNow_57 rfl rfl (Nat.le_of_ble_eq_true rfl) ⟨(Nat.le_of_ble_eq_true rfl), (Nat.le_of_ble_eq_true rfl)⟩ hS hA hK hPm hDm (fun _ H locs _ hP hD hS => ?_)
                  have hP := zp_perm hP ((zblk (show List.Perm ([WMo o ma mi ml, WMp X ma pv, Wa X 2 (ma 9) 5 kz, Wa X 2 (ma 22) 105 (savF 15 pv sa), Wa X 2 (ma 23) 4 rf, Wa X 2 (ma 24) 4 br] : List va_W) ([WMo o ma mi ml, WMp X ma pv, Wa X 2 (ma 22) 105 (savF 15 pv sa)] ++ [Wa X 2 (ma 9) 5 kz, Wa X 2 (ma 23) 4 rf, Wa X 2 (ma 24) 4 br]) from (zf1 _ 0 _ rfl).trans (((zf1 _ 0 _ rfl).trans (((zf1 _ 1 _ rfl).trans ((List.Perm.refl _).cons _)).cons _)).cons _)))).symm
                  have hD := zd_perm hD ((zblk (show List.Perm ([WMo o ma mi ml, WMp X ma pv, Wa X 2 (ma 9) 5 kz, Wa X 2 (ma 22) 105 (savF 15 pv sa), Wa X 2 (ma 23) 4 rf, Wa X 2 (ma 24) 4 br] : List va_W) ([WMo o ma mi ml, WMp X ma pv, Wa X 2 (ma 22) 105 (savF 15 pv sa)] ++ [Wa X 2 (ma 9) 5 kz, Wa X 2 (ma 23) 4 rf, Wa X 2 (ma 24) 4 br]) from (zf1 _ 0 _ rfl).trans (((zf1 _ 0 _ rfl).trans (((zf1 _ 1 _ rfl).trans ((List.Perm.refl _).cons _)).cons _)).cons _)))).symm
                  have hP : va_P X.1 vwCl (zb [WMo o ma mi ml, WMp X ma pv, Wa X 2 (ma 9) 5 kz, Wa X 2 (ma 22) 105 (savF 15 pv sa), Wa X 2 (ma 23) 4 rf, Wa X 2 (ma 24) 4 br]) H := hP
                  have hD : va_D A (zb [WMo o ma mi ml, WMp X ma pv, Wa X 2 (ma 9) 5 kz, Wa X 2 (ma 22) 105 (savF 15 pv sa), Wa X 2 (ma 23) 4 rf, Wa X 2 (ma 24) 4 br]) := hD
                  refine W.eq (g2 := F0 m 60 ls []) rfl ?_
                  refine lv_iload hx hb dX12_planNow_60 (lv_at hl 0 rfl) ?_
                  refine lv_iload hx hb dX12_planNow_62 (lv_at hl 5 rfl) ?_
                  refine z_icmp_le (tgt := 100) hx hb (by omega) dX12_planNow_64 (by decide) (fun c_10 => ?_) (fun c_10 => ?_)
                  · skip
                    have hbs : bsE (FFp (kdM kz z.toNat) (mi 1) h pv) (e0 + 1) = bsE (FFp (kdM kz z.toNat) (mi 1) h pv) e0 := bsE_n (by rw [← hbb, ← hwf]; omega)
                    have hb2 : bb = (bsE (FFp (kdM kz z.toNat) (mi 1) h pv) (e0 + 1)).1 := by rw [hbs]; exact hbb
                    have hr2 : ∀ j, j < 4 → br j = rwR ((mi 1).toNat + 1) h (bsE (FFp (kdM kz z.toNat) (mi 1) h pv) (e0 + 1)).2 j := by rw [hbs]; exact hbr
                    have hp9 : (mi 1 + 1) ^ h = ((((mi 1).toNat + 1) ^ h : Nat) : Int) := by rw [Int.natCast_pow, ← hcb]
                    have hev := evB_in (B := mi 1 + 1) (f := rf) (h := h) (by omega) (fun j hj => by have := hrd j hj; omega)
                    rw [hre, hp9] at hev
                    refine lv_aload_n hx hb dX12_planNow_100 rfl (lv_at hl 1 rfl) ?_
                    refine lv_iload_n hx hb dX12_planNow_101 rfl (lv_at hl 3 rfl) ?_
                    have hPm := zp_perm hP (zblk (show List.Perm ([WMo o ma mi ml, WMp X ma pv, Wa X 2 (ma 9) 5 kz, Wa X 2 (ma 22) 105 (savF 15 pv sa), Wa X 2 (ma 23) 4 rf, Wa X 2 (ma 24) 4 br] : List va_W) ([WMo o ma mi ml, Wa X 2 (ma 23) 4 rf] ++ [WMp X ma pv, Wa X 2 (ma 9) 5 kz, Wa X 2 (ma 22) 105 (savF 15 pv sa), Wa X 2 (ma 24) 4 br]) from (zf1 _ 0 _ rfl).trans (((zf1 _ 3 _ rfl).trans ((List.Perm.refl _).cons _)).cons _)))
                    have hDm := zd_perm hD (zblk (show List.Perm ([WMo o ma mi ml, WMp X ma pv, Wa X 2 (ma 9) 5 kz, Wa X 2 (ma 22) 105 (savF 15 pv sa), Wa X 2 (ma 23) 4 rf, Wa X 2 (ma 24) 4 br] : List va_W) ([WMo o ma mi ml, Wa X 2 (ma 23) 4 rf] ++ [WMp X ma pv, Wa X 2 (ma 9) 5 kz, Wa X 2 (ma 22) 105 (savF 15 pv sa), Wa X 2 (ma 24) 4 br]) from (zf1 _ 0 _ rfl).trans (((zf1 _ 3 _ rfl).trans ((List.Perm.refl _).cons _)).cons _)))
                    refine z_callV (wr := zb [WMp X ma pv, Wa X 2 (ma 9) 5 kz, Wa X 2 (ma 22) 105 (savF 15 pv sa), Wa X 2 (ma 24) 4 br]) (As := [.int (iI (↑h))]) (rest := []) ⟨hx, hb, hml, hown, hts⟩ (c_X12_nextRow l X o ma mi ml rf h (by omega) (by omega) (by exact hrd)) (cwV 1 hts gX12_planNow_X12_nextRow rfl rfl rfl (by decide +kernel) ⟨Nat.le_of_ble_eq_true rfl, Nat.le_of_ble_eq_true rfl⟩) rfl rfl hl.1 dX12_planNow_102 rfl rfl (Nat.le_of_ble_eq_true rfl) ⟨(Nat.le_of_ble_eq_true rfl), (Nat.le_of_ble_eq_true rfl)⟩ hS hA hK hPm hDm (fun u H locs hpost hP hD hS => ?_)
                    obtain ⟨rf9_11, b9_12⟩ := u
                    have hpost : (b9_12 = 0 ∧ evB (mi 1 + 1) rf h + 1 = (mi 1 + 1) ^ h) ∨ (b9_12 = 1 ∧ evB (mi 1 + 1) rf9_11 h = evB (mi 1 + 1) rf h + 1 ∧ ∀ j, j < h → 0 ≤ rf9_11 j ∧ rf9_11 j ≤ mi 1) := hpost
                    have hP := zp_perm hP ((zblk (show List.Perm ([WMo o ma mi ml, WMp X ma pv, Wa X 2 (ma 9) 5 kz, Wa X 2 (ma 22) 105 (savF 15 pv sa), Wa X 2 (ma 23) 4 rf9_11, Wa X 2 (ma 24) 4 br] : List va_W) ([WMo o ma mi ml, Wa X 2 (ma 23) 4 rf9_11] ++ [WMp X ma pv, Wa X 2 (ma 9) 5 kz, Wa X 2 (ma 22) 105 (savF 15 pv sa), Wa X 2 (ma 24) 4 br]) from (zf1 _ 0 _ rfl).trans (((zf1 _ 3 _ rfl).trans ((List.Perm.refl _).cons _)).cons _)))).symm
                    have hD := zd_perm hD ((zblk (show List.Perm ([WMo o ma mi ml, WMp X ma pv, Wa X 2 (ma 9) 5 kz, Wa X 2 (ma 22) 105 (savF 15 pv sa), Wa X 2 (ma 23) 4 rf9_11, Wa X 2 (ma 24) 4 br] : List va_W) ([WMo o ma mi ml, Wa X 2 (ma 23) 4 rf9_11] ++ [WMp X ma pv, Wa X 2 (ma 9) 5 kz, Wa X 2 (ma 22) 105 (savF 15 pv sa), Wa X 2 (ma 24) 4 br]) from (zf1 _ 0 _ rfl).trans (((zf1 _ 3 _ rfl).trans ((List.Perm.refl _).cons _)).cons _)))).symm
                    have hP : va_P X.1 vwCl (zb [WMo o ma mi ml, WMp X ma pv, Wa X 2 (ma 9) 5 kz, Wa X 2 (ma 22) 105 (savF 15 pv sa), Wa X 2 (ma 23) 4 rf9_11, Wa X 2 (ma 24) 4 br]) H := hP
                    have hD : va_D A (zb [WMo o ma mi ml, WMp X ma pv, Wa X 2 (ma 9) 5 kz, Wa X 2 (ma 22) 105 (savF 15 pv sa), Wa X 2 (ma 23) 4 rf9_11, Wa X 2 (ma 24) 4 br]) := hD
                    refine W.eq (g2 := F0 m 105 ls [.int (iI b9_12)]) rfl ?_
                    refine lv_istore (lv' := [(5, .int (iI b9_12)), (6, .int (iI z_9)), (0, .ref o), (1, .int (iI z)), (2, .int (iI (↑h))), (3, .int (iI y)), (4, .int (iI bb))]) hx hb dX12_planNow_105 hl (by decide) rfl (fun ls hl => ?_)
                    refine lv_goto (tgt := 42) hx hb dX12_planNow_107 (by decide) ?_
                    exact ih42  (e0 + 1) bb b9_12 rf9_11 br (by rcases hpost with ⟨q1, q2⟩ | ⟨q1, q2, q3⟩; (refine Or.inr ⟨by omega, ?_⟩; rw [hre, hp9] at q2; omega); (refine Or.inl ⟨by omega, by rw [q2, hre]; rfl, q3⟩)) (by exact hb2) (by exact hr2) (by omega) _ _ _ hP hD hS (lv_sub hl [2, 3, 4, 5, 6, 0] rfl)
                  · skip
                    skip
                    refine lv_iload hx hb dX12_planNow_67 (lv_at hl 0 rfl) ?_
                    refine lv_istore (lv' := [(4, .int (iI z_9)), (6, .int (iI z_9)), (0, .ref o), (1, .int (iI z)), (2, .int (iI (↑h))), (3, .int (iI y)), (5, .int (iI mo))]) hx hb dX12_planNow_69 hl (by decide) rfl (fun ls hl => ?_)
                    refine lv_iconst (v := iI 0) hx hb dX12_planNow_71 (by decide) ?_
                    refine lv_istore (lv' := [(7, .int (iI 0)), (4, .int (iI z_9)), (6, .int (iI z_9)), (0, .ref o), (1, .int (iI z)), (2, .int (iI (↑h))), (3, .int (iI y)), (5, .int (iI mo))]) hx hb dX12_planNow_72 hl (by decide) rfl (fun ls hl => ?_)
                    have L74 : ∀ (fu : Nat) (q : Nat), (q ≤ h) → (h - q) < fu → ∀ (H : Heap) (locs : List Loc) (ls : Array Slot), va_P X.1 vwCl (zb [WMo o ma mi ml, WMp X ma pv, Wa X 2 (ma 9) 5 kz, Wa X 2 (ma 22) 105 (savF 15 pv sa), Wa X 2 (ma 23) 4 rf, Wa X 2 (ma 24) 4 (catZ rf br q)]) H → va_D A (zb [WMo o ma mi ml, WMp X ma pv, Wa X 2 (ma 9) 5 kz, Wa X 2 (ma 22) 105 (savF 15 pv sa), Wa X 2 (ma 23) 4 rf, Wa X 2 (ma 24) 4 (catZ rf br q)]) → va_S A s.heap H locs → lv_has ls 8 [(0, .ref o), (1, .int (iI z)), (2, .int (iI (↑h))), (3, .int (iI y)), (4, .int (iI z_9)), (5, .int (iI mo)), (6, .int (iI z_9)), (7, .int (iI (↑q)))] → W p l e { frames := 4, cells := 0, slots := 0, locals := 90 } s m ([.ref o, .int (iI z), .int (iI (↑h)), .int (iI y)] : List Value).toArray below meth c H locs 0 0 Q (F0 m 74 ls []) := by
                      intro fu
                      induction fu with
                      | zero => intro q hq hm; exact absurd hm (Nat.not_lt_zero _)
                      | succ fu ih74 =>
                        intro q hq hm H locs ls hP hD hS hl
                        refine lv_iload hx hb dX12_planNow_74 (lv_at hl 7 rfl) ?_
                        refine lv_iload_n hx hb dX12_planNow_76 rfl (lv_at hl 2 rfl) ?_
                        refine z_icmp_ge (tgt := 100) hx hb (by omega) dX12_planNow_77 (by decide) (fun c_14 => ?_) (fun c_14 => ?_)
                        · skip
                          have hbs : bsE (FFp (kdM kz z.toNat) (mi 1) h pv) (e0 + 1) = (FFp (kdM kz z.toNat) (mi 1) h pv e0, e0) := bsE_y (by rw [← hbb, ← hwf]; omega)
                          have hb2 : z_9 = (bsE (FFp (kdM kz z.toNat) (mi 1) h pv) (e0 + 1)).1 := by rw [hbs]; exact hwf
                          have hr2 : ∀ j, j < 4 → (catZ rf br q) j = rwR ((mi 1).toNat + 1) h (bsE (FFp (kdM kz z.toNat) (mi 1) h pv) (e0 + 1)).2 j := by
                            intro j hj
                            rw [hbs, show q = h by omega]
                            unfold catZ
                            by_cases z9 : j < h
                            · rw [if_pos z9]; exact row_dig (b := ((mi 1).toNat + 1)) (by omega) (fun j hj => by have := hrd j hj; omega) (by rw [← hcb]; exact hre) j z9
                            · rw [if_neg z9, hbr j hj, rwR_hi _ _ _ _ (by omega), rwR_hi _ _ _ _ (by omega)]
                          have hp9 : (mi 1 + 1) ^ h = ((((mi 1).toNat + 1) ^ h : Nat) : Int) := by rw [Int.natCast_pow, ← hcb]
                          have hev := evB_in (B := mi 1 + 1) (f := rf) (h := h) (by omega) (fun j hj => by have := hrd j hj; omega)
                          rw [hre, hp9] at hev
                          refine lv_aload_n hx hb dX12_planNow_100 rfl (lv_at hl 0 rfl) ?_
                          refine lv_iload_n hx hb dX12_planNow_101 rfl (lv_at hl 2 rfl) ?_
                          have hPm := zp_perm hP (zblk (show List.Perm ([WMo o ma mi ml, WMp X ma pv, Wa X 2 (ma 9) 5 kz, Wa X 2 (ma 22) 105 (savF 15 pv sa), Wa X 2 (ma 23) 4 rf, Wa X 2 (ma 24) 4 (catZ rf br q)] : List va_W) ([WMo o ma mi ml, Wa X 2 (ma 23) 4 rf] ++ [WMp X ma pv, Wa X 2 (ma 9) 5 kz, Wa X 2 (ma 22) 105 (savF 15 pv sa), Wa X 2 (ma 24) 4 (catZ rf br q)]) from (zf1 _ 0 _ rfl).trans (((zf1 _ 3 _ rfl).trans ((List.Perm.refl _).cons _)).cons _)))
                          have hDm := zd_perm hD (zblk (show List.Perm ([WMo o ma mi ml, WMp X ma pv, Wa X 2 (ma 9) 5 kz, Wa X 2 (ma 22) 105 (savF 15 pv sa), Wa X 2 (ma 23) 4 rf, Wa X 2 (ma 24) 4 (catZ rf br q)] : List va_W) ([WMo o ma mi ml, Wa X 2 (ma 23) 4 rf] ++ [WMp X ma pv, Wa X 2 (ma 9) 5 kz, Wa X 2 (ma 22) 105 (savF 15 pv sa), Wa X 2 (ma 24) 4 (catZ rf br q)]) from (zf1 _ 0 _ rfl).trans (((zf1 _ 3 _ rfl).trans ((List.Perm.refl _).cons _)).cons _)))
                          refine z_callV (wr := zb [WMp X ma pv, Wa X 2 (ma 9) 5 kz, Wa X 2 (ma 22) 105 (savF 15 pv sa), Wa X 2 (ma 24) 4 (catZ rf br q)]) (As := [.int (iI (↑h))]) (rest := []) ⟨hx, hb, hml, hown, hts⟩ (c_X12_nextRow l X o ma mi ml rf h (by omega) (by omega) (by exact hrd)) (cwV 1 hts gX12_planNow_X12_nextRow rfl rfl rfl (by decide +kernel) ⟨Nat.le_of_ble_eq_true rfl, Nat.le_of_ble_eq_true rfl⟩) rfl rfl hl.1 dX12_planNow_102 rfl rfl (Nat.le_of_ble_eq_true rfl) ⟨(Nat.le_of_ble_eq_true rfl), (Nat.le_of_ble_eq_true rfl)⟩ hS hA hK hPm hDm (fun u H locs hpost hP hD hS => ?_)
                          obtain ⟨rf9_15, b9_16⟩ := u
                          have hpost : (b9_16 = 0 ∧ evB (mi 1 + 1) rf h + 1 = (mi 1 + 1) ^ h) ∨ (b9_16 = 1 ∧ evB (mi 1 + 1) rf9_15 h = evB (mi 1 + 1) rf h + 1 ∧ ∀ j, j < h → 0 ≤ rf9_15 j ∧ rf9_15 j ≤ mi 1) := hpost
                          have hP := zp_perm hP ((zblk (show List.Perm ([WMo o ma mi ml, WMp X ma pv, Wa X 2 (ma 9) 5 kz, Wa X 2 (ma 22) 105 (savF 15 pv sa), Wa X 2 (ma 23) 4 rf9_15, Wa X 2 (ma 24) 4 (catZ rf br q)] : List va_W) ([WMo o ma mi ml, Wa X 2 (ma 23) 4 rf9_15] ++ [WMp X ma pv, Wa X 2 (ma 9) 5 kz, Wa X 2 (ma 22) 105 (savF 15 pv sa), Wa X 2 (ma 24) 4 (catZ rf br q)]) from (zf1 _ 0 _ rfl).trans (((zf1 _ 3 _ rfl).trans ((List.Perm.refl _).cons _)).cons _)))).symm
                          have hD := zd_perm hD ((zblk (show List.Perm ([WMo o ma mi ml, WMp X ma pv, Wa X 2 (ma 9) 5 kz, Wa X 2 (ma 22) 105 (savF 15 pv sa), Wa X 2 (ma 23) 4 rf9_15, Wa X 2 (ma 24) 4 (catZ rf br q)] : List va_W) ([WMo o ma mi ml, Wa X 2 (ma 23) 4 rf9_15] ++ [WMp X ma pv, Wa X 2 (ma 9) 5 kz, Wa X 2 (ma 22) 105 (savF 15 pv sa), Wa X 2 (ma 24) 4 (catZ rf br q)]) from (zf1 _ 0 _ rfl).trans (((zf1 _ 3 _ rfl).trans ((List.Perm.refl _).cons _)).cons _)))).symm
                          have hP : va_P X.1 vwCl (zb [WMo o ma mi ml, WMp X ma pv, Wa X 2 (ma 9) 5 kz, Wa X 2 (ma 22) 105 (savF 15 pv sa), Wa X 2 (ma 23) 4 rf9_15, Wa X 2 (ma 24) 4 (catZ rf br q)]) H := hP
                          have hD : va_D A (zb [WMo o ma mi ml, WMp X ma pv, Wa X 2 (ma 9) 5 kz, Wa X 2 (ma 22) 105 (savF 15 pv sa), Wa X 2 (ma 23) 4 rf9_15, Wa X 2 (ma 24) 4 (catZ rf br q)]) := hD
                          refine W.eq (g2 := F0 m 105 ls [.int (iI b9_16)]) rfl ?_
                          refine lv_istore (lv' := [(5, .int (iI b9_16)), (0, .ref o), (1, .int (iI z)), (2, .int (iI (↑h))), (3, .int (iI y)), (4, .int (iI z_9)), (6, .int (iI z_9)), (7, .int (iI (↑q)))]) hx hb dX12_planNow_105 hl (by decide) rfl (fun ls hl => ?_)
                          refine lv_goto (tgt := 42) hx hb dX12_planNow_107 (by decide) ?_
                          exact ih42  (e0 + 1) z_9 b9_16 rf9_15 (catZ rf br q) (by rcases hpost with ⟨q1, q2⟩ | ⟨q1, q2, q3⟩; (refine Or.inr ⟨by omega, ?_⟩; rw [hre, hp9] at q2; omega); (refine Or.inl ⟨by omega, by rw [q2, hre]; rfl, q3⟩)) (by exact hb2) (by exact hr2) (by omega) _ _ _ hP hD hS (lv_sub hl [1, 2, 3, 4, 5, 0] rfl)
                        · skip
                          refine lv_aload_n hx hb dX12_planNow_80 rfl (lv_at hl 0 rfl) ?_
                          refine va_get (ci := 12) (v := .ref (ma 24)) (C := RX12) (T := TX12) (N := 38) hx hb hts inX12 hown hK.1 hP 0 rfl rfl 24 (by decide) (hts (.fieldLink RX12 53 "SkimmedSonsModel" "bestRow" "[I") (by decide +kernel)) (fun _ h9 => h9) rfl dX12_planNow_81 ?_
                          refine lv_iload hx hb dX12_planNow_84 (lv_at hl 7 rfl) ?_
                          refine lv_aload_n hx hb dX12_planNow_86 rfl (lv_at hl 0 rfl) ?_
                          refine va_get (ci := 12) (v := .ref (ma 23)) (C := RX12) (T := TX12) (N := 38) hx hb hts inX12 hown hK.1 hP 0 rfl rfl 23 (by decide) (hts (.fieldLink RX12 50 "SkimmedSonsModel" "row" "[I") (by decide +kernel)) (fun _ h9 => h9) rfl dX12_planNow_87 ?_
                          refine lv_iload hx hb dX12_planNow_90 (lv_at hl 7 rfl) ?_
                          refine z_iald hx hb hK.1 hP 9 rfl (by omega) dX12_planNow_92 ?_
                          refine W.eq (g2 := F0 m 93 ls [.int (iI (rf q)), .int (iI (↑q)), .ref (ma 24)]) rfl ?_
                          refine z_iast hx hb hK.1 hP hD hS 10 rfl (by omega) dX12_planNow_93 (fun H locs hP hD hS => ?_)
                          have hP : va_P X.1 vwCl (zb [WMo o ma mi ml, WMp X ma pv, Wa X 2 (ma 9) 5 kz, Wa X 2 (ma 22) 105 (savF 15 pv sa), Wa X 2 (ma 23) 4 rf, Wa X 2 (ma 24) 4 (updZ (catZ rf br q) q (rf q))]) H := hP
                          have hD : va_D A (zb [WMo o ma mi ml, WMp X ma pv, Wa X 2 (ma 9) 5 kz, Wa X 2 (ma 22) 105 (savF 15 pv sa), Wa X 2 (ma 23) 4 rf, Wa X 2 (ma 24) 4 (updZ (catZ rf br q) q (rf q))]) := hD
                          refine z_iinc (k := 7) (lv' := [(7, .int (iI ((↑q) + 1))), (0, .ref o), (1, .int (iI z)), (2, .int (iI (↑h))), (3, .int (iI y)), (4, .int (iI z_9)), (5, .int (iI mo)), (6, .int (iI z_9))]) hx hb dX12_planNow_94 hl rfl (by decide) rfl (fun ls hl => ?_)
                          refine lv_goto (tgt := 74) hx hb dX12_planNow_97 (by decide) ?_
                          have hw_18 : zb [WMo o ma mi ml, WMp X ma pv, Wa X 2 (ma 9) 5 kz, Wa X 2 (ma 22) 105 (savF 15 pv sa), Wa X 2 (ma 23) 4 rf, Wa X 2 (ma 24) 4 (updZ (catZ rf br q) q (rf q))] = zb [WMo o ma mi ml, WMp X ma pv, Wa X 2 (ma 9) 5 kz, Wa X 2 (ma 22) 105 (savF 15 pv sa), Wa X 2 (ma 23) 4 rf, Wa X 2 (ma 24) 4 (catZ rf br (q + 1))] := by first | (rw [← catZ_step]; done) | (subst_vars; rw [← catZ_step])
                          rw [hw_18] at hP hD
                          exact ih74  (q + 1) (by omega) (by omega) _ _ _ hP hD hS (lv_sub hl [1, 2, 3, 4, 5, 6, 7, 0] rfl)
                    have hw_19 : zb [WMo o ma mi ml, WMp X ma pv, Wa X 2 (ma 9) 5 kz, Wa X 2 (ma 22) 105 (savF 15 pv sa), Wa X 2 (ma 23) 4 rf, Wa X 2 (ma 24) 4 br] = zb [WMo o ma mi ml, WMp X ma pv, Wa X 2 (ma 9) 5 kz, Wa X 2 (ma 22) 105 (savF 15 pv sa), Wa X 2 (ma 23) 4 rf, Wa X 2 (ma 24) 4 (catZ rf br 0)] := by rw [catZ_0]
                    rw [hw_19] at hP hD
                    exact L74 ((h - 0) + 1) 0 (by omega) (by omega) _ _ _ hP hD hS (lv_sub hl [3, 4, 5, 6, 1, 7, 2, 0] rfl)
            exact L42 ((((mi 1).toNat + 1) ^ h - 0) + 1) 0 (-1) 1 (updZ (updZ (updZ (updZ rf 0 0) 1 0) 2 0) 3 0) (updZ (updZ (updZ (updZ br 0 0) 1 0) 2 0) 3 0) (by refine Or.inl ⟨rfl, ?_, fun j hj => ?_⟩; (rcases (show h = 1 ∨ h = 2 ∨ h = 3 ∨ h = 4 by omega) with q | q | q | q <;> rw [q] <;> simp [evB, updZ]); (rcases (show j = 0 ∨ j = 1 ∨ j = 2 ∨ j = 3 by omega) with q | q | q | q <;> rw [q] <;> simp [updZ] <;> omega)) (by rfl) (by intro j hj; show _ = rwR _ _ 0 j; rw [(DgE_0 (b := ((mi 1).toNat + 1)) (h := h) (by omega)).2 j, Int.zero_ediv]; rcases (show j = 0 ∨ j = 1 ∨ j = 2 ∨ j = 3 by omega) with q | q | q | q <;> rw [q] <;> simp [updZ]) (by omega) _ _ _ hP hD hS (lv_sub hl [2, 3, 4, 5, 1, 0] rfl)
          · skip
            exact absurd c_5 (by omega)
set_option maxHeartbeats 1000000 in
set_option maxRecDepth 100000 in
theorem c_X12_plan (l : Launch) (X : zX) (o : Nat) (ma : Nat → Nat) (mi : Nat → Int) (ml : Nat → Int) (pv : Nat → Nat → Int) (kz : Nat → Int) (sa : Nat → Int) (rf : Nat → Int) (br : Nat → Int) (z : Int) (x : Int) (y : Int) (hn1 : 0 < mi 2 → 1 ≤ mi 1) (hn : 0 ≤ mi 1 ∧ mi 1 ≤ 3) (ht : 0 ≤ mi 2 ∧ mi 2 ≤ 5) (hkm : KidM (mi 2) kz) (hpv : PanS pv) (hpg : ∀ j, j < (mi 1).toNat → PanG 2000 (pv j)) (hrz : -2147483648 ≤ z ∧ z < 2147483648) (hrx : -2147483648 ≤ x ∧ x < 2147483648) (hry : -2147483648 ≤ y ∧ y < 2147483648) : zM (S := (Nat → Int) × (Nat → Int) × (Nat → Int)) l X yX12_plan wsX12_plan { frames := 5, cells := 0, slots := 0, locals := 117 } [.ref o, .int (iI z), .int (iI x), .int (iI y)] (zb [WMo o ma mi ml, WMp X ma pv, Wa X 2 (ma 9) 5 kz, Wa X 2 (ma 22) 105 sa, Wa X 2 (ma 23) 4 rf, Wa X 2 (ma 24) 4 br]) (fun u => (some (.int (iI (planR (mi 2) z x y (mi 1) (kdM kz) pv))))) (fun u => zb [WMo o ma mi ml, WMp X ma pv, Wa X 2 (ma 9) 5 kz, Wa X 2 (ma 22) 105 u.1, Wa X 2 (ma 23) 4 u.2.1, Wa X 2 (ma 24) 4 u.2.2]) (fun u => ∀ k, k < 15 → u.1 k = sa k) := by
  refine z_enter (cc := cX12_plan) (maxL := 4) (ret := (some .int)) (by decide) rfl (Nat.le_of_ble_eq_true rfl) ?_
  intro p e s m below meth c A ls Q hQ hE hl hP hD
  obtain ⟨hx, hb, hr, hml, hown, hts, hlocks, hnm, hA, hK⟩ := hE
  have hown : s.vm.findClass RX12 = some m.cls := hown
  have hS : va_S A s.heap s.heap [] := va_S.rf
  have hl : lv_has ls 4 [(0, .ref o), (1, .int (iI z)), (2, .int (iI x)), (3, .int (iI y))] := hl
  refine lv_aload_n hx hb dX12_plan_0 rfl (lv_at hl 0 rfl) ?_
  refine lv_iload_n hx hb dX12_plan_1 rfl (lv_at hl 1 rfl) ?_
  have hPm := zp_perm hP (zblk (show List.Perm ([WMo o ma mi ml, WMp X ma pv, Wa X 2 (ma 9) 5 kz, Wa X 2 (ma 22) 105 sa, Wa X 2 (ma 23) 4 rf, Wa X 2 (ma 24) 4 br] : List va_W) ([WMo o ma mi ml] ++ [WMp X ma pv, Wa X 2 (ma 9) 5 kz, Wa X 2 (ma 22) 105 sa, Wa X 2 (ma 23) 4 rf, Wa X 2 (ma 24) 4 br]) from (zf1 _ 0 _ rfl).trans ((List.Perm.refl _).cons _)))
  have hDm := zd_perm hD (zblk (show List.Perm ([WMo o ma mi ml, WMp X ma pv, Wa X 2 (ma 9) 5 kz, Wa X 2 (ma 22) 105 sa, Wa X 2 (ma 23) 4 rf, Wa X 2 (ma 24) 4 br] : List va_W) ([WMo o ma mi ml] ++ [WMp X ma pv, Wa X 2 (ma 9) 5 kz, Wa X 2 (ma 22) 105 sa, Wa X 2 (ma 23) 4 rf, Wa X 2 (ma 24) 4 br]) from (zf1 _ 0 _ rfl).trans ((List.Perm.refl _).cons _)))
  refine z_callV (wr := zb [WMp X ma pv, Wa X 2 (ma 9) 5 kz, Wa X 2 (ma 22) 105 sa, Wa X 2 (ma 23) 4 rf, Wa X 2 (ma 24) 4 br]) (As := [.int (iI z)]) (rest := []) ⟨hx, hb, hml, hown, hts⟩ (c_X12_isChild l X o ma mi ml z (by omega) (by omega)) (cwV 1 hts gX12_plan_X12_isChild rfl rfl rfl (by decide +kernel) ⟨Nat.le_of_ble_eq_true rfl, Nat.le_of_ble_eq_true rfl⟩) rfl rfl hl.1 dX12_plan_2 rfl rfl (Nat.le_of_ble_eq_true rfl) ⟨(Nat.le_of_ble_eq_true rfl), (Nat.le_of_ble_eq_true rfl)⟩ hS hA hK hPm hDm (fun _ H locs _ hP hD hS => ?_)
  have hP := zp_perm hP ((zblk (show List.Perm ([WMo o ma mi ml, WMp X ma pv, Wa X 2 (ma 9) 5 kz, Wa X 2 (ma 22) 105 sa, Wa X 2 (ma 23) 4 rf, Wa X 2 (ma 24) 4 br] : List va_W) ([WMo o ma mi ml] ++ [WMp X ma pv, Wa X 2 (ma 9) 5 kz, Wa X 2 (ma 22) 105 sa, Wa X 2 (ma 23) 4 rf, Wa X 2 (ma 24) 4 br]) from (zf1 _ 0 _ rfl).trans ((List.Perm.refl _).cons _)))).symm
  have hD := zd_perm hD ((zblk (show List.Perm ([WMo o ma mi ml, WMp X ma pv, Wa X 2 (ma 9) 5 kz, Wa X 2 (ma 22) 105 sa, Wa X 2 (ma 23) 4 rf, Wa X 2 (ma 24) 4 br] : List va_W) ([WMo o ma mi ml] ++ [WMp X ma pv, Wa X 2 (ma 9) 5 kz, Wa X 2 (ma 22) 105 sa, Wa X 2 (ma 23) 4 rf, Wa X 2 (ma 24) 4 br]) from (zf1 _ 0 _ rfl).trans ((List.Perm.refl _).cons _)))).symm
  have hP : va_P X.1 vwCl (zb [WMo o ma mi ml, WMp X ma pv, Wa X 2 (ma 9) 5 kz, Wa X 2 (ma 22) 105 sa, Wa X 2 (ma 23) 4 rf, Wa X 2 (ma 24) 4 br]) H := hP
  have hD : va_D A (zb [WMo o ma mi ml, WMp X ma pv, Wa X 2 (ma 9) 5 kz, Wa X 2 (ma 22) 105 sa, Wa X 2 (ma 23) 4 rf, Wa X 2 (ma 24) 4 br]) := hD
  refine W.eq (g2 := F0 m 5 ls [.int (iI (if 0 ≤ z ∧ z < mi 2 then 1 else 0))]) rfl ?_
  refine z_if_ne (tgt := 11) hx hb (by omega) dX12_plan_5 (by decide) (fun c_1 => ?_) (fun c_1 => ?_)
  · skip
    refine lv_iload_n hx hb dX12_plan_11 rfl (lv_at hl 2 rfl) ?_
    refine lv_iconst (v := iI 1) hx hb dX12_plan_12 (by decide) ?_
    refine lv_iconst (v := iI 4) hx hb dX12_plan_13 (by decide) ?_
    have hPm := zp_perm hP (zblk (show List.Perm ([WMo o ma mi ml, WMp X ma pv, Wa X 2 (ma 9) 5 kz, Wa X 2 (ma 22) 105 sa, Wa X 2 (ma 23) 4 rf, Wa X 2 (ma 24) 4 br] : List va_W) ([] ++ [WMo o ma mi ml, WMp X ma pv, Wa X 2 (ma 9) 5 kz, Wa X 2 (ma 22) 105 sa, Wa X 2 (ma 23) 4 rf, Wa X 2 (ma 24) 4 br]) from List.Perm.refl _))
    have hDm := zd_perm hD (zblk (show List.Perm ([WMo o ma mi ml, WMp X ma pv, Wa X 2 (ma 9) 5 kz, Wa X 2 (ma 22) 105 sa, Wa X 2 (ma 23) 4 rf, Wa X 2 (ma 24) 4 br] : List va_W) ([] ++ [WMo o ma mi ml, WMp X ma pv, Wa X 2 (ma 9) 5 kz, Wa X 2 (ma 22) 105 sa, Wa X 2 (ma 23) 4 rf, Wa X 2 (ma 24) 4 br]) from List.Perm.refl _))
    refine z_callS (wr := zb [WMo o ma mi ml, WMp X ma pv, Wa X 2 (ma 9) 5 kz, Wa X 2 (ma 22) 105 sa, Wa X 2 (ma 23) 4 rf, Wa X 2 (ma 24) 4 br]) (As := [.int (iI x), .int (iI 1), .int (iI 4)]) (rest := []) ⟨hx, hb, hml, hown, hts⟩ (c_X12_within l X x 1 4 (by omega)) (va_cwS 3 hts gX12_plan_X12_within rfl rfl rfl (by decide +kernel) ⟨Nat.le_of_ble_eq_true rfl, Nat.le_of_ble_eq_true rfl⟩) hl.1 dX12_plan_14 rfl rfl (Nat.le_of_ble_eq_true rfl) ⟨(Nat.le_of_ble_eq_true rfl), (Nat.le_of_ble_eq_true rfl)⟩ hS hA hK hPm hDm (fun _ H locs _ hP hD hS => ?_)
    have hP := zp_perm hP ((zblk (show List.Perm ([WMo o ma mi ml, WMp X ma pv, Wa X 2 (ma 9) 5 kz, Wa X 2 (ma 22) 105 sa, Wa X 2 (ma 23) 4 rf, Wa X 2 (ma 24) 4 br] : List va_W) ([] ++ [WMo o ma mi ml, WMp X ma pv, Wa X 2 (ma 9) 5 kz, Wa X 2 (ma 22) 105 sa, Wa X 2 (ma 23) 4 rf, Wa X 2 (ma 24) 4 br]) from List.Perm.refl _))).symm
    have hD := zd_perm hD ((zblk (show List.Perm ([WMo o ma mi ml, WMp X ma pv, Wa X 2 (ma 9) 5 kz, Wa X 2 (ma 22) 105 sa, Wa X 2 (ma 23) 4 rf, Wa X 2 (ma 24) 4 br] : List va_W) ([] ++ [WMo o ma mi ml, WMp X ma pv, Wa X 2 (ma 9) 5 kz, Wa X 2 (ma 22) 105 sa, Wa X 2 (ma 23) 4 rf, Wa X 2 (ma 24) 4 br]) from List.Perm.refl _))).symm
    have hP : va_P X.1 vwCl (zb [WMo o ma mi ml, WMp X ma pv, Wa X 2 (ma 9) 5 kz, Wa X 2 (ma 22) 105 sa, Wa X 2 (ma 23) 4 rf, Wa X 2 (ma 24) 4 br]) H := hP
    have hD : va_D A (zb [WMo o ma mi ml, WMp X ma pv, Wa X 2 (ma 9) 5 kz, Wa X 2 (ma 22) 105 sa, Wa X 2 (ma 23) 4 rf, Wa X 2 (ma 24) 4 br]) := hD
    refine W.eq (g2 := F0 m 17 ls [.int (iI (if 1 ≤ x ∧ x ≤ 4 then 1 else 0))]) rfl ?_
    refine z_if_eq (tgt := 45) hx hb (by omega) dX12_plan_17 (by decide) (fun c_2 => ?_) (fun c_2 => ?_)
    · skip
      refine lv_bipush (v := iI (-102)) hx hb dX12_plan_45 (by decide) ?_
      exact z_iret hQ hx hb hr hlocks hS ⟨(Nat.le_of_ble_eq_true rfl), (Nat.le_of_ble_eq_true rfl)⟩ dX12_plan_47 (sa, rf, br) (congrArg (fun z => some (Value.int (iI z))) (show (planR (mi 2) z x y (mi 1) (kdM kz) pv : Int) = (-102) by unfold planR; first | (rw [if_pos (by omega), if_pos (by omega), hh4]; done) | ((repeat (first | rw [if_pos (by omega)] | rw [if_neg (by omega)])); done))) (by (try dsimp only); intro k hk; first | rfl | exact savF_lo hk) hP hD
    · skip
      refine lv_iload_n hx hb dX12_plan_20 rfl (lv_at hl 3 rfl) ?_
      refine z_if_eq (tgt := 35) hx hb (by omega) dX12_plan_21 (by decide) (fun c_3 => ?_) (fun c_3 => ?_)
      · skip
        refine lv_aload_n hx hb dX12_plan_35 rfl (lv_at hl 0 rfl) ?_
        refine lv_iload_n hx hb dX12_plan_36 rfl (lv_at hl 1 rfl) ?_
        refine lv_iload_n hx hb dX12_plan_37 rfl (lv_at hl 2 rfl) ?_
        refine lv_iload_n hx hb dX12_plan_38 rfl (lv_at hl 3 rfl) ?_
        obtain ⟨h4, hh4⟩ : ∃ q : Nat, q = x.toNat := ⟨_, rfl⟩
        refine W.eq (g2 := F0 m 39 ls [.int (iI y), .int (iI ↑h4), .int (iI z), .ref o]) (by rw [show x = (h4 : Int) by omega]) ?_
        have hPm := zp_perm hP (zblk (show List.Perm ([WMo o ma mi ml, WMp X ma pv, Wa X 2 (ma 9) 5 kz, Wa X 2 (ma 22) 105 sa, Wa X 2 (ma 23) 4 rf, Wa X 2 (ma 24) 4 br] : List va_W) ([WMo o ma mi ml, WMp X ma pv, Wa X 2 (ma 9) 5 kz, Wa X 2 (ma 22) 105 sa, Wa X 2 (ma 23) 4 rf, Wa X 2 (ma 24) 4 br] ++ []) from (zf1 _ 0 _ rfl).trans (((zf1 _ 0 _ rfl).trans (((zf1 _ 0 _ rfl).trans (((zf1 _ 0 _ rfl).trans (((zf1 _ 0 _ rfl).trans (((zf1 _ 0 _ rfl).trans ((List.Perm.refl _).cons _)).cons _)).cons _)).cons _)).cons _)).cons _)))
        have hDm := zd_perm hD (zblk (show List.Perm ([WMo o ma mi ml, WMp X ma pv, Wa X 2 (ma 9) 5 kz, Wa X 2 (ma 22) 105 sa, Wa X 2 (ma 23) 4 rf, Wa X 2 (ma 24) 4 br] : List va_W) ([WMo o ma mi ml, WMp X ma pv, Wa X 2 (ma 9) 5 kz, Wa X 2 (ma 22) 105 sa, Wa X 2 (ma 23) 4 rf, Wa X 2 (ma 24) 4 br] ++ []) from (zf1 _ 0 _ rfl).trans (((zf1 _ 0 _ rfl).trans (((zf1 _ 0 _ rfl).trans (((zf1 _ 0 _ rfl).trans (((zf1 _ 0 _ rfl).trans (((zf1 _ 0 _ rfl).trans ((List.Perm.refl _).cons _)).cons _)).cons _)).cons _)).cons _)).cons _)))
        refine z_callV (wr := zb []) (As := [.int (iI z), .int (iI (↑h4)), .int (iI y)]) (rest := []) ⟨hx, hb, hml, hown, hts⟩ (c_X12_planNow l X o ma mi ml pv kz sa rf br z h4 y (by omega) (by omega) (by exact hkm _ (by omega)) (by exact hpv) (by exact hpg) (by omega) (by omega)) (cwV 3 hts gX12_plan_X12_planNow rfl rfl rfl (by decide +kernel) ⟨Nat.le_of_ble_eq_true rfl, Nat.le_of_ble_eq_true rfl⟩) rfl rfl hl.1 dX12_plan_39 rfl rfl (Nat.le_of_ble_eq_true rfl) ⟨(Nat.le_of_ble_eq_true rfl), (Nat.le_of_ble_eq_true rfl)⟩ hS hA hK hPm hDm (fun u H locs _ hP hD hS => ?_)
        obtain ⟨rf9_4, br9_5⟩ := u
        have hP := zp_perm hP ((zblk (show List.Perm ([WMo o ma mi ml, WMp X ma pv, Wa X 2 (ma 9) 5 kz, Wa X 2 (ma 22) 105 (savF 15 pv sa), Wa X 2 (ma 23) 4 rf9_4, Wa X 2 (ma 24) 4 br9_5] : List va_W) ([WMo o ma mi ml, WMp X ma pv, Wa X 2 (ma 9) 5 kz, Wa X 2 (ma 22) 105 (savF 15 pv sa), Wa X 2 (ma 23) 4 rf9_4, Wa X 2 (ma 24) 4 br9_5] ++ []) from (zf1 _ 0 _ rfl).trans (((zf1 _ 0 _ rfl).trans (((zf1 _ 0 _ rfl).trans (((zf1 _ 0 _ rfl).trans (((zf1 _ 0 _ rfl).trans (((zf1 _ 0 _ rfl).trans ((List.Perm.refl _).cons _)).cons _)).cons _)).cons _)).cons _)).cons _)))).symm
        have hD := zd_perm hD ((zblk (show List.Perm ([WMo o ma mi ml, WMp X ma pv, Wa X 2 (ma 9) 5 kz, Wa X 2 (ma 22) 105 (savF 15 pv sa), Wa X 2 (ma 23) 4 rf9_4, Wa X 2 (ma 24) 4 br9_5] : List va_W) ([WMo o ma mi ml, WMp X ma pv, Wa X 2 (ma 9) 5 kz, Wa X 2 (ma 22) 105 (savF 15 pv sa), Wa X 2 (ma 23) 4 rf9_4, Wa X 2 (ma 24) 4 br9_5] ++ []) from (zf1 _ 0 _ rfl).trans (((zf1 _ 0 _ rfl).trans (((zf1 _ 0 _ rfl).trans (((zf1 _ 0 _ rfl).trans (((zf1 _ 0 _ rfl).trans (((zf1 _ 0 _ rfl).trans ((List.Perm.refl _).cons _)).cons _)).cons _)).cons _)).cons _)).cons _)))).symm
        have hP : va_P X.1 vwCl (zb [WMo o ma mi ml, WMp X ma pv, Wa X 2 (ma 9) 5 kz, Wa X 2 (ma 22) 105 (savF 15 pv sa), Wa X 2 (ma 23) 4 rf9_4, Wa X 2 (ma 24) 4 br9_5]) H := hP
        have hD : va_D A (zb [WMo o ma mi ml, WMp X ma pv, Wa X 2 (ma 9) 5 kz, Wa X 2 (ma 22) 105 (savF 15 pv sa), Wa X 2 (ma 23) 4 rf9_4, Wa X 2 (ma 24) 4 br9_5]) := hD
        refine W.eq (g2 := F0 m 42 ls [.int (iI (if (y : Int) = 0 then (PL (kdM kz z.toNat) (mi 1) h4 pv).1 else ((PL (kdM kz z.toNat) (mi 1) h4 pv).2 / 4 ^ ((y : Int) - 10).toNat) % 4 - 1))]) rfl ?_
        refine lv_goto (tgt := 47) hx hb dX12_plan_42 (by decide) ?_
        exact z_iret hQ hx hb hr hlocks hS ⟨(Nat.le_of_ble_eq_true rfl), (Nat.le_of_ble_eq_true rfl)⟩ dX12_plan_47 ((savF 15 pv sa), rf9_4, br9_5) (congrArg (fun z => some (Value.int (iI z))) (show (planR (mi 2) z x y (mi 1) (kdM kz) pv : Int) = if (y : Int) = 0 then (PL (kdM kz z.toNat) (mi 1) h4 pv).1 else ((PL (kdM kz z.toNat) (mi 1) h4 pv).2 / 4 ^ ((y : Int) - 10).toNat) % 4 - 1 by unfold planR; first | (rw [if_pos (by omega), if_pos (by omega), hh4]; done) | ((repeat (first | rw [if_pos (by omega)] | rw [if_neg (by omega)])); done))) (by (try dsimp only); intro k hk; first | rfl | exact savF_lo hk) hP hD
      · skip
        refine lv_iload_n hx hb dX12_plan_24 rfl (lv_at hl 3 rfl) ?_
        refine lv_bipush (v := iI 10) hx hb dX12_plan_25 (by decide) ?_
        refine lv_bipush (v := iI 13) hx hb dX12_plan_27 (by decide) ?_
        have hPm := zp_perm hP (zblk (show List.Perm ([WMo o ma mi ml, WMp X ma pv, Wa X 2 (ma 9) 5 kz, Wa X 2 (ma 22) 105 sa, Wa X 2 (ma 23) 4 rf, Wa X 2 (ma 24) 4 br] : List va_W) ([] ++ [WMo o ma mi ml, WMp X ma pv, Wa X 2 (ma 9) 5 kz, Wa X 2 (ma 22) 105 sa, Wa X 2 (ma 23) 4 rf, Wa X 2 (ma 24) 4 br]) from List.Perm.refl _))
        have hDm := zd_perm hD (zblk (show List.Perm ([WMo o ma mi ml, WMp X ma pv, Wa X 2 (ma 9) 5 kz, Wa X 2 (ma 22) 105 sa, Wa X 2 (ma 23) 4 rf, Wa X 2 (ma 24) 4 br] : List va_W) ([] ++ [WMo o ma mi ml, WMp X ma pv, Wa X 2 (ma 9) 5 kz, Wa X 2 (ma 22) 105 sa, Wa X 2 (ma 23) 4 rf, Wa X 2 (ma 24) 4 br]) from List.Perm.refl _))
        refine z_callS (wr := zb [WMo o ma mi ml, WMp X ma pv, Wa X 2 (ma 9) 5 kz, Wa X 2 (ma 22) 105 sa, Wa X 2 (ma 23) 4 rf, Wa X 2 (ma 24) 4 br]) (As := [.int (iI y), .int (iI 10), .int (iI 13)]) (rest := []) ⟨hx, hb, hml, hown, hts⟩ (c_X12_within l X y 10 13 (by omega)) (va_cwS 3 hts gX12_plan_X12_within rfl rfl rfl (by decide +kernel) ⟨Nat.le_of_ble_eq_true rfl, Nat.le_of_ble_eq_true rfl⟩) hl.1 dX12_plan_29 rfl rfl (Nat.le_of_ble_eq_true rfl) ⟨(Nat.le_of_ble_eq_true rfl), (Nat.le_of_ble_eq_true rfl)⟩ hS hA hK hPm hDm (fun _ H locs _ hP hD hS => ?_)
        have hP := zp_perm hP ((zblk (show List.Perm ([WMo o ma mi ml, WMp X ma pv, Wa X 2 (ma 9) 5 kz, Wa X 2 (ma 22) 105 sa, Wa X 2 (ma 23) 4 rf, Wa X 2 (ma 24) 4 br] : List va_W) ([] ++ [WMo o ma mi ml, WMp X ma pv, Wa X 2 (ma 9) 5 kz, Wa X 2 (ma 22) 105 sa, Wa X 2 (ma 23) 4 rf, Wa X 2 (ma 24) 4 br]) from List.Perm.refl _))).symm
        have hD := zd_perm hD ((zblk (show List.Perm ([WMo o ma mi ml, WMp X ma pv, Wa X 2 (ma 9) 5 kz, Wa X 2 (ma 22) 105 sa, Wa X 2 (ma 23) 4 rf, Wa X 2 (ma 24) 4 br] : List va_W) ([] ++ [WMo o ma mi ml, WMp X ma pv, Wa X 2 (ma 9) 5 kz, Wa X 2 (ma 22) 105 sa, Wa X 2 (ma 23) 4 rf, Wa X 2 (ma 24) 4 br]) from List.Perm.refl _))).symm
        have hP : va_P X.1 vwCl (zb [WMo o ma mi ml, WMp X ma pv, Wa X 2 (ma 9) 5 kz, Wa X 2 (ma 22) 105 sa, Wa X 2 (ma 23) 4 rf, Wa X 2 (ma 24) 4 br]) H := hP
        have hD : va_D A (zb [WMo o ma mi ml, WMp X ma pv, Wa X 2 (ma 9) 5 kz, Wa X 2 (ma 22) 105 sa, Wa X 2 (ma 23) 4 rf, Wa X 2 (ma 24) 4 br]) := hD
        refine W.eq (g2 := F0 m 32 ls [.int (iI (if 10 ≤ y ∧ y ≤ 13 then 1 else 0))]) rfl ?_
        refine z_if_eq (tgt := 45) hx hb (by omega) dX12_plan_32 (by decide) (fun c_6 => ?_) (fun c_6 => ?_)
        · skip
          refine lv_bipush (v := iI (-102)) hx hb dX12_plan_45 (by decide) ?_
          exact z_iret hQ hx hb hr hlocks hS ⟨(Nat.le_of_ble_eq_true rfl), (Nat.le_of_ble_eq_true rfl)⟩ dX12_plan_47 (sa, rf, br) (congrArg (fun z => some (Value.int (iI z))) (show (planR (mi 2) z x y (mi 1) (kdM kz) pv : Int) = (-102) by unfold planR; first | (rw [if_pos (by omega), if_pos (by omega), hh4]; done) | ((repeat (first | rw [if_pos (by omega)] | rw [if_neg (by omega)])); done))) (by (try dsimp only); intro k hk; first | rfl | exact savF_lo hk) hP hD
        · skip
          refine lv_aload_n hx hb dX12_plan_35 rfl (lv_at hl 0 rfl) ?_
          refine lv_iload_n hx hb dX12_plan_36 rfl (lv_at hl 1 rfl) ?_
          refine lv_iload_n hx hb dX12_plan_37 rfl (lv_at hl 2 rfl) ?_
          refine lv_iload_n hx hb dX12_plan_38 rfl (lv_at hl 3 rfl) ?_
          obtain ⟨h4, hh4⟩ : ∃ q : Nat, q = x.toNat := ⟨_, rfl⟩
          refine W.eq (g2 := F0 m 39 ls [.int (iI y), .int (iI ↑h4), .int (iI z), .ref o]) (by rw [show x = (h4 : Int) by omega]) ?_
          have hPm := zp_perm hP (zblk (show List.Perm ([WMo o ma mi ml, WMp X ma pv, Wa X 2 (ma 9) 5 kz, Wa X 2 (ma 22) 105 sa, Wa X 2 (ma 23) 4 rf, Wa X 2 (ma 24) 4 br] : List va_W) ([WMo o ma mi ml, WMp X ma pv, Wa X 2 (ma 9) 5 kz, Wa X 2 (ma 22) 105 sa, Wa X 2 (ma 23) 4 rf, Wa X 2 (ma 24) 4 br] ++ []) from (zf1 _ 0 _ rfl).trans (((zf1 _ 0 _ rfl).trans (((zf1 _ 0 _ rfl).trans (((zf1 _ 0 _ rfl).trans (((zf1 _ 0 _ rfl).trans (((zf1 _ 0 _ rfl).trans ((List.Perm.refl _).cons _)).cons _)).cons _)).cons _)).cons _)).cons _)))
          have hDm := zd_perm hD (zblk (show List.Perm ([WMo o ma mi ml, WMp X ma pv, Wa X 2 (ma 9) 5 kz, Wa X 2 (ma 22) 105 sa, Wa X 2 (ma 23) 4 rf, Wa X 2 (ma 24) 4 br] : List va_W) ([WMo o ma mi ml, WMp X ma pv, Wa X 2 (ma 9) 5 kz, Wa X 2 (ma 22) 105 sa, Wa X 2 (ma 23) 4 rf, Wa X 2 (ma 24) 4 br] ++ []) from (zf1 _ 0 _ rfl).trans (((zf1 _ 0 _ rfl).trans (((zf1 _ 0 _ rfl).trans (((zf1 _ 0 _ rfl).trans (((zf1 _ 0 _ rfl).trans (((zf1 _ 0 _ rfl).trans ((List.Perm.refl _).cons _)).cons _)).cons _)).cons _)).cons _)).cons _)))
          refine z_callV (wr := zb []) (As := [.int (iI z), .int (iI (↑h4)), .int (iI y)]) (rest := []) ⟨hx, hb, hml, hown, hts⟩ (c_X12_planNow l X o ma mi ml pv kz sa rf br z h4 y (by omega) (by omega) (by exact hkm _ (by omega)) (by exact hpv) (by exact hpg) (by omega) (by omega)) (cwV 3 hts gX12_plan_X12_planNow rfl rfl rfl (by decide +kernel) ⟨Nat.le_of_ble_eq_true rfl, Nat.le_of_ble_eq_true rfl⟩) rfl rfl hl.1 dX12_plan_39 rfl rfl (Nat.le_of_ble_eq_true rfl) ⟨(Nat.le_of_ble_eq_true rfl), (Nat.le_of_ble_eq_true rfl)⟩ hS hA hK hPm hDm (fun u H locs _ hP hD hS => ?_)
          obtain ⟨rf9_7, br9_8⟩ := u
          have hP := zp_perm hP ((zblk (show List.Perm ([WMo o ma mi ml, WMp X ma pv, Wa X 2 (ma 9) 5 kz, Wa X 2 (ma 22) 105 (savF 15 pv sa), Wa X 2 (ma 23) 4 rf9_7, Wa X 2 (ma 24) 4 br9_8] : List va_W) ([WMo o ma mi ml, WMp X ma pv, Wa X 2 (ma 9) 5 kz, Wa X 2 (ma 22) 105 (savF 15 pv sa), Wa X 2 (ma 23) 4 rf9_7, Wa X 2 (ma 24) 4 br9_8] ++ []) from (zf1 _ 0 _ rfl).trans (((zf1 _ 0 _ rfl).trans (((zf1 _ 0 _ rfl).trans (((zf1 _ 0 _ rfl).trans (((zf1 _ 0 _ rfl).trans (((zf1 _ 0 _ rfl).trans ((List.Perm.refl _).cons _)).cons _)).cons _)).cons _)).cons _)).cons _)))).symm
          have hD := zd_perm hD ((zblk (show List.Perm ([WMo o ma mi ml, WMp X ma pv, Wa X 2 (ma 9) 5 kz, Wa X 2 (ma 22) 105 (savF 15 pv sa), Wa X 2 (ma 23) 4 rf9_7, Wa X 2 (ma 24) 4 br9_8] : List va_W) ([WMo o ma mi ml, WMp X ma pv, Wa X 2 (ma 9) 5 kz, Wa X 2 (ma 22) 105 (savF 15 pv sa), Wa X 2 (ma 23) 4 rf9_7, Wa X 2 (ma 24) 4 br9_8] ++ []) from (zf1 _ 0 _ rfl).trans (((zf1 _ 0 _ rfl).trans (((zf1 _ 0 _ rfl).trans (((zf1 _ 0 _ rfl).trans (((zf1 _ 0 _ rfl).trans (((zf1 _ 0 _ rfl).trans ((List.Perm.refl _).cons _)).cons _)).cons _)).cons _)).cons _)).cons _)))).symm
          have hP : va_P X.1 vwCl (zb [WMo o ma mi ml, WMp X ma pv, Wa X 2 (ma 9) 5 kz, Wa X 2 (ma 22) 105 (savF 15 pv sa), Wa X 2 (ma 23) 4 rf9_7, Wa X 2 (ma 24) 4 br9_8]) H := hP
          have hD : va_D A (zb [WMo o ma mi ml, WMp X ma pv, Wa X 2 (ma 9) 5 kz, Wa X 2 (ma 22) 105 (savF 15 pv sa), Wa X 2 (ma 23) 4 rf9_7, Wa X 2 (ma 24) 4 br9_8]) := hD
          refine W.eq (g2 := F0 m 42 ls [.int (iI (if (y : Int) = 0 then (PL (kdM kz z.toNat) (mi 1) h4 pv).1 else ((PL (kdM kz z.toNat) (mi 1) h4 pv).2 / 4 ^ ((y : Int) - 10).toNat) % 4 - 1))]) rfl ?_
          refine lv_goto (tgt := 47) hx hb dX12_plan_42 (by decide) ?_
          exact z_iret hQ hx hb hr hlocks hS ⟨(Nat.le_of_ble_eq_true rfl), (Nat.le_of_ble_eq_true rfl)⟩ dX12_plan_47 ((savF 15 pv sa), rf9_7, br9_8) (congrArg (fun z => some (Value.int (iI z))) (show (planR (mi 2) z x y (mi 1) (kdM kz) pv : Int) = if (y : Int) = 0 then (PL (kdM kz z.toNat) (mi 1) h4 pv).1 else ((PL (kdM kz z.toNat) (mi 1) h4 pv).2 / 4 ^ ((y : Int) - 10).toNat) % 4 - 1 by unfold planR; first | (rw [if_pos (by omega), if_pos (by omega), hh4]; done) | ((repeat (first | rw [if_pos (by omega)] | rw [if_neg (by omega)])); done))) (by (try dsimp only); intro k hk; first | rfl | exact savF_lo hk) hP hD
  · skip
    refine lv_bipush (v := iI (-101)) hx hb dX12_plan_8 (by decide) ?_
    exact z_iret hQ hx hb hr hlocks hS ⟨(Nat.le_of_ble_eq_true rfl), (Nat.le_of_ble_eq_true rfl)⟩ dX12_plan_10 (sa, rf, br) (congrArg (fun z => some (Value.int (iI z))) (show (planR (mi 2) z x y (mi 1) (kdM kz) pv : Int) = (-101) by unfold planR; first | (rw [if_pos (by omega), if_pos (by omega), hh4]; done) | ((repeat (first | rw [if_pos (by omega)] | rw [if_neg (by omega)])); done))) (by (try dsimp only); intro k hk; first | rfl | exact savF_lo hk) hP hD
