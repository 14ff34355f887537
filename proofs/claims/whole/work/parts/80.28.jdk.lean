set_option maxHeartbeats 1000000 in
set_option maxRecDepth 100000 in
theorem c_J1_canEncode_9a6ad (l : Launch) (X : zX) (z : Int) (hz : 0 ≤ z ∧ z ≤ 126) : zF l X yJ1_canEncode_9a6ad wsJ1_canEncode_9a6ad 0 0 [.int (iI z)] (zb []) (some (.int (iI 1))) (zb []) := by
  refine z_enter (cc := cJ1_canEncode_9a6ad) (maxL := 1) (ret := (some .boolean)) (by decide) rfl (Nat.le_of_ble_eq_true rfl) ?_
  intro p e s m below meth c A ls Q hQ hE hl hP hD
  obtain ⟨hx, hb, hr, hml, hown, hts, hlocks, hnm, hA, hK⟩ := hE
  have hown : s.vm.findClass RJ1 = some m.cls := hown
  have hS : va_S A s.heap s.heap [] := va_S.rf
  have hl : lv_has ls 1 [(0, .int (iI z))] := hl
  refine lv_iload_n hx hb dJ1_canEncode_9a6ad_0 rfl (lv_at hl 0 rfl) ?_
  refine z_if_lt (tgt := 15) hx hb (by omega) dJ1_canEncode_9a6ad_1 (by decide) (fun c_1 => ?_) (fun c_1 => ?_)
  · skip
    exact absurd c_1 (by omega)
  · skip
    refine lv_iload_n hx hb dJ1_canEncode_9a6ad_4 rfl (lv_at hl 0 rfl) ?_
    refine lv_sipush (v := iI 255) hx hb dJ1_canEncode_9a6ad_5 (by decide) ?_
    refine z_icmp_gt (tgt := 15) hx hb (by omega) dJ1_canEncode_9a6ad_8 (by decide) (fun c_2 => ?_) (fun c_2 => ?_)
    · skip
      exact absurd c_2 (by omega)
    · skip
      refine lv_iconst (v := iI 1) hx hb dJ1_canEncode_9a6ad_11 (by decide) ?_
      refine lv_goto (tgt := 16) hx hb dJ1_canEncode_9a6ad_12 (by decide) ?_
      exact z_zret (ty := .boolean) hQ hx hb hr (by rfl) hlocks hS ⟨Nat.le_of_ble_eq_true rfl, Nat.le_of_ble_eq_true rfl⟩ dJ1_canEncode_9a6ad_16 () rfl trivial hP hD
set_option maxHeartbeats 1000000 in
set_option maxRecDepth 100000 in
theorem c_J0_isLatin1_aae02_0 (l : Launch) (X : zX)   : zF l X yJ0_isLatin1_aae02 wsJ0_isLatin1_aae02 0 0 [.ref (X.2.2.1 0)] (zb []) (some (.int (iI 1))) (zb []) := by
  refine z_enter (cc := cJ0_isLatin1_aae02) (maxL := 1) (ret := (some .boolean)) (by decide) rfl (Nat.le_of_ble_eq_true rfl) ?_
  intro p e s m below meth c A ls Q hQ hE hl hP hD
  obtain ⟨hx, hb, hr, hml, hown, hts, hlocks, hnm, hA, hK⟩ := hE
  have hown : s.vm.findClass RJ0 = some m.cls := hown
  have hS : va_S A s.heap s.heap [] := va_S.rf
  have hl : lv_has ls 1 [(0, .ref (X.2.2.1 0))] := hl
  refine va_gets hx hb hK.2.2.2.2.1 hS hown (hts (.fieldLink RJ0 38 "java/lang/String" "COMPACT_STRINGS" "Z") (by decide +kernel)) (fun _ h9 => h9) dJ0_isLatin1_aae02_0 ?_
  refine W.eq (g2 := F0 m 3 ls [.int (iI 1)]) rfl ?_
  refine z_if_eq (tgt := 17) hx hb (by omega) dJ0_isLatin1_aae02_3 (by decide) (fun c_1 => ?_) (fun c_1 => ?_)
  · skip
    exact absurd c_1 (by omega)
  · skip
    refine lv_aload_n hx hb dJ0_isLatin1_aae02_6 rfl (lv_at hl 0 rfl) ?_
    refine vk_getf hx hb (hK.2.1.1 0 (by decide)).2.1 hS hown (hts (.fieldLink RJ0 15 "java/lang/String" "coder" "B") (by decide +kernel)) (fun _ h9 => h9) dJ0_isLatin1_aae02_7 ?_
    refine W.eq (g2 := F0 m 10 ls [.int (iI 0)]) rfl ?_
    refine z_if_ne (tgt := 17) hx hb (by omega) dJ0_isLatin1_aae02_10 (by decide) (fun c_2 => ?_) (fun c_2 => ?_)
    · skip
      exact absurd c_2 (by omega)
    · skip
      refine lv_iconst (v := iI 1) hx hb dJ0_isLatin1_aae02_13 (by decide) ?_
      refine lv_goto (tgt := 18) hx hb dJ0_isLatin1_aae02_14 (by decide) ?_
      exact z_zret (ty := .boolean) hQ hx hb hr (by rfl) hlocks hS ⟨Nat.le_of_ble_eq_true rfl, Nat.le_of_ble_eq_true rfl⟩ dJ0_isLatin1_aae02_18 () rfl trivial hP hD
set_option maxHeartbeats 1000000 in
set_option maxRecDepth 100000 in
theorem c_J0_coder_7d493_0 (l : Launch) (X : zX)   : zF l X yJ0_coder_7d493 wsJ0_coder_7d493 0 0 [.ref (X.2.2.1 0)] (zb []) (some (.int (iI 0))) (zb []) := by
  refine z_enter (cc := cJ0_coder_7d493) (maxL := 1) (ret := (some .byte)) (by decide) rfl (Nat.le_of_ble_eq_true rfl) ?_
  intro p e s m below meth c A ls Q hQ hE hl hP hD
  obtain ⟨hx, hb, hr, hml, hown, hts, hlocks, hnm, hA, hK⟩ := hE
  have hown : s.vm.findClass RJ0 = some m.cls := hown
  have hS : va_S A s.heap s.heap [] := va_S.rf
  have hl : lv_has ls 1 [(0, .ref (X.2.2.1 0))] := hl
  refine va_gets hx hb hK.2.2.2.2.1 hS hown (hts (.fieldLink RJ0 38 "java/lang/String" "COMPACT_STRINGS" "Z") (by decide +kernel)) (fun _ h9 => h9) dJ0_coder_7d493_0 ?_
  refine W.eq (g2 := F0 m 3 ls [.int (iI 1)]) rfl ?_
  refine z_if_eq (tgt := 13) hx hb (by omega) dJ0_coder_7d493_3 (by decide) (fun c_1 => ?_) (fun c_1 => ?_)
  · skip
    exact absurd c_1 (by omega)
  · skip
    refine lv_aload_n hx hb dJ0_coder_7d493_6 rfl (lv_at hl 0 rfl) ?_
    refine vk_getf hx hb (hK.2.1.1 0 (by decide)).2.1 hS hown (hts (.fieldLink RJ0 15 "java/lang/String" "coder" "B") (by decide +kernel)) (fun _ h9 => h9) dJ0_coder_7d493_7 ?_
    refine W.eq (g2 := F0 m 10 ls [.int (iI 0)]) rfl ?_
    refine lv_goto (tgt := 14) hx hb dJ0_coder_7d493_10 (by decide) ?_
    exact z_zret (ty := .byte) hQ hx hb hr (by rfl) hlocks hS ⟨Nat.le_of_ble_eq_true rfl, Nat.le_of_ble_eq_true rfl⟩ dJ0_coder_7d493_14 () rfl trivial hP hD
set_option maxHeartbeats 1000000 in
set_option maxRecDepth 100000 in
theorem c_J0_length_8abf5_0 (l : Launch) (X : zX)   : zF l X yJ0_length_8abf5 wsJ0_length_8abf5 1 20 [.ref (X.2.2.1 0)] (zb []) (some (.int (iI 3))) (zb []) := by
  refine z_enter (cc := cJ0_length_8abf5) (maxL := 1) (ret := (some .int)) (by decide) rfl (Nat.le_of_ble_eq_true rfl) ?_
  intro p e s m below meth c A ls Q hQ hE hl hP hD
  obtain ⟨hx, hb, hr, hml, hown, hts, hlocks, hnm, hA, hK⟩ := hE
  have hown : s.vm.findClass RJ0 = some m.cls := hown
  have hS : va_S A s.heap s.heap [] := va_S.rf
  have hl : lv_has ls 1 [(0, .ref (X.2.2.1 0))] := hl
  refine lv_aload_n hx hb dJ0_length_8abf5_0 rfl (lv_at hl 0 rfl) ?_
  refine vk_getf hx hb (hK.2.1.1 0 (by decide)).2.2.1 hS hown (hts (.fieldLink RJ0 9 "java/lang/String" "value" "[B") (by decide +kernel)) (fun _ h9 => h9) dJ0_length_8abf5_1 ?_
  refine W.eq (g2 := F0 m 4 ls [.ref (X.2.2.2 0)]) rfl ?_
  refine va_tlen (v := iI 3) hx hb (hK.2.1.1 0 (by decide)).2.2.2 hS rfl dJ0_length_8abf5_4 ?_
  refine lv_aload_n hx hb dJ0_length_8abf5_5 rfl (lv_at hl 0 rfl) ?_
  have hPm := zp_perm hP (zblk (show List.Perm ([] : List va_W) ([] ++ []) from List.Perm.refl _))
  have hDm := zd_perm hD (zblk (show List.Perm ([] : List va_W) ([] ++ []) from List.Perm.refl _))
  refine z_callVR (wr := zb []) (As := []) (rest := [.int (iI 3)]) ⟨hx, hb, hml, hown, hts⟩ (c_J0_coder_7d493_0 l X  ) (cwV 0 hts gJ0_length_8abf5_J0_coder_7d493 rfl rfl rfl (by decide +kernel) ⟨Nat.le_of_ble_eq_true rfl, Nat.le_of_ble_eq_true rfl⟩) (vk_recv hK.2.1 (i := 0) (by decide) hS) hl.1 dJ0_length_8abf5_6 rfl rfl (Nat.le_of_ble_eq_true rfl) ⟨Nat.le_of_ble_eq_true rfl, Nat.le_of_ble_eq_true rfl⟩ hS hA hK hPm hDm (fun _ H locs _ hP hD hS => ?_)
  have hP := zp_perm hP ((zblk (show List.Perm ([] : List va_W) ([] ++ []) from List.Perm.refl _))).symm
  have hD := zd_perm hD ((zblk (show List.Perm ([] : List va_W) ([] ++ []) from List.Perm.refl _))).symm
  have hP : va_P X.1 vwCl (zb []) H := hP
  have hD : va_D A (zb []) := hD
  refine W.eq (g2 := F0 m 9 ls [.int (iI 0), .int (iI 3)]) rfl ?_
  refine z_ishr0 hx hb dJ0_length_8abf5_9 ?_
  exact z_iret hQ hx hb hr hlocks hS ⟨Nat.le_of_ble_eq_true rfl, Nat.le_of_ble_eq_true rfl⟩ dJ0_length_8abf5_10 () rfl trivial hP hD
set_option maxHeartbeats 1000000 in
set_option maxRecDepth 100000 in
theorem c_J1_indexOfChar_4cfef_0 (l : Launch) (X : zX) (z : Int) (hz : 0 ≤ z ∧ z ≤ 126) : zF l X yJ1_indexOfChar_4cfef wsJ1_indexOfChar_4cfef 0 0 [.ref (X.2.2.2 0), .int (iI z), .int (iI 0), .int (iI 3)] (zb []) (some (.int (iI (idx0 z)))) (zb []) := by
  refine z_enter (cc := cJ1_indexOfChar_4cfef) (maxL := 6) (ret := (some .int)) (by decide) rfl (Nat.le_of_ble_eq_true rfl) ?_
  intro p e s m below meth c A ls Q hQ hE hl hP hD
  obtain ⟨hx, hb, hr, hml, hown, hts, hlocks, hnm, hA, hK⟩ := hE
  have hown : s.vm.findClass RJ1 = some m.cls := hown
  have hS : va_S A s.heap s.heap [] := va_S.rf
  have hl : lv_has ls 6 [(0, .ref (X.2.2.2 0)), (1, .int (iI z)), (2, .int (iI 0)), (3, .int (iI 3))] := hl
  refine lv_iload_n hx hb dJ1_indexOfChar_4cfef_0 rfl (lv_at hl 1 rfl) ?_
  refine z_i2b hx hb (by omega) dJ1_indexOfChar_4cfef_1 ?_
  refine lv_istore (lv' := [(4, .int (iI z)), (0, .ref (X.2.2.2 0)), (1, .int (iI z)), (2, .int (iI 0)), (3, .int (iI 3))]) hx hb dJ1_indexOfChar_4cfef_2 hl (by decide) rfl (fun ls hl => ?_)
  refine lv_iload_n hx hb dJ1_indexOfChar_4cfef_4 rfl (lv_at hl 3 rfl) ?_
  refine lv_istore (lv' := [(5, .int (iI 0)), (4, .int (iI z)), (0, .ref (X.2.2.2 0)), (1, .int (iI z)), (2, .int (iI 0)), (3, .int (iI 3))]) hx hb dJ1_indexOfChar_4cfef_5 hl (by decide) rfl (fun ls hl => ?_)
  refine lv_iload hx hb dJ1_indexOfChar_4cfef_7 (lv_at hl 0 rfl) ?_
  refine lv_iload_n hx hb dJ1_indexOfChar_4cfef_9 rfl (lv_at hl 5 rfl) ?_
  refine z_icmp_ge (tgt := 31) hx hb (by omega) dJ1_indexOfChar_4cfef_10 (by decide) (fun c_1 => ?_) (fun c_1 => ?_)
  · skip
    exact absurd c_1 (by omega)
  · skip
    refine lv_aload_n hx hb dJ1_indexOfChar_4cfef_13 rfl (lv_at hl 2 rfl) ?_
    refine lv_iload hx hb dJ1_indexOfChar_4cfef_14 (lv_at hl 0 rfl) ?_
    refine va_tb (v := .int (iI 119)) hx hb (hK.2.1.1 0 (by decide)).2.2.2 hS (iI_in (z := 0) (n := 3) (by decide)) rfl dJ1_indexOfChar_4cfef_16 ?_
    refine lv_iload hx hb dJ1_indexOfChar_4cfef_17 (lv_at hl 1 rfl) ?_
    refine z_icmp_ne (tgt := 25) hx hb (by omega) dJ1_indexOfChar_4cfef_19 (by decide) (fun c_2 => ?_) (fun c_2 => ?_)
    · skip
      refine z_iinc (k := 0) (lv' := [(5, .int (iI 1)), (4, .int (iI z)), (0, .ref (X.2.2.2 0)), (1, .int (iI z)), (2, .int (iI 0)), (3, .int (iI 3))]) hx hb dJ1_indexOfChar_4cfef_25 hl rfl (by decide) rfl (fun ls hl => ?_)
      refine lv_goto (tgt := 7) hx hb dJ1_indexOfChar_4cfef_28 (by decide) ?_
      refine lv_iload hx hb dJ1_indexOfChar_4cfef_7 (lv_at hl 0 rfl) ?_
      refine lv_iload_n hx hb dJ1_indexOfChar_4cfef_9 rfl (lv_at hl 5 rfl) ?_
      refine z_icmp_ge (tgt := 31) hx hb (by omega) dJ1_indexOfChar_4cfef_10 (by decide) (fun c_3 => ?_) (fun c_3 => ?_)
      · skip
        exact absurd c_3 (by omega)
      · skip
        refine lv_aload_n hx hb dJ1_indexOfChar_4cfef_13 rfl (lv_at hl 2 rfl) ?_
        refine lv_iload hx hb dJ1_indexOfChar_4cfef_14 (lv_at hl 0 rfl) ?_
        refine va_tb (v := .int (iI 99)) hx hb (hK.2.1.1 0 (by decide)).2.2.2 hS (iI_in (z := 1) (n := 3) (by decide)) rfl dJ1_indexOfChar_4cfef_16 ?_
        refine lv_iload hx hb dJ1_indexOfChar_4cfef_17 (lv_at hl 1 rfl) ?_
        refine z_icmp_ne (tgt := 25) hx hb (by omega) dJ1_indexOfChar_4cfef_19 (by decide) (fun c_4 => ?_) (fun c_4 => ?_)
        · skip
          refine z_iinc (k := 0) (lv' := [(5, .int (iI 2)), (4, .int (iI z)), (0, .ref (X.2.2.2 0)), (1, .int (iI z)), (2, .int (iI 0)), (3, .int (iI 3))]) hx hb dJ1_indexOfChar_4cfef_25 hl rfl (by decide) rfl (fun ls hl => ?_)
          refine lv_goto (tgt := 7) hx hb dJ1_indexOfChar_4cfef_28 (by decide) ?_
          refine lv_iload hx hb dJ1_indexOfChar_4cfef_7 (lv_at hl 0 rfl) ?_
          refine lv_iload_n hx hb dJ1_indexOfChar_4cfef_9 rfl (lv_at hl 5 rfl) ?_
          refine z_icmp_ge (tgt := 31) hx hb (by omega) dJ1_indexOfChar_4cfef_10 (by decide) (fun c_5 => ?_) (fun c_5 => ?_)
          · skip
            exact absurd c_5 (by omega)
          · skip
            refine lv_aload_n hx hb dJ1_indexOfChar_4cfef_13 rfl (lv_at hl 2 rfl) ?_
            refine lv_iload hx hb dJ1_indexOfChar_4cfef_14 (lv_at hl 0 rfl) ?_
            refine va_tb (v := .int (iI 102)) hx hb (hK.2.1.1 0 (by decide)).2.2.2 hS (iI_in (z := 2) (n := 3) (by decide)) rfl dJ1_indexOfChar_4cfef_16 ?_
            refine lv_iload hx hb dJ1_indexOfChar_4cfef_17 (lv_at hl 1 rfl) ?_
            refine z_icmp_ne (tgt := 25) hx hb (by omega) dJ1_indexOfChar_4cfef_19 (by decide) (fun c_6 => ?_) (fun c_6 => ?_)
            · skip
              refine z_iinc (k := 0) (lv' := [(5, .int (iI 3)), (4, .int (iI z)), (0, .ref (X.2.2.2 0)), (1, .int (iI z)), (2, .int (iI 0)), (3, .int (iI 3))]) hx hb dJ1_indexOfChar_4cfef_25 hl rfl (by decide) rfl (fun ls hl => ?_)
              refine lv_goto (tgt := 7) hx hb dJ1_indexOfChar_4cfef_28 (by decide) ?_
              refine lv_iload hx hb dJ1_indexOfChar_4cfef_7 (lv_at hl 0 rfl) ?_
              refine lv_iload_n hx hb dJ1_indexOfChar_4cfef_9 rfl (lv_at hl 5 rfl) ?_
              refine z_icmp_ge (tgt := 31) hx hb (by omega) dJ1_indexOfChar_4cfef_10 (by decide) (fun c_7 => ?_) (fun c_7 => ?_)
              · skip
                refine lv_iconst (v := iI (-1)) hx hb dJ1_indexOfChar_4cfef_31 (by decide) ?_
                exact z_iret hQ hx hb hr hlocks hS ⟨Nat.le_of_ble_eq_true rfl, Nat.le_of_ble_eq_true rfl⟩ dJ1_indexOfChar_4cfef_32 () (congrArg (fun z => some (Value.int (iI z))) (show (idx0 z : Int) = (-1) by unfold idx0; omega)) trivial hP hD
              · skip
                exact absurd c_7 (by omega)
            · skip
              refine lv_iload hx hb dJ1_indexOfChar_4cfef_22 (lv_at hl 0 rfl) ?_
              exact z_iret hQ hx hb hr hlocks hS ⟨Nat.le_of_ble_eq_true rfl, Nat.le_of_ble_eq_true rfl⟩ dJ1_indexOfChar_4cfef_24 () (congrArg (fun z => some (Value.int (iI z))) (show (idx0 z : Int) = 2 by unfold idx0; omega)) trivial hP hD
        · skip
          refine lv_iload hx hb dJ1_indexOfChar_4cfef_22 (lv_at hl 0 rfl) ?_
          exact z_iret hQ hx hb hr hlocks hS ⟨Nat.le_of_ble_eq_true rfl, Nat.le_of_ble_eq_true rfl⟩ dJ1_indexOfChar_4cfef_24 () (congrArg (fun z => some (Value.int (iI z))) (show (idx0 z : Int) = 1 by unfold idx0; omega)) trivial hP hD
    · skip
      refine lv_iload hx hb dJ1_indexOfChar_4cfef_22 (lv_at hl 0 rfl) ?_
      exact z_iret hQ hx hb hr hlocks hS ⟨Nat.le_of_ble_eq_true rfl, Nat.le_of_ble_eq_true rfl⟩ dJ1_indexOfChar_4cfef_24 () (congrArg (fun z => some (Value.int (iI z))) (show (idx0 z : Int) = 0 by unfold idx0; omega)) trivial hP hD
set_option maxHeartbeats 1000000 in
set_option maxRecDepth 100000 in
theorem c_J1_indexOf_4cfef_0 (l : Launch) (X : zX) (z : Int) (hz : 0 ≤ z ∧ z ≤ 126) : zF l X yJ1_indexOf_4cfef wsJ1_indexOf_4cfef 1 40 [.ref (X.2.2.2 0), .int (iI z), .int (iI 0), .int (iI 3)] (zb []) (some (.int (iI (idx0 z)))) (zb []) := by
  refine z_enter (cc := cJ1_indexOf_4cfef) (maxL := 4) (ret := (some .int)) (by decide) rfl (Nat.le_of_ble_eq_true rfl) ?_
  intro p e s m below meth c A ls Q hQ hE hl hP hD
  obtain ⟨hx, hb, hr, hml, hown, hts, hlocks, hnm, hA, hK⟩ := hE
  have hown : s.vm.findClass RJ1 = some m.cls := hown
  have hS : va_S A s.heap s.heap [] := va_S.rf
  have hl : lv_has ls 4 [(0, .ref (X.2.2.2 0)), (1, .int (iI z)), (2, .int (iI 0)), (3, .int (iI 3))] := hl
  refine lv_iload_n hx hb dJ1_indexOf_4cfef_0 rfl (lv_at hl 1 rfl) ?_
  have hPm := zp_perm hP (zblk (show List.Perm ([] : List va_W) ([] ++ []) from List.Perm.refl _))
  have hDm := zd_perm hD (zblk (show List.Perm ([] : List va_W) ([] ++ []) from List.Perm.refl _))
  refine z_callS (wr := zb []) (As := [.int (iI z)]) (rest := []) ⟨hx, hb, hml, hown, hts⟩ (c_J1_canEncode_9a6ad l X z (by omega)) (va_cwS 1 hts gJ1_indexOf_4cfef_J1_canEncode_9a6ad rfl rfl rfl (by decide +kernel) ⟨Nat.le_of_ble_eq_true rfl, Nat.le_of_ble_eq_true rfl⟩) hl.1 dJ1_indexOf_4cfef_1 rfl rfl (Nat.le_of_ble_eq_true rfl) ⟨Nat.le_of_ble_eq_true rfl, Nat.le_of_ble_eq_true rfl⟩ hS hA hK hPm hDm (fun _ H locs _ hP hD hS => ?_)
  have hP := zp_perm hP ((zblk (show List.Perm ([] : List va_W) ([] ++ []) from List.Perm.refl _))).symm
  have hD := zd_perm hD ((zblk (show List.Perm ([] : List va_W) ([] ++ []) from List.Perm.refl _))).symm
  have hP : va_P X.1 vwCl (zb []) H := hP
  have hD : va_D A (zb []) := hD
  refine W.eq (g2 := F0 m 4 ls [.int (iI 1)]) rfl ?_
  refine z_if_ne (tgt := 9) hx hb (by omega) dJ1_indexOf_4cfef_4 (by decide) (fun c_1 => ?_) (fun c_1 => ?_)
  · skip
    refine lv_iload_n hx hb dJ1_indexOf_4cfef_9 rfl (lv_at hl 2 rfl) ?_
    refine lv_iconst (v := iI 0) hx hb dJ1_indexOf_4cfef_10 (by decide) ?_
    refine z_mmax hx hb (hml.trans hl.1.symm) hown (hts (.methodLink RJ1 92 Lib.Math.max.name) (by decide +kernel)) (hts (.static Lib.Math.max.name) (by decide +kernel)) (hts (.initialized "java/lang/Math") (by decide +kernel)) (hts (.code Lib.Math.max.name Lib.Math.max.code 2 (some .int)) (by decide +kernel)) (Nat.le_of_ble_eq_true rfl) (Nat.le_of_ble_eq_true rfl) (Nat.le_of_ble_eq_true rfl) (Nat.le_of_ble_eq_true rfl) (by omega) dJ1_indexOf_4cfef_11 ?_
    refine W.eq (g2 := F0 m 14 ls [.int (iI 0)]) rfl ?_
    refine lv_istore_n (lv' := [(2, .int (iI 0)), (0, .ref (X.2.2.2 0)), (1, .int (iI z)), (3, .int (iI 3))]) hx hb dJ1_indexOf_4cfef_14 rfl hl (by decide) rfl (fun ls hl => ?_)
    refine lv_iload_n hx hb dJ1_indexOf_4cfef_15 rfl (lv_at hl 3 rfl) ?_
    refine lv_aload_n hx hb dJ1_indexOf_4cfef_16 rfl (lv_at hl 1 rfl) ?_
    refine va_tlen (v := iI 3) hx hb (hK.2.1.1 0 (by decide)).2.2.2 hS rfl dJ1_indexOf_4cfef_17 ?_
    refine z_mmin hx hb (hml.trans hl.1.symm) hown (hts (.methodLink RJ1 38 Lib.Math.min.name) (by decide +kernel)) (hts (.static Lib.Math.min.name) (by decide +kernel)) (hts (.initialized "java/lang/Math") (by decide +kernel)) (hts (.code Lib.Math.min.name Lib.Math.min.code 2 (some .int)) (by decide +kernel)) (Nat.le_of_ble_eq_true rfl) (Nat.le_of_ble_eq_true rfl) (Nat.le_of_ble_eq_true rfl) (Nat.le_of_ble_eq_true rfl) (by omega) dJ1_indexOf_4cfef_18 ?_
    refine W.eq (g2 := F0 m 21 ls [.int (iI 3)]) rfl ?_
    refine lv_istore_n (lv' := [(3, .int (iI 3)), (2, .int (iI 0)), (0, .ref (X.2.2.2 0)), (1, .int (iI z))]) hx hb dJ1_indexOf_4cfef_21 rfl hl (by decide) rfl (fun ls hl => ?_)
    refine lv_iload_n hx hb dJ1_indexOf_4cfef_22 rfl (lv_at hl 1 rfl) ?_
    refine lv_iload_n hx hb dJ1_indexOf_4cfef_23 rfl (lv_at hl 0 rfl) ?_
    refine z_icmp_lt (tgt := 29) hx hb (by omega) dJ1_indexOf_4cfef_24 (by decide) (fun c_2 => ?_) (fun c_2 => ?_)
    · skip
      refine lv_aload_n hx hb dJ1_indexOf_4cfef_29 rfl (lv_at hl 2 rfl) ?_
      refine lv_iload_n hx hb dJ1_indexOf_4cfef_30 rfl (lv_at hl 3 rfl) ?_
      refine lv_iload_n hx hb dJ1_indexOf_4cfef_31 rfl (lv_at hl 1 rfl) ?_
      refine lv_iload_n hx hb dJ1_indexOf_4cfef_32 rfl (lv_at hl 0 rfl) ?_
      have hPm := zp_perm hP (zblk (show List.Perm ([] : List va_W) ([] ++ []) from List.Perm.refl _))
      have hDm := zd_perm hD (zblk (show List.Perm ([] : List va_W) ([] ++ []) from List.Perm.refl _))
      refine z_callS (wr := zb []) (As := [.ref (X.2.2.2 0), .int (iI z), .int (iI 0), .int (iI 3)]) (rest := []) ⟨hx, hb, hml, hown, hts⟩ (c_J1_indexOfChar_4cfef_0 l X z (by omega)) (va_cwS 4 hts gJ1_indexOf_4cfef_J1_indexOfChar_4cfef rfl rfl rfl (by decide +kernel) ⟨Nat.le_of_ble_eq_true rfl, Nat.le_of_ble_eq_true rfl⟩) hl.1 dJ1_indexOf_4cfef_33 rfl rfl (Nat.le_of_ble_eq_true rfl) ⟨Nat.le_of_ble_eq_true rfl, Nat.le_of_ble_eq_true rfl⟩ hS hA hK hPm hDm (fun _ H locs _ hP hD hS => ?_)
      have hP := zp_perm hP ((zblk (show List.Perm ([] : List va_W) ([] ++ []) from List.Perm.refl _))).symm
      have hD := zd_perm hD ((zblk (show List.Perm ([] : List va_W) ([] ++ []) from List.Perm.refl _))).symm
      have hP : va_P X.1 vwCl (zb []) H := hP
      have hD : va_D A (zb []) := hD
      refine W.eq (g2 := F0 m 36 ls [.int (iI (idx0 z))]) rfl ?_
      exact z_iret hQ hx hb hr hlocks hS ⟨Nat.le_of_ble_eq_true rfl, Nat.le_of_ble_eq_true rfl⟩ dJ1_indexOf_4cfef_36 () rfl trivial hP hD
    · skip
      exact absurd c_2 (by omega)
  · skip
    exact absurd c_1 (by omega)
set_option maxHeartbeats 1000000 in
set_option maxRecDepth 100000 in
theorem c_J0_indexOf_7cf53_0 (l : Launch) (X : zX) (z : Int) (hz : 0 ≤ z ∧ z ≤ 126) : zF l X yJ0_indexOf_7cf53 wsJ0_indexOf_7cf53 2 63 [.ref (X.2.2.1 0), .int (iI z), .int (iI 0)] (zb []) (some (.int (iI (idx0 z)))) (zb []) := by
  refine z_enter (cc := cJ0_indexOf_7cf53) (maxL := 3) (ret := (some .int)) (by decide) rfl (Nat.le_of_ble_eq_true rfl) ?_
  intro p e s m below meth c A ls Q hQ hE hl hP hD
  obtain ⟨hx, hb, hr, hml, hown, hts, hlocks, hnm, hA, hK⟩ := hE
  have hown : s.vm.findClass RJ0 = some m.cls := hown
  have hS : va_S A s.heap s.heap [] := va_S.rf
  have hl : lv_has ls 3 [(0, .ref (X.2.2.1 0)), (1, .int (iI z)), (2, .int (iI 0))] := hl
  refine lv_aload_n hx hb dJ0_indexOf_7cf53_0 rfl (lv_at hl 0 rfl) ?_
  have hPm := zp_perm hP (zblk (show List.Perm ([] : List va_W) ([] ++ []) from List.Perm.refl _))
  have hDm := zd_perm hD (zblk (show List.Perm ([] : List va_W) ([] ++ []) from List.Perm.refl _))
  refine z_callVR (wr := zb []) (As := []) (rest := []) ⟨hx, hb, hml, hown, hts⟩ (c_J0_isLatin1_aae02_0 l X  ) (cwV 0 hts gJ0_indexOf_7cf53_J0_isLatin1_aae02 rfl rfl rfl (by decide +kernel) ⟨Nat.le_of_ble_eq_true rfl, Nat.le_of_ble_eq_true rfl⟩) (vk_recv hK.2.1 (i := 0) (by decide) hS) hl.1 dJ0_indexOf_7cf53_1 rfl rfl (Nat.le_of_ble_eq_true rfl) ⟨Nat.le_of_ble_eq_true rfl, Nat.le_of_ble_eq_true rfl⟩ hS hA hK hPm hDm (fun _ H locs _ hP hD hS => ?_)
  have hP := zp_perm hP ((zblk (show List.Perm ([] : List va_W) ([] ++ []) from List.Perm.refl _))).symm
  have hD := zd_perm hD ((zblk (show List.Perm ([] : List va_W) ([] ++ []) from List.Perm.refl _))).symm
  have hP : va_P X.1 vwCl (zb []) H := hP
  have hD : va_D A (zb []) := hD
  refine W.eq (g2 := F0 m 4 ls [.int (iI 1)]) rfl ?_
  refine z_if_eq (tgt := 23) hx hb (by omega) dJ0_indexOf_7cf53_4 (by decide) (fun c_1 => ?_) (fun c_1 => ?_)
  · skip
    exact absurd c_1 (by omega)
  · skip
    refine lv_aload_n hx hb dJ0_indexOf_7cf53_7 rfl (lv_at hl 0 rfl) ?_
    refine vk_getf hx hb (hK.2.1.1 0 (by decide)).2.2.1 hS hown (hts (.fieldLink RJ0 9 "java/lang/String" "value" "[B") (by decide +kernel)) (fun _ h9 => h9) dJ0_indexOf_7cf53_8 ?_
    refine W.eq (g2 := F0 m 11 ls [.ref (X.2.2.2 0)]) rfl ?_
    refine lv_iload_n hx hb dJ0_indexOf_7cf53_11 rfl (lv_at hl 1 rfl) ?_
    refine lv_iload_n hx hb dJ0_indexOf_7cf53_12 rfl (lv_at hl 2 rfl) ?_
    refine lv_aload_n hx hb dJ0_indexOf_7cf53_13 rfl (lv_at hl 0 rfl) ?_
    have hPm := zp_perm hP (zblk (show List.Perm ([] : List va_W) ([] ++ []) from List.Perm.refl _))
    have hDm := zd_perm hD (zblk (show List.Perm ([] : List va_W) ([] ++ []) from List.Perm.refl _))
    refine z_callVR (wr := zb []) (As := []) (rest := [.int (iI 0), .int (iI z), .ref (X.2.2.2 0)]) ⟨hx, hb, hml, hown, hts⟩ (c_J0_length_8abf5_0 l X  ) (cwV 0 hts gJ0_indexOf_7cf53_J0_length_8abf5 rfl rfl rfl (by decide +kernel) ⟨Nat.le_of_ble_eq_true rfl, Nat.le_of_ble_eq_true rfl⟩) (vk_recv hK.2.1 (i := 0) (by decide) hS) hl.1 dJ0_indexOf_7cf53_14 rfl rfl (Nat.le_of_ble_eq_true rfl) ⟨Nat.le_of_ble_eq_true rfl, Nat.le_of_ble_eq_true rfl⟩ hS hA hK hPm hDm (fun _ H locs _ hP hD hS => ?_)
    have hP := zp_perm hP ((zblk (show List.Perm ([] : List va_W) ([] ++ []) from List.Perm.refl _))).symm
    have hD := zd_perm hD ((zblk (show List.Perm ([] : List va_W) ([] ++ []) from List.Perm.refl _))).symm
    have hP : va_P X.1 vwCl (zb []) H := hP
    have hD : va_D A (zb []) := hD
    refine W.eq (g2 := F0 m 17 ls [.int (iI 3), .int (iI 0), .int (iI z), .ref (X.2.2.2 0)]) rfl ?_
    have hPm := zp_perm hP (zblk (show List.Perm ([] : List va_W) ([] ++ []) from List.Perm.refl _))
    have hDm := zd_perm hD (zblk (show List.Perm ([] : List va_W) ([] ++ []) from List.Perm.refl _))
    refine z_callS (wr := zb []) (As := [.ref (X.2.2.2 0), .int (iI z), .int (iI 0), .int (iI 3)]) (rest := []) ⟨hx, hb, hml, hown, hts⟩ (c_J1_indexOf_4cfef_0 l X z (by omega)) (va_cwS 4 hts gJ0_indexOf_7cf53_J1_indexOf_4cfef rfl rfl rfl (by decide +kernel) ⟨Nat.le_of_ble_eq_true rfl, Nat.le_of_ble_eq_true rfl⟩) hl.1 dJ0_indexOf_7cf53_17 rfl rfl (Nat.le_of_ble_eq_true rfl) ⟨Nat.le_of_ble_eq_true rfl, Nat.le_of_ble_eq_true rfl⟩ hS hA hK hPm hDm (fun _ H locs _ hP hD hS => ?_)
    have hP := zp_perm hP ((zblk (show List.Perm ([] : List va_W) ([] ++ []) from List.Perm.refl _))).symm
    have hD := zd_perm hD ((zblk (show List.Perm ([] : List va_W) ([] ++ []) from List.Perm.refl _))).symm
    have hP : va_P X.1 vwCl (zb []) H := hP
    have hD : va_D A (zb []) := hD
    refine W.eq (g2 := F0 m 20 ls [.int (iI (idx0 z))]) rfl ?_
    refine lv_goto (tgt := 36) hx hb dJ0_indexOf_7cf53_20 (by decide) ?_
    exact z_iret hQ hx hb hr hlocks hS ⟨Nat.le_of_ble_eq_true rfl, Nat.le_of_ble_eq_true rfl⟩ dJ0_indexOf_7cf53_36 () rfl trivial hP hD
set_option maxHeartbeats 1000000 in
set_option maxRecDepth 100000 in
theorem c_J0_indexOf_0f7a4_0 (l : Launch) (X : zX) (z : Int) (hz : 0 ≤ z ∧ z ≤ 126) : zF l X yJ0_indexOf_0f7a4 wsJ0_indexOf_0f7a4 3 85 [.ref (X.2.2.1 0), .int (iI z)] (zb []) (some (.int (iI (idx0 z)))) (zb []) := by
  refine z_enter (cc := cJ0_indexOf_0f7a4) (maxL := 2) (ret := (some .int)) (by decide) rfl (Nat.le_of_ble_eq_true rfl) ?_
  intro p e s m below meth c A ls Q hQ hE hl hP hD
  obtain ⟨hx, hb, hr, hml, hown, hts, hlocks, hnm, hA, hK⟩ := hE
  have hown : s.vm.findClass RJ0 = some m.cls := hown
  have hS : va_S A s.heap s.heap [] := va_S.rf
  have hl : lv_has ls 2 [(0, .ref (X.2.2.1 0)), (1, .int (iI z))] := hl
  refine lv_aload_n hx hb dJ0_indexOf_0f7a4_0 rfl (lv_at hl 0 rfl) ?_
  refine lv_iload_n hx hb dJ0_indexOf_0f7a4_1 rfl (lv_at hl 1 rfl) ?_
  refine lv_iconst (v := iI 0) hx hb dJ0_indexOf_0f7a4_2 (by decide) ?_
  have hPm := zp_perm hP (zblk (show List.Perm ([] : List va_W) ([] ++ []) from List.Perm.refl _))
  have hDm := zd_perm hD (zblk (show List.Perm ([] : List va_W) ([] ++ []) from List.Perm.refl _))
  refine z_callVR (wr := zb []) (As := [.int (iI z), .int (iI 0)]) (rest := []) ⟨hx, hb, hml, hown, hts⟩ (c_J0_indexOf_7cf53_0 l X z (by omega)) (cwV 2 hts gJ0_indexOf_0f7a4_J0_indexOf_7cf53 rfl rfl rfl (by decide +kernel) ⟨Nat.le_of_ble_eq_true rfl, Nat.le_of_ble_eq_true rfl⟩) (vk_recv hK.2.1 (i := 0) (by decide) hS) hl.1 dJ0_indexOf_0f7a4_3 rfl rfl (Nat.le_of_ble_eq_true rfl) ⟨Nat.le_of_ble_eq_true rfl, Nat.le_of_ble_eq_true rfl⟩ hS hA hK hPm hDm (fun _ H locs _ hP hD hS => ?_)
  have hP := zp_perm hP ((zblk (show List.Perm ([] : List va_W) ([] ++ []) from List.Perm.refl _))).symm
  have hD := zd_perm hD ((zblk (show List.Perm ([] : List va_W) ([] ++ []) from List.Perm.refl _))).symm
  have hP : va_P X.1 vwCl (zb []) H := hP
  have hD : va_D A (zb []) := hD
  refine W.eq (g2 := F0 m 6 ls [.int (iI (idx0 z))]) rfl ?_
  exact z_iret hQ hx hb hr hlocks hS ⟨Nat.le_of_ble_eq_true rfl, Nat.le_of_ble_eq_true rfl⟩ dJ0_indexOf_0f7a4_6 () rfl trivial hP hD
set_option maxHeartbeats 1000000 in
set_option maxRecDepth 100000 in
theorem c_J0_isLatin1_aae02_1 (l : Launch) (X : zX)   : zF l X yJ0_isLatin1_aae02 wsJ0_isLatin1_aae02 0 0 [.ref (X.2.2.1 1)] (zb []) (some (.int (iI 1))) (zb []) := by
  refine z_enter (cc := cJ0_isLatin1_aae02) (maxL := 1) (ret := (some .boolean)) (by decide) rfl (Nat.le_of_ble_eq_true rfl) ?_
  intro p e s m below meth c A ls Q hQ hE hl hP hD
  obtain ⟨hx, hb, hr, hml, hown, hts, hlocks, hnm, hA, hK⟩ := hE
  have hown : s.vm.findClass RJ0 = some m.cls := hown
  have hS : va_S A s.heap s.heap [] := va_S.rf
  have hl : lv_has ls 1 [(0, .ref (X.2.2.1 1))] := hl
  refine va_gets hx hb hK.2.2.2.2.1 hS hown (hts (.fieldLink RJ0 38 "java/lang/String" "COMPACT_STRINGS" "Z") (by decide +kernel)) (fun _ h9 => h9) dJ0_isLatin1_aae02_0 ?_
  refine W.eq (g2 := F0 m 3 ls [.int (iI 1)]) rfl ?_
  refine z_if_eq (tgt := 17) hx hb (by omega) dJ0_isLatin1_aae02_3 (by decide) (fun c_1 => ?_) (fun c_1 => ?_)
  · skip
    exact absurd c_1 (by omega)
  · skip
    refine lv_aload_n hx hb dJ0_isLatin1_aae02_6 rfl (lv_at hl 0 rfl) ?_
    refine vk_getf hx hb (hK.2.1.1 1 (by decide)).2.1 hS hown (hts (.fieldLink RJ0 15 "java/lang/String" "coder" "B") (by decide +kernel)) (fun _ h9 => h9) dJ0_isLatin1_aae02_7 ?_
    refine W.eq (g2 := F0 m 10 ls [.int (iI 0)]) rfl ?_
    refine z_if_ne (tgt := 17) hx hb (by omega) dJ0_isLatin1_aae02_10 (by decide) (fun c_2 => ?_) (fun c_2 => ?_)
    · skip
      exact absurd c_2 (by omega)
    · skip
      refine lv_iconst (v := iI 1) hx hb dJ0_isLatin1_aae02_13 (by decide) ?_
      refine lv_goto (tgt := 18) hx hb dJ0_isLatin1_aae02_14 (by decide) ?_
      exact z_zret (ty := .boolean) hQ hx hb hr (by rfl) hlocks hS ⟨Nat.le_of_ble_eq_true rfl, Nat.le_of_ble_eq_true rfl⟩ dJ0_isLatin1_aae02_18 () rfl trivial hP hD
set_option maxHeartbeats 1000000 in
set_option maxRecDepth 100000 in
theorem c_J0_coder_7d493_1 (l : Launch) (X : zX)   : zF l X yJ0_coder_7d493 wsJ0_coder_7d493 0 0 [.ref (X.2.2.1 1)] (zb []) (some (.int (iI 0))) (zb []) := by
  refine z_enter (cc := cJ0_coder_7d493) (maxL := 1) (ret := (some .byte)) (by decide) rfl (Nat.le_of_ble_eq_true rfl) ?_
  intro p e s m below meth c A ls Q hQ hE hl hP hD
  obtain ⟨hx, hb, hr, hml, hown, hts, hlocks, hnm, hA, hK⟩ := hE
  have hown : s.vm.findClass RJ0 = some m.cls := hown
  have hS : va_S A s.heap s.heap [] := va_S.rf
  have hl : lv_has ls 1 [(0, .ref (X.2.2.1 1))] := hl
  refine va_gets hx hb hK.2.2.2.2.1 hS hown (hts (.fieldLink RJ0 38 "java/lang/String" "COMPACT_STRINGS" "Z") (by decide +kernel)) (fun _ h9 => h9) dJ0_coder_7d493_0 ?_
  refine W.eq (g2 := F0 m 3 ls [.int (iI 1)]) rfl ?_
  refine z_if_eq (tgt := 13) hx hb (by omega) dJ0_coder_7d493_3 (by decide) (fun c_1 => ?_) (fun c_1 => ?_)
  · skip
    exact absurd c_1 (by omega)
  · skip
    refine lv_aload_n hx hb dJ0_coder_7d493_6 rfl (lv_at hl 0 rfl) ?_
    refine vk_getf hx hb (hK.2.1.1 1 (by decide)).2.1 hS hown (hts (.fieldLink RJ0 15 "java/lang/String" "coder" "B") (by decide +kernel)) (fun _ h9 => h9) dJ0_coder_7d493_7 ?_
    refine W.eq (g2 := F0 m 10 ls [.int (iI 0)]) rfl ?_
    refine lv_goto (tgt := 14) hx hb dJ0_coder_7d493_10 (by decide) ?_
    exact z_zret (ty := .byte) hQ hx hb hr (by rfl) hlocks hS ⟨Nat.le_of_ble_eq_true rfl, Nat.le_of_ble_eq_true rfl⟩ dJ0_coder_7d493_14 () rfl trivial hP hD
set_option maxHeartbeats 1000000 in
set_option maxRecDepth 100000 in
theorem c_J0_length_8abf5_1 (l : Launch) (X : zX)   : zF l X yJ0_length_8abf5 wsJ0_length_8abf5 1 20 [.ref (X.2.2.1 1)] (zb []) (some (.int (iI 5))) (zb []) := by
  refine z_enter (cc := cJ0_length_8abf5) (maxL := 1) (ret := (some .int)) (by decide) rfl (Nat.le_of_ble_eq_true rfl) ?_
  intro p e s m below meth c A ls Q hQ hE hl hP hD
  obtain ⟨hx, hb, hr, hml, hown, hts, hlocks, hnm, hA, hK⟩ := hE
  have hown : s.vm.findClass RJ0 = some m.cls := hown
  have hS : va_S A s.heap s.heap [] := va_S.rf
  have hl : lv_has ls 1 [(0, .ref (X.2.2.1 1))] := hl
  refine lv_aload_n hx hb dJ0_length_8abf5_0 rfl (lv_at hl 0 rfl) ?_
  refine vk_getf hx hb (hK.2.1.1 1 (by decide)).2.2.1 hS hown (hts (.fieldLink RJ0 9 "java/lang/String" "value" "[B") (by decide +kernel)) (fun _ h9 => h9) dJ0_length_8abf5_1 ?_
  refine W.eq (g2 := F0 m 4 ls [.ref (X.2.2.2 1)]) rfl ?_
  refine va_tlen (v := iI 5) hx hb (hK.2.1.1 1 (by decide)).2.2.2 hS rfl dJ0_length_8abf5_4 ?_
  refine lv_aload_n hx hb dJ0_length_8abf5_5 rfl (lv_at hl 0 rfl) ?_
  have hPm := zp_perm hP (zblk (show List.Perm ([] : List va_W) ([] ++ []) from List.Perm.refl _))
  have hDm := zd_perm hD (zblk (show List.Perm ([] : List va_W) ([] ++ []) from List.Perm.refl _))
  refine z_callVR (wr := zb []) (As := []) (rest := [.int (iI 5)]) ⟨hx, hb, hml, hown, hts⟩ (c_J0_coder_7d493_1 l X  ) (cwV 0 hts gJ0_length_8abf5_J0_coder_7d493 rfl rfl rfl (by decide +kernel) ⟨Nat.le_of_ble_eq_true rfl, Nat.le_of_ble_eq_true rfl⟩) (vk_recv hK.2.1 (i := 1) (by decide) hS) hl.1 dJ0_length_8abf5_6 rfl rfl (Nat.le_of_ble_eq_true rfl) ⟨Nat.le_of_ble_eq_true rfl, Nat.le_of_ble_eq_true rfl⟩ hS hA hK hPm hDm (fun _ H locs _ hP hD hS => ?_)
  have hP := zp_perm hP ((zblk (show List.Perm ([] : List va_W) ([] ++ []) from List.Perm.refl _))).symm
  have hD := zd_perm hD ((zblk (show List.Perm ([] : List va_W) ([] ++ []) from List.Perm.refl _))).symm
  have hP : va_P X.1 vwCl (zb []) H := hP
  have hD : va_D A (zb []) := hD
  refine W.eq (g2 := F0 m 9 ls [.int (iI 0), .int (iI 5)]) rfl ?_
  refine z_ishr0 hx hb dJ0_length_8abf5_9 ?_
  exact z_iret hQ hx hb hr hlocks hS ⟨Nat.le_of_ble_eq_true rfl, Nat.le_of_ble_eq_true rfl⟩ dJ0_length_8abf5_10 () rfl trivial hP hD
set_option maxHeartbeats 1000000 in
set_option maxRecDepth 100000 in
theorem c_J1_indexOfChar_4cfef_1 (l : Launch) (X : zX) (z : Int) (hz : 0 ≤ z ∧ z ≤ 126) : zF l X yJ1_indexOfChar_4cfef wsJ1_indexOfChar_4cfef 0 0 [.ref (X.2.2.2 1), .int (iI z), .int (iI 0), .int (iI 5)] (zb []) (some (.int (iI (idx1 z)))) (zb []) := by
  refine z_enter (cc := cJ1_indexOfChar_4cfef) (maxL := 6) (ret := (some .int)) (by decide) rfl (Nat.le_of_ble_eq_true rfl) ?_
  intro p e s m below meth c A ls Q hQ hE hl hP hD
  obtain ⟨hx, hb, hr, hml, hown, hts, hlocks, hnm, hA, hK⟩ := hE
  have hown : s.vm.findClass RJ1 = some m.cls := hown
  have hS : va_S A s.heap s.heap [] := va_S.rf
  have hl : lv_has ls 6 [(0, .ref (X.2.2.2 1)), (1, .int (iI z)), (2, .int (iI 0)), (3, .int (iI 5))] := hl
  refine lv_iload_n hx hb dJ1_indexOfChar_4cfef_0 rfl (lv_at hl 1 rfl) ?_
  refine z_i2b hx hb (by omega) dJ1_indexOfChar_4cfef_1 ?_
  refine lv_istore (lv' := [(4, .int (iI z)), (0, .ref (X.2.2.2 1)), (1, .int (iI z)), (2, .int (iI 0)), (3, .int (iI 5))]) hx hb dJ1_indexOfChar_4cfef_2 hl (by decide) rfl (fun ls hl => ?_)
  refine lv_iload_n hx hb dJ1_indexOfChar_4cfef_4 rfl (lv_at hl 3 rfl) ?_
  refine lv_istore (lv' := [(5, .int (iI 0)), (4, .int (iI z)), (0, .ref (X.2.2.2 1)), (1, .int (iI z)), (2, .int (iI 0)), (3, .int (iI 5))]) hx hb dJ1_indexOfChar_4cfef_5 hl (by decide) rfl (fun ls hl => ?_)
  refine lv_iload hx hb dJ1_indexOfChar_4cfef_7 (lv_at hl 0 rfl) ?_
  refine lv_iload_n hx hb dJ1_indexOfChar_4cfef_9 rfl (lv_at hl 5 rfl) ?_
  refine z_icmp_ge (tgt := 31) hx hb (by omega) dJ1_indexOfChar_4cfef_10 (by decide) (fun c_1 => ?_) (fun c_1 => ?_)
  · skip
    exact absurd c_1 (by omega)
  · skip
    refine lv_aload_n hx hb dJ1_indexOfChar_4cfef_13 rfl (lv_at hl 2 rfl) ?_
    refine lv_iload hx hb dJ1_indexOfChar_4cfef_14 (lv_at hl 0 rfl) ?_
    refine va_tb (v := .int (iI 99)) hx hb (hK.2.1.1 1 (by decide)).2.2.2 hS (iI_in (z := 0) (n := 5) (by decide)) rfl dJ1_indexOfChar_4cfef_16 ?_
    refine lv_iload hx hb dJ1_indexOfChar_4cfef_17 (lv_at hl 1 rfl) ?_
    refine z_icmp_ne (tgt := 25) hx hb (by omega) dJ1_indexOfChar_4cfef_19 (by decide) (fun c_2 => ?_) (fun c_2 => ?_)
    · skip
      refine z_iinc (k := 0) (lv' := [(5, .int (iI 1)), (4, .int (iI z)), (0, .ref (X.2.2.2 1)), (1, .int (iI z)), (2, .int (iI 0)), (3, .int (iI 5))]) hx hb dJ1_indexOfChar_4cfef_25 hl rfl (by decide) rfl (fun ls hl => ?_)
      refine lv_goto (tgt := 7) hx hb dJ1_indexOfChar_4cfef_28 (by decide) ?_
      refine lv_iload hx hb dJ1_indexOfChar_4cfef_7 (lv_at hl 0 rfl) ?_
      refine lv_iload_n hx hb dJ1_indexOfChar_4cfef_9 rfl (lv_at hl 5 rfl) ?_
      refine z_icmp_ge (tgt := 31) hx hb (by omega) dJ1_indexOfChar_4cfef_10 (by decide) (fun c_3 => ?_) (fun c_3 => ?_)
      · skip
        exact absurd c_3 (by omega)
      · skip
        refine lv_aload_n hx hb dJ1_indexOfChar_4cfef_13 rfl (lv_at hl 2 rfl) ?_
        refine lv_iload hx hb dJ1_indexOfChar_4cfef_14 (lv_at hl 0 rfl) ?_
        refine va_tb (v := .int (iI 104)) hx hb (hK.2.1.1 1 (by decide)).2.2.2 hS (iI_in (z := 1) (n := 5) (by decide)) rfl dJ1_indexOfChar_4cfef_16 ?_
        refine lv_iload hx hb dJ1_indexOfChar_4cfef_17 (lv_at hl 1 rfl) ?_
        refine z_icmp_ne (tgt := 25) hx hb (by omega) dJ1_indexOfChar_4cfef_19 (by decide) (fun c_4 => ?_) (fun c_4 => ?_)
        · skip
          refine z_iinc (k := 0) (lv' := [(5, .int (iI 2)), (4, .int (iI z)), (0, .ref (X.2.2.2 1)), (1, .int (iI z)), (2, .int (iI 0)), (3, .int (iI 5))]) hx hb dJ1_indexOfChar_4cfef_25 hl rfl (by decide) rfl (fun ls hl => ?_)
          refine lv_goto (tgt := 7) hx hb dJ1_indexOfChar_4cfef_28 (by decide) ?_
          refine lv_iload hx hb dJ1_indexOfChar_4cfef_7 (lv_at hl 0 rfl) ?_
          refine lv_iload_n hx hb dJ1_indexOfChar_4cfef_9 rfl (lv_at hl 5 rfl) ?_
          refine z_icmp_ge (tgt := 31) hx hb (by omega) dJ1_indexOfChar_4cfef_10 (by decide) (fun c_5 => ?_) (fun c_5 => ?_)
          · skip
            exact absurd c_5 (by omega)
          · skip
            refine lv_aload_n hx hb dJ1_indexOfChar_4cfef_13 rfl (lv_at hl 2 rfl) ?_
            refine lv_iload hx hb dJ1_indexOfChar_4cfef_14 (lv_at hl 0 rfl) ?_
            refine va_tb (v := .int (iI 115)) hx hb (hK.2.1.1 1 (by decide)).2.2.2 hS (iI_in (z := 2) (n := 5) (by decide)) rfl dJ1_indexOfChar_4cfef_16 ?_
            refine lv_iload hx hb dJ1_indexOfChar_4cfef_17 (lv_at hl 1 rfl) ?_
            refine z_icmp_ne (tgt := 25) hx hb (by omega) dJ1_indexOfChar_4cfef_19 (by decide) (fun c_6 => ?_) (fun c_6 => ?_)
            · skip
              refine z_iinc (k := 0) (lv' := [(5, .int (iI 3)), (4, .int (iI z)), (0, .ref (X.2.2.2 1)), (1, .int (iI z)), (2, .int (iI 0)), (3, .int (iI 5))]) hx hb dJ1_indexOfChar_4cfef_25 hl rfl (by decide) rfl (fun ls hl => ?_)
              refine lv_goto (tgt := 7) hx hb dJ1_indexOfChar_4cfef_28 (by decide) ?_
              refine lv_iload hx hb dJ1_indexOfChar_4cfef_7 (lv_at hl 0 rfl) ?_
              refine lv_iload_n hx hb dJ1_indexOfChar_4cfef_9 rfl (lv_at hl 5 rfl) ?_
              refine z_icmp_ge (tgt := 31) hx hb (by omega) dJ1_indexOfChar_4cfef_10 (by decide) (fun c_7 => ?_) (fun c_7 => ?_)
              · skip
                exact absurd c_7 (by omega)
              · skip
                refine lv_aload_n hx hb dJ1_indexOfChar_4cfef_13 rfl (lv_at hl 2 rfl) ?_
                refine lv_iload hx hb dJ1_indexOfChar_4cfef_14 (lv_at hl 0 rfl) ?_
                refine va_tb (v := .int (iI 121)) hx hb (hK.2.1.1 1 (by decide)).2.2.2 hS (iI_in (z := 3) (n := 5) (by decide)) rfl dJ1_indexOfChar_4cfef_16 ?_
                refine lv_iload hx hb dJ1_indexOfChar_4cfef_17 (lv_at hl 1 rfl) ?_
                refine z_icmp_ne (tgt := 25) hx hb (by omega) dJ1_indexOfChar_4cfef_19 (by decide) (fun c_8 => ?_) (fun c_8 => ?_)
                · skip
                  refine z_iinc (k := 0) (lv' := [(5, .int (iI 4)), (4, .int (iI z)), (0, .ref (X.2.2.2 1)), (1, .int (iI z)), (2, .int (iI 0)), (3, .int (iI 5))]) hx hb dJ1_indexOfChar_4cfef_25 hl rfl (by decide) rfl (fun ls hl => ?_)
                  refine lv_goto (tgt := 7) hx hb dJ1_indexOfChar_4cfef_28 (by decide) ?_
                  refine lv_iload hx hb dJ1_indexOfChar_4cfef_7 (lv_at hl 0 rfl) ?_
                  refine lv_iload_n hx hb dJ1_indexOfChar_4cfef_9 rfl (lv_at hl 5 rfl) ?_
                  refine z_icmp_ge (tgt := 31) hx hb (by omega) dJ1_indexOfChar_4cfef_10 (by decide) (fun c_9 => ?_) (fun c_9 => ?_)
                  · skip
                    exact absurd c_9 (by omega)
                  · skip
                    refine lv_aload_n hx hb dJ1_indexOfChar_4cfef_13 rfl (lv_at hl 2 rfl) ?_
                    refine lv_iload hx hb dJ1_indexOfChar_4cfef_14 (lv_at hl 0 rfl) ?_
                    refine va_tb (v := .int (iI 106)) hx hb (hK.2.1.1 1 (by decide)).2.2.2 hS (iI_in (z := 4) (n := 5) (by decide)) rfl dJ1_indexOfChar_4cfef_16 ?_
                    refine lv_iload hx hb dJ1_indexOfChar_4cfef_17 (lv_at hl 1 rfl) ?_
                    refine z_icmp_ne (tgt := 25) hx hb (by omega) dJ1_indexOfChar_4cfef_19 (by decide) (fun c_10 => ?_) (fun c_10 => ?_)
                    · skip
                      refine z_iinc (k := 0) (lv' := [(5, .int (iI 5)), (4, .int (iI z)), (0, .ref (X.2.2.2 1)), (1, .int (iI z)), (2, .int (iI 0)), (3, .int (iI 5))]) hx hb dJ1_indexOfChar_4cfef_25 hl rfl (by decide) rfl (fun ls hl => ?_)
                      refine lv_goto (tgt := 7) hx hb dJ1_indexOfChar_4cfef_28 (by decide) ?_
                      refine lv_iload hx hb dJ1_indexOfChar_4cfef_7 (lv_at hl 0 rfl) ?_
                      refine lv_iload_n hx hb dJ1_indexOfChar_4cfef_9 rfl (lv_at hl 5 rfl) ?_
                      refine z_icmp_ge (tgt := 31) hx hb (by omega) dJ1_indexOfChar_4cfef_10 (by decide) (fun c_11 => ?_) (fun c_11 => ?_)
                      · skip
                        refine lv_iconst (v := iI (-1)) hx hb dJ1_indexOfChar_4cfef_31 (by decide) ?_
                        exact z_iret hQ hx hb hr hlocks hS ⟨Nat.le_of_ble_eq_true rfl, Nat.le_of_ble_eq_true rfl⟩ dJ1_indexOfChar_4cfef_32 () (congrArg (fun z => some (Value.int (iI z))) (show (idx1 z : Int) = (-1) by unfold idx1; omega)) trivial hP hD
                      · skip
                        exact absurd c_11 (by omega)
                    · skip
                      refine lv_iload hx hb dJ1_indexOfChar_4cfef_22 (lv_at hl 0 rfl) ?_
                      exact z_iret hQ hx hb hr hlocks hS ⟨Nat.le_of_ble_eq_true rfl, Nat.le_of_ble_eq_true rfl⟩ dJ1_indexOfChar_4cfef_24 () (congrArg (fun z => some (Value.int (iI z))) (show (idx1 z : Int) = 4 by unfold idx1; omega)) trivial hP hD
                · skip
                  refine lv_iload hx hb dJ1_indexOfChar_4cfef_22 (lv_at hl 0 rfl) ?_
                  exact z_iret hQ hx hb hr hlocks hS ⟨Nat.le_of_ble_eq_true rfl, Nat.le_of_ble_eq_true rfl⟩ dJ1_indexOfChar_4cfef_24 () (congrArg (fun z => some (Value.int (iI z))) (show (idx1 z : Int) = 3 by unfold idx1; omega)) trivial hP hD
            · skip
              refine lv_iload hx hb dJ1_indexOfChar_4cfef_22 (lv_at hl 0 rfl) ?_
              exact z_iret hQ hx hb hr hlocks hS ⟨Nat.le_of_ble_eq_true rfl, Nat.le_of_ble_eq_true rfl⟩ dJ1_indexOfChar_4cfef_24 () (congrArg (fun z => some (Value.int (iI z))) (show (idx1 z : Int) = 2 by unfold idx1; omega)) trivial hP hD
        · skip
          refine lv_iload hx hb dJ1_indexOfChar_4cfef_22 (lv_at hl 0 rfl) ?_
          exact z_iret hQ hx hb hr hlocks hS ⟨Nat.le_of_ble_eq_true rfl, Nat.le_of_ble_eq_true rfl⟩ dJ1_indexOfChar_4cfef_24 () (congrArg (fun z => some (Value.int (iI z))) (show (idx1 z : Int) = 1 by unfold idx1; omega)) trivial hP hD
    · skip
      refine lv_iload hx hb dJ1_indexOfChar_4cfef_22 (lv_at hl 0 rfl) ?_
      exact z_iret hQ hx hb hr hlocks hS ⟨Nat.le_of_ble_eq_true rfl, Nat.le_of_ble_eq_true rfl⟩ dJ1_indexOfChar_4cfef_24 () (congrArg (fun z => some (Value.int (iI z))) (show (idx1 z : Int) = 0 by unfold idx1; omega)) trivial hP hD
set_option maxHeartbeats 1000000 in
set_option maxRecDepth 100000 in
theorem c_J1_indexOf_4cfef_1 (l : Launch) (X : zX) (z : Int) (hz : 0 ≤ z ∧ z ≤ 126) : zF l X yJ1_indexOf_4cfef wsJ1_indexOf_4cfef 1 40 [.ref (X.2.2.2 1), .int (iI z), .int (iI 0), .int (iI 5)] (zb []) (some (.int (iI (idx1 z)))) (zb []) := by
  refine z_enter (cc := cJ1_indexOf_4cfef) (maxL := 4) (ret := (some .int)) (by decide) rfl (Nat.le_of_ble_eq_true rfl) ?_
  intro p e s m below meth c A ls Q hQ hE hl hP hD
  obtain ⟨hx, hb, hr, hml, hown, hts, hlocks, hnm, hA, hK⟩ := hE
  have hown : s.vm.findClass RJ1 = some m.cls := hown
  have hS : va_S A s.heap s.heap [] := va_S.rf
  have hl : lv_has ls 4 [(0, .ref (X.2.2.2 1)), (1, .int (iI z)), (2, .int (iI 0)), (3, .int (iI 5))] := hl
  refine lv_iload_n hx hb dJ1_indexOf_4cfef_0 rfl (lv_at hl 1 rfl) ?_
  have hPm := zp_perm hP (zblk (show List.Perm ([] : List va_W) ([] ++ []) from List.Perm.refl _))
  have hDm := zd_perm hD (zblk (show List.Perm ([] : List va_W) ([] ++ []) from List.Perm.refl _))
  refine z_callS (wr := zb []) (As := [.int (iI z)]) (rest := []) ⟨hx, hb, hml, hown, hts⟩ (c_J1_canEncode_9a6ad l X z (by omega)) (va_cwS 1 hts gJ1_indexOf_4cfef_J1_canEncode_9a6ad rfl rfl rfl (by decide +kernel) ⟨Nat.le_of_ble_eq_true rfl, Nat.le_of_ble_eq_true rfl⟩) hl.1 dJ1_indexOf_4cfef_1 rfl rfl (Nat.le_of_ble_eq_true rfl) ⟨Nat.le_of_ble_eq_true rfl, Nat.le_of_ble_eq_true rfl⟩ hS hA hK hPm hDm (fun _ H locs _ hP hD hS => ?_)
  have hP := zp_perm hP ((zblk (show List.Perm ([] : List va_W) ([] ++ []) from List.Perm.refl _))).symm
  have hD := zd_perm hD ((zblk (show List.Perm ([] : List va_W) ([] ++ []) from List.Perm.refl _))).symm
  have hP : va_P X.1 vwCl (zb []) H := hP
  have hD : va_D A (zb []) := hD
  refine W.eq (g2 := F0 m 4 ls [.int (iI 1)]) rfl ?_
  refine z_if_ne (tgt := 9) hx hb (by omega) dJ1_indexOf_4cfef_4 (by decide) (fun c_1 => ?_) (fun c_1 => ?_)
  · skip
    refine lv_iload_n hx hb dJ1_indexOf_4cfef_9 rfl (lv_at hl 2 rfl) ?_
    refine lv_iconst (v := iI 0) hx hb dJ1_indexOf_4cfef_10 (by decide) ?_
    refine z_mmax hx hb (hml.trans hl.1.symm) hown (hts (.methodLink RJ1 92 Lib.Math.max.name) (by decide +kernel)) (hts (.static Lib.Math.max.name) (by decide +kernel)) (hts (.initialized "java/lang/Math") (by decide +kernel)) (hts (.code Lib.Math.max.name Lib.Math.max.code 2 (some .int)) (by decide +kernel)) (Nat.le_of_ble_eq_true rfl) (Nat.le_of_ble_eq_true rfl) (Nat.le_of_ble_eq_true rfl) (Nat.le_of_ble_eq_true rfl) (by omega) dJ1_indexOf_4cfef_11 ?_
    refine W.eq (g2 := F0 m 14 ls [.int (iI 0)]) rfl ?_
    refine lv_istore_n (lv' := [(2, .int (iI 0)), (0, .ref (X.2.2.2 1)), (1, .int (iI z)), (3, .int (iI 5))]) hx hb dJ1_indexOf_4cfef_14 rfl hl (by decide) rfl (fun ls hl => ?_)
    refine lv_iload_n hx hb dJ1_indexOf_4cfef_15 rfl (lv_at hl 3 rfl) ?_
    refine lv_aload_n hx hb dJ1_indexOf_4cfef_16 rfl (lv_at hl 1 rfl) ?_
    refine va_tlen (v := iI 5) hx hb (hK.2.1.1 1 (by decide)).2.2.2 hS rfl dJ1_indexOf_4cfef_17 ?_
    refine z_mmin hx hb (hml.trans hl.1.symm) hown (hts (.methodLink RJ1 38 Lib.Math.min.name) (by decide +kernel)) (hts (.static Lib.Math.min.name) (by decide +kernel)) (hts (.initialized "java/lang/Math") (by decide +kernel)) (hts (.code Lib.Math.min.name Lib.Math.min.code 2 (some .int)) (by decide +kernel)) (Nat.le_of_ble_eq_true rfl) (Nat.le_of_ble_eq_true rfl) (Nat.le_of_ble_eq_true rfl) (Nat.le_of_ble_eq_true rfl) (by omega) dJ1_indexOf_4cfef_18 ?_
    refine W.eq (g2 := F0 m 21 ls [.int (iI 5)]) rfl ?_
    refine lv_istore_n (lv' := [(3, .int (iI 5)), (2, .int (iI 0)), (0, .ref (X.2.2.2 1)), (1, .int (iI z))]) hx hb dJ1_indexOf_4cfef_21 rfl hl (by decide) rfl (fun ls hl => ?_)
    refine lv_iload_n hx hb dJ1_indexOf_4cfef_22 rfl (lv_at hl 1 rfl) ?_
    refine lv_iload_n hx hb dJ1_indexOf_4cfef_23 rfl (lv_at hl 0 rfl) ?_
    refine z_icmp_lt (tgt := 29) hx hb (by omega) dJ1_indexOf_4cfef_24 (by decide) (fun c_2 => ?_) (fun c_2 => ?_)
    · skip
      refine lv_aload_n hx hb dJ1_indexOf_4cfef_29 rfl (lv_at hl 2 rfl) ?_
      refine lv_iload_n hx hb dJ1_indexOf_4cfef_30 rfl (lv_at hl 3 rfl) ?_
      refine lv_iload_n hx hb dJ1_indexOf_4cfef_31 rfl (lv_at hl 1 rfl) ?_
      refine lv_iload_n hx hb dJ1_indexOf_4cfef_32 rfl (lv_at hl 0 rfl) ?_
      have hPm := zp_perm hP (zblk (show List.Perm ([] : List va_W) ([] ++ []) from List.Perm.refl _))
      have hDm := zd_perm hD (zblk (show List.Perm ([] : List va_W) ([] ++ []) from List.Perm.refl _))
      refine z_callS (wr := zb []) (As := [.ref (X.2.2.2 1), .int (iI z), .int (iI 0), .int (iI 5)]) (rest := []) ⟨hx, hb, hml, hown, hts⟩ (c_J1_indexOfChar_4cfef_1 l X z (by omega)) (va_cwS 4 hts gJ1_indexOf_4cfef_J1_indexOfChar_4cfef rfl rfl rfl (by decide +kernel) ⟨Nat.le_of_ble_eq_true rfl, Nat.le_of_ble_eq_true rfl⟩) hl.1 dJ1_indexOf_4cfef_33 rfl rfl (Nat.le_of_ble_eq_true rfl) ⟨Nat.le_of_ble_eq_true rfl, Nat.le_of_ble_eq_true rfl⟩ hS hA hK hPm hDm (fun _ H locs _ hP hD hS => ?_)
      have hP := zp_perm hP ((zblk (show List.Perm ([] : List va_W) ([] ++ []) from List.Perm.refl _))).symm
      have hD := zd_perm hD ((zblk (show List.Perm ([] : List va_W) ([] ++ []) from List.Perm.refl _))).symm
      have hP : va_P X.1 vwCl (zb []) H := hP
      have hD : va_D A (zb []) := hD
      refine W.eq (g2 := F0 m 36 ls [.int (iI (idx1 z))]) rfl ?_
      exact z_iret hQ hx hb hr hlocks hS ⟨Nat.le_of_ble_eq_true rfl, Nat.le_of_ble_eq_true rfl⟩ dJ1_indexOf_4cfef_36 () rfl trivial hP hD
    · skip
      exact absurd c_2 (by omega)
  · skip
    exact absurd c_1 (by omega)
set_option maxHeartbeats 1000000 in
set_option maxRecDepth 100000 in
theorem c_J0_indexOf_7cf53_1 (l : Launch) (X : zX) (z : Int) (hz : 0 ≤ z ∧ z ≤ 126) : zF l X yJ0_indexOf_7cf53 wsJ0_indexOf_7cf53 2 63 [.ref (X.2.2.1 1), .int (iI z), .int (iI 0)] (zb []) (some (.int (iI (idx1 z)))) (zb []) := by
  refine z_enter (cc := cJ0_indexOf_7cf53) (maxL := 3) (ret := (some .int)) (by decide) rfl (Nat.le_of_ble_eq_true rfl) ?_
  intro p e s m below meth c A ls Q hQ hE hl hP hD
  obtain ⟨hx, hb, hr, hml, hown, hts, hlocks, hnm, hA, hK⟩ := hE
  have hown : s.vm.findClass RJ0 = some m.cls := hown
  have hS : va_S A s.heap s.heap [] := va_S.rf
  have hl : lv_has ls 3 [(0, .ref (X.2.2.1 1)), (1, .int (iI z)), (2, .int (iI 0))] := hl
  refine lv_aload_n hx hb dJ0_indexOf_7cf53_0 rfl (lv_at hl 0 rfl) ?_
  have hPm := zp_perm hP (zblk (show List.Perm ([] : List va_W) ([] ++ []) from List.Perm.refl _))
  have hDm := zd_perm hD (zblk (show List.Perm ([] : List va_W) ([] ++ []) from List.Perm.refl _))
  refine z_callVR (wr := zb []) (As := []) (rest := []) ⟨hx, hb, hml, hown, hts⟩ (c_J0_isLatin1_aae02_1 l X  ) (cwV 0 hts gJ0_indexOf_7cf53_J0_isLatin1_aae02 rfl rfl rfl (by decide +kernel) ⟨Nat.le_of_ble_eq_true rfl, Nat.le_of_ble_eq_true rfl⟩) (vk_recv hK.2.1 (i := 1) (by decide) hS) hl.1 dJ0_indexOf_7cf53_1 rfl rfl (Nat.le_of_ble_eq_true rfl) ⟨Nat.le_of_ble_eq_true rfl, Nat.le_of_ble_eq_true rfl⟩ hS hA hK hPm hDm (fun _ H locs _ hP hD hS => ?_)
  have hP := zp_perm hP ((zblk (show List.Perm ([] : List va_W) ([] ++ []) from List.Perm.refl _))).symm
  have hD := zd_perm hD ((zblk (show List.Perm ([] : List va_W) ([] ++ []) from List.Perm.refl _))).symm
  have hP : va_P X.1 vwCl (zb []) H := hP
  have hD : va_D A (zb []) := hD
  refine W.eq (g2 := F0 m 4 ls [.int (iI 1)]) rfl ?_
  refine z_if_eq (tgt := 23) hx hb (by omega) dJ0_indexOf_7cf53_4 (by decide) (fun c_1 => ?_) (fun c_1 => ?_)
  · skip
    exact absurd c_1 (by omega)
  · skip
    refine lv_aload_n hx hb dJ0_indexOf_7cf53_7 rfl (lv_at hl 0 rfl) ?_
    refine vk_getf hx hb (hK.2.1.1 1 (by decide)).2.2.1 hS hown (hts (.fieldLink RJ0 9 "java/lang/String" "value" "[B") (by decide +kernel)) (fun _ h9 => h9) dJ0_indexOf_7cf53_8 ?_
    refine W.eq (g2 := F0 m 11 ls [.ref (X.2.2.2 1)]) rfl ?_
    refine lv_iload_n hx hb dJ0_indexOf_7cf53_11 rfl (lv_at hl 1 rfl) ?_
    refine lv_iload_n hx hb dJ0_indexOf_7cf53_12 rfl (lv_at hl 2 rfl) ?_
    refine lv_aload_n hx hb dJ0_indexOf_7cf53_13 rfl (lv_at hl 0 rfl) ?_
    have hPm := zp_perm hP (zblk (show List.Perm ([] : List va_W) ([] ++ []) from List.Perm.refl _))
    have hDm := zd_perm hD (zblk (show List.Perm ([] : List va_W) ([] ++ []) from List.Perm.refl _))
    refine z_callVR (wr := zb []) (As := []) (rest := [.int (iI 0), .int (iI z), .ref (X.2.2.2 1)]) ⟨hx, hb, hml, hown, hts⟩ (c_J0_length_8abf5_1 l X  ) (cwV 0 hts gJ0_indexOf_7cf53_J0_length_8abf5 rfl rfl rfl (by decide +kernel) ⟨Nat.le_of_ble_eq_true rfl, Nat.le_of_ble_eq_true rfl⟩) (vk_recv hK.2.1 (i := 1) (by decide) hS) hl.1 dJ0_indexOf_7cf53_14 rfl rfl (Nat.le_of_ble_eq_true rfl) ⟨Nat.le_of_ble_eq_true rfl, Nat.le_of_ble_eq_true rfl⟩ hS hA hK hPm hDm (fun _ H locs _ hP hD hS => ?_)
    have hP := zp_perm hP ((zblk (show List.Perm ([] : List va_W) ([] ++ []) from List.Perm.refl _))).symm
    have hD := zd_perm hD ((zblk (show List.Perm ([] : List va_W) ([] ++ []) from List.Perm.refl _))).symm
    have hP : va_P X.1 vwCl (zb []) H := hP
    have hD : va_D A (zb []) := hD
    refine W.eq (g2 := F0 m 17 ls [.int (iI 5), .int (iI 0), .int (iI z), .ref (X.2.2.2 1)]) rfl ?_
    have hPm := zp_perm hP (zblk (show List.Perm ([] : List va_W) ([] ++ []) from List.Perm.refl _))
    have hDm := zd_perm hD (zblk (show List.Perm ([] : List va_W) ([] ++ []) from List.Perm.refl _))
    refine z_callS (wr := zb []) (As := [.ref (X.2.2.2 1), .int (iI z), .int (iI 0), .int (iI 5)]) (rest := []) ⟨hx, hb, hml, hown, hts⟩ (c_J1_indexOf_4cfef_1 l X z (by omega)) (va_cwS 4 hts gJ0_indexOf_7cf53_J1_indexOf_4cfef rfl rfl rfl (by decide +kernel) ⟨Nat.le_of_ble_eq_true rfl, Nat.le_of_ble_eq_true rfl⟩) hl.1 dJ0_indexOf_7cf53_17 rfl rfl (Nat.le_of_ble_eq_true rfl) ⟨Nat.le_of_ble_eq_true rfl, Nat.le_of_ble_eq_true rfl⟩ hS hA hK hPm hDm (fun _ H locs _ hP hD hS => ?_)
    have hP := zp_perm hP ((zblk (show List.Perm ([] : List va_W) ([] ++ []) from List.Perm.refl _))).symm
    have hD := zd_perm hD ((zblk (show List.Perm ([] : List va_W) ([] ++ []) from List.Perm.refl _))).symm
    have hP : va_P X.1 vwCl (zb []) H := hP
    have hD : va_D A (zb []) := hD
    refine W.eq (g2 := F0 m 20 ls [.int (iI (idx1 z))]) rfl ?_
    refine lv_goto (tgt := 36) hx hb dJ0_indexOf_7cf53_20 (by decide) ?_
    exact z_iret hQ hx hb hr hlocks hS ⟨Nat.le_of_ble_eq_true rfl, Nat.le_of_ble_eq_true rfl⟩ dJ0_indexOf_7cf53_36 () rfl trivial hP hD
set_option maxHeartbeats 1000000 in
set_option maxRecDepth 100000 in
theorem c_J0_indexOf_0f7a4_1 (l : Launch) (X : zX) (z : Int) (hz : 0 ≤ z ∧ z ≤ 126) : zF l X yJ0_indexOf_0f7a4 wsJ0_indexOf_0f7a4 3 85 [.ref (X.2.2.1 1), .int (iI z)] (zb []) (some (.int (iI (idx1 z)))) (zb []) := by
  refine z_enter (cc := cJ0_indexOf_0f7a4) (maxL := 2) (ret := (some .int)) (by decide) rfl (Nat.le_of_ble_eq_true rfl) ?_
  intro p e s m below meth c A ls Q hQ hE hl hP hD
  obtain ⟨hx, hb, hr, hml, hown, hts, hlocks, hnm, hA, hK⟩ := hE
  have hown : s.vm.findClass RJ0 = some m.cls := hown
  have hS : va_S A s.heap s.heap [] := va_S.rf
  have hl : lv_has ls 2 [(0, .ref (X.2.2.1 1)), (1, .int (iI z))] := hl
  refine lv_aload_n hx hb dJ0_indexOf_0f7a4_0 rfl (lv_at hl 0 rfl) ?_
  refine lv_iload_n hx hb dJ0_indexOf_0f7a4_1 rfl (lv_at hl 1 rfl) ?_
  refine lv_iconst (v := iI 0) hx hb dJ0_indexOf_0f7a4_2 (by decide) ?_
  have hPm := zp_perm hP (zblk (show List.Perm ([] : List va_W) ([] ++ []) from List.Perm.refl _))
  have hDm := zd_perm hD (zblk (show List.Perm ([] : List va_W) ([] ++ []) from List.Perm.refl _))
  refine z_callVR (wr := zb []) (As := [.int (iI z), .int (iI 0)]) (rest := []) ⟨hx, hb, hml, hown, hts⟩ (c_J0_indexOf_7cf53_1 l X z (by omega)) (cwV 2 hts gJ0_indexOf_0f7a4_J0_indexOf_7cf53 rfl rfl rfl (by decide +kernel) ⟨Nat.le_of_ble_eq_true rfl, Nat.le_of_ble_eq_true rfl⟩) (vk_recv hK.2.1 (i := 1) (by decide) hS) hl.1 dJ0_indexOf_0f7a4_3 rfl rfl (Nat.le_of_ble_eq_true rfl) ⟨Nat.le_of_ble_eq_true rfl, Nat.le_of_ble_eq_true rfl⟩ hS hA hK hPm hDm (fun _ H locs _ hP hD hS => ?_)
  have hP := zp_perm hP ((zblk (show List.Perm ([] : List va_W) ([] ++ []) from List.Perm.refl _))).symm
  have hD := zd_perm hD ((zblk (show List.Perm ([] : List va_W) ([] ++ []) from List.Perm.refl _))).symm
  have hP : va_P X.1 vwCl (zb []) H := hP
  have hD : va_D A (zb []) := hD
  refine W.eq (g2 := F0 m 6 ls [.int (iI (idx1 z))]) rfl ?_
  exact z_iret hQ hx hb hr hlocks hS ⟨Nat.le_of_ble_eq_true rfl, Nat.le_of_ble_eq_true rfl⟩ dJ0_indexOf_0f7a4_6 () rfl trivial hP hD
