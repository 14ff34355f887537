set_option maxHeartbeats 1000000 in
set_option maxRecDepth 100000 in
theorem c_X12_isIn (l : Launch) (X : zX) (x : Int) (y : Int) (hx1 : 0 ≤ x ∧ x < 65536) (hy1 : 0 ≤ y ∧ y ≤ 15) : zF l X yX12_isIn wsX12_isIn 0 0 [.int (iI x), .int (iI y)] (zb []) (some (.int (iI (btZ x y.toNat)))) (zb []) := by
  refine z_enter (cc := cX12_isIn) (maxL := 2) (ret := (some .boolean)) (by decide) rfl (Nat.le_of_ble_eq_true rfl) ?_
  intro p e s m below meth c A ls Q hQ hE hl hP hD
  obtain ⟨hx, hb, hr, hml, hown, hts, hlocks, hnm, hA, hK⟩ := hE
  have hown : s.vm.findClass RX12 = some m.cls := hown
  have hS : va_S A s.heap s.heap [] := va_S.rf
  have hl : lv_has ls 2 [(0, .int (iI x)), (1, .int (iI y))] := hl
  refine lv_iload_n hx hb dX12_isIn_0 rfl (lv_at hl 0 rfl) ?_
  refine lv_iload_n hx hb dX12_isIn_1 rfl (lv_at hl 1 rfl) ?_
  refine z_shr y.toNat hx hb (by omega) (by omega) (by omega) dX12_isIn_2 ?_
  have hq0 : 0 ≤ x / 2 ^ y.toNat ∧ x / 2 ^ y.toNat < 65536 := by have hp : (0 : Int) < 2 ^ y.toNat := Int.pow_pos (by decide); exact ⟨Int.ediv_nonneg (by omega) (by omega), Int.lt_of_le_of_lt (Int.ediv_le_self _ (by omega)) (by omega)⟩
  refine lv_iconst (v := iI 1) hx hb dX12_isIn_3 (by decide) ?_
  refine z_and1 hx hb (by omega) dX12_isIn_4 ?_
  have hq1 := btZ_01 x y.toNat
  refine W.eq (g2 := F0 m 5 ls [.int (iI (btZ x y.toNat))]) rfl ?_
  refine lv_iconst (v := iI 1) hx hb dX12_isIn_5 (by decide) ?_
  refine z_icmp_ne (tgt := 13) hx hb (by omega) dX12_isIn_6 (by decide) (fun c_1 => ?_) (fun c_1 => ?_)
  · skip
    refine lv_iconst (v := iI 0) hx hb dX12_isIn_13 (by decide) ?_
    exact z_zret (ty := .boolean) hQ hx hb hr (by rfl) hlocks hS ⟨(Nat.le_of_ble_eq_true rfl), (Nat.le_of_ble_eq_true rfl)⟩ dX12_isIn_14 () (congrArg (fun z => some (Value.int (iI z))) (show (btZ x y.toNat : Int) = 0 by omega)) trivial hP hD
  · skip
    refine lv_iconst (v := iI 1) hx hb dX12_isIn_9 (by decide) ?_
    refine lv_goto (tgt := 14) hx hb dX12_isIn_10 (by decide) ?_
    exact z_zret (ty := .boolean) hQ hx hb hr (by rfl) hlocks hS ⟨(Nat.le_of_ble_eq_true rfl), (Nat.le_of_ble_eq_true rfl)⟩ dX12_isIn_14 () (congrArg (fun z => some (Value.int (iI z))) (show (btZ x y.toNat : Int) = 1 by omega)) trivial hP hD
set_option maxHeartbeats 1000000 in
set_option maxRecDepth 100000 in
theorem c_X12_divisor (l : Launch) (X : zX) (x : Int) (y : Int) (hx1 : 0 ≤ x ∧ x ≤ 100000000) (hy1 : 0 ≤ y ∧ y ≤ 100000000) : zF l X yX12_divisor wsX12_divisor 0 0 [.int (iI x), .int (iI y)] (zb []) (some (.int (iI (gcdZ x y)))) (zb []) := by
  refine z_enter (cc := cX12_divisor) (maxL := 5) (ret := (some .int)) (by decide) rfl (Nat.le_of_ble_eq_true rfl) ?_
  intro p e s m below meth c A ls Q hQ hE hl hP hD
  obtain ⟨hx, hb, hr, hml, hown, hts, hlocks, hnm, hA, hK⟩ := hE
  have hown : s.vm.findClass RX12 = some m.cls := hown
  have hS : va_S A s.heap s.heap [] := va_S.rf
  have hl : lv_has ls 5 [(0, .int (iI x)), (1, .int (iI y))] := hl
  obtain ⟨x1, hx2⟩ := Int.eq_ofNat_of_zero_le (show 0 ≤ x by omega)
  obtain ⟨y1, hy2⟩ := Int.eq_ofNat_of_zero_le (show 0 ≤ y by omega)
  refine lv_iload_n hx hb dX12_divisor_0 rfl (lv_at hl 0 rfl) ?_
  refine lv_istore_n (lv' := [(2, .int (iI x)), (0, .int (iI x)), (1, .int (iI y))]) hx hb dX12_divisor_1 rfl hl (by decide) rfl (fun ls hl => ?_)
  refine lv_iload_n hx hb dX12_divisor_2 rfl (lv_at hl 2 rfl) ?_
  refine lv_istore_n (lv' := [(3, .int (iI y)), (2, .int (iI x)), (0, .int (iI x)), (1, .int (iI y))]) hx hb dX12_divisor_3 rfl hl (by decide) rfl (fun ls hl => ?_)
  rw [hx2, hy2] at hl
  have L4 : ∀ (fu : Nat) (u : Nat) (w : Nat), (Nat.gcd u w = Nat.gcd x1 y1) → (w ≤ 100000000 ∧ u ≤ 100000000) → w < fu → ∀ (H : Heap) (locs : List Loc) (ls : Array Slot), va_P X.1 vwCl (zb []) H → va_D A (zb []) → va_S A s.heap H locs → lv_has ls 5 [(2, .int (iI (↑u))), (3, .int (iI (↑w)))] → W p l e { frames := 0, cells := 0, slots := 0, locals := 0 } s m ([.int (iI x), .int (iI y)] : List Value).toArray below meth c H locs 0 0 Q (F0 m 4 ls []) := by
    intro fu
    induction fu with
    | zero => intro u w hg huw hm; exact absurd hm (Nat.not_lt_zero _)
    | succ fu ih4 =>
      intro u w hg huw hm H locs ls hP hD hS hl
      refine lv_iload_n hx hb dX12_divisor_4 rfl (lv_at hl 1 rfl) ?_
      refine z_if_eq (tgt := 21) hx hb (by omega) dX12_divisor_5 (by decide) (fun c_1 => ?_) (fun c_1 => ?_)
      · skip
        refine lv_iload_n hx hb dX12_divisor_21 rfl (lv_at hl 0 rfl) ?_
        exact z_iret hQ hx hb hr hlocks hS ⟨(Nat.le_of_ble_eq_true rfl), (Nat.le_of_ble_eq_true rfl)⟩ dX12_divisor_22 () (congrArg (fun z => some (Value.int (iI z))) (show (gcdZ x y : Int) = ↑u by unfold gcdZ; rw [hx2, hy2, show ((x1 : Int)).toNat = x1 from rfl, show ((y1 : Int)).toNat = y1 from rfl, ← hg, show w = 0 by omega, Nat.gcd_zero_right])) trivial hP hD
      · skip
        refine lv_iload_n hx hb dX12_divisor_8 rfl (lv_at hl 0 rfl) ?_
        refine lv_iload_n hx hb dX12_divisor_9 rfl (lv_at hl 1 rfl) ?_
        refine z_irem hx hb (by omega) dX12_divisor_10 ?_
        refine z_topi (fun z_2 ez_2 => ?_)
        refine lv_istore (lv' := [(4, .int (iI z_2)), (2, .int (iI (↑u))), (3, .int (iI (↑w)))]) hx hb dX12_divisor_11 hl (by decide) rfl (fun ls hl => ?_)
        subst ez_2
        refine lv_iload_n hx hb dX12_divisor_13 rfl (lv_at hl 2 rfl) ?_
        refine lv_istore_n (lv' := [(2, .int (iI (↑w))), (4, .int (iI ((↑u) % (↑w)))), (3, .int (iI (↑w)))]) hx hb dX12_divisor_14 rfl hl (by decide) rfl (fun ls hl => ?_)
        refine lv_iload hx hb dX12_divisor_15 (lv_at hl 1 rfl) ?_
        refine z_topi (fun z_3 ez_3 => ?_)
        refine lv_istore_n (lv' := [(3, .int (iI z_3)), (2, .int (iI (↑w))), (4, .int (iI ((↑u) % (↑w))))]) hx hb dX12_divisor_17 rfl hl (by decide) rfl (fun ls hl => ?_)
        subst ez_3
        refine lv_goto (tgt := 4) hx hb dX12_divisor_18 (by decide) ?_
        exact ih4  w (u % w) (by rw [gcd_step]; exact hg) (by have := Nat.mod_lt u (show 0 < w by omega); omega) (by have := Nat.mod_lt u (show 0 < w by omega); omega) _ _ _ hP hD hS (lv_sub hl [1, 0] rfl)
  exact L4 (y1 + 1) x1 y1 (by rfl) (by omega) (by omega) _ _ _ hP hD hS (lv_sub hl [1, 0] rfl)
set_option maxHeartbeats 1000000 in
set_option maxRecDepth 100000 in
theorem c_X12_fatsOf (l : Launch) (X : zX) (o : Nat) (ma : Nat → Nat) (mi : Nat → Int) (ml : Nat → Int) (pv : Nat → Nat → Int) (s1 : Nat → Int) (s2 : Nat → Int) (s3 : Nat → Int) (z : Int) (hpz : PanB (pv z.toNat)) (hz3 : 0 ≤ z ∧ z < 3) (hsg : SigB (mi 13) s1 s2 s3) : zF l X yX12_fatsOf wsX12_fatsOf 1 24 [.ref o, .int (iI z)] (zb [WMo o ma mi ml, WMp X ma pv, Wa X 2 (ma 14) 6 s1, Wa X 2 (ma 15) 6 s2, Wa X 2 (ma 16) 6 s3]) (some (.int (iI (fatsZ s1 s2 s3 (mi 13) z (pv z.toNat) 16)))) (zb [WMo o ma mi ml, WMp X ma pv, Wa X 2 (ma 14) 6 s1, Wa X 2 (ma 15) 6 s2, Wa X 2 (ma 16) 6 s3]) := by
  refine z_enter (cc := cX12_fatsOf) (maxL := 6) (ret := (some .int)) (by decide) rfl (Nat.le_of_ble_eq_true rfl) ?_
  intro p e s m below meth c A ls Q hQ hE hl hP hD
  obtain ⟨hx, hb, hr, hml, hown, hts, hlocks, hnm, hA, hK⟩ := hE
  have hown : s.vm.findClass RX12 = some m.cls := hown
  have hS : va_S A s.heap s.heap [] := va_S.rf
  have hl : lv_has ls 6 [(0, .ref o), (1, .int (iI z))] := hl
  have inX12 : ∀ w ∈ u_ws RX12 TX12 38, w ∈ wsX12_fatsOf := by decide +kernel
  obtain ⟨⟨h00, h01⟩, ⟨h10, h11⟩, h2, h3, h4, h5, h6⟩ := id hpz
  obtain ⟨hsn, hsf⟩ := id hsg
  refine lv_iconst (v := iI 0) hx hb dX12_fatsOf_0 (by decide) ?_
  refine lv_istore_n (lv' := [(2, .int (iI 0)), (0, .ref o), (1, .int (iI z))]) hx hb dX12_fatsOf_1 rfl hl (by decide) rfl (fun ls hl => ?_)
  refine lv_iconst (v := iI 0) hx hb dX12_fatsOf_2 (by decide) ?_
  refine lv_istore_n (lv' := [(3, .int (iI 0)), (2, .int (iI 0)), (0, .ref o), (1, .int (iI z))]) hx hb dX12_fatsOf_3 rfl hl (by decide) rfl (fun ls hl => ?_)
  have L4 : ∀ (fu : Nat) (i : Nat) (y : Int), (i ≤ 16) → (y = fatsZ s1 s2 s3 (mi 13) z (pv z.toNat) i) → (16 - i) < fu → ∀ (H : Heap) (locs : List Loc) (ls : Array Slot), va_P X.1 vwCl (zb [WMo o ma mi ml, WMp X ma pv, Wa X 2 (ma 14) 6 s1, Wa X 2 (ma 15) 6 s2, Wa X 2 (ma 16) 6 s3]) H → va_D A (zb [WMo o ma mi ml, WMp X ma pv, Wa X 2 (ma 14) 6 s1, Wa X 2 (ma 15) 6 s2, Wa X 2 (ma 16) 6 s3]) → va_S A s.heap H locs → lv_has ls 6 [(0, .ref o), (1, .int (iI z)), (2, .int (iI y)), (3, .int (iI (↑i)))] → W p l e { frames := 1, cells := 0, slots := 0, locals := 24 } s m ([.ref o, .int (iI z)] : List Value).toArray below meth c H locs 0 0 Q (F0 m 4 ls []) := by
    intro fu
    induction fu with
    | zero => intro i y hi hy hm; exact absurd hm (Nat.not_lt_zero _)
    | succ fu ih4 =>
      intro i y hi hy hm H locs ls hP hD hS hl
      have hfy := fatsZ_in s1 s2 s3 (mi 13) z (pv z.toNat) i
      rw [← hy] at hfy
      refine lv_iload_n hx hb dX12_fatsOf_4 rfl (lv_at hl 3 rfl) ?_
      refine lv_bipush (v := iI 15) hx hb dX12_fatsOf_5 (by decide) ?_
      refine z_icmp_gt (tgt := 98) hx hb (by omega) dX12_fatsOf_7 (by decide) (fun c_1 => ?_) (fun c_1 => ?_)
      · skip
        refine lv_iload_n hx hb dX12_fatsOf_98 rfl (lv_at hl 2 rfl) ?_
        exact z_iret hQ hx hb hr hlocks hS ⟨(Nat.le_of_ble_eq_true rfl), (Nat.le_of_ble_eq_true rfl)⟩ dX12_fatsOf_99 () (congrArg (fun z => some (Value.int (iI z))) (show (fatsZ s1 s2 s3 (mi 13) z (pv z.toNat) 16 : Int) = y by rw [hy, show i = 16 by omega])) trivial hP hD
      · skip
        refine lv_iconst (v := iI 1) hx hb dX12_fatsOf_10 (by decide) ?_
        refine lv_istore (lv' := [(4, .int (iI 1)), (0, .ref o), (1, .int (iI z)), (2, .int (iI y)), (3, .int (iI (↑i)))]) hx hb dX12_fatsOf_11 hl (by decide) rfl (fun ls hl => ?_)
        refine lv_iconst (v := iI 0) hx hb dX12_fatsOf_13 (by decide) ?_
        refine lv_istore (lv' := [(5, .int (iI 0)), (4, .int (iI 1)), (0, .ref o), (1, .int (iI z)), (2, .int (iI y)), (3, .int (iI (↑i)))]) hx hb dX12_fatsOf_14 hl (by decide) rfl (fun ls hl => ?_)
        have L16 : ∀ (fu : Nat) (j : Nat) (w : Int), ((j : Int) ≤ mi 13) → (w = (canZ s1 s2 s3 z (pv z.toNat) ↑i j)) → (mi 13 - ↑j).toNat < fu → ∀ (H : Heap) (locs : List Loc) (ls : Array Slot), va_P X.1 vwCl (zb [WMo o ma mi ml, WMp X ma pv, Wa X 2 (ma 14) 6 s1, Wa X 2 (ma 15) 6 s2, Wa X 2 (ma 16) 6 s3]) H → va_D A (zb [WMo o ma mi ml, WMp X ma pv, Wa X 2 (ma 14) 6 s1, Wa X 2 (ma 15) 6 s2, Wa X 2 (ma 16) 6 s3]) → va_S A s.heap H locs → lv_has ls 6 [(0, .ref o), (1, .int (iI z)), (2, .int (iI y)), (3, .int (iI (↑i))), (4, .int (iI w)), (5, .int (iI (↑j)))] → W p l e { frames := 1, cells := 0, slots := 0, locals := 24 } s m ([.ref o, .int (iI z)] : List Value).toArray below meth c H locs 0 0 Q (F0 m 16 ls []) := by
          intro fu
          induction fu with
          | zero => intro j w hj hw hm; exact absurd hm (Nat.not_lt_zero _)
          | succ fu ih16 =>
            intro j w hj hw hm H locs ls hP hD hS hl
            have hc01 := canZ_01 s1 s2 s3 z (pv z.toNat) ↑i j
            refine lv_iload hx hb dX12_fatsOf_16 (lv_at hl 5 rfl) ?_
            refine lv_aload_n hx hb dX12_fatsOf_18 rfl (lv_at hl 0 rfl) ?_
            refine va_get (ci := 12) (v := .int (iI (mi 13))) (C := RX12) (T := TX12) (N := 38) hx hb hts inX12 hown hK.1 hP 0 rfl rfl 13 (by decide) (hts (.fieldLink RX12 131 "SkimmedSonsModel" "seen" "I") (by decide +kernel)) (fun _ h9 => h9) rfl dX12_fatsOf_19 ?_
            refine z_icmp_ge (tgt := 77) hx hb (by omega) dX12_fatsOf_22 (by decide) (fun c_2 => ?_) (fun c_2 => ?_)
            · skip
              refine lv_iload_n hx hb dX12_fatsOf_77 rfl (lv_at hl 2 rfl) ?_
              refine lv_iload hx hb dX12_fatsOf_78 (lv_at hl 4 rfl) ?_
              refine z_if_eq (tgt := 89) hx hb (by omega) dX12_fatsOf_80 (by decide) (fun c_3 => ?_) (fun c_3 => ?_)
              · skip
                refine lv_iconst (v := iI 0) hx hb dX12_fatsOf_89 (by decide) ?_
                refine z_or0 hx hb (by omega) dX12_fatsOf_90 ?_
                refine lv_istore_n (lv' := [(2, .int (iI y)), (0, .ref o), (1, .int (iI z)), (3, .int (iI (↑i))), (4, .int (iI w)), (5, .int (iI (↑j)))]) hx hb dX12_fatsOf_91 rfl hl (by decide) rfl (fun ls hl => ?_)
                refine z_iinc (k := 3) (lv' := [(3, .int (iI ((↑i) + 1))), (2, .int (iI y)), (0, .ref o), (1, .int (iI z)), (4, .int (iI w)), (5, .int (iI (↑j)))]) hx hb dX12_fatsOf_92 hl rfl (by decide) rfl (fun ls hl => ?_)
                refine lv_goto (tgt := 4) hx hb dX12_fatsOf_95 (by decide) ?_
                exact ih4  (i + 1) y (by omega) (by unfold fatsZ; rw [show (mi 13).toNat = j by omega]; first | (rw [if_pos (by omega), ← hy] <;> omega) | (rw [if_neg (by omega), ← hy] <;> omega)) (by omega) _ _ _ hP hD hS (lv_sub hl [2, 3, 1, 0] rfl)
              · skip
                refine lv_iconst (v := iI 1) hx hb dX12_fatsOf_83 (by decide) ?_
                refine lv_iload_n hx hb dX12_fatsOf_84 rfl (lv_at hl 3 rfl) ?_
                refine z_shl1 (i := i) hx hb (by omega) dX12_fatsOf_85 ?_
                refine lv_goto (tgt := 90) hx hb dX12_fatsOf_86 (by decide) ?_
                refine z_orp (i := i) hx hb (by omega) dX12_fatsOf_90 ?_
                refine z_topi (fun z_5 ez_5 => ?_)
                refine lv_istore_n (lv' := [(2, .int (iI z_5)), (0, .ref o), (1, .int (iI z)), (3, .int (iI (↑i))), (4, .int (iI w)), (5, .int (iI (↑j)))]) hx hb dX12_fatsOf_91 rfl hl (by decide) rfl (fun ls hl => ?_)
                refine z_iinc (k := 3) (lv' := [(3, .int (iI ((↑i) + 1))), (2, .int (iI z_5)), (0, .ref o), (1, .int (iI z)), (4, .int (iI w)), (5, .int (iI (↑j)))]) hx hb dX12_fatsOf_92 hl rfl (by decide) rfl (fun ls hl => ?_)
                refine lv_goto (tgt := 4) hx hb dX12_fatsOf_95 (by decide) ?_
                exact ih4  (i + 1) z_5 (by omega) (by unfold fatsZ; rw [show (mi 13).toNat = j by omega]; first | (rw [if_pos (by omega), ← hy] <;> omega) | (rw [if_neg (by omega), ← hy] <;> omega)) (by omega) _ _ _ hP hD hS (lv_sub hl [2, 3, 1, 0] rfl)
            · skip
              refine lv_iload hx hb dX12_fatsOf_25 (lv_at hl 4 rfl) ?_
              refine z_if_eq (tgt := 68) hx hb (by omega) dX12_fatsOf_27 (by decide) (fun c_7 => ?_) (fun c_7 => ?_)
              · skip
                refine lv_iconst (v := iI 0) hx hb dX12_fatsOf_68 (by decide) ?_
                refine lv_istore (lv' := [(4, .int (iI 0)), (0, .ref o), (1, .int (iI z)), (2, .int (iI y)), (3, .int (iI (↑i))), (5, .int (iI (↑j)))]) hx hb dX12_fatsOf_69 hl (by decide) rfl (fun ls hl => ?_)
                refine z_iinc (k := 5) (lv' := [(5, .int (iI ((↑j) + 1))), (4, .int (iI 0)), (0, .ref o), (1, .int (iI z)), (2, .int (iI y)), (3, .int (iI (↑i)))]) hx hb dX12_fatsOf_71 hl rfl (by decide) rfl (fun ls hl => ?_)
                refine lv_goto (tgt := 16) hx hb dX12_fatsOf_74 (by decide) ?_
                exact ih16  (j + 1) 0 (by omega) (by unfold canZ; first | (rw [if_pos (by omega)]; omega) | (rw [if_neg (by omega), ← hw]; omega) | (split; (rfl); (rw [← hw]; omega))) (by omega) _ _ _ hP hD hS (lv_sub hl [2, 3, 4, 5, 1, 0] rfl)
              · skip
                have hfj := hsf j (by omega)
                refine lv_aload_n hx hb dX12_fatsOf_30 rfl (lv_at hl 0 rfl) ?_
                refine va_get (ci := 12) (v := .ref (ma 14)) (C := RX12) (T := TX12) (N := 38) hx hb hts inX12 hown hK.1 hP 0 rfl rfl 14 (by decide) (hts (.fieldLink RX12 34 "SkimmedSonsModel" "seenPan" "[I") (by decide +kernel)) (fun _ h9 => h9) rfl dX12_fatsOf_31 ?_
                refine lv_iload hx hb dX12_fatsOf_34 (lv_at hl 5 rfl) ?_
                refine z_iald hx hb hK.1 hP 7 rfl (by omega) dX12_fatsOf_36 ?_
                refine W.eq (g2 := F0 m 37 ls [.int (iI (s1 j))]) rfl ?_
                refine lv_iload_n hx hb dX12_fatsOf_37 rfl (lv_at hl 1 rfl) ?_
                refine z_icmp_ne (tgt := 64) hx hb (by omega) dX12_fatsOf_38 (by decide) (fun c_9 => ?_) (fun c_9 => ?_)
                · skip
                  refine lv_iconst (v := iI 1) hx hb dX12_fatsOf_64 (by decide) ?_
                  refine lv_goto (tgt := 69) hx hb dX12_fatsOf_65 (by decide) ?_
                  refine lv_istore (lv' := [(4, .int (iI 1)), (0, .ref o), (1, .int (iI z)), (2, .int (iI y)), (3, .int (iI (↑i))), (5, .int (iI (↑j)))]) hx hb dX12_fatsOf_69 hl (by decide) rfl (fun ls hl => ?_)
                  refine z_iinc (k := 5) (lv' := [(5, .int (iI ((↑j) + 1))), (4, .int (iI 1)), (0, .ref o), (1, .int (iI z)), (2, .int (iI y)), (3, .int (iI (↑i)))]) hx hb dX12_fatsOf_71 hl rfl (by decide) rfl (fun ls hl => ?_)
                  refine lv_goto (tgt := 16) hx hb dX12_fatsOf_74 (by decide) ?_
                  exact ih16  (j + 1) 1 (by omega) (by unfold canZ; first | (rw [if_pos (by omega)]; omega) | (rw [if_neg (by omega), ← hw]; omega) | (split; (rfl); (rw [← hw]; omega))) (by omega) _ _ _ hP hD hS (lv_sub hl [2, 3, 4, 5, 1, 0] rfl)
                · skip
                  refine lv_aload_n hx hb dX12_fatsOf_41 rfl (lv_at hl 0 rfl) ?_
                  refine lv_iload_n hx hb dX12_fatsOf_42 rfl (lv_at hl 1 rfl) ?_
                  refine lv_iload_n hx hb dX12_fatsOf_43 rfl (lv_at hl 3 rfl) ?_
                  refine lv_aload_n hx hb dX12_fatsOf_44 rfl (lv_at hl 0 rfl) ?_
                  refine va_get (ci := 12) (v := .ref (ma 15)) (C := RX12) (T := TX12) (N := 38) hx hb hts inX12 hown hK.1 hP 0 rfl rfl 15 (by decide) (hts (.fieldLink RX12 37 "SkimmedSonsModel" "seenHours" "[I") (by decide +kernel)) (fun _ h9 => h9) rfl dX12_fatsOf_45 ?_
                  refine lv_iload hx hb dX12_fatsOf_48 (lv_at hl 5 rfl) ?_
                  refine z_iald hx hb hK.1 hP 8 rfl (by omega) dX12_fatsOf_50 ?_
                  refine W.eq (g2 := F0 m 51 ls [.int (iI (s2 j)), .int (iI (↑i)), .int (iI z), .ref o]) rfl ?_
                  have hPm := zp_perm hP (zblk (show List.Perm ([WMo o ma mi ml, WMp X ma pv, Wa X 2 (ma 14) 6 s1, Wa X 2 (ma 15) 6 s2, Wa X 2 (ma 16) 6 s3] : List va_W) ([WMo o ma mi ml, WMp X ma pv] ++ [Wa X 2 (ma 14) 6 s1, Wa X 2 (ma 15) 6 s2, Wa X 2 (ma 16) 6 s3]) from (zf1 _ 0 _ rfl).trans (((zf1 _ 0 _ rfl).trans ((List.Perm.refl _).cons _)).cons _)))
                  have hDm := zd_perm hD (zblk (show List.Perm ([WMo o ma mi ml, WMp X ma pv, Wa X 2 (ma 14) 6 s1, Wa X 2 (ma 15) 6 s2, Wa X 2 (ma 16) 6 s3] : List va_W) ([WMo o ma mi ml, WMp X ma pv] ++ [Wa X 2 (ma 14) 6 s1, Wa X 2 (ma 15) 6 s2, Wa X 2 (ma 16) 6 s3]) from (zf1 _ 0 _ rfl).trans (((zf1 _ 0 _ rfl).trans ((List.Perm.refl _).cons _)).cons _)))
                  refine z_callV (wr := zb [Wa X 2 (ma 14) 6 s1, Wa X 2 (ma 15) 6 s2, Wa X 2 (ma 16) 6 s3]) (As := [.int (iI z), .int (iI (↑i)), .int (iI (s2 j))]) (rest := []) ⟨hx, hb, hml, hown, hts⟩ (c_X12_risenBy l X o ma mi ml pv z (↑i : Int) (s2 j) (by exact hpz) (by omega) (by omega) (by omega)) (cwV 3 hts gX12_fatsOf_X12_risenBy rfl rfl rfl (by decide +kernel) ⟨Nat.le_of_ble_eq_true rfl, Nat.le_of_ble_eq_true rfl⟩) rfl rfl hl.1 dX12_fatsOf_51 rfl rfl (Nat.le_of_ble_eq_true rfl) ⟨(Nat.le_of_ble_eq_true rfl), (Nat.le_of_ble_eq_true rfl)⟩ hS hA hK hPm hDm (fun _ H locs _ hP hD hS => ?_)
                  have hP := zp_perm hP ((zblk (show List.Perm ([WMo o ma mi ml, WMp X ma pv, Wa X 2 (ma 14) 6 s1, Wa X 2 (ma 15) 6 s2, Wa X 2 (ma 16) 6 s3] : List va_W) ([WMo o ma mi ml, WMp X ma pv] ++ [Wa X 2 (ma 14) 6 s1, Wa X 2 (ma 15) 6 s2, Wa X 2 (ma 16) 6 s3]) from (zf1 _ 0 _ rfl).trans (((zf1 _ 0 _ rfl).trans ((List.Perm.refl _).cons _)).cons _)))).symm
                  have hD := zd_perm hD ((zblk (show List.Perm ([WMo o ma mi ml, WMp X ma pv, Wa X 2 (ma 14) 6 s1, Wa X 2 (ma 15) 6 s2, Wa X 2 (ma 16) 6 s3] : List va_W) ([WMo o ma mi ml, WMp X ma pv] ++ [Wa X 2 (ma 14) 6 s1, Wa X 2 (ma 15) 6 s2, Wa X 2 (ma 16) 6 s3]) from (zf1 _ 0 _ rfl).trans (((zf1 _ 0 _ rfl).trans ((List.Perm.refl _).cons _)).cons _)))).symm
                  have hP : va_P X.1 vwCl (zb [WMo o ma mi ml, WMp X ma pv, Wa X 2 (ma 14) 6 s1, Wa X 2 (ma 15) 6 s2, Wa X 2 (ma 16) 6 s3]) H := hP
                  have hD : va_D A (zb [WMo o ma mi ml, WMp X ma pv, Wa X 2 (ma 14) 6 s1, Wa X 2 (ma 15) 6 s2, Wa X 2 (ma 16) 6 s3]) := hD
                  refine W.eq (g2 := F0 m 54 ls [.int (iI (risenP (pv z.toNat) (s2 j) (↑i : Int)))]) rfl ?_
                  have hri := risenP_in (n := s2 j) (x := (i : Int)) hpz (by omega) (by omega)
                  refine lv_aload_n hx hb dX12_fatsOf_54 rfl (lv_at hl 0 rfl) ?_
                  refine va_get (ci := 12) (v := .ref (ma 16)) (C := RX12) (T := TX12) (N := 38) hx hb hts inX12 hown hK.1 hP 0 rfl rfl 16 (by decide) (hts (.fieldLink RX12 40 "SkimmedSonsModel" "seenMuch" "[I") (by decide +kernel)) (fun _ h9 => h9) rfl dX12_fatsOf_55 ?_
                  refine lv_iload hx hb dX12_fatsOf_58 (lv_at hl 5 rfl) ?_
                  refine z_iald hx hb hK.1 hP 9 rfl (by omega) dX12_fatsOf_60 ?_
                  refine W.eq (g2 := F0 m 61 ls [.int (iI (s3 j)), .int (iI (risenP (pv z.toNat) (s2 j) (↑i : Int)))]) rfl ?_
                  refine z_icmp_ne (tgt := 68) hx hb (by omega) dX12_fatsOf_61 (by decide) (fun c_11 => ?_) (fun c_11 => ?_)
                  · skip
                    refine lv_iconst (v := iI 0) hx hb dX12_fatsOf_68 (by decide) ?_
                    refine lv_istore (lv' := [(4, .int (iI 0)), (0, .ref o), (1, .int (iI z)), (2, .int (iI y)), (3, .int (iI (↑i))), (5, .int (iI (↑j)))]) hx hb dX12_fatsOf_69 hl (by decide) rfl (fun ls hl => ?_)
                    refine z_iinc (k := 5) (lv' := [(5, .int (iI ((↑j) + 1))), (4, .int (iI 0)), (0, .ref o), (1, .int (iI z)), (2, .int (iI y)), (3, .int (iI (↑i)))]) hx hb dX12_fatsOf_71 hl rfl (by decide) rfl (fun ls hl => ?_)
                    refine lv_goto (tgt := 16) hx hb dX12_fatsOf_74 (by decide) ?_
                    exact ih16  (j + 1) 0 (by omega) (by unfold canZ; first | (rw [if_pos (by omega)]; omega) | (rw [if_neg (by omega), ← hw]; omega) | (split; (rfl); (rw [← hw]; omega))) (by omega) _ _ _ hP hD hS (lv_sub hl [2, 3, 4, 5, 1, 0] rfl)
                  · skip
                    refine lv_iconst (v := iI 1) hx hb dX12_fatsOf_64 (by decide) ?_
                    refine lv_goto (tgt := 69) hx hb dX12_fatsOf_65 (by decide) ?_
                    refine lv_istore (lv' := [(4, .int (iI 1)), (0, .ref o), (1, .int (iI z)), (2, .int (iI y)), (3, .int (iI (↑i))), (5, .int (iI (↑j)))]) hx hb dX12_fatsOf_69 hl (by decide) rfl (fun ls hl => ?_)
                    refine z_iinc (k := 5) (lv' := [(5, .int (iI ((↑j) + 1))), (4, .int (iI 1)), (0, .ref o), (1, .int (iI z)), (2, .int (iI y)), (3, .int (iI (↑i)))]) hx hb dX12_fatsOf_71 hl rfl (by decide) rfl (fun ls hl => ?_)
                    refine lv_goto (tgt := 16) hx hb dX12_fatsOf_74 (by decide) ?_
                    exact ih16  (j + 1) 1 (by omega) (by unfold canZ; first | (rw [if_pos (by omega)]; omega) | (rw [if_neg (by omega), ← hw]; omega) | (split; (rfl); (rw [← hw]; omega))) (by omega) _ _ _ hP hD hS (lv_sub hl [2, 3, 4, 5, 1, 0] rfl)
        exact L16 ((mi 13 - ↑(0 : Nat)).toNat + 1) 0 1 (by omega) (by rfl) (by omega) _ _ _ hP hD hS (lv_sub hl [2, 3, 4, 5, 1, 0] rfl)
  exact L4 ((16 - 0) + 1) 0 0 (by omega) (by rfl) (by omega) _ _ _ hP hD hS (lv_sub hl [2, 3, 1, 0] rfl)
set_option maxHeartbeats 1000000 in
set_option maxRecDepth 100000 in
theorem c_X12_worstBy (l : Launch) (X : zX) (o : Nat) (ma : Nat → Nat) (mi : Nat → Int) (ml : Nat → Int) (pv : Nat → Nat → Int) (z : Int) (x : Int) (y : Int) (hpz : PanB (pv z.toNat)) (hz3 : 0 ≤ z ∧ z < 3) (hx1 : 0 ≤ x ∧ x < 65536) (hy1 : 0 ≤ y ∧ y ≤ 100) : zF l X yX12_worstBy wsX12_worstBy 1 24 [.ref o, .int (iI z), .int (iI x), .int (iI y)] (zb [WMo o ma mi ml, WMp X ma pv]) (some (.int (iI (wsZ x (y * (1 + pv z.toNat 0)) 16)))) (zb [WMo o ma mi ml, WMp X ma pv]) := by
  refine z_enter (cc := cX12_worstBy) (maxL := 8) (ret := (some .int)) (by decide) rfl (Nat.le_of_ble_eq_true rfl) ?_
  intro p e s m below meth c A ls Q hQ hE hl hP hD
  obtain ⟨hx, hb, hr, hml, hown, hts, hlocks, hnm, hA, hK⟩ := hE
  have hown : s.vm.findClass RX12 = some m.cls := hown
  have hS : va_S A s.heap s.heap [] := va_S.rf
  have hl : lv_has ls 8 [(0, .ref o), (1, .int (iI z)), (2, .int (iI x)), (3, .int (iI y))] := hl
  obtain ⟨⟨h00, h01⟩, ⟨h10, h11⟩, h2, h3, h4, h5, h6⟩ := id hpz
  refine lv_iconst (v := iI 0) hx hb dX12_worstBy_0 (by decide) ?_
  refine lv_istore (lv' := [(4, .int (iI 0)), (0, .ref o), (1, .int (iI z)), (2, .int (iI x)), (3, .int (iI y))]) hx hb dX12_worstBy_1 hl (by decide) rfl (fun ls hl => ?_)
  refine lv_iconst (v := iI 0) hx hb dX12_worstBy_3 (by decide) ?_
  refine lv_istore (lv' := [(5, .int (iI 0)), (4, .int (iI 0)), (0, .ref o), (1, .int (iI z)), (2, .int (iI x)), (3, .int (iI y))]) hx hb dX12_worstBy_4 hl (by decide) rfl (fun ls hl => ?_)
  have L6 : ∀ (fu : Nat) (i : Nat) (w : Int), (i ≤ 16) → (w = (wsZ x (y * (1 + pv z.toNat 0)) i)) → (16 - i) < fu → ∀ (H : Heap) (locs : List Loc) (ls : Array Slot), va_P X.1 vwCl (zb [WMo o ma mi ml, WMp X ma pv]) H → va_D A (zb [WMo o ma mi ml, WMp X ma pv]) → va_S A s.heap H locs → lv_has ls 8 [(0, .ref o), (1, .int (iI z)), (2, .int (iI x)), (3, .int (iI y)), (4, .int (iI w)), (5, .int (iI (↑i)))] → W p l e { frames := 1, cells := 0, slots := 0, locals := 24 } s m ([.ref o, .int (iI z), .int (iI x), .int (iI y)] : List Value).toArray below meth c H locs 0 0 Q (F0 m 6 ls []) := by
    intro fu
    induction fu with
    | zero => intro i w hi hw hm; exact absurd hm (Nat.not_lt_zero _)
    | succ fu ih6 =>
      intro i w hi hw hm H locs ls hP hD hS hl
      have hw1 := wsZ_in x (y * (1 + pv z.toNat 0)) i
      have hb0 := btZ_01 x i
      refine lv_iload hx hb dX12_worstBy_6 (lv_at hl 5 rfl) ?_
      refine lv_bipush (v := iI 15) hx hb dX12_worstBy_8 (by decide) ?_
      refine z_icmp_gt (tgt := 101) hx hb (by omega) dX12_worstBy_10 (by decide) (fun c_1 => ?_) (fun c_1 => ?_)
      · skip
        refine lv_iload hx hb dX12_worstBy_101 (lv_at hl 4 rfl) ?_
        exact z_iret hQ hx hb hr hlocks hS ⟨(Nat.le_of_ble_eq_true rfl), (Nat.le_of_ble_eq_true rfl)⟩ dX12_worstBy_103 () (congrArg (fun z => some (Value.int (iI z))) (show (wsZ x (y * (1 + pv z.toNat 0)) 16 : Int) = w by rw [hw, show i = 16 by omega])) trivial hP hD
      · skip
        refine lv_iconst (v := iI 0) hx hb dX12_worstBy_13 (by decide) ?_
        refine lv_istore (lv' := [(6, .int (iI 0)), (0, .ref o), (1, .int (iI z)), (2, .int (iI x)), (3, .int (iI y)), (4, .int (iI w)), (5, .int (iI (↑i)))]) hx hb dX12_worstBy_14 hl (by decide) rfl (fun ls hl => ?_)
        refine lv_iconst (v := iI 0) hx hb dX12_worstBy_16 (by decide) ?_
        refine lv_istore (lv' := [(7, .int (iI 0)), (6, .int (iI 0)), (0, .ref o), (1, .int (iI z)), (2, .int (iI x)), (3, .int (iI y)), (4, .int (iI w)), (5, .int (iI (↑i)))]) hx hb dX12_worstBy_17 hl (by decide) rfl (fun ls hl => ?_)
        have L19 : ∀ (fu : Nat) (j : Nat) (u : Int), (j ≤ 16) → (u = (smZ x (y * (1 + pv z.toNat 0)) i j)) → (16 - j) < fu → ∀ (H : Heap) (locs : List Loc) (ls : Array Slot), va_P X.1 vwCl (zb [WMo o ma mi ml, WMp X ma pv]) H → va_D A (zb [WMo o ma mi ml, WMp X ma pv]) → va_S A s.heap H locs → lv_has ls 8 [(0, .ref o), (1, .int (iI z)), (2, .int (iI x)), (3, .int (iI y)), (4, .int (iI w)), (5, .int (iI (↑i))), (6, .int (iI u)), (7, .int (iI (↑j)))] → W p l e { frames := 1, cells := 0, slots := 0, locals := 24 } s m ([.ref o, .int (iI z), .int (iI x), .int (iI y)] : List Value).toArray below meth c H locs 0 0 Q (F0 m 19 ls []) := by
          intro fu
          induction fu with
          | zero => intro j u hj hu hm; exact absurd hm (Nat.not_lt_zero _)
          | succ fu ih19 =>
            intro j u hj hu hm H locs ls hP hD hS hl
            have hu1 := smZ_in x (y * (1 + pv z.toNat 0)) i j
            have hb1 := btZ_01 x j
            have hrA : risenP (pv z.toNat) y ↑i = pv z.toNat 3 + pv z.toNat 4 + min (↑i : Int) (y * (1 + pv z.toNat 0)) := rfl
            have hrB : risenP (pv z.toNat) y ↑j = pv z.toNat 3 + pv z.toNat 4 + min (↑j : Int) (y * (1 + pv z.toNat 0)) := rfl
            have hrr : (i < 16 → -1000 ≤ risenP (pv z.toNat) y ↑i ∧ risenP (pv z.toNat) y ↑i ≤ 1000) ∧ (j < 16 → -1000 ≤ risenP (pv z.toNat) y ↑j ∧ risenP (pv z.toNat) y ↑j ≤ 1000) := ⟨fun q => by have := risenP_in (n := y) (x := (i : Int)) hpz (by omega) (by omega); omega, fun q => by have := risenP_in (n := y) (x := (j : Int)) hpz (by omega) (by omega); omega⟩
            refine lv_iload hx hb dX12_worstBy_19 (lv_at hl 7 rfl) ?_
            refine lv_bipush (v := iI 15) hx hb dX12_worstBy_21 (by decide) ?_
            refine z_icmp_gt (tgt := 79) hx hb (by omega) dX12_worstBy_23 (by decide) (fun c_2 => ?_) (fun c_2 => ?_)
            · skip
              refine lv_iload hx hb dX12_worstBy_79 (lv_at hl 6 rfl) ?_
              refine lv_iload hx hb dX12_worstBy_81 (lv_at hl 4 rfl) ?_
              refine z_icmp_le (tgt := 91) hx hb (by omega) dX12_worstBy_83 (by decide) (fun c_3 => ?_) (fun c_3 => ?_)
              · skip
                refine lv_iload hx hb dX12_worstBy_91 (lv_at hl 4 rfl) ?_
                refine lv_istore (lv' := [(4, .int (iI w)), (0, .ref o), (1, .int (iI z)), (2, .int (iI x)), (3, .int (iI y)), (5, .int (iI (↑i))), (6, .int (iI u)), (7, .int (iI (↑j)))]) hx hb dX12_worstBy_93 hl (by decide) rfl (fun ls hl => ?_)
                refine z_iinc (k := 5) (lv' := [(5, .int (iI ((↑i) + 1))), (4, .int (iI w)), (0, .ref o), (1, .int (iI z)), (2, .int (iI x)), (3, .int (iI y)), (6, .int (iI u)), (7, .int (iI (↑j)))]) hx hb dX12_worstBy_95 hl rfl (by decide) rfl (fun ls hl => ?_)
                refine lv_goto (tgt := 6) hx hb dX12_worstBy_98 (by decide) ?_
                exact ih6  (i + 1) w (by omega) (by unfold wsZ; rw [← hw]; rw [show j = 16 by omega] at hu; rw [← hu]; first | (rw [if_pos (by omega)]) | (rw [if_neg (by omega)])) (by omega) _ _ _ hP hD hS (lv_sub hl [2, 3, 4, 5, 1, 0] rfl)
              · skip
                refine lv_iload hx hb dX12_worstBy_86 (lv_at hl 6 rfl) ?_
                refine lv_goto (tgt := 93) hx hb dX12_worstBy_88 (by decide) ?_
                refine lv_istore (lv' := [(4, .int (iI u)), (0, .ref o), (1, .int (iI z)), (2, .int (iI x)), (3, .int (iI y)), (5, .int (iI (↑i))), (6, .int (iI u)), (7, .int (iI (↑j)))]) hx hb dX12_worstBy_93 hl (by decide) rfl (fun ls hl => ?_)
                refine z_iinc (k := 5) (lv' := [(5, .int (iI ((↑i) + 1))), (4, .int (iI u)), (0, .ref o), (1, .int (iI z)), (2, .int (iI x)), (3, .int (iI y)), (6, .int (iI u)), (7, .int (iI (↑j)))]) hx hb dX12_worstBy_95 hl rfl (by decide) rfl (fun ls hl => ?_)
                refine lv_goto (tgt := 6) hx hb dX12_worstBy_98 (by decide) ?_
                exact ih6  (i + 1) u (by omega) (by unfold wsZ; rw [← hw]; rw [show j = 16 by omega] at hu; rw [← hu]; first | (rw [if_pos (by omega)]) | (rw [if_neg (by omega)])) (by omega) _ _ _ hP hD hS (lv_sub hl [2, 3, 4, 5, 1, 0] rfl)
            · skip
              refine lv_iload hx hb dX12_worstBy_26 (lv_at hl 6 rfl) ?_
              refine lv_iload_n hx hb dX12_worstBy_28 rfl (lv_at hl 2 rfl) ?_
              refine lv_iload hx hb dX12_worstBy_29 (lv_at hl 5 rfl) ?_
              have hPm := zp_perm hP (zblk (show List.Perm ([WMo o ma mi ml, WMp X ma pv] : List va_W) ([] ++ [WMo o ma mi ml, WMp X ma pv]) from List.Perm.refl _))
              have hDm := zd_perm hD (zblk (show List.Perm ([WMo o ma mi ml, WMp X ma pv] : List va_W) ([] ++ [WMo o ma mi ml, WMp X ma pv]) from List.Perm.refl _))
              refine z_callS (wr := zb [WMo o ma mi ml, WMp X ma pv]) (As := [.int (iI x), .int (iI (↑i))]) (rest := [.int (iI u)]) ⟨hx, hb, hml, hown, hts⟩ (c_X12_isIn l X x (↑i : Int) (by omega) (by omega)) (va_cwS 2 hts gX12_worstBy_X12_isIn rfl rfl rfl (by decide +kernel) ⟨Nat.le_of_ble_eq_true rfl, Nat.le_of_ble_eq_true rfl⟩) hl.1 dX12_worstBy_31 rfl rfl (Nat.le_of_ble_eq_true rfl) ⟨(Nat.le_of_ble_eq_true rfl), (Nat.le_of_ble_eq_true rfl)⟩ hS hA hK hPm hDm (fun _ H locs _ hP hD hS => ?_)
              have hP := zp_perm hP ((zblk (show List.Perm ([WMo o ma mi ml, WMp X ma pv] : List va_W) ([] ++ [WMo o ma mi ml, WMp X ma pv]) from List.Perm.refl _))).symm
              have hD := zd_perm hD ((zblk (show List.Perm ([WMo o ma mi ml, WMp X ma pv] : List va_W) ([] ++ [WMo o ma mi ml, WMp X ma pv]) from List.Perm.refl _))).symm
              have hP : va_P X.1 vwCl (zb [WMo o ma mi ml, WMp X ma pv]) H := hP
              have hD : va_D A (zb [WMo o ma mi ml, WMp X ma pv]) := hD
              refine W.eq (g2 := F0 m 34 ls [.int (iI (btZ x i)), .int (iI u)]) rfl ?_
              refine z_if_eq (tgt := 69) hx hb (by omega) dX12_worstBy_34 (by decide) (fun c_6 => ?_) (fun c_6 => ?_)
              · skip
                refine lv_iconst (v := iI 0) hx hb dX12_worstBy_69 (by decide) ?_
                refine z_iadd hx hb dX12_worstBy_70 ?_
                refine z_topi (fun z_7 ez_7 => ?_)
                refine lv_istore (lv' := [(6, .int (iI z_7)), (0, .ref o), (1, .int (iI z)), (2, .int (iI x)), (3, .int (iI y)), (4, .int (iI w)), (5, .int (iI (↑i))), (7, .int (iI (↑j)))]) hx hb dX12_worstBy_71 hl (by decide) rfl (fun ls hl => ?_)
                refine z_iinc (k := 7) (lv' := [(7, .int (iI ((↑j) + 1))), (6, .int (iI z_7)), (0, .ref o), (1, .int (iI z)), (2, .int (iI x)), (3, .int (iI y)), (4, .int (iI w)), (5, .int (iI (↑i)))]) hx hb dX12_worstBy_73 hl rfl (by decide) rfl (fun ls hl => ?_)
                refine lv_goto (tgt := 19) hx hb dX12_worstBy_76 (by decide) ?_
                exact ih19  (j + 1) z_7 (by omega) (by unfold smZ; rw [← hu]; first | (rw [if_pos (by omega)]; omega) | (rw [if_neg (by omega)]; omega)) (by omega) _ _ _ hP hD hS (lv_sub hl [2, 3, 4, 5, 6, 7, 1, 0] rfl)
              · skip
                refine lv_iload_n hx hb dX12_worstBy_37 rfl (lv_at hl 2 rfl) ?_
                refine lv_iload hx hb dX12_worstBy_38 (lv_at hl 7 rfl) ?_
                have hPm := zp_perm hP (zblk (show List.Perm ([WMo o ma mi ml, WMp X ma pv] : List va_W) ([] ++ [WMo o ma mi ml, WMp X ma pv]) from List.Perm.refl _))
                have hDm := zd_perm hD (zblk (show List.Perm ([WMo o ma mi ml, WMp X ma pv] : List va_W) ([] ++ [WMo o ma mi ml, WMp X ma pv]) from List.Perm.refl _))
                refine z_callS (wr := zb [WMo o ma mi ml, WMp X ma pv]) (As := [.int (iI x), .int (iI (↑j))]) (rest := [.int (iI u)]) ⟨hx, hb, hml, hown, hts⟩ (c_X12_isIn l X x (↑j : Int) (by omega) (by omega)) (va_cwS 2 hts gX12_worstBy_X12_isIn rfl rfl rfl (by decide +kernel) ⟨Nat.le_of_ble_eq_true rfl, Nat.le_of_ble_eq_true rfl⟩) hl.1 dX12_worstBy_40 rfl rfl (Nat.le_of_ble_eq_true rfl) ⟨(Nat.le_of_ble_eq_true rfl), (Nat.le_of_ble_eq_true rfl)⟩ hS hA hK hPm hDm (fun _ H locs _ hP hD hS => ?_)
                have hP := zp_perm hP ((zblk (show List.Perm ([WMo o ma mi ml, WMp X ma pv] : List va_W) ([] ++ [WMo o ma mi ml, WMp X ma pv]) from List.Perm.refl _))).symm
                have hD := zd_perm hD ((zblk (show List.Perm ([WMo o ma mi ml, WMp X ma pv] : List va_W) ([] ++ [WMo o ma mi ml, WMp X ma pv]) from List.Perm.refl _))).symm
                have hP : va_P X.1 vwCl (zb [WMo o ma mi ml, WMp X ma pv]) H := hP
                have hD : va_D A (zb [WMo o ma mi ml, WMp X ma pv]) := hD
                refine W.eq (g2 := F0 m 43 ls [.int (iI (btZ x j)), .int (iI u)]) rfl ?_
                refine z_if_eq (tgt := 69) hx hb (by omega) dX12_worstBy_43 (by decide) (fun c_9 => ?_) (fun c_9 => ?_)
                · skip
                  refine lv_iconst (v := iI 0) hx hb dX12_worstBy_69 (by decide) ?_
                  refine z_iadd hx hb dX12_worstBy_70 ?_
                  refine z_topi (fun z_10 ez_10 => ?_)
                  refine lv_istore (lv' := [(6, .int (iI z_10)), (0, .ref o), (1, .int (iI z)), (2, .int (iI x)), (3, .int (iI y)), (4, .int (iI w)), (5, .int (iI (↑i))), (7, .int (iI (↑j)))]) hx hb dX12_worstBy_71 hl (by decide) rfl (fun ls hl => ?_)
                  refine z_iinc (k := 7) (lv' := [(7, .int (iI ((↑j) + 1))), (6, .int (iI z_10)), (0, .ref o), (1, .int (iI z)), (2, .int (iI x)), (3, .int (iI y)), (4, .int (iI w)), (5, .int (iI (↑i)))]) hx hb dX12_worstBy_73 hl rfl (by decide) rfl (fun ls hl => ?_)
                  refine lv_goto (tgt := 19) hx hb dX12_worstBy_76 (by decide) ?_
                  exact ih19  (j + 1) z_10 (by omega) (by unfold smZ; rw [← hu]; first | (rw [if_pos (by omega)]; omega) | (rw [if_neg (by omega)]; omega)) (by omega) _ _ _ hP hD hS (lv_sub hl [2, 3, 4, 5, 6, 7, 1, 0] rfl)
                · skip
                  refine lv_aload_n hx hb dX12_worstBy_46 rfl (lv_at hl 0 rfl) ?_
                  refine lv_iload_n hx hb dX12_worstBy_47 rfl (lv_at hl 1 rfl) ?_
                  refine lv_iload hx hb dX12_worstBy_48 (lv_at hl 5 rfl) ?_
                  refine lv_iload_n hx hb dX12_worstBy_50 rfl (lv_at hl 3 rfl) ?_
                  have hPm := zp_perm hP (zblk (show List.Perm ([WMo o ma mi ml, WMp X ma pv] : List va_W) ([WMo o ma mi ml, WMp X ma pv] ++ []) from (zf1 _ 0 _ rfl).trans (((zf1 _ 0 _ rfl).trans ((List.Perm.refl _).cons _)).cons _)))
                  have hDm := zd_perm hD (zblk (show List.Perm ([WMo o ma mi ml, WMp X ma pv] : List va_W) ([WMo o ma mi ml, WMp X ma pv] ++ []) from (zf1 _ 0 _ rfl).trans (((zf1 _ 0 _ rfl).trans ((List.Perm.refl _).cons _)).cons _)))
                  refine z_callV (wr := zb []) (As := [.int (iI z), .int (iI (↑i)), .int (iI y)]) (rest := [.int (iI u)]) ⟨hx, hb, hml, hown, hts⟩ (c_X12_risenBy l X o ma mi ml pv z (↑i : Int) y (by exact hpz) (by omega) (by omega) (by omega)) (cwV 3 hts gX12_worstBy_X12_risenBy rfl rfl rfl (by decide +kernel) ⟨Nat.le_of_ble_eq_true rfl, Nat.le_of_ble_eq_true rfl⟩) rfl rfl hl.1 dX12_worstBy_51 rfl rfl (Nat.le_of_ble_eq_true rfl) ⟨(Nat.le_of_ble_eq_true rfl), (Nat.le_of_ble_eq_true rfl)⟩ hS hA hK hPm hDm (fun _ H locs _ hP hD hS => ?_)
                  have hP := zp_perm hP ((zblk (show List.Perm ([WMo o ma mi ml, WMp X ma pv] : List va_W) ([WMo o ma mi ml, WMp X ma pv] ++ []) from (zf1 _ 0 _ rfl).trans (((zf1 _ 0 _ rfl).trans ((List.Perm.refl _).cons _)).cons _)))).symm
                  have hD := zd_perm hD ((zblk (show List.Perm ([WMo o ma mi ml, WMp X ma pv] : List va_W) ([WMo o ma mi ml, WMp X ma pv] ++ []) from (zf1 _ 0 _ rfl).trans (((zf1 _ 0 _ rfl).trans ((List.Perm.refl _).cons _)).cons _)))).symm
                  have hP : va_P X.1 vwCl (zb [WMo o ma mi ml, WMp X ma pv]) H := hP
                  have hD : va_D A (zb [WMo o ma mi ml, WMp X ma pv]) := hD
                  refine W.eq (g2 := F0 m 54 ls [.int (iI (risenP (pv z.toNat) y (↑i : Int))), .int (iI u)]) rfl ?_
                  refine lv_aload_n hx hb dX12_worstBy_54 rfl (lv_at hl 0 rfl) ?_
                  refine lv_iload_n hx hb dX12_worstBy_55 rfl (lv_at hl 1 rfl) ?_
                  refine lv_iload hx hb dX12_worstBy_56 (lv_at hl 7 rfl) ?_
                  refine lv_iload_n hx hb dX12_worstBy_58 rfl (lv_at hl 3 rfl) ?_
                  have hPm := zp_perm hP (zblk (show List.Perm ([WMo o ma mi ml, WMp X ma pv] : List va_W) ([WMo o ma mi ml, WMp X ma pv] ++ []) from (zf1 _ 0 _ rfl).trans (((zf1 _ 0 _ rfl).trans ((List.Perm.refl _).cons _)).cons _)))
                  have hDm := zd_perm hD (zblk (show List.Perm ([WMo o ma mi ml, WMp X ma pv] : List va_W) ([WMo o ma mi ml, WMp X ma pv] ++ []) from (zf1 _ 0 _ rfl).trans (((zf1 _ 0 _ rfl).trans ((List.Perm.refl _).cons _)).cons _)))
                  refine z_callV (wr := zb []) (As := [.int (iI z), .int (iI (↑j)), .int (iI y)]) (rest := [.int (iI (risenP (pv z.toNat) y (↑i : Int))), .int (iI u)]) ⟨hx, hb, hml, hown, hts⟩ (c_X12_risenBy l X o ma mi ml pv z (↑j : Int) y (by exact hpz) (by omega) (by omega) (by omega)) (cwV 3 hts gX12_worstBy_X12_risenBy rfl rfl rfl (by decide +kernel) ⟨Nat.le_of_ble_eq_true rfl, Nat.le_of_ble_eq_true rfl⟩) rfl rfl hl.1 dX12_worstBy_59 rfl rfl (Nat.le_of_ble_eq_true rfl) ⟨(Nat.le_of_ble_eq_true rfl), (Nat.le_of_ble_eq_true rfl)⟩ hS hA hK hPm hDm (fun _ H locs _ hP hD hS => ?_)
                  have hP := zp_perm hP ((zblk (show List.Perm ([WMo o ma mi ml, WMp X ma pv] : List va_W) ([WMo o ma mi ml, WMp X ma pv] ++ []) from (zf1 _ 0 _ rfl).trans (((zf1 _ 0 _ rfl).trans ((List.Perm.refl _).cons _)).cons _)))).symm
                  have hD := zd_perm hD ((zblk (show List.Perm ([WMo o ma mi ml, WMp X ma pv] : List va_W) ([WMo o ma mi ml, WMp X ma pv] ++ []) from (zf1 _ 0 _ rfl).trans (((zf1 _ 0 _ rfl).trans ((List.Perm.refl _).cons _)).cons _)))).symm
                  have hP : va_P X.1 vwCl (zb [WMo o ma mi ml, WMp X ma pv]) H := hP
                  have hD : va_D A (zb [WMo o ma mi ml, WMp X ma pv]) := hD
                  refine W.eq (g2 := F0 m 62 ls [.int (iI (risenP (pv z.toNat) y (↑j : Int))), .int (iI (risenP (pv z.toNat) y (↑i : Int))), .int (iI u)]) rfl ?_
                  refine z_icmp_ne (tgt := 69) hx hb (by omega) dX12_worstBy_62 (by decide) (fun c_12 => ?_) (fun c_12 => ?_)
                  · skip
                    refine lv_iconst (v := iI 0) hx hb dX12_worstBy_69 (by decide) ?_
                    refine z_iadd hx hb dX12_worstBy_70 ?_
                    refine z_topi (fun z_13 ez_13 => ?_)
                    refine lv_istore (lv' := [(6, .int (iI z_13)), (0, .ref o), (1, .int (iI z)), (2, .int (iI x)), (3, .int (iI y)), (4, .int (iI w)), (5, .int (iI (↑i))), (7, .int (iI (↑j)))]) hx hb dX12_worstBy_71 hl (by decide) rfl (fun ls hl => ?_)
                    refine z_iinc (k := 7) (lv' := [(7, .int (iI ((↑j) + 1))), (6, .int (iI z_13)), (0, .ref o), (1, .int (iI z)), (2, .int (iI x)), (3, .int (iI y)), (4, .int (iI w)), (5, .int (iI (↑i)))]) hx hb dX12_worstBy_73 hl rfl (by decide) rfl (fun ls hl => ?_)
                    refine lv_goto (tgt := 19) hx hb dX12_worstBy_76 (by decide) ?_
                    exact ih19  (j + 1) z_13 (by omega) (by unfold smZ; rw [← hu]; first | (rw [if_pos (by omega)]; omega) | (rw [if_neg (by omega)]; omega)) (by omega) _ _ _ hP hD hS (lv_sub hl [2, 3, 4, 5, 6, 7, 1, 0] rfl)
                  · skip
                    refine lv_iconst (v := iI 1) hx hb dX12_worstBy_65 (by decide) ?_
                    refine lv_goto (tgt := 70) hx hb dX12_worstBy_66 (by decide) ?_
                    refine z_iadd hx hb dX12_worstBy_70 ?_
                    refine z_topi (fun z_15 ez_15 => ?_)
                    refine lv_istore (lv' := [(6, .int (iI z_15)), (0, .ref o), (1, .int (iI z)), (2, .int (iI x)), (3, .int (iI y)), (4, .int (iI w)), (5, .int (iI (↑i))), (7, .int (iI (↑j)))]) hx hb dX12_worstBy_71 hl (by decide) rfl (fun ls hl => ?_)
                    refine z_iinc (k := 7) (lv' := [(7, .int (iI ((↑j) + 1))), (6, .int (iI z_15)), (0, .ref o), (1, .int (iI z)), (2, .int (iI x)), (3, .int (iI y)), (4, .int (iI w)), (5, .int (iI (↑i)))]) hx hb dX12_worstBy_73 hl rfl (by decide) rfl (fun ls hl => ?_)
                    refine lv_goto (tgt := 19) hx hb dX12_worstBy_76 (by decide) ?_
                    exact ih19  (j + 1) z_15 (by omega) (by unfold smZ; rw [← hu]; first | (rw [if_pos (by omega)]; omega) | (rw [if_neg (by omega)]; omega)) (by omega) _ _ _ hP hD hS (lv_sub hl [2, 3, 4, 5, 6, 7, 1, 0] rfl)
        exact L19 ((16 - 0) + 1) 0 0 (by omega) (by rfl) (by omega) _ _ _ hP hD hS (lv_sub hl [2, 3, 4, 5, 6, 7, 1, 0] rfl)
  exact L6 ((16 - 0) + 1) 0 0 (by omega) (by rfl) (by omega) _ _ _ hP hD hS (lv_sub hl [2, 3, 4, 5, 1, 0] rfl)
set_option maxHeartbeats 1000000 in
set_option maxRecDepth 100000 in
theorem c_X12_lookFor (l : Launch) (X : zX) (o : Nat) (ma : Nat → Nat) (mi : Nat → Int) (ml : Nat → Int) (pv : Nat → Nat → Int) (s1 : Nat → Int) (s2 : Nat → Int) (s3 : Nat → Int) (z : Int) (hpz : PanB (pv z.toNat)) (hz3 : 0 ≤ z ∧ z < 3) (hsg : SigB (mi 13) s1 s2 s3) : zF l X yX12_lookFor wsX12_lookFor 2 51 [.ref o, .int (iI z)] (zb [WMo o ma mi ml, WMp X ma pv, Wa X 2 (ma 14) 6 s1, Wa X 2 (ma 15) 6 s2, Wa X 2 (ma 16) 6 s3]) (some (.int (iI (lookZ (fatsZ s1 s2 s3 (mi 13) z (pv z.toNat) 16) (1 + pv z.toNat 0))))) (zb [WMo o ma mi ml, WMp X ma pv, Wa X 2 (ma 14) 6 s1, Wa X 2 (ma 15) 6 s2, Wa X 2 (ma 16) 6 s3]) := by
  refine z_enter (cc := cX12_lookFor) (maxL := 7) (ret := (some .int)) (by decide) rfl (Nat.le_of_ble_eq_true rfl) ?_
  intro p e s m below meth c A ls Q hQ hE hl hP hD
  obtain ⟨hx, hb, hr, hml, hown, hts, hlocks, hnm, hA, hK⟩ := hE
  have hown : s.vm.findClass RX12 = some m.cls := hown
  have hS : va_S A s.heap s.heap [] := va_S.rf
  have hl : lv_has ls 7 [(0, .ref o), (1, .int (iI z))] := hl
  obtain ⟨⟨h00, h01⟩, ⟨h10, h11⟩, h2, h3, h4, h5, h6⟩ := id hpz
  have hfb := fatsZ_in s1 s2 s3 (mi 13) z (pv z.toNat) 16
  rw [show (2 : Int) ^ 16 = 65536 from rfl] at hfb
  obtain ⟨fb, hfe⟩ : ∃ q, q = (fatsZ s1 s2 s3 (mi 13) z (pv z.toNat) 16) := ⟨_, rfl⟩
  rw [← hfe] at hfb
  refine lv_aload_n hx hb dX12_lookFor_0 rfl (lv_at hl 0 rfl) ?_
  refine lv_iload_n hx hb dX12_lookFor_1 rfl (lv_at hl 1 rfl) ?_
  have hPm := zp_perm hP (zblk (show List.Perm ([WMo o ma mi ml, WMp X ma pv, Wa X 2 (ma 14) 6 s1, Wa X 2 (ma 15) 6 s2, Wa X 2 (ma 16) 6 s3] : List va_W) ([WMo o ma mi ml, WMp X ma pv, Wa X 2 (ma 14) 6 s1, Wa X 2 (ma 15) 6 s2, Wa X 2 (ma 16) 6 s3] ++ []) from (zf1 _ 0 _ rfl).trans (((zf1 _ 0 _ rfl).trans (((zf1 _ 0 _ rfl).trans (((zf1 _ 0 _ rfl).trans (((zf1 _ 0 _ rfl).trans ((List.Perm.refl _).cons _)).cons _)).cons _)).cons _)).cons _)))
  have hDm := zd_perm hD (zblk (show List.Perm ([WMo o ma mi ml, WMp X ma pv, Wa X 2 (ma 14) 6 s1, Wa X 2 (ma 15) 6 s2, Wa X 2 (ma 16) 6 s3] : List va_W) ([WMo o ma mi ml, WMp X ma pv, Wa X 2 (ma 14) 6 s1, Wa X 2 (ma 15) 6 s2, Wa X 2 (ma 16) 6 s3] ++ []) from (zf1 _ 0 _ rfl).trans (((zf1 _ 0 _ rfl).trans (((zf1 _ 0 _ rfl).trans (((zf1 _ 0 _ rfl).trans (((zf1 _ 0 _ rfl).trans ((List.Perm.refl _).cons _)).cons _)).cons _)).cons _)).cons _)))
  refine z_callV (wr := zb []) (As := [.int (iI z)]) (rest := []) ⟨hx, hb, hml, hown, hts⟩ (c_X12_fatsOf l X o ma mi ml pv s1 s2 s3 z (by exact hpz) (by omega) (by exact hsg)) (cwV 1 hts gX12_lookFor_X12_fatsOf rfl rfl rfl (by decide +kernel) ⟨Nat.le_of_ble_eq_true rfl, Nat.le_of_ble_eq_true rfl⟩) rfl rfl hl.1 dX12_lookFor_2 rfl rfl (Nat.le_of_ble_eq_true rfl) ⟨(Nat.le_of_ble_eq_true rfl), (Nat.le_of_ble_eq_true rfl)⟩ hS hA hK hPm hDm (fun _ H locs _ hP hD hS => ?_)
  have hP := zp_perm hP ((zblk (show List.Perm ([WMo o ma mi ml, WMp X ma pv, Wa X 2 (ma 14) 6 s1, Wa X 2 (ma 15) 6 s2, Wa X 2 (ma 16) 6 s3] : List va_W) ([WMo o ma mi ml, WMp X ma pv, Wa X 2 (ma 14) 6 s1, Wa X 2 (ma 15) 6 s2, Wa X 2 (ma 16) 6 s3] ++ []) from (zf1 _ 0 _ rfl).trans (((zf1 _ 0 _ rfl).trans (((zf1 _ 0 _ rfl).trans (((zf1 _ 0 _ rfl).trans (((zf1 _ 0 _ rfl).trans ((List.Perm.refl _).cons _)).cons _)).cons _)).cons _)).cons _)))).symm
  have hD := zd_perm hD ((zblk (show List.Perm ([WMo o ma mi ml, WMp X ma pv, Wa X 2 (ma 14) 6 s1, Wa X 2 (ma 15) 6 s2, Wa X 2 (ma 16) 6 s3] : List va_W) ([WMo o ma mi ml, WMp X ma pv, Wa X 2 (ma 14) 6 s1, Wa X 2 (ma 15) 6 s2, Wa X 2 (ma 16) 6 s3] ++ []) from (zf1 _ 0 _ rfl).trans (((zf1 _ 0 _ rfl).trans (((zf1 _ 0 _ rfl).trans (((zf1 _ 0 _ rfl).trans (((zf1 _ 0 _ rfl).trans ((List.Perm.refl _).cons _)).cons _)).cons _)).cons _)).cons _)))).symm
  have hP : va_P X.1 vwCl (zb [WMo o ma mi ml, WMp X ma pv, Wa X 2 (ma 14) 6 s1, Wa X 2 (ma 15) 6 s2, Wa X 2 (ma 16) 6 s3]) H := hP
  have hD : va_D A (zb [WMo o ma mi ml, WMp X ma pv, Wa X 2 (ma 14) 6 s1, Wa X 2 (ma 15) 6 s2, Wa X 2 (ma 16) 6 s3]) := hD
  refine W.eq (g2 := F0 m 5 ls [.int (iI (fatsZ s1 s2 s3 (mi 13) z (pv z.toNat) 16))]) rfl ?_
  refine W.eq (g2 := F0 m 5 ls [.int (iI fb)]) (by rw [hfe]) ?_
  refine lv_istore_n (lv' := [(2, .int (iI fb)), (0, .ref o), (1, .int (iI z))]) hx hb dX12_lookFor_5 rfl hl (by decide) rfl (fun ls hl => ?_)
  refine lv_iconst (v := iI (-1)) hx hb dX12_lookFor_6 (by decide) ?_
  refine lv_istore_n (lv' := [(3, .int (iI (-1))), (2, .int (iI fb)), (0, .ref o), (1, .int (iI z))]) hx hb dX12_lookFor_7 rfl hl (by decide) rfl (fun ls hl => ?_)
  refine lv_ldc (v := iI 268435456) hx hb hown (hts (.constant RX12 209 (268435456)) (by decide +kernel)) dX12_lookFor_8 ?_
  refine lv_istore (lv' := [(4, .int (iI 268435456)), (3, .int (iI (-1))), (2, .int (iI fb)), (0, .ref o), (1, .int (iI z))]) hx hb dX12_lookFor_10 hl (by decide) rfl (fun ls hl => ?_)
  refine lv_iconst (v := iI 1) hx hb dX12_lookFor_12 (by decide) ?_
  refine lv_istore (lv' := [(5, .int (iI 1)), (4, .int (iI 268435456)), (3, .int (iI (-1))), (2, .int (iI fb)), (0, .ref o), (1, .int (iI z))]) hx hb dX12_lookFor_13 hl (by decide) rfl (fun ls hl => ?_)
  have L15 : ∀ (fu : Nat) (i : Nat) (u : Int) (w : Int), (1 ≤ i ∧ i ≤ 13) → ((i = 1 ∧ u = -1 ∧ w = 268435456) ∨ (2 ≤ i ∧ ¬ fb = 0 ∧ (u, w) = lookL (fun h => lwZ fb ((h : Int) * (1 + pv z.toNat 0))) (i - 1))) → (0 ≤ w ∧ w ≤ 268435456) → (13 - i) < fu → ∀ (H : Heap) (locs : List Loc) (ls : Array Slot), va_P X.1 vwCl (zb [WMo o ma mi ml, WMp X ma pv, Wa X 2 (ma 14) 6 s1, Wa X 2 (ma 15) 6 s2, Wa X 2 (ma 16) 6 s3]) H → va_D A (zb [WMo o ma mi ml, WMp X ma pv, Wa X 2 (ma 14) 6 s1, Wa X 2 (ma 15) 6 s2, Wa X 2 (ma 16) 6 s3]) → va_S A s.heap H locs → lv_has ls 7 [(0, .ref o), (1, .int (iI z)), (2, .int (iI fb)), (3, .int (iI u)), (4, .int (iI w)), (5, .int (iI (↑i)))] → W p l e { frames := 2, cells := 0, slots := 0, locals := 51 } s m ([.ref o, .int (iI z)] : List Value).toArray below meth c H locs 0 0 Q (F0 m 15 ls []) := by
    intro fu
    induction fu with
    | zero => intro i u w hi huw hwr hm; exact absurd hm (Nat.not_lt_zero _)
    | succ fu ih15 =>
      intro i u w hi huw hwr hm H locs ls hP hD hS hl
      have hws := wsZ_in fb (↑i * (1 + pv z.toNat 0)) 16
      obtain ⟨wv, hwv⟩ : ∃ q : Int, q = wsZ fb (↑i * (1 + pv z.toNat 0)) 16 := ⟨_, rfl⟩
      have hlw : ¬ fb = 0 → wsZ fb (↑i * (1 + pv z.toNat 0)) 16 = lwZ fb (↑i * (1 + pv z.toNat 0)) := fun q => wsZ_lw (by omega) (by rcases (show pv z.toNat 0 = 0 ∨ pv z.toNat 0 = 1 ∨ pv z.toNat 0 = 2 by omega) with q | q | q <;> rw [q] <;> omega)
      rw [← hwv] at hws hlw
      have hst : i - 1 + 1 = i := by omega
      refine lv_iload hx hb dX12_lookFor_15 (lv_at hl 5 rfl) ?_
      refine lv_bipush (v := iI 12) hx hb dX12_lookFor_17 (by decide) ?_
      refine z_icmp_gt (tgt := 72) hx hb (by omega) dX12_lookFor_19 (by decide) (fun c_1 => ?_) (fun c_1 => ?_)
      · skip
        refine lv_iload_n hx hb dX12_lookFor_72 rfl (lv_at hl 3 rfl) ?_
        exact z_iret hQ hx hb hr hlocks hS ⟨(Nat.le_of_ble_eq_true rfl), (Nat.le_of_ble_eq_true rfl)⟩ dX12_lookFor_73 () (congrArg (fun z => some (Value.int (iI z))) (show (lookZ (fatsZ s1 s2 s3 (mi 13) z (pv z.toNat) 16) (1 + pv z.toNat 0) : Int) = u by rw [← hfe]; rcases huw with ⟨q1, q2, q3⟩ | ⟨q1, q2, q3⟩; (unfold lookZ; rw [if_pos (by omega)]; omega); (unfold lookZ; rw [if_neg q2]; rw [show i - 1 = 12 by omega] at q3; rw [← q3]))) trivial hP hD
      · skip
        refine lv_iload_n hx hb dX12_lookFor_22 rfl (lv_at hl 2 rfl) ?_
        refine z_if_eq (tgt := 72) hx hb (by omega) dX12_lookFor_23 (by decide) (fun c_2 => ?_) (fun c_2 => ?_)
        · skip
          refine lv_iload_n hx hb dX12_lookFor_72 rfl (lv_at hl 3 rfl) ?_
          exact z_iret hQ hx hb hr hlocks hS ⟨(Nat.le_of_ble_eq_true rfl), (Nat.le_of_ble_eq_true rfl)⟩ dX12_lookFor_73 () (congrArg (fun z => some (Value.int (iI z))) (show (lookZ (fatsZ s1 s2 s3 (mi 13) z (pv z.toNat) 16) (1 + pv z.toNat 0) : Int) = u by rw [← hfe]; rcases huw with ⟨q1, q2, q3⟩ | ⟨q1, q2, q3⟩; (unfold lookZ; rw [if_pos (by omega)]; omega); (unfold lookZ; rw [if_neg q2]; rw [show i - 1 = 12 by omega] at q3; rw [← q3]))) trivial hP hD
        · skip
          refine lv_aload_n hx hb dX12_lookFor_26 rfl (lv_at hl 0 rfl) ?_
          refine lv_iload_n hx hb dX12_lookFor_27 rfl (lv_at hl 1 rfl) ?_
          refine lv_iload_n hx hb dX12_lookFor_28 rfl (lv_at hl 2 rfl) ?_
          refine lv_iload hx hb dX12_lookFor_29 (lv_at hl 5 rfl) ?_
          have hPm := zp_perm hP (zblk (show List.Perm ([WMo o ma mi ml, WMp X ma pv, Wa X 2 (ma 14) 6 s1, Wa X 2 (ma 15) 6 s2, Wa X 2 (ma 16) 6 s3] : List va_W) ([WMo o ma mi ml, WMp X ma pv] ++ [Wa X 2 (ma 14) 6 s1, Wa X 2 (ma 15) 6 s2, Wa X 2 (ma 16) 6 s3]) from (zf1 _ 0 _ rfl).trans (((zf1 _ 0 _ rfl).trans ((List.Perm.refl _).cons _)).cons _)))
          have hDm := zd_perm hD (zblk (show List.Perm ([WMo o ma mi ml, WMp X ma pv, Wa X 2 (ma 14) 6 s1, Wa X 2 (ma 15) 6 s2, Wa X 2 (ma 16) 6 s3] : List va_W) ([WMo o ma mi ml, WMp X ma pv] ++ [Wa X 2 (ma 14) 6 s1, Wa X 2 (ma 15) 6 s2, Wa X 2 (ma 16) 6 s3]) from (zf1 _ 0 _ rfl).trans (((zf1 _ 0 _ rfl).trans ((List.Perm.refl _).cons _)).cons _)))
          refine z_callV (wr := zb [Wa X 2 (ma 14) 6 s1, Wa X 2 (ma 15) 6 s2, Wa X 2 (ma 16) 6 s3]) (As := [.int (iI z), .int (iI fb), .int (iI (↑i))]) (rest := []) ⟨hx, hb, hml, hown, hts⟩ (c_X12_worstBy l X o ma mi ml pv z fb (↑i : Int) (by exact hpz) (by omega) (by omega) (by omega)) (cwV 3 hts gX12_lookFor_X12_worstBy rfl rfl rfl (by decide +kernel) ⟨Nat.le_of_ble_eq_true rfl, Nat.le_of_ble_eq_true rfl⟩) rfl rfl hl.1 dX12_lookFor_31 rfl rfl (Nat.le_of_ble_eq_true rfl) ⟨(Nat.le_of_ble_eq_true rfl), (Nat.le_of_ble_eq_true rfl)⟩ hS hA hK hPm hDm (fun _ H locs _ hP hD hS => ?_)
          have hP := zp_perm hP ((zblk (show List.Perm ([WMo o ma mi ml, WMp X ma pv, Wa X 2 (ma 14) 6 s1, Wa X 2 (ma 15) 6 s2, Wa X 2 (ma 16) 6 s3] : List va_W) ([WMo o ma mi ml, WMp X ma pv] ++ [Wa X 2 (ma 14) 6 s1, Wa X 2 (ma 15) 6 s2, Wa X 2 (ma 16) 6 s3]) from (zf1 _ 0 _ rfl).trans (((zf1 _ 0 _ rfl).trans ((List.Perm.refl _).cons _)).cons _)))).symm
          have hD := zd_perm hD ((zblk (show List.Perm ([WMo o ma mi ml, WMp X ma pv, Wa X 2 (ma 14) 6 s1, Wa X 2 (ma 15) 6 s2, Wa X 2 (ma 16) 6 s3] : List va_W) ([WMo o ma mi ml, WMp X ma pv] ++ [Wa X 2 (ma 14) 6 s1, Wa X 2 (ma 15) 6 s2, Wa X 2 (ma 16) 6 s3]) from (zf1 _ 0 _ rfl).trans (((zf1 _ 0 _ rfl).trans ((List.Perm.refl _).cons _)).cons _)))).symm
          have hP : va_P X.1 vwCl (zb [WMo o ma mi ml, WMp X ma pv, Wa X 2 (ma 14) 6 s1, Wa X 2 (ma 15) 6 s2, Wa X 2 (ma 16) 6 s3]) H := hP
          have hD : va_D A (zb [WMo o ma mi ml, WMp X ma pv, Wa X 2 (ma 14) 6 s1, Wa X 2 (ma 15) 6 s2, Wa X 2 (ma 16) 6 s3]) := hD
          refine W.eq (g2 := F0 m 34 ls [.int (iI (wsZ fb ((↑i : Int) * (1 + pv z.toNat 0)) 16))]) rfl ?_
          refine W.eq (g2 := F0 m 34 ls [.int (iI wv)]) (by rw [hwv]) ?_
          refine lv_istore (lv' := [(6, .int (iI wv)), (0, .ref o), (1, .int (iI z)), (2, .int (iI fb)), (3, .int (iI u)), (4, .int (iI w)), (5, .int (iI (↑i)))]) hx hb dX12_lookFor_34 hl (by decide) rfl (fun ls hl => ?_)
          refine lv_iload hx hb dX12_lookFor_36 (lv_at hl 0 rfl) ?_
          refine lv_iload hx hb dX12_lookFor_38 (lv_at hl 5 rfl) ?_
          refine z_icmp_ge (tgt := 48) hx hb (by omega) dX12_lookFor_40 (by decide) (fun c_3 => ?_) (fun c_3 => ?_)
          · skip
            refine lv_iload_n hx hb dX12_lookFor_48 rfl (lv_at hl 4 rfl) ?_
            refine lv_istore_n (lv' := [(3, .int (iI u)), (6, .int (iI wv)), (0, .ref o), (1, .int (iI z)), (2, .int (iI fb)), (4, .int (iI w)), (5, .int (iI (↑i)))]) hx hb dX12_lookFor_49 rfl hl (by decide) rfl (fun ls hl => ?_)
            refine lv_iload hx hb dX12_lookFor_50 (lv_at hl 1 rfl) ?_
            refine lv_iload hx hb dX12_lookFor_52 (lv_at hl 5 rfl) ?_
            refine z_icmp_ge (tgt := 62) hx hb (by omega) dX12_lookFor_54 (by decide) (fun c_4 => ?_) (fun c_4 => ?_)
            · skip
              refine lv_iload hx hb dX12_lookFor_62 (lv_at hl 5 rfl) ?_
              refine lv_istore (lv' := [(4, .int (iI w)), (3, .int (iI u)), (6, .int (iI wv)), (0, .ref o), (1, .int (iI z)), (2, .int (iI fb)), (5, .int (iI (↑i)))]) hx hb dX12_lookFor_64 hl (by decide) rfl (fun ls hl => ?_)
              refine z_iinc (k := 6) (lv' := [(5, .int (iI ((↑i) + 1))), (4, .int (iI w)), (3, .int (iI u)), (6, .int (iI wv)), (0, .ref o), (1, .int (iI z)), (2, .int (iI fb))]) hx hb dX12_lookFor_66 hl rfl (by decide) rfl (fun ls hl => ?_)
              refine lv_goto (tgt := 15) hx hb dX12_lookFor_69 (by decide) ?_
              exact ih15  (i + 1) u w (by omega) (by refine Or.inr ⟨by omega, by omega, ?_⟩; rw [show i + 1 - 1 = i by omega]; exact look_step (V := (fun h => lwZ fb ((h : Int) * (1 + pv z.toNat 0)))) (hlw (by omega)) hws huw (by omega)) (by omega) (by omega) _ _ _ hP hD hS (lv_sub hl [4, 5, 6, 2, 1, 0] rfl)
            · skip
              refine lv_iload hx hb dX12_lookFor_57 (lv_at hl 1 rfl) ?_
              refine lv_goto (tgt := 64) hx hb dX12_lookFor_59 (by decide) ?_
              refine lv_istore (lv' := [(4, .int (iI wv)), (3, .int (iI u)), (6, .int (iI wv)), (0, .ref o), (1, .int (iI z)), (2, .int (iI fb)), (5, .int (iI (↑i)))]) hx hb dX12_lookFor_64 hl (by decide) rfl (fun ls hl => ?_)
              refine z_iinc (k := 6) (lv' := [(5, .int (iI ((↑i) + 1))), (4, .int (iI wv)), (3, .int (iI u)), (6, .int (iI wv)), (0, .ref o), (1, .int (iI z)), (2, .int (iI fb))]) hx hb dX12_lookFor_66 hl rfl (by decide) rfl (fun ls hl => ?_)
              refine lv_goto (tgt := 15) hx hb dX12_lookFor_69 (by decide) ?_
              exact ih15  (i + 1) u wv (by omega) (by refine Or.inr ⟨by omega, by omega, ?_⟩; rw [show i + 1 - 1 = i by omega]; exact look_step (V := (fun h => lwZ fb ((h : Int) * (1 + pv z.toNat 0)))) (hlw (by omega)) hws huw (by omega)) (by omega) (by omega) _ _ _ hP hD hS (lv_sub hl [4, 5, 6, 2, 1, 0] rfl)
          · skip
            refine lv_iload hx hb dX12_lookFor_43 (lv_at hl 6 rfl) ?_
            refine lv_goto (tgt := 49) hx hb dX12_lookFor_45 (by decide) ?_
            refine lv_istore_n (lv' := [(3, .int (iI (↑i))), (6, .int (iI wv)), (0, .ref o), (1, .int (iI z)), (2, .int (iI fb)), (4, .int (iI w)), (5, .int (iI (↑i)))]) hx hb dX12_lookFor_49 rfl hl (by decide) rfl (fun ls hl => ?_)
            refine lv_iload hx hb dX12_lookFor_50 (lv_at hl 1 rfl) ?_
            refine lv_iload hx hb dX12_lookFor_52 (lv_at hl 5 rfl) ?_
            refine z_icmp_ge (tgt := 62) hx hb (by omega) dX12_lookFor_54 (by decide) (fun c_7 => ?_) (fun c_7 => ?_)
            · skip
              refine lv_iload hx hb dX12_lookFor_62 (lv_at hl 5 rfl) ?_
              refine lv_istore (lv' := [(4, .int (iI w)), (3, .int (iI (↑i))), (6, .int (iI wv)), (0, .ref o), (1, .int (iI z)), (2, .int (iI fb)), (5, .int (iI (↑i)))]) hx hb dX12_lookFor_64 hl (by decide) rfl (fun ls hl => ?_)
              refine z_iinc (k := 6) (lv' := [(5, .int (iI ((↑i) + 1))), (4, .int (iI w)), (3, .int (iI (↑i))), (6, .int (iI wv)), (0, .ref o), (1, .int (iI z)), (2, .int (iI fb))]) hx hb dX12_lookFor_66 hl rfl (by decide) rfl (fun ls hl => ?_)
              refine lv_goto (tgt := 15) hx hb dX12_lookFor_69 (by decide) ?_
              exact ih15  (i + 1) (↑i) w (by omega) (by refine Or.inr ⟨by omega, by omega, ?_⟩; rw [show i + 1 - 1 = i by omega]; exact look_step (V := (fun h => lwZ fb ((h : Int) * (1 + pv z.toNat 0)))) (hlw (by omega)) hws huw (by omega)) (by omega) (by omega) _ _ _ hP hD hS (lv_sub hl [4, 5, 6, 2, 1, 0] rfl)
            · skip
              refine lv_iload hx hb dX12_lookFor_57 (lv_at hl 1 rfl) ?_
              refine lv_goto (tgt := 64) hx hb dX12_lookFor_59 (by decide) ?_
              refine lv_istore (lv' := [(4, .int (iI wv)), (3, .int (iI (↑i))), (6, .int (iI wv)), (0, .ref o), (1, .int (iI z)), (2, .int (iI fb)), (5, .int (iI (↑i)))]) hx hb dX12_lookFor_64 hl (by decide) rfl (fun ls hl => ?_)
              refine z_iinc (k := 6) (lv' := [(5, .int (iI ((↑i) + 1))), (4, .int (iI wv)), (3, .int (iI (↑i))), (6, .int (iI wv)), (0, .ref o), (1, .int (iI z)), (2, .int (iI fb))]) hx hb dX12_lookFor_66 hl rfl (by decide) rfl (fun ls hl => ?_)
              refine lv_goto (tgt := 15) hx hb dX12_lookFor_69 (by decide) ?_
              exact ih15  (i + 1) (↑i) wv (by omega) (by refine Or.inr ⟨by omega, by omega, ?_⟩; rw [show i + 1 - 1 = i by omega]; exact look_step (V := (fun h => lwZ fb ((h : Int) * (1 + pv z.toNat 0)))) (hlw (by omega)) hws huw (by omega)) (by omega) (by omega) _ _ _ hP hD hS (lv_sub hl [4, 5, 6, 2, 1, 0] rfl)
  exact L15 ((13 - 1) + 1) 1 (-1) 268435456 (by omega) (by omega) (by omega) (by omega) _ _ _ hP hD hS (lv_sub hl [4, 5, 3, 2, 1, 0] rfl)
set_option maxHeartbeats 1000000 in
set_option maxRecDepth 100000 in
theorem c_X12_panNow (l : Launch) (X : zX) (o : Nat) (ma : Nat → Nat) (mi : Nat → Int) (ml : Nat → Int) (pv : Nat → Nat → Int) (s1 : Nat → Int) (s2 : Nat → Int) (s3 : Nat → Int) (z : Int) (x : Int) (hn : 0 ≤ mi 1 ∧ mi 1 ≤ 3) (hpz : PanB (pv z.toNat)) (hzm : 0 ≤ z ∧ z < mi 1) (hsg : SigB (mi 13) s1 s2 s3) (hx8 : 0 ≤ x ∧ x ≤ 8) : zF l X yX12_panNow wsX12_panNow 3 77 [.ref o, .int (iI z), .int (iI x)] (zb [WMo o ma mi ml, WMp X ma pv, Wa X 2 (ma 14) 6 s1, Wa X 2 (ma 15) 6 s2, Wa X 2 (ma 16) 6 s3]) (some (.int (iI (panR (mi 1) z x (mi 13) pv s1 s2 s3)))) (zb [WMo o ma mi ml, WMp X ma pv, Wa X 2 (ma 14) 6 s1, Wa X 2 (ma 15) 6 s2, Wa X 2 (ma 16) 6 s3]) := by
  refine z_enter (cc := cX12_panNow) (maxL := 3) (ret := (some .int)) (by decide) rfl (Nat.le_of_ble_eq_true rfl) ?_
  intro p e s m below meth c A ls Q hQ hE hl hP hD
  obtain ⟨hx, hb, hr, hml, hown, hts, hlocks, hnm, hA, hK⟩ := hE
  have hown : s.vm.findClass RX12 = some m.cls := hown
  have hS : va_S A s.heap s.heap [] := va_S.rf
  have hl : lv_has ls 3 [(0, .ref o), (1, .int (iI z)), (2, .int (iI x))] := hl
  have inX12 : ∀ w ∈ u_ws RX12 TX12 38, w ∈ wsX12_panNow := by decide +kernel
  obtain ⟨⟨h00, h01⟩, ⟨h10, h11⟩, h2, h3, h4, h5, h6⟩ := id hpz
  refine lv_iload_n hx hb dX12_panNow_0 rfl (lv_at hl 2 rfl) ?_
  rcases (show (x < 0 ∨ 7 < x) ∨ x = 0 ∨ x = 1 ∨ x = 2 ∨ x = 3 ∨ x = 4 ∨ x = 5 ∨ x = 6 ∨ x = 7 by omega) with c_1 | c_1 | c_1 | c_1 | c_1 | c_1 | c_1 | c_1 | c_1
  · skip
    refine z_tabOut (tgt := 102) hx hb (by omega) dX12_panNow_1 c_1 (by decide) ?_
    refine lv_aload_n hx hb dX12_panNow_102 rfl (lv_at hl 0 rfl) ?_
    refine lv_iload_n hx hb dX12_panNow_103 rfl (lv_at hl 1 rfl) ?_
    have hPm := zp_perm hP (zblk (show List.Perm ([WMo o ma mi ml, WMp X ma pv, Wa X 2 (ma 14) 6 s1, Wa X 2 (ma 15) 6 s2, Wa X 2 (ma 16) 6 s3] : List va_W) ([WMo o ma mi ml, WMp X ma pv, Wa X 2 (ma 14) 6 s1, Wa X 2 (ma 15) 6 s2, Wa X 2 (ma 16) 6 s3] ++ []) from (zf1 _ 0 _ rfl).trans (((zf1 _ 0 _ rfl).trans (((zf1 _ 0 _ rfl).trans (((zf1 _ 0 _ rfl).trans (((zf1 _ 0 _ rfl).trans ((List.Perm.refl _).cons _)).cons _)).cons _)).cons _)).cons _)))
    have hDm := zd_perm hD (zblk (show List.Perm ([WMo o ma mi ml, WMp X ma pv, Wa X 2 (ma 14) 6 s1, Wa X 2 (ma 15) 6 s2, Wa X 2 (ma 16) 6 s3] : List va_W) ([WMo o ma mi ml, WMp X ma pv, Wa X 2 (ma 14) 6 s1, Wa X 2 (ma 15) 6 s2, Wa X 2 (ma 16) 6 s3] ++ []) from (zf1 _ 0 _ rfl).trans (((zf1 _ 0 _ rfl).trans (((zf1 _ 0 _ rfl).trans (((zf1 _ 0 _ rfl).trans (((zf1 _ 0 _ rfl).trans ((List.Perm.refl _).cons _)).cons _)).cons _)).cons _)).cons _)))
    refine z_callV (wr := zb []) (As := [.int (iI z)]) (rest := []) ⟨hx, hb, hml, hown, hts⟩ (c_X12_lookFor l X o ma mi ml pv s1 s2 s3 z (by exact hpz) (by omega) (by exact hsg)) (cwV 1 hts gX12_panNow_X12_lookFor rfl rfl rfl (by decide +kernel) ⟨Nat.le_of_ble_eq_true rfl, Nat.le_of_ble_eq_true rfl⟩) rfl rfl hl.1 dX12_panNow_104 rfl rfl (Nat.le_of_ble_eq_true rfl) ⟨(Nat.le_of_ble_eq_true rfl), (Nat.le_of_ble_eq_true rfl)⟩ hS hA hK hPm hDm (fun _ H locs _ hP hD hS => ?_)
    have hP := zp_perm hP ((zblk (show List.Perm ([WMo o ma mi ml, WMp X ma pv, Wa X 2 (ma 14) 6 s1, Wa X 2 (ma 15) 6 s2, Wa X 2 (ma 16) 6 s3] : List va_W) ([WMo o ma mi ml, WMp X ma pv, Wa X 2 (ma 14) 6 s1, Wa X 2 (ma 15) 6 s2, Wa X 2 (ma 16) 6 s3] ++ []) from (zf1 _ 0 _ rfl).trans (((zf1 _ 0 _ rfl).trans (((zf1 _ 0 _ rfl).trans (((zf1 _ 0 _ rfl).trans (((zf1 _ 0 _ rfl).trans ((List.Perm.refl _).cons _)).cons _)).cons _)).cons _)).cons _)))).symm
    have hD := zd_perm hD ((zblk (show List.Perm ([WMo o ma mi ml, WMp X ma pv, Wa X 2 (ma 14) 6 s1, Wa X 2 (ma 15) 6 s2, Wa X 2 (ma 16) 6 s3] : List va_W) ([WMo o ma mi ml, WMp X ma pv, Wa X 2 (ma 14) 6 s1, Wa X 2 (ma 15) 6 s2, Wa X 2 (ma 16) 6 s3] ++ []) from (zf1 _ 0 _ rfl).trans (((zf1 _ 0 _ rfl).trans (((zf1 _ 0 _ rfl).trans (((zf1 _ 0 _ rfl).trans (((zf1 _ 0 _ rfl).trans ((List.Perm.refl _).cons _)).cons _)).cons _)).cons _)).cons _)))).symm
    have hP : va_P X.1 vwCl (zb [WMo o ma mi ml, WMp X ma pv, Wa X 2 (ma 14) 6 s1, Wa X 2 (ma 15) 6 s2, Wa X 2 (ma 16) 6 s3]) H := hP
    have hD : va_D A (zb [WMo o ma mi ml, WMp X ma pv, Wa X 2 (ma 14) 6 s1, Wa X 2 (ma 15) 6 s2, Wa X 2 (ma 16) 6 s3]) := hD
    refine W.eq (g2 := F0 m 107 ls [.int (iI (lookZ (fatsZ s1 s2 s3 (mi 13) z (pv z.toNat) 16) (1 + pv z.toNat 0)))]) rfl ?_
    exact z_iret hQ hx hb hr hlocks hS ⟨(Nat.le_of_ble_eq_true rfl), (Nat.le_of_ble_eq_true rfl)⟩ dX12_panNow_107 () (congrArg (fun z => some (Value.int (iI z))) (show (panR (mi 1) z x (mi 13) pv s1 s2 s3 : Int) = lookZ (fatsZ s1 s2 s3 (mi 13) z (pv z.toNat) 16) (1 + pv z.toNat 0) by unfold panR muchP; (repeat (first | rw [if_pos (by omega)] | rw [if_neg (by omega)])))) trivial hP hD
  · skip
    refine z_tabIn (tgt := 48) (off := 47) hx hb (by omega) dX12_panNow_1 c_1 (by decide) rfl (by decide) ?_
    refine lv_aload_n hx hb dX12_panNow_48 rfl (lv_at hl 0 rfl) ?_
    refine va_get (ci := 12) (v := .ref (ma 4)) (C := RX12) (T := TX12) (N := 38) hx hb hts inX12 hown hK.1 hP 0 rfl rfl 4 (by decide) (hts (.fieldLink RX12 13 "SkimmedSonsModel" "fatOf" "[I") (by decide +kernel)) (fun _ h9 => h9) rfl dX12_panNow_49 ?_
    refine lv_iload_n hx hb dX12_panNow_52 rfl (lv_at hl 1 rfl) ?_
    refine z_iald hx hb hK.1 hP 3 rfl (by omega) dX12_panNow_53 ?_
    refine W.eq (g2 := F0 m 54 ls [.int (iI (pv z.toNat 2))]) rfl ?_
    exact z_iret hQ hx hb hr hlocks hS ⟨(Nat.le_of_ble_eq_true rfl), (Nat.le_of_ble_eq_true rfl)⟩ dX12_panNow_54 () (congrArg (fun z => some (Value.int (iI z))) (show (panR (mi 1) z x (mi 13) pv s1 s2 s3 : Int) = pv z.toNat 2 by unfold panR muchP; (repeat (first | rw [if_pos (by omega)] | rw [if_neg (by omega)])))) trivial hP hD
  · skip
    refine z_tabIn (tgt := 55) (off := 54) hx hb (by omega) dX12_panNow_1 c_1 (by decide) rfl (by decide) ?_
    refine lv_aload_n hx hb dX12_panNow_55 rfl (lv_at hl 0 rfl) ?_
    refine va_get (ci := 12) (v := .ref (ma 5)) (C := RX12) (T := TX12) (N := 38) hx hb hts inX12 hown hK.1 hP 0 rfl rfl 5 (by decide) (hts (.fieldLink RX12 16 "SkimmedSonsModel" "creamOf" "[I") (by decide +kernel)) (fun _ h9 => h9) rfl dX12_panNow_56 ?_
    refine lv_iload_n hx hb dX12_panNow_59 rfl (lv_at hl 1 rfl) ?_
    refine z_iald hx hb hK.1 hP 4 rfl (by omega) dX12_panNow_60 ?_
    refine W.eq (g2 := F0 m 61 ls [.int (iI (pv z.toNat 3))]) rfl ?_
    exact z_iret hQ hx hb hr hlocks hS ⟨(Nat.le_of_ble_eq_true rfl), (Nat.le_of_ble_eq_true rfl)⟩ dX12_panNow_61 () (congrArg (fun z => some (Value.int (iI z))) (show (panR (mi 1) z x (mi 13) pv s1 s2 s3 : Int) = pv z.toNat 3 by unfold panR muchP; (repeat (first | rw [if_pos (by omega)] | rw [if_neg (by omega)])))) trivial hP hD
  · skip
    refine z_tabIn (tgt := 62) (off := 61) hx hb (by omega) dX12_panNow_1 c_1 (by decide) rfl (by decide) ?_
    refine lv_aload_n hx hb dX12_panNow_62 rfl (lv_at hl 0 rfl) ?_
    refine va_get (ci := 12) (v := .ref (ma 6)) (C := RX12) (T := TX12) (N := 38) hx hb hts inX12 hown hK.1 hP 0 rfl rfl 6 (by decide) (hts (.fieldLink RX12 19 "SkimmedSonsModel" "filmOf" "[I") (by decide +kernel)) (fun _ h9 => h9) rfl dX12_panNow_63 ?_
    refine lv_iload_n hx hb dX12_panNow_66 rfl (lv_at hl 1 rfl) ?_
    refine z_iald hx hb hK.1 hP 5 rfl (by omega) dX12_panNow_67 ?_
    refine W.eq (g2 := F0 m 68 ls [.int (iI (pv z.toNat 4))]) rfl ?_
    exact z_iret hQ hx hb hr hlocks hS ⟨(Nat.le_of_ble_eq_true rfl), (Nat.le_of_ble_eq_true rfl)⟩ dX12_panNow_68 () (congrArg (fun z => some (Value.int (iI z))) (show (panR (mi 1) z x (mi 13) pv s1 s2 s3 : Int) = pv z.toNat 4 by unfold panR muchP; (repeat (first | rw [if_pos (by omega)] | rw [if_neg (by omega)])))) trivial hP hD
  · skip
    refine z_tabIn (tgt := 69) (off := 68) hx hb (by omega) dX12_panNow_1 c_1 (by decide) rfl (by decide) ?_
    refine lv_aload_n hx hb dX12_panNow_69 rfl (lv_at hl 0 rfl) ?_
    refine va_get (ci := 12) (v := .ref (ma 7)) (C := RX12) (T := TX12) (N := 38) hx hb hts inX12 hown hK.1 hP 0 rfl rfl 7 (by decide) (hts (.fieldLink RX12 22 "SkimmedSonsModel" "blueOf" "[I") (by decide +kernel)) (fun _ h9 => h9) rfl dX12_panNow_70 ?_
    refine lv_iload_n hx hb dX12_panNow_73 rfl (lv_at hl 1 rfl) ?_
    refine z_iald hx hb hK.1 hP 6 rfl (by omega) dX12_panNow_74 ?_
    refine W.eq (g2 := F0 m 75 ls [.int (iI (pv z.toNat 5))]) rfl ?_
    exact z_iret hQ hx hb hr hlocks hS ⟨(Nat.le_of_ble_eq_true rfl), (Nat.le_of_ble_eq_true rfl)⟩ dX12_panNow_75 () (congrArg (fun z => some (Value.int (iI z))) (show (panR (mi 1) z x (mi 13) pv s1 s2 s3 : Int) = pv z.toNat 5 by unfold panR muchP; (repeat (first | rw [if_pos (by omega)] | rw [if_neg (by omega)])))) trivial hP hD
  · skip
    refine z_tabIn (tgt := 76) (off := 75) hx hb (by omega) dX12_panNow_1 c_1 (by decide) rfl (by decide) ?_
    refine lv_aload_n hx hb dX12_panNow_76 rfl (lv_at hl 0 rfl) ?_
    refine va_get (ci := 12) (v := .ref (ma 3)) (C := RX12) (T := TX12) (N := 38) hx hb hts inX12 hown hK.1 hP 0 rfl rfl 3 (by decide) (hts (.fieldLink RX12 7 "SkimmedSonsModel" "sillOf" "[I") (by decide +kernel)) (fun _ h9 => h9) rfl dX12_panNow_77 ?_
    refine lv_iload_n hx hb dX12_panNow_80 rfl (lv_at hl 1 rfl) ?_
    refine z_iald hx hb hK.1 hP 1 rfl (by omega) dX12_panNow_81 ?_
    refine W.eq (g2 := F0 m 82 ls [.int (iI (pv z.toNat 0))]) rfl ?_
    exact z_iret hQ hx hb hr hlocks hS ⟨(Nat.le_of_ble_eq_true rfl), (Nat.le_of_ble_eq_true rfl)⟩ dX12_panNow_82 () (congrArg (fun z => some (Value.int (iI z))) (show (panR (mi 1) z x (mi 13) pv s1 s2 s3 : Int) = pv z.toNat 0 by unfold panR muchP; (repeat (first | rw [if_pos (by omega)] | rw [if_neg (by omega)])))) trivial hP hD
  · skip
    refine z_tabIn (tgt := 83) (off := 82) hx hb (by omega) dX12_panNow_1 c_1 (by decide) rfl (by decide) ?_
    refine lv_aload_n hx hb dX12_panNow_83 rfl (lv_at hl 0 rfl) ?_
    refine va_get (ci := 12) (v := .ref (ma 8)) (C := RX12) (T := TX12) (N := 38) hx hb hts inX12 hown hK.1 hP 0 rfl rfl 8 (by decide) (hts (.fieldLink RX12 25 "SkimmedSonsModel" "stillOf" "[I") (by decide +kernel)) (fun _ h9 => h9) rfl dX12_panNow_84 ?_
    refine lv_iload_n hx hb dX12_panNow_87 rfl (lv_at hl 1 rfl) ?_
    refine z_iald hx hb hK.1 hP 2 rfl (by omega) dX12_panNow_88 ?_
    refine W.eq (g2 := F0 m 89 ls [.int (iI (pv z.toNat 1))]) rfl ?_
    exact z_iret hQ hx hb hr hlocks hS ⟨(Nat.le_of_ble_eq_true rfl), (Nat.le_of_ble_eq_true rfl)⟩ dX12_panNow_89 () (congrArg (fun z => some (Value.int (iI z))) (show (panR (mi 1) z x (mi 13) pv s1 s2 s3 : Int) = pv z.toNat 1 by unfold panR muchP; (repeat (first | rw [if_pos (by omega)] | rw [if_neg (by omega)])))) trivial hP hD
  · skip
    refine z_tabIn (tgt := 90) (off := 89) hx hb (by omega) dX12_panNow_1 c_1 (by decide) rfl (by decide) ?_
    refine lv_aload_n hx hb dX12_panNow_90 rfl (lv_at hl 0 rfl) ?_
    refine lv_iload_n hx hb dX12_panNow_91 rfl (lv_at hl 1 rfl) ?_
    have hPm := zp_perm hP (zblk (show List.Perm ([WMo o ma mi ml, WMp X ma pv, Wa X 2 (ma 14) 6 s1, Wa X 2 (ma 15) 6 s2, Wa X 2 (ma 16) 6 s3] : List va_W) ([WMo o ma mi ml, WMp X ma pv] ++ [Wa X 2 (ma 14) 6 s1, Wa X 2 (ma 15) 6 s2, Wa X 2 (ma 16) 6 s3]) from (zf1 _ 0 _ rfl).trans (((zf1 _ 0 _ rfl).trans ((List.Perm.refl _).cons _)).cons _)))
    have hDm := zd_perm hD (zblk (show List.Perm ([WMo o ma mi ml, WMp X ma pv, Wa X 2 (ma 14) 6 s1, Wa X 2 (ma 15) 6 s2, Wa X 2 (ma 16) 6 s3] : List va_W) ([WMo o ma mi ml, WMp X ma pv] ++ [Wa X 2 (ma 14) 6 s1, Wa X 2 (ma 15) 6 s2, Wa X 2 (ma 16) 6 s3]) from (zf1 _ 0 _ rfl).trans (((zf1 _ 0 _ rfl).trans ((List.Perm.refl _).cons _)).cons _)))
    refine z_callV (wr := zb [Wa X 2 (ma 14) 6 s1, Wa X 2 (ma 15) 6 s2, Wa X 2 (ma 16) 6 s3]) (As := [.int (iI z)]) (rest := []) ⟨hx, hb, hml, hown, hts⟩ (c_X12_topOf l X o ma mi ml pv z (by exact hpz) (by omega)) (cwV 1 hts gX12_panNow_X12_topOf rfl rfl rfl (by decide +kernel) ⟨Nat.le_of_ble_eq_true rfl, Nat.le_of_ble_eq_true rfl⟩) rfl rfl hl.1 dX12_panNow_92 rfl rfl (Nat.le_of_ble_eq_true rfl) ⟨(Nat.le_of_ble_eq_true rfl), (Nat.le_of_ble_eq_true rfl)⟩ hS hA hK hPm hDm (fun _ H locs _ hP hD hS => ?_)
    have hP := zp_perm hP ((zblk (show List.Perm ([WMo o ma mi ml, WMp X ma pv, Wa X 2 (ma 14) 6 s1, Wa X 2 (ma 15) 6 s2, Wa X 2 (ma 16) 6 s3] : List va_W) ([WMo o ma mi ml, WMp X ma pv] ++ [Wa X 2 (ma 14) 6 s1, Wa X 2 (ma 15) 6 s2, Wa X 2 (ma 16) 6 s3]) from (zf1 _ 0 _ rfl).trans (((zf1 _ 0 _ rfl).trans ((List.Perm.refl _).cons _)).cons _)))).symm
    have hD := zd_perm hD ((zblk (show List.Perm ([WMo o ma mi ml, WMp X ma pv, Wa X 2 (ma 14) 6 s1, Wa X 2 (ma 15) 6 s2, Wa X 2 (ma 16) 6 s3] : List va_W) ([WMo o ma mi ml, WMp X ma pv] ++ [Wa X 2 (ma 14) 6 s1, Wa X 2 (ma 15) 6 s2, Wa X 2 (ma 16) 6 s3]) from (zf1 _ 0 _ rfl).trans (((zf1 _ 0 _ rfl).trans ((List.Perm.refl _).cons _)).cons _)))).symm
    have hP : va_P X.1 vwCl (zb [WMo o ma mi ml, WMp X ma pv, Wa X 2 (ma 14) 6 s1, Wa X 2 (ma 15) 6 s2, Wa X 2 (ma 16) 6 s3]) H := hP
    have hD : va_D A (zb [WMo o ma mi ml, WMp X ma pv, Wa X 2 (ma 14) 6 s1, Wa X 2 (ma 15) 6 s2, Wa X 2 (ma 16) 6 s3]) := hD
    refine W.eq (g2 := F0 m 95 ls [.int (iI (topP (pv z.toNat)))]) rfl ?_
    exact z_iret hQ hx hb hr hlocks hS ⟨(Nat.le_of_ble_eq_true rfl), (Nat.le_of_ble_eq_true rfl)⟩ dX12_panNow_95 () (congrArg (fun z => some (Value.int (iI z))) (show (panR (mi 1) z x (mi 13) pv s1 s2 s3 : Int) = topP (pv z.toNat) by unfold panR muchP; (repeat (first | rw [if_pos (by omega)] | rw [if_neg (by omega)])))) trivial hP hD
  · skip
    refine z_tabIn (tgt := 96) (off := 95) hx hb (by omega) dX12_panNow_1 c_1 (by decide) rfl (by decide) ?_
    refine lv_aload_n hx hb dX12_panNow_96 rfl (lv_at hl 0 rfl) ?_
    refine lv_iload_n hx hb dX12_panNow_97 rfl (lv_at hl 1 rfl) ?_
    have hPm := zp_perm hP (zblk (show List.Perm ([WMo o ma mi ml, WMp X ma pv, Wa X 2 (ma 14) 6 s1, Wa X 2 (ma 15) 6 s2, Wa X 2 (ma 16) 6 s3] : List va_W) ([WMo o ma mi ml, WMp X ma pv, Wa X 2 (ma 14) 6 s1, Wa X 2 (ma 15) 6 s2, Wa X 2 (ma 16) 6 s3] ++ []) from (zf1 _ 0 _ rfl).trans (((zf1 _ 0 _ rfl).trans (((zf1 _ 0 _ rfl).trans (((zf1 _ 0 _ rfl).trans (((zf1 _ 0 _ rfl).trans ((List.Perm.refl _).cons _)).cons _)).cons _)).cons _)).cons _)))
    have hDm := zd_perm hD (zblk (show List.Perm ([WMo o ma mi ml, WMp X ma pv, Wa X 2 (ma 14) 6 s1, Wa X 2 (ma 15) 6 s2, Wa X 2 (ma 16) 6 s3] : List va_W) ([WMo o ma mi ml, WMp X ma pv, Wa X 2 (ma 14) 6 s1, Wa X 2 (ma 15) 6 s2, Wa X 2 (ma 16) 6 s3] ++ []) from (zf1 _ 0 _ rfl).trans (((zf1 _ 0 _ rfl).trans (((zf1 _ 0 _ rfl).trans (((zf1 _ 0 _ rfl).trans (((zf1 _ 0 _ rfl).trans ((List.Perm.refl _).cons _)).cons _)).cons _)).cons _)).cons _)))
    refine z_callV (wr := zb []) (As := [.int (iI z)]) (rest := []) ⟨hx, hb, hml, hown, hts⟩ (c_X12_fatsOf l X o ma mi ml pv s1 s2 s3 z (by exact hpz) (by omega) (by exact hsg)) (cwV 1 hts gX12_panNow_X12_fatsOf rfl rfl rfl (by decide +kernel) ⟨Nat.le_of_ble_eq_true rfl, Nat.le_of_ble_eq_true rfl⟩) rfl rfl hl.1 dX12_panNow_98 rfl rfl (Nat.le_of_ble_eq_true rfl) ⟨(Nat.le_of_ble_eq_true rfl), (Nat.le_of_ble_eq_true rfl)⟩ hS hA hK hPm hDm (fun _ H locs _ hP hD hS => ?_)
    have hP := zp_perm hP ((zblk (show List.Perm ([WMo o ma mi ml, WMp X ma pv, Wa X 2 (ma 14) 6 s1, Wa X 2 (ma 15) 6 s2, Wa X 2 (ma 16) 6 s3] : List va_W) ([WMo o ma mi ml, WMp X ma pv, Wa X 2 (ma 14) 6 s1, Wa X 2 (ma 15) 6 s2, Wa X 2 (ma 16) 6 s3] ++ []) from (zf1 _ 0 _ rfl).trans (((zf1 _ 0 _ rfl).trans (((zf1 _ 0 _ rfl).trans (((zf1 _ 0 _ rfl).trans (((zf1 _ 0 _ rfl).trans ((List.Perm.refl _).cons _)).cons _)).cons _)).cons _)).cons _)))).symm
    have hD := zd_perm hD ((zblk (show List.Perm ([WMo o ma mi ml, WMp X ma pv, Wa X 2 (ma 14) 6 s1, Wa X 2 (ma 15) 6 s2, Wa X 2 (ma 16) 6 s3] : List va_W) ([WMo o ma mi ml, WMp X ma pv, Wa X 2 (ma 14) 6 s1, Wa X 2 (ma 15) 6 s2, Wa X 2 (ma 16) 6 s3] ++ []) from (zf1 _ 0 _ rfl).trans (((zf1 _ 0 _ rfl).trans (((zf1 _ 0 _ rfl).trans (((zf1 _ 0 _ rfl).trans (((zf1 _ 0 _ rfl).trans ((List.Perm.refl _).cons _)).cons _)).cons _)).cons _)).cons _)))).symm
    have hP : va_P X.1 vwCl (zb [WMo o ma mi ml, WMp X ma pv, Wa X 2 (ma 14) 6 s1, Wa X 2 (ma 15) 6 s2, Wa X 2 (ma 16) 6 s3]) H := hP
    have hD : va_D A (zb [WMo o ma mi ml, WMp X ma pv, Wa X 2 (ma 14) 6 s1, Wa X 2 (ma 15) 6 s2, Wa X 2 (ma 16) 6 s3]) := hD
    refine W.eq (g2 := F0 m 101 ls [.int (iI (fatsZ s1 s2 s3 (mi 13) z (pv z.toNat) 16))]) rfl ?_
    exact z_iret hQ hx hb hr hlocks hS ⟨(Nat.le_of_ble_eq_true rfl), (Nat.le_of_ble_eq_true rfl)⟩ dX12_panNow_101 () (congrArg (fun z => some (Value.int (iI z))) (show (panR (mi 1) z x (mi 13) pv s1 s2 s3 : Int) = fatsZ s1 s2 s3 (mi 13) z (pv z.toNat) 16 by unfold panR muchP; (repeat (first | rw [if_pos (by omega)] | rw [if_neg (by omega)])))) trivial hP hD
set_option maxHeartbeats 1000000 in
set_option maxRecDepth 100000 in
theorem c_X12_pan (l : Launch) (X : zX) (o : Nat) (ma : Nat → Nat) (mi : Nat → Int) (ml : Nat → Int) (pv : Nat → Nat → Int) (s1 : Nat → Int) (s2 : Nat → Int) (s3 : Nat → Int) (z : Int) (x : Int) (hn : 0 ≤ mi 1 ∧ mi 1 ≤ 3) (hpv : PanS pv) (hsg : SigB (mi 13) s1 s2 s3) (hrz : -2147483648 ≤ z ∧ z < 2147483648) (hrx : -2147483648 ≤ x ∧ x < 2147483648) : zF l X yX12_pan wsX12_pan 4 99 [.ref o, .int (iI z), .int (iI x)] (zb [WMo o ma mi ml, WMp X ma pv, Wa X 2 (ma 14) 6 s1, Wa X 2 (ma 15) 6 s2, Wa X 2 (ma 16) 6 s3]) (some (.int (iI (panR (mi 1) z x (mi 13) pv s1 s2 s3)))) (zb [WMo o ma mi ml, WMp X ma pv, Wa X 2 (ma 14) 6 s1, Wa X 2 (ma 15) 6 s2, Wa X 2 (ma 16) 6 s3]) := by
  refine z_enter (cc := cX12_pan) (maxL := 3) (ret := (some .int)) (by decide) rfl (Nat.le_of_ble_eq_true rfl) ?_
  intro p e s m below meth c A ls Q hQ hE hl hP hD
  obtain ⟨hx, hb, hr, hml, hown, hts, hlocks, hnm, hA, hK⟩ := hE
  have hown : s.vm.findClass RX12 = some m.cls := hown
  have hS : va_S A s.heap s.heap [] := va_S.rf
  have hl : lv_has ls 3 [(0, .ref o), (1, .int (iI z)), (2, .int (iI x))] := hl
  refine lv_aload_n hx hb dX12_pan_0 rfl (lv_at hl 0 rfl) ?_
  refine lv_iload_n hx hb dX12_pan_1 rfl (lv_at hl 1 rfl) ?_
  have hPm := zp_perm hP (zblk (show List.Perm ([WMo o ma mi ml, WMp X ma pv, Wa X 2 (ma 14) 6 s1, Wa X 2 (ma 15) 6 s2, Wa X 2 (ma 16) 6 s3] : List va_W) ([WMo o ma mi ml] ++ [WMp X ma pv, Wa X 2 (ma 14) 6 s1, Wa X 2 (ma 15) 6 s2, Wa X 2 (ma 16) 6 s3]) from (zf1 _ 0 _ rfl).trans ((List.Perm.refl _).cons _)))
  have hDm := zd_perm hD (zblk (show List.Perm ([WMo o ma mi ml, WMp X ma pv, Wa X 2 (ma 14) 6 s1, Wa X 2 (ma 15) 6 s2, Wa X 2 (ma 16) 6 s3] : List va_W) ([WMo o ma mi ml] ++ [WMp X ma pv, Wa X 2 (ma 14) 6 s1, Wa X 2 (ma 15) 6 s2, Wa X 2 (ma 16) 6 s3]) from (zf1 _ 0 _ rfl).trans ((List.Perm.refl _).cons _)))
  refine z_callV (wr := zb [WMp X ma pv, Wa X 2 (ma 14) 6 s1, Wa X 2 (ma 15) 6 s2, Wa X 2 (ma 16) 6 s3]) (As := [.int (iI z)]) (rest := []) ⟨hx, hb, hml, hown, hts⟩ (c_X12_isPan l X o ma mi ml z (by omega) (by omega)) (cwV 1 hts gX12_pan_X12_isPan rfl rfl rfl (by decide +kernel) ⟨Nat.le_of_ble_eq_true rfl, Nat.le_of_ble_eq_true rfl⟩) rfl rfl hl.1 dX12_pan_2 rfl rfl (Nat.le_of_ble_eq_true rfl) ⟨(Nat.le_of_ble_eq_true rfl), (Nat.le_of_ble_eq_true rfl)⟩ hS hA hK hPm hDm (fun _ H locs _ hP hD hS => ?_)
  have hP := zp_perm hP ((zblk (show List.Perm ([WMo o ma mi ml, WMp X ma pv, Wa X 2 (ma 14) 6 s1, Wa X 2 (ma 15) 6 s2, Wa X 2 (ma 16) 6 s3] : List va_W) ([WMo o ma mi ml] ++ [WMp X ma pv, Wa X 2 (ma 14) 6 s1, Wa X 2 (ma 15) 6 s2, Wa X 2 (ma 16) 6 s3]) from (zf1 _ 0 _ rfl).trans ((List.Perm.refl _).cons _)))).symm
  have hD := zd_perm hD ((zblk (show List.Perm ([WMo o ma mi ml, WMp X ma pv, Wa X 2 (ma 14) 6 s1, Wa X 2 (ma 15) 6 s2, Wa X 2 (ma 16) 6 s3] : List va_W) ([WMo o ma mi ml] ++ [WMp X ma pv, Wa X 2 (ma 14) 6 s1, Wa X 2 (ma 15) 6 s2, Wa X 2 (ma 16) 6 s3]) from (zf1 _ 0 _ rfl).trans ((List.Perm.refl _).cons _)))).symm
  have hP : va_P X.1 vwCl (zb [WMo o ma mi ml, WMp X ma pv, Wa X 2 (ma 14) 6 s1, Wa X 2 (ma 15) 6 s2, Wa X 2 (ma 16) 6 s3]) H := hP
  have hD : va_D A (zb [WMo o ma mi ml, WMp X ma pv, Wa X 2 (ma 14) 6 s1, Wa X 2 (ma 15) 6 s2, Wa X 2 (ma 16) 6 s3]) := hD
  refine W.eq (g2 := F0 m 5 ls [.int (iI (if 0 ≤ z ∧ z < mi 1 then 1 else 0))]) rfl ?_
  refine z_if_ne (tgt := 13) hx hb (by omega) dX12_pan_5 (by decide) (fun c_1 => ?_) (fun c_1 => ?_)
  · skip
    refine lv_iload_n hx hb dX12_pan_13 rfl (lv_at hl 2 rfl) ?_
    refine lv_iconst (v := iI 0) hx hb dX12_pan_14 (by decide) ?_
    refine lv_bipush (v := iI 8) hx hb dX12_pan_15 (by decide) ?_
    have hPm := zp_perm hP (zblk (show List.Perm ([WMo o ma mi ml, WMp X ma pv, Wa X 2 (ma 14) 6 s1, Wa X 2 (ma 15) 6 s2, Wa X 2 (ma 16) 6 s3] : List va_W) ([] ++ [WMo o ma mi ml, WMp X ma pv, Wa X 2 (ma 14) 6 s1, Wa X 2 (ma 15) 6 s2, Wa X 2 (ma 16) 6 s3]) from List.Perm.refl _))
    have hDm := zd_perm hD (zblk (show List.Perm ([WMo o ma mi ml, WMp X ma pv, Wa X 2 (ma 14) 6 s1, Wa X 2 (ma 15) 6 s2, Wa X 2 (ma 16) 6 s3] : List va_W) ([] ++ [WMo o ma mi ml, WMp X ma pv, Wa X 2 (ma 14) 6 s1, Wa X 2 (ma 15) 6 s2, Wa X 2 (ma 16) 6 s3]) from List.Perm.refl _))
    refine z_callS (wr := zb [WMo o ma mi ml, WMp X ma pv, Wa X 2 (ma 14) 6 s1, Wa X 2 (ma 15) 6 s2, Wa X 2 (ma 16) 6 s3]) (As := [.int (iI x), .int (iI 0), .int (iI 8)]) (rest := []) ⟨hx, hb, hml, hown, hts⟩ (c_X12_within l X x 0 8 (by omega)) (va_cwS 3 hts gX12_pan_X12_within rfl rfl rfl (by decide +kernel) ⟨Nat.le_of_ble_eq_true rfl, Nat.le_of_ble_eq_true rfl⟩) hl.1 dX12_pan_17 rfl rfl (Nat.le_of_ble_eq_true rfl) ⟨(Nat.le_of_ble_eq_true rfl), (Nat.le_of_ble_eq_true rfl)⟩ hS hA hK hPm hDm (fun _ H locs _ hP hD hS => ?_)
    have hP := zp_perm hP ((zblk (show List.Perm ([WMo o ma mi ml, WMp X ma pv, Wa X 2 (ma 14) 6 s1, Wa X 2 (ma 15) 6 s2, Wa X 2 (ma 16) 6 s3] : List va_W) ([] ++ [WMo o ma mi ml, WMp X ma pv, Wa X 2 (ma 14) 6 s1, Wa X 2 (ma 15) 6 s2, Wa X 2 (ma 16) 6 s3]) from List.Perm.refl _))).symm
    have hD := zd_perm hD ((zblk (show List.Perm ([WMo o ma mi ml, WMp X ma pv, Wa X 2 (ma 14) 6 s1, Wa X 2 (ma 15) 6 s2, Wa X 2 (ma 16) 6 s3] : List va_W) ([] ++ [WMo o ma mi ml, WMp X ma pv, Wa X 2 (ma 14) 6 s1, Wa X 2 (ma 15) 6 s2, Wa X 2 (ma 16) 6 s3]) from List.Perm.refl _))).symm
    have hP : va_P X.1 vwCl (zb [WMo o ma mi ml, WMp X ma pv, Wa X 2 (ma 14) 6 s1, Wa X 2 (ma 15) 6 s2, Wa X 2 (ma 16) 6 s3]) H := hP
    have hD : va_D A (zb [WMo o ma mi ml, WMp X ma pv, Wa X 2 (ma 14) 6 s1, Wa X 2 (ma 15) 6 s2, Wa X 2 (ma 16) 6 s3]) := hD
    refine W.eq (g2 := F0 m 20 ls [.int (iI (if 0 ≤ x ∧ x ≤ 8 then 1 else 0))]) rfl ?_
    refine z_if_eq (tgt := 32) hx hb (by omega) dX12_pan_20 (by decide) (fun c_2 => ?_) (fun c_2 => ?_)
    · skip
      refine lv_bipush (v := iI (-102)) hx hb dX12_pan_32 (by decide) ?_
      exact z_iret hQ hx hb hr hlocks hS ⟨(Nat.le_of_ble_eq_true rfl), (Nat.le_of_ble_eq_true rfl)⟩ dX12_pan_34 () (congrArg (fun z => some (Value.int (iI z))) (show (panR (mi 1) z x (mi 13) pv s1 s2 s3 : Int) = (-102) by first | rfl | (unfold panR; (repeat (first | rw [if_pos (by omega)] | rw [if_neg (by omega)]))))) trivial hP hD
    · skip
      refine lv_aload_n hx hb dX12_pan_23 rfl (lv_at hl 0 rfl) ?_
      refine lv_iload_n hx hb dX12_pan_24 rfl (lv_at hl 1 rfl) ?_
      refine lv_iload_n hx hb dX12_pan_25 rfl (lv_at hl 2 rfl) ?_
      have hPm := zp_perm hP (zblk (show List.Perm ([WMo o ma mi ml, WMp X ma pv, Wa X 2 (ma 14) 6 s1, Wa X 2 (ma 15) 6 s2, Wa X 2 (ma 16) 6 s3] : List va_W) ([WMo o ma mi ml, WMp X ma pv, Wa X 2 (ma 14) 6 s1, Wa X 2 (ma 15) 6 s2, Wa X 2 (ma 16) 6 s3] ++ []) from (zf1 _ 0 _ rfl).trans (((zf1 _ 0 _ rfl).trans (((zf1 _ 0 _ rfl).trans (((zf1 _ 0 _ rfl).trans (((zf1 _ 0 _ rfl).trans ((List.Perm.refl _).cons _)).cons _)).cons _)).cons _)).cons _)))
      have hDm := zd_perm hD (zblk (show List.Perm ([WMo o ma mi ml, WMp X ma pv, Wa X 2 (ma 14) 6 s1, Wa X 2 (ma 15) 6 s2, Wa X 2 (ma 16) 6 s3] : List va_W) ([WMo o ma mi ml, WMp X ma pv, Wa X 2 (ma 14) 6 s1, Wa X 2 (ma 15) 6 s2, Wa X 2 (ma 16) 6 s3] ++ []) from (zf1 _ 0 _ rfl).trans (((zf1 _ 0 _ rfl).trans (((zf1 _ 0 _ rfl).trans (((zf1 _ 0 _ rfl).trans (((zf1 _ 0 _ rfl).trans ((List.Perm.refl _).cons _)).cons _)).cons _)).cons _)).cons _)))
      refine z_callV (wr := zb []) (As := [.int (iI z), .int (iI x)]) (rest := []) ⟨hx, hb, hml, hown, hts⟩ (c_X12_panNow l X o ma mi ml pv s1 s2 s3 z x (by omega) (by exact hpv _ (by omega)) (by omega) (by exact hsg) (by omega)) (cwV 2 hts gX12_pan_X12_panNow rfl rfl rfl (by decide +kernel) ⟨Nat.le_of_ble_eq_true rfl, Nat.le_of_ble_eq_true rfl⟩) rfl rfl hl.1 dX12_pan_26 rfl rfl (Nat.le_of_ble_eq_true rfl) ⟨(Nat.le_of_ble_eq_true rfl), (Nat.le_of_ble_eq_true rfl)⟩ hS hA hK hPm hDm (fun _ H locs _ hP hD hS => ?_)
      have hP := zp_perm hP ((zblk (show List.Perm ([WMo o ma mi ml, WMp X ma pv, Wa X 2 (ma 14) 6 s1, Wa X 2 (ma 15) 6 s2, Wa X 2 (ma 16) 6 s3] : List va_W) ([WMo o ma mi ml, WMp X ma pv, Wa X 2 (ma 14) 6 s1, Wa X 2 (ma 15) 6 s2, Wa X 2 (ma 16) 6 s3] ++ []) from (zf1 _ 0 _ rfl).trans (((zf1 _ 0 _ rfl).trans (((zf1 _ 0 _ rfl).trans (((zf1 _ 0 _ rfl).trans (((zf1 _ 0 _ rfl).trans ((List.Perm.refl _).cons _)).cons _)).cons _)).cons _)).cons _)))).symm
      have hD := zd_perm hD ((zblk (show List.Perm ([WMo o ma mi ml, WMp X ma pv, Wa X 2 (ma 14) 6 s1, Wa X 2 (ma 15) 6 s2, Wa X 2 (ma 16) 6 s3] : List va_W) ([WMo o ma mi ml, WMp X ma pv, Wa X 2 (ma 14) 6 s1, Wa X 2 (ma 15) 6 s2, Wa X 2 (ma 16) 6 s3] ++ []) from (zf1 _ 0 _ rfl).trans (((zf1 _ 0 _ rfl).trans (((zf1 _ 0 _ rfl).trans (((zf1 _ 0 _ rfl).trans (((zf1 _ 0 _ rfl).trans ((List.Perm.refl _).cons _)).cons _)).cons _)).cons _)).cons _)))).symm
      have hP : va_P X.1 vwCl (zb [WMo o ma mi ml, WMp X ma pv, Wa X 2 (ma 14) 6 s1, Wa X 2 (ma 15) 6 s2, Wa X 2 (ma 16) 6 s3]) H := hP
      have hD : va_D A (zb [WMo o ma mi ml, WMp X ma pv, Wa X 2 (ma 14) 6 s1, Wa X 2 (ma 15) 6 s2, Wa X 2 (ma 16) 6 s3]) := hD
      refine W.eq (g2 := F0 m 29 ls [.int (iI (panR (mi 1) z x (mi 13) pv s1 s2 s3))]) rfl ?_
      refine lv_goto (tgt := 34) hx hb dX12_pan_29 (by decide) ?_
      exact z_iret hQ hx hb hr hlocks hS ⟨(Nat.le_of_ble_eq_true rfl), (Nat.le_of_ble_eq_true rfl)⟩ dX12_pan_34 () rfl trivial hP hD
  · skip
    refine lv_bipush (v := iI (-101)) hx hb dX12_pan_8 (by decide) ?_
    refine lv_goto (tgt := 34) hx hb dX12_pan_10 (by decide) ?_
    exact z_iret hQ hx hb hr hlocks hS ⟨(Nat.le_of_ble_eq_true rfl), (Nat.le_of_ble_eq_true rfl)⟩ dX12_pan_34 () (congrArg (fun z => some (Value.int (iI z))) (show (panR (mi 1) z x (mi 13) pv s1 s2 s3 : Int) = (-101) by first | rfl | (unfold panR; (repeat (first | rw [if_pos (by omega)] | rw [if_neg (by omega)]))))) trivial hP hD
set_option maxHeartbeats 1000000 in
set_option maxRecDepth 100000 in
theorem c_X12_childNow (l : Launch) (X : zX) (o : Nat) (ma : Nat → Nat) (mi : Nat → Int) (ml : Nat → Int) (kz : Nat → Int) (hz : Nat → Int) (z : Int) (x : Int) (ht : 0 ≤ mi 2 ∧ mi 2 ≤ 5) (hkm : KidM (mi 2) kz) (hzc : 0 ≤ z ∧ z < mi 2) (hx4 : (0 ≤ x ∧ x ≤ 4) ∨ (11 ≤ x ∧ x ≤ 13)) : zF l X yX12_childNow wsX12_childNow 2 46 [.ref o, .int (iI z), .int (iI x)] (zb [WMo o ma mi ml, Wa X 2 (ma 9) 5 kz, Wa X 2 (ma 10) 20 hz]) (some (.int (iI (childR (mi 2) z x (kdM kz) (fhZ hz))))) (zb [WMo o ma mi ml, Wa X 2 (ma 9) 5 kz, Wa X 2 (ma 10) 20 hz]) := by
  refine z_enter (cc := cX12_childNow) (maxL := 3) (ret := (some .int)) (by decide) rfl (Nat.le_of_ble_eq_true rfl) ?_
  intro p e s m below meth c A ls Q hQ hE hl hP hD
  obtain ⟨hx, hb, hr, hml, hown, hts, hlocks, hnm, hA, hK⟩ := hE
  have hown : s.vm.findClass RX12 = some m.cls := hown
  have hS : va_S A s.heap s.heap [] := va_S.rf
  have hl : lv_has ls 3 [(0, .ref o), (1, .int (iI z)), (2, .int (iI x))] := hl
  have inX12 : ∀ w ∈ u_ws RX12 TX12 38, w ∈ wsX12_childNow := by decide +kernel
  have hkq := hkm z.toNat (by omega)
  have hkn : ((kdM kz z.toNat : Nat) : Int) = kz z.toNat := Int.toNat_of_nonneg hkq.1
  refine lv_iload_n hx hb dX12_childNow_0 rfl (lv_at hl 2 rfl) ?_
  refine lv_bipush (v := iI 10) hx hb dX12_childNow_1 (by decide) ?_
  refine z_icmp_le (tgt := 16) hx hb (by omega) dX12_childNow_3 (by decide) (fun c_1 => ?_) (fun c_1 => ?_)
  · skip
    refine lv_iload_n hx hb dX12_childNow_16 rfl (lv_at hl 2 rfl) ?_
    refine z_if_ne (tgt := 29) hx hb (by omega) dX12_childNow_17 (by decide) (fun c_2 => ?_) (fun c_2 => ?_)
    · skip
      refine lv_iload_n hx hb dX12_childNow_29 rfl (lv_at hl 2 rfl) ?_
      refine lv_iconst (v := iI 4) hx hb dX12_childNow_30 (by decide) ?_
      refine z_icmp_ne (tgt := 42) hx hb (by omega) dX12_childNow_31 (by decide) (fun c_3 => ?_) (fun c_3 => ?_)
      · skip
        refine lv_aload_n hx hb dX12_childNow_42 rfl (lv_at hl 0 rfl) ?_
        refine va_get (ci := 12) (v := .ref (ma 10)) (C := RX12) (T := TX12) (N := 38) hx hb hts inX12 hown hK.1 hP 0 rfl rfl 10 (by decide) (hts (.fieldLink RX12 31 "SkimmedSonsModel" "hadOf" "[I") (by decide +kernel)) (fun _ h9 => h9) rfl dX12_childNow_43 ?_
        refine lv_iconst (v := iI 4) hx hb dX12_childNow_46 (by decide) ?_
        refine lv_iload_n hx hb dX12_childNow_47 rfl (lv_at hl 1 rfl) ?_
        refine z_imul hx hb dX12_childNow_48 ?_
        refine lv_iload_n hx hb dX12_childNow_49 rfl (lv_at hl 2 rfl) ?_
        refine z_iadd hx hb dX12_childNow_50 ?_
        refine z_iald hx hb hK.1 hP 2 rfl (by omega) dX12_childNow_51 ?_
        refine W.eq (g2 := F0 m 52 ls [.int (iI (hz (((4 * z) + x).toNat)))]) rfl ?_
        exact z_iret hQ hx hb hr hlocks hS ⟨(Nat.le_of_ble_eq_true rfl), (Nat.le_of_ble_eq_true rfl)⟩ dX12_childNow_52 () (congrArg (fun z => some (Value.int (iI z))) (show (childR (mi 2) z x (kdM kz) (fhZ hz) : Int) = hz (((4 * z) + x).toNat) by unfold childR; (repeat (first | rw [if_pos (by omega)] | rw [if_neg (by omega)])); first | done | rfl | omega | (unfold fhZ; rw [show (4 * z + x).toNat = 4 * z.toNat + x.toNat by omega]))) trivial hP hD
      · skip
        refine lv_aload_n hx hb dX12_childNow_34 rfl (lv_at hl 0 rfl) ?_
        refine lv_iload_n hx hb dX12_childNow_35 rfl (lv_at hl 1 rfl) ?_
        have hPm := zp_perm hP (zblk (show List.Perm ([WMo o ma mi ml, Wa X 2 (ma 9) 5 kz, Wa X 2 (ma 10) 20 hz] : List va_W) ([WMo o ma mi ml, Wa X 2 (ma 9) 5 kz, Wa X 2 (ma 10) 20 hz] ++ []) from (zf1 _ 0 _ rfl).trans (((zf1 _ 0 _ rfl).trans (((zf1 _ 0 _ rfl).trans ((List.Perm.refl _).cons _)).cons _)).cons _)))
        have hDm := zd_perm hD (zblk (show List.Perm ([WMo o ma mi ml, Wa X 2 (ma 9) 5 kz, Wa X 2 (ma 10) 20 hz] : List va_W) ([WMo o ma mi ml, Wa X 2 (ma 9) 5 kz, Wa X 2 (ma 10) 20 hz] ++ []) from (zf1 _ 0 _ rfl).trans (((zf1 _ 0 _ rfl).trans (((zf1 _ 0 _ rfl).trans ((List.Perm.refl _).cons _)).cons _)).cons _)))
        refine z_callV (wr := zb []) (As := [.int (iI z)]) (rest := []) ⟨hx, hb, hml, hown, hts⟩ (c_X12_worthHad l X o ma mi ml kz hz z (by omega) (by exact hkq)) (cwV 1 hts gX12_childNow_X12_worthHad rfl rfl rfl (by decide +kernel) ⟨Nat.le_of_ble_eq_true rfl, Nat.le_of_ble_eq_true rfl⟩) rfl rfl hl.1 dX12_childNow_36 rfl rfl (Nat.le_of_ble_eq_true rfl) ⟨(Nat.le_of_ble_eq_true rfl), (Nat.le_of_ble_eq_true rfl)⟩ hS hA hK hPm hDm (fun _ H locs _ hP hD hS => ?_)
        have hP := zp_perm hP ((zblk (show List.Perm ([WMo o ma mi ml, Wa X 2 (ma 9) 5 kz, Wa X 2 (ma 10) 20 hz] : List va_W) ([WMo o ma mi ml, Wa X 2 (ma 9) 5 kz, Wa X 2 (ma 10) 20 hz] ++ []) from (zf1 _ 0 _ rfl).trans (((zf1 _ 0 _ rfl).trans (((zf1 _ 0 _ rfl).trans ((List.Perm.refl _).cons _)).cons _)).cons _)))).symm
        have hD := zd_perm hD ((zblk (show List.Perm ([WMo o ma mi ml, Wa X 2 (ma 9) 5 kz, Wa X 2 (ma 10) 20 hz] : List va_W) ([WMo o ma mi ml, Wa X 2 (ma 9) 5 kz, Wa X 2 (ma 10) 20 hz] ++ []) from (zf1 _ 0 _ rfl).trans (((zf1 _ 0 _ rfl).trans (((zf1 _ 0 _ rfl).trans ((List.Perm.refl _).cons _)).cons _)).cons _)))).symm
        have hP : va_P X.1 vwCl (zb [WMo o ma mi ml, Wa X 2 (ma 9) 5 kz, Wa X 2 (ma 10) 20 hz]) H := hP
        have hD : va_D A (zb [WMo o ma mi ml, Wa X 2 (ma 9) 5 kz, Wa X 2 (ma 10) 20 hz]) := hD
        refine W.eq (g2 := F0 m 39 ls [.int (iI (wAll (kdM kz z.toNat) (fhZ hz z.toNat)))]) rfl ?_
        refine lv_goto (tgt := 52) hx hb dX12_childNow_39 (by decide) ?_
        exact z_iret hQ hx hb hr hlocks hS ⟨(Nat.le_of_ble_eq_true rfl), (Nat.le_of_ble_eq_true rfl)⟩ dX12_childNow_52 () (congrArg (fun z => some (Value.int (iI z))) (show (childR (mi 2) z x (kdM kz) (fhZ hz) : Int) = wAll (kdM kz z.toNat) (fhZ hz z.toNat) by unfold childR; (repeat (first | rw [if_pos (by omega)] | rw [if_neg (by omega)])); first | done | rfl | omega | (unfold fhZ; rw [show (4 * z + x).toNat = 4 * z.toNat + x.toNat by omega]))) trivial hP hD
    · skip
      refine lv_aload_n hx hb dX12_childNow_20 rfl (lv_at hl 0 rfl) ?_
      refine va_get (ci := 12) (v := .ref (ma 9)) (C := RX12) (T := TX12) (N := 38) hx hb hts inX12 hown hK.1 hP 0 rfl rfl 9 (by decide) (hts (.fieldLink RX12 28 "SkimmedSonsModel" "kindOf" "[I") (by decide +kernel)) (fun _ h9 => h9) rfl dX12_childNow_21 ?_
      refine lv_iload_n hx hb dX12_childNow_24 rfl (lv_at hl 1 rfl) ?_
      refine z_iald hx hb hK.1 hP 1 rfl (by omega) dX12_childNow_25 ?_
      refine W.eq (g2 := F0 m 26 ls [.int (iI (kz z.toNat))]) rfl ?_
      refine lv_goto (tgt := 52) hx hb dX12_childNow_26 (by decide) ?_
      exact z_iret hQ hx hb hr hlocks hS ⟨(Nat.le_of_ble_eq_true rfl), (Nat.le_of_ble_eq_true rfl)⟩ dX12_childNow_52 () (congrArg (fun z => some (Value.int (iI z))) (show (childR (mi 2) z x (kdM kz) (fhZ hz) : Int) = kz z.toNat by unfold childR; (repeat (first | rw [if_pos (by omega)] | rw [if_neg (by omega)])); first | done | rfl | omega | (unfold fhZ; rw [show (4 * z + x).toNat = 4 * z.toNat + x.toNat by omega]))) trivial hP hD
  · skip
    refine lv_aload_n hx hb dX12_childNow_6 rfl (lv_at hl 0 rfl) ?_
    refine lv_iload_n hx hb dX12_childNow_7 rfl (lv_at hl 1 rfl) ?_
    refine lv_iload_n hx hb dX12_childNow_8 rfl (lv_at hl 2 rfl) ?_
    refine lv_bipush (v := iI 10) hx hb dX12_childNow_9 (by decide) ?_
    refine z_isub hx hb dX12_childNow_11 ?_
    have hPm := zp_perm hP (zblk (show List.Perm ([WMo o ma mi ml, Wa X 2 (ma 9) 5 kz, Wa X 2 (ma 10) 20 hz] : List va_W) ([WMo o ma mi ml, Wa X 2 (ma 9) 5 kz] ++ [Wa X 2 (ma 10) 20 hz]) from (zf1 _ 0 _ rfl).trans (((zf1 _ 0 _ rfl).trans ((List.Perm.refl _).cons _)).cons _)))
    have hDm := zd_perm hD (zblk (show List.Perm ([WMo o ma mi ml, Wa X 2 (ma 9) 5 kz, Wa X 2 (ma 10) 20 hz] : List va_W) ([WMo o ma mi ml, Wa X 2 (ma 9) 5 kz] ++ [Wa X 2 (ma 10) 20 hz]) from (zf1 _ 0 _ rfl).trans (((zf1 _ 0 _ rfl).trans ((List.Perm.refl _).cons _)).cons _)))
    refine z_callV (wr := zb [Wa X 2 (ma 10) 20 hz]) (As := [.int (iI z), .int (iI (x - 10))]) (rest := []) ⟨hx, hb, hml, hown, hts⟩ (c_X12_worthOf l X o ma mi ml kz z (x - 10) (by omega) (by exact hkq) (by omega)) (cwV 2 hts gX12_childNow_X12_worthOf rfl rfl rfl (by decide +kernel) ⟨Nat.le_of_ble_eq_true rfl, Nat.le_of_ble_eq_true rfl⟩) rfl rfl hl.1 dX12_childNow_12 rfl rfl (Nat.le_of_ble_eq_true rfl) ⟨(Nat.le_of_ble_eq_true rfl), (Nat.le_of_ble_eq_true rfl)⟩ hS hA hK hPm hDm (fun _ H locs _ hP hD hS => ?_)
    have hP := zp_perm hP ((zblk (show List.Perm ([WMo o ma mi ml, Wa X 2 (ma 9) 5 kz, Wa X 2 (ma 10) 20 hz] : List va_W) ([WMo o ma mi ml, Wa X 2 (ma 9) 5 kz] ++ [Wa X 2 (ma 10) 20 hz]) from (zf1 _ 0 _ rfl).trans (((zf1 _ 0 _ rfl).trans ((List.Perm.refl _).cons _)).cons _)))).symm
    have hD := zd_perm hD ((zblk (show List.Perm ([WMo o ma mi ml, Wa X 2 (ma 9) 5 kz, Wa X 2 (ma 10) 20 hz] : List va_W) ([WMo o ma mi ml, Wa X 2 (ma 9) 5 kz] ++ [Wa X 2 (ma 10) 20 hz]) from (zf1 _ 0 _ rfl).trans (((zf1 _ 0 _ rfl).trans ((List.Perm.refl _).cons _)).cons _)))).symm
    have hP : va_P X.1 vwCl (zb [WMo o ma mi ml, Wa X 2 (ma 9) 5 kz, Wa X 2 (ma 10) 20 hz]) H := hP
    have hD : va_D A (zb [WMo o ma mi ml, Wa X 2 (ma 9) 5 kz, Wa X 2 (ma 10) 20 hz]) := hD
    refine W.eq (g2 := F0 m 15 ls [.int (iI (wOf (kdM kz z.toNat) (x - 10)))]) rfl ?_
    exact z_iret hQ hx hb hr hlocks hS ⟨(Nat.le_of_ble_eq_true rfl), (Nat.le_of_ble_eq_true rfl)⟩ dX12_childNow_15 () (congrArg (fun z => some (Value.int (iI z))) (show (childR (mi 2) z x (kdM kz) (fhZ hz) : Int) = wOf (kdM kz z.toNat) (x - 10) by unfold childR; (repeat (first | rw [if_pos (by omega)] | rw [if_neg (by omega)])); first | done | rfl | omega | (unfold fhZ; rw [show (4 * z + x).toNat = 4 * z.toNat + x.toNat by omega]))) trivial hP hD
set_option maxHeartbeats 1000000 in
set_option maxRecDepth 100000 in
theorem c_X12_child (l : Launch) (X : zX) (o : Nat) (ma : Nat → Nat) (mi : Nat → Int) (ml : Nat → Int) (kz : Nat → Int) (hz : Nat → Int) (z : Int) (x : Int) (ht : 0 ≤ mi 2 ∧ mi 2 ≤ 5) (hkm : KidM (mi 2) kz) (hrz : -2147483648 ≤ z ∧ z < 2147483648) (hrx : -2147483648 ≤ x ∧ x < 2147483648) : zF l X yX12_child wsX12_child 3 68 [.ref o, .int (iI z), .int (iI x)] (zb [WMo o ma mi ml, Wa X 2 (ma 9) 5 kz, Wa X 2 (ma 10) 20 hz]) (some (.int (iI (childR (mi 2) z x (kdM kz) (fhZ hz))))) (zb [WMo o ma mi ml, Wa X 2 (ma 9) 5 kz, Wa X 2 (ma 10) 20 hz]) := by
  refine z_enter (cc := cX12_child) (maxL := 3) (ret := (some .int)) (by decide) rfl (Nat.le_of_ble_eq_true rfl) ?_
  intro p e s m below meth c A ls Q hQ hE hl hP hD
  obtain ⟨hx, hb, hr, hml, hown, hts, hlocks, hnm, hA, hK⟩ := hE
  have hown : s.vm.findClass RX12 = some m.cls := hown
  have hS : va_S A s.heap s.heap [] := va_S.rf
  have hl : lv_has ls 3 [(0, .ref o), (1, .int (iI z)), (2, .int (iI x))] := hl
  refine lv_aload_n hx hb dX12_child_0 rfl (lv_at hl 0 rfl) ?_
  refine lv_iload_n hx hb dX12_child_1 rfl (lv_at hl 1 rfl) ?_
  have hPm := zp_perm hP (zblk (show List.Perm ([WMo o ma mi ml, Wa X 2 (ma 9) 5 kz, Wa X 2 (ma 10) 20 hz] : List va_W) ([WMo o ma mi ml] ++ [Wa X 2 (ma 9) 5 kz, Wa X 2 (ma 10) 20 hz]) from (zf1 _ 0 _ rfl).trans ((List.Perm.refl _).cons _)))
  have hDm := zd_perm hD (zblk (show List.Perm ([WMo o ma mi ml, Wa X 2 (ma 9) 5 kz, Wa X 2 (ma 10) 20 hz] : List va_W) ([WMo o ma mi ml] ++ [Wa X 2 (ma 9) 5 kz, Wa X 2 (ma 10) 20 hz]) from (zf1 _ 0 _ rfl).trans ((List.Perm.refl _).cons _)))
  refine z_callV (wr := zb [Wa X 2 (ma 9) 5 kz, Wa X 2 (ma 10) 20 hz]) (As := [.int (iI z)]) (rest := []) ⟨hx, hb, hml, hown, hts⟩ (c_X12_isChild l X o ma mi ml z (by omega) (by omega)) (cwV 1 hts gX12_child_X12_isChild rfl rfl rfl (by decide +kernel) ⟨Nat.le_of_ble_eq_true rfl, Nat.le_of_ble_eq_true rfl⟩) rfl rfl hl.1 dX12_child_2 rfl rfl (Nat.le_of_ble_eq_true rfl) ⟨(Nat.le_of_ble_eq_true rfl), (Nat.le_of_ble_eq_true rfl)⟩ hS hA hK hPm hDm (fun _ H locs _ hP hD hS => ?_)
  have hP := zp_perm hP ((zblk (show List.Perm ([WMo o ma mi ml, Wa X 2 (ma 9) 5 kz, Wa X 2 (ma 10) 20 hz] : List va_W) ([WMo o ma mi ml] ++ [Wa X 2 (ma 9) 5 kz, Wa X 2 (ma 10) 20 hz]) from (zf1 _ 0 _ rfl).trans ((List.Perm.refl _).cons _)))).symm
  have hD := zd_perm hD ((zblk (show List.Perm ([WMo o ma mi ml, Wa X 2 (ma 9) 5 kz, Wa X 2 (ma 10) 20 hz] : List va_W) ([WMo o ma mi ml] ++ [Wa X 2 (ma 9) 5 kz, Wa X 2 (ma 10) 20 hz]) from (zf1 _ 0 _ rfl).trans ((List.Perm.refl _).cons _)))).symm
  have hP : va_P X.1 vwCl (zb [WMo o ma mi ml, Wa X 2 (ma 9) 5 kz, Wa X 2 (ma 10) 20 hz]) H := hP
  have hD : va_D A (zb [WMo o ma mi ml, Wa X 2 (ma 9) 5 kz, Wa X 2 (ma 10) 20 hz]) := hD
  refine W.eq (g2 := F0 m 5 ls [.int (iI (if 0 ≤ z ∧ z < mi 2 then 1 else 0))]) rfl ?_
  refine z_if_ne (tgt := 11) hx hb (by omega) dX12_child_5 (by decide) (fun c_1 => ?_) (fun c_1 => ?_)
  · skip
    refine lv_iload_n hx hb dX12_child_11 rfl (lv_at hl 2 rfl) ?_
    refine lv_iconst (v := iI 0) hx hb dX12_child_12 (by decide) ?_
    refine lv_iconst (v := iI 4) hx hb dX12_child_13 (by decide) ?_
    have hPm := zp_perm hP (zblk (show List.Perm ([WMo o ma mi ml, Wa X 2 (ma 9) 5 kz, Wa X 2 (ma 10) 20 hz] : List va_W) ([] ++ [WMo o ma mi ml, Wa X 2 (ma 9) 5 kz, Wa X 2 (ma 10) 20 hz]) from List.Perm.refl _))
    have hDm := zd_perm hD (zblk (show List.Perm ([WMo o ma mi ml, Wa X 2 (ma 9) 5 kz, Wa X 2 (ma 10) 20 hz] : List va_W) ([] ++ [WMo o ma mi ml, Wa X 2 (ma 9) 5 kz, Wa X 2 (ma 10) 20 hz]) from List.Perm.refl _))
    refine z_callS (wr := zb [WMo o ma mi ml, Wa X 2 (ma 9) 5 kz, Wa X 2 (ma 10) 20 hz]) (As := [.int (iI x), .int (iI 0), .int (iI 4)]) (rest := []) ⟨hx, hb, hml, hown, hts⟩ (c_X12_within l X x 0 4 (by omega)) (va_cwS 3 hts gX12_child_X12_within rfl rfl rfl (by decide +kernel) ⟨Nat.le_of_ble_eq_true rfl, Nat.le_of_ble_eq_true rfl⟩) hl.1 dX12_child_14 rfl rfl (Nat.le_of_ble_eq_true rfl) ⟨(Nat.le_of_ble_eq_true rfl), (Nat.le_of_ble_eq_true rfl)⟩ hS hA hK hPm hDm (fun _ H locs _ hP hD hS => ?_)
    have hP := zp_perm hP ((zblk (show List.Perm ([WMo o ma mi ml, Wa X 2 (ma 9) 5 kz, Wa X 2 (ma 10) 20 hz] : List va_W) ([] ++ [WMo o ma mi ml, Wa X 2 (ma 9) 5 kz, Wa X 2 (ma 10) 20 hz]) from List.Perm.refl _))).symm
    have hD := zd_perm hD ((zblk (show List.Perm ([WMo o ma mi ml, Wa X 2 (ma 9) 5 kz, Wa X 2 (ma 10) 20 hz] : List va_W) ([] ++ [WMo o ma mi ml, Wa X 2 (ma 9) 5 kz, Wa X 2 (ma 10) 20 hz]) from List.Perm.refl _))).symm
    have hP : va_P X.1 vwCl (zb [WMo o ma mi ml, Wa X 2 (ma 9) 5 kz, Wa X 2 (ma 10) 20 hz]) H := hP
    have hD : va_D A (zb [WMo o ma mi ml, Wa X 2 (ma 9) 5 kz, Wa X 2 (ma 10) 20 hz]) := hD
    refine W.eq (g2 := F0 m 17 ls [.int (iI (if 0 ≤ x ∧ x ≤ 4 then 1 else 0))]) rfl ?_
    refine z_if_ne (tgt := 31) hx hb (by omega) dX12_child_17 (by decide) (fun c_2 => ?_) (fun c_2 => ?_)
    · skip
      refine lv_aload_n hx hb dX12_child_31 rfl (lv_at hl 0 rfl) ?_
      refine lv_iload_n hx hb dX12_child_32 rfl (lv_at hl 1 rfl) ?_
      refine lv_iload_n hx hb dX12_child_33 rfl (lv_at hl 2 rfl) ?_
      have hPm := zp_perm hP (zblk (show List.Perm ([WMo o ma mi ml, Wa X 2 (ma 9) 5 kz, Wa X 2 (ma 10) 20 hz] : List va_W) ([WMo o ma mi ml, Wa X 2 (ma 9) 5 kz, Wa X 2 (ma 10) 20 hz] ++ []) from (zf1 _ 0 _ rfl).trans (((zf1 _ 0 _ rfl).trans (((zf1 _ 0 _ rfl).trans ((List.Perm.refl _).cons _)).cons _)).cons _)))
      have hDm := zd_perm hD (zblk (show List.Perm ([WMo o ma mi ml, Wa X 2 (ma 9) 5 kz, Wa X 2 (ma 10) 20 hz] : List va_W) ([WMo o ma mi ml, Wa X 2 (ma 9) 5 kz, Wa X 2 (ma 10) 20 hz] ++ []) from (zf1 _ 0 _ rfl).trans (((zf1 _ 0 _ rfl).trans (((zf1 _ 0 _ rfl).trans ((List.Perm.refl _).cons _)).cons _)).cons _)))
      refine z_callV (wr := zb []) (As := [.int (iI z), .int (iI x)]) (rest := []) ⟨hx, hb, hml, hown, hts⟩ (c_X12_childNow l X o ma mi ml kz hz z x (by omega) (by exact hkm) (by omega) (by omega)) (cwV 2 hts gX12_child_X12_childNow rfl rfl rfl (by decide +kernel) ⟨Nat.le_of_ble_eq_true rfl, Nat.le_of_ble_eq_true rfl⟩) rfl rfl hl.1 dX12_child_34 rfl rfl (Nat.le_of_ble_eq_true rfl) ⟨(Nat.le_of_ble_eq_true rfl), (Nat.le_of_ble_eq_true rfl)⟩ hS hA hK hPm hDm (fun _ H locs _ hP hD hS => ?_)
      have hP := zp_perm hP ((zblk (show List.Perm ([WMo o ma mi ml, Wa X 2 (ma 9) 5 kz, Wa X 2 (ma 10) 20 hz] : List va_W) ([WMo o ma mi ml, Wa X 2 (ma 9) 5 kz, Wa X 2 (ma 10) 20 hz] ++ []) from (zf1 _ 0 _ rfl).trans (((zf1 _ 0 _ rfl).trans (((zf1 _ 0 _ rfl).trans ((List.Perm.refl _).cons _)).cons _)).cons _)))).symm
      have hD := zd_perm hD ((zblk (show List.Perm ([WMo o ma mi ml, Wa X 2 (ma 9) 5 kz, Wa X 2 (ma 10) 20 hz] : List va_W) ([WMo o ma mi ml, Wa X 2 (ma 9) 5 kz, Wa X 2 (ma 10) 20 hz] ++ []) from (zf1 _ 0 _ rfl).trans (((zf1 _ 0 _ rfl).trans (((zf1 _ 0 _ rfl).trans ((List.Perm.refl _).cons _)).cons _)).cons _)))).symm
      have hP : va_P X.1 vwCl (zb [WMo o ma mi ml, Wa X 2 (ma 9) 5 kz, Wa X 2 (ma 10) 20 hz]) H := hP
      have hD : va_D A (zb [WMo o ma mi ml, Wa X 2 (ma 9) 5 kz, Wa X 2 (ma 10) 20 hz]) := hD
      refine W.eq (g2 := F0 m 37 ls [.int (iI (childR (mi 2) z x (kdM kz) (fhZ hz)))]) rfl ?_
      refine lv_goto (tgt := 42) hx hb dX12_child_37 (by decide) ?_
      exact z_iret hQ hx hb hr hlocks hS ⟨(Nat.le_of_ble_eq_true rfl), (Nat.le_of_ble_eq_true rfl)⟩ dX12_child_42 () rfl trivial hP hD
    · skip
      refine lv_iload_n hx hb dX12_child_20 rfl (lv_at hl 2 rfl) ?_
      refine lv_bipush (v := iI 11) hx hb dX12_child_21 (by decide) ?_
      refine lv_bipush (v := iI 13) hx hb dX12_child_23 (by decide) ?_
      have hPm := zp_perm hP (zblk (show List.Perm ([WMo o ma mi ml, Wa X 2 (ma 9) 5 kz, Wa X 2 (ma 10) 20 hz] : List va_W) ([] ++ [WMo o ma mi ml, Wa X 2 (ma 9) 5 kz, Wa X 2 (ma 10) 20 hz]) from List.Perm.refl _))
      have hDm := zd_perm hD (zblk (show List.Perm ([WMo o ma mi ml, Wa X 2 (ma 9) 5 kz, Wa X 2 (ma 10) 20 hz] : List va_W) ([] ++ [WMo o ma mi ml, Wa X 2 (ma 9) 5 kz, Wa X 2 (ma 10) 20 hz]) from List.Perm.refl _))
      refine z_callS (wr := zb [WMo o ma mi ml, Wa X 2 (ma 9) 5 kz, Wa X 2 (ma 10) 20 hz]) (As := [.int (iI x), .int (iI 11), .int (iI 13)]) (rest := []) ⟨hx, hb, hml, hown, hts⟩ (c_X12_within l X x 11 13 (by omega)) (va_cwS 3 hts gX12_child_X12_within rfl rfl rfl (by decide +kernel) ⟨Nat.le_of_ble_eq_true rfl, Nat.le_of_ble_eq_true rfl⟩) hl.1 dX12_child_25 rfl rfl (Nat.le_of_ble_eq_true rfl) ⟨(Nat.le_of_ble_eq_true rfl), (Nat.le_of_ble_eq_true rfl)⟩ hS hA hK hPm hDm (fun _ H locs _ hP hD hS => ?_)
      have hP := zp_perm hP ((zblk (show List.Perm ([WMo o ma mi ml, Wa X 2 (ma 9) 5 kz, Wa X 2 (ma 10) 20 hz] : List va_W) ([] ++ [WMo o ma mi ml, Wa X 2 (ma 9) 5 kz, Wa X 2 (ma 10) 20 hz]) from List.Perm.refl _))).symm
      have hD := zd_perm hD ((zblk (show List.Perm ([WMo o ma mi ml, Wa X 2 (ma 9) 5 kz, Wa X 2 (ma 10) 20 hz] : List va_W) ([] ++ [WMo o ma mi ml, Wa X 2 (ma 9) 5 kz, Wa X 2 (ma 10) 20 hz]) from List.Perm.refl _))).symm
      have hP : va_P X.1 vwCl (zb [WMo o ma mi ml, Wa X 2 (ma 9) 5 kz, Wa X 2 (ma 10) 20 hz]) H := hP
      have hD : va_D A (zb [WMo o ma mi ml, Wa X 2 (ma 9) 5 kz, Wa X 2 (ma 10) 20 hz]) := hD
      refine W.eq (g2 := F0 m 28 ls [.int (iI (if 11 ≤ x ∧ x ≤ 13 then 1 else 0))]) rfl ?_
      refine z_if_eq (tgt := 40) hx hb (by omega) dX12_child_28 (by decide) (fun c_3 => ?_) (fun c_3 => ?_)
      · skip
        refine lv_bipush (v := iI (-102)) hx hb dX12_child_40 (by decide) ?_
        exact z_iret hQ hx hb hr hlocks hS ⟨(Nat.le_of_ble_eq_true rfl), (Nat.le_of_ble_eq_true rfl)⟩ dX12_child_42 () (congrArg (fun z => some (Value.int (iI z))) (show (childR (mi 2) z x (kdM kz) (fhZ hz) : Int) = (-102) by first | rfl | (unfold childR; (repeat (first | rw [if_pos (by omega)] | rw [if_neg (by omega)]))))) trivial hP hD
      · skip
        refine lv_aload_n hx hb dX12_child_31 rfl (lv_at hl 0 rfl) ?_
        refine lv_iload_n hx hb dX12_child_32 rfl (lv_at hl 1 rfl) ?_
        refine lv_iload_n hx hb dX12_child_33 rfl (lv_at hl 2 rfl) ?_
        have hPm := zp_perm hP (zblk (show List.Perm ([WMo o ma mi ml, Wa X 2 (ma 9) 5 kz, Wa X 2 (ma 10) 20 hz] : List va_W) ([WMo o ma mi ml, Wa X 2 (ma 9) 5 kz, Wa X 2 (ma 10) 20 hz] ++ []) from (zf1 _ 0 _ rfl).trans (((zf1 _ 0 _ rfl).trans (((zf1 _ 0 _ rfl).trans ((List.Perm.refl _).cons _)).cons _)).cons _)))
        have hDm := zd_perm hD (zblk (show List.Perm ([WMo o ma mi ml, Wa X 2 (ma 9) 5 kz, Wa X 2 (ma 10) 20 hz] : List va_W) ([WMo o ma mi ml, Wa X 2 (ma 9) 5 kz, Wa X 2 (ma 10) 20 hz] ++ []) from (zf1 _ 0 _ rfl).trans (((zf1 _ 0 _ rfl).trans (((zf1 _ 0 _ rfl).trans ((List.Perm.refl _).cons _)).cons _)).cons _)))
        refine z_callV (wr := zb []) (As := [.int (iI z), .int (iI x)]) (rest := []) ⟨hx, hb, hml, hown, hts⟩ (c_X12_childNow l X o ma mi ml kz hz z x (by omega) (by exact hkm) (by omega) (by omega)) (cwV 2 hts gX12_child_X12_childNow rfl rfl rfl (by decide +kernel) ⟨Nat.le_of_ble_eq_true rfl, Nat.le_of_ble_eq_true rfl⟩) rfl rfl hl.1 dX12_child_34 rfl rfl (Nat.le_of_ble_eq_true rfl) ⟨(Nat.le_of_ble_eq_true rfl), (Nat.le_of_ble_eq_true rfl)⟩ hS hA hK hPm hDm (fun _ H locs _ hP hD hS => ?_)
        have hP := zp_perm hP ((zblk (show List.Perm ([WMo o ma mi ml, Wa X 2 (ma 9) 5 kz, Wa X 2 (ma 10) 20 hz] : List va_W) ([WMo o ma mi ml, Wa X 2 (ma 9) 5 kz, Wa X 2 (ma 10) 20 hz] ++ []) from (zf1 _ 0 _ rfl).trans (((zf1 _ 0 _ rfl).trans (((zf1 _ 0 _ rfl).trans ((List.Perm.refl _).cons _)).cons _)).cons _)))).symm
        have hD := zd_perm hD ((zblk (show List.Perm ([WMo o ma mi ml, Wa X 2 (ma 9) 5 kz, Wa X 2 (ma 10) 20 hz] : List va_W) ([WMo o ma mi ml, Wa X 2 (ma 9) 5 kz, Wa X 2 (ma 10) 20 hz] ++ []) from (zf1 _ 0 _ rfl).trans (((zf1 _ 0 _ rfl).trans (((zf1 _ 0 _ rfl).trans ((List.Perm.refl _).cons _)).cons _)).cons _)))).symm
        have hP : va_P X.1 vwCl (zb [WMo o ma mi ml, Wa X 2 (ma 9) 5 kz, Wa X 2 (ma 10) 20 hz]) H := hP
        have hD : va_D A (zb [WMo o ma mi ml, Wa X 2 (ma 9) 5 kz, Wa X 2 (ma 10) 20 hz]) := hD
        refine W.eq (g2 := F0 m 37 ls [.int (iI (childR (mi 2) z x (kdM kz) (fhZ hz)))]) rfl ?_
        refine lv_goto (tgt := 42) hx hb dX12_child_37 (by decide) ?_
        exact z_iret hQ hx hb hr hlocks hS ⟨(Nat.le_of_ble_eq_true rfl), (Nat.le_of_ble_eq_true rfl)⟩ dX12_child_42 () rfl trivial hP hD
  · skip
    refine lv_bipush (v := iI (-101)) hx hb dX12_child_8 (by decide) ?_
    exact z_iret hQ hx hb hr hlocks hS ⟨(Nat.le_of_ble_eq_true rfl), (Nat.le_of_ble_eq_true rfl)⟩ dX12_child_10 () (congrArg (fun z => some (Value.int (iI z))) (show (childR (mi 2) z x (kdM kz) (fhZ hz) : Int) = (-101) by first | rfl | (unfold childR; (repeat (first | rw [if_pos (by omega)] | rw [if_neg (by omega)]))))) trivial hP hD
set_option maxHeartbeats 1000000 in
set_option maxRecDepth 100000 in
theorem c_X12_as (l : Launch) (X : zX) (o : Nat) (ma : Nat → Nat) (mi : Nat → Int) (ml : Nat → Int) (kz : Nat → Int) (z : Int) (x : Int) (ht : 0 ≤ mi 2 ∧ mi 2 ≤ 5) (hkm : KidM (mi 2) kz) (hrz : -2147483648 ≤ z ∧ z < 2147483648) (hrx : -2147483648 ≤ x ∧ x < 2147483648) : zF l X yX12_as wsX12_as 2 43 [.ref o, .int (iI z), .int (iI x)] (zb [WMo o ma mi ml, Wa X 2 (ma 9) 5 kz]) (some (.int (iI (asR (mi 2) z x (kdM kz))))) (zb [WMo o ma mi ml, Wa X 2 (ma 9) 5 kz]) := by
  refine z_enter (cc := cX12_as) (maxL := 4) (ret := (some .int)) (by decide) rfl (Nat.le_of_ble_eq_true rfl) ?_
  intro p e s m below meth c A ls Q hQ hE hl hP hD
  obtain ⟨hx, hb, hr, hml, hown, hts, hlocks, hnm, hA, hK⟩ := hE
  have hown : s.vm.findClass RX12 = some m.cls := hown
  have hS : va_S A s.heap s.heap [] := va_S.rf
  have hl : lv_has ls 4 [(0, .ref o), (1, .int (iI z)), (2, .int (iI x))] := hl
  have inX12 : ∀ w ∈ u_ws RX12 TX12 38, w ∈ wsX12_as := by decide +kernel
  refine lv_aload_n hx hb dX12_as_0 rfl (lv_at hl 0 rfl) ?_
  refine lv_iload_n hx hb dX12_as_1 rfl (lv_at hl 1 rfl) ?_
  have hPm := zp_perm hP (zblk (show List.Perm ([WMo o ma mi ml, Wa X 2 (ma 9) 5 kz] : List va_W) ([WMo o ma mi ml] ++ [Wa X 2 (ma 9) 5 kz]) from (zf1 _ 0 _ rfl).trans ((List.Perm.refl _).cons _)))
  have hDm := zd_perm hD (zblk (show List.Perm ([WMo o ma mi ml, Wa X 2 (ma 9) 5 kz] : List va_W) ([WMo o ma mi ml] ++ [Wa X 2 (ma 9) 5 kz]) from (zf1 _ 0 _ rfl).trans ((List.Perm.refl _).cons _)))
  refine z_callV (wr := zb [Wa X 2 (ma 9) 5 kz]) (As := [.int (iI z)]) (rest := []) ⟨hx, hb, hml, hown, hts⟩ (c_X12_isChild l X o ma mi ml z (by omega) (by omega)) (cwV 1 hts gX12_as_X12_isChild rfl rfl rfl (by decide +kernel) ⟨Nat.le_of_ble_eq_true rfl, Nat.le_of_ble_eq_true rfl⟩) rfl rfl hl.1 dX12_as_2 rfl rfl (Nat.le_of_ble_eq_true rfl) ⟨(Nat.le_of_ble_eq_true rfl), (Nat.le_of_ble_eq_true rfl)⟩ hS hA hK hPm hDm (fun _ H locs _ hP hD hS => ?_)
  have hP := zp_perm hP ((zblk (show List.Perm ([WMo o ma mi ml, Wa X 2 (ma 9) 5 kz] : List va_W) ([WMo o ma mi ml] ++ [Wa X 2 (ma 9) 5 kz]) from (zf1 _ 0 _ rfl).trans ((List.Perm.refl _).cons _)))).symm
  have hD := zd_perm hD ((zblk (show List.Perm ([WMo o ma mi ml, Wa X 2 (ma 9) 5 kz] : List va_W) ([WMo o ma mi ml] ++ [Wa X 2 (ma 9) 5 kz]) from (zf1 _ 0 _ rfl).trans ((List.Perm.refl _).cons _)))).symm
  have hP : va_P X.1 vwCl (zb [WMo o ma mi ml, Wa X 2 (ma 9) 5 kz]) H := hP
  have hD : va_D A (zb [WMo o ma mi ml, Wa X 2 (ma 9) 5 kz]) := hD
  refine W.eq (g2 := F0 m 5 ls [.int (iI (if 0 ≤ z ∧ z < mi 2 then 1 else 0))]) rfl ?_
  refine z_if_ne (tgt := 11) hx hb (by omega) dX12_as_5 (by decide) (fun c_1 => ?_) (fun c_1 => ?_)
  · skip
    refine lv_iload_n hx hb dX12_as_11 rfl (lv_at hl 2 rfl) ?_
    refine lv_iconst (v := iI 0) hx hb dX12_as_12 (by decide) ?_
    refine lv_iconst (v := iI 4) hx hb dX12_as_13 (by decide) ?_
    have hPm := zp_perm hP (zblk (show List.Perm ([WMo o ma mi ml, Wa X 2 (ma 9) 5 kz] : List va_W) ([] ++ [WMo o ma mi ml, Wa X 2 (ma 9) 5 kz]) from List.Perm.refl _))
    have hDm := zd_perm hD (zblk (show List.Perm ([WMo o ma mi ml, Wa X 2 (ma 9) 5 kz] : List va_W) ([] ++ [WMo o ma mi ml, Wa X 2 (ma 9) 5 kz]) from List.Perm.refl _))
    refine z_callS (wr := zb [WMo o ma mi ml, Wa X 2 (ma 9) 5 kz]) (As := [.int (iI x), .int (iI 0), .int (iI 4)]) (rest := []) ⟨hx, hb, hml, hown, hts⟩ (c_X12_within l X x 0 4 (by omega)) (va_cwS 3 hts gX12_as_X12_within rfl rfl rfl (by decide +kernel) ⟨Nat.le_of_ble_eq_true rfl, Nat.le_of_ble_eq_true rfl⟩) hl.1 dX12_as_14 rfl rfl (Nat.le_of_ble_eq_true rfl) ⟨(Nat.le_of_ble_eq_true rfl), (Nat.le_of_ble_eq_true rfl)⟩ hS hA hK hPm hDm (fun _ H locs _ hP hD hS => ?_)
    have hP := zp_perm hP ((zblk (show List.Perm ([WMo o ma mi ml, Wa X 2 (ma 9) 5 kz] : List va_W) ([] ++ [WMo o ma mi ml, Wa X 2 (ma 9) 5 kz]) from List.Perm.refl _))).symm
    have hD := zd_perm hD ((zblk (show List.Perm ([WMo o ma mi ml, Wa X 2 (ma 9) 5 kz] : List va_W) ([] ++ [WMo o ma mi ml, Wa X 2 (ma 9) 5 kz]) from List.Perm.refl _))).symm
    have hP : va_P X.1 vwCl (zb [WMo o ma mi ml, Wa X 2 (ma 9) 5 kz]) H := hP
    have hD : va_D A (zb [WMo o ma mi ml, Wa X 2 (ma 9) 5 kz]) := hD
    refine W.eq (g2 := F0 m 17 ls [.int (iI (if 0 ≤ x ∧ x ≤ 4 then 1 else 0))]) rfl ?_
    refine z_if_ne (tgt := 23) hx hb (by omega) dX12_as_17 (by decide) (fun c_2 => ?_) (fun c_2 => ?_)
    · skip
      have hkq := hkm z.toNat (by omega)
      have hkn : ((kdM kz z.toNat : Nat) : Int) = kz z.toNat := Int.toNat_of_nonneg hkq.1
      refine lv_aload_n hx hb dX12_as_23 rfl (lv_at hl 0 rfl) ?_
      refine va_get (ci := 12) (v := .ref (ma 9)) (C := RX12) (T := TX12) (N := 38) hx hb hts inX12 hown hK.1 hP 0 rfl rfl 9 (by decide) (hts (.fieldLink RX12 28 "SkimmedSonsModel" "kindOf" "[I") (by decide +kernel)) (fun _ h9 => h9) rfl dX12_as_24 ?_
      refine lv_iload_n hx hb dX12_as_27 rfl (lv_at hl 1 rfl) ?_
      refine z_iald hx hb hK.1 hP 1 rfl (by omega) dX12_as_28 ?_
      refine W.eq (g2 := F0 m 29 ls [.int (iI (kz z.toNat))]) rfl ?_
      refine lv_istore_n (lv' := [(3, .int (iI (kz z.toNat))), (0, .ref o), (1, .int (iI z)), (2, .int (iI x))]) hx hb dX12_as_29 rfl hl (by decide) rfl (fun ls hl => ?_)
      refine lv_iload_n hx hb dX12_as_30 rfl (lv_at hl 3 rfl) ?_
      refine z_if_eq (tgt := 49) hx hb (by omega) dX12_as_31 (by decide) (fun c_3 => ?_) (fun c_3 => ?_)
      · skip
        refine lv_iload_n hx hb dX12_as_49 rfl (lv_at hl 2 rfl) ?_
        refine lv_goto (tgt := 54) hx hb dX12_as_50 (by decide) ?_
        exact z_iret hQ hx hb hr hlocks hS ⟨(Nat.le_of_ble_eq_true rfl), (Nat.le_of_ble_eq_true rfl)⟩ dX12_as_54 () (congrArg (fun z => some (Value.int (iI z))) (show (asR (mi 2) z x (kdM kz) : Int) = z by unfold asR; (repeat (first | rw [if_pos (by omega)] | rw [if_neg (by omega)])); first | done | (unfold isK; (repeat (first | rw [if_pos (by omega)] | rw [if_neg (by omega)]))))) trivial hP hD
      · skip
        refine lv_iload_n hx hb dX12_as_34 rfl (lv_at hl 0 rfl) ?_
        refine lv_iload_n hx hb dX12_as_35 rfl (lv_at hl 3 rfl) ?_
        refine z_icmp_eq (tgt := 49) hx hb (by omega) dX12_as_36 (by decide) (fun c_4 => ?_) (fun c_4 => ?_)
        · skip
          refine lv_iload_n hx hb dX12_as_49 rfl (lv_at hl 2 rfl) ?_
          refine lv_goto (tgt := 54) hx hb dX12_as_50 (by decide) ?_
          exact z_iret hQ hx hb hr hlocks hS ⟨(Nat.le_of_ble_eq_true rfl), (Nat.le_of_ble_eq_true rfl)⟩ dX12_as_54 () (congrArg (fun z => some (Value.int (iI z))) (show (asR (mi 2) z x (kdM kz) : Int) = z by unfold asR; (repeat (first | rw [if_pos (by omega)] | rw [if_neg (by omega)])); first | done | (unfold isK; (repeat (first | rw [if_pos (by omega)] | rw [if_neg (by omega)]))))) trivial hP hD
        · skip
          refine lv_iload_n hx hb dX12_as_39 rfl (lv_at hl 3 rfl) ?_
          refine lv_iconst (v := iI 3) hx hb dX12_as_40 (by decide) ?_
          refine z_icmp_ne (tgt := 53) hx hb (by omega) dX12_as_41 (by decide) (fun c_5 => ?_) (fun c_5 => ?_)
          · skip
            refine lv_iconst (v := iI (-1)) hx hb dX12_as_53 (by decide) ?_
            exact z_iret hQ hx hb hr hlocks hS ⟨(Nat.le_of_ble_eq_true rfl), (Nat.le_of_ble_eq_true rfl)⟩ dX12_as_54 () (congrArg (fun z => some (Value.int (iI z))) (show (asR (mi 2) z x (kdM kz) : Int) = (-1) by unfold asR; (repeat (first | rw [if_pos (by omega)] | rw [if_neg (by omega)])); first | done | (unfold isK; (repeat (first | rw [if_pos (by omega)] | rw [if_neg (by omega)]))))) trivial hP hD
          · skip
            refine lv_iload_n hx hb dX12_as_44 rfl (lv_at hl 0 rfl) ?_
            refine lv_iconst (v := iI 4) hx hb dX12_as_45 (by decide) ?_
            refine z_icmp_ne (tgt := 53) hx hb (by omega) dX12_as_46 (by decide) (fun c_6 => ?_) (fun c_6 => ?_)
            · skip
              refine lv_iconst (v := iI (-1)) hx hb dX12_as_53 (by decide) ?_
              exact z_iret hQ hx hb hr hlocks hS ⟨(Nat.le_of_ble_eq_true rfl), (Nat.le_of_ble_eq_true rfl)⟩ dX12_as_54 () (congrArg (fun z => some (Value.int (iI z))) (show (asR (mi 2) z x (kdM kz) : Int) = (-1) by unfold asR; (repeat (first | rw [if_pos (by omega)] | rw [if_neg (by omega)])); first | done | (unfold isK; (repeat (first | rw [if_pos (by omega)] | rw [if_neg (by omega)]))))) trivial hP hD
            · skip
              refine lv_iload_n hx hb dX12_as_49 rfl (lv_at hl 2 rfl) ?_
              refine lv_goto (tgt := 54) hx hb dX12_as_50 (by decide) ?_
              exact z_iret hQ hx hb hr hlocks hS ⟨(Nat.le_of_ble_eq_true rfl), (Nat.le_of_ble_eq_true rfl)⟩ dX12_as_54 () (congrArg (fun z => some (Value.int (iI z))) (show (asR (mi 2) z x (kdM kz) : Int) = z by unfold asR; (repeat (first | rw [if_pos (by omega)] | rw [if_neg (by omega)])); first | done | (unfold isK; (repeat (first | rw [if_pos (by omega)] | rw [if_neg (by omega)]))))) trivial hP hD
    · skip
      refine lv_bipush (v := iI (-102)) hx hb dX12_as_20 (by decide) ?_
      exact z_iret hQ hx hb hr hlocks hS ⟨(Nat.le_of_ble_eq_true rfl), (Nat.le_of_ble_eq_true rfl)⟩ dX12_as_22 () (congrArg (fun z => some (Value.int (iI z))) (show (asR (mi 2) z x (kdM kz) : Int) = (-102) by unfold asR; (repeat (first | rw [if_pos (by omega)] | rw [if_neg (by omega)])); first | done | (unfold isK; (repeat (first | rw [if_pos (by omega)] | rw [if_neg (by omega)]))))) trivial hP hD
  · skip
    refine lv_bipush (v := iI (-101)) hx hb dX12_as_8 (by decide) ?_
    exact z_iret hQ hx hb hr hlocks hS ⟨(Nat.le_of_ble_eq_true rfl), (Nat.le_of_ble_eq_true rfl)⟩ dX12_as_10 () (congrArg (fun z => some (Value.int (iI z))) (show (asR (mi 2) z x (kdM kz) : Int) = (-101) by unfold asR; (repeat (first | rw [if_pos (by omega)] | rw [if_neg (by omega)])); first | done | (unfold isK; (repeat (first | rw [if_pos (by omega)] | rw [if_neg (by omega)]))))) trivial hP hD
set_option maxHeartbeats 1000000 in
set_option maxRecDepth 100000 in
theorem c_X12_hour (l : Launch) (X : zX) (o : Nat) (ma : Nat → Nat) (mi : Nat → Int) (ml : Nat → Int) (pv : Nat → Nat → Int) (hn : 0 ≤ mi 1 ∧ mi 1 ≤ 3) (hpv : PanS pv) (hu : 0 ≤ mi 11 ∧ mi 11 ≤ 999) : zF l X yX12_hour wsX12_hour 3 64 [.ref o] (zb [WMo o ma mi ml, WMp X ma pv]) (some (.int (iI (hourR (mi 1) (mi 11))))) (zb [WMo o ma (updZ mi 11 (hourU (mi 1) (mi 11))) ml, WMp X ma (hourV (mi 1) (mi 11) (mi 1) pv)]) := by
  refine z_enter (cc := cX12_hour) (maxL := 1) (ret := (some .int)) (by decide) rfl (Nat.le_of_ble_eq_true rfl) ?_
  intro p e s m below meth c A ls Q hQ hE hl hP hD
  obtain ⟨hx, hb, hr, hml, hown, hts, hlocks, hnm, hA, hK⟩ := hE
  have hown : s.vm.findClass RX12 = some m.cls := hown
  have hS : va_S A s.heap s.heap [] := va_S.rf
  have hl : lv_has ls 1 [(0, .ref o)] := hl
  have inX12 : ∀ w ∈ u_ws RX12 TX12 38, w ∈ wsX12_hour := by decide +kernel
  refine lv_aload_n hx hb dX12_hour_0 rfl (lv_at hl 0 rfl) ?_
  refine va_get (ci := 12) (v := .int (iI (mi 1))) (C := RX12) (T := TX12) (N := 38) hx hb hts inX12 hown hK.1 hP 0 rfl rfl 1 (by decide) (hts (.fieldLink RX12 119 "SkimmedSonsModel" "pans" "I") (by decide +kernel)) (fun _ h9 => h9) rfl dX12_hour_1 ?_
  refine z_if_ne (tgt := 10) hx hb (by omega) dX12_hour_4 (by decide) (fun c_1 => ?_) (fun c_1 => ?_)
  · skip
    refine lv_aload_n hx hb dX12_hour_10 rfl (lv_at hl 0 rfl) ?_
    refine va_get (ci := 12) (v := .int (iI (mi 11))) (C := RX12) (T := TX12) (N := 38) hx hb hts inX12 hown hK.1 hP 0 rfl rfl 11 (by decide) (hts (.fieldLink RX12 125 "SkimmedSonsModel" "hours" "I") (by decide +kernel)) (fun _ h9 => h9) rfl dX12_hour_11 ?_
    refine lv_sipush (v := iI 999) hx hb dX12_hour_14 (by decide) ?_
    refine z_icmp_ne (tgt := 23) hx hb (by omega) dX12_hour_17 (by decide) (fun c_2 => ?_) (fun c_2 => ?_)
    · skip
      refine lv_aload_n hx hb dX12_hour_23 rfl (lv_at hl 0 rfl) ?_
      have hPm := zp_perm hP (zblk (show List.Perm ([WMo o ma mi ml, WMp X ma pv] : List va_W) ([WMo o ma mi ml, WMp X ma pv] ++ []) from (zf1 _ 0 _ rfl).trans (((zf1 _ 0 _ rfl).trans ((List.Perm.refl _).cons _)).cons _)))
      have hDm := zd_perm hD (zblk (show List.Perm ([WMo o ma mi ml, WMp X ma pv] : List va_W) ([WMo o ma mi ml, WMp X ma pv] ++ []) from (zf1 _ 0 _ rfl).trans (((zf1 _ 0 _ rfl).trans ((List.Perm.refl _).cons _)).cons _)))
      refine z_callV (wr := zb []) (As := []) (rest := []) ⟨hx, hb, hml, hown, hts⟩ (c_X12_goByAll l X o ma mi ml pv (by omega) (by exact hpv)) (cwV 0 hts gX12_hour_X12_goByAll rfl rfl rfl (by decide +kernel) ⟨Nat.le_of_ble_eq_true rfl, Nat.le_of_ble_eq_true rfl⟩) rfl rfl hl.1 dX12_hour_24 rfl rfl (Nat.le_of_ble_eq_true rfl) ⟨(Nat.le_of_ble_eq_true rfl), (Nat.le_of_ble_eq_true rfl)⟩ hS hA hK hPm hDm (fun _ H locs _ hP hD hS => ?_)
      have hP := zp_perm hP ((zblk (show List.Perm ([WMo o ma mi ml, WMp X ma (wtS (mi 1) pv)] : List va_W) ([WMo o ma mi ml, WMp X ma (wtS (mi 1) pv)] ++ []) from (zf1 _ 0 _ rfl).trans (((zf1 _ 0 _ rfl).trans ((List.Perm.refl _).cons _)).cons _)))).symm
      have hD := zd_perm hD ((zblk (show List.Perm ([WMo o ma mi ml, WMp X ma (wtS (mi 1) pv)] : List va_W) ([WMo o ma mi ml, WMp X ma (wtS (mi 1) pv)] ++ []) from (zf1 _ 0 _ rfl).trans (((zf1 _ 0 _ rfl).trans ((List.Perm.refl _).cons _)).cons _)))).symm
      have hP : va_P X.1 vwCl (zb [WMo o ma mi ml, WMp X ma (wtS (mi 1) pv)]) H := hP
      have hD : va_D A (zb [WMo o ma mi ml, WMp X ma (wtS (mi 1) pv)]) := hD
      refine W.eq (g2 := F0 m 27 ls []) rfl ?_
      refine lv_aload_n hx hb dX12_hour_27 rfl (lv_at hl 0 rfl) ?_
      refine lv_dup hx hb dX12_hour_28 rfl ?_
      refine va_get (ci := 12) (v := .int (iI (mi 11))) (C := RX12) (T := TX12) (N := 38) hx hb hts inX12 hown hK.1 hP 0 rfl rfl 11 (by decide) (hts (.fieldLink RX12 125 "SkimmedSonsModel" "hours" "I") (by decide +kernel)) (fun _ h9 => h9) rfl dX12_hour_29 ?_
      refine lv_iconst (v := iI 1) hx hb dX12_hour_32 (by decide) ?_
      refine z_iadd hx hb dX12_hour_33 ?_
      refine z_topi (fun z_3 ez_3 => ?_)
      refine va_put (ci := 12) (v := .int (iI z_3)) (ty := .int) (C := RX12) (T := TX12) (N := 38) hx hb hts inX12 tyX12 tyX12_ok nmX12 hown hK.1 hP hD hS 0 rfl rfl 11 (by decide) (hts (.fieldLink RX12 125 "SkimmedSonsModel" "hours" "I") (by decide +kernel)) (fun _ h9 => h9) rfl (by decide +kernel) rfl rfl (Nat.le_of_ble_eq_true rfl) dX12_hour_34 (fun H locs hP hD hS => ?_)
      have hP : va_P X.1 vwCl (zb [WMo o ma (updZ mi 11 z_3) ml, WMp X ma (wtS (mi 1) pv)]) H := hP
      have hD : va_D A (zb [WMo o ma (updZ mi 11 z_3) ml, WMp X ma (wtS (mi 1) pv)]) := hD
      refine lv_aload_n hx hb dX12_hour_37 rfl (lv_at hl 0 rfl) ?_
      refine va_get (ci := 12) (v := .int (iI z_3)) (C := RX12) (T := TX12) (N := 38) hx hb hts inX12 hown hK.1 hP 0 rfl rfl 11 (by decide) (hts (.fieldLink RX12 125 "SkimmedSonsModel" "hours" "I") (by decide +kernel)) (fun _ h9 => h9) rfl dX12_hour_38 ?_
      have hw : zb [WMo o ma (updZ mi 11 z_3) ml, WMp X ma (wtS (mi 1) pv)] = zb [WMo o ma (updZ mi 11 (hourU (mi 1) (mi 11))) ml, WMp X ma (hourV (mi 1) (mi 11) (mi 1) pv)] := by unfold hourU hourV; (repeat (first | rw [if_pos (by omega)] | rw [if_neg (by omega)])); first | done | (rw [updZ_id]; done) | (subst_vars; rfl)
      rw [hw] at hP hD
      exact z_iret hQ hx hb hr hlocks hS ⟨(Nat.le_of_ble_eq_true rfl), (Nat.le_of_ble_eq_true rfl)⟩ dX12_hour_41 () (congrArg (fun z => some (Value.int (iI z))) (show (hourR (mi 1) (mi 11) : Int) = z_3 by unfold hourR; omega)) trivial hP hD
    · skip
      refine lv_bipush (v := iI (-104)) hx hb dX12_hour_20 (by decide) ?_
      have hw : zb [WMo o ma mi ml, WMp X ma pv] = zb [WMo o ma (updZ mi 11 (hourU (mi 1) (mi 11))) ml, WMp X ma (hourV (mi 1) (mi 11) (mi 1) pv)] := by unfold hourU hourV; (repeat (first | rw [if_pos (by omega)] | rw [if_neg (by omega)])); first | done | (rw [updZ_id]; done) | (subst_vars; rfl)
      rw [hw] at hP hD
      exact z_iret hQ hx hb hr hlocks hS ⟨(Nat.le_of_ble_eq_true rfl), (Nat.le_of_ble_eq_true rfl)⟩ dX12_hour_22 () (congrArg (fun z => some (Value.int (iI z))) (show (hourR (mi 1) (mi 11) : Int) = (-104) by unfold hourR; omega)) trivial hP hD
  · skip
    refine lv_bipush (v := iI (-103)) hx hb dX12_hour_7 (by decide) ?_
    have hw : zb [WMo o ma mi ml, WMp X ma pv] = zb [WMo o ma (updZ mi 11 (hourU (mi 1) (mi 11))) ml, WMp X ma (hourV (mi 1) (mi 11) (mi 1) pv)] := by unfold hourU hourV; (repeat (first | rw [if_pos (by omega)] | rw [if_neg (by omega)])); first | done | (rw [updZ_id]; done) | (subst_vars; rfl)
    rw [hw] at hP hD
    exact z_iret hQ hx hb hr hlocks hS ⟨(Nat.le_of_ble_eq_true rfl), (Nat.le_of_ble_eq_true rfl)⟩ dX12_hour_9 () (congrArg (fun z => some (Value.int (iI z))) (show (hourR (mi 1) (mi 11) : Int) = (-103) by unfold hourR; omega)) trivial hP hD
set_option maxHeartbeats 1000000 in
set_option maxRecDepth 100000 in
theorem c_X12_skim (l : Launch) (X : zX) (o : Nat) (ma : Nat → Nat) (mi : Nat → Int) (ml : Nat → Int) (pv : Nat → Nat → Int) (hz : Nat → Int) (z : Int) (x : Int) (hn : 0 ≤ mi 1 ∧ mi 1 ≤ 3) (ht : 0 ≤ mi 2 ∧ mi 2 ≤ 5) (hpv : PanS pv) (hhm : HadM hz) (hrz : -2147483648 ≤ z ∧ z < 2147483648) (hrx : -2147483648 ≤ x ∧ x < 2147483648) : zF l X yX12_skim wsX12_skim 2 43 [.ref o, .int (iI z), .int (iI x)] (zb [WMo o ma mi ml, WMp X ma pv, Wa X 2 (ma 10) 20 hz]) (some (.int (iI (skimR (mi 2) (mi 1) z x pv (fhZ hz))))) (zb [WMo o ma mi ml, WMp X ma (skimV (mi 2) (mi 1) z x pv (fhZ hz)), Wa X 2 (ma 10) 20 (skimG (mi 2) (mi 1) z x pv hz)]) := by
  refine z_enter (cc := cX12_skim) (maxL := 4) (ret := (some .int)) (by decide) rfl (Nat.le_of_ble_eq_true rfl) ?_
  intro p e s m below meth c A ls Q hQ hE hl hP hD
  obtain ⟨hx, hb, hr, hml, hown, hts, hlocks, hnm, hA, hK⟩ := hE
  have hown : s.vm.findClass RX12 = some m.cls := hown
  have hS : va_S A s.heap s.heap [] := va_S.rf
  have hl : lv_has ls 4 [(0, .ref o), (1, .int (iI z)), (2, .int (iI x))] := hl
  have inX12 : ∀ w ∈ u_ws RX12 TX12 38, w ∈ wsX12_skim := by decide +kernel
  have htp := topP_in (pv x.toNat)
  have hhz := hhm (4 * z + topP (pv x.toNat)).toNat
  refine lv_aload_n hx hb dX12_skim_0 rfl (lv_at hl 0 rfl) ?_
  refine lv_iload_n hx hb dX12_skim_1 rfl (lv_at hl 1 rfl) ?_
  have hPm := zp_perm hP (zblk (show List.Perm ([WMo o ma mi ml, WMp X ma pv, Wa X 2 (ma 10) 20 hz] : List va_W) ([WMo o ma mi ml] ++ [WMp X ma pv, Wa X 2 (ma 10) 20 hz]) from (zf1 _ 0 _ rfl).trans ((List.Perm.refl _).cons _)))
  have hDm := zd_perm hD (zblk (show List.Perm ([WMo o ma mi ml, WMp X ma pv, Wa X 2 (ma 10) 20 hz] : List va_W) ([WMo o ma mi ml] ++ [WMp X ma pv, Wa X 2 (ma 10) 20 hz]) from (zf1 _ 0 _ rfl).trans ((List.Perm.refl _).cons _)))
  refine z_callV (wr := zb [WMp X ma pv, Wa X 2 (ma 10) 20 hz]) (As := [.int (iI z)]) (rest := []) ⟨hx, hb, hml, hown, hts⟩ (c_X12_isChild l X o ma mi ml z (by omega) (by omega)) (cwV 1 hts gX12_skim_X12_isChild rfl rfl rfl (by decide +kernel) ⟨Nat.le_of_ble_eq_true rfl, Nat.le_of_ble_eq_true rfl⟩) rfl rfl hl.1 dX12_skim_2 rfl rfl (Nat.le_of_ble_eq_true rfl) ⟨(Nat.le_of_ble_eq_true rfl), (Nat.le_of_ble_eq_true rfl)⟩ hS hA hK hPm hDm (fun _ H locs _ hP hD hS => ?_)
  have hP := zp_perm hP ((zblk (show List.Perm ([WMo o ma mi ml, WMp X ma pv, Wa X 2 (ma 10) 20 hz] : List va_W) ([WMo o ma mi ml] ++ [WMp X ma pv, Wa X 2 (ma 10) 20 hz]) from (zf1 _ 0 _ rfl).trans ((List.Perm.refl _).cons _)))).symm
  have hD := zd_perm hD ((zblk (show List.Perm ([WMo o ma mi ml, WMp X ma pv, Wa X 2 (ma 10) 20 hz] : List va_W) ([WMo o ma mi ml] ++ [WMp X ma pv, Wa X 2 (ma 10) 20 hz]) from (zf1 _ 0 _ rfl).trans ((List.Perm.refl _).cons _)))).symm
  have hP : va_P X.1 vwCl (zb [WMo o ma mi ml, WMp X ma pv, Wa X 2 (ma 10) 20 hz]) H := hP
  have hD : va_D A (zb [WMo o ma mi ml, WMp X ma pv, Wa X 2 (ma 10) 20 hz]) := hD
  refine W.eq (g2 := F0 m 5 ls [.int (iI (if 0 ≤ z ∧ z < mi 2 then 1 else 0))]) rfl ?_
  refine z_if_eq (tgt := 16) hx hb (by omega) dX12_skim_5 (by decide) (fun c_1 => ?_) (fun c_1 => ?_)
  · skip
    refine lv_bipush (v := iI (-101)) hx hb dX12_skim_16 (by decide) ?_
    have hw : zb [WMo o ma mi ml, WMp X ma pv, Wa X 2 (ma 10) 20 hz] = zb [WMo o ma mi ml, WMp X ma (skimV (mi 2) (mi 1) z x pv (fhZ hz)), Wa X 2 (ma 10) 20 (skimG (mi 2) (mi 1) z x pv hz)] := by unfold skimV skimG; rw [if_neg (by unfold skimR; (repeat (first | rw [if_pos (by omega)] | rw [if_neg (by omega)])); decide), if_neg (by unfold skimR; (repeat (first | rw [if_pos (by omega)] | rw [if_neg (by omega)])); decide)]
    rw [hw] at hP hD
    exact z_iret hQ hx hb hr hlocks hS ⟨(Nat.le_of_ble_eq_true rfl), (Nat.le_of_ble_eq_true rfl)⟩ dX12_skim_18 () (congrArg (fun z => some (Value.int (iI z))) (show (skimR (mi 2) (mi 1) z x pv (fhZ hz) : Int) = (-101) by unfold skimR; (repeat (first | rw [if_pos (by omega)] | rw [if_neg (by omega)])))) trivial hP hD
  · skip
    refine lv_aload_n hx hb dX12_skim_8 rfl (lv_at hl 0 rfl) ?_
    refine lv_iload_n hx hb dX12_skim_9 rfl (lv_at hl 2 rfl) ?_
    have hPm := zp_perm hP (zblk (show List.Perm ([WMo o ma mi ml, WMp X ma pv, Wa X 2 (ma 10) 20 hz] : List va_W) ([WMo o ma mi ml] ++ [WMp X ma pv, Wa X 2 (ma 10) 20 hz]) from (zf1 _ 0 _ rfl).trans ((List.Perm.refl _).cons _)))
    have hDm := zd_perm hD (zblk (show List.Perm ([WMo o ma mi ml, WMp X ma pv, Wa X 2 (ma 10) 20 hz] : List va_W) ([WMo o ma mi ml] ++ [WMp X ma pv, Wa X 2 (ma 10) 20 hz]) from (zf1 _ 0 _ rfl).trans ((List.Perm.refl _).cons _)))
    refine z_callV (wr := zb [WMp X ma pv, Wa X 2 (ma 10) 20 hz]) (As := [.int (iI x)]) (rest := []) ⟨hx, hb, hml, hown, hts⟩ (c_X12_isPan l X o ma mi ml x (by omega) (by omega)) (cwV 1 hts gX12_skim_X12_isPan rfl rfl rfl (by decide +kernel) ⟨Nat.le_of_ble_eq_true rfl, Nat.le_of_ble_eq_true rfl⟩) rfl rfl hl.1 dX12_skim_10 rfl rfl (Nat.le_of_ble_eq_true rfl) ⟨(Nat.le_of_ble_eq_true rfl), (Nat.le_of_ble_eq_true rfl)⟩ hS hA hK hPm hDm (fun _ H locs _ hP hD hS => ?_)
    have hP := zp_perm hP ((zblk (show List.Perm ([WMo o ma mi ml, WMp X ma pv, Wa X 2 (ma 10) 20 hz] : List va_W) ([WMo o ma mi ml] ++ [WMp X ma pv, Wa X 2 (ma 10) 20 hz]) from (zf1 _ 0 _ rfl).trans ((List.Perm.refl _).cons _)))).symm
    have hD := zd_perm hD ((zblk (show List.Perm ([WMo o ma mi ml, WMp X ma pv, Wa X 2 (ma 10) 20 hz] : List va_W) ([WMo o ma mi ml] ++ [WMp X ma pv, Wa X 2 (ma 10) 20 hz]) from (zf1 _ 0 _ rfl).trans ((List.Perm.refl _).cons _)))).symm
    have hP : va_P X.1 vwCl (zb [WMo o ma mi ml, WMp X ma pv, Wa X 2 (ma 10) 20 hz]) H := hP
    have hD : va_D A (zb [WMo o ma mi ml, WMp X ma pv, Wa X 2 (ma 10) 20 hz]) := hD
    refine W.eq (g2 := F0 m 13 ls [.int (iI (if 0 ≤ x ∧ x < mi 1 then 1 else 0))]) rfl ?_
    refine z_if_ne (tgt := 19) hx hb (by omega) dX12_skim_13 (by decide) (fun c_2 => ?_) (fun c_2 => ?_)
    · skip
      refine lv_aload_n hx hb dX12_skim_19 rfl (lv_at hl 0 rfl) ?_
      refine lv_iload_n hx hb dX12_skim_20 rfl (lv_at hl 2 rfl) ?_
      have hPm := zp_perm hP (zblk (show List.Perm ([WMo o ma mi ml, WMp X ma pv, Wa X 2 (ma 10) 20 hz] : List va_W) ([WMo o ma mi ml, WMp X ma pv] ++ [Wa X 2 (ma 10) 20 hz]) from (zf1 _ 0 _ rfl).trans (((zf1 _ 0 _ rfl).trans ((List.Perm.refl _).cons _)).cons _)))
      have hDm := zd_perm hD (zblk (show List.Perm ([WMo o ma mi ml, WMp X ma pv, Wa X 2 (ma 10) 20 hz] : List va_W) ([WMo o ma mi ml, WMp X ma pv] ++ [Wa X 2 (ma 10) 20 hz]) from (zf1 _ 0 _ rfl).trans (((zf1 _ 0 _ rfl).trans ((List.Perm.refl _).cons _)).cons _)))
      refine z_callV (wr := zb [Wa X 2 (ma 10) 20 hz]) (As := [.int (iI x)]) (rest := []) ⟨hx, hb, hml, hown, hts⟩ (c_X12_topOf l X o ma mi ml pv x (by exact hpv _ (by omega)) (by omega)) (cwV 1 hts gX12_skim_X12_topOf rfl rfl rfl (by decide +kernel) ⟨Nat.le_of_ble_eq_true rfl, Nat.le_of_ble_eq_true rfl⟩) rfl rfl hl.1 dX12_skim_21 rfl rfl (Nat.le_of_ble_eq_true rfl) ⟨(Nat.le_of_ble_eq_true rfl), (Nat.le_of_ble_eq_true rfl)⟩ hS hA hK hPm hDm (fun _ H locs _ hP hD hS => ?_)
      have hP := zp_perm hP ((zblk (show List.Perm ([WMo o ma mi ml, WMp X ma pv, Wa X 2 (ma 10) 20 hz] : List va_W) ([WMo o ma mi ml, WMp X ma pv] ++ [Wa X 2 (ma 10) 20 hz]) from (zf1 _ 0 _ rfl).trans (((zf1 _ 0 _ rfl).trans ((List.Perm.refl _).cons _)).cons _)))).symm
      have hD := zd_perm hD ((zblk (show List.Perm ([WMo o ma mi ml, WMp X ma pv, Wa X 2 (ma 10) 20 hz] : List va_W) ([WMo o ma mi ml, WMp X ma pv] ++ [Wa X 2 (ma 10) 20 hz]) from (zf1 _ 0 _ rfl).trans (((zf1 _ 0 _ rfl).trans ((List.Perm.refl _).cons _)).cons _)))).symm
      have hP : va_P X.1 vwCl (zb [WMo o ma mi ml, WMp X ma pv, Wa X 2 (ma 10) 20 hz]) H := hP
      have hD : va_D A (zb [WMo o ma mi ml, WMp X ma pv, Wa X 2 (ma 10) 20 hz]) := hD
      refine W.eq (g2 := F0 m 24 ls [.int (iI (topP (pv x.toNat)))]) rfl ?_
      refine z_topi (fun z_3 ez_3 => ?_)
      refine lv_istore_n (lv' := [(3, .int (iI z_3)), (0, .ref o), (1, .int (iI z)), (2, .int (iI x))]) hx hb dX12_skim_24 rfl hl (by decide) rfl (fun ls hl => ?_)
      subst ez_3
      refine lv_iload_n hx hb dX12_skim_25 rfl (lv_at hl 0 rfl) ?_
      refine lv_iconst (v := iI (-1)) hx hb dX12_skim_26 (by decide) ?_
      refine z_icmp_ne (tgt := 33) hx hb (by omega) dX12_skim_27 (by decide) (fun c_4 => ?_) (fun c_4 => ?_)
      · skip
        have hfe : fhZ hz z.toNat (topP (pv x.toNat)).toNat = hz (4 * z + topP (pv x.toNat)).toNat := by unfold fhZ; rw [show (4 * z + topP (pv x.toNat)).toNat = 4 * z.toNat + (topP (pv x.toNat)).toNat by omega]
        refine lv_aload_n hx hb dX12_skim_33 rfl (lv_at hl 1 rfl) ?_
        refine va_get (ci := 12) (v := .ref (ma 10)) (C := RX12) (T := TX12) (N := 38) hx hb hts inX12 hown hK.1 hP 0 rfl rfl 10 (by decide) (hts (.fieldLink RX12 31 "SkimmedSonsModel" "hadOf" "[I") (by decide +kernel)) (fun _ h9 => h9) rfl dX12_skim_34 ?_
        refine lv_iconst (v := iI 4) hx hb dX12_skim_37 (by decide) ?_
        refine lv_iload_n hx hb dX12_skim_38 rfl (lv_at hl 2 rfl) ?_
        refine z_imul hx hb dX12_skim_39 ?_
        refine lv_iload_n hx hb dX12_skim_40 rfl (lv_at hl 0 rfl) ?_
        refine z_iadd hx hb dX12_skim_41 ?_
        refine z_iald hx hb hK.1 hP 7 rfl (by omega) dX12_skim_42 ?_
        refine W.eq (g2 := F0 m 43 ls [.int (iI (hz (((4 * z) + (topP (pv x.toNat))).toNat)))]) rfl ?_
        refine lv_bipush (v := iI 99) hx hb dX12_skim_43 (by decide) ?_
        refine z_icmp_ne (tgt := 51) hx hb (by omega) dX12_skim_45 (by decide) (fun c_5 => ?_) (fun c_5 => ?_)
        · skip
          refine lv_aload_n hx hb dX12_skim_51 rfl (lv_at hl 1 rfl) ?_
          refine lv_iload_n hx hb dX12_skim_52 rfl (lv_at hl 3 rfl) ?_
          refine lv_iload_n hx hb dX12_skim_53 rfl (lv_at hl 0 rfl) ?_
          have hPm := zp_perm hP (zblk (show List.Perm ([WMo o ma mi ml, WMp X ma pv, Wa X 2 (ma 10) 20 hz] : List va_W) ([WMo o ma mi ml, WMp X ma pv] ++ [Wa X 2 (ma 10) 20 hz]) from (zf1 _ 0 _ rfl).trans (((zf1 _ 0 _ rfl).trans ((List.Perm.refl _).cons _)).cons _)))
          have hDm := zd_perm hD (zblk (show List.Perm ([WMo o ma mi ml, WMp X ma pv, Wa X 2 (ma 10) 20 hz] : List va_W) ([WMo o ma mi ml, WMp X ma pv] ++ [Wa X 2 (ma 10) 20 hz]) from (zf1 _ 0 _ rfl).trans (((zf1 _ 0 _ rfl).trans ((List.Perm.refl _).cons _)).cons _)))
          refine z_callV (wr := zb [Wa X 2 (ma 10) 20 hz]) (As := [.int (iI x), .int (iI (topP (pv x.toNat)))]) (rest := []) ⟨hx, hb, hml, hown, hts⟩ (c_X12_take l X o ma mi ml pv x (topP (pv x.toNat)) (by exact hpv _ (by omega)) (by omega) (by omega) (by omega)) (cwV 2 hts gX12_skim_X12_take rfl rfl rfl (by decide +kernel) ⟨Nat.le_of_ble_eq_true rfl, Nat.le_of_ble_eq_true rfl⟩) rfl rfl hl.1 dX12_skim_54 rfl rfl (Nat.le_of_ble_eq_true rfl) ⟨(Nat.le_of_ble_eq_true rfl), (Nat.le_of_ble_eq_true rfl)⟩ hS hA hK hPm hDm (fun _ H locs _ hP hD hS => ?_)
          have hP := zp_perm hP ((zblk (show List.Perm ([WMo o ma mi ml, WMp X ma (va_up pv x.toNat (takeP (pv x.toNat))), Wa X 2 (ma 10) 20 hz] : List va_W) ([WMo o ma mi ml, WMp X ma (va_up pv x.toNat (takeP (pv x.toNat)))] ++ [Wa X 2 (ma 10) 20 hz]) from (zf1 _ 0 _ rfl).trans (((zf1 _ 0 _ rfl).trans ((List.Perm.refl _).cons _)).cons _)))).symm
          have hD := zd_perm hD ((zblk (show List.Perm ([WMo o ma mi ml, WMp X ma (va_up pv x.toNat (takeP (pv x.toNat))), Wa X 2 (ma 10) 20 hz] : List va_W) ([WMo o ma mi ml, WMp X ma (va_up pv x.toNat (takeP (pv x.toNat)))] ++ [Wa X 2 (ma 10) 20 hz]) from (zf1 _ 0 _ rfl).trans (((zf1 _ 0 _ rfl).trans ((List.Perm.refl _).cons _)).cons _)))).symm
          have hP : va_P X.1 vwCl (zb [WMo o ma mi ml, WMp X ma (va_up pv x.toNat (takeP (pv x.toNat))), Wa X 2 (ma 10) 20 hz]) H := hP
          have hD : va_D A (zb [WMo o ma mi ml, WMp X ma (va_up pv x.toNat (takeP (pv x.toNat))), Wa X 2 (ma 10) 20 hz]) := hD
          refine W.eq (g2 := F0 m 57 ls []) rfl ?_
          refine lv_aload_n hx hb dX12_skim_57 rfl (lv_at hl 1 rfl) ?_
          refine va_get (ci := 12) (v := .ref (ma 10)) (C := RX12) (T := TX12) (N := 38) hx hb hts inX12 hown hK.1 hP 0 rfl rfl 10 (by decide) (hts (.fieldLink RX12 31 "SkimmedSonsModel" "hadOf" "[I") (by decide +kernel)) (fun _ h9 => h9) rfl dX12_skim_58 ?_
          refine lv_iconst (v := iI 4) hx hb dX12_skim_61 (by decide) ?_
          refine lv_iload_n hx hb dX12_skim_62 rfl (lv_at hl 2 rfl) ?_
          refine z_imul hx hb dX12_skim_63 ?_
          refine lv_iload_n hx hb dX12_skim_64 rfl (lv_at hl 0 rfl) ?_
          refine z_iadd hx hb dX12_skim_65 ?_
          refine lv_dup2_11 hx hb dX12_skim_66 rfl rfl ?_
          refine z_iald hx hb hK.1 hP 7 rfl (by omega) dX12_skim_67 ?_
          refine W.eq (g2 := F0 m 68 ls [.int (iI (hz (((4 * z) + (topP (pv x.toNat))).toNat))), .int (iI ((4 * z) + (topP (pv x.toNat)))), .ref (ma 10)]) rfl ?_
          refine lv_iconst (v := iI 1) hx hb dX12_skim_68 (by decide) ?_
          refine z_iadd hx hb dX12_skim_69 ?_
          refine z_topi (fun z_6 ez_6 => ?_)
          refine z_iast hx hb hK.1 hP hD hS 7 rfl (by omega) dX12_skim_70 (fun H locs hP hD hS => ?_)
          have hP : va_P X.1 vwCl (zb [WMo o ma mi ml, WMp X ma (va_up pv x.toNat (takeP (pv x.toNat))), Wa X 2 (ma 10) 20 (updZ hz (((4 * z) + (topP (pv x.toNat))).toNat) z_6)]) H := hP
          have hD : va_D A (zb [WMo o ma mi ml, WMp X ma (va_up pv x.toNat (takeP (pv x.toNat))), Wa X 2 (ma 10) 20 (updZ hz (((4 * z) + (topP (pv x.toNat))).toNat) z_6)]) := hD
          have hsk : skimR (mi 2) (mi 1) z x pv (fhZ hz) = topP (pv x.toNat) := by unfold skimR; rw [if_pos (by omega), if_neg (by omega), if_neg (by omega)]
          refine lv_iload_n hx hb dX12_skim_71 rfl (lv_at hl 0 rfl) ?_
          have hw : zb [WMo o ma mi ml, WMp X ma (va_up pv x.toNat (takeP (pv x.toNat))), Wa X 2 (ma 10) 20 (updZ hz (((4 * z) + (topP (pv x.toNat))).toNat) z_6)] = zb [WMo o ma mi ml, WMp X ma (skimV (mi 2) (mi 1) z x pv (fhZ hz)), Wa X 2 (ma 10) 20 (skimG (mi 2) (mi 1) z x pv hz)] := by unfold skimV skimG; rw [if_pos (by omega), if_pos (by omega)]; subst_vars; rfl
          rw [hw] at hP hD
          exact z_iret hQ hx hb hr hlocks hS ⟨(Nat.le_of_ble_eq_true rfl), (Nat.le_of_ble_eq_true rfl)⟩ dX12_skim_72 () (congrArg (fun z => some (Value.int (iI z))) (show (skimR (mi 2) (mi 1) z x pv (fhZ hz) : Int) = topP (pv x.toNat) by exact hsk)) trivial hP hD
        · skip
          refine lv_bipush (v := iI (-104)) hx hb dX12_skim_48 (by decide) ?_
          have hw : zb [WMo o ma mi ml, WMp X ma pv, Wa X 2 (ma 10) 20 hz] = zb [WMo o ma mi ml, WMp X ma (skimV (mi 2) (mi 1) z x pv (fhZ hz)), Wa X 2 (ma 10) 20 (skimG (mi 2) (mi 1) z x pv hz)] := by unfold skimV skimG; rw [if_neg (by unfold skimR; (repeat (first | rw [if_pos (by omega)] | rw [if_neg (by omega)])); decide), if_neg (by unfold skimR; (repeat (first | rw [if_pos (by omega)] | rw [if_neg (by omega)])); decide)]
          rw [hw] at hP hD
          exact z_iret hQ hx hb hr hlocks hS ⟨(Nat.le_of_ble_eq_true rfl), (Nat.le_of_ble_eq_true rfl)⟩ dX12_skim_50 () (congrArg (fun z => some (Value.int (iI z))) (show (skimR (mi 2) (mi 1) z x pv (fhZ hz) : Int) = (-104) by unfold skimR; (repeat (first | rw [if_pos (by omega)] | rw [if_neg (by omega)])))) trivial hP hD
      · skip
        refine lv_bipush (v := iI (-103)) hx hb dX12_skim_30 (by decide) ?_
        have hw : zb [WMo o ma mi ml, WMp X ma pv, Wa X 2 (ma 10) 20 hz] = zb [WMo o ma mi ml, WMp X ma (skimV (mi 2) (mi 1) z x pv (fhZ hz)), Wa X 2 (ma 10) 20 (skimG (mi 2) (mi 1) z x pv hz)] := by unfold skimV skimG; rw [if_neg (by unfold skimR; (repeat (first | rw [if_pos (by omega)] | rw [if_neg (by omega)])); decide), if_neg (by unfold skimR; (repeat (first | rw [if_pos (by omega)] | rw [if_neg (by omega)])); decide)]
        rw [hw] at hP hD
        exact z_iret hQ hx hb hr hlocks hS ⟨(Nat.le_of_ble_eq_true rfl), (Nat.le_of_ble_eq_true rfl)⟩ dX12_skim_32 () (congrArg (fun z => some (Value.int (iI z))) (show (skimR (mi 2) (mi 1) z x pv (fhZ hz) : Int) = (-103) by unfold skimR; (repeat (first | rw [if_pos (by omega)] | rw [if_neg (by omega)])))) trivial hP hD
    · skip
      refine lv_bipush (v := iI (-101)) hx hb dX12_skim_16 (by decide) ?_
      have hw : zb [WMo o ma mi ml, WMp X ma pv, Wa X 2 (ma 10) 20 hz] = zb [WMo o ma mi ml, WMp X ma (skimV (mi 2) (mi 1) z x pv (fhZ hz)), Wa X 2 (ma 10) 20 (skimG (mi 2) (mi 1) z x pv hz)] := by unfold skimV skimG; rw [if_neg (by unfold skimR; (repeat (first | rw [if_pos (by omega)] | rw [if_neg (by omega)])); decide), if_neg (by unfold skimR; (repeat (first | rw [if_pos (by omega)] | rw [if_neg (by omega)])); decide)]
      rw [hw] at hP hD
      exact z_iret hQ hx hb hr hlocks hS ⟨(Nat.le_of_ble_eq_true rfl), (Nat.le_of_ble_eq_true rfl)⟩ dX12_skim_18 () (congrArg (fun z => some (Value.int (iI z))) (show (skimR (mi 2) (mi 1) z x pv (fhZ hz) : Int) = (-101) by unfold skimR; (repeat (first | rw [if_pos (by omega)] | rw [if_neg (by omega)])))) trivial hP hD
set_option maxHeartbeats 1000000 in
set_option maxRecDepth 100000 in
theorem c_X12_stir (l : Launch) (X : zX) (o : Nat) (ma : Nat → Nat) (mi : Nat → Int) (ml : Nat → Int) (pv : Nat → Nat → Int) (z : Int) (hn : 0 ≤ mi 1 ∧ mi 1 ≤ 3) (hpv : PanS pv) (hrz : -2147483648 ≤ z ∧ z < 2147483648) : zF l X yX12_stir wsX12_stir 2 43 [.ref o, .int (iI z)] (zb [WMo o ma mi ml, WMp X ma pv]) (some (.int (iI (stirR (mi 1) z pv)))) (zb [WMo o ma mi ml, WMp X ma (stirV (mi 1) z pv)]) := by
  refine z_enter (cc := cX12_stir) (maxL := 2) (ret := (some .int)) (by decide) rfl (Nat.le_of_ble_eq_true rfl) ?_
  intro p e s m below meth c A ls Q hQ hE hl hP hD
  obtain ⟨hx, hb, hr, hml, hown, hts, hlocks, hnm, hA, hK⟩ := hE
  have hown : s.vm.findClass RX12 = some m.cls := hown
  have hS : va_S A s.heap s.heap [] := va_S.rf
  have hl : lv_has ls 2 [(0, .ref o), (1, .int (iI z))] := hl
  have inX12 : ∀ w ∈ u_ws RX12 TX12 38, w ∈ wsX12_stir := by decide +kernel
  refine lv_aload_n hx hb dX12_stir_0 rfl (lv_at hl 0 rfl) ?_
  refine lv_iload_n hx hb dX12_stir_1 rfl (lv_at hl 1 rfl) ?_
  have hPm := zp_perm hP (zblk (show List.Perm ([WMo o ma mi ml, WMp X ma pv] : List va_W) ([WMo o ma mi ml] ++ [WMp X ma pv]) from (zf1 _ 0 _ rfl).trans ((List.Perm.refl _).cons _)))
  have hDm := zd_perm hD (zblk (show List.Perm ([WMo o ma mi ml, WMp X ma pv] : List va_W) ([WMo o ma mi ml] ++ [WMp X ma pv]) from (zf1 _ 0 _ rfl).trans ((List.Perm.refl _).cons _)))
  refine z_callV (wr := zb [WMp X ma pv]) (As := [.int (iI z)]) (rest := []) ⟨hx, hb, hml, hown, hts⟩ (c_X12_isPan l X o ma mi ml z (by omega) (by omega)) (cwV 1 hts gX12_stir_X12_isPan rfl rfl rfl (by decide +kernel) ⟨Nat.le_of_ble_eq_true rfl, Nat.le_of_ble_eq_true rfl⟩) rfl rfl hl.1 dX12_stir_2 rfl rfl (Nat.le_of_ble_eq_true rfl) ⟨(Nat.le_of_ble_eq_true rfl), (Nat.le_of_ble_eq_true rfl)⟩ hS hA hK hPm hDm (fun _ H locs _ hP hD hS => ?_)
  have hP := zp_perm hP ((zblk (show List.Perm ([WMo o ma mi ml, WMp X ma pv] : List va_W) ([WMo o ma mi ml] ++ [WMp X ma pv]) from (zf1 _ 0 _ rfl).trans ((List.Perm.refl _).cons _)))).symm
  have hD := zd_perm hD ((zblk (show List.Perm ([WMo o ma mi ml, WMp X ma pv] : List va_W) ([WMo o ma mi ml] ++ [WMp X ma pv]) from (zf1 _ 0 _ rfl).trans ((List.Perm.refl _).cons _)))).symm
  have hP : va_P X.1 vwCl (zb [WMo o ma mi ml, WMp X ma pv]) H := hP
  have hD : va_D A (zb [WMo o ma mi ml, WMp X ma pv]) := hD
  refine W.eq (g2 := F0 m 5 ls [.int (iI (if 0 ≤ z ∧ z < mi 1 then 1 else 0))]) rfl ?_
  refine z_if_ne (tgt := 11) hx hb (by omega) dX12_stir_5 (by decide) (fun c_1 => ?_) (fun c_1 => ?_)
  · skip
    obtain ⟨⟨h00, h01⟩, ⟨h10, h11⟩, h2, h3, h4, h5, h6⟩ := hpv z.toNat (by omega)
    refine lv_aload_n hx hb dX12_stir_11 rfl (lv_at hl 0 rfl) ?_
    refine va_get (ci := 12) (v := .ref (ma 4)) (C := RX12) (T := TX12) (N := 38) hx hb hts inX12 hown hK.1 hP 0 rfl rfl 4 (by decide) (hts (.fieldLink RX12 13 "SkimmedSonsModel" "fatOf" "[I") (by decide +kernel)) (fun _ h9 => h9) rfl dX12_stir_12 ?_
    refine lv_iload_n hx hb dX12_stir_15 rfl (lv_at hl 1 rfl) ?_
    refine lv_dup2_11 hx hb dX12_stir_16 rfl rfl ?_
    refine z_iald hx hb hK.1 hP 3 rfl (by omega) dX12_stir_17 ?_
    refine W.eq (g2 := F0 m 18 ls [.int (iI (pv z.toNat 2)), .int (iI z), .ref (ma 4)]) rfl ?_
    refine lv_aload_n hx hb dX12_stir_18 rfl (lv_at hl 0 rfl) ?_
    refine va_get (ci := 12) (v := .ref (ma 5)) (C := RX12) (T := TX12) (N := 38) hx hb hts inX12 hown hK.1 hP 0 rfl rfl 5 (by decide) (hts (.fieldLink RX12 16 "SkimmedSonsModel" "creamOf" "[I") (by decide +kernel)) (fun _ h9 => h9) rfl dX12_stir_19 ?_
    refine lv_iload_n hx hb dX12_stir_22 rfl (lv_at hl 1 rfl) ?_
    refine z_iald hx hb hK.1 hP 4 rfl (by omega) dX12_stir_23 ?_
    refine W.eq (g2 := F0 m 24 ls [.int (iI (pv z.toNat 3)), .int (iI (pv z.toNat 2)), .int (iI z), .ref (ma 4)]) rfl ?_
    refine lv_aload_n hx hb dX12_stir_24 rfl (lv_at hl 0 rfl) ?_
    refine va_get (ci := 12) (v := .ref (ma 6)) (C := RX12) (T := TX12) (N := 38) hx hb hts inX12 hown hK.1 hP 0 rfl rfl 6 (by decide) (hts (.fieldLink RX12 19 "SkimmedSonsModel" "filmOf" "[I") (by decide +kernel)) (fun _ h9 => h9) rfl dX12_stir_25 ?_
    refine lv_iload_n hx hb dX12_stir_28 rfl (lv_at hl 1 rfl) ?_
    refine z_iald hx hb hK.1 hP 5 rfl (by omega) dX12_stir_29 ?_
    refine W.eq (g2 := F0 m 30 ls [.int (iI (pv z.toNat 4)), .int (iI (pv z.toNat 3)), .int (iI (pv z.toNat 2)), .int (iI z), .ref (ma 4)]) rfl ?_
    refine z_iadd hx hb dX12_stir_30 ?_
    refine z_iadd hx hb dX12_stir_31 ?_
    refine z_topi (fun z_2 ez_2 => ?_)
    refine z_iast hx hb hK.1 hP hD hS 3 rfl (by omega) dX12_stir_32 (fun H locs hP hD hS => ?_)
    have hP : va_P X.1 vwCl (zb [WMo o ma mi ml, WMx X ma (fun j => pv j 0) (fun j => pv j 1) (updZ (fun j => pv j 2) z.toNat z_2) (fun j => pv j 3) (fun j => pv j 4) (fun j => pv j 5)]) H := hP
    have hD : va_D A (zb [WMo o ma mi ml, WMx X ma (fun j => pv j 0) (fun j => pv j 1) (updZ (fun j => pv j 2) z.toNat z_2) (fun j => pv j 3) (fun j => pv j 4) (fun j => pv j 5)]) := hD
    refine lv_aload_n hx hb dX12_stir_33 rfl (lv_at hl 0 rfl) ?_
    refine va_get (ci := 12) (v := .ref (ma 5)) (C := RX12) (T := TX12) (N := 38) hx hb hts inX12 hown hK.1 hP 0 rfl rfl 5 (by decide) (hts (.fieldLink RX12 16 "SkimmedSonsModel" "creamOf" "[I") (by decide +kernel)) (fun _ h9 => h9) rfl dX12_stir_34 ?_
    refine lv_iload_n hx hb dX12_stir_37 rfl (lv_at hl 1 rfl) ?_
    refine lv_iconst (v := iI 0) hx hb dX12_stir_38 (by decide) ?_
    refine z_iast hx hb hK.1 hP hD hS 4 rfl (by omega) dX12_stir_39 (fun H locs hP hD hS => ?_)
    have hP : va_P X.1 vwCl (zb [WMo o ma mi ml, WMx X ma (fun j => pv j 0) (fun j => pv j 1) (updZ (fun j => pv j 2) z.toNat z_2) (updZ (fun j => pv j 3) z.toNat 0) (fun j => pv j 4) (fun j => pv j 5)]) H := hP
    have hD : va_D A (zb [WMo o ma mi ml, WMx X ma (fun j => pv j 0) (fun j => pv j 1) (updZ (fun j => pv j 2) z.toNat z_2) (updZ (fun j => pv j 3) z.toNat 0) (fun j => pv j 4) (fun j => pv j 5)]) := hD
    refine lv_aload_n hx hb dX12_stir_40 rfl (lv_at hl 0 rfl) ?_
    refine va_get (ci := 12) (v := .ref (ma 6)) (C := RX12) (T := TX12) (N := 38) hx hb hts inX12 hown hK.1 hP 0 rfl rfl 6 (by decide) (hts (.fieldLink RX12 19 "SkimmedSonsModel" "filmOf" "[I") (by decide +kernel)) (fun _ h9 => h9) rfl dX12_stir_41 ?_
    refine lv_iload_n hx hb dX12_stir_44 rfl (lv_at hl 1 rfl) ?_
    refine lv_iconst (v := iI 0) hx hb dX12_stir_45 (by decide) ?_
    refine z_iast hx hb hK.1 hP hD hS 5 rfl (by omega) dX12_stir_46 (fun H locs hP hD hS => ?_)
    have hP : va_P X.1 vwCl (zb [WMo o ma mi ml, WMx X ma (fun j => pv j 0) (fun j => pv j 1) (updZ (fun j => pv j 2) z.toNat z_2) (updZ (fun j => pv j 3) z.toNat 0) (updZ (fun j => pv j 4) z.toNat 0) (fun j => pv j 5)]) H := hP
    have hD : va_D A (zb [WMo o ma mi ml, WMx X ma (fun j => pv j 0) (fun j => pv j 1) (updZ (fun j => pv j 2) z.toNat z_2) (updZ (fun j => pv j 3) z.toNat 0) (updZ (fun j => pv j 4) z.toNat 0) (fun j => pv j 5)]) := hD
    refine lv_aload_n hx hb dX12_stir_47 rfl (lv_at hl 0 rfl) ?_
    refine va_get (ci := 12) (v := .ref (ma 8)) (C := RX12) (T := TX12) (N := 38) hx hb hts inX12 hown hK.1 hP 0 rfl rfl 8 (by decide) (hts (.fieldLink RX12 25 "SkimmedSonsModel" "stillOf" "[I") (by decide +kernel)) (fun _ h9 => h9) rfl dX12_stir_48 ?_
    refine lv_iload_n hx hb dX12_stir_51 rfl (lv_at hl 1 rfl) ?_
    refine lv_iconst (v := iI 0) hx hb dX12_stir_52 (by decide) ?_
    refine z_iast hx hb hK.1 hP hD hS 2 rfl (by omega) dX12_stir_53 (fun H locs hP hD hS => ?_)
    have hP : va_P X.1 vwCl (zb [WMo o ma mi ml, WMx X ma (fun j => pv j 0) (updZ (fun j => pv j 1) z.toNat 0) (updZ (fun j => pv j 2) z.toNat z_2) (updZ (fun j => pv j 3) z.toNat 0) (updZ (fun j => pv j 4) z.toNat 0) (fun j => pv j 5)]) H := hP
    have hD : va_D A (zb [WMo o ma mi ml, WMx X ma (fun j => pv j 0) (updZ (fun j => pv j 1) z.toNat 0) (updZ (fun j => pv j 2) z.toNat z_2) (updZ (fun j => pv j 3) z.toNat 0) (updZ (fun j => pv j 4) z.toNat 0) (fun j => pv j 5)]) := hD
    refine lv_aload_n hx hb dX12_stir_54 rfl (lv_at hl 0 rfl) ?_
    refine va_get (ci := 12) (v := .ref (ma 4)) (C := RX12) (T := TX12) (N := 38) hx hb hts inX12 hown hK.1 hP 0 rfl rfl 4 (by decide) (hts (.fieldLink RX12 13 "SkimmedSonsModel" "fatOf" "[I") (by decide +kernel)) (fun _ h9 => h9) rfl dX12_stir_55 ?_
    refine lv_iload_n hx hb dX12_stir_58 rfl (lv_at hl 1 rfl) ?_
    refine z_iald hx hb hK.1 hP 3 rfl (by omega) dX12_stir_59 ?_
    refine W.eq (g2 := F0 m 60 ls [.int (iI z_2)]) (by simp only [updZ_same]) ?_
    have hw : zb [WMo o ma mi ml, WMx X ma (fun j => pv j 0) (updZ (fun j => pv j 1) z.toNat 0) (updZ (fun j => pv j 2) z.toNat z_2) (updZ (fun j => pv j 3) z.toNat 0) (updZ (fun j => pv j 4) z.toNat 0) (fun j => pv j 5)] = zb [WMo o ma mi ml, WMp X ma (stirV (mi 1) z pv)] := by unfold stirV; (repeat (first | rw [if_pos (by omega)] | rw [if_neg (by omega)])); first | done | (rw [WMx_up (pv := pv) (p := z.toNat) (v := mixP (pv z.toNat)) (fun j hj => by simp [updZ, hj]) (by refine ⟨?_, ?_, ?_, ?_, ?_, ?_⟩ <;> (try simp only [updZ_same, mixP, mkP_0, mkP_1, mkP_2, mkP_3, mkP_4, mkP_5]) <;> omega)]; done)
    rw [hw] at hP hD
    exact z_iret hQ hx hb hr hlocks hS ⟨(Nat.le_of_ble_eq_true rfl), (Nat.le_of_ble_eq_true rfl)⟩ dX12_stir_60 () (congrArg (fun z => some (Value.int (iI z))) (show (stirR (mi 1) z pv : Int) = z_2 by unfold stirR; (repeat (first | rw [if_pos (by omega)] | rw [if_neg (by omega)])); first | done | omega)) trivial hP hD
  · skip
    refine lv_bipush (v := iI (-101)) hx hb dX12_stir_8 (by decide) ?_
    have hw : zb [WMo o ma mi ml, WMp X ma pv] = zb [WMo o ma mi ml, WMp X ma (stirV (mi 1) z pv)] := by unfold stirV; (repeat (first | rw [if_pos (by omega)] | rw [if_neg (by omega)])); first | done | (rw [WMx_up (pv := pv) (p := z.toNat) (v := mixP (pv z.toNat)) (fun j hj => by simp [updZ, hj]) (by refine ⟨?_, ?_, ?_, ?_, ?_, ?_⟩ <;> (try simp only [updZ_same, mixP, mkP_0, mkP_1, mkP_2, mkP_3, mkP_4, mkP_5]) <;> omega)]; done)
    rw [hw] at hP hD
    exact z_iret hQ hx hb hr hlocks hS ⟨(Nat.le_of_ble_eq_true rfl), (Nat.le_of_ble_eq_true rfl)⟩ dX12_stir_10 () (congrArg (fun z => some (Value.int (iI z))) (show (stirR (mi 1) z pv : Int) = (-101) by unfold stirR; (repeat (first | rw [if_pos (by omega)] | rw [if_neg (by omega)])); first | done | omega)) trivial hP hD
set_option maxHeartbeats 1000000 in
set_option maxRecDepth 100000 in
theorem c_X12_pour (l : Launch) (X : zX) (o : Nat) (ma : Nat → Nat) (mi : Nat → Int) (ml : Nat → Int) (pv : Nat → Nat → Int) (z : Int) (x : Int) (y : Int) (hn : 0 ≤ mi 1 ∧ mi 1 ≤ 3) (hpv : PanS pv) (hrz : -2147483648 ≤ z ∧ z < 2147483648) (hrx : -2147483648 ≤ x ∧ x < 2147483648) (hry : -2147483648 ≤ y ∧ y < 2147483648) : zF l X yX12_pour wsX12_pour 2 43 [.ref o, .int (iI z), .int (iI x), .int (iI y)] (zb [WMo o ma mi ml, WMp X ma pv]) (some (.int (iI (pourR (mi 1) z x y pv)))) (zb [WMo o ma mi ml, WMp X ma (pourV (mi 1) z x y pv)]) := by
  refine z_enter (cc := cX12_pour) (maxL := 5) (ret := (some .int)) (by decide) rfl (Nat.le_of_ble_eq_true rfl) ?_
  intro p e s m below meth c A ls Q hQ hE hl hP hD
  obtain ⟨hx, hb, hr, hml, hown, hts, hlocks, hnm, hA, hK⟩ := hE
  have hown : s.vm.findClass RX12 = some m.cls := hown
  have hS : va_S A s.heap s.heap [] := va_S.rf
  have hl : lv_has ls 5 [(0, .ref o), (1, .int (iI z)), (2, .int (iI x)), (3, .int (iI y))] := hl
  have inX12 : ∀ w ∈ u_ws RX12 TX12 38, w ∈ wsX12_pour := by decide +kernel
  refine lv_aload_n hx hb dX12_pour_0 rfl (lv_at hl 0 rfl) ?_
  refine lv_iload_n hx hb dX12_pour_1 rfl (lv_at hl 1 rfl) ?_
  have hPm := zp_perm hP (zblk (show List.Perm ([WMo o ma mi ml, WMp X ma pv] : List va_W) ([WMo o ma mi ml] ++ [WMp X ma pv]) from (zf1 _ 0 _ rfl).trans ((List.Perm.refl _).cons _)))
  have hDm := zd_perm hD (zblk (show List.Perm ([WMo o ma mi ml, WMp X ma pv] : List va_W) ([WMo o ma mi ml] ++ [WMp X ma pv]) from (zf1 _ 0 _ rfl).trans ((List.Perm.refl _).cons _)))
  refine z_callV (wr := zb [WMp X ma pv]) (As := [.int (iI z)]) (rest := []) ⟨hx, hb, hml, hown, hts⟩ (c_X12_isPan l X o ma mi ml z (by omega) (by omega)) (cwV 1 hts gX12_pour_X12_isPan rfl rfl rfl (by decide +kernel) ⟨Nat.le_of_ble_eq_true rfl, Nat.le_of_ble_eq_true rfl⟩) rfl rfl hl.1 dX12_pour_2 rfl rfl (Nat.le_of_ble_eq_true rfl) ⟨(Nat.le_of_ble_eq_true rfl), (Nat.le_of_ble_eq_true rfl)⟩ hS hA hK hPm hDm (fun _ H locs _ hP hD hS => ?_)
  have hP := zp_perm hP ((zblk (show List.Perm ([WMo o ma mi ml, WMp X ma pv] : List va_W) ([WMo o ma mi ml] ++ [WMp X ma pv]) from (zf1 _ 0 _ rfl).trans ((List.Perm.refl _).cons _)))).symm
  have hD := zd_perm hD ((zblk (show List.Perm ([WMo o ma mi ml, WMp X ma pv] : List va_W) ([WMo o ma mi ml] ++ [WMp X ma pv]) from (zf1 _ 0 _ rfl).trans ((List.Perm.refl _).cons _)))).symm
  have hP : va_P X.1 vwCl (zb [WMo o ma mi ml, WMp X ma pv]) H := hP
  have hD : va_D A (zb [WMo o ma mi ml, WMp X ma pv]) := hD
  refine W.eq (g2 := F0 m 5 ls [.int (iI (if 0 ≤ z ∧ z < mi 1 then 1 else 0))]) rfl ?_
  refine z_if_ne (tgt := 11) hx hb (by omega) dX12_pour_5 (by decide) (fun c_1 => ?_) (fun c_1 => ?_)
  · skip
    refine lv_iload_n hx hb dX12_pour_11 rfl (lv_at hl 2 rfl) ?_
    refine lv_iconst (v := iI 0) hx hb dX12_pour_12 (by decide) ?_
    refine lv_bipush (v := iI 9) hx hb dX12_pour_13 (by decide) ?_
    have hPm := zp_perm hP (zblk (show List.Perm ([WMo o ma mi ml, WMp X ma pv] : List va_W) ([] ++ [WMo o ma mi ml, WMp X ma pv]) from List.Perm.refl _))
    have hDm := zd_perm hD (zblk (show List.Perm ([WMo o ma mi ml, WMp X ma pv] : List va_W) ([] ++ [WMo o ma mi ml, WMp X ma pv]) from List.Perm.refl _))
    refine z_callS (wr := zb [WMo o ma mi ml, WMp X ma pv]) (As := [.int (iI x), .int (iI 0), .int (iI 9)]) (rest := []) ⟨hx, hb, hml, hown, hts⟩ (c_X12_within l X x 0 9 (by omega)) (va_cwS 3 hts gX12_pour_X12_within rfl rfl rfl (by decide +kernel) ⟨Nat.le_of_ble_eq_true rfl, Nat.le_of_ble_eq_true rfl⟩) hl.1 dX12_pour_15 rfl rfl (Nat.le_of_ble_eq_true rfl) ⟨(Nat.le_of_ble_eq_true rfl), (Nat.le_of_ble_eq_true rfl)⟩ hS hA hK hPm hDm (fun _ H locs _ hP hD hS => ?_)
    have hP := zp_perm hP ((zblk (show List.Perm ([WMo o ma mi ml, WMp X ma pv] : List va_W) ([] ++ [WMo o ma mi ml, WMp X ma pv]) from List.Perm.refl _))).symm
    have hD := zd_perm hD ((zblk (show List.Perm ([WMo o ma mi ml, WMp X ma pv] : List va_W) ([] ++ [WMo o ma mi ml, WMp X ma pv]) from List.Perm.refl _))).symm
    have hP : va_P X.1 vwCl (zb [WMo o ma mi ml, WMp X ma pv]) H := hP
    have hD : va_D A (zb [WMo o ma mi ml, WMp X ma pv]) := hD
    refine W.eq (g2 := F0 m 18 ls [.int (iI (if 0 ≤ x ∧ x ≤ 9 then 1 else 0))]) rfl ?_
    refine z_if_eq (tgt := 31) hx hb (by omega) dX12_pour_18 (by decide) (fun c_2 => ?_) (fun c_2 => ?_)
    · skip
      refine lv_bipush (v := iI (-102)) hx hb dX12_pour_31 (by decide) ?_
      have hw : zb [WMo o ma mi ml, WMp X ma pv] = zb [WMo o ma mi ml, WMp X ma (pourV (mi 1) z x y pv)] := by unfold pourV allP; (repeat (first | rw [if_pos (by omega)] | rw [if_neg (by omega)])); first | done | (rw [WMx_up (pv := pv) (p := z.toNat) (v := pourP (pv z.toNat) x y) (fun j hj => by simp [updZ, hj]) (by refine ⟨?_, ?_, ?_, ?_, ?_, ?_⟩ <;> (try simp only [updZ_same, pourP, mkP_0, mkP_1, mkP_2, mkP_3, mkP_4, mkP_5]) <;> omega)]; done)
      rw [hw] at hP hD
      exact z_iret hQ hx hb hr hlocks hS ⟨(Nat.le_of_ble_eq_true rfl), (Nat.le_of_ble_eq_true rfl)⟩ dX12_pour_33 () (congrArg (fun z => some (Value.int (iI z))) (show (pourR (mi 1) z x y pv : Int) = (-102) by unfold pourR allP; (repeat (first | rw [if_pos (by omega)] | rw [if_neg (by omega)])); first | done | omega)) trivial hP hD
    · skip
      refine lv_iload_n hx hb dX12_pour_21 rfl (lv_at hl 3 rfl) ?_
      refine lv_iconst (v := iI 0) hx hb dX12_pour_22 (by decide) ?_
      refine lv_bipush (v := iI 9) hx hb dX12_pour_23 (by decide) ?_
      have hPm := zp_perm hP (zblk (show List.Perm ([WMo o ma mi ml, WMp X ma pv] : List va_W) ([] ++ [WMo o ma mi ml, WMp X ma pv]) from List.Perm.refl _))
      have hDm := zd_perm hD (zblk (show List.Perm ([WMo o ma mi ml, WMp X ma pv] : List va_W) ([] ++ [WMo o ma mi ml, WMp X ma pv]) from List.Perm.refl _))
      refine z_callS (wr := zb [WMo o ma mi ml, WMp X ma pv]) (As := [.int (iI y), .int (iI 0), .int (iI 9)]) (rest := []) ⟨hx, hb, hml, hown, hts⟩ (c_X12_within l X y 0 9 (by omega)) (va_cwS 3 hts gX12_pour_X12_within rfl rfl rfl (by decide +kernel) ⟨Nat.le_of_ble_eq_true rfl, Nat.le_of_ble_eq_true rfl⟩) hl.1 dX12_pour_25 rfl rfl (Nat.le_of_ble_eq_true rfl) ⟨(Nat.le_of_ble_eq_true rfl), (Nat.le_of_ble_eq_true rfl)⟩ hS hA hK hPm hDm (fun _ H locs _ hP hD hS => ?_)
      have hP := zp_perm hP ((zblk (show List.Perm ([WMo o ma mi ml, WMp X ma pv] : List va_W) ([] ++ [WMo o ma mi ml, WMp X ma pv]) from List.Perm.refl _))).symm
      have hD := zd_perm hD ((zblk (show List.Perm ([WMo o ma mi ml, WMp X ma pv] : List va_W) ([] ++ [WMo o ma mi ml, WMp X ma pv]) from List.Perm.refl _))).symm
      have hP : va_P X.1 vwCl (zb [WMo o ma mi ml, WMp X ma pv]) H := hP
      have hD : va_D A (zb [WMo o ma mi ml, WMp X ma pv]) := hD
      refine W.eq (g2 := F0 m 28 ls [.int (iI (if 0 ≤ y ∧ y ≤ 9 then 1 else 0))]) rfl ?_
      refine z_if_ne (tgt := 34) hx hb (by omega) dX12_pour_28 (by decide) (fun c_3 => ?_) (fun c_3 => ?_)
      · skip
        obtain ⟨⟨h00, h01⟩, ⟨h10, h11⟩, h2, h3, h4, h5, h6⟩ := hpv z.toNat (by omega)
        refine lv_aload_n hx hb dX12_pour_34 rfl (lv_at hl 0 rfl) ?_
        refine va_get (ci := 12) (v := .ref (ma 4)) (C := RX12) (T := TX12) (N := 38) hx hb hts inX12 hown hK.1 hP 0 rfl rfl 4 (by decide) (hts (.fieldLink RX12 13 "SkimmedSonsModel" "fatOf" "[I") (by decide +kernel)) (fun _ h9 => h9) rfl dX12_pour_35 ?_
        refine lv_iload_n hx hb dX12_pour_38 rfl (lv_at hl 1 rfl) ?_
        refine z_iald hx hb hK.1 hP 3 rfl (by omega) dX12_pour_39 ?_
        refine W.eq (g2 := F0 m 40 ls [.int (iI (pv z.toNat 2))]) rfl ?_
        refine lv_aload_n hx hb dX12_pour_40 rfl (lv_at hl 0 rfl) ?_
        refine va_get (ci := 12) (v := .ref (ma 5)) (C := RX12) (T := TX12) (N := 38) hx hb hts inX12 hown hK.1 hP 0 rfl rfl 5 (by decide) (hts (.fieldLink RX12 16 "SkimmedSonsModel" "creamOf" "[I") (by decide +kernel)) (fun _ h9 => h9) rfl dX12_pour_41 ?_
        refine lv_iload_n hx hb dX12_pour_44 rfl (lv_at hl 1 rfl) ?_
        refine z_iald hx hb hK.1 hP 4 rfl (by omega) dX12_pour_45 ?_
        refine W.eq (g2 := F0 m 46 ls [.int (iI (pv z.toNat 3)), .int (iI (pv z.toNat 2))]) rfl ?_
        refine z_iadd hx hb dX12_pour_46 ?_
        refine lv_aload_n hx hb dX12_pour_47 rfl (lv_at hl 0 rfl) ?_
        refine va_get (ci := 12) (v := .ref (ma 6)) (C := RX12) (T := TX12) (N := 38) hx hb hts inX12 hown hK.1 hP 0 rfl rfl 6 (by decide) (hts (.fieldLink RX12 19 "SkimmedSonsModel" "filmOf" "[I") (by decide +kernel)) (fun _ h9 => h9) rfl dX12_pour_48 ?_
        refine lv_iload_n hx hb dX12_pour_51 rfl (lv_at hl 1 rfl) ?_
        refine z_iald hx hb hK.1 hP 5 rfl (by omega) dX12_pour_52 ?_
        refine W.eq (g2 := F0 m 53 ls [.int (iI (pv z.toNat 4)), .int (iI ((pv z.toNat 2) + (pv z.toNat 3)))]) rfl ?_
        refine z_iadd hx hb dX12_pour_53 ?_
        refine lv_aload_n hx hb dX12_pour_54 rfl (lv_at hl 0 rfl) ?_
        refine va_get (ci := 12) (v := .ref (ma 7)) (C := RX12) (T := TX12) (N := 38) hx hb hts inX12 hown hK.1 hP 0 rfl rfl 7 (by decide) (hts (.fieldLink RX12 22 "SkimmedSonsModel" "blueOf" "[I") (by decide +kernel)) (fun _ h9 => h9) rfl dX12_pour_55 ?_
        refine lv_iload_n hx hb dX12_pour_58 rfl (lv_at hl 1 rfl) ?_
        refine z_iald hx hb hK.1 hP 6 rfl (by omega) dX12_pour_59 ?_
        refine W.eq (g2 := F0 m 60 ls [.int (iI (pv z.toNat 5)), .int (iI (((pv z.toNat 2) + (pv z.toNat 3)) + (pv z.toNat 4)))]) rfl ?_
        refine z_iadd hx hb dX12_pour_60 ?_
        refine lv_iload_n hx hb dX12_pour_61 rfl (lv_at hl 2 rfl) ?_
        refine z_iadd hx hb dX12_pour_62 ?_
        refine lv_iload_n hx hb dX12_pour_63 rfl (lv_at hl 3 rfl) ?_
        refine z_iadd hx hb dX12_pour_64 ?_
        refine z_topi (fun z_4 ez_4 => ?_)
        refine lv_istore (lv' := [(4, .int (iI z_4)), (0, .ref o), (1, .int (iI z)), (2, .int (iI x)), (3, .int (iI y))]) hx hb dX12_pour_65 hl (by decide) rfl (fun ls hl => ?_)
        refine lv_iload hx hb dX12_pour_67 (lv_at hl 0 rfl) ?_
        refine lv_bipush (v := iI 20) hx hb dX12_pour_69 (by decide) ?_
        refine z_icmp_le (tgt := 77) hx hb (by omega) dX12_pour_71 (by decide) (fun c_5 => ?_) (fun c_5 => ?_)
        · skip
          refine lv_aload_n hx hb dX12_pour_77 rfl (lv_at hl 1 rfl) ?_
          refine va_get (ci := 12) (v := .ref (ma 4)) (C := RX12) (T := TX12) (N := 38) hx hb hts inX12 hown hK.1 hP 0 rfl rfl 4 (by decide) (hts (.fieldLink RX12 13 "SkimmedSonsModel" "fatOf" "[I") (by decide +kernel)) (fun _ h9 => h9) rfl dX12_pour_78 ?_
          refine lv_iload_n hx hb dX12_pour_81 rfl (lv_at hl 2 rfl) ?_
          refine lv_dup2_11 hx hb dX12_pour_82 rfl rfl ?_
          refine z_iald hx hb hK.1 hP 3 rfl (by omega) dX12_pour_83 ?_
          refine W.eq (g2 := F0 m 84 ls [.int (iI (pv z.toNat 2)), .int (iI z), .ref (ma 4)]) rfl ?_
          refine lv_iload_n hx hb dX12_pour_84 rfl (lv_at hl 3 rfl) ?_
          refine z_iadd hx hb dX12_pour_85 ?_
          refine z_topi (fun z_6 ez_6 => ?_)
          refine z_iast hx hb hK.1 hP hD hS 3 rfl (by omega) dX12_pour_86 (fun H locs hP hD hS => ?_)
          have hP : va_P X.1 vwCl (zb [WMo o ma mi ml, WMx X ma (fun j => pv j 0) (fun j => pv j 1) (updZ (fun j => pv j 2) z.toNat z_6) (fun j => pv j 3) (fun j => pv j 4) (fun j => pv j 5)]) H := hP
          have hD : va_D A (zb [WMo o ma mi ml, WMx X ma (fun j => pv j 0) (fun j => pv j 1) (updZ (fun j => pv j 2) z.toNat z_6) (fun j => pv j 3) (fun j => pv j 4) (fun j => pv j 5)]) := hD
          refine lv_aload_n hx hb dX12_pour_87 rfl (lv_at hl 1 rfl) ?_
          refine va_get (ci := 12) (v := .ref (ma 7)) (C := RX12) (T := TX12) (N := 38) hx hb hts inX12 hown hK.1 hP 0 rfl rfl 7 (by decide) (hts (.fieldLink RX12 22 "SkimmedSonsModel" "blueOf" "[I") (by decide +kernel)) (fun _ h9 => h9) rfl dX12_pour_88 ?_
          refine lv_iload_n hx hb dX12_pour_91 rfl (lv_at hl 2 rfl) ?_
          refine lv_dup2_11 hx hb dX12_pour_92 rfl rfl ?_
          refine z_iald hx hb hK.1 hP 6 rfl (by omega) dX12_pour_93 ?_
          refine W.eq (g2 := F0 m 94 ls [.int (iI (pv z.toNat 5)), .int (iI z), .ref (ma 7)]) rfl ?_
          refine lv_iload_n hx hb dX12_pour_94 rfl (lv_at hl 4 rfl) ?_
          refine z_iadd hx hb dX12_pour_95 ?_
          refine z_topi (fun z_7 ez_7 => ?_)
          refine z_iast hx hb hK.1 hP hD hS 6 rfl (by omega) dX12_pour_96 (fun H locs hP hD hS => ?_)
          have hP : va_P X.1 vwCl (zb [WMo o ma mi ml, WMx X ma (fun j => pv j 0) (fun j => pv j 1) (updZ (fun j => pv j 2) z.toNat z_6) (fun j => pv j 3) (fun j => pv j 4) (updZ (fun j => pv j 5) z.toNat z_7)]) H := hP
          have hD : va_D A (zb [WMo o ma mi ml, WMx X ma (fun j => pv j 0) (fun j => pv j 1) (updZ (fun j => pv j 2) z.toNat z_6) (fun j => pv j 3) (fun j => pv j 4) (updZ (fun j => pv j 5) z.toNat z_7)]) := hD
          refine lv_aload_n hx hb dX12_pour_97 rfl (lv_at hl 1 rfl) ?_
          refine va_get (ci := 12) (v := .ref (ma 8)) (C := RX12) (T := TX12) (N := 38) hx hb hts inX12 hown hK.1 hP 0 rfl rfl 8 (by decide) (hts (.fieldLink RX12 25 "SkimmedSonsModel" "stillOf" "[I") (by decide +kernel)) (fun _ h9 => h9) rfl dX12_pour_98 ?_
          refine lv_iload_n hx hb dX12_pour_101 rfl (lv_at hl 2 rfl) ?_
          refine lv_iconst (v := iI 0) hx hb dX12_pour_102 (by decide) ?_
          refine z_iast hx hb hK.1 hP hD hS 2 rfl (by omega) dX12_pour_103 (fun H locs hP hD hS => ?_)
          have hP : va_P X.1 vwCl (zb [WMo o ma mi ml, WMx X ma (fun j => pv j 0) (updZ (fun j => pv j 1) z.toNat 0) (updZ (fun j => pv j 2) z.toNat z_6) (fun j => pv j 3) (fun j => pv j 4) (updZ (fun j => pv j 5) z.toNat z_7)]) H := hP
          have hD : va_D A (zb [WMo o ma mi ml, WMx X ma (fun j => pv j 0) (updZ (fun j => pv j 1) z.toNat 0) (updZ (fun j => pv j 2) z.toNat z_6) (fun j => pv j 3) (fun j => pv j 4) (updZ (fun j => pv j 5) z.toNat z_7)]) := hD
          refine lv_iload hx hb dX12_pour_104 (lv_at hl 0 rfl) ?_
          have hw : zb [WMo o ma mi ml, WMx X ma (fun j => pv j 0) (updZ (fun j => pv j 1) z.toNat 0) (updZ (fun j => pv j 2) z.toNat z_6) (fun j => pv j 3) (fun j => pv j 4) (updZ (fun j => pv j 5) z.toNat z_7)] = zb [WMo o ma mi ml, WMp X ma (pourV (mi 1) z x y pv)] := by unfold pourV allP; (repeat (first | rw [if_pos (by omega)] | rw [if_neg (by omega)])); first | done | (rw [WMx_up (pv := pv) (p := z.toNat) (v := pourP (pv z.toNat) x y) (fun j hj => by simp [updZ, hj]) (by refine ⟨?_, ?_, ?_, ?_, ?_, ?_⟩ <;> (try simp only [updZ_same, pourP, mkP_0, mkP_1, mkP_2, mkP_3, mkP_4, mkP_5]) <;> omega)]; done)
          rw [hw] at hP hD
          exact z_iret hQ hx hb hr hlocks hS ⟨(Nat.le_of_ble_eq_true rfl), (Nat.le_of_ble_eq_true rfl)⟩ dX12_pour_106 () (congrArg (fun z => some (Value.int (iI z))) (show (pourR (mi 1) z x y pv : Int) = z_4 by unfold pourR allP; (repeat (first | rw [if_pos (by omega)] | rw [if_neg (by omega)])); first | done | omega)) trivial hP hD
        · skip
          refine lv_bipush (v := iI (-104)) hx hb dX12_pour_74 (by decide) ?_
          have hw : zb [WMo o ma mi ml, WMp X ma pv] = zb [WMo o ma mi ml, WMp X ma (pourV (mi 1) z x y pv)] := by unfold pourV allP; (repeat (first | rw [if_pos (by omega)] | rw [if_neg (by omega)])); first | done | (rw [WMx_up (pv := pv) (p := z.toNat) (v := pourP (pv z.toNat) x y) (fun j hj => by simp [updZ, hj]) (by refine ⟨?_, ?_, ?_, ?_, ?_, ?_⟩ <;> (try simp only [updZ_same, pourP, mkP_0, mkP_1, mkP_2, mkP_3, mkP_4, mkP_5]) <;> omega)]; done)
          rw [hw] at hP hD
          exact z_iret hQ hx hb hr hlocks hS ⟨(Nat.le_of_ble_eq_true rfl), (Nat.le_of_ble_eq_true rfl)⟩ dX12_pour_76 () (congrArg (fun z => some (Value.int (iI z))) (show (pourR (mi 1) z x y pv : Int) = (-104) by unfold pourR allP; (repeat (first | rw [if_pos (by omega)] | rw [if_neg (by omega)])); first | done | omega)) trivial hP hD
      · skip
        refine lv_bipush (v := iI (-102)) hx hb dX12_pour_31 (by decide) ?_
        have hw : zb [WMo o ma mi ml, WMp X ma pv] = zb [WMo o ma mi ml, WMp X ma (pourV (mi 1) z x y pv)] := by unfold pourV allP; (repeat (first | rw [if_pos (by omega)] | rw [if_neg (by omega)])); first | done | (rw [WMx_up (pv := pv) (p := z.toNat) (v := pourP (pv z.toNat) x y) (fun j hj => by simp [updZ, hj]) (by refine ⟨?_, ?_, ?_, ?_, ?_, ?_⟩ <;> (try simp only [updZ_same, pourP, mkP_0, mkP_1, mkP_2, mkP_3, mkP_4, mkP_5]) <;> omega)]; done)
        rw [hw] at hP hD
        exact z_iret hQ hx hb hr hlocks hS ⟨(Nat.le_of_ble_eq_true rfl), (Nat.le_of_ble_eq_true rfl)⟩ dX12_pour_33 () (congrArg (fun z => some (Value.int (iI z))) (show (pourR (mi 1) z x y pv : Int) = (-102) by unfold pourR allP; (repeat (first | rw [if_pos (by omega)] | rw [if_neg (by omega)])); first | done | omega)) trivial hP hD
  · skip
    refine lv_bipush (v := iI (-101)) hx hb dX12_pour_8 (by decide) ?_
    have hw : zb [WMo o ma mi ml, WMp X ma pv] = zb [WMo o ma mi ml, WMp X ma (pourV (mi 1) z x y pv)] := by unfold pourV allP; (repeat (first | rw [if_pos (by omega)] | rw [if_neg (by omega)])); first | done | (rw [WMx_up (pv := pv) (p := z.toNat) (v := pourP (pv z.toNat) x y) (fun j hj => by simp [updZ, hj]) (by refine ⟨?_, ?_, ?_, ?_, ?_, ?_⟩ <;> (try simp only [updZ_same, pourP, mkP_0, mkP_1, mkP_2, mkP_3, mkP_4, mkP_5]) <;> omega)]; done)
    rw [hw] at hP hD
    exact z_iret hQ hx hb hr hlocks hS ⟨(Nat.le_of_ble_eq_true rfl), (Nat.le_of_ble_eq_true rfl)⟩ dX12_pour_10 () (congrArg (fun z => some (Value.int (iI z))) (show (pourR (mi 1) z x y pv : Int) = (-101) by unfold pourR allP; (repeat (first | rw [if_pos (by omega)] | rw [if_neg (by omega)])); first | done | omega)) trivial hP hD
set_option maxHeartbeats 1000000 in
set_option maxRecDepth 100000 in
theorem c_X12_see (l : Launch) (X : zX) (o : Nat) (ma : Nat → Nat) (mi : Nat → Int) (ml : Nat → Int) (s1 : Nat → Int) (s2 : Nat → Int) (s3 : Nat → Int) (z : Int) (x : Int) (y : Int) (hn : 0 ≤ mi 1 ∧ mi 1 ≤ 3) (hsn : 0 ≤ mi 13 ∧ mi 13 ≤ 6) (hrz : -2147483648 ≤ z ∧ z < 2147483648) (hrx : -2147483648 ≤ x ∧ x < 2147483648) (hry : -2147483648 ≤ y ∧ y < 2147483648) : zF l X yX12_see wsX12_see 2 43 [.ref o, .int (iI z), .int (iI x), .int (iI y)] (zb [WMo o ma mi ml, Wa X 2 (ma 14) 6 s1, Wa X 2 (ma 15) 6 s2, Wa X 2 (ma 16) 6 s3]) (some (.int (iI (seeR (mi 1) z x y (mi 13))))) (zb [WMo o ma (updZ mi 13 (seeN (mi 1) z x y (mi 13))) ml, Wa X 2 (ma 14) 6 (seeF (mi 1) z x y (mi 13) z s1), Wa X 2 (ma 15) 6 (seeF (mi 1) z x y (mi 13) x s2), Wa X 2 (ma 16) 6 (seeF (mi 1) z x y (mi 13) y s3)]) := by
  refine z_enter (cc := cX12_see) (maxL := 4) (ret := (some .int)) (by decide) rfl (Nat.le_of_ble_eq_true rfl) ?_
  intro p e s m below meth c A ls Q hQ hE hl hP hD
  obtain ⟨hx, hb, hr, hml, hown, hts, hlocks, hnm, hA, hK⟩ := hE
  have hown : s.vm.findClass RX12 = some m.cls := hown
  have hS : va_S A s.heap s.heap [] := va_S.rf
  have hl : lv_has ls 4 [(0, .ref o), (1, .int (iI z)), (2, .int (iI x)), (3, .int (iI y))] := hl
  have inX12 : ∀ w ∈ u_ws RX12 TX12 38, w ∈ wsX12_see := by decide +kernel
  refine lv_aload_n hx hb dX12_see_0 rfl (lv_at hl 0 rfl) ?_
  refine lv_iload_n hx hb dX12_see_1 rfl (lv_at hl 1 rfl) ?_
  have hPm := zp_perm hP (zblk (show List.Perm ([WMo o ma mi ml, Wa X 2 (ma 14) 6 s1, Wa X 2 (ma 15) 6 s2, Wa X 2 (ma 16) 6 s3] : List va_W) ([WMo o ma mi ml] ++ [Wa X 2 (ma 14) 6 s1, Wa X 2 (ma 15) 6 s2, Wa X 2 (ma 16) 6 s3]) from (zf1 _ 0 _ rfl).trans ((List.Perm.refl _).cons _)))
  have hDm := zd_perm hD (zblk (show List.Perm ([WMo o ma mi ml, Wa X 2 (ma 14) 6 s1, Wa X 2 (ma 15) 6 s2, Wa X 2 (ma 16) 6 s3] : List va_W) ([WMo o ma mi ml] ++ [Wa X 2 (ma 14) 6 s1, Wa X 2 (ma 15) 6 s2, Wa X 2 (ma 16) 6 s3]) from (zf1 _ 0 _ rfl).trans ((List.Perm.refl _).cons _)))
  refine z_callV (wr := zb [Wa X 2 (ma 14) 6 s1, Wa X 2 (ma 15) 6 s2, Wa X 2 (ma 16) 6 s3]) (As := [.int (iI z)]) (rest := []) ⟨hx, hb, hml, hown, hts⟩ (c_X12_isPan l X o ma mi ml z (by omega) (by omega)) (cwV 1 hts gX12_see_X12_isPan rfl rfl rfl (by decide +kernel) ⟨Nat.le_of_ble_eq_true rfl, Nat.le_of_ble_eq_true rfl⟩) rfl rfl hl.1 dX12_see_2 rfl rfl (Nat.le_of_ble_eq_true rfl) ⟨(Nat.le_of_ble_eq_true rfl), (Nat.le_of_ble_eq_true rfl)⟩ hS hA hK hPm hDm (fun _ H locs _ hP hD hS => ?_)
  have hP := zp_perm hP ((zblk (show List.Perm ([WMo o ma mi ml, Wa X 2 (ma 14) 6 s1, Wa X 2 (ma 15) 6 s2, Wa X 2 (ma 16) 6 s3] : List va_W) ([WMo o ma mi ml] ++ [Wa X 2 (ma 14) 6 s1, Wa X 2 (ma 15) 6 s2, Wa X 2 (ma 16) 6 s3]) from (zf1 _ 0 _ rfl).trans ((List.Perm.refl _).cons _)))).symm
  have hD := zd_perm hD ((zblk (show List.Perm ([WMo o ma mi ml, Wa X 2 (ma 14) 6 s1, Wa X 2 (ma 15) 6 s2, Wa X 2 (ma 16) 6 s3] : List va_W) ([WMo o ma mi ml] ++ [Wa X 2 (ma 14) 6 s1, Wa X 2 (ma 15) 6 s2, Wa X 2 (ma 16) 6 s3]) from (zf1 _ 0 _ rfl).trans ((List.Perm.refl _).cons _)))).symm
  have hP : va_P X.1 vwCl (zb [WMo o ma mi ml, Wa X 2 (ma 14) 6 s1, Wa X 2 (ma 15) 6 s2, Wa X 2 (ma 16) 6 s3]) H := hP
  have hD : va_D A (zb [WMo o ma mi ml, Wa X 2 (ma 14) 6 s1, Wa X 2 (ma 15) 6 s2, Wa X 2 (ma 16) 6 s3]) := hD
  refine W.eq (g2 := F0 m 5 ls [.int (iI (if 0 ≤ z ∧ z < mi 1 then 1 else 0))]) rfl ?_
  refine z_if_ne (tgt := 11) hx hb (by omega) dX12_see_5 (by decide) (fun c_1 => ?_) (fun c_1 => ?_)
  · skip
    refine lv_iload_n hx hb dX12_see_11 rfl (lv_at hl 2 rfl) ?_
    refine lv_iconst (v := iI 1) hx hb dX12_see_12 (by decide) ?_
    refine lv_bipush (v := iI 12) hx hb dX12_see_13 (by decide) ?_
    have hPm := zp_perm hP (zblk (show List.Perm ([WMo o ma mi ml, Wa X 2 (ma 14) 6 s1, Wa X 2 (ma 15) 6 s2, Wa X 2 (ma 16) 6 s3] : List va_W) ([] ++ [WMo o ma mi ml, Wa X 2 (ma 14) 6 s1, Wa X 2 (ma 15) 6 s2, Wa X 2 (ma 16) 6 s3]) from List.Perm.refl _))
    have hDm := zd_perm hD (zblk (show List.Perm ([WMo o ma mi ml, Wa X 2 (ma 14) 6 s1, Wa X 2 (ma 15) 6 s2, Wa X 2 (ma 16) 6 s3] : List va_W) ([] ++ [WMo o ma mi ml, Wa X 2 (ma 14) 6 s1, Wa X 2 (ma 15) 6 s2, Wa X 2 (ma 16) 6 s3]) from List.Perm.refl _))
    refine z_callS (wr := zb [WMo o ma mi ml, Wa X 2 (ma 14) 6 s1, Wa X 2 (ma 15) 6 s2, Wa X 2 (ma 16) 6 s3]) (As := [.int (iI x), .int (iI 1), .int (iI 12)]) (rest := []) ⟨hx, hb, hml, hown, hts⟩ (c_X12_within l X x 1 12 (by omega)) (va_cwS 3 hts gX12_see_X12_within rfl rfl rfl (by decide +kernel) ⟨Nat.le_of_ble_eq_true rfl, Nat.le_of_ble_eq_true rfl⟩) hl.1 dX12_see_15 rfl rfl (Nat.le_of_ble_eq_true rfl) ⟨(Nat.le_of_ble_eq_true rfl), (Nat.le_of_ble_eq_true rfl)⟩ hS hA hK hPm hDm (fun _ H locs _ hP hD hS => ?_)
    have hP := zp_perm hP ((zblk (show List.Perm ([WMo o ma mi ml, Wa X 2 (ma 14) 6 s1, Wa X 2 (ma 15) 6 s2, Wa X 2 (ma 16) 6 s3] : List va_W) ([] ++ [WMo o ma mi ml, Wa X 2 (ma 14) 6 s1, Wa X 2 (ma 15) 6 s2, Wa X 2 (ma 16) 6 s3]) from List.Perm.refl _))).symm
    have hD := zd_perm hD ((zblk (show List.Perm ([WMo o ma mi ml, Wa X 2 (ma 14) 6 s1, Wa X 2 (ma 15) 6 s2, Wa X 2 (ma 16) 6 s3] : List va_W) ([] ++ [WMo o ma mi ml, Wa X 2 (ma 14) 6 s1, Wa X 2 (ma 15) 6 s2, Wa X 2 (ma 16) 6 s3]) from List.Perm.refl _))).symm
    have hP : va_P X.1 vwCl (zb [WMo o ma mi ml, Wa X 2 (ma 14) 6 s1, Wa X 2 (ma 15) 6 s2, Wa X 2 (ma 16) 6 s3]) H := hP
    have hD : va_D A (zb [WMo o ma mi ml, Wa X 2 (ma 14) 6 s1, Wa X 2 (ma 15) 6 s2, Wa X 2 (ma 16) 6 s3]) := hD
    refine W.eq (g2 := F0 m 18 ls [.int (iI (if 1 ≤ x ∧ x ≤ 12 then 1 else 0))]) rfl ?_
    refine z_if_eq (tgt := 31) hx hb (by omega) dX12_see_18 (by decide) (fun c_2 => ?_) (fun c_2 => ?_)
    · skip
      refine lv_bipush (v := iI (-102)) hx hb dX12_see_31 (by decide) ?_
      have hw : zb [WMo o ma mi ml, Wa X 2 (ma 14) 6 s1, Wa X 2 (ma 15) 6 s2, Wa X 2 (ma 16) 6 s3] = zb [WMo o ma (updZ mi 13 (seeN (mi 1) z x y (mi 13))) ml, Wa X 2 (ma 14) 6 (seeF (mi 1) z x y (mi 13) z s1), Wa X 2 (ma 15) 6 (seeF (mi 1) z x y (mi 13) x s2), Wa X 2 (ma 16) 6 (seeF (mi 1) z x y (mi 13) y s3)] := by unfold seeN seeF; first | (rw [if_pos (by unfold seeR; (repeat (first | rw [if_pos (by omega)] | rw [if_neg (by omega)])); omega), if_pos (by unfold seeR; (repeat (first | rw [if_pos (by omega)] | rw [if_neg (by omega)])); omega), if_pos (by unfold seeR; (repeat (first | rw [if_pos (by omega)] | rw [if_neg (by omega)])); omega), if_pos (by unfold seeR; (repeat (first | rw [if_pos (by omega)] | rw [if_neg (by omega)])); omega)]; subst_vars; rfl) | (rw [if_neg (by unfold seeR; (repeat (first | rw [if_pos (by omega)] | rw [if_neg (by omega)])); decide), if_neg (by unfold seeR; (repeat (first | rw [if_pos (by omega)] | rw [if_neg (by omega)])); decide), if_neg (by unfold seeR; (repeat (first | rw [if_pos (by omega)] | rw [if_neg (by omega)])); decide), if_neg (by unfold seeR; (repeat (first | rw [if_pos (by omega)] | rw [if_neg (by omega)])); decide), updZ_id]; done)
      rw [hw] at hP hD
      exact z_iret hQ hx hb hr hlocks hS ⟨(Nat.le_of_ble_eq_true rfl), (Nat.le_of_ble_eq_true rfl)⟩ dX12_see_33 () (congrArg (fun z => some (Value.int (iI z))) (show (seeR (mi 1) z x y (mi 13) : Int) = (-102) by unfold seeR; (repeat (first | rw [if_pos (by omega)] | rw [if_neg (by omega)])); first | done | omega)) trivial hP hD
    · skip
      refine lv_iload_n hx hb dX12_see_21 rfl (lv_at hl 3 rfl) ?_
      refine lv_iconst (v := iI 0) hx hb dX12_see_22 (by decide) ?_
      refine lv_bipush (v := iI 40) hx hb dX12_see_23 (by decide) ?_
      have hPm := zp_perm hP (zblk (show List.Perm ([WMo o ma mi ml, Wa X 2 (ma 14) 6 s1, Wa X 2 (ma 15) 6 s2, Wa X 2 (ma 16) 6 s3] : List va_W) ([] ++ [WMo o ma mi ml, Wa X 2 (ma 14) 6 s1, Wa X 2 (ma 15) 6 s2, Wa X 2 (ma 16) 6 s3]) from List.Perm.refl _))
      have hDm := zd_perm hD (zblk (show List.Perm ([WMo o ma mi ml, Wa X 2 (ma 14) 6 s1, Wa X 2 (ma 15) 6 s2, Wa X 2 (ma 16) 6 s3] : List va_W) ([] ++ [WMo o ma mi ml, Wa X 2 (ma 14) 6 s1, Wa X 2 (ma 15) 6 s2, Wa X 2 (ma 16) 6 s3]) from List.Perm.refl _))
      refine z_callS (wr := zb [WMo o ma mi ml, Wa X 2 (ma 14) 6 s1, Wa X 2 (ma 15) 6 s2, Wa X 2 (ma 16) 6 s3]) (As := [.int (iI y), .int (iI 0), .int (iI 40)]) (rest := []) ⟨hx, hb, hml, hown, hts⟩ (c_X12_within l X y 0 40 (by omega)) (va_cwS 3 hts gX12_see_X12_within rfl rfl rfl (by decide +kernel) ⟨Nat.le_of_ble_eq_true rfl, Nat.le_of_ble_eq_true rfl⟩) hl.1 dX12_see_25 rfl rfl (Nat.le_of_ble_eq_true rfl) ⟨(Nat.le_of_ble_eq_true rfl), (Nat.le_of_ble_eq_true rfl)⟩ hS hA hK hPm hDm (fun _ H locs _ hP hD hS => ?_)
      have hP := zp_perm hP ((zblk (show List.Perm ([WMo o ma mi ml, Wa X 2 (ma 14) 6 s1, Wa X 2 (ma 15) 6 s2, Wa X 2 (ma 16) 6 s3] : List va_W) ([] ++ [WMo o ma mi ml, Wa X 2 (ma 14) 6 s1, Wa X 2 (ma 15) 6 s2, Wa X 2 (ma 16) 6 s3]) from List.Perm.refl _))).symm
      have hD := zd_perm hD ((zblk (show List.Perm ([WMo o ma mi ml, Wa X 2 (ma 14) 6 s1, Wa X 2 (ma 15) 6 s2, Wa X 2 (ma 16) 6 s3] : List va_W) ([] ++ [WMo o ma mi ml, Wa X 2 (ma 14) 6 s1, Wa X 2 (ma 15) 6 s2, Wa X 2 (ma 16) 6 s3]) from List.Perm.refl _))).symm
      have hP : va_P X.1 vwCl (zb [WMo o ma mi ml, Wa X 2 (ma 14) 6 s1, Wa X 2 (ma 15) 6 s2, Wa X 2 (ma 16) 6 s3]) H := hP
      have hD : va_D A (zb [WMo o ma mi ml, Wa X 2 (ma 14) 6 s1, Wa X 2 (ma 15) 6 s2, Wa X 2 (ma 16) 6 s3]) := hD
      refine W.eq (g2 := F0 m 28 ls [.int (iI (if 0 ≤ y ∧ y ≤ 40 then 1 else 0))]) rfl ?_
      refine z_if_ne (tgt := 34) hx hb (by omega) dX12_see_28 (by decide) (fun c_3 => ?_) (fun c_3 => ?_)
      · skip
        refine lv_aload_n hx hb dX12_see_34 rfl (lv_at hl 0 rfl) ?_
        refine va_get (ci := 12) (v := .int (iI (mi 13))) (C := RX12) (T := TX12) (N := 38) hx hb hts inX12 hown hK.1 hP 0 rfl rfl 13 (by decide) (hts (.fieldLink RX12 131 "SkimmedSonsModel" "seen" "I") (by decide +kernel)) (fun _ h9 => h9) rfl dX12_see_35 ?_
        refine lv_bipush (v := iI 6) hx hb dX12_see_38 (by decide) ?_
        refine z_icmp_ne (tgt := 46) hx hb (by omega) dX12_see_40 (by decide) (fun c_4 => ?_) (fun c_4 => ?_)
        · skip
          refine lv_aload_n hx hb dX12_see_46 rfl (lv_at hl 0 rfl) ?_
          refine va_get (ci := 12) (v := .ref (ma 14)) (C := RX12) (T := TX12) (N := 38) hx hb hts inX12 hown hK.1 hP 0 rfl rfl 14 (by decide) (hts (.fieldLink RX12 34 "SkimmedSonsModel" "seenPan" "[I") (by decide +kernel)) (fun _ h9 => h9) rfl dX12_see_47 ?_
          refine lv_aload_n hx hb dX12_see_50 rfl (lv_at hl 0 rfl) ?_
          refine va_get (ci := 12) (v := .int (iI (mi 13))) (C := RX12) (T := TX12) (N := 38) hx hb hts inX12 hown hK.1 hP 0 rfl rfl 13 (by decide) (hts (.fieldLink RX12 131 "SkimmedSonsModel" "seen" "I") (by decide +kernel)) (fun _ h9 => h9) rfl dX12_see_51 ?_
          refine lv_iload_n hx hb dX12_see_54 rfl (lv_at hl 1 rfl) ?_
          refine z_iast hx hb hK.1 hP hD hS 1 rfl (by omega) dX12_see_55 (fun H locs hP hD hS => ?_)
          have hP : va_P X.1 vwCl (zb [WMo o ma mi ml, Wa X 2 (ma 14) 6 (updZ s1 ((mi 13).toNat) z), Wa X 2 (ma 15) 6 s2, Wa X 2 (ma 16) 6 s3]) H := hP
          have hD : va_D A (zb [WMo o ma mi ml, Wa X 2 (ma 14) 6 (updZ s1 ((mi 13).toNat) z), Wa X 2 (ma 15) 6 s2, Wa X 2 (ma 16) 6 s3]) := hD
          refine lv_aload_n hx hb dX12_see_56 rfl (lv_at hl 0 rfl) ?_
          refine va_get (ci := 12) (v := .ref (ma 15)) (C := RX12) (T := TX12) (N := 38) hx hb hts inX12 hown hK.1 hP 0 rfl rfl 15 (by decide) (hts (.fieldLink RX12 37 "SkimmedSonsModel" "seenHours" "[I") (by decide +kernel)) (fun _ h9 => h9) rfl dX12_see_57 ?_
          refine lv_aload_n hx hb dX12_see_60 rfl (lv_at hl 0 rfl) ?_
          refine va_get (ci := 12) (v := .int (iI (mi 13))) (C := RX12) (T := TX12) (N := 38) hx hb hts inX12 hown hK.1 hP 0 rfl rfl 13 (by decide) (hts (.fieldLink RX12 131 "SkimmedSonsModel" "seen" "I") (by decide +kernel)) (fun _ h9 => h9) rfl dX12_see_61 ?_
          refine lv_iload_n hx hb dX12_see_64 rfl (lv_at hl 2 rfl) ?_
          refine z_iast hx hb hK.1 hP hD hS 2 rfl (by omega) dX12_see_65 (fun H locs hP hD hS => ?_)
          have hP : va_P X.1 vwCl (zb [WMo o ma mi ml, Wa X 2 (ma 14) 6 (updZ s1 ((mi 13).toNat) z), Wa X 2 (ma 15) 6 (updZ s2 ((mi 13).toNat) x), Wa X 2 (ma 16) 6 s3]) H := hP
          have hD : va_D A (zb [WMo o ma mi ml, Wa X 2 (ma 14) 6 (updZ s1 ((mi 13).toNat) z), Wa X 2 (ma 15) 6 (updZ s2 ((mi 13).toNat) x), Wa X 2 (ma 16) 6 s3]) := hD
          refine lv_aload_n hx hb dX12_see_66 rfl (lv_at hl 0 rfl) ?_
          refine va_get (ci := 12) (v := .ref (ma 16)) (C := RX12) (T := TX12) (N := 38) hx hb hts inX12 hown hK.1 hP 0 rfl rfl 16 (by decide) (hts (.fieldLink RX12 40 "SkimmedSonsModel" "seenMuch" "[I") (by decide +kernel)) (fun _ h9 => h9) rfl dX12_see_67 ?_
          refine lv_aload_n hx hb dX12_see_70 rfl (lv_at hl 0 rfl) ?_
          refine va_get (ci := 12) (v := .int (iI (mi 13))) (C := RX12) (T := TX12) (N := 38) hx hb hts inX12 hown hK.1 hP 0 rfl rfl 13 (by decide) (hts (.fieldLink RX12 131 "SkimmedSonsModel" "seen" "I") (by decide +kernel)) (fun _ h9 => h9) rfl dX12_see_71 ?_
          refine lv_iload_n hx hb dX12_see_74 rfl (lv_at hl 3 rfl) ?_
          refine z_iast hx hb hK.1 hP hD hS 3 rfl (by omega) dX12_see_75 (fun H locs hP hD hS => ?_)
          have hP : va_P X.1 vwCl (zb [WMo o ma mi ml, Wa X 2 (ma 14) 6 (updZ s1 ((mi 13).toNat) z), Wa X 2 (ma 15) 6 (updZ s2 ((mi 13).toNat) x), Wa X 2 (ma 16) 6 (updZ s3 ((mi 13).toNat) y)]) H := hP
          have hD : va_D A (zb [WMo o ma mi ml, Wa X 2 (ma 14) 6 (updZ s1 ((mi 13).toNat) z), Wa X 2 (ma 15) 6 (updZ s2 ((mi 13).toNat) x), Wa X 2 (ma 16) 6 (updZ s3 ((mi 13).toNat) y)]) := hD
          refine lv_aload_n hx hb dX12_see_76 rfl (lv_at hl 0 rfl) ?_
          refine lv_dup hx hb dX12_see_77 rfl ?_
          refine va_get (ci := 12) (v := .int (iI (mi 13))) (C := RX12) (T := TX12) (N := 38) hx hb hts inX12 hown hK.1 hP 0 rfl rfl 13 (by decide) (hts (.fieldLink RX12 131 "SkimmedSonsModel" "seen" "I") (by decide +kernel)) (fun _ h9 => h9) rfl dX12_see_78 ?_
          refine lv_iconst (v := iI 1) hx hb dX12_see_81 (by decide) ?_
          refine z_iadd hx hb dX12_see_82 ?_
          refine z_topi (fun z_5 ez_5 => ?_)
          refine va_put (ci := 12) (v := .int (iI z_5)) (ty := .int) (C := RX12) (T := TX12) (N := 38) hx hb hts inX12 tyX12 tyX12_ok nmX12 hown hK.1 hP hD hS 0 rfl rfl 13 (by decide) (hts (.fieldLink RX12 131 "SkimmedSonsModel" "seen" "I") (by decide +kernel)) (fun _ h9 => h9) rfl (by decide +kernel) rfl rfl (Nat.le_of_ble_eq_true rfl) dX12_see_83 (fun H locs hP hD hS => ?_)
          have hP : va_P X.1 vwCl (zb [WMo o ma (updZ mi 13 z_5) ml, Wa X 2 (ma 14) 6 (updZ s1 ((mi 13).toNat) z), Wa X 2 (ma 15) 6 (updZ s2 ((mi 13).toNat) x), Wa X 2 (ma 16) 6 (updZ s3 ((mi 13).toNat) y)]) H := hP
          have hD : va_D A (zb [WMo o ma (updZ mi 13 z_5) ml, Wa X 2 (ma 14) 6 (updZ s1 ((mi 13).toNat) z), Wa X 2 (ma 15) 6 (updZ s2 ((mi 13).toNat) x), Wa X 2 (ma 16) 6 (updZ s3 ((mi 13).toNat) y)]) := hD
          refine lv_aload_n hx hb dX12_see_86 rfl (lv_at hl 0 rfl) ?_
          refine va_get (ci := 12) (v := .int (iI z_5)) (C := RX12) (T := TX12) (N := 38) hx hb hts inX12 hown hK.1 hP 0 rfl rfl 13 (by decide) (hts (.fieldLink RX12 131 "SkimmedSonsModel" "seen" "I") (by decide +kernel)) (fun _ h9 => h9) rfl dX12_see_87 ?_
          have hw : zb [WMo o ma (updZ mi 13 z_5) ml, Wa X 2 (ma 14) 6 (updZ s1 ((mi 13).toNat) z), Wa X 2 (ma 15) 6 (updZ s2 ((mi 13).toNat) x), Wa X 2 (ma 16) 6 (updZ s3 ((mi 13).toNat) y)] = zb [WMo o ma (updZ mi 13 (seeN (mi 1) z x y (mi 13))) ml, Wa X 2 (ma 14) 6 (seeF (mi 1) z x y (mi 13) z s1), Wa X 2 (ma 15) 6 (seeF (mi 1) z x y (mi 13) x s2), Wa X 2 (ma 16) 6 (seeF (mi 1) z x y (mi 13) y s3)] := by unfold seeN seeF; first | (rw [if_pos (by unfold seeR; (repeat (first | rw [if_pos (by omega)] | rw [if_neg (by omega)])); omega), if_pos (by unfold seeR; (repeat (first | rw [if_pos (by omega)] | rw [if_neg (by omega)])); omega), if_pos (by unfold seeR; (repeat (first | rw [if_pos (by omega)] | rw [if_neg (by omega)])); omega), if_pos (by unfold seeR; (repeat (first | rw [if_pos (by omega)] | rw [if_neg (by omega)])); omega)]; subst_vars; rfl) | (rw [if_neg (by unfold seeR; (repeat (first | rw [if_pos (by omega)] | rw [if_neg (by omega)])); decide), if_neg (by unfold seeR; (repeat (first | rw [if_pos (by omega)] | rw [if_neg (by omega)])); decide), if_neg (by unfold seeR; (repeat (first | rw [if_pos (by omega)] | rw [if_neg (by omega)])); decide), if_neg (by unfold seeR; (repeat (first | rw [if_pos (by omega)] | rw [if_neg (by omega)])); decide), updZ_id]; done)
          rw [hw] at hP hD
          exact z_iret hQ hx hb hr hlocks hS ⟨(Nat.le_of_ble_eq_true rfl), (Nat.le_of_ble_eq_true rfl)⟩ dX12_see_90 () (congrArg (fun z => some (Value.int (iI z))) (show (seeR (mi 1) z x y (mi 13) : Int) = z_5 by unfold seeR; (repeat (first | rw [if_pos (by omega)] | rw [if_neg (by omega)])); first | done | omega)) trivial hP hD
        · skip
          refine lv_bipush (v := iI (-104)) hx hb dX12_see_43 (by decide) ?_
          have hw : zb [WMo o ma mi ml, Wa X 2 (ma 14) 6 s1, Wa X 2 (ma 15) 6 s2, Wa X 2 (ma 16) 6 s3] = zb [WMo o ma (updZ mi 13 (seeN (mi 1) z x y (mi 13))) ml, Wa X 2 (ma 14) 6 (seeF (mi 1) z x y (mi 13) z s1), Wa X 2 (ma 15) 6 (seeF (mi 1) z x y (mi 13) x s2), Wa X 2 (ma 16) 6 (seeF (mi 1) z x y (mi 13) y s3)] := by unfold seeN seeF; first | (rw [if_pos (by unfold seeR; (repeat (first | rw [if_pos (by omega)] | rw [if_neg (by omega)])); omega), if_pos (by unfold seeR; (repeat (first | rw [if_pos (by omega)] | rw [if_neg (by omega)])); omega), if_pos (by unfold seeR; (repeat (first | rw [if_pos (by omega)] | rw [if_neg (by omega)])); omega), if_pos (by unfold seeR; (repeat (first | rw [if_pos (by omega)] | rw [if_neg (by omega)])); omega)]; subst_vars; rfl) | (rw [if_neg (by unfold seeR; (repeat (first | rw [if_pos (by omega)] | rw [if_neg (by omega)])); decide), if_neg (by unfold seeR; (repeat (first | rw [if_pos (by omega)] | rw [if_neg (by omega)])); decide), if_neg (by unfold seeR; (repeat (first | rw [if_pos (by omega)] | rw [if_neg (by omega)])); decide), if_neg (by unfold seeR; (repeat (first | rw [if_pos (by omega)] | rw [if_neg (by omega)])); decide), updZ_id]; done)
          rw [hw] at hP hD
          exact z_iret hQ hx hb hr hlocks hS ⟨(Nat.le_of_ble_eq_true rfl), (Nat.le_of_ble_eq_true rfl)⟩ dX12_see_45 () (congrArg (fun z => some (Value.int (iI z))) (show (seeR (mi 1) z x y (mi 13) : Int) = (-104) by unfold seeR; (repeat (first | rw [if_pos (by omega)] | rw [if_neg (by omega)])); first | done | omega)) trivial hP hD
      · skip
        refine lv_bipush (v := iI (-102)) hx hb dX12_see_31 (by decide) ?_
        have hw : zb [WMo o ma mi ml, Wa X 2 (ma 14) 6 s1, Wa X 2 (ma 15) 6 s2, Wa X 2 (ma 16) 6 s3] = zb [WMo o ma (updZ mi 13 (seeN (mi 1) z x y (mi 13))) ml, Wa X 2 (ma 14) 6 (seeF (mi 1) z x y (mi 13) z s1), Wa X 2 (ma 15) 6 (seeF (mi 1) z x y (mi 13) x s2), Wa X 2 (ma 16) 6 (seeF (mi 1) z x y (mi 13) y s3)] := by unfold seeN seeF; first | (rw [if_pos (by unfold seeR; (repeat (first | rw [if_pos (by omega)] | rw [if_neg (by omega)])); omega), if_pos (by unfold seeR; (repeat (first | rw [if_pos (by omega)] | rw [if_neg (by omega)])); omega), if_pos (by unfold seeR; (repeat (first | rw [if_pos (by omega)] | rw [if_neg (by omega)])); omega), if_pos (by unfold seeR; (repeat (first | rw [if_pos (by omega)] | rw [if_neg (by omega)])); omega)]; subst_vars; rfl) | (rw [if_neg (by unfold seeR; (repeat (first | rw [if_pos (by omega)] | rw [if_neg (by omega)])); decide), if_neg (by unfold seeR; (repeat (first | rw [if_pos (by omega)] | rw [if_neg (by omega)])); decide), if_neg (by unfold seeR; (repeat (first | rw [if_pos (by omega)] | rw [if_neg (by omega)])); decide), if_neg (by unfold seeR; (repeat (first | rw [if_pos (by omega)] | rw [if_neg (by omega)])); decide), updZ_id]; done)
        rw [hw] at hP hD
        exact z_iret hQ hx hb hr hlocks hS ⟨(Nat.le_of_ble_eq_true rfl), (Nat.le_of_ble_eq_true rfl)⟩ dX12_see_33 () (congrArg (fun z => some (Value.int (iI z))) (show (seeR (mi 1) z x y (mi 13) : Int) = (-102) by unfold seeR; (repeat (first | rw [if_pos (by omega)] | rw [if_neg (by omega)])); first | done | omega)) trivial hP hD
  · skip
    refine lv_bipush (v := iI (-101)) hx hb dX12_see_8 (by decide) ?_
    have hw : zb [WMo o ma mi ml, Wa X 2 (ma 14) 6 s1, Wa X 2 (ma 15) 6 s2, Wa X 2 (ma 16) 6 s3] = zb [WMo o ma (updZ mi 13 (seeN (mi 1) z x y (mi 13))) ml, Wa X 2 (ma 14) 6 (seeF (mi 1) z x y (mi 13) z s1), Wa X 2 (ma 15) 6 (seeF (mi 1) z x y (mi 13) x s2), Wa X 2 (ma 16) 6 (seeF (mi 1) z x y (mi 13) y s3)] := by unfold seeN seeF; first | (rw [if_pos (by unfold seeR; (repeat (first | rw [if_pos (by omega)] | rw [if_neg (by omega)])); omega), if_pos (by unfold seeR; (repeat (first | rw [if_pos (by omega)] | rw [if_neg (by omega)])); omega), if_pos (by unfold seeR; (repeat (first | rw [if_pos (by omega)] | rw [if_neg (by omega)])); omega), if_pos (by unfold seeR; (repeat (first | rw [if_pos (by omega)] | rw [if_neg (by omega)])); omega)]; subst_vars; rfl) | (rw [if_neg (by unfold seeR; (repeat (first | rw [if_pos (by omega)] | rw [if_neg (by omega)])); decide), if_neg (by unfold seeR; (repeat (first | rw [if_pos (by omega)] | rw [if_neg (by omega)])); decide), if_neg (by unfold seeR; (repeat (first | rw [if_pos (by omega)] | rw [if_neg (by omega)])); decide), if_neg (by unfold seeR; (repeat (first | rw [if_pos (by omega)] | rw [if_neg (by omega)])); decide), updZ_id]; done)
    rw [hw] at hP hD
    exact z_iret hQ hx hb hr hlocks hS ⟨(Nat.le_of_ble_eq_true rfl), (Nat.le_of_ble_eq_true rfl)⟩ dX12_see_10 () (congrArg (fun z => some (Value.int (iI z))) (show (seeR (mi 1) z x y (mi 13) : Int) = (-101) by unfold seeR; (repeat (first | rw [if_pos (by omega)] | rw [if_neg (by omega)])); first | done | omega)) trivial hP hD
set_option maxHeartbeats 1000000 in
set_option maxRecDepth 100000 in
theorem c_X12_forget (l : Launch) (X : zX) (o : Nat) (ma : Nat → Nat) (mi : Nat → Int) (ml : Nat → Int)  : zF l X yX12_forget wsX12_forget 0 0 [.ref o] (zb [WMo o ma mi ml]) (some (.int (iI (mi 13)))) (zb [WMo o ma (updZ mi 13 0) ml]) := by
  refine z_enter (cc := cX12_forget) (maxL := 2) (ret := (some .int)) (by decide) rfl (Nat.le_of_ble_eq_true rfl) ?_
  intro p e s m below meth c A ls Q hQ hE hl hP hD
  obtain ⟨hx, hb, hr, hml, hown, hts, hlocks, hnm, hA, hK⟩ := hE
  have hown : s.vm.findClass RX12 = some m.cls := hown
  have hS : va_S A s.heap s.heap [] := va_S.rf
  have hl : lv_has ls 2 [(0, .ref o)] := hl
  have inX12 : ∀ w ∈ u_ws RX12 TX12 38, w ∈ wsX12_forget := by decide +kernel
  refine lv_aload_n hx hb dX12_forget_0 rfl (lv_at hl 0 rfl) ?_
  refine va_get (ci := 12) (v := .int (iI (mi 13))) (C := RX12) (T := TX12) (N := 38) hx hb hts inX12 hown hK.1 hP 0 rfl rfl 13 (by decide) (hts (.fieldLink RX12 131 "SkimmedSonsModel" "seen" "I") (by decide +kernel)) (fun _ h9 => h9) rfl dX12_forget_1 ?_
  refine lv_istore_n (lv' := [(1, .int (iI (mi 13))), (0, .ref o)]) hx hb dX12_forget_4 rfl hl (by decide) rfl (fun ls hl => ?_)
  refine lv_aload_n hx hb dX12_forget_5 rfl (lv_at hl 1 rfl) ?_
  refine lv_iconst (v := iI 0) hx hb dX12_forget_6 (by decide) ?_
  refine va_put (ci := 12) (v := .int (iI 0)) (ty := .int) (C := RX12) (T := TX12) (N := 38) hx hb hts inX12 tyX12 tyX12_ok nmX12 hown hK.1 hP hD hS 0 rfl rfl 13 (by decide) (hts (.fieldLink RX12 131 "SkimmedSonsModel" "seen" "I") (by decide +kernel)) (fun _ h9 => h9) rfl (by decide +kernel) rfl rfl (Nat.le_of_ble_eq_true rfl) dX12_forget_7 (fun H locs hP hD hS => ?_)
  have hP : va_P X.1 vwCl (zb [WMo o ma (updZ mi 13 0) ml]) H := hP
  have hD : va_D A (zb [WMo o ma (updZ mi 13 0) ml]) := hD
  refine lv_iload_n hx hb dX12_forget_10 rfl (lv_at hl 0 rfl) ?_
  exact z_iret hQ hx hb hr hlocks hS ⟨(Nat.le_of_ble_eq_true rfl), (Nat.le_of_ble_eq_true rfl)⟩ dX12_forget_11 () rfl trivial hP hD
set_option maxHeartbeats 1000000 in
set_option maxRecDepth 100000 in
theorem c_X12_save_0 (l : Launch) (X : zX) (o : Nat) (ma : Nat → Nat) (mi : Nat → Int) (ml : Nat → Int) (pv : Nat → Nat → Int) (sa : Nat → Int)  : zF l X yX12_save wsX12_save 0 0 [.ref o, .int (iI 0)] (zb [WMo o ma mi ml, WMp X ma pv, Wa X 2 (ma 22) 105 sa]) none (zb [WMo o ma mi ml, WMp X ma pv, Wa X 2 (ma 22) 105 (savF 0 pv sa)]) := by
  refine z_enter (cc := cX12_save) (maxL := 4) (ret := none) (by decide) rfl (Nat.le_of_ble_eq_true rfl) ?_
  intro p e s m below meth c A ls Q hQ hE hl hP hD
  obtain ⟨hx, hb, hr, hml, hown, hts, hlocks, hnm, hA, hK⟩ := hE
  have hown : s.vm.findClass RX12 = some m.cls := hown
  have hS : va_S A s.heap s.heap [] := va_S.rf
  have hl : lv_has ls 4 [(0, .ref o), (1, .int (iI 0))] := hl
  have inX12 : ∀ w ∈ u_ws RX12 TX12 38, w ∈ wsX12_save := by decide +kernel
  refine lv_iconst (v := iI 0) hx hb dX12_save_0 (by decide) ?_
  refine lv_istore_n (lv' := [(2, .int (iI 0)), (0, .ref o), (1, .int (iI 0))]) hx hb dX12_save_1 rfl hl (by decide) rfl (fun ls hl => ?_)
  refine lv_iload_n hx hb dX12_save_2 rfl (lv_at hl 0 rfl) ?_
  refine lv_iconst (v := iI 3) hx hb dX12_save_3 (by decide) ?_
  refine z_icmp_ge (tgt := 90) hx hb (by omega) dX12_save_4 (by decide) (fun c_1 => ?_) (fun c_1 => ?_)
  · skip
    exact absurd c_1 (by omega)
  · skip
    refine lv_bipush (v := iI 15) hx hb dX12_save_7 (by decide) ?_
    refine lv_iload_n hx hb dX12_save_9 rfl (lv_at hl 2 rfl) ?_
    refine z_imul hx hb dX12_save_10 ?_
    refine W.eq (g2 := F0 m 11 ls [.int (iI 0)]) rfl ?_
    refine lv_iconst (v := iI 5) hx hb dX12_save_11 (by decide) ?_
    refine lv_iload_n hx hb dX12_save_12 rfl (lv_at hl 0 rfl) ?_
    refine z_imul hx hb dX12_save_13 ?_
    refine W.eq (g2 := F0 m 14 ls [.int (iI 0), .int (iI 0)]) rfl ?_
    refine z_iadd hx hb dX12_save_14 ?_
    refine W.eq (g2 := F0 m 15 ls [.int (iI 0)]) rfl ?_
    refine lv_istore_n (lv' := [(3, .int (iI 0)), (2, .int (iI 0)), (0, .ref o), (1, .int (iI 0))]) hx hb dX12_save_15 rfl hl (by decide) rfl (fun ls hl => ?_)
    refine lv_aload_n hx hb dX12_save_16 rfl (lv_at hl 2 rfl) ?_
    refine va_get (ci := 12) (v := .ref (ma 22)) (C := RX12) (T := TX12) (N := 38) hx hb hts inX12 hown hK.1 hP 0 rfl rfl 22 (by decide) (hts (.fieldLink RX12 47 "SkimmedSonsModel" "saved" "[I") (by decide +kernel)) (fun _ h9 => h9) rfl dX12_save_17 ?_
    refine lv_iload_n hx hb dX12_save_20 rfl (lv_at hl 0 rfl) ?_
    refine lv_aload_n hx hb dX12_save_21 rfl (lv_at hl 2 rfl) ?_
    refine va_get (ci := 12) (v := .ref (ma 4)) (C := RX12) (T := TX12) (N := 38) hx hb hts inX12 hown hK.1 hP 0 rfl rfl 4 (by decide) (hts (.fieldLink RX12 13 "SkimmedSonsModel" "fatOf" "[I") (by decide +kernel)) (fun _ h9 => h9) rfl dX12_save_22 ?_
    refine lv_iload_n hx hb dX12_save_25 rfl (lv_at hl 1 rfl) ?_
    refine z_iald hx hb hK.1 hP 3 rfl (by omega) dX12_save_26 ?_
    refine W.eq (g2 := F0 m 27 ls [.int (iI (pv 0 2)), .int (iI 0), .ref (ma 22)]) rfl ?_
    refine z_iast hx hb hK.1 hP hD hS 7 rfl (by omega) dX12_save_27 (fun H locs hP hD hS => ?_)
    have hP : va_P X.1 vwCl (zb [WMo o ma mi ml, WMp X ma pv, Wa X 2 (ma 22) 105 (updZ sa 0 (pv 0 2))]) H := hP
    have hD : va_D A (zb [WMo o ma mi ml, WMp X ma pv, Wa X 2 (ma 22) 105 (updZ sa 0 (pv 0 2))]) := hD
    refine lv_aload_n hx hb dX12_save_28 rfl (lv_at hl 2 rfl) ?_
    refine va_get (ci := 12) (v := .ref (ma 22)) (C := RX12) (T := TX12) (N := 38) hx hb hts inX12 hown hK.1 hP 0 rfl rfl 22 (by decide) (hts (.fieldLink RX12 47 "SkimmedSonsModel" "saved" "[I") (by decide +kernel)) (fun _ h9 => h9) rfl dX12_save_29 ?_
    refine lv_iload_n hx hb dX12_save_32 rfl (lv_at hl 0 rfl) ?_
    refine lv_iconst (v := iI 1) hx hb dX12_save_33 (by decide) ?_
    refine z_iadd hx hb dX12_save_34 ?_
    refine W.eq (g2 := F0 m 35 ls [.int (iI 1), .ref (ma 22)]) rfl ?_
    refine lv_aload_n hx hb dX12_save_35 rfl (lv_at hl 2 rfl) ?_
    refine va_get (ci := 12) (v := .ref (ma 5)) (C := RX12) (T := TX12) (N := 38) hx hb hts inX12 hown hK.1 hP 0 rfl rfl 5 (by decide) (hts (.fieldLink RX12 16 "SkimmedSonsModel" "creamOf" "[I") (by decide +kernel)) (fun _ h9 => h9) rfl dX12_save_36 ?_
    refine lv_iload_n hx hb dX12_save_39 rfl (lv_at hl 1 rfl) ?_
    refine z_iald hx hb hK.1 hP 4 rfl (by omega) dX12_save_40 ?_
    refine W.eq (g2 := F0 m 41 ls [.int (iI (pv 0 3)), .int (iI 1), .ref (ma 22)]) rfl ?_
    refine z_iast hx hb hK.1 hP hD hS 7 rfl (by omega) dX12_save_41 (fun H locs hP hD hS => ?_)
    have hP : va_P X.1 vwCl (zb [WMo o ma mi ml, WMp X ma pv, Wa X 2 (ma 22) 105 (updZ (updZ sa 0 (pv 0 2)) 1 (pv 0 3))]) H := hP
    have hD : va_D A (zb [WMo o ma mi ml, WMp X ma pv, Wa X 2 (ma 22) 105 (updZ (updZ sa 0 (pv 0 2)) 1 (pv 0 3))]) := hD
    refine lv_aload_n hx hb dX12_save_42 rfl (lv_at hl 2 rfl) ?_
    refine va_get (ci := 12) (v := .ref (ma 22)) (C := RX12) (T := TX12) (N := 38) hx hb hts inX12 hown hK.1 hP 0 rfl rfl 22 (by decide) (hts (.fieldLink RX12 47 "SkimmedSonsModel" "saved" "[I") (by decide +kernel)) (fun _ h9 => h9) rfl dX12_save_43 ?_
    refine lv_iload_n hx hb dX12_save_46 rfl (lv_at hl 0 rfl) ?_
    refine lv_iconst (v := iI 2) hx hb dX12_save_47 (by decide) ?_
    refine z_iadd hx hb dX12_save_48 ?_
    refine W.eq (g2 := F0 m 49 ls [.int (iI 2), .ref (ma 22)]) rfl ?_
    refine lv_aload_n hx hb dX12_save_49 rfl (lv_at hl 2 rfl) ?_
    refine va_get (ci := 12) (v := .ref (ma 6)) (C := RX12) (T := TX12) (N := 38) hx hb hts inX12 hown hK.1 hP 0 rfl rfl 6 (by decide) (hts (.fieldLink RX12 19 "SkimmedSonsModel" "filmOf" "[I") (by decide +kernel)) (fun _ h9 => h9) rfl dX12_save_50 ?_
    refine lv_iload_n hx hb dX12_save_53 rfl (lv_at hl 1 rfl) ?_
    refine z_iald hx hb hK.1 hP 5 rfl (by omega) dX12_save_54 ?_
    refine W.eq (g2 := F0 m 55 ls [.int (iI (pv 0 4)), .int (iI 2), .ref (ma 22)]) rfl ?_
    refine z_iast hx hb hK.1 hP hD hS 7 rfl (by omega) dX12_save_55 (fun H locs hP hD hS => ?_)
    have hP : va_P X.1 vwCl (zb [WMo o ma mi ml, WMp X ma pv, Wa X 2 (ma 22) 105 (updZ (updZ (updZ sa 0 (pv 0 2)) 1 (pv 0 3)) 2 (pv 0 4))]) H := hP
    have hD : va_D A (zb [WMo o ma mi ml, WMp X ma pv, Wa X 2 (ma 22) 105 (updZ (updZ (updZ sa 0 (pv 0 2)) 1 (pv 0 3)) 2 (pv 0 4))]) := hD
    refine lv_aload_n hx hb dX12_save_56 rfl (lv_at hl 2 rfl) ?_
    refine va_get (ci := 12) (v := .ref (ma 22)) (C := RX12) (T := TX12) (N := 38) hx hb hts inX12 hown hK.1 hP 0 rfl rfl 22 (by decide) (hts (.fieldLink RX12 47 "SkimmedSonsModel" "saved" "[I") (by decide +kernel)) (fun _ h9 => h9) rfl dX12_save_57 ?_
    refine lv_iload_n hx hb dX12_save_60 rfl (lv_at hl 0 rfl) ?_
    refine lv_iconst (v := iI 3) hx hb dX12_save_61 (by decide) ?_
    refine z_iadd hx hb dX12_save_62 ?_
    refine W.eq (g2 := F0 m 63 ls [.int (iI 3), .ref (ma 22)]) rfl ?_
    refine lv_aload_n hx hb dX12_save_63 rfl (lv_at hl 2 rfl) ?_
    refine va_get (ci := 12) (v := .ref (ma 7)) (C := RX12) (T := TX12) (N := 38) hx hb hts inX12 hown hK.1 hP 0 rfl rfl 7 (by decide) (hts (.fieldLink RX12 22 "SkimmedSonsModel" "blueOf" "[I") (by decide +kernel)) (fun _ h9 => h9) rfl dX12_save_64 ?_
    refine lv_iload_n hx hb dX12_save_67 rfl (lv_at hl 1 rfl) ?_
    refine z_iald hx hb hK.1 hP 6 rfl (by omega) dX12_save_68 ?_
    refine W.eq (g2 := F0 m 69 ls [.int (iI (pv 0 5)), .int (iI 3), .ref (ma 22)]) rfl ?_
    refine z_iast hx hb hK.1 hP hD hS 7 rfl (by omega) dX12_save_69 (fun H locs hP hD hS => ?_)
    have hP : va_P X.1 vwCl (zb [WMo o ma mi ml, WMp X ma pv, Wa X 2 (ma 22) 105 (updZ (updZ (updZ (updZ sa 0 (pv 0 2)) 1 (pv 0 3)) 2 (pv 0 4)) 3 (pv 0 5))]) H := hP
    have hD : va_D A (zb [WMo o ma mi ml, WMp X ma pv, Wa X 2 (ma 22) 105 (updZ (updZ (updZ (updZ sa 0 (pv 0 2)) 1 (pv 0 3)) 2 (pv 0 4)) 3 (pv 0 5))]) := hD
    refine lv_aload_n hx hb dX12_save_70 rfl (lv_at hl 2 rfl) ?_
    refine va_get (ci := 12) (v := .ref (ma 22)) (C := RX12) (T := TX12) (N := 38) hx hb hts inX12 hown hK.1 hP 0 rfl rfl 22 (by decide) (hts (.fieldLink RX12 47 "SkimmedSonsModel" "saved" "[I") (by decide +kernel)) (fun _ h9 => h9) rfl dX12_save_71 ?_
    refine lv_iload_n hx hb dX12_save_74 rfl (lv_at hl 0 rfl) ?_
    refine lv_iconst (v := iI 4) hx hb dX12_save_75 (by decide) ?_
    refine z_iadd hx hb dX12_save_76 ?_
    refine W.eq (g2 := F0 m 77 ls [.int (iI 4), .ref (ma 22)]) rfl ?_
    refine lv_aload_n hx hb dX12_save_77 rfl (lv_at hl 2 rfl) ?_
    refine va_get (ci := 12) (v := .ref (ma 8)) (C := RX12) (T := TX12) (N := 38) hx hb hts inX12 hown hK.1 hP 0 rfl rfl 8 (by decide) (hts (.fieldLink RX12 25 "SkimmedSonsModel" "stillOf" "[I") (by decide +kernel)) (fun _ h9 => h9) rfl dX12_save_78 ?_
    refine lv_iload_n hx hb dX12_save_81 rfl (lv_at hl 1 rfl) ?_
    refine z_iald hx hb hK.1 hP 2 rfl (by omega) dX12_save_82 ?_
    refine W.eq (g2 := F0 m 83 ls [.int (iI (pv 0 1)), .int (iI 4), .ref (ma 22)]) rfl ?_
    refine z_iast hx hb hK.1 hP hD hS 7 rfl (by omega) dX12_save_83 (fun H locs hP hD hS => ?_)
    have hP : va_P X.1 vwCl (zb [WMo o ma mi ml, WMp X ma pv, Wa X 2 (ma 22) 105 (updZ (updZ (updZ (updZ (updZ sa 0 (pv 0 2)) 1 (pv 0 3)) 2 (pv 0 4)) 3 (pv 0 5)) 4 (pv 0 1))]) H := hP
    have hD : va_D A (zb [WMo o ma mi ml, WMp X ma pv, Wa X 2 (ma 22) 105 (updZ (updZ (updZ (updZ (updZ sa 0 (pv 0 2)) 1 (pv 0 3)) 2 (pv 0 4)) 3 (pv 0 5)) 4 (pv 0 1))]) := hD
    refine z_iinc (k := 1) (lv' := [(2, .int (iI 1)), (3, .int (iI 0)), (0, .ref o), (1, .int (iI 0))]) hx hb dX12_save_84 hl rfl (by decide) rfl (fun ls hl => ?_)
    refine lv_goto (tgt := 2) hx hb dX12_save_87 (by decide) ?_
    refine lv_iload_n hx hb dX12_save_2 rfl (lv_at hl 0 rfl) ?_
    refine lv_iconst (v := iI 3) hx hb dX12_save_3 (by decide) ?_
    refine z_icmp_ge (tgt := 90) hx hb (by omega) dX12_save_4 (by decide) (fun c_2 => ?_) (fun c_2 => ?_)
    · skip
      exact absurd c_2 (by omega)
    · skip
      refine lv_bipush (v := iI 15) hx hb dX12_save_7 (by decide) ?_
      refine lv_iload_n hx hb dX12_save_9 rfl (lv_at hl 3 rfl) ?_
      refine z_imul hx hb dX12_save_10 ?_
      refine W.eq (g2 := F0 m 11 ls [.int (iI 0)]) rfl ?_
      refine lv_iconst (v := iI 5) hx hb dX12_save_11 (by decide) ?_
      refine lv_iload_n hx hb dX12_save_12 rfl (lv_at hl 0 rfl) ?_
      refine z_imul hx hb dX12_save_13 ?_
      refine W.eq (g2 := F0 m 14 ls [.int (iI 5), .int (iI 0)]) rfl ?_
      refine z_iadd hx hb dX12_save_14 ?_
      refine W.eq (g2 := F0 m 15 ls [.int (iI 5)]) rfl ?_
      refine lv_istore_n (lv' := [(3, .int (iI 5)), (2, .int (iI 1)), (0, .ref o), (1, .int (iI 0))]) hx hb dX12_save_15 rfl hl (by decide) rfl (fun ls hl => ?_)
      refine lv_aload_n hx hb dX12_save_16 rfl (lv_at hl 2 rfl) ?_
      refine va_get (ci := 12) (v := .ref (ma 22)) (C := RX12) (T := TX12) (N := 38) hx hb hts inX12 hown hK.1 hP 0 rfl rfl 22 (by decide) (hts (.fieldLink RX12 47 "SkimmedSonsModel" "saved" "[I") (by decide +kernel)) (fun _ h9 => h9) rfl dX12_save_17 ?_
      refine lv_iload_n hx hb dX12_save_20 rfl (lv_at hl 0 rfl) ?_
      refine lv_aload_n hx hb dX12_save_21 rfl (lv_at hl 2 rfl) ?_
      refine va_get (ci := 12) (v := .ref (ma 4)) (C := RX12) (T := TX12) (N := 38) hx hb hts inX12 hown hK.1 hP 0 rfl rfl 4 (by decide) (hts (.fieldLink RX12 13 "SkimmedSonsModel" "fatOf" "[I") (by decide +kernel)) (fun _ h9 => h9) rfl dX12_save_22 ?_
      refine lv_iload_n hx hb dX12_save_25 rfl (lv_at hl 1 rfl) ?_
      refine z_iald hx hb hK.1 hP 3 rfl (by omega) dX12_save_26 ?_
      refine W.eq (g2 := F0 m 27 ls [.int (iI (pv 1 2)), .int (iI 5), .ref (ma 22)]) rfl ?_
      refine z_iast hx hb hK.1 hP hD hS 7 rfl (by omega) dX12_save_27 (fun H locs hP hD hS => ?_)
      have hP : va_P X.1 vwCl (zb [WMo o ma mi ml, WMp X ma pv, Wa X 2 (ma 22) 105 (updZ (updZ (updZ (updZ (updZ (updZ sa 0 (pv 0 2)) 1 (pv 0 3)) 2 (pv 0 4)) 3 (pv 0 5)) 4 (pv 0 1)) 5 (pv 1 2))]) H := hP
      have hD : va_D A (zb [WMo o ma mi ml, WMp X ma pv, Wa X 2 (ma 22) 105 (updZ (updZ (updZ (updZ (updZ (updZ sa 0 (pv 0 2)) 1 (pv 0 3)) 2 (pv 0 4)) 3 (pv 0 5)) 4 (pv 0 1)) 5 (pv 1 2))]) := hD
      refine lv_aload_n hx hb dX12_save_28 rfl (lv_at hl 2 rfl) ?_
      refine va_get (ci := 12) (v := .ref (ma 22)) (C := RX12) (T := TX12) (N := 38) hx hb hts inX12 hown hK.1 hP 0 rfl rfl 22 (by decide) (hts (.fieldLink RX12 47 "SkimmedSonsModel" "saved" "[I") (by decide +kernel)) (fun _ h9 => h9) rfl dX12_save_29 ?_
      refine lv_iload_n hx hb dX12_save_32 rfl (lv_at hl 0 rfl) ?_
      refine lv_iconst (v := iI 1) hx hb dX12_save_33 (by decide) ?_
      refine z_iadd hx hb dX12_save_34 ?_
      refine W.eq (g2 := F0 m 35 ls [.int (iI 6), .ref (ma 22)]) rfl ?_
      refine lv_aload_n hx hb dX12_save_35 rfl (lv_at hl 2 rfl) ?_
      refine va_get (ci := 12) (v := .ref (ma 5)) (C := RX12) (T := TX12) (N := 38) hx hb hts inX12 hown hK.1 hP 0 rfl rfl 5 (by decide) (hts (.fieldLink RX12 16 "SkimmedSonsModel" "creamOf" "[I") (by decide +kernel)) (fun _ h9 => h9) rfl dX12_save_36 ?_
      refine lv_iload_n hx hb dX12_save_39 rfl (lv_at hl 1 rfl) ?_
      refine z_iald hx hb hK.1 hP 4 rfl (by omega) dX12_save_40 ?_
      refine W.eq (g2 := F0 m 41 ls [.int (iI (pv 1 3)), .int (iI 6), .ref (ma 22)]) rfl ?_
      refine z_iast hx hb hK.1 hP hD hS 7 rfl (by omega) dX12_save_41 (fun H locs hP hD hS => ?_)
      have hP : va_P X.1 vwCl (zb [WMo o ma mi ml, WMp X ma pv, Wa X 2 (ma 22) 105 (updZ (updZ (updZ (updZ (updZ (updZ (updZ sa 0 (pv 0 2)) 1 (pv 0 3)) 2 (pv 0 4)) 3 (pv 0 5)) 4 (pv 0 1)) 5 (pv 1 2)) 6 (pv 1 3))]) H := hP
      have hD : va_D A (zb [WMo o ma mi ml, WMp X ma pv, Wa X 2 (ma 22) 105 (updZ (updZ (updZ (updZ (updZ (updZ (updZ sa 0 (pv 0 2)) 1 (pv 0 3)) 2 (pv 0 4)) 3 (pv 0 5)) 4 (pv 0 1)) 5 (pv 1 2)) 6 (pv 1 3))]) := hD
      refine lv_aload_n hx hb dX12_save_42 rfl (lv_at hl 2 rfl) ?_
      refine va_get (ci := 12) (v := .ref (ma 22)) (C := RX12) (T := TX12) (N := 38) hx hb hts inX12 hown hK.1 hP 0 rfl rfl 22 (by decide) (hts (.fieldLink RX12 47 "SkimmedSonsModel" "saved" "[I") (by decide +kernel)) (fun _ h9 => h9) rfl dX12_save_43 ?_
      refine lv_iload_n hx hb dX12_save_46 rfl (lv_at hl 0 rfl) ?_
      refine lv_iconst (v := iI 2) hx hb dX12_save_47 (by decide) ?_
      refine z_iadd hx hb dX12_save_48 ?_
      refine W.eq (g2 := F0 m 49 ls [.int (iI 7), .ref (ma 22)]) rfl ?_
      refine lv_aload_n hx hb dX12_save_49 rfl (lv_at hl 2 rfl) ?_
      refine va_get (ci := 12) (v := .ref (ma 6)) (C := RX12) (T := TX12) (N := 38) hx hb hts inX12 hown hK.1 hP 0 rfl rfl 6 (by decide) (hts (.fieldLink RX12 19 "SkimmedSonsModel" "filmOf" "[I") (by decide +kernel)) (fun _ h9 => h9) rfl dX12_save_50 ?_
      refine lv_iload_n hx hb dX12_save_53 rfl (lv_at hl 1 rfl) ?_
      refine z_iald hx hb hK.1 hP 5 rfl (by omega) dX12_save_54 ?_
      refine W.eq (g2 := F0 m 55 ls [.int (iI (pv 1 4)), .int (iI 7), .ref (ma 22)]) rfl ?_
      refine z_iast hx hb hK.1 hP hD hS 7 rfl (by omega) dX12_save_55 (fun H locs hP hD hS => ?_)
      have hP : va_P X.1 vwCl (zb [WMo o ma mi ml, WMp X ma pv, Wa X 2 (ma 22) 105 (updZ (updZ (updZ (updZ (updZ (updZ (updZ (updZ sa 0 (pv 0 2)) 1 (pv 0 3)) 2 (pv 0 4)) 3 (pv 0 5)) 4 (pv 0 1)) 5 (pv 1 2)) 6 (pv 1 3)) 7 (pv 1 4))]) H := hP
      have hD : va_D A (zb [WMo o ma mi ml, WMp X ma pv, Wa X 2 (ma 22) 105 (updZ (updZ (updZ (updZ (updZ (updZ (updZ (updZ sa 0 (pv 0 2)) 1 (pv 0 3)) 2 (pv 0 4)) 3 (pv 0 5)) 4 (pv 0 1)) 5 (pv 1 2)) 6 (pv 1 3)) 7 (pv 1 4))]) := hD
      refine lv_aload_n hx hb dX12_save_56 rfl (lv_at hl 2 rfl) ?_
      refine va_get (ci := 12) (v := .ref (ma 22)) (C := RX12) (T := TX12) (N := 38) hx hb hts inX12 hown hK.1 hP 0 rfl rfl 22 (by decide) (hts (.fieldLink RX12 47 "SkimmedSonsModel" "saved" "[I") (by decide +kernel)) (fun _ h9 => h9) rfl dX12_save_57 ?_
      refine lv_iload_n hx hb dX12_save_60 rfl (lv_at hl 0 rfl) ?_
      refine lv_iconst (v := iI 3) hx hb dX12_save_61 (by decide) ?_
      refine z_iadd hx hb dX12_save_62 ?_
      refine W.eq (g2 := F0 m 63 ls [.int (iI 8), .ref (ma 22)]) rfl ?_
      refine lv_aload_n hx hb dX12_save_63 rfl (lv_at hl 2 rfl) ?_
      refine va_get (ci := 12) (v := .ref (ma 7)) (C := RX12) (T := TX12) (N := 38) hx hb hts inX12 hown hK.1 hP 0 rfl rfl 7 (by decide) (hts (.fieldLink RX12 22 "SkimmedSonsModel" "blueOf" "[I") (by decide +kernel)) (fun _ h9 => h9) rfl dX12_save_64 ?_
      refine lv_iload_n hx hb dX12_save_67 rfl (lv_at hl 1 rfl) ?_
      refine z_iald hx hb hK.1 hP 6 rfl (by omega) dX12_save_68 ?_
      refine W.eq (g2 := F0 m 69 ls [.int (iI (pv 1 5)), .int (iI 8), .ref (ma 22)]) rfl ?_
      refine z_iast hx hb hK.1 hP hD hS 7 rfl (by omega) dX12_save_69 (fun H locs hP hD hS => ?_)
      have hP : va_P X.1 vwCl (zb [WMo o ma mi ml, WMp X ma pv, Wa X 2 (ma 22) 105 (updZ (updZ (updZ (updZ (updZ (updZ (updZ (updZ (updZ sa 0 (pv 0 2)) 1 (pv 0 3)) 2 (pv 0 4)) 3 (pv 0 5)) 4 (pv 0 1)) 5 (pv 1 2)) 6 (pv 1 3)) 7 (pv 1 4)) 8 (pv 1 5))]) H := hP
      have hD : va_D A (zb [WMo o ma mi ml, WMp X ma pv, Wa X 2 (ma 22) 105 (updZ (updZ (updZ (updZ (updZ (updZ (updZ (updZ (updZ sa 0 (pv 0 2)) 1 (pv 0 3)) 2 (pv 0 4)) 3 (pv 0 5)) 4 (pv 0 1)) 5 (pv 1 2)) 6 (pv 1 3)) 7 (pv 1 4)) 8 (pv 1 5))]) := hD
      refine lv_aload_n hx hb dX12_save_70 rfl (lv_at hl 2 rfl) ?_
      refine va_get (ci := 12) (v := .ref (ma 22)) (C := RX12) (T := TX12) (N := 38) hx hb hts inX12 hown hK.1 hP 0 rfl rfl 22 (by decide) (hts (.fieldLink RX12 47 "SkimmedSonsModel" "saved" "[I") (by decide +kernel)) (fun _ h9 => h9) rfl dX12_save_71 ?_
      refine lv_iload_n hx hb dX12_save_74 rfl (lv_at hl 0 rfl) ?_
      refine lv_iconst (v := iI 4) hx hb dX12_save_75 (by decide) ?_
      refine z_iadd hx hb dX12_save_76 ?_
      refine W.eq (g2 := F0 m 77 ls [.int (iI 9), .ref (ma 22)]) rfl ?_
      refine lv_aload_n hx hb dX12_save_77 rfl (lv_at hl 2 rfl) ?_
      refine va_get (ci := 12) (v := .ref (ma 8)) (C := RX12) (T := TX12) (N := 38) hx hb hts inX12 hown hK.1 hP 0 rfl rfl 8 (by decide) (hts (.fieldLink RX12 25 "SkimmedSonsModel" "stillOf" "[I") (by decide +kernel)) (fun _ h9 => h9) rfl dX12_save_78 ?_
      refine lv_iload_n hx hb dX12_save_81 rfl (lv_at hl 1 rfl) ?_
      refine z_iald hx hb hK.1 hP 2 rfl (by omega) dX12_save_82 ?_
      refine W.eq (g2 := F0 m 83 ls [.int (iI (pv 1 1)), .int (iI 9), .ref (ma 22)]) rfl ?_
      refine z_iast hx hb hK.1 hP hD hS 7 rfl (by omega) dX12_save_83 (fun H locs hP hD hS => ?_)
      have hP : va_P X.1 vwCl (zb [WMo o ma mi ml, WMp X ma pv, Wa X 2 (ma 22) 105 (updZ (updZ (updZ (updZ (updZ (updZ (updZ (updZ (updZ (updZ sa 0 (pv 0 2)) 1 (pv 0 3)) 2 (pv 0 4)) 3 (pv 0 5)) 4 (pv 0 1)) 5 (pv 1 2)) 6 (pv 1 3)) 7 (pv 1 4)) 8 (pv 1 5)) 9 (pv 1 1))]) H := hP
      have hD : va_D A (zb [WMo o ma mi ml, WMp X ma pv, Wa X 2 (ma 22) 105 (updZ (updZ (updZ (updZ (updZ (updZ (updZ (updZ (updZ (updZ sa 0 (pv 0 2)) 1 (pv 0 3)) 2 (pv 0 4)) 3 (pv 0 5)) 4 (pv 0 1)) 5 (pv 1 2)) 6 (pv 1 3)) 7 (pv 1 4)) 8 (pv 1 5)) 9 (pv 1 1))]) := hD
      refine z_iinc (k := 1) (lv' := [(2, .int (iI 2)), (3, .int (iI 5)), (0, .ref o), (1, .int (iI 0))]) hx hb dX12_save_84 hl rfl (by decide) rfl (fun ls hl => ?_)
      refine lv_goto (tgt := 2) hx hb dX12_save_87 (by decide) ?_
      refine lv_iload_n hx hb dX12_save_2 rfl (lv_at hl 0 rfl) ?_
      refine lv_iconst (v := iI 3) hx hb dX12_save_3 (by decide) ?_
      refine z_icmp_ge (tgt := 90) hx hb (by omega) dX12_save_4 (by decide) (fun c_3 => ?_) (fun c_3 => ?_)
      · skip
        exact absurd c_3 (by omega)
      · skip
        refine lv_bipush (v := iI 15) hx hb dX12_save_7 (by decide) ?_
        refine lv_iload_n hx hb dX12_save_9 rfl (lv_at hl 3 rfl) ?_
        refine z_imul hx hb dX12_save_10 ?_
        refine W.eq (g2 := F0 m 11 ls [.int (iI 0)]) rfl ?_
        refine lv_iconst (v := iI 5) hx hb dX12_save_11 (by decide) ?_
        refine lv_iload_n hx hb dX12_save_12 rfl (lv_at hl 0 rfl) ?_
        refine z_imul hx hb dX12_save_13 ?_
        refine W.eq (g2 := F0 m 14 ls [.int (iI 10), .int (iI 0)]) rfl ?_
        refine z_iadd hx hb dX12_save_14 ?_
        refine W.eq (g2 := F0 m 15 ls [.int (iI 10)]) rfl ?_
        refine lv_istore_n (lv' := [(3, .int (iI 10)), (2, .int (iI 2)), (0, .ref o), (1, .int (iI 0))]) hx hb dX12_save_15 rfl hl (by decide) rfl (fun ls hl => ?_)
        refine lv_aload_n hx hb dX12_save_16 rfl (lv_at hl 2 rfl) ?_
        refine va_get (ci := 12) (v := .ref (ma 22)) (C := RX12) (T := TX12) (N := 38) hx hb hts inX12 hown hK.1 hP 0 rfl rfl 22 (by decide) (hts (.fieldLink RX12 47 "SkimmedSonsModel" "saved" "[I") (by decide +kernel)) (fun _ h9 => h9) rfl dX12_save_17 ?_
        refine lv_iload_n hx hb dX12_save_20 rfl (lv_at hl 0 rfl) ?_
        refine lv_aload_n hx hb dX12_save_21 rfl (lv_at hl 2 rfl) ?_
        refine va_get (ci := 12) (v := .ref (ma 4)) (C := RX12) (T := TX12) (N := 38) hx hb hts inX12 hown hK.1 hP 0 rfl rfl 4 (by decide) (hts (.fieldLink RX12 13 "SkimmedSonsModel" "fatOf" "[I") (by decide +kernel)) (fun _ h9 => h9) rfl dX12_save_22 ?_
        refine lv_iload_n hx hb dX12_save_25 rfl (lv_at hl 1 rfl) ?_
        refine z_iald hx hb hK.1 hP 3 rfl (by omega) dX12_save_26 ?_
        refine W.eq (g2 := F0 m 27 ls [.int (iI (pv 2 2)), .int (iI 10), .ref (ma 22)]) rfl ?_
        refine z_iast hx hb hK.1 hP hD hS 7 rfl (by omega) dX12_save_27 (fun H locs hP hD hS => ?_)
        have hP : va_P X.1 vwCl (zb [WMo o ma mi ml, WMp X ma pv, Wa X 2 (ma 22) 105 (updZ (updZ (updZ (updZ (updZ (updZ (updZ (updZ (updZ (updZ (updZ sa 0 (pv 0 2)) 1 (pv 0 3)) 2 (pv 0 4)) 3 (pv 0 5)) 4 (pv 0 1)) 5 (pv 1 2)) 6 (pv 1 3)) 7 (pv 1 4)) 8 (pv 1 5)) 9 (pv 1 1)) 10 (pv 2 2))]) H := hP
        have hD : va_D A (zb [WMo o ma mi ml, WMp X ma pv, Wa X 2 (ma 22) 105 (updZ (updZ (updZ (updZ (updZ (updZ (updZ (updZ (updZ (updZ (updZ sa 0 (pv 0 2)) 1 (pv 0 3)) 2 (pv 0 4)) 3 (pv 0 5)) 4 (pv 0 1)) 5 (pv 1 2)) 6 (pv 1 3)) 7 (pv 1 4)) 8 (pv 1 5)) 9 (pv 1 1)) 10 (pv 2 2))]) := hD
        refine lv_aload_n hx hb dX12_save_28 rfl (lv_at hl 2 rfl) ?_
        refine va_get (ci := 12) (v := .ref (ma 22)) (C := RX12) (T := TX12) (N := 38) hx hb hts inX12 hown hK.1 hP 0 rfl rfl 22 (by decide) (hts (.fieldLink RX12 47 "SkimmedSonsModel" "saved" "[I") (by decide +kernel)) (fun _ h9 => h9) rfl dX12_save_29 ?_
        refine lv_iload_n hx hb dX12_save_32 rfl (lv_at hl 0 rfl) ?_
        refine lv_iconst (v := iI 1) hx hb dX12_save_33 (by decide) ?_
        refine z_iadd hx hb dX12_save_34 ?_
        refine W.eq (g2 := F0 m 35 ls [.int (iI 11), .ref (ma 22)]) rfl ?_
        refine lv_aload_n hx hb dX12_save_35 rfl (lv_at hl 2 rfl) ?_
        refine va_get (ci := 12) (v := .ref (ma 5)) (C := RX12) (T := TX12) (N := 38) hx hb hts inX12 hown hK.1 hP 0 rfl rfl 5 (by decide) (hts (.fieldLink RX12 16 "SkimmedSonsModel" "creamOf" "[I") (by decide +kernel)) (fun _ h9 => h9) rfl dX12_save_36 ?_
        refine lv_iload_n hx hb dX12_save_39 rfl (lv_at hl 1 rfl) ?_
        refine z_iald hx hb hK.1 hP 4 rfl (by omega) dX12_save_40 ?_
        refine W.eq (g2 := F0 m 41 ls [.int (iI (pv 2 3)), .int (iI 11), .ref (ma 22)]) rfl ?_
        refine z_iast hx hb hK.1 hP hD hS 7 rfl (by omega) dX12_save_41 (fun H locs hP hD hS => ?_)
        have hP : va_P X.1 vwCl (zb [WMo o ma mi ml, WMp X ma pv, Wa X 2 (ma 22) 105 (updZ (updZ (updZ (updZ (updZ (updZ (updZ (updZ (updZ (updZ (updZ (updZ sa 0 (pv 0 2)) 1 (pv 0 3)) 2 (pv 0 4)) 3 (pv 0 5)) 4 (pv 0 1)) 5 (pv 1 2)) 6 (pv 1 3)) 7 (pv 1 4)) 8 (pv 1 5)) 9 (pv 1 1)) 10 (pv 2 2)) 11 (pv 2 3))]) H := hP
        have hD : va_D A (zb [WMo o ma mi ml, WMp X ma pv, Wa X 2 (ma 22) 105 (updZ (updZ (updZ (updZ (updZ (updZ (updZ (updZ (updZ (updZ (updZ (updZ sa 0 (pv 0 2)) 1 (pv 0 3)) 2 (pv 0 4)) 3 (pv 0 5)) 4 (pv 0 1)) 5 (pv 1 2)) 6 (pv 1 3)) 7 (pv 1 4)) 8 (pv 1 5)) 9 (pv 1 1)) 10 (pv 2 2)) 11 (pv 2 3))]) := hD
        refine lv_aload_n hx hb dX12_save_42 rfl (lv_at hl 2 rfl) ?_
        refine va_get (ci := 12) (v := .ref (ma 22)) (C := RX12) (T := TX12) (N := 38) hx hb hts inX12 hown hK.1 hP 0 rfl rfl 22 (by decide) (hts (.fieldLink RX12 47 "SkimmedSonsModel" "saved" "[I") (by decide +kernel)) (fun _ h9 => h9) rfl dX12_save_43 ?_
        refine lv_iload_n hx hb dX12_save_46 rfl (lv_at hl 0 rfl) ?_
        refine lv_iconst (v := iI 2) hx hb dX12_save_47 (by decide) ?_
        refine z_iadd hx hb dX12_save_48 ?_
        refine W.eq (g2 := F0 m 49 ls [.int (iI 12), .ref (ma 22)]) rfl ?_
        refine lv_aload_n hx hb dX12_save_49 rfl (lv_at hl 2 rfl) ?_
        refine va_get (ci := 12) (v := .ref (ma 6)) (C := RX12) (T := TX12) (N := 38) hx hb hts inX12 hown hK.1 hP 0 rfl rfl 6 (by decide) (hts (.fieldLink RX12 19 "SkimmedSonsModel" "filmOf" "[I") (by decide +kernel)) (fun _ h9 => h9) rfl dX12_save_50 ?_
        refine lv_iload_n hx hb dX12_save_53 rfl (lv_at hl 1 rfl) ?_
        refine z_iald hx hb hK.1 hP 5 rfl (by omega) dX12_save_54 ?_
        refine W.eq (g2 := F0 m 55 ls [.int (iI (pv 2 4)), .int (iI 12), .ref (ma 22)]) rfl ?_
        refine z_iast hx hb hK.1 hP hD hS 7 rfl (by omega) dX12_save_55 (fun H locs hP hD hS => ?_)
        have hP : va_P X.1 vwCl (zb [WMo o ma mi ml, WMp X ma pv, Wa X 2 (ma 22) 105 (updZ (updZ (updZ (updZ (updZ (updZ (updZ (updZ (updZ (updZ (updZ (updZ (updZ sa 0 (pv 0 2)) 1 (pv 0 3)) 2 (pv 0 4)) 3 (pv 0 5)) 4 (pv 0 1)) 5 (pv 1 2)) 6 (pv 1 3)) 7 (pv 1 4)) 8 (pv 1 5)) 9 (pv 1 1)) 10 (pv 2 2)) 11 (pv 2 3)) 12 (pv 2 4))]) H := hP
        have hD : va_D A (zb [WMo o ma mi ml, WMp X ma pv, Wa X 2 (ma 22) 105 (updZ (updZ (updZ (updZ (updZ (updZ (updZ (updZ (updZ (updZ (updZ (updZ (updZ sa 0 (pv 0 2)) 1 (pv 0 3)) 2 (pv 0 4)) 3 (pv 0 5)) 4 (pv 0 1)) 5 (pv 1 2)) 6 (pv 1 3)) 7 (pv 1 4)) 8 (pv 1 5)) 9 (pv 1 1)) 10 (pv 2 2)) 11 (pv 2 3)) 12 (pv 2 4))]) := hD
        refine lv_aload_n hx hb dX12_save_56 rfl (lv_at hl 2 rfl) ?_
        refine va_get (ci := 12) (v := .ref (ma 22)) (C := RX12) (T := TX12) (N := 38) hx hb hts inX12 hown hK.1 hP 0 rfl rfl 22 (by decide) (hts (.fieldLink RX12 47 "SkimmedSonsModel" "saved" "[I") (by decide +kernel)) (fun _ h9 => h9) rfl dX12_save_57 ?_
        refine lv_iload_n hx hb dX12_save_60 rfl (lv_at hl 0 rfl) ?_
        refine lv_iconst (v := iI 3) hx hb dX12_save_61 (by decide) ?_
        refine z_iadd hx hb dX12_save_62 ?_
        refine W.eq (g2 := F0 m 63 ls [.int (iI 13), .ref (ma 22)]) rfl ?_
        refine lv_aload_n hx hb dX12_save_63 rfl (lv_at hl 2 rfl) ?_
        refine va_get (ci := 12) (v := .ref (ma 7)) (C := RX12) (T := TX12) (N := 38) hx hb hts inX12 hown hK.1 hP 0 rfl rfl 7 (by decide) (hts (.fieldLink RX12 22 "SkimmedSonsModel" "blueOf" "[I") (by decide +kernel)) (fun _ h9 => h9) rfl dX12_save_64 ?_
        refine lv_iload_n hx hb dX12_save_67 rfl (lv_at hl 1 rfl) ?_
        refine z_iald hx hb hK.1 hP 6 rfl (by omega) dX12_save_68 ?_
        refine W.eq (g2 := F0 m 69 ls [.int (iI (pv 2 5)), .int (iI 13), .ref (ma 22)]) rfl ?_
        refine z_iast hx hb hK.1 hP hD hS 7 rfl (by omega) dX12_save_69 (fun H locs hP hD hS => ?_)
        have hP : va_P X.1 vwCl (zb [WMo o ma mi ml, WMp X ma pv, Wa X 2 (ma 22) 105 (updZ (updZ (updZ (updZ (updZ (updZ (updZ (updZ (updZ (updZ (updZ (updZ (updZ (updZ sa 0 (pv 0 2)) 1 (pv 0 3)) 2 (pv 0 4)) 3 (pv 0 5)) 4 (pv 0 1)) 5 (pv 1 2)) 6 (pv 1 3)) 7 (pv 1 4)) 8 (pv 1 5)) 9 (pv 1 1)) 10 (pv 2 2)) 11 (pv 2 3)) 12 (pv 2 4)) 13 (pv 2 5))]) H := hP
        have hD : va_D A (zb [WMo o ma mi ml, WMp X ma pv, Wa X 2 (ma 22) 105 (updZ (updZ (updZ (updZ (updZ (updZ (updZ (updZ (updZ (updZ (updZ (updZ (updZ (updZ sa 0 (pv 0 2)) 1 (pv 0 3)) 2 (pv 0 4)) 3 (pv 0 5)) 4 (pv 0 1)) 5 (pv 1 2)) 6 (pv 1 3)) 7 (pv 1 4)) 8 (pv 1 5)) 9 (pv 1 1)) 10 (pv 2 2)) 11 (pv 2 3)) 12 (pv 2 4)) 13 (pv 2 5))]) := hD
        refine lv_aload_n hx hb dX12_save_70 rfl (lv_at hl 2 rfl) ?_
        refine va_get (ci := 12) (v := .ref (ma 22)) (C := RX12) (T := TX12) (N := 38) hx hb hts inX12 hown hK.1 hP 0 rfl rfl 22 (by decide) (hts (.fieldLink RX12 47 "SkimmedSonsModel" "saved" "[I") (by decide +kernel)) (fun _ h9 => h9) rfl dX12_save_71 ?_
        refine lv_iload_n hx hb dX12_save_74 rfl (lv_at hl 0 rfl) ?_
        refine lv_iconst (v := iI 4) hx hb dX12_save_75 (by decide) ?_
        refine z_iadd hx hb dX12_save_76 ?_
        refine W.eq (g2 := F0 m 77 ls [.int (iI 14), .ref (ma 22)]) rfl ?_
        refine lv_aload_n hx hb dX12_save_77 rfl (lv_at hl 2 rfl) ?_
        refine va_get (ci := 12) (v := .ref (ma 8)) (C := RX12) (T := TX12) (N := 38) hx hb hts inX12 hown hK.1 hP 0 rfl rfl 8 (by decide) (hts (.fieldLink RX12 25 "SkimmedSonsModel" "stillOf" "[I") (by decide +kernel)) (fun _ h9 => h9) rfl dX12_save_78 ?_
        refine lv_iload_n hx hb dX12_save_81 rfl (lv_at hl 1 rfl) ?_
        refine z_iald hx hb hK.1 hP 2 rfl (by omega) dX12_save_82 ?_
        refine W.eq (g2 := F0 m 83 ls [.int (iI (pv 2 1)), .int (iI 14), .ref (ma 22)]) rfl ?_
        refine z_iast hx hb hK.1 hP hD hS 7 rfl (by omega) dX12_save_83 (fun H locs hP hD hS => ?_)
        have hP : va_P X.1 vwCl (zb [WMo o ma mi ml, WMp X ma pv, Wa X 2 (ma 22) 105 (updZ (updZ (updZ (updZ (updZ (updZ (updZ (updZ (updZ (updZ (updZ (updZ (updZ (updZ (updZ sa 0 (pv 0 2)) 1 (pv 0 3)) 2 (pv 0 4)) 3 (pv 0 5)) 4 (pv 0 1)) 5 (pv 1 2)) 6 (pv 1 3)) 7 (pv 1 4)) 8 (pv 1 5)) 9 (pv 1 1)) 10 (pv 2 2)) 11 (pv 2 3)) 12 (pv 2 4)) 13 (pv 2 5)) 14 (pv 2 1))]) H := hP
        have hD : va_D A (zb [WMo o ma mi ml, WMp X ma pv, Wa X 2 (ma 22) 105 (updZ (updZ (updZ (updZ (updZ (updZ (updZ (updZ (updZ (updZ (updZ (updZ (updZ (updZ (updZ sa 0 (pv 0 2)) 1 (pv 0 3)) 2 (pv 0 4)) 3 (pv 0 5)) 4 (pv 0 1)) 5 (pv 1 2)) 6 (pv 1 3)) 7 (pv 1 4)) 8 (pv 1 5)) 9 (pv 1 1)) 10 (pv 2 2)) 11 (pv 2 3)) 12 (pv 2 4)) 13 (pv 2 5)) 14 (pv 2 1))]) := hD
        refine z_iinc (k := 1) (lv' := [(2, .int (iI 3)), (3, .int (iI 10)), (0, .ref o), (1, .int (iI 0))]) hx hb dX12_save_84 hl rfl (by decide) rfl (fun ls hl => ?_)
        refine lv_goto (tgt := 2) hx hb dX12_save_87 (by decide) ?_
        refine lv_iload_n hx hb dX12_save_2 rfl (lv_at hl 0 rfl) ?_
        refine lv_iconst (v := iI 3) hx hb dX12_save_3 (by decide) ?_
        refine z_icmp_ge (tgt := 90) hx hb (by omega) dX12_save_4 (by decide) (fun c_4 => ?_) (fun c_4 => ?_)
        · skip
          have hw : zb [WMo o ma mi ml, WMp X ma pv, Wa X 2 (ma 22) 105 (updZ (updZ (updZ (updZ (updZ (updZ (updZ (updZ (updZ (updZ (updZ (updZ (updZ (updZ (updZ sa 0 (pv 0 2)) 1 (pv 0 3)) 2 (pv 0 4)) 3 (pv 0 5)) 4 (pv 0 1)) 5 (pv 1 2)) 6 (pv 1 3)) 7 (pv 1 4)) 8 (pv 1 5)) 9 (pv 1 1)) 10 (pv 2 2)) 11 (pv 2 3)) 12 (pv 2 4)) 13 (pv 2 5)) 14 (pv 2 1))] = zb [WMo o ma mi ml, WMp X ma pv, Wa X 2 (ma 22) 105 (savF 0 pv sa)] := by rw [← savF_0]
          rw [hw] at hP hD
          exact z_vret hQ hx hb hr hlocks hS ⟨(Nat.le_of_ble_eq_true rfl), (Nat.le_of_ble_eq_true rfl)⟩ dX12_save_90 () rfl trivial hP hD
        · skip
          exact absurd c_4 (by omega)
set_option maxHeartbeats 1000000 in
set_option maxRecDepth 100000 in
theorem c_X12_load_0 (l : Launch) (X : zX) (o : Nat) (ma : Nat → Nat) (mi : Nat → Int) (ml : Nat → Int) (pv : Nat → Nat → Int) (sa : Nat → Int) (pv0 : Nat → Nat → Int) (hld : LdOk 0 sa pv pv0) : zF l X yX12_load wsX12_load 0 0 [.ref o, .int (iI 0)] (zb [WMo o ma mi ml, WMp X ma pv, Wa X 2 (ma 22) 105 sa]) none (zb [WMo o ma mi ml, WMp X ma pv0, Wa X 2 (ma 22) 105 sa]) := by
  refine z_enter (cc := cX12_load) (maxL := 4) (ret := none) (by decide) rfl (Nat.le_of_ble_eq_true rfl) ?_
  intro p e s m below meth c A ls Q hQ hE hl hP hD
  obtain ⟨hx, hb, hr, hml, hown, hts, hlocks, hnm, hA, hK⟩ := hE
  have hown : s.vm.findClass RX12 = some m.cls := hown
  have hS : va_S A s.heap s.heap [] := va_S.rf
  have hl : lv_has ls 4 [(0, .ref o), (1, .int (iI 0))] := hl
  have inX12 : ∀ w ∈ u_ws RX12 TX12 38, w ∈ wsX12_load := by decide +kernel
  refine lv_iconst (v := iI 0) hx hb dX12_load_0 (by decide) ?_
  refine lv_istore_n (lv' := [(2, .int (iI 0)), (0, .ref o), (1, .int (iI 0))]) hx hb dX12_load_1 rfl hl (by decide) rfl (fun ls hl => ?_)
  refine lv_iload_n hx hb dX12_load_2 rfl (lv_at hl 0 rfl) ?_
  refine lv_iconst (v := iI 3) hx hb dX12_load_3 (by decide) ?_
  refine z_icmp_ge (tgt := 90) hx hb (by omega) dX12_load_4 (by decide) (fun c_1 => ?_) (fun c_1 => ?_)
  · skip
    exact absurd c_1 (by omega)
  · skip
    refine lv_bipush (v := iI 15) hx hb dX12_load_7 (by decide) ?_
    refine lv_iload_n hx hb dX12_load_9 rfl (lv_at hl 2 rfl) ?_
    refine z_imul hx hb dX12_load_10 ?_
    refine W.eq (g2 := F0 m 11 ls [.int (iI 0)]) rfl ?_
    refine lv_iconst (v := iI 5) hx hb dX12_load_11 (by decide) ?_
    refine lv_iload_n hx hb dX12_load_12 rfl (lv_at hl 0 rfl) ?_
    refine z_imul hx hb dX12_load_13 ?_
    refine W.eq (g2 := F0 m 14 ls [.int (iI 0), .int (iI 0)]) rfl ?_
    refine z_iadd hx hb dX12_load_14 ?_
    refine W.eq (g2 := F0 m 15 ls [.int (iI 0)]) rfl ?_
    refine lv_istore_n (lv' := [(3, .int (iI 0)), (2, .int (iI 0)), (0, .ref o), (1, .int (iI 0))]) hx hb dX12_load_15 rfl hl (by decide) rfl (fun ls hl => ?_)
    refine lv_aload_n hx hb dX12_load_16 rfl (lv_at hl 2 rfl) ?_
    refine va_get (ci := 12) (v := .ref (ma 4)) (C := RX12) (T := TX12) (N := 38) hx hb hts inX12 hown hK.1 hP 0 rfl rfl 4 (by decide) (hts (.fieldLink RX12 13 "SkimmedSonsModel" "fatOf" "[I") (by decide +kernel)) (fun _ h9 => h9) rfl dX12_load_17 ?_
    refine lv_iload_n hx hb dX12_load_20 rfl (lv_at hl 1 rfl) ?_
    refine lv_aload_n hx hb dX12_load_21 rfl (lv_at hl 2 rfl) ?_
    refine va_get (ci := 12) (v := .ref (ma 22)) (C := RX12) (T := TX12) (N := 38) hx hb hts inX12 hown hK.1 hP 0 rfl rfl 22 (by decide) (hts (.fieldLink RX12 47 "SkimmedSonsModel" "saved" "[I") (by decide +kernel)) (fun _ h9 => h9) rfl dX12_load_22 ?_
    refine lv_iload_n hx hb dX12_load_25 rfl (lv_at hl 0 rfl) ?_
    refine z_iald hx hb hK.1 hP 7 rfl (by omega) dX12_load_26 ?_
    refine W.eq (g2 := F0 m 27 ls [.int (iI (sa 0)), .int (iI 0), .ref (ma 4)]) rfl ?_
    refine z_iast hx hb hK.1 hP hD hS 3 rfl (by omega) dX12_load_27 (fun H locs hP hD hS => ?_)
    have hP : va_P X.1 vwCl (zb [WMo o ma mi ml, WMx X ma (fun j => pv j 0) (fun j => pv j 1) (updZ (fun j => pv j 2) 0 (sa 0)) (fun j => pv j 3) (fun j => pv j 4) (fun j => pv j 5), Wa X 2 (ma 22) 105 sa]) H := hP
    have hD : va_D A (zb [WMo o ma mi ml, WMx X ma (fun j => pv j 0) (fun j => pv j 1) (updZ (fun j => pv j 2) 0 (sa 0)) (fun j => pv j 3) (fun j => pv j 4) (fun j => pv j 5), Wa X 2 (ma 22) 105 sa]) := hD
    refine lv_aload_n hx hb dX12_load_28 rfl (lv_at hl 2 rfl) ?_
    refine va_get (ci := 12) (v := .ref (ma 5)) (C := RX12) (T := TX12) (N := 38) hx hb hts inX12 hown hK.1 hP 0 rfl rfl 5 (by decide) (hts (.fieldLink RX12 16 "SkimmedSonsModel" "creamOf" "[I") (by decide +kernel)) (fun _ h9 => h9) rfl dX12_load_29 ?_
    refine lv_iload_n hx hb dX12_load_32 rfl (lv_at hl 1 rfl) ?_
    refine lv_aload_n hx hb dX12_load_33 rfl (lv_at hl 2 rfl) ?_
    refine va_get (ci := 12) (v := .ref (ma 22)) (C := RX12) (T := TX12) (N := 38) hx hb hts inX12 hown hK.1 hP 0 rfl rfl 22 (by decide) (hts (.fieldLink RX12 47 "SkimmedSonsModel" "saved" "[I") (by decide +kernel)) (fun _ h9 => h9) rfl dX12_load_34 ?_
    refine lv_iload_n hx hb dX12_load_37 rfl (lv_at hl 0 rfl) ?_
    refine lv_iconst (v := iI 1) hx hb dX12_load_38 (by decide) ?_
    refine z_iadd hx hb dX12_load_39 ?_
    refine W.eq (g2 := F0 m 40 ls [.int (iI 1), .ref (ma 22), .int (iI 0), .ref (ma 5)]) rfl ?_
    refine z_iald hx hb hK.1 hP 7 rfl (by omega) dX12_load_40 ?_
    refine W.eq (g2 := F0 m 41 ls [.int (iI (sa 1)), .int (iI 0), .ref (ma 5)]) rfl ?_
    refine z_iast hx hb hK.1 hP hD hS 4 rfl (by omega) dX12_load_41 (fun H locs hP hD hS => ?_)
    have hP : va_P X.1 vwCl (zb [WMo o ma mi ml, WMx X ma (fun j => pv j 0) (fun j => pv j 1) (updZ (fun j => pv j 2) 0 (sa 0)) (updZ (fun j => pv j 3) 0 (sa 1)) (fun j => pv j 4) (fun j => pv j 5), Wa X 2 (ma 22) 105 sa]) H := hP
    have hD : va_D A (zb [WMo o ma mi ml, WMx X ma (fun j => pv j 0) (fun j => pv j 1) (updZ (fun j => pv j 2) 0 (sa 0)) (updZ (fun j => pv j 3) 0 (sa 1)) (fun j => pv j 4) (fun j => pv j 5), Wa X 2 (ma 22) 105 sa]) := hD
    refine lv_aload_n hx hb dX12_load_42 rfl (lv_at hl 2 rfl) ?_
    refine va_get (ci := 12) (v := .ref (ma 6)) (C := RX12) (T := TX12) (N := 38) hx hb hts inX12 hown hK.1 hP 0 rfl rfl 6 (by decide) (hts (.fieldLink RX12 19 "SkimmedSonsModel" "filmOf" "[I") (by decide +kernel)) (fun _ h9 => h9) rfl dX12_load_43 ?_
    refine lv_iload_n hx hb dX12_load_46 rfl (lv_at hl 1 rfl) ?_
    refine lv_aload_n hx hb dX12_load_47 rfl (lv_at hl 2 rfl) ?_
    refine va_get (ci := 12) (v := .ref (ma 22)) (C := RX12) (T := TX12) (N := 38) hx hb hts inX12 hown hK.1 hP 0 rfl rfl 22 (by decide) (hts (.fieldLink RX12 47 "SkimmedSonsModel" "saved" "[I") (by decide +kernel)) (fun _ h9 => h9) rfl dX12_load_48 ?_
    refine lv_iload_n hx hb dX12_load_51 rfl (lv_at hl 0 rfl) ?_
    refine lv_iconst (v := iI 2) hx hb dX12_load_52 (by decide) ?_
    refine z_iadd hx hb dX12_load_53 ?_
    refine W.eq (g2 := F0 m 54 ls [.int (iI 2), .ref (ma 22), .int (iI 0), .ref (ma 6)]) rfl ?_
    refine z_iald hx hb hK.1 hP 7 rfl (by omega) dX12_load_54 ?_
    refine W.eq (g2 := F0 m 55 ls [.int (iI (sa 2)), .int (iI 0), .ref (ma 6)]) rfl ?_
    refine z_iast hx hb hK.1 hP hD hS 5 rfl (by omega) dX12_load_55 (fun H locs hP hD hS => ?_)
    have hP : va_P X.1 vwCl (zb [WMo o ma mi ml, WMx X ma (fun j => pv j 0) (fun j => pv j 1) (updZ (fun j => pv j 2) 0 (sa 0)) (updZ (fun j => pv j 3) 0 (sa 1)) (updZ (fun j => pv j 4) 0 (sa 2)) (fun j => pv j 5), Wa X 2 (ma 22) 105 sa]) H := hP
    have hD : va_D A (zb [WMo o ma mi ml, WMx X ma (fun j => pv j 0) (fun j => pv j 1) (updZ (fun j => pv j 2) 0 (sa 0)) (updZ (fun j => pv j 3) 0 (sa 1)) (updZ (fun j => pv j 4) 0 (sa 2)) (fun j => pv j 5), Wa X 2 (ma 22) 105 sa]) := hD
    refine lv_aload_n hx hb dX12_load_56 rfl (lv_at hl 2 rfl) ?_
    refine va_get (ci := 12) (v := .ref (ma 7)) (C := RX12) (T := TX12) (N := 38) hx hb hts inX12 hown hK.1 hP 0 rfl rfl 7 (by decide) (hts (.fieldLink RX12 22 "SkimmedSonsModel" "blueOf" "[I") (by decide +kernel)) (fun _ h9 => h9) rfl dX12_load_57 ?_
    refine lv_iload_n hx hb dX12_load_60 rfl (lv_at hl 1 rfl) ?_
    refine lv_aload_n hx hb dX12_load_61 rfl (lv_at hl 2 rfl) ?_
    refine va_get (ci := 12) (v := .ref (ma 22)) (C := RX12) (T := TX12) (N := 38) hx hb hts inX12 hown hK.1 hP 0 rfl rfl 22 (by decide) (hts (.fieldLink RX12 47 "SkimmedSonsModel" "saved" "[I") (by decide +kernel)) (fun _ h9 => h9) rfl dX12_load_62 ?_
    refine lv_iload_n hx hb dX12_load_65 rfl (lv_at hl 0 rfl) ?_
    refine lv_iconst (v := iI 3) hx hb dX12_load_66 (by decide) ?_
    refine z_iadd hx hb dX12_load_67 ?_
    refine W.eq (g2 := F0 m 68 ls [.int (iI 3), .ref (ma 22), .int (iI 0), .ref (ma 7)]) rfl ?_
    refine z_iald hx hb hK.1 hP 7 rfl (by omega) dX12_load_68 ?_
    refine W.eq (g2 := F0 m 69 ls [.int (iI (sa 3)), .int (iI 0), .ref (ma 7)]) rfl ?_
    refine z_iast hx hb hK.1 hP hD hS 6 rfl (by omega) dX12_load_69 (fun H locs hP hD hS => ?_)
    have hP : va_P X.1 vwCl (zb [WMo o ma mi ml, WMx X ma (fun j => pv j 0) (fun j => pv j 1) (updZ (fun j => pv j 2) 0 (sa 0)) (updZ (fun j => pv j 3) 0 (sa 1)) (updZ (fun j => pv j 4) 0 (sa 2)) (updZ (fun j => pv j 5) 0 (sa 3)), Wa X 2 (ma 22) 105 sa]) H := hP
    have hD : va_D A (zb [WMo o ma mi ml, WMx X ma (fun j => pv j 0) (fun j => pv j 1) (updZ (fun j => pv j 2) 0 (sa 0)) (updZ (fun j => pv j 3) 0 (sa 1)) (updZ (fun j => pv j 4) 0 (sa 2)) (updZ (fun j => pv j 5) 0 (sa 3)), Wa X 2 (ma 22) 105 sa]) := hD
    refine lv_aload_n hx hb dX12_load_70 rfl (lv_at hl 2 rfl) ?_
    refine va_get (ci := 12) (v := .ref (ma 8)) (C := RX12) (T := TX12) (N := 38) hx hb hts inX12 hown hK.1 hP 0 rfl rfl 8 (by decide) (hts (.fieldLink RX12 25 "SkimmedSonsModel" "stillOf" "[I") (by decide +kernel)) (fun _ h9 => h9) rfl dX12_load_71 ?_
    refine lv_iload_n hx hb dX12_load_74 rfl (lv_at hl 1 rfl) ?_
    refine lv_aload_n hx hb dX12_load_75 rfl (lv_at hl 2 rfl) ?_
    refine va_get (ci := 12) (v := .ref (ma 22)) (C := RX12) (T := TX12) (N := 38) hx hb hts inX12 hown hK.1 hP 0 rfl rfl 22 (by decide) (hts (.fieldLink RX12 47 "SkimmedSonsModel" "saved" "[I") (by decide +kernel)) (fun _ h9 => h9) rfl dX12_load_76 ?_
    refine lv_iload_n hx hb dX12_load_79 rfl (lv_at hl 0 rfl) ?_
    refine lv_iconst (v := iI 4) hx hb dX12_load_80 (by decide) ?_
    refine z_iadd hx hb dX12_load_81 ?_
    refine W.eq (g2 := F0 m 82 ls [.int (iI 4), .ref (ma 22), .int (iI 0), .ref (ma 8)]) rfl ?_
    refine z_iald hx hb hK.1 hP 7 rfl (by omega) dX12_load_82 ?_
    refine W.eq (g2 := F0 m 83 ls [.int (iI (sa 4)), .int (iI 0), .ref (ma 8)]) rfl ?_
    refine z_iast hx hb hK.1 hP hD hS 2 rfl (by omega) dX12_load_83 (fun H locs hP hD hS => ?_)
    have hP : va_P X.1 vwCl (zb [WMo o ma mi ml, WMx X ma (fun j => pv j 0) (updZ (fun j => pv j 1) 0 (sa 4)) (updZ (fun j => pv j 2) 0 (sa 0)) (updZ (fun j => pv j 3) 0 (sa 1)) (updZ (fun j => pv j 4) 0 (sa 2)) (updZ (fun j => pv j 5) 0 (sa 3)), Wa X 2 (ma 22) 105 sa]) H := hP
    have hD : va_D A (zb [WMo o ma mi ml, WMx X ma (fun j => pv j 0) (updZ (fun j => pv j 1) 0 (sa 4)) (updZ (fun j => pv j 2) 0 (sa 0)) (updZ (fun j => pv j 3) 0 (sa 1)) (updZ (fun j => pv j 4) 0 (sa 2)) (updZ (fun j => pv j 5) 0 (sa 3)), Wa X 2 (ma 22) 105 sa]) := hD
    refine z_iinc (k := 1) (lv' := [(2, .int (iI 1)), (3, .int (iI 0)), (0, .ref o), (1, .int (iI 0))]) hx hb dX12_load_84 hl rfl (by decide) rfl (fun ls hl => ?_)
    refine lv_goto (tgt := 2) hx hb dX12_load_87 (by decide) ?_
    refine lv_iload_n hx hb dX12_load_2 rfl (lv_at hl 0 rfl) ?_
    refine lv_iconst (v := iI 3) hx hb dX12_load_3 (by decide) ?_
    refine z_icmp_ge (tgt := 90) hx hb (by omega) dX12_load_4 (by decide) (fun c_2 => ?_) (fun c_2 => ?_)
    · skip
      exact absurd c_2 (by omega)
    · skip
      refine lv_bipush (v := iI 15) hx hb dX12_load_7 (by decide) ?_
      refine lv_iload_n hx hb dX12_load_9 rfl (lv_at hl 3 rfl) ?_
      refine z_imul hx hb dX12_load_10 ?_
      refine W.eq (g2 := F0 m 11 ls [.int (iI 0)]) rfl ?_
      refine lv_iconst (v := iI 5) hx hb dX12_load_11 (by decide) ?_
      refine lv_iload_n hx hb dX12_load_12 rfl (lv_at hl 0 rfl) ?_
      refine z_imul hx hb dX12_load_13 ?_
      refine W.eq (g2 := F0 m 14 ls [.int (iI 5), .int (iI 0)]) rfl ?_
      refine z_iadd hx hb dX12_load_14 ?_
      refine W.eq (g2 := F0 m 15 ls [.int (iI 5)]) rfl ?_
      refine lv_istore_n (lv' := [(3, .int (iI 5)), (2, .int (iI 1)), (0, .ref o), (1, .int (iI 0))]) hx hb dX12_load_15 rfl hl (by decide) rfl (fun ls hl => ?_)
      refine lv_aload_n hx hb dX12_load_16 rfl (lv_at hl 2 rfl) ?_
      refine va_get (ci := 12) (v := .ref (ma 4)) (C := RX12) (T := TX12) (N := 38) hx hb hts inX12 hown hK.1 hP 0 rfl rfl 4 (by decide) (hts (.fieldLink RX12 13 "SkimmedSonsModel" "fatOf" "[I") (by decide +kernel)) (fun _ h9 => h9) rfl dX12_load_17 ?_
      refine lv_iload_n hx hb dX12_load_20 rfl (lv_at hl 1 rfl) ?_
      refine lv_aload_n hx hb dX12_load_21 rfl (lv_at hl 2 rfl) ?_
      refine va_get (ci := 12) (v := .ref (ma 22)) (C := RX12) (T := TX12) (N := 38) hx hb hts inX12 hown hK.1 hP 0 rfl rfl 22 (by decide) (hts (.fieldLink RX12 47 "SkimmedSonsModel" "saved" "[I") (by decide +kernel)) (fun _ h9 => h9) rfl dX12_load_22 ?_
      refine lv_iload_n hx hb dX12_load_25 rfl (lv_at hl 0 rfl) ?_
      refine z_iald hx hb hK.1 hP 7 rfl (by omega) dX12_load_26 ?_
      refine W.eq (g2 := F0 m 27 ls [.int (iI (sa 5)), .int (iI 1), .ref (ma 4)]) rfl ?_
      refine z_iast hx hb hK.1 hP hD hS 3 rfl (by omega) dX12_load_27 (fun H locs hP hD hS => ?_)
      have hP : va_P X.1 vwCl (zb [WMo o ma mi ml, WMx X ma (fun j => pv j 0) (updZ (fun j => pv j 1) 0 (sa 4)) (updZ (updZ (fun j => pv j 2) 0 (sa 0)) 1 (sa 5)) (updZ (fun j => pv j 3) 0 (sa 1)) (updZ (fun j => pv j 4) 0 (sa 2)) (updZ (fun j => pv j 5) 0 (sa 3)), Wa X 2 (ma 22) 105 sa]) H := hP
      have hD : va_D A (zb [WMo o ma mi ml, WMx X ma (fun j => pv j 0) (updZ (fun j => pv j 1) 0 (sa 4)) (updZ (updZ (fun j => pv j 2) 0 (sa 0)) 1 (sa 5)) (updZ (fun j => pv j 3) 0 (sa 1)) (updZ (fun j => pv j 4) 0 (sa 2)) (updZ (fun j => pv j 5) 0 (sa 3)), Wa X 2 (ma 22) 105 sa]) := hD
      refine lv_aload_n hx hb dX12_load_28 rfl (lv_at hl 2 rfl) ?_
      refine va_get (ci := 12) (v := .ref (ma 5)) (C := RX12) (T := TX12) (N := 38) hx hb hts inX12 hown hK.1 hP 0 rfl rfl 5 (by decide) (hts (.fieldLink RX12 16 "SkimmedSonsModel" "creamOf" "[I") (by decide +kernel)) (fun _ h9 => h9) rfl dX12_load_29 ?_
      refine lv_iload_n hx hb dX12_load_32 rfl (lv_at hl 1 rfl) ?_
      refine lv_aload_n hx hb dX12_load_33 rfl (lv_at hl 2 rfl) ?_
      refine va_get (ci := 12) (v := .ref (ma 22)) (C := RX12) (T := TX12) (N := 38) hx hb hts inX12 hown hK.1 hP 0 rfl rfl 22 (by decide) (hts (.fieldLink RX12 47 "SkimmedSonsModel" "saved" "[I") (by decide +kernel)) (fun _ h9 => h9) rfl dX12_load_34 ?_
      refine lv_iload_n hx hb dX12_load_37 rfl (lv_at hl 0 rfl) ?_
      refine lv_iconst (v := iI 1) hx hb dX12_load_38 (by decide) ?_
      refine z_iadd hx hb dX12_load_39 ?_
      refine W.eq (g2 := F0 m 40 ls [.int (iI 6), .ref (ma 22), .int (iI 1), .ref (ma 5)]) rfl ?_
      refine z_iald hx hb hK.1 hP 7 rfl (by omega) dX12_load_40 ?_
      refine W.eq (g2 := F0 m 41 ls [.int (iI (sa 6)), .int (iI 1), .ref (ma 5)]) rfl ?_
      refine z_iast hx hb hK.1 hP hD hS 4 rfl (by omega) dX12_load_41 (fun H locs hP hD hS => ?_)
      have hP : va_P X.1 vwCl (zb [WMo o ma mi ml, WMx X ma (fun j => pv j 0) (updZ (fun j => pv j 1) 0 (sa 4)) (updZ (updZ (fun j => pv j 2) 0 (sa 0)) 1 (sa 5)) (updZ (updZ (fun j => pv j 3) 0 (sa 1)) 1 (sa 6)) (updZ (fun j => pv j 4) 0 (sa 2)) (updZ (fun j => pv j 5) 0 (sa 3)), Wa X 2 (ma 22) 105 sa]) H := hP
      have hD : va_D A (zb [WMo o ma mi ml, WMx X ma (fun j => pv j 0) (updZ (fun j => pv j 1) 0 (sa 4)) (updZ (updZ (fun j => pv j 2) 0 (sa 0)) 1 (sa 5)) (updZ (updZ (fun j => pv j 3) 0 (sa 1)) 1 (sa 6)) (updZ (fun j => pv j 4) 0 (sa 2)) (updZ (fun j => pv j 5) 0 (sa 3)), Wa X 2 (ma 22) 105 sa]) := hD
      refine lv_aload_n hx hb dX12_load_42 rfl (lv_at hl 2 rfl) ?_
      refine va_get (ci := 12) (v := .ref (ma 6)) (C := RX12) (T := TX12) (N := 38) hx hb hts inX12 hown hK.1 hP 0 rfl rfl 6 (by decide) (hts (.fieldLink RX12 19 "SkimmedSonsModel" "filmOf" "[I") (by decide +kernel)) (fun _ h9 => h9) rfl dX12_load_43 ?_
      refine lv_iload_n hx hb dX12_load_46 rfl (lv_at hl 1 rfl) ?_
      refine lv_aload_n hx hb dX12_load_47 rfl (lv_at hl 2 rfl) ?_
      refine va_get (ci := 12) (v := .ref (ma 22)) (C := RX12) (T := TX12) (N := 38) hx hb hts inX12 hown hK.1 hP 0 rfl rfl 22 (by decide) (hts (.fieldLink RX12 47 "SkimmedSonsModel" "saved" "[I") (by decide +kernel)) (fun _ h9 => h9) rfl dX12_load_48 ?_
      refine lv_iload_n hx hb dX12_load_51 rfl (lv_at hl 0 rfl) ?_
      refine lv_iconst (v := iI 2) hx hb dX12_load_52 (by decide) ?_
      refine z_iadd hx hb dX12_load_53 ?_
      refine W.eq (g2 := F0 m 54 ls [.int (iI 7), .ref (ma 22), .int (iI 1), .ref (ma 6)]) rfl ?_
      refine z_iald hx hb hK.1 hP 7 rfl (by omega) dX12_load_54 ?_
      refine W.eq (g2 := F0 m 55 ls [.int (iI (sa 7)), .int (iI 1), .ref (ma 6)]) rfl ?_
      refine z_iast hx hb hK.1 hP hD hS 5 rfl (by omega) dX12_load_55 (fun H locs hP hD hS => ?_)
      have hP : va_P X.1 vwCl (zb [WMo o ma mi ml, WMx X ma (fun j => pv j 0) (updZ (fun j => pv j 1) 0 (sa 4)) (updZ (updZ (fun j => pv j 2) 0 (sa 0)) 1 (sa 5)) (updZ (updZ (fun j => pv j 3) 0 (sa 1)) 1 (sa 6)) (updZ (updZ (fun j => pv j 4) 0 (sa 2)) 1 (sa 7)) (updZ (fun j => pv j 5) 0 (sa 3)), Wa X 2 (ma 22) 105 sa]) H := hP
      have hD : va_D A (zb [WMo o ma mi ml, WMx X ma (fun j => pv j 0) (updZ (fun j => pv j 1) 0 (sa 4)) (updZ (updZ (fun j => pv j 2) 0 (sa 0)) 1 (sa 5)) (updZ (updZ (fun j => pv j 3) 0 (sa 1)) 1 (sa 6)) (updZ (updZ (fun j => pv j 4) 0 (sa 2)) 1 (sa 7)) (updZ (fun j => pv j 5) 0 (sa 3)), Wa X 2 (ma 22) 105 sa]) := hD
      refine lv_aload_n hx hb dX12_load_56 rfl (lv_at hl 2 rfl) ?_
      refine va_get (ci := 12) (v := .ref (ma 7)) (C := RX12) (T := TX12) (N := 38) hx hb hts inX12 hown hK.1 hP 0 rfl rfl 7 (by decide) (hts (.fieldLink RX12 22 "SkimmedSonsModel" "blueOf" "[I") (by decide +kernel)) (fun _ h9 => h9) rfl dX12_load_57 ?_
      refine lv_iload_n hx hb dX12_load_60 rfl (lv_at hl 1 rfl) ?_
      refine lv_aload_n hx hb dX12_load_61 rfl (lv_at hl 2 rfl) ?_
      refine va_get (ci := 12) (v := .ref (ma 22)) (C := RX12) (T := TX12) (N := 38) hx hb hts inX12 hown hK.1 hP 0 rfl rfl 22 (by decide) (hts (.fieldLink RX12 47 "SkimmedSonsModel" "saved" "[I") (by decide +kernel)) (fun _ h9 => h9) rfl dX12_load_62 ?_
      refine lv_iload_n hx hb dX12_load_65 rfl (lv_at hl 0 rfl) ?_
      refine lv_iconst (v := iI 3) hx hb dX12_load_66 (by decide) ?_
      refine z_iadd hx hb dX12_load_67 ?_
      refine W.eq (g2 := F0 m 68 ls [.int (iI 8), .ref (ma 22), .int (iI 1), .ref (ma 7)]) rfl ?_
      refine z_iald hx hb hK.1 hP 7 rfl (by omega) dX12_load_68 ?_
      refine W.eq (g2 := F0 m 69 ls [.int (iI (sa 8)), .int (iI 1), .ref (ma 7)]) rfl ?_
      refine z_iast hx hb hK.1 hP hD hS 6 rfl (by omega) dX12_load_69 (fun H locs hP hD hS => ?_)
      have hP : va_P X.1 vwCl (zb [WMo o ma mi ml, WMx X ma (fun j => pv j 0) (updZ (fun j => pv j 1) 0 (sa 4)) (updZ (updZ (fun j => pv j 2) 0 (sa 0)) 1 (sa 5)) (updZ (updZ (fun j => pv j 3) 0 (sa 1)) 1 (sa 6)) (updZ (updZ (fun j => pv j 4) 0 (sa 2)) 1 (sa 7)) (updZ (updZ (fun j => pv j 5) 0 (sa 3)) 1 (sa 8)), Wa X 2 (ma 22) 105 sa]) H := hP
      have hD : va_D A (zb [WMo o ma mi ml, WMx X ma (fun j => pv j 0) (updZ (fun j => pv j 1) 0 (sa 4)) (updZ (updZ (fun j => pv j 2) 0 (sa 0)) 1 (sa 5)) (updZ (updZ (fun j => pv j 3) 0 (sa 1)) 1 (sa 6)) (updZ (updZ (fun j => pv j 4) 0 (sa 2)) 1 (sa 7)) (updZ (updZ (fun j => pv j 5) 0 (sa 3)) 1 (sa 8)), Wa X 2 (ma 22) 105 sa]) := hD
      refine lv_aload_n hx hb dX12_load_70 rfl (lv_at hl 2 rfl) ?_
      refine va_get (ci := 12) (v := .ref (ma 8)) (C := RX12) (T := TX12) (N := 38) hx hb hts inX12 hown hK.1 hP 0 rfl rfl 8 (by decide) (hts (.fieldLink RX12 25 "SkimmedSonsModel" "stillOf" "[I") (by decide +kernel)) (fun _ h9 => h9) rfl dX12_load_71 ?_
      refine lv_iload_n hx hb dX12_load_74 rfl (lv_at hl 1 rfl) ?_
      refine lv_aload_n hx hb dX12_load_75 rfl (lv_at hl 2 rfl) ?_
      refine va_get (ci := 12) (v := .ref (ma 22)) (C := RX12) (T := TX12) (N := 38) hx hb hts inX12 hown hK.1 hP 0 rfl rfl 22 (by decide) (hts (.fieldLink RX12 47 "SkimmedSonsModel" "saved" "[I") (by decide +kernel)) (fun _ h9 => h9) rfl dX12_load_76 ?_
      refine lv_iload_n hx hb dX12_load_79 rfl (lv_at hl 0 rfl) ?_
      refine lv_iconst (v := iI 4) hx hb dX12_load_80 (by decide) ?_
      refine z_iadd hx hb dX12_load_81 ?_
      refine W.eq (g2 := F0 m 82 ls [.int (iI 9), .ref (ma 22), .int (iI 1), .ref (ma 8)]) rfl ?_
      refine z_iald hx hb hK.1 hP 7 rfl (by omega) dX12_load_82 ?_
      refine W.eq (g2 := F0 m 83 ls [.int (iI (sa 9)), .int (iI 1), .ref (ma 8)]) rfl ?_
      refine z_iast hx hb hK.1 hP hD hS 2 rfl (by omega) dX12_load_83 (fun H locs hP hD hS => ?_)
      have hP : va_P X.1 vwCl (zb [WMo o ma mi ml, WMx X ma (fun j => pv j 0) (updZ (updZ (fun j => pv j 1) 0 (sa 4)) 1 (sa 9)) (updZ (updZ (fun j => pv j 2) 0 (sa 0)) 1 (sa 5)) (updZ (updZ (fun j => pv j 3) 0 (sa 1)) 1 (sa 6)) (updZ (updZ (fun j => pv j 4) 0 (sa 2)) 1 (sa 7)) (updZ (updZ (fun j => pv j 5) 0 (sa 3)) 1 (sa 8)), Wa X 2 (ma 22) 105 sa]) H := hP
      have hD : va_D A (zb [WMo o ma mi ml, WMx X ma (fun j => pv j 0) (updZ (updZ (fun j => pv j 1) 0 (sa 4)) 1 (sa 9)) (updZ (updZ (fun j => pv j 2) 0 (sa 0)) 1 (sa 5)) (updZ (updZ (fun j => pv j 3) 0 (sa 1)) 1 (sa 6)) (updZ (updZ (fun j => pv j 4) 0 (sa 2)) 1 (sa 7)) (updZ (updZ (fun j => pv j 5) 0 (sa 3)) 1 (sa 8)), Wa X 2 (ma 22) 105 sa]) := hD
      refine z_iinc (k := 1) (lv' := [(2, .int (iI 2)), (3, .int (iI 5)), (0, .ref o), (1, .int (iI 0))]) hx hb dX12_load_84 hl rfl (by decide) rfl (fun ls hl => ?_)
      refine lv_goto (tgt := 2) hx hb dX12_load_87 (by decide) ?_
      refine lv_iload_n hx hb dX12_load_2 rfl (lv_at hl 0 rfl) ?_
      refine lv_iconst (v := iI 3) hx hb dX12_load_3 (by decide) ?_
      refine z_icmp_ge (tgt := 90) hx hb (by omega) dX12_load_4 (by decide) (fun c_3 => ?_) (fun c_3 => ?_)
      · skip
        exact absurd c_3 (by omega)
      · skip
        refine lv_bipush (v := iI 15) hx hb dX12_load_7 (by decide) ?_
        refine lv_iload_n hx hb dX12_load_9 rfl (lv_at hl 3 rfl) ?_
        refine z_imul hx hb dX12_load_10 ?_
        refine W.eq (g2 := F0 m 11 ls [.int (iI 0)]) rfl ?_
        refine lv_iconst (v := iI 5) hx hb dX12_load_11 (by decide) ?_
        refine lv_iload_n hx hb dX12_load_12 rfl (lv_at hl 0 rfl) ?_
        refine z_imul hx hb dX12_load_13 ?_
        refine W.eq (g2 := F0 m 14 ls [.int (iI 10), .int (iI 0)]) rfl ?_
        refine z_iadd hx hb dX12_load_14 ?_
        refine W.eq (g2 := F0 m 15 ls [.int (iI 10)]) rfl ?_
        refine lv_istore_n (lv' := [(3, .int (iI 10)), (2, .int (iI 2)), (0, .ref o), (1, .int (iI 0))]) hx hb dX12_load_15 rfl hl (by decide) rfl (fun ls hl => ?_)
        refine lv_aload_n hx hb dX12_load_16 rfl (lv_at hl 2 rfl) ?_
        refine va_get (ci := 12) (v := .ref (ma 4)) (C := RX12) (T := TX12) (N := 38) hx hb hts inX12 hown hK.1 hP 0 rfl rfl 4 (by decide) (hts (.fieldLink RX12 13 "SkimmedSonsModel" "fatOf" "[I") (by decide +kernel)) (fun _ h9 => h9) rfl dX12_load_17 ?_
        refine lv_iload_n hx hb dX12_load_20 rfl (lv_at hl 1 rfl) ?_
        refine lv_aload_n hx hb dX12_load_21 rfl (lv_at hl 2 rfl) ?_
        refine va_get (ci := 12) (v := .ref (ma 22)) (C := RX12) (T := TX12) (N := 38) hx hb hts inX12 hown hK.1 hP 0 rfl rfl 22 (by decide) (hts (.fieldLink RX12 47 "SkimmedSonsModel" "saved" "[I") (by decide +kernel)) (fun _ h9 => h9) rfl dX12_load_22 ?_
        refine lv_iload_n hx hb dX12_load_25 rfl (lv_at hl 0 rfl) ?_
        refine z_iald hx hb hK.1 hP 7 rfl (by omega) dX12_load_26 ?_
        refine W.eq (g2 := F0 m 27 ls [.int (iI (sa 10)), .int (iI 2), .ref (ma 4)]) rfl ?_
        refine z_iast hx hb hK.1 hP hD hS 3 rfl (by omega) dX12_load_27 (fun H locs hP hD hS => ?_)
        have hP : va_P X.1 vwCl (zb [WMo o ma mi ml, WMx X ma (fun j => pv j 0) (updZ (updZ (fun j => pv j 1) 0 (sa 4)) 1 (sa 9)) (updZ (updZ (updZ (fun j => pv j 2) 0 (sa 0)) 1 (sa 5)) 2 (sa 10)) (updZ (updZ (fun j => pv j 3) 0 (sa 1)) 1 (sa 6)) (updZ (updZ (fun j => pv j 4) 0 (sa 2)) 1 (sa 7)) (updZ (updZ (fun j => pv j 5) 0 (sa 3)) 1 (sa 8)), Wa X 2 (ma 22) 105 sa]) H := hP
        have hD : va_D A (zb [WMo o ma mi ml, WMx X ma (fun j => pv j 0) (updZ (updZ (fun j => pv j 1) 0 (sa 4)) 1 (sa 9)) (updZ (updZ (updZ (fun j => pv j 2) 0 (sa 0)) 1 (sa 5)) 2 (sa 10)) (updZ (updZ (fun j => pv j 3) 0 (sa 1)) 1 (sa 6)) (updZ (updZ (fun j => pv j 4) 0 (sa 2)) 1 (sa 7)) (updZ (updZ (fun j => pv j 5) 0 (sa 3)) 1 (sa 8)), Wa X 2 (ma 22) 105 sa]) := hD
        refine lv_aload_n hx hb dX12_load_28 rfl (lv_at hl 2 rfl) ?_
        refine va_get (ci := 12) (v := .ref (ma 5)) (C := RX12) (T := TX12) (N := 38) hx hb hts inX12 hown hK.1 hP 0 rfl rfl 5 (by decide) (hts (.fieldLink RX12 16 "SkimmedSonsModel" "creamOf" "[I") (by decide +kernel)) (fun _ h9 => h9) rfl dX12_load_29 ?_
        refine lv_iload_n hx hb dX12_load_32 rfl (lv_at hl 1 rfl) ?_
        refine lv_aload_n hx hb dX12_load_33 rfl (lv_at hl 2 rfl) ?_
        refine va_get (ci := 12) (v := .ref (ma 22)) (C := RX12) (T := TX12) (N := 38) hx hb hts inX12 hown hK.1 hP 0 rfl rfl 22 (by decide) (hts (.fieldLink RX12 47 "SkimmedSonsModel" "saved" "[I") (by decide +kernel)) (fun _ h9 => h9) rfl dX12_load_34 ?_
        refine lv_iload_n hx hb dX12_load_37 rfl (lv_at hl 0 rfl) ?_
        refine lv_iconst (v := iI 1) hx hb dX12_load_38 (by decide) ?_
        refine z_iadd hx hb dX12_load_39 ?_
        refine W.eq (g2 := F0 m 40 ls [.int (iI 11), .ref (ma 22), .int (iI 2), .ref (ma 5)]) rfl ?_
        refine z_iald hx hb hK.1 hP 7 rfl (by omega) dX12_load_40 ?_
        refine W.eq (g2 := F0 m 41 ls [.int (iI (sa 11)), .int (iI 2), .ref (ma 5)]) rfl ?_
        refine z_iast hx hb hK.1 hP hD hS 4 rfl (by omega) dX12_load_41 (fun H locs hP hD hS => ?_)
        have hP : va_P X.1 vwCl (zb [WMo o ma mi ml, WMx X ma (fun j => pv j 0) (updZ (updZ (fun j => pv j 1) 0 (sa 4)) 1 (sa 9)) (updZ (updZ (updZ (fun j => pv j 2) 0 (sa 0)) 1 (sa 5)) 2 (sa 10)) (updZ (updZ (updZ (fun j => pv j 3) 0 (sa 1)) 1 (sa 6)) 2 (sa 11)) (updZ (updZ (fun j => pv j 4) 0 (sa 2)) 1 (sa 7)) (updZ (updZ (fun j => pv j 5) 0 (sa 3)) 1 (sa 8)), Wa X 2 (ma 22) 105 sa]) H := hP
        have hD : va_D A (zb [WMo o ma mi ml, WMx X ma (fun j => pv j 0) (updZ (updZ (fun j => pv j 1) 0 (sa 4)) 1 (sa 9)) (updZ (updZ (updZ (fun j => pv j 2) 0 (sa 0)) 1 (sa 5)) 2 (sa 10)) (updZ (updZ (updZ (fun j => pv j 3) 0 (sa 1)) 1 (sa 6)) 2 (sa 11)) (updZ (updZ (fun j => pv j 4) 0 (sa 2)) 1 (sa 7)) (updZ (updZ (fun j => pv j 5) 0 (sa 3)) 1 (sa 8)), Wa X 2 (ma 22) 105 sa]) := hD
        refine lv_aload_n hx hb dX12_load_42 rfl (lv_at hl 2 rfl) ?_
        refine va_get (ci := 12) (v := .ref (ma 6)) (C := RX12) (T := TX12) (N := 38) hx hb hts inX12 hown hK.1 hP 0 rfl rfl 6 (by decide) (hts (.fieldLink RX12 19 "SkimmedSonsModel" "filmOf" "[I") (by decide +kernel)) (fun _ h9 => h9) rfl dX12_load_43 ?_
        refine lv_iload_n hx hb dX12_load_46 rfl (lv_at hl 1 rfl) ?_
        refine lv_aload_n hx hb dX12_load_47 rfl (lv_at hl 2 rfl) ?_
        refine va_get (ci := 12) (v := .ref (ma 22)) (C := RX12) (T := TX12) (N := 38) hx hb hts inX12 hown hK.1 hP 0 rfl rfl 22 (by decide) (hts (.fieldLink RX12 47 "SkimmedSonsModel" "saved" "[I") (by decide +kernel)) (fun _ h9 => h9) rfl dX12_load_48 ?_
        refine lv_iload_n hx hb dX12_load_51 rfl (lv_at hl 0 rfl) ?_
        refine lv_iconst (v := iI 2) hx hb dX12_load_52 (by decide) ?_
        refine z_iadd hx hb dX12_load_53 ?_
        refine W.eq (g2 := F0 m 54 ls [.int (iI 12), .ref (ma 22), .int (iI 2), .ref (ma 6)]) rfl ?_
        refine z_iald hx hb hK.1 hP 7 rfl (by omega) dX12_load_54 ?_
        refine W.eq (g2 := F0 m 55 ls [.int (iI (sa 12)), .int (iI 2), .ref (ma 6)]) rfl ?_
        refine z_iast hx hb hK.1 hP hD hS 5 rfl (by omega) dX12_load_55 (fun H locs hP hD hS => ?_)
        have hP : va_P X.1 vwCl (zb [WMo o ma mi ml, WMx X ma (fun j => pv j 0) (updZ (updZ (fun j => pv j 1) 0 (sa 4)) 1 (sa 9)) (updZ (updZ (updZ (fun j => pv j 2) 0 (sa 0)) 1 (sa 5)) 2 (sa 10)) (updZ (updZ (updZ (fun j => pv j 3) 0 (sa 1)) 1 (sa 6)) 2 (sa 11)) (updZ (updZ (updZ (fun j => pv j 4) 0 (sa 2)) 1 (sa 7)) 2 (sa 12)) (updZ (updZ (fun j => pv j 5) 0 (sa 3)) 1 (sa 8)), Wa X 2 (ma 22) 105 sa]) H := hP
        have hD : va_D A (zb [WMo o ma mi ml, WMx X ma (fun j => pv j 0) (updZ (updZ (fun j => pv j 1) 0 (sa 4)) 1 (sa 9)) (updZ (updZ (updZ (fun j => pv j 2) 0 (sa 0)) 1 (sa 5)) 2 (sa 10)) (updZ (updZ (updZ (fun j => pv j 3) 0 (sa 1)) 1 (sa 6)) 2 (sa 11)) (updZ (updZ (updZ (fun j => pv j 4) 0 (sa 2)) 1 (sa 7)) 2 (sa 12)) (updZ (updZ (fun j => pv j 5) 0 (sa 3)) 1 (sa 8)), Wa X 2 (ma 22) 105 sa]) := hD
        refine lv_aload_n hx hb dX12_load_56 rfl (lv_at hl 2 rfl) ?_
        refine va_get (ci := 12) (v := .ref (ma 7)) (C := RX12) (T := TX12) (N := 38) hx hb hts inX12 hown hK.1 hP 0 rfl rfl 7 (by decide) (hts (.fieldLink RX12 22 "SkimmedSonsModel" "blueOf" "[I") (by decide +kernel)) (fun _ h9 => h9) rfl dX12_load_57 ?_
        refine lv_iload_n hx hb dX12_load_60 rfl (lv_at hl 1 rfl) ?_
        refine lv_aload_n hx hb dX12_load_61 rfl (lv_at hl 2 rfl) ?_
        refine va_get (ci := 12) (v := .ref (ma 22)) (C := RX12) (T := TX12) (N := 38) hx hb hts inX12 hown hK.1 hP 0 rfl rfl 22 (by decide) (hts (.fieldLink RX12 47 "SkimmedSonsModel" "saved" "[I") (by decide +kernel)) (fun _ h9 => h9) rfl dX12_load_62 ?_
        refine lv_iload_n hx hb dX12_load_65 rfl (lv_at hl 0 rfl) ?_
        refine lv_iconst (v := iI 3) hx hb dX12_load_66 (by decide) ?_
        refine z_iadd hx hb dX12_load_67 ?_
        refine W.eq (g2 := F0 m 68 ls [.int (iI 13), .ref (ma 22), .int (iI 2), .ref (ma 7)]) rfl ?_
        refine z_iald hx hb hK.1 hP 7 rfl (by omega) dX12_load_68 ?_
        refine W.eq (g2 := F0 m 69 ls [.int (iI (sa 13)), .int (iI 2), .ref (ma 7)]) rfl ?_
        refine z_iast hx hb hK.1 hP hD hS 6 rfl (by omega) dX12_load_69 (fun H locs hP hD hS => ?_)
        have hP : va_P X.1 vwCl (zb [WMo o ma mi ml, WMx X ma (fun j => pv j 0) (updZ (updZ (fun j => pv j 1) 0 (sa 4)) 1 (sa 9)) (updZ (updZ (updZ (fun j => pv j 2) 0 (sa 0)) 1 (sa 5)) 2 (sa 10)) (updZ (updZ (updZ (fun j => pv j 3) 0 (sa 1)) 1 (sa 6)) 2 (sa 11)) (updZ (updZ (updZ (fun j => pv j 4) 0 (sa 2)) 1 (sa 7)) 2 (sa 12)) (updZ (updZ (updZ (fun j => pv j 5) 0 (sa 3)) 1 (sa 8)) 2 (sa 13)), Wa X 2 (ma 22) 105 sa]) H := hP
        have hD : va_D A (zb [WMo o ma mi ml, WMx X ma (fun j => pv j 0) (updZ (updZ (fun j => pv j 1) 0 (sa 4)) 1 (sa 9)) (updZ (updZ (updZ (fun j => pv j 2) 0 (sa 0)) 1 (sa 5)) 2 (sa 10)) (updZ (updZ (updZ (fun j => pv j 3) 0 (sa 1)) 1 (sa 6)) 2 (sa 11)) (updZ (updZ (updZ (fun j => pv j 4) 0 (sa 2)) 1 (sa 7)) 2 (sa 12)) (updZ (updZ (updZ (fun j => pv j 5) 0 (sa 3)) 1 (sa 8)) 2 (sa 13)), Wa X 2 (ma 22) 105 sa]) := hD
        refine lv_aload_n hx hb dX12_load_70 rfl (lv_at hl 2 rfl) ?_
        refine va_get (ci := 12) (v := .ref (ma 8)) (C := RX12) (T := TX12) (N := 38) hx hb hts inX12 hown hK.1 hP 0 rfl rfl 8 (by decide) (hts (.fieldLink RX12 25 "SkimmedSonsModel" "stillOf" "[I") (by decide +kernel)) (fun _ h9 => h9) rfl dX12_load_71 ?_
        refine lv_iload_n hx hb dX12_load_74 rfl (lv_at hl 1 rfl) ?_
        refine lv_aload_n hx hb dX12_load_75 rfl (lv_at hl 2 rfl) ?_
        refine va_get (ci := 12) (v := .ref (ma 22)) (C := RX12) (T := TX12) (N := 38) hx hb hts inX12 hown hK.1 hP 0 rfl rfl 22 (by decide) (hts (.fieldLink RX12 47 "SkimmedSonsModel" "saved" "[I") (by decide +kernel)) (fun _ h9 => h9) rfl dX12_load_76 ?_
        refine lv_iload_n hx hb dX12_load_79 rfl (lv_at hl 0 rfl) ?_
        refine lv_iconst (v := iI 4) hx hb dX12_load_80 (by decide) ?_
        refine z_iadd hx hb dX12_load_81 ?_
        refine W.eq (g2 := F0 m 82 ls [.int (iI 14), .ref (ma 22), .int (iI 2), .ref (ma 8)]) rfl ?_
        refine z_iald hx hb hK.1 hP 7 rfl (by omega) dX12_load_82 ?_
        refine W.eq (g2 := F0 m 83 ls [.int (iI (sa 14)), .int (iI 2), .ref (ma 8)]) rfl ?_
        refine z_iast hx hb hK.1 hP hD hS 2 rfl (by omega) dX12_load_83 (fun H locs hP hD hS => ?_)
        have hP : va_P X.1 vwCl (zb [WMo o ma mi ml, WMx X ma (fun j => pv j 0) (updZ (updZ (updZ (fun j => pv j 1) 0 (sa 4)) 1 (sa 9)) 2 (sa 14)) (updZ (updZ (updZ (fun j => pv j 2) 0 (sa 0)) 1 (sa 5)) 2 (sa 10)) (updZ (updZ (updZ (fun j => pv j 3) 0 (sa 1)) 1 (sa 6)) 2 (sa 11)) (updZ (updZ (updZ (fun j => pv j 4) 0 (sa 2)) 1 (sa 7)) 2 (sa 12)) (updZ (updZ (updZ (fun j => pv j 5) 0 (sa 3)) 1 (sa 8)) 2 (sa 13)), Wa X 2 (ma 22) 105 sa]) H := hP
        have hD : va_D A (zb [WMo o ma mi ml, WMx X ma (fun j => pv j 0) (updZ (updZ (updZ (fun j => pv j 1) 0 (sa 4)) 1 (sa 9)) 2 (sa 14)) (updZ (updZ (updZ (fun j => pv j 2) 0 (sa 0)) 1 (sa 5)) 2 (sa 10)) (updZ (updZ (updZ (fun j => pv j 3) 0 (sa 1)) 1 (sa 6)) 2 (sa 11)) (updZ (updZ (updZ (fun j => pv j 4) 0 (sa 2)) 1 (sa 7)) 2 (sa 12)) (updZ (updZ (updZ (fun j => pv j 5) 0 (sa 3)) 1 (sa 8)) 2 (sa 13)), Wa X 2 (ma 22) 105 sa]) := hD
        refine z_iinc (k := 1) (lv' := [(2, .int (iI 3)), (3, .int (iI 10)), (0, .ref o), (1, .int (iI 0))]) hx hb dX12_load_84 hl rfl (by decide) rfl (fun ls hl => ?_)
        refine lv_goto (tgt := 2) hx hb dX12_load_87 (by decide) ?_
        refine lv_iload_n hx hb dX12_load_2 rfl (lv_at hl 0 rfl) ?_
        refine lv_iconst (v := iI 3) hx hb dX12_load_3 (by decide) ?_
        refine z_icmp_ge (tgt := 90) hx hb (by omega) dX12_load_4 (by decide) (fun c_4 => ?_) (fun c_4 => ?_)
        · skip
          have hP := zp_cong (pre := [WMo o ma mi ml]) (post := [Wa X 2 (ma 22) 105 sa]) (fun h => wm_cells (pv := pv0) (fun j hj => by have h9 := hld j hj; rcases (show j = 0 ∨ j = 1 ∨ j = 2 by omega) with q | q | q <;> subst q <;> exact ⟨h9.1.symm, h9.2.2.2.2.2.symm, h9.2.1.symm, h9.2.2.1.symm, h9.2.2.2.1.symm, h9.2.2.2.2.1.symm⟩) h) hP
          have hD := zd_cong (pre := [WMo o ma mi ml]) (post := [Wa X 2 (ma 22) 105 sa]) (w := WMx X ma (fun j => pv j 0) (updZ (updZ (updZ (fun j => pv j 1) 0 (sa 4)) 1 (sa 9)) 2 (sa 14)) (updZ (updZ (updZ (fun j => pv j 2) 0 (sa 0)) 1 (sa 5)) 2 (sa 10)) (updZ (updZ (updZ (fun j => pv j 3) 0 (sa 1)) 1 (sa 6)) 2 (sa 11)) (updZ (updZ (updZ (fun j => pv j 4) 0 (sa 2)) 1 (sa 7)) 2 (sa 12)) (updZ (updZ (updZ (fun j => pv j 5) 0 (sa 3)) 1 (sa 8)) 2 (sa 13))) (w' := WMp X ma pv0) rfl hD
          have hP : va_P X.1 vwCl (zb [WMo o ma mi ml, WMp X ma pv0, Wa X 2 (ma 22) 105 sa]) H := hP
          have hD : va_D A (zb [WMo o ma mi ml, WMp X ma pv0, Wa X 2 (ma 22) 105 sa]) := hD
          exact z_vret hQ hx hb hr hlocks hS ⟨(Nat.le_of_ble_eq_true rfl), (Nat.le_of_ble_eq_true rfl)⟩ dX12_load_90 () rfl trivial hP hD
        · skip
          exact absurd c_4 (by omega)
set_option maxHeartbeats 1000000 in
set_option maxRecDepth 100000 in
theorem c_X12_save_1 (l : Launch) (X : zX) (o : Nat) (ma : Nat → Nat) (mi : Nat → Int) (ml : Nat → Int) (pv : Nat → Nat → Int) (sa : Nat → Int)  : zF l X yX12_save wsX12_save 0 0 [.ref o, .int (iI 1)] (zb [WMo o ma mi ml, WMp X ma pv, Wa X 2 (ma 22) 105 sa]) none (zb [WMo o ma mi ml, WMp X ma pv, Wa X 2 (ma 22) 105 (savF 15 pv sa)]) := by
  refine z_enter (cc := cX12_save) (maxL := 4) (ret := none) (by decide) rfl (Nat.le_of_ble_eq_true rfl) ?_
  intro p e s m below meth c A ls Q hQ hE hl hP hD
  obtain ⟨hx, hb, hr, hml, hown, hts, hlocks, hnm, hA, hK⟩ := hE
  have hown : s.vm.findClass RX12 = some m.cls := hown
  have hS : va_S A s.heap s.heap [] := va_S.rf
  have hl : lv_has ls 4 [(0, .ref o), (1, .int (iI 1))] := hl
  have inX12 : ∀ w ∈ u_ws RX12 TX12 38, w ∈ wsX12_save := by decide +kernel
  refine lv_iconst (v := iI 0) hx hb dX12_save_0 (by decide) ?_
  refine lv_istore_n (lv' := [(2, .int (iI 0)), (0, .ref o), (1, .int (iI 1))]) hx hb dX12_save_1 rfl hl (by decide) rfl (fun ls hl => ?_)
  refine lv_iload_n hx hb dX12_save_2 rfl (lv_at hl 0 rfl) ?_
  refine lv_iconst (v := iI 3) hx hb dX12_save_3 (by decide) ?_
  refine z_icmp_ge (tgt := 90) hx hb (by omega) dX12_save_4 (by decide) (fun c_1 => ?_) (fun c_1 => ?_)
  · skip
    exact absurd c_1 (by omega)
  · skip
    refine lv_bipush (v := iI 15) hx hb dX12_save_7 (by decide) ?_
    refine lv_iload_n hx hb dX12_save_9 rfl (lv_at hl 2 rfl) ?_
    refine z_imul hx hb dX12_save_10 ?_
    refine W.eq (g2 := F0 m 11 ls [.int (iI 15)]) rfl ?_
    refine lv_iconst (v := iI 5) hx hb dX12_save_11 (by decide) ?_
    refine lv_iload_n hx hb dX12_save_12 rfl (lv_at hl 0 rfl) ?_
    refine z_imul hx hb dX12_save_13 ?_
    refine W.eq (g2 := F0 m 14 ls [.int (iI 0), .int (iI 15)]) rfl ?_
    refine z_iadd hx hb dX12_save_14 ?_
    refine W.eq (g2 := F0 m 15 ls [.int (iI 15)]) rfl ?_
    refine lv_istore_n (lv' := [(3, .int (iI 15)), (2, .int (iI 0)), (0, .ref o), (1, .int (iI 1))]) hx hb dX12_save_15 rfl hl (by decide) rfl (fun ls hl => ?_)
    refine lv_aload_n hx hb dX12_save_16 rfl (lv_at hl 2 rfl) ?_
    refine va_get (ci := 12) (v := .ref (ma 22)) (C := RX12) (T := TX12) (N := 38) hx hb hts inX12 hown hK.1 hP 0 rfl rfl 22 (by decide) (hts (.fieldLink RX12 47 "SkimmedSonsModel" "saved" "[I") (by decide +kernel)) (fun _ h9 => h9) rfl dX12_save_17 ?_
    refine lv_iload_n hx hb dX12_save_20 rfl (lv_at hl 0 rfl) ?_
    refine lv_aload_n hx hb dX12_save_21 rfl (lv_at hl 2 rfl) ?_
    refine va_get (ci := 12) (v := .ref (ma 4)) (C := RX12) (T := TX12) (N := 38) hx hb hts inX12 hown hK.1 hP 0 rfl rfl 4 (by decide) (hts (.fieldLink RX12 13 "SkimmedSonsModel" "fatOf" "[I") (by decide +kernel)) (fun _ h9 => h9) rfl dX12_save_22 ?_
    refine lv_iload_n hx hb dX12_save_25 rfl (lv_at hl 1 rfl) ?_
    refine z_iald hx hb hK.1 hP 3 rfl (by omega) dX12_save_26 ?_
    refine W.eq (g2 := F0 m 27 ls [.int (iI (pv 0 2)), .int (iI 15), .ref (ma 22)]) rfl ?_
    refine z_iast hx hb hK.1 hP hD hS 7 rfl (by omega) dX12_save_27 (fun H locs hP hD hS => ?_)
    have hP : va_P X.1 vwCl (zb [WMo o ma mi ml, WMp X ma pv, Wa X 2 (ma 22) 105 (updZ sa 15 (pv 0 2))]) H := hP
    have hD : va_D A (zb [WMo o ma mi ml, WMp X ma pv, Wa X 2 (ma 22) 105 (updZ sa 15 (pv 0 2))]) := hD
    refine lv_aload_n hx hb dX12_save_28 rfl (lv_at hl 2 rfl) ?_
    refine va_get (ci := 12) (v := .ref (ma 22)) (C := RX12) (T := TX12) (N := 38) hx hb hts inX12 hown hK.1 hP 0 rfl rfl 22 (by decide) (hts (.fieldLink RX12 47 "SkimmedSonsModel" "saved" "[I") (by decide +kernel)) (fun _ h9 => h9) rfl dX12_save_29 ?_
    refine lv_iload_n hx hb dX12_save_32 rfl (lv_at hl 0 rfl) ?_
    refine lv_iconst (v := iI 1) hx hb dX12_save_33 (by decide) ?_
    refine z_iadd hx hb dX12_save_34 ?_
    refine W.eq (g2 := F0 m 35 ls [.int (iI 16), .ref (ma 22)]) rfl ?_
    refine lv_aload_n hx hb dX12_save_35 rfl (lv_at hl 2 rfl) ?_
    refine va_get (ci := 12) (v := .ref (ma 5)) (C := RX12) (T := TX12) (N := 38) hx hb hts inX12 hown hK.1 hP 0 rfl rfl 5 (by decide) (hts (.fieldLink RX12 16 "SkimmedSonsModel" "creamOf" "[I") (by decide +kernel)) (fun _ h9 => h9) rfl dX12_save_36 ?_
    refine lv_iload_n hx hb dX12_save_39 rfl (lv_at hl 1 rfl) ?_
    refine z_iald hx hb hK.1 hP 4 rfl (by omega) dX12_save_40 ?_
    refine W.eq (g2 := F0 m 41 ls [.int (iI (pv 0 3)), .int (iI 16), .ref (ma 22)]) rfl ?_
    refine z_iast hx hb hK.1 hP hD hS 7 rfl (by omega) dX12_save_41 (fun H locs hP hD hS => ?_)
    have hP : va_P X.1 vwCl (zb [WMo o ma mi ml, WMp X ma pv, Wa X 2 (ma 22) 105 (updZ (updZ sa 15 (pv 0 2)) 16 (pv 0 3))]) H := hP
    have hD : va_D A (zb [WMo o ma mi ml, WMp X ma pv, Wa X 2 (ma 22) 105 (updZ (updZ sa 15 (pv 0 2)) 16 (pv 0 3))]) := hD
    refine lv_aload_n hx hb dX12_save_42 rfl (lv_at hl 2 rfl) ?_
    refine va_get (ci := 12) (v := .ref (ma 22)) (C := RX12) (T := TX12) (N := 38) hx hb hts inX12 hown hK.1 hP 0 rfl rfl 22 (by decide) (hts (.fieldLink RX12 47 "SkimmedSonsModel" "saved" "[I") (by decide +kernel)) (fun _ h9 => h9) rfl dX12_save_43 ?_
    refine lv_iload_n hx hb dX12_save_46 rfl (lv_at hl 0 rfl) ?_
    refine lv_iconst (v := iI 2) hx hb dX12_save_47 (by decide) ?_
    refine z_iadd hx hb dX12_save_48 ?_
    refine W.eq (g2 := F0 m 49 ls [.int (iI 17), .ref (ma 22)]) rfl ?_
    refine lv_aload_n hx hb dX12_save_49 rfl (lv_at hl 2 rfl) ?_
    refine va_get (ci := 12) (v := .ref (ma 6)) (C := RX12) (T := TX12) (N := 38) hx hb hts inX12 hown hK.1 hP 0 rfl rfl 6 (by decide) (hts (.fieldLink RX12 19 "SkimmedSonsModel" "filmOf" "[I") (by decide +kernel)) (fun _ h9 => h9) rfl dX12_save_50 ?_
    refine lv_iload_n hx hb dX12_save_53 rfl (lv_at hl 1 rfl) ?_
    refine z_iald hx hb hK.1 hP 5 rfl (by omega) dX12_save_54 ?_
    refine W.eq (g2 := F0 m 55 ls [.int (iI (pv 0 4)), .int (iI 17), .ref (ma 22)]) rfl ?_
    refine z_iast hx hb hK.1 hP hD hS 7 rfl (by omega) dX12_save_55 (fun H locs hP hD hS => ?_)
    have hP : va_P X.1 vwCl (zb [WMo o ma mi ml, WMp X ma pv, Wa X 2 (ma 22) 105 (updZ (updZ (updZ sa 15 (pv 0 2)) 16 (pv 0 3)) 17 (pv 0 4))]) H := hP
    have hD : va_D A (zb [WMo o ma mi ml, WMp X ma pv, Wa X 2 (ma 22) 105 (updZ (updZ (updZ sa 15 (pv 0 2)) 16 (pv 0 3)) 17 (pv 0 4))]) := hD
    refine lv_aload_n hx hb dX12_save_56 rfl (lv_at hl 2 rfl) ?_
    refine va_get (ci := 12) (v := .ref (ma 22)) (C := RX12) (T := TX12) (N := 38) hx hb hts inX12 hown hK.1 hP 0 rfl rfl 22 (by decide) (hts (.fieldLink RX12 47 "SkimmedSonsModel" "saved" "[I") (by decide +kernel)) (fun _ h9 => h9) rfl dX12_save_57 ?_
    refine lv_iload_n hx hb dX12_save_60 rfl (lv_at hl 0 rfl) ?_
    refine lv_iconst (v := iI 3) hx hb dX12_save_61 (by decide) ?_
    refine z_iadd hx hb dX12_save_62 ?_
    refine W.eq (g2 := F0 m 63 ls [.int (iI 18), .ref (ma 22)]) rfl ?_
    refine lv_aload_n hx hb dX12_save_63 rfl (lv_at hl 2 rfl) ?_
    refine va_get (ci := 12) (v := .ref (ma 7)) (C := RX12) (T := TX12) (N := 38) hx hb hts inX12 hown hK.1 hP 0 rfl rfl 7 (by decide) (hts (.fieldLink RX12 22 "SkimmedSonsModel" "blueOf" "[I") (by decide +kernel)) (fun _ h9 => h9) rfl dX12_save_64 ?_
    refine lv_iload_n hx hb dX12_save_67 rfl (lv_at hl 1 rfl) ?_
    refine z_iald hx hb hK.1 hP 6 rfl (by omega) dX12_save_68 ?_
    refine W.eq (g2 := F0 m 69 ls [.int (iI (pv 0 5)), .int (iI 18), .ref (ma 22)]) rfl ?_
    refine z_iast hx hb hK.1 hP hD hS 7 rfl (by omega) dX12_save_69 (fun H locs hP hD hS => ?_)
    have hP : va_P X.1 vwCl (zb [WMo o ma mi ml, WMp X ma pv, Wa X 2 (ma 22) 105 (updZ (updZ (updZ (updZ sa 15 (pv 0 2)) 16 (pv 0 3)) 17 (pv 0 4)) 18 (pv 0 5))]) H := hP
    have hD : va_D A (zb [WMo o ma mi ml, WMp X ma pv, Wa X 2 (ma 22) 105 (updZ (updZ (updZ (updZ sa 15 (pv 0 2)) 16 (pv 0 3)) 17 (pv 0 4)) 18 (pv 0 5))]) := hD
    refine lv_aload_n hx hb dX12_save_70 rfl (lv_at hl 2 rfl) ?_
    refine va_get (ci := 12) (v := .ref (ma 22)) (C := RX12) (T := TX12) (N := 38) hx hb hts inX12 hown hK.1 hP 0 rfl rfl 22 (by decide) (hts (.fieldLink RX12 47 "SkimmedSonsModel" "saved" "[I") (by decide +kernel)) (fun _ h9 => h9) rfl dX12_save_71 ?_
    refine lv_iload_n hx hb dX12_save_74 rfl (lv_at hl 0 rfl) ?_
    refine lv_iconst (v := iI 4) hx hb dX12_save_75 (by decide) ?_
    refine z_iadd hx hb dX12_save_76 ?_
    refine W.eq (g2 := F0 m 77 ls [.int (iI 19), .ref (ma 22)]) rfl ?_
    refine lv_aload_n hx hb dX12_save_77 rfl (lv_at hl 2 rfl) ?_
    refine va_get (ci := 12) (v := .ref (ma 8)) (C := RX12) (T := TX12) (N := 38) hx hb hts inX12 hown hK.1 hP 0 rfl rfl 8 (by decide) (hts (.fieldLink RX12 25 "SkimmedSonsModel" "stillOf" "[I") (by decide +kernel)) (fun _ h9 => h9) rfl dX12_save_78 ?_
    refine lv_iload_n hx hb dX12_save_81 rfl (lv_at hl 1 rfl) ?_
    refine z_iald hx hb hK.1 hP 2 rfl (by omega) dX12_save_82 ?_
    refine W.eq (g2 := F0 m 83 ls [.int (iI (pv 0 1)), .int (iI 19), .ref (ma 22)]) rfl ?_
    refine z_iast hx hb hK.1 hP hD hS 7 rfl (by omega) dX12_save_83 (fun H locs hP hD hS => ?_)
    have hP : va_P X.1 vwCl (zb [WMo o ma mi ml, WMp X ma pv, Wa X 2 (ma 22) 105 (updZ (updZ (updZ (updZ (updZ sa 15 (pv 0 2)) 16 (pv 0 3)) 17 (pv 0 4)) 18 (pv 0 5)) 19 (pv 0 1))]) H := hP
    have hD : va_D A (zb [WMo o ma mi ml, WMp X ma pv, Wa X 2 (ma 22) 105 (updZ (updZ (updZ (updZ (updZ sa 15 (pv 0 2)) 16 (pv 0 3)) 17 (pv 0 4)) 18 (pv 0 5)) 19 (pv 0 1))]) := hD
    refine z_iinc (k := 1) (lv' := [(2, .int (iI 1)), (3, .int (iI 15)), (0, .ref o), (1, .int (iI 1))]) hx hb dX12_save_84 hl rfl (by decide) rfl (fun ls hl => ?_)
    refine lv_goto (tgt := 2) hx hb dX12_save_87 (by decide) ?_
    refine lv_iload_n hx hb dX12_save_2 rfl (lv_at hl 0 rfl) ?_
    refine lv_iconst (v := iI 3) hx hb dX12_save_3 (by decide) ?_
    refine z_icmp_ge (tgt := 90) hx hb (by omega) dX12_save_4 (by decide) (fun c_2 => ?_) (fun c_2 => ?_)
    · skip
      exact absurd c_2 (by omega)
    · skip
      refine lv_bipush (v := iI 15) hx hb dX12_save_7 (by decide) ?_
      refine lv_iload_n hx hb dX12_save_9 rfl (lv_at hl 3 rfl) ?_
      refine z_imul hx hb dX12_save_10 ?_
      refine W.eq (g2 := F0 m 11 ls [.int (iI 15)]) rfl ?_
      refine lv_iconst (v := iI 5) hx hb dX12_save_11 (by decide) ?_
      refine lv_iload_n hx hb dX12_save_12 rfl (lv_at hl 0 rfl) ?_
      refine z_imul hx hb dX12_save_13 ?_
      refine W.eq (g2 := F0 m 14 ls [.int (iI 5), .int (iI 15)]) rfl ?_
      refine z_iadd hx hb dX12_save_14 ?_
      refine W.eq (g2 := F0 m 15 ls [.int (iI 20)]) rfl ?_
      refine lv_istore_n (lv' := [(3, .int (iI 20)), (2, .int (iI 1)), (0, .ref o), (1, .int (iI 1))]) hx hb dX12_save_15 rfl hl (by decide) rfl (fun ls hl => ?_)
      refine lv_aload_n hx hb dX12_save_16 rfl (lv_at hl 2 rfl) ?_
      refine va_get (ci := 12) (v := .ref (ma 22)) (C := RX12) (T := TX12) (N := 38) hx hb hts inX12 hown hK.1 hP 0 rfl rfl 22 (by decide) (hts (.fieldLink RX12 47 "SkimmedSonsModel" "saved" "[I") (by decide +kernel)) (fun _ h9 => h9) rfl dX12_save_17 ?_
      refine lv_iload_n hx hb dX12_save_20 rfl (lv_at hl 0 rfl) ?_
      refine lv_aload_n hx hb dX12_save_21 rfl (lv_at hl 2 rfl) ?_
      refine va_get (ci := 12) (v := .ref (ma 4)) (C := RX12) (T := TX12) (N := 38) hx hb hts inX12 hown hK.1 hP 0 rfl rfl 4 (by decide) (hts (.fieldLink RX12 13 "SkimmedSonsModel" "fatOf" "[I") (by decide +kernel)) (fun _ h9 => h9) rfl dX12_save_22 ?_
      refine lv_iload_n hx hb dX12_save_25 rfl (lv_at hl 1 rfl) ?_
      refine z_iald hx hb hK.1 hP 3 rfl (by omega) dX12_save_26 ?_
      refine W.eq (g2 := F0 m 27 ls [.int (iI (pv 1 2)), .int (iI 20), .ref (ma 22)]) rfl ?_
      refine z_iast hx hb hK.1 hP hD hS 7 rfl (by omega) dX12_save_27 (fun H locs hP hD hS => ?_)
      have hP : va_P X.1 vwCl (zb [WMo o ma mi ml, WMp X ma pv, Wa X 2 (ma 22) 105 (updZ (updZ (updZ (updZ (updZ (updZ sa 15 (pv 0 2)) 16 (pv 0 3)) 17 (pv 0 4)) 18 (pv 0 5)) 19 (pv 0 1)) 20 (pv 1 2))]) H := hP
      have hD : va_D A (zb [WMo o ma mi ml, WMp X ma pv, Wa X 2 (ma 22) 105 (updZ (updZ (updZ (updZ (updZ (updZ sa 15 (pv 0 2)) 16 (pv 0 3)) 17 (pv 0 4)) 18 (pv 0 5)) 19 (pv 0 1)) 20 (pv 1 2))]) := hD
      refine lv_aload_n hx hb dX12_save_28 rfl (lv_at hl 2 rfl) ?_
      refine va_get (ci := 12) (v := .ref (ma 22)) (C := RX12) (T := TX12) (N := 38) hx hb hts inX12 hown hK.1 hP 0 rfl rfl 22 (by decide) (hts (.fieldLink RX12 47 "SkimmedSonsModel" "saved" "[I") (by decide +kernel)) (fun _ h9 => h9) rfl dX12_save_29 ?_
      refine lv_iload_n hx hb dX12_save_32 rfl (lv_at hl 0 rfl) ?_
      refine lv_iconst (v := iI 1) hx hb dX12_save_33 (by decide) ?_
      refine z_iadd hx hb dX12_save_34 ?_
      refine W.eq (g2 := F0 m 35 ls [.int (iI 21), .ref (ma 22)]) rfl ?_
      refine lv_aload_n hx hb dX12_save_35 rfl (lv_at hl 2 rfl) ?_
      refine va_get (ci := 12) (v := .ref (ma 5)) (C := RX12) (T := TX12) (N := 38) hx hb hts inX12 hown hK.1 hP 0 rfl rfl 5 (by decide) (hts (.fieldLink RX12 16 "SkimmedSonsModel" "creamOf" "[I") (by decide +kernel)) (fun _ h9 => h9) rfl dX12_save_36 ?_
      refine lv_iload_n hx hb dX12_save_39 rfl (lv_at hl 1 rfl) ?_
      refine z_iald hx hb hK.1 hP 4 rfl (by omega) dX12_save_40 ?_
      refine W.eq (g2 := F0 m 41 ls [.int (iI (pv 1 3)), .int (iI 21), .ref (ma 22)]) rfl ?_
      refine z_iast hx hb hK.1 hP hD hS 7 rfl (by omega) dX12_save_41 (fun H locs hP hD hS => ?_)
      have hP : va_P X.1 vwCl (zb [WMo o ma mi ml, WMp X ma pv, Wa X 2 (ma 22) 105 (updZ (updZ (updZ (updZ (updZ (updZ (updZ sa 15 (pv 0 2)) 16 (pv 0 3)) 17 (pv 0 4)) 18 (pv 0 5)) 19 (pv 0 1)) 20 (pv 1 2)) 21 (pv 1 3))]) H := hP
      have hD : va_D A (zb [WMo o ma mi ml, WMp X ma pv, Wa X 2 (ma 22) 105 (updZ (updZ (updZ (updZ (updZ (updZ (updZ sa 15 (pv 0 2)) 16 (pv 0 3)) 17 (pv 0 4)) 18 (pv 0 5)) 19 (pv 0 1)) 20 (pv 1 2)) 21 (pv 1 3))]) := hD
      refine lv_aload_n hx hb dX12_save_42 rfl (lv_at hl 2 rfl) ?_
      refine va_get (ci := 12) (v := .ref (ma 22)) (C := RX12) (T := TX12) (N := 38) hx hb hts inX12 hown hK.1 hP 0 rfl rfl 22 (by decide) (hts (.fieldLink RX12 47 "SkimmedSonsModel" "saved" "[I") (by decide +kernel)) (fun _ h9 => h9) rfl dX12_save_43 ?_
      refine lv_iload_n hx hb dX12_save_46 rfl (lv_at hl 0 rfl) ?_
      refine lv_iconst (v := iI 2) hx hb dX12_save_47 (by decide) ?_
      refine z_iadd hx hb dX12_save_48 ?_
      refine W.eq (g2 := F0 m 49 ls [.int (iI 22), .ref (ma 22)]) rfl ?_
      refine lv_aload_n hx hb dX12_save_49 rfl (lv_at hl 2 rfl) ?_
      refine va_get (ci := 12) (v := .ref (ma 6)) (C := RX12) (T := TX12) (N := 38) hx hb hts inX12 hown hK.1 hP 0 rfl rfl 6 (by decide) (hts (.fieldLink RX12 19 "SkimmedSonsModel" "filmOf" "[I") (by decide +kernel)) (fun _ h9 => h9) rfl dX12_save_50 ?_
      refine lv_iload_n hx hb dX12_save_53 rfl (lv_at hl 1 rfl) ?_
      refine z_iald hx hb hK.1 hP 5 rfl (by omega) dX12_save_54 ?_
      refine W.eq (g2 := F0 m 55 ls [.int (iI (pv 1 4)), .int (iI 22), .ref (ma 22)]) rfl ?_
      refine z_iast hx hb hK.1 hP hD hS 7 rfl (by omega) dX12_save_55 (fun H locs hP hD hS => ?_)
      have hP : va_P X.1 vwCl (zb [WMo o ma mi ml, WMp X ma pv, Wa X 2 (ma 22) 105 (updZ (updZ (updZ (updZ (updZ (updZ (updZ (updZ sa 15 (pv 0 2)) 16 (pv 0 3)) 17 (pv 0 4)) 18 (pv 0 5)) 19 (pv 0 1)) 20 (pv 1 2)) 21 (pv 1 3)) 22 (pv 1 4))]) H := hP
      have hD : va_D A (zb [WMo o ma mi ml, WMp X ma pv, Wa X 2 (ma 22) 105 (updZ (updZ (updZ (updZ (updZ (updZ (updZ (updZ sa 15 (pv 0 2)) 16 (pv 0 3)) 17 (pv 0 4)) 18 (pv 0 5)) 19 (pv 0 1)) 20 (pv 1 2)) 21 (pv 1 3)) 22 (pv 1 4))]) := hD
      refine lv_aload_n hx hb dX12_save_56 rfl (lv_at hl 2 rfl) ?_
      refine va_get (ci := 12) (v := .ref (ma 22)) (C := RX12) (T := TX12) (N := 38) hx hb hts inX12 hown hK.1 hP 0 rfl rfl 22 (by decide) (hts (.fieldLink RX12 47 "SkimmedSonsModel" "saved" "[I") (by decide +kernel)) (fun _ h9 => h9) rfl dX12_save_57 ?_
      refine lv_iload_n hx hb dX12_save_60 rfl (lv_at hl 0 rfl) ?_
      refine lv_iconst (v := iI 3) hx hb dX12_save_61 (by decide) ?_
      refine z_iadd hx hb dX12_save_62 ?_
      refine W.eq (g2 := F0 m 63 ls [.int (iI 23), .ref (ma 22)]) rfl ?_
      refine lv_aload_n hx hb dX12_save_63 rfl (lv_at hl 2 rfl) ?_
      refine va_get (ci := 12) (v := .ref (ma 7)) (C := RX12) (T := TX12) (N := 38) hx hb hts inX12 hown hK.1 hP 0 rfl rfl 7 (by decide) (hts (.fieldLink RX12 22 "SkimmedSonsModel" "blueOf" "[I") (by decide +kernel)) (fun _ h9 => h9) rfl dX12_save_64 ?_
      refine lv_iload_n hx hb dX12_save_67 rfl (lv_at hl 1 rfl) ?_
      refine z_iald hx hb hK.1 hP 6 rfl (by omega) dX12_save_68 ?_
      refine W.eq (g2 := F0 m 69 ls [.int (iI (pv 1 5)), .int (iI 23), .ref (ma 22)]) rfl ?_
      refine z_iast hx hb hK.1 hP hD hS 7 rfl (by omega) dX12_save_69 (fun H locs hP hD hS => ?_)
      have hP : va_P X.1 vwCl (zb [WMo o ma mi ml, WMp X ma pv, Wa X 2 (ma 22) 105 (updZ (updZ (updZ (updZ (updZ (updZ (updZ (updZ (updZ sa 15 (pv 0 2)) 16 (pv 0 3)) 17 (pv 0 4)) 18 (pv 0 5)) 19 (pv 0 1)) 20 (pv 1 2)) 21 (pv 1 3)) 22 (pv 1 4)) 23 (pv 1 5))]) H := hP
      have hD : va_D A (zb [WMo o ma mi ml, WMp X ma pv, Wa X 2 (ma 22) 105 (updZ (updZ (updZ (updZ (updZ (updZ (updZ (updZ (updZ sa 15 (pv 0 2)) 16 (pv 0 3)) 17 (pv 0 4)) 18 (pv 0 5)) 19 (pv 0 1)) 20 (pv 1 2)) 21 (pv 1 3)) 22 (pv 1 4)) 23 (pv 1 5))]) := hD
      refine lv_aload_n hx hb dX12_save_70 rfl (lv_at hl 2 rfl) ?_
      refine va_get (ci := 12) (v := .ref (ma 22)) (C := RX12) (T := TX12) (N := 38) hx hb hts inX12 hown hK.1 hP 0 rfl rfl 22 (by decide) (hts (.fieldLink RX12 47 "SkimmedSonsModel" "saved" "[I") (by decide +kernel)) (fun _ h9 => h9) rfl dX12_save_71 ?_
      refine lv_iload_n hx hb dX12_save_74 rfl (lv_at hl 0 rfl) ?_
      refine lv_iconst (v := iI 4) hx hb dX12_save_75 (by decide) ?_
      refine z_iadd hx hb dX12_save_76 ?_
      refine W.eq (g2 := F0 m 77 ls [.int (iI 24), .ref (ma 22)]) rfl ?_
      refine lv_aload_n hx hb dX12_save_77 rfl (lv_at hl 2 rfl) ?_
      refine va_get (ci := 12) (v := .ref (ma 8)) (C := RX12) (T := TX12) (N := 38) hx hb hts inX12 hown hK.1 hP 0 rfl rfl 8 (by decide) (hts (.fieldLink RX12 25 "SkimmedSonsModel" "stillOf" "[I") (by decide +kernel)) (fun _ h9 => h9) rfl dX12_save_78 ?_
      refine lv_iload_n hx hb dX12_save_81 rfl (lv_at hl 1 rfl) ?_
      refine z_iald hx hb hK.1 hP 2 rfl (by omega) dX12_save_82 ?_
      refine W.eq (g2 := F0 m 83 ls [.int (iI (pv 1 1)), .int (iI 24), .ref (ma 22)]) rfl ?_
      refine z_iast hx hb hK.1 hP hD hS 7 rfl (by omega) dX12_save_83 (fun H locs hP hD hS => ?_)
      have hP : va_P X.1 vwCl (zb [WMo o ma mi ml, WMp X ma pv, Wa X 2 (ma 22) 105 (updZ (updZ (updZ (updZ (updZ (updZ (updZ (updZ (updZ (updZ sa 15 (pv 0 2)) 16 (pv 0 3)) 17 (pv 0 4)) 18 (pv 0 5)) 19 (pv 0 1)) 20 (pv 1 2)) 21 (pv 1 3)) 22 (pv 1 4)) 23 (pv 1 5)) 24 (pv 1 1))]) H := hP
      have hD : va_D A (zb [WMo o ma mi ml, WMp X ma pv, Wa X 2 (ma 22) 105 (updZ (updZ (updZ (updZ (updZ (updZ (updZ (updZ (updZ (updZ sa 15 (pv 0 2)) 16 (pv 0 3)) 17 (pv 0 4)) 18 (pv 0 5)) 19 (pv 0 1)) 20 (pv 1 2)) 21 (pv 1 3)) 22 (pv 1 4)) 23 (pv 1 5)) 24 (pv 1 1))]) := hD
      refine z_iinc (k := 1) (lv' := [(2, .int (iI 2)), (3, .int (iI 20)), (0, .ref o), (1, .int (iI 1))]) hx hb dX12_save_84 hl rfl (by decide) rfl (fun ls hl => ?_)
      refine lv_goto (tgt := 2) hx hb dX12_save_87 (by decide) ?_
      refine lv_iload_n hx hb dX12_save_2 rfl (lv_at hl 0 rfl) ?_
      refine lv_iconst (v := iI 3) hx hb dX12_save_3 (by decide) ?_
      refine z_icmp_ge (tgt := 90) hx hb (by omega) dX12_save_4 (by decide) (fun c_3 => ?_) (fun c_3 => ?_)
      · skip
        exact absurd c_3 (by omega)
      · skip
        refine lv_bipush (v := iI 15) hx hb dX12_save_7 (by decide) ?_
        refine lv_iload_n hx hb dX12_save_9 rfl (lv_at hl 3 rfl) ?_
        refine z_imul hx hb dX12_save_10 ?_
        refine W.eq (g2 := F0 m 11 ls [.int (iI 15)]) rfl ?_
        refine lv_iconst (v := iI 5) hx hb dX12_save_11 (by decide) ?_
        refine lv_iload_n hx hb dX12_save_12 rfl (lv_at hl 0 rfl) ?_
        refine z_imul hx hb dX12_save_13 ?_
        refine W.eq (g2 := F0 m 14 ls [.int (iI 10), .int (iI 15)]) rfl ?_
        refine z_iadd hx hb dX12_save_14 ?_
        refine W.eq (g2 := F0 m 15 ls [.int (iI 25)]) rfl ?_
        refine lv_istore_n (lv' := [(3, .int (iI 25)), (2, .int (iI 2)), (0, .ref o), (1, .int (iI 1))]) hx hb dX12_save_15 rfl hl (by decide) rfl (fun ls hl => ?_)
        refine lv_aload_n hx hb dX12_save_16 rfl (lv_at hl 2 rfl) ?_
        refine va_get (ci := 12) (v := .ref (ma 22)) (C := RX12) (T := TX12) (N := 38) hx hb hts inX12 hown hK.1 hP 0 rfl rfl 22 (by decide) (hts (.fieldLink RX12 47 "SkimmedSonsModel" "saved" "[I") (by decide +kernel)) (fun _ h9 => h9) rfl dX12_save_17 ?_
        refine lv_iload_n hx hb dX12_save_20 rfl (lv_at hl 0 rfl) ?_
        refine lv_aload_n hx hb dX12_save_21 rfl (lv_at hl 2 rfl) ?_
        refine va_get (ci := 12) (v := .ref (ma 4)) (C := RX12) (T := TX12) (N := 38) hx hb hts inX12 hown hK.1 hP 0 rfl rfl 4 (by decide) (hts (.fieldLink RX12 13 "SkimmedSonsModel" "fatOf" "[I") (by decide +kernel)) (fun _ h9 => h9) rfl dX12_save_22 ?_
        refine lv_iload_n hx hb dX12_save_25 rfl (lv_at hl 1 rfl) ?_
        refine z_iald hx hb hK.1 hP 3 rfl (by omega) dX12_save_26 ?_
        refine W.eq (g2 := F0 m 27 ls [.int (iI (pv 2 2)), .int (iI 25), .ref (ma 22)]) rfl ?_
        refine z_iast hx hb hK.1 hP hD hS 7 rfl (by omega) dX12_save_27 (fun H locs hP hD hS => ?_)
        have hP : va_P X.1 vwCl (zb [WMo o ma mi ml, WMp X ma pv, Wa X 2 (ma 22) 105 (updZ (updZ (updZ (updZ (updZ (updZ (updZ (updZ (updZ (updZ (updZ sa 15 (pv 0 2)) 16 (pv 0 3)) 17 (pv 0 4)) 18 (pv 0 5)) 19 (pv 0 1)) 20 (pv 1 2)) 21 (pv 1 3)) 22 (pv 1 4)) 23 (pv 1 5)) 24 (pv 1 1)) 25 (pv 2 2))]) H := hP
        have hD : va_D A (zb [WMo o ma mi ml, WMp X ma pv, Wa X 2 (ma 22) 105 (updZ (updZ (updZ (updZ (updZ (updZ (updZ (updZ (updZ (updZ (updZ sa 15 (pv 0 2)) 16 (pv 0 3)) 17 (pv 0 4)) 18 (pv 0 5)) 19 (pv 0 1)) 20 (pv 1 2)) 21 (pv 1 3)) 22 (pv 1 4)) 23 (pv 1 5)) 24 (pv 1 1)) 25 (pv 2 2))]) := hD
        refine lv_aload_n hx hb dX12_save_28 rfl (lv_at hl 2 rfl) ?_
        refine va_get (ci := 12) (v := .ref (ma 22)) (C := RX12) (T := TX12) (N := 38) hx hb hts inX12 hown hK.1 hP 0 rfl rfl 22 (by decide) (hts (.fieldLink RX12 47 "SkimmedSonsModel" "saved" "[I") (by decide +kernel)) (fun _ h9 => h9) rfl dX12_save_29 ?_
        refine lv_iload_n hx hb dX12_save_32 rfl (lv_at hl 0 rfl) ?_
        refine lv_iconst (v := iI 1) hx hb dX12_save_33 (by decide) ?_
        refine z_iadd hx hb dX12_save_34 ?_
        refine W.eq (g2 := F0 m 35 ls [.int (iI 26), .ref (ma 22)]) rfl ?_
        refine lv_aload_n hx hb dX12_save_35 rfl (lv_at hl 2 rfl) ?_
        refine va_get (ci := 12) (v := .ref (ma 5)) (C := RX12) (T := TX12) (N := 38) hx hb hts inX12 hown hK.1 hP 0 rfl rfl 5 (by decide) (hts (.fieldLink RX12 16 "SkimmedSonsModel" "creamOf" "[I") (by decide +kernel)) (fun _ h9 => h9) rfl dX12_save_36 ?_
        refine lv_iload_n hx hb dX12_save_39 rfl (lv_at hl 1 rfl) ?_
        refine z_iald hx hb hK.1 hP 4 rfl (by omega) dX12_save_40 ?_
        refine W.eq (g2 := F0 m 41 ls [.int (iI (pv 2 3)), .int (iI 26), .ref (ma 22)]) rfl ?_
        refine z_iast hx hb hK.1 hP hD hS 7 rfl (by omega) dX12_save_41 (fun H locs hP hD hS => ?_)
        have hP : va_P X.1 vwCl (zb [WMo o ma mi ml, WMp X ma pv, Wa X 2 (ma 22) 105 (updZ (updZ (updZ (updZ (updZ (updZ (updZ (updZ (updZ (updZ (updZ (updZ sa 15 (pv 0 2)) 16 (pv 0 3)) 17 (pv 0 4)) 18 (pv 0 5)) 19 (pv 0 1)) 20 (pv 1 2)) 21 (pv 1 3)) 22 (pv 1 4)) 23 (pv 1 5)) 24 (pv 1 1)) 25 (pv 2 2)) 26 (pv 2 3))]) H := hP
        have hD : va_D A (zb [WMo o ma mi ml, WMp X ma pv, Wa X 2 (ma 22) 105 (updZ (updZ (updZ (updZ (updZ (updZ (updZ (updZ (updZ (updZ (updZ (updZ sa 15 (pv 0 2)) 16 (pv 0 3)) 17 (pv 0 4)) 18 (pv 0 5)) 19 (pv 0 1)) 20 (pv 1 2)) 21 (pv 1 3)) 22 (pv 1 4)) 23 (pv 1 5)) 24 (pv 1 1)) 25 (pv 2 2)) 26 (pv 2 3))]) := hD
        refine lv_aload_n hx hb dX12_save_42 rfl (lv_at hl 2 rfl) ?_
        refine va_get (ci := 12) (v := .ref (ma 22)) (C := RX12) (T := TX12) (N := 38) hx hb hts inX12 hown hK.1 hP 0 rfl rfl 22 (by decide) (hts (.fieldLink RX12 47 "SkimmedSonsModel" "saved" "[I") (by decide +kernel)) (fun _ h9 => h9) rfl dX12_save_43 ?_
        refine lv_iload_n hx hb dX12_save_46 rfl (lv_at hl 0 rfl) ?_
        refine lv_iconst (v := iI 2) hx hb dX12_save_47 (by decide) ?_
        refine z_iadd hx hb dX12_save_48 ?_
        refine W.eq (g2 := F0 m 49 ls [.int (iI 27), .ref (ma 22)]) rfl ?_
        refine lv_aload_n hx hb dX12_save_49 rfl (lv_at hl 2 rfl) ?_
        refine va_get (ci := 12) (v := .ref (ma 6)) (C := RX12) (T := TX12) (N := 38) hx hb hts inX12 hown hK.1 hP 0 rfl rfl 6 (by decide) (hts (.fieldLink RX12 19 "SkimmedSonsModel" "filmOf" "[I") (by decide +kernel)) (fun _ h9 => h9) rfl dX12_save_50 ?_
        refine lv_iload_n hx hb dX12_save_53 rfl (lv_at hl 1 rfl) ?_
        refine z_iald hx hb hK.1 hP 5 rfl (by omega) dX12_save_54 ?_
        refine W.eq (g2 := F0 m 55 ls [.int (iI (pv 2 4)), .int (iI 27), .ref (ma 22)]) rfl ?_
        refine z_iast hx hb hK.1 hP hD hS 7 rfl (by omega) dX12_save_55 (fun H locs hP hD hS => ?_)
        have hP : va_P X.1 vwCl (zb [WMo o ma mi ml, WMp X ma pv, Wa X 2 (ma 22) 105 (updZ (updZ (updZ (updZ (updZ (updZ (updZ (updZ (updZ (updZ (updZ (updZ (updZ sa 15 (pv 0 2)) 16 (pv 0 3)) 17 (pv 0 4)) 18 (pv 0 5)) 19 (pv 0 1)) 20 (pv 1 2)) 21 (pv 1 3)) 22 (pv 1 4)) 23 (pv 1 5)) 24 (pv 1 1)) 25 (pv 2 2)) 26 (pv 2 3)) 27 (pv 2 4))]) H := hP
        have hD : va_D A (zb [WMo o ma mi ml, WMp X ma pv, Wa X 2 (ma 22) 105 (updZ (updZ (updZ (updZ (updZ (updZ (updZ (updZ (updZ (updZ (updZ (updZ (updZ sa 15 (pv 0 2)) 16 (pv 0 3)) 17 (pv 0 4)) 18 (pv 0 5)) 19 (pv 0 1)) 20 (pv 1 2)) 21 (pv 1 3)) 22 (pv 1 4)) 23 (pv 1 5)) 24 (pv 1 1)) 25 (pv 2 2)) 26 (pv 2 3)) 27 (pv 2 4))]) := hD
        refine lv_aload_n hx hb dX12_save_56 rfl (lv_at hl 2 rfl) ?_
        refine va_get (ci := 12) (v := .ref (ma 22)) (C := RX12) (T := TX12) (N := 38) hx hb hts inX12 hown hK.1 hP 0 rfl rfl 22 (by decide) (hts (.fieldLink RX12 47 "SkimmedSonsModel" "saved" "[I") (by decide +kernel)) (fun _ h9 => h9) rfl dX12_save_57 ?_
        refine lv_iload_n hx hb dX12_save_60 rfl (lv_at hl 0 rfl) ?_
        refine lv_iconst (v := iI 3) hx hb dX12_save_61 (by decide) ?_
        refine z_iadd hx hb dX12_save_62 ?_
        refine W.eq (g2 := F0 m 63 ls [.int (iI 28), .ref (ma 22)]) rfl ?_
        refine lv_aload_n hx hb dX12_save_63 rfl (lv_at hl 2 rfl) ?_
        refine va_get (ci := 12) (v := .ref (ma 7)) (C := RX12) (T := TX12) (N := 38) hx hb hts inX12 hown hK.1 hP 0 rfl rfl 7 (by decide) (hts (.fieldLink RX12 22 "SkimmedSonsModel" "blueOf" "[I") (by decide +kernel)) (fun _ h9 => h9) rfl dX12_save_64 ?_
        refine lv_iload_n hx hb dX12_save_67 rfl (lv_at hl 1 rfl) ?_
        refine z_iald hx hb hK.1 hP 6 rfl (by omega) dX12_save_68 ?_
        refine W.eq (g2 := F0 m 69 ls [.int (iI (pv 2 5)), .int (iI 28), .ref (ma 22)]) rfl ?_
        refine z_iast hx hb hK.1 hP hD hS 7 rfl (by omega) dX12_save_69 (fun H locs hP hD hS => ?_)
        have hP : va_P X.1 vwCl (zb [WMo o ma mi ml, WMp X ma pv, Wa X 2 (ma 22) 105 (updZ (updZ (updZ (updZ (updZ (updZ (updZ (updZ (updZ (updZ (updZ (updZ (updZ (updZ sa 15 (pv 0 2)) 16 (pv 0 3)) 17 (pv 0 4)) 18 (pv 0 5)) 19 (pv 0 1)) 20 (pv 1 2)) 21 (pv 1 3)) 22 (pv 1 4)) 23 (pv 1 5)) 24 (pv 1 1)) 25 (pv 2 2)) 26 (pv 2 3)) 27 (pv 2 4)) 28 (pv 2 5))]) H := hP
        have hD : va_D A (zb [WMo o ma mi ml, WMp X ma pv, Wa X 2 (ma 22) 105 (updZ (updZ (updZ (updZ (updZ (updZ (updZ (updZ (updZ (updZ (updZ (updZ (updZ (updZ sa 15 (pv 0 2)) 16 (pv 0 3)) 17 (pv 0 4)) 18 (pv 0 5)) 19 (pv 0 1)) 20 (pv 1 2)) 21 (pv 1 3)) 22 (pv 1 4)) 23 (pv 1 5)) 24 (pv 1 1)) 25 (pv 2 2)) 26 (pv 2 3)) 27 (pv 2 4)) 28 (pv 2 5))]) := hD
        refine lv_aload_n hx hb dX12_save_70 rfl (lv_at hl 2 rfl) ?_
        refine va_get (ci := 12) (v := .ref (ma 22)) (C := RX12) (T := TX12) (N := 38) hx hb hts inX12 hown hK.1 hP 0 rfl rfl 22 (by decide) (hts (.fieldLink RX12 47 "SkimmedSonsModel" "saved" "[I") (by decide +kernel)) (fun _ h9 => h9) rfl dX12_save_71 ?_
        refine lv_iload_n hx hb dX12_save_74 rfl (lv_at hl 0 rfl) ?_
        refine lv_iconst (v := iI 4) hx hb dX12_save_75 (by decide) ?_
        refine z_iadd hx hb dX12_save_76 ?_
        refine W.eq (g2 := F0 m 77 ls [.int (iI 29), .ref (ma 22)]) rfl ?_
        refine lv_aload_n hx hb dX12_save_77 rfl (lv_at hl 2 rfl) ?_
        refine va_get (ci := 12) (v := .ref (ma 8)) (C := RX12) (T := TX12) (N := 38) hx hb hts inX12 hown hK.1 hP 0 rfl rfl 8 (by decide) (hts (.fieldLink RX12 25 "SkimmedSonsModel" "stillOf" "[I") (by decide +kernel)) (fun _ h9 => h9) rfl dX12_save_78 ?_
        refine lv_iload_n hx hb dX12_save_81 rfl (lv_at hl 1 rfl) ?_
        refine z_iald hx hb hK.1 hP 2 rfl (by omega) dX12_save_82 ?_
        refine W.eq (g2 := F0 m 83 ls [.int (iI (pv 2 1)), .int (iI 29), .ref (ma 22)]) rfl ?_
        refine z_iast hx hb hK.1 hP hD hS 7 rfl (by omega) dX12_save_83 (fun H locs hP hD hS => ?_)
        have hP : va_P X.1 vwCl (zb [WMo o ma mi ml, WMp X ma pv, Wa X 2 (ma 22) 105 (updZ (updZ (updZ (updZ (updZ (updZ (updZ (updZ (updZ (updZ (updZ (updZ (updZ (updZ (updZ sa 15 (pv 0 2)) 16 (pv 0 3)) 17 (pv 0 4)) 18 (pv 0 5)) 19 (pv 0 1)) 20 (pv 1 2)) 21 (pv 1 3)) 22 (pv 1 4)) 23 (pv 1 5)) 24 (pv 1 1)) 25 (pv 2 2)) 26 (pv 2 3)) 27 (pv 2 4)) 28 (pv 2 5)) 29 (pv 2 1))]) H := hP
        have hD : va_D A (zb [WMo o ma mi ml, WMp X ma pv, Wa X 2 (ma 22) 105 (updZ (updZ (updZ (updZ (updZ (updZ (updZ (updZ (updZ (updZ (updZ (updZ (updZ (updZ (updZ sa 15 (pv 0 2)) 16 (pv 0 3)) 17 (pv 0 4)) 18 (pv 0 5)) 19 (pv 0 1)) 20 (pv 1 2)) 21 (pv 1 3)) 22 (pv 1 4)) 23 (pv 1 5)) 24 (pv 1 1)) 25 (pv 2 2)) 26 (pv 2 3)) 27 (pv 2 4)) 28 (pv 2 5)) 29 (pv 2 1))]) := hD
        refine z_iinc (k := 1) (lv' := [(2, .int (iI 3)), (3, .int (iI 25)), (0, .ref o), (1, .int (iI 1))]) hx hb dX12_save_84 hl rfl (by decide) rfl (fun ls hl => ?_)
        refine lv_goto (tgt := 2) hx hb dX12_save_87 (by decide) ?_
        refine lv_iload_n hx hb dX12_save_2 rfl (lv_at hl 0 rfl) ?_
        refine lv_iconst (v := iI 3) hx hb dX12_save_3 (by decide) ?_
        refine z_icmp_ge (tgt := 90) hx hb (by omega) dX12_save_4 (by decide) (fun c_4 => ?_) (fun c_4 => ?_)
        · skip
          have hw : zb [WMo o ma mi ml, WMp X ma pv, Wa X 2 (ma 22) 105 (updZ (updZ (updZ (updZ (updZ (updZ (updZ (updZ (updZ (updZ (updZ (updZ (updZ (updZ (updZ sa 15 (pv 0 2)) 16 (pv 0 3)) 17 (pv 0 4)) 18 (pv 0 5)) 19 (pv 0 1)) 20 (pv 1 2)) 21 (pv 1 3)) 22 (pv 1 4)) 23 (pv 1 5)) 24 (pv 1 1)) 25 (pv 2 2)) 26 (pv 2 3)) 27 (pv 2 4)) 28 (pv 2 5)) 29 (pv 2 1))] = zb [WMo o ma mi ml, WMp X ma pv, Wa X 2 (ma 22) 105 (savF 15 pv sa)] := by rw [← savF_15]
          rw [hw] at hP hD
          exact z_vret hQ hx hb hr hlocks hS ⟨(Nat.le_of_ble_eq_true rfl), (Nat.le_of_ble_eq_true rfl)⟩ dX12_save_90 () rfl trivial hP hD
        · skip
          exact absurd c_4 (by omega)
set_option maxHeartbeats 1000000 in
set_option maxRecDepth 100000 in
theorem c_X12_load_1 (l : Launch) (X : zX) (o : Nat) (ma : Nat → Nat) (mi : Nat → Int) (ml : Nat → Int) (pv : Nat → Nat → Int) (sa : Nat → Int) (pv0 : Nat → Nat → Int) (hld : LdOk 15 sa pv pv0) : zF l X yX12_load wsX12_load 0 0 [.ref o, .int (iI 1)] (zb [WMo o ma mi ml, WMp X ma pv, Wa X 2 (ma 22) 105 sa]) none (zb [WMo o ma mi ml, WMp X ma pv0, Wa X 2 (ma 22) 105 sa]) := by
  refine z_enter (cc := cX12_load) (maxL := 4) (ret := none) (by decide) rfl (Nat.le_of_ble_eq_true rfl) ?_
  intro p e s m below meth c A ls Q hQ hE hl hP hD
  obtain ⟨hx, hb, hr, hml, hown, hts, hlocks, hnm, hA, hK⟩ := hE
  have hown : s.vm.findClass RX12 = some m.cls := hown
  have hS : va_S A s.heap s.heap [] := va_S.rf
  have hl : lv_has ls 4 [(0, .ref o), (1, .int (iI 1))] := hl
  have inX12 : ∀ w ∈ u_ws RX12 TX12 38, w ∈ wsX12_load := by decide +kernel
  refine lv_iconst (v := iI 0) hx hb dX12_load_0 (by decide) ?_
  refine lv_istore_n (lv' := [(2, .int (iI 0)), (0, .ref o), (1, .int (iI 1))]) hx hb dX12_load_1 rfl hl (by decide) rfl (fun ls hl => ?_)
  refine lv_iload_n hx hb dX12_load_2 rfl (lv_at hl 0 rfl) ?_
  refine lv_iconst (v := iI 3) hx hb dX12_load_3 (by decide) ?_
  refine z_icmp_ge (tgt := 90) hx hb (by omega) dX12_load_4 (by decide) (fun c_1 => ?_) (fun c_1 => ?_)
  · skip
    exact absurd c_1 (by omega)
  · skip
    refine lv_bipush (v := iI 15) hx hb dX12_load_7 (by decide) ?_
    refine lv_iload_n hx hb dX12_load_9 rfl (lv_at hl 2 rfl) ?_
    refine z_imul hx hb dX12_load_10 ?_
    refine W.eq (g2 := F0 m 11 ls [.int (iI 15)]) rfl ?_
    refine lv_iconst (v := iI 5) hx hb dX12_load_11 (by decide) ?_
    refine lv_iload_n hx hb dX12_load_12 rfl (lv_at hl 0 rfl) ?_
    refine z_imul hx hb dX12_load_13 ?_
    refine W.eq (g2 := F0 m 14 ls [.int (iI 0), .int (iI 15)]) rfl ?_
    refine z_iadd hx hb dX12_load_14 ?_
    refine W.eq (g2 := F0 m 15 ls [.int (iI 15)]) rfl ?_
    refine lv_istore_n (lv' := [(3, .int (iI 15)), (2, .int (iI 0)), (0, .ref o), (1, .int (iI 1))]) hx hb dX12_load_15 rfl hl (by decide) rfl (fun ls hl => ?_)
    refine lv_aload_n hx hb dX12_load_16 rfl (lv_at hl 2 rfl) ?_
    refine va_get (ci := 12) (v := .ref (ma 4)) (C := RX12) (T := TX12) (N := 38) hx hb hts inX12 hown hK.1 hP 0 rfl rfl 4 (by decide) (hts (.fieldLink RX12 13 "SkimmedSonsModel" "fatOf" "[I") (by decide +kernel)) (fun _ h9 => h9) rfl dX12_load_17 ?_
    refine lv_iload_n hx hb dX12_load_20 rfl (lv_at hl 1 rfl) ?_
    refine lv_aload_n hx hb dX12_load_21 rfl (lv_at hl 2 rfl) ?_
    refine va_get (ci := 12) (v := .ref (ma 22)) (C := RX12) (T := TX12) (N := 38) hx hb hts inX12 hown hK.1 hP 0 rfl rfl 22 (by decide) (hts (.fieldLink RX12 47 "SkimmedSonsModel" "saved" "[I") (by decide +kernel)) (fun _ h9 => h9) rfl dX12_load_22 ?_
    refine lv_iload_n hx hb dX12_load_25 rfl (lv_at hl 0 rfl) ?_
    refine z_iald hx hb hK.1 hP 7 rfl (by omega) dX12_load_26 ?_
    refine W.eq (g2 := F0 m 27 ls [.int (iI (sa 15)), .int (iI 0), .ref (ma 4)]) rfl ?_
    refine z_iast hx hb hK.1 hP hD hS 3 rfl (by omega) dX12_load_27 (fun H locs hP hD hS => ?_)
    have hP : va_P X.1 vwCl (zb [WMo o ma mi ml, WMx X ma (fun j => pv j 0) (fun j => pv j 1) (updZ (fun j => pv j 2) 0 (sa 15)) (fun j => pv j 3) (fun j => pv j 4) (fun j => pv j 5), Wa X 2 (ma 22) 105 sa]) H := hP
    have hD : va_D A (zb [WMo o ma mi ml, WMx X ma (fun j => pv j 0) (fun j => pv j 1) (updZ (fun j => pv j 2) 0 (sa 15)) (fun j => pv j 3) (fun j => pv j 4) (fun j => pv j 5), Wa X 2 (ma 22) 105 sa]) := hD
    refine lv_aload_n hx hb dX12_load_28 rfl (lv_at hl 2 rfl) ?_
    refine va_get (ci := 12) (v := .ref (ma 5)) (C := RX12) (T := TX12) (N := 38) hx hb hts inX12 hown hK.1 hP 0 rfl rfl 5 (by decide) (hts (.fieldLink RX12 16 "SkimmedSonsModel" "creamOf" "[I") (by decide +kernel)) (fun _ h9 => h9) rfl dX12_load_29 ?_
    refine lv_iload_n hx hb dX12_load_32 rfl (lv_at hl 1 rfl) ?_
    refine lv_aload_n hx hb dX12_load_33 rfl (lv_at hl 2 rfl) ?_
    refine va_get (ci := 12) (v := .ref (ma 22)) (C := RX12) (T := TX12) (N := 38) hx hb hts inX12 hown hK.1 hP 0 rfl rfl 22 (by decide) (hts (.fieldLink RX12 47 "SkimmedSonsModel" "saved" "[I") (by decide +kernel)) (fun _ h9 => h9) rfl dX12_load_34 ?_
    refine lv_iload_n hx hb dX12_load_37 rfl (lv_at hl 0 rfl) ?_
    refine lv_iconst (v := iI 1) hx hb dX12_load_38 (by decide) ?_
    refine z_iadd hx hb dX12_load_39 ?_
    refine W.eq (g2 := F0 m 40 ls [.int (iI 16), .ref (ma 22), .int (iI 0), .ref (ma 5)]) rfl ?_
    refine z_iald hx hb hK.1 hP 7 rfl (by omega) dX12_load_40 ?_
    refine W.eq (g2 := F0 m 41 ls [.int (iI (sa 16)), .int (iI 0), .ref (ma 5)]) rfl ?_
    refine z_iast hx hb hK.1 hP hD hS 4 rfl (by omega) dX12_load_41 (fun H locs hP hD hS => ?_)
    have hP : va_P X.1 vwCl (zb [WMo o ma mi ml, WMx X ma (fun j => pv j 0) (fun j => pv j 1) (updZ (fun j => pv j 2) 0 (sa 15)) (updZ (fun j => pv j 3) 0 (sa 16)) (fun j => pv j 4) (fun j => pv j 5), Wa X 2 (ma 22) 105 sa]) H := hP
    have hD : va_D A (zb [WMo o ma mi ml, WMx X ma (fun j => pv j 0) (fun j => pv j 1) (updZ (fun j => pv j 2) 0 (sa 15)) (updZ (fun j => pv j 3) 0 (sa 16)) (fun j => pv j 4) (fun j => pv j 5), Wa X 2 (ma 22) 105 sa]) := hD
    refine lv_aload_n hx hb dX12_load_42 rfl (lv_at hl 2 rfl) ?_
    refine va_get (ci := 12) (v := .ref (ma 6)) (C := RX12) (T := TX12) (N := 38) hx hb hts inX12 hown hK.1 hP 0 rfl rfl 6 (by decide) (hts (.fieldLink RX12 19 "SkimmedSonsModel" "filmOf" "[I") (by decide +kernel)) (fun _ h9 => h9) rfl dX12_load_43 ?_
    refine lv_iload_n hx hb dX12_load_46 rfl (lv_at hl 1 rfl) ?_
    refine lv_aload_n hx hb dX12_load_47 rfl (lv_at hl 2 rfl) ?_
    refine va_get (ci := 12) (v := .ref (ma 22)) (C := RX12) (T := TX12) (N := 38) hx hb hts inX12 hown hK.1 hP 0 rfl rfl 22 (by decide) (hts (.fieldLink RX12 47 "SkimmedSonsModel" "saved" "[I") (by decide +kernel)) (fun _ h9 => h9) rfl dX12_load_48 ?_
    refine lv_iload_n hx hb dX12_load_51 rfl (lv_at hl 0 rfl) ?_
    refine lv_iconst (v := iI 2) hx hb dX12_load_52 (by decide) ?_
    refine z_iadd hx hb dX12_load_53 ?_
    refine W.eq (g2 := F0 m 54 ls [.int (iI 17), .ref (ma 22), .int (iI 0), .ref (ma 6)]) rfl ?_
    refine z_iald hx hb hK.1 hP 7 rfl (by omega) dX12_load_54 ?_
    refine W.eq (g2 := F0 m 55 ls [.int (iI (sa 17)), .int (iI 0), .ref (ma 6)]) rfl ?_
    refine z_iast hx hb hK.1 hP hD hS 5 rfl (by omega) dX12_load_55 (fun H locs hP hD hS => ?_)
    have hP : va_P X.1 vwCl (zb [WMo o ma mi ml, WMx X ma (fun j => pv j 0) (fun j => pv j 1) (updZ (fun j => pv j 2) 0 (sa 15)) (updZ (fun j => pv j 3) 0 (sa 16)) (updZ (fun j => pv j 4) 0 (sa 17)) (fun j => pv j 5), Wa X 2 (ma 22) 105 sa]) H := hP
    have hD : va_D A (zb [WMo o ma mi ml, WMx X ma (fun j => pv j 0) (fun j => pv j 1) (updZ (fun j => pv j 2) 0 (sa 15)) (updZ (fun j => pv j 3) 0 (sa 16)) (updZ (fun j => pv j 4) 0 (sa 17)) (fun j => pv j 5), Wa X 2 (ma 22) 105 sa]) := hD
    refine lv_aload_n hx hb dX12_load_56 rfl (lv_at hl 2 rfl) ?_
    refine va_get (ci := 12) (v := .ref (ma 7)) (C := RX12) (T := TX12) (N := 38) hx hb hts inX12 hown hK.1 hP 0 rfl rfl 7 (by decide) (hts (.fieldLink RX12 22 "SkimmedSonsModel" "blueOf" "[I") (by decide +kernel)) (fun _ h9 => h9) rfl dX12_load_57 ?_
    refine lv_iload_n hx hb dX12_load_60 rfl (lv_at hl 1 rfl) ?_
    refine lv_aload_n hx hb dX12_load_61 rfl (lv_at hl 2 rfl) ?_
    refine va_get (ci := 12) (v := .ref (ma 22)) (C := RX12) (T := TX12) (N := 38) hx hb hts inX12 hown hK.1 hP 0 rfl rfl 22 (by decide) (hts (.fieldLink RX12 47 "SkimmedSonsModel" "saved" "[I") (by decide +kernel)) (fun _ h9 => h9) rfl dX12_load_62 ?_
    refine lv_iload_n hx hb dX12_load_65 rfl (lv_at hl 0 rfl) ?_
    refine lv_iconst (v := iI 3) hx hb dX12_load_66 (by decide) ?_
    refine z_iadd hx hb dX12_load_67 ?_
    refine W.eq (g2 := F0 m 68 ls [.int (iI 18), .ref (ma 22), .int (iI 0), .ref (ma 7)]) rfl ?_
    refine z_iald hx hb hK.1 hP 7 rfl (by omega) dX12_load_68 ?_
    refine W.eq (g2 := F0 m 69 ls [.int (iI (sa 18)), .int (iI 0), .ref (ma 7)]) rfl ?_
    refine z_iast hx hb hK.1 hP hD hS 6 rfl (by omega) dX12_load_69 (fun H locs hP hD hS => ?_)
    have hP : va_P X.1 vwCl (zb [WMo o ma mi ml, WMx X ma (fun j => pv j 0) (fun j => pv j 1) (updZ (fun j => pv j 2) 0 (sa 15)) (updZ (fun j => pv j 3) 0 (sa 16)) (updZ (fun j => pv j 4) 0 (sa 17)) (updZ (fun j => pv j 5) 0 (sa 18)), Wa X 2 (ma 22) 105 sa]) H := hP
    have hD : va_D A (zb [WMo o ma mi ml, WMx X ma (fun j => pv j 0) (fun j => pv j 1) (updZ (fun j => pv j 2) 0 (sa 15)) (updZ (fun j => pv j 3) 0 (sa 16)) (updZ (fun j => pv j 4) 0 (sa 17)) (updZ (fun j => pv j 5) 0 (sa 18)), Wa X 2 (ma 22) 105 sa]) := hD
    refine lv_aload_n hx hb dX12_load_70 rfl (lv_at hl 2 rfl) ?_
    refine va_get (ci := 12) (v := .ref (ma 8)) (C := RX12) (T := TX12) (N := 38) hx hb hts inX12 hown hK.1 hP 0 rfl rfl 8 (by decide) (hts (.fieldLink RX12 25 "SkimmedSonsModel" "stillOf" "[I") (by decide +kernel)) (fun _ h9 => h9) rfl dX12_load_71 ?_
    refine lv_iload_n hx hb dX12_load_74 rfl (lv_at hl 1 rfl) ?_
    refine lv_aload_n hx hb dX12_load_75 rfl (lv_at hl 2 rfl) ?_
    refine va_get (ci := 12) (v := .ref (ma 22)) (C := RX12) (T := TX12) (N := 38) hx hb hts inX12 hown hK.1 hP 0 rfl rfl 22 (by decide) (hts (.fieldLink RX12 47 "SkimmedSonsModel" "saved" "[I") (by decide +kernel)) (fun _ h9 => h9) rfl dX12_load_76 ?_
    refine lv_iload_n hx hb dX12_load_79 rfl (lv_at hl 0 rfl) ?_
    refine lv_iconst (v := iI 4) hx hb dX12_load_80 (by decide) ?_
    refine z_iadd hx hb dX12_load_81 ?_
    refine W.eq (g2 := F0 m 82 ls [.int (iI 19), .ref (ma 22), .int (iI 0), .ref (ma 8)]) rfl ?_
    refine z_iald hx hb hK.1 hP 7 rfl (by omega) dX12_load_82 ?_
    refine W.eq (g2 := F0 m 83 ls [.int (iI (sa 19)), .int (iI 0), .ref (ma 8)]) rfl ?_
    refine z_iast hx hb hK.1 hP hD hS 2 rfl (by omega) dX12_load_83 (fun H locs hP hD hS => ?_)
    have hP : va_P X.1 vwCl (zb [WMo o ma mi ml, WMx X ma (fun j => pv j 0) (updZ (fun j => pv j 1) 0 (sa 19)) (updZ (fun j => pv j 2) 0 (sa 15)) (updZ (fun j => pv j 3) 0 (sa 16)) (updZ (fun j => pv j 4) 0 (sa 17)) (updZ (fun j => pv j 5) 0 (sa 18)), Wa X 2 (ma 22) 105 sa]) H := hP
    have hD : va_D A (zb [WMo o ma mi ml, WMx X ma (fun j => pv j 0) (updZ (fun j => pv j 1) 0 (sa 19)) (updZ (fun j => pv j 2) 0 (sa 15)) (updZ (fun j => pv j 3) 0 (sa 16)) (updZ (fun j => pv j 4) 0 (sa 17)) (updZ (fun j => pv j 5) 0 (sa 18)), Wa X 2 (ma 22) 105 sa]) := hD
    refine z_iinc (k := 1) (lv' := [(2, .int (iI 1)), (3, .int (iI 15)), (0, .ref o), (1, .int (iI 1))]) hx hb dX12_load_84 hl rfl (by decide) rfl (fun ls hl => ?_)
    refine lv_goto (tgt := 2) hx hb dX12_load_87 (by decide) ?_
    refine lv_iload_n hx hb dX12_load_2 rfl (lv_at hl 0 rfl) ?_
    refine lv_iconst (v := iI 3) hx hb dX12_load_3 (by decide) ?_
    refine z_icmp_ge (tgt := 90) hx hb (by omega) dX12_load_4 (by decide) (fun c_2 => ?_) (fun c_2 => ?_)
    · skip
      exact absurd c_2 (by omega)
    · skip
      refine lv_bipush (v := iI 15) hx hb dX12_load_7 (by decide) ?_
      refine lv_iload_n hx hb dX12_load_9 rfl (lv_at hl 3 rfl) ?_
      refine z_imul hx hb dX12_load_10 ?_
      refine W.eq (g2 := F0 m 11 ls [.int (iI 15)]) rfl ?_
      refine lv_iconst (v := iI 5) hx hb dX12_load_11 (by decide) ?_
      refine lv_iload_n hx hb dX12_load_12 rfl (lv_at hl 0 rfl) ?_
      refine z_imul hx hb dX12_load_13 ?_
      refine W.eq (g2 := F0 m 14 ls [.int (iI 5), .int (iI 15)]) rfl ?_
      refine z_iadd hx hb dX12_load_14 ?_
      refine W.eq (g2 := F0 m 15 ls [.int (iI 20)]) rfl ?_
      refine lv_istore_n (lv' := [(3, .int (iI 20)), (2, .int (iI 1)), (0, .ref o), (1, .int (iI 1))]) hx hb dX12_load_15 rfl hl (by decide) rfl (fun ls hl => ?_)
      refine lv_aload_n hx hb dX12_load_16 rfl (lv_at hl 2 rfl) ?_
      refine va_get (ci := 12) (v := .ref (ma 4)) (C := RX12) (T := TX12) (N := 38) hx hb hts inX12 hown hK.1 hP 0 rfl rfl 4 (by decide) (hts (.fieldLink RX12 13 "SkimmedSonsModel" "fatOf" "[I") (by decide +kernel)) (fun _ h9 => h9) rfl dX12_load_17 ?_
      refine lv_iload_n hx hb dX12_load_20 rfl (lv_at hl 1 rfl) ?_
      refine lv_aload_n hx hb dX12_load_21 rfl (lv_at hl 2 rfl) ?_
      refine va_get (ci := 12) (v := .ref (ma 22)) (C := RX12) (T := TX12) (N := 38) hx hb hts inX12 hown hK.1 hP 0 rfl rfl 22 (by decide) (hts (.fieldLink RX12 47 "SkimmedSonsModel" "saved" "[I") (by decide +kernel)) (fun _ h9 => h9) rfl dX12_load_22 ?_
      refine lv_iload_n hx hb dX12_load_25 rfl (lv_at hl 0 rfl) ?_
      refine z_iald hx hb hK.1 hP 7 rfl (by omega) dX12_load_26 ?_
      refine W.eq (g2 := F0 m 27 ls [.int (iI (sa 20)), .int (iI 1), .ref (ma 4)]) rfl ?_
      refine z_iast hx hb hK.1 hP hD hS 3 rfl (by omega) dX12_load_27 (fun H locs hP hD hS => ?_)
      have hP : va_P X.1 vwCl (zb [WMo o ma mi ml, WMx X ma (fun j => pv j 0) (updZ (fun j => pv j 1) 0 (sa 19)) (updZ (updZ (fun j => pv j 2) 0 (sa 15)) 1 (sa 20)) (updZ (fun j => pv j 3) 0 (sa 16)) (updZ (fun j => pv j 4) 0 (sa 17)) (updZ (fun j => pv j 5) 0 (sa 18)), Wa X 2 (ma 22) 105 sa]) H := hP
      have hD : va_D A (zb [WMo o ma mi ml, WMx X ma (fun j => pv j 0) (updZ (fun j => pv j 1) 0 (sa 19)) (updZ (updZ (fun j => pv j 2) 0 (sa 15)) 1 (sa 20)) (updZ (fun j => pv j 3) 0 (sa 16)) (updZ (fun j => pv j 4) 0 (sa 17)) (updZ (fun j => pv j 5) 0 (sa 18)), Wa X 2 (ma 22) 105 sa]) := hD
      refine lv_aload_n hx hb dX12_load_28 rfl (lv_at hl 2 rfl) ?_
      refine va_get (ci := 12) (v := .ref (ma 5)) (C := RX12) (T := TX12) (N := 38) hx hb hts inX12 hown hK.1 hP 0 rfl rfl 5 (by decide) (hts (.fieldLink RX12 16 "SkimmedSonsModel" "creamOf" "[I") (by decide +kernel)) (fun _ h9 => h9) rfl dX12_load_29 ?_
      refine lv_iload_n hx hb dX12_load_32 rfl (lv_at hl 1 rfl) ?_
      refine lv_aload_n hx hb dX12_load_33 rfl (lv_at hl 2 rfl) ?_
      refine va_get (ci := 12) (v := .ref (ma 22)) (C := RX12) (T := TX12) (N := 38) hx hb hts inX12 hown hK.1 hP 0 rfl rfl 22 (by decide) (hts (.fieldLink RX12 47 "SkimmedSonsModel" "saved" "[I") (by decide +kernel)) (fun _ h9 => h9) rfl dX12_load_34 ?_
      refine lv_iload_n hx hb dX12_load_37 rfl (lv_at hl 0 rfl) ?_
      refine lv_iconst (v := iI 1) hx hb dX12_load_38 (by decide) ?_
      refine z_iadd hx hb dX12_load_39 ?_
      refine W.eq (g2 := F0 m 40 ls [.int (iI 21), .ref (ma 22), .int (iI 1), .ref (ma 5)]) rfl ?_
      refine z_iald hx hb hK.1 hP 7 rfl (by omega) dX12_load_40 ?_
      refine W.eq (g2 := F0 m 41 ls [.int (iI (sa 21)), .int (iI 1), .ref (ma 5)]) rfl ?_
      refine z_iast hx hb hK.1 hP hD hS 4 rfl (by omega) dX12_load_41 (fun H locs hP hD hS => ?_)
      have hP : va_P X.1 vwCl (zb [WMo o ma mi ml, WMx X ma (fun j => pv j 0) (updZ (fun j => pv j 1) 0 (sa 19)) (updZ (updZ (fun j => pv j 2) 0 (sa 15)) 1 (sa 20)) (updZ (updZ (fun j => pv j 3) 0 (sa 16)) 1 (sa 21)) (updZ (fun j => pv j 4) 0 (sa 17)) (updZ (fun j => pv j 5) 0 (sa 18)), Wa X 2 (ma 22) 105 sa]) H := hP
      have hD : va_D A (zb [WMo o ma mi ml, WMx X ma (fun j => pv j 0) (updZ (fun j => pv j 1) 0 (sa 19)) (updZ (updZ (fun j => pv j 2) 0 (sa 15)) 1 (sa 20)) (updZ (updZ (fun j => pv j 3) 0 (sa 16)) 1 (sa 21)) (updZ (fun j => pv j 4) 0 (sa 17)) (updZ (fun j => pv j 5) 0 (sa 18)), Wa X 2 (ma 22) 105 sa]) := hD
      refine lv_aload_n hx hb dX12_load_42 rfl (lv_at hl 2 rfl) ?_
      refine va_get (ci := 12) (v := .ref (ma 6)) (C := RX12) (T := TX12) (N := 38) hx hb hts inX12 hown hK.1 hP 0 rfl rfl 6 (by decide) (hts (.fieldLink RX12 19 "SkimmedSonsModel" "filmOf" "[I") (by decide +kernel)) (fun _ h9 => h9) rfl dX12_load_43 ?_
      refine lv_iload_n hx hb dX12_load_46 rfl (lv_at hl 1 rfl) ?_
      refine lv_aload_n hx hb dX12_load_47 rfl (lv_at hl 2 rfl) ?_
      refine va_get (ci := 12) (v := .ref (ma 22)) (C := RX12) (T := TX12) (N := 38) hx hb hts inX12 hown hK.1 hP 0 rfl rfl 22 (by decide) (hts (.fieldLink RX12 47 "SkimmedSonsModel" "saved" "[I") (by decide +kernel)) (fun _ h9 => h9) rfl dX12_load_48 ?_
      refine lv_iload_n hx hb dX12_load_51 rfl (lv_at hl 0 rfl) ?_
      refine lv_iconst (v := iI 2) hx hb dX12_load_52 (by decide) ?_
      refine z_iadd hx hb dX12_load_53 ?_
      refine W.eq (g2 := F0 m 54 ls [.int (iI 22), .ref (ma 22), .int (iI 1), .ref (ma 6)]) rfl ?_
      refine z_iald hx hb hK.1 hP 7 rfl (by omega) dX12_load_54 ?_
      refine W.eq (g2 := F0 m 55 ls [.int (iI (sa 22)), .int (iI 1), .ref (ma 6)]) rfl ?_
      refine z_iast hx hb hK.1 hP hD hS 5 rfl (by omega) dX12_load_55 (fun H locs hP hD hS => ?_)
      have hP : va_P X.1 vwCl (zb [WMo o ma mi ml, WMx X ma (fun j => pv j 0) (updZ (fun j => pv j 1) 0 (sa 19)) (updZ (updZ (fun j => pv j 2) 0 (sa 15)) 1 (sa 20)) (updZ (updZ (fun j => pv j 3) 0 (sa 16)) 1 (sa 21)) (updZ (updZ (fun j => pv j 4) 0 (sa 17)) 1 (sa 22)) (updZ (fun j => pv j 5) 0 (sa 18)), Wa X 2 (ma 22) 105 sa]) H := hP
      have hD : va_D A (zb [WMo o ma mi ml, WMx X ma (fun j => pv j 0) (updZ (fun j => pv j 1) 0 (sa 19)) (updZ (updZ (fun j => pv j 2) 0 (sa 15)) 1 (sa 20)) (updZ (updZ (fun j => pv j 3) 0 (sa 16)) 1 (sa 21)) (updZ (updZ (fun j => pv j 4) 0 (sa 17)) 1 (sa 22)) (updZ (fun j => pv j 5) 0 (sa 18)), Wa X 2 (ma 22) 105 sa]) := hD
      refine lv_aload_n hx hb dX12_load_56 rfl (lv_at hl 2 rfl) ?_
      refine va_get (ci := 12) (v := .ref (ma 7)) (C := RX12) (T := TX12) (N := 38) hx hb hts inX12 hown hK.1 hP 0 rfl rfl 7 (by decide) (hts (.fieldLink RX12 22 "SkimmedSonsModel" "blueOf" "[I") (by decide +kernel)) (fun _ h9 => h9) rfl dX12_load_57 ?_
      refine lv_iload_n hx hb dX12_load_60 rfl (lv_at hl 1 rfl) ?_
      refine lv_aload_n hx hb dX12_load_61 rfl (lv_at hl 2 rfl) ?_
      refine va_get (ci := 12) (v := .ref (ma 22)) (C := RX12) (T := TX12) (N := 38) hx hb hts inX12 hown hK.1 hP 0 rfl rfl 22 (by decide) (hts (.fieldLink RX12 47 "SkimmedSonsModel" "saved" "[I") (by decide +kernel)) (fun _ h9 => h9) rfl dX12_load_62 ?_
      refine lv_iload_n hx hb dX12_load_65 rfl (lv_at hl 0 rfl) ?_
      refine lv_iconst (v := iI 3) hx hb dX12_load_66 (by decide) ?_
      refine z_iadd hx hb dX12_load_67 ?_
      refine W.eq (g2 := F0 m 68 ls [.int (iI 23), .ref (ma 22), .int (iI 1), .ref (ma 7)]) rfl ?_
      refine z_iald hx hb hK.1 hP 7 rfl (by omega) dX12_load_68 ?_
      refine W.eq (g2 := F0 m 69 ls [.int (iI (sa 23)), .int (iI 1), .ref (ma 7)]) rfl ?_
      refine z_iast hx hb hK.1 hP hD hS 6 rfl (by omega) dX12_load_69 (fun H locs hP hD hS => ?_)
      have hP : va_P X.1 vwCl (zb [WMo o ma mi ml, WMx X ma (fun j => pv j 0) (updZ (fun j => pv j 1) 0 (sa 19)) (updZ (updZ (fun j => pv j 2) 0 (sa 15)) 1 (sa 20)) (updZ (updZ (fun j => pv j 3) 0 (sa 16)) 1 (sa 21)) (updZ (updZ (fun j => pv j 4) 0 (sa 17)) 1 (sa 22)) (updZ (updZ (fun j => pv j 5) 0 (sa 18)) 1 (sa 23)), Wa X 2 (ma 22) 105 sa]) H := hP
      have hD : va_D A (zb [WMo o ma mi ml, WMx X ma (fun j => pv j 0) (updZ (fun j => pv j 1) 0 (sa 19)) (updZ (updZ (fun j => pv j 2) 0 (sa 15)) 1 (sa 20)) (updZ (updZ (fun j => pv j 3) 0 (sa 16)) 1 (sa 21)) (updZ (updZ (fun j => pv j 4) 0 (sa 17)) 1 (sa 22)) (updZ (updZ (fun j => pv j 5) 0 (sa 18)) 1 (sa 23)), Wa X 2 (ma 22) 105 sa]) := hD
      refine lv_aload_n hx hb dX12_load_70 rfl (lv_at hl 2 rfl) ?_
      refine va_get (ci := 12) (v := .ref (ma 8)) (C := RX12) (T := TX12) (N := 38) hx hb hts inX12 hown hK.1 hP 0 rfl rfl 8 (by decide) (hts (.fieldLink RX12 25 "SkimmedSonsModel" "stillOf" "[I") (by decide +kernel)) (fun _ h9 => h9) rfl dX12_load_71 ?_
      refine lv_iload_n hx hb dX12_load_74 rfl (lv_at hl 1 rfl) ?_
      refine lv_aload_n hx hb dX12_load_75 rfl (lv_at hl 2 rfl) ?_
      refine va_get (ci := 12) (v := .ref (ma 22)) (C := RX12) (T := TX12) (N := 38) hx hb hts inX12 hown hK.1 hP 0 rfl rfl 22 (by decide) (hts (.fieldLink RX12 47 "SkimmedSonsModel" "saved" "[I") (by decide +kernel)) (fun _ h9 => h9) rfl dX12_load_76 ?_
      refine lv_iload_n hx hb dX12_load_79 rfl (lv_at hl 0 rfl) ?_
      refine lv_iconst (v := iI 4) hx hb dX12_load_80 (by decide) ?_
      refine z_iadd hx hb dX12_load_81 ?_
      refine W.eq (g2 := F0 m 82 ls [.int (iI 24), .ref (ma 22), .int (iI 1), .ref (ma 8)]) rfl ?_
      refine z_iald hx hb hK.1 hP 7 rfl (by omega) dX12_load_82 ?_
      refine W.eq (g2 := F0 m 83 ls [.int (iI (sa 24)), .int (iI 1), .ref (ma 8)]) rfl ?_
      refine z_iast hx hb hK.1 hP hD hS 2 rfl (by omega) dX12_load_83 (fun H locs hP hD hS => ?_)
      have hP : va_P X.1 vwCl (zb [WMo o ma mi ml, WMx X ma (fun j => pv j 0) (updZ (updZ (fun j => pv j 1) 0 (sa 19)) 1 (sa 24)) (updZ (updZ (fun j => pv j 2) 0 (sa 15)) 1 (sa 20)) (updZ (updZ (fun j => pv j 3) 0 (sa 16)) 1 (sa 21)) (updZ (updZ (fun j => pv j 4) 0 (sa 17)) 1 (sa 22)) (updZ (updZ (fun j => pv j 5) 0 (sa 18)) 1 (sa 23)), Wa X 2 (ma 22) 105 sa]) H := hP
      have hD : va_D A (zb [WMo o ma mi ml, WMx X ma (fun j => pv j 0) (updZ (updZ (fun j => pv j 1) 0 (sa 19)) 1 (sa 24)) (updZ (updZ (fun j => pv j 2) 0 (sa 15)) 1 (sa 20)) (updZ (updZ (fun j => pv j 3) 0 (sa 16)) 1 (sa 21)) (updZ (updZ (fun j => pv j 4) 0 (sa 17)) 1 (sa 22)) (updZ (updZ (fun j => pv j 5) 0 (sa 18)) 1 (sa 23)), Wa X 2 (ma 22) 105 sa]) := hD
      refine z_iinc (k := 1) (lv' := [(2, .int (iI 2)), (3, .int (iI 20)), (0, .ref o), (1, .int (iI 1))]) hx hb dX12_load_84 hl rfl (by decide) rfl (fun ls hl => ?_)
      refine lv_goto (tgt := 2) hx hb dX12_load_87 (by decide) ?_
      refine lv_iload_n hx hb dX12_load_2 rfl (lv_at hl 0 rfl) ?_
      refine lv_iconst (v := iI 3) hx hb dX12_load_3 (by decide) ?_
      refine z_icmp_ge (tgt := 90) hx hb (by omega) dX12_load_4 (by decide) (fun c_3 => ?_) (fun c_3 => ?_)
      · skip
        exact absurd c_3 (by omega)
      · skip
        refine lv_bipush (v := iI 15) hx hb dX12_load_7 (by decide) ?_
        refine lv_iload_n hx hb dX12_load_9 rfl (lv_at hl 3 rfl) ?_
        refine z_imul hx hb dX12_load_10 ?_
        refine W.eq (g2 := F0 m 11 ls [.int (iI 15)]) rfl ?_
        refine lv_iconst (v := iI 5) hx hb dX12_load_11 (by decide) ?_
        refine lv_iload_n hx hb dX12_load_12 rfl (lv_at hl 0 rfl) ?_
        refine z_imul hx hb dX12_load_13 ?_
        refine W.eq (g2 := F0 m 14 ls [.int (iI 10), .int (iI 15)]) rfl ?_
        refine z_iadd hx hb dX12_load_14 ?_
        refine W.eq (g2 := F0 m 15 ls [.int (iI 25)]) rfl ?_
        refine lv_istore_n (lv' := [(3, .int (iI 25)), (2, .int (iI 2)), (0, .ref o), (1, .int (iI 1))]) hx hb dX12_load_15 rfl hl (by decide) rfl (fun ls hl => ?_)
        refine lv_aload_n hx hb dX12_load_16 rfl (lv_at hl 2 rfl) ?_
        refine va_get (ci := 12) (v := .ref (ma 4)) (C := RX12) (T := TX12) (N := 38) hx hb hts inX12 hown hK.1 hP 0 rfl rfl 4 (by decide) (hts (.fieldLink RX12 13 "SkimmedSonsModel" "fatOf" "[I") (by decide +kernel)) (fun _ h9 => h9) rfl dX12_load_17 ?_
        refine lv_iload_n hx hb dX12_load_20 rfl (lv_at hl 1 rfl) ?_
        refine lv_aload_n hx hb dX12_load_21 rfl (lv_at hl 2 rfl) ?_
        refine va_get (ci := 12) (v := .ref (ma 22)) (C := RX12) (T := TX12) (N := 38) hx hb hts inX12 hown hK.1 hP 0 rfl rfl 22 (by decide) (hts (.fieldLink RX12 47 "SkimmedSonsModel" "saved" "[I") (by decide +kernel)) (fun _ h9 => h9) rfl dX12_load_22 ?_
        refine lv_iload_n hx hb dX12_load_25 rfl (lv_at hl 0 rfl) ?_
        refine z_iald hx hb hK.1 hP 7 rfl (by omega) dX12_load_26 ?_
        refine W.eq (g2 := F0 m 27 ls [.int (iI (sa 25)), .int (iI 2), .ref (ma 4)]) rfl ?_
        refine z_iast hx hb hK.1 hP hD hS 3 rfl (by omega) dX12_load_27 (fun H locs hP hD hS => ?_)
        have hP : va_P X.1 vwCl (zb [WMo o ma mi ml, WMx X ma (fun j => pv j 0) (updZ (updZ (fun j => pv j 1) 0 (sa 19)) 1 (sa 24)) (updZ (updZ (updZ (fun j => pv j 2) 0 (sa 15)) 1 (sa 20)) 2 (sa 25)) (updZ (updZ (fun j => pv j 3) 0 (sa 16)) 1 (sa 21)) (updZ (updZ (fun j => pv j 4) 0 (sa 17)) 1 (sa 22)) (updZ (updZ (fun j => pv j 5) 0 (sa 18)) 1 (sa 23)), Wa X 2 (ma 22) 105 sa]) H := hP
        have hD : va_D A (zb [WMo o ma mi ml, WMx X ma (fun j => pv j 0) (updZ (updZ (fun j => pv j 1) 0 (sa 19)) 1 (sa 24)) (updZ (updZ (updZ (fun j => pv j 2) 0 (sa 15)) 1 (sa 20)) 2 (sa 25)) (updZ (updZ (fun j => pv j 3) 0 (sa 16)) 1 (sa 21)) (updZ (updZ (fun j => pv j 4) 0 (sa 17)) 1 (sa 22)) (updZ (updZ (fun j => pv j 5) 0 (sa 18)) 1 (sa 23)), Wa X 2 (ma 22) 105 sa]) := hD
        refine lv_aload_n hx hb dX12_load_28 rfl (lv_at hl 2 rfl) ?_
        refine va_get (ci := 12) (v := .ref (ma 5)) (C := RX12) (T := TX12) (N := 38) hx hb hts inX12 hown hK.1 hP 0 rfl rfl 5 (by decide) (hts (.fieldLink RX12 16 "SkimmedSonsModel" "creamOf" "[I") (by decide +kernel)) (fun _ h9 => h9) rfl dX12_load_29 ?_
        refine lv_iload_n hx hb dX12_load_32 rfl (lv_at hl 1 rfl) ?_
        refine lv_aload_n hx hb dX12_load_33 rfl (lv_at hl 2 rfl) ?_
        refine va_get (ci := 12) (v := .ref (ma 22)) (C := RX12) (T := TX12) (N := 38) hx hb hts inX12 hown hK.1 hP 0 rfl rfl 22 (by decide) (hts (.fieldLink RX12 47 "SkimmedSonsModel" "saved" "[I") (by decide +kernel)) (fun _ h9 => h9) rfl dX12_load_34 ?_
        refine lv_iload_n hx hb dX12_load_37 rfl (lv_at hl 0 rfl) ?_
        refine lv_iconst (v := iI 1) hx hb dX12_load_38 (by decide) ?_
        refine z_iadd hx hb dX12_load_39 ?_
        refine W.eq (g2 := F0 m 40 ls [.int (iI 26), .ref (ma 22), .int (iI 2), .ref (ma 5)]) rfl ?_
        refine z_iald hx hb hK.1 hP 7 rfl (by omega) dX12_load_40 ?_
        refine W.eq (g2 := F0 m 41 ls [.int (iI (sa 26)), .int (iI 2), .ref (ma 5)]) rfl ?_
        refine z_iast hx hb hK.1 hP hD hS 4 rfl (by omega) dX12_load_41 (fun H locs hP hD hS => ?_)
        have hP : va_P X.1 vwCl (zb [WMo o ma mi ml, WMx X ma (fun j => pv j 0) (updZ (updZ (fun j => pv j 1) 0 (sa 19)) 1 (sa 24)) (updZ (updZ (updZ (fun j => pv j 2) 0 (sa 15)) 1 (sa 20)) 2 (sa 25)) (updZ (updZ (updZ (fun j => pv j 3) 0 (sa 16)) 1 (sa 21)) 2 (sa 26)) (updZ (updZ (fun j => pv j 4) 0 (sa 17)) 1 (sa 22)) (updZ (updZ (fun j => pv j 5) 0 (sa 18)) 1 (sa 23)), Wa X 2 (ma 22) 105 sa]) H := hP
        have hD : va_D A (zb [WMo o ma mi ml, WMx X ma (fun j => pv j 0) (updZ (updZ (fun j => pv j 1) 0 (sa 19)) 1 (sa 24)) (updZ (updZ (updZ (fun j => pv j 2) 0 (sa 15)) 1 (sa 20)) 2 (sa 25)) (updZ (updZ (updZ (fun j => pv j 3) 0 (sa 16)) 1 (sa 21)) 2 (sa 26)) (updZ (updZ (fun j => pv j 4) 0 (sa 17)) 1 (sa 22)) (updZ (updZ (fun j => pv j 5) 0 (sa 18)) 1 (sa 23)), Wa X 2 (ma 22) 105 sa]) := hD
        refine lv_aload_n hx hb dX12_load_42 rfl (lv_at hl 2 rfl) ?_
        refine va_get (ci := 12) (v := .ref (ma 6)) (C := RX12) (T := TX12) (N := 38) hx hb hts inX12 hown hK.1 hP 0 rfl rfl 6 (by decide) (hts (.fieldLink RX12 19 "SkimmedSonsModel" "filmOf" "[I") (by decide +kernel)) (fun _ h9 => h9) rfl dX12_load_43 ?_
        refine lv_iload_n hx hb dX12_load_46 rfl (lv_at hl 1 rfl) ?_
        refine lv_aload_n hx hb dX12_load_47 rfl (lv_at hl 2 rfl) ?_
        refine va_get (ci := 12) (v := .ref (ma 22)) (C := RX12) (T := TX12) (N := 38) hx hb hts inX12 hown hK.1 hP 0 rfl rfl 22 (by decide) (hts (.fieldLink RX12 47 "SkimmedSonsModel" "saved" "[I") (by decide +kernel)) (fun _ h9 => h9) rfl dX12_load_48 ?_
        refine lv_iload_n hx hb dX12_load_51 rfl (lv_at hl 0 rfl) ?_
        refine lv_iconst (v := iI 2) hx hb dX12_load_52 (by decide) ?_
        refine z_iadd hx hb dX12_load_53 ?_
        refine W.eq (g2 := F0 m 54 ls [.int (iI 27), .ref (ma 22), .int (iI 2), .ref (ma 6)]) rfl ?_
        refine z_iald hx hb hK.1 hP 7 rfl (by omega) dX12_load_54 ?_
        refine W.eq (g2 := F0 m 55 ls [.int (iI (sa 27)), .int (iI 2), .ref (ma 6)]) rfl ?_
        refine z_iast hx hb hK.1 hP hD hS 5 rfl (by omega) dX12_load_55 (fun H locs hP hD hS => ?_)
        have hP : va_P X.1 vwCl (zb [WMo o ma mi ml, WMx X ma (fun j => pv j 0) (updZ (updZ (fun j => pv j 1) 0 (sa 19)) 1 (sa 24)) (updZ (updZ (updZ (fun j => pv j 2) 0 (sa 15)) 1 (sa 20)) 2 (sa 25)) (updZ (updZ (updZ (fun j => pv j 3) 0 (sa 16)) 1 (sa 21)) 2 (sa 26)) (updZ (updZ (updZ (fun j => pv j 4) 0 (sa 17)) 1 (sa 22)) 2 (sa 27)) (updZ (updZ (fun j => pv j 5) 0 (sa 18)) 1 (sa 23)), Wa X 2 (ma 22) 105 sa]) H := hP
        have hD : va_D A (zb [WMo o ma mi ml, WMx X ma (fun j => pv j 0) (updZ (updZ (fun j => pv j 1) 0 (sa 19)) 1 (sa 24)) (updZ (updZ (updZ (fun j => pv j 2) 0 (sa 15)) 1 (sa 20)) 2 (sa 25)) (updZ (updZ (updZ (fun j => pv j 3) 0 (sa 16)) 1 (sa 21)) 2 (sa 26)) (updZ (updZ (updZ (fun j => pv j 4) 0 (sa 17)) 1 (sa 22)) 2 (sa 27)) (updZ (updZ (fun j => pv j 5) 0 (sa 18)) 1 (sa 23)), Wa X 2 (ma 22) 105 sa]) := hD
        refine lv_aload_n hx hb dX12_load_56 rfl (lv_at hl 2 rfl) ?_
        refine va_get (ci := 12) (v := .ref (ma 7)) (C := RX12) (T := TX12) (N := 38) hx hb hts inX12 hown hK.1 hP 0 rfl rfl 7 (by decide) (hts (.fieldLink RX12 22 "SkimmedSonsModel" "blueOf" "[I") (by decide +kernel)) (fun _ h9 => h9) rfl dX12_load_57 ?_
        refine lv_iload_n hx hb dX12_load_60 rfl (lv_at hl 1 rfl) ?_
        refine lv_aload_n hx hb dX12_load_61 rfl (lv_at hl 2 rfl) ?_
        refine va_get (ci := 12) (v := .ref (ma 22)) (C := RX12) (T := TX12) (N := 38) hx hb hts inX12 hown hK.1 hP 0 rfl rfl 22 (by decide) (hts (.fieldLink RX12 47 "SkimmedSonsModel" "saved" "[I") (by decide +kernel)) (fun _ h9 => h9) rfl dX12_load_62 ?_
        refine lv_iload_n hx hb dX12_load_65 rfl (lv_at hl 0 rfl) ?_
        refine lv_iconst (v := iI 3) hx hb dX12_load_66 (by decide) ?_
        refine z_iadd hx hb dX12_load_67 ?_
        refine W.eq (g2 := F0 m 68 ls [.int (iI 28), .ref (ma 22), .int (iI 2), .ref (ma 7)]) rfl ?_
        refine z_iald hx hb hK.1 hP 7 rfl (by omega) dX12_load_68 ?_
        refine W.eq (g2 := F0 m 69 ls [.int (iI (sa 28)), .int (iI 2), .ref (ma 7)]) rfl ?_
        refine z_iast hx hb hK.1 hP hD hS 6 rfl (by omega) dX12_load_69 (fun H locs hP hD hS => ?_)
        have hP : va_P X.1 vwCl (zb [WMo o ma mi ml, WMx X ma (fun j => pv j 0) (updZ (updZ (fun j => pv j 1) 0 (sa 19)) 1 (sa 24)) (updZ (updZ (updZ (fun j => pv j 2) 0 (sa 15)) 1 (sa 20)) 2 (sa 25)) (updZ (updZ (updZ (fun j => pv j 3) 0 (sa 16)) 1 (sa 21)) 2 (sa 26)) (updZ (updZ (updZ (fun j => pv j 4) 0 (sa 17)) 1 (sa 22)) 2 (sa 27)) (updZ (updZ (updZ (fun j => pv j 5) 0 (sa 18)) 1 (sa 23)) 2 (sa 28)), Wa X 2 (ma 22) 105 sa]) H := hP
        have hD : va_D A (zb [WMo o ma mi ml, WMx X ma (fun j => pv j 0) (updZ (updZ (fun j => pv j 1) 0 (sa 19)) 1 (sa 24)) (updZ (updZ (updZ (fun j => pv j 2) 0 (sa 15)) 1 (sa 20)) 2 (sa 25)) (updZ (updZ (updZ (fun j => pv j 3) 0 (sa 16)) 1 (sa 21)) 2 (sa 26)) (updZ (updZ (updZ (fun j => pv j 4) 0 (sa 17)) 1 (sa 22)) 2 (sa 27)) (updZ (updZ (updZ (fun j => pv j 5) 0 (sa 18)) 1 (sa 23)) 2 (sa 28)), Wa X 2 (ma 22) 105 sa]) := hD
        refine lv_aload_n hx hb dX12_load_70 rfl (lv_at hl 2 rfl) ?_
        refine va_get (ci := 12) (v := .ref (ma 8)) (C := RX12) (T := TX12) (N := 38) hx hb hts inX12 hown hK.1 hP 0 rfl rfl 8 (by decide) (hts (.fieldLink RX12 25 "SkimmedSonsModel" "stillOf" "[I") (by decide +kernel)) (fun _ h9 => h9) rfl dX12_load_71 ?_
        refine lv_iload_n hx hb dX12_load_74 rfl (lv_at hl 1 rfl) ?_
        refine lv_aload_n hx hb dX12_load_75 rfl (lv_at hl 2 rfl) ?_
        refine va_get (ci := 12) (v := .ref (ma 22)) (C := RX12) (T := TX12) (N := 38) hx hb hts inX12 hown hK.1 hP 0 rfl rfl 22 (by decide) (hts (.fieldLink RX12 47 "SkimmedSonsModel" "saved" "[I") (by decide +kernel)) (fun _ h9 => h9) rfl dX12_load_76 ?_
        refine lv_iload_n hx hb dX12_load_79 rfl (lv_at hl 0 rfl) ?_
        refine lv_iconst (v := iI 4) hx hb dX12_load_80 (by decide) ?_
        refine z_iadd hx hb dX12_load_81 ?_
        refine W.eq (g2 := F0 m 82 ls [.int (iI 29), .ref (ma 22), .int (iI 2), .ref (ma 8)]) rfl ?_
        refine z_iald hx hb hK.1 hP 7 rfl (by omega) dX12_load_82 ?_
        refine W.eq (g2 := F0 m 83 ls [.int (iI (sa 29)), .int (iI 2), .ref (ma 8)]) rfl ?_
        refine z_iast hx hb hK.1 hP hD hS 2 rfl (by omega) dX12_load_83 (fun H locs hP hD hS => ?_)
        have hP : va_P X.1 vwCl (zb [WMo o ma mi ml, WMx X ma (fun j => pv j 0) (updZ (updZ (updZ (fun j => pv j 1) 0 (sa 19)) 1 (sa 24)) 2 (sa 29)) (updZ (updZ (updZ (fun j => pv j 2) 0 (sa 15)) 1 (sa 20)) 2 (sa 25)) (updZ (updZ (updZ (fun j => pv j 3) 0 (sa 16)) 1 (sa 21)) 2 (sa 26)) (updZ (updZ (updZ (fun j => pv j 4) 0 (sa 17)) 1 (sa 22)) 2 (sa 27)) (updZ (updZ (updZ (fun j => pv j 5) 0 (sa 18)) 1 (sa 23)) 2 (sa 28)), Wa X 2 (ma 22) 105 sa]) H := hP
        have hD : va_D A (zb [WMo o ma mi ml, WMx X ma (fun j => pv j 0) (updZ (updZ (updZ (fun j => pv j 1) 0 (sa 19)) 1 (sa 24)) 2 (sa 29)) (updZ (updZ (updZ (fun j => pv j 2) 0 (sa 15)) 1 (sa 20)) 2 (sa 25)) (updZ (updZ (updZ (fun j => pv j 3) 0 (sa 16)) 1 (sa 21)) 2 (sa 26)) (updZ (updZ (updZ (fun j => pv j 4) 0 (sa 17)) 1 (sa 22)) 2 (sa 27)) (updZ (updZ (updZ (fun j => pv j 5) 0 (sa 18)) 1 (sa 23)) 2 (sa 28)), Wa X 2 (ma 22) 105 sa]) := hD
        refine z_iinc (k := 1) (lv' := [(2, .int (iI 3)), (3, .int (iI 25)), (0, .ref o), (1, .int (iI 1))]) hx hb dX12_load_84 hl rfl (by decide) rfl (fun ls hl => ?_)
        refine lv_goto (tgt := 2) hx hb dX12_load_87 (by decide) ?_
        refine lv_iload_n hx hb dX12_load_2 rfl (lv_at hl 0 rfl) ?_
        refine lv_iconst (v := iI 3) hx hb dX12_load_3 (by decide) ?_
        refine z_icmp_ge (tgt := 90) hx hb (by omega) dX12_load_4 (by decide) (fun c_4 => ?_) (fun c_4 => ?_)
        · skip
          have hP := zp_cong (pre := [WMo o ma mi ml]) (post := [Wa X 2 (ma 22) 105 sa]) (fun h => wm_cells (pv := pv0) (fun j hj => by have h9 := hld j hj; rcases (show j = 0 ∨ j = 1 ∨ j = 2 by omega) with q | q | q <;> subst q <;> exact ⟨h9.1.symm, h9.2.2.2.2.2.symm, h9.2.1.symm, h9.2.2.1.symm, h9.2.2.2.1.symm, h9.2.2.2.2.1.symm⟩) h) hP
          have hD := zd_cong (pre := [WMo o ma mi ml]) (post := [Wa X 2 (ma 22) 105 sa]) (w := WMx X ma (fun j => pv j 0) (updZ (updZ (updZ (fun j => pv j 1) 0 (sa 19)) 1 (sa 24)) 2 (sa 29)) (updZ (updZ (updZ (fun j => pv j 2) 0 (sa 15)) 1 (sa 20)) 2 (sa 25)) (updZ (updZ (updZ (fun j => pv j 3) 0 (sa 16)) 1 (sa 21)) 2 (sa 26)) (updZ (updZ (updZ (fun j => pv j 4) 0 (sa 17)) 1 (sa 22)) 2 (sa 27)) (updZ (updZ (updZ (fun j => pv j 5) 0 (sa 18)) 1 (sa 23)) 2 (sa 28))) (w' := WMp X ma pv0) rfl hD
          have hP : va_P X.1 vwCl (zb [WMo o ma mi ml, WMp X ma pv0, Wa X 2 (ma 22) 105 sa]) H := hP
          have hD : va_D A (zb [WMo o ma mi ml, WMp X ma pv0, Wa X 2 (ma 22) 105 sa]) := hD
          exact z_vret hQ hx hb hr hlocks hS ⟨(Nat.le_of_ble_eq_true rfl), (Nat.le_of_ble_eq_true rfl)⟩ dX12_load_90 () rfl trivial hP hD
        · skip
          exact absurd c_4 (by omega)
set_option maxHeartbeats 1000000 in
set_option maxRecDepth 100000 in
theorem c_X12_laterNow (l : Launch) (X : zX) (o : Nat) (ma : Nat → Nat) (mi : Nat → Int) (ml : Nat → Int) (pv : Nat → Nat → Int) (s1 : Nat → Int) (s2 : Nat → Int) (s3 : Nat → Int) (sa : Nat → Int) (z : Int) (x : Int) (y : Int) (hn : 0 ≤ mi 1 ∧ mi 1 ≤ 3) (hpv : PanS pv) (hpg : ∀ j, j < (mi 1).toNat → PanG 2000 (pv j)) (hzm : 0 ≤ z ∧ z < mi 1) (hsg : SigB (mi 13) s1 s2 s3) (hx4 : 0 ≤ x ∧ x ≤ 40) (hy3 : 0 ≤ y ∧ y ≤ 3) : zF l X yX12_laterNow wsX12_laterNow 4 99 [.ref o, .int (iI z), .int (iI x), .int (iI y)] (zb [WMo o ma mi ml, WMp X ma pv, Wa X 2 (ma 14) 6 s1, Wa X 2 (ma 15) 6 s2, Wa X 2 (ma 16) 6 s3, Wa X 2 (ma 22) 105 sa]) (some (.int (iI (laterR (mi 1) z x y pv)))) (zb [WMo o ma mi ml, WMp X ma pv, Wa X 2 (ma 14) 6 s1, Wa X 2 (ma 15) 6 s2, Wa X 2 (ma 16) 6 s3, Wa X 2 (ma 22) 105 (savF 15 pv sa)]) := by
  refine z_enter (cc := cX12_laterNow) (maxL := 5) (ret := (some .int)) (by decide) rfl (Nat.le_of_ble_eq_true rfl) ?_
  intro p e s m below meth c A ls Q hQ hE hl hP hD
  obtain ⟨hx, hb, hr, hml, hown, hts, hlocks, hnm, hA, hK⟩ := hE
  have hown : s.vm.findClass RX12 = some m.cls := hown
  have hS : va_S A s.heap s.heap [] := va_S.rf
  have hl : lv_has ls 5 [(0, .ref o), (1, .int (iI z)), (2, .int (iI x)), (3, .int (iI y))] := hl
  refine lv_aload_n hx hb dX12_laterNow_0 rfl (lv_at hl 0 rfl) ?_
  refine lv_iconst (v := iI 1) hx hb dX12_laterNow_1 (by decide) ?_
  have hPm := zp_perm hP (zblk (show List.Perm ([WMo o ma mi ml, WMp X ma pv, Wa X 2 (ma 14) 6 s1, Wa X 2 (ma 15) 6 s2, Wa X 2 (ma 16) 6 s3, Wa X 2 (ma 22) 105 sa] : List va_W) ([WMo o ma mi ml, WMp X ma pv, Wa X 2 (ma 22) 105 sa] ++ [Wa X 2 (ma 14) 6 s1, Wa X 2 (ma 15) 6 s2, Wa X 2 (ma 16) 6 s3]) from (zf1 _ 0 _ rfl).trans (((zf1 _ 0 _ rfl).trans (((zf1 _ 3 _ rfl).trans ((List.Perm.refl _).cons _)).cons _)).cons _)))
  have hDm := zd_perm hD (zblk (show List.Perm ([WMo o ma mi ml, WMp X ma pv, Wa X 2 (ma 14) 6 s1, Wa X 2 (ma 15) 6 s2, Wa X 2 (ma 16) 6 s3, Wa X 2 (ma 22) 105 sa] : List va_W) ([WMo o ma mi ml, WMp X ma pv, Wa X 2 (ma 22) 105 sa] ++ [Wa X 2 (ma 14) 6 s1, Wa X 2 (ma 15) 6 s2, Wa X 2 (ma 16) 6 s3]) from (zf1 _ 0 _ rfl).trans (((zf1 _ 0 _ rfl).trans (((zf1 _ 3 _ rfl).trans ((List.Perm.refl _).cons _)).cons _)).cons _)))
  refine z_callV (wr := zb [Wa X 2 (ma 14) 6 s1, Wa X 2 (ma 15) 6 s2, Wa X 2 (ma 16) 6 s3]) (As := [.int (iI 1)]) (rest := []) ⟨hx, hb, hml, hown, hts⟩ (c_X12_save_1 l X o ma mi ml pv sa ) (cwV 1 hts gX12_laterNow_X12_save rfl rfl rfl (by decide +kernel) ⟨Nat.le_of_ble_eq_true rfl, Nat.le_of_ble_eq_true rfl⟩) rfl rfl hl.1 dX12_laterNow_2 rfl rfl (Nat.le_of_ble_eq_true rfl) ⟨(Nat.le_of_ble_eq_true rfl), (Nat.le_of_ble_eq_true rfl)⟩ hS hA hK hPm hDm (fun _ H locs _ hP hD hS => ?_)
  have hP := zp_perm hP ((zblk (show List.Perm ([WMo o ma mi ml, WMp X ma pv, Wa X 2 (ma 14) 6 s1, Wa X 2 (ma 15) 6 s2, Wa X 2 (ma 16) 6 s3, Wa X 2 (ma 22) 105 (savF 15 pv sa)] : List va_W) ([WMo o ma mi ml, WMp X ma pv, Wa X 2 (ma 22) 105 (savF 15 pv sa)] ++ [Wa X 2 (ma 14) 6 s1, Wa X 2 (ma 15) 6 s2, Wa X 2 (ma 16) 6 s3]) from (zf1 _ 0 _ rfl).trans (((zf1 _ 0 _ rfl).trans (((zf1 _ 3 _ rfl).trans ((List.Perm.refl _).cons _)).cons _)).cons _)))).symm
  have hD := zd_perm hD ((zblk (show List.Perm ([WMo o ma mi ml, WMp X ma pv, Wa X 2 (ma 14) 6 s1, Wa X 2 (ma 15) 6 s2, Wa X 2 (ma 16) 6 s3, Wa X 2 (ma 22) 105 (savF 15 pv sa)] : List va_W) ([WMo o ma mi ml, WMp X ma pv, Wa X 2 (ma 22) 105 (savF 15 pv sa)] ++ [Wa X 2 (ma 14) 6 s1, Wa X 2 (ma 15) 6 s2, Wa X 2 (ma 16) 6 s3]) from (zf1 _ 0 _ rfl).trans (((zf1 _ 0 _ rfl).trans (((zf1 _ 3 _ rfl).trans ((List.Perm.refl _).cons _)).cons _)).cons _)))).symm
  have hP : va_P X.1 vwCl (zb [WMo o ma mi ml, WMp X ma pv, Wa X 2 (ma 14) 6 s1, Wa X 2 (ma 15) 6 s2, Wa X 2 (ma 16) 6 s3, Wa X 2 (ma 22) 105 (savF 15 pv sa)]) H := hP
  have hD : va_D A (zb [WMo o ma mi ml, WMp X ma pv, Wa X 2 (ma 14) 6 s1, Wa X 2 (ma 15) 6 s2, Wa X 2 (ma 16) 6 s3, Wa X 2 (ma 22) 105 (savF 15 pv sa)]) := hD
  refine W.eq (g2 := F0 m 5 ls []) rfl ?_
  refine lv_iconst (v := iI 0) hx hb dX12_laterNow_5 (by decide) ?_
  refine lv_istore (lv' := [(4, .int (iI 0)), (0, .ref o), (1, .int (iI z)), (2, .int (iI x)), (3, .int (iI y))]) hx hb dX12_laterNow_6 hl (by decide) rfl (fun ls hl => ?_)
  have L8 : ∀ (fu : Nat) (i : Nat), ((i : Int) ≤ x) → (x - ↑i).toNat < fu → ∀ (H : Heap) (locs : List Loc) (ls : Array Slot), va_P X.1 vwCl (zb [WMo o ma mi ml, WMp X ma (va_up pv z.toNat (hoursP (pv z.toNat) i)), Wa X 2 (ma 14) 6 s1, Wa X 2 (ma 15) 6 s2, Wa X 2 (ma 16) 6 s3, Wa X 2 (ma 22) 105 (savF 15 pv sa)]) H → va_D A (zb [WMo o ma mi ml, WMp X ma (va_up pv z.toNat (hoursP (pv z.toNat) i)), Wa X 2 (ma 14) 6 s1, Wa X 2 (ma 15) 6 s2, Wa X 2 (ma 16) 6 s3, Wa X 2 (ma 22) 105 (savF 15 pv sa)]) → va_S A s.heap H locs → lv_has ls 5 [(0, .ref o), (1, .int (iI z)), (2, .int (iI x)), (3, .int (iI y)), (4, .int (iI (↑i)))] → W p l e { frames := 4, cells := 0, slots := 0, locals := 99 } s m ([.ref o, .int (iI z), .int (iI x), .int (iI y)] : List Value).toArray below meth c H locs 0 0 Q (F0 m 8 ls []) := by
    intro fu
    induction fu with
    | zero => intro i hi hm; exact absurd hm (Nat.not_lt_zero _)
    | succ fu ih8 =>
      intro i hi hm H locs ls hP hD hS hl
      have hup := va_up_s pv z.toNat (hoursP (pv z.toNat) i)
      have hpz := (hoursP_in (hpg z.toNat (by omega)) i (by omega)).1
      refine lv_iload hx hb dX12_laterNow_8 (lv_at hl 4 rfl) ?_
      refine lv_iload_n hx hb dX12_laterNow_10 rfl (lv_at hl 2 rfl) ?_
      refine z_icmp_ge (tgt := 25) hx hb (by omega) dX12_laterNow_11 (by decide) (fun c_1 => ?_) (fun c_1 => ?_)
      · skip
        refine lv_aload_n hx hb dX12_laterNow_25 rfl (lv_at hl 0 rfl) ?_
        refine lv_iload_n hx hb dX12_laterNow_26 rfl (lv_at hl 1 rfl) ?_
        refine lv_iload_n hx hb dX12_laterNow_27 rfl (lv_at hl 3 rfl) ?_
        have hPm := zp_perm hP (zblk (show List.Perm ([WMo o ma mi ml, WMp X ma (va_up pv z.toNat (hoursP (pv z.toNat) i)), Wa X 2 (ma 14) 6 s1, Wa X 2 (ma 15) 6 s2, Wa X 2 (ma 16) 6 s3, Wa X 2 (ma 22) 105 (savF 15 pv sa)] : List va_W) ([WMo o ma mi ml, WMp X ma (va_up pv z.toNat (hoursP (pv z.toNat) i)), Wa X 2 (ma 14) 6 s1, Wa X 2 (ma 15) 6 s2, Wa X 2 (ma 16) 6 s3] ++ [Wa X 2 (ma 22) 105 (savF 15 pv sa)]) from (zf1 _ 0 _ rfl).trans (((zf1 _ 0 _ rfl).trans (((zf1 _ 0 _ rfl).trans (((zf1 _ 0 _ rfl).trans (((zf1 _ 0 _ rfl).trans ((List.Perm.refl _).cons _)).cons _)).cons _)).cons _)).cons _)))
        have hDm := zd_perm hD (zblk (show List.Perm ([WMo o ma mi ml, WMp X ma (va_up pv z.toNat (hoursP (pv z.toNat) i)), Wa X 2 (ma 14) 6 s1, Wa X 2 (ma 15) 6 s2, Wa X 2 (ma 16) 6 s3, Wa X 2 (ma 22) 105 (savF 15 pv sa)] : List va_W) ([WMo o ma mi ml, WMp X ma (va_up pv z.toNat (hoursP (pv z.toNat) i)), Wa X 2 (ma 14) 6 s1, Wa X 2 (ma 15) 6 s2, Wa X 2 (ma 16) 6 s3] ++ [Wa X 2 (ma 22) 105 (savF 15 pv sa)]) from (zf1 _ 0 _ rfl).trans (((zf1 _ 0 _ rfl).trans (((zf1 _ 0 _ rfl).trans (((zf1 _ 0 _ rfl).trans (((zf1 _ 0 _ rfl).trans ((List.Perm.refl _).cons _)).cons _)).cons _)).cons _)).cons _)))
        refine z_callV (wr := zb [Wa X 2 (ma 22) 105 (savF 15 pv sa)]) (As := [.int (iI z), .int (iI y)]) (rest := []) ⟨hx, hb, hml, hown, hts⟩ (c_X12_panNow l X o ma mi ml (va_up pv z.toNat (hoursP (pv z.toNat) i)) s1 s2 s3 z y (by omega) (by rw [hup]; exact hpz) (by omega) (by exact hsg) (by omega)) (cwV 2 hts gX12_laterNow_X12_panNow rfl rfl rfl (by decide +kernel) ⟨Nat.le_of_ble_eq_true rfl, Nat.le_of_ble_eq_true rfl⟩) rfl rfl hl.1 dX12_laterNow_28 rfl rfl (Nat.le_of_ble_eq_true rfl) ⟨(Nat.le_of_ble_eq_true rfl), (Nat.le_of_ble_eq_true rfl)⟩ hS hA hK hPm hDm (fun _ H locs _ hP hD hS => ?_)
        have hP := zp_perm hP ((zblk (show List.Perm ([WMo o ma mi ml, WMp X ma (va_up pv z.toNat (hoursP (pv z.toNat) i)), Wa X 2 (ma 14) 6 s1, Wa X 2 (ma 15) 6 s2, Wa X 2 (ma 16) 6 s3, Wa X 2 (ma 22) 105 (savF 15 pv sa)] : List va_W) ([WMo o ma mi ml, WMp X ma (va_up pv z.toNat (hoursP (pv z.toNat) i)), Wa X 2 (ma 14) 6 s1, Wa X 2 (ma 15) 6 s2, Wa X 2 (ma 16) 6 s3] ++ [Wa X 2 (ma 22) 105 (savF 15 pv sa)]) from (zf1 _ 0 _ rfl).trans (((zf1 _ 0 _ rfl).trans (((zf1 _ 0 _ rfl).trans (((zf1 _ 0 _ rfl).trans (((zf1 _ 0 _ rfl).trans ((List.Perm.refl _).cons _)).cons _)).cons _)).cons _)).cons _)))).symm
        have hD := zd_perm hD ((zblk (show List.Perm ([WMo o ma mi ml, WMp X ma (va_up pv z.toNat (hoursP (pv z.toNat) i)), Wa X 2 (ma 14) 6 s1, Wa X 2 (ma 15) 6 s2, Wa X 2 (ma 16) 6 s3, Wa X 2 (ma 22) 105 (savF 15 pv sa)] : List va_W) ([WMo o ma mi ml, WMp X ma (va_up pv z.toNat (hoursP (pv z.toNat) i)), Wa X 2 (ma 14) 6 s1, Wa X 2 (ma 15) 6 s2, Wa X 2 (ma 16) 6 s3] ++ [Wa X 2 (ma 22) 105 (savF 15 pv sa)]) from (zf1 _ 0 _ rfl).trans (((zf1 _ 0 _ rfl).trans (((zf1 _ 0 _ rfl).trans (((zf1 _ 0 _ rfl).trans (((zf1 _ 0 _ rfl).trans ((List.Perm.refl _).cons _)).cons _)).cons _)).cons _)).cons _)))).symm
        have hP : va_P X.1 vwCl (zb [WMo o ma mi ml, WMp X ma (va_up pv z.toNat (hoursP (pv z.toNat) i)), Wa X 2 (ma 14) 6 s1, Wa X 2 (ma 15) 6 s2, Wa X 2 (ma 16) 6 s3, Wa X 2 (ma 22) 105 (savF 15 pv sa)]) H := hP
        have hD : va_D A (zb [WMo o ma mi ml, WMp X ma (va_up pv z.toNat (hoursP (pv z.toNat) i)), Wa X 2 (ma 14) 6 s1, Wa X 2 (ma 15) 6 s2, Wa X 2 (ma 16) 6 s3, Wa X 2 (ma 22) 105 (savF 15 pv sa)]) := hD
        refine W.eq (g2 := F0 m 31 ls [.int (iI (panR (mi 1) z y (mi 13) (va_up pv z.toNat (hoursP (pv z.toNat) i)) s1 s2 s3))]) rfl ?_
        refine z_topi (fun z_2 ez_2 => ?_)
        refine lv_istore (lv' := [(4, .int (iI z_2)), (0, .ref o), (1, .int (iI z)), (2, .int (iI x)), (3, .int (iI y))]) hx hb dX12_laterNow_31 hl (by decide) rfl (fun ls hl => ?_)
        subst ez_2
        refine lv_aload_n hx hb dX12_laterNow_33 rfl (lv_at hl 1 rfl) ?_
        refine lv_iconst (v := iI 1) hx hb dX12_laterNow_34 (by decide) ?_
        have hPm := zp_perm hP (zblk (show List.Perm ([WMo o ma mi ml, WMp X ma (va_up pv z.toNat (hoursP (pv z.toNat) i)), Wa X 2 (ma 14) 6 s1, Wa X 2 (ma 15) 6 s2, Wa X 2 (ma 16) 6 s3, Wa X 2 (ma 22) 105 (savF 15 pv sa)] : List va_W) ([WMo o ma mi ml, WMp X ma (va_up pv z.toNat (hoursP (pv z.toNat) i)), Wa X 2 (ma 22) 105 (savF 15 pv sa)] ++ [Wa X 2 (ma 14) 6 s1, Wa X 2 (ma 15) 6 s2, Wa X 2 (ma 16) 6 s3]) from (zf1 _ 0 _ rfl).trans (((zf1 _ 0 _ rfl).trans (((zf1 _ 3 _ rfl).trans ((List.Perm.refl _).cons _)).cons _)).cons _)))
        have hDm := zd_perm hD (zblk (show List.Perm ([WMo o ma mi ml, WMp X ma (va_up pv z.toNat (hoursP (pv z.toNat) i)), Wa X 2 (ma 14) 6 s1, Wa X 2 (ma 15) 6 s2, Wa X 2 (ma 16) 6 s3, Wa X 2 (ma 22) 105 (savF 15 pv sa)] : List va_W) ([WMo o ma mi ml, WMp X ma (va_up pv z.toNat (hoursP (pv z.toNat) i)), Wa X 2 (ma 22) 105 (savF 15 pv sa)] ++ [Wa X 2 (ma 14) 6 s1, Wa X 2 (ma 15) 6 s2, Wa X 2 (ma 16) 6 s3]) from (zf1 _ 0 _ rfl).trans (((zf1 _ 0 _ rfl).trans (((zf1 _ 3 _ rfl).trans ((List.Perm.refl _).cons _)).cons _)).cons _)))
        refine z_callV (wr := zb [Wa X 2 (ma 14) 6 s1, Wa X 2 (ma 15) 6 s2, Wa X 2 (ma 16) 6 s3]) (As := [.int (iI 1)]) (rest := []) ⟨hx, hb, hml, hown, hts⟩ (c_X12_load_1 l X o ma mi ml (va_up pv z.toNat (hoursP (pv z.toNat) i)) (savF 15 pv sa) pv (by refine LdOk_sav (fun p hp => ?_); unfold va_up; split; (rename_i q; rw [hoursP_0, q]); rfl)) (cwV 1 hts gX12_laterNow_X12_load rfl rfl rfl (by decide +kernel) ⟨Nat.le_of_ble_eq_true rfl, Nat.le_of_ble_eq_true rfl⟩) rfl rfl hl.1 dX12_laterNow_35 rfl rfl (Nat.le_of_ble_eq_true rfl) ⟨(Nat.le_of_ble_eq_true rfl), (Nat.le_of_ble_eq_true rfl)⟩ hS hA hK hPm hDm (fun _ H locs _ hP hD hS => ?_)
        have hP := zp_perm hP ((zblk (show List.Perm ([WMo o ma mi ml, WMp X ma pv, Wa X 2 (ma 14) 6 s1, Wa X 2 (ma 15) 6 s2, Wa X 2 (ma 16) 6 s3, Wa X 2 (ma 22) 105 (savF 15 pv sa)] : List va_W) ([WMo o ma mi ml, WMp X ma pv, Wa X 2 (ma 22) 105 (savF 15 pv sa)] ++ [Wa X 2 (ma 14) 6 s1, Wa X 2 (ma 15) 6 s2, Wa X 2 (ma 16) 6 s3]) from (zf1 _ 0 _ rfl).trans (((zf1 _ 0 _ rfl).trans (((zf1 _ 3 _ rfl).trans ((List.Perm.refl _).cons _)).cons _)).cons _)))).symm
        have hD := zd_perm hD ((zblk (show List.Perm ([WMo o ma mi ml, WMp X ma pv, Wa X 2 (ma 14) 6 s1, Wa X 2 (ma 15) 6 s2, Wa X 2 (ma 16) 6 s3, Wa X 2 (ma 22) 105 (savF 15 pv sa)] : List va_W) ([WMo o ma mi ml, WMp X ma pv, Wa X 2 (ma 22) 105 (savF 15 pv sa)] ++ [Wa X 2 (ma 14) 6 s1, Wa X 2 (ma 15) 6 s2, Wa X 2 (ma 16) 6 s3]) from (zf1 _ 0 _ rfl).trans (((zf1 _ 0 _ rfl).trans (((zf1 _ 3 _ rfl).trans ((List.Perm.refl _).cons _)).cons _)).cons _)))).symm
        have hP : va_P X.1 vwCl (zb [WMo o ma mi ml, WMp X ma pv, Wa X 2 (ma 14) 6 s1, Wa X 2 (ma 15) 6 s2, Wa X 2 (ma 16) 6 s3, Wa X 2 (ma 22) 105 (savF 15 pv sa)]) H := hP
        have hD : va_D A (zb [WMo o ma mi ml, WMp X ma pv, Wa X 2 (ma 14) 6 s1, Wa X 2 (ma 15) 6 s2, Wa X 2 (ma 16) 6 s3, Wa X 2 (ma 22) 105 (savF 15 pv sa)]) := hD
        refine W.eq (g2 := F0 m 38 ls []) rfl ?_
        refine lv_iload hx hb dX12_laterNow_38 (lv_at hl 0 rfl) ?_
        exact z_iret hQ hx hb hr hlocks hS ⟨(Nat.le_of_ble_eq_true rfl), (Nat.le_of_ble_eq_true rfl)⟩ dX12_laterNow_40 () (congrArg (fun z => some (Value.int (iI z))) (show (laterR (mi 1) z x y pv : Int) = panR (mi 1) z y (mi 13) (va_up pv z.toNat (hoursP (pv z.toNat) i)) s1 s2 s3 by unfold panR laterR; rw [if_pos (by omega), if_pos (by omega), if_pos (by omega), if_pos (by omega), va_up_s, show i = x.toNat by omega])) trivial hP hD
      · skip
        refine lv_aload_n hx hb dX12_laterNow_14 rfl (lv_at hl 0 rfl) ?_
        refine lv_iload_n hx hb dX12_laterNow_15 rfl (lv_at hl 1 rfl) ?_
        have hPm := zp_perm hP (zblk (show List.Perm ([WMo o ma mi ml, WMp X ma (va_up pv z.toNat (hoursP (pv z.toNat) i)), Wa X 2 (ma 14) 6 s1, Wa X 2 (ma 15) 6 s2, Wa X 2 (ma 16) 6 s3, Wa X 2 (ma 22) 105 (savF 15 pv sa)] : List va_W) ([WMo o ma mi ml, WMp X ma (va_up pv z.toNat (hoursP (pv z.toNat) i))] ++ [Wa X 2 (ma 14) 6 s1, Wa X 2 (ma 15) 6 s2, Wa X 2 (ma 16) 6 s3, Wa X 2 (ma 22) 105 (savF 15 pv sa)]) from (zf1 _ 0 _ rfl).trans (((zf1 _ 0 _ rfl).trans ((List.Perm.refl _).cons _)).cons _)))
        have hDm := zd_perm hD (zblk (show List.Perm ([WMo o ma mi ml, WMp X ma (va_up pv z.toNat (hoursP (pv z.toNat) i)), Wa X 2 (ma 14) 6 s1, Wa X 2 (ma 15) 6 s2, Wa X 2 (ma 16) 6 s3, Wa X 2 (ma 22) 105 (savF 15 pv sa)] : List va_W) ([WMo o ma mi ml, WMp X ma (va_up pv z.toNat (hoursP (pv z.toNat) i))] ++ [Wa X 2 (ma 14) 6 s1, Wa X 2 (ma 15) 6 s2, Wa X 2 (ma 16) 6 s3, Wa X 2 (ma 22) 105 (savF 15 pv sa)]) from (zf1 _ 0 _ rfl).trans (((zf1 _ 0 _ rfl).trans ((List.Perm.refl _).cons _)).cons _)))
        refine z_callV (wr := zb [Wa X 2 (ma 14) 6 s1, Wa X 2 (ma 15) 6 s2, Wa X 2 (ma 16) 6 s3, Wa X 2 (ma 22) 105 (savF 15 pv sa)]) (As := [.int (iI z)]) (rest := []) ⟨hx, hb, hml, hown, hts⟩ (c_X12_goBy l X o ma mi ml (va_up pv z.toNat (hoursP (pv z.toNat) i)) z (by rw [hup]; exact hpz) (by omega)) (cwV 1 hts gX12_laterNow_X12_goBy rfl rfl rfl (by decide +kernel) ⟨Nat.le_of_ble_eq_true rfl, Nat.le_of_ble_eq_true rfl⟩) rfl rfl hl.1 dX12_laterNow_16 rfl rfl (Nat.le_of_ble_eq_true rfl) ⟨(Nat.le_of_ble_eq_true rfl), (Nat.le_of_ble_eq_true rfl)⟩ hS hA hK hPm hDm (fun _ H locs _ hP hD hS => ?_)
        have hP := zp_perm hP ((zblk (show List.Perm ([WMo o ma mi ml, WMp X ma (va_up (va_up pv z.toNat (hoursP (pv z.toNat) i)) z.toNat (hourP ((va_up pv z.toNat (hoursP (pv z.toNat) i)) z.toNat))), Wa X 2 (ma 14) 6 s1, Wa X 2 (ma 15) 6 s2, Wa X 2 (ma 16) 6 s3, Wa X 2 (ma 22) 105 (savF 15 pv sa)] : List va_W) ([WMo o ma mi ml, WMp X ma (va_up (va_up pv z.toNat (hoursP (pv z.toNat) i)) z.toNat (hourP ((va_up pv z.toNat (hoursP (pv z.toNat) i)) z.toNat)))] ++ [Wa X 2 (ma 14) 6 s1, Wa X 2 (ma 15) 6 s2, Wa X 2 (ma 16) 6 s3, Wa X 2 (ma 22) 105 (savF 15 pv sa)]) from (zf1 _ 0 _ rfl).trans (((zf1 _ 0 _ rfl).trans ((List.Perm.refl _).cons _)).cons _)))).symm
        have hD := zd_perm hD ((zblk (show List.Perm ([WMo o ma mi ml, WMp X ma (va_up (va_up pv z.toNat (hoursP (pv z.toNat) i)) z.toNat (hourP ((va_up pv z.toNat (hoursP (pv z.toNat) i)) z.toNat))), Wa X 2 (ma 14) 6 s1, Wa X 2 (ma 15) 6 s2, Wa X 2 (ma 16) 6 s3, Wa X 2 (ma 22) 105 (savF 15 pv sa)] : List va_W) ([WMo o ma mi ml, WMp X ma (va_up (va_up pv z.toNat (hoursP (pv z.toNat) i)) z.toNat (hourP ((va_up pv z.toNat (hoursP (pv z.toNat) i)) z.toNat)))] ++ [Wa X 2 (ma 14) 6 s1, Wa X 2 (ma 15) 6 s2, Wa X 2 (ma 16) 6 s3, Wa X 2 (ma 22) 105 (savF 15 pv sa)]) from (zf1 _ 0 _ rfl).trans (((zf1 _ 0 _ rfl).trans ((List.Perm.refl _).cons _)).cons _)))).symm
        have hP : va_P X.1 vwCl (zb [WMo o ma mi ml, WMp X ma (va_up (va_up pv z.toNat (hoursP (pv z.toNat) i)) z.toNat (hourP ((va_up pv z.toNat (hoursP (pv z.toNat) i)) z.toNat))), Wa X 2 (ma 14) 6 s1, Wa X 2 (ma 15) 6 s2, Wa X 2 (ma 16) 6 s3, Wa X 2 (ma 22) 105 (savF 15 pv sa)]) H := hP
        have hD : va_D A (zb [WMo o ma mi ml, WMp X ma (va_up (va_up pv z.toNat (hoursP (pv z.toNat) i)) z.toNat (hourP ((va_up pv z.toNat (hoursP (pv z.toNat) i)) z.toNat))), Wa X 2 (ma 14) 6 s1, Wa X 2 (ma 15) 6 s2, Wa X 2 (ma 16) 6 s3, Wa X 2 (ma 22) 105 (savF 15 pv sa)]) := hD
        refine W.eq (g2 := F0 m 19 ls []) rfl ?_
        refine z_iinc (k := 4) (lv' := [(4, .int (iI ((↑i) + 1))), (0, .ref o), (1, .int (iI z)), (2, .int (iI x)), (3, .int (iI y))]) hx hb dX12_laterNow_19 hl rfl (by decide) rfl (fun ls hl => ?_)
        refine lv_goto (tgt := 8) hx hb dX12_laterNow_22 (by decide) ?_
        have hw_3 : zb [WMo o ma mi ml, WMp X ma (va_up (va_up pv z.toNat (hoursP (pv z.toNat) i)) z.toNat (hourP ((va_up pv z.toNat (hoursP (pv z.toNat) i)) z.toNat))), Wa X 2 (ma 14) 6 s1, Wa X 2 (ma 15) 6 s2, Wa X 2 (ma 16) 6 s3, Wa X 2 (ma 22) 105 (savF 15 pv sa)] = zb [WMo o ma mi ml, WMp X ma (va_up pv z.toNat (hoursP (pv z.toNat) (i + 1))), Wa X 2 (ma 14) 6 s1, Wa X 2 (ma 15) 6 s2, Wa X 2 (ma 16) 6 s3, Wa X 2 (ma 22) 105 (savF 15 pv sa)] := by rw [va_up_s, va_up_up]; rfl
        rw [hw_3] at hP hD
        exact ih8  (i + 1) (by omega) (by omega) _ _ _ hP hD hS (lv_sub hl [1, 2, 3, 4, 0] rfl)
  have hw_4 : zb [WMo o ma mi ml, WMp X ma pv, Wa X 2 (ma 14) 6 s1, Wa X 2 (ma 15) 6 s2, Wa X 2 (ma 16) 6 s3, Wa X 2 (ma 22) 105 (savF 15 pv sa)] = zb [WMo o ma mi ml, WMp X ma (va_up pv z.toNat (hoursP (pv z.toNat) 0)), Wa X 2 (ma 14) 6 s1, Wa X 2 (ma 15) 6 s2, Wa X 2 (ma 16) 6 s3, Wa X 2 (ma 22) 105 (savF 15 pv sa)] := by show _ = zb [WMo o ma mi ml, WMp X ma (va_up pv z.toNat (pv z.toNat)), _, _, _, _]; rw [va_upId]
  rw [hw_4] at hP hD
  exact L8 ((x - ↑(0 : Nat)).toNat + 1) 0 (by omega) (by omega) _ _ _ hP hD hS (lv_sub hl [1, 2, 3, 4, 0] rfl)
set_option maxHeartbeats 1000000 in
set_option maxRecDepth 100000 in
theorem c_X12_later (l : Launch) (X : zX) (o : Nat) (ma : Nat → Nat) (mi : Nat → Int) (ml : Nat → Int) (pv : Nat → Nat → Int) (s1 : Nat → Int) (s2 : Nat → Int) (s3 : Nat → Int) (sa : Nat → Int) (z : Int) (x : Int) (y : Int) (hn : 0 ≤ mi 1 ∧ mi 1 ≤ 3) (hpv : PanS pv) (hpg : ∀ j, j < (mi 1).toNat → PanG 2000 (pv j)) (hsg : SigB (mi 13) s1 s2 s3) (hrz : -2147483648 ≤ z ∧ z < 2147483648) (hrx : -2147483648 ≤ x ∧ x < 2147483648) (hry : -2147483648 ≤ y ∧ y < 2147483648) : zM (S := (Nat → Int)) l X yX12_later wsX12_later { frames := 5, cells := 0, slots := 0, locals := 123 } [.ref o, .int (iI z), .int (iI x), .int (iI y)] (zb [WMo o ma mi ml, WMp X ma pv, Wa X 2 (ma 14) 6 s1, Wa X 2 (ma 15) 6 s2, Wa X 2 (ma 16) 6 s3, Wa X 2 (ma 22) 105 sa]) (fun u => (some (.int (iI (laterR (mi 1) z x y pv))))) (fun u => zb [WMo o ma mi ml, WMp X ma pv, Wa X 2 (ma 14) 6 s1, Wa X 2 (ma 15) 6 s2, Wa X 2 (ma 16) 6 s3, Wa X 2 (ma 22) 105 u]) (fun u => ∀ k, k < 15 → u k = sa k) := by
  refine z_enter (cc := cX12_later) (maxL := 4) (ret := (some .int)) (by decide) rfl (Nat.le_of_ble_eq_true rfl) ?_
  intro p e s m below meth c A ls Q hQ hE hl hP hD
  obtain ⟨hx, hb, hr, hml, hown, hts, hlocks, hnm, hA, hK⟩ := hE
  have hown : s.vm.findClass RX12 = some m.cls := hown
  have hS : va_S A s.heap s.heap [] := va_S.rf
  have hl : lv_has ls 4 [(0, .ref o), (1, .int (iI z)), (2, .int (iI x)), (3, .int (iI y))] := hl
  refine lv_aload_n hx hb dX12_later_0 rfl (lv_at hl 0 rfl) ?_
  refine lv_iload_n hx hb dX12_later_1 rfl (lv_at hl 1 rfl) ?_
  have hPm := zp_perm hP (zblk (show List.Perm ([WMo o ma mi ml, WMp X ma pv, Wa X 2 (ma 14) 6 s1, Wa X 2 (ma 15) 6 s2, Wa X 2 (ma 16) 6 s3, Wa X 2 (ma 22) 105 sa] : List va_W) ([WMo o ma mi ml] ++ [WMp X ma pv, Wa X 2 (ma 14) 6 s1, Wa X 2 (ma 15) 6 s2, Wa X 2 (ma 16) 6 s3, Wa X 2 (ma 22) 105 sa]) from (zf1 _ 0 _ rfl).trans ((List.Perm.refl _).cons _)))
  have hDm := zd_perm hD (zblk (show List.Perm ([WMo o ma mi ml, WMp X ma pv, Wa X 2 (ma 14) 6 s1, Wa X 2 (ma 15) 6 s2, Wa X 2 (ma 16) 6 s3, Wa X 2 (ma 22) 105 sa] : List va_W) ([WMo o ma mi ml] ++ [WMp X ma pv, Wa X 2 (ma 14) 6 s1, Wa X 2 (ma 15) 6 s2, Wa X 2 (ma 16) 6 s3, Wa X 2 (ma 22) 105 sa]) from (zf1 _ 0 _ rfl).trans ((List.Perm.refl _).cons _)))
  refine z_callV (wr := zb [WMp X ma pv, Wa X 2 (ma 14) 6 s1, Wa X 2 (ma 15) 6 s2, Wa X 2 (ma 16) 6 s3, Wa X 2 (ma 22) 105 sa]) (As := [.int (iI z)]) (rest := []) ⟨hx, hb, hml, hown, hts⟩ (c_X12_isPan l X o ma mi ml z (by omega) (by omega)) (cwV 1 hts gX12_later_X12_isPan rfl rfl rfl (by decide +kernel) ⟨Nat.le_of_ble_eq_true rfl, Nat.le_of_ble_eq_true rfl⟩) rfl rfl hl.1 dX12_later_2 rfl rfl (Nat.le_of_ble_eq_true rfl) ⟨(Nat.le_of_ble_eq_true rfl), (Nat.le_of_ble_eq_true rfl)⟩ hS hA hK hPm hDm (fun _ H locs _ hP hD hS => ?_)
  have hP := zp_perm hP ((zblk (show List.Perm ([WMo o ma mi ml, WMp X ma pv, Wa X 2 (ma 14) 6 s1, Wa X 2 (ma 15) 6 s2, Wa X 2 (ma 16) 6 s3, Wa X 2 (ma 22) 105 sa] : List va_W) ([WMo o ma mi ml] ++ [WMp X ma pv, Wa X 2 (ma 14) 6 s1, Wa X 2 (ma 15) 6 s2, Wa X 2 (ma 16) 6 s3, Wa X 2 (ma 22) 105 sa]) from (zf1 _ 0 _ rfl).trans ((List.Perm.refl _).cons _)))).symm
  have hD := zd_perm hD ((zblk (show List.Perm ([WMo o ma mi ml, WMp X ma pv, Wa X 2 (ma 14) 6 s1, Wa X 2 (ma 15) 6 s2, Wa X 2 (ma 16) 6 s3, Wa X 2 (ma 22) 105 sa] : List va_W) ([WMo o ma mi ml] ++ [WMp X ma pv, Wa X 2 (ma 14) 6 s1, Wa X 2 (ma 15) 6 s2, Wa X 2 (ma 16) 6 s3, Wa X 2 (ma 22) 105 sa]) from (zf1 _ 0 _ rfl).trans ((List.Perm.refl _).cons _)))).symm
  have hP : va_P X.1 vwCl (zb [WMo o ma mi ml, WMp X ma pv, Wa X 2 (ma 14) 6 s1, Wa X 2 (ma 15) 6 s2, Wa X 2 (ma 16) 6 s3, Wa X 2 (ma 22) 105 sa]) H := hP
  have hD : va_D A (zb [WMo o ma mi ml, WMp X ma pv, Wa X 2 (ma 14) 6 s1, Wa X 2 (ma 15) 6 s2, Wa X 2 (ma 16) 6 s3, Wa X 2 (ma 22) 105 sa]) := hD
  refine W.eq (g2 := F0 m 5 ls [.int (iI (if 0 ≤ z ∧ z < mi 1 then 1 else 0))]) rfl ?_
  refine z_if_ne (tgt := 11) hx hb (by omega) dX12_later_5 (by decide) (fun c_1 => ?_) (fun c_1 => ?_)
  · skip
    refine lv_iload_n hx hb dX12_later_11 rfl (lv_at hl 2 rfl) ?_
    refine lv_iconst (v := iI 0) hx hb dX12_later_12 (by decide) ?_
    refine lv_bipush (v := iI 40) hx hb dX12_later_13 (by decide) ?_
    have hPm := zp_perm hP (zblk (show List.Perm ([WMo o ma mi ml, WMp X ma pv, Wa X 2 (ma 14) 6 s1, Wa X 2 (ma 15) 6 s2, Wa X 2 (ma 16) 6 s3, Wa X 2 (ma 22) 105 sa] : List va_W) ([] ++ [WMo o ma mi ml, WMp X ma pv, Wa X 2 (ma 14) 6 s1, Wa X 2 (ma 15) 6 s2, Wa X 2 (ma 16) 6 s3, Wa X 2 (ma 22) 105 sa]) from List.Perm.refl _))
    have hDm := zd_perm hD (zblk (show List.Perm ([WMo o ma mi ml, WMp X ma pv, Wa X 2 (ma 14) 6 s1, Wa X 2 (ma 15) 6 s2, Wa X 2 (ma 16) 6 s3, Wa X 2 (ma 22) 105 sa] : List va_W) ([] ++ [WMo o ma mi ml, WMp X ma pv, Wa X 2 (ma 14) 6 s1, Wa X 2 (ma 15) 6 s2, Wa X 2 (ma 16) 6 s3, Wa X 2 (ma 22) 105 sa]) from List.Perm.refl _))
    refine z_callS (wr := zb [WMo o ma mi ml, WMp X ma pv, Wa X 2 (ma 14) 6 s1, Wa X 2 (ma 15) 6 s2, Wa X 2 (ma 16) 6 s3, Wa X 2 (ma 22) 105 sa]) (As := [.int (iI x), .int (iI 0), .int (iI 40)]) (rest := []) ⟨hx, hb, hml, hown, hts⟩ (c_X12_within l X x 0 40 (by omega)) (va_cwS 3 hts gX12_later_X12_within rfl rfl rfl (by decide +kernel) ⟨Nat.le_of_ble_eq_true rfl, Nat.le_of_ble_eq_true rfl⟩) hl.1 dX12_later_15 rfl rfl (Nat.le_of_ble_eq_true rfl) ⟨(Nat.le_of_ble_eq_true rfl), (Nat.le_of_ble_eq_true rfl)⟩ hS hA hK hPm hDm (fun _ H locs _ hP hD hS => ?_)
    have hP := zp_perm hP ((zblk (show List.Perm ([WMo o ma mi ml, WMp X ma pv, Wa X 2 (ma 14) 6 s1, Wa X 2 (ma 15) 6 s2, Wa X 2 (ma 16) 6 s3, Wa X 2 (ma 22) 105 sa] : List va_W) ([] ++ [WMo o ma mi ml, WMp X ma pv, Wa X 2 (ma 14) 6 s1, Wa X 2 (ma 15) 6 s2, Wa X 2 (ma 16) 6 s3, Wa X 2 (ma 22) 105 sa]) from List.Perm.refl _))).symm
    have hD := zd_perm hD ((zblk (show List.Perm ([WMo o ma mi ml, WMp X ma pv, Wa X 2 (ma 14) 6 s1, Wa X 2 (ma 15) 6 s2, Wa X 2 (ma 16) 6 s3, Wa X 2 (ma 22) 105 sa] : List va_W) ([] ++ [WMo o ma mi ml, WMp X ma pv, Wa X 2 (ma 14) 6 s1, Wa X 2 (ma 15) 6 s2, Wa X 2 (ma 16) 6 s3, Wa X 2 (ma 22) 105 sa]) from List.Perm.refl _))).symm
    have hP : va_P X.1 vwCl (zb [WMo o ma mi ml, WMp X ma pv, Wa X 2 (ma 14) 6 s1, Wa X 2 (ma 15) 6 s2, Wa X 2 (ma 16) 6 s3, Wa X 2 (ma 22) 105 sa]) H := hP
    have hD : va_D A (zb [WMo o ma mi ml, WMp X ma pv, Wa X 2 (ma 14) 6 s1, Wa X 2 (ma 15) 6 s2, Wa X 2 (ma 16) 6 s3, Wa X 2 (ma 22) 105 sa]) := hD
    refine W.eq (g2 := F0 m 18 ls [.int (iI (if 0 ≤ x ∧ x ≤ 40 then 1 else 0))]) rfl ?_
    refine z_if_eq (tgt := 40) hx hb (by omega) dX12_later_18 (by decide) (fun c_2 => ?_) (fun c_2 => ?_)
    · skip
      refine lv_bipush (v := iI (-102)) hx hb dX12_later_40 (by decide) ?_
      exact z_iret hQ hx hb hr hlocks hS ⟨(Nat.le_of_ble_eq_true rfl), (Nat.le_of_ble_eq_true rfl)⟩ dX12_later_42 sa (congrArg (fun z => some (Value.int (iI z))) (show (laterR (mi 1) z x y pv : Int) = (-102) by first | rfl | (unfold laterR; (repeat (first | rw [if_pos (by omega)] | rw [if_neg (by omega)]))))) (by (try dsimp only); intro k hk; first | rfl | exact savF_lo hk) hP hD
    · skip
      refine lv_iload_n hx hb dX12_later_21 rfl (lv_at hl 3 rfl) ?_
      refine lv_iconst (v := iI 0) hx hb dX12_later_22 (by decide) ?_
      refine lv_iconst (v := iI 3) hx hb dX12_later_23 (by decide) ?_
      have hPm := zp_perm hP (zblk (show List.Perm ([WMo o ma mi ml, WMp X ma pv, Wa X 2 (ma 14) 6 s1, Wa X 2 (ma 15) 6 s2, Wa X 2 (ma 16) 6 s3, Wa X 2 (ma 22) 105 sa] : List va_W) ([] ++ [WMo o ma mi ml, WMp X ma pv, Wa X 2 (ma 14) 6 s1, Wa X 2 (ma 15) 6 s2, Wa X 2 (ma 16) 6 s3, Wa X 2 (ma 22) 105 sa]) from List.Perm.refl _))
      have hDm := zd_perm hD (zblk (show List.Perm ([WMo o ma mi ml, WMp X ma pv, Wa X 2 (ma 14) 6 s1, Wa X 2 (ma 15) 6 s2, Wa X 2 (ma 16) 6 s3, Wa X 2 (ma 22) 105 sa] : List va_W) ([] ++ [WMo o ma mi ml, WMp X ma pv, Wa X 2 (ma 14) 6 s1, Wa X 2 (ma 15) 6 s2, Wa X 2 (ma 16) 6 s3, Wa X 2 (ma 22) 105 sa]) from List.Perm.refl _))
      refine z_callS (wr := zb [WMo o ma mi ml, WMp X ma pv, Wa X 2 (ma 14) 6 s1, Wa X 2 (ma 15) 6 s2, Wa X 2 (ma 16) 6 s3, Wa X 2 (ma 22) 105 sa]) (As := [.int (iI y), .int (iI 0), .int (iI 3)]) (rest := []) ⟨hx, hb, hml, hown, hts⟩ (c_X12_within l X y 0 3 (by omega)) (va_cwS 3 hts gX12_later_X12_within rfl rfl rfl (by decide +kernel) ⟨Nat.le_of_ble_eq_true rfl, Nat.le_of_ble_eq_true rfl⟩) hl.1 dX12_later_24 rfl rfl (Nat.le_of_ble_eq_true rfl) ⟨(Nat.le_of_ble_eq_true rfl), (Nat.le_of_ble_eq_true rfl)⟩ hS hA hK hPm hDm (fun _ H locs _ hP hD hS => ?_)
      have hP := zp_perm hP ((zblk (show List.Perm ([WMo o ma mi ml, WMp X ma pv, Wa X 2 (ma 14) 6 s1, Wa X 2 (ma 15) 6 s2, Wa X 2 (ma 16) 6 s3, Wa X 2 (ma 22) 105 sa] : List va_W) ([] ++ [WMo o ma mi ml, WMp X ma pv, Wa X 2 (ma 14) 6 s1, Wa X 2 (ma 15) 6 s2, Wa X 2 (ma 16) 6 s3, Wa X 2 (ma 22) 105 sa]) from List.Perm.refl _))).symm
      have hD := zd_perm hD ((zblk (show List.Perm ([WMo o ma mi ml, WMp X ma pv, Wa X 2 (ma 14) 6 s1, Wa X 2 (ma 15) 6 s2, Wa X 2 (ma 16) 6 s3, Wa X 2 (ma 22) 105 sa] : List va_W) ([] ++ [WMo o ma mi ml, WMp X ma pv, Wa X 2 (ma 14) 6 s1, Wa X 2 (ma 15) 6 s2, Wa X 2 (ma 16) 6 s3, Wa X 2 (ma 22) 105 sa]) from List.Perm.refl _))).symm
      have hP : va_P X.1 vwCl (zb [WMo o ma mi ml, WMp X ma pv, Wa X 2 (ma 14) 6 s1, Wa X 2 (ma 15) 6 s2, Wa X 2 (ma 16) 6 s3, Wa X 2 (ma 22) 105 sa]) H := hP
      have hD : va_D A (zb [WMo o ma mi ml, WMp X ma pv, Wa X 2 (ma 14) 6 s1, Wa X 2 (ma 15) 6 s2, Wa X 2 (ma 16) 6 s3, Wa X 2 (ma 22) 105 sa]) := hD
      refine W.eq (g2 := F0 m 27 ls [.int (iI (if 0 ≤ y ∧ y ≤ 3 then 1 else 0))]) rfl ?_
      refine z_if_eq (tgt := 40) hx hb (by omega) dX12_later_27 (by decide) (fun c_3 => ?_) (fun c_3 => ?_)
      · skip
        refine lv_bipush (v := iI (-102)) hx hb dX12_later_40 (by decide) ?_
        exact z_iret hQ hx hb hr hlocks hS ⟨(Nat.le_of_ble_eq_true rfl), (Nat.le_of_ble_eq_true rfl)⟩ dX12_later_42 sa (congrArg (fun z => some (Value.int (iI z))) (show (laterR (mi 1) z x y pv : Int) = (-102) by first | rfl | (unfold laterR; (repeat (first | rw [if_pos (by omega)] | rw [if_neg (by omega)]))))) (by (try dsimp only); intro k hk; first | rfl | exact savF_lo hk) hP hD
      · skip
        refine lv_aload_n hx hb dX12_later_30 rfl (lv_at hl 0 rfl) ?_
        refine lv_iload_n hx hb dX12_later_31 rfl (lv_at hl 1 rfl) ?_
        refine lv_iload_n hx hb dX12_later_32 rfl (lv_at hl 2 rfl) ?_
        refine lv_iload_n hx hb dX12_later_33 rfl (lv_at hl 3 rfl) ?_
        have hPm := zp_perm hP (zblk (show List.Perm ([WMo o ma mi ml, WMp X ma pv, Wa X 2 (ma 14) 6 s1, Wa X 2 (ma 15) 6 s2, Wa X 2 (ma 16) 6 s3, Wa X 2 (ma 22) 105 sa] : List va_W) ([WMo o ma mi ml, WMp X ma pv, Wa X 2 (ma 14) 6 s1, Wa X 2 (ma 15) 6 s2, Wa X 2 (ma 16) 6 s3, Wa X 2 (ma 22) 105 sa] ++ []) from (zf1 _ 0 _ rfl).trans (((zf1 _ 0 _ rfl).trans (((zf1 _ 0 _ rfl).trans (((zf1 _ 0 _ rfl).trans (((zf1 _ 0 _ rfl).trans (((zf1 _ 0 _ rfl).trans ((List.Perm.refl _).cons _)).cons _)).cons _)).cons _)).cons _)).cons _)))
        have hDm := zd_perm hD (zblk (show List.Perm ([WMo o ma mi ml, WMp X ma pv, Wa X 2 (ma 14) 6 s1, Wa X 2 (ma 15) 6 s2, Wa X 2 (ma 16) 6 s3, Wa X 2 (ma 22) 105 sa] : List va_W) ([WMo o ma mi ml, WMp X ma pv, Wa X 2 (ma 14) 6 s1, Wa X 2 (ma 15) 6 s2, Wa X 2 (ma 16) 6 s3, Wa X 2 (ma 22) 105 sa] ++ []) from (zf1 _ 0 _ rfl).trans (((zf1 _ 0 _ rfl).trans (((zf1 _ 0 _ rfl).trans (((zf1 _ 0 _ rfl).trans (((zf1 _ 0 _ rfl).trans (((zf1 _ 0 _ rfl).trans ((List.Perm.refl _).cons _)).cons _)).cons _)).cons _)).cons _)).cons _)))
        refine z_callV (wr := zb []) (As := [.int (iI z), .int (iI x), .int (iI y)]) (rest := []) ⟨hx, hb, hml, hown, hts⟩ (c_X12_laterNow l X o ma mi ml pv s1 s2 s3 sa z x y (by omega) (by exact hpv) (by exact hpg) (by omega) (by exact hsg) (by omega) (by omega)) (cwV 3 hts gX12_later_X12_laterNow rfl rfl rfl (by decide +kernel) ⟨Nat.le_of_ble_eq_true rfl, Nat.le_of_ble_eq_true rfl⟩) rfl rfl hl.1 dX12_later_34 rfl rfl (Nat.le_of_ble_eq_true rfl) ⟨(Nat.le_of_ble_eq_true rfl), (Nat.le_of_ble_eq_true rfl)⟩ hS hA hK hPm hDm (fun _ H locs _ hP hD hS => ?_)
        have hP := zp_perm hP ((zblk (show List.Perm ([WMo o ma mi ml, WMp X ma pv, Wa X 2 (ma 14) 6 s1, Wa X 2 (ma 15) 6 s2, Wa X 2 (ma 16) 6 s3, Wa X 2 (ma 22) 105 (savF 15 pv sa)] : List va_W) ([WMo o ma mi ml, WMp X ma pv, Wa X 2 (ma 14) 6 s1, Wa X 2 (ma 15) 6 s2, Wa X 2 (ma 16) 6 s3, Wa X 2 (ma 22) 105 (savF 15 pv sa)] ++ []) from (zf1 _ 0 _ rfl).trans (((zf1 _ 0 _ rfl).trans (((zf1 _ 0 _ rfl).trans (((zf1 _ 0 _ rfl).trans (((zf1 _ 0 _ rfl).trans (((zf1 _ 0 _ rfl).trans ((List.Perm.refl _).cons _)).cons _)).cons _)).cons _)).cons _)).cons _)))).symm
        have hD := zd_perm hD ((zblk (show List.Perm ([WMo o ma mi ml, WMp X ma pv, Wa X 2 (ma 14) 6 s1, Wa X 2 (ma 15) 6 s2, Wa X 2 (ma 16) 6 s3, Wa X 2 (ma 22) 105 (savF 15 pv sa)] : List va_W) ([WMo o ma mi ml, WMp X ma pv, Wa X 2 (ma 14) 6 s1, Wa X 2 (ma 15) 6 s2, Wa X 2 (ma 16) 6 s3, Wa X 2 (ma 22) 105 (savF 15 pv sa)] ++ []) from (zf1 _ 0 _ rfl).trans (((zf1 _ 0 _ rfl).trans (((zf1 _ 0 _ rfl).trans (((zf1 _ 0 _ rfl).trans (((zf1 _ 0 _ rfl).trans (((zf1 _ 0 _ rfl).trans ((List.Perm.refl _).cons _)).cons _)).cons _)).cons _)).cons _)).cons _)))).symm
        have hP : va_P X.1 vwCl (zb [WMo o ma mi ml, WMp X ma pv, Wa X 2 (ma 14) 6 s1, Wa X 2 (ma 15) 6 s2, Wa X 2 (ma 16) 6 s3, Wa X 2 (ma 22) 105 (savF 15 pv sa)]) H := hP
        have hD : va_D A (zb [WMo o ma mi ml, WMp X ma pv, Wa X 2 (ma 14) 6 s1, Wa X 2 (ma 15) 6 s2, Wa X 2 (ma 16) 6 s3, Wa X 2 (ma 22) 105 (savF 15 pv sa)]) := hD
        refine W.eq (g2 := F0 m 37 ls [.int (iI (laterR (mi 1) z x y pv))]) rfl ?_
        refine lv_goto (tgt := 42) hx hb dX12_later_37 (by decide) ?_
        exact z_iret hQ hx hb hr hlocks hS ⟨(Nat.le_of_ble_eq_true rfl), (Nat.le_of_ble_eq_true rfl)⟩ dX12_later_42 (savF 15 pv sa) rfl (by (try dsimp only); intro k hk; first | rfl | exact savF_lo hk) hP hD
  · skip
    refine lv_bipush (v := iI (-101)) hx hb dX12_later_8 (by decide) ?_
    exact z_iret hQ hx hb hr hlocks hS ⟨(Nat.le_of_ble_eq_true rfl), (Nat.le_of_ble_eq_true rfl)⟩ dX12_later_10 sa (congrArg (fun z => some (Value.int (iI z))) (show (laterR (mi 1) z x y pv : Int) = (-101) by first | rfl | (unfold laterR; (repeat (first | rw [if_pos (by omega)] | rw [if_neg (by omega)]))))) (by (try dsimp only); intro k hk; first | rfl | exact savF_lo hk) hP hD
