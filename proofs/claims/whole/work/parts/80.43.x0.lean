set_option maxHeartbeats 1000000 in
set_option maxRecDepth 100000 in
theorem c_X11_isWithin (l : Launch) (X : zX) (z : Int) (x : Int) (y : Int) (hz : (-2147483648 ≤ z ∧ z < 2147483648) ∧ (-2147483648 ≤ x ∧ x < 2147483648) ∧ (-2147483648 ≤ y ∧ y < 2147483648)) : zF l X yX11_isWithin wsX11_isWithin 0 0 [.int (iI z), .int (iI x), .int (iI y)] (zb []) (some (.int (iI (if x ≤ z ∧ z ≤ y then 1 else 0)))) (zb []) := by
  refine z_enter (cc := cX11_isWithin) (maxL := 3) (ret := (some .boolean)) (by decide) rfl (Nat.le_of_ble_eq_true rfl) ?_
  intro p e s m below meth c A ls Q hQ hE hl hP hD
  obtain ⟨hx, hb, hr, hml, hown, hts, hlocks, hnm, hA, hK⟩ := hE
  have hown : s.vm.findClass RX11 = some m.cls := hown
  have hS : va_S A s.heap s.heap [] := va_S.rf
  have hl : lv_has ls 3 [(0, .int (iI z)), (1, .int (iI x)), (2, .int (iI y))] := hl
  refine lv_iload_n hx hb dX11_isWithin_0 rfl (lv_at hl 0 rfl) ?_
  refine lv_iload_n hx hb dX11_isWithin_1 rfl (lv_at hl 1 rfl) ?_
  refine z_icmp_lt (tgt := 14) hx hb (by omega) dX11_isWithin_2 (by decide) (fun c_1 => ?_) (fun c_1 => ?_)
  · skip
    refine lv_iconst (v := iI 0) hx hb dX11_isWithin_14 (by decide) ?_
    exact z_zret (ty := .boolean) hQ hx hb hr (by rfl) hlocks hS ⟨Nat.le_of_ble_eq_true rfl, Nat.le_of_ble_eq_true rfl⟩ dX11_isWithin_15 () (congrArg (fun z => some (Value.int (iI z))) (show (if x ≤ z ∧ z ≤ y then 1 else 0 : Int) = 0 by omega)) trivial hP hD
  · skip
    refine lv_iload_n hx hb dX11_isWithin_5 rfl (lv_at hl 0 rfl) ?_
    refine lv_iload_n hx hb dX11_isWithin_6 rfl (lv_at hl 2 rfl) ?_
    refine z_icmp_gt (tgt := 14) hx hb (by omega) dX11_isWithin_7 (by decide) (fun c_2 => ?_) (fun c_2 => ?_)
    · skip
      refine lv_iconst (v := iI 0) hx hb dX11_isWithin_14 (by decide) ?_
      exact z_zret (ty := .boolean) hQ hx hb hr (by rfl) hlocks hS ⟨Nat.le_of_ble_eq_true rfl, Nat.le_of_ble_eq_true rfl⟩ dX11_isWithin_15 () (congrArg (fun z => some (Value.int (iI z))) (show (if x ≤ z ∧ z ≤ y then 1 else 0 : Int) = 0 by omega)) trivial hP hD
    · skip
      refine lv_iconst (v := iI 1) hx hb dX11_isWithin_10 (by decide) ?_
      refine lv_goto (tgt := 15) hx hb dX11_isWithin_11 (by decide) ?_
      exact z_zret (ty := .boolean) hQ hx hb hr (by rfl) hlocks hS ⟨Nat.le_of_ble_eq_true rfl, Nat.le_of_ble_eq_true rfl⟩ dX11_isWithin_15 () (congrArg (fun z => some (Value.int (iI z))) (show (if x ≤ z ∧ z ≤ y then 1 else 0 : Int) = 1 by omega)) trivial hP hD
set_option maxHeartbeats 1000000 in
set_option maxRecDepth 100000 in
theorem c_X11_hasDairy (l : Launch) (X : zX) (ad : Nat → Nat) (st : Nat → Int) (ca : Nat → Option Nat) (hd : 0 ≤ st 6 ∧ st 6 ≤ 1000) : zF l X yX11_hasDairy wsX11_hasDairy 0 0 [.ref (ad 0)] (zb [WX0 X ad st ca]) (some (.int (iI (if st 6 ≤ 0 then 0 else 1)))) (zb [WX0 X ad st ca]) := by
  refine z_enter (cc := cX11_hasDairy) (maxL := 1) (ret := (some .boolean)) (by decide) rfl (Nat.le_of_ble_eq_true rfl) ?_
  intro p e s m below meth c A ls Q hQ hE hl hP hD
  obtain ⟨hx, hb, hr, hml, hown, hts, hlocks, hnm, hA, hK⟩ := hE
  have hown : s.vm.findClass RX11 = some m.cls := hown
  have hS : va_S A s.heap s.heap [] := va_S.rf
  have hl : lv_has ls 1 [(0, .ref (ad 0))] := hl
  have inX11 : ∀ w ∈ u_ws RX11 TX11 16, w ∈ wsX11_hasDairy := by decide +kernel
  refine lv_aload_n hx hb dX11_hasDairy_0 rfl (lv_at hl 0 rfl) ?_
  refine va_get (ci := 11) (v := .int (iI (st 6))) (C := RX11) (T := TX11) (N := 16) hx hb hts inX11 hown hK.1 hP 0 rfl rfl 6 (by decide) (hts (.fieldLink RX11 102 "SkimmedSons" "dairiesRead" "I") (by decide +kernel)) (fun _ h9 => h9) rfl dX11_hasDairy_1 ?_
  refine z_if_le (tgt := 11) hx hb (by omega) dX11_hasDairy_4 (by decide) (fun c_1 => ?_) (fun c_1 => ?_)
  · skip
    refine lv_iconst (v := iI 0) hx hb dX11_hasDairy_11 (by decide) ?_
    exact z_zret (ty := .boolean) hQ hx hb hr (by rfl) hlocks hS ⟨Nat.le_of_ble_eq_true rfl, Nat.le_of_ble_eq_true rfl⟩ dX11_hasDairy_12 () (congrArg (fun z => some (Value.int (iI z))) (show (if st 6 ≤ 0 then 0 else 1 : Int) = 0 by omega)) trivial hP hD
  · skip
    refine lv_iconst (v := iI 1) hx hb dX11_hasDairy_7 (by decide) ?_
    refine lv_goto (tgt := 12) hx hb dX11_hasDairy_8 (by decide) ?_
    exact z_zret (ty := .boolean) hQ hx hb hr (by rfl) hlocks hS ⟨Nat.le_of_ble_eq_true rfl, Nat.le_of_ble_eq_true rfl⟩ dX11_hasDairy_12 () (congrArg (fun z => some (Value.int (iI z))) (show (if st 6 ≤ 0 then 0 else 1 : Int) = 1 by omega)) trivial hP hD
set_option maxHeartbeats 1000000 in
set_option maxRecDepth 100000 in
theorem c_X11_childAt_s (l : Launch) (X : zX) (ad : Nat → Nat) (st : Nat → Int) (ca : Nat → Option Nat) (co : Nat → Nat) (z : Int) (hca : KidA st ca co) (hz : 0 ≤ z ∧ z < st 3) : zF l X yX11_childAt wsX11_childAt 1 22 [.ref (ad 0), .int (iI z)] (zb [WX0 X ad st ca]) (some (Value.ref (co z.toNat))) (zb [WX0 X ad st ca]) := by
  refine z_enter (cc := cX11_childAt) (maxL := 2) (ret := (some (.object "SkimmedSons$Child"))) (by decide) rfl (Nat.le_of_ble_eq_true rfl) ?_
  intro p e s m below meth c A ls Q hQ hE hl hP hD
  obtain ⟨hx, hb, hr, hml, hown, hts, hlocks, hnm, hA, hK⟩ := hE
  have hown : s.vm.findClass RX11 = some m.cls := hown
  have hS : va_S A s.heap s.heap [] := va_S.rf
  have hl : lv_has ls 2 [(0, .ref (ad 0)), (1, .int (iI z))] := hl
  have inX11 : ∀ w ∈ u_ws RX11 TX11 16, w ∈ wsX11_childAt := by decide +kernel
  obtain ⟨hcn, hcc⟩ := id hca
  refine lv_iload_n hx hb dX11_childAt_0 rfl (lv_at hl 1 rfl) ?_
  refine lv_iconst (v := iI 0) hx hb dX11_childAt_1 (by decide) ?_
  refine lv_aload_n hx hb dX11_childAt_2 rfl (lv_at hl 0 rfl) ?_
  refine va_get (ci := 11) (v := .int (iI (st 3))) (C := RX11) (T := TX11) (N := 16) hx hb hts inX11 hown hK.1 hP 0 rfl rfl 3 (by decide) (hts (.fieldLink RX11 105 "SkimmedSons" "childCount" "I") (by decide +kernel)) (fun _ h9 => h9) rfl dX11_childAt_3 ?_
  refine lv_iconst (v := iI 1) hx hb dX11_childAt_6 (by decide) ?_
  refine z_isub hx hb dX11_childAt_7 ?_
  have hPm := zp_perm hP (zblk (show List.Perm ([WX0 X ad st ca] : List va_W) ([] ++ [WX0 X ad st ca]) from List.Perm.refl _))
  have hDm := zd_perm hD (zblk (show List.Perm ([WX0 X ad st ca] : List va_W) ([] ++ [WX0 X ad st ca]) from List.Perm.refl _))
  refine z_callS (wr := zb [WX0 X ad st ca]) (As := [.int (iI z), .int (iI 0), .int (iI ((st 3) - 1))]) (rest := []) ⟨hx, hb, hml, hown, hts⟩ (c_X11_isWithin l X z 0 ((st 3) - 1) (by omega)) (va_cwS 3 hts gX11_childAt_X11_isWithin rfl rfl rfl (by decide +kernel) ⟨Nat.le_of_ble_eq_true rfl, Nat.le_of_ble_eq_true rfl⟩) hl.1 dX11_childAt_8 rfl rfl (Nat.le_of_ble_eq_true rfl) ⟨Nat.le_of_ble_eq_true rfl, Nat.le_of_ble_eq_true rfl⟩ hS hA hK hPm hDm (fun _ H locs _ hP hD hS => ?_)
  have hP := zp_perm hP ((zblk (show List.Perm ([WX0 X ad st ca] : List va_W) ([] ++ [WX0 X ad st ca]) from List.Perm.refl _))).symm
  have hD := zd_perm hD ((zblk (show List.Perm ([WX0 X ad st ca] : List va_W) ([] ++ [WX0 X ad st ca]) from List.Perm.refl _))).symm
  have hP : va_P X.1 vwCl (zb [WX0 X ad st ca]) H := hP
  have hD : va_D A (zb [WX0 X ad st ca]) := hD
  refine W.eq (g2 := F0 m 11 ls [.int (iI (if 0 ≤ z ∧ z ≤ ((st 3) - 1) then 1 else 0))]) rfl ?_
  refine z_if_eq (tgt := 32) hx hb (by omega) dX11_childAt_11 (by decide) (fun c_1 => ?_) (fun c_1 => ?_)
  · skip
    exact absurd c_1 (by omega)
  · skip
    refine lv_iload_n hx hb dX11_childAt_14 rfl (lv_at hl 1 rfl) ?_
    refine lv_aload_n hx hb dX11_childAt_15 rfl (lv_at hl 0 rfl) ?_
    refine va_get (ci := 11) (v := .ref (ad 9)) (C := RX11) (T := TX11) (N := 16) hx hb hts inX11 hown hK.1 hP 0 rfl rfl 2 (by decide) (hts (.fieldLink RX11 25 "SkimmedSons" "children" "[LSkimmedSons$Child;") (by decide +kernel)) (fun _ h9 => h9) rfl dX11_childAt_16 ?_
    refine z_alen (a := 5) hx hb hK.1 hP 1 3 rfl rfl rfl dX11_childAt_19 ?_
    refine z_icmp_ge (tgt := 32) hx hb (by omega) dX11_childAt_20 (by decide) (fun c_2 => ?_) (fun c_2 => ?_)
    · skip
      exact absurd c_2 (by omega)
    · skip
      refine lv_aload_n hx hb dX11_childAt_23 rfl (lv_at hl 0 rfl) ?_
      refine va_get (ci := 11) (v := .ref (ad 9)) (C := RX11) (T := TX11) (N := 16) hx hb hts inX11 hown hK.1 hP 0 rfl rfl 2 (by decide) (hts (.fieldLink RX11 25 "SkimmedSons" "children" "[LSkimmedSons$Child;") (by decide +kernel)) (fun _ h9 => h9) rfl dX11_childAt_24 ?_
      refine lv_iload_n hx hb dX11_childAt_27 rfl (lv_at hl 1 rfl) ?_
      refine z_aald (v := .ref (co z.toNat)) hx hb hK.1 hP 1 3 rfl rfl (by omega) dX11_childAt_28 (by rw [hcc _ (by omega)]; rfl) ?_
      refine lv_goto (tgt := 33) hx hb dX11_childAt_29 (by decide) ?_
      exact z_aret hQ hx hb hr (Or.inr ⟨_, rfl⟩) hlocks hS ⟨Nat.le_of_ble_eq_true rfl, Nat.le_of_ble_eq_true rfl⟩ dX11_childAt_33 () (congrArg some (show Value.ref (co z.toNat) = Value.ref (co z.toNat) by rfl)) trivial hP hD
set_option maxHeartbeats 1000000 in
set_option maxRecDepth 100000 in
theorem c_X11_childAt_n (l : Launch) (X : zX) (ad : Nat → Nat) (st : Nat → Int) (ca : Nat → Option Nat) (co : Nat → Nat) (z : Int) (hca : KidA st ca co) (hrz : -2147483648 ≤ z ∧ z < 2147483648) (hz : z < 0 ∨ st 3 ≤ z) : zF l X yX11_childAt wsX11_childAt 1 22 [.ref (ad 0), .int (iI z)] (zb [WX0 X ad st ca]) (some Value.null) (zb [WX0 X ad st ca]) := by
  refine z_enter (cc := cX11_childAt) (maxL := 2) (ret := (some (.object "SkimmedSons$Child"))) (by decide) rfl (Nat.le_of_ble_eq_true rfl) ?_
  intro p e s m below meth c A ls Q hQ hE hl hP hD
  obtain ⟨hx, hb, hr, hml, hown, hts, hlocks, hnm, hA, hK⟩ := hE
  have hown : s.vm.findClass RX11 = some m.cls := hown
  have hS : va_S A s.heap s.heap [] := va_S.rf
  have hl : lv_has ls 2 [(0, .ref (ad 0)), (1, .int (iI z))] := hl
  have inX11 : ∀ w ∈ u_ws RX11 TX11 16, w ∈ wsX11_childAt := by decide +kernel
  obtain ⟨hcn, hcc⟩ := id hca
  refine lv_iload_n hx hb dX11_childAt_0 rfl (lv_at hl 1 rfl) ?_
  refine lv_iconst (v := iI 0) hx hb dX11_childAt_1 (by decide) ?_
  refine lv_aload_n hx hb dX11_childAt_2 rfl (lv_at hl 0 rfl) ?_
  refine va_get (ci := 11) (v := .int (iI (st 3))) (C := RX11) (T := TX11) (N := 16) hx hb hts inX11 hown hK.1 hP 0 rfl rfl 3 (by decide) (hts (.fieldLink RX11 105 "SkimmedSons" "childCount" "I") (by decide +kernel)) (fun _ h9 => h9) rfl dX11_childAt_3 ?_
  refine lv_iconst (v := iI 1) hx hb dX11_childAt_6 (by decide) ?_
  refine z_isub hx hb dX11_childAt_7 ?_
  have hPm := zp_perm hP (zblk (show List.Perm ([WX0 X ad st ca] : List va_W) ([] ++ [WX0 X ad st ca]) from List.Perm.refl _))
  have hDm := zd_perm hD (zblk (show List.Perm ([WX0 X ad st ca] : List va_W) ([] ++ [WX0 X ad st ca]) from List.Perm.refl _))
  refine z_callS (wr := zb [WX0 X ad st ca]) (As := [.int (iI z), .int (iI 0), .int (iI ((st 3) - 1))]) (rest := []) ⟨hx, hb, hml, hown, hts⟩ (c_X11_isWithin l X z 0 ((st 3) - 1) (by omega)) (va_cwS 3 hts gX11_childAt_X11_isWithin rfl rfl rfl (by decide +kernel) ⟨Nat.le_of_ble_eq_true rfl, Nat.le_of_ble_eq_true rfl⟩) hl.1 dX11_childAt_8 rfl rfl (Nat.le_of_ble_eq_true rfl) ⟨Nat.le_of_ble_eq_true rfl, Nat.le_of_ble_eq_true rfl⟩ hS hA hK hPm hDm (fun _ H locs _ hP hD hS => ?_)
  have hP := zp_perm hP ((zblk (show List.Perm ([WX0 X ad st ca] : List va_W) ([] ++ [WX0 X ad st ca]) from List.Perm.refl _))).symm
  have hD := zd_perm hD ((zblk (show List.Perm ([WX0 X ad st ca] : List va_W) ([] ++ [WX0 X ad st ca]) from List.Perm.refl _))).symm
  have hP : va_P X.1 vwCl (zb [WX0 X ad st ca]) H := hP
  have hD : va_D A (zb [WX0 X ad st ca]) := hD
  refine W.eq (g2 := F0 m 11 ls [.int (iI (if 0 ≤ z ∧ z ≤ ((st 3) - 1) then 1 else 0))]) rfl ?_
  refine z_if_eq (tgt := 32) hx hb (by omega) dX11_childAt_11 (by decide) (fun c_1 => ?_) (fun c_1 => ?_)
  · skip
    refine lv_null hx hb dX11_childAt_32 ?_
    exact z_aret hQ hx hb hr (Or.inl rfl) hlocks hS ⟨Nat.le_of_ble_eq_true rfl, Nat.le_of_ble_eq_true rfl⟩ dX11_childAt_33 () (congrArg some (show Value.null = Value.null by rfl)) trivial hP hD
  · skip
    exact absurd c_1 (by omega)
set_option maxHeartbeats 1000000 in
set_option maxRecDepth 100000 in
theorem c_X11_letter (l : Launch) (X : zX) (ad : Nat → Nat) (st : Nat → Int) (ca : Nat → Option Nat) (pn : Int) (px : Int) (py : Int) (pt : Int) (f : Nat → Int) (z : Int) (hs : PageB pn f) (hrz : -2147483648 ≤ z ∧ z < 2147483648) : zF l X yX11_letter wsX11_letter 2 41 [.ref (ad 0), .int (iI z)] (zb [WX0 X ad st ca, Wpage X (ad 1) (ad 2) pn px py pt f]) (some (.int (iI (letterR pn z)))) (zb [WX0 X ad st ca, Wpage X (ad 1) (ad 2) (letterN pn z) px py pt (letterF pn z f)]) := by
  refine z_enter (cc := cX11_letter) (maxL := 2) (ret := (some .int)) (by decide) rfl (Nat.le_of_ble_eq_true rfl) ?_
  intro p e s m below meth c A ls Q hQ hE hl hP hD
  obtain ⟨hx, hb, hr, hml, hown, hts, hlocks, hnm, hA, hK⟩ := hE
  have hown : s.vm.findClass RX11 = some m.cls := hown
  have hS : va_S A s.heap s.heap [] := va_S.rf
  have hl : lv_has ls 2 [(0, .ref (ad 0)), (1, .int (iI z))] := hl
  have inX11 : ∀ w ∈ u_ws RX11 TX11 16, w ∈ wsX11_letter := by decide +kernel
  obtain ⟨hn, hf⟩ := id hs
  refine lv_iload_n hx hb dX11_letter_0 rfl (lv_at hl 1 rfl) ?_
  refine lv_bipush (v := iI 32) hx hb dX11_letter_1 (by decide) ?_
  refine z_icmp_lt (tgt := 12) hx hb (by omega) dX11_letter_3 (by decide) (fun c_1 => ?_) (fun c_1 => ?_)
  · skip
    refine lv_bipush (v := iI (-102)) hx hb dX11_letter_12 (by decide) ?_
    have hw : zb [WX0 X ad st ca, Wpage X (ad 1) (ad 2) pn px py pt f] = zb [WX0 X ad st ca, Wpage X (ad 1) (ad 2) (letterN pn z) px py pt (letterF pn z f)] := by unfold letterN letterF; (repeat (first | rw [if_pos (by omega)] | rw [if_neg (by omega)]))
    rw [hw] at hP hD
    exact z_iret hQ hx hb hr hlocks hS ⟨Nat.le_of_ble_eq_true rfl, Nat.le_of_ble_eq_true rfl⟩ dX11_letter_14 () (congrArg (fun z => some (Value.int (iI z))) (show (letterR pn z : Int) = (-102) by unfold letterR; omega)) trivial hP hD
  · skip
    refine lv_iload_n hx hb dX11_letter_6 rfl (lv_at hl 1 rfl) ?_
    refine lv_bipush (v := iI 126) hx hb dX11_letter_7 (by decide) ?_
    refine z_icmp_le (tgt := 15) hx hb (by omega) dX11_letter_9 (by decide) (fun c_2 => ?_) (fun c_2 => ?_)
    · skip
      refine lv_aload_n hx hb dX11_letter_15 rfl (lv_at hl 0 rfl) ?_
      refine va_get (ci := 11) (v := .ref (ad 1)) (C := RX11) (T := TX11) (N := 16) hx hb hts inX11 hown hK.1 hP 0 rfl rfl 0 (by decide) (hts (.fieldLink RX11 10 "SkimmedSons" "page" "LSkimmedSons$Page;") (by decide +kernel)) (fun _ h9 => h9) rfl dX11_letter_16 ?_
      have hPm := zp_perm hP (zblk (show List.Perm ([WX0 X ad st ca, Wpage X (ad 1) (ad 2) pn px py pt f] : List va_W) ([Wpage X (ad 1) (ad 2) pn px py pt f] ++ [WX0 X ad st ca]) from (zf1 _ 1 _ rfl).trans ((List.Perm.refl _).cons _)))
      have hDm := zd_perm hD (zblk (show List.Perm ([WX0 X ad st ca, Wpage X (ad 1) (ad 2) pn px py pt f] : List va_W) ([Wpage X (ad 1) (ad 2) pn px py pt f] ++ [WX0 X ad st ca]) from (zf1 _ 1 _ rfl).trans ((List.Perm.refl _).cons _)))
      refine z_callV (wr := zb [WX0 X ad st ca]) (As := []) (rest := []) ⟨hx, hb, hml, hown, hts⟩ (c_X3_isFull l X (ad 1) (ad 2) pn px py pt f (by omega)) (cwV 0 hts gX11_letter_X3_isFull rfl rfl rfl (by decide +kernel) ⟨Nat.le_of_ble_eq_true rfl, Nat.le_of_ble_eq_true rfl⟩) rfl rfl hl.1 dX11_letter_19 rfl rfl (Nat.le_of_ble_eq_true rfl) ⟨Nat.le_of_ble_eq_true rfl, Nat.le_of_ble_eq_true rfl⟩ hS hA hK hPm hDm (fun _ H locs _ hP hD hS => ?_)
      have hP := zp_perm hP ((zblk (show List.Perm ([WX0 X ad st ca, Wpage X (ad 1) (ad 2) pn px py pt f] : List va_W) ([Wpage X (ad 1) (ad 2) pn px py pt f] ++ [WX0 X ad st ca]) from (zf1 _ 1 _ rfl).trans ((List.Perm.refl _).cons _)))).symm
      have hD := zd_perm hD ((zblk (show List.Perm ([WX0 X ad st ca, Wpage X (ad 1) (ad 2) pn px py pt f] : List va_W) ([Wpage X (ad 1) (ad 2) pn px py pt f] ++ [WX0 X ad st ca]) from (zf1 _ 1 _ rfl).trans ((List.Perm.refl _).cons _)))).symm
      have hP : va_P X.1 vwCl (zb [WX0 X ad st ca, Wpage X (ad 1) (ad 2) pn px py pt f]) H := hP
      have hD : va_D A (zb [WX0 X ad st ca, Wpage X (ad 1) (ad 2) pn px py pt f]) := hD
      refine W.eq (g2 := F0 m 22 ls [.int (iI (if 24 ≤ pn then 1 else 0))]) rfl ?_
      refine z_if_eq (tgt := 28) hx hb (by omega) dX11_letter_22 (by decide) (fun c_3 => ?_) (fun c_3 => ?_)
      · skip
        refine lv_aload_n hx hb dX11_letter_28 rfl (lv_at hl 0 rfl) ?_
        refine va_get (ci := 11) (v := .ref (ad 1)) (C := RX11) (T := TX11) (N := 16) hx hb hts inX11 hown hK.1 hP 0 rfl rfl 0 (by decide) (hts (.fieldLink RX11 10 "SkimmedSons" "page" "LSkimmedSons$Page;") (by decide +kernel)) (fun _ h9 => h9) rfl dX11_letter_29 ?_
        refine lv_iload_n hx hb dX11_letter_32 rfl (lv_at hl 1 rfl) ?_
        refine z_i2c hx hb (by omega) dX11_letter_33 ?_
        have hPm := zp_perm hP (zblk (show List.Perm ([WX0 X ad st ca, Wpage X (ad 1) (ad 2) pn px py pt f] : List va_W) ([Wpage X (ad 1) (ad 2) pn px py pt f] ++ [WX0 X ad st ca]) from (zf1 _ 1 _ rfl).trans ((List.Perm.refl _).cons _)))
        have hDm := zd_perm hD (zblk (show List.Perm ([WX0 X ad st ca, Wpage X (ad 1) (ad 2) pn px py pt f] : List va_W) ([Wpage X (ad 1) (ad 2) pn px py pt f] ++ [WX0 X ad st ca]) from (zf1 _ 1 _ rfl).trans ((List.Perm.refl _).cons _)))
        refine z_callV (wr := zb [WX0 X ad st ca]) (As := [.int (iI z)]) (rest := []) ⟨hx, hb, hml, hown, hts⟩ (c_X3_add l X (ad 1) (ad 2) pn px py pt f z (by omega) (by omega)) (cwV 1 hts gX11_letter_X3_add rfl rfl rfl (by decide +kernel) ⟨Nat.le_of_ble_eq_true rfl, Nat.le_of_ble_eq_true rfl⟩) rfl rfl hl.1 dX11_letter_34 rfl rfl (Nat.le_of_ble_eq_true rfl) ⟨Nat.le_of_ble_eq_true rfl, Nat.le_of_ble_eq_true rfl⟩ hS hA hK hPm hDm (fun _ H locs _ hP hD hS => ?_)
        have hP := zp_perm hP ((zblk (show List.Perm ([WX0 X ad st ca, Wpage X (ad 1) (ad 2) (pn + 1) px py pt (updZ f pn.toNat z)] : List va_W) ([Wpage X (ad 1) (ad 2) (pn + 1) px py pt (updZ f pn.toNat z)] ++ [WX0 X ad st ca]) from (zf1 _ 1 _ rfl).trans ((List.Perm.refl _).cons _)))).symm
        have hD := zd_perm hD ((zblk (show List.Perm ([WX0 X ad st ca, Wpage X (ad 1) (ad 2) (pn + 1) px py pt (updZ f pn.toNat z)] : List va_W) ([Wpage X (ad 1) (ad 2) (pn + 1) px py pt (updZ f pn.toNat z)] ++ [WX0 X ad st ca]) from (zf1 _ 1 _ rfl).trans ((List.Perm.refl _).cons _)))).symm
        have hP : va_P X.1 vwCl (zb [WX0 X ad st ca, Wpage X (ad 1) (ad 2) (pn + 1) px py pt (updZ f pn.toNat z)]) H := hP
        have hD : va_D A (zb [WX0 X ad st ca, Wpage X (ad 1) (ad 2) (pn + 1) px py pt (updZ f pn.toNat z)]) := hD
        refine W.eq (g2 := F0 m 37 ls []) rfl ?_
        refine lv_aload_n hx hb dX11_letter_37 rfl (lv_at hl 0 rfl) ?_
        refine va_get (ci := 11) (v := .ref (ad 1)) (C := RX11) (T := TX11) (N := 16) hx hb hts inX11 hown hK.1 hP 0 rfl rfl 0 (by decide) (hts (.fieldLink RX11 10 "SkimmedSons" "page" "LSkimmedSons$Page;") (by decide +kernel)) (fun _ h9 => h9) rfl dX11_letter_38 ?_
        have hPm := zp_perm hP (zblk (show List.Perm ([WX0 X ad st ca, Wpage X (ad 1) (ad 2) (pn + 1) px py pt (updZ f pn.toNat z)] : List va_W) ([Wpage X (ad 1) (ad 2) (pn + 1) px py pt (updZ f pn.toNat z)] ++ [WX0 X ad st ca]) from (zf1 _ 1 _ rfl).trans ((List.Perm.refl _).cons _)))
        have hDm := zd_perm hD (zblk (show List.Perm ([WX0 X ad st ca, Wpage X (ad 1) (ad 2) (pn + 1) px py pt (updZ f pn.toNat z)] : List va_W) ([Wpage X (ad 1) (ad 2) (pn + 1) px py pt (updZ f pn.toNat z)] ++ [WX0 X ad st ca]) from (zf1 _ 1 _ rfl).trans ((List.Perm.refl _).cons _)))
        refine z_callV (wr := zb [WX0 X ad st ca]) (As := []) (rest := []) ⟨hx, hb, hml, hown, hts⟩ (c_X3_size l X (ad 1) (ad 2) (pn + 1) px py pt (updZ f pn.toNat z) ) (cwV 0 hts gX11_letter_X3_size rfl rfl rfl (by decide +kernel) ⟨Nat.le_of_ble_eq_true rfl, Nat.le_of_ble_eq_true rfl⟩) rfl rfl hl.1 dX11_letter_41 rfl rfl (Nat.le_of_ble_eq_true rfl) ⟨Nat.le_of_ble_eq_true rfl, Nat.le_of_ble_eq_true rfl⟩ hS hA hK hPm hDm (fun _ H locs _ hP hD hS => ?_)
        have hP := zp_perm hP ((zblk (show List.Perm ([WX0 X ad st ca, Wpage X (ad 1) (ad 2) (pn + 1) px py pt (updZ f pn.toNat z)] : List va_W) ([Wpage X (ad 1) (ad 2) (pn + 1) px py pt (updZ f pn.toNat z)] ++ [WX0 X ad st ca]) from (zf1 _ 1 _ rfl).trans ((List.Perm.refl _).cons _)))).symm
        have hD := zd_perm hD ((zblk (show List.Perm ([WX0 X ad st ca, Wpage X (ad 1) (ad 2) (pn + 1) px py pt (updZ f pn.toNat z)] : List va_W) ([Wpage X (ad 1) (ad 2) (pn + 1) px py pt (updZ f pn.toNat z)] ++ [WX0 X ad st ca]) from (zf1 _ 1 _ rfl).trans ((List.Perm.refl _).cons _)))).symm
        have hP : va_P X.1 vwCl (zb [WX0 X ad st ca, Wpage X (ad 1) (ad 2) (pn + 1) px py pt (updZ f pn.toNat z)]) H := hP
        have hD : va_D A (zb [WX0 X ad st ca, Wpage X (ad 1) (ad 2) (pn + 1) px py pt (updZ f pn.toNat z)]) := hD
        refine W.eq (g2 := F0 m 44 ls [.int (iI (pn + 1))]) rfl ?_
        have hw : zb [WX0 X ad st ca, Wpage X (ad 1) (ad 2) (pn + 1) px py pt (updZ f pn.toNat z)] = zb [WX0 X ad st ca, Wpage X (ad 1) (ad 2) (letterN pn z) px py pt (letterF pn z f)] := by unfold letterN letterF; (repeat (first | rw [if_pos (by omega)] | rw [if_neg (by omega)]))
        rw [hw] at hP hD
        exact z_iret hQ hx hb hr hlocks hS ⟨Nat.le_of_ble_eq_true rfl, Nat.le_of_ble_eq_true rfl⟩ dX11_letter_44 () (congrArg (fun z => some (Value.int (iI z))) (show (letterR pn z : Int) = (pn + 1) by unfold letterR; omega)) trivial hP hD
      · skip
        refine lv_bipush (v := iI (-104)) hx hb dX11_letter_25 (by decide) ?_
        have hw : zb [WX0 X ad st ca, Wpage X (ad 1) (ad 2) pn px py pt f] = zb [WX0 X ad st ca, Wpage X (ad 1) (ad 2) (letterN pn z) px py pt (letterF pn z f)] := by unfold letterN letterF; (repeat (first | rw [if_pos (by omega)] | rw [if_neg (by omega)]))
        rw [hw] at hP hD
        exact z_iret hQ hx hb hr hlocks hS ⟨Nat.le_of_ble_eq_true rfl, Nat.le_of_ble_eq_true rfl⟩ dX11_letter_27 () (congrArg (fun z => some (Value.int (iI z))) (show (letterR pn z : Int) = (-104) by unfold letterR; omega)) trivial hP hD
    · skip
      refine lv_bipush (v := iI (-102)) hx hb dX11_letter_12 (by decide) ?_
      have hw : zb [WX0 X ad st ca, Wpage X (ad 1) (ad 2) pn px py pt f] = zb [WX0 X ad st ca, Wpage X (ad 1) (ad 2) (letterN pn z) px py pt (letterF pn z f)] := by unfold letterN letterF; (repeat (first | rw [if_pos (by omega)] | rw [if_neg (by omega)]))
      rw [hw] at hP hD
      exact z_iret hQ hx hb hr hlocks hS ⟨Nat.le_of_ble_eq_true rfl, Nat.le_of_ble_eq_true rfl⟩ dX11_letter_14 () (congrArg (fun z => some (Value.int (iI z))) (show (letterR pn z : Int) = (-102) by unfold letterR; omega)) trivial hP hD
set_option maxHeartbeats 1000000 in
set_option maxRecDepth 100000 in
theorem c_X11_blank (l : Launch) (X : zX) (ad : Nat → Nat) (st : Nat → Int) (ca : Nat → Option Nat) (pn : Int) (px : Int) (py : Int) (pt : Int) (f : Nat → Int)  : zF l X yX11_blank wsX11_blank 1 21 [.ref (ad 0)] (zb [WX0 X ad st ca, Wpage X (ad 1) (ad 2) pn px py pt f]) (some (.int (iI pn))) (zb [WX0 X ad st ca, Wpage X (ad 1) (ad 2) 0 px py pt f]) := by
  refine z_enter (cc := cX11_blank) (maxL := 1) (ret := (some .int)) (by decide) rfl (Nat.le_of_ble_eq_true rfl) ?_
  intro p e s m below meth c A ls Q hQ hE hl hP hD
  obtain ⟨hx, hb, hr, hml, hown, hts, hlocks, hnm, hA, hK⟩ := hE
  have hown : s.vm.findClass RX11 = some m.cls := hown
  have hS : va_S A s.heap s.heap [] := va_S.rf
  have hl : lv_has ls 1 [(0, .ref (ad 0))] := hl
  have inX11 : ∀ w ∈ u_ws RX11 TX11 16, w ∈ wsX11_blank := by decide +kernel
  refine lv_aload_n hx hb dX11_blank_0 rfl (lv_at hl 0 rfl) ?_
  refine va_get (ci := 11) (v := .ref (ad 1)) (C := RX11) (T := TX11) (N := 16) hx hb hts inX11 hown hK.1 hP 0 rfl rfl 0 (by decide) (hts (.fieldLink RX11 10 "SkimmedSons" "page" "LSkimmedSons$Page;") (by decide +kernel)) (fun _ h9 => h9) rfl dX11_blank_1 ?_
  have hPm := zp_perm hP (zblk (show List.Perm ([WX0 X ad st ca, Wpage X (ad 1) (ad 2) pn px py pt f] : List va_W) ([Wpage X (ad 1) (ad 2) pn px py pt f] ++ [WX0 X ad st ca]) from (zf1 _ 1 _ rfl).trans ((List.Perm.refl _).cons _)))
  have hDm := zd_perm hD (zblk (show List.Perm ([WX0 X ad st ca, Wpage X (ad 1) (ad 2) pn px py pt f] : List va_W) ([Wpage X (ad 1) (ad 2) pn px py pt f] ++ [WX0 X ad st ca]) from (zf1 _ 1 _ rfl).trans ((List.Perm.refl _).cons _)))
  refine z_callV (wr := zb [WX0 X ad st ca]) (As := []) (rest := []) ⟨hx, hb, hml, hown, hts⟩ (c_X3_clear l X (ad 1) (ad 2) pn px py pt f ) (cwV 0 hts gX11_blank_X3_clear rfl rfl rfl (by decide +kernel) ⟨Nat.le_of_ble_eq_true rfl, Nat.le_of_ble_eq_true rfl⟩) rfl rfl hl.1 dX11_blank_4 rfl rfl (Nat.le_of_ble_eq_true rfl) ⟨Nat.le_of_ble_eq_true rfl, Nat.le_of_ble_eq_true rfl⟩ hS hA hK hPm hDm (fun _ H locs _ hP hD hS => ?_)
  have hP := zp_perm hP ((zblk (show List.Perm ([WX0 X ad st ca, Wpage X (ad 1) (ad 2) 0 px py pt f] : List va_W) ([Wpage X (ad 1) (ad 2) 0 px py pt f] ++ [WX0 X ad st ca]) from (zf1 _ 1 _ rfl).trans ((List.Perm.refl _).cons _)))).symm
  have hD := zd_perm hD ((zblk (show List.Perm ([WX0 X ad st ca, Wpage X (ad 1) (ad 2) 0 px py pt f] : List va_W) ([Wpage X (ad 1) (ad 2) 0 px py pt f] ++ [WX0 X ad st ca]) from (zf1 _ 1 _ rfl).trans ((List.Perm.refl _).cons _)))).symm
  have hP : va_P X.1 vwCl (zb [WX0 X ad st ca, Wpage X (ad 1) (ad 2) 0 px py pt f]) H := hP
  have hD : va_D A (zb [WX0 X ad st ca, Wpage X (ad 1) (ad 2) 0 px py pt f]) := hD
  refine W.eq (g2 := F0 m 7 ls [.int (iI pn)]) rfl ?_
  exact z_iret hQ hx hb hr hlocks hS ⟨Nat.le_of_ble_eq_true rfl, Nat.le_of_ble_eq_true rfl⟩ dX11_blank_7 () rfl trivial hP hD
set_option maxHeartbeats 1000000 in
set_option maxRecDepth 100000 in
theorem c_X11_fault (l : Launch) (X : zX) (ad : Nat → Nat) (st : Nat → Int) (ca : Nat → Option Nat) (pn : Int) (px : Int) (py : Int) (pt : Int) (f : Nat → Int) (hs : PageB pn f) : zF l X yX11_fault wsX11_fault 6 149 [.ref (ad 0)] (zb [WX0 X ad st ca, Wpage X (ad 1) (ad 2) pn px py pt f]) (some (.int (iI ((scanP f pn.toNat 0 0 0 0).1)))) (zb [WX0 X ad st ca, Wpage X (ad 1) (ad 2) pn ((scanP f pn.toNat 0 0 0 0).2.1) ((scanP f pn.toNat 0 0 0 0).2.2.1) ((scanP f pn.toNat 0 0 0 0).2.2.2) f]) := by
  refine z_enter (cc := cX11_fault) (maxL := 1) (ret := (some .int)) (by decide) rfl (Nat.le_of_ble_eq_true rfl) ?_
  intro p e s m below meth c A ls Q hQ hE hl hP hD
  obtain ⟨hx, hb, hr, hml, hown, hts, hlocks, hnm, hA, hK⟩ := hE
  have hown : s.vm.findClass RX11 = some m.cls := hown
  have hS : va_S A s.heap s.heap [] := va_S.rf
  have hl : lv_has ls 1 [(0, .ref (ad 0))] := hl
  have inX11 : ∀ w ∈ u_ws RX11 TX11 16, w ∈ wsX11_fault := by decide +kernel
  refine lv_aload_n hx hb dX11_fault_0 rfl (lv_at hl 0 rfl) ?_
  refine va_get (ci := 11) (v := .ref (ad 1)) (C := RX11) (T := TX11) (N := 16) hx hb hts inX11 hown hK.1 hP 0 rfl rfl 0 (by decide) (hts (.fieldLink RX11 10 "SkimmedSons" "page" "LSkimmedSons$Page;") (by decide +kernel)) (fun _ h9 => h9) rfl dX11_fault_1 ?_
  have hPm := zp_perm hP (zblk (show List.Perm ([WX0 X ad st ca, Wpage X (ad 1) (ad 2) pn px py pt f] : List va_W) ([Wpage X (ad 1) (ad 2) pn px py pt f] ++ [WX0 X ad st ca]) from (zf1 _ 1 _ rfl).trans ((List.Perm.refl _).cons _)))
  have hDm := zd_perm hD (zblk (show List.Perm ([WX0 X ad st ca, Wpage X (ad 1) (ad 2) pn px py pt f] : List va_W) ([Wpage X (ad 1) (ad 2) pn px py pt f] ++ [WX0 X ad st ca]) from (zf1 _ 1 _ rfl).trans ((List.Perm.refl _).cons _)))
  refine z_callV (wr := zb [WX0 X ad st ca]) (As := []) (rest := []) ⟨hx, hb, hml, hown, hts⟩ (c_X3_firstWrong l X (ad 1) (ad 2) pn px py pt f (by exact hs)) (cwV 0 hts gX11_fault_X3_firstWrong rfl rfl rfl (by decide +kernel) ⟨Nat.le_of_ble_eq_true rfl, Nat.le_of_ble_eq_true rfl⟩) rfl rfl hl.1 dX11_fault_4 rfl rfl (Nat.le_of_ble_eq_true rfl) ⟨Nat.le_of_ble_eq_true rfl, Nat.le_of_ble_eq_true rfl⟩ hS hA hK hPm hDm (fun _ H locs _ hP hD hS => ?_)
  have hP := zp_perm hP ((zblk (show List.Perm ([WX0 X ad st ca, Wpage X (ad 1) (ad 2) pn ((scanP f pn.toNat 0 0 0 0).2.1) ((scanP f pn.toNat 0 0 0 0).2.2.1) ((scanP f pn.toNat 0 0 0 0).2.2.2) f] : List va_W) ([Wpage X (ad 1) (ad 2) pn ((scanP f pn.toNat 0 0 0 0).2.1) ((scanP f pn.toNat 0 0 0 0).2.2.1) ((scanP f pn.toNat 0 0 0 0).2.2.2) f] ++ [WX0 X ad st ca]) from (zf1 _ 1 _ rfl).trans ((List.Perm.refl _).cons _)))).symm
  have hD := zd_perm hD ((zblk (show List.Perm ([WX0 X ad st ca, Wpage X (ad 1) (ad 2) pn ((scanP f pn.toNat 0 0 0 0).2.1) ((scanP f pn.toNat 0 0 0 0).2.2.1) ((scanP f pn.toNat 0 0 0 0).2.2.2) f] : List va_W) ([Wpage X (ad 1) (ad 2) pn ((scanP f pn.toNat 0 0 0 0).2.1) ((scanP f pn.toNat 0 0 0 0).2.2.1) ((scanP f pn.toNat 0 0 0 0).2.2.2) f] ++ [WX0 X ad st ca]) from (zf1 _ 1 _ rfl).trans ((List.Perm.refl _).cons _)))).symm
  have hP : va_P X.1 vwCl (zb [WX0 X ad st ca, Wpage X (ad 1) (ad 2) pn ((scanP f pn.toNat 0 0 0 0).2.1) ((scanP f pn.toNat 0 0 0 0).2.2.1) ((scanP f pn.toNat 0 0 0 0).2.2.2) f]) H := hP
  have hD : va_D A (zb [WX0 X ad st ca, Wpage X (ad 1) (ad 2) pn ((scanP f pn.toNat 0 0 0 0).2.1) ((scanP f pn.toNat 0 0 0 0).2.2.1) ((scanP f pn.toNat 0 0 0 0).2.2.2) f]) := hD
  refine W.eq (g2 := F0 m 7 ls [.int (iI ((scanP f pn.toNat 0 0 0 0).1))]) rfl ?_
  exact z_iret hQ hx hb hr hlocks hS ⟨Nat.le_of_ble_eq_true rfl, Nat.le_of_ble_eq_true rfl⟩ dX11_fault_7 () rfl trivial hP hD
set_option maxHeartbeats 1000000 in
set_option maxRecDepth 100000 in
theorem c_X11_hour (l : Launch) (X : zX) (ad : Nat → Nat) (st : Nat → Int) (ca : Nat → Option Nat) (aq : Nat → Nat → Nat) (n : Int) (pv : Nat → Nat → Int) (hn : 0 ≤ n ∧ n ≤ 3) (hpv : PanS pv) (hst : (0 ≤ st 6 ∧ st 6 ≤ 1000) ∧ (0 ≤ st 4 ∧ st 4 ≤ 999)) : zF l X yX11_hour wsX11_hour 3 82 [.ref (ad 0)] (zb [WX0 X ad st ca, Wshelf X (ad 3) (ad 4) (aq 0) n pv]) (some (.int (iI (hourR (st 6) (st 4))))) (zb [WX0 X ad (updZ st 4 (hourU (st 6) (st 4))) ca, Wshelf X (ad 3) (ad 4) (aq 0) n (hourV (st 6) (st 4) n pv)]) := by
  refine z_enter (cc := cX11_hour) (maxL := 1) (ret := (some .int)) (by decide) rfl (Nat.le_of_ble_eq_true rfl) ?_
  intro p e s m below meth c A ls Q hQ hE hl hP hD
  obtain ⟨hx, hb, hr, hml, hown, hts, hlocks, hnm, hA, hK⟩ := hE
  have hown : s.vm.findClass RX11 = some m.cls := hown
  have hS : va_S A s.heap s.heap [] := va_S.rf
  have hl : lv_has ls 1 [(0, .ref (ad 0))] := hl
  have inX11 : ∀ w ∈ u_ws RX11 TX11 16, w ∈ wsX11_hour := by decide +kernel
  refine lv_aload_n hx hb dX11_hour_0 rfl (lv_at hl 0 rfl) ?_
  have hPm := zp_perm hP (zblk (show List.Perm ([WX0 X ad st ca, Wshelf X (ad 3) (ad 4) (aq 0) n pv] : List va_W) ([WX0 X ad st ca] ++ [Wshelf X (ad 3) (ad 4) (aq 0) n pv]) from (zf1 _ 0 _ rfl).trans ((List.Perm.refl _).cons _)))
  have hDm := zd_perm hD (zblk (show List.Perm ([WX0 X ad st ca, Wshelf X (ad 3) (ad 4) (aq 0) n pv] : List va_W) ([WX0 X ad st ca] ++ [Wshelf X (ad 3) (ad 4) (aq 0) n pv]) from (zf1 _ 0 _ rfl).trans ((List.Perm.refl _).cons _)))
  refine z_callV (wr := zb [Wshelf X (ad 3) (ad 4) (aq 0) n pv]) (As := []) (rest := []) ⟨hx, hb, hml, hown, hts⟩ (c_X11_hasDairy l X ad st ca (by omega)) (cwV 0 hts gX11_hour_X11_hasDairy rfl rfl rfl (by decide +kernel) ⟨Nat.le_of_ble_eq_true rfl, Nat.le_of_ble_eq_true rfl⟩) rfl rfl hl.1 dX11_hour_1 rfl rfl (Nat.le_of_ble_eq_true rfl) ⟨Nat.le_of_ble_eq_true rfl, Nat.le_of_ble_eq_true rfl⟩ hS hA hK hPm hDm (fun _ H locs _ hP hD hS => ?_)
  have hP := zp_perm hP ((zblk (show List.Perm ([WX0 X ad st ca, Wshelf X (ad 3) (ad 4) (aq 0) n pv] : List va_W) ([WX0 X ad st ca] ++ [Wshelf X (ad 3) (ad 4) (aq 0) n pv]) from (zf1 _ 0 _ rfl).trans ((List.Perm.refl _).cons _)))).symm
  have hD := zd_perm hD ((zblk (show List.Perm ([WX0 X ad st ca, Wshelf X (ad 3) (ad 4) (aq 0) n pv] : List va_W) ([WX0 X ad st ca] ++ [Wshelf X (ad 3) (ad 4) (aq 0) n pv]) from (zf1 _ 0 _ rfl).trans ((List.Perm.refl _).cons _)))).symm
  have hP : va_P X.1 vwCl (zb [WX0 X ad st ca, Wshelf X (ad 3) (ad 4) (aq 0) n pv]) H := hP
  have hD : va_D A (zb [WX0 X ad st ca, Wshelf X (ad 3) (ad 4) (aq 0) n pv]) := hD
  refine W.eq (g2 := F0 m 4 ls [.int (iI (if st 6 ≤ 0 then 0 else 1))]) rfl ?_
  refine z_if_ne (tgt := 10) hx hb (by omega) dX11_hour_4 (by decide) (fun c_1 => ?_) (fun c_1 => ?_)
  · skip
    refine lv_aload_n hx hb dX11_hour_10 rfl (lv_at hl 0 rfl) ?_
    refine va_get (ci := 11) (v := .int (iI (st 4))) (C := RX11) (T := TX11) (N := 16) hx hb hts inX11 hown hK.1 hP 0 rfl rfl 4 (by decide) (hts (.fieldLink RX11 93 "SkimmedSons" "hoursPassed" "I") (by decide +kernel)) (fun _ h9 => h9) rfl dX11_hour_11 ?_
    refine lv_sipush (v := iI 999) hx hb dX11_hour_14 (by decide) ?_
    refine z_icmp_lt (tgt := 23) hx hb (by omega) dX11_hour_17 (by decide) (fun c_2 => ?_) (fun c_2 => ?_)
    · skip
      refine lv_aload_n hx hb dX11_hour_23 rfl (lv_at hl 0 rfl) ?_
      refine va_get (ci := 11) (v := .ref (ad 3)) (C := RX11) (T := TX11) (N := 16) hx hb hts inX11 hown hK.1 hP 0 rfl rfl 1 (by decide) (hts (.fieldLink RX11 19 "SkimmedSons" "shelf" "LSkimmedSons$Shelf;") (by decide +kernel)) (fun _ h9 => h9) rfl dX11_hour_24 ?_
      have hPm := zp_perm hP (zblk (show List.Perm ([WX0 X ad st ca, Wshelf X (ad 3) (ad 4) (aq 0) n pv] : List va_W) ([Wshelf X (ad 3) (ad 4) (aq 0) n pv] ++ [WX0 X ad st ca]) from (zf1 _ 1 _ rfl).trans ((List.Perm.refl _).cons _)))
      have hDm := zd_perm hD (zblk (show List.Perm ([WX0 X ad st ca, Wshelf X (ad 3) (ad 4) (aq 0) n pv] : List va_W) ([Wshelf X (ad 3) (ad 4) (aq 0) n pv] ++ [WX0 X ad st ca]) from (zf1 _ 1 _ rfl).trans ((List.Perm.refl _).cons _)))
      refine z_callV (wr := zb [WX0 X ad st ca]) (As := []) (rest := []) ⟨hx, hb, hml, hown, hts⟩ (c_X7_standHour l X (ad 3) (ad 4) (aq 0) n pv (by omega) (by exact hpv)) (cwV 0 hts gX11_hour_X7_standHour rfl rfl rfl (by decide +kernel) ⟨Nat.le_of_ble_eq_true rfl, Nat.le_of_ble_eq_true rfl⟩) rfl rfl hl.1 dX11_hour_27 rfl rfl (Nat.le_of_ble_eq_true rfl) ⟨Nat.le_of_ble_eq_true rfl, Nat.le_of_ble_eq_true rfl⟩ hS hA hK hPm hDm (fun _ H locs _ hP hD hS => ?_)
      have hP := zp_perm hP ((zblk (show List.Perm ([WX0 X ad st ca, Wshelf X (ad 3) (ad 4) (aq 0) n (catTo (fun j => hourP (pv j)) pv n.toNat)] : List va_W) ([Wshelf X (ad 3) (ad 4) (aq 0) n (catTo (fun j => hourP (pv j)) pv n.toNat)] ++ [WX0 X ad st ca]) from (zf1 _ 1 _ rfl).trans ((List.Perm.refl _).cons _)))).symm
      have hD := zd_perm hD ((zblk (show List.Perm ([WX0 X ad st ca, Wshelf X (ad 3) (ad 4) (aq 0) n (catTo (fun j => hourP (pv j)) pv n.toNat)] : List va_W) ([Wshelf X (ad 3) (ad 4) (aq 0) n (catTo (fun j => hourP (pv j)) pv n.toNat)] ++ [WX0 X ad st ca]) from (zf1 _ 1 _ rfl).trans ((List.Perm.refl _).cons _)))).symm
      have hP : va_P X.1 vwCl (zb [WX0 X ad st ca, Wshelf X (ad 3) (ad 4) (aq 0) n (catTo (fun j => hourP (pv j)) pv n.toNat)]) H := hP
      have hD : va_D A (zb [WX0 X ad st ca, Wshelf X (ad 3) (ad 4) (aq 0) n (catTo (fun j => hourP (pv j)) pv n.toNat)]) := hD
      refine W.eq (g2 := F0 m 30 ls []) rfl ?_
      refine lv_aload_n hx hb dX11_hour_30 rfl (lv_at hl 0 rfl) ?_
      refine lv_dup hx hb dX11_hour_31 rfl ?_
      refine va_get (ci := 11) (v := .int (iI (st 4))) (C := RX11) (T := TX11) (N := 16) hx hb hts inX11 hown hK.1 hP 0 rfl rfl 4 (by decide) (hts (.fieldLink RX11 93 "SkimmedSons" "hoursPassed" "I") (by decide +kernel)) (fun _ h9 => h9) rfl dX11_hour_32 ?_
      refine lv_iconst (v := iI 1) hx hb dX11_hour_35 (by decide) ?_
      refine z_iadd hx hb dX11_hour_36 ?_
      refine z_topi (fun z_3 ez_3 => ?_)
      refine va_put (ci := 11) (v := .int (iI z_3)) (ty := .int) (C := RX11) (T := TX11) (N := 16) hx hb hts inX11 tyX11 tyX11_ok nmX11 hown hK.1 hP hD hS 0 rfl rfl 4 (by decide) (hts (.fieldLink RX11 93 "SkimmedSons" "hoursPassed" "I") (by decide +kernel)) (fun _ h9 => h9) rfl (by decide +kernel) rfl rfl (Nat.le_of_ble_eq_true rfl) dX11_hour_37 (fun H locs hP hD hS => ?_)
      have hP : va_P X.1 vwCl (zb [WX0 X ad (updZ st 4 z_3) ca, Wshelf X (ad 3) (ad 4) (aq 0) n (catTo (fun j => hourP (pv j)) pv n.toNat)]) H := hP
      have hD : va_D A (zb [WX0 X ad (updZ st 4 z_3) ca, Wshelf X (ad 3) (ad 4) (aq 0) n (catTo (fun j => hourP (pv j)) pv n.toNat)]) := hD
      refine lv_aload_n hx hb dX11_hour_40 rfl (lv_at hl 0 rfl) ?_
      refine va_get (ci := 11) (v := .int (iI z_3)) (C := RX11) (T := TX11) (N := 16) hx hb hts inX11 hown hK.1 hP 0 rfl rfl 4 (by decide) (hts (.fieldLink RX11 93 "SkimmedSons" "hoursPassed" "I") (by decide +kernel)) (fun _ h9 => h9) rfl dX11_hour_41 ?_
      have hw : zb [WX0 X ad (updZ st 4 z_3) ca, Wshelf X (ad 3) (ad 4) (aq 0) n (catTo (fun j => hourP (pv j)) pv n.toNat)] = zb [WX0 X ad (updZ st 4 (hourU (st 6) (st 4))) ca, Wshelf X (ad 3) (ad 4) (aq 0) n (hourV (st 6) (st 4) n pv)] := by unfold hourU hourV wtS; (repeat (first | rw [if_pos (by omega)] | rw [if_neg (by omega)])); first | done | (subst_vars; rfl) | (rw [show updZ st 4 (st 4) = st from by funext j; unfold updZ; split; (rename_i q; rw [q]); rfl])
      rw [hw] at hP hD
      exact z_iret hQ hx hb hr hlocks hS ⟨Nat.le_of_ble_eq_true rfl, Nat.le_of_ble_eq_true rfl⟩ dX11_hour_44 () (congrArg (fun z => some (Value.int (iI z))) (show (hourR (st 6) (st 4) : Int) = z_3 by unfold hourR; omega)) trivial hP hD
    · skip
      refine lv_bipush (v := iI (-104)) hx hb dX11_hour_20 (by decide) ?_
      have hw : zb [WX0 X ad st ca, Wshelf X (ad 3) (ad 4) (aq 0) n pv] = zb [WX0 X ad (updZ st 4 (hourU (st 6) (st 4))) ca, Wshelf X (ad 3) (ad 4) (aq 0) n (hourV (st 6) (st 4) n pv)] := by unfold hourU hourV wtS; (repeat (first | rw [if_pos (by omega)] | rw [if_neg (by omega)])); first | done | (subst_vars; rfl) | (rw [show updZ st 4 (st 4) = st from by funext j; unfold updZ; split; (rename_i q; rw [q]); rfl])
      rw [hw] at hP hD
      exact z_iret hQ hx hb hr hlocks hS ⟨Nat.le_of_ble_eq_true rfl, Nat.le_of_ble_eq_true rfl⟩ dX11_hour_22 () (congrArg (fun z => some (Value.int (iI z))) (show (hourR (st 6) (st 4) : Int) = (-104) by unfold hourR; omega)) trivial hP hD
  · skip
    refine lv_bipush (v := iI (-103)) hx hb dX11_hour_7 (by decide) ?_
    have hw : zb [WX0 X ad st ca, Wshelf X (ad 3) (ad 4) (aq 0) n pv] = zb [WX0 X ad (updZ st 4 (hourU (st 6) (st 4))) ca, Wshelf X (ad 3) (ad 4) (aq 0) n (hourV (st 6) (st 4) n pv)] := by unfold hourU hourV wtS; (repeat (first | rw [if_pos (by omega)] | rw [if_neg (by omega)])); first | done | (subst_vars; rfl) | (rw [show updZ st 4 (st 4) = st from by funext j; unfold updZ; split; (rename_i q; rw [q]); rfl])
    rw [hw] at hP hD
    exact z_iret hQ hx hb hr hlocks hS ⟨Nat.le_of_ble_eq_true rfl, Nat.le_of_ble_eq_true rfl⟩ dX11_hour_9 () (congrArg (fun z => some (Value.int (iI z))) (show (hourR (st 6) (st 4) : Int) = (-103) by unfold hourR; omega)) trivial hP hD
set_option maxHeartbeats 1000000 in
set_option maxRecDepth 100000 in
theorem c_X11_stir (l : Launch) (X : zX) (ad : Nat → Nat) (st : Nat → Int) (ca : Nat → Option Nat) (aq : Nat → Nat → Nat) (n : Int) (pv : Nat → Nat → Int) (z : Int) (hn : 0 ≤ n ∧ n ≤ 3) (hpv : PanS pv) (hrz : -2147483648 ≤ z ∧ z < 2147483648) : zF l X yX11_stir wsX11_stir 1 21 [.ref (ad 0), .int (iI z)] (zb [WX0 X ad st ca, Wshelf X (ad 3) (ad 4) (aq 0) n pv]) (some (.int (iI (stirR n z pv)))) (zb [WX0 X ad st ca, Wshelf X (ad 3) (ad 4) (aq 0) n (stirV n z pv)]) := by
  refine z_enter (cc := cX11_stir) (maxL := 3) (ret := (some .int)) (by decide) rfl (Nat.le_of_ble_eq_true rfl) ?_
  intro p e s m below meth c A ls Q hQ hE hl hP hD
  obtain ⟨hx, hb, hr, hml, hown, hts, hlocks, hnm, hA, hK⟩ := hE
  have hown : s.vm.findClass RX11 = some m.cls := hown
  have hS : va_S A s.heap s.heap [] := va_S.rf
  have hl : lv_has ls 3 [(0, .ref (ad 0)), (1, .int (iI z))] := hl
  have inX11 : ∀ w ∈ u_ws RX11 TX11 16, w ∈ wsX11_stir := by decide +kernel
  have inX4 : ∀ w ∈ u_ws RX4 TX4 6, w ∈ wsX11_stir := by decide +kernel
  rcases (show (0 ≤ z ∧ z < n) ∨ (z < 0 ∨ n ≤ z) by omega) with hz | hz
  · skip
    refine lv_aload_n hx hb dX11_stir_0 rfl (lv_at hl 0 rfl) ?_
    refine va_get (ci := 11) (v := .ref (ad 3)) (C := RX11) (T := TX11) (N := 16) hx hb hts inX11 hown hK.1 hP 0 rfl rfl 1 (by decide) (hts (.fieldLink RX11 19 "SkimmedSons" "shelf" "LSkimmedSons$Shelf;") (by decide +kernel)) (fun _ h9 => h9) rfl dX11_stir_1 ?_
    refine lv_iload_n hx hb dX11_stir_4 rfl (lv_at hl 1 rfl) ?_
    have hPm := zp_perm hP (zblk (show List.Perm ([WX0 X ad st ca, Wshelf X (ad 3) (ad 4) (aq 0) n pv] : List va_W) ([Wshelf X (ad 3) (ad 4) (aq 0) n pv] ++ [WX0 X ad st ca]) from (zf1 _ 1 _ rfl).trans ((List.Perm.refl _).cons _)))
    have hDm := zd_perm hD (zblk (show List.Perm ([WX0 X ad st ca, Wshelf X (ad 3) (ad 4) (aq 0) n pv] : List va_W) ([Wshelf X (ad 3) (ad 4) (aq 0) n pv] ++ [WX0 X ad st ca]) from (zf1 _ 1 _ rfl).trans ((List.Perm.refl _).cons _)))
    refine z_callV (wr := zb [WX0 X ad st ca]) (As := [.int (iI z)]) (rest := []) ⟨hx, hb, hml, hown, hts⟩ (c_X7_at_s l X (ad 3) (ad 4) (aq 0) n pv z (by omega) (by omega)) (cwV 1 hts gX11_stir_X7_at rfl rfl rfl (by decide +kernel) ⟨Nat.le_of_ble_eq_true rfl, Nat.le_of_ble_eq_true rfl⟩) rfl rfl hl.1 dX11_stir_5 rfl rfl (Nat.le_of_ble_eq_true rfl) ⟨Nat.le_of_ble_eq_true rfl, Nat.le_of_ble_eq_true rfl⟩ hS hA hK hPm hDm (fun _ H locs _ hP hD hS => ?_)
    have hP := zp_perm hP ((zblk (show List.Perm ([WX0 X ad st ca, Wshelf X (ad 3) (ad 4) (aq 0) n pv] : List va_W) ([Wshelf X (ad 3) (ad 4) (aq 0) n pv] ++ [WX0 X ad st ca]) from (zf1 _ 1 _ rfl).trans ((List.Perm.refl _).cons _)))).symm
    have hD := zd_perm hD ((zblk (show List.Perm ([WX0 X ad st ca, Wshelf X (ad 3) (ad 4) (aq 0) n pv] : List va_W) ([Wshelf X (ad 3) (ad 4) (aq 0) n pv] ++ [WX0 X ad st ca]) from (zf1 _ 1 _ rfl).trans ((List.Perm.refl _).cons _)))).symm
    have hP : va_P X.1 vwCl (zb [WX0 X ad st ca, Wshelf X (ad 3) (ad 4) (aq 0) n pv]) H := hP
    have hD : va_D A (zb [WX0 X ad st ca, Wshelf X (ad 3) (ad 4) (aq 0) n pv]) := hD
    refine W.eq (g2 := F0 m 8 ls [.ref ((aq 0) z.toNat)]) rfl ?_
    refine lv_astore_n (lv' := [(2, .ref ((aq 0) z.toNat)), (0, .ref (ad 0)), (1, .int (iI z))]) hx hb dX11_stir_8 rfl hl (by decide) rfl (fun ls hl => ?_)
    refine lv_aload_n hx hb dX11_stir_9 rfl (lv_at hl 0 rfl) ?_
    refine lv_ifnonnull (tgt := 16) hx hb dX11_stir_10 (by decide) ?_
    refine lv_aload_n hx hb dX11_stir_16 rfl (lv_at hl 0 rfl) ?_
    have hP := zp_perm hP (show List.Perm (zb [WX0 X ad st ca, Wshelf X (ad 3) (ad 4) (aq 0) n pv]) (zb [WX0 X ad st ca, Wpan ((aq 0) z.toNat) (pv z.toNat), Wshx X (ad 3) (ad 4) (aq 0) n pv z.toNat]) from zrep (pre := [WX0 X ad st ca]) (post := []) (bs := [Wshelf X (ad 3) (ad 4) (aq 0) n pv]) (cs := [Wpan ((aq 0) z.toNat) (pv z.toNat), Wshx X (ad 3) (ad 4) (aq 0) n pv z.toNat]) (by rw [zb1]; exact shelf_foc (by omega)))
    have hD := zd_perm hD (show List.Perm (zb [WX0 X ad st ca, Wshelf X (ad 3) (ad 4) (aq 0) n pv]) (zb [WX0 X ad st ca, Wpan ((aq 0) z.toNat) (pv z.toNat), Wshx X (ad 3) (ad 4) (aq 0) n pv z.toNat]) from zrep (pre := [WX0 X ad st ca]) (post := []) (bs := [Wshelf X (ad 3) (ad 4) (aq 0) n pv]) (cs := [Wpan ((aq 0) z.toNat) (pv z.toNat), Wshx X (ad 3) (ad 4) (aq 0) n pv z.toNat]) (by rw [zb1]; exact shelf_foc (by omega)))
    have hPm := zp_perm hP (zblk (show List.Perm ([WX0 X ad st ca, Wpan ((aq 0) z.toNat) (pv z.toNat), Wshx X (ad 3) (ad 4) (aq 0) n pv z.toNat] : List va_W) ([Wpan ((aq 0) z.toNat) (pv z.toNat)] ++ [WX0 X ad st ca, Wshx X (ad 3) (ad 4) (aq 0) n pv z.toNat]) from (zf1 _ 1 _ rfl).trans ((List.Perm.refl _).cons _)))
    have hDm := zd_perm hD (zblk (show List.Perm ([WX0 X ad st ca, Wpan ((aq 0) z.toNat) (pv z.toNat), Wshx X (ad 3) (ad 4) (aq 0) n pv z.toNat] : List va_W) ([Wpan ((aq 0) z.toNat) (pv z.toNat)] ++ [WX0 X ad st ca, Wshx X (ad 3) (ad 4) (aq 0) n pv z.toNat]) from (zf1 _ 1 _ rfl).trans ((List.Perm.refl _).cons _)))
    refine z_callV (wr := zb [WX0 X ad st ca, Wshx X (ad 3) (ad 4) (aq 0) n pv z.toNat]) (As := []) (rest := []) ⟨hx, hb, hml, hown, hts⟩ (c_X4_mix l X ((aq 0) z.toNat) (pv z.toNat) ) (cwV 0 hts gX11_stir_X4_mix rfl rfl rfl (by decide +kernel) ⟨Nat.le_of_ble_eq_true rfl, Nat.le_of_ble_eq_true rfl⟩) rfl rfl hl.1 dX11_stir_17 rfl rfl (Nat.le_of_ble_eq_true rfl) ⟨Nat.le_of_ble_eq_true rfl, Nat.le_of_ble_eq_true rfl⟩ hS hA hK hPm hDm (fun _ H locs _ hP hD hS => ?_)
    have hP := zp_perm hP ((zblk (show List.Perm ([WX0 X ad st ca, Wpan ((aq 0) z.toNat) (mixP (pv z.toNat)), Wshx X (ad 3) (ad 4) (aq 0) n pv z.toNat] : List va_W) ([Wpan ((aq 0) z.toNat) (mixP (pv z.toNat))] ++ [WX0 X ad st ca, Wshx X (ad 3) (ad 4) (aq 0) n pv z.toNat]) from (zf1 _ 1 _ rfl).trans ((List.Perm.refl _).cons _)))).symm
    have hD := zd_perm hD ((zblk (show List.Perm ([WX0 X ad st ca, Wpan ((aq 0) z.toNat) (mixP (pv z.toNat)), Wshx X (ad 3) (ad 4) (aq 0) n pv z.toNat] : List va_W) ([Wpan ((aq 0) z.toNat) (mixP (pv z.toNat))] ++ [WX0 X ad st ca, Wshx X (ad 3) (ad 4) (aq 0) n pv z.toNat]) from (zf1 _ 1 _ rfl).trans ((List.Perm.refl _).cons _)))).symm
    have hP : va_P X.1 vwCl (zb [WX0 X ad st ca, Wpan ((aq 0) z.toNat) (mixP (pv z.toNat)), Wshx X (ad 3) (ad 4) (aq 0) n pv z.toNat]) H := hP
    have hD : va_D A (zb [WX0 X ad st ca, Wpan ((aq 0) z.toNat) (mixP (pv z.toNat)), Wshx X (ad 3) (ad 4) (aq 0) n pv z.toNat]) := hD
    refine W.eq (g2 := F0 m 20 ls []) rfl ?_
    refine lv_aload_n hx hb dX11_stir_20 rfl (lv_at hl 0 rfl) ?_
    refine va_getN (ci := 4) (v := .int (iI ((mixP (pv z.toNat)) 2))) (C := RX4) (T := TX4) (N := 6) hx hb hts inX4 hown hK.1 hP 2 rfl rfl 2 (by decide) (va_Nw.use rfl (hK.2.2.2.2.2.2.1 ("SkimmedSons", 240, "SkimmedSons$Pan", "fat", "I", "SkimmedSons") (by decide))) (fun _ h9 => h9) rfl dX11_stir_21 ?_
    have hP := zp_perm hP (show List.Perm (zb [WX0 X ad st ca, Wpan ((aq 0) z.toNat) (mixP (pv z.toNat)), Wshx X (ad 3) (ad 4) (aq 0) n pv z.toNat]) (zb [WX0 X ad st ca, Wshelf X (ad 3) (ad 4) (aq 0) n (va_up pv z.toNat (mixP (pv z.toNat)))]) from zrep (pre := [WX0 X ad st ca]) (post := []) (bs := [Wpan ((aq 0) z.toNat) (mixP (pv z.toNat)), Wshx X (ad 3) (ad 4) (aq 0) n pv z.toNat]) (cs := [Wshelf X (ad 3) (ad 4) (aq 0) n (va_up pv z.toNat (mixP (pv z.toNat)))]) (by rw [zb1]; exact shelf_unf (by omega) _))
    have hD := zd_perm hD (show List.Perm (zb [WX0 X ad st ca, Wpan ((aq 0) z.toNat) (mixP (pv z.toNat)), Wshx X (ad 3) (ad 4) (aq 0) n pv z.toNat]) (zb [WX0 X ad st ca, Wshelf X (ad 3) (ad 4) (aq 0) n (va_up pv z.toNat (mixP (pv z.toNat)))]) from zrep (pre := [WX0 X ad st ca]) (post := []) (bs := [Wpan ((aq 0) z.toNat) (mixP (pv z.toNat)), Wshx X (ad 3) (ad 4) (aq 0) n pv z.toNat]) (cs := [Wshelf X (ad 3) (ad 4) (aq 0) n (va_up pv z.toNat (mixP (pv z.toNat)))]) (by rw [zb1]; exact shelf_unf (by omega) _))
    have hw : zb [WX0 X ad st ca, Wshelf X (ad 3) (ad 4) (aq 0) n (va_up pv z.toNat (mixP (pv z.toNat)))] = zb [WX0 X ad st ca, Wshelf X (ad 3) (ad 4) (aq 0) n (stirV n z pv)] := by unfold stirV; (repeat (first | rw [if_pos (by omega)] | rw [if_neg (by omega)]))
    rw [hw] at hP hD
    exact z_iret hQ hx hb hr hlocks hS ⟨Nat.le_of_ble_eq_true rfl, Nat.le_of_ble_eq_true rfl⟩ dX11_stir_24 () (congrArg (fun z => some (Value.int (iI z))) (show (stirR n z pv : Int) = (mixP (pv z.toNat)) 2 by unfold stirR; (repeat (first | rw [if_pos (by omega)] | rw [if_neg (by omega)])); first | done | rfl)) trivial hP hD
  · skip
    refine lv_aload_n hx hb dX11_stir_0 rfl (lv_at hl 0 rfl) ?_
    refine va_get (ci := 11) (v := .ref (ad 3)) (C := RX11) (T := TX11) (N := 16) hx hb hts inX11 hown hK.1 hP 0 rfl rfl 1 (by decide) (hts (.fieldLink RX11 19 "SkimmedSons" "shelf" "LSkimmedSons$Shelf;") (by decide +kernel)) (fun _ h9 => h9) rfl dX11_stir_1 ?_
    refine lv_iload_n hx hb dX11_stir_4 rfl (lv_at hl 1 rfl) ?_
    have hPm := zp_perm hP (zblk (show List.Perm ([WX0 X ad st ca, Wshelf X (ad 3) (ad 4) (aq 0) n pv] : List va_W) ([Wshelf X (ad 3) (ad 4) (aq 0) n pv] ++ [WX0 X ad st ca]) from (zf1 _ 1 _ rfl).trans ((List.Perm.refl _).cons _)))
    have hDm := zd_perm hD (zblk (show List.Perm ([WX0 X ad st ca, Wshelf X (ad 3) (ad 4) (aq 0) n pv] : List va_W) ([Wshelf X (ad 3) (ad 4) (aq 0) n pv] ++ [WX0 X ad st ca]) from (zf1 _ 1 _ rfl).trans ((List.Perm.refl _).cons _)))
    refine z_callV (wr := zb [WX0 X ad st ca]) (As := [.int (iI z)]) (rest := []) ⟨hx, hb, hml, hown, hts⟩ (c_X7_at_n l X (ad 3) (ad 4) (aq 0) n pv z (by omega) (by omega) (by omega)) (cwV 1 hts gX11_stir_X7_at rfl rfl rfl (by decide +kernel) ⟨Nat.le_of_ble_eq_true rfl, Nat.le_of_ble_eq_true rfl⟩) rfl rfl hl.1 dX11_stir_5 rfl rfl (Nat.le_of_ble_eq_true rfl) ⟨Nat.le_of_ble_eq_true rfl, Nat.le_of_ble_eq_true rfl⟩ hS hA hK hPm hDm (fun _ H locs _ hP hD hS => ?_)
    have hP := zp_perm hP ((zblk (show List.Perm ([WX0 X ad st ca, Wshelf X (ad 3) (ad 4) (aq 0) n pv] : List va_W) ([Wshelf X (ad 3) (ad 4) (aq 0) n pv] ++ [WX0 X ad st ca]) from (zf1 _ 1 _ rfl).trans ((List.Perm.refl _).cons _)))).symm
    have hD := zd_perm hD ((zblk (show List.Perm ([WX0 X ad st ca, Wshelf X (ad 3) (ad 4) (aq 0) n pv] : List va_W) ([Wshelf X (ad 3) (ad 4) (aq 0) n pv] ++ [WX0 X ad st ca]) from (zf1 _ 1 _ rfl).trans ((List.Perm.refl _).cons _)))).symm
    have hP : va_P X.1 vwCl (zb [WX0 X ad st ca, Wshelf X (ad 3) (ad 4) (aq 0) n pv]) H := hP
    have hD : va_D A (zb [WX0 X ad st ca, Wshelf X (ad 3) (ad 4) (aq 0) n pv]) := hD
    refine W.eq (g2 := F0 m 8 ls [.null]) rfl ?_
    refine lv_astore_nN (lv' := [(2, .null), (0, .ref (ad 0)), (1, .int (iI z))]) hx hb dX11_stir_8 rfl hl (by decide) rfl (fun ls hl => ?_)
    refine lv_aload_nN hx hb dX11_stir_9 rfl (lv_at hl 0 rfl) ?_
    refine lv_ifnonnullN hx hb dX11_stir_10 ?_
    refine lv_bipush (v := iI (-101)) hx hb dX11_stir_13 (by decide) ?_
    have hw : zb [WX0 X ad st ca, Wshelf X (ad 3) (ad 4) (aq 0) n pv] = zb [WX0 X ad st ca, Wshelf X (ad 3) (ad 4) (aq 0) n (stirV n z pv)] := by unfold stirV; (repeat (first | rw [if_pos (by omega)] | rw [if_neg (by omega)]))
    rw [hw] at hP hD
    exact z_iret hQ hx hb hr hlocks hS ⟨Nat.le_of_ble_eq_true rfl, Nat.le_of_ble_eq_true rfl⟩ dX11_stir_15 () (congrArg (fun z => some (Value.int (iI z))) (show (stirR n z pv : Int) = (-101) by unfold stirR; (repeat (first | rw [if_pos (by omega)] | rw [if_neg (by omega)])); first | done | rfl)) trivial hP hD
set_option maxHeartbeats 1000000 in
set_option maxRecDepth 100000 in
theorem c_X11_pour (l : Launch) (X : zX) (ad : Nat → Nat) (st : Nat → Int) (ca : Nat → Option Nat) (aq : Nat → Nat → Nat) (n : Int) (pv : Nat → Nat → Int) (z : Int) (x : Int) (y : Int) (hn : 0 ≤ n ∧ n ≤ 3) (hpv : PanS pv) (hrz : -2147483648 ≤ z ∧ z < 2147483648) (hrx : -2147483648 ≤ x ∧ x < 2147483648) (hry : -2147483648 ≤ y ∧ y < 2147483648) : zF l X yX11_pour wsX11_pour 2 40 [.ref (ad 0), .int (iI z), .int (iI x), .int (iI y)] (zb [WX0 X ad st ca, Wshelf X (ad 3) (ad 4) (aq 0) n pv]) (some (.int (iI (pourR n z x y pv)))) (zb [WX0 X ad st ca, Wshelf X (ad 3) (ad 4) (aq 0) n (pourV n z x y pv)]) := by
  refine z_enter (cc := cX11_pour) (maxL := 5) (ret := (some .int)) (by decide) rfl (Nat.le_of_ble_eq_true rfl) ?_
  intro p e s m below meth c A ls Q hQ hE hl hP hD
  obtain ⟨hx, hb, hr, hml, hown, hts, hlocks, hnm, hA, hK⟩ := hE
  have hown : s.vm.findClass RX11 = some m.cls := hown
  have hS : va_S A s.heap s.heap [] := va_S.rf
  have hl : lv_has ls 5 [(0, .ref (ad 0)), (1, .int (iI z)), (2, .int (iI x)), (3, .int (iI y))] := hl
  have inX11 : ∀ w ∈ u_ws RX11 TX11 16, w ∈ wsX11_pour := by decide +kernel
  rcases (show (0 ≤ z ∧ z < n) ∨ (z < 0 ∨ n ≤ z) by omega) with hz | hz
  · skip
    refine lv_aload_n hx hb dX11_pour_0 rfl (lv_at hl 0 rfl) ?_
    refine va_get (ci := 11) (v := .ref (ad 3)) (C := RX11) (T := TX11) (N := 16) hx hb hts inX11 hown hK.1 hP 0 rfl rfl 1 (by decide) (hts (.fieldLink RX11 19 "SkimmedSons" "shelf" "LSkimmedSons$Shelf;") (by decide +kernel)) (fun _ h9 => h9) rfl dX11_pour_1 ?_
    refine lv_iload_n hx hb dX11_pour_4 rfl (lv_at hl 1 rfl) ?_
    have hPm := zp_perm hP (zblk (show List.Perm ([WX0 X ad st ca, Wshelf X (ad 3) (ad 4) (aq 0) n pv] : List va_W) ([Wshelf X (ad 3) (ad 4) (aq 0) n pv] ++ [WX0 X ad st ca]) from (zf1 _ 1 _ rfl).trans ((List.Perm.refl _).cons _)))
    have hDm := zd_perm hD (zblk (show List.Perm ([WX0 X ad st ca, Wshelf X (ad 3) (ad 4) (aq 0) n pv] : List va_W) ([Wshelf X (ad 3) (ad 4) (aq 0) n pv] ++ [WX0 X ad st ca]) from (zf1 _ 1 _ rfl).trans ((List.Perm.refl _).cons _)))
    refine z_callV (wr := zb [WX0 X ad st ca]) (As := [.int (iI z)]) (rest := []) ⟨hx, hb, hml, hown, hts⟩ (c_X7_at_s l X (ad 3) (ad 4) (aq 0) n pv z (by omega) (by omega)) (cwV 1 hts gX11_pour_X7_at rfl rfl rfl (by decide +kernel) ⟨Nat.le_of_ble_eq_true rfl, Nat.le_of_ble_eq_true rfl⟩) rfl rfl hl.1 dX11_pour_5 rfl rfl (Nat.le_of_ble_eq_true rfl) ⟨Nat.le_of_ble_eq_true rfl, Nat.le_of_ble_eq_true rfl⟩ hS hA hK hPm hDm (fun _ H locs _ hP hD hS => ?_)
    have hP := zp_perm hP ((zblk (show List.Perm ([WX0 X ad st ca, Wshelf X (ad 3) (ad 4) (aq 0) n pv] : List va_W) ([Wshelf X (ad 3) (ad 4) (aq 0) n pv] ++ [WX0 X ad st ca]) from (zf1 _ 1 _ rfl).trans ((List.Perm.refl _).cons _)))).symm
    have hD := zd_perm hD ((zblk (show List.Perm ([WX0 X ad st ca, Wshelf X (ad 3) (ad 4) (aq 0) n pv] : List va_W) ([Wshelf X (ad 3) (ad 4) (aq 0) n pv] ++ [WX0 X ad st ca]) from (zf1 _ 1 _ rfl).trans ((List.Perm.refl _).cons _)))).symm
    have hP : va_P X.1 vwCl (zb [WX0 X ad st ca, Wshelf X (ad 3) (ad 4) (aq 0) n pv]) H := hP
    have hD : va_D A (zb [WX0 X ad st ca, Wshelf X (ad 3) (ad 4) (aq 0) n pv]) := hD
    refine W.eq (g2 := F0 m 8 ls [.ref ((aq 0) z.toNat)]) rfl ?_
    refine lv_astore (lv' := [(4, .ref ((aq 0) z.toNat)), (0, .ref (ad 0)), (1, .int (iI z)), (2, .int (iI x)), (3, .int (iI y))]) hx hb dX11_pour_8 hl (by decide) rfl (fun ls hl => ?_)
    refine lv_aload hx hb dX11_pour_10 (lv_at hl 0 rfl) ?_
    refine lv_ifnonnull (tgt := 18) hx hb dX11_pour_12 (by decide) ?_
    obtain ⟨⟨h00, h01⟩, ⟨h10, h11⟩, h2, h3, h4, h5, h6⟩ := hpv z.toNat (by omega)
    refine lv_iload_n hx hb dX11_pour_18 rfl (lv_at hl 3 rfl) ?_
    refine lv_iconst (v := iI 0) hx hb dX11_pour_19 (by decide) ?_
    refine lv_bipush (v := iI 9) hx hb dX11_pour_20 (by decide) ?_
    have hPm := zp_perm hP (zblk (show List.Perm ([WX0 X ad st ca, Wshelf X (ad 3) (ad 4) (aq 0) n pv] : List va_W) ([] ++ [WX0 X ad st ca, Wshelf X (ad 3) (ad 4) (aq 0) n pv]) from List.Perm.refl _))
    have hDm := zd_perm hD (zblk (show List.Perm ([WX0 X ad st ca, Wshelf X (ad 3) (ad 4) (aq 0) n pv] : List va_W) ([] ++ [WX0 X ad st ca, Wshelf X (ad 3) (ad 4) (aq 0) n pv]) from List.Perm.refl _))
    refine z_callS (wr := zb [WX0 X ad st ca, Wshelf X (ad 3) (ad 4) (aq 0) n pv]) (As := [.int (iI x), .int (iI 0), .int (iI 9)]) (rest := []) ⟨hx, hb, hml, hown, hts⟩ (c_X11_isWithin l X x 0 9 (by omega)) (va_cwS 3 hts gX11_pour_X11_isWithin rfl rfl rfl (by decide +kernel) ⟨Nat.le_of_ble_eq_true rfl, Nat.le_of_ble_eq_true rfl⟩) hl.1 dX11_pour_22 rfl rfl (Nat.le_of_ble_eq_true rfl) ⟨Nat.le_of_ble_eq_true rfl, Nat.le_of_ble_eq_true rfl⟩ hS hA hK hPm hDm (fun _ H locs _ hP hD hS => ?_)
    have hP := zp_perm hP ((zblk (show List.Perm ([WX0 X ad st ca, Wshelf X (ad 3) (ad 4) (aq 0) n pv] : List va_W) ([] ++ [WX0 X ad st ca, Wshelf X (ad 3) (ad 4) (aq 0) n pv]) from List.Perm.refl _))).symm
    have hD := zd_perm hD ((zblk (show List.Perm ([WX0 X ad st ca, Wshelf X (ad 3) (ad 4) (aq 0) n pv] : List va_W) ([] ++ [WX0 X ad st ca, Wshelf X (ad 3) (ad 4) (aq 0) n pv]) from List.Perm.refl _))).symm
    have hP : va_P X.1 vwCl (zb [WX0 X ad st ca, Wshelf X (ad 3) (ad 4) (aq 0) n pv]) H := hP
    have hD : va_D A (zb [WX0 X ad st ca, Wshelf X (ad 3) (ad 4) (aq 0) n pv]) := hD
    refine W.eq (g2 := F0 m 25 ls [.int (iI (if 0 ≤ x ∧ x ≤ 9 then 1 else 0))]) rfl ?_
    refine z_if_eq (tgt := 38) hx hb (by omega) dX11_pour_25 (by decide) (fun c_1 => ?_) (fun c_1 => ?_)
    · skip
      refine lv_bipush (v := iI (-102)) hx hb dX11_pour_38 (by decide) ?_
      have hw : zb [WX0 X ad st ca, Wshelf X (ad 3) (ad 4) (aq 0) n pv] = zb [WX0 X ad st ca, Wshelf X (ad 3) (ad 4) (aq 0) n (pourV n z x y pv)] := by unfold pourV allP; (repeat (first | rw [if_pos (by omega)] | rw [if_neg (by omega)])); first | done | rw [va_upId]
      rw [hw] at hP hD
      exact z_iret hQ hx hb hr hlocks hS ⟨Nat.le_of_ble_eq_true rfl, Nat.le_of_ble_eq_true rfl⟩ dX11_pour_40 () (congrArg (fun z => some (Value.int (iI z))) (show (pourR n z x y pv : Int) = (-102) by unfold pourR allP; (repeat (first | rw [if_pos (by omega)] | rw [if_neg (by omega)])); first | done | (simp only [pourP, mkP_0, mkP_1, mkP_2, mkP_3, mkP_4, mkP_5]; omega))) trivial hP hD
    · skip
      refine lv_iload_n hx hb dX11_pour_28 rfl (lv_at hl 4 rfl) ?_
      refine lv_iconst (v := iI 0) hx hb dX11_pour_29 (by decide) ?_
      refine lv_bipush (v := iI 9) hx hb dX11_pour_30 (by decide) ?_
      have hPm := zp_perm hP (zblk (show List.Perm ([WX0 X ad st ca, Wshelf X (ad 3) (ad 4) (aq 0) n pv] : List va_W) ([] ++ [WX0 X ad st ca, Wshelf X (ad 3) (ad 4) (aq 0) n pv]) from List.Perm.refl _))
      have hDm := zd_perm hD (zblk (show List.Perm ([WX0 X ad st ca, Wshelf X (ad 3) (ad 4) (aq 0) n pv] : List va_W) ([] ++ [WX0 X ad st ca, Wshelf X (ad 3) (ad 4) (aq 0) n pv]) from List.Perm.refl _))
      refine z_callS (wr := zb [WX0 X ad st ca, Wshelf X (ad 3) (ad 4) (aq 0) n pv]) (As := [.int (iI y), .int (iI 0), .int (iI 9)]) (rest := []) ⟨hx, hb, hml, hown, hts⟩ (c_X11_isWithin l X y 0 9 (by omega)) (va_cwS 3 hts gX11_pour_X11_isWithin rfl rfl rfl (by decide +kernel) ⟨Nat.le_of_ble_eq_true rfl, Nat.le_of_ble_eq_true rfl⟩) hl.1 dX11_pour_32 rfl rfl (Nat.le_of_ble_eq_true rfl) ⟨Nat.le_of_ble_eq_true rfl, Nat.le_of_ble_eq_true rfl⟩ hS hA hK hPm hDm (fun _ H locs _ hP hD hS => ?_)
      have hP := zp_perm hP ((zblk (show List.Perm ([WX0 X ad st ca, Wshelf X (ad 3) (ad 4) (aq 0) n pv] : List va_W) ([] ++ [WX0 X ad st ca, Wshelf X (ad 3) (ad 4) (aq 0) n pv]) from List.Perm.refl _))).symm
      have hD := zd_perm hD ((zblk (show List.Perm ([WX0 X ad st ca, Wshelf X (ad 3) (ad 4) (aq 0) n pv] : List va_W) ([] ++ [WX0 X ad st ca, Wshelf X (ad 3) (ad 4) (aq 0) n pv]) from List.Perm.refl _))).symm
      have hP : va_P X.1 vwCl (zb [WX0 X ad st ca, Wshelf X (ad 3) (ad 4) (aq 0) n pv]) H := hP
      have hD : va_D A (zb [WX0 X ad st ca, Wshelf X (ad 3) (ad 4) (aq 0) n pv]) := hD
      refine W.eq (g2 := F0 m 35 ls [.int (iI (if 0 ≤ y ∧ y ≤ 9 then 1 else 0))]) rfl ?_
      refine z_if_ne (tgt := 41) hx hb (by omega) dX11_pour_35 (by decide) (fun c_2 => ?_) (fun c_2 => ?_)
      · skip
        refine lv_aload hx hb dX11_pour_41 (lv_at hl 0 rfl) ?_
        have hP := zp_perm hP (show List.Perm (zb [WX0 X ad st ca, Wshelf X (ad 3) (ad 4) (aq 0) n pv]) (zb [WX0 X ad st ca, Wpan ((aq 0) z.toNat) (pv z.toNat), Wshx X (ad 3) (ad 4) (aq 0) n pv z.toNat]) from zrep (pre := [WX0 X ad st ca]) (post := []) (bs := [Wshelf X (ad 3) (ad 4) (aq 0) n pv]) (cs := [Wpan ((aq 0) z.toNat) (pv z.toNat), Wshx X (ad 3) (ad 4) (aq 0) n pv z.toNat]) (by rw [zb1]; exact shelf_foc (by omega)))
        have hD := zd_perm hD (show List.Perm (zb [WX0 X ad st ca, Wshelf X (ad 3) (ad 4) (aq 0) n pv]) (zb [WX0 X ad st ca, Wpan ((aq 0) z.toNat) (pv z.toNat), Wshx X (ad 3) (ad 4) (aq 0) n pv z.toNat]) from zrep (pre := [WX0 X ad st ca]) (post := []) (bs := [Wshelf X (ad 3) (ad 4) (aq 0) n pv]) (cs := [Wpan ((aq 0) z.toNat) (pv z.toNat), Wshx X (ad 3) (ad 4) (aq 0) n pv z.toNat]) (by rw [zb1]; exact shelf_foc (by omega)))
        have hPm := zp_perm hP (zblk (show List.Perm ([WX0 X ad st ca, Wpan ((aq 0) z.toNat) (pv z.toNat), Wshx X (ad 3) (ad 4) (aq 0) n pv z.toNat] : List va_W) ([Wpan ((aq 0) z.toNat) (pv z.toNat)] ++ [WX0 X ad st ca, Wshx X (ad 3) (ad 4) (aq 0) n pv z.toNat]) from (zf1 _ 1 _ rfl).trans ((List.Perm.refl _).cons _)))
        have hDm := zd_perm hD (zblk (show List.Perm ([WX0 X ad st ca, Wpan ((aq 0) z.toNat) (pv z.toNat), Wshx X (ad 3) (ad 4) (aq 0) n pv z.toNat] : List va_W) ([Wpan ((aq 0) z.toNat) (pv z.toNat)] ++ [WX0 X ad st ca, Wshx X (ad 3) (ad 4) (aq 0) n pv z.toNat]) from (zf1 _ 1 _ rfl).trans ((List.Perm.refl _).cons _)))
        refine z_callV (wr := zb [WX0 X ad st ca, Wshx X (ad 3) (ad 4) (aq 0) n pv z.toNat]) (As := []) (rest := []) ⟨hx, hb, hml, hown, hts⟩ (c_X4_all l X ((aq 0) z.toNat) (pv z.toNat) ) (cwV 0 hts gX11_pour_X4_all rfl rfl rfl (by decide +kernel) ⟨Nat.le_of_ble_eq_true rfl, Nat.le_of_ble_eq_true rfl⟩) rfl rfl hl.1 dX11_pour_43 rfl rfl (Nat.le_of_ble_eq_true rfl) ⟨Nat.le_of_ble_eq_true rfl, Nat.le_of_ble_eq_true rfl⟩ hS hA hK hPm hDm (fun _ H locs _ hP hD hS => ?_)
        have hP := zp_perm hP ((zblk (show List.Perm ([WX0 X ad st ca, Wpan ((aq 0) z.toNat) (pv z.toNat), Wshx X (ad 3) (ad 4) (aq 0) n pv z.toNat] : List va_W) ([Wpan ((aq 0) z.toNat) (pv z.toNat)] ++ [WX0 X ad st ca, Wshx X (ad 3) (ad 4) (aq 0) n pv z.toNat]) from (zf1 _ 1 _ rfl).trans ((List.Perm.refl _).cons _)))).symm
        have hD := zd_perm hD ((zblk (show List.Perm ([WX0 X ad st ca, Wpan ((aq 0) z.toNat) (pv z.toNat), Wshx X (ad 3) (ad 4) (aq 0) n pv z.toNat] : List va_W) ([Wpan ((aq 0) z.toNat) (pv z.toNat)] ++ [WX0 X ad st ca, Wshx X (ad 3) (ad 4) (aq 0) n pv z.toNat]) from (zf1 _ 1 _ rfl).trans ((List.Perm.refl _).cons _)))).symm
        have hP : va_P X.1 vwCl (zb [WX0 X ad st ca, Wpan ((aq 0) z.toNat) (pv z.toNat), Wshx X (ad 3) (ad 4) (aq 0) n pv z.toNat]) H := hP
        have hD : va_D A (zb [WX0 X ad st ca, Wpan ((aq 0) z.toNat) (pv z.toNat), Wshx X (ad 3) (ad 4) (aq 0) n pv z.toNat]) := hD
        refine W.eq (g2 := F0 m 46 ls [.int (iI ((pv z.toNat) 2 + ((pv z.toNat) 4 + (pv z.toNat) 3 + (pv z.toNat) 5)))]) rfl ?_
        refine lv_iload_n hx hb dX11_pour_46 rfl (lv_at hl 3 rfl) ?_
        refine z_iadd hx hb dX11_pour_47 ?_
        refine lv_iload_n hx hb dX11_pour_48 rfl (lv_at hl 4 rfl) ?_
        refine z_iadd hx hb dX11_pour_49 ?_
        refine lv_bipush (v := iI 20) hx hb dX11_pour_50 (by decide) ?_
        refine z_icmp_le (tgt := 58) hx hb (by omega) dX11_pour_52 (by decide) (fun c_3 => ?_) (fun c_3 => ?_)
        · skip
          refine lv_aload hx hb dX11_pour_58 (lv_at hl 0 rfl) ?_
          refine lv_iload_n hx hb dX11_pour_60 rfl (lv_at hl 3 rfl) ?_
          refine lv_iload_n hx hb dX11_pour_61 rfl (lv_at hl 4 rfl) ?_
          have hPm := zp_perm hP (zblk (show List.Perm ([WX0 X ad st ca, Wpan ((aq 0) z.toNat) (pv z.toNat), Wshx X (ad 3) (ad 4) (aq 0) n pv z.toNat] : List va_W) ([Wpan ((aq 0) z.toNat) (pv z.toNat)] ++ [WX0 X ad st ca, Wshx X (ad 3) (ad 4) (aq 0) n pv z.toNat]) from (zf1 _ 1 _ rfl).trans ((List.Perm.refl _).cons _)))
          have hDm := zd_perm hD (zblk (show List.Perm ([WX0 X ad st ca, Wpan ((aq 0) z.toNat) (pv z.toNat), Wshx X (ad 3) (ad 4) (aq 0) n pv z.toNat] : List va_W) ([Wpan ((aq 0) z.toNat) (pv z.toNat)] ++ [WX0 X ad st ca, Wshx X (ad 3) (ad 4) (aq 0) n pv z.toNat]) from (zf1 _ 1 _ rfl).trans ((List.Perm.refl _).cons _)))
          refine z_callV (wr := zb [WX0 X ad st ca, Wshx X (ad 3) (ad 4) (aq 0) n pv z.toNat]) (As := [.int (iI x), .int (iI y)]) (rest := []) ⟨hx, hb, hml, hown, hts⟩ (c_X4_takeIn l X ((aq 0) z.toNat) (pv z.toNat) x y ) (cwV 2 hts gX11_pour_X4_takeIn rfl rfl rfl (by decide +kernel) ⟨Nat.le_of_ble_eq_true rfl, Nat.le_of_ble_eq_true rfl⟩) rfl rfl hl.1 dX11_pour_62 rfl rfl (Nat.le_of_ble_eq_true rfl) ⟨Nat.le_of_ble_eq_true rfl, Nat.le_of_ble_eq_true rfl⟩ hS hA hK hPm hDm (fun _ H locs _ hP hD hS => ?_)
          have hP := zp_perm hP ((zblk (show List.Perm ([WX0 X ad st ca, Wpan ((aq 0) z.toNat) (pourP (pv z.toNat) x y), Wshx X (ad 3) (ad 4) (aq 0) n pv z.toNat] : List va_W) ([Wpan ((aq 0) z.toNat) (pourP (pv z.toNat) x y)] ++ [WX0 X ad st ca, Wshx X (ad 3) (ad 4) (aq 0) n pv z.toNat]) from (zf1 _ 1 _ rfl).trans ((List.Perm.refl _).cons _)))).symm
          have hD := zd_perm hD ((zblk (show List.Perm ([WX0 X ad st ca, Wpan ((aq 0) z.toNat) (pourP (pv z.toNat) x y), Wshx X (ad 3) (ad 4) (aq 0) n pv z.toNat] : List va_W) ([Wpan ((aq 0) z.toNat) (pourP (pv z.toNat) x y)] ++ [WX0 X ad st ca, Wshx X (ad 3) (ad 4) (aq 0) n pv z.toNat]) from (zf1 _ 1 _ rfl).trans ((List.Perm.refl _).cons _)))).symm
          have hP : va_P X.1 vwCl (zb [WX0 X ad st ca, Wpan ((aq 0) z.toNat) (pourP (pv z.toNat) x y), Wshx X (ad 3) (ad 4) (aq 0) n pv z.toNat]) H := hP
          have hD : va_D A (zb [WX0 X ad st ca, Wpan ((aq 0) z.toNat) (pourP (pv z.toNat) x y), Wshx X (ad 3) (ad 4) (aq 0) n pv z.toNat]) := hD
          refine W.eq (g2 := F0 m 65 ls []) rfl ?_
          refine lv_aload hx hb dX11_pour_65 (lv_at hl 0 rfl) ?_
          have hPm := zp_perm hP (zblk (show List.Perm ([WX0 X ad st ca, Wpan ((aq 0) z.toNat) (pourP (pv z.toNat) x y), Wshx X (ad 3) (ad 4) (aq 0) n pv z.toNat] : List va_W) ([Wpan ((aq 0) z.toNat) (pourP (pv z.toNat) x y)] ++ [WX0 X ad st ca, Wshx X (ad 3) (ad 4) (aq 0) n pv z.toNat]) from (zf1 _ 1 _ rfl).trans ((List.Perm.refl _).cons _)))
          have hDm := zd_perm hD (zblk (show List.Perm ([WX0 X ad st ca, Wpan ((aq 0) z.toNat) (pourP (pv z.toNat) x y), Wshx X (ad 3) (ad 4) (aq 0) n pv z.toNat] : List va_W) ([Wpan ((aq 0) z.toNat) (pourP (pv z.toNat) x y)] ++ [WX0 X ad st ca, Wshx X (ad 3) (ad 4) (aq 0) n pv z.toNat]) from (zf1 _ 1 _ rfl).trans ((List.Perm.refl _).cons _)))
          refine z_callV (wr := zb [WX0 X ad st ca, Wshx X (ad 3) (ad 4) (aq 0) n pv z.toNat]) (As := []) (rest := []) ⟨hx, hb, hml, hown, hts⟩ (c_X4_all l X ((aq 0) z.toNat) (pourP (pv z.toNat) x y) ) (cwV 0 hts gX11_pour_X4_all rfl rfl rfl (by decide +kernel) ⟨Nat.le_of_ble_eq_true rfl, Nat.le_of_ble_eq_true rfl⟩) rfl rfl hl.1 dX11_pour_67 rfl rfl (Nat.le_of_ble_eq_true rfl) ⟨Nat.le_of_ble_eq_true rfl, Nat.le_of_ble_eq_true rfl⟩ hS hA hK hPm hDm (fun _ H locs _ hP hD hS => ?_)
          have hP := zp_perm hP ((zblk (show List.Perm ([WX0 X ad st ca, Wpan ((aq 0) z.toNat) (pourP (pv z.toNat) x y), Wshx X (ad 3) (ad 4) (aq 0) n pv z.toNat] : List va_W) ([Wpan ((aq 0) z.toNat) (pourP (pv z.toNat) x y)] ++ [WX0 X ad st ca, Wshx X (ad 3) (ad 4) (aq 0) n pv z.toNat]) from (zf1 _ 1 _ rfl).trans ((List.Perm.refl _).cons _)))).symm
          have hD := zd_perm hD ((zblk (show List.Perm ([WX0 X ad st ca, Wpan ((aq 0) z.toNat) (pourP (pv z.toNat) x y), Wshx X (ad 3) (ad 4) (aq 0) n pv z.toNat] : List va_W) ([Wpan ((aq 0) z.toNat) (pourP (pv z.toNat) x y)] ++ [WX0 X ad st ca, Wshx X (ad 3) (ad 4) (aq 0) n pv z.toNat]) from (zf1 _ 1 _ rfl).trans ((List.Perm.refl _).cons _)))).symm
          have hP : va_P X.1 vwCl (zb [WX0 X ad st ca, Wpan ((aq 0) z.toNat) (pourP (pv z.toNat) x y), Wshx X (ad 3) (ad 4) (aq 0) n pv z.toNat]) H := hP
          have hD : va_D A (zb [WX0 X ad st ca, Wpan ((aq 0) z.toNat) (pourP (pv z.toNat) x y), Wshx X (ad 3) (ad 4) (aq 0) n pv z.toNat]) := hD
          refine W.eq (g2 := F0 m 70 ls [.int (iI ((pourP (pv z.toNat) x y) 2 + ((pourP (pv z.toNat) x y) 4 + (pourP (pv z.toNat) x y) 3 + (pourP (pv z.toNat) x y) 5)))]) rfl ?_
          have hP := zp_perm hP (show List.Perm (zb [WX0 X ad st ca, Wpan ((aq 0) z.toNat) (pourP (pv z.toNat) x y), Wshx X (ad 3) (ad 4) (aq 0) n pv z.toNat]) (zb [WX0 X ad st ca, Wshelf X (ad 3) (ad 4) (aq 0) n (va_up pv z.toNat (pourP (pv z.toNat) x y))]) from zrep (pre := [WX0 X ad st ca]) (post := []) (bs := [Wpan ((aq 0) z.toNat) (pourP (pv z.toNat) x y), Wshx X (ad 3) (ad 4) (aq 0) n pv z.toNat]) (cs := [Wshelf X (ad 3) (ad 4) (aq 0) n (va_up pv z.toNat (pourP (pv z.toNat) x y))]) (by rw [zb1]; exact shelf_unf (by omega) _))
          have hD := zd_perm hD (show List.Perm (zb [WX0 X ad st ca, Wpan ((aq 0) z.toNat) (pourP (pv z.toNat) x y), Wshx X (ad 3) (ad 4) (aq 0) n pv z.toNat]) (zb [WX0 X ad st ca, Wshelf X (ad 3) (ad 4) (aq 0) n (va_up pv z.toNat (pourP (pv z.toNat) x y))]) from zrep (pre := [WX0 X ad st ca]) (post := []) (bs := [Wpan ((aq 0) z.toNat) (pourP (pv z.toNat) x y), Wshx X (ad 3) (ad 4) (aq 0) n pv z.toNat]) (cs := [Wshelf X (ad 3) (ad 4) (aq 0) n (va_up pv z.toNat (pourP (pv z.toNat) x y))]) (by rw [zb1]; exact shelf_unf (by omega) _))
          have hw : zb [WX0 X ad st ca, Wshelf X (ad 3) (ad 4) (aq 0) n (va_up pv z.toNat (pourP (pv z.toNat) x y))] = zb [WX0 X ad st ca, Wshelf X (ad 3) (ad 4) (aq 0) n (pourV n z x y pv)] := by unfold pourV allP; (repeat (first | rw [if_pos (by omega)] | rw [if_neg (by omega)])); first | done | rw [va_upId]
          rw [hw] at hP hD
          exact z_iret hQ hx hb hr hlocks hS ⟨Nat.le_of_ble_eq_true rfl, Nat.le_of_ble_eq_true rfl⟩ dX11_pour_70 () (congrArg (fun z => some (Value.int (iI z))) (show (pourR n z x y pv : Int) = (pourP (pv z.toNat) x y) 2 + ((pourP (pv z.toNat) x y) 4 + (pourP (pv z.toNat) x y) 3 + (pourP (pv z.toNat) x y) 5) by unfold pourR allP; (repeat (first | rw [if_pos (by omega)] | rw [if_neg (by omega)])); first | done | (simp only [pourP, mkP_0, mkP_1, mkP_2, mkP_3, mkP_4, mkP_5]; omega))) trivial hP hD
        · skip
          have hP := zp_perm hP (show List.Perm (zb [WX0 X ad st ca, Wpan ((aq 0) z.toNat) (pv z.toNat), Wshx X (ad 3) (ad 4) (aq 0) n pv z.toNat]) (zb [WX0 X ad st ca, Wshelf X (ad 3) (ad 4) (aq 0) n (va_up pv z.toNat (pv z.toNat))]) from zrep (pre := [WX0 X ad st ca]) (post := []) (bs := [Wpan ((aq 0) z.toNat) (pv z.toNat), Wshx X (ad 3) (ad 4) (aq 0) n pv z.toNat]) (cs := [Wshelf X (ad 3) (ad 4) (aq 0) n (va_up pv z.toNat (pv z.toNat))]) (by rw [zb1]; exact shelf_unf (by omega) _))
          have hD := zd_perm hD (show List.Perm (zb [WX0 X ad st ca, Wpan ((aq 0) z.toNat) (pv z.toNat), Wshx X (ad 3) (ad 4) (aq 0) n pv z.toNat]) (zb [WX0 X ad st ca, Wshelf X (ad 3) (ad 4) (aq 0) n (va_up pv z.toNat (pv z.toNat))]) from zrep (pre := [WX0 X ad st ca]) (post := []) (bs := [Wpan ((aq 0) z.toNat) (pv z.toNat), Wshx X (ad 3) (ad 4) (aq 0) n pv z.toNat]) (cs := [Wshelf X (ad 3) (ad 4) (aq 0) n (va_up pv z.toNat (pv z.toNat))]) (by rw [zb1]; exact shelf_unf (by omega) _))
          refine lv_bipush (v := iI (-104)) hx hb dX11_pour_55 (by decide) ?_
          have hw : zb [WX0 X ad st ca, Wshelf X (ad 3) (ad 4) (aq 0) n (va_up pv z.toNat (pv z.toNat))] = zb [WX0 X ad st ca, Wshelf X (ad 3) (ad 4) (aq 0) n (pourV n z x y pv)] := by unfold pourV allP; (repeat (first | rw [if_pos (by omega)] | rw [if_neg (by omega)])); first | done | rw [va_upId]
          rw [hw] at hP hD
          exact z_iret hQ hx hb hr hlocks hS ⟨Nat.le_of_ble_eq_true rfl, Nat.le_of_ble_eq_true rfl⟩ dX11_pour_57 () (congrArg (fun z => some (Value.int (iI z))) (show (pourR n z x y pv : Int) = (-104) by unfold pourR allP; (repeat (first | rw [if_pos (by omega)] | rw [if_neg (by omega)])); first | done | (simp only [pourP, mkP_0, mkP_1, mkP_2, mkP_3, mkP_4, mkP_5]; omega))) trivial hP hD
      · skip
        refine lv_bipush (v := iI (-102)) hx hb dX11_pour_38 (by decide) ?_
        have hw : zb [WX0 X ad st ca, Wshelf X (ad 3) (ad 4) (aq 0) n pv] = zb [WX0 X ad st ca, Wshelf X (ad 3) (ad 4) (aq 0) n (pourV n z x y pv)] := by unfold pourV allP; (repeat (first | rw [if_pos (by omega)] | rw [if_neg (by omega)])); first | done | rw [va_upId]
        rw [hw] at hP hD
        exact z_iret hQ hx hb hr hlocks hS ⟨Nat.le_of_ble_eq_true rfl, Nat.le_of_ble_eq_true rfl⟩ dX11_pour_40 () (congrArg (fun z => some (Value.int (iI z))) (show (pourR n z x y pv : Int) = (-102) by unfold pourR allP; (repeat (first | rw [if_pos (by omega)] | rw [if_neg (by omega)])); first | done | (simp only [pourP, mkP_0, mkP_1, mkP_2, mkP_3, mkP_4, mkP_5]; omega))) trivial hP hD
  · skip
    refine lv_aload_n hx hb dX11_pour_0 rfl (lv_at hl 0 rfl) ?_
    refine va_get (ci := 11) (v := .ref (ad 3)) (C := RX11) (T := TX11) (N := 16) hx hb hts inX11 hown hK.1 hP 0 rfl rfl 1 (by decide) (hts (.fieldLink RX11 19 "SkimmedSons" "shelf" "LSkimmedSons$Shelf;") (by decide +kernel)) (fun _ h9 => h9) rfl dX11_pour_1 ?_
    refine lv_iload_n hx hb dX11_pour_4 rfl (lv_at hl 1 rfl) ?_
    have hPm := zp_perm hP (zblk (show List.Perm ([WX0 X ad st ca, Wshelf X (ad 3) (ad 4) (aq 0) n pv] : List va_W) ([Wshelf X (ad 3) (ad 4) (aq 0) n pv] ++ [WX0 X ad st ca]) from (zf1 _ 1 _ rfl).trans ((List.Perm.refl _).cons _)))
    have hDm := zd_perm hD (zblk (show List.Perm ([WX0 X ad st ca, Wshelf X (ad 3) (ad 4) (aq 0) n pv] : List va_W) ([Wshelf X (ad 3) (ad 4) (aq 0) n pv] ++ [WX0 X ad st ca]) from (zf1 _ 1 _ rfl).trans ((List.Perm.refl _).cons _)))
    refine z_callV (wr := zb [WX0 X ad st ca]) (As := [.int (iI z)]) (rest := []) ⟨hx, hb, hml, hown, hts⟩ (c_X7_at_n l X (ad 3) (ad 4) (aq 0) n pv z (by omega) (by omega) (by omega)) (cwV 1 hts gX11_pour_X7_at rfl rfl rfl (by decide +kernel) ⟨Nat.le_of_ble_eq_true rfl, Nat.le_of_ble_eq_true rfl⟩) rfl rfl hl.1 dX11_pour_5 rfl rfl (Nat.le_of_ble_eq_true rfl) ⟨Nat.le_of_ble_eq_true rfl, Nat.le_of_ble_eq_true rfl⟩ hS hA hK hPm hDm (fun _ H locs _ hP hD hS => ?_)
    have hP := zp_perm hP ((zblk (show List.Perm ([WX0 X ad st ca, Wshelf X (ad 3) (ad 4) (aq 0) n pv] : List va_W) ([Wshelf X (ad 3) (ad 4) (aq 0) n pv] ++ [WX0 X ad st ca]) from (zf1 _ 1 _ rfl).trans ((List.Perm.refl _).cons _)))).symm
    have hD := zd_perm hD ((zblk (show List.Perm ([WX0 X ad st ca, Wshelf X (ad 3) (ad 4) (aq 0) n pv] : List va_W) ([Wshelf X (ad 3) (ad 4) (aq 0) n pv] ++ [WX0 X ad st ca]) from (zf1 _ 1 _ rfl).trans ((List.Perm.refl _).cons _)))).symm
    have hP : va_P X.1 vwCl (zb [WX0 X ad st ca, Wshelf X (ad 3) (ad 4) (aq 0) n pv]) H := hP
    have hD : va_D A (zb [WX0 X ad st ca, Wshelf X (ad 3) (ad 4) (aq 0) n pv]) := hD
    refine W.eq (g2 := F0 m 8 ls [.null]) rfl ?_
    refine lv_astoreN (lv' := [(4, .null), (0, .ref (ad 0)), (1, .int (iI z)), (2, .int (iI x)), (3, .int (iI y))]) hx hb dX11_pour_8 hl (by decide) rfl (fun ls hl => ?_)
    refine lv_aloadN hx hb dX11_pour_10 (lv_at hl 0 rfl) ?_
    refine lv_ifnonnullN hx hb dX11_pour_12 ?_
    refine lv_bipush (v := iI (-101)) hx hb dX11_pour_15 (by decide) ?_
    have hw : zb [WX0 X ad st ca, Wshelf X (ad 3) (ad 4) (aq 0) n pv] = zb [WX0 X ad st ca, Wshelf X (ad 3) (ad 4) (aq 0) n (pourV n z x y pv)] := by unfold pourV allP; (repeat (first | rw [if_pos (by omega)] | rw [if_neg (by omega)])); first | done | rw [va_upId]
    rw [hw] at hP hD
    exact z_iret hQ hx hb hr hlocks hS ⟨Nat.le_of_ble_eq_true rfl, Nat.le_of_ble_eq_true rfl⟩ dX11_pour_17 () (congrArg (fun z => some (Value.int (iI z))) (show (pourR n z x y pv : Int) = (-101) by unfold pourR allP; (repeat (first | rw [if_pos (by omega)] | rw [if_neg (by omega)])); first | done | (simp only [pourP, mkP_0, mkP_1, mkP_2, mkP_3, mkP_4, mkP_5]; omega))) trivial hP hD
set_option maxHeartbeats 1000000 in
set_option maxRecDepth 100000 in
theorem c_X11_later (l : Launch) (X : zX) (ad : Nat → Nat) (st : Nat → Int) (ca : Nat → Option Nat) (aq : Nat → Nat → Nat) (n : Int) (pv : Nat → Nat → Int) (tv : Nat → Int) (z : Int) (x : Int) (y : Int) (hn : 0 ≤ n ∧ n ≤ 3) (hpv : PanS pv) (hpg : ∀ j, j < n.toNat → PanG 2000 (pv j)) (hrz : -2147483648 ≤ z ∧ z < 2147483648) (hrx : -2147483648 ≤ x ∧ x < 2147483648) (hry : -2147483648 ≤ y ∧ y < 2147483648) : zM (S := (Nat → Int)) l X yX11_later wsX11_later { frames := 2, cells := 0, slots := 0, locals := 61 } [.ref (ad 0), .int (iI z), .int (iI x), .int (iI y)] (zb [WX0 X ad st ca, Wshelf X (ad 3) (ad 4) (aq 0) n pv, Wpan (ad 18) tv]) (fun u => (some (.int (iI (laterR n z x y pv))))) (fun u => zb [WX0 X ad st ca, Wshelf X (ad 3) (ad 4) (aq 0) n pv, Wpan (ad 18) u]) (fun u => True) := by
  refine z_enter (cc := cX11_later) (maxL := 6) (ret := (some .int)) (by decide) rfl (Nat.le_of_ble_eq_true rfl) ?_
  intro p e s m below meth c A ls Q hQ hE hl hP hD
  obtain ⟨hx, hb, hr, hml, hown, hts, hlocks, hnm, hA, hK⟩ := hE
  have hown : s.vm.findClass RX11 = some m.cls := hown
  have hS : va_S A s.heap s.heap [] := va_S.rf
  have hl : lv_has ls 6 [(0, .ref (ad 0)), (1, .int (iI z)), (2, .int (iI x)), (3, .int (iI y))] := hl
  have inX11 : ∀ w ∈ u_ws RX11 TX11 16, w ∈ wsX11_later := by decide +kernel
  rcases (show (0 ≤ z ∧ z < n) ∨ (z < 0 ∨ n ≤ z) by omega) with hz | hz
  · skip
    refine lv_aload_n hx hb dX11_later_0 rfl (lv_at hl 0 rfl) ?_
    refine va_get (ci := 11) (v := .ref (ad 3)) (C := RX11) (T := TX11) (N := 16) hx hb hts inX11 hown hK.1 hP 0 rfl rfl 1 (by decide) (hts (.fieldLink RX11 19 "SkimmedSons" "shelf" "LSkimmedSons$Shelf;") (by decide +kernel)) (fun _ h9 => h9) rfl dX11_later_1 ?_
    refine lv_iload_n hx hb dX11_later_4 rfl (lv_at hl 1 rfl) ?_
    have hPm := zp_perm hP (zblk (show List.Perm ([WX0 X ad st ca, Wshelf X (ad 3) (ad 4) (aq 0) n pv, Wpan (ad 18) tv] : List va_W) ([Wshelf X (ad 3) (ad 4) (aq 0) n pv] ++ [WX0 X ad st ca, Wpan (ad 18) tv]) from (zf1 _ 1 _ rfl).trans ((List.Perm.refl _).cons _)))
    have hDm := zd_perm hD (zblk (show List.Perm ([WX0 X ad st ca, Wshelf X (ad 3) (ad 4) (aq 0) n pv, Wpan (ad 18) tv] : List va_W) ([Wshelf X (ad 3) (ad 4) (aq 0) n pv] ++ [WX0 X ad st ca, Wpan (ad 18) tv]) from (zf1 _ 1 _ rfl).trans ((List.Perm.refl _).cons _)))
    refine z_callV (wr := zb [WX0 X ad st ca, Wpan (ad 18) tv]) (As := [.int (iI z)]) (rest := []) ⟨hx, hb, hml, hown, hts⟩ (c_X7_at_s l X (ad 3) (ad 4) (aq 0) n pv z (by omega) (by omega)) (cwV 1 hts gX11_later_X7_at rfl rfl rfl (by decide +kernel) ⟨Nat.le_of_ble_eq_true rfl, Nat.le_of_ble_eq_true rfl⟩) rfl rfl hl.1 dX11_later_5 rfl rfl (Nat.le_of_ble_eq_true rfl) ⟨Nat.le_of_ble_eq_true rfl, Nat.le_of_ble_eq_true rfl⟩ hS hA hK hPm hDm (fun _ H locs _ hP hD hS => ?_)
    have hP := zp_perm hP ((zblk (show List.Perm ([WX0 X ad st ca, Wshelf X (ad 3) (ad 4) (aq 0) n pv, Wpan (ad 18) tv] : List va_W) ([Wshelf X (ad 3) (ad 4) (aq 0) n pv] ++ [WX0 X ad st ca, Wpan (ad 18) tv]) from (zf1 _ 1 _ rfl).trans ((List.Perm.refl _).cons _)))).symm
    have hD := zd_perm hD ((zblk (show List.Perm ([WX0 X ad st ca, Wshelf X (ad 3) (ad 4) (aq 0) n pv, Wpan (ad 18) tv] : List va_W) ([Wshelf X (ad 3) (ad 4) (aq 0) n pv] ++ [WX0 X ad st ca, Wpan (ad 18) tv]) from (zf1 _ 1 _ rfl).trans ((List.Perm.refl _).cons _)))).symm
    have hP : va_P X.1 vwCl (zb [WX0 X ad st ca, Wshelf X (ad 3) (ad 4) (aq 0) n pv, Wpan (ad 18) tv]) H := hP
    have hD : va_D A (zb [WX0 X ad st ca, Wshelf X (ad 3) (ad 4) (aq 0) n pv, Wpan (ad 18) tv]) := hD
    refine W.eq (g2 := F0 m 8 ls [.ref ((aq 0) z.toNat)]) rfl ?_
    refine lv_astore (lv' := [(4, .ref ((aq 0) z.toNat)), (0, .ref (ad 0)), (1, .int (iI z)), (2, .int (iI x)), (3, .int (iI y))]) hx hb dX11_later_8 hl (by decide) rfl (fun ls hl => ?_)
    refine lv_aload hx hb dX11_later_10 (lv_at hl 0 rfl) ?_
    refine lv_ifnonnull (tgt := 18) hx hb dX11_later_12 (by decide) ?_
    refine lv_iload_n hx hb dX11_later_18 rfl (lv_at hl 3 rfl) ?_
    refine lv_iconst (v := iI 0) hx hb dX11_later_19 (by decide) ?_
    refine lv_bipush (v := iI 40) hx hb dX11_later_20 (by decide) ?_
    have hPm := zp_perm hP (zblk (show List.Perm ([WX0 X ad st ca, Wshelf X (ad 3) (ad 4) (aq 0) n pv, Wpan (ad 18) tv] : List va_W) ([] ++ [WX0 X ad st ca, Wshelf X (ad 3) (ad 4) (aq 0) n pv, Wpan (ad 18) tv]) from List.Perm.refl _))
    have hDm := zd_perm hD (zblk (show List.Perm ([WX0 X ad st ca, Wshelf X (ad 3) (ad 4) (aq 0) n pv, Wpan (ad 18) tv] : List va_W) ([] ++ [WX0 X ad st ca, Wshelf X (ad 3) (ad 4) (aq 0) n pv, Wpan (ad 18) tv]) from List.Perm.refl _))
    refine z_callS (wr := zb [WX0 X ad st ca, Wshelf X (ad 3) (ad 4) (aq 0) n pv, Wpan (ad 18) tv]) (As := [.int (iI x), .int (iI 0), .int (iI 40)]) (rest := []) ⟨hx, hb, hml, hown, hts⟩ (c_X11_isWithin l X x 0 40 (by omega)) (va_cwS 3 hts gX11_later_X11_isWithin rfl rfl rfl (by decide +kernel) ⟨Nat.le_of_ble_eq_true rfl, Nat.le_of_ble_eq_true rfl⟩) hl.1 dX11_later_22 rfl rfl (Nat.le_of_ble_eq_true rfl) ⟨Nat.le_of_ble_eq_true rfl, Nat.le_of_ble_eq_true rfl⟩ hS hA hK hPm hDm (fun _ H locs _ hP hD hS => ?_)
    have hP := zp_perm hP ((zblk (show List.Perm ([WX0 X ad st ca, Wshelf X (ad 3) (ad 4) (aq 0) n pv, Wpan (ad 18) tv] : List va_W) ([] ++ [WX0 X ad st ca, Wshelf X (ad 3) (ad 4) (aq 0) n pv, Wpan (ad 18) tv]) from List.Perm.refl _))).symm
    have hD := zd_perm hD ((zblk (show List.Perm ([WX0 X ad st ca, Wshelf X (ad 3) (ad 4) (aq 0) n pv, Wpan (ad 18) tv] : List va_W) ([] ++ [WX0 X ad st ca, Wshelf X (ad 3) (ad 4) (aq 0) n pv, Wpan (ad 18) tv]) from List.Perm.refl _))).symm
    have hP : va_P X.1 vwCl (zb [WX0 X ad st ca, Wshelf X (ad 3) (ad 4) (aq 0) n pv, Wpan (ad 18) tv]) H := hP
    have hD : va_D A (zb [WX0 X ad st ca, Wshelf X (ad 3) (ad 4) (aq 0) n pv, Wpan (ad 18) tv]) := hD
    refine W.eq (g2 := F0 m 25 ls [.int (iI (if 0 ≤ x ∧ x ≤ 40 then 1 else 0))]) rfl ?_
    refine z_if_eq (tgt := 37) hx hb (by omega) dX11_later_25 (by decide) (fun c_1 => ?_) (fun c_1 => ?_)
    · skip
      refine lv_bipush (v := iI (-102)) hx hb dX11_later_37 (by decide) ?_
      exact z_iret hQ hx hb hr hlocks hS ⟨Nat.le_of_ble_eq_true rfl, Nat.le_of_ble_eq_true rfl⟩ dX11_later_39 tv (congrArg (fun z => some (Value.int (iI z))) (show (laterR n z x y pv : Int) = (-102) by unfold laterR; (repeat (first | rw [if_pos (by omega)] | rw [if_neg (by omega)])); first | done | rw [show i = x.toNat by omega])) trivial hP hD
    · skip
      refine lv_iload_n hx hb dX11_later_28 rfl (lv_at hl 4 rfl) ?_
      refine lv_iconst (v := iI 0) hx hb dX11_later_29 (by decide) ?_
      refine lv_iconst (v := iI 3) hx hb dX11_later_30 (by decide) ?_
      have hPm := zp_perm hP (zblk (show List.Perm ([WX0 X ad st ca, Wshelf X (ad 3) (ad 4) (aq 0) n pv, Wpan (ad 18) tv] : List va_W) ([] ++ [WX0 X ad st ca, Wshelf X (ad 3) (ad 4) (aq 0) n pv, Wpan (ad 18) tv]) from List.Perm.refl _))
      have hDm := zd_perm hD (zblk (show List.Perm ([WX0 X ad st ca, Wshelf X (ad 3) (ad 4) (aq 0) n pv, Wpan (ad 18) tv] : List va_W) ([] ++ [WX0 X ad st ca, Wshelf X (ad 3) (ad 4) (aq 0) n pv, Wpan (ad 18) tv]) from List.Perm.refl _))
      refine z_callS (wr := zb [WX0 X ad st ca, Wshelf X (ad 3) (ad 4) (aq 0) n pv, Wpan (ad 18) tv]) (As := [.int (iI y), .int (iI 0), .int (iI 3)]) (rest := []) ⟨hx, hb, hml, hown, hts⟩ (c_X11_isWithin l X y 0 3 (by omega)) (va_cwS 3 hts gX11_later_X11_isWithin rfl rfl rfl (by decide +kernel) ⟨Nat.le_of_ble_eq_true rfl, Nat.le_of_ble_eq_true rfl⟩) hl.1 dX11_later_31 rfl rfl (Nat.le_of_ble_eq_true rfl) ⟨Nat.le_of_ble_eq_true rfl, Nat.le_of_ble_eq_true rfl⟩ hS hA hK hPm hDm (fun _ H locs _ hP hD hS => ?_)
      have hP := zp_perm hP ((zblk (show List.Perm ([WX0 X ad st ca, Wshelf X (ad 3) (ad 4) (aq 0) n pv, Wpan (ad 18) tv] : List va_W) ([] ++ [WX0 X ad st ca, Wshelf X (ad 3) (ad 4) (aq 0) n pv, Wpan (ad 18) tv]) from List.Perm.refl _))).symm
      have hD := zd_perm hD ((zblk (show List.Perm ([WX0 X ad st ca, Wshelf X (ad 3) (ad 4) (aq 0) n pv, Wpan (ad 18) tv] : List va_W) ([] ++ [WX0 X ad st ca, Wshelf X (ad 3) (ad 4) (aq 0) n pv, Wpan (ad 18) tv]) from List.Perm.refl _))).symm
      have hP : va_P X.1 vwCl (zb [WX0 X ad st ca, Wshelf X (ad 3) (ad 4) (aq 0) n pv, Wpan (ad 18) tv]) H := hP
      have hD : va_D A (zb [WX0 X ad st ca, Wshelf X (ad 3) (ad 4) (aq 0) n pv, Wpan (ad 18) tv]) := hD
      refine W.eq (g2 := F0 m 34 ls [.int (iI (if 0 ≤ y ∧ y ≤ 3 then 1 else 0))]) rfl ?_
      refine z_if_ne (tgt := 40) hx hb (by omega) dX11_later_34 (by decide) (fun c_2 => ?_) (fun c_2 => ?_)
      · skip
        refine lv_aload_n hx hb dX11_later_40 rfl (lv_at hl 1 rfl) ?_
        refine va_get (ci := 11) (v := .ref (ad 18)) (C := RX11) (T := TX11) (N := 16) hx hb hts inX11 hown hK.1 hP 0 rfl rfl 13 (by decide) (hts (.fieldLink RX11 48 "SkimmedSons" "trialPan" "LSkimmedSons$Pan;") (by decide +kernel)) (fun _ h9 => h9) rfl dX11_later_41 ?_
        refine lv_aload hx hb dX11_later_44 (lv_at hl 0 rfl) ?_
        have hP := zp_perm hP (show List.Perm (zb [WX0 X ad st ca, Wshelf X (ad 3) (ad 4) (aq 0) n pv, Wpan (ad 18) tv]) (zb [WX0 X ad st ca, Wpan ((aq 0) z.toNat) (pv z.toNat), Wshx X (ad 3) (ad 4) (aq 0) n pv z.toNat, Wpan (ad 18) tv]) from zrep (pre := [WX0 X ad st ca]) (post := [Wpan (ad 18) tv]) (bs := [Wshelf X (ad 3) (ad 4) (aq 0) n pv]) (cs := [Wpan ((aq 0) z.toNat) (pv z.toNat), Wshx X (ad 3) (ad 4) (aq 0) n pv z.toNat]) (by rw [zb1]; exact shelf_foc (by omega)))
        have hD := zd_perm hD (show List.Perm (zb [WX0 X ad st ca, Wshelf X (ad 3) (ad 4) (aq 0) n pv, Wpan (ad 18) tv]) (zb [WX0 X ad st ca, Wpan ((aq 0) z.toNat) (pv z.toNat), Wshx X (ad 3) (ad 4) (aq 0) n pv z.toNat, Wpan (ad 18) tv]) from zrep (pre := [WX0 X ad st ca]) (post := [Wpan (ad 18) tv]) (bs := [Wshelf X (ad 3) (ad 4) (aq 0) n pv]) (cs := [Wpan ((aq 0) z.toNat) (pv z.toNat), Wshx X (ad 3) (ad 4) (aq 0) n pv z.toNat]) (by rw [zb1]; exact shelf_foc (by omega)))
        have hPm := zp_perm hP (zblk (show List.Perm ([WX0 X ad st ca, Wpan ((aq 0) z.toNat) (pv z.toNat), Wshx X (ad 3) (ad 4) (aq 0) n pv z.toNat, Wpan (ad 18) tv] : List va_W) ([Wpan (ad 18) tv, Wpan ((aq 0) z.toNat) (pv z.toNat)] ++ [WX0 X ad st ca, Wshx X (ad 3) (ad 4) (aq 0) n pv z.toNat]) from (zf1 _ 3 _ rfl).trans (((zf1 _ 1 _ rfl).trans ((List.Perm.refl _).cons _)).cons _)))
        have hDm := zd_perm hD (zblk (show List.Perm ([WX0 X ad st ca, Wpan ((aq 0) z.toNat) (pv z.toNat), Wshx X (ad 3) (ad 4) (aq 0) n pv z.toNat, Wpan (ad 18) tv] : List va_W) ([Wpan (ad 18) tv, Wpan ((aq 0) z.toNat) (pv z.toNat)] ++ [WX0 X ad st ca, Wshx X (ad 3) (ad 4) (aq 0) n pv z.toNat]) from (zf1 _ 3 _ rfl).trans (((zf1 _ 1 _ rfl).trans ((List.Perm.refl _).cons _)).cons _)))
        refine z_callV (wr := zb [WX0 X ad st ca, Wshx X (ad 3) (ad 4) (aq 0) n pv z.toNat]) (As := [.ref ((aq 0) z.toNat)]) (rest := []) ⟨hx, hb, hml, hown, hts⟩ (c_X4_copyFrom l X (ad 18) tv ((aq 0) z.toNat) (pv z.toNat) ) (cwV 1 hts gX11_later_X4_copyFrom rfl rfl rfl (by decide +kernel) ⟨Nat.le_of_ble_eq_true rfl, Nat.le_of_ble_eq_true rfl⟩) rfl rfl hl.1 dX11_later_46 rfl rfl (Nat.le_of_ble_eq_true rfl) ⟨Nat.le_of_ble_eq_true rfl, Nat.le_of_ble_eq_true rfl⟩ hS hA hK hPm hDm (fun _ H locs _ hP hD hS => ?_)
        have hP := zp_perm hP ((zblk (show List.Perm ([WX0 X ad st ca, Wpan ((aq 0) z.toNat) (pv z.toNat), Wshx X (ad 3) (ad 4) (aq 0) n pv z.toNat, Wpan (ad 18) (pv z.toNat)] : List va_W) ([Wpan (ad 18) (pv z.toNat), Wpan ((aq 0) z.toNat) (pv z.toNat)] ++ [WX0 X ad st ca, Wshx X (ad 3) (ad 4) (aq 0) n pv z.toNat]) from (zf1 _ 3 _ rfl).trans (((zf1 _ 1 _ rfl).trans ((List.Perm.refl _).cons _)).cons _)))).symm
        have hD := zd_perm hD ((zblk (show List.Perm ([WX0 X ad st ca, Wpan ((aq 0) z.toNat) (pv z.toNat), Wshx X (ad 3) (ad 4) (aq 0) n pv z.toNat, Wpan (ad 18) (pv z.toNat)] : List va_W) ([Wpan (ad 18) (pv z.toNat), Wpan ((aq 0) z.toNat) (pv z.toNat)] ++ [WX0 X ad st ca, Wshx X (ad 3) (ad 4) (aq 0) n pv z.toNat]) from (zf1 _ 3 _ rfl).trans (((zf1 _ 1 _ rfl).trans ((List.Perm.refl _).cons _)).cons _)))).symm
        have hP : va_P X.1 vwCl (zb [WX0 X ad st ca, Wpan ((aq 0) z.toNat) (pv z.toNat), Wshx X (ad 3) (ad 4) (aq 0) n pv z.toNat, Wpan (ad 18) (pv z.toNat)]) H := hP
        have hD : va_D A (zb [WX0 X ad st ca, Wpan ((aq 0) z.toNat) (pv z.toNat), Wshx X (ad 3) (ad 4) (aq 0) n pv z.toNat, Wpan (ad 18) (pv z.toNat)]) := hD
        refine W.eq (g2 := F0 m 49 ls []) rfl ?_
        have hP := zp_perm hP (show List.Perm (zb [WX0 X ad st ca, Wpan ((aq 0) z.toNat) (pv z.toNat), Wshx X (ad 3) (ad 4) (aq 0) n pv z.toNat, Wpan (ad 18) (pv z.toNat)]) (zb [WX0 X ad st ca, Wshelf X (ad 3) (ad 4) (aq 0) n (va_up pv z.toNat (pv z.toNat)), Wpan (ad 18) (pv z.toNat)]) from zrep (pre := [WX0 X ad st ca]) (post := [Wpan (ad 18) (pv z.toNat)]) (bs := [Wpan ((aq 0) z.toNat) (pv z.toNat), Wshx X (ad 3) (ad 4) (aq 0) n pv z.toNat]) (cs := [Wshelf X (ad 3) (ad 4) (aq 0) n (va_up pv z.toNat (pv z.toNat))]) (by rw [zb1]; exact shelf_unf (by omega) _))
        have hD := zd_perm hD (show List.Perm (zb [WX0 X ad st ca, Wpan ((aq 0) z.toNat) (pv z.toNat), Wshx X (ad 3) (ad 4) (aq 0) n pv z.toNat, Wpan (ad 18) (pv z.toNat)]) (zb [WX0 X ad st ca, Wshelf X (ad 3) (ad 4) (aq 0) n (va_up pv z.toNat (pv z.toNat)), Wpan (ad 18) (pv z.toNat)]) from zrep (pre := [WX0 X ad st ca]) (post := [Wpan (ad 18) (pv z.toNat)]) (bs := [Wpan ((aq 0) z.toNat) (pv z.toNat), Wshx X (ad 3) (ad 4) (aq 0) n pv z.toNat]) (cs := [Wshelf X (ad 3) (ad 4) (aq 0) n (va_up pv z.toNat (pv z.toNat))]) (by rw [zb1]; exact shelf_unf (by omega) _))
        rw [va_upId] at hP hD
        refine lv_iconst (v := iI 0) hx hb dX11_later_49 (by decide) ?_
        refine lv_istore (lv' := [(5, .int (iI 0)), (4, .ref ((aq 0) z.toNat)), (0, .ref (ad 0)), (1, .int (iI z)), (2, .int (iI x)), (3, .int (iI y))]) hx hb dX11_later_50 hl (by decide) rfl (fun ls hl => ?_)
        have L52 : ∀ (fu : Nat) (i : Nat), ((i : Int) ≤ x) → (x - ↑i).toNat < fu → ∀ (H : Heap) (locs : List Loc) (ls : Array Slot), va_P X.1 vwCl (zb [WX0 X ad st ca, Wshelf X (ad 3) (ad 4) (aq 0) n pv, Wpan (ad 18) (hoursP (pv z.toNat) i)]) H → va_D A (zb [WX0 X ad st ca, Wshelf X (ad 3) (ad 4) (aq 0) n pv, Wpan (ad 18) (hoursP (pv z.toNat) i)]) → va_S A s.heap H locs → lv_has ls 6 [(0, .ref (ad 0)), (2, .int (iI x)), (3, .int (iI y)), (5, .int (iI (↑i)))] → W p l e { frames := 2, cells := 0, slots := 0, locals := 61 } s m ([.ref (ad 0), .int (iI z), .int (iI x), .int (iI y)] : List Value).toArray below meth c H locs 0 0 Q (F0 m 52 ls []) := by
          intro fu
          induction fu with
          | zero => intro i hi hm; exact absurd hm (Nat.not_lt_zero _)
          | succ fu ih52 =>
            intro i hi hm H locs ls hP hD hS hl
            refine lv_iload hx hb dX11_later_52 (lv_at hl 3 rfl) ?_
            refine lv_iload_n hx hb dX11_later_54 rfl (lv_at hl 1 rfl) ?_
            refine z_icmp_ge (tgt := 71) hx hb (by omega) dX11_later_55 (by decide) (fun c_3 => ?_) (fun c_3 => ?_)
            · skip
              refine lv_aload_n hx hb dX11_later_71 rfl (lv_at hl 0 rfl) ?_
              refine va_get (ci := 11) (v := .ref (ad 18)) (C := RX11) (T := TX11) (N := 16) hx hb hts inX11 hown hK.1 hP 0 rfl rfl 13 (by decide) (hts (.fieldLink RX11 48 "SkimmedSons" "trialPan" "LSkimmedSons$Pan;") (by decide +kernel)) (fun _ h9 => h9) rfl dX11_later_72 ?_
              refine lv_iload_n hx hb dX11_later_75 rfl (lv_at hl 2 rfl) ?_
              have hPm := zp_perm hP (zblk (show List.Perm ([WX0 X ad st ca, Wshelf X (ad 3) (ad 4) (aq 0) n pv, Wpan (ad 18) (hoursP (pv z.toNat) i)] : List va_W) ([Wpan (ad 18) (hoursP (pv z.toNat) i)] ++ [WX0 X ad st ca, Wshelf X (ad 3) (ad 4) (aq 0) n pv]) from (zf1 _ 2 _ rfl).trans ((List.Perm.refl _).cons _)))
              have hDm := zd_perm hD (zblk (show List.Perm ([WX0 X ad st ca, Wshelf X (ad 3) (ad 4) (aq 0) n pv, Wpan (ad 18) (hoursP (pv z.toNat) i)] : List va_W) ([Wpan (ad 18) (hoursP (pv z.toNat) i)] ++ [WX0 X ad st ca, Wshelf X (ad 3) (ad 4) (aq 0) n pv]) from (zf1 _ 2 _ rfl).trans ((List.Perm.refl _).cons _)))
              refine z_callV (wr := zb [WX0 X ad st ca, Wshelf X (ad 3) (ad 4) (aq 0) n pv]) (As := [.int (iI y)]) (rest := []) ⟨hx, hb, hml, hown, hts⟩ (c_X4_much l X (ad 18) (hoursP (pv z.toNat) i) y (by omega)) (cwV 1 hts gX11_later_X4_much rfl rfl rfl (by decide +kernel) ⟨Nat.le_of_ble_eq_true rfl, Nat.le_of_ble_eq_true rfl⟩) rfl rfl hl.1 dX11_later_76 rfl rfl (Nat.le_of_ble_eq_true rfl) ⟨Nat.le_of_ble_eq_true rfl, Nat.le_of_ble_eq_true rfl⟩ hS hA hK hPm hDm (fun _ H locs _ hP hD hS => ?_)
              have hP := zp_perm hP ((zblk (show List.Perm ([WX0 X ad st ca, Wshelf X (ad 3) (ad 4) (aq 0) n pv, Wpan (ad 18) (hoursP (pv z.toNat) i)] : List va_W) ([Wpan (ad 18) (hoursP (pv z.toNat) i)] ++ [WX0 X ad st ca, Wshelf X (ad 3) (ad 4) (aq 0) n pv]) from (zf1 _ 2 _ rfl).trans ((List.Perm.refl _).cons _)))).symm
              have hD := zd_perm hD ((zblk (show List.Perm ([WX0 X ad st ca, Wshelf X (ad 3) (ad 4) (aq 0) n pv, Wpan (ad 18) (hoursP (pv z.toNat) i)] : List va_W) ([Wpan (ad 18) (hoursP (pv z.toNat) i)] ++ [WX0 X ad st ca, Wshelf X (ad 3) (ad 4) (aq 0) n pv]) from (zf1 _ 2 _ rfl).trans ((List.Perm.refl _).cons _)))).symm
              have hP : va_P X.1 vwCl (zb [WX0 X ad st ca, Wshelf X (ad 3) (ad 4) (aq 0) n pv, Wpan (ad 18) (hoursP (pv z.toNat) i)]) H := hP
              have hD : va_D A (zb [WX0 X ad st ca, Wshelf X (ad 3) (ad 4) (aq 0) n pv, Wpan (ad 18) (hoursP (pv z.toNat) i)]) := hD
              refine W.eq (g2 := F0 m 79 ls [.int (iI (muchP (hoursP (pv z.toNat) i) y))]) rfl ?_
              exact z_iret hQ hx hb hr hlocks hS ⟨Nat.le_of_ble_eq_true rfl, Nat.le_of_ble_eq_true rfl⟩ dX11_later_79 (hoursP (pv z.toNat) i) (congrArg (fun z => some (Value.int (iI z))) (show (laterR n z x y pv : Int) = muchP (hoursP (pv z.toNat) i) y by unfold laterR; (repeat (first | rw [if_pos (by omega)] | rw [if_neg (by omega)])); first | done | rw [show i = x.toNat by omega])) trivial hP hD
            · skip
              refine lv_aload_n hx hb dX11_later_58 rfl (lv_at hl 0 rfl) ?_
              refine va_get (ci := 11) (v := .ref (ad 18)) (C := RX11) (T := TX11) (N := 16) hx hb hts inX11 hown hK.1 hP 0 rfl rfl 13 (by decide) (hts (.fieldLink RX11 48 "SkimmedSons" "trialPan" "LSkimmedSons$Pan;") (by decide +kernel)) (fun _ h9 => h9) rfl dX11_later_59 ?_
              have hPm := zp_perm hP (zblk (show List.Perm ([WX0 X ad st ca, Wshelf X (ad 3) (ad 4) (aq 0) n pv, Wpan (ad 18) (hoursP (pv z.toNat) i)] : List va_W) ([Wpan (ad 18) (hoursP (pv z.toNat) i)] ++ [WX0 X ad st ca, Wshelf X (ad 3) (ad 4) (aq 0) n pv]) from (zf1 _ 2 _ rfl).trans ((List.Perm.refl _).cons _)))
              have hDm := zd_perm hD (zblk (show List.Perm ([WX0 X ad st ca, Wshelf X (ad 3) (ad 4) (aq 0) n pv, Wpan (ad 18) (hoursP (pv z.toNat) i)] : List va_W) ([Wpan (ad 18) (hoursP (pv z.toNat) i)] ++ [WX0 X ad st ca, Wshelf X (ad 3) (ad 4) (aq 0) n pv]) from (zf1 _ 2 _ rfl).trans ((List.Perm.refl _).cons _)))
              refine z_callV (wr := zb [WX0 X ad st ca, Wshelf X (ad 3) (ad 4) (aq 0) n pv]) (As := []) (rest := []) ⟨hx, hb, hml, hown, hts⟩ (c_X4_standHour l X (ad 18) (hoursP (pv z.toNat) i) (by exact (hoursP_in (hpg z.toNat (by omega)) i (by omega)).1)) (cwV 0 hts gX11_later_X4_standHour rfl rfl rfl (by decide +kernel) ⟨Nat.le_of_ble_eq_true rfl, Nat.le_of_ble_eq_true rfl⟩) rfl rfl hl.1 dX11_later_62 rfl rfl (Nat.le_of_ble_eq_true rfl) ⟨Nat.le_of_ble_eq_true rfl, Nat.le_of_ble_eq_true rfl⟩ hS hA hK hPm hDm (fun _ H locs _ hP hD hS => ?_)
              have hP := zp_perm hP ((zblk (show List.Perm ([WX0 X ad st ca, Wshelf X (ad 3) (ad 4) (aq 0) n pv, Wpan (ad 18) (hourP (hoursP (pv z.toNat) i))] : List va_W) ([Wpan (ad 18) (hourP (hoursP (pv z.toNat) i))] ++ [WX0 X ad st ca, Wshelf X (ad 3) (ad 4) (aq 0) n pv]) from (zf1 _ 2 _ rfl).trans ((List.Perm.refl _).cons _)))).symm
              have hD := zd_perm hD ((zblk (show List.Perm ([WX0 X ad st ca, Wshelf X (ad 3) (ad 4) (aq 0) n pv, Wpan (ad 18) (hourP (hoursP (pv z.toNat) i))] : List va_W) ([Wpan (ad 18) (hourP (hoursP (pv z.toNat) i))] ++ [WX0 X ad st ca, Wshelf X (ad 3) (ad 4) (aq 0) n pv]) from (zf1 _ 2 _ rfl).trans ((List.Perm.refl _).cons _)))).symm
              have hP : va_P X.1 vwCl (zb [WX0 X ad st ca, Wshelf X (ad 3) (ad 4) (aq 0) n pv, Wpan (ad 18) (hourP (hoursP (pv z.toNat) i))]) H := hP
              have hD : va_D A (zb [WX0 X ad st ca, Wshelf X (ad 3) (ad 4) (aq 0) n pv, Wpan (ad 18) (hourP (hoursP (pv z.toNat) i))]) := hD
              refine W.eq (g2 := F0 m 65 ls []) rfl ?_
              refine z_iinc (k := 3) (lv' := [(5, .int (iI ((↑i) + 1))), (0, .ref (ad 0)), (2, .int (iI x)), (3, .int (iI y))]) hx hb dX11_later_65 hl rfl (by decide) rfl (fun ls hl => ?_)
              refine lv_goto (tgt := 52) hx hb dX11_later_68 (by decide) ?_
              have hw_4 : zb [WX0 X ad st ca, Wshelf X (ad 3) (ad 4) (aq 0) n pv, Wpan (ad 18) (hourP (hoursP (pv z.toNat) i))] = zb [WX0 X ad st ca, Wshelf X (ad 3) (ad 4) (aq 0) n pv, Wpan (ad 18) (hoursP (pv z.toNat) (i + 1))] := by rfl
              rw [hw_4] at hP hD
              exact ih52  (i + 1) (by omega) (by omega) _ _ _ hP hD hS (lv_sub hl [1, 2, 3, 0] rfl)
        have hw_5 : zb [WX0 X ad st ca, Wshelf X (ad 3) (ad 4) (aq 0) n pv, Wpan (ad 18) (pv z.toNat)] = zb [WX0 X ad st ca, Wshelf X (ad 3) (ad 4) (aq 0) n pv, Wpan (ad 18) (hoursP (pv z.toNat) 0)] := by rfl
        rw [hw_5] at hP hD
        exact L52 ((x - ↑(0 : Nat)).toNat + 1) 0 (by omega) (by omega) _ _ _ hP hD hS (lv_sub hl [2, 4, 5, 0] rfl)
      · skip
        refine lv_bipush (v := iI (-102)) hx hb dX11_later_37 (by decide) ?_
        exact z_iret hQ hx hb hr hlocks hS ⟨Nat.le_of_ble_eq_true rfl, Nat.le_of_ble_eq_true rfl⟩ dX11_later_39 tv (congrArg (fun z => some (Value.int (iI z))) (show (laterR n z x y pv : Int) = (-102) by unfold laterR; (repeat (first | rw [if_pos (by omega)] | rw [if_neg (by omega)])); first | done | rw [show i = x.toNat by omega])) trivial hP hD
  · skip
    refine lv_aload_n hx hb dX11_later_0 rfl (lv_at hl 0 rfl) ?_
    refine va_get (ci := 11) (v := .ref (ad 3)) (C := RX11) (T := TX11) (N := 16) hx hb hts inX11 hown hK.1 hP 0 rfl rfl 1 (by decide) (hts (.fieldLink RX11 19 "SkimmedSons" "shelf" "LSkimmedSons$Shelf;") (by decide +kernel)) (fun _ h9 => h9) rfl dX11_later_1 ?_
    refine lv_iload_n hx hb dX11_later_4 rfl (lv_at hl 1 rfl) ?_
    have hPm := zp_perm hP (zblk (show List.Perm ([WX0 X ad st ca, Wshelf X (ad 3) (ad 4) (aq 0) n pv, Wpan (ad 18) tv] : List va_W) ([Wshelf X (ad 3) (ad 4) (aq 0) n pv] ++ [WX0 X ad st ca, Wpan (ad 18) tv]) from (zf1 _ 1 _ rfl).trans ((List.Perm.refl _).cons _)))
    have hDm := zd_perm hD (zblk (show List.Perm ([WX0 X ad st ca, Wshelf X (ad 3) (ad 4) (aq 0) n pv, Wpan (ad 18) tv] : List va_W) ([Wshelf X (ad 3) (ad 4) (aq 0) n pv] ++ [WX0 X ad st ca, Wpan (ad 18) tv]) from (zf1 _ 1 _ rfl).trans ((List.Perm.refl _).cons _)))
    refine z_callV (wr := zb [WX0 X ad st ca, Wpan (ad 18) tv]) (As := [.int (iI z)]) (rest := []) ⟨hx, hb, hml, hown, hts⟩ (c_X7_at_n l X (ad 3) (ad 4) (aq 0) n pv z (by omega) (by omega) (by omega)) (cwV 1 hts gX11_later_X7_at rfl rfl rfl (by decide +kernel) ⟨Nat.le_of_ble_eq_true rfl, Nat.le_of_ble_eq_true rfl⟩) rfl rfl hl.1 dX11_later_5 rfl rfl (Nat.le_of_ble_eq_true rfl) ⟨Nat.le_of_ble_eq_true rfl, Nat.le_of_ble_eq_true rfl⟩ hS hA hK hPm hDm (fun _ H locs _ hP hD hS => ?_)
    have hP := zp_perm hP ((zblk (show List.Perm ([WX0 X ad st ca, Wshelf X (ad 3) (ad 4) (aq 0) n pv, Wpan (ad 18) tv] : List va_W) ([Wshelf X (ad 3) (ad 4) (aq 0) n pv] ++ [WX0 X ad st ca, Wpan (ad 18) tv]) from (zf1 _ 1 _ rfl).trans ((List.Perm.refl _).cons _)))).symm
    have hD := zd_perm hD ((zblk (show List.Perm ([WX0 X ad st ca, Wshelf X (ad 3) (ad 4) (aq 0) n pv, Wpan (ad 18) tv] : List va_W) ([Wshelf X (ad 3) (ad 4) (aq 0) n pv] ++ [WX0 X ad st ca, Wpan (ad 18) tv]) from (zf1 _ 1 _ rfl).trans ((List.Perm.refl _).cons _)))).symm
    have hP : va_P X.1 vwCl (zb [WX0 X ad st ca, Wshelf X (ad 3) (ad 4) (aq 0) n pv, Wpan (ad 18) tv]) H := hP
    have hD : va_D A (zb [WX0 X ad st ca, Wshelf X (ad 3) (ad 4) (aq 0) n pv, Wpan (ad 18) tv]) := hD
    refine W.eq (g2 := F0 m 8 ls [.null]) rfl ?_
    refine lv_astoreN (lv' := [(4, .null), (0, .ref (ad 0)), (1, .int (iI z)), (2, .int (iI x)), (3, .int (iI y))]) hx hb dX11_later_8 hl (by decide) rfl (fun ls hl => ?_)
    refine lv_aloadN hx hb dX11_later_10 (lv_at hl 0 rfl) ?_
    refine lv_ifnonnullN hx hb dX11_later_12 ?_
    refine lv_bipush (v := iI (-101)) hx hb dX11_later_15 (by decide) ?_
    exact z_iret hQ hx hb hr hlocks hS ⟨Nat.le_of_ble_eq_true rfl, Nat.le_of_ble_eq_true rfl⟩ dX11_later_17 tv (congrArg (fun z => some (Value.int (iI z))) (show (laterR n z x y pv : Int) = (-101) by unfold laterR; (repeat (first | rw [if_pos (by omega)] | rw [if_neg (by omega)])); first | done | rw [show i = x.toNat by omega])) trivial hP hD
