set_option maxHeartbeats 1000000 in
set_option maxRecDepth 100000 in
theorem c_X0_kind (l : Launch) (X : zX) (o : Nat) (k : Nat) (a : Nat) (b : Nat) (fh : Nat → Int) (fk : Nat → Int)  : zF l X yX0_kind wsX0_kind 0 0 [.ref o] (zb [Wchild X o k a b fh fk]) (some (.int (iI 0))) (zb [Wchild X o k a b fh fk]) := by
  refine z_enter (cc := cX0_kind) (maxL := 1) (ret := (some .int)) (by decide) rfl (Nat.le_of_ble_eq_true rfl) ?_
  intro p e s m below meth c A ls Q hQ hE hl hP hD
  obtain ⟨hx, hb, hr, hml, hown, hts, hlocks, hnm, hA, hK⟩ := hE
  have hown : s.vm.findClass RX0 = some m.cls := hown
  have hS : va_S A s.heap s.heap [] := va_S.rf
  have hl : lv_has ls 1 [(0, .ref o)] := hl
  refine lv_iconst (v := iI 0) hx hb dX0_kind_0 (by decide) ?_
  exact z_iret hQ hx hb hr hlocks hS ⟨Nat.le_of_ble_eq_true rfl, Nat.le_of_ble_eq_true rfl⟩ dX0_kind_1 () rfl trivial hP hD
set_option maxHeartbeats 1000000 in
set_option maxRecDepth 100000 in
theorem c_X1_kind (l : Launch) (X : zX) (o : Nat) (k : Nat) (a : Nat) (b : Nat) (fh : Nat → Int) (fk : Nat → Int)  : zF l X yX1_kind wsX1_kind 0 0 [.ref o] (zb [Wchild X o k a b fh fk]) (some (.int (iI 1))) (zb [Wchild X o k a b fh fk]) := by
  refine z_enter (cc := cX1_kind) (maxL := 1) (ret := (some .int)) (by decide) rfl (Nat.le_of_ble_eq_true rfl) ?_
  intro p e s m below meth c A ls Q hQ hE hl hP hD
  obtain ⟨hx, hb, hr, hml, hown, hts, hlocks, hnm, hA, hK⟩ := hE
  have hown : s.vm.findClass RX1 = some m.cls := hown
  have hS : va_S A s.heap s.heap [] := va_S.rf
  have hl : lv_has ls 1 [(0, .ref o)] := hl
  refine lv_iconst (v := iI 1) hx hb dX1_kind_0 (by decide) ?_
  exact z_iret hQ hx hb hr hlocks hS ⟨Nat.le_of_ble_eq_true rfl, Nat.le_of_ble_eq_true rfl⟩ dX1_kind_1 () rfl trivial hP hD
set_option maxHeartbeats 1000000 in
set_option maxRecDepth 100000 in
theorem c_X6_kind (l : Launch) (X : zX) (o : Nat) (k : Nat) (a : Nat) (b : Nat) (fh : Nat → Int) (fk : Nat → Int)  : zF l X yX6_kind wsX6_kind 0 0 [.ref o] (zb [Wchild X o k a b fh fk]) (some (.int (iI 2))) (zb [Wchild X o k a b fh fk]) := by
  refine z_enter (cc := cX6_kind) (maxL := 1) (ret := (some .int)) (by decide) rfl (Nat.le_of_ble_eq_true rfl) ?_
  intro p e s m below meth c A ls Q hQ hE hl hP hD
  obtain ⟨hx, hb, hr, hml, hown, hts, hlocks, hnm, hA, hK⟩ := hE
  have hown : s.vm.findClass RX6 = some m.cls := hown
  have hS : va_S A s.heap s.heap [] := va_S.rf
  have hl : lv_has ls 1 [(0, .ref o)] := hl
  refine lv_iconst (v := iI 2) hx hb dX6_kind_0 (by decide) ?_
  exact z_iret hQ hx hb hr hlocks hS ⟨Nat.le_of_ble_eq_true rfl, Nat.le_of_ble_eq_true rfl⟩ dX6_kind_1 () rfl trivial hP hD
set_option maxHeartbeats 1000000 in
set_option maxRecDepth 100000 in
theorem c_X10_kind (l : Launch) (X : zX) (o : Nat) (k : Nat) (a : Nat) (b : Nat) (fh : Nat → Int) (fk : Nat → Int)  : zF l X yX10_kind wsX10_kind 0 0 [.ref o] (zb [Wchild X o k a b fh fk]) (some (.int (iI 3))) (zb [Wchild X o k a b fh fk]) := by
  refine z_enter (cc := cX10_kind) (maxL := 1) (ret := (some .int)) (by decide) rfl (Nat.le_of_ble_eq_true rfl) ?_
  intro p e s m below meth c A ls Q hQ hE hl hP hD
  obtain ⟨hx, hb, hr, hml, hown, hts, hlocks, hnm, hA, hK⟩ := hE
  have hown : s.vm.findClass RX10 = some m.cls := hown
  have hS : va_S A s.heap s.heap [] := va_S.rf
  have hl : lv_has ls 1 [(0, .ref o)] := hl
  refine lv_iconst (v := iI 3) hx hb dX10_kind_0 (by decide) ?_
  exact z_iret hQ hx hb hr hlocks hS ⟨Nat.le_of_ble_eq_true rfl, Nat.le_of_ble_eq_true rfl⟩ dX10_kind_1 () rfl trivial hP hD
set_option maxHeartbeats 1000000 in
set_option maxRecDepth 100000 in
theorem c_X2_kind (l : Launch) (X : zX) (o : Nat) (k : Nat) (a : Nat) (b : Nat) (fh : Nat → Int) (fk : Nat → Int)  : zF l X yX2_kind wsX2_kind 0 0 [.ref o] (zb [Wchild X o k a b fh fk]) (some (.int (iI 4))) (zb [Wchild X o k a b fh fk]) := by
  refine z_enter (cc := cX2_kind) (maxL := 1) (ret := (some .int)) (by decide) rfl (Nat.le_of_ble_eq_true rfl) ?_
  intro p e s m below meth c A ls Q hQ hE hl hP hD
  obtain ⟨hx, hb, hr, hml, hown, hts, hlocks, hnm, hA, hK⟩ := hE
  have hown : s.vm.findClass RX2 = some m.cls := hown
  have hS : va_S A s.heap s.heap [] := va_S.rf
  have hl : lv_has ls 1 [(0, .ref o)] := hl
  refine lv_iconst (v := iI 4) hx hb dX2_kind_0 (by decide) ?_
  exact z_iret hQ hx hb hr hlocks hS ⟨Nat.le_of_ble_eq_true rfl, Nat.le_of_ble_eq_true rfl⟩ dX2_kind_1 () rfl trivial hP hD
set_option maxHeartbeats 1000000 in
set_option maxRecDepth 100000 in
theorem c_X0_filmWorth (l : Launch) (X : zX) (o : Nat) (k : Nat) (a : Nat) (b : Nat) (fh : Nat → Int) (fk : Nat → Int)  : zF l X yX0_filmWorth wsX0_filmWorth 0 0 [.ref o] (zb [Wchild X o k a b fh fk]) (some (.int (iI 4))) (zb [Wchild X o k a b fh fk]) := by
  refine z_enter (cc := cX0_filmWorth) (maxL := 1) (ret := (some .int)) (by decide) rfl (Nat.le_of_ble_eq_true rfl) ?_
  intro p e s m below meth c A ls Q hQ hE hl hP hD
  obtain ⟨hx, hb, hr, hml, hown, hts, hlocks, hnm, hA, hK⟩ := hE
  have hown : s.vm.findClass RX0 = some m.cls := hown
  have hS : va_S A s.heap s.heap [] := va_S.rf
  have hl : lv_has ls 1 [(0, .ref o)] := hl
  refine lv_iconst (v := iI 4) hx hb dX0_filmWorth_0 (by decide) ?_
  exact z_iret hQ hx hb hr hlocks hS ⟨Nat.le_of_ble_eq_true rfl, Nat.le_of_ble_eq_true rfl⟩ dX0_filmWorth_1 () rfl trivial hP hD
set_option maxHeartbeats 1000000 in
set_option maxRecDepth 100000 in
theorem c_X0_creamWorth (l : Launch) (X : zX) (o : Nat) (k : Nat) (a : Nat) (b : Nat) (fh : Nat → Int) (fk : Nat → Int)  : zF l X yX0_creamWorth wsX0_creamWorth 0 0 [.ref o] (zb [Wchild X o k a b fh fk]) (some (.int (iI 2))) (zb [Wchild X o k a b fh fk]) := by
  refine z_enter (cc := cX0_creamWorth) (maxL := 1) (ret := (some .int)) (by decide) rfl (Nat.le_of_ble_eq_true rfl) ?_
  intro p e s m below meth c A ls Q hQ hE hl hP hD
  obtain ⟨hx, hb, hr, hml, hown, hts, hlocks, hnm, hA, hK⟩ := hE
  have hown : s.vm.findClass RX0 = some m.cls := hown
  have hS : va_S A s.heap s.heap [] := va_S.rf
  have hl : lv_has ls 1 [(0, .ref o)] := hl
  refine lv_iconst (v := iI 2) hx hb dX0_creamWorth_0 (by decide) ?_
  exact z_iret hQ hx hb hr hlocks hS ⟨Nat.le_of_ble_eq_true rfl, Nat.le_of_ble_eq_true rfl⟩ dX0_creamWorth_1 () rfl trivial hP hD
set_option maxHeartbeats 1000000 in
set_option maxRecDepth 100000 in
theorem c_X0_blueWorth (l : Launch) (X : zX) (o : Nat) (k : Nat) (a : Nat) (b : Nat) (fh : Nat → Int) (fk : Nat → Int)  : zF l X yX0_blueWorth wsX0_blueWorth 0 0 [.ref o] (zb [Wchild X o k a b fh fk]) (some (.int (iI 1))) (zb [Wchild X o k a b fh fk]) := by
  refine z_enter (cc := cX0_blueWorth) (maxL := 1) (ret := (some .int)) (by decide) rfl (Nat.le_of_ble_eq_true rfl) ?_
  intro p e s m below meth c A ls Q hQ hE hl hP hD
  obtain ⟨hx, hb, hr, hml, hown, hts, hlocks, hnm, hA, hK⟩ := hE
  have hown : s.vm.findClass RX0 = some m.cls := hown
  have hS : va_S A s.heap s.heap [] := va_S.rf
  have hl : lv_has ls 1 [(0, .ref o)] := hl
  refine lv_iconst (v := iI 1) hx hb dX0_blueWorth_0 (by decide) ?_
  exact z_iret hQ hx hb hr hlocks hS ⟨Nat.le_of_ble_eq_true rfl, Nat.le_of_ble_eq_true rfl⟩ dX0_blueWorth_1 () rfl trivial hP hD
set_option maxHeartbeats 1000000 in
set_option maxRecDepth 100000 in
theorem c_X1_creamWorth (l : Launch) (X : zX) (o : Nat) (a : Nat) (b : Nat) (fh : Nat → Int) (fk : Nat → Int)  : zF l X yX1_creamWorth wsX1_creamWorth 1 20 [.ref o] (zb [Wchild X o 1 a b fh fk]) (some (.int (iI 4))) (zb [Wchild X o 1 a b fh fk]) := by
  refine z_enter (cc := cX1_creamWorth) (maxL := 1) (ret := (some .int)) (by decide) rfl (Nat.le_of_ble_eq_true rfl) ?_
  intro p e s m below meth c A ls Q hQ hE hl hP hD
  obtain ⟨hx, hb, hr, hml, hown, hts, hlocks, hnm, hA, hK⟩ := hE
  have hown : s.vm.findClass RX1 = some m.cls := hown
  have hS : va_S A s.heap s.heap [] := va_S.rf
  have hl : lv_has ls 1 [(0, .ref o)] := hl
  refine lv_iconst (v := iI 2) hx hb dX1_creamWorth_0 (by decide) ?_
  refine lv_aload_n hx hb dX1_creamWorth_1 rfl (lv_at hl 0 rfl) ?_
  have hPm := zp_perm hP (zblk (show List.Perm ([Wchild X o 1 a b fh fk] : List va_W) ([Wchild X o 1 a b fh fk] ++ []) from (zf1 _ 0 _ rfl).trans ((List.Perm.refl _).cons _)))
  have hDm := zd_perm hD (zblk (show List.Perm ([Wchild X o 1 a b fh fk] : List va_W) ([Wchild X o 1 a b fh fk] ++ []) from (zf1 _ 0 _ rfl).trans ((List.Perm.refl _).cons _)))
  refine z_callSU (wr := zb []) (As := []) (rest := [.int (iI 2)]) ⟨hx, hb, hml, hown, hts⟩ (c_X0_creamWorth l X o 1 a b fh fk ) (va_cwSU 0 hts gX1_creamWorth_X0_creamWorth_s9 rfl rfl rfl (by decide +kernel) ⟨Nat.le_of_ble_eq_true rfl, Nat.le_of_ble_eq_true rfl⟩) rfl rfl hl.1 dX1_creamWorth_2 rfl rfl (Nat.le_of_ble_eq_true rfl) ⟨Nat.le_of_ble_eq_true rfl, Nat.le_of_ble_eq_true rfl⟩ hS hA hK hPm hDm (fun _ H locs _ hP hD hS => ?_)
  have hP := zp_perm hP ((zblk (show List.Perm ([Wchild X o 1 a b fh fk] : List va_W) ([Wchild X o 1 a b fh fk] ++ []) from (zf1 _ 0 _ rfl).trans ((List.Perm.refl _).cons _)))).symm
  have hD := zd_perm hD ((zblk (show List.Perm ([Wchild X o 1 a b fh fk] : List va_W) ([Wchild X o 1 a b fh fk] ++ []) from (zf1 _ 0 _ rfl).trans ((List.Perm.refl _).cons _)))).symm
  have hP : va_P X.1 vwCl (zb [Wchild X o 1 a b fh fk]) H := hP
  have hD : va_D A (zb [Wchild X o 1 a b fh fk]) := hD
  refine W.eq (g2 := F0 m 5 ls [.int (iI 2), .int (iI 2)]) rfl ?_
  refine z_imul hx hb dX1_creamWorth_5 ?_
  refine W.eq (g2 := F0 m 6 ls [.int (iI 4)]) rfl ?_
  exact z_iret hQ hx hb hr hlocks hS ⟨Nat.le_of_ble_eq_true rfl, Nat.le_of_ble_eq_true rfl⟩ dX1_creamWorth_6 () rfl trivial hP hD
set_option maxHeartbeats 1000000 in
set_option maxRecDepth 100000 in
theorem c_X1_blueWorth (l : Launch) (X : zX) (o : Nat) (a : Nat) (b : Nat) (fh : Nat → Int) (fk : Nat → Int)  : zF l X yX1_blueWorth wsX1_blueWorth 0 0 [.ref o] (zb [Wchild X o 1 a b fh fk]) (some (.int (iI 0))) (zb [Wchild X o 1 a b fh fk]) := by
  refine z_enter (cc := cX1_blueWorth) (maxL := 1) (ret := (some .int)) (by decide) rfl (Nat.le_of_ble_eq_true rfl) ?_
  intro p e s m below meth c A ls Q hQ hE hl hP hD
  obtain ⟨hx, hb, hr, hml, hown, hts, hlocks, hnm, hA, hK⟩ := hE
  have hown : s.vm.findClass RX1 = some m.cls := hown
  have hS : va_S A s.heap s.heap [] := va_S.rf
  have hl : lv_has ls 1 [(0, .ref o)] := hl
  refine lv_iconst (v := iI 0) hx hb dX1_blueWorth_0 (by decide) ?_
  exact z_iret hQ hx hb hr hlocks hS ⟨Nat.le_of_ble_eq_true rfl, Nat.le_of_ble_eq_true rfl⟩ dX1_blueWorth_1 () rfl trivial hP hD
set_option maxHeartbeats 1000000 in
set_option maxRecDepth 100000 in
theorem c_X6_creamWorth (l : Launch) (X : zX) (o : Nat) (a : Nat) (b : Nat) (fh : Nat → Int) (fk : Nat → Int)  : zF l X yX6_creamWorth wsX6_creamWorth 1 20 [.ref o] (zb [Wchild X o 2 a b fh fk]) (some (.int (iI 1))) (zb [Wchild X o 2 a b fh fk]) := by
  refine z_enter (cc := cX6_creamWorth) (maxL := 1) (ret := (some .int)) (by decide) rfl (Nat.le_of_ble_eq_true rfl) ?_
  intro p e s m below meth c A ls Q hQ hE hl hP hD
  obtain ⟨hx, hb, hr, hml, hown, hts, hlocks, hnm, hA, hK⟩ := hE
  have hown : s.vm.findClass RX6 = some m.cls := hown
  have hS : va_S A s.heap s.heap [] := va_S.rf
  have hl : lv_has ls 1 [(0, .ref o)] := hl
  refine lv_aload_n hx hb dX6_creamWorth_0 rfl (lv_at hl 0 rfl) ?_
  have hPm := zp_perm hP (zblk (show List.Perm ([Wchild X o 2 a b fh fk] : List va_W) ([Wchild X o 2 a b fh fk] ++ []) from (zf1 _ 0 _ rfl).trans ((List.Perm.refl _).cons _)))
  have hDm := zd_perm hD (zblk (show List.Perm ([Wchild X o 2 a b fh fk] : List va_W) ([Wchild X o 2 a b fh fk] ++ []) from (zf1 _ 0 _ rfl).trans ((List.Perm.refl _).cons _)))
  refine z_callSU (wr := zb []) (As := []) (rest := []) ⟨hx, hb, hml, hown, hts⟩ (c_X0_creamWorth l X o 2 a b fh fk ) (va_cwSU 0 hts gX6_creamWorth_X0_creamWorth_s9 rfl rfl rfl (by decide +kernel) ⟨Nat.le_of_ble_eq_true rfl, Nat.le_of_ble_eq_true rfl⟩) rfl rfl hl.1 dX6_creamWorth_1 rfl rfl (Nat.le_of_ble_eq_true rfl) ⟨Nat.le_of_ble_eq_true rfl, Nat.le_of_ble_eq_true rfl⟩ hS hA hK hPm hDm (fun _ H locs _ hP hD hS => ?_)
  have hP := zp_perm hP ((zblk (show List.Perm ([Wchild X o 2 a b fh fk] : List va_W) ([Wchild X o 2 a b fh fk] ++ []) from (zf1 _ 0 _ rfl).trans ((List.Perm.refl _).cons _)))).symm
  have hD := zd_perm hD ((zblk (show List.Perm ([Wchild X o 2 a b fh fk] : List va_W) ([Wchild X o 2 a b fh fk] ++ []) from (zf1 _ 0 _ rfl).trans ((List.Perm.refl _).cons _)))).symm
  have hP : va_P X.1 vwCl (zb [Wchild X o 2 a b fh fk]) H := hP
  have hD : va_D A (zb [Wchild X o 2 a b fh fk]) := hD
  refine W.eq (g2 := F0 m 4 ls [.int (iI 2)]) rfl ?_
  refine lv_iconst (v := iI 1) hx hb dX6_creamWorth_4 (by decide) ?_
  refine z_isub hx hb dX6_creamWorth_5 ?_
  refine W.eq (g2 := F0 m 6 ls [.int (iI 1)]) rfl ?_
  exact z_iret hQ hx hb hr hlocks hS ⟨Nat.le_of_ble_eq_true rfl, Nat.le_of_ble_eq_true rfl⟩ dX6_creamWorth_6 () rfl trivial hP hD
set_option maxHeartbeats 1000000 in
set_option maxRecDepth 100000 in
theorem c_X6_blueWorth (l : Launch) (X : zX) (o : Nat) (a : Nat) (b : Nat) (fh : Nat → Int) (fk : Nat → Int)  : zF l X yX6_blueWorth wsX6_blueWorth 1 20 [.ref o] (zb [Wchild X o 2 a b fh fk]) (some (.int (iI 2))) (zb [Wchild X o 2 a b fh fk]) := by
  refine z_enter (cc := cX6_blueWorth) (maxL := 1) (ret := (some .int)) (by decide) rfl (Nat.le_of_ble_eq_true rfl) ?_
  intro p e s m below meth c A ls Q hQ hE hl hP hD
  obtain ⟨hx, hb, hr, hml, hown, hts, hlocks, hnm, hA, hK⟩ := hE
  have hown : s.vm.findClass RX6 = some m.cls := hown
  have hS : va_S A s.heap s.heap [] := va_S.rf
  have hl : lv_has ls 1 [(0, .ref o)] := hl
  refine lv_aload_n hx hb dX6_blueWorth_0 rfl (lv_at hl 0 rfl) ?_
  have hPm := zp_perm hP (zblk (show List.Perm ([Wchild X o 2 a b fh fk] : List va_W) ([Wchild X o 2 a b fh fk] ++ []) from (zf1 _ 0 _ rfl).trans ((List.Perm.refl _).cons _)))
  have hDm := zd_perm hD (zblk (show List.Perm ([Wchild X o 2 a b fh fk] : List va_W) ([Wchild X o 2 a b fh fk] ++ []) from (zf1 _ 0 _ rfl).trans ((List.Perm.refl _).cons _)))
  refine z_callSU (wr := zb []) (As := []) (rest := []) ⟨hx, hb, hml, hown, hts⟩ (c_X0_blueWorth l X o 2 a b fh fk ) (va_cwSU 0 hts gX6_blueWorth_X0_blueWorth_s13 rfl rfl rfl (by decide +kernel) ⟨Nat.le_of_ble_eq_true rfl, Nat.le_of_ble_eq_true rfl⟩) rfl rfl hl.1 dX6_blueWorth_1 rfl rfl (Nat.le_of_ble_eq_true rfl) ⟨Nat.le_of_ble_eq_true rfl, Nat.le_of_ble_eq_true rfl⟩ hS hA hK hPm hDm (fun _ H locs _ hP hD hS => ?_)
  have hP := zp_perm hP ((zblk (show List.Perm ([Wchild X o 2 a b fh fk] : List va_W) ([Wchild X o 2 a b fh fk] ++ []) from (zf1 _ 0 _ rfl).trans ((List.Perm.refl _).cons _)))).symm
  have hD := zd_perm hD ((zblk (show List.Perm ([Wchild X o 2 a b fh fk] : List va_W) ([Wchild X o 2 a b fh fk] ++ []) from (zf1 _ 0 _ rfl).trans ((List.Perm.refl _).cons _)))).symm
  have hP : va_P X.1 vwCl (zb [Wchild X o 2 a b fh fk]) H := hP
  have hD : va_D A (zb [Wchild X o 2 a b fh fk]) := hD
  refine W.eq (g2 := F0 m 4 ls [.int (iI 1)]) rfl ?_
  refine lv_iconst (v := iI 1) hx hb dX6_blueWorth_4 (by decide) ?_
  refine z_iadd hx hb dX6_blueWorth_5 ?_
  refine W.eq (g2 := F0 m 6 ls [.int (iI 2)]) rfl ?_
  exact z_iret hQ hx hb hr hlocks hS ⟨Nat.le_of_ble_eq_true rfl, Nat.le_of_ble_eq_true rfl⟩ dX6_blueWorth_6 () rfl trivial hP hD
set_option maxHeartbeats 1000000 in
set_option maxRecDepth 100000 in
theorem c_X10_filmWorth_y (l : Launch) (X : zX) (o : Nat) (a : Nat) (b : Nat) (fh : Nat → Int) (fk : Nat → Int)  : zF l X yX10_filmWorth wsX10_filmWorth 1 20 [.ref o] (zb [Wchild X o 3 a b fh fk]) (some (.int (iI 8))) (zb [Wchild X o 3 a b fh fk]) := by
  refine z_enter (cc := cX10_filmWorth) (maxL := 1) (ret := (some .int)) (by decide) rfl (Nat.le_of_ble_eq_true rfl) ?_
  intro p e s m below meth c A ls Q hQ hE hl hP hD
  obtain ⟨hx, hb, hr, hml, hown, hts, hlocks, hnm, hA, hK⟩ := hE
  have hown : s.vm.findClass RX10 = some m.cls := hown
  have hS : va_S A s.heap s.heap [] := va_S.rf
  have hl : lv_has ls 1 [(0, .ref o)] := hl
  refine lv_iconst (v := iI 2) hx hb dX10_filmWorth_0 (by decide) ?_
  refine lv_aload_n hx hb dX10_filmWorth_1 rfl (lv_at hl 0 rfl) ?_
  have hPm := zp_perm hP (zblk (show List.Perm ([Wchild X o 3 a b fh fk] : List va_W) ([Wchild X o 3 a b fh fk] ++ []) from (zf1 _ 0 _ rfl).trans ((List.Perm.refl _).cons _)))
  have hDm := zd_perm hD (zblk (show List.Perm ([Wchild X o 3 a b fh fk] : List va_W) ([Wchild X o 3 a b fh fk] ++ []) from (zf1 _ 0 _ rfl).trans ((List.Perm.refl _).cons _)))
  refine z_callSU (wr := zb []) (As := []) (rest := [.int (iI 2)]) ⟨hx, hb, hml, hown, hts⟩ (c_X0_filmWorth l X o 3 a b fh fk ) (va_cwSU 0 hts gX10_filmWorth_X0_filmWorth_s9 rfl rfl rfl (by decide +kernel) ⟨Nat.le_of_ble_eq_true rfl, Nat.le_of_ble_eq_true rfl⟩) rfl rfl hl.1 dX10_filmWorth_2 rfl rfl (Nat.le_of_ble_eq_true rfl) ⟨Nat.le_of_ble_eq_true rfl, Nat.le_of_ble_eq_true rfl⟩ hS hA hK hPm hDm (fun _ H locs _ hP hD hS => ?_)
  have hP := zp_perm hP ((zblk (show List.Perm ([Wchild X o 3 a b fh fk] : List va_W) ([Wchild X o 3 a b fh fk] ++ []) from (zf1 _ 0 _ rfl).trans ((List.Perm.refl _).cons _)))).symm
  have hD := zd_perm hD ((zblk (show List.Perm ([Wchild X o 3 a b fh fk] : List va_W) ([Wchild X o 3 a b fh fk] ++ []) from (zf1 _ 0 _ rfl).trans ((List.Perm.refl _).cons _)))).symm
  have hP : va_P X.1 vwCl (zb [Wchild X o 3 a b fh fk]) H := hP
  have hD : va_D A (zb [Wchild X o 3 a b fh fk]) := hD
  refine W.eq (g2 := F0 m 5 ls [.int (iI 4), .int (iI 2)]) rfl ?_
  refine z_imul hx hb dX10_filmWorth_5 ?_
  refine W.eq (g2 := F0 m 6 ls [.int (iI 8)]) rfl ?_
  exact z_iret hQ hx hb hr hlocks hS ⟨Nat.le_of_ble_eq_true rfl, Nat.le_of_ble_eq_true rfl⟩ dX10_filmWorth_6 () rfl trivial hP hD
set_option maxHeartbeats 1000000 in
set_option maxRecDepth 100000 in
theorem c_X10_filmWorth_j (l : Launch) (X : zX) (o : Nat) (a : Nat) (b : Nat) (fh : Nat → Int) (fk : Nat → Int)  : zF l X yX10_filmWorth wsX10_filmWorth 1 20 [.ref o] (zb [Wchild X o 4 a b fh fk]) (some (.int (iI 8))) (zb [Wchild X o 4 a b fh fk]) := by
  refine z_enter (cc := cX10_filmWorth) (maxL := 1) (ret := (some .int)) (by decide) rfl (Nat.le_of_ble_eq_true rfl) ?_
  intro p e s m below meth c A ls Q hQ hE hl hP hD
  obtain ⟨hx, hb, hr, hml, hown, hts, hlocks, hnm, hA, hK⟩ := hE
  have hown : s.vm.findClass RX10 = some m.cls := hown
  have hS : va_S A s.heap s.heap [] := va_S.rf
  have hl : lv_has ls 1 [(0, .ref o)] := hl
  refine lv_iconst (v := iI 2) hx hb dX10_filmWorth_0 (by decide) ?_
  refine lv_aload_n hx hb dX10_filmWorth_1 rfl (lv_at hl 0 rfl) ?_
  have hPm := zp_perm hP (zblk (show List.Perm ([Wchild X o 4 a b fh fk] : List va_W) ([Wchild X o 4 a b fh fk] ++ []) from (zf1 _ 0 _ rfl).trans ((List.Perm.refl _).cons _)))
  have hDm := zd_perm hD (zblk (show List.Perm ([Wchild X o 4 a b fh fk] : List va_W) ([Wchild X o 4 a b fh fk] ++ []) from (zf1 _ 0 _ rfl).trans ((List.Perm.refl _).cons _)))
  refine z_callSU (wr := zb []) (As := []) (rest := [.int (iI 2)]) ⟨hx, hb, hml, hown, hts⟩ (c_X0_filmWorth l X o 4 a b fh fk ) (va_cwSU 0 hts gX10_filmWorth_X0_filmWorth_s9 rfl rfl rfl (by decide +kernel) ⟨Nat.le_of_ble_eq_true rfl, Nat.le_of_ble_eq_true rfl⟩) rfl rfl hl.1 dX10_filmWorth_2 rfl rfl (Nat.le_of_ble_eq_true rfl) ⟨Nat.le_of_ble_eq_true rfl, Nat.le_of_ble_eq_true rfl⟩ hS hA hK hPm hDm (fun _ H locs _ hP hD hS => ?_)
  have hP := zp_perm hP ((zblk (show List.Perm ([Wchild X o 4 a b fh fk] : List va_W) ([Wchild X o 4 a b fh fk] ++ []) from (zf1 _ 0 _ rfl).trans ((List.Perm.refl _).cons _)))).symm
  have hD := zd_perm hD ((zblk (show List.Perm ([Wchild X o 4 a b fh fk] : List va_W) ([Wchild X o 4 a b fh fk] ++ []) from (zf1 _ 0 _ rfl).trans ((List.Perm.refl _).cons _)))).symm
  have hP : va_P X.1 vwCl (zb [Wchild X o 4 a b fh fk]) H := hP
  have hD : va_D A (zb [Wchild X o 4 a b fh fk]) := hD
  refine W.eq (g2 := F0 m 5 ls [.int (iI 4), .int (iI 2)]) rfl ?_
  refine z_imul hx hb dX10_filmWorth_5 ?_
  refine W.eq (g2 := F0 m 6 ls [.int (iI 8)]) rfl ?_
  exact z_iret hQ hx hb hr hlocks hS ⟨Nat.le_of_ble_eq_true rfl, Nat.le_of_ble_eq_true rfl⟩ dX10_filmWorth_6 () rfl trivial hP hD
set_option maxHeartbeats 1000000 in
set_option maxRecDepth 100000 in
theorem c_X2_filmWorth (l : Launch) (X : zX) (o : Nat) (a : Nat) (b : Nat) (fh : Nat → Int) (fk : Nat → Int)  : zF l X yX2_filmWorth wsX2_filmWorth 2 40 [.ref o] (zb [Wchild X o 4 a b fh fk]) (some (.int (iI 16))) (zb [Wchild X o 4 a b fh fk]) := by
  refine z_enter (cc := cX2_filmWorth) (maxL := 1) (ret := (some .int)) (by decide) rfl (Nat.le_of_ble_eq_true rfl) ?_
  intro p e s m below meth c A ls Q hQ hE hl hP hD
  obtain ⟨hx, hb, hr, hml, hown, hts, hlocks, hnm, hA, hK⟩ := hE
  have hown : s.vm.findClass RX2 = some m.cls := hown
  have hS : va_S A s.heap s.heap [] := va_S.rf
  have hl : lv_has ls 1 [(0, .ref o)] := hl
  refine lv_iconst (v := iI 2) hx hb dX2_filmWorth_0 (by decide) ?_
  refine lv_aload_n hx hb dX2_filmWorth_1 rfl (lv_at hl 0 rfl) ?_
  have hPm := zp_perm hP (zblk (show List.Perm ([Wchild X o 4 a b fh fk] : List va_W) ([Wchild X o 4 a b fh fk] ++ []) from (zf1 _ 0 _ rfl).trans ((List.Perm.refl _).cons _)))
  have hDm := zd_perm hD (zblk (show List.Perm ([Wchild X o 4 a b fh fk] : List va_W) ([Wchild X o 4 a b fh fk] ++ []) from (zf1 _ 0 _ rfl).trans ((List.Perm.refl _).cons _)))
  refine z_callSU (wr := zb []) (As := []) (rest := [.int (iI 2)]) ⟨hx, hb, hml, hown, hts⟩ (c_X10_filmWorth_j l X o a b fh fk ) (va_cwSU 0 hts gX2_filmWorth_X10_filmWorth_s9 rfl rfl rfl (by decide +kernel) ⟨Nat.le_of_ble_eq_true rfl, Nat.le_of_ble_eq_true rfl⟩) rfl rfl hl.1 dX2_filmWorth_2 rfl rfl (Nat.le_of_ble_eq_true rfl) ⟨Nat.le_of_ble_eq_true rfl, Nat.le_of_ble_eq_true rfl⟩ hS hA hK hPm hDm (fun _ H locs _ hP hD hS => ?_)
  have hP := zp_perm hP ((zblk (show List.Perm ([Wchild X o 4 a b fh fk] : List va_W) ([Wchild X o 4 a b fh fk] ++ []) from (zf1 _ 0 _ rfl).trans ((List.Perm.refl _).cons _)))).symm
  have hD := zd_perm hD ((zblk (show List.Perm ([Wchild X o 4 a b fh fk] : List va_W) ([Wchild X o 4 a b fh fk] ++ []) from (zf1 _ 0 _ rfl).trans ((List.Perm.refl _).cons _)))).symm
  have hP : va_P X.1 vwCl (zb [Wchild X o 4 a b fh fk]) H := hP
  have hD : va_D A (zb [Wchild X o 4 a b fh fk]) := hD
  refine W.eq (g2 := F0 m 5 ls [.int (iI 8), .int (iI 2)]) rfl ?_
  refine z_imul hx hb dX2_filmWorth_5 ?_
  refine W.eq (g2 := F0 m 6 ls [.int (iI 16)]) rfl ?_
  exact z_iret hQ hx hb hr hlocks hS ⟨Nat.le_of_ble_eq_true rfl, Nat.le_of_ble_eq_true rfl⟩ dX2_filmWorth_6 () rfl trivial hP hD
set_option maxHeartbeats 1000000 in
set_option maxRecDepth 100000 in
theorem c_X2_creamWorth (l : Launch) (X : zX) (o : Nat) (a : Nat) (b : Nat) (fh : Nat → Int) (fk : Nat → Int)  : zF l X yX2_creamWorth wsX2_creamWorth 0 0 [.ref o] (zb [Wchild X o 4 a b fh fk]) (some (.int (iI 0))) (zb [Wchild X o 4 a b fh fk]) := by
  refine z_enter (cc := cX2_creamWorth) (maxL := 1) (ret := (some .int)) (by decide) rfl (Nat.le_of_ble_eq_true rfl) ?_
  intro p e s m below meth c A ls Q hQ hE hl hP hD
  obtain ⟨hx, hb, hr, hml, hown, hts, hlocks, hnm, hA, hK⟩ := hE
  have hown : s.vm.findClass RX2 = some m.cls := hown
  have hS : va_S A s.heap s.heap [] := va_S.rf
  have hl : lv_has ls 1 [(0, .ref o)] := hl
  refine lv_iconst (v := iI 0) hx hb dX2_creamWorth_0 (by decide) ?_
  exact z_iret hQ hx hb hr hlocks hS ⟨Nat.le_of_ble_eq_true rfl, Nat.le_of_ble_eq_true rfl⟩ dX2_creamWorth_1 () rfl trivial hP hD
set_option maxHeartbeats 1000000 in
set_option maxRecDepth 100000 in
theorem c_X2_blueWorth (l : Launch) (X : zX) (o : Nat) (a : Nat) (b : Nat) (fh : Nat → Int) (fk : Nat → Int)  : zF l X yX2_blueWorth wsX2_blueWorth 0 0 [.ref o] (zb [Wchild X o 4 a b fh fk]) (some (.int (iI 0))) (zb [Wchild X o 4 a b fh fk]) := by
  refine z_enter (cc := cX2_blueWorth) (maxL := 1) (ret := (some .int)) (by decide) rfl (Nat.le_of_ble_eq_true rfl) ?_
  intro p e s m below meth c A ls Q hQ hE hl hP hD
  obtain ⟨hx, hb, hr, hml, hown, hts, hlocks, hnm, hA, hK⟩ := hE
  have hown : s.vm.findClass RX2 = some m.cls := hown
  have hS : va_S A s.heap s.heap [] := va_S.rf
  have hl : lv_has ls 1 [(0, .ref o)] := hl
  refine lv_iconst (v := iI 0) hx hb dX2_blueWorth_0 (by decide) ?_
  exact z_iret hQ hx hb hr hlocks hS ⟨Nat.le_of_ble_eq_true rfl, Nat.le_of_ble_eq_true rfl⟩ dX2_blueWorth_1 () rfl trivial hP hD
set_option maxHeartbeats 1000000 in
set_option maxRecDepth 100000 in
theorem c_X0_worthOf (l : Launch) (X : zX) (o : Nat) (k : Nat) (a : Nat) (b : Nat) (fh : Nat → Int) (fk : Nat → Int) (x : Int) (hk : KindOk k) (hx0 : -2147483648 ≤ x ∧ x < 2147483648) : zF l X yX0_worthOf wsX0_worthOf 3 60 [.ref o, .int (iI x)] (zb [Wchild X o k a b fh fk]) (some (.int (iI (wOf k x)))) (zb [Wchild X o k a b fh fk]) := by
  refine z_enter (cc := cX0_worthOf) (maxL := 2) (ret := (some .int)) (by decide) rfl (Nat.le_of_ble_eq_true rfl) ?_
  intro p e s m below meth c A ls Q hQ hE hl hP hD
  obtain ⟨hx, hb, hr, hml, hown, hts, hlocks, hnm, hA, hK⟩ := hE
  have hown : s.vm.findClass RX0 = some m.cls := hown
  have hS : va_S A s.heap s.heap [] := va_S.rf
  have hl : lv_has ls 2 [(0, .ref o), (1, .int (iI x))] := hl
  rcases hk with rfl | rfl | rfl | rfl | rfl
  · skip
    refine lv_iload_n hx hb dX0_worthOf_0 rfl (lv_at hl 1 rfl) ?_
    rcases (show (x < 1 ∨ 3 < x) ∨ x = 1 ∨ x = 2 ∨ x = 3 by omega) with c_1 | c_1 | c_1 | c_1
    · skip
      refine z_tabOut (tgt := 43) hx hb (by omega) dX0_worthOf_1 c_1 (by decide) ?_
      refine lv_iconst (v := iI 0) hx hb dX0_worthOf_43 (by decide) ?_
      exact z_iret hQ hx hb hr hlocks hS ⟨Nat.le_of_ble_eq_true rfl, Nat.le_of_ble_eq_true rfl⟩ dX0_worthOf_44 () (congrArg (fun z => some (Value.int (iI z))) (show (wOf 0 x : Int) = 0 by unfold wOf wC wF wB; simp; omega)) trivial hP hD
    · skip
      refine z_tabIn (tgt := 28) (off := 27) hx hb (by omega) dX0_worthOf_1 c_1 (by decide) rfl (by decide) ?_
      refine lv_aload_n hx hb dX0_worthOf_28 rfl (lv_at hl 0 rfl) ?_
      have hPm := zp_perm hP (zblk (show List.Perm ([Wchild X o 0 a b fh fk] : List va_W) ([Wchild X o 0 a b fh fk] ++ []) from (zf1 _ 0 _ rfl).trans ((List.Perm.refl _).cons _)))
      have hDm := zd_perm hD (zblk (show List.Perm ([Wchild X o 0 a b fh fk] : List va_W) ([Wchild X o 0 a b fh fk] ++ []) from (zf1 _ 0 _ rfl).trans ((List.Perm.refl _).cons _)))
      refine z_callV (wr := zb []) (As := []) (rest := []) ⟨hx, hb, hml, hown, hts⟩ (c_X0_creamWorth l X o 0 a b fh fk ) (cwV 0 hts gX0_worthOf_X0_creamWorth rfl rfl rfl (by decide +kernel) ⟨Nat.le_of_ble_eq_true rfl, Nat.le_of_ble_eq_true rfl⟩) rfl rfl hl.1 dX0_worthOf_29 rfl rfl (Nat.le_of_ble_eq_true rfl) ⟨Nat.le_of_ble_eq_true rfl, Nat.le_of_ble_eq_true rfl⟩ hS hA hK hPm hDm (fun _ H locs _ hP hD hS => ?_)
      have hP := zp_perm hP ((zblk (show List.Perm ([Wchild X o 0 a b fh fk] : List va_W) ([Wchild X o 0 a b fh fk] ++ []) from (zf1 _ 0 _ rfl).trans ((List.Perm.refl _).cons _)))).symm
      have hD := zd_perm hD ((zblk (show List.Perm ([Wchild X o 0 a b fh fk] : List va_W) ([Wchild X o 0 a b fh fk] ++ []) from (zf1 _ 0 _ rfl).trans ((List.Perm.refl _).cons _)))).symm
      have hP : va_P X.1 vwCl (zb [Wchild X o 0 a b fh fk]) H := hP
      have hD : va_D A (zb [Wchild X o 0 a b fh fk]) := hD
      refine W.eq (g2 := F0 m 32 ls [.int (iI 2)]) rfl ?_
      exact z_iret hQ hx hb hr hlocks hS ⟨Nat.le_of_ble_eq_true rfl, Nat.le_of_ble_eq_true rfl⟩ dX0_worthOf_32 () (congrArg (fun z => some (Value.int (iI z))) (show (wOf 0 x : Int) = 2 by unfold wOf wC wF wB; simp; omega)) trivial hP hD
    · skip
      refine z_tabIn (tgt := 33) (off := 32) hx hb (by omega) dX0_worthOf_1 c_1 (by decide) rfl (by decide) ?_
      refine lv_aload_n hx hb dX0_worthOf_33 rfl (lv_at hl 0 rfl) ?_
      have hPm := zp_perm hP (zblk (show List.Perm ([Wchild X o 0 a b fh fk] : List va_W) ([Wchild X o 0 a b fh fk] ++ []) from (zf1 _ 0 _ rfl).trans ((List.Perm.refl _).cons _)))
      have hDm := zd_perm hD (zblk (show List.Perm ([Wchild X o 0 a b fh fk] : List va_W) ([Wchild X o 0 a b fh fk] ++ []) from (zf1 _ 0 _ rfl).trans ((List.Perm.refl _).cons _)))
      refine z_callV (wr := zb []) (As := []) (rest := []) ⟨hx, hb, hml, hown, hts⟩ (c_X0_filmWorth l X o 0 a b fh fk ) (cwV 0 hts gX0_worthOf_X0_filmWorth rfl rfl rfl (by decide +kernel) ⟨Nat.le_of_ble_eq_true rfl, Nat.le_of_ble_eq_true rfl⟩) rfl rfl hl.1 dX0_worthOf_34 rfl rfl (Nat.le_of_ble_eq_true rfl) ⟨Nat.le_of_ble_eq_true rfl, Nat.le_of_ble_eq_true rfl⟩ hS hA hK hPm hDm (fun _ H locs _ hP hD hS => ?_)
      have hP := zp_perm hP ((zblk (show List.Perm ([Wchild X o 0 a b fh fk] : List va_W) ([Wchild X o 0 a b fh fk] ++ []) from (zf1 _ 0 _ rfl).trans ((List.Perm.refl _).cons _)))).symm
      have hD := zd_perm hD ((zblk (show List.Perm ([Wchild X o 0 a b fh fk] : List va_W) ([Wchild X o 0 a b fh fk] ++ []) from (zf1 _ 0 _ rfl).trans ((List.Perm.refl _).cons _)))).symm
      have hP : va_P X.1 vwCl (zb [Wchild X o 0 a b fh fk]) H := hP
      have hD : va_D A (zb [Wchild X o 0 a b fh fk]) := hD
      refine W.eq (g2 := F0 m 37 ls [.int (iI 4)]) rfl ?_
      exact z_iret hQ hx hb hr hlocks hS ⟨Nat.le_of_ble_eq_true rfl, Nat.le_of_ble_eq_true rfl⟩ dX0_worthOf_37 () (congrArg (fun z => some (Value.int (iI z))) (show (wOf 0 x : Int) = 4 by unfold wOf wC wF wB; simp; omega)) trivial hP hD
    · skip
      refine z_tabIn (tgt := 38) (off := 37) hx hb (by omega) dX0_worthOf_1 c_1 (by decide) rfl (by decide) ?_
      refine lv_aload_n hx hb dX0_worthOf_38 rfl (lv_at hl 0 rfl) ?_
      have hPm := zp_perm hP (zblk (show List.Perm ([Wchild X o 0 a b fh fk] : List va_W) ([Wchild X o 0 a b fh fk] ++ []) from (zf1 _ 0 _ rfl).trans ((List.Perm.refl _).cons _)))
      have hDm := zd_perm hD (zblk (show List.Perm ([Wchild X o 0 a b fh fk] : List va_W) ([Wchild X o 0 a b fh fk] ++ []) from (zf1 _ 0 _ rfl).trans ((List.Perm.refl _).cons _)))
      refine z_callV (wr := zb []) (As := []) (rest := []) ⟨hx, hb, hml, hown, hts⟩ (c_X0_blueWorth l X o 0 a b fh fk ) (cwV 0 hts gX0_worthOf_X0_blueWorth rfl rfl rfl (by decide +kernel) ⟨Nat.le_of_ble_eq_true rfl, Nat.le_of_ble_eq_true rfl⟩) rfl rfl hl.1 dX0_worthOf_39 rfl rfl (Nat.le_of_ble_eq_true rfl) ⟨Nat.le_of_ble_eq_true rfl, Nat.le_of_ble_eq_true rfl⟩ hS hA hK hPm hDm (fun _ H locs _ hP hD hS => ?_)
      have hP := zp_perm hP ((zblk (show List.Perm ([Wchild X o 0 a b fh fk] : List va_W) ([Wchild X o 0 a b fh fk] ++ []) from (zf1 _ 0 _ rfl).trans ((List.Perm.refl _).cons _)))).symm
      have hD := zd_perm hD ((zblk (show List.Perm ([Wchild X o 0 a b fh fk] : List va_W) ([Wchild X o 0 a b fh fk] ++ []) from (zf1 _ 0 _ rfl).trans ((List.Perm.refl _).cons _)))).symm
      have hP : va_P X.1 vwCl (zb [Wchild X o 0 a b fh fk]) H := hP
      have hD : va_D A (zb [Wchild X o 0 a b fh fk]) := hD
      refine W.eq (g2 := F0 m 42 ls [.int (iI 1)]) rfl ?_
      exact z_iret hQ hx hb hr hlocks hS ⟨Nat.le_of_ble_eq_true rfl, Nat.le_of_ble_eq_true rfl⟩ dX0_worthOf_42 () (congrArg (fun z => some (Value.int (iI z))) (show (wOf 0 x : Int) = 1 by unfold wOf wC wF wB; simp; omega)) trivial hP hD
  · skip
    refine lv_iload_n hx hb dX0_worthOf_0 rfl (lv_at hl 1 rfl) ?_
    rcases (show (x < 1 ∨ 3 < x) ∨ x = 1 ∨ x = 2 ∨ x = 3 by omega) with c_2 | c_2 | c_2 | c_2
    · skip
      refine z_tabOut (tgt := 43) hx hb (by omega) dX0_worthOf_1 c_2 (by decide) ?_
      refine lv_iconst (v := iI 0) hx hb dX0_worthOf_43 (by decide) ?_
      exact z_iret hQ hx hb hr hlocks hS ⟨Nat.le_of_ble_eq_true rfl, Nat.le_of_ble_eq_true rfl⟩ dX0_worthOf_44 () (congrArg (fun z => some (Value.int (iI z))) (show (wOf 1 x : Int) = 0 by unfold wOf wC wF wB; simp; omega)) trivial hP hD
    · skip
      refine z_tabIn (tgt := 28) (off := 27) hx hb (by omega) dX0_worthOf_1 c_2 (by decide) rfl (by decide) ?_
      refine lv_aload_n hx hb dX0_worthOf_28 rfl (lv_at hl 0 rfl) ?_
      have hPm := zp_perm hP (zblk (show List.Perm ([Wchild X o 1 a b fh fk] : List va_W) ([Wchild X o 1 a b fh fk] ++ []) from (zf1 _ 0 _ rfl).trans ((List.Perm.refl _).cons _)))
      have hDm := zd_perm hD (zblk (show List.Perm ([Wchild X o 1 a b fh fk] : List va_W) ([Wchild X o 1 a b fh fk] ++ []) from (zf1 _ 0 _ rfl).trans ((List.Perm.refl _).cons _)))
      refine z_callU (wr := zb []) (As := []) (rest := []) ⟨hx, hb, hml, hown, hts⟩ (c_X1_creamWorth l X o a b fh fk ) (va_cwO (b0 := cX0_creamWorth) (m0 := 1) (r0 := (some .int)) 0 hts gX0_worthOf_X1_creamWorth_u18X1 rfl rfl rfl (by decide +kernel) (by decide +kernel) ⟨Nat.le_of_ble_eq_true rfl, Nat.le_of_ble_eq_true rfl⟩) rfl rfl hl.1 dX0_worthOf_29 rfl rfl (Nat.le_of_ble_eq_true rfl) ⟨Nat.le_of_ble_eq_true rfl, Nat.le_of_ble_eq_true rfl⟩ hS hA hK hPm hDm (fun _ H locs _ hP hD hS => ?_)
      have hP := zp_perm hP ((zblk (show List.Perm ([Wchild X o 1 a b fh fk] : List va_W) ([Wchild X o 1 a b fh fk] ++ []) from (zf1 _ 0 _ rfl).trans ((List.Perm.refl _).cons _)))).symm
      have hD := zd_perm hD ((zblk (show List.Perm ([Wchild X o 1 a b fh fk] : List va_W) ([Wchild X o 1 a b fh fk] ++ []) from (zf1 _ 0 _ rfl).trans ((List.Perm.refl _).cons _)))).symm
      have hP : va_P X.1 vwCl (zb [Wchild X o 1 a b fh fk]) H := hP
      have hD : va_D A (zb [Wchild X o 1 a b fh fk]) := hD
      refine W.eq (g2 := F0 m 32 ls [.int (iI 4)]) rfl ?_
      exact z_iret hQ hx hb hr hlocks hS ⟨Nat.le_of_ble_eq_true rfl, Nat.le_of_ble_eq_true rfl⟩ dX0_worthOf_32 () (congrArg (fun z => some (Value.int (iI z))) (show (wOf 1 x : Int) = 4 by unfold wOf wC wF wB; simp; omega)) trivial hP hD
    · skip
      refine z_tabIn (tgt := 33) (off := 32) hx hb (by omega) dX0_worthOf_1 c_2 (by decide) rfl (by decide) ?_
      refine lv_aload_n hx hb dX0_worthOf_33 rfl (lv_at hl 0 rfl) ?_
      have hPm := zp_perm hP (zblk (show List.Perm ([Wchild X o 1 a b fh fk] : List va_W) ([Wchild X o 1 a b fh fk] ++ []) from (zf1 _ 0 _ rfl).trans ((List.Perm.refl _).cons _)))
      have hDm := zd_perm hD (zblk (show List.Perm ([Wchild X o 1 a b fh fk] : List va_W) ([Wchild X o 1 a b fh fk] ++ []) from (zf1 _ 0 _ rfl).trans ((List.Perm.refl _).cons _)))
      refine z_callU (wr := zb []) (As := []) (rest := []) ⟨hx, hb, hml, hown, hts⟩ (c_X0_filmWorth l X o 1 a b fh fk ) (va_cwU 0 hts gX0_worthOf_X0_filmWorth_u22X1 rfl rfl rfl rfl (by decide +kernel) ⟨Nat.le_of_ble_eq_true rfl, Nat.le_of_ble_eq_true rfl⟩) rfl rfl hl.1 dX0_worthOf_34 rfl rfl (Nat.le_of_ble_eq_true rfl) ⟨Nat.le_of_ble_eq_true rfl, Nat.le_of_ble_eq_true rfl⟩ hS hA hK hPm hDm (fun _ H locs _ hP hD hS => ?_)
      have hP := zp_perm hP ((zblk (show List.Perm ([Wchild X o 1 a b fh fk] : List va_W) ([Wchild X o 1 a b fh fk] ++ []) from (zf1 _ 0 _ rfl).trans ((List.Perm.refl _).cons _)))).symm
      have hD := zd_perm hD ((zblk (show List.Perm ([Wchild X o 1 a b fh fk] : List va_W) ([Wchild X o 1 a b fh fk] ++ []) from (zf1 _ 0 _ rfl).trans ((List.Perm.refl _).cons _)))).symm
      have hP : va_P X.1 vwCl (zb [Wchild X o 1 a b fh fk]) H := hP
      have hD : va_D A (zb [Wchild X o 1 a b fh fk]) := hD
      refine W.eq (g2 := F0 m 37 ls [.int (iI 4)]) rfl ?_
      exact z_iret hQ hx hb hr hlocks hS ⟨Nat.le_of_ble_eq_true rfl, Nat.le_of_ble_eq_true rfl⟩ dX0_worthOf_37 () (congrArg (fun z => some (Value.int (iI z))) (show (wOf 1 x : Int) = 4 by unfold wOf wC wF wB; simp; omega)) trivial hP hD
    · skip
      refine z_tabIn (tgt := 38) (off := 37) hx hb (by omega) dX0_worthOf_1 c_2 (by decide) rfl (by decide) ?_
      refine lv_aload_n hx hb dX0_worthOf_38 rfl (lv_at hl 0 rfl) ?_
      have hPm := zp_perm hP (zblk (show List.Perm ([Wchild X o 1 a b fh fk] : List va_W) ([Wchild X o 1 a b fh fk] ++ []) from (zf1 _ 0 _ rfl).trans ((List.Perm.refl _).cons _)))
      have hDm := zd_perm hD (zblk (show List.Perm ([Wchild X o 1 a b fh fk] : List va_W) ([Wchild X o 1 a b fh fk] ++ []) from (zf1 _ 0 _ rfl).trans ((List.Perm.refl _).cons _)))
      refine z_callU (wr := zb []) (As := []) (rest := []) ⟨hx, hb, hml, hown, hts⟩ (c_X1_blueWorth l X o a b fh fk ) (va_cwO (b0 := cX0_blueWorth) (m0 := 1) (r0 := (some .int)) 0 hts gX0_worthOf_X1_blueWorth_u25X1 rfl rfl rfl (by decide +kernel) (by decide +kernel) ⟨Nat.le_of_ble_eq_true rfl, Nat.le_of_ble_eq_true rfl⟩) rfl rfl hl.1 dX0_worthOf_39 rfl rfl (Nat.le_of_ble_eq_true rfl) ⟨Nat.le_of_ble_eq_true rfl, Nat.le_of_ble_eq_true rfl⟩ hS hA hK hPm hDm (fun _ H locs _ hP hD hS => ?_)
      have hP := zp_perm hP ((zblk (show List.Perm ([Wchild X o 1 a b fh fk] : List va_W) ([Wchild X o 1 a b fh fk] ++ []) from (zf1 _ 0 _ rfl).trans ((List.Perm.refl _).cons _)))).symm
      have hD := zd_perm hD ((zblk (show List.Perm ([Wchild X o 1 a b fh fk] : List va_W) ([Wchild X o 1 a b fh fk] ++ []) from (zf1 _ 0 _ rfl).trans ((List.Perm.refl _).cons _)))).symm
      have hP : va_P X.1 vwCl (zb [Wchild X o 1 a b fh fk]) H := hP
      have hD : va_D A (zb [Wchild X o 1 a b fh fk]) := hD
      refine W.eq (g2 := F0 m 42 ls [.int (iI 0)]) rfl ?_
      exact z_iret hQ hx hb hr hlocks hS ⟨Nat.le_of_ble_eq_true rfl, Nat.le_of_ble_eq_true rfl⟩ dX0_worthOf_42 () (congrArg (fun z => some (Value.int (iI z))) (show (wOf 1 x : Int) = 0 by unfold wOf wC wF wB; simp; omega)) trivial hP hD
  · skip
    refine lv_iload_n hx hb dX0_worthOf_0 rfl (lv_at hl 1 rfl) ?_
    rcases (show (x < 1 ∨ 3 < x) ∨ x = 1 ∨ x = 2 ∨ x = 3 by omega) with c_3 | c_3 | c_3 | c_3
    · skip
      refine z_tabOut (tgt := 43) hx hb (by omega) dX0_worthOf_1 c_3 (by decide) ?_
      refine lv_iconst (v := iI 0) hx hb dX0_worthOf_43 (by decide) ?_
      exact z_iret hQ hx hb hr hlocks hS ⟨Nat.le_of_ble_eq_true rfl, Nat.le_of_ble_eq_true rfl⟩ dX0_worthOf_44 () (congrArg (fun z => some (Value.int (iI z))) (show (wOf 2 x : Int) = 0 by unfold wOf wC wF wB; simp; omega)) trivial hP hD
    · skip
      refine z_tabIn (tgt := 28) (off := 27) hx hb (by omega) dX0_worthOf_1 c_3 (by decide) rfl (by decide) ?_
      refine lv_aload_n hx hb dX0_worthOf_28 rfl (lv_at hl 0 rfl) ?_
      have hPm := zp_perm hP (zblk (show List.Perm ([Wchild X o 2 a b fh fk] : List va_W) ([Wchild X o 2 a b fh fk] ++ []) from (zf1 _ 0 _ rfl).trans ((List.Perm.refl _).cons _)))
      have hDm := zd_perm hD (zblk (show List.Perm ([Wchild X o 2 a b fh fk] : List va_W) ([Wchild X o 2 a b fh fk] ++ []) from (zf1 _ 0 _ rfl).trans ((List.Perm.refl _).cons _)))
      refine z_callU (wr := zb []) (As := []) (rest := []) ⟨hx, hb, hml, hown, hts⟩ (c_X6_creamWorth l X o a b fh fk ) (va_cwO (b0 := cX0_creamWorth) (m0 := 1) (r0 := (some .int)) 0 hts gX0_worthOf_X6_creamWorth_u18X6 rfl rfl rfl (by decide +kernel) (by decide +kernel) ⟨Nat.le_of_ble_eq_true rfl, Nat.le_of_ble_eq_true rfl⟩) rfl rfl hl.1 dX0_worthOf_29 rfl rfl (Nat.le_of_ble_eq_true rfl) ⟨Nat.le_of_ble_eq_true rfl, Nat.le_of_ble_eq_true rfl⟩ hS hA hK hPm hDm (fun _ H locs _ hP hD hS => ?_)
      have hP := zp_perm hP ((zblk (show List.Perm ([Wchild X o 2 a b fh fk] : List va_W) ([Wchild X o 2 a b fh fk] ++ []) from (zf1 _ 0 _ rfl).trans ((List.Perm.refl _).cons _)))).symm
      have hD := zd_perm hD ((zblk (show List.Perm ([Wchild X o 2 a b fh fk] : List va_W) ([Wchild X o 2 a b fh fk] ++ []) from (zf1 _ 0 _ rfl).trans ((List.Perm.refl _).cons _)))).symm
      have hP : va_P X.1 vwCl (zb [Wchild X o 2 a b fh fk]) H := hP
      have hD : va_D A (zb [Wchild X o 2 a b fh fk]) := hD
      refine W.eq (g2 := F0 m 32 ls [.int (iI 1)]) rfl ?_
      exact z_iret hQ hx hb hr hlocks hS ⟨Nat.le_of_ble_eq_true rfl, Nat.le_of_ble_eq_true rfl⟩ dX0_worthOf_32 () (congrArg (fun z => some (Value.int (iI z))) (show (wOf 2 x : Int) = 1 by unfold wOf wC wF wB; simp; omega)) trivial hP hD
    · skip
      refine z_tabIn (tgt := 33) (off := 32) hx hb (by omega) dX0_worthOf_1 c_3 (by decide) rfl (by decide) ?_
      refine lv_aload_n hx hb dX0_worthOf_33 rfl (lv_at hl 0 rfl) ?_
      have hPm := zp_perm hP (zblk (show List.Perm ([Wchild X o 2 a b fh fk] : List va_W) ([Wchild X o 2 a b fh fk] ++ []) from (zf1 _ 0 _ rfl).trans ((List.Perm.refl _).cons _)))
      have hDm := zd_perm hD (zblk (show List.Perm ([Wchild X o 2 a b fh fk] : List va_W) ([Wchild X o 2 a b fh fk] ++ []) from (zf1 _ 0 _ rfl).trans ((List.Perm.refl _).cons _)))
      refine z_callU (wr := zb []) (As := []) (rest := []) ⟨hx, hb, hml, hown, hts⟩ (c_X0_filmWorth l X o 2 a b fh fk ) (va_cwU 0 hts gX0_worthOf_X0_filmWorth_u22X6 rfl rfl rfl rfl (by decide +kernel) ⟨Nat.le_of_ble_eq_true rfl, Nat.le_of_ble_eq_true rfl⟩) rfl rfl hl.1 dX0_worthOf_34 rfl rfl (Nat.le_of_ble_eq_true rfl) ⟨Nat.le_of_ble_eq_true rfl, Nat.le_of_ble_eq_true rfl⟩ hS hA hK hPm hDm (fun _ H locs _ hP hD hS => ?_)
      have hP := zp_perm hP ((zblk (show List.Perm ([Wchild X o 2 a b fh fk] : List va_W) ([Wchild X o 2 a b fh fk] ++ []) from (zf1 _ 0 _ rfl).trans ((List.Perm.refl _).cons _)))).symm
      have hD := zd_perm hD ((zblk (show List.Perm ([Wchild X o 2 a b fh fk] : List va_W) ([Wchild X o 2 a b fh fk] ++ []) from (zf1 _ 0 _ rfl).trans ((List.Perm.refl _).cons _)))).symm
      have hP : va_P X.1 vwCl (zb [Wchild X o 2 a b fh fk]) H := hP
      have hD : va_D A (zb [Wchild X o 2 a b fh fk]) := hD
      refine W.eq (g2 := F0 m 37 ls [.int (iI 4)]) rfl ?_
      exact z_iret hQ hx hb hr hlocks hS ⟨Nat.le_of_ble_eq_true rfl, Nat.le_of_ble_eq_true rfl⟩ dX0_worthOf_37 () (congrArg (fun z => some (Value.int (iI z))) (show (wOf 2 x : Int) = 4 by unfold wOf wC wF wB; simp; omega)) trivial hP hD
    · skip
      refine z_tabIn (tgt := 38) (off := 37) hx hb (by omega) dX0_worthOf_1 c_3 (by decide) rfl (by decide) ?_
      refine lv_aload_n hx hb dX0_worthOf_38 rfl (lv_at hl 0 rfl) ?_
      have hPm := zp_perm hP (zblk (show List.Perm ([Wchild X o 2 a b fh fk] : List va_W) ([Wchild X o 2 a b fh fk] ++ []) from (zf1 _ 0 _ rfl).trans ((List.Perm.refl _).cons _)))
      have hDm := zd_perm hD (zblk (show List.Perm ([Wchild X o 2 a b fh fk] : List va_W) ([Wchild X o 2 a b fh fk] ++ []) from (zf1 _ 0 _ rfl).trans ((List.Perm.refl _).cons _)))
      refine z_callU (wr := zb []) (As := []) (rest := []) ⟨hx, hb, hml, hown, hts⟩ (c_X6_blueWorth l X o a b fh fk ) (va_cwO (b0 := cX0_blueWorth) (m0 := 1) (r0 := (some .int)) 0 hts gX0_worthOf_X6_blueWorth_u25X6 rfl rfl rfl (by decide +kernel) (by decide +kernel) ⟨Nat.le_of_ble_eq_true rfl, Nat.le_of_ble_eq_true rfl⟩) rfl rfl hl.1 dX0_worthOf_39 rfl rfl (Nat.le_of_ble_eq_true rfl) ⟨Nat.le_of_ble_eq_true rfl, Nat.le_of_ble_eq_true rfl⟩ hS hA hK hPm hDm (fun _ H locs _ hP hD hS => ?_)
      have hP := zp_perm hP ((zblk (show List.Perm ([Wchild X o 2 a b fh fk] : List va_W) ([Wchild X o 2 a b fh fk] ++ []) from (zf1 _ 0 _ rfl).trans ((List.Perm.refl _).cons _)))).symm
      have hD := zd_perm hD ((zblk (show List.Perm ([Wchild X o 2 a b fh fk] : List va_W) ([Wchild X o 2 a b fh fk] ++ []) from (zf1 _ 0 _ rfl).trans ((List.Perm.refl _).cons _)))).symm
      have hP : va_P X.1 vwCl (zb [Wchild X o 2 a b fh fk]) H := hP
      have hD : va_D A (zb [Wchild X o 2 a b fh fk]) := hD
      refine W.eq (g2 := F0 m 42 ls [.int (iI 2)]) rfl ?_
      exact z_iret hQ hx hb hr hlocks hS ⟨Nat.le_of_ble_eq_true rfl, Nat.le_of_ble_eq_true rfl⟩ dX0_worthOf_42 () (congrArg (fun z => some (Value.int (iI z))) (show (wOf 2 x : Int) = 2 by unfold wOf wC wF wB; simp; omega)) trivial hP hD
  · skip
    refine lv_iload_n hx hb dX0_worthOf_0 rfl (lv_at hl 1 rfl) ?_
    rcases (show (x < 1 ∨ 3 < x) ∨ x = 1 ∨ x = 2 ∨ x = 3 by omega) with c_4 | c_4 | c_4 | c_4
    · skip
      refine z_tabOut (tgt := 43) hx hb (by omega) dX0_worthOf_1 c_4 (by decide) ?_
      refine lv_iconst (v := iI 0) hx hb dX0_worthOf_43 (by decide) ?_
      exact z_iret hQ hx hb hr hlocks hS ⟨Nat.le_of_ble_eq_true rfl, Nat.le_of_ble_eq_true rfl⟩ dX0_worthOf_44 () (congrArg (fun z => some (Value.int (iI z))) (show (wOf 3 x : Int) = 0 by unfold wOf wC wF wB; simp; omega)) trivial hP hD
    · skip
      refine z_tabIn (tgt := 28) (off := 27) hx hb (by omega) dX0_worthOf_1 c_4 (by decide) rfl (by decide) ?_
      refine lv_aload_n hx hb dX0_worthOf_28 rfl (lv_at hl 0 rfl) ?_
      have hPm := zp_perm hP (zblk (show List.Perm ([Wchild X o 3 a b fh fk] : List va_W) ([Wchild X o 3 a b fh fk] ++ []) from (zf1 _ 0 _ rfl).trans ((List.Perm.refl _).cons _)))
      have hDm := zd_perm hD (zblk (show List.Perm ([Wchild X o 3 a b fh fk] : List va_W) ([Wchild X o 3 a b fh fk] ++ []) from (zf1 _ 0 _ rfl).trans ((List.Perm.refl _).cons _)))
      refine z_callU (wr := zb []) (As := []) (rest := []) ⟨hx, hb, hml, hown, hts⟩ (c_X0_creamWorth l X o 3 a b fh fk ) (va_cwU 0 hts gX0_worthOf_X0_creamWorth_u18X10 rfl rfl rfl rfl (by decide +kernel) ⟨Nat.le_of_ble_eq_true rfl, Nat.le_of_ble_eq_true rfl⟩) rfl rfl hl.1 dX0_worthOf_29 rfl rfl (Nat.le_of_ble_eq_true rfl) ⟨Nat.le_of_ble_eq_true rfl, Nat.le_of_ble_eq_true rfl⟩ hS hA hK hPm hDm (fun _ H locs _ hP hD hS => ?_)
      have hP := zp_perm hP ((zblk (show List.Perm ([Wchild X o 3 a b fh fk] : List va_W) ([Wchild X o 3 a b fh fk] ++ []) from (zf1 _ 0 _ rfl).trans ((List.Perm.refl _).cons _)))).symm
      have hD := zd_perm hD ((zblk (show List.Perm ([Wchild X o 3 a b fh fk] : List va_W) ([Wchild X o 3 a b fh fk] ++ []) from (zf1 _ 0 _ rfl).trans ((List.Perm.refl _).cons _)))).symm
      have hP : va_P X.1 vwCl (zb [Wchild X o 3 a b fh fk]) H := hP
      have hD : va_D A (zb [Wchild X o 3 a b fh fk]) := hD
      refine W.eq (g2 := F0 m 32 ls [.int (iI 2)]) rfl ?_
      exact z_iret hQ hx hb hr hlocks hS ⟨Nat.le_of_ble_eq_true rfl, Nat.le_of_ble_eq_true rfl⟩ dX0_worthOf_32 () (congrArg (fun z => some (Value.int (iI z))) (show (wOf 3 x : Int) = 2 by unfold wOf wC wF wB; simp; omega)) trivial hP hD
    · skip
      refine z_tabIn (tgt := 33) (off := 32) hx hb (by omega) dX0_worthOf_1 c_4 (by decide) rfl (by decide) ?_
      refine lv_aload_n hx hb dX0_worthOf_33 rfl (lv_at hl 0 rfl) ?_
      have hPm := zp_perm hP (zblk (show List.Perm ([Wchild X o 3 a b fh fk] : List va_W) ([Wchild X o 3 a b fh fk] ++ []) from (zf1 _ 0 _ rfl).trans ((List.Perm.refl _).cons _)))
      have hDm := zd_perm hD (zblk (show List.Perm ([Wchild X o 3 a b fh fk] : List va_W) ([Wchild X o 3 a b fh fk] ++ []) from (zf1 _ 0 _ rfl).trans ((List.Perm.refl _).cons _)))
      refine z_callU (wr := zb []) (As := []) (rest := []) ⟨hx, hb, hml, hown, hts⟩ (c_X10_filmWorth_y l X o a b fh fk ) (va_cwO (b0 := cX0_filmWorth) (m0 := 1) (r0 := (some .int)) 0 hts gX0_worthOf_X10_filmWorth_u22X10 rfl rfl rfl (by decide +kernel) (by decide +kernel) ⟨Nat.le_of_ble_eq_true rfl, Nat.le_of_ble_eq_true rfl⟩) rfl rfl hl.1 dX0_worthOf_34 rfl rfl (Nat.le_of_ble_eq_true rfl) ⟨Nat.le_of_ble_eq_true rfl, Nat.le_of_ble_eq_true rfl⟩ hS hA hK hPm hDm (fun _ H locs _ hP hD hS => ?_)
      have hP := zp_perm hP ((zblk (show List.Perm ([Wchild X o 3 a b fh fk] : List va_W) ([Wchild X o 3 a b fh fk] ++ []) from (zf1 _ 0 _ rfl).trans ((List.Perm.refl _).cons _)))).symm
      have hD := zd_perm hD ((zblk (show List.Perm ([Wchild X o 3 a b fh fk] : List va_W) ([Wchild X o 3 a b fh fk] ++ []) from (zf1 _ 0 _ rfl).trans ((List.Perm.refl _).cons _)))).symm
      have hP : va_P X.1 vwCl (zb [Wchild X o 3 a b fh fk]) H := hP
      have hD : va_D A (zb [Wchild X o 3 a b fh fk]) := hD
      refine W.eq (g2 := F0 m 37 ls [.int (iI 8)]) rfl ?_
      exact z_iret hQ hx hb hr hlocks hS ⟨Nat.le_of_ble_eq_true rfl, Nat.le_of_ble_eq_true rfl⟩ dX0_worthOf_37 () (congrArg (fun z => some (Value.int (iI z))) (show (wOf 3 x : Int) = 8 by unfold wOf wC wF wB; simp; omega)) trivial hP hD
    · skip
      refine z_tabIn (tgt := 38) (off := 37) hx hb (by omega) dX0_worthOf_1 c_4 (by decide) rfl (by decide) ?_
      refine lv_aload_n hx hb dX0_worthOf_38 rfl (lv_at hl 0 rfl) ?_
      have hPm := zp_perm hP (zblk (show List.Perm ([Wchild X o 3 a b fh fk] : List va_W) ([Wchild X o 3 a b fh fk] ++ []) from (zf1 _ 0 _ rfl).trans ((List.Perm.refl _).cons _)))
      have hDm := zd_perm hD (zblk (show List.Perm ([Wchild X o 3 a b fh fk] : List va_W) ([Wchild X o 3 a b fh fk] ++ []) from (zf1 _ 0 _ rfl).trans ((List.Perm.refl _).cons _)))
      refine z_callU (wr := zb []) (As := []) (rest := []) ⟨hx, hb, hml, hown, hts⟩ (c_X0_blueWorth l X o 3 a b fh fk ) (va_cwU 0 hts gX0_worthOf_X0_blueWorth_u25X10 rfl rfl rfl rfl (by decide +kernel) ⟨Nat.le_of_ble_eq_true rfl, Nat.le_of_ble_eq_true rfl⟩) rfl rfl hl.1 dX0_worthOf_39 rfl rfl (Nat.le_of_ble_eq_true rfl) ⟨Nat.le_of_ble_eq_true rfl, Nat.le_of_ble_eq_true rfl⟩ hS hA hK hPm hDm (fun _ H locs _ hP hD hS => ?_)
      have hP := zp_perm hP ((zblk (show List.Perm ([Wchild X o 3 a b fh fk] : List va_W) ([Wchild X o 3 a b fh fk] ++ []) from (zf1 _ 0 _ rfl).trans ((List.Perm.refl _).cons _)))).symm
      have hD := zd_perm hD ((zblk (show List.Perm ([Wchild X o 3 a b fh fk] : List va_W) ([Wchild X o 3 a b fh fk] ++ []) from (zf1 _ 0 _ rfl).trans ((List.Perm.refl _).cons _)))).symm
      have hP : va_P X.1 vwCl (zb [Wchild X o 3 a b fh fk]) H := hP
      have hD : va_D A (zb [Wchild X o 3 a b fh fk]) := hD
      refine W.eq (g2 := F0 m 42 ls [.int (iI 1)]) rfl ?_
      exact z_iret hQ hx hb hr hlocks hS ⟨Nat.le_of_ble_eq_true rfl, Nat.le_of_ble_eq_true rfl⟩ dX0_worthOf_42 () (congrArg (fun z => some (Value.int (iI z))) (show (wOf 3 x : Int) = 1 by unfold wOf wC wF wB; simp; omega)) trivial hP hD
  · skip
    refine lv_iload_n hx hb dX0_worthOf_0 rfl (lv_at hl 1 rfl) ?_
    rcases (show (x < 1 ∨ 3 < x) ∨ x = 1 ∨ x = 2 ∨ x = 3 by omega) with c_5 | c_5 | c_5 | c_5
    · skip
      refine z_tabOut (tgt := 43) hx hb (by omega) dX0_worthOf_1 c_5 (by decide) ?_
      refine lv_iconst (v := iI 0) hx hb dX0_worthOf_43 (by decide) ?_
      exact z_iret hQ hx hb hr hlocks hS ⟨Nat.le_of_ble_eq_true rfl, Nat.le_of_ble_eq_true rfl⟩ dX0_worthOf_44 () (congrArg (fun z => some (Value.int (iI z))) (show (wOf 4 x : Int) = 0 by unfold wOf wC wF wB; simp; omega)) trivial hP hD
    · skip
      refine z_tabIn (tgt := 28) (off := 27) hx hb (by omega) dX0_worthOf_1 c_5 (by decide) rfl (by decide) ?_
      refine lv_aload_n hx hb dX0_worthOf_28 rfl (lv_at hl 0 rfl) ?_
      have hPm := zp_perm hP (zblk (show List.Perm ([Wchild X o 4 a b fh fk] : List va_W) ([Wchild X o 4 a b fh fk] ++ []) from (zf1 _ 0 _ rfl).trans ((List.Perm.refl _).cons _)))
      have hDm := zd_perm hD (zblk (show List.Perm ([Wchild X o 4 a b fh fk] : List va_W) ([Wchild X o 4 a b fh fk] ++ []) from (zf1 _ 0 _ rfl).trans ((List.Perm.refl _).cons _)))
      refine z_callU (wr := zb []) (As := []) (rest := []) ⟨hx, hb, hml, hown, hts⟩ (c_X2_creamWorth l X o a b fh fk ) (va_cwO (b0 := cX0_creamWorth) (m0 := 1) (r0 := (some .int)) 0 hts gX0_worthOf_X2_creamWorth_u18X2 rfl rfl rfl (by decide +kernel) (by decide +kernel) ⟨Nat.le_of_ble_eq_true rfl, Nat.le_of_ble_eq_true rfl⟩) rfl rfl hl.1 dX0_worthOf_29 rfl rfl (Nat.le_of_ble_eq_true rfl) ⟨Nat.le_of_ble_eq_true rfl, Nat.le_of_ble_eq_true rfl⟩ hS hA hK hPm hDm (fun _ H locs _ hP hD hS => ?_)
      have hP := zp_perm hP ((zblk (show List.Perm ([Wchild X o 4 a b fh fk] : List va_W) ([Wchild X o 4 a b fh fk] ++ []) from (zf1 _ 0 _ rfl).trans ((List.Perm.refl _).cons _)))).symm
      have hD := zd_perm hD ((zblk (show List.Perm ([Wchild X o 4 a b fh fk] : List va_W) ([Wchild X o 4 a b fh fk] ++ []) from (zf1 _ 0 _ rfl).trans ((List.Perm.refl _).cons _)))).symm
      have hP : va_P X.1 vwCl (zb [Wchild X o 4 a b fh fk]) H := hP
      have hD : va_D A (zb [Wchild X o 4 a b fh fk]) := hD
      refine W.eq (g2 := F0 m 32 ls [.int (iI 0)]) rfl ?_
      exact z_iret hQ hx hb hr hlocks hS ⟨Nat.le_of_ble_eq_true rfl, Nat.le_of_ble_eq_true rfl⟩ dX0_worthOf_32 () (congrArg (fun z => some (Value.int (iI z))) (show (wOf 4 x : Int) = 0 by unfold wOf wC wF wB; simp; omega)) trivial hP hD
    · skip
      refine z_tabIn (tgt := 33) (off := 32) hx hb (by omega) dX0_worthOf_1 c_5 (by decide) rfl (by decide) ?_
      refine lv_aload_n hx hb dX0_worthOf_33 rfl (lv_at hl 0 rfl) ?_
      have hPm := zp_perm hP (zblk (show List.Perm ([Wchild X o 4 a b fh fk] : List va_W) ([Wchild X o 4 a b fh fk] ++ []) from (zf1 _ 0 _ rfl).trans ((List.Perm.refl _).cons _)))
      have hDm := zd_perm hD (zblk (show List.Perm ([Wchild X o 4 a b fh fk] : List va_W) ([Wchild X o 4 a b fh fk] ++ []) from (zf1 _ 0 _ rfl).trans ((List.Perm.refl _).cons _)))
      refine z_callU (wr := zb []) (As := []) (rest := []) ⟨hx, hb, hml, hown, hts⟩ (c_X2_filmWorth l X o a b fh fk ) (va_cwO (b0 := cX0_filmWorth) (m0 := 1) (r0 := (some .int)) 0 hts gX0_worthOf_X2_filmWorth_u22X2 rfl rfl rfl (by decide +kernel) (by decide +kernel) ⟨Nat.le_of_ble_eq_true rfl, Nat.le_of_ble_eq_true rfl⟩) rfl rfl hl.1 dX0_worthOf_34 rfl rfl (Nat.le_of_ble_eq_true rfl) ⟨Nat.le_of_ble_eq_true rfl, Nat.le_of_ble_eq_true rfl⟩ hS hA hK hPm hDm (fun _ H locs _ hP hD hS => ?_)
      have hP := zp_perm hP ((zblk (show List.Perm ([Wchild X o 4 a b fh fk] : List va_W) ([Wchild X o 4 a b fh fk] ++ []) from (zf1 _ 0 _ rfl).trans ((List.Perm.refl _).cons _)))).symm
      have hD := zd_perm hD ((zblk (show List.Perm ([Wchild X o 4 a b fh fk] : List va_W) ([Wchild X o 4 a b fh fk] ++ []) from (zf1 _ 0 _ rfl).trans ((List.Perm.refl _).cons _)))).symm
      have hP : va_P X.1 vwCl (zb [Wchild X o 4 a b fh fk]) H := hP
      have hD : va_D A (zb [Wchild X o 4 a b fh fk]) := hD
      refine W.eq (g2 := F0 m 37 ls [.int (iI 16)]) rfl ?_
      exact z_iret hQ hx hb hr hlocks hS ⟨Nat.le_of_ble_eq_true rfl, Nat.le_of_ble_eq_true rfl⟩ dX0_worthOf_37 () (congrArg (fun z => some (Value.int (iI z))) (show (wOf 4 x : Int) = 16 by unfold wOf wC wF wB; simp; omega)) trivial hP hD
    · skip
      refine z_tabIn (tgt := 38) (off := 37) hx hb (by omega) dX0_worthOf_1 c_5 (by decide) rfl (by decide) ?_
      refine lv_aload_n hx hb dX0_worthOf_38 rfl (lv_at hl 0 rfl) ?_
      have hPm := zp_perm hP (zblk (show List.Perm ([Wchild X o 4 a b fh fk] : List va_W) ([Wchild X o 4 a b fh fk] ++ []) from (zf1 _ 0 _ rfl).trans ((List.Perm.refl _).cons _)))
      have hDm := zd_perm hD (zblk (show List.Perm ([Wchild X o 4 a b fh fk] : List va_W) ([Wchild X o 4 a b fh fk] ++ []) from (zf1 _ 0 _ rfl).trans ((List.Perm.refl _).cons _)))
      refine z_callU (wr := zb []) (As := []) (rest := []) ⟨hx, hb, hml, hown, hts⟩ (c_X2_blueWorth l X o a b fh fk ) (va_cwO (b0 := cX0_blueWorth) (m0 := 1) (r0 := (some .int)) 0 hts gX0_worthOf_X2_blueWorth_u25X2 rfl rfl rfl (by decide +kernel) (by decide +kernel) ⟨Nat.le_of_ble_eq_true rfl, Nat.le_of_ble_eq_true rfl⟩) rfl rfl hl.1 dX0_worthOf_39 rfl rfl (Nat.le_of_ble_eq_true rfl) ⟨Nat.le_of_ble_eq_true rfl, Nat.le_of_ble_eq_true rfl⟩ hS hA hK hPm hDm (fun _ H locs _ hP hD hS => ?_)
      have hP := zp_perm hP ((zblk (show List.Perm ([Wchild X o 4 a b fh fk] : List va_W) ([Wchild X o 4 a b fh fk] ++ []) from (zf1 _ 0 _ rfl).trans ((List.Perm.refl _).cons _)))).symm
      have hD := zd_perm hD ((zblk (show List.Perm ([Wchild X o 4 a b fh fk] : List va_W) ([Wchild X o 4 a b fh fk] ++ []) from (zf1 _ 0 _ rfl).trans ((List.Perm.refl _).cons _)))).symm
      have hP : va_P X.1 vwCl (zb [Wchild X o 4 a b fh fk]) H := hP
      have hD : va_D A (zb [Wchild X o 4 a b fh fk]) := hD
      refine W.eq (g2 := F0 m 42 ls [.int (iI 0)]) rfl ?_
      exact z_iret hQ hx hb hr hlocks hS ⟨Nat.le_of_ble_eq_true rfl, Nat.le_of_ble_eq_true rfl⟩ dX0_worthOf_42 () (congrArg (fun z => some (Value.int (iI z))) (show (wOf 4 x : Int) = 0 by unfold wOf wC wF wB; simp; omega)) trivial hP hD
set_option maxHeartbeats 1000000 in
set_option maxRecDepth 100000 in
theorem c_X0_hadOf (l : Launch) (X : zX) (o : Nat) (k : Nat) (a : Nat) (b : Nat) (fh : Nat → Int) (fk : Nat → Int) (x : Int) (hk : KindOk k) (hx0 : -2147483648 ≤ x ∧ x < 2147483648) : zF l X yX0_hadOf wsX0_hadOf 0 0 [.ref o, .int (iI x)] (zb [Wchild X o k a b fh fk]) (some (.int (iI (hadZ fh x)))) (zb [Wchild X o k a b fh fk]) := by
  refine z_enter (cc := cX0_hadOf) (maxL := 2) (ret := (some .int)) (by decide) rfl (Nat.le_of_ble_eq_true rfl) ?_
  intro p e s m below meth c A ls Q hQ hE hl hP hD
  obtain ⟨hx, hb, hr, hml, hown, hts, hlocks, hnm, hA, hK⟩ := hE
  have hown : s.vm.findClass RX0 = some m.cls := hown
  have hS : va_S A s.heap s.heap [] := va_S.rf
  have hl : lv_has ls 2 [(0, .ref o), (1, .int (iI x))] := hl
  have inX0 : ∀ w ∈ u_ws RX0 TX0 2, w ∈ wsX0_hadOf := by decide +kernel
  have inX1 : ∀ w ∈ u_ws RX1 TX1 2, w ∈ wsX0_hadOf := by decide +kernel
  have inX10 : ∀ w ∈ u_ws RX10 TX10 2, w ∈ wsX0_hadOf := by decide +kernel
  have inX2 : ∀ w ∈ u_ws RX2 TX2 2, w ∈ wsX0_hadOf := by decide +kernel
  have inX6 : ∀ w ∈ u_ws RX6 TX6 2, w ∈ wsX0_hadOf := by decide +kernel
  rcases hk with rfl | rfl | rfl | rfl | rfl
  · skip
    refine lv_iload_n hx hb dX0_hadOf_0 rfl (lv_at hl 1 rfl) ?_
    refine lv_iconst (v := iI 1) hx hb dX0_hadOf_1 (by decide) ?_
    refine z_icmp_lt (tgt := 19) hx hb (by omega) dX0_hadOf_2 (by decide) (fun c_1 => ?_) (fun c_1 => ?_)
    · skip
      refine lv_iconst (v := iI 0) hx hb dX0_hadOf_19 (by decide) ?_
      exact z_iret hQ hx hb hr hlocks hS ⟨Nat.le_of_ble_eq_true rfl, Nat.le_of_ble_eq_true rfl⟩ dX0_hadOf_20 () (congrArg (fun z => some (Value.int (iI z))) (show (hadZ fh x : Int) = 0 by unfold hadZ; first | rw [if_pos (by omega)] | rw [if_neg (by omega)])) trivial hP hD
    · skip
      refine lv_iload_n hx hb dX0_hadOf_5 rfl (lv_at hl 1 rfl) ?_
      refine lv_iconst (v := iI 3) hx hb dX0_hadOf_6 (by decide) ?_
      refine z_icmp_gt (tgt := 19) hx hb (by omega) dX0_hadOf_7 (by decide) (fun c_2 => ?_) (fun c_2 => ?_)
      · skip
        refine lv_iconst (v := iI 0) hx hb dX0_hadOf_19 (by decide) ?_
        exact z_iret hQ hx hb hr hlocks hS ⟨Nat.le_of_ble_eq_true rfl, Nat.le_of_ble_eq_true rfl⟩ dX0_hadOf_20 () (congrArg (fun z => some (Value.int (iI z))) (show (hadZ fh x : Int) = 0 by unfold hadZ; first | rw [if_pos (by omega)] | rw [if_neg (by omega)])) trivial hP hD
      · skip
        refine lv_aload_n hx hb dX0_hadOf_10 rfl (lv_at hl 0 rfl) ?_
        refine va_get (ci := 0) (v := .ref a) (C := RX0) (T := TX0) (N := 2) hx hb hts inX0 hown hK.1 hP 0 rfl rfl 0 (by decide) (hts (.fieldLink RX0 9 "SkimmedSons$Child" "had" "[I") (by decide +kernel)) (fun _ h9 => h9) rfl dX0_hadOf_11 ?_
        refine lv_iload_n hx hb dX0_hadOf_14 rfl (lv_at hl 1 rfl) ?_
        refine z_iald hx hb hK.1 hP 1 rfl (by omega) dX0_hadOf_15 ?_
        refine W.eq (g2 := F0 m 16 ls [.int (iI (fh x.toNat))]) rfl ?_
        refine lv_goto (tgt := 20) hx hb dX0_hadOf_16 (by decide) ?_
        exact z_iret hQ hx hb hr hlocks hS ⟨Nat.le_of_ble_eq_true rfl, Nat.le_of_ble_eq_true rfl⟩ dX0_hadOf_20 () (congrArg (fun z => some (Value.int (iI z))) (show (hadZ fh x : Int) = fh x.toNat by unfold hadZ; first | rw [if_pos (by omega)] | rw [if_neg (by omega)])) trivial hP hD
  · skip
    refine lv_iload_n hx hb dX0_hadOf_0 rfl (lv_at hl 1 rfl) ?_
    refine lv_iconst (v := iI 1) hx hb dX0_hadOf_1 (by decide) ?_
    refine z_icmp_lt (tgt := 19) hx hb (by omega) dX0_hadOf_2 (by decide) (fun c_3 => ?_) (fun c_3 => ?_)
    · skip
      refine lv_iconst (v := iI 0) hx hb dX0_hadOf_19 (by decide) ?_
      exact z_iret hQ hx hb hr hlocks hS ⟨Nat.le_of_ble_eq_true rfl, Nat.le_of_ble_eq_true rfl⟩ dX0_hadOf_20 () (congrArg (fun z => some (Value.int (iI z))) (show (hadZ fh x : Int) = 0 by unfold hadZ; first | rw [if_pos (by omega)] | rw [if_neg (by omega)])) trivial hP hD
    · skip
      refine lv_iload_n hx hb dX0_hadOf_5 rfl (lv_at hl 1 rfl) ?_
      refine lv_iconst (v := iI 3) hx hb dX0_hadOf_6 (by decide) ?_
      refine z_icmp_gt (tgt := 19) hx hb (by omega) dX0_hadOf_7 (by decide) (fun c_4 => ?_) (fun c_4 => ?_)
      · skip
        refine lv_iconst (v := iI 0) hx hb dX0_hadOf_19 (by decide) ?_
        exact z_iret hQ hx hb hr hlocks hS ⟨Nat.le_of_ble_eq_true rfl, Nat.le_of_ble_eq_true rfl⟩ dX0_hadOf_20 () (congrArg (fun z => some (Value.int (iI z))) (show (hadZ fh x : Int) = 0 by unfold hadZ; first | rw [if_pos (by omega)] | rw [if_neg (by omega)])) trivial hP hD
      · skip
        refine lv_aload_n hx hb dX0_hadOf_10 rfl (lv_at hl 0 rfl) ?_
        refine va_get (ci := 1) (v := .ref a) (C := RX1) (T := TX1) (N := 2) hx hb hts inX1 hown hK.1 hP 0 rfl rfl 0 (by decide) (hts (.fieldLink RX0 9 "SkimmedSons$Child" "had" "[I") (by decide +kernel)) (fun _ h9 => h9) rfl dX0_hadOf_11 ?_
        refine lv_iload_n hx hb dX0_hadOf_14 rfl (lv_at hl 1 rfl) ?_
        refine z_iald hx hb hK.1 hP 1 rfl (by omega) dX0_hadOf_15 ?_
        refine W.eq (g2 := F0 m 16 ls [.int (iI (fh x.toNat))]) rfl ?_
        refine lv_goto (tgt := 20) hx hb dX0_hadOf_16 (by decide) ?_
        exact z_iret hQ hx hb hr hlocks hS ⟨Nat.le_of_ble_eq_true rfl, Nat.le_of_ble_eq_true rfl⟩ dX0_hadOf_20 () (congrArg (fun z => some (Value.int (iI z))) (show (hadZ fh x : Int) = fh x.toNat by unfold hadZ; first | rw [if_pos (by omega)] | rw [if_neg (by omega)])) trivial hP hD
  · skip
    refine lv_iload_n hx hb dX0_hadOf_0 rfl (lv_at hl 1 rfl) ?_
    refine lv_iconst (v := iI 1) hx hb dX0_hadOf_1 (by decide) ?_
    refine z_icmp_lt (tgt := 19) hx hb (by omega) dX0_hadOf_2 (by decide) (fun c_5 => ?_) (fun c_5 => ?_)
    · skip
      refine lv_iconst (v := iI 0) hx hb dX0_hadOf_19 (by decide) ?_
      exact z_iret hQ hx hb hr hlocks hS ⟨Nat.le_of_ble_eq_true rfl, Nat.le_of_ble_eq_true rfl⟩ dX0_hadOf_20 () (congrArg (fun z => some (Value.int (iI z))) (show (hadZ fh x : Int) = 0 by unfold hadZ; first | rw [if_pos (by omega)] | rw [if_neg (by omega)])) trivial hP hD
    · skip
      refine lv_iload_n hx hb dX0_hadOf_5 rfl (lv_at hl 1 rfl) ?_
      refine lv_iconst (v := iI 3) hx hb dX0_hadOf_6 (by decide) ?_
      refine z_icmp_gt (tgt := 19) hx hb (by omega) dX0_hadOf_7 (by decide) (fun c_6 => ?_) (fun c_6 => ?_)
      · skip
        refine lv_iconst (v := iI 0) hx hb dX0_hadOf_19 (by decide) ?_
        exact z_iret hQ hx hb hr hlocks hS ⟨Nat.le_of_ble_eq_true rfl, Nat.le_of_ble_eq_true rfl⟩ dX0_hadOf_20 () (congrArg (fun z => some (Value.int (iI z))) (show (hadZ fh x : Int) = 0 by unfold hadZ; first | rw [if_pos (by omega)] | rw [if_neg (by omega)])) trivial hP hD
      · skip
        refine lv_aload_n hx hb dX0_hadOf_10 rfl (lv_at hl 0 rfl) ?_
        refine va_get (ci := 6) (v := .ref a) (C := RX6) (T := TX6) (N := 2) hx hb hts inX6 hown hK.1 hP 0 rfl rfl 0 (by decide) (hts (.fieldLink RX0 9 "SkimmedSons$Child" "had" "[I") (by decide +kernel)) (fun _ h9 => h9) rfl dX0_hadOf_11 ?_
        refine lv_iload_n hx hb dX0_hadOf_14 rfl (lv_at hl 1 rfl) ?_
        refine z_iald hx hb hK.1 hP 1 rfl (by omega) dX0_hadOf_15 ?_
        refine W.eq (g2 := F0 m 16 ls [.int (iI (fh x.toNat))]) rfl ?_
        refine lv_goto (tgt := 20) hx hb dX0_hadOf_16 (by decide) ?_
        exact z_iret hQ hx hb hr hlocks hS ⟨Nat.le_of_ble_eq_true rfl, Nat.le_of_ble_eq_true rfl⟩ dX0_hadOf_20 () (congrArg (fun z => some (Value.int (iI z))) (show (hadZ fh x : Int) = fh x.toNat by unfold hadZ; first | rw [if_pos (by omega)] | rw [if_neg (by omega)])) trivial hP hD
  · skip
    refine lv_iload_n hx hb dX0_hadOf_0 rfl (lv_at hl 1 rfl) ?_
    refine lv_iconst (v := iI 1) hx hb dX0_hadOf_1 (by decide) ?_
    refine z_icmp_lt (tgt := 19) hx hb (by omega) dX0_hadOf_2 (by decide) (fun c_7 => ?_) (fun c_7 => ?_)
    · skip
      refine lv_iconst (v := iI 0) hx hb dX0_hadOf_19 (by decide) ?_
      exact z_iret hQ hx hb hr hlocks hS ⟨Nat.le_of_ble_eq_true rfl, Nat.le_of_ble_eq_true rfl⟩ dX0_hadOf_20 () (congrArg (fun z => some (Value.int (iI z))) (show (hadZ fh x : Int) = 0 by unfold hadZ; first | rw [if_pos (by omega)] | rw [if_neg (by omega)])) trivial hP hD
    · skip
      refine lv_iload_n hx hb dX0_hadOf_5 rfl (lv_at hl 1 rfl) ?_
      refine lv_iconst (v := iI 3) hx hb dX0_hadOf_6 (by decide) ?_
      refine z_icmp_gt (tgt := 19) hx hb (by omega) dX0_hadOf_7 (by decide) (fun c_8 => ?_) (fun c_8 => ?_)
      · skip
        refine lv_iconst (v := iI 0) hx hb dX0_hadOf_19 (by decide) ?_
        exact z_iret hQ hx hb hr hlocks hS ⟨Nat.le_of_ble_eq_true rfl, Nat.le_of_ble_eq_true rfl⟩ dX0_hadOf_20 () (congrArg (fun z => some (Value.int (iI z))) (show (hadZ fh x : Int) = 0 by unfold hadZ; first | rw [if_pos (by omega)] | rw [if_neg (by omega)])) trivial hP hD
      · skip
        refine lv_aload_n hx hb dX0_hadOf_10 rfl (lv_at hl 0 rfl) ?_
        refine va_get (ci := 10) (v := .ref a) (C := RX10) (T := TX10) (N := 2) hx hb hts inX10 hown hK.1 hP 0 rfl rfl 0 (by decide) (hts (.fieldLink RX0 9 "SkimmedSons$Child" "had" "[I") (by decide +kernel)) (fun _ h9 => h9) rfl dX0_hadOf_11 ?_
        refine lv_iload_n hx hb dX0_hadOf_14 rfl (lv_at hl 1 rfl) ?_
        refine z_iald hx hb hK.1 hP 1 rfl (by omega) dX0_hadOf_15 ?_
        refine W.eq (g2 := F0 m 16 ls [.int (iI (fh x.toNat))]) rfl ?_
        refine lv_goto (tgt := 20) hx hb dX0_hadOf_16 (by decide) ?_
        exact z_iret hQ hx hb hr hlocks hS ⟨Nat.le_of_ble_eq_true rfl, Nat.le_of_ble_eq_true rfl⟩ dX0_hadOf_20 () (congrArg (fun z => some (Value.int (iI z))) (show (hadZ fh x : Int) = fh x.toNat by unfold hadZ; first | rw [if_pos (by omega)] | rw [if_neg (by omega)])) trivial hP hD
  · skip
    refine lv_iload_n hx hb dX0_hadOf_0 rfl (lv_at hl 1 rfl) ?_
    refine lv_iconst (v := iI 1) hx hb dX0_hadOf_1 (by decide) ?_
    refine z_icmp_lt (tgt := 19) hx hb (by omega) dX0_hadOf_2 (by decide) (fun c_9 => ?_) (fun c_9 => ?_)
    · skip
      refine lv_iconst (v := iI 0) hx hb dX0_hadOf_19 (by decide) ?_
      exact z_iret hQ hx hb hr hlocks hS ⟨Nat.le_of_ble_eq_true rfl, Nat.le_of_ble_eq_true rfl⟩ dX0_hadOf_20 () (congrArg (fun z => some (Value.int (iI z))) (show (hadZ fh x : Int) = 0 by unfold hadZ; first | rw [if_pos (by omega)] | rw [if_neg (by omega)])) trivial hP hD
    · skip
      refine lv_iload_n hx hb dX0_hadOf_5 rfl (lv_at hl 1 rfl) ?_
      refine lv_iconst (v := iI 3) hx hb dX0_hadOf_6 (by decide) ?_
      refine z_icmp_gt (tgt := 19) hx hb (by omega) dX0_hadOf_7 (by decide) (fun c_10 => ?_) (fun c_10 => ?_)
      · skip
        refine lv_iconst (v := iI 0) hx hb dX0_hadOf_19 (by decide) ?_
        exact z_iret hQ hx hb hr hlocks hS ⟨Nat.le_of_ble_eq_true rfl, Nat.le_of_ble_eq_true rfl⟩ dX0_hadOf_20 () (congrArg (fun z => some (Value.int (iI z))) (show (hadZ fh x : Int) = 0 by unfold hadZ; first | rw [if_pos (by omega)] | rw [if_neg (by omega)])) trivial hP hD
      · skip
        refine lv_aload_n hx hb dX0_hadOf_10 rfl (lv_at hl 0 rfl) ?_
        refine va_get (ci := 2) (v := .ref a) (C := RX2) (T := TX2) (N := 2) hx hb hts inX2 hown hK.1 hP 0 rfl rfl 0 (by decide) (hts (.fieldLink RX0 9 "SkimmedSons$Child" "had" "[I") (by decide +kernel)) (fun _ h9 => h9) rfl dX0_hadOf_11 ?_
        refine lv_iload_n hx hb dX0_hadOf_14 rfl (lv_at hl 1 rfl) ?_
        refine z_iald hx hb hK.1 hP 1 rfl (by omega) dX0_hadOf_15 ?_
        refine W.eq (g2 := F0 m 16 ls [.int (iI (fh x.toNat))]) rfl ?_
        refine lv_goto (tgt := 20) hx hb dX0_hadOf_16 (by decide) ?_
        exact z_iret hQ hx hb hr hlocks hS ⟨Nat.le_of_ble_eq_true rfl, Nat.le_of_ble_eq_true rfl⟩ dX0_hadOf_20 () (congrArg (fun z => some (Value.int (iI z))) (show (hadZ fh x : Int) = fh x.toNat by unfold hadZ; first | rw [if_pos (by omega)] | rw [if_neg (by omega)])) trivial hP hD
set_option maxHeartbeats 1000000 in
set_option maxRecDepth 100000 in
theorem c_X0_have (l : Launch) (X : zX) (o : Nat) (k : Nat) (a : Nat) (b : Nat) (fh : Nat → Int) (fk : Nat → Int) (x : Int) (hk : KindOk k) (hx0 : -2147483648 ≤ x ∧ x < 2147483648) : zF l X yX0_have wsX0_have 0 0 [.ref o, .int (iI x)] (zb [Wchild X o k a b fh fk]) none (zb [Wchild X o k a b (haveZ fh x) fk]) := by
  refine z_enter (cc := cX0_have) (maxL := 2) (ret := none) (by decide) rfl (Nat.le_of_ble_eq_true rfl) ?_
  intro p e s m below meth c A ls Q hQ hE hl hP hD
  obtain ⟨hx, hb, hr, hml, hown, hts, hlocks, hnm, hA, hK⟩ := hE
  have hown : s.vm.findClass RX0 = some m.cls := hown
  have hS : va_S A s.heap s.heap [] := va_S.rf
  have hl : lv_has ls 2 [(0, .ref o), (1, .int (iI x))] := hl
  have inX0 : ∀ w ∈ u_ws RX0 TX0 2, w ∈ wsX0_have := by decide +kernel
  have inX1 : ∀ w ∈ u_ws RX1 TX1 2, w ∈ wsX0_have := by decide +kernel
  have inX10 : ∀ w ∈ u_ws RX10 TX10 2, w ∈ wsX0_have := by decide +kernel
  have inX2 : ∀ w ∈ u_ws RX2 TX2 2, w ∈ wsX0_have := by decide +kernel
  have inX6 : ∀ w ∈ u_ws RX6 TX6 2, w ∈ wsX0_have := by decide +kernel
  rcases hk with rfl | rfl | rfl | rfl | rfl
  · skip
    refine lv_iload_n hx hb dX0_have_0 rfl (lv_at hl 1 rfl) ?_
    refine lv_iconst (v := iI 1) hx hb dX0_have_1 (by decide) ?_
    refine z_icmp_lt (tgt := 20) hx hb (by omega) dX0_have_2 (by decide) (fun c_1 => ?_) (fun c_1 => ?_)
    · skip
      have hw : zb [Wchild X o 0 a b fh fk] = zb [Wchild X o 0 a b (haveZ fh x) fk] := by first | (rw [show haveZ fh x = fh from if_neg (by omega)]; done) | (rw [show haveZ fh x = updZ fh x.toNat (fh x.toNat + 1) from if_pos (by omega)]; subst_vars; rfl)
      rw [hw] at hP hD
      exact z_vret hQ hx hb hr hlocks hS ⟨Nat.le_of_ble_eq_true rfl, Nat.le_of_ble_eq_true rfl⟩ dX0_have_20 () rfl trivial hP hD
    · skip
      refine lv_iload_n hx hb dX0_have_5 rfl (lv_at hl 1 rfl) ?_
      refine lv_iconst (v := iI 3) hx hb dX0_have_6 (by decide) ?_
      refine z_icmp_gt (tgt := 20) hx hb (by omega) dX0_have_7 (by decide) (fun c_2 => ?_) (fun c_2 => ?_)
      · skip
        have hw : zb [Wchild X o 0 a b fh fk] = zb [Wchild X o 0 a b (haveZ fh x) fk] := by first | (rw [show haveZ fh x = fh from if_neg (by omega)]; done) | (rw [show haveZ fh x = updZ fh x.toNat (fh x.toNat + 1) from if_pos (by omega)]; subst_vars; rfl)
        rw [hw] at hP hD
        exact z_vret hQ hx hb hr hlocks hS ⟨Nat.le_of_ble_eq_true rfl, Nat.le_of_ble_eq_true rfl⟩ dX0_have_20 () rfl trivial hP hD
      · skip
        refine lv_aload_n hx hb dX0_have_10 rfl (lv_at hl 0 rfl) ?_
        refine va_get (ci := 0) (v := .ref a) (C := RX0) (T := TX0) (N := 2) hx hb hts inX0 hown hK.1 hP 0 rfl rfl 0 (by decide) (hts (.fieldLink RX0 9 "SkimmedSons$Child" "had" "[I") (by decide +kernel)) (fun _ h9 => h9) rfl dX0_have_11 ?_
        refine lv_iload_n hx hb dX0_have_14 rfl (lv_at hl 1 rfl) ?_
        refine lv_dup2_11 hx hb dX0_have_15 rfl rfl ?_
        refine z_iald hx hb hK.1 hP 1 rfl (by omega) dX0_have_16 ?_
        refine W.eq (g2 := F0 m 17 ls [.int (iI (fh x.toNat)), .int (iI x), .ref a]) rfl ?_
        refine lv_iconst (v := iI 1) hx hb dX0_have_17 (by decide) ?_
        refine z_iadd hx hb dX0_have_18 ?_
        refine z_topi (fun z_3 ez_3 => ?_)
        refine z_iast hx hb hK.1 hP hD hS 1 rfl (by omega) dX0_have_19 (fun H locs hP hD hS => ?_)
        have hP : va_P X.1 vwCl (zb [Wchild X o 0 a b (updZ fh x.toNat z_3) fk]) H := hP
        have hD : va_D A (zb [Wchild X o 0 a b (updZ fh x.toNat z_3) fk]) := hD
        have hw : zb [Wchild X o 0 a b (updZ fh x.toNat z_3) fk] = zb [Wchild X o 0 a b (haveZ fh x) fk] := by first | (rw [show haveZ fh x = fh from if_neg (by omega)]; done) | (rw [show haveZ fh x = updZ fh x.toNat (fh x.toNat + 1) from if_pos (by omega)]; subst_vars; rfl)
        rw [hw] at hP hD
        exact z_vret hQ hx hb hr hlocks hS ⟨Nat.le_of_ble_eq_true rfl, Nat.le_of_ble_eq_true rfl⟩ dX0_have_20 () rfl trivial hP hD
  · skip
    refine lv_iload_n hx hb dX0_have_0 rfl (lv_at hl 1 rfl) ?_
    refine lv_iconst (v := iI 1) hx hb dX0_have_1 (by decide) ?_
    refine z_icmp_lt (tgt := 20) hx hb (by omega) dX0_have_2 (by decide) (fun c_4 => ?_) (fun c_4 => ?_)
    · skip
      have hw : zb [Wchild X o 1 a b fh fk] = zb [Wchild X o 1 a b (haveZ fh x) fk] := by first | (rw [show haveZ fh x = fh from if_neg (by omega)]; done) | (rw [show haveZ fh x = updZ fh x.toNat (fh x.toNat + 1) from if_pos (by omega)]; subst_vars; rfl)
      rw [hw] at hP hD
      exact z_vret hQ hx hb hr hlocks hS ⟨Nat.le_of_ble_eq_true rfl, Nat.le_of_ble_eq_true rfl⟩ dX0_have_20 () rfl trivial hP hD
    · skip
      refine lv_iload_n hx hb dX0_have_5 rfl (lv_at hl 1 rfl) ?_
      refine lv_iconst (v := iI 3) hx hb dX0_have_6 (by decide) ?_
      refine z_icmp_gt (tgt := 20) hx hb (by omega) dX0_have_7 (by decide) (fun c_5 => ?_) (fun c_5 => ?_)
      · skip
        have hw : zb [Wchild X o 1 a b fh fk] = zb [Wchild X o 1 a b (haveZ fh x) fk] := by first | (rw [show haveZ fh x = fh from if_neg (by omega)]; done) | (rw [show haveZ fh x = updZ fh x.toNat (fh x.toNat + 1) from if_pos (by omega)]; subst_vars; rfl)
        rw [hw] at hP hD
        exact z_vret hQ hx hb hr hlocks hS ⟨Nat.le_of_ble_eq_true rfl, Nat.le_of_ble_eq_true rfl⟩ dX0_have_20 () rfl trivial hP hD
      · skip
        refine lv_aload_n hx hb dX0_have_10 rfl (lv_at hl 0 rfl) ?_
        refine va_get (ci := 1) (v := .ref a) (C := RX1) (T := TX1) (N := 2) hx hb hts inX1 hown hK.1 hP 0 rfl rfl 0 (by decide) (hts (.fieldLink RX0 9 "SkimmedSons$Child" "had" "[I") (by decide +kernel)) (fun _ h9 => h9) rfl dX0_have_11 ?_
        refine lv_iload_n hx hb dX0_have_14 rfl (lv_at hl 1 rfl) ?_
        refine lv_dup2_11 hx hb dX0_have_15 rfl rfl ?_
        refine z_iald hx hb hK.1 hP 1 rfl (by omega) dX0_have_16 ?_
        refine W.eq (g2 := F0 m 17 ls [.int (iI (fh x.toNat)), .int (iI x), .ref a]) rfl ?_
        refine lv_iconst (v := iI 1) hx hb dX0_have_17 (by decide) ?_
        refine z_iadd hx hb dX0_have_18 ?_
        refine z_topi (fun z_6 ez_6 => ?_)
        refine z_iast hx hb hK.1 hP hD hS 1 rfl (by omega) dX0_have_19 (fun H locs hP hD hS => ?_)
        have hP : va_P X.1 vwCl (zb [Wchild X o 1 a b (updZ fh x.toNat z_6) fk]) H := hP
        have hD : va_D A (zb [Wchild X o 1 a b (updZ fh x.toNat z_6) fk]) := hD
        have hw : zb [Wchild X o 1 a b (updZ fh x.toNat z_6) fk] = zb [Wchild X o 1 a b (haveZ fh x) fk] := by first | (rw [show haveZ fh x = fh from if_neg (by omega)]; done) | (rw [show haveZ fh x = updZ fh x.toNat (fh x.toNat + 1) from if_pos (by omega)]; subst_vars; rfl)
        rw [hw] at hP hD
        exact z_vret hQ hx hb hr hlocks hS ⟨Nat.le_of_ble_eq_true rfl, Nat.le_of_ble_eq_true rfl⟩ dX0_have_20 () rfl trivial hP hD
  · skip
    refine lv_iload_n hx hb dX0_have_0 rfl (lv_at hl 1 rfl) ?_
    refine lv_iconst (v := iI 1) hx hb dX0_have_1 (by decide) ?_
    refine z_icmp_lt (tgt := 20) hx hb (by omega) dX0_have_2 (by decide) (fun c_7 => ?_) (fun c_7 => ?_)
    · skip
      have hw : zb [Wchild X o 2 a b fh fk] = zb [Wchild X o 2 a b (haveZ fh x) fk] := by first | (rw [show haveZ fh x = fh from if_neg (by omega)]; done) | (rw [show haveZ fh x = updZ fh x.toNat (fh x.toNat + 1) from if_pos (by omega)]; subst_vars; rfl)
      rw [hw] at hP hD
      exact z_vret hQ hx hb hr hlocks hS ⟨Nat.le_of_ble_eq_true rfl, Nat.le_of_ble_eq_true rfl⟩ dX0_have_20 () rfl trivial hP hD
    · skip
      refine lv_iload_n hx hb dX0_have_5 rfl (lv_at hl 1 rfl) ?_
      refine lv_iconst (v := iI 3) hx hb dX0_have_6 (by decide) ?_
      refine z_icmp_gt (tgt := 20) hx hb (by omega) dX0_have_7 (by decide) (fun c_8 => ?_) (fun c_8 => ?_)
      · skip
        have hw : zb [Wchild X o 2 a b fh fk] = zb [Wchild X o 2 a b (haveZ fh x) fk] := by first | (rw [show haveZ fh x = fh from if_neg (by omega)]; done) | (rw [show haveZ fh x = updZ fh x.toNat (fh x.toNat + 1) from if_pos (by omega)]; subst_vars; rfl)
        rw [hw] at hP hD
        exact z_vret hQ hx hb hr hlocks hS ⟨Nat.le_of_ble_eq_true rfl, Nat.le_of_ble_eq_true rfl⟩ dX0_have_20 () rfl trivial hP hD
      · skip
        refine lv_aload_n hx hb dX0_have_10 rfl (lv_at hl 0 rfl) ?_
        refine va_get (ci := 6) (v := .ref a) (C := RX6) (T := TX6) (N := 2) hx hb hts inX6 hown hK.1 hP 0 rfl rfl 0 (by decide) (hts (.fieldLink RX0 9 "SkimmedSons$Child" "had" "[I") (by decide +kernel)) (fun _ h9 => h9) rfl dX0_have_11 ?_
        refine lv_iload_n hx hb dX0_have_14 rfl (lv_at hl 1 rfl) ?_
        refine lv_dup2_11 hx hb dX0_have_15 rfl rfl ?_
        refine z_iald hx hb hK.1 hP 1 rfl (by omega) dX0_have_16 ?_
        refine W.eq (g2 := F0 m 17 ls [.int (iI (fh x.toNat)), .int (iI x), .ref a]) rfl ?_
        refine lv_iconst (v := iI 1) hx hb dX0_have_17 (by decide) ?_
        refine z_iadd hx hb dX0_have_18 ?_
        refine z_topi (fun z_9 ez_9 => ?_)
        refine z_iast hx hb hK.1 hP hD hS 1 rfl (by omega) dX0_have_19 (fun H locs hP hD hS => ?_)
        have hP : va_P X.1 vwCl (zb [Wchild X o 2 a b (updZ fh x.toNat z_9) fk]) H := hP
        have hD : va_D A (zb [Wchild X o 2 a b (updZ fh x.toNat z_9) fk]) := hD
        have hw : zb [Wchild X o 2 a b (updZ fh x.toNat z_9) fk] = zb [Wchild X o 2 a b (haveZ fh x) fk] := by first | (rw [show haveZ fh x = fh from if_neg (by omega)]; done) | (rw [show haveZ fh x = updZ fh x.toNat (fh x.toNat + 1) from if_pos (by omega)]; subst_vars; rfl)
        rw [hw] at hP hD
        exact z_vret hQ hx hb hr hlocks hS ⟨Nat.le_of_ble_eq_true rfl, Nat.le_of_ble_eq_true rfl⟩ dX0_have_20 () rfl trivial hP hD
  · skip
    refine lv_iload_n hx hb dX0_have_0 rfl (lv_at hl 1 rfl) ?_
    refine lv_iconst (v := iI 1) hx hb dX0_have_1 (by decide) ?_
    refine z_icmp_lt (tgt := 20) hx hb (by omega) dX0_have_2 (by decide) (fun c_10 => ?_) (fun c_10 => ?_)
    · skip
      have hw : zb [Wchild X o 3 a b fh fk] = zb [Wchild X o 3 a b (haveZ fh x) fk] := by first | (rw [show haveZ fh x = fh from if_neg (by omega)]; done) | (rw [show haveZ fh x = updZ fh x.toNat (fh x.toNat + 1) from if_pos (by omega)]; subst_vars; rfl)
      rw [hw] at hP hD
      exact z_vret hQ hx hb hr hlocks hS ⟨Nat.le_of_ble_eq_true rfl, Nat.le_of_ble_eq_true rfl⟩ dX0_have_20 () rfl trivial hP hD
    · skip
      refine lv_iload_n hx hb dX0_have_5 rfl (lv_at hl 1 rfl) ?_
      refine lv_iconst (v := iI 3) hx hb dX0_have_6 (by decide) ?_
      refine z_icmp_gt (tgt := 20) hx hb (by omega) dX0_have_7 (by decide) (fun c_11 => ?_) (fun c_11 => ?_)
      · skip
        have hw : zb [Wchild X o 3 a b fh fk] = zb [Wchild X o 3 a b (haveZ fh x) fk] := by first | (rw [show haveZ fh x = fh from if_neg (by omega)]; done) | (rw [show haveZ fh x = updZ fh x.toNat (fh x.toNat + 1) from if_pos (by omega)]; subst_vars; rfl)
        rw [hw] at hP hD
        exact z_vret hQ hx hb hr hlocks hS ⟨Nat.le_of_ble_eq_true rfl, Nat.le_of_ble_eq_true rfl⟩ dX0_have_20 () rfl trivial hP hD
      · skip
        refine lv_aload_n hx hb dX0_have_10 rfl (lv_at hl 0 rfl) ?_
        refine va_get (ci := 10) (v := .ref a) (C := RX10) (T := TX10) (N := 2) hx hb hts inX10 hown hK.1 hP 0 rfl rfl 0 (by decide) (hts (.fieldLink RX0 9 "SkimmedSons$Child" "had" "[I") (by decide +kernel)) (fun _ h9 => h9) rfl dX0_have_11 ?_
        refine lv_iload_n hx hb dX0_have_14 rfl (lv_at hl 1 rfl) ?_
        refine lv_dup2_11 hx hb dX0_have_15 rfl rfl ?_
        refine z_iald hx hb hK.1 hP 1 rfl (by omega) dX0_have_16 ?_
        refine W.eq (g2 := F0 m 17 ls [.int (iI (fh x.toNat)), .int (iI x), .ref a]) rfl ?_
        refine lv_iconst (v := iI 1) hx hb dX0_have_17 (by decide) ?_
        refine z_iadd hx hb dX0_have_18 ?_
        refine z_topi (fun z_12 ez_12 => ?_)
        refine z_iast hx hb hK.1 hP hD hS 1 rfl (by omega) dX0_have_19 (fun H locs hP hD hS => ?_)
        have hP : va_P X.1 vwCl (zb [Wchild X o 3 a b (updZ fh x.toNat z_12) fk]) H := hP
        have hD : va_D A (zb [Wchild X o 3 a b (updZ fh x.toNat z_12) fk]) := hD
        have hw : zb [Wchild X o 3 a b (updZ fh x.toNat z_12) fk] = zb [Wchild X o 3 a b (haveZ fh x) fk] := by first | (rw [show haveZ fh x = fh from if_neg (by omega)]; done) | (rw [show haveZ fh x = updZ fh x.toNat (fh x.toNat + 1) from if_pos (by omega)]; subst_vars; rfl)
        rw [hw] at hP hD
        exact z_vret hQ hx hb hr hlocks hS ⟨Nat.le_of_ble_eq_true rfl, Nat.le_of_ble_eq_true rfl⟩ dX0_have_20 () rfl trivial hP hD
  · skip
    refine lv_iload_n hx hb dX0_have_0 rfl (lv_at hl 1 rfl) ?_
    refine lv_iconst (v := iI 1) hx hb dX0_have_1 (by decide) ?_
    refine z_icmp_lt (tgt := 20) hx hb (by omega) dX0_have_2 (by decide) (fun c_13 => ?_) (fun c_13 => ?_)
    · skip
      have hw : zb [Wchild X o 4 a b fh fk] = zb [Wchild X o 4 a b (haveZ fh x) fk] := by first | (rw [show haveZ fh x = fh from if_neg (by omega)]; done) | (rw [show haveZ fh x = updZ fh x.toNat (fh x.toNat + 1) from if_pos (by omega)]; subst_vars; rfl)
      rw [hw] at hP hD
      exact z_vret hQ hx hb hr hlocks hS ⟨Nat.le_of_ble_eq_true rfl, Nat.le_of_ble_eq_true rfl⟩ dX0_have_20 () rfl trivial hP hD
    · skip
      refine lv_iload_n hx hb dX0_have_5 rfl (lv_at hl 1 rfl) ?_
      refine lv_iconst (v := iI 3) hx hb dX0_have_6 (by decide) ?_
      refine z_icmp_gt (tgt := 20) hx hb (by omega) dX0_have_7 (by decide) (fun c_14 => ?_) (fun c_14 => ?_)
      · skip
        have hw : zb [Wchild X o 4 a b fh fk] = zb [Wchild X o 4 a b (haveZ fh x) fk] := by first | (rw [show haveZ fh x = fh from if_neg (by omega)]; done) | (rw [show haveZ fh x = updZ fh x.toNat (fh x.toNat + 1) from if_pos (by omega)]; subst_vars; rfl)
        rw [hw] at hP hD
        exact z_vret hQ hx hb hr hlocks hS ⟨Nat.le_of_ble_eq_true rfl, Nat.le_of_ble_eq_true rfl⟩ dX0_have_20 () rfl trivial hP hD
      · skip
        refine lv_aload_n hx hb dX0_have_10 rfl (lv_at hl 0 rfl) ?_
        refine va_get (ci := 2) (v := .ref a) (C := RX2) (T := TX2) (N := 2) hx hb hts inX2 hown hK.1 hP 0 rfl rfl 0 (by decide) (hts (.fieldLink RX0 9 "SkimmedSons$Child" "had" "[I") (by decide +kernel)) (fun _ h9 => h9) rfl dX0_have_11 ?_
        refine lv_iload_n hx hb dX0_have_14 rfl (lv_at hl 1 rfl) ?_
        refine lv_dup2_11 hx hb dX0_have_15 rfl rfl ?_
        refine z_iald hx hb hK.1 hP 1 rfl (by omega) dX0_have_16 ?_
        refine W.eq (g2 := F0 m 17 ls [.int (iI (fh x.toNat)), .int (iI x), .ref a]) rfl ?_
        refine lv_iconst (v := iI 1) hx hb dX0_have_17 (by decide) ?_
        refine z_iadd hx hb dX0_have_18 ?_
        refine z_topi (fun z_15 ez_15 => ?_)
        refine z_iast hx hb hK.1 hP hD hS 1 rfl (by omega) dX0_have_19 (fun H locs hP hD hS => ?_)
        have hP : va_P X.1 vwCl (zb [Wchild X o 4 a b (updZ fh x.toNat z_15) fk]) H := hP
        have hD : va_D A (zb [Wchild X o 4 a b (updZ fh x.toNat z_15) fk]) := hD
        have hw : zb [Wchild X o 4 a b (updZ fh x.toNat z_15) fk] = zb [Wchild X o 4 a b (haveZ fh x) fk] := by first | (rw [show haveZ fh x = fh from if_neg (by omega)]; done) | (rw [show haveZ fh x = updZ fh x.toNat (fh x.toNat + 1) from if_pos (by omega)]; subst_vars; rfl)
        rw [hw] at hP hD
        exact z_vret hQ hx hb hr hlocks hS ⟨Nat.le_of_ble_eq_true rfl, Nat.le_of_ble_eq_true rfl⟩ dX0_have_20 () rfl trivial hP hD
set_option maxHeartbeats 1000000 in
set_option maxRecDepth 100000 in
theorem c_X0_worth (l : Launch) (X : zX) (o : Nat) (k : Nat) (a : Nat) (b : Nat) (fh : Nat → Int) (fk : Nat → Int) (hk : KindOk k) : zF l X yX0_worth wsX0_worth 3 60 [.ref o] (zb [Wchild X o k a b fh fk]) (some (.int (iI (wAll k fh)))) (zb [Wchild X o k a b fh fk]) := by
  refine z_enter (cc := cX0_worth) (maxL := 1) (ret := (some .int)) (by decide) rfl (Nat.le_of_ble_eq_true rfl) ?_
  intro p e s m below meth c A ls Q hQ hE hl hP hD
  obtain ⟨hx, hb, hr, hml, hown, hts, hlocks, hnm, hA, hK⟩ := hE
  have hown : s.vm.findClass RX0 = some m.cls := hown
  have hS : va_S A s.heap s.heap [] := va_S.rf
  have hl : lv_has ls 1 [(0, .ref o)] := hl
  have inX0 : ∀ w ∈ u_ws RX0 TX0 2, w ∈ wsX0_worth := by decide +kernel
  have inX1 : ∀ w ∈ u_ws RX1 TX1 2, w ∈ wsX0_worth := by decide +kernel
  have inX10 : ∀ w ∈ u_ws RX10 TX10 2, w ∈ wsX0_worth := by decide +kernel
  have inX2 : ∀ w ∈ u_ws RX2 TX2 2, w ∈ wsX0_worth := by decide +kernel
  have inX6 : ∀ w ∈ u_ws RX6 TX6 2, w ∈ wsX0_worth := by decide +kernel
  rcases hk with rfl | rfl | rfl | rfl | rfl
  · skip
    refine lv_aload_n hx hb dX0_worth_0 rfl (lv_at hl 0 rfl) ?_
    refine va_get (ci := 0) (v := .ref a) (C := RX0) (T := TX0) (N := 2) hx hb hts inX0 hown hK.1 hP 0 rfl rfl 0 (by decide) (hts (.fieldLink RX0 9 "SkimmedSons$Child" "had" "[I") (by decide +kernel)) (fun _ h9 => h9) rfl dX0_worth_1 ?_
    refine lv_iconst (v := iI 1) hx hb dX0_worth_4 (by decide) ?_
    refine z_iald hx hb hK.1 hP 1 rfl (by omega) dX0_worth_5 ?_
    refine W.eq (g2 := F0 m 6 ls [.int (iI (fh 1))]) rfl ?_
    refine lv_aload_n hx hb dX0_worth_6 rfl (lv_at hl 0 rfl) ?_
    have hPm := zp_perm hP (zblk (show List.Perm ([Wchild X o 0 a b fh fk] : List va_W) ([Wchild X o 0 a b fh fk] ++ []) from (zf1 _ 0 _ rfl).trans ((List.Perm.refl _).cons _)))
    have hDm := zd_perm hD (zblk (show List.Perm ([Wchild X o 0 a b fh fk] : List va_W) ([Wchild X o 0 a b fh fk] ++ []) from (zf1 _ 0 _ rfl).trans ((List.Perm.refl _).cons _)))
    refine z_callV (wr := zb []) (As := []) (rest := [.int (iI (fh 1))]) ⟨hx, hb, hml, hown, hts⟩ (c_X0_creamWorth l X o 0 a b fh fk ) (cwV 0 hts gX0_worth_X0_creamWorth rfl rfl rfl (by decide +kernel) ⟨Nat.le_of_ble_eq_true rfl, Nat.le_of_ble_eq_true rfl⟩) rfl rfl hl.1 dX0_worth_7 rfl rfl (Nat.le_of_ble_eq_true rfl) ⟨Nat.le_of_ble_eq_true rfl, Nat.le_of_ble_eq_true rfl⟩ hS hA hK hPm hDm (fun _ H locs _ hP hD hS => ?_)
    have hP := zp_perm hP ((zblk (show List.Perm ([Wchild X o 0 a b fh fk] : List va_W) ([Wchild X o 0 a b fh fk] ++ []) from (zf1 _ 0 _ rfl).trans ((List.Perm.refl _).cons _)))).symm
    have hD := zd_perm hD ((zblk (show List.Perm ([Wchild X o 0 a b fh fk] : List va_W) ([Wchild X o 0 a b fh fk] ++ []) from (zf1 _ 0 _ rfl).trans ((List.Perm.refl _).cons _)))).symm
    have hP : va_P X.1 vwCl (zb [Wchild X o 0 a b fh fk]) H := hP
    have hD : va_D A (zb [Wchild X o 0 a b fh fk]) := hD
    refine W.eq (g2 := F0 m 10 ls [.int (iI 2), .int (iI (fh 1))]) rfl ?_
    refine z_imul hx hb dX0_worth_10 ?_
    refine lv_aload_n hx hb dX0_worth_11 rfl (lv_at hl 0 rfl) ?_
    refine va_get (ci := 0) (v := .ref a) (C := RX0) (T := TX0) (N := 2) hx hb hts inX0 hown hK.1 hP 0 rfl rfl 0 (by decide) (hts (.fieldLink RX0 9 "SkimmedSons$Child" "had" "[I") (by decide +kernel)) (fun _ h9 => h9) rfl dX0_worth_12 ?_
    refine lv_iconst (v := iI 2) hx hb dX0_worth_15 (by decide) ?_
    refine z_iald hx hb hK.1 hP 1 rfl (by omega) dX0_worth_16 ?_
    refine W.eq (g2 := F0 m 17 ls [.int (iI (fh 2)), .int (iI ((fh 1) * 2))]) rfl ?_
    refine lv_aload_n hx hb dX0_worth_17 rfl (lv_at hl 0 rfl) ?_
    have hPm := zp_perm hP (zblk (show List.Perm ([Wchild X o 0 a b fh fk] : List va_W) ([Wchild X o 0 a b fh fk] ++ []) from (zf1 _ 0 _ rfl).trans ((List.Perm.refl _).cons _)))
    have hDm := zd_perm hD (zblk (show List.Perm ([Wchild X o 0 a b fh fk] : List va_W) ([Wchild X o 0 a b fh fk] ++ []) from (zf1 _ 0 _ rfl).trans ((List.Perm.refl _).cons _)))
    refine z_callV (wr := zb []) (As := []) (rest := [.int (iI (fh 2)), .int (iI ((fh 1) * 2))]) ⟨hx, hb, hml, hown, hts⟩ (c_X0_filmWorth l X o 0 a b fh fk ) (cwV 0 hts gX0_worth_X0_filmWorth rfl rfl rfl (by decide +kernel) ⟨Nat.le_of_ble_eq_true rfl, Nat.le_of_ble_eq_true rfl⟩) rfl rfl hl.1 dX0_worth_18 rfl rfl (Nat.le_of_ble_eq_true rfl) ⟨Nat.le_of_ble_eq_true rfl, Nat.le_of_ble_eq_true rfl⟩ hS hA hK hPm hDm (fun _ H locs _ hP hD hS => ?_)
    have hP := zp_perm hP ((zblk (show List.Perm ([Wchild X o 0 a b fh fk] : List va_W) ([Wchild X o 0 a b fh fk] ++ []) from (zf1 _ 0 _ rfl).trans ((List.Perm.refl _).cons _)))).symm
    have hD := zd_perm hD ((zblk (show List.Perm ([Wchild X o 0 a b fh fk] : List va_W) ([Wchild X o 0 a b fh fk] ++ []) from (zf1 _ 0 _ rfl).trans ((List.Perm.refl _).cons _)))).symm
    have hP : va_P X.1 vwCl (zb [Wchild X o 0 a b fh fk]) H := hP
    have hD : va_D A (zb [Wchild X o 0 a b fh fk]) := hD
    refine W.eq (g2 := F0 m 21 ls [.int (iI 4), .int (iI (fh 2)), .int (iI ((fh 1) * 2))]) rfl ?_
    refine z_imul hx hb dX0_worth_21 ?_
    refine z_iadd hx hb dX0_worth_22 ?_
    refine lv_aload_n hx hb dX0_worth_23 rfl (lv_at hl 0 rfl) ?_
    refine va_get (ci := 0) (v := .ref a) (C := RX0) (T := TX0) (N := 2) hx hb hts inX0 hown hK.1 hP 0 rfl rfl 0 (by decide) (hts (.fieldLink RX0 9 "SkimmedSons$Child" "had" "[I") (by decide +kernel)) (fun _ h9 => h9) rfl dX0_worth_24 ?_
    refine lv_iconst (v := iI 3) hx hb dX0_worth_27 (by decide) ?_
    refine z_iald hx hb hK.1 hP 1 rfl (by omega) dX0_worth_28 ?_
    refine W.eq (g2 := F0 m 29 ls [.int (iI (fh 3)), .int (iI (((fh 1) * 2) + ((fh 2) * 4)))]) rfl ?_
    refine lv_aload_n hx hb dX0_worth_29 rfl (lv_at hl 0 rfl) ?_
    have hPm := zp_perm hP (zblk (show List.Perm ([Wchild X o 0 a b fh fk] : List va_W) ([Wchild X o 0 a b fh fk] ++ []) from (zf1 _ 0 _ rfl).trans ((List.Perm.refl _).cons _)))
    have hDm := zd_perm hD (zblk (show List.Perm ([Wchild X o 0 a b fh fk] : List va_W) ([Wchild X o 0 a b fh fk] ++ []) from (zf1 _ 0 _ rfl).trans ((List.Perm.refl _).cons _)))
    refine z_callV (wr := zb []) (As := []) (rest := [.int (iI (fh 3)), .int (iI (((fh 1) * 2) + ((fh 2) * 4)))]) ⟨hx, hb, hml, hown, hts⟩ (c_X0_blueWorth l X o 0 a b fh fk ) (cwV 0 hts gX0_worth_X0_blueWorth rfl rfl rfl (by decide +kernel) ⟨Nat.le_of_ble_eq_true rfl, Nat.le_of_ble_eq_true rfl⟩) rfl rfl hl.1 dX0_worth_30 rfl rfl (Nat.le_of_ble_eq_true rfl) ⟨Nat.le_of_ble_eq_true rfl, Nat.le_of_ble_eq_true rfl⟩ hS hA hK hPm hDm (fun _ H locs _ hP hD hS => ?_)
    have hP := zp_perm hP ((zblk (show List.Perm ([Wchild X o 0 a b fh fk] : List va_W) ([Wchild X o 0 a b fh fk] ++ []) from (zf1 _ 0 _ rfl).trans ((List.Perm.refl _).cons _)))).symm
    have hD := zd_perm hD ((zblk (show List.Perm ([Wchild X o 0 a b fh fk] : List va_W) ([Wchild X o 0 a b fh fk] ++ []) from (zf1 _ 0 _ rfl).trans ((List.Perm.refl _).cons _)))).symm
    have hP : va_P X.1 vwCl (zb [Wchild X o 0 a b fh fk]) H := hP
    have hD : va_D A (zb [Wchild X o 0 a b fh fk]) := hD
    refine W.eq (g2 := F0 m 33 ls [.int (iI 1), .int (iI (fh 3)), .int (iI (((fh 1) * 2) + ((fh 2) * 4)))]) rfl ?_
    refine z_imul hx hb dX0_worth_33 ?_
    refine z_iadd hx hb dX0_worth_34 ?_
    exact z_iret hQ hx hb hr hlocks hS ⟨Nat.le_of_ble_eq_true rfl, Nat.le_of_ble_eq_true rfl⟩ dX0_worth_35 () (congrArg (fun z => some (Value.int (iI z))) (show (wAll 0 fh : Int) = (((fh 1) * 2) + ((fh 2) * 4)) + ((fh 3) * 1) by rfl)) trivial hP hD
  · skip
    refine lv_aload_n hx hb dX0_worth_0 rfl (lv_at hl 0 rfl) ?_
    refine va_get (ci := 1) (v := .ref a) (C := RX1) (T := TX1) (N := 2) hx hb hts inX1 hown hK.1 hP 0 rfl rfl 0 (by decide) (hts (.fieldLink RX0 9 "SkimmedSons$Child" "had" "[I") (by decide +kernel)) (fun _ h9 => h9) rfl dX0_worth_1 ?_
    refine lv_iconst (v := iI 1) hx hb dX0_worth_4 (by decide) ?_
    refine z_iald hx hb hK.1 hP 1 rfl (by omega) dX0_worth_5 ?_
    refine W.eq (g2 := F0 m 6 ls [.int (iI (fh 1))]) rfl ?_
    refine lv_aload_n hx hb dX0_worth_6 rfl (lv_at hl 0 rfl) ?_
    have hPm := zp_perm hP (zblk (show List.Perm ([Wchild X o 1 a b fh fk] : List va_W) ([Wchild X o 1 a b fh fk] ++ []) from (zf1 _ 0 _ rfl).trans ((List.Perm.refl _).cons _)))
    have hDm := zd_perm hD (zblk (show List.Perm ([Wchild X o 1 a b fh fk] : List va_W) ([Wchild X o 1 a b fh fk] ++ []) from (zf1 _ 0 _ rfl).trans ((List.Perm.refl _).cons _)))
    refine z_callU (wr := zb []) (As := []) (rest := [.int (iI (fh 1))]) ⟨hx, hb, hml, hown, hts⟩ (c_X1_creamWorth l X o a b fh fk ) (va_cwO (b0 := cX0_creamWorth) (m0 := 1) (r0 := (some .int)) 0 hts gX0_worth_X1_creamWorth_u18X1 rfl rfl rfl (by decide +kernel) (by decide +kernel) ⟨Nat.le_of_ble_eq_true rfl, Nat.le_of_ble_eq_true rfl⟩) rfl rfl hl.1 dX0_worth_7 rfl rfl (Nat.le_of_ble_eq_true rfl) ⟨Nat.le_of_ble_eq_true rfl, Nat.le_of_ble_eq_true rfl⟩ hS hA hK hPm hDm (fun _ H locs _ hP hD hS => ?_)
    have hP := zp_perm hP ((zblk (show List.Perm ([Wchild X o 1 a b fh fk] : List va_W) ([Wchild X o 1 a b fh fk] ++ []) from (zf1 _ 0 _ rfl).trans ((List.Perm.refl _).cons _)))).symm
    have hD := zd_perm hD ((zblk (show List.Perm ([Wchild X o 1 a b fh fk] : List va_W) ([Wchild X o 1 a b fh fk] ++ []) from (zf1 _ 0 _ rfl).trans ((List.Perm.refl _).cons _)))).symm
    have hP : va_P X.1 vwCl (zb [Wchild X o 1 a b fh fk]) H := hP
    have hD : va_D A (zb [Wchild X o 1 a b fh fk]) := hD
    refine W.eq (g2 := F0 m 10 ls [.int (iI 4), .int (iI (fh 1))]) rfl ?_
    refine z_imul hx hb dX0_worth_10 ?_
    refine lv_aload_n hx hb dX0_worth_11 rfl (lv_at hl 0 rfl) ?_
    refine va_get (ci := 1) (v := .ref a) (C := RX1) (T := TX1) (N := 2) hx hb hts inX1 hown hK.1 hP 0 rfl rfl 0 (by decide) (hts (.fieldLink RX0 9 "SkimmedSons$Child" "had" "[I") (by decide +kernel)) (fun _ h9 => h9) rfl dX0_worth_12 ?_
    refine lv_iconst (v := iI 2) hx hb dX0_worth_15 (by decide) ?_
    refine z_iald hx hb hK.1 hP 1 rfl (by omega) dX0_worth_16 ?_
    refine W.eq (g2 := F0 m 17 ls [.int (iI (fh 2)), .int (iI ((fh 1) * 4))]) rfl ?_
    refine lv_aload_n hx hb dX0_worth_17 rfl (lv_at hl 0 rfl) ?_
    have hPm := zp_perm hP (zblk (show List.Perm ([Wchild X o 1 a b fh fk] : List va_W) ([Wchild X o 1 a b fh fk] ++ []) from (zf1 _ 0 _ rfl).trans ((List.Perm.refl _).cons _)))
    have hDm := zd_perm hD (zblk (show List.Perm ([Wchild X o 1 a b fh fk] : List va_W) ([Wchild X o 1 a b fh fk] ++ []) from (zf1 _ 0 _ rfl).trans ((List.Perm.refl _).cons _)))
    refine z_callU (wr := zb []) (As := []) (rest := [.int (iI (fh 2)), .int (iI ((fh 1) * 4))]) ⟨hx, hb, hml, hown, hts⟩ (c_X0_filmWorth l X o 1 a b fh fk ) (va_cwU 0 hts gX0_worth_X0_filmWorth_u22X1 rfl rfl rfl rfl (by decide +kernel) ⟨Nat.le_of_ble_eq_true rfl, Nat.le_of_ble_eq_true rfl⟩) rfl rfl hl.1 dX0_worth_18 rfl rfl (Nat.le_of_ble_eq_true rfl) ⟨Nat.le_of_ble_eq_true rfl, Nat.le_of_ble_eq_true rfl⟩ hS hA hK hPm hDm (fun _ H locs _ hP hD hS => ?_)
    have hP := zp_perm hP ((zblk (show List.Perm ([Wchild X o 1 a b fh fk] : List va_W) ([Wchild X o 1 a b fh fk] ++ []) from (zf1 _ 0 _ rfl).trans ((List.Perm.refl _).cons _)))).symm
    have hD := zd_perm hD ((zblk (show List.Perm ([Wchild X o 1 a b fh fk] : List va_W) ([Wchild X o 1 a b fh fk] ++ []) from (zf1 _ 0 _ rfl).trans ((List.Perm.refl _).cons _)))).symm
    have hP : va_P X.1 vwCl (zb [Wchild X o 1 a b fh fk]) H := hP
    have hD : va_D A (zb [Wchild X o 1 a b fh fk]) := hD
    refine W.eq (g2 := F0 m 21 ls [.int (iI 4), .int (iI (fh 2)), .int (iI ((fh 1) * 4))]) rfl ?_
    refine z_imul hx hb dX0_worth_21 ?_
    refine z_iadd hx hb dX0_worth_22 ?_
    refine lv_aload_n hx hb dX0_worth_23 rfl (lv_at hl 0 rfl) ?_
    refine va_get (ci := 1) (v := .ref a) (C := RX1) (T := TX1) (N := 2) hx hb hts inX1 hown hK.1 hP 0 rfl rfl 0 (by decide) (hts (.fieldLink RX0 9 "SkimmedSons$Child" "had" "[I") (by decide +kernel)) (fun _ h9 => h9) rfl dX0_worth_24 ?_
    refine lv_iconst (v := iI 3) hx hb dX0_worth_27 (by decide) ?_
    refine z_iald hx hb hK.1 hP 1 rfl (by omega) dX0_worth_28 ?_
    refine W.eq (g2 := F0 m 29 ls [.int (iI (fh 3)), .int (iI (((fh 1) * 4) + ((fh 2) * 4)))]) rfl ?_
    refine lv_aload_n hx hb dX0_worth_29 rfl (lv_at hl 0 rfl) ?_
    have hPm := zp_perm hP (zblk (show List.Perm ([Wchild X o 1 a b fh fk] : List va_W) ([Wchild X o 1 a b fh fk] ++ []) from (zf1 _ 0 _ rfl).trans ((List.Perm.refl _).cons _)))
    have hDm := zd_perm hD (zblk (show List.Perm ([Wchild X o 1 a b fh fk] : List va_W) ([Wchild X o 1 a b fh fk] ++ []) from (zf1 _ 0 _ rfl).trans ((List.Perm.refl _).cons _)))
    refine z_callU (wr := zb []) (As := []) (rest := [.int (iI (fh 3)), .int (iI (((fh 1) * 4) + ((fh 2) * 4)))]) ⟨hx, hb, hml, hown, hts⟩ (c_X1_blueWorth l X o a b fh fk ) (va_cwO (b0 := cX0_blueWorth) (m0 := 1) (r0 := (some .int)) 0 hts gX0_worth_X1_blueWorth_u25X1 rfl rfl rfl (by decide +kernel) (by decide +kernel) ⟨Nat.le_of_ble_eq_true rfl, Nat.le_of_ble_eq_true rfl⟩) rfl rfl hl.1 dX0_worth_30 rfl rfl (Nat.le_of_ble_eq_true rfl) ⟨Nat.le_of_ble_eq_true rfl, Nat.le_of_ble_eq_true rfl⟩ hS hA hK hPm hDm (fun _ H locs _ hP hD hS => ?_)
    have hP := zp_perm hP ((zblk (show List.Perm ([Wchild X o 1 a b fh fk] : List va_W) ([Wchild X o 1 a b fh fk] ++ []) from (zf1 _ 0 _ rfl).trans ((List.Perm.refl _).cons _)))).symm
    have hD := zd_perm hD ((zblk (show List.Perm ([Wchild X o 1 a b fh fk] : List va_W) ([Wchild X o 1 a b fh fk] ++ []) from (zf1 _ 0 _ rfl).trans ((List.Perm.refl _).cons _)))).symm
    have hP : va_P X.1 vwCl (zb [Wchild X o 1 a b fh fk]) H := hP
    have hD : va_D A (zb [Wchild X o 1 a b fh fk]) := hD
    refine W.eq (g2 := F0 m 33 ls [.int (iI 0), .int (iI (fh 3)), .int (iI (((fh 1) * 4) + ((fh 2) * 4)))]) rfl ?_
    refine z_imul hx hb dX0_worth_33 ?_
    refine z_iadd hx hb dX0_worth_34 ?_
    exact z_iret hQ hx hb hr hlocks hS ⟨Nat.le_of_ble_eq_true rfl, Nat.le_of_ble_eq_true rfl⟩ dX0_worth_35 () (congrArg (fun z => some (Value.int (iI z))) (show (wAll 1 fh : Int) = (((fh 1) * 4) + ((fh 2) * 4)) + ((fh 3) * 0) by rfl)) trivial hP hD
  · skip
    refine lv_aload_n hx hb dX0_worth_0 rfl (lv_at hl 0 rfl) ?_
    refine va_get (ci := 6) (v := .ref a) (C := RX6) (T := TX6) (N := 2) hx hb hts inX6 hown hK.1 hP 0 rfl rfl 0 (by decide) (hts (.fieldLink RX0 9 "SkimmedSons$Child" "had" "[I") (by decide +kernel)) (fun _ h9 => h9) rfl dX0_worth_1 ?_
    refine lv_iconst (v := iI 1) hx hb dX0_worth_4 (by decide) ?_
    refine z_iald hx hb hK.1 hP 1 rfl (by omega) dX0_worth_5 ?_
    refine W.eq (g2 := F0 m 6 ls [.int (iI (fh 1))]) rfl ?_
    refine lv_aload_n hx hb dX0_worth_6 rfl (lv_at hl 0 rfl) ?_
    have hPm := zp_perm hP (zblk (show List.Perm ([Wchild X o 2 a b fh fk] : List va_W) ([Wchild X o 2 a b fh fk] ++ []) from (zf1 _ 0 _ rfl).trans ((List.Perm.refl _).cons _)))
    have hDm := zd_perm hD (zblk (show List.Perm ([Wchild X o 2 a b fh fk] : List va_W) ([Wchild X o 2 a b fh fk] ++ []) from (zf1 _ 0 _ rfl).trans ((List.Perm.refl _).cons _)))
    refine z_callU (wr := zb []) (As := []) (rest := [.int (iI (fh 1))]) ⟨hx, hb, hml, hown, hts⟩ (c_X6_creamWorth l X o a b fh fk ) (va_cwO (b0 := cX0_creamWorth) (m0 := 1) (r0 := (some .int)) 0 hts gX0_worth_X6_creamWorth_u18X6 rfl rfl rfl (by decide +kernel) (by decide +kernel) ⟨Nat.le_of_ble_eq_true rfl, Nat.le_of_ble_eq_true rfl⟩) rfl rfl hl.1 dX0_worth_7 rfl rfl (Nat.le_of_ble_eq_true rfl) ⟨Nat.le_of_ble_eq_true rfl, Nat.le_of_ble_eq_true rfl⟩ hS hA hK hPm hDm (fun _ H locs _ hP hD hS => ?_)
    have hP := zp_perm hP ((zblk (show List.Perm ([Wchild X o 2 a b fh fk] : List va_W) ([Wchild X o 2 a b fh fk] ++ []) from (zf1 _ 0 _ rfl).trans ((List.Perm.refl _).cons _)))).symm
    have hD := zd_perm hD ((zblk (show List.Perm ([Wchild X o 2 a b fh fk] : List va_W) ([Wchild X o 2 a b fh fk] ++ []) from (zf1 _ 0 _ rfl).trans ((List.Perm.refl _).cons _)))).symm
    have hP : va_P X.1 vwCl (zb [Wchild X o 2 a b fh fk]) H := hP
    have hD : va_D A (zb [Wchild X o 2 a b fh fk]) := hD
    refine W.eq (g2 := F0 m 10 ls [.int (iI 1), .int (iI (fh 1))]) rfl ?_
    refine z_imul hx hb dX0_worth_10 ?_
    refine lv_aload_n hx hb dX0_worth_11 rfl (lv_at hl 0 rfl) ?_
    refine va_get (ci := 6) (v := .ref a) (C := RX6) (T := TX6) (N := 2) hx hb hts inX6 hown hK.1 hP 0 rfl rfl 0 (by decide) (hts (.fieldLink RX0 9 "SkimmedSons$Child" "had" "[I") (by decide +kernel)) (fun _ h9 => h9) rfl dX0_worth_12 ?_
    refine lv_iconst (v := iI 2) hx hb dX0_worth_15 (by decide) ?_
    refine z_iald hx hb hK.1 hP 1 rfl (by omega) dX0_worth_16 ?_
    refine W.eq (g2 := F0 m 17 ls [.int (iI (fh 2)), .int (iI ((fh 1) * 1))]) rfl ?_
    refine lv_aload_n hx hb dX0_worth_17 rfl (lv_at hl 0 rfl) ?_
    have hPm := zp_perm hP (zblk (show List.Perm ([Wchild X o 2 a b fh fk] : List va_W) ([Wchild X o 2 a b fh fk] ++ []) from (zf1 _ 0 _ rfl).trans ((List.Perm.refl _).cons _)))
    have hDm := zd_perm hD (zblk (show List.Perm ([Wchild X o 2 a b fh fk] : List va_W) ([Wchild X o 2 a b fh fk] ++ []) from (zf1 _ 0 _ rfl).trans ((List.Perm.refl _).cons _)))
    refine z_callU (wr := zb []) (As := []) (rest := [.int (iI (fh 2)), .int (iI ((fh 1) * 1))]) ⟨hx, hb, hml, hown, hts⟩ (c_X0_filmWorth l X o 2 a b fh fk ) (va_cwU 0 hts gX0_worth_X0_filmWorth_u22X6 rfl rfl rfl rfl (by decide +kernel) ⟨Nat.le_of_ble_eq_true rfl, Nat.le_of_ble_eq_true rfl⟩) rfl rfl hl.1 dX0_worth_18 rfl rfl (Nat.le_of_ble_eq_true rfl) ⟨Nat.le_of_ble_eq_true rfl, Nat.le_of_ble_eq_true rfl⟩ hS hA hK hPm hDm (fun _ H locs _ hP hD hS => ?_)
    have hP := zp_perm hP ((zblk (show List.Perm ([Wchild X o 2 a b fh fk] : List va_W) ([Wchild X o 2 a b fh fk] ++ []) from (zf1 _ 0 _ rfl).trans ((List.Perm.refl _).cons _)))).symm
    have hD := zd_perm hD ((zblk (show List.Perm ([Wchild X o 2 a b fh fk] : List va_W) ([Wchild X o 2 a b fh fk] ++ []) from (zf1 _ 0 _ rfl).trans ((List.Perm.refl _).cons _)))).symm
    have hP : va_P X.1 vwCl (zb [Wchild X o 2 a b fh fk]) H := hP
    have hD : va_D A (zb [Wchild X o 2 a b fh fk]) := hD
    refine W.eq (g2 := F0 m 21 ls [.int (iI 4), .int (iI (fh 2)), .int (iI ((fh 1) * 1))]) rfl ?_
    refine z_imul hx hb dX0_worth_21 ?_
    refine z_iadd hx hb dX0_worth_22 ?_
    refine lv_aload_n hx hb dX0_worth_23 rfl (lv_at hl 0 rfl) ?_
    refine va_get (ci := 6) (v := .ref a) (C := RX6) (T := TX6) (N := 2) hx hb hts inX6 hown hK.1 hP 0 rfl rfl 0 (by decide) (hts (.fieldLink RX0 9 "SkimmedSons$Child" "had" "[I") (by decide +kernel)) (fun _ h9 => h9) rfl dX0_worth_24 ?_
    refine lv_iconst (v := iI 3) hx hb dX0_worth_27 (by decide) ?_
    refine z_iald hx hb hK.1 hP 1 rfl (by omega) dX0_worth_28 ?_
    refine W.eq (g2 := F0 m 29 ls [.int (iI (fh 3)), .int (iI (((fh 1) * 1) + ((fh 2) * 4)))]) rfl ?_
    refine lv_aload_n hx hb dX0_worth_29 rfl (lv_at hl 0 rfl) ?_
    have hPm := zp_perm hP (zblk (show List.Perm ([Wchild X o 2 a b fh fk] : List va_W) ([Wchild X o 2 a b fh fk] ++ []) from (zf1 _ 0 _ rfl).trans ((List.Perm.refl _).cons _)))
    have hDm := zd_perm hD (zblk (show List.Perm ([Wchild X o 2 a b fh fk] : List va_W) ([Wchild X o 2 a b fh fk] ++ []) from (zf1 _ 0 _ rfl).trans ((List.Perm.refl _).cons _)))
    refine z_callU (wr := zb []) (As := []) (rest := [.int (iI (fh 3)), .int (iI (((fh 1) * 1) + ((fh 2) * 4)))]) ⟨hx, hb, hml, hown, hts⟩ (c_X6_blueWorth l X o a b fh fk ) (va_cwO (b0 := cX0_blueWorth) (m0 := 1) (r0 := (some .int)) 0 hts gX0_worth_X6_blueWorth_u25X6 rfl rfl rfl (by decide +kernel) (by decide +kernel) ⟨Nat.le_of_ble_eq_true rfl, Nat.le_of_ble_eq_true rfl⟩) rfl rfl hl.1 dX0_worth_30 rfl rfl (Nat.le_of_ble_eq_true rfl) ⟨Nat.le_of_ble_eq_true rfl, Nat.le_of_ble_eq_true rfl⟩ hS hA hK hPm hDm (fun _ H locs _ hP hD hS => ?_)
    have hP := zp_perm hP ((zblk (show List.Perm ([Wchild X o 2 a b fh fk] : List va_W) ([Wchild X o 2 a b fh fk] ++ []) from (zf1 _ 0 _ rfl).trans ((List.Perm.refl _).cons _)))).symm
    have hD := zd_perm hD ((zblk (show List.Perm ([Wchild X o 2 a b fh fk] : List va_W) ([Wchild X o 2 a b fh fk] ++ []) from (zf1 _ 0 _ rfl).trans ((List.Perm.refl _).cons _)))).symm
    have hP : va_P X.1 vwCl (zb [Wchild X o 2 a b fh fk]) H := hP
    have hD : va_D A (zb [Wchild X o 2 a b fh fk]) := hD
    refine W.eq (g2 := F0 m 33 ls [.int (iI 2), .int (iI (fh 3)), .int (iI (((fh 1) * 1) + ((fh 2) * 4)))]) rfl ?_
    refine z_imul hx hb dX0_worth_33 ?_
    refine z_iadd hx hb dX0_worth_34 ?_
    exact z_iret hQ hx hb hr hlocks hS ⟨Nat.le_of_ble_eq_true rfl, Nat.le_of_ble_eq_true rfl⟩ dX0_worth_35 () (congrArg (fun z => some (Value.int (iI z))) (show (wAll 2 fh : Int) = (((fh 1) * 1) + ((fh 2) * 4)) + ((fh 3) * 2) by rfl)) trivial hP hD
  · skip
    refine lv_aload_n hx hb dX0_worth_0 rfl (lv_at hl 0 rfl) ?_
    refine va_get (ci := 10) (v := .ref a) (C := RX10) (T := TX10) (N := 2) hx hb hts inX10 hown hK.1 hP 0 rfl rfl 0 (by decide) (hts (.fieldLink RX0 9 "SkimmedSons$Child" "had" "[I") (by decide +kernel)) (fun _ h9 => h9) rfl dX0_worth_1 ?_
    refine lv_iconst (v := iI 1) hx hb dX0_worth_4 (by decide) ?_
    refine z_iald hx hb hK.1 hP 1 rfl (by omega) dX0_worth_5 ?_
    refine W.eq (g2 := F0 m 6 ls [.int (iI (fh 1))]) rfl ?_
    refine lv_aload_n hx hb dX0_worth_6 rfl (lv_at hl 0 rfl) ?_
    have hPm := zp_perm hP (zblk (show List.Perm ([Wchild X o 3 a b fh fk] : List va_W) ([Wchild X o 3 a b fh fk] ++ []) from (zf1 _ 0 _ rfl).trans ((List.Perm.refl _).cons _)))
    have hDm := zd_perm hD (zblk (show List.Perm ([Wchild X o 3 a b fh fk] : List va_W) ([Wchild X o 3 a b fh fk] ++ []) from (zf1 _ 0 _ rfl).trans ((List.Perm.refl _).cons _)))
    refine z_callU (wr := zb []) (As := []) (rest := [.int (iI (fh 1))]) ⟨hx, hb, hml, hown, hts⟩ (c_X0_creamWorth l X o 3 a b fh fk ) (va_cwU 0 hts gX0_worth_X0_creamWorth_u18X10 rfl rfl rfl rfl (by decide +kernel) ⟨Nat.le_of_ble_eq_true rfl, Nat.le_of_ble_eq_true rfl⟩) rfl rfl hl.1 dX0_worth_7 rfl rfl (Nat.le_of_ble_eq_true rfl) ⟨Nat.le_of_ble_eq_true rfl, Nat.le_of_ble_eq_true rfl⟩ hS hA hK hPm hDm (fun _ H locs _ hP hD hS => ?_)
    have hP := zp_perm hP ((zblk (show List.Perm ([Wchild X o 3 a b fh fk] : List va_W) ([Wchild X o 3 a b fh fk] ++ []) from (zf1 _ 0 _ rfl).trans ((List.Perm.refl _).cons _)))).symm
    have hD := zd_perm hD ((zblk (show List.Perm ([Wchild X o 3 a b fh fk] : List va_W) ([Wchild X o 3 a b fh fk] ++ []) from (zf1 _ 0 _ rfl).trans ((List.Perm.refl _).cons _)))).symm
    have hP : va_P X.1 vwCl (zb [Wchild X o 3 a b fh fk]) H := hP
    have hD : va_D A (zb [Wchild X o 3 a b fh fk]) := hD
    refine W.eq (g2 := F0 m 10 ls [.int (iI 2), .int (iI (fh 1))]) rfl ?_
    refine z_imul hx hb dX0_worth_10 ?_
    refine lv_aload_n hx hb dX0_worth_11 rfl (lv_at hl 0 rfl) ?_
    refine va_get (ci := 10) (v := .ref a) (C := RX10) (T := TX10) (N := 2) hx hb hts inX10 hown hK.1 hP 0 rfl rfl 0 (by decide) (hts (.fieldLink RX0 9 "SkimmedSons$Child" "had" "[I") (by decide +kernel)) (fun _ h9 => h9) rfl dX0_worth_12 ?_
    refine lv_iconst (v := iI 2) hx hb dX0_worth_15 (by decide) ?_
    refine z_iald hx hb hK.1 hP 1 rfl (by omega) dX0_worth_16 ?_
    refine W.eq (g2 := F0 m 17 ls [.int (iI (fh 2)), .int (iI ((fh 1) * 2))]) rfl ?_
    refine lv_aload_n hx hb dX0_worth_17 rfl (lv_at hl 0 rfl) ?_
    have hPm := zp_perm hP (zblk (show List.Perm ([Wchild X o 3 a b fh fk] : List va_W) ([Wchild X o 3 a b fh fk] ++ []) from (zf1 _ 0 _ rfl).trans ((List.Perm.refl _).cons _)))
    have hDm := zd_perm hD (zblk (show List.Perm ([Wchild X o 3 a b fh fk] : List va_W) ([Wchild X o 3 a b fh fk] ++ []) from (zf1 _ 0 _ rfl).trans ((List.Perm.refl _).cons _)))
    refine z_callU (wr := zb []) (As := []) (rest := [.int (iI (fh 2)), .int (iI ((fh 1) * 2))]) ⟨hx, hb, hml, hown, hts⟩ (c_X10_filmWorth_y l X o a b fh fk ) (va_cwO (b0 := cX0_filmWorth) (m0 := 1) (r0 := (some .int)) 0 hts gX0_worth_X10_filmWorth_u22X10 rfl rfl rfl (by decide +kernel) (by decide +kernel) ⟨Nat.le_of_ble_eq_true rfl, Nat.le_of_ble_eq_true rfl⟩) rfl rfl hl.1 dX0_worth_18 rfl rfl (Nat.le_of_ble_eq_true rfl) ⟨Nat.le_of_ble_eq_true rfl, Nat.le_of_ble_eq_true rfl⟩ hS hA hK hPm hDm (fun _ H locs _ hP hD hS => ?_)
    have hP := zp_perm hP ((zblk (show List.Perm ([Wchild X o 3 a b fh fk] : List va_W) ([Wchild X o 3 a b fh fk] ++ []) from (zf1 _ 0 _ rfl).trans ((List.Perm.refl _).cons _)))).symm
    have hD := zd_perm hD ((zblk (show List.Perm ([Wchild X o 3 a b fh fk] : List va_W) ([Wchild X o 3 a b fh fk] ++ []) from (zf1 _ 0 _ rfl).trans ((List.Perm.refl _).cons _)))).symm
    have hP : va_P X.1 vwCl (zb [Wchild X o 3 a b fh fk]) H := hP
    have hD : va_D A (zb [Wchild X o 3 a b fh fk]) := hD
    refine W.eq (g2 := F0 m 21 ls [.int (iI 8), .int (iI (fh 2)), .int (iI ((fh 1) * 2))]) rfl ?_
    refine z_imul hx hb dX0_worth_21 ?_
    refine z_iadd hx hb dX0_worth_22 ?_
    refine lv_aload_n hx hb dX0_worth_23 rfl (lv_at hl 0 rfl) ?_
    refine va_get (ci := 10) (v := .ref a) (C := RX10) (T := TX10) (N := 2) hx hb hts inX10 hown hK.1 hP 0 rfl rfl 0 (by decide) (hts (.fieldLink RX0 9 "SkimmedSons$Child" "had" "[I") (by decide +kernel)) (fun _ h9 => h9) rfl dX0_worth_24 ?_
    refine lv_iconst (v := iI 3) hx hb dX0_worth_27 (by decide) ?_
    refine z_iald hx hb hK.1 hP 1 rfl (by omega) dX0_worth_28 ?_
    refine W.eq (g2 := F0 m 29 ls [.int (iI (fh 3)), .int (iI (((fh 1) * 2) + ((fh 2) * 8)))]) rfl ?_
    refine lv_aload_n hx hb dX0_worth_29 rfl (lv_at hl 0 rfl) ?_
    have hPm := zp_perm hP (zblk (show List.Perm ([Wchild X o 3 a b fh fk] : List va_W) ([Wchild X o 3 a b fh fk] ++ []) from (zf1 _ 0 _ rfl).trans ((List.Perm.refl _).cons _)))
    have hDm := zd_perm hD (zblk (show List.Perm ([Wchild X o 3 a b fh fk] : List va_W) ([Wchild X o 3 a b fh fk] ++ []) from (zf1 _ 0 _ rfl).trans ((List.Perm.refl _).cons _)))
    refine z_callU (wr := zb []) (As := []) (rest := [.int (iI (fh 3)), .int (iI (((fh 1) * 2) + ((fh 2) * 8)))]) ⟨hx, hb, hml, hown, hts⟩ (c_X0_blueWorth l X o 3 a b fh fk ) (va_cwU 0 hts gX0_worth_X0_blueWorth_u25X10 rfl rfl rfl rfl (by decide +kernel) ⟨Nat.le_of_ble_eq_true rfl, Nat.le_of_ble_eq_true rfl⟩) rfl rfl hl.1 dX0_worth_30 rfl rfl (Nat.le_of_ble_eq_true rfl) ⟨Nat.le_of_ble_eq_true rfl, Nat.le_of_ble_eq_true rfl⟩ hS hA hK hPm hDm (fun _ H locs _ hP hD hS => ?_)
    have hP := zp_perm hP ((zblk (show List.Perm ([Wchild X o 3 a b fh fk] : List va_W) ([Wchild X o 3 a b fh fk] ++ []) from (zf1 _ 0 _ rfl).trans ((List.Perm.refl _).cons _)))).symm
    have hD := zd_perm hD ((zblk (show List.Perm ([Wchild X o 3 a b fh fk] : List va_W) ([Wchild X o 3 a b fh fk] ++ []) from (zf1 _ 0 _ rfl).trans ((List.Perm.refl _).cons _)))).symm
    have hP : va_P X.1 vwCl (zb [Wchild X o 3 a b fh fk]) H := hP
    have hD : va_D A (zb [Wchild X o 3 a b fh fk]) := hD
    refine W.eq (g2 := F0 m 33 ls [.int (iI 1), .int (iI (fh 3)), .int (iI (((fh 1) * 2) + ((fh 2) * 8)))]) rfl ?_
    refine z_imul hx hb dX0_worth_33 ?_
    refine z_iadd hx hb dX0_worth_34 ?_
    exact z_iret hQ hx hb hr hlocks hS ⟨Nat.le_of_ble_eq_true rfl, Nat.le_of_ble_eq_true rfl⟩ dX0_worth_35 () (congrArg (fun z => some (Value.int (iI z))) (show (wAll 3 fh : Int) = (((fh 1) * 2) + ((fh 2) * 8)) + ((fh 3) * 1) by rfl)) trivial hP hD
  · skip
    refine lv_aload_n hx hb dX0_worth_0 rfl (lv_at hl 0 rfl) ?_
    refine va_get (ci := 2) (v := .ref a) (C := RX2) (T := TX2) (N := 2) hx hb hts inX2 hown hK.1 hP 0 rfl rfl 0 (by decide) (hts (.fieldLink RX0 9 "SkimmedSons$Child" "had" "[I") (by decide +kernel)) (fun _ h9 => h9) rfl dX0_worth_1 ?_
    refine lv_iconst (v := iI 1) hx hb dX0_worth_4 (by decide) ?_
    refine z_iald hx hb hK.1 hP 1 rfl (by omega) dX0_worth_5 ?_
    refine W.eq (g2 := F0 m 6 ls [.int (iI (fh 1))]) rfl ?_
    refine lv_aload_n hx hb dX0_worth_6 rfl (lv_at hl 0 rfl) ?_
    have hPm := zp_perm hP (zblk (show List.Perm ([Wchild X o 4 a b fh fk] : List va_W) ([Wchild X o 4 a b fh fk] ++ []) from (zf1 _ 0 _ rfl).trans ((List.Perm.refl _).cons _)))
    have hDm := zd_perm hD (zblk (show List.Perm ([Wchild X o 4 a b fh fk] : List va_W) ([Wchild X o 4 a b fh fk] ++ []) from (zf1 _ 0 _ rfl).trans ((List.Perm.refl _).cons _)))
    refine z_callU (wr := zb []) (As := []) (rest := [.int (iI (fh 1))]) ⟨hx, hb, hml, hown, hts⟩ (c_X2_creamWorth l X o a b fh fk ) (va_cwO (b0 := cX0_creamWorth) (m0 := 1) (r0 := (some .int)) 0 hts gX0_worth_X2_creamWorth_u18X2 rfl rfl rfl (by decide +kernel) (by decide +kernel) ⟨Nat.le_of_ble_eq_true rfl, Nat.le_of_ble_eq_true rfl⟩) rfl rfl hl.1 dX0_worth_7 rfl rfl (Nat.le_of_ble_eq_true rfl) ⟨Nat.le_of_ble_eq_true rfl, Nat.le_of_ble_eq_true rfl⟩ hS hA hK hPm hDm (fun _ H locs _ hP hD hS => ?_)
    have hP := zp_perm hP ((zblk (show List.Perm ([Wchild X o 4 a b fh fk] : List va_W) ([Wchild X o 4 a b fh fk] ++ []) from (zf1 _ 0 _ rfl).trans ((List.Perm.refl _).cons _)))).symm
    have hD := zd_perm hD ((zblk (show List.Perm ([Wchild X o 4 a b fh fk] : List va_W) ([Wchild X o 4 a b fh fk] ++ []) from (zf1 _ 0 _ rfl).trans ((List.Perm.refl _).cons _)))).symm
    have hP : va_P X.1 vwCl (zb [Wchild X o 4 a b fh fk]) H := hP
    have hD : va_D A (zb [Wchild X o 4 a b fh fk]) := hD
    refine W.eq (g2 := F0 m 10 ls [.int (iI 0), .int (iI (fh 1))]) rfl ?_
    refine z_imul hx hb dX0_worth_10 ?_
    refine lv_aload_n hx hb dX0_worth_11 rfl (lv_at hl 0 rfl) ?_
    refine va_get (ci := 2) (v := .ref a) (C := RX2) (T := TX2) (N := 2) hx hb hts inX2 hown hK.1 hP 0 rfl rfl 0 (by decide) (hts (.fieldLink RX0 9 "SkimmedSons$Child" "had" "[I") (by decide +kernel)) (fun _ h9 => h9) rfl dX0_worth_12 ?_
    refine lv_iconst (v := iI 2) hx hb dX0_worth_15 (by decide) ?_
    refine z_iald hx hb hK.1 hP 1 rfl (by omega) dX0_worth_16 ?_
    refine W.eq (g2 := F0 m 17 ls [.int (iI (fh 2)), .int (iI ((fh 1) * 0))]) rfl ?_
    refine lv_aload_n hx hb dX0_worth_17 rfl (lv_at hl 0 rfl) ?_
    have hPm := zp_perm hP (zblk (show List.Perm ([Wchild X o 4 a b fh fk] : List va_W) ([Wchild X o 4 a b fh fk] ++ []) from (zf1 _ 0 _ rfl).trans ((List.Perm.refl _).cons _)))
    have hDm := zd_perm hD (zblk (show List.Perm ([Wchild X o 4 a b fh fk] : List va_W) ([Wchild X o 4 a b fh fk] ++ []) from (zf1 _ 0 _ rfl).trans ((List.Perm.refl _).cons _)))
    refine z_callU (wr := zb []) (As := []) (rest := [.int (iI (fh 2)), .int (iI ((fh 1) * 0))]) ⟨hx, hb, hml, hown, hts⟩ (c_X2_filmWorth l X o a b fh fk ) (va_cwO (b0 := cX0_filmWorth) (m0 := 1) (r0 := (some .int)) 0 hts gX0_worth_X2_filmWorth_u22X2 rfl rfl rfl (by decide +kernel) (by decide +kernel) ⟨Nat.le_of_ble_eq_true rfl, Nat.le_of_ble_eq_true rfl⟩) rfl rfl hl.1 dX0_worth_18 rfl rfl (Nat.le_of_ble_eq_true rfl) ⟨Nat.le_of_ble_eq_true rfl, Nat.le_of_ble_eq_true rfl⟩ hS hA hK hPm hDm (fun _ H locs _ hP hD hS => ?_)
    have hP := zp_perm hP ((zblk (show List.Perm ([Wchild X o 4 a b fh fk] : List va_W) ([Wchild X o 4 a b fh fk] ++ []) from (zf1 _ 0 _ rfl).trans ((List.Perm.refl _).cons _)))).symm
    have hD := zd_perm hD ((zblk (show List.Perm ([Wchild X o 4 a b fh fk] : List va_W) ([Wchild X o 4 a b fh fk] ++ []) from (zf1 _ 0 _ rfl).trans ((List.Perm.refl _).cons _)))).symm
    have hP : va_P X.1 vwCl (zb [Wchild X o 4 a b fh fk]) H := hP
    have hD : va_D A (zb [Wchild X o 4 a b fh fk]) := hD
    refine W.eq (g2 := F0 m 21 ls [.int (iI 16), .int (iI (fh 2)), .int (iI ((fh 1) * 0))]) rfl ?_
    refine z_imul hx hb dX0_worth_21 ?_
    refine z_iadd hx hb dX0_worth_22 ?_
    refine lv_aload_n hx hb dX0_worth_23 rfl (lv_at hl 0 rfl) ?_
    refine va_get (ci := 2) (v := .ref a) (C := RX2) (T := TX2) (N := 2) hx hb hts inX2 hown hK.1 hP 0 rfl rfl 0 (by decide) (hts (.fieldLink RX0 9 "SkimmedSons$Child" "had" "[I") (by decide +kernel)) (fun _ h9 => h9) rfl dX0_worth_24 ?_
    refine lv_iconst (v := iI 3) hx hb dX0_worth_27 (by decide) ?_
    refine z_iald hx hb hK.1 hP 1 rfl (by omega) dX0_worth_28 ?_
    refine W.eq (g2 := F0 m 29 ls [.int (iI (fh 3)), .int (iI (((fh 1) * 0) + ((fh 2) * 16)))]) rfl ?_
    refine lv_aload_n hx hb dX0_worth_29 rfl (lv_at hl 0 rfl) ?_
    have hPm := zp_perm hP (zblk (show List.Perm ([Wchild X o 4 a b fh fk] : List va_W) ([Wchild X o 4 a b fh fk] ++ []) from (zf1 _ 0 _ rfl).trans ((List.Perm.refl _).cons _)))
    have hDm := zd_perm hD (zblk (show List.Perm ([Wchild X o 4 a b fh fk] : List va_W) ([Wchild X o 4 a b fh fk] ++ []) from (zf1 _ 0 _ rfl).trans ((List.Perm.refl _).cons _)))
    refine z_callU (wr := zb []) (As := []) (rest := [.int (iI (fh 3)), .int (iI (((fh 1) * 0) + ((fh 2) * 16)))]) ⟨hx, hb, hml, hown, hts⟩ (c_X2_blueWorth l X o a b fh fk ) (va_cwO (b0 := cX0_blueWorth) (m0 := 1) (r0 := (some .int)) 0 hts gX0_worth_X2_blueWorth_u25X2 rfl rfl rfl (by decide +kernel) (by decide +kernel) ⟨Nat.le_of_ble_eq_true rfl, Nat.le_of_ble_eq_true rfl⟩) rfl rfl hl.1 dX0_worth_30 rfl rfl (Nat.le_of_ble_eq_true rfl) ⟨Nat.le_of_ble_eq_true rfl, Nat.le_of_ble_eq_true rfl⟩ hS hA hK hPm hDm (fun _ H locs _ hP hD hS => ?_)
    have hP := zp_perm hP ((zblk (show List.Perm ([Wchild X o 4 a b fh fk] : List va_W) ([Wchild X o 4 a b fh fk] ++ []) from (zf1 _ 0 _ rfl).trans ((List.Perm.refl _).cons _)))).symm
    have hD := zd_perm hD ((zblk (show List.Perm ([Wchild X o 4 a b fh fk] : List va_W) ([Wchild X o 4 a b fh fk] ++ []) from (zf1 _ 0 _ rfl).trans ((List.Perm.refl _).cons _)))).symm
    have hP : va_P X.1 vwCl (zb [Wchild X o 4 a b fh fk]) H := hP
    have hD : va_D A (zb [Wchild X o 4 a b fh fk]) := hD
    refine W.eq (g2 := F0 m 33 ls [.int (iI 0), .int (iI (fh 3)), .int (iI (((fh 1) * 0) + ((fh 2) * 16)))]) rfl ?_
    refine z_imul hx hb dX0_worth_33 ?_
    refine z_iadd hx hb dX0_worth_34 ?_
    exact z_iret hQ hx hb hr hlocks hS ⟨Nat.le_of_ble_eq_true rfl, Nat.le_of_ble_eq_true rfl⟩ dX0_worth_35 () (congrArg (fun z => some (Value.int (iI z))) (show (wAll 4 fh : Int) = (((fh 1) * 0) + ((fh 2) * 16)) + ((fh 3) * 0) by rfl)) trivial hP hD
set_option maxHeartbeats 1000000 in
set_option maxRecDepth 100000 in
theorem c_X0_keep (l : Launch) (X : zX) (o : Nat) (k : Nat) (a : Nat) (b : Nat) (fh : Nat → Int) (fk : Nat → Int) (hk : KindOk k) : zF l X yX0_keep wsX0_keep 1 100 [.ref o] (zb [Wchild X o k a b fh fk]) none (zb [Wchild X o k a b fh (catZ fh fk 4)]) := by
  refine z_enter (cc := cX0_keep) (maxL := 1) (ret := none) (by decide) rfl (Nat.le_of_ble_eq_true rfl) ?_
  intro p e s m below meth c A ls Q hQ hE hl hP hD
  obtain ⟨hx, hb, hr, hml, hown, hts, hlocks, hnm, hA, hK⟩ := hE
  have hown : s.vm.findClass RX0 = some m.cls := hown
  have hS : va_S A s.heap s.heap [] := va_S.rf
  have hl : lv_has ls 1 [(0, .ref o)] := hl
  have inX0 : ∀ w ∈ u_ws RX0 TX0 2, w ∈ wsX0_keep := by decide +kernel
  have inX1 : ∀ w ∈ u_ws RX1 TX1 2, w ∈ wsX0_keep := by decide +kernel
  have inX10 : ∀ w ∈ u_ws RX10 TX10 2, w ∈ wsX0_keep := by decide +kernel
  have inX2 : ∀ w ∈ u_ws RX2 TX2 2, w ∈ wsX0_keep := by decide +kernel
  have inX6 : ∀ w ∈ u_ws RX6 TX6 2, w ∈ wsX0_keep := by decide +kernel
  rcases hk with rfl | rfl | rfl | rfl | rfl
  · skip
    refine lv_aload_n hx hb dX0_keep_0 rfl (lv_at hl 0 rfl) ?_
    refine va_get (ci := 0) (v := .ref a) (C := RX0) (T := TX0) (N := 2) hx hb hts inX0 hown hK.1 hP 0 rfl rfl 0 (by decide) (hts (.fieldLink RX0 9 "SkimmedSons$Child" "had" "[I") (by decide +kernel)) (fun _ h9 => h9) rfl dX0_keep_1 ?_
    refine lv_iconst (v := iI 0) hx hb dX0_keep_4 (by decide) ?_
    refine lv_aload_n hx hb dX0_keep_5 rfl (lv_at hl 0 rfl) ?_
    refine va_get (ci := 0) (v := .ref b) (C := RX0) (T := TX0) (N := 2) hx hb hts inX0 hown hK.1 hP 0 rfl rfl 1 (by decide) (hts (.fieldLink RX0 15 "SkimmedSons$Child" "kept" "[I") (by decide +kernel)) (fun _ h9 => h9) rfl dX0_keep_6 ?_
    refine lv_iconst (v := iI 0) hx hb dX0_keep_9 (by decide) ?_
    refine lv_aload_n hx hb dX0_keep_10 rfl (lv_at hl 0 rfl) ?_
    refine va_get (ci := 0) (v := .ref a) (C := RX0) (T := TX0) (N := 2) hx hb hts inX0 hown hK.1 hP 0 rfl rfl 0 (by decide) (hts (.fieldLink RX0 9 "SkimmedSons$Child" "had" "[I") (by decide +kernel)) (fun _ h9 => h9) rfl dX0_keep_11 ?_
    refine z_alen (a := 4) hx hb hK.1 hP 1 2 rfl rfl rfl dX0_keep_14 ?_
    refine z_copy (k := 4) hx hb (hml.trans hl.1.symm) hown (hts (.methodLink RX0 28 arraycopyName) (by decide +kernel)) (hts (.native arraycopyName) (by decide +kernel)) (hts (.static arraycopyName) (by decide +kernel)) (hts (.initialized "java/lang/System") (by decide +kernel)) hK.1 hP hD hS 1 2 rfl rfl (by decide) (Nat.le_of_ble_eq_true rfl) (by decide +kernel) dX0_keep_15 (fun H locs hP hD hS => ?_)
    have hP : va_P X.1 vwCl (zb [Wchild X o 0 a b fh (catZ fh fk 4)]) H := hP
    have hD : va_D A (zb [Wchild X o 0 a b fh (catZ fh fk 4)]) := hD
    exact z_vret hQ hx hb hr hlocks hS ⟨Nat.le_of_ble_eq_true rfl, Nat.le_of_ble_eq_true rfl⟩ dX0_keep_18 () rfl trivial hP hD
  · skip
    refine lv_aload_n hx hb dX0_keep_0 rfl (lv_at hl 0 rfl) ?_
    refine va_get (ci := 1) (v := .ref a) (C := RX1) (T := TX1) (N := 2) hx hb hts inX1 hown hK.1 hP 0 rfl rfl 0 (by decide) (hts (.fieldLink RX0 9 "SkimmedSons$Child" "had" "[I") (by decide +kernel)) (fun _ h9 => h9) rfl dX0_keep_1 ?_
    refine lv_iconst (v := iI 0) hx hb dX0_keep_4 (by decide) ?_
    refine lv_aload_n hx hb dX0_keep_5 rfl (lv_at hl 0 rfl) ?_
    refine va_get (ci := 1) (v := .ref b) (C := RX1) (T := TX1) (N := 2) hx hb hts inX1 hown hK.1 hP 0 rfl rfl 1 (by decide) (hts (.fieldLink RX0 15 "SkimmedSons$Child" "kept" "[I") (by decide +kernel)) (fun _ h9 => h9) rfl dX0_keep_6 ?_
    refine lv_iconst (v := iI 0) hx hb dX0_keep_9 (by decide) ?_
    refine lv_aload_n hx hb dX0_keep_10 rfl (lv_at hl 0 rfl) ?_
    refine va_get (ci := 1) (v := .ref a) (C := RX1) (T := TX1) (N := 2) hx hb hts inX1 hown hK.1 hP 0 rfl rfl 0 (by decide) (hts (.fieldLink RX0 9 "SkimmedSons$Child" "had" "[I") (by decide +kernel)) (fun _ h9 => h9) rfl dX0_keep_11 ?_
    refine z_alen (a := 4) hx hb hK.1 hP 1 2 rfl rfl rfl dX0_keep_14 ?_
    refine z_copy (k := 4) hx hb (hml.trans hl.1.symm) hown (hts (.methodLink RX0 28 arraycopyName) (by decide +kernel)) (hts (.native arraycopyName) (by decide +kernel)) (hts (.static arraycopyName) (by decide +kernel)) (hts (.initialized "java/lang/System") (by decide +kernel)) hK.1 hP hD hS 1 2 rfl rfl (by decide) (Nat.le_of_ble_eq_true rfl) (by decide +kernel) dX0_keep_15 (fun H locs hP hD hS => ?_)
    have hP : va_P X.1 vwCl (zb [Wchild X o 1 a b fh (catZ fh fk 4)]) H := hP
    have hD : va_D A (zb [Wchild X o 1 a b fh (catZ fh fk 4)]) := hD
    exact z_vret hQ hx hb hr hlocks hS ⟨Nat.le_of_ble_eq_true rfl, Nat.le_of_ble_eq_true rfl⟩ dX0_keep_18 () rfl trivial hP hD
  · skip
    refine lv_aload_n hx hb dX0_keep_0 rfl (lv_at hl 0 rfl) ?_
    refine va_get (ci := 6) (v := .ref a) (C := RX6) (T := TX6) (N := 2) hx hb hts inX6 hown hK.1 hP 0 rfl rfl 0 (by decide) (hts (.fieldLink RX0 9 "SkimmedSons$Child" "had" "[I") (by decide +kernel)) (fun _ h9 => h9) rfl dX0_keep_1 ?_
    refine lv_iconst (v := iI 0) hx hb dX0_keep_4 (by decide) ?_
    refine lv_aload_n hx hb dX0_keep_5 rfl (lv_at hl 0 rfl) ?_
    refine va_get (ci := 6) (v := .ref b) (C := RX6) (T := TX6) (N := 2) hx hb hts inX6 hown hK.1 hP 0 rfl rfl 1 (by decide) (hts (.fieldLink RX0 15 "SkimmedSons$Child" "kept" "[I") (by decide +kernel)) (fun _ h9 => h9) rfl dX0_keep_6 ?_
    refine lv_iconst (v := iI 0) hx hb dX0_keep_9 (by decide) ?_
    refine lv_aload_n hx hb dX0_keep_10 rfl (lv_at hl 0 rfl) ?_
    refine va_get (ci := 6) (v := .ref a) (C := RX6) (T := TX6) (N := 2) hx hb hts inX6 hown hK.1 hP 0 rfl rfl 0 (by decide) (hts (.fieldLink RX0 9 "SkimmedSons$Child" "had" "[I") (by decide +kernel)) (fun _ h9 => h9) rfl dX0_keep_11 ?_
    refine z_alen (a := 4) hx hb hK.1 hP 1 2 rfl rfl rfl dX0_keep_14 ?_
    refine z_copy (k := 4) hx hb (hml.trans hl.1.symm) hown (hts (.methodLink RX0 28 arraycopyName) (by decide +kernel)) (hts (.native arraycopyName) (by decide +kernel)) (hts (.static arraycopyName) (by decide +kernel)) (hts (.initialized "java/lang/System") (by decide +kernel)) hK.1 hP hD hS 1 2 rfl rfl (by decide) (Nat.le_of_ble_eq_true rfl) (by decide +kernel) dX0_keep_15 (fun H locs hP hD hS => ?_)
    have hP : va_P X.1 vwCl (zb [Wchild X o 2 a b fh (catZ fh fk 4)]) H := hP
    have hD : va_D A (zb [Wchild X o 2 a b fh (catZ fh fk 4)]) := hD
    exact z_vret hQ hx hb hr hlocks hS ⟨Nat.le_of_ble_eq_true rfl, Nat.le_of_ble_eq_true rfl⟩ dX0_keep_18 () rfl trivial hP hD
  · skip
    refine lv_aload_n hx hb dX0_keep_0 rfl (lv_at hl 0 rfl) ?_
    refine va_get (ci := 10) (v := .ref a) (C := RX10) (T := TX10) (N := 2) hx hb hts inX10 hown hK.1 hP 0 rfl rfl 0 (by decide) (hts (.fieldLink RX0 9 "SkimmedSons$Child" "had" "[I") (by decide +kernel)) (fun _ h9 => h9) rfl dX0_keep_1 ?_
    refine lv_iconst (v := iI 0) hx hb dX0_keep_4 (by decide) ?_
    refine lv_aload_n hx hb dX0_keep_5 rfl (lv_at hl 0 rfl) ?_
    refine va_get (ci := 10) (v := .ref b) (C := RX10) (T := TX10) (N := 2) hx hb hts inX10 hown hK.1 hP 0 rfl rfl 1 (by decide) (hts (.fieldLink RX0 15 "SkimmedSons$Child" "kept" "[I") (by decide +kernel)) (fun _ h9 => h9) rfl dX0_keep_6 ?_
    refine lv_iconst (v := iI 0) hx hb dX0_keep_9 (by decide) ?_
    refine lv_aload_n hx hb dX0_keep_10 rfl (lv_at hl 0 rfl) ?_
    refine va_get (ci := 10) (v := .ref a) (C := RX10) (T := TX10) (N := 2) hx hb hts inX10 hown hK.1 hP 0 rfl rfl 0 (by decide) (hts (.fieldLink RX0 9 "SkimmedSons$Child" "had" "[I") (by decide +kernel)) (fun _ h9 => h9) rfl dX0_keep_11 ?_
    refine z_alen (a := 4) hx hb hK.1 hP 1 2 rfl rfl rfl dX0_keep_14 ?_
    refine z_copy (k := 4) hx hb (hml.trans hl.1.symm) hown (hts (.methodLink RX0 28 arraycopyName) (by decide +kernel)) (hts (.native arraycopyName) (by decide +kernel)) (hts (.static arraycopyName) (by decide +kernel)) (hts (.initialized "java/lang/System") (by decide +kernel)) hK.1 hP hD hS 1 2 rfl rfl (by decide) (Nat.le_of_ble_eq_true rfl) (by decide +kernel) dX0_keep_15 (fun H locs hP hD hS => ?_)
    have hP : va_P X.1 vwCl (zb [Wchild X o 3 a b fh (catZ fh fk 4)]) H := hP
    have hD : va_D A (zb [Wchild X o 3 a b fh (catZ fh fk 4)]) := hD
    exact z_vret hQ hx hb hr hlocks hS ⟨Nat.le_of_ble_eq_true rfl, Nat.le_of_ble_eq_true rfl⟩ dX0_keep_18 () rfl trivial hP hD
  · skip
    refine lv_aload_n hx hb dX0_keep_0 rfl (lv_at hl 0 rfl) ?_
    refine va_get (ci := 2) (v := .ref a) (C := RX2) (T := TX2) (N := 2) hx hb hts inX2 hown hK.1 hP 0 rfl rfl 0 (by decide) (hts (.fieldLink RX0 9 "SkimmedSons$Child" "had" "[I") (by decide +kernel)) (fun _ h9 => h9) rfl dX0_keep_1 ?_
    refine lv_iconst (v := iI 0) hx hb dX0_keep_4 (by decide) ?_
    refine lv_aload_n hx hb dX0_keep_5 rfl (lv_at hl 0 rfl) ?_
    refine va_get (ci := 2) (v := .ref b) (C := RX2) (T := TX2) (N := 2) hx hb hts inX2 hown hK.1 hP 0 rfl rfl 1 (by decide) (hts (.fieldLink RX0 15 "SkimmedSons$Child" "kept" "[I") (by decide +kernel)) (fun _ h9 => h9) rfl dX0_keep_6 ?_
    refine lv_iconst (v := iI 0) hx hb dX0_keep_9 (by decide) ?_
    refine lv_aload_n hx hb dX0_keep_10 rfl (lv_at hl 0 rfl) ?_
    refine va_get (ci := 2) (v := .ref a) (C := RX2) (T := TX2) (N := 2) hx hb hts inX2 hown hK.1 hP 0 rfl rfl 0 (by decide) (hts (.fieldLink RX0 9 "SkimmedSons$Child" "had" "[I") (by decide +kernel)) (fun _ h9 => h9) rfl dX0_keep_11 ?_
    refine z_alen (a := 4) hx hb hK.1 hP 1 2 rfl rfl rfl dX0_keep_14 ?_
    refine z_copy (k := 4) hx hb (hml.trans hl.1.symm) hown (hts (.methodLink RX0 28 arraycopyName) (by decide +kernel)) (hts (.native arraycopyName) (by decide +kernel)) (hts (.static arraycopyName) (by decide +kernel)) (hts (.initialized "java/lang/System") (by decide +kernel)) hK.1 hP hD hS 1 2 rfl rfl (by decide) (Nat.le_of_ble_eq_true rfl) (by decide +kernel) dX0_keep_15 (fun H locs hP hD hS => ?_)
    have hP : va_P X.1 vwCl (zb [Wchild X o 4 a b fh (catZ fh fk 4)]) H := hP
    have hD : va_D A (zb [Wchild X o 4 a b fh (catZ fh fk 4)]) := hD
    exact z_vret hQ hx hb hr hlocks hS ⟨Nat.le_of_ble_eq_true rfl, Nat.le_of_ble_eq_true rfl⟩ dX0_keep_18 () rfl trivial hP hD
set_option maxHeartbeats 1000000 in
set_option maxRecDepth 100000 in
theorem c_X0_goBack (l : Launch) (X : zX) (o : Nat) (k : Nat) (a : Nat) (b : Nat) (fh : Nat → Int) (fk : Nat → Int) (hk : KindOk k) : zF l X yX0_goBack wsX0_goBack 1 100 [.ref o] (zb [Wchild X o k a b fh fk]) none (zb [Wchild X o k a b (catZ fk fh 4) fk]) := by
  refine z_enter (cc := cX0_goBack) (maxL := 1) (ret := none) (by decide) rfl (Nat.le_of_ble_eq_true rfl) ?_
  intro p e s m below meth c A ls Q hQ hE hl hP hD
  obtain ⟨hx, hb, hr, hml, hown, hts, hlocks, hnm, hA, hK⟩ := hE
  have hown : s.vm.findClass RX0 = some m.cls := hown
  have hS : va_S A s.heap s.heap [] := va_S.rf
  have hl : lv_has ls 1 [(0, .ref o)] := hl
  have inX0 : ∀ w ∈ u_ws RX0 TX0 2, w ∈ wsX0_goBack := by decide +kernel
  have inX1 : ∀ w ∈ u_ws RX1 TX1 2, w ∈ wsX0_goBack := by decide +kernel
  have inX10 : ∀ w ∈ u_ws RX10 TX10 2, w ∈ wsX0_goBack := by decide +kernel
  have inX2 : ∀ w ∈ u_ws RX2 TX2 2, w ∈ wsX0_goBack := by decide +kernel
  have inX6 : ∀ w ∈ u_ws RX6 TX6 2, w ∈ wsX0_goBack := by decide +kernel
  rcases hk with rfl | rfl | rfl | rfl | rfl
  · skip
    refine lv_aload_n hx hb dX0_goBack_0 rfl (lv_at hl 0 rfl) ?_
    refine va_get (ci := 0) (v := .ref b) (C := RX0) (T := TX0) (N := 2) hx hb hts inX0 hown hK.1 hP 0 rfl rfl 1 (by decide) (hts (.fieldLink RX0 15 "SkimmedSons$Child" "kept" "[I") (by decide +kernel)) (fun _ h9 => h9) rfl dX0_goBack_1 ?_
    refine lv_iconst (v := iI 0) hx hb dX0_goBack_4 (by decide) ?_
    refine lv_aload_n hx hb dX0_goBack_5 rfl (lv_at hl 0 rfl) ?_
    refine va_get (ci := 0) (v := .ref a) (C := RX0) (T := TX0) (N := 2) hx hb hts inX0 hown hK.1 hP 0 rfl rfl 0 (by decide) (hts (.fieldLink RX0 9 "SkimmedSons$Child" "had" "[I") (by decide +kernel)) (fun _ h9 => h9) rfl dX0_goBack_6 ?_
    refine lv_iconst (v := iI 0) hx hb dX0_goBack_9 (by decide) ?_
    refine lv_aload_n hx hb dX0_goBack_10 rfl (lv_at hl 0 rfl) ?_
    refine va_get (ci := 0) (v := .ref b) (C := RX0) (T := TX0) (N := 2) hx hb hts inX0 hown hK.1 hP 0 rfl rfl 1 (by decide) (hts (.fieldLink RX0 15 "SkimmedSons$Child" "kept" "[I") (by decide +kernel)) (fun _ h9 => h9) rfl dX0_goBack_11 ?_
    refine z_alen (a := 4) hx hb hK.1 hP 2 2 rfl rfl rfl dX0_goBack_14 ?_
    refine z_copy (k := 4) hx hb (hml.trans hl.1.symm) hown (hts (.methodLink RX0 28 arraycopyName) (by decide +kernel)) (hts (.native arraycopyName) (by decide +kernel)) (hts (.static arraycopyName) (by decide +kernel)) (hts (.initialized "java/lang/System") (by decide +kernel)) hK.1 hP hD hS 2 1 rfl rfl (by decide) (Nat.le_of_ble_eq_true rfl) (by decide +kernel) dX0_goBack_15 (fun H locs hP hD hS => ?_)
    have hP : va_P X.1 vwCl (zb [Wchild X o 0 a b (catZ fk fh 4) fk]) H := hP
    have hD : va_D A (zb [Wchild X o 0 a b (catZ fk fh 4) fk]) := hD
    exact z_vret hQ hx hb hr hlocks hS ⟨Nat.le_of_ble_eq_true rfl, Nat.le_of_ble_eq_true rfl⟩ dX0_goBack_18 () rfl trivial hP hD
  · skip
    refine lv_aload_n hx hb dX0_goBack_0 rfl (lv_at hl 0 rfl) ?_
    refine va_get (ci := 1) (v := .ref b) (C := RX1) (T := TX1) (N := 2) hx hb hts inX1 hown hK.1 hP 0 rfl rfl 1 (by decide) (hts (.fieldLink RX0 15 "SkimmedSons$Child" "kept" "[I") (by decide +kernel)) (fun _ h9 => h9) rfl dX0_goBack_1 ?_
    refine lv_iconst (v := iI 0) hx hb dX0_goBack_4 (by decide) ?_
    refine lv_aload_n hx hb dX0_goBack_5 rfl (lv_at hl 0 rfl) ?_
    refine va_get (ci := 1) (v := .ref a) (C := RX1) (T := TX1) (N := 2) hx hb hts inX1 hown hK.1 hP 0 rfl rfl 0 (by decide) (hts (.fieldLink RX0 9 "SkimmedSons$Child" "had" "[I") (by decide +kernel)) (fun _ h9 => h9) rfl dX0_goBack_6 ?_
    refine lv_iconst (v := iI 0) hx hb dX0_goBack_9 (by decide) ?_
    refine lv_aload_n hx hb dX0_goBack_10 rfl (lv_at hl 0 rfl) ?_
    refine va_get (ci := 1) (v := .ref b) (C := RX1) (T := TX1) (N := 2) hx hb hts inX1 hown hK.1 hP 0 rfl rfl 1 (by decide) (hts (.fieldLink RX0 15 "SkimmedSons$Child" "kept" "[I") (by decide +kernel)) (fun _ h9 => h9) rfl dX0_goBack_11 ?_
    refine z_alen (a := 4) hx hb hK.1 hP 2 2 rfl rfl rfl dX0_goBack_14 ?_
    refine z_copy (k := 4) hx hb (hml.trans hl.1.symm) hown (hts (.methodLink RX0 28 arraycopyName) (by decide +kernel)) (hts (.native arraycopyName) (by decide +kernel)) (hts (.static arraycopyName) (by decide +kernel)) (hts (.initialized "java/lang/System") (by decide +kernel)) hK.1 hP hD hS 2 1 rfl rfl (by decide) (Nat.le_of_ble_eq_true rfl) (by decide +kernel) dX0_goBack_15 (fun H locs hP hD hS => ?_)
    have hP : va_P X.1 vwCl (zb [Wchild X o 1 a b (catZ fk fh 4) fk]) H := hP
    have hD : va_D A (zb [Wchild X o 1 a b (catZ fk fh 4) fk]) := hD
    exact z_vret hQ hx hb hr hlocks hS ⟨Nat.le_of_ble_eq_true rfl, Nat.le_of_ble_eq_true rfl⟩ dX0_goBack_18 () rfl trivial hP hD
  · skip
    refine lv_aload_n hx hb dX0_goBack_0 rfl (lv_at hl 0 rfl) ?_
    refine va_get (ci := 6) (v := .ref b) (C := RX6) (T := TX6) (N := 2) hx hb hts inX6 hown hK.1 hP 0 rfl rfl 1 (by decide) (hts (.fieldLink RX0 15 "SkimmedSons$Child" "kept" "[I") (by decide +kernel)) (fun _ h9 => h9) rfl dX0_goBack_1 ?_
    refine lv_iconst (v := iI 0) hx hb dX0_goBack_4 (by decide) ?_
    refine lv_aload_n hx hb dX0_goBack_5 rfl (lv_at hl 0 rfl) ?_
    refine va_get (ci := 6) (v := .ref a) (C := RX6) (T := TX6) (N := 2) hx hb hts inX6 hown hK.1 hP 0 rfl rfl 0 (by decide) (hts (.fieldLink RX0 9 "SkimmedSons$Child" "had" "[I") (by decide +kernel)) (fun _ h9 => h9) rfl dX0_goBack_6 ?_
    refine lv_iconst (v := iI 0) hx hb dX0_goBack_9 (by decide) ?_
    refine lv_aload_n hx hb dX0_goBack_10 rfl (lv_at hl 0 rfl) ?_
    refine va_get (ci := 6) (v := .ref b) (C := RX6) (T := TX6) (N := 2) hx hb hts inX6 hown hK.1 hP 0 rfl rfl 1 (by decide) (hts (.fieldLink RX0 15 "SkimmedSons$Child" "kept" "[I") (by decide +kernel)) (fun _ h9 => h9) rfl dX0_goBack_11 ?_
    refine z_alen (a := 4) hx hb hK.1 hP 2 2 rfl rfl rfl dX0_goBack_14 ?_
    refine z_copy (k := 4) hx hb (hml.trans hl.1.symm) hown (hts (.methodLink RX0 28 arraycopyName) (by decide +kernel)) (hts (.native arraycopyName) (by decide +kernel)) (hts (.static arraycopyName) (by decide +kernel)) (hts (.initialized "java/lang/System") (by decide +kernel)) hK.1 hP hD hS 2 1 rfl rfl (by decide) (Nat.le_of_ble_eq_true rfl) (by decide +kernel) dX0_goBack_15 (fun H locs hP hD hS => ?_)
    have hP : va_P X.1 vwCl (zb [Wchild X o 2 a b (catZ fk fh 4) fk]) H := hP
    have hD : va_D A (zb [Wchild X o 2 a b (catZ fk fh 4) fk]) := hD
    exact z_vret hQ hx hb hr hlocks hS ⟨Nat.le_of_ble_eq_true rfl, Nat.le_of_ble_eq_true rfl⟩ dX0_goBack_18 () rfl trivial hP hD
  · skip
    refine lv_aload_n hx hb dX0_goBack_0 rfl (lv_at hl 0 rfl) ?_
    refine va_get (ci := 10) (v := .ref b) (C := RX10) (T := TX10) (N := 2) hx hb hts inX10 hown hK.1 hP 0 rfl rfl 1 (by decide) (hts (.fieldLink RX0 15 "SkimmedSons$Child" "kept" "[I") (by decide +kernel)) (fun _ h9 => h9) rfl dX0_goBack_1 ?_
    refine lv_iconst (v := iI 0) hx hb dX0_goBack_4 (by decide) ?_
    refine lv_aload_n hx hb dX0_goBack_5 rfl (lv_at hl 0 rfl) ?_
    refine va_get (ci := 10) (v := .ref a) (C := RX10) (T := TX10) (N := 2) hx hb hts inX10 hown hK.1 hP 0 rfl rfl 0 (by decide) (hts (.fieldLink RX0 9 "SkimmedSons$Child" "had" "[I") (by decide +kernel)) (fun _ h9 => h9) rfl dX0_goBack_6 ?_
    refine lv_iconst (v := iI 0) hx hb dX0_goBack_9 (by decide) ?_
    refine lv_aload_n hx hb dX0_goBack_10 rfl (lv_at hl 0 rfl) ?_
    refine va_get (ci := 10) (v := .ref b) (C := RX10) (T := TX10) (N := 2) hx hb hts inX10 hown hK.1 hP 0 rfl rfl 1 (by decide) (hts (.fieldLink RX0 15 "SkimmedSons$Child" "kept" "[I") (by decide +kernel)) (fun _ h9 => h9) rfl dX0_goBack_11 ?_
    refine z_alen (a := 4) hx hb hK.1 hP 2 2 rfl rfl rfl dX0_goBack_14 ?_
    refine z_copy (k := 4) hx hb (hml.trans hl.1.symm) hown (hts (.methodLink RX0 28 arraycopyName) (by decide +kernel)) (hts (.native arraycopyName) (by decide +kernel)) (hts (.static arraycopyName) (by decide +kernel)) (hts (.initialized "java/lang/System") (by decide +kernel)) hK.1 hP hD hS 2 1 rfl rfl (by decide) (Nat.le_of_ble_eq_true rfl) (by decide +kernel) dX0_goBack_15 (fun H locs hP hD hS => ?_)
    have hP : va_P X.1 vwCl (zb [Wchild X o 3 a b (catZ fk fh 4) fk]) H := hP
    have hD : va_D A (zb [Wchild X o 3 a b (catZ fk fh 4) fk]) := hD
    exact z_vret hQ hx hb hr hlocks hS ⟨Nat.le_of_ble_eq_true rfl, Nat.le_of_ble_eq_true rfl⟩ dX0_goBack_18 () rfl trivial hP hD
  · skip
    refine lv_aload_n hx hb dX0_goBack_0 rfl (lv_at hl 0 rfl) ?_
    refine va_get (ci := 2) (v := .ref b) (C := RX2) (T := TX2) (N := 2) hx hb hts inX2 hown hK.1 hP 0 rfl rfl 1 (by decide) (hts (.fieldLink RX0 15 "SkimmedSons$Child" "kept" "[I") (by decide +kernel)) (fun _ h9 => h9) rfl dX0_goBack_1 ?_
    refine lv_iconst (v := iI 0) hx hb dX0_goBack_4 (by decide) ?_
    refine lv_aload_n hx hb dX0_goBack_5 rfl (lv_at hl 0 rfl) ?_
    refine va_get (ci := 2) (v := .ref a) (C := RX2) (T := TX2) (N := 2) hx hb hts inX2 hown hK.1 hP 0 rfl rfl 0 (by decide) (hts (.fieldLink RX0 9 "SkimmedSons$Child" "had" "[I") (by decide +kernel)) (fun _ h9 => h9) rfl dX0_goBack_6 ?_
    refine lv_iconst (v := iI 0) hx hb dX0_goBack_9 (by decide) ?_
    refine lv_aload_n hx hb dX0_goBack_10 rfl (lv_at hl 0 rfl) ?_
    refine va_get (ci := 2) (v := .ref b) (C := RX2) (T := TX2) (N := 2) hx hb hts inX2 hown hK.1 hP 0 rfl rfl 1 (by decide) (hts (.fieldLink RX0 15 "SkimmedSons$Child" "kept" "[I") (by decide +kernel)) (fun _ h9 => h9) rfl dX0_goBack_11 ?_
    refine z_alen (a := 4) hx hb hK.1 hP 2 2 rfl rfl rfl dX0_goBack_14 ?_
    refine z_copy (k := 4) hx hb (hml.trans hl.1.symm) hown (hts (.methodLink RX0 28 arraycopyName) (by decide +kernel)) (hts (.native arraycopyName) (by decide +kernel)) (hts (.static arraycopyName) (by decide +kernel)) (hts (.initialized "java/lang/System") (by decide +kernel)) hK.1 hP hD hS 2 1 rfl rfl (by decide) (Nat.le_of_ble_eq_true rfl) (by decide +kernel) dX0_goBack_15 (fun H locs hP hD hS => ?_)
    have hP : va_P X.1 vwCl (zb [Wchild X o 4 a b (catZ fk fh 4) fk]) H := hP
    have hD : va_D A (zb [Wchild X o 4 a b (catZ fk fh 4) fk]) := hD
    exact z_vret hQ hx hb hr hlocks hS ⟨Nat.le_of_ble_eq_true rfl, Nat.le_of_ble_eq_true rfl⟩ dX0_goBack_18 () rfl trivial hP hD
