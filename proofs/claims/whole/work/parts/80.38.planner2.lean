set_option maxHeartbeats 1000000 in
set_option maxRecDepth 100000 in
theorem c_X5_mostBehind_3w (l : Launch) (X : zX) (o : Nat) (a : Nat) (b : Nat) (hq : Nat → Nat) (fp : Nat → Int) (rq : Nat → Nat) (qq : Nat → Nat → Nat) (n : Int) (pv : Nat → Nat → Int) (oc : Nat) (k : Nat) (ca : Nat) (cb : Nat) (fh : Nat → Int) (fk : Nat → Int) (hr0 : Int) (hn : 1 ≤ n ∧ n ≤ 3) (hpv : PanS pv) (hpg : ∀ j, j < n.toNat → PanG 2003 (pv j)) (hr1 : 3 < hr0 ∧ hr0 ≤ 4) (hfp : fp hr0.toNat = 0) (hk : KindOk k) : zM (S := (Nat → Int)) l X yX5_mostBehind wsX5_mostBehind { frames := 4, cells := 0, slots := 0, locals := 260 } [.ref o, .ref oc, .int (iI 3), .int (iI hr0), .int (iI (-1))] (zb [Wpl X o a b hq fp, Wshelf X (hq 3) (rq 3) (qq 3) n pv, Wchild X oc k ca cb fh fk]) (fun u => (some (.int (iI ((PL k n (hr0 - 4).toNat (wtS n pv)).1))))) (fun u => zb [Wpl X o a b hq u, Wshelf X (hq 3) (rq 3) (qq 3) n pv, Wchild X oc k ca cb fh fk]) (fun u => u 4 = 4 ^ 4 * (PL k n (hr0 - 4).toNat (wtS n pv)).2 ∧ (∀ j : Nat, (j ≤ 3 ∨ hr0 ≤ j) → u j = fp j)) := by
  refine z_enter (cc := cX5_mostBehind) (maxL := 6) (ret := (some .int)) (by decide) rfl (Nat.le_of_ble_eq_true rfl) ?_
  intro p e s m below meth c A ls Q hQ hE hl hP hD
  obtain ⟨hx, hb, hr, hml, hown, hts, hlocks, hnm, hA, hK⟩ := hE
  have hown : s.vm.findClass RX5 = some m.cls := hown
  have hS : va_S A s.heap s.heap [] := va_S.rf
  have hl : lv_has ls 6 [(0, .ref o), (1, .ref oc), (2, .int (iI 3)), (3, .int (iI hr0)), (4, .int (iI (-1)))] := hl
  refine lv_iload_n hx hb dX5_mostBehind_0 rfl (lv_at hl 2 rfl) ?_
  refine lv_iconst (v := iI 1) hx hb dX5_mostBehind_1 (by decide) ?_
  refine z_iadd hx hb dX5_mostBehind_2 ?_
  refine W.eq (g2 := F0 m 3 ls [.int (iI 4)]) rfl ?_
  refine lv_istore (lv' := [(5, .int (iI 4)), (0, .ref o), (1, .ref oc), (2, .int (iI 3)), (3, .int (iI hr0)), (4, .int (iI (-1)))]) hx hb dX5_mostBehind_3 hl (by decide) rfl (fun ls hl => ?_)
  refine lv_iload hx hb dX5_mostBehind_5 (lv_at hl 0 rfl) ?_
  refine lv_iload_n hx hb dX5_mostBehind_7 rfl (lv_at hl 4 rfl) ?_
  refine z_icmp_ge (tgt := 21) hx hb (by omega) dX5_mostBehind_8 (by decide) (fun c_1 => ?_) (fun c_1 => ?_)
  · skip
    refine lv_iconst (v := iI 0) hx hb dX5_mostBehind_21 (by decide) ?_
    exact z_iret hQ hx hb hr hlocks hS ⟨Nat.le_of_ble_eq_true rfl, Nat.le_of_ble_eq_true rfl⟩ dX5_mostBehind_22 fp (congrArg (fun z => some (Value.int (iI z))) (show ((PL k n (hr0 - 4).toNat (wtS n pv)).1 : Int) = 0 by rw [show (hr0 - 4).toNat = 0 by omega]; rfl)) (by (try dsimp only); refine ⟨?_, fun _ _ => rfl⟩; rw [show (hr0 - 4).toNat = 0 by omega]; rw [show hr0.toNat = 4 by omega] at hfp; rw [hfp]; rfl) hP hD
  · skip
    exact absurd c_1 (by omega)
set_option maxHeartbeats 1000000 in
set_option maxRecDepth 100000 in
theorem c_X5_mostBehind_3p (l : Launch) (X : zX) (o : Nat) (a : Nat) (b : Nat) (hq : Nat → Nat) (fp : Nat → Int) (rq : Nat → Nat) (qq : Nat → Nat → Nat) (n : Int) (pv : Nat → Nat → Int) (oc : Nat) (k : Nat) (ca : Nat) (cb : Nat) (fh : Nat → Int) (fk : Nat → Int) (hr0 : Int) (i : Nat) (hn : 1 ≤ n ∧ n ≤ 3) (hpv : PanS pv) (hpg : ∀ j, j < n.toNat → PanG 2003 (pv j)) (hr1 : 3 < hr0 ∧ hr0 ≤ 4) (hfp : fp hr0.toNat = 0) (hk : KindOk k) (hi : (i : Int) < n) : zM (S := (Nat → Int)) l X yX5_mostBehind wsX5_mostBehind { frames := 4, cells := 0, slots := 0, locals := 260 } [.ref o, .ref oc, .int (iI 3), .int (iI hr0), .int (iI (↑i))] (zb [Wpl X o a b hq fp, Wshelf X (hq 3) (rq 3) (qq 3) n pv, Wchild X oc k ca cb fh fk]) (fun u => (some (.int (iI ((PL k n (hr0 - 4).toNat (wtS n (tkS pv i))).1))))) (fun u => zb [Wpl X o a b hq u, Wshelf X (hq 3) (rq 3) (qq 3) n pv, Wchild X oc k ca cb fh fk]) (fun u => u 4 = 4 ^ 4 * (PL k n (hr0 - 4).toNat (wtS n (tkS pv i))).2 ∧ (∀ j : Nat, (j ≤ 3 ∨ hr0 ≤ j) → u j = fp j)) := by
  refine z_enter (cc := cX5_mostBehind) (maxL := 6) (ret := (some .int)) (by decide) rfl (Nat.le_of_ble_eq_true rfl) ?_
  intro p e s m below meth c A ls Q hQ hE hl hP hD
  obtain ⟨hx, hb, hr, hml, hown, hts, hlocks, hnm, hA, hK⟩ := hE
  have hown : s.vm.findClass RX5 = some m.cls := hown
  have hS : va_S A s.heap s.heap [] := va_S.rf
  have hl : lv_has ls 6 [(0, .ref o), (1, .ref oc), (2, .int (iI 3)), (3, .int (iI hr0)), (4, .int (iI (↑i)))] := hl
  refine lv_iload_n hx hb dX5_mostBehind_0 rfl (lv_at hl 2 rfl) ?_
  refine lv_iconst (v := iI 1) hx hb dX5_mostBehind_1 (by decide) ?_
  refine z_iadd hx hb dX5_mostBehind_2 ?_
  refine W.eq (g2 := F0 m 3 ls [.int (iI 4)]) rfl ?_
  refine lv_istore (lv' := [(5, .int (iI 4)), (0, .ref o), (1, .ref oc), (2, .int (iI 3)), (3, .int (iI hr0)), (4, .int (iI (↑i)))]) hx hb dX5_mostBehind_3 hl (by decide) rfl (fun ls hl => ?_)
  refine lv_iload hx hb dX5_mostBehind_5 (lv_at hl 0 rfl) ?_
  refine lv_iload_n hx hb dX5_mostBehind_7 rfl (lv_at hl 4 rfl) ?_
  refine z_icmp_ge (tgt := 21) hx hb (by omega) dX5_mostBehind_8 (by decide) (fun c_1 => ?_) (fun c_1 => ?_)
  · skip
    refine lv_iconst (v := iI 0) hx hb dX5_mostBehind_21 (by decide) ?_
    exact z_iret hQ hx hb hr hlocks hS ⟨Nat.le_of_ble_eq_true rfl, Nat.le_of_ble_eq_true rfl⟩ dX5_mostBehind_22 fp (congrArg (fun z => some (Value.int (iI z))) (show ((PL k n (hr0 - 4).toNat (wtS n (tkS pv i))).1 : Int) = 0 by rw [show (hr0 - 4).toNat = 0 by omega]; rfl)) (by (try dsimp only); refine ⟨?_, fun _ _ => rfl⟩; rw [show (hr0 - 4).toNat = 0 by omega]; rw [show hr0.toNat = 4 by omega] at hfp; rw [hfp]; rfl) hP hD
  · skip
    exact absurd c_1 (by omega)
set_option maxHeartbeats 1000000 in
set_option maxRecDepth 100000 in
theorem c_X5_mostFrom_3 (l : Launch) (X : zX) (o : Nat) (a : Nat) (b : Nat) (hq : Nat → Nat) (fp : Nat → Int) (rq : Nat → Nat) (qq : Nat → Nat → Nat) (n : Int) (pv : Nat → Nat → Int) (oc : Nat) (k : Nat) (ca : Nat) (cb : Nat) (fh : Nat → Int) (fk : Nat → Int) (hr0 : Int) (hn : 1 ≤ n ∧ n ≤ 3) (hpv : PanS pv) (hpg : ∀ j, j < n.toNat → PanG 2003 (pv j)) (hr1 : 3 < hr0 ∧ hr0 ≤ 4) (hfp : fp hr0.toNat = 0) (hk : KindOk k) : zM (S := (Nat → Int)) l X yX5_mostFrom wsX5_mostFrom { frames := 6, cells := 0, slots := 0, locals := 300 } [.ref o, .ref oc, .int (iI 3), .int (iI hr0)] (zb [Wpl X o a b hq fp, Wshelf X (hq 3) (rq 3) (qq 3) n pv, Wchild X oc k ca cb fh fk]) (fun u => (some (.int (iI ((PL k n (hr0 - 3).toNat pv).1))))) (fun u => zb [Wpl X o a b hq u, Wshelf X (hq 3) (rq 3) (qq 3) n pv, Wchild X oc k ca cb fh fk]) (fun u => u 3 = 4 ^ 3 * (PL k n (hr0 - 3).toNat pv).2 ∧ (∀ j : Nat, (j < 3 ∨ hr0 ≤ j) → u j = fp j)) := by
  refine z_enter (cc := cX5_mostFrom) (maxL := 9) (ret := (some .int)) (by decide) rfl (Nat.le_of_ble_eq_true rfl) ?_
  intro p e s m below meth c A ls Q hQ hE hl hP hD
  obtain ⟨hx, hb, hr, hml, hown, hts, hlocks, hnm, hA, hK⟩ := hE
  have hown : s.vm.findClass RX5 = some m.cls := hown
  have hS : va_S A s.heap s.heap [] := va_S.rf
  have hl : lv_has ls 9 [(0, .ref o), (1, .ref oc), (2, .int (iI 3)), (3, .int (iI hr0))] := hl
  have inX5 : ∀ w ∈ u_ws RX5 TX5 2, w ∈ wsX5_mostFrom := by decide +kernel
  have hb01 := bareZ_01 pv n.toNat
  refine lv_iload_n hx hb dX5_mostFrom_0 rfl (lv_at hl 2 rfl) ?_
  refine z_if_lt (tgt := 18) hx hb (by omega) dX5_mostFrom_1 (by decide) (fun c_1 => ?_) (fun c_1 => ?_)
  · skip
    exact absurd c_1 (by omega)
  · skip
    refine lv_iload_n hx hb dX5_mostFrom_4 rfl (lv_at hl 2 rfl) ?_
    refine lv_iload_n hx hb dX5_mostFrom_5 rfl (lv_at hl 3 rfl) ?_
    refine z_icmp_ge (tgt := 18) hx hb (by omega) dX5_mostFrom_6 (by decide) (fun c_2 => ?_) (fun c_2 => ?_)
    · skip
      exact absurd c_2 (by omega)
    · skip
      refine lv_iload_n hx hb dX5_mostFrom_9 rfl (lv_at hl 2 rfl) ?_
      refine lv_aload_n hx hb dX5_mostFrom_10 rfl (lv_at hl 0 rfl) ?_
      refine va_get (ci := 5) (v := .ref a) (C := RX5) (T := TX5) (N := 2) hx hb hts inX5 hown hK.1 hP 0 rfl rfl 0 (by decide) (hts (.fieldLink RX5 11 "SkimmedSons$Planner" "shelves" "[LSkimmedSons$Shelf;") (by decide +kernel)) (fun _ h9 => h9) rfl dX5_mostFrom_11 ?_
      refine z_alen (a := 4) hx hb hK.1 hP 1 5 rfl rfl rfl dX5_mostFrom_14 ?_
      refine z_icmp_lt (tgt := 20) hx hb (by omega) dX5_mostFrom_15 (by decide) (fun c_3 => ?_) (fun c_3 => ?_)
      · skip
        refine lv_aload_n hx hb dX5_mostFrom_20 rfl (lv_at hl 0 rfl) ?_
        refine va_get (ci := 5) (v := .ref a) (C := RX5) (T := TX5) (N := 2) hx hb hts inX5 hown hK.1 hP 0 rfl rfl 0 (by decide) (hts (.fieldLink RX5 11 "SkimmedSons$Planner" "shelves" "[LSkimmedSons$Shelf;") (by decide +kernel)) (fun _ h9 => h9) rfl dX5_mostFrom_21 ?_
        refine lv_iload_n hx hb dX5_mostFrom_24 rfl (lv_at hl 2 rfl) ?_
        refine z_aald (v := .ref (hq 3)) hx hb hK.1 hP 1 5 rfl rfl (by omega) dX5_mostFrom_25 (by rfl) ?_
        refine lv_astore (lv' := [(4, .ref (hq 3)), (0, .ref o), (1, .ref oc), (2, .int (iI 3)), (3, .int (iI hr0))]) hx hb dX5_mostFrom_26 hl (by decide) rfl (fun ls hl => ?_)
        refine lv_aload hx hb dX5_mostFrom_28 (lv_at hl 0 rfl) ?_
        have hPm := zp_perm hP (zblk (show List.Perm ([Wpl X o a b hq fp, Wshelf X (hq 3) (rq 3) (qq 3) n pv, Wchild X oc k ca cb fh fk] : List va_W) ([Wshelf X (hq 3) (rq 3) (qq 3) n pv] ++ [Wpl X o a b hq fp, Wchild X oc k ca cb fh fk]) from (zf1 _ 1 _ rfl).trans ((List.Perm.refl _).cons _)))
        have hDm := zd_perm hD (zblk (show List.Perm ([Wpl X o a b hq fp, Wshelf X (hq 3) (rq 3) (qq 3) n pv, Wchild X oc k ca cb fh fk] : List va_W) ([Wshelf X (hq 3) (rq 3) (qq 3) n pv] ++ [Wpl X o a b hq fp, Wchild X oc k ca cb fh fk]) from (zf1 _ 1 _ rfl).trans ((List.Perm.refl _).cons _)))
        refine z_callV (wr := zb [Wpl X o a b hq fp, Wchild X oc k ca cb fh fk]) (As := []) (rest := []) ⟨hx, hb, hml, hown, hts⟩ (c_X7_isBare l X (hq 3) (rq 3) (qq 3) n pv (by omega) (by exact hpv)) (cwV 0 hts gX5_mostFrom_X7_isBare rfl rfl rfl (by decide +kernel) ⟨Nat.le_of_ble_eq_true rfl, Nat.le_of_ble_eq_true rfl⟩) rfl rfl hl.1 dX5_mostFrom_30 rfl rfl (Nat.le_of_ble_eq_true rfl) ⟨Nat.le_of_ble_eq_true rfl, Nat.le_of_ble_eq_true rfl⟩ hS hA hK hPm hDm (fun _ H locs _ hP hD hS => ?_)
        have hP := zp_perm hP ((zblk (show List.Perm ([Wpl X o a b hq fp, Wshelf X (hq 3) (rq 3) (qq 3) n pv, Wchild X oc k ca cb fh fk] : List va_W) ([Wshelf X (hq 3) (rq 3) (qq 3) n pv] ++ [Wpl X o a b hq fp, Wchild X oc k ca cb fh fk]) from (zf1 _ 1 _ rfl).trans ((List.Perm.refl _).cons _)))).symm
        have hD := zd_perm hD ((zblk (show List.Perm ([Wpl X o a b hq fp, Wshelf X (hq 3) (rq 3) (qq 3) n pv, Wchild X oc k ca cb fh fk] : List va_W) ([Wshelf X (hq 3) (rq 3) (qq 3) n pv] ++ [Wpl X o a b hq fp, Wchild X oc k ca cb fh fk]) from (zf1 _ 1 _ rfl).trans ((List.Perm.refl _).cons _)))).symm
        have hP : va_P X.1 vwCl (zb [Wpl X o a b hq fp, Wshelf X (hq 3) (rq 3) (qq 3) n pv, Wchild X oc k ca cb fh fk]) H := hP
        have hD : va_D A (zb [Wpl X o a b hq fp, Wshelf X (hq 3) (rq 3) (qq 3) n pv, Wchild X oc k ca cb fh fk]) := hD
        refine W.eq (g2 := F0 m 33 ls [.int (iI (bareZ pv n.toNat))]) rfl ?_
        refine z_if_eq (tgt := 55) hx hb (by omega) dX5_mostFrom_33 (by decide) (fun c_4 => ?_) (fun c_4 => ?_)
        · skip
          refine lv_iconst (v := iI (-1)) hx hb dX5_mostFrom_55 (by decide) ?_
          refine lv_istore (lv' := [(5, .int (iI (-1))), (4, .ref (hq 3)), (0, .ref o), (1, .ref oc), (2, .int (iI 3)), (3, .int (iI hr0))]) hx hb dX5_mostFrom_56 hl (by decide) rfl (fun ls hl => ?_)
          refine lv_iconst (v := iI 0) hx hb dX5_mostFrom_58 (by decide) ?_
          refine lv_istore (lv' := [(6, .int (iI 0)), (5, .int (iI (-1))), (4, .ref (hq 3)), (0, .ref o), (1, .ref oc), (2, .int (iI 3)), (3, .int (iI hr0))]) hx hb dX5_mostFrom_59 hl (by decide) rfl (fun ls hl => ?_)
          have L61 : ∀ (fu : Nat) (i : Nat) (y : Int) (fp8 : Nat → Int), ((i : Int) ≤ n) → (y = (bst (fun i => (wOf k (topP (pv i)) + (PL k n (hr0 - 4).toNat (wtS n (tkS pv i))).1, (PL k n (hr0 - 4).toNat (wtS n (tkS pv i))).2)) (fun i => topP (pv i)) i).1) → (0 ≤ y → fp8 3 = 4 ^ 3 * (bst (fun i => (wOf k (topP (pv i)) + (PL k n (hr0 - 4).toNat (wtS n (tkS pv i))).1, (PL k n (hr0 - 4).toNat (wtS n (tkS pv i))).2)) (fun i => topP (pv i)) i).2) → (∀ j : Nat, (j < 3 ∨ hr0 ≤ j) → fp8 j = fp j) → (n - ↑i).toNat < fu → ∀ (H : Heap) (locs : List Loc) (ls : Array Slot), va_P X.1 vwCl (zb [Wpl X o a b hq fp8, Wshelf X (hq 3) (rq 3) (qq 3) n pv, Wchild X oc k ca cb fh fk]) H → va_D A (zb [Wpl X o a b hq fp8, Wshelf X (hq 3) (rq 3) (qq 3) n pv, Wchild X oc k ca cb fh fk]) → va_S A s.heap H locs → lv_has ls 9 [(0, .ref o), (1, .ref oc), (2, .int (iI 3)), (3, .int (iI hr0)), (4, .ref (hq 3)), (5, .int (iI y)), (6, .int (iI (↑i)))] → W p l e { frames := 6, cells := 0, slots := 0, locals := 300 } s m ([.ref o, .ref oc, .int (iI 3), .int (iI hr0)] : List Value).toArray below meth c H locs 0 0 Q (F0 m 61 ls []) := by
            intro fu
            induction fu with
            | zero => intro i y fp8 hi hy hfd hfo hm; exact absurd hm (Nat.not_lt_zero _)
            | succ fu ih61 =>
              intro i y fp8 hi hy hfd hfo hm H locs ls hP hD hS hl
              have hbi := bst_in (f := (fun i => (wOf k (topP (pv i)) + (PL k n (hr0 - 4).toNat (wtS n (tkS pv i))).1, (PL k n (hr0 - 4).toNat (wtS n (tkS pv i))).2))) (g := (fun i => topP (pv i))) (M := 200) (N := 256) (by decide) (by decide) (fun x => by have h1 := PL_in k (by omega : 0 ≤ n ∧ n ≤ 3) (hr0 - 4).toNat (wtS n (tkS pv x)); have h2 := wOf_in k (topP (pv x)); have hpow := p4_le (r := (hr0 - 4).toNat) (by omega); dsimp only; omega) i (by omega)
              refine lv_iload hx hb dX5_mostFrom_61 (lv_at hl 6 rfl) ?_
              refine lv_aload hx hb dX5_mostFrom_63 (lv_at hl 4 rfl) ?_
              have hPm := zp_perm hP (zblk (show List.Perm ([Wpl X o a b hq fp8, Wshelf X (hq 3) (rq 3) (qq 3) n pv, Wchild X oc k ca cb fh fk] : List va_W) ([Wshelf X (hq 3) (rq 3) (qq 3) n pv] ++ [Wpl X o a b hq fp8, Wchild X oc k ca cb fh fk]) from (zf1 _ 1 _ rfl).trans ((List.Perm.refl _).cons _)))
              have hDm := zd_perm hD (zblk (show List.Perm ([Wpl X o a b hq fp8, Wshelf X (hq 3) (rq 3) (qq 3) n pv, Wchild X oc k ca cb fh fk] : List va_W) ([Wshelf X (hq 3) (rq 3) (qq 3) n pv] ++ [Wpl X o a b hq fp8, Wchild X oc k ca cb fh fk]) from (zf1 _ 1 _ rfl).trans ((List.Perm.refl _).cons _)))
              refine z_callV (wr := zb [Wpl X o a b hq fp8, Wchild X oc k ca cb fh fk]) (As := []) (rest := [.int (iI (↑i))]) ⟨hx, hb, hml, hown, hts⟩ (c_X7_size l X (hq 3) (rq 3) (qq 3) n pv ) (cwV 0 hts gX5_mostFrom_X7_size rfl rfl rfl (by decide +kernel) ⟨Nat.le_of_ble_eq_true rfl, Nat.le_of_ble_eq_true rfl⟩) rfl rfl hl.1 dX5_mostFrom_65 rfl rfl (Nat.le_of_ble_eq_true rfl) ⟨Nat.le_of_ble_eq_true rfl, Nat.le_of_ble_eq_true rfl⟩ hS hA hK hPm hDm (fun _ H locs _ hP hD hS => ?_)
              have hP := zp_perm hP ((zblk (show List.Perm ([Wpl X o a b hq fp8, Wshelf X (hq 3) (rq 3) (qq 3) n pv, Wchild X oc k ca cb fh fk] : List va_W) ([Wshelf X (hq 3) (rq 3) (qq 3) n pv] ++ [Wpl X o a b hq fp8, Wchild X oc k ca cb fh fk]) from (zf1 _ 1 _ rfl).trans ((List.Perm.refl _).cons _)))).symm
              have hD := zd_perm hD ((zblk (show List.Perm ([Wpl X o a b hq fp8, Wshelf X (hq 3) (rq 3) (qq 3) n pv, Wchild X oc k ca cb fh fk] : List va_W) ([Wshelf X (hq 3) (rq 3) (qq 3) n pv] ++ [Wpl X o a b hq fp8, Wchild X oc k ca cb fh fk]) from (zf1 _ 1 _ rfl).trans ((List.Perm.refl _).cons _)))).symm
              have hP : va_P X.1 vwCl (zb [Wpl X o a b hq fp8, Wshelf X (hq 3) (rq 3) (qq 3) n pv, Wchild X oc k ca cb fh fk]) H := hP
              have hD : va_D A (zb [Wpl X o a b hq fp8, Wshelf X (hq 3) (rq 3) (qq 3) n pv, Wchild X oc k ca cb fh fk]) := hD
              refine W.eq (g2 := F0 m 68 ls [.int (iI n), .int (iI (↑i))]) rfl ?_
              refine z_icmp_ge (tgt := 131) hx hb (by omega) dX5_mostFrom_68 (by decide) (fun c_5 => ?_) (fun c_5 => ?_)
              · skip
                refine lv_iload hx hb dX5_mostFrom_131 (lv_at hl 5 rfl) ?_
                exact z_iret hQ hx hb hr hlocks hS ⟨Nat.le_of_ble_eq_true rfl, Nat.le_of_ble_eq_true rfl⟩ dX5_mostFrom_133 fp8 (congrArg (fun z => some (Value.int (iI z))) (show ((PL k n (hr0 - 3).toNat pv).1 : Int) = y by rw [show (hr0 - 3).toNat = (hr0 - 4).toNat + 1 by omega, PL_go (by omega), ← show i = n.toNat by omega]; exact hy.symm)) (by (try dsimp only); rw [show (hr0 - 3).toNat = (hr0 - 4).toNat + 1 by omega, PL_go (by omega)]; exact ⟨by rw [← show i = n.toNat by omega]; exact hfd (by rw [hy, show i = n.toNat by omega]; exact bst_pos (fun x => by have h1 := PL_in k (by omega : 0 ≤ n ∧ n ≤ 3) (hr0 - 4).toNat (wtS n (tkS pv x)); have h2 := wOf_in k (topP (pv x)); dsimp only; omega) _ (bareZ_ex (by omega))), hfo⟩) hP hD
              · skip
                refine lv_aload hx hb dX5_mostFrom_71 (lv_at hl 4 rfl) ?_
                refine lv_iload hx hb dX5_mostFrom_73 (lv_at hl 6 rfl) ?_
                have hPm := zp_perm hP (zblk (show List.Perm ([Wpl X o a b hq fp8, Wshelf X (hq 3) (rq 3) (qq 3) n pv, Wchild X oc k ca cb fh fk] : List va_W) ([Wshelf X (hq 3) (rq 3) (qq 3) n pv] ++ [Wpl X o a b hq fp8, Wchild X oc k ca cb fh fk]) from (zf1 _ 1 _ rfl).trans ((List.Perm.refl _).cons _)))
                have hDm := zd_perm hD (zblk (show List.Perm ([Wpl X o a b hq fp8, Wshelf X (hq 3) (rq 3) (qq 3) n pv, Wchild X oc k ca cb fh fk] : List va_W) ([Wshelf X (hq 3) (rq 3) (qq 3) n pv] ++ [Wpl X o a b hq fp8, Wchild X oc k ca cb fh fk]) from (zf1 _ 1 _ rfl).trans ((List.Perm.refl _).cons _)))
                refine z_callV (wr := zb [Wpl X o a b hq fp8, Wchild X oc k ca cb fh fk]) (As := [.int (iI (↑i))]) (rest := []) ⟨hx, hb, hml, hown, hts⟩ (c_X7_topOf_s l X (hq 3) (rq 3) (qq 3) n pv (↑i : Int) (by omega) (by exact hpv) (by omega)) (cwV 1 hts gX5_mostFrom_X7_topOf rfl rfl rfl (by decide +kernel) ⟨Nat.le_of_ble_eq_true rfl, Nat.le_of_ble_eq_true rfl⟩) rfl rfl hl.1 dX5_mostFrom_75 rfl rfl (Nat.le_of_ble_eq_true rfl) ⟨Nat.le_of_ble_eq_true rfl, Nat.le_of_ble_eq_true rfl⟩ hS hA hK hPm hDm (fun _ H locs _ hP hD hS => ?_)
                have hP := zp_perm hP ((zblk (show List.Perm ([Wpl X o a b hq fp8, Wshelf X (hq 3) (rq 3) (qq 3) n pv, Wchild X oc k ca cb fh fk] : List va_W) ([Wshelf X (hq 3) (rq 3) (qq 3) n pv] ++ [Wpl X o a b hq fp8, Wchild X oc k ca cb fh fk]) from (zf1 _ 1 _ rfl).trans ((List.Perm.refl _).cons _)))).symm
                have hD := zd_perm hD ((zblk (show List.Perm ([Wpl X o a b hq fp8, Wshelf X (hq 3) (rq 3) (qq 3) n pv, Wchild X oc k ca cb fh fk] : List va_W) ([Wshelf X (hq 3) (rq 3) (qq 3) n pv] ++ [Wpl X o a b hq fp8, Wchild X oc k ca cb fh fk]) from (zf1 _ 1 _ rfl).trans ((List.Perm.refl _).cons _)))).symm
                have hP : va_P X.1 vwCl (zb [Wpl X o a b hq fp8, Wshelf X (hq 3) (rq 3) (qq 3) n pv, Wchild X oc k ca cb fh fk]) H := hP
                have hD : va_D A (zb [Wpl X o a b hq fp8, Wshelf X (hq 3) (rq 3) (qq 3) n pv, Wchild X oc k ca cb fh fk]) := hD
                refine W.eq (g2 := F0 m 78 ls [.int (iI (topP (pv i)))]) rfl ?_
                have htp := topP_in (pv i)
                refine z_topi (fun z_6 ez_6 => ?_)
                refine lv_istore (lv' := [(7, .int (iI z_6)), (0, .ref o), (1, .ref oc), (2, .int (iI 3)), (3, .int (iI hr0)), (4, .ref (hq 3)), (5, .int (iI y)), (6, .int (iI (↑i)))]) hx hb dX5_mostFrom_78 hl (by decide) rfl (fun ls hl => ?_)
                subst ez_6
                refine lv_iload hx hb dX5_mostFrom_80 (lv_at hl 0 rfl) ?_
                refine lv_iconst (v := iI (-1)) hx hb dX5_mostFrom_82 (by decide) ?_
                refine z_icmp_ne (tgt := 89) hx hb (by omega) dX5_mostFrom_83 (by decide) (fun c_7 => ?_) (fun c_7 => ?_)
                · skip
                  refine lv_aload_n hx hb dX5_mostFrom_89 rfl (lv_at hl 2 rfl) ?_
                  refine lv_iload hx hb dX5_mostFrom_90 (lv_at hl 0 rfl) ?_
                  have hPm := zp_perm hP (zblk (show List.Perm ([Wpl X o a b hq fp8, Wshelf X (hq 3) (rq 3) (qq 3) n pv, Wchild X oc k ca cb fh fk] : List va_W) ([Wchild X oc k ca cb fh fk] ++ [Wpl X o a b hq fp8, Wshelf X (hq 3) (rq 3) (qq 3) n pv]) from (zf1 _ 2 _ rfl).trans ((List.Perm.refl _).cons _)))
                  have hDm := zd_perm hD (zblk (show List.Perm ([Wpl X o a b hq fp8, Wshelf X (hq 3) (rq 3) (qq 3) n pv, Wchild X oc k ca cb fh fk] : List va_W) ([Wchild X oc k ca cb fh fk] ++ [Wpl X o a b hq fp8, Wshelf X (hq 3) (rq 3) (qq 3) n pv]) from (zf1 _ 2 _ rfl).trans ((List.Perm.refl _).cons _)))
                  refine z_behind (rv := fun _ => some (.int (iI (wOf k (topP (pv i)))))) (wc := zb [Wchild X oc k ca cb fh fk]) (wr := zb [Wpl X o a b hq fp8, Wshelf X (hq 3) (rq 3) (qq 3) n pv]) (w1 := fun _ => zb [Wchild X oc k ca cb fh fk]) (post := fun _ : Unit => True) (mc := 0) (ms := 0) (rest := []) (a := ([.ref oc, .int (iI (topP (pv i)))] : List Value).toArray) ?_ hPm hDm hS hA (fun _ H locs _ hP hD hS => ?_)
                  · skip
                    rcases hk with rfl | rfl | rfl | rfl | rfl
                    · have hrun := z_runV (l := l) (R := { frames := 6, cells := 0, slots := 0, locals := 300 }) (e := e) (below := below) (meth := meth) (cells := 0) (slots := 0) (locs := locs) (ci := 0) (C := RX0) (b := oc) (rm := { frames := 3, cells := 0, slots := 0, locals := 60 }) (As := [.int (iI (topP (pv i)))]) (rest := []) ⟨hx, hb, hml, hown, hts⟩ (c_X0_worthOf l X oc 0 ca cb fh fk (topP (pv i)) (by unfold KindOk; decide) (by omega)) (cwV 1 hts gX5_mostFrom_X0_worthOf rfl rfl rfl (by decide +kernel) ⟨Nat.le_of_ble_eq_true rfl, Nat.le_of_ble_eq_true rfl⟩) rfl rfl hl.1 dX5_mostFrom_92 rfl rfl (Nat.le_of_ble_eq_true rfl) ⟨Nat.le_of_ble_eq_true rfl, Nat.le_of_ble_eq_true rfl⟩ hS hA hK hPm hDm; exact hrun
                    · have hrun := z_runU (l := l) (R := { frames := 6, cells := 0, slots := 0, locals := 300 }) (e := e) (below := below) (meth := meth) (cells := 0) (slots := 0) (locs := locs) (ci := 1) (C := RX1) (b := oc) (rm := { frames := 3, cells := 0, slots := 0, locals := 60 }) (As := [.int (iI (topP (pv i)))]) (rest := []) ⟨hx, hb, hml, hown, hts⟩ (c_X0_worthOf l X oc 1 ca cb fh fk (topP (pv i)) (by unfold KindOk; decide) (by omega)) (va_cwU 1 hts gX5_mostFrom_X0_worthOf_u50X1 rfl rfl rfl rfl (by decide +kernel) ⟨Nat.le_of_ble_eq_true rfl, Nat.le_of_ble_eq_true rfl⟩) rfl rfl hl.1 dX5_mostFrom_92 rfl rfl (Nat.le_of_ble_eq_true rfl) ⟨Nat.le_of_ble_eq_true rfl, Nat.le_of_ble_eq_true rfl⟩ hS hA hK hPm hDm; exact hrun
                    · have hrun := z_runU (l := l) (R := { frames := 6, cells := 0, slots := 0, locals := 300 }) (e := e) (below := below) (meth := meth) (cells := 0) (slots := 0) (locs := locs) (ci := 6) (C := RX6) (b := oc) (rm := { frames := 3, cells := 0, slots := 0, locals := 60 }) (As := [.int (iI (topP (pv i)))]) (rest := []) ⟨hx, hb, hml, hown, hts⟩ (c_X0_worthOf l X oc 2 ca cb fh fk (topP (pv i)) (by unfold KindOk; decide) (by omega)) (va_cwU 1 hts gX5_mostFrom_X0_worthOf_u50X6 rfl rfl rfl rfl (by decide +kernel) ⟨Nat.le_of_ble_eq_true rfl, Nat.le_of_ble_eq_true rfl⟩) rfl rfl hl.1 dX5_mostFrom_92 rfl rfl (Nat.le_of_ble_eq_true rfl) ⟨Nat.le_of_ble_eq_true rfl, Nat.le_of_ble_eq_true rfl⟩ hS hA hK hPm hDm; exact hrun
                    · have hrun := z_runU (l := l) (R := { frames := 6, cells := 0, slots := 0, locals := 300 }) (e := e) (below := below) (meth := meth) (cells := 0) (slots := 0) (locs := locs) (ci := 10) (C := RX10) (b := oc) (rm := { frames := 3, cells := 0, slots := 0, locals := 60 }) (As := [.int (iI (topP (pv i)))]) (rest := []) ⟨hx, hb, hml, hown, hts⟩ (c_X0_worthOf l X oc 3 ca cb fh fk (topP (pv i)) (by unfold KindOk; decide) (by omega)) (va_cwU 1 hts gX5_mostFrom_X0_worthOf_u50X10 rfl rfl rfl rfl (by decide +kernel) ⟨Nat.le_of_ble_eq_true rfl, Nat.le_of_ble_eq_true rfl⟩) rfl rfl hl.1 dX5_mostFrom_92 rfl rfl (Nat.le_of_ble_eq_true rfl) ⟨Nat.le_of_ble_eq_true rfl, Nat.le_of_ble_eq_true rfl⟩ hS hA hK hPm hDm; exact hrun
                    · have hrun := z_runU (l := l) (R := { frames := 6, cells := 0, slots := 0, locals := 300 }) (e := e) (below := below) (meth := meth) (cells := 0) (slots := 0) (locs := locs) (ci := 2) (C := RX2) (b := oc) (rm := { frames := 3, cells := 0, slots := 0, locals := 60 }) (As := [.int (iI (topP (pv i)))]) (rest := []) ⟨hx, hb, hml, hown, hts⟩ (c_X0_worthOf l X oc 4 ca cb fh fk (topP (pv i)) (by unfold KindOk; decide) (by omega)) (va_cwU 1 hts gX5_mostFrom_X0_worthOf_u50X2 rfl rfl rfl rfl (by decide +kernel) ⟨Nat.le_of_ble_eq_true rfl, Nat.le_of_ble_eq_true rfl⟩) rfl rfl hl.1 dX5_mostFrom_92 rfl rfl (Nat.le_of_ble_eq_true rfl) ⟨Nat.le_of_ble_eq_true rfl, Nat.le_of_ble_eq_true rfl⟩ hS hA hK hPm hDm; exact hrun
                  have hP := zp_perm hP ((zblk (show List.Perm ([Wpl X o a b hq fp8, Wshelf X (hq 3) (rq 3) (qq 3) n pv, Wchild X oc k ca cb fh fk] : List va_W) ([Wchild X oc k ca cb fh fk] ++ [Wpl X o a b hq fp8, Wshelf X (hq 3) (rq 3) (qq 3) n pv]) from (zf1 _ 2 _ rfl).trans ((List.Perm.refl _).cons _)))).symm
                  have hD := zd_perm hD ((zblk (show List.Perm ([Wpl X o a b hq fp8, Wshelf X (hq 3) (rq 3) (qq 3) n pv, Wchild X oc k ca cb fh fk] : List va_W) ([Wchild X oc k ca cb fh fk] ++ [Wpl X o a b hq fp8, Wshelf X (hq 3) (rq 3) (qq 3) n pv]) from (zf1 _ 2 _ rfl).trans ((List.Perm.refl _).cons _)))).symm
                  have hP : va_P X.1 vwCl (zb [Wpl X o a b hq fp8, Wshelf X (hq 3) (rq 3) (qq 3) n pv, Wchild X oc k ca cb fh fk]) H := hP
                  have hD : va_D A (zb [Wpl X o a b hq fp8, Wshelf X (hq 3) (rq 3) (qq 3) n pv, Wchild X oc k ca cb fh fk]) := hD
                  refine W.eq (g2 := F0 m 95 ls [.int (iI (wOf k (topP (pv i))))]) rfl ?_
                  refine lv_aload_n hx hb dX5_mostFrom_95 rfl (lv_at hl 1 rfl) ?_
                  refine lv_aload_n hx hb dX5_mostFrom_96 rfl (lv_at hl 2 rfl) ?_
                  refine lv_iload_n hx hb dX5_mostFrom_97 rfl (lv_at hl 3 rfl) ?_
                  refine lv_iload_n hx hb dX5_mostFrom_98 rfl (lv_at hl 4 rfl) ?_
                  refine lv_iload hx hb dX5_mostFrom_99 (lv_at hl 7 rfl) ?_
                  have hPm := zp_perm hP (zblk (show List.Perm ([Wpl X o a b hq fp8, Wshelf X (hq 3) (rq 3) (qq 3) n pv, Wchild X oc k ca cb fh fk] : List va_W) ([Wpl X o a b hq fp8, Wshelf X (hq 3) (rq 3) (qq 3) n pv, Wchild X oc k ca cb fh fk] ++ []) from (zf1 _ 0 _ rfl).trans (((zf1 _ 0 _ rfl).trans (((zf1 _ 0 _ rfl).trans ((List.Perm.refl _).cons _)).cons _)).cons _)))
                  have hDm := zd_perm hD (zblk (show List.Perm ([Wpl X o a b hq fp8, Wshelf X (hq 3) (rq 3) (qq 3) n pv, Wchild X oc k ca cb fh fk] : List va_W) ([Wpl X o a b hq fp8, Wshelf X (hq 3) (rq 3) (qq 3) n pv, Wchild X oc k ca cb fh fk] ++ []) from (zf1 _ 0 _ rfl).trans (((zf1 _ 0 _ rfl).trans (((zf1 _ 0 _ rfl).trans ((List.Perm.refl _).cons _)).cons _)).cons _)))
                  refine z_callV (wr := zb []) (As := [.ref oc, .int (iI 3), .int (iI hr0), .int (iI (↑i))]) (rest := [.int (iI (wOf k (topP (pv i))))]) ⟨hx, hb, hml, hown, hts⟩ (c_X5_mostBehind_3p l X o a b hq fp8 rq qq n pv oc k ca cb fh fk hr0 i (by omega) (by exact hpv) (by exact hpg) (by omega) (by rw [hfo _ (by omega)]; exact hfp) (by exact hk) (by omega)) (cwV 4 hts gX5_mostFrom_X5_mostBehind rfl rfl rfl (by decide +kernel) ⟨Nat.le_of_ble_eq_true rfl, Nat.le_of_ble_eq_true rfl⟩) rfl rfl hl.1 dX5_mostFrom_101 rfl rfl (Nat.le_of_ble_eq_true rfl) ⟨Nat.le_of_ble_eq_true rfl, Nat.le_of_ble_eq_true rfl⟩ hS hA hK hPm hDm (fun u H locs hpost hP hD hS => ?_)
                  obtain ⟨fp9_8, rfl⟩ : ∃ z, z = u := ⟨_, rfl⟩
                  have hpost : fp9_8 4 = 4 ^ 4 * (PL k n (hr0 - 4).toNat (wtS n (tkS pv i))).2 ∧ (∀ j : Nat, (j ≤ 3 ∨ hr0 ≤ j) → fp9_8 j = fp8 j) := hpost
                  have hP := zp_perm hP ((zblk (show List.Perm ([Wpl X o a b hq fp9_8, Wshelf X (hq 3) (rq 3) (qq 3) n pv, Wchild X oc k ca cb fh fk] : List va_W) ([Wpl X o a b hq fp9_8, Wshelf X (hq 3) (rq 3) (qq 3) n pv, Wchild X oc k ca cb fh fk] ++ []) from (zf1 _ 0 _ rfl).trans (((zf1 _ 0 _ rfl).trans (((zf1 _ 0 _ rfl).trans ((List.Perm.refl _).cons _)).cons _)).cons _)))).symm
                  have hD := zd_perm hD ((zblk (show List.Perm ([Wpl X o a b hq fp9_8, Wshelf X (hq 3) (rq 3) (qq 3) n pv, Wchild X oc k ca cb fh fk] : List va_W) ([Wpl X o a b hq fp9_8, Wshelf X (hq 3) (rq 3) (qq 3) n pv, Wchild X oc k ca cb fh fk] ++ []) from (zf1 _ 0 _ rfl).trans (((zf1 _ 0 _ rfl).trans (((zf1 _ 0 _ rfl).trans ((List.Perm.refl _).cons _)).cons _)).cons _)))).symm
                  have hP : va_P X.1 vwCl (zb [Wpl X o a b hq fp9_8, Wshelf X (hq 3) (rq 3) (qq 3) n pv, Wchild X oc k ca cb fh fk]) H := hP
                  have hD : va_D A (zb [Wpl X o a b hq fp9_8, Wshelf X (hq 3) (rq 3) (qq 3) n pv, Wchild X oc k ca cb fh fk]) := hD
                  refine W.eq (g2 := F0 m 104 ls [.int (iI ((PL k n (hr0 - 4).toNat (wtS n (tkS pv i))).1)), .int (iI (wOf k (topP (pv i))))]) rfl ?_
                  obtain ⟨hpa, hpb⟩ := hpost
                  have hfx : fp9_8 3 = fp8 3 := hpb 3 (by omega)
                  have hfy : ∀ j : Nat, (j < 3 ∨ hr0 ≤ j) → fp9_8 j = fp j := fun x hx1 => by rw [hpb x (by omega)]; exact hfo x hx1
                  have hple := PL_in k (by omega : 0 ≤ n ∧ n ≤ 3) (hr0 - 4).toNat (wtS n (tkS pv i))
                  have hpow := p4_le (r := (hr0 - 4).toNat) (by omega)
                  have hwo := wOf_in k (topP (pv i))
                  refine z_iadd hx hb dX5_mostFrom_104 ?_
                  refine z_topi (fun z_9 ez_9 => ?_)
                  refine lv_istore (lv' := [(8, .int (iI z_9)), (7, .int (iI (topP (pv i)))), (0, .ref o), (1, .ref oc), (2, .int (iI 3)), (3, .int (iI hr0)), (4, .ref (hq 3)), (5, .int (iI y)), (6, .int (iI (↑i)))]) hx hb dX5_mostFrom_105 hl (by decide) rfl (fun ls hl => ?_)
                  refine lv_iload hx hb dX5_mostFrom_107 (lv_at hl 0 rfl) ?_
                  refine lv_iload hx hb dX5_mostFrom_109 (lv_at hl 7 rfl) ?_
                  refine z_icmp_le (tgt := 125) hx hb (by omega) dX5_mostFrom_111 (by decide) (fun c_10 => ?_) (fun c_10 => ?_)
                  · skip
                    refine z_iinc (k := 8) (lv' := [(6, .int (iI ((↑i) + 1))), (8, .int (iI z_9)), (7, .int (iI (topP (pv i)))), (0, .ref o), (1, .ref oc), (2, .int (iI 3)), (3, .int (iI hr0)), (4, .ref (hq 3)), (5, .int (iI y))]) hx hb dX5_mostFrom_125 hl rfl (by decide) rfl (fun ls hl => ?_)
                    refine lv_goto (tgt := 61) hx hb dX5_mostFrom_128 (by decide) ?_
                    exact ih61  (i + 1) y fp9_8 (by omega) (by unfold bst; rw [if_neg (by omega), if_neg (by dsimp only; omega)]; exact hy) (by unfold bst; rw [if_neg (by omega), if_neg (by dsimp only; omega)]; intro q; rw [hfx]; exact hfd q) (by exact hfy) (by omega) _ _ _ hP hD hS (lv_sub hl [3, 4, 5, 6, 7, 8, 0] rfl)
                  · skip
                    refine lv_iload hx hb dX5_mostFrom_114 (lv_at hl 0 rfl) ?_
                    refine lv_istore (lv' := [(5, .int (iI z_9)), (8, .int (iI z_9)), (7, .int (iI (topP (pv i)))), (0, .ref o), (1, .ref oc), (2, .int (iI 3)), (3, .int (iI hr0)), (4, .ref (hq 3)), (6, .int (iI (↑i)))]) hx hb dX5_mostFrom_116 hl (by decide) rfl (fun ls hl => ?_)
                    refine lv_aload_n hx hb dX5_mostFrom_118 rfl (lv_at hl 3 rfl) ?_
                    refine lv_iload_n hx hb dX5_mostFrom_119 rfl (lv_at hl 5 rfl) ?_
                    refine lv_iload hx hb dX5_mostFrom_120 (lv_at hl 8 rfl) ?_
                    have hPm := zp_perm hP (zblk (show List.Perm ([Wpl X o a b hq fp9_8, Wshelf X (hq 3) (rq 3) (qq 3) n pv, Wchild X oc k ca cb fh fk] : List va_W) ([Wpl X o a b hq fp9_8] ++ [Wshelf X (hq 3) (rq 3) (qq 3) n pv, Wchild X oc k ca cb fh fk]) from (zf1 _ 0 _ rfl).trans ((List.Perm.refl _).cons _)))
                    have hDm := zd_perm hD (zblk (show List.Perm ([Wpl X o a b hq fp9_8, Wshelf X (hq 3) (rq 3) (qq 3) n pv, Wchild X oc k ca cb fh fk] : List va_W) ([Wpl X o a b hq fp9_8] ++ [Wshelf X (hq 3) (rq 3) (qq 3) n pv, Wchild X oc k ca cb fh fk]) from (zf1 _ 0 _ rfl).trans ((List.Perm.refl _).cons _)))
                    refine z_callV (wr := zb [Wshelf X (hq 3) (rq 3) (qq 3) n pv, Wchild X oc k ca cb fh fk]) (As := [.int (iI 3), .int (iI (↑i))]) (rest := []) ⟨hx, hb, hml, hown, hts⟩ (c_X5_note_3 l X o a b hq fp9_8 (↑i : Int) ((PL k n (hr0 - 4).toNat (wtS n (tkS pv i))).2) (by omega) (by exact hpa) (by omega)) (cwV 2 hts gX5_mostFrom_X5_note rfl rfl rfl (by decide +kernel) ⟨Nat.le_of_ble_eq_true rfl, Nat.le_of_ble_eq_true rfl⟩) rfl rfl hl.1 dX5_mostFrom_122 rfl rfl (Nat.le_of_ble_eq_true rfl) ⟨Nat.le_of_ble_eq_true rfl, Nat.le_of_ble_eq_true rfl⟩ hS hA hK hPm hDm (fun _ H locs _ hP hD hS => ?_)
                    have hP := zp_perm hP ((zblk (show List.Perm ([Wpl X o a b hq (updZ fp9_8 3 (4 ^ 3 * ((↑i : Int) + 1 + 4 * ((PL k n (hr0 - 4).toNat (wtS n (tkS pv i))).2)))), Wshelf X (hq 3) (rq 3) (qq 3) n pv, Wchild X oc k ca cb fh fk] : List va_W) ([Wpl X o a b hq (updZ fp9_8 3 (4 ^ 3 * ((↑i : Int) + 1 + 4 * ((PL k n (hr0 - 4).toNat (wtS n (tkS pv i))).2))))] ++ [Wshelf X (hq 3) (rq 3) (qq 3) n pv, Wchild X oc k ca cb fh fk]) from (zf1 _ 0 _ rfl).trans ((List.Perm.refl _).cons _)))).symm
                    have hD := zd_perm hD ((zblk (show List.Perm ([Wpl X o a b hq (updZ fp9_8 3 (4 ^ 3 * ((↑i : Int) + 1 + 4 * ((PL k n (hr0 - 4).toNat (wtS n (tkS pv i))).2)))), Wshelf X (hq 3) (rq 3) (qq 3) n pv, Wchild X oc k ca cb fh fk] : List va_W) ([Wpl X o a b hq (updZ fp9_8 3 (4 ^ 3 * ((↑i : Int) + 1 + 4 * ((PL k n (hr0 - 4).toNat (wtS n (tkS pv i))).2))))] ++ [Wshelf X (hq 3) (rq 3) (qq 3) n pv, Wchild X oc k ca cb fh fk]) from (zf1 _ 0 _ rfl).trans ((List.Perm.refl _).cons _)))).symm
                    have hP : va_P X.1 vwCl (zb [Wpl X o a b hq (updZ fp9_8 3 (4 ^ 3 * ((↑i : Int) + 1 + 4 * ((PL k n (hr0 - 4).toNat (wtS n (tkS pv i))).2)))), Wshelf X (hq 3) (rq 3) (qq 3) n pv, Wchild X oc k ca cb fh fk]) H := hP
                    have hD : va_D A (zb [Wpl X o a b hq (updZ fp9_8 3 (4 ^ 3 * ((↑i : Int) + 1 + 4 * ((PL k n (hr0 - 4).toNat (wtS n (tkS pv i))).2)))), Wshelf X (hq 3) (rq 3) (qq 3) n pv, Wchild X oc k ca cb fh fk]) := hD
                    refine W.eq (g2 := F0 m 125 ls []) rfl ?_
                    refine z_iinc (k := 8) (lv' := [(6, .int (iI ((↑i) + 1))), (5, .int (iI z_9)), (8, .int (iI z_9)), (7, .int (iI (topP (pv i)))), (0, .ref o), (1, .ref oc), (2, .int (iI 3)), (3, .int (iI hr0)), (4, .ref (hq 3))]) hx hb dX5_mostFrom_125 hl rfl (by decide) rfl (fun ls hl => ?_)
                    refine lv_goto (tgt := 61) hx hb dX5_mostFrom_128 (by decide) ?_
                    exact ih61  (i + 1) z_9 (updZ fp9_8 3 (4 ^ 3 * ((↑i : Int) + 1 + 4 * ((PL k n (hr0 - 4).toNat (wtS n (tkS pv i))).2)))) (by omega) (by unfold bst; rw [if_neg (by omega), if_pos (by dsimp only; omega)]; dsimp only; omega) (by unfold bst; rw [if_neg (by omega), if_pos (by dsimp only; omega)]; intro q; rw [updZ_same]; dsimp only; rw [show ((i + 1 : Nat) : Int) = ↑i + 1 from rfl]) (by intro x hx1; rw [updZ_ne _ _ (by omega)]; exact hfy x hx1) (by omega) _ _ _ hP hD hS (lv_sub hl [4, 5, 6, 7, 8, 1, 0] rfl)
                · skip
                  refine lv_goto (tgt := 125) hx hb dX5_mostFrom_86 (by decide) ?_
                  refine z_iinc (k := 7) (lv' := [(6, .int (iI ((↑i) + 1))), (7, .int (iI (topP (pv i)))), (0, .ref o), (1, .ref oc), (2, .int (iI 3)), (3, .int (iI hr0)), (4, .ref (hq 3)), (5, .int (iI y))]) hx hb dX5_mostFrom_125 hl rfl (by decide) rfl (fun ls hl => ?_)
                  refine lv_goto (tgt := 61) hx hb dX5_mostFrom_128 (by decide) ?_
                  exact ih61  (i + 1) y fp8 (by omega) (by unfold bst; rw [if_pos (by omega)]; exact hy) (by unfold bst; rw [if_pos (by omega)]; exact hfd) (by exact hfo) (by omega) _ _ _ hP hD hS (lv_sub hl [2, 3, 4, 5, 6, 7, 0] rfl)
          exact L61 ((n - ↑(0 : Nat)).toNat + 1) 0 (-1) fp (by omega) (by rfl) (by intro q; omega) (by intro x _; rfl) (by omega) _ _ _ hP hD hS (lv_sub hl [3, 4, 5, 6, 2, 1, 0] rfl)
        · skip
          refine lv_aload_n hx hb dX5_mostFrom_36 rfl (lv_at hl 1 rfl) ?_
          refine lv_aload_n hx hb dX5_mostFrom_37 rfl (lv_at hl 2 rfl) ?_
          refine lv_iload_n hx hb dX5_mostFrom_38 rfl (lv_at hl 3 rfl) ?_
          refine lv_iload_n hx hb dX5_mostFrom_39 rfl (lv_at hl 4 rfl) ?_
          refine lv_iconst (v := iI (-1)) hx hb dX5_mostFrom_40 (by decide) ?_
          have hPm := zp_perm hP (zblk (show List.Perm ([Wpl X o a b hq fp, Wshelf X (hq 3) (rq 3) (qq 3) n pv, Wchild X oc k ca cb fh fk] : List va_W) ([Wpl X o a b hq fp, Wshelf X (hq 3) (rq 3) (qq 3) n pv, Wchild X oc k ca cb fh fk] ++ []) from (zf1 _ 0 _ rfl).trans (((zf1 _ 0 _ rfl).trans (((zf1 _ 0 _ rfl).trans ((List.Perm.refl _).cons _)).cons _)).cons _)))
          have hDm := zd_perm hD (zblk (show List.Perm ([Wpl X o a b hq fp, Wshelf X (hq 3) (rq 3) (qq 3) n pv, Wchild X oc k ca cb fh fk] : List va_W) ([Wpl X o a b hq fp, Wshelf X (hq 3) (rq 3) (qq 3) n pv, Wchild X oc k ca cb fh fk] ++ []) from (zf1 _ 0 _ rfl).trans (((zf1 _ 0 _ rfl).trans (((zf1 _ 0 _ rfl).trans ((List.Perm.refl _).cons _)).cons _)).cons _)))
          refine z_callV (wr := zb []) (As := [.ref oc, .int (iI 3), .int (iI hr0), .int (iI (-1))]) (rest := []) ⟨hx, hb, hml, hown, hts⟩ (c_X5_mostBehind_3w l X o a b hq fp rq qq n pv oc k ca cb fh fk hr0 (by omega) (by exact hpv) (by exact hpg) (by omega) (by exact hfp) (by exact hk)) (cwV 4 hts gX5_mostFrom_X5_mostBehind rfl rfl rfl (by decide +kernel) ⟨Nat.le_of_ble_eq_true rfl, Nat.le_of_ble_eq_true rfl⟩) rfl rfl hl.1 dX5_mostFrom_41 rfl rfl (Nat.le_of_ble_eq_true rfl) ⟨Nat.le_of_ble_eq_true rfl, Nat.le_of_ble_eq_true rfl⟩ hS hA hK hPm hDm (fun u H locs hpost hP hD hS => ?_)
          obtain ⟨fp9_15, rfl⟩ : ∃ z, z = u := ⟨_, rfl⟩
          have hpost : fp9_15 4 = 4 ^ 4 * (PL k n (hr0 - 4).toNat (wtS n pv)).2 ∧ (∀ j : Nat, (j ≤ 3 ∨ hr0 ≤ j) → fp9_15 j = fp j) := hpost
          have hP := zp_perm hP ((zblk (show List.Perm ([Wpl X o a b hq fp9_15, Wshelf X (hq 3) (rq 3) (qq 3) n pv, Wchild X oc k ca cb fh fk] : List va_W) ([Wpl X o a b hq fp9_15, Wshelf X (hq 3) (rq 3) (qq 3) n pv, Wchild X oc k ca cb fh fk] ++ []) from (zf1 _ 0 _ rfl).trans (((zf1 _ 0 _ rfl).trans (((zf1 _ 0 _ rfl).trans ((List.Perm.refl _).cons _)).cons _)).cons _)))).symm
          have hD := zd_perm hD ((zblk (show List.Perm ([Wpl X o a b hq fp9_15, Wshelf X (hq 3) (rq 3) (qq 3) n pv, Wchild X oc k ca cb fh fk] : List va_W) ([Wpl X o a b hq fp9_15, Wshelf X (hq 3) (rq 3) (qq 3) n pv, Wchild X oc k ca cb fh fk] ++ []) from (zf1 _ 0 _ rfl).trans (((zf1 _ 0 _ rfl).trans (((zf1 _ 0 _ rfl).trans ((List.Perm.refl _).cons _)).cons _)).cons _)))).symm
          have hP : va_P X.1 vwCl (zb [Wpl X o a b hq fp9_15, Wshelf X (hq 3) (rq 3) (qq 3) n pv, Wchild X oc k ca cb fh fk]) H := hP
          have hD : va_D A (zb [Wpl X o a b hq fp9_15, Wshelf X (hq 3) (rq 3) (qq 3) n pv, Wchild X oc k ca cb fh fk]) := hD
          refine W.eq (g2 := F0 m 44 ls [.int (iI ((PL k n (hr0 - 4).toNat (wtS n pv)).1))]) rfl ?_
          obtain ⟨hpa, hpb⟩ := hpost
          have hple := PL_in k (by omega : 0 ≤ n ∧ n ≤ 3) (hr0 - 4).toNat (wtS n pv)
          have hpow := p4_le (r := (hr0 - 4).toNat) (by omega)
          refine z_topi (fun z_16 ez_16 => ?_)
          refine lv_istore (lv' := [(5, .int (iI z_16)), (4, .ref (hq 3)), (0, .ref o), (1, .ref oc), (2, .int (iI 3)), (3, .int (iI hr0))]) hx hb dX5_mostFrom_44 hl (by decide) rfl (fun ls hl => ?_)
          refine lv_aload_n hx hb dX5_mostFrom_46 rfl (lv_at hl 2 rfl) ?_
          refine lv_iload_n hx hb dX5_mostFrom_47 rfl (lv_at hl 4 rfl) ?_
          refine lv_iconst (v := iI (-1)) hx hb dX5_mostFrom_48 (by decide) ?_
          have hPm := zp_perm hP (zblk (show List.Perm ([Wpl X o a b hq fp9_15, Wshelf X (hq 3) (rq 3) (qq 3) n pv, Wchild X oc k ca cb fh fk] : List va_W) ([Wpl X o a b hq fp9_15] ++ [Wshelf X (hq 3) (rq 3) (qq 3) n pv, Wchild X oc k ca cb fh fk]) from (zf1 _ 0 _ rfl).trans ((List.Perm.refl _).cons _)))
          have hDm := zd_perm hD (zblk (show List.Perm ([Wpl X o a b hq fp9_15, Wshelf X (hq 3) (rq 3) (qq 3) n pv, Wchild X oc k ca cb fh fk] : List va_W) ([Wpl X o a b hq fp9_15] ++ [Wshelf X (hq 3) (rq 3) (qq 3) n pv, Wchild X oc k ca cb fh fk]) from (zf1 _ 0 _ rfl).trans ((List.Perm.refl _).cons _)))
          refine z_callV (wr := zb [Wshelf X (hq 3) (rq 3) (qq 3) n pv, Wchild X oc k ca cb fh fk]) (As := [.int (iI 3), .int (iI (-1))]) (rest := []) ⟨hx, hb, hml, hown, hts⟩ (c_X5_note_3 l X o a b hq fp9_15 (-1) ((PL k n (hr0 - 4).toNat (wtS n pv)).2) (by omega) (by exact hpa) (by omega)) (cwV 2 hts gX5_mostFrom_X5_note rfl rfl rfl (by decide +kernel) ⟨Nat.le_of_ble_eq_true rfl, Nat.le_of_ble_eq_true rfl⟩) rfl rfl hl.1 dX5_mostFrom_49 rfl rfl (Nat.le_of_ble_eq_true rfl) ⟨Nat.le_of_ble_eq_true rfl, Nat.le_of_ble_eq_true rfl⟩ hS hA hK hPm hDm (fun _ H locs _ hP hD hS => ?_)
          have hP := zp_perm hP ((zblk (show List.Perm ([Wpl X o a b hq (updZ fp9_15 3 (4 ^ 3 * ((-1) + 1 + 4 * ((PL k n (hr0 - 4).toNat (wtS n pv)).2)))), Wshelf X (hq 3) (rq 3) (qq 3) n pv, Wchild X oc k ca cb fh fk] : List va_W) ([Wpl X o a b hq (updZ fp9_15 3 (4 ^ 3 * ((-1) + 1 + 4 * ((PL k n (hr0 - 4).toNat (wtS n pv)).2))))] ++ [Wshelf X (hq 3) (rq 3) (qq 3) n pv, Wchild X oc k ca cb fh fk]) from (zf1 _ 0 _ rfl).trans ((List.Perm.refl _).cons _)))).symm
          have hD := zd_perm hD ((zblk (show List.Perm ([Wpl X o a b hq (updZ fp9_15 3 (4 ^ 3 * ((-1) + 1 + 4 * ((PL k n (hr0 - 4).toNat (wtS n pv)).2)))), Wshelf X (hq 3) (rq 3) (qq 3) n pv, Wchild X oc k ca cb fh fk] : List va_W) ([Wpl X o a b hq (updZ fp9_15 3 (4 ^ 3 * ((-1) + 1 + 4 * ((PL k n (hr0 - 4).toNat (wtS n pv)).2))))] ++ [Wshelf X (hq 3) (rq 3) (qq 3) n pv, Wchild X oc k ca cb fh fk]) from (zf1 _ 0 _ rfl).trans ((List.Perm.refl _).cons _)))).symm
          have hP : va_P X.1 vwCl (zb [Wpl X o a b hq (updZ fp9_15 3 (4 ^ 3 * ((-1) + 1 + 4 * ((PL k n (hr0 - 4).toNat (wtS n pv)).2)))), Wshelf X (hq 3) (rq 3) (qq 3) n pv, Wchild X oc k ca cb fh fk]) H := hP
          have hD : va_D A (zb [Wpl X o a b hq (updZ fp9_15 3 (4 ^ 3 * ((-1) + 1 + 4 * ((PL k n (hr0 - 4).toNat (wtS n pv)).2)))), Wshelf X (hq 3) (rq 3) (qq 3) n pv, Wchild X oc k ca cb fh fk]) := hD
          refine W.eq (g2 := F0 m 52 ls []) rfl ?_
          refine lv_iload hx hb dX5_mostFrom_52 (lv_at hl 0 rfl) ?_
          exact z_iret hQ hx hb hr hlocks hS ⟨Nat.le_of_ble_eq_true rfl, Nat.le_of_ble_eq_true rfl⟩ dX5_mostFrom_54 (updZ fp9_15 3 (4 ^ 3 * ((-1) + 1 + 4 * ((PL k n (hr0 - 4).toNat (wtS n pv)).2)))) (congrArg (fun z => some (Value.int (iI z))) (show ((PL k n (hr0 - 3).toNat pv).1 : Int) = z_16 by rw [show (hr0 - 3).toNat = (hr0 - 4).toNat + 1 by omega, PL_bare (by omega)]; subst_vars; rfl)) (by (try dsimp only); rw [show (hr0 - 3).toNat = (hr0 - 4).toNat + 1 by omega, PL_bare (by omega)]; exact ⟨by rw [updZ_same]; congr 1; omega, fun x hx1 => by rw [updZ_ne _ _ (by omega)]; exact hpb x (by omega)⟩) hP hD
      · skip
        exact absurd c_3 (by omega)
