set_option maxHeartbeats 1000000 in
set_option maxRecDepth 100000 in
theorem c_J6_bitCount_0f7a4 (l : Launch) (X : zX) (n : Nat) (hn : n < 65536) : zF l X yJ6_bitCount_0f7a4 wsJ6_bitCount_0f7a4 0 0 [.int (iI (↑n))] (zb []) (some (.int (iI ((popN 16 n : Nat) : Int)))) (zb []) := by
  refine z_enter (cc := cJ6_bitCount_0f7a4) (maxL := 1) (ret := (some .int)) (by decide) rfl (Nat.le_of_ble_eq_true rfl) ?_
  intro p e s m below meth c A ls Q hQ hE hl hP hD
  obtain ⟨hx, hb, hr, hml, hown, hts, hlocks, hnm, hA, hK⟩ := hE
  have hown : s.vm.findClass RJ6 = some m.cls := hown
  have hS : va_S A s.heap s.heap [] := va_S.rf
  have hl : lv_has ls 1 [(0, .int (iI (↑n)))] := hl
  refine lv_iload_n hx hb dJ6_bitCount_0f7a4_0 rfl (lv_at hl 0 rfl) ?_
  refine lv_iload_n hx hb dJ6_bitCount_0f7a4_1 rfl (lv_at hl 0 rfl) ?_
  refine lv_iconst (v := iI 1) hx hb dJ6_bitCount_0f7a4_2 (by decide) ?_
  refine z_ushr 1 hx hb (by decide) (by decide) (by omega) dJ6_bitCount_0f7a4_3 ?_
  refine lv_ldcw (v := iI 1431655765) hx hb hown (hts (.constant RJ6 265 (1431655765)) (by decide +kernel)) dJ6_bitCount_0f7a4_4 ?_
  refine z_andn (n / 2) 1431655765 hx hb (by omega) (by rfl) dJ6_bitCount_0f7a4_7 ?_
  have hq0 : (n / 2 &&& 1431655765) ≤ n / 2 := Nat.and_le_left
  refine z_isub hx hb dJ6_bitCount_0f7a4_8 ?_
  refine z_topi (fun z_1 ez_1 => ?_)
  refine lv_istore_n (lv' := [(0, .int (iI z_1))]) hx hb dJ6_bitCount_0f7a4_9 rfl hl (by decide) rfl (fun ls hl => ?_)
  obtain ⟨n1, hn1⟩ : ∃ q : Nat, q = bc1 n := ⟨_, rfl⟩
  have hu1 : bc1 n = n - (n / 2 &&& 1431655765) := rfl
  have en1 : z_1 = (n1 : Int) := by omega
  rw [en1] at hl
  refine lv_iload_n hx hb dJ6_bitCount_0f7a4_10 rfl (lv_at hl 0 rfl) ?_
  refine lv_ldcw (v := iI 858993459) hx hb hown (hts (.constant RJ6 266 (858993459)) (by decide +kernel)) dJ6_bitCount_0f7a4_11 ?_
  refine z_andn (n1) 858993459 hx hb (by omega) (by rfl) dJ6_bitCount_0f7a4_14 ?_
  refine lv_iload_n hx hb dJ6_bitCount_0f7a4_15 rfl (lv_at hl 0 rfl) ?_
  refine lv_iconst (v := iI 2) hx hb dJ6_bitCount_0f7a4_16 (by decide) ?_
  refine z_ushr 2 hx hb (by decide) (by decide) (by omega) dJ6_bitCount_0f7a4_17 ?_
  refine lv_ldcw (v := iI 858993459) hx hb hown (hts (.constant RJ6 266 (858993459)) (by decide +kernel)) dJ6_bitCount_0f7a4_18 ?_
  refine z_andn (n1 / 4) 858993459 hx hb (by omega) (by rfl) dJ6_bitCount_0f7a4_21 ?_
  have hq1 : (n1 &&& 858993459) ≤ n1 := Nat.and_le_left
  have hq2 : (n1 / 4 &&& 858993459) ≤ n1 / 4 := Nat.and_le_left
  refine z_iadd hx hb dJ6_bitCount_0f7a4_22 ?_
  refine z_topi (fun z_2 ez_2 => ?_)
  refine lv_istore_n (lv' := [(0, .int (iI z_2))]) hx hb dJ6_bitCount_0f7a4_23 rfl hl (by decide) rfl (fun ls hl => ?_)
  obtain ⟨n2, hn2⟩ : ∃ q : Nat, q = bc2 n1 := ⟨_, rfl⟩
  have hu2 : bc2 n1 = (n1 &&& 858993459) + (n1 / 4 &&& 858993459) := rfl
  have en2 : z_2 = (n2 : Int) := by omega
  rw [en2] at hl
  refine lv_iload_n hx hb dJ6_bitCount_0f7a4_24 rfl (lv_at hl 0 rfl) ?_
  refine lv_iload_n hx hb dJ6_bitCount_0f7a4_25 rfl (lv_at hl 0 rfl) ?_
  refine lv_iconst (v := iI 4) hx hb dJ6_bitCount_0f7a4_26 (by decide) ?_
  refine z_ushr 4 hx hb (by decide) (by decide) (by omega) dJ6_bitCount_0f7a4_27 ?_
  refine z_iadd hx hb dJ6_bitCount_0f7a4_28 ?_
  refine lv_ldcw (v := iI 252645135) hx hb hown (hts (.constant RJ6 267 (252645135)) (by decide +kernel)) dJ6_bitCount_0f7a4_29 ?_
  refine z_andn (n2 + n2 / 16) 252645135 hx hb (by omega) (by rfl) dJ6_bitCount_0f7a4_32 ?_
  have hq3 : ((n2 + n2 / 16) &&& 252645135) ≤ n2 + n2 / 16 := Nat.and_le_left
  refine lv_istore_n (lv' := [(0, .int (iI ((n2 + n2 / 16 &&& 252645135 : Nat) : Int)))]) hx hb dJ6_bitCount_0f7a4_33 rfl hl (by decide) rfl (fun ls hl => ?_)
  obtain ⟨n3, hn3⟩ : ∃ q : Nat, q = bc3 n2 := ⟨_, rfl⟩
  have hu3 : bc3 n2 = (n2 + n2 / 16) &&& 252645135 := rfl
  have en3 : ((n2 + n2 / 16 &&& 252645135 : Nat) : Int) = (n3 : Int) := by omega
  rw [en3] at hl
  refine lv_iload_n hx hb dJ6_bitCount_0f7a4_34 rfl (lv_at hl 0 rfl) ?_
  refine lv_iload_n hx hb dJ6_bitCount_0f7a4_35 rfl (lv_at hl 0 rfl) ?_
  refine lv_bipush (v := iI 8) hx hb dJ6_bitCount_0f7a4_36 (by decide) ?_
  refine z_ushr 8 hx hb (by decide) (by decide) (by omega) dJ6_bitCount_0f7a4_38 ?_
  refine z_iadd hx hb dJ6_bitCount_0f7a4_39 ?_
  refine z_topi (fun z_3 ez_3 => ?_)
  refine lv_istore_n (lv' := [(0, .int (iI z_3))]) hx hb dJ6_bitCount_0f7a4_40 rfl hl (by decide) rfl (fun ls hl => ?_)
  obtain ⟨n4, hn4⟩ : ∃ q : Nat, q = bc4 n3 := ⟨_, rfl⟩
  have hu4 : bc4 n3 = n3 + n3 / 256 := rfl
  have en4 : z_3 = (n4 : Int) := by omega
  rw [en4] at hl
  refine lv_iload_n hx hb dJ6_bitCount_0f7a4_41 rfl (lv_at hl 0 rfl) ?_
  refine lv_iload_n hx hb dJ6_bitCount_0f7a4_42 rfl (lv_at hl 0 rfl) ?_
  refine lv_bipush (v := iI 16) hx hb dJ6_bitCount_0f7a4_43 (by decide) ?_
  refine z_ushr 16 hx hb (by decide) (by decide) (by omega) dJ6_bitCount_0f7a4_45 ?_
  refine z_iadd hx hb dJ6_bitCount_0f7a4_46 ?_
  refine z_topi (fun z_4 ez_4 => ?_)
  refine lv_istore_n (lv' := [(0, .int (iI z_4))]) hx hb dJ6_bitCount_0f7a4_47 rfl hl (by decide) rfl (fun ls hl => ?_)
  obtain ⟨n5, hn5⟩ : ∃ q : Nat, q = bc5 n4 := ⟨_, rfl⟩
  have hu5 : bc5 n4 = n4 + n4 / 65536 := rfl
  have en5 : z_4 = (n5 : Int) := by omega
  rw [en5] at hl
  refine lv_iload_n hx hb dJ6_bitCount_0f7a4_48 rfl (lv_at hl 0 rfl) ?_
  refine lv_bipush (v := iI 63) hx hb dJ6_bitCount_0f7a4_49 (by decide) ?_
  refine z_andn (n5) 63 hx hb (by omega) (by rfl) dJ6_bitCount_0f7a4_51 ?_
  exact z_iret hQ hx hb hr hlocks hS ⟨Nat.le_of_ble_eq_true rfl, Nat.le_of_ble_eq_true rfl⟩ dJ6_bitCount_0f7a4_52 () (congrArg (fun z => some (Value.int (iI z))) (show (((popN 16 n : Nat) : Int) : Int) = ((n5 &&& 63 : Nat) : Int) by rw [← bc_ok hn, ← hn1, ← hn2, ← hn3, ← hn4, ← hn5]; rfl)) trivial hP hD
set_option maxHeartbeats 1000000 in
set_option maxRecDepth 100000 in
theorem c_X11_leftAtWorst (l : Launch) (X : zX) (x : Int) (y : Int) (hx1 : 0 ≤ x ∧ x < 65536) (hy1 : 0 ≤ y ∧ y ≤ 1000) : zF l X yX11_leftAtWorst wsX11_leftAtWorst 1 40 [.int (iI x), .int (iI y)] (zb []) (some (.int (iI (lwZ x y)))) (zb []) := by
  refine z_enter (cc := cX11_leftAtWorst) (maxL := 3) (ret := (some .int)) (by decide) rfl (Nat.le_of_ble_eq_true rfl) ?_
  intro p e s m below meth c A ls Q hQ hE hl hP hD
  obtain ⟨hx, hb, hr, hml, hown, hts, hlocks, hnm, hA, hK⟩ := hE
  have hown : s.vm.findClass RX11 = some m.cls := hown
  have hS : va_S A s.heap s.heap [] := va_S.rf
  have hl : lv_has ls 3 [(0, .int (iI x)), (1, .int (iI y))] := hl
  refine lv_iload_n hx hb dX11_leftAtWorst_0 rfl (lv_at hl 0 rfl) ?_
  refine lv_iload_n hx hb dX11_leftAtWorst_1 rfl (lv_at hl 1 rfl) ?_
  refine lv_bipush (v := iI 16) hx hb dX11_leftAtWorst_2 (by decide) ?_
  refine z_mmin hx hb (hml.trans hl.1.symm) hown (hts (.methodLink RX11 137 Lib.Math.min.name) (by decide +kernel)) (hts (.static Lib.Math.min.name) (by decide +kernel)) (hts (.initialized "java/lang/Math") (by decide +kernel)) (hts (.code Lib.Math.min.name Lib.Math.min.code 2 (some .int)) (by decide +kernel)) (Nat.le_of_ble_eq_true rfl) (Nat.le_of_ble_eq_true rfl) (Nat.le_of_ble_eq_true rfl) (Nat.le_of_ble_eq_true rfl) (by omega) dX11_leftAtWorst_4 ?_
  refine z_shr (min y 16).toNat hx hb (by omega) (by omega) (by omega) dX11_leftAtWorst_7 ?_
  have hdv : 0 ≤ x / 2 ^ (min y 16).toNat ∧ x / 2 ^ (min y 16).toNat < 65536 := by have hp : (0 : Int) < 2 ^ (min y 16).toNat := Int.pow_pos (by decide); exact ⟨Int.ediv_nonneg (by omega) (by omega), Int.lt_of_le_of_lt (Int.ediv_le_self _ (by omega)) (by omega)⟩
  refine W.eq (g2 := F0 m 8 ls [.int (iI ↑((x / 2 ^ (min y 16).toNat).toNat))]) (by rw [show ((x / 2 ^ (min y 16).toNat).toNat : Int) = x / 2 ^ (min y 16).toNat by omega]) ?_
  generalize hqn : (x / 2 ^ (min y 16).toNat).toNat = qn
  have hPm := zp_perm hP (zblk (show List.Perm ([] : List va_W) ([] ++ []) from List.Perm.refl _))
  have hDm := zd_perm hD (zblk (show List.Perm ([] : List va_W) ([] ++ []) from List.Perm.refl _))
  refine z_callS (wr := zb []) (As := [.int (iI (↑qn))]) (rest := []) ⟨hx, hb, hml, hown, hts⟩ (c_J6_bitCount_0f7a4 l X qn (by omega)) (va_cwS 1 hts gX11_leftAtWorst_J6_bitCount_0f7a4 rfl rfl rfl (by decide +kernel) ⟨Nat.le_of_ble_eq_true rfl, Nat.le_of_ble_eq_true rfl⟩) hl.1 dX11_leftAtWorst_8 rfl rfl (Nat.le_of_ble_eq_true rfl) ⟨Nat.le_of_ble_eq_true rfl, Nat.le_of_ble_eq_true rfl⟩ hS hA hK hPm hDm (fun _ H locs _ hP hD hS => ?_)
  have hP := zp_perm hP ((zblk (show List.Perm ([] : List va_W) ([] ++ []) from List.Perm.refl _))).symm
  have hD := zd_perm hD ((zblk (show List.Perm ([] : List va_W) ([] ++ []) from List.Perm.refl _))).symm
  have hP : va_P X.1 vwCl (zb []) H := hP
  have hD : va_D A (zb []) := hD
  refine W.eq (g2 := F0 m 11 ls [.int (iI ((popN 16 qn : Nat) : Int))]) rfl ?_
  have hpl := popN_le 16 qn
  refine lv_istore_n (lv' := [(2, .int (iI ((popN 16 qn : Nat) : Int))), (0, .int (iI x)), (1, .int (iI y))]) hx hb dX11_leftAtWorst_11 rfl hl (by decide) rfl (fun ls hl => ?_)
  refine lv_iconst (v := iI 1) hx hb dX11_leftAtWorst_12 (by decide) ?_
  refine lv_iload_n hx hb dX11_leftAtWorst_13 rfl (lv_at hl 0 rfl) ?_
  refine z_mmax hx hb (hml.trans hl.1.symm) hown (hts (.methodLink RX11 198 Lib.Math.max.name) (by decide +kernel)) (hts (.static Lib.Math.max.name) (by decide +kernel)) (hts (.initialized "java/lang/Math") (by decide +kernel)) (hts (.code Lib.Math.max.name Lib.Math.max.code 2 (some .int)) (by decide +kernel)) (Nat.le_of_ble_eq_true rfl) (Nat.le_of_ble_eq_true rfl) (Nat.le_of_ble_eq_true rfl) (Nat.le_of_ble_eq_true rfl) (by omega) dX11_leftAtWorst_14 ?_
  exact z_iret hQ hx hb hr hlocks hS ⟨Nat.le_of_ble_eq_true rfl, Nat.le_of_ble_eq_true rfl⟩ dX11_leftAtWorst_17 () (congrArg (fun z => some (Value.int (iI z))) (show (lwZ x y : Int) = max 1 ((popN 16 qn : Nat) : Int) by unfold lwZ popZ; rw [hqn])) trivial hP hD
set_option maxHeartbeats 1000000 in
set_option maxRecDepth 100000 in
theorem c_X11_look (l : Launch) (X : zX) (x : Int) (y : Int) (hx1 : 0 ≤ x ∧ x < 65536) (hy1 : 1 ≤ y ∧ y ≤ 3) : zF l X yX11_look wsX11_look 2 62 [.int (iI x), .int (iI y)] (zb []) (some (.int (iI (lookZ x y)))) (zb []) := by
  refine z_enter (cc := cX11_look) (maxL := 6) (ret := (some .int)) (by decide) rfl (Nat.le_of_ble_eq_true rfl) ?_
  intro p e s m below meth c A ls Q hQ hE hl hP hD
  obtain ⟨hx, hb, hr, hml, hown, hts, hlocks, hnm, hA, hK⟩ := hE
  have hown : s.vm.findClass RX11 = some m.cls := hown
  have hS : va_S A s.heap s.heap [] := va_S.rf
  have hl : lv_has ls 6 [(0, .int (iI x)), (1, .int (iI y))] := hl
  refine lv_iload_n hx hb dX11_look_0 rfl (lv_at hl 0 rfl) ?_
  refine z_if_ne (tgt := 6) hx hb (by omega) dX11_look_1 (by decide) (fun c_1 => ?_) (fun c_1 => ?_)
  · skip
    refine lv_iconst (v := iI (-1)) hx hb dX11_look_6 (by decide) ?_
    refine lv_istore_n (lv' := [(2, .int (iI (-1))), (0, .int (iI x)), (1, .int (iI y))]) hx hb dX11_look_7 rfl hl (by decide) rfl (fun ls hl => ?_)
    refine lv_bipush (v := iI 17) hx hb dX11_look_8 (by decide) ?_
    refine lv_istore_n (lv' := [(3, .int (iI 17)), (2, .int (iI (-1))), (0, .int (iI x)), (1, .int (iI y))]) hx hb dX11_look_10 rfl hl (by decide) rfl (fun ls hl => ?_)
    refine lv_iconst (v := iI 1) hx hb dX11_look_11 (by decide) ?_
    refine lv_istore (lv' := [(4, .int (iI 1)), (3, .int (iI 17)), (2, .int (iI (-1))), (0, .int (iI x)), (1, .int (iI y))]) hx hb dX11_look_12 hl (by decide) rfl (fun ls hl => ?_)
    have L14 : ∀ (fu : Nat) (i : Nat) (u : Int) (w : Int), (1 ≤ i ∧ i ≤ 13) → ((u, w) = lookL (fun h => lwZ x ((h : Int) * y)) (i - 1)) → (1 ≤ w ∧ w ≤ 17) → (13 - i) < fu → ∀ (H : Heap) (locs : List Loc) (ls : Array Slot), va_P X.1 vwCl (zb []) H → va_D A (zb []) → va_S A s.heap H locs → lv_has ls 6 [(0, .int (iI x)), (1, .int (iI y)), (2, .int (iI u)), (3, .int (iI w)), (4, .int (iI (↑i)))] → W p l e { frames := 2, cells := 0, slots := 0, locals := 62 } s m ([.int (iI x), .int (iI y)] : List Value).toArray below meth c H locs 0 0 Q (F0 m 14 ls []) := by
      intro fu
      induction fu with
      | zero => intro i u w hi huw hw1 hm; exact absurd hm (Nat.not_lt_zero _)
      | succ fu ih14 =>
        intro i u w hi huw hw1 hm H locs ls hP hD hS hl
        obtain ⟨iy, hiy⟩ : ∃ q : Int, q = (i : Int) * y := ⟨_, rfl⟩
        have hlw := lwZ_in x iy
        have hmy : 0 ≤ iy ∧ iy ≤ 1000 := by rcases (show y = 1 ∨ y = 2 ∨ y = 3 by omega) with q | q | q <;> subst q <;> omega
        have hst : i - 1 + 1 = i := by omega
        refine lv_iload hx hb dX11_look_14 (lv_at hl 4 rfl) ?_
        refine lv_bipush (v := iI 12) hx hb dX11_look_16 (by decide) ?_
        refine z_icmp_gt (tgt := 49) hx hb (by omega) dX11_look_18 (by decide) (fun c_2 => ?_) (fun c_2 => ?_)
        · skip
          refine lv_iload_n hx hb dX11_look_49 rfl (lv_at hl 2 rfl) ?_
          exact z_iret hQ hx hb hr hlocks hS ⟨Nat.le_of_ble_eq_true rfl, Nat.le_of_ble_eq_true rfl⟩ dX11_look_50 () (congrArg (fun z => some (Value.int (iI z))) (show (lookZ x y : Int) = u by unfold lookZ; rw [if_neg (by omega)]; rw [show i - 1 = 12 by omega] at huw; rw [← huw])) trivial hP hD
        · skip
          refine lv_iload_n hx hb dX11_look_21 rfl (lv_at hl 0 rfl) ?_
          refine lv_iload hx hb dX11_look_22 (lv_at hl 4 rfl) ?_
          refine lv_iload_n hx hb dX11_look_24 rfl (lv_at hl 1 rfl) ?_
          refine z_imul hx hb dX11_look_25 ?_
          refine W.eq (g2 := F0 m 26 ls [.int (iI iy), .int (iI x)]) (by rw [hiy]) ?_
          have hPm := zp_perm hP (zblk (show List.Perm ([] : List va_W) ([] ++ []) from List.Perm.refl _))
          have hDm := zd_perm hD (zblk (show List.Perm ([] : List va_W) ([] ++ []) from List.Perm.refl _))
          refine z_callS (wr := zb []) (As := [.int (iI x), .int (iI iy)]) (rest := []) ⟨hx, hb, hml, hown, hts⟩ (c_X11_leftAtWorst l X x iy (by omega) (by omega)) (va_cwS 2 hts gX11_look_X11_leftAtWorst rfl rfl rfl (by decide +kernel) ⟨Nat.le_of_ble_eq_true rfl, Nat.le_of_ble_eq_true rfl⟩) hl.1 dX11_look_26 rfl rfl (Nat.le_of_ble_eq_true rfl) ⟨Nat.le_of_ble_eq_true rfl, Nat.le_of_ble_eq_true rfl⟩ hS hA hK hPm hDm (fun _ H locs _ hP hD hS => ?_)
          have hP := zp_perm hP ((zblk (show List.Perm ([] : List va_W) ([] ++ []) from List.Perm.refl _))).symm
          have hD := zd_perm hD ((zblk (show List.Perm ([] : List va_W) ([] ++ []) from List.Perm.refl _))).symm
          have hP : va_P X.1 vwCl (zb []) H := hP
          have hD : va_D A (zb []) := hD
          refine W.eq (g2 := F0 m 29 ls [.int (iI (lwZ x iy))]) rfl ?_
          refine lv_istore (lv' := [(5, .int (iI (lwZ x iy))), (0, .int (iI x)), (1, .int (iI y)), (2, .int (iI u)), (3, .int (iI w)), (4, .int (iI (↑i)))]) hx hb dX11_look_29 hl (by decide) rfl (fun ls hl => ?_)
          refine lv_iload hx hb dX11_look_31 (lv_at hl 0 rfl) ?_
          refine lv_iload_n hx hb dX11_look_33 rfl (lv_at hl 4 rfl) ?_
          refine z_icmp_ge (tgt := 43) hx hb (by omega) dX11_look_34 (by decide) (fun c_3 => ?_) (fun c_3 => ?_)
          · skip
            refine z_iinc (k := 5) (lv' := [(4, .int (iI ((↑i) + 1))), (5, .int (iI (lwZ x iy))), (0, .int (iI x)), (1, .int (iI y)), (2, .int (iI u)), (3, .int (iI w))]) hx hb dX11_look_43 hl rfl (by decide) rfl (fun ls hl => ?_)
            refine lv_goto (tgt := 14) hx hb dX11_look_46 (by decide) ?_
            exact ih14  (i + 1) u w (by omega) (by have h1 : (lookL (fun h => lwZ x ((h : Int) * y)) (i - 1)).2 = w := (by rw [← huw]); rw [show i + 1 - 1 = (i - 1) + 1 by omega]; unfold lookL; (try dsimp only); rw [hst, ← hiy]; first | rw [if_pos (by omega)] | (rw [if_neg (by omega)]; exact huw)) (by omega) (by omega) _ _ _ hP hD hS (lv_sub hl [2, 3, 4, 5, 0] rfl)
          · skip
            refine lv_iload hx hb dX11_look_37 (lv_at hl 0 rfl) ?_
            refine lv_istore_n (lv' := [(3, .int (iI (lwZ x iy))), (5, .int (iI (lwZ x iy))), (0, .int (iI x)), (1, .int (iI y)), (2, .int (iI u)), (4, .int (iI (↑i)))]) hx hb dX11_look_39 rfl hl (by decide) rfl (fun ls hl => ?_)
            refine lv_iload hx hb dX11_look_40 (lv_at hl 5 rfl) ?_
            refine lv_istore_n (lv' := [(2, .int (iI (↑i))), (3, .int (iI (lwZ x iy))), (5, .int (iI (lwZ x iy))), (0, .int (iI x)), (1, .int (iI y)), (4, .int (iI (↑i)))]) hx hb dX11_look_42 rfl hl (by decide) rfl (fun ls hl => ?_)
            refine z_iinc (k := 5) (lv' := [(4, .int (iI ((↑i) + 1))), (2, .int (iI (↑i))), (3, .int (iI (lwZ x iy))), (5, .int (iI (lwZ x iy))), (0, .int (iI x)), (1, .int (iI y))]) hx hb dX11_look_43 hl rfl (by decide) rfl (fun ls hl => ?_)
            refine lv_goto (tgt := 14) hx hb dX11_look_46 (by decide) ?_
            exact ih14  (i + 1) (↑i) (lwZ x iy) (by omega) (by have h1 : (lookL (fun h => lwZ x ((h : Int) * y)) (i - 1)).2 = w := (by rw [← huw]); rw [show i + 1 - 1 = (i - 1) + 1 by omega]; unfold lookL; (try dsimp only); rw [hst, ← hiy]; first | rw [if_pos (by omega)] | (rw [if_neg (by omega)]; exact huw)) (by omega) (by omega) _ _ _ hP hD hS (lv_sub hl [4, 5, 1, 2, 0] rfl)
    exact L14 ((13 - 1) + 1) 1 (-1) 17 (by omega) (by rfl) (by omega) (by omega) _ _ _ hP hD hS (lv_sub hl [3, 4, 2, 1, 0] rfl)
  · skip
    refine lv_iconst (v := iI (-1)) hx hb dX11_look_4 (by decide) ?_
    exact z_iret hQ hx hb hr hlocks hS ⟨Nat.le_of_ble_eq_true rfl, Nat.le_of_ble_eq_true rfl⟩ dX11_look_5 () (congrArg (fun z => some (Value.int (iI z))) (show (lookZ x y : Int) = (-1) by unfold lookZ; rw [if_pos (by omega)])) trivial hP hD
set_option maxHeartbeats 1000000 in
set_option maxRecDepth 100000 in
theorem c_X11_pan (l : Launch) (X : zX) (ad : Nat → Nat) (st : Nat → Int) (ca : Nat → Option Nat) (aq : Nat → Nat → Nat) (n : Int) (pv : Nat → Nat → Int) (sn : Int) (s1 : Nat → Int) (s2 : Nat → Int) (s3 : Nat → Int) (z : Int) (x : Int) (hn : 0 ≤ n ∧ n ≤ 3) (hpv : PanS pv) (hsg : SigB sn s1 s2 s3) (hrz : -2147483648 ≤ z ∧ z < 2147483648) (hrx : -2147483648 ≤ x ∧ x < 2147483648) : zF l X yX11_pan wsX11_pan 4 110 [.ref (ad 0), .int (iI z), .int (iI x)] (zb [WX0 X ad st ca, Wshelf X (ad 3) (ad 4) (aq 0) n pv, Wsig X (ad 5) (ad 6) (ad 7) (ad 8) sn s1 s2 s3]) (some (.int (iI (panR n z x sn pv s1 s2 s3)))) (zb [WX0 X ad st ca, Wshelf X (ad 3) (ad 4) (aq 0) n pv, Wsig X (ad 5) (ad 6) (ad 7) (ad 8) sn s1 s2 s3]) := by
  refine z_enter (cc := cX11_pan) (maxL := 4) (ret := (some .int)) (by decide) rfl (Nat.le_of_ble_eq_true rfl) ?_
  intro p e s m below meth c A ls Q hQ hE hl hP hD
  obtain ⟨hx, hb, hr, hml, hown, hts, hlocks, hnm, hA, hK⟩ := hE
  have hown : s.vm.findClass RX11 = some m.cls := hown
  have hS : va_S A s.heap s.heap [] := va_S.rf
  have hl : lv_has ls 4 [(0, .ref (ad 0)), (1, .int (iI z)), (2, .int (iI x))] := hl
  have inX11 : ∀ w ∈ u_ws RX11 TX11 16, w ∈ wsX11_pan := by decide +kernel
  have inX4 : ∀ w ∈ u_ws RX4 TX4 6, w ∈ wsX11_pan := by decide +kernel
  rcases (show (0 ≤ z ∧ z < n) ∨ (z < 0 ∨ n ≤ z) by omega) with hz | hz
  · skip
    refine lv_aload_n hx hb dX11_pan_0 rfl (lv_at hl 0 rfl) ?_
    refine va_get (ci := 11) (v := .ref (ad 3)) (C := RX11) (T := TX11) (N := 16) hx hb hts inX11 hown hK.1 hP 0 rfl rfl 1 (by decide) (hts (.fieldLink RX11 19 "SkimmedSons" "shelf" "LSkimmedSons$Shelf;") (by decide +kernel)) (fun _ h9 => h9) rfl dX11_pan_1 ?_
    refine lv_iload_n hx hb dX11_pan_4 rfl (lv_at hl 1 rfl) ?_
    have hPm := zp_perm hP (zblk (show List.Perm ([WX0 X ad st ca, Wshelf X (ad 3) (ad 4) (aq 0) n pv, Wsig X (ad 5) (ad 6) (ad 7) (ad 8) sn s1 s2 s3] : List va_W) ([Wshelf X (ad 3) (ad 4) (aq 0) n pv] ++ [WX0 X ad st ca, Wsig X (ad 5) (ad 6) (ad 7) (ad 8) sn s1 s2 s3]) from (zf1 _ 1 _ rfl).trans ((List.Perm.refl _).cons _)))
    have hDm := zd_perm hD (zblk (show List.Perm ([WX0 X ad st ca, Wshelf X (ad 3) (ad 4) (aq 0) n pv, Wsig X (ad 5) (ad 6) (ad 7) (ad 8) sn s1 s2 s3] : List va_W) ([Wshelf X (ad 3) (ad 4) (aq 0) n pv] ++ [WX0 X ad st ca, Wsig X (ad 5) (ad 6) (ad 7) (ad 8) sn s1 s2 s3]) from (zf1 _ 1 _ rfl).trans ((List.Perm.refl _).cons _)))
    refine z_callV (wr := zb [WX0 X ad st ca, Wsig X (ad 5) (ad 6) (ad 7) (ad 8) sn s1 s2 s3]) (As := [.int (iI z)]) (rest := []) ⟨hx, hb, hml, hown, hts⟩ (c_X7_at_s l X (ad 3) (ad 4) (aq 0) n pv z (by omega) (by omega)) (cwV 1 hts gX11_pan_X7_at rfl rfl rfl (by decide +kernel) ⟨Nat.le_of_ble_eq_true rfl, Nat.le_of_ble_eq_true rfl⟩) rfl rfl hl.1 dX11_pan_5 rfl rfl (Nat.le_of_ble_eq_true rfl) ⟨Nat.le_of_ble_eq_true rfl, Nat.le_of_ble_eq_true rfl⟩ hS hA hK hPm hDm (fun _ H locs _ hP hD hS => ?_)
    have hP := zp_perm hP ((zblk (show List.Perm ([WX0 X ad st ca, Wshelf X (ad 3) (ad 4) (aq 0) n pv, Wsig X (ad 5) (ad 6) (ad 7) (ad 8) sn s1 s2 s3] : List va_W) ([Wshelf X (ad 3) (ad 4) (aq 0) n pv] ++ [WX0 X ad st ca, Wsig X (ad 5) (ad 6) (ad 7) (ad 8) sn s1 s2 s3]) from (zf1 _ 1 _ rfl).trans ((List.Perm.refl _).cons _)))).symm
    have hD := zd_perm hD ((zblk (show List.Perm ([WX0 X ad st ca, Wshelf X (ad 3) (ad 4) (aq 0) n pv, Wsig X (ad 5) (ad 6) (ad 7) (ad 8) sn s1 s2 s3] : List va_W) ([Wshelf X (ad 3) (ad 4) (aq 0) n pv] ++ [WX0 X ad st ca, Wsig X (ad 5) (ad 6) (ad 7) (ad 8) sn s1 s2 s3]) from (zf1 _ 1 _ rfl).trans ((List.Perm.refl _).cons _)))).symm
    have hP : va_P X.1 vwCl (zb [WX0 X ad st ca, Wshelf X (ad 3) (ad 4) (aq 0) n pv, Wsig X (ad 5) (ad 6) (ad 7) (ad 8) sn s1 s2 s3]) H := hP
    have hD : va_D A (zb [WX0 X ad st ca, Wshelf X (ad 3) (ad 4) (aq 0) n pv, Wsig X (ad 5) (ad 6) (ad 7) (ad 8) sn s1 s2 s3]) := hD
    refine W.eq (g2 := F0 m 8 ls [.ref ((aq 0) z.toNat)]) rfl ?_
    refine lv_astore_n (lv' := [(3, .ref ((aq 0) z.toNat)), (0, .ref (ad 0)), (1, .int (iI z)), (2, .int (iI x))]) hx hb dX11_pan_8 rfl hl (by decide) rfl (fun ls hl => ?_)
    refine lv_aload_n hx hb dX11_pan_9 rfl (lv_at hl 0 rfl) ?_
    refine lv_ifnonnull (tgt := 16) hx hb dX11_pan_10 (by decide) ?_
    refine lv_iload_n hx hb dX11_pan_16 rfl (lv_at hl 3 rfl) ?_
    rcases (show (x < 0 ∨ 8 < x) ∨ x = 0 ∨ x = 1 ∨ x = 2 ∨ x = 3 ∨ x = 4 ∨ x = 5 ∨ x = 6 ∨ x = 7 ∨ x = 8 by omega) with c_1 | c_1 | c_1 | c_1 | c_1 | c_1 | c_1 | c_1 | c_1 | c_1
    · skip
      refine z_tabOut (tgt := 116) hx hb (by omega) dX11_pan_17 c_1 (by decide) ?_
      refine lv_bipush (v := iI (-102)) hx hb dX11_pan_116 (by decide) ?_
      exact z_iret hQ hx hb hr hlocks hS ⟨Nat.le_of_ble_eq_true rfl, Nat.le_of_ble_eq_true rfl⟩ dX11_pan_118 () (congrArg (fun z => some (Value.int (iI z))) (show (panR n z x sn pv s1 s2 s3 : Int) = (-102) by unfold panR; (repeat (first | rw [if_pos (by omega)] | rw [if_neg (by omega)])))) trivial hP hD
    · skip
      refine z_tabIn (tgt := 68) (off := 51) hx hb (by omega) dX11_pan_17 c_1 (by decide) rfl (by decide) ?_
      refine lv_aload_n hx hb dX11_pan_68 rfl (lv_at hl 0 rfl) ?_
      refine lv_iload_n hx hb dX11_pan_69 rfl (lv_at hl 3 rfl) ?_
      have hpz := hpv z.toNat (by omega)
      have hP := zp_perm hP (show List.Perm (zb [WX0 X ad st ca, Wshelf X (ad 3) (ad 4) (aq 0) n pv, Wsig X (ad 5) (ad 6) (ad 7) (ad 8) sn s1 s2 s3]) (zb [WX0 X ad st ca, Wpan ((aq 0) z.toNat) (pv z.toNat), Wshx X (ad 3) (ad 4) (aq 0) n pv z.toNat, Wsig X (ad 5) (ad 6) (ad 7) (ad 8) sn s1 s2 s3]) from zrep (pre := [WX0 X ad st ca]) (post := [Wsig X (ad 5) (ad 6) (ad 7) (ad 8) sn s1 s2 s3]) (bs := [Wshelf X (ad 3) (ad 4) (aq 0) n pv]) (cs := [Wpan ((aq 0) z.toNat) (pv z.toNat), Wshx X (ad 3) (ad 4) (aq 0) n pv z.toNat]) (by rw [zb1]; exact shelf_foc (by omega)))
      have hD := zd_perm hD (show List.Perm (zb [WX0 X ad st ca, Wshelf X (ad 3) (ad 4) (aq 0) n pv, Wsig X (ad 5) (ad 6) (ad 7) (ad 8) sn s1 s2 s3]) (zb [WX0 X ad st ca, Wpan ((aq 0) z.toNat) (pv z.toNat), Wshx X (ad 3) (ad 4) (aq 0) n pv z.toNat, Wsig X (ad 5) (ad 6) (ad 7) (ad 8) sn s1 s2 s3]) from zrep (pre := [WX0 X ad st ca]) (post := [Wsig X (ad 5) (ad 6) (ad 7) (ad 8) sn s1 s2 s3]) (bs := [Wshelf X (ad 3) (ad 4) (aq 0) n pv]) (cs := [Wpan ((aq 0) z.toNat) (pv z.toNat), Wshx X (ad 3) (ad 4) (aq 0) n pv z.toNat]) (by rw [zb1]; exact shelf_foc (by omega)))
      have hPm := zp_perm hP (zblk (show List.Perm ([WX0 X ad st ca, Wpan ((aq 0) z.toNat) (pv z.toNat), Wshx X (ad 3) (ad 4) (aq 0) n pv z.toNat, Wsig X (ad 5) (ad 6) (ad 7) (ad 8) sn s1 s2 s3] : List va_W) ([Wpan ((aq 0) z.toNat) (pv z.toNat)] ++ [WX0 X ad st ca, Wshx X (ad 3) (ad 4) (aq 0) n pv z.toNat, Wsig X (ad 5) (ad 6) (ad 7) (ad 8) sn s1 s2 s3]) from (zf1 _ 1 _ rfl).trans ((List.Perm.refl _).cons _)))
      have hDm := zd_perm hD (zblk (show List.Perm ([WX0 X ad st ca, Wpan ((aq 0) z.toNat) (pv z.toNat), Wshx X (ad 3) (ad 4) (aq 0) n pv z.toNat, Wsig X (ad 5) (ad 6) (ad 7) (ad 8) sn s1 s2 s3] : List va_W) ([Wpan ((aq 0) z.toNat) (pv z.toNat)] ++ [WX0 X ad st ca, Wshx X (ad 3) (ad 4) (aq 0) n pv z.toNat, Wsig X (ad 5) (ad 6) (ad 7) (ad 8) sn s1 s2 s3]) from (zf1 _ 1 _ rfl).trans ((List.Perm.refl _).cons _)))
      refine z_callV (wr := zb [WX0 X ad st ca, Wshx X (ad 3) (ad 4) (aq 0) n pv z.toNat, Wsig X (ad 5) (ad 6) (ad 7) (ad 8) sn s1 s2 s3]) (As := [.int (iI x)]) (rest := []) ⟨hx, hb, hml, hown, hts⟩ (c_X4_much l X ((aq 0) z.toNat) (pv z.toNat) x (by exact ⟨by omega, by omega⟩)) (cwV 1 hts gX11_pan_X4_much rfl rfl rfl (by decide +kernel) ⟨Nat.le_of_ble_eq_true rfl, Nat.le_of_ble_eq_true rfl⟩) rfl rfl hl.1 dX11_pan_70 rfl rfl (Nat.le_of_ble_eq_true rfl) ⟨Nat.le_of_ble_eq_true rfl, Nat.le_of_ble_eq_true rfl⟩ hS hA hK hPm hDm (fun _ H locs _ hP hD hS => ?_)
      have hP := zp_perm hP ((zblk (show List.Perm ([WX0 X ad st ca, Wpan ((aq 0) z.toNat) (pv z.toNat), Wshx X (ad 3) (ad 4) (aq 0) n pv z.toNat, Wsig X (ad 5) (ad 6) (ad 7) (ad 8) sn s1 s2 s3] : List va_W) ([Wpan ((aq 0) z.toNat) (pv z.toNat)] ++ [WX0 X ad st ca, Wshx X (ad 3) (ad 4) (aq 0) n pv z.toNat, Wsig X (ad 5) (ad 6) (ad 7) (ad 8) sn s1 s2 s3]) from (zf1 _ 1 _ rfl).trans ((List.Perm.refl _).cons _)))).symm
      have hD := zd_perm hD ((zblk (show List.Perm ([WX0 X ad st ca, Wpan ((aq 0) z.toNat) (pv z.toNat), Wshx X (ad 3) (ad 4) (aq 0) n pv z.toNat, Wsig X (ad 5) (ad 6) (ad 7) (ad 8) sn s1 s2 s3] : List va_W) ([Wpan ((aq 0) z.toNat) (pv z.toNat)] ++ [WX0 X ad st ca, Wshx X (ad 3) (ad 4) (aq 0) n pv z.toNat, Wsig X (ad 5) (ad 6) (ad 7) (ad 8) sn s1 s2 s3]) from (zf1 _ 1 _ rfl).trans ((List.Perm.refl _).cons _)))).symm
      have hP : va_P X.1 vwCl (zb [WX0 X ad st ca, Wpan ((aq 0) z.toNat) (pv z.toNat), Wshx X (ad 3) (ad 4) (aq 0) n pv z.toNat, Wsig X (ad 5) (ad 6) (ad 7) (ad 8) sn s1 s2 s3]) H := hP
      have hD : va_D A (zb [WX0 X ad st ca, Wpan ((aq 0) z.toNat) (pv z.toNat), Wshx X (ad 3) (ad 4) (aq 0) n pv z.toNat, Wsig X (ad 5) (ad 6) (ad 7) (ad 8) sn s1 s2 s3]) := hD
      refine W.eq (g2 := F0 m 73 ls [.int (iI (muchP (pv z.toNat) x))]) rfl ?_
      have hP := zp_perm hP (show List.Perm (zb [WX0 X ad st ca, Wpan ((aq 0) z.toNat) (pv z.toNat), Wshx X (ad 3) (ad 4) (aq 0) n pv z.toNat, Wsig X (ad 5) (ad 6) (ad 7) (ad 8) sn s1 s2 s3]) (zb [WX0 X ad st ca, Wshelf X (ad 3) (ad 4) (aq 0) n (va_up pv z.toNat (pv z.toNat)), Wsig X (ad 5) (ad 6) (ad 7) (ad 8) sn s1 s2 s3]) from zrep (pre := [WX0 X ad st ca]) (post := [Wsig X (ad 5) (ad 6) (ad 7) (ad 8) sn s1 s2 s3]) (bs := [Wpan ((aq 0) z.toNat) (pv z.toNat), Wshx X (ad 3) (ad 4) (aq 0) n pv z.toNat]) (cs := [Wshelf X (ad 3) (ad 4) (aq 0) n (va_up pv z.toNat (pv z.toNat))]) (by rw [zb1]; exact shelf_unf (by omega) _))
      have hD := zd_perm hD (show List.Perm (zb [WX0 X ad st ca, Wpan ((aq 0) z.toNat) (pv z.toNat), Wshx X (ad 3) (ad 4) (aq 0) n pv z.toNat, Wsig X (ad 5) (ad 6) (ad 7) (ad 8) sn s1 s2 s3]) (zb [WX0 X ad st ca, Wshelf X (ad 3) (ad 4) (aq 0) n (va_up pv z.toNat (pv z.toNat)), Wsig X (ad 5) (ad 6) (ad 7) (ad 8) sn s1 s2 s3]) from zrep (pre := [WX0 X ad st ca]) (post := [Wsig X (ad 5) (ad 6) (ad 7) (ad 8) sn s1 s2 s3]) (bs := [Wpan ((aq 0) z.toNat) (pv z.toNat), Wshx X (ad 3) (ad 4) (aq 0) n pv z.toNat]) (cs := [Wshelf X (ad 3) (ad 4) (aq 0) n (va_up pv z.toNat (pv z.toNat))]) (by rw [zb1]; exact shelf_unf (by omega) _))
      rw [va_upId] at hP hD
      exact z_iret hQ hx hb hr hlocks hS ⟨Nat.le_of_ble_eq_true rfl, Nat.le_of_ble_eq_true rfl⟩ dX11_pan_73 () (congrArg (fun z => some (Value.int (iI z))) (show (panR n z x sn pv s1 s2 s3 : Int) = muchP (pv z.toNat) x by unfold panR; (repeat (first | rw [if_pos (by omega)] | rw [if_neg (by omega)])))) trivial hP hD
    · skip
      refine z_tabIn (tgt := 68) (off := 51) hx hb (by omega) dX11_pan_17 c_1 (by decide) rfl (by decide) ?_
      refine lv_aload_n hx hb dX11_pan_68 rfl (lv_at hl 0 rfl) ?_
      refine lv_iload_n hx hb dX11_pan_69 rfl (lv_at hl 3 rfl) ?_
      have hpz := hpv z.toNat (by omega)
      have hP := zp_perm hP (show List.Perm (zb [WX0 X ad st ca, Wshelf X (ad 3) (ad 4) (aq 0) n pv, Wsig X (ad 5) (ad 6) (ad 7) (ad 8) sn s1 s2 s3]) (zb [WX0 X ad st ca, Wpan ((aq 0) z.toNat) (pv z.toNat), Wshx X (ad 3) (ad 4) (aq 0) n pv z.toNat, Wsig X (ad 5) (ad 6) (ad 7) (ad 8) sn s1 s2 s3]) from zrep (pre := [WX0 X ad st ca]) (post := [Wsig X (ad 5) (ad 6) (ad 7) (ad 8) sn s1 s2 s3]) (bs := [Wshelf X (ad 3) (ad 4) (aq 0) n pv]) (cs := [Wpan ((aq 0) z.toNat) (pv z.toNat), Wshx X (ad 3) (ad 4) (aq 0) n pv z.toNat]) (by rw [zb1]; exact shelf_foc (by omega)))
      have hD := zd_perm hD (show List.Perm (zb [WX0 X ad st ca, Wshelf X (ad 3) (ad 4) (aq 0) n pv, Wsig X (ad 5) (ad 6) (ad 7) (ad 8) sn s1 s2 s3]) (zb [WX0 X ad st ca, Wpan ((aq 0) z.toNat) (pv z.toNat), Wshx X (ad 3) (ad 4) (aq 0) n pv z.toNat, Wsig X (ad 5) (ad 6) (ad 7) (ad 8) sn s1 s2 s3]) from zrep (pre := [WX0 X ad st ca]) (post := [Wsig X (ad 5) (ad 6) (ad 7) (ad 8) sn s1 s2 s3]) (bs := [Wshelf X (ad 3) (ad 4) (aq 0) n pv]) (cs := [Wpan ((aq 0) z.toNat) (pv z.toNat), Wshx X (ad 3) (ad 4) (aq 0) n pv z.toNat]) (by rw [zb1]; exact shelf_foc (by omega)))
      have hPm := zp_perm hP (zblk (show List.Perm ([WX0 X ad st ca, Wpan ((aq 0) z.toNat) (pv z.toNat), Wshx X (ad 3) (ad 4) (aq 0) n pv z.toNat, Wsig X (ad 5) (ad 6) (ad 7) (ad 8) sn s1 s2 s3] : List va_W) ([Wpan ((aq 0) z.toNat) (pv z.toNat)] ++ [WX0 X ad st ca, Wshx X (ad 3) (ad 4) (aq 0) n pv z.toNat, Wsig X (ad 5) (ad 6) (ad 7) (ad 8) sn s1 s2 s3]) from (zf1 _ 1 _ rfl).trans ((List.Perm.refl _).cons _)))
      have hDm := zd_perm hD (zblk (show List.Perm ([WX0 X ad st ca, Wpan ((aq 0) z.toNat) (pv z.toNat), Wshx X (ad 3) (ad 4) (aq 0) n pv z.toNat, Wsig X (ad 5) (ad 6) (ad 7) (ad 8) sn s1 s2 s3] : List va_W) ([Wpan ((aq 0) z.toNat) (pv z.toNat)] ++ [WX0 X ad st ca, Wshx X (ad 3) (ad 4) (aq 0) n pv z.toNat, Wsig X (ad 5) (ad 6) (ad 7) (ad 8) sn s1 s2 s3]) from (zf1 _ 1 _ rfl).trans ((List.Perm.refl _).cons _)))
      refine z_callV (wr := zb [WX0 X ad st ca, Wshx X (ad 3) (ad 4) (aq 0) n pv z.toNat, Wsig X (ad 5) (ad 6) (ad 7) (ad 8) sn s1 s2 s3]) (As := [.int (iI x)]) (rest := []) ⟨hx, hb, hml, hown, hts⟩ (c_X4_much l X ((aq 0) z.toNat) (pv z.toNat) x (by exact ⟨by omega, by omega⟩)) (cwV 1 hts gX11_pan_X4_much rfl rfl rfl (by decide +kernel) ⟨Nat.le_of_ble_eq_true rfl, Nat.le_of_ble_eq_true rfl⟩) rfl rfl hl.1 dX11_pan_70 rfl rfl (Nat.le_of_ble_eq_true rfl) ⟨Nat.le_of_ble_eq_true rfl, Nat.le_of_ble_eq_true rfl⟩ hS hA hK hPm hDm (fun _ H locs _ hP hD hS => ?_)
      have hP := zp_perm hP ((zblk (show List.Perm ([WX0 X ad st ca, Wpan ((aq 0) z.toNat) (pv z.toNat), Wshx X (ad 3) (ad 4) (aq 0) n pv z.toNat, Wsig X (ad 5) (ad 6) (ad 7) (ad 8) sn s1 s2 s3] : List va_W) ([Wpan ((aq 0) z.toNat) (pv z.toNat)] ++ [WX0 X ad st ca, Wshx X (ad 3) (ad 4) (aq 0) n pv z.toNat, Wsig X (ad 5) (ad 6) (ad 7) (ad 8) sn s1 s2 s3]) from (zf1 _ 1 _ rfl).trans ((List.Perm.refl _).cons _)))).symm
      have hD := zd_perm hD ((zblk (show List.Perm ([WX0 X ad st ca, Wpan ((aq 0) z.toNat) (pv z.toNat), Wshx X (ad 3) (ad 4) (aq 0) n pv z.toNat, Wsig X (ad 5) (ad 6) (ad 7) (ad 8) sn s1 s2 s3] : List va_W) ([Wpan ((aq 0) z.toNat) (pv z.toNat)] ++ [WX0 X ad st ca, Wshx X (ad 3) (ad 4) (aq 0) n pv z.toNat, Wsig X (ad 5) (ad 6) (ad 7) (ad 8) sn s1 s2 s3]) from (zf1 _ 1 _ rfl).trans ((List.Perm.refl _).cons _)))).symm
      have hP : va_P X.1 vwCl (zb [WX0 X ad st ca, Wpan ((aq 0) z.toNat) (pv z.toNat), Wshx X (ad 3) (ad 4) (aq 0) n pv z.toNat, Wsig X (ad 5) (ad 6) (ad 7) (ad 8) sn s1 s2 s3]) H := hP
      have hD : va_D A (zb [WX0 X ad st ca, Wpan ((aq 0) z.toNat) (pv z.toNat), Wshx X (ad 3) (ad 4) (aq 0) n pv z.toNat, Wsig X (ad 5) (ad 6) (ad 7) (ad 8) sn s1 s2 s3]) := hD
      refine W.eq (g2 := F0 m 73 ls [.int (iI (muchP (pv z.toNat) x))]) rfl ?_
      have hP := zp_perm hP (show List.Perm (zb [WX0 X ad st ca, Wpan ((aq 0) z.toNat) (pv z.toNat), Wshx X (ad 3) (ad 4) (aq 0) n pv z.toNat, Wsig X (ad 5) (ad 6) (ad 7) (ad 8) sn s1 s2 s3]) (zb [WX0 X ad st ca, Wshelf X (ad 3) (ad 4) (aq 0) n (va_up pv z.toNat (pv z.toNat)), Wsig X (ad 5) (ad 6) (ad 7) (ad 8) sn s1 s2 s3]) from zrep (pre := [WX0 X ad st ca]) (post := [Wsig X (ad 5) (ad 6) (ad 7) (ad 8) sn s1 s2 s3]) (bs := [Wpan ((aq 0) z.toNat) (pv z.toNat), Wshx X (ad 3) (ad 4) (aq 0) n pv z.toNat]) (cs := [Wshelf X (ad 3) (ad 4) (aq 0) n (va_up pv z.toNat (pv z.toNat))]) (by rw [zb1]; exact shelf_unf (by omega) _))
      have hD := zd_perm hD (show List.Perm (zb [WX0 X ad st ca, Wpan ((aq 0) z.toNat) (pv z.toNat), Wshx X (ad 3) (ad 4) (aq 0) n pv z.toNat, Wsig X (ad 5) (ad 6) (ad 7) (ad 8) sn s1 s2 s3]) (zb [WX0 X ad st ca, Wshelf X (ad 3) (ad 4) (aq 0) n (va_up pv z.toNat (pv z.toNat)), Wsig X (ad 5) (ad 6) (ad 7) (ad 8) sn s1 s2 s3]) from zrep (pre := [WX0 X ad st ca]) (post := [Wsig X (ad 5) (ad 6) (ad 7) (ad 8) sn s1 s2 s3]) (bs := [Wpan ((aq 0) z.toNat) (pv z.toNat), Wshx X (ad 3) (ad 4) (aq 0) n pv z.toNat]) (cs := [Wshelf X (ad 3) (ad 4) (aq 0) n (va_up pv z.toNat (pv z.toNat))]) (by rw [zb1]; exact shelf_unf (by omega) _))
      rw [va_upId] at hP hD
      exact z_iret hQ hx hb hr hlocks hS ⟨Nat.le_of_ble_eq_true rfl, Nat.le_of_ble_eq_true rfl⟩ dX11_pan_73 () (congrArg (fun z => some (Value.int (iI z))) (show (panR n z x sn pv s1 s2 s3 : Int) = muchP (pv z.toNat) x by unfold panR; (repeat (first | rw [if_pos (by omega)] | rw [if_neg (by omega)])))) trivial hP hD
    · skip
      refine z_tabIn (tgt := 68) (off := 51) hx hb (by omega) dX11_pan_17 c_1 (by decide) rfl (by decide) ?_
      refine lv_aload_n hx hb dX11_pan_68 rfl (lv_at hl 0 rfl) ?_
      refine lv_iload_n hx hb dX11_pan_69 rfl (lv_at hl 3 rfl) ?_
      have hpz := hpv z.toNat (by omega)
      have hP := zp_perm hP (show List.Perm (zb [WX0 X ad st ca, Wshelf X (ad 3) (ad 4) (aq 0) n pv, Wsig X (ad 5) (ad 6) (ad 7) (ad 8) sn s1 s2 s3]) (zb [WX0 X ad st ca, Wpan ((aq 0) z.toNat) (pv z.toNat), Wshx X (ad 3) (ad 4) (aq 0) n pv z.toNat, Wsig X (ad 5) (ad 6) (ad 7) (ad 8) sn s1 s2 s3]) from zrep (pre := [WX0 X ad st ca]) (post := [Wsig X (ad 5) (ad 6) (ad 7) (ad 8) sn s1 s2 s3]) (bs := [Wshelf X (ad 3) (ad 4) (aq 0) n pv]) (cs := [Wpan ((aq 0) z.toNat) (pv z.toNat), Wshx X (ad 3) (ad 4) (aq 0) n pv z.toNat]) (by rw [zb1]; exact shelf_foc (by omega)))
      have hD := zd_perm hD (show List.Perm (zb [WX0 X ad st ca, Wshelf X (ad 3) (ad 4) (aq 0) n pv, Wsig X (ad 5) (ad 6) (ad 7) (ad 8) sn s1 s2 s3]) (zb [WX0 X ad st ca, Wpan ((aq 0) z.toNat) (pv z.toNat), Wshx X (ad 3) (ad 4) (aq 0) n pv z.toNat, Wsig X (ad 5) (ad 6) (ad 7) (ad 8) sn s1 s2 s3]) from zrep (pre := [WX0 X ad st ca]) (post := [Wsig X (ad 5) (ad 6) (ad 7) (ad 8) sn s1 s2 s3]) (bs := [Wshelf X (ad 3) (ad 4) (aq 0) n pv]) (cs := [Wpan ((aq 0) z.toNat) (pv z.toNat), Wshx X (ad 3) (ad 4) (aq 0) n pv z.toNat]) (by rw [zb1]; exact shelf_foc (by omega)))
      have hPm := zp_perm hP (zblk (show List.Perm ([WX0 X ad st ca, Wpan ((aq 0) z.toNat) (pv z.toNat), Wshx X (ad 3) (ad 4) (aq 0) n pv z.toNat, Wsig X (ad 5) (ad 6) (ad 7) (ad 8) sn s1 s2 s3] : List va_W) ([Wpan ((aq 0) z.toNat) (pv z.toNat)] ++ [WX0 X ad st ca, Wshx X (ad 3) (ad 4) (aq 0) n pv z.toNat, Wsig X (ad 5) (ad 6) (ad 7) (ad 8) sn s1 s2 s3]) from (zf1 _ 1 _ rfl).trans ((List.Perm.refl _).cons _)))
      have hDm := zd_perm hD (zblk (show List.Perm ([WX0 X ad st ca, Wpan ((aq 0) z.toNat) (pv z.toNat), Wshx X (ad 3) (ad 4) (aq 0) n pv z.toNat, Wsig X (ad 5) (ad 6) (ad 7) (ad 8) sn s1 s2 s3] : List va_W) ([Wpan ((aq 0) z.toNat) (pv z.toNat)] ++ [WX0 X ad st ca, Wshx X (ad 3) (ad 4) (aq 0) n pv z.toNat, Wsig X (ad 5) (ad 6) (ad 7) (ad 8) sn s1 s2 s3]) from (zf1 _ 1 _ rfl).trans ((List.Perm.refl _).cons _)))
      refine z_callV (wr := zb [WX0 X ad st ca, Wshx X (ad 3) (ad 4) (aq 0) n pv z.toNat, Wsig X (ad 5) (ad 6) (ad 7) (ad 8) sn s1 s2 s3]) (As := [.int (iI x)]) (rest := []) ⟨hx, hb, hml, hown, hts⟩ (c_X4_much l X ((aq 0) z.toNat) (pv z.toNat) x (by exact ⟨by omega, by omega⟩)) (cwV 1 hts gX11_pan_X4_much rfl rfl rfl (by decide +kernel) ⟨Nat.le_of_ble_eq_true rfl, Nat.le_of_ble_eq_true rfl⟩) rfl rfl hl.1 dX11_pan_70 rfl rfl (Nat.le_of_ble_eq_true rfl) ⟨Nat.le_of_ble_eq_true rfl, Nat.le_of_ble_eq_true rfl⟩ hS hA hK hPm hDm (fun _ H locs _ hP hD hS => ?_)
      have hP := zp_perm hP ((zblk (show List.Perm ([WX0 X ad st ca, Wpan ((aq 0) z.toNat) (pv z.toNat), Wshx X (ad 3) (ad 4) (aq 0) n pv z.toNat, Wsig X (ad 5) (ad 6) (ad 7) (ad 8) sn s1 s2 s3] : List va_W) ([Wpan ((aq 0) z.toNat) (pv z.toNat)] ++ [WX0 X ad st ca, Wshx X (ad 3) (ad 4) (aq 0) n pv z.toNat, Wsig X (ad 5) (ad 6) (ad 7) (ad 8) sn s1 s2 s3]) from (zf1 _ 1 _ rfl).trans ((List.Perm.refl _).cons _)))).symm
      have hD := zd_perm hD ((zblk (show List.Perm ([WX0 X ad st ca, Wpan ((aq 0) z.toNat) (pv z.toNat), Wshx X (ad 3) (ad 4) (aq 0) n pv z.toNat, Wsig X (ad 5) (ad 6) (ad 7) (ad 8) sn s1 s2 s3] : List va_W) ([Wpan ((aq 0) z.toNat) (pv z.toNat)] ++ [WX0 X ad st ca, Wshx X (ad 3) (ad 4) (aq 0) n pv z.toNat, Wsig X (ad 5) (ad 6) (ad 7) (ad 8) sn s1 s2 s3]) from (zf1 _ 1 _ rfl).trans ((List.Perm.refl _).cons _)))).symm
      have hP : va_P X.1 vwCl (zb [WX0 X ad st ca, Wpan ((aq 0) z.toNat) (pv z.toNat), Wshx X (ad 3) (ad 4) (aq 0) n pv z.toNat, Wsig X (ad 5) (ad 6) (ad 7) (ad 8) sn s1 s2 s3]) H := hP
      have hD : va_D A (zb [WX0 X ad st ca, Wpan ((aq 0) z.toNat) (pv z.toNat), Wshx X (ad 3) (ad 4) (aq 0) n pv z.toNat, Wsig X (ad 5) (ad 6) (ad 7) (ad 8) sn s1 s2 s3]) := hD
      refine W.eq (g2 := F0 m 73 ls [.int (iI (muchP (pv z.toNat) x))]) rfl ?_
      have hP := zp_perm hP (show List.Perm (zb [WX0 X ad st ca, Wpan ((aq 0) z.toNat) (pv z.toNat), Wshx X (ad 3) (ad 4) (aq 0) n pv z.toNat, Wsig X (ad 5) (ad 6) (ad 7) (ad 8) sn s1 s2 s3]) (zb [WX0 X ad st ca, Wshelf X (ad 3) (ad 4) (aq 0) n (va_up pv z.toNat (pv z.toNat)), Wsig X (ad 5) (ad 6) (ad 7) (ad 8) sn s1 s2 s3]) from zrep (pre := [WX0 X ad st ca]) (post := [Wsig X (ad 5) (ad 6) (ad 7) (ad 8) sn s1 s2 s3]) (bs := [Wpan ((aq 0) z.toNat) (pv z.toNat), Wshx X (ad 3) (ad 4) (aq 0) n pv z.toNat]) (cs := [Wshelf X (ad 3) (ad 4) (aq 0) n (va_up pv z.toNat (pv z.toNat))]) (by rw [zb1]; exact shelf_unf (by omega) _))
      have hD := zd_perm hD (show List.Perm (zb [WX0 X ad st ca, Wpan ((aq 0) z.toNat) (pv z.toNat), Wshx X (ad 3) (ad 4) (aq 0) n pv z.toNat, Wsig X (ad 5) (ad 6) (ad 7) (ad 8) sn s1 s2 s3]) (zb [WX0 X ad st ca, Wshelf X (ad 3) (ad 4) (aq 0) n (va_up pv z.toNat (pv z.toNat)), Wsig X (ad 5) (ad 6) (ad 7) (ad 8) sn s1 s2 s3]) from zrep (pre := [WX0 X ad st ca]) (post := [Wsig X (ad 5) (ad 6) (ad 7) (ad 8) sn s1 s2 s3]) (bs := [Wpan ((aq 0) z.toNat) (pv z.toNat), Wshx X (ad 3) (ad 4) (aq 0) n pv z.toNat]) (cs := [Wshelf X (ad 3) (ad 4) (aq 0) n (va_up pv z.toNat (pv z.toNat))]) (by rw [zb1]; exact shelf_unf (by omega) _))
      rw [va_upId] at hP hD
      exact z_iret hQ hx hb hr hlocks hS ⟨Nat.le_of_ble_eq_true rfl, Nat.le_of_ble_eq_true rfl⟩ dX11_pan_73 () (congrArg (fun z => some (Value.int (iI z))) (show (panR n z x sn pv s1 s2 s3 : Int) = muchP (pv z.toNat) x by unfold panR; (repeat (first | rw [if_pos (by omega)] | rw [if_neg (by omega)])))) trivial hP hD
    · skip
      refine z_tabIn (tgt := 68) (off := 51) hx hb (by omega) dX11_pan_17 c_1 (by decide) rfl (by decide) ?_
      refine lv_aload_n hx hb dX11_pan_68 rfl (lv_at hl 0 rfl) ?_
      refine lv_iload_n hx hb dX11_pan_69 rfl (lv_at hl 3 rfl) ?_
      have hpz := hpv z.toNat (by omega)
      have hP := zp_perm hP (show List.Perm (zb [WX0 X ad st ca, Wshelf X (ad 3) (ad 4) (aq 0) n pv, Wsig X (ad 5) (ad 6) (ad 7) (ad 8) sn s1 s2 s3]) (zb [WX0 X ad st ca, Wpan ((aq 0) z.toNat) (pv z.toNat), Wshx X (ad 3) (ad 4) (aq 0) n pv z.toNat, Wsig X (ad 5) (ad 6) (ad 7) (ad 8) sn s1 s2 s3]) from zrep (pre := [WX0 X ad st ca]) (post := [Wsig X (ad 5) (ad 6) (ad 7) (ad 8) sn s1 s2 s3]) (bs := [Wshelf X (ad 3) (ad 4) (aq 0) n pv]) (cs := [Wpan ((aq 0) z.toNat) (pv z.toNat), Wshx X (ad 3) (ad 4) (aq 0) n pv z.toNat]) (by rw [zb1]; exact shelf_foc (by omega)))
      have hD := zd_perm hD (show List.Perm (zb [WX0 X ad st ca, Wshelf X (ad 3) (ad 4) (aq 0) n pv, Wsig X (ad 5) (ad 6) (ad 7) (ad 8) sn s1 s2 s3]) (zb [WX0 X ad st ca, Wpan ((aq 0) z.toNat) (pv z.toNat), Wshx X (ad 3) (ad 4) (aq 0) n pv z.toNat, Wsig X (ad 5) (ad 6) (ad 7) (ad 8) sn s1 s2 s3]) from zrep (pre := [WX0 X ad st ca]) (post := [Wsig X (ad 5) (ad 6) (ad 7) (ad 8) sn s1 s2 s3]) (bs := [Wshelf X (ad 3) (ad 4) (aq 0) n pv]) (cs := [Wpan ((aq 0) z.toNat) (pv z.toNat), Wshx X (ad 3) (ad 4) (aq 0) n pv z.toNat]) (by rw [zb1]; exact shelf_foc (by omega)))
      have hPm := zp_perm hP (zblk (show List.Perm ([WX0 X ad st ca, Wpan ((aq 0) z.toNat) (pv z.toNat), Wshx X (ad 3) (ad 4) (aq 0) n pv z.toNat, Wsig X (ad 5) (ad 6) (ad 7) (ad 8) sn s1 s2 s3] : List va_W) ([Wpan ((aq 0) z.toNat) (pv z.toNat)] ++ [WX0 X ad st ca, Wshx X (ad 3) (ad 4) (aq 0) n pv z.toNat, Wsig X (ad 5) (ad 6) (ad 7) (ad 8) sn s1 s2 s3]) from (zf1 _ 1 _ rfl).trans ((List.Perm.refl _).cons _)))
      have hDm := zd_perm hD (zblk (show List.Perm ([WX0 X ad st ca, Wpan ((aq 0) z.toNat) (pv z.toNat), Wshx X (ad 3) (ad 4) (aq 0) n pv z.toNat, Wsig X (ad 5) (ad 6) (ad 7) (ad 8) sn s1 s2 s3] : List va_W) ([Wpan ((aq 0) z.toNat) (pv z.toNat)] ++ [WX0 X ad st ca, Wshx X (ad 3) (ad 4) (aq 0) n pv z.toNat, Wsig X (ad 5) (ad 6) (ad 7) (ad 8) sn s1 s2 s3]) from (zf1 _ 1 _ rfl).trans ((List.Perm.refl _).cons _)))
      refine z_callV (wr := zb [WX0 X ad st ca, Wshx X (ad 3) (ad 4) (aq 0) n pv z.toNat, Wsig X (ad 5) (ad 6) (ad 7) (ad 8) sn s1 s2 s3]) (As := [.int (iI x)]) (rest := []) ⟨hx, hb, hml, hown, hts⟩ (c_X4_much l X ((aq 0) z.toNat) (pv z.toNat) x (by exact ⟨by omega, by omega⟩)) (cwV 1 hts gX11_pan_X4_much rfl rfl rfl (by decide +kernel) ⟨Nat.le_of_ble_eq_true rfl, Nat.le_of_ble_eq_true rfl⟩) rfl rfl hl.1 dX11_pan_70 rfl rfl (Nat.le_of_ble_eq_true rfl) ⟨Nat.le_of_ble_eq_true rfl, Nat.le_of_ble_eq_true rfl⟩ hS hA hK hPm hDm (fun _ H locs _ hP hD hS => ?_)
      have hP := zp_perm hP ((zblk (show List.Perm ([WX0 X ad st ca, Wpan ((aq 0) z.toNat) (pv z.toNat), Wshx X (ad 3) (ad 4) (aq 0) n pv z.toNat, Wsig X (ad 5) (ad 6) (ad 7) (ad 8) sn s1 s2 s3] : List va_W) ([Wpan ((aq 0) z.toNat) (pv z.toNat)] ++ [WX0 X ad st ca, Wshx X (ad 3) (ad 4) (aq 0) n pv z.toNat, Wsig X (ad 5) (ad 6) (ad 7) (ad 8) sn s1 s2 s3]) from (zf1 _ 1 _ rfl).trans ((List.Perm.refl _).cons _)))).symm
      have hD := zd_perm hD ((zblk (show List.Perm ([WX0 X ad st ca, Wpan ((aq 0) z.toNat) (pv z.toNat), Wshx X (ad 3) (ad 4) (aq 0) n pv z.toNat, Wsig X (ad 5) (ad 6) (ad 7) (ad 8) sn s1 s2 s3] : List va_W) ([Wpan ((aq 0) z.toNat) (pv z.toNat)] ++ [WX0 X ad st ca, Wshx X (ad 3) (ad 4) (aq 0) n pv z.toNat, Wsig X (ad 5) (ad 6) (ad 7) (ad 8) sn s1 s2 s3]) from (zf1 _ 1 _ rfl).trans ((List.Perm.refl _).cons _)))).symm
      have hP : va_P X.1 vwCl (zb [WX0 X ad st ca, Wpan ((aq 0) z.toNat) (pv z.toNat), Wshx X (ad 3) (ad 4) (aq 0) n pv z.toNat, Wsig X (ad 5) (ad 6) (ad 7) (ad 8) sn s1 s2 s3]) H := hP
      have hD : va_D A (zb [WX0 X ad st ca, Wpan ((aq 0) z.toNat) (pv z.toNat), Wshx X (ad 3) (ad 4) (aq 0) n pv z.toNat, Wsig X (ad 5) (ad 6) (ad 7) (ad 8) sn s1 s2 s3]) := hD
      refine W.eq (g2 := F0 m 73 ls [.int (iI (muchP (pv z.toNat) x))]) rfl ?_
      have hP := zp_perm hP (show List.Perm (zb [WX0 X ad st ca, Wpan ((aq 0) z.toNat) (pv z.toNat), Wshx X (ad 3) (ad 4) (aq 0) n pv z.toNat, Wsig X (ad 5) (ad 6) (ad 7) (ad 8) sn s1 s2 s3]) (zb [WX0 X ad st ca, Wshelf X (ad 3) (ad 4) (aq 0) n (va_up pv z.toNat (pv z.toNat)), Wsig X (ad 5) (ad 6) (ad 7) (ad 8) sn s1 s2 s3]) from zrep (pre := [WX0 X ad st ca]) (post := [Wsig X (ad 5) (ad 6) (ad 7) (ad 8) sn s1 s2 s3]) (bs := [Wpan ((aq 0) z.toNat) (pv z.toNat), Wshx X (ad 3) (ad 4) (aq 0) n pv z.toNat]) (cs := [Wshelf X (ad 3) (ad 4) (aq 0) n (va_up pv z.toNat (pv z.toNat))]) (by rw [zb1]; exact shelf_unf (by omega) _))
      have hD := zd_perm hD (show List.Perm (zb [WX0 X ad st ca, Wpan ((aq 0) z.toNat) (pv z.toNat), Wshx X (ad 3) (ad 4) (aq 0) n pv z.toNat, Wsig X (ad 5) (ad 6) (ad 7) (ad 8) sn s1 s2 s3]) (zb [WX0 X ad st ca, Wshelf X (ad 3) (ad 4) (aq 0) n (va_up pv z.toNat (pv z.toNat)), Wsig X (ad 5) (ad 6) (ad 7) (ad 8) sn s1 s2 s3]) from zrep (pre := [WX0 X ad st ca]) (post := [Wsig X (ad 5) (ad 6) (ad 7) (ad 8) sn s1 s2 s3]) (bs := [Wpan ((aq 0) z.toNat) (pv z.toNat), Wshx X (ad 3) (ad 4) (aq 0) n pv z.toNat]) (cs := [Wshelf X (ad 3) (ad 4) (aq 0) n (va_up pv z.toNat (pv z.toNat))]) (by rw [zb1]; exact shelf_unf (by omega) _))
      rw [va_upId] at hP hD
      exact z_iret hQ hx hb hr hlocks hS ⟨Nat.le_of_ble_eq_true rfl, Nat.le_of_ble_eq_true rfl⟩ dX11_pan_73 () (congrArg (fun z => some (Value.int (iI z))) (show (panR n z x sn pv s1 s2 s3 : Int) = muchP (pv z.toNat) x by unfold panR; (repeat (first | rw [if_pos (by omega)] | rw [if_neg (by omega)])))) trivial hP hD
    · skip
      refine z_tabIn (tgt := 74) (off := 57) hx hb (by omega) dX11_pan_17 c_1 (by decide) rfl (by decide) ?_
      refine lv_aload_n hx hb dX11_pan_74 rfl (lv_at hl 0 rfl) ?_
      have hpz := hpv z.toNat (by omega)
      have hP := zp_perm hP (show List.Perm (zb [WX0 X ad st ca, Wshelf X (ad 3) (ad 4) (aq 0) n pv, Wsig X (ad 5) (ad 6) (ad 7) (ad 8) sn s1 s2 s3]) (zb [WX0 X ad st ca, Wpan ((aq 0) z.toNat) (pv z.toNat), Wshx X (ad 3) (ad 4) (aq 0) n pv z.toNat, Wsig X (ad 5) (ad 6) (ad 7) (ad 8) sn s1 s2 s3]) from zrep (pre := [WX0 X ad st ca]) (post := [Wsig X (ad 5) (ad 6) (ad 7) (ad 8) sn s1 s2 s3]) (bs := [Wshelf X (ad 3) (ad 4) (aq 0) n pv]) (cs := [Wpan ((aq 0) z.toNat) (pv z.toNat), Wshx X (ad 3) (ad 4) (aq 0) n pv z.toNat]) (by rw [zb1]; exact shelf_foc (by omega)))
      have hD := zd_perm hD (show List.Perm (zb [WX0 X ad st ca, Wshelf X (ad 3) (ad 4) (aq 0) n pv, Wsig X (ad 5) (ad 6) (ad 7) (ad 8) sn s1 s2 s3]) (zb [WX0 X ad st ca, Wpan ((aq 0) z.toNat) (pv z.toNat), Wshx X (ad 3) (ad 4) (aq 0) n pv z.toNat, Wsig X (ad 5) (ad 6) (ad 7) (ad 8) sn s1 s2 s3]) from zrep (pre := [WX0 X ad st ca]) (post := [Wsig X (ad 5) (ad 6) (ad 7) (ad 8) sn s1 s2 s3]) (bs := [Wshelf X (ad 3) (ad 4) (aq 0) n pv]) (cs := [Wpan ((aq 0) z.toNat) (pv z.toNat), Wshx X (ad 3) (ad 4) (aq 0) n pv z.toNat]) (by rw [zb1]; exact shelf_foc (by omega)))
      refine va_getN (ci := 4) (v := .int (iI ((pv z.toNat) 0))) (C := RX4) (T := TX4) (N := 6) hx hb hts inX4 hown hK.1 hP 2 rfl rfl 0 (by decide) (va_Nw.use rfl (hK.2.2.2.2.2.2.1 ("SkimmedSons", 171, "SkimmedSons$Pan", "sill", "I", "SkimmedSons") (by decide))) (fun _ h9 => h9) rfl dX11_pan_75 ?_
      have hP := zp_perm hP (show List.Perm (zb [WX0 X ad st ca, Wpan ((aq 0) z.toNat) (pv z.toNat), Wshx X (ad 3) (ad 4) (aq 0) n pv z.toNat, Wsig X (ad 5) (ad 6) (ad 7) (ad 8) sn s1 s2 s3]) (zb [WX0 X ad st ca, Wshelf X (ad 3) (ad 4) (aq 0) n (va_up pv z.toNat (pv z.toNat)), Wsig X (ad 5) (ad 6) (ad 7) (ad 8) sn s1 s2 s3]) from zrep (pre := [WX0 X ad st ca]) (post := [Wsig X (ad 5) (ad 6) (ad 7) (ad 8) sn s1 s2 s3]) (bs := [Wpan ((aq 0) z.toNat) (pv z.toNat), Wshx X (ad 3) (ad 4) (aq 0) n pv z.toNat]) (cs := [Wshelf X (ad 3) (ad 4) (aq 0) n (va_up pv z.toNat (pv z.toNat))]) (by rw [zb1]; exact shelf_unf (by omega) _))
      have hD := zd_perm hD (show List.Perm (zb [WX0 X ad st ca, Wpan ((aq 0) z.toNat) (pv z.toNat), Wshx X (ad 3) (ad 4) (aq 0) n pv z.toNat, Wsig X (ad 5) (ad 6) (ad 7) (ad 8) sn s1 s2 s3]) (zb [WX0 X ad st ca, Wshelf X (ad 3) (ad 4) (aq 0) n (va_up pv z.toNat (pv z.toNat)), Wsig X (ad 5) (ad 6) (ad 7) (ad 8) sn s1 s2 s3]) from zrep (pre := [WX0 X ad st ca]) (post := [Wsig X (ad 5) (ad 6) (ad 7) (ad 8) sn s1 s2 s3]) (bs := [Wpan ((aq 0) z.toNat) (pv z.toNat), Wshx X (ad 3) (ad 4) (aq 0) n pv z.toNat]) (cs := [Wshelf X (ad 3) (ad 4) (aq 0) n (va_up pv z.toNat (pv z.toNat))]) (by rw [zb1]; exact shelf_unf (by omega) _))
      rw [va_upId] at hP hD
      exact z_iret hQ hx hb hr hlocks hS ⟨Nat.le_of_ble_eq_true rfl, Nat.le_of_ble_eq_true rfl⟩ dX11_pan_78 () (congrArg (fun z => some (Value.int (iI z))) (show (panR n z x sn pv s1 s2 s3 : Int) = (pv z.toNat) 0 by unfold panR; (repeat (first | rw [if_pos (by omega)] | rw [if_neg (by omega)])))) trivial hP hD
    · skip
      refine z_tabIn (tgt := 79) (off := 62) hx hb (by omega) dX11_pan_17 c_1 (by decide) rfl (by decide) ?_
      refine lv_aload_n hx hb dX11_pan_79 rfl (lv_at hl 0 rfl) ?_
      have hpz := hpv z.toNat (by omega)
      have hP := zp_perm hP (show List.Perm (zb [WX0 X ad st ca, Wshelf X (ad 3) (ad 4) (aq 0) n pv, Wsig X (ad 5) (ad 6) (ad 7) (ad 8) sn s1 s2 s3]) (zb [WX0 X ad st ca, Wpan ((aq 0) z.toNat) (pv z.toNat), Wshx X (ad 3) (ad 4) (aq 0) n pv z.toNat, Wsig X (ad 5) (ad 6) (ad 7) (ad 8) sn s1 s2 s3]) from zrep (pre := [WX0 X ad st ca]) (post := [Wsig X (ad 5) (ad 6) (ad 7) (ad 8) sn s1 s2 s3]) (bs := [Wshelf X (ad 3) (ad 4) (aq 0) n pv]) (cs := [Wpan ((aq 0) z.toNat) (pv z.toNat), Wshx X (ad 3) (ad 4) (aq 0) n pv z.toNat]) (by rw [zb1]; exact shelf_foc (by omega)))
      have hD := zd_perm hD (show List.Perm (zb [WX0 X ad st ca, Wshelf X (ad 3) (ad 4) (aq 0) n pv, Wsig X (ad 5) (ad 6) (ad 7) (ad 8) sn s1 s2 s3]) (zb [WX0 X ad st ca, Wpan ((aq 0) z.toNat) (pv z.toNat), Wshx X (ad 3) (ad 4) (aq 0) n pv z.toNat, Wsig X (ad 5) (ad 6) (ad 7) (ad 8) sn s1 s2 s3]) from zrep (pre := [WX0 X ad st ca]) (post := [Wsig X (ad 5) (ad 6) (ad 7) (ad 8) sn s1 s2 s3]) (bs := [Wshelf X (ad 3) (ad 4) (aq 0) n pv]) (cs := [Wpan ((aq 0) z.toNat) (pv z.toNat), Wshx X (ad 3) (ad 4) (aq 0) n pv z.toNat]) (by rw [zb1]; exact shelf_foc (by omega)))
      refine va_getN (ci := 4) (v := .int (iI ((pv z.toNat) 1))) (C := RX4) (T := TX4) (N := 6) hx hb hts inX4 hown hK.1 hP 2 rfl rfl 1 (by decide) (va_Nw.use rfl (hK.2.2.2.2.2.2.1 ("SkimmedSons", 174, "SkimmedSons$Pan", "still", "I", "SkimmedSons") (by decide))) (fun _ h9 => h9) rfl dX11_pan_80 ?_
      have hP := zp_perm hP (show List.Perm (zb [WX0 X ad st ca, Wpan ((aq 0) z.toNat) (pv z.toNat), Wshx X (ad 3) (ad 4) (aq 0) n pv z.toNat, Wsig X (ad 5) (ad 6) (ad 7) (ad 8) sn s1 s2 s3]) (zb [WX0 X ad st ca, Wshelf X (ad 3) (ad 4) (aq 0) n (va_up pv z.toNat (pv z.toNat)), Wsig X (ad 5) (ad 6) (ad 7) (ad 8) sn s1 s2 s3]) from zrep (pre := [WX0 X ad st ca]) (post := [Wsig X (ad 5) (ad 6) (ad 7) (ad 8) sn s1 s2 s3]) (bs := [Wpan ((aq 0) z.toNat) (pv z.toNat), Wshx X (ad 3) (ad 4) (aq 0) n pv z.toNat]) (cs := [Wshelf X (ad 3) (ad 4) (aq 0) n (va_up pv z.toNat (pv z.toNat))]) (by rw [zb1]; exact shelf_unf (by omega) _))
      have hD := zd_perm hD (show List.Perm (zb [WX0 X ad st ca, Wpan ((aq 0) z.toNat) (pv z.toNat), Wshx X (ad 3) (ad 4) (aq 0) n pv z.toNat, Wsig X (ad 5) (ad 6) (ad 7) (ad 8) sn s1 s2 s3]) (zb [WX0 X ad st ca, Wshelf X (ad 3) (ad 4) (aq 0) n (va_up pv z.toNat (pv z.toNat)), Wsig X (ad 5) (ad 6) (ad 7) (ad 8) sn s1 s2 s3]) from zrep (pre := [WX0 X ad st ca]) (post := [Wsig X (ad 5) (ad 6) (ad 7) (ad 8) sn s1 s2 s3]) (bs := [Wpan ((aq 0) z.toNat) (pv z.toNat), Wshx X (ad 3) (ad 4) (aq 0) n pv z.toNat]) (cs := [Wshelf X (ad 3) (ad 4) (aq 0) n (va_up pv z.toNat (pv z.toNat))]) (by rw [zb1]; exact shelf_unf (by omega) _))
      rw [va_upId] at hP hD
      exact z_iret hQ hx hb hr hlocks hS ⟨Nat.le_of_ble_eq_true rfl, Nat.le_of_ble_eq_true rfl⟩ dX11_pan_83 () (congrArg (fun z => some (Value.int (iI z))) (show (panR n z x sn pv s1 s2 s3 : Int) = (pv z.toNat) 1 by unfold panR; (repeat (first | rw [if_pos (by omega)] | rw [if_neg (by omega)])))) trivial hP hD
    · skip
      refine z_tabIn (tgt := 84) (off := 67) hx hb (by omega) dX11_pan_17 c_1 (by decide) rfl (by decide) ?_
      refine lv_aload_n hx hb dX11_pan_84 rfl (lv_at hl 0 rfl) ?_
      have hpz := hpv z.toNat (by omega)
      have hP := zp_perm hP (show List.Perm (zb [WX0 X ad st ca, Wshelf X (ad 3) (ad 4) (aq 0) n pv, Wsig X (ad 5) (ad 6) (ad 7) (ad 8) sn s1 s2 s3]) (zb [WX0 X ad st ca, Wpan ((aq 0) z.toNat) (pv z.toNat), Wshx X (ad 3) (ad 4) (aq 0) n pv z.toNat, Wsig X (ad 5) (ad 6) (ad 7) (ad 8) sn s1 s2 s3]) from zrep (pre := [WX0 X ad st ca]) (post := [Wsig X (ad 5) (ad 6) (ad 7) (ad 8) sn s1 s2 s3]) (bs := [Wshelf X (ad 3) (ad 4) (aq 0) n pv]) (cs := [Wpan ((aq 0) z.toNat) (pv z.toNat), Wshx X (ad 3) (ad 4) (aq 0) n pv z.toNat]) (by rw [zb1]; exact shelf_foc (by omega)))
      have hD := zd_perm hD (show List.Perm (zb [WX0 X ad st ca, Wshelf X (ad 3) (ad 4) (aq 0) n pv, Wsig X (ad 5) (ad 6) (ad 7) (ad 8) sn s1 s2 s3]) (zb [WX0 X ad st ca, Wpan ((aq 0) z.toNat) (pv z.toNat), Wshx X (ad 3) (ad 4) (aq 0) n pv z.toNat, Wsig X (ad 5) (ad 6) (ad 7) (ad 8) sn s1 s2 s3]) from zrep (pre := [WX0 X ad st ca]) (post := [Wsig X (ad 5) (ad 6) (ad 7) (ad 8) sn s1 s2 s3]) (bs := [Wshelf X (ad 3) (ad 4) (aq 0) n pv]) (cs := [Wpan ((aq 0) z.toNat) (pv z.toNat), Wshx X (ad 3) (ad 4) (aq 0) n pv z.toNat]) (by rw [zb1]; exact shelf_foc (by omega)))
      have hPm := zp_perm hP (zblk (show List.Perm ([WX0 X ad st ca, Wpan ((aq 0) z.toNat) (pv z.toNat), Wshx X (ad 3) (ad 4) (aq 0) n pv z.toNat, Wsig X (ad 5) (ad 6) (ad 7) (ad 8) sn s1 s2 s3] : List va_W) ([Wpan ((aq 0) z.toNat) (pv z.toNat)] ++ [WX0 X ad st ca, Wshx X (ad 3) (ad 4) (aq 0) n pv z.toNat, Wsig X (ad 5) (ad 6) (ad 7) (ad 8) sn s1 s2 s3]) from (zf1 _ 1 _ rfl).trans ((List.Perm.refl _).cons _)))
      have hDm := zd_perm hD (zblk (show List.Perm ([WX0 X ad st ca, Wpan ((aq 0) z.toNat) (pv z.toNat), Wshx X (ad 3) (ad 4) (aq 0) n pv z.toNat, Wsig X (ad 5) (ad 6) (ad 7) (ad 8) sn s1 s2 s3] : List va_W) ([Wpan ((aq 0) z.toNat) (pv z.toNat)] ++ [WX0 X ad st ca, Wshx X (ad 3) (ad 4) (aq 0) n pv z.toNat, Wsig X (ad 5) (ad 6) (ad 7) (ad 8) sn s1 s2 s3]) from (zf1 _ 1 _ rfl).trans ((List.Perm.refl _).cons _)))
      refine z_callV (wr := zb [WX0 X ad st ca, Wshx X (ad 3) (ad 4) (aq 0) n pv z.toNat, Wsig X (ad 5) (ad 6) (ad 7) (ad 8) sn s1 s2 s3]) (As := []) (rest := []) ⟨hx, hb, hml, hown, hts⟩ (c_X4_top l X ((aq 0) z.toNat) (pv z.toNat) (by exact hpz)) (cwV 0 hts gX11_pan_X4_top rfl rfl rfl (by decide +kernel) ⟨Nat.le_of_ble_eq_true rfl, Nat.le_of_ble_eq_true rfl⟩) rfl rfl hl.1 dX11_pan_85 rfl rfl (Nat.le_of_ble_eq_true rfl) ⟨Nat.le_of_ble_eq_true rfl, Nat.le_of_ble_eq_true rfl⟩ hS hA hK hPm hDm (fun _ H locs _ hP hD hS => ?_)
      have hP := zp_perm hP ((zblk (show List.Perm ([WX0 X ad st ca, Wpan ((aq 0) z.toNat) (pv z.toNat), Wshx X (ad 3) (ad 4) (aq 0) n pv z.toNat, Wsig X (ad 5) (ad 6) (ad 7) (ad 8) sn s1 s2 s3] : List va_W) ([Wpan ((aq 0) z.toNat) (pv z.toNat)] ++ [WX0 X ad st ca, Wshx X (ad 3) (ad 4) (aq 0) n pv z.toNat, Wsig X (ad 5) (ad 6) (ad 7) (ad 8) sn s1 s2 s3]) from (zf1 _ 1 _ rfl).trans ((List.Perm.refl _).cons _)))).symm
      have hD := zd_perm hD ((zblk (show List.Perm ([WX0 X ad st ca, Wpan ((aq 0) z.toNat) (pv z.toNat), Wshx X (ad 3) (ad 4) (aq 0) n pv z.toNat, Wsig X (ad 5) (ad 6) (ad 7) (ad 8) sn s1 s2 s3] : List va_W) ([Wpan ((aq 0) z.toNat) (pv z.toNat)] ++ [WX0 X ad st ca, Wshx X (ad 3) (ad 4) (aq 0) n pv z.toNat, Wsig X (ad 5) (ad 6) (ad 7) (ad 8) sn s1 s2 s3]) from (zf1 _ 1 _ rfl).trans ((List.Perm.refl _).cons _)))).symm
      have hP : va_P X.1 vwCl (zb [WX0 X ad st ca, Wpan ((aq 0) z.toNat) (pv z.toNat), Wshx X (ad 3) (ad 4) (aq 0) n pv z.toNat, Wsig X (ad 5) (ad 6) (ad 7) (ad 8) sn s1 s2 s3]) H := hP
      have hD : va_D A (zb [WX0 X ad st ca, Wpan ((aq 0) z.toNat) (pv z.toNat), Wshx X (ad 3) (ad 4) (aq 0) n pv z.toNat, Wsig X (ad 5) (ad 6) (ad 7) (ad 8) sn s1 s2 s3]) := hD
      refine W.eq (g2 := F0 m 88 ls [.int (iI (topP (pv z.toNat)))]) rfl ?_
      have hP := zp_perm hP (show List.Perm (zb [WX0 X ad st ca, Wpan ((aq 0) z.toNat) (pv z.toNat), Wshx X (ad 3) (ad 4) (aq 0) n pv z.toNat, Wsig X (ad 5) (ad 6) (ad 7) (ad 8) sn s1 s2 s3]) (zb [WX0 X ad st ca, Wshelf X (ad 3) (ad 4) (aq 0) n (va_up pv z.toNat (pv z.toNat)), Wsig X (ad 5) (ad 6) (ad 7) (ad 8) sn s1 s2 s3]) from zrep (pre := [WX0 X ad st ca]) (post := [Wsig X (ad 5) (ad 6) (ad 7) (ad 8) sn s1 s2 s3]) (bs := [Wpan ((aq 0) z.toNat) (pv z.toNat), Wshx X (ad 3) (ad 4) (aq 0) n pv z.toNat]) (cs := [Wshelf X (ad 3) (ad 4) (aq 0) n (va_up pv z.toNat (pv z.toNat))]) (by rw [zb1]; exact shelf_unf (by omega) _))
      have hD := zd_perm hD (show List.Perm (zb [WX0 X ad st ca, Wpan ((aq 0) z.toNat) (pv z.toNat), Wshx X (ad 3) (ad 4) (aq 0) n pv z.toNat, Wsig X (ad 5) (ad 6) (ad 7) (ad 8) sn s1 s2 s3]) (zb [WX0 X ad st ca, Wshelf X (ad 3) (ad 4) (aq 0) n (va_up pv z.toNat (pv z.toNat)), Wsig X (ad 5) (ad 6) (ad 7) (ad 8) sn s1 s2 s3]) from zrep (pre := [WX0 X ad st ca]) (post := [Wsig X (ad 5) (ad 6) (ad 7) (ad 8) sn s1 s2 s3]) (bs := [Wpan ((aq 0) z.toNat) (pv z.toNat), Wshx X (ad 3) (ad 4) (aq 0) n pv z.toNat]) (cs := [Wshelf X (ad 3) (ad 4) (aq 0) n (va_up pv z.toNat (pv z.toNat))]) (by rw [zb1]; exact shelf_unf (by omega) _))
      rw [va_upId] at hP hD
      exact z_iret hQ hx hb hr hlocks hS ⟨Nat.le_of_ble_eq_true rfl, Nat.le_of_ble_eq_true rfl⟩ dX11_pan_88 () (congrArg (fun z => some (Value.int (iI z))) (show (panR n z x sn pv s1 s2 s3 : Int) = topP (pv z.toNat) by unfold panR; (repeat (first | rw [if_pos (by omega)] | rw [if_neg (by omega)])))) trivial hP hD
    · skip
      refine z_tabIn (tgt := 89) (off := 72) hx hb (by omega) dX11_pan_17 c_1 (by decide) rfl (by decide) ?_
      refine lv_aload_n hx hb dX11_pan_89 rfl (lv_at hl 1 rfl) ?_
      refine va_get (ci := 11) (v := .ref (ad 5)) (C := RX11) (T := TX11) (N := 16) hx hb hts inX11 hown hK.1 hP 0 rfl rfl 5 (by decide) (hts (.fieldLink RX11 32 "SkimmedSons" "sights" "LSkimmedSons$Sights;") (by decide +kernel)) (fun _ h9 => h9) rfl dX11_pan_90 ?_
      refine lv_iload_n hx hb dX11_pan_93 rfl (lv_at hl 2 rfl) ?_
      refine lv_aload_n hx hb dX11_pan_94 rfl (lv_at hl 0 rfl) ?_
      have hpz := hpv z.toNat (by omega)
      have hP := zp_perm hP (show List.Perm (zb [WX0 X ad st ca, Wshelf X (ad 3) (ad 4) (aq 0) n pv, Wsig X (ad 5) (ad 6) (ad 7) (ad 8) sn s1 s2 s3]) (zb [WX0 X ad st ca, Wpan ((aq 0) z.toNat) (pv z.toNat), Wshx X (ad 3) (ad 4) (aq 0) n pv z.toNat, Wsig X (ad 5) (ad 6) (ad 7) (ad 8) sn s1 s2 s3]) from zrep (pre := [WX0 X ad st ca]) (post := [Wsig X (ad 5) (ad 6) (ad 7) (ad 8) sn s1 s2 s3]) (bs := [Wshelf X (ad 3) (ad 4) (aq 0) n pv]) (cs := [Wpan ((aq 0) z.toNat) (pv z.toNat), Wshx X (ad 3) (ad 4) (aq 0) n pv z.toNat]) (by rw [zb1]; exact shelf_foc (by omega)))
      have hD := zd_perm hD (show List.Perm (zb [WX0 X ad st ca, Wshelf X (ad 3) (ad 4) (aq 0) n pv, Wsig X (ad 5) (ad 6) (ad 7) (ad 8) sn s1 s2 s3]) (zb [WX0 X ad st ca, Wpan ((aq 0) z.toNat) (pv z.toNat), Wshx X (ad 3) (ad 4) (aq 0) n pv z.toNat, Wsig X (ad 5) (ad 6) (ad 7) (ad 8) sn s1 s2 s3]) from zrep (pre := [WX0 X ad st ca]) (post := [Wsig X (ad 5) (ad 6) (ad 7) (ad 8) sn s1 s2 s3]) (bs := [Wshelf X (ad 3) (ad 4) (aq 0) n pv]) (cs := [Wpan ((aq 0) z.toNat) (pv z.toNat), Wshx X (ad 3) (ad 4) (aq 0) n pv z.toNat]) (by rw [zb1]; exact shelf_foc (by omega)))
      have hPm := zp_perm hP (zblk (show List.Perm ([WX0 X ad st ca, Wpan ((aq 0) z.toNat) (pv z.toNat), Wshx X (ad 3) (ad 4) (aq 0) n pv z.toNat, Wsig X (ad 5) (ad 6) (ad 7) (ad 8) sn s1 s2 s3] : List va_W) ([Wsig X (ad 5) (ad 6) (ad 7) (ad 8) sn s1 s2 s3, Wpan ((aq 0) z.toNat) (pv z.toNat)] ++ [WX0 X ad st ca, Wshx X (ad 3) (ad 4) (aq 0) n pv z.toNat]) from (zf1 _ 3 _ rfl).trans (((zf1 _ 1 _ rfl).trans ((List.Perm.refl _).cons _)).cons _)))
      have hDm := zd_perm hD (zblk (show List.Perm ([WX0 X ad st ca, Wpan ((aq 0) z.toNat) (pv z.toNat), Wshx X (ad 3) (ad 4) (aq 0) n pv z.toNat, Wsig X (ad 5) (ad 6) (ad 7) (ad 8) sn s1 s2 s3] : List va_W) ([Wsig X (ad 5) (ad 6) (ad 7) (ad 8) sn s1 s2 s3, Wpan ((aq 0) z.toNat) (pv z.toNat)] ++ [WX0 X ad st ca, Wshx X (ad 3) (ad 4) (aq 0) n pv z.toNat]) from (zf1 _ 3 _ rfl).trans (((zf1 _ 1 _ rfl).trans ((List.Perm.refl _).cons _)).cons _)))
      refine z_callV (wr := zb [WX0 X ad st ca, Wshx X (ad 3) (ad 4) (aq 0) n pv z.toNat]) (As := [.int (iI z), .ref ((aq 0) z.toNat)]) (rest := []) ⟨hx, hb, hml, hown, hts⟩ (c_X8_fats l X (ad 5) (ad 6) (ad 7) (ad 8) sn s1 s2 s3 z ((aq 0) z.toNat) (pv z.toNat) (by exact hsg) (by exact hpz) (by omega)) (cwV 2 hts gX11_pan_X8_fats rfl rfl rfl (by decide +kernel) ⟨Nat.le_of_ble_eq_true rfl, Nat.le_of_ble_eq_true rfl⟩) rfl rfl hl.1 dX11_pan_95 rfl rfl (Nat.le_of_ble_eq_true rfl) ⟨Nat.le_of_ble_eq_true rfl, Nat.le_of_ble_eq_true rfl⟩ hS hA hK hPm hDm (fun _ H locs _ hP hD hS => ?_)
      have hP := zp_perm hP ((zblk (show List.Perm ([WX0 X ad st ca, Wpan ((aq 0) z.toNat) (pv z.toNat), Wshx X (ad 3) (ad 4) (aq 0) n pv z.toNat, Wsig X (ad 5) (ad 6) (ad 7) (ad 8) sn s1 s2 s3] : List va_W) ([Wsig X (ad 5) (ad 6) (ad 7) (ad 8) sn s1 s2 s3, Wpan ((aq 0) z.toNat) (pv z.toNat)] ++ [WX0 X ad st ca, Wshx X (ad 3) (ad 4) (aq 0) n pv z.toNat]) from (zf1 _ 3 _ rfl).trans (((zf1 _ 1 _ rfl).trans ((List.Perm.refl _).cons _)).cons _)))).symm
      have hD := zd_perm hD ((zblk (show List.Perm ([WX0 X ad st ca, Wpan ((aq 0) z.toNat) (pv z.toNat), Wshx X (ad 3) (ad 4) (aq 0) n pv z.toNat, Wsig X (ad 5) (ad 6) (ad 7) (ad 8) sn s1 s2 s3] : List va_W) ([Wsig X (ad 5) (ad 6) (ad 7) (ad 8) sn s1 s2 s3, Wpan ((aq 0) z.toNat) (pv z.toNat)] ++ [WX0 X ad st ca, Wshx X (ad 3) (ad 4) (aq 0) n pv z.toNat]) from (zf1 _ 3 _ rfl).trans (((zf1 _ 1 _ rfl).trans ((List.Perm.refl _).cons _)).cons _)))).symm
      have hP : va_P X.1 vwCl (zb [WX0 X ad st ca, Wpan ((aq 0) z.toNat) (pv z.toNat), Wshx X (ad 3) (ad 4) (aq 0) n pv z.toNat, Wsig X (ad 5) (ad 6) (ad 7) (ad 8) sn s1 s2 s3]) H := hP
      have hD : va_D A (zb [WX0 X ad st ca, Wpan ((aq 0) z.toNat) (pv z.toNat), Wshx X (ad 3) (ad 4) (aq 0) n pv z.toNat, Wsig X (ad 5) (ad 6) (ad 7) (ad 8) sn s1 s2 s3]) := hD
      refine W.eq (g2 := F0 m 98 ls [.int (iI (fatsZ s1 s2 s3 sn z (pv z.toNat) 16))]) rfl ?_
      have hP := zp_perm hP (show List.Perm (zb [WX0 X ad st ca, Wpan ((aq 0) z.toNat) (pv z.toNat), Wshx X (ad 3) (ad 4) (aq 0) n pv z.toNat, Wsig X (ad 5) (ad 6) (ad 7) (ad 8) sn s1 s2 s3]) (zb [WX0 X ad st ca, Wshelf X (ad 3) (ad 4) (aq 0) n (va_up pv z.toNat (pv z.toNat)), Wsig X (ad 5) (ad 6) (ad 7) (ad 8) sn s1 s2 s3]) from zrep (pre := [WX0 X ad st ca]) (post := [Wsig X (ad 5) (ad 6) (ad 7) (ad 8) sn s1 s2 s3]) (bs := [Wpan ((aq 0) z.toNat) (pv z.toNat), Wshx X (ad 3) (ad 4) (aq 0) n pv z.toNat]) (cs := [Wshelf X (ad 3) (ad 4) (aq 0) n (va_up pv z.toNat (pv z.toNat))]) (by rw [zb1]; exact shelf_unf (by omega) _))
      have hD := zd_perm hD (show List.Perm (zb [WX0 X ad st ca, Wpan ((aq 0) z.toNat) (pv z.toNat), Wshx X (ad 3) (ad 4) (aq 0) n pv z.toNat, Wsig X (ad 5) (ad 6) (ad 7) (ad 8) sn s1 s2 s3]) (zb [WX0 X ad st ca, Wshelf X (ad 3) (ad 4) (aq 0) n (va_up pv z.toNat (pv z.toNat)), Wsig X (ad 5) (ad 6) (ad 7) (ad 8) sn s1 s2 s3]) from zrep (pre := [WX0 X ad st ca]) (post := [Wsig X (ad 5) (ad 6) (ad 7) (ad 8) sn s1 s2 s3]) (bs := [Wpan ((aq 0) z.toNat) (pv z.toNat), Wshx X (ad 3) (ad 4) (aq 0) n pv z.toNat]) (cs := [Wshelf X (ad 3) (ad 4) (aq 0) n (va_up pv z.toNat (pv z.toNat))]) (by rw [zb1]; exact shelf_unf (by omega) _))
      rw [va_upId] at hP hD
      exact z_iret hQ hx hb hr hlocks hS ⟨Nat.le_of_ble_eq_true rfl, Nat.le_of_ble_eq_true rfl⟩ dX11_pan_98 () (congrArg (fun z => some (Value.int (iI z))) (show (panR n z x sn pv s1 s2 s3 : Int) = fatsZ s1 s2 s3 sn z (pv z.toNat) 16 by unfold panR; (repeat (first | rw [if_pos (by omega)] | rw [if_neg (by omega)])))) trivial hP hD
    · skip
      refine z_tabIn (tgt := 99) (off := 82) hx hb (by omega) dX11_pan_17 c_1 (by decide) rfl (by decide) ?_
      refine lv_aload_n hx hb dX11_pan_99 rfl (lv_at hl 1 rfl) ?_
      refine va_get (ci := 11) (v := .ref (ad 5)) (C := RX11) (T := TX11) (N := 16) hx hb hts inX11 hown hK.1 hP 0 rfl rfl 5 (by decide) (hts (.fieldLink RX11 32 "SkimmedSons" "sights" "LSkimmedSons$Sights;") (by decide +kernel)) (fun _ h9 => h9) rfl dX11_pan_100 ?_
      refine lv_iload_n hx hb dX11_pan_103 rfl (lv_at hl 2 rfl) ?_
      refine lv_aload_n hx hb dX11_pan_104 rfl (lv_at hl 0 rfl) ?_
      have hpz := hpv z.toNat (by omega)
      have hP := zp_perm hP (show List.Perm (zb [WX0 X ad st ca, Wshelf X (ad 3) (ad 4) (aq 0) n pv, Wsig X (ad 5) (ad 6) (ad 7) (ad 8) sn s1 s2 s3]) (zb [WX0 X ad st ca, Wpan ((aq 0) z.toNat) (pv z.toNat), Wshx X (ad 3) (ad 4) (aq 0) n pv z.toNat, Wsig X (ad 5) (ad 6) (ad 7) (ad 8) sn s1 s2 s3]) from zrep (pre := [WX0 X ad st ca]) (post := [Wsig X (ad 5) (ad 6) (ad 7) (ad 8) sn s1 s2 s3]) (bs := [Wshelf X (ad 3) (ad 4) (aq 0) n pv]) (cs := [Wpan ((aq 0) z.toNat) (pv z.toNat), Wshx X (ad 3) (ad 4) (aq 0) n pv z.toNat]) (by rw [zb1]; exact shelf_foc (by omega)))
      have hD := zd_perm hD (show List.Perm (zb [WX0 X ad st ca, Wshelf X (ad 3) (ad 4) (aq 0) n pv, Wsig X (ad 5) (ad 6) (ad 7) (ad 8) sn s1 s2 s3]) (zb [WX0 X ad st ca, Wpan ((aq 0) z.toNat) (pv z.toNat), Wshx X (ad 3) (ad 4) (aq 0) n pv z.toNat, Wsig X (ad 5) (ad 6) (ad 7) (ad 8) sn s1 s2 s3]) from zrep (pre := [WX0 X ad st ca]) (post := [Wsig X (ad 5) (ad 6) (ad 7) (ad 8) sn s1 s2 s3]) (bs := [Wshelf X (ad 3) (ad 4) (aq 0) n pv]) (cs := [Wpan ((aq 0) z.toNat) (pv z.toNat), Wshx X (ad 3) (ad 4) (aq 0) n pv z.toNat]) (by rw [zb1]; exact shelf_foc (by omega)))
      have hPm := zp_perm hP (zblk (show List.Perm ([WX0 X ad st ca, Wpan ((aq 0) z.toNat) (pv z.toNat), Wshx X (ad 3) (ad 4) (aq 0) n pv z.toNat, Wsig X (ad 5) (ad 6) (ad 7) (ad 8) sn s1 s2 s3] : List va_W) ([Wsig X (ad 5) (ad 6) (ad 7) (ad 8) sn s1 s2 s3, Wpan ((aq 0) z.toNat) (pv z.toNat)] ++ [WX0 X ad st ca, Wshx X (ad 3) (ad 4) (aq 0) n pv z.toNat]) from (zf1 _ 3 _ rfl).trans (((zf1 _ 1 _ rfl).trans ((List.Perm.refl _).cons _)).cons _)))
      have hDm := zd_perm hD (zblk (show List.Perm ([WX0 X ad st ca, Wpan ((aq 0) z.toNat) (pv z.toNat), Wshx X (ad 3) (ad 4) (aq 0) n pv z.toNat, Wsig X (ad 5) (ad 6) (ad 7) (ad 8) sn s1 s2 s3] : List va_W) ([Wsig X (ad 5) (ad 6) (ad 7) (ad 8) sn s1 s2 s3, Wpan ((aq 0) z.toNat) (pv z.toNat)] ++ [WX0 X ad st ca, Wshx X (ad 3) (ad 4) (aq 0) n pv z.toNat]) from (zf1 _ 3 _ rfl).trans (((zf1 _ 1 _ rfl).trans ((List.Perm.refl _).cons _)).cons _)))
      refine z_callV (wr := zb [WX0 X ad st ca, Wshx X (ad 3) (ad 4) (aq 0) n pv z.toNat]) (As := [.int (iI z), .ref ((aq 0) z.toNat)]) (rest := []) ⟨hx, hb, hml, hown, hts⟩ (c_X8_fats l X (ad 5) (ad 6) (ad 7) (ad 8) sn s1 s2 s3 z ((aq 0) z.toNat) (pv z.toNat) (by exact hsg) (by exact hpz) (by omega)) (cwV 2 hts gX11_pan_X8_fats rfl rfl rfl (by decide +kernel) ⟨Nat.le_of_ble_eq_true rfl, Nat.le_of_ble_eq_true rfl⟩) rfl rfl hl.1 dX11_pan_105 rfl rfl (Nat.le_of_ble_eq_true rfl) ⟨Nat.le_of_ble_eq_true rfl, Nat.le_of_ble_eq_true rfl⟩ hS hA hK hPm hDm (fun _ H locs _ hP hD hS => ?_)
      have hP := zp_perm hP ((zblk (show List.Perm ([WX0 X ad st ca, Wpan ((aq 0) z.toNat) (pv z.toNat), Wshx X (ad 3) (ad 4) (aq 0) n pv z.toNat, Wsig X (ad 5) (ad 6) (ad 7) (ad 8) sn s1 s2 s3] : List va_W) ([Wsig X (ad 5) (ad 6) (ad 7) (ad 8) sn s1 s2 s3, Wpan ((aq 0) z.toNat) (pv z.toNat)] ++ [WX0 X ad st ca, Wshx X (ad 3) (ad 4) (aq 0) n pv z.toNat]) from (zf1 _ 3 _ rfl).trans (((zf1 _ 1 _ rfl).trans ((List.Perm.refl _).cons _)).cons _)))).symm
      have hD := zd_perm hD ((zblk (show List.Perm ([WX0 X ad st ca, Wpan ((aq 0) z.toNat) (pv z.toNat), Wshx X (ad 3) (ad 4) (aq 0) n pv z.toNat, Wsig X (ad 5) (ad 6) (ad 7) (ad 8) sn s1 s2 s3] : List va_W) ([Wsig X (ad 5) (ad 6) (ad 7) (ad 8) sn s1 s2 s3, Wpan ((aq 0) z.toNat) (pv z.toNat)] ++ [WX0 X ad st ca, Wshx X (ad 3) (ad 4) (aq 0) n pv z.toNat]) from (zf1 _ 3 _ rfl).trans (((zf1 _ 1 _ rfl).trans ((List.Perm.refl _).cons _)).cons _)))).symm
      have hP : va_P X.1 vwCl (zb [WX0 X ad st ca, Wpan ((aq 0) z.toNat) (pv z.toNat), Wshx X (ad 3) (ad 4) (aq 0) n pv z.toNat, Wsig X (ad 5) (ad 6) (ad 7) (ad 8) sn s1 s2 s3]) H := hP
      have hD : va_D A (zb [WX0 X ad st ca, Wpan ((aq 0) z.toNat) (pv z.toNat), Wshx X (ad 3) (ad 4) (aq 0) n pv z.toNat, Wsig X (ad 5) (ad 6) (ad 7) (ad 8) sn s1 s2 s3]) := hD
      refine W.eq (g2 := F0 m 108 ls [.int (iI (fatsZ s1 s2 s3 sn z (pv z.toNat) 16))]) rfl ?_
      have hfi := fatsZ_in s1 s2 s3 sn z (pv z.toNat) 16
      obtain ⟨⟨h00, h01⟩, hh⟩ := id hpz
      rw [show (2 : Int) ^ 16 = 65536 from rfl] at hfi
      refine lv_aload_n hx hb dX11_pan_108 rfl (lv_at hl 0 rfl) ?_
      have hPm := zp_perm hP (zblk (show List.Perm ([WX0 X ad st ca, Wpan ((aq 0) z.toNat) (pv z.toNat), Wshx X (ad 3) (ad 4) (aq 0) n pv z.toNat, Wsig X (ad 5) (ad 6) (ad 7) (ad 8) sn s1 s2 s3] : List va_W) ([Wpan ((aq 0) z.toNat) (pv z.toNat)] ++ [WX0 X ad st ca, Wshx X (ad 3) (ad 4) (aq 0) n pv z.toNat, Wsig X (ad 5) (ad 6) (ad 7) (ad 8) sn s1 s2 s3]) from (zf1 _ 1 _ rfl).trans ((List.Perm.refl _).cons _)))
      have hDm := zd_perm hD (zblk (show List.Perm ([WX0 X ad st ca, Wpan ((aq 0) z.toNat) (pv z.toNat), Wshx X (ad 3) (ad 4) (aq 0) n pv z.toNat, Wsig X (ad 5) (ad 6) (ad 7) (ad 8) sn s1 s2 s3] : List va_W) ([Wpan ((aq 0) z.toNat) (pv z.toNat)] ++ [WX0 X ad st ca, Wshx X (ad 3) (ad 4) (aq 0) n pv z.toNat, Wsig X (ad 5) (ad 6) (ad 7) (ad 8) sn s1 s2 s3]) from (zf1 _ 1 _ rfl).trans ((List.Perm.refl _).cons _)))
      refine z_callV (wr := zb [WX0 X ad st ca, Wshx X (ad 3) (ad 4) (aq 0) n pv z.toNat, Wsig X (ad 5) (ad 6) (ad 7) (ad 8) sn s1 s2 s3]) (As := []) (rest := [.int (iI (fatsZ s1 s2 s3 sn z (pv z.toNat) 16))]) ⟨hx, hb, hml, hown, hts⟩ (c_X4_risePerHour l X ((aq 0) z.toNat) (pv z.toNat) ) (cwV 0 hts gX11_pan_X4_risePerHour rfl rfl rfl (by decide +kernel) ⟨Nat.le_of_ble_eq_true rfl, Nat.le_of_ble_eq_true rfl⟩) rfl rfl hl.1 dX11_pan_109 rfl rfl (Nat.le_of_ble_eq_true rfl) ⟨Nat.le_of_ble_eq_true rfl, Nat.le_of_ble_eq_true rfl⟩ hS hA hK hPm hDm (fun _ H locs _ hP hD hS => ?_)
      have hP := zp_perm hP ((zblk (show List.Perm ([WX0 X ad st ca, Wpan ((aq 0) z.toNat) (pv z.toNat), Wshx X (ad 3) (ad 4) (aq 0) n pv z.toNat, Wsig X (ad 5) (ad 6) (ad 7) (ad 8) sn s1 s2 s3] : List va_W) ([Wpan ((aq 0) z.toNat) (pv z.toNat)] ++ [WX0 X ad st ca, Wshx X (ad 3) (ad 4) (aq 0) n pv z.toNat, Wsig X (ad 5) (ad 6) (ad 7) (ad 8) sn s1 s2 s3]) from (zf1 _ 1 _ rfl).trans ((List.Perm.refl _).cons _)))).symm
      have hD := zd_perm hD ((zblk (show List.Perm ([WX0 X ad st ca, Wpan ((aq 0) z.toNat) (pv z.toNat), Wshx X (ad 3) (ad 4) (aq 0) n pv z.toNat, Wsig X (ad 5) (ad 6) (ad 7) (ad 8) sn s1 s2 s3] : List va_W) ([Wpan ((aq 0) z.toNat) (pv z.toNat)] ++ [WX0 X ad st ca, Wshx X (ad 3) (ad 4) (aq 0) n pv z.toNat, Wsig X (ad 5) (ad 6) (ad 7) (ad 8) sn s1 s2 s3]) from (zf1 _ 1 _ rfl).trans ((List.Perm.refl _).cons _)))).symm
      have hP : va_P X.1 vwCl (zb [WX0 X ad st ca, Wpan ((aq 0) z.toNat) (pv z.toNat), Wshx X (ad 3) (ad 4) (aq 0) n pv z.toNat, Wsig X (ad 5) (ad 6) (ad 7) (ad 8) sn s1 s2 s3]) H := hP
      have hD : va_D A (zb [WX0 X ad st ca, Wpan ((aq 0) z.toNat) (pv z.toNat), Wshx X (ad 3) (ad 4) (aq 0) n pv z.toNat, Wsig X (ad 5) (ad 6) (ad 7) (ad 8) sn s1 s2 s3]) := hD
      refine W.eq (g2 := F0 m 112 ls [.int (iI (1 + (pv z.toNat) 0)), .int (iI (fatsZ s1 s2 s3 sn z (pv z.toNat) 16))]) rfl ?_
      have hPm := zp_perm hP (zblk (show List.Perm ([WX0 X ad st ca, Wpan ((aq 0) z.toNat) (pv z.toNat), Wshx X (ad 3) (ad 4) (aq 0) n pv z.toNat, Wsig X (ad 5) (ad 6) (ad 7) (ad 8) sn s1 s2 s3] : List va_W) ([] ++ [WX0 X ad st ca, Wpan ((aq 0) z.toNat) (pv z.toNat), Wshx X (ad 3) (ad 4) (aq 0) n pv z.toNat, Wsig X (ad 5) (ad 6) (ad 7) (ad 8) sn s1 s2 s3]) from List.Perm.refl _))
      have hDm := zd_perm hD (zblk (show List.Perm ([WX0 X ad st ca, Wpan ((aq 0) z.toNat) (pv z.toNat), Wshx X (ad 3) (ad 4) (aq 0) n pv z.toNat, Wsig X (ad 5) (ad 6) (ad 7) (ad 8) sn s1 s2 s3] : List va_W) ([] ++ [WX0 X ad st ca, Wpan ((aq 0) z.toNat) (pv z.toNat), Wshx X (ad 3) (ad 4) (aq 0) n pv z.toNat, Wsig X (ad 5) (ad 6) (ad 7) (ad 8) sn s1 s2 s3]) from List.Perm.refl _))
      refine z_callS (wr := zb [WX0 X ad st ca, Wpan ((aq 0) z.toNat) (pv z.toNat), Wshx X (ad 3) (ad 4) (aq 0) n pv z.toNat, Wsig X (ad 5) (ad 6) (ad 7) (ad 8) sn s1 s2 s3]) (As := [.int (iI (fatsZ s1 s2 s3 sn z (pv z.toNat) 16)), .int (iI (1 + (pv z.toNat) 0))]) (rest := []) ⟨hx, hb, hml, hown, hts⟩ (c_X11_look l X (fatsZ s1 s2 s3 sn z (pv z.toNat) 16) (1 + (pv z.toNat) 0) (by omega) (by omega)) (va_cwS 2 hts gX11_pan_X11_look rfl rfl rfl (by decide +kernel) ⟨Nat.le_of_ble_eq_true rfl, Nat.le_of_ble_eq_true rfl⟩) hl.1 dX11_pan_112 rfl rfl (Nat.le_of_ble_eq_true rfl) ⟨Nat.le_of_ble_eq_true rfl, Nat.le_of_ble_eq_true rfl⟩ hS hA hK hPm hDm (fun _ H locs _ hP hD hS => ?_)
      have hP := zp_perm hP ((zblk (show List.Perm ([WX0 X ad st ca, Wpan ((aq 0) z.toNat) (pv z.toNat), Wshx X (ad 3) (ad 4) (aq 0) n pv z.toNat, Wsig X (ad 5) (ad 6) (ad 7) (ad 8) sn s1 s2 s3] : List va_W) ([] ++ [WX0 X ad st ca, Wpan ((aq 0) z.toNat) (pv z.toNat), Wshx X (ad 3) (ad 4) (aq 0) n pv z.toNat, Wsig X (ad 5) (ad 6) (ad 7) (ad 8) sn s1 s2 s3]) from List.Perm.refl _))).symm
      have hD := zd_perm hD ((zblk (show List.Perm ([WX0 X ad st ca, Wpan ((aq 0) z.toNat) (pv z.toNat), Wshx X (ad 3) (ad 4) (aq 0) n pv z.toNat, Wsig X (ad 5) (ad 6) (ad 7) (ad 8) sn s1 s2 s3] : List va_W) ([] ++ [WX0 X ad st ca, Wpan ((aq 0) z.toNat) (pv z.toNat), Wshx X (ad 3) (ad 4) (aq 0) n pv z.toNat, Wsig X (ad 5) (ad 6) (ad 7) (ad 8) sn s1 s2 s3]) from List.Perm.refl _))).symm
      have hP : va_P X.1 vwCl (zb [WX0 X ad st ca, Wpan ((aq 0) z.toNat) (pv z.toNat), Wshx X (ad 3) (ad 4) (aq 0) n pv z.toNat, Wsig X (ad 5) (ad 6) (ad 7) (ad 8) sn s1 s2 s3]) H := hP
      have hD : va_D A (zb [WX0 X ad st ca, Wpan ((aq 0) z.toNat) (pv z.toNat), Wshx X (ad 3) (ad 4) (aq 0) n pv z.toNat, Wsig X (ad 5) (ad 6) (ad 7) (ad 8) sn s1 s2 s3]) := hD
      refine W.eq (g2 := F0 m 115 ls [.int (iI (lookZ (fatsZ s1 s2 s3 sn z (pv z.toNat) 16) (1 + (pv z.toNat) 0)))]) rfl ?_
      have hP := zp_perm hP (show List.Perm (zb [WX0 X ad st ca, Wpan ((aq 0) z.toNat) (pv z.toNat), Wshx X (ad 3) (ad 4) (aq 0) n pv z.toNat, Wsig X (ad 5) (ad 6) (ad 7) (ad 8) sn s1 s2 s3]) (zb [WX0 X ad st ca, Wshelf X (ad 3) (ad 4) (aq 0) n (va_up pv z.toNat (pv z.toNat)), Wsig X (ad 5) (ad 6) (ad 7) (ad 8) sn s1 s2 s3]) from zrep (pre := [WX0 X ad st ca]) (post := [Wsig X (ad 5) (ad 6) (ad 7) (ad 8) sn s1 s2 s3]) (bs := [Wpan ((aq 0) z.toNat) (pv z.toNat), Wshx X (ad 3) (ad 4) (aq 0) n pv z.toNat]) (cs := [Wshelf X (ad 3) (ad 4) (aq 0) n (va_up pv z.toNat (pv z.toNat))]) (by rw [zb1]; exact shelf_unf (by omega) _))
      have hD := zd_perm hD (show List.Perm (zb [WX0 X ad st ca, Wpan ((aq 0) z.toNat) (pv z.toNat), Wshx X (ad 3) (ad 4) (aq 0) n pv z.toNat, Wsig X (ad 5) (ad 6) (ad 7) (ad 8) sn s1 s2 s3]) (zb [WX0 X ad st ca, Wshelf X (ad 3) (ad 4) (aq 0) n (va_up pv z.toNat (pv z.toNat)), Wsig X (ad 5) (ad 6) (ad 7) (ad 8) sn s1 s2 s3]) from zrep (pre := [WX0 X ad st ca]) (post := [Wsig X (ad 5) (ad 6) (ad 7) (ad 8) sn s1 s2 s3]) (bs := [Wpan ((aq 0) z.toNat) (pv z.toNat), Wshx X (ad 3) (ad 4) (aq 0) n pv z.toNat]) (cs := [Wshelf X (ad 3) (ad 4) (aq 0) n (va_up pv z.toNat (pv z.toNat))]) (by rw [zb1]; exact shelf_unf (by omega) _))
      rw [va_upId] at hP hD
      exact z_iret hQ hx hb hr hlocks hS ⟨Nat.le_of_ble_eq_true rfl, Nat.le_of_ble_eq_true rfl⟩ dX11_pan_115 () (congrArg (fun z => some (Value.int (iI z))) (show (panR n z x sn pv s1 s2 s3 : Int) = lookZ (fatsZ s1 s2 s3 sn z (pv z.toNat) 16) (1 + (pv z.toNat) 0) by unfold panR; (repeat (first | rw [if_pos (by omega)] | rw [if_neg (by omega)])))) trivial hP hD
  · skip
    refine lv_aload_n hx hb dX11_pan_0 rfl (lv_at hl 0 rfl) ?_
    refine va_get (ci := 11) (v := .ref (ad 3)) (C := RX11) (T := TX11) (N := 16) hx hb hts inX11 hown hK.1 hP 0 rfl rfl 1 (by decide) (hts (.fieldLink RX11 19 "SkimmedSons" "shelf" "LSkimmedSons$Shelf;") (by decide +kernel)) (fun _ h9 => h9) rfl dX11_pan_1 ?_
    refine lv_iload_n hx hb dX11_pan_4 rfl (lv_at hl 1 rfl) ?_
    have hPm := zp_perm hP (zblk (show List.Perm ([WX0 X ad st ca, Wshelf X (ad 3) (ad 4) (aq 0) n pv, Wsig X (ad 5) (ad 6) (ad 7) (ad 8) sn s1 s2 s3] : List va_W) ([Wshelf X (ad 3) (ad 4) (aq 0) n pv] ++ [WX0 X ad st ca, Wsig X (ad 5) (ad 6) (ad 7) (ad 8) sn s1 s2 s3]) from (zf1 _ 1 _ rfl).trans ((List.Perm.refl _).cons _)))
    have hDm := zd_perm hD (zblk (show List.Perm ([WX0 X ad st ca, Wshelf X (ad 3) (ad 4) (aq 0) n pv, Wsig X (ad 5) (ad 6) (ad 7) (ad 8) sn s1 s2 s3] : List va_W) ([Wshelf X (ad 3) (ad 4) (aq 0) n pv] ++ [WX0 X ad st ca, Wsig X (ad 5) (ad 6) (ad 7) (ad 8) sn s1 s2 s3]) from (zf1 _ 1 _ rfl).trans ((List.Perm.refl _).cons _)))
    refine z_callV (wr := zb [WX0 X ad st ca, Wsig X (ad 5) (ad 6) (ad 7) (ad 8) sn s1 s2 s3]) (As := [.int (iI z)]) (rest := []) ⟨hx, hb, hml, hown, hts⟩ (c_X7_at_n l X (ad 3) (ad 4) (aq 0) n pv z (by omega) (by omega) (by omega)) (cwV 1 hts gX11_pan_X7_at rfl rfl rfl (by decide +kernel) ⟨Nat.le_of_ble_eq_true rfl, Nat.le_of_ble_eq_true rfl⟩) rfl rfl hl.1 dX11_pan_5 rfl rfl (Nat.le_of_ble_eq_true rfl) ⟨Nat.le_of_ble_eq_true rfl, Nat.le_of_ble_eq_true rfl⟩ hS hA hK hPm hDm (fun _ H locs _ hP hD hS => ?_)
    have hP := zp_perm hP ((zblk (show List.Perm ([WX0 X ad st ca, Wshelf X (ad 3) (ad 4) (aq 0) n pv, Wsig X (ad 5) (ad 6) (ad 7) (ad 8) sn s1 s2 s3] : List va_W) ([Wshelf X (ad 3) (ad 4) (aq 0) n pv] ++ [WX0 X ad st ca, Wsig X (ad 5) (ad 6) (ad 7) (ad 8) sn s1 s2 s3]) from (zf1 _ 1 _ rfl).trans ((List.Perm.refl _).cons _)))).symm
    have hD := zd_perm hD ((zblk (show List.Perm ([WX0 X ad st ca, Wshelf X (ad 3) (ad 4) (aq 0) n pv, Wsig X (ad 5) (ad 6) (ad 7) (ad 8) sn s1 s2 s3] : List va_W) ([Wshelf X (ad 3) (ad 4) (aq 0) n pv] ++ [WX0 X ad st ca, Wsig X (ad 5) (ad 6) (ad 7) (ad 8) sn s1 s2 s3]) from (zf1 _ 1 _ rfl).trans ((List.Perm.refl _).cons _)))).symm
    have hP : va_P X.1 vwCl (zb [WX0 X ad st ca, Wshelf X (ad 3) (ad 4) (aq 0) n pv, Wsig X (ad 5) (ad 6) (ad 7) (ad 8) sn s1 s2 s3]) H := hP
    have hD : va_D A (zb [WX0 X ad st ca, Wshelf X (ad 3) (ad 4) (aq 0) n pv, Wsig X (ad 5) (ad 6) (ad 7) (ad 8) sn s1 s2 s3]) := hD
    refine W.eq (g2 := F0 m 8 ls [.null]) rfl ?_
    refine lv_astore_nN (lv' := [(3, .null), (0, .ref (ad 0)), (1, .int (iI z)), (2, .int (iI x))]) hx hb dX11_pan_8 rfl hl (by decide) rfl (fun ls hl => ?_)
    refine lv_aload_nN hx hb dX11_pan_9 rfl (lv_at hl 0 rfl) ?_
    refine lv_ifnonnullN hx hb dX11_pan_10 ?_
    refine lv_bipush (v := iI (-101)) hx hb dX11_pan_13 (by decide) ?_
    exact z_iret hQ hx hb hr hlocks hS ⟨Nat.le_of_ble_eq_true rfl, Nat.le_of_ble_eq_true rfl⟩ dX11_pan_15 () (congrArg (fun z => some (Value.int (iI z))) (show (panR n z x sn pv s1 s2 s3 : Int) = (-101) by unfold panR; (repeat (first | rw [if_pos (by omega)] | rw [if_neg (by omega)])))) trivial hP hD
set_option maxHeartbeats 1000000 in
set_option maxRecDepth 100000 in
theorem c_X11_waysWithoutFilm (l : Launch) (X : zX) (a : Nat) (v : Nat → Int) (x : Int) (t : Int) (y : Int) (hv : PanB v) (hx1 : 0 ≤ x ∧ x ≤ 8) (hy1 : y = 10 ^ x.toNat) : zF l X yX11_waysWithoutFilm wsX11_waysWithoutFilm 0 0 [.ref a, .int (iI x), .int (iI t), .int (iI y)] (zb [Wpan a v]) (some (.int (iI (waysZ v x.toNat t)))) (zb [Wpan a v]) := by
  refine z_enter (cc := cX11_waysWithoutFilm) (maxL := 10) (ret := (some .int)) (by decide) rfl (Nat.le_of_ble_eq_true rfl) ?_
  intro p e s m below meth c A ls Q hQ hE hl hP hD
  obtain ⟨hx, hb, hr, hml, hown, hts, hlocks, hnm, hA, hK⟩ := hE
  have hown : s.vm.findClass RX11 = some m.cls := hown
  have hS : va_S A s.heap s.heap [] := va_S.rf
  have hl : lv_has ls 10 [(0, .ref a), (1, .int (iI x)), (2, .int (iI t)), (3, .int (iI y))] := hl
  have inX4 : ∀ w ∈ u_ws RX4 TX4 6, w ∈ wsX11_waysWithoutFilm := by decide +kernel
  obtain ⟨⟨h00, h01⟩, ⟨h10, h11⟩, h2, h3, h4, h5, h6⟩ := id hv
  have C60 : ∀ (w1 : Int) (w2 : Int) (w3 : Int), (¬ v 2 + v 3 = 0) → (w1 = ph v 0) → (w2 = ph v 1) → (w3 = ph v 2) → ∀ (H : Heap) (locs : List Loc) (ls : Array Slot), va_P X.1 vwCl (zb [Wpan a v]) H → va_D A (zb [Wpan a v]) → va_S A s.heap H locs → lv_has ls 10 [(0, .ref a), (1, .int (iI x)), (2, .int (iI t)), (5, .int (iI w1)), (6, .int (iI w2)), (7, .int (iI w3))] → W p l e { frames := 0, cells := 0, slots := 0, locals := 0 } s m ([.ref a, .int (iI x), .int (iI t), .int (iI y)] : List Value).toArray below meth c H locs 0 0 Q (F0 m 60 ls []) := by
    intro w1 w2 w3 hnz hw1 hw2 hw3 H locs ls hP hD hS hl
    refine lv_iconst (v := iI 0) hx hb dX11_waysWithoutFilm_60 (by decide) ?_
    refine lv_istore (lv' := [(8, .int (iI 0)), (0, .ref a), (1, .int (iI x)), (2, .int (iI t)), (5, .int (iI w1)), (6, .int (iI w2)), (7, .int (iI w3))]) hx hb dX11_waysWithoutFilm_61 hl (by decide) rfl (fun ls hl => ?_)
    have L63 : ∀ (fu : Nat) (i : Nat) (y1 : Int) (y2 : Int) (y3 : Int), ((i : Int) ≤ x) → ((y1, y2, y3) = wz t w1 w2 w3 i) → (x - ↑i).toNat < fu → ∀ (H : Heap) (locs : List Loc) (ls : Array Slot), va_P X.1 vwCl (zb [Wpan a v]) H → va_D A (zb [Wpan a v]) → va_S A s.heap H locs → lv_has ls 10 [(0, .ref a), (1, .int (iI x)), (2, .int (iI t)), (5, .int (iI y1)), (6, .int (iI y2)), (7, .int (iI y3)), (8, .int (iI (↑i)))] → W p l e { frames := 0, cells := 0, slots := 0, locals := 0 } s m ([.ref a, .int (iI x), .int (iI t), .int (iI y)] : List Value).toArray below meth c H locs 0 0 Q (F0 m 63 ls []) := by
      intro fu
      induction fu with
      | zero => intro i y1 y2 y3 hi hyy hm; exact absurd hm (Nat.not_lt_zero _)
      | succ fu ih63 =>
        intro i y1 y2 y3 hi hyy hm H locs ls hP hD hS hl
        refine lv_iload hx hb dX11_waysWithoutFilm_63 (lv_at hl 6 rfl) ?_
        refine lv_iload_n hx hb dX11_waysWithoutFilm_65 rfl (lv_at hl 1 rfl) ?_
        refine z_icmp_ge (tgt := 106) hx hb (by omega) dX11_waysWithoutFilm_66 (by decide) (fun c_1 => ?_) (fun c_1 => ?_)
        · skip
          refine lv_iload hx hb dX11_waysWithoutFilm_106 (lv_at hl 3 rfl) ?_
          refine lv_iload hx hb dX11_waysWithoutFilm_108 (lv_at hl 4 rfl) ?_
          refine z_iadd hx hb dX11_waysWithoutFilm_110 ?_
          refine lv_iload hx hb dX11_waysWithoutFilm_111 (lv_at hl 5 rfl) ?_
          refine z_iadd hx hb dX11_waysWithoutFilm_113 ?_
          exact z_iret hQ hx hb hr hlocks hS ⟨Nat.le_of_ble_eq_true rfl, Nat.le_of_ble_eq_true rfl⟩ dX11_waysWithoutFilm_114 () (congrArg (fun z => some (Value.int (iI z))) (show (waysZ v x.toNat t : Int) = (y1 + y2) + y3 by unfold waysZ; rw [if_neg hnz, ← hw1, ← hw2, ← hw3, show x.toNat = i by omega, ← hyy])) trivial hP hD
        · skip
          refine lv_iload hx hb dX11_waysWithoutFilm_69 (lv_at hl 3 rfl) ?_
          refine lv_iload hx hb dX11_waysWithoutFilm_71 (lv_at hl 4 rfl) ?_
          refine z_iadd hx hb dX11_waysWithoutFilm_73 ?_
          refine lv_iload hx hb dX11_waysWithoutFilm_74 (lv_at hl 5 rfl) ?_
          refine z_iadd hx hb dX11_waysWithoutFilm_76 ?_
          refine lv_bipush (v := iI 10) hx hb dX11_waysWithoutFilm_77 (by decide) ?_
          refine lv_iload_n hx hb dX11_waysWithoutFilm_79 rfl (lv_at hl 2 rfl) ?_
          refine z_isub hx hb dX11_waysWithoutFilm_80 ?_
          refine z_imul hx hb dX11_waysWithoutFilm_81 ?_
          refine z_topi (fun z_2 ez_2 => ?_)
          refine lv_istore (lv' := [(9, .int (iI z_2)), (0, .ref a), (1, .int (iI x)), (2, .int (iI t)), (5, .int (iI y1)), (6, .int (iI y2)), (7, .int (iI y3)), (8, .int (iI (↑i)))]) hx hb dX11_waysWithoutFilm_82 hl (by decide) rfl (fun ls hl => ?_)
          refine lv_iload hx hb dX11_waysWithoutFilm_84 (lv_at hl 5 rfl) ?_
          refine lv_iload_n hx hb dX11_waysWithoutFilm_86 rfl (lv_at hl 3 rfl) ?_
          refine z_imul hx hb dX11_waysWithoutFilm_87 ?_
          refine z_topi (fun z_3 ez_3 => ?_)
          refine lv_istore (lv' := [(7, .int (iI z_3)), (9, .int (iI z_2)), (0, .ref a), (1, .int (iI x)), (2, .int (iI t)), (5, .int (iI y1)), (6, .int (iI y2)), (8, .int (iI (↑i)))]) hx hb dX11_waysWithoutFilm_88 hl (by decide) rfl (fun ls hl => ?_)
          refine lv_iload hx hb dX11_waysWithoutFilm_90 (lv_at hl 5 rfl) ?_
          refine lv_iload_n hx hb dX11_waysWithoutFilm_92 rfl (lv_at hl 4 rfl) ?_
          refine z_imul hx hb dX11_waysWithoutFilm_93 ?_
          refine z_topi (fun z_4 ez_4 => ?_)
          refine lv_istore (lv' := [(6, .int (iI z_4)), (7, .int (iI z_3)), (9, .int (iI z_2)), (0, .ref a), (1, .int (iI x)), (2, .int (iI t)), (5, .int (iI y1)), (8, .int (iI (↑i)))]) hx hb dX11_waysWithoutFilm_94 hl (by decide) rfl (fun ls hl => ?_)
          refine lv_iload hx hb dX11_waysWithoutFilm_96 (lv_at hl 2 rfl) ?_
          refine lv_istore (lv' := [(5, .int (iI z_2)), (6, .int (iI z_4)), (7, .int (iI z_3)), (9, .int (iI z_2)), (0, .ref a), (1, .int (iI x)), (2, .int (iI t)), (8, .int (iI (↑i)))]) hx hb dX11_waysWithoutFilm_98 hl (by decide) rfl (fun ls hl => ?_)
          refine z_iinc (k := 7) (lv' := [(8, .int (iI ((↑i) + 1))), (5, .int (iI z_2)), (6, .int (iI z_4)), (7, .int (iI z_3)), (9, .int (iI z_2)), (0, .ref a), (1, .int (iI x)), (2, .int (iI t))]) hx hb dX11_waysWithoutFilm_100 hl rfl (by decide) rfl (fun ls hl => ?_)
          refine lv_goto (tgt := 63) hx hb dX11_waysWithoutFilm_103 (by decide) ?_
          exact ih63  (i + 1) z_2 z_4 z_3 (by omega) (by unfold wz; rw [← hyy]; subst_vars; rfl) (by omega) _ _ _ hP hD hS (lv_sub hl [5, 6, 7, 1, 2, 3, 0] rfl)
    exact L63 ((x - ↑(0 : Nat)).toNat + 1) 0 w1 w2 w3 (by omega) (by rfl) (by omega) _ _ _ hP hD hS (lv_sub hl [1, 2, 3, 4, 5, 6, 0] rfl)
  refine lv_aload_n hx hb dX11_waysWithoutFilm_0 rfl (lv_at hl 0 rfl) ?_
  refine va_getN (ci := 4) (v := .int (iI (v 2))) (C := RX4) (T := TX4) (N := 6) hx hb hts inX4 hown hK.1 hP 0 rfl rfl 2 (by decide) (va_Nw.use rfl (hK.2.2.2.2.2.2.1 ("SkimmedSons", 240, "SkimmedSons$Pan", "fat", "I", "SkimmedSons") (by decide))) (fun _ h9 => h9) rfl dX11_waysWithoutFilm_1 ?_
  refine lv_aload_n hx hb dX11_waysWithoutFilm_4 rfl (lv_at hl 0 rfl) ?_
  refine va_getN (ci := 4) (v := .int (iI (v 3))) (C := RX4) (T := TX4) (N := 6) hx hb hts inX4 hown hK.1 hP 0 rfl rfl 3 (by decide) (va_Nw.use rfl (hK.2.2.2.2.2.2.1 ("SkimmedSons", 279, "SkimmedSons$Pan", "cream", "I", "SkimmedSons") (by decide))) (fun _ h9 => h9) rfl dX11_waysWithoutFilm_5 ?_
  refine z_iadd hx hb dX11_waysWithoutFilm_8 ?_
  refine z_if_ne (tgt := 14) hx hb (by omega) dX11_waysWithoutFilm_9 (by decide) (fun c_7 => ?_) (fun c_7 => ?_)
  · skip
    refine lv_aload_n hx hb dX11_waysWithoutFilm_14 rfl (lv_at hl 0 rfl) ?_
    refine va_getN (ci := 4) (v := .int (iI (v 1))) (C := RX4) (T := TX4) (N := 6) hx hb hts inX4 hown hK.1 hP 0 rfl rfl 1 (by decide) (va_Nw.use rfl (hK.2.2.2.2.2.2.1 ("SkimmedSons", 174, "SkimmedSons$Pan", "still", "I", "SkimmedSons") (by decide))) (fun _ h9 => h9) rfl dX11_waysWithoutFilm_15 ?_
    refine lv_iconst (v := iI 3) hx hb dX11_waysWithoutFilm_18 (by decide) ?_
    refine z_irem hx hb (by omega) dX11_waysWithoutFilm_19 ?_
    refine z_topi (fun z_8 ez_8 => ?_)
    refine lv_istore (lv' := [(4, .int (iI z_8)), (0, .ref a), (1, .int (iI x)), (2, .int (iI t)), (3, .int (iI y))]) hx hb dX11_waysWithoutFilm_20 hl (by decide) rfl (fun ls hl => ?_)
    refine lv_iload hx hb dX11_waysWithoutFilm_22 (lv_at hl 0 rfl) ?_
    refine z_if_ne (tgt := 31) hx hb (by omega) dX11_waysWithoutFilm_24 (by decide) (fun c_9 => ?_) (fun c_9 => ?_)
    · skip
      refine lv_iconst (v := iI 0) hx hb dX11_waysWithoutFilm_31 (by decide) ?_
      refine lv_istore (lv' := [(5, .int (iI 0)), (4, .int (iI z_8)), (0, .ref a), (1, .int (iI x)), (2, .int (iI t)), (3, .int (iI y))]) hx hb dX11_waysWithoutFilm_32 hl (by decide) rfl (fun ls hl => ?_)
      refine lv_iload hx hb dX11_waysWithoutFilm_34 (lv_at hl 1 rfl) ?_
      refine lv_iconst (v := iI 1) hx hb dX11_waysWithoutFilm_36 (by decide) ?_
      refine z_icmp_ne (tgt := 44) hx hb (by omega) dX11_waysWithoutFilm_37 (by decide) (fun c_10 => ?_) (fun c_10 => ?_)
      · skip
        refine lv_iconst (v := iI 0) hx hb dX11_waysWithoutFilm_44 (by decide) ?_
        refine lv_istore (lv' := [(6, .int (iI 0)), (5, .int (iI 0)), (4, .int (iI z_8)), (0, .ref a), (1, .int (iI x)), (2, .int (iI t)), (3, .int (iI y))]) hx hb dX11_waysWithoutFilm_45 hl (by decide) rfl (fun ls hl => ?_)
        refine lv_iload hx hb dX11_waysWithoutFilm_47 (lv_at hl 2 rfl) ?_
        refine lv_iconst (v := iI 2) hx hb dX11_waysWithoutFilm_49 (by decide) ?_
        refine z_icmp_ne (tgt := 57) hx hb (by omega) dX11_waysWithoutFilm_50 (by decide) (fun c_11 => ?_) (fun c_11 => ?_)
        · skip
          refine lv_iconst (v := iI 0) hx hb dX11_waysWithoutFilm_57 (by decide) ?_
          refine lv_istore (lv' := [(7, .int (iI 0)), (6, .int (iI 0)), (5, .int (iI 0)), (4, .int (iI z_8)), (0, .ref a), (1, .int (iI x)), (2, .int (iI t)), (3, .int (iI y))]) hx hb dX11_waysWithoutFilm_58 hl (by decide) rfl (fun ls hl => ?_)
          exact C60  0 0 0 (by omega) (by unfold ph; omega) (by unfold ph; omega) (by unfold ph; omega)  _ _ _ hP hD hS (lv_sub hl [4, 5, 6, 2, 1, 0] rfl)
        · skip
          refine lv_iconst (v := iI 1) hx hb dX11_waysWithoutFilm_53 (by decide) ?_
          refine lv_goto (tgt := 58) hx hb dX11_waysWithoutFilm_54 (by decide) ?_
          refine lv_istore (lv' := [(7, .int (iI 1)), (6, .int (iI 0)), (5, .int (iI 0)), (4, .int (iI z_8)), (0, .ref a), (1, .int (iI x)), (2, .int (iI t)), (3, .int (iI y))]) hx hb dX11_waysWithoutFilm_58 hl (by decide) rfl (fun ls hl => ?_)
          exact C60  0 0 1 (by omega) (by unfold ph; omega) (by unfold ph; omega) (by unfold ph; omega)  _ _ _ hP hD hS (lv_sub hl [4, 5, 6, 2, 1, 0] rfl)
      · skip
        refine lv_iconst (v := iI 1) hx hb dX11_waysWithoutFilm_40 (by decide) ?_
        refine lv_goto (tgt := 45) hx hb dX11_waysWithoutFilm_41 (by decide) ?_
        refine lv_istore (lv' := [(6, .int (iI 1)), (5, .int (iI 0)), (4, .int (iI z_8)), (0, .ref a), (1, .int (iI x)), (2, .int (iI t)), (3, .int (iI y))]) hx hb dX11_waysWithoutFilm_45 hl (by decide) rfl (fun ls hl => ?_)
        refine lv_iload hx hb dX11_waysWithoutFilm_47 (lv_at hl 2 rfl) ?_
        refine lv_iconst (v := iI 2) hx hb dX11_waysWithoutFilm_49 (by decide) ?_
        refine z_icmp_ne (tgt := 57) hx hb (by omega) dX11_waysWithoutFilm_50 (by decide) (fun c_14 => ?_) (fun c_14 => ?_)
        · skip
          refine lv_iconst (v := iI 0) hx hb dX11_waysWithoutFilm_57 (by decide) ?_
          refine lv_istore (lv' := [(7, .int (iI 0)), (6, .int (iI 1)), (5, .int (iI 0)), (4, .int (iI z_8)), (0, .ref a), (1, .int (iI x)), (2, .int (iI t)), (3, .int (iI y))]) hx hb dX11_waysWithoutFilm_58 hl (by decide) rfl (fun ls hl => ?_)
          exact C60  0 1 0 (by omega) (by unfold ph; omega) (by unfold ph; omega) (by unfold ph; omega)  _ _ _ hP hD hS (lv_sub hl [4, 5, 6, 2, 1, 0] rfl)
        · skip
          refine lv_iconst (v := iI 1) hx hb dX11_waysWithoutFilm_53 (by decide) ?_
          refine lv_goto (tgt := 58) hx hb dX11_waysWithoutFilm_54 (by decide) ?_
          refine lv_istore (lv' := [(7, .int (iI 1)), (6, .int (iI 1)), (5, .int (iI 0)), (4, .int (iI z_8)), (0, .ref a), (1, .int (iI x)), (2, .int (iI t)), (3, .int (iI y))]) hx hb dX11_waysWithoutFilm_58 hl (by decide) rfl (fun ls hl => ?_)
          exact C60  0 1 1 (by omega) (by unfold ph; omega) (by unfold ph; omega) (by unfold ph; omega)  _ _ _ hP hD hS (lv_sub hl [4, 5, 6, 2, 1, 0] rfl)
    · skip
      refine lv_iconst (v := iI 1) hx hb dX11_waysWithoutFilm_27 (by decide) ?_
      refine lv_goto (tgt := 32) hx hb dX11_waysWithoutFilm_28 (by decide) ?_
      refine lv_istore (lv' := [(5, .int (iI 1)), (4, .int (iI z_8)), (0, .ref a), (1, .int (iI x)), (2, .int (iI t)), (3, .int (iI y))]) hx hb dX11_waysWithoutFilm_32 hl (by decide) rfl (fun ls hl => ?_)
      refine lv_iload hx hb dX11_waysWithoutFilm_34 (lv_at hl 1 rfl) ?_
      refine lv_iconst (v := iI 1) hx hb dX11_waysWithoutFilm_36 (by decide) ?_
      refine z_icmp_ne (tgt := 44) hx hb (by omega) dX11_waysWithoutFilm_37 (by decide) (fun c_17 => ?_) (fun c_17 => ?_)
      · skip
        refine lv_iconst (v := iI 0) hx hb dX11_waysWithoutFilm_44 (by decide) ?_
        refine lv_istore (lv' := [(6, .int (iI 0)), (5, .int (iI 1)), (4, .int (iI z_8)), (0, .ref a), (1, .int (iI x)), (2, .int (iI t)), (3, .int (iI y))]) hx hb dX11_waysWithoutFilm_45 hl (by decide) rfl (fun ls hl => ?_)
        refine lv_iload hx hb dX11_waysWithoutFilm_47 (lv_at hl 2 rfl) ?_
        refine lv_iconst (v := iI 2) hx hb dX11_waysWithoutFilm_49 (by decide) ?_
        refine z_icmp_ne (tgt := 57) hx hb (by omega) dX11_waysWithoutFilm_50 (by decide) (fun c_18 => ?_) (fun c_18 => ?_)
        · skip
          refine lv_iconst (v := iI 0) hx hb dX11_waysWithoutFilm_57 (by decide) ?_
          refine lv_istore (lv' := [(7, .int (iI 0)), (6, .int (iI 0)), (5, .int (iI 1)), (4, .int (iI z_8)), (0, .ref a), (1, .int (iI x)), (2, .int (iI t)), (3, .int (iI y))]) hx hb dX11_waysWithoutFilm_58 hl (by decide) rfl (fun ls hl => ?_)
          exact C60  1 0 0 (by omega) (by unfold ph; omega) (by unfold ph; omega) (by unfold ph; omega)  _ _ _ hP hD hS (lv_sub hl [4, 5, 6, 2, 1, 0] rfl)
        · skip
          refine lv_iconst (v := iI 1) hx hb dX11_waysWithoutFilm_53 (by decide) ?_
          refine lv_goto (tgt := 58) hx hb dX11_waysWithoutFilm_54 (by decide) ?_
          refine lv_istore (lv' := [(7, .int (iI 1)), (6, .int (iI 0)), (5, .int (iI 1)), (4, .int (iI z_8)), (0, .ref a), (1, .int (iI x)), (2, .int (iI t)), (3, .int (iI y))]) hx hb dX11_waysWithoutFilm_58 hl (by decide) rfl (fun ls hl => ?_)
          exact C60  1 0 1 (by omega) (by unfold ph; omega) (by unfold ph; omega) (by unfold ph; omega)  _ _ _ hP hD hS (lv_sub hl [4, 5, 6, 2, 1, 0] rfl)
      · skip
        refine lv_iconst (v := iI 1) hx hb dX11_waysWithoutFilm_40 (by decide) ?_
        refine lv_goto (tgt := 45) hx hb dX11_waysWithoutFilm_41 (by decide) ?_
        refine lv_istore (lv' := [(6, .int (iI 1)), (5, .int (iI 1)), (4, .int (iI z_8)), (0, .ref a), (1, .int (iI x)), (2, .int (iI t)), (3, .int (iI y))]) hx hb dX11_waysWithoutFilm_45 hl (by decide) rfl (fun ls hl => ?_)
        refine lv_iload hx hb dX11_waysWithoutFilm_47 (lv_at hl 2 rfl) ?_
        refine lv_iconst (v := iI 2) hx hb dX11_waysWithoutFilm_49 (by decide) ?_
        refine z_icmp_ne (tgt := 57) hx hb (by omega) dX11_waysWithoutFilm_50 (by decide) (fun c_21 => ?_) (fun c_21 => ?_)
        · skip
          refine lv_iconst (v := iI 0) hx hb dX11_waysWithoutFilm_57 (by decide) ?_
          refine lv_istore (lv' := [(7, .int (iI 0)), (6, .int (iI 1)), (5, .int (iI 1)), (4, .int (iI z_8)), (0, .ref a), (1, .int (iI x)), (2, .int (iI t)), (3, .int (iI y))]) hx hb dX11_waysWithoutFilm_58 hl (by decide) rfl (fun ls hl => ?_)
          exact C60  1 1 0 (by omega) (by unfold ph; omega) (by unfold ph; omega) (by unfold ph; omega)  _ _ _ hP hD hS (lv_sub hl [4, 5, 6, 2, 1, 0] rfl)
        · skip
          refine lv_iconst (v := iI 1) hx hb dX11_waysWithoutFilm_53 (by decide) ?_
          refine lv_goto (tgt := 58) hx hb dX11_waysWithoutFilm_54 (by decide) ?_
          refine lv_istore (lv' := [(7, .int (iI 1)), (6, .int (iI 1)), (5, .int (iI 1)), (4, .int (iI z_8)), (0, .ref a), (1, .int (iI x)), (2, .int (iI t)), (3, .int (iI y))]) hx hb dX11_waysWithoutFilm_58 hl (by decide) rfl (fun ls hl => ?_)
          exact C60  1 1 1 (by omega) (by unfold ph; omega) (by unfold ph; omega) (by unfold ph; omega)  _ _ _ hP hD hS (lv_sub hl [4, 5, 6, 2, 1, 0] rfl)
  · skip
    refine lv_iload_n hx hb dX11_waysWithoutFilm_12 rfl (lv_at hl 3 rfl) ?_
    exact z_iret hQ hx hb hr hlocks hS ⟨Nat.le_of_ble_eq_true rfl, Nat.le_of_ble_eq_true rfl⟩ dX11_waysWithoutFilm_13 () (congrArg (fun z => some (Value.int (iI z))) (show (waysZ v x.toNat t : Int) = y by unfold waysZ; rw [if_pos (by omega), hy1])) trivial hP hD
set_option maxHeartbeats 1000000 in
set_option maxRecDepth 100000 in
theorem c_X11_commonDivisor (l : Launch) (X : zX) (x : Int) (y : Int) (hx1 : 0 < x ∧ x ≤ 100000000) (hy1 : 0 ≤ y ∧ y ≤ x) : zF l X yX11_commonDivisor wsX11_commonDivisor 0 0 [.int (iI x), .int (iI y)] (zb []) (some (.int (iI (gcdZ x y)))) (zb []) := by
  refine z_enter (cc := cX11_commonDivisor) (maxL := 6) (ret := (some .int)) (by decide) rfl (Nat.le_of_ble_eq_true rfl) ?_
  intro p e s m below meth c A ls Q hQ hE hl hP hD
  obtain ⟨hx, hb, hr, hml, hown, hts, hlocks, hnm, hA, hK⟩ := hE
  have hown : s.vm.findClass RX11 = some m.cls := hown
  have hS : va_S A s.heap s.heap [] := va_S.rf
  have hl : lv_has ls 6 [(0, .int (iI x)), (1, .int (iI y))] := hl
  obtain ⟨x1, hx2⟩ := Int.eq_ofNat_of_zero_le (show 0 ≤ x by omega)
  obtain ⟨y1, hy2⟩ := Int.eq_ofNat_of_zero_le (show 0 ≤ y by omega)
  refine lv_iload_n hx hb dX11_commonDivisor_0 rfl (lv_at hl 0 rfl) ?_
  refine lv_istore_n (lv' := [(2, .int (iI x)), (0, .int (iI x)), (1, .int (iI y))]) hx hb dX11_commonDivisor_1 rfl hl (by decide) rfl (fun ls hl => ?_)
  refine lv_iload_n hx hb dX11_commonDivisor_2 rfl (lv_at hl 2 rfl) ?_
  refine lv_istore_n (lv' := [(3, .int (iI y)), (2, .int (iI x)), (0, .int (iI x)), (1, .int (iI y))]) hx hb dX11_commonDivisor_3 rfl hl (by decide) rfl (fun ls hl => ?_)
  refine lv_iconst (v := iI 0) hx hb dX11_commonDivisor_4 (by decide) ?_
  refine lv_istore (lv' := [(4, .int (iI 0)), (3, .int (iI y)), (2, .int (iI x)), (0, .int (iI x)), (1, .int (iI y))]) hx hb dX11_commonDivisor_5 hl (by decide) rfl (fun ls hl => ?_)
  rw [hx2, hy2] at hl
  have L7 : ∀ (fu : Nat) (t : Nat) (u : Nat) (w : Nat), (t ≤ 64) → (Nat.gcd u w = Nat.gcd x1 y1) → (w ≤ u ∧ 0 < u ∧ u ≤ 100000000) → (u * w * 2 ^ t ≤ 10000000000000000) → (64 - t) < fu → ∀ (H : Heap) (locs : List Loc) (ls : Array Slot), va_P X.1 vwCl (zb []) H → va_D A (zb []) → va_S A s.heap H locs → lv_has ls 6 [(2, .int (iI (↑u))), (3, .int (iI (↑w))), (4, .int (iI (↑t)))] → W p l e { frames := 0, cells := 0, slots := 0, locals := 0 } s m ([.int (iI x), .int (iI y)] : List Value).toArray below meth c H locs 0 0 Q (F0 m 7 ls []) := by
    intro fu
    induction fu with
    | zero => intro t u w ht hg huw hpr hm; exact absurd hm (Nat.not_lt_zero _)
    | succ fu ih7 =>
      intro t u w ht hg huw hpr hm H locs ls hP hD hS hl
      refine lv_iload hx hb dX11_commonDivisor_7 (lv_at hl 2 rfl) ?_
      refine lv_bipush (v := iI 64) hx hb dX11_commonDivisor_9 (by decide) ?_
      refine z_icmp_ge (tgt := 34) hx hb (by omega) dX11_commonDivisor_11 (by decide) (fun c_1 => ?_) (fun c_1 => ?_)
      · skip
        refine lv_iload_n hx hb dX11_commonDivisor_34 rfl (lv_at hl 0 rfl) ?_
        exact z_iret hQ hx hb hr hlocks hS ⟨Nat.le_of_ble_eq_true rfl, Nat.le_of_ble_eq_true rfl⟩ dX11_commonDivisor_35 () (congrArg (fun z => some (Value.int (iI z))) (show (gcdZ x y : Int) = ↑u by have hw0 : w = 0 := (by first | omega | exact gcd_end huw.2.1 (by rw [show t = 64 by omega] at hpr; exact hpr)); unfold gcdZ; rw [hx2, hy2, show ((x1 : Int)).toNat = x1 from rfl, show ((y1 : Int)).toNat = y1 from rfl, ← hg, hw0, Nat.gcd_zero_right])) trivial hP hD
      · skip
        refine lv_iload_n hx hb dX11_commonDivisor_14 rfl (lv_at hl 1 rfl) ?_
        refine z_if_eq (tgt := 34) hx hb (by omega) dX11_commonDivisor_15 (by decide) (fun c_2 => ?_) (fun c_2 => ?_)
        · skip
          refine lv_iload_n hx hb dX11_commonDivisor_34 rfl (lv_at hl 0 rfl) ?_
          exact z_iret hQ hx hb hr hlocks hS ⟨Nat.le_of_ble_eq_true rfl, Nat.le_of_ble_eq_true rfl⟩ dX11_commonDivisor_35 () (congrArg (fun z => some (Value.int (iI z))) (show (gcdZ x y : Int) = ↑u by have hw0 : w = 0 := (by first | omega | exact gcd_end huw.2.1 (by rw [show t = 64 by omega] at hpr; exact hpr)); unfold gcdZ; rw [hx2, hy2, show ((x1 : Int)).toNat = x1 from rfl, show ((y1 : Int)).toNat = y1 from rfl, ← hg, hw0, Nat.gcd_zero_right])) trivial hP hD
        · skip
          refine lv_iload_n hx hb dX11_commonDivisor_18 rfl (lv_at hl 0 rfl) ?_
          refine lv_iload_n hx hb dX11_commonDivisor_19 rfl (lv_at hl 1 rfl) ?_
          refine z_irem hx hb (by omega) dX11_commonDivisor_20 ?_
          refine z_topi (fun z_3 ez_3 => ?_)
          refine lv_istore (lv' := [(5, .int (iI z_3)), (2, .int (iI (↑u))), (3, .int (iI (↑w))), (4, .int (iI (↑t)))]) hx hb dX11_commonDivisor_21 hl (by decide) rfl (fun ls hl => ?_)
          subst ez_3
          refine lv_iload_n hx hb dX11_commonDivisor_23 rfl (lv_at hl 2 rfl) ?_
          refine lv_istore_n (lv' := [(2, .int (iI (↑w))), (5, .int (iI ((↑u) % (↑w)))), (3, .int (iI (↑w))), (4, .int (iI (↑t)))]) hx hb dX11_commonDivisor_24 rfl hl (by decide) rfl (fun ls hl => ?_)
          refine lv_iload hx hb dX11_commonDivisor_25 (lv_at hl 1 rfl) ?_
          refine z_topi (fun z_4 ez_4 => ?_)
          refine lv_istore_n (lv' := [(3, .int (iI z_4)), (2, .int (iI (↑w))), (5, .int (iI ((↑u) % (↑w)))), (4, .int (iI (↑t)))]) hx hb dX11_commonDivisor_27 rfl hl (by decide) rfl (fun ls hl => ?_)
          subst ez_4
          refine z_iinc (k := 3) (lv' := [(4, .int (iI ((↑t) + 1))), (3, .int (iI ((↑u) % (↑w)))), (2, .int (iI (↑w))), (5, .int (iI ((↑u) % (↑w))))]) hx hb dX11_commonDivisor_28 hl rfl (by decide) rfl (fun ls hl => ?_)
          refine lv_goto (tgt := 7) hx hb dX11_commonDivisor_31 (by decide) ?_
          exact ih7  (t + 1) w (u % w) (by omega) (by rw [gcd_step]; exact hg) (by have := Nat.mod_lt u (show 0 < w by omega); omega) (by exact gcd_prod huw.1 (by omega) hpr) (by omega) _ _ _ hP hD hS (lv_sub hl [2, 1, 0] rfl)
  exact L7 ((64 - 0) + 1) 0 x1 y1 (by omega) (by rfl) (by omega) (by exact prod0 (by omega) (by omega)) (by omega) _ _ _ hP hD hS (lv_sub hl [2, 1, 0] rfl)
