set_option maxHeartbeats 1000000 in
set_option maxRecDepth 100000 in
theorem c_X5_note_0 (l : Launch) (X : zX) (o : Nat) (a : Nat) (b : Nat) (hq : Nat → Nat) (fp : Nat → Int) (z : Int) (t : Int) (hz : -1 ≤ z ∧ z ≤ 2) (ht : fp 1 = 4 ^ 1 * t) (ht2 : 0 ≤ t ∧ t < 256) : zF l X yX5_note wsX5_note 0 0 [.ref o, .int (iI 0), .int (iI z)] (zb [Wpl X o a b hq fp]) none (zb [Wpl X o a b hq (updZ fp 0 (4 ^ 0 * (z + 1 + 4 * t)))]) := by
  refine z_enter (cc := cX5_note) (maxL := 3) (ret := none) (by decide) rfl (Nat.le_of_ble_eq_true rfl) ?_
  intro p e s m below meth c A ls Q hQ hE hl hP hD
  obtain ⟨hx, hb, hr, hml, hown, hts, hlocks, hnm, hA, hK⟩ := hE
  have hown : s.vm.findClass RX5 = some m.cls := hown
  have hS : va_S A s.heap s.heap [] := va_S.rf
  have hl : lv_has ls 3 [(0, .ref o), (1, .int (iI 0)), (2, .int (iI z))] := hl
  have inX5 : ∀ w ∈ u_ws RX5 TX5 2, w ∈ wsX5_note := by decide +kernel
  refine lv_aload_n hx hb dX5_note_0 rfl (lv_at hl 0 rfl) ?_
  refine va_get (ci := 5) (v := .ref b) (C := RX5) (T := TX5) (N := 2) hx hb hts inX5 hown hK.1 hP 0 rfl rfl 1 (by decide) (hts (.fieldLink RX5 17 "SkimmedSons$Planner" "paths" "[I") (by decide +kernel)) (fun _ h9 => h9) rfl dX5_note_1 ?_
  refine lv_iload_n hx hb dX5_note_4 rfl (lv_at hl 1 rfl) ?_
  refine lv_iload_n hx hb dX5_note_5 rfl (lv_at hl 2 rfl) ?_
  refine lv_iconst (v := iI 1) hx hb dX5_note_6 (by decide) ?_
  refine z_iadd hx hb dX5_note_7 ?_
  refine lv_iconst (v := iI 2) hx hb dX5_note_8 (by decide) ?_
  refine lv_iload_n hx hb dX5_note_9 rfl (lv_at hl 1 rfl) ?_
  refine z_imul hx hb dX5_note_10 ?_
  refine W.eq (g2 := F0 m 11 ls [.int (iI 0), .int (iI (z + 1)), .int (iI 0), .ref b]) rfl ?_
  refine z_shl 0 hx hb (by decide) (by decide) (by omega) dX5_note_11 ?_
  refine lv_aload_n hx hb dX5_note_12 rfl (lv_at hl 0 rfl) ?_
  refine va_get (ci := 5) (v := .ref b) (C := RX5) (T := TX5) (N := 2) hx hb hts inX5 hown hK.1 hP 0 rfl rfl 1 (by decide) (hts (.fieldLink RX5 17 "SkimmedSons$Planner" "paths" "[I") (by decide +kernel)) (fun _ h9 => h9) rfl dX5_note_13 ?_
  refine lv_iload_n hx hb dX5_note_16 rfl (lv_at hl 1 rfl) ?_
  refine lv_iconst (v := iI 1) hx hb dX5_note_17 (by decide) ?_
  refine z_iadd hx hb dX5_note_18 ?_
  refine W.eq (g2 := F0 m 19 ls [.int (iI 1), .ref b, .int (iI ((z + 1) * 2 ^ 0)), .int (iI 0), .ref b]) rfl ?_
  refine z_iald hx hb hK.1 hP 2 rfl (by omega) dX5_note_19 ?_
  refine W.eq (g2 := F0 m 20 ls [.int (iI (fp 1)), .int (iI ((z + 1) * 2 ^ 0)), .int (iI 0), .ref b]) rfl ?_
  refine z_ors 2 t hx hb (by rw [ht]; rfl) (by omega) (by omega) dX5_note_20 ?_
  refine z_topi (fun z_1 ez_1 => ?_)
  refine z_iast hx hb hK.1 hP hD hS 2 rfl (by omega) dX5_note_21 (fun H locs hP hD hS => ?_)
  have hP : va_P X.1 vwCl (zb [Wpl X o a b hq (updZ fp 0 z_1)]) H := hP
  have hD : va_D A (zb [Wpl X o a b hq (updZ fp 0 z_1)]) := hD
  have hw : zb [Wpl X o a b hq (updZ fp 0 z_1)] = zb [Wpl X o a b hq (updZ fp 0 (4 ^ 0 * (z + 1 + 4 * t)))] := by rw [show z_1 = 4 ^ 0 * (z + 1 + 4 * t) by omega]
  rw [hw] at hP hD
  exact z_vret hQ hx hb hr hlocks hS ⟨Nat.le_of_ble_eq_true rfl, Nat.le_of_ble_eq_true rfl⟩ dX5_note_22 () rfl trivial hP hD
set_option maxHeartbeats 1000000 in
set_option maxRecDepth 100000 in
theorem c_X5_panOfHour_0 (l : Launch) (X : zX) (o : Nat) (a : Nat) (b : Nat) (hq : Nat → Nat) (fp : Nat → Int) (hf : 0 ≤ fp 0 ∧ fp 0 < 1000) : zF l X yX5_panOfHour wsX5_panOfHour 0 0 [.ref o, .int (iI 0)] (zb [Wpl X o a b hq fp]) (some (.int (iI ((fp 0 / 4 ^ 0) % 4 - 1)))) (zb [Wpl X o a b hq fp]) := by
  refine z_enter (cc := cX5_panOfHour) (maxL := 2) (ret := (some .int)) (by decide) rfl (Nat.le_of_ble_eq_true rfl) ?_
  intro p e s m below meth c A ls Q hQ hE hl hP hD
  obtain ⟨hx, hb, hr, hml, hown, hts, hlocks, hnm, hA, hK⟩ := hE
  have hown : s.vm.findClass RX5 = some m.cls := hown
  have hS : va_S A s.heap s.heap [] := va_S.rf
  have hl : lv_has ls 2 [(0, .ref o), (1, .int (iI 0))] := hl
  have inX5 : ∀ w ∈ u_ws RX5 TX5 2, w ∈ wsX5_panOfHour := by decide +kernel
  refine lv_aload_n hx hb dX5_panOfHour_0 rfl (lv_at hl 0 rfl) ?_
  refine va_get (ci := 5) (v := .ref b) (C := RX5) (T := TX5) (N := 2) hx hb hts inX5 hown hK.1 hP 0 rfl rfl 1 (by decide) (hts (.fieldLink RX5 17 "SkimmedSons$Planner" "paths" "[I") (by decide +kernel)) (fun _ h9 => h9) rfl dX5_panOfHour_1 ?_
  refine lv_iconst (v := iI 0) hx hb dX5_panOfHour_4 (by decide) ?_
  refine z_iald hx hb hK.1 hP 2 rfl (by omega) dX5_panOfHour_5 ?_
  refine W.eq (g2 := F0 m 6 ls [.int (iI (fp 0))]) rfl ?_
  refine lv_iconst (v := iI 2) hx hb dX5_panOfHour_6 (by decide) ?_
  refine lv_iload_n hx hb dX5_panOfHour_7 rfl (lv_at hl 1 rfl) ?_
  refine z_imul hx hb dX5_panOfHour_8 ?_
  refine W.eq (g2 := F0 m 9 ls [.int (iI 0), .int (iI (fp 0))]) rfl ?_
  refine z_shr 0 hx hb (by decide) (by decide) (by omega) dX5_panOfHour_9 ?_
  refine lv_iconst (v := iI 3) hx hb dX5_panOfHour_10 (by decide) ?_
  refine z_and3 hx hb (by omega) dX5_panOfHour_11 ?_
  refine lv_iconst (v := iI 1) hx hb dX5_panOfHour_12 (by decide) ?_
  refine z_isub hx hb dX5_panOfHour_13 ?_
  exact z_iret hQ hx hb hr hlocks hS ⟨Nat.le_of_ble_eq_true rfl, Nat.le_of_ble_eq_true rfl⟩ dX5_panOfHour_14 () (congrArg (fun z => some (Value.int (iI z))) (show ((fp 0 / 4 ^ 0) % 4 - 1 : Int) = (((fp 0) / 2 ^ 0) % 4) - 1 by rfl)) trivial hP hD
set_option maxHeartbeats 1000000 in
set_option maxRecDepth 100000 in
theorem c_X5_note_1 (l : Launch) (X : zX) (o : Nat) (a : Nat) (b : Nat) (hq : Nat → Nat) (fp : Nat → Int) (z : Int) (t : Int) (hz : -1 ≤ z ∧ z ≤ 2) (ht : fp 2 = 4 ^ 2 * t) (ht2 : 0 ≤ t ∧ t < 256) : zF l X yX5_note wsX5_note 0 0 [.ref o, .int (iI 1), .int (iI z)] (zb [Wpl X o a b hq fp]) none (zb [Wpl X o a b hq (updZ fp 1 (4 ^ 1 * (z + 1 + 4 * t)))]) := by
  refine z_enter (cc := cX5_note) (maxL := 3) (ret := none) (by decide) rfl (Nat.le_of_ble_eq_true rfl) ?_
  intro p e s m below meth c A ls Q hQ hE hl hP hD
  obtain ⟨hx, hb, hr, hml, hown, hts, hlocks, hnm, hA, hK⟩ := hE
  have hown : s.vm.findClass RX5 = some m.cls := hown
  have hS : va_S A s.heap s.heap [] := va_S.rf
  have hl : lv_has ls 3 [(0, .ref o), (1, .int (iI 1)), (2, .int (iI z))] := hl
  have inX5 : ∀ w ∈ u_ws RX5 TX5 2, w ∈ wsX5_note := by decide +kernel
  refine lv_aload_n hx hb dX5_note_0 rfl (lv_at hl 0 rfl) ?_
  refine va_get (ci := 5) (v := .ref b) (C := RX5) (T := TX5) (N := 2) hx hb hts inX5 hown hK.1 hP 0 rfl rfl 1 (by decide) (hts (.fieldLink RX5 17 "SkimmedSons$Planner" "paths" "[I") (by decide +kernel)) (fun _ h9 => h9) rfl dX5_note_1 ?_
  refine lv_iload_n hx hb dX5_note_4 rfl (lv_at hl 1 rfl) ?_
  refine lv_iload_n hx hb dX5_note_5 rfl (lv_at hl 2 rfl) ?_
  refine lv_iconst (v := iI 1) hx hb dX5_note_6 (by decide) ?_
  refine z_iadd hx hb dX5_note_7 ?_
  refine lv_iconst (v := iI 2) hx hb dX5_note_8 (by decide) ?_
  refine lv_iload_n hx hb dX5_note_9 rfl (lv_at hl 1 rfl) ?_
  refine z_imul hx hb dX5_note_10 ?_
  refine W.eq (g2 := F0 m 11 ls [.int (iI 2), .int (iI (z + 1)), .int (iI 1), .ref b]) rfl ?_
  refine z_shl 2 hx hb (by decide) (by decide) (by omega) dX5_note_11 ?_
  refine lv_aload_n hx hb dX5_note_12 rfl (lv_at hl 0 rfl) ?_
  refine va_get (ci := 5) (v := .ref b) (C := RX5) (T := TX5) (N := 2) hx hb hts inX5 hown hK.1 hP 0 rfl rfl 1 (by decide) (hts (.fieldLink RX5 17 "SkimmedSons$Planner" "paths" "[I") (by decide +kernel)) (fun _ h9 => h9) rfl dX5_note_13 ?_
  refine lv_iload_n hx hb dX5_note_16 rfl (lv_at hl 1 rfl) ?_
  refine lv_iconst (v := iI 1) hx hb dX5_note_17 (by decide) ?_
  refine z_iadd hx hb dX5_note_18 ?_
  refine W.eq (g2 := F0 m 19 ls [.int (iI 2), .ref b, .int (iI ((z + 1) * 2 ^ 2)), .int (iI 1), .ref b]) rfl ?_
  refine z_iald hx hb hK.1 hP 2 rfl (by omega) dX5_note_19 ?_
  refine W.eq (g2 := F0 m 20 ls [.int (iI (fp 2)), .int (iI ((z + 1) * 2 ^ 2)), .int (iI 1), .ref b]) rfl ?_
  refine z_ors 4 t hx hb (by rw [ht]; rfl) (by omega) (by omega) dX5_note_20 ?_
  refine z_topi (fun z_1 ez_1 => ?_)
  refine z_iast hx hb hK.1 hP hD hS 2 rfl (by omega) dX5_note_21 (fun H locs hP hD hS => ?_)
  have hP : va_P X.1 vwCl (zb [Wpl X o a b hq (updZ fp 1 z_1)]) H := hP
  have hD : va_D A (zb [Wpl X o a b hq (updZ fp 1 z_1)]) := hD
  have hw : zb [Wpl X o a b hq (updZ fp 1 z_1)] = zb [Wpl X o a b hq (updZ fp 1 (4 ^ 1 * (z + 1 + 4 * t)))] := by rw [show z_1 = 4 ^ 1 * (z + 1 + 4 * t) by omega]
  rw [hw] at hP hD
  exact z_vret hQ hx hb hr hlocks hS ⟨Nat.le_of_ble_eq_true rfl, Nat.le_of_ble_eq_true rfl⟩ dX5_note_22 () rfl trivial hP hD
set_option maxHeartbeats 1000000 in
set_option maxRecDepth 100000 in
theorem c_X5_panOfHour_1 (l : Launch) (X : zX) (o : Nat) (a : Nat) (b : Nat) (hq : Nat → Nat) (fp : Nat → Int) (hf : 0 ≤ fp 0 ∧ fp 0 < 1000) : zF l X yX5_panOfHour wsX5_panOfHour 0 0 [.ref o, .int (iI 1)] (zb [Wpl X o a b hq fp]) (some (.int (iI ((fp 0 / 4 ^ 1) % 4 - 1)))) (zb [Wpl X o a b hq fp]) := by
  refine z_enter (cc := cX5_panOfHour) (maxL := 2) (ret := (some .int)) (by decide) rfl (Nat.le_of_ble_eq_true rfl) ?_
  intro p e s m below meth c A ls Q hQ hE hl hP hD
  obtain ⟨hx, hb, hr, hml, hown, hts, hlocks, hnm, hA, hK⟩ := hE
  have hown : s.vm.findClass RX5 = some m.cls := hown
  have hS : va_S A s.heap s.heap [] := va_S.rf
  have hl : lv_has ls 2 [(0, .ref o), (1, .int (iI 1))] := hl
  have inX5 : ∀ w ∈ u_ws RX5 TX5 2, w ∈ wsX5_panOfHour := by decide +kernel
  refine lv_aload_n hx hb dX5_panOfHour_0 rfl (lv_at hl 0 rfl) ?_
  refine va_get (ci := 5) (v := .ref b) (C := RX5) (T := TX5) (N := 2) hx hb hts inX5 hown hK.1 hP 0 rfl rfl 1 (by decide) (hts (.fieldLink RX5 17 "SkimmedSons$Planner" "paths" "[I") (by decide +kernel)) (fun _ h9 => h9) rfl dX5_panOfHour_1 ?_
  refine lv_iconst (v := iI 0) hx hb dX5_panOfHour_4 (by decide) ?_
  refine z_iald hx hb hK.1 hP 2 rfl (by omega) dX5_panOfHour_5 ?_
  refine W.eq (g2 := F0 m 6 ls [.int (iI (fp 0))]) rfl ?_
  refine lv_iconst (v := iI 2) hx hb dX5_panOfHour_6 (by decide) ?_
  refine lv_iload_n hx hb dX5_panOfHour_7 rfl (lv_at hl 1 rfl) ?_
  refine z_imul hx hb dX5_panOfHour_8 ?_
  refine W.eq (g2 := F0 m 9 ls [.int (iI 2), .int (iI (fp 0))]) rfl ?_
  refine z_shr 2 hx hb (by decide) (by decide) (by omega) dX5_panOfHour_9 ?_
  refine lv_iconst (v := iI 3) hx hb dX5_panOfHour_10 (by decide) ?_
  refine z_and3 hx hb (by omega) dX5_panOfHour_11 ?_
  refine lv_iconst (v := iI 1) hx hb dX5_panOfHour_12 (by decide) ?_
  refine z_isub hx hb dX5_panOfHour_13 ?_
  exact z_iret hQ hx hb hr hlocks hS ⟨Nat.le_of_ble_eq_true rfl, Nat.le_of_ble_eq_true rfl⟩ dX5_panOfHour_14 () (congrArg (fun z => some (Value.int (iI z))) (show ((fp 0 / 4 ^ 1) % 4 - 1 : Int) = (((fp 0) / 2 ^ 2) % 4) - 1 by rfl)) trivial hP hD
set_option maxHeartbeats 1000000 in
set_option maxRecDepth 100000 in
theorem c_X5_note_2 (l : Launch) (X : zX) (o : Nat) (a : Nat) (b : Nat) (hq : Nat → Nat) (fp : Nat → Int) (z : Int) (t : Int) (hz : -1 ≤ z ∧ z ≤ 2) (ht : fp 3 = 4 ^ 3 * t) (ht2 : 0 ≤ t ∧ t < 256) : zF l X yX5_note wsX5_note 0 0 [.ref o, .int (iI 2), .int (iI z)] (zb [Wpl X o a b hq fp]) none (zb [Wpl X o a b hq (updZ fp 2 (4 ^ 2 * (z + 1 + 4 * t)))]) := by
  refine z_enter (cc := cX5_note) (maxL := 3) (ret := none) (by decide) rfl (Nat.le_of_ble_eq_true rfl) ?_
  intro p e s m below meth c A ls Q hQ hE hl hP hD
  obtain ⟨hx, hb, hr, hml, hown, hts, hlocks, hnm, hA, hK⟩ := hE
  have hown : s.vm.findClass RX5 = some m.cls := hown
  have hS : va_S A s.heap s.heap [] := va_S.rf
  have hl : lv_has ls 3 [(0, .ref o), (1, .int (iI 2)), (2, .int (iI z))] := hl
  have inX5 : ∀ w ∈ u_ws RX5 TX5 2, w ∈ wsX5_note := by decide +kernel
  refine lv_aload_n hx hb dX5_note_0 rfl (lv_at hl 0 rfl) ?_
  refine va_get (ci := 5) (v := .ref b) (C := RX5) (T := TX5) (N := 2) hx hb hts inX5 hown hK.1 hP 0 rfl rfl 1 (by decide) (hts (.fieldLink RX5 17 "SkimmedSons$Planner" "paths" "[I") (by decide +kernel)) (fun _ h9 => h9) rfl dX5_note_1 ?_
  refine lv_iload_n hx hb dX5_note_4 rfl (lv_at hl 1 rfl) ?_
  refine lv_iload_n hx hb dX5_note_5 rfl (lv_at hl 2 rfl) ?_
  refine lv_iconst (v := iI 1) hx hb dX5_note_6 (by decide) ?_
  refine z_iadd hx hb dX5_note_7 ?_
  refine lv_iconst (v := iI 2) hx hb dX5_note_8 (by decide) ?_
  refine lv_iload_n hx hb dX5_note_9 rfl (lv_at hl 1 rfl) ?_
  refine z_imul hx hb dX5_note_10 ?_
  refine W.eq (g2 := F0 m 11 ls [.int (iI 4), .int (iI (z + 1)), .int (iI 2), .ref b]) rfl ?_
  refine z_shl 4 hx hb (by decide) (by decide) (by omega) dX5_note_11 ?_
  refine lv_aload_n hx hb dX5_note_12 rfl (lv_at hl 0 rfl) ?_
  refine va_get (ci := 5) (v := .ref b) (C := RX5) (T := TX5) (N := 2) hx hb hts inX5 hown hK.1 hP 0 rfl rfl 1 (by decide) (hts (.fieldLink RX5 17 "SkimmedSons$Planner" "paths" "[I") (by decide +kernel)) (fun _ h9 => h9) rfl dX5_note_13 ?_
  refine lv_iload_n hx hb dX5_note_16 rfl (lv_at hl 1 rfl) ?_
  refine lv_iconst (v := iI 1) hx hb dX5_note_17 (by decide) ?_
  refine z_iadd hx hb dX5_note_18 ?_
  refine W.eq (g2 := F0 m 19 ls [.int (iI 3), .ref b, .int (iI ((z + 1) * 2 ^ 4)), .int (iI 2), .ref b]) rfl ?_
  refine z_iald hx hb hK.1 hP 2 rfl (by omega) dX5_note_19 ?_
  refine W.eq (g2 := F0 m 20 ls [.int (iI (fp 3)), .int (iI ((z + 1) * 2 ^ 4)), .int (iI 2), .ref b]) rfl ?_
  refine z_ors 6 t hx hb (by rw [ht]; rfl) (by omega) (by omega) dX5_note_20 ?_
  refine z_topi (fun z_1 ez_1 => ?_)
  refine z_iast hx hb hK.1 hP hD hS 2 rfl (by omega) dX5_note_21 (fun H locs hP hD hS => ?_)
  have hP : va_P X.1 vwCl (zb [Wpl X o a b hq (updZ fp 2 z_1)]) H := hP
  have hD : va_D A (zb [Wpl X o a b hq (updZ fp 2 z_1)]) := hD
  have hw : zb [Wpl X o a b hq (updZ fp 2 z_1)] = zb [Wpl X o a b hq (updZ fp 2 (4 ^ 2 * (z + 1 + 4 * t)))] := by rw [show z_1 = 4 ^ 2 * (z + 1 + 4 * t) by omega]
  rw [hw] at hP hD
  exact z_vret hQ hx hb hr hlocks hS ⟨Nat.le_of_ble_eq_true rfl, Nat.le_of_ble_eq_true rfl⟩ dX5_note_22 () rfl trivial hP hD
set_option maxHeartbeats 1000000 in
set_option maxRecDepth 100000 in
theorem c_X5_panOfHour_2 (l : Launch) (X : zX) (o : Nat) (a : Nat) (b : Nat) (hq : Nat → Nat) (fp : Nat → Int) (hf : 0 ≤ fp 0 ∧ fp 0 < 1000) : zF l X yX5_panOfHour wsX5_panOfHour 0 0 [.ref o, .int (iI 2)] (zb [Wpl X o a b hq fp]) (some (.int (iI ((fp 0 / 4 ^ 2) % 4 - 1)))) (zb [Wpl X o a b hq fp]) := by
  refine z_enter (cc := cX5_panOfHour) (maxL := 2) (ret := (some .int)) (by decide) rfl (Nat.le_of_ble_eq_true rfl) ?_
  intro p e s m below meth c A ls Q hQ hE hl hP hD
  obtain ⟨hx, hb, hr, hml, hown, hts, hlocks, hnm, hA, hK⟩ := hE
  have hown : s.vm.findClass RX5 = some m.cls := hown
  have hS : va_S A s.heap s.heap [] := va_S.rf
  have hl : lv_has ls 2 [(0, .ref o), (1, .int (iI 2))] := hl
  have inX5 : ∀ w ∈ u_ws RX5 TX5 2, w ∈ wsX5_panOfHour := by decide +kernel
  refine lv_aload_n hx hb dX5_panOfHour_0 rfl (lv_at hl 0 rfl) ?_
  refine va_get (ci := 5) (v := .ref b) (C := RX5) (T := TX5) (N := 2) hx hb hts inX5 hown hK.1 hP 0 rfl rfl 1 (by decide) (hts (.fieldLink RX5 17 "SkimmedSons$Planner" "paths" "[I") (by decide +kernel)) (fun _ h9 => h9) rfl dX5_panOfHour_1 ?_
  refine lv_iconst (v := iI 0) hx hb dX5_panOfHour_4 (by decide) ?_
  refine z_iald hx hb hK.1 hP 2 rfl (by omega) dX5_panOfHour_5 ?_
  refine W.eq (g2 := F0 m 6 ls [.int (iI (fp 0))]) rfl ?_
  refine lv_iconst (v := iI 2) hx hb dX5_panOfHour_6 (by decide) ?_
  refine lv_iload_n hx hb dX5_panOfHour_7 rfl (lv_at hl 1 rfl) ?_
  refine z_imul hx hb dX5_panOfHour_8 ?_
  refine W.eq (g2 := F0 m 9 ls [.int (iI 4), .int (iI (fp 0))]) rfl ?_
  refine z_shr 4 hx hb (by decide) (by decide) (by omega) dX5_panOfHour_9 ?_
  refine lv_iconst (v := iI 3) hx hb dX5_panOfHour_10 (by decide) ?_
  refine z_and3 hx hb (by omega) dX5_panOfHour_11 ?_
  refine lv_iconst (v := iI 1) hx hb dX5_panOfHour_12 (by decide) ?_
  refine z_isub hx hb dX5_panOfHour_13 ?_
  exact z_iret hQ hx hb hr hlocks hS ⟨Nat.le_of_ble_eq_true rfl, Nat.le_of_ble_eq_true rfl⟩ dX5_panOfHour_14 () (congrArg (fun z => some (Value.int (iI z))) (show ((fp 0 / 4 ^ 2) % 4 - 1 : Int) = (((fp 0) / 2 ^ 4) % 4) - 1 by rfl)) trivial hP hD
set_option maxHeartbeats 1000000 in
set_option maxRecDepth 100000 in
theorem c_X5_note_3 (l : Launch) (X : zX) (o : Nat) (a : Nat) (b : Nat) (hq : Nat → Nat) (fp : Nat → Int) (z : Int) (t : Int) (hz : -1 ≤ z ∧ z ≤ 2) (ht : fp 4 = 4 ^ 4 * t) (ht2 : 0 ≤ t ∧ t < 256) : zF l X yX5_note wsX5_note 0 0 [.ref o, .int (iI 3), .int (iI z)] (zb [Wpl X o a b hq fp]) none (zb [Wpl X o a b hq (updZ fp 3 (4 ^ 3 * (z + 1 + 4 * t)))]) := by
  refine z_enter (cc := cX5_note) (maxL := 3) (ret := none) (by decide) rfl (Nat.le_of_ble_eq_true rfl) ?_
  intro p e s m below meth c A ls Q hQ hE hl hP hD
  obtain ⟨hx, hb, hr, hml, hown, hts, hlocks, hnm, hA, hK⟩ := hE
  have hown : s.vm.findClass RX5 = some m.cls := hown
  have hS : va_S A s.heap s.heap [] := va_S.rf
  have hl : lv_has ls 3 [(0, .ref o), (1, .int (iI 3)), (2, .int (iI z))] := hl
  have inX5 : ∀ w ∈ u_ws RX5 TX5 2, w ∈ wsX5_note := by decide +kernel
  refine lv_aload_n hx hb dX5_note_0 rfl (lv_at hl 0 rfl) ?_
  refine va_get (ci := 5) (v := .ref b) (C := RX5) (T := TX5) (N := 2) hx hb hts inX5 hown hK.1 hP 0 rfl rfl 1 (by decide) (hts (.fieldLink RX5 17 "SkimmedSons$Planner" "paths" "[I") (by decide +kernel)) (fun _ h9 => h9) rfl dX5_note_1 ?_
  refine lv_iload_n hx hb dX5_note_4 rfl (lv_at hl 1 rfl) ?_
  refine lv_iload_n hx hb dX5_note_5 rfl (lv_at hl 2 rfl) ?_
  refine lv_iconst (v := iI 1) hx hb dX5_note_6 (by decide) ?_
  refine z_iadd hx hb dX5_note_7 ?_
  refine lv_iconst (v := iI 2) hx hb dX5_note_8 (by decide) ?_
  refine lv_iload_n hx hb dX5_note_9 rfl (lv_at hl 1 rfl) ?_
  refine z_imul hx hb dX5_note_10 ?_
  refine W.eq (g2 := F0 m 11 ls [.int (iI 6), .int (iI (z + 1)), .int (iI 3), .ref b]) rfl ?_
  refine z_shl 6 hx hb (by decide) (by decide) (by omega) dX5_note_11 ?_
  refine lv_aload_n hx hb dX5_note_12 rfl (lv_at hl 0 rfl) ?_
  refine va_get (ci := 5) (v := .ref b) (C := RX5) (T := TX5) (N := 2) hx hb hts inX5 hown hK.1 hP 0 rfl rfl 1 (by decide) (hts (.fieldLink RX5 17 "SkimmedSons$Planner" "paths" "[I") (by decide +kernel)) (fun _ h9 => h9) rfl dX5_note_13 ?_
  refine lv_iload_n hx hb dX5_note_16 rfl (lv_at hl 1 rfl) ?_
  refine lv_iconst (v := iI 1) hx hb dX5_note_17 (by decide) ?_
  refine z_iadd hx hb dX5_note_18 ?_
  refine W.eq (g2 := F0 m 19 ls [.int (iI 4), .ref b, .int (iI ((z + 1) * 2 ^ 6)), .int (iI 3), .ref b]) rfl ?_
  refine z_iald hx hb hK.1 hP 2 rfl (by omega) dX5_note_19 ?_
  refine W.eq (g2 := F0 m 20 ls [.int (iI (fp 4)), .int (iI ((z + 1) * 2 ^ 6)), .int (iI 3), .ref b]) rfl ?_
  refine z_ors 8 t hx hb (by rw [ht]; rfl) (by omega) (by omega) dX5_note_20 ?_
  refine z_topi (fun z_1 ez_1 => ?_)
  refine z_iast hx hb hK.1 hP hD hS 2 rfl (by omega) dX5_note_21 (fun H locs hP hD hS => ?_)
  have hP : va_P X.1 vwCl (zb [Wpl X o a b hq (updZ fp 3 z_1)]) H := hP
  have hD : va_D A (zb [Wpl X o a b hq (updZ fp 3 z_1)]) := hD
  have hw : zb [Wpl X o a b hq (updZ fp 3 z_1)] = zb [Wpl X o a b hq (updZ fp 3 (4 ^ 3 * (z + 1 + 4 * t)))] := by rw [show z_1 = 4 ^ 3 * (z + 1 + 4 * t) by omega]
  rw [hw] at hP hD
  exact z_vret hQ hx hb hr hlocks hS ⟨Nat.le_of_ble_eq_true rfl, Nat.le_of_ble_eq_true rfl⟩ dX5_note_22 () rfl trivial hP hD
set_option maxHeartbeats 1000000 in
set_option maxRecDepth 100000 in
theorem c_X5_panOfHour_3 (l : Launch) (X : zX) (o : Nat) (a : Nat) (b : Nat) (hq : Nat → Nat) (fp : Nat → Int) (hf : 0 ≤ fp 0 ∧ fp 0 < 1000) : zF l X yX5_panOfHour wsX5_panOfHour 0 0 [.ref o, .int (iI 3)] (zb [Wpl X o a b hq fp]) (some (.int (iI ((fp 0 / 4 ^ 3) % 4 - 1)))) (zb [Wpl X o a b hq fp]) := by
  refine z_enter (cc := cX5_panOfHour) (maxL := 2) (ret := (some .int)) (by decide) rfl (Nat.le_of_ble_eq_true rfl) ?_
  intro p e s m below meth c A ls Q hQ hE hl hP hD
  obtain ⟨hx, hb, hr, hml, hown, hts, hlocks, hnm, hA, hK⟩ := hE
  have hown : s.vm.findClass RX5 = some m.cls := hown
  have hS : va_S A s.heap s.heap [] := va_S.rf
  have hl : lv_has ls 2 [(0, .ref o), (1, .int (iI 3))] := hl
  have inX5 : ∀ w ∈ u_ws RX5 TX5 2, w ∈ wsX5_panOfHour := by decide +kernel
  refine lv_aload_n hx hb dX5_panOfHour_0 rfl (lv_at hl 0 rfl) ?_
  refine va_get (ci := 5) (v := .ref b) (C := RX5) (T := TX5) (N := 2) hx hb hts inX5 hown hK.1 hP 0 rfl rfl 1 (by decide) (hts (.fieldLink RX5 17 "SkimmedSons$Planner" "paths" "[I") (by decide +kernel)) (fun _ h9 => h9) rfl dX5_panOfHour_1 ?_
  refine lv_iconst (v := iI 0) hx hb dX5_panOfHour_4 (by decide) ?_
  refine z_iald hx hb hK.1 hP 2 rfl (by omega) dX5_panOfHour_5 ?_
  refine W.eq (g2 := F0 m 6 ls [.int (iI (fp 0))]) rfl ?_
  refine lv_iconst (v := iI 2) hx hb dX5_panOfHour_6 (by decide) ?_
  refine lv_iload_n hx hb dX5_panOfHour_7 rfl (lv_at hl 1 rfl) ?_
  refine z_imul hx hb dX5_panOfHour_8 ?_
  refine W.eq (g2 := F0 m 9 ls [.int (iI 6), .int (iI (fp 0))]) rfl ?_
  refine z_shr 6 hx hb (by decide) (by decide) (by omega) dX5_panOfHour_9 ?_
  refine lv_iconst (v := iI 3) hx hb dX5_panOfHour_10 (by decide) ?_
  refine z_and3 hx hb (by omega) dX5_panOfHour_11 ?_
  refine lv_iconst (v := iI 1) hx hb dX5_panOfHour_12 (by decide) ?_
  refine z_isub hx hb dX5_panOfHour_13 ?_
  exact z_iret hQ hx hb hr hlocks hS ⟨Nat.le_of_ble_eq_true rfl, Nat.le_of_ble_eq_true rfl⟩ dX5_panOfHour_14 () (congrArg (fun z => some (Value.int (iI z))) (show ((fp 0 / 4 ^ 3) % 4 - 1 : Int) = (((fp 0) / 2 ^ 6) % 4) - 1 by rfl)) trivial hP hD
