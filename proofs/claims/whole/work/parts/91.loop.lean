set_option maxHeartbeats 4000000 in
set_option maxRecDepth 100000 in
theorem law_loop {p : Program} {e : Env} {s : State} {m : MethodId} {below : List Frame} {meth : Method} {c : Code} (l : Launch) {b L : Nat} {xs : Nat → Int32} {xz : Nat → Int} (hxz : ∀ k, InR (xz k) ∧ xs k = iI (xz k)) (hL : L ≤ 320) (C0 : lw_At p s m meth c b L xs) {X : zX} (hK : zK X (fun q : Nat => s.heap.size ≤ q) s s.heap) {ad : Nat → Nat} {aq : Nat → Nat → Nat} {hq : Nat → Nat} {rq : Nat → Nat} {qq : Nat → Nat → Nat} {o : Nat} {ma : Nat → Nat} : ∀ (fu i : Nat), i ≤ L → L - i < fu → LawI p l e s m below meth c b X ad aq hq rq qq o ma i
  | 0, _, _, h => absurd h (Nat.not_lt_zero _)
  | fu + 1, i, hi0, hm => by
    unfold LawI
    intro s8 ca px py pt f pv s1 s2 s3 co ch ck fk in0 ipv i1 i2 i3 tn tpv tv fp m0 sv0 m1 sv1 m2 sv2 m3 sv3 tx ty ta tA tB mi ml kz hz sa rf br fm lk nx kh hI H locs ls hP hD hS hl
    obtain ⟨hx, hb, hr, hml, hown, hts0, hX, hbl, hlocks, hgv⟩ := id C0
    have hts : ∀ w ∈ wsL_law, w.before #[Value.ref b] s = true := fun w h => hts0 w (wsL_law_in w h)
    have hA : ∀ q : Nat, s.heap.size ≤ q → (fun q : Nat => s.heap.size ≤ q) q := fun _ h => h
    have hbA : ¬ (fun q : Nat => s.heap.size ≤ q) b := Nat.not_le.mpr hbl
    have hown : s.vm.findClass RL = some m.cls := hown
    refine lv_iload_n hx hb dL_law_18 rfl (lv_at hl 3 rfl) ?_
    refine lv_aload_n hx hb dL_law_19 rfl (lv_at hl 0 rfl) ?_
    refine va_slen hx hb hX hbl hbA hS dL_law_20 ?_
    refine W.eq (g2 := F0 m 21 ls [.int (iI ↑L), .int (iI ↑i)]) rfl ?_
    refine lv_iconst (v := iI 5) hx hb dL_law_21 (by decide) ?_
    refine z_isub hx hb dL_law_22 ?_
    refine z_icmp_gt (tgt := 759) hx hb (by omega) dL_law_23 (by decide) (fun c1 => ?_) (fun c1 => ?_)
    · refine lv_iconst (v := iI 1) hx hb dL_law_759 (by decide) ?_
      refine W.widen (k := 600000) (n := 7302250) (by omega) (by omega) ?_
      refine va_forget (fun q hq => hS.2.2 q hq) ?_
      exact lw_ret hx hb hr hlocks dL_law_760
    · have hi5 : i + 5 ≤ L := by omega
      have ih := law_loop (e := e) (below := below) l hxz hL C0 hK (ad := ad) (aq := aq) (hq := hq) (rq := rq) (qq := qq) (o := o) (ma := ma) fu (i + 5) hi5 (by omega)
      refine lv_aload_n hx hb dL_law_26 rfl (lv_at hl 0 rfl) ?_
      refine lv_iload_n hx hb dL_law_27 rfl (lv_at hl 3 rfl) ?_
      refine z_sld hx hb hxz hX hbl hbA hS (by omega) dL_law_28 ?_
      refine lv_bipush (v := iI 31) hx hb dL_law_29 (by decide) ?_
      refine z_sand hx hb dL_law_31 (fun k hk => ?_)
      have hk2 : -2147483648 ≤ k ∧ k < 2147483648 := hk
      rcases (show (k < 0 ∨ 21 < k) ∨ k = 0 ∨ k = 1 ∨ k = 2 ∨ k = 3 ∨ k = 4 ∨ k = 5 ∨ k = 6 ∨ k = 7 ∨ k = 8 ∨ k = 9 ∨ k = 10 ∨ k = 11 ∨ k = 12 ∨ k = 13 ∨ k = 14 ∨ k = 15 ∨ k = 16 ∨ k = 17 ∨ k = 18 ∨ k = 19 ∨ k = 20 ∨ k = 21 by omega) with c2 | c2 | c2 | c2 | c2 | c2 | c2 | c2 | c2 | c2 | c2 | c2 | c2 | c2 | c2 | c2 | c2 | c2 | c2 | c2 | c2 | c2 | c2
      · refine z_tabOut (tgt := 753) hx hb (by omega) dL_law_32 c2 (by decide) ?_
        refine z_iinc (k := 3) (lv' := [(3, .int (iI (↑i + 5))), (0, .ref b), (1, .ref (ad 0)), (2, .ref o)]) hx hb dL_law_753 hl rfl (by decide) rfl (fun ls hl => ?_)
        refine lv_goto (tgt := 18) hx hb dL_law_756 (by decide) ?_
        obtain ⟨hkz, hca, hhz, hkh, hpn, hpv, hst, h40, h6, h7, hd, hsg, hsi, him, hkr, hin, htp, hsv0, hsv1, hsv2, hsv3, htA, htB, hfm⟩ := hI
        refine W.widen (show 200 + 3 * i ≤ 200 + 3 * (i + 5) by omega) (show 20000 + 10 * i ≤ 20000 + 10 * (i + 5) by omega) ?_
        exact ih s8 ca px py pt f pv s1 s2 s3 co ch ck fk in0 ipv i1 i2 i3 tn tpv tv fp m0 sv0 m1 sv1 m2 sv2 m3 sv3 tx ty ta tA tB mi ml kz hz sa rf br fm lk nx kh ⟨hkz, hca, hhz, hkh, hpn, hpv, hst, h40, (show 0 ≤ mi 0 ∧ mi 0 ≤ ((i + 5 : Nat) : Int) by omega), h7, hd, hsg, hsi, him, hkr, hin, htp, hsv0, hsv1, hsv2, hsv3, htA, htB, hfm⟩ _ _ _ hP hD hS (lv_sub hl [1, 2, 3, 0] rfl)
      · refine z_tabIn (tgt := 136) (off := 104) hx hb (by omega) dL_law_32 c2 (by decide) rfl (by decide) ?_
        exact law_c0 l hxz hL C0 hK hi5 ih hI hP hD hS hl
      · refine z_tabIn (tgt := 159) (off := 127) hx hb (by omega) dL_law_32 c2 (by decide) rfl (by decide) ?_
        exact law_c1 l hxz hL C0 hK hi5 ih hI hP hD hS hl
      · refine z_tabIn (tgt := 172) (off := 140) hx hb (by omega) dL_law_32 c2 (by decide) rfl (by decide) ?_
        exact law_c2 l hxz hL C0 hK hi5 ih hI hP hD hS hl
      · refine z_tabIn (tgt := 185) (off := 153) hx hb (by omega) dL_law_32 c2 (by decide) rfl (by decide) ?_
        exact law_c3 l hxz hL C0 hK hi5 ih hI hP hD hS hl
      · refine z_tabIn (tgt := 198) (off := 166) hx hb (by omega) dL_law_32 c2 (by decide) rfl (by decide) ?_
        exact law_c4 l hxz hL C0 hK hi5 ih hI hP hD hS hl
      · refine z_tabIn (tgt := 231) (off := 199) hx hb (by omega) dL_law_32 c2 (by decide) rfl (by decide) ?_
        exact law_c5 l hxz hL C0 hK hi5 ih hI hP hD hS hl
      · refine z_tabIn (tgt := 264) (off := 232) hx hb (by omega) dL_law_32 c2 (by decide) rfl (by decide) ?_
        exact law_c6 l hxz hL C0 hK hi5 ih hI hP hD hS hl
      · refine z_tabIn (tgt := 297) (off := 265) hx hb (by omega) dL_law_32 c2 (by decide) rfl (by decide) ?_
        exact law_c7 l hxz hL C0 hK hi5 ih hI hP hD hS hl
      · refine z_tabIn (tgt := 310) (off := 278) hx hb (by omega) dL_law_32 c2 (by decide) rfl (by decide) ?_
        exact law_c8 l hxz hL C0 hK hi5 ih hI hP hD hS hl
      · refine z_tabIn (tgt := 343) (off := 311) hx hb (by omega) dL_law_32 c2 (by decide) rfl (by decide) ?_
        exact law_c9 l hxz hL C0 hK hi5 ih hI hP hD hS hl
      · refine z_tabIn (tgt := 366) (off := 334) hx hb (by omega) dL_law_32 c2 (by decide) rfl (by decide) ?_
        exact law_c10 l hxz hL C0 hK hi5 ih hI hP hD hS hl
      · refine z_tabIn (tgt := 409) (off := 377) hx hb (by omega) dL_law_32 c2 (by decide) rfl (by decide) ?_
        exact law_c11 l hxz hL C0 hK hi5 ih hI hP hD hS hl
      · refine z_tabIn (tgt := 452) (off := 420) hx hb (by omega) dL_law_32 c2 (by decide) rfl (by decide) ?_
        exact law_c12 l hxz hL C0 hK hi5 ih hI hP hD hS hl
      · refine z_tabIn (tgt := 495) (off := 463) hx hb (by omega) dL_law_32 c2 (by decide) rfl (by decide) ?_
        exact law_c13 l hxz hL C0 hK hi5 ih hI hP hD hS hl
      · refine z_tabIn (tgt := 538) (off := 506) hx hb (by omega) dL_law_32 c2 (by decide) rfl (by decide) ?_
        exact law_c14 l hxz hL C0 hK hi5 ih hI hP hD hS hl
      · refine z_tabIn (tgt := 591) (off := 559) hx hb (by omega) dL_law_32 c2 (by decide) rfl (by decide) ?_
        exact law_c15 l hxz hL C0 hK hi5 ih hI hP hD hS hl
      · refine z_tabIn (tgt := 634) (off := 602) hx hb (by omega) dL_law_32 c2 (by decide) rfl (by decide) ?_
        exact law_c16 l hxz hL C0 hK hi5 ih hI hP hD hS hl
      · refine z_tabIn (tgt := 647) (off := 615) hx hb (by omega) dL_law_32 c2 (by decide) rfl (by decide) ?_
        exact law_c17 l hxz hL C0 hK hi5 ih hI hP hD hS hl
      · refine z_tabIn (tgt := 690) (off := 658) hx hb (by omega) dL_law_32 c2 (by decide) rfl (by decide) ?_
        exact law_c18 l hxz hL C0 hK hi5 ih hI hP hD hS hl
      · refine z_tabIn (tgt := 703) (off := 671) hx hb (by omega) dL_law_32 c2 (by decide) rfl (by decide) ?_
        exact law_c19 l hxz hL C0 hK hi5 ih hI hP hD hS hl
      · refine z_tabIn (tgt := 716) (off := 684) hx hb (by omega) dL_law_32 c2 (by decide) rfl (by decide) ?_
        exact law_c20 l hxz hL C0 hK hi5 ih hI hP hD hS hl
      · refine z_tabIn (tgt := 739) (off := 707) hx hb (by omega) dL_law_32 c2 (by decide) rfl (by decide) ?_
        exact law_c21 l hxz hL C0 hK hi5 ih hI hP hD hS hl
