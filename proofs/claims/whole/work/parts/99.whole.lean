set_option maxHeartbeats 4000000 in
set_option maxRecDepth 100000 in
theorem whole_start {p : Program} {e : Env} {s : State} {m : MethodId} {below : List Frame} {meth : Method} {c : Code} (l : Launch) {b L : Nat} {xs : Nat → Int32} (hL : L ≤ 320) (C0 : lw_At p s m meth c b L xs) : W p l e room_1 s m #[Value.ref b] below meth c s.heap [] 0 0 (lw_Z below #[Value.ref b] s) (entryFrame m ([Value.ref b] : List Value).toArray 4) := by
  obtain ⟨xz, hxz⟩ : ∃ xz : Nat → Int, ∀ k, InR (xz k) ∧ xs k = iI (xz k) := Classical.axiomOfChoice (fun k => iI_of (xs k))
  obtain ⟨hx, hb, hr, hml, hown, hts0, hX, hbl, hlocks, hgv⟩ := id C0
  have hts : ∀ w ∈ wsL_law, w.before #[Value.ref b] s = true := fun w h => hts0 w (wsL_law_in w h)
  have hA : ∀ q : Nat, s.heap.size ≤ q → (fun q : Nat => s.heap.size ≤ q) q := fun _ h => h
  have hbA : ¬ (fun q : Nat => s.heap.size ≤ q) b := Nat.not_le.mpr hbl
  have hown : s.vm.findClass RL = some m.cls := hown
  obtain ⟨X, hK⟩ := zk_start hts0 hgv
  have inX11 := inlX11
  have hS : va_S (fun q : Nat => s.heap.size ≤ q) s.heap s.heap [] := va_S.rf
  have hP : va_P X.1 vwCl (zb []) s.heap := fun k q h => by simp at h
  have hD : va_D (fun q : Nat => s.heap.size ≤ q) (zb []) := ⟨fun i j p q h => by simp at h, fun k q h => by simp at h⟩
  have hl := lv_entry ([.ref b]) (n := 4) (Nat.le_of_ble_eq_true rfl)
  rw [lg_entry_eq]
  generalize (lg_sl ([.ref b]) ++ List.replicate (4 - (lg_sl ([.ref b])).length) Slot.unset).toArray = ls at hl ⊢
  have hl : lv_has ls 4 [(0, .ref b)] := hl
  refine z_new (bs := []) (C := RX11) (T := TX11) (N := 16) hx hb hts inX11 tyX11 tyX11_ok hown (hts (.classLink RL 7 RX11) (by decide +kernel)) (hts (.instantiable RX11 16) (by decide +kernel)) (hts (.initialized RX11) (by decide +kernel)) hK.1 hP hD hS hA 11 rfl [.null, .null, .null, .int (iI 0), .int (iI 0), .null, .int (iI 0), .int (iI 0), .int (iI 0), .int (iI 0), .null, .null, .null, .null, .null, .null] (fun j hj => by rcases (show j = 0 ∨ j = 1 ∨ j = 2 ∨ j = 3 ∨ j = 4 ∨ j = 5 ∨ j = 6 ∨ j = 7 ∨ j = 8 ∨ j = 9 ∨ j = 10 ∨ j = 11 ∨ j = 12 ∨ j = 13 ∨ j = 14 ∨ j = 15 by omega) with rfl | rfl | rfl | rfl | rfl | rfl | rfl | rfl | rfl | rfl | rfl | rfl | rfl | rfl | rfl | rfl <;> rfl) (show 0 + 1 ≤ 600000 by omega) (show 0 + 16 ≤ 7302250 by omega) dL_law_0 (fun q_1 H hP hD hS => ?_)
  have hP : va_P X.1 vwCl (zb [Wo q_1 11 [.null, .null, .null, .int (iI 0), .int (iI 0), .null, .int (iI 0), .int (iI 0), .int (iI 0), .int (iI 0), .null, .null, .null, .null, .null, .null]]) H := hP
  have hD : va_D (fun q : Nat => s.heap.size ≤ q) (zb [Wo q_1 11 [.null, .null, .null, .int (iI 0), .int (iI 0), .null, .int (iI 0), .int (iI 0), .int (iI 0), .int (iI 0), .null, .null, .null, .null, .null, .null]]) := hD
  refine lv_dup hx hb dL_law_3 rfl ?_
  have hPm := zp_perm hP (zblk (show List.Perm ([Wo q_1 11 [.null, .null, .null, .int (iI 0), .int (iI 0), .null, .int (iI 0), .int (iI 0), .int (iI 0), .int (iI 0), .null, .null, .null, .null, .null, .null]] : List va_W) ([Wo q_1 11 [.null, .null, .null, .int (iI 0), .int (iI 0), .null, .int (iI 0), .int (iI 0), .int (iI 0), .int (iI 0), .null, .null, .null, .null, .null, .null]] ++ []) from (zf1 _ 0 _ rfl).trans ((List.Perm.refl _).cons _)))
  have hDm := zd_perm hD (zblk (show List.Perm ([Wo q_1 11 [.null, .null, .null, .int (iI 0), .int (iI 0), .null, .int (iI 0), .int (iI 0), .int (iI 0), .int (iI 0), .null, .null, .null, .null, .null, .null]] : List va_W) ([Wo q_1 11 [.null, .null, .null, .int (iI 0), .int (iI 0), .null, .int (iI 0), .int (iI 0), .int (iI 0), .int (iI 0), .null, .null, .null, .null, .null, .null]] ++ []) from (zf1 _ 0 _ rfl).trans ((List.Perm.refl _).cons _)))
  refine z_callI (wr := zb []) (As := []) (rest := [.ref q_1]) ⟨hx, hb, hml, hown, hts⟩ (c_X11_init l X q_1 ) (cwI 0 hts gL_law_X11_init rfl rfl rfl (hts (.initialized RX11) (by decide +kernel)) (hts (.methodLink RL 9 yX11_init) (by decide +kernel)) (hts (.instanceMethod yX11_init) (by decide +kernel)) rfl (by decide +kernel) ⟨Nat.le_of_ble_eq_true rfl, Nat.le_of_ble_eq_true rfl⟩) hl.1 dL_law_4 rfl rfl (Nat.le_of_ble_eq_true rfl) ⟨(show 1 + 54 ≤ 600000 by omega), (show 16 + 828 ≤ 7302250 by omega)⟩ hS hA hK hPm hDm (fun u H locs hpost hP hD hS => ?_)
  obtain ⟨ad, aq, hq, rq, qq⟩ := u
  have hpost : ad 0 = q_1 := hpost
  have hP := zp_perm hP ((zblk (show List.Perm ([WX0 X ad (fun _ => 0) (fun _ => none), Wpage X (ad 1) (ad 2) 0 0 0 0 (fun _ => 0), Wshelf X (ad 3) (ad 4) (aq 0) 0 (fun _ _ => 0), Wsig X (ad 5) (ad 6) (ad 7) (ad 8) 0 (fun _ => 0) (fun _ => 0) (fun _ => 0), Wshelf X (ad 10) (ad 11) (aq 1) 0 (fun _ _ => 0), Wsig X (ad 12) (ad 13) (ad 14) (ad 15) 0 (fun _ => 0) (fun _ => 0) (fun _ => 0), Wshelf X (ad 16) (ad 17) (aq 2) 0 (fun _ _ => 0), Wpan (ad 18) (fun _ => 0), Wpl X (ad 19) (ad 20) (ad 21) hq (fun _ => 0), Wshelf X (hq 0) (rq 0) (qq 0) 0 (fun _ _ => 0), Wshelf X (hq 1) (rq 1) (qq 1) 0 (fun _ _ => 0), Wshelf X (hq 2) (rq 2) (qq 2) 0 (fun _ _ => 0), Wshelf X (hq 3) (rq 3) (qq 3) 0 (fun _ _ => 0), Wtr X (ad 30) (ad 31) (ad 32) (ad 33) 0 0 (fun _ => 0) (fun _ => 0) (fun _ => 0)] : List va_W) ([WX0 X ad (fun _ => 0) (fun _ => none), Wpage X (ad 1) (ad 2) 0 0 0 0 (fun _ => 0), Wshelf X (ad 3) (ad 4) (aq 0) 0 (fun _ _ => 0), Wsig X (ad 5) (ad 6) (ad 7) (ad 8) 0 (fun _ => 0) (fun _ => 0) (fun _ => 0), Wshelf X (ad 10) (ad 11) (aq 1) 0 (fun _ _ => 0), Wsig X (ad 12) (ad 13) (ad 14) (ad 15) 0 (fun _ => 0) (fun _ => 0) (fun _ => 0), Wshelf X (ad 16) (ad 17) (aq 2) 0 (fun _ _ => 0), Wpan (ad 18) (fun _ => 0), Wpl X (ad 19) (ad 20) (ad 21) hq (fun _ => 0), Wshelf X (hq 0) (rq 0) (qq 0) 0 (fun _ _ => 0), Wshelf X (hq 1) (rq 1) (qq 1) 0 (fun _ _ => 0), Wshelf X (hq 2) (rq 2) (qq 2) 0 (fun _ _ => 0), Wshelf X (hq 3) (rq 3) (qq 3) 0 (fun _ _ => 0), Wtr X (ad 30) (ad 31) (ad 32) (ad 33) 0 0 (fun _ => 0) (fun _ => 0) (fun _ => 0)] ++ []) from (zf1 _ 0 _ rfl).trans (((zf1 _ 0 _ rfl).trans (((zf1 _ 0 _ rfl).trans (((zf1 _ 0 _ rfl).trans (((zf1 _ 0 _ rfl).trans (((zf1 _ 0 _ rfl).trans (((zf1 _ 0 _ rfl).trans (((zf1 _ 0 _ rfl).trans (((zf1 _ 0 _ rfl).trans (((zf1 _ 0 _ rfl).trans (((zf1 _ 0 _ rfl).trans (((zf1 _ 0 _ rfl).trans (((zf1 _ 0 _ rfl).trans (((zf1 _ 0 _ rfl).trans ((List.Perm.refl _).cons _)).cons _)).cons _)).cons _)).cons _)).cons _)).cons _)).cons _)).cons _)).cons _)).cons _)).cons _)).cons _)).cons _)))).symm
  have hD := zd_perm hD ((zblk (show List.Perm ([WX0 X ad (fun _ => 0) (fun _ => none), Wpage X (ad 1) (ad 2) 0 0 0 0 (fun _ => 0), Wshelf X (ad 3) (ad 4) (aq 0) 0 (fun _ _ => 0), Wsig X (ad 5) (ad 6) (ad 7) (ad 8) 0 (fun _ => 0) (fun _ => 0) (fun _ => 0), Wshelf X (ad 10) (ad 11) (aq 1) 0 (fun _ _ => 0), Wsig X (ad 12) (ad 13) (ad 14) (ad 15) 0 (fun _ => 0) (fun _ => 0) (fun _ => 0), Wshelf X (ad 16) (ad 17) (aq 2) 0 (fun _ _ => 0), Wpan (ad 18) (fun _ => 0), Wpl X (ad 19) (ad 20) (ad 21) hq (fun _ => 0), Wshelf X (hq 0) (rq 0) (qq 0) 0 (fun _ _ => 0), Wshelf X (hq 1) (rq 1) (qq 1) 0 (fun _ _ => 0), Wshelf X (hq 2) (rq 2) (qq 2) 0 (fun _ _ => 0), Wshelf X (hq 3) (rq 3) (qq 3) 0 (fun _ _ => 0), Wtr X (ad 30) (ad 31) (ad 32) (ad 33) 0 0 (fun _ => 0) (fun _ => 0) (fun _ => 0)] : List va_W) ([WX0 X ad (fun _ => 0) (fun _ => none), Wpage X (ad 1) (ad 2) 0 0 0 0 (fun _ => 0), Wshelf X (ad 3) (ad 4) (aq 0) 0 (fun _ _ => 0), Wsig X (ad 5) (ad 6) (ad 7) (ad 8) 0 (fun _ => 0) (fun _ => 0) (fun _ => 0), Wshelf X (ad 10) (ad 11) (aq 1) 0 (fun _ _ => 0), Wsig X (ad 12) (ad 13) (ad 14) (ad 15) 0 (fun _ => 0) (fun _ => 0) (fun _ => 0), Wshelf X (ad 16) (ad 17) (aq 2) 0 (fun _ _ => 0), Wpan (ad 18) (fun _ => 0), Wpl X (ad 19) (ad 20) (ad 21) hq (fun _ => 0), Wshelf X (hq 0) (rq 0) (qq 0) 0 (fun _ _ => 0), Wshelf X (hq 1) (rq 1) (qq 1) 0 (fun _ _ => 0), Wshelf X (hq 2) (rq 2) (qq 2) 0 (fun _ _ => 0), Wshelf X (hq 3) (rq 3) (qq 3) 0 (fun _ _ => 0), Wtr X (ad 30) (ad 31) (ad 32) (ad 33) 0 0 (fun _ => 0) (fun _ => 0) (fun _ => 0)] ++ []) from (zf1 _ 0 _ rfl).trans (((zf1 _ 0 _ rfl).trans (((zf1 _ 0 _ rfl).trans (((zf1 _ 0 _ rfl).trans (((zf1 _ 0 _ rfl).trans (((zf1 _ 0 _ rfl).trans (((zf1 _ 0 _ rfl).trans (((zf1 _ 0 _ rfl).trans (((zf1 _ 0 _ rfl).trans (((zf1 _ 0 _ rfl).trans (((zf1 _ 0 _ rfl).trans (((zf1 _ 0 _ rfl).trans (((zf1 _ 0 _ rfl).trans (((zf1 _ 0 _ rfl).trans ((List.Perm.refl _).cons _)).cons _)).cons _)).cons _)).cons _)).cons _)).cons _)).cons _)).cons _)).cons _)).cons _)).cons _)).cons _)).cons _)))).symm
  have hP : va_P X.1 vwCl (zb [WX0 X ad (fun _ => 0) (fun _ => none), Wpage X (ad 1) (ad 2) 0 0 0 0 (fun _ => 0), Wshelf X (ad 3) (ad 4) (aq 0) 0 (fun _ _ => 0), Wsig X (ad 5) (ad 6) (ad 7) (ad 8) 0 (fun _ => 0) (fun _ => 0) (fun _ => 0), Wshelf X (ad 10) (ad 11) (aq 1) 0 (fun _ _ => 0), Wsig X (ad 12) (ad 13) (ad 14) (ad 15) 0 (fun _ => 0) (fun _ => 0) (fun _ => 0), Wshelf X (ad 16) (ad 17) (aq 2) 0 (fun _ _ => 0), Wpan (ad 18) (fun _ => 0), Wpl X (ad 19) (ad 20) (ad 21) hq (fun _ => 0), Wshelf X (hq 0) (rq 0) (qq 0) 0 (fun _ _ => 0), Wshelf X (hq 1) (rq 1) (qq 1) 0 (fun _ _ => 0), Wshelf X (hq 2) (rq 2) (qq 2) 0 (fun _ _ => 0), Wshelf X (hq 3) (rq 3) (qq 3) 0 (fun _ _ => 0), Wtr X (ad 30) (ad 31) (ad 32) (ad 33) 0 0 (fun _ => 0) (fun _ => 0) (fun _ => 0)]) H := hP
  have hD : va_D (fun q : Nat => s.heap.size ≤ q) (zb [WX0 X ad (fun _ => 0) (fun _ => none), Wpage X (ad 1) (ad 2) 0 0 0 0 (fun _ => 0), Wshelf X (ad 3) (ad 4) (aq 0) 0 (fun _ _ => 0), Wsig X (ad 5) (ad 6) (ad 7) (ad 8) 0 (fun _ => 0) (fun _ => 0) (fun _ => 0), Wshelf X (ad 10) (ad 11) (aq 1) 0 (fun _ _ => 0), Wsig X (ad 12) (ad 13) (ad 14) (ad 15) 0 (fun _ => 0) (fun _ => 0) (fun _ => 0), Wshelf X (ad 16) (ad 17) (aq 2) 0 (fun _ _ => 0), Wpan (ad 18) (fun _ => 0), Wpl X (ad 19) (ad 20) (ad 21) hq (fun _ => 0), Wshelf X (hq 0) (rq 0) (qq 0) 0 (fun _ _ => 0), Wshelf X (hq 1) (rq 1) (qq 1) 0 (fun _ _ => 0), Wshelf X (hq 2) (rq 2) (qq 2) 0 (fun _ _ => 0), Wshelf X (hq 3) (rq 3) (qq 3) 0 (fun _ _ => 0), Wtr X (ad 30) (ad 31) (ad 32) (ad 33) 0 0 (fun _ => 0) (fun _ => 0) (fun _ => 0)]) := hD
  refine W.eq (g2 := F0 m 7 ls [.ref q_1]) rfl ?_
  have hpost : ad 0 = q_1 := hpost
  refine W.eq (g2 := F0 m 7 ls [.ref (ad 0)]) (by rw [hpost]) ?_
  refine lv_astore_n (lv' := [(1, .ref (ad 0)), (0, .ref b)]) hx hb dL_law_7 rfl hl (by decide) rfl (fun ls hl => ?_)
  exact law_s2 l hxz hL C0 hK (ad := ad) (aq := aq) (hq := hq) (rq := rq) (qq := qq) hP hD hS hl
set_option maxHeartbeats 4000000 in
theorem lw_walk (l : Launch) (b : Addr) (xs : List Int32) : MetFree l x (headSpec (Jvm.Cond.code x code maxLocals ret :: tables_1) room_1) (lw_P b xs) (fun _ _ _ _ _ => True) lw_Q := by
  refine MetFree.of_bodyS (code := code) (maxLocals := maxLocals) (ret := ret) (by decide) ?_ ?_
  · intro args s m h hn
    obtain ⟨meth, c, h1, h2, h3, h4, h5, h6, -, -⟩ := Cond.code_spec hn (atoms_spec (ws := Jvm.Cond.code x code maxLocals ret :: tables_1) h _ List.mem_cons_self)
    exact ⟨meth, c, h1, h2, h3, h4, h5, h6⟩
  · intro p e s m args below meth c s₁ B hml0 hP _
    obtain ⟨rfl, hx, hbd, hgv⟩ := hP
    obtain ⟨scr, harrAt, hlist, hof, hsmall⟩ := hx
    obtain ⟨hcb, hkn, -, -⟩ := State.arrayAt?_spec harrAt
    have hown : s.vm.findClass R_law = some m.cls := findClass_of_methodNamed B.named
    have hts0 : ∀ c ∈ (Jvm.Cond.code x code maxLocals ret :: tables_1), c.before #[Value.ref b] s = true := atoms_spec (ws := Jvm.Cond.code x code maxLocals ret :: tables_1) B.pre
    have hts : ∀ w ∈ lw_tbl, w.before #[Value.ref b] s = true := k2_hts_sels lw_privs (fun w hw => hts0 w (List.mem_cons_of_mem _ hw)) lw_privs_ok
    have hml : c.maxLocals = 4 := B.maxLocals_eq (hts0 _ List.mem_cons_self)
    have X₀ : Stand p l e room_1 s m #[Value.ref b] below meth c s₁ [] 0 0 := Stand.of_body B
    have hh0 : s₁.heap = s.heap := by rw [B.state]; rfl
    have hsz : scr.slots.size = xs.length := by rw [← Array.length_toList, hlist, List.length_map]
    have hval : ∀ j : Nat, j < xs.length → scr.slots[j]? = some (.int (xs.getD j 0)) := fun j hj => by
      rw [← Array.getElem?_toList, hlist]
      simp [hj]
    have hbl : b < s.heap.size := (Array.getElem?_eq_some_iff.mp hcb).1
    have hX : va_X b xs.length (fun j => xs.getD j 0) s s.heap := ⟨scr, hcb, hof, hkn, hsz, hval⟩
    have K : W p l e room_1 s m #[Value.ref b] below meth c s₁.heap [] 0 0 (lw_Z below #[Value.ref b] s) (entryFrame m ([Value.ref b] : List Value).toArray 4) := by
      rw [hh0]
      exact whole_start l hbd ⟨B.exec, B.bytes, B.returns, hml, hown, hts, hX, hbl, B.notSynchronized, hgv⟩
    obtain ⟨t, a1, o, b1, b2, b3⟩ := K s₁ rfl X₀
    exact ⟨t, o, a1, b1, b2, b3⟩
theorem lw_pre_spec {args : Array Value} {s : State} (h : (Jvm.Cond.and given_1 narrow_1).before args s = true) (hr : rest_1_c.before args s = true) : ∃ (b : Addr) (xs : List Int32), lw_P b xs args s := by
  have hs := flat_of_before _ h
  have hq := flat_of_before _ hr
  have hc : (Cond.count 1).before args s = true := hs _ (by decide +kernel)
  have harr : (Cond.arrayOf (.arg 0) .int).before args s = true := hs _ (by decide +kernel)
  have hle : (Cond.le (.length (.arg 0)) (.int 320)).before args s = true := hs _ (by decide +kernel)
  have hlen : (Cond.isInt (.length (.arg 0))).before args s = true := hq _ (by decide +kernel)
  have hall : (Cond.all (.arg 0) (.isInt (.elem (.arg 0) (.index 0)))).before args s = true := hq _ (by decide +kernel)
  obtain ⟨b, xs, hb, hx⟩ := State.ints_of_pre rfl harr hlen hall
  have hsm : xs.length < 2 ^ 31 := hx.choose_spec.2.2.2
  have hev : (Term.length (.arg 0)).eval args s none [] s = some (.int xs.length.toInt32) := hx.length_eval hb
  have hv := Cond.le_ints hev (show (Term.int 320).eval args s none [] s = some (.int 320) from rfl)
  have hd : xs.length.toInt32 ≤ 320 := by
    simpa [Cond.before, Cond.holds, hv] using hle
  have hN : xs.length ≤ 320 := (Int32.ofNat_le_ofNat hsm (by decide)).mp (show Int32.ofNat xs.length ≤ Int32.ofNat 320 from hd)
  exact ⟨b, xs, Cond.one_arg hc (show args[0]? = some (.ref b) from hb), hx, hN, h⟩
theorem lw_comes (l : Launch) : Comes l x (Jvm.Cond.code x code maxLocals ret :: tables_1) room_1 (fun tb e args s => Calls_1 tb e args s ∧ rest_1 tb e args s ∧ Pre_1 tb e args s)
    (fun _ _ args s o t => lw_Q args s o t) := by
  intro p e ha hc hk s m args below hf hfit hheap happ hpre
  obtain ⟨b, xs, hP⟩ := lw_pre_spec hpre.2.2 hpre.2.1
  obtain ⟨k, o, h1, h2, h3, hQ⟩ := lw_walk l b xs p e ha hc hk s m args below hf ((Spec.applies_iff_loose hf).mp happ).1 hP trivial
  exact ⟨k, o, h1, h2, h3, hQ⟩
theorem lw_frame {s t : State} {o : Outcome} {args : Array Value} (h : Framed s o t [] 600000 7302250) :
    Framed s o t (fieldLocs frame_1_writes args s ++ arrayLocs frame_1_arrays args s ++ staticLocs frame_1_statics s) 600000 7302250 := h
theorem lw_limb (L : Cond) (hL : ∀ (args : Array Value) (s t : State), L.after args s (.returned (some (.int 1))) t = true) :
    ArmFor flags0 classFile x code maxLocals ret World_1 tables_1 room_1 Calls_1 rest_1 Pre_1
      (fun tb e a s o t => postC L tb e a s o t ∧ Framed s o t (fieldLocs frame_1_writes a s ++ arrayLocs frame_1_arrays a s ++ staticLocs frame_1_statics s) 600000 7302250) := by
  intro l _ _ _ p e ha hc hk s m args below hf hfit hheap happ hpre
  obtain ⟨k, o, h1, h2, h3, rfl, hF⟩ := lw_comes l p e ha hc hk s m args below hf hfit hheap happ hpre
  exact ⟨k, _, h1, h2, h3, hL args s _, lw_frame hF⟩
theorem i_vc : Claimed_1_1 ∧ Claimed_1_2 := ⟨lw_limb limb_1_1 (fun args s t => by simp [limb_1_1, Cond.after, Cond.holds, Cond.value]), lw_limb limb_1_2 (fun args s t => Cond.after_iff.mpr (by
  first | (rw [show limb_1_2 = Cond.eq .result (.int 1) from rfl, Cond.eq_ints (x := 1) (y := 1) rfl rfl]; simp; done) | (simp [limb_1_2, Cond.value, Term.eval]; done)))⟩

