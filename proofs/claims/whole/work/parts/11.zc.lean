-- Contracts: what a method starts from and comes to
abbrev zX : Type := va_G × (Nat → ClassId) × (Nat → Nat) × (Nat → Nat)
abbrev tyL (ty : Nat → ClassId) : List (ClassId × FieldType) := [(ty 0, .byte), (ty 1, .char), (ty 2, .int), (ty 3, .object "SkimmedSons$Child"), (ty 4, .object "SkimmedSons$Pan"), (ty 5, .object "SkimmedSons$Shelf")]
abbrev zTx : List (List Int32) := [[119, 99, 102], [99, 104, 115, 121, 106]]
abbrev zKV (X : zX) (U : State) : Prop := va_K X.1 vwCl (tyL X.2.1) U
def ncL : List (String × String) := [("SkimmedSons$Child", "SkimmedSons$Heir"), ("SkimmedSons$Child", "SkimmedSons$Second"), ("SkimmedSons$Child", "SkimmedSons$Youngest"), ("SkimmedSons$Child", "SkimmedSons$Joan"), ("SkimmedSons$Heir", "SkimmedSons$Second"), ("SkimmedSons$Heir", "SkimmedSons$Youngest"), ("SkimmedSons$Heir", "SkimmedSons$Joan"), ("SkimmedSons$Second", "SkimmedSons$Heir"), ("SkimmedSons$Second", "SkimmedSons$Youngest"), ("SkimmedSons$Second", "SkimmedSons$Joan"), ("SkimmedSons$Youngest", "SkimmedSons$Heir"), ("SkimmedSons$Youngest", "SkimmedSons$Second"), ("SkimmedSons$Youngest", "SkimmedSons$Joan"), ("SkimmedSons$Joan", "SkimmedSons$Heir"), ("SkimmedSons$Joan", "SkimmedSons$Second")]
def ycL : List (String × String) := [("SkimmedSons$Heir", "SkimmedSons$Child"), ("SkimmedSons$Second", "SkimmedSons$Child"), ("SkimmedSons$Youngest", "SkimmedSons$Child"), ("SkimmedSons$Joan", "SkimmedSons$Child"), ("SkimmedSons$Joan", "SkimmedSons$Youngest")]
/-- which casts hold among the kinds of children -/
def zCast (U : State) : Prop := (∀ q ∈ ncL, va_Nc q.1 q.2 U) ∧ ∀ q ∈ ycL, va_Nw (.castable q.1 q.2) U
def nfL : List (String × Nat × String × String × String × String) := [("SkimmedSons", 171, "SkimmedSons$Pan", "sill", "I", "SkimmedSons"), ("SkimmedSons", 174, "SkimmedSons$Pan", "still", "I", "SkimmedSons"), ("SkimmedSons", 240, "SkimmedSons$Pan", "fat", "I", "SkimmedSons"), ("SkimmedSons$Treaty", 57, "SkimmedSons$Pan", "cream", "I", "SkimmedSons"), ("SkimmedSons", 279, "SkimmedSons$Pan", "cream", "I", "SkimmedSons"), ("SkimmedSons$Treaty", 54, "SkimmedSons$Pan", "blue", "I", "SkimmedSons")]
def nmL : List (String × Nat × MethodName × String) := [("SkimmedSons", 9, ⟨"SkimmedSons$Page", "<init>", "()V"⟩, "SkimmedSons"), ("SkimmedSons$Shelf", 17, ⟨"SkimmedSons$Pan", "<init>", "()V"⟩, "SkimmedSons"), ("SkimmedSons", 31, ⟨"SkimmedSons$Sights", "<init>", "()V"⟩, "SkimmedSons"), ("SkimmedSons", 47, ⟨"SkimmedSons$Pan", "<init>", "()V"⟩, "SkimmedSons"), ("SkimmedSons", 61, ⟨"SkimmedSons$Treaty", "<init>", "()V"⟩, "SkimmedSons"), ("SkimmedSons", 154, ⟨"SkimmedSons$Heir", "<init>", "()V"⟩, "SkimmedSons"), ("SkimmedSons$Heir", 3, ⟨"SkimmedSons$Child", "<init>", "()V"⟩, "SkimmedSons"), ("SkimmedSons", 157, ⟨"SkimmedSons$Second", "<init>", "()V"⟩, "SkimmedSons"), ("SkimmedSons$Second", 3, ⟨"SkimmedSons$Child", "<init>", "()V"⟩, "SkimmedSons"), ("SkimmedSons", 160, ⟨"SkimmedSons$Youngest", "<init>", "()V"⟩, "SkimmedSons"), ("SkimmedSons$Youngest", 3, ⟨"SkimmedSons$Child", "<init>", "()V"⟩, "SkimmedSons"), ("SkimmedSons", 163, ⟨"SkimmedSons$Joan", "<init>", "()V"⟩, "SkimmedSons"), ("SkimmedSons$Joan", 3, ⟨"SkimmedSons$Youngest", "<init>", "()V"⟩, "SkimmedSons"), ("SkimmedSons", 164, ⟨"SkimmedSons$Child", "<init>", "()V"⟩, "SkimmedSons")]
def aoL : List String := ["SkimmedSons$Child", "SkimmedSons$Pan", "SkimmedSons$Shelf"]
/-- links between nest mates; rows of references -/
def zNest (U : State) : Prop := (∀ q ∈ nfL, va_Nw (.fieldLinkNest q.1 q.2.1 q.2.2.1 q.2.2.2.1 q.2.2.2.2.1 q.2.2.2.2.2) U) ∧ (∀ q ∈ nmL, va_Nw (.methodLinkNest q.1 q.2.1 q.2.2.1 q.2.2.2) U) ∧ ∀ q ∈ aoL, va_AO q U
/-- what every method is given: the tables, and the two texts of the class -/
def zK (X : zX) (A : Nat → Prop) (U : State) (H : Heap) : Prop := zKV X U ∧ vk_S 2 [3, 5] zTx X.2.2.1 X.2.2.2 A U H ∧ (vk_R RX11 117 "wcf" (X.2.2.1 0) U ∧ vk_R RX11 143 "chsyj" (X.2.2.1 1) U) ∧ (vk_R RX3 44 "wcf" (X.2.2.1 0) U ∧ vk_R RX3 56 "chsyj" (X.2.2.1 1) U) ∧ va_Z "java/lang/String" "COMPACT_STRINGS" "Z" (.int 1) A U H ∧ zCast U ∧ zNest U
def zPc (X : zX) (av : List Value) (w : va_W) (sz : Nat) : Array Value → State → Prop := fun v U => v = av.toArray ∧ U.heap.size = sz ∧ va_P X.1 vwCl w U.heap ∧ va_D (fun _ => True) w ∧ zK X (va_A w sz) U U.heap
def zQ {S : Type} (X : zX) (rv : S → Option Value) (A : Nat → Prop) (w' : S → va_W) (post : S → Prop) : Array Value → State → Outcome → State → Prop := fun _ st oc t => (∃ u : S, oc = .returned (rv u) ∧ post u ∧ va_P X.1 vwCl (w' u) t.heap ∧ va_D A (w' u)) ∧ va_F A st t
def zM {S : Type} (l : Launch) (X : zX) (y : MethodName) (ws : List Cond) (rm : Room) (av : List Value) (w : va_W) (rv : S → Option Value) (w' : S → va_W) (post : S → Prop) : Prop :=
  ∀ sz : Nat, Met l y ws rm (zPc X av w sz) (zQ X rv (va_A w sz) w' post) rm.cells rm.slots (va_A w sz)
/-- no new cells, and an answer and a world that are told -/
abbrev zF (l : Launch) (X : zX) (y : MethodName) (ws : List Cond) (fr lo : Nat) (av : List Value) (w : va_W) (rv : Option Value) (w' : va_W) : Prop :=
  zM (S := Unit) l X y ws { frames := fr, cells := 0, slots := 0, locals := lo } av w (fun _ => rv) (fun _ => w') (fun _ => True)
theorem zK.narrow {X : zX} {A B : Nat → Prop} {U : State} {H : Heap} (h : zK X A U H) (hAB : ∀ q, B q → A q) : zK X B U H := ⟨h.1, h.2.1.narrow hAB, h.2.2.1, h.2.2.2.1, h.2.2.2.2.1.narrow hAB, h.2.2.2.2.2⟩
theorem zK.at {X : zX} {A : Nat → Prop} {s U : State} {H : Heap} {locs : List Loc} (h : zK X A s s.heap) (hS : va_S A s.heap H locs) (hU : U.heap = H) (hW : s.WarmedH U.vm) : zK X A U U.heap := by
  obtain ⟨h1, h2, ⟨h3, h4⟩, ⟨h5, h6⟩, h7, ⟨h8, h9⟩, h10, h11, h12⟩ := h
  refine ⟨va_K.moved hW.alike h1, ?_, ⟨h3.warm hW, h4.warm hW⟩, ⟨h5.warm hW, h6.warm hW⟩, ?_, ⟨fun q hq => (h8 q hq).moved hW.alike, fun q hq => (h9 q hq).warmC hW⟩, fun q hq => (h10 q hq).warmF hW, fun q hq => (h11 q hq).warmM hW, fun q hq => (h12 q hq).moved hW.alike⟩
  · rw [hU]
    exact vk_S.moved hW.alike (h2.kept (fun a ha hn => hS.2.1 a ha hn))
  · rw [hU]
    exact va_Z.moved hW.alike (h7.kept (fun a ha hn => hS.2.1 a ha hn))
theorem zPc.blind {X : zX} {av : List Value} {w : va_W} {sz : Nat} : FrameBlind (zPc X av w sz) := by
  intro a U g mk q
  obtain ⟨q0, q1, qP, qD, q2, q3, ⟨q4, q5⟩, ⟨q6, q7⟩, q8, ⟨q9, q10⟩, q11, q12, q13⟩ := q
  exact ⟨q0, q1, qP, qD, va_K.moved (u := U) (U := U.calling g mk a) (Vm.Alike.refl U.vm) q2, vk_S.moved (u := U) (U := U.calling g mk a) (Vm.Alike.refl U.vm) q3, ⟨vk_R.same rfl q4, vk_R.same rfl q5⟩, ⟨vk_R.same rfl q6, vk_R.same rfl q7⟩, va_Z.moved (u := U) (U := U.calling g mk a) (Vm.Alike.refl U.vm) q8, ⟨fun z hz => (q9 z hz).moved (U := U.calling g mk a) (Vm.Alike.refl U.vm), fun z hz => va_Nw.same (U := U.calling g mk a) rfl rfl (q10 z hz)⟩, fun z hz => va_Nw.same (U := U.calling g mk a) rfl rfl (q11 z hz), fun z hz => va_Nw.same (U := U.calling g mk a) rfl rfl (q12 z hz), fun z hz => va_AO.moved (u := U) (U := U.calling g mk a) (Vm.Alike.refl U.vm) (q13 z hz)⟩
/-- what a walk stands on -/
def zE (p : Program) (s : State) (m : MethodId) (args : Array Value) (meth : Method) (c : Code) (X : zX) (A : Nat → Prop) (own : String) (nm : String) (ws : List Cond) (cc : ByteArray) (maxL : Nat) (ret : Option FieldType) : Prop :=
  p.tables.exec = Jvm.exec ∧ c.code = cc ∧ meth.sig.returnType = ret ∧ c.maxLocals = maxL ∧ s.vm.findClass own = some m.cls ∧ (∀ w ∈ ws, w.before args s = true) ∧ meth.locks = false ∧ meth.name = nm ∧ (∀ q : Nat, s.heap.size ≤ q → A q) ∧ zK X A s s.heap
theorem z_enter {S : Type} {l : Launch} {X : zX} {y : MethodName} {ws ws' : List Cond} {rm : Room} {av : List Value} {w : va_W} {rv : S → Option Value} {w' : S → va_W} {post : S → Prop} {cc : ByteArray} {maxL : Nat} {ret : Option FieldType}
    (hy : plainName y.cls = true) (hw : ws = Cond.code y cc maxL ret :: ws') (hn : (lg_sl av).length ≤ maxL)
    (body : ∀ (p : Program) (e : Env) (s : State) (m : MethodId) (below : List Frame) (meth : Method) (c : Code) (A : Nat → Prop) (ls : Array Slot) (Q : State → Prop), Q = MQ below (zQ X rv A w' post) av.toArray s rm.cells rm.slots A → zE p s m av.toArray meth c X A y.cls y.name ws cc maxL ret → lv_has ls maxL (lv_args 0 av) → va_P X.1 vwCl w s.heap → va_D A w →
      W p l e rm s m av.toArray below meth c s.heap [] 0 0 Q (F0 m 0 ls [])) : zM l X y ws rm av w rv w' post := by
  intro sz
  refine Met.ofW (cc := cc) (maxL := maxL) (ret := ret) hy hw ?_
  intro p e s m args below meth c s₁ B hml hv
  obtain ⟨rfl, hsz, hP, hD0, hK⟩ := hv
  subst hsz
  have hl := lv_entry av (n := maxL) hn
  rw [lg_entry_eq]
  exact body p e s m below meth c (va_A w s.heap.size) _ _ rfl ⟨B.exec, B.bytes, B.returns, hml, findClass_of_methodNamed B.named, atoms_spec (ws := ws) B.pre, B.notSynchronized, (name_of_methodNamed B.named B.method).1, fun q h => Or.inr h, hK⟩ hl hP (hD0.self (sz := s.heap.size))
section ZW
variable {p : Program} {l : Launch} {e : Env} {R : Room} {s : State} {m : MethodId} {args : Array Value} {below : List Frame} {meth : Method} {c : Code} {H : Heap} {locs : List Loc} {cells slots mc ms : Nat} {Q : State → Prop} {X : zX} {A : Nat → Prop}
variable {cc : ByteArray} {pc : Nat} {ls : Array Slot} {rest st0 : List Value}
theorem z_vret {S : Type} {rv : S → Option Value} {w' : S → va_W} {post : S → Prop} (hQ : Q = MQ below (zQ X rv A w' post) args s mc ms A) (hx : p.tables.exec = Jvm.exec) (hb : c.code = cc) (hr : meth.sig.returnType = none) (hlocks : meth.locks = false) (hS : va_S A s.heap H locs) (hc : cells ≤ mc ∧ slots ≤ ms) (hdg : decode cc pc = .ok (.return_, 1)) (u : S) (hrv : rv u = none) (hp : post u) (hP : va_P X.1 vwCl (w' u) H) (hD : va_D A (w' u)) :
    W p l e R s m args below meth c H locs cells slots Q (F0 m pc ls []) :=
  by subst hQ; exact W.widen hc.1 hc.2 (W.vret hx hb hr (fun t ht hW => ⟨⟨u, by rw [hrv], hp, by rw [ht]; exact hP, hD⟩, hS.F ht⟩) hS.2.2 hdg hlocks)
theorem z_iret {S : Type} {rv : S → Option Value} {w' : S → va_W} {post : S → Prop} {v : Int32} (hQ : Q = MQ below (zQ X rv A w' post) args s mc ms A) (hx : p.tables.exec = Jvm.exec) (hb : c.code = cc) (hr : meth.sig.returnType = some .int) (hlocks : meth.locks = false) (hS : va_S A s.heap H locs) (hc : cells ≤ mc ∧ slots ≤ ms) (hdg : decode cc pc = .ok (.ireturn, 1)) (u : S) (hrv : rv u = some (.int v)) (hp : post u) (hP : va_P X.1 vwCl (w' u) H) (hD : va_D A (w' u)) :
    W p l e R s m args below meth c H locs cells slots Q (F0 m pc ls [.int v]) :=
  by subst hQ; exact W.widen hc.1 hc.2 (W.iret hx hb hr (fun t ht hW => ⟨⟨u, by rw [hrv], hp, by rw [ht]; exact hP, hD⟩, hS.F ht⟩) hS.2.2 hdg hlocks)
theorem z_zret {S : Type} {rv : S → Option Value} {w' : S → va_W} {post : S → Prop} {v : Int32} {ty : FieldType} (hQ : Q = MQ below (zQ X rv A w' post) args s mc ms A) (hx : p.tables.exec = Jvm.exec) (hb : c.code = cc) (hr : meth.sig.returnType = some ty) (hn : narrow ty (.int v) = .int v) (hlocks : meth.locks = false) (hS : va_S A s.heap H locs) (hc : cells ≤ mc ∧ slots ≤ ms) (hdg : decode cc pc = .ok (.ireturn, 1)) (u : S) (hrv : rv u = some (.int v)) (hp : post u) (hP : va_P X.1 vwCl (w' u) H) (hD : va_D A (w' u)) :
    W p l e R s m args below meth c H locs cells slots Q (F0 m pc ls [.int v]) :=
  by subst hQ; exact W.widen hc.1 hc.2 (W.zret hx hb hr hn (fun t ht hW => ⟨⟨u, by rw [hrv], hp, by rw [ht]; exact hP, hD⟩, hS.F ht⟩) hS.2.2 hdg hlocks)
theorem z_lret {S : Type} {rv : S → Option Value} {w' : S → va_W} {post : S → Prop} {v : Int64} (hQ : Q = MQ below (zQ X rv A w' post) args s mc ms A) (hx : p.tables.exec = Jvm.exec) (hb : c.code = cc) (hr : meth.sig.returnType = some .long) (hlocks : meth.locks = false) (hS : va_S A s.heap H locs) (hc : cells ≤ mc ∧ slots ≤ ms) (hdg : decode cc pc = .ok (.lreturn, 1)) (u : S) (hrv : rv u = some (.long v)) (hp : post u) (hP : va_P X.1 vwCl (w' u) H) (hD : va_D A (w' u)) :
    W p l e R s m args below meth c H locs cells slots Q (F0 m pc ls [.long v]) :=
  by subst hQ; exact W.widen hc.1 hc.2 (W.lret hx hb hr (fun t ht hW => ⟨⟨u, by rw [hrv], hp, by rw [ht]; exact hP, hD⟩, hS.F ht⟩) hS.2.2 hdg hlocks)
theorem z_aret {S : Type} {rv : S → Option Value} {w' : S → va_W} {post : S → Prop} {v : Value} {n : String} (hQ : Q = MQ below (zQ X rv A w' post) args s mc ms A) (hx : p.tables.exec = Jvm.exec) (hb : c.code = cc) (hr : meth.sig.returnType = some (.object n)) (hv : v = .null ∨ ∃ a, v = .ref a) (hlocks : meth.locks = false) (hS : va_S A s.heap H locs) (hc : cells ≤ mc ∧ slots ≤ ms) (hdg : decode cc pc = .ok (.areturn, 1)) (u : S) (hrv : rv u = some v) (hp : post u) (hP : va_P X.1 vwCl (w' u) H) (hD : va_D A (w' u)) :
    W p l e R s m args below meth c H locs cells slots Q (F0 m pc ls [v]) :=
  by subst hQ; exact W.widen hc.1 hc.2 (W.aret hx hb hr (Or.inl ⟨n, rfl⟩) hv (fun t ht hW => ⟨⟨u, by rw [hrv], hp, by rw [ht]; exact hP, hD⟩, hS.F ht⟩) hS.2.2 hdg hlocks)
/-- behind a call -/
theorem z_behind {S : Type} {rv : S → Option Value} {wc wr : va_W} {w1 : S → va_W} {post : S → Prop} {a : Array Value}
    (hr : va_Run p l e R s m args below meth c H locs cells slots mc ms (F0 m pc ls st0) rest (zQ X rv (va_A wc H.size) w1 post a) (va_A wc H.size))
    (hP : va_P X.1 vwCl (wc ++ wr) H) (hD : va_D A (wc ++ wr)) (hS : va_S A s.heap H locs) (hA : ∀ q : Nat, s.heap.size ≤ q → A q)
    (kk : ∀ (u : S) (H1 : Heap) (locs1 : List Loc), post u → va_P X.1 vwCl (w1 u ++ wr) H1 → va_D A (w1 u ++ wr) → va_S A s.heap H1 locs1 → W p l e R s m args below meth c H1 locs1 (cells + mc) (slots + ms) Q (F0 m (pc + 3) ls ((rv u).toList ++ rest))) :
    W p l e R s m args below meth c H locs cells slots Q (F0 m pc ls st0) := by
  have hF : ∀ q, va_A wc H.size q → A q := by
    intro q h
    rcases za_iff.mp h with h | h
    · obtain ⟨x, hx, rfl⟩ := List.mem_map.mp h
      exact (zd_iff.mp hD).2 x (List.mem_append_left _ hx)
    · exact hA q (Nat.le_trans hS.1 h)
  intro T hT X0
  obtain ⟨v, st₀, t, T', L, h0, X', hL, e1, e2, ⟨⟨u, hv, hp, hP1, hD1⟩, hz, hk⟩, st⟩ := hr T hT X0
  cases hv
  rw [h0] at hz hk
  have hz' : H.size ≤ T'.heap.size := by rw [e1]; exact hz
  have hk' : ∀ q : Nat, q < H.size → ¬ va_A wc H.size q → T'.heap[q]? = H[q]? := fun q h1 h2 => by rw [e1]; exact hk q h1 h2
  obtain ⟨hP2, hD2⟩ := z_join hP hD hk' hF (by rw [e1]; exact hP1) hD1
  obtain ⟨t2, a1, b1⟩ := kk u T'.heap (locs ++ L) hp hP2 hD2 ⟨Nat.le_trans hS.1 hz', fun q h1 h2 => by
      rw [hk' q (Nat.lt_of_lt_of_le h1 hS.1) (fun z => h2 (hF q z))]; exact hS.2.1 q h1 h2, fun q hq => by
      rcases List.mem_append.mp hq with h | h
      · exact hS.2.2 q h
      · exact hF _ (hL q h)⟩ T' rfl X'
  exact ⟨t2, st t2 a1, b1⟩
theorem z_preS {av : List Value} {wc wr : va_W} (hP : va_P X.1 vwCl (wc ++ wr) H) (hD : va_D A (wc ++ wr)) (hS : va_S A s.heap H locs) (hA : ∀ q : Nat, s.heap.size ≤ q → A q) (hK : zK X A s s.heap) : PreS s H (zPc X av wc H.size) av := by
  refine ⟨zPc.blind, fun U hU hW => ⟨rfl, by rw [hU], by rw [hU]; exact (zp_app.mp hP).1, (zd_left hD).weaken (fun _ _ _ _ => trivial), ?_⟩⟩
  refine (hK.at hS hU hW).narrow (fun q h => ?_)
  rcases za_iff.mp h with h | h
  · obtain ⟨x, hx, rfl⟩ := List.mem_map.mp h
    exact (zd_iff.mp hD).2 x (List.mem_append_left _ hx)
  · exact hA q (Nat.le_trans hS.1 h)
variable {S : Type} {rv : S → Option Value} {wc wr : va_W} {w1 : S → va_W} {post : S → Prop} {y : MethodName} {bytes : ByteArray} {maxL nL n index : Nat} {ret : Option FieldType} {ws : List Cond} {rm : Room} {Ts : List Cond} {own C : String} {b : Addr} {As : List Value}
/-- a static method -/
theorem z_callS (S0 : CallFix p m c cc nL s args Ts own) (hM : zM l X y ws rm As wc rv w1 post) (cw : CallB R s args own index y bytes maxL ret ws rm rm.cells rm.slots n ∧ (Cond.static y).before args s = true)
    (hsize : ls.size = nL) (hdg : decode cc pc = .ok (.invokestatic index, 3)) (hn : As.length = n) (hstack : st0 = As.reverse ++ rest) (hroom : (rest.map fun v => v.category).sum ≤ 8) (hf : cells + rm.cells ≤ R.cells ∧ slots + rm.slots ≤ R.slots)
    (hS : va_S A s.heap H locs) (hA : ∀ q : Nat, s.heap.size ≤ q → A q) (hK : zK X A s s.heap) (hP : va_P X.1 vwCl (wc ++ wr) H) (hD : va_D A (wc ++ wr))
    (kk : ∀ (u : S) (H1 : Heap) (locs1 : List Loc), post u → va_P X.1 vwCl (w1 u ++ wr) H1 → va_D A (w1 u ++ wr) → va_S A s.heap H1 locs1 → W p l e R s m args below meth c H1 locs1 (cells + rm.cells) (slots + rm.slots) Q (F0 m (pc + 3) ls ((rv u).toList ++ rest))) :
    W p l e R s m args below meth c H locs cells slots Q (F0 m pc ls st0) :=
  z_behind (va_runS S0 (hM H.size) cw (z_preS hP hD hS hA hK) rfl hn hsize hstack (lv_room hroom) hdg hf) hP hD hS hA kk
/-- a method of the receiver's own class -/
theorem z_callV (S0 : CallFix p m c cc nL s args Ts own) (hM : zM l X y ws rm (.ref b :: As) wc rv w1 post) (cw : CallW R s args own C index y bytes maxL ret ws rm rm.cells rm.slots n)
    {ci : Nat} {T : u_T} {N : Nat} {fs : List Value} (hcl : vwCl[ci]? = some (C, T, N)) (hb0 : wc[0]? = some (b, .inr (ci, fs)))
    (hsize : ls.size = nL) (hdg : decode cc pc = .ok (.invokevirtual index, 3)) (hn : As.length = n) (hstack : st0 = As.reverse ++ .ref b :: rest) (hroom : (rest.map fun v => v.category).sum ≤ 8) (hf : cells + rm.cells ≤ R.cells ∧ slots + rm.slots ≤ R.slots)
    (hS : va_S A s.heap H locs) (hA : ∀ q : Nat, s.heap.size ≤ q → A q) (hK : zK X A s s.heap) (hP : va_P X.1 vwCl (wc ++ wr) H) (hD : va_D A (wc ++ wr))
    (kk : ∀ (u : S) (H1 : Heap) (locs1 : List Loc), post u → va_P X.1 vwCl (w1 u ++ wr) H1 → va_D A (w1 u ++ wr) → va_S A s.heap H1 locs1 → W p l e R s m args below meth c H1 locs1 (cells + rm.cells) (slots + rm.slots) Q (F0 m (pc + 3) ls ((rv u).toList ++ rest))) :
    W p l e R s m args below meth c H locs cells slots Q (F0 m pc ls st0) :=
  z_behind (va_runV S0 (hM H.size) cw ⟨(z_preS hP hD hS hA hK).1, va_recv (q := (C, T, N)) hK.1 (zp_app.mp hP).1 hcl hb0, (z_preS hP hD hS hA hK).2⟩ rfl hn hsize hstack (lv_room hroom) hdg hf) hP hD hS hA kk
/-- a constructor -/
theorem z_callI (S0 : CallFix p m c cc nL s args Ts own) (hM : zM l X y ws rm (.ref b :: As) wc rv w1 post) (cw : CallB R s args own index y bytes maxL none ws rm rm.cells rm.slots n ∧ y.name = "<init>" ∧ (Cond.instanceMethod y).before args s = true)
    (hsize : ls.size = nL) (hdg : decode cc pc = .ok (.invokespecial index, 3)) (hn : As.length = n) (hstack : st0 = As.reverse ++ .ref b :: rest) (hroom : (rest.map fun v => v.category).sum ≤ 8) (hf : cells + rm.cells ≤ R.cells ∧ slots + rm.slots ≤ R.slots)
    (hS : va_S A s.heap H locs) (hA : ∀ q : Nat, s.heap.size ≤ q → A q) (hK : zK X A s s.heap) (hP : va_P X.1 vwCl (wc ++ wr) H) (hD : va_D A (wc ++ wr))
    (kk : ∀ (u : S) (H1 : Heap) (locs1 : List Loc), post u → va_P X.1 vwCl (w1 u ++ wr) H1 → va_D A (w1 u ++ wr) → va_S A s.heap H1 locs1 → W p l e R s m args below meth c H1 locs1 (cells + rm.cells) (slots + rm.slots) Q (F0 m (pc + 3) ls ((rv u).toList ++ rest))) :
    W p l e R s m args below meth c H locs cells slots Q (F0 m pc ls st0) :=
  z_behind (va_runI S0 (hM H.size) cw (z_preS hP hD hS hA hK) rfl hn hsize hstack (lv_room hroom) hdg hf) hP hD hS hA kk
end ZW
abbrev zb (bs : List va_W) : va_W := bs.flatten
theorem zf1 {α : Type} : ∀ (bs : List α) (j : Nat) (b : α), bs[j]? = some b → bs.Perm (b :: bs.eraseIdx j)
  | [], j, b, h => by simp at h
  | x :: bs, 0, b, h => by
    simp only [List.getElem?_cons_zero, Option.some.injEq] at h
    subst h
    exact List.Perm.refl _
  | x :: bs, j + 1, b, h => by
    simp only [List.getElem?_cons_succ] at h
    rw [List.eraseIdx_cons_succ]
    exact ((zf1 bs j b h).cons x).trans (List.Perm.swap b x _)
theorem perm_flat {α : Type} {l l' : List (List α)} (h : l.Perm l') : l.flatten.Perm l'.flatten := by
  induction h with
  | nil => exact List.Perm.refl _
  | cons x _ ih => simp only [List.flatten_cons]; exact List.Perm.append_left _ ih
  | swap x y l =>
    simp only [List.flatten_cons]
    rw [← List.append_assoc, ← List.append_assoc]
    exact List.Perm.append_right _ List.perm_append_comm
  | trans _ _ h1 h2 => exact h1.trans h2
theorem zblk {bs cs ds : List va_W} (h : bs.Perm (cs ++ ds)) : (zb bs).Perm (zb cs ++ zb ds) := by
  have := perm_flat h
  rwa [List.flatten_append] at this
