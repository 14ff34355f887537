-- New objects and rows
def Wo (o ci : Nat) (fs : List Value) : va_W := [(o, .inr (ci, fs))]
def Wa (X : zX) (k a n : Nat) (f : Nat → Int) : va_W := [(a, zArr (X.2.1 k) n f)]
def Wr (X : zX) (k a n : Nat) (f : Nat → Option Nat) : va_W := [(a, zRef (X.2.1 k) n f)]
theorem zb_snoc (bs : List va_W) (w : va_W) : zb bs ++ w = zb (bs ++ [w]) := by simp [zb]
theorem zp_drop {D : va_G} {cl : List vw_C} {w1 w2 : va_W} {H : Heap} (h : va_P D cl (w1 ++ w2) H) : va_P D cl w1 H := (zp_app.mp h).1
section ZN
variable {p : Program} {l : Launch} {e : Env} {R : Room} {s : State} {m : MethodId} {args : Array Value} {below : List Frame} {meth : Method} {c : Code} {H : Heap} {locs : List Loc} {cells slots : Nat} {Q : State → Prop}
variable {cc : ByteArray} {pc : Nat} {ls : Array Slot} {rest st0 : List Value} {X : zX} {A : Nat → Prop} {bs : List va_W}
theorem z_newi (hx : p.tables.exec = Jvm.exec) (hb : c.code = cc) (harr : (Cond.arrayClass .int).before args s = true) (hK : zKV X s) (hP : va_P X.1 vwCl (zb bs) H) (hD : va_D A (zb bs)) (hS : va_S A s.heap H locs) (hA : ∀ q : Nat, s.heap.size ≤ q → A q) (n : Nat) {z : Int} (hz : z = n ∧ n ≤ 100000) (hcells : cells + 1 ≤ R.cells) (hslots : slots + n ≤ R.slots) (hdg : decode cc pc = .ok (.newarray .int, 2))
    (kk : ∀ (q : Nat) (H1 : Heap), va_P X.1 vwCl (zb (bs ++ [Wa X 2 q n (fun _ => 0)])) H1 → va_D A (zb (bs ++ [Wa X 2 q n (fun _ => 0)])) → va_S A s.heap H1 locs → W p l e R s m args below meth c H1 locs (cells + 1) (slots + n) Q (F0 m (pc + 2) ls (.ref q :: rest))) :
    W p l e R s m args below meth c H locs cells slots Q (F0 m pc ls (.int (iI z) :: rest)) := by
  refine va_newa (atype := .int) (ty := .int) hx hb harr rfl hK hP hD hS hA (N' := n) (a0 := (n, .inl (fun _ => iI 0))) (fun cA => rfl) (by rw [← iI_0, iI_lt ⟨⟨by omega, by omega⟩, by decide⟩]; omega) (by rw [iI_clamp ⟨by omega, by omega⟩]; omega) (by show n * 4 ≤ 536870912; omega) hcells hslots hdg (fun q cA H1 hK' hP' hD' hS' => ?_)
  have h1 : s.vm.findClass "[I" = some cA := va_nm_int (hK'.2 6 _ rfl).2
  have h2 : s.vm.findClass "[I" = some (X.2.1 2) := va_nm_int (hK.2 2 _ rfl).2
  have h3 : cA = X.2.1 2 := Option.some.inj (h1.symm.trans h2)
  subst h3
  have hP2 := (zb_snoc bs (Wa X 2 q n (fun _ => 0))) ▸ (show va_P X.1 vwCl (zb bs ++ Wa X 2 q n (fun _ => 0)) H1 from hP')
  have hD2 := (zb_snoc bs (Wa X 2 q n (fun _ => 0))) ▸ (show va_D A (zb bs ++ Wa X 2 q n (fun _ => 0)) from hD')
  exact kk q H1 hP2 hD2 hS'
theorem z_newc (hx : p.tables.exec = Jvm.exec) (hb : c.code = cc) (harr : (Cond.arrayClass .char).before args s = true) (hK : zKV X s) (hP : va_P X.1 vwCl (zb bs) H) (hD : va_D A (zb bs)) (hS : va_S A s.heap H locs) (hA : ∀ q : Nat, s.heap.size ≤ q → A q) (n : Nat) {z : Int} (hz : z = n ∧ n ≤ 100000) (hcells : cells + 1 ≤ R.cells) (hslots : slots + n ≤ R.slots) (hdg : decode cc pc = .ok (.newarray .char, 2))
    (kk : ∀ (q : Nat) (H1 : Heap), va_P X.1 vwCl (zb (bs ++ [Wa X 1 q n (fun _ => 0)])) H1 → va_D A (zb (bs ++ [Wa X 1 q n (fun _ => 0)])) → va_S A s.heap H1 locs → W p l e R s m args below meth c H1 locs (cells + 1) (slots + n) Q (F0 m (pc + 2) ls (.ref q :: rest))) :
    W p l e R s m args below meth c H locs cells slots Q (F0 m pc ls (.int (iI z) :: rest)) := by
  refine va_newa (atype := .char) (ty := .char) hx hb harr rfl hK hP hD hS hA (N' := n) (a0 := (n, .inl (fun _ => iI 0))) (fun cA => rfl) (by rw [← iI_0, iI_lt ⟨⟨by omega, by omega⟩, by decide⟩]; omega) (by rw [iI_clamp ⟨by omega, by omega⟩]; omega) (by show n * 2 ≤ 536870912; omega) hcells hslots hdg (fun q cA H1 hK' hP' hD' hS' => ?_)
  have h1 : s.vm.findClass "[C" = some cA := va_nm_char (hK'.2 6 _ rfl).2
  have h2 : s.vm.findClass "[C" = some (X.2.1 1) := va_nm_char (hK.2 1 _ rfl).2
  have h3 : cA = X.2.1 1 := Option.some.inj (h1.symm.trans h2)
  subst h3
  have hP2 := (zb_snoc bs (Wa X 1 q n (fun _ => 0))) ▸ (show va_P X.1 vwCl (zb bs ++ Wa X 1 q n (fun _ => 0)) H1 from hP')
  have hD2 := (zb_snoc bs (Wa X 1 q n (fun _ => 0))) ▸ (show va_D A (zb bs ++ Wa X 1 q n (fun _ => 0)) from hD')
  exact kk q H1 hP2 hD2 hS'
theorem z_newb (hx : p.tables.exec = Jvm.exec) (hb : c.code = cc) (harr : (Cond.arrayClass .byte).before args s = true) (hK : zKV X s) (hP : va_P X.1 vwCl (zb bs) H) (hD : va_D A (zb bs)) (hS : va_S A s.heap H locs) (hA : ∀ q : Nat, s.heap.size ≤ q → A q) (n : Nat) {z : Int} (hz : z = n ∧ n ≤ 100000) (hcells : cells + 1 ≤ R.cells) (hslots : slots + n ≤ R.slots) (hdg : decode cc pc = .ok (.newarray .byte, 2))
    (kk : ∀ (q : Nat) (H1 : Heap), va_P X.1 vwCl (zb (bs ++ [Wa X 0 q n (fun _ => 0)])) H1 → va_D A (zb (bs ++ [Wa X 0 q n (fun _ => 0)])) → va_S A s.heap H1 locs → W p l e R s m args below meth c H1 locs (cells + 1) (slots + n) Q (F0 m (pc + 2) ls (.ref q :: rest))) :
    W p l e R s m args below meth c H locs cells slots Q (F0 m pc ls (.int (iI z) :: rest)) := by
  refine va_newa (atype := .byte) (ty := .byte) hx hb harr rfl hK hP hD hS hA (N' := n) (a0 := (n, .inl (fun _ => iI 0))) (fun cA => rfl) (by rw [← iI_0, iI_lt ⟨⟨by omega, by omega⟩, by decide⟩]; omega) (by rw [iI_clamp ⟨by omega, by omega⟩]; omega) (by show n * 1 ≤ 536870912; omega) hcells hslots hdg (fun q cA H1 hK' hP' hD' hS' => ?_)
  have h1 : s.vm.findClass "[B" = some cA := va_nm_byte (hK'.2 6 _ rfl).2
  have h2 : s.vm.findClass "[B" = some (X.2.1 0) := va_nm_byte (hK.2 0 _ rfl).2
  have h3 : cA = X.2.1 0 := Option.some.inj (h1.symm.trans h2)
  subst h3
  have hP2 := (zb_snoc bs (Wa X 0 q n (fun _ => 0))) ▸ (show va_P X.1 vwCl (zb bs ++ Wa X 0 q n (fun _ => 0)) H1 from hP')
  have hD2 := (zb_snoc bs (Wa X 0 q n (fun _ => 0))) ▸ (show va_D A (zb bs ++ Wa X 0 q n (fun _ => 0)) from hD')
  exact kk q H1 hP2 hD2 hS'
theorem z_newr (hx : p.tables.exec = Jvm.exec) (hb : c.code = cc) {own C : String} {index : Nat} (hown : s.vm.findClass own = some m.cls) (hclink : (Cond.classLink own index C).before args s = true) (hover : va_AO C s) (hK : zKV X s) (hP : va_P X.1 vwCl (zb bs) H) (hD : va_D A (zb bs)) (hS : va_S A s.heap H locs) (hA : ∀ q : Nat, s.heap.size ≤ q → A q) (k : Nat) (ht : (tyL X.2.1)[k]? = some (X.2.1 k, .object C)) (n : Nat) {z : Int} (hz : z = n ∧ n ≤ 100000) (hcells : cells + 1 ≤ R.cells) (hslots : slots + n ≤ R.slots) (hdg : decode cc pc = .ok (.anewarray index, 3))
    (kk : ∀ (q : Nat) (H1 : Heap), va_P X.1 vwCl (zb (bs ++ [Wr X k q n (fun _ => none)])) H1 → va_D A (zb (bs ++ [Wr X k q n (fun _ => none)])) → va_S A s.heap H1 locs → W p l e R s m args below meth c H1 locs (cells + 1) (slots + n) Q (F0 m (pc + 3) ls (.ref q :: rest))) :
    W p l e R s m args below meth c H locs cells slots Q (F0 m pc ls (.int (iI z) :: rest)) := by
  refine va_newq hx hb hown hclink hover hK hP hD hS hA (N' := n) (by rw [← iI_0, iI_lt ⟨⟨by omega, by omega⟩, by decide⟩]; omega) (by rw [iI_clamp ⟨by omega, by omega⟩]; omega) (by omega) hcells hslots hdg (fun q cA H1 hK' hP' hD' hS' => ?_)
  obtain ⟨_, _, _, _, _, h1⟩ := (hK'.2 6 _ rfl).2
  obtain ⟨_, _, _, _, _, h2⟩ := (hK.2 k _ ht).2
  have h3 : cA = X.2.1 k := Option.some.inj (h1.symm.trans h2)
  subst h3
  have hP2 := (zb_snoc bs (Wr X k q n (fun _ => none))) ▸ (show va_P X.1 vwCl (zb bs ++ Wr X k q n (fun _ => none)) H1 from hP')
  have hD2 := (zb_snoc bs (Wr X k q n (fun _ => none))) ▸ (show va_D A (zb bs ++ Wr X k q n (fun _ => none)) from hD')
  exact kk q H1 hP2 hD2 hS'
theorem z_new (hx : p.tables.exec = Jvm.exec) (hb : c.code = cc) {own C : String} {T : u_T} {N index : Nat} {Ts : List Cond} (hts : ∀ w ∈ Ts, w.before args s = true) (hin : ∀ w ∈ u_ws C T N, w ∈ Ts) (ty : Nat → FieldType) (hty : ∀ k, k < N → parseFieldDescriptor (T k).2.2.1 = some (ty k)) (hown : s.vm.findClass own = some m.cls) (hcl : (Cond.classLink own index C).before args s = true) (hinst : (Cond.instantiable C N).before args s = true) (hini : (Cond.initialized C).before args s = true)
    (hK : zKV X s) (hP : va_P X.1 vwCl (zb bs) H) (hD : va_D A (zb bs)) (hS : va_S A s.heap H locs) (hA : ∀ q : Nat, s.heap.size ≤ q → A q) (ci : Nat) (hc : vwCl[ci]? = some (C, T, N)) (fs : List Value) (hfs : ∀ j, j < N → defaultValue (ty j) = vp_V fs j) (hcells : cells + 1 ≤ R.cells) (hslots : slots + N ≤ R.slots) (hdg : decode cc pc = .ok (.new index, 3))
    (kk : ∀ (q : Nat) (H1 : Heap), va_P X.1 vwCl (zb (bs ++ [Wo q ci fs])) H1 → va_D A (zb (bs ++ [Wo q ci fs])) → va_S A s.heap H1 locs → W p l e R s m args below meth c H1 locs (cells + 1) (slots + N) Q (F0 m (pc + 3) ls (.ref q :: rest))) :
    W p l e R s m args below meth c H locs cells slots Q (F0 m pc ls rest) := by
  refine va_new hx hb hts hin ty hty hown hcl hinst hini hK hP hD hS hA hc hfs hcells hslots hdg (fun q H1 hP' hD' hS' => ?_)
  have hP2 := (zb_snoc bs (Wo q ci fs)) ▸ (show va_P X.1 vwCl (zb bs ++ Wo q ci fs) H1 from hP')
  have hD2 := (zb_snoc bs (Wo q ci fs)) ▸ (show va_D A (zb bs ++ Wo q ci fs) from hD')
  exact kk q H1 hP2 hD2 hS'
variable {S : Type} {rv : S → Option Value} {wc wr : va_W} {w1 : S → va_W} {post : S → Prop} {y : MethodName} {bytes : ByteArray} {maxL nL n index : Nat} {ret : Option FieldType} {ws : List Cond} {rm : Room} {Ts : List Cond} {own C host : String} {b : Addr} {As : List Value}
/-- a nest mate's constructor -/
theorem z_callIN (S0 : CallFix p m c cc nL s args Ts own) (hM : zM l X y ws rm (.ref b :: As) wc rv w1 post) (cw : va_CN R s args own index y host bytes maxL none ws rm rm.cells rm.slots n ∧ y.name = "<init>" ∧ (Cond.instanceMethod y).before args s = true)
    (hsize : ls.size = nL) (hdg : decode cc pc = .ok (.invokespecial index, 3)) (hn : As.length = n) (hstack : st0 = As.reverse ++ .ref b :: rest) (hroom : (rest.map fun v => v.category).sum ≤ 8) (hf : cells + rm.cells ≤ R.cells ∧ slots + rm.slots ≤ R.slots)
    (hS : va_S A s.heap H locs) (hA : ∀ q : Nat, s.heap.size ≤ q → A q) (hK : zK X A s s.heap) (hP : va_P X.1 vwCl (wc ++ wr) H) (hD : va_D A (wc ++ wr))
    (kk : ∀ (u : S) (H1 : Heap) (locs1 : List Loc), post u → va_P X.1 vwCl (w1 u ++ wr) H1 → va_D A (w1 u ++ wr) → va_S A s.heap H1 locs1 → W p l e R s m args below meth c H1 locs1 (cells + rm.cells) (slots + rm.slots) Q (F0 m (pc + 3) ls ((rv u).toList ++ rest))) :
    W p l e R s m args below meth c H locs cells slots Q (F0 m pc ls st0) :=
  z_behind (va_runIN S0 (hM H.size) cw (z_preS hP hD hS hA hK) rfl hn hsize hstack (lv_room hroom) hdg hf) hP hD hS hA kk
theorem z_aast (hx : p.tables.exec = Jvm.exec) (hb : c.code = cc) (hK : zKV X s) {w : va_W} (hP : va_P X.1 vwCl w H) (hD : va_D A w) (hS : va_S A s.heap H locs) (q0 k qk ci : Nat) {a n v : Nat} {r : vw_C} {vs : List Value} {f : Nat → Option Nat} (ha : w[q0]? = some (a, zRef (X.2.1 k) n f)) (ht : (tyL X.2.1)[k]? = some (X.2.1 k, .object r.1)) (hv : w[qk]? = some (v, .inr (ci, vs))) (hc : vwCl[ci]? = some r) {z : Int} (hi : 0 ≤ z ∧ z < n ∧ n < 2147483648) (hdg : decode cc pc = .ok (.aastore, 1))
    (kk : ∀ (H1 : Heap) (locs1 : List Loc), va_P X.1 vwCl (w.set q0 (a, zRef (X.2.1 k) n (va_up f z.toNat (some v)))) H1 → va_D A (w.set q0 (a, zRef (X.2.1 k) n (va_up f z.toNat (some v)))) → va_S A s.heap H1 locs1 → W p l e R s m args below meth c H1 locs1 cells slots Q (F0 m (pc + 1) ls rest)) :
    W p l e R s m args below meth c H locs cells slots Q (F0 m pc ls (.ref v :: .int (iI z) :: .ref a :: rest)) := by
  refine va_astq hx hb hK hP hD hS q0 k qk ci ha ht hv hc (iI_in hi) hdg (fun H1 locs1 h1 h2 h3 => ?_)
  rw [iI_clamp ⟨by omega, by omega⟩] at h1 h2
  exact kk H1 locs1 h1 h2 h3
theorem z_aastO (hx : p.tables.exec = Jvm.exec) (hb : c.code = cc) (hK : zKV X s) {w : va_W} (hP : va_P X.1 vwCl w H) (hD : va_D A w) (hS : va_S A s.heap H locs) (q0 k qk ci : Nat) {a n v : Nat} {E : String} {r : vw_C} {vs : List Value} {f : Nat → Option Nat} (ha : w[q0]? = some (a, zRef (X.2.1 k) n f)) (ht : (tyL X.2.1)[k]? = some (X.2.1 k, .object E)) (hca : va_Nw (.castable r.1 E) s) (hv : w[qk]? = some (v, .inr (ci, vs))) (hc : vwCl[ci]? = some r) {z : Int} (hi : 0 ≤ z ∧ z < n ∧ n < 2147483648) (hdg : decode cc pc = .ok (.aastore, 1))
    (kk : ∀ (H1 : Heap) (locs1 : List Loc), va_P X.1 vwCl (w.set q0 (a, zRef (X.2.1 k) n (va_up f z.toNat (some v)))) H1 → va_D A (w.set q0 (a, zRef (X.2.1 k) n (va_up f z.toNat (some v)))) → va_S A s.heap H1 locs1 → W p l e R s m args below meth c H1 locs1 cells slots Q (F0 m (pc + 1) ls rest)) :
    W p l e R s m args below meth c H locs cells slots Q (F0 m pc ls (.ref v :: .int (iI z) :: .ref a :: rest)) := by
  refine va_astqO hx hb hK hP hD hS q0 k qk ci ha ht hca hv hc (iI_in hi) hdg (fun H1 locs1 h1 h2 h3 => ?_)
  rw [iI_clamp ⟨by omega, by omega⟩] at h1 h2
  exact kk H1 locs1 h1 h2 h3
end ZN
