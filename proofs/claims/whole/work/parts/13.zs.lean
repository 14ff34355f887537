-- more calls: inherited, overriding, of the class above; copies; bits
section ZW2
variable {p : Program} {l : Launch} {e : Env} {R : Room} {s : State} {m : MethodId} {args : Array Value} {below : List Frame} {meth : Method} {c : Code} {H : Heap} {locs : List Loc} {cells slots mc ms : Nat} {Q : State → Prop} {X : zX} {A : Nat → Prop}
variable {cc : ByteArray} {pc : Nat} {ls : Array Slot} {rest st0 : List Value}
variable {S : Type} {rv : S → Option Value} {wc wr : va_W} {w1 : S → va_W} {post : S → Prop} {y : MethodName} {bytes : ByteArray} {maxL nL n index : Nat} {ret : Option FieldType} {ws : List Cond} {rm : Room} {Ts : List Cond} {own C : String} {b : Addr} {As : List Value}
theorem z_runV (S0 : CallFix p m c cc nL s args Ts own) (hM : zM l X y ws rm (.ref b :: As) wc rv w1 post) (cw : CallW R s args own C index y bytes maxL ret ws rm rm.cells rm.slots n)
    {ci : Nat} {T : u_T} {N : Nat} {fs : List Value} (hcl : vwCl[ci]? = some (C, T, N)) (hb0 : wc[0]? = some (b, .inr (ci, fs)))
    (hsize : ls.size = nL) (hdg : decode cc pc = .ok (.invokevirtual index, 3)) (hn : As.length = n) (hstack : st0 = As.reverse ++ .ref b :: rest) (hroom : (rest.map fun v => v.category).sum ≤ 8) (hf : cells + rm.cells ≤ R.cells ∧ slots + rm.slots ≤ R.slots)
    (hS : va_S A s.heap H locs) (hA : ∀ q : Nat, s.heap.size ≤ q → A q) (hK : zK X A s s.heap) (hP : va_P X.1 vwCl (wc ++ wr) H) (hD : va_D A (wc ++ wr)) :
    va_Run p l e R s m args below meth c H locs cells slots rm.cells rm.slots (F0 m pc ls st0) rest (zQ X rv (va_A wc H.size) w1 post (Value.ref b :: As).toArray) (va_A wc H.size) :=
  va_runV S0 (hM H.size) cw ⟨(z_preS hP hD hS hA hK).1, va_recv (q := (C, T, N)) hK.1 (zp_app.mp hP).1 hcl hb0, (z_preS hP hD hS hA hK).2⟩ rfl hn hsize hstack (lv_room hroom) hdg hf
theorem z_runU {x : MethodName} {owner : String} (S0 : CallFix p m c cc nL s args Ts own) (hM : zM l X y ws rm (.ref b :: As) wc rv w1 post) (cw : va_CU R s args own C owner index x y bytes maxL ret ws rm rm.cells rm.slots n)
    {ci : Nat} {T : u_T} {N : Nat} {fs : List Value} (hcl : vwCl[ci]? = some (C, T, N)) (hb0 : wc[0]? = some (b, .inr (ci, fs)))
    (hsize : ls.size = nL) (hdg : decode cc pc = .ok (.invokevirtual index, 3)) (hn : As.length = n) (hstack : st0 = As.reverse ++ .ref b :: rest) (hroom : (rest.map fun v => v.category).sum ≤ 8) (hf : cells + rm.cells ≤ R.cells ∧ slots + rm.slots ≤ R.slots)
    (hS : va_S A s.heap H locs) (hA : ∀ q : Nat, s.heap.size ≤ q → A q) (hK : zK X A s s.heap) (hP : va_P X.1 vwCl (wc ++ wr) H) (hD : va_D A (wc ++ wr)) :
    va_Run p l e R s m args below meth c H locs cells slots rm.cells rm.slots (F0 m pc ls st0) rest (zQ X rv (va_A wc H.size) w1 post (Value.ref b :: As).toArray) (va_A wc H.size) :=
  va_runU S0 (hM H.size) cw ⟨(z_preS hP hD hS hA hK).1, va_recv (q := (C, T, N)) hK.1 (zp_app.mp hP).1 hcl hb0, (z_preS hP hD hS hA hK).2⟩ rfl hn hsize hstack (lv_room hroom) hdg hf
theorem z_callU {x : MethodName} {owner : String} (S0 : CallFix p m c cc nL s args Ts own) (hM : zM l X y ws rm (.ref b :: As) wc rv w1 post) (cw : va_CU R s args own C owner index x y bytes maxL ret ws rm rm.cells rm.slots n)
    {ci : Nat} {T : u_T} {N : Nat} {fs : List Value} (hcl : vwCl[ci]? = some (C, T, N)) (hb0 : wc[0]? = some (b, .inr (ci, fs)))
    (hsize : ls.size = nL) (hdg : decode cc pc = .ok (.invokevirtual index, 3)) (hn : As.length = n) (hstack : st0 = As.reverse ++ .ref b :: rest) (hroom : (rest.map fun v => v.category).sum ≤ 8) (hf : cells + rm.cells ≤ R.cells ∧ slots + rm.slots ≤ R.slots)
    (hS : va_S A s.heap H locs) (hA : ∀ q : Nat, s.heap.size ≤ q → A q) (hK : zK X A s s.heap) (hP : va_P X.1 vwCl (wc ++ wr) H) (hD : va_D A (wc ++ wr))
    (kk : ∀ (u : S) (H1 : Heap) (locs1 : List Loc), post u → va_P X.1 vwCl (w1 u ++ wr) H1 → va_D A (w1 u ++ wr) → va_S A s.heap H1 locs1 → W p l e R s m args below meth c H1 locs1 (cells + rm.cells) (slots + rm.slots) Q (F0 m (pc + 3) ls ((rv u).toList ++ rest))) :
    W p l e R s m args below meth c H locs cells slots Q (F0 m pc ls st0) :=
  z_behind (z_runU S0 hM cw hcl hb0 hsize hdg hn hstack hroom hf hS hA hK hP hD) hP hD hS hA kk
theorem z_callSU (S0 : CallFix p m c cc nL s args Ts own) (hM : zM l X y ws rm (.ref b :: As) wc rv w1 post) (cw : va_CS R s args own index y bytes maxL ret ws rm rm.cells rm.slots n)
    {ci : Nat} {T : u_T} {N : Nat} {fs : List Value} (hcl : vwCl[ci]? = some (C, T, N)) (hb0 : wc[0]? = some (b, .inr (ci, fs)))
    (hsize : ls.size = nL) (hdg : decode cc pc = .ok (.invokespecial index, 3)) (hn : As.length = n) (hstack : st0 = As.reverse ++ .ref b :: rest) (hroom : (rest.map fun v => v.category).sum ≤ 8) (hf : cells + rm.cells ≤ R.cells ∧ slots + rm.slots ≤ R.slots)
    (hS : va_S A s.heap H locs) (hA : ∀ q : Nat, s.heap.size ≤ q → A q) (hK : zK X A s s.heap) (hP : va_P X.1 vwCl (wc ++ wr) H) (hD : va_D A (wc ++ wr))
    (kk : ∀ (u : S) (H1 : Heap) (locs1 : List Loc), post u → va_P X.1 vwCl (w1 u ++ wr) H1 → va_D A (w1 u ++ wr) → va_S A s.heap H1 locs1 → W p l e R s m args below meth c H1 locs1 (cells + rm.cells) (slots + rm.slots) Q (F0 m (pc + 3) ls ((rv u).toList ++ rest))) :
    W p l e R s m args below meth c H locs cells slots Q (F0 m pc ls st0) :=
  z_behind (va_runSU (C := C) (hK.1.1 ci _ hcl).2 S0 (hM H.size) cw ⟨(z_preS hP hD hS hA hK).1, va_recv (q := (C, T, N)) hK.1 (zp_app.mp hP).1 hcl hb0, (z_preS hP hD hS hA hK).2⟩ rfl hn hsize hstack (lv_room hroom) hdg hf) hP hD hS hA kk
theorem z_callVR (S0 : CallFix p m c cc nL s args Ts own) (hM : zM l X y ws rm (.ref b :: As) wc rv w1 post) (cw : CallW R s args own C index y bytes maxL ret ws rm rm.cells rm.slots n)
    (hrec : ∃ cell : Cell, H[b]? = some cell ∧ cell.vm.isStatics = false ∧ s.vm.findClass C = some cell.cls)
    (hsize : ls.size = nL) (hdg : decode cc pc = .ok (.invokevirtual index, 3)) (hn : As.length = n) (hstack : st0 = As.reverse ++ .ref b :: rest) (hroom : (rest.map fun v => v.category).sum ≤ 8) (hf : cells + rm.cells ≤ R.cells ∧ slots + rm.slots ≤ R.slots)
    (hS : va_S A s.heap H locs) (hA : ∀ q : Nat, s.heap.size ≤ q → A q) (hK : zK X A s s.heap) (hP : va_P X.1 vwCl (wc ++ wr) H) (hD : va_D A (wc ++ wr))
    (kk : ∀ (u : S) (H1 : Heap) (locs1 : List Loc), post u → va_P X.1 vwCl (w1 u ++ wr) H1 → va_D A (w1 u ++ wr) → va_S A s.heap H1 locs1 → W p l e R s m args below meth c H1 locs1 (cells + rm.cells) (slots + rm.slots) Q (F0 m (pc + 3) ls ((rv u).toList ++ rest))) :
    W p l e R s m args below meth c H locs cells slots Q (F0 m pc ls st0) :=
  z_behind (va_runV S0 (hM H.size) cw ⟨(z_preS hP hD hS hA hK).1, hrec, (z_preS hP hD hS hA hK).2⟩ rfl hn hsize hstack (lv_room hroom) hdg hf) hP hD hS hA kk
end ZW2
def catZ (f g : Nat → Int) (i : Nat) : Nat → Int := fun j => if j < i then f j else g j
theorem cpy_iI (f g : Nat → Int) (k : Nat) : va_cpy (fun j => iI (f j)) (fun j => iI (g j)) 0 0 k = fun j => iI (catZ f g k j) := by
  funext j
  unfold catZ
  by_cases h : j < k
  · rw [pk_cpy_in (by omega) (by omega), if_pos h]
    simp
  · rw [pk_cpy_out (by omega), if_neg h]
theorem zs_l : ∀ n : Nat, n < 32 → ((nI n &&& 31).toBitVec.smod 32).toNat = n := by decide +kernel
theorem zn_or (a b : Nat) : nI a ||| nI b = nI (a ||| b) := by
  apply Int32.toBitVec_inj.1
  show BitVec.ofNat 32 a ||| BitVec.ofNat 32 b = BitVec.ofNat 32 (a ||| b)
  apply BitVec.eq_of_getLsbD_eq
  intro i hi
  simp [hi]
theorem pow_cast (i : Nat) : (2 : Int) ^ i = ((2 ^ i : Nat) : Int) := by
  induction i with
  | zero => rfl
  | succ k ih => rw [Int.pow_succ, Nat.pow_succ, Int.natCast_mul, ih]; rfl
theorem iI_shl1 {i : Nat} (h : i < 31) : iI 1 <<< (iI (i : Int) &&& 31) = iI (2 ^ i) := by
  have h2 : 2 ^ i ≤ 2 ^ 30 := Nat.pow_le_pow_right (by omega) (by omega)
  have h3 := pk_shlN (n := 1) (nI i &&& 31) i (zs_l i (by omega)) (by omega)
  rw [Nat.one_mul] at h3
  rw [pow_cast]
  exact h3
theorem iI_or {a : Int} {i : Nat} (h : 0 ≤ a ∧ a < 2 ^ i) : iI a ||| iI (2 ^ i) = iI (a + 2 ^ i) := by
  obtain ⟨n, rfl⟩ := Int.eq_ofNat_of_zero_le h.1
  rw [pow_cast] at h ⊢
  have hn : n < 2 ^ i := by omega
  have e : nI n ||| nI (2 ^ i) = nI (n + 2 ^ i) := by
    rw [zn_or, Nat.or_comm, Nat.add_comm]
    have := Nat.two_pow_add_eq_or_of_lt hn 1
    rw [Nat.mul_one] at this
    rw [this]
  exact e
theorem iI_or0 {a : Int} (h : 0 ≤ a) : iI a ||| iI 0 = iI a := by
  obtain ⟨n, rfl⟩ := Int.eq_ofNat_of_zero_le h
  show nI n ||| nI 0 = nI n
  rw [zn_or, Nat.or_zero]
section ZR2
variable {p : Program} {l : Launch} {e : Env} {R : Room} {s : State} {m : MethodId} {args : Array Value} {below : List Frame} {meth : Method} {c : Code} {H : Heap} {locs : List Loc} {cells slots : Nat} {Q : State → Prop}
variable {cc : ByteArray} {pc : Nat} {ls : Array Slot} {rest : List Value} {a : Int} {i : Nat}
theorem z_shl1 (hx : p.tables.exec = Jvm.exec) (hb : c.code = cc) (hi : i < 31) (hdg : decode cc pc = .ok (.ishl, 1)) (k : W p l e R s m args below meth c H locs cells slots Q (F0 m (pc + 1) ls (.int (iI (2 ^ i)) :: rest))) : W p l e R s m args below meth c H locs cells slots Q (F0 m pc ls (.int (iI (i : Int)) :: .int (iI 1) :: rest)) := lv_ishl hx hb hdg (by rw [iI_shl1 hi]; exact k)
theorem z_orp (hx : p.tables.exec = Jvm.exec) (hb : c.code = cc) (hi : 0 ≤ a ∧ a < 2 ^ i) (hdg : decode cc pc = .ok (.ior, 1)) (k : W p l e R s m args below meth c H locs cells slots Q (F0 m (pc + 1) ls (.int (iI (a + 2 ^ i)) :: rest))) : W p l e R s m args below meth c H locs cells slots Q (F0 m pc ls (.int (iI (2 ^ i)) :: .int (iI a) :: rest)) := lv_ior hx hb hdg (by rw [iI_or hi]; exact k)
theorem z_or0 (hx : p.tables.exec = Jvm.exec) (hb : c.code = cc) (hi : 0 ≤ a) (hdg : decode cc pc = .ok (.ior, 1)) (k : W p l e R s m args below meth c H locs cells slots Q (F0 m (pc + 1) ls (.int (iI a) :: rest))) : W p l e R s m args below meth c H locs cells slots Q (F0 m pc ls (.int (iI 0) :: .int (iI a) :: rest)) := lv_ior hx hb hdg (by rw [iI_or0 hi]; exact k)
theorem z_i2b (hx : p.tables.exec = Jvm.exec) (hb : c.code = cc) (h : -128 ≤ a ∧ a < 128) (hdg : decode cc pc = .ok (.i2b, 1)) (k : W p l e R s m args below meth c H locs cells slots Q (F0 m (pc + 1) ls (.int (iI a) :: rest))) : W p l e R s m args below meth c H locs cells slots Q (F0 m pc ls (.int (iI a) :: rest)) :=
  lv_i2b hx hb hdg (by
    apply Int32.toInt_inj.mp
    rw [Int8.toInt_toInt32, iI_toInt ⟨by omega, by omega⟩]
    unfold iI
    rw [Int32.toInt8_ofInt, Int8.toInt_ofInt]
    apply Int.bmod_eq_of_le <;> (unfold Int8.size; omega)) k
theorem z_i2c (hx : p.tables.exec = Jvm.exec) (hb : c.code = cc) (h : 0 ≤ a ∧ a < 65536) (hdg : decode cc pc = .ok (.i2c, 1)) (k : W p l e R s m args below meth c H locs cells slots Q (F0 m (pc + 1) ls (.int (iI a) :: rest))) : W p l e R s m args below meth c H locs cells slots Q (F0 m pc ls (.int (iI a) :: rest)) :=
  lv_i2c hx hb hdg (by
    obtain ⟨n, rfl⟩ := Int.eq_ofNat_of_zero_le h.1
    have := pk_char (nI n)
    rw [pk_tn (by omega), Nat.mod_eq_of_lt (by omega)] at this
    exact this) k
theorem z_ishr0 (hx : p.tables.exec = Jvm.exec) (hb : c.code = cc) (hdg : decode cc pc = .ok (.ishr, 1)) (k : W p l e R s m args below meth c H locs cells slots Q (F0 m (pc + 1) ls (.int (iI a) :: rest))) : W p l e R s m args below meth c H locs cells slots Q (F0 m pc ls (.int (iI 0) :: .int (iI a) :: rest)) :=
  lv_ishr hx hb hdg (by
    rw [show (iI 0 &&& 31 : Int32) = 0 by decide, Int32.shiftRight_zero]
    exact k)
variable {X : zX} {A : Nat → Prop} {w : va_W} {q qs : Nat} {f g : Nat → Int} {n n' : Nat}
theorem z_copy (hx : p.tables.exec = Jvm.exec) (hb : c.code = cc) (hml : c.maxLocals = ls.size) {own : String} {index : Nat} (hown : s.vm.findClass own = some m.cls) (hlink : (Cond.methodLink own index arraycopyName).before args s = true) (hnat : (Cond.native arraycopyName).before args s = true) (hstat : (Cond.static arraycopyName).before args s = true) (hini : (Cond.initialized "java/lang/System").before args s = true)
    (hK : zKV X s) (hP : va_P X.1 vwCl w H) (hD : va_D A w) (hS : va_S A s.heap H locs) (q0 q1 : Nat) (ha0 : w[q0]? = some (qs, zArr (X.2.1 2) n f)) (ha1 : w[q1]? = some (q, zArr (X.2.1 2) n' g)) {k : Nat} (hk : k ≤ n ∧ k ≤ n' ∧ k < 2147483648)
    (hframes : 1 ≤ R.frames) (hlocals : (rest.map fun v => v.category).sum + (nativeFrameWords "java/lang/System" "arraycopy" 5 + 11) ≤ R.locals) (hdg : decode cc pc = .ok (.invokestatic index, 3))
    (kk : ∀ (H1 : Heap) (locs1 : List Loc), va_P X.1 vwCl (w.set q1 (q, zArr (X.2.1 2) n' (catZ f g k))) H1 → va_D A (w.set q1 (q, zArr (X.2.1 2) n' (catZ f g k))) → va_S A s.heap H1 locs1 → W p l e R s m args below meth c H1 locs1 cells slots Q (F0 m (pc + 3) ls rest)) :
    W p l e R s m args below meth c H locs cells slots Q (F0 m pc ls (.int (iI (k : Int)) :: .int (iI 0) :: .ref q :: .int (iI 0) :: .ref qs :: rest)) := by
  have e0 : (iI 0).toNatClampNeg = 0 := rfl
  have ek : (iI (k : Int)).toNatClampNeg = k := by rw [iI_clamp ⟨by omega, by omega⟩]; omega
  have hk0 : ¬ iI (k : Int) < 0 := fun z => by
    have := (iI_lt (a := (k : Int)) (b := 0) ⟨⟨by omega, by omega⟩, by decide⟩).mp z
    omega
  refine va_copyi hx hb hml hown hlink hnat hstat hini hK hP hD hS q0 q1 2 2 ha0 ha1 rfl rfl rfl (by decide) (by decide) hk0 (by rw [e0, ek]; omega) (by rw [e0, ek]; omega) (fun i _ => rfl) hframes hlocals hdg ?_
  rw [e0, ek, cpy_iI]
  exact kk
end ZR2
