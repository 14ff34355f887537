-- longs by Ints
def lI (z : Int) : Int64 := Int64.ofInt z
theorem lI_toInt {z : Int} (h : -9223372036854775808 ≤ z ∧ z < 9223372036854775808) : (lI z).toInt = z := by
  unfold lI
  rw [Int64.toInt_ofInt]
  apply Int.bmod_eq_of_le <;> (unfold Int64.size; omega)
theorem lI_add (a b : Int) : lI a + lI b = lI (a + b) := (Int64.ofInt_add a b).symm
theorem lI_mul (a b : Int) : lI a * lI b = lI (a * b) := (Int64.ofInt_mul a b).symm
theorem iI_toLong {z : Int} (h : -2147483648 ≤ z ∧ z < 2147483648) : (iI z).toInt64 = lI z := by
  apply Int64.toInt_inj.mp
  rw [Int32.toInt_toInt64, iI_toInt h, lI_toInt ⟨by omega, by omega⟩]
theorem lI_toI (z : Int) : (lI z).toInt32 = iI z := by
  unfold lI iI
  exact Int64.toInt32_ofInt
theorem lI_nat (n : Nat) : lI (n : Int) = lN n := rfl
theorem lI_and31 {z : Int} (h : 0 ≤ z ∧ z < 9223372036854775808) : lI z &&& lI 2147483647 = lI (z % 2147483648) := by
  obtain ⟨n, rfl⟩ := Int.eq_ofNat_of_zero_le h.1
  rw [show ((n : Int) % 2147483648) = ((n % 2147483648 : Nat) : Int) by omega]
  show lN n &&& lN (2 ^ 31 - 1) = lN (n % 2 ^ 31)
  have e : ∀ a b : Nat, lN a &&& lN b = lN (a &&& b) := by
    intro a b
    apply Int64.toBitVec_inj.1
    show BitVec.ofNat 64 a &&& BitVec.ofNat 64 b = BitVec.ofNat 64 (a &&& b)
    apply BitVec.eq_of_getLsbD_eq
    intro i hi
    simp [hi]
  rw [e, Nat.and_two_pow_sub_one_eq_mod]
theorem lI_div {a d : Int} (h : (0 ≤ a ∧ a < 9223372036854775808) ∧ (0 < d ∧ d < 9223372036854775808)) : lI a / lI d = lI (a / d) := by
  obtain ⟨n, rfl⟩ := Int.eq_ofNat_of_zero_le h.1.1
  obtain ⟨k, rfl⟩ := Int.eq_ofNat_of_zero_le (show 0 ≤ d by omega)
  exact pk_lDiv (a := n) (b := k) (by omega) (by omega) (by omega)
theorem lI_sub (a b : Int) : lI a - lI b = lI (a - b) := (Int64.ofInt_sub a b).symm
theorem lI_rem {a d : Int} (h : (0 ≤ a ∧ a < 9223372036854775808) ∧ (0 < d ∧ d < 9223372036854775808)) : lI a - lI a / lI d * lI d = lI (a % d) := by
  rw [lI_div h, lI_mul, lI_sub, Int.emod_def, Int.mul_comm]
theorem lI_0 {d : Int} (h : 0 < d ∧ d < 9223372036854775808) : ¬ lI d = 0 := fun q => by
  have := congrArg Int64.toInt q
  rw [lI_toInt ⟨by omega, by omega⟩] at this
  have e : (0 : Int64).toInt = 0 := rfl
  omega
theorem zs_u : ∀ n : Nat, n < 32 → (((nI n).toUInt32 &&& Int32.toUInt32 31).toBitVec % 32).toNat = n := by decide +kernel
section ZL
variable {p : Program} {l : Launch} {e : Env} {R : Room} {s : State} {m : MethodId} {args : Array Value} {below : List Frame} {meth : Method} {c : Code} {H : Heap} {locs : List Loc} {cells slots : Nat} {Q : State → Prop}
variable {cc : ByteArray} {pc : Nat} {ls : Array Slot} {rest : List Value} {a b : Int}
theorem z_ladd (hx : p.tables.exec = Jvm.exec) (hb : c.code = cc) (hdg : decode cc pc = .ok (.ladd, 1)) (k : W p l e R s m args below meth c H locs cells slots Q (F0 m (pc + 1) ls (.long (lI (a + b)) :: rest))) : W p l e R s m args below meth c H locs cells slots Q (F0 m pc ls (.long (lI b) :: .long (lI a) :: rest)) := lv_ladd hx hb hdg (by rw [lI_add]; exact k)
theorem z_lmul (hx : p.tables.exec = Jvm.exec) (hb : c.code = cc) (hdg : decode cc pc = .ok (.lmul, 1)) (k : W p l e R s m args below meth c H locs cells slots Q (F0 m (pc + 1) ls (.long (lI (a * b)) :: rest))) : W p l e R s m args below meth c H locs cells slots Q (F0 m pc ls (.long (lI b) :: .long (lI a) :: rest)) := lv_lmul hx hb hdg (by rw [lI_mul]; exact k)
theorem z_land31 (hx : p.tables.exec = Jvm.exec) (hb : c.code = cc) (h : 0 ≤ a ∧ a < 9223372036854775808) (hdg : decode cc pc = .ok (.land, 1)) (k : W p l e R s m args below meth c H locs cells slots Q (F0 m (pc + 1) ls (.long (lI (a % 2147483648)) :: rest))) : W p l e R s m args below meth c H locs cells slots Q (F0 m pc ls (.long (lI 2147483647) :: .long (lI a) :: rest)) := lv_land hx hb hdg (by rw [lI_and31 h]; exact k)
theorem z_i2l (hx : p.tables.exec = Jvm.exec) (hb : c.code = cc) (h : -2147483648 ≤ a ∧ a < 2147483648) (hdg : decode cc pc = .ok (.i2l, 1)) (k : W p l e R s m args below meth c H locs cells slots Q (F0 m (pc + 1) ls (.long (lI a) :: rest))) : W p l e R s m args below meth c H locs cells slots Q (F0 m pc ls (.int (iI a) :: rest)) := lv_i2l hx hb hdg (iI_toLong h) k
theorem z_l2i (hx : p.tables.exec = Jvm.exec) (hb : c.code = cc) (hdg : decode cc pc = .ok (.l2i, 1)) (k : W p l e R s m args below meth c H locs cells slots Q (F0 m (pc + 1) ls (.int (iI a) :: rest))) : W p l e R s m args below meth c H locs cells slots Q (F0 m pc ls (.long (lI a) :: rest)) := lv_l2i hx hb hdg (lI_toI a) k
theorem z_ldiv (hx : p.tables.exec = Jvm.exec) (hb : c.code = cc) (h : (0 ≤ a ∧ a < 9223372036854775808) ∧ (0 < b ∧ b < 9223372036854775808)) (hdg : decode cc pc = .ok (.ldiv, 1)) (k : W p l e R s m args below meth c H locs cells slots Q (F0 m (pc + 1) ls (.long (lI (a / b)) :: rest))) : W p l e R s m args below meth c H locs cells slots Q (F0 m pc ls (.long (lI b) :: .long (lI a) :: rest)) := lv_ldiv hx hb hdg (lI_0 h.2) (by rw [lI_div h]; exact k)
theorem z_lrem (hx : p.tables.exec = Jvm.exec) (hb : c.code = cc) (h : (0 ≤ a ∧ a < 9223372036854775808) ∧ (0 < b ∧ b < 9223372036854775808)) (hdg : decode cc pc = .ok (.lrem, 1)) (k : W p l e R s m args below meth c H locs cells slots Q (F0 m (pc + 1) ls (.long (lI (a % b)) :: rest))) : W p l e R s m args below meth c H locs cells slots Q (F0 m pc ls (.long (lI b) :: .long (lI a) :: rest)) := lv_lrem hx hb hdg (lI_0 h.2) (by rw [lI_rem h]; exact k)
theorem z_ushr (i : Nat) (hx : p.tables.exec = Jvm.exec) (hb : c.code = cc) (hs : b = (i : Int)) (hi : i < 32) (h : 0 ≤ a ∧ a < 2147483648) (hdg : decode cc pc = .ok (.iushr, 1)) (k : W p l e R s m args below meth c H locs cells slots Q (F0 m (pc + 1) ls (.int (iI (a / 2 ^ i)) :: rest))) : W p l e R s m args below meth c H locs cells slots Q (F0 m pc ls (.int (iI b) :: .int (iI a) :: rest)) :=
  lv_iushr hx hb hdg (by
    obtain ⟨n, rfl⟩ := Int.eq_ofNat_of_zero_le h.1
    rw [hs, pow_cast, ← Int.natCast_ediv]
    exact pk_ushrN (n := n) (by omega) (nI i) i (zs_u i hi)) k
/-- bits by Nats: a row for masks -/
theorem z_andn (n k : Nat) (hx : p.tables.exec = Jvm.exec) (hb : c.code = cc) (ha : a = (n : Int)) (hk : b = (k : Int)) (hdg : decode cc pc = .ok (.iand, 1)) (kk : W p l e R s m args below meth c H locs cells slots Q (F0 m (pc + 1) ls (.int (iI ((n &&& k : Nat) : Int)) :: rest))) : W p l e R s m args below meth c H locs cells slots Q (F0 m pc ls (.int (iI b) :: .int (iI a) :: rest)) :=
  lv_iand hx hb hdg (by
    have e : iI a &&& iI b = iI ((n &&& k : Nat) : Int) := by
      rw [ha, hk]
      apply Int32.toBitVec_inj.1
      show BitVec.ofNat 32 n &&& BitVec.ofNat 32 k = BitVec.ofNat 32 (n &&& k)
      apply BitVec.eq_of_getLsbD_eq
      intro i hi
      simp [hi]
    rw [e]; exact kk)
end ZL
