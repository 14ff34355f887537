theorem catZ_st2 {f g : Nat → Int} {i : Nat} {x : Int} (h : x = f i) : updZ (catZ f g i) i x = catZ f g (i + 1) := by
  rw [h]
  exact catZ_step f g i
theorem kidK_of {t : Int} {kz : Nat → Int} (h : KidM t kz) : KidK t.toNat (kdM kz) := by
  intro j hj
  have := h j (by omega)
  unfold KindOk kdM
  omega
theorem hadB_of {n : Nat} {hz : Nat → Int} (h : HadM hz) : HadB n (fhZ hz) := fun j _ i => h (4 * j + i)
