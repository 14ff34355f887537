-- bits
def popN : Nat → Nat → Nat
  | 0, _ => 0
  | k + 1, n => n % 2 + popN k (n / 2)
def bc1 (n : Nat) : Nat := n - ((n / 2) &&& 1431655765)
def bc2 (n : Nat) : Nat := (n &&& 858993459) + ((n / 4) &&& 858993459)
def bc3 (n : Nat) : Nat := (n + n / 16) &&& 252645135
def bc4 (n : Nat) : Nat := n + n / 256
def bc5 (n : Nat) : Nat := n + n / 65536
def bc6 (n : Nat) : Nat := n &&& 63
def bcP (j : Nat) : Prop := (List.range 1024).all (fun b => Nat.beq (bc6 (bc5 (bc4 (bc3 (bc2 (bc1 (1024 * j + b))))))) (popN 16 (1024 * j + b))) = true
set_option maxRecDepth 20000 in
theorem bc_0 : bcP 0 := by unfold bcP; decide +kernel
set_option maxRecDepth 20000 in
theorem bc_1 : bcP 1 := by unfold bcP; decide +kernel
set_option maxRecDepth 20000 in
theorem bc_2 : bcP 2 := by unfold bcP; decide +kernel
set_option maxRecDepth 20000 in
theorem bc_3 : bcP 3 := by unfold bcP; decide +kernel
set_option maxRecDepth 20000 in
theorem bc_4 : bcP 4 := by unfold bcP; decide +kernel
set_option maxRecDepth 20000 in
theorem bc_5 : bcP 5 := by unfold bcP; decide +kernel
set_option maxRecDepth 20000 in
theorem bc_6 : bcP 6 := by unfold bcP; decide +kernel
set_option maxRecDepth 20000 in
theorem bc_7 : bcP 7 := by unfold bcP; decide +kernel
set_option maxRecDepth 20000 in
theorem bc_8 : bcP 8 := by unfold bcP; decide +kernel
set_option maxRecDepth 20000 in
theorem bc_9 : bcP 9 := by unfold bcP; decide +kernel
set_option maxRecDepth 20000 in
theorem bc_10 : bcP 10 := by unfold bcP; decide +kernel
set_option maxRecDepth 20000 in
theorem bc_11 : bcP 11 := by unfold bcP; decide +kernel
set_option maxRecDepth 20000 in
theorem bc_12 : bcP 12 := by unfold bcP; decide +kernel
set_option maxRecDepth 20000 in
theorem bc_13 : bcP 13 := by unfold bcP; decide +kernel
set_option maxRecDepth 20000 in
theorem bc_14 : bcP 14 := by unfold bcP; decide +kernel
set_option maxRecDepth 20000 in
theorem bc_15 : bcP 15 := by unfold bcP; decide +kernel
set_option maxRecDepth 20000 in
theorem bc_16 : bcP 16 := by unfold bcP; decide +kernel
set_option maxRecDepth 20000 in
theorem bc_17 : bcP 17 := by unfold bcP; decide +kernel
set_option maxRecDepth 20000 in
theorem bc_18 : bcP 18 := by unfold bcP; decide +kernel
set_option maxRecDepth 20000 in
theorem bc_19 : bcP 19 := by unfold bcP; decide +kernel
set_option maxRecDepth 20000 in
theorem bc_20 : bcP 20 := by unfold bcP; decide +kernel
set_option maxRecDepth 20000 in
theorem bc_21 : bcP 21 := by unfold bcP; decide +kernel
set_option maxRecDepth 20000 in
theorem bc_22 : bcP 22 := by unfold bcP; decide +kernel
set_option maxRecDepth 20000 in
theorem bc_23 : bcP 23 := by unfold bcP; decide +kernel
set_option maxRecDepth 20000 in
theorem bc_24 : bcP 24 := by unfold bcP; decide +kernel
set_option maxRecDepth 20000 in
theorem bc_25 : bcP 25 := by unfold bcP; decide +kernel
set_option maxRecDepth 20000 in
theorem bc_26 : bcP 26 := by unfold bcP; decide +kernel
set_option maxRecDepth 20000 in
theorem bc_27 : bcP 27 := by unfold bcP; decide +kernel
set_option maxRecDepth 20000 in
theorem bc_28 : bcP 28 := by unfold bcP; decide +kernel
set_option maxRecDepth 20000 in
theorem bc_29 : bcP 29 := by unfold bcP; decide +kernel
set_option maxRecDepth 20000 in
theorem bc_30 : bcP 30 := by unfold bcP; decide +kernel
set_option maxRecDepth 20000 in
theorem bc_31 : bcP 31 := by unfold bcP; decide +kernel
set_option maxRecDepth 20000 in
theorem bc_32 : bcP 32 := by unfold bcP; decide +kernel
set_option maxRecDepth 20000 in
theorem bc_33 : bcP 33 := by unfold bcP; decide +kernel
set_option maxRecDepth 20000 in
theorem bc_34 : bcP 34 := by unfold bcP; decide +kernel
set_option maxRecDepth 20000 in
theorem bc_35 : bcP 35 := by unfold bcP; decide +kernel
set_option maxRecDepth 20000 in
theorem bc_36 : bcP 36 := by unfold bcP; decide +kernel
set_option maxRecDepth 20000 in
theorem bc_37 : bcP 37 := by unfold bcP; decide +kernel
set_option maxRecDepth 20000 in
theorem bc_38 : bcP 38 := by unfold bcP; decide +kernel
set_option maxRecDepth 20000 in
theorem bc_39 : bcP 39 := by unfold bcP; decide +kernel
set_option maxRecDepth 20000 in
theorem bc_40 : bcP 40 := by unfold bcP; decide +kernel
set_option maxRecDepth 20000 in
theorem bc_41 : bcP 41 := by unfold bcP; decide +kernel
set_option maxRecDepth 20000 in
theorem bc_42 : bcP 42 := by unfold bcP; decide +kernel
set_option maxRecDepth 20000 in
theorem bc_43 : bcP 43 := by unfold bcP; decide +kernel
set_option maxRecDepth 20000 in
theorem bc_44 : bcP 44 := by unfold bcP; decide +kernel
set_option maxRecDepth 20000 in
theorem bc_45 : bcP 45 := by unfold bcP; decide +kernel
set_option maxRecDepth 20000 in
theorem bc_46 : bcP 46 := by unfold bcP; decide +kernel
set_option maxRecDepth 20000 in
theorem bc_47 : bcP 47 := by unfold bcP; decide +kernel
set_option maxRecDepth 20000 in
theorem bc_48 : bcP 48 := by unfold bcP; decide +kernel
set_option maxRecDepth 20000 in
theorem bc_49 : bcP 49 := by unfold bcP; decide +kernel
set_option maxRecDepth 20000 in
theorem bc_50 : bcP 50 := by unfold bcP; decide +kernel
set_option maxRecDepth 20000 in
theorem bc_51 : bcP 51 := by unfold bcP; decide +kernel
set_option maxRecDepth 20000 in
theorem bc_52 : bcP 52 := by unfold bcP; decide +kernel
set_option maxRecDepth 20000 in
theorem bc_53 : bcP 53 := by unfold bcP; decide +kernel
set_option maxRecDepth 20000 in
theorem bc_54 : bcP 54 := by unfold bcP; decide +kernel
set_option maxRecDepth 20000 in
theorem bc_55 : bcP 55 := by unfold bcP; decide +kernel
set_option maxRecDepth 20000 in
theorem bc_56 : bcP 56 := by unfold bcP; decide +kernel
set_option maxRecDepth 20000 in
theorem bc_57 : bcP 57 := by unfold bcP; decide +kernel
set_option maxRecDepth 20000 in
theorem bc_58 : bcP 58 := by unfold bcP; decide +kernel
set_option maxRecDepth 20000 in
theorem bc_59 : bcP 59 := by unfold bcP; decide +kernel
set_option maxRecDepth 20000 in
theorem bc_60 : bcP 60 := by unfold bcP; decide +kernel
set_option maxRecDepth 20000 in
theorem bc_61 : bcP 61 := by unfold bcP; decide +kernel
set_option maxRecDepth 20000 in
theorem bc_62 : bcP 62 := by unfold bcP; decide +kernel
set_option maxRecDepth 20000 in
theorem bc_63 : bcP 63 := by unfold bcP; decide +kernel
theorem bc_j : ∀ j : Nat, j < 64 → bcP j
  | 0, _ => bc_0
  | 1, _ => bc_1
  | 2, _ => bc_2
  | 3, _ => bc_3
  | 4, _ => bc_4
  | 5, _ => bc_5
  | 6, _ => bc_6
  | 7, _ => bc_7
  | 8, _ => bc_8
  | 9, _ => bc_9
  | 10, _ => bc_10
  | 11, _ => bc_11
  | 12, _ => bc_12
  | 13, _ => bc_13
  | 14, _ => bc_14
  | 15, _ => bc_15
  | 16, _ => bc_16
  | 17, _ => bc_17
  | 18, _ => bc_18
  | 19, _ => bc_19
  | 20, _ => bc_20
  | 21, _ => bc_21
  | 22, _ => bc_22
  | 23, _ => bc_23
  | 24, _ => bc_24
  | 25, _ => bc_25
  | 26, _ => bc_26
  | 27, _ => bc_27
  | 28, _ => bc_28
  | 29, _ => bc_29
  | 30, _ => bc_30
  | 31, _ => bc_31
  | 32, _ => bc_32
  | 33, _ => bc_33
  | 34, _ => bc_34
  | 35, _ => bc_35
  | 36, _ => bc_36
  | 37, _ => bc_37
  | 38, _ => bc_38
  | 39, _ => bc_39
  | 40, _ => bc_40
  | 41, _ => bc_41
  | 42, _ => bc_42
  | 43, _ => bc_43
  | 44, _ => bc_44
  | 45, _ => bc_45
  | 46, _ => bc_46
  | 47, _ => bc_47
  | 48, _ => bc_48
  | 49, _ => bc_49
  | 50, _ => bc_50
  | 51, _ => bc_51
  | 52, _ => bc_52
  | 53, _ => bc_53
  | 54, _ => bc_54
  | 55, _ => bc_55
  | 56, _ => bc_56
  | 57, _ => bc_57
  | 58, _ => bc_58
  | 59, _ => bc_59
  | 60, _ => bc_60
  | 61, _ => bc_61
  | 62, _ => bc_62
  | 63, _ => bc_63
  | j + 64, h => absurd h (by omega)
theorem bc_ok {n : Nat} (h : n < 65536) : bc6 (bc5 (bc4 (bc3 (bc2 (bc1 n))))) = popN 16 n := by
  have h2 := List.all_eq_true.mp (bc_j (n / 1024) (by omega)) (n % 1024) (List.mem_range.mpr (by omega))
  rw [show 1024 * (n / 1024) + n % 1024 = n by omega] at h2
  exact Nat.eq_of_beq_eq_true h2
