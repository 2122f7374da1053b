def bt (x : Int32) (i : Nat) : Bool := x.toBitVec.getLsbD i
theorem b_ext {x y : Int32} (h : ∀ i, i < 32 → bt x i = bt y i) : x = y := Int32.toBitVec_inj.mp (BitVec.eq_of_getLsbD_eq (fun i hi => h i hi))
theorem b_or (x y : Int32) (i : Nat) : bt (x ||| y) i = (bt x i || bt y i) := by unfold bt; rw [Int32.toBitVec_or, BitVec.getLsbD_or]
theorem b_and (x y : Int32) (i : Nat) : bt (x &&& y) i = (bt x i && bt y i) := by unfold bt; rw [Int32.toBitVec_and, BitVec.getLsbD_and]
theorem b_xor (x y : Int32) (i : Nat) : bt (x ^^^ y) i = (bt x i ^^ bt y i) := by unfold bt; rw [Int32.toBitVec_xor, BitVec.getLsbD_xor]
theorem b_big {x : Int32} {i : Nat} (h : 32 ≤ i) : bt x i = false := BitVec.getLsbD_of_ge _ _ h
theorem b_255 (i : Nat) : bt 255 i = decide (i < 8) := by
  rcases Nat.lt_or_ge i 32 with h | h
  · exact (by decide +kernel : ∀ i, i < 32 → bt 255 i = decide (i < 8)) i h
  · rw [b_big h, decide_eq_false (by omega)]
theorem b_65535 (i : Nat) : bt 65535 i = decide (i < 16) := by
  rcases Nat.lt_or_ge i 32 with h | h
  · exact (by decide +kernel : ∀ i, i < 32 → bt 65535 i = decide (i < 16)) i h
  · rw [b_big h, decide_eq_false (by omega)]
theorem b_m1 : ∀ i, i < 32 → bt (-1) i = true := by decide +kernel
theorem b_0 (i : Nat) : bt 0 i = false := BitVec.getLsbD_zero
theorem s_l : ∀ n, n < 32 → ((nI n &&& 31).toBitVec.smod 32).toNat = n := by decide +kernel
theorem s_u : ∀ n, n < 32 → (((nI n).toUInt32 &&& Int32.toUInt32 31).toBitVec % 32).toNat = n := by decide +kernel
theorem b_shl (n : Nat) (hn : n < 32) (x : Int32) {i : Nat} (hi : i < 32) : bt (x <<< (nI n &&& 31)) i = (decide (n ≤ i) && bt x (i - n)) := by
  unfold bt
  rw [Int32.toBitVec_shiftLeft]
  show (x.toBitVec <<< ((nI n &&& 31).toBitVec.smod 32).toNat).getLsbD i = _
  rw [s_l n hn, BitVec.getLsbD_shiftLeft]
  rcases Nat.lt_or_ge i n with h | h
  · simp [h, Nat.not_le.mpr h]
  · simp [hi, h, Nat.not_lt.mpr h]
theorem b_ushr (n : Nat) (hn : n < 32) (x : Int32) (i : Nat) : bt ((x.toUInt32 >>> ((nI n).toUInt32 &&& Int32.toUInt32 31)).toInt32) i = bt x (n + i) := by
  show (x.toUInt32 >>> ((nI n).toUInt32 &&& Int32.toUInt32 31)).toBitVec.getLsbD i = x.toUInt32.toBitVec.getLsbD (n + i)
  rw [UInt32.toBitVec_shiftRight]
  show (x.toUInt32.toBitVec >>> (((nI n).toUInt32 &&& Int32.toUInt32 31).toBitVec % 32).toNat).getLsbD i = _
  rw [s_u n hn, BitVec.getLsbD_ushiftRight]
theorem b_sshr (n : Nat) (hn : n < 32) (x : Int32) {i : Nat} (hi : i < 32) : bt (x >>> (nI n &&& 31)) i = if n + i < 32 then bt x (n + i) else bt x 31 := by
  unfold bt
  rw [Int32.toBitVec_shiftRight]
  show (x.toBitVec.sshiftRight ((nI n &&& 31).toBitVec.smod 32).toNat).getLsbD i = _
  rw [s_l n hn, BitVec.getLsbD_sshiftRight, BitVec.msb_eq_getLsbD_last]
  simp [hi]
theorem jU_bt (n : Nat) (hn : n < 32) (x : Int32) (i : Nat) : bt (jU x (nI n)) i = bt x (n + i) := b_ushr n hn x i
theorem sh_eq (n k : Nat) (hn : n < 32) (hk : n + k ≤ 32) {m : Int32} (hm : ∀ i, i < 32 → bt m i = decide (i < k)) (x : Int32) : jU x (nI n) &&& m = (x >>> (nI n &&& 31)) &&& m := by
  apply b_ext
  intro i hi
  rw [b_and, b_and, jU_bt n hn, b_sshr n hn x hi, hm i hi]
  by_cases h : i < k
  · rw [if_pos (by omega)]
  · simp [h]
theorem eq_F (w : Int32) : f_Cd_fieldF w = f_Mo_f w := sh_eq 12 3 (by omega) (by omega) (by decide +kernel) w
theorem eq_A (w : Int32) : f_Cd_fieldA w = f_Mo_a w := sh_eq 15 5 (by omega) (by omega) (by decide +kernel) w
theorem eq_B (w : Int32) : f_Cd_fieldB w = f_Mo_b w := sh_eq 20 5 (by omega) (by omega) (by decide +kernel) w
theorem eq_D (w : Int32) : f_Cd_fieldD w = f_Mo_d w := sh_eq 7 5 (by omega) (by omega) (by decide +kernel) w
theorem eq_G (w : Int32) : f_Cd_fieldG w = f_Mo_g w := by
  show jU w (nI 25) = (w >>> (nI 25 &&& 31)) &&& 127
  apply b_ext
  intro i hi
  rw [b_and, jU_bt 25 (by omega), b_sshr 25 (by omega) w hi, (by decide +kernel : ∀ i, i < 32 → bt 127 i = decide (i < 7)) i hi]
  by_cases h : i < 7
  · rw [if_pos (by omega)]; simp [h]
  · rw [b_big (by omega)]; simp [h]
theorem eq_br (w : Int32) : f_Cd_branchOffset w = f_Mo_branchOffset w := by
  have h7 : (jU w 7) &&& (1 : Int32) = (w >>> ((7 : Int32) &&& 31)) &&& (1 : Int32) := sh_eq 7 1 (by omega) (by omega) (by decide +kernel) w
  have h25 : (jU w 25) &&& (63 : Int32) = (w >>> ((25 : Int32) &&& 31)) &&& (63 : Int32) := sh_eq 25 6 (by omega) (by omega) (by decide +kernel) w
  have h8 : (jU w 8) &&& (15 : Int32) = (w >>> ((8 : Int32) &&& 31)) &&& (15 : Int32) := sh_eq 8 4 (by omega) (by omega) (by decide +kernel) w
  unfold f_Cd_branchOffset f_Mo_branchOffset
  rw [h7, h25, h8]
theorem eq_ca (w : Int32) : f_Cd_callOffset w = f_Mo_callOffset w := by
  have h7 : (jU w 12) &&& (255 : Int32) = (w >>> ((12 : Int32) &&& 31)) &&& (255 : Int32) := sh_eq 12 8 (by omega) (by omega) (by decide +kernel) w
  have h25 : (jU w 20) &&& (1 : Int32) = (w >>> ((20 : Int32) &&& 31)) &&& (1 : Int32) := sh_eq 20 1 (by omega) (by omega) (by decide +kernel) w
  have h8 : (jU w 21) &&& (1023 : Int32) = (w >>> ((21 : Int32) &&& 31)) &&& (1023 : Int32) := sh_eq 21 10 (by omega) (by omega) (by decide +kernel) w
  unfold f_Cd_callOffset f_Mo_callOffset
  rw [h7, h25, h8]
theorem eq_group (w : Int32) : f_Cd_groupOf w = if f_Mo_groupOf w = (-1) then 10 else f_Mo_groupOf w := by
  unfold f_Cd_groupOf f_Mo_groupOf f_Cd_isRegisterWork f_Cd_isNumberWork
  simp only [show f_Cd_codeOf w = w &&& 127 from rfl, eq_F, eq_G]
  generalize w &&& 127 = C
  generalize f_Mo_f w = F
  generalize f_Mo_g w = G
  by_cases h3 : C = 3
  · simp only [if_pos h3]
    by_cases a : F = 0
    · simp only [if_pos a]; rfl
    simp only [if_neg a]
    by_cases b : F = 2
    · simp only [if_pos b]; rfl
    simp only [if_neg b]
    by_cases c : F = 4
    · simp only [if_pos c]; rfl
    simp only [if_neg c]; rfl
  simp only [if_neg h3]
  by_cases h11 : C = 11
  · simp only [if_pos h11]
    by_cases a : F = 0
    · simp only [if_pos a]; rfl
    simp only [if_neg a]
    by_cases b : F = 1
    · simp only [if_pos b]; rfl
    simp only [if_neg b]
    by_cases c : F = 2
    · simp only [if_pos c]; rfl
    simp only [if_neg c]; rfl
  simp only [if_neg h11]
  by_cases h19 : C = 19
  · simp only [if_pos h19]
    by_cases a : F = 1
    · have a5 : ¬ F = 5 := by rw [a]; decide
      simp only [if_pos a, if_neg a5]
      by_cases b : G = 0
      · simp only [if_pos b]; rfl
      simp only [if_neg b]; rfl
    simp only [if_neg a]
    by_cases a5 : F = 5
    · simp only [if_pos a5]
      by_cases b : G = 0
      · simp only [if_pos b]; rfl
      simp only [if_neg b]
      by_cases c : G = 32
      · simp only [if_pos c]; rfl
      simp only [if_neg c]; rfl
    simp only [if_neg a5]; rfl
  simp only [if_neg h19]
  by_cases h23 : C = 23
  · simp only [if_pos h23]; rfl
  simp only [if_neg h23]
  by_cases h35 : C = 35
  · simp only [if_pos h35]
    by_cases a : F = 2
    · simp only [if_pos a]; rfl
    simp only [if_neg a]
    by_cases b : F = 0
    · simp only [if_pos b]; rfl
    simp only [if_neg b]; rfl
  simp only [if_neg h35]
  by_cases h51 : C = 51
  · simp only [if_pos h51]
    by_cases b : G = 0
    · simp only [if_pos b]; rfl
    simp only [if_neg b]
    by_cases c : G = 32
    · simp only [if_pos c]
      by_cases a : F = 0
      · simp only [if_pos a]; rfl
      simp only [if_neg a]
      by_cases a5 : F = 5
      · simp only [if_pos a5]; rfl
      simp only [if_neg a5]; rfl
    simp only [if_neg c]; rfl
  simp only [if_neg h51]
  by_cases h55 : C = 55
  · simp only [if_pos h55]; rfl
  simp only [if_neg h55]
  by_cases h99 : C = 99
  · simp only [if_pos h99]
    by_cases a : F = 2
    · simp only [if_pos a]; rfl
    simp only [if_neg a]
    by_cases b : F = 3
    · simp only [if_pos b]; rfl
    simp only [if_neg b]; rfl
  simp only [if_neg h99]
  by_cases h103 : C = 103
  · simp only [if_pos h103]
    by_cases a : F = 0
    · simp only [if_pos a]; rfl
    simp only [if_neg a]; rfl
  simp only [if_neg h103]
  by_cases h111 : C = 111
  · simp only [if_pos h111]; rfl
  simp only [if_neg h111]; rfl
