-- what the bits of an instruction say, here and there
theorem lN_clamp {n : Nat} (h : n < 2 ^ 63) : (lN n).toInt = (n : Int) := lg_ofNat_toInt h
def uN (x : Int64) : Nat := x.toUInt64.toNat
theorem uN_inj {x y : Int64} (h : uN x = uN y) : x = y := congrArg UInt64.toInt64 (UInt64.toNat_inj.mp h)
theorem uN_lo (x : Int64) : uN (x &&& 4294967295) = uN x % 4294967296 := by
  show (x.toUInt64 &&& Int64.toUInt64 4294967295).toNat = _
  rw [UInt64.toNat_and]
  exact Nat.and_two_pow_sub_one_eq_mod _ 32
def iN (x : Int32) : Nat := x.toUInt32.toNat
theorem iN_lt (x : Int32) : iN x < 4294967296 := x.toUInt32.toNat_lt
theorem iN_of (x : Int32) : x = nI (iN x) := Int32.toBitVec_inj.mp (by show _ = BitVec.ofNat 32 x.toBitVec.toNat; simp)
theorem lo32 (x : Int32) : Int32.toInt64 x &&& 4294967295 = lN (iN x) := by
  have hx := iN_lt x
  apply uN_inj
  rw [uN_lo]
  have e1 : uN (Int32.toInt64 x) = (x.toBitVec.signExtend 64).toNat := rfl
  have e2 : uN (lN (iN x)) = iN x % 2 ^ 64 := rfl
  have e3 : x.toBitVec.toNat = iN x := rfl
  rw [e1, e2, BitVec.toNat_signExtend, BitVec.toNat_setWidth, e3]
  by_cases hm : x.toBitVec.msb
  · rw [if_pos hm]; omega
  · rw [if_neg hm]; omega
theorem nat_xor32 {a : Nat} (h : a < 4294967296) : a ^^^ 2 ^ 31 = (a + 2147483648) % 4294967296 := by
  have h1 : (a ^^^ 2 ^ 31) % 2 ^ 31 = a % 2 ^ 31 := by rw [Nat.xor_mod_two_pow, Nat.mod_self, Nat.xor_zero]
  have h2 : (a ^^^ 2 ^ 31) / 2 ^ 31 = (a / 2 ^ 31) ^^^ 1 := by rw [Nat.xor_div_two_pow, Nat.div_self (Nat.two_pow_pos 31)]
  have h3 : a / 2 ^ 31 = 0 ∨ a / 2 ^ 31 = 1 := by omega
  generalize a ^^^ 2 ^ 31 = t at h1 h2
  rcases h3 with h3 | h3
  · rw [h3] at h2
    have h2 : t / 2 ^ 31 = 1 := h2
    omega
  · rw [h3] at h2
    have h2 : t / 2 ^ 31 = 0 := h2
    omega
theorem iN_xor (x : Int32) : iN (x ^^^ (-2147483648)) = (iN x + 2147483648) % 4294967296 := by
  rw [← nat_xor32 (iN_lt x)]
  exact UInt32.toNat_xor _ _
theorem iN_int (x : Int32) : x.toInt = if 2 * iN x < 4294967296 then (iN x : Int) else (iN x : Int) - 4294967296 := BitVec.toInt_eq_toNat_cond _
theorem iN_le (x y : Int32) : (x ^^^ (-2147483648)) ≤ (y ^^^ (-2147483648)) ↔ iN x ≤ iN y := by
  have hx := iN_lt x
  have hy := iN_lt y
  rw [Int32.le_iff_toInt_le, iN_int, iN_int, iN_xor, iN_xor]
  omega
theorem eq_less (a b : Int32) : f_Cd_isLessUnsigned a b = f_Mo_less a b 1 := by
  have ha := iN_lt a
  have hb := iN_lt b
  unfold f_Cd_isLessUnsigned f_Mo_less
  rw [if_neg (show ¬ (1 : Int32) = 0 by decide), lo32, lo32]
  have e : (0 ≤ lg_cmp (lN (iN a)) (lN (iN b))) ↔ (b ^^^ (-2147483648)) ≤ (a ^^^ (-2147483648)) := by
    rw [lg_cmp_ge, iN_le, Int64.le_iff_toInt_le, lN_clamp (by omega), lN_clamp (by omega)]
    omega
  by_cases h : (b ^^^ (-2147483648)) ≤ (a ^^^ (-2147483648))
  · rw [if_pos h, if_pos (e.mpr h)]
  · rw [if_neg h, if_neg (fun hh => h (e.mp hh))]
theorem lN_shr {a d : Nat} {D : Int64} (hD : (D.toBitVec.smod 64).toNat = d) (h : a < 2 ^ 62) : lN a >>> D = lN (a / 2 ^ d) := by
  have hd : a / 2 ^ d ≤ a := Nat.div_le_self _ _
  apply Int64.toInt_inj.mp
  have e : (lN a >>> D).toInt = (lN a).toInt >>> d := by
    rw [← hD]
    exact BitVec.toInt_sshiftRight ..
  rw [e, Int.shiftRight_eq_div_pow, lN_clamp (by omega), lN_clamp (by omega)]
  rfl
theorem s_d64 : ∀ k, k < 32 → (((nI k).toInt64 &&& 63).toBitVec.smod 64).toNat = k := by decide +kernel
theorem eq_ush (x y : Int32) : Int64.toInt32 (((Int32.toInt64 x) &&& 4294967295) >>> (Int32.toInt64 (y &&& 31) &&& 63)) = jU x (y &&& 31) := by
  obtain ⟨k, hk, e⟩ := pk_andE y (m := 31) 5 (by decide)
  have hx := iN_lt x
  rw [e, lo32, lN_shr (s_d64 k hk) (by omega), lN_i]
  have := pk_ushrN (n := iN x) (by omega) (nI k) k (s_u k hk)
  rw [← iN_of x] at this
  exact this.symm
theorem eq_made (F o a b : Int32) : f_Cd_combine F o a b = f_Mo_made F a b o := by
  unfold f_Cd_combine f_Mo_made
  rw [eq_less, eq_ush]
  by_cases h0 : F = 0
  · rw [if_pos h0, if_pos h0]
  rw [if_neg h0, if_neg h0]
  by_cases h1 : F = 1
  · rw [if_pos h1, if_pos h1]
  rw [if_neg h1, if_neg h1]
  by_cases h2 : F = 2
  · rw [if_pos h2, if_pos h2]
    unfold f_Mo_less
    rw [if_pos (show (0 : Int32) = 0 from rfl)]
    by_cases h : b ≤ a
    · rw [if_pos h, if_pos rfl]
    · rw [if_neg h, if_neg (by decide)]
  rw [if_neg h2, if_neg h2]
theorem ix5 (x : Int32) : Int32.toNatClampNeg (x &&& 31) < 32 := by
  obtain ⟨k, hk, e⟩ := pk_andE x (m := 31) 5 (by decide)
  rw [e, cl_nI (by omega)]
  exact hk
theorem and_idem (x : Int32) : (x &&& 31) &&& 31 = x &&& 31 := by
  obtain ⟨k, hk, e⟩ := pk_andE x (m := 31) 5 (by decide)
  rw [e, pk_andN (by omega) (m := 31) 5 (by decide), Nat.mod_eq_of_lt hk]
def GC (C F G g : Int32) : Prop := (g = 0 ∧ C = 51 ∧ (G = 0 ∨ G = 32)) ∨ (g = 0 ∧ C = 19 ∧ ((F = 1 ∧ G = 0) ∨ (F = 5 ∧ (G = 0 ∨ G = 32)) ∨ (¬ F = 1 ∧ ¬ F = 5))) ∨ (g = 0 ∧ C = 55) ∨ (g = 0 ∧ C = 23) ∨ (g = 1 ∧ C = 3 ∧ (F = 0 ∨ F = 2 ∨ F = 4)) ∨ (g = 2 ∧ C = 35 ∧ F = 2) ∨ (g = 3 ∧ C = 35 ∧ F = 0) ∨ (g = 4 ∧ C = 99 ∧ ¬ F = 2 ∧ ¬ F = 3) ∨ (g = 5 ∧ C = 111) ∨ (g = 6 ∧ C = 103 ∧ F = 0) ∨ (g = 7 ∧ C = 11 ∧ F = 0) ∨ (g = 8 ∧ C = 11 ∧ F = 1) ∨ (g = 9 ∧ C = 11) ∨ g = (-1)
theorem g_case (w : Int32) : GC (w &&& 127) (f_Mo_f w) (f_Mo_g w) (f_Mo_groupOf w) := by
  unfold f_Mo_groupOf GC
  generalize w &&& 127 = C
  generalize f_Mo_f w = F
  generalize f_Mo_g w = G
  by_cases c : C = 3
  · rw [if_pos c]
    by_cases a : F = 0
    · rw [if_pos a]
      exact Or.inr (Or.inr (Or.inr (Or.inr (Or.inl (⟨rfl, c, Or.inl a⟩)))))
    · rw [if_neg a]
      by_cases b : F = 2
      · rw [if_pos b]
        exact Or.inr (Or.inr (Or.inr (Or.inr (Or.inl (⟨rfl, c, Or.inr (Or.inl b)⟩)))))
      · rw [if_neg b]
        by_cases d : F = 4
        · rw [if_pos d]
          exact Or.inr (Or.inr (Or.inr (Or.inr (Or.inl (⟨rfl, c, Or.inr (Or.inr d)⟩)))))
        · rw [if_neg d]
          exact Or.inr (Or.inr (Or.inr (Or.inr (Or.inr (Or.inr (Or.inr (Or.inr (Or.inr (Or.inr (Or.inr (Or.inr (Or.inr (rfl)))))))))))))
  · rw [if_neg c]
    by_cases c : C = 11
    · rw [if_pos c]
      by_cases a : F = 0
      · rw [if_pos a]
        exact Or.inr (Or.inr (Or.inr (Or.inr (Or.inr (Or.inr (Or.inr (Or.inr (Or.inr (Or.inr (Or.inl (⟨rfl, c, a⟩)))))))))))
      · rw [if_neg a]
        by_cases b : F = 1
        · rw [if_pos b]
          exact Or.inr (Or.inr (Or.inr (Or.inr (Or.inr (Or.inr (Or.inr (Or.inr (Or.inr (Or.inr (Or.inr (Or.inl (⟨rfl, c, b⟩))))))))))))
        · rw [if_neg b]
          by_cases d : F = 2
          · rw [if_pos d]
            exact Or.inr (Or.inr (Or.inr (Or.inr (Or.inr (Or.inr (Or.inr (Or.inr (Or.inr (Or.inr (Or.inr (Or.inr (Or.inl (⟨rfl, c⟩)))))))))))))
          · rw [if_neg d]
            exact Or.inr (Or.inr (Or.inr (Or.inr (Or.inr (Or.inr (Or.inr (Or.inr (Or.inr (Or.inr (Or.inr (Or.inr (Or.inr (rfl)))))))))))))
    · rw [if_neg c]
      by_cases c : C = 19
      · rw [if_pos c]
        by_cases a : F = 1
        · rw [if_pos a]
          by_cases b : G = 0
          · rw [if_pos b]
            exact Or.inr (Or.inl (⟨rfl, c, Or.inl ⟨a, b⟩⟩))
          · rw [if_neg b]
            by_cases d : F = 5
            · rw [if_pos d]
              by_cases e : G = 32
              · rw [if_pos e]
                exact Or.inr (Or.inl (⟨rfl, c, Or.inr (Or.inl ⟨d, Or.inr e⟩)⟩))
              · rw [if_neg e]
                exact Or.inr (Or.inr (Or.inr (Or.inr (Or.inr (Or.inr (Or.inr (Or.inr (Or.inr (Or.inr (Or.inr (Or.inr (Or.inr (rfl)))))))))))))
            · rw [if_neg d]
              exact Or.inr (Or.inr (Or.inr (Or.inr (Or.inr (Or.inr (Or.inr (Or.inr (Or.inr (Or.inr (Or.inr (Or.inr (Or.inr (rfl)))))))))))))
        · rw [if_neg a]
          by_cases b : F = 5
          · rw [if_pos b]
            by_cases d : G = 0
            · rw [if_pos d]
              exact Or.inr (Or.inl (⟨rfl, c, Or.inr (Or.inl ⟨b, Or.inl d⟩)⟩))
            · rw [if_neg d]
              by_cases e : G = 32
              · rw [if_pos e]
                exact Or.inr (Or.inl (⟨rfl, c, Or.inr (Or.inl ⟨b, Or.inr e⟩)⟩))
              · rw [if_neg e]
                exact Or.inr (Or.inr (Or.inr (Or.inr (Or.inr (Or.inr (Or.inr (Or.inr (Or.inr (Or.inr (Or.inr (Or.inr (Or.inr (rfl)))))))))))))
          · rw [if_neg b]
            exact Or.inr (Or.inl (⟨rfl, c, Or.inr (Or.inr ⟨a, b⟩)⟩))
      · rw [if_neg c]
        by_cases c : C = 23
        · rw [if_pos c]
          exact Or.inr (Or.inr (Or.inr (Or.inl (⟨rfl, c⟩))))
        · rw [if_neg c]
          by_cases c : C = 35
          · rw [if_pos c]
            by_cases a : F = 2
            · rw [if_pos a]
              exact Or.inr (Or.inr (Or.inr (Or.inr (Or.inr (Or.inl (⟨rfl, c, a⟩))))))
            · rw [if_neg a]
              by_cases b : F = 0
              · rw [if_pos b]
                exact Or.inr (Or.inr (Or.inr (Or.inr (Or.inr (Or.inr (Or.inl (⟨rfl, c, b⟩)))))))
              · rw [if_neg b]
                exact Or.inr (Or.inr (Or.inr (Or.inr (Or.inr (Or.inr (Or.inr (Or.inr (Or.inr (Or.inr (Or.inr (Or.inr (Or.inr (rfl)))))))))))))
          · rw [if_neg c]
            by_cases c : C = 51
            · rw [if_pos c]
              by_cases a : G = 0
              · rw [if_pos a]
                exact Or.inl (⟨rfl, c, Or.inl a⟩)
              · rw [if_neg a]
                by_cases b : G = 32
                · rw [if_pos b]
                  by_cases d : F = 0
                  · rw [if_pos d]
                    exact Or.inl (⟨rfl, c, Or.inr b⟩)
                  · rw [if_neg d]
                    by_cases e : F = 5
                    · rw [if_pos e]
                      exact Or.inl (⟨rfl, c, Or.inr b⟩)
                    · rw [if_neg e]
                      exact Or.inr (Or.inr (Or.inr (Or.inr (Or.inr (Or.inr (Or.inr (Or.inr (Or.inr (Or.inr (Or.inr (Or.inr (Or.inr (rfl)))))))))))))
                · rw [if_neg b]
                  exact Or.inr (Or.inr (Or.inr (Or.inr (Or.inr (Or.inr (Or.inr (Or.inr (Or.inr (Or.inr (Or.inr (Or.inr (Or.inr (rfl)))))))))))))
            · rw [if_neg c]
              by_cases c : C = 55
              · rw [if_pos c]
                exact Or.inr (Or.inr (Or.inl (⟨rfl, c⟩)))
              · rw [if_neg c]
                by_cases c : C = 99
                · rw [if_pos c]
                  by_cases a : F = 2
                  · rw [if_pos a]
                    exact Or.inr (Or.inr (Or.inr (Or.inr (Or.inr (Or.inr (Or.inr (Or.inr (Or.inr (Or.inr (Or.inr (Or.inr (Or.inr (rfl)))))))))))))
                  · rw [if_neg a]
                    by_cases b : F = 3
                    · rw [if_pos b]
                      exact Or.inr (Or.inr (Or.inr (Or.inr (Or.inr (Or.inr (Or.inr (Or.inr (Or.inr (Or.inr (Or.inr (Or.inr (Or.inr (rfl)))))))))))))
                    · rw [if_neg b]
                      exact Or.inr (Or.inr (Or.inr (Or.inr (Or.inr (Or.inr (Or.inr (Or.inl (⟨rfl, c, a, b⟩))))))))
                · rw [if_neg c]
                  by_cases c : C = 103
                  · rw [if_pos c]
                    by_cases a : F = 0
                    · rw [if_pos a]
                      exact Or.inr (Or.inr (Or.inr (Or.inr (Or.inr (Or.inr (Or.inr (Or.inr (Or.inr (Or.inl (⟨rfl, c, a⟩))))))))))
                    · rw [if_neg a]
                      exact Or.inr (Or.inr (Or.inr (Or.inr (Or.inr (Or.inr (Or.inr (Or.inr (Or.inr (Or.inr (Or.inr (Or.inr (Or.inr (rfl)))))))))))))
                  · rw [if_neg c]
                    by_cases c : C = 111
                    · rw [if_pos c]
                      exact Or.inr (Or.inr (Or.inr (Or.inr (Or.inr (Or.inr (Or.inr (Or.inr (Or.inl (⟨rfl, c⟩)))))))))
                    · rw [if_neg c]
                      exact Or.inr (Or.inr (Or.inr (Or.inr (Or.inr (Or.inr (Or.inr (Or.inr (Or.inr (Or.inr (Or.inr (Or.inr (Or.inr (rfl)))))))))))))
theorem eq_work {w : Int32} {pc : Int32} {gn mn : Nat → Int32} (h : ∀ i, i < 32 → gn i = mn i) (hg : f_Mo_groupOf w = 0) : f_Co_worked pc gn w = f_Mo_work pc mn w := by
  have hA : gn (Int32.toNatClampNeg (f_Mo_a w)) = mn (Int32.toNatClampNeg (f_Mo_a w)) := h _ (ix5 _)
  have hB : gn (Int32.toNatClampNeg (f_Mo_b w)) = mn (Int32.toNatClampNeg (f_Mo_b w)) := h _ (ix5 _)
  have hb : f_Mo_b w = (w >>> ((20 : Int32) &&& 31)) &&& 31 := rfl
  have hc := g_case w
  rw [hg] at hc
  unfold f_Co_worked f_Mo_work
  simp only [eq_F, eq_A, eq_B, eq_G, hA, hB, show f_Cd_codeOf w = w &&& 127 from rfl, show f_Cd_immediate w = w >>> ((20 : Int32) &&& 31) from rfl, show f_Cd_upperPart w = w &&& (-4096) from rfl, eq_made]
  generalize mn (Int32.toNatClampNeg (f_Mo_a w)) = A
  generalize mn (Int32.toNatClampNeg (f_Mo_b w)) = B
  have e1 : f_Mo_made 1 A (w >>> ((20 : Int32) &&& 31)) 0 = f_Mo_made 1 A (f_Mo_b w) 0 := by
    unfold f_Mo_made
    simp only [hb, and_idem, (by decide : ¬ (1 : Int32) = 0), ↓reduceIte]
  have e5 (o : Int32) : f_Mo_made 5 A (w >>> ((20 : Int32) &&& 31)) o = f_Mo_made 5 A (f_Mo_b w) o := by
    unfold f_Mo_made
    simp only [hb, and_idem, (by decide : ¬ (5 : Int32) = 0), (by decide : ¬ (5 : Int32) = 1), (by decide : ¬ (5 : Int32) = 2), (by decide : ¬ (5 : Int32) = 3), (by decide : ¬ (5 : Int32) = 4), ↓reduceIte]
  clear hb
  rcases hc with ⟨-, c, hG⟩ | ⟨-, c, hF⟩ | ⟨-, c⟩ | ⟨-, c⟩ | ⟨e, -⟩ | ⟨e, -⟩ | ⟨e, -⟩ | ⟨e, -⟩ | ⟨e, -⟩ | ⟨e, -⟩ | ⟨e, -⟩ | ⟨e, -⟩ | ⟨e, -⟩ | e
  · rcases hG with hG | hG
    · simp only [c, hG, (by decide : ¬ (51 : Int32) = 55), (by decide : ¬ (51 : Int32) = 23), (by decide : ¬ (51 : Int32) = 19), (by decide : ¬ (0 : Int32) = 32), ↓reduceIte]
    · simp only [c, hG, (by decide : ¬ (51 : Int32) = 55), (by decide : ¬ (51 : Int32) = 23), (by decide : ¬ (51 : Int32) = 19), (by decide : ¬ (32 : Int32) = 0), ↓reduceIte]
  · rcases hF with ⟨hF, hG⟩ | ⟨hF, hG⟩ | ⟨hF, hG⟩
    · simp only [c, hF, hG, (by decide : ¬ (19 : Int32) = 55), (by decide : ¬ (19 : Int32) = 23), (by decide : ¬ (19 : Int32) = 51), (by decide : ¬ (0 : Int32) = 32), (by decide : ¬ (1 : Int32) = 5), ↓reduceIte]
      exact e1
    · rcases hG with hG | hG
      · simp only [c, hF, hG, (by decide : ¬ (19 : Int32) = 55), (by decide : ¬ (19 : Int32) = 23), (by decide : ¬ (19 : Int32) = 51), (by decide : ¬ (0 : Int32) = 32), (by decide : ¬ (5 : Int32) = 1), ↓reduceIte]
        exact e5 0
      · simp only [c, hF, hG, (by decide : ¬ (19 : Int32) = 55), (by decide : ¬ (19 : Int32) = 23), (by decide : ¬ (19 : Int32) = 51), (by decide : ¬ (32 : Int32) = 0), (by decide : ¬ (5 : Int32) = 1), ↓reduceIte]
        exact e5 1
    · simp only [c, hF, hG, (by decide : ¬ (19 : Int32) = 55), (by decide : ¬ (19 : Int32) = 23), (by decide : ¬ (19 : Int32) = 51), ↓reduceIte]
  · simp only [c, (by decide : ¬ (55 : Int32) = 19), (by decide : ¬ (55 : Int32) = 51), ↓reduceIte]
  · simp only [c, (by decide : ¬ (23 : Int32) = 55), (by decide : ¬ (23 : Int32) = 19), (by decide : ¬ (23 : Int32) = 51), ↓reduceIte]
  all_goals exact absurd e (by decide)
theorem eq_addr {w g : Int32} {gn mn : Nat → Int32} (h : ∀ i, i < 32 → gn i = mn i) (hg : f_Mo_groupOf w = g) (hm : g = 1 ∨ g = 2 ∨ g = 3) : f_Co_addressOf gn w g = f_Mo_address mn w := by
  have hA : gn (Int32.toNatClampNeg (f_Mo_a w)) = mn (Int32.toNatClampNeg (f_Mo_a w)) := h _ (ix5 _)
  have hc := g_case w
  rw [hg] at hc
  unfold f_Co_addressOf f_Mo_address f_Cd_storeOffset
  simp only [eq_A, hA, eq_D, show f_Cd_immediate w = w >>> ((20 : Int32) &&& 31) from rfl]

  rcases hm with rfl | rfl | rfl
  · rcases hc with ⟨e, -⟩ | ⟨e, -⟩ | ⟨e, -⟩ | ⟨e, -⟩ | ⟨-, c, -⟩ | ⟨e, -⟩ | ⟨e, -⟩ | ⟨e, -⟩ | ⟨e, -⟩ | ⟨e, -⟩ | ⟨e, -⟩ | ⟨e, -⟩ | ⟨e, -⟩ | e
    all_goals first
      | exact absurd e (by decide)
      | simp only [c, ↓reduceIte]
  · rcases hc with ⟨e, -⟩ | ⟨e, -⟩ | ⟨e, -⟩ | ⟨e, -⟩ | ⟨e, -⟩ | ⟨-, c, -⟩ | ⟨e, -⟩ | ⟨e, -⟩ | ⟨e, -⟩ | ⟨e, -⟩ | ⟨e, -⟩ | ⟨e, -⟩ | ⟨e, -⟩ | e
    all_goals first
      | exact absurd e (by decide)
      | simp only [c, (by decide : ¬ (2 : Int32) = 1), (by decide : ¬ (35 : Int32) = 3), ↓reduceIte]
  · rcases hc with ⟨e, -⟩ | ⟨e, -⟩ | ⟨e, -⟩ | ⟨e, -⟩ | ⟨e, -⟩ | ⟨e, -⟩ | ⟨-, c, -⟩ | ⟨e, -⟩ | ⟨e, -⟩ | ⟨e, -⟩ | ⟨e, -⟩ | ⟨e, -⟩ | ⟨e, -⟩ | e
    all_goals first
      | exact absurd e (by decide)
      | simp only [c, (by decide : ¬ (3 : Int32) = 1), (by decide : ¬ (35 : Int32) = 3), ↓reduceIte]
theorem le_of_not_lt {x y : Int32} (h : ¬ x < y) : y ≤ x := Int32.not_lt.mp h
theorem a_range {a : Int32} (h1 : ¬ a < 4096) (h2 : ¬ 4352 ≤ a) : ∃ A : Nat, A < 256 ∧ a = nI (4096 + A) := by
  have e0 : (0 : Int32).toInt = 0 := by decide
  have e1 : (4096 : Int32).toInt = 4096 := by decide
  have e2 : (4351 : Int32).toInt = 4351 := by decide
  have e3 : (4352 : Int32).toInt = 4352 := by decide
  have k1 : ¬ a.toInt < 4096 := fun h => h1 (Int32.lt_iff_toInt_lt.mpr (by rw [e1]; exact h))
  have k2 : ¬ 4352 ≤ a.toInt := fun h => h2 (Int32.le_iff_toInt_le.mpr (by rw [e3]; exact h))
  have k3 : ¬ a < 0 := fun h => by
    have := Int32.lt_iff_toInt_lt.mp h
    rw [e0] at this
    omega
  have k4 : a ≤ 4351 := Int32.le_iff_toInt_le.mpr (by rw [e2]; omega)
  obtain ⟨j, hj, e⟩ := nI_of2 (x := a) (M := 4351) (n := 4351) (by decide) k3 k4
  have k5 : a.toInt = (j : Int) := by rw [e]; exact nI_toInt (by omega)
  have k6 : 4096 + (j - 4096) = j := by omega
  exact ⟨j - 4096, by omega, by rw [k6]; exact e⟩
theorem a_sub (A : Nat) : nI (4096 + A) - 4096 = nI A := by
  have := pk_sub (a := 4096 + A) (b := 4096) (by omega)
  rw [show 4096 + A - 4096 = A by omega] at this
  exact this
theorem a_place {A : Nat} (h : A < 256) : f_Co_placeOf (nI (4096 + A)) = nI (A / 4) ∧ (nI (4096 + A) - 4096) / 4 = nI (A / 4) := by
  unfold f_Co_placeOf
  rw [a_sub]
  exact ⟨pk_shrN (n := A) (by omega) ((2 : Int32) &&& 31) 2 (by decide), pk_div (a := A) (d := 4) (by omega) (by omega) (by omega)⟩
theorem a_shift {A : Nat} (h : A < 256) : f_Co_shiftOf (nI (4096 + A)) = nI (8 * (A % 4)) ∧ 8 * ((nI (4096 + A) - 4096) - (nI (4096 + A) - 4096) / 4 * 4) = nI (8 * (A % 4)) := by
  unfold f_Co_shiftOf
  rw [a_sub]
  refine ⟨?_, ?_⟩
  · rw [pk_andN (n := 4096 + A) (by omega) (m := 3) 2 (by decide), show (4096 + A) % 2 ^ 2 = A % 4 by omega, Nat.mul_comm]
    exact pk_mul _ 8
  · rw [show nI A - nI A / 4 * 4 = nI (A % 4) from pk_rem (a := A) (d := 4) (by omega) (by omega) (by omega)]
    exact pk_mul 8 _
theorem a_rem {A : Nat} (h : A < 256) : nI (4096 + A) &&& 3 = nI (A % 4) ∧ nI (4096 + A) - nI (4096 + A) / 4 * 4 = nI (A % 4) := by
  refine ⟨?_, ?_⟩
  · rw [pk_andN (n := 4096 + A) (by omega) (m := 3) 2 (by decide), show (4096 + A) % 2 ^ 2 = A % 4 by omega]
  · rw [show nI (4096 + A) - nI (4096 + A) / 4 * 4 = nI ((4096 + A) % 4) from pk_rem (a := 4096 + A) (d := 4) (by omega) (by omega) (by omega), show (4096 + A) % 4 = A % 4 by omega]
theorem a_ok {a whole : Int32} (h : ¬ f_Co_liesInMemory a whole = 0) : ∃ A : Nat, A < 256 ∧ a = nI (4096 + A) := by
  unfold f_Co_liesInMemory at h
  by_cases h1 : a < 4096
  · rw [if_pos h1] at h; exact absurd rfl h
  · rw [if_neg h1] at h
    by_cases h2 : 4352 ≤ a
    · rw [if_pos h2] at h; exact absurd rfl h
    · exact a_range h1 h2
theorem eq_lies {w g : Int32} {mn : Nat → Int32} (hg : f_Mo_groupOf w = g) (hm : g = 1 ∨ g = 2 ∨ g = 3) : f_Co_liesInMemory (f_Mo_address mn w) (f_Cd_isWhole w) = 0 ↔ ¬ f_Mo_isWrong mn w g = 0 := by
  have hW : f_Cd_isWhole w = cu_Mo_isWrong_29 g w := by
    have hc := g_case w
    rw [hg] at hc
    unfold f_Cd_isWhole cu_Mo_isWrong_29
    rw [eq_F]
    rcases hm with rfl | rfl | rfl
    · simp only [(by decide : ¬ (1 : Int32) = 2), ↓reduceIte]
    · rcases hc with ⟨e, -⟩ | ⟨e, -⟩ | ⟨e, -⟩ | ⟨e, -⟩ | ⟨e, -⟩ | ⟨-, c, f⟩ | ⟨e, -⟩ | ⟨e, -⟩ | ⟨e, -⟩ | ⟨e, -⟩ | ⟨e, -⟩ | ⟨e, -⟩ | ⟨e, -⟩ | e
      all_goals first
        | exact absurd e (by decide)
        | simp only [f, ↓reduceIte]
    · rcases hc with ⟨e, -⟩ | ⟨e, -⟩ | ⟨e, -⟩ | ⟨e, -⟩ | ⟨e, -⟩ | ⟨e, -⟩ | ⟨-, c, f⟩ | ⟨e, -⟩ | ⟨e, -⟩ | ⟨e, -⟩ | ⟨e, -⟩ | ⟨e, -⟩ | ⟨e, -⟩ | e
      all_goals first
        | exact absurd e (by decide)
        | simp only [f, (by decide : ¬ (0 : Int32) = 2), (by decide : ¬ (3 : Int32) = 2), (by decide : ¬ (3 : Int32) = 1), ↓reduceIte]
  unfold f_Co_liesInMemory f_Mo_isWrong
  rw [hW]
  generalize cu_Mo_isWrong_29 g w = W
  generalize f_Mo_address mn w = a
  by_cases h1 : a < 4096
  · rw [if_pos h1, if_pos h1]; exact ⟨fun _ => by decide, fun _ => rfl⟩
  rw [if_neg h1, if_neg h1]
  by_cases h2 : 4352 ≤ a
  · have h3 : 4351 < a := Int32.lt_iff_toInt_lt.mpr (by
      have := Int32.le_iff_toInt_le.mp h2
      have e1 : (4352 : Int32).toInt = 4352 := by decide
      have e2 : (4351 : Int32).toInt = 4351 := by decide
      omega)
    rw [if_pos h2, if_pos h3]; exact ⟨fun _ => by decide, fun _ => rfl⟩
  have h3 : ¬ 4351 < a := fun h => h2 (Int32.le_iff_toInt_le.mpr (by
      have := Int32.lt_iff_toInt_lt.mp h
      have e1 : (4352 : Int32).toInt = 4352 := by decide
      have e2 : (4351 : Int32).toInt = 4351 := by decide
      omega))
  rw [if_neg h2, if_neg h3]
  obtain ⟨A, hA, rfl⟩ := a_range h1 h2
  obtain ⟨r1, r2⟩ := a_rem hA
  rw [r1, r2]
  by_cases hw : W = 0
  · rw [if_pos hw, if_pos hw]; exact ⟨fun h => absurd h (by decide), fun h => absurd rfl h⟩
  rw [if_neg hw, if_neg hw]
  by_cases hr : nI (A % 4) = 0
  · rw [if_pos hr, if_pos hr]; exact ⟨fun h => absurd h (by decide), fun h => absurd rfl h⟩
  · rw [if_neg hr, if_neg hr]; exact ⟨fun _ => by decide, fun _ => rfl⟩
theorem sb_256 : ∀ n, n < 256 → (nI n).toInt8.toInt32 = if 128 ≤ nI n then nI n - 256 else nI n := by decide +kernel
theorem eq_load {w : Int32} {sn mm mn : Nat → Int32} (h : ∀ i, i < 64 → sn i = mm i) (hg : f_Mo_groupOf w = 1) {A : Nat} (hA : A < 256) (ha : f_Mo_address mn w = nI (4096 + A)) : f_Co_loaded sn w (nI (4096 + A)) = f_Mo_load mn mm w := by
  have hc := g_case w
  rw [hg] at hc
  obtain ⟨p1, p2⟩ := a_place hA
  obtain ⟨s1, s2⟩ := a_shift hA
  have hk : 8 * (A % 4) + 8 ≤ 32 := by omega
  have hm : sn (A / 4) = mm (A / 4) := h _ (by omega)
  have e255 : ∀ i, i < 32 → bt 255 i = decide (i < 8) := fun i _ => b_255 i
  unfold f_Co_loaded f_Mo_load f_Cd_isWhole
  rw [ha, p1, s1, s2, p2, eq_F, cl_nI (show A / 4 < 2 ^ 31 by omega), hm, sh_eq (8 * (A % 4)) 8 (by omega) hk e255]
  obtain ⟨n, hn, en⟩ := pk_andE (mm (A / 4) >>> (nI (8 * (A % 4)) &&& 31)) (m := 255) 8 (by decide)
  rw [en]
  rcases hc with ⟨e, -⟩ | ⟨e, -⟩ | ⟨e, -⟩ | ⟨e, -⟩ | ⟨-, c, f⟩ | ⟨e, -⟩ | ⟨e, -⟩ | ⟨e, -⟩ | ⟨e, -⟩ | ⟨e, -⟩ | ⟨e, -⟩ | ⟨e, -⟩ | ⟨e, -⟩ | e
  all_goals try exact absurd e (by decide)
  rcases f with f | f | f
  · simp only [f, (by decide : ¬ (0 : Int32) = 2), (by decide : ¬ (0 : Int32) = 4), ↓reduceIte]
    exact sb_256 n hn
  · simp only [f, (by decide : ¬ (1 : Int32) = 0), ↓reduceIte]
  · simp only [f, (by decide : ¬ (4 : Int32) = 2), (by decide : ¬ (4 : Int32) = 0), ↓reduceIte]
theorem eq_store {w g : Int32} {gn mn sn sl mm ml : Nat → Int32} (h : ∀ i, i < 32 → gn i = mn i) (hs : RBank 64 sn sl mm ml) {A : Nat} (hA : A < 256) (ha : f_Mo_address mn w = nI (4096 + A)) (b : Int32) (hg : g = 2 ∨ g = 3) : RBank 64 (upd sn (Int32.toNatClampNeg (f_Co_placeOf (nI (4096 + A)))) (if g = 2 then gn (Int32.toNatClampNeg (f_Cd_fieldB w)) else f_Co_patched sn gn w (nI (4096 + A)))) (upd sl (Int32.toNatClampNeg (f_Co_placeOf (nI (4096 + A)))) b) (f_Mo_store g mn mm ml w b).1 (f_Mo_store g mn mm ml w b).2 := by
  obtain ⟨p1, p2⟩ := a_place hA
  obtain ⟨s1, s2⟩ := a_shift hA
  have hB : gn (Int32.toNatClampNeg (f_Mo_b w)) = mn (Int32.toNatClampNeg (f_Mo_b w)) := h _ (ix5 _)
  have hm : sn (A / 4) = mm (A / 4) := (hs _ (by omega)).1
  unfold f_Mo_store f_Co_patched
  rw [ha, p1, s1, s2, p2, eq_B, cl_nI (show A / 4 < 2 ^ 31 by omega), hm, hB]
  rcases hg with rfl | rfl
  · simp only [(by decide : ¬ (2 : Int32) = 3), ↓reduceIte]
    exact bk_put hs _ _ _
  · simp only [(by decide : ¬ (3 : Int32) = 2), ↓reduceIte]
    exact bk_put hs _ _ _
theorem eq_holds {w : Int32} {gn mn : Nat → Int32} (h : ∀ i, i < 32 → gn i = mn i) (h2 : ¬ f_Mo_f w = 2) (h3 : ¬ f_Mo_f w = 3) : f_Co_branches gn w = f_Mo_holds mn w := by
  have hA : gn (Int32.toNatClampNeg (f_Mo_a w)) = mn (Int32.toNatClampNeg (f_Mo_a w)) := h _ (ix5 _)
  have hB : gn (Int32.toNatClampNeg (f_Mo_b w)) = mn (Int32.toNatClampNeg (f_Mo_b w)) := h _ (ix5 _)
  unfold f_Co_branches f_Mo_holds f_Cd_compares
  rw [eq_F, eq_A, eq_B, hA, hB, eq_less]
  generalize mn (Int32.toNatClampNeg (f_Mo_a w)) = a
  generalize mn (Int32.toNatClampNeg (f_Mo_b w)) = b
  obtain ⟨j, hj, e⟩ := pk_andE (w >>> ((12 : Int32) &&& 31)) (m := 7) 3 (by decide)
  have e : f_Mo_f w = nI j := e
  rw [e] at h2 h3 ⊢
  have h2 : j ≠ 2 := fun hh => h2 (by rw [hh]; rfl)
  have h3 : j ≠ 3 := fun hh => h3 (by rw [hh]; rfl)
  have hjj : j = 0 ∨ j = 1 ∨ j = 4 ∨ j = 5 ∨ j = 6 ∨ j = 7 := by omega
  have l0 : f_Mo_less a b 0 = if b ≤ a then 0 else 1 := rfl
  have l1 : f_Mo_less a b 1 = 0 ∨ f_Mo_less a b 1 = 1 := by
    unfold f_Mo_less
    rw [if_neg (show ¬ (1 : Int32) = 0 by decide)]
    by_cases h : 0 ≤ (lg_cmp ((Int32.toInt64 a) &&& 4294967295) ((Int32.toInt64 b) &&& 4294967295))
    · rw [if_pos h]; exact Or.inl rfl
    · rw [if_neg h]; exact Or.inr rfl
  rcases hjj with rfl | rfl | rfl | rfl | rfl | rfl
  · rw [if_pos (show nI 0 = 0 from rfl), if_neg (show ¬ (2 : Int32) ≤ nI 0 by decide)]
    by_cases hh : a = b
    · rw [if_pos hh, if_pos hh, if_pos (by decide)]
    · rw [if_neg hh, if_neg hh, if_pos (by decide)]
  · rw [if_neg (show ¬ nI 1 = 0 by decide), if_pos (show nI 1 = 1 from rfl), if_neg (show ¬ (2 : Int32) ≤ nI 1 by decide)]
    by_cases hh : a = b
    · rw [if_pos hh, if_pos hh, if_neg (by decide)]
    · rw [if_neg hh, if_neg hh, if_neg (by decide)]
  · rw [if_neg (show ¬ nI 4 = 0 by decide), if_neg (show ¬ nI 4 = 1 by decide), if_neg (show ¬ nI 4 = 2 by decide), if_neg (show ¬ nI 4 = 3 by decide), if_pos (show nI 4 = 4 from rfl), if_pos (show (2 : Int32) ≤ nI 4 by decide), if_pos (show nI 4 ≤ 5 by decide), if_pos (show (nI 4 - nI 4 / 2 * 2) = 0 by decide), l0]
  · rw [if_neg (show ¬ nI 5 = 0 by decide), if_neg (show ¬ nI 5 = 1 by decide), if_neg (show ¬ nI 5 = 2 by decide), if_neg (show ¬ nI 5 = 3 by decide), if_neg (show ¬ nI 5 = 4 by decide), if_pos (show nI 5 = 5 from rfl), if_pos (show (2 : Int32) ≤ nI 5 by decide), if_pos (show nI 5 ≤ 5 by decide), if_neg (show ¬ (nI 5 - nI 5 / 2 * 2) = 0 by decide), l0]
    by_cases hh : b ≤ a
    · rw [if_neg (Int32.not_lt.mpr hh), if_pos hh, if_pos rfl]
    · rw [if_pos (Int32.not_le.mp hh), if_neg hh, if_neg (by decide)]
  · rw [if_neg (show ¬ nI 6 = 0 by decide), if_neg (show ¬ nI 6 = 1 by decide), if_neg (show ¬ nI 6 = 2 by decide), if_neg (show ¬ nI 6 = 3 by decide), if_neg (show ¬ nI 6 = 4 by decide), if_neg (show ¬ nI 6 = 5 by decide), if_pos (show nI 6 = 6 from rfl), if_pos (show (2 : Int32) ≤ nI 6 by decide), if_neg (show ¬ nI 6 ≤ 5 by decide), if_pos (show (nI 6 - nI 6 / 2 * 2) = 0 by decide)]
  · rw [if_neg (show ¬ nI 7 = 0 by decide), if_neg (show ¬ nI 7 = 1 by decide), if_neg (show ¬ nI 7 = 2 by decide), if_neg (show ¬ nI 7 = 3 by decide), if_neg (show ¬ nI 7 = 4 by decide), if_neg (show ¬ nI 7 = 5 by decide), if_neg (show ¬ nI 7 = 6 by decide), if_pos (show (2 : Int32) ≤ nI 7 by decide), if_neg (show ¬ nI 7 ≤ 5 by decide), if_neg (show ¬ (nI 7 - nI 7 / 2 * 2) = 0 by decide)]
def isG (g : Int32) : Prop := ∃ n : Nat, n ≤ 8 ∧ g = nI n
theorem eq_uses (n : Nat) (h : n ≤ 8) : f_Cd_usesMemory (nI n) = f_Mo_isMemory (nI n) := (by decide +kernel : ∀ n, n < 9 → f_Cd_usesMemory (nI n) = f_Mo_isMemory (nI n)) n (by omega)
theorem uses_of (n : Nat) (h : n ≤ 8) (hu : ¬ f_Mo_isMemory (nI n) = 0) : nI n = 1 ∨ nI n = 2 ∨ nI n = 3 := (by decide +kernel : ∀ n, n < 9 → ¬ f_Mo_isMemory (nI n) = 0 → nI n = 1 ∨ nI n = 2 ∨ nI n = 3) n (by omega) hu
theorem g_num (w : Int32) : (f_Mo_groupOf w = (-1)) ∨ f_Mo_groupOf w = 9 ∨ ∃ n : Nat, n ≤ 8 ∧ f_Mo_groupOf w = nI n := by
  have hc := g_case w
  rcases hc with ⟨e, -⟩ | ⟨e, -⟩ | ⟨e, -⟩ | ⟨e, -⟩ | ⟨e, -⟩ | ⟨e, -⟩ | ⟨e, -⟩ | ⟨e, -⟩ | ⟨e, -⟩ | ⟨e, -⟩ | ⟨e, -⟩ | ⟨e, -⟩ | ⟨e, -⟩ | e
  · exact Or.inr (Or.inr ⟨0, by omega, e⟩)
  · exact Or.inr (Or.inr ⟨0, by omega, e⟩)
  · exact Or.inr (Or.inr ⟨0, by omega, e⟩)
  · exact Or.inr (Or.inr ⟨0, by omega, e⟩)
  · exact Or.inr (Or.inr ⟨1, by omega, e⟩)
  · exact Or.inr (Or.inr ⟨2, by omega, e⟩)
  · exact Or.inr (Or.inr ⟨3, by omega, e⟩)
  · exact Or.inr (Or.inr ⟨4, by omega, e⟩)
  · exact Or.inr (Or.inr ⟨5, by omega, e⟩)
  · exact Or.inr (Or.inr ⟨6, by omega, e⟩)
  · exact Or.inr (Or.inr ⟨7, by omega, e⟩)
  · exact Or.inr (Or.inr ⟨8, by omega, e⟩)
  · exact Or.inr (Or.inl e)
  · exact Or.inl e
theorem eq_reads {w : Int32} {n : Nat} (hn : n ≤ 8) (hg : f_Mo_groupOf w = nI n) : (f_Cd_readsA w = cu_Mo_takeLabels_58 w (nI n)) ∧ (f_Cd_readsB w = cu_Mo_takeLabels_94 w (nI n)) := by
  have hc := g_case w
  rw [hg] at hc
  unfold f_Cd_readsA f_Cd_readsB cu_Mo_takeLabels_58 cu_Mo_takeLabels_94
  rw [show f_Cd_codeOf w = w &&& 127 from rfl, eq_F]
  rcases hc with ⟨g, c, -⟩ | ⟨g, c, -⟩ | ⟨g, c⟩ | ⟨g, c⟩ | ⟨g, c, -⟩ | ⟨g, c, -⟩ | ⟨g, c, -⟩ | ⟨g, c, -⟩ | ⟨g, c⟩ | ⟨g, c, -⟩ | ⟨g, c, f⟩ | ⟨g, c, f⟩ | ⟨g, -⟩ | g

  · rw [g, c]; refine ⟨?_, ?_⟩ <;> simp only [(by decide : ¬ (51 : Int32) = 3), (by decide : ¬ (51 : Int32) = 11), (by decide : ¬ (51 : Int32) = 19), (by decide : ¬ (51 : Int32) = 35), (by decide : ¬ (51 : Int32) = 99), (by decide : ¬ (51 : Int32) = 103), (by decide : ¬ (0 : Int32) = 2), (by decide : ¬ (0 : Int32) = 3), (by decide : ¬ (0 : Int32) = 4), (by decide : ¬ (0 : Int32) = 6), (by decide : ¬ (0 : Int32) = 7), (by decide : f_Mo_isMemory 0 = 0), (by decide : ¬ (1 : Int32) = 0), ↓reduceIte]
  · rw [g, c]; refine ⟨?_, ?_⟩ <;> simp only [(by decide : ¬ (19 : Int32) = 3), (by decide : ¬ (19 : Int32) = 11), (by decide : ¬ (19 : Int32) = 35), (by decide : ¬ (19 : Int32) = 51), (by decide : ¬ (19 : Int32) = 99), (by decide : ¬ (19 : Int32) = 103), (by decide : ¬ (0 : Int32) = 2), (by decide : ¬ (0 : Int32) = 3), (by decide : ¬ (0 : Int32) = 4), (by decide : ¬ (0 : Int32) = 6), (by decide : ¬ (0 : Int32) = 7), (by decide : f_Mo_isMemory 0 = 0), (by decide : ¬ (1 : Int32) = 0), ↓reduceIte]
  · rw [g, c]; refine ⟨?_, ?_⟩ <;> simp only [(by decide : ¬ (55 : Int32) = 3), (by decide : ¬ (55 : Int32) = 11), (by decide : ¬ (55 : Int32) = 19), (by decide : ¬ (55 : Int32) = 35), (by decide : ¬ (55 : Int32) = 51), (by decide : ¬ (55 : Int32) = 99), (by decide : ¬ (55 : Int32) = 103), (by decide : ¬ (0 : Int32) = 2), (by decide : ¬ (0 : Int32) = 3), (by decide : ¬ (0 : Int32) = 4), (by decide : ¬ (0 : Int32) = 6), (by decide : ¬ (0 : Int32) = 7), (by decide : f_Mo_isMemory 0 = 0), (by decide : ¬ (1 : Int32) = 0), ↓reduceIte]
  · rw [g, c]; refine ⟨?_, ?_⟩ <;> simp only [(by decide : ¬ (23 : Int32) = 3), (by decide : ¬ (23 : Int32) = 11), (by decide : ¬ (23 : Int32) = 19), (by decide : ¬ (23 : Int32) = 35), (by decide : ¬ (23 : Int32) = 51), (by decide : ¬ (23 : Int32) = 99), (by decide : ¬ (23 : Int32) = 103), (by decide : ¬ (0 : Int32) = 2), (by decide : ¬ (0 : Int32) = 3), (by decide : ¬ (0 : Int32) = 4), (by decide : ¬ (0 : Int32) = 6), (by decide : ¬ (0 : Int32) = 7), (by decide : f_Mo_isMemory 0 = 0), (by decide : ¬ (1 : Int32) = 0), ↓reduceIte]
  · rw [g, c]; refine ⟨?_, ?_⟩ <;> simp only [(by decide : ¬ (3 : Int32) = 11), (by decide : ¬ (3 : Int32) = 19), (by decide : ¬ (3 : Int32) = 35), (by decide : ¬ (3 : Int32) = 51), (by decide : ¬ (3 : Int32) = 99), (by decide : ¬ (3 : Int32) = 103), (by decide : ¬ (1 : Int32) = 2), (by decide : ¬ (1 : Int32) = 3), (by decide : ¬ (1 : Int32) = 4), (by decide : ¬ (1 : Int32) = 6), (by decide : ¬ (1 : Int32) = 7), (by decide : f_Mo_isMemory 1 = 1), (by decide : ¬ (1 : Int32) = 0), ↓reduceIte]
  · rw [g, c]; refine ⟨?_, ?_⟩ <;> simp only [(by decide : ¬ (35 : Int32) = 3), (by decide : ¬ (35 : Int32) = 11), (by decide : ¬ (35 : Int32) = 19), (by decide : ¬ (35 : Int32) = 51), (by decide : ¬ (35 : Int32) = 99), (by decide : ¬ (35 : Int32) = 103), (by decide : ¬ (2 : Int32) = 3), (by decide : ¬ (2 : Int32) = 4), (by decide : ¬ (2 : Int32) = 6), (by decide : ¬ (2 : Int32) = 7), (by decide : f_Mo_isMemory 2 = 1), (by decide : ¬ (1 : Int32) = 0), ↓reduceIte]
  · rw [g, c]; refine ⟨?_, ?_⟩ <;> simp only [(by decide : ¬ (35 : Int32) = 3), (by decide : ¬ (35 : Int32) = 11), (by decide : ¬ (35 : Int32) = 19), (by decide : ¬ (35 : Int32) = 51), (by decide : ¬ (35 : Int32) = 99), (by decide : ¬ (35 : Int32) = 103), (by decide : ¬ (3 : Int32) = 2), (by decide : ¬ (3 : Int32) = 4), (by decide : ¬ (3 : Int32) = 6), (by decide : ¬ (3 : Int32) = 7), (by decide : f_Mo_isMemory 3 = 1), (by decide : ¬ (1 : Int32) = 0), ↓reduceIte]
  · rw [g, c]; refine ⟨?_, ?_⟩ <;> simp only [(by decide : ¬ (99 : Int32) = 3), (by decide : ¬ (99 : Int32) = 11), (by decide : ¬ (99 : Int32) = 19), (by decide : ¬ (99 : Int32) = 35), (by decide : ¬ (99 : Int32) = 51), (by decide : ¬ (99 : Int32) = 103), (by decide : ¬ (4 : Int32) = 2), (by decide : ¬ (4 : Int32) = 3), (by decide : ¬ (4 : Int32) = 6), (by decide : ¬ (4 : Int32) = 7), (by decide : f_Mo_isMemory 4 = 0), (by decide : ¬ (1 : Int32) = 0), ↓reduceIte]
  · rw [g, c]; refine ⟨?_, ?_⟩ <;> simp only [(by decide : ¬ (111 : Int32) = 3), (by decide : ¬ (111 : Int32) = 11), (by decide : ¬ (111 : Int32) = 19), (by decide : ¬ (111 : Int32) = 35), (by decide : ¬ (111 : Int32) = 51), (by decide : ¬ (111 : Int32) = 99), (by decide : ¬ (111 : Int32) = 103), (by decide : ¬ (5 : Int32) = 2), (by decide : ¬ (5 : Int32) = 3), (by decide : ¬ (5 : Int32) = 4), (by decide : ¬ (5 : Int32) = 6), (by decide : ¬ (5 : Int32) = 7), (by decide : f_Mo_isMemory 5 = 0), (by decide : ¬ (1 : Int32) = 0), ↓reduceIte]
  · rw [g, c]; refine ⟨?_, ?_⟩ <;> simp only [(by decide : ¬ (103 : Int32) = 3), (by decide : ¬ (103 : Int32) = 11), (by decide : ¬ (103 : Int32) = 19), (by decide : ¬ (103 : Int32) = 35), (by decide : ¬ (103 : Int32) = 51), (by decide : ¬ (103 : Int32) = 99), (by decide : ¬ (6 : Int32) = 2), (by decide : ¬ (6 : Int32) = 3), (by decide : ¬ (6 : Int32) = 4), (by decide : ¬ (6 : Int32) = 7), (by decide : f_Mo_isMemory 6 = 0), (by decide : ¬ (1 : Int32) = 0), ↓reduceIte]
  · rw [g, c]; refine ⟨?_, ?_⟩ <;> simp only [(by decide : ¬ (11 : Int32) = 3), (by decide : ¬ (11 : Int32) = 19), (by decide : ¬ (11 : Int32) = 35), (by decide : ¬ (11 : Int32) = 51), (by decide : ¬ (11 : Int32) = 99), (by decide : ¬ (11 : Int32) = 103), (by decide : ¬ (7 : Int32) = 2), (by decide : ¬ (7 : Int32) = 3), (by decide : ¬ (7 : Int32) = 4), (by decide : ¬ (7 : Int32) = 6), (by decide : f_Mo_isMemory 7 = 0), (by decide : ¬ (1 : Int32) = 0), f, ↓reduceIte]
  · rw [g, c]; refine ⟨?_, ?_⟩ <;> simp only [(by decide : ¬ (11 : Int32) = 3), (by decide : ¬ (11 : Int32) = 19), (by decide : ¬ (11 : Int32) = 35), (by decide : ¬ (11 : Int32) = 51), (by decide : ¬ (11 : Int32) = 99), (by decide : ¬ (11 : Int32) = 103), (by decide : ¬ (8 : Int32) = 2), (by decide : ¬ (8 : Int32) = 3), (by decide : ¬ (8 : Int32) = 4), (by decide : ¬ (8 : Int32) = 6), (by decide : ¬ (8 : Int32) = 7), (by decide : f_Mo_isMemory 8 = 0), (by decide : ¬ (1 : Int32) = 0), f, (by decide : ¬ (1 : Int32) = 0), ↓reduceIte]
  · exact absurd ((nI_eq (a := n) (b := 9) (by omega) (by omega)).mp g) (by omega)
  · exact absurd (show nI n < 0 by rw [g]; decide) (nI_pos (by omega))
theorem eq_askA {w : Int32} {n : Nat} (hn : n ≤ 8) (hg : f_Mo_groupOf w = nI n) {gl ml : Nat → Int32} (h : ∀ i, i < 32 → gl i = ml i) : cu_Co_ask_45 w gl = cu_Mo_takeLabels_128 w (nI n) ml := by
  have hA : gl (Int32.toNatClampNeg (f_Mo_a w)) = ml (Int32.toNatClampNeg (f_Mo_a w)) := h _ (ix5 _)
  unfold cu_Co_ask_45 cu_Mo_takeLabels_128
  rw [(eq_reads hn hg).1, eq_A, hA]
theorem eq_askB {w : Int32} {n : Nat} (hn : n ≤ 8) (hg : f_Mo_groupOf w = nI n) {gl ml : Nat → Int32} (h : ∀ i, i < 32 → gl i = ml i) : cu_Co_ask_74 w gl = cu_Mo_takeLabels_152 w (nI n) ml := by
  have hA : gl (Int32.toNatClampNeg (f_Mo_b w)) = ml (Int32.toNatClampNeg (f_Mo_b w)) := h _ (ix5 _)
  unfold cu_Co_ask_74 cu_Mo_takeLabels_152
  rw [(eq_reads hn hg).2, eq_B, hA]
theorem eq_askM {w : Int32} {n : Nat} (hn : n ≤ 8) (hg : f_Mo_groupOf w = nI n) {gn mn sl ml wl vl : Nat → Int32} {first : Int32} (h : ∀ i, i < 32 → gn i = mn i) (hs : ∀ i, i < 64 → sl i = ml i) (hm : ¬ f_Mo_isMemory (nI n) = 0 → ∃ A : Nat, A < 256 ∧ f_Mo_address mn w = nI (4096 + A)) (hw : nI n = 8 → wl (Int32.toNatClampNeg first) = vl (Int32.toNatClampNeg 0)) : f_Co_ask first wl sl (nI n) (f_Co_addressOf gn w (nI n)) = cu_Mo_takeLabels_206 (nI n) vl ml mn w := by
  unfold f_Co_ask cu_Mo_takeLabels_206
  rw [eq_uses n hn]
  by_cases hu : f_Mo_isMemory (nI n) = 0
  · rw [if_pos hu, if_pos hu]
    by_cases h8 : nI n = 8
    · rw [if_pos h8, if_pos h8]; exact hw h8
    · rw [if_neg h8, if_neg h8]
  · rw [if_neg hu, if_neg hu, eq_addr h hg (uses_of n hn hu)]
    obtain ⟨A, hA, e⟩ := hm hu
    obtain ⟨p1, p2⟩ := a_place hA
    rw [e, p1, p2, cl_nI (show A / 4 < 2 ^ 31 by omega)]
    exact hs _ (by omega)
