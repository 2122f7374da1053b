-- the cache: a ring here, a list there
def pl (E o i : Nat) : Nat := if o + i < E then o + i else o + i - E
def RCache (rules : Nat → Int32) (en ct old : Int32) (gg ps xs ys ms rs ns : Nat → Int32) (en' kn : Int32) (keys : Nat → Int32) : Prop :=
  ∃ E c o : Nat, 1 ≤ E ∧ E ≤ 64 ∧ c ≤ E ∧ o < E ∧ (c < E → o = 0) ∧ en = nI E ∧ en' = nI E ∧ ct = nI c ∧ kn = nI c ∧ old = nI o ∧
  (∀ i, i < c → gg (pl E o i) = keys (5 * i) ∧ ps (pl E o i) = keys (5 * i + 1) ∧ xs (pl E o i) = keys (5 * i + 2) ∧ ys (pl E o i) = keys (5 * i + 3) ∧ ms (pl E o i) = keys (5 * i + 4)) ∧
  (∀ a, a < c → ∃ g : Nat, g ≤ 8 ∧ gg a = nI g ∧ rs a = jn (ps a) (xs a) (ys a) (ms a) (rules (4 * g)) ∧ ns a = jn (ps a) (xs a) (ys a) (ms a) (rules (4 * g + 1)) ∧ (jn (ps a) (xs a) (ys a) (ms a) (rules (4 * g + 2)) &&& (jn (ps a) (xs a) (ys a) (ms a) (rules (4 * g + 3)) ^^^ (-1))) = 0)
theorem fd_spec (c : Nat) (hc : c ≤ 64) (gg ps xs ys ms : Nat → Int32) (g p x y m : Int32) : ∀ fu i, i ≤ c → 65 ≤ i + fu → (lp_Kc_find_2 (nI c) gg g p x y m ps xs ys ms fu (nI i) = (-1) ∧ ∀ a, i ≤ a → a < c → ¬ (gg a = g ∧ ps a = p ∧ xs a = x ∧ ys a = y ∧ ms a = m)) ∨ (∃ a, i ≤ a ∧ a < c ∧ lp_Kc_find_2 (nI c) gg g p x y m ps xs ys ms fu (nI i) = nI a ∧ (gg a = g ∧ ps a = p ∧ xs a = x ∧ ys a = y ∧ ms a = m)) := by
  intro fu
  induction fu with
  | zero => intro i h1 h2; omega
  | succ fu ih =>
    intro i h1 h2
    unfold lp_Kc_find_2
    rcases Nat.lt_or_ge i c with h | h
    · rw [if_neg (nI_ge h (by omega)), cl_nI (show i < 2 ^ 31 by omega), nI_1]
      by_cases hm : gg i = g ∧ ps i = p ∧ xs i = x ∧ ys i = y ∧ ms i = m
      · obtain ⟨m1, m2, m3, m4, m5⟩ := hm
        rw [if_pos m1, if_pos m2, if_pos m3, if_pos m4, if_pos m5]
        exact Or.inr ⟨i, Nat.le_refl _, h, rfl, m1, m2, m3, m4, m5⟩
      · have e (r z : Int32) : (if gg i = g then if ps i = p then if xs i = x then if ys i = y then if ms i = m then z else r else r else r else r else r) = r := by
          by_cases a1 : gg i = g
          · rw [if_pos a1]
            by_cases a2 : ps i = p
            · rw [if_pos a2]
              by_cases a3 : xs i = x
              · rw [if_pos a3]
                by_cases a4 : ys i = y
                · rw [if_pos a4]
                  by_cases a5 : ms i = m
                  · exact absurd ⟨a1, a2, a3, a4, a5⟩ hm
                  · rw [if_neg a5]
                · rw [if_neg a4]
              · rw [if_neg a3]
            · rw [if_neg a2]
          · rw [if_neg a1]
        rw [e]
        rcases ih (i + 1) (by omega) (by omega) with ⟨r, hn⟩ | ⟨a, ha, hac, r, hh⟩
        · refine Or.inl ⟨r, fun a h3 h4 => ?_⟩
          by_cases e : a = i
          · rw [e]; exact hm
          · exact hn a (by omega) h4
        · exact Or.inr ⟨a, by omega, hac, r, hh⟩
    · rw [if_pos (nI_le h (by omega))]
      exact Or.inl ⟨rfl, fun a h3 h4 => by omega⟩
theorem k5_0 {i : Nat} (h : i < 1000) : Int32.toNatClampNeg (5 * nI i) = 5 * i := by
  rw [show (5 : Int32) * nI i = nI (5 * i) from pk_mul 5 i]; exact cl_nI (by omega)
theorem k5_1 {i : Nat} (h : i < 1000) : Int32.toNatClampNeg (((5 * nI i) + 1) + 0) = 5 * i + 1 := by
  rw [show ((5 : Int32) * nI i + 1) + 0 = nI (5 * i + 1 + 0) by rw [show (5 : Int32) * nI i = nI (5 * i) from pk_mul 5 i, nI_1]; exact nI_add _ 0]; exact cl_nI (by omega)
theorem k5_2 {i : Nat} (h : i < 1000) : Int32.toNatClampNeg (((5 * nI i) + 1) + 1) = 5 * i + 2 := by
  rw [show ((5 : Int32) * nI i + 1) + 1 = nI (5 * i + 1 + 1) by rw [show (5 : Int32) * nI i = nI (5 * i) from pk_mul 5 i, nI_1]; exact nI_add _ 1]; exact cl_nI (by omega)
theorem k5_3 {i : Nat} (h : i < 1000) : Int32.toNatClampNeg (((5 * nI i) + 1) + 2) = 5 * i + 3 := by
  rw [show ((5 : Int32) * nI i + 1) + 2 = nI (5 * i + 1 + 2) by rw [show (5 : Int32) * nI i = nI (5 * i) from pk_mul 5 i, nI_1]; exact nI_add _ 2]; exact cl_nI (by omega)
theorem k5_4 {i : Nat} (h : i < 1000) : Int32.toNatClampNeg (((5 * nI i) + 1) + 3) = 5 * i + 4 := by
  rw [show ((5 : Int32) * nI i + 1) + 3 = nI (5 * i + 1 + 3) by rw [show (5 : Int32) * nI i = nI (5 * i) from pk_mul 5 i, nI_1]; exact nI_add _ 3]; exact cl_nI (by omega)
theorem kn_spec (c : Nat) (hc : c ≤ 64) (keys lab : Nat → Int32) (g : Int32) : ∀ fu i, i ≤ c → 65 ≤ i + fu → (lp_Mo_isKnown_2 (nI c) g keys lab fu (nI i) = 0 ∧ ∀ a, i ≤ a → a < c → ¬ (keys (5 * a) = g ∧ keys (5 * a + 1) = lab 0 ∧ keys (5 * a + 2) = lab 1 ∧ keys (5 * a + 3) = lab 2 ∧ keys (5 * a + 4) = lab 3)) ∨ (lp_Mo_isKnown_2 (nI c) g keys lab fu (nI i) = 1 ∧ ∃ a, i ≤ a ∧ a < c ∧ (keys (5 * a) = g ∧ keys (5 * a + 1) = lab 0 ∧ keys (5 * a + 2) = lab 1 ∧ keys (5 * a + 3) = lab 2 ∧ keys (5 * a + 4) = lab 3)) := by
  intro fu
  induction fu with
  | zero => intro i h1 h2; omega
  | succ fu ih =>
    intro i h1 h2
    unfold lp_Mo_isKnown_2
    rcases Nat.lt_or_ge i c with h | h
    · rw [if_neg (nI_ge h (by omega)), k5_0 (by omega), k5_1 (by omega), k5_2 (by omega), k5_3 (by omega), k5_4 (by omega), nI_1, c_0, c_1, c_2, c_3]
      by_cases hm : keys (5 * i) = g ∧ keys (5 * i + 1) = lab 0 ∧ keys (5 * i + 2) = lab 1 ∧ keys (5 * i + 3) = lab 2 ∧ keys (5 * i + 4) = lab 3
      · obtain ⟨m1, m2, m3, m4, m5⟩ := hm
        rw [if_pos m1, if_pos m2, if_pos m3, if_pos m4, if_pos m5]
        exact Or.inr ⟨rfl, i, Nat.le_refl _, h, m1, m2, m3, m4, m5⟩
      · have e (r z : Int32) : (if keys (5 * i) = g then if keys (5 * i + 1) = lab 0 then if keys (5 * i + 2) = lab 1 then if keys (5 * i + 3) = lab 2 then if keys (5 * i + 4) = lab 3 then z else r else r else r else r else r) = r := by
          by_cases a1 : keys (5 * i) = g
          · rw [if_pos a1]
            by_cases a2 : keys (5 * i + 1) = lab 0
            · rw [if_pos a2]
              by_cases a3 : keys (5 * i + 2) = lab 1
              · rw [if_pos a3]
                by_cases a4 : keys (5 * i + 3) = lab 2
                · rw [if_pos a4]
                  by_cases a5 : keys (5 * i + 4) = lab 3
                  · exact absurd ⟨a1, a2, a3, a4, a5⟩ hm
                  · rw [if_neg a5]
                · rw [if_neg a4]
              · rw [if_neg a3]
            · rw [if_neg a2]
          · rw [if_neg a1]
        rw [e]
        rcases ih (i + 1) (by omega) (by omega) with ⟨r, hn⟩ | ⟨r, a, ha, hac, hh⟩
        · refine Or.inl ⟨r, fun a h3 h4 => ?_⟩
          by_cases e : a = i
          · rw [e]; exact hm
          · exact hn a (by omega) h4
        · exact Or.inr ⟨r, a, by omega, hac, hh⟩
    · rw [if_pos (nI_le h (by omega))]
      exact Or.inl ⟨rfl, fun a h3 h4 => by omega⟩
theorem pl_lt {E o i : Nat} (ho : o < E) (hi : i < E) : pl E o i < E := by
  unfold pl
  by_cases h : o + i < E
  · rw [if_pos h]; exact h
  · rw [if_neg h]; omega
theorem pl_onto {E o a : Nat} (ho : o < E) (ha : a < E) : ∃ i, i < E ∧ pl E o i = a := by
  unfold pl
  rcases Nat.lt_or_ge a o with h | h
  · exact ⟨a + E - o, by omega, by rw [if_neg (by omega)]; omega⟩
  · exact ⟨a - o, by omega, by rw [if_pos (by omega)]; omega⟩
theorem pl_0 {E i : Nat} (hi : i < E) : pl E 0 i = i := by
  unfold pl
  rw [if_pos (by omega)]; omega
theorem kq_find {rules : Nat → Int32} {en ct old : Int32} {gg ps xs ys ms rs ns : Nat → Int32} {en' kn : Int32} {keys : Nat → Int32} (h : RCache rules en ct old gg ps xs ys ms rs ns en' kn keys) {g : Nat} (hg : g ≤ 8) (p x y m : Int32) (lab : Nat → Int32) (l0 : lab 0 = p) (l1 : lab 1 = x) (l2 : lab 2 = y) (l3 : lab 3 = m) :
    (f_Kc_find ct gg (nI g) p x y m ps xs ys ms = (-1) ∧ f_Mo_isKnown kn (nI g) keys lab = 0) ∨ (∃ a, a < 64 ∧ f_Kc_find ct gg (nI g) p x y m ps xs ys ms = nI a ∧ f_Mo_isKnown kn (nI g) keys lab = 1 ∧ rs a = jn p x y m (rules (4 * g)) ∧ ns a = jn p x y m (rules (4 * g + 1)) ∧ (jn p x y m (rules (4 * g + 2)) &&& (jn p x y m (rules (4 * g + 3)) ^^^ (-1))) = 0) := by
  obtain ⟨E, c, o, hE1, hE, hc, ho, ho0, rfl, rfl, rfl, rfl, rfl, hk, hr⟩ := h
  have F := fd_spec c (by omega) gg ps xs ys ms (nI g) p x y m 65 0 (by omega) (by omega)
  have K := kn_spec c (by omega) keys lab (nI g) 65 0 (by omega) (by omega)
  rw [l0, l1, l2, l3] at K
  have F : (f_Kc_find (nI c) gg (nI g) p x y m ps xs ys ms = (-1) ∧ _) ∨ _ := F
  have K : (f_Mo_isKnown (nI c) (nI g) keys lab = 0 ∧ _) ∨ (f_Mo_isKnown (nI c) (nI g) keys lab = 1 ∧ _) := K
  rcases F with ⟨F1, F2⟩ | ⟨a, -, hac, F1, f1, f2, f3, f4, f5⟩
  · rcases K with ⟨K1, -⟩ | ⟨-, i, -, hic, k1, k2, k3, k4, k5⟩
    · exact Or.inl ⟨F1, K1⟩
    · obtain ⟨e1, e2, e3, e4, e5⟩ := hk i hic
      have hlt : pl E o i < c := by
        rcases Nat.lt_or_ge c E with h | h
        · rw [ho0 h, pl_0 (by omega)]; exact hic
        · exact Nat.lt_of_lt_of_le (pl_lt ho (by omega)) h
      exact absurd ⟨e1.trans k1, e2.trans k2, e3.trans k3, e4.trans k4, e5.trans k5⟩ (F2 (pl E o i) (by omega) hlt)
  · refine Or.inr ⟨a, by omega, F1, ?_⟩
    have hi : ∃ i, i < c ∧ pl E o i = a := by
      rcases Nat.lt_or_ge c E with h | h
      · rw [ho0 h]; exact ⟨a, hac, pl_0 (by omega)⟩
      · obtain ⟨i, h1, h2⟩ := pl_onto (a := a) ho (by omega)
        exact ⟨i, by omega, h2⟩
    obtain ⟨i, hic, hi⟩ := hi
    obtain ⟨g', hg', e1, e2, e3, e4⟩ := hr a hac
    have : g' = g := (nI_eq (by omega) (by omega)).mp (e1.symm.trans f1)
    subst this
    rw [f2, f3, f4, f5] at e2 e3 e4
    refine ⟨?_, e2, e3, e4⟩
    rcases K with ⟨-, K2⟩ | ⟨K1, -⟩
    · obtain ⟨e1, e2, e3, e4, e5⟩ := hk i hic
      rw [hi] at e1 e2 e3 e4 e5
      exact absurd ⟨e1.symm.trans f1, e2.symm.trans f2, e3.symm.trans f3, e4.symm.trans f4, e5.symm.trans f5⟩ (K2 i (by omega) hic)
    · exact K1
def kput (keys : Nat → Int32) (k : Nat) (G a b c d : Int32) : Nat → Int32 := upd (upd (upd (upd (upd keys (5 * k) G) (5 * k + 1) a) (5 * k + 2) b) (5 * k + 3) c) (5 * k + 4) d
theorem kput_same (keys : Nat → Int32) (k : Nat) (G a b c d : Int32) : kput keys k G a b c d (5 * k) = G ∧ kput keys k G a b c d (5 * k + 1) = a ∧ kput keys k G a b c d (5 * k + 2) = b ∧ kput keys k G a b c d (5 * k + 3) = c ∧ kput keys k G a b c d (5 * k + 4) = d := by
  unfold kput
  refine ⟨?_, ?_, ?_, ?_, ?_⟩
  · rw [upd_ne _ _ (by omega), upd_ne _ _ (by omega), upd_ne _ _ (by omega), upd_ne _ _ (by omega), upd_same]
  · rw [upd_ne _ _ (by omega), upd_ne _ _ (by omega), upd_ne _ _ (by omega), upd_same]
  · rw [upd_ne _ _ (by omega), upd_ne _ _ (by omega), upd_same]
  · rw [upd_ne _ _ (by omega), upd_same]
  · rw [upd_same]
theorem kput_ne (keys : Nat → Int32) (k : Nat) (G a b c d : Int32) (i : Nat) (h : i < 5 * k ∨ 5 * k + 4 < i) : kput keys k G a b c d i = keys i := by
  unfold kput
  rw [upd_ne _ _ (by omega), upd_ne _ _ (by omega), upd_ne _ _ (by omega), upd_ne _ _ (by omega), upd_ne _ _ (by omega)]
theorem is_loop (E : Nat) (hE1 : 1 ≤ E) (hE : E ≤ 64) (G : Int32) (lab keys : Nat → Int32) : ∀ (fu i : Nat) (u : Nat → Int32), i ≤ 5 * (E - 1) → 316 ≤ i + fu → (∀ j, u j = if j < i then keys (j + 5) else keys j) → ∃ w, lp_Mo_install_23 (nI E) G lab fu (nI i) u = (nI E, kput w (E - 1) G (lab 0) (lab 1) (lab 2) (lab 3)) ∧ ∀ j, j < 5 * (E - 1) → w j = keys (j + 5) := by
  intro fu
  have hE' : nI E - 1 = nI (E - 1) := pk_sub (a := E) (b := 1) hE1
  have h5 : (5 : Int32) * nI (E - 1) = nI (5 * (E - 1)) := pk_mul 5 (E - 1)
  induction fu with
  | zero => intro i u h1 h2; omega
  | succ fu ih =>
    intro i u h1 h2 k1
    unfold lp_Mo_install_23
    rw [hE', k5_0 (by omega), k5_1 (by omega), k5_2 (by omega), k5_3 (by omega), k5_4 (by omega), c_0, c_1, c_2, c_3, h5, nI_1 (E - 1), show E - 1 + 1 = E by omega]
    rcases Nat.lt_or_ge i (5 * (E - 1)) with h | h
    · rw [if_neg (nI_ge h (by omega)), nI_1, cl_nI (show i < 2 ^ 31 by omega), show nI i + 5 = nI (i + 5) from nI_add i 5, cl_nI (show i + 5 < 2 ^ 31 by omega)]
      refine ih (i + 1) _ (by omega) (by omega) (fun j => ?_)
      by_cases e : j = i
      · rw [e, upd_same, k1 (i + 5), if_neg (by omega), if_pos (by omega)]
      · rw [upd_ne _ _ e, k1 j]
        by_cases e2 : j < i
        · rw [if_pos e2, if_pos (by omega)]
        · rw [if_neg e2, if_neg (by omega)]
    · rw [if_pos (nI_le h (by omega))]
      exact ⟨u, rfl, fun j hj => by rw [k1 j, if_pos (by omega)]⟩
theorem is_lt (E c : Nat) (hE : E ≤ 64) (hc : c < E) (G : Int32) (lab keys : Nat → Int32) : f_Mo_install (nI E) (nI c) G keys lab = (nI (c + 1), kput keys c G (lab 0) (lab 1) (lab 2) (lab 3)) := by
  unfold f_Mo_install
  rw [if_neg (fun hh => by have := (nI_eq (a := c) (b := E) (by omega) (by omega)).mp hh; omega), k5_0 (by omega), k5_1 (by omega), k5_2 (by omega), k5_3 (by omega), k5_4 (by omega), c_0, c_1, c_2, c_3, nI_1]
  rfl
theorem is_full (E : Nat) (hE1 : 1 ≤ E) (hE : E ≤ 64) (G : Int32) (lab keys : Nat → Int32) : ∃ w, f_Mo_install (nI E) (nI E) G keys lab = (nI E, kput w (E - 1) G (lab 0) (lab 1) (lab 2) (lab 3)) ∧ ∀ j, j < 5 * (E - 1) → w j = keys (j + 5) := by
  unfold f_Mo_install
  rw [if_pos rfl]
  exact is_loop E hE1 hE G lab keys 316 0 keys (by omega) (by omega) (fun j => by rw [if_neg (by omega)])
theorem kq_put {rules : Nat → Int32} {en ct old : Int32} {gg ps xs ys ms rs ns : Nat → Int32} {en' kn : Int32} {keys : Nat → Int32} (h : RCache rules en ct old gg ps xs ys ms rs ns en' kn keys) {g : Nat} (hg : g ≤ 8) (p x y m : Int32) (lab : Nat → Int32) (l0 : lab 0 = p) (l1 : lab 1 = x) (l2 : lab 2 = y) (l3 : lab 3 = m) (r n : Int32) (er : r = jn p x y m (rules (4 * g))) (e_n : n = jn p x y m (rules (4 * g + 1))) (al : (jn p x y m (rules (4 * g + 2)) &&& (jn p x y m (rules (4 * g + 3)) ^^^ (-1))) = 0) :
    vp_in (f_Kc_takePlace en ct old).1 64 ∧ RCache rules en (f_Kc_takePlace en ct old).2.1 (f_Kc_takePlace en ct old).2.2 (upd gg (Int32.toNatClampNeg (f_Kc_takePlace en ct old).1) (nI g)) (upd ps (Int32.toNatClampNeg (f_Kc_takePlace en ct old).1) p) (upd xs (Int32.toNatClampNeg (f_Kc_takePlace en ct old).1) x) (upd ys (Int32.toNatClampNeg (f_Kc_takePlace en ct old).1) y) (upd ms (Int32.toNatClampNeg (f_Kc_takePlace en ct old).1) m) (upd rs (Int32.toNatClampNeg (f_Kc_takePlace en ct old).1) r) (upd ns (Int32.toNatClampNeg (f_Kc_takePlace en ct old).1) n) en' (f_Mo_install en' kn (nI g) keys lab).1 (f_Mo_install en' kn (nI g) keys lab).2 := by
  obtain ⟨E, c, o, hE1, hE, hc, ho, ho0, rfl, rfl, rfl, rfl, rfl, hk, hr⟩ := h
  have core (P c' : Nat) (hP : P < c') (hcc : ∀ a, a < c' → a ≠ P → a < c) : ∀ a, a < c' → ∃ g' : Nat, g' ≤ 8 ∧ upd gg P (nI g) a = nI g' ∧ upd rs P r a = jn (upd ps P p a) (upd xs P x a) (upd ys P y a) (upd ms P m a) (rules (4 * g')) ∧ upd ns P n a = jn (upd ps P p a) (upd xs P x a) (upd ys P y a) (upd ms P m a) (rules (4 * g' + 1)) ∧ (jn (upd ps P p a) (upd xs P x a) (upd ys P y a) (upd ms P m a) (rules (4 * g' + 2)) &&& (jn (upd ps P p a) (upd xs P x a) (upd ys P y a) (upd ms P m a) (rules (4 * g' + 3)) ^^^ (-1))) = 0 := by
    intro a ha
    by_cases e : a = P
    · subst e
      refine ⟨g, hg, ?_⟩
      simp only [upd_same]
      exact ⟨trivial, er, e_n, al⟩
    · simp only [upd_ne _ _ e]
      exact hr a (hcc a ha e)
  rcases Nat.lt_or_ge c E with hcE | hcE
  · have o0 : o = 0 := ho0 hcE
    subst o0
    have et : f_Kc_takePlace (nI E) (nI c) (nI 0) = (nI c, nI (c + 1), nI 0) := by
      unfold f_Kc_takePlace
      rw [if_neg (nI_ge hcE (by omega)), nI_1, nI_pred]
    rw [et, is_lt E c hE hcE]
    dsimp only
    rw [cl_nI (show c < 2 ^ 31 by omega)]
    refine ⟨vp_in_nI (by omega) (by omega), E, c + 1, 0, hE1, hE, by omega, ho, fun _ => rfl, rfl, rfl, rfl, rfl, rfl, ?_, core c (c + 1) (by omega) (by omega)⟩
    intro i hi
    obtain ⟨s0, s1, s2, s3, s4⟩ := kput_same keys c (nI g) (lab 0) (lab 1) (lab 2) (lab 3)
    rw [pl_0 (by omega)]
    by_cases e : i = c
    · rw [e, s0, s1, s2, s3, s4, l0, l1, l2, l3]
      simp only [upd_same]
      refine ⟨?_, ?_, ?_, ?_, ?_⟩ <;> first | rfl | trivial
    · simp only [upd_ne _ _ e]
      rw [kput_ne _ _ _ _ _ _ _ _ (by omega), kput_ne _ _ _ _ _ _ _ _ (by omega), kput_ne _ _ _ _ _ _ _ _ (by omega), kput_ne _ _ _ _ _ _ _ _ (by omega), kput_ne _ _ _ _ _ _ _ _ (by omega)]
      have := hk i (by omega)
      rw [pl_0 (by omega)] at this
      exact this
  · have ec : c = E := by omega
    subst ec
    obtain ⟨w, ew, hw⟩ := is_full c hE1 hE (nI g) lab keys
    obtain ⟨o', ho', et, hpl⟩ : ∃ o', o' < c ∧ f_Kc_takePlace (nI c) (nI c) (nI o) = (nI o, nI c, nI o') ∧ ∀ i, i < c → (i + 1 < c → pl c o' i = pl c o (i + 1) ∧ pl c o' i ≠ o) ∧ (i + 1 = c → pl c o' i = o) := by
      unfold f_Kc_takePlace
      rw [if_pos (nI_le (Nat.le_refl c) (by omega)), nI_1]
      rcases Nat.lt_or_ge (o + 1) c with h | h
      · rw [if_pos (nI_lt h (by omega))]
        refine ⟨o + 1, h, rfl, fun i hi => ?_⟩
        unfold pl
        refine ⟨fun h2 => ?_, fun h2 => ?_⟩
        · by_cases h3 : o + 1 + i < c
          · rw [if_pos h3, if_pos (by omega)]; omega
          · rw [if_neg h3, if_neg (by omega)]; omega
        · rw [if_neg (by omega)]; omega
      · rw [if_neg (nI_nlt h (by omega))]
        refine ⟨0, by omega, rfl, fun i hi => ?_⟩
        unfold pl
        refine ⟨fun h2 => ?_, fun h2 => ?_⟩
        · by_cases h3 : o + (i + 1) < c
          · omega
          · rw [if_pos (by omega), if_neg h3]; omega
        · rw [if_pos (by omega)]; omega
    rw [et, ew]
    dsimp only
    rw [cl_nI (show o < 2 ^ 31 by omega)]
    refine ⟨vp_in_nI (by omega) (by omega), c, c, o', hE1, hE, hc, ho', fun h => absurd h (by omega), rfl, rfl, rfl, rfl, rfl, ?_, core o c ho (fun a h _ => h)⟩
    intro i hi
    obtain ⟨s0, s1, s2, s3, s4⟩ := kput_same w (c - 1) (nI g) (lab 0) (lab 1) (lab 2) (lab 3)
    obtain ⟨q1, q2⟩ := hpl i hi
    by_cases e : i + 1 = c
    · have ei : i = c - 1 := by omega
      rw [q2 e, ei, s0, s1, s2, s3, s4, l0, l1, l2, l3]
      simp only [upd_same]
      refine ⟨?_, ?_, ?_, ?_, ?_⟩ <;> first | rfl | trivial
    · obtain ⟨q3, q4⟩ := q1 (by omega)
      simp only [upd_ne _ _ q4]
      rw [kput_ne _ _ _ _ _ _ _ _ (by omega), kput_ne _ _ _ _ _ _ _ _ (by omega), kput_ne _ _ _ _ _ _ _ _ (by omega), kput_ne _ _ _ _ _ _ _ _ (by omega), kput_ne _ _ _ _ _ _ _ _ (by omega), hw _ (by omega), hw _ (by omega), hw _ (by omega), hw _ (by omega), hw _ (by omega), q3]
      have := hk (i + 1) (by omega)
      rw [show 5 * (i + 1) = 5 * i + 5 by omega] at this
      exact this
theorem kq_sizes {rules : Nat → Int32} {en ct old : Int32} {gg ps xs ys ms rs ns : Nat → Int32} {en' kn : Int32} {keys : Nat → Int32} (h : RCache rules en ct old gg ps xs ys ms rs ns en' kn keys) : en = en' ∧ ct = kn := by
  obtain ⟨E, c, o, hE1, hE, hc, ho, ho0, rfl, rfl, rfl, rfl, rfl, hk, hr⟩ := h
  exact ⟨rfl, rfl⟩
theorem kq_new (E : Nat) (h1 : 1 ≤ E) (h2 : E ≤ 64) (rules gg ps xs ys ms rs ns keys : Nat → Int32) : RCache rules (nI E) 0 0 gg ps xs ys ms rs ns (nI E) 0 keys := ⟨E, 0, 0, h1, h2, by omega, by omega, fun _ => rfl, rfl, rfl, rfl, rfl, rfl, fun i h => absurd h (by omega), fun i h => absurd h (by omega)⟩
theorem kq_forget {rules : Nat → Int32} {en ct old : Int32} {gg ps xs ys ms rs ns : Nat → Int32} {en' kn : Int32} {keys : Nat → Int32} (h : RCache rules en ct old gg ps xs ys ms rs ns en' kn keys) (rules' : Nat → Int32) : RCache rules' en 0 0 gg ps xs ys ms rs ns en' 0 keys := by
  obtain ⟨E, c, o, hE1, hE, hc, ho, ho0, rfl, rfl, rfl, rfl, rfl, hk, hr⟩ := h
  exact kq_new E hE1 hE rules' gg ps xs ys ms rs ns keys
