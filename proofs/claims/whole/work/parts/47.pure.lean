-- the relation over the law's contents, and the pure side of its cases
def Rel (v_x_words : Int32) (v_x_outcome : Int32) (v_x_pc : Int32) (v_x_pcLabel : Int32) (v_x_done : Int32) (v_x_misses : Int32) (v_x_longMisses : Int32) (g_x_program : Nat → Int32) (g_x_registers_numbers : Nat → Int32) (g_x_registers_labels : Nat → Int32) (g_x_store_numbers : Nat → Int32) (g_x_store_labels : Nat → Int32) (v_x_waiting_room : Int32) (v_x_waiting_first : Int32) (v_x_waiting_count : Int32) (g_x_waiting_held_numbers : Nat → Int32) (g_x_waiting_held_labels : Nat → Int32) (v_x_gone_room : Int32) (v_x_gone_first : Int32) (v_x_gone_count : Int32) (g_x_gone_held_numbers : Nat → Int32) (g_x_gone_held_labels : Nat → Int32) (g_x_kernel_code : Nat → Int32) (v_x_known_entries : Int32) (v_x_known_count : Int32) (v_x_known_oldest : Int32) (g_x_known_groups : Nat → Int32) (g_x_known_ps : Nat → Int32) (g_x_known_xs : Nat → Int32) (g_x_known_ys : Nat → Int32) (g_x_known_ms : Nat → Int32) (g_x_known_results : Nat → Int32) (g_x_known_nexts : Nat → Int32) (v_m_size : Int32) (v_m_entries : Int32) (v_m_outcome : Int32) (v_m_pc : Int32) (v_m_pcLabel : Int32) (v_m_wait : Int32) (v_m_went : Int32) (v_m_done : Int32) (v_m_misses : Int32) (v_m_known : Int32) (g_m_words : Nat → Int32) (g_m_rules : Nat → Int32) (g_m_registers : Nat → Int32) (g_m_registerLabels : Nat → Int32) (g_m_memory : Nat → Int32) (g_m_memoryLabels : Nat → Int32) (g_m_waiting : Nat → Int32) (g_m_waitingLabels : Nat → Int32) (g_m_out : Nat → Int32) (g_m_outLabels : Nat → Int32) (g_m_keys : Nat → Int32) : Prop := RProg v_x_words g_x_program v_m_size g_m_words ∧ RBank 32 g_x_registers_numbers g_x_registers_labels g_m_registers g_m_registerLabels ∧ RBank 64 g_x_store_numbers g_x_store_labels g_m_memory g_m_memoryLabels ∧ RWait v_x_waiting_room v_x_waiting_first v_x_waiting_count g_x_waiting_held_numbers g_x_waiting_held_labels v_m_wait g_m_waiting g_m_waitingLabels ∧ RGone v_x_gone_room v_x_gone_first v_x_gone_count g_x_gone_held_numbers g_x_gone_held_labels v_m_went g_m_out g_m_outLabels ∧ RKern g_x_kernel_code g_m_rules ∧ RCache g_m_rules v_x_known_entries v_x_known_count v_x_known_oldest g_x_known_groups g_x_known_ps g_x_known_xs g_x_known_ys g_x_known_ms g_x_known_results g_x_known_nexts v_m_entries v_m_known g_m_keys ∧ v_x_outcome = v_m_outcome ∧ v_x_pc = v_m_pc ∧ v_x_pcLabel = v_m_pcLabel ∧ v_x_done = v_m_done ∧ v_x_misses = v_m_misses ∧ v_x_longMisses = 0
theorem mk_no (x : Int32) : f_Mo_noMask x = if f_Co_isMask x = 0 then 1 else 0 := by
  unfold f_Mo_noMask f_Co_isMask
  by_cases h : x < 0
  · rw [if_pos h, if_pos h, if_pos rfl]
  · rw [if_neg h, if_neg h]
    by_cases h2 : 15 < x
    · rw [if_neg (show ¬ x ≤ 15 from fun hh => absurd h2 (Int32.not_lt.mpr hh)), if_pos h2, if_pos rfl]
    · rw [if_pos (show x ≤ 15 from Int32.not_lt.mp h2), if_neg h2, if_neg (by decide)]
def rvalid (q1 q2 q3 q4 q5 : Int32) : Prop := ¬ q1 < 0 ∧ q1 < 9 ∧ ¬ f_Co_isMask q2 = 0 ∧ ¬ f_Co_isMask q3 = 0 ∧ ¬ f_Co_isMask q4 = 0 ∧ ¬ f_Co_isMask q5 = 0
theorem lt_nI {x : Int32} {n : Nat} (hn : n < 2 ^ 31) (h0 : ¬ x < 0) (h : x < nI n) : ∃ g : Nat, g < n ∧ x = nI g := by
  obtain ⟨j, hj, rfl⟩ := nI_of h0
  exact ⟨j, (nI_ltI hj hn).mp h, rfl⟩
theorem ru_g {q1 q2 q3 q4 q5 : Int32} (h : rvalid q1 q2 q3 q4 q5) : ∃ g : Nat, g ≤ 8 ∧ q1 = nI g := by
  obtain ⟨g, hg, e⟩ := lt_nI (n := 9) (by omega) h.1 h.2.1
  exact ⟨g, by omega, e⟩
theorem ru_yes {q1 q2 q3 q4 q5 : Int32} (h : rvalid q1 q2 q3 q4 q5) : cu_Mo_rule_46 q1 q2 q3 q4 q5 = 0 := by
  obtain ⟨g, hg, rfl⟩ := ru_g h
  obtain ⟨h1, h2, h3, h4, h5, h6⟩ := h
  unfold cu_Mo_rule_46
  rw [if_neg h1, if_neg (show ¬ (8 : Int32) < nI g from nI_nlt (a := 8) hg (by omega)), mk_no, mk_no, mk_no, mk_no, if_neg h3, if_neg h4, if_neg h5, if_neg h6]
  first | done | rfl
theorem ru_no {q1 q2 q3 q4 q5 : Int32} (h : ¬ rvalid q1 q2 q3 q4 q5) : cu_Mo_rule_46 q1 q2 q3 q4 q5 = 1 := by
  unfold cu_Mo_rule_46
  by_cases h1 : q1 < 0
  · rw [if_pos h1]
  rw [if_neg h1]
  by_cases h2 : 8 < q1
  · rw [if_pos h2]
  rw [if_neg h2, mk_no, mk_no, mk_no, mk_no]
  have h9 : q1 < 9 := by
    obtain ⟨j, hj, rfl⟩ := nI_of h1
    rcases Nat.lt_or_ge j 9 with hh | hh
    · exact nI_lt (b := 9) hh (by omega)
    · exact absurd (show (8 : Int32) < nI j from nI_lt (a := 8) (by omega) hj) h2
  by_cases h3 : f_Co_isMask q2 = 0
  · rw [if_pos h3, if_neg (by decide)]
  rw [if_neg h3, if_pos rfl]
  by_cases h4 : f_Co_isMask q3 = 0
  · rw [if_pos h4, if_neg (by decide)]
  rw [if_neg h4, if_pos rfl]
  by_cases h5 : f_Co_isMask q4 = 0
  · rw [if_pos h5, if_neg (by decide)]
  rw [if_neg h5, if_pos rfl]
  by_cases h6 : f_Co_isMask q5 = 0
  · rw [if_pos h6, if_neg (by decide)]
  exact absurd ⟨h1, h9, h3, h4, h5, h6⟩ h
theorem ru_in {g : Nat} (hg : g ≤ 8) : vp_in (4 * nI g) 36 ∧ vp_in ((4 * nI g) + 1) 36 ∧ vp_in ((4 * nI g) + 2) 36 ∧ vp_in ((4 * nI g) + 3) 36 := by
  have e : (4 : Int32) * nI g = nI (4 * g) := pk_mul 4 g
  rw [e]
  refine ⟨vp_in_nI (by omega) (by omega), ?_, ?_, ?_⟩
  · rw [nI_1]; exact vp_in_nI (by omega) (by omega)
  · rw [show nI (4 * g) + 2 = nI (4 * g + 2) from nI_add _ 2]; exact vp_in_nI (by omega) (by omega)
  · rw [show nI (4 * g) + 3 = nI (4 * g + 3) from nI_add _ 3]; exact vp_in_nI (by omega) (by omega)
theorem ru_new {kn : Int32} {rules : Nat → Int32} {g : Nat} (hg : g ≤ 8) {q2 q3 q4 q5 : Int32} (h : cu_Mo_rule_46 (nI g) q2 q3 q4 q5 = 0) : f_Mo_rule kn rules (nI g) q2 q3 q4 q5 = (0, rul rules g q2 q3 q4 q5) := by
  unfold f_Mo_rule
  rw [if_pos (by rw [h]; decide), r4_0 hg, r4_1 hg, r4_2 hg, r4_3 hg]
  rfl
theorem ru_same {kn : Int32} {rules : Nat → Int32} {q1 q2 q3 q4 q5 : Int32} (h : cu_Mo_rule_46 q1 q2 q3 q4 q5 = 1) : f_Mo_rule kn rules q1 q2 q3 q4 q5 = (kn, rules) := by
  unfold f_Mo_rule
  rw [if_neg (by rw [h]; decide)]
theorem lg_self (x : Int64) : lg_cmp x x = 0 := by
  unfold lg_cmp
  rw [if_neg (show ¬ x > x from fun h => absurd (Int64.lt_iff_toInt_lt.mp h) (Int.lt_irrefl _)), if_pos rfl]
theorem ch_yes {q : Int32} (h1 : ¬ q < 1) (h2 : q ≤ 64) : ∃ n : Nat, 1 ≤ n ∧ n ≤ 64 ∧ q = nI n := by
  have h0 : ¬ q < 0 := fun h => h1 (Int32.lt_trans h (by decide))
  obtain ⟨j, hj, e⟩ := nI_of2 (x := q) (M := 64) (n := 64) (by decide) h0 h2
  refine ⟨j, ?_, hj, e⟩
  rcases Nat.eq_zero_or_pos j with h | h
  · subst h; exact absurd (show q < 1 by rw [e]; decide) h1
  · exact h
theorem ix_yes {q : Int32} {n : Nat} (hn : n < 2 ^ 31) (h1 : ¬ q < 0) (h2 : q < nI n) : vp_in q n := by
  obtain ⟨g, hg, rfl⟩ := lt_nI hn h1 h2
  exact vp_in_nI hg hn
theorem lt_le {q : Int32} {n : Nat} (hn : n + 1 < 2 ^ 31) (h1 : ¬ q < 0) : q < nI (n + 1) ↔ q ≤ nI n := by
  obtain ⟨j, hj, rfl⟩ := nI_of h1
  rw [nI_ltI hj hn, nI_leI hj (by omega)]
  omega
def tvalid (q : Int32) : Prop := q = 0 ∨ q = 1 ∨ q = 2 ∨ q = 3 ∨ q = 4 ∨ q = 5 ∨ q = 6 ∨ q = 7 ∨ q = 8
theorem tl_of {q : Int32} (h1 : ¬ q < 0) (h2 : q ≤ 8) : tvalid q := by
  obtain ⟨j, hj, rfl⟩ := nI_of2 (x := q) (M := 8) (n := 8) (by decide) h1 h2
  have : j = 0 ∨ j = 1 ∨ j = 2 ∨ j = 3 ∨ j = 4 ∨ j = 5 ∨ j = 6 ∨ j = 7 ∨ j = 8 := by omega
  rcases this with rfl | rfl | rfl | rfl | rfl | rfl | rfl | rfl | rfl
  · exact Or.inl rfl
  · exact Or.inr (Or.inl rfl)
  · exact Or.inr (Or.inr (Or.inl rfl))
  · exact Or.inr (Or.inr (Or.inr (Or.inl rfl)))
  · exact Or.inr (Or.inr (Or.inr (Or.inr (Or.inl rfl))))
  · exact Or.inr (Or.inr (Or.inr (Or.inr (Or.inr (Or.inl rfl)))))
  · exact Or.inr (Or.inr (Or.inr (Or.inr (Or.inr (Or.inr (Or.inl rfl))))))
  · exact Or.inr (Or.inr (Or.inr (Or.inr (Or.inr (Or.inr (Or.inr (Or.inl rfl)))))))
  · exact Or.inr (Or.inr (Or.inr (Or.inr (Or.inr (Or.inr (Or.inr (Or.inr rfl)))))))
theorem tl_yes {oc pc pl wt we dn ms kn q : Int32} (h : tvalid q) : (f_Mo_told oc pc pl wt we dn ms kn q).2 = 0 ∧ f_Co_told oc pc pl dn ms 0 kn we wt q = (f_Mo_told oc pc pl wt we dn ms kn q).1 := by
  unfold f_Mo_told f_Co_told
  rcases h with rfl | rfl | rfl | rfl | rfl | rfl | rfl | rfl | rfl
  · simp only [if_neg (show ¬ (0 : Int32) < 0 by decide), if_pos (show (0 : Int32) ≤ 8 by decide), if_pos (show (0 : Int32) = 0 from rfl)]; first | done | exact ⟨trivial, trivial⟩ | exact ⟨rfl, rfl⟩ | trivial
  · simp only [if_neg (show ¬ (1 : Int32) < 0 by decide), if_pos (show (1 : Int32) ≤ 8 by decide), if_neg (show ¬ (1 : Int32) = 0 by decide), if_pos (show (1 : Int32) = 1 from rfl)]; first | done | exact ⟨trivial, trivial⟩ | exact ⟨rfl, rfl⟩ | trivial
  · simp only [if_neg (show ¬ (2 : Int32) < 0 by decide), if_pos (show (2 : Int32) ≤ 8 by decide), if_neg (show ¬ (2 : Int32) = 0 by decide), if_neg (show ¬ (2 : Int32) = 1 by decide), if_pos (show (2 : Int32) = 2 from rfl)]; first | done | exact ⟨trivial, trivial⟩ | exact ⟨rfl, rfl⟩ | trivial
  · simp only [if_neg (show ¬ (3 : Int32) < 0 by decide), if_pos (show (3 : Int32) ≤ 8 by decide), if_neg (show ¬ (3 : Int32) = 0 by decide), if_neg (show ¬ (3 : Int32) = 1 by decide), if_neg (show ¬ (3 : Int32) = 2 by decide), if_pos (show (3 : Int32) = 3 from rfl)]; first | done | exact ⟨trivial, trivial⟩ | exact ⟨rfl, rfl⟩ | trivial
  · simp only [if_neg (show ¬ (4 : Int32) < 0 by decide), if_pos (show (4 : Int32) ≤ 8 by decide), if_neg (show ¬ (4 : Int32) = 0 by decide), if_neg (show ¬ (4 : Int32) = 1 by decide), if_neg (show ¬ (4 : Int32) = 2 by decide), if_neg (show ¬ (4 : Int32) = 3 by decide), if_pos (show (4 : Int32) = 4 from rfl)]; first | done | exact ⟨trivial, trivial⟩ | exact ⟨rfl, rfl⟩ | trivial
  · simp only [if_neg (show ¬ (5 : Int32) < 0 by decide), if_pos (show (5 : Int32) ≤ 8 by decide), if_neg (show ¬ (5 : Int32) = 0 by decide), if_neg (show ¬ (5 : Int32) = 1 by decide), if_neg (show ¬ (5 : Int32) = 2 by decide), if_neg (show ¬ (5 : Int32) = 3 by decide), if_neg (show ¬ (5 : Int32) = 4 by decide), if_pos (show (5 : Int32) = 5 from rfl)]; first | done | exact ⟨trivial, trivial⟩ | exact ⟨rfl, rfl⟩ | trivial
  · simp only [if_neg (show ¬ (6 : Int32) < 0 by decide), if_pos (show (6 : Int32) ≤ 8 by decide), if_neg (show ¬ (6 : Int32) = 0 by decide), if_neg (show ¬ (6 : Int32) = 1 by decide), if_neg (show ¬ (6 : Int32) = 2 by decide), if_neg (show ¬ (6 : Int32) = 3 by decide), if_neg (show ¬ (6 : Int32) = 4 by decide), if_neg (show ¬ (6 : Int32) = 5 by decide), if_pos (show (6 : Int32) = 6 from rfl)]; first | done | exact ⟨trivial, trivial⟩ | exact ⟨rfl, rfl⟩ | trivial
  · simp only [if_neg (show ¬ (7 : Int32) < 0 by decide), if_pos (show (7 : Int32) ≤ 8 by decide), if_neg (show ¬ (7 : Int32) = 0 by decide), if_neg (show ¬ (7 : Int32) = 1 by decide), if_neg (show ¬ (7 : Int32) = 2 by decide), if_neg (show ¬ (7 : Int32) = 3 by decide), if_neg (show ¬ (7 : Int32) = 4 by decide), if_neg (show ¬ (7 : Int32) = 5 by decide), if_neg (show ¬ (7 : Int32) = 6 by decide), if_pos (show (7 : Int32) = 7 from rfl)]; first | done | exact ⟨trivial, trivial⟩ | exact ⟨rfl, rfl⟩ | trivial
  · simp only [if_neg (show ¬ (8 : Int32) < 0 by decide), if_pos (show (8 : Int32) ≤ 8 by decide), if_neg (show ¬ (8 : Int32) = 0 by decide), if_neg (show ¬ (8 : Int32) = 1 by decide), if_neg (show ¬ (8 : Int32) = 2 by decide), if_neg (show ¬ (8 : Int32) = 3 by decide), if_neg (show ¬ (8 : Int32) = 4 by decide), if_neg (show ¬ (8 : Int32) = 5 by decide), if_neg (show ¬ (8 : Int32) = 6 by decide), if_neg (show ¬ (8 : Int32) = 7 by decide), if_pos (show (8 : Int32) = 8 from rfl)]; first | done | exact ⟨trivial, trivial⟩ | exact ⟨rfl, rfl⟩ | trivial
theorem tl_no {oc pc pl wt we dn ms kn q : Int32} (h : ¬ tvalid q) : (f_Mo_told oc pc pl wt we dn ms kn q).2 = 1 := by
  unfold f_Mo_told
  by_cases h1 : q < 0
  · rw [if_pos h1]
  · rw [if_neg h1]
    by_cases h2 : q ≤ 8
    · exact absurd (tl_of h1 h2) h
    · rw [if_neg h2]
