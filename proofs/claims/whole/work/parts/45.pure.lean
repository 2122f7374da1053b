-- one step, here and there
abbrev CT := Int32 × Int32 × Int32 × Int32 × Int32 × Int32 × Int32 × Int32 × Int32 × (Nat → Int32) × Int32 × Int32 × Int32 × Int32 × Int32 × Int32 × Int32 × Int32 × (Nat → Int32) × (Nat → Int32) × Int32 × Int32 × (Nat → Int32) × (Nat → Int32) × (Nat → Int32) × (Nat → Int32) × (Nat → Int32) × (Nat → Int32) × (Nat → Int32) × (Nat → Int32) × (Nat → Int32) × (Nat → Int32) × (Nat → Int32)
abbrev MT := Int32 × Int32 × Int32 × Int32 × Int32 × Int32 × Int32 × Int32 × Int32 × Int32 × (Nat → Int32) × (Nat → Int32) × (Nat → Int32) × (Nat → Int32) × (Nat → Int32) × (Nat → Int32) × (Nat → Int32) × (Nat → Int32) × (Nat → Int32) × (Nat → Int32)
def RelS (rules : Nat → Int32) (wroom : Int32) (wnum wlab : Nat → Int32) (groom gfirst en en_m oc : Int32) (c : CT) (d : MT) : Prop := c.1 = d.1 ∧ (c.2.1 = d.2.1 ∨ (c.2.1 = 0 ∧ d.2.1 = oc)) ∧ c.2.2.1 = d.2.2.1 ∧ c.2.2.2.1 = d.2.2.2.1 ∧ c.2.2.2.2.1 = d.2.2.2.2.2.2.1 ∧ c.2.2.2.2.2.1 = d.2.2.2.2.2.2.2.1 ∧ c.2.2.2.2.2.2.1 = 0 ∧ RBank 32 c.2.2.2.2.2.2.2.2.2.1 c.2.2.2.2.2.2.2.2.2.2.2.2.2.2.2.2.2.2.1 d.2.2.2.2.2.2.2.2.2.2.2.2.2.1 d.2.2.2.2.2.2.2.2.2.2.2.1 ∧ RBank 64 c.2.2.2.2.2.2.2.2.2.2.2.2.2.2.2.2.2.2.2.2.2.2.2.2.2.2.2.2.2.2.1 c.2.2.2.2.2.2.2.2.2.2.2.2.2.2.2.2.2.2.2.1 d.2.2.2.2.2.2.2.2.2.2.2.2.2.2.2.2.2.2.2 d.2.2.2.2.2.2.2.2.2.2.2.2.2.2.1 ∧ RWait wroom c.2.2.2.2.2.2.2.2.2.2.1 c.2.2.2.2.2.2.2.2.2.2.2.1 wnum wlab d.2.2.2.2.1 d.2.2.2.2.2.2.2.2.2.2.2.2.2.2.2.2.1 d.2.2.2.2.2.2.2.2.2.2.2.2.1 ∧ RGone groom gfirst c.2.2.2.2.2.2.2.2.2.2.2.2.1 c.2.2.2.2.2.2.2.2.2.2.2.2.2.2.2.2.2.2.2.2.2.2.2.2.2.2.2.2.2.2.2.1 c.2.2.2.2.2.2.2.2.2.2.2.2.2.2.2.2.2.2.2.2.2.2.2.2.2.2.2.2.2.2.2.2 d.2.2.2.2.2.1 d.2.2.2.2.2.2.2.2.2.2.2.2.2.2.2.2.2.1 d.2.2.2.2.2.2.2.2.2.2.2.2.2.2.2.2.2.2.1 ∧ RCache rules en c.2.2.2.2.2.2.2.2.2.2.2.2.2.2.2.2.2.2.2.2.1 c.2.2.2.2.2.2.2.2.2.2.2.2.2.2.2.2.2.2.2.2.2.1 c.2.2.2.2.2.2.2.2.2.2.2.2.2.2.2.2.2.2.2.2.2.2.1 c.2.2.2.2.2.2.2.2.2.2.2.2.2.2.2.2.2.2.2.2.2.2.2.1 c.2.2.2.2.2.2.2.2.2.2.2.2.2.2.2.2.2.2.2.2.2.2.2.2.1 c.2.2.2.2.2.2.2.2.2.2.2.2.2.2.2.2.2.2.2.2.2.2.2.2.2.1 c.2.2.2.2.2.2.2.2.2.2.2.2.2.2.2.2.2.2.2.2.2.2.2.2.2.2.1 c.2.2.2.2.2.2.2.2.2.2.2.2.2.2.2.2.2.2.2.2.2.2.2.2.2.2.2.1 c.2.2.2.2.2.2.2.2.2.2.2.2.2.2.2.2.2.2.2.2.2.2.2.2.2.2.2.2.1 en_m d.2.2.2.2.2.2.2.2.1 d.2.2.2.2.2.2.2.2.2.2.2.2.2.2.2.1
theorem r4_0 {n : Nat} (h : n ≤ 8) : Int32.toNatClampNeg (4 * nI n) = 4 * n := by
  rw [show (4 : Int32) * nI n = nI (4 * n) from pk_mul 4 n]; exact cl_nI (by omega)
theorem r4_1 {n : Nat} (h : n ≤ 8) : Int32.toNatClampNeg ((4 * nI n) + 1) = 4 * n + 1 := by
  rw [show (4 : Int32) * nI n + 1 = nI (4 * n + 1) by rw [show (4 : Int32) * nI n = nI (4 * n) from pk_mul 4 n]; exact nI_add _ 1]; exact cl_nI (by omega)
theorem r4_2 {n : Nat} (h : n ≤ 8) : Int32.toNatClampNeg ((4 * nI n) + 2) = 4 * n + 2 := by
  rw [show (4 : Int32) * nI n + 2 = nI (4 * n + 2) by rw [show (4 : Int32) * nI n = nI (4 * n) from pk_mul 4 n]; exact nI_add _ 2]; exact cl_nI (by omega)
theorem r4_3 {n : Nat} (h : n ≤ 8) : Int32.toNatClampNeg ((4 * nI n) + 3) = 4 * n + 3 := by
  rw [show (4 : Int32) * nI n + 3 = nI (4 * n + 3) by rw [show (4 : Int32) * nI n = nI (4 * n) from pk_mul 4 n]; exact nI_add _ 3]; exact cl_nI (by omega)
def AlS (rules : Nat → Int32) (en en_m kn : Int32) (keys lab : Nat → Int32) (n : Nat) (ms : Int32) (A : Int32 × Int32 × Int32 × Int32 × Int32 × Int32 × Int32 × (Nat → Int32) × (Nat → Int32) × (Nat → Int32) × (Nat → Int32) × (Nat → Int32) × (Nat → Int32) × (Nat → Int32) × (Nat → Int32)) : Prop := (A.1 = 0 ∧ f_Mo_isAllowed (nI n) rules lab = 0 ∧ f_Mo_isKnown kn (nI n) keys lab = 0 ∧ A.2.1 = ms + 1 ∧ A.2.2.1 = 0 ∧ RCache rules en A.2.2.2.2.2.1 A.2.2.2.2.2.2.1 A.2.2.2.2.2.2.2.1 A.2.2.2.2.2.2.2.2.1 A.2.2.2.2.2.2.2.2.2.1 A.2.2.2.2.2.2.2.2.2.2.1 A.2.2.2.2.2.2.2.2.2.2.2.1 A.2.2.2.2.2.2.2.2.2.2.2.2.1 A.2.2.2.2.2.2.2.2.2.2.2.2.2.1 en_m kn keys) ∨ (A.1 = 1 ∧ f_Mo_isAllowed (nI n) rules lab = 1 ∧ A.2.2.1 = 0 ∧ A.2.2.2.1 = f_Mo_join lab (rules (Int32.toNatClampNeg (4 * nI n))) ∧ A.2.2.2.2.1 = f_Mo_join lab (rules (Int32.toNatClampNeg ((4 * nI n) + 1))) ∧ ((f_Mo_isKnown kn (nI n) keys lab = 0 ∧ A.2.1 = ms + 1 ∧ RCache rules en A.2.2.2.2.2.1 A.2.2.2.2.2.2.1 A.2.2.2.2.2.2.2.1 A.2.2.2.2.2.2.2.2.1 A.2.2.2.2.2.2.2.2.2.1 A.2.2.2.2.2.2.2.2.2.2.1 A.2.2.2.2.2.2.2.2.2.2.2.1 A.2.2.2.2.2.2.2.2.2.2.2.2.1 A.2.2.2.2.2.2.2.2.2.2.2.2.2.1 en_m (f_Mo_install en_m kn (nI n) keys lab).1 (f_Mo_install en_m kn (nI n) keys lab).2) ∨ (f_Mo_isKnown kn (nI n) keys lab = 1 ∧ A.2.1 = ms ∧ RCache rules en A.2.2.2.2.2.1 A.2.2.2.2.2.2.1 A.2.2.2.2.2.2.2.1 A.2.2.2.2.2.2.2.2.1 A.2.2.2.2.2.2.2.2.2.1 A.2.2.2.2.2.2.2.2.2.2.1 A.2.2.2.2.2.2.2.2.2.2.2.1 A.2.2.2.2.2.2.2.2.2.2.2.2.1 A.2.2.2.2.2.2.2.2.2.2.2.2.2.1 en_m kn keys)))
set_option maxHeartbeats 2000000 in
theorem al_rel {code rules : Nat → Int32} (hk : RKern code rules) {en kc ko en_m kn : Int32} {gg ps xs ys mz rs ns keys : Nat → Int32} (hc : RCache rules en kc ko gg ps xs ys mz rs ns en_m kn keys) {n : Nat} (hn : n ≤ 8) (p x y m : Int32) (lab : Nat → Int32) (l0 : lab 0 = p) (l1 : lab 1 = x) (l2 : lab 2 = y) (l3 : lab 3 = m) (ms rl nl : Int32) (sls : Nat → Int32) : AlS rules en en_m kn keys lab n ms (f_Co_isAllowed ms 0 rl nl en kc ko gg (nI n) p x y m ps xs ys mz rs ns sls code) := by
  have hJ : ∀ r : Int32, f_Mo_join lab r = jn p x y m r := fun r => by rw [jn_of, l0, l1, l2, l3]
  unfold AlS f_Mo_isAllowed
  rw [r4_0 hn, r4_1 hn, r4_2 hn, r4_3 hn, hJ, hJ, hJ, hJ]
  unfold f_Co_isAllowed f_Co_isAllowedByKernel
  rcases kq_find hc hn p x y m lab l0 l1 l2 l3 with ⟨F, K⟩ | ⟨a, ha, F, K, r1, r2, al⟩
  · obtain ⟨w1, w2, w3, w4⟩ := hk n hn p x y m sls
    generalize f_Ke_workOut (nI n) p x y m sls code = W at w1 w2 w3 w4 ⊢
    simp only [if_pos F, if_pos w1]
    by_cases hB : (jn p x y m (rules (4 * n + 2)) &&& (jn p x y m (rules (4 * n + 3)) ^^^ (-1))) = 0
    · have ea : ¬ f_Ke_allows W.2 = 0 := by unfold f_Ke_allows; rw [c_6, w4, if_pos hB]; decide
      simp only [if_neg ea, if_pos hB, c_4, c_5]
      obtain ⟨_, q⟩ := kq_put hc hn p x y m lab l0 l1 l2 l3 (W.2 4) (W.2 5) w2 w3 hB
      exact Or.inr ⟨by first | rfl | trivial, by first | rfl | trivial, by first | rfl | trivial, w2, w3, Or.inl ⟨K, by first | rfl | trivial, q⟩⟩
    · have ea : f_Ke_allows W.2 = 0 := by unfold f_Ke_allows; rw [c_6, w4, if_neg hB]
      simp only [if_pos ea, if_neg hB]
      exact Or.inl ⟨by first | rfl | trivial, by first | rfl | trivial, K, by first | rfl | trivial, by first | rfl | trivial, hc⟩
  · have hF : ¬ f_Kc_find kc gg (nI n) p x y m ps xs ys mz = (-1) := by
      rw [F]
      intro hh
      exact absurd (show nI a < 0 by rw [hh]; decide) (nI_pos (by omega))
    simp only [if_neg hF, if_pos al]
    rw [F, cl_nI (show a < 2 ^ 31 by omega)]
    exact Or.inr ⟨by first | rfl | trivial, by first | rfl | trivial, by first | rfl | trivial, r1, r2, Or.inr ⟨K, by first | rfl | trivial, hc⟩⟩
theorem kp_rel {rn rlb mr mrl : Nat → Int32} (hb : RBank 32 rn rlb mr mrl) (w v b : Int32) : RBank 32 (f_Co_keep b rn rlb w v).1 (f_Co_keep b rn rlb w v).2 (f_Mo_put mr mrl (f_Mo_d w) v b).1 (f_Mo_put mr mrl (f_Mo_d w) v b).2 := by
  unfold f_Co_keep f_Mo_put
  rw [eq_D]
  obtain ⟨j, hj, e⟩ := pk_andE (w >>> ((7 : Int32) &&& 31)) (m := 31) 5 (by decide)
  have e : f_Mo_d w = nI j := e
  rw [e]
  rcases Nat.eq_zero_or_pos j with h | h
  · subst h
    rw [if_pos (show nI 0 = 0 from rfl), if_pos (show nI 0 ≤ 0 by decide)]
    exact hb
  · rw [if_neg (nI_ne0 h (by omega)), if_neg (nI_nle h (by omega))]
    exact bk_put hb _ _ _
def PfS (wroom : Int32) (wnum wlab : Nat → Int32) (groom gfirst N : Int32) (p : Int32 × (Nat → Int32) × (Nat → Int32) × (Nat → Int32) × (Nat → Int32) × Int32 × (Nat → Int32) × (Nat → Int32) × Int32 × Int32) (o : Int32 × Int32 × Int32 × Int32 × (Nat → Int32) × (Nat → Int32) × (Nat → Int32) × (Nat → Int32) × (Nat → Int32) × (Nat → Int32) × (Nat → Int32) × (Nat → Int32)) : Prop := p.1 = o.1 ∧ o.2.1 = N ∧ RBank 32 p.2.1 p.2.2.1 o.2.2.2.2.2.2.1 o.2.2.2.2.2.2.2.1 ∧ RBank 64 p.2.2.2.1 p.2.2.2.2.1 o.2.2.2.2.2.2.2.2.2.2.1 o.2.2.2.2.2.2.2.2.2.2.2 ∧ RWait wroom p.2.2.2.2.2.2.2.2.1 p.2.2.2.2.2.2.2.2.2 wnum wlab o.2.2.1 o.2.2.2.2.1 o.2.2.2.2.2.1 ∧ RGone groom gfirst p.2.2.2.2.2.1 p.2.2.2.2.2.2.1 p.2.2.2.2.2.2.2.1 o.2.2.2.1 o.2.2.2.2.2.2.2.2.1 o.2.2.2.2.2.2.2.2.2.1
set_option maxHeartbeats 2000000 in
theorem pf_rel {pc wroom wf wc groom gfirst gc : Int32} {rn rlb wlab sl sn gn gl wnum : Nat → Int32} {wt we : Int32} {mrl mwl mr mml mw mo mol mm : Nat → Int32} (hb : RBank 32 rn rlb mr mrl) (hs : RBank 64 sn sl mm mml) (hw : RWait wroom wf wc wnum wlab wt mw mwl) (hg : RGone groom gfirst gc gn gl we mo mol) {n : Nat} (hn : n ≤ 8) {w : Int32} (hgr : f_Mo_groupOf w = nI n) (hm : ¬ f_Mo_isMemory (nI n) = 0 → ∃ A : Nat, A < 256 ∧ f_Mo_address mr w = nI (4096 + A)) (h7 : nI n = 7 → ¬ we = 256) (h8 : nI n = 8 → ¬ wt = 0) (R N : Int32) : PfS wroom wnum wlab groom gfirst N (f_Co_perform pc R rn rlb sn sl groom gfirst gc gn gl wroom wf wc wnum w (nI n) (f_Co_addressOf rn w (nI n))) (st_Mo_obey_42 pc wt we (nI n) mw mwl mr mrl mo mol mm mml w R N) := by
  have hA : rn (Int32.toNatClampNeg (f_Mo_a w)) = mr (Int32.toNatClampNeg (f_Mo_a w)) := (hb _ (ix5 _)).1
  have hbn : ∀ i, i < 32 → rn i = mr i := fun i hi => (hb i hi).1
  have hsn : ∀ i, i < 64 → sn i = mm i := fun i hi => (hs i hi).1
  have hcase := g_case w
  have hj : n = 0 ∨ n = 1 ∨ n = 2 ∨ n = 3 ∨ n = 4 ∨ n = 5 ∨ n = 6 ∨ n = 7 ∨ n = 8 := by omega
  unfold f_Co_perform st_Mo_obey_42
  rcases hj with rfl | rfl | rfl | rfl | rfl | rfl | rfl | rfl | rfl
  · simp only [if_pos (show nI 0 = 0 from rfl)]
    rw [eq_work hbn hgr]
    exact ⟨rfl, rfl, kp_rel hb _ _ _, hs, hw, hg⟩
  · simp only [if_neg (show ¬ nI 1 = 0 by decide), if_pos (show nI 1 = 1 from rfl)]
    obtain ⟨A, hA', e⟩ := hm (by decide)
    rw [eq_addr hbn hgr (Or.inl rfl), e, eq_load hsn hgr hA' e]
    exact ⟨rfl, rfl, kp_rel hb _ _ _, hs, hw, hg⟩
  · simp only [if_neg (show ¬ nI 2 = 0 by decide), if_neg (show ¬ nI 2 = 1 by decide), if_pos (show nI 2 = 2 from rfl), if_neg (show ¬ (4 : Int32) ≤ nI 2 by decide)]
    obtain ⟨A, hA', e⟩ := hm (by decide)
    rw [eq_addr hbn hgr (Or.inr (Or.inl rfl)), e]
    have q := eq_store (g := 2) hbn hs hA' e R (Or.inl rfl)
    rw [if_pos rfl] at q
    exact ⟨rfl, rfl, hb, q, hw, hg⟩
  · simp only [if_neg (show ¬ nI 3 = 0 by decide), if_neg (show ¬ nI 3 = 1 by decide), if_neg (show ¬ nI 3 = 2 by decide), if_pos (show nI 3 = 3 from rfl), if_neg (show ¬ (4 : Int32) ≤ nI 3 by decide)]
    obtain ⟨A, hA', e⟩ := hm (by decide)
    rw [eq_addr hbn hgr (Or.inr (Or.inr rfl)), e]
    have q := eq_store (g := 3) hbn hs hA' e R (Or.inr rfl)
    rw [if_neg (by decide)] at q
    exact ⟨rfl, rfl, hb, q, hw, hg⟩
  · simp only [if_neg (show ¬ nI 4 = 0 by decide), if_neg (show ¬ nI 4 = 1 by decide), if_neg (show ¬ nI 4 = 2 by decide), if_neg (show ¬ nI 4 = 3 by decide), if_pos (show nI 4 = 4 from rfl), if_pos (show (4 : Int32) ≤ nI 4 by decide)]
    rw [hgr] at hcase
    have hF : ¬ f_Mo_f w = 2 ∧ ¬ f_Mo_f w = 3 := by
      rcases hcase with ⟨e, -⟩ | ⟨e, -⟩ | ⟨e, -⟩ | ⟨e, -⟩ | ⟨e, -⟩ | ⟨e, -⟩ | ⟨e, -⟩ | ⟨-, c, f⟩ | ⟨e, -⟩ | ⟨e, -⟩ | ⟨e, -⟩ | ⟨e, -⟩ | ⟨e, -⟩ | e
      all_goals first
        | exact absurd e (by decide)
        | exact f
    rw [eq_holds hbn hF.1 hF.2, eq_br]
    by_cases hh : f_Mo_holds mr w = 0
    · rw [if_pos hh, if_pos hh]
      exact ⟨rfl, rfl, hb, hs, hw, hg⟩
    · rw [if_neg hh, if_neg hh]
      exact ⟨rfl, rfl, hb, hs, hw, hg⟩
  · simp only [if_neg (show ¬ nI 5 = 0 by decide), if_neg (show ¬ nI 5 = 1 by decide), if_neg (show ¬ nI 5 = 2 by decide), if_neg (show ¬ nI 5 = 3 by decide), if_neg (show ¬ nI 5 = 4 by decide), if_pos (show nI 5 = 5 from rfl), if_pos (show (4 : Int32) ≤ nI 5 by decide)]
    rw [eq_ca]
    exact ⟨rfl, rfl, kp_rel hb _ _ _, hs, hw, hg⟩
  · simp only [if_neg (show ¬ nI 6 = 0 by decide), if_neg (show ¬ nI 6 = 1 by decide), if_neg (show ¬ nI 6 = 2 by decide), if_neg (show ¬ nI 6 = 3 by decide), if_neg (show ¬ nI 6 = 4 by decide), if_neg (show ¬ nI 6 = 5 by decide), if_pos (show nI 6 = 6 from rfl), if_pos (show (4 : Int32) ≤ nI 6 by decide)]
    rw [eq_A, hA]
    exact ⟨rfl, rfl, kp_rel hb _ _ _, hs, hw, hg⟩
  · simp only [if_neg (show ¬ nI 7 = 0 by decide), if_neg (show ¬ nI 7 = 1 by decide), if_neg (show ¬ nI 7 = 2 by decide), if_neg (show ¬ nI 7 = 3 by decide), if_neg (show ¬ nI 7 = 4 by decide), if_neg (show ¬ nI 7 = 5 by decide), if_neg (show ¬ nI 7 = 6 by decide), if_pos (show nI 7 = 7 from rfl), if_pos (show (4 : Int32) ≤ nI 7 by decide)]
    rw [eq_A, hA]
    exact ⟨rfl, rfl, hb, hs, hw, (go_put hg (h7 rfl) _ _).2.2⟩
  · simp only [if_neg (show ¬ nI 8 = 0 by decide), if_neg (show ¬ nI 8 = 1 by decide), if_neg (show ¬ nI 8 = 2 by decide), if_neg (show ¬ nI 8 = 3 by decide), if_neg (show ¬ nI 8 = 4 by decide), if_neg (show ¬ nI 8 = 5 by decide), if_neg (show ¬ nI 8 = 6 by decide), if_neg (show ¬ nI 8 = 7 by decide), if_pos (show (4 : Int32) ≤ nI 8 by decide)]
    obtain ⟨t1, t2, t3⟩ := wt_take hw (h8 rfl)
    rw [t1]
    exact ⟨rfl, rfl, kp_rel hb _ _ _, hs, t3, hg⟩
set_option maxHeartbeats 4000000 in
theorem r_108 {pc pl dn ms rl nl wroom wf wc groom gfirst gc ag ap ax ay am en kc ko : Int32} {rn rlb wlab sl gg ps xs ys mz rs ns sls code sn gn gl wnum : Nat → Int32} {en_m oc wt we kn : Int32} {lab mrl mwl mr mml rules keys mw mo mol mm : Nat → Int32} (hk : RKern code rules) (hb : RBank 32 rn rlb mr mrl) (hs : RBank 64 sn sl mm mml) (hw : RWait wroom wf wc wnum wlab wt mw mwl) (hg : RGone groom gfirst gc gn gl we mo mol) (hc : RCache rules en kc ko gg ps xs ys mz rs ns en_m kn keys) {n : Nat} (hn : n ≤ 8) {w : Int32} (hgr : f_Mo_groupOf w = nI n) (hm : ¬ f_Mo_isMemory (nI n) = 0 → ∃ A : Nat, A < 256 ∧ f_Mo_address mr w = nI (4096 + A)) : RelS rules wroom wnum wlab groom gfirst en en_m oc (st_Co_step_108 0 pc pl dn ms 0 rl nl rn wroom wf wc groom gfirst gc ag ap ax ay am rlb wlab sl en kc ko gg ps xs ys mz rs ns sls code sn gn gl wnum (f_Co_addressOf rn w (nI n)) (nI n) w) (st_Mo_step_119 en_m oc pc pl wt we dn ms kn lab mrl mwl mr mml rules keys mw mo mol mm (nI n) w) := by
  have hgoW : (nI n = 7 → ¬ we = 256) ∧ (nI n = 8 → ¬ wt = 0) ∨ ¬ f_Co_mustWait wc groom gc (nI n) = 0 ∧ (st_Mo_step_119 en_m oc pc pl wt we dn ms kn lab mrl mwl mr mml rules keys mw mo mol mm (nI n) w) = (0, oc, pc, pl, wt, we, dn, ms, kn, nI n, lab, mrl, mwl, mr, mml, keys, mw, mo, mol, mm) := by
    unfold f_Co_mustWait st_Mo_step_119
    obtain ⟨-, e2⟩ := wt_room hw
    have e3 := go_full hg
    by_cases h7 : nI n = 7
    · rw [if_pos h7, if_pos h7]
      by_cases hf : we = 256
      · have : ¬ f_Li_isFull groom gc = 0 := fun h => absurd hf (e3.mp h)
        rw [if_neg this, if_pos hf]
        exact Or.inr ⟨by decide, rfl⟩
      · exact Or.inl ⟨fun _ => hf, fun h8 => absurd (h7.symm.trans h8) (by decide)⟩
    · rw [if_neg h7, if_neg h7]
      by_cases h8 : nI n = 8
      · rw [if_pos h8, if_pos h8, e2]
        by_cases hz : wt = 0
        · rw [if_pos hz, if_pos hz]
          exact Or.inr ⟨by decide, rfl⟩
        · exact Or.inl ⟨fun h => absurd h h7, fun _ => hz⟩
      · exact Or.inl ⟨fun h => absurd h h7, fun h => absurd h h8⟩
  rcases hgoW with ⟨h7, h8⟩ | ⟨hmw, e⟩
  · have hmw : f_Co_mustWait wc groom gc (nI n) = 0 := by
      unfold f_Co_mustWait
      obtain ⟨-, e2⟩ := wt_room hw
      have e3 := go_full hg
      by_cases a7 : nI n = 7
      · rw [if_pos a7, if_pos (e3.mpr (h7 a7)), if_neg (fun a8 => absurd (a7.symm.trans a8) (by decide))]
      · rw [if_neg a7]
        by_cases a8 : nI n = 8
        · rw [if_pos a8, e2, if_neg (h8 a8)]
        · rw [if_neg a8]
    have e119 : (st_Mo_step_119 en_m oc pc pl wt we dn ms kn lab mrl mwl mr mml rules keys mw mo mol mm (nI n) w) = (st_Mo_step_156 en_m oc pc pl wt we dn ms kn lab mrl mwl mr mml rules keys mw mo mol mm (nI n) w) := by
      unfold st_Mo_step_119
      by_cases a7 : nI n = 7
      · rw [if_pos a7, if_neg (h7 a7), if_neg (fun a8 => absurd (a7.symm.trans a8) (by decide))]
      · rw [if_neg a7]
        by_cases a8 : nI n = 8
        · rw [if_pos a8, if_neg (h8 a8)]
        · rw [if_neg a8]
    rw [e119]
    have al := al_rel hk hc hn pl (cu_Co_ask_45 w rlb) (cu_Co_ask_74 w rlb) (f_Co_ask wf wlab sl (nI n) (f_Co_addressOf rn w (nI n))) (f_Mo_takeLabels pl (nI n) lab mrl mwl mr mml w) rfl (eq_askA hn hgr (fun i hi => (hb i hi).2)).symm (eq_askB hn hgr (fun i hi => (hb i hi).2)).symm (eq_askM hn hgr (fun i hi => (hb i hi).1) (fun i hi => (hs i hi).2) hm (fun a8 => (wt_take hw (h8 a8)).2.1)).symm ms rl nl sls
    have pf := pf_rel (pc := pc) hb hs hw hg hn hgr hm h7 h8
    unfold st_Co_step_108
    rw [if_pos hmw]
    unfold st_Mo_step_156 st_Mo_step_161 st_Mo_step_166
    generalize (f_Co_isAllowed ms 0 rl nl en kc ko gg (nI n) pl (cu_Co_ask_45 w rlb) (cu_Co_ask_74 w rlb) (f_Co_ask wf wlab sl (nI n) (f_Co_addressOf rn w (nI n))) ps xs ys mz rs ns sls code) = A at al ⊢
    generalize (f_Mo_takeLabels pl (nI n) lab mrl mwl mr mml w) = lb at al ⊢
    rcases al with ⟨a1, a2, a3, a4, a5, a6⟩ | ⟨a1, a2, a3, a4, a5, ⟨a6, a7, a8⟩ | ⟨a6, a7, a8⟩⟩
    · rw [if_pos a1, a2, if_pos a3, if_pos rfl]
      unfold st_Mo_step_191
      rw [if_pos rfl]
      exact ⟨rfl, Or.inl rfl, rfl, rfl, rfl, a4, a5, hb, hs, hw, hg, a6⟩
    · rw [if_neg (by rw [a1]; decide), a2, if_pos a6, if_neg (by decide)]
      unfold st_Co_step_139 st_Mo_step_191 f_Mo_obey
      rw [if_neg (by decide), ← a4, ← a5]
      obtain ⟨p1, p2, p3, p4, p5, p6⟩ := pf A.2.2.2.1 A.2.2.2.2.1
      exact ⟨rfl, Or.inr ⟨rfl, rfl⟩, p1, p2.symm, rfl, a7, a3, p3, p4, p5, p6, a8⟩
    · rw [if_neg (by rw [a1]; decide), a2, if_neg (by rw [a6]; decide)]
      unfold st_Co_step_139 st_Mo_step_191 f_Mo_obey
      rw [if_neg (by decide), ← a4, ← a5]
      obtain ⟨p1, p2, p3, p4, p5, p6⟩ := pf A.2.2.2.1 A.2.2.2.2.1
      exact ⟨rfl, Or.inr ⟨rfl, rfl⟩, p1, p2.symm, rfl, a7, a3, p3, p4, p5, p6, a8⟩
  · rw [e]
    unfold st_Co_step_108
    rw [if_neg hmw]
    exact ⟨rfl, Or.inr ⟨rfl, rfl⟩, rfl, rfl, rfl, rfl, rfl, hb, hs, hw, hg, hc⟩
set_option maxHeartbeats 4000000 in
theorem r_46 {pc pl dn ms rl nl wroom wf wc groom gfirst gc ag ap ax ay am en kc ko : Int32} {rn rlb wlab sl gg ps xs ys mz rs ns sls code sn gn gl wnum : Nat → Int32} {en_m oc wt we kn : Int32} {lab mrl mwl mr mml rules keys mw mo mol mm : Nat → Int32} (hk : RKern code rules) (hb : RBank 32 rn rlb mr mrl) (hs : RBank 64 sn sl mm mml) (hw : RWait wroom wf wc wnum wlab wt mw mwl) (hg : RGone groom gfirst gc gn gl we mo mol) (hc : RCache rules en kc ko gg ps xs ys mz rs ns en_m kn keys) (w : Int32) : RelS rules wroom wnum wlab groom gfirst en en_m oc (st_Co_step_46 0 pc pl dn ms 0 rl nl rn wroom wf wc groom gfirst gc ag ap ax ay am rlb wlab sl en kc ko gg ps xs ys mz rs ns sls code sn gn gl wnum w) (st_Mo_step_48 en_m oc pc pl wt we dn ms kn lab mrl mwl mr mml rules keys mw mo mol mm w) := by
  unfold st_Co_step_46 st_Mo_step_48 st_Co_step_51 st_Mo_step_56
  rcases g_num w with h | h | ⟨n, hn, h⟩
  · have e : f_Cd_groupOf w = 10 := by rw [eq_group, h, if_pos rfl]
    rw [e, h, if_pos (show (10 : Int32) = 10 from rfl), if_pos (show (-1 : Int32) < 0 by decide), if_neg (show ¬ (0 : Int32) ≤ -1 by decide)]
    exact ⟨rfl, Or.inl rfl, rfl, rfl, rfl, rfl, rfl, hb, hs, hw, hg, hc⟩
  · have e : f_Cd_groupOf w = 9 := by rw [eq_group, h, if_neg (by decide)]
    rw [e, h, if_neg (show ¬ (9 : Int32) = 10 by decide), if_pos (show (9 : Int32) = 9 from rfl), if_neg (show ¬ (9 : Int32) < 0 by decide), if_pos (show (9 : Int32) = 9 from rfl), if_pos (show (0 : Int32) ≤ 9 by decide)]
    exact ⟨rfl, Or.inl rfl, rfl, rfl, rfl, rfl, rfl, hb, hs, hw, hg, hc⟩
  · have e : f_Cd_groupOf w = nI n := by rw [eq_group, h, if_neg (fun hh => absurd (show nI n < 0 by rw [hh]; decide) (nI_pos (by omega)))]
    have n10 : ¬ nI n = 10 := fun hh => by have := (nI_eq (a := n) (b := 10) (by omega) (by omega)).mp hh; omega
    have n9 : ¬ nI n = 9 := fun hh => by have := (nI_eq (a := n) (b := 9) (by omega) (by omega)).mp hh; omega
    rw [e, h, if_neg n10, if_neg n9, if_neg (nI_pos (by omega)), if_neg n9]
    unfold st_Co_step_83
    rw [eq_uses n hn]
    by_cases hu : f_Mo_isMemory (nI n) = 0
    · rw [if_pos hu, if_pos hu]
      exact r_108 hk hb hs hw hg hc hn h (fun hh => absurd hu hh)
    · rw [if_neg hu, if_neg hu]
      have ha := eq_addr (fun i hi => (hb i hi).1) h (uses_of n hn hu)
      have hl := eq_lies (mn := mr) h (uses_of n hn hu)
      rw [← ha] at hl
      by_cases hz : f_Co_liesInMemory (f_Co_addressOf rn w (nI n)) (f_Cd_isWhole w) = 0
      · rw [if_pos hz, if_neg (hl.mp hz)]
        exact ⟨rfl, Or.inl rfl, rfl, rfl, rfl, rfl, rfl, hb, hs, hw, hg, hc⟩
      · have hz' : f_Mo_isWrong mr w (nI n) = 0 := by
          by_cases hq : f_Mo_isWrong mr w (nI n) = 0
          · exact hq
          · exact absurd (hl.mpr hq) hz
        rw [if_neg hz, if_pos hz']
        obtain ⟨A, hA, eA⟩ := a_ok hz
        exact r_108 hk hb hs hw hg hc hn h (fun _ => ⟨A, hA, by rw [← ha]; exact eA⟩)
theorem pc_neg {pc : Int32} {k : Nat} (hk : k ≤ 256) (h : pc < 0) : ¬ jU pc 2 < nI k := by
  have hx := iN_lt pc
  have h1 := Int32.lt_iff_toInt_lt.mp h
  have h0 : (0 : Int32).toInt = 0 := by decide
  have h2 := iN_int pc
  have h3 : 2147483648 ≤ iN pc := by
    by_cases hc : 2 * iN pc < 4294967296
    · rw [if_pos hc] at h2; omega
    · omega
  have e : jU pc 2 = nI (iN pc / 4) := by
    have := pk_ushrN (n := iN pc) (by omega) 2 2 (by decide)
    rw [← iN_of pc] at this
    exact this
  rw [e]
  exact nI_nlt (by omega) (by omega)
set_option maxHeartbeats 4000000 in
theorem st_rel {words pc pl dn ms rl nl wroom wf wc groom gfirst gc ag ap ax ay am en kc ko : Int32} {program rn rlb wlab sl gg ps xs ys mz rs ns sls code sn gn gl wnum : Nat → Int32} {size en_m oc wt we kn gp : Int32} {mwords lab mrl mwl mr mml rules keys mw mo mol mm : Nat → Int32} (hp : RProg words program size mwords) (hk : RKern code rules) (hb : RBank 32 rn rlb mr mrl) (hs : RBank 64 sn sl mm mml) (hw : RWait wroom wf wc wnum wlab wt mw mwl) (hg : RGone groom gfirst gc gn gl we mo mol) (hc : RCache rules en kc ko gg ps xs ys mz rs ns en_m kn keys) : RelS rules wroom wnum wlab groom gfirst en en_m oc (f_Co_step words 0 pc pl dn ms 0 rl nl program rn wroom wf wc groom gfirst gc ag ap ax ay am rlb wlab sl en kc ko gg ps xs ys mz rs ns sls code sn gn gl wnum) (f_Mo_step size en_m oc pc pl wt we dn ms kn gp mwords lab mrl mwl mr mml rules keys mw mo mol mm) := by
  obtain ⟨k, hk256, rfl, rfl, hpw⟩ := hp
  unfold f_Co_step f_Mo_step
  rw [if_pos (show (0 : Int32) = 0 from rfl)]
  by_cases hneg : pc < 0
  · rw [if_pos hneg]
    by_cases h3 : (pc &&& 3) = 0
    · rw [if_pos h3, if_neg (pc_neg hk256 hneg)]
      exact ⟨rfl, Or.inl rfl, rfl, rfl, rfl, rfl, rfl, hb, hs, hw, hg, hc⟩
    · rw [if_neg h3]
      exact ⟨rfl, Or.inl rfl, rfl, rfl, rfl, rfl, rfl, hb, hs, hw, hg, hc⟩
  · rw [if_neg hneg]
    obtain ⟨n, hn, e⟩ := nI_of hneg
    have e1 : pc &&& 3 = nI (n % 4) := by rw [e]; exact pk_andN (n := n) (by omega) (m := 3) 2 (by decide)
    have e2 : pc - pc / 4 * 4 = nI (n % 4) := by rw [e]; exact pk_rem (a := n) (d := 4) hn (by omega) (by omega)
    have e3 : jU pc 2 = nI (n / 4) := by rw [e]; exact pk_ushrN (n := n) (by omega) 2 2 (by decide)
    have e4 : pc / 4 = nI (n / 4) := by rw [e]; exact pk_div (a := n) (d := 4) hn (by omega) (by omega)
    rw [e2, e1, e3, e4]
    by_cases h0 : nI (n % 4) = 0
    · rw [if_pos h0, if_pos h0]
      by_cases hl : nI (n / 4) < nI k
      · have hlt : n / 4 < k := (nI_ltI (by omega) (by omega)).mp hl
        rw [if_pos hl, if_pos hl, cl_nI (show n / 4 < 2 ^ 31 by omega), hpw _ hlt]
        exact r_46 hk hb hs hw hg hc _
      · rw [if_neg hl, if_neg hl]
        exact ⟨rfl, Or.inl rfl, rfl, rfl, rfl, rfl, rfl, hb, hs, hw, hg, hc⟩
    · rw [if_neg h0, if_neg h0]
      exact ⟨rfl, Or.inl rfl, rfl, rfl, rfl, rfl, rfl, hb, hs, hw, hg, hc⟩
