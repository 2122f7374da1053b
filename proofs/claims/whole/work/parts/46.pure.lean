-- the runs, here and there
abbrev MRT := Int32 × Int32 × Int32 × Int32 × Int32 × Int32 × Int32 × Int32 × Int32 × Int32 × Int32 × (Nat → Int32) × (Nat → Int32) × (Nat → Int32) × (Nat → Int32) × (Nat → Int32) × (Nat → Int32) × (Nat → Int32) × (Nat → Int32) × (Nat → Int32) × (Nat → Int32)
def RelR (rules : Nat → Int32) (wroom : Int32) (wnum wlab : Nat → Int32) (groom gfirst en en_m : Int32) (c : CT) (d : MRT) : Prop := c.1 = d.1 ∧ d.2.1 = 0 ∧ c.2.1 = d.2.2.1 ∧ c.2.2.1 = d.2.2.2.1 ∧ c.2.2.2.1 = d.2.2.2.2.1 ∧ c.2.2.2.2.1 = d.2.2.2.2.2.2.2.1 ∧ c.2.2.2.2.2.1 = d.2.2.2.2.2.2.2.2.1 ∧ c.2.2.2.2.2.2.1 = 0 ∧ RBank 32 c.2.2.2.2.2.2.2.2.2.1 c.2.2.2.2.2.2.2.2.2.2.2.2.2.2.2.2.2.2.1 d.2.2.2.2.2.2.2.2.2.2.2.2.2.2.1 d.2.2.2.2.2.2.2.2.2.2.2.2.1 ∧ RBank 64 c.2.2.2.2.2.2.2.2.2.2.2.2.2.2.2.2.2.2.2.2.2.2.2.2.2.2.2.2.2.2.1 c.2.2.2.2.2.2.2.2.2.2.2.2.2.2.2.2.2.2.2.1 d.2.2.2.2.2.2.2.2.2.2.2.2.2.2.2.2.2.2.2.2 d.2.2.2.2.2.2.2.2.2.2.2.2.2.2.2.1 ∧ RWait wroom c.2.2.2.2.2.2.2.2.2.2.1 c.2.2.2.2.2.2.2.2.2.2.2.1 wnum wlab d.2.2.2.2.2.1 d.2.2.2.2.2.2.2.2.2.2.2.2.2.2.2.2.2.1 d.2.2.2.2.2.2.2.2.2.2.2.2.2.1 ∧ RGone groom gfirst c.2.2.2.2.2.2.2.2.2.2.2.2.1 c.2.2.2.2.2.2.2.2.2.2.2.2.2.2.2.2.2.2.2.2.2.2.2.2.2.2.2.2.2.2.2.1 c.2.2.2.2.2.2.2.2.2.2.2.2.2.2.2.2.2.2.2.2.2.2.2.2.2.2.2.2.2.2.2.2 d.2.2.2.2.2.2.1 d.2.2.2.2.2.2.2.2.2.2.2.2.2.2.2.2.2.2.1 d.2.2.2.2.2.2.2.2.2.2.2.2.2.2.2.2.2.2.2.1 ∧ RCache rules en c.2.2.2.2.2.2.2.2.2.2.2.2.2.2.2.2.2.2.2.2.1 c.2.2.2.2.2.2.2.2.2.2.2.2.2.2.2.2.2.2.2.2.2.1 c.2.2.2.2.2.2.2.2.2.2.2.2.2.2.2.2.2.2.2.2.2.2.1 c.2.2.2.2.2.2.2.2.2.2.2.2.2.2.2.2.2.2.2.2.2.2.2.1 c.2.2.2.2.2.2.2.2.2.2.2.2.2.2.2.2.2.2.2.2.2.2.2.2.1 c.2.2.2.2.2.2.2.2.2.2.2.2.2.2.2.2.2.2.2.2.2.2.2.2.2.1 c.2.2.2.2.2.2.2.2.2.2.2.2.2.2.2.2.2.2.2.2.2.2.2.2.2.2.1 c.2.2.2.2.2.2.2.2.2.2.2.2.2.2.2.2.2.2.2.2.2.2.2.2.2.2.2.1 c.2.2.2.2.2.2.2.2.2.2.2.2.2.2.2.2.2.2.2.2.2.2.2.2.2.2.2.2.1 en_m d.2.2.2.2.2.2.2.2.2.1 d.2.2.2.2.2.2.2.2.2.2.2.2.2.2.2.2.1
set_option maxHeartbeats 4000000 in
theorem run_rel {words wroom groom gfirst en size en_m : Int32} {program wlab code wnum mwords rules : Nat → Int32} (hp : RProg words program size mwords) (hk : RKern code rules) (T : Nat) (hT : T ≤ 1000) : ∀ (fu i : Nat) (pc pl dn ms rl nl wf wc gc ag ap ax ay am kc ko oc wt we kn gp : Int32) (rn rlb sl gg ps xs ys mz rs ns sls sn gn gl lab mrl mwl mr mml keys mw mo mol mm : Nat → Int32), i ≤ T → 1001 ≤ i + fu → RBank 32 rn rlb mr mrl → RBank 64 sn sl mm mml → RWait wroom wf wc wnum wlab wt mw mwl → RGone groom gfirst gc gn gl we mo mol → RCache rules en kc ko gg ps xs ys mz rs ns en_m kn keys → RelR rules wroom wnum wlab groom gfirst en en_m (lp_Co_run_23 words wroom groom gfirst en program wlab code wnum (nI T) fu (nI i) oc pc pl dn ms 0 rl nl rn wf wc gc ag ap ax ay am rlb sl kc ko gg ps xs ys mz rs ns sls sn gn gl) (lp_Mo_run_22 size en_m mwords rules (nI T) fu (nI i) oc pc pl wt we dn ms kn gp lab mrl mwl mr mml keys mw mo mol mm) := by
  intro fu
  induction fu with
  | zero => intro i; intros; omega
  | succ fu ih =>
    intro i pc pl dn ms rl nl wf wc gc ag ap ax ay am kc ko oc wt we kn gp rn rlb sl gg ps xs ys mz rs ns sls sn gn gl lab mrl mwl mr mml keys mw mo mol mm hi hfu hb hs hw hg hc
    unfold lp_Co_run_23 lp_Mo_run_22
    by_cases hle : nI T ≤ nI i
    · rw [if_pos hle, if_pos hle]
      exact ⟨rfl, rfl, rfl, rfl, rfl, rfl, rfl, rfl, hb, hs, hw, hg, hc⟩
    · have hlt : i < T := by
        rcases Nat.lt_or_ge i T with h | h
        · exact h
        · exact absurd (nI_le h (by omega)) hle
      rw [if_neg hle, if_neg hle]
      by_cases ho : oc = 0
      · subst ho
        have st := st_rel (oc := 0) (gp := gp) (lab := lab) (dn := dn) (ms := ms) (pc := pc) (pl := pl) (rl := rl) (nl := nl) (ag := ag) (ap := ap) (ax := ax) (ay := ay) (am := am) (sls := sls) hp hk hb hs hw hg hc
        rw [if_pos (show (0 : Int32) = 0 from rfl)]
        generalize (f_Co_step words 0 pc pl dn ms 0 rl nl program rn wroom wf wc groom gfirst gc ag ap ax ay am rlb wlab sl en kc ko gg ps xs ys mz rs ns sls code sn gn gl wnum) = C at st ⊢
        generalize (f_Mo_step size en_m 0 pc pl wt we dn ms kn gp mwords lab mrl mwl mr mml rules keys mw mo mol mm) = M at st ⊢
        obtain ⟨c0, c1, c2, c3, c4, c5, c6, c7, c8, c9, c10, c11, c12, c13, c14, c15, c16, c17, c18, c19, c20, c21, c22, c23, c24, c25, c26, c27, c28, c29, c30, c31, c32⟩ := C
        obtain ⟨d0, d1, d2, d3, d4, d5, d6, d7, d8, d9, d10, d11, d12, d13, d14, d15, d16, d17, d18, d19⟩ := M
        obtain ⟨s1, s2, s3, s4, s5, s6, s7, s8, s9, s10, s11, s12⟩ := st
        have u2 : c1 = d1 := by
          rcases s2 with h | ⟨h1, h2⟩
          · exact h
          · exact h1.trans h2.symm
        have u1 : c0 = d0 := s1
        have u3 : c2 = d2 := s3
        have u4 : c3 = d3 := s4
        have u5 : c4 = d6 := s5
        have u6 : c5 = d7 := s6
        have u7 : c6 = 0 := s7
        clear s1 s2 s3 s4 s5 s6 s7
        subst u1 u2 u3 u4 u5 u6 u7
        dsimp only
        by_cases hr : c0 = 0
        · rw [if_pos hr, if_pos hr]
          exact ⟨rfl, rfl, rfl, rfl, rfl, rfl, rfl, rfl, s8, s9, s10, s11, s12⟩
        · rw [if_neg hr, if_neg hr, nI_1]
          exact ih (i + 1) _ _ _ _ _ _ _ _ _ _ _ _ _ _ _ _ _ _ _ _ _ _ _ _ _ _ _ _ _ _ _ _ _ _ _ _ _ _ _ _ _ _ _ _ _ (by omega) (by omega) s8 s9 s10 s11 s12
      · have e : (f_Co_step words oc pc pl dn ms 0 rl nl program rn wroom wf wc groom gfirst gc ag ap ax ay am rlb wlab sl en kc ko gg ps xs ys mz rs ns sls code sn gn gl wnum) = (0, oc, pc, pl, dn, ms, 0, rl, nl, rn, wf, wc, gc, ag, ap, ax, ay, am, rlb, sl, kc, ko, gg, ps, xs, ys, mz, rs, ns, sls, sn, gn, gl) := by
          unfold f_Co_step
          rw [if_neg ho]
        rw [e, if_neg ho]
        dsimp only
        rw [if_pos (show (0 : Int32) = 0 from rfl)]
        exact ⟨rfl, rfl, rfl, rfl, rfl, rfl, rfl, rfl, hb, hs, hw, hg, hc⟩
