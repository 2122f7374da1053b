-- the kernel: what its code for a group works out
theorem c_0 : Int32.toNatClampNeg 0 = 0 := by decide
theorem c_1 : Int32.toNatClampNeg 1 = 1 := by decide
theorem c_2 : Int32.toNatClampNeg 2 = 2 := by decide
theorem c_3 : Int32.toNatClampNeg 3 = 3 := by decide
theorem c_4 : Int32.toNatClampNeg 4 = 4 := by decide
theorem c_5 : Int32.toNatClampNeg 5 = 5 := by decide
theorem c_6 : Int32.toNatClampNeg 6 = 6 := by decide
theorem c_7 : Int32.toNatClampNeg 7 = 7 := by decide
def lab4 (p x y m : Int32) : Nat → Int32 := fun i => if i = 0 then p else if i = 1 then x else if i = 2 then y else m
def jn (p x y m mask : Int32) : Int32 := f_Mo_join (lab4 p x y m) mask
theorem jn_of (lab : Nat → Int32) (mask : Int32) : f_Mo_join lab mask = jn (lab 0) (lab 1) (lab 2) (lab 3) mask := by
  unfold jn f_Mo_join
  simp only [c_0, c_1, c_2, c_3]
  rfl
theorem bit01 (z : Int32) : (z &&& 1 = 0 ∧ ¬ z &&& 1 = 1) ∨ (¬ z &&& 1 = 0 ∧ z &&& 1 = 1) := by
  obtain ⟨j, hj, e⟩ := pk_andE z (m := 1) 1 (by decide)
  rw [e]
  have : j = 0 ∨ j = 1 := by omega
  rcases this with rfl | rfl
  · exact Or.inl ⟨by decide, by decide⟩
  · exact Or.inr ⟨by decide, by decide⟩
def jl (t mask : Int32) : List Int32 :=
  (if (mask >>> ((0 : Int32) &&& 31)) &&& 1 = 0 then [] else [f_Ke_instruction 1 t 0]) ++ ((if (mask >>> ((1 : Int32) &&& 31)) &&& 1 = 0 then [] else [f_Ke_instruction 1 t 1]) ++ ((if (mask >>> ((2 : Int32) &&& 31)) &&& 1 = 0 then [] else [f_Ke_instruction 1 t 2]) ++ (if (mask >>> ((3 : Int32) &&& 31)) &&& 1 = 0 then [] else [f_Ke_instruction 1 t 3])))
def wr : List Int32 → Nat → (Nat → Int32) → (Nat → Int32)
  | [], _, c => c
  | x :: r, a, c => wr r (a + 1) (upd c a x)
def ex1 (s : Nat → Int32) (i : Int32) : Nat → Int32 := (f_Ke_execute s i).2
def exL : List Int32 → (Nat → Int32) → (Nat → Int32)
  | [], s => s
  | i :: r, s => exL r (ex1 s i)
theorem wr_app (A B : List Int32) : ∀ (a : Nat) (c : Nat → Int32), wr (A ++ B) a c = wr B (a + A.length) (wr A a c) := by
  induction A with
  | nil => intro a c; rfl
  | cons x r ih =>
    intro a c
    show wr (r ++ B) (a + 1) (upd c a x) = wr B (a + (r.length + 1)) (wr r (a + 1) (upd c a x))
    rw [ih, show a + 1 + r.length = a + (r.length + 1) by omega]
theorem exL_app (A B : List Int32) : ∀ (s : Nat → Int32), exL (A ++ B) s = exL B (exL A s) := by
  induction A with
  | nil => intro s; rfl
  | cons x r ih => intro s; exact ih _
theorem wr_out (A : List Int32) : ∀ (a : Nat) (c : Nat → Int32) (i : Nat), (i < a ∨ a + A.length ≤ i) → wr A a c i = c i := by
  induction A with
  | nil => intro a c i _; rfl
  | cons x r ih =>
    intro a c i h
    have h : i < a ∨ a + (r.length + 1) ≤ i := h
    show wr r (a + 1) (upd c a x) i = c i
    rw [ih (a + 1) _ i (by omega), upd_ne _ _ (by omega)]
theorem wr_in (A : List Int32) : ∀ (a : Nat) (c : Nat → Int32) (j : Nat), j < A.length → wr A a c (a + j) = A.getD j 0 := by
  induction A with
  | nil => intro a c j h; exact absurd h (by simp)
  | cons x r ih =>
    intro a c j h
    show wr r (a + 1) (upd c a x) (a + j) = _
    cases j with
    | zero => rw [wr_out r (a + 1) _ (a + 0) (by omega)]; exact upd_same c a x
    | succ j =>
      have h : j + 1 < r.length + 1 := h
      rw [show a + (j + 1) = a + 1 + j by omega, ih (a + 1) _ j (by omega)]
      rfl
theorem jl_len (t mask : Int32) : (jl t mask).length ≤ 4 := by
  unfold jl
  simp only [List.length_append]
  have h (P : Prop) (hd : Decidable P) (x : Int32) : (if P then [] else [x]).length ≤ 1 := by
    by_cases e : P
    · rw [if_pos e]; exact Nat.zero_le _
    · rw [if_neg e]; exact Nat.le_refl _
  have a0 := h ((mask >>> ((0 : Int32) &&& 31)) &&& 1 = 0) inferInstance (f_Ke_instruction 1 t 0)
  have a1 := h ((mask >>> ((1 : Int32) &&& 31)) &&& 1 = 0) inferInstance (f_Ke_instruction 1 t 1)
  have a2 := h ((mask >>> ((2 : Int32) &&& 31)) &&& 1 = 0) inferInstance (f_Ke_instruction 1 t 2)
  have a3 := h ((mask >>> ((3 : Int32) &&& 31)) &&& 1 = 0) inferInstance (f_Ke_instruction 1 t 3)
  omega
theorem wj_spec (code : Nat → Int32) (a : Nat) (ha : a < 1000) (t mask : Int32) : f_Ke_writeJoins code (nI a) t mask = (nI (a + (jl t mask).length), wr (jl t mask) a code) := by
  have c0 : Int32.toNatClampNeg (nI a) = a := cl_nI (by omega)
  have c1 : Int32.toNatClampNeg (nI (a + 1)) = a + 1 := cl_nI (by omega)
  have c2 : Int32.toNatClampNeg (nI (a + 1 + 1)) = a + 1 + 1 := cl_nI (by omega)
  have c3 : Int32.toNatClampNeg (nI (a + 1 + 1 + 1)) = a + 1 + 1 + 1 := cl_nI (by omega)
  unfold f_Ke_writeJoins jl
  generalize (mask >>> ((0 : Int32) &&& 31)) &&& 1 = b0
  generalize (mask >>> ((1 : Int32) &&& 31)) &&& 1 = b1
  generalize (mask >>> ((2 : Int32) &&& 31)) &&& 1 = b2
  generalize (mask >>> ((3 : Int32) &&& 31)) &&& 1 = b3
  by_cases h0 : b0 = 0
  · by_cases h1 : b1 = 0
    · by_cases h2 : b2 = 0
      · by_cases h3 : b3 = 0
        · simp only [if_pos h0, if_pos h1, if_pos h2, if_pos h3, nI_1, c0, c1, c2, c3]; rfl
        · simp only [if_pos h0, if_pos h1, if_pos h2, if_neg h3, nI_1, c0, c1, c2, c3]; rfl
      · by_cases h3 : b3 = 0
        · simp only [if_pos h0, if_pos h1, if_neg h2, if_pos h3, nI_1, c0, c1, c2, c3]; rfl
        · simp only [if_pos h0, if_pos h1, if_neg h2, if_neg h3, nI_1, c0, c1, c2, c3]; rfl
    · by_cases h2 : b2 = 0
      · by_cases h3 : b3 = 0
        · simp only [if_pos h0, if_neg h1, if_pos h2, if_pos h3, nI_1, c0, c1, c2, c3]; rfl
        · simp only [if_pos h0, if_neg h1, if_pos h2, if_neg h3, nI_1, c0, c1, c2, c3]; rfl
      · by_cases h3 : b3 = 0
        · simp only [if_pos h0, if_neg h1, if_neg h2, if_pos h3, nI_1, c0, c1, c2, c3]; rfl
        · simp only [if_pos h0, if_neg h1, if_neg h2, if_neg h3, nI_1, c0, c1, c2, c3]; rfl
  · by_cases h1 : b1 = 0
    · by_cases h2 : b2 = 0
      · by_cases h3 : b3 = 0
        · simp only [if_neg h0, if_pos h1, if_pos h2, if_pos h3, nI_1, c0, c1, c2, c3]; rfl
        · simp only [if_neg h0, if_pos h1, if_pos h2, if_neg h3, nI_1, c0, c1, c2, c3]; rfl
      · by_cases h3 : b3 = 0
        · simp only [if_neg h0, if_pos h1, if_neg h2, if_pos h3, nI_1, c0, c1, c2, c3]; rfl
        · simp only [if_neg h0, if_pos h1, if_neg h2, if_neg h3, nI_1, c0, c1, c2, c3]; rfl
    · by_cases h2 : b2 = 0
      · by_cases h3 : b3 = 0
        · simp only [if_neg h0, if_neg h1, if_pos h2, if_pos h3, nI_1, c0, c1, c2, c3]; rfl
        · simp only [if_neg h0, if_neg h1, if_pos h2, if_neg h3, nI_1, c0, c1, c2, c3]; rfl
      · by_cases h3 : b3 = 0
        · simp only [if_neg h0, if_neg h1, if_neg h2, if_pos h3, nI_1, c0, c1, c2, c3]; rfl
        · simp only [if_neg h0, if_neg h1, if_neg h2, if_neg h3, nI_1, c0, c1, c2, c3]; rfl
def PL (m0 m1 m2 m3 : Int32) : List Int32 := jl 4 m0 ++ (jl 5 m1 ++ (jl 6 m2 ++ (jl 7 m3 ++ [f_Ke_instruction 2 6 7])))
theorem PL_len (m0 m1 m2 m3 : Int32) : (PL m0 m1 m2 m3).length ≤ 17 := by
  have a := jl_len 4 m0
  have b := jl_len 5 m1
  have c := jl_len 6 m2
  have d := jl_len 7 m3
  unfold PL
  simp only [List.length_append, List.length_singleton]
  omega
theorem le_spec (code : Nat → Int32) (g : Nat) (hg : g ≤ 8) (m0 m1 m2 m3 : Int32) : f_Ke_learn code (nI g) m0 m1 m2 m3 = wr (PL m0 m1 m2 m3 ++ [f_Ke_instruction 0 0 0]) (18 * g) code := by
  have a := jl_len 4 m0
  have b := jl_len 5 m1
  have c := jl_len 6 m2
  have d := jl_len 7 m3
  have e : nI g * 18 = nI (18 * g) := by rw [Nat.mul_comm]; exact pk_mul g 18
  unfold f_Ke_learn
  rw [e, wj_spec code (18 * g) (by omega)]
  dsimp only
  rw [wj_spec _ (18 * g + (jl 4 m0).length) (by omega)]
  dsimp only
  rw [wj_spec _ (18 * g + (jl 4 m0).length + (jl 5 m1).length) (by omega)]
  dsimp only
  rw [wj_spec _ (18 * g + (jl 4 m0).length + (jl 5 m1).length + (jl 6 m2).length) (by omega)]
  dsimp only
  rw [nI_1, cl_nI (by omega), cl_nI (by omega)]
  unfold PL
  rw [wr_app, wr_app, wr_app, wr_app, wr_app]
  simp only [List.length_append, List.length_singleton]
  rw [show 18 * g + ((jl 4 m0).length + ((jl 5 m1).length + ((jl 6 m2).length + ((jl 7 m3).length + 1)))) = 18 * g + (jl 4 m0).length + (jl 5 m1).length + (jl 6 m2).length + (jl 7 m3).length + 1 by omega]
  rfl
theorem in_dec : ∀ t, t < 8 → ∀ k, k < 8 → (f_Ke_instruction 1 (nI t) (nI k) >>> ((6 : Int32) &&& 31)) = 1 ∧ Int32.toNatClampNeg ((f_Ke_instruction 1 (nI t) (nI k) >>> ((3 : Int32) &&& 31)) &&& 7) = t ∧ Int32.toNatClampNeg (f_Ke_instruction 1 (nI t) (nI k) &&& 7) = k := by decide +kernel
theorem in_go (t k : Nat) (ht : t < 8) (hk : k < 8) (s : Nat → Int32) : f_Ke_execute s (f_Ke_instruction 1 (nI t) (nI k)) = (1, upd s t (s t ||| s k)) := by
  obtain ⟨h1, h2, h3⟩ := in_dec t ht k hk
  unfold f_Ke_execute
  rw [if_pos h1, h2, h3]
theorem in_strip (s : Nat → Int32) : f_Ke_execute s (f_Ke_instruction 2 6 7) = (1, upd s 6 (s 6 &&& (s 7 ^^^ (-1)))) := by
  unfold f_Ke_execute
  rw [if_neg (by decide +kernel), if_pos (by decide +kernel), show Int32.toNatClampNeg ((f_Ke_instruction 2 6 7 >>> ((3 : Int32) &&& 31)) &&& 7) = 6 by decide +kernel, show Int32.toNatClampNeg (f_Ke_instruction 2 6 7 &&& 7) = 7 by decide +kernel]
theorem in_stop (s : Nat → Int32) : f_Ke_execute s (f_Ke_instruction 0 0 0) = (0, s) := by
  unfold f_Ke_execute
  rw [if_neg (by decide +kernel), if_neg (by decide +kernel)]
theorem jl_mem {t mask i : Int32} (h : i ∈ jl t mask) : ∃ k, k < 4 ∧ i = f_Ke_instruction 1 t (nI k) := by
  have hh (P : Prop) (hd : Decidable P) (x : Int32) (h : i ∈ (if P then [] else [x])) : i = x := by
    by_cases e : P
    · rw [if_pos e] at h; exact absurd h List.not_mem_nil
    · rw [if_neg e] at h; exact List.mem_singleton.mp h
  unfold jl at h
  rcases List.mem_append.mp h with h | h
  · exact ⟨0, by omega, hh _ _ _ h⟩
  rcases List.mem_append.mp h with h | h
  · exact ⟨1, by omega, hh _ _ _ h⟩
  rcases List.mem_append.mp h with h | h
  · exact ⟨2, by omega, hh _ _ _ h⟩
  · exact ⟨3, by omega, hh _ _ _ h⟩
theorem jl_run (t : Nat) (h4 : 4 ≤ t) (h8 : t < 8) (mask : Int32) (s : Nat → Int32) (hs : s t = 0) : exL (jl (nI t) mask) s t = jn (s 0) (s 1) (s 2) (s 3) mask ∧ ∀ i, i ≠ t → exL (jl (nI t) mask) s i = s i := by
  have n0 : (0 : Nat) ≠ t := by omega
  have n1 : (1 : Nat) ≠ t := by omega
  have n2 : (2 : Nat) ≠ t := by omega
  have n3 : (3 : Nat) ≠ t := by omega
  have e0 : ∀ s : Nat → Int32, ex1 s (f_Ke_instruction 1 (nI t) 0) = upd s t (s t ||| s 0) := fun s => by unfold ex1; exact congrArg Prod.snd (in_go t 0 h8 (by omega) s)
  have e1 : ∀ s : Nat → Int32, ex1 s (f_Ke_instruction 1 (nI t) 1) = upd s t (s t ||| s 1) := fun s => by unfold ex1; exact congrArg Prod.snd (in_go t 1 h8 (by omega) s)
  have e2 : ∀ s : Nat → Int32, ex1 s (f_Ke_instruction 1 (nI t) 2) = upd s t (s t ||| s 2) := fun s => by unfold ex1; exact congrArg Prod.snd (in_go t 2 h8 (by omega) s)
  have e3 : ∀ s : Nat → Int32, ex1 s (f_Ke_instruction 1 (nI t) 3) = upd s t (s t ||| s 3) := fun s => by unfold ex1; exact congrArg Prod.snd (in_go t 3 h8 (by omega) s)
  have u0 : ∀ (s : Nat → Int32) (x : Int32), upd s t x 0 = s 0 := fun s x => upd_ne s x n0
  have u1 : ∀ (s : Nat → Int32) (x : Int32), upd s t x 1 = s 1 := fun s x => upd_ne s x n1
  have u2 : ∀ (s : Nat → Int32) (x : Int32), upd s t x 2 = s 2 := fun s x => upd_ne s x n2
  have u3 : ∀ (s : Nat → Int32) (x : Int32), upd s t x 3 = s 3 := fun s x => upd_ne s x n3
  rw [← jn_of]
  unfold jl f_Mo_join
  rcases bit01 (mask >>> ((0 : Int32) &&& 31)) with ⟨h0, k0⟩ | ⟨h0, k0⟩
  · rcases bit01 (mask >>> ((1 : Int32) &&& 31)) with ⟨h1, k1⟩ | ⟨h1, k1⟩
    · rcases bit01 (mask >>> ((2 : Int32) &&& 31)) with ⟨h2, k2⟩ | ⟨h2, k2⟩
      · rcases bit01 (mask >>> ((3 : Int32) &&& 31)) with ⟨h3, k3⟩ | ⟨h3, k3⟩
        · simp only [if_pos h0, if_neg k0, if_pos h1, if_neg k1, if_pos h2, if_neg k2, if_pos h3, if_neg k3, List.nil_append, List.cons_append, List.append_nil, exL, e0, e1, e2, e3, u0, u1, u2, u3, upd_same, hs, c_0, c_1, c_2, c_3]
          refine ⟨by trivial, fun i hi => ?_⟩
          try simp only [upd_ne _ _ hi]
        · simp only [if_pos h0, if_neg k0, if_pos h1, if_neg k1, if_pos h2, if_neg k2, if_neg h3, if_pos k3, List.nil_append, List.cons_append, List.append_nil, exL, e0, e1, e2, e3, u0, u1, u2, u3, upd_same, hs, c_0, c_1, c_2, c_3]
          refine ⟨by trivial, fun i hi => ?_⟩
          try simp only [upd_ne _ _ hi]
      · rcases bit01 (mask >>> ((3 : Int32) &&& 31)) with ⟨h3, k3⟩ | ⟨h3, k3⟩
        · simp only [if_pos h0, if_neg k0, if_pos h1, if_neg k1, if_neg h2, if_pos k2, if_pos h3, if_neg k3, List.nil_append, List.cons_append, List.append_nil, exL, e0, e1, e2, e3, u0, u1, u2, u3, upd_same, hs, c_0, c_1, c_2, c_3]
          refine ⟨by trivial, fun i hi => ?_⟩
          try simp only [upd_ne _ _ hi]
        · simp only [if_pos h0, if_neg k0, if_pos h1, if_neg k1, if_neg h2, if_pos k2, if_neg h3, if_pos k3, List.nil_append, List.cons_append, List.append_nil, exL, e0, e1, e2, e3, u0, u1, u2, u3, upd_same, hs, c_0, c_1, c_2, c_3]
          refine ⟨by trivial, fun i hi => ?_⟩
          try simp only [upd_ne _ _ hi]
    · rcases bit01 (mask >>> ((2 : Int32) &&& 31)) with ⟨h2, k2⟩ | ⟨h2, k2⟩
      · rcases bit01 (mask >>> ((3 : Int32) &&& 31)) with ⟨h3, k3⟩ | ⟨h3, k3⟩
        · simp only [if_pos h0, if_neg k0, if_neg h1, if_pos k1, if_pos h2, if_neg k2, if_pos h3, if_neg k3, List.nil_append, List.cons_append, List.append_nil, exL, e0, e1, e2, e3, u0, u1, u2, u3, upd_same, hs, c_0, c_1, c_2, c_3]
          refine ⟨by trivial, fun i hi => ?_⟩
          try simp only [upd_ne _ _ hi]
        · simp only [if_pos h0, if_neg k0, if_neg h1, if_pos k1, if_pos h2, if_neg k2, if_neg h3, if_pos k3, List.nil_append, List.cons_append, List.append_nil, exL, e0, e1, e2, e3, u0, u1, u2, u3, upd_same, hs, c_0, c_1, c_2, c_3]
          refine ⟨by trivial, fun i hi => ?_⟩
          try simp only [upd_ne _ _ hi]
      · rcases bit01 (mask >>> ((3 : Int32) &&& 31)) with ⟨h3, k3⟩ | ⟨h3, k3⟩
        · simp only [if_pos h0, if_neg k0, if_neg h1, if_pos k1, if_neg h2, if_pos k2, if_pos h3, if_neg k3, List.nil_append, List.cons_append, List.append_nil, exL, e0, e1, e2, e3, u0, u1, u2, u3, upd_same, hs, c_0, c_1, c_2, c_3]
          refine ⟨by trivial, fun i hi => ?_⟩
          try simp only [upd_ne _ _ hi]
        · simp only [if_pos h0, if_neg k0, if_neg h1, if_pos k1, if_neg h2, if_pos k2, if_neg h3, if_pos k3, List.nil_append, List.cons_append, List.append_nil, exL, e0, e1, e2, e3, u0, u1, u2, u3, upd_same, hs, c_0, c_1, c_2, c_3]
          refine ⟨by trivial, fun i hi => ?_⟩
          try simp only [upd_ne _ _ hi]
  · rcases bit01 (mask >>> ((1 : Int32) &&& 31)) with ⟨h1, k1⟩ | ⟨h1, k1⟩
    · rcases bit01 (mask >>> ((2 : Int32) &&& 31)) with ⟨h2, k2⟩ | ⟨h2, k2⟩
      · rcases bit01 (mask >>> ((3 : Int32) &&& 31)) with ⟨h3, k3⟩ | ⟨h3, k3⟩
        · simp only [if_neg h0, if_pos k0, if_pos h1, if_neg k1, if_pos h2, if_neg k2, if_pos h3, if_neg k3, List.nil_append, List.cons_append, List.append_nil, exL, e0, e1, e2, e3, u0, u1, u2, u3, upd_same, hs, c_0, c_1, c_2, c_3]
          refine ⟨by trivial, fun i hi => ?_⟩
          try simp only [upd_ne _ _ hi]
        · simp only [if_neg h0, if_pos k0, if_pos h1, if_neg k1, if_pos h2, if_neg k2, if_neg h3, if_pos k3, List.nil_append, List.cons_append, List.append_nil, exL, e0, e1, e2, e3, u0, u1, u2, u3, upd_same, hs, c_0, c_1, c_2, c_3]
          refine ⟨by trivial, fun i hi => ?_⟩
          try simp only [upd_ne _ _ hi]
      · rcases bit01 (mask >>> ((3 : Int32) &&& 31)) with ⟨h3, k3⟩ | ⟨h3, k3⟩
        · simp only [if_neg h0, if_pos k0, if_pos h1, if_neg k1, if_neg h2, if_pos k2, if_pos h3, if_neg k3, List.nil_append, List.cons_append, List.append_nil, exL, e0, e1, e2, e3, u0, u1, u2, u3, upd_same, hs, c_0, c_1, c_2, c_3]
          refine ⟨by trivial, fun i hi => ?_⟩
          try simp only [upd_ne _ _ hi]
        · simp only [if_neg h0, if_pos k0, if_pos h1, if_neg k1, if_neg h2, if_pos k2, if_neg h3, if_pos k3, List.nil_append, List.cons_append, List.append_nil, exL, e0, e1, e2, e3, u0, u1, u2, u3, upd_same, hs, c_0, c_1, c_2, c_3]
          refine ⟨by trivial, fun i hi => ?_⟩
          try simp only [upd_ne _ _ hi]
    · rcases bit01 (mask >>> ((2 : Int32) &&& 31)) with ⟨h2, k2⟩ | ⟨h2, k2⟩
      · rcases bit01 (mask >>> ((3 : Int32) &&& 31)) with ⟨h3, k3⟩ | ⟨h3, k3⟩
        · simp only [if_neg h0, if_pos k0, if_neg h1, if_pos k1, if_pos h2, if_neg k2, if_pos h3, if_neg k3, List.nil_append, List.cons_append, List.append_nil, exL, e0, e1, e2, e3, u0, u1, u2, u3, upd_same, hs, c_0, c_1, c_2, c_3]
          refine ⟨by trivial, fun i hi => ?_⟩
          try simp only [upd_ne _ _ hi]
        · simp only [if_neg h0, if_pos k0, if_neg h1, if_pos k1, if_pos h2, if_neg k2, if_neg h3, if_pos k3, List.nil_append, List.cons_append, List.append_nil, exL, e0, e1, e2, e3, u0, u1, u2, u3, upd_same, hs, c_0, c_1, c_2, c_3]
          refine ⟨by trivial, fun i hi => ?_⟩
          try simp only [upd_ne _ _ hi]
      · rcases bit01 (mask >>> ((3 : Int32) &&& 31)) with ⟨h3, k3⟩ | ⟨h3, k3⟩
        · simp only [if_neg h0, if_pos k0, if_neg h1, if_pos k1, if_neg h2, if_pos k2, if_pos h3, if_neg k3, List.nil_append, List.cons_append, List.append_nil, exL, e0, e1, e2, e3, u0, u1, u2, u3, upd_same, hs, c_0, c_1, c_2, c_3]
          refine ⟨by trivial, fun i hi => ?_⟩
          try simp only [upd_ne _ _ hi]
        · simp only [if_neg h0, if_pos k0, if_neg h1, if_pos k1, if_neg h2, if_pos k2, if_neg h3, if_pos k3, List.nil_append, List.cons_append, List.append_nil, exL, e0, e1, e2, e3, u0, u1, u2, u3, upd_same, hs, c_0, c_1, c_2, c_3]
          refine ⟨by trivial, fun i hi => ?_⟩
          try simp only [upd_ne _ _ hi]
theorem wo_loop (g : Nat) (hg : g ≤ 8) (code : Nat → Int32) : ∀ (L : List Int32) (k fu : Nat) (s : Nat → Int32), (∀ i ∈ L, ∀ s, (f_Ke_execute s i).1 = 1) → (∀ j, j < L.length → code (18 * g + k + j) = L.getD j 0) → code (18 * g + k + L.length) = f_Ke_instruction 0 0 0 → k + L.length + 1 ≤ 18 → L.length + 2 ≤ fu → lp_Ke_workOut_18 (nI g) code fu (nI k) 1 s = (nI (k + L.length + 1), exL L s) := by
  intro L
  induction L with
  | nil =>
    intro k fu s _ _ hst hk hf
    have hk : k + 1 ≤ 18 := hk
    have hf : 2 ≤ fu := hf
    obtain ⟨fu, rfl⟩ : ∃ n, fu = n + 2 := ⟨fu - 2, by omega⟩
    have ha : Int32.toNatClampNeg ((nI g * 18) + nI k) = 18 * g + k := by
      rw [show nI g * 18 = nI (18 * g) by rw [Nat.mul_comm]; exact pk_mul g 18, nI_add]
      exact cl_nI (by omega)
    have hst : code (18 * g + k) = f_Ke_instruction 0 0 0 := hst
    unfold lp_Ke_workOut_18
    rw [if_neg (by decide), if_neg (show ¬ (18 : Int32) ≤ nI k from nI_ge (b := 18) (by omega) (by omega)), ha, hst, in_stop]
    unfold lp_Ke_workOut_18
    rw [if_pos rfl, nI_1]
    rfl
  | cons i r ih =>
    intro k fu s hgo hat hst hk hf
    have hk : k + (r.length + 1) + 1 ≤ 18 := hk
    have hf : r.length + 1 + 2 ≤ fu := hf
    obtain ⟨fu, rfl⟩ : ∃ n, fu = n + 1 := ⟨fu - 1, by omega⟩
    have ha : Int32.toNatClampNeg ((nI g * 18) + nI k) = 18 * g + k := by
      rw [show nI g * 18 = nI (18 * g) by rw [Nat.mul_comm]; exact pk_mul g 18, nI_add]
      exact cl_nI (by omega)
    have h0 : code (18 * g + k) = i := hat 0 (Nat.succ_pos _)
    unfold lp_Ke_workOut_18
    rw [if_neg (by decide), if_neg (show ¬ (18 : Int32) ≤ nI k from nI_ge (b := 18) (by omega) (by omega)), ha, h0, hgo i List.mem_cons_self s, nI_1]
    have := ih (k + 1) fu (f_Ke_execute s i).2 (fun i hi => hgo i (List.mem_cons_of_mem _ hi)) (fun j hj => by
      have := hat (j + 1) (Nat.succ_lt_succ hj)
      rw [show 18 * g + (k + 1) + j = 18 * g + k + (j + 1) by omega, this]; rfl) (by
      rw [show 18 * g + (k + 1) + r.length = 18 * g + k + (r.length + 1) by omega]; exact hst) (by omega) (by omega)
    rw [this]
    show (nI (k + 1 + r.length + 1), exL r (ex1 s i)) = (nI (k + (r.length + 1) + 1), exL r (ex1 s i))
    rw [show k + 1 + r.length + 1 = k + (r.length + 1) + 1 by omega]
def KG (code : Nat → Int32) (g : Nat) (m0 m1 m2 m3 : Int32) : Prop := ∀ (p x y m : Int32) (sl : Nat → Int32), (f_Ke_workOut (nI g) p x y m sl code).1 ≤ 200 ∧ (f_Ke_workOut (nI g) p x y m sl code).2 4 = jn p x y m m0 ∧ (f_Ke_workOut (nI g) p x y m sl code).2 5 = jn p x y m m1 ∧ (f_Ke_workOut (nI g) p x y m sl code).2 6 = (jn p x y m m2 &&& (jn p x y m m3 ^^^ (-1)))
theorem wo_at (code : Nat → Int32) (g : Nat) (hg : g ≤ 8) (m0 m1 m2 m3 : Int32) (hat : ∀ j, j < (PL m0 m1 m2 m3).length → code (18 * g + j) = (PL m0 m1 m2 m3).getD j 0) (hst : code (18 * g + (PL m0 m1 m2 m3).length) = f_Ke_instruction 0 0 0) : KG code g m0 m1 m2 m3 := by
  intro p x y m sl
  have hl := PL_len m0 m1 m2 m3
  have hgo : ∀ i ∈ PL m0 m1 m2 m3, ∀ s, (f_Ke_execute s i).1 = 1 := by
    intro i hi s
    have hj (t : Nat) (ht : t < 8) (mask : Int32) (h : i ∈ jl (nI t) mask) : (f_Ke_execute s i).1 = 1 := by
      obtain ⟨k, hk, rfl⟩ := jl_mem h
      rw [in_go t k ht (by omega)]
    unfold PL at hi
    rcases List.mem_append.mp hi with h | h
    · exact hj 4 (by omega) _ h
    rcases List.mem_append.mp h with h | h
    · exact hj 5 (by omega) _ h
    rcases List.mem_append.mp h with h | h
    · exact hj 6 (by omega) _ h
    rcases List.mem_append.mp h with h | h
    · exact hj 7 (by omega) _ h
    · rw [List.mem_singleton.mp h, in_strip]
  have hw := wo_loop g hg code (PL m0 m1 m2 m3) 0 19 (f_Ke_takeIn p x y m sl) hgo (fun j hj => hat j hj) hst (by omega) (by omega)
  have hw : f_Ke_workOut (nI g) p x y m sl code = (nI (0 + (PL m0 m1 m2 m3).length + 1), exL (PL m0 m1 m2 m3) (f_Ke_takeIn p x y m sl)) := hw
  rw [hw]
  have s0 : f_Ke_takeIn p x y m sl 0 = p := rfl
  have s1 : f_Ke_takeIn p x y m sl 1 = x := rfl
  have s2 : f_Ke_takeIn p x y m sl 2 = y := rfl
  have s3 : f_Ke_takeIn p x y m sl 3 = m := rfl
  have s4 : f_Ke_takeIn p x y m sl 4 = 0 := rfl
  have s5 : f_Ke_takeIn p x y m sl 5 = 0 := rfl
  have s6 : f_Ke_takeIn p x y m sl 6 = 0 := rfl
  have s7 : f_Ke_takeIn p x y m sl 7 = 0 := rfl
  generalize f_Ke_takeIn p x y m sl = s at *
  refine ⟨nI_le (b := 200) (by omega) (by omega), ?_⟩
  show exL (PL m0 m1 m2 m3) s 4 = _ ∧ exL (PL m0 m1 m2 m3) s 5 = _ ∧ exL (PL m0 m1 m2 m3) s 6 = _
  unfold PL
  rw [exL_app, exL_app, exL_app, exL_app]
  obtain ⟨a, a'⟩ := jl_run 4 (by omega) (by omega) m0 s s4
  rw [s0, s1, s2, s3] at a
  obtain ⟨b, b'⟩ := jl_run 5 (by omega) (by omega) m1 (exL (jl (nI 4) m0) s) (by rw [a' 5 (by omega)]; exact s5)
  rw [a' 0 (by omega), a' 1 (by omega), a' 2 (by omega), a' 3 (by omega), s0, s1, s2, s3] at b
  obtain ⟨c, c'⟩ := jl_run 6 (by omega) (by omega) m2 (exL (jl (nI 5) m1) (exL (jl (nI 4) m0) s)) (by rw [b' 6 (by omega), a' 6 (by omega)]; exact s6)
  rw [b' 0 (by omega), b' 1 (by omega), b' 2 (by omega), b' 3 (by omega), a' 0 (by omega), a' 1 (by omega), a' 2 (by omega), a' 3 (by omega), s0, s1, s2, s3] at c
  obtain ⟨d, d'⟩ := jl_run 7 (by omega) (by omega) m3 (exL (jl (nI 6) m2) (exL (jl (nI 5) m1) (exL (jl (nI 4) m0) s))) (by rw [c' 7 (by omega), b' 7 (by omega), a' 7 (by omega)]; exact s7)
  rw [c' 0 (by omega), c' 1 (by omega), c' 2 (by omega), c' 3 (by omega), b' 0 (by omega), b' 1 (by omega), b' 2 (by omega), b' 3 (by omega), a' 0 (by omega), a' 1 (by omega), a' 2 (by omega), a' 3 (by omega), s0, s1, s2, s3] at d
  show ex1 (exL (jl (nI 7) m3) (exL (jl (nI 6) m2) (exL (jl (nI 5) m1) (exL (jl (nI 4) m0) s)))) (f_Ke_instruction 2 6 7) 4 = _ ∧ ex1 (exL (jl (nI 7) m3) (exL (jl (nI 6) m2) (exL (jl (nI 5) m1) (exL (jl (nI 4) m0) s)))) (f_Ke_instruction 2 6 7) 5 = _ ∧ ex1 (exL (jl (nI 7) m3) (exL (jl (nI 6) m2) (exL (jl (nI 5) m1) (exL (jl (nI 4) m0) s)))) (f_Ke_instruction 2 6 7) 6 = _
  unfold ex1
  rw [in_strip]
  dsimp only
  rw [upd_ne _ _ (show 4 ≠ 6 by omega), upd_ne _ _ (show 5 ≠ 6 by omega), upd_same]
  refine ⟨?_, ?_, ?_⟩
  · rw [d' 4 (by omega), c' 4 (by omega), b' 4 (by omega), a]
  · rw [d' 5 (by omega), c' 5 (by omega), b]
  · rw [d' 6 (by omega), c, d]
theorem wo_congr (g : Nat) (hg : g ≤ 8) (code code' : Nat → Int32) (h : ∀ j, j < 18 → code (18 * g + j) = code' (18 * g + j)) : ∀ (fu k : Nat) (b : Int32) (s : Nat → Int32), k ≤ 18 → lp_Ke_workOut_18 (nI g) code fu (nI k) b s = lp_Ke_workOut_18 (nI g) code' fu (nI k) b s := by
  intro fu
  induction fu with
  | zero => intro k b s _; rfl
  | succ fu ih =>
    intro k b s hk
    have ha : Int32.toNatClampNeg ((nI g * 18) + nI k) = 18 * g + k := by
      rw [show nI g * 18 = nI (18 * g) by rw [Nat.mul_comm]; exact pk_mul g 18, nI_add]
      exact cl_nI (by omega)
    unfold lp_Ke_workOut_18
    by_cases hb : b = 0
    · rw [if_pos hb, if_pos hb]
    · rw [if_neg hb, if_neg hb]
      rcases Nat.lt_or_ge k 18 with hk' | hk'
      · rw [if_neg (show ¬ (18 : Int32) ≤ nI k from nI_ge (b := 18) hk' (by omega)), if_neg (show ¬ (18 : Int32) ≤ nI k from nI_ge (b := 18) hk' (by omega)), ha, h k hk', nI_1]
        exact ih (k + 1) _ _ (by omega)
      · rw [if_pos (show (18 : Int32) ≤ nI k from nI_le (a := 18) hk' (by omega)), if_pos (show (18 : Int32) ≤ nI k from nI_le (a := 18) hk' (by omega))]
theorem KG_congr {g : Nat} (hg : g ≤ 8) {code code' : Nat → Int32} (h : ∀ j, j < 18 → code (18 * g + j) = code' (18 * g + j)) {m0 m1 m2 m3 : Int32} (k : KG code g m0 m1 m2 m3) : KG code' g m0 m1 m2 m3 := by
  intro p x y m sl
  have e : f_Ke_workOut (nI g) p x y m sl code' = f_Ke_workOut (nI g) p x y m sl code := (wo_congr g hg code code' h 19 0 1 (f_Ke_takeIn p x y m sl) (by omega)).symm
  rw [e]
  exact k p x y m sl
theorem KG_learn (code : Nat → Int32) (g : Nat) (hg : g ≤ 8) (m0 m1 m2 m3 : Int32) : KG (f_Ke_learn code (nI g) m0 m1 m2 m3) g m0 m1 m2 m3 := by
  have hl := PL_len m0 m1 m2 m3
  rw [le_spec code g hg]
  refine wo_at _ g hg m0 m1 m2 m3 (fun j hj => ?_) ?_
  · rw [wr_app, wr_out _ _ _ _ (by omega), wr_in _ _ _ _ hj]
  · rw [wr_app]
    exact wr_in [f_Ke_instruction 0 0 0] (18 * g + (PL m0 m1 m2 m3).length) _ 0 (by simp)
theorem KG_other (code : Nat → Int32) {g g' : Nat} (hg : g ≤ 8) (hg' : g' ≤ 8) (hn : g' ≠ g) (m0 m1 m2 m3 : Int32) {n0 n1 n2 n3 : Int32} (h : KG code g' n0 n1 n2 n3) : KG (f_Ke_learn code (nI g) m0 m1 m2 m3) g' n0 n1 n2 n3 := by
  have hl := PL_len m0 m1 m2 m3
  refine KG_congr hg' (fun j hj => ?_) h
  rw [le_spec code g hg, wr_out]
  simp only [List.length_append, List.length_singleton]
  omega
def RKern (code rules : Nat → Int32) : Prop := ∀ g, g ≤ 8 → KG code g (rules (4 * g)) (rules (4 * g + 1)) (rules (4 * g + 2)) (rules (4 * g + 3))
def rul (rules : Nat → Int32) (g : Nat) (m0 m1 m2 m3 : Int32) : Nat → Int32 := upd (upd (upd (upd rules (4 * g) m0) (4 * g + 1) m1) (4 * g + 2) m2) (4 * g + 3) m3
theorem rul_same (rules : Nat → Int32) (g : Nat) (m0 m1 m2 m3 : Int32) : rul rules g m0 m1 m2 m3 (4 * g) = m0 ∧ rul rules g m0 m1 m2 m3 (4 * g + 1) = m1 ∧ rul rules g m0 m1 m2 m3 (4 * g + 2) = m2 ∧ rul rules g m0 m1 m2 m3 (4 * g + 3) = m3 := by
  unfold rul
  refine ⟨?_, ?_, ?_, ?_⟩
  · rw [upd_ne _ _ (by omega), upd_ne _ _ (by omega), upd_ne _ _ (by omega), upd_same]
  · rw [upd_ne _ _ (by omega), upd_ne _ _ (by omega), upd_same]
  · rw [upd_ne _ _ (by omega), upd_same]
  · rw [upd_same]
theorem rul_ne (rules : Nat → Int32) (g : Nat) (m0 m1 m2 m3 : Int32) (i : Nat) (h : i < 4 * g ∨ 4 * g + 3 < i) : rul rules g m0 m1 m2 m3 i = rules i := by
  unfold rul
  rw [upd_ne _ _ (by omega), upd_ne _ _ (by omega), upd_ne _ _ (by omega), upd_ne _ _ (by omega)]
theorem k_learn {code rules : Nat → Int32} (h : RKern code rules) {g : Nat} (hg : g ≤ 8) (m0 m1 m2 m3 : Int32) : RKern (f_Ke_learn code (nI g) m0 m1 m2 m3) (rul rules g m0 m1 m2 m3) := by
  intro g' hg'
  by_cases e : g' = g
  · subst e
    obtain ⟨e0, e1, e2, e3⟩ := rul_same rules g' m0 m1 m2 m3
    rw [e0, e1, e2, e3]
    exact KG_learn code g' hg m0 m1 m2 m3
  · rw [rul_ne _ _ _ _ _ _ _ (by omega), rul_ne _ _ _ _ _ _ _ (by omega), rul_ne _ _ _ _ _ _ _ (by omega), rul_ne _ _ _ _ _ _ _ (by omega)]
    exact KG_other code hg hg' e m0 m1 m2 m3 (h g' hg')
