-- the relation between the core's contents and the model's, in pieces
def RProg (w : Int32) (gp : Nat → Int32) (z : Int32) (gm : Nat → Int32) : Prop := ∃ k : Nat, k ≤ 256 ∧ w = nI k ∧ z = nI k ∧ ∀ i, i < k → gp i = gm i
def RBank (n : Nat) (gn gl mn ml : Nat → Int32) : Prop := ∀ i, i < n → gn i = mn i ∧ gl i = ml i
def RWait (room first count : Int32) (gn gl : Nat → Int32) (wait : Int32) (mn ml : Nat → Int32) : Prop := ∃ f q : Nat, f < 64 ∧ q ≤ 64 ∧ room = nI 64 ∧ first = nI f ∧ count = nI q ∧ wait = nI q ∧ ∀ j, j < q → gn ((f + j) % 64) = mn j ∧ gl ((f + j) % 64) = ml j
def RGone (room first count : Int32) (gn gl : Nat → Int32) (went : Int32) (mn ml : Nat → Int32) : Prop := ∃ o : Nat, o ≤ 256 ∧ room = nI 256 ∧ first = nI 0 ∧ count = nI o ∧ went = nI o ∧ ∀ j, j < o → gn j = mn j ∧ gl j = ml j
theorem cl_nI {n : Nat} (h : n < 2 ^ 31) : Int32.toNatClampNeg (nI n) = n := nI_clamp h
theorem upd_same (f : Nat → Int32) (k : Nat) (x : Int32) : upd f k x k = x := pk_us
theorem upd_ne (f : Nat → Int32) {k j : Nat} (x : Int32) (h : j ≠ k) : upd f k x j = f j := pk_un h
-- the program
theorem p_word {w : Int32} {gp : Nat → Int32} {z : Int32} {gm : Nat → Int32} (h : RProg w gp z gm) (q : Int32) : ((w < 256) → vp_in w 256) ∧ ((¬ z = 256) → vp_in z 256) ∧ (f_Co_word w gp q).1 = (f_Mo_word z gm q).1 ∧ RProg (f_Co_word w gp q).2.1 (f_Co_word w gp q).2.2 (f_Mo_word z gm q).2.1 (f_Mo_word z gm q).2.2 := by
  obtain ⟨k, hk, rfl, rfl, hi⟩ := h
  have e256 : (256 : Int32) = nI 256 := rfl
  rcases Nat.lt_or_ge k 256 with h | h
  · have h1 : nI k < 256 := nI_lt (b := 256) h (by omega)
    have h2 : ¬ nI k = 256 := fun hh => by
      have := (nI_eq (a := k) (b := 256) (by omega) (by omega)).mp hh
      omega
    refine ⟨fun _ => vp_in_nI h (by omega), fun _ => vp_in_nI h (by omega), ?_, ?_⟩
    · unfold f_Co_word f_Mo_word
      rw [if_pos h1, if_neg h2]
    · unfold f_Co_word f_Mo_word
      rw [if_pos h1, if_neg h2]
      refine ⟨k + 1, by omega, nI_1 k, nI_1 k, ?_⟩
      intro i hi'
      show upd gp (Int32.toNatClampNeg (nI k)) q i = upd gm (Int32.toNatClampNeg (nI k)) q i
      rw [cl_nI (by omega)]
      by_cases e : i = k
      · rw [e, upd_same, upd_same]
      · rw [upd_ne _ _ e, upd_ne _ _ e]; exact hi i (by omega)
  · have hk' : k = 256 := by omega
    subst hk'
    have h1 : ¬ nI 256 < 256 := by decide
    have h2 : nI 256 = 256 := rfl
    refine ⟨fun h => absurd h h1, fun h => absurd h2 h, ?_, ?_⟩
    · unfold f_Co_word f_Mo_word
      rw [if_neg h1, if_pos h2]
    · unfold f_Co_word f_Mo_word
      rw [if_neg h1, if_pos h2]
      exact ⟨256, hk, rfl, rfl, hi⟩
theorem p_size {w : Int32} {gp : Nat → Int32} {z : Int32} {gm : Nat → Int32} (h : RProg w gp z gm) : w = z := by
  obtain ⟨k, hk, rfl, rfl, hi⟩ := h
  rfl
theorem p_zero (gp gm : Nat → Int32) : RProg 0 gp 0 gm := ⟨0, by omega, rfl, rfl, fun i h => absurd h (by omega)⟩
-- banks
theorem bk_put {n : Nat} {gn gl mn ml : Nat → Int32} (h : RBank n gn gl mn ml) (k : Nat) (v b : Int32) : RBank n (upd gn k v) (upd gl k b) (upd mn k v) (upd ml k b) := by
  intro i hi
  by_cases e : i = k
  · rw [e, upd_same, upd_same, upd_same, upd_same]; exact ⟨rfl, rfl⟩
  · rw [upd_ne _ _ e, upd_ne _ _ e, upd_ne _ _ e, upd_ne _ _ e]; exact h i hi
theorem fl_spec (x : Int32) (n : Nat) (hn : n < 2 ^ 30) : ∀ (fu i : Nat) (g : Nat → Int32), i ≤ n → n + 1 ≤ i + fu → ∀ j, lp_Ar_fill2_5 x n fu (nI i) g j = if i ≤ j ∧ j < n then x else g j := by
  intro fu
  induction fu with
  | zero => intro i g h1 h2; omega
  | succ fu ih =>
    intro i g h1 h2 j
    unfold lp_Ar_fill2_5
    rcases Nat.lt_or_ge i n with h | h
    · rw [if_neg (show ¬ Int32.ofNat n ≤ nI i from nI_ge h (by omega)), nI_1, ih (i + 1) _ (by omega) (by omega), cl_nI (by omega)]
      by_cases e : j = i
      · rw [e, if_neg (by omega), upd_same, if_pos (by omega)]
      · rw [upd_ne _ _ e]
        by_cases e2 : i ≤ j ∧ j < n
        · rw [if_pos e2, if_pos (by omega)]
        · rw [if_neg e2, if_neg (by omega)]
    · rw [if_pos (show Int32.ofNat n ≤ nI i from nI_le h (by omega)), if_neg (by omega)]
theorem fl_zero (n : Nat) (hn : n < 2 ^ 30) (g : Nat → Int32) (j : Nat) (h : j < n) : f_Ar_fill2 g 0 n j = 0 := by
  have := fl_spec 0 n hn (n + 1) 0 g (by omega) (by omega) j
  unfold f_Ar_fill2
  show lp_Ar_fill2_5 0 n (n + 1) (nI 0) g j = 0
  rw [this, if_pos ⟨by omega, h⟩]
theorem bg50 (r rl : Nat → Int32) : ∀ (fu i : Nat) (g gl : Nat → Int32), i ≤ 64 → 65 ≤ i + fu → ∃ g' gl', lp_Mo_begin_50 r rl fu (nI i) g gl = (0, 0, 0, 0, 0, 0, 0, 0, 0, r, rl, g', gl') ∧ (∀ j, g' j = if i ≤ j ∧ j < 64 then 0 else g j) ∧ ∀ j, gl' j = if i ≤ j ∧ j < 64 then 0 else gl j := by
  intro fu
  induction fu with
  | zero => intro i g gl h1 h2; omega
  | succ fu ih =>
    intro i g gl h1 h2
    unfold lp_Mo_begin_50
    rcases Nat.lt_or_ge i 64 with h | h
    · rw [if_neg (show ¬ (64 : Int32) ≤ nI i from nI_ge (b := 64) h (by omega)), nI_1, cl_nI (by omega)]
      obtain ⟨g', gl', e, k1, k2⟩ := ih (i + 1) (upd g i 0) (upd gl i 0) (by omega) (by omega)
      refine ⟨g', gl', e, fun j => ?_, fun j => ?_⟩
      · rw [k1 j]
        by_cases e : j = i
        · rw [e, if_neg (by omega), upd_same, if_pos (by omega)]
        · rw [upd_ne _ _ e]
          by_cases e2 : i ≤ j ∧ j < 64
          · rw [if_pos e2, if_pos (by omega)]
          · rw [if_neg e2, if_neg (by omega)]
      · rw [k2 j]
        by_cases e : j = i
        · rw [e, if_neg (by omega), upd_same, if_pos (by omega)]
        · rw [upd_ne _ _ e]
          by_cases e2 : i ≤ j ∧ j < 64
          · rw [if_pos e2, if_pos (by omega)]
          · rw [if_neg e2, if_neg (by omega)]
    · rw [if_pos (show (64 : Int32) ≤ nI i from nI_le (a := 64) h (by omega))]
      exact ⟨g, gl, rfl, fun j => by rw [if_neg (by omega)], fun j => by rw [if_neg (by omega)]⟩
theorem bg22 (m ml : Nat → Int32) : ∀ (fu i : Nat) (g gl : Nat → Int32), i ≤ 32 → 33 ≤ i + fu → ∃ g' gl', lp_Mo_begin_22 m ml fu (nI i) g gl = lp_Mo_begin_50 g' gl' 65 0 m ml ∧ (∀ j, g' j = if i ≤ j ∧ j < 32 then 0 else g j) ∧ ∀ j, gl' j = if i ≤ j ∧ j < 32 then 0 else gl j := by
  intro fu
  induction fu with
  | zero => intro i g gl h1 h2; omega
  | succ fu ih =>
    intro i g gl h1 h2
    unfold lp_Mo_begin_22
    rcases Nat.lt_or_ge i 32 with h | h
    · rw [if_neg (show ¬ (32 : Int32) ≤ nI i from nI_ge (b := 32) h (by omega)), nI_1, cl_nI (by omega)]
      obtain ⟨g', gl', e, k1, k2⟩ := ih (i + 1) (upd g i 0) (upd gl i 0) (by omega) (by omega)
      refine ⟨g', gl', e, fun j => ?_, fun j => ?_⟩
      · rw [k1 j]
        by_cases e : j = i
        · rw [e, if_neg (by omega), upd_same, if_pos (by omega)]
        · rw [upd_ne _ _ e]
          by_cases e2 : i ≤ j ∧ j < 32
          · rw [if_pos e2, if_pos (by omega)]
          · rw [if_neg e2, if_neg (by omega)]
      · rw [k2 j]
        by_cases e : j = i
        · rw [e, if_neg (by omega), upd_same, if_pos (by omega)]
        · rw [upd_ne _ _ e]
          by_cases e2 : i ≤ j ∧ j < 32
          · rw [if_pos e2, if_pos (by omega)]
          · rw [if_neg e2, if_neg (by omega)]
    · rw [if_pos (show (32 : Int32) ≤ nI i from nI_le (a := 32) h (by omega))]
      exact ⟨g, gl, rfl, fun j => by rw [if_neg (by omega)], fun j => by rw [if_neg (by omega)]⟩
theorem bg_spec (r rl m ml : Nat → Int32) : ∃ r' rl' m' ml' : Nat → Int32, f_Mo_begin r rl m ml = (0, 0, 0, 0, 0, 0, 0, 0, 0, r', rl', m', ml') ∧ (∀ j, j < 32 → r' j = 0 ∧ rl' j = 0) ∧ ∀ j, j < 64 → m' j = 0 ∧ ml' j = 0 := by
  obtain ⟨r', rl', e, k1, k2⟩ := bg22 m ml 33 0 r rl (by omega) (by omega)
  obtain ⟨m', ml', e', k3, k4⟩ := bg50 r' rl' 65 0 m ml (by omega) (by omega)
  refine ⟨r', rl', m', ml', ?_, fun j hj => ⟨by rw [k1 j, if_pos (by omega)], by rw [k2 j, if_pos (by omega)]⟩, fun j hj => ⟨by rw [k3 j, if_pos (by omega)], by rw [k4 j, if_pos (by omega)]⟩⟩
  show lp_Mo_begin_22 m ml 33 (nI 0) r rl = _
  rw [e]
  exact e'
-- the line of what waits
theorem wt_place {f j : Nat} (hf : f < 64) (hj : j ≤ 64) : f_Li_placeOfNth (nI 64) (nI f) (nI j) = nI ((f + j) % 64) := by
  unfold f_Li_placeOfNth
  rw [nI_add]
  rcases Nat.lt_or_ge (f + j) 64 with h | h
  · rw [if_pos (nI_lt h (by omega)), Nat.mod_eq_of_lt h]
  · rw [if_neg (nI_nlt h (by omega)), pk_sub h]
    rw [show (f + j) % 64 = f + j - 64 by omega]
theorem wt_input {room first count : Int32} {gn gl : Nat → Int32} {wait : Int32} {mn ml : Nat → Int32} (h : RWait room first count gn gl wait mn ml) (v b : Int32) : (((f_Li_isFull room count) = 0) → ((¬ room ≤ count) → (vp_in (f_Li_placeOfNth room first count) 64))) ∧ ((¬ wait = 64) → vp_in wait 64) ∧ (f_Co_input room first count gn gl v b).1 = (f_Mo_input wait mn ml v b).1 ∧ RWait room first (f_Co_input room first count gn gl v b).2.1 (f_Co_input room first count gn gl v b).2.2.1 (f_Co_input room first count gn gl v b).2.2.2 (f_Mo_input wait mn ml v b).2.1 (f_Mo_input wait mn ml v b).2.2.1 (f_Mo_input wait mn ml v b).2.2.2 := by
  obtain ⟨f, q, hf, hq, rfl, rfl, rfl, rfl, hi⟩ := h
  have e64 : (64 : Int32) = nI 64 := rfl
  rcases Nat.lt_or_ge q 64 with h | h
  · have h1 : ¬ nI 64 ≤ nI q := nI_ge h (by omega)
    have h2 : ¬ nI q = 64 := fun hh => by
      have := (nI_eq (a := q) (b := 64) (by omega) (by omega)).mp hh
      omega
    have h3 : f_Li_isFull (nI 64) (nI q) = 0 := by unfold f_Li_isFull; rw [if_pos (nI_lt h (by omega))]
    refine ⟨fun _ _ => ?_, fun _ => vp_in_nI h (by omega), ?_, ?_⟩
    · rw [wt_place hf hq]; exact vp_in_nI (Nat.mod_lt _ (by omega)) (by omega)
    · unfold f_Co_input f_Mo_input f_Li_append
      rw [if_pos h3, if_neg h2, if_neg h1]
    · unfold f_Co_input f_Mo_input f_Li_append
      rw [if_pos h3, if_neg h2, if_neg h1]
      refine ⟨f, q + 1, hf, by omega, rfl, rfl, nI_1 q, nI_1 q, ?_⟩
      intro j hj
      show upd gn (Int32.toNatClampNeg (f_Li_placeOfNth (nI 64) (nI f) (nI q))) v ((f + j) % 64) = upd mn (Int32.toNatClampNeg (nI q)) v j ∧ upd gl (Int32.toNatClampNeg (f_Li_placeOfNth (nI 64) (nI f) (nI q))) b ((f + j) % 64) = upd ml (Int32.toNatClampNeg (nI q)) b j
      rw [wt_place hf hq, cl_nI (show q < 2 ^ 31 by omega), cl_nI (show (f + q) % 64 < 2 ^ 31 by omega)]
      by_cases e : j = q
      · rw [e, upd_same, upd_same, upd_same, upd_same]; exact ⟨rfl, rfl⟩
      · have e' : (f + j) % 64 ≠ (f + q) % 64 := by omega
        rw [upd_ne _ _ e, upd_ne _ _ e, upd_ne _ _ e', upd_ne _ _ e']
        exact hi j (by omega)
  · have hk' : q = 64 := by omega
    subst hk'
    have h1 : ¬ f_Li_isFull (nI 64) (nI 64) = 0 := by decide
    have h2 : nI 64 = 64 := rfl
    refine ⟨fun h => absurd h h1, fun h => absurd h2 h, ?_, ?_⟩
    · unfold f_Co_input f_Mo_input
      rw [if_neg h1, if_pos h2]
    · unfold f_Co_input f_Mo_input
      rw [if_neg h1, if_pos h2]
      exact ⟨f, 64, hf, hq, rfl, rfl, rfl, rfl, hi⟩
theorem wt_zero (gn gl mn ml : Nat → Int32) : RWait 64 0 0 gn gl 0 mn ml := ⟨0, 0, by omega, by omega, rfl, rfl, rfl, rfl, fun i h => absurd h (by omega)⟩
theorem wt_room {room first count : Int32} {gn gl : Nat → Int32} {wait : Int32} {mn ml : Nat → Int32} (h : RWait room first count gn gl wait mn ml) : room = 64 ∧ count = wait := by
  obtain ⟨f, q, hf, hq, rfl, rfl, rfl, rfl, hi⟩ := h
  exact ⟨rfl, rfl⟩
theorem ti_loop (w : Nat) (hw : w ≤ 64) (g0 : Nat → Int32) (g gl : Nat → Int32) : ∀ (fu i : Nat) (u ul : Nat → Int32), i ≤ w - 1 → 65 ≤ i + fu → (∀ j, u j = if j < i then g (j + 1) else g j) → (∀ j, ul j = if j < i then gl (j + 1) else gl j) → 0 < w → ∃ u' ul', lp_Mo_takeIn_19 (nI w) g0 fu (nI i) u ul = (g0 (Int32.toNatClampNeg 0), nI (w - 1), u', ul') ∧ (∀ j, j < w - 1 → u' j = g (j + 1)) ∧ ∀ j, j < w - 1 → ul' j = gl (j + 1) := by
  intro fu
  induction fu with
  | zero => intro i u ul h1 h2; omega
  | succ fu ih =>
    intro i u ul h1 h2 k1 k2 h0
    have hw1 : nI w - 1 = nI (w - 1) := pk_sub (a := w) (b := 1) (by omega)
    unfold lp_Mo_takeIn_19
    rw [hw1]
    rcases Nat.lt_or_ge i (w - 1) with h | h
    · rw [if_neg (nI_ge h (by omega)), nI_1, cl_nI (show i < 2 ^ 31 by omega), cl_nI (show i + 1 < 2 ^ 31 by omega)]
      refine ih (i + 1) _ _ (by omega) (by omega) (fun j => ?_) (fun j => ?_) h0
      · by_cases e : j = i
        · rw [e, upd_same, k1 (i + 1), if_neg (by omega), if_pos (by omega)]
        · rw [upd_ne _ _ e, k1 j]
          by_cases e2 : j < i
          · rw [if_pos e2, if_pos (by omega)]
          · rw [if_neg e2, if_neg (by omega)]
      · by_cases e : j = i
        · rw [e, upd_same, k2 (i + 1), if_neg (by omega), if_pos (by omega)]
        · rw [upd_ne _ _ e, k2 j]
          by_cases e2 : j < i
          · rw [if_pos e2, if_pos (by omega)]
          · rw [if_neg e2, if_neg (by omega)]
    · rw [if_pos (nI_le h (by omega))]
      exact ⟨u, ul, rfl, fun j hj => by rw [k1 j, if_pos (by omega)], fun j hj => by rw [k2 j, if_pos (by omega)]⟩
theorem wt_take {room first count : Int32} {gn gl : Nat → Int32} {wait : Int32} {mn ml : Nat → Int32} (h : RWait room first count gn gl wait mn ml) (h0 : ¬ wait = 0) : gn (Int32.toNatClampNeg first) = (f_Mo_takeIn wait mn ml).1 ∧ gl (Int32.toNatClampNeg first) = ml (Int32.toNatClampNeg 0) ∧ RWait room (f_Li_dropFirst room first count).1 (f_Li_dropFirst room first count).2 gn gl (f_Mo_takeIn wait mn ml).2.1 (f_Mo_takeIn wait mn ml).2.2.1 (f_Mo_takeIn wait mn ml).2.2.2 := by
  obtain ⟨f, q, hf, hq, rfl, rfl, rfl, rfl, hi⟩ := h
  have hq0 : 0 < q := by
    rcases Nat.eq_zero_or_pos q with h | h
    · subst h; exact absurd nI_0 h0
    · exact h
  obtain ⟨u, ul, e, k1, k2⟩ := ti_loop q hq mn mn ml 65 0 mn ml (by omega) (by omega) (fun j => by rw [if_neg (by omega)]) (fun j => by rw [if_neg (by omega)]) hq0
  have e : f_Mo_takeIn (nI q) mn ml = (mn (Int32.toNatClampNeg 0), nI (q - 1), u, ul) := e
  have h00 := hi 0 hq0
  rw [show (f + 0) % 64 = f by omega] at h00
  rw [e, cl_nI (show f < 2 ^ 31 by omega)]
  refine ⟨h00.1, h00.2, ?_⟩
  unfold f_Li_dropFirst
  rw [if_neg (nI_nle hq0 (by omega))]
  show RWait (nI 64) (f_Li_placeOfNth (nI 64) (nI f) (nI 1)) (nI q - 1) gn gl (nI (q - 1)) u ul
  rw [wt_place hf (by omega)]
  refine ⟨(f + 1) % 64, q - 1, Nat.mod_lt _ (by omega), by omega, rfl, rfl, pk_sub (a := q) (b := 1) (by omega), rfl, fun j hj => ?_⟩
  have := hi (j + 1) (by omega)
  rw [show ((f + 1) % 64 + j) % 64 = (f + (j + 1)) % 64 by omega, k1 j hj, k2 j hj]
  exact this
-- the line of what went out
theorem go_zero (gn gl mn ml : Nat → Int32) : RGone 256 0 0 gn gl 0 mn ml := ⟨0, by omega, rfl, rfl, rfl, rfl, fun i h => absurd h (by omega)⟩
theorem go_room {room first count : Int32} {gn gl : Nat → Int32} {went : Int32} {mn ml : Nat → Int32} (h : RGone room first count gn gl went mn ml) : room = 256 ∧ first = 0 ∧ count = went := by
  obtain ⟨o, ho, rfl, rfl, rfl, rfl, hi⟩ := h
  exact ⟨rfl, rfl, rfl⟩
theorem go_place {j : Nat} (hj : j < 256) : f_Li_placeOfNth (nI 256) (nI 0) (nI j) = nI j := by
  unfold f_Li_placeOfNth
  rw [nI_add, Nat.zero_add, if_pos (nI_lt hj (by omega))]
theorem go_full {room first count : Int32} {gn gl : Nat → Int32} {went : Int32} {mn ml : Nat → Int32} (h : RGone room first count gn gl went mn ml) : (f_Li_isFull room count = 0 ↔ ¬ went = 256) := by
  obtain ⟨o, ho, rfl, rfl, rfl, rfl, hi⟩ := h
  unfold f_Li_isFull
  rcases Nat.lt_or_ge o 256 with h | h
  · rw [if_pos (nI_lt h (by omega))]
    refine ⟨fun _ hh => ?_, fun _ => rfl⟩
    have := (nI_eq (a := o) (b := 256) (by omega) (by omega)).mp hh
    omega
  · have : o = 256 := by omega
    subst this
    exact ⟨fun h => absurd h (by decide), fun h => absurd rfl h⟩
theorem go_put {room first count : Int32} {gn gl : Nat → Int32} {went : Int32} {mn ml : Nat → Int32} (h : RGone room first count gn gl went mn ml) (hn : ¬ went = 256) (v b : Int32) : (¬ room ≤ count → vp_in (f_Li_placeOfNth room first count) 256) ∧ vp_in went 256 ∧ RGone room first (f_Li_append room first count gn gl v b).1 (f_Li_append room first count gn gl v b).2.1 (f_Li_append room first count gn gl v b).2.2 (went + 1) (upd mn (Int32.toNatClampNeg went) v) (upd ml (Int32.toNatClampNeg went) b) := by
  obtain ⟨o, ho, rfl, rfl, rfl, rfl, hi⟩ := h
  have h : o < 256 := by
    rcases Nat.lt_or_ge o 256 with h | h
    · exact h
    · have : o = 256 := by omega
      subst this
      exact absurd rfl hn
  refine ⟨fun _ => by rw [go_place h]; exact vp_in_nI h (by omega), vp_in_nI h (by omega), ?_⟩
  unfold f_Li_append
  rw [if_neg (nI_ge h (by omega)), go_place h, cl_nI (show o < 2 ^ 31 by omega)]
  refine ⟨o + 1, by omega, rfl, rfl, nI_1 o, nI_1 o, fun j hj => ?_⟩
  show upd gn o v j = upd mn o v j ∧ upd gl o b j = upd ml o b j
  by_cases e : j = o
  · rw [e, upd_same, upd_same, upd_same, upd_same]; exact ⟨rfl, rfl⟩
  · rw [upd_ne _ _ e, upd_ne _ _ e, upd_ne _ _ e, upd_ne _ _ e]; exact hi j (by omega)
