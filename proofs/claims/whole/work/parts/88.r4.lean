/-! own: today: the class's half -/
section TD4
variable {T : Nat} {L : Nat} {b : Nat → Int} {wa gain fd : Nat → Int32}
theorem mn_p {x y : Int32} {a c : Int} (hx : x.toInt = a) (hy : y.toInt = c) : (if x < y then x else y).toInt = min c a := by
  by_cases h : x < y
  · rw [if_pos h, hx]
    have := (lt_of hx hy).mp h
    omega
  · rw [if_neg h, hy]
    have := (not_congr (lt_of hx hy)).mp h
    omega
/-- the class's rows: water and gain of each -/
def rc_ (T : Nat) (b : Nat → Int) (wa gain : Nat → Int32) : Prop := ∀ t, t < T → ∃ W G : Int, (wa t).toInt = W ∧ (gain t).toInt = G ∧ b t = W + G ∧ 0 ≤ W ∧ W ≤ 100000 ∧ -9 ≤ G ∧ G ≤ 9
theorem rc_b (hr : rc_ T b wa gain) {t : Nat} (ht : t < T) : -9 ≤ b t ∧ b t ≤ 100009 := by
  obtain ⟨W, G, -, -, h3, h4⟩ := hr t ht
  omega
theorem e_cost (hT : T ≤ 6) (hr : rc_ T b wa gain) {t : Nat} (ht : t < T) {h : Int32} {v : Int} (eh : h.toInt = v) (h0 : 0 ≤ v) (h1 : v ≤ 2000000) : ∃ c, F_X1_costOf wa gain (nI t) h = some c ∧ c.toInt = max 0 (v - b t) := by
  obtain ⟨W, G, a1, a2, a3, a4⟩ := hr t ht
  unfold F_X1_costOf
  rw [if_pos (ok_T (by omega) (by omega)), nI_clamp (n := t) (by omega)]
  refine ⟨_, rfl, ?_⟩
  rw [mx_p (ts_ (ts_ eh a1 (by omega) (by omega)) a2 (by omega) (by omega)), a3, Int.sub_sub]
theorem cs_b (hT : T ≤ 6) (hr : rc_ T b wa gain) {v : Int} (h0 : 0 ≤ v) (h1 : v ≤ 2000000) {i : Nat} (hi : i ≤ T) : 0 ≤ cs_ b v i ∧ cs_ b v i ≤ 2000009 * i := by
  exact si_b (M := 2000009) i (fun t ht => by have := rc_b hr (t := t) (by omega); show 0 ≤ max 0 (v - b t) ∧ max 0 (v - b t) ≤ 2000009; omega)
theorem e_cost4 (hT : T ≤ 6) (hr : rc_ T b wa gain) {h : Int32} {v : Int} (eh : h.toInt = v) (h0 : 0 ≤ v) (h1 : v ≤ 2000000) : ∀ (n i : Nat) (y : Int32), i ≤ T → T - i < n → y.toInt = cs_ b v i → ∃ c, F_X1_costOfAll_4 wa gain (nI T) n h y (nI i) = some c ∧ c.toInt = cs_ b v T := by
  intro n
  induction n with
  | zero => intro i _ _ h; exact absurd h (by omega)
  | succ n ih =>
    intro i y hi hn hy
    rw [F_X1_costOfAll_4]
    by_cases h : T ≤ i
    · rw [if_pos ((nI_leI (by omega) (by omega)).mpr h)]
      have e : i = T := by omega
      subst e
      exact ⟨y, rfl, hy⟩
    · obtain ⟨c, c1, c2⟩ := e_cost hT hr (t := i) (by omega) eh h0 h1
      have k1 := cs_b hT hr h0 h1 (i := i) hi
      have k2 := rc_b hr (t := i) (by omega)
      rw [if_neg (fun z => h ((nI_leI (by omega) (by omega)).mp z)), c1]
      simp only [Option.bind_some]
      rw [show nI i + (1 : Int32) = nI (i + 1) from nI_1 i]
      exact ih (i + 1) _ (by omega) (by omega) (by rw [cs_s, ta_ hy c2 (by omega) (by omega)])
theorem e_costAll (hT : T ≤ 6) (hr : rc_ T b wa gain) {h : Int32} {v : Int} (eh : h.toInt = v) (h0 : 0 ≤ v) (h1 : v ≤ 2000000) : ∃ c, F_X1_costOfAll wa gain (nI T) h = some c ∧ c.toInt = cs_ b v T := by
  obtain ⟨c, c1, c2⟩ := e_cost4 hT hr eh h0 h1 FU_ 0 0 (by omega) (fu_gt (by omega)) rfl
  rw [nI_0] at c1
  exact ⟨c, by rw [F_X1_costOfAll]; exact c1, c2⟩
theorem e_least5 (hT : T ≤ 6) (hr : rc_ T b wa gain) : ∀ (n i : Nat) (y : Int32), i ≤ T → T - i < n → y.toInt = lo_ b (fun _ => 0) i → ∃ c, F_X1_leastAfterDay_5 wa gain (nI T) n y (nI i) = some c ∧ c.toInt = lo_ b (fun _ => 0) T := by
  intro n
  induction n with
  | zero => intro i _ _ h; exact absurd h (by omega)
  | succ n ih =>
    intro i y hi hn hy
    rw [F_X1_leastAfterDay_5]
    by_cases h : T ≤ i
    · rw [if_pos ((nI_leI (by omega) (by omega)).mpr h)]
      have e : i = T := by omega
      subst e
      exact ⟨y, rfl, hy⟩
    · obtain ⟨W, G, a1, a2, a3, a4⟩ := hr i (by omega)
      rw [if_neg (fun z => h ((nI_leI (by omega) (by omega)).mp z)), if_pos (ok_T (by omega) (by omega)), nI_clamp (n := i) (by omega), show nI i + (1 : Int32) = nI (i + 1) from nI_1 i]
      refine ih (i + 1) _ (by omega) (by omega) ?_
      rw [mn_p (mx_p (ta_ a1 a2 (by omega) (by omega))) hy, lo_, a3, Int.add_zero]
theorem e_leastA (hT : T ≤ 6) (hr : rc_ T b wa gain) : ∃ c, F_X1_leastAfterDay wa gain (nI T) = some c ∧ c.toInt = lo_ b (fun _ => 0) T := by
  obtain ⟨c, c1, c2⟩ := e_least5 hT hr FU_ 0 1000000 (by omega) (fu_gt (by omega)) rfl
  rw [nI_0] at c1
  exact ⟨c, by rw [F_X1_leastAfterDay]; exact c1, c2⟩
theorem z_40 : ok_I (0 : Int32) 40 = true := by decide
theorem z_cl : (0 : Int32).toNatClampNeg = 0 := by decide
theorem e_height7 (hT : T ≤ 6) (h1 : 1 ≤ T) (hr : rc_ T b wa gain) (hL : L ≤ 12) (hf : fd 0 = nI L) : ∀ (n j : Nat) (y : Int32), j ≤ 12 → 12 - j < n → y.toInt = lo_ b (fun _ => 0) T + j → cs_ b (lo_ b (fun _ => 0) T + j) T ≤ L → ∃ H, F_X1_greatestHeight_7 wa gain fd (nI T) n y (nI j) = some H ∧ 0 ≤ H.toInt ∧ H.toInt ≤ 1000000 ∧ cs_ b H.toInt T ≤ L ∧ (L : Int) < cs_ b (H.toInt + 1) T := by
  have hb : ∀ t, t < T → b t ≤ 900000 := fun t ht => by have := rc_b hr ht; omega
  have l0 := lo_0 (b := b) (x := fun _ => 0) T
  have l1 : lo_ b (fun _ => 0) T ≤ 100009 := by
    have := lo_le (b := b) (x := fun _ => 0) (t := 0) T (by omega)
    have := rc_b hr (t := 0) (by omega)
    omega
  intro n
  induction n with
  | zero => intro j _ _ h; exact absurd h (by omega)
  | succ n ih =>
    intro j y hj hn hy hc
    rw [F_X1_greatestHeight_7]
    by_cases h : 12 ≤ j
    · rw [if_pos ((le_of tl_12 (ti_nI (by omega))).mpr (by omega))]
      refine ⟨y, rfl, by omega, by omega, by rw [hy]; exact hc, ?_⟩
      have := cs_up (b := b) (T := T) (j := (j : Int) + 1) h1 hb (by omega)
      rw [hy, Int.add_assoc]
      omega
    · have ey : (y + 1).toInt = lo_ b (fun _ => 0) T + ((j + 1 : Nat) : Int) := by
        rw [ta_ hy tl_1 (by omega) (by omega)]
        omega
      obtain ⟨c, c1, c2⟩ := e_costAll hT hr ey (by omega) (by omega)
      rw [if_neg (fun z => absurd ((le_of tl_12 (ti_nI (by omega))).mp z) (by omega)), c1]
      simp only [Option.bind_some]
      rw [if_pos z_40, z_cl, hf]
      by_cases q : nI L < c
      · rw [if_pos q]
        refine ⟨y, rfl, by omega, by omega, by rw [hy]; exact hc, ?_⟩
        have := (lt_of (ti_nI (by omega)) c2).mp q
        rw [hy, Int.add_assoc]
        exact this
      · rw [if_neg q, show nI j + (1 : Int32) = nI (j + 1) from nI_1 j]
        exact ih (j + 1) _ (by omega) (by omega) ey (by have := (not_congr (lt_of (ti_nI (by omega)) c2)).mp q; omega)
theorem e_height (hT : T ≤ 6) (h1 : 1 ≤ T) (hr : rc_ T b wa gain) (hL : L ≤ 12) (hf : fd 0 = nI L) (hc : cs_ b 0 T ≤ L) : ∃ H, F_X1_greatestHeight wa gain fd (nI T) = some H ∧ 0 ≤ H.toInt ∧ H.toInt ≤ 1000000 ∧ cs_ b H.toInt T ≤ L ∧ (L : Int) < cs_ b (H.toInt + 1) T := by
  obtain ⟨m, m1, m2⟩ := e_leastA hT hr
  obtain ⟨H, a1, a2⟩ := e_height7 (fd := fd) hT h1 hr hL hf FU_ 0 m (by omega) (by unfold FU_; omega) (by rw [m2]; omega) (by have := cs_low hc (by omega); rw [show lo_ b (fun _ => 0) T + ((0 : Nat) : Int) = lo_ b (fun _ => 0) T by omega]; exact this)
  rw [nI_0] at a1
  refine ⟨H, ?_, a2⟩
  rw [F_X1_greatestHeight, m1, Option.bind_some]
  exact a1
theorem e_enough14 (hT : T ≤ 6) (hr : rc_ T b wa gain) (hL : L ≤ 12) {y1 : Int32} {H : Int} (eH : y1.toInt = H) (h0 : 0 ≤ H) (hM : H ≤ 1000000) (hc : cs_ b H T ≤ L) : ∀ (n i : Nat) (share : Nat → Int32) (y : Int32), i ≤ T → T - i < n → (i < T → y.toInt = L - cs_ b H i) → (∀ t, t < i → (share t).toInt = en_ T L b H t) → ∃ s2, F_X1_shareEnough_14 wa gain fd (nI T) n share y1 y (nI i) = some s2 ∧ ∀ t, t < T → (s2 t).toInt = en_ T L b H t := by
  have up : ∀ (i : Nat) (share : Nat → Int32) (v : Int32), i < T → (∀ t, t < i → (share t).toInt = en_ T L b H t) → v.toInt = en_ T L b H i → ∀ t, t < i + 1 → (upd share i v t).toInt = en_ T L b H t := by
    intro i share v hi hs hv t ht
    by_cases e : t = i
    · subst e
      rw [pk_us, hv]
    · rw [pk_un e]
      exact hs t (by omega)
  intro n
  induction n with
  | zero => intro i _ _ _ h; exact absurd h (by omega)
  | succ n ih =>
    intro i share y hi hn hy hs
    rw [F_X1_shareEnough_14]
    by_cases h : T ≤ i
    · rw [if_pos ((nI_leI (by omega) (by omega)).mpr h)]
      exact ⟨share, rfl, fun t ht => hs t (by omega)⟩
    · have ok : ok_I (nI i) 6 = true := ok_T (by omega) (by omega)
      have e1 : nI T - 1 = nI (T - 1) := pk_sub (a := T) (b := 1) (by omega)
      have k1 := cs_b hT hr h0 (by omega) (i := i) hi
      rw [if_neg (fun z => h ((nI_leI (by omega) (by omega)).mp z)), e1]
      by_cases q : i = T - 1
      · rw [if_pos ((nI_eq (by omega) (by omega)).mpr q), F_X1_shareEnough_47, if_pos ok, if_pos ok, nI_clamp (n := i) (by omega), pk_us, show nI i + (1 : Int32) = nI (i + 1) from nI_1 i]
        refine ih (i + 1) _ _ (by omega) (by omega) (fun z => absurd z (by omega)) (up i share y (by omega) hs ?_)
        unfold en_
        rw [if_pos (by omega), hy (by omega)]
      · obtain ⟨c, c1, c2⟩ := e_cost hT hr (t := i) (by omega) eH h0 (by omega)
        rw [if_neg (fun z => q ((nI_eq (by omega) (by omega)).mp z)), c1]
        simp only [Option.bind_some]
        rw [F_X1_shareEnough_47, if_pos ok, if_pos ok, nI_clamp (n := i) (by omega), pk_us, show nI i + (1 : Int32) = nI (i + 1) from nI_1 i]
        have k2 := rc_b hr (t := i) (by omega)
        refine ih (i + 1) _ _ (by omega) (by omega) (fun z => ?_) (up i share c (by omega) hs ?_)
        · rw [ts_ (hy (by omega)) c2 (by omega) (by omega), cs_s]
          omega
        · unfold en_
          rw [if_neg (by omega), c2]
theorem e_few14 (hT : T ≤ 6) (hr : rc_ T b wa gain) (hL : L ≤ 12) : ∀ (n i : Nat) (share : Nat → Int32) (y : Int32), i ≤ T → i < n → y.toInt = rm_ T L b i → (∀ t, i ≤ t → t < T → (share t).toInt = fw_ T L b t) → ∃ s2, F_X1_shareTooFew_14 wa gain fd (nI T) n share y (nI i - 1) = some s2 ∧ ∀ t, t < T → (s2 t).toInt = fw_ T L b t := by
  intro n
  induction n with
  | zero => intro i _ _ _ h; exact absurd h (by omega)
  | succ n ih =>
    intro i share y hi hn hy hs
    rw [F_X1_shareTooFew_14]
    by_cases h : i = 0
    · subst h
      rw [if_pos (show nI 0 - 1 < 0 by decide)]
      exact ⟨share, rfl, fun t ht => hs t (by omega) ht⟩
    · obtain ⟨i, rfl⟩ : ∃ j, i = j + 1 := ⟨i - 1, by omega⟩
      obtain ⟨c, c1, c2⟩ := e_cost hT hr (t := i) (by omega) tl_0 (by omega) (by omega)
      rw [show nI (i + 1) - (1 : Int32) = nI i from pk_sub (a := i + 1) (b := 1) (by omega), if_neg (fun z => absurd ((lt_of (ti_nI (by omega)) tl_0).mp z) (by omega)), c1]
      simp only [Option.bind_some]
      rw [if_pos (ok_T (by omega) (by omega)), nI_clamp (n := i) (by omega), pk_us, show nI i + (-1 : Int32) = nI i - 1 from (Int32.sub_eq_add_neg _ _).symm]
      have k0 : 0 ≤ rm_ T L b (i + 1) ∧ rm_ T L b (i + 1) ≤ L := by
        have := si_m (f := fun t => max 0 (0 - b t)) (p := i + 1) (n := T) hi (fun t _ => by show 0 ≤ max 0 (0 - b t); omega)
        have h3 : cs_ b 0 (i + 1) ≤ cs_ b 0 T := this
        unfold rm_
        omega
      have k1 : (if c < y then c else y).toInt = fw_ T L b i := by
        rw [mn_p c2 hy]
        unfold fw_
        omega
      have k2 : 0 ≤ fw_ T L b i ∧ fw_ T L b i ≤ L := by
        unfold fw_
        omega
      refine ih i _ _ (by omega) (by omega) ?_ (fun t h1 h2 => ?_)
      · rw [ts_ hy k1 (by omega) (by omega), rm_s (i := i)]
      · by_cases e : t = i
        · subst e
          rw [pk_us, k1]
        · rw [pk_un e]
          exact hs t (by omega) h2
/-- what the class answers is the way that is found -/
theorem e_share (hT : T ≤ 6) (h1 : 1 ≤ T) (hr : rc_ T b wa gain) (hL : L ≤ 12) (hf : fd 0 = nI L) (share : Nat → Int32) : ∃ (l : Int32) (s2 : Nat → Int32) (xs : Nat → Int) (o : Int), F_X1_shareOut wa gain fd (nI T) share = some (l, s2) ∧ op_ T L b xs l.toInt o ∧ ∀ t, t < T → (s2 t).toInt = xs t := by
  obtain ⟨c, c1, c2⟩ := e_costAll hT hr tl_0 (by omega) (by omega)
  unfold F_X1_shareOut
  rw [c1, Option.bind_some, if_pos z_40, z_cl, hf]
  by_cases q : c ≤ nI L
  · have q1 := (le_of c2 (ti_nI (by omega))).mp q
    obtain ⟨H, a1, a2, a3, a4, a5⟩ := e_height hT h1 hr hL hf q1
    obtain ⟨s2, b1, b2⟩ := e_enough14 (fd := fd) hT hr hL rfl a2 a3 a4 FU_ 0 share (nI L) (by omega) (fu_gt (by omega)) (fun _ => by rw [ti_nI (by omega)]; show (L : Int) = L - 0; omega) (fun t ht => absurd ht (by omega))
    rw [nI_0] at b1
    rw [if_pos q, F_X1_shareEnough, a1, Option.bind_some, if_pos z_40, z_cl, hf, b1, Option.bind_some]
    exact ⟨0, s2, _, _, rfl, enough_op h1 a2 a3 a4 a5, b2⟩
  · have q1 := (not_congr (le_of c2 (ti_nI (by omega)))).mp q
    have k1 := cs_b hT hr (v := 0) (by omega) (by omega) (i := T) (by omega)
    obtain ⟨s2, b1, b2⟩ := e_few14 (fd := fd) hT hr hL FU_ T share (nI L) (by omega) (fu_gt (by omega)) (by rw [ti_nI (by omega)]; unfold rm_; omega) (fun t k1 k2 => absurd k1 (by omega))
    rw [if_neg q, F_X1_shareTooFew, if_pos z_40, z_cl, hf, b1, Option.bind_some]
    refine ⟨_, s2, fw_ T L b, 0, rfl, ?_, b2⟩
    rw [ts_ c2 (ti_nI (by omega)) (by omega) (by omega)]
    exact few_op (by omega) (by omega)
end TD4
