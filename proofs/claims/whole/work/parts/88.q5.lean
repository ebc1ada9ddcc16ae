/-! own: safe, least: day by day -/
def sl_ (W E : Nat → Int) (T : Nat) (d : Int) : Int := si_ (fun t => lac_ (W t) (E t) d) T
theorem lev_b {W e : Int} {d : Nat} (hW : 0 ≤ W ∧ W ≤ 100000) (he : -9 ≤ e ∧ e ≤ 9) (hd : d ≤ 40) : 0 ≤ lev_ W e d ∧ lev_ W e d ≤ 1000000 := by
  unfold lev_
  have : -9 * (d : Int) ≤ e * d := Int.mul_le_mul_of_nonneg_right (by omega) (by omega)
  generalize e * (d : Int) = P at *
  omega
theorem lac_b {W e d : Int} (he : e ≤ 9) : 0 ≤ lac_ W e d ∧ lac_ W e d ≤ 9 := by
  have h : 0 ≤ lev_ W e d := by unfold lev_; omega
  unfold lac_
  omega
theorem e_l87 {many days day' left' : Int32} {mn md mr w' : Nat → Int32} {k8 : Int32 → Int32 → Int32 → Int32 → Int32 → Option Int32} (y1 y2 p y4 y5 o : Int32) : F_X12_lacks_87 many mn md days mr day' left' w' k8 y1 y2 p y4 y5 o = k8 y1 y2 (p - (if o < p then o else p)) (y4 + (o - (if o < p then o else p))) (y5 + 1) := by
  unfold F_X12_lacks_87 F_X12_lacks_103
  by_cases h : o < p
  · have h1 : o ≤ p := Int32.le_iff_toInt_le.mpr (by have := Int32.lt_iff_toInt_lt.mp h; omega)
    have h2 : ¬ p ≤ o := fun z => by have := Int32.lt_iff_toInt_lt.mp h; have := Int32.le_iff_toInt_le.mp z; omega
    simp only [h, h1, h2, if_true, if_false, Int32.sub_self]
  · have h2 : p ≤ o := Int32.le_iff_toInt_le.mpr (by have := (not_congr Int32.lt_iff_toInt_lt).mp h; omega)
    by_cases h1 : o ≤ p
    · have e : o = p := Int32.toInt_inj.mp (by have := Int32.le_iff_toInt_le.mp h1; have := Int32.le_iff_toInt_le.mp h2; omega)
      subst e
      simp only [h, h1, if_true, if_false, Int32.sub_self]
    · simp only [h, h1, h2, if_true, if_false]
section CO12
variable {k T D dy : Nat} {te da la sl sL many days law slip len : Int32} {cn cd cr cs mn md mr ms : Nat → Int32}
variable {w lk st ss w' lk' st' ss' : Nat → Int32} {day left turn lot seen day' left' turn' lot' seen' : Int32}
variable {gain fd wa : Nat → Int32} {W E : Nat → Int}
theorem e_day (hT : T ≤ 6) (hg : ∀ t, t < T → (gain t).toInt = -(E t) ∧ -9 ≤ E t ∧ E t ≤ 9) (hW : ∀ t, t < T → 0 ≤ W t ∧ W t ≤ 100000) {d : Nat} (hd : d < 40) {level : Nat → Int32} (hl : ∀ t, t < T → (level t).toInt = lev_ (W t) (E t) d) (pool : Int32) : ∃ (o : Int32) (l2 : Nat → Int32), o.toInt = sl_ W E T d ∧ (∀ t, t < T → (l2 t).toInt = lev_ (W t) (E t) ((d : Int) + 1)) ∧ F_X1_lackOfDay gain fd (nI T) level pool (nI d) = some (o - (if o < pool + fd d then o else pool + fd d), l2, (pool + fd d) - (if o < pool + fd d then o else pool + fd d)) := by
  obtain ⟨o, l2, e1, e2, e3⟩ := e_pass (T := T) (gain := gain) (E := E) hT hg (Lv := fun t => lev_ (W t) (E t) d) (fun t ht => lev_b (hW t ht) (hg t ht).2 (by omega)) hl
  refine ⟨o, l2, e2, fun t ht => ?_, ?_⟩
  · rw [e3 t ht, lev_s (hW t ht).1 (by omega)]
  · unfold F_X1_lackOfDay
    rw [if_pos (ok_T (by omega) (by omega)), e1, nI_clamp (n := d) (by omega)]
    rfl
theorem e_l46 {k8 : Int32 → Int32 → Int32 → Int32 → Int32 → Option Int32} (hT : T ≤ 6) (hm : ∀ t, t < T → ∃ a b : Nat, a ≤ 9 ∧ b ≤ 3 ∧ mn t = nI a ∧ md t = nI b ∧ E t = (a : Int) - b) (hw : ∀ t, t < T → (w' t).toInt = W t ∧ 0 ≤ W t ∧ W t ≤ 100000) {d : Nat} (hd : d < 100) (y1 y2 y3 y4 : Int32) : ∀ (n i : Nat) (y6 : Int32), i ≤ T → T - i < n → y6.toInt = si_ (fun t => lac_ (W t) (E t) d) i → ∃ o : Int32, o.toInt = sl_ W E T d ∧ F_X12_lacks_46 (nI T) mn md days mr day' left' w' k8 n y1 y2 y3 y4 (nI d) y6 (nI i) = (if o ≤ y3 then F_X12_lacks_87 (nI T) mn md days mr day' left' w' k8 y1 y2 y3 y4 (nI d) o else if y2 = 0 then F_X12_lacks_87 (nI T) mn md days mr day' left' w' k8 y1 y2 y3 y4 (nI d) o else some (nI d)) := by
  intro n
  induction n with
  | zero => intro i _ _ h; exact absurd h (by omega)
  | succ n ih =>
    intro i y6 hi hn hy
    rw [F_X12_lacks_46]
    by_cases h : T ≤ i
    · rw [if_pos ((nI_leI (by omega) (by omega)).mpr h)]
      have hiT : i = T := by omega
      subst hiT
      exact ⟨y6, hy, rfl⟩
    · obtain ⟨z, e1, e2⟩ := e_wants (E := E) (W := W) (t := i) (d := d) (by omega) hd (hm i (by omega)) (hw i (by omega))
      have sb := si_b (M := 9) (f := fun t => lac_ (W t) (E t) d) i (fun t ht => by obtain ⟨a, b, h1, h2, -, -, h3⟩ := hm t (by omega); exact lac_b (by omega))
      obtain ⟨a, b, h1, h2, -, -, h3⟩ := hm i (by omega)
      have lb := lac_b (W := W i) (e := E i) (d := d) (by omega)
      rw [if_neg (fun z => h ((nI_leI (by omega) (by omega)).mp z)), e1]
      simp only [Option.bind_some]
      rw [show nI i + (1 : Int32) = nI (i + 1) from nI_1 i]
      refine ih (i + 1) _ (by omega) (by omega) ?_
      rw [si_, ta_ hy e2 (by omega) (by omega)]
/-- a day of the reference -/
theorem e_refday (hT : T ≤ 6) (hD : D ≤ 20) (hdy : dy ≤ 99) (hm : ∀ t, t < T → ∃ a b : Nat, a ≤ 9 ∧ b ≤ 3 ∧ mn t = nI a ∧ md t = nI b ∧ E t = (a : Int) - b) (hw : ∀ t, t < T → (w' t).toInt = W t ∧ 0 ≤ W t ∧ W t ≤ 100000) (f0 : fd 0 = left') (f1 : ∀ j, 1 ≤ j → j < 40 → fd j = if dy + j < D then mr (dy + j) else 0) {d : Nat} (hd : d < 40) {o : Int32} (ho : o.toInt = sl_ W E T d) {n : Nat} {y1 y2 pool s : Int32} (h1 : ¬ y1 ≤ nI d) : F_X12_lacks_8 (nI T) mn md (nI D) mr (nI dy) left' w' (n + 1) y1 y2 pool s (nI d) = if o ≤ pool + fd d ∨ y2 = 0 then F_X12_lacks_8 (nI T) mn md (nI D) mr (nI dy) left' w' n y1 y2 ((pool + fd d) - (if o < pool + fd d then o else pool + fd d)) (s + (o - (if o < pool + fd d then o else pool + fd d))) (nI (d + 1)) else some (nI d) := by
  have key : ∀ x : Int32, x = fd d → F_X12_lacks_38 (nI T) mn md (nI D) mr (nI dy) left' w' (F_X12_lacks_8 (nI T) mn md (nI D) mr (nI dy) left' w' n) y1 y2 s (nI d) pool x = if o ≤ pool + fd d ∨ y2 = 0 then F_X12_lacks_8 (nI T) mn md (nI D) mr (nI dy) left' w' n y1 y2 ((pool + fd d) - (if o < pool + fd d then o else pool + fd d)) (s + (o - (if o < pool + fd d then o else pool + fd d))) (nI (d + 1)) else some (nI d) := by
    intro x hx
    subst hx
    unfold F_X12_lacks_38
    obtain ⟨o2, e1, e2⟩ := e_l46 (T := T) (mn := mn) (md := md) (mr := mr) (w' := w') (days := nI D) (day' := nI dy) (left' := left') (E := E) (W := W) (k8 := F_X12_lacks_8 (nI T) mn md (nI D) mr (nI dy) left' w' n) hT hm hw (d := d) (by omega) y1 y2 (pool + fd d) s FU_ 0 0 (by omega) (by unfold FU_; omega) rfl
    have e : o2 = o := Int32.toInt_inj.mp (by rw [e1, ho])
    subst e
    rw [show (0 : Int32) = nI 0 from rfl] at e2 ⊢
    rw [e2, e_l87, show nI d + (1 : Int32) = nI (d + 1) from nI_1 d]
    by_cases c1 : o2 ≤ pool + fd d
    · rw [if_pos c1, if_pos (Or.inl c1)]
    · rw [if_neg c1]
      by_cases c2 : y2 = nI 0
      · rw [if_pos c2, if_pos (Or.inr c2)]
      · rw [if_neg c2, if_neg (fun z => z.elim c1 c2)]
  rw [F_X12_lacks_8, if_neg h1]
  by_cases h0 : d = 0
  · subst h0
    rw [if_pos (show nI 0 = 0 from rfl)]
    exact key left' f0.symm
  · rw [if_neg (nI_ne0 (by omega) (by omega)), nI_add, e_dripOf hD (by omega)]
    simp only [Option.bind_some]
    exact key _ (f1 d (by omega) hd).symm
theorem e_safeL (hT : T ≤ 6) (hD : D ≤ 20) (hdy : dy ≤ 99) (hg : ∀ t, t < T → (gain t).toInt = -(E t) ∧ -9 ≤ E t ∧ E t ≤ 9) (hm : ∀ t, t < T → ∃ a b : Nat, a ≤ 9 ∧ b ≤ 3 ∧ mn t = nI a ∧ md t = nI b ∧ E t = (a : Int) - b) (hw : ∀ t, t < T → (w' t).toInt = W t ∧ 0 ≤ W t ∧ W t ≤ 100000) (f0 : fd 0 = left') (f1 : ∀ j, 1 ≤ j → j < 40 → fd j = if dy + j < D then mr (dy + j) else 0) (fr : ∀ j, j < 40 → rg_ (fd j) 30) : ∀ (n d : Nat) (level : Nat → Int32) (pool s : Int32), d ≤ 40 → 40 - d < n → 0 ≤ pool.toInt ∧ pool.toInt ≤ 30 * d → (∀ t, t < T → (level t).toInt = lev_ (W t) (E t) d) → ∃ (v p2 : Int32) (l2 : Nat → Int32), F_X1_safeDays_6 wa gain fd (nI T) n level pool (nI d) = some (v, l2, p2) ∧ F_X12_lacks_8 (nI T) mn md (nI D) mr (nI dy) left' w' n 40 1 pool s (nI d) = some v := by
  intro n
  induction n with
  | zero => intro d _ _ _ _ h; exact absurd h (by omega)
  | succ n ih =>
    intro d level pool s hd hn hp hl
    by_cases h : 40 ≤ d
    · have z := (le_of tl_40 (ti_nI (n := d) (by omega))).mpr (by omega)
      rw [F_X1_safeDays_6, F_X12_lacks_8, if_pos z, if_pos z, if_neg (show ¬ (1 : Int32) = 0 by decide)]
      exact ⟨_, _, _, rfl, rfl⟩
    · have z : ¬ (40 : Int32) ≤ nI d := fun z => absurd ((le_of tl_40 (ti_nI (n := d) (by omega))).mp z) (by omega)
      obtain ⟨o, l2, o1, o2, o3⟩ := e_day (fd := fd) (gain := gain) (W := W) (E := E) hT hg (fun t ht => (hw t ht).2) (by omega) hl pool
      rw [e_refday (fd := fd) hT hD hdy hm hw f0 f1 (by omega) o1 z, F_X1_safeDays_6, if_neg z, o3]
      simp only [Option.bind_some]
      obtain ⟨Q, hQ, eQ⟩ := fr d (by omega)
      have tQ : (fd d).toInt = Q := by rw [eQ]; exact ti_nI (by omega)
      have tp : (pool + fd d).toInt = pool.toInt + Q := ta_ rfl tQ (by omega) (by omega)
      have sb := si_b (M := 9) (f := fun t => lac_ (W t) (E t) d) T (fun t ht => lac_b (hg t ht).2.2)
      have so : 0 ≤ o.toInt ∧ o.toInt ≤ 54 := by rw [o1]; unfold sl_; omega
      by_cases c : o ≤ pool + fd d
      · have ci := (le_of rfl tp).mp c
        rw [if_pos (Or.inl c)]
        by_cases c2 : o < pool + fd d
        · rw [if_pos c2, Int32.sub_self, if_pos (show (0 : Int32) ≤ 0 by decide), show nI d + (1 : Int32) = nI (d + 1) from nI_1 d]
          have tr : (pool + fd d - o).toInt = pool.toInt + Q - o.toInt := ts_ tp rfl (by omega) (by omega)
          exact ih (d + 1) l2 _ _ (by omega) (by omega) (by rw [tr]; omega) (fun t ht => by rw [o2 t ht]; rfl)
        · have e : o = pool + fd d := Int32.toInt_inj.mp (by have := (not_congr Int32.lt_iff_toInt_lt).mp c2; have := Int32.le_iff_toInt_le.mp c; omega)
          rw [if_neg c2, ← e, Int32.sub_self, if_pos (show (0 : Int32) ≤ 0 by decide), show nI d + (1 : Int32) = nI (d + 1) from nI_1 d]
          exact ih (d + 1) l2 _ _ (by omega) (by omega) (by rw [tl_0]; omega) (fun t ht => by rw [o2 t ht]; rfl)
      · have ci := (not_congr (le_of rfl tp)).mp c
        have c2 : ¬ o < pool + fd d := fun q => by have := (lt_of rfl tp).mp q; omega
        rw [if_neg (c := o ≤ pool + fd d ∨ (1 : Int32) = 0) (fun q => q.elim c (by decide)), if_neg c2]
        have tr : (o - (pool + fd d)).toInt = o.toInt - (pool.toInt + Q) := ts_ rfl tp (by omega) (by omega)
        rw [if_neg (fun q => absurd ((le_of tr tl_0).mp q) (by omega))]
        exact ⟨_, _, _, rfl, rfl⟩
theorem e_leastL {K : Nat} (hK : K ≤ 20) (hT : T ≤ 6) (hD : D ≤ 20) (hdy : dy ≤ 99) (hg : ∀ t, t < T → (gain t).toInt = -(E t) ∧ -9 ≤ E t ∧ E t ≤ 9) (hm : ∀ t, t < T → ∃ a b : Nat, a ≤ 9 ∧ b ≤ 3 ∧ mn t = nI a ∧ md t = nI b ∧ E t = (a : Int) - b) (hw : ∀ t, t < T → (w' t).toInt = W t ∧ 0 ≤ W t ∧ W t ≤ 100000) (f0 : fd 0 = left') (f1 : ∀ j, 1 ≤ j → j < 40 → fd j = if dy + j < D then mr (dy + j) else 0) : ∀ (n d : Nat) (level : Nat → Int32) (pool s : Int32), d ≤ K → K - d < n → (∀ t, t < T → (level t).toInt = lev_ (W t) (E t) d) → ∃ (v p2 : Int32) (l2 : Nat → Int32), F_X1_leastLack_8 wa gain fd (nI T) n level pool (nI K) s (nI d) = some (v, l2, p2) ∧ F_X12_lacks_8 (nI T) mn md (nI D) mr (nI dy) left' w' n (nI K) 0 pool s (nI d) = some v := by
  intro n
  induction n with
  | zero => intro d _ _ _ _ h; exact absurd h (by omega)
  | succ n ih =>
    intro d level pool s hd hn hl
    by_cases h : K ≤ d
    · have z := (nI_leI (a := K) (b := d) (by omega) (by omega)).mpr h
      rw [F_X1_leastLack_8, F_X12_lacks_8, if_pos z, if_pos z, if_pos rfl]
      exact ⟨_, _, _, rfl, rfl⟩
    · have z : ¬ nI K ≤ nI d := fun z => h ((nI_leI (by omega) (by omega)).mp z)
      have z4 : ¬ (40 : Int32) ≤ nI d := fun z => absurd ((le_of tl_40 (ti_nI (n := d) (by omega))).mp z) (by omega)
      obtain ⟨o, l2, o1, o2, o3⟩ := e_day (fd := fd) (gain := gain) (W := W) (E := E) hT hg (fun t ht => (hw t ht).2) (by omega) hl pool
      rw [e_refday (fd := fd) hT hD hdy hm hw f0 f1 (by omega) o1 z, if_pos (Or.inr rfl), F_X1_leastLack_8, if_neg z, if_neg z4, o3]
      simp only [Option.bind_some]
      rw [show nI d + (1 : Int32) = nI (d + 1) from nI_1 d]
      exact ih (d + 1) l2 _ _ (by omega) (by omega) (fun t ht => by rw [o2 t ht]; rfl)
/-- the foresight of a hill and a now: what it needs -/
theorem e_fore (hk : k < 600) (hT : T ≤ 6) (hnd : ∀ t, t < T → cn t = mn t ∧ rg_ (mn t) 9 ∧ cd t = md t ∧ rg_ (md t) 3) (a6 : ∀ t, t < T → (w t = w' t ∧ rg_ (w' t) (30 + 33 * k)) ∧ lk t = lk' t ∧ rg_ (lk' t) (9 * k)) {fw2 fg2 : Nat → Int32} (e2 : ∀ t, t < T → fw2 t = w t ∧ fg2 t = cd t - cn t) : ∃ (W E : Nat → Int), (∀ t, t < T → (fg2 t).toInt = -(E t) ∧ -9 ≤ E t ∧ E t ≤ 9) ∧ (∀ t, t < T → ∃ a b : Nat, a ≤ 9 ∧ b ≤ 3 ∧ mn t = nI a ∧ md t = nI b ∧ E t = (a : Int) - b) ∧ (∀ t, t < T → (w' t).toInt = W t ∧ 0 ≤ W t ∧ W t ≤ 100000) ∧ ∀ t, t < T → (fw2 t).toInt = W t := by
  refine ⟨fun t => (w' t).toInt, fun t => (mn t).toInt - (md t).toInt, fun t ht => ?_, fun t ht => ?_, fun t ht => ?_, fun t ht => ?_⟩
  · obtain ⟨c1, ⟨a, ha, ea⟩, c3, ⟨b, hb, eb⟩⟩ := hnd t ht
    have ta := ti_nI (n := a) (by omega)
    have tb := ti_nI (n := b) (by omega)
    show _ = -((mn t).toInt - (md t).toInt) ∧ -9 ≤ (mn t).toInt - (md t).toInt ∧ (mn t).toInt - (md t).toInt ≤ 9
    rw [(e2 t ht).2, c1, c3, ea, eb, ta, tb, ts_ tb ta (by omega) (by omega)]
    omega
  · obtain ⟨c1, ⟨a, ha, ea⟩, c3, ⟨b, hb, eb⟩⟩ := hnd t ht
    refine ⟨a, b, ha, hb, ea, eb, ?_⟩
    show (mn t).toInt - (md t).toInt = _
    rw [ea, eb, ti_nI (by omega), ti_nI (by omega)]
  · obtain ⟨⟨c1, ⟨a, ha, ea⟩⟩, -⟩ := a6 t ht
    have ta := ti_nI (n := a) (by omega)
    refine ⟨rfl, ?_, ?_⟩ <;> show _ ≤ _ <;> simp only [ea, ta] <;> omega
  · rw [(e2 t ht).1, (a6 t ht).1.1]
theorem cpy6 {f g : Nat → Int32} {t : Nat} (h : t < 6) : va_cpy f g 0 0 6 t = f t := by
  unfold va_cpy
  rw [if_pos (by omega)]
  congr 1
  omega
theorem lev_0 {W e : Int} (h : 0 ≤ W) : lev_ W e ((0 : Nat) : Int) = W := by
  unfold lev_
  simp
  omega
theorem CO_safe (hk : k < 600) (hH : IH_ T te da la sl sL cn cd cr cs many days law slip len mn md mr ms) (hN : IN_ k T w lk st ss day left turn lot seen w' lk' st' ss' day' left' turn' lot' seen') (fw fg fd fl : Nat → Int32) (ft fp : Int32) : ∃ (u1 : Int32 × (Nat → Int32) × (Nat → Int32) × (Nat → Int32) × (Nat → Int32) × Int32 × Int32) (u2 : Int32), F_X11_safe cn cd cr te da w day left fw fg fd fl ft fp = some u1 ∧ F_X12_safe many mn md days mr day' left' w' = some u2 ∧ u1.1 = u2 := by
  obtain ⟨hT, rfl, rfl, ⟨D, hD, rfl, rfl, hr⟩, -, -, -, hnd⟩ := hH
  obtain ⟨⟨rfl, dy, hdy, rfl⟩, ⟨rfl, L, hL, rfl⟩, -, -, -, a6⟩ := hN
  obtain ⟨fw2, fg2, fd2, e1, e2, e3, e4⟩ := e_from (cn := cn) (cd := cd) (cr := cr) (w := w) (left := nI L) hT hD hdy fw fg fd ft
  obtain ⟨W, E, h1, h2, h3, h4⟩ := e_fore (lk := lk) (lk' := lk') hk hT hnd a6 e2
  have fr : ∀ j, j < 40 → rg_ (fd2 j) 30 := by
    intro j hj
    by_cases j0 : j = 0
    · subst j0
      exact ⟨L, hL, e3⟩
    · rw [e4 j (by omega) hj]
      by_cases q : dy + j < D
      · rw [if_pos q, (hr _ q).1]
        exact (hr _ q).2
      · rw [if_neg q]
        exact ⟨0, by omega, rfl⟩
  have f1 : ∀ j, 1 ≤ j → j < 40 → fd2 j = if dy + j < D then mr (dy + j) else 0 := by
    intro j j0 hj
    rw [e4 j j0 hj]
    by_cases q : dy + j < D
    · rw [if_pos q, if_pos q, (hr _ q).1]
    · rw [if_neg q, if_neg q]
  obtain ⟨v, p2, l2, g1, g2⟩ := e_safeL (wa := fw2) (mn := mn) (md := md) (mr := mr) (w' := w') hT hD hdy h1 h2 h3 e3 f1 fr FU_ 0 (va_cpy fw2 fl 0 0 6) 0 0 (by omega) (by unfold FU_; omega) (by rw [tl_0]; omega) (fun t ht => by rw [cpy6 (by omega), h4 t ht, lev_0 (h3 t ht).2.1])
  unfold F_X11_safe F_X12_safe F_X12_lacks
  rw [e1]
  simp only [Option.bind_some]
  unfold F_X1_safeDays F_X1_startDays
  simp only [Option.bind_some]
  rw [show F_X1_safeDays_6 fw2 fg2 fd2 (nI T) FU_ (va_cpy fw2 fl 0 0 6) 0 0 = some (v, l2, p2) from g1, show F_X12_lacks_8 (nI T) mn md (nI D) mr (nI dy) (nI L) w' FU_ 40 1 0 0 0 = some v from g2]
  exact ⟨_, _, rfl, rfl, rfl⟩
theorem CO_least (hk : k < 600) (hH : IH_ T te da la sl sL cn cd cr cs many days law slip len mn md mr ms) (hN : IN_ k T w lk st ss day left turn lot seen w' lk' st' ss' day' left' turn' lot' seen') (x1 : Int32) (fw fg fd fl : Nat → Int32) (ft fp : Int32) : ∃ (u1 : Int32 × (Nat → Int32) × (Nat → Int32) × (Nat → Int32) × (Nat → Int32) × Int32 × Int32) (u2 : Int32), F_X11_least cn cd cr te da w day left fw fg fd fl ft fp x1 = some u1 ∧ F_X12_least many mn md days mr day' left' w' x1 = some u2 ∧ u1.1 = u2 := by
  obtain ⟨hT, rfl, rfl, ⟨D, hD, rfl, rfl, hr⟩, -, -, -, hnd⟩ := hH
  obtain ⟨⟨rfl, dy, hdy, rfl⟩, ⟨rfl, L, hL, rfl⟩, -, -, -, a6⟩ := hN
  obtain ⟨fw2, fg2, fd2, e1, e2, e3, e4⟩ := e_from (cn := cn) (cd := cd) (cr := cr) (w := w) (left := nI L) hT hD hdy fw fg fd ft
  obtain ⟨W, E, h1, h2, h3, h4⟩ := e_fore (lk := lk) (lk' := lk') hk hT hnd a6 e2
  have f1 : ∀ j, 1 ≤ j → j < 40 → fd2 j = if dy + j < D then mr (dy + j) else 0 := by
    intro j j0 hj
    rw [e4 j j0 hj]
    by_cases q : dy + j < D
    · rw [if_pos q, if_pos q, (hr _ q).1]
    · rw [if_neg q, if_neg q]
  have i1 : (1 : Int64).toInt = 1 := rfl
  have i20 : (20 : Int64).toInt = 20 := rfl
  unfold F_X11_least F_X12_least
  rw [e_in, i1, i20]
  by_cases p : 1 ≤ x1.toInt ∧ x1.toInt ≤ 20
  · obtain ⟨K, hK, rfl⟩ := ix_nI (x := x1) (T := 21) (by omega) (by omega)
    have tK := ti_nI (n := K) (by omega)
    obtain ⟨v, p2, l2, g1, g2⟩ := e_leastL (K := K) (wa := fw2) (mn := mn) (md := md) (mr := mr) (w' := w') (by omega) hT hD hdy h1 h2 h3 e3 f1 FU_ 0 (va_cpy fw2 fl 0 0 6) 0 0 (by omega) (by unfold FU_; omega) (fun t ht => by rw [cpy6 (by omega), h4 t ht, lev_0 (h3 t ht).2.1])
    rw [if_pos p, if_neg (fun z => absurd ((lt_of rfl tl_1).mp z) (by omega)), if_pos ((le_of rfl tl_20).mpr (by omega)), e1]
    simp only [Option.bind_some, i_10, if_true, if_false]
    unfold F_X1_leastLack F_X1_startDays F_X12_lacks
    simp only [Option.bind_some]
    rw [show F_X1_leastLack_8 fw2 fg2 fd2 (nI T) FU_ (va_cpy fw2 fl 0 0 6) 0 (nI K) 0 0 = some (v, l2, p2) from g1, show F_X12_lacks_8 (nI T) mn md (nI D) mr (nI dy) (nI L) w' FU_ (nI K) 0 0 0 0 = some v from g2]
    exact ⟨_, _, rfl, rfl, rfl⟩
  · rw [if_neg p]
    by_cases z : x1 < 1
    · rw [if_pos z]
      exact ⟨_, _, rfl, rfl, rfl⟩
    · rw [if_neg z, if_neg (fun q => by have := (le_of rfl tl_20).mp q; have := (not_congr (lt_of rfl tl_1)).mp z; omega)]
      exact ⟨_, _, rfl, rfl, rfl⟩
end CO12
