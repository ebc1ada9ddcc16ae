/-! own: today: the reference's half -/
section TD5
variable {T : Nat} {L : Nat} {b x xs : Nat → Int} {mn md w' gets : Nat → Int32} {left' : Int32}
/-- the reference's rows -/
def rr_ (T : Nat) (b : Nat → Int) (mn md w' : Nat → Int32) : Prop := ∀ t, t < T → ∃ W a d : Int, (w' t).toInt = W ∧ (mn t).toInt = a ∧ (md t).toInt = d ∧ b t = W + d - a ∧ 0 ≤ W ∧ W ≤ 100000 ∧ 0 ≤ a ∧ a ≤ 9 ∧ 0 ≤ d ∧ d ≤ 3
def gt_ (T : Nat) (gets : Nat → Int32) (x : Nat → Int) : Prop := ∀ t, t < T → (gets t).toInt = x t
theorem cp_b (hc : cp_ T (L : Int) x) {t : Nat} (ht : t < T) : 0 ≤ x t ∧ x t ≤ L := ⟨hc.1 t ht, by have := si_1 ht hc.1; rw [hc.2] at this; exact this⟩
theorem lk_b (hr : rr_ T b mn md w') (hc : cp_ T (L : Int) x) {i : Nat} (hi : i ≤ T) : 0 ≤ lk_ b x i ∧ lk_ b x i ≤ 9 * i := by
  refine si_b (M := 9) i (fun t ht => ?_)
  obtain ⟨W, a, d, -, -, -, h4, h5⟩ := hr t (by omega)
  have := cp_b hc (t := t) (by omega)
  show 0 ≤ max 0 (-(b t + x t)) ∧ max 0 (-(b t + x t)) ≤ 9
  omega
theorem e_104 {k89 : (Nat → Int32) → (Nat → Int32) → Int32 → Int32 → Int32 → Int32 → Option (Int32 × (Nat → Int32) × (Nat → Int32))} (hT : T ≤ 6) (hL : L ≤ 12) (hr : rr_ T b mn md w') (hc : cp_ T (L : Int) x) (hg : gt_ T gets x) (best : Nat → Int32) (y1 y2 y3 : Int32) : ∀ (n i : Nat) (y5 y6 : Int32), i ≤ T → T - i < n → y5.toInt = lk_ b x i → y6.toInt = lo_ b x i → ∃ l o : Int32, l.toInt = lk_ b x T ∧ o.toInt = lo_ b x T ∧ F_X12_today_104 (nI T) mn md left' w' k89 n gets best y1 y2 y3 y5 y6 (nI i) = if y2 < 0 ∨ l < y2 ∨ (l = y2 ∧ ¬ o ≤ y3) then F_X12_today_216 (nI T) mn md left' w' k89 gets best y1 l o else F_X12_today_254 (nI T) mn md left' w' k89 gets best y1 y2 y3 := by
  intro n
  induction n with
  | zero => intro i _ _ _ h; exact absurd h (by omega)
  | succ n ih =>
    intro i y5 y6 hi hn h5 h6
    rw [F_X12_today_104]
    by_cases h : T ≤ i
    · have e : i = T := by omega
      subst e
      refine ⟨y5, y6, h5, h6, ?_⟩
      rw [if_pos ((nI_leI (by omega) (by omega)).mpr h)]
      by_cases q1 : y2 < 0
      · rw [if_pos q1, if_pos (Or.inl q1)]
      · rw [if_neg q1]
        by_cases q2 : y5 < y2
        · rw [if_pos q2, if_pos (Or.inr (Or.inl q2))]
        · rw [if_neg q2]
          by_cases q3 : y5 = y2
          · rw [if_pos q3]
            by_cases q4 : y6 ≤ y3
            · rw [if_pos q4, if_neg (fun z => by rcases z with z | z | z; exact q1 z; exact q2 z; exact z.2 q4)]
            · rw [if_neg q4, if_pos (Or.inr (Or.inr ⟨q3, q4⟩))]
          · rw [if_neg q3, if_neg (fun z => by rcases z with z | z | z; exact q1 z; exact q2 z; exact q3 z.1)]
    · obtain ⟨W, a, d, a1, a2, a3, a4, a5⟩ := hr i (by omega)
      have xb := cp_b hc (t := i) (by omega)
      have kb := lk_b hr hc (i := i) hi
      have ob := lo_0 (b := b) (x := x) i
      rw [if_neg (fun z => h ((nI_leI (by omega) (by omega)).mp z)), if_pos (ok_T (by omega) (by omega)), nI_clamp (n := i) (by omega)]
      have ev : (w' i + gets i + md i - mn i).toInt = b i + x i := by
        rw [ts_ (ta_ (ta_ a1 (hg i (by omega)) (by omega) (by omega)) a3 (by omega) (by omega)) a2 (by omega) (by omega)]
        omega
      generalize w' i + gets i + md i - mn i = v at ev
      have ek : lk_ b x (i + 1) = lk_ b x i + max 0 (-(b i + x i)) := by unfold lk_; rw [si_]
      by_cases q : 0 ≤ v
      · have q1 := (le_of tl_0 ev).mp q
        have e5 : (y5 + 0).toInt = lk_ b x (i + 1) := by
          rw [ta_ h5 tl_0 (by omega) (by omega), ek]
          omega
        rw [if_pos q, F_X12_today_160, if_pos q, show nI i + (1 : Int32) = nI (i + 1) from nI_1 i]
        by_cases r : y6 ≤ v
        · have r1 := (le_of h6 ev).mp r
          rw [if_pos r]
          exact ih (i + 1) _ _ (by omega) (by omega) e5 (by rw [lo_, h6]; omega)
        · have r1 := (not_congr (le_of h6 ev)).mp r
          rw [if_neg r]
          exact ih (i + 1) _ _ (by omega) (by omega) e5 (by rw [lo_, ev]; omega)
      · have q1 := (not_congr (le_of tl_0 ev)).mp q
        have e5 : (y5 + -v).toInt = lk_ b x (i + 1) := by
          rw [ta_ h5 (tn_ ev (by omega) (by omega)) (by omega) (by omega), ek]
          omega
        rw [if_neg q, F_X12_today_160, if_neg q, show nI i + (1 : Int32) = nI (i + 1) from nI_1 i]
        exact ih (i + 1) _ _ (by omega) (by omega) e5 (by rw [lo_, tl_0]; omega)
theorem e_225 {k89 : (Nat → Int32) → (Nat → Int32) → Int32 → Int32 → Int32 → Int32 → Option (Int32 × (Nat → Int32) × (Nat → Int32))} (hT : T ≤ 6) (y1 y2 y3 : Int32) : ∀ (n i : Nat) (best : Nat → Int32), i ≤ T → T - i < n → (∀ t, t < i → best t = gets t) → ∃ best2, F_X12_today_225 (nI T) mn md left' w' k89 n gets best y1 y2 y3 (nI i) = F_X12_today_254 (nI T) mn md left' w' k89 gets best2 y1 y2 y3 ∧ ∀ t, t < T → best2 t = gets t := by
  intro n
  induction n with
  | zero => intro i _ _ h; exact absurd h (by omega)
  | succ n ih =>
    intro i best hi hn hb
    rw [F_X12_today_225]
    by_cases h : T ≤ i
    · rw [if_pos ((nI_leI (by omega) (by omega)).mpr h)]
      exact ⟨best, rfl, fun t ht => hb t (by omega)⟩
    · rw [if_neg (fun z => h ((nI_leI (by omega) (by omega)).mp z)), if_pos (ok_T (by omega) (by omega)), nI_clamp (n := i) (by omega), show nI i + (1 : Int32) = nI (i + 1) from nI_1 i]
      refine ih (i + 1) _ (by omega) (by omega) (fun t ht => ?_)
      by_cases e : t = i
      · subst e
        rw [pk_us]
      · rw [pk_un e]
        exact hb t (by omega)
/-- one way looked at -/
theorem e_look {k89 : (Nat → Int32) → (Nat → Int32) → Int32 → Int32 → Int32 → Int32 → Option (Int32 × (Nat → Int32) × (Nat → Int32))} (hT : T ≤ 6) (hL : L ≤ 12) (hr : rr_ T b mn md w') (hc : cp_ T (L : Int) x) (hg : gt_ T gets x) (best : Nat → Int32) (y1 y2 y3 : Int32) : ∃ (best2 : Nat → Int32) (z2 z3 : Int32), F_X12_today_104 (nI T) mn md left' w' k89 FU_ gets best y1 y2 y3 0 1000000 0 = (F_X12_goesOn (nI T) gets).bind (fun u1 => k89 u1.2 best2 y1 z2 z3 u1.1) ∧ (((y2.toInt < 0 ∨ lk_ b x T < y2.toInt ∨ (lk_ b x T = y2.toInt ∧ y3.toInt < lo_ b x T)) ∧ z2.toInt = lk_ b x T ∧ z3.toInt = lo_ b x T ∧ gt_ T best2 x) ∨ (¬ (y2.toInt < 0 ∨ lk_ b x T < y2.toInt ∨ (lk_ b x T = y2.toInt ∧ y3.toInt < lo_ b x T)) ∧ best2 = best ∧ z2 = y2 ∧ z3 = y3)) := by
  obtain ⟨l, o, e1, e2, e3⟩ := e_104 (left' := left') (k89 := k89) hT hL hr hc hg best y1 y2 y3 FU_ 0 0 1000000 (by omega) (fu_gt (by omega)) rfl rfl
  rw [nI_0] at e3
  rw [e3]
  have iff : (y2 < 0 ∨ l < y2 ∨ (l = y2 ∧ ¬ o ≤ y3)) ↔ (y2.toInt < 0 ∨ lk_ b x T < y2.toInt ∨ (lk_ b x T = y2.toInt ∧ y3.toInt < lo_ b x T)) := by
    have i1 : y2 < 0 ↔ y2.toInt < 0 := lt_of rfl tl_0
    have i2 : l < y2 ↔ lk_ b x T < y2.toInt := lt_of e1 rfl
    have i3 : l = y2 ↔ lk_ b x T = y2.toInt := by rw [← e1]; exact Int32.toInt_inj.symm
    have i4 : (¬ o ≤ y3) ↔ y3.toInt < lo_ b x T := by rw [le_of e2 rfl]; omega
    rw [i1, i2, i3, i4]
  by_cases q : y2 < 0 ∨ l < y2 ∨ (l = y2 ∧ ¬ o ≤ y3)
  · rw [if_pos q, F_X12_today_216]
    obtain ⟨b2, f1, f2⟩ := e_225 (T := T) (gets := gets) (mn := mn) (md := md) (w' := w') (left' := left') (k89 := k89) hT y1 l o FU_ 0 best (by omega) (fu_gt (by omega)) (fun t ht => absurd ht (by omega))
    rw [nI_0] at f1
    rw [f1, F_X12_today_254]
    exact ⟨b2, l, o, rfl, Or.inl ⟨iff.mp q, e1, e2, fun t ht => by rw [f2 t ht, hg t ht]⟩⟩
  · rw [if_neg q, F_X12_today_254]
    exact ⟨best, y2, y3, rfl, Or.inr ⟨fun z => q (iff.mpr z), rfl, rfl, rfl⟩⟩
theorem e_g41 (hT : T ≤ 6) (h1 : 1 ≤ T) (y1 : Int32) : ∀ (n i : Nat) (gets : Nat → Int32), i ≤ T → T - i < n → ∃ g2, F_X12_goesOn_41 (nI T) n gets y1 (nI i) = some (1, g2) ∧ ∀ t, t < T → g2 t = if t + 1 = T then y1 - 1 else if i ≤ t then 0 else gets t := by
  intro n
  induction n with
  | zero => intro i _ _ h; exact absurd h (by omega)
  | succ n ih =>
    intro i gets hi hn
    rw [F_X12_goesOn_41]
    by_cases h : T ≤ i
    · have e1 : nI T - 1 = nI (T - 1) := pk_sub (a := T) (b := 1) (by omega)
      rw [if_pos ((nI_leI (by omega) (by omega)).mpr h), e1, if_pos (ok_T (by omega) (by omega)), nI_clamp (n := T - 1) (by omega)]
      refine ⟨_, rfl, fun t ht => ?_⟩
      by_cases e : t + 1 = T
      · have e2 : t = T - 1 := by omega
        subst e2
        rw [if_pos e, pk_us]
      · rw [if_neg e, pk_un (by omega), if_neg (by omega)]
    · rw [if_neg (fun z => h ((nI_leI (by omega) (by omega)).mp z)), if_pos (ok_T (by omega) (by omega)), nI_clamp (n := i) (by omega), show nI i + (1 : Int32) = nI (i + 1) from nI_1 i]
      obtain ⟨g2, f1, f2⟩ := ih (i + 1) (upd gets i 0) (by omega) (by omega)
      refine ⟨g2, f1, fun t ht => ?_⟩
      rw [f2 t ht]
      by_cases e : t + 1 = T
      · rw [if_pos e, if_pos e]
      · rw [if_neg e, if_neg e]
        by_cases e2 : t = i
        · subst e2
          rw [if_neg (by omega), if_pos (by omega), pk_us]
        · rw [pk_un e2]
          by_cases e3 : i ≤ t
          · rw [if_pos (by omega), if_pos e3]
          · rw [if_neg (by omega), if_neg e3]
theorem e_g19 (hT : T ≤ 6) (h1 : 1 ≤ T) (hL : L ≤ 12) (hc : cp_ T (L : Int) x) (hg : gt_ T gets x) : ∀ (n i : Nat) (y1 : Int32), i < T → i < n → y1.toInt = L - si_ x i → (∀ q, i < q → q < T → si_ x q = L) → (F_X12_goesOn_19 (nI T) n gets y1 (nI i - 1) = some (0, gets) ∧ ∀ q, 0 < q → q < T → si_ x q = L) ∨ (∃ (p : Nat) (g2 : Nat → Int32), p + 1 < T ∧ 0 < L - si_ x (p + 1) ∧ (∀ q, p + 1 < q → q < T → si_ x q = L) ∧ F_X12_goesOn_19 (nI T) n gets y1 (nI i - 1) = some (1, g2) ∧ gt_ T g2 (fun t => if t + 1 = T then L - si_ x (p + 1) - 1 else if p < t then 0 else if t = p then x p + 1 else x t)) := by
  intro n
  induction n with
  | zero => intro i _ _ h; exact absurd h (by omega)
  | succ n ih =>
    intro i y1 hi hn hy hz
    rw [F_X12_goesOn_19]
    by_cases h : i = 0
    · subst h
      rw [if_pos (show nI 0 - 1 < 0 by decide)]
      exact Or.inl ⟨rfl, hz⟩
    · obtain ⟨i, rfl⟩ : ∃ j, i = j + 1 := ⟨i - 1, by omega⟩
      have sb : 0 ≤ si_ x i ∧ si_ x (i + 1) ≤ L := by
        have a1 := si_0 (f := x) (n := i) (fun t ht => hc.1 t (by omega))
        have a2 := si_m (f := x) (p := i + 1) (n := T) (by omega) hc.1
        rw [hc.2] at a2
        exact ⟨a1, a2⟩
      have xb := cp_b hc (t := i) (by omega)
      have es : si_ x (i + 1) = si_ x i + x i := by rw [si_]
      rw [show nI (i + 1) - (1 : Int32) = nI i from pk_sub (a := i + 1) (b := 1) (by omega), if_neg (fun z => absurd ((lt_of (ti_nI (by omega)) tl_0).mp z) (by omega)), nI_clamp (n := i) (by omega)]
      by_cases q : y1 ≤ 0
      · have q1 := (le_of hy tl_0).mp q
        rw [if_pos q, if_pos (ok_T (by omega) (by omega)), show nI i + (-1 : Int32) = nI i - 1 from (Int32.sub_eq_add_neg _ _).symm]
        refine ih i _ (by omega) (by omega) (by rw [ta_ hy (hg i (by omega)) (by omega) (by omega)]; omega) (fun r k1 k2 => ?_)
        by_cases e : r = i + 1
        · subst e
          omega
        · exact hz r (by omega) k2
      · have q1 := (not_congr (le_of hy tl_0)).mp q
        obtain ⟨g2, f1, f2⟩ := e_g41 hT h1 y1 FU_ (i + 1) (upd gets i (gets i + 1)) (by omega) (fu_gt (by omega))
        rw [if_neg q, if_pos (ok_T (by omega) (by omega)), show nI i + (1 : Int32) = nI (i + 1) from nI_1 i, f1]
        refine Or.inr ⟨i, g2, hi, by omega, hz, rfl, fun t ht => ?_⟩
        rw [f2 t ht]
        show _ = if t + 1 = T then (L : Int) - si_ x (i + 1) - 1 else if i < t then 0 else if t = i then x i + 1 else x t
        by_cases e1 : t + 1 = T
        · rw [if_pos e1, if_pos e1, ts_ hy tl_1 (by omega) (by omega)]
        · rw [if_neg e1, if_neg e1]
          by_cases e2 : i < t
          · rw [if_pos (by omega), if_pos e2, tl_0]
          · rw [if_neg (by omega), if_neg e2]
            by_cases e3 : t = i
            · subst e3
              rw [if_pos rfl, pk_us, ta_ (hg t (by omega)) tl_1 (by omega) (by omega)]
            · rw [if_neg e3, pk_un e3, hg t ht]
/-- the next way, or none -/
theorem e_goes (hT : T ≤ 6) (h1 : 1 ≤ T) (hL : L ≤ 12) (hc : cp_ T (L : Int) x) (hg : gt_ T gets x) : (F_X12_goesOn (nI T) gets = some (0, gets) ∧ ∀ y, cp_ T (L : Int) y → ¬ lx_ T x y) ∨ (∃ (g2 : Nat → Int32) (x' : Nat → Int), F_X12_goesOn (nI T) gets = some (1, g2) ∧ gt_ T g2 x' ∧ cp_ T (L : Int) x' ∧ lx_ T x x' ∧ rk_ T L x' (T - 1) < rk_ T L x (T - 1) ∧ ∀ y, cp_ T (L : Int) y → lx_ T x y → (∀ t, t < T → x' t = y t) ∨ lx_ T x' y) := by
  have e1 : nI T - 1 = nI (T - 1) := pk_sub (a := T) (b := 1) (by omega)
  have e2 : nI T - 2 = nI (T - 1) - 1 := by
    rw [← e1, Int32.sub_eq_add_neg, Int32.sub_eq_add_neg, Int32.sub_eq_add_neg, Int32.add_assoc]
    rfl
  have xT : (gets (T - 1)).toInt = L - si_ x (T - 1) := by
    rw [hg (T - 1) (by omega)]
    have := hc.2
    obtain ⟨N, rfl⟩ : ∃ n, T = n + 1 := ⟨T - 1, by omega⟩
    rw [Nat.add_sub_cancel]
    rw [si_] at this
    omega
  unfold F_X12_goesOn
  rw [e1, if_pos (ok_T (by omega) (by omega)), nI_clamp (n := T - 1) (by omega), e2]
  rcases e_g19 hT h1 hL hc hg FU_ (T - 1) (gets (T - 1)) (by omega) (fu_gt (by omega)) xT (fun q a1 a2 => absurd a1 (by omega)) with ⟨f1, f2⟩ | ⟨p, g2, p1, p2, p3, p4, p5⟩
  · exact Or.inl ⟨f1, lx_end h1 hc f2⟩
  · refine Or.inr ⟨g2, _, p4, p5, ?_⟩
    refine lx_next (p := p) p1 hc p2 p3 (fun t ht => ?_) ?_ (fun t k1 k2 => ?_) ?_
    · show (if t + 1 = T then (L : Int) - si_ x (p + 1) - 1 else if p < t then 0 else if t = p then x p + 1 else x t) = x t
      rw [if_neg (by omega), if_neg (by omega), if_neg (by omega)]
    · show (if p + 1 = T then (L : Int) - si_ x (p + 1) - 1 else if p < p then 0 else if p = p then x p + 1 else x p) = x p + 1
      rw [if_neg (by omega), if_neg (by omega), if_pos rfl]
    · show (if t + 1 = T then (L : Int) - si_ x (p + 1) - 1 else if p < t then 0 else if t = p then x p + 1 else x t) = 0
      rw [if_neg (by omega), if_pos k1]
    · show (if T - 1 + 1 = T then (L : Int) - si_ x (p + 1) - 1 else _) = _
      rw [if_pos (by omega)]
/-- what the reference answers at the end -/
def fi_ (y1 l : Int32) (g2 b2 : Nat → Int32) : Option (Int32 × (Nat → Int32) × (Nat → Int32)) := if 0 ≤ y1 then (if ok_I y1 6 = true then some ((b2 y1.toNatClampNeg), g2, b2) else none) else (some (l, g2, b2))
theorem e_89 {ls os : Int} (hT : T ≤ 6) (h1 : 1 ≤ T) (hL : L ≤ 12) (hr : rr_ T b mn md w') (ho : op_ T L b xs ls os) (y1 : Int32) : ∀ (n : Nat) (x : Nat → Int) (gets best : Nat → Int32) (y2 y3 : Int32), cp_ T (L : Int) x → gt_ T gets x → rk_ T L x (T - 1) + 2 ≤ n → ((((∀ t, t < T → x t = xs t) ∨ lx_ T x xs) ∧ (y2.toInt < 0 ∨ ls < y2.toInt ∨ (ls = y2.toInt ∧ y3.toInt < os))) ∨ (lx_ T xs x ∧ y2.toInt = ls ∧ y3.toInt = os ∧ gt_ T best xs)) → ∃ (l : Int32) (g2 b2 : Nat → Int32), F_X12_today_89 (nI T) mn md left' w' n gets best y1 y2 y3 1 = fi_ y1 l g2 b2 ∧ l.toInt = ls ∧ gt_ T b2 xs := by
  obtain ⟨o1, o2, o3, o4, o5⟩ := ho
  have ls0 : 0 ≤ ls := by rw [← o2]; exact lk_0 T
  intro n
  induction n with
  | zero => intro x gets best y2 y3 _ _ h _; exact absurd h (by omega)
  | succ n ih =>
    intro x gets best y2 y3 hc hg hn hi
    obtain ⟨best2, z2, z3, e1, e2⟩ := e_look (left' := left') (k89 := F_X12_today_89 (nI T) mn md left' w' n) hT hL hr hc hg best y1 y2 y3
    rw [F_X12_today_89, if_neg (show ¬ (1 : Int32) = 0 by decide), e1]
    have post : (lx_ T x xs ∧ (z2.toInt < 0 ∨ ls < z2.toInt ∨ (ls = z2.toInt ∧ z3.toInt < os))) ∨ (((∀ t, t < T → xs t = x t) ∨ lx_ T xs x) ∧ z2.toInt = ls ∧ z3.toInt = os ∧ gt_ T best2 xs) := by
      rcases hi with ⟨a1 | a1, a2⟩ | ⟨a1, a2, a3, a4⟩
      · right
        have k1 : lk_ b x T = ls := by rw [← o2]; exact lk_c a1
        have k2 : lo_ b x T = os := by rw [← o3]; exact lo_c T a1
        rcases e2 with ⟨-, c2, c3, c4⟩ | ⟨c1, -⟩
        · exact ⟨Or.inl (fun t ht => (a1 t ht).symm), by rw [c2, k1], by rw [c3, k2], fun t ht => by rw [c4 t ht, a1 t ht]⟩
        · rw [k1, k2] at c1
          exact absurd a2 c1
      · left
        refine ⟨a1, ?_⟩
        rcases e2 with ⟨-, c2, c3, c4⟩ | ⟨-, -, c3, c4⟩
        · have := o5 x hc a1
          rw [c2, c3]
          omega
        · rw [c3, c4]
          exact a2
      · right
        refine ⟨Or.inr a1, ?_⟩
        have := o4 x hc
        rcases e2 with ⟨c1, -⟩ | ⟨-, c2, c3, c4⟩
        · exfalso
          omega
        · rw [c2, c3, c4]
          exact ⟨a2, a3, a4⟩
    rcases e_goes hT h1 hL hc hg with ⟨f1, f2⟩ | ⟨g2, x', f1, f2, f3, f4, f5, f6⟩
    · rw [f1, Option.bind_some]
      rcases post with ⟨a1, -⟩ | ⟨-, a2, -, a4⟩
      · exact absurd a1 (f2 xs o1)
      · obtain ⟨n, rfl⟩ : ∃ m, n = m + 1 := ⟨n - 1, by omega⟩
        rw [F_X12_today_89, if_pos rfl]
        exact ⟨z2, gets, best2, rfl, a2, a4⟩
    · rw [f1, Option.bind_some]
      refine ih x' g2 best2 z2 z3 f3 f2 (by omega) ?_
      rcases post with ⟨a1, a2⟩ | ⟨a1 | a1, a2⟩
      · exact Or.inl ⟨f6 xs o1 a1, a2⟩
      · exact Or.inr ⟨lx_c (fun t ht => (a1 t ht).symm) f4, a2⟩
      · exact Or.inr ⟨lx_trans a1 f4, a2⟩
theorem e_44 (hT : T ≤ 6) (y1 : Int32) (best : Nat → Int32) : ∀ (n i : Nat) (gets : Nat → Int32), i ≤ T → T - i < n → (∀ t, t < i → gets t = if t + 1 = T then left' else 0) → ∃ g2, F_X12_today_44 (nI T) mn md left' w' n gets best y1 (nI i) = F_X12_today_89 (nI T) mn md left' w' FU_ g2 best y1 (-1) 0 1 ∧ ∀ t, t < T → g2 t = if t + 1 = T then left' else 0 := by
  intro n
  induction n with
  | zero => intro i _ _ h; exact absurd h (by omega)
  | succ n ih =>
    intro i gets hi hn hb
    rw [F_X12_today_44]
    by_cases h : T ≤ i
    · rw [if_pos ((nI_leI (by omega) (by omega)).mpr h)]
      exact ⟨gets, rfl, fun t ht => hb t (by omega)⟩
    · have e1 : nI T - 1 = nI (T - 1) := pk_sub (a := T) (b := 1) (by omega)
      have ok : ok_I (nI i) 6 = true := ok_T (by omega) (by omega)
      rw [if_neg (fun z => h ((nI_leI (by omega) (by omega)).mp z)), e1, nI_clamp (n := i) (by omega), show nI i + (1 : Int32) = nI (i + 1) from nI_1 i]
      by_cases q : i = T - 1
      · rw [if_pos ((nI_eq (by omega) (by omega)).mpr q), if_pos ok]
        refine ih (i + 1) _ (by omega) (by omega) (fun t ht => ?_)
        by_cases e : t = i
        · subst e
          rw [pk_us, if_pos (by omega)]
        · rw [pk_un e]
          exact hb t (by omega)
      · rw [if_neg (fun z => q ((nI_eq (by omega) (by omega)).mp z)), if_pos ok]
        refine ih (i + 1) _ (by omega) (by omega) (fun t ht => ?_)
        by_cases e : t = i
        · subst e
          rw [pk_us, if_neg (by omega)]
        · rw [pk_un e]
          exact hb t (by omega)
/-- what the reference answers is the way that is found -/
theorem e_refToday {ls os : Int} (hT : T ≤ 6) (h1 : 1 ≤ T) (hL : L ≤ 12) (hr : rr_ T b mn md w') (ho : op_ T L b xs ls os) (y1 : Int32) (gets best : Nat → Int32) : ∃ (l : Int32) (g2 b2 : Nat → Int32), F_X12_today_44 (nI T) mn md (nI L) w' FU_ gets best y1 0 = fi_ y1 l g2 b2 ∧ l.toInt = ls ∧ gt_ T b2 xs := by
  obtain ⟨g2, e1, e2⟩ := e_44 (T := T) (mn := mn) (md := md) (w' := w') (left' := nI L) hT y1 best FU_ 0 gets (by omega) (fu_gt (by omega)) (fun t ht => absurd ht (by omega))
  rw [nI_0] at e1
  rw [e1]
  have s0 : ∀ q, q < T → si_ (fun t => if t + 1 = T then (L : Int) else 0) q = 0 := by
    intro q
    induction q with
    | zero => intro _; rfl
    | succ q ih =>
      intro h
      rw [si_, ih (by omega), if_neg (by omega)]
      rfl
  have sT : si_ (fun t => if t + 1 = T then (L : Int) else 0) T = L := by
    have := s0 (T - 1) (by omega)
    obtain ⟨N, rfl⟩ : ∃ n, T = n + 1 := ⟨T - 1, by omega⟩
    rw [Nat.add_sub_cancel] at this
    rw [si_, this, if_pos rfl]
    omega
  have hc : cp_ T (L : Int) (fun t => if t + 1 = T then (L : Int) else 0) := ⟨fun t ht => by
    show 0 ≤ if t + 1 = T then (L : Int) else 0
    by_cases e : t + 1 = T
    · rw [if_pos e]; omega
    · rw [if_neg e]; omega, sT⟩
  have rk : ∀ i, i < T → rk_ T L (fun t => if t + 1 = T then (L : Int) else 0) i + bs_ L (T - 1 - i) = bs_ L (T - 1) := by
    intro i
    induction i with
    | zero => intro _; rw [rk_]; simp
    | succ i ih =>
      intro h
      have z : T - 1 - i = (T - 1 - (i + 1)) + 1 := by omega
      have a := ih (by omega)
      rw [z, bs_, ← z] at a
      rw [rk_, s0 (i + 1) h, show ((L : Int) - 0).toNat = L by omega]
      omega
  have rb := rk (T - 1) (by omega)
  have rm := bs_max (T - 1) (by omega) L hL
  refine e_89 hT h1 hL hr ho y1 FU_ _ g2 best (-1) 0 hc (fun t ht => ?_) (by unfold FU_; omega) (Or.inl ⟨?_, Or.inl (by decide)⟩)
  · rw [e2 t ht]
    show _ = if t + 1 = T then (L : Int) else 0
    by_cases e : t + 1 = T
    · rw [if_pos e, if_pos e, ti_nI (by omega)]
    · rw [if_neg e, if_neg e, tl_0]
  · refine lx_least (p := 0) (s := (L : Int)) (by omega) (fun t _ h2 => ?_) ?_ ho.1.1 ?_ (fun t ht => absurd ht (by omega))
    · rw [if_neg (by omega)]
    · rw [if_pos (by omega)]
    · rw [ho.1.2, si_]
      omega
end TD5
