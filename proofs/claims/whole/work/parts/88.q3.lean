/-! own: safe, least: numbers by their toInt -/
theorem ta_ {x y : Int32} {a b : Int} (hx : x.toInt = a) (hy : y.toInt = b) (h1 : -2147483648 ≤ a + b) (h2 : a + b < 2147483648) : (x + y).toInt = a + b := by
  rw [Int32.toInt_add, hx, hy]
  exact Int.bmod_eq_of_le (by omega) (by omega)
theorem ts_ {x y : Int32} {a b : Int} (hx : x.toInt = a) (hy : y.toInt = b) (h1 : -2147483648 ≤ a - b) (h2 : a - b < 2147483648) : (x - y).toInt = a - b := by
  rw [Int32.toInt_sub, hx, hy]
  exact Int.bmod_eq_of_le (by omega) (by omega)
theorem tm_ {x y : Int32} {a b : Int} (hx : x.toInt = a) (hy : y.toInt = b) (h1 : -2147483648 ≤ a * b) (h2 : a * b < 2147483648) : (x * y).toInt = a * b := by
  rw [Int32.toInt_mul, hx, hy]
  exact Int.bmod_eq_of_le (by omega) (by omega)
theorem tn_ {x : Int32} {a : Int} (hx : x.toInt = a) (h1 : -2147483648 < a) (h2 : a < 2147483648) : (-x).toInt = -a := by
  rw [Int32.toInt_neg, hx]
  exact Int.bmod_eq_of_le (by omega) (by omega)
/-- the water that is left of W on day d, with e the day's want; what it lacks then -/
def lev_ (W e d : Int) : Int := max 0 (W - e * d)
def lac_ (W e d : Int) : Int := max 0 (e - lev_ W e d)
theorem lev_s {W e d : Int} (hW : 0 ≤ W) (hd : 0 ≤ d) : lev_ W e (d + 1) = max 0 (lev_ W e d - e) := by
  unfold lev_
  rw [Int.mul_add, Int.mul_one]
  have h : 0 < e * d → 0 < e := fun h => by
    rcases Int.lt_or_le 0 e with q | q
    · exact q
    · exact absurd (Int.mul_nonpos_of_nonpos_of_nonneg q hd) (by omega)
  generalize e * d = P at h ⊢
  omega
theorem lac_w {W e d : Int} (hW : 0 ≤ W) (hd : 0 ≤ d) : lac_ W e d = if e * (d + 1) - W ≤ 0 then 0 else if e * (d + 1) - W < e then e * (d + 1) - W else e := by
  unfold lac_ lev_
  rw [Int.mul_add, Int.mul_one]
  have h : 0 < e * d → 0 < e := fun h => by
    rcases Int.lt_or_le 0 e with q | q
    · exact q
    · exact absurd (Int.mul_nonpos_of_nonpos_of_nonneg q hd) (by omega)
  have h2 : e ≤ 0 → e * d ≤ 0 := fun q => Int.mul_nonpos_of_nonpos_of_nonneg q hd
  generalize e * d = P at h h2 ⊢
  omega
def si_ (f : Nat → Int) : Nat → Int
  | 0 => 0
  | n + 1 => si_ f n + f n
theorem si_b {f : Nat → Int} {M : Int} : ∀ n : Nat, (∀ t, t < n → 0 ≤ f t ∧ f t ≤ M) → 0 ≤ si_ f n ∧ si_ f n ≤ M * n
  | 0, _ => by simp [si_]
  | n + 1, h => by
    have h1 := si_b n (fun t ht => h t (by omega))
    have h2 := h n (by omega)
    rw [si_]
    have e : M * ((n + 1 : Nat) : Int) = M * n + M := by rw [Int.natCast_add, Int.mul_add]; simp
    omega
theorem si_c {f g : Nat → Int} : ∀ n : Nat, (∀ t, t < n → f t = g t) → si_ f n = si_ g n
  | 0, _ => rfl
  | n + 1, h => by rw [si_, si_, si_c n (fun t ht => h t (by omega)), h n (by omega)]
theorem mx_p {x : Int32} {a : Int} (hx : x.toInt = a) : (if (0 : Int32) < x then x else 0).toInt = max 0 a := by
  have t0 : (0 : Int32).toInt = 0 := rfl
  by_cases h : (0 : Int32) < x
  · rw [if_pos h, hx]
    have := (lt_of t0 hx).mp h
    omega
  · rw [if_neg h, t0]
    have := (not_congr (lt_of t0 hx)).mp h
    omega
section CO10
variable {T : Nat} {gain : Nat → Int32} {E : Nat → Int}
theorem e_pass4 (hT : T ≤ 6) (hg : ∀ t, t < T → (gain t).toInt = -(E t) ∧ -9 ≤ E t ∧ E t ≤ 9) {Lv : Nat → Int} (hL : ∀ t, t < T → 0 ≤ Lv t ∧ Lv t ≤ 1000000) : ∀ (n i : Nat) (level : Nat → Int32) (y : Int32), i ≤ T → T - i < n → y.toInt = si_ (fun t => max 0 (E t - Lv t)) i → (∀ t, t < T → (level t).toInt = if t < i then max 0 (Lv t - E t) else Lv t) → ∃ (y2 : Int32) (l2 : Nat → Int32), F_X1_passDay_4 gain (nI T) n level y (nI i) = some (y2, l2) ∧ y2.toInt = si_ (fun t => max 0 (E t - Lv t)) T ∧ ∀ t, t < T → (l2 t).toInt = max 0 (Lv t - E t) := by
  intro n
  induction n with
  | zero => intro i _ _ _ h; exact absurd h (by omega)
  | succ n ih =>
    intro i level y hi hn hy hl
    rw [F_X1_passDay_4]
    by_cases h : T ≤ i
    · rw [if_pos ((nI_leI (by omega) (by omega)).mpr h)]
      have hiT : i = T := by omega
      subst hiT
      refine ⟨y, level, rfl, hy, fun t ht => ?_⟩
      rw [hl t ht, if_pos ht]
    · obtain ⟨g1, g2, g3⟩ := hg i (by omega)
      have l1 := hl i (by omega)
      rw [if_neg (by omega)] at l1
      obtain ⟨b1, b2⟩ := hL i (by omega)
      have sb := si_b (M := 9) (f := fun t => max 0 (E t - Lv t)) i (fun t ht => by have := hg t (by omega); have := hL t (by omega); show 0 ≤ max 0 (E t - Lv t) ∧ max 0 (E t - Lv t) ≤ 9; omega)
      rw [if_neg (fun z => h ((nI_leI (by omega) (by omega)).mp z)), if_pos (ok_T (by omega) (by omega)), nI_clamp (n := i) (by omega), show nI i + (1 : Int32) = nI (i + 1) from nI_1 i]
      have hs : (level i + gain i).toInt = Lv i + -(E i) := ta_ l1 g1 (by omega) (by omega)
      have hn1 : (-(level i + gain i)).toInt = -(Lv i + -(E i)) := tn_ hs (by omega) (by omega)
      have m1 := mx_p hs
      have m2 := mx_p hn1
      refine ih (i + 1) _ _ (by omega) (by omega) ?_ (fun t ht => ?_)
      · rw [si_, ta_ hy m2 (by omega) (by omega)]
        show _ = _ + max 0 (E i - Lv i)
        omega
      · by_cases e : t = i
        · subst e
          rw [pk_us, m1, if_pos (by omega)]
          omega
        · rw [pk_un e, hl t ht]
          by_cases q : t < i
          · rw [if_pos q, if_pos (by omega)]
          · rw [if_neg q, if_neg (by omega)]
theorem e_pass (hT : T ≤ 6) (hg : ∀ t, t < T → (gain t).toInt = -(E t) ∧ -9 ≤ E t ∧ E t ≤ 9) {Lv : Nat → Int} (hL : ∀ t, t < T → 0 ≤ Lv t ∧ Lv t ≤ 1000000) {level : Nat → Int32} (hl : ∀ t, t < T → (level t).toInt = Lv t) : ∃ (y2 : Int32) (l2 : Nat → Int32), F_X1_passDay gain (nI T) level = some (y2, l2) ∧ y2.toInt = si_ (fun t => max 0 (E t - Lv t)) T ∧ ∀ t, t < T → (l2 t).toInt = max 0 (Lv t - E t) :=
  e_pass4 hT hg hL FU_ 0 level 0 (by omega) (by unfold FU_; omega) rfl (fun t ht => by rw [if_neg (by omega)]; exact hl t ht)
/-- what a terrace wants on day d -/
theorem e_wants {mn md w' : Nat → Int32} {W : Nat → Int} {t d : Nat} (ht : t < 6) (hd : d < 100) (h1 : ∃ a b : Nat, a ≤ 9 ∧ b ≤ 3 ∧ mn t = nI a ∧ md t = nI b ∧ E t = (a : Int) - b) (h2 : (w' t).toInt = W t ∧ 0 ≤ W t ∧ W t ≤ 100000) : ∃ z : Int32, F_X12_wants mn md w' (nI t) (nI d) = some z ∧ z.toInt = lac_ (W t) (E t) d := by
  obtain ⟨a, b, ha, hb, e1, e2, e3⟩ := h1
  have t0 : (0 : Int32).toInt = 0 := rfl
  have hE : (mn t - md t).toInt = E t := by
    rw [e1, e2, e3]
    exact ts_ (ti_nI (by omega)) (ti_nI (by omega)) (by omega) (by omega)
  have hd1 : (nI d + (1 : Int32)).toInt = (d : Int) + 1 := by
    rw [show nI d + (1 : Int32) = nI (d + 1) from nI_1 d, ti_nI (by omega)]; omega
  have hb1 : E t * ((d : Int) + 1) ≤ 900 := by
    have : E t * ((d : Int) + 1) ≤ 9 * ((d : Int) + 1) := Int.mul_le_mul_of_nonneg_right (by omega) (by omega)
    omega
  have hb2 : -300 ≤ E t * ((d : Int) + 1) := by
    have : -3 * ((d : Int) + 1) ≤ E t * ((d : Int) + 1) := Int.mul_le_mul_of_nonneg_right (by omega) (by omega)
    omega
  have hp : ((mn t - md t) * (nI d + (1 : Int32))).toInt = E t * ((d : Int) + 1) := tm_ hE hd1 (by omega) (by omega)
  have hall : ((mn t - md t) * (nI d + (1 : Int32)) - w' t).toInt = E t * ((d : Int) + 1) - W t := ts_ hp h2.1 (by omega) (by omega)
  rw [lac_w h2.2.1 (by omega)]
  unfold F_X12_wants
  rw [if_pos (ok_T (by omega) (by omega)), nI_clamp (n := t) (by omega)]
  by_cases c1 : E t * ((d : Int) + 1) - W t ≤ 0
  · rw [if_neg (fun z => absurd ((lt_of t0 hall).mp z) (by omega)), if_pos c1]
    exact ⟨_, rfl, rfl⟩
  · rw [if_pos ((lt_of t0 hall).mpr (by omega)), if_neg c1]
    by_cases c2 : E t * ((d : Int) + 1) - W t < E t
    · rw [if_neg (fun z => absurd ((le_of hE hall).mp z) (by omega)), if_pos c2]
      exact ⟨_, rfl, hall⟩
    · rw [if_pos ((le_of hE hall).mpr (by omega)), if_neg c2]
      exact ⟨_, rfl, hE⟩
end CO10
