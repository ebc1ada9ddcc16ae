/-! own: got -/
def lI (a : Int) : Int64 := Int64.ofInt a
theorem lI_t {a : Int} (h1 : -9223372036854775808 ≤ a) (h2 : a < 9223372036854775808) : (lI a).toInt = a := by
  unfold lI
  rw [Int64.toInt_ofInt]
  exact Int.bmod_eq_of_le (by show -((18446744073709551616 : Int) / 2) ≤ a; omega) (by show a < ((18446744073709551616 : Int) + 1) / 2; omega)
theorem lI_add (a b : Int) : lI a + lI b = lI (a + b) := (Int64.ofInt_add a b).symm
theorem lI_mul (a b : Int) : lI a * lI b = lI (a * b) := (Int64.ofInt_mul a b).symm
theorem lI_sub (a b : Int) : lI a - lI b = lI (a - b) := (Int64.ofInt_sub a b).symm
theorem lI_nI {n : Nat} (h : n < 2 ^ 31) : (nI n).toInt64 = lI n := Int64.toInt_inj.mp (by rw [Int32.toInt_toInt64, ti_nI h, lI_t (by omega) (by omega)])
theorem lI_rem {a b : Nat} (ha : a < 2 ^ 62) (h0 : 0 < b) (hb : b < 2 ^ 62) : lI a - lI a / lI b * lI b = lI ((a % b : Nat) : Int) := by
  have ta : (lI a).toInt = a := lI_t (by omega) (by omega)
  have tb : (lI b).toInt = b := lI_t (by omega) (by omega)
  have hq : a / b ≤ a := Nat.div_le_self a b
  have e1 : lI a / lI b = lI ((a / b : Nat) : Int) := by
    apply Int64.toInt_inj.mp
    rw [Int64.toInt_div, ta, tb, ← Int.ofNat_tdiv]
    generalize a / b = q at hq ⊢
    rw [lI_t (by omega) (by omega)]
    exact Int.bmod_eq_of_le (by omega) (by omega)
  rw [e1, lI_mul, lI_sub]
  congr 1
  have hdm := Nat.div_add_mod a b
  have e2 : ((a / b : Nat) : Int) * (b : Int) = ((b * (a / b) : Nat) : Int) := by rw [Int.natCast_mul, Int.mul_comm]
  rw [e2]
  generalize b * (a / b) = P at hdm ⊢
  omega
theorem lI_ne {a : Int} (h1 : 0 < a) (h2 : a < 9223372036854775808) : ¬ lI a = 0 := fun e => by
  have := congrArg Int64.toInt e
  rw [lI_t (by omega) h2] at this
  have z : (0 : Int64).toInt = 0 := rfl
  omega
theorem gd_half {a b : Nat} (h0 : 0 < b) (h : b ≤ a) : 2 * (a % b) ≤ a := by
  have h1 := Nat.mod_lt a h0
  have h2 := Nat.div_add_mod a b
  have h3 : 1 ≤ a / b := (Nat.one_le_div_iff h0).mpr h
  have h4 : b * 1 ≤ b * (a / b) := Nat.mul_le_mul_left b h3
  omega
theorem gd_s {a b s : Nat} (h0 : 0 < b) (h : b ≤ a) (hp : a * b < 2 ^ (s + 1)) : b * (a % b) < 2 ^ s := by
  have h1 := gd_half h0 h
  have h2 : b * (2 * (a % b)) ≤ b * a := Nat.mul_le_mul_left b h1
  rw [Nat.mul_left_comm, Nat.mul_comm b a] at h2
  rw [Nat.pow_succ] at hp
  omega
theorem gd_g {a b : Nat} : Nat.gcd b (a % b) = Nat.gcd a b := by rw [Nat.gcd_comm a b, Nat.gcd_rec b a, Nat.gcd_comm]
section CO13
variable {k T : Nat} {te da la sl sL many days law slip len turn tu : Int32} {cn cd cr cs mn md mr ms : Nat → Int32}
theorem e_gcdC : ∀ (s n a b j : Nat), b ≤ a → a < 2 ^ 62 → a * b < 2 ^ s → s + j ≤ 99 → s < n → F_X10_greatestDivisor_9 n (lI a) (lI b) (nI j) = F_X10_greatestDivisor_44 (lI (Nat.gcd a b : Nat)) := by
  have zero : ∀ (n a j : Nat), 0 < n → j ≤ 99 → F_X10_greatestDivisor_9 n (lI a) (lI ((0 : Nat) : Int)) (nI j) = F_X10_greatestDivisor_44 (lI (Nat.gcd a 0 : Nat)) := by
    intro n a j hn hj
    obtain ⟨m, rfl⟩ : ∃ m, n = m + 1 := ⟨n - 1, by omega⟩
    rw [F_X10_greatestDivisor_9, if_neg (fun z => absurd ((le_of (show (100 : Int32).toInt = 100 from rfl) (ti_nI (n := j) (by omega))).mp z) (by omega)), if_pos (show lg_cmp (lI ((0 : Nat) : Int)) 0 = 0 from (lg_cmp_eq _ _).mpr rfl), Nat.gcd_zero_right]
  intro s
  induction s with
  | zero =>
    intro n a b j h ha hp hj hn
    have : a * b = 0 := by omega
    have hb : b = 0 := by rcases Nat.mul_eq_zero.mp this with q | q <;> omega
    subst hb
    exact zero n a j hn (by omega)
  | succ s ih =>
    intro n a b j h ha hp hj hn
    by_cases hb : b = 0
    · subst hb
      exact zero n a j (by omega) (by omega)
    · obtain ⟨m, rfl⟩ : ∃ m, n = m + 1 := ⟨n - 1, by omega⟩
      have nb : ¬ lI (b : Int) = 0 := lI_ne (by omega) (by omega)
      rw [F_X10_greatestDivisor_9, if_neg (fun z => absurd ((le_of (show (100 : Int32).toInt = 100 from rfl) (ti_nI (n := j) (by omega))).mp z) (by omega)), if_neg (fun z => nb ((lg_cmp_eq _ _).mp z)), if_neg nb, lI_rem ha (by omega) (by omega), show nI j + (1 : Int32) = nI (j + 1) from nI_1 j, ih m b (a % b) (j + 1) (Nat.le_of_lt (Nat.mod_lt a (by omega))) (by omega) (gd_s (by omega) h hp) (by omega) (by omega), gd_g]
theorem e_gcdM {g : Nat → Int64} {y3 y4 : Int32} {y5 : Int64} : ∀ (s n a b : Nat), b ≤ a → a < 2 ^ 62 → a * b < 2 ^ s → s < n → F_X12_got_239 many slip len ms tu n g y3 y4 y5 (lI a) (lI b) = (if y4 = 0 then (if ok_I y3 13 = true then if lI (Nat.gcd a b : Nat) = 0 then none else some (((g y3.toNatClampNeg) / lI (Nat.gcd a b : Nat)), g) else none) else (if lI (Nat.gcd a b : Nat) = 0 then none else some ((y5 / lI (Nat.gcd a b : Nat)), g))) := by
  have zero : ∀ (n a : Nat), 0 < n → F_X12_got_239 many slip len ms tu n g y3 y4 y5 (lI a) (lI ((0 : Nat) : Int)) = (if y4 = 0 then (if ok_I y3 13 = true then if lI (Nat.gcd a 0 : Nat) = 0 then none else some (((g y3.toNatClampNeg) / lI (Nat.gcd a 0 : Nat)), g) else none) else (if lI (Nat.gcd a 0 : Nat) = 0 then none else some ((y5 / lI (Nat.gcd a 0 : Nat)), g))) := by
    intro n a hn
    obtain ⟨m, rfl⟩ : ∃ m, n = m + 1 := ⟨n - 1, by omega⟩
    rw [F_X12_got_239, if_pos (show lg_cmp (lI ((0 : Nat) : Int)) 0 = 0 from (lg_cmp_eq _ _).mpr rfl), Nat.gcd_zero_right]
  intro s
  induction s with
  | zero =>
    intro n a b h ha hp hn
    have : a * b = 0 := by omega
    have hb : b = 0 := by rcases Nat.mul_eq_zero.mp this with q | q <;> omega
    subst hb
    exact zero n a hn
  | succ s ih =>
    intro n a b h ha hp hn
    by_cases hb : b = 0
    · subst hb
      exact zero n a (by omega)
    · obtain ⟨m, rfl⟩ : ∃ m, n = m + 1 := ⟨n - 1, by omega⟩
      have nb : ¬ lI (b : Int) = 0 := lI_ne (by omega) (by omega)
      rw [F_X12_got_239, if_neg (fun z => nb ((lg_cmp_eq _ _).mp z)), if_neg nb, lI_rem ha (by omega) (by omega), ih m b (a % b) (Nat.le_of_lt (Nat.mod_lt a (by omega))) (by omega) (gd_s (by omega) h hp) (by omega), gd_g]
def stp (h : Nat) (A : Nat → Int) (e : Nat) : Int := A e * (10 - h) + (if e = 0 then 0 else A (e - 1) * h)
theorem uL_s {f : Nat → Int64} {k : Nat} {x : Int64} : vp_updL f k x k = x := if_pos rfl
theorem uL_n {f : Nat → Int64} {k j : Nat} {x : Int64} (h : j ≠ k) : vp_updL f k x j = f j := if_neg h
theorem t10_ : (10 : Int64) = lI 10 := rfl
theorem e_addL {h : Nat} {A : Nat → Int} : ∀ (n j : Nat) (f : Nat → Int64), j ≤ 12 → j < n → (∀ e, e < 13 → f e = lI (if j < e then stp h A e else A e)) → ∃ f2, F_X10_addDrop_5 n f (lI h) (nI j) = some f2 ∧ ∀ e, e < 13 → f2 e = lI (stp h A e) := by
  intro n
  induction n with
  | zero => intro j _ _ h; exact absurd h (by omega)
  | succ n ih =>
    intro j f hj hn hf
    rw [F_X10_addDrop_5]
    by_cases h0 : j = 0
    · subst h0
      rw [if_pos (show nI 0 ≤ 0 by decide), if_pos (show ok_I (0 : Int32) 13 = true by decide), show (0 : Int32).toNatClampNeg = 0 from rfl]
      refine ⟨_, rfl, fun e he => ?_⟩
      by_cases q : e = 0
      · subst q
        rw [uL_s, hf 0 (by omega), if_neg (by omega), t10_, lI_sub, lI_mul]
        congr 1
        unfold stp
        rw [if_pos rfl, Int.add_zero]
      · rw [uL_n q, hf e he, if_pos (by omega)]
    · obtain ⟨i, rfl⟩ : ∃ i, j = i + 1 := ⟨j - 1, by omega⟩
      have ej : nI (i + 1) - (1 : Int32) = nI i := pk_sub (a := i + 1) (b := 1) (by omega)
      have ej2 : nI (i + 1) + (-1 : Int32) = nI i := by rw [show nI (i + 1) = nI i + 1 from (nI_1 i).symm, Int32.add_assoc]; exact Int32.add_zero _
      rw [if_neg (fun z => absurd ((le_of (ti_nI (by omega)) tl_0).mp z) (by omega)), if_pos (ok_T (by omega) (by omega)), ej, if_pos (ok_T (by omega) (by omega)), ej2, nI_clamp (n := i + 1) (by omega), nI_clamp (n := i) (by omega)]
      refine ih i _ (by omega) (by omega) (fun e he => ?_)
      by_cases q : e = i + 1
      · subst q
        rw [uL_s, hf (i + 1) (by omega), hf i (by omega), if_neg (by omega), if_neg (by omega), if_pos (by omega), t10_, lI_sub, lI_mul, lI_mul, lI_add]
        congr 1
      · rw [uL_n q, hf e he]
        by_cases c : i + 1 < e
        · rw [if_pos c, if_pos (by omega)]
        · rw [if_neg c, if_neg (by omega)]
theorem e_byL {h : Nat} (hh : h ≤ 10) {A : Nat → Int} {k86 : (Nat → Int64) → Int32 → Int32 → Int32 → Int32 → Int64 → Int32 → Option (Int64 × (Nat → Int64))} {y1 y2 y3 y4 y7 : Int32} {y5 : Int64} : ∀ (n j : Nat) (f : Nat → Int64), j ≤ 13 → j < n → (∀ e, e < 13 → f e = lI (if j ≤ e then stp h A e else A e)) → ∃ f2, F_X12_got_158 many slip len ms tu k86 n f y1 y2 y3 y4 y5 y7 (nI h) (nI j - 1) = k86 f2 y1 y2 y3 y4 (y5 * 10) (y7 + 1) ∧ ∀ e, e < 13 → f2 e = lI (stp h A e) := by
  intro n
  induction n with
  | zero => intro j _ _ h; exact absurd h (by omega)
  | succ n ih =>
    intro j f hj hn hf
    rw [F_X12_got_158]
    by_cases h0 : j = 0
    · subst h0
      rw [if_pos (show nI 0 - 1 < 0 by decide)]
      exact ⟨f, rfl, fun e he => by rw [hf e he, if_pos (by omega)]⟩
    · obtain ⟨i, rfl⟩ : ∃ i, j = i + 1 := ⟨j - 1, by omega⟩
      have ej : nI (i + 1) - (1 : Int32) = nI i := pk_sub (a := i + 1) (b := 1) (by omega)
      have ej2 : nI i + (-1 : Int32) = nI i - 1 := (Int32.sub_eq_add_neg _ _).symm
      have e10 : ((10 : Int32) - nI h).toInt64 = lI ((10 : Int) - h) := by
        rw [show (10 : Int32) = nI 10 from rfl, pk_sub hh, lI_nI (by omega)]
        congr 1
        omega
      rw [ej, if_neg (fun z => absurd ((lt_of (ti_nI (by omega)) tl_0).mp z) (by omega)), if_pos (ok_T (by omega) (by omega)), ej2, nI_clamp (n := i) (by omega), e10, lI_nI (n := h) (by omega)]
      by_cases i0 : i = 0
      · subst i0
        rw [if_pos (show nI 0 = 0 from rfl)]
        refine ih 0 _ (by omega) (by omega) (fun e he => ?_)
        by_cases q : e = 0
        · subst q
          rw [uL_s, hf 0 (by omega), if_neg (by omega), if_pos (by omega), show (0 : Int64) = lI 0 from rfl, lI_mul, lI_add]
          congr 1
        · rw [uL_n q, hf e he, if_pos (by omega), if_pos (by omega)]
      · rw [if_neg (nI_ne0 (by omega) (by omega)), show nI i - (1 : Int32) = nI (i - 1) from pk_sub (a := i) (b := 1) (by omega), if_pos (ok_T (by omega) (by omega)), nI_clamp (n := i - 1) (by omega), show nI (i - 1) = nI i - 1 from (pk_sub (a := i) (b := 1) (by omega)).symm]
        refine ih i _ (by omega) (by omega) (fun e he => ?_)
        by_cases q : e = i
        · subst q
          rw [uL_s, hf e (by omega), hf (e - 1) (by omega), if_neg (by omega), if_neg (by omega), if_pos (by omega), lI_mul, lI_mul, lI_add]
          congr 1
          unfold stp
          rw [if_neg i0]
        · rw [uL_n q, hf e he]
          by_cases c : i + 1 ≤ e
          · rw [if_pos c, if_pos (by omega)]
          · rw [if_neg c, if_neg (by omega)]
/-- bounds of the ways -/
def wb_ (A : Nat → Int) (i : Nat) : Prop := (∀ e, 0 ≤ A e ∧ A e ≤ (10 : Int) ^ i) ∧ ∀ e, i < e → A e = 0
theorem wb_s {h i : Nat} {A : Nat → Int} (hh : h ≤ 10) (hA : wb_ A i) : wb_ (stp h A) (i + 1) := by
  obtain ⟨h1, h2⟩ := hA
  have p0 : (0 : Int) ≤ 10 ^ i := (by have := h1 0; omega)
  refine ⟨fun e => ?_, fun e he => ?_⟩
  · have a1 := h1 e
    have m1 : 0 ≤ A e * (10 - (h : Int)) := Int.mul_nonneg a1.1 (by omega)
    have m2 : A e * (10 - (h : Int)) ≤ 10 ^ i * (10 - (h : Int)) := Int.mul_le_mul_of_nonneg_right a1.2 (by omega)
    have p1 : (10 : Int) ^ (i + 1) = 10 ^ i * (10 - (h : Int)) + 10 ^ i * h := by rw [Int.pow_succ, ← Int.mul_add]; congr 1; omega
    unfold stp
    by_cases q : e = 0
    · rw [if_pos q, p1]
      have : 0 ≤ (10 : Int) ^ i * h := Int.mul_nonneg p0 (by omega)
      generalize A e * (10 - (h : Int)) = X at *
      generalize (10 : Int) ^ i * (10 - (h : Int)) = Y at *
      omega
    · rw [if_neg q, p1]
      have a2 := h1 (e - 1)
      have m3 : 0 ≤ A (e - 1) * (h : Int) := Int.mul_nonneg a2.1 (by omega)
      have m4 : A (e - 1) * (h : Int) ≤ 10 ^ i * (h : Int) := Int.mul_le_mul_of_nonneg_right a2.2 (by omega)
      generalize A e * (10 - (h : Int)) = X at *
      generalize (10 : Int) ^ i * (10 - (h : Int)) = Y at *
      generalize A (e - 1) * (h : Int) = Z at *
      generalize (10 : Int) ^ i * (h : Int) = V at *
      omega
  · unfold stp
    rw [if_neg (by omega), h2 e (by omega), h2 (e - 1) (by omega)]
    simp
/-- the hits of a drop: both alike -/
theorem e_hits {L s j t : Nat} (hT : T ≤ 6) (hs : s ≤ 9) (l1 : 1 ≤ L) (l8 : L ≤ 8) (hg : ∀ j, j < L → cs j = ms j ∧ ∃ a : Nat, a < max 1 T ∧ ms j = nI a) (ht : t < T) (hj : j < 2000) : ∃ a h : Nat, h ≤ 10 ∧ a < T ∧ ms (j % L) = nI a ∧ F_X10_hitsOf cs (nI T) (nI s) (nI L) (nI j) (nI t) = some (nI h) ∧ (if nI a = nI t then (10 : Int32) - nI s else 0) + (if nI ((a + 1) % T) = nI t then nI s else 0) = nI h := by
  have hm : j % L < L := Nat.mod_lt _ (by omega)
  obtain ⟨g1, a, ha, g2⟩ := hg (j % L) hm
  have ha : a < T := by omega
  have hb : (a + 1) % T < T := Nat.mod_lt _ (by omega)
  have e0 : (10 : Int32) - nI s = nI (10 - s) := pk_sub (a := 10) (b := s) (by omega)
  unfold F_X10_hitsOf F_X10_hitsOf_22
  rw [e_sung l1 l8 (by omega), g1, g2]
  simp only [Option.bind_some]
  rw [e_next hT ha]
  simp only [Option.bind_some]
  rw [e0]
  refine ⟨a, ?_⟩
  by_cases c1 : nI a = nI t
  · rw [if_pos c1, if_pos c1]
    by_cases c2 : nI ((a + 1) % T) = nI t
    · rw [if_pos c2, if_pos c2, nI_add]
      exact ⟨10 - s + s, by omega, ha, rfl, rfl, rfl⟩
    · rw [if_neg c2, if_neg c2]
      exact ⟨10 - s, by omega, ha, rfl, rfl, Int32.add_zero _⟩
  · rw [if_neg c1, if_neg c1]
    by_cases c2 : nI ((a + 1) % T) = nI t
    · rw [if_pos c2, if_pos c2]
      exact ⟨s, by omega, ha, rfl, by rw [Int32.zero_add], Int32.zero_add _⟩
    · rw [if_neg c2, if_neg c2]
      exact ⟨0, by omega, ha, rfl, rfl, rfl⟩
theorem e_gotC {L s u N t K : Nat} (hT : T ≤ 6) (hs : s ≤ 9) (l1 : 1 ≤ L) (l8 : L ≤ 8) (hg : ∀ j, j < L → cs j = ms j ∧ ∃ a : Nat, a < max 1 T ∧ ms j = nI a) (ht : t < T) (hu : u < 1000) (hN : N ≤ 12) (hK : K ≤ 12) (y4 : Int32) : ∀ (n i : Nat) (f g : Nat → Int64) (A : Nat → Int), i ≤ N → N - i < n → wb_ A i → (∀ e, e < 13 → f e = lI (A e)) → (∀ e, e < 13 → g e = lI (A e)) → ∃ (A2 : Nat → Int) (f2 g2 : Nat → Int64), F_X10_waysToGet_37 cs (nI T) (nI s) (nI L) n f (nI u) (nI N) (nI t) (nI K) (nI i) = some (lI (A2 K), f2) ∧ F_X12_got_86 (nI T) (nI s) (nI L) ms (nI u) n g (nI N) (nI t) (nI K) y4 (lI ((10 : Int) ^ i)) (nI i) = F_X12_got_239 (nI T) (nI s) (nI L) ms (nI u) FU_ g2 (nI K) y4 (lI ((10 : Int) ^ N)) (lI (A2 K)) (lI ((10 : Int) ^ N)) ∧ g2 K = lI (A2 K) ∧ wb_ A2 N := by
  intro n
  induction n with
  | zero => intro i _ _ _ _ h; exact absurd h (by omega)
  | succ n ih =>
    intro i f g A hi hn hA hf hgg
    rw [F_X10_waysToGet_37, F_X12_got_86]
    by_cases h : N ≤ i
    · have z := (nI_leI (a := N) (b := i) (by omega) (by omega)).mpr h
      have e : i = N := by omega
      subst e
      rw [if_pos z, if_pos z, if_pos (ok_T (by omega) (by omega)), nI_clamp (n := K) (by omega), hf K (by omega), hgg K (by omega)]
      exact ⟨A, f, g, rfl, by rw [if_pos (ok_T (by omega) (by omega))], hgg K (by omega), hA⟩
    · have z : ¬ nI N ≤ nI i := fun z => h ((nI_leI (by omega) (by omega)).mp z)
      have hm : (u + i) % L < L := Nat.mod_lt _ (by omega)
      obtain ⟨a, hh, b1, b2, b3, b4, b5⟩ := e_hits (T := T) (cs := cs) (ms := ms) (L := L) (s := s) (j := u + i) (t := t) hT hs l1 l8 hg ht (by omega)
      have start : ∀ e, e < 13 → lI (A e) = lI (if i + 1 < e then stp hh A e else A e) := by
        intro e he
        by_cases c : i + 1 < e
        · rw [if_pos c, hA.2 e (by omega), (wb_s b1 hA).2 e c]
        · rw [if_neg c]
      obtain ⟨f2, c1, c2⟩ := e_addL (h := hh) (A := A) FU_ (i + 1) f (by omega) (by unfold FU_; omega) (fun e he => (hf e he).trans (start e he))
      have c1 : F_X10_addDrop f (nI i) (lI hh) = some f2 := by
        unfold F_X10_addDrop
        rw [show nI i + (1 : Int32) = nI (i + 1) from nI_1 i]
        exact c1
      obtain ⟨g2, d1, d2⟩ := e_byL (many := nI T) (slip := nI s) (len := nI L) (ms := ms) (tu := nI u) (h := hh) b1 (A := A) (k86 := F_X12_got_86 (nI T) (nI s) (nI L) ms (nI u) n) (y1 := nI N) (y2 := nI t) (y3 := nI K) (y4 := y4) (y7 := nI i) (y5 := lI ((10 : Int) ^ i)) FU_ (i + 2) g (by omega) (by unfold FU_; omega) (fun e he => by
        rw [hgg e he, start e he]
        by_cases c : i + 1 < e
        · rw [if_pos c, if_pos (by omega)]
        · rw [if_neg c, if_neg (by omega)])
      have hLn : ¬ nI L = 0 := nI_ne0 (by omega) (by omega)
      have hTn : ¬ nI T = 0 := nI_ne0 (by omega) (by omega)
      rw [if_neg z, if_neg z, nI_add, b4, if_neg hLn, pk_rem (a := u + i) (d := L) (by omega) (by omega) (by omega), if_pos (ok_T (by omega) (by omega)), nI_clamp (n := (u + i) % L) (by omega), b3]
      simp only [Option.bind_some]
      rw [lI_nI (n := hh) (by omega), c1]
      simp only [Option.bind_some]
      have key : ∀ t0 : Int32, t0 = (if nI a = nI t then (10 : Int32) - nI s else 0) → F_X12_got_128 (nI T) (nI s) (nI L) ms (nI u) (F_X12_got_86 (nI T) (nI s) (nI L) ms (nI u) n) g (nI N) (nI t) (nI K) y4 (lI ((10 : Int) ^ i)) (nI i) (nI a) t0 = F_X12_got_86 (nI T) (nI s) (nI L) ms (nI u) n g2 (nI N) (nI t) (nI K) y4 (lI ((10 : Int) ^ (i + 1))) (nI (i + 1)) := by
        intro t0 e0
        have fin : F_X12_got_158 (nI T) (nI s) (nI L) ms (nI u) (F_X12_got_86 (nI T) (nI s) (nI L) ms (nI u) n) FU_ g (nI N) (nI t) (nI K) y4 (lI ((10 : Int) ^ i)) (nI i) (nI hh) (nI i + 1) = F_X12_got_86 (nI T) (nI s) (nI L) ms (nI u) n g2 (nI N) (nI t) (nI K) y4 (lI ((10 : Int) ^ (i + 1))) (nI (i + 1)) := by
          rw [show nI i + (1 : Int32) = nI (i + 1) from nI_1 i, show nI (i + 1) = nI (i + 2) - 1 from (pk_sub (a := i + 2) (b := 1) (by omega)).symm, d1, show nI i + (1 : Int32) = nI (i + 1) from nI_1 i, t10_, lI_mul, ← Int.pow_succ, show nI (i + 2) - 1 = nI (i + 1) from pk_sub (a := i + 2) (b := 1) (by omega)]
        unfold F_X12_got_128 F_X12_got_149
        rw [if_neg hTn, show nI a + (1 : Int32) = nI (a + 1) from nI_1 a, pk_rem (a := a + 1) (d := T) (by omega) (by omega) (by omega), e0]
        by_cases q : nI ((a + 1) % T) = nI t
        · rw [if_pos q] at b5 ⊢
          rw [b5]
          exact fin
        · rw [if_neg q] at b5 ⊢
          rw [b5]
          exact fin
      have key2 : (if nI a = nI t then F_X12_got_128 (nI T) (nI s) (nI L) ms (nI u) (F_X12_got_86 (nI T) (nI s) (nI L) ms (nI u) n) g (nI N) (nI t) (nI K) y4 (lI ((10 : Int) ^ i)) (nI i) (nI a) ((10 : Int32) - nI s) else F_X12_got_128 (nI T) (nI s) (nI L) ms (nI u) (F_X12_got_86 (nI T) (nI s) (nI L) ms (nI u) n) g (nI N) (nI t) (nI K) y4 (lI ((10 : Int) ^ i)) (nI i) (nI a) 0) = F_X12_got_86 (nI T) (nI s) (nI L) ms (nI u) n g2 (nI N) (nI t) (nI K) y4 (lI ((10 : Int) ^ (i + 1))) (nI (i + 1)) := by
        by_cases q : nI a = nI t
        · rw [if_pos q]
          exact key _ (by rw [if_pos q])
        · rw [if_neg q]
          exact key _ (by rw [if_neg q])
      rw [key2, show nI i + (1 : Int32) = nI (i + 1) from nI_1 i]
      exact ih (i + 1) f2 g2 (stp hh A) (by omega) (by omega) (wb_s b1 hA) c2 d2
theorem e_all10 {N : Nat} (hN : N ≤ 12) : ∀ (n i : Nat), i ≤ N → N - i < n → F_X10_waysInAll_5 n (nI N) (lI ((10 : Int) ^ i)) (nI i) = some (lI ((10 : Int) ^ N)) := by
  intro n
  induction n with
  | zero => intro i _ h; exact absurd h (by omega)
  | succ n ih =>
    intro i hi hn
    rw [F_X10_waysInAll_5]
    by_cases h : N ≤ i
    · have e : i = N := by omega
      subst e
      rw [if_pos ((nI_leI (by omega) (by omega)).mpr h)]
    · rw [if_neg (fun z => h ((nI_leI (by omega) (by omega)).mp z)), t10_, lI_mul, ← Int.pow_succ, show nI i + (1 : Int32) = nI (i + 1) from nI_1 i]
      exact ih (i + 1) (by omega) (by omega)
theorem e_fillL : ∀ (n i : Nat) (f : Nat → Int64), i ≤ 13 → 13 - i < n → ∃ f2, F_J7_fill_d0a16_6 n f 0 (nI i) 13 = some f2 ∧ (∀ e, i ≤ e → e < 13 → f2 e = 0) ∧ ∀ e, e < i → f2 e = f e := by
  intro n
  induction n with
  | zero => intro i _ _ h; exact absurd h (by omega)
  | succ n ih =>
    intro i f hi hn
    rw [F_J7_fill_d0a16_6]
    by_cases h : 13 ≤ i
    · rw [if_pos ((le_of (show (13 : Int32).toInt = 13 from rfl) (ti_nI (n := i) (by omega))).mpr (by omega))]
      exact ⟨f, rfl, fun e h1 h2 => absurd h1 (by omega), fun _ _ => rfl⟩
    · rw [if_neg (fun z => absurd ((le_of (show (13 : Int32).toInt = 13 from rfl) (ti_nI (n := i) (by omega))).mp z) (by omega)), if_pos (ok_T (by omega) (by omega)), nI_clamp (n := i) (by omega), show nI i + (1 : Int32) = nI (i + 1) from nI_1 i]
      obtain ⟨f2, c1, c2, c3⟩ := ih (i + 1) (vp_updL f i 0) (by omega) (by omega)
      refine ⟨f2, c1, fun e h1 h2 => ?_, fun e he => ?_⟩
      · by_cases q : e = i
        · subst q
          rw [c3 e (by omega), uL_s]
        · exact c2 e (by omega) h2
      · rw [c3 e (by omega), uL_n (by omega)]
theorem e_g50 {y1 y2 y3 y4 : Int32} : ∀ (n i : Nat) (g : Nat → Int64), i ≤ 13 → 13 - i < n → (∀ e, e < i → g e = lI (if e = 0 then 1 else 0)) → ∃ g2, F_X12_got_50 many slip len ms tu n g y1 y2 y3 y4 (nI i) = F_X12_got_86 many slip len ms tu FU_ g2 y1 y2 y3 y4 1 0 ∧ ∀ e, e < 13 → g2 e = lI (if e = 0 then 1 else 0) := by
  intro n
  induction n with
  | zero => intro i _ _ h; exact absurd h (by omega)
  | succ n ih =>
    intro i g hi hn hg
    rw [F_X12_got_50]
    by_cases h : 13 ≤ i
    · rw [if_pos ((le_of (show (13 : Int32).toInt = 13 from rfl) (ti_nI (n := i) (by omega))).mpr (by omega))]
      exact ⟨g, rfl, fun e h1 => hg e (by omega)⟩
    · rw [if_neg (fun z => absurd ((le_of (show (13 : Int32).toInt = 13 from rfl) (ti_nI (n := i) (by omega))).mp z) (by omega)), if_pos (ok_T (by omega) (by omega)), nI_clamp (n := i) (by omega), show nI i + (1 : Int32) = nI (i + 1) from nI_1 i]
      by_cases i0 : i = 0
      · subst i0
        rw [if_pos (show nI 0 = 0 from rfl)]
        refine ih 1 _ (by omega) (by omega) (fun e he => ?_)
        have : e = 0 := by omega
        subst this
        rw [uL_s]
        rfl
      · rw [if_neg (nI_ne0 (by omega) (by omega)), if_pos (ok_T (by omega) (by omega))]
        refine ih (i + 1) _ (by omega) (by omega) (fun e he => ?_)
        by_cases q : e = i
        · subst q
          rw [uL_s, if_neg i0]
          rfl
        · rw [uL_n q]
          exact hg e (by omega)
theorem p10_b : ∀ N, N ≤ 12 → (10 : Int) ^ N = ((10 ^ N : Nat) : Int) ∧ 1 ≤ 10 ^ N ∧ 10 ^ N < 2 ^ 40 := by
  intro N hN
  refine ⟨(Int.natCast_pow 10 N).symm, Nat.one_le_pow _ _ (by omega), ?_⟩
  exact Nat.lt_of_le_of_lt (Nat.pow_le_pow_right (by omega) hN) (by decide)
/-- the divisor: both alike -/
theorem e_div {N c : Nat} (hN : N ≤ 12) (hc : c ≤ 10 ^ N) {g : Nat → Int64} {y3 y4 : Int32} {y5 : Int64} : ∃ d : Int64, ¬ d = 0 ∧ F_X10_greatestDivisor (lI c) (lI ((10 : Int) ^ N)) = some d ∧ F_X12_got_239 many slip len ms tu FU_ g y3 y4 y5 (lI c) (lI ((10 : Int) ^ N)) = (if y4 = 0 then (if ok_I y3 13 = true then if d = 0 then none else some (((g y3.toNatClampNeg) / d), g) else none) else (if d = 0 then none else some ((y5 / d), g))) := by
  obtain ⟨p1, p2, p3⟩ := p10_b N hN
  rw [p1]
  generalize 10 ^ N = M at *
  have hgp : 0 < Nat.gcd c M := Nat.gcd_pos_of_pos_right _ (by omega)
  have hgb : Nat.gcd c M ≤ M := Nat.le_of_dvd (by omega) (Nat.gcd_dvd_right c M)
  have hd : ¬ lI ((Nat.gcd c M : Nat) : Int) = 0 := lI_ne (by omega) (by omega)
  have h44 : F_X10_greatestDivisor_44 (lI ((Nat.gcd c M : Nat) : Int)) = some (lI ((Nat.gcd c M : Nat) : Int)) := by
    unfold F_X10_greatestDivisor_44
    rw [if_neg]
    intro q
    have := Int64.lt_iff_toInt_lt.mp q
    rw [lI_t (by omega) (by omega)] at this
    have z : (1 : Int64).toInt = 1 := rfl
    omega
  have hpr : M * (c % M) < 2 ^ 80 := by
    have h1 : c % M < M := Nat.mod_lt _ (by omega)
    have h2 : M * (c % M) ≤ 2 ^ 40 * 2 ^ 40 := Nat.mul_le_mul (by omega) (by omega)
    have h3 : M * (c % M) < 2 ^ 40 * 2 ^ 40 := Nat.lt_of_le_of_lt (Nat.mul_le_mul_left M (show c % M ≤ 2 ^ 40 by omega)) (Nat.mul_lt_mul_of_pos_right p3 (by omega))
    rw [← Nat.pow_add] at h3
    exact h3
  have nM : ¬ lI (M : Int) = 0 := lI_ne (by omega) (by omega)
  refine ⟨_, hd, ?_, ?_⟩
  · unfold F_X10_greatestDivisor
    rw [FU_s, F_X10_greatestDivisor_9, if_neg (show ¬ (100 : Int32) ≤ 0 by decide), if_neg (fun z => nM ((lg_cmp_eq _ _).mp z)), if_neg nM, lI_rem (by omega) (by omega) (by omega), show (0 : Int32) + 1 = nI 1 from rfl, e_gcdC 80 7999 M (c % M) 1 (Nat.le_of_lt (Nat.mod_lt c (by omega))) (by omega) hpr (by omega) (by omega), gd_g, h44]
  · rw [FU_s, F_X12_got_239, if_neg (fun z => nM ((lg_cmp_eq _ _).mp z)), if_neg nM, lI_rem (by omega) (by omega) (by omega), e_gcdM 80 7999 M (c % M) (Nat.le_of_lt (Nat.mod_lt c (by omega))) (by omega) hpr (by omega), gd_g]
variable {w lk st ss w' lk' st' ss' : Nat → Int32} {day left lot seen day' left' turn' lot' seen' : Int32}
theorem CO_got (hk : k < 600) (hH : IH_ T te da la sl sL cn cd cr cs many days law slip len mn md mr ms) (hN : IN_ k T w lk st ss day left turn lot seen w' lk' st' ss' day' left' turn' lot' seen') (x1 x2 x3 x4 : Int32) (cw mw : Nat → Int64) : ∃ (u1 u2 : Int64 × (Nat → Int64)), F_X11_got cs te sl sL turn cw x1 x2 x3 x4 = some u1 ∧ F_X12_got many slip len ms turn' mw x1 x2 x3 x4 = some u2 ∧ u1.1 = u2.1 := by
  obtain ⟨hT, rfl, rfl, -, -, ⟨rfl, s, hs, rfl⟩, ⟨L, l1, l8, rfl, rfl, hg⟩, -⟩ := hH
  obtain ⟨-, -, ⟨rfl, u, hu, rfl⟩, -⟩ := hN
  have i0 : (0 : Int64).toInt = 0 := rfl
  have i1 : (1 : Int64).toInt = 1 := rfl
  have i12 : (12 : Int64).toInt = 12 := rfl
  unfold F_X11_got F_X12_got
  rw [e_in, e_in, e_in, e_isT hT, e_has hT, i0, i1, i12]
  simp only [Option.bind_some]
  by_cases p1 : 1 ≤ x1.toInt ∧ x1.toInt ≤ 12
  case neg =>
    rw [if_neg p1]
    by_cases z : x1 < 1
    · rw [if_pos z]
      exact ⟨_, _, rfl, rfl, rfl⟩
    · rw [if_neg z, if_pos ((lt_of tl_12 rfl).mpr (by have := (not_congr (lt_of rfl tl_1)).mp z; omega))]
      exact ⟨_, _, rfl, rfl, rfl⟩
  rw [if_pos p1, if_neg (fun z => absurd ((lt_of rfl tl_1).mp z) (by omega)), if_neg (fun z => absurd ((lt_of tl_12 rfl).mp z) (by omega)), if_neg (show ¬ (1 : Int32) = 0 by decide)]
  by_cases p2 : 0 ≤ x2.toInt ∧ x2.toInt < T
  case neg =>
    rw [if_neg p2]
    exact ⟨_, _, rfl, rfl, rfl⟩
  rw [if_pos p2, if_neg (show ¬ (1 : Int32) = 0 by decide), if_neg (show ¬ (1 : Int32) = 0 by decide)]
  by_cases p3 : 0 ≤ x3.toInt ∧ x3.toInt ≤ 12
  case neg =>
    rw [if_neg p3]
    by_cases z : x3 < 0
    · rw [if_pos z]
      exact ⟨_, _, rfl, rfl, rfl⟩
    · rw [if_neg z, if_pos ((lt_of tl_12 rfl).mpr (by have := (not_congr (lt_of rfl tl_0)).mp z; omega))]
      exact ⟨_, _, rfl, rfl, rfl⟩
  rw [if_pos p3, if_neg (fun z => absurd ((lt_of rfl tl_0).mp z) (by omega)), if_neg (fun z => absurd ((lt_of tl_12 rfl).mp z) (by omega)), if_neg (show ¬ (1 : Int32) = 0 by decide)]
  by_cases p4 : 0 ≤ x4.toInt ∧ x4.toInt ≤ 1
  case neg =>
    rw [if_neg p4]
    by_cases z : x4 < 0
    · rw [if_pos z]
      exact ⟨_, _, rfl, rfl, rfl⟩
    · rw [if_neg z, if_neg (fun q => by have := (le_of rfl tl_1).mp q; have := (not_congr (lt_of rfl tl_0)).mp z; omega)]
      exact ⟨_, _, rfl, rfl, rfl⟩
  rw [if_pos p4, if_neg (fun z => absurd ((lt_of rfl tl_0).mp z) (by omega)), if_pos ((le_of rfl tl_1).mpr (by omega)), if_neg (show ¬ (1 : Int32) = 0 by decide)]
  obtain ⟨N, hN, rfl⟩ := ix_nI (x := x1) (T := 13) (by omega) (by omega)
  obtain ⟨t, ht, rfl⟩ := ix_nI (x := x2) (T := T) p2 (by omega)
  obtain ⟨K, hK, rfl⟩ := ix_nI (x := x3) (T := 13) (by omega) (by omega)
  rw [ti_nI (by omega)] at p1 p3
  have h0 : wb_ (fun e => if e = 0 then 1 else 0) 0 := ⟨fun e => by show 0 ≤ (if e = 0 then (1 : Int) else 0) ∧ (if e = 0 then (1 : Int) else 0) ≤ 10 ^ 0; by_cases q : e = 0 <;> simp [q], fun e he => if_neg (by omega)⟩
  obtain ⟨f1, c1, c2, -⟩ := e_fillL FU_ 0 cw (by omega) (by unfold FU_; omega)
  have hf : ∀ e, e < 13 → vp_updL f1 0 1 e = lI (if e = 0 then 1 else 0) := by
    intro e he
    by_cases q : e = 0
    · subst q
      rfl
    · rw [uL_n q, if_neg q, c2 e (by omega) he]
      rfl
  obtain ⟨g1, d1, d2⟩ := e_g50 (many := nI T) (slip := nI s) (len := nI L) (ms := ms) (tu := nI u) (y1 := nI N) (y2 := nI t) (y3 := nI K) (y4 := x4) FU_ 0 mw (by omega) (by unfold FU_; omega) (fun e he => absurd he (by omega))
  obtain ⟨A2, f2, g2, m1, m2, m3, m4⟩ := e_gotC (T := T) (cs := cs) (ms := ms) (L := L) (s := s) (u := u) (N := N) (t := t) (K := K) hT hs l1 l8 hg ht (by omega) (by omega) (by omega) x4 FU_ 0 (vp_updL f1 0 1) g1 _ (by omega) (by unfold FU_; omega) h0 hf d2
  obtain ⟨p10a, p10b, p10c⟩ := p10_b N (by omega)
  have hA := m4.1 K
  rw [p10a] at hA
  obtain ⟨c, hc⟩ : ∃ c : Nat, A2 K = c := ⟨(A2 K).toNat, by omega⟩
  rw [hc] at hA m1 m2 m3
  obtain ⟨d, q1, q2, q3⟩ := e_div (many := nI T) (slip := nI s) (len := nI L) (ms := ms) (tu := nI u) (N := N) (c := c) (by omega) (by omega) (g := g2) (y3 := nI K) (y4 := x4) (y5 := lI ((10 : Int) ^ N))
  have cls : ∃ f3, F_X10_waysToGet cs (nI T) (nI s) (nI L) cw (nI u) (nI N) (nI t) (nI K) = some (lI c, f3) := by
    unfold F_X10_waysToGet
    rw [if_neg (fun z => absurd ((lt_of tl_12 (ti_nI (n := N) (by omega))).mp z) (by omega)), if_neg (fun z => absurd ((lt_of (ti_nI (n := K) (by omega)) tl_0).mp z) (by omega))]
    by_cases q : K ≤ N
    · rw [if_pos ((nI_leI (by omega) (by omega)).mpr q), show F_J7_fill_d0a16 cw 0 = some f1 from c1]
      simp only [Option.bind_some]
      rw [if_pos (show ok_I (0 : Int32) 13 = true by decide)]
      exact ⟨f2, m1⟩
    · rw [if_neg (fun z => q ((nI_leI (by omega) (by omega)).mp z))]
      have : (c : Int) = 0 := by rw [← hc]; exact m4.2 K (by omega)
      rw [this]
      exact ⟨cw, rfl⟩
  obtain ⟨f3, cls⟩ := cls
  rw [cls, show F_X10_waysInAll (nI N) = some (lI ((10 : Int) ^ N)) from e_all10 (by omega) FU_ 0 (by omega) (by unfold FU_; omega), show F_X12_got_50 (nI T) (nI s) (nI L) ms (nI u) FU_ mw (nI N) (nI t) (nI K) x4 0 = _ from d1, show F_X12_got_86 (nI T) (nI s) (nI L) ms (nI u) FU_ g1 (nI N) (nI t) (nI K) x4 1 0 = _ from m2, q3]
  simp only [Option.bind_some]
  unfold F_X11_got_92
  rw [q2]
  simp only [Option.bind_some]
  rw [if_neg q1, if_neg q1, if_pos (ok_T (by omega) (by omega)), nI_clamp (n := K) (by omega), m3]
  by_cases c4 : x4 = 0
  · rw [if_pos c4, if_pos c4, if_neg q1]
    exact ⟨_, _, rfl, rfl, rfl⟩
  · rw [if_neg c4, if_neg c4, if_neg q1]
    exact ⟨_, _, rfl, rfl, rfl⟩
end CO13
