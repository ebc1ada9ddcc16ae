/-! own: today: the ways one by one -/
/-- how many come after -/
def bq_ (f : Nat → Nat) : Nat → Nat
  | 0 => 0
  | s + 1 => bq_ f s + f (s + 1)
def bc_ : Nat → Nat → Nat
  | 0 => fun _ => 1
  | n + 1 => bq_ (bc_ n)
theorem bc_00 (s : Nat) : bc_ 0 s = 1 := rfl
theorem bc_n0 (n : Nat) : bc_ (n + 1) 0 = 0 := rfl
theorem bc_ns (n s : Nat) : bc_ (n + 1) (s + 1) = bc_ (n + 1) s + bc_ n (s + 1) := rfl
def bs_ (s : Nat) : Nat → Nat
  | 0 => 0
  | n + 1 => bs_ s n + bc_ (n + 1) s
theorem bc_s (s : Nat) : ∀ n, bc_ n (s + 1) = bs_ s n + 1
  | 0 => by rw [bc_00, bs_]
  | n + 1 => by rw [bc_ns, bc_s s n, bs_]; omega
def rk_ (T : Nat) (L : Int) (x : Nat → Int) : Nat → Nat
  | 0 => 0
  | i + 1 => rk_ T L x i + bc_ (T - 1 - i) (L - si_ x (i + 1)).toNat
theorem bs_max : ∀ T, T ≤ 5 → ∀ L, L ≤ 12 → bs_ L T ≤ 7000 := by decide +kernel
theorem lx_trans {T : Nat} {x y z : Nat → Int} (h1 : lx_ T x y) (h2 : lx_ T y z) : lx_ T x z := by
  obtain ⟨p, a1, a2, a3⟩ := h1
  obtain ⟨q, b1, b2, b3⟩ := h2
  by_cases e : p < q
  · exact ⟨p, a1, fun t ht => by rw [a2 t ht, b2 t (by omega)], by have := b2 p e; omega⟩
  · by_cases e2 : p = q
    · subst e2
      exact ⟨p, a1, fun t ht => by rw [a2 t ht, b2 t ht], by omega⟩
    · exact ⟨q, b1, fun t ht => by rw [a2 t (by omega), b2 t ht], by have := a2 q (by omega); omega⟩
theorem lx_c {T : Nat} {x x' y : Nat → Int} (h : ∀ t, t < T → x t = x' t) (h1 : lx_ T x y) : lx_ T x' y := by
  obtain ⟨p, a1, a2, a3⟩ := h1
  exact ⟨p, a1, fun t ht => by rw [← h t (by omega), a2 t ht], by rw [← h p a1]; exact a3⟩
theorem lx_r {T : Nat} {x y : Nat → Int} (h : lx_ T x y) (e : ∀ t, t < T → x t = y t) : False := by
  obtain ⟨p, a1, a2, a3⟩ := h
  have := e p a1
  omega
/-- the first way from a place on is the least -/
theorem lx_least {T p : Nat} {s : Int} {x y : Nat → Int} (hp : p < T) (hx : ∀ t, p ≤ t → t + 1 < T → x t = 0) (hl : x (T - 1) = s) (hy : ∀ t, t < T → 0 ≤ y t) (hs : si_ y T - si_ y p = s) (he : ∀ t, t < p → x t = y t) : (∀ t, t < T → x t = y t) ∨ lx_ T x y := by
  by_cases h : ∀ t, p ≤ t → t + 1 < T → y t = 0
  · left
    intro t ht
    by_cases e1 : t < p
    · exact he t e1
    · by_cases e2 : t + 1 < T
      · rw [hx t (by omega) e2, h t (by omega) e2]
      · have e3 : t = T - 1 := by omega
        subst e3
        rw [hl, ← hs]
        have k1 : si_ y (T - 1) - si_ y p = si_ (fun _ => 0) (T - 1) - si_ (fun _ => 0) p := by
          have a := si_tail (f := y) (g := fun _ => 0) (p := p) (T - 1) (by omega) (fun t h1 h2 => by rw [h t h1 (by omega)]; exact Int.le_refl _)
          have b := si_tail (f := fun _ => 0) (g := y) (p := p) (T - 1) (by omega) (fun t h1 h2 => by rw [h t h1 (by omega)]; exact Int.le_refl _)
          omega
        have h2 : ∀ m, si_ (fun _ => 0) m = 0 := fun m => by
          induction m with
          | zero => rfl
          | succ m ih => rw [si_, ih]; rfl
        rw [h2, h2] at k1
        obtain ⟨N, rfl⟩ : ∃ n, T = n + 1 := ⟨T - 1, by omega⟩
        rw [Nat.add_sub_cancel] at *
        rw [si_]
        omega
  · right
    have hex : ∃ q, (p ≤ q ∧ q + 1 < T) ∧ y q ≠ 0 := by
      apply Classical.byContradiction
      intro hn
      exact h (fun t h1 h2 => Classical.byContradiction (fun h3 => hn ⟨t, ⟨h1, h2⟩, h3⟩))
    have hmin : ∃ q, ((p ≤ q ∧ q + 1 < T) ∧ y q ≠ 0) ∧ ∀ r, r < q → ¬ ((p ≤ r ∧ r + 1 < T) ∧ y r ≠ 0) := by
      obtain ⟨q, hq⟩ := hex
      induction q using Nat.strongRecOn with
      | _ q ih =>
        by_cases hr : ∃ r, r < q ∧ ((p ≤ r ∧ r + 1 < T) ∧ y r ≠ 0)
        · obtain ⟨r, r1, r2⟩ := hr
          exact ih r r1 r2
        · exact ⟨q, hq, fun r h1 h2 => hr ⟨r, h1, h2⟩⟩
    obtain ⟨q, ⟨⟨q1, q2⟩, q3⟩, q4⟩ := hmin
    refine ⟨q, by omega, fun t ht => ?_, ?_⟩
    · by_cases e1 : t < p
      · exact he t e1
      · rw [hx t (by omega) (by omega)]
        have := q4 t ht
        by_cases e2 : y t = 0
        · exact e2.symm
        · exact absurd ⟨⟨by omega, by omega⟩, e2⟩ this
    · rw [hx q q1 q2]
      have := hy q (by omega)
      omega
section TD2
variable {T p : Nat} {L : Int} {x x' : Nat → Int}
theorem lx_end (hT : 1 ≤ T) (hc : cp_ T L x) (hz : ∀ q, 0 < q → q < T → si_ x q = L) : ∀ y, cp_ T L y → ¬ lx_ T x y := by
  rintro y ⟨y1, y2⟩ ⟨p, a1, a2, a3⟩
  have e1 := si_c p a2
  have e2 := si_m (f := y) (p := p + 1) (n := T) (by omega) y1
  rw [si_, y2] at e2
  obtain ⟨x1, x2⟩ := hc
  by_cases e : p + 1 < T
  · have := hz (p + 1) (by omega) e
    rw [si_] at this
    omega
  · have e3 : T = p + 1 := by omega
    subst e3
    rw [si_] at x2
    omega
/-- the next way -/
theorem lx_next (hp : p + 1 < T) (hc : cp_ T L x) (hy : 0 < L - si_ x (p + 1)) (hz : ∀ q, p + 1 < q → q < T → si_ x q = L) (e1 : ∀ t, t < p → x' t = x t) (e2 : x' p = x p + 1) (e3 : ∀ t, p < t → t + 1 < T → x' t = 0) (e4 : x' (T - 1) = L - si_ x (p + 1) - 1) : cp_ T L x' ∧ lx_ T x x' ∧ rk_ T L x' (T - 1) < rk_ T L x (T - 1) ∧ ∀ y, cp_ T L y → lx_ T x y → (∀ t, t < T → x' t = y t) ∨ lx_ T x' y := by
  obtain ⟨x1, x2⟩ := hc
  have s0 : ∀ q, q ≤ p → si_ x' q = si_ x q := fun q hq => si_c q (fun t ht => e1 t (by omega))
  have s1 : ∀ q, p + 1 ≤ q → q < T → si_ x' q = si_ x (p + 1) + 1 := by
    intro q
    induction q with
    | zero => intro h; exact absurd h (by omega)
    | succ q ih =>
      intro h1 h2
      rw [si_]
      by_cases e : q = p
      · subst e
        rw [s0 q (by omega), e2, si_]
        omega
      · rw [ih (by omega) (by omega), e3 q (by omega) (by omega)]
        omega
  have sT : si_ x' T = L := by
    obtain ⟨N, rfl⟩ : ∃ n, T = n + 1 := ⟨T - 1, by omega⟩
    rw [Nat.add_sub_cancel] at e4
    rw [si_, s1 N (by omega) (by omega), e4]
    omega
  have hpos : ∀ t, t < T → 0 ≤ x' t := by
    intro t ht
    by_cases a : t < p
    · rw [e1 t a]
      exact x1 t ht
    · by_cases b : t = p
      · subst b
        have := x1 t ht
        omega
      · by_cases c : t + 1 < T
        · rw [e3 t (by omega) c]
          omega
        · have : t = T - 1 := by omega
          subst this
          omega
  refine ⟨⟨hpos, sT⟩, ⟨p, by omega, fun t ht => (e1 t ht).symm, by omega⟩, ?_, ?_⟩
  · obtain ⟨s, hs⟩ : ∃ s : Nat, L - si_ x (p + 1) = (s : Int) + 1 := ⟨(L - si_ x (p + 1) - 1).toNat, by omega⟩
    have r0 : ∀ q, q ≤ p → rk_ T L x' q = rk_ T L x q := by
      intro q
      induction q with
      | zero => intro _; rfl
      | succ q ih =>
        intro h
        rw [rk_, rk_, ih (by omega), s0 (q + 1) h]
    have r1 : ∀ q, p + 1 ≤ q → q < T → rk_ T L x' q + bs_ s (T - 1 - q) = rk_ T L x p + bs_ s (T - 1 - p) := by
      intro q
      induction q with
      | zero => intro h; exact absurd h (by omega)
      | succ q ih =>
        intro h1 h2
        have w : (L - (si_ x (p + 1) + 1)).toNat = s := by omega
        have k : bs_ s (T - 1 - q) = bs_ s (T - 1 - (q + 1)) + bc_ (T - 1 - q) s := by
          have z : T - 1 - q = (T - 1 - (q + 1)) + 1 := by omega
          rw [z, bs_]
        rw [rk_, s1 (q + 1) (by omega) h2, w]
        by_cases e : q = p
        · subst e
          rw [r0 q (by omega)]
          omega
        · have := ih (by omega) (by omega)
          omega
    have r2 : ∀ q, p + 1 ≤ q → q < T → rk_ T L x q = rk_ T L x p + bc_ (T - 1 - p) (s + 1) := by
      intro q
      induction q with
      | zero => intro h; exact absurd h (by omega)
      | succ q ih =>
        intro h1 h2
        rw [rk_]
        by_cases e : q = p
        · subst e
          rw [show (L - si_ x (q + 1)).toNat = s + 1 by omega]
        · rw [ih (by omega) (by omega), hz (q + 1) (by omega) h2]
          have z : T - 1 - q = (T - 1 - (q + 1)) + 1 := by omega
          rw [z, show (L - L).toNat = 0 by omega, bc_n0]
          rfl
    have a := r1 (T - 1) (by omega) (by omega)
    have b := r2 (T - 1) (by omega) (by omega)
    rw [bc_s] at b
    rw [Nat.sub_self, bs_] at a
    omega
  · rintro y ⟨y1, y2⟩ ⟨q, a1, a2, a3⟩
    have c1 := si_c q a2
    have c2 := si_m (f := y) (p := q + 1) (n := T) (by omega) y1
    rw [si_, y2] at c2
    by_cases k1 : q < p
    · exact Or.inr ⟨q, a1, fun t ht => by rw [e1 t (by omega), a2 t ht], by rw [e1 q k1]; exact a3⟩
    · by_cases k2 : q = p
      · subst k2
        by_cases k3 : y q = x q + 1
        · refine lx_least (p := q + 1) (s := L - si_ x (q + 1) - 1) hp (fun t h1 h2 => e3 t (by omega) h2) e4 y1 ?_ ?_
          · rw [y2, si_, si_, c1]
            omega
          · intro t ht
            by_cases k4 : t = q
            · subst k4
              omega
            · rw [e1 t (by omega), a2 t (by omega)]
        · exact Or.inr ⟨q, a1, fun t ht => by rw [e1 t (by omega), a2 t ht], by omega⟩
      · exfalso
        by_cases k3 : q + 1 < T
        · have := hz (q + 1) (by omega) k3
          rw [si_] at this
          omega
        · have e5 : T = q + 1 := by omega
          subst e5
          rw [si_] at x2
          omega
end TD2
