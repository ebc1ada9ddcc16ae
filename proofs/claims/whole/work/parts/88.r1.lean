/-! own: today: what is best -/
theorem si_le {f g : Nat → Int} : ∀ n : Nat, (∀ t, t < n → f t ≤ g t) → si_ f n ≤ si_ g n
  | 0, _ => by simp [si_]
  | n + 1, h => by
    have h1 := si_le n (fun t ht => h t (by omega))
    have h2 := h n (by omega)
    rw [si_, si_]
    omega
theorem si_lt {f g : Nat → Int} {p : Nat} : ∀ n : Nat, (∀ t, t < n → f t ≤ g t) → p < n → f p < g p → si_ f n < si_ g n
  | 0, _, h, _ => absurd h (by omega)
  | n + 1, h, hp, hf => by
    have h2 := h n (by omega)
    rw [si_, si_]
    by_cases e : p = n
    · subst e
      have h1 := si_le p (fun t ht => h t (by omega))
      omega
    · have h1 := si_lt n (fun t ht => h t (by omega)) (by omega) hf
      omega
theorem si_sub {f g : Nat → Int} : ∀ n : Nat, si_ (fun t => f t - g t) n = si_ f n - si_ g n
  | 0 => by simp [si_]
  | n + 1 => by rw [si_, si_, si_, si_sub n]; omega
theorem si_tail {f g : Nat → Int} {p : Nat} : ∀ n : Nat, p ≤ n → (∀ t, p ≤ t → t < n → f t ≤ g t) → si_ f n - si_ f p ≤ si_ g n - si_ g p
  | 0, hp, _ => by
    have : p = 0 := by omega
    subst this
    omega
  | n + 1, hp, h => by
    by_cases e : p = n + 1
    · subst e
      omega
    · have h1 := si_tail n (by omega) (fun t h1 h2 => h t h1 (by omega))
      have h2 := h n (by omega) (by omega)
      rw [si_, si_]
      omega
theorem si_m {f : Nat → Int} {p n : Nat} (hp : p ≤ n) (h : ∀ t, t < n → 0 ≤ f t) : si_ f p ≤ si_ f n := by
  have h1 := si_tail (f := fun _ => 0) (g := f) n hp (fun t _ h2 => h t h2)
  have h2 : ∀ m, si_ (fun _ => 0) m = 0 := fun m => by
    induction m with
    | zero => rfl
    | succ m ih => rw [si_, ih]; rfl
  rw [h2, h2] at h1
  omega
theorem si_0 {f : Nat → Int} {n : Nat} (h : ∀ t, t < n → 0 ≤ f t) : 0 ≤ si_ f n := si_m (p := 0) (by omega) h
theorem si_1 {f : Nat → Int} {p n : Nat} (hp : p < n) (h : ∀ t, t < n → 0 ≤ f t) : f p ≤ si_ f n := by
  have h1 := si_m (f := f) (p := p + 1) (by omega) h
  have h2 := si_0 (f := f) (n := p) (fun t ht => h t (by omega))
  rw [si_] at h1
  omega
theorem si_z {f : Nat → Int} {p n : Nat} (hp : p < n) (h : ∀ t, t < n → 0 ≤ f t) (h0 : si_ f n = 0) : f p = 0 := by
  have := si_1 hp h
  have := h p hp
  omega
/-- what lacks, what is least -/
def lk_ (b x : Nat → Int) (n : Nat) : Int := si_ (fun t => max 0 (-(b t + x t))) n
def lo_ (b x : Nat → Int) : Nat → Int
  | 0 => 1000000
  | n + 1 => min (lo_ b x n) (max 0 (b n + x n))
theorem lo_0 {b x : Nat → Int} : ∀ n, 0 ≤ lo_ b x n ∧ lo_ b x n ≤ 1000000
  | 0 => by simp [lo_]
  | n + 1 => by
    have := lo_0 (b := b) (x := x) n
    rw [lo_]
    omega
theorem lo_le {b x : Nat → Int} {t : Nat} : ∀ n, t < n → lo_ b x n ≤ max 0 (b t + x t)
  | 0, h => absurd h (by omega)
  | n + 1, h => by
    rw [lo_]
    by_cases e : t = n
    · subst e
      omega
    · have := lo_le (b := b) (x := x) n (by omega : t < n)
      omega
theorem lo_ge {b x : Nat → Int} {h : Int} (hh : h ≤ 1000000) : ∀ n, (∀ t, t < n → h ≤ max 0 (b t + x t)) → h ≤ lo_ b x n
  | 0, _ => by simpa [lo_] using hh
  | n + 1, hx => by
    have h1 := lo_ge hh n (fun t ht => hx t (by omega))
    have h2 := hx n (by omega)
    rw [lo_]
    omega
theorem lo_c {b x y : Nat → Int} : ∀ n, (∀ t, t < n → x t = y t) → lo_ b x n = lo_ b y n
  | 0, _ => rfl
  | n + 1, h => by rw [lo_, lo_, lo_c n (fun t ht => h t (by omega)), h n (by omega)]
theorem lk_c {b x y : Nat → Int} {n : Nat} (h : ∀ t, t < n → x t = y t) : lk_ b x n = lk_ b y n := si_c n (fun t ht => by rw [h t ht])
theorem lk_0 {b x : Nat → Int} (n : Nat) : 0 ≤ lk_ b x n := si_0 (fun t _ => by omega)
theorem lk_lo {b x : Nat → Int} : ∀ n, 0 < lk_ b x n → lo_ b x n = 0
  | 0, h => absurd h (by simp [lk_, si_])
  | n + 1, h => by
    have h0 := lo_0 (b := b) (x := x) n
    have h1 := lk_lo (b := b) (x := x) n
    have h2 := lk_0 (b := b) (x := x) n
    have h3 : lk_ b x (n + 1) = lk_ b x n + max 0 (-(b n + x n)) := by unfold lk_; rw [si_]
    rw [lo_]
    by_cases e : 0 < lk_ b x n
    · rw [h1 e]
      omega
    · omega
/-- a way to give all drops -/
def cp_ (T : Nat) (L : Int) (x : Nat → Int) : Prop := (∀ t, t < T → 0 ≤ x t) ∧ si_ x T = L
/-- the one before the other -/
def lx_ (T : Nat) (x y : Nat → Int) : Prop := ∃ p, p < T ∧ (∀ t, t < p → x t = y t) ∧ x p < y p
/-- the way that is found -/
def op_ (T : Nat) (L : Int) (b xs : Nat → Int) (l o : Int) : Prop := cp_ T L xs ∧ lk_ b xs T = l ∧ lo_ b xs T = o ∧ (∀ y, cp_ T L y → ¬ (lk_ b y T < l ∨ lk_ b y T = l ∧ o < lo_ b y T)) ∧ ∀ y, cp_ T L y → lx_ T y xs → l < lk_ b y T ∨ lk_ b y T = l ∧ lo_ b y T < o
section TD
variable {T : Nat} {L : Int} {b xs : Nat → Int}
/-- too few drops -/
theorem op_few (hC : L < si_ (fun t => max 0 (-(b t))) T) (hx : ∀ t, t < T → 0 ≤ xs t ∧ xs t ≤ max 0 (-(b t))) (hs : si_ xs T = L) (hp : ∀ p, p < T → 0 < xs p → ∀ t, p < t → t < T → xs t = max 0 (-(b t))) : op_ T L b xs (si_ (fun t => max 0 (-(b t))) T - L) 0 := by
  have e1 : lk_ b xs T = si_ (fun t => max 0 (-(b t))) T - L := by
    rw [← hs, ← si_sub]
    exact si_c T (fun t ht => by have := hx t ht; show max 0 (-(b t + xs t)) = max 0 (-(b t)) - xs t; omega)
  have low : ∀ y, cp_ T L y → si_ (fun t => max 0 (-(b t))) T - L ≤ lk_ b y T := by
    intro y hy
    rw [← hy.2, ← si_sub]
    exact si_le T (fun t ht => by have := hy.1 t ht; show max 0 (-(b t)) - y t ≤ max 0 (-(b t + y t)); omega)
  refine ⟨⟨fun t ht => (hx t ht).1, hs⟩, e1, lk_lo T (by omega), fun y hy => ?_, fun y hy ⟨p, h1, h2, h3⟩ => ?_⟩
  · have h1 := low y hy
    rintro (h | ⟨h, h'⟩)
    · omega
    · have := lk_lo (b := b) (x := y) T (by omega)
      omega
  · have h4 := low y hy
    by_cases e : lk_ b y T = si_ (fun t => max 0 (-(b t))) T - L
    · exfalso
      have h5 : ∀ t, t < T → y t ≤ max 0 (-(b t)) := by
        intro t ht
        apply Classical.byContradiction
        intro hn
        have := si_lt (f := fun t => max 0 (-(b t)) - y t) (g := fun t => max 0 (-(b t + y t))) T (fun t ht => by have := hy.1 t ht; show max 0 (-(b t)) - y t ≤ max 0 (-(b t + y t)); omega) ht (by show max 0 (-(b t)) - y t < max 0 (-(b t + y t)); omega)
        rw [si_sub, hy.2] at this
        unfold lk_ at e
        omega
      have h6 := hp p h1 (by have := hy.1 p h1; omega)
      have h7 := si_tail (f := y) (g := xs) (p := p + 1) T (by omega) (fun t k1 k2 => by rw [h6 t (by omega) k2]; exact h5 t k2)
      have h8 := si_c p h2
      rw [hy.2, hs, si_, si_] at h7
      omega
    · left
      omega
/-- enough drops -/
theorem op_enough {H : Int} (hT : 1 ≤ T) (h0 : 0 ≤ H) (hM : H ≤ 1000000) (h1 : si_ (fun t => max 0 (H - b t)) T ≤ L) (h2 : L < si_ (fun t => max 0 (H + 1 - b t)) T) (hx : ∀ t, t + 1 < T → xs t = max 0 (H - b t)) (hl : xs (T - 1) = L - si_ (fun t => max 0 (H - b t)) (T - 1)) : op_ T L b xs 0 H := by
  obtain ⟨N, rfl⟩ : ∃ n, T = n + 1 := ⟨T - 1, by omega⟩
  rw [Nat.add_sub_cancel] at hl
  rw [si_] at h1
  have e1 : si_ xs N = si_ (fun t => max 0 (H - b t)) N := si_c N (fun t ht => hx t (by omega))
  have hs : si_ xs (N + 1) = L := by
    rw [si_, e1, hl]
    omega
  have hg : ∀ t, t < N + 1 → max 0 (H - b t) ≤ xs t := by
    intro t ht
    by_cases e : t = N
    · subst e
      rw [hl]
      omega
    · rw [hx t (by omega)]
      exact Int.le_refl _
  have key : ∀ y, cp_ (N + 1) L y → ¬ (H < lo_ b y (N + 1)) := by
    intro y hy h
    have := si_le (f := fun t => max 0 (H + 1 - b t)) (g := y) (N + 1) (fun t ht => by
      have k1 := lo_le (b := b) (x := y) (N + 1) ht
      have k2 := hy.1 t ht
      show max 0 (H + 1 - b t) ≤ y t
      omega)
    rw [hy.2] at this
    omega
  have hc : cp_ (N + 1) L xs := ⟨fun t ht => by have := hg t ht; omega, hs⟩
  have z1 : lk_ b xs (N + 1) = 0 := by
    have : ∀ n, n ≤ N + 1 → lk_ b xs n = 0 := by
      intro n
      induction n with
      | zero => intro _; rfl
      | succ n ih =>
        intro hn
        have h3 : lk_ b xs (n + 1) = lk_ b xs n + max 0 (-(b n + xs n)) := by unfold lk_; rw [si_]
        have := hg n (by omega)
        rw [h3, ih (by omega)]
        omega
    exact this _ (Nat.le_refl _)
  have z2 : lo_ b xs (N + 1) = H := by
    have k1 := key xs hc
    have k2 := lo_ge (b := b) (x := xs) hM (N + 1) (fun t ht => by have := hg t ht; omega)
    omega
  refine ⟨hc, z1, z2, fun y hy => ?_, fun y hy ⟨p, g1, g2, g3⟩ => ?_⟩
  · have := lk_0 (b := b) (x := y) (N + 1)
    rintro (h | ⟨-, h⟩)
    · omega
    · exact key y hy h
  · have := lk_0 (b := b) (x := y) (N + 1)
    by_cases e : lk_ b y (N + 1) = 0
    · right
      refine ⟨e, ?_⟩
      have k1 := lo_le (b := b) (x := y) (N + 1) g1
      have k2 := si_z g1 (fun t _ => by show 0 ≤ max 0 (-(b t + y t)); omega) e
      have k2' : max 0 (-(b p + y p)) = 0 := k2
      have k3 := hy.1 p g1
      by_cases ep : p = N
      · subst ep
        have k4 := si_c p g2
        have k5 := hy.2
        rw [si_] at k5
        rw [si_] at hs
        omega
      · have k4 := hx p (by omega)
        omega
    · left
      omega
end TD
