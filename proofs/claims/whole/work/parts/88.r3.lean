/-! own: today: what the class finds -/
section TD3
variable {T : Nat} {L : Int} {b : Nat → Int}
def cs_ (b : Nat → Int) (h : Int) (n : Nat) : Int := si_ (fun t => max 0 (h - b t)) n
/-- what is left from a place on, if the last drink first -/
def rm_ (T : Nat) (L : Int) (b : Nat → Int) (i : Nat) : Int := max 0 (L - (cs_ b 0 T - cs_ b 0 i))
def fw_ (T : Nat) (L : Int) (b : Nat → Int) (t : Nat) : Int := min (max 0 (0 - b t)) (rm_ T L b (t + 1))
theorem cs_s {h : Int} {n : Nat} : cs_ b h (n + 1) = cs_ b h n + max 0 (h - b n) := by unfold cs_; rw [si_]
theorem cs_0 {h : Int} (n : Nat) : 0 ≤ cs_ b h n := si_0 (fun t _ => by show 0 ≤ max 0 (h - b t); omega)
theorem rm_s {i : Nat} : rm_ T L b i = rm_ T L b (i + 1) - fw_ T L b i := by
  unfold fw_ rm_
  rw [cs_s]
  omega
theorem fw_si : ∀ n, si_ (fw_ T L b) n = rm_ T L b n - rm_ T L b 0
  | 0 => by rw [si_]; omega
  | n + 1 => by rw [si_, fw_si n, rm_s (i := n)]; omega
theorem few_op (hL : 0 ≤ L) (hC : L < cs_ b 0 T) : op_ T L b (fw_ T L b) (cs_ b 0 T - L) 0 := by
  have ec : cs_ b 0 T = si_ (fun t => max 0 (-(b t))) T := si_c T (fun t _ => by show max 0 (0 - b t) = max 0 (-(b t)); omega)
  rw [ec]
  refine op_few (by omega) (fun t ht => ?_) ?_ (fun p hp h t h1 h2 => ?_)
  · have : 0 ≤ rm_ T L b (t + 1) := by unfold rm_; omega
    unfold fw_
    omega
  · have z : cs_ b 0 0 = 0 := rfl
    rw [fw_si]
    unfold rm_
    omega
  · have m1 : cs_ b 0 (p + 1) ≤ cs_ b 0 t := si_m (by omega) (fun t _ => by show 0 ≤ max 0 (0 - b t); omega)
    have m2 := cs_s (b := b) (h := 0) (n := t)
    unfold fw_ rm_ at h
    unfold fw_ rm_
    omega
/-- the greatest height is at most 12 above the least -/
theorem cs_up {j : Int} (hT : 1 ≤ T) (hb : ∀ t, t < T → b t ≤ 900000) (hj : 0 ≤ j) : j ≤ cs_ b (lo_ b (fun _ => 0) T + j) T := by
  have hex : ∃ t, t < T ∧ b t ≤ lo_ b (fun _ => 0) T := by
    apply Classical.byContradiction
    intro hn
    have h1 : ∀ t, t < T → lo_ b (fun _ => 0) T + 1 ≤ max 0 (b t + 0) := fun t ht => by
      have h7 : ¬ (b t ≤ lo_ b (fun _ => 0) T) := fun h => hn ⟨t, ht, h⟩
      omega
    have h0 := h1 0 (by omega)
    have h00 := hb 0 (by omega)
    have h2 := lo_0 (b := b) (x := fun _ => 0) T
    have := lo_ge (b := b) (x := fun _ => 0) (h := lo_ b (fun _ => 0) T + 1) (by omega) T h1
    omega
  obtain ⟨t, ht, h⟩ := hex
  have := si_1 (f := fun t => max 0 (lo_ b (fun _ => 0) T + j - b t)) ht (fun t _ => by show 0 ≤ max 0 (lo_ b (fun _ => 0) T + j - b t); omega)
  have h3 : max 0 (lo_ b (fun _ => 0) T + j - b t) ≤ cs_ b (lo_ b (fun _ => 0) T + j) T := this
  omega
theorem cs_low (h : cs_ b 0 T ≤ L) (hL : 0 ≤ L) : cs_ b (lo_ b (fun _ => 0) T) T ≤ L := by
  by_cases e : lo_ b (fun _ => 0) T = 0
  · rw [e]
    exact h
  · have h0 := lo_0 (b := b) (x := fun _ => 0) T
    have : cs_ b (lo_ b (fun _ => 0) T) T ≤ si_ (fun _ => 0) T := si_le T (fun t ht => by
      have := lo_le (b := b) (x := fun _ => 0) T ht
      show max 0 (lo_ b (fun _ => 0) T - b t) ≤ 0
      omega)
    have h2 : ∀ m, si_ (fun _ => 0) m = 0 := fun m => by
      induction m with
      | zero => rfl
      | succ m ih => rw [si_, ih]; rfl
    rw [h2] at this
    omega
/-- what each gets, if there are enough -/
def en_ (T : Nat) (L : Int) (b : Nat → Int) (H : Int) (t : Nat) : Int := if t + 1 = T then L - cs_ b H t else max 0 (H - b t)
theorem en_si {H : Int} : ∀ n, n < T → si_ (en_ T L b H) n = cs_ b H n
  | 0, _ => rfl
  | n + 1, h => by
    rw [si_, en_si n (by omega), cs_s]
    unfold en_
    rw [if_neg (by omega)]
theorem enough_op {H : Int} (hT : 1 ≤ T) (h0 : 0 ≤ H) (hM : H ≤ 1000000) (h1 : cs_ b H T ≤ L) (h2 : L < cs_ b (H + 1) T) : op_ T L b (en_ T L b H) 0 H := by
  refine op_enough hT h0 hM h1 h2 (fun t ht => ?_) ?_
  · unfold en_
    rw [if_neg (by omega)]
  · unfold en_
    rw [if_pos (by omega)]
    rfl
end TD3
