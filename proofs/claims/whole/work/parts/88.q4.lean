/-! own: what the class's foresight takes from hill and now -/
section CO11
variable {T D dy : Nat} {cn cd cr w : Nat → Int32} {left te : Int32}
theorem e_from67 (hD : D ≤ 20) (hdy : dy ≤ 99) : ∀ (n i : Nat) (fw fg fd : Nat → Int32), 1 ≤ i → i ≤ 40 → 40 - i < n → ∃ fd2 : Nat → Int32, F_X1_from_67 cn cd cr (nI T) (nI D) w (nI dy) left n fw fg fd te (nI i) = some (fw, fg, fd2, te) ∧ (∀ j, i ≤ j → j < 40 → fd2 j = if dy + j < D then cr (dy + j) else 0) ∧ ∀ j, j < i → fd2 j = fd j := by
  intro n
  induction n with
  | zero => intro i _ _ _ _ _ h; exact absurd h (by omega)
  | succ n ih =>
    intro i fw fg fd h1 hi hn
    rw [F_X1_from_67]
    by_cases h : 40 ≤ i
    · rw [if_pos ((le_of tl_40 (ti_nI (by omega))).mpr (by omega))]
      exact ⟨fd, rfl, fun j _ _ => absurd h (by omega), fun _ _ => rfl⟩
    · rw [if_neg (fun z => absurd ((le_of tl_40 (ti_nI (by omega))).mp z) (by omega)), nI_add, e_drops hD (by omega)]
      simp only [Option.bind_some, i_10, if_true, if_false]
      rw [if_pos (ok_T (by omega) (by omega)), nI_clamp (n := i) (by omega), show nI i + (1 : Int32) = nI (i + 1) from nI_1 i]
      obtain ⟨fd2, e1, e2, e3⟩ := ih (i + 1) fw fg (upd fd i (if dy + i < D then cr (dy + i) else 0)) (by omega) (by omega) (by omega)
      refine ⟨fd2, e1, fun j hj h4 => ?_, fun j hj => ?_⟩
      · by_cases e : j = i
        · subst e
          rw [e3 j (by omega), pk_us]
        · exact e2 j (by omega) h4
      · rw [e3 j (by omega), pk_un (by omega)]
theorem e_from10 (hT : T ≤ 6) (hD : D ≤ 20) (hdy : dy ≤ 99) : ∀ (n i : Nat) (fw fg fd : Nat → Int32), i ≤ T → T - i < n → ∃ fw2 fg2 fd2 : Nat → Int32, F_X1_from_10 cn cd cr (nI T) (nI D) w (nI dy) left n fw fg fd (nI T) (nI i) = some (fw2, fg2, fd2, nI T) ∧ (∀ t, i ≤ t → t < T → fw2 t = w t ∧ fg2 t = cd t - cn t) ∧ (∀ t, t < i → fw2 t = fw t ∧ fg2 t = fg t) ∧ fd2 0 = left ∧ ∀ j, 1 ≤ j → j < 40 → fd2 j = if dy + j < D then cr (dy + j) else 0 := by
  intro n
  induction n with
  | zero => intro i _ _ _ _ h; exact absurd h (by omega)
  | succ n ih =>
    intro i fw fg fd hi hn
    rw [F_X1_from_10]
    by_cases h : T ≤ i
    · rw [if_pos ((nI_leI (by omega) (by omega)).mpr h), if_pos (show ok_I (0 : Int32) 40 = true by decide)]
      obtain ⟨fd2, e1, e2, e3⟩ := e_from67 (T := T) (cn := cn) (cd := cd) (cr := cr) (w := w) (left := left) (te := nI T) hD hdy FU_ 1 fw fg (upd fd 0 left) (by omega) (by omega) (by unfold FU_; omega)
      exact ⟨fw, fg, fd2, e1, fun t _ _ => absurd h (by omega), fun _ _ => ⟨rfl, rfl⟩, by rw [e3 0 (by omega), pk_us], e2⟩
    · rw [if_neg (fun z => h ((nI_leI (by omega) (by omega)).mp z)), if_pos (ok_T (by omega) (by omega)), nI_clamp (n := i) (by omega), show nI i + (1 : Int32) = nI (i + 1) from nI_1 i]
      obtain ⟨fw2, fg2, fd2, e1, e2, e3, e4⟩ := ih (i + 1) (upd fw i (w i)) (upd fg i (cd i - cn i)) fd (by omega) (by omega)
      refine ⟨fw2, fg2, fd2, e1, fun t ht h4 => ?_, fun t ht => ?_, e4⟩
      · by_cases e : t = i
        · subst e
          obtain ⟨c1, c2⟩ := e3 t (by omega)
          rw [c1, c2, pk_us, pk_us]
          exact ⟨rfl, rfl⟩
        · exact e2 t (by omega) h4
      · obtain ⟨c1, c2⟩ := e3 t (by omega)
        rw [c1, c2, pk_un (by omega), pk_un (by omega)]
        exact ⟨rfl, rfl⟩
/-- the foresight's rows: waters, gains, today's and the coming days' drops -/
theorem e_from (hT : T ≤ 6) (hD : D ≤ 20) (hdy : dy ≤ 99) (fw fg fd : Nat → Int32) (ft : Int32) : ∃ fw2 fg2 fd2 : Nat → Int32, F_X1_from cn cd cr (nI T) (nI D) w (nI dy) left fw fg fd ft = some (fw2, fg2, fd2, nI T) ∧ (∀ t, t < T → fw2 t = w t ∧ fg2 t = cd t - cn t) ∧ fd2 0 = left ∧ ∀ j, 1 ≤ j → j < 40 → fd2 j = if dy + j < D then cr (dy + j) else 0 := by
  obtain ⟨a, b, c, e1, e2, -, e4, e5⟩ := e_from10 (T := T) (D := D) (dy := dy) (cn := cn) (cd := cd) (cr := cr) (w := w) (left := left) hT hD hdy FU_ 0 fw fg fd (by omega) (by unfold FU_; omega)
  exact ⟨a, b, c, e1, fun t ht => e2 t (by omega) ht, e4, e5⟩
end CO11
