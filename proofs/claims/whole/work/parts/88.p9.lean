/-! own: keep, back -/
theorem IN_.congr {k T : Nat} {w lk st ss w' lk' st' ss' w2 l2 s2 z2 w2' l2' s2' z2' : Nat → Int32} {day left turn lot seen day' left' turn' lot' seen' : Int32} (h : IN_ k T w lk st ss day left turn lot seen w' lk' st' ss' day' left' turn' lot' seen') (hT : T ≤ 6) (h1 : ∀ j, j < 6 → w2 j = w j ∧ l2 j = lk j ∧ w2' j = w' j ∧ l2' j = lk' j) (h2 : ∀ j, j < 8 → s2 j = st j ∧ z2 j = ss j ∧ s2' j = st' j ∧ z2' j = ss' j) : IN_ k T w2 l2 s2 z2 day left turn lot seen w2' l2' s2' z2' day' left' turn' lot' seen' := by
  obtain ⟨a1, a2, a3, a4, ⟨S, hS, e1, e2, hs⟩, a6⟩ := h
  refine ⟨a1, a2, a3, a4, ⟨S, hS, e1, e2, fun j hj => ?_⟩, fun t ht => ?_⟩
  · obtain ⟨c1, c2, c3, c4⟩ := h2 j (by omega)
    rw [c1, c2, c3, c4]
    exact hs j hj
  · obtain ⟨c1, c2, c3, c4⟩ := h1 t (by omega)
    rw [c1, c2, c3, c4]
    exact a6 t ht
section CO7
variable {w lk st ss : Nat → Int32} {day left turn lot seen : Int32} {o : Nat}
theorem e_keep2 (ho : o ≤ 40) : ∀ (n i : Nat) (im : Nat → Int32), i ≤ 8 → 8 - i < n → ∃ im2 : Nat → Int32, F_X12_keep_134 day left w lk turn lot seen st ss n im (nI o) (nI i) = some (day, im2) ∧ (∀ j, i ≤ j → j < 8 → im2 (o + 18 + j) = st j ∧ im2 (o + 26 + j) = ss j) ∧ ∀ q, (q < o + 18 + i ∨ (o + 26 ≤ q ∧ q < o + 26 + i) ∨ o + 34 ≤ q) → im2 q = im q := by
  intro n
  induction n with
  | zero => intro i im _ h; exact absurd h (by omega)
  | succ n ih =>
    intro i im hi hn
    rw [F_X12_keep_134]
    by_cases h : 8 ≤ i
    · rw [if_pos ((le_of tl_8 (ti_nI (by omega))).mpr (by omega))]
      exact ⟨im, rfl, fun j _ _ => absurd h (by omega), fun _ _ => rfl⟩
    · rw [if_neg (fun z => absurd ((le_of tl_8 (ti_nI (by omega))).mp z) (by omega)), show nI o + (18 : Int32) + nI i = nI (o + 18 + i) from by rw [show nI o + (18 : Int32) = nI (o + 18) from nI_add o 18, nI_add], show nI o + (26 : Int32) + nI i = nI (o + 26 + i) from by rw [show nI o + (26 : Int32) = nI (o + 26) from nI_add o 26, nI_add], if_pos (ok_T (by omega) (by omega)), if_pos (ok_T (by omega) (by omega)), if_pos (ok_T (by omega) (by omega)), nI_clamp (n := i) (by omega), nI_clamp (n := o + 18 + i) (by omega), nI_clamp (n := o + 26 + i) (by omega), show nI i + (1 : Int32) = nI (i + 1) from nI_1 i]
      obtain ⟨im2, e1, e2, e3⟩ := ih (i + 1) (upd (upd im (o + 18 + i) (st i)) (o + 26 + i) (ss i)) (by omega) (by omega)
      refine ⟨im2, e1, fun j hj h8 => ?_, fun q hq => ?_⟩
      · by_cases e : j = i
        · subst e
          rw [e3 (o + 18 + j) (Or.inl (by omega)), e3 (o + 26 + j) (Or.inr (Or.inl (by omega))), pk_us, pk_un (by omega), pk_us]
          exact ⟨rfl, rfl⟩
        · exact e2 j (by omega) h8
      · rw [e3 q (by omega), pk_un (by omega), pk_un (by omega)]
theorem e_keep1 (ho : o ≤ 40) : ∀ (n i : Nat) (im : Nat → Int32), i ≤ 6 → 6 - i < n → ∃ im2 : Nat → Int32, F_X12_keep_86 day left w lk turn lot seen st ss n im (nI o) (nI i) = some (day, im2) ∧ (∀ j, i ≤ j → j < 6 → im2 (o + 6 + j) = w j ∧ im2 (o + 12 + j) = lk j) ∧ (∀ j, j < 8 → im2 (o + 18 + j) = st j ∧ im2 (o + 26 + j) = ss j) ∧ ∀ q, (q < o + 6 + i ∨ (o + 12 ≤ q ∧ q < o + 12 + i) ∨ o + 34 ≤ q) → im2 q = im q := by
  intro n
  induction n with
  | zero => intro i im _ h; exact absurd h (by omega)
  | succ n ih =>
    intro i im hi hn
    rw [F_X12_keep_86]
    by_cases h : 6 ≤ i
    · rw [if_pos ((le_of tl_6 (ti_nI (by omega))).mpr (by omega))]
      obtain ⟨im2, e1, e2, e3⟩ := e_keep2 (day := day) (left := left) (w := w) (lk := lk) (turn := turn) (lot := lot) (seen := seen) (st := st) (ss := ss) ho FU_ 0 im (by omega) (by unfold FU_; omega)
      exact ⟨im2, e1, fun j _ _ => absurd h (by omega), fun j hj => e2 j (by omega) hj, fun q hq => e3 q (by omega)⟩
    · rw [if_neg (fun z => absurd ((le_of tl_6 (ti_nI (by omega))).mp z) (by omega)), show nI o + (6 : Int32) + nI i = nI (o + 6 + i) from by rw [show nI o + (6 : Int32) = nI (o + 6) from nI_add o 6, nI_add], show nI o + (12 : Int32) + nI i = nI (o + 12 + i) from by rw [show nI o + (12 : Int32) = nI (o + 12) from nI_add o 12, nI_add], if_pos (ok_T (by omega) (by omega)), if_pos (ok_T (by omega) (by omega)), if_pos (ok_T (by omega) (by omega)), nI_clamp (n := i) (by omega), nI_clamp (n := o + 6 + i) (by omega), nI_clamp (n := o + 12 + i) (by omega), show nI i + (1 : Int32) = nI (i + 1) from nI_1 i]
      obtain ⟨im2, e1, e2, e4, e3⟩ := ih (i + 1) (upd (upd im (o + 6 + i) (w i)) (o + 12 + i) (lk i)) (by omega) (by omega)
      refine ⟨im2, e1, fun j hj h8 => ?_, e4, fun q hq => ?_⟩
      · by_cases e : j = i
        · subst e
          rw [e3 (o + 6 + j) (Or.inl (by omega)), e3 (o + 12 + j) (Or.inr (Or.inl (by omega))), pk_us, pk_un (by omega), pk_us]
          exact ⟨rfl, rfl⟩
        · exact e2 j (by omega) h8
      · rw [e3 q (by omega), pk_un (by omega), pk_un (by omega)]
/-- what the reference's image holds once kept -/
theorem e_keep (ho : o = 0 ∨ o = 40) {im : Nat → Int32} {x1 : Int32} (hx : (40 : Int32) * x1 = nI o) (hin : 0 ≤ x1.toInt ∧ x1.toInt ≤ 1) : ∃ im2 : Nat → Int32, F_X12_keep day left w lk turn lot seen st ss im x1 = some (day, im2) ∧ (im2 o = 1 ∧ im2 (o + 1) = day ∧ im2 (o + 2) = left ∧ im2 (o + 3) = turn ∧ im2 (o + 4) = lot ∧ im2 (o + 5) = seen) ∧ (∀ j, j < 6 → im2 (o + 6 + j) = w j ∧ im2 (o + 12 + j) = lk j) ∧ (∀ j, j < 8 → im2 (o + 18 + j) = st j ∧ im2 (o + 26 + j) = ss j) ∧ ∀ q, (q < o ∨ o + 34 ≤ q) → im2 q = im q := by
  have l0 : (0 : Int64).toInt = 0 := rfl
  have l1 : (1 : Int64).toInt = 1 := rfl
  have a1 : nI o + (1 : Int32) = nI (o + 1) := nI_add o 1
  have a2 : nI o + (2 : Int32) = nI (o + 2) := nI_add o 2
  have a3 : nI o + (3 : Int32) = nI (o + 3) := nI_add o 3
  have a4 : nI o + (4 : Int32) = nI (o + 4) := nI_add o 4
  have a5 : nI o + (5 : Int32) = nI (o + 5) := nI_add o 5
  obtain ⟨im2, e1, e2, e3, e4⟩ := e_keep1 (day := day) (left := left) (w := w) (lk := lk) (turn := turn) (lot := lot) (seen := seen) (st := st) (ss := ss) (o := o) (by omega) FU_ 0 (upd (upd (upd (upd (upd (upd im o 1) (o + 1) day) (o + 2) left) (o + 3) turn) (o + 4) lot) (o + 5) seen) (by omega) (by unfold FU_; omega)
  refine ⟨im2, ?_, ?_, fun j hj => e2 j (by omega) hj, e3, fun q hq => ?_⟩
  · unfold F_X12_keep
    rw [e_in, l0, l1, if_pos hin]
    simp only [Option.bind_some, i_10, if_true, if_false]
    rw [hx, a1, a2, a3, a4, a5, if_pos (ok_T (by omega) (by omega)), if_pos (ok_T (by omega) (by omega)), if_pos (ok_T (by omega) (by omega)), if_pos (ok_T (by omega) (by omega)), if_pos (ok_T (by omega) (by omega)), if_pos (ok_T (by omega) (by omega)), nI_clamp (n := o) (by omega), nI_clamp (n := o + 1) (by omega), nI_clamp (n := o + 2) (by omega), nI_clamp (n := o + 3) (by omega), nI_clamp (n := o + 4) (by omega), nI_clamp (n := o + 5) (by omega)]
    exact e1
  · rw [e4 o (by omega), e4 (o + 1) (by omega), e4 (o + 2) (by omega), e4 (o + 3) (by omega), e4 (o + 4) (by omega), e4 (o + 5) (by omega)]
    simp only [upd]
    refine ⟨?_, ?_, ?_, ?_, ?_, ?_⟩ <;> simp
  · rw [e4 q (by omega), pk_un (by omega), pk_un (by omega), pk_un (by omega), pk_un (by omega), pk_un (by omega), pk_un (by omega)]
theorem e_back2 {im : Nat → Int32} (ho : o ≤ 40) : ∀ (n i : Nat) (s z : Nat → Int32), i ≤ 8 → 8 - i < n → ∃ s2 z2 : Nat → Int32, F_X12_back_139 im n day left w lk turn lot seen s z (nI o) (nI i) = some (day, day, left, w, lk, turn, lot, seen, s2, z2) ∧ (∀ j, i ≤ j → j < 8 → s2 j = im (o + 18 + j) ∧ z2 j = im (o + 26 + j)) ∧ ∀ j, j < i → s2 j = s j ∧ z2 j = z j := by
  intro n
  induction n with
  | zero => intro i s z _ h; exact absurd h (by omega)
  | succ n ih =>
    intro i s z hi hn
    rw [F_X12_back_139]
    by_cases h : 8 ≤ i
    · rw [if_pos ((le_of tl_8 (ti_nI (by omega))).mpr (by omega))]
      exact ⟨s, z, rfl, fun j _ _ => absurd h (by omega), fun _ _ => ⟨rfl, rfl⟩⟩
    · rw [if_neg (fun z => absurd ((le_of tl_8 (ti_nI (by omega))).mp z) (by omega)), show nI o + (18 : Int32) + nI i = nI (o + 18 + i) from by rw [show nI o + (18 : Int32) = nI (o + 18) from nI_add o 18, nI_add], show nI o + (26 : Int32) + nI i = nI (o + 26 + i) from by rw [show nI o + (26 : Int32) = nI (o + 26) from nI_add o 26, nI_add], if_pos (ok_T (by omega) (by omega)), if_pos (ok_T (by omega) (by omega)), if_pos (ok_T (by omega) (by omega)), nI_clamp (n := i) (by omega), nI_clamp (n := o + 18 + i) (by omega), nI_clamp (n := o + 26 + i) (by omega), show nI i + (1 : Int32) = nI (i + 1) from nI_1 i]
      obtain ⟨s2, z2, e1, e2, e3⟩ := ih (i + 1) (upd s i (im (o + 18 + i))) (upd z i (im (o + 26 + i))) (by omega) (by omega)
      refine ⟨s2, z2, e1, fun j hj h8 => ?_, fun j hj => ?_⟩
      · by_cases e : j = i
        · subst e
          obtain ⟨c1, c2⟩ := e3 j (by omega)
          rw [c1, c2, pk_us, pk_us]
          exact ⟨rfl, rfl⟩
        · exact e2 j (by omega) h8
      · obtain ⟨c1, c2⟩ := e3 j (by omega)
        rw [c1, c2, pk_un (by omega), pk_un (by omega)]
        exact ⟨rfl, rfl⟩
theorem e_back1 {im : Nat → Int32} (ho : o ≤ 40) {s z : Nat → Int32} : ∀ (n i : Nat) (w lk : Nat → Int32), i ≤ 6 → 6 - i < n → ∃ w2 l2 s2 z2 : Nat → Int32, F_X12_back_91 im n day left w lk turn lot seen s z (nI o) (nI i) = some (day, day, left, w2, l2, turn, lot, seen, s2, z2) ∧ (∀ j, i ≤ j → j < 6 → w2 j = im (o + 6 + j) ∧ l2 j = im (o + 12 + j)) ∧ (∀ j, j < 8 → s2 j = im (o + 18 + j) ∧ z2 j = im (o + 26 + j)) ∧ ∀ j, j < i → w2 j = w j ∧ l2 j = lk j := by
  intro n
  induction n with
  | zero => intro i w lk _ h; exact absurd h (by omega)
  | succ n ih =>
    intro i w lk hi hn
    rw [F_X12_back_91]
    by_cases h : 6 ≤ i
    · rw [if_pos ((le_of tl_6 (ti_nI (by omega))).mpr (by omega))]
      obtain ⟨s2, z2, e1, e2, -⟩ := e_back2 (day := day) (left := left) (w := w) (lk := lk) (turn := turn) (lot := lot) (seen := seen) (im := im) ho FU_ 0 s z (by omega) (by unfold FU_; omega)
      exact ⟨w, lk, s2, z2, e1, fun j _ _ => absurd h (by omega), fun j hj => e2 j (by omega) hj, fun _ _ => ⟨rfl, rfl⟩⟩
    · rw [if_neg (fun z => absurd ((le_of tl_6 (ti_nI (by omega))).mp z) (by omega)), show nI o + (6 : Int32) + nI i = nI (o + 6 + i) from by rw [show nI o + (6 : Int32) = nI (o + 6) from nI_add o 6, nI_add], show nI o + (12 : Int32) + nI i = nI (o + 12 + i) from by rw [show nI o + (12 : Int32) = nI (o + 12) from nI_add o 12, nI_add], if_pos (ok_T (by omega) (by omega)), if_pos (ok_T (by omega) (by omega)), if_pos (ok_T (by omega) (by omega)), nI_clamp (n := i) (by omega), nI_clamp (n := o + 6 + i) (by omega), nI_clamp (n := o + 12 + i) (by omega), show nI i + (1 : Int32) = nI (i + 1) from nI_1 i]
      obtain ⟨w2, l2, s2, z2, e1, e2, e4, e3⟩ := ih (i + 1) (upd w i (im (o + 6 + i))) (upd lk i (im (o + 12 + i))) (by omega) (by omega)
      refine ⟨w2, l2, s2, z2, e1, fun j hj h8 => ?_, e4, fun j hj => ?_⟩
      · by_cases e : j = i
        · subst e
          obtain ⟨c1, c2⟩ := e3 j (by omega)
          rw [c1, c2, pk_us, pk_us]
          exact ⟨rfl, rfl⟩
        · exact e2 j (by omega) h8
      · obtain ⟨c1, c2⟩ := e3 j (by omega)
        rw [c1, c2, pk_un (by omega), pk_un (by omega)]
        exact ⟨rfl, rfl⟩
end CO7
