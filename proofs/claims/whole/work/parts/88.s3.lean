/-! own: hill: numbers taken, stops -/
section HL3
variable {N p : Nat} {ch : Nat → Nat} {bytes text : Nat → Int32} {pl st tk v at' kd : Int32} {v' : Int64}
theorem e_in64 (x a b : Int64) : F_X12_in x a b = some (if a.toInt ≤ x.toInt ∧ x.toInt ≤ b.toInt then 1 else 0) := by
  unfold F_X12_in
  by_cases h1 : x.toInt < a.toInt
  · rw [if_pos ((lg_cmp_lt _ _).mpr (Int64.lt_iff_toInt_lt.mpr h1)), if_neg (by omega)]
  · rw [if_neg (fun h => h1 (Int64.lt_iff_toInt_lt.mp ((lg_cmp_lt _ _).mp h)))]
    by_cases h2 : b.toInt < x.toInt
    · rw [if_pos ((lg_cmp_gt _ _).mpr (Int64.lt_iff_toInt_lt.mpr h2)), if_neg (by omega)]
    · rw [if_neg (fun h => h2 (Int64.lt_iff_toInt_lt.mp ((lg_cmp_gt _ _).mp h))), if_pos (by omega)]
/-- a number is taken by both, or by none -/
theorem k_take (hx : TX_ N ch bytes text) (hs : SY_ N bytes text p pl st tk v at' kd v') {lo hi : Int32} {l h : Int} (el : lo.toInt = l) (eh : hi.toInt = h) (hl : 0 ≤ l) (hh : h ≤ 99) : (∃ (a e : Nat) (pl2 st2 tk2 v2 at2 kd2 : Int32) (v3 : Int64), p < e ∧ e ≤ N ∧ l ≤ a ∧ (a : Int) ≤ h ∧ F_X9_takeNumber bytes (nI N) pl st tk v lo hi = some (nI a, pl2, st2, tk2, v2) ∧ SY_ N bytes text e pl2 st2 tk2 v2 at2 kd2 v3 ∧ (∀ (b k : Int32) (w : Int64), F_X12_takes text (nI N) (nI p) b k w lo hi = some (1, nI e, st, 2, lI a)) ∧ kd = 2 ∧ v' = lI a ∧ at' = nI e ∧ tk = 2) ∨ (F_X9_takeNumber bytes (nI N) pl st tk v lo hi = some (-1, pl, st, tk, v) ∧ (∀ (b k : Int32) (w : Int64), F_X12_takes text (nI N) (nI p) b k w lo hi = some (0, at', st, kd, v')) ∧ (kd = 2 → ¬ (l ≤ v'.toInt ∧ v'.toInt ≤ h))) := by
  have hN := hx.1
  obtain ⟨⟨s, e, h1, h2, h3, h4, rfl, rfl, h5, h6⟩, ht, hn⟩ := hs
  have n0 : ∀ (b k : Int32) (w : Int64), ¬ kd = 2 → F_X12_takes text (nI N) (nI p) b k w lo hi = some (0, at', nI s, kd, v') := by
    intro b k w hk
    unfold F_X12_takes
    rw [hn, Option.bind_some, if_neg hk]
  have n1 : ¬ tk = 2 → F_X9_takeNumber bytes (nI N) (nI e) (nI s) tk v lo hi = some (-1, nI e, nI s, tk, v) := by
    intro hk
    unfold F_X9_takeNumber
    rw [if_neg hk]
  have n2 : ∀ (b k : Int32) (w : Int64), kd = 2 → F_X12_takes text (nI N) (nI p) b k w lo hi = if l ≤ v'.toInt ∧ v'.toInt ≤ h then some (1, at', nI s, kd, v') else some (0, at', nI s, kd, v') := by
    intro b k w hk
    unfold F_X12_takes
    rw [hn, Option.bind_some, if_pos hk, e_in64, Int32.toInt_toInt64, Int32.toInt_toInt64, el, eh, Option.bind_some]
    by_cases q : l ≤ v'.toInt ∧ v'.toInt ≤ h
    · rw [if_pos q, if_pos q, if_neg (show ¬ (1 : Int32) = 0 by decide)]
    · rw [if_neg q, if_neg q, if_pos rfl]
  rcases ht with ⟨rfl, rfl⟩ | ⟨rfl, rfl⟩ | ⟨a, ha, rfl, rfl, rfl, rfl⟩ | ⟨rfl, rfl, -⟩ | ⟨rfl, hw⟩
  · exact Or.inr ⟨n1 (by decide), fun b k w => n0 b k w (by decide), fun y => absurd y (by decide)⟩
  · exact Or.inr ⟨n1 (by decide), fun b k w => n0 b k w (by decide), fun y => absurd y (by decide)⟩
  · have ta : (lI a).toInt = a := lI_t (by omega) (by omega)
    have tn : (nI a).toInt = a := ti_nI (by omega)
    have q : F_X9_takeNumber bytes (nI N) (nI e) (nI s) 2 (nI a) lo hi = if l ≤ (a : Int) ∧ (a : Int) ≤ h then (F_X9_advance bytes (nI N) (nI e) (nI s) 2 (nI a)).bind (fun u4 => some (nI a, u4.1, u4.2.1, u4.2.2.1, u4.2.2.2)) else some (-1, nI e, nI s, 2, nI a) := by
      unfold F_X9_takeNumber
      rw [if_pos rfl]
      by_cases q1 : (a : Int) < l
      · rw [if_pos ((lt_of tn el).mpr q1), if_neg (by omega)]
      · rw [if_neg (fun y => q1 ((lt_of tn el).mp y))]
        by_cases q2 : (a : Int) ≤ h
        · rw [if_pos ((le_of tn eh).mpr q2), if_pos (by omega)]
        · rw [if_neg (fun y => q2 ((le_of tn eh).mp y)), if_neg (by omega)]
    by_cases g : l ≤ (a : Int) ∧ (a : Int) ≤ h
    · obtain ⟨pl2, st2, tk2, v2, at2, kd2, v3, s1, s2⟩ := k_scan hx h4 (nI s) 2 (nI a)
      have ea : at' = nI e := h6 (by decide)
      refine Or.inl ⟨a, e, pl2, st2, tk2, v2, at2, kd2, v3, by have := h5 (by decide); omega, h4, g.1, g.2, ?_, s2, fun b k w => ?_, rfl, rfl, ea, rfl⟩
      · rw [q, if_pos g, s1, Option.bind_some]
      · rw [n2 b k w rfl, ta, if_pos g, ea]
    · refine Or.inr ⟨?_, fun b k w => ?_, fun _ => by rw [ta]; exact g⟩
      · rw [q, if_neg g]
      · rw [n2 b k w rfl, ta, if_neg g]
  · exact Or.inr ⟨n1 (by decide), fun b k w => n0 b k w (by decide), fun y => absurd y (by decide)⟩
  · refine Or.inr ⟨n1 (by decide), fun b k w => ?_, ?_⟩
    · rcases hw with rfl | ⟨rfl, rfl⟩
      · exact n0 b k w (by decide)
      · have : (1000 : Int64).toInt = 1000 := rfl
        rw [n2 b k w rfl, this, if_neg (by omega)]
    · rcases hw with rfl | ⟨rfl, rfl⟩
      · exact fun y => absurd y (by decide)
      · have : (1000 : Int64).toInt = 1000 := rfl
        rw [this]
        exact fun _ y => absurd y.2 (by omega)
/-- a stop is taken by both, or by none -/
theorem k_stop (hx : TX_ N ch bytes text) (hs : SY_ N bytes text p pl st tk v at' kd v') : (∃ (e : Nat) (pl2 st2 tk2 v2 at2 kd2 : Int32) (v3 : Int64), p < e ∧ e ≤ N ∧ F_X9_takeSemicolon bytes (nI N) pl st tk v = some (1, pl2, st2, tk2, v2) ∧ SY_ N bytes text e pl2 st2 tk2 v2 at2 kd2 v3 ∧ (∀ (b k : Int32) (w : Int64), F_X12_stops text (nI N) (nI p) b k w = some (1, nI e, st, 3, v')) ∧ kd = 3 ∧ tk = 3 ∧ at' = nI e) ∨ (F_X9_takeSemicolon bytes (nI N) pl st tk v = some (0, pl, st, tk, v) ∧ (∀ (b k : Int32) (w : Int64), F_X12_stops text (nI N) (nI p) b k w = some (0, at', st, kd, v')) ∧ ¬ kd = 3 ∧ ¬ tk = 3) := by
  obtain ⟨⟨s, e, h1, h2, h3, h4, rfl, rfl, h5, h6⟩, ht, hn⟩ := hs
  have n0 : ∀ (b k : Int32) (w : Int64), ¬ kd = 3 → F_X12_stops text (nI N) (nI p) b k w = some (0, at', nI s, kd, v') := by
    intro b k w hk
    unfold F_X12_stops
    rw [hn, Option.bind_some, if_neg hk]
  have n1 : ¬ tk = 3 → F_X9_takeSemicolon bytes (nI N) (nI e) (nI s) tk v = some (0, nI e, nI s, tk, v) := by
    intro hk
    unfold F_X9_takeSemicolon
    rw [if_neg hk]
  have bad : ¬ tk = 3 → ¬ kd = 3 → (F_X9_takeSemicolon bytes (nI N) (nI e) (nI s) tk v = some (0, nI e, nI s, tk, v) ∧ (∀ (b k : Int32) (w : Int64), F_X12_stops text (nI N) (nI p) b k w = some (0, at', nI s, kd, v')) ∧ ¬ kd = 3 ∧ ¬ tk = 3) := fun a b => ⟨n1 a, fun b' k w => n0 b' k w b, b, a⟩
  rcases ht with ⟨rfl, rfl⟩ | ⟨rfl, rfl⟩ | ⟨a, ha, rfl, rfl, rfl, rfl⟩ | ⟨rfl, rfl, -⟩ | ⟨rfl, hw⟩
  · exact Or.inr (bad (by decide) (by decide))
  · obtain ⟨pl2, st2, tk2, v2, at2, kd2, v3, s1, s2⟩ := k_scan hx h4 (nI s) 3 v
    have ea : at' = nI e := h6 (by decide)
    refine Or.inl ⟨e, pl2, st2, tk2, v2, at2, kd2, v3, by have := h5 (by decide); omega, h4, ?_, s2, fun b k w => ?_, rfl, rfl, ea⟩
    · unfold F_X9_takeSemicolon
      rw [if_pos rfl, s1, Option.bind_some]
    · unfold F_X12_stops
      rw [hn, Option.bind_some, if_pos rfl, ea]
  · exact Or.inr (bad (by decide) (by decide))
  · exact Or.inr (bad (by decide) (by decide))
  · exact Or.inr (bad (by decide) (by rcases hw with rfl | ⟨rfl, -⟩ <;> decide))
/-- from the token at hand to the next -/
theorem k_adv (hx : TX_ N ch bytes text) (hs : SY_ N bytes text p pl st tk v at' kd v') (h0 : ¬ tk = 0) (h3 : ¬ tk = 4) : ∃ (e : Nat) (pl2 st2 tk2 v2 at2 kd2 : Int32) (v3 : Int64), p < e ∧ e ≤ N ∧ at' = nI e ∧ F_X9_advance bytes (nI N) pl st tk v = some (pl2, st2, tk2, v2) ∧ SY_ N bytes text e pl2 st2 tk2 v2 at2 kd2 v3 := by
  obtain ⟨⟨s, e, h1, h2, h3', h4, rfl, rfl, h5, h6⟩, ht, hn⟩ := hs
  obtain ⟨pl2, st2, tk2, v2, at2, kd2, v3, s1, s2⟩ := k_scan hx h4 (nI s) tk v
  exact ⟨e, pl2, st2, tk2, v2, at2, kd2, v3, by have := h5 h0; omega, h4, h6 h3, s1, s2⟩
end HL3
