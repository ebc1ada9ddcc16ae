/-! own: deal, end, saw, mark -/
theorem e_next {T j : Nat} (hT : T ≤ 6) (hj : j < T) : F_X3_nextTo (nI T) (nI j) = some (nI ((j + 1) % T)) := by
  unfold F_X3_nextTo
  rw [show nI j + (1 : Int32) = nI (j + 1) from nI_1 j]
  by_cases h : T ≤ j + 1
  · have : (j + 1) % T = 0 := by rw [show j + 1 = T by omega]; exact Nat.mod_self T
    rw [if_pos ((nI_leI (by omega) (by omega)).mpr h), this]; rfl
  · rw [if_neg (fun z => h ((nI_leI (by omega) (by omega)).mp z)), Nat.mod_eq_of_lt (by omega)]
section CO3
variable {k T : Nat} {te da la sl sL many days law slip len : Int32} {cn cd cr cs mn md mr ms : Nat → Int32}
variable {w lk st ss w' lk' st' ss' : Nat → Int32} {day left turn lot seen day' left' turn' lot' seen' : Int32}
/-- the thirstiest: both loops go alike -/
theorem e_thirst (hT : T ≤ 6) (hw : ∀ t, t < T → w t = w' t ∧ cn t = mn t) : ∀ (n i f : Nat), f < T → i ≤ T → T - i < n → ∃ g : Nat, g < T ∧ F_X7_thirstiest_4 w cn (nI T) n (nI f) (nI i) = some (nI g) ∧ F_X12_deal_63 (nI T) mn law slip len ms n left' w' turn' lot' (nI f) (nI i) = F_X12_deal_112 (nI T) mn law slip len ms left' w' turn' lot' (nI g) := by
  intro n
  induction n with
  | zero => intro i f _ _ h; exact absurd h (by omega)
  | succ n ih =>
    intro i f hf hi hn
    rw [F_X7_thirstiest_4, F_X12_deal_63]
    by_cases h : T ≤ i
    · have z := (nI_leI (a := T) (b := i) (by omega) (by omega)).mpr h
      rw [if_pos z, if_pos z]
      exact ⟨f, hf, rfl, rfl⟩
    · have z : ¬ nI T ≤ nI i := fun z => h ((nI_leI (by omega) (by omega)).mp z)
      have oi : ok_I (nI i) 6 = true := ok_T (by omega) (by omega)
      have of' : ok_I (nI f) 6 = true := ok_T (by omega) (by omega)
      rw [if_neg z, if_neg z, if_pos oi, if_pos oi, if_pos of', if_pos of', nI_clamp (n := f) (by omega), nI_clamp (n := i) (by omega), (hw f hf).1, (hw f hf).2, (hw i (by omega)).1, (hw i (by omega)).2, show nI i + (1 : Int32) = nI (i + 1) from nI_1 i]
      by_cases q : w' f - mn f ≤ w' i - mn i
      · rw [if_pos q, if_pos q]
        exact ih (i + 1) f hf (by omega) (by omega)
      · rw [if_neg q, if_neg q]
        exact ih (i + 1) i (by omega) (by omega) (by omega)
theorem CO_deal (hk : k < 600) (hH : IH_ T te da la sl sL cn cd cr cs many days law slip len mn md mr ms) (hN : IN_ k T w lk st ss day left turn lot seen w' lk' st' ss' day' left' turn' lot' seen') : ∃ (u1 : Int32 × (Nat → Int32) × Int32 × Int32 × Int32) (u2 : Int32 × Int32 × (Nat → Int32) × Int32 × Int32), F_X11_deal cn cs te la sl sL w left turn lot = some u1 ∧ F_X12_deal many mn law slip len ms left' w' turn' lot' = some u2 ∧ u1.1 = u2.1 ∧ IN_ (k + 1) T u1.2.1 lk st ss day u1.2.2.1 u1.2.2.2.1 u1.2.2.2.2 seen u2.2.2.1 lk' st' ss' day' u2.2.1 u2.2.2.2.1 u2.2.2.2.2 seen' := by
  obtain ⟨hT, rfl, rfl, -, ⟨rfl, ⟨lw, hlw, rfl⟩⟩, ⟨rfl, ⟨sp, hsp, rfl⟩⟩, ⟨L, l1, l8, rfl, rfl, hs⟩, hnd⟩ := hH
  have hM := hN.mono
  obtain ⟨a1, ⟨rfl, ⟨lf, hlf, rfl⟩⟩, ⟨rfl, ⟨tn, htn, rfl⟩⟩, rfl, a5, a6⟩ := id hN
  unfold F_X11_deal F_X12_deal
  by_cases h0 : lf = 0
  · subst h0
    rw [if_pos (show nI 0 < 1 by decide), if_pos (show nI 0 = 0 from rfl)]
    exact ⟨_, _, rfl, rfl, rfl, hM⟩
  rw [if_neg (fun z => absurd ((lt_of (ti_nI (by omega)) tl_1).mp z) (by omega)), if_neg (nI_ne0 (by omega) (by omega))]
  by_cases hT0 : T = 0
  · subst hT0
    rw [if_neg (show ¬ (1 : Int32) ≤ nI 0 by decide), if_pos (show nI 0 = 0 from rfl)]
    exact ⟨_, _, rfl, rfl, rfl, hM⟩
  have hTn : ¬ nI T = 0 := nI_ne0 (by omega) (by omega)
  rw [if_pos ((le_of tl_1 (ti_nI (by omega))).mpr (by omega)), if_neg hTn]
  -- whose the drop is, by the law
  have key : ∃ g : Nat, g < T ∧ F_X7_byLaw w (nI tn) cn cs (nI T) (nI lw) (nI L) = some (nI g) ∧ (if nI lw = 0 then (if nI T = 0 then none else F_X12_deal_50 (nI T) mn (nI lw) (nI sp) (nI L) ms (nI lf) w' (nI tn) lot (nI tn - nI tn / nI T * nI T)) else (if nI L = 0 then none else if ok_I (nI tn - nI tn / nI L * nI L) 8 = true then F_X12_deal_50 (nI T) mn (nI lw) (nI sp) (nI L) ms (nI lf) w' (nI tn) lot (ms (nI tn - nI tn / nI L * nI L).toNatClampNeg) else none)) = F_X12_deal_112 (nI T) mn (nI lw) (nI sp) (nI L) ms (nI lf) w' (nI tn) lot (nI g) := by
    have hm : tn % L < L := Nat.mod_lt _ (by omega)
    have hw : ∀ t, t < T → w t = w' t ∧ cn t = mn t := fun t ht => ⟨(a6 t ht).1.1, (hnd t ht).1⟩
    have hLn : ¬ nI L = 0 := nI_ne0 (by omega) (by omega)
    have ok8 : ok_I (nI (tn % L)) 8 = true := ok_T (by omega) (by omega)
    rw [pk_rem (a := tn) (d := T) (by omega) (by omega) (by omega), pk_rem (a := tn) (d := L) (by omega) (by omega) (by omega), nI_clamp (n := tn % L) (by omega)]
    rcases (show lw = 0 ∨ lw = 1 ∨ lw = 2 by omega) with rfl | rfl | rfl
    · refine ⟨tn % T, Nat.mod_lt _ (by omega), ?_, ?_⟩
      · unfold F_X7_byLaw
        rw [if_neg (show ¬ nI 0 = 1 by decide), if_neg (show ¬ nI 0 = 2 by decide), if_neg (nI_nle (by omega) (by omega)), if_neg hTn, pk_rem (a := tn) (d := T) (by omega) (by omega) (by omega)]
      · rw [if_pos (show nI 0 = 0 from rfl), if_neg hTn]
        unfold F_X12_deal_50
        rw [if_neg (show ¬ nI 0 = 1 by decide)]
    · obtain ⟨g, hg, e1, e2⟩ := e_thirst (law := nI 1) (slip := nI sp) (len := nI L) (ms := ms) (left' := nI lf) (turn' := nI tn) (lot' := lot) hT hw FU_ 1 0 (by omega) (by omega) (by unfold FU_; omega)
      refine ⟨g, hg, ?_, ?_⟩
      · unfold F_X7_byLaw
        rw [if_pos (show nI 1 = 1 from rfl)]
        have e1 : F_X7_thirstiest w cn (nI T) = some (nI g) := e1
        rw [e1]; rfl
      · rw [if_neg (show ¬ nI 1 = 0 by decide), if_neg hLn, if_pos ok8]
        unfold F_X12_deal_50
        rw [if_pos (show nI 1 = 1 from rfl)]
        exact e2
    · obtain ⟨e1, ⟨a, ha, e2⟩⟩ := hs (tn % L) hm
      refine ⟨a, by omega, ?_, ?_⟩
      · unfold F_X7_byLaw
        rw [if_neg (show ¬ nI 2 = 1 by decide), if_pos (show nI 2 = 2 from rfl), e_sung l1 l8 (by omega), e1, e2]; rfl
      · rw [if_neg (show ¬ nI 2 = 0 by decide), if_neg hLn, if_pos ok8, e2]
        unfold F_X12_deal_50
        rw [if_neg (show ¬ nI 2 = 1 by decide)]
  obtain ⟨g, hg, e1, e2⟩ := key
  rw [e2]
  unfold F_X7_dealOne F_X12_deal_112
  rw [e1]
  simp only [Option.bind_some, i_10, if_true, if_false]
  -- the end of it, for the terrace that it falls on
  have fin : ∀ (q : Nat) (lt2 : Int32), q < T → ∃ (u1 : Int32 × (Nat → Int32) × Int32 × Int32 × Int32) (u2 : Int32 × Int32 × (Nat → Int32) × Int32 × Int32), F_X7_dealOne_23 cn cs (nI T) (nI lw) (nI sp) (nI L) w (nI lf) (nI tn) lt2 (nI q) = some u1 ∧ F_X12_deal_164 (nI T) mn (nI lw) (nI sp) (nI L) ms (nI lf) w' (nI tn) lt2 (nI q) = some u2 ∧ u1.1 = u2.1 ∧ IN_ (k + 1) T u1.2.1 lk st ss day u1.2.2.1 u1.2.2.2.1 u1.2.2.2.2 seen u2.2.2.1 lk' st' ss' day' u2.2.1 u2.2.2.2.1 u2.2.2.2.2 seen' := by
    intro q lt2 hq
    obtain ⟨⟨w1, ⟨v0, hv0, ew⟩⟩, -, -⟩ := a6 q hq
    have o6 : ok_I (nI q) 6 = true := ok_T (by omega) (by omega)
    have tq := ti_nI (n := q) (by omega)
    unfold F_X7_dealOne_23 F_X12_deal_164
    rw [e_has hT, if_pos (show 0 ≤ (nI q).toInt ∧ (nI q).toInt < T by omega), if_pos o6, nI_clamp (n := q) (by omega), w1, ew, show nI v0 + (1 : Int32) = nI (v0 + 1) from nI_1 v0, show nI tn + (1 : Int32) = nI (tn + 1) from nI_1 tn, show nI lf - (1 : Int32) = nI (lf - 1) from pk_sub (a := lf) (b := 1) (by omega)]
    simp only [Option.bind_some, i_10, if_true, if_false]
    rw [if_pos o6]
    exact ⟨_, _, rfl, rfl, rfl, hN.put (by omega) ⟨rfl, lf - 1, by omega, rfl⟩ ⟨rfl, tn + 1, by omega, rfl⟩ rfl⟩
  have sh : ∀ (o1 : Option (Int32 × (Nat → Int32) × Int32 × Int32 × Int32)), (∃ u1, o1 = some u1) → o1.bind (fun u3 => some (u3.1, u3.2.1, u3.2.2.1, u3.2.2.2.1, u3.2.2.2.2)) = o1 := by
    rintro o1 ⟨u, rfl⟩; rfl
  unfold F_X7_slips
  by_cases hs0 : sp = 0
  · subst hs0
    rw [if_neg (show ¬ (1 : Int32) ≤ nI 0 by decide), if_pos (show nI 0 ≤ 0 by decide)]
    obtain ⟨u1, u2, f1, f2, f3, f4⟩ := fin g lot hg
    refine ⟨u1, u2, ?_, f2, f3, f4⟩
    simp only [Option.bind_some, if_true]
    rw [f1]; rfl
  · rw [if_pos ((le_of tl_1 (ti_nI (by omega))).mpr (by omega)), if_neg (nI_nle (by omega) (by omega))]
    generalize lot * 1103515245 + 12345 = lt2
    generalize (lt2.toUInt32 >>> ((16 : Int32).toUInt32 &&& Int32.toUInt32 31)).toInt32 = z2
    by_cases c : nI sp ≤ z2 - z2 / 10 * 10
    · rw [if_pos c, if_pos c]
      obtain ⟨u1, u2, f1, f2, f3, f4⟩ := fin g lt2 hg
      refine ⟨u1, u2, ?_, f2, f3, f4⟩
      simp only [Option.bind_some, if_true]
      rw [f1]; rfl
    · rw [if_neg c, if_neg c, if_neg hTn, show nI g + (1 : Int32) = nI (g + 1) from nI_1 g, pk_rem (a := g + 1) (d := T) (by omega) (by omega) (by omega)]
      obtain ⟨u1, u2, f1, f2, f3, f4⟩ := fin ((g + 1) % T) lt2 (Nat.mod_lt _ (by omega))
      refine ⟨u1, u2, ?_, f2, f3, f4⟩
      simp only [Option.bind_some, i_10, if_true, if_false]
      rw [e_next hT hg]
      simp only [Option.bind_some, i_10, if_true, if_false]
      rw [f1]; rfl
end CO3
