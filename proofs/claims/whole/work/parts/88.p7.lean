/-! own: saw, mark -/
theorem all_b : ∀ T, T < 7 → ((1 : Int32) <<< (nI T &&& 31)) - 1 = nI (2 ^ T - 1) := by decide +kernel
theorem pw_b : ∀ T, T < 7 → 2 ^ T ≤ 64 := by decide
theorem e_all {T : Nat} (hT : T ≤ 6) : F_X3_allBits (nI T) = some (nI (2 ^ T - 1)) := by
  unfold F_X3_allBits
  rw [all_b T (by omega)]
section CO5
variable {k T : Nat} {te da la sl sL many days law slip len : Int32} {cn cd cr cs mn md mr ms : Nat → Int32}
variable {w lk st ss w' lk' st' ss' : Nat → Int32} {day left turn lot seen day' left' turn' lot' seen' : Int32}
theorem CO_saw (hk : k < 600) (hH : IH_ T te da la sl sL cn cd cr cs many days law slip len mn md mr ms) (hN : IN_ k T w lk st ss day left turn lot seen w' lk' st' ss' day' left' turn' lot' seen') (x1 x2 : Int32) : ∃ (u1 : Int32 × (Nat → Int32) × (Nat → Int32) × Int32) (u2 : Int32 × Int32 × (Nat → Int32) × (Nat → Int32)), F_X11_saw te st ss seen x1 x2 = some u1 ∧ F_X12_saw many seen' st' ss' x1 x2 = some u2 ∧ u1.1 = u2.1 ∧ IN_ (k + 1) T w lk u1.2.1 u1.2.2.1 day left turn lot u1.2.2.2 w' lk' u2.2.2.1 u2.2.2.2 day' left' turn' lot' u2.2.1 := by
  obtain ⟨hT, rfl, rfl, -, -, -, -, -⟩ := hH
  have hM := hN.mono
  obtain ⟨a1, a2, a3, a4, ⟨S, hS, rfl, rfl, hs⟩, a6⟩ := id hM
  have hp := pw_b T (by omega)
  have t1 : (1 : Int32).toInt = 1 := rfl
  have t0 : (0 : Int32).toInt = 0 := rfl
  have t20 : (20 : Int32).toInt = 20 := rfl
  have l0 : (0 : Int64).toInt = 0 := rfl
  have l1 : (1 : Int64).toInt = 1 := rfl
  have l19 : (19 : Int64).toInt = 19 := rfl
  have la : ((nI (2 ^ T - 1)).toInt64).toInt = ((2 ^ T - 1 : Nat) : Int) := by rw [Int32.toInt_toInt64, ti_nI (by omega)]
  have ta : (nI (2 ^ T - 1)).toInt = ((2 ^ T - 1 : Nat) : Int) := ti_nI (by omega)
  unfold F_X11_saw F_X12_saw
  rw [e_in, e_in, all_b T (by omega), e_all hT, l0, l1, l19, la]
  by_cases p : 0 ≤ x1.toInt ∧ x1.toInt ≤ 19
  · rw [if_pos p, if_neg (fun z => absurd ((lt_of rfl t0).mp z) (by omega)), if_neg (fun z => absurd ((le_of t20 rfl).mp z) (by omega))]
    simp only [Option.bind_some, i_10, if_true, if_false]
    skip
    by_cases q : 1 ≤ x2.toInt ∧ x2.toInt ≤ ((2 ^ T - 1 : Nat) : Int)
    · rw [if_pos q, if_neg (fun z => absurd ((lt_of rfl t1).mp z) (by omega)), if_pos ((le_of rfl ta).mpr (by omega))]
      obtain ⟨b, hb, rfl⟩ := ix_nI (x := x2) (T := 2 ^ T) (by omega) (by omega)
      unfold F_X7_hear
      by_cases r : S = 8
      · subst r
        rw [if_neg (show ¬ nI 8 < 8 by decide), if_pos (show nI 8 = 8 from rfl)]
        exact ⟨_, _, rfl, rfl, rfl, hM⟩
      · have o8 : ok_I (nI S) 8 = true := ok_T (by omega) (by omega)
        rw [if_pos ((lt_of (ti_nI (by omega)) tl_8).mpr (by omega)), if_pos o8, if_neg (fun z => r ((nI_eq (b := 8) (by omega) (by omega)).mp z)), if_pos o8, nI_clamp (n := S) (by omega), show nI S + (1 : Int32) = nI (S + 1) from nI_1 S]
        refine ⟨_, _, rfl, rfl, rfl, a1, a2, a3, a4, ⟨S + 1, by omega, rfl, rfl, fun j hj => ?_⟩, a6⟩
        by_cases e : j = S
        · subst e
          exact ⟨by rw [pk_us, pk_us], by rw [pk_us, pk_us], b, hb, by rw [pk_us]⟩
        · obtain ⟨c1, c2, c3, c4, c5⟩ := hs j (by omega)
          exact ⟨by rw [pk_un e, pk_un e]; exact c1, by rw [pk_un e, pk_un e]; exact c2, c3, c4, by rw [pk_un e]; exact c5⟩
    · rw [if_neg q]
      by_cases z : x2 < 1
      · rw [if_pos z]
        exact ⟨_, _, rfl, rfl, rfl, hM⟩
      · rw [if_neg z, if_neg (fun y => q ⟨by have := (not_congr (lt_of rfl t1)).mp z; omega, (le_of rfl ta).mp y⟩)]
        exact ⟨_, _, rfl, rfl, rfl, hM⟩
  · rw [if_neg p]
    by_cases z : x1 < 0
    · rw [if_pos z]
      exact ⟨_, _, rfl, rfl, rfl, hM⟩
    · rw [if_neg z, if_pos ((le_of t20 rfl).mpr (by have := (not_congr (lt_of rfl t0)).mp z; omega))]
      exact ⟨_, _, rfl, rfl, rfl, hM⟩
theorem CO_mark (hk : k < 600) (hH : IH_ T te da la sl sL cn cd cr cs many days law slip len mn md mr ms) (hN : IN_ k T w lk st ss day left turn lot seen w' lk' st' ss' day' left' turn' lot' seen') {k0 k1 k2 k3 k4 k5 tr : Int64} (hE : (((((0 + k0) + k1) + k2) + k3) + k4) + k5 = tr) (x1 x2 : Int32) : ∃ (u1 : Int32 × Int64 × Int64 × Int64 × Int64 × Int64 × Int64) (u2 : Int32 × Int64), F_X11_mark cn cd te w lk k0 k1 k2 k3 k4 k5 x1 x2 = some u1 ∧ F_X12_mark many mn md w' lk' tr x1 x2 = some u2 ∧ u1.1 = u2.1 ∧ (((((0 + u1.2.1) + u1.2.2.1) + u1.2.2.2.1) + u1.2.2.2.2.1) + u1.2.2.2.2.2.1) + u1.2.2.2.2.2.2 = u2.2 := by
  obtain ⟨hT, rfl, rfl, -, -, -, -, hnd⟩ := hH
  obtain ⟨-, -, -, -, -, a6⟩ := hN
  subst hE
  have t0 : (0 : Int32).toInt = 0 := rfl
  have t6 : (6 : Int32).toInt = 6 := rfl
  have l0 : (0 : Int64).toInt = 0 := rfl
  have l5 : (5 : Int64).toInt = 5 := rfl
  unfold F_X11_mark F_X12_mark
  rw [e_in, e_has hT, e_isT hT, l0, l5]
  by_cases p : 0 ≤ x1.toInt ∧ x1.toInt ≤ 5
  · rw [if_pos p, if_neg (fun z => absurd ((lt_of rfl t0).mp z) (by omega)), if_neg (fun z => absurd ((le_of t6 rfl).mp z) (by omega))]
    by_cases h : 0 ≤ x2.toInt ∧ x2.toInt < T
    · obtain ⟨j, hj, rfl⟩ := ix_nI h (by omega)
      have o6 : ok_I (nI j) 6 = true := ok_T (by omega) (by omega)
      have cl : (nI j).toNatClampNeg = j := nI_clamp (by omega)
      obtain ⟨⟨w1, -⟩, w2, -⟩ := a6 j hj
      obtain ⟨n1, -, n2, -⟩ := hnd j hj
      rw [if_pos h]
      obtain ⟨v, hv, rfl⟩ := ix_nI (x := x1) (T := 6) (by omega) (by omega)
      rcases (show v = 0 ∨ v = 1 ∨ v = 2 ∨ v = 3 ∨ v = 4 ∨ v = 5 by omega) with rfl | rfl | rfl | rfl | rfl | rfl
      · refine ⟨(w j, k0 + 1, k1, k2, k3, k4, k5), (w' j, _), by simp [F_X4_marked, F_X4_leave, o6, cl]; decide, by simp [F_X12_mark_83, o6, cl]; rfl, w1, ?_⟩
        show _ = _
        ac_rfl
      all_goals sorry
    · rw [if_neg h]
      exact ⟨_, _, rfl, rfl, rfl, rfl⟩
  · rw [if_neg p]
    by_cases z : x1 < 0
    · rw [if_pos z]
      exact ⟨_, _, rfl, rfl, rfl, rfl⟩
    · rw [if_neg z, if_pos ((le_of t6 rfl).mpr (by have := (not_congr (lt_of rfl t0)).mp z; omega))]
      exact ⟨_, _, rfl, rfl, rfl, rfl⟩
end CO5
