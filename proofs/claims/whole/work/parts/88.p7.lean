/-! own: saw, mark -/
theorem all_b : ∀ T, T < 7 → ((1 : Int32) <<< (nI T &&& 31)) - 1 = nI (2 ^ T - 1) := by decide +kernel
theorem pw_b : ∀ T, T < 7 → 2 ^ T ≤ 64 := by decide
theorem e_all {T : Nat} (hT : T ≤ 6) : F_X3_allBits (nI T) = some (nI (2 ^ T - 1)) := by
  unfold F_X3_allBits
  rw [all_b T (by omega)]
section MK
variable {w nd dw lk : Nat → Int32} {tr : Int64} {j : Nat}
theorem mk_0 (o6 : ok_I (nI j) 6 = true) (cl : (nI j).toNatClampNeg = j) : F_X4_marked w tr (nI j) = some (w j, tr + 1) := by
  unfold F_X4_marked F_X4_leave
  simp only [o6, cl, Option.bind_some, if_true]; rfl
theorem mk_1 (o6 : ok_I (nI j) 6 = true) (cl : (nI j).toNatClampNeg = j) : F_X0_marked nd w tr (nI j) = some (w j - nd j, tr + 10 + 1) := by
  unfold F_X0_marked F_X4_marked_X0 F_X4_leave_X0
  simp only [o6, cl, Option.bind_some, if_true]; rfl
theorem mk_2 (o6 : ok_I (nI j) 6 = true) (cl : (nI j).toNatClampNeg = j) : F_X5_marked dw w tr (nI j) = some (w j + dw j, tr + 100 + 1) := by
  unfold F_X5_marked F_X4_marked_X5 F_X4_leave_X5
  simp only [o6, cl, Option.bind_some, if_true]; rfl
theorem mk_3 (o6 : ok_I (nI j) 6 = true) (cl : (nI j).toNatClampNeg = j) : F_X8_marked nd w tr (nI j) = some ((w j - nd j) * 2, tr + 1000 + 10 + 1) := by
  unfold F_X8_marked F_X0_marked_X8 F_X4_marked_X8 F_X4_leave_X8
  simp only [o6, cl, Option.bind_some, if_true]; rfl
theorem mk_4 (o6 : ok_I (nI j) 6 = true) (cl : (nI j).toNatClampNeg = j) : F_X2_marked dw w tr (nI j) = some (w j + dw j + nI j, tr + 10000 + 100 + 1) := by
  unfold F_X2_marked F_X5_marked_X2 F_X4_marked_X2 F_X4_leave_X2
  simp only [o6, cl, Option.bind_some, if_true]; rfl
theorem mk_5 (o6 : ok_I (nI j) 6 = true) (cl : (nI j).toNatClampNeg = j) : F_X6_marked w lk tr (nI j) = some (w j - lk j, tr + 100000 + 1) := by
  unfold F_X6_marked F_X4_marked_X6 F_X4_leave_X6
  simp only [o6, cl, Option.bind_some, if_true]; rfl
end MK
section CO5
variable {k T : Nat} {te da la sl sL many days law slip len : Int32} {cn cd cr cs mn md mr ms : Nat → Int32}
variable {w lk st ss w' lk' st' ss' : Nat → Int32} {day left turn lot seen day' left' turn' lot' seen' : Int32}
theorem CO_saw (hk : k < 600) (hH : IH_ T te da la sl sL cn cd cr cs many days law slip len mn md mr ms) (hN : IN_ k T w lk st ss day left turn lot seen w' lk' st' ss' day' left' turn' lot' seen') (x1 x2 : Int32) : ∃ (u1 : Int32 × (Nat → Int32) × (Nat → Int32) × Int32) (u2 : Int32 × Int32 × (Nat → Int32) × (Nat → Int32)), F_X11_saw te st ss seen x1 x2 = some u1 ∧ F_X12_saw many seen' st' ss' x1 x2 = some u2 ∧ u1.1 = u2.1 ∧ IN_ (k + 1) T w lk u1.2.1 u1.2.2.1 day left turn lot u1.2.2.2 w' lk' u2.2.2.1 u2.2.2.2 day' left' turn' lot' u2.2.1 := by
  obtain ⟨hT, rfl, rfl, -, -, -, -, -⟩ := hH
  have hM := hN.mono
  obtain ⟨a1, a2, a3, a4, ⟨S, hS, rfl, rfl, hs⟩, a6⟩ := id hM
  have hp := pw_b T (by omega)
  have t1 : (1 : Int32).toInt = 1 := rfl
  have t0 : (0 : Int32).toInt = 0 := rfl
  have t20 : (20 : Int32).toInt = 20 := rfl
  have l0 : (0 : Int64).toInt = 0 := rfl
  have l1 : (1 : Int64).toInt = 1 := rfl
  have l19 : (19 : Int64).toInt = 19 := rfl
  have la : ((nI (2 ^ T - 1)).toInt64).toInt = ((2 ^ T - 1 : Nat) : Int) := by rw [Int32.toInt_toInt64, ti_nI (by omega)]
  have ta : (nI (2 ^ T - 1)).toInt = ((2 ^ T - 1 : Nat) : Int) := ti_nI (by omega)
  unfold F_X11_saw F_X12_saw
  rw [e_in, e_in, all_b T (by omega), e_all hT, l0, l1, l19, la]
  by_cases p : 0 ≤ x1.toInt ∧ x1.toInt ≤ 19
  · rw [if_pos p, if_neg (fun z => absurd ((lt_of rfl t0).mp z) (by omega)), if_neg (fun z => absurd ((le_of t20 rfl).mp z) (by omega))]
    simp only [Option.bind_some, i_10, if_true, if_false]
    skip
    by_cases q : 1 ≤ x2.toInt ∧ x2.toInt ≤ ((2 ^ T - 1 : Nat) : Int)
    · rw [if_pos q, if_neg (fun z => absurd ((lt_of rfl t1).mp z) (by omega)), if_pos ((le_of rfl ta).mpr (by omega))]
      obtain ⟨b, hb, rfl⟩ := ix_nI (x := x2) (T := 2 ^ T) (by omega) (by omega)
      unfold F_X7_hear
      by_cases r : S = 8
      · subst r
        rw [if_neg (show ¬ nI 8 < 8 by decide), if_pos (show nI 8 = 8 from rfl)]
        simp only [Option.bind_some, i_10, if_true, if_false]
        exact ⟨_, _, rfl, rfl, rfl, hM⟩
      · have o8 : ok_I (nI S) 8 = true := ok_T (by omega) (by omega)
        rw [if_pos ((lt_of (ti_nI (by omega)) tl_8).mpr (by omega))]
        simp only [o8, Option.bind_some, i_10, if_true, if_false]
        rw [if_neg (show ¬ nI S = 8 from fun z => r ((nI_eq (b := 8) (by omega) (by omega)).mp z)), nI_clamp (n := S) (by omega), show nI S + (1 : Int32) = nI (S + 1) from nI_1 S]
        refine ⟨_, _, rfl, rfl, rfl, a1, a2, a3, a4, ⟨S + 1, by omega, rfl, rfl, fun j hj => ?_⟩, a6⟩
        show upd st S x1 j = upd st' S x1 j ∧ upd ss S (nI b) j = upd ss' S (nI b) j ∧ ∃ c, c < 2 ^ T ∧ upd ss' S (nI b) j = nI c
        by_cases e : j = S
        · subst e
          exact ⟨by rw [pk_us, pk_us], by rw [pk_us, pk_us], b, hb, by rw [pk_us]⟩
        · obtain ⟨c1, c2, c3, c4, c5⟩ := hs j (by omega)
          exact ⟨by rw [pk_un e, pk_un e]; exact c1, by rw [pk_un e, pk_un e]; exact c2, c3, c4, by rw [pk_un e]; exact c5⟩
    · rw [if_neg q]
      by_cases z : x2 < 1
      · rw [if_pos z]
        exact ⟨_, _, rfl, rfl, rfl, hM⟩
      · rw [if_neg z, if_neg (fun y => q ⟨by have := (not_congr (lt_of rfl t1)).mp z; omega, (le_of rfl ta).mp y⟩)]
        exact ⟨_, _, rfl, rfl, rfl, hM⟩
  · rw [if_neg p]
    by_cases z : x1 < 0
    · rw [if_pos z]
      exact ⟨_, _, rfl, rfl, rfl, hM⟩
    · rw [if_neg z, if_pos ((le_of t20 rfl).mpr (by have := (not_congr (lt_of rfl t0)).mp z; omega))]
      exact ⟨_, _, rfl, rfl, rfl, hM⟩
theorem CO_mark (hk : k < 600) (hH : IH_ T te da la sl sL cn cd cr cs many days law slip len mn md mr ms) (hN : IN_ k T w lk st ss day left turn lot seen w' lk' st' ss' day' left' turn' lot' seen') {k0 k1 k2 k3 k4 k5 tr : Int64} (hE : (((((0 + k0) + k1) + k2) + k3) + k4) + k5 = tr) (x1 x2 : Int32) : ∃ (u1 : Int32 × Int64 × Int64 × Int64 × Int64 × Int64 × Int64) (u2 : Int32 × Int64), F_X11_mark cn cd te w lk k0 k1 k2 k3 k4 k5 x1 x2 = some u1 ∧ F_X12_mark many mn md w' lk' tr x1 x2 = some u2 ∧ u1.1 = u2.1 ∧ (((((0 + u1.2.1) + u1.2.2.1) + u1.2.2.2.1) + u1.2.2.2.2.1) + u1.2.2.2.2.2.1) + u1.2.2.2.2.2.2 = u2.2 := by
  obtain ⟨hT, rfl, rfl, -, -, -, -, hnd⟩ := hH
  obtain ⟨-, -, -, -, -, a6⟩ := hN
  subst hE
  have t0 : (0 : Int32).toInt = 0 := rfl
  have t6 : (6 : Int32).toInt = 6 := rfl
  have l0 : (0 : Int64).toInt = 0 := rfl
  have l5 : (5 : Int64).toInt = 5 := rfl
  unfold F_X11_mark F_X12_mark
  rw [e_in, e_has hT, e_isT hT, l0, l5]
  by_cases p : 0 ≤ x1.toInt ∧ x1.toInt ≤ 5
  · rw [if_pos p, if_neg (fun z => absurd ((lt_of rfl t0).mp z) (by omega)), if_neg (fun z => absurd ((le_of t6 rfl).mp z) (by omega))]
    by_cases h : 0 ≤ x2.toInt ∧ x2.toInt < T
    · obtain ⟨j, hj, rfl⟩ := ix_nI h (by omega)
      have o6 : ok_I (nI j) 6 = true := ok_T (by omega) (by omega)
      have cl : (nI j).toNatClampNeg = j := nI_clamp (by omega)
      obtain ⟨⟨w1, -⟩, w2, -⟩ := a6 j hj
      obtain ⟨n1, -, n2, -⟩ := hnd j hj
      rw [if_pos h]
      obtain ⟨v, hv, rfl⟩ := ix_nI (x := x1) (T := 6) (by omega) (by omega)
      rcases (show v = 0 ∨ v = 1 ∨ v = 2 ∨ v = 3 ∨ v = 4 ∨ v = 5 by omega) with rfl | rfl | rfl | rfl | rfl | rfl
      · simp only [show (nI 0 = 0) = True from eq_true rfl, show (nI 0 = 1) = False from eq_false (by decide), show (nI 0 = 2) = False from eq_false (by decide), show (nI 0 = 3) = False from eq_false (by decide), show (nI 0 = 4) = False from eq_false (by decide), show (nI 0 = 5) = False from eq_false (by decide), if_true, if_false, Option.bind_some, i_10]
        rw [mk_0 o6 cl]
        unfold F_X12_mark_83
        simp only [o6, cl, if_true, if_false, Option.bind_some, show (nI 0 = 0) = True from eq_true rfl, show (nI 0 = 1) = False from eq_false (by decide), show (nI 0 = 2) = False from eq_false (by decide), show (nI 0 = 3) = False from eq_false (by decide), show (nI 0 = 4) = False from eq_false (by decide), show (nI 0 = 5) = False from eq_false (by decide)]
        refine ⟨_, _, rfl, rfl, w1, ?_⟩
        show (((((0 + (k0 + 1)) + k1) + k2) + k3) + k4) + k5 = ((((((0 + k0) + k1) + k2) + k3) + k4) + k5) + 1
        rw [show (1 : Int64) = 1 from rfl]
        ac_rfl
      · simp only [show (nI 1 = 0) = False from eq_false (by decide), show (nI 1 = 1) = True from eq_true rfl, show (nI 1 = 2) = False from eq_false (by decide), show (nI 1 = 3) = False from eq_false (by decide), show (nI 1 = 4) = False from eq_false (by decide), show (nI 1 = 5) = False from eq_false (by decide), if_true, if_false, Option.bind_some, i_10]
        rw [mk_1 o6 cl]
        unfold F_X12_mark_83
        simp only [o6, cl, if_true, if_false, Option.bind_some, show (nI 1 = 0) = False from eq_false (by decide), show (nI 1 = 1) = True from eq_true rfl, show (nI 1 = 2) = False from eq_false (by decide), show (nI 1 = 3) = False from eq_false (by decide), show (nI 1 = 4) = False from eq_false (by decide), show (nI 1 = 5) = False from eq_false (by decide)]
        refine ⟨_, _, rfl, rfl, by show w j - cn j = w' j - mn j; rw [w1, n1], ?_⟩
        show (((((0 + k0) + (k1 + 10 + 1)) + k2) + k3) + k4) + k5 = ((((((0 + k0) + k1) + k2) + k3) + k4) + k5) + 11
        rw [show (11 : Int64) = 10 + 1 from rfl]
        ac_rfl
      · simp only [show (nI 2 = 0) = False from eq_false (by decide), show (nI 2 = 1) = False from eq_false (by decide), show (nI 2 = 2) = True from eq_true rfl, show (nI 2 = 3) = False from eq_false (by decide), show (nI 2 = 4) = False from eq_false (by decide), show (nI 2 = 5) = False from eq_false (by decide), if_true, if_false, Option.bind_some, i_10]
        rw [mk_2 o6 cl]
        unfold F_X12_mark_83
        simp only [o6, cl, if_true, if_false, Option.bind_some, show (nI 2 = 0) = False from eq_false (by decide), show (nI 2 = 1) = False from eq_false (by decide), show (nI 2 = 2) = True from eq_true rfl, show (nI 2 = 3) = False from eq_false (by decide), show (nI 2 = 4) = False from eq_false (by decide), show (nI 2 = 5) = False from eq_false (by decide)]
        refine ⟨_, _, rfl, rfl, by show w j + cd j = w' j + md j; rw [w1, n2], ?_⟩
        show (((((0 + k0) + k1) + (k2 + 100 + 1)) + k3) + k4) + k5 = ((((((0 + k0) + k1) + k2) + k3) + k4) + k5) + 101
        rw [show (101 : Int64) = 100 + 1 from rfl]
        ac_rfl
      · simp only [show (nI 3 = 0) = False from eq_false (by decide), show (nI 3 = 1) = False from eq_false (by decide), show (nI 3 = 2) = False from eq_false (by decide), show (nI 3 = 3) = True from eq_true rfl, show (nI 3 = 4) = False from eq_false (by decide), show (nI 3 = 5) = False from eq_false (by decide), if_true, if_false, Option.bind_some, i_10]
        rw [mk_3 o6 cl]
        unfold F_X12_mark_83
        simp only [o6, cl, if_true, if_false, Option.bind_some, show (nI 3 = 0) = False from eq_false (by decide), show (nI 3 = 1) = False from eq_false (by decide), show (nI 3 = 2) = False from eq_false (by decide), show (nI 3 = 3) = True from eq_true rfl, show (nI 3 = 4) = False from eq_false (by decide), show (nI 3 = 5) = False from eq_false (by decide)]
        refine ⟨_, _, rfl, rfl, by show (w j - cn j) * 2 = 2 * (w' j - mn j); rw [w1, n1, Int32.mul_comm], ?_⟩
        show (((((0 + k0) + k1) + k2) + (k3 + 1000 + 10 + 1)) + k4) + k5 = ((((((0 + k0) + k1) + k2) + k3) + k4) + k5) + 1011
        rw [show (1011 : Int64) = 1000 + 10 + 1 from rfl]
        ac_rfl
      · simp only [show (nI 4 = 0) = False from eq_false (by decide), show (nI 4 = 1) = False from eq_false (by decide), show (nI 4 = 2) = False from eq_false (by decide), show (nI 4 = 3) = False from eq_false (by decide), show (nI 4 = 4) = True from eq_true rfl, show (nI 4 = 5) = False from eq_false (by decide), if_true, if_false, Option.bind_some, i_10]
        rw [mk_4 o6 cl]
        unfold F_X12_mark_83
        simp only [o6, cl, if_true, if_false, Option.bind_some, show (nI 4 = 0) = False from eq_false (by decide), show (nI 4 = 1) = False from eq_false (by decide), show (nI 4 = 2) = False from eq_false (by decide), show (nI 4 = 3) = False from eq_false (by decide), show (nI 4 = 4) = True from eq_true rfl, show (nI 4 = 5) = False from eq_false (by decide)]
        refine ⟨_, _, rfl, rfl, by show w j + cd j + nI j = w' j + md j + nI j; rw [w1, n2], ?_⟩
        show (((((0 + k0) + k1) + k2) + k3) + (k4 + 10000 + 100 + 1)) + k5 = ((((((0 + k0) + k1) + k2) + k3) + k4) + k5) + 10101
        rw [show (10101 : Int64) = 10000 + 100 + 1 from rfl]
        ac_rfl
      · simp only [show (nI 5 = 0) = False from eq_false (by decide), show (nI 5 = 1) = False from eq_false (by decide), show (nI 5 = 2) = False from eq_false (by decide), show (nI 5 = 3) = False from eq_false (by decide), show (nI 5 = 4) = False from eq_false (by decide), show (nI 5 = 5) = True from eq_true rfl, if_true, if_false, Option.bind_some, i_10]
        rw [mk_5 o6 cl]
        unfold F_X12_mark_83
        simp only [o6, cl, if_true, if_false, Option.bind_some, show (nI 5 = 0) = False from eq_false (by decide), show (nI 5 = 1) = False from eq_false (by decide), show (nI 5 = 2) = False from eq_false (by decide), show (nI 5 = 3) = False from eq_false (by decide), show (nI 5 = 4) = False from eq_false (by decide), show (nI 5 = 5) = True from eq_true rfl]
        refine ⟨_, _, rfl, rfl, by show w j - lk j = w' j - lk' j; rw [w1, w2], ?_⟩
        show (((((0 + k0) + k1) + k2) + k3) + k4) + (k5 + 100000 + 1) = ((((((0 + k0) + k1) + k2) + k3) + k4) + k5) + 100001
        rw [show (100001 : Int64) = 100000 + 1 from rfl]
        ac_rfl
    · rw [if_neg h]
      simp only [Option.bind_some, i_10, if_true, if_false]
      exact ⟨_, _, rfl, rfl, rfl, rfl⟩
  · rw [if_neg p]
    simp only [Option.bind_some, if_true]
    by_cases z : x1 < 0
    · rw [if_pos z]
      exact ⟨_, _, rfl, rfl, rfl, rfl⟩
    · rw [if_neg z, if_pos ((le_of t6 rfl).mpr (by have := (not_congr (lt_of rfl t0)).mp z; omega))]
      exact ⟨_, _, rfl, rfl, rfl, rfl⟩
end CO5
