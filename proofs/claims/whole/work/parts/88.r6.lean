/-! own: today: both -/
section TD6
variable {k T : Nat} {te da la sl sL many days law slip len : Int32} {cn cd cr cs mn md mr ms : Nat → Int32}
variable {w lk st ss w' lk' st' ss' : Nat → Int32} {day left turn lot seen day' left' turn' lot' seen' : Int32}
theorem CO_today (hk : k < 600) (hH : IH_ T te da la sl sL cn cd cr cs many days law slip len mn md mr ms) (hN : IN_ k T w lk st ss day left turn lot seen w' lk' st' ss' day' left' turn' lot' seen') (x1 : Int32) (fw fg fd fs : Nat → Int32) (ft : Int32) (gets best : Nat → Int32) : ∃ (u1 : Int32 × (Nat → Int32) × (Nat → Int32) × (Nat → Int32) × (Nat → Int32) × Int32) (u2 : Int32 × (Nat → Int32) × (Nat → Int32)), F_X11_today cn cd cr te da w day left fw fg fd fs ft x1 = some u1 ∧ F_X12_today many mn md left' w' gets best x1 = some u2 ∧ u1.1 = u2.1 := by
  obtain ⟨hT, rfl, rfl, ⟨D, hD, rfl, rfl, hr⟩, -, -, -, hnd⟩ := hH
  obtain ⟨⟨rfl, dy, hdy, rfl⟩, ⟨rfl, L, hL, rfl⟩, -, -, -, a6⟩ := hN
  have im : (-1 : Int64).toInt = -1 := rfl
  have tm : (-1 : Int32).toInt = -1 := rfl
  have eT : ((nI T - 1).toInt64).toInt = (T : Int) - 1 := by
    rw [Int32.toInt_toInt64]
    exact pk_sub_toInt (a := T) (b := 1) (by omega) (by omega)
  have main : -1 ≤ x1.toInt ∧ x1.toInt ≤ (T : Int) - 1 → ∃ (u1 : Int32 × (Nat → Int32) × (Nat → Int32) × (Nat → Int32) × (Nat → Int32) × Int32) (u2 : Int32 × (Nat → Int32) × (Nat → Int32)), F_X11_today_18 cn cd cr (nI T) (nI D) w (nI dy) (nI L) fw fg fd fs ft x1 = some u1 ∧ (if nI L ≤ (12 : Int32) then (if nI T = 0 then (some ((-9 : Int32), gets, best)) else (F_X12_today_44 (nI T) mn md (nI L) w' FU_ gets best x1 (0 : Int32))) else (some ((-2 : Int32), gets, best))) = some u2 ∧ u1.1 = u2.1 := by
    intro hx
    unfold F_X11_today_18
    by_cases q1 : nI L ≤ (12 : Int32)
    case neg =>
      rw [if_neg q1, if_neg q1]
      exact ⟨_, _, rfl, rfl, rfl⟩
    have hL2 := (le_of (ti_nI (n := L) (by omega)) tl_12).mp q1
    rw [if_pos q1, if_pos q1]
    by_cases q2 : T = 0
    · subst q2
      rw [if_neg (show ¬ (1 : Int32) ≤ nI 0 by decide), if_pos (show nI 0 = 0 from rfl)]
      exact ⟨_, _, rfl, rfl, rfl⟩
    rw [if_pos ((le_of tl_1 (ti_nI (n := T) (by omega))).mpr (by omega)), if_neg (nI_ne0 (n := T) (by omega) (by omega))]
    obtain ⟨fw2, fg2, fd2, e1, e2, e3, e4⟩ := e_from (cn := cn) (cd := cd) (cr := cr) (w := w) (left := nI L) hT hD hdy fw fg fd ft
    obtain ⟨W, E, g1, g2, g3, g4⟩ := e_fore (lk := lk) (lk' := lk') hk hT hnd a6 e2
    have rc : rc_ T (fun t => W t - E t) fw2 fg2 := fun t ht => by
      have h1 := g1 t ht
      have h3 := g3 t ht
      exact ⟨W t, -(E t), g4 t ht, h1.1, by show W t - E t = W t + -(E t); omega, h3.2.1, h3.2.2, by omega, by omega⟩
    have rr : rr_ T (fun t => W t - E t) mn md w' := fun t ht => by
      obtain ⟨a, d, h1, h2, h3, h4, h5⟩ := g2 t ht
      have h6 := g3 t ht
      exact ⟨W t, a, d, h6.1, by rw [h3, ti_nI (by omega)], by rw [h4, ti_nI (by omega)], by show W t - E t = W t + d - a; omega, h6.2.1, h6.2.2, by omega, by omega, by omega, by omega⟩
    obtain ⟨l, s2, xs, o, b1, b2, b3⟩ := e_share (L := L) hT (by omega) rc (by omega) e3 fs
    obtain ⟨l', g5, b5, c1, c2, c3⟩ := e_refToday (L := L) hT (by omega) (by omega) rr b2 x1 gets best
    have el : l = l' := Int32.toInt_inj.mp c2.symm
    rw [e1, c1]
    simp only [Option.bind_some]
    rw [b1]
    simp only [Option.bind_some]
    unfold fi_
    by_cases q3 : x1 = -1
    · subst q3
      rw [if_pos rfl, if_neg (show ¬ (0 : Int32) ≤ -1 by decide)]
      exact ⟨_, _, rfl, rfl, el⟩
    · have x0 : 0 ≤ x1.toInt ∧ x1.toInt < T := by
        have : x1.toInt ≠ -1 := fun e => q3 (Int32.toInt_inj.mp (by rw [e, tm]))
        omega
      obtain ⟨t, ht, rfl⟩ := ix_nI (x := x1) (T := T) x0 (by omega)
      rw [if_neg q3, if_pos ((le_of tl_0 rfl).mpr x0.1), if_pos (ok_T (i := t) (by omega) (by omega)), if_pos (ok_T (i := t) (by omega) (by omega)), nI_clamp (n := t) (by omega)]
      exact ⟨_, _, rfl, rfl, Int32.toInt_inj.mp (by show (s2 t).toInt = (b5 t).toInt; rw [b3 t ht, c3 t ht])⟩
  unfold F_X11_today F_X12_today
  rw [e_in, e_has hT, im, eT]
  simp only [Option.bind_some]
  by_cases q0 : x1 = -1
  · have hx : -1 ≤ x1.toInt ∧ x1.toInt ≤ (T : Int) - 1 := by rw [q0, tm]; omega
    rw [if_pos q0, if_pos hx, if_neg (show ¬ (1 : Int32) = 0 by decide)]
    exact main hx
  · rw [if_neg q0]
    have : x1.toInt ≠ -1 := fun e => q0 (Int32.toInt_inj.mp (by rw [e, tm]))
    by_cases q : 0 ≤ x1.toInt ∧ x1.toInt < T
    · have hx : -1 ≤ x1.toInt ∧ x1.toInt ≤ (T : Int) - 1 := by omega
      rw [if_pos q, if_pos hx, if_neg (show ¬ (1 : Int32) = 0 by decide)]
      exact main hx
    · rw [if_neg q, if_pos rfl, if_neg (c := -1 ≤ x1.toInt ∧ x1.toInt ≤ (T : Int) - 1) (by omega), if_pos rfl]
      exact ⟨_, _, rfl, rfl, rfl⟩
end TD6
