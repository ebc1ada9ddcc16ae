/-! own: end -/
theorem af_p {a d m : Nat} (h : m ≤ a + d) : nI a + nI d - nI m = nI (a + d - m) := by rw [nI_add, pk_sub h]
theorem af_n {a d m : Nat} (hm : m < 2 ^ 30) (h : a + d < m) : nI a + nI d - nI m < 0 ∧ -(nI a + nI d - nI m) = nI (m - (a + d)) := by
  rw [nI_add]
  refine ⟨pk_sneg hm h, ?_⟩
  rw [Int32.neg_sub, pk_sub (by omega)]
section CO4
variable {k T : Nat} {te da la sl sL many days law slip len : Int32} {cn cd cr cs mn md mr ms : Nat → Int32}
variable {lk st ss lk' st' ss' : Nat → Int32} {day left turn lot seen day' left' turn' lot' seen' : Int32}
/-- a day's end, terrace by terrace: both loops go alike -/
theorem e_endL {W Q : Nat} (hW : W < 2 ^ 20) (hQ : Q < 2 ^ 20) (hT : T ≤ 6) (hnd : ∀ t, t < T → cn t = mn t ∧ rg_ (mn t) 9 ∧ cd t = md t ∧ rg_ (md t) 3) :
    ∀ (n i : Nat) (wc lc wm lm : Nat → Int32) (y : Int32), i ≤ T → T - i < n → (∀ t, t < T → wc t = wm t ∧ lc t = lm t ∧ rg_ (wm t) (if t < i then W + 3 else W) ∧ rg_ (lm t) (if t < i then Q + 9 else Q)) →
    ∃ (wc2 lc2 wm2 lm2 : Nat → Int32) (y2 : Int32), F_X7_endDay_4 cn cd cr (nI T) da n wc lc day left y (nI i) = (F_X3_dropsOn cr da (day + (1 : Int32))).bind (fun u => some (y2, wc2, lc2, day + (1 : Int32), u)) ∧ F_X12_end_16 (nI T) mn md days mr n day' left' wm lm y (nI i) = (F_X12_dripOf days mr (day' + (1 : Int32))).bind (fun u => some (y2, day' + (1 : Int32), u, wm2, lm2)) ∧ ∀ t, t < T → wc2 t = wm2 t ∧ lc2 t = lm2 t ∧ rg_ (wm2 t) (W + 3) ∧ rg_ (lm2 t) (Q + 9) := by
  intro n
  induction n with
  | zero => intro i _ _ _ _ _ _ h; exact absurd h (by omega)
  | succ n ih =>
    intro i wc lc wm lm y hi hn hr
    rw [F_X7_endDay_4, F_X12_end_16]
    by_cases h : T ≤ i
    · have z := (nI_leI (a := T) (b := i) (by omega) (by omega)).mpr h
      rw [if_pos z, if_pos z]
      refine ⟨wc, lc, wm, lm, y, rfl, rfl, fun t ht => ?_⟩
      obtain ⟨r1, r2, r3, r4⟩ := hr t ht
      rw [if_pos (by omega)] at r3 r4
      exact ⟨r1, r2, r3, r4⟩
    · have z : ¬ nI T ≤ nI i := fun z => h ((nI_leI (by omega) (by omega)).mp z)
      have oi : ok_I (nI i) 6 = true := ok_T (by omega) (by omega)
      obtain ⟨r1, r2, r3, r4⟩ := hr i (by omega)
      rw [if_neg (by omega)] at r3 r4
      obtain ⟨a, ha, ea⟩ := r3
      obtain ⟨b, hb, eb⟩ := r4
      obtain ⟨n1, ⟨m, hm, em⟩, n2, ⟨d, hd, ed⟩⟩ := hnd i (by omega)
      rw [if_neg z, if_neg z, if_pos oi, if_pos oi, nI_clamp (n := i) (by omega), r1, r2, n1, n2, ea, eb, em, ed, show nI i + (1 : Int32) = nI (i + 1) from nI_1 i]
      -- what goes on behind terrace i
      have go : ∀ (v s : Nat), v ≤ W + 3 → s ≤ 9 → ∃ (wc2 lc2 wm2 lm2 : Nat → Int32) (y2 : Int32), F_X7_endDay_4 cn cd cr (nI T) da n (upd wc i (nI v)) (upd lc i (nI b + nI s)) day left (y + nI s) (nI (i + 1)) = (F_X3_dropsOn cr da (day + (1 : Int32))).bind (fun u => some (y2, wc2, lc2, day + (1 : Int32), u)) ∧ F_X12_end_16 (nI T) mn md days mr n day' left' (upd wm i (nI v)) (upd lm i (nI b + nI s)) (y + nI s) (nI (i + 1)) = (F_X12_dripOf days mr (day' + (1 : Int32))).bind (fun u => some (y2, day' + (1 : Int32), u, wm2, lm2)) ∧ ∀ t, t < T → wc2 t = wm2 t ∧ lc2 t = lm2 t ∧ rg_ (wm2 t) (W + 3) ∧ rg_ (lm2 t) (Q + 9) := by
        intro v s hv hs
        refine ih (i + 1) _ _ _ _ _ (by omega) (by omega) (fun t ht => ?_)
        by_cases e : t = i
        · subst e
          rw [pk_us, pk_us, pk_us, pk_us, if_pos (by omega), if_pos (by omega), nI_add]
          exact ⟨rfl, rfl, ⟨v, hv, rfl⟩, ⟨b + s, by omega, rfl⟩⟩
        · rw [pk_un e, pk_un e, pk_un e, pk_un e]
          obtain ⟨q1, q2, q3, q4⟩ := hr t ht
          refine ⟨q1, q2, q3.mono ?_, q4.mono ?_⟩
          · by_cases q : t < i
            · rw [if_pos q, if_pos (by omega)]; omega
            · rw [if_neg q]; by_cases q2 : t < i + 1
              · rw [if_pos q2]; omega
              · rw [if_neg q2]; omega
          · by_cases q : t < i
            · rw [if_pos q, if_pos (by omega)]; omega
            · rw [if_neg q]; by_cases q2 : t < i + 1
              · rw [if_pos q2]; omega
              · rw [if_neg q2]; omega
      unfold F_X12_end_55
      simp only [oi, if_true]
      rw [nI_clamp (n := i) (by omega), eb, show nI i + (1 : Int32) = nI (i + 1) from nI_1 i]
      by_cases c : m ≤ a + d
      · have c1 : ¬ (0 : Int32) < -nI (a + d - m) := by
          rw [lt_of rfl (show (-nI (a + d - m)).toInt = -((a + d - m : Nat) : Int) from sb_negT (by omega))]
          have : (0 : Int32).toInt = 0 := rfl
          omega
        have c2 : (if (0 : Int32) < nI (a + d - m) then nI (a + d - m) else 0) = nI (a + d - m) := by
          by_cases q : a + d - m = 0
          · rw [q]; rfl
          · rw [if_pos ((lt_of tl_0 (ti_nI (n := a + d - m) (by omega))).mpr (by omega))]
        rw [af_p c, if_pos (nI_pos' (by omega)), if_pos (nI_pos' (by omega)), if_neg c1, c2]
        exact go (a + d - m) 0 (by omega) (by omega)
      · obtain ⟨c1, c2⟩ := af_n (a := a) (d := d) (m := m) (by omega) (by omega)
        have c3 : ¬ (0 : Int32) ≤ nI a + nI d - nI m := Int32.not_le.mpr c1
        have c4 : ¬ (0 : Int32) < nI a + nI d - nI m := fun q => c3 (Int32.le_of_lt q)
        have c5 : (0 : Int32) < nI (m - (a + d)) := (lt_of tl_0 (ti_nI (by omega))).mpr (by omega)
        rw [if_neg c3, if_neg c3, if_neg c4, c2, if_pos c5]
        exact go 0 (m - (a + d)) (by omega) (by omega)
theorem CO_end {w w' : Nat → Int32} (hk : k < 600) (hH : IH_ T te da la sl sL cn cd cr cs many days law slip len mn md mr ms) (hN : IN_ k T w lk st ss day left turn lot seen w' lk' st' ss' day' left' turn' lot' seen') : ∃ (u1 : Int32 × (Nat → Int32) × (Nat → Int32) × Int32 × Int32) (u2 : Int32 × Int32 × Int32 × (Nat → Int32) × (Nat → Int32)), F_X11_end cn cd cr te da w lk day left = some u1 ∧ F_X12_end many mn md days mr day' left' w' lk' = some u2 ∧ u1.1 = u2.1 ∧ IN_ (k + 1) T u1.2.1 u1.2.2.1 st ss u1.2.2.2.1 u1.2.2.2.2 turn lot seen u2.2.2.2.1 u2.2.2.2.2 st' ss' u2.2.1 u2.2.2.1 turn' lot' seen' := by
  obtain ⟨hT, rfl, rfl, ⟨D, d1, rfl, rfl, hd⟩, -, -, -, hnd⟩ := hH
  have hM := hN.mono
  obtain ⟨⟨rfl, ⟨dy, hdy, rfl⟩⟩, a2, a3, a4, a5, a6⟩ := id hN
  unfold F_X11_end F_X12_end
  by_cases h99 : dy = 99
  · subst h99
    rw [if_neg (show ¬ nI 99 < 99 by decide), if_pos (show nI 99 = 99 from rfl)]
    exact ⟨_, _, rfl, rfl, rfl, hM⟩
  rw [if_pos ((lt_of (ti_nI (by omega)) tl_99).mpr (by omega)), if_neg (show ¬ nI dy = 99 from fun z => h99 ((nI_eq (b := 99) (by omega) (by omega)).mp z))]
  obtain ⟨wc2, lc2, wm2, lm2, y2, e1, e2, e3⟩ := e_endL (W := 30 + 33 * k) (Q := 9 * k) (cr := cr) (da := nI D) (mr := mr) (days := nI D) (day := nI dy) (day' := nI dy) (left := left) (left' := left') (by omega) (by omega) hT hnd FU_ 0 w lk w' lk' 0 (by omega) (by unfold FU_; omega) (fun t ht => by
    obtain ⟨⟨b1, b2⟩, b3, b4⟩ := a6 t ht
    rw [if_neg (by omega), if_neg (by omega)]
    exact ⟨b1, b3, b2, b4⟩)
  have e1 : F_X7_endDay cn cd cr (nI T) (nI D) w lk (nI dy) left = _ := e1
  have e2 : F_X12_end_16 (nI T) mn md (nI D) mr FU_ (nI dy) left' w' lk' 0 0 = _ := e2
  rw [show nI dy + (1 : Int32) = nI (dy + 1) from nI_1 dy] at e1 e2
  rw [e_drops d1 (by omega)] at e1
  rw [e_dripOf d1 (by omega)] at e2
  rw [e1, e2]
  refine ⟨_, _, rfl, rfl, rfl, ⟨rfl, dy + 1, by omega, rfl⟩, ?_, ⟨a3.1, a3.2.mono (by omega)⟩, a4, a5, fun t ht => ?_⟩
  · show (if dy + 1 < D then cr (dy + 1) else 0) = (if dy + 1 < D then mr (dy + 1) else 0) ∧ rg_ (if dy + 1 < D then mr (dy + 1) else 0) 30
    by_cases q : dy + 1 < D
    · rw [if_pos q, if_pos q]; exact hd _ q
    · rw [if_neg q, if_neg q]; exact ⟨rfl, 0, by omega, rfl⟩
  · obtain ⟨b1, b2, b3, b4⟩ := e3 t ht
    exact ⟨⟨b1, b3.mono (by omega)⟩, b2, b4.mono (by omega)⟩
end CO4
