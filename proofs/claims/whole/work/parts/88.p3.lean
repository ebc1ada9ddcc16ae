/-! own: the steps of the small methods -/
theorem e_sung {c : Nat → Int32} {L j : Nat} (h1 : 1 ≤ L) (h8 : L ≤ 8) (hj : j < 2 ^ 31) : F_X3_sung c (nI L) (nI j) = some (c (j % L)) := by
  have hm : j % L < L := Nat.mod_lt _ (by omega)
  unfold F_X3_sung
  rw [if_neg (nI_pos hj), if_neg (nI_nle (by omega) (by omega)), if_neg (nI_ne0 (by omega) (by omega)), pk_rem hj (by omega) (by omega), if_pos (ok_T (by omega) (by omega)), nI_clamp (by omega)]
theorem e_drops {c : Nat → Int32} {D j : Nat} (hD : D ≤ 20) (hj : j < 2 ^ 31) : F_X3_dropsOn c (nI D) (nI j) = some (if j < D then c j else 0) := by
  unfold F_X3_dropsOn
  rw [if_neg (nI_pos hj)]
  by_cases h : j < D
  · rw [if_neg (fun q => absurd ((nI_leI (by omega) hj).mp q) (by omega)), if_pos (ok_T (by omega) (by omega)), nI_clamp hj, if_pos h]
  · rw [if_pos ((nI_leI (by omega) hj).mpr (by omega)), if_neg h]
theorem e_dripOf {c : Nat → Int32} {D j : Nat} (hD : D ≤ 20) (hj : j < 2 ^ 31) : F_X12_dripOf (nI D) c (nI j) = some (if j < D then c j else 0) := by
  unfold F_X12_dripOf
  by_cases h : j < D
  · rw [if_neg (fun q => absurd ((nI_leI (by omega) hj).mp q) (by omega)), if_pos (ok_T (by omega) (by omega)), nI_clamp hj, if_pos h]
  · rw [if_pos ((nI_leI (by omega) hj).mpr (by omega)), if_neg h]
section CO1
variable {k T : Nat} {bytes text : Nat → Int32} {rlen size : Int32} {te da la sl sL many days law slip len : Int32} {cn cd cr cs mn md mr ms : Nat → Int32}
variable {w lk st ss w' lk' st' ss' : Nat → Int32} {day left turn lot seen day' left' turn' lot' seen' : Int32}
theorem CO_clear (hk : k < 600) (hR : IR_ bytes rlen text size) : ∃ (u1 : Int32 × Int32) (u2 : Int32 × Int32), F_X11_clear rlen = some u1 ∧ F_X12_clear size = some u2 ∧ u1.1 = u2.1 ∧ IR_ bytes u1.2 text u2.2 := by
  obtain ⟨n, hn, rfl, rfl, h⟩ := hR
  exact ⟨(nI n, 0), (nI n, 0), rfl, rfl, rfl, 0, by omega, rfl, rfl, fun j hj => absurd hj (by omega)⟩
theorem CO_lot (hk : k < 600) (hN : IN_ k T w lk st ss day left turn lot seen w' lk' st' ss' day' left' turn' lot' seen') (x1 : Int32) : ∃ (u1 : Int32 × Int32) (u2 : Int32 × Int32), F_X11_lot lot x1 = some u1 ∧ F_X12_lot lot' x1 = some u2 ∧ u1.1 = u2.1 ∧ IN_ (k + 1) T w lk st ss day left turn u1.2 seen w' lk' st' ss' day' left' turn' u2.2 seen' := by
  have h := hN.mono
  obtain ⟨a1, a2, a3, a4, a5, a6⟩ := h
  exact ⟨(lot, x1), (lot', x1), rfl, rfl, a4, a1, a2, a3, rfl, a5, a6⟩
theorem CO_forget (hk : k < 600) (hN : IN_ k T w lk st ss day left turn lot seen w' lk' st' ss' day' left' turn' lot' seen') : ∃ (u1 : Int32 × Int32) (u2 : Int32 × Int32), F_X11_forget seen = some u1 ∧ F_X12_forget seen' = some u2 ∧ u1.1 = u2.1 ∧ IN_ (k + 1) T w lk st ss day left turn lot u1.2 w' lk' st' ss' day' left' turn' lot' u2.2 := by
  have h := hN.mono
  obtain ⟨a1, a2, a3, a4, ⟨S, s1, s2, s3, -⟩, a6⟩ := h
  exact ⟨(seen, 0), (seen', 0), rfl, rfl, by rw [s2, s3], a1, a2, a3, a4, ⟨0, by omega, rfl, rfl, fun j hj => absurd hj (by omega)⟩, a6⟩
theorem CO_count (hk : k < 600) (hR : IR_ bytes rlen text size) (hH : IH_ T te da la sl sL cn cd cr cs many days law slip len mn md mr ms) (hN : IN_ k T w lk st ss day left turn lot seen w' lk' st' ss' day' left' turn' lot' seen') (x1 : Int32) : ∃ (u1 u2 : Int32), F_X11_count rlen te da la sl seen x1 = some u1 ∧ F_X12_count size many days law slip seen' x1 = some u2 ∧ u1 = u2 := by
  obtain ⟨n, -, rfl, rfl, -⟩ := hR
  obtain ⟨-, rfl, rfl, ⟨D, -, rfl, rfl, -⟩, ⟨rfl, -⟩, ⟨rfl, -⟩, -, -⟩ := hH
  obtain ⟨-, -, -, -, ⟨S, -, rfl, rfl, -⟩, -⟩ := hN
  have e : F_X11_count (nI n) (nI T) (nI D) la sl (nI S) x1 = F_X12_count (nI n) (nI T) (nI D) la sl (nI S) x1 := rfl
  have : ∃ u, F_X12_count (nI n) (nI T) (nI D) la sl (nI S) x1 = some u := by
    unfold F_X12_count
    repeat first | exact ⟨_, rfl⟩ | split
  obtain ⟨u, hu⟩ := this
  exact ⟨u, u, e.trans hu, hu, rfl⟩
theorem CO_song (hk : k < 600) (hH : IH_ T te da la sl sL cn cd cr cs many days law slip len mn md mr ms) (x1 : Int32) : ∃ (u1 u2 : Int32), F_X11_song cs sL x1 = some u1 ∧ F_X12_song len ms x1 = some u2 ∧ u1 = u2 := by
  obtain ⟨-, -, -, -, -, -, ⟨L, l1, l8, rfl, rfl, hs⟩, -⟩ := hH
  unfold F_X11_song F_X12_song
  by_cases h0 : 0 ≤ x1
  · rw [if_pos h0, if_pos h0]
    by_cases h1 : nI L ≤ x1
    · rw [if_pos h1, if_pos h1]
      exact ⟨_, _, rfl, rfl, rfl⟩
    · rw [if_neg h1, if_neg h1]
      obtain ⟨j, hj, rfl⟩ : ∃ j : Nat, j < L ∧ x1 = nI j := by
        rcases pk_ix x1 (n := L) (by omega) with q | q | q
        · exact absurd h0 (Int32.not_le.mpr q)
        · exact absurd q h1
        · exact q
      rw [e_sung l1 l8 (by omega), if_pos (ok_T (by omega) (by omega)), nI_clamp (by omega), Nat.mod_eq_of_lt hj]
      exact ⟨_, _, rfl, rfl, (hs j hj).1⟩
  · rw [if_neg h0, if_neg h0]
    exact ⟨_, _, rfl, rfl, rfl⟩
theorem CO_drip (hk : k < 600) (hH : IH_ T te da la sl sL cn cd cr cs many days law slip len mn md mr ms) (x1 : Int32) : ∃ (u1 u2 : Int32), F_X11_drip cr da x1 = some u1 ∧ F_X12_drip days mr x1 = some u2 ∧ u1 = u2 := by
  obtain ⟨-, -, -, ⟨D, d1, rfl, rfl, hd⟩, -, -, -, -⟩ := hH
  unfold F_X11_drip F_X12_drip
  rw [e_in]
  have c1 : (0 : Int64).toInt = 0 := rfl
  have c2 : (99 : Int64).toInt = 99 := rfl
  rw [c1, c2]
  by_cases h : 0 ≤ x1.toInt ∧ x1.toInt ≤ 99
  · obtain ⟨j, hj, rfl⟩ := ix_nI (x := x1) (T := 100) (by omega) (by omega)
    have q99 : nI j ≤ 99 := (nI_leI (a := j) (b := 99) (by omega) (by omega)).mpr (by omega)
    rw [if_pos h, if_neg (nI_pos (by omega)), if_pos q99, e_drops d1 (by omega), e_dripOf d1 (by omega)]
    refine ⟨_, _, rfl, rfl, ?_⟩
    by_cases q : j < D
    · rw [if_pos q, if_pos q]; exact (hd j q).1
    · rw [if_neg q, if_neg q]
  · rw [if_neg h]
    by_cases q : x1 < 0
    · rw [if_pos q]; exact ⟨_, _, rfl, rfl, rfl⟩
    · rw [if_neg q, if_neg (fun z => h ⟨by have := Int32.not_lt.mp q; exact Int32.le_iff_toInt_le.mp this, Int32.le_iff_toInt_le.mp z⟩)]
      exact ⟨_, _, rfl, rfl, rfl⟩
theorem CO_terrace (hk : k < 600) (hH : IH_ T te da la sl sL cn cd cr cs many days law slip len mn md mr ms) (hN : IN_ k T w lk st ss day left turn lot seen w' lk' st' ss' day' left' turn' lot' seen') (x1 x2 : Int32) : ∃ (u1 u2 : Int32), F_X11_terrace cn cd te w lk x1 x2 = some u1 ∧ F_X12_terrace many mn md w' lk' x1 x2 = some u2 ∧ u1 = u2 := by
  obtain ⟨hT, rfl, rfl, -, -, -, -, hnd⟩ := hH
  obtain ⟨-, -, -, -, -, hw⟩ := hN
  unfold F_X11_terrace F_X12_terrace
  rw [e_has hT, e_isT hT, e_in]
  by_cases h : 0 ≤ x1.toInt ∧ x1.toInt < T
  · obtain ⟨j, hj, rfl⟩ := ix_nI h (by omega)
    obtain ⟨n1, -, n2, -⟩ := hnd j hj
    obtain ⟨⟨w1, -⟩, w2, -⟩ := hw j hj
    have o6 : ok_I (nI j) 6 = true := ok_T (by omega) (by omega)
    have cl : (nI j).toNatClampNeg = j := nI_clamp (by omega)
    have c1 : (0 : Int64).toInt = 0 := rfl
    have c2 : (3 : Int64).toInt = 3 := rfl
    rw [if_pos h, c1, c2]
    simp only [o6, cl, w1, n1, n2, w2, Option.bind_some, if_true]
    by_cases q0 : x2 = 0
    · subst q0; exact ⟨_, _, rfl, rfl, rfl⟩
    by_cases q1 : x2 = 1
    · subst q1; exact ⟨_, _, rfl, rfl, rfl⟩
    by_cases q2 : x2 = 2
    · subst q2; exact ⟨_, _, rfl, rfl, rfl⟩
    by_cases q3 : x2 = 3
    · subst q3; exact ⟨_, _, rfl, rfl, rfl⟩
    · rw [if_neg (show ¬ (0 ≤ x2.toInt ∧ x2.toInt ≤ 3) from fun z => by have z0 := lv_neT q0 (a := 0) rfl; have z1 := lv_neT q1 (a := 1) rfl; have z2 := lv_neT q2 (a := 2) rfl; have z3 := lv_neT q3 (a := 3) rfl; omega)]
      simp [q0, q1, q2, q3]
  · rw [if_neg h]
    exact ⟨_, _, rfl, rfl, rfl⟩
end CO1
