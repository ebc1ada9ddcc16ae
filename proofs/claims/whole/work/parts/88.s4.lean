/-! own: hill: law, slip, terrace, drip -/
section HL4
variable {N p : Nat} {ch : Nat → Nat} {bytes text : Nat → Int32} {pl st tk v at' kd : Int32} {v' : Int64}
theorem sy_st (hs : SY_ N bytes text p pl st tk v at' kd v') : ∃ s, s ≤ N ∧ st = nI s := by
  obtain ⟨⟨s, e, -, h2, -, -, -, h, -⟩, -⟩ := hs
  exact ⟨s, h2, h⟩
theorem lI_i {a : Nat} (h : a < 2 ^ 31) : (lI a).toInt32 = nI a := by rw [← lI_nI h, Int32.toInt32_toInt64]
theorem z_1 : ok_Z (1 : Int32) = true := by decide
theorem z_0 : ok_Z (0 : Int32) = true := by decide
theorem m1_lt : (-1 : Int32) < 0 := by decide
theorem nm1_le : ¬ (0 : Int32) ≤ -1 := by decide
theorem nI_nlt0 {a : Nat} (h : a < 2 ^ 31) : ¬ nI a < 0 := fun y => absurd ((lt_of (ti_nI h) tl_0).mp y) (by omega)
theorem nI_ge0 {a : Nat} (h : a < 2 ^ 31) : (0 : Int32) ≤ nI a := (le_of tl_0 (ti_nI h)).mpr (by omega)
theorem n10 : ¬ (1 : Int32) = 0 := by decide
theorem k_law (hx : TX_ N ch bytes text) (hs : SY_ N bytes text p pl st tk v at' kd v') (h0 : ¬ tk = 0) (h3 : ¬ tk = 4) {lt dl rl : Int32} (hl : (lt = 0 ∧ dl = 0 ∧ rl = -1) ∨ (lt = 1 ∧ dl = rl ∧ rg_ rl 2)) : (∃ (a e : Nat) (pl2 st2 tk2 v2 at2 kd2 b3 k3 : Int32) (v3 w3 : Int64), p < e ∧ e ≤ N ∧ a ≤ 2 ∧ F_X9_readLaw bytes (nI N) pl st tk v lt dl = some (1, pl2, st2, tk2, v2, 1, nI a) ∧ SY_ N bytes text e pl2 st2 tk2 v2 at2 kd2 v3 ∧ F_X12_takesLaw text (nI N) at' st kd v' rl = some (1, nI e, b3, k3, w3, nI a)) ∨ (∃ (s : Nat) (pl2 tk2 v2 lt2 dl2 at3 k3 rl2 : Int32) (w3 : Int64), s ≤ N ∧ F_X9_readLaw bytes (nI N) pl st tk v lt dl = some (0, pl2, nI s, tk2, v2, lt2, dl2) ∧ F_X12_takesLaw text (nI N) at' st kd v' rl = some (0, at3, nI s, k3, w3, rl2)) := by
  have hN := hx.1
  obtain ⟨s, hs2, es⟩ := sy_st hs
  unfold F_X9_readLaw F_X12_takesLaw
  rcases hl with ⟨rfl, rfl, rfl⟩ | ⟨rfl, rfl, a, ha, rfl⟩
  case inr =>
    rw [if_neg n10, if_pos (nI_ge0 (by omega)), es]
    exact Or.inr ⟨s, _, _, _, _, _, _, _, _, _, hs2, rfl, rfl⟩
  obtain ⟨e, pl2, st2, tk2, v2, at2, kd2, v3, h4, h5, ea, a1, a2⟩ := k_adv hx hs h0 h3
  obtain ⟨s2, hs3, es2⟩ := sy_st a2
  rw [if_pos rfl, a1, if_neg nm1_le, ea]
  simp only [Option.bind_some]
  rcases k_take hx a2 tl_0 tl_2 (by omega) (by omega) with ⟨a, e3, pl3, st3, tk3, v4, at4, kd4, v5, b1, b2, b3, b4, b5, b6, b7, -⟩ | ⟨b5, b7, -⟩
  · obtain ⟨s3, hs4, es3⟩ := sy_st b6
    rw [b5, b7]
    simp only [Option.bind_some]
    rw [if_neg (nI_nlt0 (by omega)), if_neg n10, lI_i (by omega)]
    rcases k_stop hx b6 with ⟨e4, pl5, st5, tk5, v6, at6, kd6, v7, c1, c2, c3, c4, c5, -⟩ | ⟨c3, c5, -⟩
    · rw [c3, c5]
      simp only [Option.bind_some]
      rw [if_neg n10, if_pos z_1]
      exact Or.inl ⟨a, e4, pl5, st5, tk5, v6, at6, kd6, _, _, v7, _, by omega, c2, by omega, rfl, c4, rfl⟩
    · rw [c3, c5]
      simp only [Option.bind_some, if_true]
      rw [if_pos z_0, es3]
      exact Or.inr ⟨s3, _, _, _, _, _, _, _, _, _, hs4, rfl, rfl⟩
  · rw [b5, b7]
    simp only [Option.bind_some, if_true]
    rw [if_pos m1_lt, es2]
    exact Or.inr ⟨s2, _, _, _, _, _, _, _, _, _, hs3, rfl, rfl⟩
theorem k_slip (hx : TX_ N ch bytes text) (hs : SY_ N bytes text p pl st tk v at' kd v') (h0 : ¬ tk = 0) (h3 : ¬ tk = 4) {lt dl rl : Int32} (hl : (lt = 0 ∧ dl = 0 ∧ rl = -1) ∨ (lt = 1 ∧ dl = rl ∧ rg_ rl 9)) : (∃ (a e : Nat) (pl2 st2 tk2 v2 at2 kd2 b3 k3 : Int32) (v3 w3 : Int64), p < e ∧ e ≤ N ∧ a ≤ 9 ∧ F_X9_readSlip bytes (nI N) pl st tk v lt dl = some (1, pl2, st2, tk2, v2, 1, nI a) ∧ SY_ N bytes text e pl2 st2 tk2 v2 at2 kd2 v3 ∧ F_X12_takesSlip text (nI N) at' st kd v' rl = some (1, nI e, b3, k3, w3, nI a)) ∨ (∃ (s : Nat) (pl2 tk2 v2 lt2 dl2 at3 k3 rl2 : Int32) (w3 : Int64), s ≤ N ∧ F_X9_readSlip bytes (nI N) pl st tk v lt dl = some (0, pl2, nI s, tk2, v2, lt2, dl2) ∧ F_X12_takesSlip text (nI N) at' st kd v' rl = some (0, at3, nI s, k3, w3, rl2)) := by
  have hN := hx.1
  obtain ⟨s, hs2, es⟩ := sy_st hs
  unfold F_X9_readSlip F_X12_takesSlip
  rcases hl with ⟨rfl, rfl, rfl⟩ | ⟨rfl, rfl, a, ha, rfl⟩
  case inr =>
    rw [if_neg n10, if_pos (nI_ge0 (by omega)), es]
    exact Or.inr ⟨s, _, _, _, _, _, _, _, _, _, hs2, rfl, rfl⟩
  obtain ⟨e, pl2, st2, tk2, v2, at2, kd2, v3, h4, h5, ea, a1, a2⟩ := k_adv hx hs h0 h3
  obtain ⟨s2, hs3, es2⟩ := sy_st a2
  rw [if_pos rfl, a1, if_neg nm1_le, ea]
  simp only [Option.bind_some]
  rcases k_take hx a2 tl_0 tl_9 (by omega) (by omega) with ⟨a, e3, pl3, st3, tk3, v4, at4, kd4, v5, b1, b2, b3, b4, b5, b6, b7, -⟩ | ⟨b5, b7, -⟩
  · obtain ⟨s3, hs4, es3⟩ := sy_st b6
    rw [b5, b7]
    simp only [Option.bind_some]
    rw [if_neg (nI_nlt0 (by omega)), if_neg n10, lI_i (by omega)]
    rcases k_stop hx b6 with ⟨e4, pl5, st5, tk5, v6, at6, kd6, v7, c1, c2, c3, c4, c5, -⟩ | ⟨c3, c5, -⟩
    · rw [c3, c5]
      simp only [Option.bind_some]
      rw [if_neg n10, if_pos z_1]
      exact Or.inl ⟨a, e4, pl5, st5, tk5, v6, at6, kd6, _, _, v7, _, by omega, c2, by omega, rfl, c4, rfl⟩
    · rw [c3, c5]
      simp only [Option.bind_some, if_true]
      rw [if_pos z_0, es3]
      exact Or.inr ⟨s3, _, _, _, _, _, _, _, _, _, hs4, rfl, rfl⟩
  · rw [b5, b7]
    simp only [Option.bind_some, if_true]
    rw [if_pos m1_lt, es2]
    exact Or.inr ⟨s2, _, _, _, _, _, _, _, _, _, hs3, rfl, rfl⟩
theorem k_terrace (hx : TX_ N ch bytes text) (hs : SY_ N bytes text p pl st tk v at' kd v') (h0 : ¬ tk = 0) (h3 : ¬ tk = 4) {M : Nat} (hM : M ≤ 6) (dw dn dd rt : Nat → Int32) : (∃ (a b c e : Nat) (pl2 st2 tk2 v2 at2 kd2 b3 k3 : Int32) (v3 w3 : Int64), p < e ∧ e ≤ N ∧ a ≤ 30 ∧ b ≤ 9 ∧ c ≤ 3 ∧ M < 6 ∧ F_X9_readTerrace bytes (nI N) pl st tk v dw dn dd (nI M) = some (1, pl2, st2, tk2, v2, upd dw M (nI a), upd dn M (nI b), upd dd M (nI c), nI (M + 1)) ∧ SY_ N bytes text e pl2 st2 tk2 v2 at2 kd2 v3 ∧ F_X12_takesTerrace text (nI N) at' st kd v' (nI M) rt = some (1, nI e, b3, k3, w3, nI (M + 1), upd (upd (upd rt (3 * M) (nI a)) (3 * M + 1) (nI b)) (3 * M + 2) (nI c))) ∨ (∃ (s : Nat) (pl2 tk2 v2 at3 k3 : Int32) (w3 : Int64) (U : (Nat → Int32) × (Nat → Int32) × (Nat → Int32) × Int32) (U' : Int32 × (Nat → Int32)), s ≤ N ∧ F_X9_readTerrace bytes (nI N) pl st tk v dw dn dd (nI M) = some (0, pl2, nI s, tk2, v2, U) ∧ F_X12_takesTerrace text (nI N) at' st kd v' (nI M) rt = some (0, at3, nI s, k3, w3, U')) := by
  have hN := hx.1
  obtain ⟨s, hs2, es⟩ := sy_st hs
  unfold F_X9_readTerrace F_X12_takesTerrace
  by_cases q : M = 6
  · subst q
    rw [if_neg (show ¬ nI 6 < 6 by decide), if_pos (show nI 6 = 6 from rfl), es]
    exact Or.inr ⟨s, _, _, _, _, _, _, _, _, hs2, rfl, rfl⟩
  have e1 : (3 : Int32) * nI M = nI (3 * M) := pk_mul 3 M
  have e2 : nI (3 * M) + (1 : Int32) = nI (3 * M + 1) := nI_1 (3 * M)
  have e3 : nI (3 * M) + (2 : Int32) = nI (3 * M + 2) := nI_add (3 * M) 2
  have q6 : ¬ nI M = 6 := fun y => absurd ((nI_eq (a := M) (b := 6) (by omega) (by omega)).mp y) q
  obtain ⟨e, pl2, st2, tk2, v2, at2, kd2, v3, h4, h5, ea, a1, a2⟩ := k_adv hx hs h0 h3
  obtain ⟨s2, hs3, es2⟩ := sy_st a2
  rw [if_pos ((lt_of (ti_nI (n := M) (by omega)) tl_6).mpr (by omega)), if_neg q6, a1, ea, e1, e2, e3]
  simp only [Option.bind_some]
  rcases k_take hx a2 tl_0 tl_30 (by omega) (by omega) with ⟨a, e4, pl3, st3, tk3, v4, at4, kd4, v5, b1, b2, b3, b4, b5, b6, b7, -⟩ | ⟨b5, b7, -⟩
  case inr =>
    rw [b5, b7]
    simp only [Option.bind_some, if_true]
    rw [if_neg nm1_le, es2]
    exact Or.inr ⟨s2, _, _, _, _, _, _, _, _, hs3, rfl, rfl⟩
  obtain ⟨s3, hs4, es3⟩ := sy_st b6
  rw [b5, b7]
  simp only [Option.bind_some]
  rw [if_pos (nI_ge0 (by omega)), if_neg n10, if_pos (ok_T (i := 3 * M) (by omega) (by omega)), lI_i (by omega), nI_clamp (n := 3 * M) (by omega)]
  rcases k_take hx b6 tl_0 tl_9 (by omega) (by omega) with ⟨b, e5, pl4, st4, tk4, v6, at5, kd5, v7, c1, c2, c3, c4, c5, c6, c7, -⟩ | ⟨c5, c7, -⟩
  case inr =>
    rw [c5, c7]
    simp only [Option.bind_some, if_true]
    rw [if_neg nm1_le, es3]
    exact Or.inr ⟨s3, _, _, _, _, _, _, _, _, hs4, rfl, rfl⟩
  obtain ⟨s4, hs5, es4⟩ := sy_st c6
  rw [c5, c7]
  simp only [Option.bind_some]
  rw [if_pos (nI_ge0 (by omega)), if_neg n10, if_pos (ok_T (i := 3 * M + 1) (by omega) (by omega)), lI_i (by omega), nI_clamp (n := 3 * M + 1) (by omega)]
  rcases k_take hx c6 tl_0 tl_3 (by omega) (by omega) with ⟨c, e6, pl5, st5, tk5, v8, at6, kd6, v9, d1, d2, d3, d4, d5, d6, d7, -⟩ | ⟨d5, d7, -⟩
  case inr =>
    rw [d5, d7]
    simp only [Option.bind_some, if_true]
    rw [if_neg nm1_le, es4]
    exact Or.inr ⟨s4, _, _, _, _, _, _, _, _, hs5, rfl, rfl⟩
  obtain ⟨s5, hs6, es5⟩ := sy_st d6
  rw [d5, d7]
  simp only [Option.bind_some]
  rw [if_pos (nI_ge0 (by omega)), if_neg n10, if_pos (ok_T (i := 3 * M + 2) (by omega) (by omega)), lI_i (by omega), nI_clamp (n := 3 * M + 2) (by omega), show nI M + (1 : Int32) = nI (M + 1) from nI_1 M]
  unfold F_X3_addTerrace
  rw [if_neg (fun y => absurd ((le_of tl_6 (ti_nI (n := M) (by omega))).mp y) (by omega)), if_pos (ok_T (by omega) (by omega)), nI_clamp (n := M) (by omega), show nI M + (1 : Int32) = nI (M + 1) from nI_1 M]
  simp only [Option.bind_some]
  rcases k_stop hx d6 with ⟨e7, pl6, st6, tk6, v10, at7, kd7, v11, f1, f2, f3, f4, f5, -⟩ | ⟨f3, f5, -⟩
  · rw [f3, f5]
    simp only [Option.bind_some]
    rw [if_pos z_1, if_pos z_1]
    exact Or.inl ⟨a, b, c, e7, pl6, st6, tk6, v10, at7, kd7, _, _, v11, _, by omega, f2, by omega, by omega, by omega, by omega, rfl, f4, rfl⟩
  · rw [f3, f5]
    simp only [Option.bind_some]
    rw [if_pos z_0, if_pos z_0, es5]
    exact Or.inr ⟨s5, _, _, _, _, _, _, _, _, hs6, rfl, rfl⟩
theorem k_days {D c q : Nat} (h : D + c ≤ 20) : ∀ (n j : Nat) (f : Nat → Int32), j ≤ c → c - j < n → ∃ g, F_X3_addDays_2 n f (nI (D + j)) (nI q) (nI c) (nI j) = some (g, nI (D + c)) ∧ (∀ i, i < D + j → g i = f i) ∧ ∀ i, D + j ≤ i → i < D + c → g i = nI q := by
  intro n
  induction n with
  | zero => intro j _ _ h; exact absurd h (by omega)
  | succ n ih =>
    intro j f hj hn
    rw [F_X3_addDays_2]
    by_cases e : c ≤ j
    · have ej : j = c := by omega
      subst ej
      rw [if_pos ((nI_leI (by omega) (by omega)).mpr e)]
      exact ⟨f, rfl, fun i _ => rfl, fun i h1 h2 => absurd h1 (by omega)⟩
    · rw [if_neg (fun y => e ((nI_leI (by omega) (by omega)).mp y)), if_neg (fun y => absurd ((le_of tl_20 (ti_nI (n := D + j) (by omega))).mp y) (by omega)), if_pos (ok_T (by omega) (by omega)), nI_clamp (n := D + j) (by omega), show nI (D + j) + (1 : Int32) = nI (D + (j + 1)) from nI_1 (D + j), show nI j + (1 : Int32) = nI (j + 1) from nI_1 j]
      obtain ⟨g, g1, g2, g3⟩ := ih (j + 1) (upd f (D + j) (nI q)) (by omega) (by omega)
      refine ⟨g, g1, fun i hi => ?_, fun i h1 h2 => ?_⟩
      · rw [g2 i (by omega), pk_un (by omega)]
      · by_cases e2 : i = D + j
        · subst e2
          rw [g2 _ (by omega), pk_us]
        · exact g3 i (by omega) h2
theorem k_days' {D c : Nat} {y1 a b k : Int32} (h : D + c ≤ 20) : ∀ (n j : Nat) (f : Nat → Int32), j ≤ c → c - j < n → ∃ g, F_X12_takesDrip_37 text (nI N) n a b k (lI c) (nI (D + j)) f y1 (nI j) = (F_X12_stops text (nI N) a b k (lI c)).bind (fun u2 => if ok_Z u2.1 = true then some (u2.1, u2.2.1, u2.2.2.1, u2.2.2.2.1, u2.2.2.2.2, nI (D + c), g) else none) ∧ (∀ i, i < D + j → g i = f i) ∧ ∀ i, D + j ≤ i → i < D + c → g i = y1 := by
  intro n
  induction n with
  | zero => intro j _ _ h; exact absurd h (by omega)
  | succ n ih =>
    intro j f hj hn
    rw [F_X12_takesDrip_37]
    have t1 : (nI j).toInt64.toInt = j := by rw [Int32.toInt_toInt64, ti_nI (by omega)]
    have t2 : (lI c).toInt = c := lI_t (by omega) (by omega)
    have cmp : (0 : Int32) ≤ lg_cmp (nI j).toInt64 (lI c) ↔ c ≤ j := by
      rw [lg_cmp_ge, Int64.le_iff_toInt_le, t1, t2]
      omega
    by_cases e : c ≤ j
    · have ej : j = c := by omega
      subst ej
      rw [if_pos (cmp.mpr e)]
      exact ⟨f, rfl, fun i _ => rfl, fun i h1 h2 => absurd h1 (by omega)⟩
    · rw [if_neg (fun y => e (cmp.mp y)), if_pos (ok_T (by omega) (by omega)), nI_clamp (n := D + j) (by omega), show nI (D + j) + (1 : Int32) = nI (D + (j + 1)) from nI_1 (D + j), show nI j + (1 : Int32) = nI (j + 1) from nI_1 j]
      obtain ⟨g, g1, g2, g3⟩ := ih (j + 1) (upd f (D + j) y1) (by omega) (by omega)
      refine ⟨g, g1, fun i hi => ?_, fun i h1 h2 => ?_⟩
      · rw [g2 i (by omega), pk_un (by omega)]
      · by_cases e2 : i = D + j
        · subst e2
          rw [g2 _ (by omega), pk_us]
        · exact g3 i (by omega) h2
theorem k_drip (hx : TX_ N ch bytes text) (hs : SY_ N bytes text p pl st tk v at' kd v') (h0 : ¬ tk = 0) (h3 : ¬ tk = 4) {D : Nat} (hD : D ≤ 20) {dr rd : Nat → Int32} (hr : ∀ j, j < D → dr j = rd j ∧ rg_ (rd j) 30) : (∃ (D2 e : Nat) (pl2 st2 tk2 v2 at2 kd2 b3 k3 : Int32) (v3 w3 : Int64) (dr2 rd2 : Nat → Int32), p < e ∧ e ≤ N ∧ D2 ≤ 20 ∧ F_X9_readDrip bytes (nI N) pl st tk v dr (nI D) = some (1, pl2, st2, tk2, v2, dr2, nI D2) ∧ SY_ N bytes text e pl2 st2 tk2 v2 at2 kd2 v3 ∧ F_X12_takesDrip text (nI N) at' st kd v' (nI D) rd = some (1, nI e, b3, k3, w3, nI D2, rd2) ∧ ∀ j, j < D2 → dr2 j = rd2 j ∧ rg_ (rd2 j) 30) ∨ (∃ (s : Nat) (pl2 tk2 v2 at3 k3 : Int32) (w3 : Int64) (U : (Nat → Int32) × Int32) (U' : Int32 × (Nat → Int32)), s ≤ N ∧ F_X9_readDrip bytes (nI N) pl st tk v dr (nI D) = some (0, pl2, nI s, tk2, v2, U) ∧ F_X12_takesDrip text (nI N) at' st kd v' (nI D) rd = some (0, at3, nI s, k3, w3, U')) := by
  have hN := hx.1
  unfold F_X9_readDrip F_X12_takesDrip
  obtain ⟨e, pl2, st2, tk2, v2, at2, kd2, v3, h4, h5, ea, a1, a2⟩ := k_adv hx hs h0 h3
  obtain ⟨s2, hs3, es2⟩ := sy_st a2
  rw [a1, ea]
  simp only [Option.bind_some]
  rcases k_take hx a2 tl_0 tl_30 (by omega) (by omega) with ⟨a, e4, pl3, st3, tk3, v4, at4, kd4, v5, b1, b2, b3, b4, b5, b6, b7, -⟩ | ⟨b5, b7, -⟩
  case inr =>
    rw [b5, b7]
    simp only [Option.bind_some, if_true]
    rw [if_neg nm1_le, es2]
    exact Or.inr ⟨s2, _, _, _, _, _, _, _, _, hs3, rfl, rfl⟩
  obtain ⟨s3, hs4, es3⟩ := sy_st b6
  rw [b5, b7]
  simp only [Option.bind_some]
  have e20 : ((20 : Int32) - nI D).toInt = 20 - (D : Int) := pk_sub_toInt (a := 20) (b := D) (by omega) (by omega)
  rw [if_pos (nI_ge0 (by omega)), if_neg n10, lI_i (by omega)]
  rcases k_take hx b6 tl_1 e20 (by omega) (by omega) with ⟨c, e5, pl4, st4, tk4, v6, at5, kd5, v7, c1, c2, c3, c4, c5, c6, c7, -⟩ | ⟨c5, c7, -⟩
  case inr =>
    rw [c5, c7]
    simp only [Option.bind_some, if_true]
    rw [if_neg nm1_le, es3]
    exact Or.inr ⟨s3, _, _, _, _, _, _, _, _, hs4, rfl, rfl⟩
  obtain ⟨s4, hs5, es4⟩ := sy_st c6
  rw [c5, c7]
  simp only [Option.bind_some]
  obtain ⟨g, g1, g2, g3⟩ := k_days (D := D) (c := c) (q := a) (by omega) FU_ 0 dr (by omega) (by unfold FU_; omega)
  obtain ⟨g', g1', g2', g3'⟩ := k_days' (text := text) (N := N) (a := nI e5) (b := st3) (k := 2) (y1 := nI a) (D := D) (c := c) (by omega) FU_ 0 rd (by omega) (by unfold FU_; omega)
  rw [Nat.add_zero, nI_0] at g1 g1'
  rw [Nat.add_zero] at g2 g3 g2' g3'
  rw [if_pos (nI_ge0 (by omega)), if_neg n10, F_X3_addDays, g1, g1']
  simp only [Option.bind_some]
  rcases k_stop hx c6 with ⟨e7, pl6, st6, tk6, v10, at7, kd7, v11, f1, f2, f3, f4, f5, -⟩ | ⟨f3, f5, -⟩
  · rw [f3, f5]
    simp only [Option.bind_some]
    rw [if_pos z_1, if_pos z_1]
    refine Or.inl ⟨D + c, e7, pl6, st6, tk6, v10, at7, kd7, _, _, v11, _, g, g', by omega, f2, by omega, rfl, f4, rfl, fun j hj => ?_⟩
    by_cases q : j < D
    · rw [g2 j q, g2' j q]
      exact hr j q
    · rw [g3 j (by omega) hj, g3' j (by omega) hj]
      exact ⟨rfl, a, by omega, rfl⟩
  · rw [f3, f5]
    simp only [Option.bind_some]
    rw [if_pos z_0, if_pos z_0, es4]
    exact Or.inr ⟨s4, _, _, _, _, _, _, _, _, hs5, rfl, rfl⟩
end HL4
