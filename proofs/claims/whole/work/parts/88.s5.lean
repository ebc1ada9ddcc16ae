/-! own: hill: song -/
section HL5
variable {N : Nat} {ch : Nat → Nat} {bytes text : Nat → Int32}
theorem sg_end {M : Nat} {n : Nat} {a b kd L : Int32} {w : Int64} {f : Nat → Int32} : F_X12_takesSong_25 text (nI N) (nI M) (n + 1) a b kd w L f 0 = if kd = 3 then some (1, a, b, kd, w, L, f) else some (0, a, b, kd, w, L, f) := by
  rw [F_X12_takesSong_25, if_pos rfl]
/-- from a note to the next -/
theorem k_notes (hx : TX_ N ch bytes text) {M : Nat} (hM : M ≤ 6) : ∀ (n i p : Nat) (pl st tk v at' kd : Int32) (v' : Int64) (ds rs : Nat → Int32) (b k : Int32) (a : Nat), SY_ N bytes text p pl st tk v at' kd v' → i ≤ 7 → 10 - i ≤ n → (∀ j, j < i → ds j = rs j ∧ ∃ a : Nat, a < M ∧ rs j = nI a) → a < M → ds i = nI a → (∃ (l e : Nat) (pl2 st2 tk2 v2 at2 kd2 b3 k3 : Int32) (v3 w3 : Int64) (ds2 rs2 : Nat → Int32), p < e ∧ e ≤ N ∧ 1 ≤ l ∧ l ≤ 8 ∧ F_X9_readSong_20 bytes (nI N) (nI M) n pl st tk v 1 ds (nI (i + 1)) (nI (i + 1)) = some (1, pl2, st2, tk2, v2, 1, ds2, nI l) ∧ SY_ N bytes text e pl2 st2 tk2 v2 at2 kd2 v3 ∧ F_X12_takesSong_25 text (nI N) (nI M) (n + 1) (nI p) b k (lI a) (nI i) rs 1 = some (1, nI e, b3, k3, w3, nI l, rs2) ∧ ∀ j, j < l → ds2 j = rs2 j ∧ ∃ a : Nat, a < M ∧ rs2 j = nI a) ∨ (∃ (s : Nat) (pl2 tk2 v2 at3 k3 : Int32) (w3 : Int64) (U : Int32 × (Nat → Int32) × Int32) (U' : Int32 × (Nat → Int32)), s ≤ N ∧ F_X9_readSong_20 bytes (nI N) (nI M) n pl st tk v 1 ds (nI (i + 1)) (nI (i + 1)) = some (0, pl2, nI s, tk2, v2, U) ∧ F_X12_takesSong_25 text (nI N) (nI M) (n + 1) (nI p) b k (lI a) (nI i) rs 1 = some (0, at3, nI s, k3, w3, U')) := by
  have hN := hx.1
  have eM : (nI M - 1).toInt = (M : Int) - 1 := pk_sub_toInt (a := M) (b := 1) (by omega) (by omega)
  intro n
  induction n with
  | zero => intro i _ _ _ _ _ _ _ _ _ _ _ _ _ _ h1 h2; exact absurd h2 (by omega)
  | succ n ih =>
    intro i p pl st tk v at' kd v' ds rs b k a hs hi hn hr ha hd
    obtain ⟨s, hs2, es⟩ := sy_st hs
    have hr' : ∀ j, j < i + 1 → ds j = upd rs i (nI a) j ∧ ∃ c : Nat, c < M ∧ upd rs i (nI a) j = nI c := by
      intro j hj
      by_cases e : j = i
      · subst e
        rw [pk_us]
        exact ⟨hd, a, ha, rfl⟩
      · rw [pk_un e]
        exact hr j (by omega)
    have ref : F_X12_takesSong_25 text (nI N) (nI M) (n + 1 + 1) (nI p) b k (lI a) (nI i) rs 1 = if kd = 2 ∧ (0 ≤ v'.toInt ∧ v'.toInt ≤ (M : Int) - 1) ∧ i + 1 < 8 then F_X12_takesSong_25 text (nI N) (nI M) (n + 1) at' st kd v' (nI (i + 1)) (upd rs i (nI a)) 1 else F_X12_takesSong_25 text (nI N) (nI M) (n + 1) at' st kd v' (nI (i + 1)) (upd rs i (nI a)) 0 := by
      rw [F_X12_takesSong_25, if_neg n10, if_pos (ok_T (by omega) (by omega)), hs.2.2, Option.bind_some, nI_clamp (n := i) (by omega), lI_i (by omega), show nI i + (1 : Int32) = nI (i + 1) from nI_1 i]
      show (if kd = 2 then _ else _) = _
      by_cases q1 : kd = 2
      · rw [if_pos q1, e_in64, Int32.toInt_toInt64, eM, Option.bind_some, show (0 : Int64).toInt = 0 from rfl]
        by_cases q2 : 0 ≤ v'.toInt ∧ v'.toInt ≤ (M : Int) - 1
        · rw [if_pos q2, if_neg n10]
          by_cases q3 : 8 ≤ i + 1
          · rw [if_pos ((le_of tl_8 (ti_nI (n := i + 1) (by omega))).mpr (by omega)), if_neg (fun y => absurd y.2.2 (by omega))]
          · rw [if_neg (fun y => absurd ((le_of tl_8 (ti_nI (n := i + 1) (by omega))).mp y) (by omega)), if_pos ⟨q1, q2, by omega⟩]
        · rw [if_neg q2, if_pos rfl, if_neg (fun y => q2 y.2.1)]
      · rw [if_neg q1, if_neg (fun y => q1 y.1)]
    have fin71 : (¬ (kd = 2 ∧ (0 ≤ v'.toInt ∧ v'.toInt ≤ (M : Int) - 1) ∧ i + 1 < 8)) → F_X9_readSong_20 bytes (nI N) (nI M) (n + 1) pl st tk v 1 ds (nI (i + 1)) (nI (i + 1)) = F_X9_readSong_71 bytes (nI N) (nI M) pl st tk v 1 ds (nI (i + 1)) → (∃ (l e : Nat) (pl2 st2 tk2 v2 at2 kd2 b3 k3 : Int32) (v3 w3 : Int64) (ds2 rs2 : Nat → Int32), p < e ∧ e ≤ N ∧ 1 ≤ l ∧ l ≤ 8 ∧ F_X9_readSong_20 bytes (nI N) (nI M) (n + 1) pl st tk v 1 ds (nI (i + 1)) (nI (i + 1)) = some (1, pl2, st2, tk2, v2, 1, ds2, nI l) ∧ SY_ N bytes text e pl2 st2 tk2 v2 at2 kd2 v3 ∧ F_X12_takesSong_25 text (nI N) (nI M) (n + 1 + 1) (nI p) b k (lI a) (nI i) rs 1 = some (1, nI e, b3, k3, w3, nI l, rs2) ∧ ∀ j, j < l → ds2 j = rs2 j ∧ ∃ a : Nat, a < M ∧ rs2 j = nI a) ∨ (∃ (s : Nat) (pl2 tk2 v2 at3 k3 : Int32) (w3 : Int64) (U : Int32 × (Nat → Int32) × Int32) (U' : Int32 × (Nat → Int32)), s ≤ N ∧ F_X9_readSong_20 bytes (nI N) (nI M) (n + 1) pl st tk v 1 ds (nI (i + 1)) (nI (i + 1)) = some (0, pl2, nI s, tk2, v2, U) ∧ F_X12_takesSong_25 text (nI N) (nI M) (n + 1 + 1) (nI p) b k (lI a) (nI i) rs 1 = some (0, at3, nI s, k3, w3, U')) := by
      intro hc hf
      rw [hf, ref, if_neg hc, sg_end]
      unfold F_X9_readSong_71
      rcases k_stop hx hs with ⟨e7, pl6, st6, tk6, v10, at7, kd7, v11, f1, f2, f3, f4, f5, f6, f7, f8⟩ | ⟨f3, f5, f6, f7⟩
      · rw [f3, if_pos f6]
        simp only [Option.bind_some]
        rw [if_pos z_1, f8]
        exact Or.inl ⟨i + 1, e7, pl6, st6, tk6, v10, at7, kd7, _, _, v11, _, ds, upd rs i (nI a), f1, f2, by omega, by omega, rfl, f4, rfl, hr'⟩
      · rw [f3, if_neg f6]
        simp only [Option.bind_some]
        rw [if_pos z_0, es]
        exact Or.inr ⟨s, _, _, _, _, _, _, _, _, hs2, rfl, rfl⟩
    by_cases q8 : 8 ≤ i + 1
    · refine fin71 (fun y => absurd y.2.2 (by omega)) ?_
      rw [F_X9_readSong_20, if_pos ((le_of tl_8 (ti_nI (n := i + 1) (by omega))).mpr (by omega))]
    · have c8 : ¬ (8 : Int32) ≤ nI (i + 1) := fun y => absurd ((le_of tl_8 (ti_nI (n := i + 1) (by omega))).mp y) (by omega)
      have c0 : ¬ nI (i + 1) ≤ 0 := nI_nle (by omega) (by omega)
      by_cases q2 : tk = 3
      · refine fin71 (fun y => ?_) ?_
        · rcases k_stop hx hs with ⟨_, _, _, _, _, _, _, _, _, _, _, _, _, f6, -⟩ | ⟨_, _, _, f7⟩
          · rw [f6] at y
            exact absurd y.1 (by decide)
          · exact f7 q2
        · rw [F_X9_readSong_20, if_neg c8, if_neg c0, if_pos q2]
      · rw [ref, F_X9_readSong_20, if_neg c8, if_neg c0, if_neg q2]
        unfold F_X9_readSong_41
        have k3 : ¬ kd = 3 := by
          rcases k_stop hx hs with ⟨_, _, _, _, _, _, _, _, _, _, _, _, _, _, f7, -⟩ | ⟨_, _, f6, _⟩
          · exact absurd f7 q2
          · exact f6
        rcases k_take hx hs tl_0 eM (by omega) (by omega) with ⟨a2, e4, pl3, st3, tk3, v4, at4, kd4, v5, b1, b2, b3, b4, b5, b6, b7, b8, b9, b10, -⟩ | ⟨b5, -, b8⟩
        · have tv : (lI a2).toInt = a2 := lI_t (by omega) (by omega)
          rw [b5, if_pos ⟨b8, by rw [b9, tv]; omega, by omega⟩]
          simp only [Option.bind_some]
          unfold F_X3_sing
          rw [if_pos (nI_ge0 (by omega)), if_neg (nI_nlt0 (by omega)), if_neg c8, if_pos (ok_T (by omega) (by omega)), nI_clamp (n := i + 1) (by omega), show nI (i + 1) + (1 : Int32) = nI (i + 1 + 1) from nI_1 (i + 1), b9, b10]
          simp only [Option.bind_some]
          rcases ih (i + 1) e4 pl3 st3 tk3 v4 at4 kd4 v5 (upd ds (i + 1) (nI a2)) (upd rs i (nI a)) st kd a2 b6 (by omega) (by omega) (fun j hj => by rw [pk_un (by omega)]; exact hr' j hj) (by omega) pk_us with ⟨l, e, pl2, st2, tk2, v2, at2, kd2, b3', k3', v3, w3, ds2, rs2, d1, d2, d3, d4, d5, d6, d7, d8⟩ | ⟨s2, pl2, tk2, v2, at3, k3', w3, U, U', d1, d2, d3⟩
          · exact Or.inl ⟨l, e, pl2, st2, tk2, v2, at2, kd2, b3', k3', v3, w3, ds2, rs2, by omega, d2, d3, d4, d5, d6, d7, d8⟩
          · exact Or.inr ⟨s2, pl2, tk2, v2, at3, k3', w3, U, U', d1, d2, d3⟩
        · rw [b5, if_neg (fun y => b8 y.1 y.2.1), sg_end, if_neg k3]
          simp only [Option.bind_some]
          rw [if_neg nm1_le, es]
          exact Or.inr ⟨s, _, _, _, _, _, _, _, _, hs2, rfl, rfl⟩
theorem k_song {p : Nat} {pl st tk v at' kd : Int32} {v' : Int64} (hx : TX_ N ch bytes text) (hs : SY_ N bytes text p pl st tk v at' kd v') (h0 : ¬ tk = 0) (h3 : ¬ tk = 4) {M : Nat} (hM : M ≤ 6) {gt dn rn : Int32} {ds rs : Nat → Int32} (hg : (gt = 0 ∧ dn = 1 ∧ ds 0 = 0 ∧ rn = 0) ∨ (gt = 1 ∧ ∃ l : Nat, 1 ≤ l ∧ l ≤ 8 ∧ dn = nI l ∧ rn = nI l ∧ ∀ j, j < l → ds j = rs j ∧ ∃ a : Nat, a < M ∧ rs j = nI a)) : (∃ (l e : Nat) (pl2 st2 tk2 v2 at2 kd2 b3 k3 : Int32) (v3 w3 : Int64) (ds2 rs2 : Nat → Int32), p < e ∧ e ≤ N ∧ 1 ≤ l ∧ l ≤ 8 ∧ F_X9_readSong bytes (nI N) (nI M) pl st tk v gt ds dn = some (1, pl2, st2, tk2, v2, 1, ds2, nI l) ∧ SY_ N bytes text e pl2 st2 tk2 v2 at2 kd2 v3 ∧ F_X12_takesSong text (nI N) (nI M) at' st kd v' rn rs = some (1, nI e, b3, k3, w3, nI l, rs2) ∧ ∀ j, j < l → ds2 j = rs2 j ∧ ∃ a : Nat, a < M ∧ rs2 j = nI a) ∨ (∃ (s : Nat) (pl2 tk2 v2 at3 k3 : Int32) (w3 : Int64) (U : Int32 × (Nat → Int32) × Int32) (U' : Int32 × (Nat → Int32)), s ≤ N ∧ F_X9_readSong bytes (nI N) (nI M) pl st tk v gt ds dn = some (0, pl2, nI s, tk2, v2, U) ∧ F_X12_takesSong text (nI N) (nI M) at' st kd v' rn rs = some (0, at3, nI s, k3, w3, U')) := by
  have hN := hx.1
  obtain ⟨s, hs2, es⟩ := sy_st hs
  unfold F_X9_readSong F_X12_takesSong
  rcases hg with ⟨rfl, rfl, -, rfl⟩ | ⟨rfl, l, l1, l2, rfl, rfl, -⟩
  case inr =>
    rw [if_neg n10, if_pos ((lt_of tl_0 (ti_nI (n := l) (by omega))).mpr (by omega)), es]
    exact Or.inr ⟨s, _, _, _, _, _, _, _, _, hs2, rfl, rfl⟩
  obtain ⟨e, pl2, st2, tk2, v2, at2, kd2, v3, h4, h5, ea, a1, a2⟩ := k_adv hx hs h0 h3
  obtain ⟨s2, hs3, es2⟩ := sy_st a2
  have eM : (nI M - 1).toInt = (M : Int) - 1 := pk_sub_toInt (a := M) (b := 1) (by omega) (by omega)
  rw [if_pos rfl, a1, if_neg (show ¬ (0 : Int32) < 0 by decide), ea]
  simp only [Option.bind_some]
  rw [show F_X9_readSong_20 bytes (nI N) (nI M) FU_ pl2 st2 tk2 v2 1 ds 1 0 = F_X9_readSong_20 bytes (nI N) (nI M) (7999 + 1) pl2 st2 tk2 v2 1 ds 1 0 from congrArg (fun n => F_X9_readSong_20 bytes (nI N) (nI M) n pl2 st2 tk2 v2 1 ds 1 0) FU_s, F_X9_readSong_20, if_neg (show ¬ (8 : Int32) ≤ 0 by decide), if_pos (show (0 : Int32) ≤ 0 by decide)]
  unfold F_X9_readSong_41
  rcases k_take hx a2 tl_0 eM (by omega) (by omega) with ⟨a, e4, pl3, st3, tk3, v4, at4, kd4, v5, b1, b2, b3, b4, b5, b6, b7, -⟩ | ⟨b5, b7, -⟩
  · rw [b5, b7]
    simp only [Option.bind_some]
    unfold F_X3_sing
    rw [if_pos (nI_ge0 (by omega)), if_neg n10, if_neg (show ¬ (0 : Int32) < 0 by decide), if_neg (show ¬ (8 : Int32) ≤ 0 by decide), if_pos (show ok_I (0 : Int32) 8 = true by decide), show (0 : Int32).toNatClampNeg = 0 by decide]
    simp only [Option.bind_some]
    have key := k_notes hx hM 7999 0 e4 pl3 st3 tk3 v4 at4 kd4 v5 (upd ds 0 (nI a)) rs st2 2 a b6 (by omega) (by omega) (fun j hj => absurd hj (by omega)) (by omega) pk_us
    rw [show nI (0 + 1) = (0 : Int32) + 1 from rfl, nI_0, ← FU_s] at key
    rcases key with ⟨l, e, pl2, st2, tk2, v2, at2, kd2, b3', k3', v3, w3, ds2, rs2, d1, d2, d3, d4, d5, d6, d7, d8⟩ | ⟨s2, pl2, tk2, v2, at3, k3', w3, U, U', d1, d2, d3⟩
    · exact Or.inl ⟨l, e, pl2, st2, tk2, v2, at2, kd2, b3', k3', v3, w3, ds2, rs2, by omega, d2, d3, d4, d5, d6, d7, d8⟩
    · exact Or.inr ⟨s2, pl2, tk2, v2, at3, k3', w3, U, U', d1, d2, d3⟩
  · rw [b5, b7]
    simp only [Option.bind_some, if_true]
    rw [if_neg nm1_le, es2]
    exact Or.inr ⟨s2, _, _, _, _, _, _, _, _, hs3, rfl, rfl⟩
end HL5
