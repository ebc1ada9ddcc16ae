section CO8
variable {k T : Nat} {te da la sl sL many days law slip len : Int32} {cn cd cr cs mn md mr ms : Nat → Int32}
variable {w lk st ss w' lk' st' ss' : Nat → Int32} {day left turn lot seen day' left' turn' lot' seen' : Int32}
theorem IM_keep (hN : IN_ k T w lk st ss day left turn lot seen w' lk' st' ss' day' left' turn' lot' seen') (hT : T ≤ 6) {im2 gw gl gs gz : Nat → Int32} {o : Nat} (e : im2 o = 1 ∧ im2 (o + 1) = day' ∧ im2 (o + 2) = left' ∧ im2 (o + 3) = turn' ∧ im2 (o + 4) = lot' ∧ im2 (o + 5) = seen') (e2 : ∀ j, j < 6 → im2 (o + 6 + j) = w' j ∧ im2 (o + 12 + j) = lk' j) (e3 : ∀ j, j < 8 → im2 (o + 18 + j) = st' j ∧ im2 (o + 26 + j) = ss' j) : IM_ (k + 1) T 1 (va_cpy w gw 0 0 6) (va_cpy lk gl 0 0 6) (va_cpy st gs 0 0 8) (va_cpy ss gz 0 0 8) day left turn lot seen im2 o := by
  obtain ⟨q0, q1, q2, q3, q4, q5⟩ := e
  refine Or.inr ⟨rfl, q0, ?_⟩
  rw [q1, q2, q3, q4, q5]
  have c : ∀ (f g : Nat → Int32) (n j : Nat), j < n → va_cpy f g 0 0 n j = f j := fun f g n j hj => by rw [pk_cpy_in (by omega) (by omega)]; congr 1; omega
  exact hN.mono.congr hT (fun j hj => ⟨c _ _ _ _ hj, c _ _ _ _ hj, (e2 j hj).1, (e2 j hj).2⟩) (fun j hj => ⟨c _ _ _ _ hj, c _ _ _ _ hj, (e3 j hj).1, (e3 j hj).2⟩)
theorem IM_same {kept : Int32} {im im2 : Nat → Int32} {o : Nat} (h : IM_ k T kept w lk st ss day left turn lot seen im o) (hT : T ≤ 6) (e : ∀ q, o ≤ q → q < o + 34 → im2 q = im q) : IM_ (k + 1) T kept w lk st ss day left turn lot seen im2 o := by
  rcases h with ⟨h1, h2⟩ | ⟨h1, h2, h3⟩
  · exact Or.inl ⟨h1, by rw [e o (by omega) (by omega)]; exact h2⟩
  · refine Or.inr ⟨h1, by rw [e o (by omega) (by omega)]; exact h2, ?_⟩
    rw [e (o + 1) (by omega) (by omega), e (o + 2) (by omega) (by omega), e (o + 3) (by omega) (by omega), e (o + 4) (by omega) (by omega), e (o + 5) (by omega) (by omega)]
    exact h3.mono.congr hT (fun j hj => ⟨rfl, rfl, e _ (by omega) (by omega), e _ (by omega) (by omega)⟩) (fun j hj => ⟨rfl, rfl, e _ (by omega) (by omega), e _ (by omega) (by omega)⟩)
theorem e_keepB {kept a0 b0 c0 d0 a1 b1 c1 d1 : Nat → Int32} {e0 f0 g0 h0 j0 e1 f1 g1 h1 j1 : Int32} {x1 : Int32} (p : ¬ (0 ≤ x1.toInt ∧ x1.toInt ≤ 1)) : F_X11_keep w lk st ss day left turn lot seen a0 b0 c0 d0 e0 f0 g0 h0 j0 a1 b1 c1 d1 e1 f1 g1 h1 j1 kept x1 = some (-1, a0, b0, c0, d0, e0, f0, g0, h0, j0, a1, b1, c1, d1, e1, f1, g1, h1, j1, kept) := by
  have t0 : (0 : Int32).toInt = 0 := rfl
  have t2 : (2 : Int32).toInt = 2 := rfl
  unfold F_X11_keep
  by_cases z : x1 < 0
  · rw [if_pos z]
  · rw [if_neg z, if_neg (fun y => p ⟨by have := (not_congr (lt_of rfl t0)).mp z; omega, by have := (lt_of rfl t2).mp y; omega⟩)]
theorem CO_keep (hk : k < 600) (hH : IH_ T te da la sl sL cn cd cr cs many days law slip len mn md mr ms) (hN : IN_ k T w lk st ss day left turn lot seen w' lk' st' ss' day' left' turn' lot' seen') {kept im a0 b0 c0 d0 a1 b1 c1 d1 : Nat → Int32} {e0 f0 g0 h0 j0 e1 f1 g1 h1 j1 : Int32} (hA : IM_ k T (kept 0) a0 b0 c0 d0 e0 f0 g0 h0 j0 im 0) (hB : IM_ k T (kept 1) a1 b1 c1 d1 e1 f1 g1 h1 j1 im 40) (x1 : Int32) : ∃ (u1 : Int32 × (Nat → Int32) × (Nat → Int32) × (Nat → Int32) × (Nat → Int32) × Int32 × Int32 × Int32 × Int32 × Int32 × (Nat → Int32) × (Nat → Int32) × (Nat → Int32) × (Nat → Int32) × Int32 × Int32 × Int32 × Int32 × Int32 × (Nat → Int32)) (u2 : Int32 × (Nat → Int32)), F_X11_keep w lk st ss day left turn lot seen a0 b0 c0 d0 e0 f0 g0 h0 j0 a1 b1 c1 d1 e1 f1 g1 h1 j1 kept x1 = some u1 ∧ F_X12_keep day' left' w' lk' turn' lot' seen' st' ss' im x1 = some u2 ∧ u1.1 = u2.1 ∧ IM_ (k + 1) T (u1.2.2.2.2.2.2.2.2.2.2.2.2.2.2.2.2.2.2.2 0) u1.2.1 u1.2.2.1 u1.2.2.2.1 u1.2.2.2.2.1 u1.2.2.2.2.2.1 u1.2.2.2.2.2.2.1 u1.2.2.2.2.2.2.2.1 u1.2.2.2.2.2.2.2.2.1 u1.2.2.2.2.2.2.2.2.2.1 u2.2 0 ∧ IM_ (k + 1) T (u1.2.2.2.2.2.2.2.2.2.2.2.2.2.2.2.2.2.2.2 1) u1.2.2.2.2.2.2.2.2.2.2.1 u1.2.2.2.2.2.2.2.2.2.2.2.1 u1.2.2.2.2.2.2.2.2.2.2.2.2.1 u1.2.2.2.2.2.2.2.2.2.2.2.2.2.1 u1.2.2.2.2.2.2.2.2.2.2.2.2.2.2.1 u1.2.2.2.2.2.2.2.2.2.2.2.2.2.2.2.1 u1.2.2.2.2.2.2.2.2.2.2.2.2.2.2.2.2.1 u1.2.2.2.2.2.2.2.2.2.2.2.2.2.2.2.2.2.1 u1.2.2.2.2.2.2.2.2.2.2.2.2.2.2.2.2.2.2.1 u2.2 40 := by
  have hT := hH.1
  have hd : day = day' := hN.1.1
  by_cases p : 0 ≤ x1.toInt ∧ x1.toInt ≤ 1
  · obtain ⟨v, hv, rfl⟩ := ix_nI (x := x1) (T := 2) (by omega) (by omega)
    rcases (show v = 0 ∨ v = 1 by omega) with rfl | rfl
    · obtain ⟨im2, q1, q2, q3, q4, q5⟩ := e_keep (day := day') (left := left') (w := w') (lk := lk') (turn := turn') (lot := lot') (seen := seen') (st := st') (ss := ss') (o := 0) (im := im) (x1 := nI 0) (Or.inl rfl) rfl p
      refine ⟨(day, va_cpy w a0 0 0 6, va_cpy lk b0 0 0 6, va_cpy st c0 0 0 8, va_cpy ss d0 0 0 8, day, left, turn, lot, seen, a1, b1, c1, d1, e1, f1, g1, h1, j1, upd kept 0 (vp_nar .boolean 1)), _, rfl, q1, hd, ?_, ?_⟩
      · exact IM_keep hN hT q2 q3 q4
      · exact IM_same hB hT (fun q h1 _ => q5 q (Or.inr (by omega)))
    · obtain ⟨im2, q1, q2, q3, q4, q5⟩ := e_keep (day := day') (left := left') (w := w') (lk := lk') (turn := turn') (lot := lot') (seen := seen') (st := st') (ss := ss') (o := 40) (im := im) (x1 := nI 1) (Or.inr rfl) rfl p
      refine ⟨(day, a0, b0, c0, d0, e0, f0, g0, h0, j0, va_cpy w a1 0 0 6, va_cpy lk b1 0 0 6, va_cpy st c1 0 0 8, va_cpy ss d1 0 0 8, day, left, turn, lot, seen, upd kept 1 (vp_nar .boolean 1)), _, rfl, q1, hd, ?_, ?_⟩
      · exact IM_same hA hT (fun q _ h2 => q5 q (Or.inl (by omega)))
      · exact IM_keep hN hT q2 q3 q4
  · have l0 : (0 : Int64).toInt = 0 := rfl
    have l1 : (1 : Int64).toInt = 1 := rfl
    refine ⟨_, (-1, im), e_keepB p, ?_, rfl, hA.mono, hB.mono⟩
    unfold F_X12_keep
    rw [e_in, l0, l1, if_neg p]
    rfl
theorem CO_back (hk : k < 600) (hH : IH_ T te da la sl sL cn cd cr cs many days law slip len mn md mr ms) (hN : IN_ k T w lk st ss day left turn lot seen w' lk' st' ss' day' left' turn' lot' seen') {kept im a0 b0 c0 d0 a1 b1 c1 d1 : Nat → Int32} {e0 f0 g0 h0 j0 e1 f1 g1 h1 j1 : Int32} (hA : IM_ k T (kept 0) a0 b0 c0 d0 e0 f0 g0 h0 j0 im 0) (hB : IM_ k T (kept 1) a1 b1 c1 d1 e1 f1 g1 h1 j1 im 40) (x1 : Int32) : ∃ (u1 : Int32 × (Nat → Int32) × (Nat → Int32) × (Nat → Int32) × (Nat → Int32) × Int32 × Int32 × Int32 × Int32 × Int32) (u2 : Int32 × Int32 × Int32 × (Nat → Int32) × (Nat → Int32) × Int32 × Int32 × Int32 × (Nat → Int32) × (Nat → Int32)), F_X11_back a0 b0 c0 d0 e0 f0 g0 h0 j0 a1 b1 c1 d1 e1 f1 g1 h1 j1 kept w lk st ss day left turn lot seen x1 = some u1 ∧ F_X12_back im day' left' w' lk' turn' lot' seen' st' ss' x1 = some u2 ∧ u1.1 = u2.1 ∧ IN_ (k + 1) T u1.2.1 u1.2.2.1 u1.2.2.2.1 u1.2.2.2.2.1 u1.2.2.2.2.2.1 u1.2.2.2.2.2.2.1 u1.2.2.2.2.2.2.2.1 u1.2.2.2.2.2.2.2.2.1 u1.2.2.2.2.2.2.2.2.2 u2.2.2.2.1 u2.2.2.2.2.1 u2.2.2.2.2.2.2.2.2.1 u2.2.2.2.2.2.2.2.2.2 u2.2.1 u2.2.2.1 u2.2.2.2.2.2.1 u2.2.2.2.2.2.2.1 u2.2.2.2.2.2.2.2.1 := by
  have hT := hH.1
  have t0 : (0 : Int32).toInt = 0 := rfl
  have t2 : (2 : Int32).toInt = 2 := rfl
  have l0 : (0 : Int64).toInt = 0 := rfl
  have l1 : (1 : Int64).toInt = 1 := rfl
  have cp : ∀ (f g : Nat → Int32) (n j : Nat), j < n → va_cpy f g 0 0 n j = f j := fun f g n j hj => by rw [pk_cpy_in (by omega) (by omega)]; congr 1; omega
  -- one image
  have one : ∀ (o : Nat) (v : Nat) (kp : Int32) (A B C D : Nat → Int32) (E F G H J : Int32), o = 40 * v → v < 2 → IM_ k T kp A B C D E F G H J im o → (kp = 0 ∧ F_X12_back im day' left' w' lk' turn' lot' seen' st' ss' (nI v) = some (-2, day', left', w', lk', turn', lot', seen', st', ss')) ∨ (¬ kp = 0 ∧ ∃ (w2 l2 s2 z2 : Nat → Int32), F_X12_back im day' left' w' lk' turn' lot' seen' st' ss' (nI v) = some (im (o + 1), im (o + 1), im (o + 2), w2, l2, im (o + 3), im (o + 4), im (o + 5), s2, z2) ∧ E = im (o + 1) ∧ IN_ (k + 1) T (va_cpy A w 0 0 6) (va_cpy B lk 0 0 6) (va_cpy C st 0 0 8) (va_cpy D ss 0 0 8) E F G H J w2 l2 s2 z2 (im (o + 1)) (im (o + 2)) (im (o + 3)) (im (o + 4)) (im (o + 5))) := by
    intro o v kp A B C D E F G H J ho hv hI
    have hx : (40 : Int32) * nI v = nI o := by rw [show (40 : Int32) = nI 40 from rfl, pk_mul, ho]
    have tv := ti_nI (n := v) (by omega)
    have g1 : nI o + (1 : Int32) = nI (o + 1) := nI_add o 1
    have g2 : nI o + (2 : Int32) = nI (o + 2) := nI_add o 2
    have g3 : nI o + (3 : Int32) = nI (o + 3) := nI_add o 3
    have g4 : nI o + (4 : Int32) = nI (o + 4) := nI_add o 4
    have g5 : nI o + (5 : Int32) = nI (o + 5) := nI_add o 5
    unfold F_X12_back
    rw [e_in, l0, l1, if_pos (by omega)]
    simp only [Option.bind_some, i_10, if_true, if_false]
    rw [hx, if_pos (ok_T (by omega) (by omega)), nI_clamp (n := o) (by omega)]
    rcases hI with ⟨i1, i2⟩ | ⟨i1, i2, i3⟩
    · exact Or.inl ⟨i1, by rw [if_pos i2]⟩
    · refine Or.inr ⟨by rw [i1]; decide, ?_⟩
      obtain ⟨w2, l2, s2, z2, r1, r2, r3, -⟩ := e_back1 (day := im (o + 1)) (left := im (o + 2)) (turn := im (o + 3)) (lot := im (o + 4)) (seen := im (o + 5)) (im := im) (s := st') (z := ss') (o := o) (by omega) FU_ 0 w' lk' (by omega) (by unfold FU_; omega)
      refine ⟨w2, l2, s2, z2, ?_, i3.1.1, ?_⟩
      · rw [if_neg (by rw [i2]; decide), g1, g2, g3, g4, g5, if_pos (ok_T (by omega) (by omega)), if_pos (ok_T (by omega) (by omega)), if_pos (ok_T (by omega) (by omega)), if_pos (ok_T (by omega) (by omega)), if_pos (ok_T (by omega) (by omega)), nI_clamp (n := o + 1) (by omega), nI_clamp (n := o + 2) (by omega), nI_clamp (n := o + 3) (by omega), nI_clamp (n := o + 4) (by omega), nI_clamp (n := o + 5) (by omega)]
        exact r1
      · exact i3.mono.congr hT (fun j hj => ⟨cp _ _ _ _ hj, cp _ _ _ _ hj, (r2 j (by omega) hj).1, (r2 j (by omega) hj).2⟩) (fun j hj => ⟨cp _ _ _ _ hj, cp _ _ _ _ hj, (r3 j hj).1, (r3 j hj).2⟩)
  by_cases p : 0 ≤ x1.toInt ∧ x1.toInt ≤ 1
  · obtain ⟨v, hv, rfl⟩ := ix_nI (x := x1) (T := 2) (by omega) (by omega)
    rcases (show v = 0 ∨ v = 1 by omega) with rfl | rfl
    · rcases one 0 0 _ _ _ _ _ _ _ _ _ _ rfl (by omega) hA with ⟨k0, r⟩ | ⟨k0, w2, l2, s2, z2, r, rd, rn⟩
      · refine ⟨(-2, w, lk, st, ss, day, left, turn, lot, seen), _, ?_, r, rfl, hN.mono⟩
        unfold F_X11_back
        rw [if_neg (show ¬ nI 0 < 0 by decide), if_pos (show nI 0 < 2 by decide), if_pos (show ok_I (nI 0) 2 = true by decide), show (nI 0).toNatClampNeg = 0 from rfl, if_pos k0]
      · refine ⟨(e0, va_cpy a0 w 0 0 6, va_cpy b0 lk 0 0 6, va_cpy c0 st 0 0 8, va_cpy d0 ss 0 0 8, e0, f0, g0, h0, j0), _, ?_, r, rd, rn⟩
        unfold F_X11_back
        rw [if_neg (show ¬ nI 0 < 0 by decide), if_pos (show nI 0 < 2 by decide), if_pos (show ok_I (nI 0) 2 = true by decide), show (nI 0).toNatClampNeg = 0 from rfl, if_neg k0]
        rfl
    · rcases one 40 1 _ _ _ _ _ _ _ _ _ _ rfl (by omega) hB with ⟨k0, r⟩ | ⟨k0, w2, l2, s2, z2, r, rd, rn⟩
      · refine ⟨(-2, w, lk, st, ss, day, left, turn, lot, seen), _, ?_, r, rfl, hN.mono⟩
        unfold F_X11_back
        rw [if_neg (show ¬ nI 1 < 0 by decide), if_pos (show nI 1 < 2 by decide), if_pos (show ok_I (nI 1) 2 = true by decide), show (nI 1).toNatClampNeg = 1 from rfl, if_pos k0]
      · refine ⟨(e1, va_cpy a1 w 0 0 6, va_cpy b1 lk 0 0 6, va_cpy c1 st 0 0 8, va_cpy d1 ss 0 0 8, e1, f1, g1, h1, j1), _, ?_, r, rd, rn⟩
        unfold F_X11_back
        rw [if_neg (show ¬ nI 1 < 0 by decide), if_pos (show nI 1 < 2 by decide), if_pos (show ok_I (nI 1) 2 = true by decide), show (nI 1).toNatClampNeg = 1 from rfl, if_neg k0]
        rfl
  · refine ⟨(-1, w, lk, st, ss, day, left, turn, lot, seen), (-1, day', left', w', lk', turn', lot', seen', st', ss'), ?_, ?_, rfl, hN.mono⟩
    · unfold F_X11_back
      by_cases z : x1 < 0
      · rw [if_pos z]
      · rw [if_neg z, if_neg (fun y => p ⟨by have := (not_congr (lt_of rfl t0)).mp z; omega, by have := (lt_of rfl t2).mp y; omega⟩)]
    · unfold F_X12_back
      rw [e_in, l0, l1, if_neg p]
      rfl
end CO8
