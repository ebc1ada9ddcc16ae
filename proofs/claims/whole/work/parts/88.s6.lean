/-! own: hill: all items -/
section HL6
variable {N : Nat} {ch : Nat → Nat} {bytes text : Nat → Int32}
/-- the draft of both -/
def DR_ (M D : Nat) (lt slt gt : Int32) (dw dn dd dr ds : Nat → Int32) (dl dsl dsn rl rsl rn : Int32) (rt rd rs : Nat → Int32) : Prop :=
  M ≤ 6 ∧ D ≤ 20 ∧ (∀ t, t < M → (dw t = rt (3 * t) ∧ rg_ (rt (3 * t)) 30) ∧ (dn t = rt (3 * t + 1) ∧ rg_ (rt (3 * t + 1)) 9) ∧ dd t = rt (3 * t + 2) ∧ rg_ (rt (3 * t + 2)) 3) ∧ (∀ j, j < D → dr j = rd j ∧ rg_ (rd j) 30) ∧ ((lt = 0 ∧ dl = 0 ∧ rl = -1) ∨ (lt = 1 ∧ dl = rl ∧ rg_ rl 2)) ∧ ((slt = 0 ∧ dsl = 0 ∧ rsl = -1) ∨ (slt = 1 ∧ dsl = rsl ∧ rg_ rsl 9)) ∧ ((gt = 0 ∧ dsn = 1 ∧ ds 0 = 0 ∧ rn = 0) ∨ (gt = 1 ∧ ∃ l : Nat, 1 ≤ l ∧ l ≤ 8 ∧ dsn = nI l ∧ rn = nI l ∧ ∀ j, j < l → ds j = rs j ∧ ∃ a : Nat, a < M ∧ rs j = nI a))
/-- both have read all, or both have stopped at the same place -/
def RD_ (N : Nat) (c : Option (Int32 × Int32 × Int32 × Int32 × Int32 × Int32 × Int32 × Int32 × (Nat → Int32) × (Nat → Int32) × (Nat → Int32) × (Nat → Int32) × (Nat → Int32) × Int32 × Int32 × Int32 × Int32 × Int32)) (r : Option (Int32 × Int32 × Int32 × Int32 × Int64 × Int32 × Int32 × Int32 × Int32 × Int32 × (Nat → Int32) × (Nat → Int32) × (Nat → Int32))) : Prop :=
  (∃ (i M D : Nat) (pl st tk v lt slt gt dl dsl dsn a b k rl rsl rn : Int32) (w : Int64) (dw dn dd dr ds rt rd rs : Nat → Int32), i ≤ 300 ∧ c = some (nI i, pl, st, tk, v, lt, slt, gt, dw, dn, dd, dr, ds, nI M, nI D, dl, dsl, dsn) ∧ r = some (nI i, a, b, k, w, nI M, nI D, rl, rsl, rn, rt, rd, rs) ∧ DR_ M D lt slt gt dw dn dd dr ds dl dsl dsn rl rsl rn rt rd rs) ∨ (∃ (s : Nat) (pl a : Int32) (U : Int32 × Int32 × Int32 × Int32 × Int32 × (Nat → Int32) × (Nat → Int32) × (Nat → Int32) × (Nat → Int32) × (Nat → Int32) × Int32 × Int32 × Int32 × Int32 × Int32) (U' : Int32 × Int64 × Int32 × Int32 × Int32 × Int32 × Int32 × (Nat → Int32) × (Nat → Int32) × (Nat → Int32)), s ≤ 300 ∧ c = some ((-10 : Int32) - nI s, pl, nI s, U) ∧ r = some (-1, a, nI s, U'))
theorem wcn {v c : Int64} {k : Nat} (h : ¬ v = lI (wc_ k)) (e : lI (wc_ k) = c) : ¬ lg_cmp v c = 0 := fun y => h (by rw [e]; exact (lg_cmp_eq _ _).mp y)
theorem n14 : ¬ (1 : Int32) = 4 := by decide
theorem k_all (hx : TX_ N ch bytes text) : ∀ (n i p M D : Nat) (pl st tk v at' kd lt slt gt dl dsl dsn rl rsl rn : Int32) (v' : Int64) (dw dn dd dr ds rt rd rs : Nat → Int32), SY_ N bytes text p pl st tk v at' kd v' → i ≤ p → p ≤ N → N - p < n → DR_ M D lt slt gt dw dn dd dr ds dl dsl dsn rl rsl rn rt rd rs → RD_ N (F_X9_read_30 bytes (nI N) n pl st tk v lt slt gt dw dn dd dr ds (nI M) (nI D) dl dsl dsn (nI i)) (F_X12_takesAll_36 text (nI N) n at' st kd v' (nI M) (nI D) rl rsl rn rt rd rs (nI i)) := by
  have hN := hx.1
  intro n
  induction n with
  | zero => intro i p M D pl st tk v at' kd lt slt gt dl dsl dsn rl rsl rn v' dw dn dd dr ds rt rd rs h1 h2 h3 h4; exact absurd h4 (by omega)
  | succ n ih =>
    intro i p M D pl st tk v at' kd lt slt gt dl dsl dsn rl rsl rn v' dw dn dd dr ds rt rd rs hs hi hp hn hd
    obtain ⟨s, hs2, es⟩ := sy_st hs
    have hd' := hd
    obtain ⟨d1, d2, d3, d4, d5, d6, d7⟩ := hd
    rw [F_X9_read_30, F_X12_takesAll_36, if_neg (fun y => absurd ((lt_of tl_300 (ti_nI (n := i) (by omega))).mp y) (by omega))]
    unfold F_X12_takesAll_157 F_X12_takesAll_153 F_X12_takesAll_158
    rcases hs.2.1 with ⟨rfl, rfl⟩ | ⟨rfl, rfl⟩ | ⟨a, ha, rfl, rfl, rfl, rfl⟩ | ⟨rfl, rfl, hw⟩ | ⟨rfl, hw⟩
    · rw [if_pos rfl, if_pos rfl]
      exact Or.inl ⟨i, M, D, _, _, _, _, _, _, _, _, _, _, _, _, _, _, _, _, _, _, _, _, _, _, _, _, _, by omega, rfl, rfl, hd'⟩
    · rw [if_neg (show ¬ (3 : Int32) = 0 by decide), if_neg (show ¬ (3 : Int32) = 0 by decide), if_neg (show ¬ (3 : Int32) = 1 by decide), if_pos rfl]
      unfold F_X9_readItem F_X9_read_63
      rw [if_neg (show ¬ (3 : Int32) = 1 by decide)]
      simp only [Option.bind_some, if_true]
      rw [es]
      exact Or.inr ⟨s, _, _, _, _, by omega, rfl, rfl⟩
    · rw [if_neg (show ¬ (2 : Int32) = 0 by decide), if_neg (show ¬ (2 : Int32) = 0 by decide), if_neg (show ¬ (2 : Int32) = 1 by decide), if_pos rfl]
      unfold F_X9_readItem F_X9_read_63
      rw [if_neg (show ¬ (2 : Int32) = 1 by decide)]
      simp only [Option.bind_some, if_true]
      rw [es]
      exact Or.inr ⟨s, _, _, _, _, by omega, rfl, rfl⟩
    · have t0 : ¬ (1 : Int32) = 0 := n10
      have t3 : ¬ (1 : Int32) = 4 := n14
      rw [if_neg n10, if_neg n10, if_pos rfl]
      unfold F_X9_readItem F_X9_read_63
      rw [if_pos (show (1 : Int32) = 1 from rfl)]
      rcases hw with ⟨w0, rfl⟩ | ⟨w0, u0, hw⟩
      · rw [w0, Option.bind_some, if_neg n10, if_pos ((lg_cmp_eq _ _).mpr (show lI (wc_ 0) = 21662073957 from rfl))]
        rcases k_terrace hx hs t0 t3 d1 dw dn dd rt with ⟨a, b, c, e, pl2, st2, tk2, v2, at2, kd2, b3, k3, v3, w3, f1, f2, f3, f4, f5, f6, f7, f8, f9⟩ | ⟨s2, pl2, tk2, v2, at3, k3, w3, U, U', f1, f2, f3⟩
        · rw [f7, f9]
          simp only [Option.bind_some]
          rw [if_pos z_1]
          simp only [Option.bind_some]
          rw [if_neg n10, if_neg n10, if_neg n10, f8.2.2]
          simp only [Option.bind_some]
          rw [show nI i + (1 : Int32) = nI (i + 1) from nI_1 i]
          refine ih (i + 1) e (M + 1) D _ _ _ _ _ _ _ _ _ _ _ _ _ _ _ _ _ _ _ _ _ _ _ _ f8 (by omega) f2 (by omega) ⟨by omega, d2, fun t ht => ?_, d4, d5, d6, ?_⟩
          · by_cases q : t = M
            · subst q
              rw [pk_us, pk_us, pk_us, pk_us, pk_un (j := 3 * t) (by omega), pk_un (j := 3 * t) (by omega), pk_us, pk_un (j := 3 * t + 1) (by omega), pk_us]
              exact ⟨⟨rfl, a, f3, rfl⟩, ⟨rfl, b, f4, rfl⟩, rfl, c, f5, rfl⟩
            · rw [pk_un q, pk_un q, pk_un q, pk_un (j := 3 * t) (by omega), pk_un (j := 3 * t) (by omega), pk_un (j := 3 * t) (by omega), pk_un (j := 3 * t + 1) (by omega), pk_un (j := 3 * t + 1) (by omega), pk_un (j := 3 * t + 1) (by omega), pk_un (j := 3 * t + 2) (by omega), pk_un (j := 3 * t + 2) (by omega), pk_un (j := 3 * t + 2) (by omega)]
              exact d3 t (by omega)
          · rcases d7 with d7 | ⟨d7, l, l1, l2, l3, l4, l5⟩
            · exact Or.inl d7
            · refine Or.inr ⟨d7, l, l1, l2, l3, l4, fun j hj => ?_⟩
              obtain ⟨x1, x, x2, x3⟩ := l5 j hj
              exact ⟨x1, x, by omega, x3⟩
        · rw [f2, f3]
          simp only [Option.bind_some]
          rw [if_pos z_0]
          simp only [Option.bind_some, if_true]
          exact Or.inr ⟨s2, _, _, _, _, by omega, rfl, rfl⟩
      rw [w0, Option.bind_some, if_pos (show (0 : Int32) = 0 from rfl)]
      rcases hw with ⟨w1, rfl⟩ | ⟨w1, u1, hw⟩
      · rw [w1, Option.bind_some, if_neg n10, if_neg (fun y => absurd ((lg_cmp_eq _ _).mp y) (by decide)), if_pos ((lg_cmp_eq _ _).mpr (show lI (wc_ 1) = 149808 from rfl))]
        rcases k_drip hx hs t0 t3 d2 d4 with ⟨D2, e, pl2, st2, tk2, v2, at2, kd2, b3, k3, v3, w3, dr2, rd2, f1, f2, f3, f4, f5, f6, f7⟩ | ⟨s2, pl2, tk2, v2, at3, k3, w3, U, U', f1, f2, f3⟩
        · rw [f4, f6]
          simp only [Option.bind_some]
          rw [if_pos z_1]
          simp only [Option.bind_some]
          rw [if_neg n10, if_neg n10, if_neg n10, f5.2.2]
          simp only [Option.bind_some]
          rw [show nI i + (1 : Int32) = nI (i + 1) from nI_1 i]
          exact ih (i + 1) e M D2 _ _ _ _ _ _ _ _ _ _ _ _ _ _ _ _ _ _ _ _ _ _ _ _ f5 (by omega) f2 (by omega) ⟨d1, f3, d3, f7, d5, d6, d7⟩
        · rw [f2, f3]
          simp only [Option.bind_some]
          rw [if_pos z_0]
          simp only [Option.bind_some, if_true]
          exact Or.inr ⟨s2, _, _, _, _, by omega, rfl, rfl⟩
      rw [w1, Option.bind_some, if_pos (show (0 : Int32) = 0 from rfl)]
      rcases hw with ⟨w2, rfl⟩ | ⟨w2, u2, hw⟩
      · rw [w2, Option.bind_some, if_neg n10, if_neg (fun y => absurd ((lg_cmp_eq _ _).mp y) (by decide)), if_neg (fun y => absurd ((lg_cmp_eq _ _).mp y) (by decide)), if_pos ((lg_cmp_eq _ _).mpr (show lI (wc_ 2) = 12343 from rfl))]
        rcases k_law hx hs t0 t3 d5 with ⟨a, e, pl2, st2, tk2, v2, at2, kd2, b3, k3, v3, w3, f1, f2, f3, f4, f5, f6⟩ | ⟨s2, pl2, tk2, v2, lt2, dl2, at3, k3, rl2, w3, f1, f2, f3⟩
        · rw [f4, f6]
          simp only [Option.bind_some]
          rw [if_pos z_1]
          simp only [Option.bind_some]
          rw [if_neg n10, if_neg n10, if_neg n10, f5.2.2]
          simp only [Option.bind_some]
          rw [show nI i + (1 : Int32) = nI (i + 1) from nI_1 i]
          exact ih (i + 1) e M D _ _ _ _ _ _ _ _ _ _ _ _ _ _ _ _ _ _ _ _ _ _ _ _ f5 (by omega) f2 (by omega) ⟨d1, d2, d3, d4, Or.inr ⟨rfl, rfl, a, f3, rfl⟩, d6, d7⟩
        · rw [f2, f3]
          simp only [Option.bind_some]
          rw [if_pos z_0]
          simp only [Option.bind_some, if_true]
          exact Or.inr ⟨s2, _, _, _, _, by omega, rfl, rfl⟩
      rw [w2, Option.bind_some, if_pos (show (0 : Int32) = 0 from rfl)]
      rcases hw with ⟨w3, rfl⟩ | ⟨w3, u3, hw⟩
      · rw [w3, Option.bind_some, if_neg n10, if_neg (fun y => absurd ((lg_cmp_eq _ _).mp y) (by decide)), if_neg (fun y => absurd ((lg_cmp_eq _ _).mp y) (by decide)), if_neg (fun y => absurd ((lg_cmp_eq _ _).mp y) (by decide)), if_pos ((lg_cmp_eq _ _).mpr (show lI (wc_ 3) = 635184 from rfl))]
        rcases k_slip hx hs t0 t3 d6 with ⟨a, e, pl2, st2, tk2, v2, at2, kd2, b3, k3, v3, w3, f1, f2, f3, f4, f5, f6⟩ | ⟨s2, pl2, tk2, v2, lt2, dl2, at3, k3, rl2, w3, f1, f2, f3⟩
        · rw [f4, f6]
          simp only [Option.bind_some]
          rw [if_pos z_1]
          simp only [Option.bind_some]
          rw [if_neg n10, if_neg n10, if_neg n10, f5.2.2]
          simp only [Option.bind_some]
          rw [show nI i + (1 : Int32) = nI (i + 1) from nI_1 i]
          exact ih (i + 1) e M D _ _ _ _ _ _ _ _ _ _ _ _ _ _ _ _ _ _ _ _ _ _ _ _ f5 (by omega) f2 (by omega) ⟨d1, d2, d3, d4, d5, Or.inr ⟨rfl, rfl, a, f3, rfl⟩, d7⟩
        · rw [f2, f3]
          simp only [Option.bind_some]
          rw [if_pos z_0]
          simp only [Option.bind_some, if_true]
          exact Or.inr ⟨s2, _, _, _, _, by omega, rfl, rfl⟩
      rw [w3, Option.bind_some, if_pos (show (0 : Int32) = 0 from rfl)]
      rcases hw with ⟨w4, rfl⟩ | ⟨w4, u4⟩
      · rw [w4, Option.bind_some, if_neg n10, if_neg (fun y => absurd ((lg_cmp_eq _ _).mp y) (by decide)), if_neg (fun y => absurd ((lg_cmp_eq _ _).mp y) (by decide)), if_neg (fun y => absurd ((lg_cmp_eq _ _).mp y) (by decide)), if_neg (fun y => absurd ((lg_cmp_eq _ _).mp y) (by decide)), if_pos ((lg_cmp_eq _ _).mpr (show lI (wc_ 4) = 638407 from rfl))]
        rcases k_song hx hs t0 t3 d1 d7 with ⟨l, e, pl2, st2, tk2, v2, at2, kd2, b3, k3, v3, w3, ds2, rs2, f1, f2, f3, f4, f5, f6, f7, f8⟩ | ⟨s2, pl2, tk2, v2, at3, k3, w3, U, U', f1, f2, f3⟩
        · rw [f5, f7]
          simp only [Option.bind_some]
          rw [if_neg n10]
          simp only [Option.bind_some]
          rw [if_neg n10, if_neg n10, if_neg n10, f6.2.2]
          simp only [Option.bind_some]
          rw [show nI i + (1 : Int32) = nI (i + 1) from nI_1 i]
          exact ih (i + 1) e M D _ _ _ _ _ _ _ _ _ _ _ _ _ _ _ _ _ _ _ _ _ _ _ _ f6 (by omega) f2 (by omega) ⟨d1, d2, d3, d4, d5, d6, Or.inr ⟨rfl, l, f3, f4, rfl, rfl, f8⟩⟩
        · rw [f2, f3]
          simp only [Option.bind_some, if_true]
          exact Or.inr ⟨s2, _, _, _, _, by omega, rfl, rfl⟩
      rw [w4, Option.bind_some, if_pos (show (0 : Int32) = 0 from rfl)]
      rw [if_neg (wcn (c := 21662073957) u0 rfl), if_neg (wcn (c := 149808) u1 rfl), if_neg (wcn (c := 12343) u2 rfl), if_neg (wcn (c := 635184) u3 rfl), if_neg (wcn (c := 638407) u4 rfl), if_pos rfl]
      simp only [Option.bind_some, if_true]
      rw [es]
      exact Or.inr ⟨s, _, _, _, _, by omega, rfl, rfl⟩
    · rw [if_neg (show ¬ (4 : Int32) = 0 by decide)]
      unfold F_X9_readItem F_X9_read_63
      rw [if_neg (show ¬ (4 : Int32) = 1 by decide)]
      rcases hw with rfl | ⟨rfl, -⟩
      · rw [if_neg (show ¬ (4 : Int32) = 0 by decide), if_neg (show ¬ (4 : Int32) = 1 by decide), if_pos rfl]
        simp only [Option.bind_some, if_true]
        rw [es]
        exact Or.inr ⟨s, _, _, _, _, by omega, rfl, rfl⟩
      · rw [if_neg (show ¬ (2 : Int32) = 0 by decide), if_neg (show ¬ (2 : Int32) = 1 by decide), if_pos rfl]
        simp only [Option.bind_some, if_true]
        rw [es]
        exact Or.inr ⟨s, _, _, _, _, by omega, rfl, rfl⟩
/-- the text read -/
theorem k_read (hx : TX_ N ch bytes text) (pl st tk v lt slt gt dm dD dl dsl dsn a b k rm rD rl rsl rn : Int32) (w : Int64) (dw dn dd dr ds rt rd rs : Nat → Int32) : RD_ N (F_X9_read bytes (nI N) pl st tk v lt slt gt dw dn dd dr ds dm dD dl dsl dsn) (F_X12_takesAll text (nI N) a b k w rm rD rl rsl rn rt rd rs) := by
  have hN := hx.1
  unfold F_X9_read F_X12_takesAll F_X3_untell
  obtain ⟨pl2, st2, tk2, v2, at2, kd2, v3, s1, s2⟩ := k_scan hx (p := 0) (by omega) st tk v
  rw [nI_0] at s1
  have s3 := s2.2.2 b k w
  rw [nI_0] at s3
  rw [if_pos (show ok_I (0 : Int32) 8 = true by decide), show (0 : Int32).toNatClampNeg = 0 by decide, s3]
  simp only [Option.bind_some]
  rw [s1]
  simp only [Option.bind_some]
  have key := k_all hx FU_ 0 0 0 0 pl2 st2 tk2 v2 at2 kd2 0 0 0 0 0 1 (-1) (-1) 0 v3 dw dn dd dr (upd ds 0 0) rt rd rs s2 (by omega) (by omega) (by unfold FU_; omega) ⟨by omega, by omega, fun t h => absurd h (by omega), fun t h => absurd h (by omega), Or.inl ⟨rfl, rfl, rfl⟩, Or.inl ⟨rfl, rfl, rfl⟩, Or.inl ⟨rfl, rfl, pk_us, rfl⟩⟩
  rw [nI_0] at key
  exact key
end HL6
