/-! own: hill: numbers, and one token of both -/
section HL2
variable {N s m p : Nat} {ch : Nat → Nat} {bytes text : Nat → Int32}
def dv_ (ch : Nat → Nat) (s : Nat) : Nat → Nat
  | 0 => 0
  | m + 1 => min 100 (dv_ ch s m * 10 + (ch (s + m) - 48))
def tv_ (ch : Nat → Nat) (s : Nat) : Nat → Nat
  | 0 => 0
  | m + 1 => 10 * tv_ ch s m + (ch (s + m) - 48)
def rv_ (ch : Nat → Nat) (s m : Nat) : Int64 := if m ≤ 2 then lI (tv_ ch s m) else 1000
theorem dv_b (ch : Nat → Nat) (s : Nat) : ∀ m, dv_ ch s m ≤ 100
  | 0 => by simp [dv_]
  | m + 1 => by rw [dv_]; omega
theorem tl_100 : (100 : Int32).toInt = 100 := rfl
theorem k_num (hx : TX_ N ch bytes text) : ∀ (n m : Nat), s + m ≤ N → N - (s + m) < n → (∀ j, j < m → dg_c (ch (s + j))) → ∃ m', m ≤ m' ∧ s + m' ≤ N ∧ (∀ j, j < m' → dg_c (ch (s + j))) ∧ (s + m' < N → ¬ dg_c (ch (s + m'))) ∧ F_X9_numberAtPlace_5 bytes (nI N) (nI s) n (nI (s + m)) (nI (dv_ ch s m)) = F_X9_numberAtPlace_69 bytes (nI N) (nI s) (nI (s + m')) (nI (dv_ ch s m')) ∧ F_X12_next_237 text (nI N) n (nI (s + m)) (nI s) 2 (rv_ ch s m) = F_X12_next_330 text (nI N) (nI (s + m')) (nI s) 2 (rv_ ch s m') := by
  have hN := hx.1
  intro n
  induction n with
  | zero => intro m _ h; exact absurd h (by omega)
  | succ n ih =>
    intro m hm hn hl
    rw [F_X9_numberAtPlace_5, F_X12_next_237, if_pos (show (2 : Int32) = 2 from rfl)]
    by_cases h : N ≤ s + m
    · have z := (nI_leI (a := N) (b := s + m) (by omega) (by omega)).mpr h
      rw [if_pos z, if_pos z]
      exact ⟨m, by omega, hm, hl, fun q => absurd q (by omega), rfl, rfl⟩
    · have z : ¬ nI N ≤ nI (s + m) := fun z => h ((nI_leI (by omega) (by omega)).mp z)
      obtain ⟨c1, c2, c3⟩ := hx.2 (s + m) (by omega)
      have ok : ok_I (nI (s + m)) 300 = true := ok_T (by omega) (by omega)
      rw [if_neg z, if_neg z, k_cd hx (q := s + m) (by omega), Option.bind_some, if_pos (c := ok_I (nI (s + m)) 300 = true) ok, if_pos (c := ok_I (nI (s + m)) 300 = true) ok, nI_clamp (n := s + m) (by omega), c2, k_rd c1, Option.bind_some]
      by_cases e : dg_c (ch (s + m))
      · rw [if_pos e, if_neg (show ¬ (1 : Int32) = 0 by decide), if_neg (show ¬ (1 : Int32) = 0 by decide), show nI (s + m) - nI s = nI m by rw [pk_sub (by omega), Nat.add_sub_cancel_left]]
        have hl' : ∀ j, j < m + 1 → dg_c (ch (s + j)) := fun j hj => by
          by_cases q : j = m
          · subst q; exact e
          · exact hl j (by omega)
        obtain ⟨m', i1, i2, i3, i4, i5, i6⟩ := ih (m + 1) (by omega) (by omega) hl'
        have e2 := e
        unfold dg_c at e2
        refine ⟨m', by omega, i2, i3, i4, ?_, ?_⟩
        · rw [show nI (s + m) + (1 : Int32) = nI (s + (m + 1)) from nI_1 (s + m), ← i5, c3, ch_dg _ c1 e]
          congr 1
          have db := dv_b ch s m
          rw [show nI (dv_ ch s m) * (10 : Int32) + nI (ch (s + m)) - 48 = nI (dv_ ch s m * 10 + (ch (s + m) - 48)) by
            rw [show nI (dv_ ch s m) * (10 : Int32) = nI (dv_ ch s m * 10) from pk_mul _ 10, nI_add]
            rw [show nI (dv_ ch s m * 10 + ch (s + m)) - (48 : Int32) = nI (dv_ ch s m * 10 + ch (s + m) - 48) from pk_sub (b := 48) (by omega)]
            congr 1
            omega, dv_]
          by_cases q : dv_ ch s m * 10 + (ch (s + m) - 48) < 100
          · rw [if_pos ((lt_of (ti_nI (by omega)) tl_100).mpr (by omega))]
            congr 1
            omega
          · rw [if_neg (fun y => absurd ((lt_of (ti_nI (by omega)) tl_100).mp y) (by omega)), show min 100 (dv_ ch s m * 10 + (ch (s + m) - 48)) = 100 by omega]
            rfl
        · by_cases q : 2 ≤ m
          · rw [if_pos ((le_of tl_2 (ti_nI (n := m) (by omega))).mpr (by omega)), F_X12_next_314, show nI (s + m) + (1 : Int32) = nI (s + (m + 1)) from nI_1 (s + m), ← i6]
            congr 1
            unfold rv_
            rw [if_neg (by omega)]
          · rw [if_neg (fun y => absurd ((le_of tl_2 (ti_nI (n := m) (by omega))).mp y) (by omega)), F_X12_next_314, show nI (s + m) + (1 : Int32) = nI (s + (m + 1)) from nI_1 (s + m), ← i6]
            congr 1
            unfold rv_
            rw [if_pos (by omega), if_pos (by omega), lI_nI (by omega), show (10 : Int64) = lI 10 from rfl, show (48 : Int64) = lI 48 from rfl, lI_mul, lI_add, lI_sub]
            congr 1
            rw [tv_]
            omega
      · rw [if_neg e, if_pos rfl, if_pos rfl]
        exact ⟨m, by omega, hm, hl, fun _ => e, rfl, rfl⟩
theorem dv_3 (h0 : ∀ j, j < m → dg_c (ch (s + j))) (h1 : ch s ≠ 48) : 3 ≤ m → dv_ ch s m = 100 := by
  have h00 : ∀ j, j < m → 48 ≤ ch (s + j) ∧ ch (s + j) ≤ 57 := h0
  have key : ∀ i, 3 ≤ i → i ≤ m → dv_ ch s i = 100 := by
    intro i
    induction i with
    | zero => intro h; exact absurd h (by omega)
    | succ i ih =>
      intro h hi
      by_cases q : i = 2
      · subst q
        have a := h00 0 (by omega)
        rw [Nat.add_zero] at a
        rw [dv_, dv_, dv_, dv_, Nat.add_zero]
        omega
      · rw [dv_, ih (by omega) (by omega)]
        omega
  exact fun h => key m h (Nat.le_refl m)
/-- one token of both -/
def tk_ (bytes : Nat → Int32) (pl st tk v kd : Int32) (v' : Int64) : Prop :=
  (tk = 0 ∧ kd = 0) ∨ (tk = 3 ∧ kd = 3) ∨ (∃ a : Nat, a ≤ 99 ∧ tk = 2 ∧ kd = 2 ∧ v = nI a ∧ v' = lI a) ∨ (tk = 1 ∧ kd = 1 ∧ WD_ bytes pl st v') ∨ (tk = 4 ∧ (kd = 4 ∨ (kd = 2 ∧ v' = 1000)))
theorem k_330 (hx : TX_ N ch bytes text) (h1 : 1 ≤ m) (hm : s + m ≤ N) (hl : ∀ j, j < m → dg_c (ch (s + j))) : ∃ (tk v kd : Int32) (v' : Int64), F_X9_numberAtPlace_69 bytes (nI N) (nI s) (nI (s + m)) (nI (dv_ ch s m)) = some (tk, nI (s + m), v) ∧ F_X12_next_330 text (nI N) (nI (s + m)) (nI s) 2 (rv_ ch s m) = some (nI (s + m), nI s, kd, v') ∧ tk_ bytes (nI (s + m)) (nI s) tk v kd v' := by
  have hN := hx.1
  obtain ⟨c1, c2, c3⟩ := hx.2 s (by omega)
  have h00 : ∀ j, j < m → 48 ≤ ch (s + j) ∧ ch (s + j) ≤ 57 := hl
  have a0 := h00 0 (by omega)
  rw [Nat.add_zero] at a0
  have ok : ok_I (nI s) 300 = true := ok_T (by omega) (by omega)
  have tl_99' : (99 : Int32).toInt = 99 := rfl
  have db := dv_b ch s m
  have sub : nI (s + m) - nI s = nI m := by rw [pk_sub (by omega), Nat.add_sub_cancel_left]
  unfold F_X9_numberAtPlace_69 F_X12_next_330
  rw [if_pos rfl, if_pos (c := ok_I (nI s) 300 = true) ok, if_pos (c := ok_I (nI s) 300 = true) ok, nI_clamp (n := s) (by omega), c2, c3, sub]
  have good : dv_ ch s m = tv_ ch s m → m ≤ 2 → dv_ ch s m ≤ 99 → ∃ (tk v kd : Int32) (v' : Int64), F_X9_numberAtPlace_100 bytes (nI N) (nI s) (nI (s + m)) (nI (dv_ ch s m)) = some (tk, nI (s + m), v) ∧ some (nI (s + m), nI s, (2 : Int32), rv_ ch s m) = some (nI (s + m), nI s, kd, v') ∧ tk_ bytes (nI (s + m)) (nI s) tk v kd v' := by
    intro e1 e2 e3
    refine ⟨2, nI (dv_ ch s m), 2, rv_ ch s m, ?_, rfl, Or.inr (Or.inr (Or.inl ⟨dv_ ch s m, e3, rfl, rfl, rfl, ?_⟩))⟩
    · unfold F_X9_numberAtPlace_100 F_X9_numberAtPlace_101
      rw [if_pos rfl, if_pos ((le_of (ti_nI (by omega)) tl_99').mpr (by omega))]
    · unfold rv_
      rw [if_pos e2, e1]
  by_cases q1 : m ≤ 1
  · have em : m = 1 := by omega
    subst em
    have le := (le_of (ti_nI (n := 1) (by omega)) tl_1).mpr (by omega)
    rw [if_pos le, if_pos le, ite_self]
    refine good ?_ (by omega) ?_
    · rw [dv_, dv_, tv_, tv_, Nat.add_zero]
      omega
    · rw [dv_, dv_, Nat.add_zero]
      omega
  · have le : ¬ nI m ≤ 1 := fun y => absurd ((le_of (ti_nI (n := m) (by omega)) tl_1).mp y) (by omega)
    rw [if_neg le, if_neg le]
    by_cases q2 : ch s = 48
    · rw [if_pos ((ch_ze _ c1).mpr q2), if_pos ((ch_r48 _ c1).mpr q2)]
      refine ⟨4, nI (dv_ ch s m), 4, rv_ ch s m, ?_, rfl, Or.inr (Or.inr (Or.inr (Or.inr ⟨rfl, Or.inl rfl⟩)))⟩
      unfold F_X9_numberAtPlace_101
      rw [if_neg (show ¬ (1 : Int32) = 0 by decide)]
    · rw [if_neg (fun y => q2 ((ch_ze _ c1).mp y)), if_neg (fun y => q2 ((ch_r48 _ c1).mp y))]
      by_cases q3 : m = 2
      · subst q3
        have a1 := h00 1 (by omega)
        refine good ?_ (by omega) ?_
        · rw [dv_, dv_, dv_, tv_, tv_, tv_, Nat.add_zero]
          omega
        · rw [dv_, dv_, dv_, Nat.add_zero]
          omega
      · have d3 := dv_3 hl q2 (by omega)
        refine ⟨4, nI (dv_ ch s m), 2, rv_ ch s m, ?_, rfl, Or.inr (Or.inr (Or.inr (Or.inr ⟨rfl, Or.inr ⟨rfl, ?_⟩⟩)))⟩
        · unfold F_X9_numberAtPlace_100 F_X9_numberAtPlace_101
          rw [if_pos rfl, if_neg (fun y => absurd ((le_of (ti_nI (by omega)) tl_99').mp y) (by omega))]
        · unfold rv_
          rw [if_neg (by omega)]
/-- the token that is at hand in the class is the one that the reference takes next -/
def SY_ (N : Nat) (bytes text : Nat → Int32) (p : Nat) (pl st tk v at' kd : Int32) (v' : Int64) : Prop :=
  (∃ s e : Nat, p ≤ s ∧ s ≤ N ∧ s ≤ e ∧ e ≤ N ∧ pl = nI e ∧ st = nI s ∧ (¬ tk = 0 → s < e) ∧ (¬ tk = 4 → at' = nI e)) ∧ tk_ bytes pl st tk v kd v' ∧ ∀ (b k : Int32) (w : Int64), F_X12_next text (nI N) (nI p) b k w = some (at', st, kd, v')
theorem k_118 {q : Nat} {k0 t1 : Int32} {w : Int64} (h3 : ¬ t1 = 3) : F_X12_next_118 text (nI N) (nI q) (nI q) k0 w t1 = F_X12_next_143 text (nI N) FU_ (nI q) (nI q) t1 w := by
  unfold F_X12_next_118
  rw [if_neg h3, Int32.add_zero]
theorem k_scan (hx : TX_ N ch bytes text) (hp : p ≤ N) (st0 tk0 v0 : Int32) : ∃ (pl st tk v at' kd : Int32) (v' : Int64), F_X9_advance bytes (nI N) (nI p) st0 tk0 v0 = some (pl, st, tk, v) ∧ SY_ N bytes text p pl st tk v at' kd v' := by
  have hN := hx.1
  obtain ⟨q, q1, q2, q3, q4⟩ := k_space hx FU_ p hp (by unfold FU_; omega)
  have z1 : F_X9_advance bytes (nI N) (nI p) st0 tk0 v0 = F_X9_advance_38 bytes (nI N) (nI q) st0 tk0 v0 := by rw [F_X9_advance, q3]
  have z2 : ∀ (b k : Int32) (w : Int64), F_X12_next text (nI N) (nI p) b k w = F_X12_next_38 text (nI N) (nI q) b k w := fun b k w => by rw [F_X12_next, q4]
  rw [z1]
  unfold F_X9_advance_38
  by_cases h : N ≤ q
  · have eq : q = N := by omega
    subst eq
    have le := (nI_leI (a := q) (b := q) (by omega) (by omega)).mpr h
    rw [if_neg (fun y => absurd ((nI_ltI (by omega) (by omega)).mp y) (by omega))]
    refine ⟨_, _, _, _, nI q, 0, 0, rfl, ⟨q, q, q1, by omega, by omega, by omega, rfl, rfl, fun y => absurd rfl y, fun _ => rfl⟩, Or.inl ⟨rfl, rfl⟩, fun b k w => ?_⟩
    rw [z2, F_X12_next_38, if_pos le, F_X12_next_75, if_neg (show ¬ (0 : Int32) ≤ -1 by decide), k_118 (by decide), k_143 (by decide), k_237 (by decide)]
  · obtain ⟨c1, c2, c3⟩ := hx.2 q (by omega)
    have ok : ok_I (nI q) 300 = true := ok_T (by omega) (by omega)
    have nle : ¬ nI N ≤ nI q := fun y => h ((nI_leI (by omega) (by omega)).mp y)
    have z3 : ∀ (b k : Int32) (w : Int64), F_X12_next text (nI N) (nI p) b k w = F_X12_next_75 text (nI N) (nI q) (nI q) k 0 (nI (ch q)) := fun b k w => by rw [z2, F_X12_next_38, if_neg nle, if_pos ok, nI_clamp (n := q) (by omega), c2]
    rw [if_pos ((nI_ltI (by omega) (by omega)).mpr (by omega)), k_cl hx (q := q) (by omega), Option.bind_some]
    have n1 : ¬ (1 : Int32) = 0 := by decide
    by_cases e1 : le_c (ch q)
    · rw [if_pos e1, if_neg n1]
      obtain ⟨m, m1, m2, m3, m4, m5, m6⟩ := k_word (s := q) hx FU_ 0 (by omega) (by unfold FU_; omega) (fun j hj => absurd hj (by omega))
      have m0 : 1 ≤ m := by
        apply Classical.byContradiction
        intro hn
        have em : m = 0 := by omega
        subst em
        exact m4 (by omega) e1
      rw [Nat.add_zero] at m5 m6
      rw [F_X9_wordAtPlace, m5, Option.bind_some]
      refine ⟨nI (q + m), nI q, 1, v0, nI (q + m), 1, vl_ ch q m, rfl, ⟨q, q + m, q1, by omega, by omega, m2, rfl, rfl, fun _ => by omega, fun _ => rfl⟩, Or.inr (Or.inr (Or.inr (Or.inl ⟨rfl, rfl, k_wd (s := q) hx m2 m3⟩))), fun b k w => ?_⟩
      · have v00 : vl_ ch q 0 = 0 := rfl
        rw [v00] at m6
        rw [z3, F_X12_next_75, if_pos (ch_0 _ c1), k_rl c1, Option.bind_some, if_pos e1, if_neg n1, k_118 (by decide), m6, k_237 (by decide)]
    · rw [if_neg e1, if_pos rfl, k_cd hx (q := q) (by omega), Option.bind_some]
      by_cases e2 : dg_c (ch q)
      · rw [if_pos e2, if_neg n1]
        obtain ⟨m, m1, m2, m3, m4, m5, m6⟩ := k_num (s := q) hx FU_ 0 (by omega) (by unfold FU_; omega) (fun j hj => absurd hj (by omega))
        have m0 : 1 ≤ m := by
          apply Classical.byContradiction
          intro hn
          have em : m = 0 := by omega
          subst em
          exact m4 (by omega) e2
        rw [Nat.add_zero] at m5 m6
        obtain ⟨tk, v, kd, v', k1, k2, k3⟩ := k_330 (s := q) hx m0 m2 m3
        have d00 : nI (dv_ ch q 0) = 0 := rfl
        have r00 : rv_ ch q 0 = 0 := rfl
        rw [d00] at m5
        rw [r00] at m6
        rw [F_X9_numberAtPlace, m5, k1, Option.bind_some]
        refine ⟨nI (q + m), nI q, tk, v, nI (q + m), kd, v', rfl, ⟨q, q + m, q1, by omega, by omega, m2, rfl, rfl, fun _ => by omega, fun _ => rfl⟩, k3, fun b k w => ?_⟩
        rw [z3, F_X12_next_75, if_pos (ch_0 _ c1), k_rl c1, Option.bind_some, if_neg e1, if_pos rfl, k_rd c1, Option.bind_some, if_pos e2, if_neg n1, k_118 (by decide), k_143 (by decide), m6, k2]
      · rw [if_neg e2, if_pos rfl, if_pos ok, nI_clamp (n := q) (by omega), c3]
        have z4 : ∀ (b k : Int32) (w : Int64), F_X12_next text (nI N) (nI p) b k w = if nI (ch q) = 59 then F_X12_next_118 text (nI N) (nI q) (nI q) k 0 3 else F_X12_next_118 text (nI N) (nI q) (nI q) k 0 4 := fun b k w => by
          rw [z3, F_X12_next_75, if_pos (ch_0 _ c1), k_rl c1, Option.bind_some, if_neg e1, if_pos rfl, k_rd c1, Option.bind_some, if_neg e2, if_pos rfl]
        have e5 : nI q + (1 : Int32) = nI (q + 1) := nI_1 q
        by_cases e3 : ch q = 59
        · rw [if_pos ((ch_sm _ c1).mpr e3), F_X9_advance_129]
          refine ⟨_, _, _, _, nI (q + 1), 3, 0, rfl, ⟨q, q + 1, q1, by omega, by omega, by omega, e5, rfl, fun _ => by omega, fun _ => rfl⟩, Or.inr (Or.inl ⟨rfl, rfl⟩), fun b k w => ?_⟩
          rw [z4, if_pos ((ch_r59 _ c1).mpr e3), F_X12_next_118, if_pos rfl, k_143 (by decide), k_237 (by decide), e5]
        · rw [if_neg (fun y => e3 ((ch_sm _ c1).mp y)), F_X9_advance_129]
          refine ⟨_, _, _, _, nI q, 4, 0, rfl, ⟨q, q + 1, q1, by omega, by omega, by omega, e5, rfl, fun _ => by omega, fun y => absurd rfl y⟩, Or.inr (Or.inr (Or.inr (Or.inr ⟨rfl, Or.inl rfl⟩))), fun b k w => ?_⟩
          rw [z4, if_neg (fun y => e3 ((ch_r59 _ c1).mp y)), k_118 (by decide), k_143 (by decide), k_237 (by decide)]
end HL2
