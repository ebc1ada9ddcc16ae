theorem na_d (a b : Nat) : nI a &&& nI b = nI (a &&& b) := by
  apply Int32.toBitVec_inj.1
  show BitVec.ofNat 32 a &&& BitVec.ofNat 32 b = BitVec.ofNat 32 (a &&& b)
  apply BitVec.eq_of_getLsbD_eq
  intro i hi
  simp [hi]
theorem bt_1 : ∀ h, h < 64 → ∀ a, a < 6 → (nI h >>> (nI a &&& 31)) &&& 1 = nI (h / 2 ^ a % 2) := by decide +kernel
theorem bt_2 : ∀ m, m < 64 → ∀ T, T < 7 → ∀ a, a < T → (m &&& (2 ^ T - 1)) / 2 ^ a % 2 = m / 2 ^ a % 2 := by decide +kernel
theorem bt_3 : ∀ m, m < 64 → ∀ T, T < 7 → ∀ a, a < T → ∀ b, b < T → nI (m &&& (2 ^ T - 1)) &&& (((1 : Int32) <<< (nI a &&& 31)) ||| ((1 : Int32) <<< (nI b &&& 31))) = (((1 : Int32) <<< (nI a &&& 31)) ||| ((1 : Int32) <<< (nI b &&& 31))) &&& nI m := by decide +kernel
theorem bt_4 : ∀ m, m < 64 → m &&& 63 = m := by decide +kernel
theorem bt_5 : ∀ T, T < 7 → 63 &&& (2 ^ T - 1) = 2 ^ T - 1 := by decide
theorem bt_6 {m c T : Nat} : (m &&& c) &&& (2 ^ T - 1) = (m &&& (2 ^ T - 1)) &&& c := by
  rw [Nat.and_assoc, Nat.and_comm c, Nat.and_assoc]
theorem FU_s : FU_ = 7999 + 1 := rfl
section CO6
variable {k T : Nat} {te da la sl sL many days law slip len : Int32} {cn cd cr cs mn md mr ms : Nat → Int32}
variable {w lk st ss w' lk' st' ss' : Nat → Int32} {day left turn lot seen day' left' turn' lot' seen' : Int32}
/-- what was heard of a turn: the class's set is the reference's, among the terraces -/
theorem e_heard {S : Nat} (hT : T ≤ 6) (hS : S ≤ 8) (hs : ∀ j, j < S → st j = st' j ∧ ss j = ss' j ∧ ∃ b : Nat, b < 2 ^ T ∧ ss' j = nI b) (x : Int32) : ∀ (n i m : Nat), i ≤ S → S - i < n → m < 64 → ∃ m2 : Nat, m2 < 64 ∧ F_X7_heardOf_5 st ss (nI S) n x (nI (m &&& (2 ^ T - 1))) (nI i) = some (nI (m2 &&& (2 ^ T - 1))) ∧ F_X12_heard_5 (nI S) st' ss' n x (nI m) (nI i) = some (nI m2) := by
  have hp := pw_b T (by omega)
  intro n
  induction n with
  | zero => intro i m _ h; exact absurd h (by omega)
  | succ n ih =>
    intro i m hi hn hm
    rw [F_X7_heardOf_5, F_X12_heard_5]
    by_cases h : S ≤ i
    · have z := (nI_leI (a := S) (b := i) (by omega) (by omega)).mpr h
      rw [if_pos z, if_pos z]
      exact ⟨m, hm, rfl, rfl⟩
    · have z : ¬ nI S ≤ nI i := fun z => h ((nI_leI (by omega) (by omega)).mp z)
      have oi : ok_I (nI i) 8 = true := ok_T (by omega) (by omega)
      obtain ⟨c1, c2, b, hb, c3⟩ := hs i (by omega)
      rw [if_neg z, if_neg z, if_pos oi, if_pos oi, nI_clamp (n := i) (by omega), c1, c2, c3, show nI i + (1 : Int32) = nI (i + 1) from nI_1 i]
      by_cases q : st' i = x
      · rw [if_pos q, if_pos q, na_d, na_d, ← bt_6]
        exact ih (i + 1) (m &&& b) (by omega) (by omega) (Nat.lt_of_le_of_lt Nat.and_le_left hm)
      · rw [if_neg q, if_neg q, show nI m &&& (63 : Int32) = nI m from (na_d m 63).trans (by rw [bt_4 m hm])]
        exact ih (i + 1) m (by omega) (by omega) hm
/-- the ways of a turn: both alike -/
theorem e_ways {S L i : Nat} (hT : T ≤ 6) (hT0 : 1 ≤ T) (hS : S ≤ 8) (hs : ∀ j, j < S → st j = st' j ∧ ss j = ss' j ∧ ∃ b : Nat, b < 2 ^ T ∧ ss' j = nI b) (l1 : 1 ≤ L) (l8 : L ≤ 8) (hg : ∀ j, j < L → cs j = ms j ∧ ∃ a : Nat, a < max 1 T ∧ ms j = nI a) (hi : i < 1000) : ∃ v : Int32, F_X10_waysOfTurn cs (nI T) (nI L) st ss (nI S) (nI i) = some v ∧ F_X12_waysOf (nI T) (nI L) ms (nI S) st' ss' (nI i) = some v := by
  have hm : i % L < L := Nat.mod_lt _ (by omega)
  obtain ⟨m, hm64, e1, e2⟩ := e_heard (T := T) (st := st) (ss := ss) (st' := st') (ss' := ss') hT hS hs (nI i) FU_ 0 63 (by omega) (by unfold FU_; omega) (by omega)
  rw [bt_5 T (by omega)] at e1
  have e1 : F_X7_heardOf st ss (nI S) (nI i) (nI (2 ^ T - 1)) = some (nI (m &&& (2 ^ T - 1))) := e1
  have e2 : F_X12_heard (nI S) st' ss' (nI i) = some (nI m) := e2
  obtain ⟨g1, a, ha, g2⟩ := hg (i % L) hm
  have ha : a < T := by omega
  have hb : (a + 1) % T < T := Nat.mod_lt _ (by omega)
  have hLn : ¬ nI L = 0 := nI_ne0 (by omega) (by omega)
  have hTn : ¬ nI T = 0 := nI_ne0 (by omega) (by omega)
  have hlt : m &&& (2 ^ T - 1) < 64 := Nat.lt_of_le_of_lt Nat.and_le_left hm64
  unfold F_X10_waysOfTurn F_X12_waysOf
  rw [e_all hT]
  simp only [Option.bind_some, i_10, if_true, if_false]
  rw [e1]
  simp only [Option.bind_some, i_10, if_true, if_false]
  rw [e_sung l1 l8 (by omega), g1, g2]
  simp only [Option.bind_some, i_10, if_true, if_false]
  rw [e_next hT ha, if_neg hLn, pk_rem (a := i) (d := L) (by omega) (by omega) (by omega), if_pos (ok_T (by omega) (by omega)), nI_clamp (n := i % L) (by omega), g2, e2]
  simp only [Option.bind_some, i_10, if_true, if_false]
  rw [if_neg hTn, show nI a + (1 : Int32) = nI (a + 1) from nI_1 a, pk_rem (a := a + 1) (d := T) (by omega) (by omega) (by omega), bt_1 _ hlt a (by omega), bt_1 _ hlt _ (by omega), bt_1 m hm64 a (by omega), bt_1 m hm64 _ (by omega), bt_2 m hm64 T (by omega) a ha, bt_2 m hm64 T (by omega) _ hb]
  exact ⟨_, rfl, rfl⟩
theorem e_prod {S L N : Nat} (hT : T ≤ 6) (hT0 : 1 ≤ T) (hS : S ≤ 8) (hs : ∀ j, j < S → st j = st' j ∧ ss j = ss' j ∧ ∃ b : Nat, b < 2 ^ T ∧ ss' j = nI b) (l1 : 1 ≤ L) (l8 : L ≤ 8) (hg : ∀ j, j < L → cs j = ms j ∧ ∃ a : Nat, a < max 1 T ∧ ms j = nI a) (hN : N ≤ 12) : ∀ (n i : Nat) (y : Int32), i ≤ N → N - i < n → ∃ v : Int32, F_X10_waysHeard_6 cs (nI T) (nI L) st ss (nI S) n (nI N) y (nI i) = some v ∧ F_X12_couldBe_15 (nI T) (nI L) ms (nI S) st' ss' n (nI N) y (nI i) = some v := by
  intro n
  induction n with
  | zero => intro i y _ h; exact absurd h (by omega)
  | succ n ih =>
    intro i y hi hn
    rw [F_X10_waysHeard_6, F_X12_couldBe_15]
    by_cases h : N ≤ i
    · have z := (nI_leI (a := N) (b := i) (by omega) (by omega)).mpr h
      rw [if_pos z, if_pos z]
      exact ⟨y, rfl, rfl⟩
    · have z : ¬ nI N ≤ nI i := fun z => h ((nI_leI (by omega) (by omega)).mp z)
      obtain ⟨v, e1, e2⟩ := e_ways (T := T) (cs := cs) (ms := ms) (st := st) (ss := ss) (st' := st') (ss' := ss') (i := i) hT hT0 hS hs l1 l8 hg (by omega)
      rw [if_neg z, if_neg z, if_neg (nI_nle (by omega) (by omega)), e1, e2]
      simp only [Option.bind_some, i_10, if_true, if_false]
      rw [show nI i + (1 : Int32) = nI (i + 1) from nI_1 i]
      exact ih (i + 1) (y * v) (by omega) (by omega)
/-- with no terrace there is no way -/
theorem e_none {S L N : Nat} (hS : S ≤ 8) (hs : ∀ j, j < S → st j = st' j ∧ ss j = ss' j ∧ ∃ b : Nat, b < 2 ^ 0 ∧ ss' j = nI b) (l1 : 1 ≤ L) (l8 : L ≤ 8) (hg : ∀ j, j < L → cs j = ms j ∧ ∃ a : Nat, a < max 1 0 ∧ ms j = nI a) (h1 : 1 ≤ N) (hN : N ≤ 12) : F_X10_waysHeard cs (nI 0) (nI L) st ss (nI S) (nI N) = some 0 := by
  have ways : ∀ i, i < 1000 → F_X10_waysOfTurn cs (nI 0) (nI L) st ss (nI S) (nI i) = some 0 := by
    intro i hi
    have hm : i % L < L := Nat.mod_lt _ (by omega)
    obtain ⟨m, hm64, e1, -⟩ := e_heard (T := 0) (st := st) (ss := ss) (st' := st') (ss' := ss') (by omega) hS hs (nI i) FU_ 0 63 (by omega) (by unfold FU_; omega) (by omega)
    rw [show (63 &&& (2 ^ 0 - 1) : Nat) = 0 from rfl, show (m &&& (2 ^ 0 - 1) : Nat) = 0 from Nat.and_zero m] at e1
    have e1 : F_X7_heardOf st ss (nI S) (nI i) (nI 0) = some (nI 0) := e1
    obtain ⟨g1, a, ha, g2⟩ := hg (i % L) hm
    have ha : a = 0 := by omega
    subst ha
    unfold F_X10_waysOfTurn
    rw [show F_X3_allBits (nI 0) = some (nI 0) from rfl]
    simp only [Option.bind_some, i_10, if_true, if_false]
    rw [e1]
    simp only [Option.bind_some, i_10, if_true, if_false]
    rw [e_sung l1 l8 (by omega), g1, g2]
    rfl
  have loop : ∀ (n i : Nat), i ≤ N → N - i < n → F_X10_waysHeard_6 cs (nI 0) (nI L) st ss (nI S) n (nI N) 0 (nI i) = some 0 := by
    intro n
    induction n with
    | zero => intro i _ h; exact absurd h (by omega)
    | succ n ih =>
      intro i hi hn
      rw [F_X10_waysHeard_6]
      by_cases h : N ≤ i
      · rw [if_pos ((nI_leI (a := N) (b := i) (by omega) (by omega)).mpr h)]
      · rw [if_neg (fun z => h ((nI_leI (by omega) (by omega)).mp z)), ways i (by omega)]
        simp only [Option.bind_some, i_10, if_true, if_false]
        rw [show nI i + (1 : Int32) = nI (i + 1) from nI_1 i, show (0 : Int32) * 0 = 0 from rfl]
        exact ih (i + 1) (by omega) (by omega)
  have first : ∀ n, 12 < n → F_X10_waysHeard_6 cs (nI 0) (nI L) st ss (nI S) (n + 1) (nI N) 1 0 = some 0 := by
    intro n hn
    rw [F_X10_waysHeard_6, if_neg (fun z => absurd ((le_of (ti_nI (n := N) (by omega)) tl_0).mp z) (by omega)), show (0 : Int32) = nI 0 from rfl, ways 0 (by omega)]
    simp only [Option.bind_some, i_10, if_true, if_false]
    exact loop n 1 (by omega) (by omega)
  unfold F_X10_waysHeard
  rw [FU_s]
  exact first 7999 (by omega)
theorem e_could {S L N : Nat} (hT : T ≤ 6) (hS : S ≤ 8) (hs : ∀ j, j < S → st j = st' j ∧ ss j = ss' j ∧ ∃ b : Nat, b < 2 ^ T ∧ ss' j = nI b) (l1 : 1 ≤ L) (l8 : L ≤ 8) (hg : ∀ j, j < L → cs j = ms j ∧ ∃ a : Nat, a < max 1 T ∧ ms j = nI a) (h1 : 1 ≤ N) (hN : N ≤ 12) : ∃ v : Int32, F_X10_waysHeard cs (nI T) (nI L) st ss (nI S) (nI N) = some v ∧ F_X12_couldBe (nI T) (nI L) ms (nI S) st' ss' (nI N) = some v ∧ (T = 0 → v = 0) := by
  by_cases hT0 : T = 0
  · subst hT0
    refine ⟨0, e_none hS hs l1 l8 hg h1 hN, ?_, fun _ => rfl⟩
    unfold F_X12_couldBe
    rw [if_pos (show nI 0 = 0 from rfl)]
    rw [FU_s, F_X12_couldBe_15, if_neg (fun z => absurd ((le_of (ti_nI (n := N) (by omega)) tl_0).mp z) (by omega)), if_pos (show nI 0 ≤ 0 by decide)]
  · obtain ⟨v, e1, e2⟩ := e_prod (T := T) (cs := cs) (ms := ms) (st := st) (ss := ss) (st' := st') (ss' := ss') hT (by omega) hS hs l1 l8 hg hN FU_ 0 1 (by omega) (by unfold FU_; omega)
    refine ⟨v, e1, ?_, fun h => absurd h hT0⟩
    unfold F_X12_couldBe
    rw [if_neg (nI_ne0 (by omega) (by omega))]
    exact e2
theorem CO_could (hk : k < 600) (hH : IH_ T te da la sl sL cn cd cr cs many days law slip len mn md mr ms) (hN : IN_ k T w lk st ss day left turn lot seen w' lk' st' ss' day' left' turn' lot' seen') (x1 : Int32) : ∃ (u1 u2 : Int32), F_X11_could cs te sL st ss seen x1 = some u1 ∧ F_X12_could many len ms seen' st' ss' x1 = some u2 ∧ u1 = u2 := by
  obtain ⟨hT, rfl, rfl, -, -, -, ⟨L, l1, l8, rfl, rfl, hg⟩, -⟩ := hH
  obtain ⟨-, -, -, -, ⟨S, hS, rfl, rfl, hs⟩, -⟩ := hN
  have t1 : (1 : Int32).toInt = 1 := rfl
  have t12 : (12 : Int32).toInt = 12 := rfl
  have i1 : (1 : Int64).toInt = 1 := rfl
  have i12 : (12 : Int64).toInt = 12 := rfl
  unfold F_X11_could F_X12_could
  rw [e_in, i1, i12]
  by_cases p : 1 ≤ x1.toInt ∧ x1.toInt ≤ 12
  · obtain ⟨N, hN, rfl⟩ := ix_nI (x := x1) (T := 13) (by omega) (by omega)
    have tN := ti_nI (n := N) (by omega)
    obtain ⟨v, e1, e2, -⟩ := e_could (N := N) hT hS hs l1 l8 hg (by omega) (by omega)
    rw [if_pos p, if_neg (fun z => absurd ((lt_of rfl t1).mp z) (by omega)), if_pos ((le_of rfl t12).mpr (by omega)), e1, e2]
    exact ⟨_, _, rfl, rfl, rfl⟩
  · rw [if_neg p]
    by_cases z : x1 < 1
    · rw [if_pos z]
      exact ⟨_, _, rfl, rfl, rfl⟩
    · rw [if_neg z, if_neg (fun y => p ⟨by have := (not_congr (lt_of rfl t1)).mp z; omega, (le_of rfl t12).mp y⟩)]
      exact ⟨_, _, rfl, rfl, rfl⟩
theorem CO_who (hk : k < 600) (hH : IH_ T te da la sl sL cn cd cr cs many days law slip len mn md mr ms) (hN : IN_ k T w lk st ss day left turn lot seen w' lk' st' ss' day' left' turn' lot' seen') (x1 x2 : Int32) : ∃ (u1 u2 : Int32), F_X11_who cs te sL st ss seen x1 x2 = some u1 ∧ F_X12_who many len ms seen' st' ss' x1 x2 = some u2 ∧ u1 = u2 := by
  obtain ⟨hT, rfl, rfl, -, -, -, ⟨L, l1, l8, rfl, rfl, hg⟩, -⟩ := hH
  obtain ⟨-, -, -, -, ⟨S, hS, rfl, rfl, hs⟩, -⟩ := hN
  have t0 : (0 : Int32).toInt = 0 := rfl
  have t1 : (1 : Int32).toInt = 1 := rfl
  have t12 : (12 : Int32).toInt = 12 := rfl
  have i0 : (0 : Int64).toInt = 0 := rfl
  have i1 : (1 : Int64).toInt = 1 := rfl
  have i12 : (12 : Int64).toInt = 12 := rfl
  unfold F_X11_who F_X12_who
  rw [e_in, e_in, i0, i1, i12]
  by_cases p : 1 ≤ x1.toInt ∧ x1.toInt ≤ 12
  · obtain ⟨N, hN, rfl⟩ := ix_nI (x := x1) (T := 13) (by omega) (by omega)
    have tN := ti_nI (n := N) (by omega)
    have h1N : 1 ≤ N := by omega
    have eN : ((nI N - 1).toInt64).toInt = (N : Int) - 1 := by
      rw [Int32.toInt_toInt64]
      exact pk_sub_toInt (a := N) (b := 1) (by omega) (by omega)
    rw [if_pos p, eN, if_neg (fun z => absurd ((lt_of rfl t1).mp z) (by omega)), if_neg (fun z => absurd ((lt_of t12 rfl).mp z) (by omega))]
    simp only [Option.bind_some, i_10, if_true, if_false]
    skip
    by_cases q : 0 ≤ x2.toInt ∧ x2.toInt ≤ (N : Int) - 1
    · obtain ⟨i, hi, rfl⟩ := ix_nI (x := x2) (T := N) (by omega) (by omega)
      have hm : i % L < L := Nat.mod_lt _ (by omega)
      obtain ⟨v, e1, e2, e0⟩ := e_could (N := N) hT hS hs l1 l8 hg h1N (by omega)
      rw [if_pos q, if_neg (nI_pos (by omega)), if_pos ((nI_ltI (by omega) (by omega)).mpr hi), e2]
      unfold F_X10_placesHeard
      rw [e1]
      simp only [Option.bind_some, i_10, if_true, if_false]
      by_cases z : v = 0
      · rw [if_pos z, if_pos z]
        exact ⟨_, _, rfl, rfl, rfl⟩
      · have hT0 : 1 ≤ T := by
          rcases Nat.eq_zero_or_pos T with h | h
          · exact absurd (e0 h) z
          · exact h
        obtain ⟨m, hm64, e3, e4⟩ := e_heard (T := T) (st := st) (ss := ss) (st' := st') (ss' := ss') hT hS hs (nI i) FU_ 0 63 (by omega) (by unfold FU_; omega) (by omega)
        rw [bt_5 T (by omega)] at e3
        have e3 : F_X7_heardOf st ss (nI S) (nI i) (nI (2 ^ T - 1)) = some (nI (m &&& (2 ^ T - 1))) := e3
        have e4 : F_X12_heard (nI S) st' ss' (nI i) = some (nI m) := e4
        obtain ⟨g1, a, ha, g2⟩ := hg (i % L) hm
        have ha : a < T := by omega
        have hb : (a + 1) % T < T := Nat.mod_lt _ (by omega)
        rw [if_neg z, if_neg z, e_sung l1 l8 (by omega), g1, g2, if_neg (nI_ne0 (by omega) (by omega)), pk_rem (a := i) (d := L) (by omega) (by omega) (by omega), if_pos (ok_T (by omega) (by omega)), if_neg (nI_ne0 (by omega) (by omega)), nI_clamp (n := i % L) (by omega), g2, e4, e_all hT]
        simp only [Option.bind_some, i_10, if_true, if_false]
        rw [e3]
        simp only [Option.bind_some, i_10, if_true, if_false]
        rw [e_next hT ha, show nI a + (1 : Int32) = nI (a + 1) from nI_1 a, pk_rem (a := a + 1) (d := T) (by omega) (by omega) (by omega)]
        simp only [Option.bind_some, i_10, if_true, if_false]
        rw [bt_3 m hm64 T (by omega) a ha _ hb]
        exact ⟨_, _, rfl, rfl, rfl⟩
    · rw [if_neg q]
      by_cases z : x2 < 0
      · rw [if_pos z]
        exact ⟨_, _, rfl, rfl, rfl⟩
      · rw [if_neg z, if_neg (fun y => q ⟨by have := (not_congr (lt_of rfl t0)).mp z; omega, by have := (lt_of rfl tN).mp y; omega⟩)]
        exact ⟨_, _, rfl, rfl, rfl⟩
  · rw [if_neg p]
    by_cases z : x1 < 1
    · rw [if_pos z]
      exact ⟨_, _, rfl, rfl, rfl⟩
    · rw [if_neg z, if_pos ((lt_of t12 rfl).mpr (by have := (not_congr (lt_of rfl t1)).mp z; omega))]
      exact ⟨_, _, rfl, rfl, rfl⟩
end CO6
