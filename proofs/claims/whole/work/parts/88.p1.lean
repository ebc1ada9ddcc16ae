/-! own: the pure part: how the functions that the walks gave are read -/
theorem ok_T {i n : Nat} (h : i < n) (hn : n < 2 ^ 31) : ok_I (nI i) n = true := decide_eq_true (show ¬ (nI i < 0 ∨ n ≤ (nI i).toNatClampNeg) from vp_in_nI h hn)
theorem ok_F {i n : Nat} (h : n ≤ i) (hi : i < 2 ^ 31) : ok_I (nI i) n = false := decide_eq_false (fun q => q (Or.inr (by rw [nI_clamp hi]; exact h)))
theorem ti_nI {n : Nat} (h : n < 2 ^ 31) : (nI n).toInt = (n : Int) := nI_toInt h
theorem ix_nI {x : Int32} {T : Nat} (h : 0 ≤ x.toInt ∧ x.toInt < T) (hT : T < 2 ^ 31) : ∃ j : Nat, j < T ∧ x = nI j := by
  refine ⟨x.toInt.toNat, by omega, Int32.toInt_inj.mp ?_⟩
  rw [ti_nI (by omega)]
  omega
theorem e_in (x : Int32) (a b : Int64) : F_X12_in x.toInt64 a b = some (if a.toInt ≤ x.toInt ∧ x.toInt ≤ b.toInt then 1 else 0) := by
  unfold F_X12_in
  by_cases h1 : x.toInt < a.toInt
  · rw [if_pos ((lg_cmp_lt _ _).mpr (Int64.lt_iff_toInt_lt.mpr (by rw [Int32.toInt_toInt64]; exact h1))), if_neg (by omega)]
  · rw [if_neg (fun h => h1 (by have := Int64.lt_iff_toInt_lt.mp ((lg_cmp_lt _ _).mp h); rwa [Int32.toInt_toInt64] at this))]
    by_cases h2 : b.toInt < x.toInt
    · rw [if_pos ((lg_cmp_gt _ _).mpr (Int64.lt_iff_toInt_lt.mpr (by rw [Int32.toInt_toInt64]; exact h2))), if_neg (by omega)]
    · rw [if_neg (fun h => h2 (by have := Int64.lt_iff_toInt_lt.mp ((lg_cmp_gt _ _).mp h); rwa [Int32.toInt_toInt64] at this)), if_pos (by omega)]
theorem e_isT {T : Nat} (hT : T ≤ 6) (t : Int32) : F_X12_isTerrace (nI T) t = some (if 0 ≤ t.toInt ∧ t.toInt < T then 1 else 0) := by
  unfold F_X12_isTerrace
  rw [e_in]
  have e1 : ((nI T - 1).toInt64).toInt = (T : Int) - 1 := by
    rw [Int32.toInt_toInt64]
    exact pk_sub_toInt (a := T) (b := 1) (by omega) (by omega)
  have e2 : (0 : Int64).toInt = 0 := rfl
  rw [e1, e2]
  by_cases h : 0 ≤ t.toInt ∧ t.toInt < T
  · rw [if_pos h, if_pos (by omega)]; rfl
  · rw [if_neg h, if_neg (by omega)]; rfl
theorem e_has {T : Nat} (hT : T ≤ 6) (t : Int32) : F_X3_has (nI T) t = some (if 0 ≤ t.toInt ∧ t.toInt < T then 1 else 0) := by
  unfold F_X3_has
  have e0 : (0 : Int32).toInt = 0 := rfl
  have eT := ti_nI (n := T) (by omega)
  by_cases h1 : t.toInt < 0
  · rw [if_pos (Int32.lt_iff_toInt_lt.mpr (by rw [e0]; exact h1)), if_neg (by omega)]
  · rw [if_neg (fun h => h1 (by have := Int32.lt_iff_toInt_lt.mp h; rwa [e0] at this))]
    by_cases h2 : (T : Int) ≤ t.toInt
    · rw [if_pos (Int32.le_iff_toInt_le.mpr (by rw [eT]; exact h2)), if_neg (by omega)]
    · rw [if_neg (fun h => h2 (by have := Int32.le_iff_toInt_le.mp h; rwa [eT] at this)), if_pos (by omega)]
/-- a number from 0 to M -/
def rg_ (x : Int32) (M : Nat) : Prop := ∃ a : Nat, a ≤ M ∧ x = nI a
theorem rg_.mono {x : Int32} {M N : Nat} (h : rg_ x M) (hMN : M ≤ N) : rg_ x N := by
  obtain ⟨a, h1, h2⟩ := h
  exact ⟨a, Nat.le_trans h1 hMN, h2⟩
/-- the text -/
def IR_ (bytes : Nat → Int32) (len : Int32) (text : Nat → Int32) (size : Int32) : Prop := ∃ n : Nat, n ≤ 300 ∧ len = nI n ∧ size = nI n ∧ ∀ j, j < n → ∃ c : Nat, c < 256 ∧ text j = nI c ∧ bytes j = (nI c).toInt8.toInt32
/-- the hill that was told -/
def IH_ (T : Nat) (te da la sl sL : Int32) (cn cd cr cs : Nat → Int32) (many days law slip len : Int32) (mn md mr ms : Nat → Int32) : Prop :=
  T ≤ 6 ∧ te = nI T ∧ many = nI T ∧ (∃ D : Nat, D ≤ 20 ∧ da = nI D ∧ days = nI D ∧ ∀ j, j < D → cr j = mr j ∧ rg_ (mr j) 30) ∧ (la = law ∧ rg_ law 2) ∧ (sl = slip ∧ rg_ slip 9) ∧ (∃ L : Nat, 1 ≤ L ∧ L ≤ 8 ∧ sL = nI L ∧ len = nI L ∧ ∀ j, j < L → cs j = ms j ∧ ∃ a : Nat, a < max 1 T ∧ ms j = nI a) ∧ ∀ t, t < T → cn t = mn t ∧ rg_ (mn t) 9 ∧ cd t = md t ∧ rg_ (md t) 3
/-- what goes on (k calls at most have gone by) -/
def IN_ (k T : Nat) (w lk st ss : Nat → Int32) (day left turn lot seen : Int32) (w' lk' st' ss' : Nat → Int32) (day' left' turn' lot' seen' : Int32) : Prop :=
  (day = day' ∧ rg_ day' 99) ∧ (left = left' ∧ rg_ left' 30) ∧ (turn = turn' ∧ rg_ turn' k) ∧ lot = lot' ∧ (∃ S : Nat, S ≤ 8 ∧ seen = nI S ∧ seen' = nI S ∧ ∀ j, j < S → st j = st' j ∧ ss j = ss' j ∧ ∃ b : Nat, b < 2 ^ T ∧ ss' j = nI b) ∧ ∀ t, t < T → (w t = w' t ∧ rg_ (w' t) (30 + 33 * k)) ∧ lk t = lk' t ∧ rg_ (lk' t) (9 * k)
theorem IN_.mono {k T : Nat} {w lk st ss : Nat → Int32} {day left turn lot seen : Int32} {w' lk' st' ss' : Nat → Int32} {day' left' turn' lot' seen' : Int32} (h : IN_ k T w lk st ss day left turn lot seen w' lk' st' ss' day' left' turn' lot' seen') : IN_ (k + 1) T w lk st ss day left turn lot seen w' lk' st' ss' day' left' turn' lot' seen' := by
  obtain ⟨h1, h2, ⟨h3, h3'⟩, h4, h5, h6⟩ := h
  refine ⟨h1, h2, ⟨h3, h3'.mono (by omega)⟩, h4, h5, fun t ht => ?_⟩
  obtain ⟨⟨a1, a2⟩, a3, a4⟩ := h6 t ht
  exact ⟨⟨a1, a2.mono (by omega)⟩, a3, a4.mono (by omega)⟩
/-- an image, both kept or both not -/
def IM_ (k T : Nat) (kept : Int32) (w lk st ss : Nat → Int32) (day left turn lot seen : Int32) (im : Nat → Int32) (o : Nat) : Prop :=
  (kept = 0 ∧ im o = 0) ∨ (kept = 1 ∧ im o = 1 ∧ IN_ k T w lk st ss day left turn lot seen (fun j => im (o + 6 + j)) (fun j => im (o + 12 + j)) (fun j => im (o + 18 + j)) (fun j => im (o + 26 + j)) (im (o + 1)) (im (o + 2)) (im (o + 3)) (im (o + 4)) (im (o + 5)))
theorem IM_.mono {k T : Nat} {kept : Int32} {w lk st ss : Nat → Int32} {day left turn lot seen : Int32} {im : Nat → Int32} {o : Nat} (h : IM_ k T kept w lk st ss day left turn lot seen im o) : IM_ (k + 1) T kept w lk st ss day left turn lot seen im o := by
  rcases h with h | ⟨h1, h2, h3⟩
  · exact Or.inl h
  · exact Or.inr ⟨h1, h2, h3.mono⟩
