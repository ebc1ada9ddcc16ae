/-! own: give, bird, lot's users, now, trace, saw -/
theorem i_10 : ((1 : Int32) = 0) = False := eq_false (by decide)
theorem tl_0 : (0 : Int32).toInt = 0 := rfl
theorem tl_1 : (1 : Int32).toInt = 1 := rfl
theorem tl_2 : (2 : Int32).toInt = 2 := rfl
theorem tl_3 : (3 : Int32).toInt = 3 := rfl
theorem tl_4 : (4 : Int32).toInt = 4 := rfl
theorem tl_5 : (5 : Int32).toInt = 5 := rfl
theorem tl_6 : (6 : Int32).toInt = 6 := rfl
theorem tl_8 : (8 : Int32).toInt = 8 := rfl
theorem tl_9 : (9 : Int32).toInt = 9 := rfl
theorem tl_12 : (12 : Int32).toInt = 12 := rfl
theorem tl_20 : (20 : Int32).toInt = 20 := rfl
theorem tl_30 : (30 : Int32).toInt = 30 := rfl
theorem tl_40 : (40 : Int32).toInt = 40 := rfl
theorem tl_99 : (99 : Int32).toInt = 99 := rfl
theorem tl_300 : (300 : Int32).toInt = 300 := rfl
theorem lt_of {x y : Int32} {a b : Int} (hx : x.toInt = a) (hy : y.toInt = b) : x < y ↔ a < b := by rw [Int32.lt_iff_toInt_lt, hx, hy]
theorem le_of {x y : Int32} {a b : Int} (hx : x.toInt = a) (hy : y.toInt = b) : x ≤ y ↔ a ≤ b := by rw [Int32.le_iff_toInt_le, hx, hy]
theorem IN_.put {k T : Nat} {w lk st ss w' lk' st' ss' : Nat → Int32} {day left turn lot seen day' left' turn' lot' seen' : Int32} (h : IN_ k T w lk st ss day left turn lot seen w' lk' st' ss' day' left' turn' lot' seen') {j v : Nat} (hv : v ≤ 30 + 33 * (k + 1)) {l2 l2' t2 t2' o2 o2' : Int32} (hl : l2 = l2' ∧ rg_ l2' 30) (ht : t2 = t2' ∧ rg_ t2' (k + 1)) (ho : o2 = o2') : IN_ (k + 1) T (upd w j (nI v)) lk st ss day l2 t2 o2 seen (upd w' j (nI v)) lk' st' ss' day' l2' t2' o2' seen' := by
  obtain ⟨a1, a2, a3, a4, a5, a6⟩ := h.mono
  refine ⟨a1, hl, ht, ho, a5, fun t h9 => ?_⟩
  obtain ⟨⟨b1, b2⟩, b3, b4⟩ := a6 t h9
  by_cases e : t = j
  · subst e
    exact ⟨⟨by rw [pk_us, pk_us], by rw [pk_us]; exact ⟨v, hv, rfl⟩⟩, b3, b4⟩
  · exact ⟨⟨by rw [pk_un e, pk_un e]; exact b1, by rw [pk_un e]; exact b2⟩, b3, b4⟩
section CO2
variable {k T : Nat} {bytes text : Nat → Int32} {rlen size : Int32} {te da la sl sL many days law slip len : Int32} {cn cd cr cs mn md mr ms : Nat → Int32}
variable {w lk st ss w' lk' st' ss' : Nat → Int32} {day left turn lot seen day' left' turn' lot' seen' : Int32}
theorem CO_give (hk : k < 600) (hH : IH_ T te da la sl sL cn cd cr cs many days law slip len mn md mr ms) (hN : IN_ k T w lk st ss day left turn lot seen w' lk' st' ss' day' left' turn' lot' seen') (x1 x2 : Int32) : ∃ (u1 : Int32 × (Nat → Int32) × Int32) (u2 : Int32 × Int32 × (Nat → Int32)), F_X11_give te w left x1 x2 = some u1 ∧ F_X12_give many left' w' x1 x2 = some u2 ∧ u1.1 = u2.1 ∧ IN_ (k + 1) T u1.2.1 lk st ss day u1.2.2 turn lot seen u2.2.2 lk' st' ss' day' u2.2.1 turn' lot' seen' := by
  obtain ⟨hT, rfl, rfl, -, -, -, -, hnd⟩ := hH
  have hM := hN.mono
  obtain ⟨a1, ⟨rfl, ⟨lf, hlf, rfl⟩⟩, a3, a4, a5, a6⟩ := id hN
  have t1 : (1 : Int32).toInt = 1 := rfl
  have t30 : (30 : Int32).toInt = 30 := rfl
  have s1 : (1 : Int64).toInt = 1 := rfl
  have s30 : (30 : Int64).toInt = 30 := rfl
  unfold F_X11_give F_X12_give
  rw [e_has hT, e_isT hT, e_in, s1, s30]
  by_cases h : 0 ≤ x1.toInt ∧ x1.toInt < T
  · obtain ⟨j, hj, rfl⟩ := ix_nI h (by omega)
    have o6 : ok_I (nI j) 6 = true := ok_T (by omega) (by omega)
    have cl : (nI j).toNatClampNeg = j := nI_clamp (by omega)
    obtain ⟨⟨w1, ⟨v0, hv0, ew⟩⟩, -, -⟩ := a6 j hj
    rw [if_pos h]
    by_cases q : 1 ≤ x2.toInt ∧ x2.toInt ≤ 30
    · obtain ⟨v, hv, rfl⟩ := ix_nI (x := x2) (T := 31) (by omega) (by omega)
      have v1 : 1 ≤ v := by have := ti_nI (n := v) (by omega); omega
      rw [if_pos q]
      simp only [Option.bind_some, o6, cl, i_10, if_true, if_false]
      rw [if_neg (fun z => absurd ((lt_of (ti_nI (n := v) (by omega)) t1).mp z) (by omega)), if_pos ((le_of (ti_nI (n := v) (by omega)) t30).mpr (by omega))]
      by_cases r : v ≤ lf
      · have z := (nI_leI (a := v) (b := lf) (by omega) (by omega)).mpr r
        rw [if_pos z, if_pos z, w1, ew, nI_add, pk_us, pk_us, pk_sub r]
        refine ⟨_, _, rfl, rfl, rfl, ?_⟩
        exact hN.put (by omega) ⟨rfl, lf - v, by omega, rfl⟩ ⟨a3.1, a3.2.mono (by omega)⟩ a4
      · have z : ¬ nI v ≤ nI lf := fun z => r ((nI_leI (by omega) (by omega)).mp z)
        rw [if_neg z, if_neg z]
        exact ⟨_, _, rfl, rfl, rfl, hM⟩
    · rw [if_neg q]
      simp only [Option.bind_some, i_10, if_true, if_false]
      by_cases z : x2 < 1
      · rw [if_pos z]
        exact ⟨_, _, rfl, rfl, rfl, hM⟩
      · rw [if_neg z, if_neg (fun y => q ⟨by have := (not_congr (lt_of rfl t1)).mp z; omega, (le_of rfl t30).mp y⟩)]
        exact ⟨_, _, rfl, rfl, rfl, hM⟩
  · rw [if_neg h]
    simp only [Option.bind_some, if_true]
    exact ⟨_, _, rfl, rfl, rfl, hM⟩
theorem CO_bird (hk : k < 600) (hH : IH_ T te da la sl sL cn cd cr cs many days law slip len mn md mr ms) (hN : IN_ k T w lk st ss day left turn lot seen w' lk' st' ss' day' left' turn' lot' seen') (x1 : Int32) : ∃ (u1 : Int32 × (Nat → Int32)) (u2 : Int32 × (Nat → Int32)), F_X11_bird te w x1 = some u1 ∧ F_X12_bird many w' x1 = some u2 ∧ u1.1 = u2.1 ∧ IN_ (k + 1) T u1.2 lk st ss day left turn lot seen u2.2 lk' st' ss' day' left' turn' lot' seen' := by
  obtain ⟨hT, rfl, rfl, -, -, -, -, hnd⟩ := hH
  have hM := hN.mono
  obtain ⟨a1, a2, a3, a4, a5, a6⟩ := id hN
  unfold F_X11_bird F_X12_bird
  rw [e_has hT, e_isT hT]
  by_cases h : 0 ≤ x1.toInt ∧ x1.toInt < T
  · obtain ⟨j, hj, rfl⟩ := ix_nI h (by omega)
    have o6 : ok_I (nI j) 6 = true := ok_T (by omega) (by omega)
    have cl : (nI j).toNatClampNeg = j := nI_clamp (by omega)
    obtain ⟨⟨w1, ⟨v0, hv0, ew⟩⟩, -, -⟩ := a6 j hj
    rw [if_pos h]
    simp only [Option.bind_some, o6, cl, i_10, if_true, if_false]
    rw [w1, ew]
    by_cases z : v0 = 0
    · subst z
      rw [if_neg (show ¬ (1 : Int32) ≤ nI 0 by decide), if_pos (show nI 0 = 0 from rfl)]
      exact ⟨_, _, rfl, rfl, rfl, hM⟩
    · have e1 : nI v0 - 1 = nI (v0 - 1) := pk_sub (a := v0) (b := 1) (by omega)
      rw [if_pos ((le_of tl_1 (ti_nI (n := v0) (by omega))).mpr (by omega)), if_neg (nI_ne0 (by omega) (by omega)), e1, pk_us, pk_us]
      refine ⟨_, _, rfl, rfl, rfl, ?_⟩
      exact hN.put (by omega) a2 ⟨a3.1, a3.2.mono (by omega)⟩ a4
  · rw [if_neg h]
    simp only [Option.bind_some, if_true]
    exact ⟨_, _, rfl, rfl, rfl, hM⟩
/-- the sum of a row's first places -/
def sm_ (f : Nat → Int32) : Nat → Int32
  | 0 => 0
  | n + 1 => sm_ f n + f n
theorem e_sumOf {f : Nat → Int32} (hT : T ≤ 6) : ∀ (n i : Nat), i ≤ T → T - i < n → F_X11_sumOf_4 (nI T) f n (sm_ f i) (nI i) = some (sm_ f T) := by
  intro n
  induction n with
  | zero => intro i _ h; exact absurd h (by omega)
  | succ n ih =>
    intro i hi hn
    rw [F_X11_sumOf_4]
    by_cases h : T ≤ i
    · rw [if_pos ((nI_leI (by omega) (by omega)).mpr h), show i = T by omega]
    · rw [if_neg (fun z => h ((nI_leI (by omega) (by omega)).mp z)), if_neg (fun z => absurd ((le_of tl_6 (ti_nI (n := i) (by omega))).mp z) (by omega)), if_pos (ok_T (by omega) (by omega)), nI_clamp (by omega), nI_1]
      exact ih (i + 1) (by omega) (by omega)
theorem e_nowL {f g : Nat → Int32} {d l t x1 : Int32} (hT : T ≤ 6) : ∀ (n i : Nat), i ≤ T → T - i < n → F_X12_now_7 (nI T) d l f g t n x1 (sm_ f i) (sm_ g i) (nI i) = (if x1 = 0 then some d else if x1 = 1 then some l else if x1 = 2 then some (sm_ f T) else if x1 = 3 then some (sm_ g T) else if x1 = 4 then some t else some (-1)) := by
  intro n
  induction n with
  | zero => intro i _ h; exact absurd h (by omega)
  | succ n ih =>
    intro i hi hn
    rw [F_X12_now_7]
    by_cases h : T ≤ i
    · rw [if_pos ((nI_leI (by omega) (by omega)).mpr h), show i = T by omega]
    · rw [if_neg (fun z => h ((nI_leI (by omega) (by omega)).mp z)), if_pos (ok_T (by omega) (by omega)), nI_clamp (by omega), nI_1]
      exact ih (i + 1) (by omega) (by omega)
theorem sm_congr {f g : Nat → Int32} : ∀ n, (∀ t, t < n → f t = g t) → sm_ f n = sm_ g n
  | 0, _ => rfl
  | n + 1, h => by rw [sm_, sm_, sm_congr n (fun t ht => h t (by omega)), h n (by omega)]
theorem CO_now (hk : k < 600) (hH : IH_ T te da la sl sL cn cd cr cs many days law slip len mn md mr ms) (hN : IN_ k T w lk st ss day left turn lot seen w' lk' st' ss' day' left' turn' lot' seen') (x1 : Int32) : ∃ (u1 u2 : Int32), F_X11_now te w lk day left turn x1 = some u1 ∧ F_X12_now many day' left' w' lk' turn' x1 = some u2 ∧ u1 = u2 := by
  obtain ⟨hT, rfl, rfl, -, -, -, -, hnd⟩ := hH
  obtain ⟨⟨rfl, -⟩, ⟨rfl, -⟩, ⟨rfl, -⟩, -, -, a6⟩ := hN
  have e1 := e_sumOf (f := w) hT FU_ 0 (by omega) (by unfold FU_; omega)
  have e2 := e_sumOf (f := lk) hT FU_ 0 (by omega) (by unfold FU_; omega)
  have e3 := e_nowL (f := w') (g := lk') (d := day) (l := left) (t := turn) (x1 := x1) hT FU_ 0 (by omega) (by unfold FU_; omega)
  have c1 : sm_ w T = sm_ w' T := sm_congr T (fun t ht => (a6 t ht).1.1)
  have c2 : sm_ lk T = sm_ lk' T := sm_congr T (fun t ht => (a6 t ht).2.1)
  have e1 : F_X11_sumOf (nI T) w = some (sm_ w T) := e1
  have e2 : F_X11_sumOf (nI T) lk = some (sm_ lk T) := e2
  have e3 : F_X12_now (nI T) day left w' lk' turn x1 = _ := e3
  rw [e3]
  unfold F_X11_now
  rw [e1, e2, c1, c2]
  by_cases q0 : x1 = 0
  · rw [if_pos q0, if_pos q0]; exact ⟨_, _, rfl, rfl, rfl⟩
  rw [if_neg q0, if_neg q0]
  by_cases q1 : x1 = 1
  · rw [if_pos q1, if_pos q1]; exact ⟨_, _, rfl, rfl, rfl⟩
  rw [if_neg q1, if_neg q1]
  by_cases q2 : x1 = 2
  · rw [if_pos q2, if_pos q2]; exact ⟨_, _, rfl, rfl, rfl⟩
  rw [if_neg q2, if_neg q2]
  by_cases q3 : x1 = 3
  · rw [if_pos q3, if_pos q3]; exact ⟨_, _, rfl, rfl, rfl⟩
  rw [if_neg q3, if_neg q3]
  by_cases q4 : x1 = 4
  · rw [if_pos q4]; exact ⟨_, _, rfl, rfl, rfl⟩
  rw [if_neg q4]
  exact ⟨_, _, rfl, rfl, rfl⟩
theorem e_trace (a b c d e f : Int64) : F_X11_trace a b c d e f = some ((((((0 + a) + b) + c) + d) + e) + f) := rfl
theorem CO_trace (hk : k < 600) {a b c d e f t : Int64} (hE : (((((0 + a) + b) + c) + d) + e) + f = t) : ∃ (u1 u2 : Int64), F_X11_trace a b c d e f = some u1 ∧ F_X12_trace t = some u2 ∧ u1 = u2 := ⟨_, _, e_trace a b c d e f, rfl, hE⟩
end CO2
