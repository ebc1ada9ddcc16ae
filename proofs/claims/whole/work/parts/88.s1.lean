/-! own: hill: the words of the text -/
/-- the text's bytes, by their numbers -/
def TX_ (N : Nat) (ch : Nat → Nat) (bytes text : Nat → Int32) : Prop := N ≤ 300 ∧ ∀ j, j < N → ch j < 256 ∧ text j = nI (ch j) ∧ bytes j = (nI (ch j)).toInt8.toInt32
theorem tx_of {bytes text : Nat → Int32} {len size : Int32} (h : IR_ bytes len text size) : ∃ N ch, len = nI N ∧ size = nI N ∧ TX_ N ch bytes text := by
  obtain ⟨n, h1, h2, h3, h4⟩ := h
  refine ⟨n, fun j => if q : j < n then Classical.choose (h4 j q) else 0, h2, h3, h1, fun j hj => ?_⟩
  have := Classical.choose_spec (h4 j hj)
  simp only [hj, dif_pos]
  exact this
abbrev le_c (c : Nat) : Prop := 97 ≤ c ∧ c ≤ 122
abbrev dg_c (c : Nat) : Prop := 48 ≤ c ∧ c ≤ 57
theorem ch_sp : ∀ c, c < 256 → ((nI c).toInt8.toInt32 = 32 ↔ c = 32) := by decide +kernel
theorem ch_r32 : ∀ c, c < 256 → (nI c = 32 ↔ c = 32) := by decide +kernel
theorem ch_r59 : ∀ c, c < 256 → (nI c = 59 ↔ c = 59) := by decide +kernel
theorem ch_r48 : ∀ c, c < 256 → (nI c = 48 ↔ c = 48) := by decide +kernel
theorem ch_sm : ∀ c, c < 256 → ((nI c).toInt8.toInt32 = 59 ↔ c = 59) := by decide +kernel
theorem ch_ze : ∀ c, c < 256 → ((nI c).toInt8.toInt32 = 48 ↔ c = 48) := by decide +kernel
theorem ch_le : ∀ c, c < 256 → le_c c → (nI c).toInt8.toInt32 = nI c := by decide +kernel
theorem ch_dg : ∀ c, c < 256 → dg_c c → (nI c).toInt8.toInt32 = nI c := by decide +kernel
theorem ch_l : ∀ c, c < 256 → ((nI c).toInt8.toInt32 < 97 ∨ 122 < (nI c).toInt8.toInt32 ↔ ¬ le_c c) := by decide +kernel
theorem ch_d : ∀ c, c < 256 → ((nI c).toInt8.toInt32 < 48 ∨ 57 < (nI c).toInt8.toInt32 ↔ ¬ dg_c c) := by decide +kernel
theorem ch_rl : ∀ c, c < 256 → (nI c ≤ 96 ∨ 123 ≤ nI c ↔ ¬ le_c c) := by decide +kernel
theorem ch_rd : ∀ c, c < 256 → (nI c ≤ 47 ∨ 58 ≤ nI c ↔ ¬ dg_c c) := by decide +kernel
theorem ch_0 : ∀ c, c < 256 → (0 : Int32) ≤ nI c := by decide +kernel
theorem k_rl {c : Nat} (h : c < 256) : F_X12_isLetter (nI c) = some (if le_c c then 1 else 0) := by
  have q := ch_rl c h
  unfold F_X12_isLetter
  by_cases e : le_c c
  · rw [if_pos e, if_neg (fun z => q.mp (Or.inl z) e), if_neg (fun z => q.mp (Or.inr z) e)]
  · rw [if_neg e]
    rcases q.mpr e with z | z
    · rw [if_pos z]
    · rw [if_pos z, ite_self]
theorem k_rd {c : Nat} (h : c < 256) : F_X12_isFigure (nI c) = some (if dg_c c then 1 else 0) := by
  have q := ch_rd c h
  unfold F_X12_isFigure
  by_cases e : dg_c c
  · rw [if_pos e, if_neg (fun z => q.mp (Or.inl z) e), if_neg (fun z => q.mp (Or.inr z) e)]
  · rw [if_neg e]
    rcases q.mpr e with z | z
    · rw [if_pos z]
    · rw [if_pos z, ite_self]
section HL
variable {N s m : Nat} {ch : Nat → Nat} {bytes text : Nat → Int32}
theorem k_cl (hx : TX_ N ch bytes text) {q : Nat} (hq : q < N) : F_X9_isLetter bytes (nI N) (nI q) = some (if le_c (ch q) then 1 else 0) := by
  obtain ⟨h1, h2⟩ := hx
  obtain ⟨c1, c2, c3⟩ := h2 q hq
  have z := ch_l _ c1
  unfold F_X9_isLetter
  rw [if_neg (fun z => absurd ((lt_of (ti_nI (by omega)) tl_0).mp z) (by omega)), if_neg (fun z => absurd ((nI_leI (by omega) (by omega)).mp z) (by omega)), if_pos (ok_T (by omega) (by omega)), nI_clamp (n := q) (by omega), c3]
  by_cases e : le_c (ch q)
  · rw [if_pos e, if_neg (fun y => z.mp (Or.inl y) e), if_neg (fun y => z.mp (Or.inr y) e)]
  · rw [if_neg e]
    rcases z.mpr e with y | y
    · rw [if_pos y]
    · rw [if_pos y, ite_self]
theorem k_cd (hx : TX_ N ch bytes text) {q : Nat} (hq : q < N) : F_X9_isDigit bytes (nI N) (nI q) = some (if dg_c (ch q) then 1 else 0) := by
  obtain ⟨h1, h2⟩ := hx
  obtain ⟨c1, c2, c3⟩ := h2 q hq
  have z := ch_d _ c1
  unfold F_X9_isDigit
  rw [if_neg (fun z => absurd ((lt_of (ti_nI (by omega)) tl_0).mp z) (by omega)), if_neg (fun z => absurd ((nI_leI (by omega) (by omega)).mp z) (by omega)), if_pos (ok_T (by omega) (by omega)), nI_clamp (n := q) (by omega), c3]
  by_cases e : dg_c (ch q)
  · rw [if_pos e, if_neg (fun y => z.mp (Or.inl y) e), if_neg (fun y => z.mp (Or.inr y) e)]
  · rw [if_neg e]
    rcases z.mpr e with y | y
    · rw [if_pos y]
    · rw [if_pos y, ite_self]
/-- the spaces -/
theorem k_space (hx : TX_ N ch bytes text) : ∀ (n p : Nat), p ≤ N → N - p < n → ∃ q, p ≤ q ∧ q ≤ N ∧ (∀ st tk v : Int32, F_X9_advance_0 bytes (nI N) n (nI p) st tk v = F_X9_advance_38 bytes (nI N) (nI q) st tk v) ∧ ∀ (b k : Int32) (v : Int64), F_X12_next_0 text (nI N) n (nI p) b k v = F_X12_next_38 text (nI N) (nI q) b k v := by
  have hN := hx.1
  intro n
  induction n with
  | zero => intro p _ h; exact absurd h (by omega)
  | succ n ih =>
    intro p hp hn
    by_cases h : N ≤ p
    · have z := (nI_leI (a := N) (b := p) (by omega) (by omega)).mpr h
      refine ⟨p, by omega, hp, fun st tk v => ?_, fun b k v => ?_⟩
      · rw [F_X9_advance_0, if_pos z]
      · rw [F_X12_next_0, if_pos z]
    · have z : ¬ nI N ≤ nI p := fun z => h ((nI_leI (by omega) (by omega)).mp z)
      have ok : ok_I (nI p) 300 = true := ok_T (by omega) (by omega)
      obtain ⟨c1, c2, c3⟩ := hx.2 p (by omega)
      by_cases e : ch p = 32
      · obtain ⟨q, q1, q2, q3, q4⟩ := ih (p + 1) (by omega) (by omega)
        refine ⟨q, by omega, q2, fun st tk v => ?_, fun b k v => ?_⟩
        · rw [F_X9_advance_0, if_neg z, if_pos ok, nI_clamp (n := p) (by omega), c3, if_pos ((ch_sp _ c1).mpr e), show nI p + (1 : Int32) = nI (p + 1) from nI_1 p, q3]
        · rw [F_X12_next_0, if_neg z, if_pos ok, nI_clamp (n := p) (by omega), c2, if_pos ((ch_r32 _ c1).mpr e), show nI p + (1 : Int32) = nI (p + 1) from nI_1 p, q4]
      · refine ⟨p, by omega, hp, fun st tk v => ?_, fun b k v => ?_⟩
        · rw [F_X9_advance_0, if_neg z, if_pos ok, nI_clamp (n := p) (by omega), c3, if_neg (fun y => e ((ch_sp _ c1).mp y))]
        · rw [F_X12_next_0, if_neg z, if_pos ok, nI_clamp (n := p) (by omega), c2, if_neg (fun y => e ((ch_r32 _ c1).mp y))]
/-- a word's number -/
def wv_ (ch : Nat → Nat) (s : Nat) : Nat → Nat
  | 0 => 0
  | m + 1 => 32 * wv_ ch s m + (ch (s + m) - 96)
def vl_ (ch : Nat → Nat) (s m : Nat) : Int64 := if m ≤ 8 then lI (wv_ ch s m) else -1
theorem wv_b (ch : Nat → Nat) (s : Nat) : ∀ m, (∀ j, j < m → le_c (ch (s + j))) → wv_ ch s m + 1 ≤ 32 ^ m
  | 0, _ => by simp [wv_]
  | m + 1, h => by
    have h1 := wv_b ch s m (fun j hj => h j (by omega))
    have h2 := h m (by omega)
    unfold le_c at h2
    rw [wv_, Nat.pow_succ]
    omega
theorem wv_8 (ch : Nat → Nat) (s : Nat) {m : Nat} (hm : m ≤ 8) (h : ∀ j, j < m → le_c (ch (s + j))) : wv_ ch s m < 1099511627776 := by
  have h1 := wv_b ch s m h
  have h2 : 32 ^ m ≤ 32 ^ 8 := Nat.pow_le_pow_right (by omega) hm
  have h3 : (32 : Nat) ^ 8 = 1099511627776 := by decide
  omega
theorem wv_i (f g : Nat → Nat) (s s' : Nat) : ∀ m m', (∀ j, j < m → le_c (f (s + j))) → (∀ j, j < m' → le_c (g (s' + j))) → wv_ f s m = wv_ g s' m' → m = m' ∧ ∀ j, j < m → f (s + j) = g (s' + j)
  | 0, 0, _, _, _ => ⟨rfl, fun j hj => absurd hj (by omega)⟩
  | 0, m' + 1, _, h2, e => by
    have := h2 m' (by omega)
    unfold le_c at this
    rw [wv_, wv_] at e
    omega
  | m + 1, 0, h1, _, e => by
    have := h1 m (by omega)
    unfold le_c at this
    rw [wv_, wv_] at e
    omega
  | m + 1, m' + 1, h1, h2, e => by
    have a := h1 m (by omega)
    have b := h2 m' (by omega)
    unfold le_c at a b
    rw [wv_, wv_] at e
    obtain ⟨i1, i2⟩ := wv_i f g s s' m m' (fun j hj => h1 j (by omega)) (fun j hj => h2 j (by omega)) (by omega)
    refine ⟨by omega, fun j hj => ?_⟩
    by_cases q : j = m
    · subst q
      subst i1
      omega
    · exact i2 j (by omega)
theorem k_word (hx : TX_ N ch bytes text) : ∀ (n m : Nat), s + m ≤ N → N - (s + m) < n → (∀ j, j < m → le_c (ch (s + j))) → ∃ m', m ≤ m' ∧ s + m' ≤ N ∧ (∀ j, j < m' → le_c (ch (s + j))) ∧ (s + m' < N → ¬ le_c (ch (s + m'))) ∧ F_X9_wordAtPlace_0 bytes (nI N) n (nI (s + m)) = some (1, nI (s + m')) ∧ F_X12_next_143 text (nI N) n (nI (s + m)) (nI s) 1 (vl_ ch s m) = F_X12_next_237 text (nI N) FU_ (nI (s + m')) (nI s) 1 (vl_ ch s m') := by
  have hN := hx.1
  intro n
  induction n with
  | zero => intro m _ h; exact absurd h (by omega)
  | succ n ih =>
    intro m hm hn hl
    rw [F_X9_wordAtPlace_0, F_X12_next_143, if_pos (show (1 : Int32) = 1 from rfl)]
    by_cases h : N ≤ s + m
    · have z := (nI_leI (a := N) (b := s + m) (by omega) (by omega)).mpr h
      rw [if_pos z, if_pos z]
      exact ⟨m, by omega, hm, hl, fun q => absurd q (by omega), rfl, rfl⟩
    · have z : ¬ nI N ≤ nI (s + m) := fun z => h ((nI_leI (by omega) (by omega)).mp z)
      obtain ⟨c1, c2, c3⟩ := hx.2 (s + m) (by omega)
      rw [if_neg z, if_neg z, k_cl hx (q := s + m) (by omega), if_pos (ok_T (by omega) (by omega)), nI_clamp (n := s + m) (by omega), c2, k_rl c1, Option.bind_some, Option.bind_some]
      by_cases e : le_c (ch (s + m))
      · rw [if_pos e, if_neg (show ¬ (1 : Int32) = 0 by decide), if_neg (show ¬ (1 : Int32) = 0 by decide), show nI (s + m) - nI s = nI m by rw [pk_sub (by omega), Nat.add_sub_cancel_left]]
        have hl' : ∀ j, j < m + 1 → le_c (ch (s + j)) := fun j hj => by
          by_cases q : j = m
          · subst q; exact e
          · exact hl j (by omega)
        obtain ⟨m', i1, i2, i3, i4, i5, i6⟩ := ih (m + 1) (by omega) (by omega) hl'
        refine ⟨m', by omega, i2, i3, i4, ?_, ?_⟩
        · rw [show nI (s + m) + (1 : Int32) = nI (s + (m + 1)) from nI_1 (s + m)]
          exact i5
        · by_cases q : 8 ≤ m
          · rw [if_pos ((le_of tl_8 (ti_nI (n := m) (by omega))).mpr (by omega)), F_X12_next_221, show nI (s + m) + (1 : Int32) = nI (s + (m + 1)) from nI_1 (s + m), ← i6]
            congr 1
            unfold vl_
            rw [if_neg (by omega)]
          · rw [if_neg (fun y => absurd ((le_of tl_8 (ti_nI (n := m) (by omega))).mp y) (by omega)), F_X12_next_221, show nI (s + m) + (1 : Int32) = nI (s + (m + 1)) from nI_1 (s + m), ← i6]
            congr 1
            unfold vl_
            rw [if_pos (by omega), if_pos (by omega), lI_nI (by omega), show (32 : Int64) = lI 32 from rfl, show (96 : Int64) = lI 96 from rfl, lI_mul, lI_add, lI_sub]
            congr 1
            unfold le_c at e
            rw [wv_]
            omega
      · rw [if_neg e, if_pos rfl, if_pos rfl]
        exact ⟨m, by omega, hm, hl, fun _ => e, rfl, rfl⟩
theorem k_237 {a b k : Int32} {v : Int64} (h : ¬ k = 2) : F_X12_next_237 text (nI N) FU_ a b k v = some (a, b, k, v) := by
  rw [FU_s, F_X12_next_237, if_neg h, F_X12_next_330, if_neg h]
theorem k_143 {a b k : Int32} {v : Int64} (h1 : ¬ k = 1) : F_X12_next_143 text (nI N) FU_ a b k v = F_X12_next_237 text (nI N) FU_ a b k v := by
  rw [show F_X12_next_143 text (nI N) FU_ a b k v = F_X12_next_143 text (nI N) (7999 + 1) a b k v from congrArg (fun n => F_X12_next_143 text (nI N) n a b k v) FU_s, F_X12_next_143, if_neg h1]
/-- the five words -/
def wl_ : List (List Nat) := [[116, 101, 114, 114, 97, 99, 101], [100, 114, 105, 112], [108, 97, 119], [115, 108, 105, 112], [115, 111, 110, 103]]
def wd_ (k j : Nat) : Nat := (wl_.getD k []).getD j 0
def wn_ (k : Nat) : Nat := [7, 4, 3, 4, 4].getD k 0
def wc_ (k : Nat) : Int := [21662073957, 149808, 12343, 635184, 638407].getD k 0
def mt_ (ch : Nat → Nat) (s m k : Nat) : Prop := m = wn_ k ∧ ∀ j, j < wn_ k → ch (s + j) = wd_ k j
theorem wd_l : ∀ k, k < 5 → ∀ j, j < wn_ k → le_c (wd_ k (0 + j)) := by decide
theorem wd_v : ∀ k, k < 5 → ((wv_ (wd_ k) 0 (wn_ k) : Nat) : Int) = wc_ k ∧ wn_ k ≤ 8 ∧ 0 ≤ wc_ k ∧ wc_ k < 1099511627776 := by decide
theorem mt_v (hl : ∀ j, j < m → le_c (ch (s + j))) {k : Nat} (hk : k < 5) : mt_ ch s m k ↔ vl_ ch s m = lI (wc_ k) := by
  obtain ⟨w1, w2, w3, w4⟩ := wd_v k hk
  have lw : (lI (wc_ k)).toInt = wc_ k := lI_t (by omega) (by omega)
  constructor
  · rintro ⟨h1, h2⟩
    unfold vl_
    rw [if_pos (by omega), ← w1, h1]
    congr 2
    have : ∀ i, i ≤ wn_ k → wv_ ch s i = wv_ (wd_ k) 0 i := by
      intro i
      induction i with
      | zero => intro _; rfl
      | succ i ih => intro hi; rw [wv_, wv_, ih (by omega), h2 i (by omega), Nat.zero_add]
    exact this _ (Nat.le_refl _)
  · intro e
    have e2 := congrArg Int64.toInt e
    rw [lw] at e2
    unfold vl_ at e2
    by_cases q : m ≤ 8
    · have b := wv_8 ch s q hl
      rw [if_pos q, lI_t (by omega) (by omega), ← w1] at e2
      have := wv_i ch (wd_ k) s 0 m (wn_ k) hl (fun j hj => wd_l k hk j hj) (by omega)
      refine ⟨this.1, fun j hj => ?_⟩
      rw [this.2 j (by omega), Nat.zero_add]
    · rw [if_neg q] at e2
      have : (-1 : Int64).toInt = -1 := rfl
      omega
theorem k_ch0 : ∀ j, j < wn_ 0 → st_ch 0 (nI j) = nI (wd_ 0 j) := by decide +kernel
theorem k_i0 (hx : TX_ N ch bytes text) (hm : s + m ≤ N) (hl : ∀ j, j < m → le_c (ch (s + j))) (he : m = wn_ 0) (pl : Int32) : ∀ (n j : Nat), j ≤ wn_ 0 → wn_ 0 - j < n → (∀ i, i < j → ch (s + i) = wd_ 0 i) → ∃ z, F_X9_isWord_S0_20 bytes pl (nI s) n (nI j) = some z ∧ (z = 1 ∧ mt_ ch s m 0 ∨ z = 0 ∧ ¬ mt_ ch s m 0) := by
  have hN := hx.1
  have hw : wn_ 0 ≤ 7 := by decide
  have hw2 : st_len.getD 0 0 = wn_ 0 := by decide
  intro n
  induction n with
  | zero => intro j _ h; exact absurd h (by omega)
  | succ n ih =>
    intro j hj hn hi
    rw [F_X9_isWord_S0_20, hw2, show Int32.ofNat (wn_ 0) = nI (wn_ 0) from rfl]
    by_cases h : wn_ 0 ≤ j
    · rw [if_pos (show nI (wn_ 0) ≤ nI j from (nI_leI (by omega) (by omega)).mpr h)]
      exact ⟨1, rfl, Or.inl ⟨rfl, he, fun i h2 => hi i (by omega)⟩⟩
    · obtain ⟨c1, c2, c3⟩ := hx.2 (s + j) (by omega)
      have l := hl j (by omega)
      have cb := wd_l 0 (by omega) j (by omega)
      rw [Nat.zero_add] at cb
      unfold le_c at cb
      rw [if_neg (show ¬ nI (wn_ 0) ≤ nI j from fun z => h ((nI_leI (by omega) (by omega)).mp z)), nI_add, if_pos (ok_T (by omega) (by omega)), if_pos (ok_T (by omega) (by omega)), nI_clamp (n := s + j) (by omega), c3, ch_le _ c1 l, k_ch0 j (by omega), show nI j + (1 : Int32) = nI (j + 1) from nI_1 j]
      by_cases e : ch (s + j) = wd_ 0 j
      · rw [if_pos (by rw [e])]
        refine ih (j + 1) (by omega) (by omega) (fun i h2 => ?_)
        by_cases q : i = j
        · subst q; exact e
        · exact hi i (by omega)
      · rw [if_neg (fun y => e ((nI_eq (by omega) (by omega)).mp y))]
        exact ⟨0, rfl, Or.inr ⟨rfl, fun y => e (y.2 j (by omega))⟩⟩
theorem k_w0 (hx : TX_ N ch bytes text) (hm : s + m ≤ N) (hl : ∀ j, j < m → le_c (ch (s + j))) : ∃ z, F_X9_isWord_S0 bytes (nI (s + m)) (nI s) = some z ∧ (z = 1 ∧ mt_ ch s m 0 ∨ z = 0 ∧ ¬ mt_ ch s m 0) := by
  have hN := hx.1
  have hw : wn_ 0 ≤ 7 := by decide
  have hw2 : st_len.getD 0 0 = wn_ 0 := by decide
  unfold F_X9_isWord_S0
  rw [pk_sub (by omega), Nat.add_sub_cancel_left, hw2, show Int32.ofNat (wn_ 0) = nI (wn_ 0) from rfl]
  by_cases e : m = wn_ 0
  · rw [if_pos (show nI m = nI (wn_ 0) by rw [e])]
    obtain ⟨z, a1, a2⟩ := k_i0 hx hm hl e (nI (s + m)) FU_ 0 (by omega) (fu_gt (by omega)) (fun i h => absurd h (by omega))
    rw [nI_0] at a1
    exact ⟨z, a1, a2⟩
  · rw [if_neg (show ¬ nI m = nI (wn_ 0) from fun y => e ((nI_eq (by omega) (by omega)).mp y))]
    exact ⟨0, rfl, Or.inr ⟨rfl, fun y => e y.1⟩⟩
theorem k_ch1 : ∀ j, j < wn_ 1 → st_ch 1 (nI j) = nI (wd_ 1 j) := by decide +kernel
theorem k_i1 (hx : TX_ N ch bytes text) (hm : s + m ≤ N) (hl : ∀ j, j < m → le_c (ch (s + j))) (he : m = wn_ 1) (pl : Int32) : ∀ (n j : Nat), j ≤ wn_ 1 → wn_ 1 - j < n → (∀ i, i < j → ch (s + i) = wd_ 1 i) → ∃ z, F_X9_isWord_S1_20 bytes pl (nI s) n (nI j) = some z ∧ (z = 1 ∧ mt_ ch s m 1 ∨ z = 0 ∧ ¬ mt_ ch s m 1) := by
  have hN := hx.1
  have hw : wn_ 1 ≤ 7 := by decide
  have hw2 : st_len.getD 1 0 = wn_ 1 := by decide
  intro n
  induction n with
  | zero => intro j _ h; exact absurd h (by omega)
  | succ n ih =>
    intro j hj hn hi
    rw [F_X9_isWord_S1_20, hw2, show Int32.ofNat (wn_ 1) = nI (wn_ 1) from rfl]
    by_cases h : wn_ 1 ≤ j
    · rw [if_pos (show nI (wn_ 1) ≤ nI j from (nI_leI (by omega) (by omega)).mpr h)]
      exact ⟨1, rfl, Or.inl ⟨rfl, he, fun i h2 => hi i (by omega)⟩⟩
    · obtain ⟨c1, c2, c3⟩ := hx.2 (s + j) (by omega)
      have l := hl j (by omega)
      have cb := wd_l 1 (by omega) j (by omega)
      rw [Nat.zero_add] at cb
      unfold le_c at cb
      rw [if_neg (show ¬ nI (wn_ 1) ≤ nI j from fun z => h ((nI_leI (by omega) (by omega)).mp z)), nI_add, if_pos (ok_T (by omega) (by omega)), if_pos (ok_T (by omega) (by omega)), nI_clamp (n := s + j) (by omega), c3, ch_le _ c1 l, k_ch1 j (by omega), show nI j + (1 : Int32) = nI (j + 1) from nI_1 j]
      by_cases e : ch (s + j) = wd_ 1 j
      · rw [if_pos (by rw [e])]
        refine ih (j + 1) (by omega) (by omega) (fun i h2 => ?_)
        by_cases q : i = j
        · subst q; exact e
        · exact hi i (by omega)
      · rw [if_neg (fun y => e ((nI_eq (by omega) (by omega)).mp y))]
        exact ⟨0, rfl, Or.inr ⟨rfl, fun y => e (y.2 j (by omega))⟩⟩
theorem k_w1 (hx : TX_ N ch bytes text) (hm : s + m ≤ N) (hl : ∀ j, j < m → le_c (ch (s + j))) : ∃ z, F_X9_isWord_S1 bytes (nI (s + m)) (nI s) = some z ∧ (z = 1 ∧ mt_ ch s m 1 ∨ z = 0 ∧ ¬ mt_ ch s m 1) := by
  have hN := hx.1
  have hw : wn_ 1 ≤ 7 := by decide
  have hw2 : st_len.getD 1 0 = wn_ 1 := by decide
  unfold F_X9_isWord_S1
  rw [pk_sub (by omega), Nat.add_sub_cancel_left, hw2, show Int32.ofNat (wn_ 1) = nI (wn_ 1) from rfl]
  by_cases e : m = wn_ 1
  · rw [if_pos (show nI m = nI (wn_ 1) by rw [e])]
    obtain ⟨z, a1, a2⟩ := k_i1 hx hm hl e (nI (s + m)) FU_ 0 (by omega) (fu_gt (by omega)) (fun i h => absurd h (by omega))
    rw [nI_0] at a1
    exact ⟨z, a1, a2⟩
  · rw [if_neg (show ¬ nI m = nI (wn_ 1) from fun y => e ((nI_eq (by omega) (by omega)).mp y))]
    exact ⟨0, rfl, Or.inr ⟨rfl, fun y => e y.1⟩⟩
theorem k_ch2 : ∀ j, j < wn_ 2 → st_ch 2 (nI j) = nI (wd_ 2 j) := by decide +kernel
theorem k_i2 (hx : TX_ N ch bytes text) (hm : s + m ≤ N) (hl : ∀ j, j < m → le_c (ch (s + j))) (he : m = wn_ 2) (pl : Int32) : ∀ (n j : Nat), j ≤ wn_ 2 → wn_ 2 - j < n → (∀ i, i < j → ch (s + i) = wd_ 2 i) → ∃ z, F_X9_isWord_S2_20 bytes pl (nI s) n (nI j) = some z ∧ (z = 1 ∧ mt_ ch s m 2 ∨ z = 0 ∧ ¬ mt_ ch s m 2) := by
  have hN := hx.1
  have hw : wn_ 2 ≤ 7 := by decide
  have hw2 : st_len.getD 2 0 = wn_ 2 := by decide
  intro n
  induction n with
  | zero => intro j _ h; exact absurd h (by omega)
  | succ n ih =>
    intro j hj hn hi
    rw [F_X9_isWord_S2_20, hw2, show Int32.ofNat (wn_ 2) = nI (wn_ 2) from rfl]
    by_cases h : wn_ 2 ≤ j
    · rw [if_pos (show nI (wn_ 2) ≤ nI j from (nI_leI (by omega) (by omega)).mpr h)]
      exact ⟨1, rfl, Or.inl ⟨rfl, he, fun i h2 => hi i (by omega)⟩⟩
    · obtain ⟨c1, c2, c3⟩ := hx.2 (s + j) (by omega)
      have l := hl j (by omega)
      have cb := wd_l 2 (by omega) j (by omega)
      rw [Nat.zero_add] at cb
      unfold le_c at cb
      rw [if_neg (show ¬ nI (wn_ 2) ≤ nI j from fun z => h ((nI_leI (by omega) (by omega)).mp z)), nI_add, if_pos (ok_T (by omega) (by omega)), if_pos (ok_T (by omega) (by omega)), nI_clamp (n := s + j) (by omega), c3, ch_le _ c1 l, k_ch2 j (by omega), show nI j + (1 : Int32) = nI (j + 1) from nI_1 j]
      by_cases e : ch (s + j) = wd_ 2 j
      · rw [if_pos (by rw [e])]
        refine ih (j + 1) (by omega) (by omega) (fun i h2 => ?_)
        by_cases q : i = j
        · subst q; exact e
        · exact hi i (by omega)
      · rw [if_neg (fun y => e ((nI_eq (by omega) (by omega)).mp y))]
        exact ⟨0, rfl, Or.inr ⟨rfl, fun y => e (y.2 j (by omega))⟩⟩
theorem k_w2 (hx : TX_ N ch bytes text) (hm : s + m ≤ N) (hl : ∀ j, j < m → le_c (ch (s + j))) : ∃ z, F_X9_isWord_S2 bytes (nI (s + m)) (nI s) = some z ∧ (z = 1 ∧ mt_ ch s m 2 ∨ z = 0 ∧ ¬ mt_ ch s m 2) := by
  have hN := hx.1
  have hw : wn_ 2 ≤ 7 := by decide
  have hw2 : st_len.getD 2 0 = wn_ 2 := by decide
  unfold F_X9_isWord_S2
  rw [pk_sub (by omega), Nat.add_sub_cancel_left, hw2, show Int32.ofNat (wn_ 2) = nI (wn_ 2) from rfl]
  by_cases e : m = wn_ 2
  · rw [if_pos (show nI m = nI (wn_ 2) by rw [e])]
    obtain ⟨z, a1, a2⟩ := k_i2 hx hm hl e (nI (s + m)) FU_ 0 (by omega) (fu_gt (by omega)) (fun i h => absurd h (by omega))
    rw [nI_0] at a1
    exact ⟨z, a1, a2⟩
  · rw [if_neg (show ¬ nI m = nI (wn_ 2) from fun y => e ((nI_eq (by omega) (by omega)).mp y))]
    exact ⟨0, rfl, Or.inr ⟨rfl, fun y => e y.1⟩⟩
theorem k_ch3 : ∀ j, j < wn_ 3 → st_ch 3 (nI j) = nI (wd_ 3 j) := by decide +kernel
theorem k_i3 (hx : TX_ N ch bytes text) (hm : s + m ≤ N) (hl : ∀ j, j < m → le_c (ch (s + j))) (he : m = wn_ 3) (pl : Int32) : ∀ (n j : Nat), j ≤ wn_ 3 → wn_ 3 - j < n → (∀ i, i < j → ch (s + i) = wd_ 3 i) → ∃ z, F_X9_isWord_S3_20 bytes pl (nI s) n (nI j) = some z ∧ (z = 1 ∧ mt_ ch s m 3 ∨ z = 0 ∧ ¬ mt_ ch s m 3) := by
  have hN := hx.1
  have hw : wn_ 3 ≤ 7 := by decide
  have hw2 : st_len.getD 3 0 = wn_ 3 := by decide
  intro n
  induction n with
  | zero => intro j _ h; exact absurd h (by omega)
  | succ n ih =>
    intro j hj hn hi
    rw [F_X9_isWord_S3_20, hw2, show Int32.ofNat (wn_ 3) = nI (wn_ 3) from rfl]
    by_cases h : wn_ 3 ≤ j
    · rw [if_pos (show nI (wn_ 3) ≤ nI j from (nI_leI (by omega) (by omega)).mpr h)]
      exact ⟨1, rfl, Or.inl ⟨rfl, he, fun i h2 => hi i (by omega)⟩⟩
    · obtain ⟨c1, c2, c3⟩ := hx.2 (s + j) (by omega)
      have l := hl j (by omega)
      have cb := wd_l 3 (by omega) j (by omega)
      rw [Nat.zero_add] at cb
      unfold le_c at cb
      rw [if_neg (show ¬ nI (wn_ 3) ≤ nI j from fun z => h ((nI_leI (by omega) (by omega)).mp z)), nI_add, if_pos (ok_T (by omega) (by omega)), if_pos (ok_T (by omega) (by omega)), nI_clamp (n := s + j) (by omega), c3, ch_le _ c1 l, k_ch3 j (by omega), show nI j + (1 : Int32) = nI (j + 1) from nI_1 j]
      by_cases e : ch (s + j) = wd_ 3 j
      · rw [if_pos (by rw [e])]
        refine ih (j + 1) (by omega) (by omega) (fun i h2 => ?_)
        by_cases q : i = j
        · subst q; exact e
        · exact hi i (by omega)
      · rw [if_neg (fun y => e ((nI_eq (by omega) (by omega)).mp y))]
        exact ⟨0, rfl, Or.inr ⟨rfl, fun y => e (y.2 j (by omega))⟩⟩
theorem k_w3 (hx : TX_ N ch bytes text) (hm : s + m ≤ N) (hl : ∀ j, j < m → le_c (ch (s + j))) : ∃ z, F_X9_isWord_S3 bytes (nI (s + m)) (nI s) = some z ∧ (z = 1 ∧ mt_ ch s m 3 ∨ z = 0 ∧ ¬ mt_ ch s m 3) := by
  have hN := hx.1
  have hw : wn_ 3 ≤ 7 := by decide
  have hw2 : st_len.getD 3 0 = wn_ 3 := by decide
  unfold F_X9_isWord_S3
  rw [pk_sub (by omega), Nat.add_sub_cancel_left, hw2, show Int32.ofNat (wn_ 3) = nI (wn_ 3) from rfl]
  by_cases e : m = wn_ 3
  · rw [if_pos (show nI m = nI (wn_ 3) by rw [e])]
    obtain ⟨z, a1, a2⟩ := k_i3 hx hm hl e (nI (s + m)) FU_ 0 (by omega) (fu_gt (by omega)) (fun i h => absurd h (by omega))
    rw [nI_0] at a1
    exact ⟨z, a1, a2⟩
  · rw [if_neg (show ¬ nI m = nI (wn_ 3) from fun y => e ((nI_eq (by omega) (by omega)).mp y))]
    exact ⟨0, rfl, Or.inr ⟨rfl, fun y => e y.1⟩⟩
theorem k_ch4 : ∀ j, j < wn_ 4 → st_ch 4 (nI j) = nI (wd_ 4 j) := by decide +kernel
theorem k_i4 (hx : TX_ N ch bytes text) (hm : s + m ≤ N) (hl : ∀ j, j < m → le_c (ch (s + j))) (he : m = wn_ 4) (pl : Int32) : ∀ (n j : Nat), j ≤ wn_ 4 → wn_ 4 - j < n → (∀ i, i < j → ch (s + i) = wd_ 4 i) → ∃ z, F_X9_isWord_S4_20 bytes pl (nI s) n (nI j) = some z ∧ (z = 1 ∧ mt_ ch s m 4 ∨ z = 0 ∧ ¬ mt_ ch s m 4) := by
  have hN := hx.1
  have hw : wn_ 4 ≤ 7 := by decide
  have hw2 : st_len.getD 4 0 = wn_ 4 := by decide
  intro n
  induction n with
  | zero => intro j _ h; exact absurd h (by omega)
  | succ n ih =>
    intro j hj hn hi
    rw [F_X9_isWord_S4_20, hw2, show Int32.ofNat (wn_ 4) = nI (wn_ 4) from rfl]
    by_cases h : wn_ 4 ≤ j
    · rw [if_pos (show nI (wn_ 4) ≤ nI j from (nI_leI (by omega) (by omega)).mpr h)]
      exact ⟨1, rfl, Or.inl ⟨rfl, he, fun i h2 => hi i (by omega)⟩⟩
    · obtain ⟨c1, c2, c3⟩ := hx.2 (s + j) (by omega)
      have l := hl j (by omega)
      have cb := wd_l 4 (by omega) j (by omega)
      rw [Nat.zero_add] at cb
      unfold le_c at cb
      rw [if_neg (show ¬ nI (wn_ 4) ≤ nI j from fun z => h ((nI_leI (by omega) (by omega)).mp z)), nI_add, if_pos (ok_T (by omega) (by omega)), if_pos (ok_T (by omega) (by omega)), nI_clamp (n := s + j) (by omega), c3, ch_le _ c1 l, k_ch4 j (by omega), show nI j + (1 : Int32) = nI (j + 1) from nI_1 j]
      by_cases e : ch (s + j) = wd_ 4 j
      · rw [if_pos (by rw [e])]
        refine ih (j + 1) (by omega) (by omega) (fun i h2 => ?_)
        by_cases q : i = j
        · subst q; exact e
        · exact hi i (by omega)
      · rw [if_neg (fun y => e ((nI_eq (by omega) (by omega)).mp y))]
        exact ⟨0, rfl, Or.inr ⟨rfl, fun y => e (y.2 j (by omega))⟩⟩
theorem k_w4 (hx : TX_ N ch bytes text) (hm : s + m ≤ N) (hl : ∀ j, j < m → le_c (ch (s + j))) : ∃ z, F_X9_isWord_S4 bytes (nI (s + m)) (nI s) = some z ∧ (z = 1 ∧ mt_ ch s m 4 ∨ z = 0 ∧ ¬ mt_ ch s m 4) := by
  have hN := hx.1
  have hw : wn_ 4 ≤ 7 := by decide
  have hw2 : st_len.getD 4 0 = wn_ 4 := by decide
  unfold F_X9_isWord_S4
  rw [pk_sub (by omega), Nat.add_sub_cancel_left, hw2, show Int32.ofNat (wn_ 4) = nI (wn_ 4) from rfl]
  by_cases e : m = wn_ 4
  · rw [if_pos (show nI m = nI (wn_ 4) by rw [e])]
    obtain ⟨z, a1, a2⟩ := k_i4 hx hm hl e (nI (s + m)) FU_ 0 (by omega) (fu_gt (by omega)) (fun i h => absurd h (by omega))
    rw [nI_0] at a1
    exact ⟨z, a1, a2⟩
  · rw [if_neg (show ¬ nI m = nI (wn_ 4) from fun y => e ((nI_eq (by omega) (by omega)).mp y))]
    exact ⟨0, rfl, Or.inr ⟨rfl, fun y => e y.1⟩⟩
/-- which word it is -/
def WD_ (bytes : Nat → Int32) (pl st : Int32) (v : Int64) : Prop :=
  (F_X9_isWord_S0 bytes pl st = some 1 ∧ v = lI (wc_ 0)) ∨ (F_X9_isWord_S0 bytes pl st = some 0 ∧ ¬ v = lI (wc_ 0) ∧ ((F_X9_isWord_S1 bytes pl st = some 1 ∧ v = lI (wc_ 1)) ∨ (F_X9_isWord_S1 bytes pl st = some 0 ∧ ¬ v = lI (wc_ 1) ∧ ((F_X9_isWord_S2 bytes pl st = some 1 ∧ v = lI (wc_ 2)) ∨ (F_X9_isWord_S2 bytes pl st = some 0 ∧ ¬ v = lI (wc_ 2) ∧ ((F_X9_isWord_S3 bytes pl st = some 1 ∧ v = lI (wc_ 3)) ∨ (F_X9_isWord_S3 bytes pl st = some 0 ∧ ¬ v = lI (wc_ 3) ∧ ((F_X9_isWord_S4 bytes pl st = some 1 ∧ v = lI (wc_ 4)) ∨ (F_X9_isWord_S4 bytes pl st = some 0 ∧ ¬ v = lI (wc_ 4))))))))))
theorem k_wd (hx : TX_ N ch bytes text) (hm : s + m ≤ N) (hl : ∀ j, j < m → le_c (ch (s + j))) : WD_ bytes (nI (s + m)) (nI s) (vl_ ch s m) := by
  unfold WD_
  obtain ⟨z0, a0, b0⟩ := k_w0 hx hm hl
  obtain ⟨z1, a1, b1⟩ := k_w1 hx hm hl
  obtain ⟨z2, a2, b2⟩ := k_w2 hx hm hl
  obtain ⟨z3, a3, b3⟩ := k_w3 hx hm hl
  obtain ⟨z4, a4, b4⟩ := k_w4 hx hm hl
  rcases b0 with ⟨rfl, m0⟩ | ⟨rfl, m0⟩
  · exact Or.inl ⟨a0, (mt_v hl (by omega)).mp m0⟩
  refine Or.inr ⟨a0, fun e => m0 ((mt_v hl (by omega)).mpr e), ?_⟩
  rcases b1 with ⟨rfl, m1⟩ | ⟨rfl, m1⟩
  · exact Or.inl ⟨a1, (mt_v hl (by omega)).mp m1⟩
  refine Or.inr ⟨a1, fun e => m1 ((mt_v hl (by omega)).mpr e), ?_⟩
  rcases b2 with ⟨rfl, m2⟩ | ⟨rfl, m2⟩
  · exact Or.inl ⟨a2, (mt_v hl (by omega)).mp m2⟩
  refine Or.inr ⟨a2, fun e => m2 ((mt_v hl (by omega)).mpr e), ?_⟩
  rcases b3 with ⟨rfl, m3⟩ | ⟨rfl, m3⟩
  · exact Or.inl ⟨a3, (mt_v hl (by omega)).mp m3⟩
  refine Or.inr ⟨a3, fun e => m3 ((mt_v hl (by omega)).mpr e), ?_⟩
  rcases b4 with ⟨rfl, m4⟩ | ⟨rfl, m4⟩
  · exact Or.inl ⟨a4, (mt_v hl (by omega)).mp m4⟩
  exact Or.inr ⟨a4, fun e => m4 ((mt_v hl (by omega)).mpr e)⟩
end HL
