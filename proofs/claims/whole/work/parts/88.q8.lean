/-! own: tried: the songs one by one -/
section CO15
variable {k T D dy : Nat} {te da la sl sL many days law slip len : Int32} {cn cd cr cs mn md mr ms : Nat → Int32}
variable {w lk st ss w' lk' st' ss' : Nat → Int32} {day left turn lot seen day' left' turn' lot' seen' : Int32}
variable {gain fd wa song : Nat → Int32} {W E V : Nat → Int} {sg : Nat → Nat} {m S q d : Nat}
theorem e_figL (h0 : 1 ≤ T) (hT : T ≤ 6) (h3 : m ≤ 3) : ∀ (n j v : Nat), j ≤ m → m - j < n → v < 2 ^ 31 → F_X12_figure_8 (nI T) n (nI m) (nI v) (nI j) = some (nI (v / T ^ (m - j) % T)) := by
  intro n
  induction n with
  | zero => intro j _ _ h; exact absurd h (by omega)
  | succ n ih =>
    intro j v hj hn hv
    rw [F_X12_figure_8]
    have nT : ¬ nI T = 0 := nI_ne0 (by omega) (by omega)
    by_cases h : m ≤ j
    · rw [if_pos ((nI_leI (by omega) (by omega)).mpr h), if_neg nT, pk_rem hv (by omega) (by omega), show m - j = 0 by omega, Nat.pow_zero, Nat.div_one]
    · have hd : v / T ≤ v := Nat.div_le_self v T
      rw [if_neg (fun z => h ((nI_leI (by omega) (by omega)).mp z)), if_neg nT, pk_div hv (by omega) (by omega), show nI j + (1 : Int32) = nI (j + 1) from nI_1 j, ih (j + 1) (v / T) (by omega) (by omega) (Nat.lt_of_le_of_lt hd hv), Nat.div_div_eq_div_mul, ← Nat.pow_succ', show (m - (j + 1)).succ = m - j by omega]
theorem e_fig (h0 : 1 ≤ T) (hT : T ≤ 6) (h3 : m ≤ 3) {c i : Nat} (hc : c < 2 ^ 31) (hi : i < m) : F_X12_figure (nI T) (nI c) (nI m) (nI i) = some (nI (fg_ T m c i)) ∧ fg_ T m c i < T := by
  refine ⟨?_, Nat.mod_lt _ (by omega)⟩
  unfold F_X12_figure fg_
  rw [show nI i + (1 : Int32) = nI (i + 1) from nI_1 i, e_figL h0 hT h3 FU_ (i + 1) c (by omega) (by unfold FU_; omega) hc, show m - (i + 1) = m - 1 - i by omega]
theorem e_spellL (h0 : 1 ≤ T) (hT : T ≤ 6) (h3 : m ≤ 3) {c : Nat} (hc : c < 2 ^ 31) : ∀ (n i : Nat) (s : Nat → Int32), i ≤ m → i < n → (∀ j, i ≤ j → j < m → s j = nI (fg_ T m c j)) → ∃ s2, F_X1_spell_11 (nI T) n s (nI (c / T ^ (m - i))) (nI i - 1) = some s2 ∧ ∀ j, j < m → s2 j = nI (fg_ T m c j) := by
  intro n
  induction n with
  | zero => intro i _ _ h; exact absurd h (by omega)
  | succ n ih =>
    intro i s hi hn hs
    rw [F_X1_spell_11]
    by_cases h : i = 0
    · subst h
      rw [if_pos (show nI 0 - 1 < 0 by decide)]
      exact ⟨s, rfl, fun j hj => hs j (by omega) hj⟩
    · obtain ⟨i, rfl⟩ : ∃ j, i = j + 1 := ⟨i - 1, by omega⟩
      have hd : c / T ^ (m - (i + 1)) ≤ c := Nat.div_le_self _ _
      rw [show nI (i + 1) - (1 : Int32) = nI i from pk_sub (a := i + 1) (b := 1) (by omega), if_neg (fun z => absurd ((lt_of (ti_nI (by omega)) tl_0).mp z) (by omega)), if_neg (nI_nle (by omega) (by omega)), if_neg (nI_ne0 (by omega) (by omega)), if_pos (ok_T (by omega) (by omega)), nI_clamp (n := i) (by omega), pk_rem (Nat.lt_of_le_of_lt hd hc) (by omega) (by omega), pk_div (Nat.lt_of_le_of_lt hd hc) (by omega) (by omega), Nat.div_div_eq_div_mul, ← Nat.pow_succ, show (m - (i + 1)).succ = m - i by omega, show nI i + (-1 : Int32) = nI i - 1 from (Int32.sub_eq_add_neg _ _).symm]
      refine ih i _ (by omega) (by omega) (fun j h1 h2 => ?_)
      by_cases e : j = i
      · subst e
        rw [pk_us]
        unfold fg_
        rw [show m - (j + 1) = m - 1 - j by omega]
      · rw [pk_un e]
        exact hs j (by omega) h2
theorem e_spell (h0 : 1 ≤ T) (hT : T ≤ 6) (h3 : m ≤ 3) {c : Nat} (hc : c < 2 ^ 31) (s : Nat → Int32) : ∃ s2, F_X1_spell (nI T) s (nI c) (nI m) = some s2 ∧ ∀ j, j < m → s2 j = nI (fg_ T m c j) := by
  unfold F_X1_spell
  rw [if_neg (fun z => absurd ((lt_of tl_3 (ti_nI (n := m) (by omega))).mp z) (by omega))]
  obtain ⟨s2, e1, e2⟩ := e_spellL h0 hT h3 hc FU_ m s (by omega) (by unfold FU_; omega) (fun j h1 h2 => absurd h1 (by omega))
  rw [Nat.sub_self, Nat.pow_zero, Nat.div_one] at e1
  exact ⟨s2, e1, e2⟩
theorem e_songsL (hT : T ≤ 6) (h3 : m ≤ 3) : ∀ (n i : Nat), i ≤ m → m - i < n → F_X1_songsOf_4 (nI T) n (nI m) (nI (T ^ i)) (nI i) = some (nI (T ^ m)) := by
  intro n
  induction n with
  | zero => intro i _ h; exact absurd h (by omega)
  | succ n ih =>
    intro i hi hn
    rw [F_X1_songsOf_4]
    by_cases h : m ≤ i
    · have e : i = m := by omega
      subst e
      rw [if_pos ((nI_leI (by omega) (by omega)).mpr h)]
    · rw [if_neg (fun z => h ((nI_leI (by omega) (by omega)).mp z)), pk_mul, ← Nat.pow_succ, show nI i + (1 : Int32) = nI (i + 1) from nI_1 i]
      exact ih (i + 1) (by omega) (by omega)
theorem e_L3 {code : Int32} (hT : T ≤ 6) : ∀ (n i : Nat) (held : Nat → Int32), i ≤ T → T - i < n → (∀ t, t < i → held t = w' t) → ∃ h2, F_X12_lacksBy_3 (nI T) mn md days mr day' left' w' n held code (nI m) (nI d) (nI i) = F_X12_lacksBy_41 (nI T) mn md days mr day' left' w' FU_ h2 code (nI m) (nI d) 0 0 0 ∧ ∀ t, t < T → h2 t = w' t := by
  intro n
  induction n with
  | zero => intro i _ _ h; exact absurd h (by omega)
  | succ n ih =>
    intro i held hi hn hh
    rw [F_X12_lacksBy_3]
    by_cases h : T ≤ i
    · rw [if_pos ((nI_leI (by omega) (by omega)).mpr h)]
      exact ⟨held, rfl, fun t ht => hh t (by omega)⟩
    · rw [if_neg (fun z => h ((nI_leI (by omega) (by omega)).mp z)), if_pos (ok_T (by omega) (by omega)), nI_clamp (n := i) (by omega), show nI i + (1 : Int32) = nI (i + 1) from nI_1 i]
      refine ih (i + 1) _ (by omega) (by omega) (fun t ht => ?_)
      by_cases e : t = i
      · subst e
        rw [pk_us]
      · rw [pk_un e]
        exact hh t (by omega)
/-- a song's days from the first -/
theorem e_song0 {code y3 : Int32} (h1 : 1 ≤ m) (h3 : m ≤ 3) (hd : d ≤ 9) (hT : T ≤ 6) (hD : D ≤ 20) (hdy : dy ≤ 99) (hg : ∀ t, t < T → (gain t).toInt = -(E t) ∧ -9 ≤ E t ∧ E t ≤ 9) (hm : ∀ t, t < T → (md t - mn t).toInt = -(E t) ∧ -9 ≤ E t ∧ E t ≤ 9) (f0 : fd 0 = left') (f1 : ∀ j, 1 ≤ j → j < 40 → fd j = if dy + j < D then mr (dy + j) else 0) (fr : ∀ j, j < 40 → rg_ (fd j) 30) (hsg : ∀ i, i < m → song i = nI (sg i) ∧ sg i < T) (hfig : ∀ i, i < m → F_X12_figure (nI T) code (nI m) (nI i) = some (nI (sg i)) ∧ sg i < T) (n : Nat) (hn : d < n) (level held : Nat → Int32) (pool : Int32) (hW : ∀ t, t < T → 0 ≤ W t ∧ W t ≤ 100000) (hl : ∀ t, t < T → (level t).toInt = W t) (hh : ∀ t, t < T → (held t).toInt = W t) : ∃ (tot r p2 : Int32) (l2 h2 : Nat → Int32), F_X12_lacksBy_41 (nI T) mn md (nI D) mr (nI dy) left' w' n held code (nI m) (nI d) 0 0 0 = some (tot, h2) ∧ F_X1_lackBySong_13 wa gain fd song (nI T) n level pool (nI m) (nI d) y3 0 0 0 = some (r, l2, p2) ∧ 0 ≤ tot.toInt ∧ tot.toInt ≤ 486 ∧ (r = tot ∨ (y3 ≤ r ∧ r.toInt ≤ tot.toInt)) := by
  obtain ⟨tot, r, p2, l2, h2, c1, c2, c3, c4, c5⟩ := e_songL (wa := wa) (gain := gain) (fd := fd) (mn := mn) (md := md) (mr := mr) (w' := w') (left' := left') (song := song) (sg := sg) (code := code) (y3 := y3) h1 h3 hd hT hD hdy hg hm f0 f1 fr hsg hfig n 0 0 W level held 0 pool (by omega) (by omega) (by omega) (fun t ht => by have := hW t ht; omega) hl hh (by rw [tl_0]; omega)
  rw [nI_0] at c1 c2
  rw [tl_0] at c3
  exact ⟨tot, r, p2, l2, h2, c1, c2, c3, by omega, c5⟩
theorem e_lacksM {code : Int32} {held h4 : Nat → Int32} {R : Option (Int32 × (Nat → Int32))} (b1 : F_X12_lacksBy_3 (nI T) mn md (nI D) mr (nI dy) left' w' FU_ held code (nI m) (nI d) 0 = F_X12_lacksBy_41 (nI T) mn md (nI D) mr (nI dy) left' w' FU_ h4 code (nI m) (nI d) 0 0 0) (c1 : F_X12_lacksBy_41 (nI T) mn md (nI D) mr (nI dy) left' w' FU_ h4 code (nI m) (nI d) 0 0 0 = R) : F_X12_lacksBy (nI T) mn md (nI D) mr (nI dy) left' w' held code (nI m) (nI d) = R := by
  rw [← c1, ← b1, F_X12_lacksBy]
theorem e_lacksC {y3 pool : Int32} {level : Nat → Int32} {R : Option (Int32 × (Nat → Int32) × Int32)} (c2 : F_X1_lackBySong_13 wa gain fd song (nI T) FU_ (va_cpy wa level 0 0 6) 0 (nI m) (nI d) y3 0 0 0 = R) : F_X1_lackBySong wa gain fd song (nI T) level pool (nI m) (nI d) y3 = R := by
  rw [← c2, F_X1_lackBySong, F_X1_startDays, Option.bind_some]
theorem fu_gt {d : Nat} (h : d ≤ 9) : d < FU_ := by unfold FU_; omega
/-- one song: what both answer -/
theorem e_code (h0 : 1 ≤ T) (h1 : 1 ≤ m) (h3 : m ≤ 3) (hd : d ≤ 9) (hT : T ≤ 6) (hD : D ≤ 20) (hdy : dy ≤ 99) (hg : ∀ t, t < T → (gain t).toInt = -(E t) ∧ -9 ≤ E t ∧ E t ≤ 9) (hm : ∀ t, t < T → (md t - mn t).toInt = -(E t) ∧ -9 ≤ E t ∧ E t ≤ 9) (f0 : fd 0 = left') (f1 : ∀ j, 1 ≤ j → j < 40 → fd j = if dy + j < D then mr (dy + j) else 0) (fr : ∀ j, j < 40 → rg_ (fd j) 30) (hw : ∀ t, t < T → (w' t).toInt = W t ∧ 0 ≤ W t ∧ W t ≤ 100000) (hwa : ∀ t, t < T → (wa t).toInt = W t) {c : Nat} (hc : c < 2 ^ 31) (held level s : Nat → Int32) (pool y3 : Int32) : ∃ (tot r p2 : Int32) (s2 l2 h2 : Nat → Int32), F_X12_lacksBy (nI T) mn md (nI D) mr (nI dy) left' w' held (nI c) (nI m) (nI d) = some (tot, h2) ∧ F_X1_spell (nI T) s (nI c) (nI m) = some s2 ∧ (∀ j, j < m → s2 j = nI (fg_ T m c j)) ∧ F_X1_lackBySong wa gain fd s2 (nI T) level pool (nI m) (nI d) y3 = some (r, l2, p2) ∧ 0 ≤ tot.toInt ∧ tot.toInt ≤ 486 ∧ (r = tot ∨ (y3 ≤ r ∧ r.toInt ≤ tot.toInt)) := by
  obtain ⟨s2, a1, a2⟩ := e_spell h0 hT h3 hc s
  obtain ⟨h4, b1, b2⟩ := e_L3 (mn := mn) (md := md) (mr := mr) (w' := w') (days := nI D) (day' := nI dy) (left' := left') (m := m) (d := d) (code := nI c) hT FU_ 0 held (by omega) (fu_gt (by omega)) (fun t ht => absurd ht (by omega))
  rw [nI_0] at b1
  obtain ⟨tot, r, p2, l2, h2, c1, c2, c3, c4, c5⟩ := e_song0 (wa := wa) (gain := gain) (fd := fd) (mn := mn) (md := md) (mr := mr) (w' := w') (left' := left') (song := s2) (sg := fg_ T m c) (code := nI c) (y3 := y3) (W := W) h1 h3 hd hT hD hdy hg hm f0 f1 fr (fun i hi => ⟨a2 i hi, (e_fig h0 hT h3 hc hi).2⟩) (fun i hi => e_fig h0 hT h3 hc hi) FU_ (fu_gt hd) (va_cpy wa level 0 0 6) h4 0 (fun t ht => (hw t ht).2) (fun t ht => by rw [cpy6 (by omega), hwa t ht]) (fun t ht => by rw [b2 t ht, (hw t ht).1])
  exact ⟨tot, r, p2, s2, l2, h2, e_lacksM b1 c1, a1, a2, e_lacksC c2, c3, c4, c5⟩
/-- what the reference answers at the end -/
def fin_ (T : Nat) (m3 i3 z : Int32) (b : Nat) (held : Nat → Int32) : Option (Int32 × (Nat → Int32)) := if 0 ≤ i3 then (if m3 ≤ i3 then (some ((-5 : Int32), held)) else ((F_X12_figure (nI T) (nI b) m3 i3).bind (fun u4 => some (u4, held)))) else (some (z, held))
theorem e_rest {N b : Nat} {i3 x : Int32} (h0 : 1 ≤ T) (h1 : 1 ≤ m) (h3 : m ≤ 3) (hd : d ≤ 9) (hT : T ≤ 6) (hD : D ≤ 20) (hdy : dy ≤ 99) (hg : ∀ t, t < T → (gain t).toInt = -(E t) ∧ -9 ≤ E t ∧ E t ≤ 9) (hm : ∀ t, t < T → (md t - mn t).toInt = -(E t) ∧ -9 ≤ E t ∧ E t ≤ 9) (f0 : fd 0 = left') (f1 : ∀ j, 1 ≤ j → j < 40 → fd j = if dy + j < D then mr (dy + j) else 0) (fr : ∀ j, j < 40 → rg_ (fd j) 30) (hw : ∀ t, t < T → (w' t).toInt = W t ∧ 0 ≤ W t ∧ W t ≤ 100000) (hwa : ∀ t, t < T → (wa t).toInt = W t) (hN : N ≤ 216) (hx : x.toInt = 0) : ∀ (n c : Nat) (held : Nat → Int32), c ≤ N → N - c < n → ∃ h2, F_X12_tried_104 (nI T) mn md (nI D) mr (nI dy) left' w' n held (nI m) (nI d) i3 (nI N) x (nI b) (nI c) = fin_ T (nI m) i3 x b h2 := by
  intro n
  induction n with
  | zero => intro c _ _ h; exact absurd h (by omega)
  | succ n ih =>
    intro c held hc hn
    rw [F_X12_tried_104]
    by_cases h : N ≤ c
    · rw [if_pos ((nI_leI (by omega) (by omega)).mpr h)]
      exact ⟨held, rfl⟩
    · obtain ⟨tot, r, p2, s2, l2, h2, a1, -, -, -, a5, -, -⟩ := e_code (wa := wa) (gain := gain) (fd := fd) (mn := mn) (md := md) (mr := mr) (w' := w') (left' := left') (c := c) h0 h1 h3 hd hT hD hdy hg hm f0 f1 fr hw hwa (by omega) held held held 0 0
      rw [if_neg (fun z => h ((nI_leI (by omega) (by omega)).mp z)), a1]
      simp only [Option.bind_some]
      rw [if_neg (fun z => absurd ((lt_of hx tl_0).mp z) (by omega)), if_pos ((le_of hx rfl).mpr a5), show nI c + (1 : Int32) = nI (c + 1) from nI_1 c]
      exact ih (c + 1) h2 (by omega) (by omega)
theorem e_tries {N : Nat} {i3 : Int32} (h0 : 1 ≤ T) (h1 : 1 ≤ m) (h3 : m ≤ 3) (hd : d ≤ 9) (hT : T ≤ 6) (hD : D ≤ 20) (hdy : dy ≤ 99) (hg : ∀ t, t < T → (gain t).toInt = -(E t) ∧ -9 ≤ E t ∧ E t ≤ 9) (hm : ∀ t, t < T → (md t - mn t).toInt = -(E t) ∧ -9 ≤ E t ∧ E t ≤ 9) (f0 : fd 0 = left') (f1 : ∀ j, 1 ≤ j → j < 40 → fd j = if dy + j < D then mr (dy + j) else 0) (fr : ∀ j, j < 40 → rg_ (fd j) 30) (hw : ∀ t, t < T → (w' t).toInt = W t ∧ 0 ≤ W t ∧ W t ≤ 100000) (hwa : ∀ t, t < T → (wa t).toInt = W t) (hN : N ≤ 216) : ∀ (n c b : Nat) (held level s : Nat → Int32) (pool x : Int32), c ≤ N → N - c < n → b < 2 ^ 31 → 0 ≤ x.toInt → ∃ (z p2 : Int32) (b2 : Nat) (h2 l2 s2 : Nat → Int32), b2 < 2 ^ 31 ∧ F_X12_tried_104 (nI T) mn md (nI D) mr (nI dy) left' w' n held (nI m) (nI d) i3 (nI N) x (nI b) (nI c) = fin_ T (nI m) i3 z b2 h2 ∧ F_X1_trySongs_16 wa gain fd (nI T) n level s pool (nI m) (nI d) (nI N) x (nI b) (nI c) = some (z, l2, s2, p2) ∧ ∀ j, j < m → s2 j = nI (fg_ T m b2 j) := by
  have last : ∀ (b : Nat) (level s : Nat → Int32) (pool x : Int32), b < 2 ^ 31 → ∃ s2 : Nat → Int32, F_X1_trySongs_65 wa gain fd (nI T) level s pool (nI m) x (nI b) = some (x, level, s2, pool) ∧ ∀ j, j < m → s2 j = nI (fg_ T m b j) := by
    intro b level s pool x hb
    obtain ⟨s2, a1, a2⟩ := e_spell h0 hT h3 hb s
    unfold F_X1_trySongs_65
    rw [a1]
    exact ⟨s2, rfl, a2⟩
  intro n
  induction n with
  | zero => intro c _ _ _ _ _ _ _ h; exact absurd h (by omega)
  | succ n ih =>
    intro c b held level s pool x hc hn hb hx
    by_cases h : N ≤ c
    · have z := (nI_leI (a := N) (b := c) (by omega) (by omega)).mpr h
      obtain ⟨s2, a1, a2⟩ := last b level s pool x hb
      rw [F_X12_tried_104, F_X1_trySongs_16, if_pos z, if_pos z, a1]
      exact ⟨x, _, b, held, _, s2, hb, rfl, rfl, a2⟩
    · have z : ¬ nI N ≤ nI c := fun z => h ((nI_leI (by omega) (by omega)).mp z)
      by_cases hx0 : x ≤ 0
      · have x0 : x.toInt = 0 := by have := (le_of rfl tl_0).mp hx0; omega
        obtain ⟨h2, b1⟩ := e_rest (N := N) (b := b) (i3 := i3) (wa := wa) (gain := gain) (fd := fd) (mn := mn) (md := md) (mr := mr) (w' := w') (left' := left') h0 h1 h3 hd hT hD hdy hg hm f0 f1 fr hw hwa hN x0 (n + 1) c held hc hn
        obtain ⟨s2, a1, a2⟩ := last b level s pool x hb
        rw [b1, F_X1_trySongs_16, if_neg z, if_pos hx0, a1]
        exact ⟨x, _, b, h2, _, s2, hb, rfl, rfl, a2⟩
      · obtain ⟨tot, r, p2, s2, l2, h2, a1, a2, a3, a4, a5, a6, a7⟩ := e_code (wa := wa) (gain := gain) (fd := fd) (mn := mn) (md := md) (mr := mr) (w' := w') (left' := left') (c := c) h0 h1 h3 hd hT hD hdy hg hm f0 f1 fr hw hwa (by omega) held level s pool x
        rw [F_X12_tried_104, F_X1_trySongs_16, if_neg z, if_neg z, if_neg hx0, a1, a2]
        simp only [Option.bind_some]
        rw [a4]
        simp only [Option.bind_some]
        rw [if_neg (c := x < 0) (fun q => absurd ((lt_of rfl tl_0).mp q) (by omega)), show nI c + (1 : Int32) = nI (c + 1) from nI_1 c]
        by_cases cc : x ≤ tot
        · have cr : x ≤ r := by
            rcases a7 with e | e
            · rw [e]; exact cc
            · exact e.1
          rw [if_pos cc, if_pos cr]
          exact ih (c + 1) b h2 l2 s2 p2 x (by omega) (by omega) hb hx
        · have er : r = tot := by
            rcases a7 with e | e
            · exact e
            · exact absurd (Int32.le_iff_toInt_le.mpr (by have := Int32.le_iff_toInt_le.mp e.1; omega)) cc
          rw [er, if_neg cc, if_neg cc]
          unfold F_X12_tried_133
          rw [show nI c + (1 : Int32) = nI (c + 1) from nI_1 c]
          exact ih (c + 1) c h2 l2 s2 p2 tot (by omega) (by omega) (by omega) a5
theorem e_first {N : Nat} {i3 : Int32} (h0 : 1 ≤ T) (h1 : 1 ≤ m) (h3 : m ≤ 3) (hd : d ≤ 9) (hT : T ≤ 6) (hD : D ≤ 20) (hdy : dy ≤ 99) (hg : ∀ t, t < T → (gain t).toInt = -(E t) ∧ -9 ≤ E t ∧ E t ≤ 9) (hm : ∀ t, t < T → (md t - mn t).toInt = -(E t) ∧ -9 ≤ E t ∧ E t ≤ 9) (f0 : fd 0 = left') (f1 : ∀ j, 1 ≤ j → j < 40 → fd j = if dy + j < D then mr (dy + j) else 0) (fr : ∀ j, j < 40 → rg_ (fd j) 30) (hw : ∀ t, t < T → (w' t).toInt = W t ∧ 0 ≤ W t ∧ W t ≤ 100000) (hwa : ∀ t, t < T → (wa t).toInt = W t) (hN : N ≤ 216) (hN1 : 1 ≤ N) (held level s : Nat → Int32) (pool : Int32) : ∃ (z p2 : Int32) (b2 : Nat) (h2 l2 s2 : Nat → Int32), b2 < 2 ^ 31 ∧ F_X12_tried_104 (nI T) mn md (nI D) mr (nI dy) left' w' FU_ held (nI m) (nI d) i3 (nI N) (-1) 0 0 = fin_ T (nI m) i3 z b2 h2 ∧ F_X1_trySongs_16 wa gain fd (nI T) FU_ level s pool (nI m) (nI d) (nI N) 1000000 0 0 = some (z, l2, s2, p2) ∧ ∀ j, j < m → s2 j = nI (fg_ T m b2 j) := by
  have tM : (1000000 : Int32).toInt = 1000000 := rfl
  have z : ¬ nI N ≤ 0 := nI_nle (by omega) (by omega)
  obtain ⟨tot, r, p2, s2, l2, h2, a1, a2, a3, a4, a5, a6, a7⟩ := e_code (wa := wa) (gain := gain) (fd := fd) (mn := mn) (md := md) (mr := mr) (w' := w') (left' := left') (c := 0) h0 h1 h3 hd hT hD hdy hg hm f0 f1 fr hw hwa (by omega) held level s pool 1000000
  have y := e_tries (N := N) (i3 := i3) (wa := wa) (gain := gain) (fd := fd) (mn := mn) (md := md) (mr := mr) (w' := w') (left' := left') h0 h1 h3 hd hT hD hdy hg hm f0 f1 fr hw hwa hN 7999 1 0 h2 l2 s2 p2 tot (by omega) (by omega) (by omega) a5
  rw [show nI 0 = (0 : Int32) from rfl] at a1 a2 y
  rw [show nI 1 = (0 : Int32) + 1 from rfl] at y
  have er : r = tot := by
    rcases a7 with e | e
    · exact e
    · exact absurd ((le_of tM rfl).mp e.1) (by omega)
  rw [FU_s, F_X12_tried_104, F_X1_trySongs_16, if_neg z, if_neg z, if_neg (show ¬ (1000000 : Int32) ≤ 0 by decide), a1, a2]
  simp only [Option.bind_some]
  rw [a4]
  simp only [Option.bind_some]
  rw [if_pos (show (-1 : Int32) < 0 by decide), er, if_neg (fun q => absurd ((le_of tM rfl).mp q) (by omega))]
  unfold F_X12_tried_133
  exact y
theorem pw_216 : ∀ T, T ≤ 6 → 1 ≤ T → ∀ m, m ≤ 3 → T ^ m ≤ 216 ∧ 1 ≤ T ^ m := by decide
theorem CO_tried (hk : k < 600) (hH : IH_ T te da la sl sL cn cd cr cs many days law slip len mn md mr ms) (hN : IN_ k T w lk st ss day left turn lot seen w' lk' st' ss' day' left' turn' lot' seen') (x1 x2 x3 : Int32) (fw fg fd fl fs : Nat → Int32) (ft fp : Int32) (held : Nat → Int32) : ∃ (u1 : Int32 × (Nat → Int32) × (Nat → Int32) × (Nat → Int32) × (Nat → Int32) × (Nat → Int32) × Int32 × Int32) (u2 : Int32 × (Nat → Int32)), F_X11_tried cn cd cr te da w day left fw fg fd fl fs ft fp x1 x2 x3 = some u1 ∧ F_X12_tried many mn md days mr day' left' w' held x1 x2 x3 = some u2 ∧ u1.1 = u2.1 := by
  obtain ⟨hT, rfl, rfl, ⟨D, hD, rfl, rfl, hr⟩, -, -, -, hnd⟩ := hH
  obtain ⟨⟨rfl, dy, hdy, rfl⟩, ⟨rfl, L, hL, rfl⟩, -, -, -, a6⟩ := hN
  have i1 : (1 : Int64).toInt = 1 := rfl
  have i2 : (2 : Int64).toInt = 2 := rfl
  have i3 : (3 : Int64).toInt = 3 := rfl
  have i9 : (9 : Int64).toInt = 9 := rfl
  have im : (-1 : Int64).toInt = -1 := rfl
  have tm : (-1 : Int32).toInt = -1 := rfl
  unfold F_X11_tried F_X12_tried
  rw [e_in, e_in, e_in, i1, i2, i3, i9, im]
  simp only [Option.bind_some]
  by_cases p1 : 1 ≤ x1.toInt ∧ x1.toInt ≤ 3
  case neg =>
    rw [if_neg p1]
    by_cases z : x1 < 1
    · rw [if_pos z]
      exact ⟨_, _, rfl, rfl, rfl⟩
    · rw [if_neg z, if_pos ((lt_of tl_3 rfl).mpr (by have := (not_congr (lt_of rfl tl_1)).mp z; omega))]
      exact ⟨_, _, rfl, rfl, rfl⟩
  rw [if_pos p1, if_neg (fun z => absurd ((lt_of rfl tl_1).mp z) (by omega)), if_neg (fun z => absurd ((lt_of tl_3 rfl).mp z) (by omega)), if_neg (show ¬ (1 : Int32) = 0 by decide)]
  by_cases p2 : 1 ≤ x2.toInt ∧ x2.toInt ≤ 9
  case neg =>
    rw [if_neg p2]
    by_cases z : x2 < 1
    · rw [if_pos z]
      exact ⟨_, _, rfl, rfl, rfl⟩
    · rw [if_neg z, if_pos ((lt_of tl_9 rfl).mpr (by have := (not_congr (lt_of rfl tl_1)).mp z; omega))]
      exact ⟨_, _, rfl, rfl, rfl⟩
  rw [if_pos p2, if_neg (fun z => absurd ((lt_of rfl tl_1).mp z) (by omega)), if_neg (fun z => absurd ((lt_of tl_9 rfl).mp z) (by omega)), if_neg (show ¬ (1 : Int32) = 0 by decide)]
  by_cases p3 : -1 ≤ x3.toInt ∧ x3.toInt ≤ 2
  case neg =>
    rw [if_neg p3]
    by_cases z : x3 < -1
    · rw [if_pos z]
      exact ⟨_, _, rfl, rfl, rfl⟩
    · rw [if_neg z, if_neg (fun q => by have := (lt_of rfl tl_3).mp q; have := (not_congr (lt_of rfl tm)).mp z; omega)]
      exact ⟨_, _, rfl, rfl, rfl⟩
  rw [if_pos p3, if_neg (fun z => absurd ((lt_of rfl tm).mp z) (by omega)), if_pos ((lt_of rfl tl_3).mpr (by omega)), if_neg (show ¬ (1 : Int32) = 0 by decide)]
  by_cases h0 : T = 0
  · subst h0
    rw [if_neg (show ¬ (1 : Int32) ≤ nI 0 by decide), if_pos (show nI 0 = 0 from rfl)]
    exact ⟨_, _, rfl, rfl, rfl⟩
  rw [if_pos ((le_of tl_1 (ti_nI (n := T) (by omega))).mpr (by omega)), if_neg (nI_ne0 (by omega) (by omega))]
  obtain ⟨m, hm, rfl⟩ := ix_nI (x := x1) (T := 4) (by omega) (by omega)
  obtain ⟨d, hd, rfl⟩ := ix_nI (x := x2) (T := 10) (by omega) (by omega)
  rw [ti_nI (by omega)] at p1 p2
  obtain ⟨fw2, fg2, fd2, e1, e2, e3, e4⟩ := e_from (cn := cn) (cd := cd) (cr := cr) (w := w) (left := nI L) hT hD hdy fw fg fd ft
  obtain ⟨W, E, g1, g2, g3, g4⟩ := e_fore (lk := lk) (lk' := lk') hk hT hnd a6 e2
  have fr : ∀ j, j < 40 → rg_ (fd2 j) 30 := by
    intro j hj
    by_cases j0 : j = 0
    · subst j0
      exact ⟨L, hL, e3⟩
    · rw [e4 j (by omega) hj]
      by_cases q : dy + j < D
      · rw [if_pos q, (hr _ q).1]
        exact (hr _ q).2
      · rw [if_neg q]
        exact ⟨0, by omega, rfl⟩
  have f1 : ∀ j, 1 ≤ j → j < 40 → fd2 j = if dy + j < D then mr (dy + j) else 0 := by
    intro j j0 hj
    rw [e4 j j0 hj]
    by_cases q : dy + j < D
    · rw [if_pos q, if_pos q, (hr _ q).1]
    · rw [if_neg q, if_neg q]
  have gm : ∀ t, t < T → (md t - mn t).toInt = -(E t) ∧ -9 ≤ E t ∧ E t ≤ 9 := by
    intro t ht
    have := g1 t ht
    rw [(e2 t ht).2, (hnd t ht).1, (hnd t ht).2.2.1] at this
    exact this
  obtain ⟨n1, n2⟩ := pw_216 T hT (by omega) m (by omega)
  obtain ⟨z, p4, b2, h2, l2, s2, c0, c1, c2, c3⟩ := e_first (N := T ^ m) (i3 := x3) (wa := fw2) (gain := fg2) (fd := fd2) (mn := mn) (md := md) (mr := mr) (w' := w') (left' := nI L) (m := m) (d := d) (by omega) (by omega) (by omega) (by omega) hT hD hdy g1 gm e3 f1 fr g3 g4 n1 n2 held fl fs fp
  have ref : (if nI m = 1 then F_X12_tried_93 (nI T) mn md (nI D) mr (nI dy) (nI L) w' held (nI m) (nI d) x3 (nI T) else if nI m = 2 then F_X12_tried_93 (nI T) mn md (nI D) mr (nI dy) (nI L) w' held (nI m) (nI d) x3 (nI T * nI T) else F_X12_tried_93 (nI T) mn md (nI D) mr (nI dy) (nI L) w' held (nI m) (nI d) x3 (nI T * nI T * nI T)) = fin_ T (nI m) x3 z b2 h2 := by
    unfold F_X12_tried_93
    have hm3 : m = 1 ∨ m = 2 ∨ m = 3 := by omega
    rcases hm3 with rfl | rfl | rfl
    · rw [if_pos (show nI 1 = 1 from rfl)]
      rw [Nat.pow_one] at c1
      exact c1
    · rw [if_neg (show ¬ nI 2 = 1 by decide), if_pos (show nI 2 = 2 from rfl), pk_mul]
      rw [Nat.pow_two] at c1
      exact c1
    · rw [if_neg (show ¬ nI 3 = 1 by decide), if_neg (show ¬ nI 3 = 2 by decide), pk_mul, pk_mul]
      rw [show T ^ 3 = T * T * T by rw [Nat.pow_succ, Nat.pow_two]] at c1
      exact c1
  rw [ref]
  unfold fin_
  by_cases q0 : 0 ≤ x3
  · obtain ⟨i, hi, rfl⟩ := ix_nI (x := x3) (T := 3) (by have := (le_of tl_0 rfl).mp q0; omega) (by omega)
    rw [if_pos q0]
    by_cases qi : m ≤ i
    · rw [if_pos ((nI_leI (by omega) (by omega)).mpr qi), if_neg (fun z => absurd ((nI_ltI (by omega) (by omega)).mp z) (by omega))]
      exact ⟨_, _, rfl, rfl, rfl⟩
    · rw [if_neg (fun z => qi ((nI_leI (by omega) (by omega)).mp z)), if_pos ((nI_ltI (by omega) (by omega)).mpr (by omega)), e1, (e_fig (by omega) hT (by omega) c0 (by omega)).1]
      simp only [Option.bind_some]
      unfold F_X1_trySongs F_X1_songsOf
      rw [show F_X1_songsOf_4 (nI T) FU_ (nI m) 1 0 = some (nI (T ^ m)) from e_songsL hT (by omega) FU_ 0 (by omega) (by unfold FU_; omega)]
      simp only [Option.bind_some]
      rw [c2]
      simp only [Option.bind_some]
      rw [if_neg (fun e => by have := congrArg Int32.toInt e; rw [ti_nI (by omega), tm] at this; omega), if_pos (ok_T (by omega) (by omega)), nI_clamp (n := i) (by omega), c3 i (by omega)]
      exact ⟨_, _, rfl, rfl, rfl⟩
  · have e : x3 = -1 := Int32.toInt_inj.mp (by rw [tm]; have := (not_congr (le_of tl_0 rfl)).mp q0; omega)
    subst e
    rw [if_neg q0, if_pos ((lt_of tm (ti_nI (n := m) (by omega))).mpr (by omega)), e1]
    simp only [Option.bind_some]
    unfold F_X1_trySongs F_X1_songsOf
    rw [show F_X1_songsOf_4 (nI T) FU_ (nI m) 1 0 = some (nI (T ^ m)) from e_songsL hT (by omega) FU_ 0 (by omega) (by unfold FU_; omega)]
    simp only [Option.bind_some]
    rw [c2]
    simp only [Option.bind_some]
    rw [if_pos trivial]
    exact ⟨_, _, rfl, rfl, rfl⟩
end CO15
