/-! own: tried: a song's days -/
def fg_ (T m c i : Nat) : Nat := c / T ^ (m - 1 - i) % T
def cn_ (sg : Nat → Nat) (m S t : Nat) : Nat → Nat
  | 0 => 0
  | q + 1 => cn_ sg m S t q + if sg ((S + q) % m) = t then 1 else 0
def ca_ (sg : Nat → Nat) (m S t q : Nat) : Nat → Nat
  | 0 => 0
  | i + 1 => ca_ sg m S t q i + if sg ((S + i) % m) = t then (q + m - 1 - i) / m else 0
theorem dm_s {m q j : Nat} (h1 : 1 ≤ m) (h3 : m ≤ 3) (hj : j < m) : (q + 1 + m - 1 - j) / m = (q + m - 1 - j) / m + if q % m = j then 1 else 0 := by
  have : m = 1 ∨ m = 2 ∨ m = 3 := by omega
  rcases this with rfl | rfl | rfl <;> split <;> omega
theorem ca_s {sg : Nat → Nat} {m S t q : Nat} (h1 : 1 ≤ m) (h3 : m ≤ 3) : ∀ i, i ≤ m → ca_ sg m S t (q + 1) i = ca_ sg m S t q i + if q % m < i ∧ sg ((S + q % m) % m) = t then 1 else 0
  | 0, _ => by rw [if_neg (by omega)]; rfl
  | i + 1, hi => by
    rw [ca_, ca_, ca_s h1 h3 i (by omega), dm_s h1 h3 (by omega)]
    by_cases c : sg ((S + i) % m) = t
    · rw [if_pos c, if_pos c]
      by_cases e : q % m = i
      · rw [if_pos e, if_neg (by omega), if_pos ⟨by omega, by rw [e]; exact c⟩]
        omega
      · rw [if_neg e]
        by_cases d : q % m < i ∧ sg ((S + q % m) % m) = t
        · rw [if_pos d, if_pos ⟨by omega, d.2⟩]
          omega
        · rw [if_neg d, if_neg (fun z => d ⟨by omega, z.2⟩)]
          omega
    · rw [if_neg c, if_neg c]
      by_cases d : q % m < i ∧ sg ((S + q % m) % m) = t
      · rw [if_pos d, if_pos ⟨by omega, d.2⟩]
      · rw [if_neg d, if_neg (fun z => by
          by_cases e : q % m = i
          · exact c (by rw [← e]; exact z.2)
          · exact d ⟨by omega, z.2⟩)]
theorem ca_0 {sg : Nat → Nat} {m S t : Nat} : ∀ i, i ≤ m → ca_ sg m S t 0 i = 0
  | 0, _ => rfl
  | i + 1, hi => by
    rw [ca_, ca_0 i (by omega), Nat.div_eq_of_lt (by omega)]
    split <;> rfl
theorem ca_cn {sg : Nat → Nat} {m S t : Nat} (h1 : 1 ≤ m) (h3 : m ≤ 3) : ∀ q, ca_ sg m S t q m = cn_ sg m S t q
  | 0 => ca_0 m (Nat.le_refl m)
  | q + 1 => by
    rw [ca_s h1 h3 m (Nat.le_refl m), ca_cn h1 h3 q, cn_, Nat.add_mod_mod]
    congr 1
    have : q % m < m := Nat.mod_lt _ (by omega)
    by_cases c : sg ((S + q) % m) = t
    · rw [if_pos c, if_pos ⟨this, c⟩]
    · rw [if_neg c, if_neg (fun z => c z.2)]
theorem cn_b {sg : Nat → Nat} {m S t : Nat} : ∀ q, cn_ sg m S t q ≤ q
  | 0 => Nat.le_refl 0
  | q + 1 => by
    have := cn_b (sg := sg) (m := m) (S := S) (t := t) q
    rw [cn_]
    split <;> omega
theorem ca_b {sg : Nat → Nat} {m S t q : Nat} (hq : q ≤ 30) (hm : m ≤ 3) : ∀ i, ca_ sg m S t q i ≤ 33 * i
  | 0 => Nat.le_refl 0
  | i + 1 => by
    have := ca_b (sg := sg) (m := m) (S := S) (t := t) hq hm i
    have h2 : (q + m - 1 - i) / m ≤ q + m - 1 - i := Nat.div_le_self _ _
    rw [ca_]
    split <;> omega
section CO14
variable {k T D dy : Nat} {te da la sl sL many days law slip len : Int32} {cn cd cr cs mn md mr ms : Nat → Int32}
variable {w lk st ss w' lk' st' ss' : Nat → Int32} {day left turn lot seen day' left' turn' lot' seen' : Int32}
variable {gain fd wa song : Nat → Int32} {W E V : Nat → Int} {sg : Nat → Nat} {m S q d : Nat}
theorem e_sing (h1 : 1 ≤ m) (h3 : m ≤ 3) (hsg : ∀ i, i < m → song i = nI (sg i) ∧ sg i < T) (hT : T ≤ 6) (hS : S < 10000) (hq : q ≤ 30) (hV : ∀ t, t < T → 0 ≤ V t ∧ V t ≤ 200000) : ∀ (n i : Nat) (level : Nat → Int32), i ≤ m → m - i < n → (∀ t, t < T → (level t).toInt = V t + (ca_ sg m S t q i : Nat)) → ∃ l2, F_X1_singDay_3 song n level (nI m) (nI S) (nI q) (nI i) = some l2 ∧ ∀ t, t < T → (l2 t).toInt = V t + (cn_ sg m S t q : Nat) := by
  intro n
  induction n with
  | zero => intro i _ _ h; exact absurd h (by omega)
  | succ n ih =>
    intro i level hi hn hl
    rw [F_X1_singDay_3]
    by_cases h : m ≤ i
    · have e : i = m := by omega
      rw [if_pos ((nI_leI (by omega) (by omega)).mpr h)]
      exact ⟨level, rfl, fun t ht => by rw [hl t ht, e, ca_cn h1 h3]⟩
    · have hm : (S + i) % m < m := Nat.mod_lt _ (by omega)
      obtain ⟨s1, s2⟩ := hsg _ hm
      have ex : nI q - nI i + nI m - 1 = nI (q + m - 1 - i) := Int32.toInt_inj.mp (by
        rw [ts_ (ta_ (ts_ (ti_nI (n := q) (by omega)) (ti_nI (n := i) (by omega)) (by omega) (by omega)) (ti_nI (n := m) (by omega)) (by omega) (by omega)) tl_1 (by omega) (by omega), ti_nI (by omega)]
        omega)
      rw [if_neg (fun z => h ((nI_leI (by omega) (by omega)).mp z)), if_neg (fun z => absurd ((lt_of tl_3 (ti_nI (n := m) (by omega))).mp z) (by omega)), if_neg (nI_ne0 (by omega) (by omega)), nI_add, pk_rem (a := S + i) (d := m) (by omega) (by omega) (by omega), if_pos (ok_T (by omega) (by omega)), nI_clamp (n := (S + i) % m) (by omega), s1, if_pos (ok_T (by omega) (by omega)), nI_clamp (n := sg ((S + i) % m)) (by omega), ex, pk_div (by omega) (by omega) (by omega), show nI i + (1 : Int32) = nI (i + 1) from nI_1 i]
      refine ih (i + 1) _ (by omega) (by omega) (fun t ht => ?_)
      have hb := ca_b (sg := sg) (S := S) (t := t) hq h3 i
      have hv := hV t ht
      have hdv : (q + m - 1 - i) / m ≤ q + m - 1 - i := Nat.div_le_self _ _
      rw [ca_]
      by_cases c : sg ((S + i) % m) = t
      · subst c
        rw [pk_us, if_pos rfl]
        generalize (q + m - 1 - i) / m = Z at *
        rw [ta_ (hl _ ht) (ti_nI (by omega)) (by omega) (by omega)]
        omega
      · rw [pk_un (fun e => c e.symm), if_neg c, hl t ht]
        omega
theorem e_75 {k41 : (Nat → Int32) → Int32 → Int32 → Int32 → Int32 → Int32 → Int32 → Option (Int32 × (Nat → Int32))} {code y3 y4 y6 : Int32} (h1 : 1 ≤ m) (h3 : m ≤ 3) (hT : T ≤ 6) (hfig : ∀ i, i < m → F_X12_figure (nI T) code (nI m) (nI i) = some (nI (sg i)) ∧ sg i < T) (hS : S < 10000) (hq : q ≤ 30) (hV : ∀ t, t < T → 0 ≤ V t ∧ V t ≤ 200000) : ∀ (n i : Nat) (held : Nat → Int32), i ≤ q → q - i < n → (∀ t, t < T → (held t).toInt = V t + (cn_ sg m S t i : Nat)) → ∃ h2, F_X12_lacksBy_75 (nI T) mn md days mr day' left' w' k41 n held code (nI m) y3 y4 (nI (S + i)) y6 (nI q) (nI i) = F_X12_lacksBy_113 (nI T) mn md days mr day' left' w' k41 FU_ h2 code (nI m) y3 y4 (nI (S + q)) y6 0 ∧ ∀ t, t < T → (h2 t).toInt = V t + (cn_ sg m S t q : Nat) := by
  intro n
  induction n with
  | zero => intro i _ _ h; exact absurd h (by omega)
  | succ n ih =>
    intro i held hi hn hl
    rw [F_X12_lacksBy_75]
    by_cases h : q ≤ i
    · have e : i = q := by omega
      subst e
      rw [if_pos ((nI_leI (by omega) (by omega)).mpr h)]
      exact ⟨held, rfl, hl⟩
    · have hm : (S + i) % m < m := Nat.mod_lt _ (by omega)
      obtain ⟨s1, s2⟩ := hfig _ hm
      rw [if_neg (fun z => h ((nI_leI (by omega) (by omega)).mp z)), if_neg (nI_ne0 (by omega) (by omega)), pk_rem (a := S + i) (d := m) (by omega) (by omega) (by omega), s1]
      simp only [Option.bind_some]
      rw [if_pos (ok_T (by omega) (by omega)), nI_clamp (n := sg ((S + i) % m)) (by omega), show nI i + (1 : Int32) = nI (i + 1) from nI_1 i, show nI (S + i) + (1 : Int32) = nI (S + (i + 1)) from nI_1 (S + i)]
      refine ih (i + 1) _ (by omega) (by omega) (fun t ht => ?_)
      have hb := cn_b (sg := sg) (m := m) (S := S) (t := t) i
      have hv := hV t ht
      rw [cn_]
      by_cases c : sg ((S + i) % m) = t
      · subst c
        rw [pk_us, if_pos rfl, ta_ (hl _ ht) tl_1 (by omega) (by omega)]
        omega
      · rw [pk_un (fun e => c e.symm), if_neg c, hl t ht]
        omega
theorem e_113 {k41 : (Nat → Int32) → Int32 → Int32 → Int32 → Int32 → Int32 → Int32 → Option (Int32 × (Nat → Int32))} {y1 y2 y3 y5 y6 : Int32} (hT : T ≤ 6) (hm : ∀ t, t < T → (md t - mn t).toInt = -(E t) ∧ -9 ≤ E t ∧ E t ≤ 9) {Lv : Nat → Int} (hL : ∀ t, t < T → 0 ≤ Lv t ∧ Lv t ≤ 1000000) {X : Int} (hX : 0 ≤ X ∧ X ≤ 100000) : ∀ (n i : Nat) (held : Nat → Int32) (y4 : Int32), i ≤ T → T - i < n → y4.toInt = X + si_ (fun t => max 0 (E t - Lv t)) i → (∀ t, t < T → (held t).toInt = if t < i then max 0 (Lv t - E t) else Lv t) → ∃ (z : Int32) (h2 : Nat → Int32), F_X12_lacksBy_113 (nI T) mn md days mr day' left' w' k41 n held y1 y2 y3 y4 y5 y6 (nI i) = k41 h2 y1 y2 y3 z y5 (y6 + 1) ∧ z.toInt = X + si_ (fun t => max 0 (E t - Lv t)) T ∧ ∀ t, t < T → (h2 t).toInt = max 0 (Lv t - E t) := by
  intro n
  induction n with
  | zero => intro i _ _ _ h; exact absurd h (by omega)
  | succ n ih =>
    intro i held y4 hi hn hy hl
    rw [F_X12_lacksBy_113]
    by_cases h : T ≤ i
    · have hiT : i = T := by omega
      subst hiT
      rw [if_pos ((nI_leI (by omega) (by omega)).mpr h)]
      exact ⟨y4, held, rfl, hy, fun t ht => by rw [hl t ht, if_pos ht]⟩
    · obtain ⟨g1, g2, g3⟩ := hm i (by omega)
      have l1 := hl i (by omega)
      rw [if_neg (by omega)] at l1
      obtain ⟨b1, b2⟩ := hL i (by omega)
      have sb := si_b (M := 9) (f := fun t => max 0 (E t - Lv t)) i (fun t ht => by have := hm t (by omega); have := hL t (by omega); show 0 ≤ max 0 (E t - Lv t) ∧ max 0 (E t - Lv t) ≤ 9; omega)
      have hs : (held i + (md i - mn i)).toInt = Lv i + -(E i) := ta_ l1 g1 (by omega) (by omega)
      have oi : ok_I (nI i) 6 = true := ok_T (by omega) (by omega)
      rw [if_neg (fun z => h ((nI_leI (by omega) (by omega)).mp z)), if_pos oi, nI_clamp (n := i) (by omega), pk_us]
      unfold F_X12_lacksBy_171
      rw [if_pos oi, nI_clamp (n := i) (by omega), pk_us, show nI i + (1 : Int32) = nI (i + 1) from nI_1 i]
      have tail : ∀ (v : Int32), v.toInt = max 0 (Lv i - E i) → ∀ t, t < T → (upd (upd held i (held i + (md i - mn i))) i v t).toInt = if t < i + 1 then max 0 (Lv t - E t) else Lv t := by
        intro v hv t ht
        by_cases e : t = i
        · subst e
          rw [pk_us, hv, if_pos (by omega)]
        · rw [pk_un e, pk_un e, hl t ht]
          by_cases c : t < i
          · rw [if_pos c, if_pos (by omega)]
          · rw [if_neg c, if_neg (by omega)]
      by_cases c : 0 ≤ held i + (md i - mn i)
      · have ci := (le_of tl_0 hs).mp c
        rw [if_pos c, if_pos c, Int32.add_zero]
        refine ih (i + 1) _ _ (by omega) (by omega) ?_ (tail _ (by rw [hs]; omega))
        rw [si_, hy]
        show _ = X + (_ + max 0 (E i - Lv i))
        omega
      · have ci := (not_congr (le_of tl_0 hs)).mp c
        rw [if_neg c, if_neg c, if_pos oi]
        refine ih (i + 1) _ _ (by omega) (by omega) ?_ (tail _ (by rw [tl_0]; omega))
        rw [si_, ta_ hy (tn_ hs (by omega) (by omega)) (by omega) (by omega)]
        show _ = X + (_ + max 0 (E i - Lv i))
        omega
/-- a song's days: the reference sings them all, the class up to a bound -/
theorem e_songL {code y3 : Int32} (h1 : 1 ≤ m) (h3 : m ≤ 3) (hd : d ≤ 9) (hT : T ≤ 6) (hD : D ≤ 20) (hdy : dy ≤ 99) (hg : ∀ t, t < T → (gain t).toInt = -(E t) ∧ -9 ≤ E t ∧ E t ≤ 9) (hm : ∀ t, t < T → (md t - mn t).toInt = -(E t) ∧ -9 ≤ E t ∧ E t ≤ 9) (f0 : fd 0 = left') (f1 : ∀ j, 1 ≤ j → j < 40 → fd j = if dy + j < D then mr (dy + j) else 0) (fr : ∀ j, j < 40 → rg_ (fd j) 30) (hsg : ∀ i, i < m → song i = nI (sg i) ∧ sg i < T) (hfig : ∀ i, i < m → F_X12_figure (nI T) code (nI m) (nI i) = some (nI (sg i)) ∧ sg i < T) : ∀ (n e S : Nat) (V : Nat → Int) (level held : Nat → Int32) (x pool : Int32), e ≤ d → d - e < n → S ≤ 30 * e → (∀ t, t < T → 0 ≤ V t ∧ V t ≤ 100000 + 40 * e) → (∀ t, t < T → (level t).toInt = V t) → (∀ t, t < T → (held t).toInt = V t) → 0 ≤ x.toInt ∧ x.toInt ≤ 54 * e → ∃ (tot r p2 : Int32) (l2 h2 : Nat → Int32), F_X12_lacksBy_41 (nI T) mn md (nI D) mr (nI dy) left' w' n held code (nI m) (nI d) x (nI S) (nI e) = some (tot, h2) ∧ F_X1_lackBySong_13 wa gain fd song (nI T) n level pool (nI m) (nI d) y3 (nI S) x (nI e) = some (r, l2, p2) ∧ x.toInt ≤ tot.toInt ∧ tot.toInt ≤ 54 * d ∧ (r = tot ∨ (y3 ≤ r ∧ r.toInt ≤ tot.toInt)) := by
  intro n
  induction n with
  | zero => intro e _ _ _ _ _ _ _ h; exact absurd h (by omega)
  | succ n ih =>
    intro e S V level held x pool he hn hS hV hl hh hx
    by_cases h : d ≤ e
    · have z := (nI_leI (a := d) (b := e) (by omega) (by omega)).mpr h
      rw [F_X12_lacksBy_41, F_X1_lackBySong_13, if_pos z, if_pos z]
      exact ⟨_, _, _, _, _, rfl, rfl, by omega, by omega, Or.inl rfl⟩
    · have z : ¬ nI d ≤ nI e := fun z => h ((nI_leI (by omega) (by omega)).mp z)
      have z4 : ¬ (40 : Int32) ≤ nI e := fun z => absurd ((le_of tl_40 (ti_nI (n := e) (by omega))).mp z) (by omega)
      obtain ⟨Q, hQ, eQ⟩ := fr e (by omega)
      have hV2 : ∀ t, t < T → 0 ≤ V t ∧ V t ≤ 200000 := fun t ht => by have := hV t ht; omega
      have hLv : ∀ t, t < T → 0 ≤ V t + (cn_ sg m S t Q : Nat) ∧ V t + (cn_ sg m S t Q : Nat) ≤ 1000000 := fun t ht => by have := hV t ht; have := cn_b (sg := sg) (m := m) (S := S) (t := t) Q; omega
      obtain ⟨h2, a1, a2⟩ := e_75 (k41 := F_X12_lacksBy_41 (nI T) mn md (nI D) mr (nI dy) left' w' n) (mn := mn) (md := md) (mr := mr) (w' := w') (days := nI D) (day' := nI dy) (left' := left') (code := code) (y3 := nI d) (y4 := x) (y6 := nI e) (S := S) (q := Q) (V := V) h1 h3 hT hfig (by omega) hQ hV2 FU_ 0 held (by omega) (by unfold FU_; omega) (fun t ht => by rw [hh t ht]; simp [cn_])
      obtain ⟨zz, h4, b1, b2, b3⟩ := e_113 (k41 := F_X12_lacksBy_41 (nI T) mn md (nI D) mr (nI dy) left' w' n) (mn := mn) (md := md) (mr := mr) (w' := w') (days := nI D) (day' := nI dy) (left' := left') (y1 := code) (y2 := nI m) (y3 := nI d) (y5 := nI (S + Q)) (y6 := nI e) (E := E) hT hm (Lv := fun t => V t + (cn_ sg m S t Q : Nat)) hLv (X := x.toInt) (by omega) FU_ 0 h2 x (by omega) (by unfold FU_; omega) (by simp [si_]) (fun t ht => by rw [a2 t ht, if_neg (by omega)])
      obtain ⟨l3, c1, c2⟩ := e_sing (song := song) (S := S) (q := Q) (V := V) h1 h3 hsg hT (by omega) hQ hV2 FU_ 0 level (by omega) (by unfold FU_; omega) (fun t ht => by rw [hl t ht]; simp [ca_])
      obtain ⟨o, l4, d1, d2, d3⟩ := e_pass (T := T) (gain := gain) (E := E) hT hg (Lv := fun t => V t + (cn_ sg m S t Q : Nat)) hLv (level := l3) c2
      have sb := si_b (M := 9) (f := fun t => max 0 (E t - (V t + (cn_ sg m S t Q : Nat)))) T (fun t ht => by have := hg t ht; have := hLv t ht; show 0 ≤ max 0 (E t - (V t + (cn_ sg m S t Q : Nat))) ∧ max 0 (E t - (V t + (cn_ sg m S t Q : Nat))) ≤ 9; omega)
      have ez : x + o = zz := Int32.toInt_inj.mp (by rw [b2, ta_ rfl d2 (by omega) (by omega)])
      have bz : x.toInt ≤ zz.toInt ∧ zz.toInt ≤ 54 * ((e + 1 : Nat) : Int) := by rw [b2]; omega
      obtain ⟨tot, r, p2, l5, h5, i1, i2, i3, i4, i5⟩ := ih (e + 1) (S + Q) (fun t => max 0 (V t + (cn_ sg m S t Q : Nat) - E t)) l4 h4 zz pool (by omega) (by omega) (by omega) (fun t ht => by
        have := hV t ht
        have := cn_b (sg := sg) (m := m) (S := S) (t := t) Q
        have := hg t ht
        show 0 ≤ max 0 (V t + (cn_ sg m S t Q : Nat) - E t) ∧ max 0 (V t + (cn_ sg m S t Q : Nat) - E t) ≤ _
        omega) d3 b3 (by omega)
      have ref : F_X12_lacksBy_41 (nI T) mn md (nI D) mr (nI dy) left' w' (n + 1) held code (nI m) (nI d) x (nI S) (nI e) = some (tot, h5) := by
        have key : ∀ u : Int32, u = fd e → F_X12_lacksBy_75 (nI T) mn md (nI D) mr (nI dy) left' w' (F_X12_lacksBy_41 (nI T) mn md (nI D) mr (nI dy) left' w' n) FU_ held code (nI m) (nI d) x (nI S) (nI e) u 0 = some (tot, h5) := by
          intro u hu
          rw [hu, eQ, show F_X12_lacksBy_75 (nI T) mn md (nI D) mr (nI dy) left' w' (F_X12_lacksBy_41 (nI T) mn md (nI D) mr (nI dy) left' w' n) FU_ held code (nI m) (nI d) x (nI S) (nI e) (nI Q) 0 = _ from a1, show F_X12_lacksBy_113 (nI T) mn md (nI D) mr (nI dy) left' w' (F_X12_lacksBy_41 (nI T) mn md (nI D) mr (nI dy) left' w' n) FU_ h2 code (nI m) (nI d) x (nI (S + Q)) (nI e) 0 = _ from b1, show nI e + (1 : Int32) = nI (e + 1) from nI_1 e]
          exact i1
        rw [F_X12_lacksBy_41, if_neg z]
        by_cases e0 : e = 0
        · subst e0
          rw [if_pos (show nI 0 = 0 from rfl)]
          exact key _ f0.symm
        · rw [if_neg (nI_ne0 (by omega) (by omega)), nI_add, e_dripOf hD (by omega)]
          simp only [Option.bind_some]
          exact key _ (f1 e (by omega) (by omega)).symm
      rw [ref, F_X1_lackBySong_13, if_neg z, if_neg z4]
      by_cases c : y3 ≤ x
      · rw [if_pos c]
        exact ⟨tot, _, _, _, _, rfl, rfl, by omega, i4, Or.inr ⟨c, by omega⟩⟩
      · rw [if_neg c, if_pos (ok_T (by omega) (by omega)), nI_clamp (n := e) (by omega), eQ, show F_X1_singDay song level (nI m) (nI S) (nI Q) = some l3 from c1]
        simp only [Option.bind_some]
        rw [d1]
        simp only [Option.bind_some]
        rw [ez, nI_add, show nI e + (1 : Int32) = nI (e + 1) from nI_1 e]
        exact ⟨tot, r, p2, l5, h5, rfl, i2, by omega, i4, i5⟩
end CO14
