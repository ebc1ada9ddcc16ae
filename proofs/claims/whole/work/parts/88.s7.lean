/-! own: hill: both take it over -/
section HL7
variable {sz many days law slip len day left turn seen a b k rM rD rL rS rN y1 : Int32} {w : Int64} {text rt rd rs images : Nat → Int32}
theorem cpyn {f g : Nat → Int32} {n t : Nat} (h : t < n) : va_cpy f g 0 0 n t = f t := by
  unfold va_cpy
  rw [if_pos (by omega)]
  congr 1
  omega
theorem h_song {l : Nat} (hl : l ≤ 8) {need dew drip water lacked : Nat → Int32} : ∀ (n i : Nat) (song : Nat → Int32), i ≤ 8 → 8 - i < n → (∀ j, j < i → song j = if j < l then rs j else 0) → ∃ song2, F_X12_hill_92 text n sz many need dew days drip law slip len song day left water lacked turn seen images a b k w rM rD rL rS (nI l) rt rd rs y1 (nI i) = F_X12_hill_130 text FU_ sz many need dew days drip law slip len song2 day left water lacked turn seen images a b k w rM rD rL rS (nI l) rt rd rs y1 0 ∧ ∀ j, j < 8 → song2 j = if j < l then rs j else 0 := by
  intro n
  induction n with
  | zero => intro i _ _ h; exact absurd h (by omega)
  | succ n ih =>
    intro i song hi hn hs
    rw [F_X12_hill_92]
    by_cases h : 8 ≤ i
    · rw [if_pos ((le_of tl_8 (ti_nI (n := i) (by omega))).mpr (by omega))]
      exact ⟨song, rfl, fun j hj => hs j (by omega)⟩
    · have ok : ok_I (nI i) 8 = true := ok_T (by omega) (by omega)
      rw [if_neg (fun y => absurd ((le_of tl_8 (ti_nI (n := i) (by omega))).mp y) (by omega)), nI_clamp (n := i) (by omega), show nI i + (1 : Int32) = nI (i + 1) from nI_1 i]
      by_cases q : l ≤ i
      · rw [if_pos ((nI_leI (by omega) (by omega)).mpr q), if_pos ok]
        refine ih (i + 1) _ (by omega) (by omega) (fun j hj => ?_)
        by_cases e : j = i
        · subst e
          rw [pk_us, if_neg (by omega)]
        · rw [pk_un e]
          exact hs j (by omega)
      · rw [if_neg (fun y => q ((nI_leI (by omega) (by omega)).mp y)), if_pos ok]
        refine ih (i + 1) _ (by omega) (by omega) (fun j hj => ?_)
        by_cases e : j = i
        · subst e
          rw [pk_us, if_pos (by omega)]
        · rw [pk_un e]
          exact hs j (by omega)
theorem h_terr {M : Nat} (hM : M ≤ 6) {song drip : Nat → Int32} : ∀ (n i : Nat) (need dew water lacked : Nat → Int32), i ≤ M → M - i < n → (∀ t, t < i → need t = rt (3 * t + 1) ∧ dew t = rt (3 * t + 2) ∧ water t = rt (3 * t) ∧ lacked t = 0) → ∃ need2 dew2 water2 lacked2 : Nat → Int32, F_X12_hill_130 text n sz (nI M) need dew days drip law slip len song day left water lacked turn seen images a b k w rM rD rL rS rN rt rd rs y1 (nI i) = F_X12_hill_199 text FU_ sz (nI M) need2 dew2 days drip law slip len song day left water2 lacked2 turn seen images a b k w rM rD rL rS rN rt rd rs y1 0 ∧ ∀ t, t < M → need2 t = rt (3 * t + 1) ∧ dew2 t = rt (3 * t + 2) ∧ water2 t = rt (3 * t) ∧ lacked2 t = 0 := by
  intro n
  induction n with
  | zero => intro i _ _ _ _ _ h; exact absurd h (by omega)
  | succ n ih =>
    intro i need dew water lacked hi hn hs
    rw [F_X12_hill_130]
    by_cases h : M ≤ i
    · rw [if_pos ((nI_leI (by omega) (by omega)).mpr h)]
      exact ⟨need, dew, water, lacked, rfl, fun t ht => hs t (by omega)⟩
    · have e1 : (3 : Int32) * nI i = nI (3 * i) := pk_mul 3 i
      have e2 : nI (3 * i) + (1 : Int32) = nI (3 * i + 1) := nI_1 (3 * i)
      have e3 : nI (3 * i) + (2 : Int32) = nI (3 * i + 2) := nI_add (3 * i) 2
      rw [if_neg (fun y => h ((nI_leI (by omega) (by omega)).mp y)), e1, e2, e3, if_pos (ok_T (i := 3 * i) (by omega) (by omega)), if_pos (ok_T (i := i) (by omega) (by omega)), if_pos (ok_T (i := 3 * i + 1) (by omega) (by omega)), if_pos (ok_T (i := 3 * i + 2) (by omega) (by omega)), nI_clamp (n := i) (by omega), nI_clamp (n := 3 * i) (by omega), nI_clamp (n := 3 * i + 1) (by omega), nI_clamp (n := 3 * i + 2) (by omega), show nI i + (1 : Int32) = nI (i + 1) from nI_1 i]
      refine ih (i + 1) _ _ _ _ (by omega) (by omega) (fun t ht => ?_)
      by_cases e : t = i
      · subst e
        rw [pk_us, pk_us, pk_us, pk_us]
        exact ⟨rfl, rfl, rfl, rfl⟩
      · rw [pk_un e, pk_un e, pk_un e, pk_un e]
        exact hs t (by omega)
theorem h_drip {D : Nat} (hD : D ≤ 20) {song need dew water lacked : Nat → Int32} : ∀ (n i : Nat) (drip : Nat → Int32), i ≤ D → D - i < n → (∀ j, j < i → drip j = rd j) → ∃ drip2 : Nat → Int32, F_X12_hill_199 text n sz many need dew (nI D) drip law slip len song day left water lacked turn seen images a b k w rM rD rL rS rN rt rd rs y1 (nI i) = some (y1, 0, many, need, dew, nI D, drip2, law, slip, len, song, 0, if D = 0 then 0 else rd 0, water, lacked, 0, 0, upd (upd images 0 0) 40 0, a, b, k, w, rM, rD, rL, rS, rN, rt, rd, rs) ∧ ∀ j, j < D → drip2 j = rd j := by
  intro n
  induction n with
  | zero => intro i _ _ h; exact absurd h (by omega)
  | succ n ih =>
    intro i drip hi hn hs
    rw [F_X12_hill_199]
    by_cases h : D ≤ i
    · have z8 : ok_I (0 : Int32) 80 = true := by decide
      have z9 : ok_I (40 : Int32) 80 = true := by decide
      have z4 : (40 : Int32).toNatClampNeg = 40 := by decide
      have z0 : (0 : Int32).toNatClampNeg = 0 := by decide
      rw [if_pos ((nI_leI (by omega) (by omega)).mpr h), z4, z0]
      unfold F_X12_dripOf
      by_cases q : D = 0
      · subst q
        rw [if_pos (show nI 0 ≤ 0 by decide), if_pos rfl, Option.bind_some, if_pos z8, if_pos z9]
        exact ⟨drip, rfl, fun j hj => hs j (by omega)⟩
      · rw [if_neg (nI_nle (n := D) (by omega) (by omega)), if_pos (show ok_I (0 : Int32) 20 = true by decide), z0, if_neg q, hs 0 (by omega), Option.bind_some, if_pos z8, if_pos z9]
        exact ⟨drip, rfl, fun j hj => hs j (by omega)⟩
    · rw [if_neg (fun y => h ((nI_leI (by omega) (by omega)).mp y)), if_pos (ok_T (by omega) (by omega)), nI_clamp (n := i) (by omega), show nI i + (1 : Int32) = nI (i + 1) from nI_1 i]
      refine ih (i + 1) _ (by omega) (by omega) (fun j hj => ?_)
      by_cases e : j = i
      · subst e
        rw [pk_us]
      · rw [pk_un e]
        exact hs j (by omega)
/-- what the reference takes over -/
theorem h_ref {M D l : Nat} (hM : M ≤ 6) (hD : D ≤ 20) (hl : l ≤ 8) {la sp : Int32} (need dew drip song water lacked : Nat → Int32) : ∃ need2 dew2 drip2 song2 water2 lacked2 : Nat → Int32, F_X12_hill_92 text FU_ sz (nI M) need dew (nI D) drip la sp len song day left water lacked turn seen images a b k w rM rD rL rS (nI l) rt rd rs y1 0 = some (y1, 0, nI M, need2, dew2, nI D, drip2, la, sp, len, song2, 0, if D = 0 then 0 else rd 0, water2, lacked2, 0, 0, upd (upd images 0 0) 40 0, a, b, k, w, rM, rD, rL, rS, nI l, rt, rd, rs) ∧ (∀ j, j < 8 → song2 j = if j < l then rs j else 0) ∧ (∀ t, t < M → need2 t = rt (3 * t + 1) ∧ dew2 t = rt (3 * t + 2) ∧ water2 t = rt (3 * t) ∧ lacked2 t = 0) ∧ ∀ j, j < D → drip2 j = rd j := by
  obtain ⟨song2, a1, a2⟩ := h_song (sz := sz) (many := nI M) (need := need) (dew := dew) (days := nI D) (drip := drip) (law := la) (slip := sp) (len := len) (day := day) (left := left) (water := water) (lacked := lacked) (turn := turn) (seen := seen) (images := images) (a := a) (b := b) (k := k) (w := w) (rM := rM) (rD := rD) (rL := rL) (rS := rS) (rt := rt) (rd := rd) (rs := rs) (y1 := y1) (text := text) hl FU_ 0 song (by omega) (fu_gt (by omega)) (fun j hj => absurd hj (by omega))
  obtain ⟨need2, dew2, water2, lacked2, b1, b2⟩ := h_terr (sz := sz) (days := nI D) (drip := drip) (law := la) (slip := sp) (len := len) (song := song2) (day := day) (left := left) (turn := turn) (seen := seen) (images := images) (a := a) (b := b) (k := k) (w := w) (rM := rM) (rD := rD) (rL := rL) (rS := rS) (rN := nI l) (rt := rt) (rd := rd) (rs := rs) (y1 := y1) (text := text) hM FU_ 0 need dew water lacked (by omega) (fu_gt (by omega)) (fun j hj => absurd hj (by omega))
  obtain ⟨drip2, c1, c2⟩ := h_drip (sz := sz) (many := nI M) (need := need2) (dew := dew2) (law := la) (slip := sp) (len := len) (song := song2) (day := day) (left := left) (water := water2) (lacked := lacked2) (turn := turn) (seen := seen) (images := images) (a := a) (b := b) (k := k) (w := w) (rM := rM) (rD := rD) (rL := rL) (rS := rS) (rN := nI l) (rt := rt) (rd := rd) (rs := rs) (y1 := y1) (text := text) hD FU_ 0 drip (by omega) (by unfold FU_; omega) (fun j hj => absurd hj (by omega))
  rw [nI_0] at a1 b1 c1
  rw [a1, b1, c1]
  exact ⟨need2, dew2, drip2, song2, water2, lacked2, rfl, a2, b2, c2⟩
theorem h_fill : ∀ (n i : Nat) (f : Nat → Int32), i ≤ 6 → 6 - i < n → (∀ t, t < i → f t = 0) → ∃ g, F_J7_fill_53178_5 n f 0 (nI i) 6 = some g ∧ ∀ t, t < 6 → g t = 0 := by
  intro n
  induction n with
  | zero => intro i _ _ h; exact absurd h (by omega)
  | succ n ih =>
    intro i f hi hn hs
    rw [F_J7_fill_53178_5]
    by_cases h : 6 ≤ i
    · rw [if_pos ((le_of tl_6 (ti_nI (n := i) (by omega))).mpr (by omega))]
      exact ⟨f, rfl, fun t ht => hs t (by omega)⟩
    · rw [if_neg (fun y => absurd ((le_of tl_6 (ti_nI (n := i) (by omega))).mp y) (by omega)), if_pos (ok_T (by omega) (by omega)), nI_clamp (n := i) (by omega), show nI i + (1 : Int32) = nI (i + 1) from nI_1 i]
      refine ih (i + 1) _ (by omega) (by omega) (fun j hj => ?_)
      by_cases e : j = i
      · subst e
        rw [pk_us]
      · rw [pk_un e]
        exact hs j (by omega)
theorem h_forget (f : Nat → Int32) : ∃ g, F_X11_forgetImages f = some g ∧ g 0 = 0 ∧ g 1 = 0 := by
  have nb : vp_nar .boolean (0 : Int32) = 0 := by decide
  rw [F_X11_forgetImages, show F_X11_forgetImages_2 FU_ f 0 = F_X11_forgetImages_2 (7997 + 1 + 1 + 1) f 0 from congrArg (fun n => F_X11_forgetImages_2 n f 0) FU_s, F_X11_forgetImages_2, if_neg (show ¬ (2 : Int32) ≤ 0 by decide), if_pos (show ok_I (0 : Int32) 2 = true by decide), F_X11_forgetImages_2, if_neg (show ¬ (2 : Int32) ≤ 0 + 1 by decide), if_pos (show ok_I ((0 : Int32) + 1) 2 = true by decide), F_X11_forgetImages_2, if_pos (show (2 : Int32) ≤ 0 + 1 + 1 by decide), nb]
  exact ⟨_, rfl, rfl, rfl⟩
/-- what the class begins with -/
theorem h_begin {D : Nat} (hD : D ≤ 20) (pw pd pw0 pk : Nat → Int32) (d l t s : Int32) : ∃ g : Nat → Int32, F_X7_begin pw pd (nI D) pw0 pk d l t s = some (va_cpy pw pw0 0 0 6, g, 0, if D = 0 then 0 else pd 0, 0, 0) ∧ ∀ t, t < 6 → g t = 0 := by
  obtain ⟨g, a1, a2⟩ := h_fill FU_ 0 pk (by omega) (fu_gt (by omega)) (fun t ht => absurd ht (by omega))
  rw [nI_0] at a1
  unfold F_X7_begin F_J7_fill_53178 F_X3_dropsOn
  rw [a1]
  simp only [Option.bind_some]
  rw [if_neg (show ¬ (0 : Int32) < 0 by decide)]
  by_cases q : D = 0
  · subst q
    rw [if_pos (show nI 0 ≤ 0 by decide), if_pos rfl]
    exact ⟨g, rfl, a2⟩
  · rw [if_neg (nI_nle (n := D) (by omega) (by omega)), if_pos (show ok_I (0 : Int32) 20 = true by decide), show (0 : Int32).toNatClampNeg = 0 by decide, if_neg q]
    exact ⟨g, rfl, a2⟩
end HL7
theorem CO_hill {k T : Nat} (f_x_reader_length : Int32) (f_x_reader_place : Int32) (f_x_reader_start : Int32) (f_x_reader_token : Int32) (f_x_reader_value : Int32) (f_x_reader_lawTold : Int32) (f_x_reader_slipTold : Int32) (f_x_reader_songTold : Int32) (c_x_reader_bytes : Nat → Int32) (f_x_told_terraces : Int32) (f_x_told_days : Int32) (f_x_told_law : Int32) (f_x_told_slip : Int32) (f_x_told_songLength : Int32) (c_x_told_water : Nat → Int32) (c_x_told_need : Nat → Int32) (c_x_told_dew : Nat → Int32) (c_x_told_drops : Nat → Int32) (c_x_told_song : Nat → Int32) (f_x_draft_terraces : Int32) (f_x_draft_days : Int32) (f_x_draft_law : Int32) (f_x_draft_slip : Int32) (f_x_draft_songLength : Int32) (c_x_draft_water : Nat → Int32) (c_x_draft_need : Nat → Int32) (c_x_draft_dew : Nat → Int32) (c_x_draft_drops : Nat → Int32) (c_x_draft_song : Nat → Int32) (f_x_present_day : Int32) (f_x_present_left : Int32) (f_x_present_turn : Int32) (f_x_present_lot : Int32) (f_x_present_seen : Int32) (c_x_present_water : Nat → Int32) (c_x_present_lacked : Nat → Int32) (c_x_present_seenTurn : Nat → Int32) (c_x_present_seenSet : Nat → Int32) (f_x_images_0_day : Int32) (f_x_images_0_left : Int32) (f_x_images_0_turn : Int32) (f_x_images_0_lot : Int32) (f_x_images_0_seen : Int32) (c_x_images_0_water : Nat → Int32) (c_x_images_0_lacked : Nat → Int32) (c_x_images_0_seenTurn : Nat → Int32) (c_x_images_0_seenSet : Nat → Int32) (f_x_images_1_day : Int32) (f_x_images_1_left : Int32) (f_x_images_1_turn : Int32) (f_x_images_1_lot : Int32) (f_x_images_1_seen : Int32) (c_x_images_1_water : Nat → Int32) (c_x_images_1_lacked : Nat → Int32) (c_x_images_1_seenTurn : Nat → Int32) (c_x_images_1_seenSet : Nat → Int32) (c_x_kept : Nat → Int32) (f_m_size : Int32) (f_m_many : Int32) (f_m_days : Int32) (f_m_law : Int32) (f_m_slip : Int32) (f_m_length : Int32) (f_m_day : Int32) (f_m_left : Int32) (f_m_turn : Int32) (f_m_lot : Int32) (f_m_seen : Int32) (f_m_at : Int32) (f_m_begin : Int32) (f_m_kind : Int32) (f_m_value : Int64) (f_m_readMany : Int32) (f_m_readDays : Int32) (f_m_readLaw : Int32) (f_m_readSlip : Int32) (f_m_readLength : Int32) (c_m_text : Nat → Int32) (c_m_need : Nat → Int32) (c_m_dew : Nat → Int32) (c_m_drip : Nat → Int32) (c_m_song : Nat → Int32) (c_m_water : Nat → Int32) (c_m_lacked : Nat → Int32) (c_m_seenTurn : Nat → Int32) (c_m_seenSet : Nat → Int32) (c_m_images : Nat → Int32) (c_m_readTerrace : Nat → Int32) (c_m_readDrip : Nat → Int32) (c_m_readSong : Nat → Int32) (hk : k < 600) (hR : IR_ c_x_reader_bytes f_x_reader_length c_m_text f_m_size) (hH : IH_ T f_x_told_terraces f_x_told_days f_x_told_law f_x_told_slip f_x_told_songLength c_x_told_need c_x_told_dew c_x_told_drops c_x_told_song f_m_many f_m_days f_m_law f_m_slip f_m_length c_m_need c_m_dew c_m_drip c_m_song) (hN : IN_ k T c_x_present_water c_x_present_lacked c_x_present_seenTurn c_x_present_seenSet f_x_present_day f_x_present_left f_x_present_turn f_x_present_lot f_x_present_seen c_m_water c_m_lacked c_m_seenTurn c_m_seenSet f_m_day f_m_left f_m_turn f_m_lot f_m_seen) (hA : IM_ k T (c_x_kept 0) c_x_images_0_water c_x_images_0_lacked c_x_images_0_seenTurn c_x_images_0_seenSet f_x_images_0_day f_x_images_0_left f_x_images_0_turn f_x_images_0_lot f_x_images_0_seen c_m_images 0) (hB : IM_ k T (c_x_kept 1) c_x_images_1_water c_x_images_1_lacked c_x_images_1_seenTurn c_x_images_1_seenSet f_x_images_1_day f_x_images_1_left f_x_images_1_turn f_x_images_1_lot f_x_images_1_seen c_m_images 40) : ∃ (u1 : Int32 × Int32 × Int32 × Int32 × Int32 × Int32 × Int32 × Int32 × Int32 × (Nat → Int32) × (Nat → Int32) × (Nat → Int32) × (Nat → Int32) × (Nat → Int32) × Int32 × Int32 × Int32 × Int32 × Int32 × (Nat → Int32) × (Nat → Int32) × (Nat → Int32) × (Nat → Int32) × (Nat → Int32) × Int32 × Int32 × Int32 × Int32 × Int32 × (Nat → Int32) × (Nat → Int32) × Int32 × Int32 × Int32 × Int32 × (Nat → Int32)) (u2 : Int32 × Int32 × Int32 × (Nat → Int32) × (Nat → Int32) × Int32 × (Nat → Int32) × Int32 × Int32 × Int32 × (Nat → Int32) × Int32 × Int32 × (Nat → Int32) × (Nat → Int32) × Int32 × Int32 × (Nat → Int32) × Int32 × Int32 × Int32 × Int64 × Int32 × Int32 × Int32 × Int32 × Int32 × (Nat → Int32) × (Nat → Int32) × (Nat → Int32)), F_X11_hill c_x_reader_bytes f_x_reader_length f_x_reader_place f_x_reader_start f_x_reader_token f_x_reader_value f_x_reader_lawTold f_x_reader_slipTold f_x_reader_songTold c_x_told_water c_x_told_need c_x_told_dew c_x_told_drops c_x_told_song f_x_told_terraces f_x_told_days f_x_told_law f_x_told_slip f_x_told_songLength c_x_draft_water c_x_draft_need c_x_draft_dew c_x_draft_drops c_x_draft_song f_x_draft_terraces f_x_draft_days f_x_draft_law f_x_draft_slip f_x_draft_songLength c_x_present_water c_x_present_lacked f_x_present_day f_x_present_left f_x_present_turn f_x_present_seen c_x_kept = some u1 ∧ F_X12_hill c_m_text f_m_size f_m_many c_m_need c_m_dew f_m_days c_m_drip f_m_law f_m_slip f_m_length c_m_song f_m_day f_m_left c_m_water c_m_lacked f_m_turn f_m_seen c_m_images f_m_at f_m_begin f_m_kind f_m_value f_m_readMany f_m_readDays f_m_readLaw f_m_readSlip f_m_readLength c_m_readTerrace c_m_readDrip c_m_readSong = some u2 ∧ u1.1 = u2.1 ∧ ∃ T' : Nat, IR_ c_x_reader_bytes u1.2.1 c_m_text u2.2.1 ∧ IH_ T' u1.2.2.2.2.2.2.2.2.2.2.2.2.2.2.1 u1.2.2.2.2.2.2.2.2.2.2.2.2.2.2.2.1 u1.2.2.2.2.2.2.2.2.2.2.2.2.2.2.2.2.1 u1.2.2.2.2.2.2.2.2.2.2.2.2.2.2.2.2.2.1 u1.2.2.2.2.2.2.2.2.2.2.2.2.2.2.2.2.2.2.1 u1.2.2.2.2.2.2.2.2.2.2.1 u1.2.2.2.2.2.2.2.2.2.2.2.1 u1.2.2.2.2.2.2.2.2.2.2.2.2.1 u1.2.2.2.2.2.2.2.2.2.2.2.2.2.1 u2.2.2.1 u2.2.2.2.2.2.1 u2.2.2.2.2.2.2.2.1 u2.2.2.2.2.2.2.2.2.1 u2.2.2.2.2.2.2.2.2.2.1 u2.2.2.2.1 u2.2.2.2.2.1 u2.2.2.2.2.2.2.1 u2.2.2.2.2.2.2.2.2.2.2.1 ∧ IN_ (k + 1) T' u1.2.2.2.2.2.2.2.2.2.2.2.2.2.2.2.2.2.2.2.2.2.2.2.2.2.2.2.2.2.1 u1.2.2.2.2.2.2.2.2.2.2.2.2.2.2.2.2.2.2.2.2.2.2.2.2.2.2.2.2.2.2.1 c_x_present_seenTurn c_x_present_seenSet u1.2.2.2.2.2.2.2.2.2.2.2.2.2.2.2.2.2.2.2.2.2.2.2.2.2.2.2.2.2.2.2.1 u1.2.2.2.2.2.2.2.2.2.2.2.2.2.2.2.2.2.2.2.2.2.2.2.2.2.2.2.2.2.2.2.2.1 u1.2.2.2.2.2.2.2.2.2.2.2.2.2.2.2.2.2.2.2.2.2.2.2.2.2.2.2.2.2.2.2.2.2.1 f_x_present_lot u1.2.2.2.2.2.2.2.2.2.2.2.2.2.2.2.2.2.2.2.2.2.2.2.2.2.2.2.2.2.2.2.2.2.2.1 u2.2.2.2.2.2.2.2.2.2.2.2.2.2.1 u2.2.2.2.2.2.2.2.2.2.2.2.2.2.2.1 c_m_seenTurn c_m_seenSet u2.2.2.2.2.2.2.2.2.2.2.2.1 u2.2.2.2.2.2.2.2.2.2.2.2.2.1 u2.2.2.2.2.2.2.2.2.2.2.2.2.2.2.2.1 f_m_lot u2.2.2.2.2.2.2.2.2.2.2.2.2.2.2.2.2.1 ∧ IM_ (k + 1) T' (u1.2.2.2.2.2.2.2.2.2.2.2.2.2.2.2.2.2.2.2.2.2.2.2.2.2.2.2.2.2.2.2.2.2.2.2 0) c_x_images_0_water c_x_images_0_lacked c_x_images_0_seenTurn c_x_images_0_seenSet f_x_images_0_day f_x_images_0_left f_x_images_0_turn f_x_images_0_lot f_x_images_0_seen u2.2.2.2.2.2.2.2.2.2.2.2.2.2.2.2.2.2.1 0 ∧ IM_ (k + 1) T' (u1.2.2.2.2.2.2.2.2.2.2.2.2.2.2.2.2.2.2.2.2.2.2.2.2.2.2.2.2.2.2.2.2.2.2.2 1) c_x_images_1_water c_x_images_1_lacked c_x_images_1_seenTurn c_x_images_1_seenSet f_x_images_1_day f_x_images_1_left f_x_images_1_turn f_x_images_1_lot f_x_images_1_seen u2.2.2.2.2.2.2.2.2.2.2.2.2.2.2.2.2.2.1 40 := by
  obtain ⟨N, ch, rfl, rfl, hx⟩ := tx_of hR
  have hN0 := hx.1
  have key := k_read hx f_x_reader_place f_x_reader_start f_x_reader_token f_x_reader_value f_x_reader_lawTold f_x_reader_slipTold f_x_reader_songTold f_x_draft_terraces f_x_draft_days f_x_draft_law f_x_draft_slip f_x_draft_songLength f_m_at f_m_begin f_m_kind f_m_readMany f_m_readDays f_m_readLaw f_m_readSlip f_m_readLength f_m_value c_x_draft_water c_x_draft_need c_x_draft_dew c_x_draft_drops c_x_draft_song c_m_readTerrace c_m_readDrip c_m_readSong
  rcases key with ⟨i, M, D, pl, st, tk, v, lt, slt, gt, dl, dsl, dsn, a, b, kk, rl, rsl, rn, w, dw, dn, dd, dr, ds, rt, rd, rs, hi, e1, e2, hd⟩ | ⟨s, pl, a, U, U', hs, e1, e2⟩
  case inr =>
    have neg : (-10 : Int32) - nI s < 0 := (lt_of (ts_ (show (-10 : Int32).toInt = -10 from rfl) (ti_nI (n := s) (by omega)) (by omega) (by omega)) tl_0).mpr (by omega)
    rw [F_X11_hill, F_X12_hill, e1, e2, Option.bind_some, Option.bind_some, if_pos neg, if_neg nm1_le]
    exact ⟨_, _, rfl, rfl, rfl, T, hR, hH, hN.mono, hA.mono, hB.mono⟩
  obtain ⟨d1, d2, d3, d4, d5, d6, d7⟩ := hd
  obtain ⟨g, g1, g2⟩ := h_begin d2 (va_cpy dw c_x_told_water 0 0 6) (va_cpy dr c_x_told_drops 0 0 20) c_x_present_water c_x_present_lacked f_x_present_day f_x_present_left f_x_present_turn f_x_present_seen
  obtain ⟨f, f1, f2, f3⟩ := h_forget c_x_kept
  -- the song of both
  obtain ⟨l, L, l1, l2, l3, l4, l5, l6⟩ : ∃ l L : Nat, l ≤ 8 ∧ rn = nI l ∧ 1 ≤ L ∧ L ≤ 8 ∧ (if nI l = 0 then (1 : Int32) else nI l) = nI L ∧ dsn = nI L ∧ ∀ j, j < L → ds j = (if j < l then rs j else 0) ∧ ∃ a : Nat, a < max 1 M ∧ (if j < l then rs j else 0) = nI a := by
    rcases d7 with ⟨-, r2, r3, r4⟩ | ⟨-, l, r1, r2, r3, r4, r5⟩
    · refine ⟨0, 1, by omega, r4, by omega, by omega, by rw [if_pos (show nI 0 = 0 from rfl)]; rfl, r2, fun j hj => ?_⟩
      have : j = 0 := by omega
      subst this
      exact ⟨r3, 0, by omega, rfl⟩
    · refine ⟨l, l, r2, r4, r1, r2, by rw [if_neg (nI_ne0 (by omega) (by omega))], r3, fun j hj => ?_⟩
      rw [if_pos hj]
      obtain ⟨x1, x, x2, x3⟩ := r5 j hj
      exact ⟨x1, x, by omega, x3⟩
  obtain ⟨l5, l6, l7⟩ : (if nI l = 0 then (1 : Int32) else nI l) = nI L ∧ dsn = nI L ∧ ∀ j, j < L → ds j = (if j < l then rs j else 0) ∧ ∃ a : Nat, a < max 1 M ∧ (if j < l then rs j else 0) = nI a := ⟨l5, l6⟩
  -- law and slip of both
  obtain ⟨lw, lw1, lw2, lw3⟩ : ∃ lw : Nat, lw ≤ 2 ∧ dl = nI lw ∧ (if 0 ≤ rl then rl else 0) = nI lw := by
    rcases d5 with ⟨-, r2, r3⟩ | ⟨-, r2, x, x1, x2⟩
    · exact ⟨0, by omega, r2, by rw [r3, if_neg nm1_le]; rfl⟩
    · exact ⟨x, x1, by rw [r2, x2], by rw [x2, if_pos (nI_ge0 (by omega))]⟩
  obtain ⟨sw, sw1, sw2, sw3⟩ : ∃ sw : Nat, sw ≤ 9 ∧ dsl = nI sw ∧ (if 0 ≤ rsl then rsl else 0) = nI sw := by
    rcases d6 with ⟨-, r2, r3⟩ | ⟨-, r2, x, x1, x2⟩
    · exact ⟨0, by omega, r2, by rw [r3, if_neg nm1_le]; rfl⟩
    · exact ⟨x, x1, by rw [r2, x2], by rw [x2, if_pos (nI_ge0 (by omega))]⟩
  obtain ⟨need2, dew2, drip2, song2, water2, lacked2, c1, c2, c3, c4⟩ := h_ref (text := c_m_text) (sz := nI N) (len := nI L) (day := f_m_day) (left := f_m_left) (turn := f_m_turn) (seen := f_m_seen) (images := c_m_images) (a := a) (b := b) (k := kk) (w := w) (rM := nI M) (rD := nI D) (rL := rl) (rS := rsl) (rt := rt) (rd := rd) (rs := rs) (y1 := nI i) (la := nI lw) (sp := nI sw) d1 d2 l1 c_m_need c_m_dew c_m_drip c_m_song c_m_water c_m_lacked
  have h68 : ∀ (law slip t1 : Int32), t1 = nI sw → F_X12_hill_68 c_m_text (nI N) (nI M) c_m_need c_m_dew (nI D) c_m_drip (nI lw) slip f_m_length c_m_song f_m_day f_m_left c_m_water c_m_lacked f_m_turn f_m_seen c_m_images a b kk w (nI M) (nI D) rl rsl rn rt rd rs (nI i) t1 = some (nI i, 0, nI M, need2, dew2, nI D, drip2, nI lw, nI sw, nI L, song2, 0, if D = 0 then 0 else rd 0, water2, lacked2, 0, 0, upd (upd c_m_images 0 0) 40 0, a, b, kk, w, nI M, nI D, rl, rsl, nI l, rt, rd, rs) := by
    intro law slip t1 ht
    unfold F_X12_hill_68
    rw [ht, l2]
    by_cases q : nI l = 0
    · rw [if_pos q] at l5
      rw [if_pos q, l5]
      exact c1
    · rw [if_neg q] at l5
      rw [if_neg q, l5, ← l5]
      rw [← l5] at c1
      exact c1
  have h49 : ∀ (t1 : Int32), t1 = nI lw → F_X12_hill_49 c_m_text (nI N) (nI M) c_m_need c_m_dew (nI D) c_m_drip f_m_law f_m_slip f_m_length c_m_song f_m_day f_m_left c_m_water c_m_lacked f_m_turn f_m_seen c_m_images a b kk w (nI M) (nI D) rl rsl rn rt rd rs (nI i) t1 = some (nI i, 0, nI M, need2, dew2, nI D, drip2, nI lw, nI sw, nI L, song2, 0, if D = 0 then 0 else rd 0, water2, lacked2, 0, 0, upd (upd c_m_images 0 0) 40 0, a, b, kk, w, nI M, nI D, rl, rsl, nI l, rt, rd, rs) := by
    intro t1 ht
    unfold F_X12_hill_49
    rw [ht]
    by_cases q : 0 ≤ rsl
    · rw [if_pos q] at sw3
      rw [if_pos q]
      exact h68 f_m_law _ _ sw3
    · rw [if_neg q] at sw3
      rw [if_neg q]
      exact h68 f_m_law _ _ sw3
  have i0 : ¬ nI i < 0 := nI_nlt0 (by omega)
  have i1 : 0 ≤ nI i := nI_ge0 (by omega)
  have hC : F_X11_hill c_x_reader_bytes (nI N) f_x_reader_place f_x_reader_start f_x_reader_token f_x_reader_value f_x_reader_lawTold f_x_reader_slipTold f_x_reader_songTold c_x_told_water c_x_told_need c_x_told_dew c_x_told_drops c_x_told_song f_x_told_terraces f_x_told_days f_x_told_law f_x_told_slip f_x_told_songLength c_x_draft_water c_x_draft_need c_x_draft_dew c_x_draft_drops c_x_draft_song f_x_draft_terraces f_x_draft_days f_x_draft_law f_x_draft_slip f_x_draft_songLength c_x_present_water c_x_present_lacked f_x_present_day f_x_present_left f_x_present_turn f_x_present_seen c_x_kept = some (nI i, 0, pl, st, tk, v, lt, slt, gt, va_cpy dw c_x_told_water 0 0 6, va_cpy dn c_x_told_need 0 0 6, va_cpy dd c_x_told_dew 0 0 6, va_cpy dr c_x_told_drops 0 0 20, va_cpy ds c_x_told_song 0 0 8, nI M, nI D, dl, dsl, dsn, dw, dn, dd, dr, ds, nI M, nI D, dl, dsl, dsn, va_cpy (va_cpy dw c_x_told_water 0 0 6) c_x_present_water 0 0 6, g, 0, if D = 0 then 0 else va_cpy dr c_x_told_drops 0 0 20 0, 0, 0, f) := by
    rw [F_X11_hill, e1, Option.bind_some, if_neg i0, F_X3_become, Option.bind_some, g1, Option.bind_some, f1, Option.bind_some, F_X9_empty, Option.bind_some]
  have hM : F_X12_hill c_m_text (nI N) f_m_many c_m_need c_m_dew f_m_days c_m_drip f_m_law f_m_slip f_m_length c_m_song f_m_day f_m_left c_m_water c_m_lacked f_m_turn f_m_seen c_m_images f_m_at f_m_begin f_m_kind f_m_value f_m_readMany f_m_readDays f_m_readLaw f_m_readSlip f_m_readLength c_m_readTerrace c_m_readDrip c_m_readSong = some (nI i, 0, nI M, need2, dew2, nI D, drip2, nI lw, nI sw, nI L, song2, 0, if D = 0 then 0 else rd 0, water2, lacked2, 0, 0, upd (upd c_m_images 0 0) 40 0, a, b, kk, w, nI M, nI D, rl, rsl, nI l, rt, rd, rs) := by
    rw [F_X12_hill, e2, Option.bind_some, if_pos i1]
    by_cases q : 0 ≤ rl
    · rw [if_pos q] at lw3
      rw [if_pos q]
      exact h49 _ lw3
    · rw [if_neg q] at lw3
      rw [if_neg q]
      exact h49 _ lw3
  have im0 : upd (upd c_m_images 0 0) 40 0 0 = 0 := by rw [pk_un (by omega), pk_us]
  have im4 : upd (upd c_m_images 0 0) 40 0 40 = 0 := pk_us
  have dr0 : ∀ j, j < D → va_cpy dr c_x_told_drops 0 0 20 j = rd j ∧ rg_ (rd j) 30 := fun j hj => by
    rw [cpyn (by omega)]
    exact d4 j hj
  have lf : (if D = 0 then (0 : Int32) else va_cpy dr c_x_told_drops 0 0 20 0) = (if D = 0 then 0 else rd 0) ∧ rg_ (if D = 0 then 0 else rd 0) 30 := by
    by_cases q : D = 0
    · rw [if_pos q, if_pos q]
      exact ⟨rfl, 0, by omega, rfl⟩
    · rw [if_neg q, if_neg q]
      exact dr0 0 (by omega)
  refine ⟨_, _, hC, hM, rfl, M, ⟨0, by omega, rfl, rfl, fun j hj => absurd hj (by omega)⟩, ⟨d1, rfl, rfl, ⟨D, d2, rfl, rfl, fun j hj => ?_⟩, ⟨lw2, lw, lw1, rfl⟩, ⟨sw2, sw, sw1, rfl⟩, ⟨L, l3, l4, l6, rfl, fun j hj => ?_⟩, fun t ht => ?_⟩, ⟨⟨rfl, 0, by omega, rfl⟩, lf, ⟨rfl, 0, by omega, rfl⟩, hN.2.2.2.1, ⟨0, by omega, rfl, rfl, fun j hj => absurd hj (by omega)⟩, fun t ht => ?_⟩, Or.inl ⟨f2, im0⟩, Or.inl ⟨f3, im4⟩⟩
  · show va_cpy dr c_x_told_drops 0 0 20 j = drip2 j ∧ rg_ (drip2 j) 30
    rw [c4 j hj]
    exact dr0 j hj
  · show va_cpy ds c_x_told_song 0 0 8 j = song2 j ∧ ∃ a : Nat, a < max 1 M ∧ song2 j = nI a
    rw [c2 j (by omega), cpyn (by omega)]
    exact l7 j hj
  · show va_cpy dn c_x_told_need 0 0 6 t = need2 t ∧ rg_ (need2 t) 9 ∧ va_cpy dd c_x_told_dew 0 0 6 t = dew2 t ∧ rg_ (dew2 t) 3
    obtain ⟨n1, n2, n3, n4⟩ := c3 t ht
    obtain ⟨m1, m2, m3⟩ := d3 t ht
    rw [n1, n2, cpyn (by omega), cpyn (by omega)]
    exact ⟨m2.1, m2.2, m3.1, m3.2⟩
  · show (va_cpy (va_cpy dw c_x_told_water 0 0 6) c_x_present_water 0 0 6 t = water2 t ∧ rg_ (water2 t) (30 + 33 * (k + 1))) ∧ g t = lacked2 t ∧ rg_ (lacked2 t) (9 * (k + 1))
    obtain ⟨n1, n2, n3, n4⟩ := c3 t ht
    obtain ⟨m1, m2, m3⟩ := d3 t ht
    rw [n3, n4, cpyn (by omega), cpyn (by omega), g2 t (by omega)]
    exact ⟨⟨m1.1, m1.2.mono (by omega)⟩, rfl, 0, by omega, rfl⟩
