/-! X3_untell -/
abbrev RM_X3_untell : Room := { frames := 0, cells := 0, slots := 0, locals := 0 }
theorem k_X3_untell_0 : Cond.fieldLink RX3 34 "DropDealers$Hill" "terraces" "I" ∈ wsX3_untell := by decide +kernel
theorem i_X3_untell_X3 : ∀ w ∈ u_ws RX3 TX3 10, w ∈ wsX3_untell := by decide +kernel
theorem k_X3_untell_2 : Cond.fieldLink RX3 37 "DropDealers$Hill" "days" "I" ∈ wsX3_untell := by decide +kernel
theorem k_X3_untell_3 : Cond.fieldLink RX3 27 "DropDealers$Hill" "law" "I" ∈ wsX3_untell := by decide +kernel
theorem k_X3_untell_4 : Cond.fieldLink RX3 40 "DropDealers$Hill" "slip" "I" ∈ wsX3_untell := by decide +kernel
theorem k_X3_untell_5 : Cond.fieldLink RX3 24 "DropDealers$Hill" "song" "[I" ∈ wsX3_untell := by decide +kernel
theorem k_X3_untell_6 : Cond.fieldLink RX3 31 "DropDealers$Hill" "songLength" "I" ∈ wsX3_untell := by decide +kernel
def F_X3_untell  (c_t_song : Nat → Int32) (f_t_terraces : Int32) (f_t_days : Int32) (f_t_law : Int32) (f_t_slip : Int32) (f_t_songLength : Int32) : Option ((Nat → Int32) × Int32 × Int32 × Int32 × Int32 × Int32) := if ok_I (0 : Int32) 8 = true then some ((upd c_t_song (0 : Int32).toNatClampNeg (0 : Int32)), (0 : Int32), (0 : Int32), (0 : Int32), (0 : Int32), (1 : Int32)) else none
set_option maxHeartbeats 4000000 in
set_option maxRecDepth 100000 in
theorem w_X3_untell_0 {p : Program} {l : Launch} {e : Env} {s : State} {m : MethodId} {args : Array Value} {below : List Frame} {meth : Method} {c : Code} {G : va_G} {ca : Nat → ClassId} {ad av : Nat → Nat} {A : Nat → Prop} (X0 : CX_ p s m args meth c cX3_untell 1 none wsX3_untell RX3 G ca ad av A) (a_t : Nat) (a_t_song : Nat) (a_t_water : Nat) (a_t_need : Nat) (a_t_dew : Nat) (a_t_drops : Nat)   (res : (Nat → Int32) × Int32 × Int32 × Int32 × Int32 × Int32) (c_t_song : Nat → Int32) (f_t_terraces : Int32) (f_t_days : Int32) (f_t_law : Int32) (f_t_slip : Int32) (f_t_songLength : Int32) (h : F_X3_untell  c_t_song f_t_terraces f_t_days f_t_law f_t_slip f_t_songLength = some res) : ∀ (H : Heap) (locs : List Loc), va_P G vwCl [(a_t, .inr (3, [.ref a_t_water, .ref a_t_need, .ref a_t_dew, .ref a_t_drops, .ref a_t_song, .int f_t_terraces, .int f_t_days, .int f_t_law, .int f_t_slip, .int f_t_songLength])), (a_t_song, .inl (ca 0, 8, .inl c_t_song))] H → va_D A [(a_t, .inr (3, [.ref a_t_water, .ref a_t_need, .ref a_t_dew, .ref a_t_drops, .ref a_t_song, .int f_t_terraces, .int f_t_days, .int f_t_law, .int f_t_slip, .int f_t_songLength])), (a_t_song, .inl (ca 0, 8, .inl c_t_song))] → va_S A s.heap H locs → ∀ (ls : Array Slot), lv_has ls 1 [(0, .ref a_t)] → W p l e RM_X3_untell s m args below meth c H locs 0 0 (MQ below (QV_ G A [(a_t, .inr (3, [.ref a_t_water, .ref a_t_need, .ref a_t_dew, .ref a_t_drops, .ref a_t_song, .int res.2.1, .int res.2.2.1, .int res.2.2.2.1, .int res.2.2.2.2.1, .int res.2.2.2.2.2])), (a_t_song, .inl (ca 0, 8, .inl res.1))]) args s 0 0 A) (F0 m 0 ls []) := by
  obtain ⟨hx, hb, hr, hml, hown, hts, hlocks, hK, hA, hE⟩ := id X0
  intro H locs hP hD hS ls hl
  unfold F_X3_untell at h
  refine lv_aload_n hx hb dX3_untell_0 rfl (lv_at hl 0 rfl) ?_
  refine lv_iconst (v := 0) hx hb dX3_untell_1 (by decide) ?_
  refine va_put (D := G) (ci := 3) (v := .int (0 : Int32)) (ty := .int) (C := RX3) (T := TX3) (N := 10) hx hb hts i_X3_untell_X3 tyX3 tyX3_ok nmX3 hown hK hP hD hS 0 rfl rfl 5 (by decide) (hts _ k_X3_untell_0) (fun _ h9 => h9) rfl (by decide +kernel) rfl rfl (Nat.le_of_ble_eq_true rfl) dX3_untell_2 (fun H locs hP hD hS => ?_)
  have hP : va_P G vwCl [(a_t, .inr (3, [.ref a_t_water, .ref a_t_need, .ref a_t_dew, .ref a_t_drops, .ref a_t_song, .int (0 : Int32), .int f_t_days, .int f_t_law, .int f_t_slip, .int f_t_songLength])), (a_t_song, .inl (ca 0, 8, .inl c_t_song))] H := hP
  have hD : va_D A [(a_t, .inr (3, [.ref a_t_water, .ref a_t_need, .ref a_t_dew, .ref a_t_drops, .ref a_t_song, .int (0 : Int32), .int f_t_days, .int f_t_law, .int f_t_slip, .int f_t_songLength])), (a_t_song, .inl (ca 0, 8, .inl c_t_song))] := hD
  refine lv_aload_n hx hb dX3_untell_5 rfl (lv_at hl 0 rfl) ?_
  refine lv_iconst (v := 0) hx hb dX3_untell_6 (by decide) ?_
  refine va_put (D := G) (ci := 3) (v := .int (0 : Int32)) (ty := .int) (C := RX3) (T := TX3) (N := 10) hx hb hts i_X3_untell_X3 tyX3 tyX3_ok nmX3 hown hK hP hD hS 0 rfl rfl 6 (by decide) (hts _ k_X3_untell_2) (fun _ h9 => h9) rfl (by decide +kernel) rfl rfl (Nat.le_of_ble_eq_true rfl) dX3_untell_7 (fun H locs hP hD hS => ?_)
  have hP : va_P G vwCl [(a_t, .inr (3, [.ref a_t_water, .ref a_t_need, .ref a_t_dew, .ref a_t_drops, .ref a_t_song, .int (0 : Int32), .int (0 : Int32), .int f_t_law, .int f_t_slip, .int f_t_songLength])), (a_t_song, .inl (ca 0, 8, .inl c_t_song))] H := hP
  have hD : va_D A [(a_t, .inr (3, [.ref a_t_water, .ref a_t_need, .ref a_t_dew, .ref a_t_drops, .ref a_t_song, .int (0 : Int32), .int (0 : Int32), .int f_t_law, .int f_t_slip, .int f_t_songLength])), (a_t_song, .inl (ca 0, 8, .inl c_t_song))] := hD
  refine lv_aload_n hx hb dX3_untell_10 rfl (lv_at hl 0 rfl) ?_
  refine lv_iconst (v := 0) hx hb dX3_untell_11 (by decide) ?_
  refine va_put (D := G) (ci := 3) (v := .int (0 : Int32)) (ty := .int) (C := RX3) (T := TX3) (N := 10) hx hb hts i_X3_untell_X3 tyX3 tyX3_ok nmX3 hown hK hP hD hS 0 rfl rfl 7 (by decide) (hts _ k_X3_untell_3) (fun _ h9 => h9) rfl (by decide +kernel) rfl rfl (Nat.le_of_ble_eq_true rfl) dX3_untell_12 (fun H locs hP hD hS => ?_)
  have hP : va_P G vwCl [(a_t, .inr (3, [.ref a_t_water, .ref a_t_need, .ref a_t_dew, .ref a_t_drops, .ref a_t_song, .int (0 : Int32), .int (0 : Int32), .int (0 : Int32), .int f_t_slip, .int f_t_songLength])), (a_t_song, .inl (ca 0, 8, .inl c_t_song))] H := hP
  have hD : va_D A [(a_t, .inr (3, [.ref a_t_water, .ref a_t_need, .ref a_t_dew, .ref a_t_drops, .ref a_t_song, .int (0 : Int32), .int (0 : Int32), .int (0 : Int32), .int f_t_slip, .int f_t_songLength])), (a_t_song, .inl (ca 0, 8, .inl c_t_song))] := hD
  refine lv_aload_n hx hb dX3_untell_15 rfl (lv_at hl 0 rfl) ?_
  refine lv_iconst (v := 0) hx hb dX3_untell_16 (by decide) ?_
  refine va_put (D := G) (ci := 3) (v := .int (0 : Int32)) (ty := .int) (C := RX3) (T := TX3) (N := 10) hx hb hts i_X3_untell_X3 tyX3 tyX3_ok nmX3 hown hK hP hD hS 0 rfl rfl 8 (by decide) (hts _ k_X3_untell_4) (fun _ h9 => h9) rfl (by decide +kernel) rfl rfl (Nat.le_of_ble_eq_true rfl) dX3_untell_17 (fun H locs hP hD hS => ?_)
  have hP : va_P G vwCl [(a_t, .inr (3, [.ref a_t_water, .ref a_t_need, .ref a_t_dew, .ref a_t_drops, .ref a_t_song, .int (0 : Int32), .int (0 : Int32), .int (0 : Int32), .int (0 : Int32), .int f_t_songLength])), (a_t_song, .inl (ca 0, 8, .inl c_t_song))] H := hP
  have hD : va_D A [(a_t, .inr (3, [.ref a_t_water, .ref a_t_need, .ref a_t_dew, .ref a_t_drops, .ref a_t_song, .int (0 : Int32), .int (0 : Int32), .int (0 : Int32), .int (0 : Int32), .int f_t_songLength])), (a_t_song, .inl (ca 0, 8, .inl c_t_song))] := hD
  refine lv_aload_n hx hb dX3_untell_20 rfl (lv_at hl 0 rfl) ?_
  refine va_get (D := G) (ci := 3) (v := .ref a_t_song) (C := RX3) (T := TX3) (N := 10) hx hb hts i_X3_untell_X3 hown hK hP 0 rfl rfl 4 (by decide) (hts _ k_X3_untell_5) (fun _ h9 => h9) rfl dX3_untell_21 ?_
  refine lv_iconst (v := 0) hx hb dX3_untell_24 (by decide) ?_
  refine lv_iconst (v := 0) hx hb dX3_untell_25 (by decide) ?_
  obtain ⟨g1, h⟩ := gd_t h
  refine va_iast hx hb hK hP hD hS 1 0 rfl rfl (ok_in g1) dX3_untell_26 (fun H locs hP hD hS => ?_)
  have hP : va_P G vwCl [(a_t, .inr (3, [.ref a_t_water, .ref a_t_need, .ref a_t_dew, .ref a_t_drops, .ref a_t_song, .int (0 : Int32), .int (0 : Int32), .int (0 : Int32), .int (0 : Int32), .int f_t_songLength])), (a_t_song, .inl (ca 0, 8, .inl (upd c_t_song (0 : Int32).toNatClampNeg (0 : Int32))))] H := hP
  have hD : va_D A [(a_t, .inr (3, [.ref a_t_water, .ref a_t_need, .ref a_t_dew, .ref a_t_drops, .ref a_t_song, .int (0 : Int32), .int (0 : Int32), .int (0 : Int32), .int (0 : Int32), .int f_t_songLength])), (a_t_song, .inl (ca 0, 8, .inl (upd c_t_song (0 : Int32).toNatClampNeg (0 : Int32))))] := hD
  refine lv_aload_n hx hb dX3_untell_27 rfl (lv_at hl 0 rfl) ?_
  refine lv_iconst (v := 1) hx hb dX3_untell_28 (by decide) ?_
  refine va_put (D := G) (ci := 3) (v := .int (1 : Int32)) (ty := .int) (C := RX3) (T := TX3) (N := 10) hx hb hts i_X3_untell_X3 tyX3 tyX3_ok nmX3 hown hK hP hD hS 0 rfl rfl 9 (by decide) (hts _ k_X3_untell_6) (fun _ h9 => h9) rfl (by decide +kernel) rfl rfl (Nat.le_of_ble_eq_true rfl) dX3_untell_29 (fun H locs hP hD hS => ?_)
  have hP : va_P G vwCl [(a_t, .inr (3, [.ref a_t_water, .ref a_t_need, .ref a_t_dew, .ref a_t_drops, .ref a_t_song, .int (0 : Int32), .int (0 : Int32), .int (0 : Int32), .int (0 : Int32), .int (1 : Int32)])), (a_t_song, .inl (ca 0, 8, .inl (upd c_t_song (0 : Int32).toNatClampNeg (0 : Int32))))] H := hP
  have hD : va_D A [(a_t, .inr (3, [.ref a_t_water, .ref a_t_need, .ref a_t_dew, .ref a_t_drops, .ref a_t_song, .int (0 : Int32), .int (0 : Int32), .int (0 : Int32), .int (0 : Int32), .int (1 : Int32)])), (a_t_song, .inl (ca 0, 8, .inl (upd c_t_song (0 : Int32).toNatClampNeg (0 : Int32))))] := hD
  have h := sm_i h
  subst h
  exact W.vret hx hb hr (fun t ht hW => ⟨⟨(), rfl, trivial, by rw [ht]; exact hP, hD⟩, hS.F ht⟩) hS.2.2 dX3_untell_32
set_option maxHeartbeats 4000000 in
set_option maxRecDepth 100000 in
theorem c_X3_untell (l : Launch) (G : va_G) (ca : Nat → ClassId) (ad av : Nat → Nat) (sz : Nat) (a_t : Nat) (a_t_song : Nat) (a_t_water : Nat) (a_t_need : Nat) (a_t_dew : Nat) (a_t_drops : Nat)   (c_t_song : Nat → Int32) (f_t_terraces : Int32) (f_t_days : Int32) (f_t_law : Int32) (f_t_slip : Int32) (f_t_songLength : Int32) (res : (Nat → Int32) × Int32 × Int32 × Int32 × Int32 × Int32) (h : F_X3_untell  c_t_song f_t_terraces f_t_days f_t_law f_t_slip f_t_songLength = some res) : Met l yX3_untell wsX3_untell RM_X3_untell (va_Pc [.ref a_t] (PW_ G ca ad av sz [(a_t, .inr (3, [.ref a_t_water, .ref a_t_need, .ref a_t_dew, .ref a_t_drops, .ref a_t_song, .int f_t_terraces, .int f_t_days, .int f_t_law, .int f_t_slip, .int f_t_songLength])), (a_t_song, .inl (ca 0, 8, .inl c_t_song))])) (QV_ G (va_A [(a_t, .inr (3, [.ref a_t_water, .ref a_t_need, .ref a_t_dew, .ref a_t_drops, .ref a_t_song, .int f_t_terraces, .int f_t_days, .int f_t_law, .int f_t_slip, .int f_t_songLength])), (a_t_song, .inl (ca 0, 8, .inl c_t_song))] sz) [(a_t, .inr (3, [.ref a_t_water, .ref a_t_need, .ref a_t_dew, .ref a_t_drops, .ref a_t_song, .int res.2.1, .int res.2.2.1, .int res.2.2.2.1, .int res.2.2.2.2.1, .int res.2.2.2.2.2])), (a_t_song, .inl (ca 0, 8, .inl res.1))]) 0 0 (va_A [(a_t, .inr (3, [.ref a_t_water, .ref a_t_need, .ref a_t_dew, .ref a_t_drops, .ref a_t_song, .int f_t_terraces, .int f_t_days, .int f_t_law, .int f_t_slip, .int f_t_songLength])), (a_t_song, .inl (ca 0, 8, .inl c_t_song))] sz) := by
  refine Met.ofW (cc := cX3_untell) (maxL := 1) (ret := none) (by decide) rfl ?_
  intro p e s m args below meth c s₁ B hml hv
  obtain ⟨X0, rfl, rfl, hP, hD⟩ := en_t B hml hv
  have hl := lv_entry ([.ref a_t]) (n := 1) (Nat.le_of_ble_eq_true rfl)
  rw [lg_entry_eq]
  generalize (lg_sl ([.ref a_t]) ++ List.replicate (1 - (lg_sl ([.ref a_t])).length) Slot.unset).toArray = ls at hl ⊢
  exact w_X3_untell_0 X0 a_t a_t_song a_t_water a_t_need a_t_dew a_t_drops   _ c_t_song f_t_terraces f_t_days f_t_law f_t_slip f_t_songLength h s.heap [] hP hD va_S.rf ls hl

/-! X3_addTerrace -/
abbrev RM_X3_addTerrace : Room := { frames := 0, cells := 0, slots := 0, locals := 0 }
theorem k_X3_addTerrace_0 : Cond.fieldLink RX3 34 "DropDealers$Hill" "terraces" "I" ∈ wsX3_addTerrace := by decide +kernel
theorem i_X3_addTerrace_X3 : ∀ w ∈ u_ws RX3 TX3 10, w ∈ wsX3_addTerrace := by decide +kernel
theorem k_X3_addTerrace_2 : Cond.fieldLink RX3 9 "DropDealers$Hill" "water" "[I" ∈ wsX3_addTerrace := by decide +kernel
theorem k_X3_addTerrace_3 : Cond.fieldLink RX3 15 "DropDealers$Hill" "need" "[I" ∈ wsX3_addTerrace := by decide +kernel
theorem k_X3_addTerrace_4 : Cond.fieldLink RX3 18 "DropDealers$Hill" "dew" "[I" ∈ wsX3_addTerrace := by decide +kernel
def F_X3_addTerrace  (c_t_water : Nat → Int32) (c_t_need : Nat → Int32) (c_t_dew : Nat → Int32) (f_t_terraces : Int32) (x1 : Int32) (x2 : Int32) (x3 : Int32) : Option ((Nat → Int32) × (Nat → Int32) × (Nat → Int32) × Int32) := if (6 : Int32) ≤ f_t_terraces then (some (c_t_water, c_t_need, c_t_dew, f_t_terraces)) else (if ok_I f_t_terraces 6 = true then some ((upd c_t_water f_t_terraces.toNatClampNeg x1), (upd c_t_need f_t_terraces.toNatClampNeg x2), (upd c_t_dew f_t_terraces.toNatClampNeg x3), (f_t_terraces + (1 : Int32))) else none)
set_option maxHeartbeats 4000000 in
set_option maxRecDepth 100000 in
theorem w_X3_addTerrace_0 {p : Program} {l : Launch} {e : Env} {s : State} {m : MethodId} {args : Array Value} {below : List Frame} {meth : Method} {c : Code} {G : va_G} {ca : Nat → ClassId} {ad av : Nat → Nat} {A : Nat → Prop} (X0 : CX_ p s m args meth c cX3_addTerrace 4 none wsX3_addTerrace RX3 G ca ad av A) (a_t : Nat) (a_t_water : Nat) (a_t_need : Nat) (a_t_dew : Nat) (a_t_drops : Nat) (a_t_song : Nat) (f_t_days : Int32) (f_t_law : Int32) (f_t_slip : Int32) (f_t_songLength : Int32)  (res : (Nat → Int32) × (Nat → Int32) × (Nat → Int32) × Int32) (c_t_water : Nat → Int32) (c_t_need : Nat → Int32) (c_t_dew : Nat → Int32) (f_t_terraces : Int32) (x1 : Int32) (x2 : Int32) (x3 : Int32) (h : F_X3_addTerrace  c_t_water c_t_need c_t_dew f_t_terraces x1 x2 x3 = some res) : ∀ (H : Heap) (locs : List Loc), va_P G vwCl [(a_t, .inr (3, [.ref a_t_water, .ref a_t_need, .ref a_t_dew, .ref a_t_drops, .ref a_t_song, .int f_t_terraces, .int f_t_days, .int f_t_law, .int f_t_slip, .int f_t_songLength])), (a_t_water, .inl (ca 0, 6, .inl c_t_water)), (a_t_need, .inl (ca 0, 6, .inl c_t_need)), (a_t_dew, .inl (ca 0, 6, .inl c_t_dew))] H → va_D A [(a_t, .inr (3, [.ref a_t_water, .ref a_t_need, .ref a_t_dew, .ref a_t_drops, .ref a_t_song, .int f_t_terraces, .int f_t_days, .int f_t_law, .int f_t_slip, .int f_t_songLength])), (a_t_water, .inl (ca 0, 6, .inl c_t_water)), (a_t_need, .inl (ca 0, 6, .inl c_t_need)), (a_t_dew, .inl (ca 0, 6, .inl c_t_dew))] → va_S A s.heap H locs → ∀ (ls : Array Slot), lv_has ls 4 [(0, .ref a_t), (1, .int x1), (2, .int x2), (3, .int x3)] → W p l e RM_X3_addTerrace s m args below meth c H locs 0 0 (MQ below (QV_ G A [(a_t, .inr (3, [.ref a_t_water, .ref a_t_need, .ref a_t_dew, .ref a_t_drops, .ref a_t_song, .int res.2.2.2, .int f_t_days, .int f_t_law, .int f_t_slip, .int f_t_songLength])), (a_t_water, .inl (ca 0, 6, .inl res.1)), (a_t_need, .inl (ca 0, 6, .inl res.2.1)), (a_t_dew, .inl (ca 0, 6, .inl res.2.2.1))]) args s 0 0 A) (F0 m 0 ls []) := by
  obtain ⟨hx, hb, hr, hml, hown, hts, hlocks, hK, hA, hE⟩ := id X0
  intro H locs hP hD hS ls hl
  unfold F_X3_addTerrace at h
  refine lv_aload_n hx hb dX3_addTerrace_0 rfl (lv_at hl 0 rfl) ?_
  refine va_get (D := G) (ci := 3) (v := .int f_t_terraces) (C := RX3) (T := TX3) (N := 10) hx hb hts i_X3_addTerrace_X3 hown hK hP 0 rfl rfl 5 (by decide) (hts _ k_X3_addTerrace_0) (fun _ h9 => h9) rfl dX3_addTerrace_1 ?_
  refine lv_bipush (v := 6) hx hb dX3_addTerrace_4 (by decide) ?_
  refine lv_icmp_ge (tgt := 49) hx hb dX3_addTerrace_6 (by decide) (fun b1 => ?_) (fun b1 => ?_)
  · have h := (if_pos b1).symm.trans h
    have h := sm_i h
    subst h
    exact W.vret hx hb hr (fun t ht hW => ⟨⟨(), rfl, trivial, by rw [ht]; exact hP, hD⟩, hS.F ht⟩) hS.2.2 dX3_addTerrace_49
  · have h := (if_neg b1).symm.trans h
    refine lv_aload_n hx hb dX3_addTerrace_9 rfl (lv_at hl 0 rfl) ?_
    refine va_get (D := G) (ci := 3) (v := .ref a_t_water) (C := RX3) (T := TX3) (N := 10) hx hb hts i_X3_addTerrace_X3 hown hK hP 0 rfl rfl 0 (by decide) (hts _ k_X3_addTerrace_2) (fun _ h9 => h9) rfl dX3_addTerrace_10 ?_
    refine lv_aload_n hx hb dX3_addTerrace_13 rfl (lv_at hl 0 rfl) ?_
    refine va_get (D := G) (ci := 3) (v := .int f_t_terraces) (C := RX3) (T := TX3) (N := 10) hx hb hts i_X3_addTerrace_X3 hown hK hP 0 rfl rfl 5 (by decide) (hts _ k_X3_addTerrace_0) (fun _ h9 => h9) rfl dX3_addTerrace_14 ?_
    refine lv_iload_n hx hb dX3_addTerrace_17 rfl (lv_at hl 1 rfl) ?_
    obtain ⟨g2, h⟩ := gd_t h
    refine va_iast hx hb hK hP hD hS 1 0 rfl rfl (ok_in g2) dX3_addTerrace_18 (fun H locs hP hD hS => ?_)
    have hP : va_P G vwCl [(a_t, .inr (3, [.ref a_t_water, .ref a_t_need, .ref a_t_dew, .ref a_t_drops, .ref a_t_song, .int f_t_terraces, .int f_t_days, .int f_t_law, .int f_t_slip, .int f_t_songLength])), (a_t_water, .inl (ca 0, 6, .inl (upd c_t_water f_t_terraces.toNatClampNeg x1))), (a_t_need, .inl (ca 0, 6, .inl c_t_need)), (a_t_dew, .inl (ca 0, 6, .inl c_t_dew))] H := hP
    have hD : va_D A [(a_t, .inr (3, [.ref a_t_water, .ref a_t_need, .ref a_t_dew, .ref a_t_drops, .ref a_t_song, .int f_t_terraces, .int f_t_days, .int f_t_law, .int f_t_slip, .int f_t_songLength])), (a_t_water, .inl (ca 0, 6, .inl (upd c_t_water f_t_terraces.toNatClampNeg x1))), (a_t_need, .inl (ca 0, 6, .inl c_t_need)), (a_t_dew, .inl (ca 0, 6, .inl c_t_dew))] := hD
    refine lv_aload_n hx hb dX3_addTerrace_19 rfl (lv_at hl 0 rfl) ?_
    refine va_get (D := G) (ci := 3) (v := .ref a_t_need) (C := RX3) (T := TX3) (N := 10) hx hb hts i_X3_addTerrace_X3 hown hK hP 0 rfl rfl 1 (by decide) (hts _ k_X3_addTerrace_3) (fun _ h9 => h9) rfl dX3_addTerrace_20 ?_
    refine lv_aload_n hx hb dX3_addTerrace_23 rfl (lv_at hl 0 rfl) ?_
    refine va_get (D := G) (ci := 3) (v := .int f_t_terraces) (C := RX3) (T := TX3) (N := 10) hx hb hts i_X3_addTerrace_X3 hown hK hP 0 rfl rfl 5 (by decide) (hts _ k_X3_addTerrace_0) (fun _ h9 => h9) rfl dX3_addTerrace_24 ?_
    refine lv_iload_n hx hb dX3_addTerrace_27 rfl (lv_at hl 2 rfl) ?_
    refine va_iast hx hb hK hP hD hS 2 0 rfl rfl (ok_in g2) dX3_addTerrace_28 (fun H locs hP hD hS => ?_)
    have hP : va_P G vwCl [(a_t, .inr (3, [.ref a_t_water, .ref a_t_need, .ref a_t_dew, .ref a_t_drops, .ref a_t_song, .int f_t_terraces, .int f_t_days, .int f_t_law, .int f_t_slip, .int f_t_songLength])), (a_t_water, .inl (ca 0, 6, .inl (upd c_t_water f_t_terraces.toNatClampNeg x1))), (a_t_need, .inl (ca 0, 6, .inl (upd c_t_need f_t_terraces.toNatClampNeg x2))), (a_t_dew, .inl (ca 0, 6, .inl c_t_dew))] H := hP
    have hD : va_D A [(a_t, .inr (3, [.ref a_t_water, .ref a_t_need, .ref a_t_dew, .ref a_t_drops, .ref a_t_song, .int f_t_terraces, .int f_t_days, .int f_t_law, .int f_t_slip, .int f_t_songLength])), (a_t_water, .inl (ca 0, 6, .inl (upd c_t_water f_t_terraces.toNatClampNeg x1))), (a_t_need, .inl (ca 0, 6, .inl (upd c_t_need f_t_terraces.toNatClampNeg x2))), (a_t_dew, .inl (ca 0, 6, .inl c_t_dew))] := hD
    refine lv_aload_n hx hb dX3_addTerrace_29 rfl (lv_at hl 0 rfl) ?_
    refine va_get (D := G) (ci := 3) (v := .ref a_t_dew) (C := RX3) (T := TX3) (N := 10) hx hb hts i_X3_addTerrace_X3 hown hK hP 0 rfl rfl 2 (by decide) (hts _ k_X3_addTerrace_4) (fun _ h9 => h9) rfl dX3_addTerrace_30 ?_
    refine lv_aload_n hx hb dX3_addTerrace_33 rfl (lv_at hl 0 rfl) ?_
    refine va_get (D := G) (ci := 3) (v := .int f_t_terraces) (C := RX3) (T := TX3) (N := 10) hx hb hts i_X3_addTerrace_X3 hown hK hP 0 rfl rfl 5 (by decide) (hts _ k_X3_addTerrace_0) (fun _ h9 => h9) rfl dX3_addTerrace_34 ?_
    refine lv_iload_n hx hb dX3_addTerrace_37 rfl (lv_at hl 3 rfl) ?_
    refine va_iast hx hb hK hP hD hS 3 0 rfl rfl (ok_in g2) dX3_addTerrace_38 (fun H locs hP hD hS => ?_)
    have hP : va_P G vwCl [(a_t, .inr (3, [.ref a_t_water, .ref a_t_need, .ref a_t_dew, .ref a_t_drops, .ref a_t_song, .int f_t_terraces, .int f_t_days, .int f_t_law, .int f_t_slip, .int f_t_songLength])), (a_t_water, .inl (ca 0, 6, .inl (upd c_t_water f_t_terraces.toNatClampNeg x1))), (a_t_need, .inl (ca 0, 6, .inl (upd c_t_need f_t_terraces.toNatClampNeg x2))), (a_t_dew, .inl (ca 0, 6, .inl (upd c_t_dew f_t_terraces.toNatClampNeg x3)))] H := hP
    have hD : va_D A [(a_t, .inr (3, [.ref a_t_water, .ref a_t_need, .ref a_t_dew, .ref a_t_drops, .ref a_t_song, .int f_t_terraces, .int f_t_days, .int f_t_law, .int f_t_slip, .int f_t_songLength])), (a_t_water, .inl (ca 0, 6, .inl (upd c_t_water f_t_terraces.toNatClampNeg x1))), (a_t_need, .inl (ca 0, 6, .inl (upd c_t_need f_t_terraces.toNatClampNeg x2))), (a_t_dew, .inl (ca 0, 6, .inl (upd c_t_dew f_t_terraces.toNatClampNeg x3)))] := hD
    refine lv_aload_n hx hb dX3_addTerrace_39 rfl (lv_at hl 0 rfl) ?_
    refine lv_dup hx hb dX3_addTerrace_40 rfl ?_
    refine va_get (D := G) (ci := 3) (v := .int f_t_terraces) (C := RX3) (T := TX3) (N := 10) hx hb hts i_X3_addTerrace_X3 hown hK hP 0 rfl rfl 5 (by decide) (hts _ k_X3_addTerrace_0) (fun _ h9 => h9) rfl dX3_addTerrace_41 ?_
    refine lv_iconst (v := 1) hx hb dX3_addTerrace_44 (by decide) ?_
    refine lv_iadd hx hb dX3_addTerrace_45 ?_
    refine va_put (D := G) (ci := 3) (v := .int (f_t_terraces + (1 : Int32))) (ty := .int) (C := RX3) (T := TX3) (N := 10) hx hb hts i_X3_addTerrace_X3 tyX3 tyX3_ok nmX3 hown hK hP hD hS 0 rfl rfl 5 (by decide) (hts _ k_X3_addTerrace_0) (fun _ h9 => h9) rfl (by decide +kernel) rfl rfl (Nat.le_of_ble_eq_true rfl) dX3_addTerrace_46 (fun H locs hP hD hS => ?_)
    have hP : va_P G vwCl [(a_t, .inr (3, [.ref a_t_water, .ref a_t_need, .ref a_t_dew, .ref a_t_drops, .ref a_t_song, .int (f_t_terraces + (1 : Int32)), .int f_t_days, .int f_t_law, .int f_t_slip, .int f_t_songLength])), (a_t_water, .inl (ca 0, 6, .inl (upd c_t_water f_t_terraces.toNatClampNeg x1))), (a_t_need, .inl (ca 0, 6, .inl (upd c_t_need f_t_terraces.toNatClampNeg x2))), (a_t_dew, .inl (ca 0, 6, .inl (upd c_t_dew f_t_terraces.toNatClampNeg x3)))] H := hP
    have hD : va_D A [(a_t, .inr (3, [.ref a_t_water, .ref a_t_need, .ref a_t_dew, .ref a_t_drops, .ref a_t_song, .int (f_t_terraces + (1 : Int32)), .int f_t_days, .int f_t_law, .int f_t_slip, .int f_t_songLength])), (a_t_water, .inl (ca 0, 6, .inl (upd c_t_water f_t_terraces.toNatClampNeg x1))), (a_t_need, .inl (ca 0, 6, .inl (upd c_t_need f_t_terraces.toNatClampNeg x2))), (a_t_dew, .inl (ca 0, 6, .inl (upd c_t_dew f_t_terraces.toNatClampNeg x3)))] := hD
    have h := sm_i h
    subst h
    exact W.vret hx hb hr (fun t ht hW => ⟨⟨(), rfl, trivial, by rw [ht]; exact hP, hD⟩, hS.F ht⟩) hS.2.2 dX3_addTerrace_49
set_option maxHeartbeats 4000000 in
set_option maxRecDepth 100000 in
theorem c_X3_addTerrace (l : Launch) (G : va_G) (ca : Nat → ClassId) (ad av : Nat → Nat) (sz : Nat) (a_t : Nat) (a_t_water : Nat) (a_t_need : Nat) (a_t_dew : Nat) (a_t_drops : Nat) (a_t_song : Nat) (f_t_days : Int32) (f_t_law : Int32) (f_t_slip : Int32) (f_t_songLength : Int32)  (c_t_water : Nat → Int32) (c_t_need : Nat → Int32) (c_t_dew : Nat → Int32) (f_t_terraces : Int32) (x1 : Int32) (x2 : Int32) (x3 : Int32) (res : (Nat → Int32) × (Nat → Int32) × (Nat → Int32) × Int32) (h : F_X3_addTerrace  c_t_water c_t_need c_t_dew f_t_terraces x1 x2 x3 = some res) : Met l yX3_addTerrace wsX3_addTerrace RM_X3_addTerrace (va_Pc [.ref a_t, .int x1, .int x2, .int x3] (PW_ G ca ad av sz [(a_t, .inr (3, [.ref a_t_water, .ref a_t_need, .ref a_t_dew, .ref a_t_drops, .ref a_t_song, .int f_t_terraces, .int f_t_days, .int f_t_law, .int f_t_slip, .int f_t_songLength])), (a_t_water, .inl (ca 0, 6, .inl c_t_water)), (a_t_need, .inl (ca 0, 6, .inl c_t_need)), (a_t_dew, .inl (ca 0, 6, .inl c_t_dew))])) (QV_ G (va_A [(a_t, .inr (3, [.ref a_t_water, .ref a_t_need, .ref a_t_dew, .ref a_t_drops, .ref a_t_song, .int f_t_terraces, .int f_t_days, .int f_t_law, .int f_t_slip, .int f_t_songLength])), (a_t_water, .inl (ca 0, 6, .inl c_t_water)), (a_t_need, .inl (ca 0, 6, .inl c_t_need)), (a_t_dew, .inl (ca 0, 6, .inl c_t_dew))] sz) [(a_t, .inr (3, [.ref a_t_water, .ref a_t_need, .ref a_t_dew, .ref a_t_drops, .ref a_t_song, .int res.2.2.2, .int f_t_days, .int f_t_law, .int f_t_slip, .int f_t_songLength])), (a_t_water, .inl (ca 0, 6, .inl res.1)), (a_t_need, .inl (ca 0, 6, .inl res.2.1)), (a_t_dew, .inl (ca 0, 6, .inl res.2.2.1))]) 0 0 (va_A [(a_t, .inr (3, [.ref a_t_water, .ref a_t_need, .ref a_t_dew, .ref a_t_drops, .ref a_t_song, .int f_t_terraces, .int f_t_days, .int f_t_law, .int f_t_slip, .int f_t_songLength])), (a_t_water, .inl (ca 0, 6, .inl c_t_water)), (a_t_need, .inl (ca 0, 6, .inl c_t_need)), (a_t_dew, .inl (ca 0, 6, .inl c_t_dew))] sz) := by
  refine Met.ofW (cc := cX3_addTerrace) (maxL := 4) (ret := none) (by decide) rfl ?_
  intro p e s m args below meth c s₁ B hml hv
  obtain ⟨X0, rfl, rfl, hP, hD⟩ := en_t B hml hv
  have hl := lv_entry ([.ref a_t, .int x1, .int x2, .int x3]) (n := 4) (Nat.le_of_ble_eq_true rfl)
  rw [lg_entry_eq]
  generalize (lg_sl ([.ref a_t, .int x1, .int x2, .int x3]) ++ List.replicate (4 - (lg_sl ([.ref a_t, .int x1, .int x2, .int x3])).length) Slot.unset).toArray = ls at hl ⊢
  exact w_X3_addTerrace_0 X0 a_t a_t_water a_t_need a_t_dew a_t_drops a_t_song f_t_days f_t_law f_t_slip f_t_songLength  _ c_t_water c_t_need c_t_dew f_t_terraces x1 x2 x3 h s.heap [] hP hD va_S.rf ls hl

/-! X3_addDays -/
abbrev RM_X3_addDays : Room := { frames := 0, cells := 0, slots := 0, locals := 0 }
theorem k_X3_addDays_0 : Cond.fieldLink RX3 37 "DropDealers$Hill" "days" "I" ∈ wsX3_addDays := by decide +kernel
theorem i_X3_addDays_X3 : ∀ w ∈ u_ws RX3 TX3 10, w ∈ wsX3_addDays := by decide +kernel
theorem k_X3_addDays_2 : Cond.fieldLink RX3 21 "DropDealers$Hill" "drops" "[I" ∈ wsX3_addDays := by decide +kernel
def F_X3_addDays_2  : Nat → (Nat → Int32) → Int32 → Int32 → Int32 → Int32 → Option ((Nat → Int32) × Int32)
  | 0, _, _, _, _, _ => none
  | n + 1, c_t_drops, f_t_days, y1, y2, y3 => if y2 ≤ y3 then (some (c_t_drops, f_t_days)) else (if (20 : Int32) ≤ f_t_days then (some (c_t_drops, f_t_days)) else (if ok_I f_t_days 20 = true then F_X3_addDays_2  n (upd c_t_drops f_t_days.toNatClampNeg y1) (f_t_days + (1 : Int32)) y1 y2 (y3 + (1 : Int32)) else none))
set_option maxHeartbeats 4000000 in
set_option maxRecDepth 100000 in
theorem w_X3_addDays_2 {p : Program} {l : Launch} {e : Env} {s : State} {m : MethodId} {args : Array Value} {below : List Frame} {meth : Method} {c : Code} {G : va_G} {ca : Nat → ClassId} {ad av : Nat → Nat} {A : Nat → Prop} (X0 : CX_ p s m args meth c cX3_addDays 4 none wsX3_addDays RX3 G ca ad av A) (a_t : Nat) (a_t_drops : Nat) (a_t_water : Nat) (a_t_need : Nat) (a_t_dew : Nat) (a_t_song : Nat) (f_t_terraces : Int32) (f_t_law : Int32) (f_t_slip : Int32) (f_t_songLength : Int32)  (res : (Nat → Int32) × Int32) : ∀ (n : Nat) (c_t_drops : Nat → Int32) (f_t_days : Int32) (y1 : Int32) (y2 : Int32) (y3 : Int32), F_X3_addDays_2  n c_t_drops f_t_days y1 y2 y3 = some res → ∀ (H : Heap) (locs : List Loc), va_P G vwCl [(a_t, .inr (3, [.ref a_t_water, .ref a_t_need, .ref a_t_dew, .ref a_t_drops, .ref a_t_song, .int f_t_terraces, .int f_t_days, .int f_t_law, .int f_t_slip, .int f_t_songLength])), (a_t_drops, .inl (ca 0, 20, .inl c_t_drops))] H → va_D A [(a_t, .inr (3, [.ref a_t_water, .ref a_t_need, .ref a_t_dew, .ref a_t_drops, .ref a_t_song, .int f_t_terraces, .int f_t_days, .int f_t_law, .int f_t_slip, .int f_t_songLength])), (a_t_drops, .inl (ca 0, 20, .inl c_t_drops))] → va_S A s.heap H locs → ∀ (ls : Array Slot), lv_has ls 4 [(0, .ref a_t), (1, .int y1), (2, .int y2), (3, .int y3)] → W p l e RM_X3_addDays s m args below meth c H locs 0 0 (MQ below (QV_ G A [(a_t, .inr (3, [.ref a_t_water, .ref a_t_need, .ref a_t_dew, .ref a_t_drops, .ref a_t_song, .int f_t_terraces, .int res.2, .int f_t_law, .int f_t_slip, .int f_t_songLength])), (a_t_drops, .inl (ca 0, 20, .inl res.1))]) args s 0 0 A) (F0 m 2 ls []) := by
  obtain ⟨hx, hb, hr, hml, hown, hts, hlocks, hK, hA, hE⟩ := id X0
  intro n
  induction n with
  | zero => intro c_t_drops f_t_days y1 y2 y3 h; cases h
  | succ n ih =>
    intro c_t_drops f_t_days y1 y2 y3 h H locs hP hD hS ls hl
    rw [F_X3_addDays_2] at h
    refine lv_iload_n hx hb dX3_addDays_2 rfl (lv_at hl 3 rfl) ?_
    refine lv_iload_n hx hb dX3_addDays_3 rfl (lv_at hl 2 rfl) ?_
    refine lv_icmp_ge (tgt := 42) hx hb dX3_addDays_4 (by decide) (fun b1 => ?_) (fun b1 => ?_)
    · have h := (if_pos b1).symm.trans h
      have h := sm_i h
      subst h
      exact W.vret hx hb hr (fun t ht hW => ⟨⟨(), rfl, trivial, by rw [ht]; exact hP, hD⟩, hS.F ht⟩) hS.2.2 dX3_addDays_42
    · have h := (if_neg b1).symm.trans h
      refine lv_aload_n hx hb dX3_addDays_7 rfl (lv_at hl 0 rfl) ?_
      refine va_get (D := G) (ci := 3) (v := .int f_t_days) (C := RX3) (T := TX3) (N := 10) hx hb hts i_X3_addDays_X3 hown hK hP 0 rfl rfl 6 (by decide) (hts _ k_X3_addDays_0) (fun _ h9 => h9) rfl dX3_addDays_8 ?_
      refine lv_bipush (v := 20) hx hb dX3_addDays_11 (by decide) ?_
      refine lv_icmp_ge (tgt := 42) hx hb dX3_addDays_13 (by decide) (fun b2 => ?_) (fun b2 => ?_)
      · have h := (if_pos b2).symm.trans h
        have h := sm_i h
        subst h
        exact W.vret hx hb hr (fun t ht hW => ⟨⟨(), rfl, trivial, by rw [ht]; exact hP, hD⟩, hS.F ht⟩) hS.2.2 dX3_addDays_42
      · have h := (if_neg b2).symm.trans h
        refine lv_aload_n hx hb dX3_addDays_16 rfl (lv_at hl 0 rfl) ?_
        refine va_get (D := G) (ci := 3) (v := .ref a_t_drops) (C := RX3) (T := TX3) (N := 10) hx hb hts i_X3_addDays_X3 hown hK hP 0 rfl rfl 3 (by decide) (hts _ k_X3_addDays_2) (fun _ h9 => h9) rfl dX3_addDays_17 ?_
        refine lv_aload_n hx hb dX3_addDays_20 rfl (lv_at hl 0 rfl) ?_
        refine va_get (D := G) (ci := 3) (v := .int f_t_days) (C := RX3) (T := TX3) (N := 10) hx hb hts i_X3_addDays_X3 hown hK hP 0 rfl rfl 6 (by decide) (hts _ k_X3_addDays_0) (fun _ h9 => h9) rfl dX3_addDays_21 ?_
        refine lv_iload_n hx hb dX3_addDays_24 rfl (lv_at hl 1 rfl) ?_
        obtain ⟨g3, h⟩ := gd_t h
        refine va_iast hx hb hK hP hD hS 1 0 rfl rfl (ok_in g3) dX3_addDays_25 (fun H locs hP hD hS => ?_)
        have hP : va_P G vwCl [(a_t, .inr (3, [.ref a_t_water, .ref a_t_need, .ref a_t_dew, .ref a_t_drops, .ref a_t_song, .int f_t_terraces, .int f_t_days, .int f_t_law, .int f_t_slip, .int f_t_songLength])), (a_t_drops, .inl (ca 0, 20, .inl (upd c_t_drops f_t_days.toNatClampNeg y1)))] H := hP
        have hD : va_D A [(a_t, .inr (3, [.ref a_t_water, .ref a_t_need, .ref a_t_dew, .ref a_t_drops, .ref a_t_song, .int f_t_terraces, .int f_t_days, .int f_t_law, .int f_t_slip, .int f_t_songLength])), (a_t_drops, .inl (ca 0, 20, .inl (upd c_t_drops f_t_days.toNatClampNeg y1)))] := hD
        refine lv_aload_n hx hb dX3_addDays_26 rfl (lv_at hl 0 rfl) ?_
        refine lv_dup hx hb dX3_addDays_27 rfl ?_
        refine va_get (D := G) (ci := 3) (v := .int f_t_days) (C := RX3) (T := TX3) (N := 10) hx hb hts i_X3_addDays_X3 hown hK hP 0 rfl rfl 6 (by decide) (hts _ k_X3_addDays_0) (fun _ h9 => h9) rfl dX3_addDays_28 ?_
        refine lv_iconst (v := 1) hx hb dX3_addDays_31 (by decide) ?_
        refine lv_iadd hx hb dX3_addDays_32 ?_
        refine va_put (D := G) (ci := 3) (v := .int (f_t_days + (1 : Int32))) (ty := .int) (C := RX3) (T := TX3) (N := 10) hx hb hts i_X3_addDays_X3 tyX3 tyX3_ok nmX3 hown hK hP hD hS 0 rfl rfl 6 (by decide) (hts _ k_X3_addDays_0) (fun _ h9 => h9) rfl (by decide +kernel) rfl rfl (Nat.le_of_ble_eq_true rfl) dX3_addDays_33 (fun H locs hP hD hS => ?_)
        have hP : va_P G vwCl [(a_t, .inr (3, [.ref a_t_water, .ref a_t_need, .ref a_t_dew, .ref a_t_drops, .ref a_t_song, .int f_t_terraces, .int (f_t_days + (1 : Int32)), .int f_t_law, .int f_t_slip, .int f_t_songLength])), (a_t_drops, .inl (ca 0, 20, .inl (upd c_t_drops f_t_days.toNatClampNeg y1)))] H := hP
        have hD : va_D A [(a_t, .inr (3, [.ref a_t_water, .ref a_t_need, .ref a_t_dew, .ref a_t_drops, .ref a_t_song, .int f_t_terraces, .int (f_t_days + (1 : Int32)), .int f_t_law, .int f_t_slip, .int f_t_songLength])), (a_t_drops, .inl (ca 0, 20, .inl (upd c_t_drops f_t_days.toNatClampNeg y1)))] := hD
        refine lv_iinc (v := (y3 + (1 : Int32))) (lv' := [(3, .int (y3 + (1 : Int32))), (0, .ref a_t), (1, .int y1), (2, .int y2)]) hx hb dX3_addDays_36 hl (k := 3) rfl rfl (by decide) rfl (fun ls hl => ?_)
        refine lv_goto (tgt := 2) hx hb dX3_addDays_39 (by decide) ?_
        exact ih (upd c_t_drops f_t_days.toNatClampNeg y1) (f_t_days + (1 : Int32)) y1 y2 (y3 + (1 : Int32)) h H locs hP hD hS ls (lv_sub hl [1, 2, 3, 0] rfl)
def F_X3_addDays  (c_t_drops : Nat → Int32) (f_t_days : Int32) (x1 : Int32) (x2 : Int32) : Option ((Nat → Int32) × Int32) := F_X3_addDays_2  FU_ c_t_drops f_t_days x1 x2 (0 : Int32)
set_option maxHeartbeats 4000000 in
set_option maxRecDepth 100000 in
theorem w_X3_addDays_0 {p : Program} {l : Launch} {e : Env} {s : State} {m : MethodId} {args : Array Value} {below : List Frame} {meth : Method} {c : Code} {G : va_G} {ca : Nat → ClassId} {ad av : Nat → Nat} {A : Nat → Prop} (X0 : CX_ p s m args meth c cX3_addDays 4 none wsX3_addDays RX3 G ca ad av A) (a_t : Nat) (a_t_drops : Nat) (a_t_water : Nat) (a_t_need : Nat) (a_t_dew : Nat) (a_t_song : Nat) (f_t_terraces : Int32) (f_t_law : Int32) (f_t_slip : Int32) (f_t_songLength : Int32)  (res : (Nat → Int32) × Int32) (c_t_drops : Nat → Int32) (f_t_days : Int32) (x1 : Int32) (x2 : Int32) (h : F_X3_addDays  c_t_drops f_t_days x1 x2 = some res) : ∀ (H : Heap) (locs : List Loc), va_P G vwCl [(a_t, .inr (3, [.ref a_t_water, .ref a_t_need, .ref a_t_dew, .ref a_t_drops, .ref a_t_song, .int f_t_terraces, .int f_t_days, .int f_t_law, .int f_t_slip, .int f_t_songLength])), (a_t_drops, .inl (ca 0, 20, .inl c_t_drops))] H → va_D A [(a_t, .inr (3, [.ref a_t_water, .ref a_t_need, .ref a_t_dew, .ref a_t_drops, .ref a_t_song, .int f_t_terraces, .int f_t_days, .int f_t_law, .int f_t_slip, .int f_t_songLength])), (a_t_drops, .inl (ca 0, 20, .inl c_t_drops))] → va_S A s.heap H locs → ∀ (ls : Array Slot), lv_has ls 4 [(0, .ref a_t), (1, .int x1), (2, .int x2)] → W p l e RM_X3_addDays s m args below meth c H locs 0 0 (MQ below (QV_ G A [(a_t, .inr (3, [.ref a_t_water, .ref a_t_need, .ref a_t_dew, .ref a_t_drops, .ref a_t_song, .int f_t_terraces, .int res.2, .int f_t_law, .int f_t_slip, .int f_t_songLength])), (a_t_drops, .inl (ca 0, 20, .inl res.1))]) args s 0 0 A) (F0 m 0 ls []) := by
  obtain ⟨hx, hb, hr, hml, hown, hts, hlocks, hK, hA, hE⟩ := id X0
  intro H locs hP hD hS ls hl
  unfold F_X3_addDays at h
  refine lv_iconst (v := 0) hx hb dX3_addDays_0 (by decide) ?_
  refine lv_istore_n (lv' := [(3, .int (0 : Int32)), (0, .ref a_t), (1, .int x1), (2, .int x2)]) hx hb dX3_addDays_1 rfl hl (by decide) rfl (fun ls hl => ?_)
  exact w_X3_addDays_2 X0 a_t a_t_drops a_t_water a_t_need a_t_dew a_t_song f_t_terraces f_t_law f_t_slip f_t_songLength  _ FU_ c_t_drops f_t_days x1 x2 (0 : Int32) h H locs hP hD hS ls (lv_sub hl [1, 2, 3, 0] rfl)
set_option maxHeartbeats 4000000 in
set_option maxRecDepth 100000 in
theorem c_X3_addDays (l : Launch) (G : va_G) (ca : Nat → ClassId) (ad av : Nat → Nat) (sz : Nat) (a_t : Nat) (a_t_drops : Nat) (a_t_water : Nat) (a_t_need : Nat) (a_t_dew : Nat) (a_t_song : Nat) (f_t_terraces : Int32) (f_t_law : Int32) (f_t_slip : Int32) (f_t_songLength : Int32)  (c_t_drops : Nat → Int32) (f_t_days : Int32) (x1 : Int32) (x2 : Int32) (res : (Nat → Int32) × Int32) (h : F_X3_addDays  c_t_drops f_t_days x1 x2 = some res) : Met l yX3_addDays wsX3_addDays RM_X3_addDays (va_Pc [.ref a_t, .int x1, .int x2] (PW_ G ca ad av sz [(a_t, .inr (3, [.ref a_t_water, .ref a_t_need, .ref a_t_dew, .ref a_t_drops, .ref a_t_song, .int f_t_terraces, .int f_t_days, .int f_t_law, .int f_t_slip, .int f_t_songLength])), (a_t_drops, .inl (ca 0, 20, .inl c_t_drops))])) (QV_ G (va_A [(a_t, .inr (3, [.ref a_t_water, .ref a_t_need, .ref a_t_dew, .ref a_t_drops, .ref a_t_song, .int f_t_terraces, .int f_t_days, .int f_t_law, .int f_t_slip, .int f_t_songLength])), (a_t_drops, .inl (ca 0, 20, .inl c_t_drops))] sz) [(a_t, .inr (3, [.ref a_t_water, .ref a_t_need, .ref a_t_dew, .ref a_t_drops, .ref a_t_song, .int f_t_terraces, .int res.2, .int f_t_law, .int f_t_slip, .int f_t_songLength])), (a_t_drops, .inl (ca 0, 20, .inl res.1))]) 0 0 (va_A [(a_t, .inr (3, [.ref a_t_water, .ref a_t_need, .ref a_t_dew, .ref a_t_drops, .ref a_t_song, .int f_t_terraces, .int f_t_days, .int f_t_law, .int f_t_slip, .int f_t_songLength])), (a_t_drops, .inl (ca 0, 20, .inl c_t_drops))] sz) := by
  refine Met.ofW (cc := cX3_addDays) (maxL := 4) (ret := none) (by decide) rfl ?_
  intro p e s m args below meth c s₁ B hml hv
  obtain ⟨X0, rfl, rfl, hP, hD⟩ := en_t B hml hv
  have hl := lv_entry ([.ref a_t, .int x1, .int x2]) (n := 4) (Nat.le_of_ble_eq_true rfl)
  rw [lg_entry_eq]
  generalize (lg_sl ([.ref a_t, .int x1, .int x2]) ++ List.replicate (4 - (lg_sl ([.ref a_t, .int x1, .int x2])).length) Slot.unset).toArray = ls at hl ⊢
  exact w_X3_addDays_0 X0 a_t a_t_drops a_t_water a_t_need a_t_dew a_t_song f_t_terraces f_t_law f_t_slip f_t_songLength  _ c_t_drops f_t_days x1 x2 h s.heap [] hP hD va_S.rf ls hl

/-! X3_sing -/
abbrev RM_X3_sing : Room := { frames := 0, cells := 0, slots := 0, locals := 0 }
theorem k_X3_sing_0 : Cond.fieldLink RX3 24 "DropDealers$Hill" "song" "[I" ∈ wsX3_sing := by decide +kernel
theorem i_X3_sing_X3 : ∀ w ∈ u_ws RX3 TX3 10, w ∈ wsX3_sing := by decide +kernel
theorem k_X3_sing_2 : Cond.fieldLink RX3 31 "DropDealers$Hill" "songLength" "I" ∈ wsX3_sing := by decide +kernel
def F_X3_sing  (c_t_song : Nat → Int32) (f_t_songLength : Int32) (x1 : Int32) (x2 : Int32) : Option ((Nat → Int32) × Int32) := if x1 < 0 then (some (c_t_song, f_t_songLength)) else (if (8 : Int32) ≤ x1 then (some (c_t_song, f_t_songLength)) else (if ok_I x1 8 = true then some ((upd c_t_song x1.toNatClampNeg x2), (x1 + (1 : Int32))) else none))
set_option maxHeartbeats 4000000 in
set_option maxRecDepth 100000 in
theorem w_X3_sing_0 {p : Program} {l : Launch} {e : Env} {s : State} {m : MethodId} {args : Array Value} {below : List Frame} {meth : Method} {c : Code} {G : va_G} {ca : Nat → ClassId} {ad av : Nat → Nat} {A : Nat → Prop} (X0 : CX_ p s m args meth c cX3_sing 3 none wsX3_sing RX3 G ca ad av A) (a_t : Nat) (a_t_song : Nat) (a_t_water : Nat) (a_t_need : Nat) (a_t_dew : Nat) (a_t_drops : Nat) (f_t_terraces : Int32) (f_t_days : Int32) (f_t_law : Int32) (f_t_slip : Int32)  (res : (Nat → Int32) × Int32) (c_t_song : Nat → Int32) (f_t_songLength : Int32) (x1 : Int32) (x2 : Int32) (h : F_X3_sing  c_t_song f_t_songLength x1 x2 = some res) : ∀ (H : Heap) (locs : List Loc), va_P G vwCl [(a_t, .inr (3, [.ref a_t_water, .ref a_t_need, .ref a_t_dew, .ref a_t_drops, .ref a_t_song, .int f_t_terraces, .int f_t_days, .int f_t_law, .int f_t_slip, .int f_t_songLength])), (a_t_song, .inl (ca 0, 8, .inl c_t_song))] H → va_D A [(a_t, .inr (3, [.ref a_t_water, .ref a_t_need, .ref a_t_dew, .ref a_t_drops, .ref a_t_song, .int f_t_terraces, .int f_t_days, .int f_t_law, .int f_t_slip, .int f_t_songLength])), (a_t_song, .inl (ca 0, 8, .inl c_t_song))] → va_S A s.heap H locs → ∀ (ls : Array Slot), lv_has ls 3 [(0, .ref a_t), (1, .int x1), (2, .int x2)] → W p l e RM_X3_sing s m args below meth c H locs 0 0 (MQ below (QV_ G A [(a_t, .inr (3, [.ref a_t_water, .ref a_t_need, .ref a_t_dew, .ref a_t_drops, .ref a_t_song, .int f_t_terraces, .int f_t_days, .int f_t_law, .int f_t_slip, .int res.2])), (a_t_song, .inl (ca 0, 8, .inl res.1))]) args s 0 0 A) (F0 m 0 ls []) := by
  obtain ⟨hx, hb, hr, hml, hown, hts, hlocks, hK, hA, hE⟩ := id X0
  intro H locs hP hD hS ls hl
  unfold F_X3_sing at h
  refine lv_iload_n hx hb dX3_sing_0 rfl (lv_at hl 1 rfl) ?_
  refine lv_if_lt (tgt := 24) hx hb dX3_sing_1 (by decide) (fun b1 => ?_) (fun b1 => ?_)
  · have h := (if_pos b1).symm.trans h
    have h := sm_i h
    subst h
    exact W.vret hx hb hr (fun t ht hW => ⟨⟨(), rfl, trivial, by rw [ht]; exact hP, hD⟩, hS.F ht⟩) hS.2.2 dX3_sing_24
  · have h := (if_neg b1).symm.trans h
    refine lv_iload_n hx hb dX3_sing_4 rfl (lv_at hl 1 rfl) ?_
    refine lv_bipush (v := 8) hx hb dX3_sing_5 (by decide) ?_
    refine lv_icmp_ge (tgt := 24) hx hb dX3_sing_7 (by decide) (fun b2 => ?_) (fun b2 => ?_)
    · have h := (if_pos b2).symm.trans h
      have h := sm_i h
      subst h
      exact W.vret hx hb hr (fun t ht hW => ⟨⟨(), rfl, trivial, by rw [ht]; exact hP, hD⟩, hS.F ht⟩) hS.2.2 dX3_sing_24
    · have h := (if_neg b2).symm.trans h
      refine lv_aload_n hx hb dX3_sing_10 rfl (lv_at hl 0 rfl) ?_
      refine va_get (D := G) (ci := 3) (v := .ref a_t_song) (C := RX3) (T := TX3) (N := 10) hx hb hts i_X3_sing_X3 hown hK hP 0 rfl rfl 4 (by decide) (hts _ k_X3_sing_0) (fun _ h9 => h9) rfl dX3_sing_11 ?_
      refine lv_iload_n hx hb dX3_sing_14 rfl (lv_at hl 1 rfl) ?_
      refine lv_iload_n hx hb dX3_sing_15 rfl (lv_at hl 2 rfl) ?_
      obtain ⟨g3, h⟩ := gd_t h
      refine va_iast hx hb hK hP hD hS 1 0 rfl rfl (ok_in g3) dX3_sing_16 (fun H locs hP hD hS => ?_)
      have hP : va_P G vwCl [(a_t, .inr (3, [.ref a_t_water, .ref a_t_need, .ref a_t_dew, .ref a_t_drops, .ref a_t_song, .int f_t_terraces, .int f_t_days, .int f_t_law, .int f_t_slip, .int f_t_songLength])), (a_t_song, .inl (ca 0, 8, .inl (upd c_t_song x1.toNatClampNeg x2)))] H := hP
      have hD : va_D A [(a_t, .inr (3, [.ref a_t_water, .ref a_t_need, .ref a_t_dew, .ref a_t_drops, .ref a_t_song, .int f_t_terraces, .int f_t_days, .int f_t_law, .int f_t_slip, .int f_t_songLength])), (a_t_song, .inl (ca 0, 8, .inl (upd c_t_song x1.toNatClampNeg x2)))] := hD
      refine lv_aload_n hx hb dX3_sing_17 rfl (lv_at hl 0 rfl) ?_
      refine lv_iload_n hx hb dX3_sing_18 rfl (lv_at hl 1 rfl) ?_
      refine lv_iconst (v := 1) hx hb dX3_sing_19 (by decide) ?_
      refine lv_iadd hx hb dX3_sing_20 ?_
      refine va_put (D := G) (ci := 3) (v := .int (x1 + (1 : Int32))) (ty := .int) (C := RX3) (T := TX3) (N := 10) hx hb hts i_X3_sing_X3 tyX3 tyX3_ok nmX3 hown hK hP hD hS 0 rfl rfl 9 (by decide) (hts _ k_X3_sing_2) (fun _ h9 => h9) rfl (by decide +kernel) rfl rfl (Nat.le_of_ble_eq_true rfl) dX3_sing_21 (fun H locs hP hD hS => ?_)
      have hP : va_P G vwCl [(a_t, .inr (3, [.ref a_t_water, .ref a_t_need, .ref a_t_dew, .ref a_t_drops, .ref a_t_song, .int f_t_terraces, .int f_t_days, .int f_t_law, .int f_t_slip, .int (x1 + (1 : Int32))])), (a_t_song, .inl (ca 0, 8, .inl (upd c_t_song x1.toNatClampNeg x2)))] H := hP
      have hD : va_D A [(a_t, .inr (3, [.ref a_t_water, .ref a_t_need, .ref a_t_dew, .ref a_t_drops, .ref a_t_song, .int f_t_terraces, .int f_t_days, .int f_t_law, .int f_t_slip, .int (x1 + (1 : Int32))])), (a_t_song, .inl (ca 0, 8, .inl (upd c_t_song x1.toNatClampNeg x2)))] := hD
      have h := sm_i h
      subst h
      exact W.vret hx hb hr (fun t ht hW => ⟨⟨(), rfl, trivial, by rw [ht]; exact hP, hD⟩, hS.F ht⟩) hS.2.2 dX3_sing_24
set_option maxHeartbeats 4000000 in
set_option maxRecDepth 100000 in
theorem c_X3_sing (l : Launch) (G : va_G) (ca : Nat → ClassId) (ad av : Nat → Nat) (sz : Nat) (a_t : Nat) (a_t_song : Nat) (a_t_water : Nat) (a_t_need : Nat) (a_t_dew : Nat) (a_t_drops : Nat) (f_t_terraces : Int32) (f_t_days : Int32) (f_t_law : Int32) (f_t_slip : Int32)  (c_t_song : Nat → Int32) (f_t_songLength : Int32) (x1 : Int32) (x2 : Int32) (res : (Nat → Int32) × Int32) (h : F_X3_sing  c_t_song f_t_songLength x1 x2 = some res) : Met l yX3_sing wsX3_sing RM_X3_sing (va_Pc [.ref a_t, .int x1, .int x2] (PW_ G ca ad av sz [(a_t, .inr (3, [.ref a_t_water, .ref a_t_need, .ref a_t_dew, .ref a_t_drops, .ref a_t_song, .int f_t_terraces, .int f_t_days, .int f_t_law, .int f_t_slip, .int f_t_songLength])), (a_t_song, .inl (ca 0, 8, .inl c_t_song))])) (QV_ G (va_A [(a_t, .inr (3, [.ref a_t_water, .ref a_t_need, .ref a_t_dew, .ref a_t_drops, .ref a_t_song, .int f_t_terraces, .int f_t_days, .int f_t_law, .int f_t_slip, .int f_t_songLength])), (a_t_song, .inl (ca 0, 8, .inl c_t_song))] sz) [(a_t, .inr (3, [.ref a_t_water, .ref a_t_need, .ref a_t_dew, .ref a_t_drops, .ref a_t_song, .int f_t_terraces, .int f_t_days, .int f_t_law, .int f_t_slip, .int res.2])), (a_t_song, .inl (ca 0, 8, .inl res.1))]) 0 0 (va_A [(a_t, .inr (3, [.ref a_t_water, .ref a_t_need, .ref a_t_dew, .ref a_t_drops, .ref a_t_song, .int f_t_terraces, .int f_t_days, .int f_t_law, .int f_t_slip, .int f_t_songLength])), (a_t_song, .inl (ca 0, 8, .inl c_t_song))] sz) := by
  refine Met.ofW (cc := cX3_sing) (maxL := 3) (ret := none) (by decide) rfl ?_
  intro p e s m args below meth c s₁ B hml hv
  obtain ⟨X0, rfl, rfl, hP, hD⟩ := en_t B hml hv
  have hl := lv_entry ([.ref a_t, .int x1, .int x2]) (n := 3) (Nat.le_of_ble_eq_true rfl)
  rw [lg_entry_eq]
  generalize (lg_sl ([.ref a_t, .int x1, .int x2]) ++ List.replicate (3 - (lg_sl ([.ref a_t, .int x1, .int x2])).length) Slot.unset).toArray = ls at hl ⊢
  exact w_X3_sing_0 X0 a_t a_t_song a_t_water a_t_need a_t_dew a_t_drops f_t_terraces f_t_days f_t_law f_t_slip  _ c_t_song f_t_songLength x1 x2 h s.heap [] hP hD va_S.rf ls hl

/-! X3_become -/
abbrev RM_X3_become : Room := { frames := 1, cells := 0, slots := 0, locals := 60 }
theorem k_X3_become_0 : Cond.fieldLink RX3 9 "DropDealers$Hill" "water" "[I" ∈ wsX3_become := by decide +kernel
theorem i_X3_become_X3 : ∀ w ∈ u_ws RX3 TX3 10, w ∈ wsX3_become := by decide +kernel
theorem k_X3_become_2 : Cond.methodLink RX3 43 arraycopyName ∈ wsX3_become := by decide +kernel
theorem k_X3_become_3 : Cond.native arraycopyName ∈ wsX3_become := by decide +kernel
theorem k_X3_become_4 : Cond.static arraycopyName ∈ wsX3_become := by decide +kernel
theorem k_X3_become_5 : Cond.initialized "java/lang/System" ∈ wsX3_become := by decide +kernel
theorem k_X3_become_6 : Cond.fieldLink RX3 15 "DropDealers$Hill" "need" "[I" ∈ wsX3_become := by decide +kernel
theorem k_X3_become_7 : Cond.fieldLink RX3 18 "DropDealers$Hill" "dew" "[I" ∈ wsX3_become := by decide +kernel
theorem k_X3_become_8 : Cond.fieldLink RX3 21 "DropDealers$Hill" "drops" "[I" ∈ wsX3_become := by decide +kernel
theorem k_X3_become_9 : Cond.fieldLink RX3 24 "DropDealers$Hill" "song" "[I" ∈ wsX3_become := by decide +kernel
theorem k_X3_become_10 : Cond.fieldLink RX3 34 "DropDealers$Hill" "terraces" "I" ∈ wsX3_become := by decide +kernel
theorem k_X3_become_11 : Cond.fieldLink RX3 37 "DropDealers$Hill" "days" "I" ∈ wsX3_become := by decide +kernel
theorem k_X3_become_12 : Cond.fieldLink RX3 27 "DropDealers$Hill" "law" "I" ∈ wsX3_become := by decide +kernel
theorem k_X3_become_13 : Cond.fieldLink RX3 40 "DropDealers$Hill" "slip" "I" ∈ wsX3_become := by decide +kernel
theorem k_X3_become_14 : Cond.fieldLink RX3 31 "DropDealers$Hill" "songLength" "I" ∈ wsX3_become := by decide +kernel
def F_X3_become (c_p1_water : Nat → Int32) (c_p1_need : Nat → Int32) (c_p1_dew : Nat → Int32) (c_p1_drops : Nat → Int32) (c_p1_song : Nat → Int32) (f_p1_terraces : Int32) (f_p1_days : Int32) (f_p1_law : Int32) (f_p1_slip : Int32) (f_p1_songLength : Int32) (c_t_water : Nat → Int32) (c_t_need : Nat → Int32) (c_t_dew : Nat → Int32) (c_t_drops : Nat → Int32) (c_t_song : Nat → Int32) (f_t_terraces : Int32) (f_t_days : Int32) (f_t_law : Int32) (f_t_slip : Int32) (f_t_songLength : Int32) : Option ((Nat → Int32) × (Nat → Int32) × (Nat → Int32) × (Nat → Int32) × (Nat → Int32) × Int32 × Int32 × Int32 × Int32 × Int32) := some ((va_cpy c_p1_water c_t_water 0 0 6), (va_cpy c_p1_need c_t_need 0 0 6), (va_cpy c_p1_dew c_t_dew 0 0 6), (va_cpy c_p1_drops c_t_drops 0 0 20), (va_cpy c_p1_song c_t_song 0 0 8), f_p1_terraces, f_p1_days, f_p1_law, f_p1_slip, f_p1_songLength)
set_option maxHeartbeats 4000000 in
set_option maxRecDepth 100000 in
theorem w_X3_become_0 {p : Program} {l : Launch} {e : Env} {s : State} {m : MethodId} {args : Array Value} {below : List Frame} {meth : Method} {c : Code} {G : va_G} {ca : Nat → ClassId} {ad av : Nat → Nat} {A : Nat → Prop} (X0 : CX_ p s m args meth c cX3_become 2 none wsX3_become RX3 G ca ad av A) (a_t : Nat) (a_t_water : Nat) (a_t_need : Nat) (a_t_dew : Nat) (a_t_drops : Nat) (a_t_song : Nat) (a_p1 : Nat) (a_p1_water : Nat) (a_p1_need : Nat) (a_p1_dew : Nat) (a_p1_drops : Nat) (a_p1_song : Nat)  (c_p1_water : Nat → Int32) (c_p1_need : Nat → Int32) (c_p1_dew : Nat → Int32) (c_p1_drops : Nat → Int32) (c_p1_song : Nat → Int32) (f_p1_terraces : Int32) (f_p1_days : Int32) (f_p1_law : Int32) (f_p1_slip : Int32) (f_p1_songLength : Int32) (res : (Nat → Int32) × (Nat → Int32) × (Nat → Int32) × (Nat → Int32) × (Nat → Int32) × Int32 × Int32 × Int32 × Int32 × Int32) (c_t_water : Nat → Int32) (c_t_need : Nat → Int32) (c_t_dew : Nat → Int32) (c_t_drops : Nat → Int32) (c_t_song : Nat → Int32) (f_t_terraces : Int32) (f_t_days : Int32) (f_t_law : Int32) (f_t_slip : Int32) (f_t_songLength : Int32) (h : F_X3_become c_p1_water c_p1_need c_p1_dew c_p1_drops c_p1_song f_p1_terraces f_p1_days f_p1_law f_p1_slip f_p1_songLength c_t_water c_t_need c_t_dew c_t_drops c_t_song f_t_terraces f_t_days f_t_law f_t_slip f_t_songLength = some res) : ∀ (H : Heap) (locs : List Loc), va_P G vwCl [(a_t, .inr (3, [.ref a_t_water, .ref a_t_need, .ref a_t_dew, .ref a_t_drops, .ref a_t_song, .int f_t_terraces, .int f_t_days, .int f_t_law, .int f_t_slip, .int f_t_songLength])), (a_t_water, .inl (ca 0, 6, .inl c_t_water)), (a_t_need, .inl (ca 0, 6, .inl c_t_need)), (a_t_dew, .inl (ca 0, 6, .inl c_t_dew)), (a_t_drops, .inl (ca 0, 20, .inl c_t_drops)), (a_t_song, .inl (ca 0, 8, .inl c_t_song)), (a_p1, .inr (3, [.ref a_p1_water, .ref a_p1_need, .ref a_p1_dew, .ref a_p1_drops, .ref a_p1_song, .int f_p1_terraces, .int f_p1_days, .int f_p1_law, .int f_p1_slip, .int f_p1_songLength])), (a_p1_water, .inl (ca 0, 6, .inl c_p1_water)), (a_p1_need, .inl (ca 0, 6, .inl c_p1_need)), (a_p1_dew, .inl (ca 0, 6, .inl c_p1_dew)), (a_p1_drops, .inl (ca 0, 20, .inl c_p1_drops)), (a_p1_song, .inl (ca 0, 8, .inl c_p1_song))] H → va_D A [(a_t, .inr (3, [.ref a_t_water, .ref a_t_need, .ref a_t_dew, .ref a_t_drops, .ref a_t_song, .int f_t_terraces, .int f_t_days, .int f_t_law, .int f_t_slip, .int f_t_songLength])), (a_t_water, .inl (ca 0, 6, .inl c_t_water)), (a_t_need, .inl (ca 0, 6, .inl c_t_need)), (a_t_dew, .inl (ca 0, 6, .inl c_t_dew)), (a_t_drops, .inl (ca 0, 20, .inl c_t_drops)), (a_t_song, .inl (ca 0, 8, .inl c_t_song)), (a_p1, .inr (3, [.ref a_p1_water, .ref a_p1_need, .ref a_p1_dew, .ref a_p1_drops, .ref a_p1_song, .int f_p1_terraces, .int f_p1_days, .int f_p1_law, .int f_p1_slip, .int f_p1_songLength])), (a_p1_water, .inl (ca 0, 6, .inl c_p1_water)), (a_p1_need, .inl (ca 0, 6, .inl c_p1_need)), (a_p1_dew, .inl (ca 0, 6, .inl c_p1_dew)), (a_p1_drops, .inl (ca 0, 20, .inl c_p1_drops)), (a_p1_song, .inl (ca 0, 8, .inl c_p1_song))] → va_S A s.heap H locs → ∀ (ls : Array Slot), lv_has ls 2 [(0, .ref a_t), (1, .ref a_p1)] → W p l e RM_X3_become s m args below meth c H locs 0 0 (MQ below (QV_ G A [(a_t, .inr (3, [.ref a_t_water, .ref a_t_need, .ref a_t_dew, .ref a_t_drops, .ref a_t_song, .int res.2.2.2.2.2.1, .int res.2.2.2.2.2.2.1, .int res.2.2.2.2.2.2.2.1, .int res.2.2.2.2.2.2.2.2.1, .int res.2.2.2.2.2.2.2.2.2])), (a_t_water, .inl (ca 0, 6, .inl res.1)), (a_t_need, .inl (ca 0, 6, .inl res.2.1)), (a_t_dew, .inl (ca 0, 6, .inl res.2.2.1)), (a_t_drops, .inl (ca 0, 20, .inl res.2.2.2.1)), (a_t_song, .inl (ca 0, 8, .inl res.2.2.2.2.1)), (a_p1, .inr (3, [.ref a_p1_water, .ref a_p1_need, .ref a_p1_dew, .ref a_p1_drops, .ref a_p1_song, .int f_p1_terraces, .int f_p1_days, .int f_p1_law, .int f_p1_slip, .int f_p1_songLength])), (a_p1_water, .inl (ca 0, 6, .inl c_p1_water)), (a_p1_need, .inl (ca 0, 6, .inl c_p1_need)), (a_p1_dew, .inl (ca 0, 6, .inl c_p1_dew)), (a_p1_drops, .inl (ca 0, 20, .inl c_p1_drops)), (a_p1_song, .inl (ca 0, 8, .inl c_p1_song))]) args s 0 0 A) (F0 m 0 ls []) := by
  obtain ⟨hx, hb, hr, hml, hown, hts, hlocks, hK, hA, hE⟩ := id X0
  intro H locs hP hD hS ls hl
  unfold F_X3_become at h
  refine lv_aload_n hx hb dX3_become_0 rfl (lv_at hl 1 rfl) ?_
  refine va_get (D := G) (ci := 3) (v := .ref a_p1_water) (C := RX3) (T := TX3) (N := 10) hx hb hts i_X3_become_X3 hown hK hP 6 rfl rfl 0 (by decide) (hts _ k_X3_become_0) (fun _ h9 => h9) rfl dX3_become_1 ?_
  refine lv_iconst (v := 0) hx hb dX3_become_4 (by decide) ?_
  refine lv_aload_n hx hb dX3_become_5 rfl (lv_at hl 0 rfl) ?_
  refine va_get (D := G) (ci := 3) (v := .ref a_t_water) (C := RX3) (T := TX3) (N := 10) hx hb hts i_X3_become_X3 hown hK hP 0 rfl rfl 0 (by decide) (hts _ k_X3_become_0) (fun _ h9 => h9) rfl dX3_become_6 ?_
  refine lv_iconst (v := 0) hx hb dX3_become_9 (by decide) ?_
  refine lv_bipush (v := 6) hx hb dX3_become_10 (by decide) ?_
  refine va_copyi hx hb (hml.trans hl.1.symm) hown (hts _ k_X3_become_2) (hts _ k_X3_become_3) (hts _ k_X3_become_4) (hts _ k_X3_become_5) hK hP hD hS 7 1 0 0 rfl rfl rfl rfl rfl (by decide) (by decide) (by decide) (by decide) (by decide) (fun _ _ => rfl) (Nat.le_of_ble_eq_true rfl) (Nat.le_of_ble_eq_true rfl) dX3_become_12 (fun H locs hP hD hS => ?_)
  have hP : va_P G vwCl [(a_t, .inr (3, [.ref a_t_water, .ref a_t_need, .ref a_t_dew, .ref a_t_drops, .ref a_t_song, .int f_t_terraces, .int f_t_days, .int f_t_law, .int f_t_slip, .int f_t_songLength])), (a_t_water, .inl (ca 0, 6, .inl (va_cpy c_p1_water c_t_water 0 0 6))), (a_t_need, .inl (ca 0, 6, .inl c_t_need)), (a_t_dew, .inl (ca 0, 6, .inl c_t_dew)), (a_t_drops, .inl (ca 0, 20, .inl c_t_drops)), (a_t_song, .inl (ca 0, 8, .inl c_t_song)), (a_p1, .inr (3, [.ref a_p1_water, .ref a_p1_need, .ref a_p1_dew, .ref a_p1_drops, .ref a_p1_song, .int f_p1_terraces, .int f_p1_days, .int f_p1_law, .int f_p1_slip, .int f_p1_songLength])), (a_p1_water, .inl (ca 0, 6, .inl c_p1_water)), (a_p1_need, .inl (ca 0, 6, .inl c_p1_need)), (a_p1_dew, .inl (ca 0, 6, .inl c_p1_dew)), (a_p1_drops, .inl (ca 0, 20, .inl c_p1_drops)), (a_p1_song, .inl (ca 0, 8, .inl c_p1_song))] H := hP
  have hD : va_D A [(a_t, .inr (3, [.ref a_t_water, .ref a_t_need, .ref a_t_dew, .ref a_t_drops, .ref a_t_song, .int f_t_terraces, .int f_t_days, .int f_t_law, .int f_t_slip, .int f_t_songLength])), (a_t_water, .inl (ca 0, 6, .inl (va_cpy c_p1_water c_t_water 0 0 6))), (a_t_need, .inl (ca 0, 6, .inl c_t_need)), (a_t_dew, .inl (ca 0, 6, .inl c_t_dew)), (a_t_drops, .inl (ca 0, 20, .inl c_t_drops)), (a_t_song, .inl (ca 0, 8, .inl c_t_song)), (a_p1, .inr (3, [.ref a_p1_water, .ref a_p1_need, .ref a_p1_dew, .ref a_p1_drops, .ref a_p1_song, .int f_p1_terraces, .int f_p1_days, .int f_p1_law, .int f_p1_slip, .int f_p1_songLength])), (a_p1_water, .inl (ca 0, 6, .inl c_p1_water)), (a_p1_need, .inl (ca 0, 6, .inl c_p1_need)), (a_p1_dew, .inl (ca 0, 6, .inl c_p1_dew)), (a_p1_drops, .inl (ca 0, 20, .inl c_p1_drops)), (a_p1_song, .inl (ca 0, 8, .inl c_p1_song))] := hD
  refine lv_aload_n hx hb dX3_become_15 rfl (lv_at hl 1 rfl) ?_
  refine va_get (D := G) (ci := 3) (v := .ref a_p1_need) (C := RX3) (T := TX3) (N := 10) hx hb hts i_X3_become_X3 hown hK hP 6 rfl rfl 1 (by decide) (hts _ k_X3_become_6) (fun _ h9 => h9) rfl dX3_become_16 ?_
  refine lv_iconst (v := 0) hx hb dX3_become_19 (by decide) ?_
  refine lv_aload_n hx hb dX3_become_20 rfl (lv_at hl 0 rfl) ?_
  refine va_get (D := G) (ci := 3) (v := .ref a_t_need) (C := RX3) (T := TX3) (N := 10) hx hb hts i_X3_become_X3 hown hK hP 0 rfl rfl 1 (by decide) (hts _ k_X3_become_6) (fun _ h9 => h9) rfl dX3_become_21 ?_
  refine lv_iconst (v := 0) hx hb dX3_become_24 (by decide) ?_
  refine lv_bipush (v := 6) hx hb dX3_become_25 (by decide) ?_
  refine va_copyi hx hb (hml.trans hl.1.symm) hown (hts _ k_X3_become_2) (hts _ k_X3_become_3) (hts _ k_X3_become_4) (hts _ k_X3_become_5) hK hP hD hS 8 2 0 0 rfl rfl rfl rfl rfl (by decide) (by decide) (by decide) (by decide) (by decide) (fun _ _ => rfl) (Nat.le_of_ble_eq_true rfl) (Nat.le_of_ble_eq_true rfl) dX3_become_27 (fun H locs hP hD hS => ?_)
  have hP : va_P G vwCl [(a_t, .inr (3, [.ref a_t_water, .ref a_t_need, .ref a_t_dew, .ref a_t_drops, .ref a_t_song, .int f_t_terraces, .int f_t_days, .int f_t_law, .int f_t_slip, .int f_t_songLength])), (a_t_water, .inl (ca 0, 6, .inl (va_cpy c_p1_water c_t_water 0 0 6))), (a_t_need, .inl (ca 0, 6, .inl (va_cpy c_p1_need c_t_need 0 0 6))), (a_t_dew, .inl (ca 0, 6, .inl c_t_dew)), (a_t_drops, .inl (ca 0, 20, .inl c_t_drops)), (a_t_song, .inl (ca 0, 8, .inl c_t_song)), (a_p1, .inr (3, [.ref a_p1_water, .ref a_p1_need, .ref a_p1_dew, .ref a_p1_drops, .ref a_p1_song, .int f_p1_terraces, .int f_p1_days, .int f_p1_law, .int f_p1_slip, .int f_p1_songLength])), (a_p1_water, .inl (ca 0, 6, .inl c_p1_water)), (a_p1_need, .inl (ca 0, 6, .inl c_p1_need)), (a_p1_dew, .inl (ca 0, 6, .inl c_p1_dew)), (a_p1_drops, .inl (ca 0, 20, .inl c_p1_drops)), (a_p1_song, .inl (ca 0, 8, .inl c_p1_song))] H := hP
  have hD : va_D A [(a_t, .inr (3, [.ref a_t_water, .ref a_t_need, .ref a_t_dew, .ref a_t_drops, .ref a_t_song, .int f_t_terraces, .int f_t_days, .int f_t_law, .int f_t_slip, .int f_t_songLength])), (a_t_water, .inl (ca 0, 6, .inl (va_cpy c_p1_water c_t_water 0 0 6))), (a_t_need, .inl (ca 0, 6, .inl (va_cpy c_p1_need c_t_need 0 0 6))), (a_t_dew, .inl (ca 0, 6, .inl c_t_dew)), (a_t_drops, .inl (ca 0, 20, .inl c_t_drops)), (a_t_song, .inl (ca 0, 8, .inl c_t_song)), (a_p1, .inr (3, [.ref a_p1_water, .ref a_p1_need, .ref a_p1_dew, .ref a_p1_drops, .ref a_p1_song, .int f_p1_terraces, .int f_p1_days, .int f_p1_law, .int f_p1_slip, .int f_p1_songLength])), (a_p1_water, .inl (ca 0, 6, .inl c_p1_water)), (a_p1_need, .inl (ca 0, 6, .inl c_p1_need)), (a_p1_dew, .inl (ca 0, 6, .inl c_p1_dew)), (a_p1_drops, .inl (ca 0, 20, .inl c_p1_drops)), (a_p1_song, .inl (ca 0, 8, .inl c_p1_song))] := hD
  refine lv_aload_n hx hb dX3_become_30 rfl (lv_at hl 1 rfl) ?_
  refine va_get (D := G) (ci := 3) (v := .ref a_p1_dew) (C := RX3) (T := TX3) (N := 10) hx hb hts i_X3_become_X3 hown hK hP 6 rfl rfl 2 (by decide) (hts _ k_X3_become_7) (fun _ h9 => h9) rfl dX3_become_31 ?_
  refine lv_iconst (v := 0) hx hb dX3_become_34 (by decide) ?_
  refine lv_aload_n hx hb dX3_become_35 rfl (lv_at hl 0 rfl) ?_
  refine va_get (D := G) (ci := 3) (v := .ref a_t_dew) (C := RX3) (T := TX3) (N := 10) hx hb hts i_X3_become_X3 hown hK hP 0 rfl rfl 2 (by decide) (hts _ k_X3_become_7) (fun _ h9 => h9) rfl dX3_become_36 ?_
  refine lv_iconst (v := 0) hx hb dX3_become_39 (by decide) ?_
  refine lv_bipush (v := 6) hx hb dX3_become_40 (by decide) ?_
  refine va_copyi hx hb (hml.trans hl.1.symm) hown (hts _ k_X3_become_2) (hts _ k_X3_become_3) (hts _ k_X3_become_4) (hts _ k_X3_become_5) hK hP hD hS 9 3 0 0 rfl rfl rfl rfl rfl (by decide) (by decide) (by decide) (by decide) (by decide) (fun _ _ => rfl) (Nat.le_of_ble_eq_true rfl) (Nat.le_of_ble_eq_true rfl) dX3_become_42 (fun H locs hP hD hS => ?_)
  have hP : va_P G vwCl [(a_t, .inr (3, [.ref a_t_water, .ref a_t_need, .ref a_t_dew, .ref a_t_drops, .ref a_t_song, .int f_t_terraces, .int f_t_days, .int f_t_law, .int f_t_slip, .int f_t_songLength])), (a_t_water, .inl (ca 0, 6, .inl (va_cpy c_p1_water c_t_water 0 0 6))), (a_t_need, .inl (ca 0, 6, .inl (va_cpy c_p1_need c_t_need 0 0 6))), (a_t_dew, .inl (ca 0, 6, .inl (va_cpy c_p1_dew c_t_dew 0 0 6))), (a_t_drops, .inl (ca 0, 20, .inl c_t_drops)), (a_t_song, .inl (ca 0, 8, .inl c_t_song)), (a_p1, .inr (3, [.ref a_p1_water, .ref a_p1_need, .ref a_p1_dew, .ref a_p1_drops, .ref a_p1_song, .int f_p1_terraces, .int f_p1_days, .int f_p1_law, .int f_p1_slip, .int f_p1_songLength])), (a_p1_water, .inl (ca 0, 6, .inl c_p1_water)), (a_p1_need, .inl (ca 0, 6, .inl c_p1_need)), (a_p1_dew, .inl (ca 0, 6, .inl c_p1_dew)), (a_p1_drops, .inl (ca 0, 20, .inl c_p1_drops)), (a_p1_song, .inl (ca 0, 8, .inl c_p1_song))] H := hP
  have hD : va_D A [(a_t, .inr (3, [.ref a_t_water, .ref a_t_need, .ref a_t_dew, .ref a_t_drops, .ref a_t_song, .int f_t_terraces, .int f_t_days, .int f_t_law, .int f_t_slip, .int f_t_songLength])), (a_t_water, .inl (ca 0, 6, .inl (va_cpy c_p1_water c_t_water 0 0 6))), (a_t_need, .inl (ca 0, 6, .inl (va_cpy c_p1_need c_t_need 0 0 6))), (a_t_dew, .inl (ca 0, 6, .inl (va_cpy c_p1_dew c_t_dew 0 0 6))), (a_t_drops, .inl (ca 0, 20, .inl c_t_drops)), (a_t_song, .inl (ca 0, 8, .inl c_t_song)), (a_p1, .inr (3, [.ref a_p1_water, .ref a_p1_need, .ref a_p1_dew, .ref a_p1_drops, .ref a_p1_song, .int f_p1_terraces, .int f_p1_days, .int f_p1_law, .int f_p1_slip, .int f_p1_songLength])), (a_p1_water, .inl (ca 0, 6, .inl c_p1_water)), (a_p1_need, .inl (ca 0, 6, .inl c_p1_need)), (a_p1_dew, .inl (ca 0, 6, .inl c_p1_dew)), (a_p1_drops, .inl (ca 0, 20, .inl c_p1_drops)), (a_p1_song, .inl (ca 0, 8, .inl c_p1_song))] := hD
  refine lv_aload_n hx hb dX3_become_45 rfl (lv_at hl 1 rfl) ?_
  refine va_get (D := G) (ci := 3) (v := .ref a_p1_drops) (C := RX3) (T := TX3) (N := 10) hx hb hts i_X3_become_X3 hown hK hP 6 rfl rfl 3 (by decide) (hts _ k_X3_become_8) (fun _ h9 => h9) rfl dX3_become_46 ?_
  refine lv_iconst (v := 0) hx hb dX3_become_49 (by decide) ?_
  refine lv_aload_n hx hb dX3_become_50 rfl (lv_at hl 0 rfl) ?_
  refine va_get (D := G) (ci := 3) (v := .ref a_t_drops) (C := RX3) (T := TX3) (N := 10) hx hb hts i_X3_become_X3 hown hK hP 0 rfl rfl 3 (by decide) (hts _ k_X3_become_8) (fun _ h9 => h9) rfl dX3_become_51 ?_
  refine lv_iconst (v := 0) hx hb dX3_become_54 (by decide) ?_
  refine lv_bipush (v := 20) hx hb dX3_become_55 (by decide) ?_
  refine va_copyi hx hb (hml.trans hl.1.symm) hown (hts _ k_X3_become_2) (hts _ k_X3_become_3) (hts _ k_X3_become_4) (hts _ k_X3_become_5) hK hP hD hS 10 4 0 0 rfl rfl rfl rfl rfl (by decide) (by decide) (by decide) (by decide) (by decide) (fun _ _ => rfl) (Nat.le_of_ble_eq_true rfl) (Nat.le_of_ble_eq_true rfl) dX3_become_57 (fun H locs hP hD hS => ?_)
  have hP : va_P G vwCl [(a_t, .inr (3, [.ref a_t_water, .ref a_t_need, .ref a_t_dew, .ref a_t_drops, .ref a_t_song, .int f_t_terraces, .int f_t_days, .int f_t_law, .int f_t_slip, .int f_t_songLength])), (a_t_water, .inl (ca 0, 6, .inl (va_cpy c_p1_water c_t_water 0 0 6))), (a_t_need, .inl (ca 0, 6, .inl (va_cpy c_p1_need c_t_need 0 0 6))), (a_t_dew, .inl (ca 0, 6, .inl (va_cpy c_p1_dew c_t_dew 0 0 6))), (a_t_drops, .inl (ca 0, 20, .inl (va_cpy c_p1_drops c_t_drops 0 0 20))), (a_t_song, .inl (ca 0, 8, .inl c_t_song)), (a_p1, .inr (3, [.ref a_p1_water, .ref a_p1_need, .ref a_p1_dew, .ref a_p1_drops, .ref a_p1_song, .int f_p1_terraces, .int f_p1_days, .int f_p1_law, .int f_p1_slip, .int f_p1_songLength])), (a_p1_water, .inl (ca 0, 6, .inl c_p1_water)), (a_p1_need, .inl (ca 0, 6, .inl c_p1_need)), (a_p1_dew, .inl (ca 0, 6, .inl c_p1_dew)), (a_p1_drops, .inl (ca 0, 20, .inl c_p1_drops)), (a_p1_song, .inl (ca 0, 8, .inl c_p1_song))] H := hP
  have hD : va_D A [(a_t, .inr (3, [.ref a_t_water, .ref a_t_need, .ref a_t_dew, .ref a_t_drops, .ref a_t_song, .int f_t_terraces, .int f_t_days, .int f_t_law, .int f_t_slip, .int f_t_songLength])), (a_t_water, .inl (ca 0, 6, .inl (va_cpy c_p1_water c_t_water 0 0 6))), (a_t_need, .inl (ca 0, 6, .inl (va_cpy c_p1_need c_t_need 0 0 6))), (a_t_dew, .inl (ca 0, 6, .inl (va_cpy c_p1_dew c_t_dew 0 0 6))), (a_t_drops, .inl (ca 0, 20, .inl (va_cpy c_p1_drops c_t_drops 0 0 20))), (a_t_song, .inl (ca 0, 8, .inl c_t_song)), (a_p1, .inr (3, [.ref a_p1_water, .ref a_p1_need, .ref a_p1_dew, .ref a_p1_drops, .ref a_p1_song, .int f_p1_terraces, .int f_p1_days, .int f_p1_law, .int f_p1_slip, .int f_p1_songLength])), (a_p1_water, .inl (ca 0, 6, .inl c_p1_water)), (a_p1_need, .inl (ca 0, 6, .inl c_p1_need)), (a_p1_dew, .inl (ca 0, 6, .inl c_p1_dew)), (a_p1_drops, .inl (ca 0, 20, .inl c_p1_drops)), (a_p1_song, .inl (ca 0, 8, .inl c_p1_song))] := hD
  refine lv_aload_n hx hb dX3_become_60 rfl (lv_at hl 1 rfl) ?_
  refine va_get (D := G) (ci := 3) (v := .ref a_p1_song) (C := RX3) (T := TX3) (N := 10) hx hb hts i_X3_become_X3 hown hK hP 6 rfl rfl 4 (by decide) (hts _ k_X3_become_9) (fun _ h9 => h9) rfl dX3_become_61 ?_
  refine lv_iconst (v := 0) hx hb dX3_become_64 (by decide) ?_
  refine lv_aload_n hx hb dX3_become_65 rfl (lv_at hl 0 rfl) ?_
  refine va_get (D := G) (ci := 3) (v := .ref a_t_song) (C := RX3) (T := TX3) (N := 10) hx hb hts i_X3_become_X3 hown hK hP 0 rfl rfl 4 (by decide) (hts _ k_X3_become_9) (fun _ h9 => h9) rfl dX3_become_66 ?_
  refine lv_iconst (v := 0) hx hb dX3_become_69 (by decide) ?_
  refine lv_bipush (v := 8) hx hb dX3_become_70 (by decide) ?_
  refine va_copyi hx hb (hml.trans hl.1.symm) hown (hts _ k_X3_become_2) (hts _ k_X3_become_3) (hts _ k_X3_become_4) (hts _ k_X3_become_5) hK hP hD hS 11 5 0 0 rfl rfl rfl rfl rfl (by decide) (by decide) (by decide) (by decide) (by decide) (fun _ _ => rfl) (Nat.le_of_ble_eq_true rfl) (Nat.le_of_ble_eq_true rfl) dX3_become_72 (fun H locs hP hD hS => ?_)
  have hP : va_P G vwCl [(a_t, .inr (3, [.ref a_t_water, .ref a_t_need, .ref a_t_dew, .ref a_t_drops, .ref a_t_song, .int f_t_terraces, .int f_t_days, .int f_t_law, .int f_t_slip, .int f_t_songLength])), (a_t_water, .inl (ca 0, 6, .inl (va_cpy c_p1_water c_t_water 0 0 6))), (a_t_need, .inl (ca 0, 6, .inl (va_cpy c_p1_need c_t_need 0 0 6))), (a_t_dew, .inl (ca 0, 6, .inl (va_cpy c_p1_dew c_t_dew 0 0 6))), (a_t_drops, .inl (ca 0, 20, .inl (va_cpy c_p1_drops c_t_drops 0 0 20))), (a_t_song, .inl (ca 0, 8, .inl (va_cpy c_p1_song c_t_song 0 0 8))), (a_p1, .inr (3, [.ref a_p1_water, .ref a_p1_need, .ref a_p1_dew, .ref a_p1_drops, .ref a_p1_song, .int f_p1_terraces, .int f_p1_days, .int f_p1_law, .int f_p1_slip, .int f_p1_songLength])), (a_p1_water, .inl (ca 0, 6, .inl c_p1_water)), (a_p1_need, .inl (ca 0, 6, .inl c_p1_need)), (a_p1_dew, .inl (ca 0, 6, .inl c_p1_dew)), (a_p1_drops, .inl (ca 0, 20, .inl c_p1_drops)), (a_p1_song, .inl (ca 0, 8, .inl c_p1_song))] H := hP
  have hD : va_D A [(a_t, .inr (3, [.ref a_t_water, .ref a_t_need, .ref a_t_dew, .ref a_t_drops, .ref a_t_song, .int f_t_terraces, .int f_t_days, .int f_t_law, .int f_t_slip, .int f_t_songLength])), (a_t_water, .inl (ca 0, 6, .inl (va_cpy c_p1_water c_t_water 0 0 6))), (a_t_need, .inl (ca 0, 6, .inl (va_cpy c_p1_need c_t_need 0 0 6))), (a_t_dew, .inl (ca 0, 6, .inl (va_cpy c_p1_dew c_t_dew 0 0 6))), (a_t_drops, .inl (ca 0, 20, .inl (va_cpy c_p1_drops c_t_drops 0 0 20))), (a_t_song, .inl (ca 0, 8, .inl (va_cpy c_p1_song c_t_song 0 0 8))), (a_p1, .inr (3, [.ref a_p1_water, .ref a_p1_need, .ref a_p1_dew, .ref a_p1_drops, .ref a_p1_song, .int f_p1_terraces, .int f_p1_days, .int f_p1_law, .int f_p1_slip, .int f_p1_songLength])), (a_p1_water, .inl (ca 0, 6, .inl c_p1_water)), (a_p1_need, .inl (ca 0, 6, .inl c_p1_need)), (a_p1_dew, .inl (ca 0, 6, .inl c_p1_dew)), (a_p1_drops, .inl (ca 0, 20, .inl c_p1_drops)), (a_p1_song, .inl (ca 0, 8, .inl c_p1_song))] := hD
  refine lv_aload_n hx hb dX3_become_75 rfl (lv_at hl 0 rfl) ?_
  refine lv_aload_n hx hb dX3_become_76 rfl (lv_at hl 1 rfl) ?_
  refine va_get (D := G) (ci := 3) (v := .int f_p1_terraces) (C := RX3) (T := TX3) (N := 10) hx hb hts i_X3_become_X3 hown hK hP 6 rfl rfl 5 (by decide) (hts _ k_X3_become_10) (fun _ h9 => h9) rfl dX3_become_77 ?_
  refine va_put (D := G) (ci := 3) (v := .int f_p1_terraces) (ty := .int) (C := RX3) (T := TX3) (N := 10) hx hb hts i_X3_become_X3 tyX3 tyX3_ok nmX3 hown hK hP hD hS 0 rfl rfl 5 (by decide) (hts _ k_X3_become_10) (fun _ h9 => h9) rfl (by decide +kernel) rfl rfl (Nat.le_of_ble_eq_true rfl) dX3_become_80 (fun H locs hP hD hS => ?_)
  have hP : va_P G vwCl [(a_t, .inr (3, [.ref a_t_water, .ref a_t_need, .ref a_t_dew, .ref a_t_drops, .ref a_t_song, .int f_p1_terraces, .int f_t_days, .int f_t_law, .int f_t_slip, .int f_t_songLength])), (a_t_water, .inl (ca 0, 6, .inl (va_cpy c_p1_water c_t_water 0 0 6))), (a_t_need, .inl (ca 0, 6, .inl (va_cpy c_p1_need c_t_need 0 0 6))), (a_t_dew, .inl (ca 0, 6, .inl (va_cpy c_p1_dew c_t_dew 0 0 6))), (a_t_drops, .inl (ca 0, 20, .inl (va_cpy c_p1_drops c_t_drops 0 0 20))), (a_t_song, .inl (ca 0, 8, .inl (va_cpy c_p1_song c_t_song 0 0 8))), (a_p1, .inr (3, [.ref a_p1_water, .ref a_p1_need, .ref a_p1_dew, .ref a_p1_drops, .ref a_p1_song, .int f_p1_terraces, .int f_p1_days, .int f_p1_law, .int f_p1_slip, .int f_p1_songLength])), (a_p1_water, .inl (ca 0, 6, .inl c_p1_water)), (a_p1_need, .inl (ca 0, 6, .inl c_p1_need)), (a_p1_dew, .inl (ca 0, 6, .inl c_p1_dew)), (a_p1_drops, .inl (ca 0, 20, .inl c_p1_drops)), (a_p1_song, .inl (ca 0, 8, .inl c_p1_song))] H := hP
  have hD : va_D A [(a_t, .inr (3, [.ref a_t_water, .ref a_t_need, .ref a_t_dew, .ref a_t_drops, .ref a_t_song, .int f_p1_terraces, .int f_t_days, .int f_t_law, .int f_t_slip, .int f_t_songLength])), (a_t_water, .inl (ca 0, 6, .inl (va_cpy c_p1_water c_t_water 0 0 6))), (a_t_need, .inl (ca 0, 6, .inl (va_cpy c_p1_need c_t_need 0 0 6))), (a_t_dew, .inl (ca 0, 6, .inl (va_cpy c_p1_dew c_t_dew 0 0 6))), (a_t_drops, .inl (ca 0, 20, .inl (va_cpy c_p1_drops c_t_drops 0 0 20))), (a_t_song, .inl (ca 0, 8, .inl (va_cpy c_p1_song c_t_song 0 0 8))), (a_p1, .inr (3, [.ref a_p1_water, .ref a_p1_need, .ref a_p1_dew, .ref a_p1_drops, .ref a_p1_song, .int f_p1_terraces, .int f_p1_days, .int f_p1_law, .int f_p1_slip, .int f_p1_songLength])), (a_p1_water, .inl (ca 0, 6, .inl c_p1_water)), (a_p1_need, .inl (ca 0, 6, .inl c_p1_need)), (a_p1_dew, .inl (ca 0, 6, .inl c_p1_dew)), (a_p1_drops, .inl (ca 0, 20, .inl c_p1_drops)), (a_p1_song, .inl (ca 0, 8, .inl c_p1_song))] := hD
  refine lv_aload_n hx hb dX3_become_83 rfl (lv_at hl 0 rfl) ?_
  refine lv_aload_n hx hb dX3_become_84 rfl (lv_at hl 1 rfl) ?_
  refine va_get (D := G) (ci := 3) (v := .int f_p1_days) (C := RX3) (T := TX3) (N := 10) hx hb hts i_X3_become_X3 hown hK hP 6 rfl rfl 6 (by decide) (hts _ k_X3_become_11) (fun _ h9 => h9) rfl dX3_become_85 ?_
  refine va_put (D := G) (ci := 3) (v := .int f_p1_days) (ty := .int) (C := RX3) (T := TX3) (N := 10) hx hb hts i_X3_become_X3 tyX3 tyX3_ok nmX3 hown hK hP hD hS 0 rfl rfl 6 (by decide) (hts _ k_X3_become_11) (fun _ h9 => h9) rfl (by decide +kernel) rfl rfl (Nat.le_of_ble_eq_true rfl) dX3_become_88 (fun H locs hP hD hS => ?_)
  have hP : va_P G vwCl [(a_t, .inr (3, [.ref a_t_water, .ref a_t_need, .ref a_t_dew, .ref a_t_drops, .ref a_t_song, .int f_p1_terraces, .int f_p1_days, .int f_t_law, .int f_t_slip, .int f_t_songLength])), (a_t_water, .inl (ca 0, 6, .inl (va_cpy c_p1_water c_t_water 0 0 6))), (a_t_need, .inl (ca 0, 6, .inl (va_cpy c_p1_need c_t_need 0 0 6))), (a_t_dew, .inl (ca 0, 6, .inl (va_cpy c_p1_dew c_t_dew 0 0 6))), (a_t_drops, .inl (ca 0, 20, .inl (va_cpy c_p1_drops c_t_drops 0 0 20))), (a_t_song, .inl (ca 0, 8, .inl (va_cpy c_p1_song c_t_song 0 0 8))), (a_p1, .inr (3, [.ref a_p1_water, .ref a_p1_need, .ref a_p1_dew, .ref a_p1_drops, .ref a_p1_song, .int f_p1_terraces, .int f_p1_days, .int f_p1_law, .int f_p1_slip, .int f_p1_songLength])), (a_p1_water, .inl (ca 0, 6, .inl c_p1_water)), (a_p1_need, .inl (ca 0, 6, .inl c_p1_need)), (a_p1_dew, .inl (ca 0, 6, .inl c_p1_dew)), (a_p1_drops, .inl (ca 0, 20, .inl c_p1_drops)), (a_p1_song, .inl (ca 0, 8, .inl c_p1_song))] H := hP
  have hD : va_D A [(a_t, .inr (3, [.ref a_t_water, .ref a_t_need, .ref a_t_dew, .ref a_t_drops, .ref a_t_song, .int f_p1_terraces, .int f_p1_days, .int f_t_law, .int f_t_slip, .int f_t_songLength])), (a_t_water, .inl (ca 0, 6, .inl (va_cpy c_p1_water c_t_water 0 0 6))), (a_t_need, .inl (ca 0, 6, .inl (va_cpy c_p1_need c_t_need 0 0 6))), (a_t_dew, .inl (ca 0, 6, .inl (va_cpy c_p1_dew c_t_dew 0 0 6))), (a_t_drops, .inl (ca 0, 20, .inl (va_cpy c_p1_drops c_t_drops 0 0 20))), (a_t_song, .inl (ca 0, 8, .inl (va_cpy c_p1_song c_t_song 0 0 8))), (a_p1, .inr (3, [.ref a_p1_water, .ref a_p1_need, .ref a_p1_dew, .ref a_p1_drops, .ref a_p1_song, .int f_p1_terraces, .int f_p1_days, .int f_p1_law, .int f_p1_slip, .int f_p1_songLength])), (a_p1_water, .inl (ca 0, 6, .inl c_p1_water)), (a_p1_need, .inl (ca 0, 6, .inl c_p1_need)), (a_p1_dew, .inl (ca 0, 6, .inl c_p1_dew)), (a_p1_drops, .inl (ca 0, 20, .inl c_p1_drops)), (a_p1_song, .inl (ca 0, 8, .inl c_p1_song))] := hD
  refine lv_aload_n hx hb dX3_become_91 rfl (lv_at hl 0 rfl) ?_
  refine lv_aload_n hx hb dX3_become_92 rfl (lv_at hl 1 rfl) ?_
  refine va_get (D := G) (ci := 3) (v := .int f_p1_law) (C := RX3) (T := TX3) (N := 10) hx hb hts i_X3_become_X3 hown hK hP 6 rfl rfl 7 (by decide) (hts _ k_X3_become_12) (fun _ h9 => h9) rfl dX3_become_93 ?_
  refine va_put (D := G) (ci := 3) (v := .int f_p1_law) (ty := .int) (C := RX3) (T := TX3) (N := 10) hx hb hts i_X3_become_X3 tyX3 tyX3_ok nmX3 hown hK hP hD hS 0 rfl rfl 7 (by decide) (hts _ k_X3_become_12) (fun _ h9 => h9) rfl (by decide +kernel) rfl rfl (Nat.le_of_ble_eq_true rfl) dX3_become_96 (fun H locs hP hD hS => ?_)
  have hP : va_P G vwCl [(a_t, .inr (3, [.ref a_t_water, .ref a_t_need, .ref a_t_dew, .ref a_t_drops, .ref a_t_song, .int f_p1_terraces, .int f_p1_days, .int f_p1_law, .int f_t_slip, .int f_t_songLength])), (a_t_water, .inl (ca 0, 6, .inl (va_cpy c_p1_water c_t_water 0 0 6))), (a_t_need, .inl (ca 0, 6, .inl (va_cpy c_p1_need c_t_need 0 0 6))), (a_t_dew, .inl (ca 0, 6, .inl (va_cpy c_p1_dew c_t_dew 0 0 6))), (a_t_drops, .inl (ca 0, 20, .inl (va_cpy c_p1_drops c_t_drops 0 0 20))), (a_t_song, .inl (ca 0, 8, .inl (va_cpy c_p1_song c_t_song 0 0 8))), (a_p1, .inr (3, [.ref a_p1_water, .ref a_p1_need, .ref a_p1_dew, .ref a_p1_drops, .ref a_p1_song, .int f_p1_terraces, .int f_p1_days, .int f_p1_law, .int f_p1_slip, .int f_p1_songLength])), (a_p1_water, .inl (ca 0, 6, .inl c_p1_water)), (a_p1_need, .inl (ca 0, 6, .inl c_p1_need)), (a_p1_dew, .inl (ca 0, 6, .inl c_p1_dew)), (a_p1_drops, .inl (ca 0, 20, .inl c_p1_drops)), (a_p1_song, .inl (ca 0, 8, .inl c_p1_song))] H := hP
  have hD : va_D A [(a_t, .inr (3, [.ref a_t_water, .ref a_t_need, .ref a_t_dew, .ref a_t_drops, .ref a_t_song, .int f_p1_terraces, .int f_p1_days, .int f_p1_law, .int f_t_slip, .int f_t_songLength])), (a_t_water, .inl (ca 0, 6, .inl (va_cpy c_p1_water c_t_water 0 0 6))), (a_t_need, .inl (ca 0, 6, .inl (va_cpy c_p1_need c_t_need 0 0 6))), (a_t_dew, .inl (ca 0, 6, .inl (va_cpy c_p1_dew c_t_dew 0 0 6))), (a_t_drops, .inl (ca 0, 20, .inl (va_cpy c_p1_drops c_t_drops 0 0 20))), (a_t_song, .inl (ca 0, 8, .inl (va_cpy c_p1_song c_t_song 0 0 8))), (a_p1, .inr (3, [.ref a_p1_water, .ref a_p1_need, .ref a_p1_dew, .ref a_p1_drops, .ref a_p1_song, .int f_p1_terraces, .int f_p1_days, .int f_p1_law, .int f_p1_slip, .int f_p1_songLength])), (a_p1_water, .inl (ca 0, 6, .inl c_p1_water)), (a_p1_need, .inl (ca 0, 6, .inl c_p1_need)), (a_p1_dew, .inl (ca 0, 6, .inl c_p1_dew)), (a_p1_drops, .inl (ca 0, 20, .inl c_p1_drops)), (a_p1_song, .inl (ca 0, 8, .inl c_p1_song))] := hD
  refine lv_aload_n hx hb dX3_become_99 rfl (lv_at hl 0 rfl) ?_
  refine lv_aload_n hx hb dX3_become_100 rfl (lv_at hl 1 rfl) ?_
  refine va_get (D := G) (ci := 3) (v := .int f_p1_slip) (C := RX3) (T := TX3) (N := 10) hx hb hts i_X3_become_X3 hown hK hP 6 rfl rfl 8 (by decide) (hts _ k_X3_become_13) (fun _ h9 => h9) rfl dX3_become_101 ?_
  refine va_put (D := G) (ci := 3) (v := .int f_p1_slip) (ty := .int) (C := RX3) (T := TX3) (N := 10) hx hb hts i_X3_become_X3 tyX3 tyX3_ok nmX3 hown hK hP hD hS 0 rfl rfl 8 (by decide) (hts _ k_X3_become_13) (fun _ h9 => h9) rfl (by decide +kernel) rfl rfl (Nat.le_of_ble_eq_true rfl) dX3_become_104 (fun H locs hP hD hS => ?_)
  have hP : va_P G vwCl [(a_t, .inr (3, [.ref a_t_water, .ref a_t_need, .ref a_t_dew, .ref a_t_drops, .ref a_t_song, .int f_p1_terraces, .int f_p1_days, .int f_p1_law, .int f_p1_slip, .int f_t_songLength])), (a_t_water, .inl (ca 0, 6, .inl (va_cpy c_p1_water c_t_water 0 0 6))), (a_t_need, .inl (ca 0, 6, .inl (va_cpy c_p1_need c_t_need 0 0 6))), (a_t_dew, .inl (ca 0, 6, .inl (va_cpy c_p1_dew c_t_dew 0 0 6))), (a_t_drops, .inl (ca 0, 20, .inl (va_cpy c_p1_drops c_t_drops 0 0 20))), (a_t_song, .inl (ca 0, 8, .inl (va_cpy c_p1_song c_t_song 0 0 8))), (a_p1, .inr (3, [.ref a_p1_water, .ref a_p1_need, .ref a_p1_dew, .ref a_p1_drops, .ref a_p1_song, .int f_p1_terraces, .int f_p1_days, .int f_p1_law, .int f_p1_slip, .int f_p1_songLength])), (a_p1_water, .inl (ca 0, 6, .inl c_p1_water)), (a_p1_need, .inl (ca 0, 6, .inl c_p1_need)), (a_p1_dew, .inl (ca 0, 6, .inl c_p1_dew)), (a_p1_drops, .inl (ca 0, 20, .inl c_p1_drops)), (a_p1_song, .inl (ca 0, 8, .inl c_p1_song))] H := hP
  have hD : va_D A [(a_t, .inr (3, [.ref a_t_water, .ref a_t_need, .ref a_t_dew, .ref a_t_drops, .ref a_t_song, .int f_p1_terraces, .int f_p1_days, .int f_p1_law, .int f_p1_slip, .int f_t_songLength])), (a_t_water, .inl (ca 0, 6, .inl (va_cpy c_p1_water c_t_water 0 0 6))), (a_t_need, .inl (ca 0, 6, .inl (va_cpy c_p1_need c_t_need 0 0 6))), (a_t_dew, .inl (ca 0, 6, .inl (va_cpy c_p1_dew c_t_dew 0 0 6))), (a_t_drops, .inl (ca 0, 20, .inl (va_cpy c_p1_drops c_t_drops 0 0 20))), (a_t_song, .inl (ca 0, 8, .inl (va_cpy c_p1_song c_t_song 0 0 8))), (a_p1, .inr (3, [.ref a_p1_water, .ref a_p1_need, .ref a_p1_dew, .ref a_p1_drops, .ref a_p1_song, .int f_p1_terraces, .int f_p1_days, .int f_p1_law, .int f_p1_slip, .int f_p1_songLength])), (a_p1_water, .inl (ca 0, 6, .inl c_p1_water)), (a_p1_need, .inl (ca 0, 6, .inl c_p1_need)), (a_p1_dew, .inl (ca 0, 6, .inl c_p1_dew)), (a_p1_drops, .inl (ca 0, 20, .inl c_p1_drops)), (a_p1_song, .inl (ca 0, 8, .inl c_p1_song))] := hD
  refine lv_aload_n hx hb dX3_become_107 rfl (lv_at hl 0 rfl) ?_
  refine lv_aload_n hx hb dX3_become_108 rfl (lv_at hl 1 rfl) ?_
  refine va_get (D := G) (ci := 3) (v := .int f_p1_songLength) (C := RX3) (T := TX3) (N := 10) hx hb hts i_X3_become_X3 hown hK hP 6 rfl rfl 9 (by decide) (hts _ k_X3_become_14) (fun _ h9 => h9) rfl dX3_become_109 ?_
  refine va_put (D := G) (ci := 3) (v := .int f_p1_songLength) (ty := .int) (C := RX3) (T := TX3) (N := 10) hx hb hts i_X3_become_X3 tyX3 tyX3_ok nmX3 hown hK hP hD hS 0 rfl rfl 9 (by decide) (hts _ k_X3_become_14) (fun _ h9 => h9) rfl (by decide +kernel) rfl rfl (Nat.le_of_ble_eq_true rfl) dX3_become_112 (fun H locs hP hD hS => ?_)
  have hP : va_P G vwCl [(a_t, .inr (3, [.ref a_t_water, .ref a_t_need, .ref a_t_dew, .ref a_t_drops, .ref a_t_song, .int f_p1_terraces, .int f_p1_days, .int f_p1_law, .int f_p1_slip, .int f_p1_songLength])), (a_t_water, .inl (ca 0, 6, .inl (va_cpy c_p1_water c_t_water 0 0 6))), (a_t_need, .inl (ca 0, 6, .inl (va_cpy c_p1_need c_t_need 0 0 6))), (a_t_dew, .inl (ca 0, 6, .inl (va_cpy c_p1_dew c_t_dew 0 0 6))), (a_t_drops, .inl (ca 0, 20, .inl (va_cpy c_p1_drops c_t_drops 0 0 20))), (a_t_song, .inl (ca 0, 8, .inl (va_cpy c_p1_song c_t_song 0 0 8))), (a_p1, .inr (3, [.ref a_p1_water, .ref a_p1_need, .ref a_p1_dew, .ref a_p1_drops, .ref a_p1_song, .int f_p1_terraces, .int f_p1_days, .int f_p1_law, .int f_p1_slip, .int f_p1_songLength])), (a_p1_water, .inl (ca 0, 6, .inl c_p1_water)), (a_p1_need, .inl (ca 0, 6, .inl c_p1_need)), (a_p1_dew, .inl (ca 0, 6, .inl c_p1_dew)), (a_p1_drops, .inl (ca 0, 20, .inl c_p1_drops)), (a_p1_song, .inl (ca 0, 8, .inl c_p1_song))] H := hP
  have hD : va_D A [(a_t, .inr (3, [.ref a_t_water, .ref a_t_need, .ref a_t_dew, .ref a_t_drops, .ref a_t_song, .int f_p1_terraces, .int f_p1_days, .int f_p1_law, .int f_p1_slip, .int f_p1_songLength])), (a_t_water, .inl (ca 0, 6, .inl (va_cpy c_p1_water c_t_water 0 0 6))), (a_t_need, .inl (ca 0, 6, .inl (va_cpy c_p1_need c_t_need 0 0 6))), (a_t_dew, .inl (ca 0, 6, .inl (va_cpy c_p1_dew c_t_dew 0 0 6))), (a_t_drops, .inl (ca 0, 20, .inl (va_cpy c_p1_drops c_t_drops 0 0 20))), (a_t_song, .inl (ca 0, 8, .inl (va_cpy c_p1_song c_t_song 0 0 8))), (a_p1, .inr (3, [.ref a_p1_water, .ref a_p1_need, .ref a_p1_dew, .ref a_p1_drops, .ref a_p1_song, .int f_p1_terraces, .int f_p1_days, .int f_p1_law, .int f_p1_slip, .int f_p1_songLength])), (a_p1_water, .inl (ca 0, 6, .inl c_p1_water)), (a_p1_need, .inl (ca 0, 6, .inl c_p1_need)), (a_p1_dew, .inl (ca 0, 6, .inl c_p1_dew)), (a_p1_drops, .inl (ca 0, 20, .inl c_p1_drops)), (a_p1_song, .inl (ca 0, 8, .inl c_p1_song))] := hD
  have h := sm_i h
  subst h
  exact W.vret hx hb hr (fun t ht hW => ⟨⟨(), rfl, trivial, by rw [ht]; exact hP, hD⟩, hS.F ht⟩) hS.2.2 dX3_become_115
set_option maxHeartbeats 4000000 in
set_option maxRecDepth 100000 in
theorem c_X3_become (l : Launch) (G : va_G) (ca : Nat → ClassId) (ad av : Nat → Nat) (sz : Nat) (a_t : Nat) (a_t_water : Nat) (a_t_need : Nat) (a_t_dew : Nat) (a_t_drops : Nat) (a_t_song : Nat) (a_p1 : Nat) (a_p1_water : Nat) (a_p1_need : Nat) (a_p1_dew : Nat) (a_p1_drops : Nat) (a_p1_song : Nat)  (c_p1_water : Nat → Int32) (c_p1_need : Nat → Int32) (c_p1_dew : Nat → Int32) (c_p1_drops : Nat → Int32) (c_p1_song : Nat → Int32) (f_p1_terraces : Int32) (f_p1_days : Int32) (f_p1_law : Int32) (f_p1_slip : Int32) (f_p1_songLength : Int32) (c_t_water : Nat → Int32) (c_t_need : Nat → Int32) (c_t_dew : Nat → Int32) (c_t_drops : Nat → Int32) (c_t_song : Nat → Int32) (f_t_terraces : Int32) (f_t_days : Int32) (f_t_law : Int32) (f_t_slip : Int32) (f_t_songLength : Int32) (res : (Nat → Int32) × (Nat → Int32) × (Nat → Int32) × (Nat → Int32) × (Nat → Int32) × Int32 × Int32 × Int32 × Int32 × Int32) (h : F_X3_become c_p1_water c_p1_need c_p1_dew c_p1_drops c_p1_song f_p1_terraces f_p1_days f_p1_law f_p1_slip f_p1_songLength c_t_water c_t_need c_t_dew c_t_drops c_t_song f_t_terraces f_t_days f_t_law f_t_slip f_t_songLength = some res) : Met l yX3_become wsX3_become RM_X3_become (va_Pc [.ref a_t, .ref a_p1] (PW_ G ca ad av sz [(a_t, .inr (3, [.ref a_t_water, .ref a_t_need, .ref a_t_dew, .ref a_t_drops, .ref a_t_song, .int f_t_terraces, .int f_t_days, .int f_t_law, .int f_t_slip, .int f_t_songLength])), (a_t_water, .inl (ca 0, 6, .inl c_t_water)), (a_t_need, .inl (ca 0, 6, .inl c_t_need)), (a_t_dew, .inl (ca 0, 6, .inl c_t_dew)), (a_t_drops, .inl (ca 0, 20, .inl c_t_drops)), (a_t_song, .inl (ca 0, 8, .inl c_t_song)), (a_p1, .inr (3, [.ref a_p1_water, .ref a_p1_need, .ref a_p1_dew, .ref a_p1_drops, .ref a_p1_song, .int f_p1_terraces, .int f_p1_days, .int f_p1_law, .int f_p1_slip, .int f_p1_songLength])), (a_p1_water, .inl (ca 0, 6, .inl c_p1_water)), (a_p1_need, .inl (ca 0, 6, .inl c_p1_need)), (a_p1_dew, .inl (ca 0, 6, .inl c_p1_dew)), (a_p1_drops, .inl (ca 0, 20, .inl c_p1_drops)), (a_p1_song, .inl (ca 0, 8, .inl c_p1_song))])) (QV_ G (va_A [(a_t, .inr (3, [.ref a_t_water, .ref a_t_need, .ref a_t_dew, .ref a_t_drops, .ref a_t_song, .int f_t_terraces, .int f_t_days, .int f_t_law, .int f_t_slip, .int f_t_songLength])), (a_t_water, .inl (ca 0, 6, .inl c_t_water)), (a_t_need, .inl (ca 0, 6, .inl c_t_need)), (a_t_dew, .inl (ca 0, 6, .inl c_t_dew)), (a_t_drops, .inl (ca 0, 20, .inl c_t_drops)), (a_t_song, .inl (ca 0, 8, .inl c_t_song)), (a_p1, .inr (3, [.ref a_p1_water, .ref a_p1_need, .ref a_p1_dew, .ref a_p1_drops, .ref a_p1_song, .int f_p1_terraces, .int f_p1_days, .int f_p1_law, .int f_p1_slip, .int f_p1_songLength])), (a_p1_water, .inl (ca 0, 6, .inl c_p1_water)), (a_p1_need, .inl (ca 0, 6, .inl c_p1_need)), (a_p1_dew, .inl (ca 0, 6, .inl c_p1_dew)), (a_p1_drops, .inl (ca 0, 20, .inl c_p1_drops)), (a_p1_song, .inl (ca 0, 8, .inl c_p1_song))] sz) [(a_t, .inr (3, [.ref a_t_water, .ref a_t_need, .ref a_t_dew, .ref a_t_drops, .ref a_t_song, .int res.2.2.2.2.2.1, .int res.2.2.2.2.2.2.1, .int res.2.2.2.2.2.2.2.1, .int res.2.2.2.2.2.2.2.2.1, .int res.2.2.2.2.2.2.2.2.2])), (a_t_water, .inl (ca 0, 6, .inl res.1)), (a_t_need, .inl (ca 0, 6, .inl res.2.1)), (a_t_dew, .inl (ca 0, 6, .inl res.2.2.1)), (a_t_drops, .inl (ca 0, 20, .inl res.2.2.2.1)), (a_t_song, .inl (ca 0, 8, .inl res.2.2.2.2.1)), (a_p1, .inr (3, [.ref a_p1_water, .ref a_p1_need, .ref a_p1_dew, .ref a_p1_drops, .ref a_p1_song, .int f_p1_terraces, .int f_p1_days, .int f_p1_law, .int f_p1_slip, .int f_p1_songLength])), (a_p1_water, .inl (ca 0, 6, .inl c_p1_water)), (a_p1_need, .inl (ca 0, 6, .inl c_p1_need)), (a_p1_dew, .inl (ca 0, 6, .inl c_p1_dew)), (a_p1_drops, .inl (ca 0, 20, .inl c_p1_drops)), (a_p1_song, .inl (ca 0, 8, .inl c_p1_song))]) 0 0 (va_A [(a_t, .inr (3, [.ref a_t_water, .ref a_t_need, .ref a_t_dew, .ref a_t_drops, .ref a_t_song, .int f_t_terraces, .int f_t_days, .int f_t_law, .int f_t_slip, .int f_t_songLength])), (a_t_water, .inl (ca 0, 6, .inl c_t_water)), (a_t_need, .inl (ca 0, 6, .inl c_t_need)), (a_t_dew, .inl (ca 0, 6, .inl c_t_dew)), (a_t_drops, .inl (ca 0, 20, .inl c_t_drops)), (a_t_song, .inl (ca 0, 8, .inl c_t_song)), (a_p1, .inr (3, [.ref a_p1_water, .ref a_p1_need, .ref a_p1_dew, .ref a_p1_drops, .ref a_p1_song, .int f_p1_terraces, .int f_p1_days, .int f_p1_law, .int f_p1_slip, .int f_p1_songLength])), (a_p1_water, .inl (ca 0, 6, .inl c_p1_water)), (a_p1_need, .inl (ca 0, 6, .inl c_p1_need)), (a_p1_dew, .inl (ca 0, 6, .inl c_p1_dew)), (a_p1_drops, .inl (ca 0, 20, .inl c_p1_drops)), (a_p1_song, .inl (ca 0, 8, .inl c_p1_song))] sz) := by
  refine Met.ofW (cc := cX3_become) (maxL := 2) (ret := none) (by decide) rfl ?_
  intro p e s m args below meth c s₁ B hml hv
  obtain ⟨X0, rfl, rfl, hP, hD⟩ := en_t B hml hv
  have hl := lv_entry ([.ref a_t, .ref a_p1]) (n := 2) (Nat.le_of_ble_eq_true rfl)
  rw [lg_entry_eq]
  generalize (lg_sl ([.ref a_t, .ref a_p1]) ++ List.replicate (2 - (lg_sl ([.ref a_t, .ref a_p1])).length) Slot.unset).toArray = ls at hl ⊢
  exact w_X3_become_0 X0 a_t a_t_water a_t_need a_t_dew a_t_drops a_t_song a_p1 a_p1_water a_p1_need a_p1_dew a_p1_drops a_p1_song  c_p1_water c_p1_need c_p1_dew c_p1_drops c_p1_song f_p1_terraces f_p1_days f_p1_law f_p1_slip f_p1_songLength _ c_t_water c_t_need c_t_dew c_t_drops c_t_song f_t_terraces f_t_days f_t_law f_t_slip f_t_songLength h s.heap [] hP hD va_S.rf ls hl

/-! X3_dropsOn -/
abbrev RM_X3_dropsOn : Room := { frames := 0, cells := 0, slots := 0, locals := 0 }
theorem k_X3_dropsOn_0 : Cond.fieldLink RX3 37 "DropDealers$Hill" "days" "I" ∈ wsX3_dropsOn := by decide +kernel
theorem i_X3_dropsOn_X3 : ∀ w ∈ u_ws RX3 TX3 10, w ∈ wsX3_dropsOn := by decide +kernel
theorem k_X3_dropsOn_2 : Cond.fieldLink RX3 21 "DropDealers$Hill" "drops" "[I" ∈ wsX3_dropsOn := by decide +kernel
def F_X3_dropsOn (c_t_drops : Nat → Int32) (f_t_days : Int32) (x1 : Int32) : Option (Int32) := if x1 < 0 then (some ((0 : Int32))) else (if f_t_days ≤ x1 then (some ((0 : Int32))) else (if ok_I x1 20 = true then some ((c_t_drops x1.toNatClampNeg)) else none))
set_option maxHeartbeats 4000000 in
set_option maxRecDepth 100000 in
theorem w_X3_dropsOn_0 {p : Program} {l : Launch} {e : Env} {s : State} {m : MethodId} {args : Array Value} {below : List Frame} {meth : Method} {c : Code} {G : va_G} {ca : Nat → ClassId} {ad av : Nat → Nat} {A : Nat → Prop} (X0 : CX_ p s m args meth c cX3_dropsOn 2 (some .int) wsX3_dropsOn RX3 G ca ad av A) (a_t : Nat) (a_t_drops : Nat) (a_t_water : Nat) (a_t_need : Nat) (a_t_dew : Nat) (a_t_song : Nat) (f_t_terraces : Int32) (f_t_law : Int32) (f_t_slip : Int32) (f_t_songLength : Int32) (c_t_drops : Nat → Int32) (f_t_days : Int32) (res : Int32) (x1 : Int32) (h : F_X3_dropsOn c_t_drops f_t_days x1 = some res) : ∀ (H : Heap) (locs : List Loc), va_P G vwCl [(a_t, .inr (3, [.ref a_t_water, .ref a_t_need, .ref a_t_dew, .ref a_t_drops, .ref a_t_song, .int f_t_terraces, .int f_t_days, .int f_t_law, .int f_t_slip, .int f_t_songLength])), (a_t_drops, .inl (ca 0, 20, .inl c_t_drops))] H → va_D A [(a_t, .inr (3, [.ref a_t_water, .ref a_t_need, .ref a_t_dew, .ref a_t_drops, .ref a_t_song, .int f_t_terraces, .int f_t_days, .int f_t_law, .int f_t_slip, .int f_t_songLength])), (a_t_drops, .inl (ca 0, 20, .inl c_t_drops))] → va_S A s.heap H locs → ∀ (ls : Array Slot), lv_has ls 2 [(0, .ref a_t), (1, .int x1)] → W p l e RM_X3_dropsOn s m args below meth c H locs 0 0 (MQ below (QI_ G A res [(a_t, .inr (3, [.ref a_t_water, .ref a_t_need, .ref a_t_dew, .ref a_t_drops, .ref a_t_song, .int f_t_terraces, .int f_t_days, .int f_t_law, .int f_t_slip, .int f_t_songLength])), (a_t_drops, .inl (ca 0, 20, .inl c_t_drops))]) args s 0 0 A) (F0 m 0 ls []) := by
  obtain ⟨hx, hb, hr, hml, hown, hts, hlocks, hK, hA, hE⟩ := id X0
  intro H locs hP hD hS ls hl
  unfold F_X3_dropsOn at h
  refine lv_iload_n hx hb dX3_dropsOn_0 rfl (lv_at hl 1 rfl) ?_
  refine lv_if_lt (tgt := 21) hx hb dX3_dropsOn_1 (by decide) (fun b1 => ?_) (fun b1 => ?_)
  · have h := (if_pos b1).symm.trans h
    refine lv_iconst (v := 0) hx hb dX3_dropsOn_21 (by decide) ?_
    have h := sm_i h
    subst h
    exact W.iret (v := (0 : Int32)) hx hb hr (fun t ht hW => ⟨⟨(0 : Int32), (), rfl, rfl, by rw [ht]; exact hP, hD⟩, hS.F ht⟩) hS.2.2 dX3_dropsOn_22
  · have h := (if_neg b1).symm.trans h
    refine lv_iload_n hx hb dX3_dropsOn_4 rfl (lv_at hl 1 rfl) ?_
    refine lv_aload_n hx hb dX3_dropsOn_5 rfl (lv_at hl 0 rfl) ?_
    refine va_get (D := G) (ci := 3) (v := .int f_t_days) (C := RX3) (T := TX3) (N := 10) hx hb hts i_X3_dropsOn_X3 hown hK hP 0 rfl rfl 6 (by decide) (hts _ k_X3_dropsOn_0) (fun _ h9 => h9) rfl dX3_dropsOn_6 ?_
    refine lv_icmp_ge (tgt := 21) hx hb dX3_dropsOn_9 (by decide) (fun b2 => ?_) (fun b2 => ?_)
    · have h := (if_pos b2).symm.trans h
      refine lv_iconst (v := 0) hx hb dX3_dropsOn_21 (by decide) ?_
      have h := sm_i h
      subst h
      exact W.iret (v := (0 : Int32)) hx hb hr (fun t ht hW => ⟨⟨(0 : Int32), (), rfl, rfl, by rw [ht]; exact hP, hD⟩, hS.F ht⟩) hS.2.2 dX3_dropsOn_22
    · have h := (if_neg b2).symm.trans h
      refine lv_aload_n hx hb dX3_dropsOn_12 rfl (lv_at hl 0 rfl) ?_
      refine va_get (D := G) (ci := 3) (v := .ref a_t_drops) (C := RX3) (T := TX3) (N := 10) hx hb hts i_X3_dropsOn_X3 hown hK hP 0 rfl rfl 3 (by decide) (hts _ k_X3_dropsOn_2) (fun _ h9 => h9) rfl dX3_dropsOn_13 ?_
      refine lv_iload_n hx hb dX3_dropsOn_16 rfl (lv_at hl 1 rfl) ?_
      obtain ⟨g3, h⟩ := gd_t h
      refine va_iald hx hb hK hP 1 0 rfl rfl (ok_in g3) dX3_dropsOn_17 ?_
      refine lv_goto (tgt := 22) hx hb dX3_dropsOn_18 (by decide) ?_
      have h := sm_i h
      subst h
      exact W.iret (v := (c_t_drops x1.toNatClampNeg)) hx hb hr (fun t ht hW => ⟨⟨(c_t_drops x1.toNatClampNeg), (), rfl, rfl, by rw [ht]; exact hP, hD⟩, hS.F ht⟩) hS.2.2 dX3_dropsOn_22
set_option maxHeartbeats 4000000 in
set_option maxRecDepth 100000 in
theorem c_X3_dropsOn (l : Launch) (G : va_G) (ca : Nat → ClassId) (ad av : Nat → Nat) (sz : Nat) (a_t : Nat) (a_t_drops : Nat) (a_t_water : Nat) (a_t_need : Nat) (a_t_dew : Nat) (a_t_song : Nat) (f_t_terraces : Int32) (f_t_law : Int32) (f_t_slip : Int32) (f_t_songLength : Int32) (c_t_drops : Nat → Int32) (f_t_days : Int32) (x1 : Int32) (res : Int32) (h : F_X3_dropsOn c_t_drops f_t_days x1 = some res) : Met l yX3_dropsOn wsX3_dropsOn RM_X3_dropsOn (va_Pc [.ref a_t, .int x1] (PW_ G ca ad av sz [(a_t, .inr (3, [.ref a_t_water, .ref a_t_need, .ref a_t_dew, .ref a_t_drops, .ref a_t_song, .int f_t_terraces, .int f_t_days, .int f_t_law, .int f_t_slip, .int f_t_songLength])), (a_t_drops, .inl (ca 0, 20, .inl c_t_drops))])) (QI_ G (va_A [(a_t, .inr (3, [.ref a_t_water, .ref a_t_need, .ref a_t_dew, .ref a_t_drops, .ref a_t_song, .int f_t_terraces, .int f_t_days, .int f_t_law, .int f_t_slip, .int f_t_songLength])), (a_t_drops, .inl (ca 0, 20, .inl c_t_drops))] sz) res [(a_t, .inr (3, [.ref a_t_water, .ref a_t_need, .ref a_t_dew, .ref a_t_drops, .ref a_t_song, .int f_t_terraces, .int f_t_days, .int f_t_law, .int f_t_slip, .int f_t_songLength])), (a_t_drops, .inl (ca 0, 20, .inl c_t_drops))]) 0 0 (va_A [(a_t, .inr (3, [.ref a_t_water, .ref a_t_need, .ref a_t_dew, .ref a_t_drops, .ref a_t_song, .int f_t_terraces, .int f_t_days, .int f_t_law, .int f_t_slip, .int f_t_songLength])), (a_t_drops, .inl (ca 0, 20, .inl c_t_drops))] sz) := by
  refine Met.ofW (cc := cX3_dropsOn) (maxL := 2) (ret := (some .int)) (by decide) rfl ?_
  intro p e s m args below meth c s₁ B hml hv
  obtain ⟨X0, rfl, rfl, hP, hD⟩ := en_t B hml hv
  have hl := lv_entry ([.ref a_t, .int x1]) (n := 2) (Nat.le_of_ble_eq_true rfl)
  rw [lg_entry_eq]
  generalize (lg_sl ([.ref a_t, .int x1]) ++ List.replicate (2 - (lg_sl ([.ref a_t, .int x1])).length) Slot.unset).toArray = ls at hl ⊢
  exact w_X3_dropsOn_0 X0 a_t a_t_drops a_t_water a_t_need a_t_dew a_t_song f_t_terraces f_t_law f_t_slip f_t_songLength c_t_drops f_t_days _ x1 h s.heap [] hP hD va_S.rf ls hl

/-! X3_has -/
abbrev RM_X3_has : Room := { frames := 0, cells := 0, slots := 0, locals := 0 }
theorem k_X3_has_0 : Cond.fieldLink RX3 34 "DropDealers$Hill" "terraces" "I" ∈ wsX3_has := by decide +kernel
theorem i_X3_has_X3 : ∀ w ∈ u_ws RX3 TX3 10, w ∈ wsX3_has := by decide +kernel
def F_X3_has (f_t_terraces : Int32) (x1 : Int32) : Option (Int32) := if x1 < 0 then (some ((0 : Int32))) else (if f_t_terraces ≤ x1 then (some ((0 : Int32))) else (some ((1 : Int32))))
set_option maxHeartbeats 4000000 in
set_option maxRecDepth 100000 in
theorem w_X3_has_0 {p : Program} {l : Launch} {e : Env} {s : State} {m : MethodId} {args : Array Value} {below : List Frame} {meth : Method} {c : Code} {G : va_G} {ca : Nat → ClassId} {ad av : Nat → Nat} {A : Nat → Prop} (X0 : CX_ p s m args meth c cX3_has 2 (some .boolean) wsX3_has RX3 G ca ad av A) (a_t : Nat) (a_t_water : Nat) (a_t_need : Nat) (a_t_dew : Nat) (a_t_drops : Nat) (a_t_song : Nat) (f_t_days : Int32) (f_t_law : Int32) (f_t_slip : Int32) (f_t_songLength : Int32) (f_t_terraces : Int32) (res : Int32) (x1 : Int32) (h : F_X3_has f_t_terraces x1 = some res) : ∀ (H : Heap) (locs : List Loc), va_P G vwCl [(a_t, .inr (3, [.ref a_t_water, .ref a_t_need, .ref a_t_dew, .ref a_t_drops, .ref a_t_song, .int f_t_terraces, .int f_t_days, .int f_t_law, .int f_t_slip, .int f_t_songLength]))] H → va_D A [(a_t, .inr (3, [.ref a_t_water, .ref a_t_need, .ref a_t_dew, .ref a_t_drops, .ref a_t_song, .int f_t_terraces, .int f_t_days, .int f_t_law, .int f_t_slip, .int f_t_songLength]))] → va_S A s.heap H locs → ∀ (ls : Array Slot), lv_has ls 2 [(0, .ref a_t), (1, .int x1)] → W p l e RM_X3_has s m args below meth c H locs 0 0 (MQ below (QI_ G A res [(a_t, .inr (3, [.ref a_t_water, .ref a_t_need, .ref a_t_dew, .ref a_t_drops, .ref a_t_song, .int f_t_terraces, .int f_t_days, .int f_t_law, .int f_t_slip, .int f_t_songLength]))]) args s 0 0 A) (F0 m 0 ls []) := by
  obtain ⟨hx, hb, hr, hml, hown, hts, hlocks, hK, hA, hE⟩ := id X0
  intro H locs hP hD hS ls hl
  unfold F_X3_has at h
  refine lv_iload_n hx hb dX3_has_0 rfl (lv_at hl 1 rfl) ?_
  refine lv_if_lt (tgt := 16) hx hb dX3_has_1 (by decide) (fun b1 => ?_) (fun b1 => ?_)
  · have h := (if_pos b1).symm.trans h
    refine lv_iconst (v := 0) hx hb dX3_has_16 (by decide) ?_
    have h := sm_i h
    subst h
    exact W.zret (v := (0 : Int32)) hx hb hr rfl (fun t ht hW => ⟨⟨(0 : Int32), (), rfl, rfl, by rw [ht]; exact hP, hD⟩, hS.F ht⟩) hS.2.2 dX3_has_17
  · have h := (if_neg b1).symm.trans h
    refine lv_iload_n hx hb dX3_has_4 rfl (lv_at hl 1 rfl) ?_
    refine lv_aload_n hx hb dX3_has_5 rfl (lv_at hl 0 rfl) ?_
    refine va_get (D := G) (ci := 3) (v := .int f_t_terraces) (C := RX3) (T := TX3) (N := 10) hx hb hts i_X3_has_X3 hown hK hP 0 rfl rfl 5 (by decide) (hts _ k_X3_has_0) (fun _ h9 => h9) rfl dX3_has_6 ?_
    refine lv_icmp_ge (tgt := 16) hx hb dX3_has_9 (by decide) (fun b2 => ?_) (fun b2 => ?_)
    · have h := (if_pos b2).symm.trans h
      refine lv_iconst (v := 0) hx hb dX3_has_16 (by decide) ?_
      have h := sm_i h
      subst h
      exact W.zret (v := (0 : Int32)) hx hb hr rfl (fun t ht hW => ⟨⟨(0 : Int32), (), rfl, rfl, by rw [ht]; exact hP, hD⟩, hS.F ht⟩) hS.2.2 dX3_has_17
    · have h := (if_neg b2).symm.trans h
      refine lv_iconst (v := 1) hx hb dX3_has_12 (by decide) ?_
      refine lv_goto (tgt := 17) hx hb dX3_has_13 (by decide) ?_
      have h := sm_i h
      subst h
      exact W.zret (v := (1 : Int32)) hx hb hr rfl (fun t ht hW => ⟨⟨(1 : Int32), (), rfl, rfl, by rw [ht]; exact hP, hD⟩, hS.F ht⟩) hS.2.2 dX3_has_17
set_option maxHeartbeats 4000000 in
set_option maxRecDepth 100000 in
theorem c_X3_has (l : Launch) (G : va_G) (ca : Nat → ClassId) (ad av : Nat → Nat) (sz : Nat) (a_t : Nat) (a_t_water : Nat) (a_t_need : Nat) (a_t_dew : Nat) (a_t_drops : Nat) (a_t_song : Nat) (f_t_days : Int32) (f_t_law : Int32) (f_t_slip : Int32) (f_t_songLength : Int32) (f_t_terraces : Int32) (x1 : Int32) (res : Int32) (h : F_X3_has f_t_terraces x1 = some res) : Met l yX3_has wsX3_has RM_X3_has (va_Pc [.ref a_t, .int x1] (PW_ G ca ad av sz [(a_t, .inr (3, [.ref a_t_water, .ref a_t_need, .ref a_t_dew, .ref a_t_drops, .ref a_t_song, .int f_t_terraces, .int f_t_days, .int f_t_law, .int f_t_slip, .int f_t_songLength]))])) (QI_ G (va_A [(a_t, .inr (3, [.ref a_t_water, .ref a_t_need, .ref a_t_dew, .ref a_t_drops, .ref a_t_song, .int f_t_terraces, .int f_t_days, .int f_t_law, .int f_t_slip, .int f_t_songLength]))] sz) res [(a_t, .inr (3, [.ref a_t_water, .ref a_t_need, .ref a_t_dew, .ref a_t_drops, .ref a_t_song, .int f_t_terraces, .int f_t_days, .int f_t_law, .int f_t_slip, .int f_t_songLength]))]) 0 0 (va_A [(a_t, .inr (3, [.ref a_t_water, .ref a_t_need, .ref a_t_dew, .ref a_t_drops, .ref a_t_song, .int f_t_terraces, .int f_t_days, .int f_t_law, .int f_t_slip, .int f_t_songLength]))] sz) := by
  refine Met.ofW (cc := cX3_has) (maxL := 2) (ret := (some .boolean)) (by decide) rfl ?_
  intro p e s m args below meth c s₁ B hml hv
  obtain ⟨X0, rfl, rfl, hP, hD⟩ := en_t B hml hv
  have hl := lv_entry ([.ref a_t, .int x1]) (n := 2) (Nat.le_of_ble_eq_true rfl)
  rw [lg_entry_eq]
  generalize (lg_sl ([.ref a_t, .int x1]) ++ List.replicate (2 - (lg_sl ([.ref a_t, .int x1])).length) Slot.unset).toArray = ls at hl ⊢
  exact w_X3_has_0 X0 a_t a_t_water a_t_need a_t_dew a_t_drops a_t_song f_t_days f_t_law f_t_slip f_t_songLength f_t_terraces _ x1 h s.heap [] hP hD va_S.rf ls hl

/-! X3_sung -/
abbrev RM_X3_sung : Room := { frames := 0, cells := 0, slots := 0, locals := 0 }
theorem k_X3_sung_0 : Cond.fieldLink RX3 31 "DropDealers$Hill" "songLength" "I" ∈ wsX3_sung := by decide +kernel
theorem i_X3_sung_X3 : ∀ w ∈ u_ws RX3 TX3 10, w ∈ wsX3_sung := by decide +kernel
theorem k_X3_sung_2 : Cond.fieldLink RX3 24 "DropDealers$Hill" "song" "[I" ∈ wsX3_sung := by decide +kernel
def F_X3_sung (c_t_song : Nat → Int32) (f_t_songLength : Int32) (x1 : Int32) : Option (Int32) := if x1 < 0 then (some ((0 : Int32))) else (if f_t_songLength ≤ 0 then (some ((0 : Int32))) else (if f_t_songLength = 0 then none else if ok_I (x1 - x1 / f_t_songLength * f_t_songLength) 8 = true then some ((c_t_song (x1 - x1 / f_t_songLength * f_t_songLength).toNatClampNeg)) else none))
set_option maxHeartbeats 4000000 in
set_option maxRecDepth 100000 in
theorem w_X3_sung_0 {p : Program} {l : Launch} {e : Env} {s : State} {m : MethodId} {args : Array Value} {below : List Frame} {meth : Method} {c : Code} {G : va_G} {ca : Nat → ClassId} {ad av : Nat → Nat} {A : Nat → Prop} (X0 : CX_ p s m args meth c cX3_sung 2 (some .int) wsX3_sung RX3 G ca ad av A) (a_t : Nat) (a_t_song : Nat) (a_t_water : Nat) (a_t_need : Nat) (a_t_dew : Nat) (a_t_drops : Nat) (f_t_terraces : Int32) (f_t_days : Int32) (f_t_law : Int32) (f_t_slip : Int32) (c_t_song : Nat → Int32) (f_t_songLength : Int32) (res : Int32) (x1 : Int32) (h : F_X3_sung c_t_song f_t_songLength x1 = some res) : ∀ (H : Heap) (locs : List Loc), va_P G vwCl [(a_t, .inr (3, [.ref a_t_water, .ref a_t_need, .ref a_t_dew, .ref a_t_drops, .ref a_t_song, .int f_t_terraces, .int f_t_days, .int f_t_law, .int f_t_slip, .int f_t_songLength])), (a_t_song, .inl (ca 0, 8, .inl c_t_song))] H → va_D A [(a_t, .inr (3, [.ref a_t_water, .ref a_t_need, .ref a_t_dew, .ref a_t_drops, .ref a_t_song, .int f_t_terraces, .int f_t_days, .int f_t_law, .int f_t_slip, .int f_t_songLength])), (a_t_song, .inl (ca 0, 8, .inl c_t_song))] → va_S A s.heap H locs → ∀ (ls : Array Slot), lv_has ls 2 [(0, .ref a_t), (1, .int x1)] → W p l e RM_X3_sung s m args below meth c H locs 0 0 (MQ below (QI_ G A res [(a_t, .inr (3, [.ref a_t_water, .ref a_t_need, .ref a_t_dew, .ref a_t_drops, .ref a_t_song, .int f_t_terraces, .int f_t_days, .int f_t_law, .int f_t_slip, .int f_t_songLength])), (a_t_song, .inl (ca 0, 8, .inl c_t_song))]) args s 0 0 A) (F0 m 0 ls []) := by
  obtain ⟨hx, hb, hr, hml, hown, hts, hlocks, hK, hA, hE⟩ := id X0
  intro H locs hP hD hS ls hl
  unfold F_X3_sung at h
  refine lv_iload_n hx hb dX3_sung_0 rfl (lv_at hl 1 rfl) ?_
  refine lv_if_lt (tgt := 25) hx hb dX3_sung_1 (by decide) (fun b1 => ?_) (fun b1 => ?_)
  · have h := (if_pos b1).symm.trans h
    refine lv_iconst (v := 0) hx hb dX3_sung_25 (by decide) ?_
    have h := sm_i h
    subst h
    exact W.iret (v := (0 : Int32)) hx hb hr (fun t ht hW => ⟨⟨(0 : Int32), (), rfl, rfl, by rw [ht]; exact hP, hD⟩, hS.F ht⟩) hS.2.2 dX3_sung_26
  · have h := (if_neg b1).symm.trans h
    refine lv_aload_n hx hb dX3_sung_4 rfl (lv_at hl 0 rfl) ?_
    refine va_get (D := G) (ci := 3) (v := .int f_t_songLength) (C := RX3) (T := TX3) (N := 10) hx hb hts i_X3_sung_X3 hown hK hP 0 rfl rfl 9 (by decide) (hts _ k_X3_sung_0) (fun _ h9 => h9) rfl dX3_sung_5 ?_
    refine lv_if_le (tgt := 25) hx hb dX3_sung_8 (by decide) (fun b2 => ?_) (fun b2 => ?_)
    · have h := (if_pos b2).symm.trans h
      refine lv_iconst (v := 0) hx hb dX3_sung_25 (by decide) ?_
      have h := sm_i h
      subst h
      exact W.iret (v := (0 : Int32)) hx hb hr (fun t ht hW => ⟨⟨(0 : Int32), (), rfl, rfl, by rw [ht]; exact hP, hD⟩, hS.F ht⟩) hS.2.2 dX3_sung_26
    · have h := (if_neg b2).symm.trans h
      refine lv_aload_n hx hb dX3_sung_11 rfl (lv_at hl 0 rfl) ?_
      refine va_get (D := G) (ci := 3) (v := .ref a_t_song) (C := RX3) (T := TX3) (N := 10) hx hb hts i_X3_sung_X3 hown hK hP 0 rfl rfl 4 (by decide) (hts _ k_X3_sung_2) (fun _ h9 => h9) rfl dX3_sung_12 ?_
      refine lv_iload_n hx hb dX3_sung_15 rfl (lv_at hl 1 rfl) ?_
      refine lv_aload_n hx hb dX3_sung_16 rfl (lv_at hl 0 rfl) ?_
      refine va_get (D := G) (ci := 3) (v := .int f_t_songLength) (C := RX3) (T := TX3) (N := 10) hx hb hts i_X3_sung_X3 hown hK hP 0 rfl rfl 9 (by decide) (hts _ k_X3_sung_0) (fun _ h9 => h9) rfl dX3_sung_17 ?_
      obtain ⟨z3, h⟩ := gd_n h
      refine lv_irem hx hb dX3_sung_20 z3 ?_
      obtain ⟨g4, h⟩ := gd_t h
      refine va_iald hx hb hK hP 1 0 rfl rfl (ok_in g4) dX3_sung_21 ?_
      refine lv_goto (tgt := 26) hx hb dX3_sung_22 (by decide) ?_
      have h := sm_i h
      subst h
      exact W.iret (v := (c_t_song (x1 - x1 / f_t_songLength * f_t_songLength).toNatClampNeg)) hx hb hr (fun t ht hW => ⟨⟨(c_t_song (x1 - x1 / f_t_songLength * f_t_songLength).toNatClampNeg), (), rfl, rfl, by rw [ht]; exact hP, hD⟩, hS.F ht⟩) hS.2.2 dX3_sung_26
set_option maxHeartbeats 4000000 in
set_option maxRecDepth 100000 in
theorem c_X3_sung (l : Launch) (G : va_G) (ca : Nat → ClassId) (ad av : Nat → Nat) (sz : Nat) (a_t : Nat) (a_t_song : Nat) (a_t_water : Nat) (a_t_need : Nat) (a_t_dew : Nat) (a_t_drops : Nat) (f_t_terraces : Int32) (f_t_days : Int32) (f_t_law : Int32) (f_t_slip : Int32) (c_t_song : Nat → Int32) (f_t_songLength : Int32) (x1 : Int32) (res : Int32) (h : F_X3_sung c_t_song f_t_songLength x1 = some res) : Met l yX3_sung wsX3_sung RM_X3_sung (va_Pc [.ref a_t, .int x1] (PW_ G ca ad av sz [(a_t, .inr (3, [.ref a_t_water, .ref a_t_need, .ref a_t_dew, .ref a_t_drops, .ref a_t_song, .int f_t_terraces, .int f_t_days, .int f_t_law, .int f_t_slip, .int f_t_songLength])), (a_t_song, .inl (ca 0, 8, .inl c_t_song))])) (QI_ G (va_A [(a_t, .inr (3, [.ref a_t_water, .ref a_t_need, .ref a_t_dew, .ref a_t_drops, .ref a_t_song, .int f_t_terraces, .int f_t_days, .int f_t_law, .int f_t_slip, .int f_t_songLength])), (a_t_song, .inl (ca 0, 8, .inl c_t_song))] sz) res [(a_t, .inr (3, [.ref a_t_water, .ref a_t_need, .ref a_t_dew, .ref a_t_drops, .ref a_t_song, .int f_t_terraces, .int f_t_days, .int f_t_law, .int f_t_slip, .int f_t_songLength])), (a_t_song, .inl (ca 0, 8, .inl c_t_song))]) 0 0 (va_A [(a_t, .inr (3, [.ref a_t_water, .ref a_t_need, .ref a_t_dew, .ref a_t_drops, .ref a_t_song, .int f_t_terraces, .int f_t_days, .int f_t_law, .int f_t_slip, .int f_t_songLength])), (a_t_song, .inl (ca 0, 8, .inl c_t_song))] sz) := by
  refine Met.ofW (cc := cX3_sung) (maxL := 2) (ret := (some .int)) (by decide) rfl ?_
  intro p e s m args below meth c s₁ B hml hv
  obtain ⟨X0, rfl, rfl, hP, hD⟩ := en_t B hml hv
  have hl := lv_entry ([.ref a_t, .int x1]) (n := 2) (Nat.le_of_ble_eq_true rfl)
  rw [lg_entry_eq]
  generalize (lg_sl ([.ref a_t, .int x1]) ++ List.replicate (2 - (lg_sl ([.ref a_t, .int x1])).length) Slot.unset).toArray = ls at hl ⊢
  exact w_X3_sung_0 X0 a_t a_t_song a_t_water a_t_need a_t_dew a_t_drops f_t_terraces f_t_days f_t_law f_t_slip c_t_song f_t_songLength _ x1 h s.heap [] hP hD va_S.rf ls hl

/-! X3_nextTo -/
abbrev RM_X3_nextTo : Room := { frames := 0, cells := 0, slots := 0, locals := 0 }
theorem k_X3_nextTo_0 : Cond.fieldLink RX3 34 "DropDealers$Hill" "terraces" "I" ∈ wsX3_nextTo := by decide +kernel
theorem i_X3_nextTo_X3 : ∀ w ∈ u_ws RX3 TX3 10, w ∈ wsX3_nextTo := by decide +kernel
def F_X3_nextTo (f_t_terraces : Int32) (x1 : Int32) : Option (Int32) := if f_t_terraces ≤ (x1 + (1 : Int32)) then (some ((0 : Int32))) else (some ((x1 + (1 : Int32))))
set_option maxHeartbeats 4000000 in
set_option maxRecDepth 100000 in
theorem w_X3_nextTo_0 {p : Program} {l : Launch} {e : Env} {s : State} {m : MethodId} {args : Array Value} {below : List Frame} {meth : Method} {c : Code} {G : va_G} {ca : Nat → ClassId} {ad av : Nat → Nat} {A : Nat → Prop} (X0 : CX_ p s m args meth c cX3_nextTo 2 (some .int) wsX3_nextTo RX3 G ca ad av A) (a_t : Nat) (a_t_water : Nat) (a_t_need : Nat) (a_t_dew : Nat) (a_t_drops : Nat) (a_t_song : Nat) (f_t_days : Int32) (f_t_law : Int32) (f_t_slip : Int32) (f_t_songLength : Int32) (f_t_terraces : Int32) (res : Int32) (x1 : Int32) (h : F_X3_nextTo f_t_terraces x1 = some res) : ∀ (H : Heap) (locs : List Loc), va_P G vwCl [(a_t, .inr (3, [.ref a_t_water, .ref a_t_need, .ref a_t_dew, .ref a_t_drops, .ref a_t_song, .int f_t_terraces, .int f_t_days, .int f_t_law, .int f_t_slip, .int f_t_songLength]))] H → va_D A [(a_t, .inr (3, [.ref a_t_water, .ref a_t_need, .ref a_t_dew, .ref a_t_drops, .ref a_t_song, .int f_t_terraces, .int f_t_days, .int f_t_law, .int f_t_slip, .int f_t_songLength]))] → va_S A s.heap H locs → ∀ (ls : Array Slot), lv_has ls 2 [(0, .ref a_t), (1, .int x1)] → W p l e RM_X3_nextTo s m args below meth c H locs 0 0 (MQ below (QI_ G A res [(a_t, .inr (3, [.ref a_t_water, .ref a_t_need, .ref a_t_dew, .ref a_t_drops, .ref a_t_song, .int f_t_terraces, .int f_t_days, .int f_t_law, .int f_t_slip, .int f_t_songLength]))]) args s 0 0 A) (F0 m 0 ls []) := by
  obtain ⟨hx, hb, hr, hml, hown, hts, hlocks, hK, hA, hE⟩ := id X0
  intro H locs hP hD hS ls hl
  unfold F_X3_nextTo at h
  refine lv_iload_n hx hb dX3_nextTo_0 rfl (lv_at hl 1 rfl) ?_
  refine lv_iconst (v := 1) hx hb dX3_nextTo_1 (by decide) ?_
  refine lv_iadd hx hb dX3_nextTo_2 ?_
  refine lv_aload_n hx hb dX3_nextTo_3 rfl (lv_at hl 0 rfl) ?_
  refine va_get (D := G) (ci := 3) (v := .int f_t_terraces) (C := RX3) (T := TX3) (N := 10) hx hb hts i_X3_nextTo_X3 hown hK hP 0 rfl rfl 5 (by decide) (hts _ k_X3_nextTo_0) (fun _ h9 => h9) rfl dX3_nextTo_4 ?_
  refine lv_icmp_ge (tgt := 16) hx hb dX3_nextTo_7 (by decide) (fun b1 => ?_) (fun b1 => ?_)
  · have h := (if_pos b1).symm.trans h
    refine lv_iconst (v := 0) hx hb dX3_nextTo_16 (by decide) ?_
    have h := sm_i h
    subst h
    exact W.iret (v := (0 : Int32)) hx hb hr (fun t ht hW => ⟨⟨(0 : Int32), (), rfl, rfl, by rw [ht]; exact hP, hD⟩, hS.F ht⟩) hS.2.2 dX3_nextTo_17
  · have h := (if_neg b1).symm.trans h
    refine lv_iload_n hx hb dX3_nextTo_10 rfl (lv_at hl 1 rfl) ?_
    refine lv_iconst (v := 1) hx hb dX3_nextTo_11 (by decide) ?_
    refine lv_iadd hx hb dX3_nextTo_12 ?_
    refine lv_goto (tgt := 17) hx hb dX3_nextTo_13 (by decide) ?_
    have h := sm_i h
    subst h
    exact W.iret (v := (x1 + (1 : Int32))) hx hb hr (fun t ht hW => ⟨⟨(x1 + (1 : Int32)), (), rfl, rfl, by rw [ht]; exact hP, hD⟩, hS.F ht⟩) hS.2.2 dX3_nextTo_17
set_option maxHeartbeats 4000000 in
set_option maxRecDepth 100000 in
theorem c_X3_nextTo (l : Launch) (G : va_G) (ca : Nat → ClassId) (ad av : Nat → Nat) (sz : Nat) (a_t : Nat) (a_t_water : Nat) (a_t_need : Nat) (a_t_dew : Nat) (a_t_drops : Nat) (a_t_song : Nat) (f_t_days : Int32) (f_t_law : Int32) (f_t_slip : Int32) (f_t_songLength : Int32) (f_t_terraces : Int32) (x1 : Int32) (res : Int32) (h : F_X3_nextTo f_t_terraces x1 = some res) : Met l yX3_nextTo wsX3_nextTo RM_X3_nextTo (va_Pc [.ref a_t, .int x1] (PW_ G ca ad av sz [(a_t, .inr (3, [.ref a_t_water, .ref a_t_need, .ref a_t_dew, .ref a_t_drops, .ref a_t_song, .int f_t_terraces, .int f_t_days, .int f_t_law, .int f_t_slip, .int f_t_songLength]))])) (QI_ G (va_A [(a_t, .inr (3, [.ref a_t_water, .ref a_t_need, .ref a_t_dew, .ref a_t_drops, .ref a_t_song, .int f_t_terraces, .int f_t_days, .int f_t_law, .int f_t_slip, .int f_t_songLength]))] sz) res [(a_t, .inr (3, [.ref a_t_water, .ref a_t_need, .ref a_t_dew, .ref a_t_drops, .ref a_t_song, .int f_t_terraces, .int f_t_days, .int f_t_law, .int f_t_slip, .int f_t_songLength]))]) 0 0 (va_A [(a_t, .inr (3, [.ref a_t_water, .ref a_t_need, .ref a_t_dew, .ref a_t_drops, .ref a_t_song, .int f_t_terraces, .int f_t_days, .int f_t_law, .int f_t_slip, .int f_t_songLength]))] sz) := by
  refine Met.ofW (cc := cX3_nextTo) (maxL := 2) (ret := (some .int)) (by decide) rfl ?_
  intro p e s m args below meth c s₁ B hml hv
  obtain ⟨X0, rfl, rfl, hP, hD⟩ := en_t B hml hv
  have hl := lv_entry ([.ref a_t, .int x1]) (n := 2) (Nat.le_of_ble_eq_true rfl)
  rw [lg_entry_eq]
  generalize (lg_sl ([.ref a_t, .int x1]) ++ List.replicate (2 - (lg_sl ([.ref a_t, .int x1])).length) Slot.unset).toArray = ls at hl ⊢
  exact w_X3_nextTo_0 X0 a_t a_t_water a_t_need a_t_dew a_t_drops a_t_song f_t_days f_t_law f_t_slip f_t_songLength f_t_terraces _ x1 h s.heap [] hP hD va_S.rf ls hl

/-! X3_allBits -/
abbrev RM_X3_allBits : Room := { frames := 0, cells := 0, slots := 0, locals := 0 }
theorem k_X3_allBits_0 : Cond.fieldLink RX3 34 "DropDealers$Hill" "terraces" "I" ∈ wsX3_allBits := by decide +kernel
theorem i_X3_allBits_X3 : ∀ w ∈ u_ws RX3 TX3 10, w ∈ wsX3_allBits := by decide +kernel
def F_X3_allBits (f_t_terraces : Int32)  : Option (Int32) := some ((((1 : Int32) <<< (f_t_terraces &&& 31)) - (1 : Int32)))
set_option maxHeartbeats 4000000 in
set_option maxRecDepth 100000 in
theorem w_X3_allBits_0 {p : Program} {l : Launch} {e : Env} {s : State} {m : MethodId} {args : Array Value} {below : List Frame} {meth : Method} {c : Code} {G : va_G} {ca : Nat → ClassId} {ad av : Nat → Nat} {A : Nat → Prop} (X0 : CX_ p s m args meth c cX3_allBits 1 (some .int) wsX3_allBits RX3 G ca ad av A) (a_t : Nat) (a_t_water : Nat) (a_t_need : Nat) (a_t_dew : Nat) (a_t_drops : Nat) (a_t_song : Nat) (f_t_days : Int32) (f_t_law : Int32) (f_t_slip : Int32) (f_t_songLength : Int32) (f_t_terraces : Int32) (res : Int32)  (h : F_X3_allBits f_t_terraces  = some res) : ∀ (H : Heap) (locs : List Loc), va_P G vwCl [(a_t, .inr (3, [.ref a_t_water, .ref a_t_need, .ref a_t_dew, .ref a_t_drops, .ref a_t_song, .int f_t_terraces, .int f_t_days, .int f_t_law, .int f_t_slip, .int f_t_songLength]))] H → va_D A [(a_t, .inr (3, [.ref a_t_water, .ref a_t_need, .ref a_t_dew, .ref a_t_drops, .ref a_t_song, .int f_t_terraces, .int f_t_days, .int f_t_law, .int f_t_slip, .int f_t_songLength]))] → va_S A s.heap H locs → ∀ (ls : Array Slot), lv_has ls 1 [(0, .ref a_t)] → W p l e RM_X3_allBits s m args below meth c H locs 0 0 (MQ below (QI_ G A res [(a_t, .inr (3, [.ref a_t_water, .ref a_t_need, .ref a_t_dew, .ref a_t_drops, .ref a_t_song, .int f_t_terraces, .int f_t_days, .int f_t_law, .int f_t_slip, .int f_t_songLength]))]) args s 0 0 A) (F0 m 0 ls []) := by
  obtain ⟨hx, hb, hr, hml, hown, hts, hlocks, hK, hA, hE⟩ := id X0
  intro H locs hP hD hS ls hl
  unfold F_X3_allBits at h
  refine lv_iconst (v := 1) hx hb dX3_allBits_0 (by decide) ?_
  refine lv_aload_n hx hb dX3_allBits_1 rfl (lv_at hl 0 rfl) ?_
  refine va_get (D := G) (ci := 3) (v := .int f_t_terraces) (C := RX3) (T := TX3) (N := 10) hx hb hts i_X3_allBits_X3 hown hK hP 0 rfl rfl 5 (by decide) (hts _ k_X3_allBits_0) (fun _ h9 => h9) rfl dX3_allBits_2 ?_
  refine lv_ishl hx hb dX3_allBits_5 ?_
  refine lv_iconst (v := 1) hx hb dX3_allBits_6 (by decide) ?_
  refine lv_isub hx hb dX3_allBits_7 ?_
  have h := sm_i h
  subst h
  exact W.iret (v := (((1 : Int32) <<< (f_t_terraces &&& 31)) - (1 : Int32))) hx hb hr (fun t ht hW => ⟨⟨(((1 : Int32) <<< (f_t_terraces &&& 31)) - (1 : Int32)), (), rfl, rfl, by rw [ht]; exact hP, hD⟩, hS.F ht⟩) hS.2.2 dX3_allBits_8
set_option maxHeartbeats 4000000 in
set_option maxRecDepth 100000 in
theorem c_X3_allBits (l : Launch) (G : va_G) (ca : Nat → ClassId) (ad av : Nat → Nat) (sz : Nat) (a_t : Nat) (a_t_water : Nat) (a_t_need : Nat) (a_t_dew : Nat) (a_t_drops : Nat) (a_t_song : Nat) (f_t_days : Int32) (f_t_law : Int32) (f_t_slip : Int32) (f_t_songLength : Int32) (f_t_terraces : Int32)  (res : Int32) (h : F_X3_allBits f_t_terraces  = some res) : Met l yX3_allBits wsX3_allBits RM_X3_allBits (va_Pc [.ref a_t] (PW_ G ca ad av sz [(a_t, .inr (3, [.ref a_t_water, .ref a_t_need, .ref a_t_dew, .ref a_t_drops, .ref a_t_song, .int f_t_terraces, .int f_t_days, .int f_t_law, .int f_t_slip, .int f_t_songLength]))])) (QI_ G (va_A [(a_t, .inr (3, [.ref a_t_water, .ref a_t_need, .ref a_t_dew, .ref a_t_drops, .ref a_t_song, .int f_t_terraces, .int f_t_days, .int f_t_law, .int f_t_slip, .int f_t_songLength]))] sz) res [(a_t, .inr (3, [.ref a_t_water, .ref a_t_need, .ref a_t_dew, .ref a_t_drops, .ref a_t_song, .int f_t_terraces, .int f_t_days, .int f_t_law, .int f_t_slip, .int f_t_songLength]))]) 0 0 (va_A [(a_t, .inr (3, [.ref a_t_water, .ref a_t_need, .ref a_t_dew, .ref a_t_drops, .ref a_t_song, .int f_t_terraces, .int f_t_days, .int f_t_law, .int f_t_slip, .int f_t_songLength]))] sz) := by
  refine Met.ofW (cc := cX3_allBits) (maxL := 1) (ret := (some .int)) (by decide) rfl ?_
  intro p e s m args below meth c s₁ B hml hv
  obtain ⟨X0, rfl, rfl, hP, hD⟩ := en_t B hml hv
  have hl := lv_entry ([.ref a_t]) (n := 1) (Nat.le_of_ble_eq_true rfl)
  rw [lg_entry_eq]
  generalize (lg_sl ([.ref a_t]) ++ List.replicate (1 - (lg_sl ([.ref a_t])).length) Slot.unset).toArray = ls at hl ⊢
  exact w_X3_allBits_0 X0 a_t a_t_water a_t_need a_t_dew a_t_drops a_t_song f_t_days f_t_law f_t_slip f_t_songLength f_t_terraces _  h s.heap [] hP hD va_S.rf ls hl
