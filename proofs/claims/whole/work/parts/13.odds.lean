/-! X10_hitsOf -/
abbrev RM_X10_hitsOf : Room := { frames := 1, cells := 0, slots := 0, locals := 21 }
theorem k_X10_hitsOf_0 : Cond.fieldLinkNest RX10 37 "DropDealers$Hill" "slip" "I" "DropDealers" ∈ nw_l := by decide +kernel
theorem i_X10_hitsOf_X3 : ∀ w ∈ u_ws RX3 TX3 10, w ∈ wsX10_hitsOf := by decide +kernel
def F_X10_hitsOf_22 (c_p1_song : Nat → Int32) (f_p1_terraces : Int32) (f_p1_slip : Int32) (f_p1_songLength : Int32) (y2 : Int32) (y3 : Int32) (t0 : Int32) : Option (Int32) := (F_X3_nextTo f_p1_terraces y3).bind (fun u1 => if u1 = y2 then (some ((t0 + f_p1_slip))) else (some (t0)))
set_option maxHeartbeats 4000000 in
set_option maxRecDepth 100000 in
theorem w_X10_hitsOf_22 {p : Program} {l : Launch} {e : Env} {s : State} {m : MethodId} {args : Array Value} {below : List Frame} {meth : Method} {c : Code} {G : va_G} {ca : Nat → ClassId} {ad av : Nat → Nat} {A : Nat → Prop} (X0 : CX_ p s m args meth c cX10_hitsOf 5 (some .int) wsX10_hitsOf RX10 G ca ad av A) (a_p1 : Nat) (a_p1_song : Nat) (a_p1_water : Nat) (a_p1_need : Nat) (a_p1_dew : Nat) (a_p1_drops : Nat) (f_p1_days : Int32) (f_p1_law : Int32) (c_p1_song : Nat → Int32) (f_p1_terraces : Int32) (f_p1_slip : Int32) (f_p1_songLength : Int32) (res : Int32) (y2 : Int32) (y3 : Int32) (t0 : Int32) (h : F_X10_hitsOf_22 c_p1_song f_p1_terraces f_p1_slip f_p1_songLength y2 y3 t0 = some res) : ∀ (H : Heap) (locs : List Loc), va_P G vwCl [(a_p1, .inr (3, [.ref a_p1_water, .ref a_p1_need, .ref a_p1_dew, .ref a_p1_drops, .ref a_p1_song, .int f_p1_terraces, .int f_p1_days, .int f_p1_law, .int f_p1_slip, .int f_p1_songLength])), (a_p1_song, .inl (ca 0, 8, .inl c_p1_song))] H → va_D A [(a_p1, .inr (3, [.ref a_p1_water, .ref a_p1_need, .ref a_p1_dew, .ref a_p1_drops, .ref a_p1_song, .int f_p1_terraces, .int f_p1_days, .int f_p1_law, .int f_p1_slip, .int f_p1_songLength])), (a_p1_song, .inl (ca 0, 8, .inl c_p1_song))] → va_S A s.heap H locs → ∀ (ls : Array Slot), lv_has ls 5 [(0, .ref a_p1), (2, .int y2), (3, .int y3)] → W p l e RM_X10_hitsOf s m args below meth c H locs 0 0 (MQ below (QI_ G A res [(a_p1, .inr (3, [.ref a_p1_water, .ref a_p1_need, .ref a_p1_dew, .ref a_p1_drops, .ref a_p1_song, .int f_p1_terraces, .int f_p1_days, .int f_p1_law, .int f_p1_slip, .int f_p1_songLength])), (a_p1_song, .inl (ca 0, 8, .inl c_p1_song))]) args s 0 0 A) (F0 m 22 ls [.int t0]) := by
  obtain ⟨hx, hb, hr, hml, hown, hts, hlocks, hK, hA, hE⟩ := id X0
  intro H locs hP hD hS ls hl
  unfold F_X10_hitsOf_22 at h
  refine lv_istore (lv' := [(4, .int t0), (0, .ref a_p1), (2, .int y2), (3, .int y3)]) hx hb dX10_hitsOf_22 hl (by decide) rfl (fun ls hl => ?_)
  refine lv_aload_n hx hb dX10_hitsOf_24 rfl (lv_at hl 1 rfl) ?_
  refine lv_iload_n hx hb dX10_hitsOf_25 rfl (lv_at hl 3 rfl) ?_
  obtain ⟨u1, hc2, h⟩ := bd_o h
  refine jn_i (wr := [(a_p1_song, .inl (ca 0, 8, .inl c_p1_song))]) (ws' := [(a_p1, .inr (3, [.ref a_p1_water, .ref a_p1_need, .ref a_p1_dew, .ref a_p1_drops, .ref a_p1_song, .int f_p1_terraces, .int f_p1_days, .int f_p1_law, .int f_p1_slip, .int f_p1_songLength])), (a_p1_song, .inl (ca 0, 8, .inl c_p1_song))]) (va_runV (As := [.int y3]) (rest := []) ⟨hx, hb, hml, hown, hts⟩ (c_X3_nextTo l G ca ad av H.size a_p1 a_p1_water a_p1_need a_p1_dew a_p1_drops a_p1_song f_p1_days f_p1_law f_p1_slip f_p1_songLength f_p1_terraces y3 u1 hc2) (cwV 1 hts gX10_hitsOf_X3_nextTo rfl rfl rfl (by decide +kernel) ⟨Nat.le_of_ble_eq_true rfl, Nat.le_of_ble_eq_true rfl⟩) (pre_v (q0 := 0) (ci := 3) hK hE hA hP hD hS [0] rfl (by decide) rfl rfl) rfl rfl hl.1 rfl (lv_room (Nat.le_of_ble_eq_true rfl)) dX10_hitsOf_26 ⟨Nat.le_of_ble_eq_true rfl, Nat.le_of_ble_eq_true rfl⟩) hA hP hD hS [0] [1] [1, 0] rfl rfl (by decide) (by decide) (by decide) rfl (fun H locs hP hD hS => ?_)
  refine lv_iload_n hx hb dX10_hitsOf_29 rfl (lv_at hl 2 rfl) ?_
  refine lv_icmp_ne (tgt := 43) hx hb dX10_hitsOf_30 (by decide) (fun b3 => ?_) (fun b3 => ?_)
  · have h := (if_neg b3).symm.trans h
    refine lv_iload hx hb dX10_hitsOf_43 (lv_at hl 0 rfl) ?_
    have h := sm_i h
    subst h
    exact W.iret (v := t0) hx hb hr (fun t ht hW => ⟨⟨t0, (), rfl, rfl, by rw [ht]; exact hP, hD⟩, hS.F ht⟩) hS.2.2 dX10_hitsOf_45
  · have h := (if_pos b3).symm.trans h
    refine lv_iload hx hb dX10_hitsOf_33 (lv_at hl 0 rfl) ?_
    refine lv_aload_n hx hb dX10_hitsOf_35 rfl (lv_at hl 1 rfl) ?_
    refine va_getN (D := G) (ci := 3) (v := .int f_p1_slip) (C := RX3) (T := TX3) (N := 10) hx hb hts i_X10_hitsOf_X3 hown hK hP 0 rfl rfl 8 (by decide) (va_Nw.use rfl (hE.1 _ k_X10_hitsOf_0)) (fun _ h9 => h9) rfl dX10_hitsOf_36 ?_
    refine lv_iadd hx hb dX10_hitsOf_39 ?_
    refine lv_goto (tgt := 45) hx hb dX10_hitsOf_40 (by decide) ?_
    have h := sm_i h
    subst h
    exact W.iret (v := (t0 + f_p1_slip)) hx hb hr (fun t ht hW => ⟨⟨(t0 + f_p1_slip), (), rfl, rfl, by rw [ht]; exact hP, hD⟩, hS.F ht⟩) hS.2.2 dX10_hitsOf_45
def F_X10_hitsOf (c_p1_song : Nat → Int32) (f_p1_terraces : Int32) (f_p1_slip : Int32) (f_p1_songLength : Int32) (x2 : Int32) (x3 : Int32) : Option (Int32) := (F_X3_sung c_p1_song f_p1_songLength x2).bind (fun u4 => if u4 = x3 then (F_X10_hitsOf_22 c_p1_song f_p1_terraces f_p1_slip f_p1_songLength x3 u4 ((10 : Int32) - f_p1_slip)) else (F_X10_hitsOf_22 c_p1_song f_p1_terraces f_p1_slip f_p1_songLength x3 u4 (0 : Int32)))
set_option maxHeartbeats 4000000 in
set_option maxRecDepth 100000 in
theorem w_X10_hitsOf_0 {p : Program} {l : Launch} {e : Env} {s : State} {m : MethodId} {args : Array Value} {below : List Frame} {meth : Method} {c : Code} {G : va_G} {ca : Nat → ClassId} {ad av : Nat → Nat} {A : Nat → Prop} (X0 : CX_ p s m args meth c cX10_hitsOf 5 (some .int) wsX10_hitsOf RX10 G ca ad av A) (a_p1 : Nat) (a_p1_song : Nat) (a_p1_water : Nat) (a_p1_need : Nat) (a_p1_dew : Nat) (a_p1_drops : Nat) (f_p1_days : Int32) (f_p1_law : Int32) (c_p1_song : Nat → Int32) (f_p1_terraces : Int32) (f_p1_slip : Int32) (f_p1_songLength : Int32) (res : Int32) (x2 : Int32) (x3 : Int32) (h : F_X10_hitsOf c_p1_song f_p1_terraces f_p1_slip f_p1_songLength x2 x3 = some res) : ∀ (H : Heap) (locs : List Loc), va_P G vwCl [(a_p1, .inr (3, [.ref a_p1_water, .ref a_p1_need, .ref a_p1_dew, .ref a_p1_drops, .ref a_p1_song, .int f_p1_terraces, .int f_p1_days, .int f_p1_law, .int f_p1_slip, .int f_p1_songLength])), (a_p1_song, .inl (ca 0, 8, .inl c_p1_song))] H → va_D A [(a_p1, .inr (3, [.ref a_p1_water, .ref a_p1_need, .ref a_p1_dew, .ref a_p1_drops, .ref a_p1_song, .int f_p1_terraces, .int f_p1_days, .int f_p1_law, .int f_p1_slip, .int f_p1_songLength])), (a_p1_song, .inl (ca 0, 8, .inl c_p1_song))] → va_S A s.heap H locs → ∀ (ls : Array Slot), lv_has ls 5 [(0, .ref a_p1), (1, .int x2), (2, .int x3)] → W p l e RM_X10_hitsOf s m args below meth c H locs 0 0 (MQ below (QI_ G A res [(a_p1, .inr (3, [.ref a_p1_water, .ref a_p1_need, .ref a_p1_dew, .ref a_p1_drops, .ref a_p1_song, .int f_p1_terraces, .int f_p1_days, .int f_p1_law, .int f_p1_slip, .int f_p1_songLength])), (a_p1_song, .inl (ca 0, 8, .inl c_p1_song))]) args s 0 0 A) (F0 m 0 ls []) := by
  obtain ⟨hx, hb, hr, hml, hown, hts, hlocks, hK, hA, hE⟩ := id X0
  intro H locs hP hD hS ls hl
  unfold F_X10_hitsOf at h
  refine lv_aload_n hx hb dX10_hitsOf_0 rfl (lv_at hl 0 rfl) ?_
  refine lv_iload_n hx hb dX10_hitsOf_1 rfl (lv_at hl 1 rfl) ?_
  obtain ⟨u4, hc5, h⟩ := bd_o h
  refine jn_i (wr := []) (ws' := [(a_p1, .inr (3, [.ref a_p1_water, .ref a_p1_need, .ref a_p1_dew, .ref a_p1_drops, .ref a_p1_song, .int f_p1_terraces, .int f_p1_days, .int f_p1_law, .int f_p1_slip, .int f_p1_songLength])), (a_p1_song, .inl (ca 0, 8, .inl c_p1_song))]) (va_runV (As := [.int x2]) (rest := []) ⟨hx, hb, hml, hown, hts⟩ (c_X3_sung l G ca ad av H.size a_p1 a_p1_song a_p1_water a_p1_need a_p1_dew a_p1_drops f_p1_terraces f_p1_days f_p1_law f_p1_slip c_p1_song f_p1_songLength x2 u4 hc5) (cwV 1 hts gX10_hitsOf_X3_sung rfl rfl rfl (by decide +kernel) ⟨Nat.le_of_ble_eq_true rfl, Nat.le_of_ble_eq_true rfl⟩) (pre_v (q0 := 0) (ci := 3) hK hE hA hP hD hS [0, 1] rfl (by decide) rfl rfl) rfl rfl hl.1 rfl (lv_room (Nat.le_of_ble_eq_true rfl)) dX10_hitsOf_2 ⟨Nat.le_of_ble_eq_true rfl, Nat.le_of_ble_eq_true rfl⟩) hA hP hD hS [0, 1] [] [0, 1] rfl rfl (by decide) (by decide) (by decide) rfl (fun H locs hP hD hS => ?_)
  refine lv_istore_n (lv' := [(3, .int u4), (0, .ref a_p1), (1, .int x2), (2, .int x3)]) hx hb dX10_hitsOf_5 rfl hl (by decide) rfl (fun ls hl => ?_)
  refine lv_iload_n hx hb dX10_hitsOf_6 rfl (lv_at hl 0 rfl) ?_
  refine lv_iload_n hx hb dX10_hitsOf_7 rfl (lv_at hl 3 rfl) ?_
  refine lv_icmp_ne (tgt := 21) hx hb dX10_hitsOf_8 (by decide) (fun b6 => ?_) (fun b6 => ?_)
  · have h := (if_neg b6).symm.trans h
    refine lv_iconst (v := 0) hx hb dX10_hitsOf_21 (by decide) ?_
    exact w_X10_hitsOf_22 X0 a_p1 a_p1_song a_p1_water a_p1_need a_p1_dew a_p1_drops f_p1_days f_p1_law c_p1_song f_p1_terraces f_p1_slip f_p1_songLength _ x3 u4 (0 : Int32) h H locs hP hD hS ls (lv_sub hl [1, 3, 0] rfl)
  · have h := (if_pos b6).symm.trans h
    refine lv_bipush (v := 10) hx hb dX10_hitsOf_11 (by decide) ?_
    refine lv_aload_n hx hb dX10_hitsOf_13 rfl (lv_at hl 1 rfl) ?_
    refine va_getN (D := G) (ci := 3) (v := .int f_p1_slip) (C := RX3) (T := TX3) (N := 10) hx hb hts i_X10_hitsOf_X3 hown hK hP 0 rfl rfl 8 (by decide) (va_Nw.use rfl (hE.1 _ k_X10_hitsOf_0)) (fun _ h9 => h9) rfl dX10_hitsOf_14 ?_
    refine lv_isub hx hb dX10_hitsOf_17 ?_
    refine lv_goto (tgt := 22) hx hb dX10_hitsOf_18 (by decide) ?_
    exact w_X10_hitsOf_22 X0 a_p1 a_p1_song a_p1_water a_p1_need a_p1_dew a_p1_drops f_p1_days f_p1_law c_p1_song f_p1_terraces f_p1_slip f_p1_songLength _ x3 u4 ((10 : Int32) - f_p1_slip) h H locs hP hD hS ls (lv_sub hl [1, 3, 0] rfl)
set_option maxHeartbeats 4000000 in
set_option maxRecDepth 100000 in
theorem c_X10_hitsOf (l : Launch) (G : va_G) (ca : Nat → ClassId) (ad av : Nat → Nat) (sz : Nat) (a_p1 : Nat) (a_p1_song : Nat) (a_p1_water : Nat) (a_p1_need : Nat) (a_p1_dew : Nat) (a_p1_drops : Nat) (f_p1_days : Int32) (f_p1_law : Int32) (c_p1_song : Nat → Int32) (f_p1_terraces : Int32) (f_p1_slip : Int32) (f_p1_songLength : Int32) (x2 : Int32) (x3 : Int32) (res : Int32) (h : F_X10_hitsOf c_p1_song f_p1_terraces f_p1_slip f_p1_songLength x2 x3 = some res) : Met l yX10_hitsOf wsX10_hitsOf RM_X10_hitsOf (va_Pc [.ref a_p1, .int x2, .int x3] (PW_ G ca ad av sz [(a_p1, .inr (3, [.ref a_p1_water, .ref a_p1_need, .ref a_p1_dew, .ref a_p1_drops, .ref a_p1_song, .int f_p1_terraces, .int f_p1_days, .int f_p1_law, .int f_p1_slip, .int f_p1_songLength])), (a_p1_song, .inl (ca 0, 8, .inl c_p1_song))])) (QI_ G (va_A [(a_p1, .inr (3, [.ref a_p1_water, .ref a_p1_need, .ref a_p1_dew, .ref a_p1_drops, .ref a_p1_song, .int f_p1_terraces, .int f_p1_days, .int f_p1_law, .int f_p1_slip, .int f_p1_songLength])), (a_p1_song, .inl (ca 0, 8, .inl c_p1_song))] sz) res [(a_p1, .inr (3, [.ref a_p1_water, .ref a_p1_need, .ref a_p1_dew, .ref a_p1_drops, .ref a_p1_song, .int f_p1_terraces, .int f_p1_days, .int f_p1_law, .int f_p1_slip, .int f_p1_songLength])), (a_p1_song, .inl (ca 0, 8, .inl c_p1_song))]) 0 0 (va_A [(a_p1, .inr (3, [.ref a_p1_water, .ref a_p1_need, .ref a_p1_dew, .ref a_p1_drops, .ref a_p1_song, .int f_p1_terraces, .int f_p1_days, .int f_p1_law, .int f_p1_slip, .int f_p1_songLength])), (a_p1_song, .inl (ca 0, 8, .inl c_p1_song))] sz) := by
  refine Met.ofW (cc := cX10_hitsOf) (maxL := 5) (ret := (some .int)) (by decide) rfl ?_
  intro p e s m args below meth c s₁ B hml hv
  obtain ⟨X0, rfl, rfl, hP, hD⟩ := en_t B hml hv
  have hl := lv_entry ([.ref a_p1, .int x2, .int x3]) (n := 5) (Nat.le_of_ble_eq_true rfl)
  rw [lg_entry_eq]
  generalize (lg_sl ([.ref a_p1, .int x2, .int x3]) ++ List.replicate (5 - (lg_sl ([.ref a_p1, .int x2, .int x3])).length) Slot.unset).toArray = ls at hl ⊢
  exact w_X10_hitsOf_0 X0 a_p1 a_p1_song a_p1_water a_p1_need a_p1_dew a_p1_drops f_p1_days f_p1_law c_p1_song f_p1_terraces f_p1_slip f_p1_songLength _ x2 x3 h s.heap [] hP hD va_S.rf ls hl

/-! X10_addDrop -/
abbrev RM_X10_addDrop : Room := { frames := 0, cells := 0, slots := 0, locals := 0 }
theorem k_X10_addDrop_0 : Cond.fieldLink RX10 9 "DropDealers$SongOdds" "ways" "[J" ∈ wsX10_addDrop := by decide +kernel
theorem i_X10_addDrop_X10 : ∀ w ∈ u_ws RX10 TX10 1, w ∈ wsX10_addDrop := by decide +kernel
theorem k_X10_addDrop_2 : Cond.constantLong RX10 15 (10) ∈ wsX10_addDrop := by decide +kernel
def F_X10_addDrop_5  : Nat → (Nat → Int64) → Int64 → Int32 → Option ((Nat → Int64))
  | 0, _, _, _ => none
  | n + 1, c_t_ways, y2, y4 => if y4 ≤ 0 then (if ok_I (0 : Int32) 13 = true then some ((vp_updL c_t_ways (0 : Int32).toNatClampNeg ((c_t_ways (0 : Int32).toNatClampNeg) * ((10 : Int64) - y2)))) else none) else (if ok_I y4 13 = true then if ok_I (y4 - (1 : Int32)) 13 = true then F_X10_addDrop_5  n (vp_updL c_t_ways y4.toNatClampNeg (((c_t_ways y4.toNatClampNeg) * ((10 : Int64) - y2)) + ((c_t_ways (y4 - (1 : Int32)).toNatClampNeg) * y2))) y2 (y4 + (-1 : Int32)) else none else none)
set_option maxHeartbeats 4000000 in
set_option maxRecDepth 100000 in
theorem w_X10_addDrop_5 {p : Program} {l : Launch} {e : Env} {s : State} {m : MethodId} {args : Array Value} {below : List Frame} {meth : Method} {c : Code} {G : va_G} {ca : Nat → ClassId} {ad av : Nat → Nat} {A : Nat → Prop} (X0 : CX_ p s m args meth c cX10_addDrop 5 none wsX10_addDrop RX10 G ca ad av A) (a_t : Nat) (a_t_ways : Nat)   (res : (Nat → Int64)) : ∀ (n : Nat) (c_t_ways : Nat → Int64) (y2 : Int64) (y4 : Int32), F_X10_addDrop_5  n c_t_ways y2 y4 = some res → ∀ (H : Heap) (locs : List Loc), va_P G vwCl [(a_t, .inr (10, [.ref a_t_ways])), (a_t_ways, .inl (ca 1, 13, .inr (.inl c_t_ways)))] H → va_D A [(a_t, .inr (10, [.ref a_t_ways])), (a_t_ways, .inl (ca 1, 13, .inr (.inl c_t_ways)))] → va_S A s.heap H locs → ∀ (ls : Array Slot), lv_has ls 5 [(0, .ref a_t), (2, .long y2), (4, .int y4)] → W p l e RM_X10_addDrop s m args below meth c H locs 0 0 (MQ below (QV_ G A [(a_t, .inr (10, [.ref a_t_ways])), (a_t_ways, .inl (ca 1, 13, .inr (.inl res)))]) args s 0 0 A) (F0 m 5 ls []) := by
  obtain ⟨hx, hb, hr, hml, hown, hts, hlocks, hK, hA, hE⟩ := id X0
  intro n
  induction n with
  | zero => intro c_t_ways y2 y4 h; cases h
  | succ n ih =>
    intro c_t_ways y2 y4 h H locs hP hD hS ls hl
    rw [F_X10_addDrop_5] at h
    refine lv_iload hx hb dX10_addDrop_5 (lv_at hl 2 rfl) ?_
    refine lv_if_le (tgt := 48) hx hb dX10_addDrop_7 (by decide) (fun b1 => ?_) (fun b1 => ?_)
    · have h := (if_pos b1).symm.trans h
      refine lv_aload_n hx hb dX10_addDrop_48 rfl (lv_at hl 0 rfl) ?_
      refine va_get (D := G) (ci := 10) (v := .ref a_t_ways) (C := RX10) (T := TX10) (N := 1) hx hb hts i_X10_addDrop_X10 hown hK hP 0 rfl rfl 0 (by decide) (hts _ k_X10_addDrop_0) (fun _ h9 => h9) rfl dX10_addDrop_49 ?_
      refine lv_iconst (v := 0) hx hb dX10_addDrop_52 (by decide) ?_
      refine lv_dup2_11 hx hb dX10_addDrop_53 rfl rfl ?_
      obtain ⟨g2, h⟩ := gd_t h
      refine va_lald hx hb hK hP 1 1 rfl rfl (ok_in g2) dX10_addDrop_54 ?_
      refine lv_ldc2 (v := 10) hx hb hown (hts _ k_X10_addDrop_2) dX10_addDrop_55 ?_
      refine lv_lload_n hx hb dX10_addDrop_58 rfl (lv_at hl 1 rfl) ?_
      refine lv_lsub hx hb dX10_addDrop_59 ?_
      refine lv_lmul hx hb dX10_addDrop_60 ?_
      refine va_last hx hb hK hP hD hS 1 1 rfl rfl (ok_in g2) dX10_addDrop_61 (fun H locs hP hD hS => ?_)
      have hP : va_P G vwCl [(a_t, .inr (10, [.ref a_t_ways])), (a_t_ways, .inl (ca 1, 13, .inr (.inl (vp_updL c_t_ways (0 : Int32).toNatClampNeg ((c_t_ways (0 : Int32).toNatClampNeg) * ((10 : Int64) - y2))))))] H := hP
      have hD : va_D A [(a_t, .inr (10, [.ref a_t_ways])), (a_t_ways, .inl (ca 1, 13, .inr (.inl (vp_updL c_t_ways (0 : Int32).toNatClampNeg ((c_t_ways (0 : Int32).toNatClampNeg) * ((10 : Int64) - y2))))))] := hD
      have h := sm_i h
      subst h
      exact W.vret hx hb hr (fun t ht hW => ⟨⟨(), rfl, trivial, by rw [ht]; exact hP, hD⟩, hS.F ht⟩) hS.2.2 dX10_addDrop_62
    · have h := (if_neg b1).symm.trans h
      refine lv_aload_n hx hb dX10_addDrop_10 rfl (lv_at hl 0 rfl) ?_
      refine va_get (D := G) (ci := 10) (v := .ref a_t_ways) (C := RX10) (T := TX10) (N := 1) hx hb hts i_X10_addDrop_X10 hown hK hP 0 rfl rfl 0 (by decide) (hts _ k_X10_addDrop_0) (fun _ h9 => h9) rfl dX10_addDrop_11 ?_
      refine lv_iload hx hb dX10_addDrop_14 (lv_at hl 2 rfl) ?_
      refine lv_aload_n hx hb dX10_addDrop_16 rfl (lv_at hl 0 rfl) ?_
      refine va_get (D := G) (ci := 10) (v := .ref a_t_ways) (C := RX10) (T := TX10) (N := 1) hx hb hts i_X10_addDrop_X10 hown hK hP 0 rfl rfl 0 (by decide) (hts _ k_X10_addDrop_0) (fun _ h9 => h9) rfl dX10_addDrop_17 ?_
      refine lv_iload hx hb dX10_addDrop_20 (lv_at hl 2 rfl) ?_
      obtain ⟨g3, h⟩ := gd_t h
      refine va_lald hx hb hK hP 1 1 rfl rfl (ok_in g3) dX10_addDrop_22 ?_
      refine lv_ldc2 (v := 10) hx hb hown (hts _ k_X10_addDrop_2) dX10_addDrop_23 ?_
      refine lv_lload_n hx hb dX10_addDrop_26 rfl (lv_at hl 1 rfl) ?_
      refine lv_lsub hx hb dX10_addDrop_27 ?_
      refine lv_lmul hx hb dX10_addDrop_28 ?_
      refine lv_aload_n hx hb dX10_addDrop_29 rfl (lv_at hl 0 rfl) ?_
      refine va_get (D := G) (ci := 10) (v := .ref a_t_ways) (C := RX10) (T := TX10) (N := 1) hx hb hts i_X10_addDrop_X10 hown hK hP 0 rfl rfl 0 (by decide) (hts _ k_X10_addDrop_0) (fun _ h9 => h9) rfl dX10_addDrop_30 ?_
      refine lv_iload hx hb dX10_addDrop_33 (lv_at hl 2 rfl) ?_
      refine lv_iconst (v := 1) hx hb dX10_addDrop_35 (by decide) ?_
      refine lv_isub hx hb dX10_addDrop_36 ?_
      obtain ⟨g4, h⟩ := gd_t h
      refine va_lald hx hb hK hP 1 1 rfl rfl (ok_in g4) dX10_addDrop_37 ?_
      refine lv_lload_n hx hb dX10_addDrop_38 rfl (lv_at hl 1 rfl) ?_
      refine lv_lmul hx hb dX10_addDrop_39 ?_
      refine lv_ladd hx hb dX10_addDrop_40 ?_
      refine va_last hx hb hK hP hD hS 1 1 rfl rfl (ok_in g3) dX10_addDrop_41 (fun H locs hP hD hS => ?_)
      have hP : va_P G vwCl [(a_t, .inr (10, [.ref a_t_ways])), (a_t_ways, .inl (ca 1, 13, .inr (.inl (vp_updL c_t_ways y4.toNatClampNeg (((c_t_ways y4.toNatClampNeg) * ((10 : Int64) - y2)) + ((c_t_ways (y4 - (1 : Int32)).toNatClampNeg) * y2))))))] H := hP
      have hD : va_D A [(a_t, .inr (10, [.ref a_t_ways])), (a_t_ways, .inl (ca 1, 13, .inr (.inl (vp_updL c_t_ways y4.toNatClampNeg (((c_t_ways y4.toNatClampNeg) * ((10 : Int64) - y2)) + ((c_t_ways (y4 - (1 : Int32)).toNatClampNeg) * y2))))))] := hD
      refine lv_iinc (v := (y4 + (-1 : Int32))) (lv' := [(4, .int (y4 + (-1 : Int32))), (0, .ref a_t), (2, .long y2)]) hx hb dX10_addDrop_42 hl (k := 2) rfl rfl (by decide) rfl (fun ls hl => ?_)
      refine lv_goto (tgt := 5) hx hb dX10_addDrop_45 (by decide) ?_
      exact ih (vp_updL c_t_ways y4.toNatClampNeg (((c_t_ways y4.toNatClampNeg) * ((10 : Int64) - y2)) + ((c_t_ways (y4 - (1 : Int32)).toNatClampNeg) * y2))) y2 (y4 + (-1 : Int32)) h H locs hP hD hS ls (lv_sub hl [1, 2, 0] rfl)
def F_X10_addDrop  (c_t_ways : Nat → Int64) (x1 : Int32) (x2 : Int64) : Option ((Nat → Int64)) := F_X10_addDrop_5  FU_ c_t_ways x2 (x1 + (1 : Int32))
set_option maxHeartbeats 4000000 in
set_option maxRecDepth 100000 in
theorem w_X10_addDrop_0 {p : Program} {l : Launch} {e : Env} {s : State} {m : MethodId} {args : Array Value} {below : List Frame} {meth : Method} {c : Code} {G : va_G} {ca : Nat → ClassId} {ad av : Nat → Nat} {A : Nat → Prop} (X0 : CX_ p s m args meth c cX10_addDrop 5 none wsX10_addDrop RX10 G ca ad av A) (a_t : Nat) (a_t_ways : Nat)   (res : (Nat → Int64)) (c_t_ways : Nat → Int64) (x1 : Int32) (x2 : Int64) (h : F_X10_addDrop  c_t_ways x1 x2 = some res) : ∀ (H : Heap) (locs : List Loc), va_P G vwCl [(a_t, .inr (10, [.ref a_t_ways])), (a_t_ways, .inl (ca 1, 13, .inr (.inl c_t_ways)))] H → va_D A [(a_t, .inr (10, [.ref a_t_ways])), (a_t_ways, .inl (ca 1, 13, .inr (.inl c_t_ways)))] → va_S A s.heap H locs → ∀ (ls : Array Slot), lv_has ls 5 [(0, .ref a_t), (1, .int x1), (2, .long x2)] → W p l e RM_X10_addDrop s m args below meth c H locs 0 0 (MQ below (QV_ G A [(a_t, .inr (10, [.ref a_t_ways])), (a_t_ways, .inl (ca 1, 13, .inr (.inl res)))]) args s 0 0 A) (F0 m 0 ls []) := by
  obtain ⟨hx, hb, hr, hml, hown, hts, hlocks, hK, hA, hE⟩ := id X0
  intro H locs hP hD hS ls hl
  unfold F_X10_addDrop at h
  refine lv_iload_n hx hb dX10_addDrop_0 rfl (lv_at hl 1 rfl) ?_
  refine lv_iconst (v := 1) hx hb dX10_addDrop_1 (by decide) ?_
  refine lv_iadd hx hb dX10_addDrop_2 ?_
  refine lv_istore (lv' := [(4, .int (x1 + (1 : Int32))), (0, .ref a_t), (1, .int x1), (2, .long x2)]) hx hb dX10_addDrop_3 hl (by decide) rfl (fun ls hl => ?_)
  exact w_X10_addDrop_5 X0 a_t a_t_ways   _ FU_ c_t_ways x2 (x1 + (1 : Int32)) h H locs hP hD hS ls (lv_sub hl [1, 3, 0] rfl)
set_option maxHeartbeats 4000000 in
set_option maxRecDepth 100000 in
theorem c_X10_addDrop (l : Launch) (G : va_G) (ca : Nat → ClassId) (ad av : Nat → Nat) (sz : Nat) (a_t : Nat) (a_t_ways : Nat)   (c_t_ways : Nat → Int64) (x1 : Int32) (x2 : Int64) (res : (Nat → Int64)) (h : F_X10_addDrop  c_t_ways x1 x2 = some res) : Met l yX10_addDrop wsX10_addDrop RM_X10_addDrop (va_Pc [.ref a_t, .int x1, .long x2] (PW_ G ca ad av sz [(a_t, .inr (10, [.ref a_t_ways])), (a_t_ways, .inl (ca 1, 13, .inr (.inl c_t_ways)))])) (QV_ G (va_A [(a_t, .inr (10, [.ref a_t_ways])), (a_t_ways, .inl (ca 1, 13, .inr (.inl c_t_ways)))] sz) [(a_t, .inr (10, [.ref a_t_ways])), (a_t_ways, .inl (ca 1, 13, .inr (.inl res)))]) 0 0 (va_A [(a_t, .inr (10, [.ref a_t_ways])), (a_t_ways, .inl (ca 1, 13, .inr (.inl c_t_ways)))] sz) := by
  refine Met.ofW (cc := cX10_addDrop) (maxL := 5) (ret := none) (by decide) rfl ?_
  intro p e s m args below meth c s₁ B hml hv
  obtain ⟨X0, rfl, rfl, hP, hD⟩ := en_t B hml hv
  have hl := lv_entry ([.ref a_t, .int x1, .long x2]) (n := 5) (Nat.le_of_ble_eq_true rfl)
  rw [lg_entry_eq]
  generalize (lg_sl ([.ref a_t, .int x1, .long x2]) ++ List.replicate (5 - (lg_sl ([.ref a_t, .int x1, .long x2])).length) Slot.unset).toArray = ls at hl ⊢
  exact w_X10_addDrop_0 X0 a_t a_t_ways   _ c_t_ways x1 x2 h s.heap [] hP hD va_S.rf ls hl

/-! X10_waysToGet -/
abbrev RM_X10_waysToGet : Room := { frames := 2, cells := 0, slots := 0, locals := 45 }
theorem k_X10_waysToGet_0 : Cond.fieldLink RX10 9 "DropDealers$SongOdds" "ways" "[J" ∈ wsX10_waysToGet := by decide +kernel
theorem i_X10_waysToGet_X10 : ∀ w ∈ u_ws RX10 TX10 1, w ∈ wsX10_waysToGet := by decide +kernel
def F_X10_waysToGet_37 (c_p1_song : Nat → Int32) (f_p1_terraces : Int32) (f_p1_slip : Int32) (f_p1_songLength : Int32) : Nat → (Nat → Int64) → Int32 → Int32 → Int32 → Int32 → Int32 → Option (Int64 × (Nat → Int64))
  | 0, _, _, _, _, _, _ => none
  | n + 1, c_t_ways, y2, y3, y4, y5, y6 => if y3 ≤ y6 then (if ok_I y5 13 = true then some ((c_t_ways y5.toNatClampNeg), c_t_ways) else none) else ((F_X10_hitsOf c_p1_song f_p1_terraces f_p1_slip f_p1_songLength (y2 + y6) y4).bind (fun u3 => (F_X10_addDrop c_t_ways y6 u3.toInt64).bind (fun u5 => F_X10_waysToGet_37 c_p1_song f_p1_terraces f_p1_slip f_p1_songLength n u5 y2 y3 y4 y5 (y6 + (1 : Int32)))))
set_option maxHeartbeats 4000000 in
set_option maxRecDepth 100000 in
theorem w_X10_waysToGet_37 {p : Program} {l : Launch} {e : Env} {s : State} {m : MethodId} {args : Array Value} {below : List Frame} {meth : Method} {c : Code} {G : va_G} {ca : Nat → ClassId} {ad av : Nat → Nat} {A : Nat → Prop} (X0 : CX_ p s m args meth c cX10_waysToGet 7 (some .long) wsX10_waysToGet RX10 G ca ad av A) (a_t : Nat) (a_t_ways : Nat) (a_p1 : Nat) (a_p1_song : Nat) (a_p1_water : Nat) (a_p1_need : Nat) (a_p1_dew : Nat) (a_p1_drops : Nat) (f_p1_days : Int32) (f_p1_law : Int32) (c_p1_song : Nat → Int32) (f_p1_terraces : Int32) (f_p1_slip : Int32) (f_p1_songLength : Int32) (res : Int64 × (Nat → Int64)) : ∀ (n : Nat) (c_t_ways : Nat → Int64) (y2 : Int32) (y3 : Int32) (y4 : Int32) (y5 : Int32) (y6 : Int32), F_X10_waysToGet_37 c_p1_song f_p1_terraces f_p1_slip f_p1_songLength n c_t_ways y2 y3 y4 y5 y6 = some res → ∀ (H : Heap) (locs : List Loc), va_P G vwCl [(a_t, .inr (10, [.ref a_t_ways])), (a_t_ways, .inl (ca 1, 13, .inr (.inl c_t_ways))), (a_p1, .inr (3, [.ref a_p1_water, .ref a_p1_need, .ref a_p1_dew, .ref a_p1_drops, .ref a_p1_song, .int f_p1_terraces, .int f_p1_days, .int f_p1_law, .int f_p1_slip, .int f_p1_songLength])), (a_p1_song, .inl (ca 0, 8, .inl c_p1_song))] H → va_D A [(a_t, .inr (10, [.ref a_t_ways])), (a_t_ways, .inl (ca 1, 13, .inr (.inl c_t_ways))), (a_p1, .inr (3, [.ref a_p1_water, .ref a_p1_need, .ref a_p1_dew, .ref a_p1_drops, .ref a_p1_song, .int f_p1_terraces, .int f_p1_days, .int f_p1_law, .int f_p1_slip, .int f_p1_songLength])), (a_p1_song, .inl (ca 0, 8, .inl c_p1_song))] → va_S A s.heap H locs → ∀ (ls : Array Slot), lv_has ls 7 [(0, .ref a_t), (1, .ref a_p1), (2, .int y2), (3, .int y3), (4, .int y4), (5, .int y5), (6, .int y6)] → W p l e RM_X10_waysToGet s m args below meth c H locs 0 0 (MQ below (QL_ G A res.1 [(a_t, .inr (10, [.ref a_t_ways])), (a_t_ways, .inl (ca 1, 13, .inr (.inl res.2))), (a_p1, .inr (3, [.ref a_p1_water, .ref a_p1_need, .ref a_p1_dew, .ref a_p1_drops, .ref a_p1_song, .int f_p1_terraces, .int f_p1_days, .int f_p1_law, .int f_p1_slip, .int f_p1_songLength])), (a_p1_song, .inl (ca 0, 8, .inl c_p1_song))]) args s 0 0 A) (F0 m 37 ls []) := by
  obtain ⟨hx, hb, hr, hml, hown, hts, hlocks, hK, hA, hE⟩ := id X0
  intro n
  induction n with
  | zero => intro c_t_ways y2 y3 y4 y5 y6 h; cases h
  | succ n ih =>
    intro c_t_ways y2 y3 y4 y5 y6 h H locs hP hD hS ls hl
    rw [F_X10_waysToGet_37] at h
    refine lv_iload hx hb dX10_waysToGet_37 (lv_at hl 6 rfl) ?_
    refine lv_iload_n hx hb dX10_waysToGet_39 rfl (lv_at hl 3 rfl) ?_
    refine lv_icmp_ge (tgt := 66) hx hb dX10_waysToGet_40 (by decide) (fun b1 => ?_) (fun b1 => ?_)
    · have h := (if_pos b1).symm.trans h
      refine lv_aload_n hx hb dX10_waysToGet_66 rfl (lv_at hl 0 rfl) ?_
      refine va_get (D := G) (ci := 10) (v := .ref a_t_ways) (C := RX10) (T := TX10) (N := 1) hx hb hts i_X10_waysToGet_X10 hown hK hP 0 rfl rfl 0 (by decide) (hts _ k_X10_waysToGet_0) (fun _ h9 => h9) rfl dX10_waysToGet_67 ?_
      refine lv_iload hx hb dX10_waysToGet_70 (lv_at hl 5 rfl) ?_
      obtain ⟨g2, h⟩ := gd_t h
      refine va_lald hx hb hK hP 1 1 rfl rfl (ok_in g2) dX10_waysToGet_72 ?_
      have h := sm_i h
      subst h
      exact W.lret (v := (c_t_ways y5.toNatClampNeg)) hx hb hr (fun t ht hW => ⟨⟨(c_t_ways y5.toNatClampNeg), (), rfl, rfl, by rw [ht]; exact hP, hD⟩, hS.F ht⟩) hS.2.2 dX10_waysToGet_73
    · have h := (if_neg b1).symm.trans h
      refine lv_aload_n hx hb dX10_waysToGet_43 rfl (lv_at hl 0 rfl) ?_
      refine lv_iload hx hb dX10_waysToGet_44 (lv_at hl 6 rfl) ?_
      refine lv_aload_n hx hb dX10_waysToGet_46 rfl (lv_at hl 1 rfl) ?_
      refine lv_iload_n hx hb dX10_waysToGet_47 rfl (lv_at hl 2 rfl) ?_
      refine lv_iload hx hb dX10_waysToGet_48 (lv_at hl 6 rfl) ?_
      refine lv_iadd hx hb dX10_waysToGet_50 ?_
      refine lv_iload hx hb dX10_waysToGet_51 (lv_at hl 4 rfl) ?_
      obtain ⟨u3, hc4, h⟩ := bd_o h
      refine jn_i (wr := [(a_t, .inr (10, [.ref a_t_ways])), (a_t_ways, .inl (ca 1, 13, .inr (.inl c_t_ways)))]) (ws' := [(a_t, .inr (10, [.ref a_t_ways])), (a_t_ways, .inl (ca 1, 13, .inr (.inl c_t_ways))), (a_p1, .inr (3, [.ref a_p1_water, .ref a_p1_need, .ref a_p1_dew, .ref a_p1_drops, .ref a_p1_song, .int f_p1_terraces, .int f_p1_days, .int f_p1_law, .int f_p1_slip, .int f_p1_songLength])), (a_p1_song, .inl (ca 0, 8, .inl c_p1_song))]) (va_runS (As := [.ref a_p1, .int (y2 + y6), .int y4]) (rest := [.int y6, .ref a_t]) ⟨hx, hb, hml, hown, hts⟩ (c_X10_hitsOf l G ca ad av H.size a_p1 a_p1_song a_p1_water a_p1_need a_p1_dew a_p1_drops f_p1_days f_p1_law c_p1_song f_p1_terraces f_p1_slip f_p1_songLength (y2 + y6) y4 u3 hc4) (va_cwS 3 hts gX10_waysToGet_X10_hitsOf rfl rfl rfl (by decide +kernel) ⟨Nat.le_of_ble_eq_true rfl, Nat.le_of_ble_eq_true rfl⟩) (pre_s hK hE hA hP hD hS [2, 3] rfl (by decide)) rfl rfl hl.1 rfl (lv_room (Nat.le_of_ble_eq_true rfl)) dX10_waysToGet_53 ⟨Nat.le_of_ble_eq_true rfl, Nat.le_of_ble_eq_true rfl⟩) hA hP hD hS [2, 3] [0, 1] [0, 1, 2, 3] rfl rfl (by decide) (by decide) (by decide) rfl (fun H locs hP hD hS => ?_)
      refine lv_i2l hx hb dX10_waysToGet_56 rfl ?_
      obtain ⟨u5, hc6, h⟩ := bd_o h
      refine jn_v (wr := [(a_p1, .inr (3, [.ref a_p1_water, .ref a_p1_need, .ref a_p1_dew, .ref a_p1_drops, .ref a_p1_song, .int f_p1_terraces, .int f_p1_days, .int f_p1_law, .int f_p1_slip, .int f_p1_songLength])), (a_p1_song, .inl (ca 0, 8, .inl c_p1_song))]) (ws' := [(a_t, .inr (10, [.ref a_t_ways])), (a_t_ways, .inl (ca 1, 13, .inr (.inl u5))), (a_p1, .inr (3, [.ref a_p1_water, .ref a_p1_need, .ref a_p1_dew, .ref a_p1_drops, .ref a_p1_song, .int f_p1_terraces, .int f_p1_days, .int f_p1_law, .int f_p1_slip, .int f_p1_songLength])), (a_p1_song, .inl (ca 0, 8, .inl c_p1_song))]) (va_runV (As := [.int y6, .long u3.toInt64]) (rest := []) ⟨hx, hb, hml, hown, hts⟩ (c_X10_addDrop l G ca ad av H.size a_t a_t_ways c_t_ways y6 u3.toInt64 u5 hc6) (cwV 2 hts gX10_waysToGet_X10_addDrop rfl rfl rfl (by decide +kernel) ⟨Nat.le_of_ble_eq_true rfl, Nat.le_of_ble_eq_true rfl⟩) (pre_v (q0 := 0) (ci := 10) hK hE hA hP hD hS [0, 1] rfl (by decide) rfl rfl) rfl rfl hl.1 rfl (lv_room (Nat.le_of_ble_eq_true rfl)) dX10_waysToGet_57 ⟨Nat.le_of_ble_eq_true rfl, Nat.le_of_ble_eq_true rfl⟩) hA hP hD hS [0, 1] [2, 3] [2, 3, 0, 1] rfl rfl (by decide) (by decide) (by decide) rfl (fun H locs hP hD hS => ?_)
      refine lv_iinc (v := (y6 + (1 : Int32))) (lv' := [(6, .int (y6 + (1 : Int32))), (0, .ref a_t), (1, .ref a_p1), (2, .int y2), (3, .int y3), (4, .int y4), (5, .int y5)]) hx hb dX10_waysToGet_60 hl (k := 6) rfl rfl (by decide) rfl (fun ls hl => ?_)
      refine lv_goto (tgt := 37) hx hb dX10_waysToGet_63 (by decide) ?_
      exact ih u5 y2 y3 y4 y5 (y6 + (1 : Int32)) h H locs hP hD hS ls (lv_sub hl [1, 2, 3, 4, 5, 6, 0] rfl)
def F_X10_waysToGet (c_p1_song : Nat → Int32) (f_p1_terraces : Int32) (f_p1_slip : Int32) (f_p1_songLength : Int32) (c_t_ways : Nat → Int64) (x2 : Int32) (x3 : Int32) (x4 : Int32) (x5 : Int32) : Option (Int64 × (Nat → Int64)) := if (12 : Int32) < x3 then (some ((0 : Int64), c_t_ways)) else (if x5 < 0 then (some ((0 : Int64), c_t_ways)) else (if x5 ≤ x3 then ((F_J7_fill_d0a16 c_t_ways (0 : Int64)).bind (fun u10 => if ok_I (0 : Int32) 13 = true then F_X10_waysToGet_37 c_p1_song f_p1_terraces f_p1_slip f_p1_songLength FU_ (vp_updL u10 (0 : Int32).toNatClampNeg (1 : Int64)) x2 x3 x4 x5 (0 : Int32) else none)) else (some ((0 : Int64), c_t_ways))))
set_option maxHeartbeats 4000000 in
set_option maxRecDepth 100000 in
theorem w_X10_waysToGet_0 {p : Program} {l : Launch} {e : Env} {s : State} {m : MethodId} {args : Array Value} {below : List Frame} {meth : Method} {c : Code} {G : va_G} {ca : Nat → ClassId} {ad av : Nat → Nat} {A : Nat → Prop} (X0 : CX_ p s m args meth c cX10_waysToGet 7 (some .long) wsX10_waysToGet RX10 G ca ad av A) (a_t : Nat) (a_t_ways : Nat) (a_p1 : Nat) (a_p1_song : Nat) (a_p1_water : Nat) (a_p1_need : Nat) (a_p1_dew : Nat) (a_p1_drops : Nat) (f_p1_days : Int32) (f_p1_law : Int32) (c_p1_song : Nat → Int32) (f_p1_terraces : Int32) (f_p1_slip : Int32) (f_p1_songLength : Int32) (res : Int64 × (Nat → Int64)) (c_t_ways : Nat → Int64) (x2 : Int32) (x3 : Int32) (x4 : Int32) (x5 : Int32) (h : F_X10_waysToGet c_p1_song f_p1_terraces f_p1_slip f_p1_songLength c_t_ways x2 x3 x4 x5 = some res) : ∀ (H : Heap) (locs : List Loc), va_P G vwCl [(a_t, .inr (10, [.ref a_t_ways])), (a_t_ways, .inl (ca 1, 13, .inr (.inl c_t_ways))), (a_p1, .inr (3, [.ref a_p1_water, .ref a_p1_need, .ref a_p1_dew, .ref a_p1_drops, .ref a_p1_song, .int f_p1_terraces, .int f_p1_days, .int f_p1_law, .int f_p1_slip, .int f_p1_songLength])), (a_p1_song, .inl (ca 0, 8, .inl c_p1_song))] H → va_D A [(a_t, .inr (10, [.ref a_t_ways])), (a_t_ways, .inl (ca 1, 13, .inr (.inl c_t_ways))), (a_p1, .inr (3, [.ref a_p1_water, .ref a_p1_need, .ref a_p1_dew, .ref a_p1_drops, .ref a_p1_song, .int f_p1_terraces, .int f_p1_days, .int f_p1_law, .int f_p1_slip, .int f_p1_songLength])), (a_p1_song, .inl (ca 0, 8, .inl c_p1_song))] → va_S A s.heap H locs → ∀ (ls : Array Slot), lv_has ls 7 [(0, .ref a_t), (1, .ref a_p1), (2, .int x2), (3, .int x3), (4, .int x4), (5, .int x5)] → W p l e RM_X10_waysToGet s m args below meth c H locs 0 0 (MQ below (QL_ G A res.1 [(a_t, .inr (10, [.ref a_t_ways])), (a_t_ways, .inl (ca 1, 13, .inr (.inl res.2))), (a_p1, .inr (3, [.ref a_p1_water, .ref a_p1_need, .ref a_p1_dew, .ref a_p1_drops, .ref a_p1_song, .int f_p1_terraces, .int f_p1_days, .int f_p1_law, .int f_p1_slip, .int f_p1_songLength])), (a_p1_song, .inl (ca 0, 8, .inl c_p1_song))]) args s 0 0 A) (F0 m 0 ls []) := by
  obtain ⟨hx, hb, hr, hml, hown, hts, hlocks, hK, hA, hE⟩ := id X0
  intro H locs hP hD hS ls hl
  unfold F_X10_waysToGet at h
  refine lv_iload_n hx hb dX10_waysToGet_0 rfl (lv_at hl 3 rfl) ?_
  refine lv_bipush (v := 12) hx hb dX10_waysToGet_1 (by decide) ?_
  refine lv_icmp_gt (tgt := 17) hx hb dX10_waysToGet_3 (by decide) (fun b7 => ?_) (fun b7 => ?_)
  · have h := (if_pos b7).symm.trans h
    refine lv_lconst (v := 0) hx hb dX10_waysToGet_17 (by decide) ?_
    have h := sm_i h
    subst h
    exact W.lret (v := (0 : Int64)) hx hb hr (fun t ht hW => ⟨⟨(0 : Int64), (), rfl, rfl, by rw [ht]; exact hP, hD⟩, hS.F ht⟩) hS.2.2 dX10_waysToGet_18
  · have h := (if_neg b7).symm.trans h
    refine lv_iload hx hb dX10_waysToGet_6 (lv_at hl 5 rfl) ?_
    refine lv_if_lt (tgt := 17) hx hb dX10_waysToGet_8 (by decide) (fun b8 => ?_) (fun b8 => ?_)
    · have h := (if_pos b8).symm.trans h
      refine lv_lconst (v := 0) hx hb dX10_waysToGet_17 (by decide) ?_
      have h := sm_i h
      subst h
      exact W.lret (v := (0 : Int64)) hx hb hr (fun t ht hW => ⟨⟨(0 : Int64), (), rfl, rfl, by rw [ht]; exact hP, hD⟩, hS.F ht⟩) hS.2.2 dX10_waysToGet_18
    · have h := (if_neg b8).symm.trans h
      refine lv_iload hx hb dX10_waysToGet_11 (lv_at hl 5 rfl) ?_
      refine lv_iload_n hx hb dX10_waysToGet_13 rfl (lv_at hl 3 rfl) ?_
      refine lv_icmp_le (tgt := 19) hx hb dX10_waysToGet_14 (by decide) (fun b9 => ?_) (fun b9 => ?_)
      · have h := (if_pos b9).symm.trans h
        refine lv_aload_n hx hb dX10_waysToGet_19 rfl (lv_at hl 0 rfl) ?_
        refine va_get (D := G) (ci := 10) (v := .ref a_t_ways) (C := RX10) (T := TX10) (N := 1) hx hb hts i_X10_waysToGet_X10 hown hK hP 0 rfl rfl 0 (by decide) (hts _ k_X10_waysToGet_0) (fun _ h9 => h9) rfl dX10_waysToGet_20 ?_
        refine lv_lconst (v := 0) hx hb dX10_waysToGet_23 (by decide) ?_
        obtain ⟨u10, hc11, h⟩ := bd_o h
        refine jn_v (wr := [(a_t, .inr (10, [.ref a_t_ways])), (a_p1, .inr (3, [.ref a_p1_water, .ref a_p1_need, .ref a_p1_dew, .ref a_p1_drops, .ref a_p1_song, .int f_p1_terraces, .int f_p1_days, .int f_p1_law, .int f_p1_slip, .int f_p1_songLength])), (a_p1_song, .inl (ca 0, 8, .inl c_p1_song))]) (ws' := [(a_t, .inr (10, [.ref a_t_ways])), (a_t_ways, .inl (ca 1, 13, .inr (.inl u10))), (a_p1, .inr (3, [.ref a_p1_water, .ref a_p1_need, .ref a_p1_dew, .ref a_p1_drops, .ref a_p1_song, .int f_p1_terraces, .int f_p1_days, .int f_p1_law, .int f_p1_slip, .int f_p1_songLength])), (a_p1_song, .inl (ca 0, 8, .inl c_p1_song))]) (va_runS (As := [.ref a_t_ways, .long (0 : Int64)]) (rest := []) ⟨hx, hb, hml, hown, hts⟩ (c_J7_fill_d0a16 l G ca ad av H.size a_t_ways c_t_ways (0 : Int64) u10 hc11) (va_cwS 2 hts gX10_waysToGet_J7_fill_d0a16 rfl rfl rfl (by decide +kernel) ⟨Nat.le_of_ble_eq_true rfl, Nat.le_of_ble_eq_true rfl⟩) (pre_s hK hE hA hP hD hS [1] rfl (by decide)) rfl rfl hl.1 rfl (lv_room (Nat.le_of_ble_eq_true rfl)) dX10_waysToGet_24 ⟨Nat.le_of_ble_eq_true rfl, Nat.le_of_ble_eq_true rfl⟩) hA hP hD hS [1] [0, 2, 3] [0, 3, 1, 2] rfl rfl (by decide) (by decide) (by decide) rfl (fun H locs hP hD hS => ?_)
        refine lv_aload_n hx hb dX10_waysToGet_27 rfl (lv_at hl 0 rfl) ?_
        refine va_get (D := G) (ci := 10) (v := .ref a_t_ways) (C := RX10) (T := TX10) (N := 1) hx hb hts i_X10_waysToGet_X10 hown hK hP 0 rfl rfl 0 (by decide) (hts _ k_X10_waysToGet_0) (fun _ h9 => h9) rfl dX10_waysToGet_28 ?_
        refine lv_iconst (v := 0) hx hb dX10_waysToGet_31 (by decide) ?_
        refine lv_lconst (v := 1) hx hb dX10_waysToGet_32 (by decide) ?_
        obtain ⟨g12, h⟩ := gd_t h
        refine va_last hx hb hK hP hD hS 1 1 rfl rfl (ok_in g12) dX10_waysToGet_33 (fun H locs hP hD hS => ?_)
        have hP : va_P G vwCl [(a_t, .inr (10, [.ref a_t_ways])), (a_t_ways, .inl (ca 1, 13, .inr (.inl (vp_updL u10 (0 : Int32).toNatClampNeg (1 : Int64))))), (a_p1, .inr (3, [.ref a_p1_water, .ref a_p1_need, .ref a_p1_dew, .ref a_p1_drops, .ref a_p1_song, .int f_p1_terraces, .int f_p1_days, .int f_p1_law, .int f_p1_slip, .int f_p1_songLength])), (a_p1_song, .inl (ca 0, 8, .inl c_p1_song))] H := hP
        have hD : va_D A [(a_t, .inr (10, [.ref a_t_ways])), (a_t_ways, .inl (ca 1, 13, .inr (.inl (vp_updL u10 (0 : Int32).toNatClampNeg (1 : Int64))))), (a_p1, .inr (3, [.ref a_p1_water, .ref a_p1_need, .ref a_p1_dew, .ref a_p1_drops, .ref a_p1_song, .int f_p1_terraces, .int f_p1_days, .int f_p1_law, .int f_p1_slip, .int f_p1_songLength])), (a_p1_song, .inl (ca 0, 8, .inl c_p1_song))] := hD
        refine lv_iconst (v := 0) hx hb dX10_waysToGet_34 (by decide) ?_
        refine lv_istore (lv' := [(6, .int (0 : Int32)), (0, .ref a_t), (1, .ref a_p1), (2, .int x2), (3, .int x3), (4, .int x4), (5, .int x5)]) hx hb dX10_waysToGet_35 hl (by decide) rfl (fun ls hl => ?_)
        exact w_X10_waysToGet_37 X0 a_t a_t_ways a_p1 a_p1_song a_p1_water a_p1_need a_p1_dew a_p1_drops f_p1_days f_p1_law c_p1_song f_p1_terraces f_p1_slip f_p1_songLength _ FU_ (vp_updL u10 (0 : Int32).toNatClampNeg (1 : Int64)) x2 x3 x4 x5 (0 : Int32) h H locs hP hD hS ls (lv_sub hl [1, 2, 3, 4, 5, 6, 0] rfl)
      · have h := (if_neg b9).symm.trans h
        refine lv_lconst (v := 0) hx hb dX10_waysToGet_17 (by decide) ?_
        have h := sm_i h
        subst h
        exact W.lret (v := (0 : Int64)) hx hb hr (fun t ht hW => ⟨⟨(0 : Int64), (), rfl, rfl, by rw [ht]; exact hP, hD⟩, hS.F ht⟩) hS.2.2 dX10_waysToGet_18
set_option maxHeartbeats 4000000 in
set_option maxRecDepth 100000 in
theorem c_X10_waysToGet (l : Launch) (G : va_G) (ca : Nat → ClassId) (ad av : Nat → Nat) (sz : Nat) (a_t : Nat) (a_t_ways : Nat) (a_p1 : Nat) (a_p1_song : Nat) (a_p1_water : Nat) (a_p1_need : Nat) (a_p1_dew : Nat) (a_p1_drops : Nat) (f_p1_days : Int32) (f_p1_law : Int32) (c_p1_song : Nat → Int32) (f_p1_terraces : Int32) (f_p1_slip : Int32) (f_p1_songLength : Int32) (c_t_ways : Nat → Int64) (x2 : Int32) (x3 : Int32) (x4 : Int32) (x5 : Int32) (res : Int64 × (Nat → Int64)) (h : F_X10_waysToGet c_p1_song f_p1_terraces f_p1_slip f_p1_songLength c_t_ways x2 x3 x4 x5 = some res) : Met l yX10_waysToGet wsX10_waysToGet RM_X10_waysToGet (va_Pc [.ref a_t, .ref a_p1, .int x2, .int x3, .int x4, .int x5] (PW_ G ca ad av sz [(a_t, .inr (10, [.ref a_t_ways])), (a_t_ways, .inl (ca 1, 13, .inr (.inl c_t_ways))), (a_p1, .inr (3, [.ref a_p1_water, .ref a_p1_need, .ref a_p1_dew, .ref a_p1_drops, .ref a_p1_song, .int f_p1_terraces, .int f_p1_days, .int f_p1_law, .int f_p1_slip, .int f_p1_songLength])), (a_p1_song, .inl (ca 0, 8, .inl c_p1_song))])) (QL_ G (va_A [(a_t, .inr (10, [.ref a_t_ways])), (a_t_ways, .inl (ca 1, 13, .inr (.inl c_t_ways))), (a_p1, .inr (3, [.ref a_p1_water, .ref a_p1_need, .ref a_p1_dew, .ref a_p1_drops, .ref a_p1_song, .int f_p1_terraces, .int f_p1_days, .int f_p1_law, .int f_p1_slip, .int f_p1_songLength])), (a_p1_song, .inl (ca 0, 8, .inl c_p1_song))] sz) res.1 [(a_t, .inr (10, [.ref a_t_ways])), (a_t_ways, .inl (ca 1, 13, .inr (.inl res.2))), (a_p1, .inr (3, [.ref a_p1_water, .ref a_p1_need, .ref a_p1_dew, .ref a_p1_drops, .ref a_p1_song, .int f_p1_terraces, .int f_p1_days, .int f_p1_law, .int f_p1_slip, .int f_p1_songLength])), (a_p1_song, .inl (ca 0, 8, .inl c_p1_song))]) 0 0 (va_A [(a_t, .inr (10, [.ref a_t_ways])), (a_t_ways, .inl (ca 1, 13, .inr (.inl c_t_ways))), (a_p1, .inr (3, [.ref a_p1_water, .ref a_p1_need, .ref a_p1_dew, .ref a_p1_drops, .ref a_p1_song, .int f_p1_terraces, .int f_p1_days, .int f_p1_law, .int f_p1_slip, .int f_p1_songLength])), (a_p1_song, .inl (ca 0, 8, .inl c_p1_song))] sz) := by
  refine Met.ofW (cc := cX10_waysToGet) (maxL := 7) (ret := (some .long)) (by decide) rfl ?_
  intro p e s m args below meth c s₁ B hml hv
  obtain ⟨X0, rfl, rfl, hP, hD⟩ := en_t B hml hv
  have hl := lv_entry ([.ref a_t, .ref a_p1, .int x2, .int x3, .int x4, .int x5]) (n := 7) (Nat.le_of_ble_eq_true rfl)
  rw [lg_entry_eq]
  generalize (lg_sl ([.ref a_t, .ref a_p1, .int x2, .int x3, .int x4, .int x5]) ++ List.replicate (7 - (lg_sl ([.ref a_t, .ref a_p1, .int x2, .int x3, .int x4, .int x5])).length) Slot.unset).toArray = ls at hl ⊢
  exact w_X10_waysToGet_0 X0 a_t a_t_ways a_p1 a_p1_song a_p1_water a_p1_need a_p1_dew a_p1_drops f_p1_days f_p1_law c_p1_song f_p1_terraces f_p1_slip f_p1_songLength _ c_t_ways x2 x3 x4 x5 h s.heap [] hP hD va_S.rf ls hl

/-! X10_waysInAll -/
abbrev RM_X10_waysInAll : Room := { frames := 0, cells := 0, slots := 0, locals := 0 }
theorem k_X10_waysInAll_0 : Cond.constantLong RX10 15 (10) ∈ wsX10_waysInAll := by decide +kernel
def F_X10_waysInAll_5  : Nat → Int32 → Int64 → Int32 → Option (Int64)
  | 0, _, _, _ => none
  | n + 1, y1, y2, y4 => if y1 ≤ y4 then (some (y2)) else (F_X10_waysInAll_5  n y1 (y2 * (10 : Int64)) (y4 + (1 : Int32)))
set_option maxHeartbeats 4000000 in
set_option maxRecDepth 100000 in
theorem w_X10_waysInAll_5 {p : Program} {l : Launch} {e : Env} {s : State} {m : MethodId} {args : Array Value} {below : List Frame} {meth : Method} {c : Code} {G : va_G} {ca : Nat → ClassId} {ad av : Nat → Nat} {A : Nat → Prop} (X0 : CX_ p s m args meth c cX10_waysInAll 5 (some .long) wsX10_waysInAll RX10 G ca ad av A) (a_t : Nat)   (res : Int64) : ∀ (n : Nat) (y1 : Int32) (y2 : Int64) (y4 : Int32), F_X10_waysInAll_5  n y1 y2 y4 = some res → ∀ (H : Heap) (locs : List Loc), va_P G vwCl [] H → va_D A [] → va_S A s.heap H locs → ∀ (ls : Array Slot), lv_has ls 5 [(1, .int y1), (2, .long y2), (4, .int y4)] → W p l e RM_X10_waysInAll s m args below meth c H locs 0 0 (MQ below (QL_ G A res []) args s 0 0 A) (F0 m 5 ls []) := by
  obtain ⟨hx, hb, hr, hml, hown, hts, hlocks, hK, hA, hE⟩ := id X0
  intro n
  induction n with
  | zero => intro y1 y2 y4 h; cases h
  | succ n ih =>
    intro y1 y2 y4 h H locs hP hD hS ls hl
    rw [F_X10_waysInAll_5] at h
    refine lv_iload hx hb dX10_waysInAll_5 (lv_at hl 2 rfl) ?_
    refine lv_iload_n hx hb dX10_waysInAll_7 rfl (lv_at hl 0 rfl) ?_
    refine lv_icmp_ge (tgt := 23) hx hb dX10_waysInAll_8 (by decide) (fun b1 => ?_) (fun b1 => ?_)
    · have h := (if_pos b1).symm.trans h
      refine lv_lload_n hx hb dX10_waysInAll_23 rfl (lv_at hl 1 rfl) ?_
      have h := sm_i h
      subst h
      exact W.lret (v := y2) hx hb hr (fun t ht hW => ⟨⟨y2, (), rfl, rfl, by rw [ht]; exact hP, hD⟩, hS.F ht⟩) hS.2.2 dX10_waysInAll_24
    · have h := (if_neg b1).symm.trans h
      refine lv_lload_n hx hb dX10_waysInAll_11 rfl (lv_at hl 1 rfl) ?_
      refine lv_ldc2 (v := 10) hx hb hown (hts _ k_X10_waysInAll_0) dX10_waysInAll_12 ?_
      refine lv_lmul hx hb dX10_waysInAll_15 ?_
      refine lv_lstore_n (lv' := [(2, .long (y2 * (10 : Int64))), (1, .int y1), (4, .int y4)]) hx hb dX10_waysInAll_16 rfl hl (by decide) rfl (fun ls hl => ?_)
      refine lv_iinc (v := (y4 + (1 : Int32))) (lv' := [(4, .int (y4 + (1 : Int32))), (2, .long (y2 * (10 : Int64))), (1, .int y1)]) hx hb dX10_waysInAll_17 hl (k := 2) rfl rfl (by decide) rfl (fun ls hl => ?_)
      refine lv_goto (tgt := 5) hx hb dX10_waysInAll_20 (by decide) ?_
      exact ih y1 (y2 * (10 : Int64)) (y4 + (1 : Int32)) h H locs hP hD hS ls (lv_sub hl [2, 1, 0] rfl)
def F_X10_waysInAll  (x1 : Int32) : Option (Int64) := F_X10_waysInAll_5  FU_ x1 (1 : Int64) (0 : Int32)
set_option maxHeartbeats 4000000 in
set_option maxRecDepth 100000 in
theorem w_X10_waysInAll_0 {p : Program} {l : Launch} {e : Env} {s : State} {m : MethodId} {args : Array Value} {below : List Frame} {meth : Method} {c : Code} {G : va_G} {ca : Nat → ClassId} {ad av : Nat → Nat} {A : Nat → Prop} (X0 : CX_ p s m args meth c cX10_waysInAll 5 (some .long) wsX10_waysInAll RX10 G ca ad av A) (a_t : Nat)   (res : Int64) (x1 : Int32) (h : F_X10_waysInAll  x1 = some res) : ∀ (H : Heap) (locs : List Loc), va_P G vwCl [] H → va_D A [] → va_S A s.heap H locs → ∀ (ls : Array Slot), lv_has ls 5 [(0, .ref a_t), (1, .int x1)] → W p l e RM_X10_waysInAll s m args below meth c H locs 0 0 (MQ below (QL_ G A res []) args s 0 0 A) (F0 m 0 ls []) := by
  obtain ⟨hx, hb, hr, hml, hown, hts, hlocks, hK, hA, hE⟩ := id X0
  intro H locs hP hD hS ls hl
  unfold F_X10_waysInAll at h
  refine lv_lconst (v := 1) hx hb dX10_waysInAll_0 (by decide) ?_
  refine lv_lstore_n (lv' := [(2, .long (1 : Int64)), (0, .ref a_t), (1, .int x1)]) hx hb dX10_waysInAll_1 rfl hl (by decide) rfl (fun ls hl => ?_)
  refine lv_iconst (v := 0) hx hb dX10_waysInAll_2 (by decide) ?_
  refine lv_istore (lv' := [(4, .int (0 : Int32)), (2, .long (1 : Int64)), (0, .ref a_t), (1, .int x1)]) hx hb dX10_waysInAll_3 hl (by decide) rfl (fun ls hl => ?_)
  exact w_X10_waysInAll_5 X0 a_t   _ FU_ x1 (1 : Int64) (0 : Int32) h H locs hP hD hS ls (lv_sub hl [3, 1, 0] rfl)
set_option maxHeartbeats 4000000 in
set_option maxRecDepth 100000 in
theorem c_X10_waysInAll (l : Launch) (G : va_G) (ca : Nat → ClassId) (ad av : Nat → Nat) (sz : Nat) (a_t : Nat)   (x1 : Int32) (res : Int64) (h : F_X10_waysInAll  x1 = some res) : Met l yX10_waysInAll wsX10_waysInAll RM_X10_waysInAll (va_Pc [.ref a_t, .int x1] (PW_ G ca ad av sz [])) (QL_ G (va_A [] sz) res []) 0 0 (va_A [] sz) := by
  refine Met.ofW (cc := cX10_waysInAll) (maxL := 5) (ret := (some .long)) (by decide) rfl ?_
  intro p e s m args below meth c s₁ B hml hv
  obtain ⟨X0, rfl, rfl, hP, hD⟩ := en_t B hml hv
  have hl := lv_entry ([.ref a_t, .int x1]) (n := 5) (Nat.le_of_ble_eq_true rfl)
  rw [lg_entry_eq]
  generalize (lg_sl ([.ref a_t, .int x1]) ++ List.replicate (5 - (lg_sl ([.ref a_t, .int x1])).length) Slot.unset).toArray = ls at hl ⊢
  exact w_X10_waysInAll_0 X0 a_t   _ x1 h s.heap [] hP hD va_S.rf ls hl

/-! X10_greatestDivisor -/
abbrev RM_X10_greatestDivisor : Room := { frames := 1, cells := 0, slots := 0, locals := 24 }
theorem k_X10_greatestDivisor_0 : Cond.methodLink RX10 44 Lib.MathLoose.max_long.x ∈ wsX10_greatestDivisor := by decide +kernel
theorem k_X10_greatestDivisor_1 : Cond.static Lib.MathLoose.max_long.x ∈ wsX10_greatestDivisor := by decide +kernel
theorem k_X10_greatestDivisor_2 : Cond.initialized "java/lang/Math" ∈ wsX10_greatestDivisor := by decide +kernel
theorem k_X10_greatestDivisor_3 : Cond.code Lib.MathLoose.max_long.x Lib.MathLoose.max_long.code 4 (some .long) ∈ wsX10_greatestDivisor := by decide +kernel
def F_X10_greatestDivisor_44  (y5 : Int64) : Option (Int64) := some ((if y5 < (1 : Int64) then (1 : Int64) else y5))
set_option maxHeartbeats 4000000 in
set_option maxRecDepth 100000 in
theorem w_X10_greatestDivisor_44 {p : Program} {l : Launch} {e : Env} {s : State} {m : MethodId} {args : Array Value} {below : List Frame} {meth : Method} {c : Code} {G : va_G} {ca : Nat → ClassId} {ad av : Nat → Nat} {A : Nat → Prop} (X0 : CX_ p s m args meth c cX10_greatestDivisor 12 (some .long) wsX10_greatestDivisor RX10 G ca ad av A) (a_t : Nat)   (res : Int64) (y5 : Int64) (h : F_X10_greatestDivisor_44  y5 = some res) : ∀ (H : Heap) (locs : List Loc), va_P G vwCl [] H → va_D A [] → va_S A s.heap H locs → ∀ (ls : Array Slot), lv_has ls 12 [(5, .long y5)] → W p l e RM_X10_greatestDivisor s m args below meth c H locs 0 0 (MQ below (QL_ G A res []) args s 0 0 A) (F0 m 44 ls []) := by
  obtain ⟨hx, hb, hr, hml, hown, hts, hlocks, hK, hA, hE⟩ := id X0
  intro H locs hP hD hS ls hl
  unfold F_X10_greatestDivisor_44 at h
  refine lv_lconst (v := 1) hx hb dX10_greatestDivisor_44 (by decide) ?_
  refine lv_lload hx hb dX10_greatestDivisor_45 (lv_at hl 0 rfl) ?_
  refine va_mmax_long hx hb (hml.trans hl.1.symm) hown (hts _ k_X10_greatestDivisor_0) (hts _ k_X10_greatestDivisor_1) (hts _ k_X10_greatestDivisor_2) (hts _ k_X10_greatestDivisor_3) (Nat.le_of_ble_eq_true rfl) (Nat.le_of_ble_eq_true rfl) (Nat.zero_le _) (Nat.zero_le _) dX10_greatestDivisor_47 ?_
  have h := sm_i h
  subst h
  exact W.lret (v := (if y5 < (1 : Int64) then (1 : Int64) else y5)) hx hb hr (fun t ht hW => ⟨⟨(if y5 < (1 : Int64) then (1 : Int64) else y5), (), rfl, rfl, by rw [ht]; exact hP, hD⟩, hS.F ht⟩) hS.2.2 dX10_greatestDivisor_50
def F_X10_greatestDivisor_9  : Nat → Int64 → Int64 → Int32 → Option (Int64)
  | 0, _, _, _ => none
  | n + 1, y5, y7, y9 => if (100 : Int32) ≤ y9 then (F_X10_greatestDivisor_44  y5) else (if (lg_cmp y7 (0 : Int64)) = 0 then (F_X10_greatestDivisor_44  y5) else (if y7 = 0 then none else F_X10_greatestDivisor_9  n y7 (y5 - y5 / y7 * y7) (y9 + (1 : Int32))))
set_option maxHeartbeats 4000000 in
set_option maxRecDepth 100000 in
theorem w_X10_greatestDivisor_9 {p : Program} {l : Launch} {e : Env} {s : State} {m : MethodId} {args : Array Value} {below : List Frame} {meth : Method} {c : Code} {G : va_G} {ca : Nat → ClassId} {ad av : Nat → Nat} {A : Nat → Prop} (X0 : CX_ p s m args meth c cX10_greatestDivisor 12 (some .long) wsX10_greatestDivisor RX10 G ca ad av A) (a_t : Nat)   (res : Int64) : ∀ (n : Nat) (y5 : Int64) (y7 : Int64) (y9 : Int32), F_X10_greatestDivisor_9  n y5 y7 y9 = some res → ∀ (H : Heap) (locs : List Loc), va_P G vwCl [] H → va_D A [] → va_S A s.heap H locs → ∀ (ls : Array Slot), lv_has ls 12 [(5, .long y5), (7, .long y7), (9, .int y9)] → W p l e RM_X10_greatestDivisor s m args below meth c H locs 0 0 (MQ below (QL_ G A res []) args s 0 0 A) (F0 m 9 ls []) := by
  obtain ⟨hx, hb, hr, hml, hown, hts, hlocks, hK, hA, hE⟩ := id X0
  intro n
  induction n with
  | zero => intro y5 y7 y9 h; cases h
  | succ n ih =>
    intro y5 y7 y9 h H locs hP hD hS ls hl
    rw [F_X10_greatestDivisor_9] at h
    refine lv_iload hx hb dX10_greatestDivisor_9 (lv_at hl 2 rfl) ?_
    refine lv_bipush (v := 100) hx hb dX10_greatestDivisor_11 (by decide) ?_
    refine lv_icmp_ge (tgt := 44) hx hb dX10_greatestDivisor_13 (by decide) (fun b1 => ?_) (fun b1 => ?_)
    · have h := (if_pos b1).symm.trans h
      exact w_X10_greatestDivisor_44 X0 a_t   _ y5 h H locs hP hD hS ls (lv_sub hl [0] rfl)
    · have h := (if_neg b1).symm.trans h
      refine lv_lload hx hb dX10_greatestDivisor_16 (lv_at hl 1 rfl) ?_
      refine lv_lconst (v := 0) hx hb dX10_greatestDivisor_18 (by decide) ?_
      refine W.lcmp hx hb dX10_greatestDivisor_19 ?_
      refine lv_if_eq (tgt := 44) hx hb dX10_greatestDivisor_20 (by decide) (fun b2 => ?_) (fun b2 => ?_)
      · have h := (if_pos b2).symm.trans h
        exact w_X10_greatestDivisor_44 X0 a_t   _ y5 h H locs hP hD hS ls (lv_sub hl [0] rfl)
      · have h := (if_neg b2).symm.trans h
        refine lv_lload hx hb dX10_greatestDivisor_23 (lv_at hl 0 rfl) ?_
        refine lv_lload hx hb dX10_greatestDivisor_25 (lv_at hl 1 rfl) ?_
        obtain ⟨z3, h⟩ := gd_l h
        refine lv_lrem hx hb dX10_greatestDivisor_27 z3 ?_
        refine lv_lstore (lv' := [(10, .long (y5 - y5 / y7 * y7)), (5, .long y5), (7, .long y7), (9, .int y9)]) hx hb dX10_greatestDivisor_28 hl (by decide) rfl (fun ls hl => ?_)
        refine lv_lload hx hb dX10_greatestDivisor_30 (lv_at hl 2 rfl) ?_
        refine lv_lstore (lv' := [(5, .long y7), (10, .long (y5 - y5 / y7 * y7)), (7, .long y7), (9, .int y9)]) hx hb dX10_greatestDivisor_32 hl (by decide) rfl (fun ls hl => ?_)
        refine lv_lload hx hb dX10_greatestDivisor_34 (lv_at hl 1 rfl) ?_
        refine lv_lstore (lv' := [(7, .long (y5 - y5 / y7 * y7)), (5, .long y7), (10, .long (y5 - y5 / y7 * y7)), (9, .int y9)]) hx hb dX10_greatestDivisor_36 hl (by decide) rfl (fun ls hl => ?_)
        refine lv_iinc (v := (y9 + (1 : Int32))) (lv' := [(9, .int (y9 + (1 : Int32))), (7, .long (y5 - y5 / y7 * y7)), (5, .long y7), (10, .long (y5 - y5 / y7 * y7))]) hx hb dX10_greatestDivisor_38 hl (k := 3) rfl rfl (by decide) rfl (fun ls hl => ?_)
        refine lv_goto (tgt := 9) hx hb dX10_greatestDivisor_41 (by decide) ?_
        exact ih y7 (y5 - y5 / y7 * y7) (y9 + (1 : Int32)) h H locs hP hD hS ls (lv_sub hl [2, 1, 0] rfl)
def F_X10_greatestDivisor  (x1 : Int64) (x2 : Int64) : Option (Int64) := F_X10_greatestDivisor_9  FU_ x1 x2 (0 : Int32)
set_option maxHeartbeats 4000000 in
set_option maxRecDepth 100000 in
theorem w_X10_greatestDivisor_0 {p : Program} {l : Launch} {e : Env} {s : State} {m : MethodId} {args : Array Value} {below : List Frame} {meth : Method} {c : Code} {G : va_G} {ca : Nat → ClassId} {ad av : Nat → Nat} {A : Nat → Prop} (X0 : CX_ p s m args meth c cX10_greatestDivisor 12 (some .long) wsX10_greatestDivisor RX10 G ca ad av A) (a_t : Nat)   (res : Int64) (x1 : Int64) (x2 : Int64) (h : F_X10_greatestDivisor  x1 x2 = some res) : ∀ (H : Heap) (locs : List Loc), va_P G vwCl [] H → va_D A [] → va_S A s.heap H locs → ∀ (ls : Array Slot), lv_has ls 12 [(0, .ref a_t), (1, .long x1), (3, .long x2)] → W p l e RM_X10_greatestDivisor s m args below meth c H locs 0 0 (MQ below (QL_ G A res []) args s 0 0 A) (F0 m 0 ls []) := by
  obtain ⟨hx, hb, hr, hml, hown, hts, hlocks, hK, hA, hE⟩ := id X0
  intro H locs hP hD hS ls hl
  unfold F_X10_greatestDivisor at h
  refine lv_lload_n hx hb dX10_greatestDivisor_0 rfl (lv_at hl 1 rfl) ?_
  refine lv_lstore (lv' := [(5, .long x1), (0, .ref a_t), (1, .long x1), (3, .long x2)]) hx hb dX10_greatestDivisor_1 hl (by decide) rfl (fun ls hl => ?_)
  refine lv_lload_n hx hb dX10_greatestDivisor_3 rfl (lv_at hl 3 rfl) ?_
  refine lv_lstore (lv' := [(7, .long x2), (5, .long x1), (0, .ref a_t), (1, .long x1), (3, .long x2)]) hx hb dX10_greatestDivisor_4 hl (by decide) rfl (fun ls hl => ?_)
  refine lv_iconst (v := 0) hx hb dX10_greatestDivisor_6 (by decide) ?_
  refine lv_istore (lv' := [(9, .int (0 : Int32)), (7, .long x2), (5, .long x1), (0, .ref a_t), (1, .long x1), (3, .long x2)]) hx hb dX10_greatestDivisor_7 hl (by decide) rfl (fun ls hl => ?_)
  exact w_X10_greatestDivisor_9 X0 a_t   _ FU_ x1 x2 (0 : Int32) h H locs hP hD hS ls (lv_sub hl [2, 1, 0] rfl)
set_option maxHeartbeats 4000000 in
set_option maxRecDepth 100000 in
theorem c_X10_greatestDivisor (l : Launch) (G : va_G) (ca : Nat → ClassId) (ad av : Nat → Nat) (sz : Nat) (a_t : Nat)   (x1 : Int64) (x2 : Int64) (res : Int64) (h : F_X10_greatestDivisor  x1 x2 = some res) : Met l yX10_greatestDivisor wsX10_greatestDivisor RM_X10_greatestDivisor (va_Pc [.ref a_t, .long x1, .long x2] (PW_ G ca ad av sz [])) (QL_ G (va_A [] sz) res []) 0 0 (va_A [] sz) := by
  refine Met.ofW (cc := cX10_greatestDivisor) (maxL := 12) (ret := (some .long)) (by decide) rfl ?_
  intro p e s m args below meth c s₁ B hml hv
  obtain ⟨X0, rfl, rfl, hP, hD⟩ := en_t B hml hv
  have hl := lv_entry ([.ref a_t, .long x1, .long x2]) (n := 12) (Nat.le_of_ble_eq_true rfl)
  rw [lg_entry_eq]
  generalize (lg_sl ([.ref a_t, .long x1, .long x2]) ++ List.replicate (12 - (lg_sl ([.ref a_t, .long x1, .long x2])).length) Slot.unset).toArray = ls at hl ⊢
  exact w_X10_greatestDivisor_0 X0 a_t   _ x1 x2 h s.heap [] hP hD va_S.rf ls hl

/-! X10_waysOfTurn -/
abbrev RM_X10_waysOfTurn : Room := { frames := 1, cells := 0, slots := 0, locals := 24 }
def F_X10_waysOfTurn (c_p1_song : Nat → Int32) (f_p1_terraces : Int32) (f_p1_songLength : Int32) (c_p2_seenTurn : Nat → Int32) (c_p2_seenSet : Nat → Int32) (f_p2_seen : Int32) (x3 : Int32) : Option (Int32) := (F_X3_allBits f_p1_terraces).bind (fun u1 => (F_X7_heardOf c_p2_seenTurn c_p2_seenSet f_p2_seen x3 u1).bind (fun u3 => (F_X3_sung c_p1_song f_p1_songLength x3).bind (fun u5 => (F_X3_nextTo f_p1_terraces u5).bind (fun u7 => some ((((u3 >>> (u5 &&& 31)) &&& (1 : Int32)) + ((u3 >>> (u7 &&& 31)) &&& (1 : Int32))))))))
set_option maxHeartbeats 4000000 in
set_option maxRecDepth 100000 in
theorem w_X10_waysOfTurn_0 {p : Program} {l : Launch} {e : Env} {s : State} {m : MethodId} {args : Array Value} {below : List Frame} {meth : Method} {c : Code} {G : va_G} {ca : Nat → ClassId} {ad av : Nat → Nat} {A : Nat → Prop} (X0 : CX_ p s m args meth c cX10_waysOfTurn 5 (some .int) wsX10_waysOfTurn RX10 G ca ad av A) (a_p1 : Nat) (a_p1_song : Nat) (a_p2 : Nat) (a_p2_seenTurn : Nat) (a_p2_seenSet : Nat) (a_p1_water : Nat) (a_p1_need : Nat) (a_p1_dew : Nat) (a_p1_drops : Nat) (a_p2_water : Nat) (a_p2_lacked : Nat) (f_p1_days : Int32) (f_p1_law : Int32) (f_p1_slip : Int32) (f_p2_day : Int32) (f_p2_left : Int32) (f_p2_turn : Int32) (f_p2_lot : Int32) (c_p1_song : Nat → Int32) (f_p1_terraces : Int32) (f_p1_songLength : Int32) (c_p2_seenTurn : Nat → Int32) (c_p2_seenSet : Nat → Int32) (f_p2_seen : Int32) (res : Int32) (x3 : Int32) (h : F_X10_waysOfTurn c_p1_song f_p1_terraces f_p1_songLength c_p2_seenTurn c_p2_seenSet f_p2_seen x3 = some res) : ∀ (H : Heap) (locs : List Loc), va_P G vwCl [(a_p1, .inr (3, [.ref a_p1_water, .ref a_p1_need, .ref a_p1_dew, .ref a_p1_drops, .ref a_p1_song, .int f_p1_terraces, .int f_p1_days, .int f_p1_law, .int f_p1_slip, .int f_p1_songLength])), (a_p1_song, .inl (ca 0, 8, .inl c_p1_song)), (a_p2, .inr (7, [.ref a_p2_water, .ref a_p2_lacked, .ref a_p2_seenTurn, .ref a_p2_seenSet, .int f_p2_day, .int f_p2_left, .int f_p2_turn, .int f_p2_lot, .int f_p2_seen])), (a_p2_seenTurn, .inl (ca 0, 8, .inl c_p2_seenTurn)), (a_p2_seenSet, .inl (ca 0, 8, .inl c_p2_seenSet))] H → va_D A [(a_p1, .inr (3, [.ref a_p1_water, .ref a_p1_need, .ref a_p1_dew, .ref a_p1_drops, .ref a_p1_song, .int f_p1_terraces, .int f_p1_days, .int f_p1_law, .int f_p1_slip, .int f_p1_songLength])), (a_p1_song, .inl (ca 0, 8, .inl c_p1_song)), (a_p2, .inr (7, [.ref a_p2_water, .ref a_p2_lacked, .ref a_p2_seenTurn, .ref a_p2_seenSet, .int f_p2_day, .int f_p2_left, .int f_p2_turn, .int f_p2_lot, .int f_p2_seen])), (a_p2_seenTurn, .inl (ca 0, 8, .inl c_p2_seenTurn)), (a_p2_seenSet, .inl (ca 0, 8, .inl c_p2_seenSet))] → va_S A s.heap H locs → ∀ (ls : Array Slot), lv_has ls 5 [(0, .ref a_p1), (1, .ref a_p2), (2, .int x3)] → W p l e RM_X10_waysOfTurn s m args below meth c H locs 0 0 (MQ below (QI_ G A res [(a_p1, .inr (3, [.ref a_p1_water, .ref a_p1_need, .ref a_p1_dew, .ref a_p1_drops, .ref a_p1_song, .int f_p1_terraces, .int f_p1_days, .int f_p1_law, .int f_p1_slip, .int f_p1_songLength])), (a_p1_song, .inl (ca 0, 8, .inl c_p1_song)), (a_p2, .inr (7, [.ref a_p2_water, .ref a_p2_lacked, .ref a_p2_seenTurn, .ref a_p2_seenSet, .int f_p2_day, .int f_p2_left, .int f_p2_turn, .int f_p2_lot, .int f_p2_seen])), (a_p2_seenTurn, .inl (ca 0, 8, .inl c_p2_seenTurn)), (a_p2_seenSet, .inl (ca 0, 8, .inl c_p2_seenSet))]) args s 0 0 A) (F0 m 0 ls []) := by
  obtain ⟨hx, hb, hr, hml, hown, hts, hlocks, hK, hA, hE⟩ := id X0
  intro H locs hP hD hS ls hl
  unfold F_X10_waysOfTurn at h
  refine lv_aload_n hx hb dX10_waysOfTurn_0 rfl (lv_at hl 1 rfl) ?_
  refine lv_iload_n hx hb dX10_waysOfTurn_1 rfl (lv_at hl 2 rfl) ?_
  refine lv_aload_n hx hb dX10_waysOfTurn_2 rfl (lv_at hl 0 rfl) ?_
  obtain ⟨u1, hc2, h⟩ := bd_o h
  refine jn_i (wr := [(a_p1_song, .inl (ca 0, 8, .inl c_p1_song)), (a_p2, .inr (7, [.ref a_p2_water, .ref a_p2_lacked, .ref a_p2_seenTurn, .ref a_p2_seenSet, .int f_p2_day, .int f_p2_left, .int f_p2_turn, .int f_p2_lot, .int f_p2_seen])), (a_p2_seenTurn, .inl (ca 0, 8, .inl c_p2_seenTurn)), (a_p2_seenSet, .inl (ca 0, 8, .inl c_p2_seenSet))]) (ws' := [(a_p1, .inr (3, [.ref a_p1_water, .ref a_p1_need, .ref a_p1_dew, .ref a_p1_drops, .ref a_p1_song, .int f_p1_terraces, .int f_p1_days, .int f_p1_law, .int f_p1_slip, .int f_p1_songLength])), (a_p1_song, .inl (ca 0, 8, .inl c_p1_song)), (a_p2, .inr (7, [.ref a_p2_water, .ref a_p2_lacked, .ref a_p2_seenTurn, .ref a_p2_seenSet, .int f_p2_day, .int f_p2_left, .int f_p2_turn, .int f_p2_lot, .int f_p2_seen])), (a_p2_seenTurn, .inl (ca 0, 8, .inl c_p2_seenTurn)), (a_p2_seenSet, .inl (ca 0, 8, .inl c_p2_seenSet))]) (va_runV (As := []) (rest := [.int x3, .ref a_p2]) ⟨hx, hb, hml, hown, hts⟩ (c_X3_allBits l G ca ad av H.size a_p1 a_p1_water a_p1_need a_p1_dew a_p1_drops a_p1_song f_p1_days f_p1_law f_p1_slip f_p1_songLength f_p1_terraces u1 hc2) (cwV 0 hts gX10_waysOfTurn_X3_allBits rfl rfl rfl (by decide +kernel) ⟨Nat.le_of_ble_eq_true rfl, Nat.le_of_ble_eq_true rfl⟩) (pre_v (q0 := 0) (ci := 3) hK hE hA hP hD hS [0] rfl (by decide) rfl rfl) rfl rfl hl.1 rfl (lv_room (Nat.le_of_ble_eq_true rfl)) dX10_waysOfTurn_3 ⟨Nat.le_of_ble_eq_true rfl, Nat.le_of_ble_eq_true rfl⟩) hA hP hD hS [0] [1, 2, 3, 4] [4, 0, 1, 2, 3] rfl rfl (by decide) (by decide) (by decide) rfl (fun H locs hP hD hS => ?_)
  obtain ⟨u3, hc4, h⟩ := bd_o h
  refine jn_i (wr := [(a_p1, .inr (3, [.ref a_p1_water, .ref a_p1_need, .ref a_p1_dew, .ref a_p1_drops, .ref a_p1_song, .int f_p1_terraces, .int f_p1_days, .int f_p1_law, .int f_p1_slip, .int f_p1_songLength])), (a_p1_song, .inl (ca 0, 8, .inl c_p1_song))]) (ws' := [(a_p1, .inr (3, [.ref a_p1_water, .ref a_p1_need, .ref a_p1_dew, .ref a_p1_drops, .ref a_p1_song, .int f_p1_terraces, .int f_p1_days, .int f_p1_law, .int f_p1_slip, .int f_p1_songLength])), (a_p1_song, .inl (ca 0, 8, .inl c_p1_song)), (a_p2, .inr (7, [.ref a_p2_water, .ref a_p2_lacked, .ref a_p2_seenTurn, .ref a_p2_seenSet, .int f_p2_day, .int f_p2_left, .int f_p2_turn, .int f_p2_lot, .int f_p2_seen])), (a_p2_seenTurn, .inl (ca 0, 8, .inl c_p2_seenTurn)), (a_p2_seenSet, .inl (ca 0, 8, .inl c_p2_seenSet))]) (va_runV (As := [.int x3, .int u1]) (rest := []) ⟨hx, hb, hml, hown, hts⟩ (c_X7_heardOf l G ca ad av H.size a_p2 a_p2_seenTurn a_p2_seenSet a_p2_water a_p2_lacked f_p2_day f_p2_left f_p2_turn f_p2_lot c_p2_seenTurn c_p2_seenSet f_p2_seen x3 u1 u3 hc4) (cwV 2 hts gX10_waysOfTurn_X7_heardOf rfl rfl rfl (by decide +kernel) ⟨Nat.le_of_ble_eq_true rfl, Nat.le_of_ble_eq_true rfl⟩) (pre_v (q0 := 2) (ci := 7) hK hE hA hP hD hS [2, 3, 4] rfl (by decide) rfl rfl) rfl rfl hl.1 rfl (lv_room (Nat.le_of_ble_eq_true rfl)) dX10_waysOfTurn_6 ⟨Nat.le_of_ble_eq_true rfl, Nat.le_of_ble_eq_true rfl⟩) hA hP hD hS [2, 3, 4] [0, 1] [0, 1, 2, 3, 4] rfl rfl (by decide) (by decide) (by decide) rfl (fun H locs hP hD hS => ?_)
  refine lv_istore_n (lv' := [(3, .int u3), (0, .ref a_p1), (1, .ref a_p2), (2, .int x3)]) hx hb dX10_waysOfTurn_9 rfl hl (by decide) rfl (fun ls hl => ?_)
  refine lv_aload_n hx hb dX10_waysOfTurn_10 rfl (lv_at hl 1 rfl) ?_
  refine lv_iload_n hx hb dX10_waysOfTurn_11 rfl (lv_at hl 3 rfl) ?_
  obtain ⟨u5, hc6, h⟩ := bd_o h
  refine jn_i (wr := [(a_p2, .inr (7, [.ref a_p2_water, .ref a_p2_lacked, .ref a_p2_seenTurn, .ref a_p2_seenSet, .int f_p2_day, .int f_p2_left, .int f_p2_turn, .int f_p2_lot, .int f_p2_seen])), (a_p2_seenTurn, .inl (ca 0, 8, .inl c_p2_seenTurn)), (a_p2_seenSet, .inl (ca 0, 8, .inl c_p2_seenSet))]) (ws' := [(a_p1, .inr (3, [.ref a_p1_water, .ref a_p1_need, .ref a_p1_dew, .ref a_p1_drops, .ref a_p1_song, .int f_p1_terraces, .int f_p1_days, .int f_p1_law, .int f_p1_slip, .int f_p1_songLength])), (a_p1_song, .inl (ca 0, 8, .inl c_p1_song)), (a_p2, .inr (7, [.ref a_p2_water, .ref a_p2_lacked, .ref a_p2_seenTurn, .ref a_p2_seenSet, .int f_p2_day, .int f_p2_left, .int f_p2_turn, .int f_p2_lot, .int f_p2_seen])), (a_p2_seenTurn, .inl (ca 0, 8, .inl c_p2_seenTurn)), (a_p2_seenSet, .inl (ca 0, 8, .inl c_p2_seenSet))]) (va_runV (As := [.int x3]) (rest := []) ⟨hx, hb, hml, hown, hts⟩ (c_X3_sung l G ca ad av H.size a_p1 a_p1_song a_p1_water a_p1_need a_p1_dew a_p1_drops f_p1_terraces f_p1_days f_p1_law f_p1_slip c_p1_song f_p1_songLength x3 u5 hc6) (cwV 1 hts gX10_waysOfTurn_X3_sung rfl rfl rfl (by decide +kernel) ⟨Nat.le_of_ble_eq_true rfl, Nat.le_of_ble_eq_true rfl⟩) (pre_v (q0 := 0) (ci := 3) hK hE hA hP hD hS [0, 1] rfl (by decide) rfl rfl) rfl rfl hl.1 rfl (lv_room (Nat.le_of_ble_eq_true rfl)) dX10_waysOfTurn_12 ⟨Nat.le_of_ble_eq_true rfl, Nat.le_of_ble_eq_true rfl⟩) hA hP hD hS [0, 1] [2, 3, 4] [3, 4, 0, 1, 2] rfl rfl (by decide) (by decide) (by decide) rfl (fun H locs hP hD hS => ?_)
  refine lv_istore (lv' := [(4, .int u5), (3, .int u3), (0, .ref a_p1), (1, .ref a_p2), (2, .int x3)]) hx hb dX10_waysOfTurn_15 hl (by decide) rfl (fun ls hl => ?_)
  refine lv_iload_n hx hb dX10_waysOfTurn_17 rfl (lv_at hl 1 rfl) ?_
  refine lv_iload hx hb dX10_waysOfTurn_18 (lv_at hl 0 rfl) ?_
  refine lv_ishr hx hb dX10_waysOfTurn_20 ?_
  refine lv_iconst (v := 1) hx hb dX10_waysOfTurn_21 (by decide) ?_
  refine lv_iand hx hb dX10_waysOfTurn_22 ?_
  refine lv_iload_n hx hb dX10_waysOfTurn_23 rfl (lv_at hl 1 rfl) ?_
  refine lv_aload_n hx hb dX10_waysOfTurn_24 rfl (lv_at hl 2 rfl) ?_
  refine lv_iload hx hb dX10_waysOfTurn_25 (lv_at hl 0 rfl) ?_
  obtain ⟨u7, hc8, h⟩ := bd_o h
  refine jn_i (wr := [(a_p1_song, .inl (ca 0, 8, .inl c_p1_song)), (a_p2, .inr (7, [.ref a_p2_water, .ref a_p2_lacked, .ref a_p2_seenTurn, .ref a_p2_seenSet, .int f_p2_day, .int f_p2_left, .int f_p2_turn, .int f_p2_lot, .int f_p2_seen])), (a_p2_seenTurn, .inl (ca 0, 8, .inl c_p2_seenTurn)), (a_p2_seenSet, .inl (ca 0, 8, .inl c_p2_seenSet))]) (ws' := [(a_p1, .inr (3, [.ref a_p1_water, .ref a_p1_need, .ref a_p1_dew, .ref a_p1_drops, .ref a_p1_song, .int f_p1_terraces, .int f_p1_days, .int f_p1_law, .int f_p1_slip, .int f_p1_songLength])), (a_p1_song, .inl (ca 0, 8, .inl c_p1_song)), (a_p2, .inr (7, [.ref a_p2_water, .ref a_p2_lacked, .ref a_p2_seenTurn, .ref a_p2_seenSet, .int f_p2_day, .int f_p2_left, .int f_p2_turn, .int f_p2_lot, .int f_p2_seen])), (a_p2_seenTurn, .inl (ca 0, 8, .inl c_p2_seenTurn)), (a_p2_seenSet, .inl (ca 0, 8, .inl c_p2_seenSet))]) (va_runV (As := [.int u5]) (rest := [.int u3, .int ((u3 >>> (u5 &&& 31)) &&& (1 : Int32))]) ⟨hx, hb, hml, hown, hts⟩ (c_X3_nextTo l G ca ad av H.size a_p1 a_p1_water a_p1_need a_p1_dew a_p1_drops a_p1_song f_p1_days f_p1_law f_p1_slip f_p1_songLength f_p1_terraces u5 u7 hc8) (cwV 1 hts gX10_waysOfTurn_X3_nextTo rfl rfl rfl (by decide +kernel) ⟨Nat.le_of_ble_eq_true rfl, Nat.le_of_ble_eq_true rfl⟩) (pre_v (q0 := 0) (ci := 3) hK hE hA hP hD hS [0] rfl (by decide) rfl rfl) rfl rfl hl.1 rfl (lv_room (Nat.le_of_ble_eq_true rfl)) dX10_waysOfTurn_27 ⟨Nat.le_of_ble_eq_true rfl, Nat.le_of_ble_eq_true rfl⟩) hA hP hD hS [0] [1, 2, 3, 4] [4, 0, 1, 2, 3] rfl rfl (by decide) (by decide) (by decide) rfl (fun H locs hP hD hS => ?_)
  refine lv_ishr hx hb dX10_waysOfTurn_30 ?_
  refine lv_iconst (v := 1) hx hb dX10_waysOfTurn_31 (by decide) ?_
  refine lv_iand hx hb dX10_waysOfTurn_32 ?_
  refine lv_iadd hx hb dX10_waysOfTurn_33 ?_
  have h := sm_i h
  subst h
  exact W.iret (v := (((u3 >>> (u5 &&& 31)) &&& (1 : Int32)) + ((u3 >>> (u7 &&& 31)) &&& (1 : Int32)))) hx hb hr (fun t ht hW => ⟨⟨(((u3 >>> (u5 &&& 31)) &&& (1 : Int32)) + ((u3 >>> (u7 &&& 31)) &&& (1 : Int32))), (), rfl, rfl, by rw [ht]; exact hP, hD⟩, hS.F ht⟩) hS.2.2 dX10_waysOfTurn_34
set_option maxHeartbeats 4000000 in
set_option maxRecDepth 100000 in
theorem c_X10_waysOfTurn (l : Launch) (G : va_G) (ca : Nat → ClassId) (ad av : Nat → Nat) (sz : Nat) (a_p1 : Nat) (a_p1_song : Nat) (a_p2 : Nat) (a_p2_seenTurn : Nat) (a_p2_seenSet : Nat) (a_p1_water : Nat) (a_p1_need : Nat) (a_p1_dew : Nat) (a_p1_drops : Nat) (a_p2_water : Nat) (a_p2_lacked : Nat) (f_p1_days : Int32) (f_p1_law : Int32) (f_p1_slip : Int32) (f_p2_day : Int32) (f_p2_left : Int32) (f_p2_turn : Int32) (f_p2_lot : Int32) (c_p1_song : Nat → Int32) (f_p1_terraces : Int32) (f_p1_songLength : Int32) (c_p2_seenTurn : Nat → Int32) (c_p2_seenSet : Nat → Int32) (f_p2_seen : Int32) (x3 : Int32) (res : Int32) (h : F_X10_waysOfTurn c_p1_song f_p1_terraces f_p1_songLength c_p2_seenTurn c_p2_seenSet f_p2_seen x3 = some res) : Met l yX10_waysOfTurn wsX10_waysOfTurn RM_X10_waysOfTurn (va_Pc [.ref a_p1, .ref a_p2, .int x3] (PW_ G ca ad av sz [(a_p1, .inr (3, [.ref a_p1_water, .ref a_p1_need, .ref a_p1_dew, .ref a_p1_drops, .ref a_p1_song, .int f_p1_terraces, .int f_p1_days, .int f_p1_law, .int f_p1_slip, .int f_p1_songLength])), (a_p1_song, .inl (ca 0, 8, .inl c_p1_song)), (a_p2, .inr (7, [.ref a_p2_water, .ref a_p2_lacked, .ref a_p2_seenTurn, .ref a_p2_seenSet, .int f_p2_day, .int f_p2_left, .int f_p2_turn, .int f_p2_lot, .int f_p2_seen])), (a_p2_seenTurn, .inl (ca 0, 8, .inl c_p2_seenTurn)), (a_p2_seenSet, .inl (ca 0, 8, .inl c_p2_seenSet))])) (QI_ G (va_A [(a_p1, .inr (3, [.ref a_p1_water, .ref a_p1_need, .ref a_p1_dew, .ref a_p1_drops, .ref a_p1_song, .int f_p1_terraces, .int f_p1_days, .int f_p1_law, .int f_p1_slip, .int f_p1_songLength])), (a_p1_song, .inl (ca 0, 8, .inl c_p1_song)), (a_p2, .inr (7, [.ref a_p2_water, .ref a_p2_lacked, .ref a_p2_seenTurn, .ref a_p2_seenSet, .int f_p2_day, .int f_p2_left, .int f_p2_turn, .int f_p2_lot, .int f_p2_seen])), (a_p2_seenTurn, .inl (ca 0, 8, .inl c_p2_seenTurn)), (a_p2_seenSet, .inl (ca 0, 8, .inl c_p2_seenSet))] sz) res [(a_p1, .inr (3, [.ref a_p1_water, .ref a_p1_need, .ref a_p1_dew, .ref a_p1_drops, .ref a_p1_song, .int f_p1_terraces, .int f_p1_days, .int f_p1_law, .int f_p1_slip, .int f_p1_songLength])), (a_p1_song, .inl (ca 0, 8, .inl c_p1_song)), (a_p2, .inr (7, [.ref a_p2_water, .ref a_p2_lacked, .ref a_p2_seenTurn, .ref a_p2_seenSet, .int f_p2_day, .int f_p2_left, .int f_p2_turn, .int f_p2_lot, .int f_p2_seen])), (a_p2_seenTurn, .inl (ca 0, 8, .inl c_p2_seenTurn)), (a_p2_seenSet, .inl (ca 0, 8, .inl c_p2_seenSet))]) 0 0 (va_A [(a_p1, .inr (3, [.ref a_p1_water, .ref a_p1_need, .ref a_p1_dew, .ref a_p1_drops, .ref a_p1_song, .int f_p1_terraces, .int f_p1_days, .int f_p1_law, .int f_p1_slip, .int f_p1_songLength])), (a_p1_song, .inl (ca 0, 8, .inl c_p1_song)), (a_p2, .inr (7, [.ref a_p2_water, .ref a_p2_lacked, .ref a_p2_seenTurn, .ref a_p2_seenSet, .int f_p2_day, .int f_p2_left, .int f_p2_turn, .int f_p2_lot, .int f_p2_seen])), (a_p2_seenTurn, .inl (ca 0, 8, .inl c_p2_seenTurn)), (a_p2_seenSet, .inl (ca 0, 8, .inl c_p2_seenSet))] sz) := by
  refine Met.ofW (cc := cX10_waysOfTurn) (maxL := 5) (ret := (some .int)) (by decide) rfl ?_
  intro p e s m args below meth c s₁ B hml hv
  obtain ⟨X0, rfl, rfl, hP, hD⟩ := en_t B hml hv
  have hl := lv_entry ([.ref a_p1, .ref a_p2, .int x3]) (n := 5) (Nat.le_of_ble_eq_true rfl)
  rw [lg_entry_eq]
  generalize (lg_sl ([.ref a_p1, .ref a_p2, .int x3]) ++ List.replicate (5 - (lg_sl ([.ref a_p1, .ref a_p2, .int x3])).length) Slot.unset).toArray = ls at hl ⊢
  exact w_X10_waysOfTurn_0 X0 a_p1 a_p1_song a_p2 a_p2_seenTurn a_p2_seenSet a_p1_water a_p1_need a_p1_dew a_p1_drops a_p2_water a_p2_lacked f_p1_days f_p1_law f_p1_slip f_p2_day f_p2_left f_p2_turn f_p2_lot c_p1_song f_p1_terraces f_p1_songLength c_p2_seenTurn c_p2_seenSet f_p2_seen _ x3 h s.heap [] hP hD va_S.rf ls hl

/-! X10_waysHeard -/
abbrev RM_X10_waysHeard : Room := { frames := 2, cells := 0, slots := 0, locals := 48 }
def F_X10_waysHeard_6 (c_p1_song : Nat → Int32) (f_p1_terraces : Int32) (f_p1_songLength : Int32) (c_p2_seenTurn : Nat → Int32) (c_p2_seenSet : Nat → Int32) (f_p2_seen : Int32) : Nat → Int32 → Int32 → Int32 → Option (Int32)
  | 0, _, _, _ => none
  | n + 1, y3, y4, y5 => if y3 ≤ y5 then (some (y4)) else ((F_X10_waysOfTurn c_p1_song f_p1_terraces f_p1_songLength c_p2_seenTurn c_p2_seenSet f_p2_seen y5).bind (fun u2 => F_X10_waysHeard_6 c_p1_song f_p1_terraces f_p1_songLength c_p2_seenTurn c_p2_seenSet f_p2_seen n y3 (y4 * u2) (y5 + (1 : Int32))))
set_option maxHeartbeats 4000000 in
set_option maxRecDepth 100000 in
theorem w_X10_waysHeard_6 {p : Program} {l : Launch} {e : Env} {s : State} {m : MethodId} {args : Array Value} {below : List Frame} {meth : Method} {c : Code} {G : va_G} {ca : Nat → ClassId} {ad av : Nat → Nat} {A : Nat → Prop} (X0 : CX_ p s m args meth c cX10_waysHeard 6 (some .int) wsX10_waysHeard RX10 G ca ad av A) (a_p1 : Nat) (a_p1_song : Nat) (a_p2 : Nat) (a_p2_seenTurn : Nat) (a_p2_seenSet : Nat) (a_p1_water : Nat) (a_p1_need : Nat) (a_p1_dew : Nat) (a_p1_drops : Nat) (a_p2_water : Nat) (a_p2_lacked : Nat) (a_t : Nat) (f_p1_days : Int32) (f_p1_law : Int32) (f_p1_slip : Int32) (f_p2_day : Int32) (f_p2_left : Int32) (f_p2_turn : Int32) (f_p2_lot : Int32) (c_p1_song : Nat → Int32) (f_p1_terraces : Int32) (f_p1_songLength : Int32) (c_p2_seenTurn : Nat → Int32) (c_p2_seenSet : Nat → Int32) (f_p2_seen : Int32) (res : Int32) : ∀ (n : Nat) (y3 : Int32) (y4 : Int32) (y5 : Int32), F_X10_waysHeard_6 c_p1_song f_p1_terraces f_p1_songLength c_p2_seenTurn c_p2_seenSet f_p2_seen n y3 y4 y5 = some res → ∀ (H : Heap) (locs : List Loc), va_P G vwCl [(a_p1, .inr (3, [.ref a_p1_water, .ref a_p1_need, .ref a_p1_dew, .ref a_p1_drops, .ref a_p1_song, .int f_p1_terraces, .int f_p1_days, .int f_p1_law, .int f_p1_slip, .int f_p1_songLength])), (a_p1_song, .inl (ca 0, 8, .inl c_p1_song)), (a_p2, .inr (7, [.ref a_p2_water, .ref a_p2_lacked, .ref a_p2_seenTurn, .ref a_p2_seenSet, .int f_p2_day, .int f_p2_left, .int f_p2_turn, .int f_p2_lot, .int f_p2_seen])), (a_p2_seenTurn, .inl (ca 0, 8, .inl c_p2_seenTurn)), (a_p2_seenSet, .inl (ca 0, 8, .inl c_p2_seenSet))] H → va_D A [(a_p1, .inr (3, [.ref a_p1_water, .ref a_p1_need, .ref a_p1_dew, .ref a_p1_drops, .ref a_p1_song, .int f_p1_terraces, .int f_p1_days, .int f_p1_law, .int f_p1_slip, .int f_p1_songLength])), (a_p1_song, .inl (ca 0, 8, .inl c_p1_song)), (a_p2, .inr (7, [.ref a_p2_water, .ref a_p2_lacked, .ref a_p2_seenTurn, .ref a_p2_seenSet, .int f_p2_day, .int f_p2_left, .int f_p2_turn, .int f_p2_lot, .int f_p2_seen])), (a_p2_seenTurn, .inl (ca 0, 8, .inl c_p2_seenTurn)), (a_p2_seenSet, .inl (ca 0, 8, .inl c_p2_seenSet))] → va_S A s.heap H locs → ∀ (ls : Array Slot), lv_has ls 6 [(1, .ref a_p1), (2, .ref a_p2), (3, .int y3), (4, .int y4), (5, .int y5)] → W p l e RM_X10_waysHeard s m args below meth c H locs 0 0 (MQ below (QI_ G A res [(a_p1, .inr (3, [.ref a_p1_water, .ref a_p1_need, .ref a_p1_dew, .ref a_p1_drops, .ref a_p1_song, .int f_p1_terraces, .int f_p1_days, .int f_p1_law, .int f_p1_slip, .int f_p1_songLength])), (a_p1_song, .inl (ca 0, 8, .inl c_p1_song)), (a_p2, .inr (7, [.ref a_p2_water, .ref a_p2_lacked, .ref a_p2_seenTurn, .ref a_p2_seenSet, .int f_p2_day, .int f_p2_left, .int f_p2_turn, .int f_p2_lot, .int f_p2_seen])), (a_p2_seenTurn, .inl (ca 0, 8, .inl c_p2_seenTurn)), (a_p2_seenSet, .inl (ca 0, 8, .inl c_p2_seenSet))]) args s 0 0 A) (F0 m 6 ls []) := by
  obtain ⟨hx, hb, hr, hml, hown, hts, hlocks, hK, hA, hE⟩ := id X0
  intro n
  induction n with
  | zero => intro y3 y4 y5 h; cases h
  | succ n ih =>
    intro y3 y4 y5 h H locs hP hD hS ls hl
    rw [F_X10_waysHeard_6] at h
    refine lv_iload hx hb dX10_waysHeard_6 (lv_at hl 4 rfl) ?_
    refine lv_iload_n hx hb dX10_waysHeard_8 rfl (lv_at hl 2 rfl) ?_
    refine lv_icmp_ge (tgt := 30) hx hb dX10_waysHeard_9 (by decide) (fun b1 => ?_) (fun b1 => ?_)
    · have h := (if_pos b1).symm.trans h
      refine lv_iload hx hb dX10_waysHeard_30 (lv_at hl 3 rfl) ?_
      have h := sm_i h
      subst h
      exact W.iret (v := y4) hx hb hr (fun t ht hW => ⟨⟨y4, (), rfl, rfl, by rw [ht]; exact hP, hD⟩, hS.F ht⟩) hS.2.2 dX10_waysHeard_32
    · have h := (if_neg b1).symm.trans h
      refine lv_iload hx hb dX10_waysHeard_12 (lv_at hl 3 rfl) ?_
      refine lv_aload_n hx hb dX10_waysHeard_14 rfl (lv_at hl 0 rfl) ?_
      refine lv_aload_n hx hb dX10_waysHeard_15 rfl (lv_at hl 1 rfl) ?_
      refine lv_iload hx hb dX10_waysHeard_16 (lv_at hl 4 rfl) ?_
      obtain ⟨u2, hc3, h⟩ := bd_o h
      refine jn_i (wr := []) (ws' := [(a_p1, .inr (3, [.ref a_p1_water, .ref a_p1_need, .ref a_p1_dew, .ref a_p1_drops, .ref a_p1_song, .int f_p1_terraces, .int f_p1_days, .int f_p1_law, .int f_p1_slip, .int f_p1_songLength])), (a_p1_song, .inl (ca 0, 8, .inl c_p1_song)), (a_p2, .inr (7, [.ref a_p2_water, .ref a_p2_lacked, .ref a_p2_seenTurn, .ref a_p2_seenSet, .int f_p2_day, .int f_p2_left, .int f_p2_turn, .int f_p2_lot, .int f_p2_seen])), (a_p2_seenTurn, .inl (ca 0, 8, .inl c_p2_seenTurn)), (a_p2_seenSet, .inl (ca 0, 8, .inl c_p2_seenSet))]) (va_runS (As := [.ref a_p1, .ref a_p2, .int y5]) (rest := [.int y4]) ⟨hx, hb, hml, hown, hts⟩ (c_X10_waysOfTurn l G ca ad av H.size a_p1 a_p1_song a_p2 a_p2_seenTurn a_p2_seenSet a_p1_water a_p1_need a_p1_dew a_p1_drops a_p2_water a_p2_lacked f_p1_days f_p1_law f_p1_slip f_p2_day f_p2_left f_p2_turn f_p2_lot c_p1_song f_p1_terraces f_p1_songLength c_p2_seenTurn c_p2_seenSet f_p2_seen y5 u2 hc3) (va_cwS 3 hts gX10_waysHeard_X10_waysOfTurn rfl rfl rfl (by decide +kernel) ⟨Nat.le_of_ble_eq_true rfl, Nat.le_of_ble_eq_true rfl⟩) (pre_s hK hE hA hP hD hS [0, 1, 2, 3, 4] rfl (by decide)) rfl rfl hl.1 rfl (lv_room (Nat.le_of_ble_eq_true rfl)) dX10_waysHeard_18 ⟨Nat.le_of_ble_eq_true rfl, Nat.le_of_ble_eq_true rfl⟩) hA hP hD hS [0, 1, 2, 3, 4] [] [0, 1, 2, 3, 4] rfl rfl (by decide) (by decide) (by decide) rfl (fun H locs hP hD hS => ?_)
      refine lv_imul hx hb dX10_waysHeard_21 ?_
      refine lv_istore (lv' := [(4, .int (y4 * u2)), (1, .ref a_p1), (2, .ref a_p2), (3, .int y3), (5, .int y5)]) hx hb dX10_waysHeard_22 hl (by decide) rfl (fun ls hl => ?_)
      refine lv_iinc (v := (y5 + (1 : Int32))) (lv' := [(5, .int (y5 + (1 : Int32))), (4, .int (y4 * u2)), (1, .ref a_p1), (2, .ref a_p2), (3, .int y3)]) hx hb dX10_waysHeard_24 hl (k := 4) rfl rfl (by decide) rfl (fun ls hl => ?_)
      refine lv_goto (tgt := 6) hx hb dX10_waysHeard_27 (by decide) ?_
      exact ih y3 (y4 * u2) (y5 + (1 : Int32)) h H locs hP hD hS ls (lv_sub hl [2, 3, 4, 1, 0] rfl)
def F_X10_waysHeard (c_p1_song : Nat → Int32) (f_p1_terraces : Int32) (f_p1_songLength : Int32) (c_p2_seenTurn : Nat → Int32) (c_p2_seenSet : Nat → Int32) (f_p2_seen : Int32) (x3 : Int32) : Option (Int32) := F_X10_waysHeard_6 c_p1_song f_p1_terraces f_p1_songLength c_p2_seenTurn c_p2_seenSet f_p2_seen FU_ x3 (1 : Int32) (0 : Int32)
set_option maxHeartbeats 4000000 in
set_option maxRecDepth 100000 in
theorem w_X10_waysHeard_0 {p : Program} {l : Launch} {e : Env} {s : State} {m : MethodId} {args : Array Value} {below : List Frame} {meth : Method} {c : Code} {G : va_G} {ca : Nat → ClassId} {ad av : Nat → Nat} {A : Nat → Prop} (X0 : CX_ p s m args meth c cX10_waysHeard 6 (some .int) wsX10_waysHeard RX10 G ca ad av A) (a_p1 : Nat) (a_p1_song : Nat) (a_p2 : Nat) (a_p2_seenTurn : Nat) (a_p2_seenSet : Nat) (a_p1_water : Nat) (a_p1_need : Nat) (a_p1_dew : Nat) (a_p1_drops : Nat) (a_p2_water : Nat) (a_p2_lacked : Nat) (a_t : Nat) (f_p1_days : Int32) (f_p1_law : Int32) (f_p1_slip : Int32) (f_p2_day : Int32) (f_p2_left : Int32) (f_p2_turn : Int32) (f_p2_lot : Int32) (c_p1_song : Nat → Int32) (f_p1_terraces : Int32) (f_p1_songLength : Int32) (c_p2_seenTurn : Nat → Int32) (c_p2_seenSet : Nat → Int32) (f_p2_seen : Int32) (res : Int32) (x3 : Int32) (h : F_X10_waysHeard c_p1_song f_p1_terraces f_p1_songLength c_p2_seenTurn c_p2_seenSet f_p2_seen x3 = some res) : ∀ (H : Heap) (locs : List Loc), va_P G vwCl [(a_p1, .inr (3, [.ref a_p1_water, .ref a_p1_need, .ref a_p1_dew, .ref a_p1_drops, .ref a_p1_song, .int f_p1_terraces, .int f_p1_days, .int f_p1_law, .int f_p1_slip, .int f_p1_songLength])), (a_p1_song, .inl (ca 0, 8, .inl c_p1_song)), (a_p2, .inr (7, [.ref a_p2_water, .ref a_p2_lacked, .ref a_p2_seenTurn, .ref a_p2_seenSet, .int f_p2_day, .int f_p2_left, .int f_p2_turn, .int f_p2_lot, .int f_p2_seen])), (a_p2_seenTurn, .inl (ca 0, 8, .inl c_p2_seenTurn)), (a_p2_seenSet, .inl (ca 0, 8, .inl c_p2_seenSet))] H → va_D A [(a_p1, .inr (3, [.ref a_p1_water, .ref a_p1_need, .ref a_p1_dew, .ref a_p1_drops, .ref a_p1_song, .int f_p1_terraces, .int f_p1_days, .int f_p1_law, .int f_p1_slip, .int f_p1_songLength])), (a_p1_song, .inl (ca 0, 8, .inl c_p1_song)), (a_p2, .inr (7, [.ref a_p2_water, .ref a_p2_lacked, .ref a_p2_seenTurn, .ref a_p2_seenSet, .int f_p2_day, .int f_p2_left, .int f_p2_turn, .int f_p2_lot, .int f_p2_seen])), (a_p2_seenTurn, .inl (ca 0, 8, .inl c_p2_seenTurn)), (a_p2_seenSet, .inl (ca 0, 8, .inl c_p2_seenSet))] → va_S A s.heap H locs → ∀ (ls : Array Slot), lv_has ls 6 [(0, .ref a_t), (1, .ref a_p1), (2, .ref a_p2), (3, .int x3)] → W p l e RM_X10_waysHeard s m args below meth c H locs 0 0 (MQ below (QI_ G A res [(a_p1, .inr (3, [.ref a_p1_water, .ref a_p1_need, .ref a_p1_dew, .ref a_p1_drops, .ref a_p1_song, .int f_p1_terraces, .int f_p1_days, .int f_p1_law, .int f_p1_slip, .int f_p1_songLength])), (a_p1_song, .inl (ca 0, 8, .inl c_p1_song)), (a_p2, .inr (7, [.ref a_p2_water, .ref a_p2_lacked, .ref a_p2_seenTurn, .ref a_p2_seenSet, .int f_p2_day, .int f_p2_left, .int f_p2_turn, .int f_p2_lot, .int f_p2_seen])), (a_p2_seenTurn, .inl (ca 0, 8, .inl c_p2_seenTurn)), (a_p2_seenSet, .inl (ca 0, 8, .inl c_p2_seenSet))]) args s 0 0 A) (F0 m 0 ls []) := by
  obtain ⟨hx, hb, hr, hml, hown, hts, hlocks, hK, hA, hE⟩ := id X0
  intro H locs hP hD hS ls hl
  unfold F_X10_waysHeard at h
  refine lv_iconst (v := 1) hx hb dX10_waysHeard_0 (by decide) ?_
  refine lv_istore (lv' := [(4, .int (1 : Int32)), (0, .ref a_t), (1, .ref a_p1), (2, .ref a_p2), (3, .int x3)]) hx hb dX10_waysHeard_1 hl (by decide) rfl (fun ls hl => ?_)
  refine lv_iconst (v := 0) hx hb dX10_waysHeard_3 (by decide) ?_
  refine lv_istore (lv' := [(5, .int (0 : Int32)), (4, .int (1 : Int32)), (0, .ref a_t), (1, .ref a_p1), (2, .ref a_p2), (3, .int x3)]) hx hb dX10_waysHeard_4 hl (by decide) rfl (fun ls hl => ?_)
  exact w_X10_waysHeard_6 X0 a_p1 a_p1_song a_p2 a_p2_seenTurn a_p2_seenSet a_p1_water a_p1_need a_p1_dew a_p1_drops a_p2_water a_p2_lacked a_t f_p1_days f_p1_law f_p1_slip f_p2_day f_p2_left f_p2_turn f_p2_lot c_p1_song f_p1_terraces f_p1_songLength c_p2_seenTurn c_p2_seenSet f_p2_seen _ FU_ x3 (1 : Int32) (0 : Int32) h H locs hP hD hS ls (lv_sub hl [3, 4, 5, 1, 0] rfl)
set_option maxHeartbeats 4000000 in
set_option maxRecDepth 100000 in
theorem c_X10_waysHeard (l : Launch) (G : va_G) (ca : Nat → ClassId) (ad av : Nat → Nat) (sz : Nat) (a_p1 : Nat) (a_p1_song : Nat) (a_p2 : Nat) (a_p2_seenTurn : Nat) (a_p2_seenSet : Nat) (a_p1_water : Nat) (a_p1_need : Nat) (a_p1_dew : Nat) (a_p1_drops : Nat) (a_p2_water : Nat) (a_p2_lacked : Nat) (a_t : Nat) (f_p1_days : Int32) (f_p1_law : Int32) (f_p1_slip : Int32) (f_p2_day : Int32) (f_p2_left : Int32) (f_p2_turn : Int32) (f_p2_lot : Int32) (c_p1_song : Nat → Int32) (f_p1_terraces : Int32) (f_p1_songLength : Int32) (c_p2_seenTurn : Nat → Int32) (c_p2_seenSet : Nat → Int32) (f_p2_seen : Int32) (x3 : Int32) (res : Int32) (h : F_X10_waysHeard c_p1_song f_p1_terraces f_p1_songLength c_p2_seenTurn c_p2_seenSet f_p2_seen x3 = some res) : Met l yX10_waysHeard wsX10_waysHeard RM_X10_waysHeard (va_Pc [.ref a_t, .ref a_p1, .ref a_p2, .int x3] (PW_ G ca ad av sz [(a_p1, .inr (3, [.ref a_p1_water, .ref a_p1_need, .ref a_p1_dew, .ref a_p1_drops, .ref a_p1_song, .int f_p1_terraces, .int f_p1_days, .int f_p1_law, .int f_p1_slip, .int f_p1_songLength])), (a_p1_song, .inl (ca 0, 8, .inl c_p1_song)), (a_p2, .inr (7, [.ref a_p2_water, .ref a_p2_lacked, .ref a_p2_seenTurn, .ref a_p2_seenSet, .int f_p2_day, .int f_p2_left, .int f_p2_turn, .int f_p2_lot, .int f_p2_seen])), (a_p2_seenTurn, .inl (ca 0, 8, .inl c_p2_seenTurn)), (a_p2_seenSet, .inl (ca 0, 8, .inl c_p2_seenSet))])) (QI_ G (va_A [(a_p1, .inr (3, [.ref a_p1_water, .ref a_p1_need, .ref a_p1_dew, .ref a_p1_drops, .ref a_p1_song, .int f_p1_terraces, .int f_p1_days, .int f_p1_law, .int f_p1_slip, .int f_p1_songLength])), (a_p1_song, .inl (ca 0, 8, .inl c_p1_song)), (a_p2, .inr (7, [.ref a_p2_water, .ref a_p2_lacked, .ref a_p2_seenTurn, .ref a_p2_seenSet, .int f_p2_day, .int f_p2_left, .int f_p2_turn, .int f_p2_lot, .int f_p2_seen])), (a_p2_seenTurn, .inl (ca 0, 8, .inl c_p2_seenTurn)), (a_p2_seenSet, .inl (ca 0, 8, .inl c_p2_seenSet))] sz) res [(a_p1, .inr (3, [.ref a_p1_water, .ref a_p1_need, .ref a_p1_dew, .ref a_p1_drops, .ref a_p1_song, .int f_p1_terraces, .int f_p1_days, .int f_p1_law, .int f_p1_slip, .int f_p1_songLength])), (a_p1_song, .inl (ca 0, 8, .inl c_p1_song)), (a_p2, .inr (7, [.ref a_p2_water, .ref a_p2_lacked, .ref a_p2_seenTurn, .ref a_p2_seenSet, .int f_p2_day, .int f_p2_left, .int f_p2_turn, .int f_p2_lot, .int f_p2_seen])), (a_p2_seenTurn, .inl (ca 0, 8, .inl c_p2_seenTurn)), (a_p2_seenSet, .inl (ca 0, 8, .inl c_p2_seenSet))]) 0 0 (va_A [(a_p1, .inr (3, [.ref a_p1_water, .ref a_p1_need, .ref a_p1_dew, .ref a_p1_drops, .ref a_p1_song, .int f_p1_terraces, .int f_p1_days, .int f_p1_law, .int f_p1_slip, .int f_p1_songLength])), (a_p1_song, .inl (ca 0, 8, .inl c_p1_song)), (a_p2, .inr (7, [.ref a_p2_water, .ref a_p2_lacked, .ref a_p2_seenTurn, .ref a_p2_seenSet, .int f_p2_day, .int f_p2_left, .int f_p2_turn, .int f_p2_lot, .int f_p2_seen])), (a_p2_seenTurn, .inl (ca 0, 8, .inl c_p2_seenTurn)), (a_p2_seenSet, .inl (ca 0, 8, .inl c_p2_seenSet))] sz) := by
  refine Met.ofW (cc := cX10_waysHeard) (maxL := 6) (ret := (some .int)) (by decide) rfl ?_
  intro p e s m args below meth c s₁ B hml hv
  obtain ⟨X0, rfl, rfl, hP, hD⟩ := en_t B hml hv
  have hl := lv_entry ([.ref a_t, .ref a_p1, .ref a_p2, .int x3]) (n := 6) (Nat.le_of_ble_eq_true rfl)
  rw [lg_entry_eq]
  generalize (lg_sl ([.ref a_t, .ref a_p1, .ref a_p2, .int x3]) ++ List.replicate (6 - (lg_sl ([.ref a_t, .ref a_p1, .ref a_p2, .int x3])).length) Slot.unset).toArray = ls at hl ⊢
  exact w_X10_waysHeard_0 X0 a_p1 a_p1_song a_p2 a_p2_seenTurn a_p2_seenSet a_p1_water a_p1_need a_p1_dew a_p1_drops a_p2_water a_p2_lacked a_t f_p1_days f_p1_law f_p1_slip f_p2_day f_p2_left f_p2_turn f_p2_lot c_p1_song f_p1_terraces f_p1_songLength c_p2_seenTurn c_p2_seenSet f_p2_seen _ x3 h s.heap [] hP hD va_S.rf ls hl

/-! X10_placesHeard -/
abbrev RM_X10_placesHeard : Room := { frames := 3, cells := 0, slots := 0, locals := 73 }
def F_X10_placesHeard (c_p1_song : Nat → Int32) (f_p1_terraces : Int32) (f_p1_songLength : Int32) (c_p2_seenTurn : Nat → Int32) (c_p2_seenSet : Nat → Int32) (f_p2_seen : Int32) (x3 : Int32) (x4 : Int32) : Option (Int32) := (F_X10_waysHeard c_p1_song f_p1_terraces f_p1_songLength c_p2_seenTurn c_p2_seenSet f_p2_seen x3).bind (fun u1 => if u1 = 0 then (some ((0 : Int32))) else ((F_X3_sung c_p1_song f_p1_songLength x4).bind (fun u4 => (F_X3_allBits f_p1_terraces).bind (fun u6 => (F_X7_heardOf c_p2_seenTurn c_p2_seenSet f_p2_seen x4 u6).bind (fun u8 => (F_X3_nextTo f_p1_terraces u4).bind (fun u10 => some ((u8 &&& (((1 : Int32) <<< (u4 &&& 31)) ||| ((1 : Int32) <<< (u10 &&& 31)))))))))))
set_option maxHeartbeats 4000000 in
set_option maxRecDepth 100000 in
theorem w_X10_placesHeard_0 {p : Program} {l : Launch} {e : Env} {s : State} {m : MethodId} {args : Array Value} {below : List Frame} {meth : Method} {c : Code} {G : va_G} {ca : Nat → ClassId} {ad av : Nat → Nat} {A : Nat → Prop} (X0 : CX_ p s m args meth c cX10_placesHeard 6 (some .int) wsX10_placesHeard RX10 G ca ad av A) (a_t : Nat) (a_p1 : Nat) (a_p1_song : Nat) (a_p2 : Nat) (a_p2_seenTurn : Nat) (a_p2_seenSet : Nat) (a_t_ways : Nat) (a_p1_water : Nat) (a_p1_need : Nat) (a_p1_dew : Nat) (a_p1_drops : Nat) (a_p2_water : Nat) (a_p2_lacked : Nat) (f_p1_days : Int32) (f_p1_law : Int32) (f_p1_slip : Int32) (f_p2_day : Int32) (f_p2_left : Int32) (f_p2_turn : Int32) (f_p2_lot : Int32) (c_p1_song : Nat → Int32) (f_p1_terraces : Int32) (f_p1_songLength : Int32) (c_p2_seenTurn : Nat → Int32) (c_p2_seenSet : Nat → Int32) (f_p2_seen : Int32) (res : Int32) (x3 : Int32) (x4 : Int32) (h : F_X10_placesHeard c_p1_song f_p1_terraces f_p1_songLength c_p2_seenTurn c_p2_seenSet f_p2_seen x3 x4 = some res) : ∀ (H : Heap) (locs : List Loc), va_P G vwCl [(a_t, .inr (10, [.ref a_t_ways])), (a_p1, .inr (3, [.ref a_p1_water, .ref a_p1_need, .ref a_p1_dew, .ref a_p1_drops, .ref a_p1_song, .int f_p1_terraces, .int f_p1_days, .int f_p1_law, .int f_p1_slip, .int f_p1_songLength])), (a_p1_song, .inl (ca 0, 8, .inl c_p1_song)), (a_p2, .inr (7, [.ref a_p2_water, .ref a_p2_lacked, .ref a_p2_seenTurn, .ref a_p2_seenSet, .int f_p2_day, .int f_p2_left, .int f_p2_turn, .int f_p2_lot, .int f_p2_seen])), (a_p2_seenTurn, .inl (ca 0, 8, .inl c_p2_seenTurn)), (a_p2_seenSet, .inl (ca 0, 8, .inl c_p2_seenSet))] H → va_D A [(a_t, .inr (10, [.ref a_t_ways])), (a_p1, .inr (3, [.ref a_p1_water, .ref a_p1_need, .ref a_p1_dew, .ref a_p1_drops, .ref a_p1_song, .int f_p1_terraces, .int f_p1_days, .int f_p1_law, .int f_p1_slip, .int f_p1_songLength])), (a_p1_song, .inl (ca 0, 8, .inl c_p1_song)), (a_p2, .inr (7, [.ref a_p2_water, .ref a_p2_lacked, .ref a_p2_seenTurn, .ref a_p2_seenSet, .int f_p2_day, .int f_p2_left, .int f_p2_turn, .int f_p2_lot, .int f_p2_seen])), (a_p2_seenTurn, .inl (ca 0, 8, .inl c_p2_seenTurn)), (a_p2_seenSet, .inl (ca 0, 8, .inl c_p2_seenSet))] → va_S A s.heap H locs → ∀ (ls : Array Slot), lv_has ls 6 [(0, .ref a_t), (1, .ref a_p1), (2, .ref a_p2), (3, .int x3), (4, .int x4)] → W p l e RM_X10_placesHeard s m args below meth c H locs 0 0 (MQ below (QI_ G A res [(a_t, .inr (10, [.ref a_t_ways])), (a_p1, .inr (3, [.ref a_p1_water, .ref a_p1_need, .ref a_p1_dew, .ref a_p1_drops, .ref a_p1_song, .int f_p1_terraces, .int f_p1_days, .int f_p1_law, .int f_p1_slip, .int f_p1_songLength])), (a_p1_song, .inl (ca 0, 8, .inl c_p1_song)), (a_p2, .inr (7, [.ref a_p2_water, .ref a_p2_lacked, .ref a_p2_seenTurn, .ref a_p2_seenSet, .int f_p2_day, .int f_p2_left, .int f_p2_turn, .int f_p2_lot, .int f_p2_seen])), (a_p2_seenTurn, .inl (ca 0, 8, .inl c_p2_seenTurn)), (a_p2_seenSet, .inl (ca 0, 8, .inl c_p2_seenSet))]) args s 0 0 A) (F0 m 0 ls []) := by
  obtain ⟨hx, hb, hr, hml, hown, hts, hlocks, hK, hA, hE⟩ := id X0
  intro H locs hP hD hS ls hl
  unfold F_X10_placesHeard at h
  refine lv_aload_n hx hb dX10_placesHeard_0 rfl (lv_at hl 0 rfl) ?_
  refine lv_aload_n hx hb dX10_placesHeard_1 rfl (lv_at hl 1 rfl) ?_
  refine lv_aload_n hx hb dX10_placesHeard_2 rfl (lv_at hl 2 rfl) ?_
  refine lv_iload_n hx hb dX10_placesHeard_3 rfl (lv_at hl 3 rfl) ?_
  obtain ⟨u1, hc2, h⟩ := bd_o h
  refine jn_i (wr := [(a_t, .inr (10, [.ref a_t_ways]))]) (ws' := [(a_t, .inr (10, [.ref a_t_ways])), (a_p1, .inr (3, [.ref a_p1_water, .ref a_p1_need, .ref a_p1_dew, .ref a_p1_drops, .ref a_p1_song, .int f_p1_terraces, .int f_p1_days, .int f_p1_law, .int f_p1_slip, .int f_p1_songLength])), (a_p1_song, .inl (ca 0, 8, .inl c_p1_song)), (a_p2, .inr (7, [.ref a_p2_water, .ref a_p2_lacked, .ref a_p2_seenTurn, .ref a_p2_seenSet, .int f_p2_day, .int f_p2_left, .int f_p2_turn, .int f_p2_lot, .int f_p2_seen])), (a_p2_seenTurn, .inl (ca 0, 8, .inl c_p2_seenTurn)), (a_p2_seenSet, .inl (ca 0, 8, .inl c_p2_seenSet))]) (va_runV (As := [.ref a_p1, .ref a_p2, .int x3]) (rest := []) ⟨hx, hb, hml, hown, hts⟩ (c_X10_waysHeard l G ca ad av H.size a_p1 a_p1_song a_p2 a_p2_seenTurn a_p2_seenSet a_p1_water a_p1_need a_p1_dew a_p1_drops a_p2_water a_p2_lacked a_t f_p1_days f_p1_law f_p1_slip f_p2_day f_p2_left f_p2_turn f_p2_lot c_p1_song f_p1_terraces f_p1_songLength c_p2_seenTurn c_p2_seenSet f_p2_seen x3 u1 hc2) (cwV 3 hts gX10_placesHeard_X10_waysHeard rfl rfl rfl (by decide +kernel) ⟨Nat.le_of_ble_eq_true rfl, Nat.le_of_ble_eq_true rfl⟩) (pre_v (q0 := 0) (ci := 10) hK hE hA hP hD hS [1, 2, 3, 4, 5] rfl (by decide) rfl rfl) rfl rfl hl.1 rfl (lv_room (Nat.le_of_ble_eq_true rfl)) dX10_placesHeard_4 ⟨Nat.le_of_ble_eq_true rfl, Nat.le_of_ble_eq_true rfl⟩) hA hP hD hS [1, 2, 3, 4, 5] [0] [0, 1, 2, 3, 4, 5] rfl rfl (by decide) (by decide) (by decide) rfl (fun H locs hP hD hS => ?_)
  refine lv_if_ne (tgt := 12) hx hb dX10_placesHeard_7 (by decide) (fun b3 => ?_) (fun b3 => ?_)
  · have h := (if_neg b3).symm.trans h
    refine lv_aload_n hx hb dX10_placesHeard_12 rfl (lv_at hl 1 rfl) ?_
    refine lv_iload hx hb dX10_placesHeard_13 (lv_at hl 4 rfl) ?_
    obtain ⟨u4, hc5, h⟩ := bd_o h
    refine jn_i (wr := [(a_t, .inr (10, [.ref a_t_ways])), (a_p2, .inr (7, [.ref a_p2_water, .ref a_p2_lacked, .ref a_p2_seenTurn, .ref a_p2_seenSet, .int f_p2_day, .int f_p2_left, .int f_p2_turn, .int f_p2_lot, .int f_p2_seen])), (a_p2_seenTurn, .inl (ca 0, 8, .inl c_p2_seenTurn)), (a_p2_seenSet, .inl (ca 0, 8, .inl c_p2_seenSet))]) (ws' := [(a_t, .inr (10, [.ref a_t_ways])), (a_p1, .inr (3, [.ref a_p1_water, .ref a_p1_need, .ref a_p1_dew, .ref a_p1_drops, .ref a_p1_song, .int f_p1_terraces, .int f_p1_days, .int f_p1_law, .int f_p1_slip, .int f_p1_songLength])), (a_p1_song, .inl (ca 0, 8, .inl c_p1_song)), (a_p2, .inr (7, [.ref a_p2_water, .ref a_p2_lacked, .ref a_p2_seenTurn, .ref a_p2_seenSet, .int f_p2_day, .int f_p2_left, .int f_p2_turn, .int f_p2_lot, .int f_p2_seen])), (a_p2_seenTurn, .inl (ca 0, 8, .inl c_p2_seenTurn)), (a_p2_seenSet, .inl (ca 0, 8, .inl c_p2_seenSet))]) (va_runV (As := [.int x4]) (rest := []) ⟨hx, hb, hml, hown, hts⟩ (c_X3_sung l G ca ad av H.size a_p1 a_p1_song a_p1_water a_p1_need a_p1_dew a_p1_drops f_p1_terraces f_p1_days f_p1_law f_p1_slip c_p1_song f_p1_songLength x4 u4 hc5) (cwV 1 hts gX10_placesHeard_X3_sung rfl rfl rfl (by decide +kernel) ⟨Nat.le_of_ble_eq_true rfl, Nat.le_of_ble_eq_true rfl⟩) (pre_v (q0 := 1) (ci := 3) hK hE hA hP hD hS [1, 2] rfl (by decide) rfl rfl) rfl rfl hl.1 rfl (lv_room (Nat.le_of_ble_eq_true rfl)) dX10_placesHeard_15 ⟨Nat.le_of_ble_eq_true rfl, Nat.le_of_ble_eq_true rfl⟩) hA hP hD hS [1, 2] [0, 3, 4, 5] [0, 4, 5, 1, 2, 3] rfl rfl (by decide) (by decide) (by decide) rfl (fun H locs hP hD hS => ?_)
    refine lv_istore (lv' := [(5, .int u4), (0, .ref a_t), (1, .ref a_p1), (2, .ref a_p2), (3, .int x3), (4, .int x4)]) hx hb dX10_placesHeard_18 hl (by decide) rfl (fun ls hl => ?_)
    refine lv_aload_n hx hb dX10_placesHeard_20 rfl (lv_at hl 3 rfl) ?_
    refine lv_iload hx hb dX10_placesHeard_21 (lv_at hl 5 rfl) ?_
    refine lv_aload_n hx hb dX10_placesHeard_23 rfl (lv_at hl 2 rfl) ?_
    obtain ⟨u6, hc7, h⟩ := bd_o h
    refine jn_i (wr := [(a_t, .inr (10, [.ref a_t_ways])), (a_p1_song, .inl (ca 0, 8, .inl c_p1_song)), (a_p2, .inr (7, [.ref a_p2_water, .ref a_p2_lacked, .ref a_p2_seenTurn, .ref a_p2_seenSet, .int f_p2_day, .int f_p2_left, .int f_p2_turn, .int f_p2_lot, .int f_p2_seen])), (a_p2_seenTurn, .inl (ca 0, 8, .inl c_p2_seenTurn)), (a_p2_seenSet, .inl (ca 0, 8, .inl c_p2_seenSet))]) (ws' := [(a_t, .inr (10, [.ref a_t_ways])), (a_p1, .inr (3, [.ref a_p1_water, .ref a_p1_need, .ref a_p1_dew, .ref a_p1_drops, .ref a_p1_song, .int f_p1_terraces, .int f_p1_days, .int f_p1_law, .int f_p1_slip, .int f_p1_songLength])), (a_p1_song, .inl (ca 0, 8, .inl c_p1_song)), (a_p2, .inr (7, [.ref a_p2_water, .ref a_p2_lacked, .ref a_p2_seenTurn, .ref a_p2_seenSet, .int f_p2_day, .int f_p2_left, .int f_p2_turn, .int f_p2_lot, .int f_p2_seen])), (a_p2_seenTurn, .inl (ca 0, 8, .inl c_p2_seenTurn)), (a_p2_seenSet, .inl (ca 0, 8, .inl c_p2_seenSet))]) (va_runV (As := []) (rest := [.int x4, .ref a_p2]) ⟨hx, hb, hml, hown, hts⟩ (c_X3_allBits l G ca ad av H.size a_p1 a_p1_water a_p1_need a_p1_dew a_p1_drops a_p1_song f_p1_days f_p1_law f_p1_slip f_p1_songLength f_p1_terraces u6 hc7) (cwV 0 hts gX10_placesHeard_X3_allBits rfl rfl rfl (by decide +kernel) ⟨Nat.le_of_ble_eq_true rfl, Nat.le_of_ble_eq_true rfl⟩) (pre_v (q0 := 1) (ci := 3) hK hE hA hP hD hS [1] rfl (by decide) rfl rfl) rfl rfl hl.1 rfl (lv_room (Nat.le_of_ble_eq_true rfl)) dX10_placesHeard_24 ⟨Nat.le_of_ble_eq_true rfl, Nat.le_of_ble_eq_true rfl⟩) hA hP hD hS [1] [0, 2, 3, 4, 5] [0, 5, 1, 2, 3, 4] rfl rfl (by decide) (by decide) (by decide) rfl (fun H locs hP hD hS => ?_)
    obtain ⟨u8, hc9, h⟩ := bd_o h
    refine jn_i (wr := [(a_t, .inr (10, [.ref a_t_ways])), (a_p1, .inr (3, [.ref a_p1_water, .ref a_p1_need, .ref a_p1_dew, .ref a_p1_drops, .ref a_p1_song, .int f_p1_terraces, .int f_p1_days, .int f_p1_law, .int f_p1_slip, .int f_p1_songLength])), (a_p1_song, .inl (ca 0, 8, .inl c_p1_song))]) (ws' := [(a_t, .inr (10, [.ref a_t_ways])), (a_p1, .inr (3, [.ref a_p1_water, .ref a_p1_need, .ref a_p1_dew, .ref a_p1_drops, .ref a_p1_song, .int f_p1_terraces, .int f_p1_days, .int f_p1_law, .int f_p1_slip, .int f_p1_songLength])), (a_p1_song, .inl (ca 0, 8, .inl c_p1_song)), (a_p2, .inr (7, [.ref a_p2_water, .ref a_p2_lacked, .ref a_p2_seenTurn, .ref a_p2_seenSet, .int f_p2_day, .int f_p2_left, .int f_p2_turn, .int f_p2_lot, .int f_p2_seen])), (a_p2_seenTurn, .inl (ca 0, 8, .inl c_p2_seenTurn)), (a_p2_seenSet, .inl (ca 0, 8, .inl c_p2_seenSet))]) (va_runV (As := [.int x4, .int u6]) (rest := []) ⟨hx, hb, hml, hown, hts⟩ (c_X7_heardOf l G ca ad av H.size a_p2 a_p2_seenTurn a_p2_seenSet a_p2_water a_p2_lacked f_p2_day f_p2_left f_p2_turn f_p2_lot c_p2_seenTurn c_p2_seenSet f_p2_seen x4 u6 u8 hc9) (cwV 2 hts gX10_placesHeard_X7_heardOf rfl rfl rfl (by decide +kernel) ⟨Nat.le_of_ble_eq_true rfl, Nat.le_of_ble_eq_true rfl⟩) (pre_v (q0 := 3) (ci := 7) hK hE hA hP hD hS [3, 4, 5] rfl (by decide) rfl rfl) rfl rfl hl.1 rfl (lv_room (Nat.le_of_ble_eq_true rfl)) dX10_placesHeard_27 ⟨Nat.le_of_ble_eq_true rfl, Nat.le_of_ble_eq_true rfl⟩) hA hP hD hS [3, 4, 5] [0, 1, 2] [0, 1, 2, 3, 4, 5] rfl rfl (by decide) (by decide) (by decide) rfl (fun H locs hP hD hS => ?_)
    refine lv_iconst (v := 1) hx hb dX10_placesHeard_30 (by decide) ?_
    refine lv_iload hx hb dX10_placesHeard_31 (lv_at hl 0 rfl) ?_
    refine lv_ishl hx hb dX10_placesHeard_33 ?_
    refine lv_iconst (v := 1) hx hb dX10_placesHeard_34 (by decide) ?_
    refine lv_aload_n hx hb dX10_placesHeard_35 rfl (lv_at hl 2 rfl) ?_
    refine lv_iload hx hb dX10_placesHeard_36 (lv_at hl 0 rfl) ?_
    obtain ⟨u10, hc11, h⟩ := bd_o h
    refine jn_i (wr := [(a_t, .inr (10, [.ref a_t_ways])), (a_p1_song, .inl (ca 0, 8, .inl c_p1_song)), (a_p2, .inr (7, [.ref a_p2_water, .ref a_p2_lacked, .ref a_p2_seenTurn, .ref a_p2_seenSet, .int f_p2_day, .int f_p2_left, .int f_p2_turn, .int f_p2_lot, .int f_p2_seen])), (a_p2_seenTurn, .inl (ca 0, 8, .inl c_p2_seenTurn)), (a_p2_seenSet, .inl (ca 0, 8, .inl c_p2_seenSet))]) (ws' := [(a_t, .inr (10, [.ref a_t_ways])), (a_p1, .inr (3, [.ref a_p1_water, .ref a_p1_need, .ref a_p1_dew, .ref a_p1_drops, .ref a_p1_song, .int f_p1_terraces, .int f_p1_days, .int f_p1_law, .int f_p1_slip, .int f_p1_songLength])), (a_p1_song, .inl (ca 0, 8, .inl c_p1_song)), (a_p2, .inr (7, [.ref a_p2_water, .ref a_p2_lacked, .ref a_p2_seenTurn, .ref a_p2_seenSet, .int f_p2_day, .int f_p2_left, .int f_p2_turn, .int f_p2_lot, .int f_p2_seen])), (a_p2_seenTurn, .inl (ca 0, 8, .inl c_p2_seenTurn)), (a_p2_seenSet, .inl (ca 0, 8, .inl c_p2_seenSet))]) (va_runV (As := [.int u4]) (rest := [.int (1 : Int32), .int ((1 : Int32) <<< (u4 &&& 31)), .int u8]) ⟨hx, hb, hml, hown, hts⟩ (c_X3_nextTo l G ca ad av H.size a_p1 a_p1_water a_p1_need a_p1_dew a_p1_drops a_p1_song f_p1_days f_p1_law f_p1_slip f_p1_songLength f_p1_terraces u4 u10 hc11) (cwV 1 hts gX10_placesHeard_X3_nextTo rfl rfl rfl (by decide +kernel) ⟨Nat.le_of_ble_eq_true rfl, Nat.le_of_ble_eq_true rfl⟩) (pre_v (q0 := 1) (ci := 3) hK hE hA hP hD hS [1] rfl (by decide) rfl rfl) rfl rfl hl.1 rfl (lv_room (Nat.le_of_ble_eq_true rfl)) dX10_placesHeard_38 ⟨Nat.le_of_ble_eq_true rfl, Nat.le_of_ble_eq_true rfl⟩) hA hP hD hS [1] [0, 2, 3, 4, 5] [0, 5, 1, 2, 3, 4] rfl rfl (by decide) (by decide) (by decide) rfl (fun H locs hP hD hS => ?_)
    refine lv_ishl hx hb dX10_placesHeard_41 ?_
    refine lv_ior hx hb dX10_placesHeard_42 ?_
    refine lv_iand hx hb dX10_placesHeard_43 ?_
    have h := sm_i h
    subst h
    exact W.iret (v := (u8 &&& (((1 : Int32) <<< (u4 &&& 31)) ||| ((1 : Int32) <<< (u10 &&& 31))))) hx hb hr (fun t ht hW => ⟨⟨(u8 &&& (((1 : Int32) <<< (u4 &&& 31)) ||| ((1 : Int32) <<< (u10 &&& 31)))), (), rfl, rfl, by rw [ht]; exact hP, hD⟩, hS.F ht⟩) hS.2.2 dX10_placesHeard_44
  · have h := (if_pos b3).symm.trans h
    refine lv_iconst (v := 0) hx hb dX10_placesHeard_10 (by decide) ?_
    have h := sm_i h
    subst h
    exact W.iret (v := (0 : Int32)) hx hb hr (fun t ht hW => ⟨⟨(0 : Int32), (), rfl, rfl, by rw [ht]; exact hP, hD⟩, hS.F ht⟩) hS.2.2 dX10_placesHeard_11
set_option maxHeartbeats 4000000 in
set_option maxRecDepth 100000 in
theorem c_X10_placesHeard (l : Launch) (G : va_G) (ca : Nat → ClassId) (ad av : Nat → Nat) (sz : Nat) (a_t : Nat) (a_p1 : Nat) (a_p1_song : Nat) (a_p2 : Nat) (a_p2_seenTurn : Nat) (a_p2_seenSet : Nat) (a_t_ways : Nat) (a_p1_water : Nat) (a_p1_need : Nat) (a_p1_dew : Nat) (a_p1_drops : Nat) (a_p2_water : Nat) (a_p2_lacked : Nat) (f_p1_days : Int32) (f_p1_law : Int32) (f_p1_slip : Int32) (f_p2_day : Int32) (f_p2_left : Int32) (f_p2_turn : Int32) (f_p2_lot : Int32) (c_p1_song : Nat → Int32) (f_p1_terraces : Int32) (f_p1_songLength : Int32) (c_p2_seenTurn : Nat → Int32) (c_p2_seenSet : Nat → Int32) (f_p2_seen : Int32) (x3 : Int32) (x4 : Int32) (res : Int32) (h : F_X10_placesHeard c_p1_song f_p1_terraces f_p1_songLength c_p2_seenTurn c_p2_seenSet f_p2_seen x3 x4 = some res) : Met l yX10_placesHeard wsX10_placesHeard RM_X10_placesHeard (va_Pc [.ref a_t, .ref a_p1, .ref a_p2, .int x3, .int x4] (PW_ G ca ad av sz [(a_t, .inr (10, [.ref a_t_ways])), (a_p1, .inr (3, [.ref a_p1_water, .ref a_p1_need, .ref a_p1_dew, .ref a_p1_drops, .ref a_p1_song, .int f_p1_terraces, .int f_p1_days, .int f_p1_law, .int f_p1_slip, .int f_p1_songLength])), (a_p1_song, .inl (ca 0, 8, .inl c_p1_song)), (a_p2, .inr (7, [.ref a_p2_water, .ref a_p2_lacked, .ref a_p2_seenTurn, .ref a_p2_seenSet, .int f_p2_day, .int f_p2_left, .int f_p2_turn, .int f_p2_lot, .int f_p2_seen])), (a_p2_seenTurn, .inl (ca 0, 8, .inl c_p2_seenTurn)), (a_p2_seenSet, .inl (ca 0, 8, .inl c_p2_seenSet))])) (QI_ G (va_A [(a_t, .inr (10, [.ref a_t_ways])), (a_p1, .inr (3, [.ref a_p1_water, .ref a_p1_need, .ref a_p1_dew, .ref a_p1_drops, .ref a_p1_song, .int f_p1_terraces, .int f_p1_days, .int f_p1_law, .int f_p1_slip, .int f_p1_songLength])), (a_p1_song, .inl (ca 0, 8, .inl c_p1_song)), (a_p2, .inr (7, [.ref a_p2_water, .ref a_p2_lacked, .ref a_p2_seenTurn, .ref a_p2_seenSet, .int f_p2_day, .int f_p2_left, .int f_p2_turn, .int f_p2_lot, .int f_p2_seen])), (a_p2_seenTurn, .inl (ca 0, 8, .inl c_p2_seenTurn)), (a_p2_seenSet, .inl (ca 0, 8, .inl c_p2_seenSet))] sz) res [(a_t, .inr (10, [.ref a_t_ways])), (a_p1, .inr (3, [.ref a_p1_water, .ref a_p1_need, .ref a_p1_dew, .ref a_p1_drops, .ref a_p1_song, .int f_p1_terraces, .int f_p1_days, .int f_p1_law, .int f_p1_slip, .int f_p1_songLength])), (a_p1_song, .inl (ca 0, 8, .inl c_p1_song)), (a_p2, .inr (7, [.ref a_p2_water, .ref a_p2_lacked, .ref a_p2_seenTurn, .ref a_p2_seenSet, .int f_p2_day, .int f_p2_left, .int f_p2_turn, .int f_p2_lot, .int f_p2_seen])), (a_p2_seenTurn, .inl (ca 0, 8, .inl c_p2_seenTurn)), (a_p2_seenSet, .inl (ca 0, 8, .inl c_p2_seenSet))]) 0 0 (va_A [(a_t, .inr (10, [.ref a_t_ways])), (a_p1, .inr (3, [.ref a_p1_water, .ref a_p1_need, .ref a_p1_dew, .ref a_p1_drops, .ref a_p1_song, .int f_p1_terraces, .int f_p1_days, .int f_p1_law, .int f_p1_slip, .int f_p1_songLength])), (a_p1_song, .inl (ca 0, 8, .inl c_p1_song)), (a_p2, .inr (7, [.ref a_p2_water, .ref a_p2_lacked, .ref a_p2_seenTurn, .ref a_p2_seenSet, .int f_p2_day, .int f_p2_left, .int f_p2_turn, .int f_p2_lot, .int f_p2_seen])), (a_p2_seenTurn, .inl (ca 0, 8, .inl c_p2_seenTurn)), (a_p2_seenSet, .inl (ca 0, 8, .inl c_p2_seenSet))] sz) := by
  refine Met.ofW (cc := cX10_placesHeard) (maxL := 6) (ret := (some .int)) (by decide) rfl ?_
  intro p e s m args below meth c s₁ B hml hv
  obtain ⟨X0, rfl, rfl, hP, hD⟩ := en_t B hml hv
  have hl := lv_entry ([.ref a_t, .ref a_p1, .ref a_p2, .int x3, .int x4]) (n := 6) (Nat.le_of_ble_eq_true rfl)
  rw [lg_entry_eq]
  generalize (lg_sl ([.ref a_t, .ref a_p1, .ref a_p2, .int x3, .int x4]) ++ List.replicate (6 - (lg_sl ([.ref a_t, .ref a_p1, .ref a_p2, .int x3, .int x4])).length) Slot.unset).toArray = ls at hl ⊢
  exact w_X10_placesHeard_0 X0 a_t a_p1 a_p1_song a_p2 a_p2_seenTurn a_p2_seenSet a_t_ways a_p1_water a_p1_need a_p1_dew a_p1_drops a_p2_water a_p2_lacked f_p1_days f_p1_law f_p1_slip f_p2_day f_p2_left f_p2_turn f_p2_lot c_p1_song f_p1_terraces f_p1_songLength c_p2_seenTurn c_p2_seenSet f_p2_seen _ x3 x4 h s.heap [] hP hD va_S.rf ls hl
