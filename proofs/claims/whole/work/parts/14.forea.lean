/-! X1_from -/
abbrev RM_X1_from : Room := { frames := 1, cells := 0, slots := 0, locals := 21 }
theorem k_X1_from_0 : Cond.fieldLink RX1 18 "DropDealers$Foresight" "drops" "[I" ∈ wsX1_from := by decide +kernel
theorem i_X1_from_X1 : ∀ w ∈ u_ws RX1 TX1 8, w ∈ wsX1_from := by decide +kernel
theorem k_X1_from_2 : Cond.fieldLinkNest RX1 49 "DropDealers$Now" "day" "I" "DropDealers" ∈ nw_l := by decide +kernel
theorem i_X1_from_X7 : ∀ w ∈ u_ws RX7 TX7 9, w ∈ wsX1_from := by decide +kernel
theorem k_X1_from_4 : Cond.fieldLink RX1 36 "DropDealers$Foresight" "terraces" "I" ∈ wsX1_from := by decide +kernel
theorem k_X1_from_5 : Cond.fieldLinkNest RX1 46 "DropDealers$Now" "left" "I" "DropDealers" ∈ nw_l := by decide +kernel
theorem k_X1_from_6 : Cond.fieldLink RX1 9 "DropDealers$Foresight" "water" "[I" ∈ wsX1_from := by decide +kernel
theorem k_X1_from_7 : Cond.fieldLinkNest RX1 37 "DropDealers$Now" "water" "[I" "DropDealers" ∈ nw_l := by decide +kernel
theorem k_X1_from_8 : Cond.fieldLink RX1 15 "DropDealers$Foresight" "gain" "[I" ∈ wsX1_from := by decide +kernel
theorem k_X1_from_9 : Cond.fieldLinkNest RX1 40 "DropDealers$Hill" "dew" "[I" "DropDealers" ∈ nw_l := by decide +kernel
theorem i_X1_from_X3 : ∀ w ∈ u_ws RX3 TX3 10, w ∈ wsX1_from := by decide +kernel
theorem k_X1_from_11 : Cond.fieldLinkNest RX1 43 "DropDealers$Hill" "need" "[I" "DropDealers" ∈ nw_l := by decide +kernel
theorem k_X1_from_12 : Cond.fieldLinkNest RX1 30 "DropDealers$Hill" "terraces" "I" "DropDealers" ∈ nw_l := by decide +kernel
def F_X1_from_67 (c_p1_need : Nat → Int32) (c_p1_dew : Nat → Int32) (c_p1_drops : Nat → Int32) (f_p1_terraces : Int32) (f_p1_days : Int32) (c_p2_water : Nat → Int32) (f_p2_day : Int32) (f_p2_left : Int32) : Nat → (Nat → Int32) → (Nat → Int32) → (Nat → Int32) → Int32 → Int32 → Option ((Nat → Int32) × (Nat → Int32) × (Nat → Int32) × Int32)
  | 0, _, _, _, _, _ => none
  | n + 1, c_t_water, c_t_gain, c_t_drops, f_t_terraces, y3 => if (40 : Int32) ≤ y3 then (some (c_t_water, c_t_gain, c_t_drops, f_t_terraces)) else ((F_X3_dropsOn c_p1_drops f_p1_days (f_p2_day + y3)).bind (fun u2 => if ok_I y3 40 = true then F_X1_from_67 c_p1_need c_p1_dew c_p1_drops f_p1_terraces f_p1_days c_p2_water f_p2_day f_p2_left n c_t_water c_t_gain (upd c_t_drops y3.toNatClampNeg u2) f_t_terraces (y3 + (1 : Int32)) else none))
set_option maxHeartbeats 4000000 in
set_option maxRecDepth 100000 in
theorem w_X1_from_67 {p : Program} {l : Launch} {e : Env} {s : State} {m : MethodId} {args : Array Value} {below : List Frame} {meth : Method} {c : Code} {G : va_G} {ca : Nat → ClassId} {ad av : Nat → Nat} {A : Nat → Prop} (X0 : CX_ p s m args meth c cX1_from 4 (some (.object "DropDealers$Foresight")) wsX1_from RX1 G ca ad av A) (a_t : Nat) (a_t_water : Nat) (a_t_gain : Nat) (a_t_drops : Nat) (a_p1 : Nat) (a_p1_need : Nat) (a_p1_dew : Nat) (a_p1_drops : Nat) (a_p2 : Nat) (a_p2_water : Nat) (a_t_level : Nat) (a_t_share : Nat) (a_t_song : Nat) (a_p1_water : Nat) (a_p1_song : Nat) (a_p2_lacked : Nat) (a_p2_seenTurn : Nat) (a_p2_seenSet : Nat) (f_t_pool : Int32) (f_p1_law : Int32) (f_p1_slip : Int32) (f_p1_songLength : Int32) (f_p2_turn : Int32) (f_p2_lot : Int32) (f_p2_seen : Int32) (c_p1_need : Nat → Int32) (c_p1_dew : Nat → Int32) (c_p1_drops : Nat → Int32) (f_p1_terraces : Int32) (f_p1_days : Int32) (c_p2_water : Nat → Int32) (f_p2_day : Int32) (f_p2_left : Int32) (res : (Nat → Int32) × (Nat → Int32) × (Nat → Int32) × Int32) : ∀ (n : Nat) (c_t_water : Nat → Int32) (c_t_gain : Nat → Int32) (c_t_drops : Nat → Int32) (f_t_terraces : Int32) (y3 : Int32), F_X1_from_67 c_p1_need c_p1_dew c_p1_drops f_p1_terraces f_p1_days c_p2_water f_p2_day f_p2_left n c_t_water c_t_gain c_t_drops f_t_terraces y3 = some res → ∀ (H : Heap) (locs : List Loc), va_P G vwCl [(a_t, .inr (1, [.ref a_t_water, .ref a_t_gain, .ref a_t_drops, .ref a_t_level, .ref a_t_share, .ref a_t_song, .int f_t_terraces, .int f_t_pool])), (a_t_water, .inl (ca 0, 6, .inl c_t_water)), (a_t_gain, .inl (ca 0, 6, .inl c_t_gain)), (a_t_drops, .inl (ca 0, 40, .inl c_t_drops)), (a_p1, .inr (3, [.ref a_p1_water, .ref a_p1_need, .ref a_p1_dew, .ref a_p1_drops, .ref a_p1_song, .int f_p1_terraces, .int f_p1_days, .int f_p1_law, .int f_p1_slip, .int f_p1_songLength])), (a_p1_need, .inl (ca 0, 6, .inl c_p1_need)), (a_p1_dew, .inl (ca 0, 6, .inl c_p1_dew)), (a_p1_drops, .inl (ca 0, 20, .inl c_p1_drops)), (a_p2, .inr (7, [.ref a_p2_water, .ref a_p2_lacked, .ref a_p2_seenTurn, .ref a_p2_seenSet, .int f_p2_day, .int f_p2_left, .int f_p2_turn, .int f_p2_lot, .int f_p2_seen])), (a_p2_water, .inl (ca 0, 6, .inl c_p2_water))] H → va_D A [(a_t, .inr (1, [.ref a_t_water, .ref a_t_gain, .ref a_t_drops, .ref a_t_level, .ref a_t_share, .ref a_t_song, .int f_t_terraces, .int f_t_pool])), (a_t_water, .inl (ca 0, 6, .inl c_t_water)), (a_t_gain, .inl (ca 0, 6, .inl c_t_gain)), (a_t_drops, .inl (ca 0, 40, .inl c_t_drops)), (a_p1, .inr (3, [.ref a_p1_water, .ref a_p1_need, .ref a_p1_dew, .ref a_p1_drops, .ref a_p1_song, .int f_p1_terraces, .int f_p1_days, .int f_p1_law, .int f_p1_slip, .int f_p1_songLength])), (a_p1_need, .inl (ca 0, 6, .inl c_p1_need)), (a_p1_dew, .inl (ca 0, 6, .inl c_p1_dew)), (a_p1_drops, .inl (ca 0, 20, .inl c_p1_drops)), (a_p2, .inr (7, [.ref a_p2_water, .ref a_p2_lacked, .ref a_p2_seenTurn, .ref a_p2_seenSet, .int f_p2_day, .int f_p2_left, .int f_p2_turn, .int f_p2_lot, .int f_p2_seen])), (a_p2_water, .inl (ca 0, 6, .inl c_p2_water))] → va_S A s.heap H locs → ∀ (ls : Array Slot), lv_has ls 4 [(0, .ref a_t), (1, .ref a_p1), (2, .ref a_p2), (3, .int y3)] → W p l e RM_X1_from s m args below meth c H locs 0 0 (MQ below (QR_ G A a_t [(a_t, .inr (1, [.ref a_t_water, .ref a_t_gain, .ref a_t_drops, .ref a_t_level, .ref a_t_share, .ref a_t_song, .int res.2.2.2, .int f_t_pool])), (a_t_water, .inl (ca 0, 6, .inl res.1)), (a_t_gain, .inl (ca 0, 6, .inl res.2.1)), (a_t_drops, .inl (ca 0, 40, .inl res.2.2.1)), (a_p1, .inr (3, [.ref a_p1_water, .ref a_p1_need, .ref a_p1_dew, .ref a_p1_drops, .ref a_p1_song, .int f_p1_terraces, .int f_p1_days, .int f_p1_law, .int f_p1_slip, .int f_p1_songLength])), (a_p1_need, .inl (ca 0, 6, .inl c_p1_need)), (a_p1_dew, .inl (ca 0, 6, .inl c_p1_dew)), (a_p1_drops, .inl (ca 0, 20, .inl c_p1_drops)), (a_p2, .inr (7, [.ref a_p2_water, .ref a_p2_lacked, .ref a_p2_seenTurn, .ref a_p2_seenSet, .int f_p2_day, .int f_p2_left, .int f_p2_turn, .int f_p2_lot, .int f_p2_seen])), (a_p2_water, .inl (ca 0, 6, .inl c_p2_water))]) args s 0 0 A) (F0 m 67 ls []) := by
  obtain ⟨hx, hb, hr, hml, hown, hts, hlocks, hK, hA, hE⟩ := id X0
  intro n
  induction n with
  | zero => intro c_t_water c_t_gain c_t_drops f_t_terraces y3 h; cases h
  | succ n ih =>
    intro c_t_water c_t_gain c_t_drops f_t_terraces y3 h H locs hP hD hS ls hl
    rw [F_X1_from_67] at h
    refine lv_iload_n hx hb dX1_from_67 rfl (lv_at hl 3 rfl) ?_
    refine lv_bipush (v := 40) hx hb dX1_from_68 (by decide) ?_
    refine lv_icmp_ge (tgt := 95) hx hb dX1_from_70 (by decide) (fun b1 => ?_) (fun b1 => ?_)
    · have h := (if_pos b1).symm.trans h
      refine lv_aload_n hx hb dX1_from_95 rfl (lv_at hl 0 rfl) ?_
      have h := sm_i h
      subst h
      exact W.aret hx hb hr (Or.inl ⟨_, rfl⟩) (Or.inr ⟨_, rfl⟩) (fun t ht hW => ⟨⟨(), _, rfl, trivial, rfl, by rw [ht]; exact hP, hD⟩, hS.F ht⟩) hS.2.2 dX1_from_96
    · have h := (if_neg b1).symm.trans h
      refine lv_aload_n hx hb dX1_from_73 rfl (lv_at hl 0 rfl) ?_
      refine va_get (D := G) (ci := 1) (v := .ref a_t_drops) (C := RX1) (T := TX1) (N := 8) hx hb hts i_X1_from_X1 hown hK hP 0 rfl rfl 2 (by decide) (hts _ k_X1_from_0) (fun _ h9 => h9) rfl dX1_from_74 ?_
      refine lv_iload_n hx hb dX1_from_77 rfl (lv_at hl 3 rfl) ?_
      refine lv_aload_n hx hb dX1_from_78 rfl (lv_at hl 1 rfl) ?_
      refine lv_aload_n hx hb dX1_from_79 rfl (lv_at hl 2 rfl) ?_
      refine va_getN (D := G) (ci := 7) (v := .int f_p2_day) (C := RX7) (T := TX7) (N := 9) hx hb hts i_X1_from_X7 hown hK hP 8 rfl rfl 4 (by decide) (va_Nw.use rfl (hE.1 _ k_X1_from_2)) (fun _ h9 => h9) rfl dX1_from_80 ?_
      refine lv_iload_n hx hb dX1_from_83 rfl (lv_at hl 3 rfl) ?_
      refine lv_iadd hx hb dX1_from_84 ?_
      obtain ⟨u2, hc3, h⟩ := bd_o h
      refine jn_i (wr := [(a_t, .inr (1, [.ref a_t_water, .ref a_t_gain, .ref a_t_drops, .ref a_t_level, .ref a_t_share, .ref a_t_song, .int f_t_terraces, .int f_t_pool])), (a_t_water, .inl (ca 0, 6, .inl c_t_water)), (a_t_gain, .inl (ca 0, 6, .inl c_t_gain)), (a_t_drops, .inl (ca 0, 40, .inl c_t_drops)), (a_p1_need, .inl (ca 0, 6, .inl c_p1_need)), (a_p1_dew, .inl (ca 0, 6, .inl c_p1_dew)), (a_p2, .inr (7, [.ref a_p2_water, .ref a_p2_lacked, .ref a_p2_seenTurn, .ref a_p2_seenSet, .int f_p2_day, .int f_p2_left, .int f_p2_turn, .int f_p2_lot, .int f_p2_seen])), (a_p2_water, .inl (ca 0, 6, .inl c_p2_water))]) (ws' := [(a_t, .inr (1, [.ref a_t_water, .ref a_t_gain, .ref a_t_drops, .ref a_t_level, .ref a_t_share, .ref a_t_song, .int f_t_terraces, .int f_t_pool])), (a_t_water, .inl (ca 0, 6, .inl c_t_water)), (a_t_gain, .inl (ca 0, 6, .inl c_t_gain)), (a_t_drops, .inl (ca 0, 40, .inl c_t_drops)), (a_p1, .inr (3, [.ref a_p1_water, .ref a_p1_need, .ref a_p1_dew, .ref a_p1_drops, .ref a_p1_song, .int f_p1_terraces, .int f_p1_days, .int f_p1_law, .int f_p1_slip, .int f_p1_songLength])), (a_p1_need, .inl (ca 0, 6, .inl c_p1_need)), (a_p1_dew, .inl (ca 0, 6, .inl c_p1_dew)), (a_p1_drops, .inl (ca 0, 20, .inl c_p1_drops)), (a_p2, .inr (7, [.ref a_p2_water, .ref a_p2_lacked, .ref a_p2_seenTurn, .ref a_p2_seenSet, .int f_p2_day, .int f_p2_left, .int f_p2_turn, .int f_p2_lot, .int f_p2_seen])), (a_p2_water, .inl (ca 0, 6, .inl c_p2_water))]) (va_runV (As := [.int (f_p2_day + y3)]) (rest := [.int y3, .ref a_t_drops]) ⟨hx, hb, hml, hown, hts⟩ (c_X3_dropsOn l G ca ad av H.size a_p1 a_p1_drops a_p1_water a_p1_need a_p1_dew a_p1_song f_p1_terraces f_p1_law f_p1_slip f_p1_songLength c_p1_drops f_p1_days (f_p2_day + y3) u2 hc3) (cwV 1 hts gX1_from_X3_dropsOn rfl rfl rfl (by decide +kernel) ⟨Nat.le_of_ble_eq_true rfl, Nat.le_of_ble_eq_true rfl⟩) (pre_v (q0 := 4) (ci := 3) hK hE hA hP hD hS [4, 7] rfl (by decide) rfl rfl) rfl rfl hl.1 rfl (lv_room (Nat.le_of_ble_eq_true rfl)) dX1_from_85 ⟨Nat.le_of_ble_eq_true rfl, Nat.le_of_ble_eq_true rfl⟩) hA hP hD hS [4, 7] [0, 1, 2, 3, 5, 6, 8, 9] [0, 1, 2, 3, 8, 4, 5, 9, 6, 7] rfl rfl (by decide) (by decide) (by decide) rfl (fun H locs hP hD hS => ?_)
      obtain ⟨g4, h⟩ := gd_t h
      refine va_iast hx hb hK hP hD hS 3 0 rfl rfl (ok_in g4) dX1_from_88 (fun H locs hP hD hS => ?_)
      have hP : va_P G vwCl [(a_t, .inr (1, [.ref a_t_water, .ref a_t_gain, .ref a_t_drops, .ref a_t_level, .ref a_t_share, .ref a_t_song, .int f_t_terraces, .int f_t_pool])), (a_t_water, .inl (ca 0, 6, .inl c_t_water)), (a_t_gain, .inl (ca 0, 6, .inl c_t_gain)), (a_t_drops, .inl (ca 0, 40, .inl (upd c_t_drops y3.toNatClampNeg u2))), (a_p1, .inr (3, [.ref a_p1_water, .ref a_p1_need, .ref a_p1_dew, .ref a_p1_drops, .ref a_p1_song, .int f_p1_terraces, .int f_p1_days, .int f_p1_law, .int f_p1_slip, .int f_p1_songLength])), (a_p1_need, .inl (ca 0, 6, .inl c_p1_need)), (a_p1_dew, .inl (ca 0, 6, .inl c_p1_dew)), (a_p1_drops, .inl (ca 0, 20, .inl c_p1_drops)), (a_p2, .inr (7, [.ref a_p2_water, .ref a_p2_lacked, .ref a_p2_seenTurn, .ref a_p2_seenSet, .int f_p2_day, .int f_p2_left, .int f_p2_turn, .int f_p2_lot, .int f_p2_seen])), (a_p2_water, .inl (ca 0, 6, .inl c_p2_water))] H := hP
      have hD : va_D A [(a_t, .inr (1, [.ref a_t_water, .ref a_t_gain, .ref a_t_drops, .ref a_t_level, .ref a_t_share, .ref a_t_song, .int f_t_terraces, .int f_t_pool])), (a_t_water, .inl (ca 0, 6, .inl c_t_water)), (a_t_gain, .inl (ca 0, 6, .inl c_t_gain)), (a_t_drops, .inl (ca 0, 40, .inl (upd c_t_drops y3.toNatClampNeg u2))), (a_p1, .inr (3, [.ref a_p1_water, .ref a_p1_need, .ref a_p1_dew, .ref a_p1_drops, .ref a_p1_song, .int f_p1_terraces, .int f_p1_days, .int f_p1_law, .int f_p1_slip, .int f_p1_songLength])), (a_p1_need, .inl (ca 0, 6, .inl c_p1_need)), (a_p1_dew, .inl (ca 0, 6, .inl c_p1_dew)), (a_p1_drops, .inl (ca 0, 20, .inl c_p1_drops)), (a_p2, .inr (7, [.ref a_p2_water, .ref a_p2_lacked, .ref a_p2_seenTurn, .ref a_p2_seenSet, .int f_p2_day, .int f_p2_left, .int f_p2_turn, .int f_p2_lot, .int f_p2_seen])), (a_p2_water, .inl (ca 0, 6, .inl c_p2_water))] := hD
      refine lv_iinc (v := (y3 + (1 : Int32))) (lv' := [(3, .int (y3 + (1 : Int32))), (0, .ref a_t), (1, .ref a_p1), (2, .ref a_p2)]) hx hb dX1_from_89 hl (k := 3) rfl rfl (by decide) rfl (fun ls hl => ?_)
      refine lv_goto (tgt := 67) hx hb dX1_from_92 (by decide) ?_
      exact ih c_t_water c_t_gain (upd c_t_drops y3.toNatClampNeg u2) f_t_terraces (y3 + (1 : Int32)) h H locs hP hD hS ls (lv_sub hl [1, 2, 3, 0] rfl)
def F_X1_from_10 (c_p1_need : Nat → Int32) (c_p1_dew : Nat → Int32) (c_p1_drops : Nat → Int32) (f_p1_terraces : Int32) (f_p1_days : Int32) (c_p2_water : Nat → Int32) (f_p2_day : Int32) (f_p2_left : Int32) : Nat → (Nat → Int32) → (Nat → Int32) → (Nat → Int32) → Int32 → Int32 → Option ((Nat → Int32) × (Nat → Int32) × (Nat → Int32) × Int32)
  | 0, _, _, _, _, _ => none
  | n + 1, c_t_water, c_t_gain, c_t_drops, f_t_terraces, y3 => if f_t_terraces ≤ y3 then (if ok_I (0 : Int32) 40 = true then F_X1_from_67 c_p1_need c_p1_dew c_p1_drops f_p1_terraces f_p1_days c_p2_water f_p2_day f_p2_left FU_ c_t_water c_t_gain (upd c_t_drops (0 : Int32).toNatClampNeg f_p2_left) f_t_terraces (1 : Int32) else none) else (if ok_I y3 6 = true then F_X1_from_10 c_p1_need c_p1_dew c_p1_drops f_p1_terraces f_p1_days c_p2_water f_p2_day f_p2_left n (upd c_t_water y3.toNatClampNeg (c_p2_water y3.toNatClampNeg)) (upd c_t_gain y3.toNatClampNeg ((c_p1_dew y3.toNatClampNeg) - (c_p1_need y3.toNatClampNeg))) c_t_drops f_t_terraces (y3 + (1 : Int32)) else none)
set_option maxHeartbeats 4000000 in
set_option maxRecDepth 100000 in
theorem w_X1_from_10 {p : Program} {l : Launch} {e : Env} {s : State} {m : MethodId} {args : Array Value} {below : List Frame} {meth : Method} {c : Code} {G : va_G} {ca : Nat → ClassId} {ad av : Nat → Nat} {A : Nat → Prop} (X0 : CX_ p s m args meth c cX1_from 4 (some (.object "DropDealers$Foresight")) wsX1_from RX1 G ca ad av A) (a_t : Nat) (a_t_water : Nat) (a_t_gain : Nat) (a_t_drops : Nat) (a_p1 : Nat) (a_p1_need : Nat) (a_p1_dew : Nat) (a_p1_drops : Nat) (a_p2 : Nat) (a_p2_water : Nat) (a_t_level : Nat) (a_t_share : Nat) (a_t_song : Nat) (a_p1_water : Nat) (a_p1_song : Nat) (a_p2_lacked : Nat) (a_p2_seenTurn : Nat) (a_p2_seenSet : Nat) (f_t_pool : Int32) (f_p1_law : Int32) (f_p1_slip : Int32) (f_p1_songLength : Int32) (f_p2_turn : Int32) (f_p2_lot : Int32) (f_p2_seen : Int32) (c_p1_need : Nat → Int32) (c_p1_dew : Nat → Int32) (c_p1_drops : Nat → Int32) (f_p1_terraces : Int32) (f_p1_days : Int32) (c_p2_water : Nat → Int32) (f_p2_day : Int32) (f_p2_left : Int32) (res : (Nat → Int32) × (Nat → Int32) × (Nat → Int32) × Int32) : ∀ (n : Nat) (c_t_water : Nat → Int32) (c_t_gain : Nat → Int32) (c_t_drops : Nat → Int32) (f_t_terraces : Int32) (y3 : Int32), F_X1_from_10 c_p1_need c_p1_dew c_p1_drops f_p1_terraces f_p1_days c_p2_water f_p2_day f_p2_left n c_t_water c_t_gain c_t_drops f_t_terraces y3 = some res → ∀ (H : Heap) (locs : List Loc), va_P G vwCl [(a_t, .inr (1, [.ref a_t_water, .ref a_t_gain, .ref a_t_drops, .ref a_t_level, .ref a_t_share, .ref a_t_song, .int f_t_terraces, .int f_t_pool])), (a_t_water, .inl (ca 0, 6, .inl c_t_water)), (a_t_gain, .inl (ca 0, 6, .inl c_t_gain)), (a_t_drops, .inl (ca 0, 40, .inl c_t_drops)), (a_p1, .inr (3, [.ref a_p1_water, .ref a_p1_need, .ref a_p1_dew, .ref a_p1_drops, .ref a_p1_song, .int f_p1_terraces, .int f_p1_days, .int f_p1_law, .int f_p1_slip, .int f_p1_songLength])), (a_p1_need, .inl (ca 0, 6, .inl c_p1_need)), (a_p1_dew, .inl (ca 0, 6, .inl c_p1_dew)), (a_p1_drops, .inl (ca 0, 20, .inl c_p1_drops)), (a_p2, .inr (7, [.ref a_p2_water, .ref a_p2_lacked, .ref a_p2_seenTurn, .ref a_p2_seenSet, .int f_p2_day, .int f_p2_left, .int f_p2_turn, .int f_p2_lot, .int f_p2_seen])), (a_p2_water, .inl (ca 0, 6, .inl c_p2_water))] H → va_D A [(a_t, .inr (1, [.ref a_t_water, .ref a_t_gain, .ref a_t_drops, .ref a_t_level, .ref a_t_share, .ref a_t_song, .int f_t_terraces, .int f_t_pool])), (a_t_water, .inl (ca 0, 6, .inl c_t_water)), (a_t_gain, .inl (ca 0, 6, .inl c_t_gain)), (a_t_drops, .inl (ca 0, 40, .inl c_t_drops)), (a_p1, .inr (3, [.ref a_p1_water, .ref a_p1_need, .ref a_p1_dew, .ref a_p1_drops, .ref a_p1_song, .int f_p1_terraces, .int f_p1_days, .int f_p1_law, .int f_p1_slip, .int f_p1_songLength])), (a_p1_need, .inl (ca 0, 6, .inl c_p1_need)), (a_p1_dew, .inl (ca 0, 6, .inl c_p1_dew)), (a_p1_drops, .inl (ca 0, 20, .inl c_p1_drops)), (a_p2, .inr (7, [.ref a_p2_water, .ref a_p2_lacked, .ref a_p2_seenTurn, .ref a_p2_seenSet, .int f_p2_day, .int f_p2_left, .int f_p2_turn, .int f_p2_lot, .int f_p2_seen])), (a_p2_water, .inl (ca 0, 6, .inl c_p2_water))] → va_S A s.heap H locs → ∀ (ls : Array Slot), lv_has ls 4 [(0, .ref a_t), (1, .ref a_p1), (2, .ref a_p2), (3, .int y3)] → W p l e RM_X1_from s m args below meth c H locs 0 0 (MQ below (QR_ G A a_t [(a_t, .inr (1, [.ref a_t_water, .ref a_t_gain, .ref a_t_drops, .ref a_t_level, .ref a_t_share, .ref a_t_song, .int res.2.2.2, .int f_t_pool])), (a_t_water, .inl (ca 0, 6, .inl res.1)), (a_t_gain, .inl (ca 0, 6, .inl res.2.1)), (a_t_drops, .inl (ca 0, 40, .inl res.2.2.1)), (a_p1, .inr (3, [.ref a_p1_water, .ref a_p1_need, .ref a_p1_dew, .ref a_p1_drops, .ref a_p1_song, .int f_p1_terraces, .int f_p1_days, .int f_p1_law, .int f_p1_slip, .int f_p1_songLength])), (a_p1_need, .inl (ca 0, 6, .inl c_p1_need)), (a_p1_dew, .inl (ca 0, 6, .inl c_p1_dew)), (a_p1_drops, .inl (ca 0, 20, .inl c_p1_drops)), (a_p2, .inr (7, [.ref a_p2_water, .ref a_p2_lacked, .ref a_p2_seenTurn, .ref a_p2_seenSet, .int f_p2_day, .int f_p2_left, .int f_p2_turn, .int f_p2_lot, .int f_p2_seen])), (a_p2_water, .inl (ca 0, 6, .inl c_p2_water))]) args s 0 0 A) (F0 m 10 ls []) := by
  obtain ⟨hx, hb, hr, hml, hown, hts, hlocks, hK, hA, hE⟩ := id X0
  intro n
  induction n with
  | zero => intro c_t_water c_t_gain c_t_drops f_t_terraces y3 h; cases h
  | succ n ih =>
    intro c_t_water c_t_gain c_t_drops f_t_terraces y3 h H locs hP hD hS ls hl
    rw [F_X1_from_10] at h
    refine lv_iload_n hx hb dX1_from_10 rfl (lv_at hl 3 rfl) ?_
    refine lv_aload_n hx hb dX1_from_11 rfl (lv_at hl 0 rfl) ?_
    refine va_get (D := G) (ci := 1) (v := .int f_t_terraces) (C := RX1) (T := TX1) (N := 8) hx hb hts i_X1_from_X1 hown hK hP 0 rfl rfl 6 (by decide) (hts _ k_X1_from_4) (fun _ h9 => h9) rfl dX1_from_12 ?_
    refine lv_icmp_ge (tgt := 55) hx hb dX1_from_15 (by decide) (fun b5 => ?_) (fun b5 => ?_)
    · have h := (if_pos b5).symm.trans h
      refine lv_aload_n hx hb dX1_from_55 rfl (lv_at hl 0 rfl) ?_
      refine va_get (D := G) (ci := 1) (v := .ref a_t_drops) (C := RX1) (T := TX1) (N := 8) hx hb hts i_X1_from_X1 hown hK hP 0 rfl rfl 2 (by decide) (hts _ k_X1_from_0) (fun _ h9 => h9) rfl dX1_from_56 ?_
      refine lv_iconst (v := 0) hx hb dX1_from_59 (by decide) ?_
      refine lv_aload_n hx hb dX1_from_60 rfl (lv_at hl 2 rfl) ?_
      refine va_getN (D := G) (ci := 7) (v := .int f_p2_left) (C := RX7) (T := TX7) (N := 9) hx hb hts i_X1_from_X7 hown hK hP 8 rfl rfl 5 (by decide) (va_Nw.use rfl (hE.1 _ k_X1_from_5)) (fun _ h9 => h9) rfl dX1_from_61 ?_
      obtain ⟨g6, h⟩ := gd_t h
      refine va_iast hx hb hK hP hD hS 3 0 rfl rfl (ok_in g6) dX1_from_64 (fun H locs hP hD hS => ?_)
      have hP : va_P G vwCl [(a_t, .inr (1, [.ref a_t_water, .ref a_t_gain, .ref a_t_drops, .ref a_t_level, .ref a_t_share, .ref a_t_song, .int f_t_terraces, .int f_t_pool])), (a_t_water, .inl (ca 0, 6, .inl c_t_water)), (a_t_gain, .inl (ca 0, 6, .inl c_t_gain)), (a_t_drops, .inl (ca 0, 40, .inl (upd c_t_drops (0 : Int32).toNatClampNeg f_p2_left))), (a_p1, .inr (3, [.ref a_p1_water, .ref a_p1_need, .ref a_p1_dew, .ref a_p1_drops, .ref a_p1_song, .int f_p1_terraces, .int f_p1_days, .int f_p1_law, .int f_p1_slip, .int f_p1_songLength])), (a_p1_need, .inl (ca 0, 6, .inl c_p1_need)), (a_p1_dew, .inl (ca 0, 6, .inl c_p1_dew)), (a_p1_drops, .inl (ca 0, 20, .inl c_p1_drops)), (a_p2, .inr (7, [.ref a_p2_water, .ref a_p2_lacked, .ref a_p2_seenTurn, .ref a_p2_seenSet, .int f_p2_day, .int f_p2_left, .int f_p2_turn, .int f_p2_lot, .int f_p2_seen])), (a_p2_water, .inl (ca 0, 6, .inl c_p2_water))] H := hP
      have hD : va_D A [(a_t, .inr (1, [.ref a_t_water, .ref a_t_gain, .ref a_t_drops, .ref a_t_level, .ref a_t_share, .ref a_t_song, .int f_t_terraces, .int f_t_pool])), (a_t_water, .inl (ca 0, 6, .inl c_t_water)), (a_t_gain, .inl (ca 0, 6, .inl c_t_gain)), (a_t_drops, .inl (ca 0, 40, .inl (upd c_t_drops (0 : Int32).toNatClampNeg f_p2_left))), (a_p1, .inr (3, [.ref a_p1_water, .ref a_p1_need, .ref a_p1_dew, .ref a_p1_drops, .ref a_p1_song, .int f_p1_terraces, .int f_p1_days, .int f_p1_law, .int f_p1_slip, .int f_p1_songLength])), (a_p1_need, .inl (ca 0, 6, .inl c_p1_need)), (a_p1_dew, .inl (ca 0, 6, .inl c_p1_dew)), (a_p1_drops, .inl (ca 0, 20, .inl c_p1_drops)), (a_p2, .inr (7, [.ref a_p2_water, .ref a_p2_lacked, .ref a_p2_seenTurn, .ref a_p2_seenSet, .int f_p2_day, .int f_p2_left, .int f_p2_turn, .int f_p2_lot, .int f_p2_seen])), (a_p2_water, .inl (ca 0, 6, .inl c_p2_water))] := hD
      refine lv_iconst (v := 1) hx hb dX1_from_65 (by decide) ?_
      refine lv_istore_n (lv' := [(3, .int (1 : Int32)), (0, .ref a_t), (1, .ref a_p1), (2, .ref a_p2)]) hx hb dX1_from_66 rfl hl (by decide) rfl (fun ls hl => ?_)
      exact w_X1_from_67 X0 a_t a_t_water a_t_gain a_t_drops a_p1 a_p1_need a_p1_dew a_p1_drops a_p2 a_p2_water a_t_level a_t_share a_t_song a_p1_water a_p1_song a_p2_lacked a_p2_seenTurn a_p2_seenSet f_t_pool f_p1_law f_p1_slip f_p1_songLength f_p2_turn f_p2_lot f_p2_seen c_p1_need c_p1_dew c_p1_drops f_p1_terraces f_p1_days c_p2_water f_p2_day f_p2_left _ FU_ c_t_water c_t_gain (upd c_t_drops (0 : Int32).toNatClampNeg f_p2_left) f_t_terraces (1 : Int32) h H locs hP hD hS ls (lv_sub hl [1, 2, 3, 0] rfl)
    · have h := (if_neg b5).symm.trans h
      refine lv_aload_n hx hb dX1_from_18 rfl (lv_at hl 0 rfl) ?_
      refine va_get (D := G) (ci := 1) (v := .ref a_t_water) (C := RX1) (T := TX1) (N := 8) hx hb hts i_X1_from_X1 hown hK hP 0 rfl rfl 0 (by decide) (hts _ k_X1_from_6) (fun _ h9 => h9) rfl dX1_from_19 ?_
      refine lv_iload_n hx hb dX1_from_22 rfl (lv_at hl 3 rfl) ?_
      refine lv_aload_n hx hb dX1_from_23 rfl (lv_at hl 2 rfl) ?_
      refine va_getN (D := G) (ci := 7) (v := .ref a_p2_water) (C := RX7) (T := TX7) (N := 9) hx hb hts i_X1_from_X7 hown hK hP 8 rfl rfl 0 (by decide) (va_Nw.use rfl (hE.1 _ k_X1_from_7)) (fun _ h9 => h9) rfl dX1_from_24 ?_
      refine lv_iload_n hx hb dX1_from_27 rfl (lv_at hl 3 rfl) ?_
      obtain ⟨g7, h⟩ := gd_t h
      refine va_iald hx hb hK hP 9 0 rfl rfl (ok_in g7) dX1_from_28 ?_
      refine va_iast hx hb hK hP hD hS 1 0 rfl rfl (ok_in g7) dX1_from_29 (fun H locs hP hD hS => ?_)
      have hP : va_P G vwCl [(a_t, .inr (1, [.ref a_t_water, .ref a_t_gain, .ref a_t_drops, .ref a_t_level, .ref a_t_share, .ref a_t_song, .int f_t_terraces, .int f_t_pool])), (a_t_water, .inl (ca 0, 6, .inl (upd c_t_water y3.toNatClampNeg (c_p2_water y3.toNatClampNeg)))), (a_t_gain, .inl (ca 0, 6, .inl c_t_gain)), (a_t_drops, .inl (ca 0, 40, .inl c_t_drops)), (a_p1, .inr (3, [.ref a_p1_water, .ref a_p1_need, .ref a_p1_dew, .ref a_p1_drops, .ref a_p1_song, .int f_p1_terraces, .int f_p1_days, .int f_p1_law, .int f_p1_slip, .int f_p1_songLength])), (a_p1_need, .inl (ca 0, 6, .inl c_p1_need)), (a_p1_dew, .inl (ca 0, 6, .inl c_p1_dew)), (a_p1_drops, .inl (ca 0, 20, .inl c_p1_drops)), (a_p2, .inr (7, [.ref a_p2_water, .ref a_p2_lacked, .ref a_p2_seenTurn, .ref a_p2_seenSet, .int f_p2_day, .int f_p2_left, .int f_p2_turn, .int f_p2_lot, .int f_p2_seen])), (a_p2_water, .inl (ca 0, 6, .inl c_p2_water))] H := hP
      have hD : va_D A [(a_t, .inr (1, [.ref a_t_water, .ref a_t_gain, .ref a_t_drops, .ref a_t_level, .ref a_t_share, .ref a_t_song, .int f_t_terraces, .int f_t_pool])), (a_t_water, .inl (ca 0, 6, .inl (upd c_t_water y3.toNatClampNeg (c_p2_water y3.toNatClampNeg)))), (a_t_gain, .inl (ca 0, 6, .inl c_t_gain)), (a_t_drops, .inl (ca 0, 40, .inl c_t_drops)), (a_p1, .inr (3, [.ref a_p1_water, .ref a_p1_need, .ref a_p1_dew, .ref a_p1_drops, .ref a_p1_song, .int f_p1_terraces, .int f_p1_days, .int f_p1_law, .int f_p1_slip, .int f_p1_songLength])), (a_p1_need, .inl (ca 0, 6, .inl c_p1_need)), (a_p1_dew, .inl (ca 0, 6, .inl c_p1_dew)), (a_p1_drops, .inl (ca 0, 20, .inl c_p1_drops)), (a_p2, .inr (7, [.ref a_p2_water, .ref a_p2_lacked, .ref a_p2_seenTurn, .ref a_p2_seenSet, .int f_p2_day, .int f_p2_left, .int f_p2_turn, .int f_p2_lot, .int f_p2_seen])), (a_p2_water, .inl (ca 0, 6, .inl c_p2_water))] := hD
      refine lv_aload_n hx hb dX1_from_30 rfl (lv_at hl 0 rfl) ?_
      refine va_get (D := G) (ci := 1) (v := .ref a_t_gain) (C := RX1) (T := TX1) (N := 8) hx hb hts i_X1_from_X1 hown hK hP 0 rfl rfl 1 (by decide) (hts _ k_X1_from_8) (fun _ h9 => h9) rfl dX1_from_31 ?_
      refine lv_iload_n hx hb dX1_from_34 rfl (lv_at hl 3 rfl) ?_
      refine lv_aload_n hx hb dX1_from_35 rfl (lv_at hl 1 rfl) ?_
      refine va_getN (D := G) (ci := 3) (v := .ref a_p1_dew) (C := RX3) (T := TX3) (N := 10) hx hb hts i_X1_from_X3 hown hK hP 4 rfl rfl 2 (by decide) (va_Nw.use rfl (hE.1 _ k_X1_from_9)) (fun _ h9 => h9) rfl dX1_from_36 ?_
      refine lv_iload_n hx hb dX1_from_39 rfl (lv_at hl 3 rfl) ?_
      refine va_iald hx hb hK hP 6 0 rfl rfl (ok_in g7) dX1_from_40 ?_
      refine lv_aload_n hx hb dX1_from_41 rfl (lv_at hl 1 rfl) ?_
      refine va_getN (D := G) (ci := 3) (v := .ref a_p1_need) (C := RX3) (T := TX3) (N := 10) hx hb hts i_X1_from_X3 hown hK hP 4 rfl rfl 1 (by decide) (va_Nw.use rfl (hE.1 _ k_X1_from_11)) (fun _ h9 => h9) rfl dX1_from_42 ?_
      refine lv_iload_n hx hb dX1_from_45 rfl (lv_at hl 3 rfl) ?_
      refine va_iald hx hb hK hP 5 0 rfl rfl (ok_in g7) dX1_from_46 ?_
      refine lv_isub hx hb dX1_from_47 ?_
      refine va_iast hx hb hK hP hD hS 2 0 rfl rfl (ok_in g7) dX1_from_48 (fun H locs hP hD hS => ?_)
      have hP : va_P G vwCl [(a_t, .inr (1, [.ref a_t_water, .ref a_t_gain, .ref a_t_drops, .ref a_t_level, .ref a_t_share, .ref a_t_song, .int f_t_terraces, .int f_t_pool])), (a_t_water, .inl (ca 0, 6, .inl (upd c_t_water y3.toNatClampNeg (c_p2_water y3.toNatClampNeg)))), (a_t_gain, .inl (ca 0, 6, .inl (upd c_t_gain y3.toNatClampNeg ((c_p1_dew y3.toNatClampNeg) - (c_p1_need y3.toNatClampNeg))))), (a_t_drops, .inl (ca 0, 40, .inl c_t_drops)), (a_p1, .inr (3, [.ref a_p1_water, .ref a_p1_need, .ref a_p1_dew, .ref a_p1_drops, .ref a_p1_song, .int f_p1_terraces, .int f_p1_days, .int f_p1_law, .int f_p1_slip, .int f_p1_songLength])), (a_p1_need, .inl (ca 0, 6, .inl c_p1_need)), (a_p1_dew, .inl (ca 0, 6, .inl c_p1_dew)), (a_p1_drops, .inl (ca 0, 20, .inl c_p1_drops)), (a_p2, .inr (7, [.ref a_p2_water, .ref a_p2_lacked, .ref a_p2_seenTurn, .ref a_p2_seenSet, .int f_p2_day, .int f_p2_left, .int f_p2_turn, .int f_p2_lot, .int f_p2_seen])), (a_p2_water, .inl (ca 0, 6, .inl c_p2_water))] H := hP
      have hD : va_D A [(a_t, .inr (1, [.ref a_t_water, .ref a_t_gain, .ref a_t_drops, .ref a_t_level, .ref a_t_share, .ref a_t_song, .int f_t_terraces, .int f_t_pool])), (a_t_water, .inl (ca 0, 6, .inl (upd c_t_water y3.toNatClampNeg (c_p2_water y3.toNatClampNeg)))), (a_t_gain, .inl (ca 0, 6, .inl (upd c_t_gain y3.toNatClampNeg ((c_p1_dew y3.toNatClampNeg) - (c_p1_need y3.toNatClampNeg))))), (a_t_drops, .inl (ca 0, 40, .inl c_t_drops)), (a_p1, .inr (3, [.ref a_p1_water, .ref a_p1_need, .ref a_p1_dew, .ref a_p1_drops, .ref a_p1_song, .int f_p1_terraces, .int f_p1_days, .int f_p1_law, .int f_p1_slip, .int f_p1_songLength])), (a_p1_need, .inl (ca 0, 6, .inl c_p1_need)), (a_p1_dew, .inl (ca 0, 6, .inl c_p1_dew)), (a_p1_drops, .inl (ca 0, 20, .inl c_p1_drops)), (a_p2, .inr (7, [.ref a_p2_water, .ref a_p2_lacked, .ref a_p2_seenTurn, .ref a_p2_seenSet, .int f_p2_day, .int f_p2_left, .int f_p2_turn, .int f_p2_lot, .int f_p2_seen])), (a_p2_water, .inl (ca 0, 6, .inl c_p2_water))] := hD
      refine lv_iinc (v := (y3 + (1 : Int32))) (lv' := [(3, .int (y3 + (1 : Int32))), (0, .ref a_t), (1, .ref a_p1), (2, .ref a_p2)]) hx hb dX1_from_49 hl (k := 3) rfl rfl (by decide) rfl (fun ls hl => ?_)
      refine lv_goto (tgt := 10) hx hb dX1_from_52 (by decide) ?_
      exact ih (upd c_t_water y3.toNatClampNeg (c_p2_water y3.toNatClampNeg)) (upd c_t_gain y3.toNatClampNeg ((c_p1_dew y3.toNatClampNeg) - (c_p1_need y3.toNatClampNeg))) c_t_drops f_t_terraces (y3 + (1 : Int32)) h H locs hP hD hS ls (lv_sub hl [1, 2, 3, 0] rfl)
def F_X1_from (c_p1_need : Nat → Int32) (c_p1_dew : Nat → Int32) (c_p1_drops : Nat → Int32) (f_p1_terraces : Int32) (f_p1_days : Int32) (c_p2_water : Nat → Int32) (f_p2_day : Int32) (f_p2_left : Int32) (c_t_water : Nat → Int32) (c_t_gain : Nat → Int32) (c_t_drops : Nat → Int32) (f_t_terraces : Int32) : Option ((Nat → Int32) × (Nat → Int32) × (Nat → Int32) × Int32) := F_X1_from_10 c_p1_need c_p1_dew c_p1_drops f_p1_terraces f_p1_days c_p2_water f_p2_day f_p2_left FU_ c_t_water c_t_gain c_t_drops f_p1_terraces (0 : Int32)
set_option maxHeartbeats 4000000 in
set_option maxRecDepth 100000 in
theorem w_X1_from_0 {p : Program} {l : Launch} {e : Env} {s : State} {m : MethodId} {args : Array Value} {below : List Frame} {meth : Method} {c : Code} {G : va_G} {ca : Nat → ClassId} {ad av : Nat → Nat} {A : Nat → Prop} (X0 : CX_ p s m args meth c cX1_from 4 (some (.object "DropDealers$Foresight")) wsX1_from RX1 G ca ad av A) (a_t : Nat) (a_t_water : Nat) (a_t_gain : Nat) (a_t_drops : Nat) (a_p1 : Nat) (a_p1_need : Nat) (a_p1_dew : Nat) (a_p1_drops : Nat) (a_p2 : Nat) (a_p2_water : Nat) (a_t_level : Nat) (a_t_share : Nat) (a_t_song : Nat) (a_p1_water : Nat) (a_p1_song : Nat) (a_p2_lacked : Nat) (a_p2_seenTurn : Nat) (a_p2_seenSet : Nat) (f_t_pool : Int32) (f_p1_law : Int32) (f_p1_slip : Int32) (f_p1_songLength : Int32) (f_p2_turn : Int32) (f_p2_lot : Int32) (f_p2_seen : Int32) (c_p1_need : Nat → Int32) (c_p1_dew : Nat → Int32) (c_p1_drops : Nat → Int32) (f_p1_terraces : Int32) (f_p1_days : Int32) (c_p2_water : Nat → Int32) (f_p2_day : Int32) (f_p2_left : Int32) (res : (Nat → Int32) × (Nat → Int32) × (Nat → Int32) × Int32) (c_t_water : Nat → Int32) (c_t_gain : Nat → Int32) (c_t_drops : Nat → Int32) (f_t_terraces : Int32) (h : F_X1_from c_p1_need c_p1_dew c_p1_drops f_p1_terraces f_p1_days c_p2_water f_p2_day f_p2_left c_t_water c_t_gain c_t_drops f_t_terraces = some res) : ∀ (H : Heap) (locs : List Loc), va_P G vwCl [(a_t, .inr (1, [.ref a_t_water, .ref a_t_gain, .ref a_t_drops, .ref a_t_level, .ref a_t_share, .ref a_t_song, .int f_t_terraces, .int f_t_pool])), (a_t_water, .inl (ca 0, 6, .inl c_t_water)), (a_t_gain, .inl (ca 0, 6, .inl c_t_gain)), (a_t_drops, .inl (ca 0, 40, .inl c_t_drops)), (a_p1, .inr (3, [.ref a_p1_water, .ref a_p1_need, .ref a_p1_dew, .ref a_p1_drops, .ref a_p1_song, .int f_p1_terraces, .int f_p1_days, .int f_p1_law, .int f_p1_slip, .int f_p1_songLength])), (a_p1_need, .inl (ca 0, 6, .inl c_p1_need)), (a_p1_dew, .inl (ca 0, 6, .inl c_p1_dew)), (a_p1_drops, .inl (ca 0, 20, .inl c_p1_drops)), (a_p2, .inr (7, [.ref a_p2_water, .ref a_p2_lacked, .ref a_p2_seenTurn, .ref a_p2_seenSet, .int f_p2_day, .int f_p2_left, .int f_p2_turn, .int f_p2_lot, .int f_p2_seen])), (a_p2_water, .inl (ca 0, 6, .inl c_p2_water))] H → va_D A [(a_t, .inr (1, [.ref a_t_water, .ref a_t_gain, .ref a_t_drops, .ref a_t_level, .ref a_t_share, .ref a_t_song, .int f_t_terraces, .int f_t_pool])), (a_t_water, .inl (ca 0, 6, .inl c_t_water)), (a_t_gain, .inl (ca 0, 6, .inl c_t_gain)), (a_t_drops, .inl (ca 0, 40, .inl c_t_drops)), (a_p1, .inr (3, [.ref a_p1_water, .ref a_p1_need, .ref a_p1_dew, .ref a_p1_drops, .ref a_p1_song, .int f_p1_terraces, .int f_p1_days, .int f_p1_law, .int f_p1_slip, .int f_p1_songLength])), (a_p1_need, .inl (ca 0, 6, .inl c_p1_need)), (a_p1_dew, .inl (ca 0, 6, .inl c_p1_dew)), (a_p1_drops, .inl (ca 0, 20, .inl c_p1_drops)), (a_p2, .inr (7, [.ref a_p2_water, .ref a_p2_lacked, .ref a_p2_seenTurn, .ref a_p2_seenSet, .int f_p2_day, .int f_p2_left, .int f_p2_turn, .int f_p2_lot, .int f_p2_seen])), (a_p2_water, .inl (ca 0, 6, .inl c_p2_water))] → va_S A s.heap H locs → ∀ (ls : Array Slot), lv_has ls 4 [(0, .ref a_t), (1, .ref a_p1), (2, .ref a_p2)] → W p l e RM_X1_from s m args below meth c H locs 0 0 (MQ below (QR_ G A a_t [(a_t, .inr (1, [.ref a_t_water, .ref a_t_gain, .ref a_t_drops, .ref a_t_level, .ref a_t_share, .ref a_t_song, .int res.2.2.2, .int f_t_pool])), (a_t_water, .inl (ca 0, 6, .inl res.1)), (a_t_gain, .inl (ca 0, 6, .inl res.2.1)), (a_t_drops, .inl (ca 0, 40, .inl res.2.2.1)), (a_p1, .inr (3, [.ref a_p1_water, .ref a_p1_need, .ref a_p1_dew, .ref a_p1_drops, .ref a_p1_song, .int f_p1_terraces, .int f_p1_days, .int f_p1_law, .int f_p1_slip, .int f_p1_songLength])), (a_p1_need, .inl (ca 0, 6, .inl c_p1_need)), (a_p1_dew, .inl (ca 0, 6, .inl c_p1_dew)), (a_p1_drops, .inl (ca 0, 20, .inl c_p1_drops)), (a_p2, .inr (7, [.ref a_p2_water, .ref a_p2_lacked, .ref a_p2_seenTurn, .ref a_p2_seenSet, .int f_p2_day, .int f_p2_left, .int f_p2_turn, .int f_p2_lot, .int f_p2_seen])), (a_p2_water, .inl (ca 0, 6, .inl c_p2_water))]) args s 0 0 A) (F0 m 0 ls []) := by
  obtain ⟨hx, hb, hr, hml, hown, hts, hlocks, hK, hA, hE⟩ := id X0
  intro H locs hP hD hS ls hl
  unfold F_X1_from at h
  refine lv_aload_n hx hb dX1_from_0 rfl (lv_at hl 0 rfl) ?_
  refine lv_aload_n hx hb dX1_from_1 rfl (lv_at hl 1 rfl) ?_
  refine va_getN (D := G) (ci := 3) (v := .int f_p1_terraces) (C := RX3) (T := TX3) (N := 10) hx hb hts i_X1_from_X3 hown hK hP 4 rfl rfl 5 (by decide) (va_Nw.use rfl (hE.1 _ k_X1_from_12)) (fun _ h9 => h9) rfl dX1_from_2 ?_
  refine va_put (D := G) (ci := 1) (v := .int f_p1_terraces) (ty := .int) (C := RX1) (T := TX1) (N := 8) hx hb hts i_X1_from_X1 tyX1 tyX1_ok nmX1 hown hK hP hD hS 0 rfl rfl 6 (by decide) (hts _ k_X1_from_4) (fun _ h9 => h9) rfl (by decide +kernel) rfl rfl (Nat.le_of_ble_eq_true rfl) dX1_from_5 (fun H locs hP hD hS => ?_)
  have hP : va_P G vwCl [(a_t, .inr (1, [.ref a_t_water, .ref a_t_gain, .ref a_t_drops, .ref a_t_level, .ref a_t_share, .ref a_t_song, .int f_p1_terraces, .int f_t_pool])), (a_t_water, .inl (ca 0, 6, .inl c_t_water)), (a_t_gain, .inl (ca 0, 6, .inl c_t_gain)), (a_t_drops, .inl (ca 0, 40, .inl c_t_drops)), (a_p1, .inr (3, [.ref a_p1_water, .ref a_p1_need, .ref a_p1_dew, .ref a_p1_drops, .ref a_p1_song, .int f_p1_terraces, .int f_p1_days, .int f_p1_law, .int f_p1_slip, .int f_p1_songLength])), (a_p1_need, .inl (ca 0, 6, .inl c_p1_need)), (a_p1_dew, .inl (ca 0, 6, .inl c_p1_dew)), (a_p1_drops, .inl (ca 0, 20, .inl c_p1_drops)), (a_p2, .inr (7, [.ref a_p2_water, .ref a_p2_lacked, .ref a_p2_seenTurn, .ref a_p2_seenSet, .int f_p2_day, .int f_p2_left, .int f_p2_turn, .int f_p2_lot, .int f_p2_seen])), (a_p2_water, .inl (ca 0, 6, .inl c_p2_water))] H := hP
  have hD : va_D A [(a_t, .inr (1, [.ref a_t_water, .ref a_t_gain, .ref a_t_drops, .ref a_t_level, .ref a_t_share, .ref a_t_song, .int f_p1_terraces, .int f_t_pool])), (a_t_water, .inl (ca 0, 6, .inl c_t_water)), (a_t_gain, .inl (ca 0, 6, .inl c_t_gain)), (a_t_drops, .inl (ca 0, 40, .inl c_t_drops)), (a_p1, .inr (3, [.ref a_p1_water, .ref a_p1_need, .ref a_p1_dew, .ref a_p1_drops, .ref a_p1_song, .int f_p1_terraces, .int f_p1_days, .int f_p1_law, .int f_p1_slip, .int f_p1_songLength])), (a_p1_need, .inl (ca 0, 6, .inl c_p1_need)), (a_p1_dew, .inl (ca 0, 6, .inl c_p1_dew)), (a_p1_drops, .inl (ca 0, 20, .inl c_p1_drops)), (a_p2, .inr (7, [.ref a_p2_water, .ref a_p2_lacked, .ref a_p2_seenTurn, .ref a_p2_seenSet, .int f_p2_day, .int f_p2_left, .int f_p2_turn, .int f_p2_lot, .int f_p2_seen])), (a_p2_water, .inl (ca 0, 6, .inl c_p2_water))] := hD
  refine lv_iconst (v := 0) hx hb dX1_from_8 (by decide) ?_
  refine lv_istore_n (lv' := [(3, .int (0 : Int32)), (0, .ref a_t), (1, .ref a_p1), (2, .ref a_p2)]) hx hb dX1_from_9 rfl hl (by decide) rfl (fun ls hl => ?_)
  exact w_X1_from_10 X0 a_t a_t_water a_t_gain a_t_drops a_p1 a_p1_need a_p1_dew a_p1_drops a_p2 a_p2_water a_t_level a_t_share a_t_song a_p1_water a_p1_song a_p2_lacked a_p2_seenTurn a_p2_seenSet f_t_pool f_p1_law f_p1_slip f_p1_songLength f_p2_turn f_p2_lot f_p2_seen c_p1_need c_p1_dew c_p1_drops f_p1_terraces f_p1_days c_p2_water f_p2_day f_p2_left _ FU_ c_t_water c_t_gain c_t_drops f_p1_terraces (0 : Int32) h H locs hP hD hS ls (lv_sub hl [1, 2, 3, 0] rfl)
set_option maxHeartbeats 4000000 in
set_option maxRecDepth 100000 in
theorem c_X1_from (l : Launch) (G : va_G) (ca : Nat → ClassId) (ad av : Nat → Nat) (sz : Nat) (a_t : Nat) (a_t_water : Nat) (a_t_gain : Nat) (a_t_drops : Nat) (a_p1 : Nat) (a_p1_need : Nat) (a_p1_dew : Nat) (a_p1_drops : Nat) (a_p2 : Nat) (a_p2_water : Nat) (a_t_level : Nat) (a_t_share : Nat) (a_t_song : Nat) (a_p1_water : Nat) (a_p1_song : Nat) (a_p2_lacked : Nat) (a_p2_seenTurn : Nat) (a_p2_seenSet : Nat) (f_t_pool : Int32) (f_p1_law : Int32) (f_p1_slip : Int32) (f_p1_songLength : Int32) (f_p2_turn : Int32) (f_p2_lot : Int32) (f_p2_seen : Int32) (c_p1_need : Nat → Int32) (c_p1_dew : Nat → Int32) (c_p1_drops : Nat → Int32) (f_p1_terraces : Int32) (f_p1_days : Int32) (c_p2_water : Nat → Int32) (f_p2_day : Int32) (f_p2_left : Int32) (c_t_water : Nat → Int32) (c_t_gain : Nat → Int32) (c_t_drops : Nat → Int32) (f_t_terraces : Int32) (res : (Nat → Int32) × (Nat → Int32) × (Nat → Int32) × Int32) (h : F_X1_from c_p1_need c_p1_dew c_p1_drops f_p1_terraces f_p1_days c_p2_water f_p2_day f_p2_left c_t_water c_t_gain c_t_drops f_t_terraces = some res) : Met l yX1_from wsX1_from RM_X1_from (va_Pc [.ref a_t, .ref a_p1, .ref a_p2] (PW_ G ca ad av sz [(a_t, .inr (1, [.ref a_t_water, .ref a_t_gain, .ref a_t_drops, .ref a_t_level, .ref a_t_share, .ref a_t_song, .int f_t_terraces, .int f_t_pool])), (a_t_water, .inl (ca 0, 6, .inl c_t_water)), (a_t_gain, .inl (ca 0, 6, .inl c_t_gain)), (a_t_drops, .inl (ca 0, 40, .inl c_t_drops)), (a_p1, .inr (3, [.ref a_p1_water, .ref a_p1_need, .ref a_p1_dew, .ref a_p1_drops, .ref a_p1_song, .int f_p1_terraces, .int f_p1_days, .int f_p1_law, .int f_p1_slip, .int f_p1_songLength])), (a_p1_need, .inl (ca 0, 6, .inl c_p1_need)), (a_p1_dew, .inl (ca 0, 6, .inl c_p1_dew)), (a_p1_drops, .inl (ca 0, 20, .inl c_p1_drops)), (a_p2, .inr (7, [.ref a_p2_water, .ref a_p2_lacked, .ref a_p2_seenTurn, .ref a_p2_seenSet, .int f_p2_day, .int f_p2_left, .int f_p2_turn, .int f_p2_lot, .int f_p2_seen])), (a_p2_water, .inl (ca 0, 6, .inl c_p2_water))])) (QR_ G (va_A [(a_t, .inr (1, [.ref a_t_water, .ref a_t_gain, .ref a_t_drops, .ref a_t_level, .ref a_t_share, .ref a_t_song, .int f_t_terraces, .int f_t_pool])), (a_t_water, .inl (ca 0, 6, .inl c_t_water)), (a_t_gain, .inl (ca 0, 6, .inl c_t_gain)), (a_t_drops, .inl (ca 0, 40, .inl c_t_drops)), (a_p1, .inr (3, [.ref a_p1_water, .ref a_p1_need, .ref a_p1_dew, .ref a_p1_drops, .ref a_p1_song, .int f_p1_terraces, .int f_p1_days, .int f_p1_law, .int f_p1_slip, .int f_p1_songLength])), (a_p1_need, .inl (ca 0, 6, .inl c_p1_need)), (a_p1_dew, .inl (ca 0, 6, .inl c_p1_dew)), (a_p1_drops, .inl (ca 0, 20, .inl c_p1_drops)), (a_p2, .inr (7, [.ref a_p2_water, .ref a_p2_lacked, .ref a_p2_seenTurn, .ref a_p2_seenSet, .int f_p2_day, .int f_p2_left, .int f_p2_turn, .int f_p2_lot, .int f_p2_seen])), (a_p2_water, .inl (ca 0, 6, .inl c_p2_water))] sz) a_t [(a_t, .inr (1, [.ref a_t_water, .ref a_t_gain, .ref a_t_drops, .ref a_t_level, .ref a_t_share, .ref a_t_song, .int res.2.2.2, .int f_t_pool])), (a_t_water, .inl (ca 0, 6, .inl res.1)), (a_t_gain, .inl (ca 0, 6, .inl res.2.1)), (a_t_drops, .inl (ca 0, 40, .inl res.2.2.1)), (a_p1, .inr (3, [.ref a_p1_water, .ref a_p1_need, .ref a_p1_dew, .ref a_p1_drops, .ref a_p1_song, .int f_p1_terraces, .int f_p1_days, .int f_p1_law, .int f_p1_slip, .int f_p1_songLength])), (a_p1_need, .inl (ca 0, 6, .inl c_p1_need)), (a_p1_dew, .inl (ca 0, 6, .inl c_p1_dew)), (a_p1_drops, .inl (ca 0, 20, .inl c_p1_drops)), (a_p2, .inr (7, [.ref a_p2_water, .ref a_p2_lacked, .ref a_p2_seenTurn, .ref a_p2_seenSet, .int f_p2_day, .int f_p2_left, .int f_p2_turn, .int f_p2_lot, .int f_p2_seen])), (a_p2_water, .inl (ca 0, 6, .inl c_p2_water))]) 0 0 (va_A [(a_t, .inr (1, [.ref a_t_water, .ref a_t_gain, .ref a_t_drops, .ref a_t_level, .ref a_t_share, .ref a_t_song, .int f_t_terraces, .int f_t_pool])), (a_t_water, .inl (ca 0, 6, .inl c_t_water)), (a_t_gain, .inl (ca 0, 6, .inl c_t_gain)), (a_t_drops, .inl (ca 0, 40, .inl c_t_drops)), (a_p1, .inr (3, [.ref a_p1_water, .ref a_p1_need, .ref a_p1_dew, .ref a_p1_drops, .ref a_p1_song, .int f_p1_terraces, .int f_p1_days, .int f_p1_law, .int f_p1_slip, .int f_p1_songLength])), (a_p1_need, .inl (ca 0, 6, .inl c_p1_need)), (a_p1_dew, .inl (ca 0, 6, .inl c_p1_dew)), (a_p1_drops, .inl (ca 0, 20, .inl c_p1_drops)), (a_p2, .inr (7, [.ref a_p2_water, .ref a_p2_lacked, .ref a_p2_seenTurn, .ref a_p2_seenSet, .int f_p2_day, .int f_p2_left, .int f_p2_turn, .int f_p2_lot, .int f_p2_seen])), (a_p2_water, .inl (ca 0, 6, .inl c_p2_water))] sz) := by
  refine Met.ofW (cc := cX1_from) (maxL := 4) (ret := (some (.object "DropDealers$Foresight"))) (by decide) rfl ?_
  intro p e s m args below meth c s₁ B hml hv
  obtain ⟨X0, rfl, rfl, hP, hD⟩ := en_t B hml hv
  have hl := lv_entry ([.ref a_t, .ref a_p1, .ref a_p2]) (n := 4) (Nat.le_of_ble_eq_true rfl)
  rw [lg_entry_eq]
  generalize (lg_sl ([.ref a_t, .ref a_p1, .ref a_p2]) ++ List.replicate (4 - (lg_sl ([.ref a_t, .ref a_p1, .ref a_p2])).length) Slot.unset).toArray = ls at hl ⊢
  exact w_X1_from_0 X0 a_t a_t_water a_t_gain a_t_drops a_p1 a_p1_need a_p1_dew a_p1_drops a_p2 a_p2_water a_t_level a_t_share a_t_song a_p1_water a_p1_song a_p2_lacked a_p2_seenTurn a_p2_seenSet f_t_pool f_p1_law f_p1_slip f_p1_songLength f_p2_turn f_p2_lot f_p2_seen c_p1_need c_p1_dew c_p1_drops f_p1_terraces f_p1_days c_p2_water f_p2_day f_p2_left _ c_t_water c_t_gain c_t_drops f_t_terraces h s.heap [] hP hD va_S.rf ls hl

/-! X1_startDays -/
abbrev RM_X1_startDays : Room := { frames := 1, cells := 0, slots := 0, locals := 60 }
theorem k_X1_startDays_0 : Cond.fieldLink RX1 9 "DropDealers$Foresight" "water" "[I" ∈ wsX1_startDays := by decide +kernel
theorem i_X1_startDays_X1 : ∀ w ∈ u_ws RX1 TX1 8, w ∈ wsX1_startDays := by decide +kernel
theorem k_X1_startDays_2 : Cond.fieldLink RX1 21 "DropDealers$Foresight" "level" "[I" ∈ wsX1_startDays := by decide +kernel
theorem k_X1_startDays_3 : Cond.methodLink RX1 62 arraycopyName ∈ wsX1_startDays := by decide +kernel
theorem k_X1_startDays_4 : Cond.native arraycopyName ∈ wsX1_startDays := by decide +kernel
theorem k_X1_startDays_5 : Cond.static arraycopyName ∈ wsX1_startDays := by decide +kernel
theorem k_X1_startDays_6 : Cond.initialized "java/lang/System" ∈ wsX1_startDays := by decide +kernel
theorem k_X1_startDays_7 : Cond.fieldLink RX1 68 "DropDealers$Foresight" "pool" "I" ∈ wsX1_startDays := by decide +kernel
def F_X1_startDays (c_t_water : Nat → Int32) (c_t_level : Nat → Int32) (f_t_pool : Int32) : Option ((Nat → Int32) × Int32) := some ((va_cpy c_t_water c_t_level 0 0 6), (0 : Int32))
set_option maxHeartbeats 4000000 in
set_option maxRecDepth 100000 in
theorem w_X1_startDays_0 {p : Program} {l : Launch} {e : Env} {s : State} {m : MethodId} {args : Array Value} {below : List Frame} {meth : Method} {c : Code} {G : va_G} {ca : Nat → ClassId} {ad av : Nat → Nat} {A : Nat → Prop} (X0 : CX_ p s m args meth c cX1_startDays 1 none wsX1_startDays RX1 G ca ad av A) (a_t : Nat) (a_t_water : Nat) (a_t_level : Nat) (a_t_gain : Nat) (a_t_drops : Nat) (a_t_share : Nat) (a_t_song : Nat) (f_t_terraces : Int32) (c_t_water : Nat → Int32) (res : (Nat → Int32) × Int32) (c_t_level : Nat → Int32) (f_t_pool : Int32) (h : F_X1_startDays c_t_water c_t_level f_t_pool = some res) : ∀ (H : Heap) (locs : List Loc), va_P G vwCl [(a_t, .inr (1, [.ref a_t_water, .ref a_t_gain, .ref a_t_drops, .ref a_t_level, .ref a_t_share, .ref a_t_song, .int f_t_terraces, .int f_t_pool])), (a_t_water, .inl (ca 0, 6, .inl c_t_water)), (a_t_level, .inl (ca 0, 6, .inl c_t_level))] H → va_D A [(a_t, .inr (1, [.ref a_t_water, .ref a_t_gain, .ref a_t_drops, .ref a_t_level, .ref a_t_share, .ref a_t_song, .int f_t_terraces, .int f_t_pool])), (a_t_water, .inl (ca 0, 6, .inl c_t_water)), (a_t_level, .inl (ca 0, 6, .inl c_t_level))] → va_S A s.heap H locs → ∀ (ls : Array Slot), lv_has ls 1 [(0, .ref a_t)] → W p l e RM_X1_startDays s m args below meth c H locs 0 0 (MQ below (QV_ G A [(a_t, .inr (1, [.ref a_t_water, .ref a_t_gain, .ref a_t_drops, .ref a_t_level, .ref a_t_share, .ref a_t_song, .int f_t_terraces, .int res.2])), (a_t_water, .inl (ca 0, 6, .inl c_t_water)), (a_t_level, .inl (ca 0, 6, .inl res.1))]) args s 0 0 A) (F0 m 0 ls []) := by
  obtain ⟨hx, hb, hr, hml, hown, hts, hlocks, hK, hA, hE⟩ := id X0
  intro H locs hP hD hS ls hl
  unfold F_X1_startDays at h
  refine lv_aload_n hx hb dX1_startDays_0 rfl (lv_at hl 0 rfl) ?_
  refine va_get (D := G) (ci := 1) (v := .ref a_t_water) (C := RX1) (T := TX1) (N := 8) hx hb hts i_X1_startDays_X1 hown hK hP 0 rfl rfl 0 (by decide) (hts _ k_X1_startDays_0) (fun _ h9 => h9) rfl dX1_startDays_1 ?_
  refine lv_iconst (v := 0) hx hb dX1_startDays_4 (by decide) ?_
  refine lv_aload_n hx hb dX1_startDays_5 rfl (lv_at hl 0 rfl) ?_
  refine va_get (D := G) (ci := 1) (v := .ref a_t_level) (C := RX1) (T := TX1) (N := 8) hx hb hts i_X1_startDays_X1 hown hK hP 0 rfl rfl 3 (by decide) (hts _ k_X1_startDays_2) (fun _ h9 => h9) rfl dX1_startDays_6 ?_
  refine lv_iconst (v := 0) hx hb dX1_startDays_9 (by decide) ?_
  refine lv_bipush (v := 6) hx hb dX1_startDays_10 (by decide) ?_
  refine va_copyi hx hb (hml.trans hl.1.symm) hown (hts _ k_X1_startDays_3) (hts _ k_X1_startDays_4) (hts _ k_X1_startDays_5) (hts _ k_X1_startDays_6) hK hP hD hS 1 2 0 0 rfl rfl rfl rfl rfl (by decide) (by decide) (by decide) (by decide) (by decide) (fun _ _ => rfl) (Nat.le_of_ble_eq_true rfl) (Nat.le_of_ble_eq_true rfl) dX1_startDays_12 (fun H locs hP hD hS => ?_)
  have hP : va_P G vwCl [(a_t, .inr (1, [.ref a_t_water, .ref a_t_gain, .ref a_t_drops, .ref a_t_level, .ref a_t_share, .ref a_t_song, .int f_t_terraces, .int f_t_pool])), (a_t_water, .inl (ca 0, 6, .inl c_t_water)), (a_t_level, .inl (ca 0, 6, .inl (va_cpy c_t_water c_t_level 0 0 6)))] H := hP
  have hD : va_D A [(a_t, .inr (1, [.ref a_t_water, .ref a_t_gain, .ref a_t_drops, .ref a_t_level, .ref a_t_share, .ref a_t_song, .int f_t_terraces, .int f_t_pool])), (a_t_water, .inl (ca 0, 6, .inl c_t_water)), (a_t_level, .inl (ca 0, 6, .inl (va_cpy c_t_water c_t_level 0 0 6)))] := hD
  refine lv_aload_n hx hb dX1_startDays_15 rfl (lv_at hl 0 rfl) ?_
  refine lv_iconst (v := 0) hx hb dX1_startDays_16 (by decide) ?_
  refine va_put (D := G) (ci := 1) (v := .int (0 : Int32)) (ty := .int) (C := RX1) (T := TX1) (N := 8) hx hb hts i_X1_startDays_X1 tyX1 tyX1_ok nmX1 hown hK hP hD hS 0 rfl rfl 7 (by decide) (hts _ k_X1_startDays_7) (fun _ h9 => h9) rfl (by decide +kernel) rfl rfl (Nat.le_of_ble_eq_true rfl) dX1_startDays_17 (fun H locs hP hD hS => ?_)
  have hP : va_P G vwCl [(a_t, .inr (1, [.ref a_t_water, .ref a_t_gain, .ref a_t_drops, .ref a_t_level, .ref a_t_share, .ref a_t_song, .int f_t_terraces, .int (0 : Int32)])), (a_t_water, .inl (ca 0, 6, .inl c_t_water)), (a_t_level, .inl (ca 0, 6, .inl (va_cpy c_t_water c_t_level 0 0 6)))] H := hP
  have hD : va_D A [(a_t, .inr (1, [.ref a_t_water, .ref a_t_gain, .ref a_t_drops, .ref a_t_level, .ref a_t_share, .ref a_t_song, .int f_t_terraces, .int (0 : Int32)])), (a_t_water, .inl (ca 0, 6, .inl c_t_water)), (a_t_level, .inl (ca 0, 6, .inl (va_cpy c_t_water c_t_level 0 0 6)))] := hD
  have h := sm_i h
  subst h
  exact W.vret hx hb hr (fun t ht hW => ⟨⟨(), rfl, trivial, by rw [ht]; exact hP, hD⟩, hS.F ht⟩) hS.2.2 dX1_startDays_20
set_option maxHeartbeats 4000000 in
set_option maxRecDepth 100000 in
theorem c_X1_startDays (l : Launch) (G : va_G) (ca : Nat → ClassId) (ad av : Nat → Nat) (sz : Nat) (a_t : Nat) (a_t_water : Nat) (a_t_level : Nat) (a_t_gain : Nat) (a_t_drops : Nat) (a_t_share : Nat) (a_t_song : Nat) (f_t_terraces : Int32) (c_t_water : Nat → Int32) (c_t_level : Nat → Int32) (f_t_pool : Int32) (res : (Nat → Int32) × Int32) (h : F_X1_startDays c_t_water c_t_level f_t_pool = some res) : Met l yX1_startDays wsX1_startDays RM_X1_startDays (va_Pc [.ref a_t] (PW_ G ca ad av sz [(a_t, .inr (1, [.ref a_t_water, .ref a_t_gain, .ref a_t_drops, .ref a_t_level, .ref a_t_share, .ref a_t_song, .int f_t_terraces, .int f_t_pool])), (a_t_water, .inl (ca 0, 6, .inl c_t_water)), (a_t_level, .inl (ca 0, 6, .inl c_t_level))])) (QV_ G (va_A [(a_t, .inr (1, [.ref a_t_water, .ref a_t_gain, .ref a_t_drops, .ref a_t_level, .ref a_t_share, .ref a_t_song, .int f_t_terraces, .int f_t_pool])), (a_t_water, .inl (ca 0, 6, .inl c_t_water)), (a_t_level, .inl (ca 0, 6, .inl c_t_level))] sz) [(a_t, .inr (1, [.ref a_t_water, .ref a_t_gain, .ref a_t_drops, .ref a_t_level, .ref a_t_share, .ref a_t_song, .int f_t_terraces, .int res.2])), (a_t_water, .inl (ca 0, 6, .inl c_t_water)), (a_t_level, .inl (ca 0, 6, .inl res.1))]) 0 0 (va_A [(a_t, .inr (1, [.ref a_t_water, .ref a_t_gain, .ref a_t_drops, .ref a_t_level, .ref a_t_share, .ref a_t_song, .int f_t_terraces, .int f_t_pool])), (a_t_water, .inl (ca 0, 6, .inl c_t_water)), (a_t_level, .inl (ca 0, 6, .inl c_t_level))] sz) := by
  refine Met.ofW (cc := cX1_startDays) (maxL := 1) (ret := none) (by decide) rfl ?_
  intro p e s m args below meth c s₁ B hml hv
  obtain ⟨X0, rfl, rfl, hP, hD⟩ := en_t B hml hv
  have hl := lv_entry ([.ref a_t]) (n := 1) (Nat.le_of_ble_eq_true rfl)
  rw [lg_entry_eq]
  generalize (lg_sl ([.ref a_t]) ++ List.replicate (1 - (lg_sl ([.ref a_t])).length) Slot.unset).toArray = ls at hl ⊢
  exact w_X1_startDays_0 X0 a_t a_t_water a_t_level a_t_gain a_t_drops a_t_share a_t_song f_t_terraces c_t_water _ c_t_level f_t_pool h s.heap [] hP hD va_S.rf ls hl

/-! X1_passDay -/
abbrev RM_X1_passDay : Room := { frames := 1, cells := 0, slots := 0, locals := 24 }
theorem k_X1_passDay_0 : Cond.fieldLink RX1 36 "DropDealers$Foresight" "terraces" "I" ∈ wsX1_passDay := by decide +kernel
theorem i_X1_passDay_X1 : ∀ w ∈ u_ws RX1 TX1 8, w ∈ wsX1_passDay := by decide +kernel
theorem k_X1_passDay_2 : Cond.fieldLink RX1 21 "DropDealers$Foresight" "level" "[I" ∈ wsX1_passDay := by decide +kernel
theorem k_X1_passDay_3 : Cond.fieldLink RX1 15 "DropDealers$Foresight" "gain" "[I" ∈ wsX1_passDay := by decide +kernel
theorem k_X1_passDay_4 : Cond.methodLink RX1 81 Lib.Math.max.name ∈ wsX1_passDay := by decide +kernel
theorem k_X1_passDay_5 : Cond.static Lib.Math.max.name ∈ wsX1_passDay := by decide +kernel
theorem k_X1_passDay_6 : Cond.initialized "java/lang/Math" ∈ wsX1_passDay := by decide +kernel
theorem k_X1_passDay_7 : Cond.code Lib.Math.max.name Lib.Math.max.code 2 (some .int) ∈ wsX1_passDay := by decide +kernel
def F_X1_passDay_4 (c_t_gain : Nat → Int32) (f_t_terraces : Int32) : Nat → (Nat → Int32) → Int32 → Int32 → Option (Int32 × (Nat → Int32))
  | 0, _, _, _ => none
  | n + 1, c_t_level, y1, y2 => if f_t_terraces ≤ y2 then (some (y1, c_t_level)) else (if ok_I y2 6 = true then F_X1_passDay_4 c_t_gain f_t_terraces n (upd c_t_level y2.toNatClampNeg (if (0 : Int32) < ((c_t_level y2.toNatClampNeg) + (c_t_gain y2.toNatClampNeg)) then ((c_t_level y2.toNatClampNeg) + (c_t_gain y2.toNatClampNeg)) else (0 : Int32))) (y1 + (if (0 : Int32) < (-((c_t_level y2.toNatClampNeg) + (c_t_gain y2.toNatClampNeg))) then (-((c_t_level y2.toNatClampNeg) + (c_t_gain y2.toNatClampNeg))) else (0 : Int32))) (y2 + (1 : Int32)) else none)
set_option maxHeartbeats 4000000 in
set_option maxRecDepth 100000 in
theorem w_X1_passDay_4 {p : Program} {l : Launch} {e : Env} {s : State} {m : MethodId} {args : Array Value} {below : List Frame} {meth : Method} {c : Code} {G : va_G} {ca : Nat → ClassId} {ad av : Nat → Nat} {A : Nat → Prop} (X0 : CX_ p s m args meth c cX1_passDay 4 (some .int) wsX1_passDay RX1 G ca ad av A) (a_t : Nat) (a_t_gain : Nat) (a_t_level : Nat) (a_t_water : Nat) (a_t_drops : Nat) (a_t_share : Nat) (a_t_song : Nat) (f_t_pool : Int32) (c_t_gain : Nat → Int32) (f_t_terraces : Int32) (res : Int32 × (Nat → Int32)) : ∀ (n : Nat) (c_t_level : Nat → Int32) (y1 : Int32) (y2 : Int32), F_X1_passDay_4 c_t_gain f_t_terraces n c_t_level y1 y2 = some res → ∀ (H : Heap) (locs : List Loc), va_P G vwCl [(a_t, .inr (1, [.ref a_t_water, .ref a_t_gain, .ref a_t_drops, .ref a_t_level, .ref a_t_share, .ref a_t_song, .int f_t_terraces, .int f_t_pool])), (a_t_gain, .inl (ca 0, 6, .inl c_t_gain)), (a_t_level, .inl (ca 0, 6, .inl c_t_level))] H → va_D A [(a_t, .inr (1, [.ref a_t_water, .ref a_t_gain, .ref a_t_drops, .ref a_t_level, .ref a_t_share, .ref a_t_song, .int f_t_terraces, .int f_t_pool])), (a_t_gain, .inl (ca 0, 6, .inl c_t_gain)), (a_t_level, .inl (ca 0, 6, .inl c_t_level))] → va_S A s.heap H locs → ∀ (ls : Array Slot), lv_has ls 4 [(0, .ref a_t), (1, .int y1), (2, .int y2)] → W p l e RM_X1_passDay s m args below meth c H locs 0 0 (MQ below (QI_ G A res.1 [(a_t, .inr (1, [.ref a_t_water, .ref a_t_gain, .ref a_t_drops, .ref a_t_level, .ref a_t_share, .ref a_t_song, .int f_t_terraces, .int f_t_pool])), (a_t_gain, .inl (ca 0, 6, .inl c_t_gain)), (a_t_level, .inl (ca 0, 6, .inl res.2))]) args s 0 0 A) (F0 m 4 ls []) := by
  obtain ⟨hx, hb, hr, hml, hown, hts, hlocks, hK, hA, hE⟩ := id X0
  intro n
  induction n with
  | zero => intro c_t_level y1 y2 h; cases h
  | succ n ih =>
    intro c_t_level y1 y2 h H locs hP hD hS ls hl
    rw [F_X1_passDay_4] at h
    refine lv_iload_n hx hb dX1_passDay_4 rfl (lv_at hl 2 rfl) ?_
    refine lv_aload_n hx hb dX1_passDay_5 rfl (lv_at hl 0 rfl) ?_
    refine va_get (D := G) (ci := 1) (v := .int f_t_terraces) (C := RX1) (T := TX1) (N := 8) hx hb hts i_X1_passDay_X1 hown hK hP 0 rfl rfl 6 (by decide) (hts _ k_X1_passDay_0) (fun _ h9 => h9) rfl dX1_passDay_6 ?_
    refine lv_icmp_ge (tgt := 52) hx hb dX1_passDay_9 (by decide) (fun b1 => ?_) (fun b1 => ?_)
    · have h := (if_pos b1).symm.trans h
      refine lv_iload_n hx hb dX1_passDay_52 rfl (lv_at hl 1 rfl) ?_
      have h := sm_i h
      subst h
      exact W.iret (v := y1) hx hb hr (fun t ht hW => ⟨⟨y1, (), rfl, rfl, by rw [ht]; exact hP, hD⟩, hS.F ht⟩) hS.2.2 dX1_passDay_53
    · have h := (if_neg b1).symm.trans h
      refine lv_aload_n hx hb dX1_passDay_12 rfl (lv_at hl 0 rfl) ?_
      refine va_get (D := G) (ci := 1) (v := .ref a_t_level) (C := RX1) (T := TX1) (N := 8) hx hb hts i_X1_passDay_X1 hown hK hP 0 rfl rfl 3 (by decide) (hts _ k_X1_passDay_2) (fun _ h9 => h9) rfl dX1_passDay_13 ?_
      refine lv_iload_n hx hb dX1_passDay_16 rfl (lv_at hl 2 rfl) ?_
      obtain ⟨g2, h⟩ := gd_t h
      refine va_iald hx hb hK hP 2 0 rfl rfl (ok_in g2) dX1_passDay_17 ?_
      refine lv_aload_n hx hb dX1_passDay_18 rfl (lv_at hl 0 rfl) ?_
      refine va_get (D := G) (ci := 1) (v := .ref a_t_gain) (C := RX1) (T := TX1) (N := 8) hx hb hts i_X1_passDay_X1 hown hK hP 0 rfl rfl 1 (by decide) (hts _ k_X1_passDay_3) (fun _ h9 => h9) rfl dX1_passDay_19 ?_
      refine lv_iload_n hx hb dX1_passDay_22 rfl (lv_at hl 2 rfl) ?_
      refine va_iald hx hb hK hP 1 0 rfl rfl (ok_in g2) dX1_passDay_23 ?_
      refine lv_iadd hx hb dX1_passDay_24 ?_
      refine lv_istore_n (lv' := [(3, .int ((c_t_level y2.toNatClampNeg) + (c_t_gain y2.toNatClampNeg))), (0, .ref a_t), (1, .int y1), (2, .int y2)]) hx hb dX1_passDay_25 rfl hl (by decide) rfl (fun ls hl => ?_)
      refine lv_aload_n hx hb dX1_passDay_26 rfl (lv_at hl 1 rfl) ?_
      refine va_get (D := G) (ci := 1) (v := .ref a_t_level) (C := RX1) (T := TX1) (N := 8) hx hb hts i_X1_passDay_X1 hown hK hP 0 rfl rfl 3 (by decide) (hts _ k_X1_passDay_2) (fun _ h9 => h9) rfl dX1_passDay_27 ?_
      refine lv_iload_n hx hb dX1_passDay_30 rfl (lv_at hl 3 rfl) ?_
      refine lv_iconst (v := 0) hx hb dX1_passDay_31 (by decide) ?_
      refine lv_iload_n hx hb dX1_passDay_32 rfl (lv_at hl 0 rfl) ?_
      refine va_mmax hx hb (hml.trans hl.1.symm) hown (hts _ k_X1_passDay_4) (hts _ k_X1_passDay_5) (hts _ k_X1_passDay_6) (hts _ k_X1_passDay_7) (Nat.le_of_ble_eq_true rfl) (Nat.le_of_ble_eq_true rfl) (Nat.zero_le _) (Nat.zero_le _) dX1_passDay_33 ?_
      refine va_iast hx hb hK hP hD hS 2 0 rfl rfl (ok_in g2) dX1_passDay_36 (fun H locs hP hD hS => ?_)
      have hP : va_P G vwCl [(a_t, .inr (1, [.ref a_t_water, .ref a_t_gain, .ref a_t_drops, .ref a_t_level, .ref a_t_share, .ref a_t_song, .int f_t_terraces, .int f_t_pool])), (a_t_gain, .inl (ca 0, 6, .inl c_t_gain)), (a_t_level, .inl (ca 0, 6, .inl (upd c_t_level y2.toNatClampNeg (if (0 : Int32) < ((c_t_level y2.toNatClampNeg) + (c_t_gain y2.toNatClampNeg)) then ((c_t_level y2.toNatClampNeg) + (c_t_gain y2.toNatClampNeg)) else (0 : Int32)))))] H := hP
      have hD : va_D A [(a_t, .inr (1, [.ref a_t_water, .ref a_t_gain, .ref a_t_drops, .ref a_t_level, .ref a_t_share, .ref a_t_song, .int f_t_terraces, .int f_t_pool])), (a_t_gain, .inl (ca 0, 6, .inl c_t_gain)), (a_t_level, .inl (ca 0, 6, .inl (upd c_t_level y2.toNatClampNeg (if (0 : Int32) < ((c_t_level y2.toNatClampNeg) + (c_t_gain y2.toNatClampNeg)) then ((c_t_level y2.toNatClampNeg) + (c_t_gain y2.toNatClampNeg)) else (0 : Int32)))))] := hD
      refine lv_iload_n hx hb dX1_passDay_37 rfl (lv_at hl 2 rfl) ?_
      refine lv_iconst (v := 0) hx hb dX1_passDay_38 (by decide) ?_
      refine lv_iload_n hx hb dX1_passDay_39 rfl (lv_at hl 0 rfl) ?_
      refine lv_ineg hx hb dX1_passDay_40 ?_
      refine va_mmax hx hb (hml.trans hl.1.symm) hown (hts _ k_X1_passDay_4) (hts _ k_X1_passDay_5) (hts _ k_X1_passDay_6) (hts _ k_X1_passDay_7) (Nat.le_of_ble_eq_true rfl) (Nat.le_of_ble_eq_true rfl) (Nat.zero_le _) (Nat.zero_le _) dX1_passDay_41 ?_
      refine lv_iadd hx hb dX1_passDay_44 ?_
      refine lv_istore_n (lv' := [(1, .int (y1 + (if (0 : Int32) < (-((c_t_level y2.toNatClampNeg) + (c_t_gain y2.toNatClampNeg))) then (-((c_t_level y2.toNatClampNeg) + (c_t_gain y2.toNatClampNeg))) else (0 : Int32)))), (3, .int ((c_t_level y2.toNatClampNeg) + (c_t_gain y2.toNatClampNeg))), (0, .ref a_t), (2, .int y2)]) hx hb dX1_passDay_45 rfl hl (by decide) rfl (fun ls hl => ?_)
      refine lv_iinc (v := (y2 + (1 : Int32))) (lv' := [(2, .int (y2 + (1 : Int32))), (1, .int (y1 + (if (0 : Int32) < (-((c_t_level y2.toNatClampNeg) + (c_t_gain y2.toNatClampNeg))) then (-((c_t_level y2.toNatClampNeg) + (c_t_gain y2.toNatClampNeg))) else (0 : Int32)))), (3, .int ((c_t_level y2.toNatClampNeg) + (c_t_gain y2.toNatClampNeg))), (0, .ref a_t)]) hx hb dX1_passDay_46 hl (k := 3) rfl rfl (by decide) rfl (fun ls hl => ?_)
      refine lv_goto (tgt := 4) hx hb dX1_passDay_49 (by decide) ?_
      exact ih (upd c_t_level y2.toNatClampNeg (if (0 : Int32) < ((c_t_level y2.toNatClampNeg) + (c_t_gain y2.toNatClampNeg)) then ((c_t_level y2.toNatClampNeg) + (c_t_gain y2.toNatClampNeg)) else (0 : Int32))) (y1 + (if (0 : Int32) < (-((c_t_level y2.toNatClampNeg) + (c_t_gain y2.toNatClampNeg))) then (-((c_t_level y2.toNatClampNeg) + (c_t_gain y2.toNatClampNeg))) else (0 : Int32))) (y2 + (1 : Int32)) h H locs hP hD hS ls (lv_sub hl [3, 1, 0] rfl)
def F_X1_passDay (c_t_gain : Nat → Int32) (f_t_terraces : Int32) (c_t_level : Nat → Int32) : Option (Int32 × (Nat → Int32)) := F_X1_passDay_4 c_t_gain f_t_terraces FU_ c_t_level (0 : Int32) (0 : Int32)
set_option maxHeartbeats 4000000 in
set_option maxRecDepth 100000 in
theorem w_X1_passDay_0 {p : Program} {l : Launch} {e : Env} {s : State} {m : MethodId} {args : Array Value} {below : List Frame} {meth : Method} {c : Code} {G : va_G} {ca : Nat → ClassId} {ad av : Nat → Nat} {A : Nat → Prop} (X0 : CX_ p s m args meth c cX1_passDay 4 (some .int) wsX1_passDay RX1 G ca ad av A) (a_t : Nat) (a_t_gain : Nat) (a_t_level : Nat) (a_t_water : Nat) (a_t_drops : Nat) (a_t_share : Nat) (a_t_song : Nat) (f_t_pool : Int32) (c_t_gain : Nat → Int32) (f_t_terraces : Int32) (res : Int32 × (Nat → Int32)) (c_t_level : Nat → Int32) (h : F_X1_passDay c_t_gain f_t_terraces c_t_level = some res) : ∀ (H : Heap) (locs : List Loc), va_P G vwCl [(a_t, .inr (1, [.ref a_t_water, .ref a_t_gain, .ref a_t_drops, .ref a_t_level, .ref a_t_share, .ref a_t_song, .int f_t_terraces, .int f_t_pool])), (a_t_gain, .inl (ca 0, 6, .inl c_t_gain)), (a_t_level, .inl (ca 0, 6, .inl c_t_level))] H → va_D A [(a_t, .inr (1, [.ref a_t_water, .ref a_t_gain, .ref a_t_drops, .ref a_t_level, .ref a_t_share, .ref a_t_song, .int f_t_terraces, .int f_t_pool])), (a_t_gain, .inl (ca 0, 6, .inl c_t_gain)), (a_t_level, .inl (ca 0, 6, .inl c_t_level))] → va_S A s.heap H locs → ∀ (ls : Array Slot), lv_has ls 4 [(0, .ref a_t)] → W p l e RM_X1_passDay s m args below meth c H locs 0 0 (MQ below (QI_ G A res.1 [(a_t, .inr (1, [.ref a_t_water, .ref a_t_gain, .ref a_t_drops, .ref a_t_level, .ref a_t_share, .ref a_t_song, .int f_t_terraces, .int f_t_pool])), (a_t_gain, .inl (ca 0, 6, .inl c_t_gain)), (a_t_level, .inl (ca 0, 6, .inl res.2))]) args s 0 0 A) (F0 m 0 ls []) := by
  obtain ⟨hx, hb, hr, hml, hown, hts, hlocks, hK, hA, hE⟩ := id X0
  intro H locs hP hD hS ls hl
  unfold F_X1_passDay at h
  refine lv_iconst (v := 0) hx hb dX1_passDay_0 (by decide) ?_
  refine lv_istore_n (lv' := [(1, .int (0 : Int32)), (0, .ref a_t)]) hx hb dX1_passDay_1 rfl hl (by decide) rfl (fun ls hl => ?_)
  refine lv_iconst (v := 0) hx hb dX1_passDay_2 (by decide) ?_
  refine lv_istore_n (lv' := [(2, .int (0 : Int32)), (1, .int (0 : Int32)), (0, .ref a_t)]) hx hb dX1_passDay_3 rfl hl (by decide) rfl (fun ls hl => ?_)
  exact w_X1_passDay_4 X0 a_t a_t_gain a_t_level a_t_water a_t_drops a_t_share a_t_song f_t_pool c_t_gain f_t_terraces _ FU_ c_t_level (0 : Int32) (0 : Int32) h H locs hP hD hS ls (lv_sub hl [2, 1, 0] rfl)
set_option maxHeartbeats 4000000 in
set_option maxRecDepth 100000 in
theorem c_X1_passDay (l : Launch) (G : va_G) (ca : Nat → ClassId) (ad av : Nat → Nat) (sz : Nat) (a_t : Nat) (a_t_gain : Nat) (a_t_level : Nat) (a_t_water : Nat) (a_t_drops : Nat) (a_t_share : Nat) (a_t_song : Nat) (f_t_pool : Int32) (c_t_gain : Nat → Int32) (f_t_terraces : Int32) (c_t_level : Nat → Int32) (res : Int32 × (Nat → Int32)) (h : F_X1_passDay c_t_gain f_t_terraces c_t_level = some res) : Met l yX1_passDay wsX1_passDay RM_X1_passDay (va_Pc [.ref a_t] (PW_ G ca ad av sz [(a_t, .inr (1, [.ref a_t_water, .ref a_t_gain, .ref a_t_drops, .ref a_t_level, .ref a_t_share, .ref a_t_song, .int f_t_terraces, .int f_t_pool])), (a_t_gain, .inl (ca 0, 6, .inl c_t_gain)), (a_t_level, .inl (ca 0, 6, .inl c_t_level))])) (QI_ G (va_A [(a_t, .inr (1, [.ref a_t_water, .ref a_t_gain, .ref a_t_drops, .ref a_t_level, .ref a_t_share, .ref a_t_song, .int f_t_terraces, .int f_t_pool])), (a_t_gain, .inl (ca 0, 6, .inl c_t_gain)), (a_t_level, .inl (ca 0, 6, .inl c_t_level))] sz) res.1 [(a_t, .inr (1, [.ref a_t_water, .ref a_t_gain, .ref a_t_drops, .ref a_t_level, .ref a_t_share, .ref a_t_song, .int f_t_terraces, .int f_t_pool])), (a_t_gain, .inl (ca 0, 6, .inl c_t_gain)), (a_t_level, .inl (ca 0, 6, .inl res.2))]) 0 0 (va_A [(a_t, .inr (1, [.ref a_t_water, .ref a_t_gain, .ref a_t_drops, .ref a_t_level, .ref a_t_share, .ref a_t_song, .int f_t_terraces, .int f_t_pool])), (a_t_gain, .inl (ca 0, 6, .inl c_t_gain)), (a_t_level, .inl (ca 0, 6, .inl c_t_level))] sz) := by
  refine Met.ofW (cc := cX1_passDay) (maxL := 4) (ret := (some .int)) (by decide) rfl ?_
  intro p e s m args below meth c s₁ B hml hv
  obtain ⟨X0, rfl, rfl, hP, hD⟩ := en_t B hml hv
  have hl := lv_entry ([.ref a_t]) (n := 4) (Nat.le_of_ble_eq_true rfl)
  rw [lg_entry_eq]
  generalize (lg_sl ([.ref a_t]) ++ List.replicate (4 - (lg_sl ([.ref a_t])).length) Slot.unset).toArray = ls at hl ⊢
  exact w_X1_passDay_0 X0 a_t a_t_gain a_t_level a_t_water a_t_drops a_t_share a_t_song f_t_pool c_t_gain f_t_terraces _ c_t_level h s.heap [] hP hD va_S.rf ls hl

/-! X1_lackOfDay -/
abbrev RM_X1_lackOfDay : Room := { frames := 2, cells := 0, slots := 0, locals := 47 }
theorem k_X1_lackOfDay_0 : Cond.fieldLink RX1 68 "DropDealers$Foresight" "pool" "I" ∈ wsX1_lackOfDay := by decide +kernel
theorem i_X1_lackOfDay_X1 : ∀ w ∈ u_ws RX1 TX1 8, w ∈ wsX1_lackOfDay := by decide +kernel
theorem k_X1_lackOfDay_2 : Cond.fieldLink RX1 18 "DropDealers$Foresight" "drops" "[I" ∈ wsX1_lackOfDay := by decide +kernel
theorem k_X1_lackOfDay_3 : Cond.methodLink RX1 75 Lib.Math.min.name ∈ wsX1_lackOfDay := by decide +kernel
theorem k_X1_lackOfDay_4 : Cond.static Lib.Math.min.name ∈ wsX1_lackOfDay := by decide +kernel
theorem k_X1_lackOfDay_5 : Cond.initialized "java/lang/Math" ∈ wsX1_lackOfDay := by decide +kernel
theorem k_X1_lackOfDay_6 : Cond.code Lib.Math.min.name Lib.Math.min.code 2 (some .int) ∈ wsX1_lackOfDay := by decide +kernel
def F_X1_lackOfDay (c_t_gain : Nat → Int32) (c_t_drops : Nat → Int32) (f_t_terraces : Int32) (c_t_level : Nat → Int32) (f_t_pool : Int32) (x1 : Int32) : Option (Int32 × (Nat → Int32) × Int32) := if ok_I x1 40 = true then (F_X1_passDay c_t_gain f_t_terraces c_t_level).bind (fun u2 => some ((u2.1 - (if u2.1 < (f_t_pool + (c_t_drops x1.toNatClampNeg)) then u2.1 else (f_t_pool + (c_t_drops x1.toNatClampNeg)))), u2.2, ((f_t_pool + (c_t_drops x1.toNatClampNeg)) - (if u2.1 < (f_t_pool + (c_t_drops x1.toNatClampNeg)) then u2.1 else (f_t_pool + (c_t_drops x1.toNatClampNeg)))))) else none
set_option maxHeartbeats 4000000 in
set_option maxRecDepth 100000 in
theorem w_X1_lackOfDay_0 {p : Program} {l : Launch} {e : Env} {s : State} {m : MethodId} {args : Array Value} {below : List Frame} {meth : Method} {c : Code} {G : va_G} {ca : Nat → ClassId} {ad av : Nat → Nat} {A : Nat → Prop} (X0 : CX_ p s m args meth c cX1_lackOfDay 4 (some .int) wsX1_lackOfDay RX1 G ca ad av A) (a_t : Nat) (a_t_gain : Nat) (a_t_drops : Nat) (a_t_level : Nat) (a_t_water : Nat) (a_t_share : Nat) (a_t_song : Nat)  (c_t_gain : Nat → Int32) (c_t_drops : Nat → Int32) (f_t_terraces : Int32) (res : Int32 × (Nat → Int32) × Int32) (c_t_level : Nat → Int32) (f_t_pool : Int32) (x1 : Int32) (h : F_X1_lackOfDay c_t_gain c_t_drops f_t_terraces c_t_level f_t_pool x1 = some res) : ∀ (H : Heap) (locs : List Loc), va_P G vwCl [(a_t, .inr (1, [.ref a_t_water, .ref a_t_gain, .ref a_t_drops, .ref a_t_level, .ref a_t_share, .ref a_t_song, .int f_t_terraces, .int f_t_pool])), (a_t_gain, .inl (ca 0, 6, .inl c_t_gain)), (a_t_drops, .inl (ca 0, 40, .inl c_t_drops)), (a_t_level, .inl (ca 0, 6, .inl c_t_level))] H → va_D A [(a_t, .inr (1, [.ref a_t_water, .ref a_t_gain, .ref a_t_drops, .ref a_t_level, .ref a_t_share, .ref a_t_song, .int f_t_terraces, .int f_t_pool])), (a_t_gain, .inl (ca 0, 6, .inl c_t_gain)), (a_t_drops, .inl (ca 0, 40, .inl c_t_drops)), (a_t_level, .inl (ca 0, 6, .inl c_t_level))] → va_S A s.heap H locs → ∀ (ls : Array Slot), lv_has ls 4 [(0, .ref a_t), (1, .int x1)] → W p l e RM_X1_lackOfDay s m args below meth c H locs 0 0 (MQ below (QI_ G A res.1 [(a_t, .inr (1, [.ref a_t_water, .ref a_t_gain, .ref a_t_drops, .ref a_t_level, .ref a_t_share, .ref a_t_song, .int f_t_terraces, .int res.2.2])), (a_t_gain, .inl (ca 0, 6, .inl c_t_gain)), (a_t_drops, .inl (ca 0, 40, .inl c_t_drops)), (a_t_level, .inl (ca 0, 6, .inl res.2.1))]) args s 0 0 A) (F0 m 0 ls []) := by
  obtain ⟨hx, hb, hr, hml, hown, hts, hlocks, hK, hA, hE⟩ := id X0
  intro H locs hP hD hS ls hl
  unfold F_X1_lackOfDay at h
  refine lv_aload_n hx hb dX1_lackOfDay_0 rfl (lv_at hl 0 rfl) ?_
  refine lv_dup hx hb dX1_lackOfDay_1 rfl ?_
  refine va_get (D := G) (ci := 1) (v := .int f_t_pool) (C := RX1) (T := TX1) (N := 8) hx hb hts i_X1_lackOfDay_X1 hown hK hP 0 rfl rfl 7 (by decide) (hts _ k_X1_lackOfDay_0) (fun _ h9 => h9) rfl dX1_lackOfDay_2 ?_
  refine lv_aload_n hx hb dX1_lackOfDay_5 rfl (lv_at hl 0 rfl) ?_
  refine va_get (D := G) (ci := 1) (v := .ref a_t_drops) (C := RX1) (T := TX1) (N := 8) hx hb hts i_X1_lackOfDay_X1 hown hK hP 0 rfl rfl 2 (by decide) (hts _ k_X1_lackOfDay_2) (fun _ h9 => h9) rfl dX1_lackOfDay_6 ?_
  refine lv_iload_n hx hb dX1_lackOfDay_9 rfl (lv_at hl 1 rfl) ?_
  obtain ⟨g1, h⟩ := gd_t h
  refine va_iald hx hb hK hP 2 0 rfl rfl (ok_in g1) dX1_lackOfDay_10 ?_
  refine lv_iadd hx hb dX1_lackOfDay_11 ?_
  refine va_put (D := G) (ci := 1) (v := .int (f_t_pool + (c_t_drops x1.toNatClampNeg))) (ty := .int) (C := RX1) (T := TX1) (N := 8) hx hb hts i_X1_lackOfDay_X1 tyX1 tyX1_ok nmX1 hown hK hP hD hS 0 rfl rfl 7 (by decide) (hts _ k_X1_lackOfDay_0) (fun _ h9 => h9) rfl (by decide +kernel) rfl rfl (Nat.le_of_ble_eq_true rfl) dX1_lackOfDay_12 (fun H locs hP hD hS => ?_)
  have hP : va_P G vwCl [(a_t, .inr (1, [.ref a_t_water, .ref a_t_gain, .ref a_t_drops, .ref a_t_level, .ref a_t_share, .ref a_t_song, .int f_t_terraces, .int (f_t_pool + (c_t_drops x1.toNatClampNeg))])), (a_t_gain, .inl (ca 0, 6, .inl c_t_gain)), (a_t_drops, .inl (ca 0, 40, .inl c_t_drops)), (a_t_level, .inl (ca 0, 6, .inl c_t_level))] H := hP
  have hD : va_D A [(a_t, .inr (1, [.ref a_t_water, .ref a_t_gain, .ref a_t_drops, .ref a_t_level, .ref a_t_share, .ref a_t_song, .int f_t_terraces, .int (f_t_pool + (c_t_drops x1.toNatClampNeg))])), (a_t_gain, .inl (ca 0, 6, .inl c_t_gain)), (a_t_drops, .inl (ca 0, 40, .inl c_t_drops)), (a_t_level, .inl (ca 0, 6, .inl c_t_level))] := hD
  refine lv_aload_n hx hb dX1_lackOfDay_15 rfl (lv_at hl 0 rfl) ?_
  obtain ⟨u2, hc3, h⟩ := bd_o h
  refine jn_i (wr := [(a_t_drops, .inl (ca 0, 40, .inl c_t_drops))]) (ws' := [(a_t, .inr (1, [.ref a_t_water, .ref a_t_gain, .ref a_t_drops, .ref a_t_level, .ref a_t_share, .ref a_t_song, .int f_t_terraces, .int (f_t_pool + (c_t_drops x1.toNatClampNeg))])), (a_t_gain, .inl (ca 0, 6, .inl c_t_gain)), (a_t_drops, .inl (ca 0, 40, .inl c_t_drops)), (a_t_level, .inl (ca 0, 6, .inl u2.2))]) (va_runV (As := []) (rest := []) ⟨hx, hb, hml, hown, hts⟩ (c_X1_passDay l G ca ad av H.size a_t a_t_gain a_t_level a_t_water a_t_drops a_t_share a_t_song (f_t_pool + (c_t_drops x1.toNatClampNeg)) c_t_gain f_t_terraces c_t_level u2 hc3) (cwV 0 hts gX1_lackOfDay_X1_passDay rfl rfl rfl (by decide +kernel) ⟨Nat.le_of_ble_eq_true rfl, Nat.le_of_ble_eq_true rfl⟩) (pre_v (q0 := 0) (ci := 1) hK hE hA hP hD hS [0, 1, 3] rfl (by decide) rfl rfl) rfl rfl hl.1 rfl (lv_room (Nat.le_of_ble_eq_true rfl)) dX1_lackOfDay_16 ⟨Nat.le_of_ble_eq_true rfl, Nat.le_of_ble_eq_true rfl⟩) hA hP hD hS [0, 1, 3] [2] [1, 2, 0, 3] rfl rfl (by decide) (by decide) (by decide) rfl (fun H locs hP hD hS => ?_)
  refine lv_istore_n (lv' := [(2, .int u2.1), (0, .ref a_t), (1, .int x1)]) hx hb dX1_lackOfDay_19 rfl hl (by decide) rfl (fun ls hl => ?_)
  refine lv_aload_n hx hb dX1_lackOfDay_20 rfl (lv_at hl 1 rfl) ?_
  refine va_get (D := G) (ci := 1) (v := .int (f_t_pool + (c_t_drops x1.toNatClampNeg))) (C := RX1) (T := TX1) (N := 8) hx hb hts i_X1_lackOfDay_X1 hown hK hP 0 rfl rfl 7 (by decide) (hts _ k_X1_lackOfDay_0) (fun _ h9 => h9) rfl dX1_lackOfDay_21 ?_
  refine lv_iload_n hx hb dX1_lackOfDay_24 rfl (lv_at hl 0 rfl) ?_
  refine va_mmin hx hb (hml.trans hl.1.symm) hown (hts _ k_X1_lackOfDay_3) (hts _ k_X1_lackOfDay_4) (hts _ k_X1_lackOfDay_5) (hts _ k_X1_lackOfDay_6) (Nat.le_of_ble_eq_true rfl) (Nat.le_of_ble_eq_true rfl) (Nat.zero_le _) (Nat.zero_le _) dX1_lackOfDay_25 ?_
  refine lv_istore_n (lv' := [(3, .int (if u2.1 < (f_t_pool + (c_t_drops x1.toNatClampNeg)) then u2.1 else (f_t_pool + (c_t_drops x1.toNatClampNeg)))), (2, .int u2.1), (0, .ref a_t), (1, .int x1)]) hx hb dX1_lackOfDay_28 rfl hl (by decide) rfl (fun ls hl => ?_)
  refine lv_aload_n hx hb dX1_lackOfDay_29 rfl (lv_at hl 2 rfl) ?_
  refine lv_dup hx hb dX1_lackOfDay_30 rfl ?_
  refine va_get (D := G) (ci := 1) (v := .int (f_t_pool + (c_t_drops x1.toNatClampNeg))) (C := RX1) (T := TX1) (N := 8) hx hb hts i_X1_lackOfDay_X1 hown hK hP 0 rfl rfl 7 (by decide) (hts _ k_X1_lackOfDay_0) (fun _ h9 => h9) rfl dX1_lackOfDay_31 ?_
  refine lv_iload_n hx hb dX1_lackOfDay_34 rfl (lv_at hl 0 rfl) ?_
  refine lv_isub hx hb dX1_lackOfDay_35 ?_
  refine va_put (D := G) (ci := 1) (v := .int ((f_t_pool + (c_t_drops x1.toNatClampNeg)) - (if u2.1 < (f_t_pool + (c_t_drops x1.toNatClampNeg)) then u2.1 else (f_t_pool + (c_t_drops x1.toNatClampNeg))))) (ty := .int) (C := RX1) (T := TX1) (N := 8) hx hb hts i_X1_lackOfDay_X1 tyX1 tyX1_ok nmX1 hown hK hP hD hS 0 rfl rfl 7 (by decide) (hts _ k_X1_lackOfDay_0) (fun _ h9 => h9) rfl (by decide +kernel) rfl rfl (Nat.le_of_ble_eq_true rfl) dX1_lackOfDay_36 (fun H locs hP hD hS => ?_)
  have hP : va_P G vwCl [(a_t, .inr (1, [.ref a_t_water, .ref a_t_gain, .ref a_t_drops, .ref a_t_level, .ref a_t_share, .ref a_t_song, .int f_t_terraces, .int ((f_t_pool + (c_t_drops x1.toNatClampNeg)) - (if u2.1 < (f_t_pool + (c_t_drops x1.toNatClampNeg)) then u2.1 else (f_t_pool + (c_t_drops x1.toNatClampNeg))))])), (a_t_gain, .inl (ca 0, 6, .inl c_t_gain)), (a_t_drops, .inl (ca 0, 40, .inl c_t_drops)), (a_t_level, .inl (ca 0, 6, .inl u2.2))] H := hP
  have hD : va_D A [(a_t, .inr (1, [.ref a_t_water, .ref a_t_gain, .ref a_t_drops, .ref a_t_level, .ref a_t_share, .ref a_t_song, .int f_t_terraces, .int ((f_t_pool + (c_t_drops x1.toNatClampNeg)) - (if u2.1 < (f_t_pool + (c_t_drops x1.toNatClampNeg)) then u2.1 else (f_t_pool + (c_t_drops x1.toNatClampNeg))))])), (a_t_gain, .inl (ca 0, 6, .inl c_t_gain)), (a_t_drops, .inl (ca 0, 40, .inl c_t_drops)), (a_t_level, .inl (ca 0, 6, .inl u2.2))] := hD
  refine lv_iload_n hx hb dX1_lackOfDay_39 rfl (lv_at hl 1 rfl) ?_
  refine lv_iload_n hx hb dX1_lackOfDay_40 rfl (lv_at hl 0 rfl) ?_
  refine lv_isub hx hb dX1_lackOfDay_41 ?_
  have h := sm_i h
  subst h
  exact W.iret (v := (u2.1 - (if u2.1 < (f_t_pool + (c_t_drops x1.toNatClampNeg)) then u2.1 else (f_t_pool + (c_t_drops x1.toNatClampNeg))))) hx hb hr (fun t ht hW => ⟨⟨(u2.1 - (if u2.1 < (f_t_pool + (c_t_drops x1.toNatClampNeg)) then u2.1 else (f_t_pool + (c_t_drops x1.toNatClampNeg)))), (), rfl, rfl, by rw [ht]; exact hP, hD⟩, hS.F ht⟩) hS.2.2 dX1_lackOfDay_42
set_option maxHeartbeats 4000000 in
set_option maxRecDepth 100000 in
theorem c_X1_lackOfDay (l : Launch) (G : va_G) (ca : Nat → ClassId) (ad av : Nat → Nat) (sz : Nat) (a_t : Nat) (a_t_gain : Nat) (a_t_drops : Nat) (a_t_level : Nat) (a_t_water : Nat) (a_t_share : Nat) (a_t_song : Nat)  (c_t_gain : Nat → Int32) (c_t_drops : Nat → Int32) (f_t_terraces : Int32) (c_t_level : Nat → Int32) (f_t_pool : Int32) (x1 : Int32) (res : Int32 × (Nat → Int32) × Int32) (h : F_X1_lackOfDay c_t_gain c_t_drops f_t_terraces c_t_level f_t_pool x1 = some res) : Met l yX1_lackOfDay wsX1_lackOfDay RM_X1_lackOfDay (va_Pc [.ref a_t, .int x1] (PW_ G ca ad av sz [(a_t, .inr (1, [.ref a_t_water, .ref a_t_gain, .ref a_t_drops, .ref a_t_level, .ref a_t_share, .ref a_t_song, .int f_t_terraces, .int f_t_pool])), (a_t_gain, .inl (ca 0, 6, .inl c_t_gain)), (a_t_drops, .inl (ca 0, 40, .inl c_t_drops)), (a_t_level, .inl (ca 0, 6, .inl c_t_level))])) (QI_ G (va_A [(a_t, .inr (1, [.ref a_t_water, .ref a_t_gain, .ref a_t_drops, .ref a_t_level, .ref a_t_share, .ref a_t_song, .int f_t_terraces, .int f_t_pool])), (a_t_gain, .inl (ca 0, 6, .inl c_t_gain)), (a_t_drops, .inl (ca 0, 40, .inl c_t_drops)), (a_t_level, .inl (ca 0, 6, .inl c_t_level))] sz) res.1 [(a_t, .inr (1, [.ref a_t_water, .ref a_t_gain, .ref a_t_drops, .ref a_t_level, .ref a_t_share, .ref a_t_song, .int f_t_terraces, .int res.2.2])), (a_t_gain, .inl (ca 0, 6, .inl c_t_gain)), (a_t_drops, .inl (ca 0, 40, .inl c_t_drops)), (a_t_level, .inl (ca 0, 6, .inl res.2.1))]) 0 0 (va_A [(a_t, .inr (1, [.ref a_t_water, .ref a_t_gain, .ref a_t_drops, .ref a_t_level, .ref a_t_share, .ref a_t_song, .int f_t_terraces, .int f_t_pool])), (a_t_gain, .inl (ca 0, 6, .inl c_t_gain)), (a_t_drops, .inl (ca 0, 40, .inl c_t_drops)), (a_t_level, .inl (ca 0, 6, .inl c_t_level))] sz) := by
  refine Met.ofW (cc := cX1_lackOfDay) (maxL := 4) (ret := (some .int)) (by decide) rfl ?_
  intro p e s m args below meth c s₁ B hml hv
  obtain ⟨X0, rfl, rfl, hP, hD⟩ := en_t B hml hv
  have hl := lv_entry ([.ref a_t, .int x1]) (n := 4) (Nat.le_of_ble_eq_true rfl)
  rw [lg_entry_eq]
  generalize (lg_sl ([.ref a_t, .int x1]) ++ List.replicate (4 - (lg_sl ([.ref a_t, .int x1])).length) Slot.unset).toArray = ls at hl ⊢
  exact w_X1_lackOfDay_0 X0 a_t a_t_gain a_t_drops a_t_level a_t_water a_t_share a_t_song  c_t_gain c_t_drops f_t_terraces _ c_t_level f_t_pool x1 h s.heap [] hP hD va_S.rf ls hl

/-! X1_safeDays -/
abbrev RM_X1_safeDays : Room := { frames := 3, cells := 0, slots := 0, locals := 80 }
def F_X1_safeDays_6 (c_t_water : Nat → Int32) (c_t_gain : Nat → Int32) (c_t_drops : Nat → Int32) (f_t_terraces : Int32) : Nat → (Nat → Int32) → Int32 → Int32 → Option (Int32 × (Nat → Int32) × Int32)
  | 0, _, _, _ => none
  | n + 1, c_t_level, f_t_pool, y1 => if (40 : Int32) ≤ y1 then (some ((40 : Int32), c_t_level, f_t_pool)) else ((F_X1_lackOfDay c_t_gain c_t_drops f_t_terraces c_t_level f_t_pool y1).bind (fun u2 => if u2.1 ≤ 0 then (F_X1_safeDays_6 c_t_water c_t_gain c_t_drops f_t_terraces n u2.2.1 u2.2.2 (y1 + (1 : Int32))) else (some (y1, u2.2.1, u2.2.2))))
set_option maxHeartbeats 4000000 in
set_option maxRecDepth 100000 in
theorem w_X1_safeDays_6 {p : Program} {l : Launch} {e : Env} {s : State} {m : MethodId} {args : Array Value} {below : List Frame} {meth : Method} {c : Code} {G : va_G} {ca : Nat → ClassId} {ad av : Nat → Nat} {A : Nat → Prop} (X0 : CX_ p s m args meth c cX1_safeDays 2 (some .int) wsX1_safeDays RX1 G ca ad av A) (a_t : Nat) (a_t_water : Nat) (a_t_gain : Nat) (a_t_drops : Nat) (a_t_level : Nat) (a_t_share : Nat) (a_t_song : Nat)  (c_t_water : Nat → Int32) (c_t_gain : Nat → Int32) (c_t_drops : Nat → Int32) (f_t_terraces : Int32) (res : Int32 × (Nat → Int32) × Int32) : ∀ (n : Nat) (c_t_level : Nat → Int32) (f_t_pool : Int32) (y1 : Int32), F_X1_safeDays_6 c_t_water c_t_gain c_t_drops f_t_terraces n c_t_level f_t_pool y1 = some res → ∀ (H : Heap) (locs : List Loc), va_P G vwCl [(a_t, .inr (1, [.ref a_t_water, .ref a_t_gain, .ref a_t_drops, .ref a_t_level, .ref a_t_share, .ref a_t_song, .int f_t_terraces, .int f_t_pool])), (a_t_water, .inl (ca 0, 6, .inl c_t_water)), (a_t_gain, .inl (ca 0, 6, .inl c_t_gain)), (a_t_drops, .inl (ca 0, 40, .inl c_t_drops)), (a_t_level, .inl (ca 0, 6, .inl c_t_level))] H → va_D A [(a_t, .inr (1, [.ref a_t_water, .ref a_t_gain, .ref a_t_drops, .ref a_t_level, .ref a_t_share, .ref a_t_song, .int f_t_terraces, .int f_t_pool])), (a_t_water, .inl (ca 0, 6, .inl c_t_water)), (a_t_gain, .inl (ca 0, 6, .inl c_t_gain)), (a_t_drops, .inl (ca 0, 40, .inl c_t_drops)), (a_t_level, .inl (ca 0, 6, .inl c_t_level))] → va_S A s.heap H locs → ∀ (ls : Array Slot), lv_has ls 2 [(0, .ref a_t), (1, .int y1)] → W p l e RM_X1_safeDays s m args below meth c H locs 0 0 (MQ below (QI_ G A res.1 [(a_t, .inr (1, [.ref a_t_water, .ref a_t_gain, .ref a_t_drops, .ref a_t_level, .ref a_t_share, .ref a_t_song, .int f_t_terraces, .int res.2.2])), (a_t_water, .inl (ca 0, 6, .inl c_t_water)), (a_t_gain, .inl (ca 0, 6, .inl c_t_gain)), (a_t_drops, .inl (ca 0, 40, .inl c_t_drops)), (a_t_level, .inl (ca 0, 6, .inl res.2.1))]) args s 0 0 A) (F0 m 6 ls []) := by
  obtain ⟨hx, hb, hr, hml, hown, hts, hlocks, hK, hA, hE⟩ := id X0
  intro n
  induction n with
  | zero => intro c_t_level f_t_pool y1 h; cases h
  | succ n ih =>
    intro c_t_level f_t_pool y1 h H locs hP hD hS ls hl
    rw [F_X1_safeDays_6] at h
    refine lv_iload_n hx hb dX1_safeDays_6 rfl (lv_at hl 1 rfl) ?_
    refine lv_bipush (v := 40) hx hb dX1_safeDays_7 (by decide) ?_
    refine lv_icmp_ge (tgt := 28) hx hb dX1_safeDays_9 (by decide) (fun b1 => ?_) (fun b1 => ?_)
    · have h := (if_pos b1).symm.trans h
      refine lv_bipush (v := 40) hx hb dX1_safeDays_28 (by decide) ?_
      have h := sm_i h
      subst h
      exact W.iret (v := (40 : Int32)) hx hb hr (fun t ht hW => ⟨⟨(40 : Int32), (), rfl, rfl, by rw [ht]; exact hP, hD⟩, hS.F ht⟩) hS.2.2 dX1_safeDays_30
    · have h := (if_neg b1).symm.trans h
      refine lv_aload_n hx hb dX1_safeDays_12 rfl (lv_at hl 0 rfl) ?_
      refine lv_iload_n hx hb dX1_safeDays_13 rfl (lv_at hl 1 rfl) ?_
      obtain ⟨u2, hc3, h⟩ := bd_o h
      refine jn_i (wr := [(a_t_water, .inl (ca 0, 6, .inl c_t_water))]) (ws' := [(a_t, .inr (1, [.ref a_t_water, .ref a_t_gain, .ref a_t_drops, .ref a_t_level, .ref a_t_share, .ref a_t_song, .int f_t_terraces, .int u2.2.2])), (a_t_water, .inl (ca 0, 6, .inl c_t_water)), (a_t_gain, .inl (ca 0, 6, .inl c_t_gain)), (a_t_drops, .inl (ca 0, 40, .inl c_t_drops)), (a_t_level, .inl (ca 0, 6, .inl u2.2.1))]) (va_runV (As := [.int y1]) (rest := []) ⟨hx, hb, hml, hown, hts⟩ (c_X1_lackOfDay l G ca ad av H.size a_t a_t_gain a_t_drops a_t_level a_t_water a_t_share a_t_song c_t_gain c_t_drops f_t_terraces c_t_level f_t_pool y1 u2 hc3) (cwV 1 hts gX1_safeDays_X1_lackOfDay rfl rfl rfl (by decide +kernel) ⟨Nat.le_of_ble_eq_true rfl, Nat.le_of_ble_eq_true rfl⟩) (pre_v (q0 := 0) (ci := 1) hK hE hA hP hD hS [0, 2, 3, 4] rfl (by decide) rfl rfl) rfl rfl hl.1 rfl (lv_room (Nat.le_of_ble_eq_true rfl)) dX1_safeDays_14 ⟨Nat.le_of_ble_eq_true rfl, Nat.le_of_ble_eq_true rfl⟩) hA hP hD hS [0, 2, 3, 4] [1] [1, 0, 2, 3, 4] rfl rfl (by decide) (by decide) (by decide) rfl (fun H locs hP hD hS => ?_)
      refine lv_if_le (tgt := 22) hx hb dX1_safeDays_17 (by decide) (fun b4 => ?_) (fun b4 => ?_)
      · have h := (if_pos b4).symm.trans h
        refine lv_iinc (v := (y1 + (1 : Int32))) (lv' := [(1, .int (y1 + (1 : Int32))), (0, .ref a_t)]) hx hb dX1_safeDays_22 hl (k := 1) rfl rfl (by decide) rfl (fun ls hl => ?_)
        refine lv_goto (tgt := 6) hx hb dX1_safeDays_25 (by decide) ?_
        exact ih u2.2.1 u2.2.2 (y1 + (1 : Int32)) h H locs hP hD hS ls (lv_sub hl [1, 0] rfl)
      · have h := (if_neg b4).symm.trans h
        refine lv_iload_n hx hb dX1_safeDays_20 rfl (lv_at hl 1 rfl) ?_
        have h := sm_i h
        subst h
        exact W.iret (v := y1) hx hb hr (fun t ht hW => ⟨⟨y1, (), rfl, rfl, by rw [ht]; exact hP, hD⟩, hS.F ht⟩) hS.2.2 dX1_safeDays_21
def F_X1_safeDays (c_t_water : Nat → Int32) (c_t_gain : Nat → Int32) (c_t_drops : Nat → Int32) (f_t_terraces : Int32) (c_t_level : Nat → Int32) (f_t_pool : Int32) : Option (Int32 × (Nat → Int32) × Int32) := (F_X1_startDays c_t_water c_t_level f_t_pool).bind (fun u5 => F_X1_safeDays_6 c_t_water c_t_gain c_t_drops f_t_terraces FU_ u5.1 u5.2 (0 : Int32))
set_option maxHeartbeats 4000000 in
set_option maxRecDepth 100000 in
theorem w_X1_safeDays_0 {p : Program} {l : Launch} {e : Env} {s : State} {m : MethodId} {args : Array Value} {below : List Frame} {meth : Method} {c : Code} {G : va_G} {ca : Nat → ClassId} {ad av : Nat → Nat} {A : Nat → Prop} (X0 : CX_ p s m args meth c cX1_safeDays 2 (some .int) wsX1_safeDays RX1 G ca ad av A) (a_t : Nat) (a_t_water : Nat) (a_t_gain : Nat) (a_t_drops : Nat) (a_t_level : Nat) (a_t_share : Nat) (a_t_song : Nat)  (c_t_water : Nat → Int32) (c_t_gain : Nat → Int32) (c_t_drops : Nat → Int32) (f_t_terraces : Int32) (res : Int32 × (Nat → Int32) × Int32) (c_t_level : Nat → Int32) (f_t_pool : Int32) (h : F_X1_safeDays c_t_water c_t_gain c_t_drops f_t_terraces c_t_level f_t_pool = some res) : ∀ (H : Heap) (locs : List Loc), va_P G vwCl [(a_t, .inr (1, [.ref a_t_water, .ref a_t_gain, .ref a_t_drops, .ref a_t_level, .ref a_t_share, .ref a_t_song, .int f_t_terraces, .int f_t_pool])), (a_t_water, .inl (ca 0, 6, .inl c_t_water)), (a_t_gain, .inl (ca 0, 6, .inl c_t_gain)), (a_t_drops, .inl (ca 0, 40, .inl c_t_drops)), (a_t_level, .inl (ca 0, 6, .inl c_t_level))] H → va_D A [(a_t, .inr (1, [.ref a_t_water, .ref a_t_gain, .ref a_t_drops, .ref a_t_level, .ref a_t_share, .ref a_t_song, .int f_t_terraces, .int f_t_pool])), (a_t_water, .inl (ca 0, 6, .inl c_t_water)), (a_t_gain, .inl (ca 0, 6, .inl c_t_gain)), (a_t_drops, .inl (ca 0, 40, .inl c_t_drops)), (a_t_level, .inl (ca 0, 6, .inl c_t_level))] → va_S A s.heap H locs → ∀ (ls : Array Slot), lv_has ls 2 [(0, .ref a_t)] → W p l e RM_X1_safeDays s m args below meth c H locs 0 0 (MQ below (QI_ G A res.1 [(a_t, .inr (1, [.ref a_t_water, .ref a_t_gain, .ref a_t_drops, .ref a_t_level, .ref a_t_share, .ref a_t_song, .int f_t_terraces, .int res.2.2])), (a_t_water, .inl (ca 0, 6, .inl c_t_water)), (a_t_gain, .inl (ca 0, 6, .inl c_t_gain)), (a_t_drops, .inl (ca 0, 40, .inl c_t_drops)), (a_t_level, .inl (ca 0, 6, .inl res.2.1))]) args s 0 0 A) (F0 m 0 ls []) := by
  obtain ⟨hx, hb, hr, hml, hown, hts, hlocks, hK, hA, hE⟩ := id X0
  intro H locs hP hD hS ls hl
  unfold F_X1_safeDays at h
  refine lv_aload_n hx hb dX1_safeDays_0 rfl (lv_at hl 0 rfl) ?_
  obtain ⟨u5, hc6, h⟩ := bd_o h
  refine jn_v (wr := [(a_t_gain, .inl (ca 0, 6, .inl c_t_gain)), (a_t_drops, .inl (ca 0, 40, .inl c_t_drops))]) (ws' := [(a_t, .inr (1, [.ref a_t_water, .ref a_t_gain, .ref a_t_drops, .ref a_t_level, .ref a_t_share, .ref a_t_song, .int f_t_terraces, .int u5.2])), (a_t_water, .inl (ca 0, 6, .inl c_t_water)), (a_t_gain, .inl (ca 0, 6, .inl c_t_gain)), (a_t_drops, .inl (ca 0, 40, .inl c_t_drops)), (a_t_level, .inl (ca 0, 6, .inl u5.1))]) (va_runV (As := []) (rest := []) ⟨hx, hb, hml, hown, hts⟩ (c_X1_startDays l G ca ad av H.size a_t a_t_water a_t_level a_t_gain a_t_drops a_t_share a_t_song f_t_terraces c_t_water c_t_level f_t_pool u5 hc6) (cwV 0 hts gX1_safeDays_X1_startDays rfl rfl rfl (by decide +kernel) ⟨Nat.le_of_ble_eq_true rfl, Nat.le_of_ble_eq_true rfl⟩) (pre_v (q0 := 0) (ci := 1) hK hE hA hP hD hS [0, 1, 4] rfl (by decide) rfl rfl) rfl rfl hl.1 rfl (lv_room (Nat.le_of_ble_eq_true rfl)) dX1_safeDays_1 ⟨Nat.le_of_ble_eq_true rfl, Nat.le_of_ble_eq_true rfl⟩) hA hP hD hS [0, 1, 4] [2, 3] [2, 3, 0, 1, 4] rfl rfl (by decide) (by decide) (by decide) rfl (fun H locs hP hD hS => ?_)
  refine lv_iconst (v := 0) hx hb dX1_safeDays_4 (by decide) ?_
  refine lv_istore_n (lv' := [(1, .int (0 : Int32)), (0, .ref a_t)]) hx hb dX1_safeDays_5 rfl hl (by decide) rfl (fun ls hl => ?_)
  exact w_X1_safeDays_6 X0 a_t a_t_water a_t_gain a_t_drops a_t_level a_t_share a_t_song  c_t_water c_t_gain c_t_drops f_t_terraces _ FU_ u5.1 u5.2 (0 : Int32) h H locs hP hD hS ls (lv_sub hl [1, 0] rfl)
set_option maxHeartbeats 4000000 in
set_option maxRecDepth 100000 in
theorem c_X1_safeDays (l : Launch) (G : va_G) (ca : Nat → ClassId) (ad av : Nat → Nat) (sz : Nat) (a_t : Nat) (a_t_water : Nat) (a_t_gain : Nat) (a_t_drops : Nat) (a_t_level : Nat) (a_t_share : Nat) (a_t_song : Nat)  (c_t_water : Nat → Int32) (c_t_gain : Nat → Int32) (c_t_drops : Nat → Int32) (f_t_terraces : Int32) (c_t_level : Nat → Int32) (f_t_pool : Int32) (res : Int32 × (Nat → Int32) × Int32) (h : F_X1_safeDays c_t_water c_t_gain c_t_drops f_t_terraces c_t_level f_t_pool = some res) : Met l yX1_safeDays wsX1_safeDays RM_X1_safeDays (va_Pc [.ref a_t] (PW_ G ca ad av sz [(a_t, .inr (1, [.ref a_t_water, .ref a_t_gain, .ref a_t_drops, .ref a_t_level, .ref a_t_share, .ref a_t_song, .int f_t_terraces, .int f_t_pool])), (a_t_water, .inl (ca 0, 6, .inl c_t_water)), (a_t_gain, .inl (ca 0, 6, .inl c_t_gain)), (a_t_drops, .inl (ca 0, 40, .inl c_t_drops)), (a_t_level, .inl (ca 0, 6, .inl c_t_level))])) (QI_ G (va_A [(a_t, .inr (1, [.ref a_t_water, .ref a_t_gain, .ref a_t_drops, .ref a_t_level, .ref a_t_share, .ref a_t_song, .int f_t_terraces, .int f_t_pool])), (a_t_water, .inl (ca 0, 6, .inl c_t_water)), (a_t_gain, .inl (ca 0, 6, .inl c_t_gain)), (a_t_drops, .inl (ca 0, 40, .inl c_t_drops)), (a_t_level, .inl (ca 0, 6, .inl c_t_level))] sz) res.1 [(a_t, .inr (1, [.ref a_t_water, .ref a_t_gain, .ref a_t_drops, .ref a_t_level, .ref a_t_share, .ref a_t_song, .int f_t_terraces, .int res.2.2])), (a_t_water, .inl (ca 0, 6, .inl c_t_water)), (a_t_gain, .inl (ca 0, 6, .inl c_t_gain)), (a_t_drops, .inl (ca 0, 40, .inl c_t_drops)), (a_t_level, .inl (ca 0, 6, .inl res.2.1))]) 0 0 (va_A [(a_t, .inr (1, [.ref a_t_water, .ref a_t_gain, .ref a_t_drops, .ref a_t_level, .ref a_t_share, .ref a_t_song, .int f_t_terraces, .int f_t_pool])), (a_t_water, .inl (ca 0, 6, .inl c_t_water)), (a_t_gain, .inl (ca 0, 6, .inl c_t_gain)), (a_t_drops, .inl (ca 0, 40, .inl c_t_drops)), (a_t_level, .inl (ca 0, 6, .inl c_t_level))] sz) := by
  refine Met.ofW (cc := cX1_safeDays) (maxL := 2) (ret := (some .int)) (by decide) rfl ?_
  intro p e s m args below meth c s₁ B hml hv
  obtain ⟨X0, rfl, rfl, hP, hD⟩ := en_t B hml hv
  have hl := lv_entry ([.ref a_t]) (n := 2) (Nat.le_of_ble_eq_true rfl)
  rw [lg_entry_eq]
  generalize (lg_sl ([.ref a_t]) ++ List.replicate (2 - (lg_sl ([.ref a_t])).length) Slot.unset).toArray = ls at hl ⊢
  exact w_X1_safeDays_0 X0 a_t a_t_water a_t_gain a_t_drops a_t_level a_t_share a_t_song  c_t_water c_t_gain c_t_drops f_t_terraces _ c_t_level f_t_pool h s.heap [] hP hD va_S.rf ls hl

/-! X1_leastLack -/
abbrev RM_X1_leastLack : Room := { frames := 3, cells := 0, slots := 0, locals := 80 }
def F_X1_leastLack_8 (c_t_water : Nat → Int32) (c_t_gain : Nat → Int32) (c_t_drops : Nat → Int32) (f_t_terraces : Int32) : Nat → (Nat → Int32) → Int32 → Int32 → Int32 → Int32 → Option (Int32 × (Nat → Int32) × Int32)
  | 0, _, _, _, _, _ => none
  | n + 1, c_t_level, f_t_pool, y1, y2, y3 => if y1 ≤ y3 then (some (y2, c_t_level, f_t_pool)) else (if (40 : Int32) ≤ y3 then (some (y2, c_t_level, f_t_pool)) else ((F_X1_lackOfDay c_t_gain c_t_drops f_t_terraces c_t_level f_t_pool y3).bind (fun u3 => F_X1_leastLack_8 c_t_water c_t_gain c_t_drops f_t_terraces n u3.2.1 u3.2.2 y1 (y2 + u3.1) (y3 + (1 : Int32)))))
set_option maxHeartbeats 4000000 in
set_option maxRecDepth 100000 in
theorem w_X1_leastLack_8 {p : Program} {l : Launch} {e : Env} {s : State} {m : MethodId} {args : Array Value} {below : List Frame} {meth : Method} {c : Code} {G : va_G} {ca : Nat → ClassId} {ad av : Nat → Nat} {A : Nat → Prop} (X0 : CX_ p s m args meth c cX1_leastLack 4 (some .int) wsX1_leastLack RX1 G ca ad av A) (a_t : Nat) (a_t_water : Nat) (a_t_gain : Nat) (a_t_drops : Nat) (a_t_level : Nat) (a_t_share : Nat) (a_t_song : Nat)  (c_t_water : Nat → Int32) (c_t_gain : Nat → Int32) (c_t_drops : Nat → Int32) (f_t_terraces : Int32) (res : Int32 × (Nat → Int32) × Int32) : ∀ (n : Nat) (c_t_level : Nat → Int32) (f_t_pool : Int32) (y1 : Int32) (y2 : Int32) (y3 : Int32), F_X1_leastLack_8 c_t_water c_t_gain c_t_drops f_t_terraces n c_t_level f_t_pool y1 y2 y3 = some res → ∀ (H : Heap) (locs : List Loc), va_P G vwCl [(a_t, .inr (1, [.ref a_t_water, .ref a_t_gain, .ref a_t_drops, .ref a_t_level, .ref a_t_share, .ref a_t_song, .int f_t_terraces, .int f_t_pool])), (a_t_water, .inl (ca 0, 6, .inl c_t_water)), (a_t_gain, .inl (ca 0, 6, .inl c_t_gain)), (a_t_drops, .inl (ca 0, 40, .inl c_t_drops)), (a_t_level, .inl (ca 0, 6, .inl c_t_level))] H → va_D A [(a_t, .inr (1, [.ref a_t_water, .ref a_t_gain, .ref a_t_drops, .ref a_t_level, .ref a_t_share, .ref a_t_song, .int f_t_terraces, .int f_t_pool])), (a_t_water, .inl (ca 0, 6, .inl c_t_water)), (a_t_gain, .inl (ca 0, 6, .inl c_t_gain)), (a_t_drops, .inl (ca 0, 40, .inl c_t_drops)), (a_t_level, .inl (ca 0, 6, .inl c_t_level))] → va_S A s.heap H locs → ∀ (ls : Array Slot), lv_has ls 4 [(0, .ref a_t), (1, .int y1), (2, .int y2), (3, .int y3)] → W p l e RM_X1_leastLack s m args below meth c H locs 0 0 (MQ below (QI_ G A res.1 [(a_t, .inr (1, [.ref a_t_water, .ref a_t_gain, .ref a_t_drops, .ref a_t_level, .ref a_t_share, .ref a_t_song, .int f_t_terraces, .int res.2.2])), (a_t_water, .inl (ca 0, 6, .inl c_t_water)), (a_t_gain, .inl (ca 0, 6, .inl c_t_gain)), (a_t_drops, .inl (ca 0, 40, .inl c_t_drops)), (a_t_level, .inl (ca 0, 6, .inl res.2.1))]) args s 0 0 A) (F0 m 8 ls []) := by
  obtain ⟨hx, hb, hr, hml, hown, hts, hlocks, hK, hA, hE⟩ := id X0
  intro n
  induction n with
  | zero => intro c_t_level f_t_pool y1 y2 y3 h; cases h
  | succ n ih =>
    intro c_t_level f_t_pool y1 y2 y3 h H locs hP hD hS ls hl
    rw [F_X1_leastLack_8] at h
    refine lv_iload_n hx hb dX1_leastLack_8 rfl (lv_at hl 3 rfl) ?_
    refine lv_iload_n hx hb dX1_leastLack_9 rfl (lv_at hl 1 rfl) ?_
    refine lv_icmp_ge (tgt := 33) hx hb dX1_leastLack_10 (by decide) (fun b1 => ?_) (fun b1 => ?_)
    · have h := (if_pos b1).symm.trans h
      refine lv_iload_n hx hb dX1_leastLack_33 rfl (lv_at hl 2 rfl) ?_
      have h := sm_i h
      subst h
      exact W.iret (v := y2) hx hb hr (fun t ht hW => ⟨⟨y2, (), rfl, rfl, by rw [ht]; exact hP, hD⟩, hS.F ht⟩) hS.2.2 dX1_leastLack_34
    · have h := (if_neg b1).symm.trans h
      refine lv_iload_n hx hb dX1_leastLack_13 rfl (lv_at hl 3 rfl) ?_
      refine lv_bipush (v := 40) hx hb dX1_leastLack_14 (by decide) ?_
      refine lv_icmp_ge (tgt := 33) hx hb dX1_leastLack_16 (by decide) (fun b2 => ?_) (fun b2 => ?_)
      · have h := (if_pos b2).symm.trans h
        refine lv_iload_n hx hb dX1_leastLack_33 rfl (lv_at hl 2 rfl) ?_
        have h := sm_i h
        subst h
        exact W.iret (v := y2) hx hb hr (fun t ht hW => ⟨⟨y2, (), rfl, rfl, by rw [ht]; exact hP, hD⟩, hS.F ht⟩) hS.2.2 dX1_leastLack_34
      · have h := (if_neg b2).symm.trans h
        refine lv_iload_n hx hb dX1_leastLack_19 rfl (lv_at hl 2 rfl) ?_
        refine lv_aload_n hx hb dX1_leastLack_20 rfl (lv_at hl 0 rfl) ?_
        refine lv_iload_n hx hb dX1_leastLack_21 rfl (lv_at hl 3 rfl) ?_
        obtain ⟨u3, hc4, h⟩ := bd_o h
        refine jn_i (wr := [(a_t_water, .inl (ca 0, 6, .inl c_t_water))]) (ws' := [(a_t, .inr (1, [.ref a_t_water, .ref a_t_gain, .ref a_t_drops, .ref a_t_level, .ref a_t_share, .ref a_t_song, .int f_t_terraces, .int u3.2.2])), (a_t_water, .inl (ca 0, 6, .inl c_t_water)), (a_t_gain, .inl (ca 0, 6, .inl c_t_gain)), (a_t_drops, .inl (ca 0, 40, .inl c_t_drops)), (a_t_level, .inl (ca 0, 6, .inl u3.2.1))]) (va_runV (As := [.int y3]) (rest := [.int y2]) ⟨hx, hb, hml, hown, hts⟩ (c_X1_lackOfDay l G ca ad av H.size a_t a_t_gain a_t_drops a_t_level a_t_water a_t_share a_t_song c_t_gain c_t_drops f_t_terraces c_t_level f_t_pool y3 u3 hc4) (cwV 1 hts gX1_leastLack_X1_lackOfDay rfl rfl rfl (by decide +kernel) ⟨Nat.le_of_ble_eq_true rfl, Nat.le_of_ble_eq_true rfl⟩) (pre_v (q0 := 0) (ci := 1) hK hE hA hP hD hS [0, 2, 3, 4] rfl (by decide) rfl rfl) rfl rfl hl.1 rfl (lv_room (Nat.le_of_ble_eq_true rfl)) dX1_leastLack_22 ⟨Nat.le_of_ble_eq_true rfl, Nat.le_of_ble_eq_true rfl⟩) hA hP hD hS [0, 2, 3, 4] [1] [1, 0, 2, 3, 4] rfl rfl (by decide) (by decide) (by decide) rfl (fun H locs hP hD hS => ?_)
        refine lv_iadd hx hb dX1_leastLack_25 ?_
        refine lv_istore_n (lv' := [(2, .int (y2 + u3.1)), (0, .ref a_t), (1, .int y1), (3, .int y3)]) hx hb dX1_leastLack_26 rfl hl (by decide) rfl (fun ls hl => ?_)
        refine lv_iinc (v := (y3 + (1 : Int32))) (lv' := [(3, .int (y3 + (1 : Int32))), (2, .int (y2 + u3.1)), (0, .ref a_t), (1, .int y1)]) hx hb dX1_leastLack_27 hl (k := 3) rfl rfl (by decide) rfl (fun ls hl => ?_)
        refine lv_goto (tgt := 8) hx hb dX1_leastLack_30 (by decide) ?_
        exact ih u3.2.1 u3.2.2 y1 (y2 + u3.1) (y3 + (1 : Int32)) h H locs hP hD hS ls (lv_sub hl [2, 3, 1, 0] rfl)
def F_X1_leastLack (c_t_water : Nat → Int32) (c_t_gain : Nat → Int32) (c_t_drops : Nat → Int32) (f_t_terraces : Int32) (c_t_level : Nat → Int32) (f_t_pool : Int32) (x1 : Int32) : Option (Int32 × (Nat → Int32) × Int32) := (F_X1_startDays c_t_water c_t_level f_t_pool).bind (fun u5 => F_X1_leastLack_8 c_t_water c_t_gain c_t_drops f_t_terraces FU_ u5.1 u5.2 x1 (0 : Int32) (0 : Int32))
set_option maxHeartbeats 4000000 in
set_option maxRecDepth 100000 in
theorem w_X1_leastLack_0 {p : Program} {l : Launch} {e : Env} {s : State} {m : MethodId} {args : Array Value} {below : List Frame} {meth : Method} {c : Code} {G : va_G} {ca : Nat → ClassId} {ad av : Nat → Nat} {A : Nat → Prop} (X0 : CX_ p s m args meth c cX1_leastLack 4 (some .int) wsX1_leastLack RX1 G ca ad av A) (a_t : Nat) (a_t_water : Nat) (a_t_gain : Nat) (a_t_drops : Nat) (a_t_level : Nat) (a_t_share : Nat) (a_t_song : Nat)  (c_t_water : Nat → Int32) (c_t_gain : Nat → Int32) (c_t_drops : Nat → Int32) (f_t_terraces : Int32) (res : Int32 × (Nat → Int32) × Int32) (c_t_level : Nat → Int32) (f_t_pool : Int32) (x1 : Int32) (h : F_X1_leastLack c_t_water c_t_gain c_t_drops f_t_terraces c_t_level f_t_pool x1 = some res) : ∀ (H : Heap) (locs : List Loc), va_P G vwCl [(a_t, .inr (1, [.ref a_t_water, .ref a_t_gain, .ref a_t_drops, .ref a_t_level, .ref a_t_share, .ref a_t_song, .int f_t_terraces, .int f_t_pool])), (a_t_water, .inl (ca 0, 6, .inl c_t_water)), (a_t_gain, .inl (ca 0, 6, .inl c_t_gain)), (a_t_drops, .inl (ca 0, 40, .inl c_t_drops)), (a_t_level, .inl (ca 0, 6, .inl c_t_level))] H → va_D A [(a_t, .inr (1, [.ref a_t_water, .ref a_t_gain, .ref a_t_drops, .ref a_t_level, .ref a_t_share, .ref a_t_song, .int f_t_terraces, .int f_t_pool])), (a_t_water, .inl (ca 0, 6, .inl c_t_water)), (a_t_gain, .inl (ca 0, 6, .inl c_t_gain)), (a_t_drops, .inl (ca 0, 40, .inl c_t_drops)), (a_t_level, .inl (ca 0, 6, .inl c_t_level))] → va_S A s.heap H locs → ∀ (ls : Array Slot), lv_has ls 4 [(0, .ref a_t), (1, .int x1)] → W p l e RM_X1_leastLack s m args below meth c H locs 0 0 (MQ below (QI_ G A res.1 [(a_t, .inr (1, [.ref a_t_water, .ref a_t_gain, .ref a_t_drops, .ref a_t_level, .ref a_t_share, .ref a_t_song, .int f_t_terraces, .int res.2.2])), (a_t_water, .inl (ca 0, 6, .inl c_t_water)), (a_t_gain, .inl (ca 0, 6, .inl c_t_gain)), (a_t_drops, .inl (ca 0, 40, .inl c_t_drops)), (a_t_level, .inl (ca 0, 6, .inl res.2.1))]) args s 0 0 A) (F0 m 0 ls []) := by
  obtain ⟨hx, hb, hr, hml, hown, hts, hlocks, hK, hA, hE⟩ := id X0
  intro H locs hP hD hS ls hl
  unfold F_X1_leastLack at h
  refine lv_aload_n hx hb dX1_leastLack_0 rfl (lv_at hl 0 rfl) ?_
  obtain ⟨u5, hc6, h⟩ := bd_o h
  refine jn_v (wr := [(a_t_gain, .inl (ca 0, 6, .inl c_t_gain)), (a_t_drops, .inl (ca 0, 40, .inl c_t_drops))]) (ws' := [(a_t, .inr (1, [.ref a_t_water, .ref a_t_gain, .ref a_t_drops, .ref a_t_level, .ref a_t_share, .ref a_t_song, .int f_t_terraces, .int u5.2])), (a_t_water, .inl (ca 0, 6, .inl c_t_water)), (a_t_gain, .inl (ca 0, 6, .inl c_t_gain)), (a_t_drops, .inl (ca 0, 40, .inl c_t_drops)), (a_t_level, .inl (ca 0, 6, .inl u5.1))]) (va_runV (As := []) (rest := []) ⟨hx, hb, hml, hown, hts⟩ (c_X1_startDays l G ca ad av H.size a_t a_t_water a_t_level a_t_gain a_t_drops a_t_share a_t_song f_t_terraces c_t_water c_t_level f_t_pool u5 hc6) (cwV 0 hts gX1_leastLack_X1_startDays rfl rfl rfl (by decide +kernel) ⟨Nat.le_of_ble_eq_true rfl, Nat.le_of_ble_eq_true rfl⟩) (pre_v (q0 := 0) (ci := 1) hK hE hA hP hD hS [0, 1, 4] rfl (by decide) rfl rfl) rfl rfl hl.1 rfl (lv_room (Nat.le_of_ble_eq_true rfl)) dX1_leastLack_1 ⟨Nat.le_of_ble_eq_true rfl, Nat.le_of_ble_eq_true rfl⟩) hA hP hD hS [0, 1, 4] [2, 3] [2, 3, 0, 1, 4] rfl rfl (by decide) (by decide) (by decide) rfl (fun H locs hP hD hS => ?_)
  refine lv_iconst (v := 0) hx hb dX1_leastLack_4 (by decide) ?_
  refine lv_istore_n (lv' := [(2, .int (0 : Int32)), (0, .ref a_t), (1, .int x1)]) hx hb dX1_leastLack_5 rfl hl (by decide) rfl (fun ls hl => ?_)
  refine lv_iconst (v := 0) hx hb dX1_leastLack_6 (by decide) ?_
  refine lv_istore_n (lv' := [(3, .int (0 : Int32)), (2, .int (0 : Int32)), (0, .ref a_t), (1, .int x1)]) hx hb dX1_leastLack_7 rfl hl (by decide) rfl (fun ls hl => ?_)
  exact w_X1_leastLack_8 X0 a_t a_t_water a_t_gain a_t_drops a_t_level a_t_share a_t_song  c_t_water c_t_gain c_t_drops f_t_terraces _ FU_ u5.1 u5.2 x1 (0 : Int32) (0 : Int32) h H locs hP hD hS ls (lv_sub hl [2, 3, 1, 0] rfl)
set_option maxHeartbeats 4000000 in
set_option maxRecDepth 100000 in
theorem c_X1_leastLack (l : Launch) (G : va_G) (ca : Nat → ClassId) (ad av : Nat → Nat) (sz : Nat) (a_t : Nat) (a_t_water : Nat) (a_t_gain : Nat) (a_t_drops : Nat) (a_t_level : Nat) (a_t_share : Nat) (a_t_song : Nat)  (c_t_water : Nat → Int32) (c_t_gain : Nat → Int32) (c_t_drops : Nat → Int32) (f_t_terraces : Int32) (c_t_level : Nat → Int32) (f_t_pool : Int32) (x1 : Int32) (res : Int32 × (Nat → Int32) × Int32) (h : F_X1_leastLack c_t_water c_t_gain c_t_drops f_t_terraces c_t_level f_t_pool x1 = some res) : Met l yX1_leastLack wsX1_leastLack RM_X1_leastLack (va_Pc [.ref a_t, .int x1] (PW_ G ca ad av sz [(a_t, .inr (1, [.ref a_t_water, .ref a_t_gain, .ref a_t_drops, .ref a_t_level, .ref a_t_share, .ref a_t_song, .int f_t_terraces, .int f_t_pool])), (a_t_water, .inl (ca 0, 6, .inl c_t_water)), (a_t_gain, .inl (ca 0, 6, .inl c_t_gain)), (a_t_drops, .inl (ca 0, 40, .inl c_t_drops)), (a_t_level, .inl (ca 0, 6, .inl c_t_level))])) (QI_ G (va_A [(a_t, .inr (1, [.ref a_t_water, .ref a_t_gain, .ref a_t_drops, .ref a_t_level, .ref a_t_share, .ref a_t_song, .int f_t_terraces, .int f_t_pool])), (a_t_water, .inl (ca 0, 6, .inl c_t_water)), (a_t_gain, .inl (ca 0, 6, .inl c_t_gain)), (a_t_drops, .inl (ca 0, 40, .inl c_t_drops)), (a_t_level, .inl (ca 0, 6, .inl c_t_level))] sz) res.1 [(a_t, .inr (1, [.ref a_t_water, .ref a_t_gain, .ref a_t_drops, .ref a_t_level, .ref a_t_share, .ref a_t_song, .int f_t_terraces, .int res.2.2])), (a_t_water, .inl (ca 0, 6, .inl c_t_water)), (a_t_gain, .inl (ca 0, 6, .inl c_t_gain)), (a_t_drops, .inl (ca 0, 40, .inl c_t_drops)), (a_t_level, .inl (ca 0, 6, .inl res.2.1))]) 0 0 (va_A [(a_t, .inr (1, [.ref a_t_water, .ref a_t_gain, .ref a_t_drops, .ref a_t_level, .ref a_t_share, .ref a_t_song, .int f_t_terraces, .int f_t_pool])), (a_t_water, .inl (ca 0, 6, .inl c_t_water)), (a_t_gain, .inl (ca 0, 6, .inl c_t_gain)), (a_t_drops, .inl (ca 0, 40, .inl c_t_drops)), (a_t_level, .inl (ca 0, 6, .inl c_t_level))] sz) := by
  refine Met.ofW (cc := cX1_leastLack) (maxL := 4) (ret := (some .int)) (by decide) rfl ?_
  intro p e s m args below meth c s₁ B hml hv
  obtain ⟨X0, rfl, rfl, hP, hD⟩ := en_t B hml hv
  have hl := lv_entry ([.ref a_t, .int x1]) (n := 4) (Nat.le_of_ble_eq_true rfl)
  rw [lg_entry_eq]
  generalize (lg_sl ([.ref a_t, .int x1]) ++ List.replicate (4 - (lg_sl ([.ref a_t, .int x1])).length) Slot.unset).toArray = ls at hl ⊢
  exact w_X1_leastLack_0 X0 a_t a_t_water a_t_gain a_t_drops a_t_level a_t_share a_t_song  c_t_water c_t_gain c_t_drops f_t_terraces _ c_t_level f_t_pool x1 h s.heap [] hP hD va_S.rf ls hl

/-! X1_costOf -/
abbrev RM_X1_costOf : Room := { frames := 1, cells := 0, slots := 0, locals := 24 }
theorem k_X1_costOf_0 : Cond.fieldLink RX1 9 "DropDealers$Foresight" "water" "[I" ∈ wsX1_costOf := by decide +kernel
theorem i_X1_costOf_X1 : ∀ w ∈ u_ws RX1 TX1 8, w ∈ wsX1_costOf := by decide +kernel
theorem k_X1_costOf_2 : Cond.fieldLink RX1 15 "DropDealers$Foresight" "gain" "[I" ∈ wsX1_costOf := by decide +kernel
theorem k_X1_costOf_3 : Cond.methodLink RX1 81 Lib.Math.max.name ∈ wsX1_costOf := by decide +kernel
theorem k_X1_costOf_4 : Cond.static Lib.Math.max.name ∈ wsX1_costOf := by decide +kernel
theorem k_X1_costOf_5 : Cond.initialized "java/lang/Math" ∈ wsX1_costOf := by decide +kernel
theorem k_X1_costOf_6 : Cond.code Lib.Math.max.name Lib.Math.max.code 2 (some .int) ∈ wsX1_costOf := by decide +kernel
def F_X1_costOf (c_t_water : Nat → Int32) (c_t_gain : Nat → Int32) (x1 : Int32) (x2 : Int32) : Option (Int32) := if ok_I x1 6 = true then some ((if (0 : Int32) < ((x2 - (c_t_water x1.toNatClampNeg)) - (c_t_gain x1.toNatClampNeg)) then ((x2 - (c_t_water x1.toNatClampNeg)) - (c_t_gain x1.toNatClampNeg)) else (0 : Int32))) else none
set_option maxHeartbeats 4000000 in
set_option maxRecDepth 100000 in
theorem w_X1_costOf_0 {p : Program} {l : Launch} {e : Env} {s : State} {m : MethodId} {args : Array Value} {below : List Frame} {meth : Method} {c : Code} {G : va_G} {ca : Nat → ClassId} {ad av : Nat → Nat} {A : Nat → Prop} (X0 : CX_ p s m args meth c cX1_costOf 3 (some .int) wsX1_costOf RX1 G ca ad av A) (a_t : Nat) (a_t_water : Nat) (a_t_gain : Nat) (a_t_drops : Nat) (a_t_level : Nat) (a_t_share : Nat) (a_t_song : Nat) (f_t_terraces : Int32) (f_t_pool : Int32) (c_t_water : Nat → Int32) (c_t_gain : Nat → Int32) (res : Int32) (x1 : Int32) (x2 : Int32) (h : F_X1_costOf c_t_water c_t_gain x1 x2 = some res) : ∀ (H : Heap) (locs : List Loc), va_P G vwCl [(a_t, .inr (1, [.ref a_t_water, .ref a_t_gain, .ref a_t_drops, .ref a_t_level, .ref a_t_share, .ref a_t_song, .int f_t_terraces, .int f_t_pool])), (a_t_water, .inl (ca 0, 6, .inl c_t_water)), (a_t_gain, .inl (ca 0, 6, .inl c_t_gain))] H → va_D A [(a_t, .inr (1, [.ref a_t_water, .ref a_t_gain, .ref a_t_drops, .ref a_t_level, .ref a_t_share, .ref a_t_song, .int f_t_terraces, .int f_t_pool])), (a_t_water, .inl (ca 0, 6, .inl c_t_water)), (a_t_gain, .inl (ca 0, 6, .inl c_t_gain))] → va_S A s.heap H locs → ∀ (ls : Array Slot), lv_has ls 3 [(0, .ref a_t), (1, .int x1), (2, .int x2)] → W p l e RM_X1_costOf s m args below meth c H locs 0 0 (MQ below (QI_ G A res [(a_t, .inr (1, [.ref a_t_water, .ref a_t_gain, .ref a_t_drops, .ref a_t_level, .ref a_t_share, .ref a_t_song, .int f_t_terraces, .int f_t_pool])), (a_t_water, .inl (ca 0, 6, .inl c_t_water)), (a_t_gain, .inl (ca 0, 6, .inl c_t_gain))]) args s 0 0 A) (F0 m 0 ls []) := by
  obtain ⟨hx, hb, hr, hml, hown, hts, hlocks, hK, hA, hE⟩ := id X0
  intro H locs hP hD hS ls hl
  unfold F_X1_costOf at h
  refine lv_iconst (v := 0) hx hb dX1_costOf_0 (by decide) ?_
  refine lv_iload_n hx hb dX1_costOf_1 rfl (lv_at hl 2 rfl) ?_
  refine lv_aload_n hx hb dX1_costOf_2 rfl (lv_at hl 0 rfl) ?_
  refine va_get (D := G) (ci := 1) (v := .ref a_t_water) (C := RX1) (T := TX1) (N := 8) hx hb hts i_X1_costOf_X1 hown hK hP 0 rfl rfl 0 (by decide) (hts _ k_X1_costOf_0) (fun _ h9 => h9) rfl dX1_costOf_3 ?_
  refine lv_iload_n hx hb dX1_costOf_6 rfl (lv_at hl 1 rfl) ?_
  obtain ⟨g1, h⟩ := gd_t h
  refine va_iald hx hb hK hP 1 0 rfl rfl (ok_in g1) dX1_costOf_7 ?_
  refine lv_isub hx hb dX1_costOf_8 ?_
  refine lv_aload_n hx hb dX1_costOf_9 rfl (lv_at hl 0 rfl) ?_
  refine va_get (D := G) (ci := 1) (v := .ref a_t_gain) (C := RX1) (T := TX1) (N := 8) hx hb hts i_X1_costOf_X1 hown hK hP 0 rfl rfl 1 (by decide) (hts _ k_X1_costOf_2) (fun _ h9 => h9) rfl dX1_costOf_10 ?_
  refine lv_iload_n hx hb dX1_costOf_13 rfl (lv_at hl 1 rfl) ?_
  refine va_iald hx hb hK hP 2 0 rfl rfl (ok_in g1) dX1_costOf_14 ?_
  refine lv_isub hx hb dX1_costOf_15 ?_
  refine va_mmax hx hb (hml.trans hl.1.symm) hown (hts _ k_X1_costOf_3) (hts _ k_X1_costOf_4) (hts _ k_X1_costOf_5) (hts _ k_X1_costOf_6) (Nat.le_of_ble_eq_true rfl) (Nat.le_of_ble_eq_true rfl) (Nat.zero_le _) (Nat.zero_le _) dX1_costOf_16 ?_
  have h := sm_i h
  subst h
  exact W.iret (v := (if (0 : Int32) < ((x2 - (c_t_water x1.toNatClampNeg)) - (c_t_gain x1.toNatClampNeg)) then ((x2 - (c_t_water x1.toNatClampNeg)) - (c_t_gain x1.toNatClampNeg)) else (0 : Int32))) hx hb hr (fun t ht hW => ⟨⟨(if (0 : Int32) < ((x2 - (c_t_water x1.toNatClampNeg)) - (c_t_gain x1.toNatClampNeg)) then ((x2 - (c_t_water x1.toNatClampNeg)) - (c_t_gain x1.toNatClampNeg)) else (0 : Int32)), (), rfl, rfl, by rw [ht]; exact hP, hD⟩, hS.F ht⟩) hS.2.2 dX1_costOf_19
set_option maxHeartbeats 4000000 in
set_option maxRecDepth 100000 in
theorem c_X1_costOf (l : Launch) (G : va_G) (ca : Nat → ClassId) (ad av : Nat → Nat) (sz : Nat) (a_t : Nat) (a_t_water : Nat) (a_t_gain : Nat) (a_t_drops : Nat) (a_t_level : Nat) (a_t_share : Nat) (a_t_song : Nat) (f_t_terraces : Int32) (f_t_pool : Int32) (c_t_water : Nat → Int32) (c_t_gain : Nat → Int32) (x1 : Int32) (x2 : Int32) (res : Int32) (h : F_X1_costOf c_t_water c_t_gain x1 x2 = some res) : Met l yX1_costOf wsX1_costOf RM_X1_costOf (va_Pc [.ref a_t, .int x1, .int x2] (PW_ G ca ad av sz [(a_t, .inr (1, [.ref a_t_water, .ref a_t_gain, .ref a_t_drops, .ref a_t_level, .ref a_t_share, .ref a_t_song, .int f_t_terraces, .int f_t_pool])), (a_t_water, .inl (ca 0, 6, .inl c_t_water)), (a_t_gain, .inl (ca 0, 6, .inl c_t_gain))])) (QI_ G (va_A [(a_t, .inr (1, [.ref a_t_water, .ref a_t_gain, .ref a_t_drops, .ref a_t_level, .ref a_t_share, .ref a_t_song, .int f_t_terraces, .int f_t_pool])), (a_t_water, .inl (ca 0, 6, .inl c_t_water)), (a_t_gain, .inl (ca 0, 6, .inl c_t_gain))] sz) res [(a_t, .inr (1, [.ref a_t_water, .ref a_t_gain, .ref a_t_drops, .ref a_t_level, .ref a_t_share, .ref a_t_song, .int f_t_terraces, .int f_t_pool])), (a_t_water, .inl (ca 0, 6, .inl c_t_water)), (a_t_gain, .inl (ca 0, 6, .inl c_t_gain))]) 0 0 (va_A [(a_t, .inr (1, [.ref a_t_water, .ref a_t_gain, .ref a_t_drops, .ref a_t_level, .ref a_t_share, .ref a_t_song, .int f_t_terraces, .int f_t_pool])), (a_t_water, .inl (ca 0, 6, .inl c_t_water)), (a_t_gain, .inl (ca 0, 6, .inl c_t_gain))] sz) := by
  refine Met.ofW (cc := cX1_costOf) (maxL := 3) (ret := (some .int)) (by decide) rfl ?_
  intro p e s m args below meth c s₁ B hml hv
  obtain ⟨X0, rfl, rfl, hP, hD⟩ := en_t B hml hv
  have hl := lv_entry ([.ref a_t, .int x1, .int x2]) (n := 3) (Nat.le_of_ble_eq_true rfl)
  rw [lg_entry_eq]
  generalize (lg_sl ([.ref a_t, .int x1, .int x2]) ++ List.replicate (3 - (lg_sl ([.ref a_t, .int x1, .int x2])).length) Slot.unset).toArray = ls at hl ⊢
  exact w_X1_costOf_0 X0 a_t a_t_water a_t_gain a_t_drops a_t_level a_t_share a_t_song f_t_terraces f_t_pool c_t_water c_t_gain _ x1 x2 h s.heap [] hP hD va_S.rf ls hl

/-! X1_costOfAll -/
abbrev RM_X1_costOfAll : Room := { frames := 2, cells := 0, slots := 0, locals := 46 }
theorem k_X1_costOfAll_0 : Cond.fieldLink RX1 36 "DropDealers$Foresight" "terraces" "I" ∈ wsX1_costOfAll := by decide +kernel
theorem i_X1_costOfAll_X1 : ∀ w ∈ u_ws RX1 TX1 8, w ∈ wsX1_costOfAll := by decide +kernel
def F_X1_costOfAll_4 (c_t_water : Nat → Int32) (c_t_gain : Nat → Int32) (f_t_terraces : Int32) : Nat → Int32 → Int32 → Int32 → Option (Int32)
  | 0, _, _, _ => none
  | n + 1, y1, y2, y3 => if f_t_terraces ≤ y3 then (some (y2)) else ((F_X1_costOf c_t_water c_t_gain y3 y1).bind (fun u2 => F_X1_costOfAll_4 c_t_water c_t_gain f_t_terraces n y1 (y2 + u2) (y3 + (1 : Int32))))
set_option maxHeartbeats 4000000 in
set_option maxRecDepth 100000 in
theorem w_X1_costOfAll_4 {p : Program} {l : Launch} {e : Env} {s : State} {m : MethodId} {args : Array Value} {below : List Frame} {meth : Method} {c : Code} {G : va_G} {ca : Nat → ClassId} {ad av : Nat → Nat} {A : Nat → Prop} (X0 : CX_ p s m args meth c cX1_costOfAll 4 (some .int) wsX1_costOfAll RX1 G ca ad av A) (a_t : Nat) (a_t_water : Nat) (a_t_gain : Nat) (a_t_drops : Nat) (a_t_level : Nat) (a_t_share : Nat) (a_t_song : Nat) (f_t_pool : Int32) (c_t_water : Nat → Int32) (c_t_gain : Nat → Int32) (f_t_terraces : Int32) (res : Int32) : ∀ (n : Nat) (y1 : Int32) (y2 : Int32) (y3 : Int32), F_X1_costOfAll_4 c_t_water c_t_gain f_t_terraces n y1 y2 y3 = some res → ∀ (H : Heap) (locs : List Loc), va_P G vwCl [(a_t, .inr (1, [.ref a_t_water, .ref a_t_gain, .ref a_t_drops, .ref a_t_level, .ref a_t_share, .ref a_t_song, .int f_t_terraces, .int f_t_pool])), (a_t_water, .inl (ca 0, 6, .inl c_t_water)), (a_t_gain, .inl (ca 0, 6, .inl c_t_gain))] H → va_D A [(a_t, .inr (1, [.ref a_t_water, .ref a_t_gain, .ref a_t_drops, .ref a_t_level, .ref a_t_share, .ref a_t_song, .int f_t_terraces, .int f_t_pool])), (a_t_water, .inl (ca 0, 6, .inl c_t_water)), (a_t_gain, .inl (ca 0, 6, .inl c_t_gain))] → va_S A s.heap H locs → ∀ (ls : Array Slot), lv_has ls 4 [(0, .ref a_t), (1, .int y1), (2, .int y2), (3, .int y3)] → W p l e RM_X1_costOfAll s m args below meth c H locs 0 0 (MQ below (QI_ G A res [(a_t, .inr (1, [.ref a_t_water, .ref a_t_gain, .ref a_t_drops, .ref a_t_level, .ref a_t_share, .ref a_t_song, .int f_t_terraces, .int f_t_pool])), (a_t_water, .inl (ca 0, 6, .inl c_t_water)), (a_t_gain, .inl (ca 0, 6, .inl c_t_gain))]) args s 0 0 A) (F0 m 4 ls []) := by
  obtain ⟨hx, hb, hr, hml, hown, hts, hlocks, hK, hA, hE⟩ := id X0
  intro n
  induction n with
  | zero => intro y1 y2 y3 h; cases h
  | succ n ih =>
    intro y1 y2 y3 h H locs hP hD hS ls hl
    rw [F_X1_costOfAll_4] at h
    refine lv_iload_n hx hb dX1_costOfAll_4 rfl (lv_at hl 3 rfl) ?_
    refine lv_aload_n hx hb dX1_costOfAll_5 rfl (lv_at hl 0 rfl) ?_
    refine va_get (D := G) (ci := 1) (v := .int f_t_terraces) (C := RX1) (T := TX1) (N := 8) hx hb hts i_X1_costOfAll_X1 hown hK hP 0 rfl rfl 6 (by decide) (hts _ k_X1_costOfAll_0) (fun _ h9 => h9) rfl dX1_costOfAll_6 ?_
    refine lv_icmp_ge (tgt := 27) hx hb dX1_costOfAll_9 (by decide) (fun b1 => ?_) (fun b1 => ?_)
    · have h := (if_pos b1).symm.trans h
      refine lv_iload_n hx hb dX1_costOfAll_27 rfl (lv_at hl 2 rfl) ?_
      have h := sm_i h
      subst h
      exact W.iret (v := y2) hx hb hr (fun t ht hW => ⟨⟨y2, (), rfl, rfl, by rw [ht]; exact hP, hD⟩, hS.F ht⟩) hS.2.2 dX1_costOfAll_28
    · have h := (if_neg b1).symm.trans h
      refine lv_iload_n hx hb dX1_costOfAll_12 rfl (lv_at hl 2 rfl) ?_
      refine lv_aload_n hx hb dX1_costOfAll_13 rfl (lv_at hl 0 rfl) ?_
      refine lv_iload_n hx hb dX1_costOfAll_14 rfl (lv_at hl 3 rfl) ?_
      refine lv_iload_n hx hb dX1_costOfAll_15 rfl (lv_at hl 1 rfl) ?_
      obtain ⟨u2, hc3, h⟩ := bd_o h
      refine jn_i (wr := []) (ws' := [(a_t, .inr (1, [.ref a_t_water, .ref a_t_gain, .ref a_t_drops, .ref a_t_level, .ref a_t_share, .ref a_t_song, .int f_t_terraces, .int f_t_pool])), (a_t_water, .inl (ca 0, 6, .inl c_t_water)), (a_t_gain, .inl (ca 0, 6, .inl c_t_gain))]) (va_runV (As := [.int y3, .int y1]) (rest := [.int y2]) ⟨hx, hb, hml, hown, hts⟩ (c_X1_costOf l G ca ad av H.size a_t a_t_water a_t_gain a_t_drops a_t_level a_t_share a_t_song f_t_terraces f_t_pool c_t_water c_t_gain y3 y1 u2 hc3) (cwV 2 hts gX1_costOfAll_X1_costOf rfl rfl rfl (by decide +kernel) ⟨Nat.le_of_ble_eq_true rfl, Nat.le_of_ble_eq_true rfl⟩) (pre_v (q0 := 0) (ci := 1) hK hE hA hP hD hS [0, 1, 2] rfl (by decide) rfl rfl) rfl rfl hl.1 rfl (lv_room (Nat.le_of_ble_eq_true rfl)) dX1_costOfAll_16 ⟨Nat.le_of_ble_eq_true rfl, Nat.le_of_ble_eq_true rfl⟩) hA hP hD hS [0, 1, 2] [] [0, 1, 2] rfl rfl (by decide) (by decide) (by decide) rfl (fun H locs hP hD hS => ?_)
      refine lv_iadd hx hb dX1_costOfAll_19 ?_
      refine lv_istore_n (lv' := [(2, .int (y2 + u2)), (0, .ref a_t), (1, .int y1), (3, .int y3)]) hx hb dX1_costOfAll_20 rfl hl (by decide) rfl (fun ls hl => ?_)
      refine lv_iinc (v := (y3 + (1 : Int32))) (lv' := [(3, .int (y3 + (1 : Int32))), (2, .int (y2 + u2)), (0, .ref a_t), (1, .int y1)]) hx hb dX1_costOfAll_21 hl (k := 3) rfl rfl (by decide) rfl (fun ls hl => ?_)
      refine lv_goto (tgt := 4) hx hb dX1_costOfAll_24 (by decide) ?_
      exact ih y1 (y2 + u2) (y3 + (1 : Int32)) h H locs hP hD hS ls (lv_sub hl [2, 3, 1, 0] rfl)
def F_X1_costOfAll (c_t_water : Nat → Int32) (c_t_gain : Nat → Int32) (f_t_terraces : Int32) (x1 : Int32) : Option (Int32) := F_X1_costOfAll_4 c_t_water c_t_gain f_t_terraces FU_ x1 (0 : Int32) (0 : Int32)
set_option maxHeartbeats 4000000 in
set_option maxRecDepth 100000 in
theorem w_X1_costOfAll_0 {p : Program} {l : Launch} {e : Env} {s : State} {m : MethodId} {args : Array Value} {below : List Frame} {meth : Method} {c : Code} {G : va_G} {ca : Nat → ClassId} {ad av : Nat → Nat} {A : Nat → Prop} (X0 : CX_ p s m args meth c cX1_costOfAll 4 (some .int) wsX1_costOfAll RX1 G ca ad av A) (a_t : Nat) (a_t_water : Nat) (a_t_gain : Nat) (a_t_drops : Nat) (a_t_level : Nat) (a_t_share : Nat) (a_t_song : Nat) (f_t_pool : Int32) (c_t_water : Nat → Int32) (c_t_gain : Nat → Int32) (f_t_terraces : Int32) (res : Int32) (x1 : Int32) (h : F_X1_costOfAll c_t_water c_t_gain f_t_terraces x1 = some res) : ∀ (H : Heap) (locs : List Loc), va_P G vwCl [(a_t, .inr (1, [.ref a_t_water, .ref a_t_gain, .ref a_t_drops, .ref a_t_level, .ref a_t_share, .ref a_t_song, .int f_t_terraces, .int f_t_pool])), (a_t_water, .inl (ca 0, 6, .inl c_t_water)), (a_t_gain, .inl (ca 0, 6, .inl c_t_gain))] H → va_D A [(a_t, .inr (1, [.ref a_t_water, .ref a_t_gain, .ref a_t_drops, .ref a_t_level, .ref a_t_share, .ref a_t_song, .int f_t_terraces, .int f_t_pool])), (a_t_water, .inl (ca 0, 6, .inl c_t_water)), (a_t_gain, .inl (ca 0, 6, .inl c_t_gain))] → va_S A s.heap H locs → ∀ (ls : Array Slot), lv_has ls 4 [(0, .ref a_t), (1, .int x1)] → W p l e RM_X1_costOfAll s m args below meth c H locs 0 0 (MQ below (QI_ G A res [(a_t, .inr (1, [.ref a_t_water, .ref a_t_gain, .ref a_t_drops, .ref a_t_level, .ref a_t_share, .ref a_t_song, .int f_t_terraces, .int f_t_pool])), (a_t_water, .inl (ca 0, 6, .inl c_t_water)), (a_t_gain, .inl (ca 0, 6, .inl c_t_gain))]) args s 0 0 A) (F0 m 0 ls []) := by
  obtain ⟨hx, hb, hr, hml, hown, hts, hlocks, hK, hA, hE⟩ := id X0
  intro H locs hP hD hS ls hl
  unfold F_X1_costOfAll at h
  refine lv_iconst (v := 0) hx hb dX1_costOfAll_0 (by decide) ?_
  refine lv_istore_n (lv' := [(2, .int (0 : Int32)), (0, .ref a_t), (1, .int x1)]) hx hb dX1_costOfAll_1 rfl hl (by decide) rfl (fun ls hl => ?_)
  refine lv_iconst (v := 0) hx hb dX1_costOfAll_2 (by decide) ?_
  refine lv_istore_n (lv' := [(3, .int (0 : Int32)), (2, .int (0 : Int32)), (0, .ref a_t), (1, .int x1)]) hx hb dX1_costOfAll_3 rfl hl (by decide) rfl (fun ls hl => ?_)
  exact w_X1_costOfAll_4 X0 a_t a_t_water a_t_gain a_t_drops a_t_level a_t_share a_t_song f_t_pool c_t_water c_t_gain f_t_terraces _ FU_ x1 (0 : Int32) (0 : Int32) h H locs hP hD hS ls (lv_sub hl [2, 3, 1, 0] rfl)
set_option maxHeartbeats 4000000 in
set_option maxRecDepth 100000 in
theorem c_X1_costOfAll (l : Launch) (G : va_G) (ca : Nat → ClassId) (ad av : Nat → Nat) (sz : Nat) (a_t : Nat) (a_t_water : Nat) (a_t_gain : Nat) (a_t_drops : Nat) (a_t_level : Nat) (a_t_share : Nat) (a_t_song : Nat) (f_t_pool : Int32) (c_t_water : Nat → Int32) (c_t_gain : Nat → Int32) (f_t_terraces : Int32) (x1 : Int32) (res : Int32) (h : F_X1_costOfAll c_t_water c_t_gain f_t_terraces x1 = some res) : Met l yX1_costOfAll wsX1_costOfAll RM_X1_costOfAll (va_Pc [.ref a_t, .int x1] (PW_ G ca ad av sz [(a_t, .inr (1, [.ref a_t_water, .ref a_t_gain, .ref a_t_drops, .ref a_t_level, .ref a_t_share, .ref a_t_song, .int f_t_terraces, .int f_t_pool])), (a_t_water, .inl (ca 0, 6, .inl c_t_water)), (a_t_gain, .inl (ca 0, 6, .inl c_t_gain))])) (QI_ G (va_A [(a_t, .inr (1, [.ref a_t_water, .ref a_t_gain, .ref a_t_drops, .ref a_t_level, .ref a_t_share, .ref a_t_song, .int f_t_terraces, .int f_t_pool])), (a_t_water, .inl (ca 0, 6, .inl c_t_water)), (a_t_gain, .inl (ca 0, 6, .inl c_t_gain))] sz) res [(a_t, .inr (1, [.ref a_t_water, .ref a_t_gain, .ref a_t_drops, .ref a_t_level, .ref a_t_share, .ref a_t_song, .int f_t_terraces, .int f_t_pool])), (a_t_water, .inl (ca 0, 6, .inl c_t_water)), (a_t_gain, .inl (ca 0, 6, .inl c_t_gain))]) 0 0 (va_A [(a_t, .inr (1, [.ref a_t_water, .ref a_t_gain, .ref a_t_drops, .ref a_t_level, .ref a_t_share, .ref a_t_song, .int f_t_terraces, .int f_t_pool])), (a_t_water, .inl (ca 0, 6, .inl c_t_water)), (a_t_gain, .inl (ca 0, 6, .inl c_t_gain))] sz) := by
  refine Met.ofW (cc := cX1_costOfAll) (maxL := 4) (ret := (some .int)) (by decide) rfl ?_
  intro p e s m args below meth c s₁ B hml hv
  obtain ⟨X0, rfl, rfl, hP, hD⟩ := en_t B hml hv
  have hl := lv_entry ([.ref a_t, .int x1]) (n := 4) (Nat.le_of_ble_eq_true rfl)
  rw [lg_entry_eq]
  generalize (lg_sl ([.ref a_t, .int x1]) ++ List.replicate (4 - (lg_sl ([.ref a_t, .int x1])).length) Slot.unset).toArray = ls at hl ⊢
  exact w_X1_costOfAll_0 X0 a_t a_t_water a_t_gain a_t_drops a_t_level a_t_share a_t_song f_t_pool c_t_water c_t_gain f_t_terraces _ x1 h s.heap [] hP hD va_S.rf ls hl

/-! X1_shareTooFew -/
abbrev RM_X1_shareTooFew : Room := { frames := 2, cells := 0, slots := 0, locals := 46 }
theorem k_X1_shareTooFew_0 : Cond.fieldLink RX1 24 "DropDealers$Foresight" "share" "[I" ∈ wsX1_shareTooFew := by decide +kernel
theorem i_X1_shareTooFew_X1 : ∀ w ∈ u_ws RX1 TX1 8, w ∈ wsX1_shareTooFew := by decide +kernel
theorem k_X1_shareTooFew_2 : Cond.methodLink RX1 75 Lib.Math.min.name ∈ wsX1_shareTooFew := by decide +kernel
theorem k_X1_shareTooFew_3 : Cond.static Lib.Math.min.name ∈ wsX1_shareTooFew := by decide +kernel
theorem k_X1_shareTooFew_4 : Cond.initialized "java/lang/Math" ∈ wsX1_shareTooFew := by decide +kernel
theorem k_X1_shareTooFew_5 : Cond.code Lib.Math.min.name Lib.Math.min.code 2 (some .int) ∈ wsX1_shareTooFew := by decide +kernel
theorem k_X1_shareTooFew_6 : Cond.fieldLink RX1 18 "DropDealers$Foresight" "drops" "[I" ∈ wsX1_shareTooFew := by decide +kernel
theorem k_X1_shareTooFew_7 : Cond.fieldLink RX1 36 "DropDealers$Foresight" "terraces" "I" ∈ wsX1_shareTooFew := by decide +kernel
def F_X1_shareTooFew_14 (c_t_water : Nat → Int32) (c_t_gain : Nat → Int32) (c_t_drops : Nat → Int32) (f_t_terraces : Int32) : Nat → (Nat → Int32) → Int32 → Int32 → Option ((Nat → Int32))
  | 0, _, _, _ => none
  | n + 1, c_t_share, y1, y2 => if y2 < 0 then (some (c_t_share)) else ((F_X1_costOf c_t_water c_t_gain y2 (0 : Int32)).bind (fun u2 => if ok_I y2 6 = true then F_X1_shareTooFew_14 c_t_water c_t_gain c_t_drops f_t_terraces n (upd c_t_share y2.toNatClampNeg (if u2 < y1 then u2 else y1)) (y1 - ((upd c_t_share y2.toNatClampNeg (if u2 < y1 then u2 else y1)) y2.toNatClampNeg)) (y2 + (-1 : Int32)) else none))
set_option maxHeartbeats 4000000 in
set_option maxRecDepth 100000 in
theorem w_X1_shareTooFew_14 {p : Program} {l : Launch} {e : Env} {s : State} {m : MethodId} {args : Array Value} {below : List Frame} {meth : Method} {c : Code} {G : va_G} {ca : Nat → ClassId} {ad av : Nat → Nat} {A : Nat → Prop} (X0 : CX_ p s m args meth c cX1_shareTooFew 3 none wsX1_shareTooFew RX1 G ca ad av A) (a_t : Nat) (a_t_water : Nat) (a_t_gain : Nat) (a_t_drops : Nat) (a_t_share : Nat) (a_t_level : Nat) (a_t_song : Nat) (f_t_pool : Int32) (c_t_water : Nat → Int32) (c_t_gain : Nat → Int32) (c_t_drops : Nat → Int32) (f_t_terraces : Int32) (res : (Nat → Int32)) : ∀ (n : Nat) (c_t_share : Nat → Int32) (y1 : Int32) (y2 : Int32), F_X1_shareTooFew_14 c_t_water c_t_gain c_t_drops f_t_terraces n c_t_share y1 y2 = some res → ∀ (H : Heap) (locs : List Loc), va_P G vwCl [(a_t, .inr (1, [.ref a_t_water, .ref a_t_gain, .ref a_t_drops, .ref a_t_level, .ref a_t_share, .ref a_t_song, .int f_t_terraces, .int f_t_pool])), (a_t_water, .inl (ca 0, 6, .inl c_t_water)), (a_t_gain, .inl (ca 0, 6, .inl c_t_gain)), (a_t_drops, .inl (ca 0, 40, .inl c_t_drops)), (a_t_share, .inl (ca 0, 6, .inl c_t_share))] H → va_D A [(a_t, .inr (1, [.ref a_t_water, .ref a_t_gain, .ref a_t_drops, .ref a_t_level, .ref a_t_share, .ref a_t_song, .int f_t_terraces, .int f_t_pool])), (a_t_water, .inl (ca 0, 6, .inl c_t_water)), (a_t_gain, .inl (ca 0, 6, .inl c_t_gain)), (a_t_drops, .inl (ca 0, 40, .inl c_t_drops)), (a_t_share, .inl (ca 0, 6, .inl c_t_share))] → va_S A s.heap H locs → ∀ (ls : Array Slot), lv_has ls 3 [(0, .ref a_t), (1, .int y1), (2, .int y2)] → W p l e RM_X1_shareTooFew s m args below meth c H locs 0 0 (MQ below (QV_ G A [(a_t, .inr (1, [.ref a_t_water, .ref a_t_gain, .ref a_t_drops, .ref a_t_level, .ref a_t_share, .ref a_t_song, .int f_t_terraces, .int f_t_pool])), (a_t_water, .inl (ca 0, 6, .inl c_t_water)), (a_t_gain, .inl (ca 0, 6, .inl c_t_gain)), (a_t_drops, .inl (ca 0, 40, .inl c_t_drops)), (a_t_share, .inl (ca 0, 6, .inl res))]) args s 0 0 A) (F0 m 14 ls []) := by
  obtain ⟨hx, hb, hr, hml, hown, hts, hlocks, hK, hA, hE⟩ := id X0
  intro n
  induction n with
  | zero => intro c_t_share y1 y2 h; cases h
  | succ n ih =>
    intro c_t_share y1 y2 h H locs hP hD hS ls hl
    rw [F_X1_shareTooFew_14] at h
    refine lv_iload_n hx hb dX1_shareTooFew_14 rfl (lv_at hl 2 rfl) ?_
    refine lv_if_lt (tgt := 49) hx hb dX1_shareTooFew_15 (by decide) (fun b1 => ?_) (fun b1 => ?_)
    · have h := (if_pos b1).symm.trans h
      have h := sm_i h
      subst h
      exact W.vret hx hb hr (fun t ht hW => ⟨⟨(), rfl, trivial, by rw [ht]; exact hP, hD⟩, hS.F ht⟩) hS.2.2 dX1_shareTooFew_49
    · have h := (if_neg b1).symm.trans h
      refine lv_aload_n hx hb dX1_shareTooFew_18 rfl (lv_at hl 0 rfl) ?_
      refine va_get (D := G) (ci := 1) (v := .ref a_t_share) (C := RX1) (T := TX1) (N := 8) hx hb hts i_X1_shareTooFew_X1 hown hK hP 0 rfl rfl 4 (by decide) (hts _ k_X1_shareTooFew_0) (fun _ h9 => h9) rfl dX1_shareTooFew_19 ?_
      refine lv_iload_n hx hb dX1_shareTooFew_22 rfl (lv_at hl 2 rfl) ?_
      refine lv_iload_n hx hb dX1_shareTooFew_23 rfl (lv_at hl 1 rfl) ?_
      refine lv_aload_n hx hb dX1_shareTooFew_24 rfl (lv_at hl 0 rfl) ?_
      refine lv_iload_n hx hb dX1_shareTooFew_25 rfl (lv_at hl 2 rfl) ?_
      refine lv_iconst (v := 0) hx hb dX1_shareTooFew_26 (by decide) ?_
      obtain ⟨u2, hc3, h⟩ := bd_o h
      refine jn_i (wr := [(a_t_drops, .inl (ca 0, 40, .inl c_t_drops)), (a_t_share, .inl (ca 0, 6, .inl c_t_share))]) (ws' := [(a_t, .inr (1, [.ref a_t_water, .ref a_t_gain, .ref a_t_drops, .ref a_t_level, .ref a_t_share, .ref a_t_song, .int f_t_terraces, .int f_t_pool])), (a_t_water, .inl (ca 0, 6, .inl c_t_water)), (a_t_gain, .inl (ca 0, 6, .inl c_t_gain)), (a_t_drops, .inl (ca 0, 40, .inl c_t_drops)), (a_t_share, .inl (ca 0, 6, .inl c_t_share))]) (va_runV (As := [.int y2, .int (0 : Int32)]) (rest := [.int y1, .int y2, .ref a_t_share]) ⟨hx, hb, hml, hown, hts⟩ (c_X1_costOf l G ca ad av H.size a_t a_t_water a_t_gain a_t_drops a_t_level a_t_share a_t_song f_t_terraces f_t_pool c_t_water c_t_gain y2 (0 : Int32) u2 hc3) (cwV 2 hts gX1_shareTooFew_X1_costOf rfl rfl rfl (by decide +kernel) ⟨Nat.le_of_ble_eq_true rfl, Nat.le_of_ble_eq_true rfl⟩) (pre_v (q0 := 0) (ci := 1) hK hE hA hP hD hS [0, 1, 2] rfl (by decide) rfl rfl) rfl rfl hl.1 rfl (lv_room (Nat.le_of_ble_eq_true rfl)) dX1_shareTooFew_27 ⟨Nat.le_of_ble_eq_true rfl, Nat.le_of_ble_eq_true rfl⟩) hA hP hD hS [0, 1, 2] [3, 4] [2, 3, 4, 0, 1] rfl rfl (by decide) (by decide) (by decide) rfl (fun H locs hP hD hS => ?_)
      refine va_mmin hx hb (hml.trans hl.1.symm) hown (hts _ k_X1_shareTooFew_2) (hts _ k_X1_shareTooFew_3) (hts _ k_X1_shareTooFew_4) (hts _ k_X1_shareTooFew_5) (Nat.le_of_ble_eq_true rfl) (Nat.le_of_ble_eq_true rfl) (Nat.zero_le _) (Nat.zero_le _) dX1_shareTooFew_30 ?_
      obtain ⟨g4, h⟩ := gd_t h
      refine va_iast hx hb hK hP hD hS 4 0 rfl rfl (ok_in g4) dX1_shareTooFew_33 (fun H locs hP hD hS => ?_)
      have hP : va_P G vwCl [(a_t, .inr (1, [.ref a_t_water, .ref a_t_gain, .ref a_t_drops, .ref a_t_level, .ref a_t_share, .ref a_t_song, .int f_t_terraces, .int f_t_pool])), (a_t_water, .inl (ca 0, 6, .inl c_t_water)), (a_t_gain, .inl (ca 0, 6, .inl c_t_gain)), (a_t_drops, .inl (ca 0, 40, .inl c_t_drops)), (a_t_share, .inl (ca 0, 6, .inl (upd c_t_share y2.toNatClampNeg (if u2 < y1 then u2 else y1))))] H := hP
      have hD : va_D A [(a_t, .inr (1, [.ref a_t_water, .ref a_t_gain, .ref a_t_drops, .ref a_t_level, .ref a_t_share, .ref a_t_song, .int f_t_terraces, .int f_t_pool])), (a_t_water, .inl (ca 0, 6, .inl c_t_water)), (a_t_gain, .inl (ca 0, 6, .inl c_t_gain)), (a_t_drops, .inl (ca 0, 40, .inl c_t_drops)), (a_t_share, .inl (ca 0, 6, .inl (upd c_t_share y2.toNatClampNeg (if u2 < y1 then u2 else y1))))] := hD
      refine lv_iload_n hx hb dX1_shareTooFew_34 rfl (lv_at hl 1 rfl) ?_
      refine lv_aload_n hx hb dX1_shareTooFew_35 rfl (lv_at hl 0 rfl) ?_
      refine va_get (D := G) (ci := 1) (v := .ref a_t_share) (C := RX1) (T := TX1) (N := 8) hx hb hts i_X1_shareTooFew_X1 hown hK hP 0 rfl rfl 4 (by decide) (hts _ k_X1_shareTooFew_0) (fun _ h9 => h9) rfl dX1_shareTooFew_36 ?_
      refine lv_iload_n hx hb dX1_shareTooFew_39 rfl (lv_at hl 2 rfl) ?_
      refine va_iald hx hb hK hP 4 0 rfl rfl (ok_in g4) dX1_shareTooFew_40 ?_
      refine lv_isub hx hb dX1_shareTooFew_41 ?_
      refine lv_istore_n (lv' := [(1, .int (y1 - ((upd c_t_share y2.toNatClampNeg (if u2 < y1 then u2 else y1)) y2.toNatClampNeg))), (0, .ref a_t), (2, .int y2)]) hx hb dX1_shareTooFew_42 rfl hl (by decide) rfl (fun ls hl => ?_)
      refine lv_iinc (v := (y2 + (-1 : Int32))) (lv' := [(2, .int (y2 + (-1 : Int32))), (1, .int (y1 - ((upd c_t_share y2.toNatClampNeg (if u2 < y1 then u2 else y1)) y2.toNatClampNeg))), (0, .ref a_t)]) hx hb dX1_shareTooFew_43 hl (k := 2) rfl rfl (by decide) rfl (fun ls hl => ?_)
      refine lv_goto (tgt := 14) hx hb dX1_shareTooFew_46 (by decide) ?_
      exact ih (upd c_t_share y2.toNatClampNeg (if u2 < y1 then u2 else y1)) (y1 - ((upd c_t_share y2.toNatClampNeg (if u2 < y1 then u2 else y1)) y2.toNatClampNeg)) (y2 + (-1 : Int32)) h H locs hP hD hS ls (lv_sub hl [2, 1, 0] rfl)
def F_X1_shareTooFew (c_t_water : Nat → Int32) (c_t_gain : Nat → Int32) (c_t_drops : Nat → Int32) (f_t_terraces : Int32) (c_t_share : Nat → Int32) : Option ((Nat → Int32)) := if ok_I (0 : Int32) 40 = true then F_X1_shareTooFew_14 c_t_water c_t_gain c_t_drops f_t_terraces FU_ c_t_share (c_t_drops (0 : Int32).toNatClampNeg) (f_t_terraces - (1 : Int32)) else none
set_option maxHeartbeats 4000000 in
set_option maxRecDepth 100000 in
theorem w_X1_shareTooFew_0 {p : Program} {l : Launch} {e : Env} {s : State} {m : MethodId} {args : Array Value} {below : List Frame} {meth : Method} {c : Code} {G : va_G} {ca : Nat → ClassId} {ad av : Nat → Nat} {A : Nat → Prop} (X0 : CX_ p s m args meth c cX1_shareTooFew 3 none wsX1_shareTooFew RX1 G ca ad av A) (a_t : Nat) (a_t_water : Nat) (a_t_gain : Nat) (a_t_drops : Nat) (a_t_share : Nat) (a_t_level : Nat) (a_t_song : Nat) (f_t_pool : Int32) (c_t_water : Nat → Int32) (c_t_gain : Nat → Int32) (c_t_drops : Nat → Int32) (f_t_terraces : Int32) (res : (Nat → Int32)) (c_t_share : Nat → Int32) (h : F_X1_shareTooFew c_t_water c_t_gain c_t_drops f_t_terraces c_t_share = some res) : ∀ (H : Heap) (locs : List Loc), va_P G vwCl [(a_t, .inr (1, [.ref a_t_water, .ref a_t_gain, .ref a_t_drops, .ref a_t_level, .ref a_t_share, .ref a_t_song, .int f_t_terraces, .int f_t_pool])), (a_t_water, .inl (ca 0, 6, .inl c_t_water)), (a_t_gain, .inl (ca 0, 6, .inl c_t_gain)), (a_t_drops, .inl (ca 0, 40, .inl c_t_drops)), (a_t_share, .inl (ca 0, 6, .inl c_t_share))] H → va_D A [(a_t, .inr (1, [.ref a_t_water, .ref a_t_gain, .ref a_t_drops, .ref a_t_level, .ref a_t_share, .ref a_t_song, .int f_t_terraces, .int f_t_pool])), (a_t_water, .inl (ca 0, 6, .inl c_t_water)), (a_t_gain, .inl (ca 0, 6, .inl c_t_gain)), (a_t_drops, .inl (ca 0, 40, .inl c_t_drops)), (a_t_share, .inl (ca 0, 6, .inl c_t_share))] → va_S A s.heap H locs → ∀ (ls : Array Slot), lv_has ls 3 [(0, .ref a_t)] → W p l e RM_X1_shareTooFew s m args below meth c H locs 0 0 (MQ below (QV_ G A [(a_t, .inr (1, [.ref a_t_water, .ref a_t_gain, .ref a_t_drops, .ref a_t_level, .ref a_t_share, .ref a_t_song, .int f_t_terraces, .int f_t_pool])), (a_t_water, .inl (ca 0, 6, .inl c_t_water)), (a_t_gain, .inl (ca 0, 6, .inl c_t_gain)), (a_t_drops, .inl (ca 0, 40, .inl c_t_drops)), (a_t_share, .inl (ca 0, 6, .inl res))]) args s 0 0 A) (F0 m 0 ls []) := by
  obtain ⟨hx, hb, hr, hml, hown, hts, hlocks, hK, hA, hE⟩ := id X0
  intro H locs hP hD hS ls hl
  unfold F_X1_shareTooFew at h
  refine lv_aload_n hx hb dX1_shareTooFew_0 rfl (lv_at hl 0 rfl) ?_
  refine va_get (D := G) (ci := 1) (v := .ref a_t_drops) (C := RX1) (T := TX1) (N := 8) hx hb hts i_X1_shareTooFew_X1 hown hK hP 0 rfl rfl 2 (by decide) (hts _ k_X1_shareTooFew_6) (fun _ h9 => h9) rfl dX1_shareTooFew_1 ?_
  refine lv_iconst (v := 0) hx hb dX1_shareTooFew_4 (by decide) ?_
  obtain ⟨g5, h⟩ := gd_t h
  refine va_iald hx hb hK hP 3 0 rfl rfl (ok_in g5) dX1_shareTooFew_5 ?_
  refine lv_istore_n (lv' := [(1, .int (c_t_drops (0 : Int32).toNatClampNeg)), (0, .ref a_t)]) hx hb dX1_shareTooFew_6 rfl hl (by decide) rfl (fun ls hl => ?_)
  refine lv_aload_n hx hb dX1_shareTooFew_7 rfl (lv_at hl 1 rfl) ?_
  refine va_get (D := G) (ci := 1) (v := .int f_t_terraces) (C := RX1) (T := TX1) (N := 8) hx hb hts i_X1_shareTooFew_X1 hown hK hP 0 rfl rfl 6 (by decide) (hts _ k_X1_shareTooFew_7) (fun _ h9 => h9) rfl dX1_shareTooFew_8 ?_
  refine lv_iconst (v := 1) hx hb dX1_shareTooFew_11 (by decide) ?_
  refine lv_isub hx hb dX1_shareTooFew_12 ?_
  refine lv_istore_n (lv' := [(2, .int (f_t_terraces - (1 : Int32))), (1, .int (c_t_drops (0 : Int32).toNatClampNeg)), (0, .ref a_t)]) hx hb dX1_shareTooFew_13 rfl hl (by decide) rfl (fun ls hl => ?_)
  exact w_X1_shareTooFew_14 X0 a_t a_t_water a_t_gain a_t_drops a_t_share a_t_level a_t_song f_t_pool c_t_water c_t_gain c_t_drops f_t_terraces _ FU_ c_t_share (c_t_drops (0 : Int32).toNatClampNeg) (f_t_terraces - (1 : Int32)) h H locs hP hD hS ls (lv_sub hl [2, 1, 0] rfl)
set_option maxHeartbeats 4000000 in
set_option maxRecDepth 100000 in
theorem c_X1_shareTooFew (l : Launch) (G : va_G) (ca : Nat → ClassId) (ad av : Nat → Nat) (sz : Nat) (a_t : Nat) (a_t_water : Nat) (a_t_gain : Nat) (a_t_drops : Nat) (a_t_share : Nat) (a_t_level : Nat) (a_t_song : Nat) (f_t_pool : Int32) (c_t_water : Nat → Int32) (c_t_gain : Nat → Int32) (c_t_drops : Nat → Int32) (f_t_terraces : Int32) (c_t_share : Nat → Int32) (res : (Nat → Int32)) (h : F_X1_shareTooFew c_t_water c_t_gain c_t_drops f_t_terraces c_t_share = some res) : Met l yX1_shareTooFew wsX1_shareTooFew RM_X1_shareTooFew (va_Pc [.ref a_t] (PW_ G ca ad av sz [(a_t, .inr (1, [.ref a_t_water, .ref a_t_gain, .ref a_t_drops, .ref a_t_level, .ref a_t_share, .ref a_t_song, .int f_t_terraces, .int f_t_pool])), (a_t_water, .inl (ca 0, 6, .inl c_t_water)), (a_t_gain, .inl (ca 0, 6, .inl c_t_gain)), (a_t_drops, .inl (ca 0, 40, .inl c_t_drops)), (a_t_share, .inl (ca 0, 6, .inl c_t_share))])) (QV_ G (va_A [(a_t, .inr (1, [.ref a_t_water, .ref a_t_gain, .ref a_t_drops, .ref a_t_level, .ref a_t_share, .ref a_t_song, .int f_t_terraces, .int f_t_pool])), (a_t_water, .inl (ca 0, 6, .inl c_t_water)), (a_t_gain, .inl (ca 0, 6, .inl c_t_gain)), (a_t_drops, .inl (ca 0, 40, .inl c_t_drops)), (a_t_share, .inl (ca 0, 6, .inl c_t_share))] sz) [(a_t, .inr (1, [.ref a_t_water, .ref a_t_gain, .ref a_t_drops, .ref a_t_level, .ref a_t_share, .ref a_t_song, .int f_t_terraces, .int f_t_pool])), (a_t_water, .inl (ca 0, 6, .inl c_t_water)), (a_t_gain, .inl (ca 0, 6, .inl c_t_gain)), (a_t_drops, .inl (ca 0, 40, .inl c_t_drops)), (a_t_share, .inl (ca 0, 6, .inl res))]) 0 0 (va_A [(a_t, .inr (1, [.ref a_t_water, .ref a_t_gain, .ref a_t_drops, .ref a_t_level, .ref a_t_share, .ref a_t_song, .int f_t_terraces, .int f_t_pool])), (a_t_water, .inl (ca 0, 6, .inl c_t_water)), (a_t_gain, .inl (ca 0, 6, .inl c_t_gain)), (a_t_drops, .inl (ca 0, 40, .inl c_t_drops)), (a_t_share, .inl (ca 0, 6, .inl c_t_share))] sz) := by
  refine Met.ofW (cc := cX1_shareTooFew) (maxL := 3) (ret := none) (by decide) rfl ?_
  intro p e s m args below meth c s₁ B hml hv
  obtain ⟨X0, rfl, rfl, hP, hD⟩ := en_t B hml hv
  have hl := lv_entry ([.ref a_t]) (n := 3) (Nat.le_of_ble_eq_true rfl)
  rw [lg_entry_eq]
  generalize (lg_sl ([.ref a_t]) ++ List.replicate (3 - (lg_sl ([.ref a_t])).length) Slot.unset).toArray = ls at hl ⊢
  exact w_X1_shareTooFew_0 X0 a_t a_t_water a_t_gain a_t_drops a_t_share a_t_level a_t_song f_t_pool c_t_water c_t_gain c_t_drops f_t_terraces _ c_t_share h s.heap [] hP hD va_S.rf ls hl

/-! X1_leastAfterDay -/
abbrev RM_X1_leastAfterDay : Room := { frames := 1, cells := 0, slots := 0, locals := 24 }
theorem k_X1_leastAfterDay_0 : Cond.fieldLink RX1 36 "DropDealers$Foresight" "terraces" "I" ∈ wsX1_leastAfterDay := by decide +kernel
theorem i_X1_leastAfterDay_X1 : ∀ w ∈ u_ws RX1 TX1 8, w ∈ wsX1_leastAfterDay := by decide +kernel
theorem k_X1_leastAfterDay_2 : Cond.fieldLink RX1 9 "DropDealers$Foresight" "water" "[I" ∈ wsX1_leastAfterDay := by decide +kernel
theorem k_X1_leastAfterDay_3 : Cond.fieldLink RX1 15 "DropDealers$Foresight" "gain" "[I" ∈ wsX1_leastAfterDay := by decide +kernel
theorem k_X1_leastAfterDay_4 : Cond.methodLink RX1 81 Lib.Math.max.name ∈ wsX1_leastAfterDay := by decide +kernel
theorem k_X1_leastAfterDay_5 : Cond.static Lib.Math.max.name ∈ wsX1_leastAfterDay := by decide +kernel
theorem k_X1_leastAfterDay_6 : Cond.initialized "java/lang/Math" ∈ wsX1_leastAfterDay := by decide +kernel
theorem k_X1_leastAfterDay_7 : Cond.code Lib.Math.max.name Lib.Math.max.code 2 (some .int) ∈ wsX1_leastAfterDay := by decide +kernel
theorem k_X1_leastAfterDay_8 : Cond.methodLink RX1 75 Lib.Math.min.name ∈ wsX1_leastAfterDay := by decide +kernel
theorem k_X1_leastAfterDay_9 : Cond.static Lib.Math.min.name ∈ wsX1_leastAfterDay := by decide +kernel
theorem k_X1_leastAfterDay_10 : Cond.code Lib.Math.min.name Lib.Math.min.code 2 (some .int) ∈ wsX1_leastAfterDay := by decide +kernel
theorem k_X1_leastAfterDay_11 : Cond.constant RX1 102 (1000000) ∈ wsX1_leastAfterDay := by decide +kernel
def F_X1_leastAfterDay_5 (c_t_water : Nat → Int32) (c_t_gain : Nat → Int32) (f_t_terraces : Int32) : Nat → Int32 → Int32 → Option (Int32)
  | 0, _, _ => none
  | n + 1, y1, y2 => if f_t_terraces ≤ y2 then (some (y1)) else (if ok_I y2 6 = true then F_X1_leastAfterDay_5 c_t_water c_t_gain f_t_terraces n (if (if (0 : Int32) < ((c_t_water y2.toNatClampNeg) + (c_t_gain y2.toNatClampNeg)) then ((c_t_water y2.toNatClampNeg) + (c_t_gain y2.toNatClampNeg)) else (0 : Int32)) < y1 then (if (0 : Int32) < ((c_t_water y2.toNatClampNeg) + (c_t_gain y2.toNatClampNeg)) then ((c_t_water y2.toNatClampNeg) + (c_t_gain y2.toNatClampNeg)) else (0 : Int32)) else y1) (y2 + (1 : Int32)) else none)
set_option maxHeartbeats 4000000 in
set_option maxRecDepth 100000 in
theorem w_X1_leastAfterDay_5 {p : Program} {l : Launch} {e : Env} {s : State} {m : MethodId} {args : Array Value} {below : List Frame} {meth : Method} {c : Code} {G : va_G} {ca : Nat → ClassId} {ad av : Nat → Nat} {A : Nat → Prop} (X0 : CX_ p s m args meth c cX1_leastAfterDay 3 (some .int) wsX1_leastAfterDay RX1 G ca ad av A) (a_t : Nat) (a_t_water : Nat) (a_t_gain : Nat) (a_t_drops : Nat) (a_t_level : Nat) (a_t_share : Nat) (a_t_song : Nat) (f_t_pool : Int32) (c_t_water : Nat → Int32) (c_t_gain : Nat → Int32) (f_t_terraces : Int32) (res : Int32) : ∀ (n : Nat) (y1 : Int32) (y2 : Int32), F_X1_leastAfterDay_5 c_t_water c_t_gain f_t_terraces n y1 y2 = some res → ∀ (H : Heap) (locs : List Loc), va_P G vwCl [(a_t, .inr (1, [.ref a_t_water, .ref a_t_gain, .ref a_t_drops, .ref a_t_level, .ref a_t_share, .ref a_t_song, .int f_t_terraces, .int f_t_pool])), (a_t_water, .inl (ca 0, 6, .inl c_t_water)), (a_t_gain, .inl (ca 0, 6, .inl c_t_gain))] H → va_D A [(a_t, .inr (1, [.ref a_t_water, .ref a_t_gain, .ref a_t_drops, .ref a_t_level, .ref a_t_share, .ref a_t_song, .int f_t_terraces, .int f_t_pool])), (a_t_water, .inl (ca 0, 6, .inl c_t_water)), (a_t_gain, .inl (ca 0, 6, .inl c_t_gain))] → va_S A s.heap H locs → ∀ (ls : Array Slot), lv_has ls 3 [(0, .ref a_t), (1, .int y1), (2, .int y2)] → W p l e RM_X1_leastAfterDay s m args below meth c H locs 0 0 (MQ below (QI_ G A res [(a_t, .inr (1, [.ref a_t_water, .ref a_t_gain, .ref a_t_drops, .ref a_t_level, .ref a_t_share, .ref a_t_song, .int f_t_terraces, .int f_t_pool])), (a_t_water, .inl (ca 0, 6, .inl c_t_water)), (a_t_gain, .inl (ca 0, 6, .inl c_t_gain))]) args s 0 0 A) (F0 m 5 ls []) := by
  obtain ⟨hx, hb, hr, hml, hown, hts, hlocks, hK, hA, hE⟩ := id X0
  intro n
  induction n with
  | zero => intro y1 y2 h; cases h
  | succ n ih =>
    intro y1 y2 h H locs hP hD hS ls hl
    rw [F_X1_leastAfterDay_5] at h
    refine lv_iload_n hx hb dX1_leastAfterDay_5 rfl (lv_at hl 2 rfl) ?_
    refine lv_aload_n hx hb dX1_leastAfterDay_6 rfl (lv_at hl 0 rfl) ?_
    refine va_get (D := G) (ci := 1) (v := .int f_t_terraces) (C := RX1) (T := TX1) (N := 8) hx hb hts i_X1_leastAfterDay_X1 hown hK hP 0 rfl rfl 6 (by decide) (hts _ k_X1_leastAfterDay_0) (fun _ h9 => h9) rfl dX1_leastAfterDay_7 ?_
    refine lv_icmp_ge (tgt := 41) hx hb dX1_leastAfterDay_10 (by decide) (fun b1 => ?_) (fun b1 => ?_)
    · have h := (if_pos b1).symm.trans h
      refine lv_iload_n hx hb dX1_leastAfterDay_41 rfl (lv_at hl 1 rfl) ?_
      have h := sm_i h
      subst h
      exact W.iret (v := y1) hx hb hr (fun t ht hW => ⟨⟨y1, (), rfl, rfl, by rw [ht]; exact hP, hD⟩, hS.F ht⟩) hS.2.2 dX1_leastAfterDay_42
    · have h := (if_neg b1).symm.trans h
      refine lv_iload_n hx hb dX1_leastAfterDay_13 rfl (lv_at hl 1 rfl) ?_
      refine lv_iconst (v := 0) hx hb dX1_leastAfterDay_14 (by decide) ?_
      refine lv_aload_n hx hb dX1_leastAfterDay_15 rfl (lv_at hl 0 rfl) ?_
      refine va_get (D := G) (ci := 1) (v := .ref a_t_water) (C := RX1) (T := TX1) (N := 8) hx hb hts i_X1_leastAfterDay_X1 hown hK hP 0 rfl rfl 0 (by decide) (hts _ k_X1_leastAfterDay_2) (fun _ h9 => h9) rfl dX1_leastAfterDay_16 ?_
      refine lv_iload_n hx hb dX1_leastAfterDay_19 rfl (lv_at hl 2 rfl) ?_
      obtain ⟨g2, h⟩ := gd_t h
      refine va_iald hx hb hK hP 1 0 rfl rfl (ok_in g2) dX1_leastAfterDay_20 ?_
      refine lv_aload_n hx hb dX1_leastAfterDay_21 rfl (lv_at hl 0 rfl) ?_
      refine va_get (D := G) (ci := 1) (v := .ref a_t_gain) (C := RX1) (T := TX1) (N := 8) hx hb hts i_X1_leastAfterDay_X1 hown hK hP 0 rfl rfl 1 (by decide) (hts _ k_X1_leastAfterDay_3) (fun _ h9 => h9) rfl dX1_leastAfterDay_22 ?_
      refine lv_iload_n hx hb dX1_leastAfterDay_25 rfl (lv_at hl 2 rfl) ?_
      refine va_iald hx hb hK hP 2 0 rfl rfl (ok_in g2) dX1_leastAfterDay_26 ?_
      refine lv_iadd hx hb dX1_leastAfterDay_27 ?_
      refine va_mmax hx hb (hml.trans hl.1.symm) hown (hts _ k_X1_leastAfterDay_4) (hts _ k_X1_leastAfterDay_5) (hts _ k_X1_leastAfterDay_6) (hts _ k_X1_leastAfterDay_7) (Nat.le_of_ble_eq_true rfl) (Nat.le_of_ble_eq_true rfl) (Nat.zero_le _) (Nat.zero_le _) dX1_leastAfterDay_28 ?_
      refine va_mmin hx hb (hml.trans hl.1.symm) hown (hts _ k_X1_leastAfterDay_8) (hts _ k_X1_leastAfterDay_9) (hts _ k_X1_leastAfterDay_6) (hts _ k_X1_leastAfterDay_10) (Nat.le_of_ble_eq_true rfl) (Nat.le_of_ble_eq_true rfl) (Nat.zero_le _) (Nat.zero_le _) dX1_leastAfterDay_31 ?_
      refine lv_istore_n (lv' := [(1, .int (if (if (0 : Int32) < ((c_t_water y2.toNatClampNeg) + (c_t_gain y2.toNatClampNeg)) then ((c_t_water y2.toNatClampNeg) + (c_t_gain y2.toNatClampNeg)) else (0 : Int32)) < y1 then (if (0 : Int32) < ((c_t_water y2.toNatClampNeg) + (c_t_gain y2.toNatClampNeg)) then ((c_t_water y2.toNatClampNeg) + (c_t_gain y2.toNatClampNeg)) else (0 : Int32)) else y1)), (0, .ref a_t), (2, .int y2)]) hx hb dX1_leastAfterDay_34 rfl hl (by decide) rfl (fun ls hl => ?_)
      refine lv_iinc (v := (y2 + (1 : Int32))) (lv' := [(2, .int (y2 + (1 : Int32))), (1, .int (if (if (0 : Int32) < ((c_t_water y2.toNatClampNeg) + (c_t_gain y2.toNatClampNeg)) then ((c_t_water y2.toNatClampNeg) + (c_t_gain y2.toNatClampNeg)) else (0 : Int32)) < y1 then (if (0 : Int32) < ((c_t_water y2.toNatClampNeg) + (c_t_gain y2.toNatClampNeg)) then ((c_t_water y2.toNatClampNeg) + (c_t_gain y2.toNatClampNeg)) else (0 : Int32)) else y1)), (0, .ref a_t)]) hx hb dX1_leastAfterDay_35 hl (k := 2) rfl rfl (by decide) rfl (fun ls hl => ?_)
      refine lv_goto (tgt := 5) hx hb dX1_leastAfterDay_38 (by decide) ?_
      exact ih (if (if (0 : Int32) < ((c_t_water y2.toNatClampNeg) + (c_t_gain y2.toNatClampNeg)) then ((c_t_water y2.toNatClampNeg) + (c_t_gain y2.toNatClampNeg)) else (0 : Int32)) < y1 then (if (0 : Int32) < ((c_t_water y2.toNatClampNeg) + (c_t_gain y2.toNatClampNeg)) then ((c_t_water y2.toNatClampNeg) + (c_t_gain y2.toNatClampNeg)) else (0 : Int32)) else y1) (y2 + (1 : Int32)) h H locs hP hD hS ls (lv_sub hl [2, 1, 0] rfl)
def F_X1_leastAfterDay (c_t_water : Nat → Int32) (c_t_gain : Nat → Int32) (f_t_terraces : Int32)  : Option (Int32) := F_X1_leastAfterDay_5 c_t_water c_t_gain f_t_terraces FU_ (1000000 : Int32) (0 : Int32)
set_option maxHeartbeats 4000000 in
set_option maxRecDepth 100000 in
theorem w_X1_leastAfterDay_0 {p : Program} {l : Launch} {e : Env} {s : State} {m : MethodId} {args : Array Value} {below : List Frame} {meth : Method} {c : Code} {G : va_G} {ca : Nat → ClassId} {ad av : Nat → Nat} {A : Nat → Prop} (X0 : CX_ p s m args meth c cX1_leastAfterDay 3 (some .int) wsX1_leastAfterDay RX1 G ca ad av A) (a_t : Nat) (a_t_water : Nat) (a_t_gain : Nat) (a_t_drops : Nat) (a_t_level : Nat) (a_t_share : Nat) (a_t_song : Nat) (f_t_pool : Int32) (c_t_water : Nat → Int32) (c_t_gain : Nat → Int32) (f_t_terraces : Int32) (res : Int32)  (h : F_X1_leastAfterDay c_t_water c_t_gain f_t_terraces  = some res) : ∀ (H : Heap) (locs : List Loc), va_P G vwCl [(a_t, .inr (1, [.ref a_t_water, .ref a_t_gain, .ref a_t_drops, .ref a_t_level, .ref a_t_share, .ref a_t_song, .int f_t_terraces, .int f_t_pool])), (a_t_water, .inl (ca 0, 6, .inl c_t_water)), (a_t_gain, .inl (ca 0, 6, .inl c_t_gain))] H → va_D A [(a_t, .inr (1, [.ref a_t_water, .ref a_t_gain, .ref a_t_drops, .ref a_t_level, .ref a_t_share, .ref a_t_song, .int f_t_terraces, .int f_t_pool])), (a_t_water, .inl (ca 0, 6, .inl c_t_water)), (a_t_gain, .inl (ca 0, 6, .inl c_t_gain))] → va_S A s.heap H locs → ∀ (ls : Array Slot), lv_has ls 3 [(0, .ref a_t)] → W p l e RM_X1_leastAfterDay s m args below meth c H locs 0 0 (MQ below (QI_ G A res [(a_t, .inr (1, [.ref a_t_water, .ref a_t_gain, .ref a_t_drops, .ref a_t_level, .ref a_t_share, .ref a_t_song, .int f_t_terraces, .int f_t_pool])), (a_t_water, .inl (ca 0, 6, .inl c_t_water)), (a_t_gain, .inl (ca 0, 6, .inl c_t_gain))]) args s 0 0 A) (F0 m 0 ls []) := by
  obtain ⟨hx, hb, hr, hml, hown, hts, hlocks, hK, hA, hE⟩ := id X0
  intro H locs hP hD hS ls hl
  unfold F_X1_leastAfterDay at h
  refine lv_ldc (v := 1000000) hx hb hown (hts _ k_X1_leastAfterDay_11) dX1_leastAfterDay_0 ?_
  refine lv_istore_n (lv' := [(1, .int (1000000 : Int32)), (0, .ref a_t)]) hx hb dX1_leastAfterDay_2 rfl hl (by decide) rfl (fun ls hl => ?_)
  refine lv_iconst (v := 0) hx hb dX1_leastAfterDay_3 (by decide) ?_
  refine lv_istore_n (lv' := [(2, .int (0 : Int32)), (1, .int (1000000 : Int32)), (0, .ref a_t)]) hx hb dX1_leastAfterDay_4 rfl hl (by decide) rfl (fun ls hl => ?_)
  exact w_X1_leastAfterDay_5 X0 a_t a_t_water a_t_gain a_t_drops a_t_level a_t_share a_t_song f_t_pool c_t_water c_t_gain f_t_terraces _ FU_ (1000000 : Int32) (0 : Int32) h H locs hP hD hS ls (lv_sub hl [2, 1, 0] rfl)
set_option maxHeartbeats 4000000 in
set_option maxRecDepth 100000 in
theorem c_X1_leastAfterDay (l : Launch) (G : va_G) (ca : Nat → ClassId) (ad av : Nat → Nat) (sz : Nat) (a_t : Nat) (a_t_water : Nat) (a_t_gain : Nat) (a_t_drops : Nat) (a_t_level : Nat) (a_t_share : Nat) (a_t_song : Nat) (f_t_pool : Int32) (c_t_water : Nat → Int32) (c_t_gain : Nat → Int32) (f_t_terraces : Int32)  (res : Int32) (h : F_X1_leastAfterDay c_t_water c_t_gain f_t_terraces  = some res) : Met l yX1_leastAfterDay wsX1_leastAfterDay RM_X1_leastAfterDay (va_Pc [.ref a_t] (PW_ G ca ad av sz [(a_t, .inr (1, [.ref a_t_water, .ref a_t_gain, .ref a_t_drops, .ref a_t_level, .ref a_t_share, .ref a_t_song, .int f_t_terraces, .int f_t_pool])), (a_t_water, .inl (ca 0, 6, .inl c_t_water)), (a_t_gain, .inl (ca 0, 6, .inl c_t_gain))])) (QI_ G (va_A [(a_t, .inr (1, [.ref a_t_water, .ref a_t_gain, .ref a_t_drops, .ref a_t_level, .ref a_t_share, .ref a_t_song, .int f_t_terraces, .int f_t_pool])), (a_t_water, .inl (ca 0, 6, .inl c_t_water)), (a_t_gain, .inl (ca 0, 6, .inl c_t_gain))] sz) res [(a_t, .inr (1, [.ref a_t_water, .ref a_t_gain, .ref a_t_drops, .ref a_t_level, .ref a_t_share, .ref a_t_song, .int f_t_terraces, .int f_t_pool])), (a_t_water, .inl (ca 0, 6, .inl c_t_water)), (a_t_gain, .inl (ca 0, 6, .inl c_t_gain))]) 0 0 (va_A [(a_t, .inr (1, [.ref a_t_water, .ref a_t_gain, .ref a_t_drops, .ref a_t_level, .ref a_t_share, .ref a_t_song, .int f_t_terraces, .int f_t_pool])), (a_t_water, .inl (ca 0, 6, .inl c_t_water)), (a_t_gain, .inl (ca 0, 6, .inl c_t_gain))] sz) := by
  refine Met.ofW (cc := cX1_leastAfterDay) (maxL := 3) (ret := (some .int)) (by decide) rfl ?_
  intro p e s m args below meth c s₁ B hml hv
  obtain ⟨X0, rfl, rfl, hP, hD⟩ := en_t B hml hv
  have hl := lv_entry ([.ref a_t]) (n := 3) (Nat.le_of_ble_eq_true rfl)
  rw [lg_entry_eq]
  generalize (lg_sl ([.ref a_t]) ++ List.replicate (3 - (lg_sl ([.ref a_t])).length) Slot.unset).toArray = ls at hl ⊢
  exact w_X1_leastAfterDay_0 X0 a_t a_t_water a_t_gain a_t_drops a_t_level a_t_share a_t_song f_t_pool c_t_water c_t_gain f_t_terraces _  h s.heap [] hP hD va_S.rf ls hl

/-! X1_greatestHeight -/
abbrev RM_X1_greatestHeight : Room := { frames := 3, cells := 0, slots := 0, locals := 69 }
theorem k_X1_greatestHeight_0 : Cond.fieldLink RX1 18 "DropDealers$Foresight" "drops" "[I" ∈ wsX1_greatestHeight := by decide +kernel
theorem i_X1_greatestHeight_X1 : ∀ w ∈ u_ws RX1 TX1 8, w ∈ wsX1_greatestHeight := by decide +kernel
def F_X1_greatestHeight_7 (c_t_water : Nat → Int32) (c_t_gain : Nat → Int32) (c_t_drops : Nat → Int32) (f_t_terraces : Int32) : Nat → Int32 → Int32 → Option (Int32)
  | 0, _, _ => none
  | n + 1, y1, y2 => if (12 : Int32) ≤ y2 then (some (y1)) else ((F_X1_costOfAll c_t_water c_t_gain f_t_terraces (y1 + (1 : Int32))).bind (fun u2 => if ok_I (0 : Int32) 40 = true then if (c_t_drops (0 : Int32).toNatClampNeg) < u2 then (some (y1)) else (F_X1_greatestHeight_7 c_t_water c_t_gain c_t_drops f_t_terraces n (y1 + (1 : Int32)) (y2 + (1 : Int32))) else none))
set_option maxHeartbeats 4000000 in
set_option maxRecDepth 100000 in
theorem w_X1_greatestHeight_7 {p : Program} {l : Launch} {e : Env} {s : State} {m : MethodId} {args : Array Value} {below : List Frame} {meth : Method} {c : Code} {G : va_G} {ca : Nat → ClassId} {ad av : Nat → Nat} {A : Nat → Prop} (X0 : CX_ p s m args meth c cX1_greatestHeight 3 (some .int) wsX1_greatestHeight RX1 G ca ad av A) (a_t : Nat) (a_t_water : Nat) (a_t_gain : Nat) (a_t_drops : Nat) (a_t_level : Nat) (a_t_share : Nat) (a_t_song : Nat) (f_t_pool : Int32) (c_t_water : Nat → Int32) (c_t_gain : Nat → Int32) (c_t_drops : Nat → Int32) (f_t_terraces : Int32) (res : Int32) : ∀ (n : Nat) (y1 : Int32) (y2 : Int32), F_X1_greatestHeight_7 c_t_water c_t_gain c_t_drops f_t_terraces n y1 y2 = some res → ∀ (H : Heap) (locs : List Loc), va_P G vwCl [(a_t, .inr (1, [.ref a_t_water, .ref a_t_gain, .ref a_t_drops, .ref a_t_level, .ref a_t_share, .ref a_t_song, .int f_t_terraces, .int f_t_pool])), (a_t_water, .inl (ca 0, 6, .inl c_t_water)), (a_t_gain, .inl (ca 0, 6, .inl c_t_gain)), (a_t_drops, .inl (ca 0, 40, .inl c_t_drops))] H → va_D A [(a_t, .inr (1, [.ref a_t_water, .ref a_t_gain, .ref a_t_drops, .ref a_t_level, .ref a_t_share, .ref a_t_song, .int f_t_terraces, .int f_t_pool])), (a_t_water, .inl (ca 0, 6, .inl c_t_water)), (a_t_gain, .inl (ca 0, 6, .inl c_t_gain)), (a_t_drops, .inl (ca 0, 40, .inl c_t_drops))] → va_S A s.heap H locs → ∀ (ls : Array Slot), lv_has ls 3 [(0, .ref a_t), (1, .int y1), (2, .int y2)] → W p l e RM_X1_greatestHeight s m args below meth c H locs 0 0 (MQ below (QI_ G A res [(a_t, .inr (1, [.ref a_t_water, .ref a_t_gain, .ref a_t_drops, .ref a_t_level, .ref a_t_share, .ref a_t_song, .int f_t_terraces, .int f_t_pool])), (a_t_water, .inl (ca 0, 6, .inl c_t_water)), (a_t_gain, .inl (ca 0, 6, .inl c_t_gain)), (a_t_drops, .inl (ca 0, 40, .inl c_t_drops))]) args s 0 0 A) (F0 m 7 ls []) := by
  obtain ⟨hx, hb, hr, hml, hown, hts, hlocks, hK, hA, hE⟩ := id X0
  intro n
  induction n with
  | zero => intro y1 y2 h; cases h
  | succ n ih =>
    intro y1 y2 h H locs hP hD hS ls hl
    rw [F_X1_greatestHeight_7] at h
    refine lv_iload_n hx hb dX1_greatestHeight_7 rfl (lv_at hl 2 rfl) ?_
    refine lv_bipush (v := 12) hx hb dX1_greatestHeight_8 (by decide) ?_
    refine lv_icmp_ge (tgt := 38) hx hb dX1_greatestHeight_10 (by decide) (fun b1 => ?_) (fun b1 => ?_)
    · have h := (if_pos b1).symm.trans h
      refine lv_iload_n hx hb dX1_greatestHeight_38 rfl (lv_at hl 1 rfl) ?_
      have h := sm_i h
      subst h
      exact W.iret (v := y1) hx hb hr (fun t ht hW => ⟨⟨y1, (), rfl, rfl, by rw [ht]; exact hP, hD⟩, hS.F ht⟩) hS.2.2 dX1_greatestHeight_39
    · have h := (if_neg b1).symm.trans h
      refine lv_aload_n hx hb dX1_greatestHeight_13 rfl (lv_at hl 0 rfl) ?_
      refine lv_iload_n hx hb dX1_greatestHeight_14 rfl (lv_at hl 1 rfl) ?_
      refine lv_iconst (v := 1) hx hb dX1_greatestHeight_15 (by decide) ?_
      refine lv_iadd hx hb dX1_greatestHeight_16 ?_
      obtain ⟨u2, hc3, h⟩ := bd_o h
      refine jn_i (wr := [(a_t_drops, .inl (ca 0, 40, .inl c_t_drops))]) (ws' := [(a_t, .inr (1, [.ref a_t_water, .ref a_t_gain, .ref a_t_drops, .ref a_t_level, .ref a_t_share, .ref a_t_song, .int f_t_terraces, .int f_t_pool])), (a_t_water, .inl (ca 0, 6, .inl c_t_water)), (a_t_gain, .inl (ca 0, 6, .inl c_t_gain)), (a_t_drops, .inl (ca 0, 40, .inl c_t_drops))]) (va_runV (As := [.int (y1 + (1 : Int32))]) (rest := []) ⟨hx, hb, hml, hown, hts⟩ (c_X1_costOfAll l G ca ad av H.size a_t a_t_water a_t_gain a_t_drops a_t_level a_t_share a_t_song f_t_pool c_t_water c_t_gain f_t_terraces (y1 + (1 : Int32)) u2 hc3) (cwV 1 hts gX1_greatestHeight_X1_costOfAll rfl rfl rfl (by decide +kernel) ⟨Nat.le_of_ble_eq_true rfl, Nat.le_of_ble_eq_true rfl⟩) (pre_v (q0 := 0) (ci := 1) hK hE hA hP hD hS [0, 1, 2] rfl (by decide) rfl rfl) rfl rfl hl.1 rfl (lv_room (Nat.le_of_ble_eq_true rfl)) dX1_greatestHeight_17 ⟨Nat.le_of_ble_eq_true rfl, Nat.le_of_ble_eq_true rfl⟩) hA hP hD hS [0, 1, 2] [3] [1, 2, 3, 0] rfl rfl (by decide) (by decide) (by decide) rfl (fun H locs hP hD hS => ?_)
      refine lv_aload_n hx hb dX1_greatestHeight_20 rfl (lv_at hl 0 rfl) ?_
      refine va_get (D := G) (ci := 1) (v := .ref a_t_drops) (C := RX1) (T := TX1) (N := 8) hx hb hts i_X1_greatestHeight_X1 hown hK hP 0 rfl rfl 2 (by decide) (hts _ k_X1_greatestHeight_0) (fun _ h9 => h9) rfl dX1_greatestHeight_21 ?_
      refine lv_iconst (v := 0) hx hb dX1_greatestHeight_24 (by decide) ?_
      obtain ⟨g4, h⟩ := gd_t h
      refine va_iald hx hb hK hP 3 0 rfl rfl (ok_in g4) dX1_greatestHeight_25 ?_
      refine lv_icmp_gt (tgt := 38) hx hb dX1_greatestHeight_26 (by decide) (fun b5 => ?_) (fun b5 => ?_)
      · have h := (if_pos b5).symm.trans h
        refine lv_iload_n hx hb dX1_greatestHeight_38 rfl (lv_at hl 1 rfl) ?_
        have h := sm_i h
        subst h
        exact W.iret (v := y1) hx hb hr (fun t ht hW => ⟨⟨y1, (), rfl, rfl, by rw [ht]; exact hP, hD⟩, hS.F ht⟩) hS.2.2 dX1_greatestHeight_39
      · have h := (if_neg b5).symm.trans h
        refine lv_iinc (v := (y1 + (1 : Int32))) (lv' := [(1, .int (y1 + (1 : Int32))), (0, .ref a_t), (2, .int y2)]) hx hb dX1_greatestHeight_29 hl (k := 1) rfl rfl (by decide) rfl (fun ls hl => ?_)
        refine lv_iinc (v := (y2 + (1 : Int32))) (lv' := [(2, .int (y2 + (1 : Int32))), (1, .int (y1 + (1 : Int32))), (0, .ref a_t)]) hx hb dX1_greatestHeight_32 hl (k := 2) rfl rfl (by decide) rfl (fun ls hl => ?_)
        refine lv_goto (tgt := 7) hx hb dX1_greatestHeight_35 (by decide) ?_
        exact ih (y1 + (1 : Int32)) (y2 + (1 : Int32)) h H locs hP hD hS ls (lv_sub hl [2, 1, 0] rfl)
def F_X1_greatestHeight (c_t_water : Nat → Int32) (c_t_gain : Nat → Int32) (c_t_drops : Nat → Int32) (f_t_terraces : Int32)  : Option (Int32) := (F_X1_leastAfterDay c_t_water c_t_gain f_t_terraces).bind (fun u6 => F_X1_greatestHeight_7 c_t_water c_t_gain c_t_drops f_t_terraces FU_ u6 (0 : Int32))
set_option maxHeartbeats 4000000 in
set_option maxRecDepth 100000 in
theorem w_X1_greatestHeight_0 {p : Program} {l : Launch} {e : Env} {s : State} {m : MethodId} {args : Array Value} {below : List Frame} {meth : Method} {c : Code} {G : va_G} {ca : Nat → ClassId} {ad av : Nat → Nat} {A : Nat → Prop} (X0 : CX_ p s m args meth c cX1_greatestHeight 3 (some .int) wsX1_greatestHeight RX1 G ca ad av A) (a_t : Nat) (a_t_water : Nat) (a_t_gain : Nat) (a_t_drops : Nat) (a_t_level : Nat) (a_t_share : Nat) (a_t_song : Nat) (f_t_pool : Int32) (c_t_water : Nat → Int32) (c_t_gain : Nat → Int32) (c_t_drops : Nat → Int32) (f_t_terraces : Int32) (res : Int32)  (h : F_X1_greatestHeight c_t_water c_t_gain c_t_drops f_t_terraces  = some res) : ∀ (H : Heap) (locs : List Loc), va_P G vwCl [(a_t, .inr (1, [.ref a_t_water, .ref a_t_gain, .ref a_t_drops, .ref a_t_level, .ref a_t_share, .ref a_t_song, .int f_t_terraces, .int f_t_pool])), (a_t_water, .inl (ca 0, 6, .inl c_t_water)), (a_t_gain, .inl (ca 0, 6, .inl c_t_gain)), (a_t_drops, .inl (ca 0, 40, .inl c_t_drops))] H → va_D A [(a_t, .inr (1, [.ref a_t_water, .ref a_t_gain, .ref a_t_drops, .ref a_t_level, .ref a_t_share, .ref a_t_song, .int f_t_terraces, .int f_t_pool])), (a_t_water, .inl (ca 0, 6, .inl c_t_water)), (a_t_gain, .inl (ca 0, 6, .inl c_t_gain)), (a_t_drops, .inl (ca 0, 40, .inl c_t_drops))] → va_S A s.heap H locs → ∀ (ls : Array Slot), lv_has ls 3 [(0, .ref a_t)] → W p l e RM_X1_greatestHeight s m args below meth c H locs 0 0 (MQ below (QI_ G A res [(a_t, .inr (1, [.ref a_t_water, .ref a_t_gain, .ref a_t_drops, .ref a_t_level, .ref a_t_share, .ref a_t_song, .int f_t_terraces, .int f_t_pool])), (a_t_water, .inl (ca 0, 6, .inl c_t_water)), (a_t_gain, .inl (ca 0, 6, .inl c_t_gain)), (a_t_drops, .inl (ca 0, 40, .inl c_t_drops))]) args s 0 0 A) (F0 m 0 ls []) := by
  obtain ⟨hx, hb, hr, hml, hown, hts, hlocks, hK, hA, hE⟩ := id X0
  intro H locs hP hD hS ls hl
  unfold F_X1_greatestHeight at h
  refine lv_aload_n hx hb dX1_greatestHeight_0 rfl (lv_at hl 0 rfl) ?_
  obtain ⟨u6, hc7, h⟩ := bd_o h
  refine jn_i (wr := [(a_t_drops, .inl (ca 0, 40, .inl c_t_drops))]) (ws' := [(a_t, .inr (1, [.ref a_t_water, .ref a_t_gain, .ref a_t_drops, .ref a_t_level, .ref a_t_share, .ref a_t_song, .int f_t_terraces, .int f_t_pool])), (a_t_water, .inl (ca 0, 6, .inl c_t_water)), (a_t_gain, .inl (ca 0, 6, .inl c_t_gain)), (a_t_drops, .inl (ca 0, 40, .inl c_t_drops))]) (va_runV (As := []) (rest := []) ⟨hx, hb, hml, hown, hts⟩ (c_X1_leastAfterDay l G ca ad av H.size a_t a_t_water a_t_gain a_t_drops a_t_level a_t_share a_t_song f_t_pool c_t_water c_t_gain f_t_terraces u6 hc7) (cwV 0 hts gX1_greatestHeight_X1_leastAfterDay rfl rfl rfl (by decide +kernel) ⟨Nat.le_of_ble_eq_true rfl, Nat.le_of_ble_eq_true rfl⟩) (pre_v (q0 := 0) (ci := 1) hK hE hA hP hD hS [0, 1, 2] rfl (by decide) rfl rfl) rfl rfl hl.1 rfl (lv_room (Nat.le_of_ble_eq_true rfl)) dX1_greatestHeight_1 ⟨Nat.le_of_ble_eq_true rfl, Nat.le_of_ble_eq_true rfl⟩) hA hP hD hS [0, 1, 2] [3] [1, 2, 3, 0] rfl rfl (by decide) (by decide) (by decide) rfl (fun H locs hP hD hS => ?_)
  refine lv_istore_n (lv' := [(1, .int u6), (0, .ref a_t)]) hx hb dX1_greatestHeight_4 rfl hl (by decide) rfl (fun ls hl => ?_)
  refine lv_iconst (v := 0) hx hb dX1_greatestHeight_5 (by decide) ?_
  refine lv_istore_n (lv' := [(2, .int (0 : Int32)), (1, .int u6), (0, .ref a_t)]) hx hb dX1_greatestHeight_6 rfl hl (by decide) rfl (fun ls hl => ?_)
  exact w_X1_greatestHeight_7 X0 a_t a_t_water a_t_gain a_t_drops a_t_level a_t_share a_t_song f_t_pool c_t_water c_t_gain c_t_drops f_t_terraces _ FU_ u6 (0 : Int32) h H locs hP hD hS ls (lv_sub hl [2, 1, 0] rfl)
set_option maxHeartbeats 4000000 in
set_option maxRecDepth 100000 in
theorem c_X1_greatestHeight (l : Launch) (G : va_G) (ca : Nat → ClassId) (ad av : Nat → Nat) (sz : Nat) (a_t : Nat) (a_t_water : Nat) (a_t_gain : Nat) (a_t_drops : Nat) (a_t_level : Nat) (a_t_share : Nat) (a_t_song : Nat) (f_t_pool : Int32) (c_t_water : Nat → Int32) (c_t_gain : Nat → Int32) (c_t_drops : Nat → Int32) (f_t_terraces : Int32)  (res : Int32) (h : F_X1_greatestHeight c_t_water c_t_gain c_t_drops f_t_terraces  = some res) : Met l yX1_greatestHeight wsX1_greatestHeight RM_X1_greatestHeight (va_Pc [.ref a_t] (PW_ G ca ad av sz [(a_t, .inr (1, [.ref a_t_water, .ref a_t_gain, .ref a_t_drops, .ref a_t_level, .ref a_t_share, .ref a_t_song, .int f_t_terraces, .int f_t_pool])), (a_t_water, .inl (ca 0, 6, .inl c_t_water)), (a_t_gain, .inl (ca 0, 6, .inl c_t_gain)), (a_t_drops, .inl (ca 0, 40, .inl c_t_drops))])) (QI_ G (va_A [(a_t, .inr (1, [.ref a_t_water, .ref a_t_gain, .ref a_t_drops, .ref a_t_level, .ref a_t_share, .ref a_t_song, .int f_t_terraces, .int f_t_pool])), (a_t_water, .inl (ca 0, 6, .inl c_t_water)), (a_t_gain, .inl (ca 0, 6, .inl c_t_gain)), (a_t_drops, .inl (ca 0, 40, .inl c_t_drops))] sz) res [(a_t, .inr (1, [.ref a_t_water, .ref a_t_gain, .ref a_t_drops, .ref a_t_level, .ref a_t_share, .ref a_t_song, .int f_t_terraces, .int f_t_pool])), (a_t_water, .inl (ca 0, 6, .inl c_t_water)), (a_t_gain, .inl (ca 0, 6, .inl c_t_gain)), (a_t_drops, .inl (ca 0, 40, .inl c_t_drops))]) 0 0 (va_A [(a_t, .inr (1, [.ref a_t_water, .ref a_t_gain, .ref a_t_drops, .ref a_t_level, .ref a_t_share, .ref a_t_song, .int f_t_terraces, .int f_t_pool])), (a_t_water, .inl (ca 0, 6, .inl c_t_water)), (a_t_gain, .inl (ca 0, 6, .inl c_t_gain)), (a_t_drops, .inl (ca 0, 40, .inl c_t_drops))] sz) := by
  refine Met.ofW (cc := cX1_greatestHeight) (maxL := 3) (ret := (some .int)) (by decide) rfl ?_
  intro p e s m args below meth c s₁ B hml hv
  obtain ⟨X0, rfl, rfl, hP, hD⟩ := en_t B hml hv
  have hl := lv_entry ([.ref a_t]) (n := 3) (Nat.le_of_ble_eq_true rfl)
  rw [lg_entry_eq]
  generalize (lg_sl ([.ref a_t]) ++ List.replicate (3 - (lg_sl ([.ref a_t])).length) Slot.unset).toArray = ls at hl ⊢
  exact w_X1_greatestHeight_0 X0 a_t a_t_water a_t_gain a_t_drops a_t_level a_t_share a_t_song f_t_pool c_t_water c_t_gain c_t_drops f_t_terraces _  h s.heap [] hP hD va_S.rf ls hl

/-! X1_shareEnough -/
abbrev RM_X1_shareEnough : Room := { frames := 4, cells := 0, slots := 0, locals := 91 }
theorem k_X1_shareEnough_0 : Cond.fieldLink RX1 24 "DropDealers$Foresight" "share" "[I" ∈ wsX1_shareEnough := by decide +kernel
theorem i_X1_shareEnough_X1 : ∀ w ∈ u_ws RX1 TX1 8, w ∈ wsX1_shareEnough := by decide +kernel
theorem k_X1_shareEnough_2 : Cond.fieldLink RX1 36 "DropDealers$Foresight" "terraces" "I" ∈ wsX1_shareEnough := by decide +kernel
theorem k_X1_shareEnough_3 : Cond.fieldLink RX1 18 "DropDealers$Foresight" "drops" "[I" ∈ wsX1_shareEnough := by decide +kernel
def F_X1_shareEnough_47 (c_t_water : Nat → Int32) (c_t_gain : Nat → Int32) (c_t_drops : Nat → Int32) (f_t_terraces : Int32) (k_14 : (Nat → Int32) → Int32 → Int32 → Int32 → Option ((Nat → Int32))) (c_t_share : Nat → Int32) (y1 : Int32) (y2 : Int32) (y3 : Int32) (t1 : Int32) (t2 : Int32) : Option ((Nat → Int32)) := if ok_I t1 6 = true then if ok_I y3 6 = true then k_14 (upd c_t_share t1.toNatClampNeg t2) y1 (y2 - ((upd c_t_share t1.toNatClampNeg t2) y3.toNatClampNeg)) (y3 + (1 : Int32)) else none else none
set_option maxHeartbeats 4000000 in
set_option maxRecDepth 100000 in
theorem w_X1_shareEnough_47 {p : Program} {l : Launch} {e : Env} {s : State} {m : MethodId} {args : Array Value} {below : List Frame} {meth : Method} {c : Code} {G : va_G} {ca : Nat → ClassId} {ad av : Nat → Nat} {A : Nat → Prop} (X0 : CX_ p s m args meth c cX1_shareEnough 4 none wsX1_shareEnough RX1 G ca ad av A) (a_t : Nat) (a_t_water : Nat) (a_t_gain : Nat) (a_t_drops : Nat) (a_t_share : Nat) (a_t_level : Nat) (a_t_song : Nat) (f_t_pool : Int32) (c_t_water : Nat → Int32) (c_t_gain : Nat → Int32) (c_t_drops : Nat → Int32) (f_t_terraces : Int32) (res : (Nat → Int32)) (k_14 : (Nat → Int32) → Int32 → Int32 → Int32 → Option ((Nat → Int32))) (hk_14 : ∀ (c_t_share : Nat → Int32) (y1 : Int32) (y2 : Int32) (y3 : Int32), k_14 c_t_share y1 y2 y3 = some res → ∀ (H : Heap) (locs : List Loc), va_P G vwCl [(a_t, .inr (1, [.ref a_t_water, .ref a_t_gain, .ref a_t_drops, .ref a_t_level, .ref a_t_share, .ref a_t_song, .int f_t_terraces, .int f_t_pool])), (a_t_water, .inl (ca 0, 6, .inl c_t_water)), (a_t_gain, .inl (ca 0, 6, .inl c_t_gain)), (a_t_drops, .inl (ca 0, 40, .inl c_t_drops)), (a_t_share, .inl (ca 0, 6, .inl c_t_share))] H → va_D A [(a_t, .inr (1, [.ref a_t_water, .ref a_t_gain, .ref a_t_drops, .ref a_t_level, .ref a_t_share, .ref a_t_song, .int f_t_terraces, .int f_t_pool])), (a_t_water, .inl (ca 0, 6, .inl c_t_water)), (a_t_gain, .inl (ca 0, 6, .inl c_t_gain)), (a_t_drops, .inl (ca 0, 40, .inl c_t_drops)), (a_t_share, .inl (ca 0, 6, .inl c_t_share))] → va_S A s.heap H locs → ∀ (ls : Array Slot), lv_has ls 4 [(0, .ref a_t), (1, .int y1), (2, .int y2), (3, .int y3)] → W p l e RM_X1_shareEnough s m args below meth c H locs 0 0 (MQ below (QV_ G A [(a_t, .inr (1, [.ref a_t_water, .ref a_t_gain, .ref a_t_drops, .ref a_t_level, .ref a_t_share, .ref a_t_song, .int f_t_terraces, .int f_t_pool])), (a_t_water, .inl (ca 0, 6, .inl c_t_water)), (a_t_gain, .inl (ca 0, 6, .inl c_t_gain)), (a_t_drops, .inl (ca 0, 40, .inl c_t_drops)), (a_t_share, .inl (ca 0, 6, .inl res))]) args s 0 0 A) (F0 m 14 ls [])) (c_t_share : Nat → Int32) (y1 : Int32) (y2 : Int32) (y3 : Int32) (t1 : Int32) (t2 : Int32) (h : F_X1_shareEnough_47 c_t_water c_t_gain c_t_drops f_t_terraces k_14 c_t_share y1 y2 y3 t1 t2 = some res) : ∀ (H : Heap) (locs : List Loc), va_P G vwCl [(a_t, .inr (1, [.ref a_t_water, .ref a_t_gain, .ref a_t_drops, .ref a_t_level, .ref a_t_share, .ref a_t_song, .int f_t_terraces, .int f_t_pool])), (a_t_water, .inl (ca 0, 6, .inl c_t_water)), (a_t_gain, .inl (ca 0, 6, .inl c_t_gain)), (a_t_drops, .inl (ca 0, 40, .inl c_t_drops)), (a_t_share, .inl (ca 0, 6, .inl c_t_share))] H → va_D A [(a_t, .inr (1, [.ref a_t_water, .ref a_t_gain, .ref a_t_drops, .ref a_t_level, .ref a_t_share, .ref a_t_song, .int f_t_terraces, .int f_t_pool])), (a_t_water, .inl (ca 0, 6, .inl c_t_water)), (a_t_gain, .inl (ca 0, 6, .inl c_t_gain)), (a_t_drops, .inl (ca 0, 40, .inl c_t_drops)), (a_t_share, .inl (ca 0, 6, .inl c_t_share))] → va_S A s.heap H locs → ∀ (ls : Array Slot), lv_has ls 4 [(0, .ref a_t), (1, .int y1), (2, .int y2), (3, .int y3)] → W p l e RM_X1_shareEnough s m args below meth c H locs 0 0 (MQ below (QV_ G A [(a_t, .inr (1, [.ref a_t_water, .ref a_t_gain, .ref a_t_drops, .ref a_t_level, .ref a_t_share, .ref a_t_song, .int f_t_terraces, .int f_t_pool])), (a_t_water, .inl (ca 0, 6, .inl c_t_water)), (a_t_gain, .inl (ca 0, 6, .inl c_t_gain)), (a_t_drops, .inl (ca 0, 40, .inl c_t_drops)), (a_t_share, .inl (ca 0, 6, .inl res))]) args s 0 0 A) (F0 m 47 ls [.int t2, .int t1, .ref a_t_share]) := by
  obtain ⟨hx, hb, hr, hml, hown, hts, hlocks, hK, hA, hE⟩ := id X0
  intro H locs hP hD hS ls hl
  unfold F_X1_shareEnough_47 at h
  obtain ⟨g1, h⟩ := gd_t h
  refine va_iast hx hb hK hP hD hS 4 0 rfl rfl (ok_in g1) dX1_shareEnough_47 (fun H locs hP hD hS => ?_)
  have hP : va_P G vwCl [(a_t, .inr (1, [.ref a_t_water, .ref a_t_gain, .ref a_t_drops, .ref a_t_level, .ref a_t_share, .ref a_t_song, .int f_t_terraces, .int f_t_pool])), (a_t_water, .inl (ca 0, 6, .inl c_t_water)), (a_t_gain, .inl (ca 0, 6, .inl c_t_gain)), (a_t_drops, .inl (ca 0, 40, .inl c_t_drops)), (a_t_share, .inl (ca 0, 6, .inl (upd c_t_share t1.toNatClampNeg t2)))] H := hP
  have hD : va_D A [(a_t, .inr (1, [.ref a_t_water, .ref a_t_gain, .ref a_t_drops, .ref a_t_level, .ref a_t_share, .ref a_t_song, .int f_t_terraces, .int f_t_pool])), (a_t_water, .inl (ca 0, 6, .inl c_t_water)), (a_t_gain, .inl (ca 0, 6, .inl c_t_gain)), (a_t_drops, .inl (ca 0, 40, .inl c_t_drops)), (a_t_share, .inl (ca 0, 6, .inl (upd c_t_share t1.toNatClampNeg t2)))] := hD
  refine lv_iload_n hx hb dX1_shareEnough_48 rfl (lv_at hl 2 rfl) ?_
  refine lv_aload_n hx hb dX1_shareEnough_49 rfl (lv_at hl 0 rfl) ?_
  refine va_get (D := G) (ci := 1) (v := .ref a_t_share) (C := RX1) (T := TX1) (N := 8) hx hb hts i_X1_shareEnough_X1 hown hK hP 0 rfl rfl 4 (by decide) (hts _ k_X1_shareEnough_0) (fun _ h9 => h9) rfl dX1_shareEnough_50 ?_
  refine lv_iload_n hx hb dX1_shareEnough_53 rfl (lv_at hl 3 rfl) ?_
  obtain ⟨g2, h⟩ := gd_t h
  refine va_iald hx hb hK hP 4 0 rfl rfl (ok_in g2) dX1_shareEnough_54 ?_
  refine lv_isub hx hb dX1_shareEnough_55 ?_
  refine lv_istore_n (lv' := [(2, .int (y2 - ((upd c_t_share t1.toNatClampNeg t2) y3.toNatClampNeg))), (0, .ref a_t), (1, .int y1), (3, .int y3)]) hx hb dX1_shareEnough_56 rfl hl (by decide) rfl (fun ls hl => ?_)
  refine lv_iinc (v := (y3 + (1 : Int32))) (lv' := [(3, .int (y3 + (1 : Int32))), (2, .int (y2 - ((upd c_t_share t1.toNatClampNeg t2) y3.toNatClampNeg))), (0, .ref a_t), (1, .int y1)]) hx hb dX1_shareEnough_57 hl (k := 3) rfl rfl (by decide) rfl (fun ls hl => ?_)
  refine lv_goto (tgt := 14) hx hb dX1_shareEnough_60 (by decide) ?_
  exact hk_14 (upd c_t_share t1.toNatClampNeg t2) y1 (y2 - ((upd c_t_share t1.toNatClampNeg t2) y3.toNatClampNeg)) (y3 + (1 : Int32)) h H locs hP hD hS ls (lv_sub hl [2, 3, 1, 0] rfl)
def F_X1_shareEnough_14 (c_t_water : Nat → Int32) (c_t_gain : Nat → Int32) (c_t_drops : Nat → Int32) (f_t_terraces : Int32) : Nat → (Nat → Int32) → Int32 → Int32 → Int32 → Option ((Nat → Int32))
  | 0, _, _, _, _ => none
  | n + 1, c_t_share, y1, y2, y3 => if f_t_terraces ≤ y3 then (some (c_t_share)) else (if y3 = (f_t_terraces - (1 : Int32)) then (F_X1_shareEnough_47 c_t_water c_t_gain c_t_drops f_t_terraces (F_X1_shareEnough_14 c_t_water c_t_gain c_t_drops f_t_terraces n) c_t_share y1 y2 y3 y3 y2) else ((F_X1_costOf c_t_water c_t_gain y3 y1).bind (fun u5 => F_X1_shareEnough_47 c_t_water c_t_gain c_t_drops f_t_terraces (F_X1_shareEnough_14 c_t_water c_t_gain c_t_drops f_t_terraces n) c_t_share y1 y2 y3 y3 u5)))
set_option maxHeartbeats 4000000 in
set_option maxRecDepth 100000 in
theorem w_X1_shareEnough_14 {p : Program} {l : Launch} {e : Env} {s : State} {m : MethodId} {args : Array Value} {below : List Frame} {meth : Method} {c : Code} {G : va_G} {ca : Nat → ClassId} {ad av : Nat → Nat} {A : Nat → Prop} (X0 : CX_ p s m args meth c cX1_shareEnough 4 none wsX1_shareEnough RX1 G ca ad av A) (a_t : Nat) (a_t_water : Nat) (a_t_gain : Nat) (a_t_drops : Nat) (a_t_share : Nat) (a_t_level : Nat) (a_t_song : Nat) (f_t_pool : Int32) (c_t_water : Nat → Int32) (c_t_gain : Nat → Int32) (c_t_drops : Nat → Int32) (f_t_terraces : Int32) (res : (Nat → Int32)) : ∀ (n : Nat) (c_t_share : Nat → Int32) (y1 : Int32) (y2 : Int32) (y3 : Int32), F_X1_shareEnough_14 c_t_water c_t_gain c_t_drops f_t_terraces n c_t_share y1 y2 y3 = some res → ∀ (H : Heap) (locs : List Loc), va_P G vwCl [(a_t, .inr (1, [.ref a_t_water, .ref a_t_gain, .ref a_t_drops, .ref a_t_level, .ref a_t_share, .ref a_t_song, .int f_t_terraces, .int f_t_pool])), (a_t_water, .inl (ca 0, 6, .inl c_t_water)), (a_t_gain, .inl (ca 0, 6, .inl c_t_gain)), (a_t_drops, .inl (ca 0, 40, .inl c_t_drops)), (a_t_share, .inl (ca 0, 6, .inl c_t_share))] H → va_D A [(a_t, .inr (1, [.ref a_t_water, .ref a_t_gain, .ref a_t_drops, .ref a_t_level, .ref a_t_share, .ref a_t_song, .int f_t_terraces, .int f_t_pool])), (a_t_water, .inl (ca 0, 6, .inl c_t_water)), (a_t_gain, .inl (ca 0, 6, .inl c_t_gain)), (a_t_drops, .inl (ca 0, 40, .inl c_t_drops)), (a_t_share, .inl (ca 0, 6, .inl c_t_share))] → va_S A s.heap H locs → ∀ (ls : Array Slot), lv_has ls 4 [(0, .ref a_t), (1, .int y1), (2, .int y2), (3, .int y3)] → W p l e RM_X1_shareEnough s m args below meth c H locs 0 0 (MQ below (QV_ G A [(a_t, .inr (1, [.ref a_t_water, .ref a_t_gain, .ref a_t_drops, .ref a_t_level, .ref a_t_share, .ref a_t_song, .int f_t_terraces, .int f_t_pool])), (a_t_water, .inl (ca 0, 6, .inl c_t_water)), (a_t_gain, .inl (ca 0, 6, .inl c_t_gain)), (a_t_drops, .inl (ca 0, 40, .inl c_t_drops)), (a_t_share, .inl (ca 0, 6, .inl res))]) args s 0 0 A) (F0 m 14 ls []) := by
  obtain ⟨hx, hb, hr, hml, hown, hts, hlocks, hK, hA, hE⟩ := id X0
  intro n
  induction n with
  | zero => intro c_t_share y1 y2 y3 h; cases h
  | succ n ih =>
    intro c_t_share y1 y2 y3 h H locs hP hD hS ls hl
    rw [F_X1_shareEnough_14] at h
    refine lv_iload_n hx hb dX1_shareEnough_14 rfl (lv_at hl 3 rfl) ?_
    refine lv_aload_n hx hb dX1_shareEnough_15 rfl (lv_at hl 0 rfl) ?_
    refine va_get (D := G) (ci := 1) (v := .int f_t_terraces) (C := RX1) (T := TX1) (N := 8) hx hb hts i_X1_shareEnough_X1 hown hK hP 0 rfl rfl 6 (by decide) (hts _ k_X1_shareEnough_2) (fun _ h9 => h9) rfl dX1_shareEnough_16 ?_
    refine lv_icmp_ge (tgt := 63) hx hb dX1_shareEnough_19 (by decide) (fun b3 => ?_) (fun b3 => ?_)
    · have h := (if_pos b3).symm.trans h
      have h := sm_i h
      subst h
      exact W.vret hx hb hr (fun t ht hW => ⟨⟨(), rfl, trivial, by rw [ht]; exact hP, hD⟩, hS.F ht⟩) hS.2.2 dX1_shareEnough_63
    · have h := (if_neg b3).symm.trans h
      refine lv_aload_n hx hb dX1_shareEnough_22 rfl (lv_at hl 0 rfl) ?_
      refine va_get (D := G) (ci := 1) (v := .ref a_t_share) (C := RX1) (T := TX1) (N := 8) hx hb hts i_X1_shareEnough_X1 hown hK hP 0 rfl rfl 4 (by decide) (hts _ k_X1_shareEnough_0) (fun _ h9 => h9) rfl dX1_shareEnough_23 ?_
      refine lv_iload_n hx hb dX1_shareEnough_26 rfl (lv_at hl 3 rfl) ?_
      refine lv_iload_n hx hb dX1_shareEnough_27 rfl (lv_at hl 3 rfl) ?_
      refine lv_aload_n hx hb dX1_shareEnough_28 rfl (lv_at hl 0 rfl) ?_
      refine va_get (D := G) (ci := 1) (v := .int f_t_terraces) (C := RX1) (T := TX1) (N := 8) hx hb hts i_X1_shareEnough_X1 hown hK hP 0 rfl rfl 6 (by decide) (hts _ k_X1_shareEnough_2) (fun _ h9 => h9) rfl dX1_shareEnough_29 ?_
      refine lv_iconst (v := 1) hx hb dX1_shareEnough_32 (by decide) ?_
      refine lv_isub hx hb dX1_shareEnough_33 ?_
      refine lv_icmp_ne (tgt := 41) hx hb dX1_shareEnough_34 (by decide) (fun b4 => ?_) (fun b4 => ?_)
      · have h := (if_neg b4).symm.trans h
        refine lv_aload_n hx hb dX1_shareEnough_41 rfl (lv_at hl 0 rfl) ?_
        refine lv_iload_n hx hb dX1_shareEnough_42 rfl (lv_at hl 3 rfl) ?_
        refine lv_iload_n hx hb dX1_shareEnough_43 rfl (lv_at hl 1 rfl) ?_
        obtain ⟨u5, hc6, h⟩ := bd_o h
        refine jn_i (wr := [(a_t_drops, .inl (ca 0, 40, .inl c_t_drops)), (a_t_share, .inl (ca 0, 6, .inl c_t_share))]) (ws' := [(a_t, .inr (1, [.ref a_t_water, .ref a_t_gain, .ref a_t_drops, .ref a_t_level, .ref a_t_share, .ref a_t_song, .int f_t_terraces, .int f_t_pool])), (a_t_water, .inl (ca 0, 6, .inl c_t_water)), (a_t_gain, .inl (ca 0, 6, .inl c_t_gain)), (a_t_drops, .inl (ca 0, 40, .inl c_t_drops)), (a_t_share, .inl (ca 0, 6, .inl c_t_share))]) (va_runV (As := [.int y3, .int y1]) (rest := [.int y3, .ref a_t_share]) ⟨hx, hb, hml, hown, hts⟩ (c_X1_costOf l G ca ad av H.size a_t a_t_water a_t_gain a_t_drops a_t_level a_t_share a_t_song f_t_terraces f_t_pool c_t_water c_t_gain y3 y1 u5 hc6) (cwV 2 hts gX1_shareEnough_X1_costOf rfl rfl rfl (by decide +kernel) ⟨Nat.le_of_ble_eq_true rfl, Nat.le_of_ble_eq_true rfl⟩) (pre_v (q0 := 0) (ci := 1) hK hE hA hP hD hS [0, 1, 2] rfl (by decide) rfl rfl) rfl rfl hl.1 rfl (lv_room (Nat.le_of_ble_eq_true rfl)) dX1_shareEnough_44 ⟨Nat.le_of_ble_eq_true rfl, Nat.le_of_ble_eq_true rfl⟩) hA hP hD hS [0, 1, 2] [3, 4] [2, 3, 4, 0, 1] rfl rfl (by decide) (by decide) (by decide) rfl (fun H locs hP hD hS => ?_)
        exact w_X1_shareEnough_47 X0 a_t a_t_water a_t_gain a_t_drops a_t_share a_t_level a_t_song f_t_pool c_t_water c_t_gain c_t_drops f_t_terraces _ _ ih c_t_share y1 y2 y3 y3 u5 h H locs hP hD hS ls (lv_sub hl [0, 1, 2, 3] rfl)
      · have h := (if_pos b4).symm.trans h
        refine lv_iload_n hx hb dX1_shareEnough_37 rfl (lv_at hl 2 rfl) ?_
        refine lv_goto (tgt := 47) hx hb dX1_shareEnough_38 (by decide) ?_
        exact w_X1_shareEnough_47 X0 a_t a_t_water a_t_gain a_t_drops a_t_share a_t_level a_t_song f_t_pool c_t_water c_t_gain c_t_drops f_t_terraces _ _ ih c_t_share y1 y2 y3 y3 y2 h H locs hP hD hS ls (lv_sub hl [0, 1, 2, 3] rfl)
def F_X1_shareEnough (c_t_water : Nat → Int32) (c_t_gain : Nat → Int32) (c_t_drops : Nat → Int32) (f_t_terraces : Int32) (c_t_share : Nat → Int32) : Option ((Nat → Int32)) := (F_X1_greatestHeight c_t_water c_t_gain c_t_drops f_t_terraces).bind (fun u7 => if ok_I (0 : Int32) 40 = true then F_X1_shareEnough_14 c_t_water c_t_gain c_t_drops f_t_terraces FU_ c_t_share u7 (c_t_drops (0 : Int32).toNatClampNeg) (0 : Int32) else none)
set_option maxHeartbeats 4000000 in
set_option maxRecDepth 100000 in
theorem w_X1_shareEnough_0 {p : Program} {l : Launch} {e : Env} {s : State} {m : MethodId} {args : Array Value} {below : List Frame} {meth : Method} {c : Code} {G : va_G} {ca : Nat → ClassId} {ad av : Nat → Nat} {A : Nat → Prop} (X0 : CX_ p s m args meth c cX1_shareEnough 4 none wsX1_shareEnough RX1 G ca ad av A) (a_t : Nat) (a_t_water : Nat) (a_t_gain : Nat) (a_t_drops : Nat) (a_t_share : Nat) (a_t_level : Nat) (a_t_song : Nat) (f_t_pool : Int32) (c_t_water : Nat → Int32) (c_t_gain : Nat → Int32) (c_t_drops : Nat → Int32) (f_t_terraces : Int32) (res : (Nat → Int32)) (c_t_share : Nat → Int32) (h : F_X1_shareEnough c_t_water c_t_gain c_t_drops f_t_terraces c_t_share = some res) : ∀ (H : Heap) (locs : List Loc), va_P G vwCl [(a_t, .inr (1, [.ref a_t_water, .ref a_t_gain, .ref a_t_drops, .ref a_t_level, .ref a_t_share, .ref a_t_song, .int f_t_terraces, .int f_t_pool])), (a_t_water, .inl (ca 0, 6, .inl c_t_water)), (a_t_gain, .inl (ca 0, 6, .inl c_t_gain)), (a_t_drops, .inl (ca 0, 40, .inl c_t_drops)), (a_t_share, .inl (ca 0, 6, .inl c_t_share))] H → va_D A [(a_t, .inr (1, [.ref a_t_water, .ref a_t_gain, .ref a_t_drops, .ref a_t_level, .ref a_t_share, .ref a_t_song, .int f_t_terraces, .int f_t_pool])), (a_t_water, .inl (ca 0, 6, .inl c_t_water)), (a_t_gain, .inl (ca 0, 6, .inl c_t_gain)), (a_t_drops, .inl (ca 0, 40, .inl c_t_drops)), (a_t_share, .inl (ca 0, 6, .inl c_t_share))] → va_S A s.heap H locs → ∀ (ls : Array Slot), lv_has ls 4 [(0, .ref a_t)] → W p l e RM_X1_shareEnough s m args below meth c H locs 0 0 (MQ below (QV_ G A [(a_t, .inr (1, [.ref a_t_water, .ref a_t_gain, .ref a_t_drops, .ref a_t_level, .ref a_t_share, .ref a_t_song, .int f_t_terraces, .int f_t_pool])), (a_t_water, .inl (ca 0, 6, .inl c_t_water)), (a_t_gain, .inl (ca 0, 6, .inl c_t_gain)), (a_t_drops, .inl (ca 0, 40, .inl c_t_drops)), (a_t_share, .inl (ca 0, 6, .inl res))]) args s 0 0 A) (F0 m 0 ls []) := by
  obtain ⟨hx, hb, hr, hml, hown, hts, hlocks, hK, hA, hE⟩ := id X0
  intro H locs hP hD hS ls hl
  unfold F_X1_shareEnough at h
  refine lv_aload_n hx hb dX1_shareEnough_0 rfl (lv_at hl 0 rfl) ?_
  obtain ⟨u7, hc8, h⟩ := bd_o h
  refine jn_i (wr := [(a_t_share, .inl (ca 0, 6, .inl c_t_share))]) (ws' := [(a_t, .inr (1, [.ref a_t_water, .ref a_t_gain, .ref a_t_drops, .ref a_t_level, .ref a_t_share, .ref a_t_song, .int f_t_terraces, .int f_t_pool])), (a_t_water, .inl (ca 0, 6, .inl c_t_water)), (a_t_gain, .inl (ca 0, 6, .inl c_t_gain)), (a_t_drops, .inl (ca 0, 40, .inl c_t_drops)), (a_t_share, .inl (ca 0, 6, .inl c_t_share))]) (va_runV (As := []) (rest := []) ⟨hx, hb, hml, hown, hts⟩ (c_X1_greatestHeight l G ca ad av H.size a_t a_t_water a_t_gain a_t_drops a_t_level a_t_share a_t_song f_t_pool c_t_water c_t_gain c_t_drops f_t_terraces u7 hc8) (cwV 0 hts gX1_shareEnough_X1_greatestHeight rfl rfl rfl (by decide +kernel) ⟨Nat.le_of_ble_eq_true rfl, Nat.le_of_ble_eq_true rfl⟩) (pre_v (q0 := 0) (ci := 1) hK hE hA hP hD hS [0, 1, 2, 3] rfl (by decide) rfl rfl) rfl rfl hl.1 rfl (lv_room (Nat.le_of_ble_eq_true rfl)) dX1_shareEnough_1 ⟨Nat.le_of_ble_eq_true rfl, Nat.le_of_ble_eq_true rfl⟩) hA hP hD hS [0, 1, 2, 3] [4] [1, 2, 3, 4, 0] rfl rfl (by decide) (by decide) (by decide) rfl (fun H locs hP hD hS => ?_)
  refine lv_istore_n (lv' := [(1, .int u7), (0, .ref a_t)]) hx hb dX1_shareEnough_4 rfl hl (by decide) rfl (fun ls hl => ?_)
  refine lv_aload_n hx hb dX1_shareEnough_5 rfl (lv_at hl 1 rfl) ?_
  refine va_get (D := G) (ci := 1) (v := .ref a_t_drops) (C := RX1) (T := TX1) (N := 8) hx hb hts i_X1_shareEnough_X1 hown hK hP 0 rfl rfl 2 (by decide) (hts _ k_X1_shareEnough_3) (fun _ h9 => h9) rfl dX1_shareEnough_6 ?_
  refine lv_iconst (v := 0) hx hb dX1_shareEnough_9 (by decide) ?_
  obtain ⟨g9, h⟩ := gd_t h
  refine va_iald hx hb hK hP 3 0 rfl rfl (ok_in g9) dX1_shareEnough_10 ?_
  refine lv_istore_n (lv' := [(2, .int (c_t_drops (0 : Int32).toNatClampNeg)), (1, .int u7), (0, .ref a_t)]) hx hb dX1_shareEnough_11 rfl hl (by decide) rfl (fun ls hl => ?_)
  refine lv_iconst (v := 0) hx hb dX1_shareEnough_12 (by decide) ?_
  refine lv_istore_n (lv' := [(3, .int (0 : Int32)), (2, .int (c_t_drops (0 : Int32).toNatClampNeg)), (1, .int u7), (0, .ref a_t)]) hx hb dX1_shareEnough_13 rfl hl (by decide) rfl (fun ls hl => ?_)
  exact w_X1_shareEnough_14 X0 a_t a_t_water a_t_gain a_t_drops a_t_share a_t_level a_t_song f_t_pool c_t_water c_t_gain c_t_drops f_t_terraces _ FU_ c_t_share u7 (c_t_drops (0 : Int32).toNatClampNeg) (0 : Int32) h H locs hP hD hS ls (lv_sub hl [3, 2, 1, 0] rfl)
set_option maxHeartbeats 4000000 in
set_option maxRecDepth 100000 in
theorem c_X1_shareEnough (l : Launch) (G : va_G) (ca : Nat → ClassId) (ad av : Nat → Nat) (sz : Nat) (a_t : Nat) (a_t_water : Nat) (a_t_gain : Nat) (a_t_drops : Nat) (a_t_share : Nat) (a_t_level : Nat) (a_t_song : Nat) (f_t_pool : Int32) (c_t_water : Nat → Int32) (c_t_gain : Nat → Int32) (c_t_drops : Nat → Int32) (f_t_terraces : Int32) (c_t_share : Nat → Int32) (res : (Nat → Int32)) (h : F_X1_shareEnough c_t_water c_t_gain c_t_drops f_t_terraces c_t_share = some res) : Met l yX1_shareEnough wsX1_shareEnough RM_X1_shareEnough (va_Pc [.ref a_t] (PW_ G ca ad av sz [(a_t, .inr (1, [.ref a_t_water, .ref a_t_gain, .ref a_t_drops, .ref a_t_level, .ref a_t_share, .ref a_t_song, .int f_t_terraces, .int f_t_pool])), (a_t_water, .inl (ca 0, 6, .inl c_t_water)), (a_t_gain, .inl (ca 0, 6, .inl c_t_gain)), (a_t_drops, .inl (ca 0, 40, .inl c_t_drops)), (a_t_share, .inl (ca 0, 6, .inl c_t_share))])) (QV_ G (va_A [(a_t, .inr (1, [.ref a_t_water, .ref a_t_gain, .ref a_t_drops, .ref a_t_level, .ref a_t_share, .ref a_t_song, .int f_t_terraces, .int f_t_pool])), (a_t_water, .inl (ca 0, 6, .inl c_t_water)), (a_t_gain, .inl (ca 0, 6, .inl c_t_gain)), (a_t_drops, .inl (ca 0, 40, .inl c_t_drops)), (a_t_share, .inl (ca 0, 6, .inl c_t_share))] sz) [(a_t, .inr (1, [.ref a_t_water, .ref a_t_gain, .ref a_t_drops, .ref a_t_level, .ref a_t_share, .ref a_t_song, .int f_t_terraces, .int f_t_pool])), (a_t_water, .inl (ca 0, 6, .inl c_t_water)), (a_t_gain, .inl (ca 0, 6, .inl c_t_gain)), (a_t_drops, .inl (ca 0, 40, .inl c_t_drops)), (a_t_share, .inl (ca 0, 6, .inl res))]) 0 0 (va_A [(a_t, .inr (1, [.ref a_t_water, .ref a_t_gain, .ref a_t_drops, .ref a_t_level, .ref a_t_share, .ref a_t_song, .int f_t_terraces, .int f_t_pool])), (a_t_water, .inl (ca 0, 6, .inl c_t_water)), (a_t_gain, .inl (ca 0, 6, .inl c_t_gain)), (a_t_drops, .inl (ca 0, 40, .inl c_t_drops)), (a_t_share, .inl (ca 0, 6, .inl c_t_share))] sz) := by
  refine Met.ofW (cc := cX1_shareEnough) (maxL := 4) (ret := none) (by decide) rfl ?_
  intro p e s m args below meth c s₁ B hml hv
  obtain ⟨X0, rfl, rfl, hP, hD⟩ := en_t B hml hv
  have hl := lv_entry ([.ref a_t]) (n := 4) (Nat.le_of_ble_eq_true rfl)
  rw [lg_entry_eq]
  generalize (lg_sl ([.ref a_t]) ++ List.replicate (4 - (lg_sl ([.ref a_t])).length) Slot.unset).toArray = ls at hl ⊢
  exact w_X1_shareEnough_0 X0 a_t a_t_water a_t_gain a_t_drops a_t_share a_t_level a_t_song f_t_pool c_t_water c_t_gain c_t_drops f_t_terraces _ c_t_share h s.heap [] hP hD va_S.rf ls hl

/-! X1_shareOut -/
abbrev RM_X1_shareOut : Room := { frames := 5, cells := 0, slots := 0, locals := 114 }
theorem k_X1_shareOut_0 : Cond.fieldLink RX1 18 "DropDealers$Foresight" "drops" "[I" ∈ wsX1_shareOut := by decide +kernel
theorem i_X1_shareOut_X1 : ∀ w ∈ u_ws RX1 TX1 8, w ∈ wsX1_shareOut := by decide +kernel
def F_X1_shareOut (c_t_water : Nat → Int32) (c_t_gain : Nat → Int32) (c_t_drops : Nat → Int32) (f_t_terraces : Int32) (c_t_share : Nat → Int32) : Option (Int32 × (Nat → Int32)) := (F_X1_costOfAll c_t_water c_t_gain f_t_terraces (0 : Int32)).bind (fun u1 => if ok_I (0 : Int32) 40 = true then if u1 ≤ (c_t_drops (0 : Int32).toNatClampNeg) then ((F_X1_shareEnough c_t_water c_t_gain c_t_drops f_t_terraces c_t_share).bind (fun u5 => some ((0 : Int32), u5))) else ((F_X1_shareTooFew c_t_water c_t_gain c_t_drops f_t_terraces c_t_share).bind (fun u7 => some ((u1 - (c_t_drops (0 : Int32).toNatClampNeg)), u7))) else none)
set_option maxHeartbeats 4000000 in
set_option maxRecDepth 100000 in
theorem w_X1_shareOut_0 {p : Program} {l : Launch} {e : Env} {s : State} {m : MethodId} {args : Array Value} {below : List Frame} {meth : Method} {c : Code} {G : va_G} {ca : Nat → ClassId} {ad av : Nat → Nat} {A : Nat → Prop} (X0 : CX_ p s m args meth c cX1_shareOut 2 (some .int) wsX1_shareOut RX1 G ca ad av A) (a_t : Nat) (a_t_water : Nat) (a_t_gain : Nat) (a_t_drops : Nat) (a_t_share : Nat) (a_t_level : Nat) (a_t_song : Nat) (f_t_pool : Int32) (c_t_water : Nat → Int32) (c_t_gain : Nat → Int32) (c_t_drops : Nat → Int32) (f_t_terraces : Int32) (res : Int32 × (Nat → Int32)) (c_t_share : Nat → Int32) (h : F_X1_shareOut c_t_water c_t_gain c_t_drops f_t_terraces c_t_share = some res) : ∀ (H : Heap) (locs : List Loc), va_P G vwCl [(a_t, .inr (1, [.ref a_t_water, .ref a_t_gain, .ref a_t_drops, .ref a_t_level, .ref a_t_share, .ref a_t_song, .int f_t_terraces, .int f_t_pool])), (a_t_water, .inl (ca 0, 6, .inl c_t_water)), (a_t_gain, .inl (ca 0, 6, .inl c_t_gain)), (a_t_drops, .inl (ca 0, 40, .inl c_t_drops)), (a_t_share, .inl (ca 0, 6, .inl c_t_share))] H → va_D A [(a_t, .inr (1, [.ref a_t_water, .ref a_t_gain, .ref a_t_drops, .ref a_t_level, .ref a_t_share, .ref a_t_song, .int f_t_terraces, .int f_t_pool])), (a_t_water, .inl (ca 0, 6, .inl c_t_water)), (a_t_gain, .inl (ca 0, 6, .inl c_t_gain)), (a_t_drops, .inl (ca 0, 40, .inl c_t_drops)), (a_t_share, .inl (ca 0, 6, .inl c_t_share))] → va_S A s.heap H locs → ∀ (ls : Array Slot), lv_has ls 2 [(0, .ref a_t)] → W p l e RM_X1_shareOut s m args below meth c H locs 0 0 (MQ below (QI_ G A res.1 [(a_t, .inr (1, [.ref a_t_water, .ref a_t_gain, .ref a_t_drops, .ref a_t_level, .ref a_t_share, .ref a_t_song, .int f_t_terraces, .int f_t_pool])), (a_t_water, .inl (ca 0, 6, .inl c_t_water)), (a_t_gain, .inl (ca 0, 6, .inl c_t_gain)), (a_t_drops, .inl (ca 0, 40, .inl c_t_drops)), (a_t_share, .inl (ca 0, 6, .inl res.2))]) args s 0 0 A) (F0 m 0 ls []) := by
  obtain ⟨hx, hb, hr, hml, hown, hts, hlocks, hK, hA, hE⟩ := id X0
  intro H locs hP hD hS ls hl
  unfold F_X1_shareOut at h
  refine lv_aload_n hx hb dX1_shareOut_0 rfl (lv_at hl 0 rfl) ?_
  refine lv_iconst (v := 0) hx hb dX1_shareOut_1 (by decide) ?_
  obtain ⟨u1, hc2, h⟩ := bd_o h
  refine jn_i (wr := [(a_t_drops, .inl (ca 0, 40, .inl c_t_drops)), (a_t_share, .inl (ca 0, 6, .inl c_t_share))]) (ws' := [(a_t, .inr (1, [.ref a_t_water, .ref a_t_gain, .ref a_t_drops, .ref a_t_level, .ref a_t_share, .ref a_t_song, .int f_t_terraces, .int f_t_pool])), (a_t_water, .inl (ca 0, 6, .inl c_t_water)), (a_t_gain, .inl (ca 0, 6, .inl c_t_gain)), (a_t_drops, .inl (ca 0, 40, .inl c_t_drops)), (a_t_share, .inl (ca 0, 6, .inl c_t_share))]) (va_runV (As := [.int (0 : Int32)]) (rest := []) ⟨hx, hb, hml, hown, hts⟩ (c_X1_costOfAll l G ca ad av H.size a_t a_t_water a_t_gain a_t_drops a_t_level a_t_share a_t_song f_t_pool c_t_water c_t_gain f_t_terraces (0 : Int32) u1 hc2) (cwV 1 hts gX1_shareOut_X1_costOfAll rfl rfl rfl (by decide +kernel) ⟨Nat.le_of_ble_eq_true rfl, Nat.le_of_ble_eq_true rfl⟩) (pre_v (q0 := 0) (ci := 1) hK hE hA hP hD hS [0, 1, 2] rfl (by decide) rfl rfl) rfl rfl hl.1 rfl (lv_room (Nat.le_of_ble_eq_true rfl)) dX1_shareOut_2 ⟨Nat.le_of_ble_eq_true rfl, Nat.le_of_ble_eq_true rfl⟩) hA hP hD hS [0, 1, 2] [3, 4] [2, 3, 4, 0, 1] rfl rfl (by decide) (by decide) (by decide) rfl (fun H locs hP hD hS => ?_)
  refine lv_istore_n (lv' := [(1, .int u1), (0, .ref a_t)]) hx hb dX1_shareOut_5 rfl hl (by decide) rfl (fun ls hl => ?_)
  refine lv_iload_n hx hb dX1_shareOut_6 rfl (lv_at hl 0 rfl) ?_
  refine lv_aload_n hx hb dX1_shareOut_7 rfl (lv_at hl 1 rfl) ?_
  refine va_get (D := G) (ci := 1) (v := .ref a_t_drops) (C := RX1) (T := TX1) (N := 8) hx hb hts i_X1_shareOut_X1 hown hK hP 0 rfl rfl 2 (by decide) (hts _ k_X1_shareOut_0) (fun _ h9 => h9) rfl dX1_shareOut_8 ?_
  refine lv_iconst (v := 0) hx hb dX1_shareOut_11 (by decide) ?_
  obtain ⟨g3, h⟩ := gd_t h
  refine va_iald hx hb hK hP 3 0 rfl rfl (ok_in g3) dX1_shareOut_12 ?_
  refine lv_icmp_le (tgt := 29) hx hb dX1_shareOut_13 (by decide) (fun b4 => ?_) (fun b4 => ?_)
  · have h := (if_pos b4).symm.trans h
    refine lv_aload_n hx hb dX1_shareOut_29 rfl (lv_at hl 1 rfl) ?_
    obtain ⟨u5, hc6, h⟩ := bd_o h
    refine jn_v (wr := []) (ws' := [(a_t, .inr (1, [.ref a_t_water, .ref a_t_gain, .ref a_t_drops, .ref a_t_level, .ref a_t_share, .ref a_t_song, .int f_t_terraces, .int f_t_pool])), (a_t_water, .inl (ca 0, 6, .inl c_t_water)), (a_t_gain, .inl (ca 0, 6, .inl c_t_gain)), (a_t_drops, .inl (ca 0, 40, .inl c_t_drops)), (a_t_share, .inl (ca 0, 6, .inl u5))]) (va_runV (As := []) (rest := []) ⟨hx, hb, hml, hown, hts⟩ (c_X1_shareEnough l G ca ad av H.size a_t a_t_water a_t_gain a_t_drops a_t_share a_t_level a_t_song f_t_pool c_t_water c_t_gain c_t_drops f_t_terraces c_t_share u5 hc6) (cwV 0 hts gX1_shareOut_X1_shareEnough rfl rfl rfl (by decide +kernel) ⟨Nat.le_of_ble_eq_true rfl, Nat.le_of_ble_eq_true rfl⟩) (pre_v (q0 := 0) (ci := 1) hK hE hA hP hD hS [0, 1, 2, 3, 4] rfl (by decide) rfl rfl) rfl rfl hl.1 rfl (lv_room (Nat.le_of_ble_eq_true rfl)) dX1_shareOut_30 ⟨Nat.le_of_ble_eq_true rfl, Nat.le_of_ble_eq_true rfl⟩) hA hP hD hS [0, 1, 2, 3, 4] [] [0, 1, 2, 3, 4] rfl rfl (by decide) (by decide) (by decide) rfl (fun H locs hP hD hS => ?_)
    refine lv_iconst (v := 0) hx hb dX1_shareOut_33 (by decide) ?_
    have h := sm_i h
    subst h
    exact W.iret (v := (0 : Int32)) hx hb hr (fun t ht hW => ⟨⟨(0 : Int32), (), rfl, rfl, by rw [ht]; exact hP, hD⟩, hS.F ht⟩) hS.2.2 dX1_shareOut_34
  · have h := (if_neg b4).symm.trans h
    refine lv_aload_n hx hb dX1_shareOut_16 rfl (lv_at hl 1 rfl) ?_
    obtain ⟨u7, hc8, h⟩ := bd_o h
    refine jn_v (wr := []) (ws' := [(a_t, .inr (1, [.ref a_t_water, .ref a_t_gain, .ref a_t_drops, .ref a_t_level, .ref a_t_share, .ref a_t_song, .int f_t_terraces, .int f_t_pool])), (a_t_water, .inl (ca 0, 6, .inl c_t_water)), (a_t_gain, .inl (ca 0, 6, .inl c_t_gain)), (a_t_drops, .inl (ca 0, 40, .inl c_t_drops)), (a_t_share, .inl (ca 0, 6, .inl u7))]) (va_runV (As := []) (rest := []) ⟨hx, hb, hml, hown, hts⟩ (c_X1_shareTooFew l G ca ad av H.size a_t a_t_water a_t_gain a_t_drops a_t_share a_t_level a_t_song f_t_pool c_t_water c_t_gain c_t_drops f_t_terraces c_t_share u7 hc8) (cwV 0 hts gX1_shareOut_X1_shareTooFew rfl rfl rfl (by decide +kernel) ⟨Nat.le_of_ble_eq_true rfl, Nat.le_of_ble_eq_true rfl⟩) (pre_v (q0 := 0) (ci := 1) hK hE hA hP hD hS [0, 1, 2, 3, 4] rfl (by decide) rfl rfl) rfl rfl hl.1 rfl (lv_room (Nat.le_of_ble_eq_true rfl)) dX1_shareOut_17 ⟨Nat.le_of_ble_eq_true rfl, Nat.le_of_ble_eq_true rfl⟩) hA hP hD hS [0, 1, 2, 3, 4] [] [0, 1, 2, 3, 4] rfl rfl (by decide) (by decide) (by decide) rfl (fun H locs hP hD hS => ?_)
    refine lv_iload_n hx hb dX1_shareOut_20 rfl (lv_at hl 0 rfl) ?_
    refine lv_aload_n hx hb dX1_shareOut_21 rfl (lv_at hl 1 rfl) ?_
    refine va_get (D := G) (ci := 1) (v := .ref a_t_drops) (C := RX1) (T := TX1) (N := 8) hx hb hts i_X1_shareOut_X1 hown hK hP 0 rfl rfl 2 (by decide) (hts _ k_X1_shareOut_0) (fun _ h9 => h9) rfl dX1_shareOut_22 ?_
    refine lv_iconst (v := 0) hx hb dX1_shareOut_25 (by decide) ?_
    refine va_iald hx hb hK hP 3 0 rfl rfl (ok_in g3) dX1_shareOut_26 ?_
    refine lv_isub hx hb dX1_shareOut_27 ?_
    have h := sm_i h
    subst h
    exact W.iret (v := (u1 - (c_t_drops (0 : Int32).toNatClampNeg))) hx hb hr (fun t ht hW => ⟨⟨(u1 - (c_t_drops (0 : Int32).toNatClampNeg)), (), rfl, rfl, by rw [ht]; exact hP, hD⟩, hS.F ht⟩) hS.2.2 dX1_shareOut_28
set_option maxHeartbeats 4000000 in
set_option maxRecDepth 100000 in
theorem c_X1_shareOut (l : Launch) (G : va_G) (ca : Nat → ClassId) (ad av : Nat → Nat) (sz : Nat) (a_t : Nat) (a_t_water : Nat) (a_t_gain : Nat) (a_t_drops : Nat) (a_t_share : Nat) (a_t_level : Nat) (a_t_song : Nat) (f_t_pool : Int32) (c_t_water : Nat → Int32) (c_t_gain : Nat → Int32) (c_t_drops : Nat → Int32) (f_t_terraces : Int32) (c_t_share : Nat → Int32) (res : Int32 × (Nat → Int32)) (h : F_X1_shareOut c_t_water c_t_gain c_t_drops f_t_terraces c_t_share = some res) : Met l yX1_shareOut wsX1_shareOut RM_X1_shareOut (va_Pc [.ref a_t] (PW_ G ca ad av sz [(a_t, .inr (1, [.ref a_t_water, .ref a_t_gain, .ref a_t_drops, .ref a_t_level, .ref a_t_share, .ref a_t_song, .int f_t_terraces, .int f_t_pool])), (a_t_water, .inl (ca 0, 6, .inl c_t_water)), (a_t_gain, .inl (ca 0, 6, .inl c_t_gain)), (a_t_drops, .inl (ca 0, 40, .inl c_t_drops)), (a_t_share, .inl (ca 0, 6, .inl c_t_share))])) (QI_ G (va_A [(a_t, .inr (1, [.ref a_t_water, .ref a_t_gain, .ref a_t_drops, .ref a_t_level, .ref a_t_share, .ref a_t_song, .int f_t_terraces, .int f_t_pool])), (a_t_water, .inl (ca 0, 6, .inl c_t_water)), (a_t_gain, .inl (ca 0, 6, .inl c_t_gain)), (a_t_drops, .inl (ca 0, 40, .inl c_t_drops)), (a_t_share, .inl (ca 0, 6, .inl c_t_share))] sz) res.1 [(a_t, .inr (1, [.ref a_t_water, .ref a_t_gain, .ref a_t_drops, .ref a_t_level, .ref a_t_share, .ref a_t_song, .int f_t_terraces, .int f_t_pool])), (a_t_water, .inl (ca 0, 6, .inl c_t_water)), (a_t_gain, .inl (ca 0, 6, .inl c_t_gain)), (a_t_drops, .inl (ca 0, 40, .inl c_t_drops)), (a_t_share, .inl (ca 0, 6, .inl res.2))]) 0 0 (va_A [(a_t, .inr (1, [.ref a_t_water, .ref a_t_gain, .ref a_t_drops, .ref a_t_level, .ref a_t_share, .ref a_t_song, .int f_t_terraces, .int f_t_pool])), (a_t_water, .inl (ca 0, 6, .inl c_t_water)), (a_t_gain, .inl (ca 0, 6, .inl c_t_gain)), (a_t_drops, .inl (ca 0, 40, .inl c_t_drops)), (a_t_share, .inl (ca 0, 6, .inl c_t_share))] sz) := by
  refine Met.ofW (cc := cX1_shareOut) (maxL := 2) (ret := (some .int)) (by decide) rfl ?_
  intro p e s m args below meth c s₁ B hml hv
  obtain ⟨X0, rfl, rfl, hP, hD⟩ := en_t B hml hv
  have hl := lv_entry ([.ref a_t]) (n := 2) (Nat.le_of_ble_eq_true rfl)
  rw [lg_entry_eq]
  generalize (lg_sl ([.ref a_t]) ++ List.replicate (2 - (lg_sl ([.ref a_t])).length) Slot.unset).toArray = ls at hl ⊢
  exact w_X1_shareOut_0 X0 a_t a_t_water a_t_gain a_t_drops a_t_share a_t_level a_t_song f_t_pool c_t_water c_t_gain c_t_drops f_t_terraces _ c_t_share h s.heap [] hP hD va_S.rf ls hl

/-! X1_songsOf -/
abbrev RM_X1_songsOf : Room := { frames := 0, cells := 0, slots := 0, locals := 0 }
theorem k_X1_songsOf_0 : Cond.fieldLink RX1 36 "DropDealers$Foresight" "terraces" "I" ∈ wsX1_songsOf := by decide +kernel
theorem i_X1_songsOf_X1 : ∀ w ∈ u_ws RX1 TX1 8, w ∈ wsX1_songsOf := by decide +kernel
def F_X1_songsOf_4 (f_t_terraces : Int32) : Nat → Int32 → Int32 → Int32 → Option (Int32)
  | 0, _, _, _ => none
  | n + 1, y1, y2, y3 => if y1 ≤ y3 then (some (y2)) else (F_X1_songsOf_4 f_t_terraces n y1 (y2 * f_t_terraces) (y3 + (1 : Int32)))
set_option maxHeartbeats 4000000 in
set_option maxRecDepth 100000 in
theorem w_X1_songsOf_4 {p : Program} {l : Launch} {e : Env} {s : State} {m : MethodId} {args : Array Value} {below : List Frame} {meth : Method} {c : Code} {G : va_G} {ca : Nat → ClassId} {ad av : Nat → Nat} {A : Nat → Prop} (X0 : CX_ p s m args meth c cX1_songsOf 4 (some .int) wsX1_songsOf RX1 G ca ad av A) (a_t : Nat) (a_t_water : Nat) (a_t_gain : Nat) (a_t_drops : Nat) (a_t_level : Nat) (a_t_share : Nat) (a_t_song : Nat) (f_t_pool : Int32) (f_t_terraces : Int32) (res : Int32) : ∀ (n : Nat) (y1 : Int32) (y2 : Int32) (y3 : Int32), F_X1_songsOf_4 f_t_terraces n y1 y2 y3 = some res → ∀ (H : Heap) (locs : List Loc), va_P G vwCl [(a_t, .inr (1, [.ref a_t_water, .ref a_t_gain, .ref a_t_drops, .ref a_t_level, .ref a_t_share, .ref a_t_song, .int f_t_terraces, .int f_t_pool]))] H → va_D A [(a_t, .inr (1, [.ref a_t_water, .ref a_t_gain, .ref a_t_drops, .ref a_t_level, .ref a_t_share, .ref a_t_song, .int f_t_terraces, .int f_t_pool]))] → va_S A s.heap H locs → ∀ (ls : Array Slot), lv_has ls 4 [(0, .ref a_t), (1, .int y1), (2, .int y2), (3, .int y3)] → W p l e RM_X1_songsOf s m args below meth c H locs 0 0 (MQ below (QI_ G A res [(a_t, .inr (1, [.ref a_t_water, .ref a_t_gain, .ref a_t_drops, .ref a_t_level, .ref a_t_share, .ref a_t_song, .int f_t_terraces, .int f_t_pool]))]) args s 0 0 A) (F0 m 4 ls []) := by
  obtain ⟨hx, hb, hr, hml, hown, hts, hlocks, hK, hA, hE⟩ := id X0
  intro n
  induction n with
  | zero => intro y1 y2 y3 h; cases h
  | succ n ih =>
    intro y1 y2 y3 h H locs hP hD hS ls hl
    rw [F_X1_songsOf_4] at h
    refine lv_iload_n hx hb dX1_songsOf_4 rfl (lv_at hl 3 rfl) ?_
    refine lv_iload_n hx hb dX1_songsOf_5 rfl (lv_at hl 1 rfl) ?_
    refine lv_icmp_ge (tgt := 22) hx hb dX1_songsOf_6 (by decide) (fun b1 => ?_) (fun b1 => ?_)
    · have h := (if_pos b1).symm.trans h
      refine lv_iload_n hx hb dX1_songsOf_22 rfl (lv_at hl 2 rfl) ?_
      have h := sm_i h
      subst h
      exact W.iret (v := y2) hx hb hr (fun t ht hW => ⟨⟨y2, (), rfl, rfl, by rw [ht]; exact hP, hD⟩, hS.F ht⟩) hS.2.2 dX1_songsOf_23
    · have h := (if_neg b1).symm.trans h
      refine lv_iload_n hx hb dX1_songsOf_9 rfl (lv_at hl 2 rfl) ?_
      refine lv_aload_n hx hb dX1_songsOf_10 rfl (lv_at hl 0 rfl) ?_
      refine va_get (D := G) (ci := 1) (v := .int f_t_terraces) (C := RX1) (T := TX1) (N := 8) hx hb hts i_X1_songsOf_X1 hown hK hP 0 rfl rfl 6 (by decide) (hts _ k_X1_songsOf_0) (fun _ h9 => h9) rfl dX1_songsOf_11 ?_
      refine lv_imul hx hb dX1_songsOf_14 ?_
      refine lv_istore_n (lv' := [(2, .int (y2 * f_t_terraces)), (0, .ref a_t), (1, .int y1), (3, .int y3)]) hx hb dX1_songsOf_15 rfl hl (by decide) rfl (fun ls hl => ?_)
      refine lv_iinc (v := (y3 + (1 : Int32))) (lv' := [(3, .int (y3 + (1 : Int32))), (2, .int (y2 * f_t_terraces)), (0, .ref a_t), (1, .int y1)]) hx hb dX1_songsOf_16 hl (k := 3) rfl rfl (by decide) rfl (fun ls hl => ?_)
      refine lv_goto (tgt := 4) hx hb dX1_songsOf_19 (by decide) ?_
      exact ih y1 (y2 * f_t_terraces) (y3 + (1 : Int32)) h H locs hP hD hS ls (lv_sub hl [2, 3, 1, 0] rfl)
def F_X1_songsOf (f_t_terraces : Int32) (x1 : Int32) : Option (Int32) := F_X1_songsOf_4 f_t_terraces FU_ x1 (1 : Int32) (0 : Int32)
set_option maxHeartbeats 4000000 in
set_option maxRecDepth 100000 in
theorem w_X1_songsOf_0 {p : Program} {l : Launch} {e : Env} {s : State} {m : MethodId} {args : Array Value} {below : List Frame} {meth : Method} {c : Code} {G : va_G} {ca : Nat → ClassId} {ad av : Nat → Nat} {A : Nat → Prop} (X0 : CX_ p s m args meth c cX1_songsOf 4 (some .int) wsX1_songsOf RX1 G ca ad av A) (a_t : Nat) (a_t_water : Nat) (a_t_gain : Nat) (a_t_drops : Nat) (a_t_level : Nat) (a_t_share : Nat) (a_t_song : Nat) (f_t_pool : Int32) (f_t_terraces : Int32) (res : Int32) (x1 : Int32) (h : F_X1_songsOf f_t_terraces x1 = some res) : ∀ (H : Heap) (locs : List Loc), va_P G vwCl [(a_t, .inr (1, [.ref a_t_water, .ref a_t_gain, .ref a_t_drops, .ref a_t_level, .ref a_t_share, .ref a_t_song, .int f_t_terraces, .int f_t_pool]))] H → va_D A [(a_t, .inr (1, [.ref a_t_water, .ref a_t_gain, .ref a_t_drops, .ref a_t_level, .ref a_t_share, .ref a_t_song, .int f_t_terraces, .int f_t_pool]))] → va_S A s.heap H locs → ∀ (ls : Array Slot), lv_has ls 4 [(0, .ref a_t), (1, .int x1)] → W p l e RM_X1_songsOf s m args below meth c H locs 0 0 (MQ below (QI_ G A res [(a_t, .inr (1, [.ref a_t_water, .ref a_t_gain, .ref a_t_drops, .ref a_t_level, .ref a_t_share, .ref a_t_song, .int f_t_terraces, .int f_t_pool]))]) args s 0 0 A) (F0 m 0 ls []) := by
  obtain ⟨hx, hb, hr, hml, hown, hts, hlocks, hK, hA, hE⟩ := id X0
  intro H locs hP hD hS ls hl
  unfold F_X1_songsOf at h
  refine lv_iconst (v := 1) hx hb dX1_songsOf_0 (by decide) ?_
  refine lv_istore_n (lv' := [(2, .int (1 : Int32)), (0, .ref a_t), (1, .int x1)]) hx hb dX1_songsOf_1 rfl hl (by decide) rfl (fun ls hl => ?_)
  refine lv_iconst (v := 0) hx hb dX1_songsOf_2 (by decide) ?_
  refine lv_istore_n (lv' := [(3, .int (0 : Int32)), (2, .int (1 : Int32)), (0, .ref a_t), (1, .int x1)]) hx hb dX1_songsOf_3 rfl hl (by decide) rfl (fun ls hl => ?_)
  exact w_X1_songsOf_4 X0 a_t a_t_water a_t_gain a_t_drops a_t_level a_t_share a_t_song f_t_pool f_t_terraces _ FU_ x1 (1 : Int32) (0 : Int32) h H locs hP hD hS ls (lv_sub hl [2, 3, 1, 0] rfl)
set_option maxHeartbeats 4000000 in
set_option maxRecDepth 100000 in
theorem c_X1_songsOf (l : Launch) (G : va_G) (ca : Nat → ClassId) (ad av : Nat → Nat) (sz : Nat) (a_t : Nat) (a_t_water : Nat) (a_t_gain : Nat) (a_t_drops : Nat) (a_t_level : Nat) (a_t_share : Nat) (a_t_song : Nat) (f_t_pool : Int32) (f_t_terraces : Int32) (x1 : Int32) (res : Int32) (h : F_X1_songsOf f_t_terraces x1 = some res) : Met l yX1_songsOf wsX1_songsOf RM_X1_songsOf (va_Pc [.ref a_t, .int x1] (PW_ G ca ad av sz [(a_t, .inr (1, [.ref a_t_water, .ref a_t_gain, .ref a_t_drops, .ref a_t_level, .ref a_t_share, .ref a_t_song, .int f_t_terraces, .int f_t_pool]))])) (QI_ G (va_A [(a_t, .inr (1, [.ref a_t_water, .ref a_t_gain, .ref a_t_drops, .ref a_t_level, .ref a_t_share, .ref a_t_song, .int f_t_terraces, .int f_t_pool]))] sz) res [(a_t, .inr (1, [.ref a_t_water, .ref a_t_gain, .ref a_t_drops, .ref a_t_level, .ref a_t_share, .ref a_t_song, .int f_t_terraces, .int f_t_pool]))]) 0 0 (va_A [(a_t, .inr (1, [.ref a_t_water, .ref a_t_gain, .ref a_t_drops, .ref a_t_level, .ref a_t_share, .ref a_t_song, .int f_t_terraces, .int f_t_pool]))] sz) := by
  refine Met.ofW (cc := cX1_songsOf) (maxL := 4) (ret := (some .int)) (by decide) rfl ?_
  intro p e s m args below meth c s₁ B hml hv
  obtain ⟨X0, rfl, rfl, hP, hD⟩ := en_t B hml hv
  have hl := lv_entry ([.ref a_t, .int x1]) (n := 4) (Nat.le_of_ble_eq_true rfl)
  rw [lg_entry_eq]
  generalize (lg_sl ([.ref a_t, .int x1]) ++ List.replicate (4 - (lg_sl ([.ref a_t, .int x1])).length) Slot.unset).toArray = ls at hl ⊢
  exact w_X1_songsOf_0 X0 a_t a_t_water a_t_gain a_t_drops a_t_level a_t_share a_t_song f_t_pool f_t_terraces _ x1 h s.heap [] hP hD va_S.rf ls hl

/-! X1_spell -/
abbrev RM_X1_spell : Room := { frames := 1, cells := 0, slots := 0, locals := 24 }
theorem k_X1_spell_0 : Cond.fieldLink RX1 36 "DropDealers$Foresight" "terraces" "I" ∈ wsX1_spell := by decide +kernel
theorem i_X1_spell_X1 : ∀ w ∈ u_ws RX1 TX1 8, w ∈ wsX1_spell := by decide +kernel
theorem k_X1_spell_2 : Cond.fieldLink RX1 27 "DropDealers$Foresight" "song" "[I" ∈ wsX1_spell := by decide +kernel
theorem k_X1_spell_3 : Cond.methodLink RX1 75 Lib.Math.min.name ∈ wsX1_spell := by decide +kernel
theorem k_X1_spell_4 : Cond.static Lib.Math.min.name ∈ wsX1_spell := by decide +kernel
theorem k_X1_spell_5 : Cond.initialized "java/lang/Math" ∈ wsX1_spell := by decide +kernel
theorem k_X1_spell_6 : Cond.code Lib.Math.min.name Lib.Math.min.code 2 (some .int) ∈ wsX1_spell := by decide +kernel
def F_X1_spell_11 (f_t_terraces : Int32) : Nat → (Nat → Int32) → Int32 → Int32 → Option ((Nat → Int32))
  | 0, _, _, _ => none
  | n + 1, c_t_song, y3, y4 => if y4 < 0 then (some (c_t_song)) else (if f_t_terraces ≤ 0 then (some (c_t_song)) else (if f_t_terraces = 0 then none else if ok_I y4 3 = true then F_X1_spell_11 f_t_terraces n (upd c_t_song y4.toNatClampNeg (y3 - y3 / f_t_terraces * f_t_terraces)) (y3 / f_t_terraces) (y4 + (-1 : Int32)) else none))
set_option maxHeartbeats 4000000 in
set_option maxRecDepth 100000 in
theorem w_X1_spell_11 {p : Program} {l : Launch} {e : Env} {s : State} {m : MethodId} {args : Array Value} {below : List Frame} {meth : Method} {c : Code} {G : va_G} {ca : Nat → ClassId} {ad av : Nat → Nat} {A : Nat → Prop} (X0 : CX_ p s m args meth c cX1_spell 5 none wsX1_spell RX1 G ca ad av A) (a_t : Nat) (a_t_song : Nat) (a_t_water : Nat) (a_t_gain : Nat) (a_t_drops : Nat) (a_t_level : Nat) (a_t_share : Nat) (f_t_pool : Int32) (f_t_terraces : Int32) (res : (Nat → Int32)) : ∀ (n : Nat) (c_t_song : Nat → Int32) (y3 : Int32) (y4 : Int32), F_X1_spell_11 f_t_terraces n c_t_song y3 y4 = some res → ∀ (H : Heap) (locs : List Loc), va_P G vwCl [(a_t, .inr (1, [.ref a_t_water, .ref a_t_gain, .ref a_t_drops, .ref a_t_level, .ref a_t_share, .ref a_t_song, .int f_t_terraces, .int f_t_pool])), (a_t_song, .inl (ca 0, 3, .inl c_t_song))] H → va_D A [(a_t, .inr (1, [.ref a_t_water, .ref a_t_gain, .ref a_t_drops, .ref a_t_level, .ref a_t_share, .ref a_t_song, .int f_t_terraces, .int f_t_pool])), (a_t_song, .inl (ca 0, 3, .inl c_t_song))] → va_S A s.heap H locs → ∀ (ls : Array Slot), lv_has ls 5 [(0, .ref a_t), (3, .int y3), (4, .int y4)] → W p l e RM_X1_spell s m args below meth c H locs 0 0 (MQ below (QV_ G A [(a_t, .inr (1, [.ref a_t_water, .ref a_t_gain, .ref a_t_drops, .ref a_t_level, .ref a_t_share, .ref a_t_song, .int f_t_terraces, .int f_t_pool])), (a_t_song, .inl (ca 0, 3, .inl res))]) args s 0 0 A) (F0 m 11 ls []) := by
  obtain ⟨hx, hb, hr, hml, hown, hts, hlocks, hK, hA, hE⟩ := id X0
  intro n
  induction n with
  | zero => intro c_t_song y3 y4 h; cases h
  | succ n ih =>
    intro c_t_song y3 y4 h H locs hP hD hS ls hl
    rw [F_X1_spell_11] at h
    refine lv_iload hx hb dX1_spell_11 (lv_at hl 2 rfl) ?_
    refine lv_if_lt (tgt := 49) hx hb dX1_spell_13 (by decide) (fun b1 => ?_) (fun b1 => ?_)
    · have h := (if_pos b1).symm.trans h
      have h := sm_i h
      subst h
      exact W.vret hx hb hr (fun t ht hW => ⟨⟨(), rfl, trivial, by rw [ht]; exact hP, hD⟩, hS.F ht⟩) hS.2.2 dX1_spell_49
    · have h := (if_neg b1).symm.trans h
      refine lv_aload_n hx hb dX1_spell_16 rfl (lv_at hl 0 rfl) ?_
      refine va_get (D := G) (ci := 1) (v := .int f_t_terraces) (C := RX1) (T := TX1) (N := 8) hx hb hts i_X1_spell_X1 hown hK hP 0 rfl rfl 6 (by decide) (hts _ k_X1_spell_0) (fun _ h9 => h9) rfl dX1_spell_17 ?_
      refine lv_if_le (tgt := 49) hx hb dX1_spell_20 (by decide) (fun b2 => ?_) (fun b2 => ?_)
      · have h := (if_pos b2).symm.trans h
        have h := sm_i h
        subst h
        exact W.vret hx hb hr (fun t ht hW => ⟨⟨(), rfl, trivial, by rw [ht]; exact hP, hD⟩, hS.F ht⟩) hS.2.2 dX1_spell_49
      · have h := (if_neg b2).symm.trans h
        refine lv_aload_n hx hb dX1_spell_23 rfl (lv_at hl 0 rfl) ?_
        refine va_get (D := G) (ci := 1) (v := .ref a_t_song) (C := RX1) (T := TX1) (N := 8) hx hb hts i_X1_spell_X1 hown hK hP 0 rfl rfl 5 (by decide) (hts _ k_X1_spell_2) (fun _ h9 => h9) rfl dX1_spell_24 ?_
        refine lv_iload hx hb dX1_spell_27 (lv_at hl 2 rfl) ?_
        refine lv_iload_n hx hb dX1_spell_29 rfl (lv_at hl 1 rfl) ?_
        refine lv_aload_n hx hb dX1_spell_30 rfl (lv_at hl 0 rfl) ?_
        refine va_get (D := G) (ci := 1) (v := .int f_t_terraces) (C := RX1) (T := TX1) (N := 8) hx hb hts i_X1_spell_X1 hown hK hP 0 rfl rfl 6 (by decide) (hts _ k_X1_spell_0) (fun _ h9 => h9) rfl dX1_spell_31 ?_
        obtain ⟨z3, h⟩ := gd_n h
        refine lv_irem hx hb dX1_spell_34 z3 ?_
        obtain ⟨g4, h⟩ := gd_t h
        refine va_iast hx hb hK hP hD hS 1 0 rfl rfl (ok_in g4) dX1_spell_35 (fun H locs hP hD hS => ?_)
        have hP : va_P G vwCl [(a_t, .inr (1, [.ref a_t_water, .ref a_t_gain, .ref a_t_drops, .ref a_t_level, .ref a_t_share, .ref a_t_song, .int f_t_terraces, .int f_t_pool])), (a_t_song, .inl (ca 0, 3, .inl (upd c_t_song y4.toNatClampNeg (y3 - y3 / f_t_terraces * f_t_terraces))))] H := hP
        have hD : va_D A [(a_t, .inr (1, [.ref a_t_water, .ref a_t_gain, .ref a_t_drops, .ref a_t_level, .ref a_t_share, .ref a_t_song, .int f_t_terraces, .int f_t_pool])), (a_t_song, .inl (ca 0, 3, .inl (upd c_t_song y4.toNatClampNeg (y3 - y3 / f_t_terraces * f_t_terraces))))] := hD
        refine lv_iload_n hx hb dX1_spell_36 rfl (lv_at hl 1 rfl) ?_
        refine lv_aload_n hx hb dX1_spell_37 rfl (lv_at hl 0 rfl) ?_
        refine va_get (D := G) (ci := 1) (v := .int f_t_terraces) (C := RX1) (T := TX1) (N := 8) hx hb hts i_X1_spell_X1 hown hK hP 0 rfl rfl 6 (by decide) (hts _ k_X1_spell_0) (fun _ h9 => h9) rfl dX1_spell_38 ?_
        refine lv_idiv hx hb dX1_spell_41 z3 ?_
        refine lv_istore_n (lv' := [(3, .int (y3 / f_t_terraces)), (0, .ref a_t), (4, .int y4)]) hx hb dX1_spell_42 rfl hl (by decide) rfl (fun ls hl => ?_)
        refine lv_iinc (v := (y4 + (-1 : Int32))) (lv' := [(4, .int (y4 + (-1 : Int32))), (3, .int (y3 / f_t_terraces)), (0, .ref a_t)]) hx hb dX1_spell_43 hl (k := 2) rfl rfl (by decide) rfl (fun ls hl => ?_)
        refine lv_goto (tgt := 11) hx hb dX1_spell_46 (by decide) ?_
        exact ih (upd c_t_song y4.toNatClampNeg (y3 - y3 / f_t_terraces * f_t_terraces)) (y3 / f_t_terraces) (y4 + (-1 : Int32)) h H locs hP hD hS ls (lv_sub hl [2, 1, 0] rfl)
def F_X1_spell (f_t_terraces : Int32) (c_t_song : Nat → Int32) (x1 : Int32) (x2 : Int32) : Option ((Nat → Int32)) := F_X1_spell_11 f_t_terraces FU_ c_t_song x1 ((if (3 : Int32) < x2 then (3 : Int32) else x2) - (1 : Int32))
set_option maxHeartbeats 4000000 in
set_option maxRecDepth 100000 in
theorem w_X1_spell_0 {p : Program} {l : Launch} {e : Env} {s : State} {m : MethodId} {args : Array Value} {below : List Frame} {meth : Method} {c : Code} {G : va_G} {ca : Nat → ClassId} {ad av : Nat → Nat} {A : Nat → Prop} (X0 : CX_ p s m args meth c cX1_spell 5 none wsX1_spell RX1 G ca ad av A) (a_t : Nat) (a_t_song : Nat) (a_t_water : Nat) (a_t_gain : Nat) (a_t_drops : Nat) (a_t_level : Nat) (a_t_share : Nat) (f_t_pool : Int32) (f_t_terraces : Int32) (res : (Nat → Int32)) (c_t_song : Nat → Int32) (x1 : Int32) (x2 : Int32) (h : F_X1_spell f_t_terraces c_t_song x1 x2 = some res) : ∀ (H : Heap) (locs : List Loc), va_P G vwCl [(a_t, .inr (1, [.ref a_t_water, .ref a_t_gain, .ref a_t_drops, .ref a_t_level, .ref a_t_share, .ref a_t_song, .int f_t_terraces, .int f_t_pool])), (a_t_song, .inl (ca 0, 3, .inl c_t_song))] H → va_D A [(a_t, .inr (1, [.ref a_t_water, .ref a_t_gain, .ref a_t_drops, .ref a_t_level, .ref a_t_share, .ref a_t_song, .int f_t_terraces, .int f_t_pool])), (a_t_song, .inl (ca 0, 3, .inl c_t_song))] → va_S A s.heap H locs → ∀ (ls : Array Slot), lv_has ls 5 [(0, .ref a_t), (1, .int x1), (2, .int x2)] → W p l e RM_X1_spell s m args below meth c H locs 0 0 (MQ below (QV_ G A [(a_t, .inr (1, [.ref a_t_water, .ref a_t_gain, .ref a_t_drops, .ref a_t_level, .ref a_t_share, .ref a_t_song, .int f_t_terraces, .int f_t_pool])), (a_t_song, .inl (ca 0, 3, .inl res))]) args s 0 0 A) (F0 m 0 ls []) := by
  obtain ⟨hx, hb, hr, hml, hown, hts, hlocks, hK, hA, hE⟩ := id X0
  intro H locs hP hD hS ls hl
  unfold F_X1_spell at h
  refine lv_iload_n hx hb dX1_spell_0 rfl (lv_at hl 1 rfl) ?_
  refine lv_istore_n (lv' := [(3, .int x1), (0, .ref a_t), (1, .int x1), (2, .int x2)]) hx hb dX1_spell_1 rfl hl (by decide) rfl (fun ls hl => ?_)
  refine lv_iload_n hx hb dX1_spell_2 rfl (lv_at hl 3 rfl) ?_
  refine lv_iconst (v := 3) hx hb dX1_spell_3 (by decide) ?_
  refine va_mmin hx hb (hml.trans hl.1.symm) hown (hts _ k_X1_spell_3) (hts _ k_X1_spell_4) (hts _ k_X1_spell_5) (hts _ k_X1_spell_6) (Nat.le_of_ble_eq_true rfl) (Nat.le_of_ble_eq_true rfl) (Nat.zero_le _) (Nat.zero_le _) dX1_spell_4 ?_
  refine lv_iconst (v := 1) hx hb dX1_spell_7 (by decide) ?_
  refine lv_isub hx hb dX1_spell_8 ?_
  refine lv_istore (lv' := [(4, .int ((if (3 : Int32) < x2 then (3 : Int32) else x2) - (1 : Int32))), (3, .int x1), (0, .ref a_t), (1, .int x1), (2, .int x2)]) hx hb dX1_spell_9 hl (by decide) rfl (fun ls hl => ?_)
  exact w_X1_spell_11 X0 a_t a_t_song a_t_water a_t_gain a_t_drops a_t_level a_t_share f_t_pool f_t_terraces _ FU_ c_t_song x1 ((if (3 : Int32) < x2 then (3 : Int32) else x2) - (1 : Int32)) h H locs hP hD hS ls (lv_sub hl [2, 1, 0] rfl)
set_option maxHeartbeats 4000000 in
set_option maxRecDepth 100000 in
theorem c_X1_spell (l : Launch) (G : va_G) (ca : Nat → ClassId) (ad av : Nat → Nat) (sz : Nat) (a_t : Nat) (a_t_song : Nat) (a_t_water : Nat) (a_t_gain : Nat) (a_t_drops : Nat) (a_t_level : Nat) (a_t_share : Nat) (f_t_pool : Int32) (f_t_terraces : Int32) (c_t_song : Nat → Int32) (x1 : Int32) (x2 : Int32) (res : (Nat → Int32)) (h : F_X1_spell f_t_terraces c_t_song x1 x2 = some res) : Met l yX1_spell wsX1_spell RM_X1_spell (va_Pc [.ref a_t, .int x1, .int x2] (PW_ G ca ad av sz [(a_t, .inr (1, [.ref a_t_water, .ref a_t_gain, .ref a_t_drops, .ref a_t_level, .ref a_t_share, .ref a_t_song, .int f_t_terraces, .int f_t_pool])), (a_t_song, .inl (ca 0, 3, .inl c_t_song))])) (QV_ G (va_A [(a_t, .inr (1, [.ref a_t_water, .ref a_t_gain, .ref a_t_drops, .ref a_t_level, .ref a_t_share, .ref a_t_song, .int f_t_terraces, .int f_t_pool])), (a_t_song, .inl (ca 0, 3, .inl c_t_song))] sz) [(a_t, .inr (1, [.ref a_t_water, .ref a_t_gain, .ref a_t_drops, .ref a_t_level, .ref a_t_share, .ref a_t_song, .int f_t_terraces, .int f_t_pool])), (a_t_song, .inl (ca 0, 3, .inl res))]) 0 0 (va_A [(a_t, .inr (1, [.ref a_t_water, .ref a_t_gain, .ref a_t_drops, .ref a_t_level, .ref a_t_share, .ref a_t_song, .int f_t_terraces, .int f_t_pool])), (a_t_song, .inl (ca 0, 3, .inl c_t_song))] sz) := by
  refine Met.ofW (cc := cX1_spell) (maxL := 5) (ret := none) (by decide) rfl ?_
  intro p e s m args below meth c s₁ B hml hv
  obtain ⟨X0, rfl, rfl, hP, hD⟩ := en_t B hml hv
  have hl := lv_entry ([.ref a_t, .int x1, .int x2]) (n := 5) (Nat.le_of_ble_eq_true rfl)
  rw [lg_entry_eq]
  generalize (lg_sl ([.ref a_t, .int x1, .int x2]) ++ List.replicate (5 - (lg_sl ([.ref a_t, .int x1, .int x2])).length) Slot.unset).toArray = ls at hl ⊢
  exact w_X1_spell_0 X0 a_t a_t_song a_t_water a_t_gain a_t_drops a_t_level a_t_share f_t_pool f_t_terraces _ c_t_song x1 x2 h s.heap [] hP hD va_S.rf ls hl

/-! X1_singDay -/
abbrev RM_X1_singDay : Room := { frames := 0, cells := 0, slots := 0, locals := 0 }
theorem k_X1_singDay_0 : Cond.fieldLink RX1 21 "DropDealers$Foresight" "level" "[I" ∈ wsX1_singDay := by decide +kernel
theorem i_X1_singDay_X1 : ∀ w ∈ u_ws RX1 TX1 8, w ∈ wsX1_singDay := by decide +kernel
theorem k_X1_singDay_2 : Cond.fieldLink RX1 27 "DropDealers$Foresight" "song" "[I" ∈ wsX1_singDay := by decide +kernel
def F_X1_singDay_3 (c_t_song : Nat → Int32) : Nat → (Nat → Int32) → Int32 → Int32 → Int32 → Int32 → Option ((Nat → Int32))
  | 0, _, _, _, _, _ => none
  | n + 1, c_t_level, y1, y2, y3, y4 => if y1 ≤ y4 then (some (c_t_level)) else (if (3 : Int32) < y1 then (some (c_t_level)) else (if y1 = 0 then none else if ok_I ((y2 + y4) - (y2 + y4) / y1 * y1) 3 = true then if ok_I (c_t_song ((y2 + y4) - (y2 + y4) / y1 * y1).toNatClampNeg) 6 = true then F_X1_singDay_3 c_t_song n (upd c_t_level (c_t_song ((y2 + y4) - (y2 + y4) / y1 * y1).toNatClampNeg).toNatClampNeg ((c_t_level (c_t_song ((y2 + y4) - (y2 + y4) / y1 * y1).toNatClampNeg).toNatClampNeg) + ((((y3 - y4) + y1) - (1 : Int32)) / y1))) y1 y2 y3 (y4 + (1 : Int32)) else none else none))
set_option maxHeartbeats 4000000 in
set_option maxRecDepth 100000 in
theorem w_X1_singDay_3 {p : Program} {l : Launch} {e : Env} {s : State} {m : MethodId} {args : Array Value} {below : List Frame} {meth : Method} {c : Code} {G : va_G} {ca : Nat → ClassId} {ad av : Nat → Nat} {A : Nat → Prop} (X0 : CX_ p s m args meth c cX1_singDay 5 none wsX1_singDay RX1 G ca ad av A) (a_t : Nat) (a_t_level : Nat) (a_t_song : Nat) (a_t_water : Nat) (a_t_gain : Nat) (a_t_drops : Nat) (a_t_share : Nat) (f_t_terraces : Int32) (f_t_pool : Int32) (c_t_song : Nat → Int32) (res : (Nat → Int32)) : ∀ (n : Nat) (c_t_level : Nat → Int32) (y1 : Int32) (y2 : Int32) (y3 : Int32) (y4 : Int32), F_X1_singDay_3 c_t_song n c_t_level y1 y2 y3 y4 = some res → ∀ (H : Heap) (locs : List Loc), va_P G vwCl [(a_t, .inr (1, [.ref a_t_water, .ref a_t_gain, .ref a_t_drops, .ref a_t_level, .ref a_t_share, .ref a_t_song, .int f_t_terraces, .int f_t_pool])), (a_t_level, .inl (ca 0, 6, .inl c_t_level)), (a_t_song, .inl (ca 0, 3, .inl c_t_song))] H → va_D A [(a_t, .inr (1, [.ref a_t_water, .ref a_t_gain, .ref a_t_drops, .ref a_t_level, .ref a_t_share, .ref a_t_song, .int f_t_terraces, .int f_t_pool])), (a_t_level, .inl (ca 0, 6, .inl c_t_level)), (a_t_song, .inl (ca 0, 3, .inl c_t_song))] → va_S A s.heap H locs → ∀ (ls : Array Slot), lv_has ls 5 [(0, .ref a_t), (1, .int y1), (2, .int y2), (3, .int y3), (4, .int y4)] → W p l e RM_X1_singDay s m args below meth c H locs 0 0 (MQ below (QV_ G A [(a_t, .inr (1, [.ref a_t_water, .ref a_t_gain, .ref a_t_drops, .ref a_t_level, .ref a_t_share, .ref a_t_song, .int f_t_terraces, .int f_t_pool])), (a_t_level, .inl (ca 0, 6, .inl res)), (a_t_song, .inl (ca 0, 3, .inl c_t_song))]) args s 0 0 A) (F0 m 3 ls []) := by
  obtain ⟨hx, hb, hr, hml, hown, hts, hlocks, hK, hA, hE⟩ := id X0
  intro n
  induction n with
  | zero => intro c_t_level y1 y2 y3 y4 h; cases h
  | succ n ih =>
    intro c_t_level y1 y2 y3 y4 h H locs hP hD hS ls hl
    rw [F_X1_singDay_3] at h
    refine lv_iload hx hb dX1_singDay_3 (lv_at hl 4 rfl) ?_
    refine lv_iload_n hx hb dX1_singDay_5 rfl (lv_at hl 1 rfl) ?_
    refine lv_icmp_ge (tgt := 49) hx hb dX1_singDay_6 (by decide) (fun b1 => ?_) (fun b1 => ?_)
    · have h := (if_pos b1).symm.trans h
      have h := sm_i h
      subst h
      exact W.vret hx hb hr (fun t ht hW => ⟨⟨(), rfl, trivial, by rw [ht]; exact hP, hD⟩, hS.F ht⟩) hS.2.2 dX1_singDay_49
    · have h := (if_neg b1).symm.trans h
      refine lv_iload_n hx hb dX1_singDay_9 rfl (lv_at hl 1 rfl) ?_
      refine lv_iconst (v := 3) hx hb dX1_singDay_10 (by decide) ?_
      refine lv_icmp_gt (tgt := 49) hx hb dX1_singDay_11 (by decide) (fun b2 => ?_) (fun b2 => ?_)
      · have h := (if_pos b2).symm.trans h
        have h := sm_i h
        subst h
        exact W.vret hx hb hr (fun t ht hW => ⟨⟨(), rfl, trivial, by rw [ht]; exact hP, hD⟩, hS.F ht⟩) hS.2.2 dX1_singDay_49
      · have h := (if_neg b2).symm.trans h
        refine lv_aload_n hx hb dX1_singDay_14 rfl (lv_at hl 0 rfl) ?_
        refine va_get (D := G) (ci := 1) (v := .ref a_t_level) (C := RX1) (T := TX1) (N := 8) hx hb hts i_X1_singDay_X1 hown hK hP 0 rfl rfl 3 (by decide) (hts _ k_X1_singDay_0) (fun _ h9 => h9) rfl dX1_singDay_15 ?_
        refine lv_aload_n hx hb dX1_singDay_18 rfl (lv_at hl 0 rfl) ?_
        refine va_get (D := G) (ci := 1) (v := .ref a_t_song) (C := RX1) (T := TX1) (N := 8) hx hb hts i_X1_singDay_X1 hown hK hP 0 rfl rfl 5 (by decide) (hts _ k_X1_singDay_2) (fun _ h9 => h9) rfl dX1_singDay_19 ?_
        refine lv_iload_n hx hb dX1_singDay_22 rfl (lv_at hl 2 rfl) ?_
        refine lv_iload hx hb dX1_singDay_23 (lv_at hl 4 rfl) ?_
        refine lv_iadd hx hb dX1_singDay_25 ?_
        refine lv_iload_n hx hb dX1_singDay_26 rfl (lv_at hl 1 rfl) ?_
        obtain ⟨z3, h⟩ := gd_n h
        refine lv_irem hx hb dX1_singDay_27 z3 ?_
        obtain ⟨g4, h⟩ := gd_t h
        refine va_iald hx hb hK hP 2 0 rfl rfl (ok_in g4) dX1_singDay_28 ?_
        refine lv_dup2_11 hx hb dX1_singDay_29 rfl rfl ?_
        obtain ⟨g5, h⟩ := gd_t h
        refine va_iald hx hb hK hP 1 0 rfl rfl (ok_in g5) dX1_singDay_30 ?_
        refine lv_iload_n hx hb dX1_singDay_31 rfl (lv_at hl 3 rfl) ?_
        refine lv_iload hx hb dX1_singDay_32 (lv_at hl 4 rfl) ?_
        refine lv_isub hx hb dX1_singDay_34 ?_
        refine lv_iload_n hx hb dX1_singDay_35 rfl (lv_at hl 1 rfl) ?_
        refine lv_iadd hx hb dX1_singDay_36 ?_
        refine lv_iconst (v := 1) hx hb dX1_singDay_37 (by decide) ?_
        refine lv_isub hx hb dX1_singDay_38 ?_
        refine lv_iload_n hx hb dX1_singDay_39 rfl (lv_at hl 1 rfl) ?_
        refine lv_idiv hx hb dX1_singDay_40 z3 ?_
        refine lv_iadd hx hb dX1_singDay_41 ?_
        refine va_iast hx hb hK hP hD hS 1 0 rfl rfl (ok_in g5) dX1_singDay_42 (fun H locs hP hD hS => ?_)
        have hP : va_P G vwCl [(a_t, .inr (1, [.ref a_t_water, .ref a_t_gain, .ref a_t_drops, .ref a_t_level, .ref a_t_share, .ref a_t_song, .int f_t_terraces, .int f_t_pool])), (a_t_level, .inl (ca 0, 6, .inl (upd c_t_level (c_t_song ((y2 + y4) - (y2 + y4) / y1 * y1).toNatClampNeg).toNatClampNeg ((c_t_level (c_t_song ((y2 + y4) - (y2 + y4) / y1 * y1).toNatClampNeg).toNatClampNeg) + ((((y3 - y4) + y1) - (1 : Int32)) / y1))))), (a_t_song, .inl (ca 0, 3, .inl c_t_song))] H := hP
        have hD : va_D A [(a_t, .inr (1, [.ref a_t_water, .ref a_t_gain, .ref a_t_drops, .ref a_t_level, .ref a_t_share, .ref a_t_song, .int f_t_terraces, .int f_t_pool])), (a_t_level, .inl (ca 0, 6, .inl (upd c_t_level (c_t_song ((y2 + y4) - (y2 + y4) / y1 * y1).toNatClampNeg).toNatClampNeg ((c_t_level (c_t_song ((y2 + y4) - (y2 + y4) / y1 * y1).toNatClampNeg).toNatClampNeg) + ((((y3 - y4) + y1) - (1 : Int32)) / y1))))), (a_t_song, .inl (ca 0, 3, .inl c_t_song))] := hD
        refine lv_iinc (v := (y4 + (1 : Int32))) (lv' := [(4, .int (y4 + (1 : Int32))), (0, .ref a_t), (1, .int y1), (2, .int y2), (3, .int y3)]) hx hb dX1_singDay_43 hl (k := 4) rfl rfl (by decide) rfl (fun ls hl => ?_)
        refine lv_goto (tgt := 3) hx hb dX1_singDay_46 (by decide) ?_
        exact ih (upd c_t_level (c_t_song ((y2 + y4) - (y2 + y4) / y1 * y1).toNatClampNeg).toNatClampNeg ((c_t_level (c_t_song ((y2 + y4) - (y2 + y4) / y1 * y1).toNatClampNeg).toNatClampNeg) + ((((y3 - y4) + y1) - (1 : Int32)) / y1))) y1 y2 y3 (y4 + (1 : Int32)) h H locs hP hD hS ls (lv_sub hl [1, 2, 3, 4, 0] rfl)
def F_X1_singDay (c_t_song : Nat → Int32) (c_t_level : Nat → Int32) (x1 : Int32) (x2 : Int32) (x3 : Int32) : Option ((Nat → Int32)) := F_X1_singDay_3 c_t_song FU_ c_t_level x1 x2 x3 (0 : Int32)
set_option maxHeartbeats 4000000 in
set_option maxRecDepth 100000 in
theorem w_X1_singDay_0 {p : Program} {l : Launch} {e : Env} {s : State} {m : MethodId} {args : Array Value} {below : List Frame} {meth : Method} {c : Code} {G : va_G} {ca : Nat → ClassId} {ad av : Nat → Nat} {A : Nat → Prop} (X0 : CX_ p s m args meth c cX1_singDay 5 none wsX1_singDay RX1 G ca ad av A) (a_t : Nat) (a_t_level : Nat) (a_t_song : Nat) (a_t_water : Nat) (a_t_gain : Nat) (a_t_drops : Nat) (a_t_share : Nat) (f_t_terraces : Int32) (f_t_pool : Int32) (c_t_song : Nat → Int32) (res : (Nat → Int32)) (c_t_level : Nat → Int32) (x1 : Int32) (x2 : Int32) (x3 : Int32) (h : F_X1_singDay c_t_song c_t_level x1 x2 x3 = some res) : ∀ (H : Heap) (locs : List Loc), va_P G vwCl [(a_t, .inr (1, [.ref a_t_water, .ref a_t_gain, .ref a_t_drops, .ref a_t_level, .ref a_t_share, .ref a_t_song, .int f_t_terraces, .int f_t_pool])), (a_t_level, .inl (ca 0, 6, .inl c_t_level)), (a_t_song, .inl (ca 0, 3, .inl c_t_song))] H → va_D A [(a_t, .inr (1, [.ref a_t_water, .ref a_t_gain, .ref a_t_drops, .ref a_t_level, .ref a_t_share, .ref a_t_song, .int f_t_terraces, .int f_t_pool])), (a_t_level, .inl (ca 0, 6, .inl c_t_level)), (a_t_song, .inl (ca 0, 3, .inl c_t_song))] → va_S A s.heap H locs → ∀ (ls : Array Slot), lv_has ls 5 [(0, .ref a_t), (1, .int x1), (2, .int x2), (3, .int x3)] → W p l e RM_X1_singDay s m args below meth c H locs 0 0 (MQ below (QV_ G A [(a_t, .inr (1, [.ref a_t_water, .ref a_t_gain, .ref a_t_drops, .ref a_t_level, .ref a_t_share, .ref a_t_song, .int f_t_terraces, .int f_t_pool])), (a_t_level, .inl (ca 0, 6, .inl res)), (a_t_song, .inl (ca 0, 3, .inl c_t_song))]) args s 0 0 A) (F0 m 0 ls []) := by
  obtain ⟨hx, hb, hr, hml, hown, hts, hlocks, hK, hA, hE⟩ := id X0
  intro H locs hP hD hS ls hl
  unfold F_X1_singDay at h
  refine lv_iconst (v := 0) hx hb dX1_singDay_0 (by decide) ?_
  refine lv_istore (lv' := [(4, .int (0 : Int32)), (0, .ref a_t), (1, .int x1), (2, .int x2), (3, .int x3)]) hx hb dX1_singDay_1 hl (by decide) rfl (fun ls hl => ?_)
  exact w_X1_singDay_3 X0 a_t a_t_level a_t_song a_t_water a_t_gain a_t_drops a_t_share f_t_terraces f_t_pool c_t_song _ FU_ c_t_level x1 x2 x3 (0 : Int32) h H locs hP hD hS ls (lv_sub hl [1, 2, 3, 4, 0] rfl)
set_option maxHeartbeats 4000000 in
set_option maxRecDepth 100000 in
theorem c_X1_singDay (l : Launch) (G : va_G) (ca : Nat → ClassId) (ad av : Nat → Nat) (sz : Nat) (a_t : Nat) (a_t_level : Nat) (a_t_song : Nat) (a_t_water : Nat) (a_t_gain : Nat) (a_t_drops : Nat) (a_t_share : Nat) (f_t_terraces : Int32) (f_t_pool : Int32) (c_t_song : Nat → Int32) (c_t_level : Nat → Int32) (x1 : Int32) (x2 : Int32) (x3 : Int32) (res : (Nat → Int32)) (h : F_X1_singDay c_t_song c_t_level x1 x2 x3 = some res) : Met l yX1_singDay wsX1_singDay RM_X1_singDay (va_Pc [.ref a_t, .int x1, .int x2, .int x3] (PW_ G ca ad av sz [(a_t, .inr (1, [.ref a_t_water, .ref a_t_gain, .ref a_t_drops, .ref a_t_level, .ref a_t_share, .ref a_t_song, .int f_t_terraces, .int f_t_pool])), (a_t_level, .inl (ca 0, 6, .inl c_t_level)), (a_t_song, .inl (ca 0, 3, .inl c_t_song))])) (QV_ G (va_A [(a_t, .inr (1, [.ref a_t_water, .ref a_t_gain, .ref a_t_drops, .ref a_t_level, .ref a_t_share, .ref a_t_song, .int f_t_terraces, .int f_t_pool])), (a_t_level, .inl (ca 0, 6, .inl c_t_level)), (a_t_song, .inl (ca 0, 3, .inl c_t_song))] sz) [(a_t, .inr (1, [.ref a_t_water, .ref a_t_gain, .ref a_t_drops, .ref a_t_level, .ref a_t_share, .ref a_t_song, .int f_t_terraces, .int f_t_pool])), (a_t_level, .inl (ca 0, 6, .inl res)), (a_t_song, .inl (ca 0, 3, .inl c_t_song))]) 0 0 (va_A [(a_t, .inr (1, [.ref a_t_water, .ref a_t_gain, .ref a_t_drops, .ref a_t_level, .ref a_t_share, .ref a_t_song, .int f_t_terraces, .int f_t_pool])), (a_t_level, .inl (ca 0, 6, .inl c_t_level)), (a_t_song, .inl (ca 0, 3, .inl c_t_song))] sz) := by
  refine Met.ofW (cc := cX1_singDay) (maxL := 5) (ret := none) (by decide) rfl ?_
  intro p e s m args below meth c s₁ B hml hv
  obtain ⟨X0, rfl, rfl, hP, hD⟩ := en_t B hml hv
  have hl := lv_entry ([.ref a_t, .int x1, .int x2, .int x3]) (n := 5) (Nat.le_of_ble_eq_true rfl)
  rw [lg_entry_eq]
  generalize (lg_sl ([.ref a_t, .int x1, .int x2, .int x3]) ++ List.replicate (5 - (lg_sl ([.ref a_t, .int x1, .int x2, .int x3])).length) Slot.unset).toArray = ls at hl ⊢
  exact w_X1_singDay_0 X0 a_t a_t_level a_t_song a_t_water a_t_gain a_t_drops a_t_share f_t_terraces f_t_pool c_t_song _ c_t_level x1 x2 x3 h s.heap [] hP hD va_S.rf ls hl

/-! X1_lackBySong -/
abbrev RM_X1_lackBySong : Room := { frames := 2, cells := 0, slots := 0, locals := 80 }
theorem k_X1_lackBySong_0 : Cond.fieldLink RX1 18 "DropDealers$Foresight" "drops" "[I" ∈ wsX1_lackBySong := by decide +kernel
theorem i_X1_lackBySong_X1 : ∀ w ∈ u_ws RX1 TX1 8, w ∈ wsX1_lackBySong := by decide +kernel
def F_X1_lackBySong_13 (c_t_water : Nat → Int32) (c_t_gain : Nat → Int32) (c_t_drops : Nat → Int32) (c_t_song : Nat → Int32) (f_t_terraces : Int32) : Nat → (Nat → Int32) → Int32 → Int32 → Int32 → Int32 → Int32 → Int32 → Int32 → Option (Int32 × (Nat → Int32) × Int32)
  | 0, _, _, _, _, _, _, _, _ => none
  | n + 1, c_t_level, f_t_pool, y1, y2, y3, y4, y5, y6 => if y2 ≤ y6 then (some (y5, c_t_level, f_t_pool)) else (if (40 : Int32) ≤ y6 then (some (y5, c_t_level, f_t_pool)) else (if y3 ≤ y5 then (some (y5, c_t_level, f_t_pool)) else (if ok_I y6 40 = true then (F_X1_singDay c_t_song c_t_level y1 y4 (c_t_drops y6.toNatClampNeg)).bind (fun u5 => (F_X1_passDay c_t_gain f_t_terraces u5).bind (fun u7 => F_X1_lackBySong_13 c_t_water c_t_gain c_t_drops c_t_song f_t_terraces n u7.2 f_t_pool y1 y2 y3 (y4 + (c_t_drops y6.toNatClampNeg)) (y5 + u7.1) (y6 + (1 : Int32)))) else none)))
set_option maxHeartbeats 4000000 in
set_option maxRecDepth 100000 in
theorem w_X1_lackBySong_13 {p : Program} {l : Launch} {e : Env} {s : State} {m : MethodId} {args : Array Value} {below : List Frame} {meth : Method} {c : Code} {G : va_G} {ca : Nat → ClassId} {ad av : Nat → Nat} {A : Nat → Prop} (X0 : CX_ p s m args meth c cX1_lackBySong 7 (some .int) wsX1_lackBySong RX1 G ca ad av A) (a_t : Nat) (a_t_water : Nat) (a_t_gain : Nat) (a_t_drops : Nat) (a_t_level : Nat) (a_t_song : Nat) (a_t_share : Nat)  (c_t_water : Nat → Int32) (c_t_gain : Nat → Int32) (c_t_drops : Nat → Int32) (c_t_song : Nat → Int32) (f_t_terraces : Int32) (res : Int32 × (Nat → Int32) × Int32) : ∀ (n : Nat) (c_t_level : Nat → Int32) (f_t_pool : Int32) (y1 : Int32) (y2 : Int32) (y3 : Int32) (y4 : Int32) (y5 : Int32) (y6 : Int32), F_X1_lackBySong_13 c_t_water c_t_gain c_t_drops c_t_song f_t_terraces n c_t_level f_t_pool y1 y2 y3 y4 y5 y6 = some res → ∀ (H : Heap) (locs : List Loc), va_P G vwCl [(a_t, .inr (1, [.ref a_t_water, .ref a_t_gain, .ref a_t_drops, .ref a_t_level, .ref a_t_share, .ref a_t_song, .int f_t_terraces, .int f_t_pool])), (a_t_water, .inl (ca 0, 6, .inl c_t_water)), (a_t_gain, .inl (ca 0, 6, .inl c_t_gain)), (a_t_drops, .inl (ca 0, 40, .inl c_t_drops)), (a_t_level, .inl (ca 0, 6, .inl c_t_level)), (a_t_song, .inl (ca 0, 3, .inl c_t_song))] H → va_D A [(a_t, .inr (1, [.ref a_t_water, .ref a_t_gain, .ref a_t_drops, .ref a_t_level, .ref a_t_share, .ref a_t_song, .int f_t_terraces, .int f_t_pool])), (a_t_water, .inl (ca 0, 6, .inl c_t_water)), (a_t_gain, .inl (ca 0, 6, .inl c_t_gain)), (a_t_drops, .inl (ca 0, 40, .inl c_t_drops)), (a_t_level, .inl (ca 0, 6, .inl c_t_level)), (a_t_song, .inl (ca 0, 3, .inl c_t_song))] → va_S A s.heap H locs → ∀ (ls : Array Slot), lv_has ls 7 [(0, .ref a_t), (1, .int y1), (2, .int y2), (3, .int y3), (4, .int y4), (5, .int y5), (6, .int y6)] → W p l e RM_X1_lackBySong s m args below meth c H locs 0 0 (MQ below (QI_ G A res.1 [(a_t, .inr (1, [.ref a_t_water, .ref a_t_gain, .ref a_t_drops, .ref a_t_level, .ref a_t_share, .ref a_t_song, .int f_t_terraces, .int res.2.2])), (a_t_water, .inl (ca 0, 6, .inl c_t_water)), (a_t_gain, .inl (ca 0, 6, .inl c_t_gain)), (a_t_drops, .inl (ca 0, 40, .inl c_t_drops)), (a_t_level, .inl (ca 0, 6, .inl res.2.1)), (a_t_song, .inl (ca 0, 3, .inl c_t_song))]) args s 0 0 A) (F0 m 13 ls []) := by
  obtain ⟨hx, hb, hr, hml, hown, hts, hlocks, hK, hA, hE⟩ := id X0
  intro n
  induction n with
  | zero => intro c_t_level f_t_pool y1 y2 y3 y4 y5 y6 h; cases h
  | succ n ih =>
    intro c_t_level f_t_pool y1 y2 y3 y4 y5 y6 h H locs hP hD hS ls hl
    rw [F_X1_lackBySong_13] at h
    refine lv_iload hx hb dX1_lackBySong_13 (lv_at hl 6 rfl) ?_
    refine lv_iload_n hx hb dX1_lackBySong_15 rfl (lv_at hl 2 rfl) ?_
    refine lv_icmp_ge (tgt := 73) hx hb dX1_lackBySong_16 (by decide) (fun b1 => ?_) (fun b1 => ?_)
    · have h := (if_pos b1).symm.trans h
      refine lv_iload hx hb dX1_lackBySong_73 (lv_at hl 5 rfl) ?_
      have h := sm_i h
      subst h
      exact W.iret (v := y5) hx hb hr (fun t ht hW => ⟨⟨y5, (), rfl, rfl, by rw [ht]; exact hP, hD⟩, hS.F ht⟩) hS.2.2 dX1_lackBySong_75
    · have h := (if_neg b1).symm.trans h
      refine lv_iload hx hb dX1_lackBySong_19 (lv_at hl 6 rfl) ?_
      refine lv_bipush (v := 40) hx hb dX1_lackBySong_21 (by decide) ?_
      refine lv_icmp_ge (tgt := 73) hx hb dX1_lackBySong_23 (by decide) (fun b2 => ?_) (fun b2 => ?_)
      · have h := (if_pos b2).symm.trans h
        refine lv_iload hx hb dX1_lackBySong_73 (lv_at hl 5 rfl) ?_
        have h := sm_i h
        subst h
        exact W.iret (v := y5) hx hb hr (fun t ht hW => ⟨⟨y5, (), rfl, rfl, by rw [ht]; exact hP, hD⟩, hS.F ht⟩) hS.2.2 dX1_lackBySong_75
      · have h := (if_neg b2).symm.trans h
        refine lv_iload hx hb dX1_lackBySong_26 (lv_at hl 5 rfl) ?_
        refine lv_iload_n hx hb dX1_lackBySong_28 rfl (lv_at hl 3 rfl) ?_
        refine lv_icmp_ge (tgt := 73) hx hb dX1_lackBySong_29 (by decide) (fun b3 => ?_) (fun b3 => ?_)
        · have h := (if_pos b3).symm.trans h
          refine lv_iload hx hb dX1_lackBySong_73 (lv_at hl 5 rfl) ?_
          have h := sm_i h
          subst h
          exact W.iret (v := y5) hx hb hr (fun t ht hW => ⟨⟨y5, (), rfl, rfl, by rw [ht]; exact hP, hD⟩, hS.F ht⟩) hS.2.2 dX1_lackBySong_75
        · have h := (if_neg b3).symm.trans h
          refine lv_aload_n hx hb dX1_lackBySong_32 rfl (lv_at hl 0 rfl) ?_
          refine lv_iload_n hx hb dX1_lackBySong_33 rfl (lv_at hl 1 rfl) ?_
          refine lv_iload hx hb dX1_lackBySong_34 (lv_at hl 4 rfl) ?_
          refine lv_aload_n hx hb dX1_lackBySong_36 rfl (lv_at hl 0 rfl) ?_
          refine va_get (D := G) (ci := 1) (v := .ref a_t_drops) (C := RX1) (T := TX1) (N := 8) hx hb hts i_X1_lackBySong_X1 hown hK hP 0 rfl rfl 2 (by decide) (hts _ k_X1_lackBySong_0) (fun _ h9 => h9) rfl dX1_lackBySong_37 ?_
          refine lv_iload hx hb dX1_lackBySong_40 (lv_at hl 6 rfl) ?_
          obtain ⟨g4, h⟩ := gd_t h
          refine va_iald hx hb hK hP 3 0 rfl rfl (ok_in g4) dX1_lackBySong_42 ?_
          obtain ⟨u5, hc6, h⟩ := bd_o h
          refine jn_v (wr := [(a_t_water, .inl (ca 0, 6, .inl c_t_water)), (a_t_gain, .inl (ca 0, 6, .inl c_t_gain)), (a_t_drops, .inl (ca 0, 40, .inl c_t_drops))]) (ws' := [(a_t, .inr (1, [.ref a_t_water, .ref a_t_gain, .ref a_t_drops, .ref a_t_level, .ref a_t_share, .ref a_t_song, .int f_t_terraces, .int f_t_pool])), (a_t_water, .inl (ca 0, 6, .inl c_t_water)), (a_t_gain, .inl (ca 0, 6, .inl c_t_gain)), (a_t_drops, .inl (ca 0, 40, .inl c_t_drops)), (a_t_level, .inl (ca 0, 6, .inl u5)), (a_t_song, .inl (ca 0, 3, .inl c_t_song))]) (va_runV (As := [.int y1, .int y4, .int (c_t_drops y6.toNatClampNeg)]) (rest := []) ⟨hx, hb, hml, hown, hts⟩ (c_X1_singDay l G ca ad av H.size a_t a_t_level a_t_song a_t_water a_t_gain a_t_drops a_t_share f_t_terraces f_t_pool c_t_song c_t_level y1 y4 (c_t_drops y6.toNatClampNeg) u5 hc6) (cwV 3 hts gX1_lackBySong_X1_singDay rfl rfl rfl (by decide +kernel) ⟨Nat.le_of_ble_eq_true rfl, Nat.le_of_ble_eq_true rfl⟩) (pre_v (q0 := 0) (ci := 1) hK hE hA hP hD hS [0, 4, 5] rfl (by decide) rfl rfl) rfl rfl hl.1 rfl (lv_room (Nat.le_of_ble_eq_true rfl)) dX1_lackBySong_43 ⟨Nat.le_of_ble_eq_true rfl, Nat.le_of_ble_eq_true rfl⟩) hA hP hD hS [0, 4, 5] [1, 2, 3] [3, 0, 1, 2, 4, 5] rfl rfl (by decide) (by decide) (by decide) rfl (fun H locs hP hD hS => ?_)
          refine lv_iload hx hb dX1_lackBySong_46 (lv_at hl 4 rfl) ?_
          refine lv_aload_n hx hb dX1_lackBySong_48 rfl (lv_at hl 0 rfl) ?_
          refine va_get (D := G) (ci := 1) (v := .ref a_t_drops) (C := RX1) (T := TX1) (N := 8) hx hb hts i_X1_lackBySong_X1 hown hK hP 0 rfl rfl 2 (by decide) (hts _ k_X1_lackBySong_0) (fun _ h9 => h9) rfl dX1_lackBySong_49 ?_
          refine lv_iload hx hb dX1_lackBySong_52 (lv_at hl 6 rfl) ?_
          refine va_iald hx hb hK hP 3 0 rfl rfl (ok_in g4) dX1_lackBySong_54 ?_
          refine lv_iadd hx hb dX1_lackBySong_55 ?_
          refine lv_istore (lv' := [(4, .int (y4 + (c_t_drops y6.toNatClampNeg))), (0, .ref a_t), (1, .int y1), (2, .int y2), (3, .int y3), (5, .int y5), (6, .int y6)]) hx hb dX1_lackBySong_56 hl (by decide) rfl (fun ls hl => ?_)
          refine lv_iload hx hb dX1_lackBySong_58 (lv_at hl 5 rfl) ?_
          refine lv_aload_n hx hb dX1_lackBySong_60 rfl (lv_at hl 1 rfl) ?_
          obtain ⟨u7, hc8, h⟩ := bd_o h
          refine jn_i (wr := [(a_t_water, .inl (ca 0, 6, .inl c_t_water)), (a_t_drops, .inl (ca 0, 40, .inl c_t_drops)), (a_t_song, .inl (ca 0, 3, .inl c_t_song))]) (ws' := [(a_t, .inr (1, [.ref a_t_water, .ref a_t_gain, .ref a_t_drops, .ref a_t_level, .ref a_t_share, .ref a_t_song, .int f_t_terraces, .int f_t_pool])), (a_t_water, .inl (ca 0, 6, .inl c_t_water)), (a_t_gain, .inl (ca 0, 6, .inl c_t_gain)), (a_t_drops, .inl (ca 0, 40, .inl c_t_drops)), (a_t_level, .inl (ca 0, 6, .inl u7.2)), (a_t_song, .inl (ca 0, 3, .inl c_t_song))]) (va_runV (As := []) (rest := [.int y5]) ⟨hx, hb, hml, hown, hts⟩ (c_X1_passDay l G ca ad av H.size a_t a_t_gain a_t_level a_t_water a_t_drops a_t_share a_t_song f_t_pool c_t_gain f_t_terraces u5 u7 hc8) (cwV 0 hts gX1_lackBySong_X1_passDay rfl rfl rfl (by decide +kernel) ⟨Nat.le_of_ble_eq_true rfl, Nat.le_of_ble_eq_true rfl⟩) (pre_v (q0 := 0) (ci := 1) hK hE hA hP hD hS [0, 2, 4] rfl (by decide) rfl rfl) rfl rfl hl.1 rfl (lv_room (Nat.le_of_ble_eq_true rfl)) dX1_lackBySong_61 ⟨Nat.le_of_ble_eq_true rfl, Nat.le_of_ble_eq_true rfl⟩) hA hP hD hS [0, 2, 4] [1, 3, 5] [3, 0, 4, 1, 5, 2] rfl rfl (by decide) (by decide) (by decide) rfl (fun H locs hP hD hS => ?_)
          refine lv_iadd hx hb dX1_lackBySong_64 ?_
          refine lv_istore (lv' := [(5, .int (y5 + u7.1)), (4, .int (y4 + (c_t_drops y6.toNatClampNeg))), (0, .ref a_t), (1, .int y1), (2, .int y2), (3, .int y3), (6, .int y6)]) hx hb dX1_lackBySong_65 hl (by decide) rfl (fun ls hl => ?_)
          refine lv_iinc (v := (y6 + (1 : Int32))) (lv' := [(6, .int (y6 + (1 : Int32))), (5, .int (y5 + u7.1)), (4, .int (y4 + (c_t_drops y6.toNatClampNeg))), (0, .ref a_t), (1, .int y1), (2, .int y2), (3, .int y3)]) hx hb dX1_lackBySong_67 hl (k := 6) rfl rfl (by decide) rfl (fun ls hl => ?_)
          refine lv_goto (tgt := 13) hx hb dX1_lackBySong_70 (by decide) ?_
          exact ih u7.2 f_t_pool y1 y2 y3 (y4 + (c_t_drops y6.toNatClampNeg)) (y5 + u7.1) (y6 + (1 : Int32)) h H locs hP hD hS ls (lv_sub hl [3, 4, 5, 6, 2, 1, 0] rfl)
def F_X1_lackBySong (c_t_water : Nat → Int32) (c_t_gain : Nat → Int32) (c_t_drops : Nat → Int32) (c_t_song : Nat → Int32) (f_t_terraces : Int32) (c_t_level : Nat → Int32) (f_t_pool : Int32) (x1 : Int32) (x2 : Int32) (x3 : Int32) : Option (Int32 × (Nat → Int32) × Int32) := (F_X1_startDays c_t_water c_t_level f_t_pool).bind (fun u9 => F_X1_lackBySong_13 c_t_water c_t_gain c_t_drops c_t_song f_t_terraces FU_ u9.1 u9.2 x1 x2 x3 (0 : Int32) (0 : Int32) (0 : Int32))
set_option maxHeartbeats 4000000 in
set_option maxRecDepth 100000 in
theorem w_X1_lackBySong_0 {p : Program} {l : Launch} {e : Env} {s : State} {m : MethodId} {args : Array Value} {below : List Frame} {meth : Method} {c : Code} {G : va_G} {ca : Nat → ClassId} {ad av : Nat → Nat} {A : Nat → Prop} (X0 : CX_ p s m args meth c cX1_lackBySong 7 (some .int) wsX1_lackBySong RX1 G ca ad av A) (a_t : Nat) (a_t_water : Nat) (a_t_gain : Nat) (a_t_drops : Nat) (a_t_level : Nat) (a_t_song : Nat) (a_t_share : Nat)  (c_t_water : Nat → Int32) (c_t_gain : Nat → Int32) (c_t_drops : Nat → Int32) (c_t_song : Nat → Int32) (f_t_terraces : Int32) (res : Int32 × (Nat → Int32) × Int32) (c_t_level : Nat → Int32) (f_t_pool : Int32) (x1 : Int32) (x2 : Int32) (x3 : Int32) (h : F_X1_lackBySong c_t_water c_t_gain c_t_drops c_t_song f_t_terraces c_t_level f_t_pool x1 x2 x3 = some res) : ∀ (H : Heap) (locs : List Loc), va_P G vwCl [(a_t, .inr (1, [.ref a_t_water, .ref a_t_gain, .ref a_t_drops, .ref a_t_level, .ref a_t_share, .ref a_t_song, .int f_t_terraces, .int f_t_pool])), (a_t_water, .inl (ca 0, 6, .inl c_t_water)), (a_t_gain, .inl (ca 0, 6, .inl c_t_gain)), (a_t_drops, .inl (ca 0, 40, .inl c_t_drops)), (a_t_level, .inl (ca 0, 6, .inl c_t_level)), (a_t_song, .inl (ca 0, 3, .inl c_t_song))] H → va_D A [(a_t, .inr (1, [.ref a_t_water, .ref a_t_gain, .ref a_t_drops, .ref a_t_level, .ref a_t_share, .ref a_t_song, .int f_t_terraces, .int f_t_pool])), (a_t_water, .inl (ca 0, 6, .inl c_t_water)), (a_t_gain, .inl (ca 0, 6, .inl c_t_gain)), (a_t_drops, .inl (ca 0, 40, .inl c_t_drops)), (a_t_level, .inl (ca 0, 6, .inl c_t_level)), (a_t_song, .inl (ca 0, 3, .inl c_t_song))] → va_S A s.heap H locs → ∀ (ls : Array Slot), lv_has ls 7 [(0, .ref a_t), (1, .int x1), (2, .int x2), (3, .int x3)] → W p l e RM_X1_lackBySong s m args below meth c H locs 0 0 (MQ below (QI_ G A res.1 [(a_t, .inr (1, [.ref a_t_water, .ref a_t_gain, .ref a_t_drops, .ref a_t_level, .ref a_t_share, .ref a_t_song, .int f_t_terraces, .int res.2.2])), (a_t_water, .inl (ca 0, 6, .inl c_t_water)), (a_t_gain, .inl (ca 0, 6, .inl c_t_gain)), (a_t_drops, .inl (ca 0, 40, .inl c_t_drops)), (a_t_level, .inl (ca 0, 6, .inl res.2.1)), (a_t_song, .inl (ca 0, 3, .inl c_t_song))]) args s 0 0 A) (F0 m 0 ls []) := by
  obtain ⟨hx, hb, hr, hml, hown, hts, hlocks, hK, hA, hE⟩ := id X0
  intro H locs hP hD hS ls hl
  unfold F_X1_lackBySong at h
  refine lv_aload_n hx hb dX1_lackBySong_0 rfl (lv_at hl 0 rfl) ?_
  obtain ⟨u9, hc10, h⟩ := bd_o h
  refine jn_v (wr := [(a_t_gain, .inl (ca 0, 6, .inl c_t_gain)), (a_t_drops, .inl (ca 0, 40, .inl c_t_drops)), (a_t_song, .inl (ca 0, 3, .inl c_t_song))]) (ws' := [(a_t, .inr (1, [.ref a_t_water, .ref a_t_gain, .ref a_t_drops, .ref a_t_level, .ref a_t_share, .ref a_t_song, .int f_t_terraces, .int u9.2])), (a_t_water, .inl (ca 0, 6, .inl c_t_water)), (a_t_gain, .inl (ca 0, 6, .inl c_t_gain)), (a_t_drops, .inl (ca 0, 40, .inl c_t_drops)), (a_t_level, .inl (ca 0, 6, .inl u9.1)), (a_t_song, .inl (ca 0, 3, .inl c_t_song))]) (va_runV (As := []) (rest := []) ⟨hx, hb, hml, hown, hts⟩ (c_X1_startDays l G ca ad av H.size a_t a_t_water a_t_level a_t_gain a_t_drops a_t_share a_t_song f_t_terraces c_t_water c_t_level f_t_pool u9 hc10) (cwV 0 hts gX1_lackBySong_X1_startDays rfl rfl rfl (by decide +kernel) ⟨Nat.le_of_ble_eq_true rfl, Nat.le_of_ble_eq_true rfl⟩) (pre_v (q0 := 0) (ci := 1) hK hE hA hP hD hS [0, 1, 4] rfl (by decide) rfl rfl) rfl rfl hl.1 rfl (lv_room (Nat.le_of_ble_eq_true rfl)) dX1_lackBySong_1 ⟨Nat.le_of_ble_eq_true rfl, Nat.le_of_ble_eq_true rfl⟩) hA hP hD hS [0, 1, 4] [2, 3, 5] [3, 4, 0, 1, 5, 2] rfl rfl (by decide) (by decide) (by decide) rfl (fun H locs hP hD hS => ?_)
  refine lv_iconst (v := 0) hx hb dX1_lackBySong_4 (by decide) ?_
  refine lv_istore (lv' := [(4, .int (0 : Int32)), (0, .ref a_t), (1, .int x1), (2, .int x2), (3, .int x3)]) hx hb dX1_lackBySong_5 hl (by decide) rfl (fun ls hl => ?_)
  refine lv_iconst (v := 0) hx hb dX1_lackBySong_7 (by decide) ?_
  refine lv_istore (lv' := [(5, .int (0 : Int32)), (4, .int (0 : Int32)), (0, .ref a_t), (1, .int x1), (2, .int x2), (3, .int x3)]) hx hb dX1_lackBySong_8 hl (by decide) rfl (fun ls hl => ?_)
  refine lv_iconst (v := 0) hx hb dX1_lackBySong_10 (by decide) ?_
  refine lv_istore (lv' := [(6, .int (0 : Int32)), (5, .int (0 : Int32)), (4, .int (0 : Int32)), (0, .ref a_t), (1, .int x1), (2, .int x2), (3, .int x3)]) hx hb dX1_lackBySong_11 hl (by decide) rfl (fun ls hl => ?_)
  exact w_X1_lackBySong_13 X0 a_t a_t_water a_t_gain a_t_drops a_t_level a_t_song a_t_share  c_t_water c_t_gain c_t_drops c_t_song f_t_terraces _ FU_ u9.1 u9.2 x1 x2 x3 (0 : Int32) (0 : Int32) (0 : Int32) h H locs hP hD hS ls (lv_sub hl [3, 4, 5, 6, 2, 1, 0] rfl)
set_option maxHeartbeats 4000000 in
set_option maxRecDepth 100000 in
theorem c_X1_lackBySong (l : Launch) (G : va_G) (ca : Nat → ClassId) (ad av : Nat → Nat) (sz : Nat) (a_t : Nat) (a_t_water : Nat) (a_t_gain : Nat) (a_t_drops : Nat) (a_t_level : Nat) (a_t_song : Nat) (a_t_share : Nat)  (c_t_water : Nat → Int32) (c_t_gain : Nat → Int32) (c_t_drops : Nat → Int32) (c_t_song : Nat → Int32) (f_t_terraces : Int32) (c_t_level : Nat → Int32) (f_t_pool : Int32) (x1 : Int32) (x2 : Int32) (x3 : Int32) (res : Int32 × (Nat → Int32) × Int32) (h : F_X1_lackBySong c_t_water c_t_gain c_t_drops c_t_song f_t_terraces c_t_level f_t_pool x1 x2 x3 = some res) : Met l yX1_lackBySong wsX1_lackBySong RM_X1_lackBySong (va_Pc [.ref a_t, .int x1, .int x2, .int x3] (PW_ G ca ad av sz [(a_t, .inr (1, [.ref a_t_water, .ref a_t_gain, .ref a_t_drops, .ref a_t_level, .ref a_t_share, .ref a_t_song, .int f_t_terraces, .int f_t_pool])), (a_t_water, .inl (ca 0, 6, .inl c_t_water)), (a_t_gain, .inl (ca 0, 6, .inl c_t_gain)), (a_t_drops, .inl (ca 0, 40, .inl c_t_drops)), (a_t_level, .inl (ca 0, 6, .inl c_t_level)), (a_t_song, .inl (ca 0, 3, .inl c_t_song))])) (QI_ G (va_A [(a_t, .inr (1, [.ref a_t_water, .ref a_t_gain, .ref a_t_drops, .ref a_t_level, .ref a_t_share, .ref a_t_song, .int f_t_terraces, .int f_t_pool])), (a_t_water, .inl (ca 0, 6, .inl c_t_water)), (a_t_gain, .inl (ca 0, 6, .inl c_t_gain)), (a_t_drops, .inl (ca 0, 40, .inl c_t_drops)), (a_t_level, .inl (ca 0, 6, .inl c_t_level)), (a_t_song, .inl (ca 0, 3, .inl c_t_song))] sz) res.1 [(a_t, .inr (1, [.ref a_t_water, .ref a_t_gain, .ref a_t_drops, .ref a_t_level, .ref a_t_share, .ref a_t_song, .int f_t_terraces, .int res.2.2])), (a_t_water, .inl (ca 0, 6, .inl c_t_water)), (a_t_gain, .inl (ca 0, 6, .inl c_t_gain)), (a_t_drops, .inl (ca 0, 40, .inl c_t_drops)), (a_t_level, .inl (ca 0, 6, .inl res.2.1)), (a_t_song, .inl (ca 0, 3, .inl c_t_song))]) 0 0 (va_A [(a_t, .inr (1, [.ref a_t_water, .ref a_t_gain, .ref a_t_drops, .ref a_t_level, .ref a_t_share, .ref a_t_song, .int f_t_terraces, .int f_t_pool])), (a_t_water, .inl (ca 0, 6, .inl c_t_water)), (a_t_gain, .inl (ca 0, 6, .inl c_t_gain)), (a_t_drops, .inl (ca 0, 40, .inl c_t_drops)), (a_t_level, .inl (ca 0, 6, .inl c_t_level)), (a_t_song, .inl (ca 0, 3, .inl c_t_song))] sz) := by
  refine Met.ofW (cc := cX1_lackBySong) (maxL := 7) (ret := (some .int)) (by decide) rfl ?_
  intro p e s m args below meth c s₁ B hml hv
  obtain ⟨X0, rfl, rfl, hP, hD⟩ := en_t B hml hv
  have hl := lv_entry ([.ref a_t, .int x1, .int x2, .int x3]) (n := 7) (Nat.le_of_ble_eq_true rfl)
  rw [lg_entry_eq]
  generalize (lg_sl ([.ref a_t, .int x1, .int x2, .int x3]) ++ List.replicate (7 - (lg_sl ([.ref a_t, .int x1, .int x2, .int x3])).length) Slot.unset).toArray = ls at hl ⊢
  exact w_X1_lackBySong_0 X0 a_t a_t_water a_t_gain a_t_drops a_t_level a_t_song a_t_share  c_t_water c_t_gain c_t_drops c_t_song f_t_terraces _ c_t_level f_t_pool x1 x2 x3 h s.heap [] hP hD va_S.rf ls hl
