/-! X4_leave_X6 -/
abbrev RM_X4_leave_X6 : Room := { frames := 0, cells := 0, slots := 0, locals := 0 }
theorem k_X4_leave_X6_0 : Cond.fieldLink RX4 7 "DropDealers$Kind" "trace" "J" ∈ wsX4_leave := by decide +kernel
theorem i_X4_leave_X6_X6 : ∀ w ∈ u_ws RX6 TX6 1, w ∈ wsX4_leave := by decide +kernel
def F_X4_leave_X6  (f_t_trace : Int64) (x1 : Int32) : Option (Int64) := some ((f_t_trace + x1.toInt64))
set_option maxHeartbeats 4000000 in
set_option maxRecDepth 100000 in
theorem w_X4_leave_X6_0 {p : Program} {l : Launch} {e : Env} {s : State} {m : MethodId} {args : Array Value} {below : List Frame} {meth : Method} {c : Code} {G : va_G} {ca : Nat → ClassId} {ad av : Nat → Nat} {A : Nat → Prop} (X0 : CX_ p s m args meth c cX4_leave 2 none wsX4_leave RX4 G ca ad av A) (a_t : Nat)   (res : Int64) (f_t_trace : Int64) (x1 : Int32) (h : F_X4_leave_X6  f_t_trace x1 = some res) : ∀ (H : Heap) (locs : List Loc), va_P G vwCl [(a_t, .inr (6, [.long f_t_trace]))] H → va_D A [(a_t, .inr (6, [.long f_t_trace]))] → va_S A s.heap H locs → ∀ (ls : Array Slot), lv_has ls 2 [(0, .ref a_t), (1, .int x1)] → W p l e RM_X4_leave_X6 s m args below meth c H locs 0 0 (MQ below (QV_ G A [(a_t, .inr (6, [.long res]))]) args s 0 0 A) (F0 m 0 ls []) := by
  obtain ⟨hx, hb, hr, hml, hown, hts, hlocks, hK, hA, hE⟩ := id X0
  intro H locs hP hD hS ls hl
  unfold F_X4_leave_X6 at h
  refine lv_aload_n hx hb dX4_leave_0 rfl (lv_at hl 0 rfl) ?_
  refine lv_dup hx hb dX4_leave_1 rfl ?_
  refine va_get (D := G) (ci := 6) (v := .long f_t_trace) (C := RX6) (T := TX6) (N := 1) hx hb hts i_X4_leave_X6_X6 hown hK hP 0 rfl rfl 0 (by decide) (hts _ k_X4_leave_X6_0) (fun _ h9 => h9) rfl dX4_leave_2 ?_
  refine lv_iload_n hx hb dX4_leave_5 rfl (lv_at hl 1 rfl) ?_
  refine lv_i2l hx hb dX4_leave_6 rfl ?_
  refine lv_ladd hx hb dX4_leave_7 ?_
  refine va_put (D := G) (ci := 6) (v := .long (f_t_trace + x1.toInt64)) (ty := .long) (C := RX6) (T := TX6) (N := 1) hx hb hts i_X4_leave_X6_X6 tyX6 tyX6_ok nmX6 hown hK hP hD hS 0 rfl rfl 0 (by decide) (hts _ k_X4_leave_X6_0) (fun _ h9 => h9) rfl (by decide +kernel) rfl rfl (Nat.le_of_ble_eq_true rfl) dX4_leave_8 (fun H locs hP hD hS => ?_)
  have hP : va_P G vwCl [(a_t, .inr (6, [.long (f_t_trace + x1.toInt64)]))] H := hP
  have hD : va_D A [(a_t, .inr (6, [.long (f_t_trace + x1.toInt64)]))] := hD
  have h := sm_i h
  subst h
  exact W.vret hx hb hr (fun t ht hW => ⟨⟨(), rfl, trivial, by rw [ht]; exact hP, hD⟩, hS.F ht⟩) hS.2.2 dX4_leave_11
set_option maxHeartbeats 4000000 in
set_option maxRecDepth 100000 in
theorem c_X4_leave_X6 (l : Launch) (G : va_G) (ca : Nat → ClassId) (ad av : Nat → Nat) (sz : Nat) (a_t : Nat)   (f_t_trace : Int64) (x1 : Int32) (res : Int64) (h : F_X4_leave_X6  f_t_trace x1 = some res) : Met l yX4_leave wsX4_leave RM_X4_leave_X6 (va_Pc [.ref a_t, .int x1] (PW_ G ca ad av sz [(a_t, .inr (6, [.long f_t_trace]))])) (QV_ G (va_A [(a_t, .inr (6, [.long f_t_trace]))] sz) [(a_t, .inr (6, [.long res]))]) 0 0 (va_A [(a_t, .inr (6, [.long f_t_trace]))] sz) := by
  refine Met.ofW (cc := cX4_leave) (maxL := 2) (ret := none) (by decide) rfl ?_
  intro p e s m args below meth c s₁ B hml hv
  obtain ⟨X0, rfl, rfl, hP, hD⟩ := en_t B hml hv
  have hl := lv_entry ([.ref a_t, .int x1]) (n := 2) (Nat.le_of_ble_eq_true rfl)
  rw [lg_entry_eq]
  generalize (lg_sl ([.ref a_t, .int x1]) ++ List.replicate (2 - (lg_sl ([.ref a_t, .int x1])).length) Slot.unset).toArray = ls at hl ⊢
  exact w_X4_leave_X6_0 X0 a_t   _ f_t_trace x1 h s.heap [] hP hD va_S.rf ls hl

/-! X4_marked_X6 -/
abbrev RM_X4_marked_X6 : Room := { frames := 1, cells := 0, slots := 0, locals := 21 }
theorem k_X4_marked_X6_0 : Cond.fieldLinkNest RX4 17 "DropDealers$Now" "water" "[I" "DropDealers" ∈ nw_l := by decide +kernel
theorem i_X4_marked_X6_X7 : ∀ w ∈ u_ws RX7 TX7 9, w ∈ wsX4_marked := by decide +kernel
def F_X4_marked_X6 (c_p2_water : Nat → Int32) (f_t_trace : Int64) (x3 : Int32) : Option (Int32 × Int64) := (F_X4_leave_X6 f_t_trace (1 : Int32)).bind (fun u1 => if ok_I x3 6 = true then some ((c_p2_water x3.toNatClampNeg), u1) else none)
set_option maxHeartbeats 4000000 in
set_option maxRecDepth 100000 in
theorem w_X4_marked_X6_0 {p : Program} {l : Launch} {e : Env} {s : State} {m : MethodId} {args : Array Value} {below : List Frame} {meth : Method} {c : Code} {G : va_G} {ca : Nat → ClassId} {ad av : Nat → Nat} {A : Nat → Prop} (X0 : CX_ p s m args meth c cX4_marked 4 (some .int) wsX4_marked RX4 G ca ad av A) (a_t : Nat) (a_p2 : Nat) (a_p2_water : Nat) (a_p2_lacked : Nat) (a_p2_seenTurn : Nat) (a_p2_seenSet : Nat) (a_p1 : Nat) (f_p2_day : Int32) (f_p2_left : Int32) (f_p2_turn : Int32) (f_p2_lot : Int32) (f_p2_seen : Int32) (c_p2_water : Nat → Int32) (res : Int32 × Int64) (f_t_trace : Int64) (x3 : Int32) (h : F_X4_marked_X6 c_p2_water f_t_trace x3 = some res) : ∀ (H : Heap) (locs : List Loc), va_P G vwCl [(a_t, .inr (6, [.long f_t_trace])), (a_p2, .inr (7, [.ref a_p2_water, .ref a_p2_lacked, .ref a_p2_seenTurn, .ref a_p2_seenSet, .int f_p2_day, .int f_p2_left, .int f_p2_turn, .int f_p2_lot, .int f_p2_seen])), (a_p2_water, .inl (ca 0, 6, .inl c_p2_water))] H → va_D A [(a_t, .inr (6, [.long f_t_trace])), (a_p2, .inr (7, [.ref a_p2_water, .ref a_p2_lacked, .ref a_p2_seenTurn, .ref a_p2_seenSet, .int f_p2_day, .int f_p2_left, .int f_p2_turn, .int f_p2_lot, .int f_p2_seen])), (a_p2_water, .inl (ca 0, 6, .inl c_p2_water))] → va_S A s.heap H locs → ∀ (ls : Array Slot), lv_has ls 4 [(0, .ref a_t), (1, .ref a_p1), (2, .ref a_p2), (3, .int x3)] → W p l e RM_X4_marked_X6 s m args below meth c H locs 0 0 (MQ below (QI_ G A res.1 [(a_t, .inr (6, [.long res.2])), (a_p2, .inr (7, [.ref a_p2_water, .ref a_p2_lacked, .ref a_p2_seenTurn, .ref a_p2_seenSet, .int f_p2_day, .int f_p2_left, .int f_p2_turn, .int f_p2_lot, .int f_p2_seen])), (a_p2_water, .inl (ca 0, 6, .inl c_p2_water))]) args s 0 0 A) (F0 m 0 ls []) := by
  obtain ⟨hx, hb, hr, hml, hown, hts, hlocks, hK, hA, hE⟩ := id X0
  intro H locs hP hD hS ls hl
  unfold F_X4_marked_X6 at h
  refine lv_aload_n hx hb dX4_marked_0 rfl (lv_at hl 0 rfl) ?_
  refine lv_iconst (v := 1) hx hb dX4_marked_1 (by decide) ?_
  obtain ⟨u1, hc2, h⟩ := bd_o h
  refine jn_v (wr := [(a_p2, .inr (7, [.ref a_p2_water, .ref a_p2_lacked, .ref a_p2_seenTurn, .ref a_p2_seenSet, .int f_p2_day, .int f_p2_left, .int f_p2_turn, .int f_p2_lot, .int f_p2_seen])), (a_p2_water, .inl (ca 0, 6, .inl c_p2_water))]) (ws' := [(a_t, .inr (6, [.long u1])), (a_p2, .inr (7, [.ref a_p2_water, .ref a_p2_lacked, .ref a_p2_seenTurn, .ref a_p2_seenSet, .int f_p2_day, .int f_p2_left, .int f_p2_turn, .int f_p2_lot, .int f_p2_seen])), (a_p2_water, .inl (ca 0, 6, .inl c_p2_water))]) (va_runU (As := [.int (1 : Int32)]) (rest := []) ⟨hx, hb, hml, hown, hts⟩ (c_X4_leave_X6 l G ca ad av H.size a_t f_t_trace (1 : Int32) u1 hc2) (va_cwU 1 hts gX4_marked_X4_leave_u13X6 rfl rfl rfl rfl (by decide +kernel) ⟨Nat.le_of_ble_eq_true rfl, Nat.le_of_ble_eq_true rfl⟩) (pre_v (q0 := 0) (ci := 6) hK hE hA hP hD hS [0] rfl (by decide) rfl rfl) rfl rfl hl.1 rfl (lv_room (Nat.le_of_ble_eq_true rfl)) dX4_marked_2 ⟨Nat.le_of_ble_eq_true rfl, Nat.le_of_ble_eq_true rfl⟩) hA hP hD hS [0] [1, 2] [2, 0, 1] rfl rfl (by decide) (by decide) (by decide) rfl (fun H locs hP hD hS => ?_)
  refine lv_aload_n hx hb dX4_marked_5 rfl (lv_at hl 2 rfl) ?_
  refine va_getN (D := G) (ci := 7) (v := .ref a_p2_water) (C := RX7) (T := TX7) (N := 9) hx hb hts i_X4_marked_X6_X7 hown hK hP 1 rfl rfl 0 (by decide) (va_Nw.use rfl (hE.1 _ k_X4_marked_X6_0)) (fun _ h9 => h9) rfl dX4_marked_6 ?_
  refine lv_iload_n hx hb dX4_marked_9 rfl (lv_at hl 3 rfl) ?_
  obtain ⟨g3, h⟩ := gd_t h
  refine va_iald hx hb hK hP 2 0 rfl rfl (ok_in g3) dX4_marked_10 ?_
  have h := sm_i h
  subst h
  exact W.iret (v := (c_p2_water x3.toNatClampNeg)) hx hb hr (fun t ht hW => ⟨⟨(c_p2_water x3.toNatClampNeg), (), rfl, rfl, by rw [ht]; exact hP, hD⟩, hS.F ht⟩) hS.2.2 dX4_marked_11
set_option maxHeartbeats 4000000 in
set_option maxRecDepth 100000 in
theorem c_X4_marked_X6 (l : Launch) (G : va_G) (ca : Nat → ClassId) (ad av : Nat → Nat) (sz : Nat) (a_t : Nat) (a_p2 : Nat) (a_p2_water : Nat) (a_p2_lacked : Nat) (a_p2_seenTurn : Nat) (a_p2_seenSet : Nat) (a_p1 : Nat) (f_p2_day : Int32) (f_p2_left : Int32) (f_p2_turn : Int32) (f_p2_lot : Int32) (f_p2_seen : Int32) (c_p2_water : Nat → Int32) (f_t_trace : Int64) (x3 : Int32) (res : Int32 × Int64) (h : F_X4_marked_X6 c_p2_water f_t_trace x3 = some res) : Met l yX4_marked wsX4_marked RM_X4_marked_X6 (va_Pc [.ref a_t, .ref a_p1, .ref a_p2, .int x3] (PW_ G ca ad av sz [(a_t, .inr (6, [.long f_t_trace])), (a_p2, .inr (7, [.ref a_p2_water, .ref a_p2_lacked, .ref a_p2_seenTurn, .ref a_p2_seenSet, .int f_p2_day, .int f_p2_left, .int f_p2_turn, .int f_p2_lot, .int f_p2_seen])), (a_p2_water, .inl (ca 0, 6, .inl c_p2_water))])) (QI_ G (va_A [(a_t, .inr (6, [.long f_t_trace])), (a_p2, .inr (7, [.ref a_p2_water, .ref a_p2_lacked, .ref a_p2_seenTurn, .ref a_p2_seenSet, .int f_p2_day, .int f_p2_left, .int f_p2_turn, .int f_p2_lot, .int f_p2_seen])), (a_p2_water, .inl (ca 0, 6, .inl c_p2_water))] sz) res.1 [(a_t, .inr (6, [.long res.2])), (a_p2, .inr (7, [.ref a_p2_water, .ref a_p2_lacked, .ref a_p2_seenTurn, .ref a_p2_seenSet, .int f_p2_day, .int f_p2_left, .int f_p2_turn, .int f_p2_lot, .int f_p2_seen])), (a_p2_water, .inl (ca 0, 6, .inl c_p2_water))]) 0 0 (va_A [(a_t, .inr (6, [.long f_t_trace])), (a_p2, .inr (7, [.ref a_p2_water, .ref a_p2_lacked, .ref a_p2_seenTurn, .ref a_p2_seenSet, .int f_p2_day, .int f_p2_left, .int f_p2_turn, .int f_p2_lot, .int f_p2_seen])), (a_p2_water, .inl (ca 0, 6, .inl c_p2_water))] sz) := by
  refine Met.ofW (cc := cX4_marked) (maxL := 4) (ret := (some .int)) (by decide) rfl ?_
  intro p e s m args below meth c s₁ B hml hv
  obtain ⟨X0, rfl, rfl, hP, hD⟩ := en_t B hml hv
  have hl := lv_entry ([.ref a_t, .ref a_p1, .ref a_p2, .int x3]) (n := 4) (Nat.le_of_ble_eq_true rfl)
  rw [lg_entry_eq]
  generalize (lg_sl ([.ref a_t, .ref a_p1, .ref a_p2, .int x3]) ++ List.replicate (4 - (lg_sl ([.ref a_t, .ref a_p1, .ref a_p2, .int x3])).length) Slot.unset).toArray = ls at hl ⊢
  exact w_X4_marked_X6_0 X0 a_t a_p2 a_p2_water a_p2_lacked a_p2_seenTurn a_p2_seenSet a_p1 f_p2_day f_p2_left f_p2_turn f_p2_lot f_p2_seen c_p2_water _ f_t_trace x3 h s.heap [] hP hD va_S.rf ls hl

/-! X6_marked -/
abbrev RM_X6_marked : Room := { frames := 2, cells := 0, slots := 0, locals := 44 }
theorem k_X6_marked_0 : Cond.constant RX6 7 (100000) ∈ wsX6_marked := by decide +kernel
theorem k_X6_marked_1 : Cond.fieldLinkNest RX6 18 "DropDealers$Now" "lacked" "[I" "DropDealers" ∈ nw_l := by decide +kernel
theorem i_X6_marked_X7 : ∀ w ∈ u_ws RX7 TX7 9, w ∈ wsX6_marked := by decide +kernel
def F_X6_marked (c_p2_water : Nat → Int32) (c_p2_lacked : Nat → Int32) (f_t_trace : Int64) (x3 : Int32) : Option (Int32 × Int64) := (F_X4_leave_X6 f_t_trace (100000 : Int32)).bind (fun u1 => (F_X4_marked_X6 c_p2_water u1 x3).bind (fun u3 => if ok_I x3 6 = true then some ((u3.1 - (c_p2_lacked x3.toNatClampNeg)), u3.2) else none))
set_option maxHeartbeats 4000000 in
set_option maxRecDepth 100000 in
theorem w_X6_marked_0 {p : Program} {l : Launch} {e : Env} {s : State} {m : MethodId} {args : Array Value} {below : List Frame} {meth : Method} {c : Code} {G : va_G} {ca : Nat → ClassId} {ad av : Nat → Nat} {A : Nat → Prop} (X0 : CX_ p s m args meth c cX6_marked 4 (some .int) wsX6_marked RX6 G ca ad av A) (a_t : Nat) (a_p2 : Nat) (a_p2_water : Nat) (a_p2_lacked : Nat) (a_p2_seenTurn : Nat) (a_p2_seenSet : Nat) (a_p1 : Nat) (f_p2_day : Int32) (f_p2_left : Int32) (f_p2_turn : Int32) (f_p2_lot : Int32) (f_p2_seen : Int32) (c_p2_water : Nat → Int32) (c_p2_lacked : Nat → Int32) (res : Int32 × Int64) (f_t_trace : Int64) (x3 : Int32) (h : F_X6_marked c_p2_water c_p2_lacked f_t_trace x3 = some res) : ∀ (H : Heap) (locs : List Loc), va_P G vwCl [(a_t, .inr (6, [.long f_t_trace])), (a_p2, .inr (7, [.ref a_p2_water, .ref a_p2_lacked, .ref a_p2_seenTurn, .ref a_p2_seenSet, .int f_p2_day, .int f_p2_left, .int f_p2_turn, .int f_p2_lot, .int f_p2_seen])), (a_p2_water, .inl (ca 0, 6, .inl c_p2_water)), (a_p2_lacked, .inl (ca 0, 6, .inl c_p2_lacked))] H → va_D A [(a_t, .inr (6, [.long f_t_trace])), (a_p2, .inr (7, [.ref a_p2_water, .ref a_p2_lacked, .ref a_p2_seenTurn, .ref a_p2_seenSet, .int f_p2_day, .int f_p2_left, .int f_p2_turn, .int f_p2_lot, .int f_p2_seen])), (a_p2_water, .inl (ca 0, 6, .inl c_p2_water)), (a_p2_lacked, .inl (ca 0, 6, .inl c_p2_lacked))] → va_S A s.heap H locs → ∀ (ls : Array Slot), lv_has ls 4 [(0, .ref a_t), (1, .ref a_p1), (2, .ref a_p2), (3, .int x3)] → W p l e RM_X6_marked s m args below meth c H locs 0 0 (MQ below (QI_ G A res.1 [(a_t, .inr (6, [.long res.2])), (a_p2, .inr (7, [.ref a_p2_water, .ref a_p2_lacked, .ref a_p2_seenTurn, .ref a_p2_seenSet, .int f_p2_day, .int f_p2_left, .int f_p2_turn, .int f_p2_lot, .int f_p2_seen])), (a_p2_water, .inl (ca 0, 6, .inl c_p2_water)), (a_p2_lacked, .inl (ca 0, 6, .inl c_p2_lacked))]) args s 0 0 A) (F0 m 0 ls []) := by
  obtain ⟨hx, hb, hr, hml, hown, hts, hlocks, hK, hA, hE⟩ := id X0
  intro H locs hP hD hS ls hl
  unfold F_X6_marked at h
  refine lv_aload_n hx hb dX6_marked_0 rfl (lv_at hl 0 rfl) ?_
  refine lv_ldc (v := 100000) hx hb hown (hts _ k_X6_marked_0) dX6_marked_1 ?_
  obtain ⟨u1, hc2, h⟩ := bd_o h
  refine jn_v (wr := [(a_p2, .inr (7, [.ref a_p2_water, .ref a_p2_lacked, .ref a_p2_seenTurn, .ref a_p2_seenSet, .int f_p2_day, .int f_p2_left, .int f_p2_turn, .int f_p2_lot, .int f_p2_seen])), (a_p2_water, .inl (ca 0, 6, .inl c_p2_water)), (a_p2_lacked, .inl (ca 0, 6, .inl c_p2_lacked))]) (ws' := [(a_t, .inr (6, [.long u1])), (a_p2, .inr (7, [.ref a_p2_water, .ref a_p2_lacked, .ref a_p2_seenTurn, .ref a_p2_seenSet, .int f_p2_day, .int f_p2_left, .int f_p2_turn, .int f_p2_lot, .int f_p2_seen])), (a_p2_water, .inl (ca 0, 6, .inl c_p2_water)), (a_p2_lacked, .inl (ca 0, 6, .inl c_p2_lacked))]) (va_runU (As := [.int (100000 : Int32)]) (rest := []) ⟨hx, hb, hml, hown, hts⟩ (c_X4_leave_X6 l G ca ad av H.size a_t f_t_trace (100000 : Int32) u1 hc2) (va_cwU 1 hts gX6_marked_X4_leave_u8X6 rfl rfl rfl rfl (by decide +kernel) ⟨Nat.le_of_ble_eq_true rfl, Nat.le_of_ble_eq_true rfl⟩) (pre_v (q0 := 0) (ci := 6) hK hE hA hP hD hS [0] rfl (by decide) rfl rfl) rfl rfl hl.1 rfl (lv_room (Nat.le_of_ble_eq_true rfl)) dX6_marked_3 ⟨Nat.le_of_ble_eq_true rfl, Nat.le_of_ble_eq_true rfl⟩) hA hP hD hS [0] [1, 2, 3] [3, 0, 1, 2] rfl rfl (by decide) (by decide) (by decide) rfl (fun H locs hP hD hS => ?_)
  refine lv_aload_n hx hb dX6_marked_6 rfl (lv_at hl 0 rfl) ?_
  refine lv_aload_n hx hb dX6_marked_7 rfl (lv_at hl 1 rfl) ?_
  refine lv_aload_n hx hb dX6_marked_8 rfl (lv_at hl 2 rfl) ?_
  refine lv_iload_n hx hb dX6_marked_9 rfl (lv_at hl 3 rfl) ?_
  obtain ⟨u3, hc4, h⟩ := bd_o h
  refine jn_i (wr := [(a_p2_lacked, .inl (ca 0, 6, .inl c_p2_lacked))]) (ws' := [(a_t, .inr (6, [.long u3.2])), (a_p2, .inr (7, [.ref a_p2_water, .ref a_p2_lacked, .ref a_p2_seenTurn, .ref a_p2_seenSet, .int f_p2_day, .int f_p2_left, .int f_p2_turn, .int f_p2_lot, .int f_p2_seen])), (a_p2_water, .inl (ca 0, 6, .inl c_p2_water)), (a_p2_lacked, .inl (ca 0, 6, .inl c_p2_lacked))]) (va_runSU (hK.1 6 _ rfl).2 (As := [.ref a_p1, .ref a_p2, .int x3]) (rest := []) ⟨hx, hb, hml, hown, hts⟩ (c_X4_marked_X6 l G ca ad av H.size a_t a_p2 a_p2_water a_p2_lacked a_p2_seenTurn a_p2_seenSet a_p1 f_p2_day f_p2_left f_p2_turn f_p2_lot f_p2_seen c_p2_water u1 x3 u3 hc4) (va_cwSU 3 hts gX6_marked_X4_marked_s14 rfl rfl rfl (by decide +kernel) ⟨Nat.le_of_ble_eq_true rfl, Nat.le_of_ble_eq_true rfl⟩) (pre_v (q0 := 0) (ci := 6) hK hE hA hP hD hS [0, 1, 2] rfl (by decide) rfl rfl) rfl rfl hl.1 rfl (lv_room (Nat.le_of_ble_eq_true rfl)) dX6_marked_10 ⟨Nat.le_of_ble_eq_true rfl, Nat.le_of_ble_eq_true rfl⟩) hA hP hD hS [0, 1, 2] [3] [1, 2, 3, 0] rfl rfl (by decide) (by decide) (by decide) rfl (fun H locs hP hD hS => ?_)
  refine lv_aload_n hx hb dX6_marked_13 rfl (lv_at hl 2 rfl) ?_
  refine va_getN (D := G) (ci := 7) (v := .ref a_p2_lacked) (C := RX7) (T := TX7) (N := 9) hx hb hts i_X6_marked_X7 hown hK hP 1 rfl rfl 1 (by decide) (va_Nw.use rfl (hE.1 _ k_X6_marked_1)) (fun _ h9 => h9) rfl dX6_marked_14 ?_
  refine lv_iload_n hx hb dX6_marked_17 rfl (lv_at hl 3 rfl) ?_
  obtain ⟨g5, h⟩ := gd_t h
  refine va_iald hx hb hK hP 3 0 rfl rfl (ok_in g5) dX6_marked_18 ?_
  refine lv_isub hx hb dX6_marked_19 ?_
  have h := sm_i h
  subst h
  exact W.iret (v := (u3.1 - (c_p2_lacked x3.toNatClampNeg))) hx hb hr (fun t ht hW => ⟨⟨(u3.1 - (c_p2_lacked x3.toNatClampNeg)), (), rfl, rfl, by rw [ht]; exact hP, hD⟩, hS.F ht⟩) hS.2.2 dX6_marked_20
set_option maxHeartbeats 4000000 in
set_option maxRecDepth 100000 in
theorem c_X6_marked (l : Launch) (G : va_G) (ca : Nat → ClassId) (ad av : Nat → Nat) (sz : Nat) (a_t : Nat) (a_p2 : Nat) (a_p2_water : Nat) (a_p2_lacked : Nat) (a_p2_seenTurn : Nat) (a_p2_seenSet : Nat) (a_p1 : Nat) (f_p2_day : Int32) (f_p2_left : Int32) (f_p2_turn : Int32) (f_p2_lot : Int32) (f_p2_seen : Int32) (c_p2_water : Nat → Int32) (c_p2_lacked : Nat → Int32) (f_t_trace : Int64) (x3 : Int32) (res : Int32 × Int64) (h : F_X6_marked c_p2_water c_p2_lacked f_t_trace x3 = some res) : Met l yX6_marked wsX6_marked RM_X6_marked (va_Pc [.ref a_t, .ref a_p1, .ref a_p2, .int x3] (PW_ G ca ad av sz [(a_t, .inr (6, [.long f_t_trace])), (a_p2, .inr (7, [.ref a_p2_water, .ref a_p2_lacked, .ref a_p2_seenTurn, .ref a_p2_seenSet, .int f_p2_day, .int f_p2_left, .int f_p2_turn, .int f_p2_lot, .int f_p2_seen])), (a_p2_water, .inl (ca 0, 6, .inl c_p2_water)), (a_p2_lacked, .inl (ca 0, 6, .inl c_p2_lacked))])) (QI_ G (va_A [(a_t, .inr (6, [.long f_t_trace])), (a_p2, .inr (7, [.ref a_p2_water, .ref a_p2_lacked, .ref a_p2_seenTurn, .ref a_p2_seenSet, .int f_p2_day, .int f_p2_left, .int f_p2_turn, .int f_p2_lot, .int f_p2_seen])), (a_p2_water, .inl (ca 0, 6, .inl c_p2_water)), (a_p2_lacked, .inl (ca 0, 6, .inl c_p2_lacked))] sz) res.1 [(a_t, .inr (6, [.long res.2])), (a_p2, .inr (7, [.ref a_p2_water, .ref a_p2_lacked, .ref a_p2_seenTurn, .ref a_p2_seenSet, .int f_p2_day, .int f_p2_left, .int f_p2_turn, .int f_p2_lot, .int f_p2_seen])), (a_p2_water, .inl (ca 0, 6, .inl c_p2_water)), (a_p2_lacked, .inl (ca 0, 6, .inl c_p2_lacked))]) 0 0 (va_A [(a_t, .inr (6, [.long f_t_trace])), (a_p2, .inr (7, [.ref a_p2_water, .ref a_p2_lacked, .ref a_p2_seenTurn, .ref a_p2_seenSet, .int f_p2_day, .int f_p2_left, .int f_p2_turn, .int f_p2_lot, .int f_p2_seen])), (a_p2_water, .inl (ca 0, 6, .inl c_p2_water)), (a_p2_lacked, .inl (ca 0, 6, .inl c_p2_lacked))] sz) := by
  refine Met.ofW (cc := cX6_marked) (maxL := 4) (ret := (some .int)) (by decide) rfl ?_
  intro p e s m args below meth c s₁ B hml hv
  obtain ⟨X0, rfl, rfl, hP, hD⟩ := en_t B hml hv
  have hl := lv_entry ([.ref a_t, .ref a_p1, .ref a_p2, .int x3]) (n := 4) (Nat.le_of_ble_eq_true rfl)
  rw [lg_entry_eq]
  generalize (lg_sl ([.ref a_t, .ref a_p1, .ref a_p2, .int x3]) ++ List.replicate (4 - (lg_sl ([.ref a_t, .ref a_p1, .ref a_p2, .int x3])).length) Slot.unset).toArray = ls at hl ⊢
  exact w_X6_marked_0 X0 a_t a_p2 a_p2_water a_p2_lacked a_p2_seenTurn a_p2_seenSet a_p1 f_p2_day f_p2_left f_p2_turn f_p2_lot f_p2_seen c_p2_water c_p2_lacked _ f_t_trace x3 h s.heap [] hP hD va_S.rf ls hl

/-! X4_leave_X2 -/
abbrev RM_X4_leave_X2 : Room := { frames := 0, cells := 0, slots := 0, locals := 0 }
theorem k_X4_leave_X2_0 : Cond.fieldLink RX4 7 "DropDealers$Kind" "trace" "J" ∈ wsX4_leave := by decide +kernel
theorem i_X4_leave_X2_X2 : ∀ w ∈ u_ws RX2 TX2 1, w ∈ wsX4_leave := by decide +kernel
def F_X4_leave_X2  (f_t_trace : Int64) (x1 : Int32) : Option (Int64) := some ((f_t_trace + x1.toInt64))
set_option maxHeartbeats 4000000 in
set_option maxRecDepth 100000 in
theorem w_X4_leave_X2_0 {p : Program} {l : Launch} {e : Env} {s : State} {m : MethodId} {args : Array Value} {below : List Frame} {meth : Method} {c : Code} {G : va_G} {ca : Nat → ClassId} {ad av : Nat → Nat} {A : Nat → Prop} (X0 : CX_ p s m args meth c cX4_leave 2 none wsX4_leave RX4 G ca ad av A) (a_t : Nat)   (res : Int64) (f_t_trace : Int64) (x1 : Int32) (h : F_X4_leave_X2  f_t_trace x1 = some res) : ∀ (H : Heap) (locs : List Loc), va_P G vwCl [(a_t, .inr (2, [.long f_t_trace]))] H → va_D A [(a_t, .inr (2, [.long f_t_trace]))] → va_S A s.heap H locs → ∀ (ls : Array Slot), lv_has ls 2 [(0, .ref a_t), (1, .int x1)] → W p l e RM_X4_leave_X2 s m args below meth c H locs 0 0 (MQ below (QV_ G A [(a_t, .inr (2, [.long res]))]) args s 0 0 A) (F0 m 0 ls []) := by
  obtain ⟨hx, hb, hr, hml, hown, hts, hlocks, hK, hA, hE⟩ := id X0
  intro H locs hP hD hS ls hl
  unfold F_X4_leave_X2 at h
  refine lv_aload_n hx hb dX4_leave_0 rfl (lv_at hl 0 rfl) ?_
  refine lv_dup hx hb dX4_leave_1 rfl ?_
  refine va_get (D := G) (ci := 2) (v := .long f_t_trace) (C := RX2) (T := TX2) (N := 1) hx hb hts i_X4_leave_X2_X2 hown hK hP 0 rfl rfl 0 (by decide) (hts _ k_X4_leave_X2_0) (fun _ h9 => h9) rfl dX4_leave_2 ?_
  refine lv_iload_n hx hb dX4_leave_5 rfl (lv_at hl 1 rfl) ?_
  refine lv_i2l hx hb dX4_leave_6 rfl ?_
  refine lv_ladd hx hb dX4_leave_7 ?_
  refine va_put (D := G) (ci := 2) (v := .long (f_t_trace + x1.toInt64)) (ty := .long) (C := RX2) (T := TX2) (N := 1) hx hb hts i_X4_leave_X2_X2 tyX2 tyX2_ok nmX2 hown hK hP hD hS 0 rfl rfl 0 (by decide) (hts _ k_X4_leave_X2_0) (fun _ h9 => h9) rfl (by decide +kernel) rfl rfl (Nat.le_of_ble_eq_true rfl) dX4_leave_8 (fun H locs hP hD hS => ?_)
  have hP : va_P G vwCl [(a_t, .inr (2, [.long (f_t_trace + x1.toInt64)]))] H := hP
  have hD : va_D A [(a_t, .inr (2, [.long (f_t_trace + x1.toInt64)]))] := hD
  have h := sm_i h
  subst h
  exact W.vret hx hb hr (fun t ht hW => ⟨⟨(), rfl, trivial, by rw [ht]; exact hP, hD⟩, hS.F ht⟩) hS.2.2 dX4_leave_11
set_option maxHeartbeats 4000000 in
set_option maxRecDepth 100000 in
theorem c_X4_leave_X2 (l : Launch) (G : va_G) (ca : Nat → ClassId) (ad av : Nat → Nat) (sz : Nat) (a_t : Nat)   (f_t_trace : Int64) (x1 : Int32) (res : Int64) (h : F_X4_leave_X2  f_t_trace x1 = some res) : Met l yX4_leave wsX4_leave RM_X4_leave_X2 (va_Pc [.ref a_t, .int x1] (PW_ G ca ad av sz [(a_t, .inr (2, [.long f_t_trace]))])) (QV_ G (va_A [(a_t, .inr (2, [.long f_t_trace]))] sz) [(a_t, .inr (2, [.long res]))]) 0 0 (va_A [(a_t, .inr (2, [.long f_t_trace]))] sz) := by
  refine Met.ofW (cc := cX4_leave) (maxL := 2) (ret := none) (by decide) rfl ?_
  intro p e s m args below meth c s₁ B hml hv
  obtain ⟨X0, rfl, rfl, hP, hD⟩ := en_t B hml hv
  have hl := lv_entry ([.ref a_t, .int x1]) (n := 2) (Nat.le_of_ble_eq_true rfl)
  rw [lg_entry_eq]
  generalize (lg_sl ([.ref a_t, .int x1]) ++ List.replicate (2 - (lg_sl ([.ref a_t, .int x1])).length) Slot.unset).toArray = ls at hl ⊢
  exact w_X4_leave_X2_0 X0 a_t   _ f_t_trace x1 h s.heap [] hP hD va_S.rf ls hl

/-! X4_marked_X2 -/
abbrev RM_X4_marked_X2 : Room := { frames := 1, cells := 0, slots := 0, locals := 21 }
theorem k_X4_marked_X2_0 : Cond.fieldLinkNest RX4 17 "DropDealers$Now" "water" "[I" "DropDealers" ∈ nw_l := by decide +kernel
theorem i_X4_marked_X2_X7 : ∀ w ∈ u_ws RX7 TX7 9, w ∈ wsX4_marked := by decide +kernel
def F_X4_marked_X2 (c_p2_water : Nat → Int32) (f_t_trace : Int64) (x3 : Int32) : Option (Int32 × Int64) := (F_X4_leave_X2 f_t_trace (1 : Int32)).bind (fun u1 => if ok_I x3 6 = true then some ((c_p2_water x3.toNatClampNeg), u1) else none)
set_option maxHeartbeats 4000000 in
set_option maxRecDepth 100000 in
theorem w_X4_marked_X2_0 {p : Program} {l : Launch} {e : Env} {s : State} {m : MethodId} {args : Array Value} {below : List Frame} {meth : Method} {c : Code} {G : va_G} {ca : Nat → ClassId} {ad av : Nat → Nat} {A : Nat → Prop} (X0 : CX_ p s m args meth c cX4_marked 4 (some .int) wsX4_marked RX4 G ca ad av A) (a_t : Nat) (a_p2 : Nat) (a_p2_water : Nat) (a_p2_lacked : Nat) (a_p2_seenTurn : Nat) (a_p2_seenSet : Nat) (a_p1 : Nat) (f_p2_day : Int32) (f_p2_left : Int32) (f_p2_turn : Int32) (f_p2_lot : Int32) (f_p2_seen : Int32) (c_p2_water : Nat → Int32) (res : Int32 × Int64) (f_t_trace : Int64) (x3 : Int32) (h : F_X4_marked_X2 c_p2_water f_t_trace x3 = some res) : ∀ (H : Heap) (locs : List Loc), va_P G vwCl [(a_t, .inr (2, [.long f_t_trace])), (a_p2, .inr (7, [.ref a_p2_water, .ref a_p2_lacked, .ref a_p2_seenTurn, .ref a_p2_seenSet, .int f_p2_day, .int f_p2_left, .int f_p2_turn, .int f_p2_lot, .int f_p2_seen])), (a_p2_water, .inl (ca 0, 6, .inl c_p2_water))] H → va_D A [(a_t, .inr (2, [.long f_t_trace])), (a_p2, .inr (7, [.ref a_p2_water, .ref a_p2_lacked, .ref a_p2_seenTurn, .ref a_p2_seenSet, .int f_p2_day, .int f_p2_left, .int f_p2_turn, .int f_p2_lot, .int f_p2_seen])), (a_p2_water, .inl (ca 0, 6, .inl c_p2_water))] → va_S A s.heap H locs → ∀ (ls : Array Slot), lv_has ls 4 [(0, .ref a_t), (1, .ref a_p1), (2, .ref a_p2), (3, .int x3)] → W p l e RM_X4_marked_X2 s m args below meth c H locs 0 0 (MQ below (QI_ G A res.1 [(a_t, .inr (2, [.long res.2])), (a_p2, .inr (7, [.ref a_p2_water, .ref a_p2_lacked, .ref a_p2_seenTurn, .ref a_p2_seenSet, .int f_p2_day, .int f_p2_left, .int f_p2_turn, .int f_p2_lot, .int f_p2_seen])), (a_p2_water, .inl (ca 0, 6, .inl c_p2_water))]) args s 0 0 A) (F0 m 0 ls []) := by
  obtain ⟨hx, hb, hr, hml, hown, hts, hlocks, hK, hA, hE⟩ := id X0
  intro H locs hP hD hS ls hl
  unfold F_X4_marked_X2 at h
  refine lv_aload_n hx hb dX4_marked_0 rfl (lv_at hl 0 rfl) ?_
  refine lv_iconst (v := 1) hx hb dX4_marked_1 (by decide) ?_
  obtain ⟨u1, hc2, h⟩ := bd_o h
  refine jn_v (wr := [(a_p2, .inr (7, [.ref a_p2_water, .ref a_p2_lacked, .ref a_p2_seenTurn, .ref a_p2_seenSet, .int f_p2_day, .int f_p2_left, .int f_p2_turn, .int f_p2_lot, .int f_p2_seen])), (a_p2_water, .inl (ca 0, 6, .inl c_p2_water))]) (ws' := [(a_t, .inr (2, [.long u1])), (a_p2, .inr (7, [.ref a_p2_water, .ref a_p2_lacked, .ref a_p2_seenTurn, .ref a_p2_seenSet, .int f_p2_day, .int f_p2_left, .int f_p2_turn, .int f_p2_lot, .int f_p2_seen])), (a_p2_water, .inl (ca 0, 6, .inl c_p2_water))]) (va_runU (As := [.int (1 : Int32)]) (rest := []) ⟨hx, hb, hml, hown, hts⟩ (c_X4_leave_X2 l G ca ad av H.size a_t f_t_trace (1 : Int32) u1 hc2) (va_cwU 1 hts gX4_marked_X4_leave_u13X2 rfl rfl rfl rfl (by decide +kernel) ⟨Nat.le_of_ble_eq_true rfl, Nat.le_of_ble_eq_true rfl⟩) (pre_v (q0 := 0) (ci := 2) hK hE hA hP hD hS [0] rfl (by decide) rfl rfl) rfl rfl hl.1 rfl (lv_room (Nat.le_of_ble_eq_true rfl)) dX4_marked_2 ⟨Nat.le_of_ble_eq_true rfl, Nat.le_of_ble_eq_true rfl⟩) hA hP hD hS [0] [1, 2] [2, 0, 1] rfl rfl (by decide) (by decide) (by decide) rfl (fun H locs hP hD hS => ?_)
  refine lv_aload_n hx hb dX4_marked_5 rfl (lv_at hl 2 rfl) ?_
  refine va_getN (D := G) (ci := 7) (v := .ref a_p2_water) (C := RX7) (T := TX7) (N := 9) hx hb hts i_X4_marked_X2_X7 hown hK hP 1 rfl rfl 0 (by decide) (va_Nw.use rfl (hE.1 _ k_X4_marked_X2_0)) (fun _ h9 => h9) rfl dX4_marked_6 ?_
  refine lv_iload_n hx hb dX4_marked_9 rfl (lv_at hl 3 rfl) ?_
  obtain ⟨g3, h⟩ := gd_t h
  refine va_iald hx hb hK hP 2 0 rfl rfl (ok_in g3) dX4_marked_10 ?_
  have h := sm_i h
  subst h
  exact W.iret (v := (c_p2_water x3.toNatClampNeg)) hx hb hr (fun t ht hW => ⟨⟨(c_p2_water x3.toNatClampNeg), (), rfl, rfl, by rw [ht]; exact hP, hD⟩, hS.F ht⟩) hS.2.2 dX4_marked_11
set_option maxHeartbeats 4000000 in
set_option maxRecDepth 100000 in
theorem c_X4_marked_X2 (l : Launch) (G : va_G) (ca : Nat → ClassId) (ad av : Nat → Nat) (sz : Nat) (a_t : Nat) (a_p2 : Nat) (a_p2_water : Nat) (a_p2_lacked : Nat) (a_p2_seenTurn : Nat) (a_p2_seenSet : Nat) (a_p1 : Nat) (f_p2_day : Int32) (f_p2_left : Int32) (f_p2_turn : Int32) (f_p2_lot : Int32) (f_p2_seen : Int32) (c_p2_water : Nat → Int32) (f_t_trace : Int64) (x3 : Int32) (res : Int32 × Int64) (h : F_X4_marked_X2 c_p2_water f_t_trace x3 = some res) : Met l yX4_marked wsX4_marked RM_X4_marked_X2 (va_Pc [.ref a_t, .ref a_p1, .ref a_p2, .int x3] (PW_ G ca ad av sz [(a_t, .inr (2, [.long f_t_trace])), (a_p2, .inr (7, [.ref a_p2_water, .ref a_p2_lacked, .ref a_p2_seenTurn, .ref a_p2_seenSet, .int f_p2_day, .int f_p2_left, .int f_p2_turn, .int f_p2_lot, .int f_p2_seen])), (a_p2_water, .inl (ca 0, 6, .inl c_p2_water))])) (QI_ G (va_A [(a_t, .inr (2, [.long f_t_trace])), (a_p2, .inr (7, [.ref a_p2_water, .ref a_p2_lacked, .ref a_p2_seenTurn, .ref a_p2_seenSet, .int f_p2_day, .int f_p2_left, .int f_p2_turn, .int f_p2_lot, .int f_p2_seen])), (a_p2_water, .inl (ca 0, 6, .inl c_p2_water))] sz) res.1 [(a_t, .inr (2, [.long res.2])), (a_p2, .inr (7, [.ref a_p2_water, .ref a_p2_lacked, .ref a_p2_seenTurn, .ref a_p2_seenSet, .int f_p2_day, .int f_p2_left, .int f_p2_turn, .int f_p2_lot, .int f_p2_seen])), (a_p2_water, .inl (ca 0, 6, .inl c_p2_water))]) 0 0 (va_A [(a_t, .inr (2, [.long f_t_trace])), (a_p2, .inr (7, [.ref a_p2_water, .ref a_p2_lacked, .ref a_p2_seenTurn, .ref a_p2_seenSet, .int f_p2_day, .int f_p2_left, .int f_p2_turn, .int f_p2_lot, .int f_p2_seen])), (a_p2_water, .inl (ca 0, 6, .inl c_p2_water))] sz) := by
  refine Met.ofW (cc := cX4_marked) (maxL := 4) (ret := (some .int)) (by decide) rfl ?_
  intro p e s m args below meth c s₁ B hml hv
  obtain ⟨X0, rfl, rfl, hP, hD⟩ := en_t B hml hv
  have hl := lv_entry ([.ref a_t, .ref a_p1, .ref a_p2, .int x3]) (n := 4) (Nat.le_of_ble_eq_true rfl)
  rw [lg_entry_eq]
  generalize (lg_sl ([.ref a_t, .ref a_p1, .ref a_p2, .int x3]) ++ List.replicate (4 - (lg_sl ([.ref a_t, .ref a_p1, .ref a_p2, .int x3])).length) Slot.unset).toArray = ls at hl ⊢
  exact w_X4_marked_X2_0 X0 a_t a_p2 a_p2_water a_p2_lacked a_p2_seenTurn a_p2_seenSet a_p1 f_p2_day f_p2_left f_p2_turn f_p2_lot f_p2_seen c_p2_water _ f_t_trace x3 h s.heap [] hP hD va_S.rf ls hl

/-! X5_marked_X2 -/
abbrev RM_X5_marked_X2 : Room := { frames := 2, cells := 0, slots := 0, locals := 44 }
theorem k_X5_marked_X2_0 : Cond.fieldLinkNest RX5 17 "DropDealers$Hill" "dew" "[I" "DropDealers" ∈ nw_l := by decide +kernel
theorem i_X5_marked_X2_X3 : ∀ w ∈ u_ws RX3 TX3 10, w ∈ wsX5_marked := by decide +kernel
def F_X5_marked_X2 (c_p1_dew : Nat → Int32) (c_p2_water : Nat → Int32) (f_t_trace : Int64) (x3 : Int32) : Option (Int32 × Int64) := (F_X4_leave_X2 f_t_trace (100 : Int32)).bind (fun u1 => (F_X4_marked_X2 c_p2_water u1 x3).bind (fun u3 => if ok_I x3 6 = true then some ((u3.1 + (c_p1_dew x3.toNatClampNeg)), u3.2) else none))
set_option maxHeartbeats 4000000 in
set_option maxRecDepth 100000 in
theorem w_X5_marked_X2_0 {p : Program} {l : Launch} {e : Env} {s : State} {m : MethodId} {args : Array Value} {below : List Frame} {meth : Method} {c : Code} {G : va_G} {ca : Nat → ClassId} {ad av : Nat → Nat} {A : Nat → Prop} (X0 : CX_ p s m args meth c cX5_marked 4 (some .int) wsX5_marked RX5 G ca ad av A) (a_t : Nat) (a_p1 : Nat) (a_p1_dew : Nat) (a_p2 : Nat) (a_p2_water : Nat) (a_p1_water : Nat) (a_p1_need : Nat) (a_p1_drops : Nat) (a_p1_song : Nat) (a_p2_lacked : Nat) (a_p2_seenTurn : Nat) (a_p2_seenSet : Nat) (f_p1_terraces : Int32) (f_p1_days : Int32) (f_p1_law : Int32) (f_p1_slip : Int32) (f_p1_songLength : Int32) (f_p2_day : Int32) (f_p2_left : Int32) (f_p2_turn : Int32) (f_p2_lot : Int32) (f_p2_seen : Int32) (c_p1_dew : Nat → Int32) (c_p2_water : Nat → Int32) (res : Int32 × Int64) (f_t_trace : Int64) (x3 : Int32) (h : F_X5_marked_X2 c_p1_dew c_p2_water f_t_trace x3 = some res) : ∀ (H : Heap) (locs : List Loc), va_P G vwCl [(a_t, .inr (2, [.long f_t_trace])), (a_p1, .inr (3, [.ref a_p1_water, .ref a_p1_need, .ref a_p1_dew, .ref a_p1_drops, .ref a_p1_song, .int f_p1_terraces, .int f_p1_days, .int f_p1_law, .int f_p1_slip, .int f_p1_songLength])), (a_p1_dew, .inl (ca 0, 6, .inl c_p1_dew)), (a_p2, .inr (7, [.ref a_p2_water, .ref a_p2_lacked, .ref a_p2_seenTurn, .ref a_p2_seenSet, .int f_p2_day, .int f_p2_left, .int f_p2_turn, .int f_p2_lot, .int f_p2_seen])), (a_p2_water, .inl (ca 0, 6, .inl c_p2_water))] H → va_D A [(a_t, .inr (2, [.long f_t_trace])), (a_p1, .inr (3, [.ref a_p1_water, .ref a_p1_need, .ref a_p1_dew, .ref a_p1_drops, .ref a_p1_song, .int f_p1_terraces, .int f_p1_days, .int f_p1_law, .int f_p1_slip, .int f_p1_songLength])), (a_p1_dew, .inl (ca 0, 6, .inl c_p1_dew)), (a_p2, .inr (7, [.ref a_p2_water, .ref a_p2_lacked, .ref a_p2_seenTurn, .ref a_p2_seenSet, .int f_p2_day, .int f_p2_left, .int f_p2_turn, .int f_p2_lot, .int f_p2_seen])), (a_p2_water, .inl (ca 0, 6, .inl c_p2_water))] → va_S A s.heap H locs → ∀ (ls : Array Slot), lv_has ls 4 [(0, .ref a_t), (1, .ref a_p1), (2, .ref a_p2), (3, .int x3)] → W p l e RM_X5_marked_X2 s m args below meth c H locs 0 0 (MQ below (QI_ G A res.1 [(a_t, .inr (2, [.long res.2])), (a_p1, .inr (3, [.ref a_p1_water, .ref a_p1_need, .ref a_p1_dew, .ref a_p1_drops, .ref a_p1_song, .int f_p1_terraces, .int f_p1_days, .int f_p1_law, .int f_p1_slip, .int f_p1_songLength])), (a_p1_dew, .inl (ca 0, 6, .inl c_p1_dew)), (a_p2, .inr (7, [.ref a_p2_water, .ref a_p2_lacked, .ref a_p2_seenTurn, .ref a_p2_seenSet, .int f_p2_day, .int f_p2_left, .int f_p2_turn, .int f_p2_lot, .int f_p2_seen])), (a_p2_water, .inl (ca 0, 6, .inl c_p2_water))]) args s 0 0 A) (F0 m 0 ls []) := by
  obtain ⟨hx, hb, hr, hml, hown, hts, hlocks, hK, hA, hE⟩ := id X0
  intro H locs hP hD hS ls hl
  unfold F_X5_marked_X2 at h
  refine lv_aload_n hx hb dX5_marked_0 rfl (lv_at hl 0 rfl) ?_
  refine lv_bipush (v := 100) hx hb dX5_marked_1 (by decide) ?_
  obtain ⟨u1, hc2, h⟩ := bd_o h
  refine jn_v (wr := [(a_p1, .inr (3, [.ref a_p1_water, .ref a_p1_need, .ref a_p1_dew, .ref a_p1_drops, .ref a_p1_song, .int f_p1_terraces, .int f_p1_days, .int f_p1_law, .int f_p1_slip, .int f_p1_songLength])), (a_p1_dew, .inl (ca 0, 6, .inl c_p1_dew)), (a_p2, .inr (7, [.ref a_p2_water, .ref a_p2_lacked, .ref a_p2_seenTurn, .ref a_p2_seenSet, .int f_p2_day, .int f_p2_left, .int f_p2_turn, .int f_p2_lot, .int f_p2_seen])), (a_p2_water, .inl (ca 0, 6, .inl c_p2_water))]) (ws' := [(a_t, .inr (2, [.long u1])), (a_p1, .inr (3, [.ref a_p1_water, .ref a_p1_need, .ref a_p1_dew, .ref a_p1_drops, .ref a_p1_song, .int f_p1_terraces, .int f_p1_days, .int f_p1_law, .int f_p1_slip, .int f_p1_songLength])), (a_p1_dew, .inl (ca 0, 6, .inl c_p1_dew)), (a_p2, .inr (7, [.ref a_p2_water, .ref a_p2_lacked, .ref a_p2_seenTurn, .ref a_p2_seenSet, .int f_p2_day, .int f_p2_left, .int f_p2_turn, .int f_p2_lot, .int f_p2_seen])), (a_p2_water, .inl (ca 0, 6, .inl c_p2_water))]) (va_runU (As := [.int (100 : Int32)]) (rest := []) ⟨hx, hb, hml, hown, hts⟩ (c_X4_leave_X2 l G ca ad av H.size a_t f_t_trace (100 : Int32) u1 hc2) (va_cwU 1 hts gX5_marked_X4_leave_u7X2 rfl rfl rfl rfl (by decide +kernel) ⟨Nat.le_of_ble_eq_true rfl, Nat.le_of_ble_eq_true rfl⟩) (pre_v (q0 := 0) (ci := 2) hK hE hA hP hD hS [0] rfl (by decide) rfl rfl) rfl rfl hl.1 rfl (lv_room (Nat.le_of_ble_eq_true rfl)) dX5_marked_3 ⟨Nat.le_of_ble_eq_true rfl, Nat.le_of_ble_eq_true rfl⟩) hA hP hD hS [0] [1, 2, 3, 4] [4, 0, 1, 2, 3] rfl rfl (by decide) (by decide) (by decide) rfl (fun H locs hP hD hS => ?_)
  refine lv_aload_n hx hb dX5_marked_6 rfl (lv_at hl 0 rfl) ?_
  refine lv_aload_n hx hb dX5_marked_7 rfl (lv_at hl 1 rfl) ?_
  refine lv_aload_n hx hb dX5_marked_8 rfl (lv_at hl 2 rfl) ?_
  refine lv_iload_n hx hb dX5_marked_9 rfl (lv_at hl 3 rfl) ?_
  obtain ⟨u3, hc4, h⟩ := bd_o h
  refine jn_i (wr := [(a_p1, .inr (3, [.ref a_p1_water, .ref a_p1_need, .ref a_p1_dew, .ref a_p1_drops, .ref a_p1_song, .int f_p1_terraces, .int f_p1_days, .int f_p1_law, .int f_p1_slip, .int f_p1_songLength])), (a_p1_dew, .inl (ca 0, 6, .inl c_p1_dew))]) (ws' := [(a_t, .inr (2, [.long u3.2])), (a_p1, .inr (3, [.ref a_p1_water, .ref a_p1_need, .ref a_p1_dew, .ref a_p1_drops, .ref a_p1_song, .int f_p1_terraces, .int f_p1_days, .int f_p1_law, .int f_p1_slip, .int f_p1_songLength])), (a_p1_dew, .inl (ca 0, 6, .inl c_p1_dew)), (a_p2, .inr (7, [.ref a_p2_water, .ref a_p2_lacked, .ref a_p2_seenTurn, .ref a_p2_seenSet, .int f_p2_day, .int f_p2_left, .int f_p2_turn, .int f_p2_lot, .int f_p2_seen])), (a_p2_water, .inl (ca 0, 6, .inl c_p2_water))]) (va_runSU (hK.1 2 _ rfl).2 (As := [.ref a_p1, .ref a_p2, .int x3]) (rest := []) ⟨hx, hb, hml, hown, hts⟩ (c_X4_marked_X2 l G ca ad av H.size a_t a_p2 a_p2_water a_p2_lacked a_p2_seenTurn a_p2_seenSet a_p1 f_p2_day f_p2_left f_p2_turn f_p2_lot f_p2_seen c_p2_water u1 x3 u3 hc4) (va_cwSU 3 hts gX5_marked_X4_marked_s13 rfl rfl rfl (by decide +kernel) ⟨Nat.le_of_ble_eq_true rfl, Nat.le_of_ble_eq_true rfl⟩) (pre_v (q0 := 0) (ci := 2) hK hE hA hP hD hS [0, 3, 4] rfl (by decide) rfl rfl) rfl rfl hl.1 rfl (lv_room (Nat.le_of_ble_eq_true rfl)) dX5_marked_10 ⟨Nat.le_of_ble_eq_true rfl, Nat.le_of_ble_eq_true rfl⟩) hA hP hD hS [0, 3, 4] [1, 2] [2, 0, 1, 3, 4] rfl rfl (by decide) (by decide) (by decide) rfl (fun H locs hP hD hS => ?_)
  refine lv_aload_n hx hb dX5_marked_13 rfl (lv_at hl 1 rfl) ?_
  refine va_getN (D := G) (ci := 3) (v := .ref a_p1_dew) (C := RX3) (T := TX3) (N := 10) hx hb hts i_X5_marked_X2_X3 hown hK hP 1 rfl rfl 2 (by decide) (va_Nw.use rfl (hE.1 _ k_X5_marked_X2_0)) (fun _ h9 => h9) rfl dX5_marked_14 ?_
  refine lv_iload_n hx hb dX5_marked_17 rfl (lv_at hl 3 rfl) ?_
  obtain ⟨g5, h⟩ := gd_t h
  refine va_iald hx hb hK hP 2 0 rfl rfl (ok_in g5) dX5_marked_18 ?_
  refine lv_iadd hx hb dX5_marked_19 ?_
  have h := sm_i h
  subst h
  exact W.iret (v := (u3.1 + (c_p1_dew x3.toNatClampNeg))) hx hb hr (fun t ht hW => ⟨⟨(u3.1 + (c_p1_dew x3.toNatClampNeg)), (), rfl, rfl, by rw [ht]; exact hP, hD⟩, hS.F ht⟩) hS.2.2 dX5_marked_20
set_option maxHeartbeats 4000000 in
set_option maxRecDepth 100000 in
theorem c_X5_marked_X2 (l : Launch) (G : va_G) (ca : Nat → ClassId) (ad av : Nat → Nat) (sz : Nat) (a_t : Nat) (a_p1 : Nat) (a_p1_dew : Nat) (a_p2 : Nat) (a_p2_water : Nat) (a_p1_water : Nat) (a_p1_need : Nat) (a_p1_drops : Nat) (a_p1_song : Nat) (a_p2_lacked : Nat) (a_p2_seenTurn : Nat) (a_p2_seenSet : Nat) (f_p1_terraces : Int32) (f_p1_days : Int32) (f_p1_law : Int32) (f_p1_slip : Int32) (f_p1_songLength : Int32) (f_p2_day : Int32) (f_p2_left : Int32) (f_p2_turn : Int32) (f_p2_lot : Int32) (f_p2_seen : Int32) (c_p1_dew : Nat → Int32) (c_p2_water : Nat → Int32) (f_t_trace : Int64) (x3 : Int32) (res : Int32 × Int64) (h : F_X5_marked_X2 c_p1_dew c_p2_water f_t_trace x3 = some res) : Met l yX5_marked wsX5_marked RM_X5_marked_X2 (va_Pc [.ref a_t, .ref a_p1, .ref a_p2, .int x3] (PW_ G ca ad av sz [(a_t, .inr (2, [.long f_t_trace])), (a_p1, .inr (3, [.ref a_p1_water, .ref a_p1_need, .ref a_p1_dew, .ref a_p1_drops, .ref a_p1_song, .int f_p1_terraces, .int f_p1_days, .int f_p1_law, .int f_p1_slip, .int f_p1_songLength])), (a_p1_dew, .inl (ca 0, 6, .inl c_p1_dew)), (a_p2, .inr (7, [.ref a_p2_water, .ref a_p2_lacked, .ref a_p2_seenTurn, .ref a_p2_seenSet, .int f_p2_day, .int f_p2_left, .int f_p2_turn, .int f_p2_lot, .int f_p2_seen])), (a_p2_water, .inl (ca 0, 6, .inl c_p2_water))])) (QI_ G (va_A [(a_t, .inr (2, [.long f_t_trace])), (a_p1, .inr (3, [.ref a_p1_water, .ref a_p1_need, .ref a_p1_dew, .ref a_p1_drops, .ref a_p1_song, .int f_p1_terraces, .int f_p1_days, .int f_p1_law, .int f_p1_slip, .int f_p1_songLength])), (a_p1_dew, .inl (ca 0, 6, .inl c_p1_dew)), (a_p2, .inr (7, [.ref a_p2_water, .ref a_p2_lacked, .ref a_p2_seenTurn, .ref a_p2_seenSet, .int f_p2_day, .int f_p2_left, .int f_p2_turn, .int f_p2_lot, .int f_p2_seen])), (a_p2_water, .inl (ca 0, 6, .inl c_p2_water))] sz) res.1 [(a_t, .inr (2, [.long res.2])), (a_p1, .inr (3, [.ref a_p1_water, .ref a_p1_need, .ref a_p1_dew, .ref a_p1_drops, .ref a_p1_song, .int f_p1_terraces, .int f_p1_days, .int f_p1_law, .int f_p1_slip, .int f_p1_songLength])), (a_p1_dew, .inl (ca 0, 6, .inl c_p1_dew)), (a_p2, .inr (7, [.ref a_p2_water, .ref a_p2_lacked, .ref a_p2_seenTurn, .ref a_p2_seenSet, .int f_p2_day, .int f_p2_left, .int f_p2_turn, .int f_p2_lot, .int f_p2_seen])), (a_p2_water, .inl (ca 0, 6, .inl c_p2_water))]) 0 0 (va_A [(a_t, .inr (2, [.long f_t_trace])), (a_p1, .inr (3, [.ref a_p1_water, .ref a_p1_need, .ref a_p1_dew, .ref a_p1_drops, .ref a_p1_song, .int f_p1_terraces, .int f_p1_days, .int f_p1_law, .int f_p1_slip, .int f_p1_songLength])), (a_p1_dew, .inl (ca 0, 6, .inl c_p1_dew)), (a_p2, .inr (7, [.ref a_p2_water, .ref a_p2_lacked, .ref a_p2_seenTurn, .ref a_p2_seenSet, .int f_p2_day, .int f_p2_left, .int f_p2_turn, .int f_p2_lot, .int f_p2_seen])), (a_p2_water, .inl (ca 0, 6, .inl c_p2_water))] sz) := by
  refine Met.ofW (cc := cX5_marked) (maxL := 4) (ret := (some .int)) (by decide) rfl ?_
  intro p e s m args below meth c s₁ B hml hv
  obtain ⟨X0, rfl, rfl, hP, hD⟩ := en_t B hml hv
  have hl := lv_entry ([.ref a_t, .ref a_p1, .ref a_p2, .int x3]) (n := 4) (Nat.le_of_ble_eq_true rfl)
  rw [lg_entry_eq]
  generalize (lg_sl ([.ref a_t, .ref a_p1, .ref a_p2, .int x3]) ++ List.replicate (4 - (lg_sl ([.ref a_t, .ref a_p1, .ref a_p2, .int x3])).length) Slot.unset).toArray = ls at hl ⊢
  exact w_X5_marked_X2_0 X0 a_t a_p1 a_p1_dew a_p2 a_p2_water a_p1_water a_p1_need a_p1_drops a_p1_song a_p2_lacked a_p2_seenTurn a_p2_seenSet f_p1_terraces f_p1_days f_p1_law f_p1_slip f_p1_songLength f_p2_day f_p2_left f_p2_turn f_p2_lot f_p2_seen c_p1_dew c_p2_water _ f_t_trace x3 h s.heap [] hP hD va_S.rf ls hl

/-! X2_marked -/
abbrev RM_X2_marked : Room := { frames := 3, cells := 0, slots := 0, locals := 67 }
def F_X2_marked (c_p1_dew : Nat → Int32) (c_p2_water : Nat → Int32) (f_t_trace : Int64) (x3 : Int32) : Option (Int32 × Int64) := (F_X4_leave_X2 f_t_trace (10000 : Int32)).bind (fun u1 => (F_X5_marked_X2 c_p1_dew c_p2_water u1 x3).bind (fun u3 => some ((u3.1 + x3), u3.2)))
set_option maxHeartbeats 4000000 in
set_option maxRecDepth 100000 in
theorem w_X2_marked_0 {p : Program} {l : Launch} {e : Env} {s : State} {m : MethodId} {args : Array Value} {below : List Frame} {meth : Method} {c : Code} {G : va_G} {ca : Nat → ClassId} {ad av : Nat → Nat} {A : Nat → Prop} (X0 : CX_ p s m args meth c cX2_marked 4 (some .int) wsX2_marked RX2 G ca ad av A) (a_t : Nat) (a_p1 : Nat) (a_p1_dew : Nat) (a_p2 : Nat) (a_p2_water : Nat) (a_p1_water : Nat) (a_p1_need : Nat) (a_p1_drops : Nat) (a_p1_song : Nat) (a_p2_lacked : Nat) (a_p2_seenTurn : Nat) (a_p2_seenSet : Nat) (f_p1_terraces : Int32) (f_p1_days : Int32) (f_p1_law : Int32) (f_p1_slip : Int32) (f_p1_songLength : Int32) (f_p2_day : Int32) (f_p2_left : Int32) (f_p2_turn : Int32) (f_p2_lot : Int32) (f_p2_seen : Int32) (c_p1_dew : Nat → Int32) (c_p2_water : Nat → Int32) (res : Int32 × Int64) (f_t_trace : Int64) (x3 : Int32) (h : F_X2_marked c_p1_dew c_p2_water f_t_trace x3 = some res) : ∀ (H : Heap) (locs : List Loc), va_P G vwCl [(a_t, .inr (2, [.long f_t_trace])), (a_p1, .inr (3, [.ref a_p1_water, .ref a_p1_need, .ref a_p1_dew, .ref a_p1_drops, .ref a_p1_song, .int f_p1_terraces, .int f_p1_days, .int f_p1_law, .int f_p1_slip, .int f_p1_songLength])), (a_p1_dew, .inl (ca 0, 6, .inl c_p1_dew)), (a_p2, .inr (7, [.ref a_p2_water, .ref a_p2_lacked, .ref a_p2_seenTurn, .ref a_p2_seenSet, .int f_p2_day, .int f_p2_left, .int f_p2_turn, .int f_p2_lot, .int f_p2_seen])), (a_p2_water, .inl (ca 0, 6, .inl c_p2_water))] H → va_D A [(a_t, .inr (2, [.long f_t_trace])), (a_p1, .inr (3, [.ref a_p1_water, .ref a_p1_need, .ref a_p1_dew, .ref a_p1_drops, .ref a_p1_song, .int f_p1_terraces, .int f_p1_days, .int f_p1_law, .int f_p1_slip, .int f_p1_songLength])), (a_p1_dew, .inl (ca 0, 6, .inl c_p1_dew)), (a_p2, .inr (7, [.ref a_p2_water, .ref a_p2_lacked, .ref a_p2_seenTurn, .ref a_p2_seenSet, .int f_p2_day, .int f_p2_left, .int f_p2_turn, .int f_p2_lot, .int f_p2_seen])), (a_p2_water, .inl (ca 0, 6, .inl c_p2_water))] → va_S A s.heap H locs → ∀ (ls : Array Slot), lv_has ls 4 [(0, .ref a_t), (1, .ref a_p1), (2, .ref a_p2), (3, .int x3)] → W p l e RM_X2_marked s m args below meth c H locs 0 0 (MQ below (QI_ G A res.1 [(a_t, .inr (2, [.long res.2])), (a_p1, .inr (3, [.ref a_p1_water, .ref a_p1_need, .ref a_p1_dew, .ref a_p1_drops, .ref a_p1_song, .int f_p1_terraces, .int f_p1_days, .int f_p1_law, .int f_p1_slip, .int f_p1_songLength])), (a_p1_dew, .inl (ca 0, 6, .inl c_p1_dew)), (a_p2, .inr (7, [.ref a_p2_water, .ref a_p2_lacked, .ref a_p2_seenTurn, .ref a_p2_seenSet, .int f_p2_day, .int f_p2_left, .int f_p2_turn, .int f_p2_lot, .int f_p2_seen])), (a_p2_water, .inl (ca 0, 6, .inl c_p2_water))]) args s 0 0 A) (F0 m 0 ls []) := by
  obtain ⟨hx, hb, hr, hml, hown, hts, hlocks, hK, hA, hE⟩ := id X0
  intro H locs hP hD hS ls hl
  unfold F_X2_marked at h
  refine lv_aload_n hx hb dX2_marked_0 rfl (lv_at hl 0 rfl) ?_
  refine lv_sipush (v := 10000) hx hb dX2_marked_1 (by decide) ?_
  obtain ⟨u1, hc2, h⟩ := bd_o h
  refine jn_v (wr := [(a_p1, .inr (3, [.ref a_p1_water, .ref a_p1_need, .ref a_p1_dew, .ref a_p1_drops, .ref a_p1_song, .int f_p1_terraces, .int f_p1_days, .int f_p1_law, .int f_p1_slip, .int f_p1_songLength])), (a_p1_dew, .inl (ca 0, 6, .inl c_p1_dew)), (a_p2, .inr (7, [.ref a_p2_water, .ref a_p2_lacked, .ref a_p2_seenTurn, .ref a_p2_seenSet, .int f_p2_day, .int f_p2_left, .int f_p2_turn, .int f_p2_lot, .int f_p2_seen])), (a_p2_water, .inl (ca 0, 6, .inl c_p2_water))]) (ws' := [(a_t, .inr (2, [.long u1])), (a_p1, .inr (3, [.ref a_p1_water, .ref a_p1_need, .ref a_p1_dew, .ref a_p1_drops, .ref a_p1_song, .int f_p1_terraces, .int f_p1_days, .int f_p1_law, .int f_p1_slip, .int f_p1_songLength])), (a_p1_dew, .inl (ca 0, 6, .inl c_p1_dew)), (a_p2, .inr (7, [.ref a_p2_water, .ref a_p2_lacked, .ref a_p2_seenTurn, .ref a_p2_seenSet, .int f_p2_day, .int f_p2_left, .int f_p2_turn, .int f_p2_lot, .int f_p2_seen])), (a_p2_water, .inl (ca 0, 6, .inl c_p2_water))]) (va_runU (As := [.int (10000 : Int32)]) (rest := []) ⟨hx, hb, hml, hown, hts⟩ (c_X4_leave_X2 l G ca ad av H.size a_t f_t_trace (10000 : Int32) u1 hc2) (va_cwU 1 hts gX2_marked_X4_leave_u7X2 rfl rfl rfl rfl (by decide +kernel) ⟨Nat.le_of_ble_eq_true rfl, Nat.le_of_ble_eq_true rfl⟩) (pre_v (q0 := 0) (ci := 2) hK hE hA hP hD hS [0] rfl (by decide) rfl rfl) rfl rfl hl.1 rfl (lv_room (Nat.le_of_ble_eq_true rfl)) dX2_marked_4 ⟨Nat.le_of_ble_eq_true rfl, Nat.le_of_ble_eq_true rfl⟩) hA hP hD hS [0] [1, 2, 3, 4] [4, 0, 1, 2, 3] rfl rfl (by decide) (by decide) (by decide) rfl (fun H locs hP hD hS => ?_)
  refine lv_aload_n hx hb dX2_marked_7 rfl (lv_at hl 0 rfl) ?_
  refine lv_aload_n hx hb dX2_marked_8 rfl (lv_at hl 1 rfl) ?_
  refine lv_aload_n hx hb dX2_marked_9 rfl (lv_at hl 2 rfl) ?_
  refine lv_iload_n hx hb dX2_marked_10 rfl (lv_at hl 3 rfl) ?_
  obtain ⟨u3, hc4, h⟩ := bd_o h
  refine jn_i (wr := []) (ws' := [(a_t, .inr (2, [.long u3.2])), (a_p1, .inr (3, [.ref a_p1_water, .ref a_p1_need, .ref a_p1_dew, .ref a_p1_drops, .ref a_p1_song, .int f_p1_terraces, .int f_p1_days, .int f_p1_law, .int f_p1_slip, .int f_p1_songLength])), (a_p1_dew, .inl (ca 0, 6, .inl c_p1_dew)), (a_p2, .inr (7, [.ref a_p2_water, .ref a_p2_lacked, .ref a_p2_seenTurn, .ref a_p2_seenSet, .int f_p2_day, .int f_p2_left, .int f_p2_turn, .int f_p2_lot, .int f_p2_seen])), (a_p2_water, .inl (ca 0, 6, .inl c_p2_water))]) (va_runSU (hK.1 2 _ rfl).2 (As := [.ref a_p1, .ref a_p2, .int x3]) (rest := []) ⟨hx, hb, hml, hown, hts⟩ (c_X5_marked_X2 l G ca ad av H.size a_t a_p1 a_p1_dew a_p2 a_p2_water a_p1_water a_p1_need a_p1_drops a_p1_song a_p2_lacked a_p2_seenTurn a_p2_seenSet f_p1_terraces f_p1_days f_p1_law f_p1_slip f_p1_songLength f_p2_day f_p2_left f_p2_turn f_p2_lot f_p2_seen c_p1_dew c_p2_water u1 x3 u3 hc4) (va_cwSU 3 hts gX2_marked_X5_marked_s13 rfl rfl rfl (by decide +kernel) ⟨Nat.le_of_ble_eq_true rfl, Nat.le_of_ble_eq_true rfl⟩) (pre_v (q0 := 0) (ci := 2) hK hE hA hP hD hS [0, 1, 2, 3, 4] rfl (by decide) rfl rfl) rfl rfl hl.1 rfl (lv_room (Nat.le_of_ble_eq_true rfl)) dX2_marked_11 ⟨Nat.le_of_ble_eq_true rfl, Nat.le_of_ble_eq_true rfl⟩) hA hP hD hS [0, 1, 2, 3, 4] [] [0, 1, 2, 3, 4] rfl rfl (by decide) (by decide) (by decide) rfl (fun H locs hP hD hS => ?_)
  refine lv_iload_n hx hb dX2_marked_14 rfl (lv_at hl 3 rfl) ?_
  refine lv_iadd hx hb dX2_marked_15 ?_
  have h := sm_i h
  subst h
  exact W.iret (v := (u3.1 + x3)) hx hb hr (fun t ht hW => ⟨⟨(u3.1 + x3), (), rfl, rfl, by rw [ht]; exact hP, hD⟩, hS.F ht⟩) hS.2.2 dX2_marked_16
set_option maxHeartbeats 4000000 in
set_option maxRecDepth 100000 in
theorem c_X2_marked (l : Launch) (G : va_G) (ca : Nat → ClassId) (ad av : Nat → Nat) (sz : Nat) (a_t : Nat) (a_p1 : Nat) (a_p1_dew : Nat) (a_p2 : Nat) (a_p2_water : Nat) (a_p1_water : Nat) (a_p1_need : Nat) (a_p1_drops : Nat) (a_p1_song : Nat) (a_p2_lacked : Nat) (a_p2_seenTurn : Nat) (a_p2_seenSet : Nat) (f_p1_terraces : Int32) (f_p1_days : Int32) (f_p1_law : Int32) (f_p1_slip : Int32) (f_p1_songLength : Int32) (f_p2_day : Int32) (f_p2_left : Int32) (f_p2_turn : Int32) (f_p2_lot : Int32) (f_p2_seen : Int32) (c_p1_dew : Nat → Int32) (c_p2_water : Nat → Int32) (f_t_trace : Int64) (x3 : Int32) (res : Int32 × Int64) (h : F_X2_marked c_p1_dew c_p2_water f_t_trace x3 = some res) : Met l yX2_marked wsX2_marked RM_X2_marked (va_Pc [.ref a_t, .ref a_p1, .ref a_p2, .int x3] (PW_ G ca ad av sz [(a_t, .inr (2, [.long f_t_trace])), (a_p1, .inr (3, [.ref a_p1_water, .ref a_p1_need, .ref a_p1_dew, .ref a_p1_drops, .ref a_p1_song, .int f_p1_terraces, .int f_p1_days, .int f_p1_law, .int f_p1_slip, .int f_p1_songLength])), (a_p1_dew, .inl (ca 0, 6, .inl c_p1_dew)), (a_p2, .inr (7, [.ref a_p2_water, .ref a_p2_lacked, .ref a_p2_seenTurn, .ref a_p2_seenSet, .int f_p2_day, .int f_p2_left, .int f_p2_turn, .int f_p2_lot, .int f_p2_seen])), (a_p2_water, .inl (ca 0, 6, .inl c_p2_water))])) (QI_ G (va_A [(a_t, .inr (2, [.long f_t_trace])), (a_p1, .inr (3, [.ref a_p1_water, .ref a_p1_need, .ref a_p1_dew, .ref a_p1_drops, .ref a_p1_song, .int f_p1_terraces, .int f_p1_days, .int f_p1_law, .int f_p1_slip, .int f_p1_songLength])), (a_p1_dew, .inl (ca 0, 6, .inl c_p1_dew)), (a_p2, .inr (7, [.ref a_p2_water, .ref a_p2_lacked, .ref a_p2_seenTurn, .ref a_p2_seenSet, .int f_p2_day, .int f_p2_left, .int f_p2_turn, .int f_p2_lot, .int f_p2_seen])), (a_p2_water, .inl (ca 0, 6, .inl c_p2_water))] sz) res.1 [(a_t, .inr (2, [.long res.2])), (a_p1, .inr (3, [.ref a_p1_water, .ref a_p1_need, .ref a_p1_dew, .ref a_p1_drops, .ref a_p1_song, .int f_p1_terraces, .int f_p1_days, .int f_p1_law, .int f_p1_slip, .int f_p1_songLength])), (a_p1_dew, .inl (ca 0, 6, .inl c_p1_dew)), (a_p2, .inr (7, [.ref a_p2_water, .ref a_p2_lacked, .ref a_p2_seenTurn, .ref a_p2_seenSet, .int f_p2_day, .int f_p2_left, .int f_p2_turn, .int f_p2_lot, .int f_p2_seen])), (a_p2_water, .inl (ca 0, 6, .inl c_p2_water))]) 0 0 (va_A [(a_t, .inr (2, [.long f_t_trace])), (a_p1, .inr (3, [.ref a_p1_water, .ref a_p1_need, .ref a_p1_dew, .ref a_p1_drops, .ref a_p1_song, .int f_p1_terraces, .int f_p1_days, .int f_p1_law, .int f_p1_slip, .int f_p1_songLength])), (a_p1_dew, .inl (ca 0, 6, .inl c_p1_dew)), (a_p2, .inr (7, [.ref a_p2_water, .ref a_p2_lacked, .ref a_p2_seenTurn, .ref a_p2_seenSet, .int f_p2_day, .int f_p2_left, .int f_p2_turn, .int f_p2_lot, .int f_p2_seen])), (a_p2_water, .inl (ca 0, 6, .inl c_p2_water))] sz) := by
  refine Met.ofW (cc := cX2_marked) (maxL := 4) (ret := (some .int)) (by decide) rfl ?_
  intro p e s m args below meth c s₁ B hml hv
  obtain ⟨X0, rfl, rfl, hP, hD⟩ := en_t B hml hv
  have hl := lv_entry ([.ref a_t, .ref a_p1, .ref a_p2, .int x3]) (n := 4) (Nat.le_of_ble_eq_true rfl)
  rw [lg_entry_eq]
  generalize (lg_sl ([.ref a_t, .ref a_p1, .ref a_p2, .int x3]) ++ List.replicate (4 - (lg_sl ([.ref a_t, .ref a_p1, .ref a_p2, .int x3])).length) Slot.unset).toArray = ls at hl ⊢
  exact w_X2_marked_0 X0 a_t a_p1 a_p1_dew a_p2 a_p2_water a_p1_water a_p1_need a_p1_drops a_p1_song a_p2_lacked a_p2_seenTurn a_p2_seenSet f_p1_terraces f_p1_days f_p1_law f_p1_slip f_p1_songLength f_p2_day f_p2_left f_p2_turn f_p2_lot f_p2_seen c_p1_dew c_p2_water _ f_t_trace x3 h s.heap [] hP hD va_S.rf ls hl

/-! X4_leave_X8 -/
abbrev RM_X4_leave_X8 : Room := { frames := 0, cells := 0, slots := 0, locals := 0 }
theorem k_X4_leave_X8_0 : Cond.fieldLink RX4 7 "DropDealers$Kind" "trace" "J" ∈ wsX4_leave := by decide +kernel
theorem i_X4_leave_X8_X8 : ∀ w ∈ u_ws RX8 TX8 1, w ∈ wsX4_leave := by decide +kernel
def F_X4_leave_X8  (f_t_trace : Int64) (x1 : Int32) : Option (Int64) := some ((f_t_trace + x1.toInt64))
set_option maxHeartbeats 4000000 in
set_option maxRecDepth 100000 in
theorem w_X4_leave_X8_0 {p : Program} {l : Launch} {e : Env} {s : State} {m : MethodId} {args : Array Value} {below : List Frame} {meth : Method} {c : Code} {G : va_G} {ca : Nat → ClassId} {ad av : Nat → Nat} {A : Nat → Prop} (X0 : CX_ p s m args meth c cX4_leave 2 none wsX4_leave RX4 G ca ad av A) (a_t : Nat)   (res : Int64) (f_t_trace : Int64) (x1 : Int32) (h : F_X4_leave_X8  f_t_trace x1 = some res) : ∀ (H : Heap) (locs : List Loc), va_P G vwCl [(a_t, .inr (8, [.long f_t_trace]))] H → va_D A [(a_t, .inr (8, [.long f_t_trace]))] → va_S A s.heap H locs → ∀ (ls : Array Slot), lv_has ls 2 [(0, .ref a_t), (1, .int x1)] → W p l e RM_X4_leave_X8 s m args below meth c H locs 0 0 (MQ below (QV_ G A [(a_t, .inr (8, [.long res]))]) args s 0 0 A) (F0 m 0 ls []) := by
  obtain ⟨hx, hb, hr, hml, hown, hts, hlocks, hK, hA, hE⟩ := id X0
  intro H locs hP hD hS ls hl
  unfold F_X4_leave_X8 at h
  refine lv_aload_n hx hb dX4_leave_0 rfl (lv_at hl 0 rfl) ?_
  refine lv_dup hx hb dX4_leave_1 rfl ?_
  refine va_get (D := G) (ci := 8) (v := .long f_t_trace) (C := RX8) (T := TX8) (N := 1) hx hb hts i_X4_leave_X8_X8 hown hK hP 0 rfl rfl 0 (by decide) (hts _ k_X4_leave_X8_0) (fun _ h9 => h9) rfl dX4_leave_2 ?_
  refine lv_iload_n hx hb dX4_leave_5 rfl (lv_at hl 1 rfl) ?_
  refine lv_i2l hx hb dX4_leave_6 rfl ?_
  refine lv_ladd hx hb dX4_leave_7 ?_
  refine va_put (D := G) (ci := 8) (v := .long (f_t_trace + x1.toInt64)) (ty := .long) (C := RX8) (T := TX8) (N := 1) hx hb hts i_X4_leave_X8_X8 tyX8 tyX8_ok nmX8 hown hK hP hD hS 0 rfl rfl 0 (by decide) (hts _ k_X4_leave_X8_0) (fun _ h9 => h9) rfl (by decide +kernel) rfl rfl (Nat.le_of_ble_eq_true rfl) dX4_leave_8 (fun H locs hP hD hS => ?_)
  have hP : va_P G vwCl [(a_t, .inr (8, [.long (f_t_trace + x1.toInt64)]))] H := hP
  have hD : va_D A [(a_t, .inr (8, [.long (f_t_trace + x1.toInt64)]))] := hD
  have h := sm_i h
  subst h
  exact W.vret hx hb hr (fun t ht hW => ⟨⟨(), rfl, trivial, by rw [ht]; exact hP, hD⟩, hS.F ht⟩) hS.2.2 dX4_leave_11
set_option maxHeartbeats 4000000 in
set_option maxRecDepth 100000 in
theorem c_X4_leave_X8 (l : Launch) (G : va_G) (ca : Nat → ClassId) (ad av : Nat → Nat) (sz : Nat) (a_t : Nat)   (f_t_trace : Int64) (x1 : Int32) (res : Int64) (h : F_X4_leave_X8  f_t_trace x1 = some res) : Met l yX4_leave wsX4_leave RM_X4_leave_X8 (va_Pc [.ref a_t, .int x1] (PW_ G ca ad av sz [(a_t, .inr (8, [.long f_t_trace]))])) (QV_ G (va_A [(a_t, .inr (8, [.long f_t_trace]))] sz) [(a_t, .inr (8, [.long res]))]) 0 0 (va_A [(a_t, .inr (8, [.long f_t_trace]))] sz) := by
  refine Met.ofW (cc := cX4_leave) (maxL := 2) (ret := none) (by decide) rfl ?_
  intro p e s m args below meth c s₁ B hml hv
  obtain ⟨X0, rfl, rfl, hP, hD⟩ := en_t B hml hv
  have hl := lv_entry ([.ref a_t, .int x1]) (n := 2) (Nat.le_of_ble_eq_true rfl)
  rw [lg_entry_eq]
  generalize (lg_sl ([.ref a_t, .int x1]) ++ List.replicate (2 - (lg_sl ([.ref a_t, .int x1])).length) Slot.unset).toArray = ls at hl ⊢
  exact w_X4_leave_X8_0 X0 a_t   _ f_t_trace x1 h s.heap [] hP hD va_S.rf ls hl

/-! X4_marked_X8 -/
abbrev RM_X4_marked_X8 : Room := { frames := 1, cells := 0, slots := 0, locals := 21 }
theorem k_X4_marked_X8_0 : Cond.fieldLinkNest RX4 17 "DropDealers$Now" "water" "[I" "DropDealers" ∈ nw_l := by decide +kernel
theorem i_X4_marked_X8_X7 : ∀ w ∈ u_ws RX7 TX7 9, w ∈ wsX4_marked := by decide +kernel
def F_X4_marked_X8 (c_p2_water : Nat → Int32) (f_t_trace : Int64) (x3 : Int32) : Option (Int32 × Int64) := (F_X4_leave_X8 f_t_trace (1 : Int32)).bind (fun u1 => if ok_I x3 6 = true then some ((c_p2_water x3.toNatClampNeg), u1) else none)
set_option maxHeartbeats 4000000 in
set_option maxRecDepth 100000 in
theorem w_X4_marked_X8_0 {p : Program} {l : Launch} {e : Env} {s : State} {m : MethodId} {args : Array Value} {below : List Frame} {meth : Method} {c : Code} {G : va_G} {ca : Nat → ClassId} {ad av : Nat → Nat} {A : Nat → Prop} (X0 : CX_ p s m args meth c cX4_marked 4 (some .int) wsX4_marked RX4 G ca ad av A) (a_t : Nat) (a_p2 : Nat) (a_p2_water : Nat) (a_p2_lacked : Nat) (a_p2_seenTurn : Nat) (a_p2_seenSet : Nat) (a_p1 : Nat) (f_p2_day : Int32) (f_p2_left : Int32) (f_p2_turn : Int32) (f_p2_lot : Int32) (f_p2_seen : Int32) (c_p2_water : Nat → Int32) (res : Int32 × Int64) (f_t_trace : Int64) (x3 : Int32) (h : F_X4_marked_X8 c_p2_water f_t_trace x3 = some res) : ∀ (H : Heap) (locs : List Loc), va_P G vwCl [(a_t, .inr (8, [.long f_t_trace])), (a_p2, .inr (7, [.ref a_p2_water, .ref a_p2_lacked, .ref a_p2_seenTurn, .ref a_p2_seenSet, .int f_p2_day, .int f_p2_left, .int f_p2_turn, .int f_p2_lot, .int f_p2_seen])), (a_p2_water, .inl (ca 0, 6, .inl c_p2_water))] H → va_D A [(a_t, .inr (8, [.long f_t_trace])), (a_p2, .inr (7, [.ref a_p2_water, .ref a_p2_lacked, .ref a_p2_seenTurn, .ref a_p2_seenSet, .int f_p2_day, .int f_p2_left, .int f_p2_turn, .int f_p2_lot, .int f_p2_seen])), (a_p2_water, .inl (ca 0, 6, .inl c_p2_water))] → va_S A s.heap H locs → ∀ (ls : Array Slot), lv_has ls 4 [(0, .ref a_t), (1, .ref a_p1), (2, .ref a_p2), (3, .int x3)] → W p l e RM_X4_marked_X8 s m args below meth c H locs 0 0 (MQ below (QI_ G A res.1 [(a_t, .inr (8, [.long res.2])), (a_p2, .inr (7, [.ref a_p2_water, .ref a_p2_lacked, .ref a_p2_seenTurn, .ref a_p2_seenSet, .int f_p2_day, .int f_p2_left, .int f_p2_turn, .int f_p2_lot, .int f_p2_seen])), (a_p2_water, .inl (ca 0, 6, .inl c_p2_water))]) args s 0 0 A) (F0 m 0 ls []) := by
  obtain ⟨hx, hb, hr, hml, hown, hts, hlocks, hK, hA, hE⟩ := id X0
  intro H locs hP hD hS ls hl
  unfold F_X4_marked_X8 at h
  refine lv_aload_n hx hb dX4_marked_0 rfl (lv_at hl 0 rfl) ?_
  refine lv_iconst (v := 1) hx hb dX4_marked_1 (by decide) ?_
  obtain ⟨u1, hc2, h⟩ := bd_o h
  refine jn_v (wr := [(a_p2, .inr (7, [.ref a_p2_water, .ref a_p2_lacked, .ref a_p2_seenTurn, .ref a_p2_seenSet, .int f_p2_day, .int f_p2_left, .int f_p2_turn, .int f_p2_lot, .int f_p2_seen])), (a_p2_water, .inl (ca 0, 6, .inl c_p2_water))]) (ws' := [(a_t, .inr (8, [.long u1])), (a_p2, .inr (7, [.ref a_p2_water, .ref a_p2_lacked, .ref a_p2_seenTurn, .ref a_p2_seenSet, .int f_p2_day, .int f_p2_left, .int f_p2_turn, .int f_p2_lot, .int f_p2_seen])), (a_p2_water, .inl (ca 0, 6, .inl c_p2_water))]) (va_runU (As := [.int (1 : Int32)]) (rest := []) ⟨hx, hb, hml, hown, hts⟩ (c_X4_leave_X8 l G ca ad av H.size a_t f_t_trace (1 : Int32) u1 hc2) (va_cwU 1 hts gX4_marked_X4_leave_u13X8 rfl rfl rfl rfl (by decide +kernel) ⟨Nat.le_of_ble_eq_true rfl, Nat.le_of_ble_eq_true rfl⟩) (pre_v (q0 := 0) (ci := 8) hK hE hA hP hD hS [0] rfl (by decide) rfl rfl) rfl rfl hl.1 rfl (lv_room (Nat.le_of_ble_eq_true rfl)) dX4_marked_2 ⟨Nat.le_of_ble_eq_true rfl, Nat.le_of_ble_eq_true rfl⟩) hA hP hD hS [0] [1, 2] [2, 0, 1] rfl rfl (by decide) (by decide) (by decide) rfl (fun H locs hP hD hS => ?_)
  refine lv_aload_n hx hb dX4_marked_5 rfl (lv_at hl 2 rfl) ?_
  refine va_getN (D := G) (ci := 7) (v := .ref a_p2_water) (C := RX7) (T := TX7) (N := 9) hx hb hts i_X4_marked_X8_X7 hown hK hP 1 rfl rfl 0 (by decide) (va_Nw.use rfl (hE.1 _ k_X4_marked_X8_0)) (fun _ h9 => h9) rfl dX4_marked_6 ?_
  refine lv_iload_n hx hb dX4_marked_9 rfl (lv_at hl 3 rfl) ?_
  obtain ⟨g3, h⟩ := gd_t h
  refine va_iald hx hb hK hP 2 0 rfl rfl (ok_in g3) dX4_marked_10 ?_
  have h := sm_i h
  subst h
  exact W.iret (v := (c_p2_water x3.toNatClampNeg)) hx hb hr (fun t ht hW => ⟨⟨(c_p2_water x3.toNatClampNeg), (), rfl, rfl, by rw [ht]; exact hP, hD⟩, hS.F ht⟩) hS.2.2 dX4_marked_11
set_option maxHeartbeats 4000000 in
set_option maxRecDepth 100000 in
theorem c_X4_marked_X8 (l : Launch) (G : va_G) (ca : Nat → ClassId) (ad av : Nat → Nat) (sz : Nat) (a_t : Nat) (a_p2 : Nat) (a_p2_water : Nat) (a_p2_lacked : Nat) (a_p2_seenTurn : Nat) (a_p2_seenSet : Nat) (a_p1 : Nat) (f_p2_day : Int32) (f_p2_left : Int32) (f_p2_turn : Int32) (f_p2_lot : Int32) (f_p2_seen : Int32) (c_p2_water : Nat → Int32) (f_t_trace : Int64) (x3 : Int32) (res : Int32 × Int64) (h : F_X4_marked_X8 c_p2_water f_t_trace x3 = some res) : Met l yX4_marked wsX4_marked RM_X4_marked_X8 (va_Pc [.ref a_t, .ref a_p1, .ref a_p2, .int x3] (PW_ G ca ad av sz [(a_t, .inr (8, [.long f_t_trace])), (a_p2, .inr (7, [.ref a_p2_water, .ref a_p2_lacked, .ref a_p2_seenTurn, .ref a_p2_seenSet, .int f_p2_day, .int f_p2_left, .int f_p2_turn, .int f_p2_lot, .int f_p2_seen])), (a_p2_water, .inl (ca 0, 6, .inl c_p2_water))])) (QI_ G (va_A [(a_t, .inr (8, [.long f_t_trace])), (a_p2, .inr (7, [.ref a_p2_water, .ref a_p2_lacked, .ref a_p2_seenTurn, .ref a_p2_seenSet, .int f_p2_day, .int f_p2_left, .int f_p2_turn, .int f_p2_lot, .int f_p2_seen])), (a_p2_water, .inl (ca 0, 6, .inl c_p2_water))] sz) res.1 [(a_t, .inr (8, [.long res.2])), (a_p2, .inr (7, [.ref a_p2_water, .ref a_p2_lacked, .ref a_p2_seenTurn, .ref a_p2_seenSet, .int f_p2_day, .int f_p2_left, .int f_p2_turn, .int f_p2_lot, .int f_p2_seen])), (a_p2_water, .inl (ca 0, 6, .inl c_p2_water))]) 0 0 (va_A [(a_t, .inr (8, [.long f_t_trace])), (a_p2, .inr (7, [.ref a_p2_water, .ref a_p2_lacked, .ref a_p2_seenTurn, .ref a_p2_seenSet, .int f_p2_day, .int f_p2_left, .int f_p2_turn, .int f_p2_lot, .int f_p2_seen])), (a_p2_water, .inl (ca 0, 6, .inl c_p2_water))] sz) := by
  refine Met.ofW (cc := cX4_marked) (maxL := 4) (ret := (some .int)) (by decide) rfl ?_
  intro p e s m args below meth c s₁ B hml hv
  obtain ⟨X0, rfl, rfl, hP, hD⟩ := en_t B hml hv
  have hl := lv_entry ([.ref a_t, .ref a_p1, .ref a_p2, .int x3]) (n := 4) (Nat.le_of_ble_eq_true rfl)
  rw [lg_entry_eq]
  generalize (lg_sl ([.ref a_t, .ref a_p1, .ref a_p2, .int x3]) ++ List.replicate (4 - (lg_sl ([.ref a_t, .ref a_p1, .ref a_p2, .int x3])).length) Slot.unset).toArray = ls at hl ⊢
  exact w_X4_marked_X8_0 X0 a_t a_p2 a_p2_water a_p2_lacked a_p2_seenTurn a_p2_seenSet a_p1 f_p2_day f_p2_left f_p2_turn f_p2_lot f_p2_seen c_p2_water _ f_t_trace x3 h s.heap [] hP hD va_S.rf ls hl

/-! X0_marked_X8 -/
abbrev RM_X0_marked_X8 : Room := { frames := 2, cells := 0, slots := 0, locals := 44 }
theorem k_X0_marked_X8_0 : Cond.fieldLinkNest RX0 17 "DropDealers$Hill" "need" "[I" "DropDealers" ∈ nw_l := by decide +kernel
theorem i_X0_marked_X8_X3 : ∀ w ∈ u_ws RX3 TX3 10, w ∈ wsX0_marked := by decide +kernel
def F_X0_marked_X8 (c_p1_need : Nat → Int32) (c_p2_water : Nat → Int32) (f_t_trace : Int64) (x3 : Int32) : Option (Int32 × Int64) := (F_X4_leave_X8 f_t_trace (10 : Int32)).bind (fun u1 => (F_X4_marked_X8 c_p2_water u1 x3).bind (fun u3 => if ok_I x3 6 = true then some ((u3.1 - (c_p1_need x3.toNatClampNeg)), u3.2) else none))
set_option maxHeartbeats 4000000 in
set_option maxRecDepth 100000 in
theorem w_X0_marked_X8_0 {p : Program} {l : Launch} {e : Env} {s : State} {m : MethodId} {args : Array Value} {below : List Frame} {meth : Method} {c : Code} {G : va_G} {ca : Nat → ClassId} {ad av : Nat → Nat} {A : Nat → Prop} (X0 : CX_ p s m args meth c cX0_marked 4 (some .int) wsX0_marked RX0 G ca ad av A) (a_t : Nat) (a_p1 : Nat) (a_p1_need : Nat) (a_p2 : Nat) (a_p2_water : Nat) (a_p1_water : Nat) (a_p1_dew : Nat) (a_p1_drops : Nat) (a_p1_song : Nat) (a_p2_lacked : Nat) (a_p2_seenTurn : Nat) (a_p2_seenSet : Nat) (f_p1_terraces : Int32) (f_p1_days : Int32) (f_p1_law : Int32) (f_p1_slip : Int32) (f_p1_songLength : Int32) (f_p2_day : Int32) (f_p2_left : Int32) (f_p2_turn : Int32) (f_p2_lot : Int32) (f_p2_seen : Int32) (c_p1_need : Nat → Int32) (c_p2_water : Nat → Int32) (res : Int32 × Int64) (f_t_trace : Int64) (x3 : Int32) (h : F_X0_marked_X8 c_p1_need c_p2_water f_t_trace x3 = some res) : ∀ (H : Heap) (locs : List Loc), va_P G vwCl [(a_t, .inr (8, [.long f_t_trace])), (a_p1, .inr (3, [.ref a_p1_water, .ref a_p1_need, .ref a_p1_dew, .ref a_p1_drops, .ref a_p1_song, .int f_p1_terraces, .int f_p1_days, .int f_p1_law, .int f_p1_slip, .int f_p1_songLength])), (a_p1_need, .inl (ca 0, 6, .inl c_p1_need)), (a_p2, .inr (7, [.ref a_p2_water, .ref a_p2_lacked, .ref a_p2_seenTurn, .ref a_p2_seenSet, .int f_p2_day, .int f_p2_left, .int f_p2_turn, .int f_p2_lot, .int f_p2_seen])), (a_p2_water, .inl (ca 0, 6, .inl c_p2_water))] H → va_D A [(a_t, .inr (8, [.long f_t_trace])), (a_p1, .inr (3, [.ref a_p1_water, .ref a_p1_need, .ref a_p1_dew, .ref a_p1_drops, .ref a_p1_song, .int f_p1_terraces, .int f_p1_days, .int f_p1_law, .int f_p1_slip, .int f_p1_songLength])), (a_p1_need, .inl (ca 0, 6, .inl c_p1_need)), (a_p2, .inr (7, [.ref a_p2_water, .ref a_p2_lacked, .ref a_p2_seenTurn, .ref a_p2_seenSet, .int f_p2_day, .int f_p2_left, .int f_p2_turn, .int f_p2_lot, .int f_p2_seen])), (a_p2_water, .inl (ca 0, 6, .inl c_p2_water))] → va_S A s.heap H locs → ∀ (ls : Array Slot), lv_has ls 4 [(0, .ref a_t), (1, .ref a_p1), (2, .ref a_p2), (3, .int x3)] → W p l e RM_X0_marked_X8 s m args below meth c H locs 0 0 (MQ below (QI_ G A res.1 [(a_t, .inr (8, [.long res.2])), (a_p1, .inr (3, [.ref a_p1_water, .ref a_p1_need, .ref a_p1_dew, .ref a_p1_drops, .ref a_p1_song, .int f_p1_terraces, .int f_p1_days, .int f_p1_law, .int f_p1_slip, .int f_p1_songLength])), (a_p1_need, .inl (ca 0, 6, .inl c_p1_need)), (a_p2, .inr (7, [.ref a_p2_water, .ref a_p2_lacked, .ref a_p2_seenTurn, .ref a_p2_seenSet, .int f_p2_day, .int f_p2_left, .int f_p2_turn, .int f_p2_lot, .int f_p2_seen])), (a_p2_water, .inl (ca 0, 6, .inl c_p2_water))]) args s 0 0 A) (F0 m 0 ls []) := by
  obtain ⟨hx, hb, hr, hml, hown, hts, hlocks, hK, hA, hE⟩ := id X0
  intro H locs hP hD hS ls hl
  unfold F_X0_marked_X8 at h
  refine lv_aload_n hx hb dX0_marked_0 rfl (lv_at hl 0 rfl) ?_
  refine lv_bipush (v := 10) hx hb dX0_marked_1 (by decide) ?_
  obtain ⟨u1, hc2, h⟩ := bd_o h
  refine jn_v (wr := [(a_p1, .inr (3, [.ref a_p1_water, .ref a_p1_need, .ref a_p1_dew, .ref a_p1_drops, .ref a_p1_song, .int f_p1_terraces, .int f_p1_days, .int f_p1_law, .int f_p1_slip, .int f_p1_songLength])), (a_p1_need, .inl (ca 0, 6, .inl c_p1_need)), (a_p2, .inr (7, [.ref a_p2_water, .ref a_p2_lacked, .ref a_p2_seenTurn, .ref a_p2_seenSet, .int f_p2_day, .int f_p2_left, .int f_p2_turn, .int f_p2_lot, .int f_p2_seen])), (a_p2_water, .inl (ca 0, 6, .inl c_p2_water))]) (ws' := [(a_t, .inr (8, [.long u1])), (a_p1, .inr (3, [.ref a_p1_water, .ref a_p1_need, .ref a_p1_dew, .ref a_p1_drops, .ref a_p1_song, .int f_p1_terraces, .int f_p1_days, .int f_p1_law, .int f_p1_slip, .int f_p1_songLength])), (a_p1_need, .inl (ca 0, 6, .inl c_p1_need)), (a_p2, .inr (7, [.ref a_p2_water, .ref a_p2_lacked, .ref a_p2_seenTurn, .ref a_p2_seenSet, .int f_p2_day, .int f_p2_left, .int f_p2_turn, .int f_p2_lot, .int f_p2_seen])), (a_p2_water, .inl (ca 0, 6, .inl c_p2_water))]) (va_runU (As := [.int (10 : Int32)]) (rest := []) ⟨hx, hb, hml, hown, hts⟩ (c_X4_leave_X8 l G ca ad av H.size a_t f_t_trace (10 : Int32) u1 hc2) (va_cwU 1 hts gX0_marked_X4_leave_u7X8 rfl rfl rfl rfl (by decide +kernel) ⟨Nat.le_of_ble_eq_true rfl, Nat.le_of_ble_eq_true rfl⟩) (pre_v (q0 := 0) (ci := 8) hK hE hA hP hD hS [0] rfl (by decide) rfl rfl) rfl rfl hl.1 rfl (lv_room (Nat.le_of_ble_eq_true rfl)) dX0_marked_3 ⟨Nat.le_of_ble_eq_true rfl, Nat.le_of_ble_eq_true rfl⟩) hA hP hD hS [0] [1, 2, 3, 4] [4, 0, 1, 2, 3] rfl rfl (by decide) (by decide) (by decide) rfl (fun H locs hP hD hS => ?_)
  refine lv_aload_n hx hb dX0_marked_6 rfl (lv_at hl 0 rfl) ?_
  refine lv_aload_n hx hb dX0_marked_7 rfl (lv_at hl 1 rfl) ?_
  refine lv_aload_n hx hb dX0_marked_8 rfl (lv_at hl 2 rfl) ?_
  refine lv_iload_n hx hb dX0_marked_9 rfl (lv_at hl 3 rfl) ?_
  obtain ⟨u3, hc4, h⟩ := bd_o h
  refine jn_i (wr := [(a_p1, .inr (3, [.ref a_p1_water, .ref a_p1_need, .ref a_p1_dew, .ref a_p1_drops, .ref a_p1_song, .int f_p1_terraces, .int f_p1_days, .int f_p1_law, .int f_p1_slip, .int f_p1_songLength])), (a_p1_need, .inl (ca 0, 6, .inl c_p1_need))]) (ws' := [(a_t, .inr (8, [.long u3.2])), (a_p1, .inr (3, [.ref a_p1_water, .ref a_p1_need, .ref a_p1_dew, .ref a_p1_drops, .ref a_p1_song, .int f_p1_terraces, .int f_p1_days, .int f_p1_law, .int f_p1_slip, .int f_p1_songLength])), (a_p1_need, .inl (ca 0, 6, .inl c_p1_need)), (a_p2, .inr (7, [.ref a_p2_water, .ref a_p2_lacked, .ref a_p2_seenTurn, .ref a_p2_seenSet, .int f_p2_day, .int f_p2_left, .int f_p2_turn, .int f_p2_lot, .int f_p2_seen])), (a_p2_water, .inl (ca 0, 6, .inl c_p2_water))]) (va_runSU (hK.1 8 _ rfl).2 (As := [.ref a_p1, .ref a_p2, .int x3]) (rest := []) ⟨hx, hb, hml, hown, hts⟩ (c_X4_marked_X8 l G ca ad av H.size a_t a_p2 a_p2_water a_p2_lacked a_p2_seenTurn a_p2_seenSet a_p1 f_p2_day f_p2_left f_p2_turn f_p2_lot f_p2_seen c_p2_water u1 x3 u3 hc4) (va_cwSU 3 hts gX0_marked_X4_marked_s13 rfl rfl rfl (by decide +kernel) ⟨Nat.le_of_ble_eq_true rfl, Nat.le_of_ble_eq_true rfl⟩) (pre_v (q0 := 0) (ci := 8) hK hE hA hP hD hS [0, 3, 4] rfl (by decide) rfl rfl) rfl rfl hl.1 rfl (lv_room (Nat.le_of_ble_eq_true rfl)) dX0_marked_10 ⟨Nat.le_of_ble_eq_true rfl, Nat.le_of_ble_eq_true rfl⟩) hA hP hD hS [0, 3, 4] [1, 2] [2, 0, 1, 3, 4] rfl rfl (by decide) (by decide) (by decide) rfl (fun H locs hP hD hS => ?_)
  refine lv_aload_n hx hb dX0_marked_13 rfl (lv_at hl 1 rfl) ?_
  refine va_getN (D := G) (ci := 3) (v := .ref a_p1_need) (C := RX3) (T := TX3) (N := 10) hx hb hts i_X0_marked_X8_X3 hown hK hP 1 rfl rfl 1 (by decide) (va_Nw.use rfl (hE.1 _ k_X0_marked_X8_0)) (fun _ h9 => h9) rfl dX0_marked_14 ?_
  refine lv_iload_n hx hb dX0_marked_17 rfl (lv_at hl 3 rfl) ?_
  obtain ⟨g5, h⟩ := gd_t h
  refine va_iald hx hb hK hP 2 0 rfl rfl (ok_in g5) dX0_marked_18 ?_
  refine lv_isub hx hb dX0_marked_19 ?_
  have h := sm_i h
  subst h
  exact W.iret (v := (u3.1 - (c_p1_need x3.toNatClampNeg))) hx hb hr (fun t ht hW => ⟨⟨(u3.1 - (c_p1_need x3.toNatClampNeg)), (), rfl, rfl, by rw [ht]; exact hP, hD⟩, hS.F ht⟩) hS.2.2 dX0_marked_20
set_option maxHeartbeats 4000000 in
set_option maxRecDepth 100000 in
theorem c_X0_marked_X8 (l : Launch) (G : va_G) (ca : Nat → ClassId) (ad av : Nat → Nat) (sz : Nat) (a_t : Nat) (a_p1 : Nat) (a_p1_need : Nat) (a_p2 : Nat) (a_p2_water : Nat) (a_p1_water : Nat) (a_p1_dew : Nat) (a_p1_drops : Nat) (a_p1_song : Nat) (a_p2_lacked : Nat) (a_p2_seenTurn : Nat) (a_p2_seenSet : Nat) (f_p1_terraces : Int32) (f_p1_days : Int32) (f_p1_law : Int32) (f_p1_slip : Int32) (f_p1_songLength : Int32) (f_p2_day : Int32) (f_p2_left : Int32) (f_p2_turn : Int32) (f_p2_lot : Int32) (f_p2_seen : Int32) (c_p1_need : Nat → Int32) (c_p2_water : Nat → Int32) (f_t_trace : Int64) (x3 : Int32) (res : Int32 × Int64) (h : F_X0_marked_X8 c_p1_need c_p2_water f_t_trace x3 = some res) : Met l yX0_marked wsX0_marked RM_X0_marked_X8 (va_Pc [.ref a_t, .ref a_p1, .ref a_p2, .int x3] (PW_ G ca ad av sz [(a_t, .inr (8, [.long f_t_trace])), (a_p1, .inr (3, [.ref a_p1_water, .ref a_p1_need, .ref a_p1_dew, .ref a_p1_drops, .ref a_p1_song, .int f_p1_terraces, .int f_p1_days, .int f_p1_law, .int f_p1_slip, .int f_p1_songLength])), (a_p1_need, .inl (ca 0, 6, .inl c_p1_need)), (a_p2, .inr (7, [.ref a_p2_water, .ref a_p2_lacked, .ref a_p2_seenTurn, .ref a_p2_seenSet, .int f_p2_day, .int f_p2_left, .int f_p2_turn, .int f_p2_lot, .int f_p2_seen])), (a_p2_water, .inl (ca 0, 6, .inl c_p2_water))])) (QI_ G (va_A [(a_t, .inr (8, [.long f_t_trace])), (a_p1, .inr (3, [.ref a_p1_water, .ref a_p1_need, .ref a_p1_dew, .ref a_p1_drops, .ref a_p1_song, .int f_p1_terraces, .int f_p1_days, .int f_p1_law, .int f_p1_slip, .int f_p1_songLength])), (a_p1_need, .inl (ca 0, 6, .inl c_p1_need)), (a_p2, .inr (7, [.ref a_p2_water, .ref a_p2_lacked, .ref a_p2_seenTurn, .ref a_p2_seenSet, .int f_p2_day, .int f_p2_left, .int f_p2_turn, .int f_p2_lot, .int f_p2_seen])), (a_p2_water, .inl (ca 0, 6, .inl c_p2_water))] sz) res.1 [(a_t, .inr (8, [.long res.2])), (a_p1, .inr (3, [.ref a_p1_water, .ref a_p1_need, .ref a_p1_dew, .ref a_p1_drops, .ref a_p1_song, .int f_p1_terraces, .int f_p1_days, .int f_p1_law, .int f_p1_slip, .int f_p1_songLength])), (a_p1_need, .inl (ca 0, 6, .inl c_p1_need)), (a_p2, .inr (7, [.ref a_p2_water, .ref a_p2_lacked, .ref a_p2_seenTurn, .ref a_p2_seenSet, .int f_p2_day, .int f_p2_left, .int f_p2_turn, .int f_p2_lot, .int f_p2_seen])), (a_p2_water, .inl (ca 0, 6, .inl c_p2_water))]) 0 0 (va_A [(a_t, .inr (8, [.long f_t_trace])), (a_p1, .inr (3, [.ref a_p1_water, .ref a_p1_need, .ref a_p1_dew, .ref a_p1_drops, .ref a_p1_song, .int f_p1_terraces, .int f_p1_days, .int f_p1_law, .int f_p1_slip, .int f_p1_songLength])), (a_p1_need, .inl (ca 0, 6, .inl c_p1_need)), (a_p2, .inr (7, [.ref a_p2_water, .ref a_p2_lacked, .ref a_p2_seenTurn, .ref a_p2_seenSet, .int f_p2_day, .int f_p2_left, .int f_p2_turn, .int f_p2_lot, .int f_p2_seen])), (a_p2_water, .inl (ca 0, 6, .inl c_p2_water))] sz) := by
  refine Met.ofW (cc := cX0_marked) (maxL := 4) (ret := (some .int)) (by decide) rfl ?_
  intro p e s m args below meth c s₁ B hml hv
  obtain ⟨X0, rfl, rfl, hP, hD⟩ := en_t B hml hv
  have hl := lv_entry ([.ref a_t, .ref a_p1, .ref a_p2, .int x3]) (n := 4) (Nat.le_of_ble_eq_true rfl)
  rw [lg_entry_eq]
  generalize (lg_sl ([.ref a_t, .ref a_p1, .ref a_p2, .int x3]) ++ List.replicate (4 - (lg_sl ([.ref a_t, .ref a_p1, .ref a_p2, .int x3])).length) Slot.unset).toArray = ls at hl ⊢
  exact w_X0_marked_X8_0 X0 a_t a_p1 a_p1_need a_p2 a_p2_water a_p1_water a_p1_dew a_p1_drops a_p1_song a_p2_lacked a_p2_seenTurn a_p2_seenSet f_p1_terraces f_p1_days f_p1_law f_p1_slip f_p1_songLength f_p2_day f_p2_left f_p2_turn f_p2_lot f_p2_seen c_p1_need c_p2_water _ f_t_trace x3 h s.heap [] hP hD va_S.rf ls hl

/-! X8_marked -/
abbrev RM_X8_marked : Room := { frames := 3, cells := 0, slots := 0, locals := 67 }
def F_X8_marked (c_p1_need : Nat → Int32) (c_p2_water : Nat → Int32) (f_t_trace : Int64) (x3 : Int32) : Option (Int32 × Int64) := (F_X4_leave_X8 f_t_trace (1000 : Int32)).bind (fun u1 => (F_X0_marked_X8 c_p1_need c_p2_water u1 x3).bind (fun u3 => some ((u3.1 * (2 : Int32)), u3.2)))
set_option maxHeartbeats 4000000 in
set_option maxRecDepth 100000 in
theorem w_X8_marked_0 {p : Program} {l : Launch} {e : Env} {s : State} {m : MethodId} {args : Array Value} {below : List Frame} {meth : Method} {c : Code} {G : va_G} {ca : Nat → ClassId} {ad av : Nat → Nat} {A : Nat → Prop} (X0 : CX_ p s m args meth c cX8_marked 4 (some .int) wsX8_marked RX8 G ca ad av A) (a_t : Nat) (a_p1 : Nat) (a_p1_need : Nat) (a_p2 : Nat) (a_p2_water : Nat) (a_p1_water : Nat) (a_p1_dew : Nat) (a_p1_drops : Nat) (a_p1_song : Nat) (a_p2_lacked : Nat) (a_p2_seenTurn : Nat) (a_p2_seenSet : Nat) (f_p1_terraces : Int32) (f_p1_days : Int32) (f_p1_law : Int32) (f_p1_slip : Int32) (f_p1_songLength : Int32) (f_p2_day : Int32) (f_p2_left : Int32) (f_p2_turn : Int32) (f_p2_lot : Int32) (f_p2_seen : Int32) (c_p1_need : Nat → Int32) (c_p2_water : Nat → Int32) (res : Int32 × Int64) (f_t_trace : Int64) (x3 : Int32) (h : F_X8_marked c_p1_need c_p2_water f_t_trace x3 = some res) : ∀ (H : Heap) (locs : List Loc), va_P G vwCl [(a_t, .inr (8, [.long f_t_trace])), (a_p1, .inr (3, [.ref a_p1_water, .ref a_p1_need, .ref a_p1_dew, .ref a_p1_drops, .ref a_p1_song, .int f_p1_terraces, .int f_p1_days, .int f_p1_law, .int f_p1_slip, .int f_p1_songLength])), (a_p1_need, .inl (ca 0, 6, .inl c_p1_need)), (a_p2, .inr (7, [.ref a_p2_water, .ref a_p2_lacked, .ref a_p2_seenTurn, .ref a_p2_seenSet, .int f_p2_day, .int f_p2_left, .int f_p2_turn, .int f_p2_lot, .int f_p2_seen])), (a_p2_water, .inl (ca 0, 6, .inl c_p2_water))] H → va_D A [(a_t, .inr (8, [.long f_t_trace])), (a_p1, .inr (3, [.ref a_p1_water, .ref a_p1_need, .ref a_p1_dew, .ref a_p1_drops, .ref a_p1_song, .int f_p1_terraces, .int f_p1_days, .int f_p1_law, .int f_p1_slip, .int f_p1_songLength])), (a_p1_need, .inl (ca 0, 6, .inl c_p1_need)), (a_p2, .inr (7, [.ref a_p2_water, .ref a_p2_lacked, .ref a_p2_seenTurn, .ref a_p2_seenSet, .int f_p2_day, .int f_p2_left, .int f_p2_turn, .int f_p2_lot, .int f_p2_seen])), (a_p2_water, .inl (ca 0, 6, .inl c_p2_water))] → va_S A s.heap H locs → ∀ (ls : Array Slot), lv_has ls 4 [(0, .ref a_t), (1, .ref a_p1), (2, .ref a_p2), (3, .int x3)] → W p l e RM_X8_marked s m args below meth c H locs 0 0 (MQ below (QI_ G A res.1 [(a_t, .inr (8, [.long res.2])), (a_p1, .inr (3, [.ref a_p1_water, .ref a_p1_need, .ref a_p1_dew, .ref a_p1_drops, .ref a_p1_song, .int f_p1_terraces, .int f_p1_days, .int f_p1_law, .int f_p1_slip, .int f_p1_songLength])), (a_p1_need, .inl (ca 0, 6, .inl c_p1_need)), (a_p2, .inr (7, [.ref a_p2_water, .ref a_p2_lacked, .ref a_p2_seenTurn, .ref a_p2_seenSet, .int f_p2_day, .int f_p2_left, .int f_p2_turn, .int f_p2_lot, .int f_p2_seen])), (a_p2_water, .inl (ca 0, 6, .inl c_p2_water))]) args s 0 0 A) (F0 m 0 ls []) := by
  obtain ⟨hx, hb, hr, hml, hown, hts, hlocks, hK, hA, hE⟩ := id X0
  intro H locs hP hD hS ls hl
  unfold F_X8_marked at h
  refine lv_aload_n hx hb dX8_marked_0 rfl (lv_at hl 0 rfl) ?_
  refine lv_sipush (v := 1000) hx hb dX8_marked_1 (by decide) ?_
  obtain ⟨u1, hc2, h⟩ := bd_o h
  refine jn_v (wr := [(a_p1, .inr (3, [.ref a_p1_water, .ref a_p1_need, .ref a_p1_dew, .ref a_p1_drops, .ref a_p1_song, .int f_p1_terraces, .int f_p1_days, .int f_p1_law, .int f_p1_slip, .int f_p1_songLength])), (a_p1_need, .inl (ca 0, 6, .inl c_p1_need)), (a_p2, .inr (7, [.ref a_p2_water, .ref a_p2_lacked, .ref a_p2_seenTurn, .ref a_p2_seenSet, .int f_p2_day, .int f_p2_left, .int f_p2_turn, .int f_p2_lot, .int f_p2_seen])), (a_p2_water, .inl (ca 0, 6, .inl c_p2_water))]) (ws' := [(a_t, .inr (8, [.long u1])), (a_p1, .inr (3, [.ref a_p1_water, .ref a_p1_need, .ref a_p1_dew, .ref a_p1_drops, .ref a_p1_song, .int f_p1_terraces, .int f_p1_days, .int f_p1_law, .int f_p1_slip, .int f_p1_songLength])), (a_p1_need, .inl (ca 0, 6, .inl c_p1_need)), (a_p2, .inr (7, [.ref a_p2_water, .ref a_p2_lacked, .ref a_p2_seenTurn, .ref a_p2_seenSet, .int f_p2_day, .int f_p2_left, .int f_p2_turn, .int f_p2_lot, .int f_p2_seen])), (a_p2_water, .inl (ca 0, 6, .inl c_p2_water))]) (va_runU (As := [.int (1000 : Int32)]) (rest := []) ⟨hx, hb, hml, hown, hts⟩ (c_X4_leave_X8 l G ca ad av H.size a_t f_t_trace (1000 : Int32) u1 hc2) (va_cwU 1 hts gX8_marked_X4_leave_u7X8 rfl rfl rfl rfl (by decide +kernel) ⟨Nat.le_of_ble_eq_true rfl, Nat.le_of_ble_eq_true rfl⟩) (pre_v (q0 := 0) (ci := 8) hK hE hA hP hD hS [0] rfl (by decide) rfl rfl) rfl rfl hl.1 rfl (lv_room (Nat.le_of_ble_eq_true rfl)) dX8_marked_4 ⟨Nat.le_of_ble_eq_true rfl, Nat.le_of_ble_eq_true rfl⟩) hA hP hD hS [0] [1, 2, 3, 4] [4, 0, 1, 2, 3] rfl rfl (by decide) (by decide) (by decide) rfl (fun H locs hP hD hS => ?_)
  refine lv_aload_n hx hb dX8_marked_7 rfl (lv_at hl 0 rfl) ?_
  refine lv_aload_n hx hb dX8_marked_8 rfl (lv_at hl 1 rfl) ?_
  refine lv_aload_n hx hb dX8_marked_9 rfl (lv_at hl 2 rfl) ?_
  refine lv_iload_n hx hb dX8_marked_10 rfl (lv_at hl 3 rfl) ?_
  obtain ⟨u3, hc4, h⟩ := bd_o h
  refine jn_i (wr := []) (ws' := [(a_t, .inr (8, [.long u3.2])), (a_p1, .inr (3, [.ref a_p1_water, .ref a_p1_need, .ref a_p1_dew, .ref a_p1_drops, .ref a_p1_song, .int f_p1_terraces, .int f_p1_days, .int f_p1_law, .int f_p1_slip, .int f_p1_songLength])), (a_p1_need, .inl (ca 0, 6, .inl c_p1_need)), (a_p2, .inr (7, [.ref a_p2_water, .ref a_p2_lacked, .ref a_p2_seenTurn, .ref a_p2_seenSet, .int f_p2_day, .int f_p2_left, .int f_p2_turn, .int f_p2_lot, .int f_p2_seen])), (a_p2_water, .inl (ca 0, 6, .inl c_p2_water))]) (va_runSU (hK.1 8 _ rfl).2 (As := [.ref a_p1, .ref a_p2, .int x3]) (rest := []) ⟨hx, hb, hml, hown, hts⟩ (c_X0_marked_X8 l G ca ad av H.size a_t a_p1 a_p1_need a_p2 a_p2_water a_p1_water a_p1_dew a_p1_drops a_p1_song a_p2_lacked a_p2_seenTurn a_p2_seenSet f_p1_terraces f_p1_days f_p1_law f_p1_slip f_p1_songLength f_p2_day f_p2_left f_p2_turn f_p2_lot f_p2_seen c_p1_need c_p2_water u1 x3 u3 hc4) (va_cwSU 3 hts gX8_marked_X0_marked_s13 rfl rfl rfl (by decide +kernel) ⟨Nat.le_of_ble_eq_true rfl, Nat.le_of_ble_eq_true rfl⟩) (pre_v (q0 := 0) (ci := 8) hK hE hA hP hD hS [0, 1, 2, 3, 4] rfl (by decide) rfl rfl) rfl rfl hl.1 rfl (lv_room (Nat.le_of_ble_eq_true rfl)) dX8_marked_11 ⟨Nat.le_of_ble_eq_true rfl, Nat.le_of_ble_eq_true rfl⟩) hA hP hD hS [0, 1, 2, 3, 4] [] [0, 1, 2, 3, 4] rfl rfl (by decide) (by decide) (by decide) rfl (fun H locs hP hD hS => ?_)
  refine lv_iconst (v := 2) hx hb dX8_marked_14 (by decide) ?_
  refine lv_imul hx hb dX8_marked_15 ?_
  have h := sm_i h
  subst h
  exact W.iret (v := (u3.1 * (2 : Int32))) hx hb hr (fun t ht hW => ⟨⟨(u3.1 * (2 : Int32)), (), rfl, rfl, by rw [ht]; exact hP, hD⟩, hS.F ht⟩) hS.2.2 dX8_marked_16
set_option maxHeartbeats 4000000 in
set_option maxRecDepth 100000 in
theorem c_X8_marked (l : Launch) (G : va_G) (ca : Nat → ClassId) (ad av : Nat → Nat) (sz : Nat) (a_t : Nat) (a_p1 : Nat) (a_p1_need : Nat) (a_p2 : Nat) (a_p2_water : Nat) (a_p1_water : Nat) (a_p1_dew : Nat) (a_p1_drops : Nat) (a_p1_song : Nat) (a_p2_lacked : Nat) (a_p2_seenTurn : Nat) (a_p2_seenSet : Nat) (f_p1_terraces : Int32) (f_p1_days : Int32) (f_p1_law : Int32) (f_p1_slip : Int32) (f_p1_songLength : Int32) (f_p2_day : Int32) (f_p2_left : Int32) (f_p2_turn : Int32) (f_p2_lot : Int32) (f_p2_seen : Int32) (c_p1_need : Nat → Int32) (c_p2_water : Nat → Int32) (f_t_trace : Int64) (x3 : Int32) (res : Int32 × Int64) (h : F_X8_marked c_p1_need c_p2_water f_t_trace x3 = some res) : Met l yX8_marked wsX8_marked RM_X8_marked (va_Pc [.ref a_t, .ref a_p1, .ref a_p2, .int x3] (PW_ G ca ad av sz [(a_t, .inr (8, [.long f_t_trace])), (a_p1, .inr (3, [.ref a_p1_water, .ref a_p1_need, .ref a_p1_dew, .ref a_p1_drops, .ref a_p1_song, .int f_p1_terraces, .int f_p1_days, .int f_p1_law, .int f_p1_slip, .int f_p1_songLength])), (a_p1_need, .inl (ca 0, 6, .inl c_p1_need)), (a_p2, .inr (7, [.ref a_p2_water, .ref a_p2_lacked, .ref a_p2_seenTurn, .ref a_p2_seenSet, .int f_p2_day, .int f_p2_left, .int f_p2_turn, .int f_p2_lot, .int f_p2_seen])), (a_p2_water, .inl (ca 0, 6, .inl c_p2_water))])) (QI_ G (va_A [(a_t, .inr (8, [.long f_t_trace])), (a_p1, .inr (3, [.ref a_p1_water, .ref a_p1_need, .ref a_p1_dew, .ref a_p1_drops, .ref a_p1_song, .int f_p1_terraces, .int f_p1_days, .int f_p1_law, .int f_p1_slip, .int f_p1_songLength])), (a_p1_need, .inl (ca 0, 6, .inl c_p1_need)), (a_p2, .inr (7, [.ref a_p2_water, .ref a_p2_lacked, .ref a_p2_seenTurn, .ref a_p2_seenSet, .int f_p2_day, .int f_p2_left, .int f_p2_turn, .int f_p2_lot, .int f_p2_seen])), (a_p2_water, .inl (ca 0, 6, .inl c_p2_water))] sz) res.1 [(a_t, .inr (8, [.long res.2])), (a_p1, .inr (3, [.ref a_p1_water, .ref a_p1_need, .ref a_p1_dew, .ref a_p1_drops, .ref a_p1_song, .int f_p1_terraces, .int f_p1_days, .int f_p1_law, .int f_p1_slip, .int f_p1_songLength])), (a_p1_need, .inl (ca 0, 6, .inl c_p1_need)), (a_p2, .inr (7, [.ref a_p2_water, .ref a_p2_lacked, .ref a_p2_seenTurn, .ref a_p2_seenSet, .int f_p2_day, .int f_p2_left, .int f_p2_turn, .int f_p2_lot, .int f_p2_seen])), (a_p2_water, .inl (ca 0, 6, .inl c_p2_water))]) 0 0 (va_A [(a_t, .inr (8, [.long f_t_trace])), (a_p1, .inr (3, [.ref a_p1_water, .ref a_p1_need, .ref a_p1_dew, .ref a_p1_drops, .ref a_p1_song, .int f_p1_terraces, .int f_p1_days, .int f_p1_law, .int f_p1_slip, .int f_p1_songLength])), (a_p1_need, .inl (ca 0, 6, .inl c_p1_need)), (a_p2, .inr (7, [.ref a_p2_water, .ref a_p2_lacked, .ref a_p2_seenTurn, .ref a_p2_seenSet, .int f_p2_day, .int f_p2_left, .int f_p2_turn, .int f_p2_lot, .int f_p2_seen])), (a_p2_water, .inl (ca 0, 6, .inl c_p2_water))] sz) := by
  refine Met.ofW (cc := cX8_marked) (maxL := 4) (ret := (some .int)) (by decide) rfl ?_
  intro p e s m args below meth c s₁ B hml hv
  obtain ⟨X0, rfl, rfl, hP, hD⟩ := en_t B hml hv
  have hl := lv_entry ([.ref a_t, .ref a_p1, .ref a_p2, .int x3]) (n := 4) (Nat.le_of_ble_eq_true rfl)
  rw [lg_entry_eq]
  generalize (lg_sl ([.ref a_t, .ref a_p1, .ref a_p2, .int x3]) ++ List.replicate (4 - (lg_sl ([.ref a_t, .ref a_p1, .ref a_p2, .int x3])).length) Slot.unset).toArray = ls at hl ⊢
  exact w_X8_marked_0 X0 a_t a_p1 a_p1_need a_p2 a_p2_water a_p1_water a_p1_dew a_p1_drops a_p1_song a_p2_lacked a_p2_seenTurn a_p2_seenSet f_p1_terraces f_p1_days f_p1_law f_p1_slip f_p1_songLength f_p2_day f_p2_left f_p2_turn f_p2_lot f_p2_seen c_p1_need c_p2_water _ f_t_trace x3 h s.heap [] hP hD va_S.rf ls hl

/-! X4_leave_X5 -/
abbrev RM_X4_leave_X5 : Room := { frames := 0, cells := 0, slots := 0, locals := 0 }
theorem k_X4_leave_X5_0 : Cond.fieldLink RX4 7 "DropDealers$Kind" "trace" "J" ∈ wsX4_leave := by decide +kernel
theorem i_X4_leave_X5_X5 : ∀ w ∈ u_ws RX5 TX5 1, w ∈ wsX4_leave := by decide +kernel
def F_X4_leave_X5  (f_t_trace : Int64) (x1 : Int32) : Option (Int64) := some ((f_t_trace + x1.toInt64))
set_option maxHeartbeats 4000000 in
set_option maxRecDepth 100000 in
theorem w_X4_leave_X5_0 {p : Program} {l : Launch} {e : Env} {s : State} {m : MethodId} {args : Array Value} {below : List Frame} {meth : Method} {c : Code} {G : va_G} {ca : Nat → ClassId} {ad av : Nat → Nat} {A : Nat → Prop} (X0 : CX_ p s m args meth c cX4_leave 2 none wsX4_leave RX4 G ca ad av A) (a_t : Nat)   (res : Int64) (f_t_trace : Int64) (x1 : Int32) (h : F_X4_leave_X5  f_t_trace x1 = some res) : ∀ (H : Heap) (locs : List Loc), va_P G vwCl [(a_t, .inr (5, [.long f_t_trace]))] H → va_D A [(a_t, .inr (5, [.long f_t_trace]))] → va_S A s.heap H locs → ∀ (ls : Array Slot), lv_has ls 2 [(0, .ref a_t), (1, .int x1)] → W p l e RM_X4_leave_X5 s m args below meth c H locs 0 0 (MQ below (QV_ G A [(a_t, .inr (5, [.long res]))]) args s 0 0 A) (F0 m 0 ls []) := by
  obtain ⟨hx, hb, hr, hml, hown, hts, hlocks, hK, hA, hE⟩ := id X0
  intro H locs hP hD hS ls hl
  unfold F_X4_leave_X5 at h
  refine lv_aload_n hx hb dX4_leave_0 rfl (lv_at hl 0 rfl) ?_
  refine lv_dup hx hb dX4_leave_1 rfl ?_
  refine va_get (D := G) (ci := 5) (v := .long f_t_trace) (C := RX5) (T := TX5) (N := 1) hx hb hts i_X4_leave_X5_X5 hown hK hP 0 rfl rfl 0 (by decide) (hts _ k_X4_leave_X5_0) (fun _ h9 => h9) rfl dX4_leave_2 ?_
  refine lv_iload_n hx hb dX4_leave_5 rfl (lv_at hl 1 rfl) ?_
  refine lv_i2l hx hb dX4_leave_6 rfl ?_
  refine lv_ladd hx hb dX4_leave_7 ?_
  refine va_put (D := G) (ci := 5) (v := .long (f_t_trace + x1.toInt64)) (ty := .long) (C := RX5) (T := TX5) (N := 1) hx hb hts i_X4_leave_X5_X5 tyX5 tyX5_ok nmX5 hown hK hP hD hS 0 rfl rfl 0 (by decide) (hts _ k_X4_leave_X5_0) (fun _ h9 => h9) rfl (by decide +kernel) rfl rfl (Nat.le_of_ble_eq_true rfl) dX4_leave_8 (fun H locs hP hD hS => ?_)
  have hP : va_P G vwCl [(a_t, .inr (5, [.long (f_t_trace + x1.toInt64)]))] H := hP
  have hD : va_D A [(a_t, .inr (5, [.long (f_t_trace + x1.toInt64)]))] := hD
  have h := sm_i h
  subst h
  exact W.vret hx hb hr (fun t ht hW => ⟨⟨(), rfl, trivial, by rw [ht]; exact hP, hD⟩, hS.F ht⟩) hS.2.2 dX4_leave_11
set_option maxHeartbeats 4000000 in
set_option maxRecDepth 100000 in
theorem c_X4_leave_X5 (l : Launch) (G : va_G) (ca : Nat → ClassId) (ad av : Nat → Nat) (sz : Nat) (a_t : Nat)   (f_t_trace : Int64) (x1 : Int32) (res : Int64) (h : F_X4_leave_X5  f_t_trace x1 = some res) : Met l yX4_leave wsX4_leave RM_X4_leave_X5 (va_Pc [.ref a_t, .int x1] (PW_ G ca ad av sz [(a_t, .inr (5, [.long f_t_trace]))])) (QV_ G (va_A [(a_t, .inr (5, [.long f_t_trace]))] sz) [(a_t, .inr (5, [.long res]))]) 0 0 (va_A [(a_t, .inr (5, [.long f_t_trace]))] sz) := by
  refine Met.ofW (cc := cX4_leave) (maxL := 2) (ret := none) (by decide) rfl ?_
  intro p e s m args below meth c s₁ B hml hv
  obtain ⟨X0, rfl, rfl, hP, hD⟩ := en_t B hml hv
  have hl := lv_entry ([.ref a_t, .int x1]) (n := 2) (Nat.le_of_ble_eq_true rfl)
  rw [lg_entry_eq]
  generalize (lg_sl ([.ref a_t, .int x1]) ++ List.replicate (2 - (lg_sl ([.ref a_t, .int x1])).length) Slot.unset).toArray = ls at hl ⊢
  exact w_X4_leave_X5_0 X0 a_t   _ f_t_trace x1 h s.heap [] hP hD va_S.rf ls hl

/-! X4_marked_X5 -/
abbrev RM_X4_marked_X5 : Room := { frames := 1, cells := 0, slots := 0, locals := 21 }
theorem k_X4_marked_X5_0 : Cond.fieldLinkNest RX4 17 "DropDealers$Now" "water" "[I" "DropDealers" ∈ nw_l := by decide +kernel
theorem i_X4_marked_X5_X7 : ∀ w ∈ u_ws RX7 TX7 9, w ∈ wsX4_marked := by decide +kernel
def F_X4_marked_X5 (c_p2_water : Nat → Int32) (f_t_trace : Int64) (x3 : Int32) : Option (Int32 × Int64) := (F_X4_leave_X5 f_t_trace (1 : Int32)).bind (fun u1 => if ok_I x3 6 = true then some ((c_p2_water x3.toNatClampNeg), u1) else none)
set_option maxHeartbeats 4000000 in
set_option maxRecDepth 100000 in
theorem w_X4_marked_X5_0 {p : Program} {l : Launch} {e : Env} {s : State} {m : MethodId} {args : Array Value} {below : List Frame} {meth : Method} {c : Code} {G : va_G} {ca : Nat → ClassId} {ad av : Nat → Nat} {A : Nat → Prop} (X0 : CX_ p s m args meth c cX4_marked 4 (some .int) wsX4_marked RX4 G ca ad av A) (a_t : Nat) (a_p2 : Nat) (a_p2_water : Nat) (a_p2_lacked : Nat) (a_p2_seenTurn : Nat) (a_p2_seenSet : Nat) (a_p1 : Nat) (f_p2_day : Int32) (f_p2_left : Int32) (f_p2_turn : Int32) (f_p2_lot : Int32) (f_p2_seen : Int32) (c_p2_water : Nat → Int32) (res : Int32 × Int64) (f_t_trace : Int64) (x3 : Int32) (h : F_X4_marked_X5 c_p2_water f_t_trace x3 = some res) : ∀ (H : Heap) (locs : List Loc), va_P G vwCl [(a_t, .inr (5, [.long f_t_trace])), (a_p2, .inr (7, [.ref a_p2_water, .ref a_p2_lacked, .ref a_p2_seenTurn, .ref a_p2_seenSet, .int f_p2_day, .int f_p2_left, .int f_p2_turn, .int f_p2_lot, .int f_p2_seen])), (a_p2_water, .inl (ca 0, 6, .inl c_p2_water))] H → va_D A [(a_t, .inr (5, [.long f_t_trace])), (a_p2, .inr (7, [.ref a_p2_water, .ref a_p2_lacked, .ref a_p2_seenTurn, .ref a_p2_seenSet, .int f_p2_day, .int f_p2_left, .int f_p2_turn, .int f_p2_lot, .int f_p2_seen])), (a_p2_water, .inl (ca 0, 6, .inl c_p2_water))] → va_S A s.heap H locs → ∀ (ls : Array Slot), lv_has ls 4 [(0, .ref a_t), (1, .ref a_p1), (2, .ref a_p2), (3, .int x3)] → W p l e RM_X4_marked_X5 s m args below meth c H locs 0 0 (MQ below (QI_ G A res.1 [(a_t, .inr (5, [.long res.2])), (a_p2, .inr (7, [.ref a_p2_water, .ref a_p2_lacked, .ref a_p2_seenTurn, .ref a_p2_seenSet, .int f_p2_day, .int f_p2_left, .int f_p2_turn, .int f_p2_lot, .int f_p2_seen])), (a_p2_water, .inl (ca 0, 6, .inl c_p2_water))]) args s 0 0 A) (F0 m 0 ls []) := by
  obtain ⟨hx, hb, hr, hml, hown, hts, hlocks, hK, hA, hE⟩ := id X0
  intro H locs hP hD hS ls hl
  unfold F_X4_marked_X5 at h
  refine lv_aload_n hx hb dX4_marked_0 rfl (lv_at hl 0 rfl) ?_
  refine lv_iconst (v := 1) hx hb dX4_marked_1 (by decide) ?_
  obtain ⟨u1, hc2, h⟩ := bd_o h
  refine jn_v (wr := [(a_p2, .inr (7, [.ref a_p2_water, .ref a_p2_lacked, .ref a_p2_seenTurn, .ref a_p2_seenSet, .int f_p2_day, .int f_p2_left, .int f_p2_turn, .int f_p2_lot, .int f_p2_seen])), (a_p2_water, .inl (ca 0, 6, .inl c_p2_water))]) (ws' := [(a_t, .inr (5, [.long u1])), (a_p2, .inr (7, [.ref a_p2_water, .ref a_p2_lacked, .ref a_p2_seenTurn, .ref a_p2_seenSet, .int f_p2_day, .int f_p2_left, .int f_p2_turn, .int f_p2_lot, .int f_p2_seen])), (a_p2_water, .inl (ca 0, 6, .inl c_p2_water))]) (va_runU (As := [.int (1 : Int32)]) (rest := []) ⟨hx, hb, hml, hown, hts⟩ (c_X4_leave_X5 l G ca ad av H.size a_t f_t_trace (1 : Int32) u1 hc2) (va_cwU 1 hts gX4_marked_X4_leave_u13X5 rfl rfl rfl rfl (by decide +kernel) ⟨Nat.le_of_ble_eq_true rfl, Nat.le_of_ble_eq_true rfl⟩) (pre_v (q0 := 0) (ci := 5) hK hE hA hP hD hS [0] rfl (by decide) rfl rfl) rfl rfl hl.1 rfl (lv_room (Nat.le_of_ble_eq_true rfl)) dX4_marked_2 ⟨Nat.le_of_ble_eq_true rfl, Nat.le_of_ble_eq_true rfl⟩) hA hP hD hS [0] [1, 2] [2, 0, 1] rfl rfl (by decide) (by decide) (by decide) rfl (fun H locs hP hD hS => ?_)
  refine lv_aload_n hx hb dX4_marked_5 rfl (lv_at hl 2 rfl) ?_
  refine va_getN (D := G) (ci := 7) (v := .ref a_p2_water) (C := RX7) (T := TX7) (N := 9) hx hb hts i_X4_marked_X5_X7 hown hK hP 1 rfl rfl 0 (by decide) (va_Nw.use rfl (hE.1 _ k_X4_marked_X5_0)) (fun _ h9 => h9) rfl dX4_marked_6 ?_
  refine lv_iload_n hx hb dX4_marked_9 rfl (lv_at hl 3 rfl) ?_
  obtain ⟨g3, h⟩ := gd_t h
  refine va_iald hx hb hK hP 2 0 rfl rfl (ok_in g3) dX4_marked_10 ?_
  have h := sm_i h
  subst h
  exact W.iret (v := (c_p2_water x3.toNatClampNeg)) hx hb hr (fun t ht hW => ⟨⟨(c_p2_water x3.toNatClampNeg), (), rfl, rfl, by rw [ht]; exact hP, hD⟩, hS.F ht⟩) hS.2.2 dX4_marked_11
set_option maxHeartbeats 4000000 in
set_option maxRecDepth 100000 in
theorem c_X4_marked_X5 (l : Launch) (G : va_G) (ca : Nat → ClassId) (ad av : Nat → Nat) (sz : Nat) (a_t : Nat) (a_p2 : Nat) (a_p2_water : Nat) (a_p2_lacked : Nat) (a_p2_seenTurn : Nat) (a_p2_seenSet : Nat) (a_p1 : Nat) (f_p2_day : Int32) (f_p2_left : Int32) (f_p2_turn : Int32) (f_p2_lot : Int32) (f_p2_seen : Int32) (c_p2_water : Nat → Int32) (f_t_trace : Int64) (x3 : Int32) (res : Int32 × Int64) (h : F_X4_marked_X5 c_p2_water f_t_trace x3 = some res) : Met l yX4_marked wsX4_marked RM_X4_marked_X5 (va_Pc [.ref a_t, .ref a_p1, .ref a_p2, .int x3] (PW_ G ca ad av sz [(a_t, .inr (5, [.long f_t_trace])), (a_p2, .inr (7, [.ref a_p2_water, .ref a_p2_lacked, .ref a_p2_seenTurn, .ref a_p2_seenSet, .int f_p2_day, .int f_p2_left, .int f_p2_turn, .int f_p2_lot, .int f_p2_seen])), (a_p2_water, .inl (ca 0, 6, .inl c_p2_water))])) (QI_ G (va_A [(a_t, .inr (5, [.long f_t_trace])), (a_p2, .inr (7, [.ref a_p2_water, .ref a_p2_lacked, .ref a_p2_seenTurn, .ref a_p2_seenSet, .int f_p2_day, .int f_p2_left, .int f_p2_turn, .int f_p2_lot, .int f_p2_seen])), (a_p2_water, .inl (ca 0, 6, .inl c_p2_water))] sz) res.1 [(a_t, .inr (5, [.long res.2])), (a_p2, .inr (7, [.ref a_p2_water, .ref a_p2_lacked, .ref a_p2_seenTurn, .ref a_p2_seenSet, .int f_p2_day, .int f_p2_left, .int f_p2_turn, .int f_p2_lot, .int f_p2_seen])), (a_p2_water, .inl (ca 0, 6, .inl c_p2_water))]) 0 0 (va_A [(a_t, .inr (5, [.long f_t_trace])), (a_p2, .inr (7, [.ref a_p2_water, .ref a_p2_lacked, .ref a_p2_seenTurn, .ref a_p2_seenSet, .int f_p2_day, .int f_p2_left, .int f_p2_turn, .int f_p2_lot, .int f_p2_seen])), (a_p2_water, .inl (ca 0, 6, .inl c_p2_water))] sz) := by
  refine Met.ofW (cc := cX4_marked) (maxL := 4) (ret := (some .int)) (by decide) rfl ?_
  intro p e s m args below meth c s₁ B hml hv
  obtain ⟨X0, rfl, rfl, hP, hD⟩ := en_t B hml hv
  have hl := lv_entry ([.ref a_t, .ref a_p1, .ref a_p2, .int x3]) (n := 4) (Nat.le_of_ble_eq_true rfl)
  rw [lg_entry_eq]
  generalize (lg_sl ([.ref a_t, .ref a_p1, .ref a_p2, .int x3]) ++ List.replicate (4 - (lg_sl ([.ref a_t, .ref a_p1, .ref a_p2, .int x3])).length) Slot.unset).toArray = ls at hl ⊢
  exact w_X4_marked_X5_0 X0 a_t a_p2 a_p2_water a_p2_lacked a_p2_seenTurn a_p2_seenSet a_p1 f_p2_day f_p2_left f_p2_turn f_p2_lot f_p2_seen c_p2_water _ f_t_trace x3 h s.heap [] hP hD va_S.rf ls hl

/-! X5_marked -/
abbrev RM_X5_marked : Room := { frames := 2, cells := 0, slots := 0, locals := 44 }
theorem k_X5_marked_0 : Cond.fieldLinkNest RX5 17 "DropDealers$Hill" "dew" "[I" "DropDealers" ∈ nw_l := by decide +kernel
theorem i_X5_marked_X3 : ∀ w ∈ u_ws RX3 TX3 10, w ∈ wsX5_marked := by decide +kernel
def F_X5_marked (c_p1_dew : Nat → Int32) (c_p2_water : Nat → Int32) (f_t_trace : Int64) (x3 : Int32) : Option (Int32 × Int64) := (F_X4_leave_X5 f_t_trace (100 : Int32)).bind (fun u1 => (F_X4_marked_X5 c_p2_water u1 x3).bind (fun u3 => if ok_I x3 6 = true then some ((u3.1 + (c_p1_dew x3.toNatClampNeg)), u3.2) else none))
set_option maxHeartbeats 4000000 in
set_option maxRecDepth 100000 in
theorem w_X5_marked_0 {p : Program} {l : Launch} {e : Env} {s : State} {m : MethodId} {args : Array Value} {below : List Frame} {meth : Method} {c : Code} {G : va_G} {ca : Nat → ClassId} {ad av : Nat → Nat} {A : Nat → Prop} (X0 : CX_ p s m args meth c cX5_marked 4 (some .int) wsX5_marked RX5 G ca ad av A) (a_t : Nat) (a_p1 : Nat) (a_p1_dew : Nat) (a_p2 : Nat) (a_p2_water : Nat) (a_p1_water : Nat) (a_p1_need : Nat) (a_p1_drops : Nat) (a_p1_song : Nat) (a_p2_lacked : Nat) (a_p2_seenTurn : Nat) (a_p2_seenSet : Nat) (f_p1_terraces : Int32) (f_p1_days : Int32) (f_p1_law : Int32) (f_p1_slip : Int32) (f_p1_songLength : Int32) (f_p2_day : Int32) (f_p2_left : Int32) (f_p2_turn : Int32) (f_p2_lot : Int32) (f_p2_seen : Int32) (c_p1_dew : Nat → Int32) (c_p2_water : Nat → Int32) (res : Int32 × Int64) (f_t_trace : Int64) (x3 : Int32) (h : F_X5_marked c_p1_dew c_p2_water f_t_trace x3 = some res) : ∀ (H : Heap) (locs : List Loc), va_P G vwCl [(a_t, .inr (5, [.long f_t_trace])), (a_p1, .inr (3, [.ref a_p1_water, .ref a_p1_need, .ref a_p1_dew, .ref a_p1_drops, .ref a_p1_song, .int f_p1_terraces, .int f_p1_days, .int f_p1_law, .int f_p1_slip, .int f_p1_songLength])), (a_p1_dew, .inl (ca 0, 6, .inl c_p1_dew)), (a_p2, .inr (7, [.ref a_p2_water, .ref a_p2_lacked, .ref a_p2_seenTurn, .ref a_p2_seenSet, .int f_p2_day, .int f_p2_left, .int f_p2_turn, .int f_p2_lot, .int f_p2_seen])), (a_p2_water, .inl (ca 0, 6, .inl c_p2_water))] H → va_D A [(a_t, .inr (5, [.long f_t_trace])), (a_p1, .inr (3, [.ref a_p1_water, .ref a_p1_need, .ref a_p1_dew, .ref a_p1_drops, .ref a_p1_song, .int f_p1_terraces, .int f_p1_days, .int f_p1_law, .int f_p1_slip, .int f_p1_songLength])), (a_p1_dew, .inl (ca 0, 6, .inl c_p1_dew)), (a_p2, .inr (7, [.ref a_p2_water, .ref a_p2_lacked, .ref a_p2_seenTurn, .ref a_p2_seenSet, .int f_p2_day, .int f_p2_left, .int f_p2_turn, .int f_p2_lot, .int f_p2_seen])), (a_p2_water, .inl (ca 0, 6, .inl c_p2_water))] → va_S A s.heap H locs → ∀ (ls : Array Slot), lv_has ls 4 [(0, .ref a_t), (1, .ref a_p1), (2, .ref a_p2), (3, .int x3)] → W p l e RM_X5_marked s m args below meth c H locs 0 0 (MQ below (QI_ G A res.1 [(a_t, .inr (5, [.long res.2])), (a_p1, .inr (3, [.ref a_p1_water, .ref a_p1_need, .ref a_p1_dew, .ref a_p1_drops, .ref a_p1_song, .int f_p1_terraces, .int f_p1_days, .int f_p1_law, .int f_p1_slip, .int f_p1_songLength])), (a_p1_dew, .inl (ca 0, 6, .inl c_p1_dew)), (a_p2, .inr (7, [.ref a_p2_water, .ref a_p2_lacked, .ref a_p2_seenTurn, .ref a_p2_seenSet, .int f_p2_day, .int f_p2_left, .int f_p2_turn, .int f_p2_lot, .int f_p2_seen])), (a_p2_water, .inl (ca 0, 6, .inl c_p2_water))]) args s 0 0 A) (F0 m 0 ls []) := by
  obtain ⟨hx, hb, hr, hml, hown, hts, hlocks, hK, hA, hE⟩ := id X0
  intro H locs hP hD hS ls hl
  unfold F_X5_marked at h
  refine lv_aload_n hx hb dX5_marked_0 rfl (lv_at hl 0 rfl) ?_
  refine lv_bipush (v := 100) hx hb dX5_marked_1 (by decide) ?_
  obtain ⟨u1, hc2, h⟩ := bd_o h
  refine jn_v (wr := [(a_p1, .inr (3, [.ref a_p1_water, .ref a_p1_need, .ref a_p1_dew, .ref a_p1_drops, .ref a_p1_song, .int f_p1_terraces, .int f_p1_days, .int f_p1_law, .int f_p1_slip, .int f_p1_songLength])), (a_p1_dew, .inl (ca 0, 6, .inl c_p1_dew)), (a_p2, .inr (7, [.ref a_p2_water, .ref a_p2_lacked, .ref a_p2_seenTurn, .ref a_p2_seenSet, .int f_p2_day, .int f_p2_left, .int f_p2_turn, .int f_p2_lot, .int f_p2_seen])), (a_p2_water, .inl (ca 0, 6, .inl c_p2_water))]) (ws' := [(a_t, .inr (5, [.long u1])), (a_p1, .inr (3, [.ref a_p1_water, .ref a_p1_need, .ref a_p1_dew, .ref a_p1_drops, .ref a_p1_song, .int f_p1_terraces, .int f_p1_days, .int f_p1_law, .int f_p1_slip, .int f_p1_songLength])), (a_p1_dew, .inl (ca 0, 6, .inl c_p1_dew)), (a_p2, .inr (7, [.ref a_p2_water, .ref a_p2_lacked, .ref a_p2_seenTurn, .ref a_p2_seenSet, .int f_p2_day, .int f_p2_left, .int f_p2_turn, .int f_p2_lot, .int f_p2_seen])), (a_p2_water, .inl (ca 0, 6, .inl c_p2_water))]) (va_runU (As := [.int (100 : Int32)]) (rest := []) ⟨hx, hb, hml, hown, hts⟩ (c_X4_leave_X5 l G ca ad av H.size a_t f_t_trace (100 : Int32) u1 hc2) (va_cwU 1 hts gX5_marked_X4_leave_u7X5 rfl rfl rfl rfl (by decide +kernel) ⟨Nat.le_of_ble_eq_true rfl, Nat.le_of_ble_eq_true rfl⟩) (pre_v (q0 := 0) (ci := 5) hK hE hA hP hD hS [0] rfl (by decide) rfl rfl) rfl rfl hl.1 rfl (lv_room (Nat.le_of_ble_eq_true rfl)) dX5_marked_3 ⟨Nat.le_of_ble_eq_true rfl, Nat.le_of_ble_eq_true rfl⟩) hA hP hD hS [0] [1, 2, 3, 4] [4, 0, 1, 2, 3] rfl rfl (by decide) (by decide) (by decide) rfl (fun H locs hP hD hS => ?_)
  refine lv_aload_n hx hb dX5_marked_6 rfl (lv_at hl 0 rfl) ?_
  refine lv_aload_n hx hb dX5_marked_7 rfl (lv_at hl 1 rfl) ?_
  refine lv_aload_n hx hb dX5_marked_8 rfl (lv_at hl 2 rfl) ?_
  refine lv_iload_n hx hb dX5_marked_9 rfl (lv_at hl 3 rfl) ?_
  obtain ⟨u3, hc4, h⟩ := bd_o h
  refine jn_i (wr := [(a_p1, .inr (3, [.ref a_p1_water, .ref a_p1_need, .ref a_p1_dew, .ref a_p1_drops, .ref a_p1_song, .int f_p1_terraces, .int f_p1_days, .int f_p1_law, .int f_p1_slip, .int f_p1_songLength])), (a_p1_dew, .inl (ca 0, 6, .inl c_p1_dew))]) (ws' := [(a_t, .inr (5, [.long u3.2])), (a_p1, .inr (3, [.ref a_p1_water, .ref a_p1_need, .ref a_p1_dew, .ref a_p1_drops, .ref a_p1_song, .int f_p1_terraces, .int f_p1_days, .int f_p1_law, .int f_p1_slip, .int f_p1_songLength])), (a_p1_dew, .inl (ca 0, 6, .inl c_p1_dew)), (a_p2, .inr (7, [.ref a_p2_water, .ref a_p2_lacked, .ref a_p2_seenTurn, .ref a_p2_seenSet, .int f_p2_day, .int f_p2_left, .int f_p2_turn, .int f_p2_lot, .int f_p2_seen])), (a_p2_water, .inl (ca 0, 6, .inl c_p2_water))]) (va_runSU (hK.1 5 _ rfl).2 (As := [.ref a_p1, .ref a_p2, .int x3]) (rest := []) ⟨hx, hb, hml, hown, hts⟩ (c_X4_marked_X5 l G ca ad av H.size a_t a_p2 a_p2_water a_p2_lacked a_p2_seenTurn a_p2_seenSet a_p1 f_p2_day f_p2_left f_p2_turn f_p2_lot f_p2_seen c_p2_water u1 x3 u3 hc4) (va_cwSU 3 hts gX5_marked_X4_marked_s13 rfl rfl rfl (by decide +kernel) ⟨Nat.le_of_ble_eq_true rfl, Nat.le_of_ble_eq_true rfl⟩) (pre_v (q0 := 0) (ci := 5) hK hE hA hP hD hS [0, 3, 4] rfl (by decide) rfl rfl) rfl rfl hl.1 rfl (lv_room (Nat.le_of_ble_eq_true rfl)) dX5_marked_10 ⟨Nat.le_of_ble_eq_true rfl, Nat.le_of_ble_eq_true rfl⟩) hA hP hD hS [0, 3, 4] [1, 2] [2, 0, 1, 3, 4] rfl rfl (by decide) (by decide) (by decide) rfl (fun H locs hP hD hS => ?_)
  refine lv_aload_n hx hb dX5_marked_13 rfl (lv_at hl 1 rfl) ?_
  refine va_getN (D := G) (ci := 3) (v := .ref a_p1_dew) (C := RX3) (T := TX3) (N := 10) hx hb hts i_X5_marked_X3 hown hK hP 1 rfl rfl 2 (by decide) (va_Nw.use rfl (hE.1 _ k_X5_marked_0)) (fun _ h9 => h9) rfl dX5_marked_14 ?_
  refine lv_iload_n hx hb dX5_marked_17 rfl (lv_at hl 3 rfl) ?_
  obtain ⟨g5, h⟩ := gd_t h
  refine va_iald hx hb hK hP 2 0 rfl rfl (ok_in g5) dX5_marked_18 ?_
  refine lv_iadd hx hb dX5_marked_19 ?_
  have h := sm_i h
  subst h
  exact W.iret (v := (u3.1 + (c_p1_dew x3.toNatClampNeg))) hx hb hr (fun t ht hW => ⟨⟨(u3.1 + (c_p1_dew x3.toNatClampNeg)), (), rfl, rfl, by rw [ht]; exact hP, hD⟩, hS.F ht⟩) hS.2.2 dX5_marked_20
set_option maxHeartbeats 4000000 in
set_option maxRecDepth 100000 in
theorem c_X5_marked (l : Launch) (G : va_G) (ca : Nat → ClassId) (ad av : Nat → Nat) (sz : Nat) (a_t : Nat) (a_p1 : Nat) (a_p1_dew : Nat) (a_p2 : Nat) (a_p2_water : Nat) (a_p1_water : Nat) (a_p1_need : Nat) (a_p1_drops : Nat) (a_p1_song : Nat) (a_p2_lacked : Nat) (a_p2_seenTurn : Nat) (a_p2_seenSet : Nat) (f_p1_terraces : Int32) (f_p1_days : Int32) (f_p1_law : Int32) (f_p1_slip : Int32) (f_p1_songLength : Int32) (f_p2_day : Int32) (f_p2_left : Int32) (f_p2_turn : Int32) (f_p2_lot : Int32) (f_p2_seen : Int32) (c_p1_dew : Nat → Int32) (c_p2_water : Nat → Int32) (f_t_trace : Int64) (x3 : Int32) (res : Int32 × Int64) (h : F_X5_marked c_p1_dew c_p2_water f_t_trace x3 = some res) : Met l yX5_marked wsX5_marked RM_X5_marked (va_Pc [.ref a_t, .ref a_p1, .ref a_p2, .int x3] (PW_ G ca ad av sz [(a_t, .inr (5, [.long f_t_trace])), (a_p1, .inr (3, [.ref a_p1_water, .ref a_p1_need, .ref a_p1_dew, .ref a_p1_drops, .ref a_p1_song, .int f_p1_terraces, .int f_p1_days, .int f_p1_law, .int f_p1_slip, .int f_p1_songLength])), (a_p1_dew, .inl (ca 0, 6, .inl c_p1_dew)), (a_p2, .inr (7, [.ref a_p2_water, .ref a_p2_lacked, .ref a_p2_seenTurn, .ref a_p2_seenSet, .int f_p2_day, .int f_p2_left, .int f_p2_turn, .int f_p2_lot, .int f_p2_seen])), (a_p2_water, .inl (ca 0, 6, .inl c_p2_water))])) (QI_ G (va_A [(a_t, .inr (5, [.long f_t_trace])), (a_p1, .inr (3, [.ref a_p1_water, .ref a_p1_need, .ref a_p1_dew, .ref a_p1_drops, .ref a_p1_song, .int f_p1_terraces, .int f_p1_days, .int f_p1_law, .int f_p1_slip, .int f_p1_songLength])), (a_p1_dew, .inl (ca 0, 6, .inl c_p1_dew)), (a_p2, .inr (7, [.ref a_p2_water, .ref a_p2_lacked, .ref a_p2_seenTurn, .ref a_p2_seenSet, .int f_p2_day, .int f_p2_left, .int f_p2_turn, .int f_p2_lot, .int f_p2_seen])), (a_p2_water, .inl (ca 0, 6, .inl c_p2_water))] sz) res.1 [(a_t, .inr (5, [.long res.2])), (a_p1, .inr (3, [.ref a_p1_water, .ref a_p1_need, .ref a_p1_dew, .ref a_p1_drops, .ref a_p1_song, .int f_p1_terraces, .int f_p1_days, .int f_p1_law, .int f_p1_slip, .int f_p1_songLength])), (a_p1_dew, .inl (ca 0, 6, .inl c_p1_dew)), (a_p2, .inr (7, [.ref a_p2_water, .ref a_p2_lacked, .ref a_p2_seenTurn, .ref a_p2_seenSet, .int f_p2_day, .int f_p2_left, .int f_p2_turn, .int f_p2_lot, .int f_p2_seen])), (a_p2_water, .inl (ca 0, 6, .inl c_p2_water))]) 0 0 (va_A [(a_t, .inr (5, [.long f_t_trace])), (a_p1, .inr (3, [.ref a_p1_water, .ref a_p1_need, .ref a_p1_dew, .ref a_p1_drops, .ref a_p1_song, .int f_p1_terraces, .int f_p1_days, .int f_p1_law, .int f_p1_slip, .int f_p1_songLength])), (a_p1_dew, .inl (ca 0, 6, .inl c_p1_dew)), (a_p2, .inr (7, [.ref a_p2_water, .ref a_p2_lacked, .ref a_p2_seenTurn, .ref a_p2_seenSet, .int f_p2_day, .int f_p2_left, .int f_p2_turn, .int f_p2_lot, .int f_p2_seen])), (a_p2_water, .inl (ca 0, 6, .inl c_p2_water))] sz) := by
  refine Met.ofW (cc := cX5_marked) (maxL := 4) (ret := (some .int)) (by decide) rfl ?_
  intro p e s m args below meth c s₁ B hml hv
  obtain ⟨X0, rfl, rfl, hP, hD⟩ := en_t B hml hv
  have hl := lv_entry ([.ref a_t, .ref a_p1, .ref a_p2, .int x3]) (n := 4) (Nat.le_of_ble_eq_true rfl)
  rw [lg_entry_eq]
  generalize (lg_sl ([.ref a_t, .ref a_p1, .ref a_p2, .int x3]) ++ List.replicate (4 - (lg_sl ([.ref a_t, .ref a_p1, .ref a_p2, .int x3])).length) Slot.unset).toArray = ls at hl ⊢
  exact w_X5_marked_0 X0 a_t a_p1 a_p1_dew a_p2 a_p2_water a_p1_water a_p1_need a_p1_drops a_p1_song a_p2_lacked a_p2_seenTurn a_p2_seenSet f_p1_terraces f_p1_days f_p1_law f_p1_slip f_p1_songLength f_p2_day f_p2_left f_p2_turn f_p2_lot f_p2_seen c_p1_dew c_p2_water _ f_t_trace x3 h s.heap [] hP hD va_S.rf ls hl

/-! X4_leave_X0 -/
abbrev RM_X4_leave_X0 : Room := { frames := 0, cells := 0, slots := 0, locals := 0 }
theorem k_X4_leave_X0_0 : Cond.fieldLink RX4 7 "DropDealers$Kind" "trace" "J" ∈ wsX4_leave := by decide +kernel
theorem i_X4_leave_X0_X0 : ∀ w ∈ u_ws RX0 TX0 1, w ∈ wsX4_leave := by decide +kernel
def F_X4_leave_X0  (f_t_trace : Int64) (x1 : Int32) : Option (Int64) := some ((f_t_trace + x1.toInt64))
set_option maxHeartbeats 4000000 in
set_option maxRecDepth 100000 in
theorem w_X4_leave_X0_0 {p : Program} {l : Launch} {e : Env} {s : State} {m : MethodId} {args : Array Value} {below : List Frame} {meth : Method} {c : Code} {G : va_G} {ca : Nat → ClassId} {ad av : Nat → Nat} {A : Nat → Prop} (X0 : CX_ p s m args meth c cX4_leave 2 none wsX4_leave RX4 G ca ad av A) (a_t : Nat)   (res : Int64) (f_t_trace : Int64) (x1 : Int32) (h : F_X4_leave_X0  f_t_trace x1 = some res) : ∀ (H : Heap) (locs : List Loc), va_P G vwCl [(a_t, .inr (0, [.long f_t_trace]))] H → va_D A [(a_t, .inr (0, [.long f_t_trace]))] → va_S A s.heap H locs → ∀ (ls : Array Slot), lv_has ls 2 [(0, .ref a_t), (1, .int x1)] → W p l e RM_X4_leave_X0 s m args below meth c H locs 0 0 (MQ below (QV_ G A [(a_t, .inr (0, [.long res]))]) args s 0 0 A) (F0 m 0 ls []) := by
  obtain ⟨hx, hb, hr, hml, hown, hts, hlocks, hK, hA, hE⟩ := id X0
  intro H locs hP hD hS ls hl
  unfold F_X4_leave_X0 at h
  refine lv_aload_n hx hb dX4_leave_0 rfl (lv_at hl 0 rfl) ?_
  refine lv_dup hx hb dX4_leave_1 rfl ?_
  refine va_get (D := G) (ci := 0) (v := .long f_t_trace) (C := RX0) (T := TX0) (N := 1) hx hb hts i_X4_leave_X0_X0 hown hK hP 0 rfl rfl 0 (by decide) (hts _ k_X4_leave_X0_0) (fun _ h9 => h9) rfl dX4_leave_2 ?_
  refine lv_iload_n hx hb dX4_leave_5 rfl (lv_at hl 1 rfl) ?_
  refine lv_i2l hx hb dX4_leave_6 rfl ?_
  refine lv_ladd hx hb dX4_leave_7 ?_
  refine va_put (D := G) (ci := 0) (v := .long (f_t_trace + x1.toInt64)) (ty := .long) (C := RX0) (T := TX0) (N := 1) hx hb hts i_X4_leave_X0_X0 tyX0 tyX0_ok nmX0 hown hK hP hD hS 0 rfl rfl 0 (by decide) (hts _ k_X4_leave_X0_0) (fun _ h9 => h9) rfl (by decide +kernel) rfl rfl (Nat.le_of_ble_eq_true rfl) dX4_leave_8 (fun H locs hP hD hS => ?_)
  have hP : va_P G vwCl [(a_t, .inr (0, [.long (f_t_trace + x1.toInt64)]))] H := hP
  have hD : va_D A [(a_t, .inr (0, [.long (f_t_trace + x1.toInt64)]))] := hD
  have h := sm_i h
  subst h
  exact W.vret hx hb hr (fun t ht hW => ⟨⟨(), rfl, trivial, by rw [ht]; exact hP, hD⟩, hS.F ht⟩) hS.2.2 dX4_leave_11
set_option maxHeartbeats 4000000 in
set_option maxRecDepth 100000 in
theorem c_X4_leave_X0 (l : Launch) (G : va_G) (ca : Nat → ClassId) (ad av : Nat → Nat) (sz : Nat) (a_t : Nat)   (f_t_trace : Int64) (x1 : Int32) (res : Int64) (h : F_X4_leave_X0  f_t_trace x1 = some res) : Met l yX4_leave wsX4_leave RM_X4_leave_X0 (va_Pc [.ref a_t, .int x1] (PW_ G ca ad av sz [(a_t, .inr (0, [.long f_t_trace]))])) (QV_ G (va_A [(a_t, .inr (0, [.long f_t_trace]))] sz) [(a_t, .inr (0, [.long res]))]) 0 0 (va_A [(a_t, .inr (0, [.long f_t_trace]))] sz) := by
  refine Met.ofW (cc := cX4_leave) (maxL := 2) (ret := none) (by decide) rfl ?_
  intro p e s m args below meth c s₁ B hml hv
  obtain ⟨X0, rfl, rfl, hP, hD⟩ := en_t B hml hv
  have hl := lv_entry ([.ref a_t, .int x1]) (n := 2) (Nat.le_of_ble_eq_true rfl)
  rw [lg_entry_eq]
  generalize (lg_sl ([.ref a_t, .int x1]) ++ List.replicate (2 - (lg_sl ([.ref a_t, .int x1])).length) Slot.unset).toArray = ls at hl ⊢
  exact w_X4_leave_X0_0 X0 a_t   _ f_t_trace x1 h s.heap [] hP hD va_S.rf ls hl

/-! X4_marked_X0 -/
abbrev RM_X4_marked_X0 : Room := { frames := 1, cells := 0, slots := 0, locals := 21 }
theorem k_X4_marked_X0_0 : Cond.fieldLinkNest RX4 17 "DropDealers$Now" "water" "[I" "DropDealers" ∈ nw_l := by decide +kernel
theorem i_X4_marked_X0_X7 : ∀ w ∈ u_ws RX7 TX7 9, w ∈ wsX4_marked := by decide +kernel
def F_X4_marked_X0 (c_p2_water : Nat → Int32) (f_t_trace : Int64) (x3 : Int32) : Option (Int32 × Int64) := (F_X4_leave_X0 f_t_trace (1 : Int32)).bind (fun u1 => if ok_I x3 6 = true then some ((c_p2_water x3.toNatClampNeg), u1) else none)
set_option maxHeartbeats 4000000 in
set_option maxRecDepth 100000 in
theorem w_X4_marked_X0_0 {p : Program} {l : Launch} {e : Env} {s : State} {m : MethodId} {args : Array Value} {below : List Frame} {meth : Method} {c : Code} {G : va_G} {ca : Nat → ClassId} {ad av : Nat → Nat} {A : Nat → Prop} (X0 : CX_ p s m args meth c cX4_marked 4 (some .int) wsX4_marked RX4 G ca ad av A) (a_t : Nat) (a_p2 : Nat) (a_p2_water : Nat) (a_p2_lacked : Nat) (a_p2_seenTurn : Nat) (a_p2_seenSet : Nat) (a_p1 : Nat) (f_p2_day : Int32) (f_p2_left : Int32) (f_p2_turn : Int32) (f_p2_lot : Int32) (f_p2_seen : Int32) (c_p2_water : Nat → Int32) (res : Int32 × Int64) (f_t_trace : Int64) (x3 : Int32) (h : F_X4_marked_X0 c_p2_water f_t_trace x3 = some res) : ∀ (H : Heap) (locs : List Loc), va_P G vwCl [(a_t, .inr (0, [.long f_t_trace])), (a_p2, .inr (7, [.ref a_p2_water, .ref a_p2_lacked, .ref a_p2_seenTurn, .ref a_p2_seenSet, .int f_p2_day, .int f_p2_left, .int f_p2_turn, .int f_p2_lot, .int f_p2_seen])), (a_p2_water, .inl (ca 0, 6, .inl c_p2_water))] H → va_D A [(a_t, .inr (0, [.long f_t_trace])), (a_p2, .inr (7, [.ref a_p2_water, .ref a_p2_lacked, .ref a_p2_seenTurn, .ref a_p2_seenSet, .int f_p2_day, .int f_p2_left, .int f_p2_turn, .int f_p2_lot, .int f_p2_seen])), (a_p2_water, .inl (ca 0, 6, .inl c_p2_water))] → va_S A s.heap H locs → ∀ (ls : Array Slot), lv_has ls 4 [(0, .ref a_t), (1, .ref a_p1), (2, .ref a_p2), (3, .int x3)] → W p l e RM_X4_marked_X0 s m args below meth c H locs 0 0 (MQ below (QI_ G A res.1 [(a_t, .inr (0, [.long res.2])), (a_p2, .inr (7, [.ref a_p2_water, .ref a_p2_lacked, .ref a_p2_seenTurn, .ref a_p2_seenSet, .int f_p2_day, .int f_p2_left, .int f_p2_turn, .int f_p2_lot, .int f_p2_seen])), (a_p2_water, .inl (ca 0, 6, .inl c_p2_water))]) args s 0 0 A) (F0 m 0 ls []) := by
  obtain ⟨hx, hb, hr, hml, hown, hts, hlocks, hK, hA, hE⟩ := id X0
  intro H locs hP hD hS ls hl
  unfold F_X4_marked_X0 at h
  refine lv_aload_n hx hb dX4_marked_0 rfl (lv_at hl 0 rfl) ?_
  refine lv_iconst (v := 1) hx hb dX4_marked_1 (by decide) ?_
  obtain ⟨u1, hc2, h⟩ := bd_o h
  refine jn_v (wr := [(a_p2, .inr (7, [.ref a_p2_water, .ref a_p2_lacked, .ref a_p2_seenTurn, .ref a_p2_seenSet, .int f_p2_day, .int f_p2_left, .int f_p2_turn, .int f_p2_lot, .int f_p2_seen])), (a_p2_water, .inl (ca 0, 6, .inl c_p2_water))]) (ws' := [(a_t, .inr (0, [.long u1])), (a_p2, .inr (7, [.ref a_p2_water, .ref a_p2_lacked, .ref a_p2_seenTurn, .ref a_p2_seenSet, .int f_p2_day, .int f_p2_left, .int f_p2_turn, .int f_p2_lot, .int f_p2_seen])), (a_p2_water, .inl (ca 0, 6, .inl c_p2_water))]) (va_runU (As := [.int (1 : Int32)]) (rest := []) ⟨hx, hb, hml, hown, hts⟩ (c_X4_leave_X0 l G ca ad av H.size a_t f_t_trace (1 : Int32) u1 hc2) (va_cwU 1 hts gX4_marked_X4_leave_u13X0 rfl rfl rfl rfl (by decide +kernel) ⟨Nat.le_of_ble_eq_true rfl, Nat.le_of_ble_eq_true rfl⟩) (pre_v (q0 := 0) (ci := 0) hK hE hA hP hD hS [0] rfl (by decide) rfl rfl) rfl rfl hl.1 rfl (lv_room (Nat.le_of_ble_eq_true rfl)) dX4_marked_2 ⟨Nat.le_of_ble_eq_true rfl, Nat.le_of_ble_eq_true rfl⟩) hA hP hD hS [0] [1, 2] [2, 0, 1] rfl rfl (by decide) (by decide) (by decide) rfl (fun H locs hP hD hS => ?_)
  refine lv_aload_n hx hb dX4_marked_5 rfl (lv_at hl 2 rfl) ?_
  refine va_getN (D := G) (ci := 7) (v := .ref a_p2_water) (C := RX7) (T := TX7) (N := 9) hx hb hts i_X4_marked_X0_X7 hown hK hP 1 rfl rfl 0 (by decide) (va_Nw.use rfl (hE.1 _ k_X4_marked_X0_0)) (fun _ h9 => h9) rfl dX4_marked_6 ?_
  refine lv_iload_n hx hb dX4_marked_9 rfl (lv_at hl 3 rfl) ?_
  obtain ⟨g3, h⟩ := gd_t h
  refine va_iald hx hb hK hP 2 0 rfl rfl (ok_in g3) dX4_marked_10 ?_
  have h := sm_i h
  subst h
  exact W.iret (v := (c_p2_water x3.toNatClampNeg)) hx hb hr (fun t ht hW => ⟨⟨(c_p2_water x3.toNatClampNeg), (), rfl, rfl, by rw [ht]; exact hP, hD⟩, hS.F ht⟩) hS.2.2 dX4_marked_11
set_option maxHeartbeats 4000000 in
set_option maxRecDepth 100000 in
theorem c_X4_marked_X0 (l : Launch) (G : va_G) (ca : Nat → ClassId) (ad av : Nat → Nat) (sz : Nat) (a_t : Nat) (a_p2 : Nat) (a_p2_water : Nat) (a_p2_lacked : Nat) (a_p2_seenTurn : Nat) (a_p2_seenSet : Nat) (a_p1 : Nat) (f_p2_day : Int32) (f_p2_left : Int32) (f_p2_turn : Int32) (f_p2_lot : Int32) (f_p2_seen : Int32) (c_p2_water : Nat → Int32) (f_t_trace : Int64) (x3 : Int32) (res : Int32 × Int64) (h : F_X4_marked_X0 c_p2_water f_t_trace x3 = some res) : Met l yX4_marked wsX4_marked RM_X4_marked_X0 (va_Pc [.ref a_t, .ref a_p1, .ref a_p2, .int x3] (PW_ G ca ad av sz [(a_t, .inr (0, [.long f_t_trace])), (a_p2, .inr (7, [.ref a_p2_water, .ref a_p2_lacked, .ref a_p2_seenTurn, .ref a_p2_seenSet, .int f_p2_day, .int f_p2_left, .int f_p2_turn, .int f_p2_lot, .int f_p2_seen])), (a_p2_water, .inl (ca 0, 6, .inl c_p2_water))])) (QI_ G (va_A [(a_t, .inr (0, [.long f_t_trace])), (a_p2, .inr (7, [.ref a_p2_water, .ref a_p2_lacked, .ref a_p2_seenTurn, .ref a_p2_seenSet, .int f_p2_day, .int f_p2_left, .int f_p2_turn, .int f_p2_lot, .int f_p2_seen])), (a_p2_water, .inl (ca 0, 6, .inl c_p2_water))] sz) res.1 [(a_t, .inr (0, [.long res.2])), (a_p2, .inr (7, [.ref a_p2_water, .ref a_p2_lacked, .ref a_p2_seenTurn, .ref a_p2_seenSet, .int f_p2_day, .int f_p2_left, .int f_p2_turn, .int f_p2_lot, .int f_p2_seen])), (a_p2_water, .inl (ca 0, 6, .inl c_p2_water))]) 0 0 (va_A [(a_t, .inr (0, [.long f_t_trace])), (a_p2, .inr (7, [.ref a_p2_water, .ref a_p2_lacked, .ref a_p2_seenTurn, .ref a_p2_seenSet, .int f_p2_day, .int f_p2_left, .int f_p2_turn, .int f_p2_lot, .int f_p2_seen])), (a_p2_water, .inl (ca 0, 6, .inl c_p2_water))] sz) := by
  refine Met.ofW (cc := cX4_marked) (maxL := 4) (ret := (some .int)) (by decide) rfl ?_
  intro p e s m args below meth c s₁ B hml hv
  obtain ⟨X0, rfl, rfl, hP, hD⟩ := en_t B hml hv
  have hl := lv_entry ([.ref a_t, .ref a_p1, .ref a_p2, .int x3]) (n := 4) (Nat.le_of_ble_eq_true rfl)
  rw [lg_entry_eq]
  generalize (lg_sl ([.ref a_t, .ref a_p1, .ref a_p2, .int x3]) ++ List.replicate (4 - (lg_sl ([.ref a_t, .ref a_p1, .ref a_p2, .int x3])).length) Slot.unset).toArray = ls at hl ⊢
  exact w_X4_marked_X0_0 X0 a_t a_p2 a_p2_water a_p2_lacked a_p2_seenTurn a_p2_seenSet a_p1 f_p2_day f_p2_left f_p2_turn f_p2_lot f_p2_seen c_p2_water _ f_t_trace x3 h s.heap [] hP hD va_S.rf ls hl

/-! X0_marked -/
abbrev RM_X0_marked : Room := { frames := 2, cells := 0, slots := 0, locals := 44 }
theorem k_X0_marked_0 : Cond.fieldLinkNest RX0 17 "DropDealers$Hill" "need" "[I" "DropDealers" ∈ nw_l := by decide +kernel
theorem i_X0_marked_X3 : ∀ w ∈ u_ws RX3 TX3 10, w ∈ wsX0_marked := by decide +kernel
def F_X0_marked (c_p1_need : Nat → Int32) (c_p2_water : Nat → Int32) (f_t_trace : Int64) (x3 : Int32) : Option (Int32 × Int64) := (F_X4_leave_X0 f_t_trace (10 : Int32)).bind (fun u1 => (F_X4_marked_X0 c_p2_water u1 x3).bind (fun u3 => if ok_I x3 6 = true then some ((u3.1 - (c_p1_need x3.toNatClampNeg)), u3.2) else none))
set_option maxHeartbeats 4000000 in
set_option maxRecDepth 100000 in
theorem w_X0_marked_0 {p : Program} {l : Launch} {e : Env} {s : State} {m : MethodId} {args : Array Value} {below : List Frame} {meth : Method} {c : Code} {G : va_G} {ca : Nat → ClassId} {ad av : Nat → Nat} {A : Nat → Prop} (X0 : CX_ p s m args meth c cX0_marked 4 (some .int) wsX0_marked RX0 G ca ad av A) (a_t : Nat) (a_p1 : Nat) (a_p1_need : Nat) (a_p2 : Nat) (a_p2_water : Nat) (a_p1_water : Nat) (a_p1_dew : Nat) (a_p1_drops : Nat) (a_p1_song : Nat) (a_p2_lacked : Nat) (a_p2_seenTurn : Nat) (a_p2_seenSet : Nat) (f_p1_terraces : Int32) (f_p1_days : Int32) (f_p1_law : Int32) (f_p1_slip : Int32) (f_p1_songLength : Int32) (f_p2_day : Int32) (f_p2_left : Int32) (f_p2_turn : Int32) (f_p2_lot : Int32) (f_p2_seen : Int32) (c_p1_need : Nat → Int32) (c_p2_water : Nat → Int32) (res : Int32 × Int64) (f_t_trace : Int64) (x3 : Int32) (h : F_X0_marked c_p1_need c_p2_water f_t_trace x3 = some res) : ∀ (H : Heap) (locs : List Loc), va_P G vwCl [(a_t, .inr (0, [.long f_t_trace])), (a_p1, .inr (3, [.ref a_p1_water, .ref a_p1_need, .ref a_p1_dew, .ref a_p1_drops, .ref a_p1_song, .int f_p1_terraces, .int f_p1_days, .int f_p1_law, .int f_p1_slip, .int f_p1_songLength])), (a_p1_need, .inl (ca 0, 6, .inl c_p1_need)), (a_p2, .inr (7, [.ref a_p2_water, .ref a_p2_lacked, .ref a_p2_seenTurn, .ref a_p2_seenSet, .int f_p2_day, .int f_p2_left, .int f_p2_turn, .int f_p2_lot, .int f_p2_seen])), (a_p2_water, .inl (ca 0, 6, .inl c_p2_water))] H → va_D A [(a_t, .inr (0, [.long f_t_trace])), (a_p1, .inr (3, [.ref a_p1_water, .ref a_p1_need, .ref a_p1_dew, .ref a_p1_drops, .ref a_p1_song, .int f_p1_terraces, .int f_p1_days, .int f_p1_law, .int f_p1_slip, .int f_p1_songLength])), (a_p1_need, .inl (ca 0, 6, .inl c_p1_need)), (a_p2, .inr (7, [.ref a_p2_water, .ref a_p2_lacked, .ref a_p2_seenTurn, .ref a_p2_seenSet, .int f_p2_day, .int f_p2_left, .int f_p2_turn, .int f_p2_lot, .int f_p2_seen])), (a_p2_water, .inl (ca 0, 6, .inl c_p2_water))] → va_S A s.heap H locs → ∀ (ls : Array Slot), lv_has ls 4 [(0, .ref a_t), (1, .ref a_p1), (2, .ref a_p2), (3, .int x3)] → W p l e RM_X0_marked s m args below meth c H locs 0 0 (MQ below (QI_ G A res.1 [(a_t, .inr (0, [.long res.2])), (a_p1, .inr (3, [.ref a_p1_water, .ref a_p1_need, .ref a_p1_dew, .ref a_p1_drops, .ref a_p1_song, .int f_p1_terraces, .int f_p1_days, .int f_p1_law, .int f_p1_slip, .int f_p1_songLength])), (a_p1_need, .inl (ca 0, 6, .inl c_p1_need)), (a_p2, .inr (7, [.ref a_p2_water, .ref a_p2_lacked, .ref a_p2_seenTurn, .ref a_p2_seenSet, .int f_p2_day, .int f_p2_left, .int f_p2_turn, .int f_p2_lot, .int f_p2_seen])), (a_p2_water, .inl (ca 0, 6, .inl c_p2_water))]) args s 0 0 A) (F0 m 0 ls []) := by
  obtain ⟨hx, hb, hr, hml, hown, hts, hlocks, hK, hA, hE⟩ := id X0
  intro H locs hP hD hS ls hl
  unfold F_X0_marked at h
  refine lv_aload_n hx hb dX0_marked_0 rfl (lv_at hl 0 rfl) ?_
  refine lv_bipush (v := 10) hx hb dX0_marked_1 (by decide) ?_
  obtain ⟨u1, hc2, h⟩ := bd_o h
  refine jn_v (wr := [(a_p1, .inr (3, [.ref a_p1_water, .ref a_p1_need, .ref a_p1_dew, .ref a_p1_drops, .ref a_p1_song, .int f_p1_terraces, .int f_p1_days, .int f_p1_law, .int f_p1_slip, .int f_p1_songLength])), (a_p1_need, .inl (ca 0, 6, .inl c_p1_need)), (a_p2, .inr (7, [.ref a_p2_water, .ref a_p2_lacked, .ref a_p2_seenTurn, .ref a_p2_seenSet, .int f_p2_day, .int f_p2_left, .int f_p2_turn, .int f_p2_lot, .int f_p2_seen])), (a_p2_water, .inl (ca 0, 6, .inl c_p2_water))]) (ws' := [(a_t, .inr (0, [.long u1])), (a_p1, .inr (3, [.ref a_p1_water, .ref a_p1_need, .ref a_p1_dew, .ref a_p1_drops, .ref a_p1_song, .int f_p1_terraces, .int f_p1_days, .int f_p1_law, .int f_p1_slip, .int f_p1_songLength])), (a_p1_need, .inl (ca 0, 6, .inl c_p1_need)), (a_p2, .inr (7, [.ref a_p2_water, .ref a_p2_lacked, .ref a_p2_seenTurn, .ref a_p2_seenSet, .int f_p2_day, .int f_p2_left, .int f_p2_turn, .int f_p2_lot, .int f_p2_seen])), (a_p2_water, .inl (ca 0, 6, .inl c_p2_water))]) (va_runU (As := [.int (10 : Int32)]) (rest := []) ⟨hx, hb, hml, hown, hts⟩ (c_X4_leave_X0 l G ca ad av H.size a_t f_t_trace (10 : Int32) u1 hc2) (va_cwU 1 hts gX0_marked_X4_leave_u7X0 rfl rfl rfl rfl (by decide +kernel) ⟨Nat.le_of_ble_eq_true rfl, Nat.le_of_ble_eq_true rfl⟩) (pre_v (q0 := 0) (ci := 0) hK hE hA hP hD hS [0] rfl (by decide) rfl rfl) rfl rfl hl.1 rfl (lv_room (Nat.le_of_ble_eq_true rfl)) dX0_marked_3 ⟨Nat.le_of_ble_eq_true rfl, Nat.le_of_ble_eq_true rfl⟩) hA hP hD hS [0] [1, 2, 3, 4] [4, 0, 1, 2, 3] rfl rfl (by decide) (by decide) (by decide) rfl (fun H locs hP hD hS => ?_)
  refine lv_aload_n hx hb dX0_marked_6 rfl (lv_at hl 0 rfl) ?_
  refine lv_aload_n hx hb dX0_marked_7 rfl (lv_at hl 1 rfl) ?_
  refine lv_aload_n hx hb dX0_marked_8 rfl (lv_at hl 2 rfl) ?_
  refine lv_iload_n hx hb dX0_marked_9 rfl (lv_at hl 3 rfl) ?_
  obtain ⟨u3, hc4, h⟩ := bd_o h
  refine jn_i (wr := [(a_p1, .inr (3, [.ref a_p1_water, .ref a_p1_need, .ref a_p1_dew, .ref a_p1_drops, .ref a_p1_song, .int f_p1_terraces, .int f_p1_days, .int f_p1_law, .int f_p1_slip, .int f_p1_songLength])), (a_p1_need, .inl (ca 0, 6, .inl c_p1_need))]) (ws' := [(a_t, .inr (0, [.long u3.2])), (a_p1, .inr (3, [.ref a_p1_water, .ref a_p1_need, .ref a_p1_dew, .ref a_p1_drops, .ref a_p1_song, .int f_p1_terraces, .int f_p1_days, .int f_p1_law, .int f_p1_slip, .int f_p1_songLength])), (a_p1_need, .inl (ca 0, 6, .inl c_p1_need)), (a_p2, .inr (7, [.ref a_p2_water, .ref a_p2_lacked, .ref a_p2_seenTurn, .ref a_p2_seenSet, .int f_p2_day, .int f_p2_left, .int f_p2_turn, .int f_p2_lot, .int f_p2_seen])), (a_p2_water, .inl (ca 0, 6, .inl c_p2_water))]) (va_runSU (hK.1 0 _ rfl).2 (As := [.ref a_p1, .ref a_p2, .int x3]) (rest := []) ⟨hx, hb, hml, hown, hts⟩ (c_X4_marked_X0 l G ca ad av H.size a_t a_p2 a_p2_water a_p2_lacked a_p2_seenTurn a_p2_seenSet a_p1 f_p2_day f_p2_left f_p2_turn f_p2_lot f_p2_seen c_p2_water u1 x3 u3 hc4) (va_cwSU 3 hts gX0_marked_X4_marked_s13 rfl rfl rfl (by decide +kernel) ⟨Nat.le_of_ble_eq_true rfl, Nat.le_of_ble_eq_true rfl⟩) (pre_v (q0 := 0) (ci := 0) hK hE hA hP hD hS [0, 3, 4] rfl (by decide) rfl rfl) rfl rfl hl.1 rfl (lv_room (Nat.le_of_ble_eq_true rfl)) dX0_marked_10 ⟨Nat.le_of_ble_eq_true rfl, Nat.le_of_ble_eq_true rfl⟩) hA hP hD hS [0, 3, 4] [1, 2] [2, 0, 1, 3, 4] rfl rfl (by decide) (by decide) (by decide) rfl (fun H locs hP hD hS => ?_)
  refine lv_aload_n hx hb dX0_marked_13 rfl (lv_at hl 1 rfl) ?_
  refine va_getN (D := G) (ci := 3) (v := .ref a_p1_need) (C := RX3) (T := TX3) (N := 10) hx hb hts i_X0_marked_X3 hown hK hP 1 rfl rfl 1 (by decide) (va_Nw.use rfl (hE.1 _ k_X0_marked_0)) (fun _ h9 => h9) rfl dX0_marked_14 ?_
  refine lv_iload_n hx hb dX0_marked_17 rfl (lv_at hl 3 rfl) ?_
  obtain ⟨g5, h⟩ := gd_t h
  refine va_iald hx hb hK hP 2 0 rfl rfl (ok_in g5) dX0_marked_18 ?_
  refine lv_isub hx hb dX0_marked_19 ?_
  have h := sm_i h
  subst h
  exact W.iret (v := (u3.1 - (c_p1_need x3.toNatClampNeg))) hx hb hr (fun t ht hW => ⟨⟨(u3.1 - (c_p1_need x3.toNatClampNeg)), (), rfl, rfl, by rw [ht]; exact hP, hD⟩, hS.F ht⟩) hS.2.2 dX0_marked_20
set_option maxHeartbeats 4000000 in
set_option maxRecDepth 100000 in
theorem c_X0_marked (l : Launch) (G : va_G) (ca : Nat → ClassId) (ad av : Nat → Nat) (sz : Nat) (a_t : Nat) (a_p1 : Nat) (a_p1_need : Nat) (a_p2 : Nat) (a_p2_water : Nat) (a_p1_water : Nat) (a_p1_dew : Nat) (a_p1_drops : Nat) (a_p1_song : Nat) (a_p2_lacked : Nat) (a_p2_seenTurn : Nat) (a_p2_seenSet : Nat) (f_p1_terraces : Int32) (f_p1_days : Int32) (f_p1_law : Int32) (f_p1_slip : Int32) (f_p1_songLength : Int32) (f_p2_day : Int32) (f_p2_left : Int32) (f_p2_turn : Int32) (f_p2_lot : Int32) (f_p2_seen : Int32) (c_p1_need : Nat → Int32) (c_p2_water : Nat → Int32) (f_t_trace : Int64) (x3 : Int32) (res : Int32 × Int64) (h : F_X0_marked c_p1_need c_p2_water f_t_trace x3 = some res) : Met l yX0_marked wsX0_marked RM_X0_marked (va_Pc [.ref a_t, .ref a_p1, .ref a_p2, .int x3] (PW_ G ca ad av sz [(a_t, .inr (0, [.long f_t_trace])), (a_p1, .inr (3, [.ref a_p1_water, .ref a_p1_need, .ref a_p1_dew, .ref a_p1_drops, .ref a_p1_song, .int f_p1_terraces, .int f_p1_days, .int f_p1_law, .int f_p1_slip, .int f_p1_songLength])), (a_p1_need, .inl (ca 0, 6, .inl c_p1_need)), (a_p2, .inr (7, [.ref a_p2_water, .ref a_p2_lacked, .ref a_p2_seenTurn, .ref a_p2_seenSet, .int f_p2_day, .int f_p2_left, .int f_p2_turn, .int f_p2_lot, .int f_p2_seen])), (a_p2_water, .inl (ca 0, 6, .inl c_p2_water))])) (QI_ G (va_A [(a_t, .inr (0, [.long f_t_trace])), (a_p1, .inr (3, [.ref a_p1_water, .ref a_p1_need, .ref a_p1_dew, .ref a_p1_drops, .ref a_p1_song, .int f_p1_terraces, .int f_p1_days, .int f_p1_law, .int f_p1_slip, .int f_p1_songLength])), (a_p1_need, .inl (ca 0, 6, .inl c_p1_need)), (a_p2, .inr (7, [.ref a_p2_water, .ref a_p2_lacked, .ref a_p2_seenTurn, .ref a_p2_seenSet, .int f_p2_day, .int f_p2_left, .int f_p2_turn, .int f_p2_lot, .int f_p2_seen])), (a_p2_water, .inl (ca 0, 6, .inl c_p2_water))] sz) res.1 [(a_t, .inr (0, [.long res.2])), (a_p1, .inr (3, [.ref a_p1_water, .ref a_p1_need, .ref a_p1_dew, .ref a_p1_drops, .ref a_p1_song, .int f_p1_terraces, .int f_p1_days, .int f_p1_law, .int f_p1_slip, .int f_p1_songLength])), (a_p1_need, .inl (ca 0, 6, .inl c_p1_need)), (a_p2, .inr (7, [.ref a_p2_water, .ref a_p2_lacked, .ref a_p2_seenTurn, .ref a_p2_seenSet, .int f_p2_day, .int f_p2_left, .int f_p2_turn, .int f_p2_lot, .int f_p2_seen])), (a_p2_water, .inl (ca 0, 6, .inl c_p2_water))]) 0 0 (va_A [(a_t, .inr (0, [.long f_t_trace])), (a_p1, .inr (3, [.ref a_p1_water, .ref a_p1_need, .ref a_p1_dew, .ref a_p1_drops, .ref a_p1_song, .int f_p1_terraces, .int f_p1_days, .int f_p1_law, .int f_p1_slip, .int f_p1_songLength])), (a_p1_need, .inl (ca 0, 6, .inl c_p1_need)), (a_p2, .inr (7, [.ref a_p2_water, .ref a_p2_lacked, .ref a_p2_seenTurn, .ref a_p2_seenSet, .int f_p2_day, .int f_p2_left, .int f_p2_turn, .int f_p2_lot, .int f_p2_seen])), (a_p2_water, .inl (ca 0, 6, .inl c_p2_water))] sz) := by
  refine Met.ofW (cc := cX0_marked) (maxL := 4) (ret := (some .int)) (by decide) rfl ?_
  intro p e s m args below meth c s₁ B hml hv
  obtain ⟨X0, rfl, rfl, hP, hD⟩ := en_t B hml hv
  have hl := lv_entry ([.ref a_t, .ref a_p1, .ref a_p2, .int x3]) (n := 4) (Nat.le_of_ble_eq_true rfl)
  rw [lg_entry_eq]
  generalize (lg_sl ([.ref a_t, .ref a_p1, .ref a_p2, .int x3]) ++ List.replicate (4 - (lg_sl ([.ref a_t, .ref a_p1, .ref a_p2, .int x3])).length) Slot.unset).toArray = ls at hl ⊢
  exact w_X0_marked_0 X0 a_t a_p1 a_p1_need a_p2 a_p2_water a_p1_water a_p1_dew a_p1_drops a_p1_song a_p2_lacked a_p2_seenTurn a_p2_seenSet f_p1_terraces f_p1_days f_p1_law f_p1_slip f_p1_songLength f_p2_day f_p2_left f_p2_turn f_p2_lot f_p2_seen c_p1_need c_p2_water _ f_t_trace x3 h s.heap [] hP hD va_S.rf ls hl

/-! X4_leave -/
abbrev RM_X4_leave : Room := { frames := 0, cells := 0, slots := 0, locals := 0 }
theorem k_X4_leave_0 : Cond.fieldLink RX4 7 "DropDealers$Kind" "trace" "J" ∈ wsX4_leave := by decide +kernel
theorem i_X4_leave_X4 : ∀ w ∈ u_ws RX4 TX4 1, w ∈ wsX4_leave := by decide +kernel
def F_X4_leave  (f_t_trace : Int64) (x1 : Int32) : Option (Int64) := some ((f_t_trace + x1.toInt64))
set_option maxHeartbeats 4000000 in
set_option maxRecDepth 100000 in
theorem w_X4_leave_0 {p : Program} {l : Launch} {e : Env} {s : State} {m : MethodId} {args : Array Value} {below : List Frame} {meth : Method} {c : Code} {G : va_G} {ca : Nat → ClassId} {ad av : Nat → Nat} {A : Nat → Prop} (X0 : CX_ p s m args meth c cX4_leave 2 none wsX4_leave RX4 G ca ad av A) (a_t : Nat)   (res : Int64) (f_t_trace : Int64) (x1 : Int32) (h : F_X4_leave  f_t_trace x1 = some res) : ∀ (H : Heap) (locs : List Loc), va_P G vwCl [(a_t, .inr (4, [.long f_t_trace]))] H → va_D A [(a_t, .inr (4, [.long f_t_trace]))] → va_S A s.heap H locs → ∀ (ls : Array Slot), lv_has ls 2 [(0, .ref a_t), (1, .int x1)] → W p l e RM_X4_leave s m args below meth c H locs 0 0 (MQ below (QV_ G A [(a_t, .inr (4, [.long res]))]) args s 0 0 A) (F0 m 0 ls []) := by
  obtain ⟨hx, hb, hr, hml, hown, hts, hlocks, hK, hA, hE⟩ := id X0
  intro H locs hP hD hS ls hl
  unfold F_X4_leave at h
  refine lv_aload_n hx hb dX4_leave_0 rfl (lv_at hl 0 rfl) ?_
  refine lv_dup hx hb dX4_leave_1 rfl ?_
  refine va_get (D := G) (ci := 4) (v := .long f_t_trace) (C := RX4) (T := TX4) (N := 1) hx hb hts i_X4_leave_X4 hown hK hP 0 rfl rfl 0 (by decide) (hts _ k_X4_leave_0) (fun _ h9 => h9) rfl dX4_leave_2 ?_
  refine lv_iload_n hx hb dX4_leave_5 rfl (lv_at hl 1 rfl) ?_
  refine lv_i2l hx hb dX4_leave_6 rfl ?_
  refine lv_ladd hx hb dX4_leave_7 ?_
  refine va_put (D := G) (ci := 4) (v := .long (f_t_trace + x1.toInt64)) (ty := .long) (C := RX4) (T := TX4) (N := 1) hx hb hts i_X4_leave_X4 tyX4 tyX4_ok nmX4 hown hK hP hD hS 0 rfl rfl 0 (by decide) (hts _ k_X4_leave_0) (fun _ h9 => h9) rfl (by decide +kernel) rfl rfl (Nat.le_of_ble_eq_true rfl) dX4_leave_8 (fun H locs hP hD hS => ?_)
  have hP : va_P G vwCl [(a_t, .inr (4, [.long (f_t_trace + x1.toInt64)]))] H := hP
  have hD : va_D A [(a_t, .inr (4, [.long (f_t_trace + x1.toInt64)]))] := hD
  have h := sm_i h
  subst h
  exact W.vret hx hb hr (fun t ht hW => ⟨⟨(), rfl, trivial, by rw [ht]; exact hP, hD⟩, hS.F ht⟩) hS.2.2 dX4_leave_11
set_option maxHeartbeats 4000000 in
set_option maxRecDepth 100000 in
theorem c_X4_leave (l : Launch) (G : va_G) (ca : Nat → ClassId) (ad av : Nat → Nat) (sz : Nat) (a_t : Nat)   (f_t_trace : Int64) (x1 : Int32) (res : Int64) (h : F_X4_leave  f_t_trace x1 = some res) : Met l yX4_leave wsX4_leave RM_X4_leave (va_Pc [.ref a_t, .int x1] (PW_ G ca ad av sz [(a_t, .inr (4, [.long f_t_trace]))])) (QV_ G (va_A [(a_t, .inr (4, [.long f_t_trace]))] sz) [(a_t, .inr (4, [.long res]))]) 0 0 (va_A [(a_t, .inr (4, [.long f_t_trace]))] sz) := by
  refine Met.ofW (cc := cX4_leave) (maxL := 2) (ret := none) (by decide) rfl ?_
  intro p e s m args below meth c s₁ B hml hv
  obtain ⟨X0, rfl, rfl, hP, hD⟩ := en_t B hml hv
  have hl := lv_entry ([.ref a_t, .int x1]) (n := 2) (Nat.le_of_ble_eq_true rfl)
  rw [lg_entry_eq]
  generalize (lg_sl ([.ref a_t, .int x1]) ++ List.replicate (2 - (lg_sl ([.ref a_t, .int x1])).length) Slot.unset).toArray = ls at hl ⊢
  exact w_X4_leave_0 X0 a_t   _ f_t_trace x1 h s.heap [] hP hD va_S.rf ls hl

/-! X4_marked -/
abbrev RM_X4_marked : Room := { frames := 1, cells := 0, slots := 0, locals := 21 }
theorem k_X4_marked_0 : Cond.fieldLinkNest RX4 17 "DropDealers$Now" "water" "[I" "DropDealers" ∈ nw_l := by decide +kernel
theorem i_X4_marked_X7 : ∀ w ∈ u_ws RX7 TX7 9, w ∈ wsX4_marked := by decide +kernel
def F_X4_marked (c_p2_water : Nat → Int32) (f_t_trace : Int64) (x3 : Int32) : Option (Int32 × Int64) := (F_X4_leave f_t_trace (1 : Int32)).bind (fun u1 => if ok_I x3 6 = true then some ((c_p2_water x3.toNatClampNeg), u1) else none)
set_option maxHeartbeats 4000000 in
set_option maxRecDepth 100000 in
theorem w_X4_marked_0 {p : Program} {l : Launch} {e : Env} {s : State} {m : MethodId} {args : Array Value} {below : List Frame} {meth : Method} {c : Code} {G : va_G} {ca : Nat → ClassId} {ad av : Nat → Nat} {A : Nat → Prop} (X0 : CX_ p s m args meth c cX4_marked 4 (some .int) wsX4_marked RX4 G ca ad av A) (a_t : Nat) (a_p2 : Nat) (a_p2_water : Nat) (a_p2_lacked : Nat) (a_p2_seenTurn : Nat) (a_p2_seenSet : Nat) (a_p1 : Nat) (f_p2_day : Int32) (f_p2_left : Int32) (f_p2_turn : Int32) (f_p2_lot : Int32) (f_p2_seen : Int32) (c_p2_water : Nat → Int32) (res : Int32 × Int64) (f_t_trace : Int64) (x3 : Int32) (h : F_X4_marked c_p2_water f_t_trace x3 = some res) : ∀ (H : Heap) (locs : List Loc), va_P G vwCl [(a_t, .inr (4, [.long f_t_trace])), (a_p2, .inr (7, [.ref a_p2_water, .ref a_p2_lacked, .ref a_p2_seenTurn, .ref a_p2_seenSet, .int f_p2_day, .int f_p2_left, .int f_p2_turn, .int f_p2_lot, .int f_p2_seen])), (a_p2_water, .inl (ca 0, 6, .inl c_p2_water))] H → va_D A [(a_t, .inr (4, [.long f_t_trace])), (a_p2, .inr (7, [.ref a_p2_water, .ref a_p2_lacked, .ref a_p2_seenTurn, .ref a_p2_seenSet, .int f_p2_day, .int f_p2_left, .int f_p2_turn, .int f_p2_lot, .int f_p2_seen])), (a_p2_water, .inl (ca 0, 6, .inl c_p2_water))] → va_S A s.heap H locs → ∀ (ls : Array Slot), lv_has ls 4 [(0, .ref a_t), (1, .ref a_p1), (2, .ref a_p2), (3, .int x3)] → W p l e RM_X4_marked s m args below meth c H locs 0 0 (MQ below (QI_ G A res.1 [(a_t, .inr (4, [.long res.2])), (a_p2, .inr (7, [.ref a_p2_water, .ref a_p2_lacked, .ref a_p2_seenTurn, .ref a_p2_seenSet, .int f_p2_day, .int f_p2_left, .int f_p2_turn, .int f_p2_lot, .int f_p2_seen])), (a_p2_water, .inl (ca 0, 6, .inl c_p2_water))]) args s 0 0 A) (F0 m 0 ls []) := by
  obtain ⟨hx, hb, hr, hml, hown, hts, hlocks, hK, hA, hE⟩ := id X0
  intro H locs hP hD hS ls hl
  unfold F_X4_marked at h
  refine lv_aload_n hx hb dX4_marked_0 rfl (lv_at hl 0 rfl) ?_
  refine lv_iconst (v := 1) hx hb dX4_marked_1 (by decide) ?_
  obtain ⟨u1, hc2, h⟩ := bd_o h
  refine jn_v (wr := [(a_p2, .inr (7, [.ref a_p2_water, .ref a_p2_lacked, .ref a_p2_seenTurn, .ref a_p2_seenSet, .int f_p2_day, .int f_p2_left, .int f_p2_turn, .int f_p2_lot, .int f_p2_seen])), (a_p2_water, .inl (ca 0, 6, .inl c_p2_water))]) (ws' := [(a_t, .inr (4, [.long u1])), (a_p2, .inr (7, [.ref a_p2_water, .ref a_p2_lacked, .ref a_p2_seenTurn, .ref a_p2_seenSet, .int f_p2_day, .int f_p2_left, .int f_p2_turn, .int f_p2_lot, .int f_p2_seen])), (a_p2_water, .inl (ca 0, 6, .inl c_p2_water))]) (va_runV (As := [.int (1 : Int32)]) (rest := []) ⟨hx, hb, hml, hown, hts⟩ (c_X4_leave l G ca ad av H.size a_t f_t_trace (1 : Int32) u1 hc2) (cwV 1 hts gX4_marked_X4_leave rfl rfl rfl (by decide +kernel) ⟨Nat.le_of_ble_eq_true rfl, Nat.le_of_ble_eq_true rfl⟩) (pre_v (q0 := 0) (ci := 4) hK hE hA hP hD hS [0] rfl (by decide) rfl rfl) rfl rfl hl.1 rfl (lv_room (Nat.le_of_ble_eq_true rfl)) dX4_marked_2 ⟨Nat.le_of_ble_eq_true rfl, Nat.le_of_ble_eq_true rfl⟩) hA hP hD hS [0] [1, 2] [2, 0, 1] rfl rfl (by decide) (by decide) (by decide) rfl (fun H locs hP hD hS => ?_)
  refine lv_aload_n hx hb dX4_marked_5 rfl (lv_at hl 2 rfl) ?_
  refine va_getN (D := G) (ci := 7) (v := .ref a_p2_water) (C := RX7) (T := TX7) (N := 9) hx hb hts i_X4_marked_X7 hown hK hP 1 rfl rfl 0 (by decide) (va_Nw.use rfl (hE.1 _ k_X4_marked_0)) (fun _ h9 => h9) rfl dX4_marked_6 ?_
  refine lv_iload_n hx hb dX4_marked_9 rfl (lv_at hl 3 rfl) ?_
  obtain ⟨g3, h⟩ := gd_t h
  refine va_iald hx hb hK hP 2 0 rfl rfl (ok_in g3) dX4_marked_10 ?_
  have h := sm_i h
  subst h
  exact W.iret (v := (c_p2_water x3.toNatClampNeg)) hx hb hr (fun t ht hW => ⟨⟨(c_p2_water x3.toNatClampNeg), (), rfl, rfl, by rw [ht]; exact hP, hD⟩, hS.F ht⟩) hS.2.2 dX4_marked_11
set_option maxHeartbeats 4000000 in
set_option maxRecDepth 100000 in
theorem c_X4_marked (l : Launch) (G : va_G) (ca : Nat → ClassId) (ad av : Nat → Nat) (sz : Nat) (a_t : Nat) (a_p2 : Nat) (a_p2_water : Nat) (a_p2_lacked : Nat) (a_p2_seenTurn : Nat) (a_p2_seenSet : Nat) (a_p1 : Nat) (f_p2_day : Int32) (f_p2_left : Int32) (f_p2_turn : Int32) (f_p2_lot : Int32) (f_p2_seen : Int32) (c_p2_water : Nat → Int32) (f_t_trace : Int64) (x3 : Int32) (res : Int32 × Int64) (h : F_X4_marked c_p2_water f_t_trace x3 = some res) : Met l yX4_marked wsX4_marked RM_X4_marked (va_Pc [.ref a_t, .ref a_p1, .ref a_p2, .int x3] (PW_ G ca ad av sz [(a_t, .inr (4, [.long f_t_trace])), (a_p2, .inr (7, [.ref a_p2_water, .ref a_p2_lacked, .ref a_p2_seenTurn, .ref a_p2_seenSet, .int f_p2_day, .int f_p2_left, .int f_p2_turn, .int f_p2_lot, .int f_p2_seen])), (a_p2_water, .inl (ca 0, 6, .inl c_p2_water))])) (QI_ G (va_A [(a_t, .inr (4, [.long f_t_trace])), (a_p2, .inr (7, [.ref a_p2_water, .ref a_p2_lacked, .ref a_p2_seenTurn, .ref a_p2_seenSet, .int f_p2_day, .int f_p2_left, .int f_p2_turn, .int f_p2_lot, .int f_p2_seen])), (a_p2_water, .inl (ca 0, 6, .inl c_p2_water))] sz) res.1 [(a_t, .inr (4, [.long res.2])), (a_p2, .inr (7, [.ref a_p2_water, .ref a_p2_lacked, .ref a_p2_seenTurn, .ref a_p2_seenSet, .int f_p2_day, .int f_p2_left, .int f_p2_turn, .int f_p2_lot, .int f_p2_seen])), (a_p2_water, .inl (ca 0, 6, .inl c_p2_water))]) 0 0 (va_A [(a_t, .inr (4, [.long f_t_trace])), (a_p2, .inr (7, [.ref a_p2_water, .ref a_p2_lacked, .ref a_p2_seenTurn, .ref a_p2_seenSet, .int f_p2_day, .int f_p2_left, .int f_p2_turn, .int f_p2_lot, .int f_p2_seen])), (a_p2_water, .inl (ca 0, 6, .inl c_p2_water))] sz) := by
  refine Met.ofW (cc := cX4_marked) (maxL := 4) (ret := (some .int)) (by decide) rfl ?_
  intro p e s m args below meth c s₁ B hml hv
  obtain ⟨X0, rfl, rfl, hP, hD⟩ := en_t B hml hv
  have hl := lv_entry ([.ref a_t, .ref a_p1, .ref a_p2, .int x3]) (n := 4) (Nat.le_of_ble_eq_true rfl)
  rw [lg_entry_eq]
  generalize (lg_sl ([.ref a_t, .ref a_p1, .ref a_p2, .int x3]) ++ List.replicate (4 - (lg_sl ([.ref a_t, .ref a_p1, .ref a_p2, .int x3])).length) Slot.unset).toArray = ls at hl ⊢
  exact w_X4_marked_0 X0 a_t a_p2 a_p2_water a_p2_lacked a_p2_seenTurn a_p2_seenSet a_p1 f_p2_day f_p2_left f_p2_turn f_p2_lot f_p2_seen c_p2_water _ f_t_trace x3 h s.heap [] hP hD va_S.rf ls hl

/-! X4_traced_X6 -/
abbrev RM_X4_traced_X6 : Room := { frames := 0, cells := 0, slots := 0, locals := 0 }
theorem k_X4_traced_X6_0 : Cond.fieldLink RX4 7 "DropDealers$Kind" "trace" "J" ∈ wsX4_traced := by decide +kernel
theorem i_X4_traced_X6_X6 : ∀ w ∈ u_ws RX6 TX6 1, w ∈ wsX4_traced := by decide +kernel
def F_X4_traced_X6 (f_t_trace : Int64)  : Option (Int64) := some (f_t_trace)
set_option maxHeartbeats 4000000 in
set_option maxRecDepth 100000 in
theorem w_X4_traced_X6_0 {p : Program} {l : Launch} {e : Env} {s : State} {m : MethodId} {args : Array Value} {below : List Frame} {meth : Method} {c : Code} {G : va_G} {ca : Nat → ClassId} {ad av : Nat → Nat} {A : Nat → Prop} (X0 : CX_ p s m args meth c cX4_traced 1 (some .long) wsX4_traced RX4 G ca ad av A) (a_t : Nat)  (f_t_trace : Int64) (res : Int64)  (h : F_X4_traced_X6 f_t_trace  = some res) : ∀ (H : Heap) (locs : List Loc), va_P G vwCl [(a_t, .inr (6, [.long f_t_trace]))] H → va_D A [(a_t, .inr (6, [.long f_t_trace]))] → va_S A s.heap H locs → ∀ (ls : Array Slot), lv_has ls 1 [(0, .ref a_t)] → W p l e RM_X4_traced_X6 s m args below meth c H locs 0 0 (MQ below (QL_ G A res [(a_t, .inr (6, [.long f_t_trace]))]) args s 0 0 A) (F0 m 0 ls []) := by
  obtain ⟨hx, hb, hr, hml, hown, hts, hlocks, hK, hA, hE⟩ := id X0
  intro H locs hP hD hS ls hl
  unfold F_X4_traced_X6 at h
  refine lv_aload_n hx hb dX4_traced_0 rfl (lv_at hl 0 rfl) ?_
  refine va_get (D := G) (ci := 6) (v := .long f_t_trace) (C := RX6) (T := TX6) (N := 1) hx hb hts i_X4_traced_X6_X6 hown hK hP 0 rfl rfl 0 (by decide) (hts _ k_X4_traced_X6_0) (fun _ h9 => h9) rfl dX4_traced_1 ?_
  have h := sm_i h
  subst h
  exact W.lret (v := f_t_trace) hx hb hr (fun t ht hW => ⟨⟨f_t_trace, (), rfl, rfl, by rw [ht]; exact hP, hD⟩, hS.F ht⟩) hS.2.2 dX4_traced_4
set_option maxHeartbeats 4000000 in
set_option maxRecDepth 100000 in
theorem c_X4_traced_X6 (l : Launch) (G : va_G) (ca : Nat → ClassId) (ad av : Nat → Nat) (sz : Nat) (a_t : Nat)  (f_t_trace : Int64)  (res : Int64) (h : F_X4_traced_X6 f_t_trace  = some res) : Met l yX4_traced wsX4_traced RM_X4_traced_X6 (va_Pc [.ref a_t] (PW_ G ca ad av sz [(a_t, .inr (6, [.long f_t_trace]))])) (QL_ G (va_A [(a_t, .inr (6, [.long f_t_trace]))] sz) res [(a_t, .inr (6, [.long f_t_trace]))]) 0 0 (va_A [(a_t, .inr (6, [.long f_t_trace]))] sz) := by
  refine Met.ofW (cc := cX4_traced) (maxL := 1) (ret := (some .long)) (by decide) rfl ?_
  intro p e s m args below meth c s₁ B hml hv
  obtain ⟨X0, rfl, rfl, hP, hD⟩ := en_t B hml hv
  have hl := lv_entry ([.ref a_t]) (n := 1) (Nat.le_of_ble_eq_true rfl)
  rw [lg_entry_eq]
  generalize (lg_sl ([.ref a_t]) ++ List.replicate (1 - (lg_sl ([.ref a_t])).length) Slot.unset).toArray = ls at hl ⊢
  exact w_X4_traced_X6_0 X0 a_t  f_t_trace _  h s.heap [] hP hD va_S.rf ls hl

/-! X4_traced_X2 -/
abbrev RM_X4_traced_X2 : Room := { frames := 0, cells := 0, slots := 0, locals := 0 }
theorem k_X4_traced_X2_0 : Cond.fieldLink RX4 7 "DropDealers$Kind" "trace" "J" ∈ wsX4_traced := by decide +kernel
theorem i_X4_traced_X2_X2 : ∀ w ∈ u_ws RX2 TX2 1, w ∈ wsX4_traced := by decide +kernel
def F_X4_traced_X2 (f_t_trace : Int64)  : Option (Int64) := some (f_t_trace)
set_option maxHeartbeats 4000000 in
set_option maxRecDepth 100000 in
theorem w_X4_traced_X2_0 {p : Program} {l : Launch} {e : Env} {s : State} {m : MethodId} {args : Array Value} {below : List Frame} {meth : Method} {c : Code} {G : va_G} {ca : Nat → ClassId} {ad av : Nat → Nat} {A : Nat → Prop} (X0 : CX_ p s m args meth c cX4_traced 1 (some .long) wsX4_traced RX4 G ca ad av A) (a_t : Nat)  (f_t_trace : Int64) (res : Int64)  (h : F_X4_traced_X2 f_t_trace  = some res) : ∀ (H : Heap) (locs : List Loc), va_P G vwCl [(a_t, .inr (2, [.long f_t_trace]))] H → va_D A [(a_t, .inr (2, [.long f_t_trace]))] → va_S A s.heap H locs → ∀ (ls : Array Slot), lv_has ls 1 [(0, .ref a_t)] → W p l e RM_X4_traced_X2 s m args below meth c H locs 0 0 (MQ below (QL_ G A res [(a_t, .inr (2, [.long f_t_trace]))]) args s 0 0 A) (F0 m 0 ls []) := by
  obtain ⟨hx, hb, hr, hml, hown, hts, hlocks, hK, hA, hE⟩ := id X0
  intro H locs hP hD hS ls hl
  unfold F_X4_traced_X2 at h
  refine lv_aload_n hx hb dX4_traced_0 rfl (lv_at hl 0 rfl) ?_
  refine va_get (D := G) (ci := 2) (v := .long f_t_trace) (C := RX2) (T := TX2) (N := 1) hx hb hts i_X4_traced_X2_X2 hown hK hP 0 rfl rfl 0 (by decide) (hts _ k_X4_traced_X2_0) (fun _ h9 => h9) rfl dX4_traced_1 ?_
  have h := sm_i h
  subst h
  exact W.lret (v := f_t_trace) hx hb hr (fun t ht hW => ⟨⟨f_t_trace, (), rfl, rfl, by rw [ht]; exact hP, hD⟩, hS.F ht⟩) hS.2.2 dX4_traced_4
set_option maxHeartbeats 4000000 in
set_option maxRecDepth 100000 in
theorem c_X4_traced_X2 (l : Launch) (G : va_G) (ca : Nat → ClassId) (ad av : Nat → Nat) (sz : Nat) (a_t : Nat)  (f_t_trace : Int64)  (res : Int64) (h : F_X4_traced_X2 f_t_trace  = some res) : Met l yX4_traced wsX4_traced RM_X4_traced_X2 (va_Pc [.ref a_t] (PW_ G ca ad av sz [(a_t, .inr (2, [.long f_t_trace]))])) (QL_ G (va_A [(a_t, .inr (2, [.long f_t_trace]))] sz) res [(a_t, .inr (2, [.long f_t_trace]))]) 0 0 (va_A [(a_t, .inr (2, [.long f_t_trace]))] sz) := by
  refine Met.ofW (cc := cX4_traced) (maxL := 1) (ret := (some .long)) (by decide) rfl ?_
  intro p e s m args below meth c s₁ B hml hv
  obtain ⟨X0, rfl, rfl, hP, hD⟩ := en_t B hml hv
  have hl := lv_entry ([.ref a_t]) (n := 1) (Nat.le_of_ble_eq_true rfl)
  rw [lg_entry_eq]
  generalize (lg_sl ([.ref a_t]) ++ List.replicate (1 - (lg_sl ([.ref a_t])).length) Slot.unset).toArray = ls at hl ⊢
  exact w_X4_traced_X2_0 X0 a_t  f_t_trace _  h s.heap [] hP hD va_S.rf ls hl

/-! X4_traced_X8 -/
abbrev RM_X4_traced_X8 : Room := { frames := 0, cells := 0, slots := 0, locals := 0 }
theorem k_X4_traced_X8_0 : Cond.fieldLink RX4 7 "DropDealers$Kind" "trace" "J" ∈ wsX4_traced := by decide +kernel
theorem i_X4_traced_X8_X8 : ∀ w ∈ u_ws RX8 TX8 1, w ∈ wsX4_traced := by decide +kernel
def F_X4_traced_X8 (f_t_trace : Int64)  : Option (Int64) := some (f_t_trace)
set_option maxHeartbeats 4000000 in
set_option maxRecDepth 100000 in
theorem w_X4_traced_X8_0 {p : Program} {l : Launch} {e : Env} {s : State} {m : MethodId} {args : Array Value} {below : List Frame} {meth : Method} {c : Code} {G : va_G} {ca : Nat → ClassId} {ad av : Nat → Nat} {A : Nat → Prop} (X0 : CX_ p s m args meth c cX4_traced 1 (some .long) wsX4_traced RX4 G ca ad av A) (a_t : Nat)  (f_t_trace : Int64) (res : Int64)  (h : F_X4_traced_X8 f_t_trace  = some res) : ∀ (H : Heap) (locs : List Loc), va_P G vwCl [(a_t, .inr (8, [.long f_t_trace]))] H → va_D A [(a_t, .inr (8, [.long f_t_trace]))] → va_S A s.heap H locs → ∀ (ls : Array Slot), lv_has ls 1 [(0, .ref a_t)] → W p l e RM_X4_traced_X8 s m args below meth c H locs 0 0 (MQ below (QL_ G A res [(a_t, .inr (8, [.long f_t_trace]))]) args s 0 0 A) (F0 m 0 ls []) := by
  obtain ⟨hx, hb, hr, hml, hown, hts, hlocks, hK, hA, hE⟩ := id X0
  intro H locs hP hD hS ls hl
  unfold F_X4_traced_X8 at h
  refine lv_aload_n hx hb dX4_traced_0 rfl (lv_at hl 0 rfl) ?_
  refine va_get (D := G) (ci := 8) (v := .long f_t_trace) (C := RX8) (T := TX8) (N := 1) hx hb hts i_X4_traced_X8_X8 hown hK hP 0 rfl rfl 0 (by decide) (hts _ k_X4_traced_X8_0) (fun _ h9 => h9) rfl dX4_traced_1 ?_
  have h := sm_i h
  subst h
  exact W.lret (v := f_t_trace) hx hb hr (fun t ht hW => ⟨⟨f_t_trace, (), rfl, rfl, by rw [ht]; exact hP, hD⟩, hS.F ht⟩) hS.2.2 dX4_traced_4
set_option maxHeartbeats 4000000 in
set_option maxRecDepth 100000 in
theorem c_X4_traced_X8 (l : Launch) (G : va_G) (ca : Nat → ClassId) (ad av : Nat → Nat) (sz : Nat) (a_t : Nat)  (f_t_trace : Int64)  (res : Int64) (h : F_X4_traced_X8 f_t_trace  = some res) : Met l yX4_traced wsX4_traced RM_X4_traced_X8 (va_Pc [.ref a_t] (PW_ G ca ad av sz [(a_t, .inr (8, [.long f_t_trace]))])) (QL_ G (va_A [(a_t, .inr (8, [.long f_t_trace]))] sz) res [(a_t, .inr (8, [.long f_t_trace]))]) 0 0 (va_A [(a_t, .inr (8, [.long f_t_trace]))] sz) := by
  refine Met.ofW (cc := cX4_traced) (maxL := 1) (ret := (some .long)) (by decide) rfl ?_
  intro p e s m args below meth c s₁ B hml hv
  obtain ⟨X0, rfl, rfl, hP, hD⟩ := en_t B hml hv
  have hl := lv_entry ([.ref a_t]) (n := 1) (Nat.le_of_ble_eq_true rfl)
  rw [lg_entry_eq]
  generalize (lg_sl ([.ref a_t]) ++ List.replicate (1 - (lg_sl ([.ref a_t])).length) Slot.unset).toArray = ls at hl ⊢
  exact w_X4_traced_X8_0 X0 a_t  f_t_trace _  h s.heap [] hP hD va_S.rf ls hl

/-! X4_traced_X5 -/
abbrev RM_X4_traced_X5 : Room := { frames := 0, cells := 0, slots := 0, locals := 0 }
theorem k_X4_traced_X5_0 : Cond.fieldLink RX4 7 "DropDealers$Kind" "trace" "J" ∈ wsX4_traced := by decide +kernel
theorem i_X4_traced_X5_X5 : ∀ w ∈ u_ws RX5 TX5 1, w ∈ wsX4_traced := by decide +kernel
def F_X4_traced_X5 (f_t_trace : Int64)  : Option (Int64) := some (f_t_trace)
set_option maxHeartbeats 4000000 in
set_option maxRecDepth 100000 in
theorem w_X4_traced_X5_0 {p : Program} {l : Launch} {e : Env} {s : State} {m : MethodId} {args : Array Value} {below : List Frame} {meth : Method} {c : Code} {G : va_G} {ca : Nat → ClassId} {ad av : Nat → Nat} {A : Nat → Prop} (X0 : CX_ p s m args meth c cX4_traced 1 (some .long) wsX4_traced RX4 G ca ad av A) (a_t : Nat)  (f_t_trace : Int64) (res : Int64)  (h : F_X4_traced_X5 f_t_trace  = some res) : ∀ (H : Heap) (locs : List Loc), va_P G vwCl [(a_t, .inr (5, [.long f_t_trace]))] H → va_D A [(a_t, .inr (5, [.long f_t_trace]))] → va_S A s.heap H locs → ∀ (ls : Array Slot), lv_has ls 1 [(0, .ref a_t)] → W p l e RM_X4_traced_X5 s m args below meth c H locs 0 0 (MQ below (QL_ G A res [(a_t, .inr (5, [.long f_t_trace]))]) args s 0 0 A) (F0 m 0 ls []) := by
  obtain ⟨hx, hb, hr, hml, hown, hts, hlocks, hK, hA, hE⟩ := id X0
  intro H locs hP hD hS ls hl
  unfold F_X4_traced_X5 at h
  refine lv_aload_n hx hb dX4_traced_0 rfl (lv_at hl 0 rfl) ?_
  refine va_get (D := G) (ci := 5) (v := .long f_t_trace) (C := RX5) (T := TX5) (N := 1) hx hb hts i_X4_traced_X5_X5 hown hK hP 0 rfl rfl 0 (by decide) (hts _ k_X4_traced_X5_0) (fun _ h9 => h9) rfl dX4_traced_1 ?_
  have h := sm_i h
  subst h
  exact W.lret (v := f_t_trace) hx hb hr (fun t ht hW => ⟨⟨f_t_trace, (), rfl, rfl, by rw [ht]; exact hP, hD⟩, hS.F ht⟩) hS.2.2 dX4_traced_4
set_option maxHeartbeats 4000000 in
set_option maxRecDepth 100000 in
theorem c_X4_traced_X5 (l : Launch) (G : va_G) (ca : Nat → ClassId) (ad av : Nat → Nat) (sz : Nat) (a_t : Nat)  (f_t_trace : Int64)  (res : Int64) (h : F_X4_traced_X5 f_t_trace  = some res) : Met l yX4_traced wsX4_traced RM_X4_traced_X5 (va_Pc [.ref a_t] (PW_ G ca ad av sz [(a_t, .inr (5, [.long f_t_trace]))])) (QL_ G (va_A [(a_t, .inr (5, [.long f_t_trace]))] sz) res [(a_t, .inr (5, [.long f_t_trace]))]) 0 0 (va_A [(a_t, .inr (5, [.long f_t_trace]))] sz) := by
  refine Met.ofW (cc := cX4_traced) (maxL := 1) (ret := (some .long)) (by decide) rfl ?_
  intro p e s m args below meth c s₁ B hml hv
  obtain ⟨X0, rfl, rfl, hP, hD⟩ := en_t B hml hv
  have hl := lv_entry ([.ref a_t]) (n := 1) (Nat.le_of_ble_eq_true rfl)
  rw [lg_entry_eq]
  generalize (lg_sl ([.ref a_t]) ++ List.replicate (1 - (lg_sl ([.ref a_t])).length) Slot.unset).toArray = ls at hl ⊢
  exact w_X4_traced_X5_0 X0 a_t  f_t_trace _  h s.heap [] hP hD va_S.rf ls hl

/-! X4_traced_X0 -/
abbrev RM_X4_traced_X0 : Room := { frames := 0, cells := 0, slots := 0, locals := 0 }
theorem k_X4_traced_X0_0 : Cond.fieldLink RX4 7 "DropDealers$Kind" "trace" "J" ∈ wsX4_traced := by decide +kernel
theorem i_X4_traced_X0_X0 : ∀ w ∈ u_ws RX0 TX0 1, w ∈ wsX4_traced := by decide +kernel
def F_X4_traced_X0 (f_t_trace : Int64)  : Option (Int64) := some (f_t_trace)
set_option maxHeartbeats 4000000 in
set_option maxRecDepth 100000 in
theorem w_X4_traced_X0_0 {p : Program} {l : Launch} {e : Env} {s : State} {m : MethodId} {args : Array Value} {below : List Frame} {meth : Method} {c : Code} {G : va_G} {ca : Nat → ClassId} {ad av : Nat → Nat} {A : Nat → Prop} (X0 : CX_ p s m args meth c cX4_traced 1 (some .long) wsX4_traced RX4 G ca ad av A) (a_t : Nat)  (f_t_trace : Int64) (res : Int64)  (h : F_X4_traced_X0 f_t_trace  = some res) : ∀ (H : Heap) (locs : List Loc), va_P G vwCl [(a_t, .inr (0, [.long f_t_trace]))] H → va_D A [(a_t, .inr (0, [.long f_t_trace]))] → va_S A s.heap H locs → ∀ (ls : Array Slot), lv_has ls 1 [(0, .ref a_t)] → W p l e RM_X4_traced_X0 s m args below meth c H locs 0 0 (MQ below (QL_ G A res [(a_t, .inr (0, [.long f_t_trace]))]) args s 0 0 A) (F0 m 0 ls []) := by
  obtain ⟨hx, hb, hr, hml, hown, hts, hlocks, hK, hA, hE⟩ := id X0
  intro H locs hP hD hS ls hl
  unfold F_X4_traced_X0 at h
  refine lv_aload_n hx hb dX4_traced_0 rfl (lv_at hl 0 rfl) ?_
  refine va_get (D := G) (ci := 0) (v := .long f_t_trace) (C := RX0) (T := TX0) (N := 1) hx hb hts i_X4_traced_X0_X0 hown hK hP 0 rfl rfl 0 (by decide) (hts _ k_X4_traced_X0_0) (fun _ h9 => h9) rfl dX4_traced_1 ?_
  have h := sm_i h
  subst h
  exact W.lret (v := f_t_trace) hx hb hr (fun t ht hW => ⟨⟨f_t_trace, (), rfl, rfl, by rw [ht]; exact hP, hD⟩, hS.F ht⟩) hS.2.2 dX4_traced_4
set_option maxHeartbeats 4000000 in
set_option maxRecDepth 100000 in
theorem c_X4_traced_X0 (l : Launch) (G : va_G) (ca : Nat → ClassId) (ad av : Nat → Nat) (sz : Nat) (a_t : Nat)  (f_t_trace : Int64)  (res : Int64) (h : F_X4_traced_X0 f_t_trace  = some res) : Met l yX4_traced wsX4_traced RM_X4_traced_X0 (va_Pc [.ref a_t] (PW_ G ca ad av sz [(a_t, .inr (0, [.long f_t_trace]))])) (QL_ G (va_A [(a_t, .inr (0, [.long f_t_trace]))] sz) res [(a_t, .inr (0, [.long f_t_trace]))]) 0 0 (va_A [(a_t, .inr (0, [.long f_t_trace]))] sz) := by
  refine Met.ofW (cc := cX4_traced) (maxL := 1) (ret := (some .long)) (by decide) rfl ?_
  intro p e s m args below meth c s₁ B hml hv
  obtain ⟨X0, rfl, rfl, hP, hD⟩ := en_t B hml hv
  have hl := lv_entry ([.ref a_t]) (n := 1) (Nat.le_of_ble_eq_true rfl)
  rw [lg_entry_eq]
  generalize (lg_sl ([.ref a_t]) ++ List.replicate (1 - (lg_sl ([.ref a_t])).length) Slot.unset).toArray = ls at hl ⊢
  exact w_X4_traced_X0_0 X0 a_t  f_t_trace _  h s.heap [] hP hD va_S.rf ls hl

/-! X4_traced -/
abbrev RM_X4_traced : Room := { frames := 0, cells := 0, slots := 0, locals := 0 }
theorem k_X4_traced_0 : Cond.fieldLink RX4 7 "DropDealers$Kind" "trace" "J" ∈ wsX4_traced := by decide +kernel
theorem i_X4_traced_X4 : ∀ w ∈ u_ws RX4 TX4 1, w ∈ wsX4_traced := by decide +kernel
def F_X4_traced (f_t_trace : Int64)  : Option (Int64) := some (f_t_trace)
set_option maxHeartbeats 4000000 in
set_option maxRecDepth 100000 in
theorem w_X4_traced_0 {p : Program} {l : Launch} {e : Env} {s : State} {m : MethodId} {args : Array Value} {below : List Frame} {meth : Method} {c : Code} {G : va_G} {ca : Nat → ClassId} {ad av : Nat → Nat} {A : Nat → Prop} (X0 : CX_ p s m args meth c cX4_traced 1 (some .long) wsX4_traced RX4 G ca ad av A) (a_t : Nat)  (f_t_trace : Int64) (res : Int64)  (h : F_X4_traced f_t_trace  = some res) : ∀ (H : Heap) (locs : List Loc), va_P G vwCl [(a_t, .inr (4, [.long f_t_trace]))] H → va_D A [(a_t, .inr (4, [.long f_t_trace]))] → va_S A s.heap H locs → ∀ (ls : Array Slot), lv_has ls 1 [(0, .ref a_t)] → W p l e RM_X4_traced s m args below meth c H locs 0 0 (MQ below (QL_ G A res [(a_t, .inr (4, [.long f_t_trace]))]) args s 0 0 A) (F0 m 0 ls []) := by
  obtain ⟨hx, hb, hr, hml, hown, hts, hlocks, hK, hA, hE⟩ := id X0
  intro H locs hP hD hS ls hl
  unfold F_X4_traced at h
  refine lv_aload_n hx hb dX4_traced_0 rfl (lv_at hl 0 rfl) ?_
  refine va_get (D := G) (ci := 4) (v := .long f_t_trace) (C := RX4) (T := TX4) (N := 1) hx hb hts i_X4_traced_X4 hown hK hP 0 rfl rfl 0 (by decide) (hts _ k_X4_traced_0) (fun _ h9 => h9) rfl dX4_traced_1 ?_
  have h := sm_i h
  subst h
  exact W.lret (v := f_t_trace) hx hb hr (fun t ht hW => ⟨⟨f_t_trace, (), rfl, rfl, by rw [ht]; exact hP, hD⟩, hS.F ht⟩) hS.2.2 dX4_traced_4
set_option maxHeartbeats 4000000 in
set_option maxRecDepth 100000 in
theorem c_X4_traced (l : Launch) (G : va_G) (ca : Nat → ClassId) (ad av : Nat → Nat) (sz : Nat) (a_t : Nat)  (f_t_trace : Int64)  (res : Int64) (h : F_X4_traced f_t_trace  = some res) : Met l yX4_traced wsX4_traced RM_X4_traced (va_Pc [.ref a_t] (PW_ G ca ad av sz [(a_t, .inr (4, [.long f_t_trace]))])) (QL_ G (va_A [(a_t, .inr (4, [.long f_t_trace]))] sz) res [(a_t, .inr (4, [.long f_t_trace]))]) 0 0 (va_A [(a_t, .inr (4, [.long f_t_trace]))] sz) := by
  refine Met.ofW (cc := cX4_traced) (maxL := 1) (ret := (some .long)) (by decide) rfl ?_
  intro p e s m args below meth c s₁ B hml hv
  obtain ⟨X0, rfl, rfl, hP, hD⟩ := en_t B hml hv
  have hl := lv_entry ([.ref a_t]) (n := 1) (Nat.le_of_ble_eq_true rfl)
  rw [lg_entry_eq]
  generalize (lg_sl ([.ref a_t]) ++ List.replicate (1 - (lg_sl ([.ref a_t])).length) Slot.unset).toArray = ls at hl ⊢
  exact w_X4_traced_0 X0 a_t  f_t_trace _  h s.heap [] hP hD va_S.rf ls hl
