/-! X9_append -/
abbrev RM_X9_append : Room := { frames := 0, cells := 0, slots := 0, locals := 0 }
theorem k_X9_append_0 : Cond.fieldLink RX9 9 "DropDealers$Reader" "bytes" "[B" ∈ wsX9_append := by decide +kernel
theorem i_X9_append_X9 : ∀ w ∈ u_ws RX9 TX9 9, w ∈ wsX9_append := by decide +kernel
theorem k_X9_append_2 : Cond.fieldLink RX9 15 "DropDealers$Reader" "length" "I" ∈ wsX9_append := by decide +kernel
def F_X9_append_19  : Nat → (Nat → Int32) → Int32 → Int64 → Int32 → Option (Int32 × (Nat → Int32) × Int32)
  | 0, _, _, _, _ => none
  | n + 1, c_t_bytes, f_t_length, y1, y4 => if y4 < 0 then (some ((1 : Int32), c_t_bytes, f_t_length)) else (if ok_I f_t_length 300 = true then F_X9_append_19  n (upd c_t_bytes f_t_length.toNatClampNeg (vp_nar .byte ((((y1.toUInt64 >>> (((8 : Int32) * y4).toInt64.toUInt64 &&& Int64.toUInt64 63)).toInt64).toInt32).toInt8.toInt32))) (f_t_length + (1 : Int32)) y1 (y4 + (-1 : Int32)) else none)
set_option maxHeartbeats 4000000 in
set_option maxRecDepth 100000 in
theorem w_X9_append_19 {p : Program} {l : Launch} {e : Env} {s : State} {m : MethodId} {args : Array Value} {below : List Frame} {meth : Method} {c : Code} {G : va_G} {ca : Nat → ClassId} {ad av : Nat → Nat} {A : Nat → Prop} (X0 : CX_ p s m args meth c cX9_append 5 (some .boolean) wsX9_append RX9 G ca ad av A) (a_t : Nat) (a_t_bytes : Nat) (f_t_place : Int32) (f_t_start : Int32) (f_t_token : Int32) (f_t_value : Int32) (f_t_lawTold : Int32) (f_t_slipTold : Int32) (f_t_songTold : Int32)  (res : Int32 × (Nat → Int32) × Int32) : ∀ (n : Nat) (c_t_bytes : Nat → Int32) (f_t_length : Int32) (y1 : Int64) (y4 : Int32), F_X9_append_19  n c_t_bytes f_t_length y1 y4 = some res → ∀ (H : Heap) (locs : List Loc), va_P G vwCl [(a_t, .inr (9, [.ref a_t_bytes, .int f_t_length, .int f_t_place, .int f_t_start, .int f_t_token, .int f_t_value, .int f_t_lawTold, .int f_t_slipTold, .int f_t_songTold])), (a_t_bytes, .inl (ca 2, 300, .inl c_t_bytes))] H → va_D A [(a_t, .inr (9, [.ref a_t_bytes, .int f_t_length, .int f_t_place, .int f_t_start, .int f_t_token, .int f_t_value, .int f_t_lawTold, .int f_t_slipTold, .int f_t_songTold])), (a_t_bytes, .inl (ca 2, 300, .inl c_t_bytes))] → va_S A s.heap H locs → ∀ (ls : Array Slot), lv_has ls 5 [(0, .ref a_t), (1, .long y1), (4, .int y4)] → W p l e RM_X9_append s m args below meth c H locs 0 0 (MQ below (QI_ G A res.1 [(a_t, .inr (9, [.ref a_t_bytes, .int res.2.2, .int f_t_place, .int f_t_start, .int f_t_token, .int f_t_value, .int f_t_lawTold, .int f_t_slipTold, .int f_t_songTold])), (a_t_bytes, .inl (ca 2, 300, .inl res.2.1))]) args s 0 0 A) (F0 m 19 ls []) := by
  obtain ⟨hx, hb, hr, hml, hown, hts, hlocks, hK, hA, hE⟩ := id X0
  intro n
  induction n with
  | zero => intro c_t_bytes f_t_length y1 y4 h; cases h
  | succ n ih =>
    intro c_t_bytes f_t_length y1 y4 h H locs hP hD hS ls hl
    rw [F_X9_append_19] at h
    refine lv_iload hx hb dX9_append_19 (lv_at hl 2 rfl) ?_
    refine lv_if_lt (tgt := 58) hx hb dX9_append_21 (by decide) (fun b1 => ?_) (fun b1 => ?_)
    · have h := (if_pos b1).symm.trans h
      refine lv_iconst (v := 1) hx hb dX9_append_58 (by decide) ?_
      have h := sm_i h
      subst h
      exact W.zret (v := (1 : Int32)) hx hb hr rfl (fun t ht hW => ⟨⟨(1 : Int32), (), rfl, rfl, by rw [ht]; exact hP, hD⟩, hS.F ht⟩) hS.2.2 dX9_append_59
    · have h := (if_neg b1).symm.trans h
      refine lv_aload_n hx hb dX9_append_24 rfl (lv_at hl 0 rfl) ?_
      refine va_get (D := G) (ci := 9) (v := .ref a_t_bytes) (C := RX9) (T := TX9) (N := 9) hx hb hts i_X9_append_X9 hown hK hP 0 rfl rfl 0 (by decide) (hts _ k_X9_append_0) (fun _ h9 => h9) rfl dX9_append_25 ?_
      refine lv_aload_n hx hb dX9_append_28 rfl (lv_at hl 0 rfl) ?_
      refine va_get (D := G) (ci := 9) (v := .int f_t_length) (C := RX9) (T := TX9) (N := 9) hx hb hts i_X9_append_X9 hown hK hP 0 rfl rfl 1 (by decide) (hts _ k_X9_append_2) (fun _ h9 => h9) rfl dX9_append_29 ?_
      refine lv_lload_n hx hb dX9_append_32 rfl (lv_at hl 1 rfl) ?_
      refine lv_bipush (v := 8) hx hb dX9_append_33 (by decide) ?_
      refine lv_iload hx hb dX9_append_35 (lv_at hl 2 rfl) ?_
      refine lv_imul hx hb dX9_append_37 ?_
      refine lv_lushr hx hb dX9_append_38 rfl ?_
      refine lv_l2i hx hb dX9_append_39 rfl ?_
      refine lv_i2b hx hb dX9_append_40 rfl ?_
      obtain ⟨g2, h⟩ := gd_t h
      refine va_bast hx hb hK hP hD hS 1 2 rfl rfl (ok_in g2) dX9_append_41 (fun H locs hP hD hS => ?_)
      have hP : va_P G vwCl [(a_t, .inr (9, [.ref a_t_bytes, .int f_t_length, .int f_t_place, .int f_t_start, .int f_t_token, .int f_t_value, .int f_t_lawTold, .int f_t_slipTold, .int f_t_songTold])), (a_t_bytes, .inl (ca 2, 300, .inl (upd c_t_bytes f_t_length.toNatClampNeg (vp_nar .byte ((((y1.toUInt64 >>> (((8 : Int32) * y4).toInt64.toUInt64 &&& Int64.toUInt64 63)).toInt64).toInt32).toInt8.toInt32)))))] H := hP
      have hD : va_D A [(a_t, .inr (9, [.ref a_t_bytes, .int f_t_length, .int f_t_place, .int f_t_start, .int f_t_token, .int f_t_value, .int f_t_lawTold, .int f_t_slipTold, .int f_t_songTold])), (a_t_bytes, .inl (ca 2, 300, .inl (upd c_t_bytes f_t_length.toNatClampNeg (vp_nar .byte ((((y1.toUInt64 >>> (((8 : Int32) * y4).toInt64.toUInt64 &&& Int64.toUInt64 63)).toInt64).toInt32).toInt8.toInt32)))))] := hD
      refine lv_aload_n hx hb dX9_append_42 rfl (lv_at hl 0 rfl) ?_
      refine lv_dup hx hb dX9_append_43 rfl ?_
      refine va_get (D := G) (ci := 9) (v := .int f_t_length) (C := RX9) (T := TX9) (N := 9) hx hb hts i_X9_append_X9 hown hK hP 0 rfl rfl 1 (by decide) (hts _ k_X9_append_2) (fun _ h9 => h9) rfl dX9_append_44 ?_
      refine lv_iconst (v := 1) hx hb dX9_append_47 (by decide) ?_
      refine lv_iadd hx hb dX9_append_48 ?_
      refine va_put (D := G) (ci := 9) (v := .int (f_t_length + (1 : Int32))) (ty := .int) (C := RX9) (T := TX9) (N := 9) hx hb hts i_X9_append_X9 tyX9 tyX9_ok nmX9 hown hK hP hD hS 0 rfl rfl 1 (by decide) (hts _ k_X9_append_2) (fun _ h9 => h9) rfl (by decide +kernel) rfl rfl (Nat.le_of_ble_eq_true rfl) dX9_append_49 (fun H locs hP hD hS => ?_)
      have hP : va_P G vwCl [(a_t, .inr (9, [.ref a_t_bytes, .int (f_t_length + (1 : Int32)), .int f_t_place, .int f_t_start, .int f_t_token, .int f_t_value, .int f_t_lawTold, .int f_t_slipTold, .int f_t_songTold])), (a_t_bytes, .inl (ca 2, 300, .inl (upd c_t_bytes f_t_length.toNatClampNeg (vp_nar .byte ((((y1.toUInt64 >>> (((8 : Int32) * y4).toInt64.toUInt64 &&& Int64.toUInt64 63)).toInt64).toInt32).toInt8.toInt32)))))] H := hP
      have hD : va_D A [(a_t, .inr (9, [.ref a_t_bytes, .int (f_t_length + (1 : Int32)), .int f_t_place, .int f_t_start, .int f_t_token, .int f_t_value, .int f_t_lawTold, .int f_t_slipTold, .int f_t_songTold])), (a_t_bytes, .inl (ca 2, 300, .inl (upd c_t_bytes f_t_length.toNatClampNeg (vp_nar .byte ((((y1.toUInt64 >>> (((8 : Int32) * y4).toInt64.toUInt64 &&& Int64.toUInt64 63)).toInt64).toInt32).toInt8.toInt32)))))] := hD
      refine lv_iinc (v := (y4 + (-1 : Int32))) (lv' := [(4, .int (y4 + (-1 : Int32))), (0, .ref a_t), (1, .long y1)]) hx hb dX9_append_52 hl (k := 2) rfl rfl (by decide) rfl (fun ls hl => ?_)
      refine lv_goto (tgt := 19) hx hb dX9_append_55 (by decide) ?_
      exact ih (upd c_t_bytes f_t_length.toNatClampNeg (vp_nar .byte ((((y1.toUInt64 >>> (((8 : Int32) * y4).toInt64.toUInt64 &&& Int64.toUInt64 63)).toInt64).toInt32).toInt8.toInt32))) (f_t_length + (1 : Int32)) y1 (y4 + (-1 : Int32)) h H locs hP hD hS ls (lv_sub hl [1, 2, 0] rfl)
def F_X9_append  (c_t_bytes : Nat → Int32) (f_t_length : Int32) (x1 : Int64) (x2 : Int32) : Option (Int32 × (Nat → Int32) × Int32) := if x2 ≤ ((300 : Int32) - f_t_length) then (F_X9_append_19  FU_ c_t_bytes f_t_length x1 (x2 - (1 : Int32))) else (some ((0 : Int32), c_t_bytes, f_t_length))
set_option maxHeartbeats 4000000 in
set_option maxRecDepth 100000 in
theorem w_X9_append_0 {p : Program} {l : Launch} {e : Env} {s : State} {m : MethodId} {args : Array Value} {below : List Frame} {meth : Method} {c : Code} {G : va_G} {ca : Nat → ClassId} {ad av : Nat → Nat} {A : Nat → Prop} (X0 : CX_ p s m args meth c cX9_append 5 (some .boolean) wsX9_append RX9 G ca ad av A) (a_t : Nat) (a_t_bytes : Nat) (f_t_place : Int32) (f_t_start : Int32) (f_t_token : Int32) (f_t_value : Int32) (f_t_lawTold : Int32) (f_t_slipTold : Int32) (f_t_songTold : Int32)  (res : Int32 × (Nat → Int32) × Int32) (c_t_bytes : Nat → Int32) (f_t_length : Int32) (x1 : Int64) (x2 : Int32) (h : F_X9_append  c_t_bytes f_t_length x1 x2 = some res) : ∀ (H : Heap) (locs : List Loc), va_P G vwCl [(a_t, .inr (9, [.ref a_t_bytes, .int f_t_length, .int f_t_place, .int f_t_start, .int f_t_token, .int f_t_value, .int f_t_lawTold, .int f_t_slipTold, .int f_t_songTold])), (a_t_bytes, .inl (ca 2, 300, .inl c_t_bytes))] H → va_D A [(a_t, .inr (9, [.ref a_t_bytes, .int f_t_length, .int f_t_place, .int f_t_start, .int f_t_token, .int f_t_value, .int f_t_lawTold, .int f_t_slipTold, .int f_t_songTold])), (a_t_bytes, .inl (ca 2, 300, .inl c_t_bytes))] → va_S A s.heap H locs → ∀ (ls : Array Slot), lv_has ls 5 [(0, .ref a_t), (1, .long x1), (3, .int x2)] → W p l e RM_X9_append s m args below meth c H locs 0 0 (MQ below (QI_ G A res.1 [(a_t, .inr (9, [.ref a_t_bytes, .int res.2.2, .int f_t_place, .int f_t_start, .int f_t_token, .int f_t_value, .int f_t_lawTold, .int f_t_slipTold, .int f_t_songTold])), (a_t_bytes, .inl (ca 2, 300, .inl res.2.1))]) args s 0 0 A) (F0 m 0 ls []) := by
  obtain ⟨hx, hb, hr, hml, hown, hts, hlocks, hK, hA, hE⟩ := id X0
  intro H locs hP hD hS ls hl
  unfold F_X9_append at h
  refine lv_iload_n hx hb dX9_append_0 rfl (lv_at hl 2 rfl) ?_
  refine lv_sipush (v := 300) hx hb dX9_append_1 (by decide) ?_
  refine lv_aload_n hx hb dX9_append_4 rfl (lv_at hl 0 rfl) ?_
  refine va_get (D := G) (ci := 9) (v := .int f_t_length) (C := RX9) (T := TX9) (N := 9) hx hb hts i_X9_append_X9 hown hK hP 0 rfl rfl 1 (by decide) (hts _ k_X9_append_2) (fun _ h9 => h9) rfl dX9_append_5 ?_
  refine lv_isub hx hb dX9_append_8 ?_
  refine lv_icmp_le (tgt := 14) hx hb dX9_append_9 (by decide) (fun b3 => ?_) (fun b3 => ?_)
  · have h := (if_pos b3).symm.trans h
    refine lv_iload_n hx hb dX9_append_14 rfl (lv_at hl 2 rfl) ?_
    refine lv_iconst (v := 1) hx hb dX9_append_15 (by decide) ?_
    refine lv_isub hx hb dX9_append_16 ?_
    refine lv_istore (lv' := [(4, .int (x2 - (1 : Int32))), (0, .ref a_t), (1, .long x1), (3, .int x2)]) hx hb dX9_append_17 hl (by decide) rfl (fun ls hl => ?_)
    exact w_X9_append_19 X0 a_t a_t_bytes f_t_place f_t_start f_t_token f_t_value f_t_lawTold f_t_slipTold f_t_songTold  _ FU_ c_t_bytes f_t_length x1 (x2 - (1 : Int32)) h H locs hP hD hS ls (lv_sub hl [1, 2, 0] rfl)
  · have h := (if_neg b3).symm.trans h
    refine lv_iconst (v := 0) hx hb dX9_append_12 (by decide) ?_
    have h := sm_i h
    subst h
    exact W.zret (v := (0 : Int32)) hx hb hr rfl (fun t ht hW => ⟨⟨(0 : Int32), (), rfl, rfl, by rw [ht]; exact hP, hD⟩, hS.F ht⟩) hS.2.2 dX9_append_13
set_option maxHeartbeats 4000000 in
set_option maxRecDepth 100000 in
theorem c_X9_append (l : Launch) (G : va_G) (ca : Nat → ClassId) (ad av : Nat → Nat) (sz : Nat) (a_t : Nat) (a_t_bytes : Nat) (f_t_place : Int32) (f_t_start : Int32) (f_t_token : Int32) (f_t_value : Int32) (f_t_lawTold : Int32) (f_t_slipTold : Int32) (f_t_songTold : Int32)  (c_t_bytes : Nat → Int32) (f_t_length : Int32) (x1 : Int64) (x2 : Int32) (res : Int32 × (Nat → Int32) × Int32) (h : F_X9_append  c_t_bytes f_t_length x1 x2 = some res) : Met l yX9_append wsX9_append RM_X9_append (va_Pc [.ref a_t, .long x1, .int x2] (PW_ G ca ad av sz [(a_t, .inr (9, [.ref a_t_bytes, .int f_t_length, .int f_t_place, .int f_t_start, .int f_t_token, .int f_t_value, .int f_t_lawTold, .int f_t_slipTold, .int f_t_songTold])), (a_t_bytes, .inl (ca 2, 300, .inl c_t_bytes))])) (QI_ G (va_A [(a_t, .inr (9, [.ref a_t_bytes, .int f_t_length, .int f_t_place, .int f_t_start, .int f_t_token, .int f_t_value, .int f_t_lawTold, .int f_t_slipTold, .int f_t_songTold])), (a_t_bytes, .inl (ca 2, 300, .inl c_t_bytes))] sz) res.1 [(a_t, .inr (9, [.ref a_t_bytes, .int res.2.2, .int f_t_place, .int f_t_start, .int f_t_token, .int f_t_value, .int f_t_lawTold, .int f_t_slipTold, .int f_t_songTold])), (a_t_bytes, .inl (ca 2, 300, .inl res.2.1))]) 0 0 (va_A [(a_t, .inr (9, [.ref a_t_bytes, .int f_t_length, .int f_t_place, .int f_t_start, .int f_t_token, .int f_t_value, .int f_t_lawTold, .int f_t_slipTold, .int f_t_songTold])), (a_t_bytes, .inl (ca 2, 300, .inl c_t_bytes))] sz) := by
  refine Met.ofW (cc := cX9_append) (maxL := 5) (ret := (some .boolean)) (by decide) rfl ?_
  intro p e s m args below meth c s₁ B hml hv
  obtain ⟨X0, rfl, rfl, hP, hD⟩ := en_t B hml hv
  have hl := lv_entry ([.ref a_t, .long x1, .int x2]) (n := 5) (Nat.le_of_ble_eq_true rfl)
  rw [lg_entry_eq]
  generalize (lg_sl ([.ref a_t, .long x1, .int x2]) ++ List.replicate (5 - (lg_sl ([.ref a_t, .long x1, .int x2])).length) Slot.unset).toArray = ls at hl ⊢
  exact w_X9_append_0 X0 a_t a_t_bytes f_t_place f_t_start f_t_token f_t_value f_t_lawTold f_t_slipTold f_t_songTold  _ c_t_bytes f_t_length x1 x2 h s.heap [] hP hD va_S.rf ls hl

/-! X9_size -/
abbrev RM_X9_size : Room := { frames := 0, cells := 0, slots := 0, locals := 0 }
theorem k_X9_size_0 : Cond.fieldLink RX9 15 "DropDealers$Reader" "length" "I" ∈ wsX9_size := by decide +kernel
theorem i_X9_size_X9 : ∀ w ∈ u_ws RX9 TX9 9, w ∈ wsX9_size := by decide +kernel
def F_X9_size (f_t_length : Int32)  : Option (Int32) := some (f_t_length)
set_option maxHeartbeats 4000000 in
set_option maxRecDepth 100000 in
theorem w_X9_size_0 {p : Program} {l : Launch} {e : Env} {s : State} {m : MethodId} {args : Array Value} {below : List Frame} {meth : Method} {c : Code} {G : va_G} {ca : Nat → ClassId} {ad av : Nat → Nat} {A : Nat → Prop} (X0 : CX_ p s m args meth c cX9_size 1 (some .int) wsX9_size RX9 G ca ad av A) (a_t : Nat) (a_t_bytes : Nat) (f_t_place : Int32) (f_t_start : Int32) (f_t_token : Int32) (f_t_value : Int32) (f_t_lawTold : Int32) (f_t_slipTold : Int32) (f_t_songTold : Int32) (f_t_length : Int32) (res : Int32)  (h : F_X9_size f_t_length  = some res) : ∀ (H : Heap) (locs : List Loc), va_P G vwCl [(a_t, .inr (9, [.ref a_t_bytes, .int f_t_length, .int f_t_place, .int f_t_start, .int f_t_token, .int f_t_value, .int f_t_lawTold, .int f_t_slipTold, .int f_t_songTold]))] H → va_D A [(a_t, .inr (9, [.ref a_t_bytes, .int f_t_length, .int f_t_place, .int f_t_start, .int f_t_token, .int f_t_value, .int f_t_lawTold, .int f_t_slipTold, .int f_t_songTold]))] → va_S A s.heap H locs → ∀ (ls : Array Slot), lv_has ls 1 [(0, .ref a_t)] → W p l e RM_X9_size s m args below meth c H locs 0 0 (MQ below (QI_ G A res [(a_t, .inr (9, [.ref a_t_bytes, .int f_t_length, .int f_t_place, .int f_t_start, .int f_t_token, .int f_t_value, .int f_t_lawTold, .int f_t_slipTold, .int f_t_songTold]))]) args s 0 0 A) (F0 m 0 ls []) := by
  obtain ⟨hx, hb, hr, hml, hown, hts, hlocks, hK, hA, hE⟩ := id X0
  intro H locs hP hD hS ls hl
  unfold F_X9_size at h
  refine lv_aload_n hx hb dX9_size_0 rfl (lv_at hl 0 rfl) ?_
  refine va_get (D := G) (ci := 9) (v := .int f_t_length) (C := RX9) (T := TX9) (N := 9) hx hb hts i_X9_size_X9 hown hK hP 0 rfl rfl 1 (by decide) (hts _ k_X9_size_0) (fun _ h9 => h9) rfl dX9_size_1 ?_
  have h := sm_i h
  subst h
  exact W.iret (v := f_t_length) hx hb hr (fun t ht hW => ⟨⟨f_t_length, (), rfl, rfl, by rw [ht]; exact hP, hD⟩, hS.F ht⟩) hS.2.2 dX9_size_4
set_option maxHeartbeats 4000000 in
set_option maxRecDepth 100000 in
theorem c_X9_size (l : Launch) (G : va_G) (ca : Nat → ClassId) (ad av : Nat → Nat) (sz : Nat) (a_t : Nat) (a_t_bytes : Nat) (f_t_place : Int32) (f_t_start : Int32) (f_t_token : Int32) (f_t_value : Int32) (f_t_lawTold : Int32) (f_t_slipTold : Int32) (f_t_songTold : Int32) (f_t_length : Int32)  (res : Int32) (h : F_X9_size f_t_length  = some res) : Met l yX9_size wsX9_size RM_X9_size (va_Pc [.ref a_t] (PW_ G ca ad av sz [(a_t, .inr (9, [.ref a_t_bytes, .int f_t_length, .int f_t_place, .int f_t_start, .int f_t_token, .int f_t_value, .int f_t_lawTold, .int f_t_slipTold, .int f_t_songTold]))])) (QI_ G (va_A [(a_t, .inr (9, [.ref a_t_bytes, .int f_t_length, .int f_t_place, .int f_t_start, .int f_t_token, .int f_t_value, .int f_t_lawTold, .int f_t_slipTold, .int f_t_songTold]))] sz) res [(a_t, .inr (9, [.ref a_t_bytes, .int f_t_length, .int f_t_place, .int f_t_start, .int f_t_token, .int f_t_value, .int f_t_lawTold, .int f_t_slipTold, .int f_t_songTold]))]) 0 0 (va_A [(a_t, .inr (9, [.ref a_t_bytes, .int f_t_length, .int f_t_place, .int f_t_start, .int f_t_token, .int f_t_value, .int f_t_lawTold, .int f_t_slipTold, .int f_t_songTold]))] sz) := by
  refine Met.ofW (cc := cX9_size) (maxL := 1) (ret := (some .int)) (by decide) rfl ?_
  intro p e s m args below meth c s₁ B hml hv
  obtain ⟨X0, rfl, rfl, hP, hD⟩ := en_t B hml hv
  have hl := lv_entry ([.ref a_t]) (n := 1) (Nat.le_of_ble_eq_true rfl)
  rw [lg_entry_eq]
  generalize (lg_sl ([.ref a_t]) ++ List.replicate (1 - (lg_sl ([.ref a_t])).length) Slot.unset).toArray = ls at hl ⊢
  exact w_X9_size_0 X0 a_t a_t_bytes f_t_place f_t_start f_t_token f_t_value f_t_lawTold f_t_slipTold f_t_songTold f_t_length _  h s.heap [] hP hD va_S.rf ls hl

/-! X9_empty -/
abbrev RM_X9_empty : Room := { frames := 0, cells := 0, slots := 0, locals := 0 }
theorem k_X9_empty_0 : Cond.fieldLink RX9 15 "DropDealers$Reader" "length" "I" ∈ wsX9_empty := by decide +kernel
theorem i_X9_empty_X9 : ∀ w ∈ u_ws RX9 TX9 9, w ∈ wsX9_empty := by decide +kernel
def F_X9_empty  (f_t_length : Int32) : Option (Int32) := some ((0 : Int32))
set_option maxHeartbeats 4000000 in
set_option maxRecDepth 100000 in
theorem w_X9_empty_0 {p : Program} {l : Launch} {e : Env} {s : State} {m : MethodId} {args : Array Value} {below : List Frame} {meth : Method} {c : Code} {G : va_G} {ca : Nat → ClassId} {ad av : Nat → Nat} {A : Nat → Prop} (X0 : CX_ p s m args meth c cX9_empty 1 none wsX9_empty RX9 G ca ad av A) (a_t : Nat) (a_t_bytes : Nat) (f_t_place : Int32) (f_t_start : Int32) (f_t_token : Int32) (f_t_value : Int32) (f_t_lawTold : Int32) (f_t_slipTold : Int32) (f_t_songTold : Int32)  (res : Int32) (f_t_length : Int32) (h : F_X9_empty  f_t_length = some res) : ∀ (H : Heap) (locs : List Loc), va_P G vwCl [(a_t, .inr (9, [.ref a_t_bytes, .int f_t_length, .int f_t_place, .int f_t_start, .int f_t_token, .int f_t_value, .int f_t_lawTold, .int f_t_slipTold, .int f_t_songTold]))] H → va_D A [(a_t, .inr (9, [.ref a_t_bytes, .int f_t_length, .int f_t_place, .int f_t_start, .int f_t_token, .int f_t_value, .int f_t_lawTold, .int f_t_slipTold, .int f_t_songTold]))] → va_S A s.heap H locs → ∀ (ls : Array Slot), lv_has ls 1 [(0, .ref a_t)] → W p l e RM_X9_empty s m args below meth c H locs 0 0 (MQ below (QV_ G A [(a_t, .inr (9, [.ref a_t_bytes, .int res, .int f_t_place, .int f_t_start, .int f_t_token, .int f_t_value, .int f_t_lawTold, .int f_t_slipTold, .int f_t_songTold]))]) args s 0 0 A) (F0 m 0 ls []) := by
  obtain ⟨hx, hb, hr, hml, hown, hts, hlocks, hK, hA, hE⟩ := id X0
  intro H locs hP hD hS ls hl
  unfold F_X9_empty at h
  refine lv_aload_n hx hb dX9_empty_0 rfl (lv_at hl 0 rfl) ?_
  refine lv_iconst (v := 0) hx hb dX9_empty_1 (by decide) ?_
  refine va_put (D := G) (ci := 9) (v := .int (0 : Int32)) (ty := .int) (C := RX9) (T := TX9) (N := 9) hx hb hts i_X9_empty_X9 tyX9 tyX9_ok nmX9 hown hK hP hD hS 0 rfl rfl 1 (by decide) (hts _ k_X9_empty_0) (fun _ h9 => h9) rfl (by decide +kernel) rfl rfl (Nat.le_of_ble_eq_true rfl) dX9_empty_2 (fun H locs hP hD hS => ?_)
  have hP : va_P G vwCl [(a_t, .inr (9, [.ref a_t_bytes, .int (0 : Int32), .int f_t_place, .int f_t_start, .int f_t_token, .int f_t_value, .int f_t_lawTold, .int f_t_slipTold, .int f_t_songTold]))] H := hP
  have hD : va_D A [(a_t, .inr (9, [.ref a_t_bytes, .int (0 : Int32), .int f_t_place, .int f_t_start, .int f_t_token, .int f_t_value, .int f_t_lawTold, .int f_t_slipTold, .int f_t_songTold]))] := hD
  have h := sm_i h
  subst h
  exact W.vret hx hb hr (fun t ht hW => ⟨⟨(), rfl, trivial, by rw [ht]; exact hP, hD⟩, hS.F ht⟩) hS.2.2 dX9_empty_5
set_option maxHeartbeats 4000000 in
set_option maxRecDepth 100000 in
theorem c_X9_empty (l : Launch) (G : va_G) (ca : Nat → ClassId) (ad av : Nat → Nat) (sz : Nat) (a_t : Nat) (a_t_bytes : Nat) (f_t_place : Int32) (f_t_start : Int32) (f_t_token : Int32) (f_t_value : Int32) (f_t_lawTold : Int32) (f_t_slipTold : Int32) (f_t_songTold : Int32)  (f_t_length : Int32) (res : Int32) (h : F_X9_empty  f_t_length = some res) : Met l yX9_empty wsX9_empty RM_X9_empty (va_Pc [.ref a_t] (PW_ G ca ad av sz [(a_t, .inr (9, [.ref a_t_bytes, .int f_t_length, .int f_t_place, .int f_t_start, .int f_t_token, .int f_t_value, .int f_t_lawTold, .int f_t_slipTold, .int f_t_songTold]))])) (QV_ G (va_A [(a_t, .inr (9, [.ref a_t_bytes, .int f_t_length, .int f_t_place, .int f_t_start, .int f_t_token, .int f_t_value, .int f_t_lawTold, .int f_t_slipTold, .int f_t_songTold]))] sz) [(a_t, .inr (9, [.ref a_t_bytes, .int res, .int f_t_place, .int f_t_start, .int f_t_token, .int f_t_value, .int f_t_lawTold, .int f_t_slipTold, .int f_t_songTold]))]) 0 0 (va_A [(a_t, .inr (9, [.ref a_t_bytes, .int f_t_length, .int f_t_place, .int f_t_start, .int f_t_token, .int f_t_value, .int f_t_lawTold, .int f_t_slipTold, .int f_t_songTold]))] sz) := by
  refine Met.ofW (cc := cX9_empty) (maxL := 1) (ret := none) (by decide) rfl ?_
  intro p e s m args below meth c s₁ B hml hv
  obtain ⟨X0, rfl, rfl, hP, hD⟩ := en_t B hml hv
  have hl := lv_entry ([.ref a_t]) (n := 1) (Nat.le_of_ble_eq_true rfl)
  rw [lg_entry_eq]
  generalize (lg_sl ([.ref a_t]) ++ List.replicate (1 - (lg_sl ([.ref a_t])).length) Slot.unset).toArray = ls at hl ⊢
  exact w_X9_empty_0 X0 a_t a_t_bytes f_t_place f_t_start f_t_token f_t_value f_t_lawTold f_t_slipTold f_t_songTold  _ f_t_length h s.heap [] hP hD va_S.rf ls hl

/-! X9_isLetter -/
abbrev RM_X9_isLetter : Room := { frames := 0, cells := 0, slots := 0, locals := 0 }
theorem k_X9_isLetter_0 : Cond.fieldLink RX9 15 "DropDealers$Reader" "length" "I" ∈ wsX9_isLetter := by decide +kernel
theorem i_X9_isLetter_X9 : ∀ w ∈ u_ws RX9 TX9 9, w ∈ wsX9_isLetter := by decide +kernel
theorem k_X9_isLetter_2 : Cond.fieldLink RX9 9 "DropDealers$Reader" "bytes" "[B" ∈ wsX9_isLetter := by decide +kernel
def F_X9_isLetter (c_t_bytes : Nat → Int32) (f_t_length : Int32) (x1 : Int32) : Option (Int32) := if x1 < 0 then (some ((0 : Int32))) else (if f_t_length ≤ x1 then (some ((0 : Int32))) else (if ok_I x1 300 = true then if (c_t_bytes x1.toNatClampNeg) < (97 : Int32) then (some ((0 : Int32))) else (if (122 : Int32) < (c_t_bytes x1.toNatClampNeg) then (some ((0 : Int32))) else (some ((1 : Int32)))) else none))
set_option maxHeartbeats 4000000 in
set_option maxRecDepth 100000 in
theorem w_X9_isLetter_0 {p : Program} {l : Launch} {e : Env} {s : State} {m : MethodId} {args : Array Value} {below : List Frame} {meth : Method} {c : Code} {G : va_G} {ca : Nat → ClassId} {ad av : Nat → Nat} {A : Nat → Prop} (X0 : CX_ p s m args meth c cX9_isLetter 2 (some .boolean) wsX9_isLetter RX9 G ca ad av A) (a_t : Nat) (a_t_bytes : Nat) (f_t_place : Int32) (f_t_start : Int32) (f_t_token : Int32) (f_t_value : Int32) (f_t_lawTold : Int32) (f_t_slipTold : Int32) (f_t_songTold : Int32) (c_t_bytes : Nat → Int32) (f_t_length : Int32) (res : Int32) (x1 : Int32) (h : F_X9_isLetter c_t_bytes f_t_length x1 = some res) : ∀ (H : Heap) (locs : List Loc), va_P G vwCl [(a_t, .inr (9, [.ref a_t_bytes, .int f_t_length, .int f_t_place, .int f_t_start, .int f_t_token, .int f_t_value, .int f_t_lawTold, .int f_t_slipTold, .int f_t_songTold])), (a_t_bytes, .inl (ca 2, 300, .inl c_t_bytes))] H → va_D A [(a_t, .inr (9, [.ref a_t_bytes, .int f_t_length, .int f_t_place, .int f_t_start, .int f_t_token, .int f_t_value, .int f_t_lawTold, .int f_t_slipTold, .int f_t_songTold])), (a_t_bytes, .inl (ca 2, 300, .inl c_t_bytes))] → va_S A s.heap H locs → ∀ (ls : Array Slot), lv_has ls 2 [(0, .ref a_t), (1, .int x1)] → W p l e RM_X9_isLetter s m args below meth c H locs 0 0 (MQ below (QI_ G A res [(a_t, .inr (9, [.ref a_t_bytes, .int f_t_length, .int f_t_place, .int f_t_start, .int f_t_token, .int f_t_value, .int f_t_lawTold, .int f_t_slipTold, .int f_t_songTold])), (a_t_bytes, .inl (ca 2, 300, .inl c_t_bytes))]) args s 0 0 A) (F0 m 0 ls []) := by
  obtain ⟨hx, hb, hr, hml, hown, hts, hlocks, hK, hA, hE⟩ := id X0
  intro H locs hP hD hS ls hl
  unfold F_X9_isLetter at h
  refine lv_iload_n hx hb dX9_isLetter_0 rfl (lv_at hl 1 rfl) ?_
  refine lv_if_lt (tgt := 38) hx hb dX9_isLetter_1 (by decide) (fun b1 => ?_) (fun b1 => ?_)
  · have h := (if_pos b1).symm.trans h
    refine lv_iconst (v := 0) hx hb dX9_isLetter_38 (by decide) ?_
    have h := sm_i h
    subst h
    exact W.zret (v := (0 : Int32)) hx hb hr rfl (fun t ht hW => ⟨⟨(0 : Int32), (), rfl, rfl, by rw [ht]; exact hP, hD⟩, hS.F ht⟩) hS.2.2 dX9_isLetter_39
  · have h := (if_neg b1).symm.trans h
    refine lv_iload_n hx hb dX9_isLetter_4 rfl (lv_at hl 1 rfl) ?_
    refine lv_aload_n hx hb dX9_isLetter_5 rfl (lv_at hl 0 rfl) ?_
    refine va_get (D := G) (ci := 9) (v := .int f_t_length) (C := RX9) (T := TX9) (N := 9) hx hb hts i_X9_isLetter_X9 hown hK hP 0 rfl rfl 1 (by decide) (hts _ k_X9_isLetter_0) (fun _ h9 => h9) rfl dX9_isLetter_6 ?_
    refine lv_icmp_ge (tgt := 38) hx hb dX9_isLetter_9 (by decide) (fun b2 => ?_) (fun b2 => ?_)
    · have h := (if_pos b2).symm.trans h
      refine lv_iconst (v := 0) hx hb dX9_isLetter_38 (by decide) ?_
      have h := sm_i h
      subst h
      exact W.zret (v := (0 : Int32)) hx hb hr rfl (fun t ht hW => ⟨⟨(0 : Int32), (), rfl, rfl, by rw [ht]; exact hP, hD⟩, hS.F ht⟩) hS.2.2 dX9_isLetter_39
    · have h := (if_neg b2).symm.trans h
      refine lv_aload_n hx hb dX9_isLetter_12 rfl (lv_at hl 0 rfl) ?_
      refine va_get (D := G) (ci := 9) (v := .ref a_t_bytes) (C := RX9) (T := TX9) (N := 9) hx hb hts i_X9_isLetter_X9 hown hK hP 0 rfl rfl 0 (by decide) (hts _ k_X9_isLetter_2) (fun _ h9 => h9) rfl dX9_isLetter_13 ?_
      refine lv_iload_n hx hb dX9_isLetter_16 rfl (lv_at hl 1 rfl) ?_
      obtain ⟨g3, h⟩ := gd_t h
      refine va_bald hx hb hK hP 1 2 rfl rfl (ok_in g3) dX9_isLetter_17 ?_
      refine lv_bipush (v := 97) hx hb dX9_isLetter_18 (by decide) ?_
      refine lv_icmp_lt (tgt := 38) hx hb dX9_isLetter_20 (by decide) (fun b4 => ?_) (fun b4 => ?_)
      · have h := (if_pos b4).symm.trans h
        refine lv_iconst (v := 0) hx hb dX9_isLetter_38 (by decide) ?_
        have h := sm_i h
        subst h
        exact W.zret (v := (0 : Int32)) hx hb hr rfl (fun t ht hW => ⟨⟨(0 : Int32), (), rfl, rfl, by rw [ht]; exact hP, hD⟩, hS.F ht⟩) hS.2.2 dX9_isLetter_39
      · have h := (if_neg b4).symm.trans h
        refine lv_aload_n hx hb dX9_isLetter_23 rfl (lv_at hl 0 rfl) ?_
        refine va_get (D := G) (ci := 9) (v := .ref a_t_bytes) (C := RX9) (T := TX9) (N := 9) hx hb hts i_X9_isLetter_X9 hown hK hP 0 rfl rfl 0 (by decide) (hts _ k_X9_isLetter_2) (fun _ h9 => h9) rfl dX9_isLetter_24 ?_
        refine lv_iload_n hx hb dX9_isLetter_27 rfl (lv_at hl 1 rfl) ?_
        refine va_bald hx hb hK hP 1 2 rfl rfl (ok_in g3) dX9_isLetter_28 ?_
        refine lv_bipush (v := 122) hx hb dX9_isLetter_29 (by decide) ?_
        refine lv_icmp_gt (tgt := 38) hx hb dX9_isLetter_31 (by decide) (fun b5 => ?_) (fun b5 => ?_)
        · have h := (if_pos b5).symm.trans h
          refine lv_iconst (v := 0) hx hb dX9_isLetter_38 (by decide) ?_
          have h := sm_i h
          subst h
          exact W.zret (v := (0 : Int32)) hx hb hr rfl (fun t ht hW => ⟨⟨(0 : Int32), (), rfl, rfl, by rw [ht]; exact hP, hD⟩, hS.F ht⟩) hS.2.2 dX9_isLetter_39
        · have h := (if_neg b5).symm.trans h
          refine lv_iconst (v := 1) hx hb dX9_isLetter_34 (by decide) ?_
          refine lv_goto (tgt := 39) hx hb dX9_isLetter_35 (by decide) ?_
          have h := sm_i h
          subst h
          exact W.zret (v := (1 : Int32)) hx hb hr rfl (fun t ht hW => ⟨⟨(1 : Int32), (), rfl, rfl, by rw [ht]; exact hP, hD⟩, hS.F ht⟩) hS.2.2 dX9_isLetter_39
set_option maxHeartbeats 4000000 in
set_option maxRecDepth 100000 in
theorem c_X9_isLetter (l : Launch) (G : va_G) (ca : Nat → ClassId) (ad av : Nat → Nat) (sz : Nat) (a_t : Nat) (a_t_bytes : Nat) (f_t_place : Int32) (f_t_start : Int32) (f_t_token : Int32) (f_t_value : Int32) (f_t_lawTold : Int32) (f_t_slipTold : Int32) (f_t_songTold : Int32) (c_t_bytes : Nat → Int32) (f_t_length : Int32) (x1 : Int32) (res : Int32) (h : F_X9_isLetter c_t_bytes f_t_length x1 = some res) : Met l yX9_isLetter wsX9_isLetter RM_X9_isLetter (va_Pc [.ref a_t, .int x1] (PW_ G ca ad av sz [(a_t, .inr (9, [.ref a_t_bytes, .int f_t_length, .int f_t_place, .int f_t_start, .int f_t_token, .int f_t_value, .int f_t_lawTold, .int f_t_slipTold, .int f_t_songTold])), (a_t_bytes, .inl (ca 2, 300, .inl c_t_bytes))])) (QI_ G (va_A [(a_t, .inr (9, [.ref a_t_bytes, .int f_t_length, .int f_t_place, .int f_t_start, .int f_t_token, .int f_t_value, .int f_t_lawTold, .int f_t_slipTold, .int f_t_songTold])), (a_t_bytes, .inl (ca 2, 300, .inl c_t_bytes))] sz) res [(a_t, .inr (9, [.ref a_t_bytes, .int f_t_length, .int f_t_place, .int f_t_start, .int f_t_token, .int f_t_value, .int f_t_lawTold, .int f_t_slipTold, .int f_t_songTold])), (a_t_bytes, .inl (ca 2, 300, .inl c_t_bytes))]) 0 0 (va_A [(a_t, .inr (9, [.ref a_t_bytes, .int f_t_length, .int f_t_place, .int f_t_start, .int f_t_token, .int f_t_value, .int f_t_lawTold, .int f_t_slipTold, .int f_t_songTold])), (a_t_bytes, .inl (ca 2, 300, .inl c_t_bytes))] sz) := by
  refine Met.ofW (cc := cX9_isLetter) (maxL := 2) (ret := (some .boolean)) (by decide) rfl ?_
  intro p e s m args below meth c s₁ B hml hv
  obtain ⟨X0, rfl, rfl, hP, hD⟩ := en_t B hml hv
  have hl := lv_entry ([.ref a_t, .int x1]) (n := 2) (Nat.le_of_ble_eq_true rfl)
  rw [lg_entry_eq]
  generalize (lg_sl ([.ref a_t, .int x1]) ++ List.replicate (2 - (lg_sl ([.ref a_t, .int x1])).length) Slot.unset).toArray = ls at hl ⊢
  exact w_X9_isLetter_0 X0 a_t a_t_bytes f_t_place f_t_start f_t_token f_t_value f_t_lawTold f_t_slipTold f_t_songTold c_t_bytes f_t_length _ x1 h s.heap [] hP hD va_S.rf ls hl

/-! X9_wordAtPlace -/
abbrev RM_X9_wordAtPlace : Room := { frames := 1, cells := 0, slots := 0, locals := 21 }
theorem k_X9_wordAtPlace_0 : Cond.fieldLink RX9 34 "DropDealers$Reader" "place" "I" ∈ wsX9_wordAtPlace := by decide +kernel
theorem i_X9_wordAtPlace_X9 : ∀ w ∈ u_ws RX9 TX9 9, w ∈ wsX9_wordAtPlace := by decide +kernel
theorem k_X9_wordAtPlace_2 : Cond.fieldLink RX9 15 "DropDealers$Reader" "length" "I" ∈ wsX9_wordAtPlace := by decide +kernel
def F_X9_wordAtPlace_0 (c_t_bytes : Nat → Int32) (f_t_length : Int32) : Nat → Int32 → Option (Int32 × Int32)
  | 0, _ => none
  | n + 1, f_t_place => if f_t_length ≤ f_t_place then (some ((1 : Int32), f_t_place)) else ((F_X9_isLetter c_t_bytes f_t_length f_t_place).bind (fun u2 => if u2 = 0 then (some ((1 : Int32), f_t_place)) else (F_X9_wordAtPlace_0 c_t_bytes f_t_length n (f_t_place + (1 : Int32)))))
set_option maxHeartbeats 4000000 in
set_option maxRecDepth 100000 in
theorem w_X9_wordAtPlace_0 {p : Program} {l : Launch} {e : Env} {s : State} {m : MethodId} {args : Array Value} {below : List Frame} {meth : Method} {c : Code} {G : va_G} {ca : Nat → ClassId} {ad av : Nat → Nat} {A : Nat → Prop} (X0 : CX_ p s m args meth c cX9_wordAtPlace 1 (some .int) wsX9_wordAtPlace RX9 G ca ad av A) (a_t : Nat) (a_t_bytes : Nat) (f_t_start : Int32) (f_t_token : Int32) (f_t_value : Int32) (f_t_lawTold : Int32) (f_t_slipTold : Int32) (f_t_songTold : Int32) (c_t_bytes : Nat → Int32) (f_t_length : Int32) (res : Int32 × Int32) : ∀ (n : Nat) (f_t_place : Int32), F_X9_wordAtPlace_0 c_t_bytes f_t_length n f_t_place = some res → ∀ (H : Heap) (locs : List Loc), va_P G vwCl [(a_t, .inr (9, [.ref a_t_bytes, .int f_t_length, .int f_t_place, .int f_t_start, .int f_t_token, .int f_t_value, .int f_t_lawTold, .int f_t_slipTold, .int f_t_songTold])), (a_t_bytes, .inl (ca 2, 300, .inl c_t_bytes))] H → va_D A [(a_t, .inr (9, [.ref a_t_bytes, .int f_t_length, .int f_t_place, .int f_t_start, .int f_t_token, .int f_t_value, .int f_t_lawTold, .int f_t_slipTold, .int f_t_songTold])), (a_t_bytes, .inl (ca 2, 300, .inl c_t_bytes))] → va_S A s.heap H locs → ∀ (ls : Array Slot), lv_has ls 1 [(0, .ref a_t)] → W p l e RM_X9_wordAtPlace s m args below meth c H locs 0 0 (MQ below (QI_ G A res.1 [(a_t, .inr (9, [.ref a_t_bytes, .int f_t_length, .int res.2, .int f_t_start, .int f_t_token, .int f_t_value, .int f_t_lawTold, .int f_t_slipTold, .int f_t_songTold])), (a_t_bytes, .inl (ca 2, 300, .inl c_t_bytes))]) args s 0 0 A) (F0 m 0 ls []) := by
  obtain ⟨hx, hb, hr, hml, hown, hts, hlocks, hK, hA, hE⟩ := id X0
  intro n
  induction n with
  | zero => intro f_t_place h; cases h
  | succ n ih =>
    intro f_t_place h H locs hP hD hS ls hl
    rw [F_X9_wordAtPlace_0] at h
    refine lv_aload_n hx hb dX9_wordAtPlace_0 rfl (lv_at hl 0 rfl) ?_
    refine va_get (D := G) (ci := 9) (v := .int f_t_place) (C := RX9) (T := TX9) (N := 9) hx hb hts i_X9_wordAtPlace_X9 hown hK hP 0 rfl rfl 2 (by decide) (hts _ k_X9_wordAtPlace_0) (fun _ h9 => h9) rfl dX9_wordAtPlace_1 ?_
    refine lv_aload_n hx hb dX9_wordAtPlace_4 rfl (lv_at hl 0 rfl) ?_
    refine va_get (D := G) (ci := 9) (v := .int f_t_length) (C := RX9) (T := TX9) (N := 9) hx hb hts i_X9_wordAtPlace_X9 hown hK hP 0 rfl rfl 1 (by decide) (hts _ k_X9_wordAtPlace_2) (fun _ h9 => h9) rfl dX9_wordAtPlace_5 ?_
    refine lv_icmp_ge (tgt := 35) hx hb dX9_wordAtPlace_8 (by decide) (fun b1 => ?_) (fun b1 => ?_)
    · have h := (if_pos b1).symm.trans h
      refine lv_iconst (v := 1) hx hb dX9_wordAtPlace_35 (by decide) ?_
      have h := sm_i h
      subst h
      exact W.iret (v := (1 : Int32)) hx hb hr (fun t ht hW => ⟨⟨(1 : Int32), (), rfl, rfl, by rw [ht]; exact hP, hD⟩, hS.F ht⟩) hS.2.2 dX9_wordAtPlace_36
    · have h := (if_neg b1).symm.trans h
      refine lv_aload_n hx hb dX9_wordAtPlace_11 rfl (lv_at hl 0 rfl) ?_
      refine lv_aload_n hx hb dX9_wordAtPlace_12 rfl (lv_at hl 0 rfl) ?_
      refine va_get (D := G) (ci := 9) (v := .int f_t_place) (C := RX9) (T := TX9) (N := 9) hx hb hts i_X9_wordAtPlace_X9 hown hK hP 0 rfl rfl 2 (by decide) (hts _ k_X9_wordAtPlace_0) (fun _ h9 => h9) rfl dX9_wordAtPlace_13 ?_
      obtain ⟨u2, hc3, h⟩ := bd_o h
      refine jn_i (wr := []) (ws' := [(a_t, .inr (9, [.ref a_t_bytes, .int f_t_length, .int f_t_place, .int f_t_start, .int f_t_token, .int f_t_value, .int f_t_lawTold, .int f_t_slipTold, .int f_t_songTold])), (a_t_bytes, .inl (ca 2, 300, .inl c_t_bytes))]) (va_runV (As := [.int f_t_place]) (rest := []) ⟨hx, hb, hml, hown, hts⟩ (c_X9_isLetter l G ca ad av H.size a_t a_t_bytes f_t_place f_t_start f_t_token f_t_value f_t_lawTold f_t_slipTold f_t_songTold c_t_bytes f_t_length f_t_place u2 hc3) (cwV 1 hts gX9_wordAtPlace_X9_isLetter rfl rfl rfl (by decide +kernel) ⟨Nat.le_of_ble_eq_true rfl, Nat.le_of_ble_eq_true rfl⟩) (pre_v (q0 := 0) (ci := 9) hK hE hA hP hD hS [0, 1] rfl (by decide) rfl rfl) rfl rfl hl.1 rfl (lv_room (Nat.le_of_ble_eq_true rfl)) dX9_wordAtPlace_16 ⟨Nat.le_of_ble_eq_true rfl, Nat.le_of_ble_eq_true rfl⟩) hA hP hD hS [0, 1] [] [0, 1] rfl rfl (by decide) (by decide) (by decide) rfl (fun H locs hP hD hS => ?_)
      refine lv_if_eq (tgt := 35) hx hb dX9_wordAtPlace_19 (by decide) (fun b4 => ?_) (fun b4 => ?_)
      · have h := (if_pos b4).symm.trans h
        refine lv_iconst (v := 1) hx hb dX9_wordAtPlace_35 (by decide) ?_
        have h := sm_i h
        subst h
        exact W.iret (v := (1 : Int32)) hx hb hr (fun t ht hW => ⟨⟨(1 : Int32), (), rfl, rfl, by rw [ht]; exact hP, hD⟩, hS.F ht⟩) hS.2.2 dX9_wordAtPlace_36
      · have h := (if_neg b4).symm.trans h
        refine lv_aload_n hx hb dX9_wordAtPlace_22 rfl (lv_at hl 0 rfl) ?_
        refine lv_dup hx hb dX9_wordAtPlace_23 rfl ?_
        refine va_get (D := G) (ci := 9) (v := .int f_t_place) (C := RX9) (T := TX9) (N := 9) hx hb hts i_X9_wordAtPlace_X9 hown hK hP 0 rfl rfl 2 (by decide) (hts _ k_X9_wordAtPlace_0) (fun _ h9 => h9) rfl dX9_wordAtPlace_24 ?_
        refine lv_iconst (v := 1) hx hb dX9_wordAtPlace_27 (by decide) ?_
        refine lv_iadd hx hb dX9_wordAtPlace_28 ?_
        refine va_put (D := G) (ci := 9) (v := .int (f_t_place + (1 : Int32))) (ty := .int) (C := RX9) (T := TX9) (N := 9) hx hb hts i_X9_wordAtPlace_X9 tyX9 tyX9_ok nmX9 hown hK hP hD hS 0 rfl rfl 2 (by decide) (hts _ k_X9_wordAtPlace_0) (fun _ h9 => h9) rfl (by decide +kernel) rfl rfl (Nat.le_of_ble_eq_true rfl) dX9_wordAtPlace_29 (fun H locs hP hD hS => ?_)
        have hP : va_P G vwCl [(a_t, .inr (9, [.ref a_t_bytes, .int f_t_length, .int (f_t_place + (1 : Int32)), .int f_t_start, .int f_t_token, .int f_t_value, .int f_t_lawTold, .int f_t_slipTold, .int f_t_songTold])), (a_t_bytes, .inl (ca 2, 300, .inl c_t_bytes))] H := hP
        have hD : va_D A [(a_t, .inr (9, [.ref a_t_bytes, .int f_t_length, .int (f_t_place + (1 : Int32)), .int f_t_start, .int f_t_token, .int f_t_value, .int f_t_lawTold, .int f_t_slipTold, .int f_t_songTold])), (a_t_bytes, .inl (ca 2, 300, .inl c_t_bytes))] := hD
        refine lv_goto (tgt := 0) hx hb dX9_wordAtPlace_32 (by decide) ?_
        exact ih (f_t_place + (1 : Int32)) h H locs hP hD hS ls (lv_sub hl [0] rfl)
def F_X9_wordAtPlace (c_t_bytes : Nat → Int32) (f_t_length : Int32) (f_t_place : Int32) : Option (Int32 × Int32) := F_X9_wordAtPlace_0 c_t_bytes f_t_length FU_ f_t_place
set_option maxHeartbeats 4000000 in
set_option maxRecDepth 100000 in
theorem c_X9_wordAtPlace (l : Launch) (G : va_G) (ca : Nat → ClassId) (ad av : Nat → Nat) (sz : Nat) (a_t : Nat) (a_t_bytes : Nat) (f_t_start : Int32) (f_t_token : Int32) (f_t_value : Int32) (f_t_lawTold : Int32) (f_t_slipTold : Int32) (f_t_songTold : Int32) (c_t_bytes : Nat → Int32) (f_t_length : Int32) (f_t_place : Int32) (res : Int32 × Int32) (h : F_X9_wordAtPlace c_t_bytes f_t_length f_t_place = some res) : Met l yX9_wordAtPlace wsX9_wordAtPlace RM_X9_wordAtPlace (va_Pc [.ref a_t] (PW_ G ca ad av sz [(a_t, .inr (9, [.ref a_t_bytes, .int f_t_length, .int f_t_place, .int f_t_start, .int f_t_token, .int f_t_value, .int f_t_lawTold, .int f_t_slipTold, .int f_t_songTold])), (a_t_bytes, .inl (ca 2, 300, .inl c_t_bytes))])) (QI_ G (va_A [(a_t, .inr (9, [.ref a_t_bytes, .int f_t_length, .int f_t_place, .int f_t_start, .int f_t_token, .int f_t_value, .int f_t_lawTold, .int f_t_slipTold, .int f_t_songTold])), (a_t_bytes, .inl (ca 2, 300, .inl c_t_bytes))] sz) res.1 [(a_t, .inr (9, [.ref a_t_bytes, .int f_t_length, .int res.2, .int f_t_start, .int f_t_token, .int f_t_value, .int f_t_lawTold, .int f_t_slipTold, .int f_t_songTold])), (a_t_bytes, .inl (ca 2, 300, .inl c_t_bytes))]) 0 0 (va_A [(a_t, .inr (9, [.ref a_t_bytes, .int f_t_length, .int f_t_place, .int f_t_start, .int f_t_token, .int f_t_value, .int f_t_lawTold, .int f_t_slipTold, .int f_t_songTold])), (a_t_bytes, .inl (ca 2, 300, .inl c_t_bytes))] sz) := by
  refine Met.ofW (cc := cX9_wordAtPlace) (maxL := 1) (ret := (some .int)) (by decide) rfl ?_
  intro p e s m args below meth c s₁ B hml hv
  obtain ⟨X0, rfl, rfl, hP, hD⟩ := en_t B hml hv
  have hl := lv_entry ([.ref a_t]) (n := 1) (Nat.le_of_ble_eq_true rfl)
  rw [lg_entry_eq]
  generalize (lg_sl ([.ref a_t]) ++ List.replicate (1 - (lg_sl ([.ref a_t])).length) Slot.unset).toArray = ls at hl ⊢
  unfold F_X9_wordAtPlace at h
  exact w_X9_wordAtPlace_0 X0 a_t a_t_bytes f_t_start f_t_token f_t_value f_t_lawTold f_t_slipTold f_t_songTold c_t_bytes f_t_length _ FU_ f_t_place h s.heap [] hP hD va_S.rf ls (lv_sub hl [0] rfl)

/-! X9_isDigit -/
abbrev RM_X9_isDigit : Room := { frames := 0, cells := 0, slots := 0, locals := 0 }
theorem k_X9_isDigit_0 : Cond.fieldLink RX9 15 "DropDealers$Reader" "length" "I" ∈ wsX9_isDigit := by decide +kernel
theorem i_X9_isDigit_X9 : ∀ w ∈ u_ws RX9 TX9 9, w ∈ wsX9_isDigit := by decide +kernel
theorem k_X9_isDigit_2 : Cond.fieldLink RX9 9 "DropDealers$Reader" "bytes" "[B" ∈ wsX9_isDigit := by decide +kernel
def F_X9_isDigit (c_t_bytes : Nat → Int32) (f_t_length : Int32) (x1 : Int32) : Option (Int32) := if x1 < 0 then (some ((0 : Int32))) else (if f_t_length ≤ x1 then (some ((0 : Int32))) else (if ok_I x1 300 = true then if (c_t_bytes x1.toNatClampNeg) < (48 : Int32) then (some ((0 : Int32))) else (if (57 : Int32) < (c_t_bytes x1.toNatClampNeg) then (some ((0 : Int32))) else (some ((1 : Int32)))) else none))
set_option maxHeartbeats 4000000 in
set_option maxRecDepth 100000 in
theorem w_X9_isDigit_0 {p : Program} {l : Launch} {e : Env} {s : State} {m : MethodId} {args : Array Value} {below : List Frame} {meth : Method} {c : Code} {G : va_G} {ca : Nat → ClassId} {ad av : Nat → Nat} {A : Nat → Prop} (X0 : CX_ p s m args meth c cX9_isDigit 2 (some .boolean) wsX9_isDigit RX9 G ca ad av A) (a_t : Nat) (a_t_bytes : Nat) (f_t_place : Int32) (f_t_start : Int32) (f_t_token : Int32) (f_t_value : Int32) (f_t_lawTold : Int32) (f_t_slipTold : Int32) (f_t_songTold : Int32) (c_t_bytes : Nat → Int32) (f_t_length : Int32) (res : Int32) (x1 : Int32) (h : F_X9_isDigit c_t_bytes f_t_length x1 = some res) : ∀ (H : Heap) (locs : List Loc), va_P G vwCl [(a_t, .inr (9, [.ref a_t_bytes, .int f_t_length, .int f_t_place, .int f_t_start, .int f_t_token, .int f_t_value, .int f_t_lawTold, .int f_t_slipTold, .int f_t_songTold])), (a_t_bytes, .inl (ca 2, 300, .inl c_t_bytes))] H → va_D A [(a_t, .inr (9, [.ref a_t_bytes, .int f_t_length, .int f_t_place, .int f_t_start, .int f_t_token, .int f_t_value, .int f_t_lawTold, .int f_t_slipTold, .int f_t_songTold])), (a_t_bytes, .inl (ca 2, 300, .inl c_t_bytes))] → va_S A s.heap H locs → ∀ (ls : Array Slot), lv_has ls 2 [(0, .ref a_t), (1, .int x1)] → W p l e RM_X9_isDigit s m args below meth c H locs 0 0 (MQ below (QI_ G A res [(a_t, .inr (9, [.ref a_t_bytes, .int f_t_length, .int f_t_place, .int f_t_start, .int f_t_token, .int f_t_value, .int f_t_lawTold, .int f_t_slipTold, .int f_t_songTold])), (a_t_bytes, .inl (ca 2, 300, .inl c_t_bytes))]) args s 0 0 A) (F0 m 0 ls []) := by
  obtain ⟨hx, hb, hr, hml, hown, hts, hlocks, hK, hA, hE⟩ := id X0
  intro H locs hP hD hS ls hl
  unfold F_X9_isDigit at h
  refine lv_iload_n hx hb dX9_isDigit_0 rfl (lv_at hl 1 rfl) ?_
  refine lv_if_lt (tgt := 38) hx hb dX9_isDigit_1 (by decide) (fun b1 => ?_) (fun b1 => ?_)
  · have h := (if_pos b1).symm.trans h
    refine lv_iconst (v := 0) hx hb dX9_isDigit_38 (by decide) ?_
    have h := sm_i h
    subst h
    exact W.zret (v := (0 : Int32)) hx hb hr rfl (fun t ht hW => ⟨⟨(0 : Int32), (), rfl, rfl, by rw [ht]; exact hP, hD⟩, hS.F ht⟩) hS.2.2 dX9_isDigit_39
  · have h := (if_neg b1).symm.trans h
    refine lv_iload_n hx hb dX9_isDigit_4 rfl (lv_at hl 1 rfl) ?_
    refine lv_aload_n hx hb dX9_isDigit_5 rfl (lv_at hl 0 rfl) ?_
    refine va_get (D := G) (ci := 9) (v := .int f_t_length) (C := RX9) (T := TX9) (N := 9) hx hb hts i_X9_isDigit_X9 hown hK hP 0 rfl rfl 1 (by decide) (hts _ k_X9_isDigit_0) (fun _ h9 => h9) rfl dX9_isDigit_6 ?_
    refine lv_icmp_ge (tgt := 38) hx hb dX9_isDigit_9 (by decide) (fun b2 => ?_) (fun b2 => ?_)
    · have h := (if_pos b2).symm.trans h
      refine lv_iconst (v := 0) hx hb dX9_isDigit_38 (by decide) ?_
      have h := sm_i h
      subst h
      exact W.zret (v := (0 : Int32)) hx hb hr rfl (fun t ht hW => ⟨⟨(0 : Int32), (), rfl, rfl, by rw [ht]; exact hP, hD⟩, hS.F ht⟩) hS.2.2 dX9_isDigit_39
    · have h := (if_neg b2).symm.trans h
      refine lv_aload_n hx hb dX9_isDigit_12 rfl (lv_at hl 0 rfl) ?_
      refine va_get (D := G) (ci := 9) (v := .ref a_t_bytes) (C := RX9) (T := TX9) (N := 9) hx hb hts i_X9_isDigit_X9 hown hK hP 0 rfl rfl 0 (by decide) (hts _ k_X9_isDigit_2) (fun _ h9 => h9) rfl dX9_isDigit_13 ?_
      refine lv_iload_n hx hb dX9_isDigit_16 rfl (lv_at hl 1 rfl) ?_
      obtain ⟨g3, h⟩ := gd_t h
      refine va_bald hx hb hK hP 1 2 rfl rfl (ok_in g3) dX9_isDigit_17 ?_
      refine lv_bipush (v := 48) hx hb dX9_isDigit_18 (by decide) ?_
      refine lv_icmp_lt (tgt := 38) hx hb dX9_isDigit_20 (by decide) (fun b4 => ?_) (fun b4 => ?_)
      · have h := (if_pos b4).symm.trans h
        refine lv_iconst (v := 0) hx hb dX9_isDigit_38 (by decide) ?_
        have h := sm_i h
        subst h
        exact W.zret (v := (0 : Int32)) hx hb hr rfl (fun t ht hW => ⟨⟨(0 : Int32), (), rfl, rfl, by rw [ht]; exact hP, hD⟩, hS.F ht⟩) hS.2.2 dX9_isDigit_39
      · have h := (if_neg b4).symm.trans h
        refine lv_aload_n hx hb dX9_isDigit_23 rfl (lv_at hl 0 rfl) ?_
        refine va_get (D := G) (ci := 9) (v := .ref a_t_bytes) (C := RX9) (T := TX9) (N := 9) hx hb hts i_X9_isDigit_X9 hown hK hP 0 rfl rfl 0 (by decide) (hts _ k_X9_isDigit_2) (fun _ h9 => h9) rfl dX9_isDigit_24 ?_
        refine lv_iload_n hx hb dX9_isDigit_27 rfl (lv_at hl 1 rfl) ?_
        refine va_bald hx hb hK hP 1 2 rfl rfl (ok_in g3) dX9_isDigit_28 ?_
        refine lv_bipush (v := 57) hx hb dX9_isDigit_29 (by decide) ?_
        refine lv_icmp_gt (tgt := 38) hx hb dX9_isDigit_31 (by decide) (fun b5 => ?_) (fun b5 => ?_)
        · have h := (if_pos b5).symm.trans h
          refine lv_iconst (v := 0) hx hb dX9_isDigit_38 (by decide) ?_
          have h := sm_i h
          subst h
          exact W.zret (v := (0 : Int32)) hx hb hr rfl (fun t ht hW => ⟨⟨(0 : Int32), (), rfl, rfl, by rw [ht]; exact hP, hD⟩, hS.F ht⟩) hS.2.2 dX9_isDigit_39
        · have h := (if_neg b5).symm.trans h
          refine lv_iconst (v := 1) hx hb dX9_isDigit_34 (by decide) ?_
          refine lv_goto (tgt := 39) hx hb dX9_isDigit_35 (by decide) ?_
          have h := sm_i h
          subst h
          exact W.zret (v := (1 : Int32)) hx hb hr rfl (fun t ht hW => ⟨⟨(1 : Int32), (), rfl, rfl, by rw [ht]; exact hP, hD⟩, hS.F ht⟩) hS.2.2 dX9_isDigit_39
set_option maxHeartbeats 4000000 in
set_option maxRecDepth 100000 in
theorem c_X9_isDigit (l : Launch) (G : va_G) (ca : Nat → ClassId) (ad av : Nat → Nat) (sz : Nat) (a_t : Nat) (a_t_bytes : Nat) (f_t_place : Int32) (f_t_start : Int32) (f_t_token : Int32) (f_t_value : Int32) (f_t_lawTold : Int32) (f_t_slipTold : Int32) (f_t_songTold : Int32) (c_t_bytes : Nat → Int32) (f_t_length : Int32) (x1 : Int32) (res : Int32) (h : F_X9_isDigit c_t_bytes f_t_length x1 = some res) : Met l yX9_isDigit wsX9_isDigit RM_X9_isDigit (va_Pc [.ref a_t, .int x1] (PW_ G ca ad av sz [(a_t, .inr (9, [.ref a_t_bytes, .int f_t_length, .int f_t_place, .int f_t_start, .int f_t_token, .int f_t_value, .int f_t_lawTold, .int f_t_slipTold, .int f_t_songTold])), (a_t_bytes, .inl (ca 2, 300, .inl c_t_bytes))])) (QI_ G (va_A [(a_t, .inr (9, [.ref a_t_bytes, .int f_t_length, .int f_t_place, .int f_t_start, .int f_t_token, .int f_t_value, .int f_t_lawTold, .int f_t_slipTold, .int f_t_songTold])), (a_t_bytes, .inl (ca 2, 300, .inl c_t_bytes))] sz) res [(a_t, .inr (9, [.ref a_t_bytes, .int f_t_length, .int f_t_place, .int f_t_start, .int f_t_token, .int f_t_value, .int f_t_lawTold, .int f_t_slipTold, .int f_t_songTold])), (a_t_bytes, .inl (ca 2, 300, .inl c_t_bytes))]) 0 0 (va_A [(a_t, .inr (9, [.ref a_t_bytes, .int f_t_length, .int f_t_place, .int f_t_start, .int f_t_token, .int f_t_value, .int f_t_lawTold, .int f_t_slipTold, .int f_t_songTold])), (a_t_bytes, .inl (ca 2, 300, .inl c_t_bytes))] sz) := by
  refine Met.ofW (cc := cX9_isDigit) (maxL := 2) (ret := (some .boolean)) (by decide) rfl ?_
  intro p e s m args below meth c s₁ B hml hv
  obtain ⟨X0, rfl, rfl, hP, hD⟩ := en_t B hml hv
  have hl := lv_entry ([.ref a_t, .int x1]) (n := 2) (Nat.le_of_ble_eq_true rfl)
  rw [lg_entry_eq]
  generalize (lg_sl ([.ref a_t, .int x1]) ++ List.replicate (2 - (lg_sl ([.ref a_t, .int x1])).length) Slot.unset).toArray = ls at hl ⊢
  exact w_X9_isDigit_0 X0 a_t a_t_bytes f_t_place f_t_start f_t_token f_t_value f_t_lawTold f_t_slipTold f_t_songTold c_t_bytes f_t_length _ x1 h s.heap [] hP hD va_S.rf ls hl

/-! X9_numberAtPlace -/
abbrev RM_X9_numberAtPlace : Room := { frames := 1, cells := 0, slots := 0, locals := 24 }
theorem k_X9_numberAtPlace_0 : Cond.fieldLink RX9 117 "DropDealers$Reader" "value" "I" ∈ wsX9_numberAtPlace := by decide +kernel
theorem i_X9_numberAtPlace_X9 : ∀ w ∈ u_ws RX9 TX9 9, w ∈ wsX9_numberAtPlace := by decide +kernel
theorem k_X9_numberAtPlace_2 : Cond.fieldLink RX9 34 "DropDealers$Reader" "place" "I" ∈ wsX9_numberAtPlace := by decide +kernel
theorem k_X9_numberAtPlace_3 : Cond.fieldLink RX9 47 "DropDealers$Reader" "start" "I" ∈ wsX9_numberAtPlace := by decide +kernel
theorem k_X9_numberAtPlace_4 : Cond.fieldLink RX9 9 "DropDealers$Reader" "bytes" "[B" ∈ wsX9_numberAtPlace := by decide +kernel
theorem k_X9_numberAtPlace_5 : Cond.fieldLink RX9 15 "DropDealers$Reader" "length" "I" ∈ wsX9_numberAtPlace := by decide +kernel
theorem k_X9_numberAtPlace_6 : Cond.methodLink RX9 133 Lib.Math.min.name ∈ wsX9_numberAtPlace := by decide +kernel
theorem k_X9_numberAtPlace_7 : Cond.static Lib.Math.min.name ∈ wsX9_numberAtPlace := by decide +kernel
theorem k_X9_numberAtPlace_8 : Cond.initialized "java/lang/Math" ∈ wsX9_numberAtPlace := by decide +kernel
theorem k_X9_numberAtPlace_9 : Cond.code Lib.Math.min.name Lib.Math.min.code 2 (some .int) ∈ wsX9_numberAtPlace := by decide +kernel
def F_X9_numberAtPlace_101 (c_t_bytes : Nat → Int32) (f_t_length : Int32) (f_t_start : Int32) (f_t_place : Int32) (f_t_value : Int32) (t0 : Int32) : Option (Int32 × Int32 × Int32) := if t0 = 0 then (if f_t_value ≤ (99 : Int32) then (some ((2 : Int32), f_t_place, f_t_value)) else (some ((4 : Int32), f_t_place, f_t_value))) else (some ((4 : Int32), f_t_place, f_t_value))
set_option maxHeartbeats 4000000 in
set_option maxRecDepth 100000 in
theorem w_X9_numberAtPlace_101 {p : Program} {l : Launch} {e : Env} {s : State} {m : MethodId} {args : Array Value} {below : List Frame} {meth : Method} {c : Code} {G : va_G} {ca : Nat → ClassId} {ad av : Nat → Nat} {A : Nat → Prop} (X0 : CX_ p s m args meth c cX9_numberAtPlace 2 (some .int) wsX9_numberAtPlace RX9 G ca ad av A) (a_t : Nat) (a_t_bytes : Nat) (f_t_token : Int32) (f_t_lawTold : Int32) (f_t_slipTold : Int32) (f_t_songTold : Int32) (c_t_bytes : Nat → Int32) (f_t_length : Int32) (f_t_start : Int32) (res : Int32 × Int32 × Int32) (f_t_place : Int32) (f_t_value : Int32) (t0 : Int32) (h : F_X9_numberAtPlace_101 c_t_bytes f_t_length f_t_start f_t_place f_t_value t0 = some res) : ∀ (H : Heap) (locs : List Loc), va_P G vwCl [(a_t, .inr (9, [.ref a_t_bytes, .int f_t_length, .int f_t_place, .int f_t_start, .int f_t_token, .int f_t_value, .int f_t_lawTold, .int f_t_slipTold, .int f_t_songTold])), (a_t_bytes, .inl (ca 2, 300, .inl c_t_bytes))] H → va_D A [(a_t, .inr (9, [.ref a_t_bytes, .int f_t_length, .int f_t_place, .int f_t_start, .int f_t_token, .int f_t_value, .int f_t_lawTold, .int f_t_slipTold, .int f_t_songTold])), (a_t_bytes, .inl (ca 2, 300, .inl c_t_bytes))] → va_S A s.heap H locs → ∀ (ls : Array Slot), lv_has ls 2 [(0, .ref a_t)] → W p l e RM_X9_numberAtPlace s m args below meth c H locs 0 0 (MQ below (QI_ G A res.1 [(a_t, .inr (9, [.ref a_t_bytes, .int f_t_length, .int res.2.1, .int f_t_start, .int f_t_token, .int res.2.2, .int f_t_lawTold, .int f_t_slipTold, .int f_t_songTold])), (a_t_bytes, .inl (ca 2, 300, .inl c_t_bytes))]) args s 0 0 A) (F0 m 101 ls [.int t0]) := by
  obtain ⟨hx, hb, hr, hml, hown, hts, hlocks, hK, hA, hE⟩ := id X0
  intro H locs hP hD hS ls hl
  unfold F_X9_numberAtPlace_101 at h
  refine lv_istore_n (lv' := [(1, .int t0), (0, .ref a_t)]) hx hb dX9_numberAtPlace_101 rfl hl (by decide) rfl (fun ls hl => ?_)
  refine lv_iload_n hx hb dX9_numberAtPlace_102 rfl (lv_at hl 0 rfl) ?_
  refine lv_if_ne (tgt := 115) hx hb dX9_numberAtPlace_103 (by decide) (fun b1 => ?_) (fun b1 => ?_)
  · have h := (if_neg b1).symm.trans h
    refine lv_iconst (v := 4) hx hb dX9_numberAtPlace_115 (by decide) ?_
    refine lv_goto (tgt := 120) hx hb dX9_numberAtPlace_116 (by decide) ?_
    have h := sm_i h
    subst h
    exact W.iret (v := (4 : Int32)) hx hb hr (fun t ht hW => ⟨⟨(4 : Int32), (), rfl, rfl, by rw [ht]; exact hP, hD⟩, hS.F ht⟩) hS.2.2 dX9_numberAtPlace_120
  · have h := (if_pos b1).symm.trans h
    refine lv_aload_n hx hb dX9_numberAtPlace_106 rfl (lv_at hl 1 rfl) ?_
    refine va_get (D := G) (ci := 9) (v := .int f_t_value) (C := RX9) (T := TX9) (N := 9) hx hb hts i_X9_numberAtPlace_X9 hown hK hP 0 rfl rfl 5 (by decide) (hts _ k_X9_numberAtPlace_0) (fun _ h9 => h9) rfl dX9_numberAtPlace_107 ?_
    refine lv_bipush (v := 99) hx hb dX9_numberAtPlace_110 (by decide) ?_
    refine lv_icmp_le (tgt := 119) hx hb dX9_numberAtPlace_112 (by decide) (fun b2 => ?_) (fun b2 => ?_)
    · have h := (if_pos b2).symm.trans h
      refine lv_iconst (v := 2) hx hb dX9_numberAtPlace_119 (by decide) ?_
      have h := sm_i h
      subst h
      exact W.iret (v := (2 : Int32)) hx hb hr (fun t ht hW => ⟨⟨(2 : Int32), (), rfl, rfl, by rw [ht]; exact hP, hD⟩, hS.F ht⟩) hS.2.2 dX9_numberAtPlace_120
    · have h := (if_neg b2).symm.trans h
      refine lv_iconst (v := 4) hx hb dX9_numberAtPlace_115 (by decide) ?_
      refine lv_goto (tgt := 120) hx hb dX9_numberAtPlace_116 (by decide) ?_
      have h := sm_i h
      subst h
      exact W.iret (v := (4 : Int32)) hx hb hr (fun t ht hW => ⟨⟨(4 : Int32), (), rfl, rfl, by rw [ht]; exact hP, hD⟩, hS.F ht⟩) hS.2.2 dX9_numberAtPlace_120
def F_X9_numberAtPlace_100 (c_t_bytes : Nat → Int32) (f_t_length : Int32) (f_t_start : Int32) (f_t_place : Int32) (f_t_value : Int32) : Option (Int32 × Int32 × Int32) := F_X9_numberAtPlace_101 c_t_bytes f_t_length f_t_start f_t_place f_t_value (0 : Int32)
set_option maxHeartbeats 4000000 in
set_option maxRecDepth 100000 in
theorem w_X9_numberAtPlace_100 {p : Program} {l : Launch} {e : Env} {s : State} {m : MethodId} {args : Array Value} {below : List Frame} {meth : Method} {c : Code} {G : va_G} {ca : Nat → ClassId} {ad av : Nat → Nat} {A : Nat → Prop} (X0 : CX_ p s m args meth c cX9_numberAtPlace 2 (some .int) wsX9_numberAtPlace RX9 G ca ad av A) (a_t : Nat) (a_t_bytes : Nat) (f_t_token : Int32) (f_t_lawTold : Int32) (f_t_slipTold : Int32) (f_t_songTold : Int32) (c_t_bytes : Nat → Int32) (f_t_length : Int32) (f_t_start : Int32) (res : Int32 × Int32 × Int32) (f_t_place : Int32) (f_t_value : Int32) (h : F_X9_numberAtPlace_100 c_t_bytes f_t_length f_t_start f_t_place f_t_value = some res) : ∀ (H : Heap) (locs : List Loc), va_P G vwCl [(a_t, .inr (9, [.ref a_t_bytes, .int f_t_length, .int f_t_place, .int f_t_start, .int f_t_token, .int f_t_value, .int f_t_lawTold, .int f_t_slipTold, .int f_t_songTold])), (a_t_bytes, .inl (ca 2, 300, .inl c_t_bytes))] H → va_D A [(a_t, .inr (9, [.ref a_t_bytes, .int f_t_length, .int f_t_place, .int f_t_start, .int f_t_token, .int f_t_value, .int f_t_lawTold, .int f_t_slipTold, .int f_t_songTold])), (a_t_bytes, .inl (ca 2, 300, .inl c_t_bytes))] → va_S A s.heap H locs → ∀ (ls : Array Slot), lv_has ls 2 [(0, .ref a_t)] → W p l e RM_X9_numberAtPlace s m args below meth c H locs 0 0 (MQ below (QI_ G A res.1 [(a_t, .inr (9, [.ref a_t_bytes, .int f_t_length, .int res.2.1, .int f_t_start, .int f_t_token, .int res.2.2, .int f_t_lawTold, .int f_t_slipTold, .int f_t_songTold])), (a_t_bytes, .inl (ca 2, 300, .inl c_t_bytes))]) args s 0 0 A) (F0 m 100 ls []) := by
  obtain ⟨hx, hb, hr, hml, hown, hts, hlocks, hK, hA, hE⟩ := id X0
  intro H locs hP hD hS ls hl
  unfold F_X9_numberAtPlace_100 at h
  refine lv_iconst (v := 0) hx hb dX9_numberAtPlace_100 (by decide) ?_
  exact w_X9_numberAtPlace_101 X0 a_t a_t_bytes f_t_token f_t_lawTold f_t_slipTold f_t_songTold c_t_bytes f_t_length f_t_start _ f_t_place f_t_value (0 : Int32) h H locs hP hD hS ls (lv_sub hl [0] rfl)
def F_X9_numberAtPlace_69 (c_t_bytes : Nat → Int32) (f_t_length : Int32) (f_t_start : Int32) (f_t_place : Int32) (f_t_value : Int32) : Option (Int32 × Int32 × Int32) := if (f_t_place - f_t_start) ≤ (1 : Int32) then (F_X9_numberAtPlace_100 c_t_bytes f_t_length f_t_start f_t_place f_t_value) else (if ok_I f_t_start 300 = true then if (c_t_bytes f_t_start.toNatClampNeg) = (48 : Int32) then (F_X9_numberAtPlace_101 c_t_bytes f_t_length f_t_start f_t_place f_t_value (1 : Int32)) else (F_X9_numberAtPlace_100 c_t_bytes f_t_length f_t_start f_t_place f_t_value) else none)
set_option maxHeartbeats 4000000 in
set_option maxRecDepth 100000 in
theorem w_X9_numberAtPlace_69 {p : Program} {l : Launch} {e : Env} {s : State} {m : MethodId} {args : Array Value} {below : List Frame} {meth : Method} {c : Code} {G : va_G} {ca : Nat → ClassId} {ad av : Nat → Nat} {A : Nat → Prop} (X0 : CX_ p s m args meth c cX9_numberAtPlace 2 (some .int) wsX9_numberAtPlace RX9 G ca ad av A) (a_t : Nat) (a_t_bytes : Nat) (f_t_token : Int32) (f_t_lawTold : Int32) (f_t_slipTold : Int32) (f_t_songTold : Int32) (c_t_bytes : Nat → Int32) (f_t_length : Int32) (f_t_start : Int32) (res : Int32 × Int32 × Int32) (f_t_place : Int32) (f_t_value : Int32) (h : F_X9_numberAtPlace_69 c_t_bytes f_t_length f_t_start f_t_place f_t_value = some res) : ∀ (H : Heap) (locs : List Loc), va_P G vwCl [(a_t, .inr (9, [.ref a_t_bytes, .int f_t_length, .int f_t_place, .int f_t_start, .int f_t_token, .int f_t_value, .int f_t_lawTold, .int f_t_slipTold, .int f_t_songTold])), (a_t_bytes, .inl (ca 2, 300, .inl c_t_bytes))] H → va_D A [(a_t, .inr (9, [.ref a_t_bytes, .int f_t_length, .int f_t_place, .int f_t_start, .int f_t_token, .int f_t_value, .int f_t_lawTold, .int f_t_slipTold, .int f_t_songTold])), (a_t_bytes, .inl (ca 2, 300, .inl c_t_bytes))] → va_S A s.heap H locs → ∀ (ls : Array Slot), lv_has ls 2 [(0, .ref a_t)] → W p l e RM_X9_numberAtPlace s m args below meth c H locs 0 0 (MQ below (QI_ G A res.1 [(a_t, .inr (9, [.ref a_t_bytes, .int f_t_length, .int res.2.1, .int f_t_start, .int f_t_token, .int res.2.2, .int f_t_lawTold, .int f_t_slipTold, .int f_t_songTold])), (a_t_bytes, .inl (ca 2, 300, .inl c_t_bytes))]) args s 0 0 A) (F0 m 69 ls []) := by
  obtain ⟨hx, hb, hr, hml, hown, hts, hlocks, hK, hA, hE⟩ := id X0
  intro H locs hP hD hS ls hl
  unfold F_X9_numberAtPlace_69 at h
  refine lv_aload_n hx hb dX9_numberAtPlace_69 rfl (lv_at hl 0 rfl) ?_
  refine va_get (D := G) (ci := 9) (v := .int f_t_place) (C := RX9) (T := TX9) (N := 9) hx hb hts i_X9_numberAtPlace_X9 hown hK hP 0 rfl rfl 2 (by decide) (hts _ k_X9_numberAtPlace_2) (fun _ h9 => h9) rfl dX9_numberAtPlace_70 ?_
  refine lv_aload_n hx hb dX9_numberAtPlace_73 rfl (lv_at hl 0 rfl) ?_
  refine va_get (D := G) (ci := 9) (v := .int f_t_start) (C := RX9) (T := TX9) (N := 9) hx hb hts i_X9_numberAtPlace_X9 hown hK hP 0 rfl rfl 3 (by decide) (hts _ k_X9_numberAtPlace_3) (fun _ h9 => h9) rfl dX9_numberAtPlace_74 ?_
  refine lv_isub hx hb dX9_numberAtPlace_77 ?_
  refine lv_iconst (v := 1) hx hb dX9_numberAtPlace_78 (by decide) ?_
  refine lv_icmp_le (tgt := 100) hx hb dX9_numberAtPlace_79 (by decide) (fun b3 => ?_) (fun b3 => ?_)
  · have h := (if_pos b3).symm.trans h
    exact w_X9_numberAtPlace_100 X0 a_t a_t_bytes f_t_token f_t_lawTold f_t_slipTold f_t_songTold c_t_bytes f_t_length f_t_start _ f_t_place f_t_value h H locs hP hD hS ls (lv_sub hl [0] rfl)
  · have h := (if_neg b3).symm.trans h
    refine lv_aload_n hx hb dX9_numberAtPlace_82 rfl (lv_at hl 0 rfl) ?_
    refine va_get (D := G) (ci := 9) (v := .ref a_t_bytes) (C := RX9) (T := TX9) (N := 9) hx hb hts i_X9_numberAtPlace_X9 hown hK hP 0 rfl rfl 0 (by decide) (hts _ k_X9_numberAtPlace_4) (fun _ h9 => h9) rfl dX9_numberAtPlace_83 ?_
    refine lv_aload_n hx hb dX9_numberAtPlace_86 rfl (lv_at hl 0 rfl) ?_
    refine va_get (D := G) (ci := 9) (v := .int f_t_start) (C := RX9) (T := TX9) (N := 9) hx hb hts i_X9_numberAtPlace_X9 hown hK hP 0 rfl rfl 3 (by decide) (hts _ k_X9_numberAtPlace_3) (fun _ h9 => h9) rfl dX9_numberAtPlace_87 ?_
    obtain ⟨g4, h⟩ := gd_t h
    refine va_bald hx hb hK hP 1 2 rfl rfl (ok_in g4) dX9_numberAtPlace_90 ?_
    refine lv_bipush (v := 48) hx hb dX9_numberAtPlace_91 (by decide) ?_
    refine lv_icmp_ne (tgt := 100) hx hb dX9_numberAtPlace_93 (by decide) (fun b5 => ?_) (fun b5 => ?_)
    · have h := (if_neg b5).symm.trans h
      exact w_X9_numberAtPlace_100 X0 a_t a_t_bytes f_t_token f_t_lawTold f_t_slipTold f_t_songTold c_t_bytes f_t_length f_t_start _ f_t_place f_t_value h H locs hP hD hS ls (lv_sub hl [0] rfl)
    · have h := (if_pos b5).symm.trans h
      refine lv_iconst (v := 1) hx hb dX9_numberAtPlace_96 (by decide) ?_
      refine lv_goto (tgt := 101) hx hb dX9_numberAtPlace_97 (by decide) ?_
      exact w_X9_numberAtPlace_101 X0 a_t a_t_bytes f_t_token f_t_lawTold f_t_slipTold f_t_songTold c_t_bytes f_t_length f_t_start _ f_t_place f_t_value (1 : Int32) h H locs hP hD hS ls (lv_sub hl [0] rfl)
def F_X9_numberAtPlace_5 (c_t_bytes : Nat → Int32) (f_t_length : Int32) (f_t_start : Int32) : Nat → Int32 → Int32 → Option (Int32 × Int32 × Int32)
  | 0, _, _ => none
  | n + 1, f_t_place, f_t_value => if f_t_length ≤ f_t_place then (F_X9_numberAtPlace_69 c_t_bytes f_t_length f_t_start f_t_place f_t_value) else ((F_X9_isDigit c_t_bytes f_t_length f_t_place).bind (fun u7 => if u7 = 0 then (F_X9_numberAtPlace_69 c_t_bytes f_t_length f_t_start f_t_place f_t_value) else (if ok_I f_t_place 300 = true then F_X9_numberAtPlace_5 c_t_bytes f_t_length f_t_start n (f_t_place + (1 : Int32)) (if (((f_t_value * (10 : Int32)) + (c_t_bytes f_t_place.toNatClampNeg)) - (48 : Int32)) < (100 : Int32) then (((f_t_value * (10 : Int32)) + (c_t_bytes f_t_place.toNatClampNeg)) - (48 : Int32)) else (100 : Int32)) else none)))
set_option maxHeartbeats 4000000 in
set_option maxRecDepth 100000 in
theorem w_X9_numberAtPlace_5 {p : Program} {l : Launch} {e : Env} {s : State} {m : MethodId} {args : Array Value} {below : List Frame} {meth : Method} {c : Code} {G : va_G} {ca : Nat → ClassId} {ad av : Nat → Nat} {A : Nat → Prop} (X0 : CX_ p s m args meth c cX9_numberAtPlace 2 (some .int) wsX9_numberAtPlace RX9 G ca ad av A) (a_t : Nat) (a_t_bytes : Nat) (f_t_token : Int32) (f_t_lawTold : Int32) (f_t_slipTold : Int32) (f_t_songTold : Int32) (c_t_bytes : Nat → Int32) (f_t_length : Int32) (f_t_start : Int32) (res : Int32 × Int32 × Int32) : ∀ (n : Nat) (f_t_place : Int32) (f_t_value : Int32), F_X9_numberAtPlace_5 c_t_bytes f_t_length f_t_start n f_t_place f_t_value = some res → ∀ (H : Heap) (locs : List Loc), va_P G vwCl [(a_t, .inr (9, [.ref a_t_bytes, .int f_t_length, .int f_t_place, .int f_t_start, .int f_t_token, .int f_t_value, .int f_t_lawTold, .int f_t_slipTold, .int f_t_songTold])), (a_t_bytes, .inl (ca 2, 300, .inl c_t_bytes))] H → va_D A [(a_t, .inr (9, [.ref a_t_bytes, .int f_t_length, .int f_t_place, .int f_t_start, .int f_t_token, .int f_t_value, .int f_t_lawTold, .int f_t_slipTold, .int f_t_songTold])), (a_t_bytes, .inl (ca 2, 300, .inl c_t_bytes))] → va_S A s.heap H locs → ∀ (ls : Array Slot), lv_has ls 2 [(0, .ref a_t)] → W p l e RM_X9_numberAtPlace s m args below meth c H locs 0 0 (MQ below (QI_ G A res.1 [(a_t, .inr (9, [.ref a_t_bytes, .int f_t_length, .int res.2.1, .int f_t_start, .int f_t_token, .int res.2.2, .int f_t_lawTold, .int f_t_slipTold, .int f_t_songTold])), (a_t_bytes, .inl (ca 2, 300, .inl c_t_bytes))]) args s 0 0 A) (F0 m 5 ls []) := by
  obtain ⟨hx, hb, hr, hml, hown, hts, hlocks, hK, hA, hE⟩ := id X0
  intro n
  induction n with
  | zero => intro f_t_place f_t_value h; cases h
  | succ n ih =>
    intro f_t_place f_t_value h H locs hP hD hS ls hl
    rw [F_X9_numberAtPlace_5] at h
    refine lv_aload_n hx hb dX9_numberAtPlace_5 rfl (lv_at hl 0 rfl) ?_
    refine va_get (D := G) (ci := 9) (v := .int f_t_place) (C := RX9) (T := TX9) (N := 9) hx hb hts i_X9_numberAtPlace_X9 hown hK hP 0 rfl rfl 2 (by decide) (hts _ k_X9_numberAtPlace_2) (fun _ h9 => h9) rfl dX9_numberAtPlace_6 ?_
    refine lv_aload_n hx hb dX9_numberAtPlace_9 rfl (lv_at hl 0 rfl) ?_
    refine va_get (D := G) (ci := 9) (v := .int f_t_length) (C := RX9) (T := TX9) (N := 9) hx hb hts i_X9_numberAtPlace_X9 hown hK hP 0 rfl rfl 1 (by decide) (hts _ k_X9_numberAtPlace_5) (fun _ h9 => h9) rfl dX9_numberAtPlace_10 ?_
    refine lv_icmp_ge (tgt := 69) hx hb dX9_numberAtPlace_13 (by decide) (fun b6 => ?_) (fun b6 => ?_)
    · have h := (if_pos b6).symm.trans h
      exact w_X9_numberAtPlace_69 X0 a_t a_t_bytes f_t_token f_t_lawTold f_t_slipTold f_t_songTold c_t_bytes f_t_length f_t_start _ f_t_place f_t_value h H locs hP hD hS ls (lv_sub hl [0] rfl)
    · have h := (if_neg b6).symm.trans h
      refine lv_aload_n hx hb dX9_numberAtPlace_16 rfl (lv_at hl 0 rfl) ?_
      refine lv_aload_n hx hb dX9_numberAtPlace_17 rfl (lv_at hl 0 rfl) ?_
      refine va_get (D := G) (ci := 9) (v := .int f_t_place) (C := RX9) (T := TX9) (N := 9) hx hb hts i_X9_numberAtPlace_X9 hown hK hP 0 rfl rfl 2 (by decide) (hts _ k_X9_numberAtPlace_2) (fun _ h9 => h9) rfl dX9_numberAtPlace_18 ?_
      obtain ⟨u7, hc8, h⟩ := bd_o h
      refine jn_i (wr := []) (ws' := [(a_t, .inr (9, [.ref a_t_bytes, .int f_t_length, .int f_t_place, .int f_t_start, .int f_t_token, .int f_t_value, .int f_t_lawTold, .int f_t_slipTold, .int f_t_songTold])), (a_t_bytes, .inl (ca 2, 300, .inl c_t_bytes))]) (va_runV (As := [.int f_t_place]) (rest := []) ⟨hx, hb, hml, hown, hts⟩ (c_X9_isDigit l G ca ad av H.size a_t a_t_bytes f_t_place f_t_start f_t_token f_t_value f_t_lawTold f_t_slipTold f_t_songTold c_t_bytes f_t_length f_t_place u7 hc8) (cwV 1 hts gX9_numberAtPlace_X9_isDigit rfl rfl rfl (by decide +kernel) ⟨Nat.le_of_ble_eq_true rfl, Nat.le_of_ble_eq_true rfl⟩) (pre_v (q0 := 0) (ci := 9) hK hE hA hP hD hS [0, 1] rfl (by decide) rfl rfl) rfl rfl hl.1 rfl (lv_room (Nat.le_of_ble_eq_true rfl)) dX9_numberAtPlace_21 ⟨Nat.le_of_ble_eq_true rfl, Nat.le_of_ble_eq_true rfl⟩) hA hP hD hS [0, 1] [] [0, 1] rfl rfl (by decide) (by decide) (by decide) rfl (fun H locs hP hD hS => ?_)
      refine lv_if_eq (tgt := 69) hx hb dX9_numberAtPlace_24 (by decide) (fun b9 => ?_) (fun b9 => ?_)
      · have h := (if_pos b9).symm.trans h
        exact w_X9_numberAtPlace_69 X0 a_t a_t_bytes f_t_token f_t_lawTold f_t_slipTold f_t_songTold c_t_bytes f_t_length f_t_start _ f_t_place f_t_value h H locs hP hD hS ls (lv_sub hl [0] rfl)
      · have h := (if_neg b9).symm.trans h
        refine lv_aload_n hx hb dX9_numberAtPlace_27 rfl (lv_at hl 0 rfl) ?_
        refine lv_bipush (v := 100) hx hb dX9_numberAtPlace_28 (by decide) ?_
        refine lv_aload_n hx hb dX9_numberAtPlace_30 rfl (lv_at hl 0 rfl) ?_
        refine va_get (D := G) (ci := 9) (v := .int f_t_value) (C := RX9) (T := TX9) (N := 9) hx hb hts i_X9_numberAtPlace_X9 hown hK hP 0 rfl rfl 5 (by decide) (hts _ k_X9_numberAtPlace_0) (fun _ h9 => h9) rfl dX9_numberAtPlace_31 ?_
        refine lv_bipush (v := 10) hx hb dX9_numberAtPlace_34 (by decide) ?_
        refine lv_imul hx hb dX9_numberAtPlace_36 ?_
        refine lv_aload_n hx hb dX9_numberAtPlace_37 rfl (lv_at hl 0 rfl) ?_
        refine va_get (D := G) (ci := 9) (v := .ref a_t_bytes) (C := RX9) (T := TX9) (N := 9) hx hb hts i_X9_numberAtPlace_X9 hown hK hP 0 rfl rfl 0 (by decide) (hts _ k_X9_numberAtPlace_4) (fun _ h9 => h9) rfl dX9_numberAtPlace_38 ?_
        refine lv_aload_n hx hb dX9_numberAtPlace_41 rfl (lv_at hl 0 rfl) ?_
        refine va_get (D := G) (ci := 9) (v := .int f_t_place) (C := RX9) (T := TX9) (N := 9) hx hb hts i_X9_numberAtPlace_X9 hown hK hP 0 rfl rfl 2 (by decide) (hts _ k_X9_numberAtPlace_2) (fun _ h9 => h9) rfl dX9_numberAtPlace_42 ?_
        obtain ⟨g10, h⟩ := gd_t h
        refine va_bald hx hb hK hP 1 2 rfl rfl (ok_in g10) dX9_numberAtPlace_45 ?_
        refine lv_iadd hx hb dX9_numberAtPlace_46 ?_
        refine lv_bipush (v := 48) hx hb dX9_numberAtPlace_47 (by decide) ?_
        refine lv_isub hx hb dX9_numberAtPlace_49 ?_
        refine va_mmin hx hb (hml.trans hl.1.symm) hown (hts _ k_X9_numberAtPlace_6) (hts _ k_X9_numberAtPlace_7) (hts _ k_X9_numberAtPlace_8) (hts _ k_X9_numberAtPlace_9) (Nat.le_of_ble_eq_true rfl) (Nat.le_of_ble_eq_true rfl) (Nat.zero_le _) (Nat.zero_le _) dX9_numberAtPlace_50 ?_
        refine va_put (D := G) (ci := 9) (v := .int (if (((f_t_value * (10 : Int32)) + (c_t_bytes f_t_place.toNatClampNeg)) - (48 : Int32)) < (100 : Int32) then (((f_t_value * (10 : Int32)) + (c_t_bytes f_t_place.toNatClampNeg)) - (48 : Int32)) else (100 : Int32))) (ty := .int) (C := RX9) (T := TX9) (N := 9) hx hb hts i_X9_numberAtPlace_X9 tyX9 tyX9_ok nmX9 hown hK hP hD hS 0 rfl rfl 5 (by decide) (hts _ k_X9_numberAtPlace_0) (fun _ h9 => h9) rfl (by decide +kernel) rfl rfl (Nat.le_of_ble_eq_true rfl) dX9_numberAtPlace_53 (fun H locs hP hD hS => ?_)
        have hP : va_P G vwCl [(a_t, .inr (9, [.ref a_t_bytes, .int f_t_length, .int f_t_place, .int f_t_start, .int f_t_token, .int (if (((f_t_value * (10 : Int32)) + (c_t_bytes f_t_place.toNatClampNeg)) - (48 : Int32)) < (100 : Int32) then (((f_t_value * (10 : Int32)) + (c_t_bytes f_t_place.toNatClampNeg)) - (48 : Int32)) else (100 : Int32)), .int f_t_lawTold, .int f_t_slipTold, .int f_t_songTold])), (a_t_bytes, .inl (ca 2, 300, .inl c_t_bytes))] H := hP
        have hD : va_D A [(a_t, .inr (9, [.ref a_t_bytes, .int f_t_length, .int f_t_place, .int f_t_start, .int f_t_token, .int (if (((f_t_value * (10 : Int32)) + (c_t_bytes f_t_place.toNatClampNeg)) - (48 : Int32)) < (100 : Int32) then (((f_t_value * (10 : Int32)) + (c_t_bytes f_t_place.toNatClampNeg)) - (48 : Int32)) else (100 : Int32)), .int f_t_lawTold, .int f_t_slipTold, .int f_t_songTold])), (a_t_bytes, .inl (ca 2, 300, .inl c_t_bytes))] := hD
        refine lv_aload_n hx hb dX9_numberAtPlace_56 rfl (lv_at hl 0 rfl) ?_
        refine lv_dup hx hb dX9_numberAtPlace_57 rfl ?_
        refine va_get (D := G) (ci := 9) (v := .int f_t_place) (C := RX9) (T := TX9) (N := 9) hx hb hts i_X9_numberAtPlace_X9 hown hK hP 0 rfl rfl 2 (by decide) (hts _ k_X9_numberAtPlace_2) (fun _ h9 => h9) rfl dX9_numberAtPlace_58 ?_
        refine lv_iconst (v := 1) hx hb dX9_numberAtPlace_61 (by decide) ?_
        refine lv_iadd hx hb dX9_numberAtPlace_62 ?_
        refine va_put (D := G) (ci := 9) (v := .int (f_t_place + (1 : Int32))) (ty := .int) (C := RX9) (T := TX9) (N := 9) hx hb hts i_X9_numberAtPlace_X9 tyX9 tyX9_ok nmX9 hown hK hP hD hS 0 rfl rfl 2 (by decide) (hts _ k_X9_numberAtPlace_2) (fun _ h9 => h9) rfl (by decide +kernel) rfl rfl (Nat.le_of_ble_eq_true rfl) dX9_numberAtPlace_63 (fun H locs hP hD hS => ?_)
        have hP : va_P G vwCl [(a_t, .inr (9, [.ref a_t_bytes, .int f_t_length, .int (f_t_place + (1 : Int32)), .int f_t_start, .int f_t_token, .int (if (((f_t_value * (10 : Int32)) + (c_t_bytes f_t_place.toNatClampNeg)) - (48 : Int32)) < (100 : Int32) then (((f_t_value * (10 : Int32)) + (c_t_bytes f_t_place.toNatClampNeg)) - (48 : Int32)) else (100 : Int32)), .int f_t_lawTold, .int f_t_slipTold, .int f_t_songTold])), (a_t_bytes, .inl (ca 2, 300, .inl c_t_bytes))] H := hP
        have hD : va_D A [(a_t, .inr (9, [.ref a_t_bytes, .int f_t_length, .int (f_t_place + (1 : Int32)), .int f_t_start, .int f_t_token, .int (if (((f_t_value * (10 : Int32)) + (c_t_bytes f_t_place.toNatClampNeg)) - (48 : Int32)) < (100 : Int32) then (((f_t_value * (10 : Int32)) + (c_t_bytes f_t_place.toNatClampNeg)) - (48 : Int32)) else (100 : Int32)), .int f_t_lawTold, .int f_t_slipTold, .int f_t_songTold])), (a_t_bytes, .inl (ca 2, 300, .inl c_t_bytes))] := hD
        refine lv_goto (tgt := 5) hx hb dX9_numberAtPlace_66 (by decide) ?_
        exact ih (f_t_place + (1 : Int32)) (if (((f_t_value * (10 : Int32)) + (c_t_bytes f_t_place.toNatClampNeg)) - (48 : Int32)) < (100 : Int32) then (((f_t_value * (10 : Int32)) + (c_t_bytes f_t_place.toNatClampNeg)) - (48 : Int32)) else (100 : Int32)) h H locs hP hD hS ls (lv_sub hl [0] rfl)
def F_X9_numberAtPlace (c_t_bytes : Nat → Int32) (f_t_length : Int32) (f_t_start : Int32) (f_t_place : Int32) (f_t_value : Int32) : Option (Int32 × Int32 × Int32) := F_X9_numberAtPlace_5 c_t_bytes f_t_length f_t_start FU_ f_t_place (0 : Int32)
set_option maxHeartbeats 4000000 in
set_option maxRecDepth 100000 in
theorem w_X9_numberAtPlace_0 {p : Program} {l : Launch} {e : Env} {s : State} {m : MethodId} {args : Array Value} {below : List Frame} {meth : Method} {c : Code} {G : va_G} {ca : Nat → ClassId} {ad av : Nat → Nat} {A : Nat → Prop} (X0 : CX_ p s m args meth c cX9_numberAtPlace 2 (some .int) wsX9_numberAtPlace RX9 G ca ad av A) (a_t : Nat) (a_t_bytes : Nat) (f_t_token : Int32) (f_t_lawTold : Int32) (f_t_slipTold : Int32) (f_t_songTold : Int32) (c_t_bytes : Nat → Int32) (f_t_length : Int32) (f_t_start : Int32) (res : Int32 × Int32 × Int32) (f_t_place : Int32) (f_t_value : Int32) (h : F_X9_numberAtPlace c_t_bytes f_t_length f_t_start f_t_place f_t_value = some res) : ∀ (H : Heap) (locs : List Loc), va_P G vwCl [(a_t, .inr (9, [.ref a_t_bytes, .int f_t_length, .int f_t_place, .int f_t_start, .int f_t_token, .int f_t_value, .int f_t_lawTold, .int f_t_slipTold, .int f_t_songTold])), (a_t_bytes, .inl (ca 2, 300, .inl c_t_bytes))] H → va_D A [(a_t, .inr (9, [.ref a_t_bytes, .int f_t_length, .int f_t_place, .int f_t_start, .int f_t_token, .int f_t_value, .int f_t_lawTold, .int f_t_slipTold, .int f_t_songTold])), (a_t_bytes, .inl (ca 2, 300, .inl c_t_bytes))] → va_S A s.heap H locs → ∀ (ls : Array Slot), lv_has ls 2 [(0, .ref a_t)] → W p l e RM_X9_numberAtPlace s m args below meth c H locs 0 0 (MQ below (QI_ G A res.1 [(a_t, .inr (9, [.ref a_t_bytes, .int f_t_length, .int res.2.1, .int f_t_start, .int f_t_token, .int res.2.2, .int f_t_lawTold, .int f_t_slipTold, .int f_t_songTold])), (a_t_bytes, .inl (ca 2, 300, .inl c_t_bytes))]) args s 0 0 A) (F0 m 0 ls []) := by
  obtain ⟨hx, hb, hr, hml, hown, hts, hlocks, hK, hA, hE⟩ := id X0
  intro H locs hP hD hS ls hl
  unfold F_X9_numberAtPlace at h
  refine lv_aload_n hx hb dX9_numberAtPlace_0 rfl (lv_at hl 0 rfl) ?_
  refine lv_iconst (v := 0) hx hb dX9_numberAtPlace_1 (by decide) ?_
  refine va_put (D := G) (ci := 9) (v := .int (0 : Int32)) (ty := .int) (C := RX9) (T := TX9) (N := 9) hx hb hts i_X9_numberAtPlace_X9 tyX9 tyX9_ok nmX9 hown hK hP hD hS 0 rfl rfl 5 (by decide) (hts _ k_X9_numberAtPlace_0) (fun _ h9 => h9) rfl (by decide +kernel) rfl rfl (Nat.le_of_ble_eq_true rfl) dX9_numberAtPlace_2 (fun H locs hP hD hS => ?_)
  have hP : va_P G vwCl [(a_t, .inr (9, [.ref a_t_bytes, .int f_t_length, .int f_t_place, .int f_t_start, .int f_t_token, .int (0 : Int32), .int f_t_lawTold, .int f_t_slipTold, .int f_t_songTold])), (a_t_bytes, .inl (ca 2, 300, .inl c_t_bytes))] H := hP
  have hD : va_D A [(a_t, .inr (9, [.ref a_t_bytes, .int f_t_length, .int f_t_place, .int f_t_start, .int f_t_token, .int (0 : Int32), .int f_t_lawTold, .int f_t_slipTold, .int f_t_songTold])), (a_t_bytes, .inl (ca 2, 300, .inl c_t_bytes))] := hD
  exact w_X9_numberAtPlace_5 X0 a_t a_t_bytes f_t_token f_t_lawTold f_t_slipTold f_t_songTold c_t_bytes f_t_length f_t_start _ FU_ f_t_place (0 : Int32) h H locs hP hD hS ls (lv_sub hl [0] rfl)
set_option maxHeartbeats 4000000 in
set_option maxRecDepth 100000 in
theorem c_X9_numberAtPlace (l : Launch) (G : va_G) (ca : Nat → ClassId) (ad av : Nat → Nat) (sz : Nat) (a_t : Nat) (a_t_bytes : Nat) (f_t_token : Int32) (f_t_lawTold : Int32) (f_t_slipTold : Int32) (f_t_songTold : Int32) (c_t_bytes : Nat → Int32) (f_t_length : Int32) (f_t_start : Int32) (f_t_place : Int32) (f_t_value : Int32) (res : Int32 × Int32 × Int32) (h : F_X9_numberAtPlace c_t_bytes f_t_length f_t_start f_t_place f_t_value = some res) : Met l yX9_numberAtPlace wsX9_numberAtPlace RM_X9_numberAtPlace (va_Pc [.ref a_t] (PW_ G ca ad av sz [(a_t, .inr (9, [.ref a_t_bytes, .int f_t_length, .int f_t_place, .int f_t_start, .int f_t_token, .int f_t_value, .int f_t_lawTold, .int f_t_slipTold, .int f_t_songTold])), (a_t_bytes, .inl (ca 2, 300, .inl c_t_bytes))])) (QI_ G (va_A [(a_t, .inr (9, [.ref a_t_bytes, .int f_t_length, .int f_t_place, .int f_t_start, .int f_t_token, .int f_t_value, .int f_t_lawTold, .int f_t_slipTold, .int f_t_songTold])), (a_t_bytes, .inl (ca 2, 300, .inl c_t_bytes))] sz) res.1 [(a_t, .inr (9, [.ref a_t_bytes, .int f_t_length, .int res.2.1, .int f_t_start, .int f_t_token, .int res.2.2, .int f_t_lawTold, .int f_t_slipTold, .int f_t_songTold])), (a_t_bytes, .inl (ca 2, 300, .inl c_t_bytes))]) 0 0 (va_A [(a_t, .inr (9, [.ref a_t_bytes, .int f_t_length, .int f_t_place, .int f_t_start, .int f_t_token, .int f_t_value, .int f_t_lawTold, .int f_t_slipTold, .int f_t_songTold])), (a_t_bytes, .inl (ca 2, 300, .inl c_t_bytes))] sz) := by
  refine Met.ofW (cc := cX9_numberAtPlace) (maxL := 2) (ret := (some .int)) (by decide) rfl ?_
  intro p e s m args below meth c s₁ B hml hv
  obtain ⟨X0, rfl, rfl, hP, hD⟩ := en_t B hml hv
  have hl := lv_entry ([.ref a_t]) (n := 2) (Nat.le_of_ble_eq_true rfl)
  rw [lg_entry_eq]
  generalize (lg_sl ([.ref a_t]) ++ List.replicate (2 - (lg_sl ([.ref a_t])).length) Slot.unset).toArray = ls at hl ⊢
  exact w_X9_numberAtPlace_0 X0 a_t a_t_bytes f_t_token f_t_lawTold f_t_slipTold f_t_songTold c_t_bytes f_t_length f_t_start _ f_t_place f_t_value h s.heap [] hP hD va_S.rf ls hl

/-! X9_advance -/
abbrev RM_X9_advance : Room := { frames := 2, cells := 0, slots := 0, locals := 45 }
theorem k_X9_advance_0 : Cond.fieldLink RX9 40 "DropDealers$Reader" "token" "I" ∈ wsX9_advance := by decide +kernel
theorem i_X9_advance_X9 : ∀ w ∈ u_ws RX9 TX9 9, w ∈ wsX9_advance := by decide +kernel
theorem k_X9_advance_2 : Cond.fieldLink RX9 34 "DropDealers$Reader" "place" "I" ∈ wsX9_advance := by decide +kernel
theorem k_X9_advance_3 : Cond.fieldLink RX9 47 "DropDealers$Reader" "start" "I" ∈ wsX9_advance := by decide +kernel
theorem k_X9_advance_4 : Cond.fieldLink RX9 15 "DropDealers$Reader" "length" "I" ∈ wsX9_advance := by decide +kernel
theorem k_X9_advance_5 : Cond.fieldLink RX9 9 "DropDealers$Reader" "bytes" "[B" ∈ wsX9_advance := by decide +kernel
def F_X9_advance_129 (c_t_bytes : Nat → Int32) (f_t_length : Int32) (f_t_place : Int32) (f_t_start : Int32) (f_t_token : Int32) (f_t_value : Int32) (t1 : Int32) : Option (Int32 × Int32 × Int32 × Int32) := some ((f_t_place + (1 : Int32)), f_t_start, t1, f_t_value)
set_option maxHeartbeats 4000000 in
set_option maxRecDepth 100000 in
theorem w_X9_advance_129 {p : Program} {l : Launch} {e : Env} {s : State} {m : MethodId} {args : Array Value} {below : List Frame} {meth : Method} {c : Code} {G : va_G} {ca : Nat → ClassId} {ad av : Nat → Nat} {A : Nat → Prop} (X0 : CX_ p s m args meth c cX9_advance 1 none wsX9_advance RX9 G ca ad av A) (a_t : Nat) (a_t_bytes : Nat) (f_t_lawTold : Int32) (f_t_slipTold : Int32) (f_t_songTold : Int32) (c_t_bytes : Nat → Int32) (f_t_length : Int32) (res : Int32 × Int32 × Int32 × Int32) (f_t_place : Int32) (f_t_start : Int32) (f_t_token : Int32) (f_t_value : Int32) (t1 : Int32) (h : F_X9_advance_129 c_t_bytes f_t_length f_t_place f_t_start f_t_token f_t_value t1 = some res) : ∀ (H : Heap) (locs : List Loc), va_P G vwCl [(a_t, .inr (9, [.ref a_t_bytes, .int f_t_length, .int f_t_place, .int f_t_start, .int f_t_token, .int f_t_value, .int f_t_lawTold, .int f_t_slipTold, .int f_t_songTold])), (a_t_bytes, .inl (ca 2, 300, .inl c_t_bytes))] H → va_D A [(a_t, .inr (9, [.ref a_t_bytes, .int f_t_length, .int f_t_place, .int f_t_start, .int f_t_token, .int f_t_value, .int f_t_lawTold, .int f_t_slipTold, .int f_t_songTold])), (a_t_bytes, .inl (ca 2, 300, .inl c_t_bytes))] → va_S A s.heap H locs → ∀ (ls : Array Slot), lv_has ls 1 [(0, .ref a_t)] → W p l e RM_X9_advance s m args below meth c H locs 0 0 (MQ below (QV_ G A [(a_t, .inr (9, [.ref a_t_bytes, .int f_t_length, .int res.1, .int res.2.1, .int res.2.2.1, .int res.2.2.2, .int f_t_lawTold, .int f_t_slipTold, .int f_t_songTold])), (a_t_bytes, .inl (ca 2, 300, .inl c_t_bytes))]) args s 0 0 A) (F0 m 129 ls [.int t1, .ref a_t]) := by
  obtain ⟨hx, hb, hr, hml, hown, hts, hlocks, hK, hA, hE⟩ := id X0
  intro H locs hP hD hS ls hl
  unfold F_X9_advance_129 at h
  refine va_put (D := G) (ci := 9) (v := .int t1) (ty := .int) (C := RX9) (T := TX9) (N := 9) hx hb hts i_X9_advance_X9 tyX9 tyX9_ok nmX9 hown hK hP hD hS 0 rfl rfl 4 (by decide) (hts _ k_X9_advance_0) (fun _ h9 => h9) rfl (by decide +kernel) rfl rfl (Nat.le_of_ble_eq_true rfl) dX9_advance_129 (fun H locs hP hD hS => ?_)
  have hP : va_P G vwCl [(a_t, .inr (9, [.ref a_t_bytes, .int f_t_length, .int f_t_place, .int f_t_start, .int t1, .int f_t_value, .int f_t_lawTold, .int f_t_slipTold, .int f_t_songTold])), (a_t_bytes, .inl (ca 2, 300, .inl c_t_bytes))] H := hP
  have hD : va_D A [(a_t, .inr (9, [.ref a_t_bytes, .int f_t_length, .int f_t_place, .int f_t_start, .int t1, .int f_t_value, .int f_t_lawTold, .int f_t_slipTold, .int f_t_songTold])), (a_t_bytes, .inl (ca 2, 300, .inl c_t_bytes))] := hD
  refine lv_aload_n hx hb dX9_advance_132 rfl (lv_at hl 0 rfl) ?_
  refine lv_dup hx hb dX9_advance_133 rfl ?_
  refine va_get (D := G) (ci := 9) (v := .int f_t_place) (C := RX9) (T := TX9) (N := 9) hx hb hts i_X9_advance_X9 hown hK hP 0 rfl rfl 2 (by decide) (hts _ k_X9_advance_2) (fun _ h9 => h9) rfl dX9_advance_134 ?_
  refine lv_iconst (v := 1) hx hb dX9_advance_137 (by decide) ?_
  refine lv_iadd hx hb dX9_advance_138 ?_
  refine va_put (D := G) (ci := 9) (v := .int (f_t_place + (1 : Int32))) (ty := .int) (C := RX9) (T := TX9) (N := 9) hx hb hts i_X9_advance_X9 tyX9 tyX9_ok nmX9 hown hK hP hD hS 0 rfl rfl 2 (by decide) (hts _ k_X9_advance_2) (fun _ h9 => h9) rfl (by decide +kernel) rfl rfl (Nat.le_of_ble_eq_true rfl) dX9_advance_139 (fun H locs hP hD hS => ?_)
  have hP : va_P G vwCl [(a_t, .inr (9, [.ref a_t_bytes, .int f_t_length, .int (f_t_place + (1 : Int32)), .int f_t_start, .int t1, .int f_t_value, .int f_t_lawTold, .int f_t_slipTold, .int f_t_songTold])), (a_t_bytes, .inl (ca 2, 300, .inl c_t_bytes))] H := hP
  have hD : va_D A [(a_t, .inr (9, [.ref a_t_bytes, .int f_t_length, .int (f_t_place + (1 : Int32)), .int f_t_start, .int t1, .int f_t_value, .int f_t_lawTold, .int f_t_slipTold, .int f_t_songTold])), (a_t_bytes, .inl (ca 2, 300, .inl c_t_bytes))] := hD
  have h := sm_i h
  subst h
  exact W.vret hx hb hr (fun t ht hW => ⟨⟨(), rfl, trivial, by rw [ht]; exact hP, hD⟩, hS.F ht⟩) hS.2.2 dX9_advance_142
def F_X9_advance_38 (c_t_bytes : Nat → Int32) (f_t_length : Int32) (f_t_place : Int32) (f_t_start : Int32) (f_t_token : Int32) (f_t_value : Int32) : Option (Int32 × Int32 × Int32 × Int32) := if f_t_place < f_t_length then ((F_X9_isLetter c_t_bytes f_t_length f_t_place).bind (fun u2 => if u2 = 0 then ((F_X9_isDigit c_t_bytes f_t_length f_t_place).bind (fun u5 => if u5 = 0 then (if ok_I f_t_place 300 = true then if (c_t_bytes f_t_place.toNatClampNeg) = (59 : Int32) then (F_X9_advance_129 c_t_bytes f_t_length f_t_place f_t_place f_t_token f_t_value (3 : Int32)) else (F_X9_advance_129 c_t_bytes f_t_length f_t_place f_t_place f_t_token f_t_value (4 : Int32)) else none) else ((F_X9_numberAtPlace c_t_bytes f_t_length f_t_place f_t_place f_t_value).bind (fun u10 => some (u10.2.1, f_t_place, u10.1, u10.2.2))))) else ((F_X9_wordAtPlace c_t_bytes f_t_length f_t_place).bind (fun u12 => some (u12.2, f_t_place, u12.1, f_t_value))))) else (some (f_t_place, f_t_place, (0 : Int32), f_t_value))
set_option maxHeartbeats 4000000 in
set_option maxRecDepth 100000 in
theorem w_X9_advance_38 {p : Program} {l : Launch} {e : Env} {s : State} {m : MethodId} {args : Array Value} {below : List Frame} {meth : Method} {c : Code} {G : va_G} {ca : Nat → ClassId} {ad av : Nat → Nat} {A : Nat → Prop} (X0 : CX_ p s m args meth c cX9_advance 1 none wsX9_advance RX9 G ca ad av A) (a_t : Nat) (a_t_bytes : Nat) (f_t_lawTold : Int32) (f_t_slipTold : Int32) (f_t_songTold : Int32) (c_t_bytes : Nat → Int32) (f_t_length : Int32) (res : Int32 × Int32 × Int32 × Int32) (f_t_place : Int32) (f_t_start : Int32) (f_t_token : Int32) (f_t_value : Int32) (h : F_X9_advance_38 c_t_bytes f_t_length f_t_place f_t_start f_t_token f_t_value = some res) : ∀ (H : Heap) (locs : List Loc), va_P G vwCl [(a_t, .inr (9, [.ref a_t_bytes, .int f_t_length, .int f_t_place, .int f_t_start, .int f_t_token, .int f_t_value, .int f_t_lawTold, .int f_t_slipTold, .int f_t_songTold])), (a_t_bytes, .inl (ca 2, 300, .inl c_t_bytes))] H → va_D A [(a_t, .inr (9, [.ref a_t_bytes, .int f_t_length, .int f_t_place, .int f_t_start, .int f_t_token, .int f_t_value, .int f_t_lawTold, .int f_t_slipTold, .int f_t_songTold])), (a_t_bytes, .inl (ca 2, 300, .inl c_t_bytes))] → va_S A s.heap H locs → ∀ (ls : Array Slot), lv_has ls 1 [(0, .ref a_t)] → W p l e RM_X9_advance s m args below meth c H locs 0 0 (MQ below (QV_ G A [(a_t, .inr (9, [.ref a_t_bytes, .int f_t_length, .int res.1, .int res.2.1, .int res.2.2.1, .int res.2.2.2, .int f_t_lawTold, .int f_t_slipTold, .int f_t_songTold])), (a_t_bytes, .inl (ca 2, 300, .inl c_t_bytes))]) args s 0 0 A) (F0 m 38 ls []) := by
  obtain ⟨hx, hb, hr, hml, hown, hts, hlocks, hK, hA, hE⟩ := id X0
  intro H locs hP hD hS ls hl
  unfold F_X9_advance_38 at h
  refine lv_aload_n hx hb dX9_advance_38 rfl (lv_at hl 0 rfl) ?_
  refine lv_aload_n hx hb dX9_advance_39 rfl (lv_at hl 0 rfl) ?_
  refine va_get (D := G) (ci := 9) (v := .int f_t_place) (C := RX9) (T := TX9) (N := 9) hx hb hts i_X9_advance_X9 hown hK hP 0 rfl rfl 2 (by decide) (hts _ k_X9_advance_2) (fun _ h9 => h9) rfl dX9_advance_40 ?_
  refine va_put (D := G) (ci := 9) (v := .int f_t_place) (ty := .int) (C := RX9) (T := TX9) (N := 9) hx hb hts i_X9_advance_X9 tyX9 tyX9_ok nmX9 hown hK hP hD hS 0 rfl rfl 3 (by decide) (hts _ k_X9_advance_3) (fun _ h9 => h9) rfl (by decide +kernel) rfl rfl (Nat.le_of_ble_eq_true rfl) dX9_advance_43 (fun H locs hP hD hS => ?_)
  have hP : va_P G vwCl [(a_t, .inr (9, [.ref a_t_bytes, .int f_t_length, .int f_t_place, .int f_t_place, .int f_t_token, .int f_t_value, .int f_t_lawTold, .int f_t_slipTold, .int f_t_songTold])), (a_t_bytes, .inl (ca 2, 300, .inl c_t_bytes))] H := hP
  have hD : va_D A [(a_t, .inr (9, [.ref a_t_bytes, .int f_t_length, .int f_t_place, .int f_t_place, .int f_t_token, .int f_t_value, .int f_t_lawTold, .int f_t_slipTold, .int f_t_songTold])), (a_t_bytes, .inl (ca 2, 300, .inl c_t_bytes))] := hD
  refine lv_aload_n hx hb dX9_advance_46 rfl (lv_at hl 0 rfl) ?_
  refine va_get (D := G) (ci := 9) (v := .int f_t_place) (C := RX9) (T := TX9) (N := 9) hx hb hts i_X9_advance_X9 hown hK hP 0 rfl rfl 2 (by decide) (hts _ k_X9_advance_2) (fun _ h9 => h9) rfl dX9_advance_47 ?_
  refine lv_aload_n hx hb dX9_advance_50 rfl (lv_at hl 0 rfl) ?_
  refine va_get (D := G) (ci := 9) (v := .int f_t_length) (C := RX9) (T := TX9) (N := 9) hx hb hts i_X9_advance_X9 hown hK hP 0 rfl rfl 1 (by decide) (hts _ k_X9_advance_4) (fun _ h9 => h9) rfl dX9_advance_51 ?_
  refine lv_icmp_lt (tgt := 65) hx hb dX9_advance_54 (by decide) (fun b1 => ?_) (fun b1 => ?_)
  · have h := (if_pos b1).symm.trans h
    refine lv_aload_n hx hb dX9_advance_65 rfl (lv_at hl 0 rfl) ?_
    refine lv_aload_n hx hb dX9_advance_66 rfl (lv_at hl 0 rfl) ?_
    refine va_get (D := G) (ci := 9) (v := .int f_t_place) (C := RX9) (T := TX9) (N := 9) hx hb hts i_X9_advance_X9 hown hK hP 0 rfl rfl 2 (by decide) (hts _ k_X9_advance_2) (fun _ h9 => h9) rfl dX9_advance_67 ?_
    obtain ⟨u2, hc3, h⟩ := bd_o h
    refine jn_i (wr := []) (ws' := [(a_t, .inr (9, [.ref a_t_bytes, .int f_t_length, .int f_t_place, .int f_t_place, .int f_t_token, .int f_t_value, .int f_t_lawTold, .int f_t_slipTold, .int f_t_songTold])), (a_t_bytes, .inl (ca 2, 300, .inl c_t_bytes))]) (va_runV (As := [.int f_t_place]) (rest := []) ⟨hx, hb, hml, hown, hts⟩ (c_X9_isLetter l G ca ad av H.size a_t a_t_bytes f_t_place f_t_place f_t_token f_t_value f_t_lawTold f_t_slipTold f_t_songTold c_t_bytes f_t_length f_t_place u2 hc3) (cwV 1 hts gX9_advance_X9_isLetter rfl rfl rfl (by decide +kernel) ⟨Nat.le_of_ble_eq_true rfl, Nat.le_of_ble_eq_true rfl⟩) (pre_v (q0 := 0) (ci := 9) hK hE hA hP hD hS [0, 1] rfl (by decide) rfl rfl) rfl rfl hl.1 rfl (lv_room (Nat.le_of_ble_eq_true rfl)) dX9_advance_70 ⟨Nat.le_of_ble_eq_true rfl, Nat.le_of_ble_eq_true rfl⟩) hA hP hD hS [0, 1] [] [0, 1] rfl rfl (by decide) (by decide) (by decide) rfl (fun H locs hP hD hS => ?_)
    refine lv_if_eq (tgt := 87) hx hb dX9_advance_73 (by decide) (fun b4 => ?_) (fun b4 => ?_)
    · have h := (if_pos b4).symm.trans h
      refine lv_aload_n hx hb dX9_advance_87 rfl (lv_at hl 0 rfl) ?_
      refine lv_aload_n hx hb dX9_advance_88 rfl (lv_at hl 0 rfl) ?_
      refine va_get (D := G) (ci := 9) (v := .int f_t_place) (C := RX9) (T := TX9) (N := 9) hx hb hts i_X9_advance_X9 hown hK hP 0 rfl rfl 2 (by decide) (hts _ k_X9_advance_2) (fun _ h9 => h9) rfl dX9_advance_89 ?_
      obtain ⟨u5, hc6, h⟩ := bd_o h
      refine jn_i (wr := []) (ws' := [(a_t, .inr (9, [.ref a_t_bytes, .int f_t_length, .int f_t_place, .int f_t_place, .int f_t_token, .int f_t_value, .int f_t_lawTold, .int f_t_slipTold, .int f_t_songTold])), (a_t_bytes, .inl (ca 2, 300, .inl c_t_bytes))]) (va_runV (As := [.int f_t_place]) (rest := []) ⟨hx, hb, hml, hown, hts⟩ (c_X9_isDigit l G ca ad av H.size a_t a_t_bytes f_t_place f_t_place f_t_token f_t_value f_t_lawTold f_t_slipTold f_t_songTold c_t_bytes f_t_length f_t_place u5 hc6) (cwV 1 hts gX9_advance_X9_isDigit rfl rfl rfl (by decide +kernel) ⟨Nat.le_of_ble_eq_true rfl, Nat.le_of_ble_eq_true rfl⟩) (pre_v (q0 := 0) (ci := 9) hK hE hA hP hD hS [0, 1] rfl (by decide) rfl rfl) rfl rfl hl.1 rfl (lv_room (Nat.le_of_ble_eq_true rfl)) dX9_advance_92 ⟨Nat.le_of_ble_eq_true rfl, Nat.le_of_ble_eq_true rfl⟩) hA hP hD hS [0, 1] [] [0, 1] rfl rfl (by decide) (by decide) (by decide) rfl (fun H locs hP hD hS => ?_)
      refine lv_if_eq (tgt := 109) hx hb dX9_advance_95 (by decide) (fun b7 => ?_) (fun b7 => ?_)
      · have h := (if_pos b7).symm.trans h
        refine lv_aload_n hx hb dX9_advance_109 rfl (lv_at hl 0 rfl) ?_
        refine lv_aload_n hx hb dX9_advance_110 rfl (lv_at hl 0 rfl) ?_
        refine va_get (D := G) (ci := 9) (v := .ref a_t_bytes) (C := RX9) (T := TX9) (N := 9) hx hb hts i_X9_advance_X9 hown hK hP 0 rfl rfl 0 (by decide) (hts _ k_X9_advance_5) (fun _ h9 => h9) rfl dX9_advance_111 ?_
        refine lv_aload_n hx hb dX9_advance_114 rfl (lv_at hl 0 rfl) ?_
        refine va_get (D := G) (ci := 9) (v := .int f_t_place) (C := RX9) (T := TX9) (N := 9) hx hb hts i_X9_advance_X9 hown hK hP 0 rfl rfl 2 (by decide) (hts _ k_X9_advance_2) (fun _ h9 => h9) rfl dX9_advance_115 ?_
        obtain ⟨g8, h⟩ := gd_t h
        refine va_bald hx hb hK hP 1 2 rfl rfl (ok_in g8) dX9_advance_118 ?_
        refine lv_bipush (v := 59) hx hb dX9_advance_119 (by decide) ?_
        refine lv_icmp_ne (tgt := 128) hx hb dX9_advance_121 (by decide) (fun b9 => ?_) (fun b9 => ?_)
        · have h := (if_neg b9).symm.trans h
          refine lv_iconst (v := 4) hx hb dX9_advance_128 (by decide) ?_
          exact w_X9_advance_129 X0 a_t a_t_bytes f_t_lawTold f_t_slipTold f_t_songTold c_t_bytes f_t_length _ f_t_place f_t_place f_t_token f_t_value (4 : Int32) h H locs hP hD hS ls (lv_sub hl [0] rfl)
        · have h := (if_pos b9).symm.trans h
          refine lv_iconst (v := 3) hx hb dX9_advance_124 (by decide) ?_
          refine lv_goto (tgt := 129) hx hb dX9_advance_125 (by decide) ?_
          exact w_X9_advance_129 X0 a_t a_t_bytes f_t_lawTold f_t_slipTold f_t_songTold c_t_bytes f_t_length _ f_t_place f_t_place f_t_token f_t_value (3 : Int32) h H locs hP hD hS ls (lv_sub hl [0] rfl)
      · have h := (if_neg b7).symm.trans h
        refine lv_aload_n hx hb dX9_advance_98 rfl (lv_at hl 0 rfl) ?_
        refine lv_aload_n hx hb dX9_advance_99 rfl (lv_at hl 0 rfl) ?_
        obtain ⟨u10, hc11, h⟩ := bd_o h
        refine jn_i (wr := []) (ws' := [(a_t, .inr (9, [.ref a_t_bytes, .int f_t_length, .int u10.2.1, .int f_t_place, .int f_t_token, .int u10.2.2, .int f_t_lawTold, .int f_t_slipTold, .int f_t_songTold])), (a_t_bytes, .inl (ca 2, 300, .inl c_t_bytes))]) (va_runV (As := []) (rest := [.ref a_t]) ⟨hx, hb, hml, hown, hts⟩ (c_X9_numberAtPlace l G ca ad av H.size a_t a_t_bytes f_t_token f_t_lawTold f_t_slipTold f_t_songTold c_t_bytes f_t_length f_t_place f_t_place f_t_value u10 hc11) (cwV 0 hts gX9_advance_X9_numberAtPlace rfl rfl rfl (by decide +kernel) ⟨Nat.le_of_ble_eq_true rfl, Nat.le_of_ble_eq_true rfl⟩) (pre_v (q0 := 0) (ci := 9) hK hE hA hP hD hS [0, 1] rfl (by decide) rfl rfl) rfl rfl hl.1 rfl (lv_room (Nat.le_of_ble_eq_true rfl)) dX9_advance_100 ⟨Nat.le_of_ble_eq_true rfl, Nat.le_of_ble_eq_true rfl⟩) hA hP hD hS [0, 1] [] [0, 1] rfl rfl (by decide) (by decide) (by decide) rfl (fun H locs hP hD hS => ?_)
        refine va_put (D := G) (ci := 9) (v := .int u10.1) (ty := .int) (C := RX9) (T := TX9) (N := 9) hx hb hts i_X9_advance_X9 tyX9 tyX9_ok nmX9 hown hK hP hD hS 0 rfl rfl 4 (by decide) (hts _ k_X9_advance_0) (fun _ h9 => h9) rfl (by decide +kernel) rfl rfl (Nat.le_of_ble_eq_true rfl) dX9_advance_103 (fun H locs hP hD hS => ?_)
        have hP : va_P G vwCl [(a_t, .inr (9, [.ref a_t_bytes, .int f_t_length, .int u10.2.1, .int f_t_place, .int u10.1, .int u10.2.2, .int f_t_lawTold, .int f_t_slipTold, .int f_t_songTold])), (a_t_bytes, .inl (ca 2, 300, .inl c_t_bytes))] H := hP
        have hD : va_D A [(a_t, .inr (9, [.ref a_t_bytes, .int f_t_length, .int u10.2.1, .int f_t_place, .int u10.1, .int u10.2.2, .int f_t_lawTold, .int f_t_slipTold, .int f_t_songTold])), (a_t_bytes, .inl (ca 2, 300, .inl c_t_bytes))] := hD
        refine lv_goto (tgt := 142) hx hb dX9_advance_106 (by decide) ?_
        have h := sm_i h
        subst h
        exact W.vret hx hb hr (fun t ht hW => ⟨⟨(), rfl, trivial, by rw [ht]; exact hP, hD⟩, hS.F ht⟩) hS.2.2 dX9_advance_142
    · have h := (if_neg b4).symm.trans h
      refine lv_aload_n hx hb dX9_advance_76 rfl (lv_at hl 0 rfl) ?_
      refine lv_aload_n hx hb dX9_advance_77 rfl (lv_at hl 0 rfl) ?_
      obtain ⟨u12, hc13, h⟩ := bd_o h
      refine jn_i (wr := []) (ws' := [(a_t, .inr (9, [.ref a_t_bytes, .int f_t_length, .int u12.2, .int f_t_place, .int f_t_token, .int f_t_value, .int f_t_lawTold, .int f_t_slipTold, .int f_t_songTold])), (a_t_bytes, .inl (ca 2, 300, .inl c_t_bytes))]) (va_runV (As := []) (rest := [.ref a_t]) ⟨hx, hb, hml, hown, hts⟩ (c_X9_wordAtPlace l G ca ad av H.size a_t a_t_bytes f_t_place f_t_token f_t_value f_t_lawTold f_t_slipTold f_t_songTold c_t_bytes f_t_length f_t_place u12 hc13) (cwV 0 hts gX9_advance_X9_wordAtPlace rfl rfl rfl (by decide +kernel) ⟨Nat.le_of_ble_eq_true rfl, Nat.le_of_ble_eq_true rfl⟩) (pre_v (q0 := 0) (ci := 9) hK hE hA hP hD hS [0, 1] rfl (by decide) rfl rfl) rfl rfl hl.1 rfl (lv_room (Nat.le_of_ble_eq_true rfl)) dX9_advance_78 ⟨Nat.le_of_ble_eq_true rfl, Nat.le_of_ble_eq_true rfl⟩) hA hP hD hS [0, 1] [] [0, 1] rfl rfl (by decide) (by decide) (by decide) rfl (fun H locs hP hD hS => ?_)
      refine va_put (D := G) (ci := 9) (v := .int u12.1) (ty := .int) (C := RX9) (T := TX9) (N := 9) hx hb hts i_X9_advance_X9 tyX9 tyX9_ok nmX9 hown hK hP hD hS 0 rfl rfl 4 (by decide) (hts _ k_X9_advance_0) (fun _ h9 => h9) rfl (by decide +kernel) rfl rfl (Nat.le_of_ble_eq_true rfl) dX9_advance_81 (fun H locs hP hD hS => ?_)
      have hP : va_P G vwCl [(a_t, .inr (9, [.ref a_t_bytes, .int f_t_length, .int u12.2, .int f_t_place, .int u12.1, .int f_t_value, .int f_t_lawTold, .int f_t_slipTold, .int f_t_songTold])), (a_t_bytes, .inl (ca 2, 300, .inl c_t_bytes))] H := hP
      have hD : va_D A [(a_t, .inr (9, [.ref a_t_bytes, .int f_t_length, .int u12.2, .int f_t_place, .int u12.1, .int f_t_value, .int f_t_lawTold, .int f_t_slipTold, .int f_t_songTold])), (a_t_bytes, .inl (ca 2, 300, .inl c_t_bytes))] := hD
      refine lv_goto (tgt := 142) hx hb dX9_advance_84 (by decide) ?_
      have h := sm_i h
      subst h
      exact W.vret hx hb hr (fun t ht hW => ⟨⟨(), rfl, trivial, by rw [ht]; exact hP, hD⟩, hS.F ht⟩) hS.2.2 dX9_advance_142
  · have h := (if_neg b1).symm.trans h
    refine lv_aload_n hx hb dX9_advance_57 rfl (lv_at hl 0 rfl) ?_
    refine lv_iconst (v := 0) hx hb dX9_advance_58 (by decide) ?_
    refine va_put (D := G) (ci := 9) (v := .int (0 : Int32)) (ty := .int) (C := RX9) (T := TX9) (N := 9) hx hb hts i_X9_advance_X9 tyX9 tyX9_ok nmX9 hown hK hP hD hS 0 rfl rfl 4 (by decide) (hts _ k_X9_advance_0) (fun _ h9 => h9) rfl (by decide +kernel) rfl rfl (Nat.le_of_ble_eq_true rfl) dX9_advance_59 (fun H locs hP hD hS => ?_)
    have hP : va_P G vwCl [(a_t, .inr (9, [.ref a_t_bytes, .int f_t_length, .int f_t_place, .int f_t_place, .int (0 : Int32), .int f_t_value, .int f_t_lawTold, .int f_t_slipTold, .int f_t_songTold])), (a_t_bytes, .inl (ca 2, 300, .inl c_t_bytes))] H := hP
    have hD : va_D A [(a_t, .inr (9, [.ref a_t_bytes, .int f_t_length, .int f_t_place, .int f_t_place, .int (0 : Int32), .int f_t_value, .int f_t_lawTold, .int f_t_slipTold, .int f_t_songTold])), (a_t_bytes, .inl (ca 2, 300, .inl c_t_bytes))] := hD
    refine lv_goto (tgt := 142) hx hb dX9_advance_62 (by decide) ?_
    have h := sm_i h
    subst h
    exact W.vret hx hb hr (fun t ht hW => ⟨⟨(), rfl, trivial, by rw [ht]; exact hP, hD⟩, hS.F ht⟩) hS.2.2 dX9_advance_142
def F_X9_advance_0 (c_t_bytes : Nat → Int32) (f_t_length : Int32) : Nat → Int32 → Int32 → Int32 → Int32 → Option (Int32 × Int32 × Int32 × Int32)
  | 0, _, _, _, _ => none
  | n + 1, f_t_place, f_t_start, f_t_token, f_t_value => if f_t_length ≤ f_t_place then (F_X9_advance_38 c_t_bytes f_t_length f_t_place f_t_start f_t_token f_t_value) else (if ok_I f_t_place 300 = true then if (c_t_bytes f_t_place.toNatClampNeg) = (32 : Int32) then (F_X9_advance_0 c_t_bytes f_t_length n (f_t_place + (1 : Int32)) f_t_start f_t_token f_t_value) else (F_X9_advance_38 c_t_bytes f_t_length f_t_place f_t_start f_t_token f_t_value) else none)
set_option maxHeartbeats 4000000 in
set_option maxRecDepth 100000 in
theorem w_X9_advance_0 {p : Program} {l : Launch} {e : Env} {s : State} {m : MethodId} {args : Array Value} {below : List Frame} {meth : Method} {c : Code} {G : va_G} {ca : Nat → ClassId} {ad av : Nat → Nat} {A : Nat → Prop} (X0 : CX_ p s m args meth c cX9_advance 1 none wsX9_advance RX9 G ca ad av A) (a_t : Nat) (a_t_bytes : Nat) (f_t_lawTold : Int32) (f_t_slipTold : Int32) (f_t_songTold : Int32) (c_t_bytes : Nat → Int32) (f_t_length : Int32) (res : Int32 × Int32 × Int32 × Int32) : ∀ (n : Nat) (f_t_place : Int32) (f_t_start : Int32) (f_t_token : Int32) (f_t_value : Int32), F_X9_advance_0 c_t_bytes f_t_length n f_t_place f_t_start f_t_token f_t_value = some res → ∀ (H : Heap) (locs : List Loc), va_P G vwCl [(a_t, .inr (9, [.ref a_t_bytes, .int f_t_length, .int f_t_place, .int f_t_start, .int f_t_token, .int f_t_value, .int f_t_lawTold, .int f_t_slipTold, .int f_t_songTold])), (a_t_bytes, .inl (ca 2, 300, .inl c_t_bytes))] H → va_D A [(a_t, .inr (9, [.ref a_t_bytes, .int f_t_length, .int f_t_place, .int f_t_start, .int f_t_token, .int f_t_value, .int f_t_lawTold, .int f_t_slipTold, .int f_t_songTold])), (a_t_bytes, .inl (ca 2, 300, .inl c_t_bytes))] → va_S A s.heap H locs → ∀ (ls : Array Slot), lv_has ls 1 [(0, .ref a_t)] → W p l e RM_X9_advance s m args below meth c H locs 0 0 (MQ below (QV_ G A [(a_t, .inr (9, [.ref a_t_bytes, .int f_t_length, .int res.1, .int res.2.1, .int res.2.2.1, .int res.2.2.2, .int f_t_lawTold, .int f_t_slipTold, .int f_t_songTold])), (a_t_bytes, .inl (ca 2, 300, .inl c_t_bytes))]) args s 0 0 A) (F0 m 0 ls []) := by
  obtain ⟨hx, hb, hr, hml, hown, hts, hlocks, hK, hA, hE⟩ := id X0
  intro n
  induction n with
  | zero => intro f_t_place f_t_start f_t_token f_t_value h; cases h
  | succ n ih =>
    intro f_t_place f_t_start f_t_token f_t_value h H locs hP hD hS ls hl
    rw [F_X9_advance_0] at h
    refine lv_aload_n hx hb dX9_advance_0 rfl (lv_at hl 0 rfl) ?_
    refine va_get (D := G) (ci := 9) (v := .int f_t_place) (C := RX9) (T := TX9) (N := 9) hx hb hts i_X9_advance_X9 hown hK hP 0 rfl rfl 2 (by decide) (hts _ k_X9_advance_2) (fun _ h9 => h9) rfl dX9_advance_1 ?_
    refine lv_aload_n hx hb dX9_advance_4 rfl (lv_at hl 0 rfl) ?_
    refine va_get (D := G) (ci := 9) (v := .int f_t_length) (C := RX9) (T := TX9) (N := 9) hx hb hts i_X9_advance_X9 hown hK hP 0 rfl rfl 1 (by decide) (hts _ k_X9_advance_4) (fun _ h9 => h9) rfl dX9_advance_5 ?_
    refine lv_icmp_ge (tgt := 38) hx hb dX9_advance_8 (by decide) (fun b14 => ?_) (fun b14 => ?_)
    · have h := (if_pos b14).symm.trans h
      exact w_X9_advance_38 X0 a_t a_t_bytes f_t_lawTold f_t_slipTold f_t_songTold c_t_bytes f_t_length _ f_t_place f_t_start f_t_token f_t_value h H locs hP hD hS ls (lv_sub hl [0] rfl)
    · have h := (if_neg b14).symm.trans h
      refine lv_aload_n hx hb dX9_advance_11 rfl (lv_at hl 0 rfl) ?_
      refine va_get (D := G) (ci := 9) (v := .ref a_t_bytes) (C := RX9) (T := TX9) (N := 9) hx hb hts i_X9_advance_X9 hown hK hP 0 rfl rfl 0 (by decide) (hts _ k_X9_advance_5) (fun _ h9 => h9) rfl dX9_advance_12 ?_
      refine lv_aload_n hx hb dX9_advance_15 rfl (lv_at hl 0 rfl) ?_
      refine va_get (D := G) (ci := 9) (v := .int f_t_place) (C := RX9) (T := TX9) (N := 9) hx hb hts i_X9_advance_X9 hown hK hP 0 rfl rfl 2 (by decide) (hts _ k_X9_advance_2) (fun _ h9 => h9) rfl dX9_advance_16 ?_
      obtain ⟨g15, h⟩ := gd_t h
      refine va_bald hx hb hK hP 1 2 rfl rfl (ok_in g15) dX9_advance_19 ?_
      refine lv_bipush (v := 32) hx hb dX9_advance_20 (by decide) ?_
      refine lv_icmp_ne (tgt := 38) hx hb dX9_advance_22 (by decide) (fun b16 => ?_) (fun b16 => ?_)
      · have h := (if_neg b16).symm.trans h
        exact w_X9_advance_38 X0 a_t a_t_bytes f_t_lawTold f_t_slipTold f_t_songTold c_t_bytes f_t_length _ f_t_place f_t_start f_t_token f_t_value h H locs hP hD hS ls (lv_sub hl [0] rfl)
      · have h := (if_pos b16).symm.trans h
        refine lv_aload_n hx hb dX9_advance_25 rfl (lv_at hl 0 rfl) ?_
        refine lv_dup hx hb dX9_advance_26 rfl ?_
        refine va_get (D := G) (ci := 9) (v := .int f_t_place) (C := RX9) (T := TX9) (N := 9) hx hb hts i_X9_advance_X9 hown hK hP 0 rfl rfl 2 (by decide) (hts _ k_X9_advance_2) (fun _ h9 => h9) rfl dX9_advance_27 ?_
        refine lv_iconst (v := 1) hx hb dX9_advance_30 (by decide) ?_
        refine lv_iadd hx hb dX9_advance_31 ?_
        refine va_put (D := G) (ci := 9) (v := .int (f_t_place + (1 : Int32))) (ty := .int) (C := RX9) (T := TX9) (N := 9) hx hb hts i_X9_advance_X9 tyX9 tyX9_ok nmX9 hown hK hP hD hS 0 rfl rfl 2 (by decide) (hts _ k_X9_advance_2) (fun _ h9 => h9) rfl (by decide +kernel) rfl rfl (Nat.le_of_ble_eq_true rfl) dX9_advance_32 (fun H locs hP hD hS => ?_)
        have hP : va_P G vwCl [(a_t, .inr (9, [.ref a_t_bytes, .int f_t_length, .int (f_t_place + (1 : Int32)), .int f_t_start, .int f_t_token, .int f_t_value, .int f_t_lawTold, .int f_t_slipTold, .int f_t_songTold])), (a_t_bytes, .inl (ca 2, 300, .inl c_t_bytes))] H := hP
        have hD : va_D A [(a_t, .inr (9, [.ref a_t_bytes, .int f_t_length, .int (f_t_place + (1 : Int32)), .int f_t_start, .int f_t_token, .int f_t_value, .int f_t_lawTold, .int f_t_slipTold, .int f_t_songTold])), (a_t_bytes, .inl (ca 2, 300, .inl c_t_bytes))] := hD
        refine lv_goto (tgt := 0) hx hb dX9_advance_35 (by decide) ?_
        exact ih (f_t_place + (1 : Int32)) f_t_start f_t_token f_t_value h H locs hP hD hS ls (lv_sub hl [0] rfl)
def F_X9_advance (c_t_bytes : Nat → Int32) (f_t_length : Int32) (f_t_place : Int32) (f_t_start : Int32) (f_t_token : Int32) (f_t_value : Int32) : Option (Int32 × Int32 × Int32 × Int32) := F_X9_advance_0 c_t_bytes f_t_length FU_ f_t_place f_t_start f_t_token f_t_value
set_option maxHeartbeats 4000000 in
set_option maxRecDepth 100000 in
theorem c_X9_advance (l : Launch) (G : va_G) (ca : Nat → ClassId) (ad av : Nat → Nat) (sz : Nat) (a_t : Nat) (a_t_bytes : Nat) (f_t_lawTold : Int32) (f_t_slipTold : Int32) (f_t_songTold : Int32) (c_t_bytes : Nat → Int32) (f_t_length : Int32) (f_t_place : Int32) (f_t_start : Int32) (f_t_token : Int32) (f_t_value : Int32) (res : Int32 × Int32 × Int32 × Int32) (h : F_X9_advance c_t_bytes f_t_length f_t_place f_t_start f_t_token f_t_value = some res) : Met l yX9_advance wsX9_advance RM_X9_advance (va_Pc [.ref a_t] (PW_ G ca ad av sz [(a_t, .inr (9, [.ref a_t_bytes, .int f_t_length, .int f_t_place, .int f_t_start, .int f_t_token, .int f_t_value, .int f_t_lawTold, .int f_t_slipTold, .int f_t_songTold])), (a_t_bytes, .inl (ca 2, 300, .inl c_t_bytes))])) (QV_ G (va_A [(a_t, .inr (9, [.ref a_t_bytes, .int f_t_length, .int f_t_place, .int f_t_start, .int f_t_token, .int f_t_value, .int f_t_lawTold, .int f_t_slipTold, .int f_t_songTold])), (a_t_bytes, .inl (ca 2, 300, .inl c_t_bytes))] sz) [(a_t, .inr (9, [.ref a_t_bytes, .int f_t_length, .int res.1, .int res.2.1, .int res.2.2.1, .int res.2.2.2, .int f_t_lawTold, .int f_t_slipTold, .int f_t_songTold])), (a_t_bytes, .inl (ca 2, 300, .inl c_t_bytes))]) 0 0 (va_A [(a_t, .inr (9, [.ref a_t_bytes, .int f_t_length, .int f_t_place, .int f_t_start, .int f_t_token, .int f_t_value, .int f_t_lawTold, .int f_t_slipTold, .int f_t_songTold])), (a_t_bytes, .inl (ca 2, 300, .inl c_t_bytes))] sz) := by
  refine Met.ofW (cc := cX9_advance) (maxL := 1) (ret := none) (by decide) rfl ?_
  intro p e s m args below meth c s₁ B hml hv
  obtain ⟨X0, rfl, rfl, hP, hD⟩ := en_t B hml hv
  have hl := lv_entry ([.ref a_t]) (n := 1) (Nat.le_of_ble_eq_true rfl)
  rw [lg_entry_eq]
  generalize (lg_sl ([.ref a_t]) ++ List.replicate (1 - (lg_sl ([.ref a_t])).length) Slot.unset).toArray = ls at hl ⊢
  unfold F_X9_advance at h
  exact w_X9_advance_0 X0 a_t a_t_bytes f_t_lawTold f_t_slipTold f_t_songTold c_t_bytes f_t_length _ FU_ f_t_place f_t_start f_t_token f_t_value h s.heap [] hP hD va_S.rf ls (lv_sub hl [0] rfl)

/-! X9_isWord_S0 -/
abbrev RM_X9_isWord_S0 : Room := { frames := 4, cells := 0, slots := 0, locals := 85 }
theorem k_X9_isWord_S0_0 : Cond.fieldLink RX9 9 "DropDealers$Reader" "bytes" "[B" ∈ wsX9_isWord := by decide +kernel
theorem i_X9_isWord_S0_X9 : ∀ w ∈ u_ws RX9 TX9 9, w ∈ wsX9_isWord := by decide +kernel
theorem k_X9_isWord_S0_2 : Cond.fieldLink RX9 47 "DropDealers$Reader" "start" "I" ∈ wsX9_isWord := by decide +kernel
theorem k_X9_isWord_S0_3 : Cond.fieldLink RX9 34 "DropDealers$Reader" "place" "I" ∈ wsX9_isWord := by decide +kernel
def F_X9_isWord_S0_20 (c_t_bytes : Nat → Int32) (f_t_place : Int32) (f_t_start : Int32) : Nat → Int32 → Option (Int32)
  | 0, _ => none
  | n + 1, y2 => if (Int32.ofNat (st_len.getD 0 0)) ≤ y2 then (some ((1 : Int32))) else (if ok_I (f_t_start + y2) 300 = true then if ok_I y2 (st_len.getD 0 0) = true then if (c_t_bytes (f_t_start + y2).toNatClampNeg) = (st_ch 0 y2) then (F_X9_isWord_S0_20 c_t_bytes f_t_place f_t_start n (y2 + (1 : Int32))) else (some ((0 : Int32))) else none else none)
set_option maxHeartbeats 4000000 in
set_option maxRecDepth 100000 in
theorem w_X9_isWord_S0_20 {p : Program} {l : Launch} {e : Env} {s : State} {m : MethodId} {args : Array Value} {below : List Frame} {meth : Method} {c : Code} {G : va_G} {ca : Nat → ClassId} {ad av : Nat → Nat} {A : Nat → Prop} (X0 : CX_ p s m args meth c cX9_isWord 3 (some .boolean) wsX9_isWord RX9 G ca ad av A) (a_t : Nat) (a_t_bytes : Nat) (f_t_length : Int32) (f_t_token : Int32) (f_t_value : Int32) (f_t_lawTold : Int32) (f_t_slipTold : Int32) (f_t_songTold : Int32) (c_t_bytes : Nat → Int32) (f_t_place : Int32) (f_t_start : Int32) (res : Int32) : ∀ (n : Nat) (y2 : Int32), F_X9_isWord_S0_20 c_t_bytes f_t_place f_t_start n y2 = some res → ∀ (H : Heap) (locs : List Loc), va_P G vwCl [(a_t, .inr (9, [.ref a_t_bytes, .int f_t_length, .int f_t_place, .int f_t_start, .int f_t_token, .int f_t_value, .int f_t_lawTold, .int f_t_slipTold, .int f_t_songTold])), (a_t_bytes, .inl (ca 2, 300, .inl c_t_bytes))] H → va_D A [(a_t, .inr (9, [.ref a_t_bytes, .int f_t_length, .int f_t_place, .int f_t_start, .int f_t_token, .int f_t_value, .int f_t_lawTold, .int f_t_slipTold, .int f_t_songTold])), (a_t_bytes, .inl (ca 2, 300, .inl c_t_bytes))] → va_S A s.heap H locs → ∀ (ls : Array Slot), lv_has ls 3 [(0, .ref a_t), (1, .ref (ad 0)), (2, .int y2)] → W p l e RM_X9_isWord_S0 s m args below meth c H locs 0 0 (MQ below (QI_ G A res [(a_t, .inr (9, [.ref a_t_bytes, .int f_t_length, .int f_t_place, .int f_t_start, .int f_t_token, .int f_t_value, .int f_t_lawTold, .int f_t_slipTold, .int f_t_songTold])), (a_t_bytes, .inl (ca 2, 300, .inl c_t_bytes))]) args s 0 0 A) (F0 m 20 ls []) := by
  obtain ⟨hx, hb, hr, hml, hown, hts, hlocks, hK, hA, hE⟩ := id X0
  intro n
  induction n with
  | zero => intro y2 h; cases h
  | succ n ih =>
    intro y2 h H locs hP hD hS ls hl
    rw [F_X9_isWord_S0_20] at h
    refine lv_iload_n hx hb dX9_isWord_20 rfl (lv_at hl 2 rfl) ?_
    refine lv_aload_n hx hb dX9_isWord_21 rfl (lv_at hl 1 rfl) ?_
    refine jn_i (wr := [(a_t, .inr (9, [.ref a_t_bytes, .int f_t_length, .int f_t_place, .int f_t_start, .int f_t_token, .int f_t_value, .int f_t_lawTold, .int f_t_slipTold, .int f_t_songTold])), (a_t_bytes, .inl (ca 2, 300, .inl c_t_bytes))]) (ws' := [(a_t, .inr (9, [.ref a_t_bytes, .int f_t_length, .int f_t_place, .int f_t_start, .int f_t_token, .int f_t_value, .int f_t_lawTold, .int f_t_slipTold, .int f_t_songTold])), (a_t_bytes, .inl (ca 2, 300, .inl c_t_bytes))]) (va_runV (As := []) (rest := [.int y2]) ⟨hx, hb, hml, hown, hts⟩ (c_J0_length l G ca ad av H.size 0 (by decide)) (cwV 0 hts gX9_isWord_J0_length_8abf5 rfl rfl rfl (by decide +kernel) ⟨Nat.le_of_ble_eq_true rfl, Nat.le_of_ble_eq_true rfl⟩) (pre_k (k := 0) (by decide) hK hE hA hP hD hS [] rfl (by decide)) rfl rfl hl.1 rfl (lv_room (Nat.le_of_ble_eq_true rfl)) dX9_isWord_22 ⟨Nat.le_of_ble_eq_true rfl, Nat.le_of_ble_eq_true rfl⟩) hA hP hD hS [] [0, 1] [0, 1] rfl rfl (by decide) (by decide) (by decide) rfl (fun H locs hP hD hS => ?_)
    refine lv_icmp_ge (tgt := 55) hx hb dX9_isWord_25 (by decide) (fun b1 => ?_) (fun b1 => ?_)
    · have h := (if_pos b1).symm.trans h
      refine lv_iconst (v := 1) hx hb dX9_isWord_55 (by decide) ?_
      have h := sm_i h
      subst h
      exact W.zret (v := (1 : Int32)) hx hb hr rfl (fun t ht hW => ⟨⟨(1 : Int32), (), rfl, rfl, by rw [ht]; exact hP, hD⟩, hS.F ht⟩) hS.2.2 dX9_isWord_56
    · have h := (if_neg b1).symm.trans h
      refine lv_aload_n hx hb dX9_isWord_28 rfl (lv_at hl 0 rfl) ?_
      refine va_get (D := G) (ci := 9) (v := .ref a_t_bytes) (C := RX9) (T := TX9) (N := 9) hx hb hts i_X9_isWord_S0_X9 hown hK hP 0 rfl rfl 0 (by decide) (hts _ k_X9_isWord_S0_0) (fun _ h9 => h9) rfl dX9_isWord_29 ?_
      refine lv_aload_n hx hb dX9_isWord_32 rfl (lv_at hl 0 rfl) ?_
      refine va_get (D := G) (ci := 9) (v := .int f_t_start) (C := RX9) (T := TX9) (N := 9) hx hb hts i_X9_isWord_S0_X9 hown hK hP 0 rfl rfl 3 (by decide) (hts _ k_X9_isWord_S0_2) (fun _ h9 => h9) rfl dX9_isWord_33 ?_
      refine lv_iload_n hx hb dX9_isWord_36 rfl (lv_at hl 2 rfl) ?_
      refine lv_iadd hx hb dX9_isWord_37 ?_
      obtain ⟨g2, h⟩ := gd_t h
      refine va_bald hx hb hK hP 1 2 rfl rfl (ok_in g2) dX9_isWord_38 ?_
      refine lv_aload_n hx hb dX9_isWord_39 rfl (lv_at hl 1 rfl) ?_
      refine lv_iload_n hx hb dX9_isWord_40 rfl (lv_at hl 2 rfl) ?_
      obtain ⟨g3, h⟩ := gd_t h
      refine jn_i (wr := [(a_t, .inr (9, [.ref a_t_bytes, .int f_t_length, .int f_t_place, .int f_t_start, .int f_t_token, .int f_t_value, .int f_t_lawTold, .int f_t_slipTold, .int f_t_songTold])), (a_t_bytes, .inl (ca 2, 300, .inl c_t_bytes))]) (ws' := [(a_t, .inr (9, [.ref a_t_bytes, .int f_t_length, .int f_t_place, .int f_t_start, .int f_t_token, .int f_t_value, .int f_t_lawTold, .int f_t_slipTold, .int f_t_songTold])), (a_t_bytes, .inl (ca 2, 300, .inl c_t_bytes))]) (va_runV (As := [.int y2]) (rest := [.int (c_t_bytes (f_t_start + y2).toNatClampNeg)]) ⟨hx, hb, hml, hown, hts⟩ (c_J0_charAt l G ca ad av H.size 0 (by decide) y2 g3) (cwV 1 hts gX9_isWord_J0_charAt_5068e rfl rfl rfl (by decide +kernel) ⟨Nat.le_of_ble_eq_true rfl, Nat.le_of_ble_eq_true rfl⟩) (pre_k (k := 0) (by decide) hK hE hA hP hD hS [] rfl (by decide)) rfl rfl hl.1 rfl (lv_room (Nat.le_of_ble_eq_true rfl)) dX9_isWord_41 ⟨Nat.le_of_ble_eq_true rfl, Nat.le_of_ble_eq_true rfl⟩) hA hP hD hS [] [0, 1] [0, 1] rfl rfl (by decide) (by decide) (by decide) rfl (fun H locs hP hD hS => ?_)
      refine lv_icmp_eq (tgt := 49) hx hb dX9_isWord_44 (by decide) (fun b4 => ?_) (fun b4 => ?_)
      · have h := (if_pos b4).symm.trans h
        refine lv_iinc (v := (y2 + (1 : Int32))) (lv' := [(2, .int (y2 + (1 : Int32))), (0, .ref a_t), (1, .ref (ad 0))]) hx hb dX9_isWord_49 hl (k := 2) rfl rfl (by decide) rfl (fun ls hl => ?_)
        refine lv_goto (tgt := 20) hx hb dX9_isWord_52 (by decide) ?_
        exact ih (y2 + (1 : Int32)) h H locs hP hD hS ls (lv_sub hl [1, 2, 0] rfl)
      · have h := (if_neg b4).symm.trans h
        refine lv_iconst (v := 0) hx hb dX9_isWord_47 (by decide) ?_
        have h := sm_i h
        subst h
        exact W.zret (v := (0 : Int32)) hx hb hr rfl (fun t ht hW => ⟨⟨(0 : Int32), (), rfl, rfl, by rw [ht]; exact hP, hD⟩, hS.F ht⟩) hS.2.2 dX9_isWord_48
def F_X9_isWord_S0 (c_t_bytes : Nat → Int32) (f_t_place : Int32) (f_t_start : Int32)  : Option (Int32) := if (f_t_place - f_t_start) = (Int32.ofNat (st_len.getD 0 0)) then (F_X9_isWord_S0_20 c_t_bytes f_t_place f_t_start FU_ (0 : Int32)) else (some ((0 : Int32)))
set_option maxHeartbeats 4000000 in
set_option maxRecDepth 100000 in
theorem w_X9_isWord_S0_0 {p : Program} {l : Launch} {e : Env} {s : State} {m : MethodId} {args : Array Value} {below : List Frame} {meth : Method} {c : Code} {G : va_G} {ca : Nat → ClassId} {ad av : Nat → Nat} {A : Nat → Prop} (X0 : CX_ p s m args meth c cX9_isWord 3 (some .boolean) wsX9_isWord RX9 G ca ad av A) (a_t : Nat) (a_t_bytes : Nat) (f_t_length : Int32) (f_t_token : Int32) (f_t_value : Int32) (f_t_lawTold : Int32) (f_t_slipTold : Int32) (f_t_songTold : Int32) (c_t_bytes : Nat → Int32) (f_t_place : Int32) (f_t_start : Int32) (res : Int32)  (h : F_X9_isWord_S0 c_t_bytes f_t_place f_t_start  = some res) : ∀ (H : Heap) (locs : List Loc), va_P G vwCl [(a_t, .inr (9, [.ref a_t_bytes, .int f_t_length, .int f_t_place, .int f_t_start, .int f_t_token, .int f_t_value, .int f_t_lawTold, .int f_t_slipTold, .int f_t_songTold])), (a_t_bytes, .inl (ca 2, 300, .inl c_t_bytes))] H → va_D A [(a_t, .inr (9, [.ref a_t_bytes, .int f_t_length, .int f_t_place, .int f_t_start, .int f_t_token, .int f_t_value, .int f_t_lawTold, .int f_t_slipTold, .int f_t_songTold])), (a_t_bytes, .inl (ca 2, 300, .inl c_t_bytes))] → va_S A s.heap H locs → ∀ (ls : Array Slot), lv_has ls 3 [(0, .ref a_t), (1, .ref (ad 0))] → W p l e RM_X9_isWord_S0 s m args below meth c H locs 0 0 (MQ below (QI_ G A res [(a_t, .inr (9, [.ref a_t_bytes, .int f_t_length, .int f_t_place, .int f_t_start, .int f_t_token, .int f_t_value, .int f_t_lawTold, .int f_t_slipTold, .int f_t_songTold])), (a_t_bytes, .inl (ca 2, 300, .inl c_t_bytes))]) args s 0 0 A) (F0 m 0 ls []) := by
  obtain ⟨hx, hb, hr, hml, hown, hts, hlocks, hK, hA, hE⟩ := id X0
  intro H locs hP hD hS ls hl
  unfold F_X9_isWord_S0 at h
  refine lv_aload_n hx hb dX9_isWord_0 rfl (lv_at hl 0 rfl) ?_
  refine va_get (D := G) (ci := 9) (v := .int f_t_place) (C := RX9) (T := TX9) (N := 9) hx hb hts i_X9_isWord_S0_X9 hown hK hP 0 rfl rfl 2 (by decide) (hts _ k_X9_isWord_S0_3) (fun _ h9 => h9) rfl dX9_isWord_1 ?_
  refine lv_aload_n hx hb dX9_isWord_4 rfl (lv_at hl 0 rfl) ?_
  refine va_get (D := G) (ci := 9) (v := .int f_t_start) (C := RX9) (T := TX9) (N := 9) hx hb hts i_X9_isWord_S0_X9 hown hK hP 0 rfl rfl 3 (by decide) (hts _ k_X9_isWord_S0_2) (fun _ h9 => h9) rfl dX9_isWord_5 ?_
  refine lv_isub hx hb dX9_isWord_8 ?_
  refine lv_aload_n hx hb dX9_isWord_9 rfl (lv_at hl 1 rfl) ?_
  refine jn_i (wr := [(a_t, .inr (9, [.ref a_t_bytes, .int f_t_length, .int f_t_place, .int f_t_start, .int f_t_token, .int f_t_value, .int f_t_lawTold, .int f_t_slipTold, .int f_t_songTold])), (a_t_bytes, .inl (ca 2, 300, .inl c_t_bytes))]) (ws' := [(a_t, .inr (9, [.ref a_t_bytes, .int f_t_length, .int f_t_place, .int f_t_start, .int f_t_token, .int f_t_value, .int f_t_lawTold, .int f_t_slipTold, .int f_t_songTold])), (a_t_bytes, .inl (ca 2, 300, .inl c_t_bytes))]) (va_runV (As := []) (rest := [.int (f_t_place - f_t_start)]) ⟨hx, hb, hml, hown, hts⟩ (c_J0_length l G ca ad av H.size 0 (by decide)) (cwV 0 hts gX9_isWord_J0_length_8abf5 rfl rfl rfl (by decide +kernel) ⟨Nat.le_of_ble_eq_true rfl, Nat.le_of_ble_eq_true rfl⟩) (pre_k (k := 0) (by decide) hK hE hA hP hD hS [] rfl (by decide)) rfl rfl hl.1 rfl (lv_room (Nat.le_of_ble_eq_true rfl)) dX9_isWord_10 ⟨Nat.le_of_ble_eq_true rfl, Nat.le_of_ble_eq_true rfl⟩) hA hP hD hS [] [0, 1] [0, 1] rfl rfl (by decide) (by decide) (by decide) rfl (fun H locs hP hD hS => ?_)
  refine lv_icmp_eq (tgt := 18) hx hb dX9_isWord_13 (by decide) (fun b5 => ?_) (fun b5 => ?_)
  · have h := (if_pos b5).symm.trans h
    refine lv_iconst (v := 0) hx hb dX9_isWord_18 (by decide) ?_
    refine lv_istore_n (lv' := [(2, .int (0 : Int32)), (0, .ref a_t), (1, .ref (ad 0))]) hx hb dX9_isWord_19 rfl hl (by decide) rfl (fun ls hl => ?_)
    exact w_X9_isWord_S0_20 X0 a_t a_t_bytes f_t_length f_t_token f_t_value f_t_lawTold f_t_slipTold f_t_songTold c_t_bytes f_t_place f_t_start _ FU_ (0 : Int32) h H locs hP hD hS ls (lv_sub hl [1, 2, 0] rfl)
  · have h := (if_neg b5).symm.trans h
    refine lv_iconst (v := 0) hx hb dX9_isWord_16 (by decide) ?_
    have h := sm_i h
    subst h
    exact W.zret (v := (0 : Int32)) hx hb hr rfl (fun t ht hW => ⟨⟨(0 : Int32), (), rfl, rfl, by rw [ht]; exact hP, hD⟩, hS.F ht⟩) hS.2.2 dX9_isWord_17
set_option maxHeartbeats 4000000 in
set_option maxRecDepth 100000 in
theorem c_X9_isWord_S0 (l : Launch) (G : va_G) (ca : Nat → ClassId) (ad av : Nat → Nat) (sz : Nat) (a_t : Nat) (a_t_bytes : Nat) (f_t_length : Int32) (f_t_token : Int32) (f_t_value : Int32) (f_t_lawTold : Int32) (f_t_slipTold : Int32) (f_t_songTold : Int32) (c_t_bytes : Nat → Int32) (f_t_place : Int32) (f_t_start : Int32)  (res : Int32) (h : F_X9_isWord_S0 c_t_bytes f_t_place f_t_start  = some res) : Met l yX9_isWord wsX9_isWord RM_X9_isWord_S0 (va_Pc [.ref a_t, .ref (ad 0)] (PW_ G ca ad av sz [(a_t, .inr (9, [.ref a_t_bytes, .int f_t_length, .int f_t_place, .int f_t_start, .int f_t_token, .int f_t_value, .int f_t_lawTold, .int f_t_slipTold, .int f_t_songTold])), (a_t_bytes, .inl (ca 2, 300, .inl c_t_bytes))])) (QI_ G (va_A [(a_t, .inr (9, [.ref a_t_bytes, .int f_t_length, .int f_t_place, .int f_t_start, .int f_t_token, .int f_t_value, .int f_t_lawTold, .int f_t_slipTold, .int f_t_songTold])), (a_t_bytes, .inl (ca 2, 300, .inl c_t_bytes))] sz) res [(a_t, .inr (9, [.ref a_t_bytes, .int f_t_length, .int f_t_place, .int f_t_start, .int f_t_token, .int f_t_value, .int f_t_lawTold, .int f_t_slipTold, .int f_t_songTold])), (a_t_bytes, .inl (ca 2, 300, .inl c_t_bytes))]) 0 0 (va_A [(a_t, .inr (9, [.ref a_t_bytes, .int f_t_length, .int f_t_place, .int f_t_start, .int f_t_token, .int f_t_value, .int f_t_lawTold, .int f_t_slipTold, .int f_t_songTold])), (a_t_bytes, .inl (ca 2, 300, .inl c_t_bytes))] sz) := by
  refine Met.ofW (cc := cX9_isWord) (maxL := 3) (ret := (some .boolean)) (by decide) rfl ?_
  intro p e s m args below meth c s₁ B hml hv
  obtain ⟨X0, rfl, rfl, hP, hD⟩ := en_t B hml hv
  have hl := lv_entry ([.ref a_t, .ref (ad 0)]) (n := 3) (Nat.le_of_ble_eq_true rfl)
  rw [lg_entry_eq]
  generalize (lg_sl ([.ref a_t, .ref (ad 0)]) ++ List.replicate (3 - (lg_sl ([.ref a_t, .ref (ad 0)])).length) Slot.unset).toArray = ls at hl ⊢
  exact w_X9_isWord_S0_0 X0 a_t a_t_bytes f_t_length f_t_token f_t_value f_t_lawTold f_t_slipTold f_t_songTold c_t_bytes f_t_place f_t_start _  h s.heap [] hP hD va_S.rf ls hl

/-! X9_takeNumber -/
abbrev RM_X9_takeNumber : Room := { frames := 3, cells := 0, slots := 0, locals := 65 }
theorem k_X9_takeNumber_0 : Cond.fieldLink RX9 40 "DropDealers$Reader" "token" "I" ∈ wsX9_takeNumber := by decide +kernel
theorem i_X9_takeNumber_X9 : ∀ w ∈ u_ws RX9 TX9 9, w ∈ wsX9_takeNumber := by decide +kernel
theorem k_X9_takeNumber_2 : Cond.fieldLink RX9 117 "DropDealers$Reader" "value" "I" ∈ wsX9_takeNumber := by decide +kernel
def F_X9_takeNumber (c_t_bytes : Nat → Int32) (f_t_length : Int32) (f_t_place : Int32) (f_t_start : Int32) (f_t_token : Int32) (f_t_value : Int32) (x1 : Int32) (x2 : Int32) : Option (Int32 × Int32 × Int32 × Int32 × Int32) := if f_t_token = (2 : Int32) then (if f_t_value < x1 then (some ((-1 : Int32), f_t_place, f_t_start, f_t_token, f_t_value)) else (if f_t_value ≤ x2 then ((F_X9_advance c_t_bytes f_t_length f_t_place f_t_start f_t_token f_t_value).bind (fun u4 => some (f_t_value, u4.1, u4.2.1, u4.2.2.1, u4.2.2.2))) else (some ((-1 : Int32), f_t_place, f_t_start, f_t_token, f_t_value)))) else (some ((-1 : Int32), f_t_place, f_t_start, f_t_token, f_t_value))
set_option maxHeartbeats 4000000 in
set_option maxRecDepth 100000 in
theorem w_X9_takeNumber_0 {p : Program} {l : Launch} {e : Env} {s : State} {m : MethodId} {args : Array Value} {below : List Frame} {meth : Method} {c : Code} {G : va_G} {ca : Nat → ClassId} {ad av : Nat → Nat} {A : Nat → Prop} (X0 : CX_ p s m args meth c cX9_takeNumber 4 (some .int) wsX9_takeNumber RX9 G ca ad av A) (a_t : Nat) (a_t_bytes : Nat) (f_t_lawTold : Int32) (f_t_slipTold : Int32) (f_t_songTold : Int32) (c_t_bytes : Nat → Int32) (f_t_length : Int32) (res : Int32 × Int32 × Int32 × Int32 × Int32) (f_t_place : Int32) (f_t_start : Int32) (f_t_token : Int32) (f_t_value : Int32) (x1 : Int32) (x2 : Int32) (h : F_X9_takeNumber c_t_bytes f_t_length f_t_place f_t_start f_t_token f_t_value x1 x2 = some res) : ∀ (H : Heap) (locs : List Loc), va_P G vwCl [(a_t, .inr (9, [.ref a_t_bytes, .int f_t_length, .int f_t_place, .int f_t_start, .int f_t_token, .int f_t_value, .int f_t_lawTold, .int f_t_slipTold, .int f_t_songTold])), (a_t_bytes, .inl (ca 2, 300, .inl c_t_bytes))] H → va_D A [(a_t, .inr (9, [.ref a_t_bytes, .int f_t_length, .int f_t_place, .int f_t_start, .int f_t_token, .int f_t_value, .int f_t_lawTold, .int f_t_slipTold, .int f_t_songTold])), (a_t_bytes, .inl (ca 2, 300, .inl c_t_bytes))] → va_S A s.heap H locs → ∀ (ls : Array Slot), lv_has ls 4 [(0, .ref a_t), (1, .int x1), (2, .int x2)] → W p l e RM_X9_takeNumber s m args below meth c H locs 0 0 (MQ below (QI_ G A res.1 [(a_t, .inr (9, [.ref a_t_bytes, .int f_t_length, .int res.2.1, .int res.2.2.1, .int res.2.2.2.1, .int res.2.2.2.2, .int f_t_lawTold, .int f_t_slipTold, .int f_t_songTold])), (a_t_bytes, .inl (ca 2, 300, .inl c_t_bytes))]) args s 0 0 A) (F0 m 0 ls []) := by
  obtain ⟨hx, hb, hr, hml, hown, hts, hlocks, hK, hA, hE⟩ := id X0
  intro H locs hP hD hS ls hl
  unfold F_X9_takeNumber at h
  refine lv_aload_n hx hb dX9_takeNumber_0 rfl (lv_at hl 0 rfl) ?_
  refine va_get (D := G) (ci := 9) (v := .int f_t_token) (C := RX9) (T := TX9) (N := 9) hx hb hts i_X9_takeNumber_X9 hown hK hP 0 rfl rfl 4 (by decide) (hts _ k_X9_takeNumber_0) (fun _ h9 => h9) rfl dX9_takeNumber_1 ?_
  refine lv_iconst (v := 2) hx hb dX9_takeNumber_4 (by decide) ?_
  refine lv_icmp_ne (tgt := 24) hx hb dX9_takeNumber_5 (by decide) (fun b1 => ?_) (fun b1 => ?_)
  · have h := (if_neg b1).symm.trans h
    refine lv_iconst (v := -1) hx hb dX9_takeNumber_24 (by decide) ?_
    have h := sm_i h
    subst h
    exact W.iret (v := (-1 : Int32)) hx hb hr (fun t ht hW => ⟨⟨(-1 : Int32), (), rfl, rfl, by rw [ht]; exact hP, hD⟩, hS.F ht⟩) hS.2.2 dX9_takeNumber_25
  · have h := (if_pos b1).symm.trans h
    refine lv_aload_n hx hb dX9_takeNumber_8 rfl (lv_at hl 0 rfl) ?_
    refine va_get (D := G) (ci := 9) (v := .int f_t_value) (C := RX9) (T := TX9) (N := 9) hx hb hts i_X9_takeNumber_X9 hown hK hP 0 rfl rfl 5 (by decide) (hts _ k_X9_takeNumber_2) (fun _ h9 => h9) rfl dX9_takeNumber_9 ?_
    refine lv_iload_n hx hb dX9_takeNumber_12 rfl (lv_at hl 1 rfl) ?_
    refine lv_icmp_lt (tgt := 24) hx hb dX9_takeNumber_13 (by decide) (fun b2 => ?_) (fun b2 => ?_)
    · have h := (if_pos b2).symm.trans h
      refine lv_iconst (v := -1) hx hb dX9_takeNumber_24 (by decide) ?_
      have h := sm_i h
      subst h
      exact W.iret (v := (-1 : Int32)) hx hb hr (fun t ht hW => ⟨⟨(-1 : Int32), (), rfl, rfl, by rw [ht]; exact hP, hD⟩, hS.F ht⟩) hS.2.2 dX9_takeNumber_25
    · have h := (if_neg b2).symm.trans h
      refine lv_aload_n hx hb dX9_takeNumber_16 rfl (lv_at hl 0 rfl) ?_
      refine va_get (D := G) (ci := 9) (v := .int f_t_value) (C := RX9) (T := TX9) (N := 9) hx hb hts i_X9_takeNumber_X9 hown hK hP 0 rfl rfl 5 (by decide) (hts _ k_X9_takeNumber_2) (fun _ h9 => h9) rfl dX9_takeNumber_17 ?_
      refine lv_iload_n hx hb dX9_takeNumber_20 rfl (lv_at hl 2 rfl) ?_
      refine lv_icmp_le (tgt := 26) hx hb dX9_takeNumber_21 (by decide) (fun b3 => ?_) (fun b3 => ?_)
      · have h := (if_pos b3).symm.trans h
        refine lv_aload_n hx hb dX9_takeNumber_26 rfl (lv_at hl 0 rfl) ?_
        refine va_get (D := G) (ci := 9) (v := .int f_t_value) (C := RX9) (T := TX9) (N := 9) hx hb hts i_X9_takeNumber_X9 hown hK hP 0 rfl rfl 5 (by decide) (hts _ k_X9_takeNumber_2) (fun _ h9 => h9) rfl dX9_takeNumber_27 ?_
        refine lv_istore_n (lv' := [(3, .int f_t_value), (0, .ref a_t), (1, .int x1), (2, .int x2)]) hx hb dX9_takeNumber_30 rfl hl (by decide) rfl (fun ls hl => ?_)
        refine lv_aload_n hx hb dX9_takeNumber_31 rfl (lv_at hl 1 rfl) ?_
        obtain ⟨u4, hc5, h⟩ := bd_o h
        refine jn_v (wr := []) (ws' := [(a_t, .inr (9, [.ref a_t_bytes, .int f_t_length, .int u4.1, .int u4.2.1, .int u4.2.2.1, .int u4.2.2.2, .int f_t_lawTold, .int f_t_slipTold, .int f_t_songTold])), (a_t_bytes, .inl (ca 2, 300, .inl c_t_bytes))]) (va_runV (As := []) (rest := []) ⟨hx, hb, hml, hown, hts⟩ (c_X9_advance l G ca ad av H.size a_t a_t_bytes f_t_lawTold f_t_slipTold f_t_songTold c_t_bytes f_t_length f_t_place f_t_start f_t_token f_t_value u4 hc5) (cwV 0 hts gX9_takeNumber_X9_advance rfl rfl rfl (by decide +kernel) ⟨Nat.le_of_ble_eq_true rfl, Nat.le_of_ble_eq_true rfl⟩) (pre_v (q0 := 0) (ci := 9) hK hE hA hP hD hS [0, 1] rfl (by decide) rfl rfl) rfl rfl hl.1 rfl (lv_room (Nat.le_of_ble_eq_true rfl)) dX9_takeNumber_32 ⟨Nat.le_of_ble_eq_true rfl, Nat.le_of_ble_eq_true rfl⟩) hA hP hD hS [0, 1] [] [0, 1] rfl rfl (by decide) (by decide) (by decide) rfl (fun H locs hP hD hS => ?_)
        refine lv_iload_n hx hb dX9_takeNumber_35 rfl (lv_at hl 0 rfl) ?_
        have h := sm_i h
        subst h
        exact W.iret (v := f_t_value) hx hb hr (fun t ht hW => ⟨⟨f_t_value, (), rfl, rfl, by rw [ht]; exact hP, hD⟩, hS.F ht⟩) hS.2.2 dX9_takeNumber_36
      · have h := (if_neg b3).symm.trans h
        refine lv_iconst (v := -1) hx hb dX9_takeNumber_24 (by decide) ?_
        have h := sm_i h
        subst h
        exact W.iret (v := (-1 : Int32)) hx hb hr (fun t ht hW => ⟨⟨(-1 : Int32), (), rfl, rfl, by rw [ht]; exact hP, hD⟩, hS.F ht⟩) hS.2.2 dX9_takeNumber_25
set_option maxHeartbeats 4000000 in
set_option maxRecDepth 100000 in
theorem c_X9_takeNumber (l : Launch) (G : va_G) (ca : Nat → ClassId) (ad av : Nat → Nat) (sz : Nat) (a_t : Nat) (a_t_bytes : Nat) (f_t_lawTold : Int32) (f_t_slipTold : Int32) (f_t_songTold : Int32) (c_t_bytes : Nat → Int32) (f_t_length : Int32) (f_t_place : Int32) (f_t_start : Int32) (f_t_token : Int32) (f_t_value : Int32) (x1 : Int32) (x2 : Int32) (res : Int32 × Int32 × Int32 × Int32 × Int32) (h : F_X9_takeNumber c_t_bytes f_t_length f_t_place f_t_start f_t_token f_t_value x1 x2 = some res) : Met l yX9_takeNumber wsX9_takeNumber RM_X9_takeNumber (va_Pc [.ref a_t, .int x1, .int x2] (PW_ G ca ad av sz [(a_t, .inr (9, [.ref a_t_bytes, .int f_t_length, .int f_t_place, .int f_t_start, .int f_t_token, .int f_t_value, .int f_t_lawTold, .int f_t_slipTold, .int f_t_songTold])), (a_t_bytes, .inl (ca 2, 300, .inl c_t_bytes))])) (QI_ G (va_A [(a_t, .inr (9, [.ref a_t_bytes, .int f_t_length, .int f_t_place, .int f_t_start, .int f_t_token, .int f_t_value, .int f_t_lawTold, .int f_t_slipTold, .int f_t_songTold])), (a_t_bytes, .inl (ca 2, 300, .inl c_t_bytes))] sz) res.1 [(a_t, .inr (9, [.ref a_t_bytes, .int f_t_length, .int res.2.1, .int res.2.2.1, .int res.2.2.2.1, .int res.2.2.2.2, .int f_t_lawTold, .int f_t_slipTold, .int f_t_songTold])), (a_t_bytes, .inl (ca 2, 300, .inl c_t_bytes))]) 0 0 (va_A [(a_t, .inr (9, [.ref a_t_bytes, .int f_t_length, .int f_t_place, .int f_t_start, .int f_t_token, .int f_t_value, .int f_t_lawTold, .int f_t_slipTold, .int f_t_songTold])), (a_t_bytes, .inl (ca 2, 300, .inl c_t_bytes))] sz) := by
  refine Met.ofW (cc := cX9_takeNumber) (maxL := 4) (ret := (some .int)) (by decide) rfl ?_
  intro p e s m args below meth c s₁ B hml hv
  obtain ⟨X0, rfl, rfl, hP, hD⟩ := en_t B hml hv
  have hl := lv_entry ([.ref a_t, .int x1, .int x2]) (n := 4) (Nat.le_of_ble_eq_true rfl)
  rw [lg_entry_eq]
  generalize (lg_sl ([.ref a_t, .int x1, .int x2]) ++ List.replicate (4 - (lg_sl ([.ref a_t, .int x1, .int x2])).length) Slot.unset).toArray = ls at hl ⊢
  exact w_X9_takeNumber_0 X0 a_t a_t_bytes f_t_lawTold f_t_slipTold f_t_songTold c_t_bytes f_t_length _ f_t_place f_t_start f_t_token f_t_value x1 x2 h s.heap [] hP hD va_S.rf ls hl

/-! X9_takeSemicolon -/
abbrev RM_X9_takeSemicolon : Room := { frames := 3, cells := 0, slots := 0, locals := 65 }
theorem k_X9_takeSemicolon_0 : Cond.fieldLink RX9 40 "DropDealers$Reader" "token" "I" ∈ wsX9_takeSemicolon := by decide +kernel
theorem i_X9_takeSemicolon_X9 : ∀ w ∈ u_ws RX9 TX9 9, w ∈ wsX9_takeSemicolon := by decide +kernel
def F_X9_takeSemicolon (c_t_bytes : Nat → Int32) (f_t_length : Int32) (f_t_place : Int32) (f_t_start : Int32) (f_t_token : Int32) (f_t_value : Int32) : Option (Int32 × Int32 × Int32 × Int32 × Int32) := if f_t_token = (3 : Int32) then ((F_X9_advance c_t_bytes f_t_length f_t_place f_t_start f_t_token f_t_value).bind (fun u2 => some ((1 : Int32), u2.1, u2.2.1, u2.2.2.1, u2.2.2.2))) else (some ((0 : Int32), f_t_place, f_t_start, f_t_token, f_t_value))
set_option maxHeartbeats 4000000 in
set_option maxRecDepth 100000 in
theorem w_X9_takeSemicolon_0 {p : Program} {l : Launch} {e : Env} {s : State} {m : MethodId} {args : Array Value} {below : List Frame} {meth : Method} {c : Code} {G : va_G} {ca : Nat → ClassId} {ad av : Nat → Nat} {A : Nat → Prop} (X0 : CX_ p s m args meth c cX9_takeSemicolon 1 (some .boolean) wsX9_takeSemicolon RX9 G ca ad av A) (a_t : Nat) (a_t_bytes : Nat) (f_t_lawTold : Int32) (f_t_slipTold : Int32) (f_t_songTold : Int32) (c_t_bytes : Nat → Int32) (f_t_length : Int32) (res : Int32 × Int32 × Int32 × Int32 × Int32) (f_t_place : Int32) (f_t_start : Int32) (f_t_token : Int32) (f_t_value : Int32) (h : F_X9_takeSemicolon c_t_bytes f_t_length f_t_place f_t_start f_t_token f_t_value = some res) : ∀ (H : Heap) (locs : List Loc), va_P G vwCl [(a_t, .inr (9, [.ref a_t_bytes, .int f_t_length, .int f_t_place, .int f_t_start, .int f_t_token, .int f_t_value, .int f_t_lawTold, .int f_t_slipTold, .int f_t_songTold])), (a_t_bytes, .inl (ca 2, 300, .inl c_t_bytes))] H → va_D A [(a_t, .inr (9, [.ref a_t_bytes, .int f_t_length, .int f_t_place, .int f_t_start, .int f_t_token, .int f_t_value, .int f_t_lawTold, .int f_t_slipTold, .int f_t_songTold])), (a_t_bytes, .inl (ca 2, 300, .inl c_t_bytes))] → va_S A s.heap H locs → ∀ (ls : Array Slot), lv_has ls 1 [(0, .ref a_t)] → W p l e RM_X9_takeSemicolon s m args below meth c H locs 0 0 (MQ below (QI_ G A res.1 [(a_t, .inr (9, [.ref a_t_bytes, .int f_t_length, .int res.2.1, .int res.2.2.1, .int res.2.2.2.1, .int res.2.2.2.2, .int f_t_lawTold, .int f_t_slipTold, .int f_t_songTold])), (a_t_bytes, .inl (ca 2, 300, .inl c_t_bytes))]) args s 0 0 A) (F0 m 0 ls []) := by
  obtain ⟨hx, hb, hr, hml, hown, hts, hlocks, hK, hA, hE⟩ := id X0
  intro H locs hP hD hS ls hl
  unfold F_X9_takeSemicolon at h
  refine lv_aload_n hx hb dX9_takeSemicolon_0 rfl (lv_at hl 0 rfl) ?_
  refine va_get (D := G) (ci := 9) (v := .int f_t_token) (C := RX9) (T := TX9) (N := 9) hx hb hts i_X9_takeSemicolon_X9 hown hK hP 0 rfl rfl 4 (by decide) (hts _ k_X9_takeSemicolon_0) (fun _ h9 => h9) rfl dX9_takeSemicolon_1 ?_
  refine lv_iconst (v := 3) hx hb dX9_takeSemicolon_4 (by decide) ?_
  refine lv_icmp_eq (tgt := 10) hx hb dX9_takeSemicolon_5 (by decide) (fun b1 => ?_) (fun b1 => ?_)
  · have h := (if_pos b1).symm.trans h
    refine lv_aload_n hx hb dX9_takeSemicolon_10 rfl (lv_at hl 0 rfl) ?_
    obtain ⟨u2, hc3, h⟩ := bd_o h
    refine jn_v (wr := []) (ws' := [(a_t, .inr (9, [.ref a_t_bytes, .int f_t_length, .int u2.1, .int u2.2.1, .int u2.2.2.1, .int u2.2.2.2, .int f_t_lawTold, .int f_t_slipTold, .int f_t_songTold])), (a_t_bytes, .inl (ca 2, 300, .inl c_t_bytes))]) (va_runV (As := []) (rest := []) ⟨hx, hb, hml, hown, hts⟩ (c_X9_advance l G ca ad av H.size a_t a_t_bytes f_t_lawTold f_t_slipTold f_t_songTold c_t_bytes f_t_length f_t_place f_t_start f_t_token f_t_value u2 hc3) (cwV 0 hts gX9_takeSemicolon_X9_advance rfl rfl rfl (by decide +kernel) ⟨Nat.le_of_ble_eq_true rfl, Nat.le_of_ble_eq_true rfl⟩) (pre_v (q0 := 0) (ci := 9) hK hE hA hP hD hS [0, 1] rfl (by decide) rfl rfl) rfl rfl hl.1 rfl (lv_room (Nat.le_of_ble_eq_true rfl)) dX9_takeSemicolon_11 ⟨Nat.le_of_ble_eq_true rfl, Nat.le_of_ble_eq_true rfl⟩) hA hP hD hS [0, 1] [] [0, 1] rfl rfl (by decide) (by decide) (by decide) rfl (fun H locs hP hD hS => ?_)
    refine lv_iconst (v := 1) hx hb dX9_takeSemicolon_14 (by decide) ?_
    have h := sm_i h
    subst h
    exact W.zret (v := (1 : Int32)) hx hb hr rfl (fun t ht hW => ⟨⟨(1 : Int32), (), rfl, rfl, by rw [ht]; exact hP, hD⟩, hS.F ht⟩) hS.2.2 dX9_takeSemicolon_15
  · have h := (if_neg b1).symm.trans h
    refine lv_iconst (v := 0) hx hb dX9_takeSemicolon_8 (by decide) ?_
    have h := sm_i h
    subst h
    exact W.zret (v := (0 : Int32)) hx hb hr rfl (fun t ht hW => ⟨⟨(0 : Int32), (), rfl, rfl, by rw [ht]; exact hP, hD⟩, hS.F ht⟩) hS.2.2 dX9_takeSemicolon_9
set_option maxHeartbeats 4000000 in
set_option maxRecDepth 100000 in
theorem c_X9_takeSemicolon (l : Launch) (G : va_G) (ca : Nat → ClassId) (ad av : Nat → Nat) (sz : Nat) (a_t : Nat) (a_t_bytes : Nat) (f_t_lawTold : Int32) (f_t_slipTold : Int32) (f_t_songTold : Int32) (c_t_bytes : Nat → Int32) (f_t_length : Int32) (f_t_place : Int32) (f_t_start : Int32) (f_t_token : Int32) (f_t_value : Int32) (res : Int32 × Int32 × Int32 × Int32 × Int32) (h : F_X9_takeSemicolon c_t_bytes f_t_length f_t_place f_t_start f_t_token f_t_value = some res) : Met l yX9_takeSemicolon wsX9_takeSemicolon RM_X9_takeSemicolon (va_Pc [.ref a_t] (PW_ G ca ad av sz [(a_t, .inr (9, [.ref a_t_bytes, .int f_t_length, .int f_t_place, .int f_t_start, .int f_t_token, .int f_t_value, .int f_t_lawTold, .int f_t_slipTold, .int f_t_songTold])), (a_t_bytes, .inl (ca 2, 300, .inl c_t_bytes))])) (QI_ G (va_A [(a_t, .inr (9, [.ref a_t_bytes, .int f_t_length, .int f_t_place, .int f_t_start, .int f_t_token, .int f_t_value, .int f_t_lawTold, .int f_t_slipTold, .int f_t_songTold])), (a_t_bytes, .inl (ca 2, 300, .inl c_t_bytes))] sz) res.1 [(a_t, .inr (9, [.ref a_t_bytes, .int f_t_length, .int res.2.1, .int res.2.2.1, .int res.2.2.2.1, .int res.2.2.2.2, .int f_t_lawTold, .int f_t_slipTold, .int f_t_songTold])), (a_t_bytes, .inl (ca 2, 300, .inl c_t_bytes))]) 0 0 (va_A [(a_t, .inr (9, [.ref a_t_bytes, .int f_t_length, .int f_t_place, .int f_t_start, .int f_t_token, .int f_t_value, .int f_t_lawTold, .int f_t_slipTold, .int f_t_songTold])), (a_t_bytes, .inl (ca 2, 300, .inl c_t_bytes))] sz) := by
  refine Met.ofW (cc := cX9_takeSemicolon) (maxL := 1) (ret := (some .boolean)) (by decide) rfl ?_
  intro p e s m args below meth c s₁ B hml hv
  obtain ⟨X0, rfl, rfl, hP, hD⟩ := en_t B hml hv
  have hl := lv_entry ([.ref a_t]) (n := 1) (Nat.le_of_ble_eq_true rfl)
  rw [lg_entry_eq]
  generalize (lg_sl ([.ref a_t]) ++ List.replicate (1 - (lg_sl ([.ref a_t])).length) Slot.unset).toArray = ls at hl ⊢
  exact w_X9_takeSemicolon_0 X0 a_t a_t_bytes f_t_lawTold f_t_slipTold f_t_songTold c_t_bytes f_t_length _ f_t_place f_t_start f_t_token f_t_value h s.heap [] hP hD va_S.rf ls hl

/-! X9_readTerrace -/
abbrev RM_X9_readTerrace : Room := { frames := 4, cells := 0, slots := 0, locals := 88 }
theorem k_X9_readTerrace_0 : Cond.fieldLinkNest RX9 88 "DropDealers$Hill" "terraces" "I" "DropDealers" ∈ nw_l := by decide +kernel
theorem i_X9_readTerrace_X3 : ∀ w ∈ u_ws RX3 TX3 10, w ∈ wsX9_readTerrace := by decide +kernel
def F_X9_readTerrace (c_t_bytes : Nat → Int32) (f_t_length : Int32) (f_t_place : Int32) (f_t_start : Int32) (f_t_token : Int32) (f_t_value : Int32) (c_p1_water : Nat → Int32) (c_p1_need : Nat → Int32) (c_p1_dew : Nat → Int32) (f_p1_terraces : Int32) : Option (Int32 × Int32 × Int32 × Int32 × Int32 × (Nat → Int32) × (Nat → Int32) × (Nat → Int32) × Int32) := if f_p1_terraces < (6 : Int32) then ((F_X9_advance c_t_bytes f_t_length f_t_place f_t_start f_t_token f_t_value).bind (fun u2 => (F_X9_takeNumber c_t_bytes f_t_length u2.1 u2.2.1 u2.2.2.1 u2.2.2.2 (0 : Int32) (30 : Int32)).bind (fun u4 => if 0 ≤ u4.1 then ((F_X9_takeNumber c_t_bytes f_t_length u4.2.1 u4.2.2.1 u4.2.2.2.1 u4.2.2.2.2 (0 : Int32) (9 : Int32)).bind (fun u7 => if 0 ≤ u7.1 then ((F_X9_takeNumber c_t_bytes f_t_length u7.2.1 u7.2.2.1 u7.2.2.2.1 u7.2.2.2.2 (0 : Int32) (3 : Int32)).bind (fun u10 => if 0 ≤ u10.1 then ((F_X3_addTerrace c_p1_water c_p1_need c_p1_dew f_p1_terraces u4.1 u7.1 u10.1).bind (fun u13 => (F_X9_takeSemicolon c_t_bytes f_t_length u10.2.1 u10.2.2.1 u10.2.2.2.1 u10.2.2.2.2).bind (fun u15 => if ok_Z u15.1 = true then some (u15.1, u15.2.1, u15.2.2.1, u15.2.2.2.1, u15.2.2.2.2, u13.1, u13.2.1, u13.2.2.1, u13.2.2.2) else none))) else (some ((0 : Int32), u10.2.1, u10.2.2.1, u10.2.2.2.1, u10.2.2.2.2, c_p1_water, c_p1_need, c_p1_dew, f_p1_terraces)))) else (some ((0 : Int32), u7.2.1, u7.2.2.1, u7.2.2.2.1, u7.2.2.2.2, c_p1_water, c_p1_need, c_p1_dew, f_p1_terraces)))) else (some ((0 : Int32), u4.2.1, u4.2.2.1, u4.2.2.2.1, u4.2.2.2.2, c_p1_water, c_p1_need, c_p1_dew, f_p1_terraces))))) else (some ((0 : Int32), f_t_place, f_t_start, f_t_token, f_t_value, c_p1_water, c_p1_need, c_p1_dew, f_p1_terraces))
set_option maxHeartbeats 4000000 in
set_option maxRecDepth 100000 in
theorem w_X9_readTerrace_0 {p : Program} {l : Launch} {e : Env} {s : State} {m : MethodId} {args : Array Value} {below : List Frame} {meth : Method} {c : Code} {G : va_G} {ca : Nat → ClassId} {ad av : Nat → Nat} {A : Nat → Prop} (X0 : CX_ p s m args meth c cX9_readTerrace 5 (some .boolean) wsX9_readTerrace RX9 G ca ad av A) (a_t : Nat) (a_t_bytes : Nat) (a_p1 : Nat) (a_p1_water : Nat) (a_p1_need : Nat) (a_p1_dew : Nat) (a_p1_drops : Nat) (a_p1_song : Nat) (f_t_lawTold : Int32) (f_t_slipTold : Int32) (f_t_songTold : Int32) (f_p1_days : Int32) (f_p1_law : Int32) (f_p1_slip : Int32) (f_p1_songLength : Int32) (c_t_bytes : Nat → Int32) (f_t_length : Int32) (res : Int32 × Int32 × Int32 × Int32 × Int32 × (Nat → Int32) × (Nat → Int32) × (Nat → Int32) × Int32) (f_t_place : Int32) (f_t_start : Int32) (f_t_token : Int32) (f_t_value : Int32) (c_p1_water : Nat → Int32) (c_p1_need : Nat → Int32) (c_p1_dew : Nat → Int32) (f_p1_terraces : Int32) (h : F_X9_readTerrace c_t_bytes f_t_length f_t_place f_t_start f_t_token f_t_value c_p1_water c_p1_need c_p1_dew f_p1_terraces = some res) : ∀ (H : Heap) (locs : List Loc), va_P G vwCl [(a_t, .inr (9, [.ref a_t_bytes, .int f_t_length, .int f_t_place, .int f_t_start, .int f_t_token, .int f_t_value, .int f_t_lawTold, .int f_t_slipTold, .int f_t_songTold])), (a_t_bytes, .inl (ca 2, 300, .inl c_t_bytes)), (a_p1, .inr (3, [.ref a_p1_water, .ref a_p1_need, .ref a_p1_dew, .ref a_p1_drops, .ref a_p1_song, .int f_p1_terraces, .int f_p1_days, .int f_p1_law, .int f_p1_slip, .int f_p1_songLength])), (a_p1_water, .inl (ca 0, 6, .inl c_p1_water)), (a_p1_need, .inl (ca 0, 6, .inl c_p1_need)), (a_p1_dew, .inl (ca 0, 6, .inl c_p1_dew))] H → va_D A [(a_t, .inr (9, [.ref a_t_bytes, .int f_t_length, .int f_t_place, .int f_t_start, .int f_t_token, .int f_t_value, .int f_t_lawTold, .int f_t_slipTold, .int f_t_songTold])), (a_t_bytes, .inl (ca 2, 300, .inl c_t_bytes)), (a_p1, .inr (3, [.ref a_p1_water, .ref a_p1_need, .ref a_p1_dew, .ref a_p1_drops, .ref a_p1_song, .int f_p1_terraces, .int f_p1_days, .int f_p1_law, .int f_p1_slip, .int f_p1_songLength])), (a_p1_water, .inl (ca 0, 6, .inl c_p1_water)), (a_p1_need, .inl (ca 0, 6, .inl c_p1_need)), (a_p1_dew, .inl (ca 0, 6, .inl c_p1_dew))] → va_S A s.heap H locs → ∀ (ls : Array Slot), lv_has ls 5 [(0, .ref a_t), (1, .ref a_p1)] → W p l e RM_X9_readTerrace s m args below meth c H locs 0 0 (MQ below (QI_ G A res.1 [(a_t, .inr (9, [.ref a_t_bytes, .int f_t_length, .int res.2.1, .int res.2.2.1, .int res.2.2.2.1, .int res.2.2.2.2.1, .int f_t_lawTold, .int f_t_slipTold, .int f_t_songTold])), (a_t_bytes, .inl (ca 2, 300, .inl c_t_bytes)), (a_p1, .inr (3, [.ref a_p1_water, .ref a_p1_need, .ref a_p1_dew, .ref a_p1_drops, .ref a_p1_song, .int res.2.2.2.2.2.2.2.2, .int f_p1_days, .int f_p1_law, .int f_p1_slip, .int f_p1_songLength])), (a_p1_water, .inl (ca 0, 6, .inl res.2.2.2.2.2.1)), (a_p1_need, .inl (ca 0, 6, .inl res.2.2.2.2.2.2.1)), (a_p1_dew, .inl (ca 0, 6, .inl res.2.2.2.2.2.2.2.1))]) args s 0 0 A) (F0 m 0 ls []) := by
  obtain ⟨hx, hb, hr, hml, hown, hts, hlocks, hK, hA, hE⟩ := id X0
  intro H locs hP hD hS ls hl
  unfold F_X9_readTerrace at h
  refine lv_aload_n hx hb dX9_readTerrace_0 rfl (lv_at hl 1 rfl) ?_
  refine va_getN (D := G) (ci := 3) (v := .int f_p1_terraces) (C := RX3) (T := TX3) (N := 10) hx hb hts i_X9_readTerrace_X3 hown hK hP 2 rfl rfl 5 (by decide) (va_Nw.use rfl (hE.1 _ k_X9_readTerrace_0)) (fun _ h9 => h9) rfl dX9_readTerrace_1 ?_
  refine lv_bipush (v := 6) hx hb dX9_readTerrace_4 (by decide) ?_
  refine lv_icmp_lt (tgt := 11) hx hb dX9_readTerrace_6 (by decide) (fun b1 => ?_) (fun b1 => ?_)
  · have h := (if_pos b1).symm.trans h
    refine lv_aload_n hx hb dX9_readTerrace_11 rfl (lv_at hl 0 rfl) ?_
    obtain ⟨u2, hc3, h⟩ := bd_o h
    refine jn_v (wr := [(a_p1, .inr (3, [.ref a_p1_water, .ref a_p1_need, .ref a_p1_dew, .ref a_p1_drops, .ref a_p1_song, .int f_p1_terraces, .int f_p1_days, .int f_p1_law, .int f_p1_slip, .int f_p1_songLength])), (a_p1_water, .inl (ca 0, 6, .inl c_p1_water)), (a_p1_need, .inl (ca 0, 6, .inl c_p1_need)), (a_p1_dew, .inl (ca 0, 6, .inl c_p1_dew))]) (ws' := [(a_t, .inr (9, [.ref a_t_bytes, .int f_t_length, .int u2.1, .int u2.2.1, .int u2.2.2.1, .int u2.2.2.2, .int f_t_lawTold, .int f_t_slipTold, .int f_t_songTold])), (a_t_bytes, .inl (ca 2, 300, .inl c_t_bytes)), (a_p1, .inr (3, [.ref a_p1_water, .ref a_p1_need, .ref a_p1_dew, .ref a_p1_drops, .ref a_p1_song, .int f_p1_terraces, .int f_p1_days, .int f_p1_law, .int f_p1_slip, .int f_p1_songLength])), (a_p1_water, .inl (ca 0, 6, .inl c_p1_water)), (a_p1_need, .inl (ca 0, 6, .inl c_p1_need)), (a_p1_dew, .inl (ca 0, 6, .inl c_p1_dew))]) (va_runV (As := []) (rest := []) ⟨hx, hb, hml, hown, hts⟩ (c_X9_advance l G ca ad av H.size a_t a_t_bytes f_t_lawTold f_t_slipTold f_t_songTold c_t_bytes f_t_length f_t_place f_t_start f_t_token f_t_value u2 hc3) (cwV 0 hts gX9_readTerrace_X9_advance rfl rfl rfl (by decide +kernel) ⟨Nat.le_of_ble_eq_true rfl, Nat.le_of_ble_eq_true rfl⟩) (pre_v (q0 := 0) (ci := 9) hK hE hA hP hD hS [0, 1] rfl (by decide) rfl rfl) rfl rfl hl.1 rfl (lv_room (Nat.le_of_ble_eq_true rfl)) dX9_readTerrace_12 ⟨Nat.le_of_ble_eq_true rfl, Nat.le_of_ble_eq_true rfl⟩) hA hP hD hS [0, 1] [2, 3, 4, 5] [4, 5, 0, 1, 2, 3] rfl rfl (by decide) (by decide) (by decide) rfl (fun H locs hP hD hS => ?_)
    refine lv_aload_n hx hb dX9_readTerrace_15 rfl (lv_at hl 0 rfl) ?_
    refine lv_iconst (v := 0) hx hb dX9_readTerrace_16 (by decide) ?_
    refine lv_bipush (v := 30) hx hb dX9_readTerrace_17 (by decide) ?_
    obtain ⟨u4, hc5, h⟩ := bd_o h
    refine jn_i (wr := [(a_p1, .inr (3, [.ref a_p1_water, .ref a_p1_need, .ref a_p1_dew, .ref a_p1_drops, .ref a_p1_song, .int f_p1_terraces, .int f_p1_days, .int f_p1_law, .int f_p1_slip, .int f_p1_songLength])), (a_p1_water, .inl (ca 0, 6, .inl c_p1_water)), (a_p1_need, .inl (ca 0, 6, .inl c_p1_need)), (a_p1_dew, .inl (ca 0, 6, .inl c_p1_dew))]) (ws' := [(a_t, .inr (9, [.ref a_t_bytes, .int f_t_length, .int u4.2.1, .int u4.2.2.1, .int u4.2.2.2.1, .int u4.2.2.2.2, .int f_t_lawTold, .int f_t_slipTold, .int f_t_songTold])), (a_t_bytes, .inl (ca 2, 300, .inl c_t_bytes)), (a_p1, .inr (3, [.ref a_p1_water, .ref a_p1_need, .ref a_p1_dew, .ref a_p1_drops, .ref a_p1_song, .int f_p1_terraces, .int f_p1_days, .int f_p1_law, .int f_p1_slip, .int f_p1_songLength])), (a_p1_water, .inl (ca 0, 6, .inl c_p1_water)), (a_p1_need, .inl (ca 0, 6, .inl c_p1_need)), (a_p1_dew, .inl (ca 0, 6, .inl c_p1_dew))]) (va_runV (As := [.int (0 : Int32), .int (30 : Int32)]) (rest := []) ⟨hx, hb, hml, hown, hts⟩ (c_X9_takeNumber l G ca ad av H.size a_t a_t_bytes f_t_lawTold f_t_slipTold f_t_songTold c_t_bytes f_t_length u2.1 u2.2.1 u2.2.2.1 u2.2.2.2 (0 : Int32) (30 : Int32) u4 hc5) (cwV 2 hts gX9_readTerrace_X9_takeNumber rfl rfl rfl (by decide +kernel) ⟨Nat.le_of_ble_eq_true rfl, Nat.le_of_ble_eq_true rfl⟩) (pre_v (q0 := 0) (ci := 9) hK hE hA hP hD hS [0, 1] rfl (by decide) rfl rfl) rfl rfl hl.1 rfl (lv_room (Nat.le_of_ble_eq_true rfl)) dX9_readTerrace_19 ⟨Nat.le_of_ble_eq_true rfl, Nat.le_of_ble_eq_true rfl⟩) hA hP hD hS [0, 1] [2, 3, 4, 5] [4, 5, 0, 1, 2, 3] rfl rfl (by decide) (by decide) (by decide) rfl (fun H locs hP hD hS => ?_)
    refine lv_istore_n (lv' := [(2, .int u4.1), (0, .ref a_t), (1, .ref a_p1)]) hx hb dX9_readTerrace_22 rfl hl (by decide) rfl (fun ls hl => ?_)
    refine lv_iload_n hx hb dX9_readTerrace_23 rfl (lv_at hl 0 rfl) ?_
    refine lv_if_ge (tgt := 29) hx hb dX9_readTerrace_24 (by decide) (fun b6 => ?_) (fun b6 => ?_)
    · have h := (if_pos b6).symm.trans h
      refine lv_aload_n hx hb dX9_readTerrace_29 rfl (lv_at hl 1 rfl) ?_
      refine lv_iconst (v := 0) hx hb dX9_readTerrace_30 (by decide) ?_
      refine lv_bipush (v := 9) hx hb dX9_readTerrace_31 (by decide) ?_
      obtain ⟨u7, hc8, h⟩ := bd_o h
      refine jn_i (wr := [(a_p1, .inr (3, [.ref a_p1_water, .ref a_p1_need, .ref a_p1_dew, .ref a_p1_drops, .ref a_p1_song, .int f_p1_terraces, .int f_p1_days, .int f_p1_law, .int f_p1_slip, .int f_p1_songLength])), (a_p1_water, .inl (ca 0, 6, .inl c_p1_water)), (a_p1_need, .inl (ca 0, 6, .inl c_p1_need)), (a_p1_dew, .inl (ca 0, 6, .inl c_p1_dew))]) (ws' := [(a_t, .inr (9, [.ref a_t_bytes, .int f_t_length, .int u7.2.1, .int u7.2.2.1, .int u7.2.2.2.1, .int u7.2.2.2.2, .int f_t_lawTold, .int f_t_slipTold, .int f_t_songTold])), (a_t_bytes, .inl (ca 2, 300, .inl c_t_bytes)), (a_p1, .inr (3, [.ref a_p1_water, .ref a_p1_need, .ref a_p1_dew, .ref a_p1_drops, .ref a_p1_song, .int f_p1_terraces, .int f_p1_days, .int f_p1_law, .int f_p1_slip, .int f_p1_songLength])), (a_p1_water, .inl (ca 0, 6, .inl c_p1_water)), (a_p1_need, .inl (ca 0, 6, .inl c_p1_need)), (a_p1_dew, .inl (ca 0, 6, .inl c_p1_dew))]) (va_runV (As := [.int (0 : Int32), .int (9 : Int32)]) (rest := []) ⟨hx, hb, hml, hown, hts⟩ (c_X9_takeNumber l G ca ad av H.size a_t a_t_bytes f_t_lawTold f_t_slipTold f_t_songTold c_t_bytes f_t_length u4.2.1 u4.2.2.1 u4.2.2.2.1 u4.2.2.2.2 (0 : Int32) (9 : Int32) u7 hc8) (cwV 2 hts gX9_readTerrace_X9_takeNumber rfl rfl rfl (by decide +kernel) ⟨Nat.le_of_ble_eq_true rfl, Nat.le_of_ble_eq_true rfl⟩) (pre_v (q0 := 0) (ci := 9) hK hE hA hP hD hS [0, 1] rfl (by decide) rfl rfl) rfl rfl hl.1 rfl (lv_room (Nat.le_of_ble_eq_true rfl)) dX9_readTerrace_33 ⟨Nat.le_of_ble_eq_true rfl, Nat.le_of_ble_eq_true rfl⟩) hA hP hD hS [0, 1] [2, 3, 4, 5] [4, 5, 0, 1, 2, 3] rfl rfl (by decide) (by decide) (by decide) rfl (fun H locs hP hD hS => ?_)
      refine lv_istore_n (lv' := [(3, .int u7.1), (2, .int u4.1), (0, .ref a_t), (1, .ref a_p1)]) hx hb dX9_readTerrace_36 rfl hl (by decide) rfl (fun ls hl => ?_)
      refine lv_iload_n hx hb dX9_readTerrace_37 rfl (lv_at hl 0 rfl) ?_
      refine lv_if_ge (tgt := 43) hx hb dX9_readTerrace_38 (by decide) (fun b9 => ?_) (fun b9 => ?_)
      · have h := (if_pos b9).symm.trans h
        refine lv_aload_n hx hb dX9_readTerrace_43 rfl (lv_at hl 2 rfl) ?_
        refine lv_iconst (v := 0) hx hb dX9_readTerrace_44 (by decide) ?_
        refine lv_iconst (v := 3) hx hb dX9_readTerrace_45 (by decide) ?_
        obtain ⟨u10, hc11, h⟩ := bd_o h
        refine jn_i (wr := [(a_p1, .inr (3, [.ref a_p1_water, .ref a_p1_need, .ref a_p1_dew, .ref a_p1_drops, .ref a_p1_song, .int f_p1_terraces, .int f_p1_days, .int f_p1_law, .int f_p1_slip, .int f_p1_songLength])), (a_p1_water, .inl (ca 0, 6, .inl c_p1_water)), (a_p1_need, .inl (ca 0, 6, .inl c_p1_need)), (a_p1_dew, .inl (ca 0, 6, .inl c_p1_dew))]) (ws' := [(a_t, .inr (9, [.ref a_t_bytes, .int f_t_length, .int u10.2.1, .int u10.2.2.1, .int u10.2.2.2.1, .int u10.2.2.2.2, .int f_t_lawTold, .int f_t_slipTold, .int f_t_songTold])), (a_t_bytes, .inl (ca 2, 300, .inl c_t_bytes)), (a_p1, .inr (3, [.ref a_p1_water, .ref a_p1_need, .ref a_p1_dew, .ref a_p1_drops, .ref a_p1_song, .int f_p1_terraces, .int f_p1_days, .int f_p1_law, .int f_p1_slip, .int f_p1_songLength])), (a_p1_water, .inl (ca 0, 6, .inl c_p1_water)), (a_p1_need, .inl (ca 0, 6, .inl c_p1_need)), (a_p1_dew, .inl (ca 0, 6, .inl c_p1_dew))]) (va_runV (As := [.int (0 : Int32), .int (3 : Int32)]) (rest := []) ⟨hx, hb, hml, hown, hts⟩ (c_X9_takeNumber l G ca ad av H.size a_t a_t_bytes f_t_lawTold f_t_slipTold f_t_songTold c_t_bytes f_t_length u7.2.1 u7.2.2.1 u7.2.2.2.1 u7.2.2.2.2 (0 : Int32) (3 : Int32) u10 hc11) (cwV 2 hts gX9_readTerrace_X9_takeNumber rfl rfl rfl (by decide +kernel) ⟨Nat.le_of_ble_eq_true rfl, Nat.le_of_ble_eq_true rfl⟩) (pre_v (q0 := 0) (ci := 9) hK hE hA hP hD hS [0, 1] rfl (by decide) rfl rfl) rfl rfl hl.1 rfl (lv_room (Nat.le_of_ble_eq_true rfl)) dX9_readTerrace_46 ⟨Nat.le_of_ble_eq_true rfl, Nat.le_of_ble_eq_true rfl⟩) hA hP hD hS [0, 1] [2, 3, 4, 5] [4, 5, 0, 1, 2, 3] rfl rfl (by decide) (by decide) (by decide) rfl (fun H locs hP hD hS => ?_)
        refine lv_istore (lv' := [(4, .int u10.1), (3, .int u7.1), (2, .int u4.1), (0, .ref a_t), (1, .ref a_p1)]) hx hb dX9_readTerrace_49 hl (by decide) rfl (fun ls hl => ?_)
        refine lv_iload hx hb dX9_readTerrace_51 (lv_at hl 0 rfl) ?_
        refine lv_if_ge (tgt := 58) hx hb dX9_readTerrace_53 (by decide) (fun b12 => ?_) (fun b12 => ?_)
        · have h := (if_pos b12).symm.trans h
          refine lv_aload_n hx hb dX9_readTerrace_58 rfl (lv_at hl 4 rfl) ?_
          refine lv_iload_n hx hb dX9_readTerrace_59 rfl (lv_at hl 2 rfl) ?_
          refine lv_iload_n hx hb dX9_readTerrace_60 rfl (lv_at hl 1 rfl) ?_
          refine lv_iload hx hb dX9_readTerrace_61 (lv_at hl 0 rfl) ?_
          obtain ⟨u13, hc14, h⟩ := bd_o h
          refine jn_v (wr := [(a_t, .inr (9, [.ref a_t_bytes, .int f_t_length, .int u10.2.1, .int u10.2.2.1, .int u10.2.2.2.1, .int u10.2.2.2.2, .int f_t_lawTold, .int f_t_slipTold, .int f_t_songTold])), (a_t_bytes, .inl (ca 2, 300, .inl c_t_bytes))]) (ws' := [(a_t, .inr (9, [.ref a_t_bytes, .int f_t_length, .int u10.2.1, .int u10.2.2.1, .int u10.2.2.2.1, .int u10.2.2.2.2, .int f_t_lawTold, .int f_t_slipTold, .int f_t_songTold])), (a_t_bytes, .inl (ca 2, 300, .inl c_t_bytes)), (a_p1, .inr (3, [.ref a_p1_water, .ref a_p1_need, .ref a_p1_dew, .ref a_p1_drops, .ref a_p1_song, .int u13.2.2.2, .int f_p1_days, .int f_p1_law, .int f_p1_slip, .int f_p1_songLength])), (a_p1_water, .inl (ca 0, 6, .inl u13.1)), (a_p1_need, .inl (ca 0, 6, .inl u13.2.1)), (a_p1_dew, .inl (ca 0, 6, .inl u13.2.2.1))]) (va_runV (As := [.int u4.1, .int u7.1, .int u10.1]) (rest := []) ⟨hx, hb, hml, hown, hts⟩ (c_X3_addTerrace l G ca ad av H.size a_p1 a_p1_water a_p1_need a_p1_dew a_p1_drops a_p1_song f_p1_days f_p1_law f_p1_slip f_p1_songLength c_p1_water c_p1_need c_p1_dew f_p1_terraces u4.1 u7.1 u10.1 u13 hc14) (cwV 3 hts gX9_readTerrace_X3_addTerrace rfl rfl rfl (by decide +kernel) ⟨Nat.le_of_ble_eq_true rfl, Nat.le_of_ble_eq_true rfl⟩) (pre_v (q0 := 2) (ci := 3) hK hE hA hP hD hS [2, 3, 4, 5] rfl (by decide) rfl rfl) rfl rfl hl.1 rfl (lv_room (Nat.le_of_ble_eq_true rfl)) dX9_readTerrace_63 ⟨Nat.le_of_ble_eq_true rfl, Nat.le_of_ble_eq_true rfl⟩) hA hP hD hS [2, 3, 4, 5] [0, 1] [0, 1, 2, 3, 4, 5] rfl rfl (by decide) (by decide) (by decide) rfl (fun H locs hP hD hS => ?_)
          refine lv_aload_n hx hb dX9_readTerrace_66 rfl (lv_at hl 3 rfl) ?_
          obtain ⟨u15, hc16, h⟩ := bd_o h
          refine jn_i (wr := [(a_p1, .inr (3, [.ref a_p1_water, .ref a_p1_need, .ref a_p1_dew, .ref a_p1_drops, .ref a_p1_song, .int u13.2.2.2, .int f_p1_days, .int f_p1_law, .int f_p1_slip, .int f_p1_songLength])), (a_p1_water, .inl (ca 0, 6, .inl u13.1)), (a_p1_need, .inl (ca 0, 6, .inl u13.2.1)), (a_p1_dew, .inl (ca 0, 6, .inl u13.2.2.1))]) (ws' := [(a_t, .inr (9, [.ref a_t_bytes, .int f_t_length, .int u15.2.1, .int u15.2.2.1, .int u15.2.2.2.1, .int u15.2.2.2.2, .int f_t_lawTold, .int f_t_slipTold, .int f_t_songTold])), (a_t_bytes, .inl (ca 2, 300, .inl c_t_bytes)), (a_p1, .inr (3, [.ref a_p1_water, .ref a_p1_need, .ref a_p1_dew, .ref a_p1_drops, .ref a_p1_song, .int u13.2.2.2, .int f_p1_days, .int f_p1_law, .int f_p1_slip, .int f_p1_songLength])), (a_p1_water, .inl (ca 0, 6, .inl u13.1)), (a_p1_need, .inl (ca 0, 6, .inl u13.2.1)), (a_p1_dew, .inl (ca 0, 6, .inl u13.2.2.1))]) (va_runV (As := []) (rest := []) ⟨hx, hb, hml, hown, hts⟩ (c_X9_takeSemicolon l G ca ad av H.size a_t a_t_bytes f_t_lawTold f_t_slipTold f_t_songTold c_t_bytes f_t_length u10.2.1 u10.2.2.1 u10.2.2.2.1 u10.2.2.2.2 u15 hc16) (cwV 0 hts gX9_readTerrace_X9_takeSemicolon rfl rfl rfl (by decide +kernel) ⟨Nat.le_of_ble_eq_true rfl, Nat.le_of_ble_eq_true rfl⟩) (pre_v (q0 := 0) (ci := 9) hK hE hA hP hD hS [0, 1] rfl (by decide) rfl rfl) rfl rfl hl.1 rfl (lv_room (Nat.le_of_ble_eq_true rfl)) dX9_readTerrace_67 ⟨Nat.le_of_ble_eq_true rfl, Nat.le_of_ble_eq_true rfl⟩) hA hP hD hS [0, 1] [2, 3, 4, 5] [4, 5, 0, 1, 2, 3] rfl rfl (by decide) (by decide) (by decide) rfl (fun H locs hP hD hS => ?_)
          obtain ⟨g17, h⟩ := gd_t h
          have h := sm_i h
          subst h
          exact W.zret (v := u15.1) hx hb hr (ok_nz g17) (fun t ht hW => ⟨⟨u15.1, (), rfl, rfl, by rw [ht]; exact hP, hD⟩, hS.F ht⟩) hS.2.2 dX9_readTerrace_70
        · have h := (if_neg b12).symm.trans h
          refine lv_iconst (v := 0) hx hb dX9_readTerrace_56 (by decide) ?_
          have h := sm_i h
          subst h
          exact W.zret (v := (0 : Int32)) hx hb hr rfl (fun t ht hW => ⟨⟨(0 : Int32), (), rfl, rfl, by rw [ht]; exact hP, hD⟩, hS.F ht⟩) hS.2.2 dX9_readTerrace_57
      · have h := (if_neg b9).symm.trans h
        refine lv_iconst (v := 0) hx hb dX9_readTerrace_41 (by decide) ?_
        have h := sm_i h
        subst h
        exact W.zret (v := (0 : Int32)) hx hb hr rfl (fun t ht hW => ⟨⟨(0 : Int32), (), rfl, rfl, by rw [ht]; exact hP, hD⟩, hS.F ht⟩) hS.2.2 dX9_readTerrace_42
    · have h := (if_neg b6).symm.trans h
      refine lv_iconst (v := 0) hx hb dX9_readTerrace_27 (by decide) ?_
      have h := sm_i h
      subst h
      exact W.zret (v := (0 : Int32)) hx hb hr rfl (fun t ht hW => ⟨⟨(0 : Int32), (), rfl, rfl, by rw [ht]; exact hP, hD⟩, hS.F ht⟩) hS.2.2 dX9_readTerrace_28
  · have h := (if_neg b1).symm.trans h
    refine lv_iconst (v := 0) hx hb dX9_readTerrace_9 (by decide) ?_
    have h := sm_i h
    subst h
    exact W.zret (v := (0 : Int32)) hx hb hr rfl (fun t ht hW => ⟨⟨(0 : Int32), (), rfl, rfl, by rw [ht]; exact hP, hD⟩, hS.F ht⟩) hS.2.2 dX9_readTerrace_10
set_option maxHeartbeats 4000000 in
set_option maxRecDepth 100000 in
theorem c_X9_readTerrace (l : Launch) (G : va_G) (ca : Nat → ClassId) (ad av : Nat → Nat) (sz : Nat) (a_t : Nat) (a_t_bytes : Nat) (a_p1 : Nat) (a_p1_water : Nat) (a_p1_need : Nat) (a_p1_dew : Nat) (a_p1_drops : Nat) (a_p1_song : Nat) (f_t_lawTold : Int32) (f_t_slipTold : Int32) (f_t_songTold : Int32) (f_p1_days : Int32) (f_p1_law : Int32) (f_p1_slip : Int32) (f_p1_songLength : Int32) (c_t_bytes : Nat → Int32) (f_t_length : Int32) (f_t_place : Int32) (f_t_start : Int32) (f_t_token : Int32) (f_t_value : Int32) (c_p1_water : Nat → Int32) (c_p1_need : Nat → Int32) (c_p1_dew : Nat → Int32) (f_p1_terraces : Int32) (res : Int32 × Int32 × Int32 × Int32 × Int32 × (Nat → Int32) × (Nat → Int32) × (Nat → Int32) × Int32) (h : F_X9_readTerrace c_t_bytes f_t_length f_t_place f_t_start f_t_token f_t_value c_p1_water c_p1_need c_p1_dew f_p1_terraces = some res) : Met l yX9_readTerrace wsX9_readTerrace RM_X9_readTerrace (va_Pc [.ref a_t, .ref a_p1] (PW_ G ca ad av sz [(a_t, .inr (9, [.ref a_t_bytes, .int f_t_length, .int f_t_place, .int f_t_start, .int f_t_token, .int f_t_value, .int f_t_lawTold, .int f_t_slipTold, .int f_t_songTold])), (a_t_bytes, .inl (ca 2, 300, .inl c_t_bytes)), (a_p1, .inr (3, [.ref a_p1_water, .ref a_p1_need, .ref a_p1_dew, .ref a_p1_drops, .ref a_p1_song, .int f_p1_terraces, .int f_p1_days, .int f_p1_law, .int f_p1_slip, .int f_p1_songLength])), (a_p1_water, .inl (ca 0, 6, .inl c_p1_water)), (a_p1_need, .inl (ca 0, 6, .inl c_p1_need)), (a_p1_dew, .inl (ca 0, 6, .inl c_p1_dew))])) (QI_ G (va_A [(a_t, .inr (9, [.ref a_t_bytes, .int f_t_length, .int f_t_place, .int f_t_start, .int f_t_token, .int f_t_value, .int f_t_lawTold, .int f_t_slipTold, .int f_t_songTold])), (a_t_bytes, .inl (ca 2, 300, .inl c_t_bytes)), (a_p1, .inr (3, [.ref a_p1_water, .ref a_p1_need, .ref a_p1_dew, .ref a_p1_drops, .ref a_p1_song, .int f_p1_terraces, .int f_p1_days, .int f_p1_law, .int f_p1_slip, .int f_p1_songLength])), (a_p1_water, .inl (ca 0, 6, .inl c_p1_water)), (a_p1_need, .inl (ca 0, 6, .inl c_p1_need)), (a_p1_dew, .inl (ca 0, 6, .inl c_p1_dew))] sz) res.1 [(a_t, .inr (9, [.ref a_t_bytes, .int f_t_length, .int res.2.1, .int res.2.2.1, .int res.2.2.2.1, .int res.2.2.2.2.1, .int f_t_lawTold, .int f_t_slipTold, .int f_t_songTold])), (a_t_bytes, .inl (ca 2, 300, .inl c_t_bytes)), (a_p1, .inr (3, [.ref a_p1_water, .ref a_p1_need, .ref a_p1_dew, .ref a_p1_drops, .ref a_p1_song, .int res.2.2.2.2.2.2.2.2, .int f_p1_days, .int f_p1_law, .int f_p1_slip, .int f_p1_songLength])), (a_p1_water, .inl (ca 0, 6, .inl res.2.2.2.2.2.1)), (a_p1_need, .inl (ca 0, 6, .inl res.2.2.2.2.2.2.1)), (a_p1_dew, .inl (ca 0, 6, .inl res.2.2.2.2.2.2.2.1))]) 0 0 (va_A [(a_t, .inr (9, [.ref a_t_bytes, .int f_t_length, .int f_t_place, .int f_t_start, .int f_t_token, .int f_t_value, .int f_t_lawTold, .int f_t_slipTold, .int f_t_songTold])), (a_t_bytes, .inl (ca 2, 300, .inl c_t_bytes)), (a_p1, .inr (3, [.ref a_p1_water, .ref a_p1_need, .ref a_p1_dew, .ref a_p1_drops, .ref a_p1_song, .int f_p1_terraces, .int f_p1_days, .int f_p1_law, .int f_p1_slip, .int f_p1_songLength])), (a_p1_water, .inl (ca 0, 6, .inl c_p1_water)), (a_p1_need, .inl (ca 0, 6, .inl c_p1_need)), (a_p1_dew, .inl (ca 0, 6, .inl c_p1_dew))] sz) := by
  refine Met.ofW (cc := cX9_readTerrace) (maxL := 5) (ret := (some .boolean)) (by decide) rfl ?_
  intro p e s m args below meth c s₁ B hml hv
  obtain ⟨X0, rfl, rfl, hP, hD⟩ := en_t B hml hv
  have hl := lv_entry ([.ref a_t, .ref a_p1]) (n := 5) (Nat.le_of_ble_eq_true rfl)
  rw [lg_entry_eq]
  generalize (lg_sl ([.ref a_t, .ref a_p1]) ++ List.replicate (5 - (lg_sl ([.ref a_t, .ref a_p1])).length) Slot.unset).toArray = ls at hl ⊢
  exact w_X9_readTerrace_0 X0 a_t a_t_bytes a_p1 a_p1_water a_p1_need a_p1_dew a_p1_drops a_p1_song f_t_lawTold f_t_slipTold f_t_songTold f_p1_days f_p1_law f_p1_slip f_p1_songLength c_t_bytes f_t_length _ f_t_place f_t_start f_t_token f_t_value c_p1_water c_p1_need c_p1_dew f_p1_terraces h s.heap [] hP hD va_S.rf ls hl

/-! X9_isWord_S1 -/
abbrev RM_X9_isWord_S1 : Room := { frames := 4, cells := 0, slots := 0, locals := 85 }
theorem k_X9_isWord_S1_0 : Cond.fieldLink RX9 9 "DropDealers$Reader" "bytes" "[B" ∈ wsX9_isWord := by decide +kernel
theorem i_X9_isWord_S1_X9 : ∀ w ∈ u_ws RX9 TX9 9, w ∈ wsX9_isWord := by decide +kernel
theorem k_X9_isWord_S1_2 : Cond.fieldLink RX9 47 "DropDealers$Reader" "start" "I" ∈ wsX9_isWord := by decide +kernel
theorem k_X9_isWord_S1_3 : Cond.fieldLink RX9 34 "DropDealers$Reader" "place" "I" ∈ wsX9_isWord := by decide +kernel
def F_X9_isWord_S1_20 (c_t_bytes : Nat → Int32) (f_t_place : Int32) (f_t_start : Int32) : Nat → Int32 → Option (Int32)
  | 0, _ => none
  | n + 1, y2 => if (Int32.ofNat (st_len.getD 1 0)) ≤ y2 then (some ((1 : Int32))) else (if ok_I (f_t_start + y2) 300 = true then if ok_I y2 (st_len.getD 1 0) = true then if (c_t_bytes (f_t_start + y2).toNatClampNeg) = (st_ch 1 y2) then (F_X9_isWord_S1_20 c_t_bytes f_t_place f_t_start n (y2 + (1 : Int32))) else (some ((0 : Int32))) else none else none)
set_option maxHeartbeats 4000000 in
set_option maxRecDepth 100000 in
theorem w_X9_isWord_S1_20 {p : Program} {l : Launch} {e : Env} {s : State} {m : MethodId} {args : Array Value} {below : List Frame} {meth : Method} {c : Code} {G : va_G} {ca : Nat → ClassId} {ad av : Nat → Nat} {A : Nat → Prop} (X0 : CX_ p s m args meth c cX9_isWord 3 (some .boolean) wsX9_isWord RX9 G ca ad av A) (a_t : Nat) (a_t_bytes : Nat) (f_t_length : Int32) (f_t_token : Int32) (f_t_value : Int32) (f_t_lawTold : Int32) (f_t_slipTold : Int32) (f_t_songTold : Int32) (c_t_bytes : Nat → Int32) (f_t_place : Int32) (f_t_start : Int32) (res : Int32) : ∀ (n : Nat) (y2 : Int32), F_X9_isWord_S1_20 c_t_bytes f_t_place f_t_start n y2 = some res → ∀ (H : Heap) (locs : List Loc), va_P G vwCl [(a_t, .inr (9, [.ref a_t_bytes, .int f_t_length, .int f_t_place, .int f_t_start, .int f_t_token, .int f_t_value, .int f_t_lawTold, .int f_t_slipTold, .int f_t_songTold])), (a_t_bytes, .inl (ca 2, 300, .inl c_t_bytes))] H → va_D A [(a_t, .inr (9, [.ref a_t_bytes, .int f_t_length, .int f_t_place, .int f_t_start, .int f_t_token, .int f_t_value, .int f_t_lawTold, .int f_t_slipTold, .int f_t_songTold])), (a_t_bytes, .inl (ca 2, 300, .inl c_t_bytes))] → va_S A s.heap H locs → ∀ (ls : Array Slot), lv_has ls 3 [(0, .ref a_t), (1, .ref (ad 1)), (2, .int y2)] → W p l e RM_X9_isWord_S1 s m args below meth c H locs 0 0 (MQ below (QI_ G A res [(a_t, .inr (9, [.ref a_t_bytes, .int f_t_length, .int f_t_place, .int f_t_start, .int f_t_token, .int f_t_value, .int f_t_lawTold, .int f_t_slipTold, .int f_t_songTold])), (a_t_bytes, .inl (ca 2, 300, .inl c_t_bytes))]) args s 0 0 A) (F0 m 20 ls []) := by
  obtain ⟨hx, hb, hr, hml, hown, hts, hlocks, hK, hA, hE⟩ := id X0
  intro n
  induction n with
  | zero => intro y2 h; cases h
  | succ n ih =>
    intro y2 h H locs hP hD hS ls hl
    rw [F_X9_isWord_S1_20] at h
    refine lv_iload_n hx hb dX9_isWord_20 rfl (lv_at hl 2 rfl) ?_
    refine lv_aload_n hx hb dX9_isWord_21 rfl (lv_at hl 1 rfl) ?_
    refine jn_i (wr := [(a_t, .inr (9, [.ref a_t_bytes, .int f_t_length, .int f_t_place, .int f_t_start, .int f_t_token, .int f_t_value, .int f_t_lawTold, .int f_t_slipTold, .int f_t_songTold])), (a_t_bytes, .inl (ca 2, 300, .inl c_t_bytes))]) (ws' := [(a_t, .inr (9, [.ref a_t_bytes, .int f_t_length, .int f_t_place, .int f_t_start, .int f_t_token, .int f_t_value, .int f_t_lawTold, .int f_t_slipTold, .int f_t_songTold])), (a_t_bytes, .inl (ca 2, 300, .inl c_t_bytes))]) (va_runV (As := []) (rest := [.int y2]) ⟨hx, hb, hml, hown, hts⟩ (c_J0_length l G ca ad av H.size 1 (by decide)) (cwV 0 hts gX9_isWord_J0_length_8abf5 rfl rfl rfl (by decide +kernel) ⟨Nat.le_of_ble_eq_true rfl, Nat.le_of_ble_eq_true rfl⟩) (pre_k (k := 1) (by decide) hK hE hA hP hD hS [] rfl (by decide)) rfl rfl hl.1 rfl (lv_room (Nat.le_of_ble_eq_true rfl)) dX9_isWord_22 ⟨Nat.le_of_ble_eq_true rfl, Nat.le_of_ble_eq_true rfl⟩) hA hP hD hS [] [0, 1] [0, 1] rfl rfl (by decide) (by decide) (by decide) rfl (fun H locs hP hD hS => ?_)
    refine lv_icmp_ge (tgt := 55) hx hb dX9_isWord_25 (by decide) (fun b1 => ?_) (fun b1 => ?_)
    · have h := (if_pos b1).symm.trans h
      refine lv_iconst (v := 1) hx hb dX9_isWord_55 (by decide) ?_
      have h := sm_i h
      subst h
      exact W.zret (v := (1 : Int32)) hx hb hr rfl (fun t ht hW => ⟨⟨(1 : Int32), (), rfl, rfl, by rw [ht]; exact hP, hD⟩, hS.F ht⟩) hS.2.2 dX9_isWord_56
    · have h := (if_neg b1).symm.trans h
      refine lv_aload_n hx hb dX9_isWord_28 rfl (lv_at hl 0 rfl) ?_
      refine va_get (D := G) (ci := 9) (v := .ref a_t_bytes) (C := RX9) (T := TX9) (N := 9) hx hb hts i_X9_isWord_S1_X9 hown hK hP 0 rfl rfl 0 (by decide) (hts _ k_X9_isWord_S1_0) (fun _ h9 => h9) rfl dX9_isWord_29 ?_
      refine lv_aload_n hx hb dX9_isWord_32 rfl (lv_at hl 0 rfl) ?_
      refine va_get (D := G) (ci := 9) (v := .int f_t_start) (C := RX9) (T := TX9) (N := 9) hx hb hts i_X9_isWord_S1_X9 hown hK hP 0 rfl rfl 3 (by decide) (hts _ k_X9_isWord_S1_2) (fun _ h9 => h9) rfl dX9_isWord_33 ?_
      refine lv_iload_n hx hb dX9_isWord_36 rfl (lv_at hl 2 rfl) ?_
      refine lv_iadd hx hb dX9_isWord_37 ?_
      obtain ⟨g2, h⟩ := gd_t h
      refine va_bald hx hb hK hP 1 2 rfl rfl (ok_in g2) dX9_isWord_38 ?_
      refine lv_aload_n hx hb dX9_isWord_39 rfl (lv_at hl 1 rfl) ?_
      refine lv_iload_n hx hb dX9_isWord_40 rfl (lv_at hl 2 rfl) ?_
      obtain ⟨g3, h⟩ := gd_t h
      refine jn_i (wr := [(a_t, .inr (9, [.ref a_t_bytes, .int f_t_length, .int f_t_place, .int f_t_start, .int f_t_token, .int f_t_value, .int f_t_lawTold, .int f_t_slipTold, .int f_t_songTold])), (a_t_bytes, .inl (ca 2, 300, .inl c_t_bytes))]) (ws' := [(a_t, .inr (9, [.ref a_t_bytes, .int f_t_length, .int f_t_place, .int f_t_start, .int f_t_token, .int f_t_value, .int f_t_lawTold, .int f_t_slipTold, .int f_t_songTold])), (a_t_bytes, .inl (ca 2, 300, .inl c_t_bytes))]) (va_runV (As := [.int y2]) (rest := [.int (c_t_bytes (f_t_start + y2).toNatClampNeg)]) ⟨hx, hb, hml, hown, hts⟩ (c_J0_charAt l G ca ad av H.size 1 (by decide) y2 g3) (cwV 1 hts gX9_isWord_J0_charAt_5068e rfl rfl rfl (by decide +kernel) ⟨Nat.le_of_ble_eq_true rfl, Nat.le_of_ble_eq_true rfl⟩) (pre_k (k := 1) (by decide) hK hE hA hP hD hS [] rfl (by decide)) rfl rfl hl.1 rfl (lv_room (Nat.le_of_ble_eq_true rfl)) dX9_isWord_41 ⟨Nat.le_of_ble_eq_true rfl, Nat.le_of_ble_eq_true rfl⟩) hA hP hD hS [] [0, 1] [0, 1] rfl rfl (by decide) (by decide) (by decide) rfl (fun H locs hP hD hS => ?_)
      refine lv_icmp_eq (tgt := 49) hx hb dX9_isWord_44 (by decide) (fun b4 => ?_) (fun b4 => ?_)
      · have h := (if_pos b4).symm.trans h
        refine lv_iinc (v := (y2 + (1 : Int32))) (lv' := [(2, .int (y2 + (1 : Int32))), (0, .ref a_t), (1, .ref (ad 1))]) hx hb dX9_isWord_49 hl (k := 2) rfl rfl (by decide) rfl (fun ls hl => ?_)
        refine lv_goto (tgt := 20) hx hb dX9_isWord_52 (by decide) ?_
        exact ih (y2 + (1 : Int32)) h H locs hP hD hS ls (lv_sub hl [1, 2, 0] rfl)
      · have h := (if_neg b4).symm.trans h
        refine lv_iconst (v := 0) hx hb dX9_isWord_47 (by decide) ?_
        have h := sm_i h
        subst h
        exact W.zret (v := (0 : Int32)) hx hb hr rfl (fun t ht hW => ⟨⟨(0 : Int32), (), rfl, rfl, by rw [ht]; exact hP, hD⟩, hS.F ht⟩) hS.2.2 dX9_isWord_48
def F_X9_isWord_S1 (c_t_bytes : Nat → Int32) (f_t_place : Int32) (f_t_start : Int32)  : Option (Int32) := if (f_t_place - f_t_start) = (Int32.ofNat (st_len.getD 1 0)) then (F_X9_isWord_S1_20 c_t_bytes f_t_place f_t_start FU_ (0 : Int32)) else (some ((0 : Int32)))
set_option maxHeartbeats 4000000 in
set_option maxRecDepth 100000 in
theorem w_X9_isWord_S1_0 {p : Program} {l : Launch} {e : Env} {s : State} {m : MethodId} {args : Array Value} {below : List Frame} {meth : Method} {c : Code} {G : va_G} {ca : Nat → ClassId} {ad av : Nat → Nat} {A : Nat → Prop} (X0 : CX_ p s m args meth c cX9_isWord 3 (some .boolean) wsX9_isWord RX9 G ca ad av A) (a_t : Nat) (a_t_bytes : Nat) (f_t_length : Int32) (f_t_token : Int32) (f_t_value : Int32) (f_t_lawTold : Int32) (f_t_slipTold : Int32) (f_t_songTold : Int32) (c_t_bytes : Nat → Int32) (f_t_place : Int32) (f_t_start : Int32) (res : Int32)  (h : F_X9_isWord_S1 c_t_bytes f_t_place f_t_start  = some res) : ∀ (H : Heap) (locs : List Loc), va_P G vwCl [(a_t, .inr (9, [.ref a_t_bytes, .int f_t_length, .int f_t_place, .int f_t_start, .int f_t_token, .int f_t_value, .int f_t_lawTold, .int f_t_slipTold, .int f_t_songTold])), (a_t_bytes, .inl (ca 2, 300, .inl c_t_bytes))] H → va_D A [(a_t, .inr (9, [.ref a_t_bytes, .int f_t_length, .int f_t_place, .int f_t_start, .int f_t_token, .int f_t_value, .int f_t_lawTold, .int f_t_slipTold, .int f_t_songTold])), (a_t_bytes, .inl (ca 2, 300, .inl c_t_bytes))] → va_S A s.heap H locs → ∀ (ls : Array Slot), lv_has ls 3 [(0, .ref a_t), (1, .ref (ad 1))] → W p l e RM_X9_isWord_S1 s m args below meth c H locs 0 0 (MQ below (QI_ G A res [(a_t, .inr (9, [.ref a_t_bytes, .int f_t_length, .int f_t_place, .int f_t_start, .int f_t_token, .int f_t_value, .int f_t_lawTold, .int f_t_slipTold, .int f_t_songTold])), (a_t_bytes, .inl (ca 2, 300, .inl c_t_bytes))]) args s 0 0 A) (F0 m 0 ls []) := by
  obtain ⟨hx, hb, hr, hml, hown, hts, hlocks, hK, hA, hE⟩ := id X0
  intro H locs hP hD hS ls hl
  unfold F_X9_isWord_S1 at h
  refine lv_aload_n hx hb dX9_isWord_0 rfl (lv_at hl 0 rfl) ?_
  refine va_get (D := G) (ci := 9) (v := .int f_t_place) (C := RX9) (T := TX9) (N := 9) hx hb hts i_X9_isWord_S1_X9 hown hK hP 0 rfl rfl 2 (by decide) (hts _ k_X9_isWord_S1_3) (fun _ h9 => h9) rfl dX9_isWord_1 ?_
  refine lv_aload_n hx hb dX9_isWord_4 rfl (lv_at hl 0 rfl) ?_
  refine va_get (D := G) (ci := 9) (v := .int f_t_start) (C := RX9) (T := TX9) (N := 9) hx hb hts i_X9_isWord_S1_X9 hown hK hP 0 rfl rfl 3 (by decide) (hts _ k_X9_isWord_S1_2) (fun _ h9 => h9) rfl dX9_isWord_5 ?_
  refine lv_isub hx hb dX9_isWord_8 ?_
  refine lv_aload_n hx hb dX9_isWord_9 rfl (lv_at hl 1 rfl) ?_
  refine jn_i (wr := [(a_t, .inr (9, [.ref a_t_bytes, .int f_t_length, .int f_t_place, .int f_t_start, .int f_t_token, .int f_t_value, .int f_t_lawTold, .int f_t_slipTold, .int f_t_songTold])), (a_t_bytes, .inl (ca 2, 300, .inl c_t_bytes))]) (ws' := [(a_t, .inr (9, [.ref a_t_bytes, .int f_t_length, .int f_t_place, .int f_t_start, .int f_t_token, .int f_t_value, .int f_t_lawTold, .int f_t_slipTold, .int f_t_songTold])), (a_t_bytes, .inl (ca 2, 300, .inl c_t_bytes))]) (va_runV (As := []) (rest := [.int (f_t_place - f_t_start)]) ⟨hx, hb, hml, hown, hts⟩ (c_J0_length l G ca ad av H.size 1 (by decide)) (cwV 0 hts gX9_isWord_J0_length_8abf5 rfl rfl rfl (by decide +kernel) ⟨Nat.le_of_ble_eq_true rfl, Nat.le_of_ble_eq_true rfl⟩) (pre_k (k := 1) (by decide) hK hE hA hP hD hS [] rfl (by decide)) rfl rfl hl.1 rfl (lv_room (Nat.le_of_ble_eq_true rfl)) dX9_isWord_10 ⟨Nat.le_of_ble_eq_true rfl, Nat.le_of_ble_eq_true rfl⟩) hA hP hD hS [] [0, 1] [0, 1] rfl rfl (by decide) (by decide) (by decide) rfl (fun H locs hP hD hS => ?_)
  refine lv_icmp_eq (tgt := 18) hx hb dX9_isWord_13 (by decide) (fun b5 => ?_) (fun b5 => ?_)
  · have h := (if_pos b5).symm.trans h
    refine lv_iconst (v := 0) hx hb dX9_isWord_18 (by decide) ?_
    refine lv_istore_n (lv' := [(2, .int (0 : Int32)), (0, .ref a_t), (1, .ref (ad 1))]) hx hb dX9_isWord_19 rfl hl (by decide) rfl (fun ls hl => ?_)
    exact w_X9_isWord_S1_20 X0 a_t a_t_bytes f_t_length f_t_token f_t_value f_t_lawTold f_t_slipTold f_t_songTold c_t_bytes f_t_place f_t_start _ FU_ (0 : Int32) h H locs hP hD hS ls (lv_sub hl [1, 2, 0] rfl)
  · have h := (if_neg b5).symm.trans h
    refine lv_iconst (v := 0) hx hb dX9_isWord_16 (by decide) ?_
    have h := sm_i h
    subst h
    exact W.zret (v := (0 : Int32)) hx hb hr rfl (fun t ht hW => ⟨⟨(0 : Int32), (), rfl, rfl, by rw [ht]; exact hP, hD⟩, hS.F ht⟩) hS.2.2 dX9_isWord_17
set_option maxHeartbeats 4000000 in
set_option maxRecDepth 100000 in
theorem c_X9_isWord_S1 (l : Launch) (G : va_G) (ca : Nat → ClassId) (ad av : Nat → Nat) (sz : Nat) (a_t : Nat) (a_t_bytes : Nat) (f_t_length : Int32) (f_t_token : Int32) (f_t_value : Int32) (f_t_lawTold : Int32) (f_t_slipTold : Int32) (f_t_songTold : Int32) (c_t_bytes : Nat → Int32) (f_t_place : Int32) (f_t_start : Int32)  (res : Int32) (h : F_X9_isWord_S1 c_t_bytes f_t_place f_t_start  = some res) : Met l yX9_isWord wsX9_isWord RM_X9_isWord_S1 (va_Pc [.ref a_t, .ref (ad 1)] (PW_ G ca ad av sz [(a_t, .inr (9, [.ref a_t_bytes, .int f_t_length, .int f_t_place, .int f_t_start, .int f_t_token, .int f_t_value, .int f_t_lawTold, .int f_t_slipTold, .int f_t_songTold])), (a_t_bytes, .inl (ca 2, 300, .inl c_t_bytes))])) (QI_ G (va_A [(a_t, .inr (9, [.ref a_t_bytes, .int f_t_length, .int f_t_place, .int f_t_start, .int f_t_token, .int f_t_value, .int f_t_lawTold, .int f_t_slipTold, .int f_t_songTold])), (a_t_bytes, .inl (ca 2, 300, .inl c_t_bytes))] sz) res [(a_t, .inr (9, [.ref a_t_bytes, .int f_t_length, .int f_t_place, .int f_t_start, .int f_t_token, .int f_t_value, .int f_t_lawTold, .int f_t_slipTold, .int f_t_songTold])), (a_t_bytes, .inl (ca 2, 300, .inl c_t_bytes))]) 0 0 (va_A [(a_t, .inr (9, [.ref a_t_bytes, .int f_t_length, .int f_t_place, .int f_t_start, .int f_t_token, .int f_t_value, .int f_t_lawTold, .int f_t_slipTold, .int f_t_songTold])), (a_t_bytes, .inl (ca 2, 300, .inl c_t_bytes))] sz) := by
  refine Met.ofW (cc := cX9_isWord) (maxL := 3) (ret := (some .boolean)) (by decide) rfl ?_
  intro p e s m args below meth c s₁ B hml hv
  obtain ⟨X0, rfl, rfl, hP, hD⟩ := en_t B hml hv
  have hl := lv_entry ([.ref a_t, .ref (ad 1)]) (n := 3) (Nat.le_of_ble_eq_true rfl)
  rw [lg_entry_eq]
  generalize (lg_sl ([.ref a_t, .ref (ad 1)]) ++ List.replicate (3 - (lg_sl ([.ref a_t, .ref (ad 1)])).length) Slot.unset).toArray = ls at hl ⊢
  exact w_X9_isWord_S1_0 X0 a_t a_t_bytes f_t_length f_t_token f_t_value f_t_lawTold f_t_slipTold f_t_songTold c_t_bytes f_t_place f_t_start _  h s.heap [] hP hD va_S.rf ls hl

/-! X9_readDrip -/
abbrev RM_X9_readDrip : Room := { frames := 4, cells := 0, slots := 0, locals := 88 }
theorem k_X9_readDrip_0 : Cond.fieldLinkNest RX9 103 "DropDealers$Hill" "days" "I" "DropDealers" ∈ nw_l := by decide +kernel
theorem i_X9_readDrip_X3 : ∀ w ∈ u_ws RX3 TX3 10, w ∈ wsX9_readDrip := by decide +kernel
def F_X9_readDrip (c_t_bytes : Nat → Int32) (f_t_length : Int32) (f_t_place : Int32) (f_t_start : Int32) (f_t_token : Int32) (f_t_value : Int32) (c_p1_drops : Nat → Int32) (f_p1_days : Int32) : Option (Int32 × Int32 × Int32 × Int32 × Int32 × (Nat → Int32) × Int32) := (F_X9_advance c_t_bytes f_t_length f_t_place f_t_start f_t_token f_t_value).bind (fun u1 => (F_X9_takeNumber c_t_bytes f_t_length u1.1 u1.2.1 u1.2.2.1 u1.2.2.2 (0 : Int32) (30 : Int32)).bind (fun u3 => if 0 ≤ u3.1 then ((F_X9_takeNumber c_t_bytes f_t_length u3.2.1 u3.2.2.1 u3.2.2.2.1 u3.2.2.2.2 (1 : Int32) ((20 : Int32) - f_p1_days)).bind (fun u6 => if 0 ≤ u6.1 then ((F_X3_addDays c_p1_drops f_p1_days u3.1 u6.1).bind (fun u9 => (F_X9_takeSemicolon c_t_bytes f_t_length u6.2.1 u6.2.2.1 u6.2.2.2.1 u6.2.2.2.2).bind (fun u11 => if ok_Z u11.1 = true then some (u11.1, u11.2.1, u11.2.2.1, u11.2.2.2.1, u11.2.2.2.2, u9.1, u9.2) else none))) else (some ((0 : Int32), u6.2.1, u6.2.2.1, u6.2.2.2.1, u6.2.2.2.2, c_p1_drops, f_p1_days)))) else (some ((0 : Int32), u3.2.1, u3.2.2.1, u3.2.2.2.1, u3.2.2.2.2, c_p1_drops, f_p1_days))))
set_option maxHeartbeats 4000000 in
set_option maxRecDepth 100000 in
theorem w_X9_readDrip_0 {p : Program} {l : Launch} {e : Env} {s : State} {m : MethodId} {args : Array Value} {below : List Frame} {meth : Method} {c : Code} {G : va_G} {ca : Nat → ClassId} {ad av : Nat → Nat} {A : Nat → Prop} (X0 : CX_ p s m args meth c cX9_readDrip 4 (some .boolean) wsX9_readDrip RX9 G ca ad av A) (a_t : Nat) (a_t_bytes : Nat) (a_p1 : Nat) (a_p1_drops : Nat) (a_p1_water : Nat) (a_p1_need : Nat) (a_p1_dew : Nat) (a_p1_song : Nat) (f_t_lawTold : Int32) (f_t_slipTold : Int32) (f_t_songTold : Int32) (f_p1_terraces : Int32) (f_p1_law : Int32) (f_p1_slip : Int32) (f_p1_songLength : Int32) (c_t_bytes : Nat → Int32) (f_t_length : Int32) (res : Int32 × Int32 × Int32 × Int32 × Int32 × (Nat → Int32) × Int32) (f_t_place : Int32) (f_t_start : Int32) (f_t_token : Int32) (f_t_value : Int32) (c_p1_drops : Nat → Int32) (f_p1_days : Int32) (h : F_X9_readDrip c_t_bytes f_t_length f_t_place f_t_start f_t_token f_t_value c_p1_drops f_p1_days = some res) : ∀ (H : Heap) (locs : List Loc), va_P G vwCl [(a_t, .inr (9, [.ref a_t_bytes, .int f_t_length, .int f_t_place, .int f_t_start, .int f_t_token, .int f_t_value, .int f_t_lawTold, .int f_t_slipTold, .int f_t_songTold])), (a_t_bytes, .inl (ca 2, 300, .inl c_t_bytes)), (a_p1, .inr (3, [.ref a_p1_water, .ref a_p1_need, .ref a_p1_dew, .ref a_p1_drops, .ref a_p1_song, .int f_p1_terraces, .int f_p1_days, .int f_p1_law, .int f_p1_slip, .int f_p1_songLength])), (a_p1_drops, .inl (ca 0, 20, .inl c_p1_drops))] H → va_D A [(a_t, .inr (9, [.ref a_t_bytes, .int f_t_length, .int f_t_place, .int f_t_start, .int f_t_token, .int f_t_value, .int f_t_lawTold, .int f_t_slipTold, .int f_t_songTold])), (a_t_bytes, .inl (ca 2, 300, .inl c_t_bytes)), (a_p1, .inr (3, [.ref a_p1_water, .ref a_p1_need, .ref a_p1_dew, .ref a_p1_drops, .ref a_p1_song, .int f_p1_terraces, .int f_p1_days, .int f_p1_law, .int f_p1_slip, .int f_p1_songLength])), (a_p1_drops, .inl (ca 0, 20, .inl c_p1_drops))] → va_S A s.heap H locs → ∀ (ls : Array Slot), lv_has ls 4 [(0, .ref a_t), (1, .ref a_p1)] → W p l e RM_X9_readDrip s m args below meth c H locs 0 0 (MQ below (QI_ G A res.1 [(a_t, .inr (9, [.ref a_t_bytes, .int f_t_length, .int res.2.1, .int res.2.2.1, .int res.2.2.2.1, .int res.2.2.2.2.1, .int f_t_lawTold, .int f_t_slipTold, .int f_t_songTold])), (a_t_bytes, .inl (ca 2, 300, .inl c_t_bytes)), (a_p1, .inr (3, [.ref a_p1_water, .ref a_p1_need, .ref a_p1_dew, .ref a_p1_drops, .ref a_p1_song, .int f_p1_terraces, .int res.2.2.2.2.2.2, .int f_p1_law, .int f_p1_slip, .int f_p1_songLength])), (a_p1_drops, .inl (ca 0, 20, .inl res.2.2.2.2.2.1))]) args s 0 0 A) (F0 m 0 ls []) := by
  obtain ⟨hx, hb, hr, hml, hown, hts, hlocks, hK, hA, hE⟩ := id X0
  intro H locs hP hD hS ls hl
  unfold F_X9_readDrip at h
  refine lv_aload_n hx hb dX9_readDrip_0 rfl (lv_at hl 0 rfl) ?_
  obtain ⟨u1, hc2, h⟩ := bd_o h
  refine jn_v (wr := [(a_p1, .inr (3, [.ref a_p1_water, .ref a_p1_need, .ref a_p1_dew, .ref a_p1_drops, .ref a_p1_song, .int f_p1_terraces, .int f_p1_days, .int f_p1_law, .int f_p1_slip, .int f_p1_songLength])), (a_p1_drops, .inl (ca 0, 20, .inl c_p1_drops))]) (ws' := [(a_t, .inr (9, [.ref a_t_bytes, .int f_t_length, .int u1.1, .int u1.2.1, .int u1.2.2.1, .int u1.2.2.2, .int f_t_lawTold, .int f_t_slipTold, .int f_t_songTold])), (a_t_bytes, .inl (ca 2, 300, .inl c_t_bytes)), (a_p1, .inr (3, [.ref a_p1_water, .ref a_p1_need, .ref a_p1_dew, .ref a_p1_drops, .ref a_p1_song, .int f_p1_terraces, .int f_p1_days, .int f_p1_law, .int f_p1_slip, .int f_p1_songLength])), (a_p1_drops, .inl (ca 0, 20, .inl c_p1_drops))]) (va_runV (As := []) (rest := []) ⟨hx, hb, hml, hown, hts⟩ (c_X9_advance l G ca ad av H.size a_t a_t_bytes f_t_lawTold f_t_slipTold f_t_songTold c_t_bytes f_t_length f_t_place f_t_start f_t_token f_t_value u1 hc2) (cwV 0 hts gX9_readDrip_X9_advance rfl rfl rfl (by decide +kernel) ⟨Nat.le_of_ble_eq_true rfl, Nat.le_of_ble_eq_true rfl⟩) (pre_v (q0 := 0) (ci := 9) hK hE hA hP hD hS [0, 1] rfl (by decide) rfl rfl) rfl rfl hl.1 rfl (lv_room (Nat.le_of_ble_eq_true rfl)) dX9_readDrip_1 ⟨Nat.le_of_ble_eq_true rfl, Nat.le_of_ble_eq_true rfl⟩) hA hP hD hS [0, 1] [2, 3] [2, 3, 0, 1] rfl rfl (by decide) (by decide) (by decide) rfl (fun H locs hP hD hS => ?_)
  refine lv_aload_n hx hb dX9_readDrip_4 rfl (lv_at hl 0 rfl) ?_
  refine lv_iconst (v := 0) hx hb dX9_readDrip_5 (by decide) ?_
  refine lv_bipush (v := 30) hx hb dX9_readDrip_6 (by decide) ?_
  obtain ⟨u3, hc4, h⟩ := bd_o h
  refine jn_i (wr := [(a_p1, .inr (3, [.ref a_p1_water, .ref a_p1_need, .ref a_p1_dew, .ref a_p1_drops, .ref a_p1_song, .int f_p1_terraces, .int f_p1_days, .int f_p1_law, .int f_p1_slip, .int f_p1_songLength])), (a_p1_drops, .inl (ca 0, 20, .inl c_p1_drops))]) (ws' := [(a_t, .inr (9, [.ref a_t_bytes, .int f_t_length, .int u3.2.1, .int u3.2.2.1, .int u3.2.2.2.1, .int u3.2.2.2.2, .int f_t_lawTold, .int f_t_slipTold, .int f_t_songTold])), (a_t_bytes, .inl (ca 2, 300, .inl c_t_bytes)), (a_p1, .inr (3, [.ref a_p1_water, .ref a_p1_need, .ref a_p1_dew, .ref a_p1_drops, .ref a_p1_song, .int f_p1_terraces, .int f_p1_days, .int f_p1_law, .int f_p1_slip, .int f_p1_songLength])), (a_p1_drops, .inl (ca 0, 20, .inl c_p1_drops))]) (va_runV (As := [.int (0 : Int32), .int (30 : Int32)]) (rest := []) ⟨hx, hb, hml, hown, hts⟩ (c_X9_takeNumber l G ca ad av H.size a_t a_t_bytes f_t_lawTold f_t_slipTold f_t_songTold c_t_bytes f_t_length u1.1 u1.2.1 u1.2.2.1 u1.2.2.2 (0 : Int32) (30 : Int32) u3 hc4) (cwV 2 hts gX9_readDrip_X9_takeNumber rfl rfl rfl (by decide +kernel) ⟨Nat.le_of_ble_eq_true rfl, Nat.le_of_ble_eq_true rfl⟩) (pre_v (q0 := 0) (ci := 9) hK hE hA hP hD hS [0, 1] rfl (by decide) rfl rfl) rfl rfl hl.1 rfl (lv_room (Nat.le_of_ble_eq_true rfl)) dX9_readDrip_8 ⟨Nat.le_of_ble_eq_true rfl, Nat.le_of_ble_eq_true rfl⟩) hA hP hD hS [0, 1] [2, 3] [2, 3, 0, 1] rfl rfl (by decide) (by decide) (by decide) rfl (fun H locs hP hD hS => ?_)
  refine lv_istore_n (lv' := [(2, .int u3.1), (0, .ref a_t), (1, .ref a_p1)]) hx hb dX9_readDrip_11 rfl hl (by decide) rfl (fun ls hl => ?_)
  refine lv_iload_n hx hb dX9_readDrip_12 rfl (lv_at hl 0 rfl) ?_
  refine lv_if_ge (tgt := 18) hx hb dX9_readDrip_13 (by decide) (fun b5 => ?_) (fun b5 => ?_)
  · have h := (if_pos b5).symm.trans h
    refine lv_aload_n hx hb dX9_readDrip_18 rfl (lv_at hl 1 rfl) ?_
    refine lv_iconst (v := 1) hx hb dX9_readDrip_19 (by decide) ?_
    refine lv_bipush (v := 20) hx hb dX9_readDrip_20 (by decide) ?_
    refine lv_aload_n hx hb dX9_readDrip_22 rfl (lv_at hl 2 rfl) ?_
    refine va_getN (D := G) (ci := 3) (v := .int f_p1_days) (C := RX3) (T := TX3) (N := 10) hx hb hts i_X9_readDrip_X3 hown hK hP 2 rfl rfl 6 (by decide) (va_Nw.use rfl (hE.1 _ k_X9_readDrip_0)) (fun _ h9 => h9) rfl dX9_readDrip_23 ?_
    refine lv_isub hx hb dX9_readDrip_26 ?_
    obtain ⟨u6, hc7, h⟩ := bd_o h
    refine jn_i (wr := [(a_p1, .inr (3, [.ref a_p1_water, .ref a_p1_need, .ref a_p1_dew, .ref a_p1_drops, .ref a_p1_song, .int f_p1_terraces, .int f_p1_days, .int f_p1_law, .int f_p1_slip, .int f_p1_songLength])), (a_p1_drops, .inl (ca 0, 20, .inl c_p1_drops))]) (ws' := [(a_t, .inr (9, [.ref a_t_bytes, .int f_t_length, .int u6.2.1, .int u6.2.2.1, .int u6.2.2.2.1, .int u6.2.2.2.2, .int f_t_lawTold, .int f_t_slipTold, .int f_t_songTold])), (a_t_bytes, .inl (ca 2, 300, .inl c_t_bytes)), (a_p1, .inr (3, [.ref a_p1_water, .ref a_p1_need, .ref a_p1_dew, .ref a_p1_drops, .ref a_p1_song, .int f_p1_terraces, .int f_p1_days, .int f_p1_law, .int f_p1_slip, .int f_p1_songLength])), (a_p1_drops, .inl (ca 0, 20, .inl c_p1_drops))]) (va_runV (As := [.int (1 : Int32), .int ((20 : Int32) - f_p1_days)]) (rest := []) ⟨hx, hb, hml, hown, hts⟩ (c_X9_takeNumber l G ca ad av H.size a_t a_t_bytes f_t_lawTold f_t_slipTold f_t_songTold c_t_bytes f_t_length u3.2.1 u3.2.2.1 u3.2.2.2.1 u3.2.2.2.2 (1 : Int32) ((20 : Int32) - f_p1_days) u6 hc7) (cwV 2 hts gX9_readDrip_X9_takeNumber rfl rfl rfl (by decide +kernel) ⟨Nat.le_of_ble_eq_true rfl, Nat.le_of_ble_eq_true rfl⟩) (pre_v (q0 := 0) (ci := 9) hK hE hA hP hD hS [0, 1] rfl (by decide) rfl rfl) rfl rfl hl.1 rfl (lv_room (Nat.le_of_ble_eq_true rfl)) dX9_readDrip_27 ⟨Nat.le_of_ble_eq_true rfl, Nat.le_of_ble_eq_true rfl⟩) hA hP hD hS [0, 1] [2, 3] [2, 3, 0, 1] rfl rfl (by decide) (by decide) (by decide) rfl (fun H locs hP hD hS => ?_)
    refine lv_istore_n (lv' := [(3, .int u6.1), (2, .int u3.1), (0, .ref a_t), (1, .ref a_p1)]) hx hb dX9_readDrip_30 rfl hl (by decide) rfl (fun ls hl => ?_)
    refine lv_iload_n hx hb dX9_readDrip_31 rfl (lv_at hl 0 rfl) ?_
    refine lv_if_ge (tgt := 37) hx hb dX9_readDrip_32 (by decide) (fun b8 => ?_) (fun b8 => ?_)
    · have h := (if_pos b8).symm.trans h
      refine lv_aload_n hx hb dX9_readDrip_37 rfl (lv_at hl 3 rfl) ?_
      refine lv_iload_n hx hb dX9_readDrip_38 rfl (lv_at hl 1 rfl) ?_
      refine lv_iload_n hx hb dX9_readDrip_39 rfl (lv_at hl 0 rfl) ?_
      obtain ⟨u9, hc10, h⟩ := bd_o h
      refine jn_v (wr := [(a_t, .inr (9, [.ref a_t_bytes, .int f_t_length, .int u6.2.1, .int u6.2.2.1, .int u6.2.2.2.1, .int u6.2.2.2.2, .int f_t_lawTold, .int f_t_slipTold, .int f_t_songTold])), (a_t_bytes, .inl (ca 2, 300, .inl c_t_bytes))]) (ws' := [(a_t, .inr (9, [.ref a_t_bytes, .int f_t_length, .int u6.2.1, .int u6.2.2.1, .int u6.2.2.2.1, .int u6.2.2.2.2, .int f_t_lawTold, .int f_t_slipTold, .int f_t_songTold])), (a_t_bytes, .inl (ca 2, 300, .inl c_t_bytes)), (a_p1, .inr (3, [.ref a_p1_water, .ref a_p1_need, .ref a_p1_dew, .ref a_p1_drops, .ref a_p1_song, .int f_p1_terraces, .int u9.2, .int f_p1_law, .int f_p1_slip, .int f_p1_songLength])), (a_p1_drops, .inl (ca 0, 20, .inl u9.1))]) (va_runV (As := [.int u3.1, .int u6.1]) (rest := []) ⟨hx, hb, hml, hown, hts⟩ (c_X3_addDays l G ca ad av H.size a_p1 a_p1_drops a_p1_water a_p1_need a_p1_dew a_p1_song f_p1_terraces f_p1_law f_p1_slip f_p1_songLength c_p1_drops f_p1_days u3.1 u6.1 u9 hc10) (cwV 2 hts gX9_readDrip_X3_addDays rfl rfl rfl (by decide +kernel) ⟨Nat.le_of_ble_eq_true rfl, Nat.le_of_ble_eq_true rfl⟩) (pre_v (q0 := 2) (ci := 3) hK hE hA hP hD hS [2, 3] rfl (by decide) rfl rfl) rfl rfl hl.1 rfl (lv_room (Nat.le_of_ble_eq_true rfl)) dX9_readDrip_40 ⟨Nat.le_of_ble_eq_true rfl, Nat.le_of_ble_eq_true rfl⟩) hA hP hD hS [2, 3] [0, 1] [0, 1, 2, 3] rfl rfl (by decide) (by decide) (by decide) rfl (fun H locs hP hD hS => ?_)
      refine lv_aload_n hx hb dX9_readDrip_43 rfl (lv_at hl 2 rfl) ?_
      obtain ⟨u11, hc12, h⟩ := bd_o h
      refine jn_i (wr := [(a_p1, .inr (3, [.ref a_p1_water, .ref a_p1_need, .ref a_p1_dew, .ref a_p1_drops, .ref a_p1_song, .int f_p1_terraces, .int u9.2, .int f_p1_law, .int f_p1_slip, .int f_p1_songLength])), (a_p1_drops, .inl (ca 0, 20, .inl u9.1))]) (ws' := [(a_t, .inr (9, [.ref a_t_bytes, .int f_t_length, .int u11.2.1, .int u11.2.2.1, .int u11.2.2.2.1, .int u11.2.2.2.2, .int f_t_lawTold, .int f_t_slipTold, .int f_t_songTold])), (a_t_bytes, .inl (ca 2, 300, .inl c_t_bytes)), (a_p1, .inr (3, [.ref a_p1_water, .ref a_p1_need, .ref a_p1_dew, .ref a_p1_drops, .ref a_p1_song, .int f_p1_terraces, .int u9.2, .int f_p1_law, .int f_p1_slip, .int f_p1_songLength])), (a_p1_drops, .inl (ca 0, 20, .inl u9.1))]) (va_runV (As := []) (rest := []) ⟨hx, hb, hml, hown, hts⟩ (c_X9_takeSemicolon l G ca ad av H.size a_t a_t_bytes f_t_lawTold f_t_slipTold f_t_songTold c_t_bytes f_t_length u6.2.1 u6.2.2.1 u6.2.2.2.1 u6.2.2.2.2 u11 hc12) (cwV 0 hts gX9_readDrip_X9_takeSemicolon rfl rfl rfl (by decide +kernel) ⟨Nat.le_of_ble_eq_true rfl, Nat.le_of_ble_eq_true rfl⟩) (pre_v (q0 := 0) (ci := 9) hK hE hA hP hD hS [0, 1] rfl (by decide) rfl rfl) rfl rfl hl.1 rfl (lv_room (Nat.le_of_ble_eq_true rfl)) dX9_readDrip_44 ⟨Nat.le_of_ble_eq_true rfl, Nat.le_of_ble_eq_true rfl⟩) hA hP hD hS [0, 1] [2, 3] [2, 3, 0, 1] rfl rfl (by decide) (by decide) (by decide) rfl (fun H locs hP hD hS => ?_)
      obtain ⟨g13, h⟩ := gd_t h
      have h := sm_i h
      subst h
      exact W.zret (v := u11.1) hx hb hr (ok_nz g13) (fun t ht hW => ⟨⟨u11.1, (), rfl, rfl, by rw [ht]; exact hP, hD⟩, hS.F ht⟩) hS.2.2 dX9_readDrip_47
    · have h := (if_neg b8).symm.trans h
      refine lv_iconst (v := 0) hx hb dX9_readDrip_35 (by decide) ?_
      have h := sm_i h
      subst h
      exact W.zret (v := (0 : Int32)) hx hb hr rfl (fun t ht hW => ⟨⟨(0 : Int32), (), rfl, rfl, by rw [ht]; exact hP, hD⟩, hS.F ht⟩) hS.2.2 dX9_readDrip_36
  · have h := (if_neg b5).symm.trans h
    refine lv_iconst (v := 0) hx hb dX9_readDrip_16 (by decide) ?_
    have h := sm_i h
    subst h
    exact W.zret (v := (0 : Int32)) hx hb hr rfl (fun t ht hW => ⟨⟨(0 : Int32), (), rfl, rfl, by rw [ht]; exact hP, hD⟩, hS.F ht⟩) hS.2.2 dX9_readDrip_17
set_option maxHeartbeats 4000000 in
set_option maxRecDepth 100000 in
theorem c_X9_readDrip (l : Launch) (G : va_G) (ca : Nat → ClassId) (ad av : Nat → Nat) (sz : Nat) (a_t : Nat) (a_t_bytes : Nat) (a_p1 : Nat) (a_p1_drops : Nat) (a_p1_water : Nat) (a_p1_need : Nat) (a_p1_dew : Nat) (a_p1_song : Nat) (f_t_lawTold : Int32) (f_t_slipTold : Int32) (f_t_songTold : Int32) (f_p1_terraces : Int32) (f_p1_law : Int32) (f_p1_slip : Int32) (f_p1_songLength : Int32) (c_t_bytes : Nat → Int32) (f_t_length : Int32) (f_t_place : Int32) (f_t_start : Int32) (f_t_token : Int32) (f_t_value : Int32) (c_p1_drops : Nat → Int32) (f_p1_days : Int32) (res : Int32 × Int32 × Int32 × Int32 × Int32 × (Nat → Int32) × Int32) (h : F_X9_readDrip c_t_bytes f_t_length f_t_place f_t_start f_t_token f_t_value c_p1_drops f_p1_days = some res) : Met l yX9_readDrip wsX9_readDrip RM_X9_readDrip (va_Pc [.ref a_t, .ref a_p1] (PW_ G ca ad av sz [(a_t, .inr (9, [.ref a_t_bytes, .int f_t_length, .int f_t_place, .int f_t_start, .int f_t_token, .int f_t_value, .int f_t_lawTold, .int f_t_slipTold, .int f_t_songTold])), (a_t_bytes, .inl (ca 2, 300, .inl c_t_bytes)), (a_p1, .inr (3, [.ref a_p1_water, .ref a_p1_need, .ref a_p1_dew, .ref a_p1_drops, .ref a_p1_song, .int f_p1_terraces, .int f_p1_days, .int f_p1_law, .int f_p1_slip, .int f_p1_songLength])), (a_p1_drops, .inl (ca 0, 20, .inl c_p1_drops))])) (QI_ G (va_A [(a_t, .inr (9, [.ref a_t_bytes, .int f_t_length, .int f_t_place, .int f_t_start, .int f_t_token, .int f_t_value, .int f_t_lawTold, .int f_t_slipTold, .int f_t_songTold])), (a_t_bytes, .inl (ca 2, 300, .inl c_t_bytes)), (a_p1, .inr (3, [.ref a_p1_water, .ref a_p1_need, .ref a_p1_dew, .ref a_p1_drops, .ref a_p1_song, .int f_p1_terraces, .int f_p1_days, .int f_p1_law, .int f_p1_slip, .int f_p1_songLength])), (a_p1_drops, .inl (ca 0, 20, .inl c_p1_drops))] sz) res.1 [(a_t, .inr (9, [.ref a_t_bytes, .int f_t_length, .int res.2.1, .int res.2.2.1, .int res.2.2.2.1, .int res.2.2.2.2.1, .int f_t_lawTold, .int f_t_slipTold, .int f_t_songTold])), (a_t_bytes, .inl (ca 2, 300, .inl c_t_bytes)), (a_p1, .inr (3, [.ref a_p1_water, .ref a_p1_need, .ref a_p1_dew, .ref a_p1_drops, .ref a_p1_song, .int f_p1_terraces, .int res.2.2.2.2.2.2, .int f_p1_law, .int f_p1_slip, .int f_p1_songLength])), (a_p1_drops, .inl (ca 0, 20, .inl res.2.2.2.2.2.1))]) 0 0 (va_A [(a_t, .inr (9, [.ref a_t_bytes, .int f_t_length, .int f_t_place, .int f_t_start, .int f_t_token, .int f_t_value, .int f_t_lawTold, .int f_t_slipTold, .int f_t_songTold])), (a_t_bytes, .inl (ca 2, 300, .inl c_t_bytes)), (a_p1, .inr (3, [.ref a_p1_water, .ref a_p1_need, .ref a_p1_dew, .ref a_p1_drops, .ref a_p1_song, .int f_p1_terraces, .int f_p1_days, .int f_p1_law, .int f_p1_slip, .int f_p1_songLength])), (a_p1_drops, .inl (ca 0, 20, .inl c_p1_drops))] sz) := by
  refine Met.ofW (cc := cX9_readDrip) (maxL := 4) (ret := (some .boolean)) (by decide) rfl ?_
  intro p e s m args below meth c s₁ B hml hv
  obtain ⟨X0, rfl, rfl, hP, hD⟩ := en_t B hml hv
  have hl := lv_entry ([.ref a_t, .ref a_p1]) (n := 4) (Nat.le_of_ble_eq_true rfl)
  rw [lg_entry_eq]
  generalize (lg_sl ([.ref a_t, .ref a_p1]) ++ List.replicate (4 - (lg_sl ([.ref a_t, .ref a_p1])).length) Slot.unset).toArray = ls at hl ⊢
  exact w_X9_readDrip_0 X0 a_t a_t_bytes a_p1 a_p1_drops a_p1_water a_p1_need a_p1_dew a_p1_song f_t_lawTold f_t_slipTold f_t_songTold f_p1_terraces f_p1_law f_p1_slip f_p1_songLength c_t_bytes f_t_length _ f_t_place f_t_start f_t_token f_t_value c_p1_drops f_p1_days h s.heap [] hP hD va_S.rf ls hl

/-! X9_isWord_S2 -/
abbrev RM_X9_isWord_S2 : Room := { frames := 4, cells := 0, slots := 0, locals := 85 }
theorem k_X9_isWord_S2_0 : Cond.fieldLink RX9 9 "DropDealers$Reader" "bytes" "[B" ∈ wsX9_isWord := by decide +kernel
theorem i_X9_isWord_S2_X9 : ∀ w ∈ u_ws RX9 TX9 9, w ∈ wsX9_isWord := by decide +kernel
theorem k_X9_isWord_S2_2 : Cond.fieldLink RX9 47 "DropDealers$Reader" "start" "I" ∈ wsX9_isWord := by decide +kernel
theorem k_X9_isWord_S2_3 : Cond.fieldLink RX9 34 "DropDealers$Reader" "place" "I" ∈ wsX9_isWord := by decide +kernel
def F_X9_isWord_S2_20 (c_t_bytes : Nat → Int32) (f_t_place : Int32) (f_t_start : Int32) : Nat → Int32 → Option (Int32)
  | 0, _ => none
  | n + 1, y2 => if (Int32.ofNat (st_len.getD 2 0)) ≤ y2 then (some ((1 : Int32))) else (if ok_I (f_t_start + y2) 300 = true then if ok_I y2 (st_len.getD 2 0) = true then if (c_t_bytes (f_t_start + y2).toNatClampNeg) = (st_ch 2 y2) then (F_X9_isWord_S2_20 c_t_bytes f_t_place f_t_start n (y2 + (1 : Int32))) else (some ((0 : Int32))) else none else none)
set_option maxHeartbeats 4000000 in
set_option maxRecDepth 100000 in
theorem w_X9_isWord_S2_20 {p : Program} {l : Launch} {e : Env} {s : State} {m : MethodId} {args : Array Value} {below : List Frame} {meth : Method} {c : Code} {G : va_G} {ca : Nat → ClassId} {ad av : Nat → Nat} {A : Nat → Prop} (X0 : CX_ p s m args meth c cX9_isWord 3 (some .boolean) wsX9_isWord RX9 G ca ad av A) (a_t : Nat) (a_t_bytes : Nat) (f_t_length : Int32) (f_t_token : Int32) (f_t_value : Int32) (f_t_lawTold : Int32) (f_t_slipTold : Int32) (f_t_songTold : Int32) (c_t_bytes : Nat → Int32) (f_t_place : Int32) (f_t_start : Int32) (res : Int32) : ∀ (n : Nat) (y2 : Int32), F_X9_isWord_S2_20 c_t_bytes f_t_place f_t_start n y2 = some res → ∀ (H : Heap) (locs : List Loc), va_P G vwCl [(a_t, .inr (9, [.ref a_t_bytes, .int f_t_length, .int f_t_place, .int f_t_start, .int f_t_token, .int f_t_value, .int f_t_lawTold, .int f_t_slipTold, .int f_t_songTold])), (a_t_bytes, .inl (ca 2, 300, .inl c_t_bytes))] H → va_D A [(a_t, .inr (9, [.ref a_t_bytes, .int f_t_length, .int f_t_place, .int f_t_start, .int f_t_token, .int f_t_value, .int f_t_lawTold, .int f_t_slipTold, .int f_t_songTold])), (a_t_bytes, .inl (ca 2, 300, .inl c_t_bytes))] → va_S A s.heap H locs → ∀ (ls : Array Slot), lv_has ls 3 [(0, .ref a_t), (1, .ref (ad 2)), (2, .int y2)] → W p l e RM_X9_isWord_S2 s m args below meth c H locs 0 0 (MQ below (QI_ G A res [(a_t, .inr (9, [.ref a_t_bytes, .int f_t_length, .int f_t_place, .int f_t_start, .int f_t_token, .int f_t_value, .int f_t_lawTold, .int f_t_slipTold, .int f_t_songTold])), (a_t_bytes, .inl (ca 2, 300, .inl c_t_bytes))]) args s 0 0 A) (F0 m 20 ls []) := by
  obtain ⟨hx, hb, hr, hml, hown, hts, hlocks, hK, hA, hE⟩ := id X0
  intro n
  induction n with
  | zero => intro y2 h; cases h
  | succ n ih =>
    intro y2 h H locs hP hD hS ls hl
    rw [F_X9_isWord_S2_20] at h
    refine lv_iload_n hx hb dX9_isWord_20 rfl (lv_at hl 2 rfl) ?_
    refine lv_aload_n hx hb dX9_isWord_21 rfl (lv_at hl 1 rfl) ?_
    refine jn_i (wr := [(a_t, .inr (9, [.ref a_t_bytes, .int f_t_length, .int f_t_place, .int f_t_start, .int f_t_token, .int f_t_value, .int f_t_lawTold, .int f_t_slipTold, .int f_t_songTold])), (a_t_bytes, .inl (ca 2, 300, .inl c_t_bytes))]) (ws' := [(a_t, .inr (9, [.ref a_t_bytes, .int f_t_length, .int f_t_place, .int f_t_start, .int f_t_token, .int f_t_value, .int f_t_lawTold, .int f_t_slipTold, .int f_t_songTold])), (a_t_bytes, .inl (ca 2, 300, .inl c_t_bytes))]) (va_runV (As := []) (rest := [.int y2]) ⟨hx, hb, hml, hown, hts⟩ (c_J0_length l G ca ad av H.size 2 (by decide)) (cwV 0 hts gX9_isWord_J0_length_8abf5 rfl rfl rfl (by decide +kernel) ⟨Nat.le_of_ble_eq_true rfl, Nat.le_of_ble_eq_true rfl⟩) (pre_k (k := 2) (by decide) hK hE hA hP hD hS [] rfl (by decide)) rfl rfl hl.1 rfl (lv_room (Nat.le_of_ble_eq_true rfl)) dX9_isWord_22 ⟨Nat.le_of_ble_eq_true rfl, Nat.le_of_ble_eq_true rfl⟩) hA hP hD hS [] [0, 1] [0, 1] rfl rfl (by decide) (by decide) (by decide) rfl (fun H locs hP hD hS => ?_)
    refine lv_icmp_ge (tgt := 55) hx hb dX9_isWord_25 (by decide) (fun b1 => ?_) (fun b1 => ?_)
    · have h := (if_pos b1).symm.trans h
      refine lv_iconst (v := 1) hx hb dX9_isWord_55 (by decide) ?_
      have h := sm_i h
      subst h
      exact W.zret (v := (1 : Int32)) hx hb hr rfl (fun t ht hW => ⟨⟨(1 : Int32), (), rfl, rfl, by rw [ht]; exact hP, hD⟩, hS.F ht⟩) hS.2.2 dX9_isWord_56
    · have h := (if_neg b1).symm.trans h
      refine lv_aload_n hx hb dX9_isWord_28 rfl (lv_at hl 0 rfl) ?_
      refine va_get (D := G) (ci := 9) (v := .ref a_t_bytes) (C := RX9) (T := TX9) (N := 9) hx hb hts i_X9_isWord_S2_X9 hown hK hP 0 rfl rfl 0 (by decide) (hts _ k_X9_isWord_S2_0) (fun _ h9 => h9) rfl dX9_isWord_29 ?_
      refine lv_aload_n hx hb dX9_isWord_32 rfl (lv_at hl 0 rfl) ?_
      refine va_get (D := G) (ci := 9) (v := .int f_t_start) (C := RX9) (T := TX9) (N := 9) hx hb hts i_X9_isWord_S2_X9 hown hK hP 0 rfl rfl 3 (by decide) (hts _ k_X9_isWord_S2_2) (fun _ h9 => h9) rfl dX9_isWord_33 ?_
      refine lv_iload_n hx hb dX9_isWord_36 rfl (lv_at hl 2 rfl) ?_
      refine lv_iadd hx hb dX9_isWord_37 ?_
      obtain ⟨g2, h⟩ := gd_t h
      refine va_bald hx hb hK hP 1 2 rfl rfl (ok_in g2) dX9_isWord_38 ?_
      refine lv_aload_n hx hb dX9_isWord_39 rfl (lv_at hl 1 rfl) ?_
      refine lv_iload_n hx hb dX9_isWord_40 rfl (lv_at hl 2 rfl) ?_
      obtain ⟨g3, h⟩ := gd_t h
      refine jn_i (wr := [(a_t, .inr (9, [.ref a_t_bytes, .int f_t_length, .int f_t_place, .int f_t_start, .int f_t_token, .int f_t_value, .int f_t_lawTold, .int f_t_slipTold, .int f_t_songTold])), (a_t_bytes, .inl (ca 2, 300, .inl c_t_bytes))]) (ws' := [(a_t, .inr (9, [.ref a_t_bytes, .int f_t_length, .int f_t_place, .int f_t_start, .int f_t_token, .int f_t_value, .int f_t_lawTold, .int f_t_slipTold, .int f_t_songTold])), (a_t_bytes, .inl (ca 2, 300, .inl c_t_bytes))]) (va_runV (As := [.int y2]) (rest := [.int (c_t_bytes (f_t_start + y2).toNatClampNeg)]) ⟨hx, hb, hml, hown, hts⟩ (c_J0_charAt l G ca ad av H.size 2 (by decide) y2 g3) (cwV 1 hts gX9_isWord_J0_charAt_5068e rfl rfl rfl (by decide +kernel) ⟨Nat.le_of_ble_eq_true rfl, Nat.le_of_ble_eq_true rfl⟩) (pre_k (k := 2) (by decide) hK hE hA hP hD hS [] rfl (by decide)) rfl rfl hl.1 rfl (lv_room (Nat.le_of_ble_eq_true rfl)) dX9_isWord_41 ⟨Nat.le_of_ble_eq_true rfl, Nat.le_of_ble_eq_true rfl⟩) hA hP hD hS [] [0, 1] [0, 1] rfl rfl (by decide) (by decide) (by decide) rfl (fun H locs hP hD hS => ?_)
      refine lv_icmp_eq (tgt := 49) hx hb dX9_isWord_44 (by decide) (fun b4 => ?_) (fun b4 => ?_)
      · have h := (if_pos b4).symm.trans h
        refine lv_iinc (v := (y2 + (1 : Int32))) (lv' := [(2, .int (y2 + (1 : Int32))), (0, .ref a_t), (1, .ref (ad 2))]) hx hb dX9_isWord_49 hl (k := 2) rfl rfl (by decide) rfl (fun ls hl => ?_)
        refine lv_goto (tgt := 20) hx hb dX9_isWord_52 (by decide) ?_
        exact ih (y2 + (1 : Int32)) h H locs hP hD hS ls (lv_sub hl [1, 2, 0] rfl)
      · have h := (if_neg b4).symm.trans h
        refine lv_iconst (v := 0) hx hb dX9_isWord_47 (by decide) ?_
        have h := sm_i h
        subst h
        exact W.zret (v := (0 : Int32)) hx hb hr rfl (fun t ht hW => ⟨⟨(0 : Int32), (), rfl, rfl, by rw [ht]; exact hP, hD⟩, hS.F ht⟩) hS.2.2 dX9_isWord_48
def F_X9_isWord_S2 (c_t_bytes : Nat → Int32) (f_t_place : Int32) (f_t_start : Int32)  : Option (Int32) := if (f_t_place - f_t_start) = (Int32.ofNat (st_len.getD 2 0)) then (F_X9_isWord_S2_20 c_t_bytes f_t_place f_t_start FU_ (0 : Int32)) else (some ((0 : Int32)))
set_option maxHeartbeats 4000000 in
set_option maxRecDepth 100000 in
theorem w_X9_isWord_S2_0 {p : Program} {l : Launch} {e : Env} {s : State} {m : MethodId} {args : Array Value} {below : List Frame} {meth : Method} {c : Code} {G : va_G} {ca : Nat → ClassId} {ad av : Nat → Nat} {A : Nat → Prop} (X0 : CX_ p s m args meth c cX9_isWord 3 (some .boolean) wsX9_isWord RX9 G ca ad av A) (a_t : Nat) (a_t_bytes : Nat) (f_t_length : Int32) (f_t_token : Int32) (f_t_value : Int32) (f_t_lawTold : Int32) (f_t_slipTold : Int32) (f_t_songTold : Int32) (c_t_bytes : Nat → Int32) (f_t_place : Int32) (f_t_start : Int32) (res : Int32)  (h : F_X9_isWord_S2 c_t_bytes f_t_place f_t_start  = some res) : ∀ (H : Heap) (locs : List Loc), va_P G vwCl [(a_t, .inr (9, [.ref a_t_bytes, .int f_t_length, .int f_t_place, .int f_t_start, .int f_t_token, .int f_t_value, .int f_t_lawTold, .int f_t_slipTold, .int f_t_songTold])), (a_t_bytes, .inl (ca 2, 300, .inl c_t_bytes))] H → va_D A [(a_t, .inr (9, [.ref a_t_bytes, .int f_t_length, .int f_t_place, .int f_t_start, .int f_t_token, .int f_t_value, .int f_t_lawTold, .int f_t_slipTold, .int f_t_songTold])), (a_t_bytes, .inl (ca 2, 300, .inl c_t_bytes))] → va_S A s.heap H locs → ∀ (ls : Array Slot), lv_has ls 3 [(0, .ref a_t), (1, .ref (ad 2))] → W p l e RM_X9_isWord_S2 s m args below meth c H locs 0 0 (MQ below (QI_ G A res [(a_t, .inr (9, [.ref a_t_bytes, .int f_t_length, .int f_t_place, .int f_t_start, .int f_t_token, .int f_t_value, .int f_t_lawTold, .int f_t_slipTold, .int f_t_songTold])), (a_t_bytes, .inl (ca 2, 300, .inl c_t_bytes))]) args s 0 0 A) (F0 m 0 ls []) := by
  obtain ⟨hx, hb, hr, hml, hown, hts, hlocks, hK, hA, hE⟩ := id X0
  intro H locs hP hD hS ls hl
  unfold F_X9_isWord_S2 at h
  refine lv_aload_n hx hb dX9_isWord_0 rfl (lv_at hl 0 rfl) ?_
  refine va_get (D := G) (ci := 9) (v := .int f_t_place) (C := RX9) (T := TX9) (N := 9) hx hb hts i_X9_isWord_S2_X9 hown hK hP 0 rfl rfl 2 (by decide) (hts _ k_X9_isWord_S2_3) (fun _ h9 => h9) rfl dX9_isWord_1 ?_
  refine lv_aload_n hx hb dX9_isWord_4 rfl (lv_at hl 0 rfl) ?_
  refine va_get (D := G) (ci := 9) (v := .int f_t_start) (C := RX9) (T := TX9) (N := 9) hx hb hts i_X9_isWord_S2_X9 hown hK hP 0 rfl rfl 3 (by decide) (hts _ k_X9_isWord_S2_2) (fun _ h9 => h9) rfl dX9_isWord_5 ?_
  refine lv_isub hx hb dX9_isWord_8 ?_
  refine lv_aload_n hx hb dX9_isWord_9 rfl (lv_at hl 1 rfl) ?_
  refine jn_i (wr := [(a_t, .inr (9, [.ref a_t_bytes, .int f_t_length, .int f_t_place, .int f_t_start, .int f_t_token, .int f_t_value, .int f_t_lawTold, .int f_t_slipTold, .int f_t_songTold])), (a_t_bytes, .inl (ca 2, 300, .inl c_t_bytes))]) (ws' := [(a_t, .inr (9, [.ref a_t_bytes, .int f_t_length, .int f_t_place, .int f_t_start, .int f_t_token, .int f_t_value, .int f_t_lawTold, .int f_t_slipTold, .int f_t_songTold])), (a_t_bytes, .inl (ca 2, 300, .inl c_t_bytes))]) (va_runV (As := []) (rest := [.int (f_t_place - f_t_start)]) ⟨hx, hb, hml, hown, hts⟩ (c_J0_length l G ca ad av H.size 2 (by decide)) (cwV 0 hts gX9_isWord_J0_length_8abf5 rfl rfl rfl (by decide +kernel) ⟨Nat.le_of_ble_eq_true rfl, Nat.le_of_ble_eq_true rfl⟩) (pre_k (k := 2) (by decide) hK hE hA hP hD hS [] rfl (by decide)) rfl rfl hl.1 rfl (lv_room (Nat.le_of_ble_eq_true rfl)) dX9_isWord_10 ⟨Nat.le_of_ble_eq_true rfl, Nat.le_of_ble_eq_true rfl⟩) hA hP hD hS [] [0, 1] [0, 1] rfl rfl (by decide) (by decide) (by decide) rfl (fun H locs hP hD hS => ?_)
  refine lv_icmp_eq (tgt := 18) hx hb dX9_isWord_13 (by decide) (fun b5 => ?_) (fun b5 => ?_)
  · have h := (if_pos b5).symm.trans h
    refine lv_iconst (v := 0) hx hb dX9_isWord_18 (by decide) ?_
    refine lv_istore_n (lv' := [(2, .int (0 : Int32)), (0, .ref a_t), (1, .ref (ad 2))]) hx hb dX9_isWord_19 rfl hl (by decide) rfl (fun ls hl => ?_)
    exact w_X9_isWord_S2_20 X0 a_t a_t_bytes f_t_length f_t_token f_t_value f_t_lawTold f_t_slipTold f_t_songTold c_t_bytes f_t_place f_t_start _ FU_ (0 : Int32) h H locs hP hD hS ls (lv_sub hl [1, 2, 0] rfl)
  · have h := (if_neg b5).symm.trans h
    refine lv_iconst (v := 0) hx hb dX9_isWord_16 (by decide) ?_
    have h := sm_i h
    subst h
    exact W.zret (v := (0 : Int32)) hx hb hr rfl (fun t ht hW => ⟨⟨(0 : Int32), (), rfl, rfl, by rw [ht]; exact hP, hD⟩, hS.F ht⟩) hS.2.2 dX9_isWord_17
set_option maxHeartbeats 4000000 in
set_option maxRecDepth 100000 in
theorem c_X9_isWord_S2 (l : Launch) (G : va_G) (ca : Nat → ClassId) (ad av : Nat → Nat) (sz : Nat) (a_t : Nat) (a_t_bytes : Nat) (f_t_length : Int32) (f_t_token : Int32) (f_t_value : Int32) (f_t_lawTold : Int32) (f_t_slipTold : Int32) (f_t_songTold : Int32) (c_t_bytes : Nat → Int32) (f_t_place : Int32) (f_t_start : Int32)  (res : Int32) (h : F_X9_isWord_S2 c_t_bytes f_t_place f_t_start  = some res) : Met l yX9_isWord wsX9_isWord RM_X9_isWord_S2 (va_Pc [.ref a_t, .ref (ad 2)] (PW_ G ca ad av sz [(a_t, .inr (9, [.ref a_t_bytes, .int f_t_length, .int f_t_place, .int f_t_start, .int f_t_token, .int f_t_value, .int f_t_lawTold, .int f_t_slipTold, .int f_t_songTold])), (a_t_bytes, .inl (ca 2, 300, .inl c_t_bytes))])) (QI_ G (va_A [(a_t, .inr (9, [.ref a_t_bytes, .int f_t_length, .int f_t_place, .int f_t_start, .int f_t_token, .int f_t_value, .int f_t_lawTold, .int f_t_slipTold, .int f_t_songTold])), (a_t_bytes, .inl (ca 2, 300, .inl c_t_bytes))] sz) res [(a_t, .inr (9, [.ref a_t_bytes, .int f_t_length, .int f_t_place, .int f_t_start, .int f_t_token, .int f_t_value, .int f_t_lawTold, .int f_t_slipTold, .int f_t_songTold])), (a_t_bytes, .inl (ca 2, 300, .inl c_t_bytes))]) 0 0 (va_A [(a_t, .inr (9, [.ref a_t_bytes, .int f_t_length, .int f_t_place, .int f_t_start, .int f_t_token, .int f_t_value, .int f_t_lawTold, .int f_t_slipTold, .int f_t_songTold])), (a_t_bytes, .inl (ca 2, 300, .inl c_t_bytes))] sz) := by
  refine Met.ofW (cc := cX9_isWord) (maxL := 3) (ret := (some .boolean)) (by decide) rfl ?_
  intro p e s m args below meth c s₁ B hml hv
  obtain ⟨X0, rfl, rfl, hP, hD⟩ := en_t B hml hv
  have hl := lv_entry ([.ref a_t, .ref (ad 2)]) (n := 3) (Nat.le_of_ble_eq_true rfl)
  rw [lg_entry_eq]
  generalize (lg_sl ([.ref a_t, .ref (ad 2)]) ++ List.replicate (3 - (lg_sl ([.ref a_t, .ref (ad 2)])).length) Slot.unset).toArray = ls at hl ⊢
  exact w_X9_isWord_S2_0 X0 a_t a_t_bytes f_t_length f_t_token f_t_value f_t_lawTold f_t_slipTold f_t_songTold c_t_bytes f_t_place f_t_start _  h s.heap [] hP hD va_S.rf ls hl

/-! X9_readLaw -/
abbrev RM_X9_readLaw : Room := { frames := 4, cells := 0, slots := 0, locals := 88 }
theorem k_X9_readLaw_0 : Cond.fieldLink RX9 24 "DropDealers$Reader" "lawTold" "Z" ∈ wsX9_readLaw := by decide +kernel
theorem i_X9_readLaw_X9 : ∀ w ∈ u_ws RX9 TX9 9, w ∈ wsX9_readLaw := by decide +kernel
theorem k_X9_readLaw_2 : Cond.fieldLinkNest RX9 110 "DropDealers$Hill" "law" "I" "DropDealers" ∈ nw_l := by decide +kernel
theorem i_X9_readLaw_X3 : ∀ w ∈ u_ws RX3 TX3 10, w ∈ wsX9_readLaw := by decide +kernel
def F_X9_readLaw (c_t_bytes : Nat → Int32) (f_t_length : Int32) (f_t_place : Int32) (f_t_start : Int32) (f_t_token : Int32) (f_t_value : Int32) (f_t_lawTold : Int32) (f_p1_law : Int32) : Option (Int32 × Int32 × Int32 × Int32 × Int32 × Int32 × Int32) := if f_t_lawTold = 0 then ((F_X9_advance c_t_bytes f_t_length f_t_place f_t_start f_t_token f_t_value).bind (fun u2 => (F_X9_takeNumber c_t_bytes f_t_length u2.1 u2.2.1 u2.2.2.1 u2.2.2.2 (0 : Int32) (2 : Int32)).bind (fun u4 => if u4.1 < 0 then (some ((0 : Int32), u4.2.1, u4.2.2.1, u4.2.2.2.1, u4.2.2.2.2, (1 : Int32), u4.1)) else ((F_X9_takeSemicolon c_t_bytes f_t_length u4.2.1 u4.2.2.1 u4.2.2.2.1 u4.2.2.2.2).bind (fun u7 => if u7.1 = 0 then (some ((0 : Int32), u7.2.1, u7.2.2.1, u7.2.2.2.1, u7.2.2.2.2, (1 : Int32), u4.1)) else (some ((1 : Int32), u7.2.1, u7.2.2.1, u7.2.2.2.1, u7.2.2.2.2, (1 : Int32), u4.1))))))) else (some ((0 : Int32), f_t_place, f_t_start, f_t_token, f_t_value, f_t_lawTold, f_p1_law))
set_option maxHeartbeats 4000000 in
set_option maxRecDepth 100000 in
theorem w_X9_readLaw_0 {p : Program} {l : Launch} {e : Env} {s : State} {m : MethodId} {args : Array Value} {below : List Frame} {meth : Method} {c : Code} {G : va_G} {ca : Nat → ClassId} {ad av : Nat → Nat} {A : Nat → Prop} (X0 : CX_ p s m args meth c cX9_readLaw 2 (some .boolean) wsX9_readLaw RX9 G ca ad av A) (a_t : Nat) (a_t_bytes : Nat) (a_p1 : Nat) (a_p1_water : Nat) (a_p1_need : Nat) (a_p1_dew : Nat) (a_p1_drops : Nat) (a_p1_song : Nat) (f_t_slipTold : Int32) (f_t_songTold : Int32) (f_p1_terraces : Int32) (f_p1_days : Int32) (f_p1_slip : Int32) (f_p1_songLength : Int32) (c_t_bytes : Nat → Int32) (f_t_length : Int32) (res : Int32 × Int32 × Int32 × Int32 × Int32 × Int32 × Int32) (f_t_place : Int32) (f_t_start : Int32) (f_t_token : Int32) (f_t_value : Int32) (f_t_lawTold : Int32) (f_p1_law : Int32) (h : F_X9_readLaw c_t_bytes f_t_length f_t_place f_t_start f_t_token f_t_value f_t_lawTold f_p1_law = some res) : ∀ (H : Heap) (locs : List Loc), va_P G vwCl [(a_t, .inr (9, [.ref a_t_bytes, .int f_t_length, .int f_t_place, .int f_t_start, .int f_t_token, .int f_t_value, .int f_t_lawTold, .int f_t_slipTold, .int f_t_songTold])), (a_t_bytes, .inl (ca 2, 300, .inl c_t_bytes)), (a_p1, .inr (3, [.ref a_p1_water, .ref a_p1_need, .ref a_p1_dew, .ref a_p1_drops, .ref a_p1_song, .int f_p1_terraces, .int f_p1_days, .int f_p1_law, .int f_p1_slip, .int f_p1_songLength]))] H → va_D A [(a_t, .inr (9, [.ref a_t_bytes, .int f_t_length, .int f_t_place, .int f_t_start, .int f_t_token, .int f_t_value, .int f_t_lawTold, .int f_t_slipTold, .int f_t_songTold])), (a_t_bytes, .inl (ca 2, 300, .inl c_t_bytes)), (a_p1, .inr (3, [.ref a_p1_water, .ref a_p1_need, .ref a_p1_dew, .ref a_p1_drops, .ref a_p1_song, .int f_p1_terraces, .int f_p1_days, .int f_p1_law, .int f_p1_slip, .int f_p1_songLength]))] → va_S A s.heap H locs → ∀ (ls : Array Slot), lv_has ls 2 [(0, .ref a_t), (1, .ref a_p1)] → W p l e RM_X9_readLaw s m args below meth c H locs 0 0 (MQ below (QI_ G A res.1 [(a_t, .inr (9, [.ref a_t_bytes, .int f_t_length, .int res.2.1, .int res.2.2.1, .int res.2.2.2.1, .int res.2.2.2.2.1, .int res.2.2.2.2.2.1, .int f_t_slipTold, .int f_t_songTold])), (a_t_bytes, .inl (ca 2, 300, .inl c_t_bytes)), (a_p1, .inr (3, [.ref a_p1_water, .ref a_p1_need, .ref a_p1_dew, .ref a_p1_drops, .ref a_p1_song, .int f_p1_terraces, .int f_p1_days, .int res.2.2.2.2.2.2, .int f_p1_slip, .int f_p1_songLength]))]) args s 0 0 A) (F0 m 0 ls []) := by
  obtain ⟨hx, hb, hr, hml, hown, hts, hlocks, hK, hA, hE⟩ := id X0
  intro H locs hP hD hS ls hl
  unfold F_X9_readLaw at h
  refine lv_aload_n hx hb dX9_readLaw_0 rfl (lv_at hl 0 rfl) ?_
  refine va_get (D := G) (ci := 9) (v := .int f_t_lawTold) (C := RX9) (T := TX9) (N := 9) hx hb hts i_X9_readLaw_X9 hown hK hP 0 rfl rfl 6 (by decide) (hts _ k_X9_readLaw_0) (fun _ h9 => h9) rfl dX9_readLaw_1 ?_
  refine lv_if_eq (tgt := 9) hx hb dX9_readLaw_4 (by decide) (fun b1 => ?_) (fun b1 => ?_)
  · have h := (if_pos b1).symm.trans h
    refine lv_aload_n hx hb dX9_readLaw_9 rfl (lv_at hl 0 rfl) ?_
    refine lv_iconst (v := 1) hx hb dX9_readLaw_10 (by decide) ?_
    refine va_put (D := G) (ci := 9) (v := .int (1 : Int32)) (ty := .boolean) (C := RX9) (T := TX9) (N := 9) hx hb hts i_X9_readLaw_X9 tyX9 tyX9_ok nmX9 hown hK hP hD hS 0 rfl rfl 6 (by decide) (hts _ k_X9_readLaw_0) (fun _ h9 => h9) rfl (by decide +kernel) rfl rfl (Nat.le_of_ble_eq_true rfl) dX9_readLaw_11 (fun H locs hP hD hS => ?_)
    have hP : va_P G vwCl [(a_t, .inr (9, [.ref a_t_bytes, .int f_t_length, .int f_t_place, .int f_t_start, .int f_t_token, .int f_t_value, .int (1 : Int32), .int f_t_slipTold, .int f_t_songTold])), (a_t_bytes, .inl (ca 2, 300, .inl c_t_bytes)), (a_p1, .inr (3, [.ref a_p1_water, .ref a_p1_need, .ref a_p1_dew, .ref a_p1_drops, .ref a_p1_song, .int f_p1_terraces, .int f_p1_days, .int f_p1_law, .int f_p1_slip, .int f_p1_songLength]))] H := hP
    have hD : va_D A [(a_t, .inr (9, [.ref a_t_bytes, .int f_t_length, .int f_t_place, .int f_t_start, .int f_t_token, .int f_t_value, .int (1 : Int32), .int f_t_slipTold, .int f_t_songTold])), (a_t_bytes, .inl (ca 2, 300, .inl c_t_bytes)), (a_p1, .inr (3, [.ref a_p1_water, .ref a_p1_need, .ref a_p1_dew, .ref a_p1_drops, .ref a_p1_song, .int f_p1_terraces, .int f_p1_days, .int f_p1_law, .int f_p1_slip, .int f_p1_songLength]))] := hD
    refine lv_aload_n hx hb dX9_readLaw_14 rfl (lv_at hl 0 rfl) ?_
    obtain ⟨u2, hc3, h⟩ := bd_o h
    refine jn_v (wr := [(a_p1, .inr (3, [.ref a_p1_water, .ref a_p1_need, .ref a_p1_dew, .ref a_p1_drops, .ref a_p1_song, .int f_p1_terraces, .int f_p1_days, .int f_p1_law, .int f_p1_slip, .int f_p1_songLength]))]) (ws' := [(a_t, .inr (9, [.ref a_t_bytes, .int f_t_length, .int u2.1, .int u2.2.1, .int u2.2.2.1, .int u2.2.2.2, .int (1 : Int32), .int f_t_slipTold, .int f_t_songTold])), (a_t_bytes, .inl (ca 2, 300, .inl c_t_bytes)), (a_p1, .inr (3, [.ref a_p1_water, .ref a_p1_need, .ref a_p1_dew, .ref a_p1_drops, .ref a_p1_song, .int f_p1_terraces, .int f_p1_days, .int f_p1_law, .int f_p1_slip, .int f_p1_songLength]))]) (va_runV (As := []) (rest := []) ⟨hx, hb, hml, hown, hts⟩ (c_X9_advance l G ca ad av H.size a_t a_t_bytes (1 : Int32) f_t_slipTold f_t_songTold c_t_bytes f_t_length f_t_place f_t_start f_t_token f_t_value u2 hc3) (cwV 0 hts gX9_readLaw_X9_advance rfl rfl rfl (by decide +kernel) ⟨Nat.le_of_ble_eq_true rfl, Nat.le_of_ble_eq_true rfl⟩) (pre_v (q0 := 0) (ci := 9) hK hE hA hP hD hS [0, 1] rfl (by decide) rfl rfl) rfl rfl hl.1 rfl (lv_room (Nat.le_of_ble_eq_true rfl)) dX9_readLaw_15 ⟨Nat.le_of_ble_eq_true rfl, Nat.le_of_ble_eq_true rfl⟩) hA hP hD hS [0, 1] [2] [1, 2, 0] rfl rfl (by decide) (by decide) (by decide) rfl (fun H locs hP hD hS => ?_)
    refine lv_aload_n hx hb dX9_readLaw_18 rfl (lv_at hl 1 rfl) ?_
    refine lv_aload_n hx hb dX9_readLaw_19 rfl (lv_at hl 0 rfl) ?_
    refine lv_iconst (v := 0) hx hb dX9_readLaw_20 (by decide) ?_
    refine lv_iconst (v := 2) hx hb dX9_readLaw_21 (by decide) ?_
    obtain ⟨u4, hc5, h⟩ := bd_o h
    refine jn_i (wr := [(a_p1, .inr (3, [.ref a_p1_water, .ref a_p1_need, .ref a_p1_dew, .ref a_p1_drops, .ref a_p1_song, .int f_p1_terraces, .int f_p1_days, .int f_p1_law, .int f_p1_slip, .int f_p1_songLength]))]) (ws' := [(a_t, .inr (9, [.ref a_t_bytes, .int f_t_length, .int u4.2.1, .int u4.2.2.1, .int u4.2.2.2.1, .int u4.2.2.2.2, .int (1 : Int32), .int f_t_slipTold, .int f_t_songTold])), (a_t_bytes, .inl (ca 2, 300, .inl c_t_bytes)), (a_p1, .inr (3, [.ref a_p1_water, .ref a_p1_need, .ref a_p1_dew, .ref a_p1_drops, .ref a_p1_song, .int f_p1_terraces, .int f_p1_days, .int f_p1_law, .int f_p1_slip, .int f_p1_songLength]))]) (va_runV (As := [.int (0 : Int32), .int (2 : Int32)]) (rest := [.ref a_p1]) ⟨hx, hb, hml, hown, hts⟩ (c_X9_takeNumber l G ca ad av H.size a_t a_t_bytes (1 : Int32) f_t_slipTold f_t_songTold c_t_bytes f_t_length u2.1 u2.2.1 u2.2.2.1 u2.2.2.2 (0 : Int32) (2 : Int32) u4 hc5) (cwV 2 hts gX9_readLaw_X9_takeNumber rfl rfl rfl (by decide +kernel) ⟨Nat.le_of_ble_eq_true rfl, Nat.le_of_ble_eq_true rfl⟩) (pre_v (q0 := 0) (ci := 9) hK hE hA hP hD hS [0, 1] rfl (by decide) rfl rfl) rfl rfl hl.1 rfl (lv_room (Nat.le_of_ble_eq_true rfl)) dX9_readLaw_22 ⟨Nat.le_of_ble_eq_true rfl, Nat.le_of_ble_eq_true rfl⟩) hA hP hD hS [0, 1] [2] [1, 2, 0] rfl rfl (by decide) (by decide) (by decide) rfl (fun H locs hP hD hS => ?_)
    refine va_putN (D := G) (ci := 3) (v := .int u4.1) (ty := .int) (C := RX3) (T := TX3) (N := 10) hx hb hts i_X9_readLaw_X3 tyX3 tyX3_ok nmX3 hown hK hP hD hS 2 rfl rfl 7 (by decide) (va_Nw.use rfl (hE.1 _ k_X9_readLaw_2)) (fun _ h9 => h9) rfl (by decide +kernel) rfl rfl (Nat.le_of_ble_eq_true rfl) dX9_readLaw_25 (fun H locs hP hD hS => ?_)
    have hP : va_P G vwCl [(a_t, .inr (9, [.ref a_t_bytes, .int f_t_length, .int u4.2.1, .int u4.2.2.1, .int u4.2.2.2.1, .int u4.2.2.2.2, .int (1 : Int32), .int f_t_slipTold, .int f_t_songTold])), (a_t_bytes, .inl (ca 2, 300, .inl c_t_bytes)), (a_p1, .inr (3, [.ref a_p1_water, .ref a_p1_need, .ref a_p1_dew, .ref a_p1_drops, .ref a_p1_song, .int f_p1_terraces, .int f_p1_days, .int u4.1, .int f_p1_slip, .int f_p1_songLength]))] H := hP
    have hD : va_D A [(a_t, .inr (9, [.ref a_t_bytes, .int f_t_length, .int u4.2.1, .int u4.2.2.1, .int u4.2.2.2.1, .int u4.2.2.2.2, .int (1 : Int32), .int f_t_slipTold, .int f_t_songTold])), (a_t_bytes, .inl (ca 2, 300, .inl c_t_bytes)), (a_p1, .inr (3, [.ref a_p1_water, .ref a_p1_need, .ref a_p1_dew, .ref a_p1_drops, .ref a_p1_song, .int f_p1_terraces, .int f_p1_days, .int u4.1, .int f_p1_slip, .int f_p1_songLength]))] := hD
    refine lv_aload_n hx hb dX9_readLaw_28 rfl (lv_at hl 1 rfl) ?_
    refine va_getN (D := G) (ci := 3) (v := .int u4.1) (C := RX3) (T := TX3) (N := 10) hx hb hts i_X9_readLaw_X3 hown hK hP 2 rfl rfl 7 (by decide) (va_Nw.use rfl (hE.1 _ k_X9_readLaw_2)) (fun _ h9 => h9) rfl dX9_readLaw_29 ?_
    refine lv_if_lt (tgt := 46) hx hb dX9_readLaw_32 (by decide) (fun b6 => ?_) (fun b6 => ?_)
    · have h := (if_pos b6).symm.trans h
      refine lv_iconst (v := 0) hx hb dX9_readLaw_46 (by decide) ?_
      have h := sm_i h
      subst h
      exact W.zret (v := (0 : Int32)) hx hb hr rfl (fun t ht hW => ⟨⟨(0 : Int32), (), rfl, rfl, by rw [ht]; exact hP, hD⟩, hS.F ht⟩) hS.2.2 dX9_readLaw_47
    · have h := (if_neg b6).symm.trans h
      refine lv_aload_n hx hb dX9_readLaw_35 rfl (lv_at hl 0 rfl) ?_
      obtain ⟨u7, hc8, h⟩ := bd_o h
      refine jn_i (wr := [(a_p1, .inr (3, [.ref a_p1_water, .ref a_p1_need, .ref a_p1_dew, .ref a_p1_drops, .ref a_p1_song, .int f_p1_terraces, .int f_p1_days, .int u4.1, .int f_p1_slip, .int f_p1_songLength]))]) (ws' := [(a_t, .inr (9, [.ref a_t_bytes, .int f_t_length, .int u7.2.1, .int u7.2.2.1, .int u7.2.2.2.1, .int u7.2.2.2.2, .int (1 : Int32), .int f_t_slipTold, .int f_t_songTold])), (a_t_bytes, .inl (ca 2, 300, .inl c_t_bytes)), (a_p1, .inr (3, [.ref a_p1_water, .ref a_p1_need, .ref a_p1_dew, .ref a_p1_drops, .ref a_p1_song, .int f_p1_terraces, .int f_p1_days, .int u4.1, .int f_p1_slip, .int f_p1_songLength]))]) (va_runV (As := []) (rest := []) ⟨hx, hb, hml, hown, hts⟩ (c_X9_takeSemicolon l G ca ad av H.size a_t a_t_bytes (1 : Int32) f_t_slipTold f_t_songTold c_t_bytes f_t_length u4.2.1 u4.2.2.1 u4.2.2.2.1 u4.2.2.2.2 u7 hc8) (cwV 0 hts gX9_readLaw_X9_takeSemicolon rfl rfl rfl (by decide +kernel) ⟨Nat.le_of_ble_eq_true rfl, Nat.le_of_ble_eq_true rfl⟩) (pre_v (q0 := 0) (ci := 9) hK hE hA hP hD hS [0, 1] rfl (by decide) rfl rfl) rfl rfl hl.1 rfl (lv_room (Nat.le_of_ble_eq_true rfl)) dX9_readLaw_36 ⟨Nat.le_of_ble_eq_true rfl, Nat.le_of_ble_eq_true rfl⟩) hA hP hD hS [0, 1] [2] [1, 2, 0] rfl rfl (by decide) (by decide) (by decide) rfl (fun H locs hP hD hS => ?_)
      refine lv_if_eq (tgt := 46) hx hb dX9_readLaw_39 (by decide) (fun b9 => ?_) (fun b9 => ?_)
      · have h := (if_pos b9).symm.trans h
        refine lv_iconst (v := 0) hx hb dX9_readLaw_46 (by decide) ?_
        have h := sm_i h
        subst h
        exact W.zret (v := (0 : Int32)) hx hb hr rfl (fun t ht hW => ⟨⟨(0 : Int32), (), rfl, rfl, by rw [ht]; exact hP, hD⟩, hS.F ht⟩) hS.2.2 dX9_readLaw_47
      · have h := (if_neg b9).symm.trans h
        refine lv_iconst (v := 1) hx hb dX9_readLaw_42 (by decide) ?_
        refine lv_goto (tgt := 47) hx hb dX9_readLaw_43 (by decide) ?_
        have h := sm_i h
        subst h
        exact W.zret (v := (1 : Int32)) hx hb hr rfl (fun t ht hW => ⟨⟨(1 : Int32), (), rfl, rfl, by rw [ht]; exact hP, hD⟩, hS.F ht⟩) hS.2.2 dX9_readLaw_47
  · have h := (if_neg b1).symm.trans h
    refine lv_iconst (v := 0) hx hb dX9_readLaw_7 (by decide) ?_
    have h := sm_i h
    subst h
    exact W.zret (v := (0 : Int32)) hx hb hr rfl (fun t ht hW => ⟨⟨(0 : Int32), (), rfl, rfl, by rw [ht]; exact hP, hD⟩, hS.F ht⟩) hS.2.2 dX9_readLaw_8
set_option maxHeartbeats 4000000 in
set_option maxRecDepth 100000 in
theorem c_X9_readLaw (l : Launch) (G : va_G) (ca : Nat → ClassId) (ad av : Nat → Nat) (sz : Nat) (a_t : Nat) (a_t_bytes : Nat) (a_p1 : Nat) (a_p1_water : Nat) (a_p1_need : Nat) (a_p1_dew : Nat) (a_p1_drops : Nat) (a_p1_song : Nat) (f_t_slipTold : Int32) (f_t_songTold : Int32) (f_p1_terraces : Int32) (f_p1_days : Int32) (f_p1_slip : Int32) (f_p1_songLength : Int32) (c_t_bytes : Nat → Int32) (f_t_length : Int32) (f_t_place : Int32) (f_t_start : Int32) (f_t_token : Int32) (f_t_value : Int32) (f_t_lawTold : Int32) (f_p1_law : Int32) (res : Int32 × Int32 × Int32 × Int32 × Int32 × Int32 × Int32) (h : F_X9_readLaw c_t_bytes f_t_length f_t_place f_t_start f_t_token f_t_value f_t_lawTold f_p1_law = some res) : Met l yX9_readLaw wsX9_readLaw RM_X9_readLaw (va_Pc [.ref a_t, .ref a_p1] (PW_ G ca ad av sz [(a_t, .inr (9, [.ref a_t_bytes, .int f_t_length, .int f_t_place, .int f_t_start, .int f_t_token, .int f_t_value, .int f_t_lawTold, .int f_t_slipTold, .int f_t_songTold])), (a_t_bytes, .inl (ca 2, 300, .inl c_t_bytes)), (a_p1, .inr (3, [.ref a_p1_water, .ref a_p1_need, .ref a_p1_dew, .ref a_p1_drops, .ref a_p1_song, .int f_p1_terraces, .int f_p1_days, .int f_p1_law, .int f_p1_slip, .int f_p1_songLength]))])) (QI_ G (va_A [(a_t, .inr (9, [.ref a_t_bytes, .int f_t_length, .int f_t_place, .int f_t_start, .int f_t_token, .int f_t_value, .int f_t_lawTold, .int f_t_slipTold, .int f_t_songTold])), (a_t_bytes, .inl (ca 2, 300, .inl c_t_bytes)), (a_p1, .inr (3, [.ref a_p1_water, .ref a_p1_need, .ref a_p1_dew, .ref a_p1_drops, .ref a_p1_song, .int f_p1_terraces, .int f_p1_days, .int f_p1_law, .int f_p1_slip, .int f_p1_songLength]))] sz) res.1 [(a_t, .inr (9, [.ref a_t_bytes, .int f_t_length, .int res.2.1, .int res.2.2.1, .int res.2.2.2.1, .int res.2.2.2.2.1, .int res.2.2.2.2.2.1, .int f_t_slipTold, .int f_t_songTold])), (a_t_bytes, .inl (ca 2, 300, .inl c_t_bytes)), (a_p1, .inr (3, [.ref a_p1_water, .ref a_p1_need, .ref a_p1_dew, .ref a_p1_drops, .ref a_p1_song, .int f_p1_terraces, .int f_p1_days, .int res.2.2.2.2.2.2, .int f_p1_slip, .int f_p1_songLength]))]) 0 0 (va_A [(a_t, .inr (9, [.ref a_t_bytes, .int f_t_length, .int f_t_place, .int f_t_start, .int f_t_token, .int f_t_value, .int f_t_lawTold, .int f_t_slipTold, .int f_t_songTold])), (a_t_bytes, .inl (ca 2, 300, .inl c_t_bytes)), (a_p1, .inr (3, [.ref a_p1_water, .ref a_p1_need, .ref a_p1_dew, .ref a_p1_drops, .ref a_p1_song, .int f_p1_terraces, .int f_p1_days, .int f_p1_law, .int f_p1_slip, .int f_p1_songLength]))] sz) := by
  refine Met.ofW (cc := cX9_readLaw) (maxL := 2) (ret := (some .boolean)) (by decide) rfl ?_
  intro p e s m args below meth c s₁ B hml hv
  obtain ⟨X0, rfl, rfl, hP, hD⟩ := en_t B hml hv
  have hl := lv_entry ([.ref a_t, .ref a_p1]) (n := 2) (Nat.le_of_ble_eq_true rfl)
  rw [lg_entry_eq]
  generalize (lg_sl ([.ref a_t, .ref a_p1]) ++ List.replicate (2 - (lg_sl ([.ref a_t, .ref a_p1])).length) Slot.unset).toArray = ls at hl ⊢
  exact w_X9_readLaw_0 X0 a_t a_t_bytes a_p1 a_p1_water a_p1_need a_p1_dew a_p1_drops a_p1_song f_t_slipTold f_t_songTold f_p1_terraces f_p1_days f_p1_slip f_p1_songLength c_t_bytes f_t_length _ f_t_place f_t_start f_t_token f_t_value f_t_lawTold f_p1_law h s.heap [] hP hD va_S.rf ls hl

/-! X9_isWord_S3 -/
abbrev RM_X9_isWord_S3 : Room := { frames := 4, cells := 0, slots := 0, locals := 85 }
theorem k_X9_isWord_S3_0 : Cond.fieldLink RX9 9 "DropDealers$Reader" "bytes" "[B" ∈ wsX9_isWord := by decide +kernel
theorem i_X9_isWord_S3_X9 : ∀ w ∈ u_ws RX9 TX9 9, w ∈ wsX9_isWord := by decide +kernel
theorem k_X9_isWord_S3_2 : Cond.fieldLink RX9 47 "DropDealers$Reader" "start" "I" ∈ wsX9_isWord := by decide +kernel
theorem k_X9_isWord_S3_3 : Cond.fieldLink RX9 34 "DropDealers$Reader" "place" "I" ∈ wsX9_isWord := by decide +kernel
def F_X9_isWord_S3_20 (c_t_bytes : Nat → Int32) (f_t_place : Int32) (f_t_start : Int32) : Nat → Int32 → Option (Int32)
  | 0, _ => none
  | n + 1, y2 => if (Int32.ofNat (st_len.getD 3 0)) ≤ y2 then (some ((1 : Int32))) else (if ok_I (f_t_start + y2) 300 = true then if ok_I y2 (st_len.getD 3 0) = true then if (c_t_bytes (f_t_start + y2).toNatClampNeg) = (st_ch 3 y2) then (F_X9_isWord_S3_20 c_t_bytes f_t_place f_t_start n (y2 + (1 : Int32))) else (some ((0 : Int32))) else none else none)
set_option maxHeartbeats 4000000 in
set_option maxRecDepth 100000 in
theorem w_X9_isWord_S3_20 {p : Program} {l : Launch} {e : Env} {s : State} {m : MethodId} {args : Array Value} {below : List Frame} {meth : Method} {c : Code} {G : va_G} {ca : Nat → ClassId} {ad av : Nat → Nat} {A : Nat → Prop} (X0 : CX_ p s m args meth c cX9_isWord 3 (some .boolean) wsX9_isWord RX9 G ca ad av A) (a_t : Nat) (a_t_bytes : Nat) (f_t_length : Int32) (f_t_token : Int32) (f_t_value : Int32) (f_t_lawTold : Int32) (f_t_slipTold : Int32) (f_t_songTold : Int32) (c_t_bytes : Nat → Int32) (f_t_place : Int32) (f_t_start : Int32) (res : Int32) : ∀ (n : Nat) (y2 : Int32), F_X9_isWord_S3_20 c_t_bytes f_t_place f_t_start n y2 = some res → ∀ (H : Heap) (locs : List Loc), va_P G vwCl [(a_t, .inr (9, [.ref a_t_bytes, .int f_t_length, .int f_t_place, .int f_t_start, .int f_t_token, .int f_t_value, .int f_t_lawTold, .int f_t_slipTold, .int f_t_songTold])), (a_t_bytes, .inl (ca 2, 300, .inl c_t_bytes))] H → va_D A [(a_t, .inr (9, [.ref a_t_bytes, .int f_t_length, .int f_t_place, .int f_t_start, .int f_t_token, .int f_t_value, .int f_t_lawTold, .int f_t_slipTold, .int f_t_songTold])), (a_t_bytes, .inl (ca 2, 300, .inl c_t_bytes))] → va_S A s.heap H locs → ∀ (ls : Array Slot), lv_has ls 3 [(0, .ref a_t), (1, .ref (ad 3)), (2, .int y2)] → W p l e RM_X9_isWord_S3 s m args below meth c H locs 0 0 (MQ below (QI_ G A res [(a_t, .inr (9, [.ref a_t_bytes, .int f_t_length, .int f_t_place, .int f_t_start, .int f_t_token, .int f_t_value, .int f_t_lawTold, .int f_t_slipTold, .int f_t_songTold])), (a_t_bytes, .inl (ca 2, 300, .inl c_t_bytes))]) args s 0 0 A) (F0 m 20 ls []) := by
  obtain ⟨hx, hb, hr, hml, hown, hts, hlocks, hK, hA, hE⟩ := id X0
  intro n
  induction n with
  | zero => intro y2 h; cases h
  | succ n ih =>
    intro y2 h H locs hP hD hS ls hl
    rw [F_X9_isWord_S3_20] at h
    refine lv_iload_n hx hb dX9_isWord_20 rfl (lv_at hl 2 rfl) ?_
    refine lv_aload_n hx hb dX9_isWord_21 rfl (lv_at hl 1 rfl) ?_
    refine jn_i (wr := [(a_t, .inr (9, [.ref a_t_bytes, .int f_t_length, .int f_t_place, .int f_t_start, .int f_t_token, .int f_t_value, .int f_t_lawTold, .int f_t_slipTold, .int f_t_songTold])), (a_t_bytes, .inl (ca 2, 300, .inl c_t_bytes))]) (ws' := [(a_t, .inr (9, [.ref a_t_bytes, .int f_t_length, .int f_t_place, .int f_t_start, .int f_t_token, .int f_t_value, .int f_t_lawTold, .int f_t_slipTold, .int f_t_songTold])), (a_t_bytes, .inl (ca 2, 300, .inl c_t_bytes))]) (va_runV (As := []) (rest := [.int y2]) ⟨hx, hb, hml, hown, hts⟩ (c_J0_length l G ca ad av H.size 3 (by decide)) (cwV 0 hts gX9_isWord_J0_length_8abf5 rfl rfl rfl (by decide +kernel) ⟨Nat.le_of_ble_eq_true rfl, Nat.le_of_ble_eq_true rfl⟩) (pre_k (k := 3) (by decide) hK hE hA hP hD hS [] rfl (by decide)) rfl rfl hl.1 rfl (lv_room (Nat.le_of_ble_eq_true rfl)) dX9_isWord_22 ⟨Nat.le_of_ble_eq_true rfl, Nat.le_of_ble_eq_true rfl⟩) hA hP hD hS [] [0, 1] [0, 1] rfl rfl (by decide) (by decide) (by decide) rfl (fun H locs hP hD hS => ?_)
    refine lv_icmp_ge (tgt := 55) hx hb dX9_isWord_25 (by decide) (fun b1 => ?_) (fun b1 => ?_)
    · have h := (if_pos b1).symm.trans h
      refine lv_iconst (v := 1) hx hb dX9_isWord_55 (by decide) ?_
      have h := sm_i h
      subst h
      exact W.zret (v := (1 : Int32)) hx hb hr rfl (fun t ht hW => ⟨⟨(1 : Int32), (), rfl, rfl, by rw [ht]; exact hP, hD⟩, hS.F ht⟩) hS.2.2 dX9_isWord_56
    · have h := (if_neg b1).symm.trans h
      refine lv_aload_n hx hb dX9_isWord_28 rfl (lv_at hl 0 rfl) ?_
      refine va_get (D := G) (ci := 9) (v := .ref a_t_bytes) (C := RX9) (T := TX9) (N := 9) hx hb hts i_X9_isWord_S3_X9 hown hK hP 0 rfl rfl 0 (by decide) (hts _ k_X9_isWord_S3_0) (fun _ h9 => h9) rfl dX9_isWord_29 ?_
      refine lv_aload_n hx hb dX9_isWord_32 rfl (lv_at hl 0 rfl) ?_
      refine va_get (D := G) (ci := 9) (v := .int f_t_start) (C := RX9) (T := TX9) (N := 9) hx hb hts i_X9_isWord_S3_X9 hown hK hP 0 rfl rfl 3 (by decide) (hts _ k_X9_isWord_S3_2) (fun _ h9 => h9) rfl dX9_isWord_33 ?_
      refine lv_iload_n hx hb dX9_isWord_36 rfl (lv_at hl 2 rfl) ?_
      refine lv_iadd hx hb dX9_isWord_37 ?_
      obtain ⟨g2, h⟩ := gd_t h
      refine va_bald hx hb hK hP 1 2 rfl rfl (ok_in g2) dX9_isWord_38 ?_
      refine lv_aload_n hx hb dX9_isWord_39 rfl (lv_at hl 1 rfl) ?_
      refine lv_iload_n hx hb dX9_isWord_40 rfl (lv_at hl 2 rfl) ?_
      obtain ⟨g3, h⟩ := gd_t h
      refine jn_i (wr := [(a_t, .inr (9, [.ref a_t_bytes, .int f_t_length, .int f_t_place, .int f_t_start, .int f_t_token, .int f_t_value, .int f_t_lawTold, .int f_t_slipTold, .int f_t_songTold])), (a_t_bytes, .inl (ca 2, 300, .inl c_t_bytes))]) (ws' := [(a_t, .inr (9, [.ref a_t_bytes, .int f_t_length, .int f_t_place, .int f_t_start, .int f_t_token, .int f_t_value, .int f_t_lawTold, .int f_t_slipTold, .int f_t_songTold])), (a_t_bytes, .inl (ca 2, 300, .inl c_t_bytes))]) (va_runV (As := [.int y2]) (rest := [.int (c_t_bytes (f_t_start + y2).toNatClampNeg)]) ⟨hx, hb, hml, hown, hts⟩ (c_J0_charAt l G ca ad av H.size 3 (by decide) y2 g3) (cwV 1 hts gX9_isWord_J0_charAt_5068e rfl rfl rfl (by decide +kernel) ⟨Nat.le_of_ble_eq_true rfl, Nat.le_of_ble_eq_true rfl⟩) (pre_k (k := 3) (by decide) hK hE hA hP hD hS [] rfl (by decide)) rfl rfl hl.1 rfl (lv_room (Nat.le_of_ble_eq_true rfl)) dX9_isWord_41 ⟨Nat.le_of_ble_eq_true rfl, Nat.le_of_ble_eq_true rfl⟩) hA hP hD hS [] [0, 1] [0, 1] rfl rfl (by decide) (by decide) (by decide) rfl (fun H locs hP hD hS => ?_)
      refine lv_icmp_eq (tgt := 49) hx hb dX9_isWord_44 (by decide) (fun b4 => ?_) (fun b4 => ?_)
      · have h := (if_pos b4).symm.trans h
        refine lv_iinc (v := (y2 + (1 : Int32))) (lv' := [(2, .int (y2 + (1 : Int32))), (0, .ref a_t), (1, .ref (ad 3))]) hx hb dX9_isWord_49 hl (k := 2) rfl rfl (by decide) rfl (fun ls hl => ?_)
        refine lv_goto (tgt := 20) hx hb dX9_isWord_52 (by decide) ?_
        exact ih (y2 + (1 : Int32)) h H locs hP hD hS ls (lv_sub hl [1, 2, 0] rfl)
      · have h := (if_neg b4).symm.trans h
        refine lv_iconst (v := 0) hx hb dX9_isWord_47 (by decide) ?_
        have h := sm_i h
        subst h
        exact W.zret (v := (0 : Int32)) hx hb hr rfl (fun t ht hW => ⟨⟨(0 : Int32), (), rfl, rfl, by rw [ht]; exact hP, hD⟩, hS.F ht⟩) hS.2.2 dX9_isWord_48
def F_X9_isWord_S3 (c_t_bytes : Nat → Int32) (f_t_place : Int32) (f_t_start : Int32)  : Option (Int32) := if (f_t_place - f_t_start) = (Int32.ofNat (st_len.getD 3 0)) then (F_X9_isWord_S3_20 c_t_bytes f_t_place f_t_start FU_ (0 : Int32)) else (some ((0 : Int32)))
set_option maxHeartbeats 4000000 in
set_option maxRecDepth 100000 in
theorem w_X9_isWord_S3_0 {p : Program} {l : Launch} {e : Env} {s : State} {m : MethodId} {args : Array Value} {below : List Frame} {meth : Method} {c : Code} {G : va_G} {ca : Nat → ClassId} {ad av : Nat → Nat} {A : Nat → Prop} (X0 : CX_ p s m args meth c cX9_isWord 3 (some .boolean) wsX9_isWord RX9 G ca ad av A) (a_t : Nat) (a_t_bytes : Nat) (f_t_length : Int32) (f_t_token : Int32) (f_t_value : Int32) (f_t_lawTold : Int32) (f_t_slipTold : Int32) (f_t_songTold : Int32) (c_t_bytes : Nat → Int32) (f_t_place : Int32) (f_t_start : Int32) (res : Int32)  (h : F_X9_isWord_S3 c_t_bytes f_t_place f_t_start  = some res) : ∀ (H : Heap) (locs : List Loc), va_P G vwCl [(a_t, .inr (9, [.ref a_t_bytes, .int f_t_length, .int f_t_place, .int f_t_start, .int f_t_token, .int f_t_value, .int f_t_lawTold, .int f_t_slipTold, .int f_t_songTold])), (a_t_bytes, .inl (ca 2, 300, .inl c_t_bytes))] H → va_D A [(a_t, .inr (9, [.ref a_t_bytes, .int f_t_length, .int f_t_place, .int f_t_start, .int f_t_token, .int f_t_value, .int f_t_lawTold, .int f_t_slipTold, .int f_t_songTold])), (a_t_bytes, .inl (ca 2, 300, .inl c_t_bytes))] → va_S A s.heap H locs → ∀ (ls : Array Slot), lv_has ls 3 [(0, .ref a_t), (1, .ref (ad 3))] → W p l e RM_X9_isWord_S3 s m args below meth c H locs 0 0 (MQ below (QI_ G A res [(a_t, .inr (9, [.ref a_t_bytes, .int f_t_length, .int f_t_place, .int f_t_start, .int f_t_token, .int f_t_value, .int f_t_lawTold, .int f_t_slipTold, .int f_t_songTold])), (a_t_bytes, .inl (ca 2, 300, .inl c_t_bytes))]) args s 0 0 A) (F0 m 0 ls []) := by
  obtain ⟨hx, hb, hr, hml, hown, hts, hlocks, hK, hA, hE⟩ := id X0
  intro H locs hP hD hS ls hl
  unfold F_X9_isWord_S3 at h
  refine lv_aload_n hx hb dX9_isWord_0 rfl (lv_at hl 0 rfl) ?_
  refine va_get (D := G) (ci := 9) (v := .int f_t_place) (C := RX9) (T := TX9) (N := 9) hx hb hts i_X9_isWord_S3_X9 hown hK hP 0 rfl rfl 2 (by decide) (hts _ k_X9_isWord_S3_3) (fun _ h9 => h9) rfl dX9_isWord_1 ?_
  refine lv_aload_n hx hb dX9_isWord_4 rfl (lv_at hl 0 rfl) ?_
  refine va_get (D := G) (ci := 9) (v := .int f_t_start) (C := RX9) (T := TX9) (N := 9) hx hb hts i_X9_isWord_S3_X9 hown hK hP 0 rfl rfl 3 (by decide) (hts _ k_X9_isWord_S3_2) (fun _ h9 => h9) rfl dX9_isWord_5 ?_
  refine lv_isub hx hb dX9_isWord_8 ?_
  refine lv_aload_n hx hb dX9_isWord_9 rfl (lv_at hl 1 rfl) ?_
  refine jn_i (wr := [(a_t, .inr (9, [.ref a_t_bytes, .int f_t_length, .int f_t_place, .int f_t_start, .int f_t_token, .int f_t_value, .int f_t_lawTold, .int f_t_slipTold, .int f_t_songTold])), (a_t_bytes, .inl (ca 2, 300, .inl c_t_bytes))]) (ws' := [(a_t, .inr (9, [.ref a_t_bytes, .int f_t_length, .int f_t_place, .int f_t_start, .int f_t_token, .int f_t_value, .int f_t_lawTold, .int f_t_slipTold, .int f_t_songTold])), (a_t_bytes, .inl (ca 2, 300, .inl c_t_bytes))]) (va_runV (As := []) (rest := [.int (f_t_place - f_t_start)]) ⟨hx, hb, hml, hown, hts⟩ (c_J0_length l G ca ad av H.size 3 (by decide)) (cwV 0 hts gX9_isWord_J0_length_8abf5 rfl rfl rfl (by decide +kernel) ⟨Nat.le_of_ble_eq_true rfl, Nat.le_of_ble_eq_true rfl⟩) (pre_k (k := 3) (by decide) hK hE hA hP hD hS [] rfl (by decide)) rfl rfl hl.1 rfl (lv_room (Nat.le_of_ble_eq_true rfl)) dX9_isWord_10 ⟨Nat.le_of_ble_eq_true rfl, Nat.le_of_ble_eq_true rfl⟩) hA hP hD hS [] [0, 1] [0, 1] rfl rfl (by decide) (by decide) (by decide) rfl (fun H locs hP hD hS => ?_)
  refine lv_icmp_eq (tgt := 18) hx hb dX9_isWord_13 (by decide) (fun b5 => ?_) (fun b5 => ?_)
  · have h := (if_pos b5).symm.trans h
    refine lv_iconst (v := 0) hx hb dX9_isWord_18 (by decide) ?_
    refine lv_istore_n (lv' := [(2, .int (0 : Int32)), (0, .ref a_t), (1, .ref (ad 3))]) hx hb dX9_isWord_19 rfl hl (by decide) rfl (fun ls hl => ?_)
    exact w_X9_isWord_S3_20 X0 a_t a_t_bytes f_t_length f_t_token f_t_value f_t_lawTold f_t_slipTold f_t_songTold c_t_bytes f_t_place f_t_start _ FU_ (0 : Int32) h H locs hP hD hS ls (lv_sub hl [1, 2, 0] rfl)
  · have h := (if_neg b5).symm.trans h
    refine lv_iconst (v := 0) hx hb dX9_isWord_16 (by decide) ?_
    have h := sm_i h
    subst h
    exact W.zret (v := (0 : Int32)) hx hb hr rfl (fun t ht hW => ⟨⟨(0 : Int32), (), rfl, rfl, by rw [ht]; exact hP, hD⟩, hS.F ht⟩) hS.2.2 dX9_isWord_17
set_option maxHeartbeats 4000000 in
set_option maxRecDepth 100000 in
theorem c_X9_isWord_S3 (l : Launch) (G : va_G) (ca : Nat → ClassId) (ad av : Nat → Nat) (sz : Nat) (a_t : Nat) (a_t_bytes : Nat) (f_t_length : Int32) (f_t_token : Int32) (f_t_value : Int32) (f_t_lawTold : Int32) (f_t_slipTold : Int32) (f_t_songTold : Int32) (c_t_bytes : Nat → Int32) (f_t_place : Int32) (f_t_start : Int32)  (res : Int32) (h : F_X9_isWord_S3 c_t_bytes f_t_place f_t_start  = some res) : Met l yX9_isWord wsX9_isWord RM_X9_isWord_S3 (va_Pc [.ref a_t, .ref (ad 3)] (PW_ G ca ad av sz [(a_t, .inr (9, [.ref a_t_bytes, .int f_t_length, .int f_t_place, .int f_t_start, .int f_t_token, .int f_t_value, .int f_t_lawTold, .int f_t_slipTold, .int f_t_songTold])), (a_t_bytes, .inl (ca 2, 300, .inl c_t_bytes))])) (QI_ G (va_A [(a_t, .inr (9, [.ref a_t_bytes, .int f_t_length, .int f_t_place, .int f_t_start, .int f_t_token, .int f_t_value, .int f_t_lawTold, .int f_t_slipTold, .int f_t_songTold])), (a_t_bytes, .inl (ca 2, 300, .inl c_t_bytes))] sz) res [(a_t, .inr (9, [.ref a_t_bytes, .int f_t_length, .int f_t_place, .int f_t_start, .int f_t_token, .int f_t_value, .int f_t_lawTold, .int f_t_slipTold, .int f_t_songTold])), (a_t_bytes, .inl (ca 2, 300, .inl c_t_bytes))]) 0 0 (va_A [(a_t, .inr (9, [.ref a_t_bytes, .int f_t_length, .int f_t_place, .int f_t_start, .int f_t_token, .int f_t_value, .int f_t_lawTold, .int f_t_slipTold, .int f_t_songTold])), (a_t_bytes, .inl (ca 2, 300, .inl c_t_bytes))] sz) := by
  refine Met.ofW (cc := cX9_isWord) (maxL := 3) (ret := (some .boolean)) (by decide) rfl ?_
  intro p e s m args below meth c s₁ B hml hv
  obtain ⟨X0, rfl, rfl, hP, hD⟩ := en_t B hml hv
  have hl := lv_entry ([.ref a_t, .ref (ad 3)]) (n := 3) (Nat.le_of_ble_eq_true rfl)
  rw [lg_entry_eq]
  generalize (lg_sl ([.ref a_t, .ref (ad 3)]) ++ List.replicate (3 - (lg_sl ([.ref a_t, .ref (ad 3)])).length) Slot.unset).toArray = ls at hl ⊢
  exact w_X9_isWord_S3_0 X0 a_t a_t_bytes f_t_length f_t_token f_t_value f_t_lawTold f_t_slipTold f_t_songTold c_t_bytes f_t_place f_t_start _  h s.heap [] hP hD va_S.rf ls hl

/-! X9_readSlip -/
abbrev RM_X9_readSlip : Room := { frames := 4, cells := 0, slots := 0, locals := 88 }
theorem k_X9_readSlip_0 : Cond.fieldLink RX9 28 "DropDealers$Reader" "slipTold" "Z" ∈ wsX9_readSlip := by decide +kernel
theorem i_X9_readSlip_X9 : ∀ w ∈ u_ws RX9 TX9 9, w ∈ wsX9_readSlip := by decide +kernel
theorem k_X9_readSlip_2 : Cond.fieldLinkNest RX9 112 "DropDealers$Hill" "slip" "I" "DropDealers" ∈ nw_l := by decide +kernel
theorem i_X9_readSlip_X3 : ∀ w ∈ u_ws RX3 TX3 10, w ∈ wsX9_readSlip := by decide +kernel
def F_X9_readSlip (c_t_bytes : Nat → Int32) (f_t_length : Int32) (f_t_place : Int32) (f_t_start : Int32) (f_t_token : Int32) (f_t_value : Int32) (f_t_slipTold : Int32) (f_p1_slip : Int32) : Option (Int32 × Int32 × Int32 × Int32 × Int32 × Int32 × Int32) := if f_t_slipTold = 0 then ((F_X9_advance c_t_bytes f_t_length f_t_place f_t_start f_t_token f_t_value).bind (fun u2 => (F_X9_takeNumber c_t_bytes f_t_length u2.1 u2.2.1 u2.2.2.1 u2.2.2.2 (0 : Int32) (9 : Int32)).bind (fun u4 => if u4.1 < 0 then (some ((0 : Int32), u4.2.1, u4.2.2.1, u4.2.2.2.1, u4.2.2.2.2, (1 : Int32), u4.1)) else ((F_X9_takeSemicolon c_t_bytes f_t_length u4.2.1 u4.2.2.1 u4.2.2.2.1 u4.2.2.2.2).bind (fun u7 => if u7.1 = 0 then (some ((0 : Int32), u7.2.1, u7.2.2.1, u7.2.2.2.1, u7.2.2.2.2, (1 : Int32), u4.1)) else (some ((1 : Int32), u7.2.1, u7.2.2.1, u7.2.2.2.1, u7.2.2.2.2, (1 : Int32), u4.1))))))) else (some ((0 : Int32), f_t_place, f_t_start, f_t_token, f_t_value, f_t_slipTold, f_p1_slip))
set_option maxHeartbeats 4000000 in
set_option maxRecDepth 100000 in
theorem w_X9_readSlip_0 {p : Program} {l : Launch} {e : Env} {s : State} {m : MethodId} {args : Array Value} {below : List Frame} {meth : Method} {c : Code} {G : va_G} {ca : Nat → ClassId} {ad av : Nat → Nat} {A : Nat → Prop} (X0 : CX_ p s m args meth c cX9_readSlip 2 (some .boolean) wsX9_readSlip RX9 G ca ad av A) (a_t : Nat) (a_t_bytes : Nat) (a_p1 : Nat) (a_p1_water : Nat) (a_p1_need : Nat) (a_p1_dew : Nat) (a_p1_drops : Nat) (a_p1_song : Nat) (f_t_lawTold : Int32) (f_t_songTold : Int32) (f_p1_terraces : Int32) (f_p1_days : Int32) (f_p1_law : Int32) (f_p1_songLength : Int32) (c_t_bytes : Nat → Int32) (f_t_length : Int32) (res : Int32 × Int32 × Int32 × Int32 × Int32 × Int32 × Int32) (f_t_place : Int32) (f_t_start : Int32) (f_t_token : Int32) (f_t_value : Int32) (f_t_slipTold : Int32) (f_p1_slip : Int32) (h : F_X9_readSlip c_t_bytes f_t_length f_t_place f_t_start f_t_token f_t_value f_t_slipTold f_p1_slip = some res) : ∀ (H : Heap) (locs : List Loc), va_P G vwCl [(a_t, .inr (9, [.ref a_t_bytes, .int f_t_length, .int f_t_place, .int f_t_start, .int f_t_token, .int f_t_value, .int f_t_lawTold, .int f_t_slipTold, .int f_t_songTold])), (a_t_bytes, .inl (ca 2, 300, .inl c_t_bytes)), (a_p1, .inr (3, [.ref a_p1_water, .ref a_p1_need, .ref a_p1_dew, .ref a_p1_drops, .ref a_p1_song, .int f_p1_terraces, .int f_p1_days, .int f_p1_law, .int f_p1_slip, .int f_p1_songLength]))] H → va_D A [(a_t, .inr (9, [.ref a_t_bytes, .int f_t_length, .int f_t_place, .int f_t_start, .int f_t_token, .int f_t_value, .int f_t_lawTold, .int f_t_slipTold, .int f_t_songTold])), (a_t_bytes, .inl (ca 2, 300, .inl c_t_bytes)), (a_p1, .inr (3, [.ref a_p1_water, .ref a_p1_need, .ref a_p1_dew, .ref a_p1_drops, .ref a_p1_song, .int f_p1_terraces, .int f_p1_days, .int f_p1_law, .int f_p1_slip, .int f_p1_songLength]))] → va_S A s.heap H locs → ∀ (ls : Array Slot), lv_has ls 2 [(0, .ref a_t), (1, .ref a_p1)] → W p l e RM_X9_readSlip s m args below meth c H locs 0 0 (MQ below (QI_ G A res.1 [(a_t, .inr (9, [.ref a_t_bytes, .int f_t_length, .int res.2.1, .int res.2.2.1, .int res.2.2.2.1, .int res.2.2.2.2.1, .int f_t_lawTold, .int res.2.2.2.2.2.1, .int f_t_songTold])), (a_t_bytes, .inl (ca 2, 300, .inl c_t_bytes)), (a_p1, .inr (3, [.ref a_p1_water, .ref a_p1_need, .ref a_p1_dew, .ref a_p1_drops, .ref a_p1_song, .int f_p1_terraces, .int f_p1_days, .int f_p1_law, .int res.2.2.2.2.2.2, .int f_p1_songLength]))]) args s 0 0 A) (F0 m 0 ls []) := by
  obtain ⟨hx, hb, hr, hml, hown, hts, hlocks, hK, hA, hE⟩ := id X0
  intro H locs hP hD hS ls hl
  unfold F_X9_readSlip at h
  refine lv_aload_n hx hb dX9_readSlip_0 rfl (lv_at hl 0 rfl) ?_
  refine va_get (D := G) (ci := 9) (v := .int f_t_slipTold) (C := RX9) (T := TX9) (N := 9) hx hb hts i_X9_readSlip_X9 hown hK hP 0 rfl rfl 7 (by decide) (hts _ k_X9_readSlip_0) (fun _ h9 => h9) rfl dX9_readSlip_1 ?_
  refine lv_if_eq (tgt := 9) hx hb dX9_readSlip_4 (by decide) (fun b1 => ?_) (fun b1 => ?_)
  · have h := (if_pos b1).symm.trans h
    refine lv_aload_n hx hb dX9_readSlip_9 rfl (lv_at hl 0 rfl) ?_
    refine lv_iconst (v := 1) hx hb dX9_readSlip_10 (by decide) ?_
    refine va_put (D := G) (ci := 9) (v := .int (1 : Int32)) (ty := .boolean) (C := RX9) (T := TX9) (N := 9) hx hb hts i_X9_readSlip_X9 tyX9 tyX9_ok nmX9 hown hK hP hD hS 0 rfl rfl 7 (by decide) (hts _ k_X9_readSlip_0) (fun _ h9 => h9) rfl (by decide +kernel) rfl rfl (Nat.le_of_ble_eq_true rfl) dX9_readSlip_11 (fun H locs hP hD hS => ?_)
    have hP : va_P G vwCl [(a_t, .inr (9, [.ref a_t_bytes, .int f_t_length, .int f_t_place, .int f_t_start, .int f_t_token, .int f_t_value, .int f_t_lawTold, .int (1 : Int32), .int f_t_songTold])), (a_t_bytes, .inl (ca 2, 300, .inl c_t_bytes)), (a_p1, .inr (3, [.ref a_p1_water, .ref a_p1_need, .ref a_p1_dew, .ref a_p1_drops, .ref a_p1_song, .int f_p1_terraces, .int f_p1_days, .int f_p1_law, .int f_p1_slip, .int f_p1_songLength]))] H := hP
    have hD : va_D A [(a_t, .inr (9, [.ref a_t_bytes, .int f_t_length, .int f_t_place, .int f_t_start, .int f_t_token, .int f_t_value, .int f_t_lawTold, .int (1 : Int32), .int f_t_songTold])), (a_t_bytes, .inl (ca 2, 300, .inl c_t_bytes)), (a_p1, .inr (3, [.ref a_p1_water, .ref a_p1_need, .ref a_p1_dew, .ref a_p1_drops, .ref a_p1_song, .int f_p1_terraces, .int f_p1_days, .int f_p1_law, .int f_p1_slip, .int f_p1_songLength]))] := hD
    refine lv_aload_n hx hb dX9_readSlip_14 rfl (lv_at hl 0 rfl) ?_
    obtain ⟨u2, hc3, h⟩ := bd_o h
    refine jn_v (wr := [(a_p1, .inr (3, [.ref a_p1_water, .ref a_p1_need, .ref a_p1_dew, .ref a_p1_drops, .ref a_p1_song, .int f_p1_terraces, .int f_p1_days, .int f_p1_law, .int f_p1_slip, .int f_p1_songLength]))]) (ws' := [(a_t, .inr (9, [.ref a_t_bytes, .int f_t_length, .int u2.1, .int u2.2.1, .int u2.2.2.1, .int u2.2.2.2, .int f_t_lawTold, .int (1 : Int32), .int f_t_songTold])), (a_t_bytes, .inl (ca 2, 300, .inl c_t_bytes)), (a_p1, .inr (3, [.ref a_p1_water, .ref a_p1_need, .ref a_p1_dew, .ref a_p1_drops, .ref a_p1_song, .int f_p1_terraces, .int f_p1_days, .int f_p1_law, .int f_p1_slip, .int f_p1_songLength]))]) (va_runV (As := []) (rest := []) ⟨hx, hb, hml, hown, hts⟩ (c_X9_advance l G ca ad av H.size a_t a_t_bytes f_t_lawTold (1 : Int32) f_t_songTold c_t_bytes f_t_length f_t_place f_t_start f_t_token f_t_value u2 hc3) (cwV 0 hts gX9_readSlip_X9_advance rfl rfl rfl (by decide +kernel) ⟨Nat.le_of_ble_eq_true rfl, Nat.le_of_ble_eq_true rfl⟩) (pre_v (q0 := 0) (ci := 9) hK hE hA hP hD hS [0, 1] rfl (by decide) rfl rfl) rfl rfl hl.1 rfl (lv_room (Nat.le_of_ble_eq_true rfl)) dX9_readSlip_15 ⟨Nat.le_of_ble_eq_true rfl, Nat.le_of_ble_eq_true rfl⟩) hA hP hD hS [0, 1] [2] [1, 2, 0] rfl rfl (by decide) (by decide) (by decide) rfl (fun H locs hP hD hS => ?_)
    refine lv_aload_n hx hb dX9_readSlip_18 rfl (lv_at hl 1 rfl) ?_
    refine lv_aload_n hx hb dX9_readSlip_19 rfl (lv_at hl 0 rfl) ?_
    refine lv_iconst (v := 0) hx hb dX9_readSlip_20 (by decide) ?_
    refine lv_bipush (v := 9) hx hb dX9_readSlip_21 (by decide) ?_
    obtain ⟨u4, hc5, h⟩ := bd_o h
    refine jn_i (wr := [(a_p1, .inr (3, [.ref a_p1_water, .ref a_p1_need, .ref a_p1_dew, .ref a_p1_drops, .ref a_p1_song, .int f_p1_terraces, .int f_p1_days, .int f_p1_law, .int f_p1_slip, .int f_p1_songLength]))]) (ws' := [(a_t, .inr (9, [.ref a_t_bytes, .int f_t_length, .int u4.2.1, .int u4.2.2.1, .int u4.2.2.2.1, .int u4.2.2.2.2, .int f_t_lawTold, .int (1 : Int32), .int f_t_songTold])), (a_t_bytes, .inl (ca 2, 300, .inl c_t_bytes)), (a_p1, .inr (3, [.ref a_p1_water, .ref a_p1_need, .ref a_p1_dew, .ref a_p1_drops, .ref a_p1_song, .int f_p1_terraces, .int f_p1_days, .int f_p1_law, .int f_p1_slip, .int f_p1_songLength]))]) (va_runV (As := [.int (0 : Int32), .int (9 : Int32)]) (rest := [.ref a_p1]) ⟨hx, hb, hml, hown, hts⟩ (c_X9_takeNumber l G ca ad av H.size a_t a_t_bytes f_t_lawTold (1 : Int32) f_t_songTold c_t_bytes f_t_length u2.1 u2.2.1 u2.2.2.1 u2.2.2.2 (0 : Int32) (9 : Int32) u4 hc5) (cwV 2 hts gX9_readSlip_X9_takeNumber rfl rfl rfl (by decide +kernel) ⟨Nat.le_of_ble_eq_true rfl, Nat.le_of_ble_eq_true rfl⟩) (pre_v (q0 := 0) (ci := 9) hK hE hA hP hD hS [0, 1] rfl (by decide) rfl rfl) rfl rfl hl.1 rfl (lv_room (Nat.le_of_ble_eq_true rfl)) dX9_readSlip_23 ⟨Nat.le_of_ble_eq_true rfl, Nat.le_of_ble_eq_true rfl⟩) hA hP hD hS [0, 1] [2] [1, 2, 0] rfl rfl (by decide) (by decide) (by decide) rfl (fun H locs hP hD hS => ?_)
    refine va_putN (D := G) (ci := 3) (v := .int u4.1) (ty := .int) (C := RX3) (T := TX3) (N := 10) hx hb hts i_X9_readSlip_X3 tyX3 tyX3_ok nmX3 hown hK hP hD hS 2 rfl rfl 8 (by decide) (va_Nw.use rfl (hE.1 _ k_X9_readSlip_2)) (fun _ h9 => h9) rfl (by decide +kernel) rfl rfl (Nat.le_of_ble_eq_true rfl) dX9_readSlip_26 (fun H locs hP hD hS => ?_)
    have hP : va_P G vwCl [(a_t, .inr (9, [.ref a_t_bytes, .int f_t_length, .int u4.2.1, .int u4.2.2.1, .int u4.2.2.2.1, .int u4.2.2.2.2, .int f_t_lawTold, .int (1 : Int32), .int f_t_songTold])), (a_t_bytes, .inl (ca 2, 300, .inl c_t_bytes)), (a_p1, .inr (3, [.ref a_p1_water, .ref a_p1_need, .ref a_p1_dew, .ref a_p1_drops, .ref a_p1_song, .int f_p1_terraces, .int f_p1_days, .int f_p1_law, .int u4.1, .int f_p1_songLength]))] H := hP
    have hD : va_D A [(a_t, .inr (9, [.ref a_t_bytes, .int f_t_length, .int u4.2.1, .int u4.2.2.1, .int u4.2.2.2.1, .int u4.2.2.2.2, .int f_t_lawTold, .int (1 : Int32), .int f_t_songTold])), (a_t_bytes, .inl (ca 2, 300, .inl c_t_bytes)), (a_p1, .inr (3, [.ref a_p1_water, .ref a_p1_need, .ref a_p1_dew, .ref a_p1_drops, .ref a_p1_song, .int f_p1_terraces, .int f_p1_days, .int f_p1_law, .int u4.1, .int f_p1_songLength]))] := hD
    refine lv_aload_n hx hb dX9_readSlip_29 rfl (lv_at hl 1 rfl) ?_
    refine va_getN (D := G) (ci := 3) (v := .int u4.1) (C := RX3) (T := TX3) (N := 10) hx hb hts i_X9_readSlip_X3 hown hK hP 2 rfl rfl 8 (by decide) (va_Nw.use rfl (hE.1 _ k_X9_readSlip_2)) (fun _ h9 => h9) rfl dX9_readSlip_30 ?_
    refine lv_if_lt (tgt := 47) hx hb dX9_readSlip_33 (by decide) (fun b6 => ?_) (fun b6 => ?_)
    · have h := (if_pos b6).symm.trans h
      refine lv_iconst (v := 0) hx hb dX9_readSlip_47 (by decide) ?_
      have h := sm_i h
      subst h
      exact W.zret (v := (0 : Int32)) hx hb hr rfl (fun t ht hW => ⟨⟨(0 : Int32), (), rfl, rfl, by rw [ht]; exact hP, hD⟩, hS.F ht⟩) hS.2.2 dX9_readSlip_48
    · have h := (if_neg b6).symm.trans h
      refine lv_aload_n hx hb dX9_readSlip_36 rfl (lv_at hl 0 rfl) ?_
      obtain ⟨u7, hc8, h⟩ := bd_o h
      refine jn_i (wr := [(a_p1, .inr (3, [.ref a_p1_water, .ref a_p1_need, .ref a_p1_dew, .ref a_p1_drops, .ref a_p1_song, .int f_p1_terraces, .int f_p1_days, .int f_p1_law, .int u4.1, .int f_p1_songLength]))]) (ws' := [(a_t, .inr (9, [.ref a_t_bytes, .int f_t_length, .int u7.2.1, .int u7.2.2.1, .int u7.2.2.2.1, .int u7.2.2.2.2, .int f_t_lawTold, .int (1 : Int32), .int f_t_songTold])), (a_t_bytes, .inl (ca 2, 300, .inl c_t_bytes)), (a_p1, .inr (3, [.ref a_p1_water, .ref a_p1_need, .ref a_p1_dew, .ref a_p1_drops, .ref a_p1_song, .int f_p1_terraces, .int f_p1_days, .int f_p1_law, .int u4.1, .int f_p1_songLength]))]) (va_runV (As := []) (rest := []) ⟨hx, hb, hml, hown, hts⟩ (c_X9_takeSemicolon l G ca ad av H.size a_t a_t_bytes f_t_lawTold (1 : Int32) f_t_songTold c_t_bytes f_t_length u4.2.1 u4.2.2.1 u4.2.2.2.1 u4.2.2.2.2 u7 hc8) (cwV 0 hts gX9_readSlip_X9_takeSemicolon rfl rfl rfl (by decide +kernel) ⟨Nat.le_of_ble_eq_true rfl, Nat.le_of_ble_eq_true rfl⟩) (pre_v (q0 := 0) (ci := 9) hK hE hA hP hD hS [0, 1] rfl (by decide) rfl rfl) rfl rfl hl.1 rfl (lv_room (Nat.le_of_ble_eq_true rfl)) dX9_readSlip_37 ⟨Nat.le_of_ble_eq_true rfl, Nat.le_of_ble_eq_true rfl⟩) hA hP hD hS [0, 1] [2] [1, 2, 0] rfl rfl (by decide) (by decide) (by decide) rfl (fun H locs hP hD hS => ?_)
      refine lv_if_eq (tgt := 47) hx hb dX9_readSlip_40 (by decide) (fun b9 => ?_) (fun b9 => ?_)
      · have h := (if_pos b9).symm.trans h
        refine lv_iconst (v := 0) hx hb dX9_readSlip_47 (by decide) ?_
        have h := sm_i h
        subst h
        exact W.zret (v := (0 : Int32)) hx hb hr rfl (fun t ht hW => ⟨⟨(0 : Int32), (), rfl, rfl, by rw [ht]; exact hP, hD⟩, hS.F ht⟩) hS.2.2 dX9_readSlip_48
      · have h := (if_neg b9).symm.trans h
        refine lv_iconst (v := 1) hx hb dX9_readSlip_43 (by decide) ?_
        refine lv_goto (tgt := 48) hx hb dX9_readSlip_44 (by decide) ?_
        have h := sm_i h
        subst h
        exact W.zret (v := (1 : Int32)) hx hb hr rfl (fun t ht hW => ⟨⟨(1 : Int32), (), rfl, rfl, by rw [ht]; exact hP, hD⟩, hS.F ht⟩) hS.2.2 dX9_readSlip_48
  · have h := (if_neg b1).symm.trans h
    refine lv_iconst (v := 0) hx hb dX9_readSlip_7 (by decide) ?_
    have h := sm_i h
    subst h
    exact W.zret (v := (0 : Int32)) hx hb hr rfl (fun t ht hW => ⟨⟨(0 : Int32), (), rfl, rfl, by rw [ht]; exact hP, hD⟩, hS.F ht⟩) hS.2.2 dX9_readSlip_8
set_option maxHeartbeats 4000000 in
set_option maxRecDepth 100000 in
theorem c_X9_readSlip (l : Launch) (G : va_G) (ca : Nat → ClassId) (ad av : Nat → Nat) (sz : Nat) (a_t : Nat) (a_t_bytes : Nat) (a_p1 : Nat) (a_p1_water : Nat) (a_p1_need : Nat) (a_p1_dew : Nat) (a_p1_drops : Nat) (a_p1_song : Nat) (f_t_lawTold : Int32) (f_t_songTold : Int32) (f_p1_terraces : Int32) (f_p1_days : Int32) (f_p1_law : Int32) (f_p1_songLength : Int32) (c_t_bytes : Nat → Int32) (f_t_length : Int32) (f_t_place : Int32) (f_t_start : Int32) (f_t_token : Int32) (f_t_value : Int32) (f_t_slipTold : Int32) (f_p1_slip : Int32) (res : Int32 × Int32 × Int32 × Int32 × Int32 × Int32 × Int32) (h : F_X9_readSlip c_t_bytes f_t_length f_t_place f_t_start f_t_token f_t_value f_t_slipTold f_p1_slip = some res) : Met l yX9_readSlip wsX9_readSlip RM_X9_readSlip (va_Pc [.ref a_t, .ref a_p1] (PW_ G ca ad av sz [(a_t, .inr (9, [.ref a_t_bytes, .int f_t_length, .int f_t_place, .int f_t_start, .int f_t_token, .int f_t_value, .int f_t_lawTold, .int f_t_slipTold, .int f_t_songTold])), (a_t_bytes, .inl (ca 2, 300, .inl c_t_bytes)), (a_p1, .inr (3, [.ref a_p1_water, .ref a_p1_need, .ref a_p1_dew, .ref a_p1_drops, .ref a_p1_song, .int f_p1_terraces, .int f_p1_days, .int f_p1_law, .int f_p1_slip, .int f_p1_songLength]))])) (QI_ G (va_A [(a_t, .inr (9, [.ref a_t_bytes, .int f_t_length, .int f_t_place, .int f_t_start, .int f_t_token, .int f_t_value, .int f_t_lawTold, .int f_t_slipTold, .int f_t_songTold])), (a_t_bytes, .inl (ca 2, 300, .inl c_t_bytes)), (a_p1, .inr (3, [.ref a_p1_water, .ref a_p1_need, .ref a_p1_dew, .ref a_p1_drops, .ref a_p1_song, .int f_p1_terraces, .int f_p1_days, .int f_p1_law, .int f_p1_slip, .int f_p1_songLength]))] sz) res.1 [(a_t, .inr (9, [.ref a_t_bytes, .int f_t_length, .int res.2.1, .int res.2.2.1, .int res.2.2.2.1, .int res.2.2.2.2.1, .int f_t_lawTold, .int res.2.2.2.2.2.1, .int f_t_songTold])), (a_t_bytes, .inl (ca 2, 300, .inl c_t_bytes)), (a_p1, .inr (3, [.ref a_p1_water, .ref a_p1_need, .ref a_p1_dew, .ref a_p1_drops, .ref a_p1_song, .int f_p1_terraces, .int f_p1_days, .int f_p1_law, .int res.2.2.2.2.2.2, .int f_p1_songLength]))]) 0 0 (va_A [(a_t, .inr (9, [.ref a_t_bytes, .int f_t_length, .int f_t_place, .int f_t_start, .int f_t_token, .int f_t_value, .int f_t_lawTold, .int f_t_slipTold, .int f_t_songTold])), (a_t_bytes, .inl (ca 2, 300, .inl c_t_bytes)), (a_p1, .inr (3, [.ref a_p1_water, .ref a_p1_need, .ref a_p1_dew, .ref a_p1_drops, .ref a_p1_song, .int f_p1_terraces, .int f_p1_days, .int f_p1_law, .int f_p1_slip, .int f_p1_songLength]))] sz) := by
  refine Met.ofW (cc := cX9_readSlip) (maxL := 2) (ret := (some .boolean)) (by decide) rfl ?_
  intro p e s m args below meth c s₁ B hml hv
  obtain ⟨X0, rfl, rfl, hP, hD⟩ := en_t B hml hv
  have hl := lv_entry ([.ref a_t, .ref a_p1]) (n := 2) (Nat.le_of_ble_eq_true rfl)
  rw [lg_entry_eq]
  generalize (lg_sl ([.ref a_t, .ref a_p1]) ++ List.replicate (2 - (lg_sl ([.ref a_t, .ref a_p1])).length) Slot.unset).toArray = ls at hl ⊢
  exact w_X9_readSlip_0 X0 a_t a_t_bytes a_p1 a_p1_water a_p1_need a_p1_dew a_p1_drops a_p1_song f_t_lawTold f_t_songTold f_p1_terraces f_p1_days f_p1_law f_p1_songLength c_t_bytes f_t_length _ f_t_place f_t_start f_t_token f_t_value f_t_slipTold f_p1_slip h s.heap [] hP hD va_S.rf ls hl
