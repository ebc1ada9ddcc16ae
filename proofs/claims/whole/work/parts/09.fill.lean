/-! J7_fill_53178 -/
abbrev RM_J7_fill_53178 : Room := { frames := 0, cells := 0, slots := 0, locals := 0 }
def F_J7_fill_53178_5  : Nat → (Nat → Int32) → Int32 → Int32 → Int32 → Option ((Nat → Int32))
  | 0, _, _, _, _ => none
  | n + 1, c_p1, y1, y2, y3 => if y3 ≤ y2 then (some (c_p1)) else (if ok_I y2 6 = true then F_J7_fill_53178_5  n (upd c_p1 y2.toNatClampNeg y1) y1 (y2 + (1 : Int32)) y3 else none)
set_option maxHeartbeats 4000000 in
set_option maxRecDepth 100000 in
theorem w_J7_fill_53178_5 {p : Program} {l : Launch} {e : Env} {s : State} {m : MethodId} {args : Array Value} {below : List Frame} {meth : Method} {c : Code} {G : va_G} {ca : Nat → ClassId} {ad av : Nat → Nat} {A : Nat → Prop} (X0 : CX_ p s m args meth c cJ7_fill_53178 4 none wsJ7_fill_53178 RJ7 G ca ad av A) (a_p1 : Nat)   (res : (Nat → Int32)) : ∀ (n : Nat) (c_p1 : Nat → Int32) (y1 : Int32) (y2 : Int32) (y3 : Int32), F_J7_fill_53178_5  n c_p1 y1 y2 y3 = some res → ∀ (H : Heap) (locs : List Loc), va_P G vwCl [(a_p1, .inl (ca 0, 6, .inl c_p1))] H → va_D A [(a_p1, .inl (ca 0, 6, .inl c_p1))] → va_S A s.heap H locs → ∀ (ls : Array Slot), lv_has ls 4 [(0, .ref a_p1), (1, .int y1), (2, .int y2), (3, .int y3)] → W p l e RM_J7_fill_53178 s m args below meth c H locs 0 0 (MQ below (QV_ G A [(a_p1, .inl (ca 0, 6, .inl res))]) args s 0 0 A) (F0 m 5 ls []) := by
  obtain ⟨hx, hb, hr, hml, hown, hts, hlocks, hK, hA, hE⟩ := id X0
  intro n
  induction n with
  | zero => intro c_p1 y1 y2 y3 h; cases h
  | succ n ih =>
    intro c_p1 y1 y2 y3 h H locs hP hD hS ls hl
    rw [F_J7_fill_53178_5] at h
    refine lv_iload_n hx hb dJ7_fill_53178_5 rfl (lv_at hl 2 rfl) ?_
    refine lv_iload_n hx hb dJ7_fill_53178_6 rfl (lv_at hl 3 rfl) ?_
    refine lv_icmp_ge (tgt := 20) hx hb dJ7_fill_53178_7 (by decide) (fun b1 => ?_) (fun b1 => ?_)
    · have h := (if_pos b1).symm.trans h
      have h := sm_i h
      subst h
      exact W.vret hx hb hr (fun t ht hW => ⟨⟨(), rfl, trivial, by rw [ht]; exact hP, hD⟩, hS.F ht⟩) hS.2.2 dJ7_fill_53178_20
    · have h := (if_neg b1).symm.trans h
      refine lv_aload_n hx hb dJ7_fill_53178_10 rfl (lv_at hl 0 rfl) ?_
      refine lv_iload_n hx hb dJ7_fill_53178_11 rfl (lv_at hl 2 rfl) ?_
      refine lv_iload_n hx hb dJ7_fill_53178_12 rfl (lv_at hl 1 rfl) ?_
      obtain ⟨g2, h⟩ := gd_t h
      refine va_iast hx hb hK hP hD hS 0 0 rfl rfl (ok_in g2) dJ7_fill_53178_13 (fun H locs hP hD hS => ?_)
      have hP : va_P G vwCl [(a_p1, .inl (ca 0, 6, .inl (upd c_p1 y2.toNatClampNeg y1)))] H := hP
      have hD : va_D A [(a_p1, .inl (ca 0, 6, .inl (upd c_p1 y2.toNatClampNeg y1)))] := hD
      refine lv_iinc (v := (y2 + (1 : Int32))) (lv' := [(2, .int (y2 + (1 : Int32))), (0, .ref a_p1), (1, .int y1), (3, .int y3)]) hx hb dJ7_fill_53178_14 hl (k := 2) rfl rfl (by decide) rfl (fun ls hl => ?_)
      refine lv_goto (tgt := 5) hx hb dJ7_fill_53178_17 (by decide) ?_
      exact ih (upd c_p1 y2.toNatClampNeg y1) y1 (y2 + (1 : Int32)) y3 h H locs hP hD hS ls (lv_sub hl [1, 2, 0, 3] rfl)
def F_J7_fill_53178  (c_p1 : Nat → Int32) (x2 : Int32) : Option ((Nat → Int32)) := F_J7_fill_53178_5  FU_ c_p1 x2 (0 : Int32) (6 : Int32)
set_option maxHeartbeats 4000000 in
set_option maxRecDepth 100000 in
theorem w_J7_fill_53178_0 {p : Program} {l : Launch} {e : Env} {s : State} {m : MethodId} {args : Array Value} {below : List Frame} {meth : Method} {c : Code} {G : va_G} {ca : Nat → ClassId} {ad av : Nat → Nat} {A : Nat → Prop} (X0 : CX_ p s m args meth c cJ7_fill_53178 4 none wsJ7_fill_53178 RJ7 G ca ad av A) (a_p1 : Nat)   (res : (Nat → Int32)) (c_p1 : Nat → Int32) (x2 : Int32) (h : F_J7_fill_53178  c_p1 x2 = some res) : ∀ (H : Heap) (locs : List Loc), va_P G vwCl [(a_p1, .inl (ca 0, 6, .inl c_p1))] H → va_D A [(a_p1, .inl (ca 0, 6, .inl c_p1))] → va_S A s.heap H locs → ∀ (ls : Array Slot), lv_has ls 4 [(0, .ref a_p1), (1, .int x2)] → W p l e RM_J7_fill_53178 s m args below meth c H locs 0 0 (MQ below (QV_ G A [(a_p1, .inl (ca 0, 6, .inl res))]) args s 0 0 A) (F0 m 0 ls []) := by
  obtain ⟨hx, hb, hr, hml, hown, hts, hlocks, hK, hA, hE⟩ := id X0
  intro H locs hP hD hS ls hl
  unfold F_J7_fill_53178 at h
  refine lv_iconst (v := 0) hx hb dJ7_fill_53178_0 (by decide) ?_
  refine lv_istore_n (lv' := [(2, .int (0 : Int32)), (0, .ref a_p1), (1, .int x2)]) hx hb dJ7_fill_53178_1 rfl hl (by decide) rfl (fun ls hl => ?_)
  refine lv_aload_n hx hb dJ7_fill_53178_2 rfl (lv_at hl 1 rfl) ?_
  refine va_alen hx hb hK hP 0 0 rfl rfl (v := 6) rfl dJ7_fill_53178_3 ?_
  refine lv_istore_n (lv' := [(3, .int (6 : Int32)), (2, .int (0 : Int32)), (0, .ref a_p1), (1, .int x2)]) hx hb dJ7_fill_53178_4 rfl hl (by decide) rfl (fun ls hl => ?_)
  exact w_J7_fill_53178_5 X0 a_p1   _ FU_ c_p1 x2 (0 : Int32) (6 : Int32) h H locs hP hD hS ls (lv_sub hl [2, 3, 1, 0] rfl)
set_option maxHeartbeats 4000000 in
set_option maxRecDepth 100000 in
theorem c_J7_fill_53178 (l : Launch) (G : va_G) (ca : Nat → ClassId) (ad av : Nat → Nat) (sz : Nat) (a_p1 : Nat)   (c_p1 : Nat → Int32) (x2 : Int32) (res : (Nat → Int32)) (h : F_J7_fill_53178  c_p1 x2 = some res) : Met l yJ7_fill_53178 wsJ7_fill_53178 RM_J7_fill_53178 (va_Pc [.ref a_p1, .int x2] (PW_ G ca ad av sz [(a_p1, .inl (ca 0, 6, .inl c_p1))])) (QV_ G (va_A [(a_p1, .inl (ca 0, 6, .inl c_p1))] sz) [(a_p1, .inl (ca 0, 6, .inl res))]) 0 0 (va_A [(a_p1, .inl (ca 0, 6, .inl c_p1))] sz) := by
  refine Met.ofW (cc := cJ7_fill_53178) (maxL := 4) (ret := none) (by decide) rfl ?_
  intro p e s m args below meth c s₁ B hml hv
  obtain ⟨X0, rfl, rfl, hP, hD⟩ := en_t B hml hv
  have hl := lv_entry ([.ref a_p1, .int x2]) (n := 4) (Nat.le_of_ble_eq_true rfl)
  rw [lg_entry_eq]
  generalize (lg_sl ([.ref a_p1, .int x2]) ++ List.replicate (4 - (lg_sl ([.ref a_p1, .int x2])).length) Slot.unset).toArray = ls at hl ⊢
  exact w_J7_fill_53178_0 X0 a_p1   _ c_p1 x2 h s.heap [] hP hD va_S.rf ls hl

/-! J7_fill_d0a16 -/
abbrev RM_J7_fill_d0a16 : Room := { frames := 0, cells := 0, slots := 0, locals := 0 }
def F_J7_fill_d0a16_6  : Nat → (Nat → Int64) → Int64 → Int32 → Int32 → Option ((Nat → Int64))
  | 0, _, _, _, _ => none
  | n + 1, c_p1, y1, y3, y4 => if y4 ≤ y3 then (some (c_p1)) else (if ok_I y3 13 = true then F_J7_fill_d0a16_6  n (vp_updL c_p1 y3.toNatClampNeg y1) y1 (y3 + (1 : Int32)) y4 else none)
set_option maxHeartbeats 4000000 in
set_option maxRecDepth 100000 in
theorem w_J7_fill_d0a16_6 {p : Program} {l : Launch} {e : Env} {s : State} {m : MethodId} {args : Array Value} {below : List Frame} {meth : Method} {c : Code} {G : va_G} {ca : Nat → ClassId} {ad av : Nat → Nat} {A : Nat → Prop} (X0 : CX_ p s m args meth c cJ7_fill_d0a16 5 none wsJ7_fill_d0a16 RJ7 G ca ad av A) (a_p1 : Nat)   (res : (Nat → Int64)) : ∀ (n : Nat) (c_p1 : Nat → Int64) (y1 : Int64) (y3 : Int32) (y4 : Int32), F_J7_fill_d0a16_6  n c_p1 y1 y3 y4 = some res → ∀ (H : Heap) (locs : List Loc), va_P G vwCl [(a_p1, .inl (ca 1, 13, .inr (.inl c_p1)))] H → va_D A [(a_p1, .inl (ca 1, 13, .inr (.inl c_p1)))] → va_S A s.heap H locs → ∀ (ls : Array Slot), lv_has ls 5 [(0, .ref a_p1), (1, .long y1), (3, .int y3), (4, .int y4)] → W p l e RM_J7_fill_d0a16 s m args below meth c H locs 0 0 (MQ below (QV_ G A [(a_p1, .inl (ca 1, 13, .inr (.inl res)))]) args s 0 0 A) (F0 m 6 ls []) := by
  obtain ⟨hx, hb, hr, hml, hown, hts, hlocks, hK, hA, hE⟩ := id X0
  intro n
  induction n with
  | zero => intro c_p1 y1 y3 y4 h; cases h
  | succ n ih =>
    intro c_p1 y1 y3 y4 h H locs hP hD hS ls hl
    rw [F_J7_fill_d0a16_6] at h
    refine lv_iload_n hx hb dJ7_fill_d0a16_6 rfl (lv_at hl 2 rfl) ?_
    refine lv_iload hx hb dJ7_fill_d0a16_7 (lv_at hl 3 rfl) ?_
    refine lv_icmp_ge (tgt := 22) hx hb dJ7_fill_d0a16_9 (by decide) (fun b1 => ?_) (fun b1 => ?_)
    · have h := (if_pos b1).symm.trans h
      have h := sm_i h
      subst h
      exact W.vret hx hb hr (fun t ht hW => ⟨⟨(), rfl, trivial, by rw [ht]; exact hP, hD⟩, hS.F ht⟩) hS.2.2 dJ7_fill_d0a16_22
    · have h := (if_neg b1).symm.trans h
      refine lv_aload_n hx hb dJ7_fill_d0a16_12 rfl (lv_at hl 0 rfl) ?_
      refine lv_iload_n hx hb dJ7_fill_d0a16_13 rfl (lv_at hl 2 rfl) ?_
      refine lv_lload_n hx hb dJ7_fill_d0a16_14 rfl (lv_at hl 1 rfl) ?_
      obtain ⟨g2, h⟩ := gd_t h
      refine va_last hx hb hK hP hD hS 0 1 rfl rfl (ok_in g2) dJ7_fill_d0a16_15 (fun H locs hP hD hS => ?_)
      have hP : va_P G vwCl [(a_p1, .inl (ca 1, 13, .inr (.inl (vp_updL c_p1 y3.toNatClampNeg y1))))] H := hP
      have hD : va_D A [(a_p1, .inl (ca 1, 13, .inr (.inl (vp_updL c_p1 y3.toNatClampNeg y1))))] := hD
      refine lv_iinc (v := (y3 + (1 : Int32))) (lv' := [(3, .int (y3 + (1 : Int32))), (0, .ref a_p1), (1, .long y1), (4, .int y4)]) hx hb dJ7_fill_d0a16_16 hl (k := 2) rfl rfl (by decide) rfl (fun ls hl => ?_)
      refine lv_goto (tgt := 6) hx hb dJ7_fill_d0a16_19 (by decide) ?_
      exact ih (vp_updL c_p1 y3.toNatClampNeg y1) y1 (y3 + (1 : Int32)) y4 h H locs hP hD hS ls (lv_sub hl [1, 2, 0, 3] rfl)
def F_J7_fill_d0a16  (c_p1 : Nat → Int64) (x2 : Int64) : Option ((Nat → Int64)) := F_J7_fill_d0a16_6  FU_ c_p1 x2 (0 : Int32) (13 : Int32)
set_option maxHeartbeats 4000000 in
set_option maxRecDepth 100000 in
theorem w_J7_fill_d0a16_0 {p : Program} {l : Launch} {e : Env} {s : State} {m : MethodId} {args : Array Value} {below : List Frame} {meth : Method} {c : Code} {G : va_G} {ca : Nat → ClassId} {ad av : Nat → Nat} {A : Nat → Prop} (X0 : CX_ p s m args meth c cJ7_fill_d0a16 5 none wsJ7_fill_d0a16 RJ7 G ca ad av A) (a_p1 : Nat)   (res : (Nat → Int64)) (c_p1 : Nat → Int64) (x2 : Int64) (h : F_J7_fill_d0a16  c_p1 x2 = some res) : ∀ (H : Heap) (locs : List Loc), va_P G vwCl [(a_p1, .inl (ca 1, 13, .inr (.inl c_p1)))] H → va_D A [(a_p1, .inl (ca 1, 13, .inr (.inl c_p1)))] → va_S A s.heap H locs → ∀ (ls : Array Slot), lv_has ls 5 [(0, .ref a_p1), (1, .long x2)] → W p l e RM_J7_fill_d0a16 s m args below meth c H locs 0 0 (MQ below (QV_ G A [(a_p1, .inl (ca 1, 13, .inr (.inl res)))]) args s 0 0 A) (F0 m 0 ls []) := by
  obtain ⟨hx, hb, hr, hml, hown, hts, hlocks, hK, hA, hE⟩ := id X0
  intro H locs hP hD hS ls hl
  unfold F_J7_fill_d0a16 at h
  refine lv_iconst (v := 0) hx hb dJ7_fill_d0a16_0 (by decide) ?_
  refine lv_istore_n (lv' := [(3, .int (0 : Int32)), (0, .ref a_p1), (1, .long x2)]) hx hb dJ7_fill_d0a16_1 rfl hl (by decide) rfl (fun ls hl => ?_)
  refine lv_aload_n hx hb dJ7_fill_d0a16_2 rfl (lv_at hl 1 rfl) ?_
  refine va_alen hx hb hK hP 0 1 rfl rfl (v := 13) rfl dJ7_fill_d0a16_3 ?_
  refine lv_istore (lv' := [(4, .int (13 : Int32)), (3, .int (0 : Int32)), (0, .ref a_p1), (1, .long x2)]) hx hb dJ7_fill_d0a16_4 hl (by decide) rfl (fun ls hl => ?_)
  exact w_J7_fill_d0a16_6 X0 a_p1   _ FU_ c_p1 x2 (0 : Int32) (13 : Int32) h H locs hP hD hS ls (lv_sub hl [2, 3, 1, 0] rfl)
set_option maxHeartbeats 4000000 in
set_option maxRecDepth 100000 in
theorem c_J7_fill_d0a16 (l : Launch) (G : va_G) (ca : Nat → ClassId) (ad av : Nat → Nat) (sz : Nat) (a_p1 : Nat)   (c_p1 : Nat → Int64) (x2 : Int64) (res : (Nat → Int64)) (h : F_J7_fill_d0a16  c_p1 x2 = some res) : Met l yJ7_fill_d0a16 wsJ7_fill_d0a16 RM_J7_fill_d0a16 (va_Pc [.ref a_p1, .long x2] (PW_ G ca ad av sz [(a_p1, .inl (ca 1, 13, .inr (.inl c_p1)))])) (QV_ G (va_A [(a_p1, .inl (ca 1, 13, .inr (.inl c_p1)))] sz) [(a_p1, .inl (ca 1, 13, .inr (.inl res)))]) 0 0 (va_A [(a_p1, .inl (ca 1, 13, .inr (.inl c_p1)))] sz) := by
  refine Met.ofW (cc := cJ7_fill_d0a16) (maxL := 5) (ret := none) (by decide) rfl ?_
  intro p e s m args below meth c s₁ B hml hv
  obtain ⟨X0, rfl, rfl, hP, hD⟩ := en_t B hml hv
  have hl := lv_entry ([.ref a_p1, .long x2]) (n := 5) (Nat.le_of_ble_eq_true rfl)
  rw [lg_entry_eq]
  generalize (lg_sl ([.ref a_p1, .long x2]) ++ List.replicate (5 - (lg_sl ([.ref a_p1, .long x2])).length) Slot.unset).toArray = ls at hl ⊢
  exact w_J7_fill_d0a16_0 X0 a_p1   _ c_p1 x2 h s.heap [] hP hD va_S.rf ls hl
