/-! own: constructors -/
abbrev QN_ (G : va_G) (A : Nat → Prop) (ws : (Nat → Nat) → va_W) : Array Value → State → Outcome → State → Prop := va_Qv (fun (_ : Nat → Nat) => True) (fun u t => va_P G vwCl (ws u) t.heap ∧ va_D A (ws u)) A
/-- what the one constructor that makes arrays of references needs besides -/
def IX_ (U : State) : Prop := va_AO "DropDealers$Kind" U ∧ va_AO "DropDealers$Now" U ∧ va_Nw (.castable RX0 "DropDealers$Kind") U ∧ va_Nw (.castable RX5 "DropDealers$Kind") U ∧ va_Nw (.castable RX8 "DropDealers$Kind") U ∧ va_Nw (.castable RX2 "DropDealers$Kind") U ∧ va_Nw (.castable RX6 "DropDealers$Kind") U
theorem IX_.warm {s U : State} (hW : s.WarmedH U.vm) (h : IX_ s) : IX_ U := ⟨h.1.moved hW.alike, h.2.1.moved hW.alike, h.2.2.1.warmC hW, h.2.2.2.1.warmC hW, h.2.2.2.2.1.warmC hW, h.2.2.2.2.2.1.warmC hW, h.2.2.2.2.2.2.warmC hW⟩
section JN
variable {p : Program} {l : Launch} {e : Env} {R : Room} {s : State} {m : MethodId} {args : Array Value} {below : List Frame} {meth : Method} {c : Code} {H : Heap} {locs : List Loc} {Q : State → Prop} {cells slots mc ms : Nat}
variable {pc : Nat} {ls : Array Slot} {rest st0 : List Value} {a : Array Value} {A : Nat → Prop} {G : va_G} {ws wc wr : va_W} {w1 : (Nat → Nat) → va_W}
theorem jn_n (hr : va_Run p l e R s m args below meth c H locs cells slots mc ms (F0 m pc ls st0) rest (QN_ G (va_A wc H.size) w1 a) (va_A wc H.size)) (hA : ∀ q, s.heap.size ≤ q → A q) (hP : va_P G vwCl ws H) (hD : va_D A ws) (hS : va_S A s.heap H locs) (isC isR : List Nat) (hC : isC.map (fun i => ws[i]?) = wc.map some) (hR : isR.map (fun i => ws[i]?) = wr.map some) (hn : va_nd isR = true) (hdis : ∀ i ∈ isR, i ∉ isC)
    (kk : ∀ (u : Nat → Nat) (H1 : Heap) (locs1 : List Loc), va_P G vwCl (wr ++ w1 u) H1 → va_D A (wr ++ w1 u) → va_S A s.heap H1 locs1 → W p l e R s m args below meth c H1 locs1 (cells + mc) (slots + ms) Q (F0 m (pc + 3) ls rest)) : W p l e R s m args below meth c H locs cells slots Q (F0 m pc ls st0) := by
  have hF := va_free (wc := wc) hD hS hA isC hC
  refine va_callv hr hS (fun q _ h => hF q h) hF (fun u t H1 locs1 ht hvm hw hB hz1 hk1 hS1 => ?_)
  obtain ⟨hP1, hD1⟩ := hB
  rw [ht] at hP1
  obtain ⟨hP2, hD2⟩ := va_join (wr := wr) (w1 := w1 u) hP hD isC isR hC hR hn hdis hk1 hF hP1 hD1
  exact kk u H1 locs1 hP2 hD2 hS1
end JN
/-! X9_init -/
abbrev RM_X9_init : Room := { frames := 1, cells := 1, slots := 300, locals := 12 }
theorem k_X9_init_0 : Cond.code objectInit ⟨#[0xb1]⟩ 1 none ∈ wsX9_init := by decide +kernel
theorem k_X9_init_1 : Cond.methodLink RX9 3 objectInit ∈ wsX9_init := by decide +kernel
theorem k_X9_init_2 : Cond.instanceMethod objectInit ∈ wsX9_init := by decide +kernel
theorem k_X9_init_3 : Cond.arrayClass .byte ∈ wsX9_init := by decide +kernel
theorem i_X9_init_X9 : ∀ w ∈ u_ws RX9 TX9 9, w ∈ wsX9_init := by decide +kernel
theorem k_X9_init_5 : Cond.fieldLink RX9 9 "DropDealers$Reader" "bytes" "[B" ∈ wsX9_init := by decide +kernel
set_option maxHeartbeats 4000000 in
set_option maxRecDepth 100000 in
theorem c_X9_init (l : Launch) (G : va_G) (ca : Nat → ClassId) (ad av : Nat → Nat) (sz : Nat) (a_t : Nat) : Met l yX9_init wsX9_init RM_X9_init (va_Pc [.ref a_t] (PW_ G ca ad av sz [(a_t, .inr (9, [.null, .int 0, .int 0, .int 0, .int 0, .int 0, .int 0, .int 0, .int 0]))])) (QN_ G (va_A [(a_t, .inr (9, [.null, .int 0, .int 0, .int 0, .int 0, .int 0, .int 0, .int 0, .int 0]))] sz) (fun u => [(a_t, .inr (9, [.ref (u 0), .int 0, .int 0, .int 0, .int 0, .int 0, .int 0, .int 0, .int 0])), ((u 0), .inl (ca 2, 300, .inl (fun _ => 0)))])) 1 300 (va_A [(a_t, .inr (9, [.null, .int 0, .int 0, .int 0, .int 0, .int 0, .int 0, .int 0, .int 0]))] sz) := by
  refine Met.ofW (cc := cX9_init) (maxL := 1) (ret := none) (by decide) rfl ?_
  intro p e s m args below meth c s₁ B hml hv
  obtain ⟨X0, rfl, rfl, hP, hD⟩ := en_t B hml hv
  obtain ⟨hx, hb, hr, hml, hown, hts, hlocks, hK, hA, hE⟩ := X0
  have hin : meth.name = "<init>" := (name_of_methodNamed B.named B.method).1
  have hS : va_S (va_A [(a_t, .inr (9, [.null, .int 0, .int 0, .int 0, .int 0, .int 0, .int 0, .int 0, .int 0]))] s.heap.size) s.heap s.heap [] := va_S.rf
  generalize va_A [(a_t, .inr (9, [.null, .int 0, .int 0, .int 0, .int 0, .int 0, .int 0, .int 0, .int 0]))] s.heap.size = A at hD hS hA hE ⊢
  have hl := lv_entry ([.ref a_t]) (n := 1) (Nat.le_of_ble_eq_true rfl)
  rw [lg_entry_eq]
  generalize (lg_sl ([.ref a_t]) ++ List.replicate (1 - (lg_sl ([.ref a_t])).length) Slot.unset).toArray = ls at hl ⊢
  refine lv_aload_n hx hb dX9_init_0 rfl (lv_at hl 0 rfl) ?_
  refine W.objInit hx hb hown (hts _ k_X9_init_1) (hts _ k_X9_init_2) (hts _ k_X9_init_0) rfl (by rw [hml]; exact hl.1) rfl dX9_init_1 (Nat.le_of_ble_eq_true rfl) (Nat.le_of_ble_eq_true rfl) ?_
  refine W.eq (g2 := F0 m 4 ls []) rfl ?_
  refine lv_aload_n hx hb dX9_init_4 rfl (lv_at hl 0 rfl) ?_
  refine lv_sipush (v := 300) hx hb dX9_init_5 (by decide) ?_
  refine va_newa (atype := .byte) (ty := .byte) (a0 := (300, .inl (fun _ => 0))) (N' := 300) hx hb (hts _ k_X9_init_3) rfl hK hP hD hS hA (fun cA => vp_cell_i cA 300 (fun _ => 0)) (by decide) (by decide +kernel) (by decide +kernel) (Nat.le_of_ble_eq_true rfl) (Nat.le_of_ble_eq_true rfl) dX9_init_8 (fun q1 cA H hK2 hP hD hS => ?_)
  have ec : cA = ca 2 := Option.some.inj (((hK2.2 6 _ rfl).2).symm.trans (hK.2 2 _ rfl).2)
  subst ec
  have hP : va_P G vwCl [(a_t, .inr (9, [.null, .int 0, .int 0, .int 0, .int 0, .int 0, .int 0, .int 0, .int 0])), (q1, .inl (ca 2, 300, .inl (fun _ => 0)))] H := hP
  have hD : va_D A [(a_t, .inr (9, [.null, .int 0, .int 0, .int 0, .int 0, .int 0, .int 0, .int 0, .int 0])), (q1, .inl (ca 2, 300, .inl (fun _ => 0)))] := hD
  refine va_putF (D := G) (ci := 9) (v := .ref q1) (ty := (.array .byte)) (C := RX9) (T := TX9) (N := 9) hx hb hts i_X9_init_X9 tyX9 tyX9_ok nmX9 hown hK hP hD hS 0 rfl rfl 0 (by decide) (hts _ k_X9_init_5) (fun _ h9 => h9) rfl hin rfl (by decide +kernel) rfl rfl (Nat.le_of_ble_eq_true rfl) dX9_init_10 (fun H locs hP hD hS => ?_)
  have hP : va_P G vwCl [(a_t, .inr (9, [.ref q1, .int 0, .int 0, .int 0, .int 0, .int 0, .int 0, .int 0, .int 0])), (q1, .inl (ca 2, 300, .inl (fun _ => 0)))] H := hP
  have hD : va_D A [(a_t, .inr (9, [.ref q1, .int 0, .int 0, .int 0, .int 0, .int 0, .int 0, .int 0, .int 0])), (q1, .inl (ca 2, 300, .inl (fun _ => 0)))] := hD
  have hP : va_P G vwCl [(a_t, .inr (9, [.ref q1, .int 0, .int 0, .int 0, .int 0, .int 0, .int 0, .int 0, .int 0])), (q1, .inl (ca 2, 300, .inl (fun _ => 0)))] H := hP.sub [0, 1] rfl
  have hD : va_D A [(a_t, .inr (9, [.ref q1, .int 0, .int 0, .int 0, .int 0, .int 0, .int 0, .int 0, .int 0])), (q1, .inl (ca 2, 300, .inl (fun _ => 0)))] := hD.sub [0, 1] (by decide) rfl
  refine W.widen (k := 1) (n := 300) (Nat.le_of_ble_eq_true rfl) (Nat.le_of_ble_eq_true rfl) ?_
  exact W.vret hx hb hr (fun t ht hW => ⟨⟨(fun k => match k with | 0 => q1 | _ => 0), rfl, trivial, by rw [ht]; exact hP, hD⟩, hS.F ht⟩) hS.2.2 dX9_init_13

/-! X3_init -/
abbrev RM_X3_init : Room := { frames := 1, cells := 5, slots := 46, locals := 12 }
theorem k_X3_init_0 : Cond.code objectInit ⟨#[0xb1]⟩ 1 none ∈ wsX3_init := by decide +kernel
theorem k_X3_init_1 : Cond.methodLink RX3 3 objectInit ∈ wsX3_init := by decide +kernel
theorem k_X3_init_2 : Cond.instanceMethod objectInit ∈ wsX3_init := by decide +kernel
theorem k_X3_init_3 : Cond.arrayClass .int ∈ wsX3_init := by decide +kernel
theorem i_X3_init_X3 : ∀ w ∈ u_ws RX3 TX3 10, w ∈ wsX3_init := by decide +kernel
theorem k_X3_init_5 : Cond.fieldLink RX3 9 "DropDealers$Hill" "water" "[I" ∈ wsX3_init := by decide +kernel
theorem k_X3_init_6 : Cond.fieldLink RX3 15 "DropDealers$Hill" "need" "[I" ∈ wsX3_init := by decide +kernel
theorem k_X3_init_7 : Cond.fieldLink RX3 18 "DropDealers$Hill" "dew" "[I" ∈ wsX3_init := by decide +kernel
theorem k_X3_init_8 : Cond.fieldLink RX3 21 "DropDealers$Hill" "drops" "[I" ∈ wsX3_init := by decide +kernel
theorem k_X3_init_9 : Cond.fieldLink RX3 24 "DropDealers$Hill" "song" "[I" ∈ wsX3_init := by decide +kernel
theorem k_X3_init_10 : Cond.fieldLink RX3 27 "DropDealers$Hill" "law" "I" ∈ wsX3_init := by decide +kernel
theorem k_X3_init_11 : Cond.fieldLink RX3 31 "DropDealers$Hill" "songLength" "I" ∈ wsX3_init := by decide +kernel
set_option maxHeartbeats 4000000 in
set_option maxRecDepth 100000 in
theorem c_X3_init (l : Launch) (G : va_G) (ca : Nat → ClassId) (ad av : Nat → Nat) (sz : Nat) (a_t : Nat) : Met l yX3_init wsX3_init RM_X3_init (va_Pc [.ref a_t] (PW_ G ca ad av sz [(a_t, .inr (3, [.null, .null, .null, .null, .null, .int 0, .int 0, .int 0, .int 0, .int 0]))])) (QN_ G (va_A [(a_t, .inr (3, [.null, .null, .null, .null, .null, .int 0, .int 0, .int 0, .int 0, .int 0]))] sz) (fun u => [(a_t, .inr (3, [.ref (u 0), .ref (u 1), .ref (u 2), .ref (u 3), .ref (u 4), .int 0, .int 0, .int 0, .int 0, .int 1])), ((u 0), .inl (ca 0, 6, .inl (fun _ => 0))), ((u 1), .inl (ca 0, 6, .inl (fun _ => 0))), ((u 2), .inl (ca 0, 6, .inl (fun _ => 0))), ((u 3), .inl (ca 0, 20, .inl (fun _ => 0))), ((u 4), .inl (ca 0, 8, .inl (fun _ => 0)))])) 5 46 (va_A [(a_t, .inr (3, [.null, .null, .null, .null, .null, .int 0, .int 0, .int 0, .int 0, .int 0]))] sz) := by
  refine Met.ofW (cc := cX3_init) (maxL := 1) (ret := none) (by decide) rfl ?_
  intro p e s m args below meth c s₁ B hml hv
  obtain ⟨X0, rfl, rfl, hP, hD⟩ := en_t B hml hv
  obtain ⟨hx, hb, hr, hml, hown, hts, hlocks, hK, hA, hE⟩ := X0
  have hin : meth.name = "<init>" := (name_of_methodNamed B.named B.method).1
  have hS : va_S (va_A [(a_t, .inr (3, [.null, .null, .null, .null, .null, .int 0, .int 0, .int 0, .int 0, .int 0]))] s.heap.size) s.heap s.heap [] := va_S.rf
  generalize va_A [(a_t, .inr (3, [.null, .null, .null, .null, .null, .int 0, .int 0, .int 0, .int 0, .int 0]))] s.heap.size = A at hD hS hA hE ⊢
  have hl := lv_entry ([.ref a_t]) (n := 1) (Nat.le_of_ble_eq_true rfl)
  rw [lg_entry_eq]
  generalize (lg_sl ([.ref a_t]) ++ List.replicate (1 - (lg_sl ([.ref a_t])).length) Slot.unset).toArray = ls at hl ⊢
  refine lv_aload_n hx hb dX3_init_0 rfl (lv_at hl 0 rfl) ?_
  refine W.objInit hx hb hown (hts _ k_X3_init_1) (hts _ k_X3_init_2) (hts _ k_X3_init_0) rfl (by rw [hml]; exact hl.1) rfl dX3_init_1 (Nat.le_of_ble_eq_true rfl) (Nat.le_of_ble_eq_true rfl) ?_
  refine W.eq (g2 := F0 m 4 ls []) rfl ?_
  refine lv_aload_n hx hb dX3_init_4 rfl (lv_at hl 0 rfl) ?_
  refine lv_bipush (v := 6) hx hb dX3_init_5 (by decide) ?_
  refine va_newa (atype := .int) (ty := .int) (a0 := (6, .inl (fun _ => 0))) (N' := 6) hx hb (hts _ k_X3_init_3) rfl hK hP hD hS hA (fun cA => vp_cell_i cA 6 (fun _ => 0)) (by decide) (by decide +kernel) (by decide +kernel) (Nat.le_of_ble_eq_true rfl) (Nat.le_of_ble_eq_true rfl) dX3_init_7 (fun q1 cA H hK2 hP hD hS => ?_)
  have ec : cA = ca 0 := Option.some.inj (((hK2.2 6 _ rfl).2).symm.trans (hK.2 0 _ rfl).2)
  subst ec
  have hP : va_P G vwCl [(a_t, .inr (3, [.null, .null, .null, .null, .null, .int 0, .int 0, .int 0, .int 0, .int 0])), (q1, .inl (ca 0, 6, .inl (fun _ => 0)))] H := hP
  have hD : va_D A [(a_t, .inr (3, [.null, .null, .null, .null, .null, .int 0, .int 0, .int 0, .int 0, .int 0])), (q1, .inl (ca 0, 6, .inl (fun _ => 0)))] := hD
  refine va_putF (D := G) (ci := 3) (v := .ref q1) (ty := (.array .int)) (C := RX3) (T := TX3) (N := 10) hx hb hts i_X3_init_X3 tyX3 tyX3_ok nmX3 hown hK hP hD hS 0 rfl rfl 0 (by decide) (hts _ k_X3_init_5) (fun _ h9 => h9) rfl hin rfl (by decide +kernel) rfl rfl (Nat.le_of_ble_eq_true rfl) dX3_init_9 (fun H locs hP hD hS => ?_)
  have hP : va_P G vwCl [(a_t, .inr (3, [.ref q1, .null, .null, .null, .null, .int 0, .int 0, .int 0, .int 0, .int 0])), (q1, .inl (ca 0, 6, .inl (fun _ => 0)))] H := hP
  have hD : va_D A [(a_t, .inr (3, [.ref q1, .null, .null, .null, .null, .int 0, .int 0, .int 0, .int 0, .int 0])), (q1, .inl (ca 0, 6, .inl (fun _ => 0)))] := hD
  refine lv_aload_n hx hb dX3_init_12 rfl (lv_at hl 0 rfl) ?_
  refine lv_bipush (v := 6) hx hb dX3_init_13 (by decide) ?_
  refine va_newa (atype := .int) (ty := .int) (a0 := (6, .inl (fun _ => 0))) (N' := 6) hx hb (hts _ k_X3_init_3) rfl hK hP hD hS hA (fun cA => vp_cell_i cA 6 (fun _ => 0)) (by decide) (by decide +kernel) (by decide +kernel) (Nat.le_of_ble_eq_true rfl) (Nat.le_of_ble_eq_true rfl) dX3_init_15 (fun q2 cA H hK2 hP hD hS => ?_)
  have ec : cA = ca 0 := Option.some.inj (((hK2.2 6 _ rfl).2).symm.trans (hK.2 0 _ rfl).2)
  subst ec
  have hP : va_P G vwCl [(a_t, .inr (3, [.ref q1, .null, .null, .null, .null, .int 0, .int 0, .int 0, .int 0, .int 0])), (q1, .inl (ca 0, 6, .inl (fun _ => 0))), (q2, .inl (ca 0, 6, .inl (fun _ => 0)))] H := hP
  have hD : va_D A [(a_t, .inr (3, [.ref q1, .null, .null, .null, .null, .int 0, .int 0, .int 0, .int 0, .int 0])), (q1, .inl (ca 0, 6, .inl (fun _ => 0))), (q2, .inl (ca 0, 6, .inl (fun _ => 0)))] := hD
  refine va_putF (D := G) (ci := 3) (v := .ref q2) (ty := (.array .int)) (C := RX3) (T := TX3) (N := 10) hx hb hts i_X3_init_X3 tyX3 tyX3_ok nmX3 hown hK hP hD hS 0 rfl rfl 1 (by decide) (hts _ k_X3_init_6) (fun _ h9 => h9) rfl hin rfl (by decide +kernel) rfl rfl (Nat.le_of_ble_eq_true rfl) dX3_init_17 (fun H locs hP hD hS => ?_)
  have hP : va_P G vwCl [(a_t, .inr (3, [.ref q1, .ref q2, .null, .null, .null, .int 0, .int 0, .int 0, .int 0, .int 0])), (q1, .inl (ca 0, 6, .inl (fun _ => 0))), (q2, .inl (ca 0, 6, .inl (fun _ => 0)))] H := hP
  have hD : va_D A [(a_t, .inr (3, [.ref q1, .ref q2, .null, .null, .null, .int 0, .int 0, .int 0, .int 0, .int 0])), (q1, .inl (ca 0, 6, .inl (fun _ => 0))), (q2, .inl (ca 0, 6, .inl (fun _ => 0)))] := hD
  refine lv_aload_n hx hb dX3_init_20 rfl (lv_at hl 0 rfl) ?_
  refine lv_bipush (v := 6) hx hb dX3_init_21 (by decide) ?_
  refine va_newa (atype := .int) (ty := .int) (a0 := (6, .inl (fun _ => 0))) (N' := 6) hx hb (hts _ k_X3_init_3) rfl hK hP hD hS hA (fun cA => vp_cell_i cA 6 (fun _ => 0)) (by decide) (by decide +kernel) (by decide +kernel) (Nat.le_of_ble_eq_true rfl) (Nat.le_of_ble_eq_true rfl) dX3_init_23 (fun q3 cA H hK2 hP hD hS => ?_)
  have ec : cA = ca 0 := Option.some.inj (((hK2.2 6 _ rfl).2).symm.trans (hK.2 0 _ rfl).2)
  subst ec
  have hP : va_P G vwCl [(a_t, .inr (3, [.ref q1, .ref q2, .null, .null, .null, .int 0, .int 0, .int 0, .int 0, .int 0])), (q1, .inl (ca 0, 6, .inl (fun _ => 0))), (q2, .inl (ca 0, 6, .inl (fun _ => 0))), (q3, .inl (ca 0, 6, .inl (fun _ => 0)))] H := hP
  have hD : va_D A [(a_t, .inr (3, [.ref q1, .ref q2, .null, .null, .null, .int 0, .int 0, .int 0, .int 0, .int 0])), (q1, .inl (ca 0, 6, .inl (fun _ => 0))), (q2, .inl (ca 0, 6, .inl (fun _ => 0))), (q3, .inl (ca 0, 6, .inl (fun _ => 0)))] := hD
  refine va_putF (D := G) (ci := 3) (v := .ref q3) (ty := (.array .int)) (C := RX3) (T := TX3) (N := 10) hx hb hts i_X3_init_X3 tyX3 tyX3_ok nmX3 hown hK hP hD hS 0 rfl rfl 2 (by decide) (hts _ k_X3_init_7) (fun _ h9 => h9) rfl hin rfl (by decide +kernel) rfl rfl (Nat.le_of_ble_eq_true rfl) dX3_init_25 (fun H locs hP hD hS => ?_)
  have hP : va_P G vwCl [(a_t, .inr (3, [.ref q1, .ref q2, .ref q3, .null, .null, .int 0, .int 0, .int 0, .int 0, .int 0])), (q1, .inl (ca 0, 6, .inl (fun _ => 0))), (q2, .inl (ca 0, 6, .inl (fun _ => 0))), (q3, .inl (ca 0, 6, .inl (fun _ => 0)))] H := hP
  have hD : va_D A [(a_t, .inr (3, [.ref q1, .ref q2, .ref q3, .null, .null, .int 0, .int 0, .int 0, .int 0, .int 0])), (q1, .inl (ca 0, 6, .inl (fun _ => 0))), (q2, .inl (ca 0, 6, .inl (fun _ => 0))), (q3, .inl (ca 0, 6, .inl (fun _ => 0)))] := hD
  refine lv_aload_n hx hb dX3_init_28 rfl (lv_at hl 0 rfl) ?_
  refine lv_bipush (v := 20) hx hb dX3_init_29 (by decide) ?_
  refine va_newa (atype := .int) (ty := .int) (a0 := (20, .inl (fun _ => 0))) (N' := 20) hx hb (hts _ k_X3_init_3) rfl hK hP hD hS hA (fun cA => vp_cell_i cA 20 (fun _ => 0)) (by decide) (by decide +kernel) (by decide +kernel) (Nat.le_of_ble_eq_true rfl) (Nat.le_of_ble_eq_true rfl) dX3_init_31 (fun q4 cA H hK2 hP hD hS => ?_)
  have ec : cA = ca 0 := Option.some.inj (((hK2.2 6 _ rfl).2).symm.trans (hK.2 0 _ rfl).2)
  subst ec
  have hP : va_P G vwCl [(a_t, .inr (3, [.ref q1, .ref q2, .ref q3, .null, .null, .int 0, .int 0, .int 0, .int 0, .int 0])), (q1, .inl (ca 0, 6, .inl (fun _ => 0))), (q2, .inl (ca 0, 6, .inl (fun _ => 0))), (q3, .inl (ca 0, 6, .inl (fun _ => 0))), (q4, .inl (ca 0, 20, .inl (fun _ => 0)))] H := hP
  have hD : va_D A [(a_t, .inr (3, [.ref q1, .ref q2, .ref q3, .null, .null, .int 0, .int 0, .int 0, .int 0, .int 0])), (q1, .inl (ca 0, 6, .inl (fun _ => 0))), (q2, .inl (ca 0, 6, .inl (fun _ => 0))), (q3, .inl (ca 0, 6, .inl (fun _ => 0))), (q4, .inl (ca 0, 20, .inl (fun _ => 0)))] := hD
  refine va_putF (D := G) (ci := 3) (v := .ref q4) (ty := (.array .int)) (C := RX3) (T := TX3) (N := 10) hx hb hts i_X3_init_X3 tyX3 tyX3_ok nmX3 hown hK hP hD hS 0 rfl rfl 3 (by decide) (hts _ k_X3_init_8) (fun _ h9 => h9) rfl hin rfl (by decide +kernel) rfl rfl (Nat.le_of_ble_eq_true rfl) dX3_init_33 (fun H locs hP hD hS => ?_)
  have hP : va_P G vwCl [(a_t, .inr (3, [.ref q1, .ref q2, .ref q3, .ref q4, .null, .int 0, .int 0, .int 0, .int 0, .int 0])), (q1, .inl (ca 0, 6, .inl (fun _ => 0))), (q2, .inl (ca 0, 6, .inl (fun _ => 0))), (q3, .inl (ca 0, 6, .inl (fun _ => 0))), (q4, .inl (ca 0, 20, .inl (fun _ => 0)))] H := hP
  have hD : va_D A [(a_t, .inr (3, [.ref q1, .ref q2, .ref q3, .ref q4, .null, .int 0, .int 0, .int 0, .int 0, .int 0])), (q1, .inl (ca 0, 6, .inl (fun _ => 0))), (q2, .inl (ca 0, 6, .inl (fun _ => 0))), (q3, .inl (ca 0, 6, .inl (fun _ => 0))), (q4, .inl (ca 0, 20, .inl (fun _ => 0)))] := hD
  refine lv_aload_n hx hb dX3_init_36 rfl (lv_at hl 0 rfl) ?_
  refine lv_bipush (v := 8) hx hb dX3_init_37 (by decide) ?_
  refine va_newa (atype := .int) (ty := .int) (a0 := (8, .inl (fun _ => 0))) (N' := 8) hx hb (hts _ k_X3_init_3) rfl hK hP hD hS hA (fun cA => vp_cell_i cA 8 (fun _ => 0)) (by decide) (by decide +kernel) (by decide +kernel) (Nat.le_of_ble_eq_true rfl) (Nat.le_of_ble_eq_true rfl) dX3_init_39 (fun q5 cA H hK2 hP hD hS => ?_)
  have ec : cA = ca 0 := Option.some.inj (((hK2.2 6 _ rfl).2).symm.trans (hK.2 0 _ rfl).2)
  subst ec
  have hP : va_P G vwCl [(a_t, .inr (3, [.ref q1, .ref q2, .ref q3, .ref q4, .null, .int 0, .int 0, .int 0, .int 0, .int 0])), (q1, .inl (ca 0, 6, .inl (fun _ => 0))), (q2, .inl (ca 0, 6, .inl (fun _ => 0))), (q3, .inl (ca 0, 6, .inl (fun _ => 0))), (q4, .inl (ca 0, 20, .inl (fun _ => 0))), (q5, .inl (ca 0, 8, .inl (fun _ => 0)))] H := hP
  have hD : va_D A [(a_t, .inr (3, [.ref q1, .ref q2, .ref q3, .ref q4, .null, .int 0, .int 0, .int 0, .int 0, .int 0])), (q1, .inl (ca 0, 6, .inl (fun _ => 0))), (q2, .inl (ca 0, 6, .inl (fun _ => 0))), (q3, .inl (ca 0, 6, .inl (fun _ => 0))), (q4, .inl (ca 0, 20, .inl (fun _ => 0))), (q5, .inl (ca 0, 8, .inl (fun _ => 0)))] := hD
  refine va_putF (D := G) (ci := 3) (v := .ref q5) (ty := (.array .int)) (C := RX3) (T := TX3) (N := 10) hx hb hts i_X3_init_X3 tyX3 tyX3_ok nmX3 hown hK hP hD hS 0 rfl rfl 4 (by decide) (hts _ k_X3_init_9) (fun _ h9 => h9) rfl hin rfl (by decide +kernel) rfl rfl (Nat.le_of_ble_eq_true rfl) dX3_init_41 (fun H locs hP hD hS => ?_)
  have hP : va_P G vwCl [(a_t, .inr (3, [.ref q1, .ref q2, .ref q3, .ref q4, .ref q5, .int 0, .int 0, .int 0, .int 0, .int 0])), (q1, .inl (ca 0, 6, .inl (fun _ => 0))), (q2, .inl (ca 0, 6, .inl (fun _ => 0))), (q3, .inl (ca 0, 6, .inl (fun _ => 0))), (q4, .inl (ca 0, 20, .inl (fun _ => 0))), (q5, .inl (ca 0, 8, .inl (fun _ => 0)))] H := hP
  have hD : va_D A [(a_t, .inr (3, [.ref q1, .ref q2, .ref q3, .ref q4, .ref q5, .int 0, .int 0, .int 0, .int 0, .int 0])), (q1, .inl (ca 0, 6, .inl (fun _ => 0))), (q2, .inl (ca 0, 6, .inl (fun _ => 0))), (q3, .inl (ca 0, 6, .inl (fun _ => 0))), (q4, .inl (ca 0, 20, .inl (fun _ => 0))), (q5, .inl (ca 0, 8, .inl (fun _ => 0)))] := hD
  refine lv_aload_n hx hb dX3_init_44 rfl (lv_at hl 0 rfl) ?_
  refine lv_iconst (v := 0) hx hb dX3_init_45 (by decide) ?_
  refine va_put (D := G) (ci := 3) (v := .int 0) (ty := .int) (C := RX3) (T := TX3) (N := 10) hx hb hts i_X3_init_X3 tyX3 tyX3_ok nmX3 hown hK hP hD hS 0 rfl rfl 7 (by decide) (hts _ k_X3_init_10) (fun _ h9 => h9) rfl (by decide +kernel) rfl rfl (Nat.le_of_ble_eq_true rfl) dX3_init_46 (fun H locs hP hD hS => ?_)
  have hP : va_P G vwCl [(a_t, .inr (3, [.ref q1, .ref q2, .ref q3, .ref q4, .ref q5, .int 0, .int 0, .int 0, .int 0, .int 0])), (q1, .inl (ca 0, 6, .inl (fun _ => 0))), (q2, .inl (ca 0, 6, .inl (fun _ => 0))), (q3, .inl (ca 0, 6, .inl (fun _ => 0))), (q4, .inl (ca 0, 20, .inl (fun _ => 0))), (q5, .inl (ca 0, 8, .inl (fun _ => 0)))] H := hP
  have hD : va_D A [(a_t, .inr (3, [.ref q1, .ref q2, .ref q3, .ref q4, .ref q5, .int 0, .int 0, .int 0, .int 0, .int 0])), (q1, .inl (ca 0, 6, .inl (fun _ => 0))), (q2, .inl (ca 0, 6, .inl (fun _ => 0))), (q3, .inl (ca 0, 6, .inl (fun _ => 0))), (q4, .inl (ca 0, 20, .inl (fun _ => 0))), (q5, .inl (ca 0, 8, .inl (fun _ => 0)))] := hD
  refine lv_aload_n hx hb dX3_init_49 rfl (lv_at hl 0 rfl) ?_
  refine lv_iconst (v := 1) hx hb dX3_init_50 (by decide) ?_
  refine va_put (D := G) (ci := 3) (v := .int 1) (ty := .int) (C := RX3) (T := TX3) (N := 10) hx hb hts i_X3_init_X3 tyX3 tyX3_ok nmX3 hown hK hP hD hS 0 rfl rfl 9 (by decide) (hts _ k_X3_init_11) (fun _ h9 => h9) rfl (by decide +kernel) rfl rfl (Nat.le_of_ble_eq_true rfl) dX3_init_51 (fun H locs hP hD hS => ?_)
  have hP : va_P G vwCl [(a_t, .inr (3, [.ref q1, .ref q2, .ref q3, .ref q4, .ref q5, .int 0, .int 0, .int 0, .int 0, .int 1])), (q1, .inl (ca 0, 6, .inl (fun _ => 0))), (q2, .inl (ca 0, 6, .inl (fun _ => 0))), (q3, .inl (ca 0, 6, .inl (fun _ => 0))), (q4, .inl (ca 0, 20, .inl (fun _ => 0))), (q5, .inl (ca 0, 8, .inl (fun _ => 0)))] H := hP
  have hD : va_D A [(a_t, .inr (3, [.ref q1, .ref q2, .ref q3, .ref q4, .ref q5, .int 0, .int 0, .int 0, .int 0, .int 1])), (q1, .inl (ca 0, 6, .inl (fun _ => 0))), (q2, .inl (ca 0, 6, .inl (fun _ => 0))), (q3, .inl (ca 0, 6, .inl (fun _ => 0))), (q4, .inl (ca 0, 20, .inl (fun _ => 0))), (q5, .inl (ca 0, 8, .inl (fun _ => 0)))] := hD
  have hP : va_P G vwCl [(a_t, .inr (3, [.ref q1, .ref q2, .ref q3, .ref q4, .ref q5, .int 0, .int 0, .int 0, .int 0, .int 1])), (q1, .inl (ca 0, 6, .inl (fun _ => 0))), (q2, .inl (ca 0, 6, .inl (fun _ => 0))), (q3, .inl (ca 0, 6, .inl (fun _ => 0))), (q4, .inl (ca 0, 20, .inl (fun _ => 0))), (q5, .inl (ca 0, 8, .inl (fun _ => 0)))] H := hP.sub [0, 1, 2, 3, 4, 5] rfl
  have hD : va_D A [(a_t, .inr (3, [.ref q1, .ref q2, .ref q3, .ref q4, .ref q5, .int 0, .int 0, .int 0, .int 0, .int 1])), (q1, .inl (ca 0, 6, .inl (fun _ => 0))), (q2, .inl (ca 0, 6, .inl (fun _ => 0))), (q3, .inl (ca 0, 6, .inl (fun _ => 0))), (q4, .inl (ca 0, 20, .inl (fun _ => 0))), (q5, .inl (ca 0, 8, .inl (fun _ => 0)))] := hD.sub [0, 1, 2, 3, 4, 5] (by decide) rfl
  refine W.widen (k := 5) (n := 46) (Nat.le_of_ble_eq_true rfl) (Nat.le_of_ble_eq_true rfl) ?_
  exact W.vret hx hb hr (fun t ht hW => ⟨⟨(fun k => match k with | 0 => q1 | 1 => q2 | 2 => q3 | 3 => q4 | 4 => q5 | _ => 0), rfl, trivial, by rw [ht]; exact hP, hD⟩, hS.F ht⟩) hS.2.2 dX3_init_54

/-! X7_init -/
abbrev RM_X7_init : Room := { frames := 1, cells := 4, slots := 28, locals := 12 }
theorem k_X7_init_0 : Cond.code objectInit ⟨#[0xb1]⟩ 1 none ∈ wsX7_init := by decide +kernel
theorem k_X7_init_1 : Cond.methodLink RX7 3 objectInit ∈ wsX7_init := by decide +kernel
theorem k_X7_init_2 : Cond.instanceMethod objectInit ∈ wsX7_init := by decide +kernel
theorem k_X7_init_3 : Cond.arrayClass .int ∈ wsX7_init := by decide +kernel
theorem i_X7_init_X7 : ∀ w ∈ u_ws RX7 TX7 9, w ∈ wsX7_init := by decide +kernel
theorem k_X7_init_5 : Cond.fieldLink RX7 9 "DropDealers$Now" "water" "[I" ∈ wsX7_init := by decide +kernel
theorem k_X7_init_6 : Cond.fieldLink RX7 15 "DropDealers$Now" "lacked" "[I" ∈ wsX7_init := by decide +kernel
theorem k_X7_init_7 : Cond.fieldLink RX7 18 "DropDealers$Now" "seenTurn" "[I" ∈ wsX7_init := by decide +kernel
theorem k_X7_init_8 : Cond.fieldLink RX7 21 "DropDealers$Now" "seenSet" "[I" ∈ wsX7_init := by decide +kernel
theorem k_X7_init_9 : Cond.fieldLink RX7 24 "DropDealers$Now" "lot" "I" ∈ wsX7_init := by decide +kernel
set_option maxHeartbeats 4000000 in
set_option maxRecDepth 100000 in
theorem c_X7_init (l : Launch) (G : va_G) (ca : Nat → ClassId) (ad av : Nat → Nat) (sz : Nat) (a_t : Nat) : Met l yX7_init wsX7_init RM_X7_init (va_Pc [.ref a_t] (PW_ G ca ad av sz [(a_t, .inr (7, [.null, .null, .null, .null, .int 0, .int 0, .int 0, .int 0, .int 0]))])) (QN_ G (va_A [(a_t, .inr (7, [.null, .null, .null, .null, .int 0, .int 0, .int 0, .int 0, .int 0]))] sz) (fun u => [(a_t, .inr (7, [.ref (u 0), .ref (u 1), .ref (u 2), .ref (u 3), .int 0, .int 0, .int 0, .int 1, .int 0])), ((u 0), .inl (ca 0, 6, .inl (fun _ => 0))), ((u 1), .inl (ca 0, 6, .inl (fun _ => 0))), ((u 2), .inl (ca 0, 8, .inl (fun _ => 0))), ((u 3), .inl (ca 0, 8, .inl (fun _ => 0)))])) 4 28 (va_A [(a_t, .inr (7, [.null, .null, .null, .null, .int 0, .int 0, .int 0, .int 0, .int 0]))] sz) := by
  refine Met.ofW (cc := cX7_init) (maxL := 1) (ret := none) (by decide) rfl ?_
  intro p e s m args below meth c s₁ B hml hv
  obtain ⟨X0, rfl, rfl, hP, hD⟩ := en_t B hml hv
  obtain ⟨hx, hb, hr, hml, hown, hts, hlocks, hK, hA, hE⟩ := X0
  have hin : meth.name = "<init>" := (name_of_methodNamed B.named B.method).1
  have hS : va_S (va_A [(a_t, .inr (7, [.null, .null, .null, .null, .int 0, .int 0, .int 0, .int 0, .int 0]))] s.heap.size) s.heap s.heap [] := va_S.rf
  generalize va_A [(a_t, .inr (7, [.null, .null, .null, .null, .int 0, .int 0, .int 0, .int 0, .int 0]))] s.heap.size = A at hD hS hA hE ⊢
  have hl := lv_entry ([.ref a_t]) (n := 1) (Nat.le_of_ble_eq_true rfl)
  rw [lg_entry_eq]
  generalize (lg_sl ([.ref a_t]) ++ List.replicate (1 - (lg_sl ([.ref a_t])).length) Slot.unset).toArray = ls at hl ⊢
  refine lv_aload_n hx hb dX7_init_0 rfl (lv_at hl 0 rfl) ?_
  refine W.objInit hx hb hown (hts _ k_X7_init_1) (hts _ k_X7_init_2) (hts _ k_X7_init_0) rfl (by rw [hml]; exact hl.1) rfl dX7_init_1 (Nat.le_of_ble_eq_true rfl) (Nat.le_of_ble_eq_true rfl) ?_
  refine W.eq (g2 := F0 m 4 ls []) rfl ?_
  refine lv_aload_n hx hb dX7_init_4 rfl (lv_at hl 0 rfl) ?_
  refine lv_bipush (v := 6) hx hb dX7_init_5 (by decide) ?_
  refine va_newa (atype := .int) (ty := .int) (a0 := (6, .inl (fun _ => 0))) (N' := 6) hx hb (hts _ k_X7_init_3) rfl hK hP hD hS hA (fun cA => vp_cell_i cA 6 (fun _ => 0)) (by decide) (by decide +kernel) (by decide +kernel) (Nat.le_of_ble_eq_true rfl) (Nat.le_of_ble_eq_true rfl) dX7_init_7 (fun q1 cA H hK2 hP hD hS => ?_)
  have ec : cA = ca 0 := Option.some.inj (((hK2.2 6 _ rfl).2).symm.trans (hK.2 0 _ rfl).2)
  subst ec
  have hP : va_P G vwCl [(a_t, .inr (7, [.null, .null, .null, .null, .int 0, .int 0, .int 0, .int 0, .int 0])), (q1, .inl (ca 0, 6, .inl (fun _ => 0)))] H := hP
  have hD : va_D A [(a_t, .inr (7, [.null, .null, .null, .null, .int 0, .int 0, .int 0, .int 0, .int 0])), (q1, .inl (ca 0, 6, .inl (fun _ => 0)))] := hD
  refine va_putF (D := G) (ci := 7) (v := .ref q1) (ty := (.array .int)) (C := RX7) (T := TX7) (N := 9) hx hb hts i_X7_init_X7 tyX7 tyX7_ok nmX7 hown hK hP hD hS 0 rfl rfl 0 (by decide) (hts _ k_X7_init_5) (fun _ h9 => h9) rfl hin rfl (by decide +kernel) rfl rfl (Nat.le_of_ble_eq_true rfl) dX7_init_9 (fun H locs hP hD hS => ?_)
  have hP : va_P G vwCl [(a_t, .inr (7, [.ref q1, .null, .null, .null, .int 0, .int 0, .int 0, .int 0, .int 0])), (q1, .inl (ca 0, 6, .inl (fun _ => 0)))] H := hP
  have hD : va_D A [(a_t, .inr (7, [.ref q1, .null, .null, .null, .int 0, .int 0, .int 0, .int 0, .int 0])), (q1, .inl (ca 0, 6, .inl (fun _ => 0)))] := hD
  refine lv_aload_n hx hb dX7_init_12 rfl (lv_at hl 0 rfl) ?_
  refine lv_bipush (v := 6) hx hb dX7_init_13 (by decide) ?_
  refine va_newa (atype := .int) (ty := .int) (a0 := (6, .inl (fun _ => 0))) (N' := 6) hx hb (hts _ k_X7_init_3) rfl hK hP hD hS hA (fun cA => vp_cell_i cA 6 (fun _ => 0)) (by decide) (by decide +kernel) (by decide +kernel) (Nat.le_of_ble_eq_true rfl) (Nat.le_of_ble_eq_true rfl) dX7_init_15 (fun q2 cA H hK2 hP hD hS => ?_)
  have ec : cA = ca 0 := Option.some.inj (((hK2.2 6 _ rfl).2).symm.trans (hK.2 0 _ rfl).2)
  subst ec
  have hP : va_P G vwCl [(a_t, .inr (7, [.ref q1, .null, .null, .null, .int 0, .int 0, .int 0, .int 0, .int 0])), (q1, .inl (ca 0, 6, .inl (fun _ => 0))), (q2, .inl (ca 0, 6, .inl (fun _ => 0)))] H := hP
  have hD : va_D A [(a_t, .inr (7, [.ref q1, .null, .null, .null, .int 0, .int 0, .int 0, .int 0, .int 0])), (q1, .inl (ca 0, 6, .inl (fun _ => 0))), (q2, .inl (ca 0, 6, .inl (fun _ => 0)))] := hD
  refine va_putF (D := G) (ci := 7) (v := .ref q2) (ty := (.array .int)) (C := RX7) (T := TX7) (N := 9) hx hb hts i_X7_init_X7 tyX7 tyX7_ok nmX7 hown hK hP hD hS 0 rfl rfl 1 (by decide) (hts _ k_X7_init_6) (fun _ h9 => h9) rfl hin rfl (by decide +kernel) rfl rfl (Nat.le_of_ble_eq_true rfl) dX7_init_17 (fun H locs hP hD hS => ?_)
  have hP : va_P G vwCl [(a_t, .inr (7, [.ref q1, .ref q2, .null, .null, .int 0, .int 0, .int 0, .int 0, .int 0])), (q1, .inl (ca 0, 6, .inl (fun _ => 0))), (q2, .inl (ca 0, 6, .inl (fun _ => 0)))] H := hP
  have hD : va_D A [(a_t, .inr (7, [.ref q1, .ref q2, .null, .null, .int 0, .int 0, .int 0, .int 0, .int 0])), (q1, .inl (ca 0, 6, .inl (fun _ => 0))), (q2, .inl (ca 0, 6, .inl (fun _ => 0)))] := hD
  refine lv_aload_n hx hb dX7_init_20 rfl (lv_at hl 0 rfl) ?_
  refine lv_bipush (v := 8) hx hb dX7_init_21 (by decide) ?_
  refine va_newa (atype := .int) (ty := .int) (a0 := (8, .inl (fun _ => 0))) (N' := 8) hx hb (hts _ k_X7_init_3) rfl hK hP hD hS hA (fun cA => vp_cell_i cA 8 (fun _ => 0)) (by decide) (by decide +kernel) (by decide +kernel) (Nat.le_of_ble_eq_true rfl) (Nat.le_of_ble_eq_true rfl) dX7_init_23 (fun q3 cA H hK2 hP hD hS => ?_)
  have ec : cA = ca 0 := Option.some.inj (((hK2.2 6 _ rfl).2).symm.trans (hK.2 0 _ rfl).2)
  subst ec
  have hP : va_P G vwCl [(a_t, .inr (7, [.ref q1, .ref q2, .null, .null, .int 0, .int 0, .int 0, .int 0, .int 0])), (q1, .inl (ca 0, 6, .inl (fun _ => 0))), (q2, .inl (ca 0, 6, .inl (fun _ => 0))), (q3, .inl (ca 0, 8, .inl (fun _ => 0)))] H := hP
  have hD : va_D A [(a_t, .inr (7, [.ref q1, .ref q2, .null, .null, .int 0, .int 0, .int 0, .int 0, .int 0])), (q1, .inl (ca 0, 6, .inl (fun _ => 0))), (q2, .inl (ca 0, 6, .inl (fun _ => 0))), (q3, .inl (ca 0, 8, .inl (fun _ => 0)))] := hD
  refine va_putF (D := G) (ci := 7) (v := .ref q3) (ty := (.array .int)) (C := RX7) (T := TX7) (N := 9) hx hb hts i_X7_init_X7 tyX7 tyX7_ok nmX7 hown hK hP hD hS 0 rfl rfl 2 (by decide) (hts _ k_X7_init_7) (fun _ h9 => h9) rfl hin rfl (by decide +kernel) rfl rfl (Nat.le_of_ble_eq_true rfl) dX7_init_25 (fun H locs hP hD hS => ?_)
  have hP : va_P G vwCl [(a_t, .inr (7, [.ref q1, .ref q2, .ref q3, .null, .int 0, .int 0, .int 0, .int 0, .int 0])), (q1, .inl (ca 0, 6, .inl (fun _ => 0))), (q2, .inl (ca 0, 6, .inl (fun _ => 0))), (q3, .inl (ca 0, 8, .inl (fun _ => 0)))] H := hP
  have hD : va_D A [(a_t, .inr (7, [.ref q1, .ref q2, .ref q3, .null, .int 0, .int 0, .int 0, .int 0, .int 0])), (q1, .inl (ca 0, 6, .inl (fun _ => 0))), (q2, .inl (ca 0, 6, .inl (fun _ => 0))), (q3, .inl (ca 0, 8, .inl (fun _ => 0)))] := hD
  refine lv_aload_n hx hb dX7_init_28 rfl (lv_at hl 0 rfl) ?_
  refine lv_bipush (v := 8) hx hb dX7_init_29 (by decide) ?_
  refine va_newa (atype := .int) (ty := .int) (a0 := (8, .inl (fun _ => 0))) (N' := 8) hx hb (hts _ k_X7_init_3) rfl hK hP hD hS hA (fun cA => vp_cell_i cA 8 (fun _ => 0)) (by decide) (by decide +kernel) (by decide +kernel) (Nat.le_of_ble_eq_true rfl) (Nat.le_of_ble_eq_true rfl) dX7_init_31 (fun q4 cA H hK2 hP hD hS => ?_)
  have ec : cA = ca 0 := Option.some.inj (((hK2.2 6 _ rfl).2).symm.trans (hK.2 0 _ rfl).2)
  subst ec
  have hP : va_P G vwCl [(a_t, .inr (7, [.ref q1, .ref q2, .ref q3, .null, .int 0, .int 0, .int 0, .int 0, .int 0])), (q1, .inl (ca 0, 6, .inl (fun _ => 0))), (q2, .inl (ca 0, 6, .inl (fun _ => 0))), (q3, .inl (ca 0, 8, .inl (fun _ => 0))), (q4, .inl (ca 0, 8, .inl (fun _ => 0)))] H := hP
  have hD : va_D A [(a_t, .inr (7, [.ref q1, .ref q2, .ref q3, .null, .int 0, .int 0, .int 0, .int 0, .int 0])), (q1, .inl (ca 0, 6, .inl (fun _ => 0))), (q2, .inl (ca 0, 6, .inl (fun _ => 0))), (q3, .inl (ca 0, 8, .inl (fun _ => 0))), (q4, .inl (ca 0, 8, .inl (fun _ => 0)))] := hD
  refine va_putF (D := G) (ci := 7) (v := .ref q4) (ty := (.array .int)) (C := RX7) (T := TX7) (N := 9) hx hb hts i_X7_init_X7 tyX7 tyX7_ok nmX7 hown hK hP hD hS 0 rfl rfl 3 (by decide) (hts _ k_X7_init_8) (fun _ h9 => h9) rfl hin rfl (by decide +kernel) rfl rfl (Nat.le_of_ble_eq_true rfl) dX7_init_33 (fun H locs hP hD hS => ?_)
  have hP : va_P G vwCl [(a_t, .inr (7, [.ref q1, .ref q2, .ref q3, .ref q4, .int 0, .int 0, .int 0, .int 0, .int 0])), (q1, .inl (ca 0, 6, .inl (fun _ => 0))), (q2, .inl (ca 0, 6, .inl (fun _ => 0))), (q3, .inl (ca 0, 8, .inl (fun _ => 0))), (q4, .inl (ca 0, 8, .inl (fun _ => 0)))] H := hP
  have hD : va_D A [(a_t, .inr (7, [.ref q1, .ref q2, .ref q3, .ref q4, .int 0, .int 0, .int 0, .int 0, .int 0])), (q1, .inl (ca 0, 6, .inl (fun _ => 0))), (q2, .inl (ca 0, 6, .inl (fun _ => 0))), (q3, .inl (ca 0, 8, .inl (fun _ => 0))), (q4, .inl (ca 0, 8, .inl (fun _ => 0)))] := hD
  refine lv_aload_n hx hb dX7_init_36 rfl (lv_at hl 0 rfl) ?_
  refine lv_iconst (v := 1) hx hb dX7_init_37 (by decide) ?_
  refine va_put (D := G) (ci := 7) (v := .int 1) (ty := .int) (C := RX7) (T := TX7) (N := 9) hx hb hts i_X7_init_X7 tyX7 tyX7_ok nmX7 hown hK hP hD hS 0 rfl rfl 7 (by decide) (hts _ k_X7_init_9) (fun _ h9 => h9) rfl (by decide +kernel) rfl rfl (Nat.le_of_ble_eq_true rfl) dX7_init_38 (fun H locs hP hD hS => ?_)
  have hP : va_P G vwCl [(a_t, .inr (7, [.ref q1, .ref q2, .ref q3, .ref q4, .int 0, .int 0, .int 0, .int 1, .int 0])), (q1, .inl (ca 0, 6, .inl (fun _ => 0))), (q2, .inl (ca 0, 6, .inl (fun _ => 0))), (q3, .inl (ca 0, 8, .inl (fun _ => 0))), (q4, .inl (ca 0, 8, .inl (fun _ => 0)))] H := hP
  have hD : va_D A [(a_t, .inr (7, [.ref q1, .ref q2, .ref q3, .ref q4, .int 0, .int 0, .int 0, .int 1, .int 0])), (q1, .inl (ca 0, 6, .inl (fun _ => 0))), (q2, .inl (ca 0, 6, .inl (fun _ => 0))), (q3, .inl (ca 0, 8, .inl (fun _ => 0))), (q4, .inl (ca 0, 8, .inl (fun _ => 0)))] := hD
  have hP : va_P G vwCl [(a_t, .inr (7, [.ref q1, .ref q2, .ref q3, .ref q4, .int 0, .int 0, .int 0, .int 1, .int 0])), (q1, .inl (ca 0, 6, .inl (fun _ => 0))), (q2, .inl (ca 0, 6, .inl (fun _ => 0))), (q3, .inl (ca 0, 8, .inl (fun _ => 0))), (q4, .inl (ca 0, 8, .inl (fun _ => 0)))] H := hP.sub [0, 1, 2, 3, 4] rfl
  have hD : va_D A [(a_t, .inr (7, [.ref q1, .ref q2, .ref q3, .ref q4, .int 0, .int 0, .int 0, .int 1, .int 0])), (q1, .inl (ca 0, 6, .inl (fun _ => 0))), (q2, .inl (ca 0, 6, .inl (fun _ => 0))), (q3, .inl (ca 0, 8, .inl (fun _ => 0))), (q4, .inl (ca 0, 8, .inl (fun _ => 0)))] := hD.sub [0, 1, 2, 3, 4] (by decide) rfl
  refine W.widen (k := 4) (n := 28) (Nat.le_of_ble_eq_true rfl) (Nat.le_of_ble_eq_true rfl) ?_
  exact W.vret hx hb hr (fun t ht hW => ⟨⟨(fun k => match k with | 0 => q1 | 1 => q2 | 2 => q3 | 3 => q4 | _ => 0), rfl, trivial, by rw [ht]; exact hP, hD⟩, hS.F ht⟩) hS.2.2 dX7_init_41

/-! X1_init -/
abbrev RM_X1_init : Room := { frames := 1, cells := 6, slots := 67, locals := 12 }
theorem k_X1_init_0 : Cond.code objectInit ⟨#[0xb1]⟩ 1 none ∈ wsX1_init := by decide +kernel
theorem k_X1_init_1 : Cond.methodLink RX1 3 objectInit ∈ wsX1_init := by decide +kernel
theorem k_X1_init_2 : Cond.instanceMethod objectInit ∈ wsX1_init := by decide +kernel
theorem k_X1_init_3 : Cond.arrayClass .int ∈ wsX1_init := by decide +kernel
theorem i_X1_init_X1 : ∀ w ∈ u_ws RX1 TX1 8, w ∈ wsX1_init := by decide +kernel
theorem k_X1_init_5 : Cond.fieldLink RX1 9 "DropDealers$Foresight" "water" "[I" ∈ wsX1_init := by decide +kernel
theorem k_X1_init_6 : Cond.fieldLink RX1 15 "DropDealers$Foresight" "gain" "[I" ∈ wsX1_init := by decide +kernel
theorem k_X1_init_7 : Cond.fieldLink RX1 18 "DropDealers$Foresight" "drops" "[I" ∈ wsX1_init := by decide +kernel
theorem k_X1_init_8 : Cond.fieldLink RX1 21 "DropDealers$Foresight" "level" "[I" ∈ wsX1_init := by decide +kernel
theorem k_X1_init_9 : Cond.fieldLink RX1 24 "DropDealers$Foresight" "share" "[I" ∈ wsX1_init := by decide +kernel
theorem k_X1_init_10 : Cond.fieldLink RX1 27 "DropDealers$Foresight" "song" "[I" ∈ wsX1_init := by decide +kernel
set_option maxHeartbeats 4000000 in
set_option maxRecDepth 100000 in
theorem c_X1_init (l : Launch) (G : va_G) (ca : Nat → ClassId) (ad av : Nat → Nat) (sz : Nat) (a_t : Nat) : Met l yX1_init wsX1_init RM_X1_init (va_Pc [.ref a_t] (PW_ G ca ad av sz [(a_t, .inr (1, [.null, .null, .null, .null, .null, .null, .int 0, .int 0]))])) (QN_ G (va_A [(a_t, .inr (1, [.null, .null, .null, .null, .null, .null, .int 0, .int 0]))] sz) (fun u => [(a_t, .inr (1, [.ref (u 0), .ref (u 1), .ref (u 2), .ref (u 3), .ref (u 4), .ref (u 5), .int 0, .int 0])), ((u 0), .inl (ca 0, 6, .inl (fun _ => 0))), ((u 1), .inl (ca 0, 6, .inl (fun _ => 0))), ((u 2), .inl (ca 0, 40, .inl (fun _ => 0))), ((u 3), .inl (ca 0, 6, .inl (fun _ => 0))), ((u 4), .inl (ca 0, 6, .inl (fun _ => 0))), ((u 5), .inl (ca 0, 3, .inl (fun _ => 0)))])) 6 67 (va_A [(a_t, .inr (1, [.null, .null, .null, .null, .null, .null, .int 0, .int 0]))] sz) := by
  refine Met.ofW (cc := cX1_init) (maxL := 1) (ret := none) (by decide) rfl ?_
  intro p e s m args below meth c s₁ B hml hv
  obtain ⟨X0, rfl, rfl, hP, hD⟩ := en_t B hml hv
  obtain ⟨hx, hb, hr, hml, hown, hts, hlocks, hK, hA, hE⟩ := X0
  have hin : meth.name = "<init>" := (name_of_methodNamed B.named B.method).1
  have hS : va_S (va_A [(a_t, .inr (1, [.null, .null, .null, .null, .null, .null, .int 0, .int 0]))] s.heap.size) s.heap s.heap [] := va_S.rf
  generalize va_A [(a_t, .inr (1, [.null, .null, .null, .null, .null, .null, .int 0, .int 0]))] s.heap.size = A at hD hS hA hE ⊢
  have hl := lv_entry ([.ref a_t]) (n := 1) (Nat.le_of_ble_eq_true rfl)
  rw [lg_entry_eq]
  generalize (lg_sl ([.ref a_t]) ++ List.replicate (1 - (lg_sl ([.ref a_t])).length) Slot.unset).toArray = ls at hl ⊢
  refine lv_aload_n hx hb dX1_init_0 rfl (lv_at hl 0 rfl) ?_
  refine W.objInit hx hb hown (hts _ k_X1_init_1) (hts _ k_X1_init_2) (hts _ k_X1_init_0) rfl (by rw [hml]; exact hl.1) rfl dX1_init_1 (Nat.le_of_ble_eq_true rfl) (Nat.le_of_ble_eq_true rfl) ?_
  refine W.eq (g2 := F0 m 4 ls []) rfl ?_
  refine lv_aload_n hx hb dX1_init_4 rfl (lv_at hl 0 rfl) ?_
  refine lv_bipush (v := 6) hx hb dX1_init_5 (by decide) ?_
  refine va_newa (atype := .int) (ty := .int) (a0 := (6, .inl (fun _ => 0))) (N' := 6) hx hb (hts _ k_X1_init_3) rfl hK hP hD hS hA (fun cA => vp_cell_i cA 6 (fun _ => 0)) (by decide) (by decide +kernel) (by decide +kernel) (Nat.le_of_ble_eq_true rfl) (Nat.le_of_ble_eq_true rfl) dX1_init_7 (fun q1 cA H hK2 hP hD hS => ?_)
  have ec : cA = ca 0 := Option.some.inj (((hK2.2 6 _ rfl).2).symm.trans (hK.2 0 _ rfl).2)
  subst ec
  have hP : va_P G vwCl [(a_t, .inr (1, [.null, .null, .null, .null, .null, .null, .int 0, .int 0])), (q1, .inl (ca 0, 6, .inl (fun _ => 0)))] H := hP
  have hD : va_D A [(a_t, .inr (1, [.null, .null, .null, .null, .null, .null, .int 0, .int 0])), (q1, .inl (ca 0, 6, .inl (fun _ => 0)))] := hD
  refine va_putF (D := G) (ci := 1) (v := .ref q1) (ty := (.array .int)) (C := RX1) (T := TX1) (N := 8) hx hb hts i_X1_init_X1 tyX1 tyX1_ok nmX1 hown hK hP hD hS 0 rfl rfl 0 (by decide) (hts _ k_X1_init_5) (fun _ h9 => h9) rfl hin rfl (by decide +kernel) rfl rfl (Nat.le_of_ble_eq_true rfl) dX1_init_9 (fun H locs hP hD hS => ?_)
  have hP : va_P G vwCl [(a_t, .inr (1, [.ref q1, .null, .null, .null, .null, .null, .int 0, .int 0])), (q1, .inl (ca 0, 6, .inl (fun _ => 0)))] H := hP
  have hD : va_D A [(a_t, .inr (1, [.ref q1, .null, .null, .null, .null, .null, .int 0, .int 0])), (q1, .inl (ca 0, 6, .inl (fun _ => 0)))] := hD
  refine lv_aload_n hx hb dX1_init_12 rfl (lv_at hl 0 rfl) ?_
  refine lv_bipush (v := 6) hx hb dX1_init_13 (by decide) ?_
  refine va_newa (atype := .int) (ty := .int) (a0 := (6, .inl (fun _ => 0))) (N' := 6) hx hb (hts _ k_X1_init_3) rfl hK hP hD hS hA (fun cA => vp_cell_i cA 6 (fun _ => 0)) (by decide) (by decide +kernel) (by decide +kernel) (Nat.le_of_ble_eq_true rfl) (Nat.le_of_ble_eq_true rfl) dX1_init_15 (fun q2 cA H hK2 hP hD hS => ?_)
  have ec : cA = ca 0 := Option.some.inj (((hK2.2 6 _ rfl).2).symm.trans (hK.2 0 _ rfl).2)
  subst ec
  have hP : va_P G vwCl [(a_t, .inr (1, [.ref q1, .null, .null, .null, .null, .null, .int 0, .int 0])), (q1, .inl (ca 0, 6, .inl (fun _ => 0))), (q2, .inl (ca 0, 6, .inl (fun _ => 0)))] H := hP
  have hD : va_D A [(a_t, .inr (1, [.ref q1, .null, .null, .null, .null, .null, .int 0, .int 0])), (q1, .inl (ca 0, 6, .inl (fun _ => 0))), (q2, .inl (ca 0, 6, .inl (fun _ => 0)))] := hD
  refine va_putF (D := G) (ci := 1) (v := .ref q2) (ty := (.array .int)) (C := RX1) (T := TX1) (N := 8) hx hb hts i_X1_init_X1 tyX1 tyX1_ok nmX1 hown hK hP hD hS 0 rfl rfl 1 (by decide) (hts _ k_X1_init_6) (fun _ h9 => h9) rfl hin rfl (by decide +kernel) rfl rfl (Nat.le_of_ble_eq_true rfl) dX1_init_17 (fun H locs hP hD hS => ?_)
  have hP : va_P G vwCl [(a_t, .inr (1, [.ref q1, .ref q2, .null, .null, .null, .null, .int 0, .int 0])), (q1, .inl (ca 0, 6, .inl (fun _ => 0))), (q2, .inl (ca 0, 6, .inl (fun _ => 0)))] H := hP
  have hD : va_D A [(a_t, .inr (1, [.ref q1, .ref q2, .null, .null, .null, .null, .int 0, .int 0])), (q1, .inl (ca 0, 6, .inl (fun _ => 0))), (q2, .inl (ca 0, 6, .inl (fun _ => 0)))] := hD
  refine lv_aload_n hx hb dX1_init_20 rfl (lv_at hl 0 rfl) ?_
  refine lv_bipush (v := 40) hx hb dX1_init_21 (by decide) ?_
  refine va_newa (atype := .int) (ty := .int) (a0 := (40, .inl (fun _ => 0))) (N' := 40) hx hb (hts _ k_X1_init_3) rfl hK hP hD hS hA (fun cA => vp_cell_i cA 40 (fun _ => 0)) (by decide) (by decide +kernel) (by decide +kernel) (Nat.le_of_ble_eq_true rfl) (Nat.le_of_ble_eq_true rfl) dX1_init_23 (fun q3 cA H hK2 hP hD hS => ?_)
  have ec : cA = ca 0 := Option.some.inj (((hK2.2 6 _ rfl).2).symm.trans (hK.2 0 _ rfl).2)
  subst ec
  have hP : va_P G vwCl [(a_t, .inr (1, [.ref q1, .ref q2, .null, .null, .null, .null, .int 0, .int 0])), (q1, .inl (ca 0, 6, .inl (fun _ => 0))), (q2, .inl (ca 0, 6, .inl (fun _ => 0))), (q3, .inl (ca 0, 40, .inl (fun _ => 0)))] H := hP
  have hD : va_D A [(a_t, .inr (1, [.ref q1, .ref q2, .null, .null, .null, .null, .int 0, .int 0])), (q1, .inl (ca 0, 6, .inl (fun _ => 0))), (q2, .inl (ca 0, 6, .inl (fun _ => 0))), (q3, .inl (ca 0, 40, .inl (fun _ => 0)))] := hD
  refine va_putF (D := G) (ci := 1) (v := .ref q3) (ty := (.array .int)) (C := RX1) (T := TX1) (N := 8) hx hb hts i_X1_init_X1 tyX1 tyX1_ok nmX1 hown hK hP hD hS 0 rfl rfl 2 (by decide) (hts _ k_X1_init_7) (fun _ h9 => h9) rfl hin rfl (by decide +kernel) rfl rfl (Nat.le_of_ble_eq_true rfl) dX1_init_25 (fun H locs hP hD hS => ?_)
  have hP : va_P G vwCl [(a_t, .inr (1, [.ref q1, .ref q2, .ref q3, .null, .null, .null, .int 0, .int 0])), (q1, .inl (ca 0, 6, .inl (fun _ => 0))), (q2, .inl (ca 0, 6, .inl (fun _ => 0))), (q3, .inl (ca 0, 40, .inl (fun _ => 0)))] H := hP
  have hD : va_D A [(a_t, .inr (1, [.ref q1, .ref q2, .ref q3, .null, .null, .null, .int 0, .int 0])), (q1, .inl (ca 0, 6, .inl (fun _ => 0))), (q2, .inl (ca 0, 6, .inl (fun _ => 0))), (q3, .inl (ca 0, 40, .inl (fun _ => 0)))] := hD
  refine lv_aload_n hx hb dX1_init_28 rfl (lv_at hl 0 rfl) ?_
  refine lv_bipush (v := 6) hx hb dX1_init_29 (by decide) ?_
  refine va_newa (atype := .int) (ty := .int) (a0 := (6, .inl (fun _ => 0))) (N' := 6) hx hb (hts _ k_X1_init_3) rfl hK hP hD hS hA (fun cA => vp_cell_i cA 6 (fun _ => 0)) (by decide) (by decide +kernel) (by decide +kernel) (Nat.le_of_ble_eq_true rfl) (Nat.le_of_ble_eq_true rfl) dX1_init_31 (fun q4 cA H hK2 hP hD hS => ?_)
  have ec : cA = ca 0 := Option.some.inj (((hK2.2 6 _ rfl).2).symm.trans (hK.2 0 _ rfl).2)
  subst ec
  have hP : va_P G vwCl [(a_t, .inr (1, [.ref q1, .ref q2, .ref q3, .null, .null, .null, .int 0, .int 0])), (q1, .inl (ca 0, 6, .inl (fun _ => 0))), (q2, .inl (ca 0, 6, .inl (fun _ => 0))), (q3, .inl (ca 0, 40, .inl (fun _ => 0))), (q4, .inl (ca 0, 6, .inl (fun _ => 0)))] H := hP
  have hD : va_D A [(a_t, .inr (1, [.ref q1, .ref q2, .ref q3, .null, .null, .null, .int 0, .int 0])), (q1, .inl (ca 0, 6, .inl (fun _ => 0))), (q2, .inl (ca 0, 6, .inl (fun _ => 0))), (q3, .inl (ca 0, 40, .inl (fun _ => 0))), (q4, .inl (ca 0, 6, .inl (fun _ => 0)))] := hD
  refine va_putF (D := G) (ci := 1) (v := .ref q4) (ty := (.array .int)) (C := RX1) (T := TX1) (N := 8) hx hb hts i_X1_init_X1 tyX1 tyX1_ok nmX1 hown hK hP hD hS 0 rfl rfl 3 (by decide) (hts _ k_X1_init_8) (fun _ h9 => h9) rfl hin rfl (by decide +kernel) rfl rfl (Nat.le_of_ble_eq_true rfl) dX1_init_33 (fun H locs hP hD hS => ?_)
  have hP : va_P G vwCl [(a_t, .inr (1, [.ref q1, .ref q2, .ref q3, .ref q4, .null, .null, .int 0, .int 0])), (q1, .inl (ca 0, 6, .inl (fun _ => 0))), (q2, .inl (ca 0, 6, .inl (fun _ => 0))), (q3, .inl (ca 0, 40, .inl (fun _ => 0))), (q4, .inl (ca 0, 6, .inl (fun _ => 0)))] H := hP
  have hD : va_D A [(a_t, .inr (1, [.ref q1, .ref q2, .ref q3, .ref q4, .null, .null, .int 0, .int 0])), (q1, .inl (ca 0, 6, .inl (fun _ => 0))), (q2, .inl (ca 0, 6, .inl (fun _ => 0))), (q3, .inl (ca 0, 40, .inl (fun _ => 0))), (q4, .inl (ca 0, 6, .inl (fun _ => 0)))] := hD
  refine lv_aload_n hx hb dX1_init_36 rfl (lv_at hl 0 rfl) ?_
  refine lv_bipush (v := 6) hx hb dX1_init_37 (by decide) ?_
  refine va_newa (atype := .int) (ty := .int) (a0 := (6, .inl (fun _ => 0))) (N' := 6) hx hb (hts _ k_X1_init_3) rfl hK hP hD hS hA (fun cA => vp_cell_i cA 6 (fun _ => 0)) (by decide) (by decide +kernel) (by decide +kernel) (Nat.le_of_ble_eq_true rfl) (Nat.le_of_ble_eq_true rfl) dX1_init_39 (fun q5 cA H hK2 hP hD hS => ?_)
  have ec : cA = ca 0 := Option.some.inj (((hK2.2 6 _ rfl).2).symm.trans (hK.2 0 _ rfl).2)
  subst ec
  have hP : va_P G vwCl [(a_t, .inr (1, [.ref q1, .ref q2, .ref q3, .ref q4, .null, .null, .int 0, .int 0])), (q1, .inl (ca 0, 6, .inl (fun _ => 0))), (q2, .inl (ca 0, 6, .inl (fun _ => 0))), (q3, .inl (ca 0, 40, .inl (fun _ => 0))), (q4, .inl (ca 0, 6, .inl (fun _ => 0))), (q5, .inl (ca 0, 6, .inl (fun _ => 0)))] H := hP
  have hD : va_D A [(a_t, .inr (1, [.ref q1, .ref q2, .ref q3, .ref q4, .null, .null, .int 0, .int 0])), (q1, .inl (ca 0, 6, .inl (fun _ => 0))), (q2, .inl (ca 0, 6, .inl (fun _ => 0))), (q3, .inl (ca 0, 40, .inl (fun _ => 0))), (q4, .inl (ca 0, 6, .inl (fun _ => 0))), (q5, .inl (ca 0, 6, .inl (fun _ => 0)))] := hD
  refine va_putF (D := G) (ci := 1) (v := .ref q5) (ty := (.array .int)) (C := RX1) (T := TX1) (N := 8) hx hb hts i_X1_init_X1 tyX1 tyX1_ok nmX1 hown hK hP hD hS 0 rfl rfl 4 (by decide) (hts _ k_X1_init_9) (fun _ h9 => h9) rfl hin rfl (by decide +kernel) rfl rfl (Nat.le_of_ble_eq_true rfl) dX1_init_41 (fun H locs hP hD hS => ?_)
  have hP : va_P G vwCl [(a_t, .inr (1, [.ref q1, .ref q2, .ref q3, .ref q4, .ref q5, .null, .int 0, .int 0])), (q1, .inl (ca 0, 6, .inl (fun _ => 0))), (q2, .inl (ca 0, 6, .inl (fun _ => 0))), (q3, .inl (ca 0, 40, .inl (fun _ => 0))), (q4, .inl (ca 0, 6, .inl (fun _ => 0))), (q5, .inl (ca 0, 6, .inl (fun _ => 0)))] H := hP
  have hD : va_D A [(a_t, .inr (1, [.ref q1, .ref q2, .ref q3, .ref q4, .ref q5, .null, .int 0, .int 0])), (q1, .inl (ca 0, 6, .inl (fun _ => 0))), (q2, .inl (ca 0, 6, .inl (fun _ => 0))), (q3, .inl (ca 0, 40, .inl (fun _ => 0))), (q4, .inl (ca 0, 6, .inl (fun _ => 0))), (q5, .inl (ca 0, 6, .inl (fun _ => 0)))] := hD
  refine lv_aload_n hx hb dX1_init_44 rfl (lv_at hl 0 rfl) ?_
  refine lv_iconst (v := 3) hx hb dX1_init_45 (by decide) ?_
  refine va_newa (atype := .int) (ty := .int) (a0 := (3, .inl (fun _ => 0))) (N' := 3) hx hb (hts _ k_X1_init_3) rfl hK hP hD hS hA (fun cA => vp_cell_i cA 3 (fun _ => 0)) (by decide) (by decide +kernel) (by decide +kernel) (Nat.le_of_ble_eq_true rfl) (Nat.le_of_ble_eq_true rfl) dX1_init_46 (fun q6 cA H hK2 hP hD hS => ?_)
  have ec : cA = ca 0 := Option.some.inj (((hK2.2 6 _ rfl).2).symm.trans (hK.2 0 _ rfl).2)
  subst ec
  have hP : va_P G vwCl [(a_t, .inr (1, [.ref q1, .ref q2, .ref q3, .ref q4, .ref q5, .null, .int 0, .int 0])), (q1, .inl (ca 0, 6, .inl (fun _ => 0))), (q2, .inl (ca 0, 6, .inl (fun _ => 0))), (q3, .inl (ca 0, 40, .inl (fun _ => 0))), (q4, .inl (ca 0, 6, .inl (fun _ => 0))), (q5, .inl (ca 0, 6, .inl (fun _ => 0))), (q6, .inl (ca 0, 3, .inl (fun _ => 0)))] H := hP
  have hD : va_D A [(a_t, .inr (1, [.ref q1, .ref q2, .ref q3, .ref q4, .ref q5, .null, .int 0, .int 0])), (q1, .inl (ca 0, 6, .inl (fun _ => 0))), (q2, .inl (ca 0, 6, .inl (fun _ => 0))), (q3, .inl (ca 0, 40, .inl (fun _ => 0))), (q4, .inl (ca 0, 6, .inl (fun _ => 0))), (q5, .inl (ca 0, 6, .inl (fun _ => 0))), (q6, .inl (ca 0, 3, .inl (fun _ => 0)))] := hD
  refine va_putF (D := G) (ci := 1) (v := .ref q6) (ty := (.array .int)) (C := RX1) (T := TX1) (N := 8) hx hb hts i_X1_init_X1 tyX1 tyX1_ok nmX1 hown hK hP hD hS 0 rfl rfl 5 (by decide) (hts _ k_X1_init_10) (fun _ h9 => h9) rfl hin rfl (by decide +kernel) rfl rfl (Nat.le_of_ble_eq_true rfl) dX1_init_48 (fun H locs hP hD hS => ?_)
  have hP : va_P G vwCl [(a_t, .inr (1, [.ref q1, .ref q2, .ref q3, .ref q4, .ref q5, .ref q6, .int 0, .int 0])), (q1, .inl (ca 0, 6, .inl (fun _ => 0))), (q2, .inl (ca 0, 6, .inl (fun _ => 0))), (q3, .inl (ca 0, 40, .inl (fun _ => 0))), (q4, .inl (ca 0, 6, .inl (fun _ => 0))), (q5, .inl (ca 0, 6, .inl (fun _ => 0))), (q6, .inl (ca 0, 3, .inl (fun _ => 0)))] H := hP
  have hD : va_D A [(a_t, .inr (1, [.ref q1, .ref q2, .ref q3, .ref q4, .ref q5, .ref q6, .int 0, .int 0])), (q1, .inl (ca 0, 6, .inl (fun _ => 0))), (q2, .inl (ca 0, 6, .inl (fun _ => 0))), (q3, .inl (ca 0, 40, .inl (fun _ => 0))), (q4, .inl (ca 0, 6, .inl (fun _ => 0))), (q5, .inl (ca 0, 6, .inl (fun _ => 0))), (q6, .inl (ca 0, 3, .inl (fun _ => 0)))] := hD
  have hP : va_P G vwCl [(a_t, .inr (1, [.ref q1, .ref q2, .ref q3, .ref q4, .ref q5, .ref q6, .int 0, .int 0])), (q1, .inl (ca 0, 6, .inl (fun _ => 0))), (q2, .inl (ca 0, 6, .inl (fun _ => 0))), (q3, .inl (ca 0, 40, .inl (fun _ => 0))), (q4, .inl (ca 0, 6, .inl (fun _ => 0))), (q5, .inl (ca 0, 6, .inl (fun _ => 0))), (q6, .inl (ca 0, 3, .inl (fun _ => 0)))] H := hP.sub [0, 1, 2, 3, 4, 5, 6] rfl
  have hD : va_D A [(a_t, .inr (1, [.ref q1, .ref q2, .ref q3, .ref q4, .ref q5, .ref q6, .int 0, .int 0])), (q1, .inl (ca 0, 6, .inl (fun _ => 0))), (q2, .inl (ca 0, 6, .inl (fun _ => 0))), (q3, .inl (ca 0, 40, .inl (fun _ => 0))), (q4, .inl (ca 0, 6, .inl (fun _ => 0))), (q5, .inl (ca 0, 6, .inl (fun _ => 0))), (q6, .inl (ca 0, 3, .inl (fun _ => 0)))] := hD.sub [0, 1, 2, 3, 4, 5, 6] (by decide) rfl
  refine W.widen (k := 6) (n := 67) (Nat.le_of_ble_eq_true rfl) (Nat.le_of_ble_eq_true rfl) ?_
  exact W.vret hx hb hr (fun t ht hW => ⟨⟨(fun k => match k with | 0 => q1 | 1 => q2 | 2 => q3 | 3 => q4 | 4 => q5 | 5 => q6 | _ => 0), rfl, trivial, by rw [ht]; exact hP, hD⟩, hS.F ht⟩) hS.2.2 dX1_init_51

/-! X10_init -/
abbrev RM_X10_init : Room := { frames := 1, cells := 1, slots := 13, locals := 12 }
theorem k_X10_init_0 : Cond.code objectInit ⟨#[0xb1]⟩ 1 none ∈ wsX10_init := by decide +kernel
theorem k_X10_init_1 : Cond.methodLink RX10 3 objectInit ∈ wsX10_init := by decide +kernel
theorem k_X10_init_2 : Cond.instanceMethod objectInit ∈ wsX10_init := by decide +kernel
theorem k_X10_init_3 : Cond.arrayClass .long ∈ wsX10_init := by decide +kernel
theorem i_X10_init_X10 : ∀ w ∈ u_ws RX10 TX10 1, w ∈ wsX10_init := by decide +kernel
theorem k_X10_init_5 : Cond.fieldLink RX10 9 "DropDealers$SongOdds" "ways" "[J" ∈ wsX10_init := by decide +kernel
set_option maxHeartbeats 4000000 in
set_option maxRecDepth 100000 in
theorem c_X10_init (l : Launch) (G : va_G) (ca : Nat → ClassId) (ad av : Nat → Nat) (sz : Nat) (a_t : Nat) : Met l yX10_init wsX10_init RM_X10_init (va_Pc [.ref a_t] (PW_ G ca ad av sz [(a_t, .inr (10, [.null]))])) (QN_ G (va_A [(a_t, .inr (10, [.null]))] sz) (fun u => [(a_t, .inr (10, [.ref (u 0)])), ((u 0), .inl (ca 1, 13, .inr (.inl (fun _ => 0))))])) 1 13 (va_A [(a_t, .inr (10, [.null]))] sz) := by
  refine Met.ofW (cc := cX10_init) (maxL := 1) (ret := none) (by decide) rfl ?_
  intro p e s m args below meth c s₁ B hml hv
  obtain ⟨X0, rfl, rfl, hP, hD⟩ := en_t B hml hv
  obtain ⟨hx, hb, hr, hml, hown, hts, hlocks, hK, hA, hE⟩ := X0
  have hin : meth.name = "<init>" := (name_of_methodNamed B.named B.method).1
  have hS : va_S (va_A [(a_t, .inr (10, [.null]))] s.heap.size) s.heap s.heap [] := va_S.rf
  generalize va_A [(a_t, .inr (10, [.null]))] s.heap.size = A at hD hS hA hE ⊢
  have hl := lv_entry ([.ref a_t]) (n := 1) (Nat.le_of_ble_eq_true rfl)
  rw [lg_entry_eq]
  generalize (lg_sl ([.ref a_t]) ++ List.replicate (1 - (lg_sl ([.ref a_t])).length) Slot.unset).toArray = ls at hl ⊢
  refine lv_aload_n hx hb dX10_init_0 rfl (lv_at hl 0 rfl) ?_
  refine W.objInit hx hb hown (hts _ k_X10_init_1) (hts _ k_X10_init_2) (hts _ k_X10_init_0) rfl (by rw [hml]; exact hl.1) rfl dX10_init_1 (Nat.le_of_ble_eq_true rfl) (Nat.le_of_ble_eq_true rfl) ?_
  refine W.eq (g2 := F0 m 4 ls []) rfl ?_
  refine lv_aload_n hx hb dX10_init_4 rfl (lv_at hl 0 rfl) ?_
  refine lv_bipush (v := 13) hx hb dX10_init_5 (by decide) ?_
  refine va_newa (atype := .long) (ty := .long) (a0 := (13, .inr (.inl (fun _ => 0)))) (N' := 13) hx hb (hts _ k_X10_init_3) rfl hK hP hD hS hA (fun cA => vp_cell_l cA 13 (fun _ => 0)) (by decide) (by decide +kernel) (by decide +kernel) (Nat.le_of_ble_eq_true rfl) (Nat.le_of_ble_eq_true rfl) dX10_init_7 (fun q1 cA H hK2 hP hD hS => ?_)
  have ec : cA = ca 1 := Option.some.inj (((hK2.2 6 _ rfl).2).symm.trans (hK.2 1 _ rfl).2)
  subst ec
  have hP : va_P G vwCl [(a_t, .inr (10, [.null])), (q1, .inl (ca 1, 13, .inr (.inl (fun _ => 0))))] H := hP
  have hD : va_D A [(a_t, .inr (10, [.null])), (q1, .inl (ca 1, 13, .inr (.inl (fun _ => 0))))] := hD
  refine va_putF (D := G) (ci := 10) (v := .ref q1) (ty := (.array .long)) (C := RX10) (T := TX10) (N := 1) hx hb hts i_X10_init_X10 tyX10 tyX10_ok nmX10 hown hK hP hD hS 0 rfl rfl 0 (by decide) (hts _ k_X10_init_5) (fun _ h9 => h9) rfl hin rfl (by decide +kernel) rfl rfl (Nat.le_of_ble_eq_true rfl) dX10_init_9 (fun H locs hP hD hS => ?_)
  have hP : va_P G vwCl [(a_t, .inr (10, [.ref q1])), (q1, .inl (ca 1, 13, .inr (.inl (fun _ => 0))))] H := hP
  have hD : va_D A [(a_t, .inr (10, [.ref q1])), (q1, .inl (ca 1, 13, .inr (.inl (fun _ => 0))))] := hD
  have hP : va_P G vwCl [(a_t, .inr (10, [.ref q1])), (q1, .inl (ca 1, 13, .inr (.inl (fun _ => 0))))] H := hP.sub [0, 1] rfl
  have hD : va_D A [(a_t, .inr (10, [.ref q1])), (q1, .inl (ca 1, 13, .inr (.inl (fun _ => 0))))] := hD.sub [0, 1] (by decide) rfl
  refine W.widen (k := 1) (n := 13) (Nat.le_of_ble_eq_true rfl) (Nat.le_of_ble_eq_true rfl) ?_
  exact W.vret hx hb hr (fun t ht hW => ⟨⟨(fun k => match k with | 0 => q1 | _ => 0), rfl, trivial, by rw [ht]; exact hP, hD⟩, hS.F ht⟩) hS.2.2 dX10_init_12

/-! X4_init -/
abbrev RM_X4_init : Room := { frames := 1, cells := 0, slots := 0, locals := 12 }
theorem k_X4_init_0 : Cond.code objectInit ⟨#[0xb1]⟩ 1 none ∈ wsX4_init := by decide +kernel
theorem k_X4_init_1 : Cond.methodLink RX4 1 objectInit ∈ wsX4_init := by decide +kernel
theorem k_X4_init_2 : Cond.instanceMethod objectInit ∈ wsX4_init := by decide +kernel
set_option maxHeartbeats 4000000 in
set_option maxRecDepth 100000 in
theorem c_X4_init (l : Launch) (G : va_G) (ca : Nat → ClassId) (ad av : Nat → Nat) (sz : Nat) (a_t : Nat) : Met l yX4_init wsX4_init RM_X4_init (va_Pc [.ref a_t] (PW_ G ca ad av sz [(a_t, .inr (4, [.long 0]))])) (QN_ G (va_A [(a_t, .inr (4, [.long 0]))] sz) (fun u => [(a_t, .inr (4, [.long 0]))])) 0 0 (va_A [(a_t, .inr (4, [.long 0]))] sz) := by
  refine Met.ofW (cc := cX4_init) (maxL := 1) (ret := none) (by decide) rfl ?_
  intro p e s m args below meth c s₁ B hml hv
  obtain ⟨X0, rfl, rfl, hP, hD⟩ := en_t B hml hv
  obtain ⟨hx, hb, hr, hml, hown, hts, hlocks, hK, hA, hE⟩ := X0
  have hin : meth.name = "<init>" := (name_of_methodNamed B.named B.method).1
  have hS : va_S (va_A [(a_t, .inr (4, [.long 0]))] s.heap.size) s.heap s.heap [] := va_S.rf
  generalize va_A [(a_t, .inr (4, [.long 0]))] s.heap.size = A at hD hS hA hE ⊢
  have hl := lv_entry ([.ref a_t]) (n := 1) (Nat.le_of_ble_eq_true rfl)
  rw [lg_entry_eq]
  generalize (lg_sl ([.ref a_t]) ++ List.replicate (1 - (lg_sl ([.ref a_t])).length) Slot.unset).toArray = ls at hl ⊢
  refine lv_aload_n hx hb dX4_init_0 rfl (lv_at hl 0 rfl) ?_
  refine W.objInit hx hb hown (hts _ k_X4_init_1) (hts _ k_X4_init_2) (hts _ k_X4_init_0) rfl (by rw [hml]; exact hl.1) rfl dX4_init_1 (Nat.le_of_ble_eq_true rfl) (Nat.le_of_ble_eq_true rfl) ?_
  refine W.eq (g2 := F0 m 4 ls []) rfl ?_
  refine W.widen (k := 0) (n := 0) (Nat.le_of_ble_eq_true rfl) (Nat.le_of_ble_eq_true rfl) ?_
  exact W.vret hx hb hr (fun t ht hW => ⟨⟨(fun _ => 0), rfl, trivial, by rw [ht]; exact hP, hD⟩, hS.F ht⟩) hS.2.2 dX4_init_4

/-! X4_init_X0 -/
abbrev RM_X4_init_X0 : Room := { frames := 1, cells := 0, slots := 0, locals := 12 }
theorem k_X4_init_X0_0 : Cond.code objectInit ⟨#[0xb1]⟩ 1 none ∈ wsX4_init := by decide +kernel
theorem k_X4_init_X0_1 : Cond.methodLink RX4 1 objectInit ∈ wsX4_init := by decide +kernel
theorem k_X4_init_X0_2 : Cond.instanceMethod objectInit ∈ wsX4_init := by decide +kernel
set_option maxHeartbeats 4000000 in
set_option maxRecDepth 100000 in
theorem c_X4_init_X0 (l : Launch) (G : va_G) (ca : Nat → ClassId) (ad av : Nat → Nat) (sz : Nat) (a_t : Nat) : Met l yX4_init wsX4_init RM_X4_init_X0 (va_Pc [.ref a_t] (PW_ G ca ad av sz [(a_t, .inr (0, [.long 0]))])) (QN_ G (va_A [(a_t, .inr (0, [.long 0]))] sz) (fun u => [(a_t, .inr (0, [.long 0]))])) 0 0 (va_A [(a_t, .inr (0, [.long 0]))] sz) := by
  refine Met.ofW (cc := cX4_init) (maxL := 1) (ret := none) (by decide) rfl ?_
  intro p e s m args below meth c s₁ B hml hv
  obtain ⟨X0, rfl, rfl, hP, hD⟩ := en_t B hml hv
  obtain ⟨hx, hb, hr, hml, hown, hts, hlocks, hK, hA, hE⟩ := X0
  have hin : meth.name = "<init>" := (name_of_methodNamed B.named B.method).1
  have hS : va_S (va_A [(a_t, .inr (0, [.long 0]))] s.heap.size) s.heap s.heap [] := va_S.rf
  generalize va_A [(a_t, .inr (0, [.long 0]))] s.heap.size = A at hD hS hA hE ⊢
  have hl := lv_entry ([.ref a_t]) (n := 1) (Nat.le_of_ble_eq_true rfl)
  rw [lg_entry_eq]
  generalize (lg_sl ([.ref a_t]) ++ List.replicate (1 - (lg_sl ([.ref a_t])).length) Slot.unset).toArray = ls at hl ⊢
  refine lv_aload_n hx hb dX4_init_0 rfl (lv_at hl 0 rfl) ?_
  refine W.objInit hx hb hown (hts _ k_X4_init_X0_1) (hts _ k_X4_init_X0_2) (hts _ k_X4_init_X0_0) rfl (by rw [hml]; exact hl.1) rfl dX4_init_1 (Nat.le_of_ble_eq_true rfl) (Nat.le_of_ble_eq_true rfl) ?_
  refine W.eq (g2 := F0 m 4 ls []) rfl ?_
  refine W.widen (k := 0) (n := 0) (Nat.le_of_ble_eq_true rfl) (Nat.le_of_ble_eq_true rfl) ?_
  exact W.vret hx hb hr (fun t ht hW => ⟨⟨(fun _ => 0), rfl, trivial, by rw [ht]; exact hP, hD⟩, hS.F ht⟩) hS.2.2 dX4_init_4

/-! X0_init -/
abbrev RM_X0_init : Room := { frames := 2, cells := 0, slots := 0, locals := 32 }
theorem k_X0_init_0 : Cond.methodLinkNest RX0 1 yX4_init "DropDealers" ∈ nw_l := by decide +kernel
theorem k_X0_init_1 : Cond.initialized RX4 ∈ wsX0_init := by decide +kernel
theorem k_X0_init_2 : Cond.instanceMethod yX4_init ∈ wsX0_init := by decide +kernel
set_option maxHeartbeats 4000000 in
set_option maxRecDepth 100000 in
theorem c_X0_init (l : Launch) (G : va_G) (ca : Nat → ClassId) (ad av : Nat → Nat) (sz : Nat) (a_t : Nat) : Met l yX0_init wsX0_init RM_X0_init (va_Pc [.ref a_t] (PW_ G ca ad av sz [(a_t, .inr (0, [.long 0]))])) (QN_ G (va_A [(a_t, .inr (0, [.long 0]))] sz) (fun u => [(a_t, .inr (0, [.long 0]))])) 0 0 (va_A [(a_t, .inr (0, [.long 0]))] sz) := by
  refine Met.ofW (cc := cX0_init) (maxL := 1) (ret := none) (by decide) rfl ?_
  intro p e s m args below meth c s₁ B hml hv
  obtain ⟨X0, rfl, rfl, hP, hD⟩ := en_t B hml hv
  obtain ⟨hx, hb, hr, hml, hown, hts, hlocks, hK, hA, hE⟩ := X0
  have hin : meth.name = "<init>" := (name_of_methodNamed B.named B.method).1
  have hS : va_S (va_A [(a_t, .inr (0, [.long 0]))] s.heap.size) s.heap s.heap [] := va_S.rf
  generalize va_A [(a_t, .inr (0, [.long 0]))] s.heap.size = A at hD hS hA hE ⊢
  have hl := lv_entry ([.ref a_t]) (n := 1) (Nat.le_of_ble_eq_true rfl)
  rw [lg_entry_eq]
  generalize (lg_sl ([.ref a_t]) ++ List.replicate (1 - (lg_sl ([.ref a_t])).length) Slot.unset).toArray = ls at hl ⊢
  refine lv_aload_n hx hb dX0_init_0 rfl (lv_at hl 0 rfl) ?_
  refine jn_n (wr := []) (va_runIN (As := []) (rest := []) ⟨hx, hb, hml, hown, hts⟩ (c_X4_init_X0 l G ca ad av s.heap.size a_t) ⟨va_cnB 0 hts gX0_init_X4_init_n1 rfl rfl rfl (hE.1 _ k_X0_init_0) (hts _ k_X0_init_1) (by decide +kernel) ⟨Nat.le_of_ble_eq_true rfl, Nat.le_of_ble_eq_true rfl⟩, rfl, (hts _ k_X0_init_2)⟩ (pre_s hK hE hA hP hD hS [0] rfl (by decide)) rfl rfl hl.1 rfl (lv_room (Nat.le_of_ble_eq_true rfl)) dX0_init_1 ⟨Nat.le_of_ble_eq_true rfl, Nat.le_of_ble_eq_true rfl⟩) hA hP hD hS [0] [] rfl rfl (by decide) (by decide) (fun u1 H locs hP hD hS => ?_)
  have hP : va_P G vwCl [(a_t, .inr (0, [.long 0]))] H := hP
  have hD : va_D A [(a_t, .inr (0, [.long 0]))] := hD
  refine W.widen (k := 0) (n := 0) (Nat.le_of_ble_eq_true rfl) (Nat.le_of_ble_eq_true rfl) ?_
  exact W.vret hx hb hr (fun t ht hW => ⟨⟨(fun _ => 0), rfl, trivial, by rw [ht]; exact hP, hD⟩, hS.F ht⟩) hS.2.2 dX0_init_4

/-! X4_init_X5 -/
abbrev RM_X4_init_X5 : Room := { frames := 1, cells := 0, slots := 0, locals := 12 }
theorem k_X4_init_X5_0 : Cond.code objectInit ⟨#[0xb1]⟩ 1 none ∈ wsX4_init := by decide +kernel
theorem k_X4_init_X5_1 : Cond.methodLink RX4 1 objectInit ∈ wsX4_init := by decide +kernel
theorem k_X4_init_X5_2 : Cond.instanceMethod objectInit ∈ wsX4_init := by decide +kernel
set_option maxHeartbeats 4000000 in
set_option maxRecDepth 100000 in
theorem c_X4_init_X5 (l : Launch) (G : va_G) (ca : Nat → ClassId) (ad av : Nat → Nat) (sz : Nat) (a_t : Nat) : Met l yX4_init wsX4_init RM_X4_init_X5 (va_Pc [.ref a_t] (PW_ G ca ad av sz [(a_t, .inr (5, [.long 0]))])) (QN_ G (va_A [(a_t, .inr (5, [.long 0]))] sz) (fun u => [(a_t, .inr (5, [.long 0]))])) 0 0 (va_A [(a_t, .inr (5, [.long 0]))] sz) := by
  refine Met.ofW (cc := cX4_init) (maxL := 1) (ret := none) (by decide) rfl ?_
  intro p e s m args below meth c s₁ B hml hv
  obtain ⟨X0, rfl, rfl, hP, hD⟩ := en_t B hml hv
  obtain ⟨hx, hb, hr, hml, hown, hts, hlocks, hK, hA, hE⟩ := X0
  have hin : meth.name = "<init>" := (name_of_methodNamed B.named B.method).1
  have hS : va_S (va_A [(a_t, .inr (5, [.long 0]))] s.heap.size) s.heap s.heap [] := va_S.rf
  generalize va_A [(a_t, .inr (5, [.long 0]))] s.heap.size = A at hD hS hA hE ⊢
  have hl := lv_entry ([.ref a_t]) (n := 1) (Nat.le_of_ble_eq_true rfl)
  rw [lg_entry_eq]
  generalize (lg_sl ([.ref a_t]) ++ List.replicate (1 - (lg_sl ([.ref a_t])).length) Slot.unset).toArray = ls at hl ⊢
  refine lv_aload_n hx hb dX4_init_0 rfl (lv_at hl 0 rfl) ?_
  refine W.objInit hx hb hown (hts _ k_X4_init_X5_1) (hts _ k_X4_init_X5_2) (hts _ k_X4_init_X5_0) rfl (by rw [hml]; exact hl.1) rfl dX4_init_1 (Nat.le_of_ble_eq_true rfl) (Nat.le_of_ble_eq_true rfl) ?_
  refine W.eq (g2 := F0 m 4 ls []) rfl ?_
  refine W.widen (k := 0) (n := 0) (Nat.le_of_ble_eq_true rfl) (Nat.le_of_ble_eq_true rfl) ?_
  exact W.vret hx hb hr (fun t ht hW => ⟨⟨(fun _ => 0), rfl, trivial, by rw [ht]; exact hP, hD⟩, hS.F ht⟩) hS.2.2 dX4_init_4

/-! X5_init -/
abbrev RM_X5_init : Room := { frames := 2, cells := 0, slots := 0, locals := 32 }
theorem k_X5_init_0 : Cond.methodLinkNest RX5 1 yX4_init "DropDealers" ∈ nw_l := by decide +kernel
theorem k_X5_init_1 : Cond.initialized RX4 ∈ wsX5_init := by decide +kernel
theorem k_X5_init_2 : Cond.instanceMethod yX4_init ∈ wsX5_init := by decide +kernel
set_option maxHeartbeats 4000000 in
set_option maxRecDepth 100000 in
theorem c_X5_init (l : Launch) (G : va_G) (ca : Nat → ClassId) (ad av : Nat → Nat) (sz : Nat) (a_t : Nat) : Met l yX5_init wsX5_init RM_X5_init (va_Pc [.ref a_t] (PW_ G ca ad av sz [(a_t, .inr (5, [.long 0]))])) (QN_ G (va_A [(a_t, .inr (5, [.long 0]))] sz) (fun u => [(a_t, .inr (5, [.long 0]))])) 0 0 (va_A [(a_t, .inr (5, [.long 0]))] sz) := by
  refine Met.ofW (cc := cX5_init) (maxL := 1) (ret := none) (by decide) rfl ?_
  intro p e s m args below meth c s₁ B hml hv
  obtain ⟨X0, rfl, rfl, hP, hD⟩ := en_t B hml hv
  obtain ⟨hx, hb, hr, hml, hown, hts, hlocks, hK, hA, hE⟩ := X0
  have hin : meth.name = "<init>" := (name_of_methodNamed B.named B.method).1
  have hS : va_S (va_A [(a_t, .inr (5, [.long 0]))] s.heap.size) s.heap s.heap [] := va_S.rf
  generalize va_A [(a_t, .inr (5, [.long 0]))] s.heap.size = A at hD hS hA hE ⊢
  have hl := lv_entry ([.ref a_t]) (n := 1) (Nat.le_of_ble_eq_true rfl)
  rw [lg_entry_eq]
  generalize (lg_sl ([.ref a_t]) ++ List.replicate (1 - (lg_sl ([.ref a_t])).length) Slot.unset).toArray = ls at hl ⊢
  refine lv_aload_n hx hb dX5_init_0 rfl (lv_at hl 0 rfl) ?_
  refine jn_n (wr := []) (va_runIN (As := []) (rest := []) ⟨hx, hb, hml, hown, hts⟩ (c_X4_init_X5 l G ca ad av s.heap.size a_t) ⟨va_cnB 0 hts gX5_init_X4_init_n1 rfl rfl rfl (hE.1 _ k_X5_init_0) (hts _ k_X5_init_1) (by decide +kernel) ⟨Nat.le_of_ble_eq_true rfl, Nat.le_of_ble_eq_true rfl⟩, rfl, (hts _ k_X5_init_2)⟩ (pre_s hK hE hA hP hD hS [0] rfl (by decide)) rfl rfl hl.1 rfl (lv_room (Nat.le_of_ble_eq_true rfl)) dX5_init_1 ⟨Nat.le_of_ble_eq_true rfl, Nat.le_of_ble_eq_true rfl⟩) hA hP hD hS [0] [] rfl rfl (by decide) (by decide) (fun u1 H locs hP hD hS => ?_)
  have hP : va_P G vwCl [(a_t, .inr (5, [.long 0]))] H := hP
  have hD : va_D A [(a_t, .inr (5, [.long 0]))] := hD
  refine W.widen (k := 0) (n := 0) (Nat.le_of_ble_eq_true rfl) (Nat.le_of_ble_eq_true rfl) ?_
  exact W.vret hx hb hr (fun t ht hW => ⟨⟨(fun _ => 0), rfl, trivial, by rw [ht]; exact hP, hD⟩, hS.F ht⟩) hS.2.2 dX5_init_4

/-! X4_init_X8 -/
abbrev RM_X4_init_X8 : Room := { frames := 1, cells := 0, slots := 0, locals := 12 }
theorem k_X4_init_X8_0 : Cond.code objectInit ⟨#[0xb1]⟩ 1 none ∈ wsX4_init := by decide +kernel
theorem k_X4_init_X8_1 : Cond.methodLink RX4 1 objectInit ∈ wsX4_init := by decide +kernel
theorem k_X4_init_X8_2 : Cond.instanceMethod objectInit ∈ wsX4_init := by decide +kernel
set_option maxHeartbeats 4000000 in
set_option maxRecDepth 100000 in
theorem c_X4_init_X8 (l : Launch) (G : va_G) (ca : Nat → ClassId) (ad av : Nat → Nat) (sz : Nat) (a_t : Nat) : Met l yX4_init wsX4_init RM_X4_init_X8 (va_Pc [.ref a_t] (PW_ G ca ad av sz [(a_t, .inr (8, [.long 0]))])) (QN_ G (va_A [(a_t, .inr (8, [.long 0]))] sz) (fun u => [(a_t, .inr (8, [.long 0]))])) 0 0 (va_A [(a_t, .inr (8, [.long 0]))] sz) := by
  refine Met.ofW (cc := cX4_init) (maxL := 1) (ret := none) (by decide) rfl ?_
  intro p e s m args below meth c s₁ B hml hv
  obtain ⟨X0, rfl, rfl, hP, hD⟩ := en_t B hml hv
  obtain ⟨hx, hb, hr, hml, hown, hts, hlocks, hK, hA, hE⟩ := X0
  have hin : meth.name = "<init>" := (name_of_methodNamed B.named B.method).1
  have hS : va_S (va_A [(a_t, .inr (8, [.long 0]))] s.heap.size) s.heap s.heap [] := va_S.rf
  generalize va_A [(a_t, .inr (8, [.long 0]))] s.heap.size = A at hD hS hA hE ⊢
  have hl := lv_entry ([.ref a_t]) (n := 1) (Nat.le_of_ble_eq_true rfl)
  rw [lg_entry_eq]
  generalize (lg_sl ([.ref a_t]) ++ List.replicate (1 - (lg_sl ([.ref a_t])).length) Slot.unset).toArray = ls at hl ⊢
  refine lv_aload_n hx hb dX4_init_0 rfl (lv_at hl 0 rfl) ?_
  refine W.objInit hx hb hown (hts _ k_X4_init_X8_1) (hts _ k_X4_init_X8_2) (hts _ k_X4_init_X8_0) rfl (by rw [hml]; exact hl.1) rfl dX4_init_1 (Nat.le_of_ble_eq_true rfl) (Nat.le_of_ble_eq_true rfl) ?_
  refine W.eq (g2 := F0 m 4 ls []) rfl ?_
  refine W.widen (k := 0) (n := 0) (Nat.le_of_ble_eq_true rfl) (Nat.le_of_ble_eq_true rfl) ?_
  exact W.vret hx hb hr (fun t ht hW => ⟨⟨(fun _ => 0), rfl, trivial, by rw [ht]; exact hP, hD⟩, hS.F ht⟩) hS.2.2 dX4_init_4

/-! X0_init_X8 -/
abbrev RM_X0_init_X8 : Room := { frames := 2, cells := 0, slots := 0, locals := 32 }
theorem k_X0_init_X8_0 : Cond.methodLinkNest RX0 1 yX4_init "DropDealers" ∈ nw_l := by decide +kernel
theorem k_X0_init_X8_1 : Cond.initialized RX4 ∈ wsX0_init := by decide +kernel
theorem k_X0_init_X8_2 : Cond.instanceMethod yX4_init ∈ wsX0_init := by decide +kernel
set_option maxHeartbeats 4000000 in
set_option maxRecDepth 100000 in
theorem c_X0_init_X8 (l : Launch) (G : va_G) (ca : Nat → ClassId) (ad av : Nat → Nat) (sz : Nat) (a_t : Nat) : Met l yX0_init wsX0_init RM_X0_init_X8 (va_Pc [.ref a_t] (PW_ G ca ad av sz [(a_t, .inr (8, [.long 0]))])) (QN_ G (va_A [(a_t, .inr (8, [.long 0]))] sz) (fun u => [(a_t, .inr (8, [.long 0]))])) 0 0 (va_A [(a_t, .inr (8, [.long 0]))] sz) := by
  refine Met.ofW (cc := cX0_init) (maxL := 1) (ret := none) (by decide) rfl ?_
  intro p e s m args below meth c s₁ B hml hv
  obtain ⟨X0, rfl, rfl, hP, hD⟩ := en_t B hml hv
  obtain ⟨hx, hb, hr, hml, hown, hts, hlocks, hK, hA, hE⟩ := X0
  have hin : meth.name = "<init>" := (name_of_methodNamed B.named B.method).1
  have hS : va_S (va_A [(a_t, .inr (8, [.long 0]))] s.heap.size) s.heap s.heap [] := va_S.rf
  generalize va_A [(a_t, .inr (8, [.long 0]))] s.heap.size = A at hD hS hA hE ⊢
  have hl := lv_entry ([.ref a_t]) (n := 1) (Nat.le_of_ble_eq_true rfl)
  rw [lg_entry_eq]
  generalize (lg_sl ([.ref a_t]) ++ List.replicate (1 - (lg_sl ([.ref a_t])).length) Slot.unset).toArray = ls at hl ⊢
  refine lv_aload_n hx hb dX0_init_0 rfl (lv_at hl 0 rfl) ?_
  refine jn_n (wr := []) (va_runIN (As := []) (rest := []) ⟨hx, hb, hml, hown, hts⟩ (c_X4_init_X8 l G ca ad av s.heap.size a_t) ⟨va_cnB 0 hts gX0_init_X4_init_n1 rfl rfl rfl (hE.1 _ k_X0_init_X8_0) (hts _ k_X0_init_X8_1) (by decide +kernel) ⟨Nat.le_of_ble_eq_true rfl, Nat.le_of_ble_eq_true rfl⟩, rfl, (hts _ k_X0_init_X8_2)⟩ (pre_s hK hE hA hP hD hS [0] rfl (by decide)) rfl rfl hl.1 rfl (lv_room (Nat.le_of_ble_eq_true rfl)) dX0_init_1 ⟨Nat.le_of_ble_eq_true rfl, Nat.le_of_ble_eq_true rfl⟩) hA hP hD hS [0] [] rfl rfl (by decide) (by decide) (fun u1 H locs hP hD hS => ?_)
  have hP : va_P G vwCl [(a_t, .inr (8, [.long 0]))] H := hP
  have hD : va_D A [(a_t, .inr (8, [.long 0]))] := hD
  refine W.widen (k := 0) (n := 0) (Nat.le_of_ble_eq_true rfl) (Nat.le_of_ble_eq_true rfl) ?_
  exact W.vret hx hb hr (fun t ht hW => ⟨⟨(fun _ => 0), rfl, trivial, by rw [ht]; exact hP, hD⟩, hS.F ht⟩) hS.2.2 dX0_init_4

/-! X8_init -/
abbrev RM_X8_init : Room := { frames := 3, cells := 0, slots := 0, locals := 52 }
theorem k_X8_init_0 : Cond.methodLinkNest RX8 1 yX0_init "DropDealers" ∈ nw_l := by decide +kernel
theorem k_X8_init_1 : Cond.initialized RX0 ∈ wsX8_init := by decide +kernel
theorem k_X8_init_2 : Cond.instanceMethod yX0_init ∈ wsX8_init := by decide +kernel
set_option maxHeartbeats 4000000 in
set_option maxRecDepth 100000 in
theorem c_X8_init (l : Launch) (G : va_G) (ca : Nat → ClassId) (ad av : Nat → Nat) (sz : Nat) (a_t : Nat) : Met l yX8_init wsX8_init RM_X8_init (va_Pc [.ref a_t] (PW_ G ca ad av sz [(a_t, .inr (8, [.long 0]))])) (QN_ G (va_A [(a_t, .inr (8, [.long 0]))] sz) (fun u => [(a_t, .inr (8, [.long 0]))])) 0 0 (va_A [(a_t, .inr (8, [.long 0]))] sz) := by
  refine Met.ofW (cc := cX8_init) (maxL := 1) (ret := none) (by decide) rfl ?_
  intro p e s m args below meth c s₁ B hml hv
  obtain ⟨X0, rfl, rfl, hP, hD⟩ := en_t B hml hv
  obtain ⟨hx, hb, hr, hml, hown, hts, hlocks, hK, hA, hE⟩ := X0
  have hin : meth.name = "<init>" := (name_of_methodNamed B.named B.method).1
  have hS : va_S (va_A [(a_t, .inr (8, [.long 0]))] s.heap.size) s.heap s.heap [] := va_S.rf
  generalize va_A [(a_t, .inr (8, [.long 0]))] s.heap.size = A at hD hS hA hE ⊢
  have hl := lv_entry ([.ref a_t]) (n := 1) (Nat.le_of_ble_eq_true rfl)
  rw [lg_entry_eq]
  generalize (lg_sl ([.ref a_t]) ++ List.replicate (1 - (lg_sl ([.ref a_t])).length) Slot.unset).toArray = ls at hl ⊢
  refine lv_aload_n hx hb dX8_init_0 rfl (lv_at hl 0 rfl) ?_
  refine jn_n (wr := []) (va_runIN (As := []) (rest := []) ⟨hx, hb, hml, hown, hts⟩ (c_X0_init_X8 l G ca ad av s.heap.size a_t) ⟨va_cnB 0 hts gX8_init_X0_init_n1 rfl rfl rfl (hE.1 _ k_X8_init_0) (hts _ k_X8_init_1) (by decide +kernel) ⟨Nat.le_of_ble_eq_true rfl, Nat.le_of_ble_eq_true rfl⟩, rfl, (hts _ k_X8_init_2)⟩ (pre_s hK hE hA hP hD hS [0] rfl (by decide)) rfl rfl hl.1 rfl (lv_room (Nat.le_of_ble_eq_true rfl)) dX8_init_1 ⟨Nat.le_of_ble_eq_true rfl, Nat.le_of_ble_eq_true rfl⟩) hA hP hD hS [0] [] rfl rfl (by decide) (by decide) (fun u1 H locs hP hD hS => ?_)
  have hP : va_P G vwCl [(a_t, .inr (8, [.long 0]))] H := hP
  have hD : va_D A [(a_t, .inr (8, [.long 0]))] := hD
  refine W.widen (k := 0) (n := 0) (Nat.le_of_ble_eq_true rfl) (Nat.le_of_ble_eq_true rfl) ?_
  exact W.vret hx hb hr (fun t ht hW => ⟨⟨(fun _ => 0), rfl, trivial, by rw [ht]; exact hP, hD⟩, hS.F ht⟩) hS.2.2 dX8_init_4

/-! X4_init_X2 -/
abbrev RM_X4_init_X2 : Room := { frames := 1, cells := 0, slots := 0, locals := 12 }
theorem k_X4_init_X2_0 : Cond.code objectInit ⟨#[0xb1]⟩ 1 none ∈ wsX4_init := by decide +kernel
theorem k_X4_init_X2_1 : Cond.methodLink RX4 1 objectInit ∈ wsX4_init := by decide +kernel
theorem k_X4_init_X2_2 : Cond.instanceMethod objectInit ∈ wsX4_init := by decide +kernel
set_option maxHeartbeats 4000000 in
set_option maxRecDepth 100000 in
theorem c_X4_init_X2 (l : Launch) (G : va_G) (ca : Nat → ClassId) (ad av : Nat → Nat) (sz : Nat) (a_t : Nat) : Met l yX4_init wsX4_init RM_X4_init_X2 (va_Pc [.ref a_t] (PW_ G ca ad av sz [(a_t, .inr (2, [.long 0]))])) (QN_ G (va_A [(a_t, .inr (2, [.long 0]))] sz) (fun u => [(a_t, .inr (2, [.long 0]))])) 0 0 (va_A [(a_t, .inr (2, [.long 0]))] sz) := by
  refine Met.ofW (cc := cX4_init) (maxL := 1) (ret := none) (by decide) rfl ?_
  intro p e s m args below meth c s₁ B hml hv
  obtain ⟨X0, rfl, rfl, hP, hD⟩ := en_t B hml hv
  obtain ⟨hx, hb, hr, hml, hown, hts, hlocks, hK, hA, hE⟩ := X0
  have hin : meth.name = "<init>" := (name_of_methodNamed B.named B.method).1
  have hS : va_S (va_A [(a_t, .inr (2, [.long 0]))] s.heap.size) s.heap s.heap [] := va_S.rf
  generalize va_A [(a_t, .inr (2, [.long 0]))] s.heap.size = A at hD hS hA hE ⊢
  have hl := lv_entry ([.ref a_t]) (n := 1) (Nat.le_of_ble_eq_true rfl)
  rw [lg_entry_eq]
  generalize (lg_sl ([.ref a_t]) ++ List.replicate (1 - (lg_sl ([.ref a_t])).length) Slot.unset).toArray = ls at hl ⊢
  refine lv_aload_n hx hb dX4_init_0 rfl (lv_at hl 0 rfl) ?_
  refine W.objInit hx hb hown (hts _ k_X4_init_X2_1) (hts _ k_X4_init_X2_2) (hts _ k_X4_init_X2_0) rfl (by rw [hml]; exact hl.1) rfl dX4_init_1 (Nat.le_of_ble_eq_true rfl) (Nat.le_of_ble_eq_true rfl) ?_
  refine W.eq (g2 := F0 m 4 ls []) rfl ?_
  refine W.widen (k := 0) (n := 0) (Nat.le_of_ble_eq_true rfl) (Nat.le_of_ble_eq_true rfl) ?_
  exact W.vret hx hb hr (fun t ht hW => ⟨⟨(fun _ => 0), rfl, trivial, by rw [ht]; exact hP, hD⟩, hS.F ht⟩) hS.2.2 dX4_init_4

/-! X5_init_X2 -/
abbrev RM_X5_init_X2 : Room := { frames := 2, cells := 0, slots := 0, locals := 32 }
theorem k_X5_init_X2_0 : Cond.methodLinkNest RX5 1 yX4_init "DropDealers" ∈ nw_l := by decide +kernel
theorem k_X5_init_X2_1 : Cond.initialized RX4 ∈ wsX5_init := by decide +kernel
theorem k_X5_init_X2_2 : Cond.instanceMethod yX4_init ∈ wsX5_init := by decide +kernel
set_option maxHeartbeats 4000000 in
set_option maxRecDepth 100000 in
theorem c_X5_init_X2 (l : Launch) (G : va_G) (ca : Nat → ClassId) (ad av : Nat → Nat) (sz : Nat) (a_t : Nat) : Met l yX5_init wsX5_init RM_X5_init_X2 (va_Pc [.ref a_t] (PW_ G ca ad av sz [(a_t, .inr (2, [.long 0]))])) (QN_ G (va_A [(a_t, .inr (2, [.long 0]))] sz) (fun u => [(a_t, .inr (2, [.long 0]))])) 0 0 (va_A [(a_t, .inr (2, [.long 0]))] sz) := by
  refine Met.ofW (cc := cX5_init) (maxL := 1) (ret := none) (by decide) rfl ?_
  intro p e s m args below meth c s₁ B hml hv
  obtain ⟨X0, rfl, rfl, hP, hD⟩ := en_t B hml hv
  obtain ⟨hx, hb, hr, hml, hown, hts, hlocks, hK, hA, hE⟩ := X0
  have hin : meth.name = "<init>" := (name_of_methodNamed B.named B.method).1
  have hS : va_S (va_A [(a_t, .inr (2, [.long 0]))] s.heap.size) s.heap s.heap [] := va_S.rf
  generalize va_A [(a_t, .inr (2, [.long 0]))] s.heap.size = A at hD hS hA hE ⊢
  have hl := lv_entry ([.ref a_t]) (n := 1) (Nat.le_of_ble_eq_true rfl)
  rw [lg_entry_eq]
  generalize (lg_sl ([.ref a_t]) ++ List.replicate (1 - (lg_sl ([.ref a_t])).length) Slot.unset).toArray = ls at hl ⊢
  refine lv_aload_n hx hb dX5_init_0 rfl (lv_at hl 0 rfl) ?_
  refine jn_n (wr := []) (va_runIN (As := []) (rest := []) ⟨hx, hb, hml, hown, hts⟩ (c_X4_init_X2 l G ca ad av s.heap.size a_t) ⟨va_cnB 0 hts gX5_init_X4_init_n1 rfl rfl rfl (hE.1 _ k_X5_init_X2_0) (hts _ k_X5_init_X2_1) (by decide +kernel) ⟨Nat.le_of_ble_eq_true rfl, Nat.le_of_ble_eq_true rfl⟩, rfl, (hts _ k_X5_init_X2_2)⟩ (pre_s hK hE hA hP hD hS [0] rfl (by decide)) rfl rfl hl.1 rfl (lv_room (Nat.le_of_ble_eq_true rfl)) dX5_init_1 ⟨Nat.le_of_ble_eq_true rfl, Nat.le_of_ble_eq_true rfl⟩) hA hP hD hS [0] [] rfl rfl (by decide) (by decide) (fun u1 H locs hP hD hS => ?_)
  have hP : va_P G vwCl [(a_t, .inr (2, [.long 0]))] H := hP
  have hD : va_D A [(a_t, .inr (2, [.long 0]))] := hD
  refine W.widen (k := 0) (n := 0) (Nat.le_of_ble_eq_true rfl) (Nat.le_of_ble_eq_true rfl) ?_
  exact W.vret hx hb hr (fun t ht hW => ⟨⟨(fun _ => 0), rfl, trivial, by rw [ht]; exact hP, hD⟩, hS.F ht⟩) hS.2.2 dX5_init_4

/-! X2_init -/
abbrev RM_X2_init : Room := { frames := 3, cells := 0, slots := 0, locals := 52 }
theorem k_X2_init_0 : Cond.methodLinkNest RX2 1 yX5_init "DropDealers" ∈ nw_l := by decide +kernel
theorem k_X2_init_1 : Cond.initialized RX5 ∈ wsX2_init := by decide +kernel
theorem k_X2_init_2 : Cond.instanceMethod yX5_init ∈ wsX2_init := by decide +kernel
set_option maxHeartbeats 4000000 in
set_option maxRecDepth 100000 in
theorem c_X2_init (l : Launch) (G : va_G) (ca : Nat → ClassId) (ad av : Nat → Nat) (sz : Nat) (a_t : Nat) : Met l yX2_init wsX2_init RM_X2_init (va_Pc [.ref a_t] (PW_ G ca ad av sz [(a_t, .inr (2, [.long 0]))])) (QN_ G (va_A [(a_t, .inr (2, [.long 0]))] sz) (fun u => [(a_t, .inr (2, [.long 0]))])) 0 0 (va_A [(a_t, .inr (2, [.long 0]))] sz) := by
  refine Met.ofW (cc := cX2_init) (maxL := 1) (ret := none) (by decide) rfl ?_
  intro p e s m args below meth c s₁ B hml hv
  obtain ⟨X0, rfl, rfl, hP, hD⟩ := en_t B hml hv
  obtain ⟨hx, hb, hr, hml, hown, hts, hlocks, hK, hA, hE⟩ := X0
  have hin : meth.name = "<init>" := (name_of_methodNamed B.named B.method).1
  have hS : va_S (va_A [(a_t, .inr (2, [.long 0]))] s.heap.size) s.heap s.heap [] := va_S.rf
  generalize va_A [(a_t, .inr (2, [.long 0]))] s.heap.size = A at hD hS hA hE ⊢
  have hl := lv_entry ([.ref a_t]) (n := 1) (Nat.le_of_ble_eq_true rfl)
  rw [lg_entry_eq]
  generalize (lg_sl ([.ref a_t]) ++ List.replicate (1 - (lg_sl ([.ref a_t])).length) Slot.unset).toArray = ls at hl ⊢
  refine lv_aload_n hx hb dX2_init_0 rfl (lv_at hl 0 rfl) ?_
  refine jn_n (wr := []) (va_runIN (As := []) (rest := []) ⟨hx, hb, hml, hown, hts⟩ (c_X5_init_X2 l G ca ad av s.heap.size a_t) ⟨va_cnB 0 hts gX2_init_X5_init_n1 rfl rfl rfl (hE.1 _ k_X2_init_0) (hts _ k_X2_init_1) (by decide +kernel) ⟨Nat.le_of_ble_eq_true rfl, Nat.le_of_ble_eq_true rfl⟩, rfl, (hts _ k_X2_init_2)⟩ (pre_s hK hE hA hP hD hS [0] rfl (by decide)) rfl rfl hl.1 rfl (lv_room (Nat.le_of_ble_eq_true rfl)) dX2_init_1 ⟨Nat.le_of_ble_eq_true rfl, Nat.le_of_ble_eq_true rfl⟩) hA hP hD hS [0] [] rfl rfl (by decide) (by decide) (fun u1 H locs hP hD hS => ?_)
  have hP : va_P G vwCl [(a_t, .inr (2, [.long 0]))] H := hP
  have hD : va_D A [(a_t, .inr (2, [.long 0]))] := hD
  refine W.widen (k := 0) (n := 0) (Nat.le_of_ble_eq_true rfl) (Nat.le_of_ble_eq_true rfl) ?_
  exact W.vret hx hb hr (fun t ht hW => ⟨⟨(fun _ => 0), rfl, trivial, by rw [ht]; exact hP, hD⟩, hS.F ht⟩) hS.2.2 dX2_init_4

/-! X4_init_X6 -/
abbrev RM_X4_init_X6 : Room := { frames := 1, cells := 0, slots := 0, locals := 12 }
theorem k_X4_init_X6_0 : Cond.code objectInit ⟨#[0xb1]⟩ 1 none ∈ wsX4_init := by decide +kernel
theorem k_X4_init_X6_1 : Cond.methodLink RX4 1 objectInit ∈ wsX4_init := by decide +kernel
theorem k_X4_init_X6_2 : Cond.instanceMethod objectInit ∈ wsX4_init := by decide +kernel
set_option maxHeartbeats 4000000 in
set_option maxRecDepth 100000 in
theorem c_X4_init_X6 (l : Launch) (G : va_G) (ca : Nat → ClassId) (ad av : Nat → Nat) (sz : Nat) (a_t : Nat) : Met l yX4_init wsX4_init RM_X4_init_X6 (va_Pc [.ref a_t] (PW_ G ca ad av sz [(a_t, .inr (6, [.long 0]))])) (QN_ G (va_A [(a_t, .inr (6, [.long 0]))] sz) (fun u => [(a_t, .inr (6, [.long 0]))])) 0 0 (va_A [(a_t, .inr (6, [.long 0]))] sz) := by
  refine Met.ofW (cc := cX4_init) (maxL := 1) (ret := none) (by decide) rfl ?_
  intro p e s m args below meth c s₁ B hml hv
  obtain ⟨X0, rfl, rfl, hP, hD⟩ := en_t B hml hv
  obtain ⟨hx, hb, hr, hml, hown, hts, hlocks, hK, hA, hE⟩ := X0
  have hin : meth.name = "<init>" := (name_of_methodNamed B.named B.method).1
  have hS : va_S (va_A [(a_t, .inr (6, [.long 0]))] s.heap.size) s.heap s.heap [] := va_S.rf
  generalize va_A [(a_t, .inr (6, [.long 0]))] s.heap.size = A at hD hS hA hE ⊢
  have hl := lv_entry ([.ref a_t]) (n := 1) (Nat.le_of_ble_eq_true rfl)
  rw [lg_entry_eq]
  generalize (lg_sl ([.ref a_t]) ++ List.replicate (1 - (lg_sl ([.ref a_t])).length) Slot.unset).toArray = ls at hl ⊢
  refine lv_aload_n hx hb dX4_init_0 rfl (lv_at hl 0 rfl) ?_
  refine W.objInit hx hb hown (hts _ k_X4_init_X6_1) (hts _ k_X4_init_X6_2) (hts _ k_X4_init_X6_0) rfl (by rw [hml]; exact hl.1) rfl dX4_init_1 (Nat.le_of_ble_eq_true rfl) (Nat.le_of_ble_eq_true rfl) ?_
  refine W.eq (g2 := F0 m 4 ls []) rfl ?_
  refine W.widen (k := 0) (n := 0) (Nat.le_of_ble_eq_true rfl) (Nat.le_of_ble_eq_true rfl) ?_
  exact W.vret hx hb hr (fun t ht hW => ⟨⟨(fun _ => 0), rfl, trivial, by rw [ht]; exact hP, hD⟩, hS.F ht⟩) hS.2.2 dX4_init_4

/-! X6_init -/
abbrev RM_X6_init : Room := { frames := 2, cells := 0, slots := 0, locals := 32 }
theorem k_X6_init_0 : Cond.methodLinkNest RX6 1 yX4_init "DropDealers" ∈ nw_l := by decide +kernel
theorem k_X6_init_1 : Cond.initialized RX4 ∈ wsX6_init := by decide +kernel
theorem k_X6_init_2 : Cond.instanceMethod yX4_init ∈ wsX6_init := by decide +kernel
set_option maxHeartbeats 4000000 in
set_option maxRecDepth 100000 in
theorem c_X6_init (l : Launch) (G : va_G) (ca : Nat → ClassId) (ad av : Nat → Nat) (sz : Nat) (a_t : Nat) : Met l yX6_init wsX6_init RM_X6_init (va_Pc [.ref a_t] (PW_ G ca ad av sz [(a_t, .inr (6, [.long 0]))])) (QN_ G (va_A [(a_t, .inr (6, [.long 0]))] sz) (fun u => [(a_t, .inr (6, [.long 0]))])) 0 0 (va_A [(a_t, .inr (6, [.long 0]))] sz) := by
  refine Met.ofW (cc := cX6_init) (maxL := 1) (ret := none) (by decide) rfl ?_
  intro p e s m args below meth c s₁ B hml hv
  obtain ⟨X0, rfl, rfl, hP, hD⟩ := en_t B hml hv
  obtain ⟨hx, hb, hr, hml, hown, hts, hlocks, hK, hA, hE⟩ := X0
  have hin : meth.name = "<init>" := (name_of_methodNamed B.named B.method).1
  have hS : va_S (va_A [(a_t, .inr (6, [.long 0]))] s.heap.size) s.heap s.heap [] := va_S.rf
  generalize va_A [(a_t, .inr (6, [.long 0]))] s.heap.size = A at hD hS hA hE ⊢
  have hl := lv_entry ([.ref a_t]) (n := 1) (Nat.le_of_ble_eq_true rfl)
  rw [lg_entry_eq]
  generalize (lg_sl ([.ref a_t]) ++ List.replicate (1 - (lg_sl ([.ref a_t])).length) Slot.unset).toArray = ls at hl ⊢
  refine lv_aload_n hx hb dX6_init_0 rfl (lv_at hl 0 rfl) ?_
  refine jn_n (wr := []) (va_runIN (As := []) (rest := []) ⟨hx, hb, hml, hown, hts⟩ (c_X4_init_X6 l G ca ad av s.heap.size a_t) ⟨va_cnB 0 hts gX6_init_X4_init_n1 rfl rfl rfl (hE.1 _ k_X6_init_0) (hts _ k_X6_init_1) (by decide +kernel) ⟨Nat.le_of_ble_eq_true rfl, Nat.le_of_ble_eq_true rfl⟩, rfl, (hts _ k_X6_init_2)⟩ (pre_s hK hE hA hP hD hS [0] rfl (by decide)) rfl rfl hl.1 rfl (lv_room (Nat.le_of_ble_eq_true rfl)) dX6_init_1 ⟨Nat.le_of_ble_eq_true rfl, Nat.le_of_ble_eq_true rfl⟩) hA hP hD hS [0] [] rfl rfl (by decide) (by decide) (fun u1 H locs hP hD hS => ?_)
  have hP : va_P G vwCl [(a_t, .inr (6, [.long 0]))] H := hP
  have hD : va_D A [(a_t, .inr (6, [.long 0]))] := hD
  refine W.widen (k := 0) (n := 0) (Nat.le_of_ble_eq_true rfl) (Nat.le_of_ble_eq_true rfl) ?_
  exact W.vret hx hb hr (fun t ht hW => ⟨⟨(fun _ => 0), rfl, trivial, by rw [ht]; exact hP, hD⟩, hS.F ht⟩) hS.2.2 dX6_init_4
