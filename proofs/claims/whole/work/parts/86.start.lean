/-! own: the start: the tables give the classes, the array classes, what stays; then the two constructors, then the loop -/
theorem nw_in : ∀ w ∈ nw_l, w ∈ lw_tbl := by decide +kernel
theorem sk_0 : Cond.instantiable RX0 1 ∈ lw_tbl := by decide +kernel
theorem sk_1 : Cond.instantiable RX1 8 ∈ lw_tbl := by decide +kernel
theorem sk_2 : Cond.instantiable RX2 1 ∈ lw_tbl := by decide +kernel
theorem sk_3 : Cond.instantiable RX3 10 ∈ lw_tbl := by decide +kernel
theorem sk_4 : Cond.instantiable RX4 1 ∈ lw_tbl := by decide +kernel
theorem sk_5 : Cond.instantiable RX5 1 ∈ lw_tbl := by decide +kernel
theorem sk_6 : Cond.instantiable RX6 1 ∈ lw_tbl := by decide +kernel
theorem sk_7 : Cond.instantiable RX7 9 ∈ lw_tbl := by decide +kernel
theorem sk_8 : Cond.instantiable RX8 1 ∈ lw_tbl := by decide +kernel
theorem sk_9 : Cond.instantiable RX9 9 ∈ lw_tbl := by decide +kernel
theorem sk_10 : Cond.instantiable RX10 1 ∈ lw_tbl := by decide +kernel
theorem sk_11 : Cond.instantiable RX11 9 ∈ lw_tbl := by decide +kernel
theorem sk_12 : Cond.instantiable RX12 38 ∈ lw_tbl := by decide +kernel
theorem sk_ai : Cond.arrayClass .int ∈ lw_tbl := by decide +kernel
theorem sk_aj : Cond.arrayClass .long ∈ lw_tbl := by decide +kernel
theorem sk_ab : Cond.arrayClass .byte ∈ lw_tbl := by decide +kernel
theorem sk_az : Cond.arrayClass .boolean ∈ lw_tbl := by decide +kernel
theorem sk_ak : Cond.arrayOver (.object "DropDealers$Kind") ∈ lw_tbl := by decide +kernel
theorem sk_an : Cond.arrayOver (.object "DropDealers$Now") ∈ lw_tbl := by decide +kernel
theorem sk_c0 : Cond.castable RX0 "DropDealers$Kind" ∈ lw_tbl := by decide +kernel
theorem sk_c5 : Cond.castable RX5 "DropDealers$Kind" ∈ lw_tbl := by decide +kernel
theorem sk_c8 : Cond.castable RX8 "DropDealers$Kind" ∈ lw_tbl := by decide +kernel
theorem sk_c2 : Cond.castable RX2 "DropDealers$Kind" ∈ lw_tbl := by decide +kernel
theorem sk_c6 : Cond.castable RX6 "DropDealers$Kind" ∈ lw_tbl := by decide +kernel
theorem sk_s0 : Cond.stringRef RX9 50 "terrace" ∈ lw_tbl := by decide +kernel
theorem sk_s1 : Cond.stringRef RX9 59 "drip" ∈ lw_tbl := by decide +kernel
theorem sk_s2 : Cond.stringRef RX9 64 "law" ∈ lw_tbl := by decide +kernel
theorem sk_s3 : Cond.stringRef RX9 69 "slip" ∈ lw_tbl := by decide +kernel
theorem sk_s4 : Cond.stringRef RX9 74 "song" ∈ lw_tbl := by decide +kernel
theorem sk_z1 : Cond.laysStatic "java/lang/String" "COMPACT_STRINGS" "Z" ∈ lw_tbl := by decide +kernel
theorem sk_z2 : Cond.initialized "java/lang/String" ∈ lw_tbl := by decide +kernel
theorem sk_z3 : Cond.laysStatic "jdk/internal/util/Preconditions" "SIOOBE_FORMATTER" "Ljava/util/function/BiFunction;" ∈ lw_tbl := by decide +kernel
theorem sk_z4 : Cond.initialized "jdk/internal/util/Preconditions" ∈ lw_tbl := by decide +kernel
set_option maxHeartbeats 4000000 in
set_option maxRecDepth 100000 in
theorem st_K {args : Array Value} {s : State} (hts : ∀ w ∈ lw_tbl, w.before args s = true) : ∃ (G : va_G) (ca : Nat → ClassId), va_K G vwCl (TY_ ca) s := by
  obtain ⟨c0, i0, h0⟩ := u_known (C := RX0) (T := TX0) (N := 1) (n := 1) hts inX0 (hts _ sk_0)
  obtain ⟨c1, i1, h1⟩ := u_known (C := RX1) (T := TX1) (N := 8) (n := 8) hts inX1 (hts _ sk_1)
  obtain ⟨c2, i2, h2⟩ := u_known (C := RX2) (T := TX2) (N := 1) (n := 1) hts inX2 (hts _ sk_2)
  obtain ⟨c3, i3, h3⟩ := u_known (C := RX3) (T := TX3) (N := 10) (n := 10) hts inX3 (hts _ sk_3)
  obtain ⟨c4, i4, h4⟩ := u_known (C := RX4) (T := TX4) (N := 1) (n := 1) hts inX4 (hts _ sk_4)
  obtain ⟨c5, i5, h5⟩ := u_known (C := RX5) (T := TX5) (N := 1) (n := 1) hts inX5 (hts _ sk_5)
  obtain ⟨c6, i6, h6⟩ := u_known (C := RX6) (T := TX6) (N := 1) (n := 1) hts inX6 (hts _ sk_6)
  obtain ⟨c7, i7, h7⟩ := u_known (C := RX7) (T := TX7) (N := 9) (n := 9) hts inX7 (hts _ sk_7)
  obtain ⟨c8, i8, h8⟩ := u_known (C := RX8) (T := TX8) (N := 1) (n := 1) hts inX8 (hts _ sk_8)
  obtain ⟨c9, i9, h9⟩ := u_known (C := RX9) (T := TX9) (N := 9) (n := 9) hts inX9 (hts _ sk_9)
  obtain ⟨c10, i10, h10⟩ := u_known (C := RX10) (T := TX10) (N := 1) (n := 1) hts inX10 (hts _ sk_10)
  obtain ⟨c11, i11, h11⟩ := u_known (C := RX11) (T := TX11) (N := 9) (n := 9) hts inX11 (hts _ sk_11)
  obtain ⟨c12, i12, h12⟩ := u_known (C := RX12) (T := TX12) (N := 38) (n := 38) hts inX12 (hts _ sk_12)
  obtain ⟨cai, kai, pai, eai1, eai2, eai3⟩ := Cond.arrayClass_spec (hts _ sk_ai)
  obtain ⟨caj, kaj, paj, eaj1, eaj2, eaj3⟩ := Cond.arrayClass_spec (hts _ sk_aj)
  obtain ⟨cab, kab, pab, eab1, eab2, eab3⟩ := Cond.arrayClass_spec (hts _ sk_ab)
  obtain ⟨caz, kaz, paz, eaz1, eaz2, eaz3⟩ := Cond.arrayClass_spec (hts _ sk_az)
  obtain ⟨pak, cak, kak, eak1, -, eak2, eak3, eak4⟩ := Cond.arrayOver_spec (hts _ sk_ak)
  obtain ⟨pan, can, kan, ean1, -, ean2, ean3, ean4⟩ := Cond.arrayOver_spec (hts _ sk_an)
  refine ⟨(fun k => match k with | 0 => c0 | 1 => c1 | 2 => c2 | 3 => c3 | 4 => c4 | 5 => c5 | 6 => c6 | 7 => c7 | 8 => c8 | 9 => c9 | 10 => c10 | 11 => c11 | _ => c12, fun k => match k with | 0 => i0 | 1 => i1 | 2 => i2 | 3 => i3 | 4 => i4 | 5 => i5 | 6 => i6 | 7 => i7 | 8 => i8 | 9 => i9 | 10 => i10 | 11 => i11 | _ => i12), fun k => match k with | 0 => cai | 1 => caj | 2 => cab | 3 => caz | 4 => cak | _ => can, ?_, ?_⟩
  · intro k q hq
    match k, hq with
    | 0, hq => cases hq; exact h0
    | 1, hq => cases hq; exact h1
    | 2, hq => cases hq; exact h2
    | 3, hq => cases hq; exact h3
    | 4, hq => cases hq; exact h4
    | 5, hq => cases hq; exact h5
    | 6, hq => cases hq; exact h6
    | 7, hq => cases hq; exact h7
    | 8, hq => cases hq; exact h8
    | 9, hq => cases hq; exact h9
    | 10, hq => cases hq; exact h10
    | 11, hq => cases hq; exact h11
    | 12, hq => cases hq; exact h12
    | k + 13, hq => simp [vwCl] at hq
  · intro k q hq
    match k, hq with
    | 0, hq => cases hq; exact ⟨fun n z => ⟨fun k h => (by cases h), kai, eai2, pai, eai3⟩, eai1⟩
    | 1, hq => cases hq; exact ⟨fun n z => ⟨fun k h => (by cases h), kaj, eaj2, paj, eaj3⟩, eaj1⟩
    | 2, hq => cases hq; exact ⟨fun n z => ⟨fun k h => (by cases h), kab, eab2, pab, eab3⟩, eab1⟩
    | 3, hq => cases hq; exact ⟨fun n z => ⟨fun k h => (by cases h), kaz, eaz2, paz, eaz3⟩, eaz1⟩
    | 4, hq => cases hq; exact ⟨fun n z => ⟨fun k h => (by cases h), kak, eak2, pak, eak3⟩, kak, pak, eak2, eak3, eak1, eak4⟩
    | 5, hq => cases hq; exact ⟨fun n z => ⟨fun k h => (by cases h), kan, ean2, pan, ean3⟩, kan, pan, ean2, ean3, ean1, ean4⟩
    | k + 6, hq => simp [TY_] at hq
theorem st_I {args : Array Value} {s : State} (hts : ∀ w ∈ lw_tbl, w.before args s = true) : IX_ s := ⟨va_AO.of (hts _ sk_ak), va_AO.of (hts _ sk_an), va_Nw.of rfl (hts _ sk_c0), va_Nw.of rfl (hts _ sk_c5), va_Nw.of rfl (hts _ sk_c8), va_Nw.of rfl (hts _ sk_c2), va_Nw.of rfl (hts _ sk_c6)⟩
theorem IX_.call {U : State} (g : JFrame) (mk : MethodId) (a : Array Value) (h : IX_ U) : IX_ (U.calling g mk a) := ⟨h.1.moved (u := U) (U := U.calling g mk a) (Vm.Alike.refl U.vm), h.2.1.moved (u := U) (U := U.calling g mk a) (Vm.Alike.refl U.vm), va_Nw.same rfl (u := U) (U := U.calling g mk a) rfl h.2.2.1, va_Nw.same rfl (u := U) (U := U.calling g mk a) rfl h.2.2.2.1, va_Nw.same rfl (u := U) (U := U.calling g mk a) rfl h.2.2.2.2.1, va_Nw.same rfl (u := U) (U := U.calling g mk a) rfl h.2.2.2.2.2.1, va_Nw.same rfl (u := U) (U := U.calling g mk a) rfl h.2.2.2.2.2.2⟩
def st_tm (i : Nat) : Term := .string "DropDealers$Reader" ([50, 59, 64, 69, 74].getD i 0)
set_option maxHeartbeats 4000000 in
set_option maxRecDepth 100000 in
theorem st_E {args : Array Value} {s : State} (hts : ∀ w ∈ lw_tbl, w.before args s = true) (hgv : (Jvm.Cond.and given_1 narrow_1).before args s = true) : ∃ ad av : Nat → Nat, EX_ ad av (fun q => s.heap.size ≤ q) s s.heap := by
  have hs := flat_of_before _ hgv
  have hA : ∀ a : Nat, a < s.heap.size → ¬ (fun q : Nat => s.heap.size ≤ q) a := fun a h => Nat.not_le.mpr h
  have hV := vk_Sof (args := args) (s := s) (N := 5) (tm := st_tm) (len := st_len) (byt := st_byt) (A := fun q => s.heap.size ≤ q)
    (by decide)
    (fun i hi => by
      match i, hi with
      | 0, _ => exact hs (Cond.exactly (.string "DropDealers$Reader" 50) "java/lang/String") (by decide +kernel)
      | 1, _ => exact hs (Cond.exactly (.string "DropDealers$Reader" 59) "java/lang/String") (by decide +kernel)
      | 2, _ => exact hs (Cond.exactly (.string "DropDealers$Reader" 64) "java/lang/String") (by decide +kernel)
      | 3, _ => exact hs (Cond.exactly (.string "DropDealers$Reader" 69) "java/lang/String") (by decide +kernel)
      | 4, _ => exact hs (Cond.exactly (.string "DropDealers$Reader" 74) "java/lang/String") (by decide +kernel)
      | k + 5, h => exact absurd h (by omega))
    (fun i hi => by
      match i, hi with
      | 0, _ => exact hs (Cond.eq (.field (.string "DropDealers$Reader" 50) "java/lang/String" "coder" "B") (.int 0)) (by decide +kernel)
      | 1, _ => exact hs (Cond.eq (.field (.string "DropDealers$Reader" 59) "java/lang/String" "coder" "B") (.int 0)) (by decide +kernel)
      | 2, _ => exact hs (Cond.eq (.field (.string "DropDealers$Reader" 64) "java/lang/String" "coder" "B") (.int 0)) (by decide +kernel)
      | 3, _ => exact hs (Cond.eq (.field (.string "DropDealers$Reader" 69) "java/lang/String" "coder" "B") (.int 0)) (by decide +kernel)
      | 4, _ => exact hs (Cond.eq (.field (.string "DropDealers$Reader" 74) "java/lang/String" "coder" "B") (.int 0)) (by decide +kernel)
      | k + 5, h => exact absurd h (by omega))
    (fun i hi => by
      match i, hi with
      | 0, _ => exact hs (Cond.arrayOf (.field (.string "DropDealers$Reader" 50) "java/lang/String" "value" "[B") .byte) (by decide +kernel)
      | 1, _ => exact hs (Cond.arrayOf (.field (.string "DropDealers$Reader" 59) "java/lang/String" "value" "[B") .byte) (by decide +kernel)
      | 2, _ => exact hs (Cond.arrayOf (.field (.string "DropDealers$Reader" 64) "java/lang/String" "value" "[B") .byte) (by decide +kernel)
      | 3, _ => exact hs (Cond.arrayOf (.field (.string "DropDealers$Reader" 69) "java/lang/String" "value" "[B") .byte) (by decide +kernel)
      | 4, _ => exact hs (Cond.arrayOf (.field (.string "DropDealers$Reader" 74) "java/lang/String" "value" "[B") .byte) (by decide +kernel)
      | k + 5, h => exact absurd h (by omega))
    (fun i hi => by
      match i, hi with
      | 0, _ => exact hs (Cond.eq (.length (.field (.string "DropDealers$Reader" 50) "java/lang/String" "value" "[B")) (.int 7)) (by decide +kernel)
      | 1, _ => exact hs (Cond.eq (.length (.field (.string "DropDealers$Reader" 59) "java/lang/String" "value" "[B")) (.int 4)) (by decide +kernel)
      | 2, _ => exact hs (Cond.eq (.length (.field (.string "DropDealers$Reader" 64) "java/lang/String" "value" "[B")) (.int 3)) (by decide +kernel)
      | 3, _ => exact hs (Cond.eq (.length (.field (.string "DropDealers$Reader" 69) "java/lang/String" "value" "[B")) (.int 4)) (by decide +kernel)
      | 4, _ => exact hs (Cond.eq (.length (.field (.string "DropDealers$Reader" 74) "java/lang/String" "value" "[B")) (.int 4)) (by decide +kernel)
      | k + 5, h => exact absurd h (by omega))
    (fun i hi j hj => by
      match i, hi with
      | 0, _ =>
        have hj : j < 7 := hj
        match j, hj with
        | 0, _ => exact hs (Cond.eq (.elem (.field (.string "DropDealers$Reader" 50) "java/lang/String" "value" "[B") (.int 0)) (.int 116)) (by decide +kernel)
        | 1, _ => exact hs (Cond.eq (.elem (.field (.string "DropDealers$Reader" 50) "java/lang/String" "value" "[B") (.int 1)) (.int 101)) (by decide +kernel)
        | 2, _ => exact hs (Cond.eq (.elem (.field (.string "DropDealers$Reader" 50) "java/lang/String" "value" "[B") (.int 2)) (.int 114)) (by decide +kernel)
        | 3, _ => exact hs (Cond.eq (.elem (.field (.string "DropDealers$Reader" 50) "java/lang/String" "value" "[B") (.int 3)) (.int 114)) (by decide +kernel)
        | 4, _ => exact hs (Cond.eq (.elem (.field (.string "DropDealers$Reader" 50) "java/lang/String" "value" "[B") (.int 4)) (.int 97)) (by decide +kernel)
        | 5, _ => exact hs (Cond.eq (.elem (.field (.string "DropDealers$Reader" 50) "java/lang/String" "value" "[B") (.int 5)) (.int 99)) (by decide +kernel)
        | 6, _ => exact hs (Cond.eq (.elem (.field (.string "DropDealers$Reader" 50) "java/lang/String" "value" "[B") (.int 6)) (.int 101)) (by decide +kernel)
        | j + 7, h => exact absurd h (by omega)
      | 1, _ =>
        have hj : j < 4 := hj
        match j, hj with
        | 0, _ => exact hs (Cond.eq (.elem (.field (.string "DropDealers$Reader" 59) "java/lang/String" "value" "[B") (.int 0)) (.int 100)) (by decide +kernel)
        | 1, _ => exact hs (Cond.eq (.elem (.field (.string "DropDealers$Reader" 59) "java/lang/String" "value" "[B") (.int 1)) (.int 114)) (by decide +kernel)
        | 2, _ => exact hs (Cond.eq (.elem (.field (.string "DropDealers$Reader" 59) "java/lang/String" "value" "[B") (.int 2)) (.int 105)) (by decide +kernel)
        | 3, _ => exact hs (Cond.eq (.elem (.field (.string "DropDealers$Reader" 59) "java/lang/String" "value" "[B") (.int 3)) (.int 112)) (by decide +kernel)
        | j + 4, h => exact absurd h (by omega)
      | 2, _ =>
        have hj : j < 3 := hj
        match j, hj with
        | 0, _ => exact hs (Cond.eq (.elem (.field (.string "DropDealers$Reader" 64) "java/lang/String" "value" "[B") (.int 0)) (.int 108)) (by decide +kernel)
        | 1, _ => exact hs (Cond.eq (.elem (.field (.string "DropDealers$Reader" 64) "java/lang/String" "value" "[B") (.int 1)) (.int 97)) (by decide +kernel)
        | 2, _ => exact hs (Cond.eq (.elem (.field (.string "DropDealers$Reader" 64) "java/lang/String" "value" "[B") (.int 2)) (.int 119)) (by decide +kernel)
        | j + 3, h => exact absurd h (by omega)
      | 3, _ =>
        have hj : j < 4 := hj
        match j, hj with
        | 0, _ => exact hs (Cond.eq (.elem (.field (.string "DropDealers$Reader" 69) "java/lang/String" "value" "[B") (.int 0)) (.int 115)) (by decide +kernel)
        | 1, _ => exact hs (Cond.eq (.elem (.field (.string "DropDealers$Reader" 69) "java/lang/String" "value" "[B") (.int 1)) (.int 108)) (by decide +kernel)
        | 2, _ => exact hs (Cond.eq (.elem (.field (.string "DropDealers$Reader" 69) "java/lang/String" "value" "[B") (.int 2)) (.int 105)) (by decide +kernel)
        | 3, _ => exact hs (Cond.eq (.elem (.field (.string "DropDealers$Reader" 69) "java/lang/String" "value" "[B") (.int 3)) (.int 112)) (by decide +kernel)
        | j + 4, h => exact absurd h (by omega)
      | 4, _ =>
        have hj : j < 4 := hj
        match j, hj with
        | 0, _ => exact hs (Cond.eq (.elem (.field (.string "DropDealers$Reader" 74) "java/lang/String" "value" "[B") (.int 0)) (.int 115)) (by decide +kernel)
        | 1, _ => exact hs (Cond.eq (.elem (.field (.string "DropDealers$Reader" 74) "java/lang/String" "value" "[B") (.int 1)) (.int 111)) (by decide +kernel)
        | 2, _ => exact hs (Cond.eq (.elem (.field (.string "DropDealers$Reader" 74) "java/lang/String" "value" "[B") (.int 2)) (.int 110)) (by decide +kernel)
        | 3, _ => exact hs (Cond.eq (.elem (.field (.string "DropDealers$Reader" 74) "java/lang/String" "value" "[B") (.int 3)) (.int 103)) (by decide +kernel)
        | j + 4, h => exact absurd h (by omega)
      | k + 5, h => exact absurd h (by omega))
    (fun i j hi hj hij => by
      match i, hi, j, hj with
      | 0, _, 0, _ => exact absurd rfl hij
      | 0, _, 1, _ => exact Or.inl (hs (Cond.not (Cond.eq (.string "DropDealers$Reader" 50) (.string "DropDealers$Reader" 59))) (by decide +kernel))
      | 0, _, 2, _ => exact Or.inl (hs (Cond.not (Cond.eq (.string "DropDealers$Reader" 50) (.string "DropDealers$Reader" 64))) (by decide +kernel))
      | 0, _, 3, _ => exact Or.inl (hs (Cond.not (Cond.eq (.string "DropDealers$Reader" 50) (.string "DropDealers$Reader" 69))) (by decide +kernel))
      | 0, _, 4, _ => exact Or.inl (hs (Cond.not (Cond.eq (.string "DropDealers$Reader" 50) (.string "DropDealers$Reader" 74))) (by decide +kernel))
      | 1, _, 0, _ => exact Or.inr (hs (Cond.not (Cond.eq (.string "DropDealers$Reader" 50) (.string "DropDealers$Reader" 59))) (by decide +kernel))
      | 1, _, 1, _ => exact absurd rfl hij
      | 1, _, 2, _ => exact Or.inl (hs (Cond.not (Cond.eq (.string "DropDealers$Reader" 59) (.string "DropDealers$Reader" 64))) (by decide +kernel))
      | 1, _, 3, _ => exact Or.inl (hs (Cond.not (Cond.eq (.string "DropDealers$Reader" 59) (.string "DropDealers$Reader" 69))) (by decide +kernel))
      | 1, _, 4, _ => exact Or.inl (hs (Cond.not (Cond.eq (.string "DropDealers$Reader" 59) (.string "DropDealers$Reader" 74))) (by decide +kernel))
      | 2, _, 0, _ => exact Or.inr (hs (Cond.not (Cond.eq (.string "DropDealers$Reader" 50) (.string "DropDealers$Reader" 64))) (by decide +kernel))
      | 2, _, 1, _ => exact Or.inr (hs (Cond.not (Cond.eq (.string "DropDealers$Reader" 59) (.string "DropDealers$Reader" 64))) (by decide +kernel))
      | 2, _, 2, _ => exact absurd rfl hij
      | 2, _, 3, _ => exact Or.inl (hs (Cond.not (Cond.eq (.string "DropDealers$Reader" 64) (.string "DropDealers$Reader" 69))) (by decide +kernel))
      | 2, _, 4, _ => exact Or.inl (hs (Cond.not (Cond.eq (.string "DropDealers$Reader" 64) (.string "DropDealers$Reader" 74))) (by decide +kernel))
      | 3, _, 0, _ => exact Or.inr (hs (Cond.not (Cond.eq (.string "DropDealers$Reader" 50) (.string "DropDealers$Reader" 69))) (by decide +kernel))
      | 3, _, 1, _ => exact Or.inr (hs (Cond.not (Cond.eq (.string "DropDealers$Reader" 59) (.string "DropDealers$Reader" 69))) (by decide +kernel))
      | 3, _, 2, _ => exact Or.inr (hs (Cond.not (Cond.eq (.string "DropDealers$Reader" 64) (.string "DropDealers$Reader" 69))) (by decide +kernel))
      | 3, _, 3, _ => exact absurd rfl hij
      | 3, _, 4, _ => exact Or.inl (hs (Cond.not (Cond.eq (.string "DropDealers$Reader" 69) (.string "DropDealers$Reader" 74))) (by decide +kernel))
      | 4, _, 0, _ => exact Or.inr (hs (Cond.not (Cond.eq (.string "DropDealers$Reader" 50) (.string "DropDealers$Reader" 74))) (by decide +kernel))
      | 4, _, 1, _ => exact Or.inr (hs (Cond.not (Cond.eq (.string "DropDealers$Reader" 59) (.string "DropDealers$Reader" 74))) (by decide +kernel))
      | 4, _, 2, _ => exact Or.inr (hs (Cond.not (Cond.eq (.string "DropDealers$Reader" 64) (.string "DropDealers$Reader" 74))) (by decide +kernel))
      | 4, _, 3, _ => exact Or.inr (hs (Cond.not (Cond.eq (.string "DropDealers$Reader" 69) (.string "DropDealers$Reader" 74))) (by decide +kernel))
      | 4, _, 4, _ => exact absurd rfl hij
      | k + 5, h, _, _ => exact absurd h (by omega)
      | _, _, k + 5, h => exact absurd h (by omega)) hA
  obtain ⟨ad, av, hS, hT⟩ := hV
  refine ⟨ad, av, fun w hw => va_Nw.of (List.all_eq_true.mp nw_kt w hw) (hts w (nw_in w hw)), ⟨vk_R.of (hts _ sk_s0) (hT 0 (by omega)), vk_R.of (hts _ sk_s1) (hT 1 (by omega)), vk_R.of (hts _ sk_s2) (hT 2 (by omega)), vk_R.of (hts _ sk_s3) (hT 3 (by omega)), vk_R.of (hts _ sk_s4) (hT 4 (by omega))⟩, hS, va_Zof (hts _ sk_z1) (hts _ sk_z2) (va_eqi (hs (Cond.eq (.static "java/lang/String" "COMPACT_STRINGS" "Z") (.int 1)) (by decide +kernel))) hA, va_Zqof (hts _ sk_z3) (hts _ sk_z4) (hs (Cond.isRef (.static "jdk/internal/util/Preconditions" "SIOOBE_FORMATTER" "Ljava/util/function/BiFunction;")) (by decide +kernel)) hA⟩
