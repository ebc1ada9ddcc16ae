def uN (x : Int64) : Nat := x.toUInt64.toNat
theorem uN_lt (x : Int64) : uN x < 18446744073709551616 := x.toUInt64.toNat_lt
theorem uN_inj {x y : Int64} (h : uN x = uN y) : x = y := congrArg UInt64.toInt64 (UInt64.toNat_inj.mp h)
theorem uN_shr (x : Int64) (s : UInt64) : uN (x.toUInt64 >>> s).toInt64 = uN x / 2 ^ (s.toNat % 64) := by
  show (x.toUInt64 >>> s).toNat = _
  rw [UInt64.toNat_shiftRight, Nat.shiftRight_eq_div_pow]
  rfl
theorem uN_sk (x : Int64) {k : Nat} (hk : k < 64) : uN (x.toUInt64 >>> ((nI k).toInt64.toUInt64 &&& Int64.toUInt64 63)).toInt64 = uN x / 2 ^ k := by
  have h : ((nI k).toInt64.toUInt64 &&& Int64.toUInt64 63).toNat % 64 = k := by
    rw [nI_l (by omega), UInt64.toNat_and]
    have e : (lN k).toUInt64.toNat = k % 2 ^ 64 := rfl
    have e2 : (Int64.toUInt64 63).toNat = 2 ^ 6 - 1 := by decide
    rw [e, e2, Nat.and_two_pow_sub_one_eq_mod]
    omega
  rw [uN_shr, h]
/-! own: type (the seven rows above are of kit/laws/BITS.to-paste) -/
theorem by_sm : ∀ i, i < 8 → ((nI (8 * i)).toInt64 &&& 63).toBitVec.smod 64 = BitVec.ofNat 64 (8 * i) := by decide +kernel
/-- the byte that the reference writes -/
theorem by_m (v : Int64) {i : Nat} (hi : i < 8) : ((v >>> ((nI (8 * i)).toInt64 &&& 63)) &&& (255 : Int64)).toInt32 = nI (uN v / 2 ^ (8 * i) % 256) := by
  apply Int32.toBitVec_inj.1
  show (BitVec.sshiftRight' v.toBitVec (((nI (8 * i)).toInt64 &&& 63).toBitVec.smod 64) &&& 255#64).signExtend 32 = BitVec.ofNat 32 (uN v / 2 ^ (8 * i) % 256)
  rw [by_sm i hi, BitVec.signExtend_eq_setWidth_of_le _ (by omega)]
  have e : BitVec.sshiftRight' v.toBitVec (BitVec.ofNat 64 (8 * i)) &&& 255#64 = (v.toBitVec >>> (8 * i)) &&& 255#64 := by
    apply BitVec.eq_of_getLsbD_eq
    intro j hj
    rw [BitVec.getLsbD_and, BitVec.getLsbD_and]
    by_cases h8 : j < 8
    · have e1 : (BitVec.sshiftRight' v.toBitVec (BitVec.ofNat 64 (8 * i))).getLsbD j = v.toBitVec.getLsbD (8 * i + j) := by
        rw [BitVec.sshiftRight', BitVec.getLsbD_sshiftRight]
        have : (BitVec.ofNat 64 (8 * i)).toNat = 8 * i := by rw [BitVec.toNat_ofNat]; omega
        rw [this, if_pos (by omega)]
        simp; omega
      rw [e1, BitVec.getLsbD_ushiftRight]
    · have e2 : (255#64).getLsbD j = false := by
        rw [BitVec.getLsbD_ofNat]
        rw [Nat.testBit_lt_two_pow (show 255 < 2 ^ j from Nat.lt_of_lt_of_le (by omega : 255 < 2 ^ 8) (Nat.pow_le_pow_right (by omega) (by omega)))]
        simp
      rw [e2, Bool.and_false, Bool.and_false]
  rw [e]
  apply BitVec.eq_of_toNat_eq
  rw [BitVec.toNat_setWidth, BitVec.toNat_and, BitVec.toNat_ushiftRight, BitVec.toNat_ofNat, BitVec.toNat_ofNat, Nat.shiftRight_eq_div_pow]
  rw [show (255 % 2 ^ 64 : Nat) = 2 ^ 8 - 1 from rfl, Nat.and_two_pow_sub_one_eq_mod]
  rfl
/-- the byte that the class writes -/
theorem by_c (v : Int64) {i : Nat} (hi : i < 8) : vp_nar .byte ((((v.toUInt64 >>> ((nI (8 * i)).toInt64.toUInt64 &&& Int64.toUInt64 63)).toInt64).toInt32).toInt8.toInt32) = (nI (uN v / 2 ^ (8 * i) % 256)).toInt8.toInt32 := by
  rw [pk_vb]
  congr 1
  have h := uN_sk v (k := 8 * i) (by omega)
  generalize (v.toUInt64 >>> ((nI (8 * i)).toInt64.toUInt64 &&& Int64.toUInt64 63)).toInt64 = u at h ⊢
  rw [← h]
  apply Int8.toBitVec_inj.1
  show (u.toBitVec.signExtend 32).signExtend 8 = (BitVec.ofNat 32 (uN u % 256)).signExtend 8
  rw [BitVec.signExtend_eq_setWidth_of_le _ (by omega), BitVec.signExtend_eq_setWidth_of_le _ (by omega), BitVec.signExtend_eq_setWidth_of_le _ (by omega)]
  apply BitVec.eq_of_toNat_eq
  rw [BitVec.toNat_setWidth, BitVec.toNat_setWidth, BitVec.toNat_setWidth, BitVec.toNat_ofNat]
  show uN u % 2 ^ 32 % 2 ^ 8 = uN u % 256 % 2 ^ 32 % 2 ^ 8
  omega
section CO9
variable {k : Nat}
theorem e_typeL (v : Int64) : ∀ (n i m : Nat) (bytes text : Nat → Int32), i ≤ 8 → i < n → m + i ≤ 300 → (∀ j, j < m → ∃ c : Nat, c < 256 ∧ text j = nI c ∧ bytes j = (nI c).toInt8.toInt32) → ∃ (b2 t2 : Nat → Int32), F_X9_append_19 n bytes (nI m) v (nI i - 1) = some (1, b2, nI (m + i)) ∧ F_X12_type_34 n text (nI m) v (nI i - 1) = some (nI (m + i), t2, nI (m + i)) ∧ ∀ j, j < m + i → ∃ c : Nat, c < 256 ∧ t2 j = nI c ∧ b2 j = (nI c).toInt8.toInt32 := by
  intro n
  induction n with
  | zero => intro i m _ _ _ h; exact absurd h (by omega)
  | succ n ih =>
    intro i m bytes text h8 hn hm hr
    rw [F_X9_append_19, F_X12_type_34]
    rcases Nat.eq_zero_or_pos i with rfl | hp
    · have z : nI 0 - 1 < 0 := by decide
      rw [if_pos z, if_pos z]
      exact ⟨bytes, text, rfl, rfl, hr⟩
    · obtain ⟨a, rfl⟩ : ∃ a, i = a + 1 := ⟨i - 1, by omega⟩
      have ea : nI (a + 1) - 1 = nI a := nI_pred a
      have om : ok_I (nI m) 300 = true := ok_T (by omega) (by omega)
      rw [ea, if_neg (nI_pos (by omega)), if_neg (nI_pos (by omega)), if_pos om, if_pos om, show (8 : Int32) * nI a = nI (8 * a) from pk_mul 8 a, by_c v (by omega), by_m v (by omega), nI_clamp (n := m) (by omega), show nI m + (1 : Int32) = nI (m + 1) from nI_1 m, show nI a + (-1 : Int32) = nI a - 1 from (Int32.sub_eq_add_neg (nI a) 1).symm]
      obtain ⟨b2, t2, e1, e2, e3⟩ := ih a (m + 1) (upd bytes m (nI (uN v / 2 ^ (8 * a) % 256)).toInt8.toInt32) (upd text m (nI (uN v / 2 ^ (8 * a) % 256))) (by omega) (by omega) (by omega) (fun j hj => by
        by_cases e : j = m
        · subst e
          exact ⟨_, Nat.mod_lt _ (by omega), by rw [pk_us], by rw [pk_us]⟩
        · rw [pk_un e, pk_un e]
          exact hr j (by omega))
      rw [show m + 1 + a = m + (a + 1) by omega] at e1 e2 e3
      exact ⟨b2, t2, e1, e2, e3⟩
theorem CO_type {bytes text : Nat → Int32} {rlen size : Int32} (hk : k < 600) (hR : IR_ bytes rlen text size) (x1 : Int64) (x2 : Int32) : ∃ (u1 : Int32 × (Nat → Int32) × Int32) (u2 : Int32 × (Nat → Int32) × Int32), F_X11_type bytes rlen x1 x2 = some u1 ∧ F_X12_type text size x1 x2 = some u2 ∧ u1.1 = u2.1 ∧ IR_ u1.2.1 u1.2.2 u2.2.1 u2.2.2 := by
  have hR0 := hR
  obtain ⟨m, hm, rfl, rfl, hr⟩ := hR
  have t1 : (1 : Int32).toInt = 1 := rfl
  have t8 : (8 : Int32).toInt = 8 := rfl
  have l1 : (1 : Int64).toInt = 1 := rfl
  have l8 : (8 : Int64).toInt = 8 := rfl
  unfold F_X11_type F_X12_type
  rw [e_in, l1, l8]
  by_cases p : 1 ≤ x2.toInt ∧ x2.toInt ≤ 8
  · obtain ⟨i, hi, rfl⟩ := ix_nI (x := x2) (T := 9) (by omega) (by omega)
    have ti := ti_nI (n := i) (by omega)
    rw [if_pos p, if_neg (fun z => absurd ((lt_of rfl t1).mp z) (by omega)), if_pos ((le_of rfl t8).mpr (by omega))]
    unfold F_X9_append
    rw [show (300 : Int32) - nI m = nI (300 - m) from pk_sub (a := 300) hm, nI_add]
    by_cases q : m + i ≤ 300
    · obtain ⟨b2, t2, e1, e2, e3⟩ := e_typeL x1 FU_ i m bytes text (by omega) (by unfold FU_; omega) q hr
      rw [if_pos ((nI_leI (by omega) (by omega)).mpr (by omega)), e1]
      simp only [Option.bind_some, i_10, if_true, if_false]
      rw [if_pos ((le_of (ti_nI (by omega)) tl_300).mpr (by omega)), e2]
      exact ⟨_, _, rfl, rfl, rfl, m + i, q, rfl, rfl, e3⟩
    · rw [if_neg (fun z => absurd ((nI_leI (by omega) (by omega)).mp z) (by omega))]
      simp only [Option.bind_some, i_10, if_true, if_false]
      rw [if_neg (fun z => absurd ((le_of (ti_nI (by omega)) tl_300).mp z) (by omega))]
      exact ⟨_, _, rfl, rfl, rfl, hR0⟩
  · rw [if_neg p]
    by_cases z : x2 < 1
    · rw [if_pos z]
      exact ⟨_, _, rfl, rfl, rfl, hR0⟩
    · rw [if_neg z, if_neg (fun y => p ⟨by have := (not_congr (lt_of rfl t1)).mp z; omega, (le_of rfl t8).mp y⟩)]
      exact ⟨_, _, rfl, rfl, rfl, hR0⟩
end CO9
