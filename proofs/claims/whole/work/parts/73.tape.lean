/-! the tape -/
theorem sgn_toInt {t : Nat} (h : t < 256) : (sgn t).toInt = if t < 128 then (t : Int) else (t : Int) - 256 := by
  unfold sgn
  by_cases q : t < 128
  · rw [if_pos q, if_pos q, nI_toInt (by omega)]
  · rw [if_neg q, if_neg q, ← Int32.zero_sub]
    have := pk_sub_toInt (a := 0) (b := 256 - t) (by omega) (by omega)
    rw [show (0 : Int32) = nI 0 from rfl, this]
    omega
theorem byte_v (p s : Int32) (k : Nat) (hk : k = 0 ∨ k = 8 ∨ k = 16 ∨ k = 24) (h1 : ((s.toUInt32 &&& Int32.toUInt32 31).toBitVec % 32).toNat = k) (h2 : ((s &&& 31).toBitVec.smod 32).toNat = k) : ∃ t, t < 256 ∧ (((Int32.toUInt32 p) >>> ((Int32.toUInt32 s) &&& Int32.toUInt32 31)).toInt32) &&& (255 : Int32) = nI t ∧ vp_nar .byte (Int8.toInt32 (Int32.toInt8 (p >>> (s &&& 31)))) = sgn t := by
  have hn : p.toBitVec.toNat < 4294967296 := p.toBitVec.isLt
  have hi : p.toInt = if 2 * p.toBitVec.toNat < 4294967296 then (p.toBitVec.toNat : Int) else (p.toBitVec.toNat : Int) - 4294967296 := by
    show p.toBitVec.toInt = _
    rw [BitVec.toInt_eq_toNat_cond]
    rfl
  refine ⟨p.toBitVec.toNat / 2 ^ k % 256, Nat.mod_lt _ (by omega), ?_, ?_⟩
  · rw [pk_and _ 8 (by rfl), pk_ushr p s k h1]
  · rw [pk_vb]
    refine Int32.toInt_inj.mp ?_
    rw [sgn_toInt (Nat.mod_lt _ (by omega)), Int8.toInt_toInt32, Int32.toInt_toInt8, pk_shr p (s &&& 31) k h2, Int.shiftRight_eq_div_pow, Int.bmod_def, hi]
    rcases hk with rfl | rfl | rfl | rfl <;> split <;> split <;> omega
