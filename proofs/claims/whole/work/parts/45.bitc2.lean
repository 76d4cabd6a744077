/-! the sums of bits -/
/-- how many bits there are below 64 -/
def bct (x : Nat) : Nat := fb_ct (fun i => x.testBit i) 64
theorem swar64 {x : Nat} (hx : x < 2 ^ 64) : ((((Tb 8 x + Tb 8 x / 256) + (Tb 8 x + Tb 8 x / 256) / 65536) + ((Tb 8 x + Tb 8 x / 256) + (Tb 8 x + Tb 8 x / 256) / 65536) / 4294967296)) % 128 = bct x ∧ ((((Tb 8 x + Tb 8 x / 256) + (Tb 8 x + Tb 8 x / 256) / 65536) + ((Tb 8 x + Tb 8 x / 256) + (Tb 8 x + Tb 8 x / 256) / 65536) / 4294967296)) < 2 ^ 63 := by
  have e : Tb 8 x = _ := (Tb_s 7 x)
  rw [Tb_s 6, Tb_s 5, Tb_s 4, Tb_s 3, Tb_s 2, Tb_s 1, Tb_s 0, Tb_0, Nat.mul_zero, Nat.add_zero] at e
  have b : ∀ y : Nat, fb_ct (fun i => y.testBit i) 8 ≤ 8 := fun y => fb_ct_le _ 8
  have c : bct x = _ := ct_s 56 x
  rw [ct_s 48, ct_s 40, ct_s 32, ct_s 24, ct_s 16, ct_s 8] at c
  have l : x / 256 / 256 / 256 / 256 / 256 / 256 / 256 % 256 = x / 256 / 256 / 256 / 256 / 256 / 256 / 256 := Nat.mod_eq_of_lt (by omega)
  obtain ⟨f1, f2⟩ := fold64 (b _) (b _) (b _) (b _) (b _) (b _) (b _) (b _) e rfl rfl rfl
  exact ⟨by rw [f1, c, l]; simp only [Nat.add_assoc], f2⟩
theorem ct_big {x m n : Nat} (hx : x < 2 ^ m) (hm : m ≤ n) : fb_ct (fun i => x.testBit i) n = fb_ct (fun i => x.testBit i) m := by
  obtain ⟨k, rfl⟩ : ∃ k, n = m + k := ⟨n - m, by omega⟩
  rw [fb_ct_split, fb_ct_zero.mpr (fun i _ => Nat.testBit_lt_two_pow (Nat.lt_of_lt_of_le hx (Nat.pow_le_pow_right (by decide) (Nat.le_add_right m i)))), Nat.add_zero]
theorem swar32 {x : Nat} (hx : x < 2 ^ 32) : ((Tb 4 x + Tb 4 x / 256) + (Tb 4 x + Tb 4 x / 256) / 65536) % 64 = bct x ∧ ((Tb 4 x + Tb 4 x / 256) + (Tb 4 x + Tb 4 x / 256) / 65536) < 2 ^ 31 := by
  have e : Tb 4 x = _ := (Tb_s 3 x)
  rw [Tb_s 2, Tb_s 1, Tb_s 0, Tb_0, Nat.mul_zero, Nat.add_zero] at e
  have b : ∀ y : Nat, fb_ct (fun i => y.testBit i) 8 ≤ 8 := fun y => fb_ct_le _ 8
  have c : fb_ct (fun i => x.testBit i) 32 = _ := ct_s 24 x
  rw [ct_s 16, ct_s 8] at c
  have l : x / 256 / 256 / 256 % 256 = x / 256 / 256 / 256 := Nat.mod_eq_of_lt (by omega)
  obtain ⟨f1, f2⟩ := fold32 (b _) (b _) (b _) (b _) e rfl rfl
  refine ⟨?_, f2⟩
  rw [f1, bct, ct_big hx (by decide), c, l]
  simp only [Nat.add_assoc]
theorem nb_cu : ∀ k, k < 64 → ((nI k).toInt64.toUInt64 &&& Int64.toUInt64 63) = UInt64.ofNat k := by decide +kernel
theorem lN_tb (n : Nat) : (lN n).toBitVec = BitVec.ofNat 64 n := rfl
theorem lN_tn {n : Nat} (h : n < 2 ^ 64) : (lN n).toBitVec.toNat = n := by rw [lN_tb, BitVec.toNat_ofNat, Nat.mod_eq_of_lt h]
theorem sl64 {n k : Nat} (hn : n < 2 ^ 64) (hk : k < 64) : ((lN n).toUInt64 >>> ((nI k).toInt64.toUInt64 &&& Int64.toUInt64 63)).toInt64 = lN (n / 2 ^ k) := by
  rw [nb_cu k hk]
  apply Int64.toBitVec_inj.mp
  apply BitVec.eq_of_toNat_eq
  show ((lN n).toUInt64 >>> UInt64.ofNat k).toNat = (BitVec.ofNat 64 _).toNat
  have h1 : (UInt64.ofNat k).toNat = k := by
    show (BitVec.ofNat 64 k).toNat = k
    rw [BitVec.toNat_ofNat, Nat.mod_eq_of_lt (by omega)]
  have h2 : (lN n).toUInt64.toNat = n := lN_tn hn
  rw [UInt64.toNat_shiftRight, h1, h2, Nat.mod_eq_of_lt hk, Nat.shiftRight_eq_div_pow, BitVec.toNat_ofNat, Nat.mod_eq_of_lt (Nat.lt_of_le_of_lt (Nat.div_le_self _ _) hn)]
theorem nb_su : ∀ k, k < 32 → (((nI k).toUInt32 &&& Int32.toUInt32 31).toBitVec % 32).toNat = k := by decide +kernel
theorem sl32 {n k : Nat} (hn : n < 2 ^ 32) (hk : k < 32) : ((nI n).toUInt32 >>> ((nI k).toUInt32 &&& Int32.toUInt32 31)).toInt32 = nI (n / 2 ^ k) := pk_ushrN hn _ k (nb_su k hk)
theorem lN_t (n : Nat) : (lN n).toInt32 = nI n := by
  apply Int32.toBitVec_inj.mp
  rw [Int64.toBitVec_toInt32]
  show (BitVec.ofNat 64 n).signExtend 32 = BitVec.ofNat 32 n
  apply BitVec.eq_of_getLsbD_eq
  intro i hi
  rw [BitVec.getLsbD_signExtend, if_pos (show i < 64 by omega), BitVec.getLsbD_ofNat, BitVec.getLsbD_ofNat]
  simp only [hi, decide_true, Bool.true_and, show i < 64 by omega]
theorem nb_127 (n : Nat) : nI n &&& 127 = nI (n % 128) := by
  show nI n &&& nI (2 ^ 7 - 1) = _
  rw [nb_and, Nat.and_two_pow_sub_one_eq_mod]
theorem nb_63 (n : Nat) : nI n &&& 63 = nI (n % 64) := by
  show nI n &&& nI (2 ^ 6 - 1) = _
  rw [nb_and, Nat.and_two_pow_sub_one_eq_mod]
