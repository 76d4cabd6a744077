/-! the class's counting of bits, run -/
section
variable {X : av_X} {d : Nat} {h : av_H}
theorem c_bc32 {n : Nat} (hn : n < 2 ^ 32) : ev X (d + 1) 377 [vi (nI n)] h = av_rI (nI (bct n)) h := by
  have b1 : S1 4 n < 2 ^ 32 := Nat.lt_of_le_of_lt (Nat.sub_le _ _) hn
  have m5 : mk 51 4 < 2 ^ 30 := by decide
  have b2 : S2 4 (S1 4 n) < 2 ^ 31 := by
    have x1 : S1 4 n &&& mk 51 4 ≤ mk 51 4 := Nat.and_le_right
    have x2 : S1 4 n / 4 &&& mk 51 4 ≤ mk 51 4 := Nat.and_le_right
    rw [S2]
    omega
  have b3 : Tb 4 n < 2 ^ 28 := Nat.lt_of_le_of_lt (Nat.and_le_right) (by decide)
  obtain ⟨f1, f2⟩ := swar32 hn
  have e1 : nI n - ((((nI n).toUInt32 >>> ((1 : Int32).toUInt32 &&& Int32.toUInt32 31)).toInt32) &&& (1431655765 : Int32)) = nI (S1 4 n) := by
    show nI n - ((((nI n).toUInt32 >>> ((nI 1).toUInt32 &&& Int32.toUInt32 31)).toInt32) &&& nI (mk 85 4)) = _
    rw [sl32 hn (by decide), nb_and, pk_sub (Nat.le_trans Nat.and_le_left (Nat.div_le_self _ _))]
    rfl
  have e2 : (nI (S1 4 n) &&& (858993459 : Int32)) + ((((nI (S1 4 n)).toUInt32 >>> ((2 : Int32).toUInt32 &&& Int32.toUInt32 31)).toInt32) &&& (858993459 : Int32)) = nI (S2 4 (S1 4 n)) := by
    show (nI (S1 4 n) &&& nI (mk 51 4)) + ((((nI (S1 4 n)).toUInt32 >>> ((nI 2).toUInt32 &&& Int32.toUInt32 31)).toInt32) &&& nI (mk 51 4)) = _
    rw [sl32 b1 (by decide), nb_and, nb_and, nI_add]
    rfl
  have e3 : (nI (S2 4 (S1 4 n)) + (((nI (S2 4 (S1 4 n))).toUInt32 >>> ((4 : Int32).toUInt32 &&& Int32.toUInt32 31)).toInt32)) &&& (252645135 : Int32) = nI (Tb 4 n) := by
    show (nI (S2 4 (S1 4 n)) + (((nI (S2 4 (S1 4 n))).toUInt32 >>> ((nI 4).toUInt32 &&& Int32.toUInt32 31)).toInt32)) &&& nI (mk 15 4) = _
    rw [sl32 (by omega) (by decide), nI_add, nb_and]
    rfl
  have e4 : nI (Tb 4 n) + (((nI (Tb 4 n)).toUInt32 >>> ((8 : Int32).toUInt32 &&& Int32.toUInt32 31)).toInt32) = nI (Tb 4 n + Tb 4 n / 256) := by
    show nI (Tb 4 n) + (((nI (Tb 4 n)).toUInt32 >>> ((nI 8).toUInt32 &&& Int32.toUInt32 31)).toInt32) = _
    rw [sl32 (by omega) (by decide), nI_add]
  have e5 : nI (Tb 4 n + Tb 4 n / 256) + (((nI (Tb 4 n + Tb 4 n / 256)).toUInt32 >>> ((16 : Int32).toUInt32 &&& Int32.toUInt32 31)).toInt32) = nI ((Tb 4 n + Tb 4 n / 256) + (Tb 4 n + Tb 4 n / 256) / 65536) := by
    show nI (Tb 4 n + Tb 4 n / 256) + (((nI (Tb 4 n + Tb 4 n / 256)).toUInt32 >>> ((nI 16).toUInt32 &&& Int32.toUInt32 31)).toInt32) = _
    rw [sl32 (by omega) (by decide), nI_add]
  rw [e_377, b_377_0, e1, e2, e3, e4, e5, nb_63, f1]
theorem c_bc32' {n : Nat} (hn : n < 2 ^ 32) {β : Type} (Kc : Int32 × av_H → Option β) : (av_cI (ev X (d + 1) 377 [vi (nI n)] h)).bind Kc = Kc (nI (bct n), h) := by rw [c_bc32 hn]; rfl
theorem c_bc64 {n : Nat} (hn : n < 2 ^ 64) : ev X (d + 1) 378 [vl (lN n)] h = av_rI (nI (bct n)) h := by
  have b1 : S1 8 n < 2 ^ 64 := Nat.lt_of_le_of_lt (Nat.sub_le _ _) hn
  have m5 : mk 51 8 < 2 ^ 62 := by decide
  have b2 : S2 8 (S1 8 n) < 2 ^ 63 := by
    have x1 : S1 8 n &&& mk 51 8 ≤ mk 51 8 := Nat.and_le_right
    have x2 : S1 8 n / 4 &&& mk 51 8 ≤ mk 51 8 := Nat.and_le_right
    rw [S2]
    omega
  have b3 : Tb 8 n < 2 ^ 60 := Nat.lt_of_le_of_lt (Nat.and_le_right) (by decide)
  obtain ⟨f1, f2⟩ := swar64 hn
  have e1 : lN n - ((((lN n).toUInt64 >>> ((1 : Int32).toInt64.toUInt64 &&& Int64.toUInt64 63)).toInt64) &&& (6148914691236517205 : Int64)) = lN (S1 8 n) := by
    show lN n - ((((lN n).toUInt64 >>> ((nI 1).toInt64.toUInt64 &&& Int64.toUInt64 63)).toInt64) &&& lN (mk 85 8)) = _
    rw [sl64 hn (by decide), fb_andL, lN_sub (Nat.le_trans Nat.and_le_left (Nat.div_le_self _ _))]
    rfl
  have e2 : (lN (S1 8 n) &&& (3689348814741910323 : Int64)) + ((((lN (S1 8 n)).toUInt64 >>> ((2 : Int32).toInt64.toUInt64 &&& Int64.toUInt64 63)).toInt64) &&& (3689348814741910323 : Int64)) = lN (S2 8 (S1 8 n)) := by
    show (lN (S1 8 n) &&& lN (mk 51 8)) + ((((lN (S1 8 n)).toUInt64 >>> ((nI 2).toInt64.toUInt64 &&& Int64.toUInt64 63)).toInt64) &&& lN (mk 51 8)) = _
    rw [sl64 b1 (by decide), fb_andL, fb_andL, lN_add]
    rfl
  have e3 : (lN (S2 8 (S1 8 n)) + (((lN (S2 8 (S1 8 n))).toUInt64 >>> ((4 : Int32).toInt64.toUInt64 &&& Int64.toUInt64 63)).toInt64)) &&& (1085102592571150095 : Int64) = lN (Tb 8 n) := by
    show (lN (S2 8 (S1 8 n)) + (((lN (S2 8 (S1 8 n))).toUInt64 >>> ((nI 4).toInt64.toUInt64 &&& Int64.toUInt64 63)).toInt64)) &&& lN (mk 15 8) = _
    rw [sl64 (by omega) (by decide), lN_add, fb_andL]
    rfl
  have e4 : lN (Tb 8 n) + (((lN (Tb 8 n)).toUInt64 >>> ((8 : Int32).toInt64.toUInt64 &&& Int64.toUInt64 63)).toInt64) = lN (Tb 8 n + Tb 8 n / 256) := by
    show lN (Tb 8 n) + (((lN (Tb 8 n)).toUInt64 >>> ((nI 8).toInt64.toUInt64 &&& Int64.toUInt64 63)).toInt64) = _
    rw [sl64 (by omega) (by decide), lN_add]
  have e5 : lN (Tb 8 n + Tb 8 n / 256) + (((lN (Tb 8 n + Tb 8 n / 256)).toUInt64 >>> ((16 : Int32).toInt64.toUInt64 &&& Int64.toUInt64 63)).toInt64) = lN ((Tb 8 n + Tb 8 n / 256) + (Tb 8 n + Tb 8 n / 256) / 65536) := by
    show lN (Tb 8 n + Tb 8 n / 256) + (((lN (Tb 8 n + Tb 8 n / 256)).toUInt64 >>> ((nI 16).toInt64.toUInt64 &&& Int64.toUInt64 63)).toInt64) = _
    rw [sl64 (by omega) (by decide), lN_add]
  have e6 : lN ((Tb 8 n + Tb 8 n / 256) + (Tb 8 n + Tb 8 n / 256) / 65536) + (((lN ((Tb 8 n + Tb 8 n / 256) + (Tb 8 n + Tb 8 n / 256) / 65536)).toUInt64 >>> ((32 : Int32).toInt64.toUInt64 &&& Int64.toUInt64 63)).toInt64) = lN (((Tb 8 n + Tb 8 n / 256) + (Tb 8 n + Tb 8 n / 256) / 65536) + ((Tb 8 n + Tb 8 n / 256) + (Tb 8 n + Tb 8 n / 256) / 65536) / 4294967296) := by
    show lN ((Tb 8 n + Tb 8 n / 256) + (Tb 8 n + Tb 8 n / 256) / 65536) + (((lN ((Tb 8 n + Tb 8 n / 256) + (Tb 8 n + Tb 8 n / 256) / 65536)).toUInt64 >>> ((nI 32).toInt64.toUInt64 &&& Int64.toUInt64 63)).toInt64) = _
    rw [sl64 (by omega) (by decide), lN_add]
  rw [e_378, b_378_0, e1, e2, e3, e4, e5, e6, lN_t, nb_127, f1]
theorem c_bc64' {n : Nat} (hn : n < 2 ^ 64) {β : Type} (Kc : Int32 × av_H → Option β) : (av_cI (ev X (d + 1) 378 [vl (lN n)] h)).bind Kc = Kc (nI (bct n), h) := by rw [c_bc64 hn]; rfl
end
