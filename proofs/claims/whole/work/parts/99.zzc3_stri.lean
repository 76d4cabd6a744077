/-! String.indexOf on the three constants -/
def ks_ixv (c : Int32) (t : List Int32) (k : Nat) : Int32 := match av_ix c t k with
  | none => -1
  | some k => Int32.ofNat k
theorem ks_rng : ∀ i, i < 3 → ∀ x ∈ av_tx.getD i [], ¬ x < 0 ∧ ¬ 127 < x := by decide +kernel
theorem ks_b8 : ∀ n, n < 256 → (nI n).toInt8.toInt32 = nI n ∨ ((nI n).toInt8.toInt32 < 0 ∧ 127 < nI n) := by decide +kernel
theorem ks_mem {i j : Nat} (hi : i < 3) (hj : j < ks_len.getD i 0) : (av_tx.getD i [])[j]? = some ((av_tx.getD i []).getD j 0) := by
  have h : j < (av_tx.getD i []).length := by rw [← (ks_tab i hi).1]; exact hj
  generalize av_tx.getD i [] = t at h ⊢
  rw [List.getD_eq_getElem?_getD, List.getElem?_eq_getElem h]
  rfl
theorem ks_bc {i j n : Nat} (hi : i < 3) (hj : j < ks_len.getD i 0) (hn : n < 256) : (av_tx.getD i []).getD j 0 = (nI n).toInt8.toInt32 ↔ (av_tx.getD i []).getD j 0 = nI n := by
  obtain ⟨h1, h2⟩ := ks_rng i hi _ (List.mem_of_getElem? (ks_mem hi hj))
  rcases ks_b8 n hn with e | ⟨e1, e2⟩
  · rw [e]
  · exact ⟨fun h => absurd (by rw [h]; exact e1) h1, fun h => absurd (by rw [h]; exact e2) h2⟩
theorem ks_none {c : Int32} : ∀ (t : List Int32) (k : Nat), (∀ x ∈ t, x ≠ c) → ks_ixv c t k = -1
  | [], _, _ => rfl
  | x :: t, k, h => by
    have ih := ks_none t (k + 1) (fun y hy => h y (List.mem_cons_of_mem _ hy))
    unfold ks_ixv at ih ⊢
    rw [av_ix, if_neg (h x List.mem_cons_self)]
    exact ih
theorem ks_drop {i k : Nat} (hi : i < 3) (hk : k < ks_len.getD i 0) : (av_tx.getD i []).drop k = (av_tx.getD i []).getD k 0 :: (av_tx.getD i []).drop (k + 1) := by
  have h : k < (av_tx.getD i []).length := by rw [← (ks_tab i hi).1]; exact hk
  rw [List.drop_eq_getElem_cons h]
  congr 1
  have := ks_mem hi hk
  rw [List.getElem?_eq_getElem h] at this
  exact Option.some.inj this
section
variable (l : Launch) (adK adV : Nat → Nat)
theorem ks_enc1 {c : Int32} (h1 : ¬ c < 0) (h2 : ¬ 255 < c) : ks_M l adK adV sy_enc prog_24_method_4_code 1 (some .boolean) 1 [.int c] (ks_Q 1) := by
  refine ks_met (by decide) (Nat.le_of_ble_eq_true rfl) ?_
  intro p e s m below meth c ls hx hb hr hml hown hts hlocks hE hl
  have hl : lv_has ls 1 [(0, .int _)] := hl
  have hS : va_S ks_N s.heap s.heap [] := va_S.rf
  refine lv_iload_n hx hb sd_enc_0 rfl (lv_at hl 0 rfl) ?_
  refine lv_if_lt hx hb (tgt := 15) sd_enc_1 (by decide) (fun h => absurd h h1) (fun _ => ?_)
  refine lv_iload_n hx hb sd_enc_4 rfl (lv_at hl 0 rfl) ?_
  refine lv_sipush hx hb sd_enc_5 (v := 255) (by decide) ?_
  refine lv_icmp_gt hx hb (tgt := 15) sd_enc_8 (by decide) (fun h => absurd h h2) (fun _ => ?_)
  refine lv_iconst hx hb sd_enc_11 (v := 1) (by decide) ?_
  refine lv_goto hx hb (tgt := 16) sd_enc_12 (by decide) ?_
  exact W.zret hx hb hr (by decide) (fun t ht hW => ⟨⟨1, (), rfl, rfl, trivial⟩, hS.F ht⟩) hS.2.2 sd_enc_16
theorem ks_enc0 {c : Int32} (h1 : c < 0 ∨ 255 < c) : ks_M l adK adV sy_enc prog_24_method_4_code 1 (some .boolean) 1 [.int c] (ks_Q 0) := by
  refine ks_met (by decide) (Nat.le_of_ble_eq_true rfl) ?_
  intro p e s m below meth c ls hx hb hr hml hown hts hlocks hE hl
  have hl : lv_has ls 1 [(0, .int _)] := hl
  have hS : va_S ks_N s.heap s.heap [] := va_S.rf
  refine lv_iload_n hx hb sd_enc_0 rfl (lv_at hl 0 rfl) ?_
  refine lv_if_lt hx hb (tgt := 15) sd_enc_1 (by decide) (fun _ => ?_) (fun h => ?_)
  · refine lv_iconst hx hb sd_enc_15 (v := 0) (by decide) ?_
    exact W.zret hx hb hr (by decide) (fun t ht hW => ⟨⟨0, (), rfl, rfl, trivial⟩, hS.F ht⟩) hS.2.2 sd_enc_16
  refine lv_iload_n hx hb sd_enc_4 rfl (lv_at hl 0 rfl) ?_
  refine lv_sipush hx hb sd_enc_5 (v := 255) (by decide) ?_
  refine lv_icmp_gt hx hb (tgt := 15) sd_enc_8 (by decide) (fun _ => ?_) (fun h2 => absurd (h1.resolve_left h) h2)
  refine lv_iconst hx hb sd_enc_15 (v := 0) (by decide) ?_
  exact W.zret hx hb hr (by decide) (fun t ht hW => ⟨⟨0, (), rfl, rfl, trivial⟩, hS.F ht⟩) hS.2.2 sd_enc_16
set_option maxHeartbeats 2000000 in
theorem ks_lix {i n : Nat} (hi : i < 3) (hn : n < 256) : ks_M l adK adV sy_l_char prog_24_method_23_code 6 (some .int) 1 [.ref (adV i), .int (nI n), .int 0, .int (nI (ks_len.getD i 0))] (ks_Q (ks_ixv (nI n) (av_tx.getD i []) 0)) := by
  refine ks_met (by decide) (Nat.le_of_ble_eq_true rfl) ?_
  intro p e s m below meth c ls hx hb hr hml hown hts hlocks hE hl
  have hl : lv_has ls 6 [(0, .ref (adV i)), (1, .int (nI n)), (2, .int 0), (3, .int (nI (ks_len.getD i 0)))] := hl
  have hS : va_S ks_N s.heap s.heap [] := va_S.rf
  have hN : ks_len.getD i 0 < 2 ^ 31 := by have := (ks_tab i hi).2.2.2; omega
  have hT := (hE.1.1 i hi).2.2.2
  generalize hv : ks_ixv (nI n) (av_tx.getD i []) 0 = v
  have loop : ∀ (q k : Nat) (ls : Array Slot), k + q = ks_len.getD i 0 → ks_ixv (nI n) ((av_tx.getD i []).drop k) k = v → lv_has ls 6 [(5, .int (nI k)), (4, .int (nI n).toInt8.toInt32), (0, .ref (adV i)), (1, .int (nI n)), (2, .int 0), (3, .int (nI (ks_len.getD i 0)))] →
      W p l e (ks_rm 1) s m [Value.ref (adV i), Value.int (nI n), Value.int 0, Value.int (nI (ks_len.getD i 0))].toArray below meth c s.heap [] 0 0 (MQ below (ks_Q v) [Value.ref (adV i), Value.int (nI n), Value.int 0, Value.int (nI (ks_len.getD i 0))].toArray s 0 0 ks_N) (F0 m 7 ls []) := by
    intro q
    induction q with
    | zero =>
      intro k ls hk hv hl
      refine lv_iload hx hb sd_l_char_7 (lv_at hl 0 rfl) ?_
      refine lv_iload_n hx hb sd_l_char_9 rfl (lv_at hl 5 rfl) ?_
      refine lv_icmp_ge hx hb (tgt := 31) sd_l_char_10 (by decide) (fun _ => ?_) (fun h => absurd (nI_le (by omega) (by omega)) h)
      refine lv_iconst hx hb sd_l_char_31 (v := -1) (by decide) ?_
      have e : v = -1 := by
        rw [← hv, List.drop_eq_nil_of_le (by rw [← (ks_tab i hi).1]; omega)]
        rfl
      rw [e]
      exact W.iret hx hb hr (fun t ht hW => ⟨⟨_, (), rfl, rfl, trivial⟩, hS.F ht⟩) hS.2.2 sd_l_char_32
    | succ q ih =>
      intro k ls hk hv hl
      have hk2 : k < ks_len.getD i 0 := by omega
      rw [ks_drop hi hk2] at hv
      unfold ks_ixv at hv
      rw [av_ix] at hv
      refine lv_iload hx hb sd_l_char_7 (lv_at hl 0 rfl) ?_
      refine lv_iload_n hx hb sd_l_char_9 rfl (lv_at hl 5 rfl) ?_
      refine lv_icmp_ge hx hb (tgt := 31) sd_l_char_10 (by decide) (fun h => absurd h (nI_ge hk2 hN)) (fun _ => ?_)
      refine lv_aload_n hx hb sd_l_char_13 rfl (lv_at hl 2 rfl) ?_
      refine lv_iload hx hb sd_l_char_14 (lv_at hl 0 rfl) ?_
      refine va_tb hx hb hT hS (nI_in hk2 hN) (v := .int ((av_tx.getD i []).getD k 0)) (by rw [nI_clamp (by omega)]) sd_l_char_16 ?_
      refine lv_iload hx hb sd_l_char_17 (lv_at hl 1 rfl) ?_
      refine lv_icmp_ne hx hb (tgt := 25) sd_l_char_19 (by decide) (fun h => ?_) (fun h => ?_)
      · rw [if_neg (fun z => h ((ks_bc hi hk2 hn).mpr z))] at hv
        refine lv_iinc (k := 0) (x := nI k) (v := nI (k + 1)) (lv' := [(5, .int (nI (k + 1))), (4, .int (nI n).toInt8.toInt32), (0, .ref (adV i)), (1, .int (nI n)), (2, .int 0), (3, .int (nI (ks_len.getD i 0)))]) hx hb sd_l_char_25 hl rfl (nI_1 k) (by decide) rfl (fun ls2 hl2 => ?_)
        refine lv_goto hx hb (tgt := 7) sd_l_char_28 (by decide) ?_
        exact ih (k + 1) ls2 (by omega) hv hl2
      · rw [if_pos ((ks_bc hi hk2 hn).mp h)] at hv
        refine lv_iload hx hb sd_l_char_22 (lv_at hl 0 rfl) ?_
        have e : v = nI k := hv.symm
        rw [e]
        exact W.iret hx hb hr (fun t ht hW => ⟨⟨_, (), rfl, rfl, trivial⟩, hS.F ht⟩) hS.2.2 sd_l_char_24
  refine lv_iload_n hx hb sd_l_char_0 rfl (lv_at hl 1 rfl) ?_
  refine lv_i2b hx hb sd_l_char_1 rfl ?_
  refine lv_istore (lv' := [(4, .int (nI n).toInt8.toInt32), (0, .ref (adV i)), (1, .int (nI n)), (2, .int 0), (3, .int (nI (ks_len.getD i 0)))]) hx hb sd_l_char_2 hl (by decide) rfl (fun ls2 hl2 => ?_)
  refine lv_iload_n hx hb sd_l_char_4 rfl (lv_at hl2 3 rfl) ?_
  refine lv_istore (lv' := [(5, .int (nI 0)), (4, .int (nI n).toInt8.toInt32), (0, .ref (adV i)), (1, .int (nI n)), (2, .int 0), (3, .int (nI (ks_len.getD i 0)))]) hx hb sd_l_char_5 hl2 (by decide) rfl (fun ls3 hl3 => ?_)
  exact loop _ 0 ls3 (Nat.zero_add _) hv hl3
theorem ks_l1 {i : Nat} (c : Int32) (hi : i < 3) : ks_M l adK adV sy_l_indexOf prog_24_method_22_code 4 (some .int) 2 [.ref (adV i), .int c, .int 0, .int (nI (ks_len.getD i 0))] (ks_Q (ks_ixv c (av_tx.getD i []) 0)) := by
  by_cases hc : c < 0 ∨ 255 < c
  · have hv : ks_ixv c (av_tx.getD i []) 0 = -1 := ks_none _ _ (fun x hx e => by
      obtain ⟨h1, h2⟩ := ks_rng i hi x hx
      rw [e] at h1 h2
      rcases hc with h | h
      · exact h1 h
      · exact h2 (Int32.lt_trans (by decide) h))
    rw [hv]
    refine ks_met (by decide) (Nat.le_of_ble_eq_true rfl) ?_
    intro p e s m below meth c2 ls hx hb hr hml hown hts hlocks hE hl
    have hl : lv_has ls 4 [(0, .ref (adV i)), (1, .int c), (2, .int 0), (3, .int (nI (ks_len.getD i 0)))] := hl
    have hown : s.vm.findClass "java/lang/StringLatin1" = some m.cls := hown
    have hS : va_S ks_N s.heap s.heap [] := va_S.rf
    refine lv_iload_n hx hb sd_l_indexOf_0 rfl (lv_at hl 1 rfl) ?_
    refine ks_ci (ks_runS (As := [.int c]) (rest := []) hx hb hml hown hts (fun U h1 h2 => hE.to hS h1 h2.alike) (ks_enc0 l adK adV hc) ⟨sw_enc_lL, sw_enc_k, sw_i_L1, sw_enc_c⟩ (n := 1) (by decide) rfl (by decide) hl.1 (by decide) ⟨Nat.le_refl _, Nat.le_refl _⟩ rfl sd_l_indexOf_1) hS (fun H1 locs1 z1 o1 hS1 => ?_)
    refine lv_if_ne hx hb (tgt := 9) sd_l_indexOf_4 (by decide) (fun h => absurd rfl h) (fun _ => ?_)
    refine lv_iconst hx hb sd_l_indexOf_7 (v := -1) (by decide) ?_
    exact W.iret hx hb hr (fun t ht hW => ⟨⟨_, (), rfl, rfl, trivial⟩, hS1.F ht⟩) hS1.2.2 sd_l_indexOf_8
  · have h1 : ¬ c < 0 := fun h => hc (Or.inl h)
    have h2 : ¬ 255 < c := fun h => hc (Or.inr h)
    obtain ⟨n, hn, rfl⟩ := nI_of h1
    have hn2 : n < 256 := by
      by_cases h : n < 256
      · exact h
      · exact absurd (nI_lt (a := 255) (by omega) hn) h2
    have hN := (ks_tab i hi).2.2
    refine ks_met (by decide) (Nat.le_of_ble_eq_true rfl) ?_
    intro p e s m below meth c2 ls hx hb hr hml hown hts hlocks hE hl
    have hl : lv_has ls 4 [(0, .ref (adV i)), (1, .int (nI n)), (2, .int 0), (3, .int (nI (ks_len.getD i 0)))] := hl
    have hown : s.vm.findClass "java/lang/StringLatin1" = some m.cls := hown
    have hS : va_S ks_N s.heap s.heap [] := va_S.rf
    refine lv_iload_n hx hb sd_l_indexOf_0 rfl (lv_at hl 1 rfl) ?_
    refine ks_ci (ks_runS (As := [.int (nI n)]) (rest := []) hx hb hml hown hts (fun U h1 h2 => hE.to hS h1 h2.alike) (ks_enc1 l adK adV h1 h2) ⟨sw_enc_lL, sw_enc_k, sw_i_L1, sw_enc_c⟩ (n := 1) (by decide) rfl (by decide) hl.1 (by decide) ⟨Nat.le_refl _, Nat.le_refl _⟩ rfl sd_l_indexOf_1) hS (fun H1 locs1 z1 o1 hS1 => ?_)
    refine lv_if_ne hx hb (tgt := 9) sd_l_indexOf_4 (by decide) (fun _ => ?_) (fun h => absurd h (by decide))
    refine lv_iload_n hx hb sd_l_indexOf_9 rfl (lv_at hl 2 rfl) ?_
    refine lv_iconst hx hb sd_l_indexOf_10 (v := 0) (by decide) ?_
    refine va_mmax hx hb (hml.trans hl.1.symm) hown (hts _ sw_max_l) (hts _ sw_max_k) (hts _ sw_i_Math) (hts _ sw_max_c) (by decide) (by decide) (by decide) (by decide) sd_l_indexOf_11 ?_
    rw [ite_self]
    refine lv_istore_n (lv' := [(2, .int 0), (0, .ref (adV i)), (1, .int (nI n)), (3, .int (nI (ks_len.getD i 0)))]) hx hb sd_l_indexOf_14 rfl hl (by decide) rfl (fun ls2 hl2 => ?_)
    refine lv_iload_n hx hb sd_l_indexOf_15 rfl (lv_at hl2 3 rfl) ?_
    refine lv_aload_n hx hb sd_l_indexOf_16 rfl (lv_at hl2 1 rfl) ?_
    refine va_tlen hx hb (hE.1.1 i hi).2.2.2 hS1 (v := nI (ks_len.getD i 0)) rfl sd_l_indexOf_17 ?_
    refine va_mmin hx hb (hml.trans hl2.1.symm) hown (hts _ sw_min_l) (hts _ sw_min_k) (hts _ sw_i_Math) (hts _ sw_min_c) (by decide) (by decide) (by decide) (by decide) sd_l_indexOf_18 ?_
    rw [ite_self]
    refine lv_istore_n (lv' := [(3, .int (nI (ks_len.getD i 0))), (2, .int 0), (0, .ref (adV i)), (1, .int (nI n))]) hx hb sd_l_indexOf_21 rfl hl2 (by decide) rfl (fun ls3 hl3 => ?_)
    refine lv_iload_n hx hb sd_l_indexOf_22 rfl (lv_at hl3 1 rfl) ?_
    refine lv_iload_n hx hb sd_l_indexOf_23 rfl (lv_at hl3 0 rfl) ?_
    refine lv_icmp_lt hx hb (tgt := 29) sd_l_indexOf_24 (by decide) (fun _ => ?_) (fun h => absurd (nI_lt (a := 0) hN.1 (by omega)) h)
    refine lv_aload_n hx hb sd_l_indexOf_29 rfl (lv_at hl3 2 rfl) ?_
    refine lv_iload_n hx hb sd_l_indexOf_30 rfl (lv_at hl3 3 rfl) ?_
    refine lv_iload_n hx hb sd_l_indexOf_31 rfl (lv_at hl3 1 rfl) ?_
    refine lv_iload_n hx hb sd_l_indexOf_32 rfl (lv_at hl3 0 rfl) ?_
    refine ks_ci (ks_runS (As := [.ref (adV i), .int (nI n), .int 0, .int (nI (ks_len.getD i 0))]) (rest := []) hx hb hml hown hts (fun U h1 h2 => hE.to hS1 h1 h2.alike) (ks_lix l adK adV hi hn2) ⟨sw_l_char_lL, sw_l_char_k, sw_i_L1, sw_l_char_c⟩ (n := 4) (by decide) rfl (by decide) hl3.1 (by decide) ⟨Nat.le_refl _, Nat.le_refl _⟩ rfl sd_l_indexOf_33) hS1 (fun H2 locs2 z2 o2 hS2 => ?_)
    exact W.iret hx hb hr (fun t ht hW => ⟨⟨_, (), rfl, rfl, trivial⟩, hS2.F ht⟩) hS2.2.2 sd_l_indexOf_36
theorem ks_ix2 {i : Nat} (c : Int32) (hi : i < 3) : ks_M l adK adV sy_indexOf2 prog_23_method_80_code 3 (some .int) 3 [.ref (adK i), .int c, .int 0] (ks_Q (ks_ixv c (av_tx.getD i []) 0)) := by
  refine ks_met (by decide) (Nat.le_of_ble_eq_true rfl) ?_
  intro p e s m below meth c2 ls hx hb hr hml hown hts hlocks hE hl
  have hl : lv_has ls 3 [(0, .ref (adK i)), (1, .int c), (2, .int 0)] := hl
  have hown : s.vm.findClass "java/lang/String" = some m.cls := hown
  have hS : va_S ks_N s.heap s.heap [] := va_S.rf
  refine lv_aload_n hx hb sd_indexOf2_0 rfl (lv_at hl 0 rfl) ?_
  refine ks_ci (ks_runV (As := []) (b := adK i) (rest := []) hx hb hml hown hts (fun U h1 h2 => hE.to hS h1 h2.alike) (ks_latin l adK adV hi) ⟨sw_isLatin1_lS, sw_isLatin1_k, sw_isLatin1_s, sw_i_S, sw_isLatin1_c⟩ (vk_recv hE.1 hi hS) (n := 0) (by decide) rfl (by decide) hl.1 (by decide) ⟨Nat.le_refl _, Nat.le_refl _⟩ rfl sd_indexOf2_1) hS (fun H1 locs1 z1 o1 hS1 => ?_)
  refine lv_if_eq hx hb (tgt := 23) sd_indexOf2_4 (by decide) (fun h => absurd h (by decide)) (fun _ => ?_)
  refine lv_aload_n hx hb sd_indexOf2_7 rfl (lv_at hl 0 rfl) ?_
  refine vk_getf (ref := "java/lang/String") hx hb (hE.1.1 i hi).2.2.1 hS1 hown (hts _ sw_f_value) (fun _ h => h) sd_indexOf2_8 ?_
  refine lv_iload_n hx hb sd_indexOf2_11 rfl (lv_at hl 1 rfl) ?_
  refine lv_iload_n hx hb sd_indexOf2_12 rfl (lv_at hl 2 rfl) ?_
  refine lv_aload_n hx hb sd_indexOf2_13 rfl (lv_at hl 0 rfl) ?_
  refine ks_ci (ks_runV (As := []) (b := adK i) (rest := [.int 0, .int c, .ref (adV i)]) hx hb hml hown hts (fun U h1 h2 => hE.to hS1 h1 h2.alike) (ks_length l adK adV hi) ⟨sw_length_lS, sw_length_k, sw_length_s, sw_i_S, sw_length_c⟩ (vk_recv hE.1 hi hS1) (n := 0) (by decide) rfl (by decide) hl.1 (Nat.le_of_ble_eq_true rfl) ⟨Nat.le_refl _, Nat.le_refl _⟩ rfl sd_indexOf2_14) hS1 (fun H2 locs2 z2 o2 hS2 => ?_)
  refine ks_ci (ks_runS (As := [.ref (adV i), .int c, .int 0, .int (nI (ks_len.getD i 0))]) (rest := []) hx hb hml hown hts (fun U h1 h2 => hE.to hS2 h1 h2.alike) (ks_l1 l adK adV c hi) ⟨sw_l_indexOf_lS, sw_l_indexOf_k, sw_i_L1, sw_l_indexOf_c⟩ (n := 4) (by decide) rfl (by decide) hl.1 (by decide) ⟨Nat.le_refl _, Nat.le_refl _⟩ rfl sd_indexOf2_17) hS2 (fun H3 locs3 z3 o3 hS3 => ?_)
  refine lv_goto hx hb (tgt := 36) sd_indexOf2_20 (by decide) ?_
  exact W.iret hx hb hr (fun t ht hW => ⟨⟨_, (), rfl, rfl, trivial⟩, hS3.F ht⟩) hS3.2.2 sd_indexOf2_36
theorem ks_indexOf {i : Nat} (c : Int32) (hi : i < 3) : ks_M l adK adV sy_indexOf prog_23_method_79_code 2 (some .int) 4 [.ref (adK i), .int c] (ks_Q (ks_ixv c (av_tx.getD i []) 0)) := by
  refine ks_met (by decide) (Nat.le_of_ble_eq_true rfl) ?_
  intro p e s m below meth c2 ls hx hb hr hml hown hts hlocks hE hl
  have hl : lv_has ls 2 [(0, .ref (adK i)), (1, .int c)] := hl
  have hown : s.vm.findClass "java/lang/String" = some m.cls := hown
  have hS : va_S ks_N s.heap s.heap [] := va_S.rf
  refine lv_aload_n hx hb sd_indexOf_0 rfl (lv_at hl 0 rfl) ?_
  refine lv_iload_n hx hb sd_indexOf_1 rfl (lv_at hl 1 rfl) ?_
  refine lv_iconst hx hb sd_indexOf_2 (v := 0) (by decide) ?_
  refine ks_ci (ks_runV (As := [.int c, .int 0]) (b := adK i) (rest := []) hx hb hml hown hts (fun U h1 h2 => hE.to hS h1 h2.alike) (ks_ix2 l adK adV c hi) ⟨sw_indexOf2_lS, sw_indexOf2_k, sw_indexOf2_s, sw_i_S, sw_indexOf2_c⟩ (vk_recv hE.1 hi hS) (n := 2) (by decide) rfl (by decide) hl.1 (by decide) ⟨Nat.le_refl _, Nat.le_refl _⟩ rfl sd_indexOf_3) hS (fun H1 locs1 z1 o1 hS1 => ?_)
  exact W.iret hx hb hr (fun t ht hW => ⟨⟨_, (), rfl, rfl, trivial⟩, hS1.F ht⟩) hS1.2.2 sd_indexOf_6
end
