/-! gangs: the class chooses -/
section
variable {isE : Nat → Bool} {tg : Nat → Nat → Nat}
theorem chC_up {sw : Nat → Option Nat} {b : Option Nat} {u n e : Nat} (h : chC sw b u n = some e) : ∀ m, chC sw b u (n + m) = some e
  | 0 => h
  | m + 1 => by
    show chC sw b u ((n + m) + 1) = some e
    rw [chC, chC_up h m]
theorem gw_no {who : Nat} : ∀ k L, k ≤ 10 → ((isE who = false ∧ who < 10 - k) ∨ (isE who = true ∧ L.testBit who = false)) → gwV isE tg who k L = none
  | 0, _, _, _ => rfl
  | k + 1, L, hk, H => by
    rw [gwV]
    cases z : cW isE tg k L with
    | none =>
      dsimp only
      exact gw_no k L (by omega) (H.imp (fun q => ⟨q.1, by omega⟩) (fun q => q))
    | some e =>
      obtain ⟨a1, a2, a3, a4, a5⟩ := cW_s z
      dsimp only
      rw [if_neg (fun q => by
        rcases H with y | y
        · omega
        · rw [q, y.1] at a1
          cases a1), if_neg (fun q => by
        rcases H with y | y
        · rw [q, y.1] at a3
          cases a3
        · rw [q, y.2] at a4
          cases a4)]
      refine gw_no k _ (by omega) (H.imp (fun q => ⟨q.1, by omega⟩) (fun q => ⟨q.1, ?_⟩))
      rw [nd_bit, q.2, Bool.false_and]
theorem gN_no {k L : Nat} (z : isE (9 - k) = false) (c : cW isE tg k L = none) : gN isE tg (k + 1) L = gN isE tg k L := by
  rw [cW, z, if_neg (by decide)] at c
  have e1 : gN isE tg (k + 1) L = gI isE tg (gN isE tg k) (9 - k) L 10 := by rw [gN, z, if_neg (by decide)]
  rcases gI_in (isE := isE) (tg := tg) (g := gN isE tg k) (p := 9 - k) (L := L) 10 with y | ⟨e, h1, h2, h3, h4⟩
  · rw [e1, y]
  · refine absurd ?_ ((chW_s (isE := isE) 10).2 c e h1 h2 h3)
    rw [e1, h4]
    exact ⟨rfl, rfl⟩
end
section
variable {X : av_X} {d : Nat} {isE : Nat → Bool} {tg : Nat → Nat → Nat} {h0 : av_H}
theorem lbe_lp {h : av_H} (w : WF h) (G : CG isE tg h) {i u : Nat} (hi : i < (ocN isE 10)) (hu : u < 2 ^ (ecN isE 10)) (T : ∀ q, q ≤ (ocN isE 10) → TB isE tg h q) : ∀ m j, j + m = (ecN isE 10) → chC (swC isE tg ((ocN isE 10) - (i + 1)) i u) (bC isE tg ((ocN isE 10) - i) u) u j = none → bd X (d + 3) 34 2 [(0, vr (some 27)), (1, vi (nI i)), (2, vi (nI u)), (3, vi (nI j))] [] h = av_rI (oI (chC (swC isE tg ((ocN isE 10) - (i + 1)) i u) (bC isE tg ((ocN isE 10) - i) u) u (ecN isE 10))) h
  | 0, j, hj, H => by
    obtain rfl : j = (ecN isE 10) := by omega
    rw [H, b_34_2, gI_27_11 w, G.1, if_neg (nI_nlt (by omega) (by have := eo_p (isE := isE) 10; omega))]
    rfl
  | m + 1, j, hj, H => by
    have ep := eo_p (isE := isE) 10
    have u10 : u < 1024 := Nat.lt_of_lt_of_le hu (Nat.pow_le_pow_right (show 0 < 2 by decide) (show (ecN isE 10) ≤ 10 by omega))
    have ht : ∀ a b, a < 10 → b < 10 → tg a b ≤ 99 := fun a b ha hb => (G.2.2.2.2 a b ha hb).1
    have l1 := bC_le (isE := isE) ht ((ocN isE 10) - (i + 1))
    have l2 := bC_le (isE := isE) ht ((ocN isE 10) - i) u
    have l3 := sw_le (i := i) (used := u) (j := j) ht l1
    rw [b_34_2, gI_27_11 w, G.1, if_pos (nI_lt (by omega) (by omega)), c_hasBit' (by omega) (by omega), nI_1]
    cases b : u.testBit j with
    | true =>
      rw [if_neg (show ¬ bI true = 0 by decide)]
      exact lbe_lp w G hi hu T m (j + 1) (by omega) (by rw [chC, H]; dsimp only; rw [b, Bool.not_true, Bool.false_and, if_neg (by decide)])
    | false =>
      rw [if_pos (show bI false = 0 from rfl), is_27 w, c_sum w G hi hu (by omega) (T (i + 1) (by omega)), av_cI_r, Option.bind_some]
      dsimp only
      rw [is_27 w, c_bstA w G (by omega) hu, av_cI_r, Option.bind_some]
      dsimp only
      rw [T i (by omega) u hu]
      have inj := oI_inj (a := swC isE tg ((ocN isE 10) - (i + 1)) i u j) (b := bC isE tg ((ocN isE 10) - i) u) (fun p hp => by have := l3 p hp; omega) (fun p hp => by have := l2 p hp; omega)
      by_cases c : swC isE tg ((ocN isE 10) - (i + 1)) i u j = bC isE tg ((ocN isE 10) - i) u
      · rw [if_pos (inj.mpr c)]
        have f1 : chC (swC isE tg ((ocN isE 10) - (i + 1)) i u) (bC isE tg ((ocN isE 10) - i) u) u (j + 1) = some j := by
          rw [chC, H]
          dsimp only
          rw [b, decide_eq_true c, if_pos (show (!false && true) = true from rfl)]
        have f2 := chC_up f1 ((ecN isE 10) - (j + 1))
        rw [show j + 1 + ((ecN isE 10) - (j + 1)) = (ecN isE 10) by omega] at f2
        rw [f2]
        rfl
      · rw [if_neg (fun q => c (inj.mp q))]
        exact lbe_lp w G hi hu T m (j + 1) (by omega) (by rw [chC, H]; dsimp only; rw [decide_eq_false c, Bool.and_false, if_neg (by decide)])
theorem cp_lp (G0 : CG isE tg h0) (T0 : ∀ q, q ≤ (ocN isE 10) → TB isE tg h0 q) : ∀ k L u h, k ≤ 10 → u < 2 ^ (ecN isE 10) → relU isE L u → bct u ≤ ocN isE (10 - k) → bct u + (gN isE tg k L).1 = min (ecN isE 10) (ocN isE 10) → WF h → off false [29] [] h0 h → ∃ h', WF h' ∧ off false [29] [] h0 h' ∧ (∀ who, who < 10 → h'.2.1 29 who = match gwV isE tg who k L with | none => h.2.1 29 who | some v => nI v) ∧ bd X (d + 4) 33 14 [(0, vr (some 27)), (1, vi (nI u)), (2, vi (nI (ocN isE (10 - k))))] [] h = av_rV h'
  | 0, L, u, h, hk, hu, r, v, f, w, O => by
    have ep := eo_p (isE := isE) 10
    have G := G0.fr (O.fr (by decide))
    refine ⟨h, w, O, fun _ _ => rfl, ?_⟩
    rw [Nat.sub_zero, b_33_14, gI_27_12 w, G.2.1, if_neg (nI_nlt (by omega) (by omega))]
  | k + 1, L, u, h, hk, hu, r, v, f, w, O => by
    have ep := eo_p (isE := isE) 10
    have G := G0.fr (O.fr (by decide))
    have T : ∀ q, q ≤ (ocN isE 10) → TB isE tg h q := fun q hq u hu => (O.I rfl).trans (T0 q hq u hu)
    have s := oc_s (isE := isE) (p := 9 - k)
    rw [show 9 - k + 1 = 10 - k by omega] at s
    have m := oc_m (isE := isE) (show 10 - k ≤ 10 by omega)
    rw [show 10 - (k + 1) = 9 - k by omega] at v ⊢
    cases z : isE (9 - k) with
    | true =>
      rw [z, Bool.not_true, if_neg (by decide)] at s
      replace s : ocN isE (10 - k) = ocN isE (9 - k) := s
      have en : gN isE tg (k + 1) L = gN isE tg k L := by rw [gN, z, if_pos rfl]
      have ec : cW isE tg k L = none := by rw [cW, z, if_pos rfl]
      obtain ⟨h', a1, a2, a3, a4⟩ := cp_lp G0 T0 k L u h (by omega) hu r (by omega) (by rw [← en]; exact f) w O
      refine ⟨h', a1, a2, fun who hw => ?_, by rw [← s]; exact a4⟩
      rw [a3 who hw, gwV, ec]
    | false =>
      rw [z, Bool.not_false, if_pos rfl] at s
      have her : ∀ e, e < 10 → isE e = true → erN isE 10 (ecN isE e) = e := fun e he y => er_w y 10 he
      have hot : ∀ q, q < 10 → isE q = false → erN (fun q => !isE q) 10 (ocN isE q) = q := fun q hq y => er_w (isE := fun q => !isE q) (show (!isE q) = true by rw [y]; rfl) 10 hq
      have bg := bg_eq (isE := isE) (tg := tg) (mn := min (ecN isE 10) (ocN isE 10)) rfl her hot (k + 1) hk L u hu r (by rw [show 10 - (k + 1) = 9 - k by omega]; exact v)
      rw [show 10 - (k + 1) = 9 - k by omega, fPC, if_pos f] at bg
      have ch := ch_eq (isE := isE) (tg := tg) (mn := min (ecN isE 10) (ocN isE 10)) rfl her hot (show k ≤ 9 by omega) hu r v z f
      have lb := lbe_lp (X := X) (d := d) w G (show ocN isE (9 - k) < (ocN isE 10) by omega) hu T (ecN isE 10) 0 (by omega) rfl
      have lb2 : chC (swC isE tg ((ocN isE 10) - (ocN isE (9 - k) + 1)) (ocN isE (9 - k)) u) (bC isE tg ((ocN isE 10) - ocN isE (9 - k)) u) u (ecN isE 10) = (chW isE tg (gN isE tg k) (gN isE tg (k + 1) L) (9 - k) L 10).map (ecN isE) := by
        rw [← ch, show bC isE tg ((ocN isE 10) - ocN isE (9 - k)) u = some (gN isE tg (k + 1) L).2 from bg, ← s]
        rfl
      rw [lb2] at lb
      have ecw : cW isE tg k L = chW isE tg (gN isE tg k) (gN isE tg (k + 1) L) (9 - k) L 10 := by rw [cW, z, if_neg (by decide)]
      rw [b_33_14, gI_27_12 w, G.2.1, if_pos (nI_lt (by omega) (by omega)), is_27 w, e_34, b_34_0, show (0 : Int32) = nI 0 from rfl, lb, av_cI_r, Option.bind_some]
      dsimp only
      rw [← ecw]
      cases c : cW isE tg k L with
      | none =>
        rw [if_pos (show oI (Option.map (ecN isE) none) = -1 from rfl), nI_1, ← s]
        obtain ⟨h', a1, a2, a3, a4⟩ := cp_lp G0 T0 k L u h (by omega) hu r (by omega) (by rw [← gN_no z c]; exact f) w O
        refine ⟨h', a1, a2, fun who hw => ?_, a4⟩
        rw [a3 who hw, gwV, c]
      | some e =>
        obtain ⟨c1, c2, c3, c4, c5⟩ := cW_s c
        have el : ecN isE e < (ecN isE 10) := by
          have := ec_m (isE := isE) (show e + 1 ≤ 10 by omega)
          rw [ec_s (p := e), c3, if_pos rfl] at this
          omega
        have hu' : u ||| 2 ^ ecN isE e < 2 ^ (ecN isE 10) := Nat.or_lt_two_pow hu (Nat.pow_lt_pow_right (by decide) el)
        have r' := rel_s r c2 c3
        have ct := rel_ct r hu
        have ct' := rel_ct r' hu'
        have av := av_nd (L := L) c2 c3 c4
        have pc : bct (u ||| 2 ^ ecN isE e) = bct u + 1 := by omega
        have ne : e ≠ 9 - k := fun q => by
          rw [q, z] at c3
          cases c3
        have e1 := hot (9 - k) (by omega) z
        have e2 := her e c2 c3
        have w1 : WF (av_uI h 29 (9 - k) (nI e)) := WF_uI w
        show ∃ h', _ ∧ _ ∧ _ ∧ (if nI (ecN isE e) = -1 then _ else _) = _
        rw [if_neg (fun q => by have := (oI_inj (a := some (ecN isE e)) (b := none) (fun p hp => by injection hp with hp; omega) (fun p hp => by cases hp)).mp q; cases this), gR_27_1 w, gR_27_7 w, ld_33 w (by omega), G.2.2.2.1 _ (by omega), e1, gR_27_6 w]
        show ∃ h', _ ∧ _ ∧ _ ∧ Option.bind (av_lI X h (some 32) (nI (ecN isE e))) _ = _
        rw [ld_32 w (by omega), G.2.2.1 _ el, e2, st_29 w (by omega), gR_27_1 w1, gR_27_6 w1]
        show ∃ h', _ ∧ _ ∧ _ ∧ Option.bind (av_lI X (av_uI h 29 (9 - k) (nI e)) (some 32) (nI (ecN isE e))) _ = _
        rw [ld_32 w1 (by omega), uI_ne (by decide), G.2.2.1 _ el, e2, gR_27_7 w1, ld_33 w1 (by omega), uI_ne (by decide), G.2.2.2.1 _ (by omega), e1, st_29 w1 c2]
        show ∃ h', _ ∧ _ ∧ _ ∧ bd X (d + 4) 33 14 [(0, vr (some 27)), (1, vi (nI u ||| 1 <<< (nI (ecN isE e) &&& 31))), (2, vi (nI (ocN isE (9 - k)) + 1))] [] _ = _
        rw [nb_sh1 _ (by omega), nb_or, nI_1, ← s]
        obtain ⟨h', a1, a2, a3, a4⟩ := cp_lp G0 T0 k (nd L (2 ^ e)) (u ||| 2 ^ ecN isE e) (av_uI (av_uI h 29 (9 - k) (nI e)) 29 e (nI (9 - k))) (by omega) hu' r' (by omega) (by omega) (WF_uI w1) (agr.uI rfl (agr.uI rfl O))
        refine ⟨h', a1, a2, fun who hw => ?_, a4⟩
        rw [a3 who hw, gwV, c]
        dsimp only
        by_cases y1 : 9 - k = who
        · rw [if_pos y1, ← y1, gw_no k _ (by omega) (Or.inl ⟨z, by omega⟩)]
          dsimp only
          rw [uI_nk ne.symm, uI_eq]
        · rw [if_neg y1]
          by_cases y2 : e = who
          · rw [if_pos y2, ← y2, gw_no k _ (by omega) (Or.inr ⟨c3, by rw [nd_bit, Nat.testBit_two_pow_self, Bool.not_true, Bool.and_false]⟩)]
            dsimp only
            rw [uI_eq]
          · rw [if_neg y2, uI_nk (fun q => y2 q.symm), uI_nk (fun q => y1 q.symm)]
theorem fill_29 {h : av_H} {v : Int32} (w : WF h) : ∀ k i, i + k = 10 → bd X (d + 1) 383 5 [(0, vr (some 29)), (1, vi v), (2, vi (nI i)), (3, vi (nI 10))] [] (setC h 29 (cpF (h.2.1 29) 0 (fun _ => v) i)) = av_rV (setC h 29 (cpF (h.2.1 29) 0 (fun _ => v) 10))
  | 0, i, hi => by
    obtain rfl : i = 10 := by omega
    rw [b_383_5, if_neg (nI_nlt (by omega) (by omega))]
  | k + 1, i, hi => by
    have ih := fill_29 w (v := v) k (i + 1) (by omega)
    have w' : WF (setC h 29 (cpF (h.2.1 29) 0 (fun _ => v) i)) := w
    rw [← cpF_s, Nat.zero_add] at ih
    rw [b_383_5, if_pos (nI_lt (by omega) (by omega)), st_29 w' (by omega), setC_u, nI_1]
    exact ih
end
