/-! the reader: lines -/
def okU (u : Ru) (rt dt : Bool) : Prop := u.n0 ≤ 6 ∧ u.n1 ≤ 6 ∧ (1 ≤ u.r ∧ u.r ≤ 12) ∧ (1 ≤ u.dd ∧ u.dd ≤ 99) ∧ u.okE ∧ (rt = false → u.r = 4) ∧ (dt = false → u.dd = 30)
def LnR (T : Nat → Nat) (n : Nat) (hc0 hr0 : av_H) (R a : Nat) (rc rr : Option (Option (Option av_V) × av_H)) : Prop :=
  (∃ u' rt' dt' a' len' c' hc' hr', Ru.R u' = R ∧ okU u' rt' dt' ∧ a < a' ∧ a' ≤ n ∧ len' ≤ a' ∧ c' ≤ a' ∧ rc = av_rI (bI true) hc' ∧ rr = av_rV hr' ∧ LC T hc0 u' (oMu u' rt' dt') hc' a' len' ∧ LR hr0 u' rt' dt' hr' a' c')
  ∨ (∃ F hc' hr', 0 < F ∧ F < 100000 ∧ rc = av_rI (bI false) hc' ∧ rr = av_rV hr' ∧ LX R hc0 hc' F ∧ LY hr0 hr' F)
def LnH (T P : Nat → Nat) (n : Nat) (hc0 hr0 : av_H) (u : Ru) (rt dt : Bool) (hc hr : av_H) (a len c : Nat) : Prop := (u.R = 67 ∨ u.R = 72) ∧ okU u rt dt ∧ TK T P n ∧ (∀ i, i ≤ n → T i < 20000 → T i < 10023) ∧ TC T P n hc0 ∧ TR T P n hr0 ∧ a < n ∧ len ≤ a ∧ c ≤ a ∧ LC T hc0 u (oMu u rt dt) hc a len ∧ LR hr0 u rt dt hr a c
def Ru.setr (u : Ru) (r : Nat) : Ru := (u.R, u.n0, u.n1, u.E, u.l, u.L, u.q, r, u.dd, u.ky)
def Ru.setd (u : Ru) (r : Nat) : Ru := (u.R, u.n0, u.n1, u.E, u.l, u.L, u.q, u.r, r, u.ky)
def Ru.setk (u : Ru) : Ru := (u.R, u.n0, u.n1, u.E, u.l, u.L, u.q, u.r, u.dd, true)
theorem LX.of {R : Nat} {hc0 hc hc' : av_H} {F : Nat} (A : agr (cL R) hc0 hc) (B : CB R hc hc' F) : LX R hc0 hc' F := ⟨B.1, agr.tr A (agr.mono B.2.1 (fun _ _ z => cL_F z)), B.2.2.1⟩
theorem LY.of {hr0 hr hr' : av_H} {a c F : Nat} (A : offL hr0 hr) (k : kpR hr0 hr) (U : RS hr hr' a c F) (m : sm6 hr hr') : LY hr0 hr' F := ⟨U.1, A.of U.2.1, k.tr (fun j _ => ⟨congrFun m.1 j, congrFun m.2 j⟩) (U.2.1.fr (by decide)), U.2.2.2.1⟩
section
variable {X : av_X} {d e : Nat} {T P : Nat → Nat} {n : Nat} {hc0 hr0 hc hr : av_H} {u : Ru} {rt dt : Bool} {a len c : Nat}
theorem LnH.S (H : LnH T P n hc0 hr0 u rt dt hc hr a len c) : CS T u.R hc hc a len := by
  obtain ⟨_, _, _, _, _, _, _, _, _, ⟨w, A, c6, c7, c8, c9, _⟩, _⟩ := H
  exact ⟨w, agr.rfl, c6, c7, c8, c9⟩
theorem LnH.U (H : LnH T P n hc0 hr0 u rt dt hc hr a len c) : RS hr hr a c 0 := by
  obtain ⟨_, _, _, _, _, _, _, _, _, _, ⟨w, A, c7, c8, c31, _⟩⟩ := H
  exact ⟨w, agr.rfl, c7, c8, c31⟩
theorem LnH.C (H : LnH T P n hc0 hr0 u rt dt hc hr a len c) : TC T P n hc := by
  obtain ⟨hR, _, _, _, C, _, _, _, _, ⟨w, A, _⟩, _⟩ := H
  exact C.fL hR A
theorem LnH.CR (H : LnH T P n hc0 hr0 u rt dt hc hr a len c) : TR T P n hr := by
  obtain ⟨_, _, _, _, _, C, _, _, _, _, ⟨w, A, _⟩⟩ := H
  exact C.fr (off.fr A (by decide))
theorem gI_Ru {β : Type} {h : av_H} (hR : u.R = 67 ∨ u.R = 72) (w : WF h) (K : Int32 → Option β) : (av_gI h (some u.R) 6 0).bind K = K (h.2.1 u.R 0) ∧ (av_gI h (some u.R) 6 1).bind K = K (h.2.1 u.R 1) := by
  rcases hR with e | e <;> rw [e]
  · exact ⟨gI_67_0 w K, gI_67_1 w K⟩
  · exact ⟨gI_72_0 w K, gI_72_1 w K⟩
theorem pI_Ru {β : Type} {h : av_H} (hR : u.R = 67 ∨ u.R = 72) (w : WF h) (k : Nat) (v : Int32) (K : av_H → Option β) : (av_pI h (some u.R) 6 k v).bind K = K (av_uI h u.R k v) := by
  rcases hR with e | e <;> rw [e]
  · exact pI_67 w k v K
  · exact pI_72 w k v K
theorem pZ_Ru {β : Type} {h : av_H} (hR : u.R = 67 ∨ u.R = 72) (w : WF h) (k : Nat) (b : Bool) (K : av_H → Option β) : (av_pZ h (some u.R) 6 k (bI b)).bind K = K (av_uI h u.R k (bI b)) := by
  rcases hR with e | e <;> rw [e]
  · exact pZ_67 w k b K
  · exact pZ_72 w k b K
theorem wcN_l {k : Nat} (h : k < 7) : wcN k = 10000 + k := by rw [wcN, if_pos h]
/-- the reference looks which word begins the line -/
theorem s_what (K : TK T P n) {h : av_H} (C : TR T P n h) (U : RS h h a c 0) (ha : a ≤ n) : ∀ m k v, k + m = 7 → 2 ≤ k → v = (if 10002 ≤ T a ∧ T a < 10000 + k then nI (T a - 10000) else -1) → bd X (e + 1) 277 92 [(0, vr (some 137)), (1, vi v), (2, vi (nI k))] [] h = bd X (e + 1) 277 92 [(0, vr (some 137)), (1, vi (if 10002 ≤ T a ∧ T a < 10007 then nI (T a - 10000) else -1)), (2, vi (nI 7))] [] h
  | 0, k, v, hk, h2, hv => by
    obtain rfl : k = 7 := by omega
    rw [hv]
  | m + 1, k, v, hk, h2, hv => by
    have sw := s_isW (X := X) (d := e) C K U ha (by omega) (w := k) (by omega)
    rw [wcN_l (by omega)] at sw
    conv => lhs; rw [b_277_92]
    rw [if_neg (show ¬ (6 : Int32) < nI k from nI_nlt (a := 6) (by omega) (by omega)), is_137 U.1, sw, av_cI_r, Option.bind_some]
    dsimp only
    by_cases y : T a = 10000 + k
    · rw [if_neg (do' ⟨rfl, y⟩), nI_1]
      exact s_what K C U ha m (k + 1) _ (by omega) (by omega) (by rw [if_pos (by omega), y, show 10000 + k - 10000 = k by omega])
    · rw [if_pos (dz (fun q => y q.2)), nI_1]
      refine s_what K C U ha m (k + 1) _ (by omega) (by omega) ?_
      rw [hv]
      by_cases x : 10002 ≤ T a ∧ T a < 10000 + k
      · rw [if_pos x, if_pos (by omega)]
      · rw [if_neg x, if_neg (by omega)]
/-- none of the first three words -/
theorem s_ln92 (K : TK T P n) {h : av_H} (C : TR T P n h) (U : RS h h a c 0) (ha : a ≤ n) (z0 : T a ≠ 10000) (z1 : T a ≠ 10001) (z7 : T a ≠ 10007) : ev X (e + 2) 277 [vr (some 137)] h = bd X (e + 1) 277 92 [(0, vr (some 137)), (1, vi (if 10002 ≤ T a ∧ T a < 10007 then nI (T a - 10000) else -1)), (2, vi (nI 7))] [] h := by
  rw [e_277, b_277_0, is_137 U.1, show (22 : Int32) = nI 22 from rfl, s_isW C K U ha (by omega) (by decide), av_cI_r, Option.bind_some]
  dsimp only
  rw [if_pos (dz (fun q => z7 q.2)), is_137 U.1, show (0 : Int32) = nI 0 from rfl, s_isW C K U ha (by omega) (by decide), av_cI_r, Option.bind_some]
  dsimp only
  rw [if_pos (show bI (decide (0 = 0 ∧ T a = wcN 0)) = nI 0 from dz (fun q => z0 q.2)), is_137 U.1, show (1 : Int32) = nI 1 from rfl, s_isW C K U ha (by omega) (by decide), av_cI_r, Option.bind_some]
  dsimp only
  rw [if_pos (show bI (decide (0 = 0 ∧ T a = wcN 1)) = nI 0 from dz (fun q => z1 q.2)), show (2 : Int32) = nI 2 from rfl]
  exact s_what K C U ha 5 2 (-1) (by omega) (by omega) (by rw [if_neg (by omega)])
theorem s_lnF {h : av_H} {F : Nat} (w : WF h) (f0 : 0 < F) (f1 : F < 100000) (e8 : h.2.1 137 8 = nI F) {v : Int32} : bd X d 277 137 [(0, vr (some 137)), (1, vi v)] [] h = av_rV h := by
  rw [b_277_137, gI_137_8 w, e8, if_pos (show (0 : Int32) < nI F from nI_lt (a := 0) f0 (by omega))]
/-- no line begins so -/
theorem ln_bad (H : LnH T P n hc0 hr0 u rt dt hc hr a len c) (z : T a < 10000 ∨ 10008 ≤ T a) : LnR T n hc0 hr0 u.R a (ev X (d + 2) 84 [vr (some 37), vr (some u.R)] hc) (ev X (e + 2) 277 [vr (some 137)] hr) := by
  have S := H.S
  have U := H.U
  have C := H.C
  have CR := H.CR
  obtain ⟨hR, o, K, TW, _, _, ha, hl, hcc, LCh, LRh⟩ := H
  have kn := K.1
  have tl := K.le (Nat.le_of_lt ha)
  have kp := K.2.2.2 a (Nat.le_of_lt ha)
  obtain ⟨hc', e1, B1⟩ := c_rfs (X := X) (d := d) hR K C S (Nat.le_of_lt ha) (by omega) (k := 1)
  obtain ⟨hr', f1, U1, m1⟩ := s_wr0 (X := X) (d := e) CR K U (Nat.le_of_lt ha) (k := 1)
  have ne : ∀ y, 10000 ≤ y → y < 10008 → ¬ nI (T a) = nI y := fun y y1 y2 q => absurd ((nI_eq (by omega) (by omega)).mp q) (by omega)
  refine Or.inr ⟨1 + 16 * P a, hc', hr', by omega, by omega, ?_, ?_, LX.of LCh.2.1 B1, LY.of LRh.2.1 LRh.2.2.2.2.2.1 U1 m1⟩
  · rw [e_84, b_84_0, gI_37_7 S.1, S.2.2.2.1, if_neg (show ¬ nI (T a) = 10000 from ne 10000 (by omega) (by omega)), if_neg (show ¬ nI (T a) = 10001 from ne 10001 (by omega) (by omega)), if_neg (show ¬ nI (T a) = 10002 from ne 10002 (by omega) (by omega)), if_neg (show ¬ nI (T a) = 10003 from ne 10003 (by omega) (by omega)), if_neg (show ¬ nI (T a) = 10004 from ne 10004 (by omega) (by omega)), if_neg (show ¬ nI (T a) = 10005 from ne 10005 (by omega) (by omega)), if_neg (show ¬ nI (T a) = 10006 from ne 10006 (by omega) (by omega)), if_neg (show ¬ nI (T a) = 10007 from ne 10007 (by omega) (by omega)), is_37 S.1, show (1 : Int32) = nI 1 from rfl, e1, av_cI_r, Option.bind_some, zb_b]
  · rw [s_ln92 K CR U (Nat.le_of_lt ha) (by omega) (by omega) (by omega), b_277_92, if_pos (show (6 : Int32) < nI 7 by decide), if_neg (show ¬ (10002 ≤ T a ∧ T a < 10007) by omega), if_pos (show (-1 : Int32) < 0 by decide), is_137 U.1, show (1 : Int32) = nI 1 from rfl, f1, av_cV_r, Option.bind_some]
    exact s_lnF U1.1 (by omega) (by omega) U1.2.2.2.1
/-- keys -/
theorem ln_keys (H : LnH T P n hc0 hr0 u rt dt hc hr a len c) (z : T a = 10007) : LnR T n hc0 hr0 u.R a (ev X (d + 4) 84 [vr (some 37), vr (some u.R)] hc) (ev X (e + 2) 277 [vr (some 137)] hr) := by
  have S := H.S
  have U := H.U
  have C := H.C
  have CR := H.CR
  obtain ⟨hR, o, K, TW, _, _, ha, hl, hcc, ⟨w, A, c6, c7, c8, c9, LFc, kc⟩, ⟨wr, Ar, r7, r8, r31, kpr, RFr, kr⟩⟩ := H
  have kn := K.1
  have kp := K.2.2.2 a (Nat.le_of_lt ha)
  have w1 : WF (av_uI hc u.R 4 (bI true)) := WF_uI w
  have A1 : agr (cL u.R) hc (av_uI hc u.R 4 (bI true)) := agr.uI cL_R agr.rfl
  have C1 := C.fL hR A1
  have nR : (37 : Nat) ≠ u.R := by omega
  have d6 : (av_uI hc u.R 4 (bI true)).2.1 37 = hc.2.1 37 := uI_ne nR
  have d9 : (av_uI hc u.R 4 (bI true)).2.1 u.R 9 = nI len := by rw [uI_nk (by decide)]; exact c9
  have rd : ev X (d + 4) 84 [vr (some 37), vr (some u.R)] hc = (av_cI (ev X (d + 2) 82 [vr (some 37)] (av_uI hc u.R 4 (bI true)))).bind fun q2 => (av_bz q2.1).bind fun w => (av_cI (av_rI w q2.2)).bind fun q14 => (av_bz q14.1).bind fun w => av_rI w q14.2 := by
    rw [e_84, b_84_0, gI_37_7 w, c7, z, if_neg (show ¬ nI 10007 = 10000 by decide), if_neg (show ¬ nI 10007 = 10001 by decide), if_neg (show ¬ nI 10007 = 10002 by decide), if_neg (show ¬ nI 10007 = 10003 by decide), if_neg (show ¬ nI 10007 = 10004 by decide), if_neg (show ¬ nI 10007 = 10005 by decide), if_neg (show ¬ nI 10007 = 10006 by decide), if_pos (show nI 10007 = 10007 from rfl), is_37 w, e_89, b_89_0, show (1 : Int32) = bI true from rfl, pZ_Ru hR w, is_37 w1]
    cases av_cI (ev X (d + 2) 82 [vr (some 37)] (av_uI hc u.R 4 (bI true))) with
    | none => rfl
    | some q =>
      rw [Option.bind_some, Option.bind_some]
      cases av_bz q.1 <;> rfl
  have rr : ev X (e + 2) 277 [vr (some 137)] hr = (av_gI hr (some 137) 11 42).bind fun x4 => if x4 = 0 then ((av_pZ hr (some 137) 11 42 (1 : Int32)).bind fun g5 => (av_gI g5 (some 137) 11 7).bind fun x6 => (av_pI g5 (some 137) 11 7 (x6 + (1 : Int32))).bind fun g7 => av_rV g7) else if av_is hr (some 137) 11 = true then ((av_cV (ev X (e + 1) 245 [vr (some 137), vi (3 : Int32)] hr)).bind fun q8 => av_rV q8) else none := by
    rw [e_277, b_277_0, is_137 wr, show (22 : Int32) = nI 22 from rfl, s_isW CR K U (Nat.le_of_lt ha) (by omega) (by decide), av_cI_r, Option.bind_some]
    dsimp only
    rw [if_neg (do' ⟨rfl, z⟩)]
  have m9 : (av_uI hc u.R 4 (bI true)).2.1 37 9 = oMu u rt dt := by rw [d6]; exact LFc.1
  have S1 : CS T u.R (av_uI hc u.R 4 (bI true)) (av_uI hc u.R 4 (bI true)) a len := ⟨w1, agr.rfl, by rw [d6]; exact c6, by rw [d6]; exact c7, by rw [d6]; exact c8, d9⟩
  cases ky : u.ky with
  | true =>
    have om : oMu u rt dt = oM (u.q 0) (u.q 1) (u.q 2) rt dt true := by rw [oMu, ky]
    obtain ⟨h', e1, B1⟩ := c_once0 (X := X) (d := d) hR K C1 S1 (Nat.le_of_lt ha) (by omega) m9 z (by rw [om]; exact (oM_7 _ _ _ _ _).2)
    obtain ⟨g', f1, U1, m1⟩ := s_wr0 (X := X) (d := e) CR K U (Nat.le_of_lt ha) (k := 3)
    refine Or.inr ⟨3 + 16 * P a, h', g', by omega, by omega, ?_, ?_, LX.of (agr.tr A A1) B1, LY.of Ar kpr U1 m1⟩
    · rw [rd, e1, av_cI_r, Option.bind_some, zb_b, av_cI_r, Option.bind_some, zb_b]
    · rw [rr, gI_137_42 wr, RFr.2.2.2.2, ky, if_neg (show ¬ bI true = 0 by decide), is_137 wr, show (3 : Int32) = nI 3 from rfl, f1, av_cV_r, Option.bind_some]
  | false =>
    have om : oMu u rt dt = oM (u.q 0) (u.q 1) (u.q 2) rt dt false := by rw [oMu, ky]
    have o7 := (oM_7 (u.q 0) (u.q 1) (u.q 2) rt dt).1
    obtain ⟨h', e1, ⟨y0, y1, y2, y3, y4, y5⟩, o1⟩ := c_once1 (X := X) (d := d) (v' := oM (u.q 0) (u.q 1) (u.q 2) rt dt true) hR K C1 w1 S1.2.2.1 S1.2.2.2.1 S1.2.2.2.2.1 d9 ha m9 z (by rw [om]; exact o7.1) (by rw [om]; exact o7.2)
    have gw : WF (av_uI hr 137 42 (bI true)) := WF_uI wr
    refine Or.inl ⟨u.setk, rt, dt, a + 1, len, c, h', av_uI (av_uI hr 137 42 (bI true)) 137 7 (nI (a + 1)), rfl, o, by omega, ha, by omega, by omega, ?_, ?_, ⟨y0, ?_, y2, y3, y4, y5, ?_, ?_⟩, ⟨WF_uI gw, ?_, uI_eq, ?_, ?_, ?_, ?_, ?_⟩⟩
    · rw [rd, e1, av_cI_r, Option.bind_some, zb_b, av_cI_r, Option.bind_some, zb_b]
    · rw [rr, gI_137_42 wr, RFr.2.2.2.2, ky, if_pos (show bI false = 0 from rfl), show (1 : Int32) = bI true from rfl, pZ_137 wr, gI_137_7 gw, uI_nk (by decide), r7, pI_137 gw, show bI true = (1 : Int32) from rfl, nI_1]
    · exact agr.tr (agr.tr A A1) (agr.tr (agr.uI (cL_37 (by omega)) agr.rfl) (agr.mono y1 (fun _ _ z => cL_F z)))
    · have y1' : agr (cG u.R) (av_uI (av_uI hc u.R 4 (bI true)) 37 9 (oM (u.q 0) (u.q 1) (u.q 2) rt dt true)) h' := agr.mono y1 (fun _ _ z => cF_G z)
      refine LF.fr (u := u.setk) hR ?_ y1'
      obtain ⟨l1, l2, l3, l4, l5, l6⟩ := LFc
      refine ⟨uI_eq, ?_, ?_, ?_, ?_, ?_⟩
      · show (av_uI (av_uI hc u.R 4 (bI true)) 37 9 _).2.1 u.R 0 = _
        rw [uI_ne (Ne.symm nR), uI_nk (by decide)]; exact l2
      · show (av_uI (av_uI hc u.R 4 (bI true)) 37 9 _).2.1 u.R 1 = _
        rw [uI_ne (Ne.symm nR), uI_nk (by decide)]; exact l3
      · show (av_uI (av_uI hc u.R 4 (bI true)) 37 9 _).2.1 u.R 2 = _
        rw [uI_ne (Ne.symm nR), uI_nk (by decide)]; exact l4
      · show (av_uI (av_uI hc u.R 4 (bI true)) 37 9 _).2.1 u.R 3 = _
        rw [uI_ne (Ne.symm nR), uI_nk (by decide)]; exact l5
      · show (av_uI (av_uI hc u.R 4 (bI true)) 37 9 _).2.1 u.R 4 = _
        rw [uI_ne (Ne.symm nR), uI_eq]; rfl
    · have q2 : ∀ j, cF u.R (u.R + 2) j = true := fun j => by rcases hR with e | e <;> rw [e] <;> rfl
      have q3 : ∀ j, cF u.R (u.R + 3) j = true := fun j => by rcases hR with e | e <;> rw [e] <;> rfl
      refine KC.cg (u := u) kc ?_ ?_ ?_
      · rw [o1, uI_ne (by omega)]
      · funext j
        rw [y1.I (q2 j), uI_ne (by omega), uI_ne (by omega)]
      · funext j
        rw [y1.I (q3 j), uI_ne (by omega), uI_ne (by omega)]
    · exact agr.uI rfl (agr.uI rfl Ar)
    · rw [uI_nk (by decide), uI_nk (by decide)]; exact r8
    · rw [uI_nk (by decide), uI_nk (by decide)]; exact r31
    · exact kpr.tr (fun j _ => ⟨by rw [uI_ne (by decide), uI_ne (by decide)], by rw [uI_ne (by decide), uI_ne (by decide)]⟩) (agr.uI rfl (agr.uI rfl agr.rfl))
    · obtain ⟨l1, l2, l3, l4, l5⟩ := RFr
      refine ⟨?_, ?_, ?_, ?_, ?_⟩
      · rw [uI_ne (by decide), uI_ne (by decide)]; exact l1
      · rw [uI_ne (by decide), uI_ne (by decide)]; exact l2
      · rw [uI_nk (by decide), uI_nk (by decide)]; exact l3
      · rw [uI_nk (by decide), uI_nk (by decide)]; exact l4
      · rw [uI_nk (by decide), uI_eq]; rfl
    · exact KR.cg (u := u) kr (agr.uI rfl (agr.uI rfl agr.rfl))
end
