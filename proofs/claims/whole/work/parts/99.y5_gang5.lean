/-! gangs: who goes with whom, the reference's way -/
section
variable (isE : Nat → Bool) (tg : Nat → Nat → Nat)
/-- with whom person 9 - k goes -/
def cW (k L : Nat) : Option Nat := if isE (9 - k) = true then none else chW isE tg (gN isE tg k) (gN isE tg (k + 1) L) (9 - k) L 10
/-- with whom a person goes -/
def gwV (who : Nat) : Nat → Nat → Option Nat
  | 0, _ => none
  | k + 1, L => match cW isE tg k L with
    | none => gwV who k L
    | some e => if 9 - k = who then some e else if e = who then some (9 - k) else gwV who k (nd L (2 ^ e))
end
section
variable {isE : Nat → Bool} {tg : Nat → Nat → Nat}
theorem chW_up {g : Nat → Nat × Nat} {b : Nat × Nat} {p L n e : Nat} (h : chW isE tg g b p L n = some e) : ∀ m, chW isE tg g b p L (n + m) = some e
  | 0 => h
  | m + 1 => by
    show chW isE tg g b p L ((n + m) + 1) = some e
    rw [chW, chW_up h m]
theorem cW_s {k L e : Nat} (h : cW isE tg k L = some e) : isE (9 - k) = false ∧ e < 10 ∧ isE e = true ∧ L.testBit e = true ∧ (gN isE tg k (nd L (2 ^ e))).1 + 1 = (gN isE tg (k + 1) L).1 := by
  rw [cW] at h
  cases z : isE (9 - k) with
  | true =>
    rw [z, if_pos rfl] at h
    cases h
  | false =>
    rw [z, if_neg (by decide)] at h
    obtain ⟨a1, a2, a3, a4, _⟩ := (chW_s (isE := isE) 10).1 e h
    exact ⟨rfl, a1, a2, a3, a4⟩
theorem gwV_lt {who : Nat} : ∀ k L, ∀ e, gwV isE tg who k L = some e → e < 10
  | 0, _, e, h => by cases h
  | k + 1, L, e, h => by
    rw [gwV] at h
    cases z : cW isE tg k L with
    | none =>
      rw [z] at h
      exact gwV_lt k L e h
    | some x =>
      rw [z] at h
      dsimp only at h
      have := (cW_s z).2.1
      split at h
      · injection h with h
        omega
      · split at h
        · injection h with h
          omega
        · exact gwV_lt k _ e h
end
section
variable {X : av_X} {d : Nat} {isE : Nat → Bool} {tg : Nat → Nat → Nat} {h : av_H}
theorem gw_e (G : GP isE tg h) (w : WF h) (T : GA isE tg h 10) {v1 : Int32} {k L : Nat} (hk : k ≤ 9) (l10 : L < 1024) (z : isE (9 - k) = false) : ∀ m e, e + m = 10 → chW isE tg (gN isE tg k) (gN isE tg (k + 1) L) (9 - k) L e = none → bd X (d + 1) 335 17 [(0, vr (some 137)), (1, vi v1), (2, vi (nI L)), (3, vi (nI (9 - k))), (4, vi (-1)), (5, vi (nI (1024 * (9 - k) + L))), (6, vi (nI e))] [] h = bd X (d + 1) 335 94 [(0, vr (some 137)), (1, vi v1), (2, vi (nI L)), (3, vi (nI (9 - k))), (4, vi (oI (chW isE tg (gN isE tg k) (gN isE tg (k + 1) L) (9 - k) L 10)))] [] h
  | 0, e, he, H => by
    obtain rfl : e = 10 := by omega
    rw [H, b_335_17, if_neg (show ¬ nI 10 < 10 by decide)]
    rfl
  | m + 1, e, he, H => by
    rw [b_335_17, if_pos (show nI e < 10 from nI_lt (b := 10) (by omega) (by omega)), gR_137_28 w, ld_159 w (by omega), G.1 (9 - k) (by omega), z, if_pos (show bI false = 0 from rfl), if_pos (show (-1 : Int32) < 0 by decide), nb_bit (by omega) (by omega), nI_1]
    have skip : chW isE tg (gN isE tg k) (gN isE tg (k + 1) L) (9 - k) L (e + 1) = none → bd X (d + 1) 335 17 [(0, vr (some 137)), (1, vi v1), (2, vi (nI L)), (3, vi (nI (9 - k))), (4, vi (-1)), (5, vi (nI (1024 * (9 - k) + L))), (6, vi (nI (e + 1)))] [] h = bd X (d + 1) 335 94 [(0, vr (some 137)), (1, vi v1), (2, vi (nI L)), (3, vi (nI (9 - k))), (4, vi (oI (chW isE tg (gN isE tg k) (gN isE tg (k + 1) L) (9 - k) L 10)))] [] h := fun q => gw_e G w T hk l10 z m (e + 1) (by omega) q
    cases u : L.testBit e with
    | false =>
      rw [if_neg (show ¬ bI false = 1 by decide)]
      exact skip (by rw [chW, H]; dsimp only; rw [u, Bool.false_and, Bool.false_and, if_neg (by decide)])
    | true =>
      rw [if_pos (show bI true = 1 from rfl), gR_137_28 w, ld_159 w (by omega), G.1 e (by omega)]
      cases y : isE e with
      | false =>
        rw [if_pos (show bI false = 0 from rfl)]
        exact skip (by rw [chW, H]; dsimp only; rw [y, Bool.and_false, Bool.false_and, if_neg (by decide)])
      | true =>
        have nl : nd L (2 ^ e) < 1024 := nd_lt (n := 10) l10
        obtain ⟨t1, t2⟩ := T k (by omega) (nd L (2 ^ e)) nl
        obtain ⟨r1, r2⟩ := T (k + 1) (by omega) L l10
        rw [show 10 - (10 - k) = k by omega] at t1 t2
        rw [show 10 - (10 - (k + 1)) = k + 1 by omega, show 10 - (k + 1) = 9 - k by omega] at r1 r2
        have sb := gN_sb (isE := isE) (fun a b ha hb => (G.2 a b ha hb).1) k (by omega) (nd L (2 ^ e))
        have sb2 := gN_sb (isE := isE) (fun a b ha hb => (G.2 a b ha hb).1) (k + 1) (by omega) L
        have mb := gN_mb (isE := isE) (tg := tg) (k := k) (L := nd L (2 ^ e)) (by omega)
        have mb2 := gN_mb (isE := isE) (tg := tg) (k := k + 1) (L := L) (by omega)
        have tl := (G.2 (9 - k) e (by omega) (by omega)).1
        rw [if_neg (show ¬ bI true = 0 by decide), gR_137_72 w, show (1024 : Int32) = nI 1024 from rfl, nI_1, show 9 - k + 1 = 10 - k by omega, pk_mul, nb_sh1 e (by omega), nb_andn, nI_add, ld_192 w (by omega), t2, gR_137_72 w, ld_192 w (by omega), r2, nI_1]
        by_cases c1 : (gN isE tg k (nd L (2 ^ e))).1 + 1 = (gN isE tg (k + 1) L).1
        · rw [if_pos (congrArg nI c1), gR_137_71 w, ld_191 w (by omega), t1, gR_137_70 w, show (10 : Int32) = nI 10 from rfl, pk_mul, nI_add, ld_190 w (by omega), (G.2 (9 - k) e (by omega) (by omega)).2, gR_137_71 w, ld_191 w (by omega), r1, nI_add]
          by_cases c2 : (gN isE tg k (nd L (2 ^ e))).2 + tg (9 - k) e = (gN isE tg (k + 1) L).2
          · rw [if_pos (congrArg nI c2), b_335_85, if_neg (show ¬ (1 : Int32) = 0 by decide), nI_1]
            have f1 : chW isE tg (gN isE tg k) (gN isE tg (k + 1) L) (9 - k) L (e + 1) = some e := by
              rw [chW, H]
              dsimp only
              rw [u, y, decide_eq_true (And.intro c1 c2), if_pos (show (true && true && true) = true from rfl)]
            have f2 := chW_up f1 (10 - (e + 1))
            rw [show e + 1 + (10 - (e + 1)) = 10 by omega] at f2
            rw [f2]
            have ne : ¬ nI e < 0 := fun y => absurd (i_lt.mp y) (by rw [nI_toInt (by omega)]; simp)
            rw [b_335_17]
            by_cases c3 : e + 1 < 10
            · rw [if_pos (show nI (e + 1) < 10 from nI_lt (b := 10) c3 (by omega)), gR_137_28 w, ld_159 w (by omega), G.1 (9 - k) (by omega), z, if_pos (show bI false = 0 from rfl), if_neg ne]
              rfl
            · rw [if_neg (show ¬ nI (e + 1) < 10 from nI_nlt (b := 10) (by omega) (by omega))]
              rfl
          · rw [if_neg (fun q => c2 ((nI_eq (by omega) (by omega)).mp q)), b_335_84, b_335_85, if_pos rfl, nI_1]
            exact skip (by rw [chW, H]; dsimp only; rw [decide_eq_false (fun q => c2 q.2), Bool.and_false, if_neg (by decide)])
        · rw [if_neg (fun q => c1 ((nI_eq (by omega) (by omega)).mp q)), b_335_84, b_335_85, if_pos rfl, nI_1]
          exact skip (by rw [chW, H]; dsimp only; rw [decide_eq_false (fun q => c1 q.1), Bool.and_false, if_neg (by decide)])
theorem gw_p (G : GP isE tg h) (w : WF h) (T : GA isE tg h 10) {who : Nat} (hw : who < 10) : ∀ k L, k ≤ 10 → L < 1024 → bd X (d + 1) 335 4 [(0, vr (some 137)), (1, vi (nI who)), (2, vi (nI L)), (3, vi (nI (10 - k)))] [] h = av_rI (oI (gwV isE tg who k L)) h
  | 0, L, _, l10 => by
    rw [b_335_4, if_neg (show ¬ nI (10 - 0) < 10 by decide)]
    rfl
  | k + 1, L, hk, l10 => by
    have none_c : ∀ {v : Int32}, v = -1 → bd X (d + 1) 335 94 [(0, vr (some 137)), (1, vi (nI who)), (2, vi (nI L)), (3, vi (nI (9 - k))), (4, vi v)] [] h = av_rI (oI (gwV isE tg who k L)) h := fun {v} q => by
      rw [q, b_335_94, if_pos (show (-1 : Int32) < 0 by decide), b_335_109, if_pos (show (-1 : Int32) < 0 by decide), nb_and, Nat.and_self, nI_1, show 9 - k + 1 = 10 - k by omega]
      exact gw_p G w T hw k L (by omega) l10
    rw [b_335_4, show 10 - (k + 1) = 9 - k by omega, if_pos (show nI (9 - k) < 10 from nI_lt (b := 10) (by omega) (by omega)), show (1024 : Int32) = nI 1024 from rfl, pk_mul, nI_add, gwV, cW]
    cases z : isE (9 - k) with
    | true =>
      rw [if_pos rfl, b_335_17, if_pos (show (0 : Int32) < 10 by decide), gR_137_28 w, ld_159 w (by omega), G.1 (9 - k) (by omega), z, if_neg (show ¬ bI true = 0 by decide)]
      exact none_c rfl
    | false =>
      rw [if_neg (show ¬ false = true by decide), show (0 : Int32) = nI 0 from rfl, gw_e G w T (by omega) l10 z 10 0 (by omega) rfl]
      cases c : chW isE tg (gN isE tg k) (gN isE tg (k + 1) L) (9 - k) L 10 with
      | none =>
        exact none_c rfl
      | some e =>
        have e10 := ((chW_s (isE := isE) 10).1 e c).1
        have ne : ¬ nI e < 0 := fun y => absurd (i_lt.mp y) (by rw [nI_toInt (by omega)]; simp)
        rw [oI, b_335_94, if_neg ne]
        dsimp only
        by_cases c1 : 9 - k = who
        · rw [if_pos (congrArg nI c1), b_335_102, if_pos (congrArg nI c1), if_pos c1]
          rfl
        · have n1 : ¬ nI (9 - k) = nI who := fun q => c1 ((nI_eq (by omega) (by omega)).mp q)
          rw [if_neg n1, if_neg c1]
          by_cases c2 : e = who
          · rw [if_pos (congrArg nI c2), b_335_102, if_neg n1, if_pos c2]
            rfl
          · rw [if_neg (fun q => c2 ((nI_eq (by omega) (by omega)).mp q)), if_neg c2, b_335_109, if_neg ne, nb_sh1 e (by omega), nb_andn, nI_1, show 9 - k + 1 = 10 - k by omega]
            exact gw_p G w T hw k _ (by omega) (nd_lt (n := 10) l10)
theorem s_gw (G : GP isE tg h) (w : WF h) (T : GA isE tg h 10) {who : Nat} (hw : who < 10) : ev X (d + 2) 335 [vr (some 137), vi (nI who)] h = av_rI (oI (gwV isE tg who 10 1023)) h := by
  rw [e_335, b_335_0, show (1023 : Int32) = nI 1023 from rfl, show (0 : Int32) = nI (10 - 10) from rfl]
  exact gw_p G w T hw 10 1023 (by omega) (by omega)
end
