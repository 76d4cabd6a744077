/-! the three constructors -/
section
variable {X : av_X} {d n : Nat} {I : List (Nat × (Nat → Int32))} {L : List (Nat × (Nat → Int64))}
def dR : Nat → Nat → List (Nat × Nat × Nat) → List (Nat × Nat × Nat)
  | 0, _, R => R
  | q + 1, i, R => dR q (i + 1) ((65, i, 77 + i) :: R)
theorem all_up {α : Type} {l : List (Nat × α)} {n m : Nat} (h : l.all (fun q => Nat.blt q.1 n) = true) (q : n ≤ m) : l.all (fun q => Nat.blt q.1 m) = true := by
  rw [List.all_eq_true] at h ⊢
  intro x hx
  have := nbl (h x hx)
  exact Nat.ble_eq_true_of_le (show x.1 + 1 ≤ m by omega)
theorem zok_up {R : List (Nat × Nat × Nat)} {n m : Nat} (z : zok n I L R = true) (q : n ≤ m) : zok m I L R = true := by
  rw [zok, Bool.and_eq_true, Bool.and_eq_true] at z ⊢
  exact ⟨⟨all_up z.1.1 q, all_up z.1.2 q⟩, all_up z.2 q⟩
theorem zok_r {R : List (Nat × Nat × Nat)} {n a k v : Nat} (z : zok n I L R = true) (q : a < n) : zok n I L ((a, k, v) :: R) = true := by
  rw [zok, Bool.and_eq_true, Bool.and_eq_true] at z ⊢
  refine ⟨z.1, ?_⟩
  rw [List.all_cons, z.2, Bool.and_true]
  exact Nat.ble_eq_true_of_le q
theorem in_dr : ∀ q i (R : List (Nat × Nat × Nat)), i + q = 60 → zok (77 + i) I L R = true → rlk R 0 13 = some 65 → bd X (d + 1) 126 94 [(0, vr (some 0)), (1, vi (nI i))] [] (hp (77 + i) I L R) = av_rV (hp 137 I L (dR q i R))
  | 0, i, R, hi, z, r => by
    obtain rfl : i = 60 := by omega
    rw [b_126_94, if_neg (show ¬ nI 60 < 60 by decide)]
    rfl
  | q + 1, i, R, hi, z, r => by
    have e := dr_kk i (by omega)
    have z1 := zok_up z (Nat.le_succ (77 + i))
    have k1 : (hp (77 + i + 1) I L R).1[65]? = some (105, 60) := hp_k (by omega) rfl
    have k2 : (hp (77 + i + 1) I L R).1[77 + i]? = some (0, 0) := hp_k (by omega) e
    have sR : av_sR (hp (77 + i + 1) I L R) (some 65) 105 0 (nI i) (some (77 + i)) = some (av_uR (hp (77 + i + 1) I L R) 65 i (some (77 + i))) := by
      have t : (nI i).toNatClampNeg = i := by rw [Int32.toNatClampNeg, toI_nI (by omega)]; rfl
      have a1 : av_at (hp (77 + i + 1) I L R) (some 65) 105 (nI i) = true := by
        unfold av_at
        dsimp only
        rw [k1]
        dsimp only
        rw [t, decide_eq_false (nI_pos (by omega))]
        exact Nat.ble_eq_true_of_le (show i + 1 ≤ 60 by omega)
      unfold av_sR
      rw [if_pos ⟨a1, av_is_k k2⟩, t]
      rfl
    rw [b_126_94, if_pos (show nI i < 60 from nI_lt (b := 60) (by omega) (by omega)), ia_gR (v := some 65) (by omega) (show gK[0]? = some (10, 0) from rfl) r, ia_new (n2 := 77 + i + 1) z (by omega) e rfl, ia_len (by omega), ia_is (by omega) e, e_0, b_0_0, ia_is (by omega) e, av_cV_r, Option.bind_some, sR, Option.bind_some, hp_uR, nI_1]
    exact in_dr q (i + 1) ((65, i, 77 + i) :: R) (by omega) (zok_r z1 (by omega)) r
theorem ia_dr {R : List (Nat × Nat × Nat)} (z : zok 77 I L R = true) (r : rlk R 0 13 = some 65) : bd X (d + 1) 126 94 [(0, vr (some 0)), (1, vi (0 : Int32))] [] (hp 77 I L R) = av_rV (hp 137 I L (dR 60 0 R)) := in_dr 60 0 R (by omega) z r
theorem ilk_s {a : Nat} {f : Nat → Int32} : ilk ((a, f) :: I) a = f := by
  funext j
  rw [ilk, nbr]
  rfl
theorem hp_f0 {a m i : Nat} {v : Int32} {R : List (Nat × Nat × Nat)} (hi : m ≤ i) : hp n ((a, fiF v m (ilk I a) i) :: I) L R = hp n I L R := by
  refine hp_ext (fun b j => ?_)
  rw [ilk]
  dsimp only
  cases z : Nat.beq a b with
  | false => rfl
  | true => rw [cond_true, fiF, if_neg (by omega), Nat.eq_of_beq_eq_true z]
section
variable {R : List (Nat × Nat × Nat)}
theorem in_l444 (hn : 146 < n) (h7 : 137 < n) (r : rlk R 137 13 = some 146) : ∀ q i (I : List (Nat × (Nat → Int32))), i + q = 2880 → bd X d 239 444 [(0, vr (some 137)), (1, vi (nI i))] [] (hp n I L R) = (fun H => bd X d 239 456 [(0, vr (some 137)), (1, vi (0 : Int32))] [] H) (hp n ((146, fiF (-1) 2880 (ilk I 146) i) :: I) L R)
  | 0, i, I, hi => by
    conv => lhs; rw [b_239_444]
    rw [if_neg (show ¬ nI i < 2880 from nI_nlt (b := 2880) (by omega) (by omega)), hp_f0 (by omega)]
  | q + 1, i, I, hi => by
    have ih := in_l444 hn h7 r q (i + 1) ((146, upd (ilk I 146) i (-1)) :: I) (by omega)
    conv => lhs; rw [b_239_444]
    rw [if_pos (show nI i < 2880 from nI_lt (b := 2880) (by omega) (by omega)), ia_gR (v := some 146) h7 (show gK[137]? = some (11, 0) from rfl) r, bS (k_sI (hp_k hn (show gK[146]? = some (100, 2880) from rfl)) (by omega) (by decide)), hp_uI, nI_1, ih, ilk_s, hp_fi (by omega) _ (fun _ => rfl)]
theorem ia_l444 (hn : 146 < n) (h7 : 137 < n) (r : rlk R 137 13 = some 146) (i0 : ilk I 146 = fun _ => 0) : bd X d 239 444 [(0, vr (some 137)), (1, vi (0 : Int32))] [] (hp n I L R) = (fun H => bd X d 239 456 [(0, vr (some 137)), (1, vi (0 : Int32))] [] H) (hp n ((146, fiF (-1) 2880 (fun _ => 0) 0) :: I) L R) := by
  have := in_l444 (X := X) (d := d) (L := L) hn h7 r 2880 0 I (by omega)
  rw [i0] at this
  exact this
theorem in_l473 (hn : 160 < n) (h7 : 137 < n) (r : rlk R 137 29 = some 160) : ∀ q i (I : List (Nat × (Nat → Int32))), i + q = 10 → bd X d 239 473 [(0, vr (some 137)), (1, vi (nI i))] [] (hp n I L R) = (fun H => bd X d 239 485 [(0, vr (some 137)), (1, vi (0 : Int32))] [] H) (hp n ((160, fiF (-1) 10 (ilk I 160) i) :: I) L R)
  | 0, i, I, hi => by
    conv => lhs; rw [b_239_473]
    rw [if_neg (show ¬ nI i < 10 from nI_nlt (b := 10) (by omega) (by omega)), hp_f0 (by omega)]
  | q + 1, i, I, hi => by
    have ih := in_l473 hn h7 r q (i + 1) ((160, upd (ilk I 160) i (-1)) :: I) (by omega)
    conv => lhs; rw [b_239_473]
    rw [if_pos (show nI i < 10 from nI_lt (b := 10) (by omega) (by omega)), ia_gR (v := some 160) h7 (show gK[137]? = some (11, 0) from rfl) r, bS (k_sI (hp_k hn (show gK[160]? = some (100, 10) from rfl)) (by omega) (by decide)), hp_uI, nI_1, ih, ilk_s, hp_fi (by omega) _ (fun _ => rfl)]
theorem ia_l473 (hn : 160 < n) (h7 : 137 < n) (r : rlk R 137 29 = some 160) (i0 : ilk I 160 = fun _ => 0) : bd X d 239 473 [(0, vr (some 137)), (1, vi (0 : Int32))] [] (hp n I L R) = (fun H => bd X d 239 485 [(0, vr (some 137)), (1, vi (0 : Int32))] [] H) (hp n ((160, fiF (-1) 10 (fun _ => 0) 0) :: I) L R) := by
  have := in_l473 (X := X) (d := d) (L := L) hn h7 r 10 0 I (by omega)
  rw [i0] at this
  exact this
theorem in_l485 (hn : 188 < n) (h7 : 137 < n) (r : rlk R 137 67 = some 188) : ∀ q i (I : List (Nat × (Nat → Int32))), i + q = 20 → bd X d 239 485 [(0, vr (some 137)), (1, vi (nI i))] [] (hp n I L R) = (fun H => (av_pI H (some 137) 11 68 (2 : Int32)).bind fun g3 => (av_pI g3 (some 137) 11 37 (4 : Int32)).bind fun g4 => (av_pI g4 (some 137) 11 38 (30 : Int32)).bind fun g5 => bd X d 239 506 [(0, vr (some 137)), (1, vi (0 : Int32))] [] g5) (hp n ((188, fiF (5) 20 (ilk I 188) i) :: I) L R)
  | 0, i, I, hi => by
    conv => lhs; rw [b_239_485]
    rw [if_neg (show ¬ nI i < 20 from nI_nlt (b := 20) (by omega) (by omega)), hp_f0 (by omega)]
  | q + 1, i, I, hi => by
    have ih := in_l485 hn h7 r q (i + 1) ((188, upd (ilk I 188) i (5)) :: I) (by omega)
    conv => lhs; rw [b_239_485]
    rw [if_pos (show nI i < 20 from nI_lt (b := 20) (by omega) (by omega)), ia_gR (v := some 188) h7 (show gK[137]? = some (11, 0) from rfl) r, bS (k_sI (hp_k hn (show gK[188]? = some (100, 20) from rfl)) (by omega) (by decide)), hp_uI, nI_1, ih, ilk_s, hp_fi (by omega) _ (fun _ => rfl)]
theorem ia_l485 (hn : 188 < n) (h7 : 137 < n) (r : rlk R 137 67 = some 188) (i0 : ilk I 188 = fun _ => 0) : bd X d 239 485 [(0, vr (some 137)), (1, vi (0 : Int32))] [] (hp n I L R) = (fun H => (av_pI H (some 137) 11 68 (2 : Int32)).bind fun g3 => (av_pI g3 (some 137) 11 37 (4 : Int32)).bind fun g4 => (av_pI g4 (some 137) 11 38 (30 : Int32)).bind fun g5 => bd X d 239 506 [(0, vr (some 137)), (1, vi (0 : Int32))] [] g5) (hp n ((188, fiF (5) 20 (fun _ => 0) 0) :: I) L R) := by
  have := in_l485 (X := X) (d := d) (L := L) hn h7 r 20 0 I (by omega)
  rw [i0] at this
  exact this
theorem in_l506 (hn : 165 < n) (h7 : 137 < n) (r : rlk R 137 36 = some 165) : ∀ q i (I : List (Nat × (Nat → Int32))), i + q = 6 → bd X d 239 506 [(0, vr (some 137)), (1, vi (nI i))] [] (hp n I L R) = (fun H => av_rV H) (hp n ((165, fiF (-1) 6 (ilk I 165) i) :: I) L R)
  | 0, i, I, hi => by
    conv => lhs; rw [b_239_506]
    rw [if_neg (show ¬ nI i < 6 from nI_nlt (b := 6) (by omega) (by omega)), hp_f0 (by omega)]
  | q + 1, i, I, hi => by
    have ih := in_l506 hn h7 r q (i + 1) ((165, upd (ilk I 165) i (-1)) :: I) (by omega)
    conv => lhs; rw [b_239_506]
    rw [if_pos (show nI i < 6 from nI_lt (b := 6) (by omega) (by omega)), ia_gR (v := some 165) h7 (show gK[137]? = some (11, 0) from rfl) r, bS (k_sI (hp_k hn (show gK[165]? = some (100, 6) from rfl)) (by omega) (by decide)), hp_uI, nI_1, ih, ilk_s, hp_fi (by omega) _ (fun _ => rfl)]
theorem ia_l506 (hn : 165 < n) (h7 : 137 < n) (r : rlk R 137 36 = some 165) (i0 : ilk I 165 = fun _ => 0) : bd X d 239 506 [(0, vr (some 137)), (1, vi (0 : Int32))] [] (hp n I L R) = (fun H => av_rV H) (hp n ((165, fiF (-1) 6 (fun _ => 0) 0) :: I) L R) := by
  have := in_l506 (X := X) (d := d) (L := L) hn h7 r 6 0 I (by omega)
  rw [i0] at this
  exact this
theorem hp_f2 {i : Nat} (hi : i < 6) : hp n ((149, fiF 1000 6 (upd (ilk ((148, upd (ilk I 148) i 2) :: I) 149) i 1000) (i + 1)) :: (148, fiF 2 6 (upd (ilk I 148) i 2) (i + 1)) :: (149, upd (ilk ((148, upd (ilk I 148) i 2) :: I) 149) i 1000) :: (148, upd (ilk I 148) i 2) :: I) L R = hp n ((149, fiF 1000 6 (ilk I 149) i) :: (148, fiF 2 6 (ilk I 148) i) :: I) L R := by
  have ne : ∀ f : Nat → Int32, ilk ((148, f) :: I) 149 = ilk I 149 := fun f => by
    funext j
    rw [ilk, nbq (show ¬ 148 = 149 by decide)]
    rfl
  rw [ne]
  have fe : ∀ (f : Nat → Int32) (v : Int32) j, fiF v 6 (upd f i v) (i + 1) j = fiF v 6 f i j := fun f v j => by
    unfold fiF
    by_cases z : j = i
    · rw [if_neg (by omega), if_pos (by omega), z, pk_us]
    · rw [pk_un z]
      by_cases y : i ≤ j ∧ j < 6
      · rw [if_pos y, if_pos (by omega)]
      · rw [if_neg y, if_neg (by omega)]
  refine hp_ext (fun x j => ?_)
  rw [ilk, ilk, ilk, ilk, ilk, ilk]
  dsimp only
  rw [fe, fe]
  cases Nat.beq 149 x with
  | true => rfl
  | false =>
    cases Nat.beq 148 x with
    | true => rfl
    | false => rfl
theorem hp_f00 {i : Nat} (hi : 6 ≤ i) : hp n ((149, fiF 1000 6 (ilk I 149) i) :: (148, fiF 2 6 (ilk I 148) i) :: I) L R = hp n I L R := by
  have z0 : ∀ (f : Nat → Int32) (v : Int32), fiF v 6 f i = f := fun f v => by
    funext j
    rw [fiF, if_neg (by omega)]
  rw [z0, z0]
  refine hp_ext (fun x j => ?_)
  rw [ilk, ilk]
  dsimp only
  cases z : Nat.beq 149 x with
  | true => rw [cond_true, Nat.eq_of_beq_eq_true z]
  | false =>
    cases y : Nat.beq 148 x with
    | true => rw [cond_false, cond_true, Nat.eq_of_beq_eq_true y]
    | false => rfl
theorem in_l456 (h1 : 148 < n) (h2 : 149 < n) (h7 : 137 < n) (r : rlk R 137 15 = some 148) (r2 : rlk R 137 16 = some 149) : ∀ q i (I : List (Nat × (Nat → Int32))), i + q = 6 → bd X d 239 456 [(0, vr (some 137)), (1, vi (nI i))] [] (hp n I L R) = bd X d 239 473 [(0, vr (some 137)), (1, vi (0 : Int32))] [] (hp n ((149, fiF 1000 6 (ilk I 149) i) :: (148, fiF 2 6 (ilk I 148) i) :: I) L R)
  | 0, i, I, hi => by
    conv => lhs; rw [b_239_456]
    rw [if_neg (show ¬ nI i < 6 from nI_nlt (b := 6) (by omega) (by omega)), hp_f00 (by omega)]
  | q + 1, i, I, hi => by
    have ih := in_l456 h1 h2 h7 r r2 q (i + 1) ((149, upd (ilk ((148, upd (ilk I 148) i 2) :: I) 149) i 1000) :: (148, upd (ilk I 148) i 2) :: I) (by omega)
    have sa : ilk ((149, upd (ilk ((148, upd (ilk I 148) i 2) :: I) 149) i 1000) :: (148, upd (ilk I 148) i 2) :: I) 148 = upd (ilk I 148) i 2 := by
      funext j
      rw [ilk, nbq (show ¬ 149 = 148 by decide), cond_false, ilk_s]
    rw [ilk_s, sa, hp_f2 (by omega)] at ih
    conv => lhs; rw [b_239_456]
    rw [if_pos (show nI i < 6 from nI_lt (b := 6) (by omega) (by omega)), ia_gR (v := some 148) h7 (show gK[137]? = some (11, 0) from rfl) r, bS (k_sI (hp_k h1 (show gK[148]? = some (100, 6) from rfl)) (by omega) (by decide)), hp_uI, ia_gR (v := some 149) h7 (show gK[137]? = some (11, 0) from rfl) r2, bS (k_sI (hp_k h2 (show gK[149]? = some (100, 6) from rfl)) (by omega) (by decide)), hp_uI, nI_1, ih]
theorem ia_l456 (h1 : 148 < n) (h2 : 149 < n) (h7 : 137 < n) (r : rlk R 137 15 = some 148) (r2 : rlk R 137 16 = some 149) (i1 : ilk I 148 = fun _ => 0) (i2 : ilk I 149 = fun _ => 0) : bd X d 239 456 [(0, vr (some 137)), (1, vi (0 : Int32))] [] (hp n I L R) = bd X d 239 473 [(0, vr (some 137)), (1, vi (0 : Int32))] [] (hp n ((149, fiF 1000 6 (fun _ => 0) 0) :: (148, fiF 2 6 (fun _ => 0) 0) :: I) L R) := by
  have := in_l456 (X := X) (d := d) (L := L) h1 h2 h7 r r2 6 0 I (by omega)
  rw [i1, i2] at this
  exact this
end
end
