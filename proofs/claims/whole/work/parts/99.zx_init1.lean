/-! the constructors: heaps told by lists -/
def rlk : List (Nat × Nat × Nat) → Nat → Nat → Option Nat
  | [], _, _ => none
  | q :: t, a, k => cond (Nat.beq q.1 a && Nat.beq q.2.1 k) (some q.2.2) (rlk t a k)
def ilk : List (Nat × (Nat → Int32)) → Nat → Nat → Int32
  | [], _, _ => 0
  | q :: t, a, k => cond (Nat.beq q.1 a) (q.2 k) (ilk t a k)
def llk : List (Nat × (Nat → Int64)) → Nat → Nat → Int64
  | [], _, _ => 0
  | q :: t, a, k => cond (Nat.beq q.1 a) (q.2 k) (llk t a k)
def hp (n : Nat) (I : List (Nat × (Nat → Int32))) (L : List (Nat × (Nat → Int64))) (R : List (Nat × Nat × Nat)) : av_H := (gK.take n, ilk I, llk L, rlk R)
def zok (n : Nat) (I : List (Nat × (Nat → Int32))) (L : List (Nat × (Nat → Int64))) (R : List (Nat × Nat × Nat)) : Bool := (I.all (fun q => Nat.blt q.1 n) && L.all (fun q => Nat.blt q.1 n)) && R.all (fun q => Nat.blt q.1 n)
theorem nbq {a b : Nat} (h : a ≠ b) : Nat.beq a b = false := by
  cases e : Nat.beq a b with
  | false => rfl
  | true => exact absurd (Nat.eq_of_beq_eq_true e) h
theorem nbr (a : Nat) : Nat.beq a a = true := Nat.beq_refl a
theorem nbl {a b : Nat} (h : Nat.blt a b = true) : a < b := Nat.le_of_ble_eq_true h
theorem rlk_0 : ∀ {R : List (Nat × Nat × Nat)} {n a : Nat}, R.all (fun q => Nat.blt q.1 n) = true → n ≤ a → rlk R a = fun _ => none
  | [], _, _, _, _ => rfl
  | q :: t, n, a, h, ha => by
    rw [List.all_cons, Bool.and_eq_true] at h
    have ih := rlk_0 h.2 ha
    have := nbl h.1
    funext k
    rw [rlk, nbq (by omega), Bool.false_and, cond_false, ih]
theorem ilk_0 : ∀ {R : List (Nat × (Nat → Int32))} {n a : Nat}, R.all (fun q => Nat.blt q.1 n) = true → n ≤ a → ilk R a = fun _ => 0
  | [], _, _, _, _ => rfl
  | q :: t, n, a, h, ha => by
    rw [List.all_cons, Bool.and_eq_true] at h
    have ih := ilk_0 h.2 ha
    have := nbl h.1
    funext k
    rw [ilk, nbq (by omega), cond_false, ih]
theorem llk_0 : ∀ {R : List (Nat × (Nat → Int64))} {n a : Nat}, R.all (fun q => Nat.blt q.1 n) = true → n ≤ a → llk R a = fun _ => 0
  | [], _, _, _, _ => rfl
  | q :: t, n, a, h, ha => by
    rw [List.all_cons, Bool.and_eq_true] at h
    have ih := llk_0 h.2 ha
    have := nbl h.1
    funext k
    rw [llk, nbq (by omega), cond_false, ih]
theorem up_id {α β : Type} {f : Nat → α} {a : Nat} {x : α} (e : f a = x) (_ : β) : va_up f a x = f := by
  funext b
  by_cases z : b = a
  · rw [z, va_up_self, e]
  · rw [va_up_ne _ _ z]
section
variable {n : Nat} {I : List (Nat × (Nat → Int32))} {L : List (Nat × (Nat → Int64))} {R : List (Nat × Nat × Nat)}
theorem ia_len (hn : n ≤ 226) : (hp n I L R).1.length = n := by
  show (gK.take n).length = n
  rw [List.length_take, gK_len]
  omega
theorem hp_k {a : Nat} (ha : a < n) {q : Nat × Nat} (e : gK[a]? = some q) : (hp n I L R).1[a]? = some q := by
  show (gK.take n)[a]? = _
  rw [List.getElem?_take, if_pos ha]
  exact e
theorem hp_new {c m : Nat} (z : zok n I L R = true) (hn : n < 226) (e : gK[n]? = some (c, m)) : av_new (hp n I L R) c m = hp (n + 1) I L R := by
  rw [zok, Bool.and_eq_true, Bool.and_eq_true] at z
  unfold av_new
  rw [ia_len (Nat.le_of_lt hn)]
  show (gK.take n ++ [(c, m)], va_up (ilk I) n (fun _ => 0), va_up (llk L) n (fun _ => 0), va_up (rlk R) n (fun _ => none)) = (gK.take (n + 1), ilk I, llk L, rlk R)
  rw [up_id (ilk_0 z.1.1 (Nat.le_refl n)) (), up_id (llk_0 z.1.2 (Nat.le_refl n)) (), up_id (rlk_0 z.2 (Nat.le_refl n)) (), List.take_add_one, e]
  rfl
theorem ia_new {c n2 : Nat} (z : zok n I L R = true) (hn : n < 226) (e : gK[n]? = some (c, 0)) (h2 : n2 = n + 1) : av_new (hp n I L R) c 0 = hp n2 I L R := by rw [h2]; exact hp_new z hn e
theorem ia_na {β : Type} {c n2 : Nat} {v : Int32} (z : zok n I L R = true) (hn : n < 226) (hv : ¬ (v < 0 ∨ 20000 < v.toNatClampNeg)) (e : gK[n]? = some (c, v.toNatClampNeg)) (h2 : n2 = n + 1) (K : av_H → Option β) : (av_na (hp n I L R) c v).bind K = K (hp n2 I L R) := by
  rw [av_na, if_neg hv, Option.bind_some, hp_new z hn e, h2]
theorem ia_is {α : Type} {a c m : Nat} (ha : a < n) (e : gK[a]? = some (c, m)) (A B : α) : (if av_is (hp n I L R) (some a) c = true then A else B) = A := if_pos (av_is_k (hp_k ha e))
theorem hp_uR {a k v : Nat} : av_uR (hp n I L R) a k (some v) = hp n I L ((a, k, v) :: R) := by
  have : va_up (rlk R) a (va_up (rlk R a) k (some v)) = rlk ((a, k, v) :: R) := by
    funext x j
    by_cases z : x = a
    · rw [z, va_up_self]
      by_cases y : j = k
      · rw [y, va_up_self, rlk, nbr, nbr]
        rfl
      · rw [va_up_ne _ _ y, rlk, nbr, nbq (Ne.symm y)]
        rfl
    · rw [va_up_ne _ _ z, rlk, nbq (Ne.symm z)]
      rfl
  show (gK.take n, ilk I, llk L, va_up (rlk R) a (va_up (rlk R a) k (some v))) = _
  rw [this]
  rfl
theorem hp_uI {a k : Nat} {v : Int32} : av_uI (hp n I L R) a k v = hp n ((a, upd (ilk I a) k v) :: I) L R := by
  have : va_up (ilk I) a (upd (ilk I a) k v) = ilk ((a, upd (ilk I a) k v) :: I) := by
    funext x j
    by_cases z : x = a
    · rw [z, va_up_self, ilk, nbr]
      rfl
    · rw [va_up_ne _ _ z, ilk, nbq (Ne.symm z)]
      rfl
  show (gK.take n, va_up (ilk I) a (upd (ilk I a) k v), llk L, rlk R) = _
  rw [this]
  rfl
theorem hp_uL {a k : Nat} {v : Int64} : av_uL (hp n I L R) a k v = hp n I ((a, vp_updL (llk L a) k v) :: L) R := by
  have : va_up (llk L) a (vp_updL (llk L a) k v) = llk ((a, vp_updL (llk L a) k v) :: L) := by
    funext x j
    by_cases z : x = a
    · rw [z, va_up_self, llk, nbr]
      rfl
    · rw [va_up_ne _ _ z, llk, nbq (Ne.symm z)]
      rfl
  show (gK.take n, ilk I, va_up (llk L) a (vp_updL (llk L a) k v), rlk R) = _
  rw [this]
  rfl
theorem hp_u0 {a k : Nat} (e : ilk I a k = 0) : av_uI (hp n I L R) a k 0 = hp n I L R := by
  have : va_up (ilk I) a (upd (ilk I a) k 0) = ilk I := by
    refine up_id ?_ ()
    funext j
    by_cases y : j = k
    · rw [y, pk_us, e]
    · rw [pk_un y]
  show (gK.take n, va_up (ilk I) a (upd (ilk I a) k 0), llk L, rlk R) = _
  rw [this]
  rfl
theorem hp_ext {J : List (Nat × (Nat → Int32))} (e : ∀ a j, ilk I a j = ilk J a j) : hp n I L R = hp n J L R := by
  have : ilk I = ilk J := by
    funext a j
    exact e a j
  show (gK.take n, ilk I, llk L, rlk R) = (gK.take n, ilk J, llk L, rlk R)
  rw [this]
theorem hp_extL {J : List (Nat × (Nat → Int64))} (e : ∀ a j, llk L a j = llk J a j) : hp n I L R = hp n I J R := by
  have : llk L = llk J := by
    funext a j
    exact e a j
  show (gK.take n, ilk I, llk L, rlk R) = (gK.take n, ilk I, llk J, rlk R)
  rw [this]
theorem ia_pR {β : Type} {a c m k v : Nat} (ha : a < n) (e : gK[a]? = some (c, m)) (K : av_H → Option β) : (av_pR (hp n I L R) (some a) c k (some v)).bind K = K (hp n I L ((a, k, v) :: R)) := by rw [bS (k_pR (hp_k ha e) k _), hp_uR]
theorem ia_pI {β : Type} {a c m k : Nat} {v : Int32} {f : Nat → Int32} (ha : a < n) (e : gK[a]? = some (c, m)) (i0 : ilk I a = f) (K : av_H → Option β) : (av_pI (hp n I L R) (some a) c k v).bind K = K (hp n ((a, upd f k v) :: I) L R) := by rw [bS (k_pI (hp_k ha e) k _), hp_uI, i0]
theorem ia_p0 {β : Type} {a c m k : Nat} (ha : a < n) (e : gK[a]? = some (c, m)) (i : ilk I a k = 0) (K : av_H → Option β) : (av_pI (hp n I L R) (some a) c k 0).bind K = K (hp n I L R) := by rw [bS (k_pI (hp_k ha e) k _), hp_u0 i]
theorem ia_z0 {β : Type} {a c m k : Nat} (ha : a < n) (e : gK[a]? = some (c, m)) (i : ilk I a k = 0) (K : av_H → Option β) : (av_pZ (hp n I L R) (some a) c k 0).bind K = K (hp n I L R) := by rw [bS (k_pZ (hp_k ha e) k (Or.inl rfl)), hp_u0 i]
theorem ia_pL {β : Type} {a c m k : Nat} {v : Int64} {f : Nat → Int64} (ha : a < n) (e : gK[a]? = some (c, m)) (i0 : llk L a = f) (K : av_H → Option β) : (av_pL (hp n I L R) (some a) c k v).bind K = K (hp n I ((a, vp_updL f k v) :: L) R) := by rw [bS (k_pL (hp_k ha e) k _), hp_uL, i0]
theorem ia_gR {β : Type} {a c m k : Nat} (ha : a < n) (e : gK[a]? = some (c, m)) {v : Option Nat} (r : rlk R a k = v) (K : Option Nat → Option β) : (av_gR (hp n I L R) (some a) c k).bind K = K v := by
  rw [bS (k_gR (hp_k ha e) k)]
  show K (rlk R a k) = K v
  rw [r]
theorem hp_sL {a k : Nat} {v : Int64} {f : Nat → Int64} : av_uL (hp n I ((a, f) :: L) R) a k v = hp n I ((a, vp_updL f k v) :: L) R := by
  rw [hp_uL, show llk ((a, f) :: L) a = f by funext j; rw [llk, nbr]; rfl]
  refine hp_extL (fun b j => ?_)
  rw [llk, llk, llk]
  dsimp only
  cases Nat.beq a b with
  | true => rfl
  | false => rfl
theorem ia_sL {β : Type} {a m j : Nat} {i : Int32} {v : Int64} {f : Nat → Int64} (ha : a < n) (e : gK[a]? = some (101, m)) (hi : i = nI j) (hj : j < m) (hm : m ≤ 20000) (K : av_H → Option β) : (av_sL (hp n I ((a, f) :: L) R) (some a) i v).bind K = K (hp n I ((a, vp_updL f j v) :: L) R) := by
  rw [hi, bS (k_sL (hp_k ha e) hj hm), hp_sL]
theorem ia_sL0 {β : Type} {a m j : Nat} {i : Int32} {v : Int64} (ha : a < n) (e : gK[a]? = some (101, m)) (hi : i = nI j) (hj : j < m) (hm : m ≤ 20000) (l0 : llk L a = fun _ => 0) (K : av_H → Option β) : (av_sL (hp n I L R) (some a) i v).bind K = K (hp n I ((a, vp_updL (fun _ => 0) j v) :: L) R) := by
  rw [hi, bS (k_sL (hp_k ha e) hj hm), hp_uL, l0]
/-- an array filled from i on -/
def fiF (v : Int32) (m : Nat) (f : Nat → Int32) (i : Nat) : Nat → Int32 := fun j => if i ≤ j ∧ j < m then v else f j
def fiL (v : Int64) (m : Nat) (f : Nat → Int64) (i : Nat) : Nat → Int64 := fun j => if i ≤ j ∧ j < m then v else f j
theorem hp_fi {a i m : Nat} {v : Int32} (hi : i < m) (f : Nat → Int32) (hf : ∀ j, ilk I a j = f j) : hp n ((a, fiF v m (upd f i v) (i + 1)) :: (a, upd (ilk I a) i v) :: I) L R = hp n ((a, fiF v m f i) :: I) L R := by
  refine hp_ext (fun b j => ?_)
  rw [ilk, ilk, ilk]
  dsimp only
  cases Nat.beq a b with
  | false => rfl
  | true =>
    rw [cond_true, cond_true]
    unfold fiF
    by_cases z : j = i
    · rw [if_neg (by omega), if_pos (by omega), z, pk_us]
    · rw [pk_un z]
      by_cases y : i ≤ j ∧ j < m
      · rw [if_pos y, if_pos (by omega)]
      · rw [if_neg y, if_neg (by omega)]
end
section
variable {X : av_X} {d n : Nat} {L : List (Nat × (Nat → Int64))} {R : List (Nat × Nat × Nat)}
theorem ia_fl {a m : Nat} {v : Int32} (ha : a < n) (e : gK[a]? = some (100, m)) (hm : m ≤ 20000) : ∀ q i (I : List (Nat × (Nat → Int32))), i + q = m → bd X d 383 5 [(0, vr (some a)), (1, vi v), (2, vi (nI i)), (3, vi (nI m))] [] (hp n I L R) = av_rV (hp n ((a, fiF v m (ilk I a) i) :: I) L R)
  | 0, i, I, hi => by
    rw [b_383_5, if_neg (nI_nlt (by omega) (by omega))]
    congr 1
    refine hp_ext (fun b j => ?_)
    rw [ilk]
    dsimp only
    cases z : Nat.beq a b with
    | false => rfl
    | true =>
      rw [cond_true, fiF, if_neg (by omega), Nat.eq_of_beq_eq_true z]
  | q + 1, i, I, hi => by
    rw [b_383_5, if_pos (nI_lt (by omega) (by omega)), bS (k_sI (hp_k ha e) (by omega) hm), hp_uI, nI_1, ia_fl ha e hm q (i + 1) _ (by omega)]
    congr 1
    rw [show ilk ((a, upd (ilk I a) i v) :: I) a = upd (ilk I a) i v by funext j; rw [ilk, nbr]; rfl]
    exact hp_fi (by omega) _ (fun _ => rfl)
theorem ia_fill {β : Type} {I : List (Nat × (Nat → Int32))} {a m : Nat} {v : Int32} {f : Nat → Int32} (ha : a < n) (e : gK[a]? = some (100, m)) (hm : m ≤ 20000) (i0 : ilk I a = f) (K : av_H → Option β) : (av_cV (ev X (d + 1) 383 [vr (some a), vi v] (hp n I L R))).bind K = K (hp n ((a, fiF v m f 0) :: I) L R) := by
  subst i0
  rw [e_383, b_383_0, bS (k_len (hp_k ha e) (by decide))]
  have := ia_fl (X := X) (d := d) (L := L) (R := R) (v := v) ha e hm m 0 I (by omega)
  rw [show bd X d 383 5 [(0, vr (some a)), (1, vi v), (2, vi 0), (3, vi _)] [] (hp n I L R) = _ from this, av_cV_r, Option.bind_some]
theorem ia_f0 {β : Type} {I : List (Nat × (Nat → Int32))} {a m : Nat} (ha : a < n) (e : gK[a]? = some (100, m)) (hm : m ≤ 20000) (i0 : ilk I a = fun _ => 0) (K : av_H → Option β) : (av_cV (ev X (d + 1) 383 [vr (some a), vi 0] (hp n I L R))).bind K = K (hp n I L R) := by
  rw [ia_fill ha e hm rfl]
  congr 1
  refine hp_ext (fun b j => ?_)
  rw [ilk]
  dsimp only
  cases z : Nat.beq a b with
  | false => rfl
  | true =>
    rw [cond_true, ← Nat.eq_of_beq_eq_true z, i0]
    unfold fiF
    split <;> rfl
theorem ia_Ll {a m : Nat} {v : Int64} {I : List (Nat × (Nat → Int32))} (ha : a < n) (e : gK[a]? = some (101, m)) (hm : m ≤ 20000) : ∀ q i (L : List (Nat × (Nat → Int64))), i + q = m → bd X d 382 5 [(0, vr (some a)), (1, vl v), (3, vi (nI i)), (4, vi (nI m))] [] (hp n I L R) = av_rV (hp n I ((a, fiL v m (llk L a) i) :: L) R)
  | 0, i, L, hi => by
    rw [b_382_5, if_neg (nI_nlt (by omega) (by omega))]
    congr 1
    refine hp_extL (fun b j => ?_)
    rw [llk]
    dsimp only
    cases z : Nat.beq a b with
    | false => rfl
    | true =>
      rw [cond_true, fiL, if_neg (by omega), Nat.eq_of_beq_eq_true z]
  | q + 1, i, L, hi => by
    rw [b_382_5, if_pos (nI_lt (by omega) (by omega)), bS (k_sL (hp_k ha e) (by omega) hm), hp_uL, nI_1, ia_Ll ha e hm q (i + 1) _ (by omega)]
    congr 1
    refine hp_extL (fun b j => ?_)
    rw [llk, llk, llk]
    dsimp only
    cases z : Nat.beq a b with
    | false => rfl
    | true =>
      have ab := Nat.eq_of_beq_eq_true z
      rw [cond_true, cond_true]
      unfold fiL
      rw [llk, nbr]
      dsimp only
      rw [cond_true]
      by_cases y : j = i
      · rw [if_neg (by omega), if_pos (by omega), y]
        simp [vp_updL]
      · by_cases x : i ≤ j ∧ j < m
        · rw [if_pos (by omega), if_pos x]
        · rw [if_neg (by omega), if_neg x]
          simp [vp_updL, upd, y]
theorem ia_filL {β : Type} {I : List (Nat × (Nat → Int32))} {a m : Nat} {v : Int64} {f : Nat → Int64} (ha : a < n) (e : gK[a]? = some (101, m)) (hm : m ≤ 20000) (i0 : llk L a = f) (K : av_H → Option β) : (av_cV (ev X (d + 1) 382 [vr (some a), vl v] (hp n I L R))).bind K = K (hp n I ((a, fiL v m f 0) :: L) R) := by
  subst i0
  rw [e_382, b_382_0, bS (k_len (hp_k ha e) (by decide))]
  have := ia_Ll (X := X) (d := d) (I := I) (R := R) (v := v) ha e hm m 0 L (by omega)
  rw [show bd X d 382 5 [(0, vr (some a)), (1, vl v), (3, vi 0), (4, vi _)] [] (hp n I L R) = _ from this, av_cV_r, Option.bind_some]
end
