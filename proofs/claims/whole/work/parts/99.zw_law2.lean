/-! the law's loop -/
def PCS : Nat → List (Nat × Nat) → Prop
  | 0, t => t = []
  | K + 1, t => ∃ s, PCS K s ∧ (t = s ∨ t = s ++ [(9, 0), (100, 40), (100, 4)] ∨ t = s ++ [(12, 0)])
theorem PCS_len : ∀ K t, PCS K t → t.length ≤ 3 * K
  | 0, t, h => by rw [show t = [] from h]; exact Nat.zero_le _
  | K + 1, t, h => by
    obtain ⟨s, hs, q⟩ := h
    have := PCS_len K s hs
    rcases q with q | q | q
    · rw [q]; omega
    · rw [q, List.length_append]; show s.length + 3 ≤ _; omega
    · rw [q, List.length_append]; show s.length + 1 ≤ _; omega
/-- what stands after K calls -/
def LI (K : Nat) (h : av_H) : Prop := Inv K h ∧ ∃ t, h.1 = gK ++ t ∧ PCS K t
theorem gK_len : gK.length = 226 := by decide +kernel
theorem LI.len {K : Nat} {h : av_H} (L : LI K h) : h.1.length ≤ 226 + 3 * K := by
  obtain ⟨_, t, e, p⟩ := L
  rw [e, List.length_append, gK_len]
  have := PCS_len K t p
  omega
theorem LI.next {K : Nat} {h h2 : av_H} (L : LI K h) (I : Inv (K + 1) h2) (G : Gr h h2) : LI (K + 1) h2 := by
  obtain ⟨_, t, e, p⟩ := L
  refine ⟨I, ?_⟩
  rcases G with g | g | g
  · exact ⟨t, g.trans e, t, p, Or.inl rfl⟩
  · exact ⟨t ++ [(9, 0), (100, 40), (100, 4)], by rw [g, e, List.append_assoc], t, p, Or.inr (Or.inl rfl)⟩
  · exact ⟨t ++ [(12, 0)], by rw [g, e, List.append_assoc], t, p, Or.inr (Or.inr rfl)⟩
theorem Inv.up {K K' : Nat} {h : av_H} (I : Inv K h) (q : K ≤ K') : Inv K' h := by
  obtain ⟨w, Jtow, Jlv, Jne, Jfi, Jco, Jwi, Jel, Jdr, Jto, Jaw, Jof, Jch, Jca, Jcm, Jwa, Jro, Jke, Jtp, Jru, Jdp, Jmk, Jr⟩ := I
  exact ⟨w, Jtow, Jlv, Jne, Jfi, Jco, Jwi, Jel, Jdr, Jto, Jaw, Jof, Jch, Jca, Jcm, Jwa, Jro, Jke, Jtp, Jru, Jdp, Jmk.mono q, Jr⟩
theorem Inv.w {K : Nat} {h : av_H} (I : Inv K h) : WF h := I.1
theorem is_137' {α : Type} {h1 h2 : av_H} (w2 : WF h2) (l : h2.1 = h1.1) (A B : α) : (if av_is h1 (some 137) 11 = true then A else B) = A := if_pos (av_is_k (by rw [← l]; exact w2.k (a := 137) rfl))
section
variable {X : av_X} {d n : Nat} {f : Nat → Int32}
theorem rdX {g : av_H} (hX : X 1000000 = some (n, f)) (hg : g.1.length ≤ 1000000) {j : Nat} (hj : j < n) (hn : n ≤ 4096) : av_lI X g (some 1000000) (nI j) = some (f j) := by
  have e : g.1[1000000]? = none := List.getElem?_eq_none hg
  have a : av_at g (some 1000000) 100 (nI j) = false := by simp only [av_at, e]
  unfold av_lI
  rw [a, if_neg (by decide)]
  dsimp only
  rw [hX]
  dsimp only
  have t : (nI j).toNatClampNeg = j := by rw [Int32.toNatClampNeg, toI_nI (by omega)]; rfl
  rw [t, if_neg (by
    intro q
    rcases q with q | q
    · exact nI_pos (by omega) q
    · omega)]
theorem lenX {g : av_H} (hX : X 1000000 = some (n, f)) (hg : g.1.length ≤ 1000000) : av_len X g (some 1000000) = some (nI n) := by
  have e : g.1[1000000]? = none := List.getElem?_eq_none hg
  unfold av_len
  dsimp only
  rw [e]
  dsimp only
  rw [hX]
  rfl
theorem rdB_1 {β : Type} {g : av_H} (hX : X 1000000 = some (n, f)) (hn : n ≤ 4096) {b : Nat} (hb : b + 8 ≤ n) (hg : g.1.length ≤ 1000000) (Kc : Int32 → Option β) : (av_lI X g (some 1000000) (nI b + 1)).bind Kc = Kc (f (b + 1)) := by
  rw [show (1 : Int32) = nI 1 from rfl, nI_add, rdX hX hg (by omega) hn, Option.bind_some]
theorem rdB_2 {β : Type} {g : av_H} (hX : X 1000000 = some (n, f)) (hn : n ≤ 4096) {b : Nat} (hb : b + 8 ≤ n) (hg : g.1.length ≤ 1000000) (Kc : Int32 → Option β) : (av_lI X g (some 1000000) (nI b + 2)).bind Kc = Kc (f (b + 2)) := by
  rw [show (2 : Int32) = nI 2 from rfl, nI_add, rdX hX hg (by omega) hn, Option.bind_some]
theorem rdB_3 {β : Type} {g : av_H} (hX : X 1000000 = some (n, f)) (hn : n ≤ 4096) {b : Nat} (hb : b + 8 ≤ n) (hg : g.1.length ≤ 1000000) (Kc : Int32 → Option β) : (av_lI X g (some 1000000) (nI b + 3)).bind Kc = Kc (f (b + 3)) := by
  rw [show (3 : Int32) = nI 3 from rfl, nI_add, rdX hX hg (by omega) hn, Option.bind_some]
theorem rdB_4 {β : Type} {g : av_H} (hX : X 1000000 = some (n, f)) (hn : n ≤ 4096) {b : Nat} (hb : b + 8 ≤ n) (hg : g.1.length ≤ 1000000) (Kc : Int32 → Option β) : (av_lI X g (some 1000000) (nI b + 4)).bind Kc = Kc (f (b + 4)) := by
  rw [show (4 : Int32) = nI 4 from rfl, nI_add, rdX hX hg (by omega) hn, Option.bind_some]
theorem rdB_5 {β : Type} {g : av_H} (hX : X 1000000 = some (n, f)) (hn : n ≤ 4096) {b : Nat} (hb : b + 8 ≤ n) (hg : g.1.length ≤ 1000000) (Kc : Int32 → Option β) : (av_lI X g (some 1000000) (nI b + 5)).bind Kc = Kc (f (b + 5)) := by
  rw [show (5 : Int32) = nI 5 from rfl, nI_add, rdX hX hg (by omega) hn, Option.bind_some]
theorem rdB_6 {β : Type} {g : av_H} (hX : X 1000000 = some (n, f)) (hn : n ≤ 4096) {b : Nat} (hb : b + 8 ≤ n) (hg : g.1.length ≤ 1000000) (Kc : Int32 → Option β) : (av_lI X g (some 1000000) (nI b + 6)).bind Kc = Kc (f (b + 6)) := by
  rw [show (6 : Int32) = nI 6 from rfl, nI_add, rdX hX hg (by omega) hn, Option.bind_some]
theorem rdB_7 {β : Type} {g : av_H} (hX : X 1000000 = some (n, f)) (hn : n ≤ 4096) {b : Nat} (hb : b + 8 ≤ n) (hg : g.1.length ≤ 1000000) (Kc : Int32 → Option β) : (av_lI X g (some 1000000) (nI b + 7)).bind Kc = Kc (f (b + 7)) := by
  rw [show (7 : Int32) = nI 7 from rfl, nI_add, rdX hX hg (by omega) hn, Option.bind_some]
theorem lwB_0 {v : Int32} (z : v = 0) : (0 : Int32) = bI (!decide (v = 0)) := by rw [decide_eq_true z]; rfl
theorem lwB_1 {v : Int32} (z : ¬ v = 0) : (1 : Int32) = bI (!decide (v = 0)) := by rw [decide_eq_false z]; rfl
theorem lb_0 (xt : XT X) (hX : X 1000000 = some (n, f)) (hn : n ≤ 4096) {K b : Nat} (hb : b + 8 ≤ n) (hK : K < 1000) {h : av_H} (L : LI K h) (hk : f b &&& 63 = 0) : ∃ h2, bd X (d + 51) 384 13 [(0, vr (some 1000000)), (1, vr (some 0)), (2, vr (some 137)), (3, vr (some 225)), (4, vi (nI b))] [] h = bd X (d + 51) 384 13 [(0, vr (some 1000000)), (1, vr (some 0)), (2, vr (some 137)), (3, vr (some 225)), (4, vi (nI b + (8 : Int32)))] [] h2 ∧ LI (K + 1) h2 := by
  have I := L.1
  have w : WF h := I.w
  have len := L.len
  have g0 : h.1.length ≤ 1000000 := by omega
  have nl : ¬ nI n - 8 < nI b := fun q => by
    rw [show (8 : Int32) = nI 8 from rfl, pk_sub (by omega)] at q
    exact nI_nlt (by omega) (by omega) q
  have br := lw_0 (d := d + 51) (lenX hX g0) nl (rdX hX g0 (by omega) hn) hk
  obtain ⟨rv, h1, h2, e1, e2, I2, G⟩ := st_tower (X := X) (d := d + 1) I (f (b + 1)) (f (b + 2)) (f (b + 3))
  have L2 := L.next I2 G
  have len2 := L2.len
  have l2 : h2.1 = h1.1 := keep rfl e2
  have g1 : h1.1.length ≤ 1000000 := by rw [← l2]; omega
  refine ⟨h2, ?_, L2⟩
  rw [br, rdB_1 hX hn hb g0, rdB_2 hX hn hb g0, rdB_3 hX hn hb g0, is_0 w, e1, av_cI_r, Option.bind_some]
  dsimp only
  rw [rdB_1 hX hn hb g1, rdB_2 hX hn hb g1, rdB_3 hX hn hb g1, is_137' I2.w l2, e2, av_cI_r, Option.bind_some]
  dsimp only
  rw [if_pos rfl]
theorem lb_1 (xt : XT X) (hX : X 1000000 = some (n, f)) (hn : n ≤ 4096) {K b : Nat} (hb : b + 8 ≤ n) (hK : K < 1000) {h : av_H} (L : LI K h) (hk : f b &&& 63 = 1) : ∃ h2, bd X (d + 51) 384 13 [(0, vr (some 1000000)), (1, vr (some 0)), (2, vr (some 137)), (3, vr (some 225)), (4, vi (nI b))] [] h = bd X (d + 51) 384 13 [(0, vr (some 1000000)), (1, vr (some 0)), (2, vr (some 137)), (3, vr (some 225)), (4, vi (nI b + (8 : Int32)))] [] h2 ∧ LI (K + 1) h2 := by
  have I := L.1
  have w : WF h := I.w
  have len := L.len
  have g0 : h.1.length ≤ 1000000 := by omega
  have nl : ¬ nI n - 8 < nI b := fun q => by
    rw [show (8 : Int32) = nI 8 from rfl, pk_sub (by omega)] at q
    exact nI_nlt (by omega) (by omega) q
  have br := lw_1 (d := d + 51) (lenX hX g0) nl (rdX hX g0 (by omega) hn) hk
  obtain ⟨rv, h1, h2, e1, e2, I2, G⟩ := st_block (X := X) (d := d + 1) I (f (b + 1)) (f (b + 2)) (f (b + 3)) (f (b + 4)) (!decide (f (b + 5) = 0))
  have L2 := L.next I2 G
  have len2 := L2.len
  have l2 : h2.1 = h1.1 := keep rfl e2
  have g1 : h1.1.length ≤ 1000000 := by rw [← l2]; omega
  refine ⟨h2, ?_, L2⟩
  by_cases z : f (b + 5) = 0
  · rw [← show (0 : Int32) = _ from lwB_0 z] at e1 e2
    rw [br, rdB_1 hX hn hb g0, rdB_2 hX hn hb g0, rdB_3 hX hn hb g0, rdB_4 hX hn hb g0, rdB_5 hX hn hb g0, if_pos z, b_384_92, is_0 w, e1, av_cI_r, Option.bind_some]
    dsimp only
    rw [rdB_1 hX hn hb g1, rdB_2 hX hn hb g1, rdB_3 hX hn hb g1, rdB_4 hX hn hb g1, rdB_5 hX hn hb g1, if_pos z, b_384_123, is_137' I2.w l2, e2, av_cI_r, Option.bind_some]
    dsimp only
    rw [if_pos rfl]
  · rw [← show (1 : Int32) = _ from lwB_1 z] at e1 e2
    rw [br, rdB_1 hX hn hb g0, rdB_2 hX hn hb g0, rdB_3 hX hn hb g0, rdB_4 hX hn hb g0, rdB_5 hX hn hb g0, if_neg z, b_384_92, is_0 w, e1, av_cI_r, Option.bind_some]
    dsimp only
    rw [rdB_1 hX hn hb g1, rdB_2 hX hn hb g1, rdB_3 hX hn hb g1, rdB_4 hX hn hb g1, rdB_5 hX hn hb g1, if_neg z, b_384_123, is_137' I2.w l2, e2, av_cI_r, Option.bind_some]
    dsimp only
    rw [if_pos rfl]
theorem lb_2 (xt : XT X) (hX : X 1000000 = some (n, f)) (hn : n ≤ 4096) {K b : Nat} (hb : b + 8 ≤ n) (hK : K < 1000) {h : av_H} (L : LI K h) (hk : f b &&& 63 = 2) : ∃ h2, bd X (d + 51) 384 13 [(0, vr (some 1000000)), (1, vr (some 0)), (2, vr (some 137)), (3, vr (some 225)), (4, vi (nI b))] [] h = bd X (d + 51) 384 13 [(0, vr (some 1000000)), (1, vr (some 0)), (2, vr (some 137)), (3, vr (some 225)), (4, vi (nI b + (8 : Int32)))] [] h2 ∧ LI (K + 1) h2 := by
  have I := L.1
  have w : WF h := I.w
  have len := L.len
  have g0 : h.1.length ≤ 1000000 := by omega
  have nl : ¬ nI n - 8 < nI b := fun q => by
    rw [show (8 : Int32) = nI 8 from rfl, pk_sub (by omega)] at q
    exact nI_nlt (by omega) (by omega) q
  have br := lw_2 (d := d + 51) (lenX hX g0) nl (rdX hX g0 (by omega) hn) hk
  obtain ⟨rv, h1, h2, e1, e2, I2, G⟩ := st_nest (X := X) (d := d + 1) I (f (b + 1)) (f (b + 2)) (f (b + 3)) (f (b + 4)) (f (b + 5)) (f (b + 6))
  have L2 := L.next I2 G
  have len2 := L2.len
  have l2 : h2.1 = h1.1 := keep rfl e2
  have g1 : h1.1.length ≤ 1000000 := by rw [← l2]; omega
  refine ⟨h2, ?_, L2⟩
  rw [br, rdB_1 hX hn hb g0, rdB_2 hX hn hb g0, rdB_3 hX hn hb g0, rdB_4 hX hn hb g0, rdB_5 hX hn hb g0, rdB_6 hX hn hb g0, is_0 w, e1, av_cI_r, Option.bind_some]
  dsimp only
  rw [rdB_1 hX hn hb g1, rdB_2 hX hn hb g1, rdB_3 hX hn hb g1, rdB_4 hX hn hb g1, rdB_5 hX hn hb g1, rdB_6 hX hn hb g1, is_137' I2.w l2, e2, av_cI_r, Option.bind_some]
  dsimp only
  rw [if_pos rfl]
theorem lb_3 (xt : XT X) (hX : X 1000000 = some (n, f)) (hn : n ≤ 4096) {K b : Nat} (hb : b + 8 ≤ n) (hK : K < 1000) {h : av_H} (L : LI K h) (hk : f b &&& 63 = 3) : ∃ h2, bd X (d + 51) 384 13 [(0, vr (some 1000000)), (1, vr (some 0)), (2, vr (some 137)), (3, vr (some 225)), (4, vi (nI b))] [] h = bd X (d + 51) 384 13 [(0, vr (some 1000000)), (1, vr (some 0)), (2, vr (some 137)), (3, vr (some 225)), (4, vi (nI b + (8 : Int32)))] [] h2 ∧ LI (K + 1) h2 := by
  have I := L.1
  have w : WF h := I.w
  have len := L.len
  have g0 : h.1.length ≤ 1000000 := by omega
  have nl : ¬ nI n - 8 < nI b := fun q => by
    rw [show (8 : Int32) = nI 8 from rfl, pk_sub (by omega)] at q
    exact nI_nlt (by omega) (by omega) q
  have br := lw_3 (d := d + 51) (lenX hX g0) nl (rdX hX g0 (by omega) hn) hk
  obtain ⟨rv, h1, h2, e1, e2, I2, G⟩ := st_rail (X := X) (d := d + 1) I (f (b + 1)) (f (b + 2)) (f (b + 3)) (!decide (f (b + 4) = 0))
  have L2 := L.next I2 G
  have len2 := L2.len
  have l2 : h2.1 = h1.1 := keep rfl e2
  have g1 : h1.1.length ≤ 1000000 := by rw [← l2]; omega
  refine ⟨h2, ?_, L2⟩
  by_cases z : f (b + 4) = 0
  · rw [← show (0 : Int32) = _ from lwB_0 z] at e1 e2
    rw [br, rdB_1 hX hn hb g0, rdB_2 hX hn hb g0, rdB_3 hX hn hb g0, rdB_4 hX hn hb g0, if_pos z, b_384_219, is_0 w, e1, av_cI_r, Option.bind_some]
    dsimp only
    rw [rdB_1 hX hn hb g1, rdB_2 hX hn hb g1, rdB_3 hX hn hb g1, rdB_4 hX hn hb g1, if_pos z, b_384_245, is_137' I2.w l2, e2, av_cI_r, Option.bind_some]
    dsimp only
    rw [if_pos rfl]
  · rw [← show (1 : Int32) = _ from lwB_1 z] at e1 e2
    rw [br, rdB_1 hX hn hb g0, rdB_2 hX hn hb g0, rdB_3 hX hn hb g0, rdB_4 hX hn hb g0, if_neg z, b_384_219, is_0 w, e1, av_cI_r, Option.bind_some]
    dsimp only
    rw [rdB_1 hX hn hb g1, rdB_2 hX hn hb g1, rdB_3 hX hn hb g1, rdB_4 hX hn hb g1, if_neg z, b_384_245, is_137' I2.w l2, e2, av_cI_r, Option.bind_some]
    dsimp only
    rw [if_pos rfl]
theorem lb_4 (xt : XT X) (hX : X 1000000 = some (n, f)) (hn : n ≤ 4096) {K b : Nat} (hb : b + 8 ≤ n) (hK : K < 1000) {h : av_H} (L : LI K h) (hk : f b &&& 63 = 4) : ∃ h2, bd X (d + 51) 384 13 [(0, vr (some 1000000)), (1, vr (some 0)), (2, vr (some 137)), (3, vr (some 225)), (4, vi (nI b))] [] h = bd X (d + 51) 384 13 [(0, vr (some 1000000)), (1, vr (some 0)), (2, vr (some 137)), (3, vr (some 225)), (4, vi (nI b + (8 : Int32)))] [] h2 ∧ LI (K + 1) h2 := by
  have I := L.1
  have w : WF h := I.w
  have len := L.len
  have g0 : h.1.length ≤ 1000000 := by omega
  have nl : ¬ nI n - 8 < nI b := fun q => by
    rw [show (8 : Int32) = nI 8 from rfl, pk_sub (by omega)] at q
    exact nI_nlt (by omega) (by omega) q
  have br := lw_4 (d := d + 51) (lenX hX g0) nl (rdX hX g0 (by omega) hn) hk
  obtain ⟨rv, h1, h2, e1, e2, I2, G⟩ := st_cradle (X := X) (d := d + 1) I (f (b + 1)) (f (b + 2)) (f (b + 3))
  have L2 := L.next I2 G
  have len2 := L2.len
  have l2 : h2.1 = h1.1 := keep rfl e2
  have g1 : h1.1.length ≤ 1000000 := by rw [← l2]; omega
  refine ⟨h2, ?_, L2⟩
  rw [br, rdB_1 hX hn hb g0, rdB_2 hX hn hb g0, rdB_3 hX hn hb g0, is_0 w, e1, av_cI_r, Option.bind_some]
  dsimp only
  rw [rdB_1 hX hn hb g1, rdB_2 hX hn hb g1, rdB_3 hX hn hb g1, is_137' I2.w l2, e2, av_cI_r, Option.bind_some]
  dsimp only
  rw [if_pos rfl]
theorem lb_5 (xt : XT X) (hX : X 1000000 = some (n, f)) (hn : n ≤ 4096) {K b : Nat} (hb : b + 8 ≤ n) (hK : K < 1000) {h : av_H} (L : LI K h) (hk : f b &&& 63 = 5) : ∃ h2, bd X (d + 51) 384 13 [(0, vr (some 1000000)), (1, vr (some 0)), (2, vr (some 137)), (3, vr (some 225)), (4, vi (nI b))] [] h = bd X (d + 51) 384 13 [(0, vr (some 1000000)), (1, vr (some 0)), (2, vr (some 137)), (3, vr (some 225)), (4, vi (nI b + (8 : Int32)))] [] h2 ∧ LI (K + 1) h2 := by
  have I := L.1
  have w : WF h := I.w
  have len := L.len
  have g0 : h.1.length ≤ 1000000 := by omega
  have nl : ¬ nI n - 8 < nI b := fun q => by
    rw [show (8 : Int32) = nI 8 from rfl, pk_sub (by omega)] at q
    exact nI_nlt (by omega) (by omega) q
  have br := lw_5 (d := d + 51) (lenX hX g0) nl (rdX hX g0 (by omega) hn) hk
  obtain ⟨rv, h1, h2, e1, e2, I2, G⟩ := st_wind (X := X) (d := d + 1) I (f (b + 1)) (f (b + 2)) (f (b + 3)) (f (b + 4))
  have L2 := L.next I2 G
  have len2 := L2.len
  have l2 : h2.1 = h1.1 := keep rfl e2
  have g1 : h1.1.length ≤ 1000000 := by rw [← l2]; omega
  refine ⟨h2, ?_, L2⟩
  rw [br, rdB_1 hX hn hb g0, rdB_2 hX hn hb g0, rdB_3 hX hn hb g0, rdB_4 hX hn hb g0, is_0 w, e1, av_cI_r, Option.bind_some]
  dsimp only
  rw [rdB_1 hX hn hb g1, rdB_2 hX hn hb g1, rdB_3 hX hn hb g1, rdB_4 hX hn hb g1, is_137' I2.w l2, e2, av_cI_r, Option.bind_some]
  dsimp only
  rw [if_pos rfl]
theorem lb_6 (xt : XT X) (hX : X 1000000 = some (n, f)) (hn : n ≤ 4096) {K b : Nat} (hb : b + 8 ≤ n) (hK : K < 1000) {h : av_H} (L : LI K h) (hk : f b &&& 63 = 6) : ∃ h2, bd X (d + 51) 384 13 [(0, vr (some 1000000)), (1, vr (some 0)), (2, vr (some 137)), (3, vr (some 225)), (4, vi (nI b))] [] h = bd X (d + 51) 384 13 [(0, vr (some 1000000)), (1, vr (some 0)), (2, vr (some 137)), (3, vr (some 225)), (4, vi (nI b + (8 : Int32)))] [] h2 ∧ LI (K + 1) h2 := by
  have I := L.1
  have w : WF h := I.w
  have len := L.len
  have g0 : h.1.length ≤ 1000000 := by omega
  have nl : ¬ nI n - 8 < nI b := fun q => by
    rw [show (8 : Int32) = nI 8 from rfl, pk_sub (by omega)] at q
    exact nI_nlt (by omega) (by omega) q
  have br := lw_6 (d := d + 51) (lenX hX g0) nl (rdX hX g0 (by omega) hn) hk
  obtain ⟨rv, h1, h2, e1, e2, I2, G⟩ := st_leave (X := X) (d := d + 1) I (f (b + 1)) (f (b + 2)) (f (b + 3)) (f (b + 4))
  have L2 := L.next I2 G
  have len2 := L2.len
  have l2 : h2.1 = h1.1 := keep rfl e2
  have g1 : h1.1.length ≤ 1000000 := by rw [← l2]; omega
  refine ⟨h2, ?_, L2⟩
  rw [br, rdB_1 hX hn hb g0, rdB_2 hX hn hb g0, rdB_3 hX hn hb g0, rdB_4 hX hn hb g0, is_0 w, e1, av_cI_r, Option.bind_some]
  dsimp only
  rw [rdB_1 hX hn hb g1, rdB_2 hX hn hb g1, rdB_3 hX hn hb g1, rdB_4 hX hn hb g1, is_137' I2.w l2, e2, av_cI_r, Option.bind_some]
  dsimp only
  rw [if_pos rfl]
theorem lb_7 (xt : XT X) (hX : X 1000000 = some (n, f)) (hn : n ≤ 4096) {K b : Nat} (hb : b + 8 ≤ n) (hK : K < 1000) {h : av_H} (L : LI K h) (hk : f b &&& 63 = 7) : ∃ h2, bd X (d + 51) 384 13 [(0, vr (some 1000000)), (1, vr (some 0)), (2, vr (some 137)), (3, vr (some 225)), (4, vi (nI b))] [] h = bd X (d + 51) 384 13 [(0, vr (some 1000000)), (1, vr (some 0)), (2, vr (some 137)), (3, vr (some 225)), (4, vi (nI b + (8 : Int32)))] [] h2 ∧ LI (K + 1) h2 := by
  have I := L.1
  have w : WF h := I.w
  have len := L.len
  have g0 : h.1.length ≤ 1000000 := by omega
  have nl : ¬ nI n - 8 < nI b := fun q => by
    rw [show (8 : Int32) = nI 8 from rfl, pk_sub (by omega)] at q
    exact nI_nlt (by omega) (by omega) q
  have br := lw_7 (d := d + 51) (lenX hX g0) nl (rdX hX g0 (by omega) hn) hk
  obtain ⟨rv, h1, h2, e1, e2, I2, G⟩ := st_elder (X := X) (d := d + 1) I (f (b + 1)) (!decide (f (b + 2) = 0))
  have L2 := L.next I2 G
  have len2 := L2.len
  have l2 : h2.1 = h1.1 := keep rfl e2
  have g1 : h1.1.length ≤ 1000000 := by rw [← l2]; omega
  refine ⟨h2, ?_, L2⟩
  by_cases z : f (b + 2) = 0
  · rw [← show (0 : Int32) = _ from lwB_0 z] at e1 e2
    rw [br, rdB_1 hX hn hb g0, rdB_2 hX hn hb g0, if_pos z, b_384_395, is_0 w, e1, av_cI_r, Option.bind_some]
    dsimp only
    rw [rdB_1 hX hn hb g1, rdB_2 hX hn hb g1, if_pos z, b_384_411, is_137' I2.w l2, e2, av_cI_r, Option.bind_some]
    dsimp only
    rw [if_pos rfl]
  · rw [← show (1 : Int32) = _ from lwB_1 z] at e1 e2
    rw [br, rdB_1 hX hn hb g0, rdB_2 hX hn hb g0, if_neg z, b_384_395, is_0 w, e1, av_cI_r, Option.bind_some]
    dsimp only
    rw [rdB_1 hX hn hb g1, rdB_2 hX hn hb g1, if_neg z, b_384_411, is_137' I2.w l2, e2, av_cI_r, Option.bind_some]
    dsimp only
    rw [if_pos rfl]
theorem lb_8 (xt : XT X) (hX : X 1000000 = some (n, f)) (hn : n ≤ 4096) {K b : Nat} (hb : b + 8 ≤ n) (hK : K < 1000) {h : av_H} (L : LI K h) (hk : f b &&& 63 = 8) : ∃ h2, bd X (d + 51) 384 13 [(0, vr (some 1000000)), (1, vr (some 0)), (2, vr (some 137)), (3, vr (some 225)), (4, vi (nI b))] [] h = bd X (d + 51) 384 13 [(0, vr (some 1000000)), (1, vr (some 0)), (2, vr (some 137)), (3, vr (some 225)), (4, vi (nI b + (8 : Int32)))] [] h2 ∧ LI (K + 1) h2 := by
  have I := L.1
  have w : WF h := I.w
  have len := L.len
  have g0 : h.1.length ≤ 1000000 := by omega
  have nl : ¬ nI n - 8 < nI b := fun q => by
    rw [show (8 : Int32) = nI 8 from rfl, pk_sub (by omega)] at q
    exact nI_nlt (by omega) (by omega) q
  have br := lw_8 (d := d + 51) (lenX hX g0) nl (rdX hX g0 (by omega) hn) hk
  obtain ⟨rv, h1, h2, e1, e2, I2, G⟩ := st_drill (X := X) (d := d + 1) I (f (b + 1)) (f (b + 2))
  have L2 := L.next I2 G
  have len2 := L2.len
  have l2 : h2.1 = h1.1 := keep rfl e2
  have g1 : h1.1.length ≤ 1000000 := by rw [← l2]; omega
  refine ⟨h2, ?_, L2⟩
  rw [br, rdB_1 hX hn hb g0, rdB_2 hX hn hb g0, is_0 w, e1, av_cI_r, Option.bind_some]
  dsimp only
  rw [rdB_1 hX hn hb g1, rdB_2 hX hn hb g1, is_137' I2.w l2, e2, av_cI_r, Option.bind_some]
  dsimp only
  rw [if_pos rfl]
theorem lb_9 (xt : XT X) (hX : X 1000000 = some (n, f)) (hn : n ≤ 4096) {K b : Nat} (hb : b + 8 ≤ n) (hK : K < 1000) {h : av_H} (L : LI K h) (hk : f b &&& 63 = 9) : ∃ h2, bd X (d + 51) 384 13 [(0, vr (some 1000000)), (1, vr (some 0)), (2, vr (some 137)), (3, vr (some 225)), (4, vi (nI b))] [] h = bd X (d + 51) 384 13 [(0, vr (some 1000000)), (1, vr (some 0)), (2, vr (some 137)), (3, vr (some 225)), (4, vi (nI b + (8 : Int32)))] [] h2 ∧ LI (K + 1) h2 := by
  have I := L.1
  have w : WF h := I.w
  have len := L.len
  have g0 : h.1.length ≤ 1000000 := by omega
  have nl : ¬ nI n - 8 < nI b := fun q => by
    rw [show (8 : Int32) = nI 8 from rfl, pk_sub (by omega)] at q
    exact nI_nlt (by omega) (by omega) q
  have br := lw_9 (d := d + 51) (lenX hX g0) nl (rdX hX g0 (by omega) hn) hk
  obtain ⟨rv, h1, h2, e1, e2, I2, G⟩ := st_feed (X := X) (d := d + 1) I (((f (b + 1)).toInt64 <<< ((32 : Int32).toInt64 &&& 63)) ||| ((f (b + 2)).toInt64 &&& 4294967295)) (((f (b + 3)).toInt64 <<< ((32 : Int32).toInt64 &&& 63)) ||| ((f (b + 4)).toInt64 &&& 4294967295)) (((f (b + 5)).toInt64 <<< ((32 : Int32).toInt64 &&& 63)) ||| ((f (b + 6)).toInt64 &&& 4294967295))
  have L2 := L.next I2 G
  have len2 := L2.len
  have l2 : h2.1 = h1.1 := keep rfl e2
  have g1 : h1.1.length ≤ 1000000 := by rw [← l2]; omega
  refine ⟨h2, ?_, L2⟩
  rw [br, rdB_1 hX hn hb g0, rdB_2 hX hn hb g0, rdB_3 hX hn hb g0, rdB_4 hX hn hb g0, rdB_5 hX hn hb g0, rdB_6 hX hn hb g0, is_0 w, e1, av_cI_r, Option.bind_some]
  dsimp only
  rw [rdB_1 hX hn hb g1, rdB_2 hX hn hb g1, rdB_3 hX hn hb g1, rdB_4 hX hn hb g1, rdB_5 hX hn hb g1, rdB_6 hX hn hb g1, is_137' I2.w l2, e2, av_cI_r, Option.bind_some]
  dsimp only
  rw [if_pos rfl]
theorem lb_10 (xt : XT X) (hX : X 1000000 = some (n, f)) (hn : n ≤ 4096) {K b : Nat} (hb : b + 8 ≤ n) (hK : K < 1000) {h : av_H} (L : LI K h) (hk : f b &&& 63 = 10) : ∃ h2, bd X (d + 51) 384 13 [(0, vr (some 1000000)), (1, vr (some 0)), (2, vr (some 137)), (3, vr (some 225)), (4, vi (nI b))] [] h = bd X (d + 51) 384 13 [(0, vr (some 1000000)), (1, vr (some 0)), (2, vr (some 137)), (3, vr (some 225)), (4, vi (nI b + (8 : Int32)))] [] h2 ∧ LI (K + 1) h2 := by
  have I := L.1
  have w : WF h := I.w
  have len := L.len
  have g0 : h.1.length ≤ 1000000 := by omega
  have nl : ¬ nI n - 8 < nI b := fun q => by
    rw [show (8 : Int32) = nI 8 from rfl, pk_sub (by omega)] at q
    exact nI_nlt (by omega) (by omega) q
  have br := lw_10 (d := d + 51) (lenX hX g0) nl (rdX hX g0 (by omega) hn) hk
  obtain ⟨rv, h1, h2, e1, e2, I2, G⟩ := st_rule (X := X) (d := d + 1) I 
  have L2 := L.next I2 G
  have len2 := L2.len
  have l2 : h2.1 = h1.1 := keep rfl e2
  have g1 : h1.1.length ≤ 1000000 := by rw [← l2]; omega
  refine ⟨h2, ?_, L2⟩
  rw [br, is_0 w, e1, av_cI_r, Option.bind_some]
  dsimp only
  rw [is_137' I2.w l2, e2, av_cI_r, Option.bind_some]
  dsimp only
  rw [if_pos rfl]
theorem lb_11 (xt : XT X) (hX : X 1000000 = some (n, f)) (hn : n ≤ 4096) {K b : Nat} (hb : b + 8 ≤ n) (hK : K < 1000) {h : av_H} (L : LI K h) (hk : f b &&& 63 = 11) : ∃ h2, bd X (d + 51) 384 13 [(0, vr (some 1000000)), (1, vr (some 0)), (2, vr (some 137)), (3, vr (some 225)), (4, vi (nI b))] [] h = bd X (d + 51) 384 13 [(0, vr (some 1000000)), (1, vr (some 0)), (2, vr (some 137)), (3, vr (some 225)), (4, vi (nI b + (8 : Int32)))] [] h2 ∧ LI (K + 1) h2 := by
  have I := L.1
  have w : WF h := I.w
  have len := L.len
  have g0 : h.1.length ≤ 1000000 := by omega
  have nl : ¬ nI n - 8 < nI b := fun q => by
    rw [show (8 : Int32) = nI 8 from rfl, pk_sub (by omega)] at q
    exact nI_nlt (by omega) (by omega) q
  have br := lw_11 (d := d + 51) (lenX hX g0) nl (rdX hX g0 (by omega) hn) hk
  obtain ⟨rv, h1, h2, e1, e2, I2, G⟩ := st_reach (X := X) (d := d + 1) I (f (b + 1)) (f (b + 2)) (f (b + 3)) (f (b + 4))
  have L2 := L.next I2 G
  have len2 := L2.len
  have l2 : h2.1 = h1.1 := keep rfl e2
  have g1 : h1.1.length ≤ 1000000 := by rw [← l2]; omega
  refine ⟨h2, ?_, L2⟩
  rw [br, rdB_1 hX hn hb g0, rdB_2 hX hn hb g0, rdB_3 hX hn hb g0, rdB_4 hX hn hb g0, is_0 w, e1, av_cI_r, Option.bind_some]
  dsimp only
  rw [rdB_1 hX hn hb g1, rdB_2 hX hn hb g1, rdB_3 hX hn hb g1, rdB_4 hX hn hb g1, is_137' I2.w l2, e2, av_cI_r, Option.bind_some]
  dsimp only
  rw [if_pos rfl]
theorem lb_12 (xt : XT X) (hX : X 1000000 = some (n, f)) (hn : n ≤ 4096) {K b : Nat} (hb : b + 8 ≤ n) (hK : K < 1000) {h : av_H} (L : LI K h) (hk : f b &&& 63 = 12) : ∃ h2, bd X (d + 51) 384 13 [(0, vr (some 1000000)), (1, vr (some 0)), (2, vr (some 137)), (3, vr (some 225)), (4, vi (nI b))] [] h = bd X (d + 51) 384 13 [(0, vr (some 1000000)), (1, vr (some 0)), (2, vr (some 137)), (3, vr (some 225)), (4, vi (nI b + (8 : Int32)))] [] h2 ∧ LI (K + 1) h2 := by
  have I := L.1
  have w : WF h := I.w
  have len := L.len
  have g0 : h.1.length ≤ 1000000 := by omega
  have nl : ¬ nI n - 8 < nI b := fun q => by
    rw [show (8 : Int32) = nI 8 from rfl, pk_sub (by omega)] at q
    exact nI_nlt (by omega) (by omega) q
  have br := lw_12 (d := d + 51) (lenX hX g0) nl (rdX hX g0 (by omega) hn) hk
  obtain ⟨rv, h1, h2, e1, e2, I2, G⟩ := st_why (X := X) (d := d + 1) I (f (b + 1)) (f (b + 2)) (f (b + 3)) (f (b + 4)) (f (b + 5)) (f (b + 6)) (f (b + 7))
  have L2 := L.next I2 G
  have len2 := L2.len
  have l2 : h2.1 = h1.1 := keep rfl e2
  have g1 : h1.1.length ≤ 1000000 := by rw [← l2]; omega
  refine ⟨h2, ?_, L2⟩
  rw [br, rdB_1 hX hn hb g0, rdB_2 hX hn hb g0, rdB_3 hX hn hb g0, rdB_4 hX hn hb g0, rdB_5 hX hn hb g0, rdB_6 hX hn hb g0, rdB_7 hX hn hb g0, is_0 w, e1, av_cI_r, Option.bind_some]
  dsimp only
  rw [rdB_1 hX hn hb g1, rdB_2 hX hn hb g1, rdB_3 hX hn hb g1, rdB_4 hX hn hb g1, rdB_5 hX hn hb g1, rdB_6 hX hn hb g1, rdB_7 hX hn hb g1, is_137' I2.w l2, e2, av_cI_r, Option.bind_some]
  dsimp only
  rw [if_pos rfl]
theorem lb_13 (xt : XT X) (hX : X 1000000 = some (n, f)) (hn : n ≤ 4096) {K b : Nat} (hb : b + 8 ≤ n) (hK : K < 1000) {h : av_H} (L : LI K h) (hk : f b &&& 63 = 13) : ∃ h2, bd X (d + 51) 384 13 [(0, vr (some 1000000)), (1, vr (some 0)), (2, vr (some 137)), (3, vr (some 225)), (4, vi (nI b))] [] h = bd X (d + 51) 384 13 [(0, vr (some 1000000)), (1, vr (some 0)), (2, vr (some 137)), (3, vr (some 225)), (4, vi (nI b + (8 : Int32)))] [] h2 ∧ LI (K + 1) h2 := by
  have I := L.1
  have w : WF h := I.w
  have len := L.len
  have g0 : h.1.length ≤ 1000000 := by omega
  have nl : ¬ nI n - 8 < nI b := fun q => by
    rw [show (8 : Int32) = nI 8 from rfl, pk_sub (by omega)] at q
    exact nI_nlt (by omega) (by omega) q
  have br := lw_13 (d := d + 51) (lenX hX g0) nl (rdX hX g0 (by omega) hn) hk
  obtain ⟨rv, h1, h2, e1, e2, I2, G⟩ := st_drop (X := X) (d := d + 1) I (f (b + 1)) (f (b + 2)) (f (b + 3)) (f (b + 4)) (f (b + 5)) (f (b + 6)) (f (b + 7))
  have L2 := L.next I2 G
  have len2 := L2.len
  have l2 : h2.1 = h1.1 := keep rfl e2
  have g1 : h1.1.length ≤ 1000000 := by rw [← l2]; omega
  refine ⟨h2, ?_, L2⟩
  rw [br, rdB_1 hX hn hb g0, rdB_2 hX hn hb g0, rdB_3 hX hn hb g0, rdB_4 hX hn hb g0, rdB_5 hX hn hb g0, rdB_6 hX hn hb g0, rdB_7 hX hn hb g0, is_0 w, e1, av_cI_r, Option.bind_some]
  dsimp only
  rw [rdB_1 hX hn hb g1, rdB_2 hX hn hb g1, rdB_3 hX hn hb g1, rdB_4 hX hn hb g1, rdB_5 hX hn hb g1, rdB_6 hX hn hb g1, rdB_7 hX hn hb g1, is_137' I2.w l2, e2, av_cI_r, Option.bind_some]
  dsimp only
  rw [if_pos rfl]
theorem lb_14 (xt : XT X) (hX : X 1000000 = some (n, f)) (hn : n ≤ 4096) {K b : Nat} (hb : b + 8 ≤ n) (hK : K < 1000) {h : av_H} (L : LI K h) (hk : f b &&& 63 = 14) : ∃ h2, bd X (d + 51) 384 13 [(0, vr (some 1000000)), (1, vr (some 0)), (2, vr (some 137)), (3, vr (some 225)), (4, vi (nI b))] [] h = bd X (d + 51) 384 13 [(0, vr (some 1000000)), (1, vr (some 0)), (2, vr (some 137)), (3, vr (some 225)), (4, vi (nI b + (8 : Int32)))] [] h2 ∧ LI (K + 1) h2 := by
  have I := L.1
  have w : WF h := I.w
  have len := L.len
  have g0 : h.1.length ≤ 1000000 := by omega
  have nl : ¬ nI n - 8 < nI b := fun q => by
    rw [show (8 : Int32) = nI 8 from rfl, pk_sub (by omega)] at q
    exact nI_nlt (by omega) (by omega) q
  have br := lw_14 (d := d + 51) (lenX hX g0) nl (rdX hX g0 (by omega) hn) hk
  obtain ⟨k, hh, e1, w1, rv, h2, e2, z0, zy, I2, G⟩ := st_made (X := X) (d := d) I (f (b + 1)) (f (b + 2))
  have L2 := L.next I2 G
  have len2 := L2.len
  have l2 : h2.1 = hh.1 := keep rfl e2
  have g1 : hh.1.length ≤ 1000000 := by rw [← l2]; omega
  refine ⟨h2, ?_, L2⟩
  rw [br, rdB_1 hX hn hb g0, rdB_2 hX hn hb g0, e1, av_cI_r, Option.bind_some]
  dsimp only
  rw [rdB_1 hX hn hb g1, rdB_2 hX hn hb g1, is_137 w1, e2, av_cI_r, Option.bind_some]
  dsimp only
  rw [is_137 I2.w, s_thrown (d := d + 50) I2.w, av_cI_r, Option.bind_some]
  dsimp only
  rw [if_pos z0]
  by_cases q : k = 0
  · rw [if_pos q, lL_225 I2.w, zy q, if_pos (show lg_cmp _ _ = 0 by rw [lg_cmp_eq])]
  · rw [if_neg q]
theorem lb_15 (xt : XT X) (hX : X 1000000 = some (n, f)) (hn : n ≤ 4096) {K b : Nat} (hb : b + 8 ≤ n) (hK : K < 1000) {h : av_H} (L : LI K h) (hk : f b &&& 63 = 15) : ∃ h2, bd X (d + 51) 384 13 [(0, vr (some 1000000)), (1, vr (some 0)), (2, vr (some 137)), (3, vr (some 225)), (4, vi (nI b))] [] h = bd X (d + 51) 384 13 [(0, vr (some 1000000)), (1, vr (some 0)), (2, vr (some 137)), (3, vr (some 225)), (4, vi (nI b + (8 : Int32)))] [] h2 ∧ LI (K + 1) h2 := by
  have I := L.1
  have w : WF h := I.w
  have len := L.len
  have g0 : h.1.length ≤ 1000000 := by omega
  have nl : ¬ nI n - 8 < nI b := fun q => by
    rw [show (8 : Int32) = nI 8 from rfl, pk_sub (by omega)] at q
    exact nI_nlt (by omega) (by omega) q
  have br := lw_15 (d := d + 51) (lenX hX g0) nl (rdX hX g0 (by omega) hn) hk
  obtain ⟨rv, h1, h2, e1, e2, I2, G⟩ := st_washed (X := X) (d := d + 1) I (f (b + 1)) (f (b + 2)) (f (b + 3)) (f (b + 4))
  have L2 := L.next I2 G
  have len2 := L2.len
  have l2 : h2.1 = h1.1 := keep rfl e2
  have g1 : h1.1.length ≤ 1000000 := by rw [← l2]; omega
  refine ⟨h2, ?_, L2⟩
  rw [br, rdB_1 hX hn hb g0, rdB_2 hX hn hb g0, rdB_3 hX hn hb g0, rdB_4 hX hn hb g0, is_0 w, e1, av_cI_r, Option.bind_some]
  dsimp only
  rw [rdB_1 hX hn hb g1, rdB_2 hX hn hb g1, rdB_3 hX hn hb g1, rdB_4 hX hn hb g1, is_137' I2.w l2, e2, av_cI_r, Option.bind_some]
  dsimp only
  rw [if_pos rfl]
theorem lb_16 (xt : XT X) (hX : X 1000000 = some (n, f)) (hn : n ≤ 4096) {K b : Nat} (hb : b + 8 ≤ n) (hK : K < 1000) {h : av_H} (L : LI K h) (hk : f b &&& 63 = 16) : ∃ h2, bd X (d + 51) 384 13 [(0, vr (some 1000000)), (1, vr (some 0)), (2, vr (some 137)), (3, vr (some 225)), (4, vi (nI b))] [] h = bd X (d + 51) 384 13 [(0, vr (some 1000000)), (1, vr (some 0)), (2, vr (some 137)), (3, vr (some 225)), (4, vi (nI b + (8 : Int32)))] [] h2 ∧ LI (K + 1) h2 := by
  have I := L.1
  have w : WF h := I.w
  have len := L.len
  have g0 : h.1.length ≤ 1000000 := by omega
  have nl : ¬ nI n - 8 < nI b := fun q => by
    rw [show (8 : Int32) = nI 8 from rfl, pk_sub (by omega)] at q
    exact nI_nlt (by omega) (by omega) q
  have br := lw_16 (d := d + 51) (lenX hX g0) nl (rdX hX g0 (by omega) hn) hk
  obtain ⟨rv, h1, h2, e1, e2, I2, G⟩ := st_against (X := X) (d := d + 1) I (f (b + 1))
  have L2 := L.next I2 G
  have len2 := L2.len
  have l2 : h2.1 = h1.1 := keep rfl e2
  have g1 : h1.1.length ≤ 1000000 := by rw [← l2]; omega
  refine ⟨h2, ?_, L2⟩
  rw [br, rdB_1 hX hn hb g0, is_0 w, e1, av_cI_r, Option.bind_some]
  dsimp only
  rw [rdB_1 hX hn hb g1, is_137' I2.w l2, e2, av_cI_r, Option.bind_some]
  dsimp only
  rw [if_pos rfl]
theorem lb_17 (xt : XT X) (hX : X 1000000 = some (n, f)) (hn : n ≤ 4096) {K b : Nat} (hb : b + 8 ≤ n) (hK : K < 1000) {h : av_H} (L : LI K h) (hk : f b &&& 63 = 17) : ∃ h2, bd X (d + 51) 384 13 [(0, vr (some 1000000)), (1, vr (some 0)), (2, vr (some 137)), (3, vr (some 225)), (4, vi (nI b))] [] h = bd X (d + 51) 384 13 [(0, vr (some 1000000)), (1, vr (some 0)), (2, vr (some 137)), (3, vr (some 225)), (4, vi (nI b + (8 : Int32)))] [] h2 ∧ LI (K + 1) h2 := by
  have I := L.1
  have w : WF h := I.w
  have len := L.len
  have g0 : h.1.length ≤ 1000000 := by omega
  have nl : ¬ nI n - 8 < nI b := fun q => by
    rw [show (8 : Int32) = nI 8 from rfl, pk_sub (by omega)] at q
    exact nI_nlt (by omega) (by omega) q
  have br := lw_17 (d := d + 51) (lenX hX g0) nl (rdX hX g0 (by omega) hn) hk
  obtain ⟨rv, h1, h2, e1, e2, I2, G⟩ := st_lost (X := X) (d := d + 1) I (f (b + 1)) (f (b + 2)) (f (b + 3))
  have L2 := L.next I2 G
  have len2 := L2.len
  have l2 : h2.1 = h1.1 := keep rfl e2
  have g1 : h1.1.length ≤ 1000000 := by rw [← l2]; omega
  refine ⟨h2, ?_, L2⟩
  rw [br, rdB_1 hX hn hb g0, rdB_2 hX hn hb g0, rdB_3 hX hn hb g0, is_0 w, e1, av_cI_r, Option.bind_some]
  dsimp only
  rw [rdB_1 hX hn hb g1, rdB_2 hX hn hb g1, rdB_3 hX hn hb g1, is_137' I2.w l2, e2, av_cI_r, Option.bind_some]
  dsimp only
  rw [if_pos rfl]
theorem lb_18 (xt : XT X) (hX : X 1000000 = some (n, f)) (hn : n ≤ 4096) {K b : Nat} (hb : b + 8 ≤ n) (hK : K < 1000) {h : av_H} (L : LI K h) (hk : f b &&& 63 = 18) : ∃ h2, bd X (d + 51) 384 13 [(0, vr (some 1000000)), (1, vr (some 0)), (2, vr (some 137)), (3, vr (some 225)), (4, vi (nI b))] [] h = bd X (d + 51) 384 13 [(0, vr (some 1000000)), (1, vr (some 0)), (2, vr (some 137)), (3, vr (some 225)), (4, vi (nI b + (8 : Int32)))] [] h2 ∧ LI (K + 1) h2 := by
  have I := L.1
  have w : WF h := I.w
  have len := L.len
  have g0 : h.1.length ≤ 1000000 := by omega
  have nl : ¬ nI n - 8 < nI b := fun q => by
    rw [show (8 : Int32) = nI 8 from rfl, pk_sub (by omega)] at q
    exact nI_nlt (by omega) (by omega) q
  have br := lw_18 (d := d + 51) (lenX hX g0) nl (rdX hX g0 (by omega) hn) hk
  obtain ⟨rv, h1, h2, e1, e2, I2, G⟩ := st_late (X := X) (d := d + 1) I (f (b + 1)) (f (b + 2)) (f (b + 3)) (f (b + 4))
  have L2 := L.next I2 G
  have len2 := L2.len
  have l2 : h2.1 = h1.1 := keep rfl e2
  have g1 : h1.1.length ≤ 1000000 := by rw [← l2]; omega
  refine ⟨h2, ?_, L2⟩
  rw [br, rdB_1 hX hn hb g0, rdB_2 hX hn hb g0, rdB_3 hX hn hb g0, rdB_4 hX hn hb g0, is_0 w, e1, av_cI_r, Option.bind_some]
  dsimp only
  rw [rdB_1 hX hn hb g1, rdB_2 hX hn hb g1, rdB_3 hX hn hb g1, rdB_4 hX hn hb g1, is_137' I2.w l2, e2, av_cI_r, Option.bind_some]
  dsimp only
  rw [if_pos rfl]
theorem lb_19 (xt : XT X) (hX : X 1000000 = some (n, f)) (hn : n ≤ 4096) {K b : Nat} (hb : b + 8 ≤ n) (hK : K < 1000) {h : av_H} (L : LI K h) (hk : f b &&& 63 = 19) : ∃ h2, bd X (d + 51) 384 13 [(0, vr (some 1000000)), (1, vr (some 0)), (2, vr (some 137)), (3, vr (some 225)), (4, vi (nI b))] [] h = bd X (d + 51) 384 13 [(0, vr (some 1000000)), (1, vr (some 0)), (2, vr (some 137)), (3, vr (some 225)), (4, vi (nI b + (8 : Int32)))] [] h2 ∧ LI (K + 1) h2 := by
  have I := L.1
  have w : WF h := I.w
  have len := L.len
  have g0 : h.1.length ≤ 1000000 := by omega
  have nl : ¬ nI n - 8 < nI b := fun q => by
    rw [show (8 : Int32) = nI 8 from rfl, pk_sub (by omega)] at q
    exact nI_nlt (by omega) (by omega) q
  have br := lw_19 (d := d + 51) (lenX hX g0) nl (rdX hX g0 (by omega) hn) hk
  obtain ⟨rv, h1, h2, e1, e2, I2, G⟩ := st_reason (X := X) (d := d + 1) I (f (b + 1)) (f (b + 2)) (f (b + 3)) (f (b + 4)) (f (b + 5)) (f (b + 6))
  have L2 := L.next I2 G
  have len2 := L2.len
  have l2 : h2.1 = h1.1 := keep rfl e2
  have g1 : h1.1.length ≤ 1000000 := by rw [← l2]; omega
  refine ⟨h2, ?_, L2⟩
  rw [br, rdB_1 hX hn hb g0, rdB_2 hX hn hb g0, rdB_3 hX hn hb g0, rdB_4 hX hn hb g0, rdB_5 hX hn hb g0, rdB_6 hX hn hb g0, is_0 w, e1, av_cI_r, Option.bind_some]
  dsimp only
  rw [rdB_1 hX hn hb g1, rdB_2 hX hn hb g1, rdB_3 hX hn hb g1, rdB_4 hX hn hb g1, rdB_5 hX hn hb g1, rdB_6 hX hn hb g1, is_137' I2.w l2, e2, av_cI_r, Option.bind_some]
  dsimp only
  rw [if_pos rfl]
theorem lb_20 (xt : XT X) (hX : X 1000000 = some (n, f)) (hn : n ≤ 4096) {K b : Nat} (hb : b + 8 ≤ n) (hK : K < 1000) {h : av_H} (L : LI K h) (hk : f b &&& 63 = 20) : ∃ h2, bd X (d + 51) 384 13 [(0, vr (some 1000000)), (1, vr (some 0)), (2, vr (some 137)), (3, vr (some 225)), (4, vi (nI b))] [] h = bd X (d + 51) 384 13 [(0, vr (some 1000000)), (1, vr (some 0)), (2, vr (some 137)), (3, vr (some 225)), (4, vi (nI b + (8 : Int32)))] [] h2 ∧ LI (K + 1) h2 := by
  have I := L.1
  have w : WF h := I.w
  have len := L.len
  have g0 : h.1.length ≤ 1000000 := by omega
  have nl : ¬ nI n - 8 < nI b := fun q => by
    rw [show (8 : Int32) = nI 8 from rfl, pk_sub (by omega)] at q
    exact nI_nlt (by omega) (by omega) q
  have br := lw_20 (d := d + 51) (lenX hX g0) nl (rdX hX g0 (by omega) hn) hk
  obtain ⟨rv, h1, h2, e1, e2, I2, G⟩ := st_cover (X := X) (d := d + 1) I (f (b + 1)) (f (b + 2)) (f (b + 3))
  have L2 := L.next I2 G
  have len2 := L2.len
  have l2 : h2.1 = h1.1 := keep rfl e2
  have g1 : h1.1.length ≤ 1000000 := by rw [← l2]; omega
  refine ⟨h2, ?_, L2⟩
  rw [br, rdB_1 hX hn hb g0, rdB_2 hX hn hb g0, rdB_3 hX hn hb g0, is_0 w, e1, av_cI_r, Option.bind_some]
  dsimp only
  rw [rdB_1 hX hn hb g1, rdB_2 hX hn hb g1, rdB_3 hX hn hb g1, is_137' I2.w l2, e2, av_cI_r, Option.bind_some]
  dsimp only
  rw [if_pos rfl]
theorem lb_21 (xt : XT X) (hX : X 1000000 = some (n, f)) (hn : n ≤ 4096) {K b : Nat} (hb : b + 8 ≤ n) (hK : K < 1000) {h : av_H} (L : LI K h) (hk : f b &&& 63 = 21) : ∃ h2, bd X (d + 51) 384 13 [(0, vr (some 1000000)), (1, vr (some 0)), (2, vr (some 137)), (3, vr (some 225)), (4, vi (nI b))] [] h = bd X (d + 51) 384 13 [(0, vr (some 1000000)), (1, vr (some 0)), (2, vr (some 137)), (3, vr (some 225)), (4, vi (nI b + (8 : Int32)))] [] h2 ∧ LI (K + 1) h2 := by
  have I := L.1
  have w : WF h := I.w
  have len := L.len
  have g0 : h.1.length ≤ 1000000 := by omega
  have nl : ¬ nI n - 8 < nI b := fun q => by
    rw [show (8 : Int32) = nI 8 from rfl, pk_sub (by omega)] at q
    exact nI_nlt (by omega) (by omega) q
  have br := lw_21 (d := d + 51) (lenX hX g0) nl (rdX hX g0 (by omega) hn) hk
  obtain ⟨rv, h1, h2, e1, e2, I2, G⟩ := st_scratch (X := X) (d := d + 1) I (f (b + 1)) (f (b + 2)) (f (b + 3)) (f (b + 4)) (f (b + 5)) (f (b + 6)) (f (b + 7))
  have L2 := L.next I2 G
  have len2 := L2.len
  have l2 : h2.1 = h1.1 := keep rfl e2
  have g1 : h1.1.length ≤ 1000000 := by rw [← l2]; omega
  refine ⟨h2, ?_, L2⟩
  rw [br, rdB_1 hX hn hb g0, rdB_2 hX hn hb g0, rdB_3 hX hn hb g0, rdB_4 hX hn hb g0, rdB_5 hX hn hb g0, rdB_6 hX hn hb g0, rdB_7 hX hn hb g0, is_0 w, e1, av_cI_r, Option.bind_some]
  dsimp only
  rw [rdB_1 hX hn hb g1, rdB_2 hX hn hb g1, rdB_3 hX hn hb g1, rdB_4 hX hn hb g1, rdB_5 hX hn hb g1, rdB_6 hX hn hb g1, rdB_7 hX hn hb g1, is_137' I2.w l2, e2, av_cI_r, Option.bind_some]
  dsimp only
  rw [if_pos rfl]
theorem lb_22 (xt : XT X) (hX : X 1000000 = some (n, f)) (hn : n ≤ 4096) {K b : Nat} (hb : b + 8 ≤ n) (hK : K < 1000) {h : av_H} (L : LI K h) (hk : f b &&& 63 = 22) : ∃ h2, bd X (d + 51) 384 13 [(0, vr (some 1000000)), (1, vr (some 0)), (2, vr (some 137)), (3, vr (some 225)), (4, vi (nI b))] [] h = bd X (d + 51) 384 13 [(0, vr (some 1000000)), (1, vr (some 0)), (2, vr (some 137)), (3, vr (some 225)), (4, vi (nI b + (8 : Int32)))] [] h2 ∧ LI (K + 1) h2 := by
  have I := L.1
  have w : WF h := I.w
  have len := L.len
  have g0 : h.1.length ≤ 1000000 := by omega
  have nl : ¬ nI n - 8 < nI b := fun q => by
    rw [show (8 : Int32) = nI 8 from rfl, pk_sub (by omega)] at q
    exact nI_nlt (by omega) (by omega) q
  have br := lw_22 (d := d + 51) (lenX hX g0) nl (rdX hX g0 (by omega) hn) hk
  obtain ⟨rv, h1, h2, e1, e2, I2, G⟩ := st_bill (X := X) (d := d + 1) I (f (b + 1)) (f (b + 2)) (f (b + 3)) (f (b + 4))
  have L2 := L.next I2 G
  have len2 := L2.len
  have l2 : h2.1 = h1.1 := keep rfl e2
  have g1 : h1.1.length ≤ 1000000 := by rw [← l2]; omega
  refine ⟨h2, ?_, L2⟩
  rw [br, rdB_1 hX hn hb g0, rdB_2 hX hn hb g0, rdB_3 hX hn hb g0, rdB_4 hX hn hb g0, is_0 w, e1, av_cL_r, Option.bind_some]
  dsimp only
  rw [rdB_1 hX hn hb g1, rdB_2 hX hn hb g1, rdB_3 hX hn hb g1, rdB_4 hX hn hb g1, is_137' I2.w l2, e2, av_cL_r, Option.bind_some]
  dsimp only
  rw [if_pos (show lg_cmp rv rv = 0 by rw [lg_cmp_eq])]
theorem lb_23 (xt : XT X) (hX : X 1000000 = some (n, f)) (hn : n ≤ 4096) {K b : Nat} (hb : b + 8 ≤ n) (hK : K < 1000) {h : av_H} (L : LI K h) (hk : f b &&& 63 = 23) : ∃ h2, bd X (d + 51) 384 13 [(0, vr (some 1000000)), (1, vr (some 0)), (2, vr (some 137)), (3, vr (some 225)), (4, vi (nI b))] [] h = bd X (d + 51) 384 13 [(0, vr (some 1000000)), (1, vr (some 0)), (2, vr (some 137)), (3, vr (some 225)), (4, vi (nI b + (8 : Int32)))] [] h2 ∧ LI (K + 1) h2 := by
  have I := L.1
  have w : WF h := I.w
  have len := L.len
  have g0 : h.1.length ≤ 1000000 := by omega
  have nl : ¬ nI n - 8 < nI b := fun q => by
    rw [show (8 : Int32) = nI 8 from rfl, pk_sub (by omega)] at q
    exact nI_nlt (by omega) (by omega) q
  have br := lw_23 (d := d + 51) (lenX hX g0) nl (rdX hX g0 (by omega) hn) hk
  obtain ⟨rv, h1, h2, e1, e2, I2, G⟩ := st_stands (X := X) (d := d + 1) I (f (b + 1)) (f (b + 2))
  have L2 := L.next I2 G
  have len2 := L2.len
  have l2 : h2.1 = h1.1 := keep rfl e2
  have g1 : h1.1.length ≤ 1000000 := by rw [← l2]; omega
  refine ⟨h2, ?_, L2⟩
  rw [br, rdB_1 hX hn hb g0, rdB_2 hX hn hb g0, is_0 w, e1, av_cI_r, Option.bind_some]
  dsimp only
  rw [rdB_1 hX hn hb g1, rdB_2 hX hn hb g1, is_137' I2.w l2, e2, av_cI_r, Option.bind_some]
  dsimp only
  rw [if_pos rfl]
theorem lb_24 (xt : XT X) (hX : X 1000000 = some (n, f)) (hn : n ≤ 4096) {K b : Nat} (hb : b + 8 ≤ n) (hK : K < 1000) {h : av_H} (L : LI K h) (hk : f b &&& 63 = 24) : ∃ h2, bd X (d + 51) 384 13 [(0, vr (some 1000000)), (1, vr (some 0)), (2, vr (some 137)), (3, vr (some 225)), (4, vi (nI b))] [] h = bd X (d + 51) 384 13 [(0, vr (some 1000000)), (1, vr (some 0)), (2, vr (some 137)), (3, vr (some 225)), (4, vi (nI b + (8 : Int32)))] [] h2 ∧ LI (K + 1) h2 := by
  have I := L.1
  have w : WF h := I.w
  have len := L.len
  have g0 : h.1.length ≤ 1000000 := by omega
  have nl : ¬ nI n - 8 < nI b := fun q => by
    rw [show (8 : Int32) = nI 8 from rfl, pk_sub (by omega)] at q
    exact nI_nlt (by omega) (by omega) q
  have br := lw_24 (d := d + 51) (lenX hX g0) nl (rdX hX g0 (by omega) hn) hk
  obtain ⟨rv, h1, h2, e1, e2, I2, G⟩ := st_want (X := X) (d := d + 1) I (f (b + 1)) (f (b + 2))
  have L2 := L.next I2 G
  have len2 := L2.len
  have l2 : h2.1 = h1.1 := keep rfl e2
  have g1 : h1.1.length ≤ 1000000 := by rw [← l2]; omega
  refine ⟨h2, ?_, L2⟩
  rw [br, rdB_1 hX hn hb g0, rdB_2 hX hn hb g0, is_0 w, e1, av_cI_r, Option.bind_some]
  dsimp only
  rw [rdB_1 hX hn hb g1, rdB_2 hX hn hb g1, is_137' I2.w l2, e2, av_cI_r, Option.bind_some]
  dsimp only
  rw [if_pos rfl]
theorem lb_25 (xt : XT X) (hX : X 1000000 = some (n, f)) (hn : n ≤ 4096) {K b : Nat} (hb : b + 8 ≤ n) (hK : K < 1000) {h : av_H} (L : LI K h) (hk : f b &&& 63 = 25) : ∃ h2, bd X (d + 51) 384 13 [(0, vr (some 1000000)), (1, vr (some 0)), (2, vr (some 137)), (3, vr (some 225)), (4, vi (nI b))] [] h = bd X (d + 51) 384 13 [(0, vr (some 1000000)), (1, vr (some 0)), (2, vr (some 137)), (3, vr (some 225)), (4, vi (nI b + (8 : Int32)))] [] h2 ∧ LI (K + 1) h2 := by
  have I := L.1
  have w : WF h := I.w
  have len := L.len
  have g0 : h.1.length ≤ 1000000 := by omega
  have nl : ¬ nI n - 8 < nI b := fun q => by
    rw [show (8 : Int32) = nI 8 from rfl, pk_sub (by omega)] at q
    exact nI_nlt (by omega) (by omega) q
  have br := lw_25 (d := d + 51) (lenX hX g0) nl (rdX hX g0 (by omega) hn) hk
  obtain ⟨rv, h1, h2, e1, e2, I2, G⟩ := st_chance (X := X) (d := d + 1) I (f (b + 1)) (f (b + 2)) (f (b + 3))
  have L2 := L.next I2 G
  have len2 := L2.len
  have l2 : h2.1 = h1.1 := keep rfl e2
  have g1 : h1.1.length ≤ 1000000 := by rw [← l2]; omega
  refine ⟨h2, ?_, L2⟩
  rw [br, rdB_1 hX hn hb g0, rdB_2 hX hn hb g0, rdB_3 hX hn hb g0, is_0 w, e1, av_cI_r, Option.bind_some]
  dsimp only
  rw [rdB_1 hX hn hb g1, rdB_2 hX hn hb g1, rdB_3 hX hn hb g1, is_137' I2.w l2, e2, av_cI_r, Option.bind_some]
  dsimp only
  rw [if_pos rfl]
theorem lb_26 (xt : XT X) (hX : X 1000000 = some (n, f)) (hn : n ≤ 4096) {K b : Nat} (hb : b + 8 ≤ n) (hK : K < 1000) {h : av_H} (L : LI K h) (hk : f b &&& 63 = 26) : ∃ h2, bd X (d + 51) 384 13 [(0, vr (some 1000000)), (1, vr (some 0)), (2, vr (some 137)), (3, vr (some 225)), (4, vi (nI b))] [] h = bd X (d + 51) 384 13 [(0, vr (some 1000000)), (1, vr (some 0)), (2, vr (some 137)), (3, vr (some 225)), (4, vi (nI b + (8 : Int32)))] [] h2 ∧ LI (K + 1) h2 := by
  have I := L.1
  have w : WF h := I.w
  have len := L.len
  have g0 : h.1.length ≤ 1000000 := by omega
  have nl : ¬ nI n - 8 < nI b := fun q => by
    rw [show (8 : Int32) = nI 8 from rfl, pk_sub (by omega)] at q
    exact nI_nlt (by omega) (by omega) q
  have br := lw_26 (d := d + 51) (lenX hX g0) nl (rdX hX g0 (by omega) hn) hk
  obtain ⟨rv, h1, h2, e1, e2, I2, G⟩ := st_cap (X := X) (d := d + 1) I (f (b + 1))
  have L2 := L.next I2 G
  have len2 := L2.len
  have l2 : h2.1 = h1.1 := keep rfl e2
  have g1 : h1.1.length ≤ 1000000 := by rw [← l2]; omega
  refine ⟨h2, ?_, L2⟩
  rw [br, rdB_1 hX hn hb g0, is_0 w, e1, av_cI_r, Option.bind_some]
  dsimp only
  rw [rdB_1 hX hn hb g1, is_137' I2.w l2, e2, av_cI_r, Option.bind_some]
  dsimp only
  rw [if_pos rfl]
theorem lb_27 (xt : XT X) (hX : X 1000000 = some (n, f)) (hn : n ≤ 4096) {K b : Nat} (hb : b + 8 ≤ n) (hK : K < 1000) {h : av_H} (L : LI K h) (hk : f b &&& 63 = 27) : ∃ h2, bd X (d + 51) 384 13 [(0, vr (some 1000000)), (1, vr (some 0)), (2, vr (some 137)), (3, vr (some 225)), (4, vi (nI b))] [] h = bd X (d + 51) 384 13 [(0, vr (some 1000000)), (1, vr (some 0)), (2, vr (some 137)), (3, vr (some 225)), (4, vi (nI b + (8 : Int32)))] [] h2 ∧ LI (K + 1) h2 := by
  have I := L.1
  have w : WF h := I.w
  have len := L.len
  have g0 : h.1.length ≤ 1000000 := by omega
  have nl : ¬ nI n - 8 < nI b := fun q => by
    rw [show (8 : Int32) = nI 8 from rfl, pk_sub (by omega)] at q
    exact nI_nlt (by omega) (by omega) q
  have br := lw_27 (d := d + 51) (lenX hX g0) nl (rdX hX g0 (by omega) hn) hk
  obtain ⟨k, hh, e1, w1, rv, h2, e2, z0, zy, I2, G⟩ := st_plan (X := X) (d := d) I (by omega) xt (f (b + 1)) (f (b + 2)) (f (b + 3))
  have L2 := L.next I2 G
  have len2 := L2.len
  have l2 : h2.1 = hh.1 := keep rfl e2
  have g1 : hh.1.length ≤ 1000000 := by rw [← l2]; omega
  refine ⟨h2, ?_, L2⟩
  rw [br, rdB_1 hX hn hb g0, rdB_2 hX hn hb g0, rdB_3 hX hn hb g0, e1, av_cI_r, Option.bind_some]
  dsimp only
  rw [rdB_1 hX hn hb g1, rdB_2 hX hn hb g1, rdB_3 hX hn hb g1, is_137 w1, e2, av_cL_r, Option.bind_some]
  dsimp only
  rw [is_137 I2.w, s_thrown (d := d + 50) I2.w, av_cI_r, Option.bind_some]
  dsimp only
  rw [if_pos z0]
  by_cases q : k = 0
  · rw [if_pos q, lL_225 I2.w, zy q, if_pos (show lg_cmp _ _ = 0 by rw [lg_cmp_eq])]
  · rw [if_neg q]
theorem lb_28 (xt : XT X) (hX : X 1000000 = some (n, f)) (hn : n ≤ 4096) {K b : Nat} (hb : b + 8 ≤ n) (hK : K < 1000) {h : av_H} (L : LI K h) (hk : f b &&& 63 = 28) : ∃ h2, bd X (d + 51) 384 13 [(0, vr (some 1000000)), (1, vr (some 0)), (2, vr (some 137)), (3, vr (some 225)), (4, vi (nI b))] [] h = bd X (d + 51) 384 13 [(0, vr (some 1000000)), (1, vr (some 0)), (2, vr (some 137)), (3, vr (some 225)), (4, vi (nI b + (8 : Int32)))] [] h2 ∧ LI (K + 1) h2 := by
  have I := L.1
  have w : WF h := I.w
  have len := L.len
  have g0 : h.1.length ≤ 1000000 := by omega
  have nl : ¬ nI n - 8 < nI b := fun q => by
    rw [show (8 : Int32) = nI 8 from rfl, pk_sub (by omega)] at q
    exact nI_nlt (by omega) (by omega) q
  have br := lw_28 (d := d + 51) (lenX hX g0) nl (rdX hX g0 (by omega) hn) hk
  obtain ⟨k, hh, e1, w1, rv, h2, e2, z0, zy, I2, G⟩ := st_fixed (X := X) (d := d) I (by omega) xt (f (b + 1))
  have L2 := L.next I2 G
  have len2 := L2.len
  have l2 : h2.1 = hh.1 := keep rfl e2
  have g1 : hh.1.length ≤ 1000000 := by rw [← l2]; omega
  refine ⟨h2, ?_, L2⟩
  rw [br, rdB_1 hX hn hb g0, e1, av_cI_r, Option.bind_some]
  dsimp only
  rw [rdB_1 hX hn hb g1, is_137 w1, e2, av_cL_r, Option.bind_some]
  dsimp only
  rw [is_137 I2.w, s_thrown (d := d + 50) I2.w, av_cI_r, Option.bind_some]
  dsimp only
  rw [if_pos z0]
  by_cases q : k = 0
  · rw [if_pos q, lL_225 I2.w, zy q, if_pos (show lg_cmp _ _ = 0 by rw [lg_cmp_eq])]
  · rw [if_neg q]
theorem lb_29 (xt : XT X) (hX : X 1000000 = some (n, f)) (hn : n ≤ 4096) {K b : Nat} (hb : b + 8 ≤ n) (hK : K < 1000) {h : av_H} (L : LI K h) (hk : f b &&& 63 = 29) : ∃ h2, bd X (d + 51) 384 13 [(0, vr (some 1000000)), (1, vr (some 0)), (2, vr (some 137)), (3, vr (some 225)), (4, vi (nI b))] [] h = bd X (d + 51) 384 13 [(0, vr (some 1000000)), (1, vr (some 0)), (2, vr (some 137)), (3, vr (some 225)), (4, vi (nI b + (8 : Int32)))] [] h2 ∧ LI (K + 1) h2 := by
  have I := L.1
  have w : WF h := I.w
  have len := L.len
  have g0 : h.1.length ≤ 1000000 := by omega
  have nl : ¬ nI n - 8 < nI b := fun q => by
    rw [show (8 : Int32) = nI 8 from rfl, pk_sub (by omega)] at q
    exact nI_nlt (by omega) (by omega) q
  have br := lw_29 (d := d + 51) (lenX hX g0) nl (rdX hX g0 (by omega) hn) hk
  obtain ⟨rv, h1, h2, e1, e2, I2, G⟩ := st_match (X := X) (d := d + 1) I (f (b + 1)) (f (b + 2)) (f (b + 3))
  have L2 := L.next I2 G
  have len2 := L2.len
  have l2 : h2.1 = h1.1 := keep rfl e2
  have g1 : h1.1.length ≤ 1000000 := by rw [← l2]; omega
  refine ⟨h2, ?_, L2⟩
  rw [br, rdB_1 hX hn hb g0, rdB_2 hX hn hb g0, rdB_3 hX hn hb g0, is_0 w, e1, av_cI_r, Option.bind_some]
  dsimp only
  rw [rdB_1 hX hn hb g1, rdB_2 hX hn hb g1, rdB_3 hX hn hb g1, is_137' I2.w l2, e2, av_cI_r, Option.bind_some]
  dsimp only
  rw [if_pos rfl]
theorem lb_30 (xt : XT X) (hX : X 1000000 = some (n, f)) (hn : n ≤ 4096) {K b : Nat} (hb : b + 8 ≤ n) (hK : K < 1000) {h : av_H} (L : LI K h) (hk : f b &&& 63 = 30) : ∃ h2, bd X (d + 51) 384 13 [(0, vr (some 1000000)), (1, vr (some 0)), (2, vr (some 137)), (3, vr (some 225)), (4, vi (nI b))] [] h = bd X (d + 51) 384 13 [(0, vr (some 1000000)), (1, vr (some 0)), (2, vr (some 137)), (3, vr (some 225)), (4, vi (nI b + (8 : Int32)))] [] h2 ∧ LI (K + 1) h2 := by
  have I := L.1
  have w : WF h := I.w
  have len := L.len
  have g0 : h.1.length ≤ 1000000 := by omega
  have nl : ¬ nI n - 8 < nI b := fun q => by
    rw [show (8 : Int32) = nI 8 from rfl, pk_sub (by omega)] at q
    exact nI_nlt (by omega) (by omega) q
  have br := lw_30 (d := d + 51) (lenX hX g0) nl (rdX hX g0 (by omega) hn) hk
  obtain ⟨rv, h1, h2, e1, e2, I2, G⟩ := st_gangs (X := X) (d := d + 1) I (f (b + 1))
  have L2 := L.next I2 G
  have len2 := L2.len
  have l2 : h2.1 = h1.1 := keep rfl e2
  have g1 : h1.1.length ≤ 1000000 := by rw [← l2]; omega
  refine ⟨h2, ?_, L2⟩
  rw [br, rdB_1 hX hn hb g0, is_0 w, e1, av_cI_r, Option.bind_some]
  dsimp only
  rw [rdB_1 hX hn hb g1, is_137' I2.w l2, e2, av_cI_r, Option.bind_some]
  dsimp only
  rw [if_pos rfl]
theorem lb_31 (xt : XT X) (hX : X 1000000 = some (n, f)) (hn : n ≤ 4096) {K b : Nat} (hb : b + 8 ≤ n) (hK : K < 1000) {h : av_H} (L : LI K h) (hk : f b &&& 63 = 31) : ∃ h2, bd X (d + 51) 384 13 [(0, vr (some 1000000)), (1, vr (some 0)), (2, vr (some 137)), (3, vr (some 225)), (4, vi (nI b))] [] h = bd X (d + 51) 384 13 [(0, vr (some 1000000)), (1, vr (some 0)), (2, vr (some 137)), (3, vr (some 225)), (4, vi (nI b + (8 : Int32)))] [] h2 ∧ LI (K + 1) h2 := by
  have I := L.1
  have w : WF h := I.w
  have len := L.len
  have g0 : h.1.length ≤ 1000000 := by omega
  have nl : ¬ nI n - 8 < nI b := fun q => by
    rw [show (8 : Int32) = nI 8 from rfl, pk_sub (by omega)] at q
    exact nI_nlt (by omega) (by omega) q
  have br := lw_31 (d := d + 51) (lenX hX g0) nl (rdX hX g0 (by omega) hn) hk
  obtain ⟨rv, h1, h2, e1, e2, I2, G⟩ := st_offer (X := X) (d := d + 1) I (f (b + 1)) (f (b + 2)) (f (b + 3)) (f (b + 4))
  have L2 := L.next I2 G
  have len2 := L2.len
  have l2 : h2.1 = h1.1 := keep rfl e2
  have g1 : h1.1.length ≤ 1000000 := by rw [← l2]; omega
  refine ⟨h2, ?_, L2⟩
  rw [br, rdB_1 hX hn hb g0, rdB_2 hX hn hb g0, rdB_3 hX hn hb g0, rdB_4 hX hn hb g0, is_0 w, e1, av_cI_r, Option.bind_some]
  dsimp only
  rw [rdB_1 hX hn hb g1, rdB_2 hX hn hb g1, rdB_3 hX hn hb g1, rdB_4 hX hn hb g1, is_137' I2.w l2, e2, av_cI_r, Option.bind_some]
  dsimp only
  rw [if_pos rfl]
theorem lb_32 (xt : XT X) (hX : X 1000000 = some (n, f)) (hn : n ≤ 4096) {K b : Nat} (hb : b + 8 ≤ n) (hK : K < 1000) {h : av_H} (L : LI K h) (hk : f b &&& 63 = 32) : ∃ h2, bd X (d + 51) 384 13 [(0, vr (some 1000000)), (1, vr (some 0)), (2, vr (some 137)), (3, vr (some 225)), (4, vi (nI b))] [] h = bd X (d + 51) 384 13 [(0, vr (some 1000000)), (1, vr (some 0)), (2, vr (some 137)), (3, vr (some 225)), (4, vi (nI b + (8 : Int32)))] [] h2 ∧ LI (K + 1) h2 := by
  have I := L.1
  have w : WF h := I.w
  have len := L.len
  have g0 : h.1.length ≤ 1000000 := by omega
  have nl : ¬ nI n - 8 < nI b := fun q => by
    rw [show (8 : Int32) = nI 8 from rfl, pk_sub (by omega)] at q
    exact nI_nlt (by omega) (by omega) q
  have br := lw_32 (d := d + 51) (lenX hX g0) nl (rdX hX g0 (by omega) hn) hk
  obtain ⟨rv, h1, h2, e1, e2, I2, G⟩ := st_buy (X := X) (d := d + 1) I (f (b + 1))
  have L2 := L.next I2 G
  have len2 := L2.len
  have l2 : h2.1 = h1.1 := keep rfl e2
  have g1 : h1.1.length ≤ 1000000 := by rw [← l2]; omega
  refine ⟨h2, ?_, L2⟩
  rw [br, rdB_1 hX hn hb g0, is_0 w, e1, av_cI_r, Option.bind_some]
  dsimp only
  rw [rdB_1 hX hn hb g1, is_137' I2.w l2, e2, av_cI_r, Option.bind_some]
  dsimp only
  rw [if_pos rfl]
theorem lb_33 (xt : XT X) (hX : X 1000000 = some (n, f)) (hn : n ≤ 4096) {K b : Nat} (hb : b + 8 ≤ n) (hK : K < 1000) {h : av_H} (L : LI K h) (hk : f b &&& 63 = 33) : ∃ h2, bd X (d + 51) 384 13 [(0, vr (some 1000000)), (1, vr (some 0)), (2, vr (some 137)), (3, vr (some 225)), (4, vi (nI b))] [] h = bd X (d + 51) 384 13 [(0, vr (some 1000000)), (1, vr (some 0)), (2, vr (some 137)), (3, vr (some 225)), (4, vi (nI b + (8 : Int32)))] [] h2 ∧ LI (K + 1) h2 := by
  have I := L.1
  have w : WF h := I.w
  have len := L.len
  have g0 : h.1.length ≤ 1000000 := by omega
  have nl : ¬ nI n - 8 < nI b := fun q => by
    rw [show (8 : Int32) = nI 8 from rfl, pk_sub (by omega)] at q
    exact nI_nlt (by omega) (by omega) q
  have br := lw_33 (d := d + 51) (lenX hX g0) nl (rdX hX g0 (by omega) hn) hk
  obtain ⟨rv, h1, h2, e1, e2, I2, G⟩ := st_away (X := X) (d := d + 1) I (f (b + 1)) (f (b + 2)) (!decide (f (b + 3) = 0))
  have L2 := L.next I2 G
  have len2 := L2.len
  have l2 : h2.1 = h1.1 := keep rfl e2
  have g1 : h1.1.length ≤ 1000000 := by rw [← l2]; omega
  refine ⟨h2, ?_, L2⟩
  by_cases z : f (b + 3) = 0
  · rw [← show (0 : Int32) = _ from lwB_0 z] at e1 e2
    rw [br, rdB_1 hX hn hb g0, rdB_2 hX hn hb g0, rdB_3 hX hn hb g0, if_pos z, b_384_1515, is_0 w, e1, av_cI_r, Option.bind_some]
    dsimp only
    rw [rdB_1 hX hn hb g1, rdB_2 hX hn hb g1, rdB_3 hX hn hb g1, if_pos z, b_384_1536, is_137' I2.w l2, e2, av_cI_r, Option.bind_some]
    dsimp only
    rw [if_pos rfl]
  · rw [← show (1 : Int32) = _ from lwB_1 z] at e1 e2
    rw [br, rdB_1 hX hn hb g0, rdB_2 hX hn hb g0, rdB_3 hX hn hb g0, if_neg z, b_384_1515, is_0 w, e1, av_cI_r, Option.bind_some]
    dsimp only
    rw [rdB_1 hX hn hb g1, rdB_2 hX hn hb g1, rdB_3 hX hn hb g1, if_neg z, b_384_1536, is_137' I2.w l2, e2, av_cI_r, Option.bind_some]
    dsimp only
    rw [if_pos rfl]
theorem lb_34 (xt : XT X) (hX : X 1000000 = some (n, f)) (hn : n ≤ 4096) {K b : Nat} (hb : b + 8 ≤ n) (hK : K < 1000) {h : av_H} (L : LI K h) (hk : f b &&& 63 = 34) : ∃ h2, bd X (d + 51) 384 13 [(0, vr (some 1000000)), (1, vr (some 0)), (2, vr (some 137)), (3, vr (some 225)), (4, vi (nI b))] [] h = bd X (d + 51) 384 13 [(0, vr (some 1000000)), (1, vr (some 0)), (2, vr (some 137)), (3, vr (some 225)), (4, vi (nI b + (8 : Int32)))] [] h2 ∧ LI (K + 1) h2 := by
  have I := L.1
  have w : WF h := I.w
  have len := L.len
  have g0 : h.1.length ≤ 1000000 := by omega
  have nl : ¬ nI n - 8 < nI b := fun q => by
    rw [show (8 : Int32) = nI 8 from rfl, pk_sub (by omega)] at q
    exact nI_nlt (by omega) (by omega) q
  have br := lw_34 (d := d + 51) (lenX hX g0) nl (rdX hX g0 (by omega) hn) hk
  obtain ⟨rv, h1, h2, e1, e2, I2, G⟩ := st_rota (X := X) (d := d + 1) I (f (b + 1)) (f (b + 2))
  have L2 := L.next I2 G
  have len2 := L2.len
  have l2 : h2.1 = h1.1 := keep rfl e2
  have g1 : h1.1.length ≤ 1000000 := by rw [← l2]; omega
  refine ⟨h2, ?_, L2⟩
  rw [br, rdB_1 hX hn hb g0, rdB_2 hX hn hb g0, is_0 w, e1, av_cI_r, Option.bind_some]
  dsimp only
  rw [rdB_1 hX hn hb g1, rdB_2 hX hn hb g1, is_137' I2.w l2, e2, av_cI_r, Option.bind_some]
  dsimp only
  rw [if_pos rfl]
theorem lb_35 (xt : XT X) (hX : X 1000000 = some (n, f)) (hn : n ≤ 4096) {K b : Nat} (hb : b + 8 ≤ n) (hK : K < 1000) {h : av_H} (L : LI K h) (hk : f b &&& 63 = 35) : ∃ h2, bd X (d + 51) 384 13 [(0, vr (some 1000000)), (1, vr (some 0)), (2, vr (some 137)), (3, vr (some 225)), (4, vi (nI b))] [] h = bd X (d + 51) 384 13 [(0, vr (some 1000000)), (1, vr (some 0)), (2, vr (some 137)), (3, vr (some 225)), (4, vi (nI b + (8 : Int32)))] [] h2 ∧ LI (K + 1) h2 := by
  have I := L.1
  have w : WF h := I.w
  have len := L.len
  have g0 : h.1.length ≤ 1000000 := by omega
  have nl : ¬ nI n - 8 < nI b := fun q => by
    rw [show (8 : Int32) = nI 8 from rfl, pk_sub (by omega)] at q
    exact nI_nlt (by omega) (by omega) q
  have br := lw_35 (d := d + 51) (lenX hX g0) nl (rdX hX g0 (by omega) hn) hk
  obtain ⟨rv, h1, h2, e1, e2, I2, G⟩ := st_key (X := X) (d := d + 1) I (f (b + 1)) (f (b + 2)) (f (b + 3)) (f (b + 4)) (!decide (f (b + 5) = 0))
  have L2 := L.next I2 G
  have len2 := L2.len
  have l2 : h2.1 = h1.1 := keep rfl e2
  have g1 : h1.1.length ≤ 1000000 := by rw [← l2]; omega
  refine ⟨h2, ?_, L2⟩
  by_cases z : f (b + 5) = 0
  · rw [← show (0 : Int32) = _ from lwB_0 z] at e1 e2
    rw [br, rdB_1 hX hn hb g0, rdB_2 hX hn hb g0, rdB_3 hX hn hb g0, rdB_4 hX hn hb g0, rdB_5 hX hn hb g0, if_pos z, b_384_1597, is_0 w, e1, av_cI_r, Option.bind_some]
    dsimp only
    rw [rdB_1 hX hn hb g1, rdB_2 hX hn hb g1, rdB_3 hX hn hb g1, rdB_4 hX hn hb g1, rdB_5 hX hn hb g1, if_pos z, b_384_1628, is_137' I2.w l2, e2, av_cI_r, Option.bind_some]
    dsimp only
    rw [if_pos rfl]
  · rw [← show (1 : Int32) = _ from lwB_1 z] at e1 e2
    rw [br, rdB_1 hX hn hb g0, rdB_2 hX hn hb g0, rdB_3 hX hn hb g0, rdB_4 hX hn hb g0, rdB_5 hX hn hb g0, if_neg z, b_384_1597, is_0 w, e1, av_cI_r, Option.bind_some]
    dsimp only
    rw [rdB_1 hX hn hb g1, rdB_2 hX hn hb g1, rdB_3 hX hn hb g1, rdB_4 hX hn hb g1, rdB_5 hX hn hb g1, if_neg z, b_384_1628, is_137' I2.w l2, e2, av_cI_r, Option.bind_some]
    dsimp only
    rw [if_pos rfl]
theorem lb_36 (xt : XT X) (hX : X 1000000 = some (n, f)) (hn : n ≤ 4096) {K b : Nat} (hb : b + 8 ≤ n) (hK : K < 1000) {h : av_H} (L : LI K h) (hk : f b &&& 63 = 36) : ∃ h2, bd X (d + 51) 384 13 [(0, vr (some 1000000)), (1, vr (some 0)), (2, vr (some 137)), (3, vr (some 225)), (4, vi (nI b))] [] h = bd X (d + 51) 384 13 [(0, vr (some 1000000)), (1, vr (some 0)), (2, vr (some 137)), (3, vr (some 225)), (4, vi (nI b + (8 : Int32)))] [] h2 ∧ LI (K + 1) h2 := by
  have I := L.1
  have w : WF h := I.w
  have len := L.len
  have g0 : h.1.length ≤ 1000000 := by omega
  have nl : ¬ nI n - 8 < nI b := fun q => by
    rw [show (8 : Int32) = nI 8 from rfl, pk_sub (by omega)] at q
    exact nI_nlt (by omega) (by omega) q
  have br := lw_36 (d := d + 51) (lenX hX g0) nl (rdX hX g0 (by omega) hn) hk
  obtain ⟨rv, h1, h2, e1, e2, I2, G⟩ := st_holds (X := X) (d := d + 1) I (f (b + 1)) (f (b + 2)) (f (b + 3))
  have L2 := L.next I2 G
  have len2 := L2.len
  have l2 : h2.1 = h1.1 := keep rfl e2
  have g1 : h1.1.length ≤ 1000000 := by rw [← l2]; omega
  refine ⟨h2, ?_, L2⟩
  rw [br, rdB_1 hX hn hb g0, rdB_2 hX hn hb g0, rdB_3 hX hn hb g0, is_0 w, e1, av_cI_r, Option.bind_some]
  dsimp only
  rw [rdB_1 hX hn hb g1, rdB_2 hX hn hb g1, rdB_3 hX hn hb g1, is_137' I2.w l2, e2, av_cI_r, Option.bind_some]
  dsimp only
  rw [if_pos rfl]
theorem lb_37 (xt : XT X) (hX : X 1000000 = some (n, f)) (hn : n ≤ 4096) {K b : Nat} (hb : b + 8 ≤ n) (hK : K < 1000) {h : av_H} (L : LI K h) (hk : f b &&& 63 = 37) : ∃ h2, bd X (d + 51) 384 13 [(0, vr (some 1000000)), (1, vr (some 0)), (2, vr (some 137)), (3, vr (some 225)), (4, vi (nI b))] [] h = bd X (d + 51) 384 13 [(0, vr (some 1000000)), (1, vr (some 0)), (2, vr (some 137)), (3, vr (some 225)), (4, vi (nI b + (8 : Int32)))] [] h2 ∧ LI (K + 1) h2 := by
  have I := L.1
  have w : WF h := I.w
  have len := L.len
  have g0 : h.1.length ≤ 1000000 := by omega
  have nl : ¬ nI n - 8 < nI b := fun q => by
    rw [show (8 : Int32) = nI 8 from rfl, pk_sub (by omega)] at q
    exact nI_nlt (by omega) (by omega) q
  have br := lw_37 (d := d + 51) (lenX hX g0) nl (rdX hX g0 (by omega) hn) hk
  obtain ⟨rv, h1, h2, e1, e2, I2, G⟩ := st_out (X := X) (d := d + 1) I (f (b + 1)) (f (b + 2)) (f (b + 3))
  have L2 := L.next I2 G
  have len2 := L2.len
  have l2 : h2.1 = h1.1 := keep rfl e2
  have g1 : h1.1.length ≤ 1000000 := by rw [← l2]; omega
  refine ⟨h2, ?_, L2⟩
  rw [br, rdB_1 hX hn hb g0, rdB_2 hX hn hb g0, rdB_3 hX hn hb g0, is_0 w, e1, av_cI_r, Option.bind_some]
  dsimp only
  rw [rdB_1 hX hn hb g1, rdB_2 hX hn hb g1, rdB_3 hX hn hb g1, is_137' I2.w l2, e2, av_cI_r, Option.bind_some]
  dsimp only
  rw [if_pos rfl]
theorem lb_38 (xt : XT X) (hX : X 1000000 = some (n, f)) (hn : n ≤ 4096) {K b : Nat} (hb : b + 8 ≤ n) (hK : K < 1000) {h : av_H} (L : LI K h) (hk : f b &&& 63 = 38) : ∃ h2, bd X (d + 51) 384 13 [(0, vr (some 1000000)), (1, vr (some 0)), (2, vr (some 137)), (3, vr (some 225)), (4, vi (nI b))] [] h = bd X (d + 51) 384 13 [(0, vr (some 1000000)), (1, vr (some 0)), (2, vr (some 137)), (3, vr (some 225)), (4, vi (nI b + (8 : Int32)))] [] h2 ∧ LI (K + 1) h2 := by
  have I := L.1
  have w : WF h := I.w
  have len := L.len
  have g0 : h.1.length ≤ 1000000 := by omega
  have nl : ¬ nI n - 8 < nI b := fun q => by
    rw [show (8 : Int32) = nI 8 from rfl, pk_sub (by omega)] at q
    exact nI_nlt (by omega) (by omega) q
  have br := lw_38 (d := d + 51) (lenX hX g0) nl (rdX hX g0 (by omega) hn) hk
  obtain ⟨rv, h1, h2, e1, e2, I2, G⟩ := st_film (X := X) (d := d + 1) I (f (b + 1)) (f (b + 2)) (f (b + 3)) (f (b + 4)) (f (b + 5)) (f (b + 6))
  have L2 := L.next I2 G
  have len2 := L2.len
  have l2 : h2.1 = h1.1 := keep rfl e2
  have g1 : h1.1.length ≤ 1000000 := by rw [← l2]; omega
  refine ⟨h2, ?_, L2⟩
  rw [br, rdB_1 hX hn hb g0, rdB_2 hX hn hb g0, rdB_3 hX hn hb g0, rdB_4 hX hn hb g0, rdB_5 hX hn hb g0, rdB_6 hX hn hb g0, is_0 w, e1, av_cI_r, Option.bind_some]
  dsimp only
  rw [rdB_1 hX hn hb g1, rdB_2 hX hn hb g1, rdB_3 hX hn hb g1, rdB_4 hX hn hb g1, rdB_5 hX hn hb g1, rdB_6 hX hn hb g1, is_137' I2.w l2, e2, av_cI_r, Option.bind_some]
  dsimp only
  rw [if_pos rfl]
theorem lb_39 (xt : XT X) (hX : X 1000000 = some (n, f)) (hn : n ≤ 4096) {K b : Nat} (hb : b + 8 ≤ n) (hK : K < 1000) {h : av_H} (L : LI K h) (hk : f b &&& 63 = 39) : ∃ h2, bd X (d + 51) 384 13 [(0, vr (some 1000000)), (1, vr (some 0)), (2, vr (some 137)), (3, vr (some 225)), (4, vi (nI b))] [] h = bd X (d + 51) 384 13 [(0, vr (some 1000000)), (1, vr (some 0)), (2, vr (some 137)), (3, vr (some 225)), (4, vi (nI b + (8 : Int32)))] [] h2 ∧ LI (K + 1) h2 := by
  have I := L.1
  have w : WF h := I.w
  have len := L.len
  have g0 : h.1.length ≤ 1000000 := by omega
  have nl : ¬ nI n - 8 < nI b := fun q => by
    rw [show (8 : Int32) = nI 8 from rfl, pk_sub (by omega)] at q
    exact nI_nlt (by omega) (by omega) q
  have br := lw_39 (d := d + 51) (lenX hX g0) nl (rdX hX g0 (by omega) hn) hk
  obtain ⟨rv, h1, h2, e1, e2, I2, G⟩ := st_clashes (X := X) (d := d + 1) I (f (b + 1))
  have L2 := L.next I2 G
  have len2 := L2.len
  have l2 : h2.1 = h1.1 := keep rfl e2
  have g1 : h1.1.length ≤ 1000000 := by rw [← l2]; omega
  refine ⟨h2, ?_, L2⟩
  rw [br, rdB_1 hX hn hb g0, is_0 w, e1, av_cI_r, Option.bind_some]
  dsimp only
  rw [rdB_1 hX hn hb g1, is_137' I2.w l2, e2, av_cI_r, Option.bind_some]
  dsimp only
  rw [if_pos rfl]
theorem lb_40 (xt : XT X) (hX : X 1000000 = some (n, f)) (hn : n ≤ 4096) {K b : Nat} (hb : b + 8 ≤ n) (hK : K < 1000) {h : av_H} (L : LI K h) (hk : f b &&& 63 = 40) : ∃ h2, bd X (d + 51) 384 13 [(0, vr (some 1000000)), (1, vr (some 0)), (2, vr (some 137)), (3, vr (some 225)), (4, vi (nI b))] [] h = bd X (d + 51) 384 13 [(0, vr (some 1000000)), (1, vr (some 0)), (2, vr (some 137)), (3, vr (some 225)), (4, vi (nI b + (8 : Int32)))] [] h2 ∧ LI (K + 1) h2 := by
  have I := L.1
  have w : WF h := I.w
  have len := L.len
  have g0 : h.1.length ≤ 1000000 := by omega
  have nl : ¬ nI n - 8 < nI b := fun q => by
    rw [show (8 : Int32) = nI 8 from rfl, pk_sub (by omega)] at q
    exact nI_nlt (by omega) (by omega) q
  have br := lw_40 (d := d + 51) (lenX hX g0) nl (rdX hX g0 (by omega) hn) hk
  obtain ⟨rv, h1, h2, e1, e2, I2, G⟩ := st_complain (X := X) (d := d + 1) I (f (b + 1)) (f (b + 2)) (f (b + 3)) (f (b + 4)) (f (b + 5))
  have L2 := L.next I2 G
  have len2 := L2.len
  have l2 : h2.1 = h1.1 := keep rfl e2
  have g1 : h1.1.length ≤ 1000000 := by rw [← l2]; omega
  refine ⟨h2, ?_, L2⟩
  rw [br, rdB_1 hX hn hb g0, rdB_2 hX hn hb g0, rdB_3 hX hn hb g0, rdB_4 hX hn hb g0, rdB_5 hX hn hb g0, is_0 w, e1, av_cI_r, Option.bind_some]
  dsimp only
  rw [rdB_1 hX hn hb g1, rdB_2 hX hn hb g1, rdB_3 hX hn hb g1, rdB_4 hX hn hb g1, rdB_5 hX hn hb g1, is_137' I2.w l2, e2, av_cI_r, Option.bind_some]
  dsimp only
  rw [if_pos rfl]
theorem lb_41 (xt : XT X) (hX : X 1000000 = some (n, f)) (hn : n ≤ 4096) {K b : Nat} (hb : b + 8 ≤ n) (hK : K < 1000) {h : av_H} (L : LI K h) (hk : f b &&& 63 = 41) : ∃ h2, bd X (d + 51) 384 13 [(0, vr (some 1000000)), (1, vr (some 0)), (2, vr (some 137)), (3, vr (some 225)), (4, vi (nI b))] [] h = bd X (d + 51) 384 13 [(0, vr (some 1000000)), (1, vr (some 0)), (2, vr (some 137)), (3, vr (some 225)), (4, vi (nI b + (8 : Int32)))] [] h2 ∧ LI (K + 1) h2 := by
  have I := L.1
  have w : WF h := I.w
  have len := L.len
  have g0 : h.1.length ≤ 1000000 := by omega
  have nl : ¬ nI n - 8 < nI b := fun q => by
    rw [show (8 : Int32) = nI 8 from rfl, pk_sub (by omega)] at q
    exact nI_nlt (by omega) (by omega) q
  have br := lw_41 (d := d + 51) (lenX hX g0) nl (rdX hX g0 (by omega) hn) hk
  obtain ⟨rv, h1, h2, e1, e2, I2, G⟩ := st_ours (X := X) (d := d + 1) I (f (b + 1)) (f (b + 2))
  have L2 := L.next I2 G
  have len2 := L2.len
  have l2 : h2.1 = h1.1 := keep rfl e2
  have g1 : h1.1.length ≤ 1000000 := by rw [← l2]; omega
  refine ⟨h2, ?_, L2⟩
  rw [br, rdB_1 hX hn hb g0, rdB_2 hX hn hb g0, is_0 w, e1, av_cI_r, Option.bind_some]
  dsimp only
  rw [rdB_1 hX hn hb g1, rdB_2 hX hn hb g1, is_137' I2.w l2, e2, av_cI_r, Option.bind_some]
  dsimp only
  rw [if_pos rfl]
theorem lb_42 (xt : XT X) (hX : X 1000000 = some (n, f)) (hn : n ≤ 4096) {K b : Nat} (hb : b + 8 ≤ n) (hK : K < 1000) {h : av_H} (L : LI K h) (hk : f b &&& 63 = 42) : ∃ h2, bd X (d + 51) 384 13 [(0, vr (some 1000000)), (1, vr (some 0)), (2, vr (some 137)), (3, vr (some 225)), (4, vi (nI b))] [] h = bd X (d + 51) 384 13 [(0, vr (some 1000000)), (1, vr (some 0)), (2, vr (some 137)), (3, vr (some 225)), (4, vi (nI b + (8 : Int32)))] [] h2 ∧ LI (K + 1) h2 := by
  have I := L.1
  have w : WF h := I.w
  have len := L.len
  have g0 : h.1.length ≤ 1000000 := by omega
  have nl : ¬ nI n - 8 < nI b := fun q => by
    rw [show (8 : Int32) = nI 8 from rfl, pk_sub (by omega)] at q
    exact nI_nlt (by omega) (by omega) q
  have br := lw_42 (d := d + 51) (lenX hX g0) nl (rdX hX g0 (by omega) hn) hk
  obtain ⟨rv, h1, h2, e1, e2, I2, G⟩ := st_band (X := X) (d := d + 1) I (f (b + 1)) (f (b + 2))
  have L2 := L.next I2 G
  have len2 := L2.len
  have l2 : h2.1 = h1.1 := keep rfl e2
  have g1 : h1.1.length ≤ 1000000 := by rw [← l2]; omega
  refine ⟨h2, ?_, L2⟩
  rw [br, rdB_1 hX hn hb g0, rdB_2 hX hn hb g0, is_0 w, e1, av_cI_r, Option.bind_some]
  dsimp only
  rw [rdB_1 hX hn hb g1, rdB_2 hX hn hb g1, is_137' I2.w l2, e2, av_cI_r, Option.bind_some]
  dsimp only
  rw [if_pos rfl]
theorem lb_43 (xt : XT X) (hX : X 1000000 = some (n, f)) (hn : n ≤ 4096) {K b : Nat} (hb : b + 8 ≤ n) (hK : K < 1000) {h : av_H} (L : LI K h) (hk : f b &&& 63 = 43) : ∃ h2, bd X (d + 51) 384 13 [(0, vr (some 1000000)), (1, vr (some 0)), (2, vr (some 137)), (3, vr (some 225)), (4, vi (nI b))] [] h = bd X (d + 51) 384 13 [(0, vr (some 1000000)), (1, vr (some 0)), (2, vr (some 137)), (3, vr (some 225)), (4, vi (nI b + (8 : Int32)))] [] h2 ∧ LI (K + 1) h2 := by
  have I := L.1
  have w : WF h := I.w
  have len := L.len
  have g0 : h.1.length ≤ 1000000 := by omega
  have nl : ¬ nI n - 8 < nI b := fun q => by
    rw [show (8 : Int32) = nI 8 from rfl, pk_sub (by omega)] at q
    exact nI_nlt (by omega) (by omega) q
  have br := lw_43 (d := d + 51) (lenX hX g0) nl (rdX hX g0 (by omega) hn) hk
  obtain ⟨rv, h1, h2, e1, e2, I2, G⟩ := st_worst (X := X) (d := d + 1) I 
  have L2 := L.next I2 G
  have len2 := L2.len
  have l2 : h2.1 = h1.1 := keep rfl e2
  have g1 : h1.1.length ≤ 1000000 := by rw [← l2]; omega
  refine ⟨h2, ?_, L2⟩
  rw [br, is_0 w, e1, av_cI_r, Option.bind_some]
  dsimp only
  rw [is_137' I2.w l2, e2, av_cI_r, Option.bind_some]
  dsimp only
  rw [if_pos rfl]
theorem lb_44 (xt : XT X) (hX : X 1000000 = some (n, f)) (hn : n ≤ 4096) {K b : Nat} (hb : b + 8 ≤ n) (hK : K < 1000) {h : av_H} (L : LI K h) (hk : f b &&& 63 = 44) : ∃ h2, bd X (d + 51) 384 13 [(0, vr (some 1000000)), (1, vr (some 0)), (2, vr (some 137)), (3, vr (some 225)), (4, vi (nI b))] [] h = bd X (d + 51) 384 13 [(0, vr (some 1000000)), (1, vr (some 0)), (2, vr (some 137)), (3, vr (some 225)), (4, vi (nI b + (8 : Int32)))] [] h2 ∧ LI (K + 1) h2 := by
  have I := L.1
  have w : WF h := I.w
  have len := L.len
  have g0 : h.1.length ≤ 1000000 := by omega
  have nl : ¬ nI n - 8 < nI b := fun q => by
    rw [show (8 : Int32) = nI 8 from rfl, pk_sub (by omega)] at q
    exact nI_nlt (by omega) (by omega) q
  have br := lw_44 (d := d + 51) (lenX hX g0) nl (rdX hX g0 (by omega) hn) hk
  obtain ⟨rv, h1, h2, e1, e2, I2, G⟩ := st_week (X := X) (d := d + 1) I (f (b + 1)) (f (b + 2)) (f (b + 3))
  have L2 := L.next I2 G
  have len2 := L2.len
  have l2 : h2.1 = h1.1 := keep rfl e2
  have g1 : h1.1.length ≤ 1000000 := by rw [← l2]; omega
  refine ⟨h2, ?_, L2⟩
  rw [br, rdB_1 hX hn hb g0, rdB_2 hX hn hb g0, rdB_3 hX hn hb g0, is_0 w, e1, av_cI_r, Option.bind_some]
  dsimp only
  rw [rdB_1 hX hn hb g1, rdB_2 hX hn hb g1, rdB_3 hX hn hb g1, is_137' I2.w l2, e2, av_cI_r, Option.bind_some]
  dsimp only
  rw [if_pos rfl]
theorem lb_45 (xt : XT X) (hX : X 1000000 = some (n, f)) (hn : n ≤ 4096) {K b : Nat} (hb : b + 8 ≤ n) (hK : K < 1000) {h : av_H} (L : LI K h) (hk : f b &&& 63 = 45) : ∃ h2, bd X (d + 51) 384 13 [(0, vr (some 1000000)), (1, vr (some 0)), (2, vr (some 137)), (3, vr (some 225)), (4, vi (nI b))] [] h = bd X (d + 51) 384 13 [(0, vr (some 1000000)), (1, vr (some 0)), (2, vr (some 137)), (3, vr (some 225)), (4, vi (nI b + (8 : Int32)))] [] h2 ∧ LI (K + 1) h2 := by
  have I := L.1
  have w : WF h := I.w
  have len := L.len
  have g0 : h.1.length ≤ 1000000 := by omega
  have nl : ¬ nI n - 8 < nI b := fun q => by
    rw [show (8 : Int32) = nI 8 from rfl, pk_sub (by omega)] at q
    exact nI_nlt (by omega) (by omega) q
  have br := lw_45 (d := d + 51) (lenX hX g0) nl (rdX hX g0 (by omega) hn) hk
  obtain ⟨rv, h1, h2, e1, e2, I2, G⟩ := st_water (X := X) (d := d + 1) I (f (b + 1)) (f (b + 2)) (f (b + 3)) (f (b + 4)) (f (b + 5)) (f (b + 6))
  have L2 := L.next I2 G
  have len2 := L2.len
  have l2 : h2.1 = h1.1 := keep rfl e2
  have g1 : h1.1.length ≤ 1000000 := by rw [← l2]; omega
  refine ⟨h2, ?_, L2⟩
  rw [br, rdB_1 hX hn hb g0, rdB_2 hX hn hb g0, rdB_3 hX hn hb g0, rdB_4 hX hn hb g0, rdB_5 hX hn hb g0, rdB_6 hX hn hb g0, is_0 w, e1, av_cI_r, Option.bind_some]
  dsimp only
  rw [rdB_1 hX hn hb g1, rdB_2 hX hn hb g1, rdB_3 hX hn hb g1, rdB_4 hX hn hb g1, rdB_5 hX hn hb g1, rdB_6 hX hn hb g1, is_137' I2.w l2, e2, av_cI_r, Option.bind_some]
  dsimp only
  rw [if_pos rfl]
theorem lb_46 (xt : XT X) (hX : X 1000000 = some (n, f)) (hn : n ≤ 4096) {K b : Nat} (hb : b + 8 ≤ n) (hK : K < 1000) {h : av_H} (L : LI K h) (hk : f b &&& 63 = 46) : ∃ h2, bd X (d + 51) 384 13 [(0, vr (some 1000000)), (1, vr (some 0)), (2, vr (some 137)), (3, vr (some 225)), (4, vi (nI b))] [] h = bd X (d + 51) 384 13 [(0, vr (some 1000000)), (1, vr (some 0)), (2, vr (some 137)), (3, vr (some 225)), (4, vi (nI b + (8 : Int32)))] [] h2 ∧ LI (K + 1) h2 := by
  have I := L.1
  have w : WF h := I.w
  have len := L.len
  have g0 : h.1.length ≤ 1000000 := by omega
  have nl : ¬ nI n - 8 < nI b := fun q => by
    rw [show (8 : Int32) = nI 8 from rfl, pk_sub (by omega)] at q
    exact nI_nlt (by omega) (by omega) q
  have br := lw_46 (d := d + 51) (lenX hX g0) nl (rdX hX g0 (by omega) hn) hk
  obtain ⟨rv, h1, h2, e1, e2, I2, G⟩ := st_aloft (X := X) (d := d + 1) I (f (b + 1)) (f (b + 2)) (f (b + 3))
  have L2 := L.next I2 G
  have len2 := L2.len
  have l2 : h2.1 = h1.1 := keep rfl e2
  have g1 : h1.1.length ≤ 1000000 := by rw [← l2]; omega
  refine ⟨h2, ?_, L2⟩
  rw [br, rdB_1 hX hn hb g0, rdB_2 hX hn hb g0, rdB_3 hX hn hb g0, is_0 w, e1, av_cI_r, Option.bind_some]
  dsimp only
  rw [rdB_1 hX hn hb g1, rdB_2 hX hn hb g1, rdB_3 hX hn hb g1, is_137' I2.w l2, e2, av_cI_r, Option.bind_some]
  dsimp only
  rw [if_pos rfl]
theorem lb_47 (xt : XT X) (hX : X 1000000 = some (n, f)) (hn : n ≤ 4096) {K b : Nat} (hb : b + 8 ≤ n) (hK : K < 1000) {h : av_H} (L : LI K h) (hk : f b &&& 63 = 47) : ∃ h2, bd X (d + 51) 384 13 [(0, vr (some 1000000)), (1, vr (some 0)), (2, vr (some 137)), (3, vr (some 225)), (4, vi (nI b))] [] h = bd X (d + 51) 384 13 [(0, vr (some 1000000)), (1, vr (some 0)), (2, vr (some 137)), (3, vr (some 225)), (4, vi (nI b + (8 : Int32)))] [] h2 ∧ LI (K + 1) h2 := by
  have I := L.1
  have w : WF h := I.w
  have len := L.len
  have g0 : h.1.length ≤ 1000000 := by omega
  have nl : ¬ nI n - 8 < nI b := fun q => by
    rw [show (8 : Int32) = nI 8 from rfl, pk_sub (by omega)] at q
    exact nI_nlt (by omega) (by omega) q
  have br := lw_47 (d := d + 51) (lenX hX g0) nl (rdX hX g0 (by omega) hn) hk
  obtain ⟨rv, h1, h2, e1, e2, I2, G⟩ := st_learnt (X := X) (d := d + 1) I (f (b + 1)) (f (b + 2))
  have L2 := L.next I2 G
  have len2 := L2.len
  have l2 : h2.1 = h1.1 := keep rfl e2
  have g1 : h1.1.length ≤ 1000000 := by rw [← l2]; omega
  refine ⟨h2, ?_, L2⟩
  rw [br, rdB_1 hX hn hb g0, rdB_2 hX hn hb g0, is_0 w, e1, av_cI_r, Option.bind_some]
  dsimp only
  rw [rdB_1 hX hn hb g1, rdB_2 hX hn hb g1, is_137' I2.w l2, e2, av_cI_r, Option.bind_some]
  dsimp only
  rw [if_pos rfl]
theorem lb_48 (xt : XT X) (hX : X 1000000 = some (n, f)) (hn : n ≤ 4096) {K b : Nat} (hb : b + 8 ≤ n) (hK : K < 1000) {h : av_H} (L : LI K h) (hk : f b &&& 63 = 48) : ∃ h2, bd X (d + 51) 384 13 [(0, vr (some 1000000)), (1, vr (some 0)), (2, vr (some 137)), (3, vr (some 225)), (4, vi (nI b))] [] h = bd X (d + 51) 384 13 [(0, vr (some 1000000)), (1, vr (some 0)), (2, vr (some 137)), (3, vr (some 225)), (4, vi (nI b + (8 : Int32)))] [] h2 ∧ LI (K + 1) h2 := by
  have I := L.1
  have w : WF h := I.w
  have len := L.len
  have g0 : h.1.length ≤ 1000000 := by omega
  have nl : ¬ nI n - 8 < nI b := fun q => by
    rw [show (8 : Int32) = nI 8 from rfl, pk_sub (by omega)] at q
    exact nI_nlt (by omega) (by omega) q
  have br := lw_48 (d := d + 51) (lenX hX g0) nl (rdX hX g0 (by omega) hn) hk
  obtain ⟨rv, h1, h2, e1, e2, I2, G⟩ := st_gap (X := X) (d := d + 1) I (f (b + 1))
  have L2 := L.next I2 G
  have len2 := L2.len
  have l2 : h2.1 = h1.1 := keep rfl e2
  have g1 : h1.1.length ≤ 1000000 := by rw [← l2]; omega
  refine ⟨h2, ?_, L2⟩
  rw [br, rdB_1 hX hn hb g0, is_0 w, e1, av_cI_r, Option.bind_some]
  dsimp only
  rw [rdB_1 hX hn hb g1, is_137' I2.w l2, e2, av_cI_r, Option.bind_some]
  dsimp only
  rw [if_pos rfl]
theorem lb_49 (xt : XT X) (hX : X 1000000 = some (n, f)) (hn : n ≤ 4096) {K b : Nat} (hb : b + 8 ≤ n) (hK : K < 1000) {h : av_H} (L : LI K h) (hk : f b &&& 63 = 49) : ∃ h2, bd X (d + 51) 384 13 [(0, vr (some 1000000)), (1, vr (some 0)), (2, vr (some 137)), (3, vr (some 225)), (4, vi (nI b))] [] h = bd X (d + 51) 384 13 [(0, vr (some 1000000)), (1, vr (some 0)), (2, vr (some 137)), (3, vr (some 225)), (4, vi (nI b + (8 : Int32)))] [] h2 ∧ LI (K + 1) h2 := by
  have I := L.1
  have w : WF h := I.w
  have len := L.len
  have g0 : h.1.length ≤ 1000000 := by omega
  have nl : ¬ nI n - 8 < nI b := fun q => by
    rw [show (8 : Int32) = nI 8 from rfl, pk_sub (by omega)] at q
    exact nI_nlt (by omega) (by omega) q
  have br := lw_49 (d := d + 51) (lenX hX g0) nl (rdX hX g0 (by omega) hn) hk
  obtain ⟨rv, h1, h2, e1, e2, I2, G⟩ := st_row (X := X) (d := d + 1) I (f (b + 1)) (f (b + 2)) (f (b + 3)) (f (b + 4)) (f (b + 5)) (f (b + 6)) (f (b + 7))
  have L2 := L.next I2 G
  have len2 := L2.len
  have l2 : h2.1 = h1.1 := keep rfl e2
  have g1 : h1.1.length ≤ 1000000 := by rw [← l2]; omega
  refine ⟨h2, ?_, L2⟩
  rw [br, rdB_1 hX hn hb g0, rdB_2 hX hn hb g0, rdB_3 hX hn hb g0, rdB_4 hX hn hb g0, rdB_5 hX hn hb g0, rdB_6 hX hn hb g0, rdB_7 hX hn hb g0, is_0 w, e1, av_cI_r, Option.bind_some]
  dsimp only
  rw [rdB_1 hX hn hb g1, rdB_2 hX hn hb g1, rdB_3 hX hn hb g1, rdB_4 hX hn hb g1, rdB_5 hX hn hb g1, rdB_6 hX hn hb g1, rdB_7 hX hn hb g1, is_137' I2.w l2, e2, av_cI_r, Option.bind_some]
  dsimp only
  rw [if_pos rfl]
theorem lb_50 (xt : XT X) (hX : X 1000000 = some (n, f)) (hn : n ≤ 4096) {K b : Nat} (hb : b + 8 ≤ n) (hK : K < 1000) {h : av_H} (L : LI K h) (hk : f b &&& 63 = 50) : ∃ h2, bd X (d + 51) 384 13 [(0, vr (some 1000000)), (1, vr (some 0)), (2, vr (some 137)), (3, vr (some 225)), (4, vi (nI b))] [] h = bd X (d + 51) 384 13 [(0, vr (some 1000000)), (1, vr (some 0)), (2, vr (some 137)), (3, vr (some 225)), (4, vi (nI b + (8 : Int32)))] [] h2 ∧ LI (K + 1) h2 := by
  have I := L.1
  have w : WF h := I.w
  have len := L.len
  have g0 : h.1.length ≤ 1000000 := by omega
  have nl : ¬ nI n - 8 < nI b := fun q => by
    rw [show (8 : Int32) = nI 8 from rfl, pk_sub (by omega)] at q
    exact nI_nlt (by omega) (by omega) q
  have br := lw_50 (d := d + 51) (lenX hX g0) nl (rdX hX g0 (by omega) hn) hk
  obtain ⟨rv, h1, h2, e1, e2, I2, G⟩ := st_clear (X := X) (d := d + 1) I 
  have L2 := L.next I2 G
  have len2 := L2.len
  have l2 : h2.1 = h1.1 := keep rfl e2
  have g1 : h1.1.length ≤ 1000000 := by rw [← l2]; omega
  refine ⟨h2, ?_, L2⟩
  rw [br, is_0 w, e1, av_cI_r, Option.bind_some]
  dsimp only
  rw [is_137' I2.w l2, e2, av_cI_r, Option.bind_some]
  dsimp only
  rw [if_pos rfl]
theorem lb_51 (xt : XT X) (hX : X 1000000 = some (n, f)) (hn : n ≤ 4096) {K b : Nat} (hb : b + 8 ≤ n) (hK : K < 1000) {h : av_H} (L : LI K h) (hk : f b &&& 63 = 51) : ∃ h2, bd X (d + 51) 384 13 [(0, vr (some 1000000)), (1, vr (some 0)), (2, vr (some 137)), (3, vr (some 225)), (4, vi (nI b))] [] h = bd X (d + 51) 384 13 [(0, vr (some 1000000)), (1, vr (some 0)), (2, vr (some 137)), (3, vr (some 225)), (4, vi (nI b + (8 : Int32)))] [] h2 ∧ LI (K + 1) h2 := by
  have I := L.1
  have w : WF h := I.w
  have len := L.len
  have g0 : h.1.length ≤ 1000000 := by omega
  have nl : ¬ nI n - 8 < nI b := fun q => by
    rw [show (8 : Int32) = nI 8 from rfl, pk_sub (by omega)] at q
    exact nI_nlt (by omega) (by omega) q
  have br := lw_51 (d := d + 51) (lenX hX g0) nl (rdX hX g0 (by omega) hn) hk
  obtain ⟨k, hh, e1, w1, rv, h2, e2, z0, zy, I2, G⟩ := st_tried (X := X) (d := d) I (f (b + 1))
  have L2 := L.next I2 G
  have len2 := L2.len
  have l2 : h2.1 = hh.1 := keep rfl e2
  have g1 : hh.1.length ≤ 1000000 := by rw [← l2]; omega
  refine ⟨h2, ?_, L2⟩
  rw [br, rdB_1 hX hn hb g0, e1, av_cI_r, Option.bind_some]
  dsimp only
  rw [rdB_1 hX hn hb g1, is_137 w1, e2, av_cL_r, Option.bind_some]
  dsimp only
  rw [is_137 I2.w, s_thrown (d := d + 50) I2.w, av_cI_r, Option.bind_some]
  dsimp only
  rw [if_pos z0]
  by_cases q : k = 0
  · rw [if_pos q, lL_225 I2.w, zy q, if_pos (show lg_cmp _ _ = 0 by rw [lg_cmp_eq])]
  · rw [if_neg q]
theorem lb_52 (xt : XT X) (hX : X 1000000 = some (n, f)) (hn : n ≤ 4096) {K b : Nat} (hb : b + 8 ≤ n) (hK : K < 1000) {h : av_H} (L : LI K h) (hk : f b &&& 63 = 52) : ∃ h2, bd X (d + 51) 384 13 [(0, vr (some 1000000)), (1, vr (some 0)), (2, vr (some 137)), (3, vr (some 225)), (4, vi (nI b))] [] h = bd X (d + 51) 384 13 [(0, vr (some 1000000)), (1, vr (some 0)), (2, vr (some 137)), (3, vr (some 225)), (4, vi (nI b + (8 : Int32)))] [] h2 ∧ LI (K + 1) h2 := by
  have I := L.1
  have w : WF h := I.w
  have len := L.len
  have g0 : h.1.length ≤ 1000000 := by omega
  have nl : ¬ nI n - 8 < nI b := fun q => by
    rw [show (8 : Int32) = nI 8 from rfl, pk_sub (by omega)] at q
    exact nI_nlt (by omega) (by omega) q
  have br := lw_52 (d := d + 51) (lenX hX g0) nl (rdX hX g0 (by omega) hn) hk
  obtain ⟨rv, h1, h2, e1, e2, I2, G⟩ := st_came (X := X) (d := d + 1) I (f (b + 1)) (f (b + 2)) (!decide (f (b + 3) = 0))
  have L2 := L.next I2 G
  have len2 := L2.len
  have l2 : h2.1 = h1.1 := keep rfl e2
  have g1 : h1.1.length ≤ 1000000 := by rw [← l2]; omega
  refine ⟨h2, ?_, L2⟩
  by_cases z : f (b + 3) = 0
  · rw [← show (0 : Int32) = _ from lwB_0 z] at e1 e2
    rw [br, rdB_1 hX hn hb g0, rdB_2 hX hn hb g0, rdB_3 hX hn hb g0, if_pos z, b_384_2231, is_0 w, e1, av_cI_r, Option.bind_some]
    dsimp only
    rw [rdB_1 hX hn hb g1, rdB_2 hX hn hb g1, rdB_3 hX hn hb g1, if_pos z, b_384_2252, is_137' I2.w l2, e2, av_cI_r, Option.bind_some]
    dsimp only
    rw [if_pos rfl]
  · rw [← show (1 : Int32) = _ from lwB_1 z] at e1 e2
    rw [br, rdB_1 hX hn hb g0, rdB_2 hX hn hb g0, rdB_3 hX hn hb g0, if_neg z, b_384_2231, is_0 w, e1, av_cI_r, Option.bind_some]
    dsimp only
    rw [rdB_1 hX hn hb g1, rdB_2 hX hn hb g1, rdB_3 hX hn hb g1, if_neg z, b_384_2252, is_137' I2.w l2, e2, av_cI_r, Option.bind_some]
    dsimp only
    rw [if_pos rfl]
theorem lb_53 (xt : XT X) (hX : X 1000000 = some (n, f)) (hn : n ≤ 4096) {K b : Nat} (hb : b + 8 ≤ n) (hK : K < 1000) {h : av_H} (L : LI K h) (hk : f b &&& 63 = 53) : ∃ h2, bd X (d + 51) 384 13 [(0, vr (some 1000000)), (1, vr (some 0)), (2, vr (some 137)), (3, vr (some 225)), (4, vi (nI b))] [] h = bd X (d + 51) 384 13 [(0, vr (some 1000000)), (1, vr (some 0)), (2, vr (some 137)), (3, vr (some 225)), (4, vi (nI b + (8 : Int32)))] [] h2 ∧ LI (K + 1) h2 := by
  have I := L.1
  have w : WF h := I.w
  have len := L.len
  have g0 : h.1.length ≤ 1000000 := by omega
  have nl : ¬ nI n - 8 < nI b := fun q => by
    rw [show (8 : Int32) = nI 8 from rfl, pk_sub (by omega)] at q
    exact nI_nlt (by omega) (by omega) q
  have br := lw_53 (d := d + 51) (lenX hX g0) nl (rdX hX g0 (by omega) hn) hk
  obtain ⟨rv, h1, h2, e1, e2, I2, G⟩ := st_hindsight (X := X) (d := d + 1) I (by omega) xt (f (b + 1))
  have L2 := L.next I2 G
  have len2 := L2.len
  have l2 : h2.1 = h1.1 := keep rfl e2
  have g1 : h1.1.length ≤ 1000000 := by rw [← l2]; omega
  refine ⟨h2, ?_, L2⟩
  rw [br, rdB_1 hX hn hb g0, is_0 w, e1, av_cI_r, Option.bind_some]
  dsimp only
  rw [rdB_1 hX hn hb g1, is_137' I2.w l2, e2, av_cI_r, Option.bind_some]
  dsimp only
  rw [if_pos rfl]
theorem lb_54 (xt : XT X) (hX : X 1000000 = some (n, f)) (hn : n ≤ 4096) {K b : Nat} (hb : b + 8 ≤ n) (hK : K < 1000) {h : av_H} (L : LI K h) (hk : f b &&& 63 = 54) : ∃ h2, bd X (d + 51) 384 13 [(0, vr (some 1000000)), (1, vr (some 0)), (2, vr (some 137)), (3, vr (some 225)), (4, vi (nI b))] [] h = bd X (d + 51) 384 13 [(0, vr (some 1000000)), (1, vr (some 0)), (2, vr (some 137)), (3, vr (some 225)), (4, vi (nI b + (8 : Int32)))] [] h2 ∧ LI (K + 1) h2 := by
  have I := L.1
  have w : WF h := I.w
  have len := L.len
  have g0 : h.1.length ≤ 1000000 := by omega
  have nl : ¬ nI n - 8 < nI b := fun q => by
    rw [show (8 : Int32) = nI 8 from rfl, pk_sub (by omega)] at q
    exact nI_nlt (by omega) (by omega) q
  have br := lw_54 (d := d + 51) (lenX hX g0) nl (rdX hX g0 (by omega) hn) hk
  obtain ⟨rv, h1, h2, e1, e2, I2, G⟩ := st_mark (X := X) (d := d + 1) I (by omega) (f (b + 1)) (bI (!decide (f (b + 2) = 0)))
  have L2 := L.next I2 G
  have len2 := L2.len
  have l2 : h2.1 = h1.1 := keep rfl e2
  have g1 : h1.1.length ≤ 1000000 := by rw [← l2]; omega
  refine ⟨h2, ?_, L2⟩
  by_cases z : f (b + 2) = 0
  · rw [← show (0 : Int32) = _ from lwB_0 z] at e1 e2
    rw [br, rdB_1 hX hn hb g0, rdB_2 hX hn hb g0, if_pos z, b_384_2288, is_0 w, e1, av_cI_r, Option.bind_some]
    dsimp only
    rw [rdB_1 hX hn hb g1, rdB_2 hX hn hb g1, if_pos z, b_384_2304, is_137' I2.w l2, e2, av_cI_r, Option.bind_some]
    dsimp only
    rw [if_pos rfl]
  · rw [← show (1 : Int32) = _ from lwB_1 z] at e1 e2
    rw [br, rdB_1 hX hn hb g0, rdB_2 hX hn hb g0, if_neg z, b_384_2288, is_0 w, e1, av_cI_r, Option.bind_some]
    dsimp only
    rw [rdB_1 hX hn hb g1, rdB_2 hX hn hb g1, if_neg z, b_384_2304, is_137' I2.w l2, e2, av_cI_r, Option.bind_some]
    dsimp only
    rw [if_pos rfl]
theorem lb_55 (xt : XT X) (hX : X 1000000 = some (n, f)) (hn : n ≤ 4096) {K b : Nat} (hb : b + 8 ≤ n) (hK : K < 1000) {h : av_H} (L : LI K h) (hk : f b &&& 63 = 55) : ∃ h2, bd X (d + 51) 384 13 [(0, vr (some 1000000)), (1, vr (some 0)), (2, vr (some 137)), (3, vr (some 225)), (4, vi (nI b))] [] h = bd X (d + 51) 384 13 [(0, vr (some 1000000)), (1, vr (some 0)), (2, vr (some 137)), (3, vr (some 225)), (4, vi (nI b + (8 : Int32)))] [] h2 ∧ LI (K + 1) h2 := by
  have I := L.1
  have w : WF h := I.w
  have len := L.len
  have g0 : h.1.length ≤ 1000000 := by omega
  have nl : ¬ nI n - 8 < nI b := fun q => by
    rw [show (8 : Int32) = nI 8 from rfl, pk_sub (by omega)] at q
    exact nI_nlt (by omega) (by omega) q
  have br := lw_55 (d := d + 51) (lenX hX g0) nl (rdX hX g0 (by omega) hn) hk
  obtain ⟨rv, h1, h2, e1, e2, I2, G⟩ := st_count (X := X) (d := d + 1) I (f (b + 1))
  have L2 := L.next I2 G
  have len2 := L2.len
  have l2 : h2.1 = h1.1 := keep rfl e2
  have g1 : h1.1.length ≤ 1000000 := by rw [← l2]; omega
  refine ⟨h2, ?_, L2⟩
  rw [br, rdB_1 hX hn hb g0, is_0 w, e1, av_cI_r, Option.bind_some]
  dsimp only
  rw [rdB_1 hX hn hb g1, is_137' I2.w l2, e2, av_cI_r, Option.bind_some]
  dsimp only
  rw [if_pos rfl]
theorem and63 (x : Int32) : ∃ k, k < 64 ∧ x &&& 63 = nI k := by
  refine ⟨(x &&& 63).toBitVec.toNat, ?_, ?_⟩
  · rw [Int32.toBitVec_and, BitVec.toNat_and]
    exact Nat.lt_of_le_of_lt Nat.and_le_right (by decide)
  · apply Int32.toBitVec_inj.mp
    show _ = BitVec.ofNat 32 _
    rw [BitVec.ofNat_toNat, BitVec.setWidth_eq]
theorem lw_go (xt : XT X) (hX : X 1000000 = some (n, f)) (hn : n ≤ 4096) : ∀ m i h, n < 8 * (i + m) + 8 → i + m ≤ 512 → LI i h → ∃ h' K', bd X (d + 51) 384 13 [(0, vr (some 1000000)), (1, vr (some 0)), (2, vr (some 137)), (3, vr (some 225)), (4, vi (nI (8 * i)))] [] h = av_rI 1 h' ∧ LI K' h' ∧ K' ≤ 512 := by
  intro m
  induction m with
  | zero =>
    intro i h h1 h2 L
    have len := L.len
    refine ⟨h, i, lw_end (lenX hX (by omega)) ?_, L, by omega⟩
    rw [show (8 : Int32) = nI 8 from rfl, i_lt, pk_sub_toInt (by omega) (by omega), toI_nI (by omega)]
    omega
  | succ m ih =>
    intro i h h1 h2 L
    have len := L.len
    by_cases z : 8 * i + 8 ≤ n
    · have go : ∀ h2, bd X (d + 51) 384 13 [(0, vr (some 1000000)), (1, vr (some 0)), (2, vr (some 137)), (3, vr (some 225)), (4, vi (nI (8 * i)))] [] h = bd X (d + 51) 384 13 [(0, vr (some 1000000)), (1, vr (some 0)), (2, vr (some 137)), (3, vr (some 225)), (4, vi (nI (8 * i) + (8 : Int32)))] [] h2 → LI (i + 1) h2 → ∃ h' K', bd X (d + 51) 384 13 [(0, vr (some 1000000)), (1, vr (some 0)), (2, vr (some 137)), (3, vr (some 225)), (4, vi (nI (8 * i)))] [] h = av_rI 1 h' ∧ LI K' h' ∧ K' ≤ 512 := fun h2 e L2 => by
        obtain ⟨h', K', e', r⟩ := ih (i + 1) h2 (by omega) (by omega) L2
        refine ⟨h', K', ?_, r⟩
        rw [e, ← e', show (8 : Int32) = nI 8 from rfl, nI_add, show 8 * i + 8 = 8 * (i + 1) by omega]
      obtain ⟨k, k64, hk⟩ := and63 (f (8 * i))
      by_cases k56 : k < 56
      · have : ∃ h2, bd X (d + 51) 384 13 [(0, vr (some 1000000)), (1, vr (some 0)), (2, vr (some 137)), (3, vr (some 225)), (4, vi (nI (8 * i)))] [] h = bd X (d + 51) 384 13 [(0, vr (some 1000000)), (1, vr (some 0)), (2, vr (some 137)), (3, vr (some 225)), (4, vi (nI (8 * i) + (8 : Int32)))] [] h2 ∧ LI (i + 1) h2 := by
          match k, k56, hk with
          | 0, _, hk => exact lb_0 xt hX hn z (by omega) L hk
          | 1, _, hk => exact lb_1 xt hX hn z (by omega) L hk
          | 2, _, hk => exact lb_2 xt hX hn z (by omega) L hk
          | 3, _, hk => exact lb_3 xt hX hn z (by omega) L hk
          | 4, _, hk => exact lb_4 xt hX hn z (by omega) L hk
          | 5, _, hk => exact lb_5 xt hX hn z (by omega) L hk
          | 6, _, hk => exact lb_6 xt hX hn z (by omega) L hk
          | 7, _, hk => exact lb_7 xt hX hn z (by omega) L hk
          | 8, _, hk => exact lb_8 xt hX hn z (by omega) L hk
          | 9, _, hk => exact lb_9 xt hX hn z (by omega) L hk
          | 10, _, hk => exact lb_10 xt hX hn z (by omega) L hk
          | 11, _, hk => exact lb_11 xt hX hn z (by omega) L hk
          | 12, _, hk => exact lb_12 xt hX hn z (by omega) L hk
          | 13, _, hk => exact lb_13 xt hX hn z (by omega) L hk
          | 14, _, hk => exact lb_14 xt hX hn z (by omega) L hk
          | 15, _, hk => exact lb_15 xt hX hn z (by omega) L hk
          | 16, _, hk => exact lb_16 xt hX hn z (by omega) L hk
          | 17, _, hk => exact lb_17 xt hX hn z (by omega) L hk
          | 18, _, hk => exact lb_18 xt hX hn z (by omega) L hk
          | 19, _, hk => exact lb_19 xt hX hn z (by omega) L hk
          | 20, _, hk => exact lb_20 xt hX hn z (by omega) L hk
          | 21, _, hk => exact lb_21 xt hX hn z (by omega) L hk
          | 22, _, hk => exact lb_22 xt hX hn z (by omega) L hk
          | 23, _, hk => exact lb_23 xt hX hn z (by omega) L hk
          | 24, _, hk => exact lb_24 xt hX hn z (by omega) L hk
          | 25, _, hk => exact lb_25 xt hX hn z (by omega) L hk
          | 26, _, hk => exact lb_26 xt hX hn z (by omega) L hk
          | 27, _, hk => exact lb_27 xt hX hn z (by omega) L hk
          | 28, _, hk => exact lb_28 xt hX hn z (by omega) L hk
          | 29, _, hk => exact lb_29 xt hX hn z (by omega) L hk
          | 30, _, hk => exact lb_30 xt hX hn z (by omega) L hk
          | 31, _, hk => exact lb_31 xt hX hn z (by omega) L hk
          | 32, _, hk => exact lb_32 xt hX hn z (by omega) L hk
          | 33, _, hk => exact lb_33 xt hX hn z (by omega) L hk
          | 34, _, hk => exact lb_34 xt hX hn z (by omega) L hk
          | 35, _, hk => exact lb_35 xt hX hn z (by omega) L hk
          | 36, _, hk => exact lb_36 xt hX hn z (by omega) L hk
          | 37, _, hk => exact lb_37 xt hX hn z (by omega) L hk
          | 38, _, hk => exact lb_38 xt hX hn z (by omega) L hk
          | 39, _, hk => exact lb_39 xt hX hn z (by omega) L hk
          | 40, _, hk => exact lb_40 xt hX hn z (by omega) L hk
          | 41, _, hk => exact lb_41 xt hX hn z (by omega) L hk
          | 42, _, hk => exact lb_42 xt hX hn z (by omega) L hk
          | 43, _, hk => exact lb_43 xt hX hn z (by omega) L hk
          | 44, _, hk => exact lb_44 xt hX hn z (by omega) L hk
          | 45, _, hk => exact lb_45 xt hX hn z (by omega) L hk
          | 46, _, hk => exact lb_46 xt hX hn z (by omega) L hk
          | 47, _, hk => exact lb_47 xt hX hn z (by omega) L hk
          | 48, _, hk => exact lb_48 xt hX hn z (by omega) L hk
          | 49, _, hk => exact lb_49 xt hX hn z (by omega) L hk
          | 50, _, hk => exact lb_50 xt hX hn z (by omega) L hk
          | 51, _, hk => exact lb_51 xt hX hn z (by omega) L hk
          | 52, _, hk => exact lb_52 xt hX hn z (by omega) L hk
          | 53, _, hk => exact lb_53 xt hX hn z (by omega) L hk
          | 54, _, hk => exact lb_54 xt hX hn z (by omega) L hk
          | 55, _, hk => exact lb_55 xt hX hn z (by omega) L hk
          | k + 56, h56, _ => exact absurd h56 (by omega)
        obtain ⟨h2, e2, L2⟩ := this
        exact go h2 e2 L2
      · refine go h ?_ (L.next (L.1.up (Nat.le_succ i)) (Or.inl rfl))
        refine lw_no (lenX hX (by omega)) (fun q => ?_) (rdX hX (by omega) (by omega) hn) (fun k' h56 q => ?_)
        · rw [show (8 : Int32) = nI 8 from rfl, pk_sub (by omega)] at q
          exact nI_nlt (by omega) (by omega) q
        · rw [hk] at q
          have := (nI_eq (by omega) (by omega)).mp q
          omega
    · refine ⟨h, i, lw_end (lenX hX (by omega)) ?_, L, by omega⟩
      rw [show (8 : Int32) = nI 8 from rfl, i_lt, pk_sub_toInt (by omega) (by omega), toI_nI (by omega)]
      omega
end
