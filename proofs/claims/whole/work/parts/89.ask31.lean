/-! a drop asked for, by the class -/
theorem whV_eq (b1 b2 b3 b4 b5 b6 b7 b8 : Bool) (r : Int32) : whV b1 b2 b3 b4 b5 b6 b7 b8 r = if wg7 b1 b2 b3 b4 b5 b6 b7 = 0 then (if b8 = true then 8 else r) else wg7 b1 b2 b3 b4 b5 b6 b7 := by
  unfold whV wg7
  cases b1
  · cases b2
    · cases b3
      · cases b4
        · cases b5
          · cases b6
            · cases b7
              · rfl
              · rfl
            · rfl
          · rfl
        · rfl
      · rfl
    · rfl
  · rfl
theorem wg7_00 : ∀ b1 b2 b3 b4 b5 b6 b7 : Bool, wg7 b1 b2 b3 b4 b5 b6 b7 = 0 → b1 = false ∧ b2 = false ∧ b3 = false ∧ b4 = false ∧ b5 = false ∧ b6 = false ∧ b7 = false := by
  intro b1 b2 b3 b4 b5 b6 b7
  cases b1 <;> cases b2 <;> cases b3 <;> cases b4 <;> cases b5 <;> cases b6 <;> cases b7 <;> decide
theorem wg7_0 {b1 b2 b3 b4 b5 b6 b7 : Bool} (z : wg7 b1 b2 b3 b4 b5 b6 b7 = 0) : b1 = false ∧ b2 = false ∧ b3 = false ∧ b4 = false ∧ b5 = false ∧ b6 = false ∧ b7 = false := wg7_00 _ _ _ _ _ _ _ z
/-- the fields of an asked drop -/
def dF (t s x F e k H r a b ya yb pn V ag wr pr wa : Nat) : Nat → Nat
  | 0 => t
  | 1 => s
  | 2 => x
  | 3 => F
  | 4 => e
  | 5 => k
  | 6 => H
  | 7 => r
  | 8 => a
  | 9 => b
  | 10 => ya
  | 11 => yb
  | 12 => pn
  | 13 => V
  | 14 => ag
  | 15 => wr
  | 16 => pr
  | _ => wa
theorem drB_y {x : Int32} {e dd : Nat} (q : drB x e dd = true) (xx : x = -1 ∨ ∃ y, y < 100 ∧ x = nI y) : x = nI x.toNatClampNeg ∧ x.toNatClampNeg < 100 := by
  rcases xx with rfl | ⟨y, hy, rfl⟩
  · rw [drB] at q
    cases q
  · rw [nI_clamp (by omega)]
    exact ⟨rfl, hy⟩
section
variable {X : av_X} {d : Nat} {h : av_H}
/-- the drop is laid behind the ones made -/
def lay9 (h : av_H) (m t s x e k a b : Nat) (xa xb : Int32) : av_H := av_uI (av_uI (av_uI (av_uI (av_uI (av_uI (av_uI (av_uI (av_uI h (77 + m) 0 (nI t)) (77 + m) 1 (nI s)) (77 + m) 2 (nI x)) (77 + m) 4 (nI e)) (77 + m) 5 (nI k)) (77 + m) 8 (nI a)) (77 + m) 9 (nI b)) (77 + m) 10 xa) (77 + m) 11 xb
theorem lay9_t (w : WF h) {m t s x e k a b : Nat} {xa xb : Int32} : tA m h (lay9 h m t s x e k a b xa xb) := (((((((((show tA m h h from ⟨w, agr.rfl⟩).w).w).w).w).w).w).w).w).w
theorem lay9_f {m t s x e k a b : Nat} {xa xb : Int32} : (lay9 h m t s x e k a b xa xb).2.1 (77 + m) 0 = nI t ∧ (lay9 h m t s x e k a b xa xb).2.1 (77 + m) 1 = nI s ∧ (lay9 h m t s x e k a b xa xb).2.1 (77 + m) 2 = nI x ∧ (lay9 h m t s x e k a b xa xb).2.1 (77 + m) 4 = nI e ∧ (lay9 h m t s x e k a b xa xb).2.1 (77 + m) 5 = nI k ∧ (lay9 h m t s x e k a b xa xb).2.1 (77 + m) 8 = nI a ∧ (lay9 h m t s x e k a b xa xb).2.1 (77 + m) 9 = nI b ∧ (lay9 h m t s x e k a b xa xb).2.1 (77 + m) 10 = xa ∧ (lay9 h m t s x e k a b xa xb).2.1 (77 + m) 11 = xb := by
  refine ⟨?_, ?_, ?_, ?_, ?_, ?_, ?_, ?_, ?_⟩ <;> simp [lay9, av_uI, va_up, upd]
theorem c_lay (w : WF h) {m t s x e k a b tw : Nat} {D : Nat → Nat → Nat} {M : Nat → Nat} {xa xb : Int32} (Dc : DC h m D M) (hm : m < 60) (t6 : t < 6) (a10 : a < 10) (b10 : b < 10) (hj : h.2.2.2 1 t = some tw) (hxa : h.2.1 28 a = xa) (hxb : h.2.1 28 b = xb) : bd X (d + 5) 203 31 [(0, vr (some 0)), (1, vi (nI t)), (2, vi (nI s)), (3, vi (nI x)), (4, vi (nI e)), (5, vi (nI k)), (6, vi (nI a)), (7, vi (nI b))] [] h = (av_cV (ev X (d + 5) 204 [vr (some 0), vr (some (77 + m)), vr (some tw)] (lay9 h m t s x e k a b xa xb))).bind fun q19 => (av_gR q19 (some 0) 10 0).bind fun x20 => (av_lR q19 x20 104 (nI t)).bind fun x21 => if av_is q19 (some 0) 10 = true then ((av_cI (ev X (d + 5) 206 [vr (some 0), vr (some (77 + m)), vr x21] q19)).bind fun q22 => if q22.1 = 0 then ((av_gR q22.2 (some 0) 10 0).bind fun x23 => (av_lR q22.2 x23 104 (nI t)).bind fun x24 => if av_is q22.2 (some 0) 10 = true then ((av_cI (ev X (d + 5) 207 [vr (some 0), vr (some (77 + m)), vr x24] q22.2)).bind fun q25 => av_rI q25.1 q25.2) else none) else av_rI q22.1 q22.2) else none := by
  have w1 : ∀ (g : av_H) (j : Nat) (v : Int32), WF g → WF (av_uI g (77 + m) j v) := fun _ _ _ z => z
  have n28 : (28 : Nat) ≠ 77 + m := by omega
  have wl : WF (lay9 h m t s x e k a b xa xb) := (lay9_t w).1
  have wl8 : WF (av_uI (av_uI (av_uI (av_uI (av_uI (av_uI (av_uI h (77 + m) 0 (nI t)) (77 + m) 1 (nI s)) (77 + m) 2 (nI x)) (77 + m) 4 (nI e)) (77 + m) 5 (nI k)) (77 + m) 8 (nI a)) (77 + m) 9 (nI b)) := w
  have wl9 : WF (av_uI (av_uI (av_uI (av_uI (av_uI (av_uI (av_uI (av_uI h (77 + m) 0 (nI t)) (77 + m) 1 (nI s)) (77 + m) 2 (nI x)) (77 + m) 4 (nI e)) (77 + m) 5 (nI k)) (77 + m) 8 (nI a)) (77 + m) 9 (nI b)) (77 + m) 10 xa) := w
  rw [b_203_31, gR_0_13 w, gIv_0_17 w Dc.1, dr_l w hm, dr_is w hm, e_1, b_1_0, dr_p w hm, dr_p (w1 _ _ _ w) hm, dr_p (w1 _ _ _ (w1 _ _ _ w)) hm, av_cV_r, Option.bind_some, dr_p (w1 _ _ _ (w1 _ _ _ (w1 _ _ _ w))) hm, dr_p (w1 _ _ _ (w1 _ _ _ (w1 _ _ _ (w1 _ _ _ w)))) hm, dr_p (w1 _ _ _ (w1 _ _ _ (w1 _ _ _ (w1 _ _ _ (w1 _ _ _ w))))) hm, dr_p (w1 _ _ _ (w1 _ _ _ (w1 _ _ _ (w1 _ _ _ (w1 _ _ _ (w1 _ _ _ w)))))) hm, gR_0_6 wl8, gR_27_0 wl8, ld_28 wl8 a10, uI_ne n28, uI_ne n28, uI_ne n28, uI_ne n28, uI_ne n28, uI_ne n28, uI_ne n28, hxa, dr_p wl8 hm, gR_0_6 wl9, gR_27_0 wl9, ld_28 wl9 b10, uI_ne n28, uI_ne n28, uI_ne n28, uI_ne n28, uI_ne n28, uI_ne n28, uI_ne n28, uI_ne n28, hxb, dr_p wl9 hm]
  have fold : av_uI (av_uI (av_uI (av_uI (av_uI (av_uI (av_uI (av_uI (av_uI h (77 + m) 0 (nI t)) (77 + m) 1 (nI s)) (77 + m) 2 (nI x)) (77 + m) 4 (nI e)) (77 + m) 5 (nI k)) (77 + m) 8 (nI a)) (77 + m) 9 (nI b)) (77 + m) 10 xa) (77 + m) 11 xb = lay9 h m t s x e k a b xa xb := rfl
  rw [fold, gR_0_0 wl, ld1v wl t6 (show (lay9 h m t s x e k a b xa xb).2.2.2 1 t = some tw from hj), is_0 wl]
end
