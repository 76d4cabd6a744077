/-! a drop is kept: the class; the panes that the reference marks as washed -/
/-- washedOn, behind the first k bits -/
def wsW (f : Nat → Int32) (N t s x e : Nat) : Nat → Nat → Int32
  | 0 => f
  | k + 1 => if N.testBit k = true then upd (wsW f N t s x e k) (((4 * t + s) * 12 + k / 4) * 10 + (x + k % 4)) (nI e) else wsW f N t s x e k
section
variable {X : av_X} {d : Nat} {h : av_H}
theorem c_keep (w : WF h) {m tw V : Nat} {D : Nat → Nat} (hm : m < 60) (h17 : h.2.1 0 17 = nI m) (e0 : h.2.1 (77 + m) 0 = nI (D 0)) (e15 : h.2.1 (77 + m) 15 = nI (D 15)) (t6 : D 0 < 6) (hj : h.2.2.2 1 (D 0) = some tw) (a226 : 226 ≤ tw) (k1 : h.1[tw]? = some (9, 0)) (r9 : h.2.1 tw 4 = nI V) : ev X (d + 1) 216 [vr (some 0)] h = av_rI (nI m) (av_uI (av_uI h tw 4 (nI (V + D 15))) 0 17 (nI (m + 1))) := by
  have w1 : WF (av_uI h tw 4 (nI (V + D 15))) := w
  have w2 : WF (av_uI (av_uI h tw 4 (nI (V + D 15))) 0 17 (nI (m + 1))) := w
  have h17' : (av_uI h tw 4 (nI (V + D 15))).2.1 0 17 = nI m := by rw [uI_ne (by omega)]; exact h17
  rw [e_216, b_216_0, gR_0_13 w, gIv_0_17 w h17, dr_l w hm, gR_0_0 w, dr_v w hm e0, ld1v w t6 hj, tw_gIv k1 r9, dr_v w hm e15, nI_add, tw_pI k1, gIv_0_17 w1 h17', nI_1, pI_0 w1, gIv_0_17 w2 uI_eq, nI_pred]
theorem ws_lp (w : WF h) {m t s x e N : Nat} {v8 : Int32} (t6 : t < 6) (s4 : s < 4) (he : e < 100) (hN : N < 2 ^ 48) (nb : ∀ c, c < 4 → ∀ f, f < 12 → N.testBit (4 * f + c) = true → x + c < 10) (h45 : h.2.1 137 45 = nI m) : ∀ n k, k + n = 48 → bd X (d + 1) 299 195 [(0, vr (some 137)), (1, vi (nI t)), (2, vi (nI s)), (3, vi (nI x)), (4, vi (nI e)), (8, vi v8), (9, vl (lN N)), (11, vi (nI k))] [] (setC h 146 (wsW (h.2.1 146) N t s x e k)) = av_rI v8 (av_uI (setC h 146 (wsW (h.2.1 146) N t s x e 48)) 137 45 (nI (m + 1)))
  | 0, k, hk => by
    obtain rfl : k = 48 := by omega
    have w' : WF (setC h 146 (wsW (h.2.1 146) N t s x e 48)) := w
    have e45 : (setC h 146 (wsW (h.2.1 146) N t s x e 48)).2.1 137 45 = nI m := by rw [setC_ne (by decide)]; exact h45
    rw [b_299_195, if_neg (by decide), gIv_137_45 w' e45, nI_1, pI_137 w']
  | n + 1, k, hk => by
    have w' : WF (setC h 146 (wsW (h.2.1 146) N t s x e k)) := w
    have ih := ws_lp w (v8 := v8) t6 s4 he hN nb h45 n (k + 1) (by omega)
    rw [b_299_195, if_pos (show nI k < (48 : Int32) from nI_lt (b := 48) (by omega) (by omega)), nI_1]
    simp only [bitL (show N < 2 ^ 62 by omega) (show k < 64 by omega)]
    by_cases q : N.testBit k = true
    · have q' := q
      rw [show k = 4 * (k / 4) + k % 4 by omega] at q'
      have xc := nb (k % 4) (by omega) (k / 4) (by omega) q'
      rw [wsW, if_pos q] at ih
      rw [if_pos q, gR_137_13 w', if_neg (by decide), if_neg (by decide), show (4 : Int32) = nI 4 from rfl, pk_div (by omega) (by omega) (by omega), pk_mul, pk_sub (by omega), nI_add, show k - k / 4 * 4 = k % 4 by omega, s_paneOf', st_146 w' (by omega), setC_u]
      exact ih
    · rw [wsW, if_neg q] at ih
      rw [if_neg q]
      exact ih
end
