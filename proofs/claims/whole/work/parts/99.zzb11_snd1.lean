/-! what an abstract heap says of a heap: cell a lies at B + a -/
def av_vl (f : Nat → Nat) (v : av_V) : Value := match v with
  | .inl x => .int x
  | .inr (.inl x) => .long x
  | .inr (.inr r) => va_rf (r.map f)
def av_kd (d : String) : Nat := if d = "I" then 0 else if d = "Z" then 0 else if d = "J" then 1 else 2
def av_fv (f : Nat → Nat) (T : u_T) (h : av_H) (a k : Nat) : Value := match av_kd (T k).2.2.1 with
  | 0 => .int (h.2.1 a k)
  | 1 => .long (h.2.2.1 a k)
  | _ => va_rf ((h.2.2.2 a k).map f)
def av_ac (f : Nat → Nat) (h : av_H) (a c : Nat) : (Nat → Int32) ⊕ (Nat → Int64) ⊕ (Nat → UInt32) ⊕ (Nat → UInt64) ⊕ (Nat → Option Nat) :=
  if c = 101 then .inr (.inl (h.2.2.1 a)) else if c = 104 ∨ c = 105 then .inr (.inr (.inr (.inr (fun j => (h.2.2.2 a j).map f)))) else .inl (h.2.1 a)
def av_ce (cl : List vw_C) (kA : Nat → ClassId) (f : Nat → Nat) (h : av_H) (a : Nat) : va_E := match h.1[a]? with
  | none => .inr (0, [])
  | some q => match cl[q.1]? with
    | some r => .inr (q.1, (List.range r.2.2).map (av_fv f r.2.1 h a))
    | none => .inl (kA q.1, q.2, av_ac f h a q.1)
def av_wd (cl : List vw_C) (kA : Nat → ClassId) (f : Nat → Nat) (B : Nat) (h : av_H) (L : List Nat) : va_W := L.map (fun a => (B + a, av_ce cl kA f h a))
def av_RH (D : va_G) (cl : List vw_C) (kA : Nat → ClassId) (f : Nat → Nat) (B : Nat) (h : av_H) (H : Heap) : Prop :=
  B + h.1.length ≤ H.size ∧ h.1.length ≤ 1000000 ∧ ∃ L : List Nat, (∀ a q, h.1[a]? = some q → q.1 ≠ 12 → a ∈ L) ∧ (∀ a ∈ L, a < h.1.length) ∧ va_P D cl (av_wd cl kA f B h L) H ∧ va_D (fun q => B ≤ q) (av_wd cl kA f B h L)
def av_sl (cl : List vw_C) (q : Nat × Nat) : Nat := match cl[q.1]? with
  | some r => r.2.2
  | none => if q.1 = 12 then 6 else q.2
def av_sz (cl : List vw_C) (h : av_H) : Nat := (h.1.map (av_sl cl)).sum
section
variable {D : va_G} {cl : List vw_C} {kA : Nat → ClassId} {f : Nat → Nat} {B : Nat}
theorem av_ce_congr {h g : av_H} {x : Nat} (e0 : g.1[x]? = h.1[x]?) (e1 : g.2.1 x = h.2.1 x) (e2 : g.2.2.1 x = h.2.2.1 x) (e3 : g.2.2.2 x = h.2.2.2 x) : av_ce cl kA f g x = av_ce cl kA f h x := by
  have e4 : ∀ T : u_T, av_fv f T g x = av_fv f T h x := by
    intro T
    funext k
    simp only [av_fv, e1, e2, e3]
  have e5 : av_ac f g x = av_ac f h x := by
    funext c
    simp only [av_ac, e1, e2, e3]
  unfold av_ce
  rw [e0]
  cases h.1[x]? with
  | none => rfl
  | some q =>
    simp only [e5]
    cases cl[q.1]? with
    | none => rfl
    | some r => simp only [e4]
theorem av_RH.at {h : av_H} {H : Heap} {a : Nat} {q : Nat × Nat} (hR : av_RH D cl kA f B h H) (ha : h.1[a]? = some q) (hq : q.1 ≠ 12) :
    ∃ (ws : va_W) (k : Nat), va_P D cl ws H ∧ va_D (fun q => B ≤ q) ws ∧ ws[k]? = some (B + a, av_ce cl kA f h a) ∧ (∀ (y : Nat) (z : Nat × Nat), h.1[y]? = some z → z.1 ≠ 12 → ∃ j : Nat, ws[j]? = some (B + y, av_ce cl kA f h y)) ∧
      ∀ (g : av_H) (H2 : Heap), g.1 = h.1 → (∀ x, x ≠ a → av_ce cl kA f g x = av_ce cl kA f h x) → H.size ≤ H2.size → va_P D cl (ws.set k (B + a, av_ce cl kA f g a)) H2 → va_D (fun q => B ≤ q) (ws.set k (B + a, av_ce cl kA f g a)) → av_RH D cl kA f B g H2 := by
  obtain ⟨hz, hm, L, h1, h2, hP, hD⟩ := hR
  obtain ⟨k, hk⟩ := List.getElem?_of_mem (h1 a q ha hq)
  have hwk : ∀ (g : av_H) (j x : Nat), L[j]? = some x → (av_wd cl kA f B g L)[j]? = some (B + x, av_ce cl kA f g x) := fun g j x hj => by simp [av_wd, hj]
  refine ⟨_, k, hP, hD, hwk h k a hk, fun y z hy hz => by
    obtain ⟨j, hj⟩ := List.getElem?_of_mem (h1 y z hy hz)
    exact ⟨j, hwk h j y hj⟩, fun g H2 e1 e2 e3 hP2 hD2 => ?_⟩
  have e : (av_wd cl kA f B h L).set k (B + a, av_ce cl kA f g a) = av_wd cl kA f B g L := by
    refine List.ext_getElem? fun j => ?_
    by_cases hj : k = j
    · subst hj
      have hl : k < (av_wd cl kA f B h L).length := (List.getElem?_eq_some_iff.mp (hwk h k a hk)).1
      rw [List.getElem?_set_self hl, hwk g k a hk]
    · rw [List.getElem?_set_ne hj]
      cases hx : L[j]? with
      | none => simp [av_wd, hx]
      | some x =>
        have hne : x ≠ a := by
          intro e
          subst e
          exact hj (hD.1 k j _ _ (hwk h k x hk) (hwk h j x hx) rfl)
        rw [hwk h j x hx, hwk g j x hx, e2 x hne]
  rw [e] at hP2 hD2
  exact ⟨by rw [e1]; omega, by rw [e1]; exact hm, L, by rw [e1]; exact h1, by rw [e1]; exact h2, hP2, hD2⟩
theorem av_RH.push {h g : av_H} {H H1 : Heap} {q : Nat × Nat} (hR : av_RH D cl kA f B h H) (hz : H.size = B + h.1.length) (z1 : H1.size = H.size + 1) (o1 : ∀ x : Nat, x < H.size → H1[x]? = H[x]?) (hm : g.1.length ≤ 1000000)
    (e1 : g.1 = h.1 ++ [q]) (e2 : ∀ x, x < h.1.length → av_ce cl kA f g x = av_ce cl kA f h x) (hc : va_at D cl (B + h.1.length, av_ce cl kA f g h.1.length) H1) : av_RH D cl kA f B g H1 := by
  obtain ⟨-, -, L, h1, h2, hP, hD⟩ := hR
  have hl : g.1.length = h.1.length + 1 := by rw [e1]; simp
  have e : av_wd cl kA f B g (L ++ [h.1.length]) = av_wd cl kA f B h L ++ [(B + h.1.length, av_ce cl kA f g h.1.length)] := by
    unfold av_wd
    rw [List.map_append]
    congr 1
    exact List.map_congr_left fun x hx => by rw [e2 x (h2 x hx)]
  refine ⟨by omega, hm, L ++ [h.1.length], fun a r ha hr => ?_, fun a ha => ?_, ?_, ?_⟩
  · rw [e1] at ha
    by_cases hal : a < h.1.length
    · rw [List.getElem?_append_left hal] at ha
      exact List.mem_append_left _ (h1 a r ha hr)
    · have : a < (h.1 ++ [q]).length := (List.getElem?_eq_some_iff.mp ha).1
      simp at this
      rw [show a = h.1.length by omega]
      exact List.mem_append_right _ (List.mem_singleton.mpr rfl)
  · rcases List.mem_append.mp ha with h3 | h3
    · have := h2 a h3; omega
    · rw [List.mem_singleton.mp h3]; omega
  · rw [e]
    refine (hP.kept fun k x hx => o1 x.1 ((hP k x hx).lt)).app fun k x hx => ?_
    have hk : k < 1 := (List.getElem?_eq_some_iff.mp hx).1
    rw [show k = 0 by omega] at hx
    cases hx
    exact hc
  · rw [e]
    exact hD.push hP hz.symm (by show B ≤ _; omega)
theorem av_RH.junk {h g : av_H} {H H1 : Heap} {n : Nat} (hR : av_RH D cl kA f B h H) (hz : H.size = B + h.1.length) (z1 : H1.size = H.size + 1) (o1 : ∀ x : Nat, x < H.size → H1[x]? = H[x]?) (hm : g.1.length ≤ 1000000)
    (e1 : g.1 = h.1 ++ [(12, n)]) (e2 : ∀ x, x < h.1.length → av_ce cl kA f g x = av_ce cl kA f h x) : av_RH D cl kA f B g H1 := by
  obtain ⟨-, -, L, h1, h2, hP, hD⟩ := hR
  have hl : g.1.length = h.1.length + 1 := by rw [e1]; simp
  have e : av_wd cl kA f B g L = av_wd cl kA f B h L := List.map_congr_left fun x hx => by rw [e2 x (h2 x hx)]
  refine ⟨by omega, hm, L, fun a r ha hr => ?_, fun a ha => by have := h2 a ha; omega, ?_, ?_⟩
  · rw [e1] at ha
    by_cases hal : a < h.1.length
    · rw [List.getElem?_append_left hal] at ha
      exact h1 a r ha hr
    · have : a < (h.1 ++ [(12, n)]).length := (List.getElem?_eq_some_iff.mp ha).1
      simp at this
      rw [show a = h.1.length by omega] at ha
      simp at ha
      exact absurd (by rw [← ha]) hr
  · rw [e]
    exact hP.kept fun k x hx => o1 x.1 ((hP k x hx).lt)
  · rw [e]
    exact hD
theorem av_new_ce {h : av_H} {c n x : Nat} (hx : x < h.1.length) : av_ce cl kA f (av_new h c n) x = av_ce cl kA f h x :=
  av_ce_congr (by show (h.1 ++ [(c, n)])[x]? = _; rw [List.getElem?_append_left hx]) (va_up_ne _ _ (Nat.ne_of_lt hx)) (va_up_ne _ _ (Nat.ne_of_lt hx)) (va_up_ne _ _ (Nat.ne_of_lt hx))
theorem av_new_sz (h : av_H) (c n : Nat) : av_sz cl (av_new h c n) = av_sz cl h + av_sl cl (c, n) := by
  simp [av_sz, av_new]
theorem av_new_len (h : av_H) (c n : Nat) : (av_new h c n).1.length = h.1.length + 1 := by simp [av_new]
end
/-! locals -/
theorem av_get_mem {ls : av_L} {n : Nat} {v : av_V} (h : av_get ls n = some v) : (n, v) ∈ ls := by
  induction ls with
  | nil => simp [av_get] at h
  | cons q t ih =>
    simp only [av_get] at h
    by_cases e : Nat.beq q.1 n = true
    · rw [e] at h
      simp only [cond_true] at h
      obtain ⟨a, b⟩ := q
      cases h
      have e2 : a = n := Nat.eq_of_beq_eq_true e
      subst e2
      exact List.mem_cons_self
    · rw [Bool.not_eq_true] at e
      rw [e] at h
      exact List.mem_cons_of_mem _ (ih h)
theorem av_kp_mem {ls : av_L} {q : Nat × av_V} : ∀ {kp : List Nat}, q ∈ av_kp ls kp → q ∈ ls
  | [], h => by simp [av_kp] at h
  | n :: t, h => by
    simp only [av_kp] at h
    split at h
    · exact av_kp_mem h
    · rename_i v hv
      rcases List.mem_cons.mp h with e | e
      · rw [e]; exact av_get_mem hv
      · exact av_kp_mem e
abbrev av_lm (f : Nat → Nat) (ls : av_L) : List (Nat × Value) := ls.map (fun q => (q.1, av_vl f q.2))
theorem av_rf_cat (r : Option Nat) : (va_rf r).category = 1 := by cases r <;> rfl
theorem av_vl_cat (f : Nat → Nat) (v : av_V) : (av_vl f v).category = av_cat v := by
  rcases v with x | x | r
  · rfl
  · rfl
  · exact av_rf_cat _
theorem av_loc {f : Nat → Nat} {sl : Array Slot} {nL n : Nat} {ls : av_L} {v : av_V} (hl : lv_has sl nL (av_lm f ls)) (h : av_get ls n = some v) : sl[n]? = some (.val (av_vl f v)) :=
  hl.2.2 (n, av_vl f v) (List.mem_map.mpr ⟨(n, v), av_get_mem h, rfl⟩)
theorem av_locE {f : Nat → Nat} {n : Nat} {ls : av_L} {v : av_V} (h : av_get ls n = some v) : ∃ k : Nat, (av_lm f ls)[k]? = some (n, av_vl f v) := by
  obtain ⟨k, hk⟩ := List.getElem?_of_mem (av_get_mem h)
  exact ⟨k, by simp [hk]⟩
theorem av_set_lm (f : Nat → Nat) (ls : av_L) (n : Nat) (v : av_V) : (n, av_vl f v) :: (av_lm f ls).filter (fun q => !(q.1 == n) && !(q.1 + 1 == n && q.2.category == 2)) = av_lm f (av_set ls n v) := by
  simp only [av_set, av_lm, List.map_cons, List.filter_map]
  congr 2
  refine List.filter_congr fun q _ => ?_
  simp [Function.comp, av_vl_cat]
theorem av_set2_lm (f : Nat → Nat) (ls : av_L) (n : Nat) (v : av_V) : (n, av_vl f v) :: (av_lm f ls).filter (fun q => !(q.1 == n) && (!(q.1 == n + 1) && !(q.1 + 1 == n && q.2.category == 2))) = av_lm f (av_set2 ls n v) := by
  simp only [av_set2, av_lm, List.map_cons, List.filter_map]
  congr 2
  refine List.filter_congr fun q _ => ?_
  simp [Function.comp, av_vl_cat]
theorem av_kp_has {f : Nat → Nat} {sl : Array Slot} {nL : Nat} {ls : av_L} (kp : List Nat) (hl : lv_has sl nL (av_lm f ls)) : lv_has sl nL (av_lm f (av_kp ls kp)) :=
  ⟨hl.1, hl.2.1, fun q hq => by
    obtain ⟨x, hx, rfl⟩ := List.mem_map.mp hq
    exact hl.2.2 _ (List.mem_map.mpr ⟨x, av_kp_mem hx, rfl⟩)⟩
theorem av_args_lm (f : Nat → Nat) : ∀ (as : List av_V) (n : Nat), lv_args n (as.map (av_vl f)) = av_lm f (av_args n as)
  | [], _ => rfl
  | v :: t, n => by
    simp only [List.map_cons, lv_args, av_args, av_lm]
    rw [av_args_lm f t]
    congr 2
    rw [av_vl_cat]
    rcases v with x | x | r <;> simp [av_cat]
