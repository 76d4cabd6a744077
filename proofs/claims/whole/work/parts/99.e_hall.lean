/-! towers served by offers: Hall's rule -/
def sN (g : Nat → Nat) : Nat → Nat
  | 0 => 0
  | n + 1 => sN g n + g n
theorem sN_cg {g k : Nat → Nat} : ∀ n, (∀ i, i < n → g i = k i) → sN g n = sN k n
  | 0, _ => rfl
  | n + 1, q => by rw [sN, sN, sN_cg n (fun i hi => q i (by omega)), q n (by omega)]
theorem sN_le {g k : Nat → Nat} : ∀ n, (∀ i, i < n → g i ≤ k i) → sN g n ≤ sN k n
  | 0, _ => Nat.le_refl 0
  | n + 1, q => by
    have := sN_le n (fun i hi => q i (by omega))
    have := q n (by omega)
    rw [sN, sN]
    omega
theorem sN_add {g k : Nat → Nat} : ∀ n, sN (fun i => g i + k i) n = sN g n + sN k n
  | 0 => rfl
  | n + 1 => by
    rw [sN, sN, sN, sN_add n]
    omega
/-- all the same but at one place, where one is missing -/
theorem sN_1 {g k : Nat → Nat} {o : Nat} (q : ∀ i, i ≠ o → g i = k i) (qo : g o ≤ k o + 1) : ∀ n, sN g n ≤ sN k n + 1 ∧ (n ≤ o → sN g n = sN k n)
  | 0 => ⟨by rw [sN, sN]; omega, fun _ => rfl⟩
  | n + 1 => by
    obtain ⟨h1, h2⟩ := sN_1 q qo n
    refine ⟨?_, fun z => ?_⟩
    · rw [sN, sN]
      by_cases y : n = o
      · rw [h2 (by omega), y]
        omega
      · rw [q n y]
        omega
    · rw [sN, sN, h2 (by omega), q n (by omega)]
theorem sN_pos {g : Nat → Nat} : ∀ n, 0 < sN g n → ∃ i, i < n ∧ 0 < g i
  | 0, z => absurd z (by rw [sN]; omega)
  | n + 1, z => by
    rw [sN] at z
    by_cases y : 0 < g n
    · exact ⟨n, by omega, y⟩
    · obtain ⟨i, hi, q⟩ := sN_pos (g := g) n (by omega)
      exact ⟨i, by omega, q⟩
def cnt (G : Nat → Bool) : Nat := fb_ct G 6
theorem fct_cg {p q : Nat → Bool} : ∀ n, (∀ i, i < n → p i = q i) → fb_ct p n = fb_ct q n
  | 0, _ => rfl
  | n + 1, h => by rw [fb_ct_succ, fb_ct_succ, fct_cg n (fun i hi => h i (by omega)), h n (by omega)]
theorem fct_le {p q : Nat → Bool} : ∀ n, (∀ i, i < n → p i = true → q i = true) → fb_ct p n ≤ fb_ct q n
  | 0, _ => Nat.le_refl 0
  | n + 1, h => by
    have ih := fct_le n (fun i hi => h i (by omega))
    have z := h n (by omega)
    rw [fb_ct_succ, fb_ct_succ]
    cases y : p n with
    | false =>
      rw [if_neg (show ¬ false = true by decide)]
      exact Nat.le_trans ih (Nat.le_add_right _ _)
    | true => rw [z y]; simp; omega
theorem fct_or {p q : Nat → Bool} : ∀ n, (∀ i, i < n → p i = true → q i = false) → fb_ct (fun i => p i || q i) n = fb_ct p n + fb_ct q n
  | 0, _ => rfl
  | n + 1, h => by
    have ih := fct_or n (fun i hi => h i (by omega))
    have z := h n (by omega)
    rw [fb_ct_succ, fb_ct_succ, fb_ct_succ, ih]
    cases y : p n with
    | false => cases q n <;> simp <;> omega
    | true => rw [z y]; simp; omega
theorem fct_0 {p : Nat → Bool} : ∀ n, (∀ i, i < n → p i = false) → fb_ct p n = 0
  | 0, _ => rfl
  | n + 1, h => by rw [fb_ct_succ, fct_0 n (fun i hi => h i (by omega)), h n (by omega)]; rfl
theorem fct_pos {p : Nat → Bool} {i : Nat} : ∀ n, i < n → p i = true → 0 < fb_ct p n
  | 0, z, _ => absurd z (by omega)
  | n + 1, z, q => by
    rw [fb_ct_succ]
    by_cases y : i = n
    · rw [← y, q]
      simp
    · have := fct_pos n (by omega) q
      omega
theorem fct_ex {p : Nat → Bool} : ∀ n, 0 < fb_ct p n → ∃ i, i < n ∧ p i = true
  | 0, z => absurd (show 0 < 0 from z) (by decide)
  | n + 1, z => by
    rw [fb_ct_succ] at z
    cases y : p n with
    | true => exact ⟨n, by omega, y⟩
    | false =>
      rw [y] at z
      obtain ⟨i, hi, q⟩ := fct_ex n (by simpa using z)
      exact ⟨i, by omega, q⟩
/-- an offer fits one of them -/
def nbh (f : Nat → Nat → Bool) (G : Nat → Bool) (o : Nat) : Bool := anyN 6 0 (fun t => G t && f o t)
theorem nbh_i {f : Nat → Nat → Bool} {G : Nat → Bool} {o : Nat} : nbh f G o = true ↔ ∃ t, t < 6 ∧ G t = true ∧ f o t = true := by
  rw [nbh, anyN_iff]
  constructor
  · rintro ⟨t, -, h2, h3⟩
    rw [Bool.and_eq_true] at h3
    exact ⟨t, by omega, h3.1, h3.2⟩
  · rintro ⟨t, h1, h2, h3⟩
    exact ⟨t, by omega, by omega, by rw [h2, h3]; rfl⟩
def capN (f : Nat → Nat → Bool) (c : Nat → Nat) (G : Nat → Bool) : Nat := sN (fun o => if nbh f G o = true then c o else 0) 8
def Hall (f : Nat → Nat → Bool) (c : Nat → Nat) (T : Nat → Bool) : Prop := ∀ G : Nat → Bool, (∀ t, t < 6 → G t = true → T t = true) → cnt G ≤ capN f c G
def Mtch (f : Nat → Nat → Bool) (c : Nat → Nat) (T : Nat → Bool) : Prop := ∃ a : Nat → Nat, (∀ t, t < 6 → T t = true → a t < 8 ∧ f (a t) t = true) ∧ ∀ o, o < 8 → fb_ct (fun t => T t && decide (a t = o)) 6 ≤ c o
theorem cap_mono {f : Nat → Nat → Bool} {c c' : Nat → Nat} {G : Nat → Bool} (q : ∀ o, o < 8 → c o ≤ c' o) : capN f c G ≤ capN f c' G := sN_le 8 (fun o ho => by
  by_cases z : nbh f G o = true
  · rw [if_pos z, if_pos z]; exact q o ho
  · rw [if_neg z, if_neg z]; exact Nat.le_refl 0)
theorem cap_or {f : Nat → Nat → Bool} {c : Nat → Nat} {G H : Nat → Bool} : capN f c (fun t => G t || H t) = capN f c G + capN f (fun o => if nbh f G o = true then 0 else c o) H := by
  unfold capN
  rw [← sN_add]
  refine sN_cg 8 (fun o _ => ?_)
  by_cases z1 : nbh f G o = true
  · have z : nbh f (fun t => G t || H t) o = true := by
      obtain ⟨t, h1, h2, h3⟩ := nbh_i.mp z1
      exact nbh_i.mpr ⟨t, h1, by rw [h2]; rfl, h3⟩
    rw [if_pos z, if_pos z1]
    dsimp only
    rw [if_pos z1]
    split <;> rfl
  · by_cases z2 : nbh f H o = true
    · have z : nbh f (fun t => G t || H t) o = true := by
        obtain ⟨t, h1, h2, h3⟩ := nbh_i.mp z2
        exact nbh_i.mpr ⟨t, h1, by rw [h2, Bool.or_true], h3⟩
      rw [if_pos z, if_neg z1, if_pos z2]
      dsimp only
      rw [if_neg z1]
      omega
    · have z : ¬ nbh f (fun t => G t || H t) o = true := fun y => by
        obtain ⟨t, h1, h2, h3⟩ := nbh_i.mp y
        rw [Bool.or_eq_true] at h2
        rcases h2 with h2 | h2
        · exact z1 (nbh_i.mpr ⟨t, h1, h2, h3⟩)
        · exact z2 (nbh_i.mpr ⟨t, h1, h2, h3⟩)
      rw [if_neg z, if_neg z1, if_neg z2]
theorem hall_m {f : Nat → Nat → Bool} : ∀ n (T : Nat → Bool) (c : Nat → Nat), cnt T ≤ n → Hall f c T → Mtch f c T
  | 0, T, c, hn, _ => by
    have no : ∀ t, t < 6 → T t = false := fun t ht => by
      cases z : T t with
      | false => rfl
      | true =>
        have := fct_pos 6 ht z
        unfold cnt at hn
        omega
    refine ⟨fun _ => 0, fun t ht z => ?_, fun o _ => ?_⟩
    · rw [no t ht] at z
      cases z
    · rw [fct_0 6 (fun t ht => by rw [no t ht]; rfl)]
      omega
  | n + 1, T, c, hn, H => by
    by_cases tight : ∃ G : Nat → Bool, (∀ t, t < 6 → G t = true → T t = true) ∧ 0 < cnt G ∧ cnt G < cnt T ∧ capN f c G ≤ cnt G
    · obtain ⟨G, gs, g0, g1, g2⟩ := tight
      have gc : capN f c G = cnt G := Nat.le_antisymm g2 (H G gs)
      obtain ⟨a1, m1, m2⟩ := hall_m (f := f) n G c (by omega) (fun K ks => H K (fun t ht z => gs t ht (ks t ht z)))
      have cT : cnt T = cnt G + cnt (fun t => T t && !G t) := by
        have e := fct_or (p := G) (q := fun t => T t && !G t) 6 (fun i _ z => by rw [z, Bool.not_true, Bool.and_false])
        unfold cnt
        rw [← e]
        refine fct_cg 6 (fun i hi => ?_)
        cases z : G i with
        | true => rw [gs i hi z]; rfl
        | false => rw [Bool.not_false, Bool.and_true, Bool.false_or]
      obtain ⟨a2, m3, m4⟩ := hall_m (f := f) n (fun t => T t && !G t) (fun o => if nbh f G o = true then 0 else c o) (by omega) (fun K ks => by
        have e1 := H (fun t => G t || K t) (fun t ht z => by
          rw [Bool.or_eq_true] at z
          rcases z with z | z
          · exact gs t ht z
          · have := ks t ht z
            rw [Bool.and_eq_true] at this
            exact this.1)
        rw [cap_or, gc] at e1
        have e2 := fct_or (p := G) (q := K) 6 (fun i hi z => by
          cases y : K i with
          | false => rfl
          | true =>
            have := ks i hi y
            dsimp only at this
            rw [z] at this
            simp at this)
        have e3 : cnt (fun t => G t || K t) = cnt G + cnt K := e2
        show cnt K ≤ capN f (fun o => if nbh f G o = true then 0 else c o) K
        omega)
      refine ⟨fun t => if G t = true then a1 t else a2 t, fun t ht z => ?_, fun o ho => ?_⟩
      · dsimp only
        cases y : G t with
        | true => rw [if_pos rfl]; exact m1 t ht y
        | false => rw [if_neg (by decide)]; exact m3 t ht (by dsimp only; rw [z, y]; rfl)
      · have e : fb_ct (fun t => T t && decide ((if G t = true then a1 t else a2 t) = o)) 6 = fb_ct (fun t => G t && decide (a1 t = o)) 6 + fb_ct (fun t => (T t && !G t) && decide (a2 t = o)) 6 := by
          rw [← fct_or (p := fun t => G t && decide (a1 t = o)) (q := fun t => (T t && !G t) && decide (a2 t = o)) 6 (fun i _ z => by
            rw [Bool.and_eq_true] at z
            rw [z.1, Bool.not_true, Bool.and_false, Bool.false_and])]
          refine fct_cg 6 (fun i hi => ?_)
          cases z : G i with
          | true => rw [gs i hi z, if_pos rfl]; simp
          | false => rw [if_neg (by decide)]; simp
        rw [e]
        have b1 := m2 o ho
        have b2 := m4 o ho
        by_cases z : nbh f G o = true
        · dsimp only at b2
          rw [if_pos z] at b2
          omega
        · dsimp only at b2
          rw [if_neg z] at b2
          have : fb_ct (fun t => G t && decide (a1 t = o)) 6 = 0 := fct_0 6 (fun i hi => by
            cases y : G i with
            | false => rfl
            | true =>
              rw [Bool.true_and, decide_eq_false_iff_not]
              intro u
              have := m1 i hi y
              rw [u] at this
              exact z (nbh_i.mpr ⟨i, hi, y, this.2⟩))
          omega
    · by_cases z0 : cnt T ≤ n
      · exact hall_m n T c z0 H
      · obtain ⟨t0, t6, zt⟩ := fct_ex (p := T) 6 (by unfold cnt at z0; omega)
        have one : cnt (fun t => decide (t = t0)) = 1 := by
          unfold cnt
          match t0, t6 with
          | 0, _ => rfl
          | 1, _ => rfl
          | 2, _ => rfl
          | 3, _ => rfl
          | 4, _ => rfl
          | 5, _ => rfl
        have h1 := H (fun t => decide (t = t0)) (fun t ht z => by rw [of_decide_eq_true z]; exact zt)
        rw [one] at h1
        obtain ⟨o, o8, po⟩ := sN_pos 8 (show 0 < sN _ 8 from h1)
        have nb0 : nbh f (fun t => decide (t = t0)) o = true := by
          cases y : nbh f (fun t => decide (t = t0)) o with
          | true => rfl
          | false => rw [if_neg (by rw [y]; decide)] at po; omega
        rw [if_pos nb0] at po
        have fo : f o t0 = true := by
          obtain ⟨t, -, u2, u3⟩ := nbh_i.mp nb0
          rw [of_decide_eq_true u2] at u3
          exact u3
        have cT : cnt T = cnt (fun t => decide (t = t0)) + cnt (fun t => T t && !decide (t = t0)) := by
          have e := fct_or (p := fun t => decide (t = t0)) (q := fun t => T t && !decide (t = t0)) 6 (fun i _ z => by rw [z, Bool.not_true, Bool.and_false])
          unfold cnt
          rw [← e]
          refine fct_cg 6 (fun i hi => ?_)
          by_cases z : i = t0
          · rw [decide_eq_true z, z, zt]; rfl
          · rw [decide_eq_false z, Bool.not_false, Bool.and_true, Bool.false_or]
        obtain ⟨a, m1, m2⟩ := hall_m (f := f) n (fun t => T t && !decide (t = t0)) (fun i => if i = o then c i - 1 else c i) (by omega) (fun K ks => by
          by_cases k0 : cnt K = 0
          · omega
          · have ks' : ∀ t, t < 6 → K t = true → T t = true := fun t ht z => by
              have := ks t ht z
              rw [Bool.and_eq_true] at this
              exact this.1
            have kl : cnt K ≤ cnt (fun t => T t && !decide (t = t0)) := fct_le 6 ks
            have hk := H K ks'
            have nt : ¬ capN f c K ≤ cnt K := fun y => tight ⟨K, ks', by omega, by omega, y⟩
            have s1 := (sN_1 (g := fun i => if nbh f K i = true then c i else 0) (k := fun i => if nbh f K i = true then (if i = o then c i - 1 else c i) else 0) (o := o) (fun i z => by rw [if_neg z]) (by rw [if_pos rfl]; split <;> omega) 8).1
            have s2 : capN f c K ≤ capN f (fun i => if i = o then c i - 1 else c i) K + 1 := s1
            omega)
        refine ⟨fun t => if t = t0 then o else a t, fun t ht z => ?_, fun i hi => ?_⟩
        · dsimp only
          by_cases y : t = t0
          · rw [if_pos y, y]; exact ⟨o8, fo⟩
          · rw [if_neg y]; exact m1 t ht (by dsimp only; rw [z, decide_eq_false y]; rfl)
        · have b := m2 i hi
          dsimp only at b
          have e : fb_ct (fun t => T t && decide ((if t = t0 then o else a t) = i)) 6 = fb_ct (fun t => decide (t = t0) && decide (o = i)) 6 + fb_ct (fun t => (T t && !decide (t = t0)) && decide (a t = i)) 6 := by
            rw [← fct_or (p := fun t => decide (t = t0) && decide (o = i)) (q := fun t => (T t && !decide (t = t0)) && decide (a t = i)) 6 (fun j _ z => by
              rw [Bool.and_eq_true] at z
              rw [z.1, Bool.not_true, Bool.and_false, Bool.false_and])]
            refine fct_cg 6 (fun j hj => ?_)
            by_cases z : j = t0
            · rw [if_pos z, decide_eq_true z, z, zt]; simp
            · rw [if_neg z, decide_eq_false z]; simp
          rw [e]
          by_cases z : i = o
          · rw [if_pos z] at b
            have l1 : fb_ct (fun t => decide (t = t0) && decide (o = i)) 6 ≤ 1 := by
              rw [← one]
              exact fct_le 6 (fun j _ y => by rw [Bool.and_eq_true] at y; exact y.1)
            rw [z] at b l1 ⊢
            omega
          · rw [if_neg z] at b
            rw [fct_0 (p := fun t => decide (t = t0) && decide (o = i)) 6 (fun j _ => by rw [decide_eq_false (show ¬ o = i from fun y => z y.symm), Bool.and_false])]
            omega
theorem one_k {b : Bool} {k : Nat} : ∀ n, sN (fun o => if (b && decide (k = o)) = true then 1 else 0) n = if (b && decide (k < n)) = true then 1 else 0
  | 0 => by rw [sN, decide_eq_false (by omega), Bool.and_false, if_neg (by decide)]
  | n + 1 => by
    rw [sN, one_k n]
    cases b with
    | false => rfl
    | true =>
      simp only [Bool.true_and, decide_eq_true_eq]
      by_cases z : k = n
      · rw [if_neg (show ¬ k < n by omega), if_pos z, if_pos (show k < n + 1 by omega)]
      · by_cases y : k < n
        · rw [if_pos y, if_neg z, if_pos (show k < n + 1 by omega)]
        · rw [if_neg y, if_neg z, if_neg (show ¬ k < n + 1 by omega)]
theorem fub {G : Nat → Bool} {a : Nat → Nat} : ∀ n, (∀ t, t < n → G t = true → a t < 8) → fb_ct G n = sN (fun o => fb_ct (fun t => G t && decide (a t = o)) n) 8
  | 0, _ => rfl
  | n + 1, q => by
    have ih := fub n (fun t ht z => q t (by omega) z)
    have e : sN (fun o => fb_ct (fun t => G t && decide (a t = o)) (n + 1)) 8 = sN (fun o => fb_ct (fun t => G t && decide (a t = o)) n + (if (G n && decide (a n = o)) = true then 1 else 0)) 8 := sN_cg 8 (fun o _ => fb_ct_succ _ n)
    rw [e, sN_add, ← ih, one_k, fb_ct_succ]
    cases z : G n with
    | false => rfl
    | true => rw [decide_eq_true (q n (by omega) z)]; rfl
theorem m_hall {f : Nat → Nat → Bool} {c : Nat → Nat} {T : Nat → Bool} (M : Mtch f c T) : Hall f c T := fun G gs => by
  obtain ⟨a, m1, m2⟩ := M
  rw [cnt, fub 6 (fun t ht z => (m1 t ht (gs t ht z)).1), capN]
  refine sN_le 8 (fun o ho => ?_)
  by_cases z : nbh f G o = true
  · rw [if_pos z]
    refine Nat.le_trans (fct_le 6 (fun t ht y => ?_)) (m2 o ho)
    rw [Bool.and_eq_true] at y ⊢
    exact ⟨gs t ht y.1, y.2⟩
  · rw [if_neg z, fct_0 6 (fun t ht => ?_)]
    · omega
    · cases y : G t with
      | false => rfl
      | true =>
        rw [Bool.true_and, decide_eq_false_iff_not]
        intro u
        have := m1 t ht (gs t ht y)
        rw [u] at this
        exact z (nbh_i.mpr ⟨t, ht, y, this.2⟩)
theorem hall_iff {f : Nat → Nat → Bool} {c : Nat → Nat} {T : Nat → Bool} : Hall f c T ↔ Mtch f c T := ⟨hall_m (cnt T) T c (Nat.le_refl _), m_hall⟩
