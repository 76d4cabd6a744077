/-! java/lang/Math's three: no contract (no plain name), but the kit's rows -/
def kMaL : List ((Nat × Nat × Nat × Nat × Nat × Nat × Nat) × Nat) := [((0, 76, 379, 0, 2, 1, 0), 1744), ((0, 82, 381, 0, 2, 1, 0), 1745), ((1, 33, 379, 0, 2, 1, 0), 1523), ((3, 92, 381, 0, 2, 1, 0), 1415), ((3, 105, 379, 0, 2, 1, 0), 1425), ((4, 98, 380, 0, 2, 2, 0), 1337), ((8, 15, 379, 0, 2, 1, 0), 198), ((10, 283, 379, 0, 2, 1, 0), 1044), ((10, 551, 381, 0, 2, 1, 0), 1055), ((10, 617, 380, 0, 2, 2, 0), 1763)]
def kMn (mi : Nat) : MethodName := if mi = 379 then ⟨"java/lang/Math", "max", "(II)I"⟩ else if mi = 380 then ⟨"java/lang/Math", "max", "(JJ)J"⟩ else ⟨"java/lang/Math", "min", "(II)I"⟩
set_option maxRecDepth 20000 in
theorem kMa_ok : kMaL.all (fun q => (decide (q.1.2.2.2.1 = 0) && decide (q.1.2.2.2.2.1 = 2)) && (decide (q.1.2.2.1 = 379) || (decide (q.1.2.2.1 = 380) || decide (q.1.2.2.1 = 381))) && kin q.2 (Cond.methodLink (kON q.1.1) q.1.2.1 (kMn q.1.2.2.1))) = true := by decide +kernel
set_option maxRecDepth 20000 in
theorem kML_M : kML.all (fun q => (av_P q.2.2.1).isNone || ((kI2 q.2.2.1).isSome || kMaL.any (fun r => decide (r.1 = q)))) = true := by decide +kernel
theorem hM_i : Cond.initialized "java/lang/Math" ∈ kTB := kin_ok (i := 159) (by decide +kernel)
theorem hM_379s : Cond.static Lib.Math.max.name ∈ kTB := kin_ok (i := 199) (by decide +kernel)
theorem hM_379c : Cond.code Lib.Math.max.name Lib.Math.max.code 2 (some .int) ∈ kTB := kin_ok (i := 200) (by decide +kernel)
theorem hM_380s : Cond.static Lib.MathLoose.max_long.x ∈ kTB := kin_ok (i := 1338) (by decide +kernel)
theorem hM_380c : Cond.code Lib.MathLoose.max_long.x Lib.MathLoose.max_long.code 4 (some .long) ∈ kTB := kin_ok (i := 1339) (by decide +kernel)
theorem hM_381s : Cond.static Lib.Math.min.name ∈ kTB := kin_ok (i := 875) (by decide +kernel)
theorem hM_381c : Cond.code Lib.Math.min.name Lib.Math.min.code 2 (some .int) ∈ kTB := kin_ok (i := 876) (by decide +kernel)
section
variable {X : av_X} {d : Nat} {h : av_H}
set_option maxRecDepth 100000 in
theorem n_379_0 (v : Int64 ⊕ Option Nat) (t : av_L) : bd X d 379 0 ((0, .inr v) :: t) [] h = none := (av_bd_eq av_Sg p_379 _ _ _ _ _).trans rfl
set_option maxRecDepth 100000 in
theorem n_379_1 (a : Int32) (v : Int64 ⊕ Option Nat) : bd X d 379 0 [(0, vi a), (1, .inr v)] [] h = none := (av_bd_eq av_Sg p_379 _ _ _ _ _).trans rfl
theorem m_379 {v0 v1 : av_V} {ov : Option av_V} {h3 : av_H} (e : bd X d 379 0 (av_args 0 [v0, v1]) [] h = some (some ov, h3)) : ∃ a b : Int32, v0 = .inl a ∧ v1 = .inl b ∧ ov = some (.inl (if a < b then b else a)) ∧ h3 = h := by
  rcases v0 with a | v0
  · rcases v1 with b | v1
    · have e2 := (b_379_0 d a b h).symm.trans e
      split at e2
      · rename_i z
        cases e2
        exact ⟨a, b, rfl, rfl, by rw [if_pos z], rfl⟩
      · rename_i z
        cases e2
        exact ⟨a, b, rfl, rfl, by rw [if_neg z], rfl⟩
    · exact nomatch (n_379_1 a v1).symm.trans e
  · exact nomatch (n_379_0 v0 _).symm.trans e
set_option maxRecDepth 100000 in
theorem n_381_0 (v : Int64 ⊕ Option Nat) (t : av_L) : bd X d 381 0 ((0, .inr v) :: t) [] h = none := (av_bd_eq av_Sg p_381 _ _ _ _ _).trans rfl
set_option maxRecDepth 100000 in
theorem n_381_1 (a : Int32) (v : Int64 ⊕ Option Nat) : bd X d 381 0 [(0, vi a), (1, .inr v)] [] h = none := (av_bd_eq av_Sg p_381 _ _ _ _ _).trans rfl
theorem m_381 {v0 v1 : av_V} {ov : Option av_V} {h3 : av_H} (e : bd X d 381 0 (av_args 0 [v0, v1]) [] h = some (some ov, h3)) : ∃ a b : Int32, v0 = .inl a ∧ v1 = .inl b ∧ ov = some (.inl (if b < a then b else a)) ∧ h3 = h := by
  rcases v0 with a | v0
  · rcases v1 with b | v1
    · have e2 := (b_381_0 d a b h).symm.trans e
      split at e2
      · rename_i z
        cases e2
        exact ⟨a, b, rfl, rfl, by rw [if_pos z], rfl⟩
      · rename_i z
        cases e2
        exact ⟨a, b, rfl, rfl, by rw [if_neg z], rfl⟩
    · exact nomatch (n_381_1 a v1).symm.trans e
  · exact nomatch (n_381_0 v0 _).symm.trans e
set_option maxRecDepth 100000 in
theorem n_380_0 (a : Int32) (t : av_L) : bd X d 380 0 ((0, vi a) :: t) [] h = none := (av_bd_eq av_Sg p_380 _ _ _ _ _).trans rfl
set_option maxRecDepth 100000 in
theorem n_380_1 (r : Option Nat) (t : av_L) : bd X d 380 0 ((0, vr r) :: t) [] h = none := (av_bd_eq av_Sg p_380 _ _ _ _ _).trans rfl
set_option maxRecDepth 100000 in
theorem n_380_2 (x : Int64) (a : Int32) : bd X d 380 0 [(0, vl x), (2, vi a)] [] h = none := (av_bd_eq av_Sg p_380 _ _ _ _ _).trans rfl
set_option maxRecDepth 100000 in
theorem n_380_3 (x : Int64) (r : Option Nat) : bd X d 380 0 [(0, vl x), (2, vr r)] [] h = none := (av_bd_eq av_Sg p_380 _ _ _ _ _).trans rfl
theorem m_380 {v0 v1 : av_V} {ov : Option av_V} {h3 : av_H} (e : bd X d 380 0 (av_args 0 [v0, v1]) [] h = some (some ov, h3)) : ∃ a b : Int64, v0 = .inr (.inl a) ∧ v1 = .inr (.inl b) ∧ ov = some (.inr (.inl (if b < a then a else b))) ∧ h3 = h := by
  rcases v0 with x | a | r
  · exact nomatch (n_380_0 x _).symm.trans e
  · rcases v1 with x | b | r
    · exact nomatch (n_380_2 a x).symm.trans e
    · have e2 := (b_380_0 d a b h).symm.trans e
      split at e2
      · rename_i z
        cases e2
        have z3 := Int64.lt_iff_toInt_lt.mp ((lg_cmp_lt a b).mp z)
        refine ⟨a, b, rfl, rfl, ?_, rfl⟩
        rw [if_neg (fun q => by have := Int64.lt_iff_toInt_lt.mp q; omega)]
      · rename_i z
        cases e2
        refine ⟨a, b, rfl, rfl, ?_, rfl⟩
        by_cases q : b < a
        · rw [if_pos q]
        · rw [if_neg q]
          have z4 : ¬ a < b := fun y => z ((lg_cmp_lt a b).mpr y)
          rw [Int64.lt_iff_toInt_lt] at z4 q
          rw [show a = b from Int64.toInt_inj.mp (by omega)]
    · exact nomatch (n_380_3 a r).symm.trans e
  · exact nomatch (n_380_1 r _).symm.trans e
end
set_option maxHeartbeats 4000000 in
theorem kSM {l : Launch} {D : va_G} {kA : Nat → ClassId} {f : Nat → Nat} {B : Nat} {EX : State → Prop} {X : av_X} : av_SMR l D kCL kA f B kON EX kTB kK av_P kI2 X := by
  intro p e R s m args below meth cd Q nL n0 z0 cc o hx hb hml hown hts hK hE hs0 hRf hRl n d pc ix mi nb rc op dc as rest h2 ov h3 H locs sl n1 z1 hml2 hP hI hrun hok a0 e1 e2 hR hS hsl hbd kk
  have hq := List.all_eq_true.mp kML_M _ hml2
  simp only [Bool.or_eq_true, Option.isNone_iff_eq_none, List.any_eq_true, decide_eq_true_eq] at hq
  rcases hq with hq | hq | ⟨r, hr, er⟩
  · exact absurd hq hP
  · rw [hI] at hq
    cases hq
  · have h9 := List.all_eq_true.mp kMa_ok r hr
    simp only [er, Bool.and_eq_true, Bool.or_eq_true, decide_eq_true_eq] at h9
    obtain ⟨⟨⟨rfl, rfl⟩, hmi⟩, hlk⟩ := h9
    obtain ⟨hdg, hlen⟩ := a0 rfl
    have hlk := kin_ok hlk
    have hsum : ((rest.map (av_vl f)).map fun v => v.category).sum ≤ 8 := av_ok_sum hok
    obtain ⟨v0, v1, rfl⟩ : ∃ v0 v1, as = [v0, v1] := by
      match as, hlen with
      | [v0, v1], _ => exact ⟨v0, v1, rfl⟩
    have hEv : bd X d mi 0 (av_args 0 [v0, v1]) [] h2 = some (some ov, h3) := (av_bd_iff av_Sg _).mpr ⟨n, hrun⟩
    rcases hmi with rfl | rfl | rfl
    · obtain ⟨a, b, rfl, rfl, rfl, rfl⟩ := m_379 hEv
      exact va_mmax (x := a) (y := b) (rest := rest.map (av_vl f)) hx hb (hml.trans hsl.symm) hown (hts _ hlk) (hts _ hM_379s) (hts _ hM_i) (hts _ hM_379c) (by omega) (by omega) (by omega) (by omega) hdg (kk H locs n1 z1 e1 e2 hR hS)
    · obtain ⟨a, b, rfl, rfl, rfl, rfl⟩ := m_380 hEv
      exact va_mmax_long (x := a) (y := b) (rest := rest.map (av_vl f)) hx hb (hml.trans hsl.symm) hown (hts _ hlk) (hts _ hM_380s) (hts _ hM_i) (hts _ hM_380c) (by omega) (by omega) (by omega) (by omega) hdg (kk H locs n1 z1 e1 e2 hR hS)
    · obtain ⟨a, b, rfl, rfl, rfl, rfl⟩ := m_381 hEv
      exact va_mmin (x := a) (y := b) (rest := rest.map (av_vl f)) hx hb (hml.trans hsl.symm) hown (hts _ hlk) (hts _ hM_381s) (hts _ hM_i) (hts _ hM_381c) (by omega) (by omega) (by omega) (by omega) hdg (kk H locs n1 z1 e1 e2 hR hS)
