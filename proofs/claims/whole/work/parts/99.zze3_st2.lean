/-! what the start gives: all that lies outside -/
def kst_T (j : Nat) : Int32 := nI (10 ^ j)
def kst_P (j : Nat) : Int32 := nI (5 ^ (4 - j))
abbrev kst_te : Term := .static "MenOnCradles$Planner" "TENS" "[I"
abbrev kst_pl : Term := .static "MenOnCradles$Planner" "PLACES" "[I"
set_option maxRecDepth 100000 in
theorem kst_e1 : ∀ j, j < 6 → Cond.eq (kst_te.elem (.int (Int32.ofNat j))) (.int (kst_T j)) ∈ flatC (Jvm.Cond.and given_1 narrow_1) := by decide +kernel
set_option maxRecDepth 100000 in
theorem kst_e2 : ∀ j, j < 5 → Cond.eq (kst_pl.elem (.int (Int32.ofNat j))) (.int (kst_P j)) ∈ flatC (Jvm.Cond.and given_1 narrow_1) := by decide +kernel
def kst_in (i : Nat) (w : Cond) : Bool := decide (lw_tbl[i]? = some w)
theorem kst_ok {i : Nat} {w : Cond} (h : kst_in i w = true) : w ∈ lw_tbl := List.mem_of_getElem? (of_decide_eq_true h)
def kst_X (L : Nat) (xs : Nat → Int32) : av_X := fun a => if a = 1000000 then some (L, xs) else if a = 1000001 then some (6, kst_T) else if a = 1000002 then some (5, kst_P) else none
def kst_f (B b t1 t2 q : Nat) (adK : Nat → Nat) (a : Nat) : Nat := if a < 1000000 then B + a else if a = 1000000 then b else if a = 1000001 then t1 else if a = 1000002 then t2 else if a = 1000013 then q else adK (a - 1000010)
theorem kst_XT (L : Nat) (xs : Nat → Int32) : XT (kst_X L xs) := ⟨⟨kst_T, rfl, fun _ _ => rfl⟩, ⟨kst_P, rfl, fun _ _ => rfl⟩⟩
theorem kst_XA {t N : Nat} {g : Nat → Int32} {A : Nat → Prop} {s : State} (h : va_T .int t N (fun j => .int (g j)) A s s.heap) : av_XA t N g s s.heap := by
  obtain ⟨c, h1, h2, h3, h4, h5, h6, -⟩ := h
  exact ⟨c, h1, h2, h3, h4, h5, h6⟩
theorem kst_lt {t N : Nat} {g : Nat → Value} {A : Nat → Prop} {s : State} (h : va_T .int t N g A s s.heap) : t < s.heap.size := by
  obtain ⟨c, h1, -⟩ := h
  exact (Array.getElem?_eq_some_iff.mp h1).1
set_option maxRecDepth 100000 in
theorem kEX_start {s : State} {b L : Nat} {xs : Nat → Int32} {NW : List Cond} (hts : ∀ w ∈ lw_tbl, w.before #[Value.ref b] s = true) (hg : (Jvm.Cond.and given_1 narrow_1).before #[Value.ref b] s = true) (hX : va_X b L xs s s.heap)
    (hNW : ∀ w ∈ NW, w ∈ lw_tbl ∧ w.onTables = true) :
    ∃ (f adK adV : Nat → Nat), (∀ a, a < 1000000 → f a = s.heap.size + a) ∧ (∀ i, i < 3 → f (1000010 + i) = adK i) ∧ f 1000000 = b ∧ kEX NW f s.heap.size (kst_X L xs) adK adV s := by
  have hs := flat_of_before _ hg
  have hA : ∀ a : Nat, a < s.heap.size → ¬ (fun q => s.heap.size ≤ q) a := fun a h1 h2 => by
    have h3 : s.heap.size ≤ a := h2
    omega
  obtain ⟨adK, adV, hS, hK⟩ := kst_str hg hA
  obtain ⟨t1, ht1, hT1⟩ := va_Tof (f := fun j => .int (kst_T j)) (N := 6) (tm := kst_te) (ty := .int) (by decide) (hs _ (by decide +kernel)) (va_eqt (hs _ (by decide +kernel))) (fun j hj => va_eqt (hs _ (kst_e1 j hj))) hA
  obtain ⟨t2, ht2, hT2⟩ := va_Tof (f := fun j => .int (kst_P j)) (N := 5) (tm := kst_pl) (ty := .int) (by decide) (hs _ (by decide +kernel)) (va_eqt (hs _ (by decide +kernel))) (fun j hj => va_eqt (hs _ (kst_e2 j hj))) hA
  obtain ⟨q, c, cA, kA, q1, -⟩ := Cond.exactly_spec (args := #[Value.ref b]) (first := s) (o := none) (s := s) (idx := []) (t := .string "MenOnCradles" 212) (cls := "java/lang/String") (hs _ (by decide +kernel))
  have hb : b < s.heap.size := by
    obtain ⟨scr, h1, -⟩ := hX
    exact (Array.getElem?_eq_some_iff.mp h1).1
  have hXA : av_XA b L xs s s.heap := by
    obtain ⟨scr, h1, h2, h3, h4, h5⟩ := hX
    exact ⟨scr, h1, h2, h3, by omega, by rw [h4], h5⟩
  have z1 := va_Zref (hts _ (kst_ok (i := 1336) (by decide +kernel))) (hts _ (kst_ok (i := 164) (by decide +kernel))) ht1 hA
  have z2 := va_Zref (hts _ (kst_ok (i := 1376) (by decide +kernel))) (hts _ (kst_ok (i := 164) (by decide +kernel))) ht2 hA
  refine ⟨kst_f s.heap.size b t1 t2 q adK, adK, adV, fun a ha => if_pos ha, fun i hi => ?_, rfl, ⟨fun a z e => ?_, fun o n a e => ?_, fun o n a e => ?_, ?_, ?_⟩, ⟨hS, ?_, ?_⟩, fun w hw => va_Nw.of (hNW w hw).2 (hts _ (hNW w hw).1), ?_, ?_, fun n hn => ?_⟩
  · simp only [kst_f]
    rw [if_neg (by omega), if_neg (by omega), if_neg (by omega), if_neg (by omega), if_neg (by omega), Nat.add_sub_cancel_left]
  · unfold kst_X at e
    split at e
    · rename_i h0; subst h0; cases e
      exact ⟨Nat.le_refl _, hb, hb, hXA⟩
    · split at e
      · rename_i h0; subst h0; cases e
        exact ⟨by decide, kst_lt hT1, kst_lt hT1, kst_XA hT1⟩
      · split at e
        · rename_i h0; subst h0; cases e
          exact ⟨by decide, kst_lt hT2, kst_lt hT2, kst_XA hT2⟩
        · cases e
  · have e : (o, n, a) ∈ kSL := e
    simp only [kSL, List.mem_cons, Prod.mk.injEq, List.not_mem_nil, or_false] at e
    rcases e with ⟨rfl, rfl, rfl⟩ | ⟨rfl, rfl, rfl⟩ | ⟨rfl, rfl, rfl⟩ | ⟨rfl, rfl, rfl⟩
    · exact ⟨"()<=+-*;", vk_R.of (hts _ (kst_ok (i := 857) (by decide +kernel))) (hK 2 (by decide))⟩
    · exact ⟨"stop    quiet   wear    price   water   rate    drill   keys    when    and     or      not     ", vk_R.of (hts _ (kst_ok (i := 799) (by decide +kernel))) (hK 0 (by decide))⟩
    · exact ⟨"tower   side    floors  day     week    hour    wind    panes   hours   worn    age     ", vk_R.of (hts _ (kst_ok (i := 852) (by decide +kernel))) (hK 1 (by decide))⟩
    · exact ⟨"no such drop, or nothing such of it", vk_R.of (hts _ (kst_ok (i := 1714) (by decide +kernel))) q1⟩
  · have e : (o, n, a) ∈ kGL := e
    simp only [kGL, List.mem_cons, Prod.mk.injEq, List.not_mem_nil, or_false] at e
    rcases e with ⟨rfl, rfl, rfl⟩ | ⟨rfl, rfl, rfl⟩
    · exact ⟨_, _, _, z1, kin_ok (i := 1335) (by decide +kernel)⟩
    · exact ⟨_, _, _, z2, kin_ok (i := 1375) (by decide +kernel)⟩
  · exact va_AO.of (hts _ (kst_ok (i := 191) (by decide +kernel)))
  · exact va_AO.of (hts _ (kst_ok (i := 442) (by decide +kernel)))
  · exact va_Zof (hts _ (kst_ok (i := 813) (by decide +kernel))) (hts _ (kst_ok (i := 171) (by decide +kernel))) (va_eqt (hs _ (by decide +kernel))) hA
  · exact va_Zqof (hts _ (kst_ok (i := 829) (by decide +kernel))) (hts _ (kst_ok (i := 173) (by decide +kernel))) (hs _ (by decide +kernel)) hA
  · exact vx_Zqof (hts _ (kst_ok (i := 1702) (by decide +kernel))) (hts _ (kst_ok (i := 177) (by decide +kernel))) (hs _ (by decide +kernel)) hA
  · exact vx_Zqof (hts _ (kst_ok (i := 1704) (by decide +kernel))) (hts _ (kst_ok (i := 177) (by decide +kernel))) (hs _ (by decide +kernel)) hA
  · rcases hn with rfl | rfl
    · obtain ⟨q3, _, _, _, q4, -⟩ := Cond.exactly_spec (args := #[Value.ref b]) (first := s) (o := none) (s := s) (idx := []) (t := .string "MenOnCradles" 332) (cls := "java/lang/String") (hs _ (by decide +kernel))
      exact ⟨"no such day, left or what", q3, vk_R.of (hts _ (kst_ok (i := 1753) (by decide +kernel))) q4⟩
    · obtain ⟨q3, _, _, _, q4, -⟩ := Cond.exactly_spec (args := #[Value.ref b]) (first := s) (o := none) (s := s) (idx := []) (t := .string "MenOnCradles" 348) (cls := "java/lang/String") (hs _ (by decide +kernel))
      exact ⟨"no such what", q3, vk_R.of (hts _ (kst_ok (i := 1771) (by decide +kernel))) q4⟩
