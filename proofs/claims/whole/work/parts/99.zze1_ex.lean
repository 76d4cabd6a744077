/-! what lies outside, and stays -/
def kEX (NW : List Cond) (f : Nat → Nat) (B : Nat) (X : av_X) (adK adV : Nat → Nat) (U : State) : Prop :=
  av_XF kK kON f B X kTB U ∧ kx_E B adK adV U ∧ (∀ w ∈ NW, va_Nw w U) ∧ vx_Zq Bundle.tN "UNASSIGNED_STACK" Bundle.steD (fun q => B ≤ q) U U.heap ∧ vx_Zq Bundle.tN "SUPPRESSED_SENTINEL" Bundle.listD (fun q => B ≤ q) U U.heap ∧ ∀ n : Nat, n = 332 ∨ n = 348 → ∃ (tx : String) (a : Nat), vk_R "MenOnCradles" n tx a U
def kNWok (NW : List Cond) : Prop := ∀ w ∈ NW, (∃ a i x h, w = .methodLinkNest a i x h) ∨ (∃ x, w = .declares x) ∨ (∃ C T, w = .castable C T)
theorem kEM {NW : List Cond} (hNW : kNWok NW) {f : Nat → Nat} {B : Nat} {X : av_X} {adK adV : Nat → Nat} (s U : State) (H : Heap) (locs : List Loc) (h : kEX NW f B X adK adV s) (hS : va_S (fun q => B ≤ q) s.heap H locs) (hU : U.heap = H) (hW : s.WarmedH U.vm) : kEX NW f B X adK adV U := by
  obtain ⟨⟨x1, x2, x3, x4, x5⟩, h2, h3, h4, h5, h6⟩ := h
  have hA := hW.alike
  have hq : ∀ a : Nat, a < s.heap.size → ¬ (fun q => B ≤ q) a → U.heap[a]? = s.heap[a]? := fun a q1 q2 => by rw [hU]; exact hS.2.1 a q1 q2
  refine ⟨⟨fun a q e => ?_, fun o n a e => ?_, fun o n a e => ?_, va_AO.moved hA x4, va_AO.moved hA x5⟩, h2.to hS hU hA, fun w hw => ?_, vx_Zq.moved hA (h4.kept hq), vx_Zq.moved hA (h5.kept hq), fun n hn => (h6 n hn).elim fun tx h7 => h7.elim fun a h8 => ⟨tx, a, vk_R.warm hW h8⟩⟩
  · obtain ⟨y1, y2, y3, scr, z1, z2, z3⟩ := x1 a q e
    refine ⟨y1, y2, by rw [hU]; exact Nat.lt_of_lt_of_le y3 hS.1, scr, ?_, State.isArrayOf_alike hA z2, z3⟩
    rw [hq _ y3 (by show ¬ B ≤ f a; omega)]
    exact z1
  · obtain ⟨tx, ht⟩ := x2 o n a e
    exact ⟨tx, vk_R.warm hW ht⟩
  · obtain ⟨C, nm, d, hz, hl⟩ := x3 o n a e
    exact ⟨C, nm, d, va_Z.moved hA (hz.kept hq), hl⟩
  · rcases hNW w hw with ⟨a, i, x, h, rfl⟩ | ⟨x, rfl⟩ | ⟨C, T, rfl⟩
    · exact va_Nw.warmM hW (h3 _ hw)
    · exact va_Nw.warmD hW (h3 _ hw)
    · exact va_Nw.warmC hW (h3 _ hw)
