/-! fuel-free meaning of the abstract machine: limits over fuel, and their fixpoint equations -/
def av_leC (c c2 : av_C) : Prop := ∀ mi as h r, c mi as h = some r → c2 mi as h = some r
def av_leB (b b2 : av_B) : Prop := ∀ i ls st h r, b i ls st h = some r → b2 i ls st h = some r
noncomputable def av_lim {α : Type} (f : Nat → Option α) : Option α := @dite _ (∃ n, (f n).isSome = true) (Classical.propDecidable _) (fun p => f (Classical.choose p)) (fun _ => none)
def av_up {α : Type} (f : Nat → Option α) : Prop := ∀ n r, f n = some r → f (n + 1) = some r
theorem av_up.le {α : Type} {f : Nat → Option α} (hf : av_up f) {n : Nat} : ∀ (k : Nat) {r : α}, f n = some r → f (n + k) = some r
  | 0, _, h => h
  | k + 1, _, h => hf _ _ (hf.le k h)
theorem av_up.at {α : Type} {f : Nat → Option α} (hf : av_up f) {n m : Nat} (hnm : n ≤ m) {r : α} (h : f n = some r) : f m = some r := by
  have := hf.le (m - n) h
  rwa [show n + (m - n) = m by omega] at this
theorem av_lim_iff {α : Type} {f : Nat → Option α} (hf : av_up f) (r : α) : av_lim f = some r ↔ ∃ n, f n = some r := by
  unfold av_lim
  by_cases p : ∃ n, (f n).isSome = true
  · rw [dif_pos p]
    obtain ⟨v, hv⟩ := Option.isSome_iff_exists.mp (Classical.choose_spec p)
    constructor
    · exact fun h => ⟨_, h⟩
    · rintro ⟨n, hn⟩
      have h1 := hf.at (Nat.le_max_left n (Classical.choose p)) hn
      have h2 := hf.at (Nat.le_max_right n (Classical.choose p)) hv
      rw [h1] at h2
      rw [hv, ← h2]
  · rw [dif_neg p]
    constructor
    · exact fun h => absurd h (by simp)
    · rintro ⟨n, hn⟩
      exact absurd ⟨n, by rw [hn]; rfl⟩ p
theorem av_opt_ext {α : Type} {a b : Option α} (h : ∀ r, a = some r ↔ b = some r) : a = b := by
  cases a with
  | none => cases b with
    | none => rfl
    | some v => exact absurd ((h v).mpr rfl) (by simp)
  | some v => exact ((h v).mp rfl).symm
/-- F hears of call and next only through answers: it grows with them, and needs finitely many -/
def av_gd {α : Type} (F : av_C → av_B → Option α) : Prop :=
  (∀ c c2 b b2, av_leC c c2 → av_leB b b2 → ∀ r, F c b = some r → F c2 b2 = some r) ∧
  ∀ (cs : Nat → av_C) (bs : Nat → av_B), (∀ mi as h, av_up (fun n => cs n mi as h)) → (∀ i ls st h, av_up (fun n => bs n i ls st h)) →
    ∀ r, F (fun mi as h => av_lim (fun n => cs n mi as h)) (fun i ls st h => av_lim (fun n => bs n i ls st h)) = some r → ∃ n, F (cs n) (bs n) = some r
theorem av_gd.const {α : Type} (o : Option α) : av_gd (fun _ _ => o) := ⟨fun _ _ _ _ _ _ _ h => h, fun _ _ _ _ _ h => ⟨0, h⟩⟩
theorem av_gd.back (i : Nat) (ls : av_L) (st : List av_V) (h : av_H) : av_gd (fun _ b => b i ls st h) :=
  ⟨fun _ _ _ _ _ hb r q => hb _ _ _ _ r q, fun cs bs _ hb r q => (av_lim_iff (hb i ls st h) r).mp q⟩
theorem av_gd.call (mi : Nat) (as : List av_V) (h : av_H) : av_gd (fun c _ => c mi as h) :=
  ⟨fun _ _ _ _ hc _ r q => hc _ _ _ r q, fun cs bs hc _ r q => (av_lim_iff (hc mi as h) r).mp q⟩
theorem av_gd.bind {α β : Type} {F : av_C → av_B → Option α} {K : α → av_C → av_B → Option β} (hF : av_gd F) (hK : ∀ a, av_gd (K a)) : av_gd (fun c b => (F c b).bind (fun a => K a c b)) := by
  refine ⟨fun c c2 b b2 h1 h2 r q => ?_, fun cs bs h1 h2 r q => ?_⟩
  · obtain ⟨a, e1, e2⟩ := Option.bind_eq_some_iff.mp q
    exact Option.bind_eq_some_iff.mpr ⟨a, hF.1 _ _ _ _ h1 h2 _ e1, (hK a).1 _ _ _ _ h1 h2 _ e2⟩
  · obtain ⟨a, e1, e2⟩ := Option.bind_eq_some_iff.mp q
    obtain ⟨n, g1⟩ := hF.2 cs bs h1 h2 _ e1
    obtain ⟨m, g2⟩ := (hK a).2 cs bs h1 h2 _ e2
    have upC : ∀ {n m : Nat}, n ≤ m → av_leC (cs n) (cs m) := fun hnm mi as h r q => (h1 mi as h).at hnm q
    have upB : ∀ {n m : Nat}, n ≤ m → av_leB (bs n) (bs m) := fun hnm i ls st h r q => (h2 i ls st h).at hnm q
    exact ⟨max n m, Option.bind_eq_some_iff.mpr ⟨a, hF.1 _ _ _ _ (upC (Nat.le_max_left n m)) (upB (Nat.le_max_left n m)) _ g1, (hK a).1 _ _ _ _ (upC (Nat.le_max_right n m)) (upB (Nat.le_max_right n m)) _ g2⟩⟩
theorem av_gd.ite {α : Type} {p : Prop} {q : Decidable p} {F G : av_C → av_B → Option α} (hF : av_gd F) (hG : av_gd G) : av_gd (fun c b => @ite _ p q (F c b) (G c b)) := by
  cases q with
  | isTrue h => exact hF
  | isFalse h => exact hG
theorem av_gd.cond {α : Type} {p : Bool} {F G : av_C → av_B → Option α} (hF : av_gd F) (hG : av_gd G) : av_gd (fun c b => cond p (F c b) (G c b)) := by
  cases p with
  | true => exact hF
  | false => exact hG
theorem av_gd.sw {f : av_C → av_B → Nat → av_T} (hf : ∀ k, av_gd (fun c b => f c b k)) (x : Int32) (d : Nat) : ∀ ts : List (Int32 × Nat), av_gd (fun c b => av_sw (f c b) x d ts)
  | [] => hf d
  | q :: t => av_gd.ite (hf q.2) (av_gd.sw hf x d t)
theorem av_gd.cV {F : av_C → av_B → av_T} (hF : av_gd F) : av_gd (fun c b => av_cV (F c b)) := av_gd.bind hF (fun q => av_gd.const _)
theorem av_gd.cI {F : av_C → av_B → av_T} (hF : av_gd F) : av_gd (fun c b => av_cI (F c b)) := av_gd.bind hF (fun q => av_gd.const _)
theorem av_gd.cL {F : av_C → av_B → av_T} (hF : av_gd F) : av_gd (fun c b => av_cL (F c b)) := av_gd.bind hF (fun q => av_gd.const _)
theorem av_gd.res {N : av_C → av_B → av_B} (hN : ∀ i ls st h, av_gd (fun c b => N c b i ls st h)) (k i : Nat) (ls : av_L) (st : List av_V) {F : av_C → av_B → av_T} (hF : av_gd F) : av_gd (fun c b => av_res (N c b) k i ls st (F c b)) := by
  match k with
  | 0 => exact av_gd.bind hF.cV (fun q => hN _ _ _ _)
  | 1 => exact av_gd.bind hF.cI (fun q => hN _ _ _ _)
  | k + 2 => exact av_gd.bind hF.cL (fun q => hN _ _ _ _)
set_option maxHeartbeats 4000000 in
theorem av_gd.ins (X : av_X) (rb : Nat) {N : av_C → av_B → av_B} (hN : ∀ i ls st h, av_gd (fun c b => N c b i ls st h)) (ins : Instr) (a b c d : Nat) (zi : Int32) (zl : Int64) (ts : List (Int32 × Nat)) (i : Nat) (ls : av_L) (st : List av_V) (h : av_H) : av_gd (fun cl bk => av_ins X cl rb (N cl bk) ins a b c d zi zl ts i ls st h) := by
  unfold av_ins
  split
  all_goals try (exact hN _ _ _ _)
  all_goals try (exact av_gd.const _)
  all_goals try (split <;> first | exact hN _ _ _ _ | exact av_gd.const _ | exact av_gd.ite (hN _ _ _ _) (hN _ _ _ _) | exact av_gd.ite (av_gd.const _) (hN _ _ _ _) | exact av_gd.bind (av_gd.const _) (fun _ => hN _ _ _ _) | exact av_gd.sw (fun k => hN _ _ _ _) _ _ _)
  · split
    · split <;> exact av_gd.bind (av_gd.const _) (fun _ => hN _ _ _ _)
    · exact av_gd.const _
  · split <;> (split <;> first | exact av_gd.const _ | exact av_gd.bind (av_gd.const _) (fun _ => hN _ _ _ _))
  · exact av_gd.cond (av_gd.res hN _ _ _ _ (av_gd.call _ _ _)) (av_gd.const _)
  · split
    · refine av_gd.cond ?_ (av_gd.const _)
      split
      · exact av_gd.res hN _ _ _ _ (av_gd.call _ _ _)
      · exact av_gd.ite (av_gd.res hN _ _ _ _ (av_gd.call _ _ _)) (av_gd.const _)
    · exact av_gd.const _
  · split
    · refine av_gd.cond (av_gd.ite ?_ (av_gd.const _)) (av_gd.const _)
      split
      · exact hN _ _ _ _
      · exact av_gd.res hN _ _ _ _ (av_gd.call _ _ _)
    · exact av_gd.const _
theorem av_gd.jmp {N : av_C → av_B → av_B} (hN : ∀ i ls st h, av_gd (fun c b => N c b i ls st h)) (hs : List (Nat × List Nat)) (i : Nat) (ls : av_L) (st : List av_V) (h : av_H) : av_gd (fun c b => av_jmp hs b (N c b) i ls st h) := by
  unfold av_jmp
  split
  · exact hN _ _ _ _
  · exact av_gd.back _ _ _ _
theorem av_gd.seg (X : av_X) (M : av_M) : ∀ (k i : Nat) (ls : av_L) (st : List av_V) (h : av_H), av_gd (fun c b => av_seg X c M b k i ls st h)
  | 0, _, _, _, _ => av_gd.const _
  | k + 1, i, ls, st, h => by
    simp only [av_seg]
    split
    · exact av_gd.const _
    · exact av_gd.ins X M.1 (av_gd.jmp (av_gd.seg X M k) M.2.2.1) _ _ _ _ _ _ _ _ _ _ _ _
section
variable {P : Nat → Option av_M} {S : av_C → av_C} {X : av_X}
/-- what the special methods do grows with what they call, and needs finitely many answers -/
def av_gS (S : av_C → av_C) : Prop := ∀ mi as h, av_gd (fun c _ => S c mi as h)
theorem av_cal_le (hS : av_gS S) {r r2 : Nat → Nat → av_B} (hr : ∀ d mi, av_leB (r d mi) (r2 d mi)) : ∀ d, av_leC (av_cal P S r d) (av_cal P S r2 d)
  | 0 => fun _ _ _ _ h => h
  | d + 1 => fun mi as h q e => by
    simp only [av_cal] at e ⊢
    split at e
    · exact (hS mi as h).1 _ _ (fun _ _ _ _ => none) (fun _ _ _ _ => none) (av_cal_le hS hr d) (fun _ _ _ _ _ h => h) q e
    · rename_i M hM
      cases hb : Nat.ble (av_sm as) M.2.1 with
      | false => rw [hb] at e; exact absurd e (by simp)
      | true => rw [hb] at e; exact hr _ _ _ _ _ _ _ e
theorem av_run_up (hS : av_gS S) : ∀ (n d mi : Nat), av_leB (av_run P S X n d mi) (av_run P S X (n + 1) d mi)
  | 0, _, _ => fun _ _ _ _ _ h => absurd h (by simp [av_run])
  | n + 1, d, mi => fun i ls st h r e => by
    rw [av_run] at e ⊢
    split at e
    · exact absurd e (by simp)
    · exact (av_gd.seg X _ 3000 i ls st h).1 _ _ _ _ (av_cal_le hS (fun d mi => av_run_up hS n d mi) d) (av_run_up hS n d mi) r e
theorem av_cal_up (hS : av_gS S) (n d : Nat) : av_leC (av_cal P S (av_run P S X n) d) (av_cal P S (av_run P S X (n + 1)) d) := av_cal_le hS (fun d mi => av_run_up hS n d mi) d
/-- a method's body from a place on; a call -/
noncomputable def av_bd (P : Nat → Option av_M) (S : av_C → av_C) (X : av_X) (d mi : Nat) : av_B := fun i ls st h => av_lim (fun n => av_run P S X n d mi i ls st h)
noncomputable def av_ev (P : Nat → Option av_M) (S : av_C → av_C) (X : av_X) (d : Nat) : av_C := fun mi as h => av_lim (fun n => av_cal P S (av_run P S X n) d mi as h)
theorem av_bd_iff (hS : av_gS S) {d mi i : Nat} {ls : av_L} {st : List av_V} {h : av_H} (r : Option (Option av_V) × av_H) : av_bd P S X d mi i ls st h = some r ↔ ∃ n, av_run P S X n d mi i ls st h = some r := av_lim_iff (fun n r q => av_run_up hS n d mi i ls st h r q) r
theorem av_ev_iff (hS : av_gS S) {d mi : Nat} {as : List av_V} {h : av_H} (r : Option (Option av_V) × av_H) : av_ev P S X d mi as h = some r ↔ ∃ n, av_cal P S (av_run P S X n) d mi as h = some r := av_lim_iff (fun n r q => av_cal_up hS n d mi as h r q) r
theorem av_bd_eq (hS : av_gS S) {M : av_M} {mi : Nat} (hP : P mi = some M) (d i : Nat) (ls : av_L) (st : List av_V) (h : av_H) : av_bd P S X d mi i ls st h = av_seg X (av_ev P S X d) M (av_bd P S X d mi) 3000 i ls st h := by
  refine av_opt_ext fun r => ?_
  rw [av_bd_iff hS]
  constructor
  · rintro ⟨n, e⟩
    cases n with
    | zero => exact absurd e (by simp [av_run])
    | succ n =>
      rw [av_run, hP] at e
      exact (av_gd.seg X M 3000 i ls st h).1 _ _ _ _ (fun mi as h r q => (av_ev_iff hS r).mpr ⟨n, q⟩) (fun i ls st h r q => (av_bd_iff hS r).mpr ⟨n, q⟩) r e
  · intro e
    obtain ⟨n, e⟩ := (av_gd.seg X M 3000 i ls st h).2 (fun n => av_cal P S (av_run P S X n) d) (fun n => av_run P S X n d mi) (fun mi as h n r q => av_cal_up hS n d mi as h r q) (fun i ls st h n r q => av_run_up hS n d mi i ls st h r q) r e
    exact ⟨n + 1, by rw [av_run, hP]; exact e⟩
theorem av_ev_eq (hS : av_gS S) {M : av_M} {mi : Nat} (hP : P mi = some M) (d : Nat) (as : List av_V) (h : av_H) (hb : Nat.ble (av_sm as) M.2.1 = true) : av_ev P S X (d + 1) mi as h = av_bd P S X d mi 0 (av_args 0 as) [] h := by
  refine av_opt_ext fun r => ?_
  rw [av_bd_iff hS, av_ev_iff hS]
  constructor
  · rintro ⟨n, e⟩
    simp only [av_cal, hP, hb, cond_true] at e
    exact ⟨n, e⟩
  · rintro ⟨n, e⟩
    exact ⟨n, by simp only [av_cal, hP, hb, cond_true]; exact e⟩
theorem av_ev_sp (hS : av_gS S) {mi : Nat} (hP : P mi = none) (d : Nat) (as : List av_V) (h : av_H) : av_ev P S X (d + 1) mi as h = S (av_ev P S X d) mi as h := by
  refine av_opt_ext fun r => ?_
  rw [av_ev_iff hS]
  constructor
  · rintro ⟨n, e⟩
    simp only [av_cal, hP] at e
    exact (hS mi as h).1 _ _ (fun _ _ _ _ => none) (fun _ _ _ _ => none) (fun mi as h r q => (av_ev_iff hS r).mpr ⟨n, q⟩) (fun _ _ _ _ _ h => h) r e
  · intro e
    obtain ⟨n, e⟩ := (hS mi as h).2 (fun n => av_cal P S (av_run P S X n) d) (fun _ _ _ _ _ => none) (fun mi as h n r q => av_cal_up hS n d mi as h r q) (fun i ls st h n r q => absurd q (by simp)) r e
    exact ⟨n, by simp only [av_cal, hP]; exact e⟩
theorem av_ev_0 {mi : Nat} {as : List av_V} {h : av_H} (hS : av_gS S) : av_ev P S X 0 mi as h = none := by
  refine av_opt_ext fun r => ?_
  rw [av_ev_iff hS]
  exact ⟨fun ⟨n, e⟩ => absurd e (by simp [av_cal]), fun e => absurd e (by simp)⟩
end
