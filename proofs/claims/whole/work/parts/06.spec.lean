/-! the methods that are told, not walked here: three of String on the constants, and the law's four that catch -/
def av_tx : List (List Int32) := [[115, 116, 111, 112, 32, 32, 32, 32, 113, 117, 105, 101, 116, 32, 32, 32, 119, 101, 97, 114, 32, 32, 32, 32, 112, 114, 105, 99, 101, 32, 32, 32, 119, 97, 116, 101, 114, 32, 32, 32, 114, 97, 116, 101, 32, 32, 32, 32, 100, 114, 105, 108, 108, 32, 32, 32, 107, 101, 121, 115, 32, 32, 32, 32, 119, 104, 101, 110, 32, 32, 32, 32, 97, 110, 100, 32, 32, 32, 32, 32, 111, 114, 32, 32, 32, 32, 32, 32, 110, 111, 116, 32, 32, 32, 32, 32],
  [116, 111, 119, 101, 114, 32, 32, 32, 115, 105, 100, 101, 32, 32, 32, 32, 102, 108, 111, 111, 114, 115, 32, 32, 100, 97, 121, 32, 32, 32, 32, 32, 119, 101, 101, 107, 32, 32, 32, 32, 104, 111, 117, 114, 32, 32, 32, 32, 119, 105, 110, 100, 32, 32, 32, 32, 112, 97, 110, 101, 115, 32, 32, 32, 104, 111, 117, 114, 115, 32, 32, 32, 119, 111, 114, 110, 32, 32, 32, 32, 97, 103, 101, 32, 32, 32, 32, 32],
  [40, 41, 60, 61, 43, 45, 42, 59]]
def av_st (r : Nat) : Option (List Int32) := if 1000010 ≤ r then av_tx[r - 1000010]? else none
def av_ix (c : Int32) : List Int32 → Nat → Option Nat
  | [], _ => none
  | x :: t, k => if x = c then some k else av_ix c t (k + 1)
/-- what a catching method answers: 1 of a throw, else 0 and the answer stands in the array's first place -/
def av_catI (x : av_T) (o : Option Nat) : av_T := x.bind fun q => match q.1 with
  | none => av_rI 1 q.2
  | some (some (.inl v)) => (av_sL q.2 o 0 v.toInt64).bind fun g => av_rI 0 g
  | _ => none
def av_catL (x : av_T) (o : Option Nat) : av_T := x.bind fun q => match q.1 with
  | none => av_rI 1 q.2
  | some (some (.inr (.inl v))) => (av_sL q.2 o 0 v).bind fun g => av_rI 0 g
  | _ => none
def av_S (c : av_C) (mi : Nat) (as : List av_V) (h : av_H) : av_T := match mi with
  | 9001 => match as with
    | [.inr (.inr (some r))] => (av_st r).bind fun t => av_rI (Int32.ofNat t.length) h
    | _ => none
  | 9002 => match as with
    | [.inr (.inr (some r)), .inl i] => (av_st r).bind fun t => if i < 0 then none else (t[i.toNatClampNeg]?).bind fun v => av_rI v h
    | _ => none
  | 9003 => match as with
    | [.inr (.inr (some r)), .inl v] => (av_st r).bind fun t => av_rI (match av_ix v t 0 with
      | none => -1
      | some k => Int32.ofNat k) h
    | _ => none
  | 9100 => match as with
    | [.inr (.inr x), .inl p, .inl q, .inr (.inr o)] => if av_is h x 10 = true then av_catI (c 141 [.inr (.inr x), .inl p, .inl q] h) o else none
    | _ => none
  | 9101 => match as with
    | [.inr (.inr x), .inl p, .inl q, .inl r, .inr (.inr o)] => if av_is h x 10 = true then av_catL (c 154 [.inr (.inr x), .inl p, .inl q, .inl r] h) o else none
    | _ => none
  | 9102 => match as with
    | [.inr (.inr x), .inl p, .inr (.inr o)] => if av_is h x 10 = true then av_catL (c 155 [.inr (.inr x), .inl p] h) o else none
    | _ => none
  | 9103 => match as with
    | [.inr (.inr x), .inl p, .inr (.inr o)] => if av_is h x 10 = true then av_catL (c 180 [.inr (.inr x), .inl p] h) o else none
    | _ => none
  | _ => none
theorem av_Sg : av_gS av_S := by
  intro mi as h
  unfold av_S
  split
  all_goals try (split <;> first | exact av_gd.const _ | (split <;> first | exact av_gd.bind (av_gd.call _ _ _) (fun _ => av_gd.const _) | exact av_gd.const _))
  exact av_gd.const _
noncomputable abbrev bd (X : av_X) (d mi : Nat) : av_B := av_bd av_P av_S X d mi
noncomputable abbrev ev (X : av_X) (d : Nat) : av_C := av_ev av_P av_S X d
