/-! block equations, by wip/whole/gen/mk.py -/
variable {X : av_X}
/-! 0 = X0_init -/
set_option maxRecDepth 100000 in
theorem b_0_0 (d : Nat) (v0 : Option Nat) (h : av_H) : bd X d 0 0 [(0, vr v0)] [] h =
  if av_is h v0 0 = true then (
  av_rV h) else none :=
  (av_bd_eq av_Sg p_0 _ _ _ _ _).trans rfl
theorem e_0 (d : Nat) (v0 : Option Nat) (h : av_H) : ev X (d + 1) 0 [vr v0] h = bd X d 0 0 [(0, vr v0)] [] h := av_ev_eq av_Sg p_0 d _ h rfl
/-! 1 = X0_place -/
set_option maxRecDepth 100000 in
theorem b_1_0 (d : Nat) (v0 : Option Nat) (v1 : Int32) (v2 : Int32) (v3 : Int32) (h : av_H) : bd X d 1 0 [(0, vr v0), (1, vi v1), (2, vi v2), (3, vi v3)] [] h =
  (av_pI h v0 0 0 v1).bind fun g1 =>
  (av_pI g1 v0 0 1 v2).bind fun g2 =>
  (av_pI g2 v0 0 2 v3).bind fun g3 =>
  av_rV g3 :=
  (av_bd_eq av_Sg p_1 _ _ _ _ _).trans rfl
theorem e_1 (d : Nat) (v0 : Option Nat) (v1 : Int32) (v2 : Int32) (v3 : Int32) (h : av_H) : ev X (d + 1) 1 [vr v0, vi v1, vi v2, vi v3] h = bd X d 1 0 [(0, vr v0), (1, vi v1), (2, vi v2), (3, vi v3)] [] h := av_ev_eq av_Sg p_1 d _ h rfl
/-! 2 = X0_overlaps -/
set_option maxRecDepth 100000 in
theorem b_2_0 (d : Nat) (v0 : Option Nat) (v1 : Option Nat) (h : av_H) : bd X d 2 0 [(0, vr v0), (1, vr v1)] [] h =
  (av_gI h v0 0 4).bind fun x1 =>
  (av_gI h v1 0 4).bind fun x2 =>
  if x1 = x2 then
    ((av_gI h v0 0 5).bind fun x3 =>
    (av_gI h v1 0 5).bind fun x4 =>
    (av_gI h v1 0 6).bind fun x5 =>
    if x3 < (x4 + x5) then
      ((av_gI h v1 0 5).bind fun x6 =>
      (av_gI h v0 0 5).bind fun x7 =>
      (av_gI h v0 0 6).bind fun x8 =>
      if x6 < (x7 + x8) then
        ((av_bz (1 : Int32)).bind fun w => av_rI w h)
      else (av_bz (0 : Int32)).bind fun w => av_rI w h)
    else (av_bz (0 : Int32)).bind fun w => av_rI w h)
  else (av_bz (0 : Int32)).bind fun w => av_rI w h :=
  (av_bd_eq av_Sg p_2 _ _ _ _ _).trans rfl
theorem e_2 (d : Nat) (v0 : Option Nat) (v1 : Option Nat) (h : av_H) : ev X (d + 1) 2 [vr v0, vr v1] h = bd X d 2 0 [(0, vr v0), (1, vr v1)] [] h := av_ev_eq av_Sg p_2 d _ h rfl
/-! 3 = X0_hasPerson -/
set_option maxRecDepth 100000 in
theorem b_3_0 (d : Nat) (v0 : Option Nat) (v1 : Int32) (h : av_H) : bd X d 3 0 [(0, vr v0), (1, vi v1)] [] h =
  (av_gI h v0 0 8).bind fun x1 =>
  if x1 = v1 then
    ((av_bz (1 : Int32)).bind fun w => av_rI w h)
  else (av_gI h v0 0 9).bind fun x2 =>
  if x2 = v1 then
    ((av_bz (1 : Int32)).bind fun w => av_rI w h)
  else (av_bz (0 : Int32)).bind fun w => av_rI w h :=
  (av_bd_eq av_Sg p_3 _ _ _ _ _).trans rfl
theorem e_3 (d : Nat) (v0 : Option Nat) (v1 : Int32) (h : av_H) : ev X (d + 1) 3 [vr v0, vi v1] h = bd X d 3 0 [(0, vr v0), (1, vi v1)] [] h := av_ev_eq av_Sg p_3 d _ h rfl
/-! 4 = X0_besides -/
set_option maxRecDepth 100000 in
theorem b_4_0 (d : Nat) (v0 : Option Nat) (v1 : Int32) (h : av_H) : bd X d 4 0 [(0, vr v0), (1, vi v1)] [] h =
  (av_gI h v0 0 8).bind fun x1 =>
  if x1 = v1 then
    ((av_gI h v0 0 9).bind fun x2 =>
    av_rI x2 h)
  else (av_gI h v0 0 8).bind fun x3 =>
  av_rI x3 h :=
  (av_bd_eq av_Sg p_4 _ _ _ _ _).trans rfl
theorem e_4 (d : Nat) (v0 : Option Nat) (v1 : Int32) (h : av_H) : ev X (d + 1) 4 [vr v0, vi v1] h = bd X d 4 0 [(0, vr v0), (1, vi v1)] [] h := av_ev_eq av_Sg p_4 d _ h rfl
/-! 5 = X0_daysSinceDrill -/
set_option maxRecDepth 100000 in
theorem b_5_0 (d : Nat) (v0 : Option Nat) (v1 : Int32) (h : av_H) : bd X d 5 0 [(0, vr v0), (1, vi v1)] [] h =
  (av_gI h v0 0 4).bind fun x1 =>
  (av_gI h v0 0 8).bind fun x2 =>
  if x2 = v1 then
    ((av_gI h v0 0 10).bind fun x3 =>
    av_rI (x1 - x3) h)
  else (av_gI h v0 0 11).bind fun x4 =>
  av_rI (x1 - x4) h :=
  (av_bd_eq av_Sg p_5 _ _ _ _ _).trans rfl
theorem e_5 (d : Nat) (v0 : Option Nat) (v1 : Int32) (h : av_H) : ev X (d + 1) 5 [vr v0, vi v1] h = bd X d 5 0 [(0, vr v0), (1, vi v1)] [] h := av_ev_eq av_Sg p_5 d _ h rfl
/-! 6 = X0_reachedFloors -/
set_option maxRecDepth 100000 in
theorem b_6_0 (d : Nat) (v0 : Option Nat) (v1 : Int32) (h : av_H) : bd X d 6 0 [(0, vr v0), (1, vi v1)] [] h =
  (av_gI h v0 0 2).bind fun x1 =>
  (av_cI (ev X d 184 [vi (v1 - x1), vi (4 : Int32)] h)).bind fun q2 =>
  if q2.1 = 0 then
    (av_rI (0 : Int32) q2.2)
  else (av_gL q2.2 v0 0 18).bind fun x3 =>
  av_rI ((((x3.toUInt64 >>> (((v1 - x1) * (12 : Int32)).toInt64.toUInt64 &&& Int64.toUInt64 63)).toInt64).toInt32) &&& (4095 : Int32)) q2.2 :=
  (av_bd_eq av_Sg p_6 _ _ _ _ _).trans rfl
theorem e_6 (d : Nat) (v0 : Option Nat) (v1 : Int32) (h : av_H) : ev X (d + 1) 6 [vr v0, vi v1] h = bd X d 6 0 [(0, vr v0), (1, vi v1)] [] h := av_ev_eq av_Sg p_6 d _ h rfl
/-! 7 = X0_hasReached -/
set_option maxRecDepth 100000 in
theorem b_7_0 (d : Nat) (v0 : Option Nat) (v1 : Int32) (v2 : Int32) (v3 : Int32) (v4 : Int32) (h : av_H) : bd X d 7 0 [(0, vr v0), (1, vi v1), (2, vi v2), (3, vi v3), (4, vi v4)] [] h =
  (av_gI h v0 0 0).bind fun x1 =>
  if x1 = v1 then
    ((av_gI h v0 0 1).bind fun x2 =>
    if x2 = v2 then
      (if av_is h v0 0 = true then (
      (av_cI (ev X d 6 [vr v0, vi v4] h)).bind fun q3 =>
      (av_cI (ev X d 185 [vi (q3.1), vi v3] q3.2)).bind fun q4 =>
      if q4.1 = 0 then
        ((av_bz (0 : Int32)).bind fun w => av_rI w q4.2)
      else (av_bz (1 : Int32)).bind fun w => av_rI w q4.2) else none)
    else (av_bz (0 : Int32)).bind fun w => av_rI w h)
  else (av_bz (0 : Int32)).bind fun w => av_rI w h :=
  (av_bd_eq av_Sg p_7 _ _ _ _ _).trans rfl
theorem e_7 (d : Nat) (v0 : Option Nat) (v1 : Int32) (v2 : Int32) (v3 : Int32) (v4 : Int32) (h : av_H) : ev X (d + 1) 7 [vr v0, vi v1, vi v2, vi v3, vi v4] h = bd X d 7 0 [(0, vr v0), (1, vi v1), (2, vi v2), (3, vi v3), (4, vi v4)] [] h := av_ev_eq av_Sg p_7 d _ h rfl
/-! 8 = X0_reachedSeenFrom -/
set_option maxRecDepth 100000 in
theorem b_8_0 (d : Nat) (v0 : Option Nat) (v1 : Option Nat) (h : av_H) : bd X d 8 0 [(0, vr v0), (1, vr v1)] [] h =
  (av_gI h v0 0 2).bind fun x1 =>
  (av_gI h v1 0 2).bind fun x2 =>
  (av_gI h v0 0 0).bind fun x3 =>
  (av_gI h v1 0 0).bind fun x4 =>
  if x3 = x4 then
    ((av_gI h v0 0 1).bind fun x5 =>
    (av_gI h v1 0 1).bind fun x6 =>
    if x5 = x6 then
      ((av_cI (ev X d 183 [vi (x1 - x2), vi (-3 : Int32), vi (3 : Int32)] h)).bind fun q7 =>
      if q7.1 = 0 then
        (av_rL (0 : Int64) q7.2)
      else if (x1 - x2) < 0 then
        ((av_gL q7.2 v0 0 18).bind fun x8 =>
        av_rL ((x8.toUInt64 >>> (((-(x1 - x2)) * (12 : Int32)).toInt64.toUInt64 &&& Int64.toUInt64 63)).toInt64) q7.2)
      else (av_gL q7.2 v0 0 18).bind fun x9 =>
      av_rL (x9 <<< (((x1 - x2) * (12 : Int32)).toInt64 &&& 63)) q7.2)
    else av_rL (0 : Int64) h)
  else av_rL (0 : Int64) h :=
  (av_bd_eq av_Sg p_8 _ _ _ _ _).trans rfl
theorem e_8 (d : Nat) (v0 : Option Nat) (v1 : Option Nat) (h : av_H) : ev X (d + 1) 8 [vr v0, vr v1] h = bd X d 8 0 [(0, vr v0), (1, vr v1)] [] h := av_ev_eq av_Sg p_8 d _ h rfl
/-! 9 = X0_billed -/
set_option maxRecDepth 100000 in
theorem b_9_0 (d : Nat) (v0 : Option Nat) (v1 : Int32) (h : av_H) : bd X d 9 0 [(0, vr v0), (1, vi v1)] [] h =
  if v1 = 0 then
    ((av_gI h v0 0 16).bind fun x1 =>
    av_rL (x1.toInt64) h)
  else if v1 = 1 then
    ((av_gI h v0 0 17).bind fun x2 =>
    av_rL (x2.toInt64) h)
  else if v1 = 2 then
    ((av_gI h v0 0 6).bind fun x3 =>
    av_rL (x3.toInt64) h)
  else if v1 = 3 then
    ((av_gI h v0 0 12).bind fun x4 =>
    av_rL (x4.toInt64) h)
  else av_rL (1 : Int64) h :=
  (av_bd_eq av_Sg p_9 _ _ _ _ _).trans rfl
theorem e_9 (d : Nat) (v0 : Option Nat) (v1 : Int32) (h : av_H) : ev X (d + 1) 9 [vr v0, vi v1] h = bd X d 9 0 [(0, vr v0), (1, vi v1)] [] h := av_ev_eq av_Sg p_9 d _ h rfl
/-! 10 = X0_rescueWay -/
set_option maxRecDepth 100000 in
theorem b_10_0 (d : Nat) (v0 : Option Nat) (h : av_H) : bd X d 10 0 [(0, vr v0)] [] h =
  bd X d 10 4 [(0, vr v0), (1, vi (0 : Int32)), (2, vi (0 : Int32))] [] h :=
  (av_bd_eq av_Sg p_10 _ _ _ _ _).trans rfl
set_option maxRecDepth 100000 in
theorem b_10_4 (d : Nat) (v0 : Option Nat) (v1 : Int32) (v2 : Int32) (h : av_H) : bd X d 10 4 [(0, vr v0), (1, vi v1), (2, vi v2)] [] h =
  (av_gI h v0 0 6).bind fun x1 =>
  if v2 < x1 then
    ((av_gI h v0 0 3).bind fun x2 =>
    (av_gI h v0 0 7).bind fun x3 =>
    (av_gI h v0 0 7).bind fun x4 =>
    (av_cI (ev X d 379 [vi (0 : Int32), vi ((x2 - (x3 * v2)) - x4)] h)).bind fun q5 =>
    (av_gI q5.2 v0 0 3).bind fun x6 =>
    (av_cI (ev X d 381 [vi (x6 - q5.1), vi (x2 - (x3 * v2))] q5.2)).bind fun q7 =>
    (av_cI (ev X d 379 [vi v1, vi (q7.1)] q7.2)).bind fun q8 =>
    bd X d 10 4 [(0, vr v0), (1, vi (q8.1)), (2, vi (v2 + (1 : Int32)))] [] q8.2)
  else av_rI v1 h :=
  (av_bd_eq av_Sg p_10 _ _ _ _ _).trans rfl
theorem e_10 (d : Nat) (v0 : Option Nat) (h : av_H) : ev X (d + 1) 10 [vr v0] h = bd X d 10 0 [(0, vr v0)] [] h := av_ev_eq av_Sg p_10 d _ h rfl
/-! 11 = X0_passes -/
set_option maxRecDepth 100000 in
theorem b_11_0 (d : Nat) (v0 : Option Nat) (v1 : Int32) (v2 : Int32) (h : av_H) : bd X d 11 0 [(0, vr v0), (1, vi v1), (2, vi v2)] [] h =
  (av_gI h v0 0 5).bind fun x1 =>
  (av_gI h v0 0 3).bind fun x2 =>
  (av_gI h v0 0 7).bind fun x3 =>
  (av_gI h v0 0 6).bind fun x4 =>
  (av_cI (ev X d 184 [vi (v2 - x1), vi x4] h)).bind fun q5 =>
  if q5.1 = 0 then
    ((av_bz (0 : Int32)).bind fun w => av_rI w q5.2)
  else if v1 < (x2 - (x3 * (v2 - x1))) then
    ((av_gI q5.2 v0 0 7).bind fun x6 =>
    if v1 < ((x2 - (x3 * (v2 - x1))) - x6) then
      ((av_bz (0 : Int32)).bind fun w => av_rI w q5.2)
    else (av_bz (1 : Int32)).bind fun w => av_rI w q5.2)
  else (av_bz (0 : Int32)).bind fun w => av_rI w q5.2 :=
  (av_bd_eq av_Sg p_11 _ _ _ _ _).trans rfl
theorem e_11 (d : Nat) (v0 : Option Nat) (v1 : Int32) (v2 : Int32) (h : av_H) : ev X (d + 1) 11 [vr v0, vi v1, vi v2] h = bd X d 11 0 [(0, vr v0), (1, vi v1), (2, vi v2)] [] h := av_ev_eq av_Sg p_11 d _ h rfl
/-! 12 = X0_waterOn -/
set_option maxRecDepth 100000 in
theorem b_12_0 (d : Nat) (v0 : Option Nat) (v1 : Int32) (v2 : Int32) (h : av_H) : bd X d 12 0 [(0, vr v0), (1, vi v1), (2, vi v2)] [] h =
  (av_gI h v0 0 12).bind fun x1 =>
  if 0 < x1 then
    ((av_gI h v0 0 2).bind fun x2 =>
    bd X d 12 10 [(0, vr v0), (1, vi v1), (2, vi v2), (3, vi (0 : Int32)), (4, vi x2)] [] h)
  else av_rI (0 : Int32) h :=
  (av_bd_eq av_Sg p_12 _ _ _ _ _).trans rfl
set_option maxRecDepth 100000 in
theorem b_12_10 (d : Nat) (v0 : Option Nat) (v1 : Int32) (v2 : Int32) (v3 : Int32) (v4 : Int32) (h : av_H) : bd X d 12 10 [(0, vr v0), (1, vi v1), (2, vi v2), (3, vi v3), (4, vi v4)] [] h =
  if v4 < v2 then
    (if av_is h v0 0 = true then (
    (av_cI (ev X d 6 [vr v0, vi v4] h)).bind fun q1 =>
    (av_cI (ev X d 377 [vi (q1.1)] q1.2)).bind fun q2 =>
    bd X d 12 10 [(0, vr v0), (1, vi v1), (2, vi v2), (3, vi (v3 + q2.1)), (4, vi (v4 + (1 : Int32)))] [] q2.2) else none)
  else if av_is h v0 0 = true then (
  (av_cI (ev X d 6 [vr v0, vi v2] h)).bind fun q3 =>
  (av_cI (ev X d 377 [vi ((q3.1.toUInt32 >>> ((v1 + (1 : Int32)).toUInt32 &&& Int32.toUInt32 31)).toInt32)] q3.2)).bind fun q4 =>
  (av_gI q4.2 v0 0 17).bind fun x5 =>
  (av_gI q4.2 v0 0 12).bind fun x6 =>
  if x6 = 0 then none else (av_gI q4.2 v0 0 17).bind fun x7 =>
  (av_gI q4.2 v0 0 12).bind fun x8 =>
  if x8 = 0 then none else if (v3 + q4.1) < (x7 - x7 / x8 * x8) then
    (av_rI ((x5 / x6) + (1 : Int32)) q4.2)
  else av_rI ((x5 / x6) + (0 : Int32)) q4.2) else none :=
  (av_bd_eq av_Sg p_12 _ _ _ _ _).trans rfl
theorem e_12 (d : Nat) (v0 : Option Nat) (v1 : Int32) (v2 : Int32) (h : av_H) : ev X (d + 1) 12 [vr v0, vi v1, vi v2] h = bd X d 12 0 [(0, vr v0), (1, vi v1), (2, vi v2)] [] h := av_ev_eq av_Sg p_12 d _ h rfl
/-! 13 = X1_init -/
set_option maxRecDepth 100000 in
theorem b_13_0 (d : Nat) (v0 : Option Nat) (h : av_H) : bd X d 13 0 [(0, vr v0)] [] h =
  if av_is h v0 1 = true then (
  (av_pI h v0 1 0 (0 : Int32)).bind fun g1 =>
  (av_na g1 100 (60 : Int32)).bind fun g2 =>
  (av_pR g2 v0 1 1 (some g1.1.length)).bind fun g3 =>
  (av_na g3 100 (60 : Int32)).bind fun g4 =>
  (av_pR g4 v0 1 2 (some g3.1.length)).bind fun g5 =>
  (av_na g5 100 (60 : Int32)).bind fun g6 =>
  (av_pR g6 v0 1 3 (some g5.1.length)).bind fun g7 =>
  (av_na g7 103 (60 : Int32)).bind fun g8 =>
  (av_pR g8 v0 1 4 (some g7.1.length)).bind fun g9 =>
  av_rV g9) else none :=
  (av_bd_eq av_Sg p_13 _ _ _ _ _).trans rfl
theorem e_13 (d : Nat) (v0 : Option Nat) (h : av_H) : ev X (d + 1) 13 [vr v0] h = bd X d 13 0 [(0, vr v0)] [] h := av_ev_eq av_Sg p_13 d _ h rfl
/-! 14 = X1_addLine -/
set_option maxRecDepth 100000 in
theorem b_14_0 (d : Nat) (v0 : Option Nat) (v1 : Int32) (v2 : Int32) (v3 : Int32) (v4 : Int32) (h : av_H) : bd X d 14 0 [(0, vr v0), (1, vi v1), (2, vi v2), (3, vi v3), (4, vi v4)] [] h =
  (av_gI h v0 1 0).bind fun x1 =>
  if x1 < (60 : Int32) then
    ((av_gI h v0 1 0).bind fun x2 =>
    if 0 < x2 then
      ((av_gR h v0 1 3).bind fun x3 =>
      (av_gI h v0 1 0).bind fun x4 =>
      (av_lI X h x3 (x4 - (1 : Int32))).bind fun x5 =>
      if v3 < x5 then
        ((av_bz (0 : Int32)).bind fun w => av_rI w h)
      else bd X d 14 18 [(0, vr v0), (1, vi v1), (2, vi v2), (3, vi v3), (4, vi v4)] [] h)
    else bd X d 14 18 [(0, vr v0), (1, vi v1), (2, vi v2), (3, vi v3), (4, vi v4)] [] h)
  else (av_bz (0 : Int32)).bind fun w => av_rI w h :=
  (av_bd_eq av_Sg p_14 _ _ _ _ _).trans rfl
set_option maxRecDepth 100000 in
theorem b_14_18 (d : Nat) (v0 : Option Nat) (v1 : Int32) (v2 : Int32) (v3 : Int32) (v4 : Int32) (h : av_H) : bd X d 14 18 [(0, vr v0), (1, vi v1), (2, vi v2), (3, vi v3), (4, vi v4)] [] h =
  if av_is h v0 1 = true then (
  (av_cI (ev X d 15 [vr v0, vi v1, vi v3] h)).bind fun q1 =>
  if v4 = 0 then
    (bd X d 14 27 [(0, vr v0), (1, vi v1), (2, vi v2), (3, vi v3), (4, vi v4)] [vi v2, vi (q1.1)] q1.2)
  else bd X d 14 27 [(0, vr v0), (1, vi v1), (2, vi v2), (3, vi v3), (4, vi v4)] [vi (-1 : Int32), vi (q1.1)] q1.2) else none :=
  (av_bd_eq av_Sg p_14 _ _ _ _ _).trans rfl
set_option maxRecDepth 100000 in
theorem b_14_27 (d : Nat) (v0 : Option Nat) (v1 : Int32) (v2 : Int32) (v3 : Int32) (v4 : Int32) (s0 : Int32) (s1 : Int32) (h : av_H) : bd X d 14 27 [(0, vr v0), (1, vi v1), (2, vi v2), (3, vi v3), (4, vi v4)] [vi s1, vi s0] h =
  if s0 = s1 then
    ((av_gR h v0 1 1).bind fun x1 =>
    (av_gI h v0 1 0).bind fun x2 =>
    (av_sI h x1 x2 v1).bind fun g3 =>
    (av_gR g3 v0 1 2).bind fun x4 =>
    (av_gI g3 v0 1 0).bind fun x5 =>
    (av_sI g3 x4 x5 v2).bind fun g6 =>
    (av_gR g6 v0 1 3).bind fun x7 =>
    (av_gI g6 v0 1 0).bind fun x8 =>
    (av_sI g6 x7 x8 v3).bind fun g9 =>
    (av_gR g9 v0 1 4).bind fun x10 =>
    (av_gI g9 v0 1 0).bind fun x11 =>
    (av_sZ g9 x10 x11 v4).bind fun g12 =>
    (av_gI g12 v0 1 0).bind fun x13 =>
    (av_pI g12 v0 1 0 (x13 + (1 : Int32))).bind fun g14 =>
    (av_bz (1 : Int32)).bind fun w => av_rI w g14)
  else (av_bz (0 : Int32)).bind fun w => av_rI w h :=
  (av_bd_eq av_Sg p_14 _ _ _ _ _).trans rfl
theorem e_14 (d : Nat) (v0 : Option Nat) (v1 : Int32) (v2 : Int32) (v3 : Int32) (v4 : Int32) (h : av_H) : ev X (d + 1) 14 [vr v0, vi v1, vi v2, vi v3, vi v4] h = bd X d 14 0 [(0, vr v0), (1, vi v1), (2, vi v2), (3, vi v3), (4, vi v4)] [] h := av_ev_eq av_Sg p_14 d _ h rfl
/-! 15 = X1_holderAt -/
set_option maxRecDepth 100000 in
theorem b_15_0 (d : Nat) (v0 : Option Nat) (v1 : Int32) (v2 : Int32) (h : av_H) : bd X d 15 0 [(0, vr v0), (1, vi v1), (2, vi v2)] [] h =
  bd X d 15 4 [(0, vr v0), (1, vi v1), (2, vi v2), (3, vi (-1 : Int32)), (4, vi (0 : Int32))] [] h :=
  (av_bd_eq av_Sg p_15 _ _ _ _ _).trans rfl
set_option maxRecDepth 100000 in
theorem b_15_4 (d : Nat) (v0 : Option Nat) (v1 : Int32) (v2 : Int32) (v3 : Int32) (v4 : Int32) (h : av_H) : bd X d 15 4 [(0, vr v0), (1, vi v1), (2, vi v2), (3, vi v3), (4, vi v4)] [] h =
  (av_gI h v0 1 0).bind fun x1 =>
  if v4 < x1 then
    ((av_gR h v0 1 3).bind fun x2 =>
    (av_lI X h x2 v4).bind fun x3 =>
    if v2 < x3 then
      (av_rI v3 h)
    else (av_gR h v0 1 1).bind fun x4 =>
    (av_lI X h x4 v4).bind fun x5 =>
    if x5 = v1 then
      ((av_gR h v0 1 4).bind fun x6 =>
      (av_lB h x6 103 v4).bind fun x7 =>
      if x7 = 0 then
        (bd X d 15 4 [(0, vr v0), (1, vi v1), (2, vi v2), (3, vi (-1 : Int32)), (4, vi (v4 + (1 : Int32)))] [] h)
      else (av_gR h v0 1 2).bind fun x8 =>
      (av_lI X h x8 v4).bind fun x9 =>
      bd X d 15 4 [(0, vr v0), (1, vi v1), (2, vi v2), (3, vi x9), (4, vi (v4 + (1 : Int32)))] [] h)
    else bd X d 15 4 [(0, vr v0), (1, vi v1), (2, vi v2), (3, vi v3), (4, vi (v4 + (1 : Int32)))] [] h)
  else av_rI v3 h :=
  (av_bd_eq av_Sg p_15 _ _ _ _ _).trans rfl
theorem e_15 (d : Nat) (v0 : Option Nat) (v1 : Int32) (v2 : Int32) (h : av_H) : ev X (d + 1) 15 [vr v0, vi v1, vi v2] h = bd X d 15 0 [(0, vr v0), (1, vi v1), (2, vi v2)] [] h := av_ev_eq av_Sg p_15 d _ h rfl
/-! 16 = X1_longestOut -/
set_option maxRecDepth 100000 in
theorem b_16_0 (d : Nat) (v0 : Option Nat) (v1 : Int32) (v2 : Int32) (h : av_H) : bd X d 16 0 [(0, vr v0), (1, vi v1), (2, vi v2)] [] h =
  bd X d 16 6 [(0, vr v0), (1, vi v1), (2, vi v2), (3, vi (0 : Int32)), (4, vi (-1 : Int32)), (5, vi (0 : Int32))] [] h :=
  (av_bd_eq av_Sg p_16 _ _ _ _ _).trans rfl
set_option maxRecDepth 100000 in
theorem b_16_6 (d : Nat) (v0 : Option Nat) (v1 : Int32) (v2 : Int32) (v3 : Int32) (v4 : Int32) (v5 : Int32) (h : av_H) : bd X d 16 6 [(0, vr v0), (1, vi v1), (2, vi v2), (3, vi v3), (4, vi v4), (5, vi v5)] [] h =
  (av_gI h v0 1 0).bind fun x1 =>
  if v5 < x1 then
    ((av_gR h v0 1 3).bind fun x2 =>
    (av_lI X h x2 v5).bind fun x3 =>
    if v2 < x3 then
      (bd X d 16 52 [(2, vi v2), (3, vi v3), (4, vi v4)] [] h)
    else (av_gR h v0 1 1).bind fun x4 =>
    (av_lI X h x4 v5).bind fun x5 =>
    if x5 = v1 then
      ((av_gR h v0 1 4).bind fun x6 =>
      (av_lB h x6 103 v5).bind fun x7 =>
      if x7 = 0 then
        (bd X d 16 33 [(0, vr v0), (1, vi v1), (2, vi v2), (3, vi v3), (4, vi v4), (5, vi v5)] [] h)
      else (av_gR h v0 1 3).bind fun x8 =>
      (av_lI X h x8 v5).bind fun x9 =>
      bd X d 16 6 [(0, vr v0), (1, vi v1), (2, vi v2), (3, vi v3), (4, vi x9), (5, vi (v5 + (1 : Int32)))] [] h)
    else bd X d 16 33 [(0, vr v0), (1, vi v1), (2, vi v2), (3, vi v3), (4, vi v4), (5, vi v5)] [] h)
  else bd X d 16 52 [(2, vi v2), (3, vi v3), (4, vi v4)] [] h :=
  (av_bd_eq av_Sg p_16 _ _ _ _ _).trans rfl
set_option maxRecDepth 100000 in
theorem b_16_33 (d : Nat) (v0 : Option Nat) (v1 : Int32) (v2 : Int32) (v3 : Int32) (v4 : Int32) (v5 : Int32) (h : av_H) : bd X d 16 33 [(0, vr v0), (1, vi v1), (2, vi v2), (3, vi v3), (4, vi v4), (5, vi v5)] [] h =
  (av_gR h v0 1 1).bind fun x1 =>
  (av_lI X h x1 v5).bind fun x2 =>
  if x2 = v1 then
    ((av_gR h v0 1 3).bind fun x3 =>
    (av_lI X h x3 v5).bind fun x4 =>
    (av_cI (ev X d 379 [vi v3, vi (x4 - v4)] h)).bind fun q5 =>
    bd X d 16 6 [(0, vr v0), (1, vi v1), (2, vi v2), (3, vi (q5.1)), (4, vi (-1 : Int32)), (5, vi (v5 + (1 : Int32)))] [] q5.2)
  else bd X d 16 6 [(0, vr v0), (1, vi v1), (2, vi v2), (3, vi v3), (4, vi v4), (5, vi (v5 + (1 : Int32)))] [] h :=
  (av_bd_eq av_Sg p_16 _ _ _ _ _).trans rfl
set_option maxRecDepth 100000 in
theorem b_16_52 (d : Nat) (v2 : Int32) (v3 : Int32) (v4 : Int32) (h : av_H) : bd X d 16 52 [(2, vi v2), (3, vi v3), (4, vi v4)] [] h =
  if v4 = (-1 : Int32) then
    (av_rI v3 h)
  else (av_cI (ev X d 379 [vi v3, vi (v2 - v4)] h)).bind fun q1 =>
  av_rI q1.1 q1.2 :=
  (av_bd_eq av_Sg p_16 _ _ _ _ _).trans rfl
theorem e_16 (d : Nat) (v0 : Option Nat) (v1 : Int32) (v2 : Int32) (h : av_H) : ev X (d + 1) 16 [vr v0, vi v1, vi v2] h = bd X d 16 0 [(0, vr v0), (1, vi v1), (2, vi v2)] [] h := av_ev_eq av_Sg p_16 d _ h rfl
/-! 17 = X2_init -/
set_option maxRecDepth 100000 in
theorem b_17_0 (d : Nat) (v0 : Option Nat) (h : av_H) : bd X d 17 0 [(0, vr v0)] [] h =
  if av_is h v0 2 = true then (
  (av_na h 100 (5 : Int32)).bind fun g1 =>
  (av_pR g1 v0 2 0 (some h.1.length)).bind fun g2 =>
  (av_na g2 100 (30 : Int32)).bind fun g3 =>
  (av_pR g3 v0 2 1 (some g2.1.length)).bind fun g4 =>
  (av_na g4 100 (4 : Int32)).bind fun g5 =>
  (av_pR g5 v0 2 2 (some g4.1.length)).bind fun g6 =>
  (av_pI g6 v0 2 3 (0 : Int32)).bind fun g7 =>
  av_rV g7) else none :=
  (av_bd_eq av_Sg p_17 _ _ _ _ _).trans rfl
theorem e_17 (d : Nat) (v0 : Option Nat) (h : av_H) : ev X (d + 1) 17 [vr v0] h = bd X d 17 0 [(0, vr v0)] [] h := av_ev_eq av_Sg p_17 d _ h rfl
/-! 18 = X2_isLaid -/
set_option maxRecDepth 100000 in
theorem b_18_0 (d : Nat) (v0 : Option Nat) (v1 : Int32) (h : av_H) : bd X d 18 0 [(0, vr v0), (1, vi v1)] [] h =
  (av_cI (ev X d 184 [vi v1, vi (4 : Int32)] h)).bind fun q1 =>
  if q1.1 = 0 then
    ((av_bz (0 : Int32)).bind fun w => av_rI w q1.2)
  else (av_gR q1.2 v0 2 2).bind fun x2 =>
  (av_lI X q1.2 x2 v1).bind fun x3 =>
  if x3 = 0 then
    ((av_bz (0 : Int32)).bind fun w => av_rI w q1.2)
  else (av_bz (1 : Int32)).bind fun w => av_rI w q1.2 :=
  (av_bd_eq av_Sg p_18 _ _ _ _ _).trans rfl
theorem e_18 (d : Nat) (v0 : Option Nat) (v1 : Int32) (h : av_H) : ev X (d + 1) 18 [vr v0, vi v1] h = bd X d 18 0 [(0, vr v0), (1, vi v1)] [] h := av_ev_eq av_Sg p_18 d _ h rfl
/-! 19 = X2_lay -/
set_option maxRecDepth 100000 in
theorem b_19_0 (d : Nat) (v0 : Option Nat) (v1 : Int32) (v2 : Int32) (v3 : Option Nat) (h : av_H) : bd X d 19 0 [(0, vr v0), (1, vi v1), (2, vi v2), (3, vr v3)] [] h =
  (av_cI (ev X d 184 [vi v1, vi (4 : Int32)] h)).bind fun q1 =>
  if q1.1 = 0 then
    (av_rV q1.2)
  else if av_is q1.2 v0 2 = true then (
  (av_cV (ev X d 21 [vr v0, vi v1, vi v2, vr v3] q1.2)).bind fun q2 =>
  (av_gI q2 v0 2 3).bind fun x3 =>
  (av_pI q2 v0 2 3 (x3 + (1 : Int32))).bind fun g4 =>
  (av_gR g4 v0 2 2).bind fun x5 =>
  (av_gI g4 v0 2 3).bind fun x6 =>
  (av_sI g4 x5 v1 x6).bind fun g7 =>
  av_rV g7) else none :=
  (av_bd_eq av_Sg p_19 _ _ _ _ _).trans rfl
theorem e_19 (d : Nat) (v0 : Option Nat) (v1 : Int32) (v2 : Int32) (v3 : Option Nat) (h : av_H) : ev X (d + 1) 19 [vr v0, vi v1, vi v2, vr v3] h = bd X d 19 0 [(0, vr v0), (1, vi v1), (2, vi v2), (3, vr v3)] [] h := av_ev_eq av_Sg p_19 d _ h rfl
/-! 20 = X2_goBack -/
set_option maxRecDepth 100000 in
theorem b_20_0 (d : Nat) (v0 : Option Nat) (v1 : Int32) (v2 : Option Nat) (h : av_H) : bd X d 20 0 [(0, vr v0), (1, vi v1), (2, vr v2)] [] h =
  bd X d 20 2 [(0, vr v0), (1, vi v1), (2, vr v2), (3, vi (0 : Int32))] [] h :=
  (av_bd_eq av_Sg p_20 _ _ _ _ _).trans rfl
set_option maxRecDepth 100000 in
theorem b_20_2 (d : Nat) (v0 : Option Nat) (v1 : Int32) (v2 : Option Nat) (v3 : Int32) (h : av_H) : bd X d 20 2 [(0, vr v0), (1, vi v1), (2, vr v2), (3, vi v3)] [] h =
  if v3 < (4 : Int32) then
    ((av_cI (ev X d 184 [vi v1, vi (4 : Int32)] h)).bind fun q1 =>
    if q1.1 = 0 then
      (bd X d 20 2 [(0, vr v0), (1, vi v1), (2, vr v2), (3, vi (v3 + (1 : Int32)))] [] q1.2)
    else (av_gR q1.2 v0 2 2).bind fun x2 =>
    (av_lI X q1.2 x2 v3).bind fun x3 =>
    (av_gR q1.2 v0 2 2).bind fun x4 =>
    (av_lI X q1.2 x4 v1).bind fun x5 =>
    if x5 < x3 then
      ((av_gR q1.2 v0 2 2).bind fun x6 =>
      (av_sI q1.2 x6 v3 (0 : Int32)).bind fun g7 =>
      bd X d 20 2 [(0, vr v0), (1, vi v1), (2, vr v2), (3, vi (v3 + (1 : Int32)))] [] g7)
    else bd X d 20 2 [(0, vr v0), (1, vi v1), (2, vr v2), (3, vi (v3 + (1 : Int32)))] [] q1.2)
  else if av_is h v0 2 = true then (
  (av_cI (ev X d 22 [vr v0, vi v1, vr v2] h)).bind fun q8 =>
  av_rI q8.1 q8.2) else none :=
  (av_bd_eq av_Sg p_20 _ _ _ _ _).trans rfl
theorem e_20 (d : Nat) (v0 : Option Nat) (v1 : Int32) (v2 : Option Nat) (h : av_H) : ev X (d + 1) 20 [vr v0, vi v1, vr v2] h = bd X d 20 0 [(0, vr v0), (1, vi v1), (2, vr v2)] [] h := av_ev_eq av_Sg p_20 d _ h rfl
/-! 21 = X2_hold -/
set_option maxRecDepth 100000 in
theorem b_21_0 (d : Nat) (v0 : Option Nat) (v1 : Int32) (v2 : Int32) (v3 : Option Nat) (h : av_H) : bd X d 21 0 [(0, vr v0), (1, vi v1), (2, vi v2), (3, vr v3)] [] h =
  (av_cI (ev X d 183 [vi v1, vi (0 : Int32), vi (4 : Int32)] h)).bind fun q1 =>
  if q1.1 = 0 then
    (av_rV q1.2)
  else (av_gR q1.2 v0 2 0).bind fun x2 =>
  (av_sI q1.2 x2 v1 v2).bind fun g3 =>
  bd X d 21 13 [(0, vr v0), (1, vi v1), (3, vr v3), (4, vi (0 : Int32))] [] g3 :=
  (av_bd_eq av_Sg p_21 _ _ _ _ _).trans rfl
set_option maxRecDepth 100000 in
theorem b_21_13 (d : Nat) (v0 : Option Nat) (v1 : Int32) (v3 : Option Nat) (v4 : Int32) (h : av_H) : bd X d 21 13 [(0, vr v0), (1, vi v1), (3, vr v3), (4, vi v4)] [] h =
  if v4 < (6 : Int32) then
    ((av_len X h v3).bind fun x1 =>
    if v4 < x1 then
      ((av_gR h v0 2 1).bind fun x2 =>
      (av_lR h v3 104 v4).bind fun x3 =>
      if x3.isNone = true then
        ((av_sI h x2 ((v1 * (6 : Int32)) + v4) (0 : Int32)).bind fun g4 =>
        bd X d 21 13 [(0, vr v0), (1, vi v1), (3, vr v3), (4, vi (v4 + (1 : Int32)))] [] g4)
      else (av_lR h v3 104 v4).bind fun x5 =>
      (av_gI h x5 9 4).bind fun x6 =>
      (av_sI h x2 ((v1 * (6 : Int32)) + v4) x6).bind fun g7 =>
      bd X d 21 13 [(0, vr v0), (1, vi v1), (3, vr v3), (4, vi (v4 + (1 : Int32)))] [] g7)
    else av_rV h)
  else av_rV h :=
  (av_bd_eq av_Sg p_21 _ _ _ _ _).trans rfl
theorem e_21 (d : Nat) (v0 : Option Nat) (v1 : Int32) (v2 : Int32) (v3 : Option Nat) (h : av_H) : ev X (d + 1) 21 [vr v0, vi v1, vi v2, vr v3] h = bd X d 21 0 [(0, vr v0), (1, vi v1), (2, vi v2), (3, vr v3)] [] h := av_ev_eq av_Sg p_21 d _ h rfl
/-! 22 = X2_recall -/
set_option maxRecDepth 100000 in
theorem b_22_0 (d : Nat) (v0 : Option Nat) (v1 : Int32) (v2 : Option Nat) (h : av_H) : bd X d 22 0 [(0, vr v0), (1, vi v1), (2, vr v2)] [] h =
  (av_cI (ev X d 183 [vi v1, vi (0 : Int32), vi (4 : Int32)] h)).bind fun q1 =>
  if q1.1 = 0 then
    (av_rI (0 : Int32) q1.2)
  else bd X d 22 9 [(0, vr v0), (1, vi v1), (2, vr v2), (3, vi (0 : Int32))] [] q1.2 :=
  (av_bd_eq av_Sg p_22 _ _ _ _ _).trans rfl
set_option maxRecDepth 100000 in
theorem b_22_9 (d : Nat) (v0 : Option Nat) (v1 : Int32) (v2 : Option Nat) (v3 : Int32) (h : av_H) : bd X d 22 9 [(0, vr v0), (1, vi v1), (2, vr v2), (3, vi v3)] [] h =
  if v3 < (6 : Int32) then
    ((av_len X h v2).bind fun x1 =>
    if v3 < x1 then
      ((av_lR h v2 104 v3).bind fun x2 =>
      if x2.isNone = true then
        (bd X d 22 9 [(0, vr v0), (1, vi v1), (2, vr v2), (3, vi (v3 + (1 : Int32)))] [] h)
      else (av_lR h v2 104 v3).bind fun x3 =>
      (av_gR h v0 2 1).bind fun x4 =>
      (av_lI X h x4 ((v1 * (6 : Int32)) + v3)).bind fun x5 =>
      (av_pI h x3 9 4 x5).bind fun g6 =>
      bd X d 22 9 [(0, vr v0), (1, vi v1), (2, vr v2), (3, vi (v3 + (1 : Int32)))] [] g6)
    else (av_gR h v0 2 0).bind fun x7 =>
    (av_lI X h x7 v1).bind fun x8 =>
    av_rI x8 h)
  else (av_gR h v0 2 0).bind fun x9 =>
  (av_lI X h x9 v1).bind fun x10 =>
  av_rI x10 h :=
  (av_bd_eq av_Sg p_22 _ _ _ _ _).trans rfl
theorem e_22 (d : Nat) (v0 : Option Nat) (v1 : Int32) (v2 : Option Nat) (h : av_H) : ev X (d + 1) 22 [vr v0, vi v1, vr v2] h = bd X d 22 0 [(0, vr v0), (1, vi v1), (2, vr v2)] [] h := av_ev_eq av_Sg p_22 d _ h rfl
/-! 23 = X3_init -/
set_option maxRecDepth 100000 in
theorem b_23_0 (d : Nat) (v0 : Option Nat) (h : av_H) : bd X d 23 0 [(0, vr v0)] [] h =
  if av_is h v0 3 = true then (
  (av_na h 100 (10 : Int32)).bind fun g1 =>
  (av_pR g1 v0 3 0 (some h.1.length)).bind fun g2 =>
  (av_na g2 100 (10 : Int32)).bind fun g3 =>
  (av_pR g3 v0 3 1 (some g2.1.length)).bind fun g4 =>
  (av_pI g4 v0 3 2 (0 : Int32)).bind fun g5 =>
  (av_pI g5 v0 3 3 (0 : Int32)).bind fun g6 =>
  (av_na g6 100 (100 : Int32)).bind fun g7 =>
  (av_pR g7 v0 3 4 (some g6.1.length)).bind fun g8 =>
  (av_na g8 100 (10 : Int32)).bind fun g9 =>
  (av_pR g9 v0 3 5 (some g8.1.length)).bind fun g10 =>
  (av_na g10 100 (10 : Int32)).bind fun g11 =>
  (av_pR g11 v0 3 6 (some g10.1.length)).bind fun g12 =>
  (av_na g12 100 (10 : Int32)).bind fun g13 =>
  (av_pR g13 v0 3 7 (some g12.1.length)).bind fun g14 =>
  (av_na g14 100 (1024 : Int32)).bind fun g15 =>
  (av_pR g15 v0 3 8 (some g14.1.length)).bind fun g16 =>
  (av_na g16 100 (10 : Int32)).bind fun g17 =>
  (av_pR g17 v0 3 9 (some g16.1.length)).bind fun g18 =>
  (av_na g18 100 (10 : Int32)).bind fun g19 =>
  (av_pR g19 v0 3 10 (some g18.1.length)).bind fun g20 =>
  (av_pI g20 v0 3 11 (0 : Int32)).bind fun g21 =>
  (av_pI g21 v0 3 12 (0 : Int32)).bind fun g22 =>
  (av_pZ g22 v0 3 13 (0 : Int32)).bind fun g23 =>
  (av_gR g23 v0 3 0).bind fun x24 =>
  (av_cV (ev X d 383 [vr x24, vi (-1 : Int32)] g23)).bind fun q25 =>
  av_rV q25) else none :=
  (av_bd_eq av_Sg p_23 _ _ _ _ _).trans rfl
theorem e_23 (d : Nat) (v0 : Option Nat) (h : av_H) : ev X (d + 1) 23 [vr v0] h = bd X d 23 0 [(0, vr v0)] [] h := av_ev_eq av_Sg p_23 d _ h rfl
/-! 24 = X3_setElder -/
set_option maxRecDepth 100000 in
theorem b_24_0 (d : Nat) (v0 : Option Nat) (v1 : Int32) (v2 : Int32) (h : av_H) : bd X d 24 0 [(0, vr v0), (1, vi v1), (2, vi v2)] [] h =
  if v2 = 0 then
    ((av_gI h v0 3 3).bind fun x1 =>
    (av_pI h v0 3 3 (x1 &&& (((1 : Int32) <<< (v1 &&& 31)) ^^^ (-1 : Int32)))).bind fun g2 =>
    (av_pZ g2 v0 3 13 (0 : Int32)).bind fun g3 =>
    av_rV g3)
  else (av_gI h v0 3 3).bind fun x4 =>
  (av_pI h v0 3 3 (x4 ||| ((1 : Int32) <<< (v1 &&& 31)))).bind fun g5 =>
  (av_pZ g5 v0 3 13 (0 : Int32)).bind fun g6 =>
  av_rV g6 :=
  (av_bd_eq av_Sg p_24 _ _ _ _ _).trans rfl
theorem e_24 (d : Nat) (v0 : Option Nat) (v1 : Int32) (v2 : Int32) (h : av_H) : ev X (d + 1) 24 [vr v0, vi v1, vi v2] h = bd X d 24 0 [(0, vr v0), (1, vi v1), (2, vi v2)] [] h := av_ev_eq av_Sg p_24 d _ h rfl
/-! 25 = X3_isElder -/
set_option maxRecDepth 100000 in
theorem b_25_0 (d : Nat) (v0 : Option Nat) (v1 : Int32) (h : av_H) : bd X d 25 0 [(0, vr v0), (1, vi v1)] [] h =
  (av_gI h v0 3 3).bind fun x1 =>
  (av_cI (ev X d 185 [vi x1, vi v1] h)).bind fun q2 =>
  (av_bz q2.1).bind fun w => av_rI w q2.2 :=
  (av_bd_eq av_Sg p_25 _ _ _ _ _).trans rfl
theorem e_25 (d : Nat) (v0 : Option Nat) (v1 : Int32) (h : av_H) : ev X (d + 1) 25 [vr v0, vi v1] h = bd X d 25 0 [(0, vr v0), (1, vi v1)] [] h := av_ev_eq av_Sg p_25 d _ h rfl
/-! 26 = X3_elderCount -/
set_option maxRecDepth 100000 in
theorem b_26_0 (d : Nat) (v0 : Option Nat) (h : av_H) : bd X d 26 0 [(0, vr v0)] [] h =
  (av_gI h v0 3 3).bind fun x1 =>
  (av_cI (ev X d 377 [vi x1] h)).bind fun q2 =>
  av_rI q2.1 q2.2 :=
  (av_bd_eq av_Sg p_26 _ _ _ _ _).trans rfl
theorem e_26 (d : Nat) (v0 : Option Nat) (h : av_H) : ev X (d + 1) 26 [vr v0] h = bd X d 26 0 [(0, vr v0)] [] h := av_ev_eq av_Sg p_26 d _ h rfl
/-! 27 = X3_setTogether -/
set_option maxRecDepth 100000 in
theorem b_27_0 (d : Nat) (v0 : Option Nat) (v1 : Int32) (v2 : Int32) (v3 : Int32) (h : av_H) : bd X d 27 0 [(0, vr v0), (1, vi v1), (2, vi v2), (3, vi v3)] [] h =
  (av_cI (ev X d 191 [vi v1] h)).bind fun q1 =>
  if q1.1 = 0 then
    (av_rV q1.2)
  else (av_cI (ev X d 191 [vi v2] q1.2)).bind fun q2 =>
  if q2.1 = 0 then
    (av_rV q2.2)
  else (av_gR q2.2 v0 3 4).bind fun x3 =>
  (av_sI q2.2 x3 ((v1 * (10 : Int32)) + v2) v3).bind fun g4 =>
  (av_gR g4 v0 3 4).bind fun x5 =>
  (av_sI g4 x5 ((v2 * (10 : Int32)) + v1) v3).bind fun g6 =>
  (av_pZ g6 v0 3 13 (0 : Int32)).bind fun g7 =>
  av_rV g7 :=
  (av_bd_eq av_Sg p_27 _ _ _ _ _).trans rfl
theorem e_27 (d : Nat) (v0 : Option Nat) (v1 : Int32) (v2 : Int32) (v3 : Int32) (h : av_H) : ev X (d + 1) 27 [vr v0, vi v1, vi v2, vi v3] h = bd X d 27 0 [(0, vr v0), (1, vi v1), (2, vi v2), (3, vi v3)] [] h := av_ev_eq av_Sg p_27 d _ h rfl
/-! 28 = X3_pairUp -/
set_option maxRecDepth 100000 in
theorem b_28_0 (d : Nat) (v0 : Option Nat) (h : av_H) : bd X d 28 0 [(0, vr v0)] [] h =
  (av_gI h v0 3 13).bind fun x1 =>
  if x1 = 0 then
    (if av_is h v0 3 = true then (
    (av_cV (ev X d 29 [vr v0] h)).bind fun q2 =>
    (av_gI q2 v0 3 12).bind fun x3 =>
    bd X d 28 9 [(0, vr v0), (1, vi x3)] [] q2) else none)
  else av_rV h :=
  (av_bd_eq av_Sg p_28 _ _ _ _ _).trans rfl
set_option maxRecDepth 100000 in
theorem b_28_9 (d : Nat) (v0 : Option Nat) (v1 : Int32) (h : av_H) : bd X d 28 9 [(0, vr v0), (1, vi v1)] [] h =
  if v1 < 0 then
    (if av_is h v0 3 = true then (
    (av_cV (ev X d 33 [vr v0] h)).bind fun q1 =>
    (av_pZ q1 v0 3 13 (1 : Int32)).bind fun g2 =>
    av_rV g2) else none)
  else bd X d 28 13 [(0, vr v0), (1, vi v1), (2, vi (0 : Int32))] [] h :=
  (av_bd_eq av_Sg p_28 _ _ _ _ _).trans rfl
set_option maxRecDepth 100000 in
theorem b_28_13 (d : Nat) (v0 : Option Nat) (v1 : Int32) (v2 : Int32) (h : av_H) : bd X d 28 13 [(0, vr v0), (1, vi v1), (2, vi v2)] [] h =
  (av_gI h v0 3 11).bind fun x1 =>
  if v2 < ((1 : Int32) <<< (x1 &&& 31)) then
    (if av_is h v0 3 = true then (
    (av_cV (ev X d 31 [vr v0, vi v1, vi v2] h)).bind fun q2 =>
    bd X d 28 13 [(0, vr v0), (1, vi v1), (2, vi (v2 + (1 : Int32)))] [] q2) else none)
  else bd X d 28 9 [(0, vr v0), (1, vi (v1 + (-1 : Int32)))] [] h :=
  (av_bd_eq av_Sg p_28 _ _ _ _ _).trans rfl
theorem e_28 (d : Nat) (v0 : Option Nat) (h : av_H) : ev X (d + 1) 28 [vr v0] h = bd X d 28 0 [(0, vr v0)] [] h := av_ev_eq av_Sg p_28 d _ h rfl
/-! 29 = X3_listPeople -/
set_option maxRecDepth 100000 in
theorem b_29_0 (d : Nat) (v0 : Option Nat) (h : av_H) : bd X d 29 0 [(0, vr v0)] [] h =
  (av_pI h v0 3 11 (0 : Int32)).bind fun g1 =>
  (av_pI g1 v0 3 12 (0 : Int32)).bind fun g2 =>
  bd X d 29 8 [(0, vr v0), (1, vi (0 : Int32))] [] g2 :=
  (av_bd_eq av_Sg p_29 _ _ _ _ _).trans rfl
set_option maxRecDepth 100000 in
theorem b_29_8 (d : Nat) (v0 : Option Nat) (v1 : Int32) (h : av_H) : bd X d 29 8 [(0, vr v0), (1, vi v1)] [] h =
  if v1 < (10 : Int32) then
    (if av_is h v0 3 = true then (
    (av_cI (ev X d 25 [vr v0, vi v1] h)).bind fun q1 =>
    if q1.1 = 0 then
      ((av_gR q1.2 v0 3 7).bind fun x2 =>
      (av_gI q1.2 v0 3 12).bind fun x3 =>
      (av_sI q1.2 x2 x3 v1).bind fun g4 =>
      (av_gI g4 v0 3 12).bind fun x5 =>
      (av_pI g4 v0 3 12 (x5 + (1 : Int32))).bind fun g6 =>
      bd X d 29 8 [(0, vr v0), (1, vi (v1 + (1 : Int32)))] [] g6)
    else (av_gR q1.2 v0 3 6).bind fun x7 =>
    (av_gI q1.2 v0 3 11).bind fun x8 =>
    (av_sI q1.2 x7 x8 v1).bind fun g9 =>
    (av_gI g9 v0 3 11).bind fun x10 =>
    (av_pI g9 v0 3 11 (x10 + (1 : Int32))).bind fun g11 =>
    bd X d 29 8 [(0, vr v0), (1, vi (v1 + (1 : Int32)))] [] g11) else none)
  else av_rV h :=
  (av_bd_eq av_Sg p_29 _ _ _ _ _).trans rfl
theorem e_29 (d : Nat) (v0 : Option Nat) (h : av_H) : ev X (d + 1) 29 [vr v0] h = bd X d 29 0 [(0, vr v0)] [] h := av_ev_eq av_Sg p_29 d _ h rfl
/-! 30 = X3_bestAt -/
set_option maxRecDepth 100000 in
theorem b_30_0 (d : Nat) (v0 : Option Nat) (v1 : Int32) (v2 : Int32) (h : av_H) : bd X d 30 0 [(0, vr v0), (1, vi v1), (2, vi v2)] [] h =
  (av_gI h v0 3 11).bind fun x1 =>
  (av_cI (ev X d 184 [vi ((v1 <<< (x1 &&& 31)) + v2), vi (1024 : Int32)] h)).bind fun q2 =>
  if q2.1 = 0 then
    (av_rI (-1 : Int32) q2.2)
  else (av_gR q2.2 v0 3 8).bind fun x3 =>
  (av_lI X q2.2 x3 ((v1 <<< (x1 &&& 31)) + v2)).bind fun x4 =>
  av_rI x4 q2.2 :=
  (av_bd_eq av_Sg p_30 _ _ _ _ _).trans rfl
theorem e_30 (d : Nat) (v0 : Option Nat) (v1 : Int32) (v2 : Int32) (h : av_H) : ev X (d + 1) 30 [vr v0, vi v1, vi v2] h = bd X d 30 0 [(0, vr v0), (1, vi v1), (2, vi v2)] [] h := av_ev_eq av_Sg p_30 d _ h rfl
/-! 31 = X3_putBest -/
set_option maxRecDepth 100000 in
theorem b_31_0 (d : Nat) (v0 : Option Nat) (v1 : Int32) (v2 : Int32) (h : av_H) : bd X d 31 0 [(0, vr v0), (1, vi v1), (2, vi v2)] [] h =
  (av_gI h v0 3 12).bind fun x1 =>
  if v1 < x1 then
    (if av_is h v0 3 = true then (
    (av_cI (ev X d 30 [vr v0, vi (v1 + (1 : Int32)), vi v2] h)).bind fun q2 =>
    bd X d 31 26 [(0, vr v0), (1, vi v1), (2, vi v2), (3, vi (q2.1)), (4, vi (0 : Int32))] [] q2.2) else none)
  else (av_cI (ev X d 377 [vi v2] h)).bind fun q3 =>
  (av_gI q3.2 v0 3 11).bind fun x4 =>
  (av_gI q3.2 v0 3 12).bind fun x5 =>
  (av_cI (ev X d 381 [vi x4, vi x5] q3.2)).bind fun q6 =>
  if q3.1 = q6.1 then
    (bd X d 31 15 [(0, vr v0), (1, vi v1), (2, vi v2)] [vi (0 : Int32)] q6.2)
  else bd X d 31 15 [(0, vr v0), (1, vi v1), (2, vi v2)] [vi (-1 : Int32)] q6.2 :=
  (av_bd_eq av_Sg p_31 _ _ _ _ _).trans rfl
set_option maxRecDepth 100000 in
theorem b_31_15 (d : Nat) (v0 : Option Nat) (v1 : Int32) (v2 : Int32) (s0 : Int32) (h : av_H) : bd X d 31 15 [(0, vr v0), (1, vi v1), (2, vi v2)] [vi s0] h =
  bd X d 31 40 [(0, vr v0), (1, vi v1), (2, vi v2), (3, vi s0)] [] h :=
  (av_bd_eq av_Sg p_31 _ _ _ _ _).trans rfl
set_option maxRecDepth 100000 in
theorem b_31_26 (d : Nat) (v0 : Option Nat) (v1 : Int32) (v2 : Int32) (v3 : Int32) (v4 : Int32) (h : av_H) : bd X d 31 26 [(0, vr v0), (1, vi v1), (2, vi v2), (3, vi v3), (4, vi v4)] [] h =
  (av_gI h v0 3 11).bind fun x1 =>
  if v4 < x1 then
    (if av_is h v0 3 = true then (
    (av_cI (ev X d 32 [vr v0, vi v1, vi v2, vi v4] h)).bind fun q2 =>
    (av_cI (ev X d 379 [vi v3, vi (q2.1)] q2.2)).bind fun q3 =>
    bd X d 31 26 [(0, vr v0), (1, vi v1), (2, vi v2), (3, vi (q3.1)), (4, vi (v4 + (1 : Int32)))] [] q3.2) else none)
  else bd X d 31 40 [(0, vr v0), (1, vi v1), (2, vi v2), (3, vi v3)] [] h :=
  (av_bd_eq av_Sg p_31 _ _ _ _ _).trans rfl
set_option maxRecDepth 100000 in
theorem b_31_40 (d : Nat) (v0 : Option Nat) (v1 : Int32) (v2 : Int32) (v3 : Int32) (h : av_H) : bd X d 31 40 [(0, vr v0), (1, vi v1), (2, vi v2), (3, vi v3)] [] h =
  (av_gI h v0 3 11).bind fun x1 =>
  (av_cI (ev X d 184 [vi ((v1 <<< (x1 &&& 31)) + v2), vi (1024 : Int32)] h)).bind fun q2 =>
  if q2.1 = 0 then
    (av_rV q2.2)
  else (av_gR q2.2 v0 3 8).bind fun x3 =>
  (av_sI q2.2 x3 ((v1 <<< (x1 &&& 31)) + v2) v3).bind fun g4 =>
  av_rV g4 :=
  (av_bd_eq av_Sg p_31 _ _ _ _ _).trans rfl
theorem e_31 (d : Nat) (v0 : Option Nat) (v1 : Int32) (v2 : Int32) (h : av_H) : ev X (d + 1) 31 [vr v0, vi v1, vi v2] h = bd X d 31 0 [(0, vr v0), (1, vi v1), (2, vi v2)] [] h := av_ev_eq av_Sg p_31 d _ h rfl
/-! 32 = X3_sumWith -/
set_option maxRecDepth 100000 in
theorem b_32_0 (d : Nat) (v0 : Option Nat) (v1 : Int32) (v2 : Int32) (v3 : Int32) (h : av_H) : bd X d 32 0 [(0, vr v0), (1, vi v1), (2, vi v2), (3, vi v3)] [] h =
  (av_cI (ev X d 185 [vi v2, vi v3] h)).bind fun q1 =>
  if q1.1 = 0 then
    ((av_cI (ev X d 184 [vi v1, vi (10 : Int32)] q1.2)).bind fun q2 =>
    if q2.1 = 0 then
      (av_rI (-1 : Int32) q2.2)
    else (av_cI (ev X d 184 [vi v3, vi (10 : Int32)] q2.2)).bind fun q3 =>
    if q3.1 = 0 then
      (av_rI (-1 : Int32) q3.2)
    else if av_is q3.2 v0 3 = true then (
    (av_cI (ev X d 30 [vr v0, vi (v1 + (1 : Int32)), vi (v2 ||| ((1 : Int32) <<< (v3 &&& 31)))] q3.2)).bind fun q4 =>
    if q4.1 = (-1 : Int32) then
      (av_rI (-1 : Int32) q4.2)
    else (av_gR q4.2 v0 3 4).bind fun x5 =>
    (av_gR q4.2 v0 3 7).bind fun x6 =>
    (av_lI X q4.2 x6 v1).bind fun x7 =>
    (av_gR q4.2 v0 3 6).bind fun x8 =>
    (av_lI X q4.2 x8 v3).bind fun x9 =>
    (av_lI X q4.2 x5 ((x7 * (10 : Int32)) + x9)).bind fun x10 =>
    av_rI (q4.1 + x10) q4.2) else none)
  else av_rI (-1 : Int32) q1.2 :=
  (av_bd_eq av_Sg p_32 _ _ _ _ _).trans rfl
theorem e_32 (d : Nat) (v0 : Option Nat) (v1 : Int32) (v2 : Int32) (v3 : Int32) (h : av_H) : ev X (d + 1) 32 [vr v0, vi v1, vi v2, vi v3] h = bd X d 32 0 [(0, vr v0), (1, vi v1), (2, vi v2), (3, vi v3)] [] h := av_ev_eq av_Sg p_32 d _ h rfl
/-! 33 = X3_choosePartners -/
set_option maxRecDepth 100000 in
theorem b_33_0 (d : Nat) (v0 : Option Nat) (h : av_H) : bd X d 33 0 [(0, vr v0)] [] h =
  (av_gR h v0 3 1).bind fun x1 =>
  (av_cV (ev X d 383 [vr x1, vi (-1 : Int32)] h)).bind fun q2 =>
  if av_is q2 v0 3 = true then (
  (av_cI (ev X d 30 [vr v0, vi (0 : Int32), vi (0 : Int32)] q2)).bind fun q3 =>
  (av_pI q3.2 v0 3 2 q3.1).bind fun g4 =>
  bd X d 33 14 [(0, vr v0), (1, vi (0 : Int32)), (2, vi (0 : Int32))] [] g4) else none :=
  (av_bd_eq av_Sg p_33 _ _ _ _ _).trans rfl
set_option maxRecDepth 100000 in
theorem b_33_14 (d : Nat) (v0 : Option Nat) (v1 : Int32) (v2 : Int32) (h : av_H) : bd X d 33 14 [(0, vr v0), (1, vi v1), (2, vi v2)] [] h =
  (av_gI h v0 3 12).bind fun x1 =>
  if v2 < x1 then
    (if av_is h v0 3 = true then (
    (av_cI (ev X d 34 [vr v0, vi v2, vi v1] h)).bind fun q2 =>
    if q2.1 = (-1 : Int32) then
      (bd X d 33 14 [(0, vr v0), (1, vi v1), (2, vi (v2 + (1 : Int32)))] [] q2.2)
    else (av_gR q2.2 v0 3 1).bind fun x3 =>
    (av_gR q2.2 v0 3 7).bind fun x4 =>
    (av_lI X q2.2 x4 v2).bind fun x5 =>
    (av_gR q2.2 v0 3 6).bind fun x6 =>
    (av_lI X q2.2 x6 q2.1).bind fun x7 =>
    (av_sI q2.2 x3 x5 x7).bind fun g8 =>
    (av_gR g8 v0 3 1).bind fun x9 =>
    (av_gR g8 v0 3 6).bind fun x10 =>
    (av_lI X g8 x10 q2.1).bind fun x11 =>
    (av_gR g8 v0 3 7).bind fun x12 =>
    (av_lI X g8 x12 v2).bind fun x13 =>
    (av_sI g8 x9 x11 x13).bind fun g14 =>
    bd X d 33 14 [(0, vr v0), (1, vi (v1 ||| ((1 : Int32) <<< (q2.1 &&& 31)))), (2, vi (v2 + (1 : Int32)))] [] g14) else none)
  else av_rV h :=
  (av_bd_eq av_Sg p_33 _ _ _ _ _).trans rfl
theorem e_33 (d : Nat) (v0 : Option Nat) (h : av_H) : ev X (d + 1) 33 [vr v0] h = bd X d 33 0 [(0, vr v0)] [] h := av_ev_eq av_Sg p_33 d _ h rfl
/-! 34 = X3_leastBestElder -/
set_option maxRecDepth 100000 in
theorem b_34_0 (d : Nat) (v0 : Option Nat) (v1 : Int32) (v2 : Int32) (h : av_H) : bd X d 34 0 [(0, vr v0), (1, vi v1), (2, vi v2)] [] h =
  bd X d 34 2 [(0, vr v0), (1, vi v1), (2, vi v2), (3, vi (0 : Int32))] [] h :=
  (av_bd_eq av_Sg p_34 _ _ _ _ _).trans rfl
set_option maxRecDepth 100000 in
theorem b_34_2 (d : Nat) (v0 : Option Nat) (v1 : Int32) (v2 : Int32) (v3 : Int32) (h : av_H) : bd X d 34 2 [(0, vr v0), (1, vi v1), (2, vi v2), (3, vi v3)] [] h =
  (av_gI h v0 3 11).bind fun x1 =>
  if v3 < x1 then
    ((av_cI (ev X d 185 [vi v2, vi v3] h)).bind fun q2 =>
    if q2.1 = 0 then
      (if av_is q2.2 v0 3 = true then (
      (av_cI (ev X d 32 [vr v0, vi v1, vi v2, vi v3] q2.2)).bind fun q3 =>
      if av_is q3.2 v0 3 = true then (
      (av_cI (ev X d 30 [vr v0, vi v1, vi v2] q3.2)).bind fun q4 =>
      if q3.1 = q4.1 then
        (av_rI v3 q4.2)
      else bd X d 34 2 [(0, vr v0), (1, vi v1), (2, vi v2), (3, vi (v3 + (1 : Int32)))] [] q4.2) else none) else none)
    else bd X d 34 2 [(0, vr v0), (1, vi v1), (2, vi v2), (3, vi (v3 + (1 : Int32)))] [] q2.2)
  else av_rI (-1 : Int32) h :=
  (av_bd_eq av_Sg p_34 _ _ _ _ _).trans rfl
theorem e_34 (d : Nat) (v0 : Option Nat) (v1 : Int32) (v2 : Int32) (h : av_H) : ev X (d + 1) 34 [vr v0, vi v1, vi v2] h = bd X d 34 0 [(0, vr v0), (1, vi v1), (2, vi v2)] [] h := av_ev_eq av_Sg p_34 d _ h rfl
/-! 35 = X3_setAway -/
set_option maxRecDepth 100000 in
theorem b_35_0 (d : Nat) (v0 : Option Nat) (v1 : Int32) (v2 : Int32) (v3 : Int32) (h : av_H) : bd X d 35 0 [(0, vr v0), (1, vi v1), (2, vi v2), (3, vi v3)] [] h =
  (av_cI (ev X d 191 [vi v1] h)).bind fun q1 =>
  if q1.1 = 0 then
    (av_rV q1.2)
  else (av_gR q1.2 v0 3 5).bind fun x2 =>
  if v3 = 0 then
    ((av_gR q1.2 v0 3 5).bind fun x3 =>
    (av_lI X q1.2 x3 v1).bind fun x4 =>
    (av_sI q1.2 x2 v1 (x4 &&& (((1 : Int32) <<< (v2 &&& 31)) ^^^ (-1 : Int32)))).bind fun g5 =>
    av_rV g5)
  else (av_gR q1.2 v0 3 5).bind fun x6 =>
  (av_lI X q1.2 x6 v1).bind fun x7 =>
  (av_sI q1.2 x2 v1 (x7 ||| ((1 : Int32) <<< (v2 &&& 31)))).bind fun g8 =>
  av_rV g8 :=
  (av_bd_eq av_Sg p_35 _ _ _ _ _).trans rfl
theorem e_35 (d : Nat) (v0 : Option Nat) (v1 : Int32) (v2 : Int32) (v3 : Int32) (h : av_H) : ev X (d + 1) 35 [vr v0, vi v1, vi v2, vi v3] h = bd X d 35 0 [(0, vr v0), (1, vi v1), (2, vi v2), (3, vi v3)] [] h := av_ev_eq av_Sg p_35 d _ h rfl
/-! 36 = X3_onCall -/
set_option maxRecDepth 100000 in
theorem b_36_0 (d : Nat) (v0 : Option Nat) (v1 : Int32) (v2 : Int32) (h : av_H) : bd X d 36 0 [(0, vr v0), (1, vi v1), (2, vi v2)] [] h =
  (av_gR h v0 3 9).bind fun x1 =>
  (av_cV (ev X d 383 [vr x1, vi (0 : Int32)] h)).bind fun q2 =>
  (av_gR q2 v0 3 10).bind fun x3 =>
  (av_cV (ev X d 383 [vr x3, vi (-1 : Int32)] q2)).bind fun q4 =>
  bd X d 36 12 [(0, vr v0), (1, vi v1), (2, vi v2), (3, vi (0 : Int32)), (4, vi (0 : Int32))] [] q4 :=
  (av_bd_eq av_Sg p_36 _ _ _ _ _).trans rfl
set_option maxRecDepth 100000 in
theorem b_36_12 (d : Nat) (v0 : Option Nat) (v1 : Int32) (v2 : Int32) (v3 : Int32) (v4 : Int32) (h : av_H) : bd X d 36 12 [(0, vr v0), (1, vi v1), (2, vi v2), (3, vi v3), (4, vi v4)] [] h =
  if v2 < v4 then
    (av_rI v3 h)
  else if av_is h v0 3 = true then (
  (av_cI (ev X d 37 [vr v0, vi v1, vi v4, vi (-1 : Int32)] h)).bind fun q1 =>
  if q1.1 = (-1 : Int32) then
    (bd X d 36 31 [(0, vr v0), (1, vi v1), (2, vi v2), (4, vi v4), (5, vi (q1.1))] [vi (-1 : Int32)] q1.2)
  else if av_is q1.2 v0 3 = true then (
  (av_cI (ev X d 37 [vr v0, vi v1, vi v4, vi (q1.1)] q1.2)).bind fun q2 =>
  bd X d 36 31 [(0, vr v0), (1, vi v1), (2, vi v2), (4, vi v4), (5, vi (q1.1))] [vi (q2.1)] q2.2) else none) else none :=
  (av_bd_eq av_Sg p_36 _ _ _ _ _).trans rfl
set_option maxRecDepth 100000 in
theorem b_36_31 (d : Nat) (v0 : Option Nat) (v1 : Int32) (v2 : Int32) (v4 : Int32) (v5 : Int32) (s0 : Int32) (h : av_H) : bd X d 36 31 [(0, vr v0), (1, vi v1), (2, vi v2), (4, vi v4), (5, vi v5)] [vi s0] h =
  if av_is h v0 3 = true then (
  (av_cI (ev X d 39 [vr v0, vi v5, vi v4] h)).bind fun q1 =>
  if av_is q1.2 v0 3 = true then (
  (av_cI (ev X d 39 [vr v0, vi s0, vi v4] q1.2)).bind fun q2 =>
  bd X d 36 12 [(0, vr v0), (1, vi v1), (2, vi v2), (3, vi (q1.1 ||| q2.1)), (4, vi (v4 + (1 : Int32)))] [] q2.2) else none) else none :=
  (av_bd_eq av_Sg p_36 _ _ _ _ _).trans rfl
theorem e_36 (d : Nat) (v0 : Option Nat) (v1 : Int32) (v2 : Int32) (h : av_H) : ev X (d + 1) 36 [vr v0, vi v1, vi v2] h = bd X d 36 0 [(0, vr v0), (1, vi v1), (2, vi v2)] [] h := av_ev_eq av_Sg p_36 d _ h rfl
/-! 37 = X3_nextOnCall -/
set_option maxRecDepth 100000 in
theorem b_37_0 (d : Nat) (v0 : Option Nat) (v1 : Int32) (v2 : Int32) (v3 : Int32) (h : av_H) : bd X d 37 0 [(0, vr v0), (1, vi v1), (2, vi v2), (3, vi v3)] [] h =
  bd X d 37 4 [(0, vr v0), (1, vi v1), (2, vi v2), (3, vi v3), (4, vi (-1 : Int32)), (5, vi (0 : Int32))] [] h :=
  (av_bd_eq av_Sg p_37 _ _ _ _ _).trans rfl
set_option maxRecDepth 100000 in
theorem b_37_4 (d : Nat) (v0 : Option Nat) (v1 : Int32) (v2 : Int32) (v3 : Int32) (v4 : Int32) (v5 : Int32) (h : av_H) : bd X d 37 4 [(0, vr v0), (1, vi v1), (2, vi v2), (3, vi v3), (4, vi v4), (5, vi v5)] [] h =
  if v5 < v1 then
    (if v5 < (10 : Int32) then
      (if v5 = v3 then
        (bd X d 37 22 [(0, vr v0), (1, vi v1), (2, vi v2), (3, vi v3), (4, vi v4), (5, vi v5)] [] h)
      else (av_gR h v0 3 5).bind fun x1 =>
      (av_lI X h x1 v5).bind fun x2 =>
      (av_cI (ev X d 185 [vi x2, vi v2] h)).bind fun q3 =>
      if q3.1 = 0 then
        (bd X d 37 23 [(0, vr v0), (1, vi v1), (2, vi v2), (3, vi v3), (4, vi v4), (5, vi v5)] [vi (1 : Int32)] q3.2)
      else bd X d 37 22 [(0, vr v0), (1, vi v1), (2, vi v2), (3, vi v3), (4, vi v4), (5, vi v5)] [] q3.2)
    else av_rI v4 h)
  else av_rI v4 h :=
  (av_bd_eq av_Sg p_37 _ _ _ _ _).trans rfl
set_option maxRecDepth 100000 in
theorem b_37_22 (d : Nat) (v0 : Option Nat) (v1 : Int32) (v2 : Int32) (v3 : Int32) (v4 : Int32) (v5 : Int32) (h : av_H) : bd X d 37 22 [(0, vr v0), (1, vi v1), (2, vi v2), (3, vi v3), (4, vi v4), (5, vi v5)] [] h =
  bd X d 37 23 [(0, vr v0), (1, vi v1), (2, vi v2), (3, vi v3), (4, vi v4), (5, vi v5)] [vi (0 : Int32)] h :=
  (av_bd_eq av_Sg p_37 _ _ _ _ _).trans rfl
set_option maxRecDepth 100000 in
theorem b_37_23 (d : Nat) (v0 : Option Nat) (v1 : Int32) (v2 : Int32) (v3 : Int32) (v4 : Int32) (v5 : Int32) (s0 : Int32) (h : av_H) : bd X d 37 23 [(0, vr v0), (1, vi v1), (2, vi v2), (3, vi v3), (4, vi v4), (5, vi v5)] [vi s0] h =
  if s0 = 0 then
    (bd X d 37 4 [(0, vr v0), (1, vi v1), (2, vi v2), (3, vi v3), (4, vi v4), (5, vi (v5 + (1 : Int32)))] [] h)
  else if v4 = (-1 : Int32) then
    (bd X d 37 4 [(0, vr v0), (1, vi v1), (2, vi v2), (3, vi v3), (4, vi v5), (5, vi (v5 + (1 : Int32)))] [] h)
  else if av_is h v0 3 = true then (
  (av_cI (ev X d 38 [vr v0, vi v5, vi v4] h)).bind fun q1 =>
  if q1.1 = 0 then
    (bd X d 37 4 [(0, vr v0), (1, vi v1), (2, vi v2), (3, vi v3), (4, vi v4), (5, vi (v5 + (1 : Int32)))] [] q1.2)
  else bd X d 37 4 [(0, vr v0), (1, vi v1), (2, vi v2), (3, vi v3), (4, vi v5), (5, vi (v5 + (1 : Int32)))] [] q1.2) else none :=
  (av_bd_eq av_Sg p_37 _ _ _ _ _).trans rfl
theorem e_37 (d : Nat) (v0 : Option Nat) (v1 : Int32) (v2 : Int32) (v3 : Int32) (h : av_H) : ev X (d + 1) 37 [vr v0, vi v1, vi v2, vi v3] h = bd X d 37 0 [(0, vr v0), (1, vi v1), (2, vi v2), (3, vi v3)] [] h := av_ev_eq av_Sg p_37 d _ h rfl
/-! 38 = X3_isAheadOf -/
set_option maxRecDepth 100000 in
theorem b_38_0 (d : Nat) (v0 : Option Nat) (v1 : Int32) (v2 : Int32) (h : av_H) : bd X d 38 0 [(0, vr v0), (1, vi v1), (2, vi v2)] [] h =
  (av_gR h v0 3 9).bind fun x1 =>
  (av_lI X h x1 v1).bind fun x2 =>
  (av_gR h v0 3 9).bind fun x3 =>
  (av_lI X h x3 v2).bind fun x4 =>
  if x2 = x4 then
    ((av_gR h v0 3 10).bind fun x5 =>
    (av_lI X h x5 v1).bind fun x6 =>
    (av_gR h v0 3 10).bind fun x7 =>
    (av_lI X h x7 v2).bind fun x8 =>
    if x6 < x8 then
      ((av_bz (1 : Int32)).bind fun w => av_rI w h)
    else (av_bz (0 : Int32)).bind fun w => av_rI w h)
  else (av_gR h v0 3 9).bind fun x9 =>
  (av_lI X h x9 v1).bind fun x10 =>
  (av_gR h v0 3 9).bind fun x11 =>
  (av_lI X h x11 v2).bind fun x12 =>
  if x10 < x12 then
    ((av_bz (1 : Int32)).bind fun w => av_rI w h)
  else (av_bz (0 : Int32)).bind fun w => av_rI w h :=
  (av_bd_eq av_Sg p_38 _ _ _ _ _).trans rfl
theorem e_38 (d : Nat) (v0 : Option Nat) (v1 : Int32) (v2 : Int32) (h : av_H) : ev X (d + 1) 38 [vr v0, vi v1, vi v2] h = bd X d 38 0 [(0, vr v0), (1, vi v1), (2, vi v2)] [] h := av_ev_eq av_Sg p_38 d _ h rfl
/-! 39 = X3_putOnCall -/
set_option maxRecDepth 100000 in
theorem b_39_0 (d : Nat) (v0 : Option Nat) (v1 : Int32) (v2 : Int32) (h : av_H) : bd X d 39 0 [(0, vr v0), (1, vi v1), (2, vi v2)] [] h =
  (av_cI (ev X d 191 [vi v1] h)).bind fun q1 =>
  if q1.1 = 0 then
    (av_rI (0 : Int32) q1.2)
  else (av_gR q1.2 v0 3 9).bind fun x2 =>
  (av_lI X q1.2 x2 v1).bind fun x3 =>
  (av_sI q1.2 x2 v1 (x3 + (1 : Int32))).bind fun g4 =>
  (av_gR g4 v0 3 10).bind fun x5 =>
  (av_sI g4 x5 v1 v2).bind fun g6 =>
  av_rI ((1 : Int32) <<< (v1 &&& 31)) g6 :=
  (av_bd_eq av_Sg p_39 _ _ _ _ _).trans rfl
theorem e_39 (d : Nat) (v0 : Option Nat) (v1 : Int32) (v2 : Int32) (h : av_H) : ev X (d + 1) 39 [vr v0, vi v1, vi v2] h = bd X d 39 0 [(0, vr v0), (1, vi v1), (2, vi v2)] [] h := av_ev_eq av_Sg p_39 d _ h rfl
/-! 40 = X4_init -/
set_option maxRecDepth 100000 in
theorem b_40_0 (d : Nat) (v0 : Option Nat) (h : av_H) : bd X d 40 0 [(0, vr v0)] [] h =
  if av_is h v0 4 = true then (
  (av_pI h v0 4 0 (0 : Int32)).bind fun g1 =>
  (av_pL g1 v0 4 1 (-1 : Int64)).bind fun g2 =>
  (av_pL g2 v0 4 2 (-1 : Int64)).bind fun g3 =>
  (av_pI g3 v0 4 3 (0 : Int32)).bind fun g4 =>
  (av_pI g4 v0 4 4 (2 : Int32)).bind fun g5 =>
  (av_na g5 100 (8 : Int32)).bind fun g6 =>
  (av_pR g6 v0 4 5 (some g5.1.length)).bind fun g7 =>
  (av_na g7 100 (8 : Int32)).bind fun g8 =>
  (av_pR g8 v0 4 6 (some g7.1.length)).bind fun g9 =>
  (av_na g9 100 (8 : Int32)).bind fun g10 =>
  (av_pR g10 v0 4 7 (some g9.1.length)).bind fun g11 =>
  (av_na g11 100 (20 : Int32)).bind fun g12 =>
  (av_pR g12 v0 4 8 (some g11.1.length)).bind fun g13 =>
  (av_na g13 100 (20 : Int32)).bind fun g14 =>
  (av_pR g14 v0 4 9 (some g13.1.length)).bind fun g15 =>
  (av_na g15 101 (1280 : Int32)).bind fun g16 =>
  (av_pR g16 v0 4 10 (some g15.1.length)).bind fun g17 =>
  (av_na g17 101 (128 : Int32)).bind fun g18 =>
  (av_pR g18 v0 4 11 (some g17.1.length)).bind fun g19 =>
  (av_na g19 101 (6 : Int32)).bind fun g20 =>
  (av_pR g20 v0 4 12 (some g19.1.length)).bind fun g21 =>
  (av_na g21 100 (6 : Int32)).bind fun g22 =>
  (av_pR g22 v0 4 13 (some g21.1.length)).bind fun g23 =>
  (av_pI g23 v0 4 14 (0 : Int32)).bind fun g24 =>
  (av_pL g24 v0 4 15 (0 : Int64)).bind fun g25 =>
  (av_gR g25 v0 4 8).bind fun x26 =>
  (av_cV (ev X d 383 [vr x26, vi (5 : Int32)] g25)).bind fun q27 =>
  (av_gR q27 v0 4 9).bind fun x28 =>
  (av_cV (ev X d 383 [vr x28, vi (10 : Int32)] q27)).bind fun q29 =>
  (av_gR q29 v0 4 10).bind fun x30 =>
  (av_cV (ev X d 382 [vr x30, vl (-1 : Int64)] q29)).bind fun q31 =>
  av_rV q31) else none :=
  (av_bd_eq av_Sg p_40 _ _ _ _ _).trans rfl
theorem e_40 (d : Nat) (v0 : Option Nat) (h : av_H) : ev X (d + 1) 40 [vr v0] h = bd X d 40 0 [(0, vr v0)] [] h := av_ev_eq av_Sg p_40 d _ h rfl
/-! 41 = X4_tens -/
set_option maxRecDepth 100000 in
theorem b_41_0 (d : Nat) (v0 : Int32) (h : av_H) : bd X d 41 0 [(0, vi v0)] [] h =
  (av_len X h (some 1000001)).bind fun x1 =>
  (av_cI (ev X d 184 [vi v0, vi x1] h)).bind fun q2 =>
  if q2.1 = 0 then
    (av_rL (1 : Int64) q2.2)
  else (av_lI X q2.2 (some 1000001) v0).bind fun x3 =>
  av_rL (x3.toInt64) q2.2 :=
  (av_bd_eq av_Sg p_41 _ _ _ _ _).trans rfl
theorem e_41 (d : Nat) (v0 : Int32) (h : av_H) : ev X (d + 1) 41 [vi v0] h = bd X d 41 0 [(0, vi v0)] [] h := av_ev_eq av_Sg p_41 d _ h rfl
/-! 42 = X4_forget -/
set_option maxRecDepth 100000 in
theorem b_42_0 (d : Nat) (v0 : Option Nat) (h : av_H) : bd X d 42 0 [(0, vr v0)] [] h =
  (av_gR h v0 4 10).bind fun x1 =>
  (av_cV (ev X d 382 [vr x1, vl (-1 : Int64)] h)).bind fun q2 =>
  (av_pL q2 v0 4 1 (-1 : Int64)).bind fun g3 =>
  (av_pL g3 v0 4 2 (-1 : Int64)).bind fun g4 =>
  av_rV g4 :=
  (av_bd_eq av_Sg p_42 _ _ _ _ _).trans rfl
theorem e_42 (d : Nat) (v0 : Option Nat) (h : av_H) : ev X (d + 1) 42 [vr v0] h = bd X d 42 0 [(0, vr v0)] [] h := av_ev_eq av_Sg p_42 d _ h rfl
/-! 43 = X4_addWanted -/
set_option maxRecDepth 100000 in
theorem b_43_0 (d : Nat) (v0 : Option Nat) (v1 : Int32) (v2 : Int32) (h : av_H) : bd X d 43 0 [(0, vr v0), (1, vi v1), (2, vi v2)] [] h =
  (av_gI h v0 4 0).bind fun x1 =>
  if x1 < (8 : Int32) then
    ((av_gR h v0 4 5).bind fun x2 =>
    (av_gI h v0 4 0).bind fun x3 =>
    (av_sI h x2 x3 v1).bind fun g4 =>
    (av_gR g4 v0 4 6).bind fun x5 =>
    (av_gI g4 v0 4 0).bind fun x6 =>
    (av_sI g4 x5 x6 v2).bind fun g7 =>
    (av_gI g7 v0 4 0).bind fun x8 =>
    (av_gI g7 v0 4 0).bind fun x9 =>
    bd X d 43 24 [(0, vr v0), (2, vi v2), (3, vi x8), (4, vi x9)] [] g7)
  else av_rI (-1 : Int32) h :=
  (av_bd_eq av_Sg p_43 _ _ _ _ _).trans rfl
set_option maxRecDepth 100000 in
theorem b_43_24 (d : Nat) (v0 : Option Nat) (v2 : Int32) (v3 : Int32) (v4 : Int32) (h : av_H) : bd X d 43 24 [(0, vr v0), (2, vi v2), (3, vi v3), (4, vi v4)] [] h =
  if 0 < v4 then
    ((av_gR h v0 4 6).bind fun x1 =>
    (av_gR h v0 4 7).bind fun x2 =>
    (av_lI X h x2 (v4 - (1 : Int32))).bind fun x3 =>
    (av_lI X h x1 x3).bind fun x4 =>
    if x4 < v2 then
      ((av_gR h v0 4 7).bind fun x5 =>
      (av_gR h v0 4 7).bind fun x6 =>
      (av_lI X h x6 (v4 - (1 : Int32))).bind fun x7 =>
      (av_sI h x5 v4 x7).bind fun g8 =>
      bd X d 43 24 [(0, vr v0), (2, vi v2), (3, vi (v4 - (1 : Int32))), (4, vi (v4 + (-1 : Int32)))] [] g8)
    else bd X d 43 53 [(0, vr v0), (3, vi v3)] [] h)
  else bd X d 43 53 [(0, vr v0), (3, vi v3)] [] h :=
  (av_bd_eq av_Sg p_43 _ _ _ _ _).trans rfl
set_option maxRecDepth 100000 in
theorem b_43_53 (d : Nat) (v0 : Option Nat) (v3 : Int32) (h : av_H) : bd X d 43 53 [(0, vr v0), (3, vi v3)] [] h =
  (av_gR h v0 4 7).bind fun x1 =>
  (av_gI h v0 4 0).bind fun x2 =>
  (av_sI h x1 v3 x2).bind fun g3 =>
  (av_gI g3 v0 4 0).bind fun x4 =>
  (av_pI g3 v0 4 0 (x4 + (1 : Int32))).bind fun g5 =>
  if av_is g5 v0 4 = true then (
  (av_cV (ev X d 42 [vr v0] g5)).bind fun q6 =>
  (av_gI q6 v0 4 0).bind fun x7 =>
  av_rI (x7 - (1 : Int32)) q6) else none :=
  (av_bd_eq av_Sg p_43 _ _ _ _ _).trans rfl
theorem e_43 (d : Nat) (v0 : Option Nat) (v1 : Int32) (v2 : Int32) (h : av_H) : ev X (d + 1) 43 [vr v0, vi v1, vi v2] h = bd X d 43 0 [(0, vr v0), (1, vi v1), (2, vi v2)] [] h := av_ev_eq av_Sg p_43 d _ h rfl
/-! 44 = X4_setChance -/
set_option maxRecDepth 100000 in
theorem b_44_0 (d : Nat) (v0 : Option Nat) (v1 : Int32) (v2 : Int32) (v3 : Int32) (h : av_H) : bd X d 44 0 [(0, vr v0), (1, vi v1), (2, vi v2), (3, vi v3)] [] h =
  (av_gR h v0 4 8).bind fun x1 =>
  (av_len X h x1).bind fun x2 =>
  (av_cI (ev X d 184 [vi ((v1 * (4 : Int32)) + v2), vi x2] h)).bind fun q3 =>
  if q3.1 = 0 then
    (av_rV q3.2)
  else (av_gR q3.2 v0 4 8).bind fun x4 =>
  (av_sI q3.2 x4 ((v1 * (4 : Int32)) + v2) v3).bind fun g5 =>
  if av_is g5 v0 4 = true then (
  (av_cV (ev X d 42 [vr v0] g5)).bind fun q6 =>
  av_rV q6) else none :=
  (av_bd_eq av_Sg p_44 _ _ _ _ _).trans rfl
theorem e_44 (d : Nat) (v0 : Option Nat) (v1 : Int32) (v2 : Int32) (v3 : Int32) (h : av_H) : ev X (d + 1) 44 [vr v0, vi v1, vi v2, vi v3] h = bd X d 44 0 [(0, vr v0), (1, vi v1), (2, vi v2), (3, vi v3)] [] h := av_ev_eq av_Sg p_44 d _ h rfl
/-! 45 = X4_setCame -/
set_option maxRecDepth 100000 in
theorem b_45_0 (d : Nat) (v0 : Option Nat) (v1 : Int32) (v2 : Int32) (v3 : Int32) (h : av_H) : bd X d 45 0 [(0, vr v0), (1, vi v1), (2, vi v2), (3, vi v3)] [] h =
  (av_gR h v0 4 9).bind fun x1 =>
  (av_len X h x1).bind fun x2 =>
  (av_cI (ev X d 184 [vi ((v1 * (4 : Int32)) + v2), vi x2] h)).bind fun q3 =>
  if q3.1 = 0 then
    (av_rV q3.2)
  else (av_gR q3.2 v0 4 9).bind fun x4 =>
  if v3 = 0 then
    ((av_sI q3.2 x4 ((v1 * (4 : Int32)) + v2) (0 : Int32)).bind fun g5 =>
    (av_pL g5 v0 4 2 (-1 : Int64)).bind fun g6 =>
    av_rV g6)
  else (av_sI q3.2 x4 ((v1 * (4 : Int32)) + v2) (10 : Int32)).bind fun g7 =>
  (av_pL g7 v0 4 2 (-1 : Int64)).bind fun g8 =>
  av_rV g8 :=
  (av_bd_eq av_Sg p_45 _ _ _ _ _).trans rfl
theorem e_45 (d : Nat) (v0 : Option Nat) (v1 : Int32) (v2 : Int32) (v3 : Int32) (h : av_H) : ev X (d + 1) 45 [vr v0, vi v1, vi v2, vi v3] h = bd X d 45 0 [(0, vr v0), (1, vi v1), (2, vi v2), (3, vi v3)] [] h := av_ev_eq av_Sg p_45 d _ h rfl
/-! 46 = X4_setCap -/
set_option maxRecDepth 100000 in
theorem b_46_0 (d : Nat) (v0 : Option Nat) (v1 : Int32) (h : av_H) : bd X d 46 0 [(0, vr v0), (1, vi v1)] [] h =
  (av_pI h v0 4 4 v1).bind fun g1 =>
  if av_is g1 v0 4 = true then (
  (av_cV (ev X d 42 [vr v0] g1)).bind fun q2 =>
  av_rV q2) else none :=
  (av_bd_eq av_Sg p_46 _ _ _ _ _).trans rfl
theorem e_46 (d : Nat) (v0 : Option Nat) (v1 : Int32) (h : av_H) : ev X (d + 1) 46 [vr v0, vi v1] h = bd X d 46 0 [(0, vr v0), (1, vi v1)] [] h := av_ev_eq av_Sg p_46 d _ h rfl
/-! 47 = X4_doneOf -/
set_option maxRecDepth 100000 in
theorem b_47_0 (d : Nat) (v0 : Option Nat) (v1 : Int32) (v2 : Int32) (h : av_H) : bd X d 47 0 [(0, vr v0), (1, vi v1), (2, vi v2)] [] h =
  bd X d 47 6 [(0, vr v0), (1, vi v1), (2, vi v2), (3, vi (0 : Int32)), (4, vi (0 : Int32)), (5, vi (0 : Int32))] [] h :=
  (av_bd_eq av_Sg p_47 _ _ _ _ _).trans rfl
set_option maxRecDepth 100000 in
theorem b_47_6 (d : Nat) (v0 : Option Nat) (v1 : Int32) (v2 : Int32) (v3 : Int32) (v4 : Int32) (v5 : Int32) (h : av_H) : bd X d 47 6 [(0, vr v0), (1, vi v1), (2, vi v2), (3, vi v3), (4, vi v4), (5, vi v5)] [] h =
  (av_gI h v0 4 0).bind fun x1 =>
  if v5 < x1 then
    ((av_gI h v0 4 4).bind fun x2 =>
    if v4 < x2 then
      ((av_gR h v0 4 7).bind fun x3 =>
      (av_lI X h x3 v5).bind fun x4 =>
      (av_gR h v0 4 5).bind fun x5 =>
      (av_lI X h x5 x4).bind fun x6 =>
      if x6 = v2 then
        ((av_cI (ev X d 185 [vi v1, vi x4] h)).bind fun q7 =>
        if q7.1 = 0 then
          (bd X d 47 6 [(0, vr v0), (1, vi v1), (2, vi v2), (3, vi v3), (4, vi v4), (5, vi (v5 + (1 : Int32)))] [] q7.2)
        else bd X d 47 6 [(0, vr v0), (1, vi v1), (2, vi v2), (3, vi (v3 ||| ((1 : Int32) <<< (x4 &&& 31)))), (4, vi (v4 + (1 : Int32))), (5, vi (v5 + (1 : Int32)))] [] q7.2)
      else bd X d 47 6 [(0, vr v0), (1, vi v1), (2, vi v2), (3, vi v3), (4, vi v4), (5, vi (v5 + (1 : Int32)))] [] h)
    else av_rI v3 h)
  else av_rI v3 h :=
  (av_bd_eq av_Sg p_47 _ _ _ _ _).trans rfl
theorem e_47 (d : Nat) (v0 : Option Nat) (v1 : Int32) (v2 : Int32) (h : av_H) : ev X (d + 1) 47 [vr v0, vi v1, vi v2] h = bd X d 47 0 [(0, vr v0), (1, vi v1), (2, vi v2)] [] h := av_ev_eq av_Sg p_47 d _ h rfl
/-! 48 = X4_worthOfAll -/
set_option maxRecDepth 100000 in
theorem b_48_0 (d : Nat) (v0 : Option Nat) (v1 : Int32) (h : av_H) : bd X d 48 0 [(0, vr v0), (1, vi v1)] [] h =
  bd X d 48 4 [(0, vr v0), (1, vi v1), (2, vi (0 : Int32)), (3, vi (0 : Int32))] [] h :=
  (av_bd_eq av_Sg p_48 _ _ _ _ _).trans rfl
set_option maxRecDepth 100000 in
theorem b_48_4 (d : Nat) (v0 : Option Nat) (v1 : Int32) (v2 : Int32) (v3 : Int32) (h : av_H) : bd X d 48 4 [(0, vr v0), (1, vi v1), (2, vi v2), (3, vi v3)] [] h =
  (av_gI h v0 4 0).bind fun x1 =>
  if v3 < x1 then
    ((av_cI (ev X d 185 [vi v1, vi v3] h)).bind fun q2 =>
    if q2.1 = 0 then
      (bd X d 48 4 [(0, vr v0), (1, vi v1), (2, vi (v2 + (0 : Int32))), (3, vi (v3 + (1 : Int32)))] [] q2.2)
    else (av_gR q2.2 v0 4 6).bind fun x3 =>
    (av_lI X q2.2 x3 v3).bind fun x4 =>
    bd X d 48 4 [(0, vr v0), (1, vi v1), (2, vi (v2 + x4)), (3, vi (v3 + (1 : Int32)))] [] q2.2)
  else av_rI v2 h :=
  (av_bd_eq av_Sg p_48 _ _ _ _ _).trans rfl
theorem e_48 (d : Nat) (v0 : Option Nat) (v1 : Int32) (h : av_H) : ev X (d + 1) 48 [vr v0, vi v1] h = bd X d 48 0 [(0, vr v0), (1, vi v1)] [] h := av_ev_eq av_Sg p_48 d _ h rfl
/-! 49 = X4_tenOf -/
set_option maxRecDepth 100000 in
theorem b_49_0 (d : Nat) (v0 : Option Nat) (v1 : Int32) (v2 : Int32) (h : av_H) : bd X d 49 0 [(0, vr v0), (1, vi v1), (2, vi v2)] [] h =
  (av_len X h v0).bind fun x1 =>
  (av_cI (ev X d 184 [vi ((v1 * (4 : Int32)) + v2), vi x1] h)).bind fun q2 =>
  if q2.1 = 0 then
    (av_rI (0 : Int32) q2.2)
  else (av_lI X q2.2 v0 ((v1 * (4 : Int32)) + v2)).bind fun x3 =>
  av_rI x3 q2.2 :=
  (av_bd_eq av_Sg p_49 _ _ _ _ _).trans rfl
theorem e_49 (d : Nat) (v0 : Option Nat) (v1 : Int32) (v2 : Int32) (h : av_H) : ev X (d + 1) 49 [vr v0, vi v1, vi v2] h = bd X d 49 0 [(0, vr v0), (1, vi v1), (2, vi v2)] [] h := av_ev_eq av_Sg p_49 d _ h rfl
/-! 50 = X4_worthFrom -/
set_option maxRecDepth 100000 in
theorem b_50_0 (d : Nat) (v0 : Option Nat) (v1 : Int32) (v2 : Int32) (h : av_H) : bd X d 50 0 [(0, vr v0), (1, vi v1), (2, vi v2)] [] h =
  if av_is h v0 4 = true then (
  (av_cL (ev X d 51 [vr v0, vi v1, vi v2] h)).bind fun q1 =>
  av_rL q1.1 q1.2) else none :=
  (av_bd_eq av_Sg p_50 _ _ _ _ _).trans rfl
theorem e_50 (d : Nat) (v0 : Option Nat) (v1 : Int32) (v2 : Int32) (h : av_H) : ev X (d + 1) 50 [vr v0, vi v1, vi v2] h = bd X d 50 0 [(0, vr v0), (1, vi v1), (2, vi v2)] [] h := av_ev_eq av_Sg p_50 d _ h rfl
/-! 51 = X4_bestFrom -/
set_option maxRecDepth 100000 in
theorem b_51_0 (d : Nat) (v0 : Option Nat) (v1 : Int32) (v2 : Int32) (h : av_H) : bd X d 51 0 [(0, vr v0), (1, vi v1), (2, vi v2)] [] h =
  (av_cI (ev X d 184 [vi v1, vi (5 : Int32)] h)).bind fun q1 =>
  if q1.1 = 0 then
    (av_rL (0 : Int64) q1.2)
  else (av_gR q1.2 v0 4 10).bind fun x2 =>
  (av_len X q1.2 x2).bind fun x3 =>
  (av_cI (ev X d 184 [vi ((v1 * (256 : Int32)) + v2), vi x3] q1.2)).bind fun q4 =>
  if q4.1 = 0 then
    (av_rL (0 : Int64) q4.2)
  else (av_gR q4.2 v0 4 10).bind fun x5 =>
  (av_lL q4.2 x5 ((v1 * (256 : Int32)) + v2)).bind fun x6 =>
  if (lg_cmp x6 (-1 : Int64)) = 0 then
    (if av_is q4.2 v0 4 = true then (
    (av_cL (ev X d 52 [vr v0, vi v1, vi v2] q4.2)).bind fun q7 =>
    bd X d 51 32 [(0, vr v0), (1, vi v1), (2, vi v2), (3, vi ((v1 * (256 : Int32)) + v2)), (4, vl (q7.1)), (6, vi (0 : Int32))] [] q7.2) else none)
  else (av_gR q4.2 v0 4 10).bind fun x8 =>
  (av_lL q4.2 x8 ((v1 * (256 : Int32)) + v2)).bind fun x9 =>
  av_rL x9 q4.2 :=
  (av_bd_eq av_Sg p_51 _ _ _ _ _).trans rfl
set_option maxRecDepth 100000 in
theorem b_51_32 (d : Nat) (v0 : Option Nat) (v1 : Int32) (v2 : Int32) (v3 : Int32) (v4 : Int64) (v6 : Int32) (h : av_H) : bd X d 51 32 [(0, vr v0), (1, vi v1), (2, vi v2), (3, vi v3), (4, vl v4), (6, vi v6)] [] h =
  if v6 < (4 : Int32) then
    (if av_is h v0 4 = true then (
    (av_cL (ev X d 53 [vr v0, vi v1, vi v2, vi v6] h)).bind fun q1 =>
    (av_cL (ev X d 380 [vl v4, vl (q1.1)] q1.2)).bind fun q2 =>
    bd X d 51 32 [(0, vr v0), (1, vi v1), (2, vi v2), (3, vi v3), (4, vl (q2.1)), (6, vi (v6 + (1 : Int32)))] [] q2.2) else none)
  else (av_gR h v0 4 10).bind fun x3 =>
  (av_sL h x3 v3 v4).bind fun g4 =>
  (av_gR g4 v0 4 10).bind fun x5 =>
  (av_lL g4 x5 v3).bind fun x6 =>
  av_rL x6 g4 :=
  (av_bd_eq av_Sg p_51 _ _ _ _ _).trans rfl
theorem e_51 (d : Nat) (v0 : Option Nat) (v1 : Int32) (v2 : Int32) (h : av_H) : ev X (d + 1) 51 [vr v0, vi v1, vi v2] h = bd X d 51 0 [(0, vr v0), (1, vi v1), (2, vi v2)] [] h := av_ev_eq av_Sg p_51 d _ h rfl
/-! 52 = X4_bestWithNone -/
set_option maxRecDepth 100000 in
theorem b_52_0 (d : Nat) (v0 : Option Nat) (v1 : Int32) (v2 : Int32) (h : av_H) : bd X d 52 0 [(0, vr v0), (1, vi v1), (2, vi v2)] [] h =
  if av_is h v0 4 = true then (
  (av_cL (ev X d 51 [vr v0, vi (v1 + (1 : Int32)), vi v2] h)).bind fun q1 =>
  av_rL ((10 : Int64) * q1.1) q1.2) else none :=
  (av_bd_eq av_Sg p_52 _ _ _ _ _).trans rfl
theorem e_52 (d : Nat) (v0 : Option Nat) (v1 : Int32) (v2 : Int32) (h : av_H) : ev X (d + 1) 52 [vr v0, vi v1, vi v2] h = bd X d 52 0 [(0, vr v0), (1, vi v1), (2, vi v2)] [] h := av_ev_eq av_Sg p_52 d _ h rfl
/-! 53 = X4_bestWith -/
set_option maxRecDepth 100000 in
theorem b_53_0 (d : Nat) (v0 : Option Nat) (v1 : Int32) (v2 : Int32) (v3 : Int32) (h : av_H) : bd X d 53 0 [(0, vr v0), (1, vi v1), (2, vi v2), (3, vi v3)] [] h =
  if av_is h v0 4 = true then (
  (av_cI (ev X d 47 [vr v0, vi v2, vi v3] h)).bind fun q1 =>
  (av_gR q1.2 v0 4 8).bind fun x2 =>
  (av_cI (ev X d 49 [vr x2, vi v1, vi v3] q1.2)).bind fun q3 =>
  if av_is q3.2 v0 4 = true then (
  (av_cI (ev X d 48 [vr v0, vi (q1.1)] q3.2)).bind fun q4 =>
  (av_cL (ev X d 41 [vi ((4 : Int32) - v1)] q4.2)).bind fun q5 =>
  if av_is q5.2 v0 4 = true then (
  (av_cL (ev X d 51 [vr v0, vi (v1 + (1 : Int32)), vi (v2 &&& (q1.1 ^^^ (-1 : Int32)))] q5.2)).bind fun q6 =>
  if av_is q6.2 v0 4 = true then (
  (av_cL (ev X d 51 [vr v0, vi (v1 + (1 : Int32)), vi v2] q6.2)).bind fun q7 =>
  av_rL (((q3.1.toInt64) * (((q4.1.toInt64) * q5.1) + q6.1)) + ((((10 : Int32) - q3.1).toInt64) * q7.1)) q7.2) else none) else none) else none) else none :=
  (av_bd_eq av_Sg p_53 _ _ _ _ _).trans rfl
theorem e_53 (d : Nat) (v0 : Option Nat) (v1 : Int32) (v2 : Int32) (v3 : Int32) (h : av_H) : ev X (d + 1) 53 [vr v0, vi v1, vi v2, vi v3] h = bd X d 53 0 [(0, vr v0), (1, vi v1), (2, vi v2), (3, vi v3)] [] h := av_ev_eq av_Sg p_53 d _ h rfl
/-! 54 = X4_firstSide -/
set_option maxRecDepth 100000 in
theorem b_54_0 (d : Nat) (v0 : Option Nat) (v1 : Int32) (v2 : Int32) (h : av_H) : bd X d 54 0 [(0, vr v0), (1, vi v1), (2, vi v2)] [] h =
  if av_is h v0 4 = true then (
  (av_cL (ev X d 52 [vr v0, vi v1, vi v2] h)).bind fun q1 =>
  bd X d 54 9 [(0, vr v0), (1, vi v1), (2, vi v2), (3, vi (-1 : Int32)), (4, vl (q1.1)), (6, vi (0 : Int32))] [] q1.2) else none :=
  (av_bd_eq av_Sg p_54 _ _ _ _ _).trans rfl
set_option maxRecDepth 100000 in
theorem b_54_9 (d : Nat) (v0 : Option Nat) (v1 : Int32) (v2 : Int32) (v3 : Int32) (v4 : Int64) (v6 : Int32) (h : av_H) : bd X d 54 9 [(0, vr v0), (1, vi v1), (2, vi v2), (3, vi v3), (4, vl v4), (6, vi v6)] [] h =
  if v6 < (4 : Int32) then
    (if av_is h v0 4 = true then (
    (av_cL (ev X d 53 [vr v0, vi v1, vi v2, vi v6] h)).bind fun q1 =>
    if 0 < (lg_cmp q1.1 v4) then
      (bd X d 54 9 [(0, vr v0), (1, vi v1), (2, vi v2), (3, vi v6), (4, vl (q1.1)), (6, vi (v6 + (1 : Int32)))] [] q1.2)
    else bd X d 54 9 [(0, vr v0), (1, vi v1), (2, vi v2), (3, vi v3), (4, vl v4), (6, vi (v6 + (1 : Int32)))] [] q1.2) else none)
  else av_rI v3 h :=
  (av_bd_eq av_Sg p_54 _ _ _ _ _).trans rfl
theorem e_54 (d : Nat) (v0 : Option Nat) (v1 : Int32) (v2 : Int32) (h : av_H) : ev X (d + 1) 54 [vr v0, vi v1, vi v2] h = bd X d 54 0 [(0, vr v0), (1, vi v1), (2, vi v2)] [] h := av_ev_eq av_Sg p_54 d _ h rfl
/-! 55 = X4_findFixed -/
set_option maxRecDepth 100000 in
theorem b_55_0 (d : Nat) (v0 : Option Nat) (h : av_H) : bd X d 55 0 [(0, vr v0)] [] h =
  (av_gL h v0 4 1).bind fun x1 =>
  if (lg_cmp x1 (-1 : Int64)) = 0 then
    ((av_gR h v0 4 8).bind fun x2 =>
    if av_is h v0 4 = true then (
    (av_cV (ev X d 59 [vr v0, vr x2] h)).bind fun q3 =>
    (av_gI q3 v0 4 14).bind fun x4 =>
    (av_pI q3 v0 4 3 x4).bind fun g5 =>
    (av_gL g5 v0 4 15).bind fun x6 =>
    (av_pL g5 v0 4 1 x6).bind fun g7 =>
    av_rV g7) else none)
  else av_rV h :=
  (av_bd_eq av_Sg p_55 _ _ _ _ _).trans rfl
theorem e_55 (d : Nat) (v0 : Option Nat) (h : av_H) : ev X (d + 1) 55 [vr v0] h = bd X d 55 0 [(0, vr v0)] [] h := av_ev_eq av_Sg p_55 d _ h rfl
/-! 56 = X4_fixedSide -/
set_option maxRecDepth 100000 in
theorem b_56_0 (d : Nat) (v0 : Option Nat) (v1 : Int32) (h : av_H) : bd X d 56 0 [(0, vr v0), (1, vi v1)] [] h =
  (av_gI h v0 4 3).bind fun x1 =>
  (av_cI (ev X d 58 [vi x1, vi v1] h)).bind fun q2 =>
  av_rI q2.1 q2.2 :=
  (av_bd_eq av_Sg p_56 _ _ _ _ _).trans rfl
theorem e_56 (d : Nat) (v0 : Option Nat) (v1 : Int32) (h : av_H) : ev X (d + 1) 56 [vr v0, vi v1] h = bd X d 56 0 [(0, vr v0), (1, vi v1)] [] h := av_ev_eq av_Sg p_56 d _ h rfl
/-! 57 = X4_digitOf -/
set_option maxRecDepth 100000 in
theorem b_57_0 (d : Nat) (v0 : Int32) (v1 : Int32) (h : av_H) : bd X d 57 0 [(0, vi v0), (1, vi v1)] [] h =
  (av_len X h (some 1000002)).bind fun x1 =>
  (av_cI (ev X d 184 [vi v1, vi x1] h)).bind fun q2 =>
  if q2.1 = 0 then
    (av_rI (4 : Int32) q2.2)
  else (av_lI X q2.2 (some 1000002) v1).bind fun x3 =>
  if x3 = 0 then none else if (5 : Int32) = 0 then none else av_rI ((v0 / x3) - (v0 / x3) / (5 : Int32) * (5 : Int32)) q2.2 :=
  (av_bd_eq av_Sg p_57 _ _ _ _ _).trans rfl
theorem e_57 (d : Nat) (v0 : Int32) (v1 : Int32) (h : av_H) : ev X (d + 1) 57 [vi v0, vi v1] h = bd X d 57 0 [(0, vi v0), (1, vi v1)] [] h := av_ev_eq av_Sg p_57 d _ h rfl
/-! 58 = X4_sideIn -/
set_option maxRecDepth 100000 in
theorem b_58_0 (d : Nat) (v0 : Int32) (v1 : Int32) (h : av_H) : bd X d 58 0 [(0, vi v0), (1, vi v1)] [] h =
  (av_cI (ev X d 57 [vi v0, vi v1] h)).bind fun q1 =>
  if q1.1 < (4 : Int32) then
    (av_rI q1.1 q1.2)
  else av_rI (-1 : Int32) q1.2 :=
  (av_bd_eq av_Sg p_58 _ _ _ _ _).trans rfl
theorem e_58 (d : Nat) (v0 : Int32) (v1 : Int32) (h : av_H) : ev X (d + 1) 58 [vi v0, vi v1] h = bd X d 58 0 [(0, vi v0), (1, vi v1)] [] h := av_ev_eq av_Sg p_58 d _ h rfl
/-! 59 = X4_findRow -/
set_option maxRecDepth 100000 in
theorem b_59_0 (d : Nat) (v0 : Option Nat) (v1 : Option Nat) (h : av_H) : bd X d 59 0 [(0, vr v0), (1, vr v1)] [] h =
  bd X d 59 2 [(0, vr v0), (1, vr v1), (2, vi (0 : Int32))] [] h :=
  (av_bd_eq av_Sg p_59 _ _ _ _ _).trans rfl
set_option maxRecDepth 100000 in
theorem b_59_2 (d : Nat) (v0 : Option Nat) (v1 : Option Nat) (v2 : Int32) (h : av_H) : bd X d 59 2 [(0, vr v0), (1, vr v1), (2, vi v2)] [] h =
  if v2 < (4 : Int32) then
    (if av_is h v0 4 = true then (
    (av_cV (ev X d 61 [vr v0, vi v2] h)).bind fun q1 =>
    bd X d 59 10 [(0, vr v0), (1, vr v1), (2, vi v2), (3, vi (0 : Int32))] [] q1) else none)
  else (av_pI h v0 4 14 (0 : Int32)).bind fun g2 =>
  (av_pL g2 v0 4 15 (-1 : Int64)).bind fun g3 =>
  bd X d 59 40 [(0, vr v0), (2, vi (0 : Int32))] [] g3 :=
  (av_bd_eq av_Sg p_59 _ _ _ _ _).trans rfl
set_option maxRecDepth 100000 in
theorem b_59_10 (d : Nat) (v0 : Option Nat) (v1 : Option Nat) (v2 : Int32) (v3 : Int32) (h : av_H) : bd X d 59 10 [(0, vr v0), (1, vr v1), (2, vi v2), (3, vi v3)] [] h =
  if v3 < (32 : Int32) then
    (if av_is h v0 4 = true then (
    (av_cV (ev X d 62 [vr v0, vr v1, vi v2, vi v3] h)).bind fun q1 =>
    (av_gR q1 v0 4 11).bind fun x2 =>
    if av_is q1 v0 4 = true then (
    (av_cL (ev X d 63 [vr v0] q1)).bind fun q3 =>
    (av_sL q3.2 x2 ((v2 * (32 : Int32)) + v3) q3.1).bind fun g4 =>
    bd X d 59 10 [(0, vr v0), (1, vr v1), (2, vi v2), (3, vi (v3 + (1 : Int32)))] [] g4) else none) else none)
  else bd X d 59 2 [(0, vr v0), (1, vr v1), (2, vi (v2 + (1 : Int32)))] [] h :=
  (av_bd_eq av_Sg p_59 _ _ _ _ _).trans rfl
set_option maxRecDepth 100000 in
theorem b_59_40 (d : Nat) (v0 : Option Nat) (v2 : Int32) (h : av_H) : bd X d 59 40 [(0, vr v0), (2, vi v2)] [] h =
  if v2 < (3125 : Int32) then
    (if av_is h v0 4 = true then (
    (av_cL (ev X d 60 [vr v0, vi v2] h)).bind fun q1 =>
    (av_gL q1.2 v0 4 15).bind fun x2 =>
    if 0 < (lg_cmp q1.1 x2) then
      ((av_pI q1.2 v0 4 14 v2).bind fun g3 =>
      (av_pL g3 v0 4 15 q1.1).bind fun g4 =>
      bd X d 59 40 [(0, vr v0), (2, vi (v2 + (1 : Int32)))] [] g4)
    else bd X d 59 40 [(0, vr v0), (2, vi (v2 + (1 : Int32)))] [] q1.2) else none)
  else av_rV h :=
  (av_bd_eq av_Sg p_59 _ _ _ _ _).trans rfl
theorem e_59 (d : Nat) (v0 : Option Nat) (v1 : Option Nat) (h : av_H) : ev X (d + 1) 59 [vr v0, vr v1] h = bd X d 59 0 [(0, vr v0), (1, vr v1)] [] h := av_ev_eq av_Sg p_59 d _ h rfl
/-! 60 = X4_rowWorth -/
set_option maxRecDepth 100000 in
theorem b_60_0 (d : Nat) (v0 : Option Nat) (v1 : Int32) (h : av_H) : bd X d 60 0 [(0, vr v0), (1, vi v1)] [] h =
  bd X d 60 4 [(0, vr v0), (1, vi v1), (2, vi (0 : Int32)), (3, vi (0 : Int32))] [] h :=
  (av_bd_eq av_Sg p_60 _ _ _ _ _).trans rfl
set_option maxRecDepth 100000 in
theorem b_60_4 (d : Nat) (v0 : Option Nat) (v1 : Int32) (v2 : Int32) (v3 : Int32) (h : av_H) : bd X d 60 4 [(0, vr v0), (1, vi v1), (2, vi v2), (3, vi v3)] [] h =
  if v3 < (5 : Int32) then
    ((av_cI (ev X d 57 [vi v1, vi v3] h)).bind fun q1 =>
    if q1.1 < (4 : Int32) then
      (bd X d 60 4 [(0, vr v0), (1, vi v1), (2, vi (v2 ||| ((1 : Int32) <<< (((q1.1 * (5 : Int32)) + v3) &&& 31)))), (3, vi (v3 + (1 : Int32)))] [] q1.2)
    else bd X d 60 4 [(0, vr v0), (1, vi v1), (2, vi (v2 ||| (0 : Int32))), (3, vi (v3 + (1 : Int32)))] [] q1.2)
  else bd X d 60 32 [(0, vr v0), (2, vi v2), (3, vl (0 : Int64)), (5, vi (0 : Int32))] [] h :=
  (av_bd_eq av_Sg p_60 _ _ _ _ _).trans rfl
set_option maxRecDepth 100000 in
theorem b_60_32 (d : Nat) (v0 : Option Nat) (v2 : Int32) (v3 : Int64) (v5 : Int32) (h : av_H) : bd X d 60 32 [(0, vr v0), (2, vi v2), (3, vl v3), (5, vi v5)] [] h =
  if v5 < (4 : Int32) then
    ((av_gR h v0 4 11).bind fun x1 =>
    (av_lL h x1 ((v5 * (32 : Int32)) + ((v2 >>> ((v5 * (5 : Int32)) &&& 31)) &&& (31 : Int32)))).bind fun x2 =>
    bd X d 60 32 [(0, vr v0), (2, vi v2), (3, vl (v3 + x2)), (5, vi (v5 + (1 : Int32)))] [] h)
  else av_rL v3 h :=
  (av_bd_eq av_Sg p_60 _ _ _ _ _).trans rfl
theorem e_60 (d : Nat) (v0 : Option Nat) (v1 : Int32) (h : av_H) : ev X (d + 1) 60 [vr v0, vi v1] h = bd X d 60 0 [(0, vr v0), (1, vi v1)] [] h := av_ev_eq av_Sg p_60 d _ h rfl
/-! 61 = X4_weighTimes -/
set_option maxRecDepth 100000 in
theorem b_61_0 (d : Nat) (v0 : Option Nat) (v1 : Int32) (h : av_H) : bd X d 61 0 [(0, vr v0), (1, vi v1)] [] h =
  bd X d 61 6 [(0, vr v0), (1, vi v1), (2, vi (255 : Int32)), (3, vi (0 : Int32)), (4, vi (0 : Int32))] [] h :=
  (av_bd_eq av_Sg p_61 _ _ _ _ _).trans rfl
set_option maxRecDepth 100000 in
theorem b_61_6 (d : Nat) (v0 : Option Nat) (v1 : Int32) (v2 : Int32) (v3 : Int32) (v4 : Int32) (h : av_H) : bd X d 61 6 [(0, vr v0), (1, vi v1), (2, vi v2), (3, vi v3), (4, vi v4)] [] h =
  if (5 : Int32) < v4 then
    (av_rV h)
  else (av_gR h v0 4 13).bind fun x1 =>
  (av_sI h x1 v4 v3).bind fun g2 =>
  if av_is g2 v0 4 = true then (
  (av_cI (ev X d 47 [vr v0, vi v2, vi v1] g2)).bind fun q3 =>
  if av_is q3.2 v0 4 = true then (
  (av_cI (ev X d 48 [vr v0, vi (q3.1)] q3.2)).bind fun q4 =>
  bd X d 61 6 [(0, vr v0), (1, vi v1), (2, vi (v2 &&& (q3.1 ^^^ (-1 : Int32)))), (3, vi (v3 + q4.1)), (4, vi (v4 + (1 : Int32)))] [] q4.2) else none) else none :=
  (av_bd_eq av_Sg p_61 _ _ _ _ _).trans rfl
theorem e_61 (d : Nat) (v0 : Option Nat) (v1 : Int32) (h : av_H) : ev X (d + 1) 61 [vr v0, vi v1] h = bd X d 61 0 [(0, vr v0), (1, vi v1)] [] h := av_ev_eq av_Sg p_61 d _ h rfl
/-! 62 = X4_weighOdds -/
set_option maxRecDepth 100000 in
theorem b_62_0 (d : Nat) (v0 : Option Nat) (v1 : Option Nat) (v2 : Int32) (v3 : Int32) (h : av_H) : bd X d 62 0 [(0, vr v0), (1, vr v1), (2, vi v2), (3, vi v3)] [] h =
  (av_gR h v0 4 12).bind fun x1 =>
  (av_cV (ev X d 382 [vr x1, vl (0 : Int64)] h)).bind fun q2 =>
  (av_gR q2 v0 4 12).bind fun x3 =>
  (av_sL q2 x3 (0 : Int32) (1 : Int64)).bind fun g4 =>
  bd X d 62 11 [(0, vr v0), (1, vr v1), (2, vi v2), (3, vi v3), (4, vi (0 : Int32))] [] g4 :=
  (av_bd_eq av_Sg p_62 _ _ _ _ _).trans rfl
set_option maxRecDepth 100000 in
theorem b_62_11 (d : Nat) (v0 : Option Nat) (v1 : Option Nat) (v2 : Int32) (v3 : Int32) (v4 : Int32) (h : av_H) : bd X d 62 11 [(0, vr v0), (1, vr v1), (2, vi v2), (3, vi v3), (4, vi v4)] [] h =
  if v4 < (5 : Int32) then
    ((av_cI (ev X d 185 [vi v3, vi v4] h)).bind fun q1 =>
    if q1.1 = 0 then
      (bd X d 62 27 [(0, vr v0), (1, vr v1), (2, vi v2), (3, vi v3), (4, vi v4), (5, vi (0 : Int32)), (6, vi (5 : Int32))] [] q1.2)
    else (av_cI (ev X d 49 [vr v1, vi v4, vi v2] q1.2)).bind fun q2 =>
    bd X d 62 27 [(0, vr v0), (1, vr v1), (2, vi v2), (3, vi v3), (4, vi v4), (5, vi (q2.1)), (6, vi (5 : Int32))] [] q2.2)
  else av_rV h :=
  (av_bd_eq av_Sg p_62 _ _ _ _ _).trans rfl
set_option maxRecDepth 100000 in
theorem b_62_27 (d : Nat) (v0 : Option Nat) (v1 : Option Nat) (v2 : Int32) (v3 : Int32) (v4 : Int32) (v5 : Int32) (v6 : Int32) (h : av_H) : bd X d 62 27 [(0, vr v0), (1, vr v1), (2, vi v2), (3, vi v3), (4, vi v4), (5, vi v5), (6, vi v6)] [] h =
  if 0 < v6 then
    ((av_gR h v0 4 12).bind fun x1 =>
    (av_gR h v0 4 12).bind fun x2 =>
    (av_lL h x2 v6).bind fun x3 =>
    (av_gR h v0 4 12).bind fun x4 =>
    (av_lL h x4 (v6 - (1 : Int32))).bind fun x5 =>
    (av_sL h x1 v6 ((x3 * (((10 : Int32) - v5).toInt64)) + (x5 * (v5.toInt64)))).bind fun g6 =>
    bd X d 62 27 [(0, vr v0), (1, vr v1), (2, vi v2), (3, vi v3), (4, vi v4), (5, vi v5), (6, vi (v6 + (-1 : Int32)))] [] g6)
  else (av_gR h v0 4 12).bind fun x7 =>
  (av_lL h x7 (0 : Int32)).bind fun x8 =>
  (av_sL h x7 (0 : Int32) (x8 * (((10 : Int32) - v5).toInt64))).bind fun g9 =>
  bd X d 62 11 [(0, vr v0), (1, vr v1), (2, vi v2), (3, vi v3), (4, vi (v4 + (1 : Int32)))] [] g9 :=
  (av_bd_eq av_Sg p_62 _ _ _ _ _).trans rfl
theorem e_62 (d : Nat) (v0 : Option Nat) (v1 : Option Nat) (v2 : Int32) (v3 : Int32) (h : av_H) : ev X (d + 1) 62 [vr v0, vr v1, vi v2, vi v3] h = bd X d 62 0 [(0, vr v0), (1, vr v1), (2, vi v2), (3, vi v3)] [] h := av_ev_eq av_Sg p_62 d _ h rfl
/-! 63 = X4_worthByOdds -/
set_option maxRecDepth 100000 in
theorem b_63_0 (d : Nat) (v0 : Option Nat) (h : av_H) : bd X d 63 0 [(0, vr v0)] [] h =
  bd X d 63 4 [(0, vr v0), (1, vl (0 : Int64)), (3, vi (0 : Int32))] [] h :=
  (av_bd_eq av_Sg p_63 _ _ _ _ _).trans rfl
set_option maxRecDepth 100000 in
theorem b_63_4 (d : Nat) (v0 : Option Nat) (v1 : Int64) (v3 : Int32) (h : av_H) : bd X d 63 4 [(0, vr v0), (1, vl v1), (3, vi v3)] [] h =
  if (5 : Int32) < v3 then
    (av_rL v1 h)
  else (av_gR h v0 4 12).bind fun x1 =>
  (av_lL h x1 v3).bind fun x2 =>
  (av_gR h v0 4 13).bind fun x3 =>
  (av_lI X h x3 v3).bind fun x4 =>
  bd X d 63 4 [(0, vr v0), (1, vl (v1 + (x2 * (x4.toInt64)))), (3, vi (v3 + (1 : Int32)))] [] h :=
  (av_bd_eq av_Sg p_63 _ _ _ _ _).trans rfl
theorem e_63 (d : Nat) (v0 : Option Nat) (h : av_H) : ev X (d + 1) 63 [vr v0] h = bd X d 63 0 [(0, vr v0)] [] h := av_ev_eq av_Sg p_63 d _ h rfl
/-! 64 = X4_worthByPlan -/
set_option maxRecDepth 100000 in
theorem b_64_0 (d : Nat) (v0 : Option Nat) (h : av_H) : bd X d 64 0 [(0, vr v0)] [] h =
  (av_gI h v0 4 0).bind fun x1 =>
  bd X d 64 9 [(0, vr v0), (1, vi (((1 : Int32) <<< (x1 &&& 31)) - (1 : Int32))), (2, vi (0 : Int32))] [] h :=
  (av_bd_eq av_Sg p_64 _ _ _ _ _).trans rfl
set_option maxRecDepth 100000 in
theorem b_64_9 (d : Nat) (v0 : Option Nat) (v1 : Int32) (v2 : Int32) (h : av_H) : bd X d 64 9 [(0, vr v0), (1, vi v1), (2, vi v2)] [] h =
  if v2 < (5 : Int32) then
    (if av_is h v0 4 = true then (
    (av_cI (ev X d 54 [vr v0, vi v2, vi v1] h)).bind fun q1 =>
    if av_is q1.2 v0 4 = true then (
    (av_cI (ev X d 66 [vr v0, vi v2, vi v1, vi (q1.1)] q1.2)).bind fun q2 =>
    bd X d 64 9 [(0, vr v0), (1, vi (q2.1)), (2, vi (v2 + (1 : Int32)))] [] q2.2) else none) else none)
  else if av_is h v0 4 = true then (
  (av_cI (ev X d 48 [vr v0, vi (v1 ^^^ (-1 : Int32))] h)).bind fun q3 =>
  av_rI q3.1 q3.2) else none :=
  (av_bd_eq av_Sg p_64 _ _ _ _ _).trans rfl
theorem e_64 (d : Nat) (v0 : Option Nat) (h : av_H) : ev X (d + 1) 64 [vr v0] h = bd X d 64 0 [(0, vr v0)] [] h := av_ev_eq av_Sg p_64 d _ h rfl
/-! 65 = X4_worthByFixed -/
set_option maxRecDepth 100000 in
theorem b_65_0 (d : Nat) (v0 : Option Nat) (h : av_H) : bd X d 65 0 [(0, vr v0)] [] h =
  if av_is h v0 4 = true then (
  (av_cV (ev X d 55 [vr v0] h)).bind fun q1 =>
  (av_gI q1 v0 4 0).bind fun x2 =>
  bd X d 65 11 [(0, vr v0), (1, vi (((1 : Int32) <<< (x2 &&& 31)) - (1 : Int32))), (2, vi (0 : Int32))] [] q1) else none :=
  (av_bd_eq av_Sg p_65 _ _ _ _ _).trans rfl
set_option maxRecDepth 100000 in
theorem b_65_11 (d : Nat) (v0 : Option Nat) (v1 : Int32) (v2 : Int32) (h : av_H) : bd X d 65 11 [(0, vr v0), (1, vi v1), (2, vi v2)] [] h =
  if v2 < (5 : Int32) then
    (if av_is h v0 4 = true then (
    (av_cI (ev X d 56 [vr v0, vi v2] h)).bind fun q1 =>
    if av_is q1.2 v0 4 = true then (
    (av_cI (ev X d 66 [vr v0, vi v2, vi v1, vi (q1.1)] q1.2)).bind fun q2 =>
    bd X d 65 11 [(0, vr v0), (1, vi (q2.1)), (2, vi (v2 + (1 : Int32)))] [] q2.2) else none) else none)
  else if av_is h v0 4 = true then (
  (av_cI (ev X d 48 [vr v0, vi (v1 ^^^ (-1 : Int32))] h)).bind fun q3 =>
  av_rI q3.1 q3.2) else none :=
  (av_bd_eq av_Sg p_65 _ _ _ _ _).trans rfl
theorem e_65 (d : Nat) (v0 : Option Nat) (h : av_H) : ev X (d + 1) 65 [vr v0] h = bd X d 65 0 [(0, vr v0)] [] h := av_ev_eq av_Sg p_65 d _ h rfl
/-! 66 = X4_leftBehind -/
set_option maxRecDepth 100000 in
theorem b_66_0 (d : Nat) (v0 : Option Nat) (v1 : Int32) (v2 : Int32) (v3 : Int32) (h : av_H) : bd X d 66 0 [(0, vr v0), (1, vi v1), (2, vi v2), (3, vi v3)] [] h =
  if v3 = (-1 : Int32) then
    (bd X d 66 11 [(0, vr v0), (2, vi v2), (3, vi v3)] [] h)
  else (av_gR h v0 4 9).bind fun x1 =>
  (av_cI (ev X d 49 [vr x1, vi v1, vi v3] h)).bind fun q2 =>
  if 0 < q2.1 then
    (bd X d 66 12 [(0, vr v0), (2, vi v2), (3, vi v3)] [vi (1 : Int32)] q2.2)
  else bd X d 66 11 [(0, vr v0), (2, vi v2), (3, vi v3)] [] q2.2 :=
  (av_bd_eq av_Sg p_66 _ _ _ _ _).trans rfl
set_option maxRecDepth 100000 in
theorem b_66_11 (d : Nat) (v0 : Option Nat) (v2 : Int32) (v3 : Int32) (h : av_H) : bd X d 66 11 [(0, vr v0), (2, vi v2), (3, vi v3)] [] h =
  bd X d 66 12 [(0, vr v0), (2, vi v2), (3, vi v3)] [vi (0 : Int32)] h :=
  (av_bd_eq av_Sg p_66 _ _ _ _ _).trans rfl
set_option maxRecDepth 100000 in
theorem b_66_12 (d : Nat) (v0 : Option Nat) (v2 : Int32) (v3 : Int32) (s0 : Int32) (h : av_H) : bd X d 66 12 [(0, vr v0), (2, vi v2), (3, vi v3)] [vi s0] h =
  if s0 = 0 then
    (av_rI v2 h)
  else if av_is h v0 4 = true then (
  (av_cI (ev X d 47 [vr v0, vi v2, vi v3] h)).bind fun q1 =>
  av_rI (v2 &&& (q1.1 ^^^ (-1 : Int32))) q1.2) else none :=
  (av_bd_eq av_Sg p_66 _ _ _ _ _).trans rfl
theorem e_66 (d : Nat) (v0 : Option Nat) (v1 : Int32) (v2 : Int32) (v3 : Int32) (h : av_H) : ev X (d + 1) 66 [vr v0, vi v1, vi v2, vi v3] h = bd X d 66 0 [(0, vr v0), (1, vi v1), (2, vi v2), (3, vi v3)] [] h := av_ev_eq av_Sg p_66 d _ h rfl
/-! 67 = X4_worthAtMost -/
set_option maxRecDepth 100000 in
theorem b_67_0 (d : Nat) (v0 : Option Nat) (h : av_H) : bd X d 67 0 [(0, vr v0)] [] h =
  (av_gL h v0 4 2).bind fun x1 =>
  if (lg_cmp x1 (-1 : Int64)) = 0 then
    ((av_gR h v0 4 9).bind fun x2 =>
    if av_is h v0 4 = true then (
    (av_cV (ev X d 59 [vr v0, vr x2] h)).bind fun q3 =>
    (av_gL q3 v0 4 15).bind fun x4 =>
    (av_pL q3 v0 4 2 x4).bind fun g5 =>
    (av_gL g5 v0 4 2).bind fun x6 =>
    (av_lI X g5 (some 1000001) (5 : Int32)).bind fun x7 =>
    if (x7.toInt64) = 0 then none else av_rI ((x6 / (x7.toInt64)).toInt32) g5) else none)
  else (av_gL h v0 4 2).bind fun x8 =>
  (av_lI X h (some 1000001) (5 : Int32)).bind fun x9 =>
  if (x9.toInt64) = 0 then none else av_rI ((x8 / (x9.toInt64)).toInt32) h :=
  (av_bd_eq av_Sg p_67 _ _ _ _ _).trans rfl
theorem e_67 (d : Nat) (v0 : Option Nat) (h : av_H) : ev X (d + 1) 67 [vr v0] h = bd X d 67 0 [(0, vr v0)] [] h := av_ev_eq av_Sg p_67 d _ h rfl
/-! 68 = X5_init -/
set_option maxRecDepth 100000 in
theorem b_68_0 (d : Nat) (v0 : Option Nat) (h : av_H) : bd X d 68 0 [(0, vr v0)] [] h =
  if av_is h v0 5 = true then (
  (av_pI h v0 5 0 (0 : Int32)).bind fun g1 =>
  (av_na g1 102 (1000 : Int32)).bind fun g2 =>
  (av_pR g2 v0 5 1 (some g1.1.length)).bind fun g3 =>
  (av_na g3 100 (1001 : Int32)).bind fun g4 =>
  (av_pR g4 v0 5 2 (some g3.1.length)).bind fun g5 =>
  (av_na g5 100 (1001 : Int32)).bind fun g6 =>
  (av_pR g6 v0 5 3 (some g5.1.length)).bind fun g7 =>
  (av_pI g7 v0 5 4 (0 : Int32)).bind fun g8 =>
  (av_pI g8 v0 5 5 (0 : Int32)).bind fun g9 =>
  (av_pI g9 v0 5 6 (0 : Int32)).bind fun g10 =>
  (av_pI g10 v0 5 7 (30001 : Int32)).bind fun g11 =>
  (av_pI g11 v0 5 8 (0 : Int32)).bind fun g12 =>
  (av_pI g12 v0 5 9 (0 : Int32)).bind fun g13 =>
  av_rV g13) else none :=
  (av_bd_eq av_Sg p_68 _ _ _ _ _).trans rfl
theorem e_68 (d : Nat) (v0 : Option Nat) (h : av_H) : ev X (d + 1) 68 [vr v0] h = bd X d 68 0 [(0, vr v0)] [] h := av_ev_eq av_Sg p_68 d _ h rfl
/-! 69 = X5_takeBytes -/
set_option maxRecDepth 100000 in
theorem b_69_0 (d : Nat) (v0 : Option Nat) (v1 : Int64) (h : av_H) : bd X d 69 0 [(0, vr v0), (1, vl v1)] [] h =
  bd X d 69 2 [(0, vr v0), (1, vl v1), (3, vi (56 : Int32))] [] h :=
  (av_bd_eq av_Sg p_69 _ _ _ _ _).trans rfl
set_option maxRecDepth 100000 in
theorem b_69_2 (d : Nat) (v0 : Option Nat) (v1 : Int64) (v3 : Int32) (h : av_H) : bd X d 69 2 [(0, vr v0), (1, vl v1), (3, vi v3)] [] h =
  if v3 < 0 then
    (av_rV h)
  else if ((((v1.toUInt64 >>> (v3.toInt64.toUInt64 &&& Int64.toUInt64 63)).toInt64).toInt32) &&& (255 : Int32)) = (10 : Int32) then
    (bd X d 69 19 [(0, vr v0), (1, vl v1), (3, vi v3), (4, vi ((((v1.toUInt64 >>> (v3.toInt64.toUInt64 &&& Int64.toUInt64 63)).toInt64).toInt32) &&& (255 : Int32)))] [] h)
  else (av_cI (ev X d 183 [vi ((((v1.toUInt64 >>> (v3.toInt64.toUInt64 &&& Int64.toUInt64 63)).toInt64).toInt32) &&& (255 : Int32)), vi (32 : Int32), vi (126 : Int32)] h)).bind fun q1 =>
  if q1.1 = 0 then
    (bd X d 69 2 [(0, vr v0), (1, vl v1), (3, vi (v3 + (-8 : Int32)))] [] q1.2)
  else bd X d 69 19 [(0, vr v0), (1, vl v1), (3, vi v3), (4, vi ((((v1.toUInt64 >>> (v3.toInt64.toUInt64 &&& Int64.toUInt64 63)).toInt64).toInt32) &&& (255 : Int32)))] [] q1.2 :=
  (av_bd_eq av_Sg p_69 _ _ _ _ _).trans rfl
set_option maxRecDepth 100000 in
theorem b_69_19 (d : Nat) (v0 : Option Nat) (v1 : Int64) (v3 : Int32) (v4 : Int32) (h : av_H) : bd X d 69 19 [(0, vr v0), (1, vl v1), (3, vi v3), (4, vi v4)] [] h =
  (av_gI h v0 5 0).bind fun x1 =>
  if x1 < (1000 : Int32) then
    ((av_gR h v0 5 1).bind fun x2 =>
    (av_gI h v0 5 0).bind fun x3 =>
    (av_sC h x2 x3 ((v4.toUInt32 % 65536).toInt32)).bind fun g4 =>
    (av_gI g4 v0 5 0).bind fun x5 =>
    (av_pI g4 v0 5 0 (x5 + (1 : Int32))).bind fun g6 =>
    bd X d 69 2 [(0, vr v0), (1, vl v1), (3, vi (v3 + (-8 : Int32)))] [] g6)
  else bd X d 69 2 [(0, vr v0), (1, vl v1), (3, vi (v3 + (-8 : Int32)))] [] h :=
  (av_bd_eq av_Sg p_69 _ _ _ _ _).trans rfl
theorem e_69 (d : Nat) (v0 : Option Nat) (v1 : Int64) (h : av_H) : ev X (d + 1) 69 [vr v0, vl v1] h = bd X d 69 0 [(0, vr v0), (1, vl v1)] [] h := av_ev_eq av_Sg p_69 d _ h rfl
/-! 70 = X5_readInto -/
set_option maxRecDepth 100000 in
theorem b_70_0 (d : Nat) (v0 : Option Nat) (v1 : Option Nat) (h : av_H) : bd X d 70 0 [(0, vr v0), (1, vr v1)] [] h =
  if av_is h v1 6 = true then (
  (av_cV (ev X d 95 [vr v1] h)).bind fun q1 =>
  if av_is q1 v0 5 = true then (
  (av_cV (ev X d 71 [vr v0] q1)).bind fun q2 =>
  (av_pI q2 v0 5 6 (0 : Int32)).bind fun g3 =>
  (av_gR g3 v0 5 2).bind fun x4 =>
  (av_lI X g3 x4 (0 : Int32)).bind fun x5 =>
  (av_pI g3 v0 5 7 x5).bind fun g6 =>
  (av_pI g6 v0 5 8 (0 : Int32)).bind fun g7 =>
  (av_pI g7 v0 5 9 (0 : Int32)).bind fun g8 =>
  bd X d 70 21 [(0, vr v0), (1, vr v1), (2, vi (0 : Int32))] [] g8) else none) else none :=
  (av_bd_eq av_Sg p_70 _ _ _ _ _).trans rfl
set_option maxRecDepth 100000 in
theorem b_70_21 (d : Nat) (v0 : Option Nat) (v1 : Option Nat) (v2 : Int32) (h : av_H) : bd X d 70 21 [(0, vr v0), (1, vr v1), (2, vi v2)] [] h =
  if (1000 : Int32) < v2 then
    ((av_pI h v0 5 0 (0 : Int32)).bind fun g1 =>
    (av_gI g1 v0 5 8).bind fun x2 =>
    av_rI x2 g1)
  else (av_gI h v0 5 8).bind fun x3 =>
  if x3 = 0 then
    ((av_gI h v0 5 7).bind fun x4 =>
    if x4 = (30001 : Int32) then
      ((av_pI h v0 5 0 (0 : Int32)).bind fun g5 =>
      (av_gI g5 v0 5 8).bind fun x6 =>
      av_rI x6 g5)
    else if av_is h v0 5 = true then (
    (av_cI (ev X d 84 [vr v0, vr v1] h)).bind fun q7 =>
    if q7.1 = 0 then
      (bd X d 70 21 [(0, vr v0), (1, vr v1), (2, vi (v2 + (1 : Int32)))] [] q7.2)
    else if av_is q7.2 v0 5 = true then (
    (av_cI (ev X d 81 [vr v0, vi (20059 : Int32)] q7.2)).bind fun q8 =>
    bd X d 70 21 [(0, vr v0), (1, vr v1), (2, vi (v2 + (1 : Int32)))] [] q8.2) else none) else none)
  else (av_pI h v0 5 0 (0 : Int32)).bind fun g9 =>
  (av_gI g9 v0 5 8).bind fun x10 =>
  av_rI x10 g9 :=
  (av_bd_eq av_Sg p_70 _ _ _ _ _).trans rfl
theorem e_70 (d : Nat) (v0 : Option Nat) (v1 : Option Nat) (h : av_H) : ev X (d + 1) 70 [vr v0, vr v1] h = bd X d 70 0 [(0, vr v0), (1, vr v1)] [] h := av_ev_eq av_Sg p_70 d _ h rfl
/-! 71 = X5_cutTokens -/
set_option maxRecDepth 100000 in
theorem b_71_0 (d : Nat) (v0 : Option Nat) (h : av_H) : bd X d 71 0 [(0, vr v0)] [] h =
  (av_pI h v0 5 5 (0 : Int32)).bind fun g1 =>
  (av_pI g1 v0 5 4 (0 : Int32)).bind fun g2 =>
  bd X d 71 8 [(0, vr v0), (1, vi (0 : Int32))] [] g2 :=
  (av_bd_eq av_Sg p_71 _ _ _ _ _).trans rfl
set_option maxRecDepth 100000 in
theorem b_71_8 (d : Nat) (v0 : Option Nat) (v1 : Int32) (h : av_H) : bd X d 71 8 [(0, vr v0), (1, vi v1)] [] h =
  if v1 < (1000 : Int32) then
    ((av_gI h v0 5 4).bind fun x1 =>
    (av_gI h v0 5 0).bind fun x2 =>
    if x1 < x2 then
      ((av_gR h v0 5 1).bind fun x3 =>
      (av_gI h v0 5 4).bind fun x4 =>
      (av_lB h x3 102 x4).bind fun x5 =>
      if x5 = (10 : Int32) then
        ((av_gI h v0 5 4).bind fun x6 =>
        (av_pI h v0 5 4 (x6 + (1 : Int32))).bind fun g7 =>
        bd X d 71 8 [(0, vr v0), (1, vi (v1 + (1 : Int32)))] [] g7)
      else (av_gR h v0 5 1).bind fun x8 =>
      (av_gI h v0 5 4).bind fun x9 =>
      (av_lB h x8 102 x9).bind fun x10 =>
      if x10 = (32 : Int32) then
        ((av_gI h v0 5 4).bind fun x11 =>
        (av_pI h v0 5 4 (x11 + (1 : Int32))).bind fun g12 =>
        bd X d 71 8 [(0, vr v0), (1, vi (v1 + (1 : Int32)))] [] g12)
      else (av_gI h v0 5 5).bind fun x13 =>
      if x13 < (1000 : Int32) then
        ((av_gR h v0 5 3).bind fun x14 =>
        (av_gI h v0 5 5).bind fun x15 =>
        (av_gI h v0 5 4).bind fun x16 =>
        (av_sI h x14 x15 x16).bind fun g17 =>
        (av_gR g17 v0 5 2).bind fun x18 =>
        (av_gI g17 v0 5 5).bind fun x19 =>
        if av_is g17 v0 5 = true then (
        (av_cI (ev X d 72 [vr v0] g17)).bind fun q20 =>
        (av_sI q20.2 x18 x19 q20.1).bind fun g21 =>
        (av_gI g21 v0 5 5).bind fun x22 =>
        (av_pI g21 v0 5 5 (x22 + (1 : Int32))).bind fun g23 =>
        bd X d 71 8 [(0, vr v0), (1, vi (v1 + (1 : Int32)))] [] g23) else none)
      else bd X d 71 8 [(0, vr v0), (1, vi (v1 + (1 : Int32)))] [] h)
    else bd X d 71 63 [(0, vr v0)] [] h)
  else bd X d 71 63 [(0, vr v0)] [] h :=
  (av_bd_eq av_Sg p_71 _ _ _ _ _).trans rfl
set_option maxRecDepth 100000 in
theorem b_71_63 (d : Nat) (v0 : Option Nat) (h : av_H) : bd X d 71 63 [(0, vr v0)] [] h =
  (av_gR h v0 5 3).bind fun x1 =>
  (av_gI h v0 5 5).bind fun x2 =>
  (av_gI h v0 5 0).bind fun x3 =>
  (av_sI h x1 x2 x3).bind fun g4 =>
  (av_gR g4 v0 5 2).bind fun x5 =>
  (av_gI g4 v0 5 5).bind fun x6 =>
  (av_sI g4 x5 x6 (30001 : Int32)).bind fun g7 =>
  av_rV g7 :=
  (av_bd_eq av_Sg p_71 _ _ _ _ _).trans rfl
theorem e_71 (d : Nat) (v0 : Option Nat) (h : av_H) : ev X (d + 1) 71 [vr v0] h = bd X d 71 0 [(0, vr v0)] [] h := av_ev_eq av_Sg p_71 d _ h rfl
/-! 72 = X5_cutToken -/
set_option maxRecDepth 100000 in
theorem b_72_0 (d : Nat) (v0 : Option Nat) (h : av_H) : bd X d 72 0 [(0, vr v0)] [] h =
  if av_is h v0 5 = true then (
  (av_cI (ev X d 73 [vr v0, vi (97 : Int32), vi (122 : Int32)] h)).bind fun q1 =>
  if q1.1 = 0 then
    (if av_is q1.2 v0 5 = true then (
    (av_cI (ev X d 73 [vr v0, vi (48 : Int32), vi (57 : Int32)] q1.2)).bind fun q2 =>
    if q2.1 = 0 then
      ((av_gI q2.2 v0 5 4).bind fun x3 =>
      if x3 < (1000 : Int32) then
        ((av_gR q2.2 v0 5 1).bind fun x4 =>
        (av_gI q2.2 v0 5 4).bind fun x5 =>
        (av_lB q2.2 x4 102 x5).bind fun x6 =>
        bd X d 72 27 [(0, vr v0)] [vi x6] q2.2)
      else bd X d 72 27 [(0, vr v0)] [vi (32 : Int32)] q2.2)
    else if av_is q2.2 v0 5 = true then (
    (av_cI (ev X d 76 [vr v0] q2.2)).bind fun q7 =>
    av_rI q7.1 q7.2) else none) else none)
  else if av_is q1.2 v0 5 = true then (
  (av_cI (ev X d 74 [vr v0] q1.2)).bind fun q8 =>
  av_rI q8.1 q8.2) else none) else none :=
  (av_bd_eq av_Sg p_72 _ _ _ _ _).trans rfl
set_option maxRecDepth 100000 in
theorem b_72_27 (d : Nat) (v0 : Option Nat) (s0 : Int32) (h : av_H) : bd X d 72 27 [(0, vr v0)] [vi s0] h =
  (av_gI h v0 5 4).bind fun x1 =>
  (av_pI h v0 5 4 (x1 + (1 : Int32))).bind fun g2 =>
  (av_cI (ev X d 9003 [vr (some 1000012), vi s0] g2)).bind fun q3 =>
  if q3.1 < 0 then
    (av_rI (30000 : Int32) q3.2)
  else av_rI ((20000 : Int32) + s0) q3.2 :=
  (av_bd_eq av_Sg p_72 _ _ _ _ _).trans rfl
theorem e_72 (d : Nat) (v0 : Option Nat) (h : av_H) : ev X (d + 1) 72 [vr v0] h = bd X d 72 0 [(0, vr v0)] [] h := av_ev_eq av_Sg p_72 d _ h rfl
/-! 73 = X5_isNextWithin -/
set_option maxRecDepth 100000 in
theorem b_73_0 (d : Nat) (v0 : Option Nat) (v1 : Int32) (v2 : Int32) (h : av_H) : bd X d 73 0 [(0, vr v0), (1, vi v1), (2, vi v2)] [] h =
  (av_gI h v0 5 4).bind fun x1 =>
  (av_gI h v0 5 0).bind fun x2 =>
  if x1 < x2 then
    ((av_gI h v0 5 4).bind fun x3 =>
    if x3 < (1000 : Int32) then
      ((av_gR h v0 5 1).bind fun x4 =>
      (av_gI h v0 5 4).bind fun x5 =>
      (av_lB h x4 102 x5).bind fun x6 =>
      if x6 < v1 then
        ((av_bz (0 : Int32)).bind fun w => av_rI w h)
      else (av_gR h v0 5 1).bind fun x7 =>
      (av_gI h v0 5 4).bind fun x8 =>
      (av_lB h x7 102 x8).bind fun x9 =>
      if v2 < x9 then
        ((av_bz (0 : Int32)).bind fun w => av_rI w h)
      else (av_bz (1 : Int32)).bind fun w => av_rI w h)
    else (av_bz (0 : Int32)).bind fun w => av_rI w h)
  else (av_bz (0 : Int32)).bind fun w => av_rI w h :=
  (av_bd_eq av_Sg p_73 _ _ _ _ _).trans rfl
theorem e_73 (d : Nat) (v0 : Option Nat) (v1 : Int32) (v2 : Int32) (h : av_H) : ev X (d + 1) 73 [vr v0, vi v1, vi v2] h = bd X d 73 0 [(0, vr v0), (1, vi v1), (2, vi v2)] [] h := av_ev_eq av_Sg p_73 d _ h rfl
/-! 74 = X5_cutWord -/
set_option maxRecDepth 100000 in
theorem b_74_0 (d : Nat) (v0 : Option Nat) (h : av_H) : bd X d 74 0 [(0, vr v0)] [] h =
  (av_gI h v0 5 4).bind fun x1 =>
  bd X d 74 5 [(0, vr v0), (1, vi x1), (2, vi (0 : Int32))] [] h :=
  (av_bd_eq av_Sg p_74 _ _ _ _ _).trans rfl
set_option maxRecDepth 100000 in
theorem b_74_5 (d : Nat) (v0 : Option Nat) (v1 : Int32) (v2 : Int32) (h : av_H) : bd X d 74 5 [(0, vr v0), (1, vi v1), (2, vi v2)] [] h =
  if v2 < (1000 : Int32) then
    (if av_is h v0 5 = true then (
    (av_cI (ev X d 73 [vr v0, vi (97 : Int32), vi (122 : Int32)] h)).bind fun q1 =>
    if q1.1 = 0 then
      (bd X d 74 21 [(0, vr v0), (1, vi v1)] [] q1.2)
    else (av_gI q1.2 v0 5 4).bind fun x2 =>
    (av_pI q1.2 v0 5 4 (x2 + (1 : Int32))).bind fun g3 =>
    bd X d 74 5 [(0, vr v0), (1, vi v1), (2, vi (v2 + (1 : Int32)))] [] g3) else none)
  else bd X d 74 21 [(0, vr v0), (1, vi v1)] [] h :=
  (av_bd_eq av_Sg p_74 _ _ _ _ _).trans rfl
set_option maxRecDepth 100000 in
theorem b_74_21 (d : Nat) (v0 : Option Nat) (v1 : Int32) (h : av_H) : bd X d 74 21 [(0, vr v0), (1, vi v1)] [] h =
  (av_gI h v0 5 4).bind fun x1 =>
  if (8 : Int32) < (x1 - v1) then
    (av_rI (30000 : Int32) h)
  else if av_is h v0 5 = true then (
  (av_cI (ev X d 75 [vr v0, vr (some 1000010), vi v1] h)).bind fun q2 =>
  if q2.1 = (-1 : Int32) then
    (if av_is q2.2 v0 5 = true then (
    (av_cI (ev X d 75 [vr v0, vr (some 1000011), vi v1] q2.2)).bind fun q3 =>
    if q3.1 = (-1 : Int32) then
      (av_rI (30000 : Int32) q3.2)
    else av_rI ((10012 : Int32) + q3.1) q3.2) else none)
  else av_rI ((10000 : Int32) + q2.1) q2.2) else none :=
  (av_bd_eq av_Sg p_74 _ _ _ _ _).trans rfl
theorem e_74 (d : Nat) (v0 : Option Nat) (h : av_H) : ev X (d + 1) 74 [vr v0] h = bd X d 74 0 [(0, vr v0)] [] h := av_ev_eq av_Sg p_74 d _ h rfl
/-! 75 = X5_wordIn -/
set_option maxRecDepth 100000 in
theorem b_75_0 (d : Nat) (v0 : Option Nat) (v1 : Option Nat) (v2 : Int32) (h : av_H) : bd X d 75 0 [(0, vr v0), (1, vr v1), (2, vi v2)] [] h =
  bd X d 75 2 [(0, vr v0), (1, vr v1), (2, vi v2), (3, vi (0 : Int32))] [] h :=
  (av_bd_eq av_Sg p_75 _ _ _ _ _).trans rfl
set_option maxRecDepth 100000 in
theorem b_75_2 (d : Nat) (v0 : Option Nat) (v1 : Option Nat) (v2 : Int32) (v3 : Int32) (h : av_H) : bd X d 75 2 [(0, vr v0), (1, vr v1), (2, vi v2), (3, vi v3)] [] h =
  (av_cI (ev X d 9001 [vr v1] h)).bind fun q1 =>
  if q1.1 < (v3 + (8 : Int32)) then
    (av_rI (-1 : Int32) q1.2)
  else bd X d 75 12 [(0, vr v0), (1, vr v1), (2, vi v2), (3, vi v3), (4, vi (0 : Int32)), (5, vi (0 : Int32))] [] q1.2 :=
  (av_bd_eq av_Sg p_75 _ _ _ _ _).trans rfl
set_option maxRecDepth 100000 in
theorem b_75_12 (d : Nat) (v0 : Option Nat) (v1 : Option Nat) (v2 : Int32) (v3 : Int32) (v4 : Int32) (v5 : Int32) (h : av_H) : bd X d 75 12 [(0, vr v0), (1, vr v1), (2, vi v2), (3, vi v3), (4, vi v4), (5, vi v5)] [] h =
  if v5 < (8 : Int32) then
    ((av_gI h v0 5 4).bind fun x1 =>
    if (v2 + v5) < x1 then
      (if (v2 + v5) < (1000 : Int32) then
        ((av_gR h v0 5 1).bind fun x2 =>
        (av_lB h x2 102 (v2 + v5)).bind fun x3 =>
        bd X d 75 34 [(0, vr v0), (1, vr v1), (2, vi v2), (3, vi v3), (4, vi v4), (5, vi v5)] [vi x3] h)
      else bd X d 75 33 [(0, vr v0), (1, vr v1), (2, vi v2), (3, vi v3), (4, vi v4), (5, vi v5)] [] h)
    else bd X d 75 33 [(0, vr v0), (1, vr v1), (2, vi v2), (3, vi v3), (4, vi v4), (5, vi v5)] [] h)
  else if v4 = (8 : Int32) then
    (if (8 : Int32) = 0 then none else av_rI (v3 / (8 : Int32)) h)
  else bd X d 75 2 [(0, vr v0), (1, vr v1), (2, vi v2), (3, vi (v3 + (8 : Int32)))] [] h :=
  (av_bd_eq av_Sg p_75 _ _ _ _ _).trans rfl
set_option maxRecDepth 100000 in
theorem b_75_33 (d : Nat) (v0 : Option Nat) (v1 : Option Nat) (v2 : Int32) (v3 : Int32) (v4 : Int32) (v5 : Int32) (h : av_H) : bd X d 75 33 [(0, vr v0), (1, vr v1), (2, vi v2), (3, vi v3), (4, vi v4), (5, vi v5)] [] h =
  bd X d 75 34 [(0, vr v0), (1, vr v1), (2, vi v2), (3, vi v3), (4, vi v4), (5, vi v5)] [vi (32 : Int32)] h :=
  (av_bd_eq av_Sg p_75 _ _ _ _ _).trans rfl
set_option maxRecDepth 100000 in
theorem b_75_34 (d : Nat) (v0 : Option Nat) (v1 : Option Nat) (v2 : Int32) (v3 : Int32) (v4 : Int32) (v5 : Int32) (s0 : Int32) (h : av_H) : bd X d 75 34 [(0, vr v0), (1, vr v1), (2, vi v2), (3, vi v3), (4, vi v4), (5, vi v5)] [vi s0] h =
  (av_cI (ev X d 9002 [vr v1, vi (v3 + v5)] h)).bind fun q1 =>
  if s0 = q1.1 then
    (bd X d 75 12 [(0, vr v0), (1, vr v1), (2, vi v2), (3, vi v3), (4, vi (v4 + (1 : Int32))), (5, vi (v5 + (1 : Int32)))] [] q1.2)
  else bd X d 75 12 [(0, vr v0), (1, vr v1), (2, vi v2), (3, vi v3), (4, vi (v4 + (0 : Int32))), (5, vi (v5 + (1 : Int32)))] [] q1.2 :=
  (av_bd_eq av_Sg p_75 _ _ _ _ _).trans rfl
theorem e_75 (d : Nat) (v0 : Option Nat) (v1 : Option Nat) (v2 : Int32) (h : av_H) : ev X (d + 1) 75 [vr v0, vr v1, vi v2] h = bd X d 75 0 [(0, vr v0), (1, vr v1), (2, vi v2)] [] h := av_ev_eq av_Sg p_75 d _ h rfl
/-! 76 = X5_cutNumber -/
set_option maxRecDepth 100000 in
theorem b_76_0 (d : Nat) (v0 : Option Nat) (h : av_H) : bd X d 76 0 [(0, vr v0)] [] h =
  (av_gI h v0 5 4).bind fun x1 =>
  bd X d 76 7 [(0, vr v0), (1, vi x1), (2, vi (0 : Int32)), (3, vi (0 : Int32))] [] h :=
  (av_bd_eq av_Sg p_76 _ _ _ _ _).trans rfl
set_option maxRecDepth 100000 in
theorem b_76_7 (d : Nat) (v0 : Option Nat) (v1 : Int32) (v2 : Int32) (v3 : Int32) (h : av_H) : bd X d 76 7 [(0, vr v0), (1, vi v1), (2, vi v2), (3, vi v3)] [] h =
  if v3 < (1000 : Int32) then
    (if av_is h v0 5 = true then (
    (av_cI (ev X d 73 [vr v0, vi (48 : Int32), vi (57 : Int32)] h)).bind fun q1 =>
    if q1.1 = 0 then
      (bd X d 76 35 [(0, vr v0), (1, vi v1), (2, vi v2)] [] q1.2)
    else (av_gR q1.2 v0 5 1).bind fun x2 =>
    (av_gI q1.2 v0 5 4).bind fun x3 =>
    (av_lB q1.2 x2 102 x3).bind fun x4 =>
    (av_gI q1.2 v0 5 4).bind fun x5 =>
    (av_pI q1.2 v0 5 4 (x5 + (1 : Int32))).bind fun g6 =>
    bd X d 76 7 [(0, vr v0), (1, vi v1), (2, vi (((v2 * (10 : Int32)) + x4) - (48 : Int32))), (3, vi (v3 + (1 : Int32)))] [] g6) else none)
  else bd X d 76 35 [(0, vr v0), (1, vi v1), (2, vi v2)] [] h :=
  (av_bd_eq av_Sg p_76 _ _ _ _ _).trans rfl
set_option maxRecDepth 100000 in
theorem b_76_35 (d : Nat) (v0 : Option Nat) (v1 : Int32) (v2 : Int32) (h : av_H) : bd X d 76 35 [(0, vr v0), (1, vi v1), (2, vi v2)] [] h =
  (av_gI h v0 5 4).bind fun x1 =>
  if (4 : Int32) < (x1 - v1) then
    (av_rI (30000 : Int32) h)
  else av_rI v2 h :=
  (av_bd_eq av_Sg p_76 _ _ _ _ _).trans rfl
theorem e_76 (d : Nat) (v0 : Option Nat) (h : av_H) : ev X (d + 1) 76 [vr v0] h = bd X d 76 0 [(0, vr v0)] [] h := av_ev_eq av_Sg p_76 d _ h rfl
/-! 77 = X5_takeToken -/
set_option maxRecDepth 100000 in
theorem b_77_0 (d : Nat) (v0 : Option Nat) (h : av_H) : bd X d 77 0 [(0, vr v0)] [] h =
  (av_gI h v0 5 6).bind fun x1 =>
  (av_gI h v0 5 5).bind fun x2 =>
  if x1 < x2 then
    ((av_gI h v0 5 6).bind fun x3 =>
    (av_pI h v0 5 6 (x3 + (1 : Int32))).bind fun g4 =>
    (av_gR g4 v0 5 2).bind fun x5 =>
    (av_gI g4 v0 5 6).bind fun x6 =>
    (av_lI X g4 x5 x6).bind fun x7 =>
    (av_pI g4 v0 5 7 x7).bind fun g8 =>
    av_rV g8)
  else av_rV h :=
  (av_bd_eq av_Sg p_77 _ _ _ _ _).trans rfl
theorem e_77 (d : Nat) (v0 : Option Nat) (h : av_H) : ev X (d + 1) 77 [vr v0] h = bd X d 77 0 [(0, vr v0)] [] h := av_ev_eq av_Sg p_77 d _ h rfl
/-! 78 = X5_isAtNumber -/
set_option maxRecDepth 100000 in
theorem b_78_0 (d : Nat) (v0 : Option Nat) (h : av_H) : bd X d 78 0 [(0, vr v0)] [] h =
  (av_gI h v0 5 7).bind fun x1 =>
  if x1 < (10000 : Int32) then
    ((av_bz (1 : Int32)).bind fun w => av_rI w h)
  else (av_bz (0 : Int32)).bind fun w => av_rI w h :=
  (av_bd_eq av_Sg p_78 _ _ _ _ _).trans rfl
theorem e_78 (d : Nat) (v0 : Option Nat) (h : av_H) : ev X (d + 1) 78 [vr v0] h = bd X d 78 0 [(0, vr v0)] [] h := av_ev_eq av_Sg p_78 d _ h rfl
/-! 79 = X5_isAtFact -/
set_option maxRecDepth 100000 in
theorem b_79_0 (d : Nat) (v0 : Option Nat) (h : av_H) : bd X d 79 0 [(0, vr v0)] [] h =
  (av_gI h v0 5 7).bind fun x1 =>
  if x1 < (10012 : Int32) then
    ((av_bz (0 : Int32)).bind fun w => av_rI w h)
  else (av_gI h v0 5 7).bind fun x2 =>
  if x2 < (20000 : Int32) then
    ((av_bz (1 : Int32)).bind fun w => av_rI w h)
  else (av_bz (0 : Int32)).bind fun w => av_rI w h :=
  (av_bd_eq av_Sg p_79 _ _ _ _ _).trans rfl
theorem e_79 (d : Nat) (v0 : Option Nat) (h : av_H) : ev X (d + 1) 79 [vr v0] h = bd X d 79 0 [(0, vr v0)] [] h := av_ev_eq av_Sg p_79 d _ h rfl
/-! 80 = X5_refuse -/
set_option maxRecDepth 100000 in
theorem b_80_0 (d : Nat) (v0 : Option Nat) (v1 : Int32) (h : av_H) : bd X d 80 0 [(0, vr v0), (1, vi v1)] [] h =
  (av_gR h v0 5 3).bind fun x1 =>
  (av_gI h v0 5 6).bind fun x2 =>
  (av_lI X h x1 x2).bind fun x3 =>
  (av_pI h v0 5 8 (v1 + ((16 : Int32) * x3))).bind fun g4 =>
  (av_bz (0 : Int32)).bind fun w => av_rI w g4 :=
  (av_bd_eq av_Sg p_80 _ _ _ _ _).trans rfl
theorem e_80 (d : Nat) (v0 : Option Nat) (v1 : Int32) (h : av_H) : ev X (d + 1) 80 [vr v0, vi v1] h = bd X d 80 0 [(0, vr v0), (1, vi v1)] [] h := av_ev_eq av_Sg p_80 d _ h rfl
/-! 81 = X5_pass -/
set_option maxRecDepth 100000 in
theorem b_81_0 (d : Nat) (v0 : Option Nat) (v1 : Int32) (h : av_H) : bd X d 81 0 [(0, vr v0), (1, vi v1)] [] h =
  (av_gI h v0 5 7).bind fun x1 =>
  if x1 = v1 then
    (if av_is h v0 5 = true then (
    (av_cV (ev X d 77 [vr v0] h)).bind fun q2 =>
    (av_bz (1 : Int32)).bind fun w => av_rI w q2) else none)
  else if av_is h v0 5 = true then (
  (av_cI (ev X d 80 [vr v0, vi (1 : Int32)] h)).bind fun q3 =>
  (av_bz q3.1).bind fun w => av_rI w q3.2) else none :=
  (av_bd_eq av_Sg p_81 _ _ _ _ _).trans rfl
theorem e_81 (d : Nat) (v0 : Option Nat) (v1 : Int32) (h : av_H) : ev X (d + 1) 81 [vr v0, vi v1] h = bd X d 81 0 [(0, vr v0), (1, vi v1)] [] h := av_ev_eq av_Sg p_81 d _ h rfl
/-! 82 = X5_passOnce -/
set_option maxRecDepth 100000 in
theorem b_82_0 (d : Nat) (v0 : Option Nat) (h : av_H) : bd X d 82 0 [(0, vr v0)] [] h =
  (av_gI h v0 5 7).bind fun x1 =>
  (av_gI h v0 5 9).bind fun x2 =>
  if (x2 &&& ((1 : Int32) <<< ((x1 - (10000 : Int32)) &&& 31))) = 0 then
    ((av_gI h v0 5 9).bind fun x3 =>
    (av_pI h v0 5 9 (x3 ||| ((1 : Int32) <<< ((x1 - (10000 : Int32)) &&& 31)))).bind fun g4 =>
    if av_is g4 v0 5 = true then (
    (av_cV (ev X d 77 [vr v0] g4)).bind fun q5 =>
    (av_bz (1 : Int32)).bind fun w => av_rI w q5) else none)
  else if av_is h v0 5 = true then (
  (av_cI (ev X d 80 [vr v0, vi (3 : Int32)] h)).bind fun q6 =>
  (av_bz q6.1).bind fun w => av_rI w q6.2) else none :=
  (av_bd_eq av_Sg p_82 _ _ _ _ _).trans rfl
theorem e_82 (d : Nat) (v0 : Option Nat) (h : av_H) : ev X (d + 1) 82 [vr v0] h = bd X d 82 0 [(0, vr v0)] [] h := av_ev_eq av_Sg p_82 d _ h rfl
/-! 83 = X5_passNumber -/
set_option maxRecDepth 100000 in
theorem b_83_0 (d : Nat) (v0 : Option Nat) (v1 : Int32) (h : av_H) : bd X d 83 0 [(0, vr v0), (1, vi v1)] [] h =
  if av_is h v0 5 = true then (
  (av_cI (ev X d 78 [vr v0] h)).bind fun q1 =>
  if q1.1 = 0 then
    (if av_is q1.2 v0 5 = true then (
    (av_cI (ev X d 80 [vr v0, vi (1 : Int32)] q1.2)).bind fun q2 =>
    (av_bz q2.1).bind fun w => av_rI w q2.2) else none)
  else (av_gI q1.2 v0 5 7).bind fun x3 =>
  (av_cI (ev X d 183 [vi x3, vi (1 : Int32), vi v1] q1.2)).bind fun q4 =>
  if q4.1 = 0 then
    (if av_is q4.2 v0 5 = true then (
    (av_cI (ev X d 80 [vr v0, vi (4 : Int32)] q4.2)).bind fun q5 =>
    (av_bz q5.1).bind fun w => av_rI w q5.2) else none)
  else if av_is q4.2 v0 5 = true then (
  (av_cV (ev X d 77 [vr v0] q4.2)).bind fun q6 =>
  (av_bz (1 : Int32)).bind fun w => av_rI w q6) else none) else none :=
  (av_bd_eq av_Sg p_83 _ _ _ _ _).trans rfl
theorem e_83 (d : Nat) (v0 : Option Nat) (v1 : Int32) (h : av_H) : ev X (d + 1) 83 [vr v0, vi v1] h = bd X d 83 0 [(0, vr v0), (1, vi v1)] [] h := av_ev_eq av_Sg p_83 d _ h rfl
/-! 84 = X5_readLine -/
set_option maxRecDepth 100000 in
theorem b_84_0 (d : Nat) (v0 : Option Nat) (v1 : Option Nat) (h : av_H) : bd X d 84 0 [(0, vr v0), (1, vr v1)] [] h =
  (av_gI h v0 5 7).bind fun x1 =>
  if x1 = 10000 then
    (if av_is h v0 5 = true then (
    (av_cI (ev X d 85 [vr v0, vr v1] h)).bind fun q2 =>
    (av_bz q2.1).bind fun w => av_rI w q2.2) else none)
  else if x1 = 10001 then
    (if av_is h v0 5 = true then (
    (av_cI (ev X d 86 [vr v0, vr v1] h)).bind fun q3 =>
    (av_bz q3.1).bind fun w => av_rI w q3.2) else none)
  else if x1 = 10002 then
    (if av_is h v0 5 = true then (
    (av_cI (ev X d 82 [vr v0] h)).bind fun q4 =>
    if q4.1 = 0 then
      ((av_bz (0 : Int32)).bind fun w => av_rI w q4.2)
    else if av_is q4.2 v0 5 = true then (
    (av_cI (ev X d 90 [vr v0, vr v1, vi (12 : Int32)] q4.2)).bind fun q5 =>
    if q5.1 = 0 then
      ((av_bz (0 : Int32)).bind fun w => av_rI w q5.2)
    else (av_bz (1 : Int32)).bind fun w => av_rI w q5.2) else none) else none)
  else if x1 = 10003 then
    (if av_is h v0 5 = true then (
    (av_cI (ev X d 82 [vr v0] h)).bind fun q6 =>
    if q6.1 = 0 then
      ((av_bz (0 : Int32)).bind fun w => av_rI w q6.2)
    else if av_is q6.2 v0 5 = true then (
    (av_cI (ev X d 90 [vr v0, vr v1, vi (13 : Int32)] q6.2)).bind fun q7 =>
    if q7.1 = 0 then
      ((av_bz (0 : Int32)).bind fun w => av_rI w q7.2)
    else (av_bz (1 : Int32)).bind fun w => av_rI w q7.2) else none) else none)
  else if x1 = 10004 then
    (if av_is h v0 5 = true then (
    (av_cI (ev X d 82 [vr v0] h)).bind fun q8 =>
    if q8.1 = 0 then
      ((av_bz (0 : Int32)).bind fun w => av_rI w q8.2)
    else if av_is q8.2 v0 5 = true then (
    (av_cI (ev X d 90 [vr v0, vr v1, vi (14 : Int32)] q8.2)).bind fun q9 =>
    if q9.1 = 0 then
      ((av_bz (0 : Int32)).bind fun w => av_rI w q9.2)
    else (av_bz (1 : Int32)).bind fun w => av_rI w q9.2) else none) else none)
  else if x1 = 10005 then
    (if av_is h v0 5 = true then (
    (av_cI (ev X d 82 [vr v0] h)).bind fun q10 =>
    if q10.1 = 0 then
      ((av_bz (0 : Int32)).bind fun w => av_rI w q10.2)
    else if av_is q10.2 v0 5 = true then (
    (av_cI (ev X d 87 [vr v0, vr v1] q10.2)).bind fun q11 =>
    if q11.1 = 0 then
      ((av_bz (0 : Int32)).bind fun w => av_rI w q11.2)
    else (av_bz (1 : Int32)).bind fun w => av_rI w q11.2) else none) else none)
  else if x1 = 10006 then
    (if av_is h v0 5 = true then (
    (av_cI (ev X d 82 [vr v0] h)).bind fun q12 =>
    if q12.1 = 0 then
      ((av_bz (0 : Int32)).bind fun w => av_rI w q12.2)
    else if av_is q12.2 v0 5 = true then (
    (av_cI (ev X d 88 [vr v0, vr v1] q12.2)).bind fun q13 =>
    if q13.1 = 0 then
      ((av_bz (0 : Int32)).bind fun w => av_rI w q13.2)
    else (av_bz (1 : Int32)).bind fun w => av_rI w q13.2) else none) else none)
  else if x1 = 10007 then
    (if av_is h v0 5 = true then (
    (av_cI (ev X d 89 [vr v0, vr v1] h)).bind fun q14 =>
    (av_bz q14.1).bind fun w => av_rI w q14.2) else none)
  else if av_is h v0 5 = true then (
  (av_cI (ev X d 80 [vr v0, vi (1 : Int32)] h)).bind fun q15 =>
  (av_bz q15.1).bind fun w => av_rI w q15.2) else none :=
  (av_bd_eq av_Sg p_84 _ _ _ _ _).trans rfl
theorem e_84 (d : Nat) (v0 : Option Nat) (v1 : Option Nat) (h : av_H) : ev X (d + 1) 84 [vr v0, vr v1] h = bd X d 84 0 [(0, vr v0), (1, vr v1)] [] h := av_ev_eq av_Sg p_84 d _ h rfl
/-! 85 = X5_readStop -/
set_option maxRecDepth 100000 in
theorem b_85_0 (d : Nat) (v0 : Option Nat) (v1 : Option Nat) (h : av_H) : bd X d 85 0 [(0, vr v0), (1, vr v1)] [] h =
  (av_gI h v1 6 0).bind fun x1 =>
  if x1 < (6 : Int32) then
    (if av_is h v0 5 = true then (
    (av_cV (ev X d 77 [vr v0] h)).bind fun q2 =>
    (av_gI q2 v1 6 0).bind fun x3 =>
    (av_pI q2 v1 6 0 (x3 + (1 : Int32))).bind fun g4 =>
    if av_is g4 v0 5 = true then (
    (av_cI (ev X d 81 [vr v0, vi (10008 : Int32)] g4)).bind fun q5 =>
    if q5.1 = 0 then
      ((av_bz (0 : Int32)).bind fun w => av_rI w q5.2)
    else (av_gI q5.2 v1 6 0).bind fun x6 =>
    if av_is q5.2 v0 5 = true then (
    (av_cI (ev X d 90 [vr v0, vr v1, vi (x6 - (1 : Int32))] q5.2)).bind fun q7 =>
    if q7.1 = 0 then
      ((av_bz (0 : Int32)).bind fun w => av_rI w q7.2)
    else (av_bz (1 : Int32)).bind fun w => av_rI w q7.2) else none) else none) else none)
  else if av_is h v0 5 = true then (
  (av_cI (ev X d 80 [vr v0, vi (5 : Int32)] h)).bind fun q8 =>
  (av_bz q8.1).bind fun w => av_rI w q8.2) else none :=
  (av_bd_eq av_Sg p_85 _ _ _ _ _).trans rfl
theorem e_85 (d : Nat) (v0 : Option Nat) (v1 : Option Nat) (h : av_H) : ev X (d + 1) 85 [vr v0, vr v1] h = bd X d 85 0 [(0, vr v0), (1, vr v1)] [] h := av_ev_eq av_Sg p_85 d _ h rfl
/-! 86 = X5_readQuiet -/
set_option maxRecDepth 100000 in
theorem b_86_0 (d : Nat) (v0 : Option Nat) (v1 : Option Nat) (h : av_H) : bd X d 86 0 [(0, vr v0), (1, vr v1)] [] h =
  (av_gI h v1 6 1).bind fun x1 =>
  if x1 < (6 : Int32) then
    (if av_is h v0 5 = true then (
    (av_cV (ev X d 77 [vr v0] h)).bind fun q2 =>
    (av_gI q2 v1 6 1).bind fun x3 =>
    (av_pI q2 v1 6 1 (x3 + (1 : Int32))).bind fun g4 =>
    if av_is g4 v0 5 = true then (
    (av_cI (ev X d 81 [vr v0, vi (10008 : Int32)] g4)).bind fun q5 =>
    if q5.1 = 0 then
      ((av_bz (0 : Int32)).bind fun w => av_rI w q5.2)
    else (av_gI q5.2 v1 6 1).bind fun x6 =>
    if av_is q5.2 v0 5 = true then (
    (av_cI (ev X d 90 [vr v0, vr v1, vi (((6 : Int32) + x6) - (1 : Int32))] q5.2)).bind fun q7 =>
    if q7.1 = 0 then
      ((av_bz (0 : Int32)).bind fun w => av_rI w q7.2)
    else (av_bz (1 : Int32)).bind fun w => av_rI w q7.2) else none) else none) else none)
  else if av_is h v0 5 = true then (
  (av_cI (ev X d 80 [vr v0, vi (5 : Int32)] h)).bind fun q8 =>
  (av_bz q8.1).bind fun w => av_rI w q8.2) else none :=
  (av_bd_eq av_Sg p_86 _ _ _ _ _).trans rfl
theorem e_86 (d : Nat) (v0 : Option Nat) (v1 : Option Nat) (h : av_H) : ev X (d + 1) 86 [vr v0, vr v1] h = bd X d 86 0 [(0, vr v0), (1, vr v1)] [] h := av_ev_eq av_Sg p_86 d _ h rfl
/-! 87 = X5_readRate -/
set_option maxRecDepth 100000 in
theorem b_87_0 (d : Nat) (v0 : Option Nat) (v1 : Option Nat) (h : av_H) : bd X d 87 0 [(0, vr v0), (1, vr v1)] [] h =
  (av_gI h v0 5 7).bind fun x1 =>
  if av_is h v0 5 = true then (
  (av_cI (ev X d 83 [vr v0, vi (12 : Int32)] h)).bind fun q2 =>
  if q2.1 = 0 then
    ((av_bz (0 : Int32)).bind fun w => av_rI w q2.2)
  else (av_pI q2.2 v1 6 2 x1).bind fun g3 =>
  (av_bz (1 : Int32)).bind fun w => av_rI w g3) else none :=
  (av_bd_eq av_Sg p_87 _ _ _ _ _).trans rfl
theorem e_87 (d : Nat) (v0 : Option Nat) (v1 : Option Nat) (h : av_H) : ev X (d + 1) 87 [vr v0, vr v1] h = bd X d 87 0 [(0, vr v0), (1, vr v1)] [] h := av_ev_eq av_Sg p_87 d _ h rfl
/-! 88 = X5_readDrill -/
set_option maxRecDepth 100000 in
theorem b_88_0 (d : Nat) (v0 : Option Nat) (v1 : Option Nat) (h : av_H) : bd X d 88 0 [(0, vr v0), (1, vr v1)] [] h =
  (av_gI h v0 5 7).bind fun x1 =>
  if av_is h v0 5 = true then (
  (av_cI (ev X d 83 [vr v0, vi (99 : Int32)] h)).bind fun q2 =>
  if q2.1 = 0 then
    ((av_bz (0 : Int32)).bind fun w => av_rI w q2.2)
  else (av_pI q2.2 v1 6 3 x1).bind fun g3 =>
  (av_bz (1 : Int32)).bind fun w => av_rI w g3) else none :=
  (av_bd_eq av_Sg p_88 _ _ _ _ _).trans rfl
theorem e_88 (d : Nat) (v0 : Option Nat) (v1 : Option Nat) (h : av_H) : ev X (d + 1) 88 [vr v0, vr v1] h = bd X d 88 0 [(0, vr v0), (1, vr v1)] [] h := av_ev_eq av_Sg p_88 d _ h rfl
/-! 89 = X5_readKeys -/
set_option maxRecDepth 100000 in
theorem b_89_0 (d : Nat) (v0 : Option Nat) (v1 : Option Nat) (h : av_H) : bd X d 89 0 [(0, vr v0), (1, vr v1)] [] h =
  (av_pZ h v1 6 4 (1 : Int32)).bind fun g1 =>
  if av_is g1 v0 5 = true then (
  (av_cI (ev X d 82 [vr v0] g1)).bind fun q2 =>
  (av_bz q2.1).bind fun w => av_rI w q2.2) else none :=
  (av_bd_eq av_Sg p_89 _ _ _ _ _).trans rfl
theorem e_89 (d : Nat) (v0 : Option Nat) (v1 : Option Nat) (h : av_H) : ev X (d + 1) 89 [vr v0, vr v1] h = bd X d 89 0 [(0, vr v0), (1, vr v1)] [] h := av_ev_eq av_Sg p_89 d _ h rfl
/-! 90 = X5_readE -/
set_option maxRecDepth 100000 in
theorem b_90_0 (d : Nat) (v0 : Option Nat) (v1 : Option Nat) (v2 : Int32) (h : av_H) : bd X d 90 0 [(0, vr v0), (1, vr v1), (2, vi v2)] [] h =
  if av_is h v1 6 = true then (
  (av_cV (ev X d 96 [vr v1, vi v2] h)).bind fun q1 =>
  if av_is q1 v0 5 = true then (
  (av_cI (ev X d 91 [vr v0, vr v1, vi (0 : Int32), vi (0 : Int32)] q1)).bind fun q2 =>
  if av_is q2.2 v1 6 = true then (
  (av_cV (ev X d 97 [vr v1, vi v2] q2.2)).bind fun q3 =>
  (av_bz q2.1).bind fun w => av_rI w q3) else none) else none) else none :=
  (av_bd_eq av_Sg p_90 _ _ _ _ _).trans rfl
theorem e_90 (d : Nat) (v0 : Option Nat) (v1 : Option Nat) (v2 : Int32) (h : av_H) : ev X (d + 1) 90 [vr v0, vr v1, vi v2] h = bd X d 90 0 [(0, vr v0), (1, vr v1), (2, vi v2)] [] h := av_ev_eq av_Sg p_90 d _ h rfl
/-! 91 = X5_readLevel -/
set_option maxRecDepth 100000 in
theorem b_91_0 (d : Nat) (v0 : Option Nat) (v1 : Option Nat) (v2 : Int32) (v3 : Int32) (h : av_H) : bd X d 91 0 [(0, vr v0), (1, vr v1), (2, vi v2), (3, vi v3)] [] h =
  if (3 : Int32) < v2 then
    (if av_is h v0 5 = true then (
    (av_cI (ev X d 93 [vr v0, vr v1, vi v3] h)).bind fun q1 =>
    (av_bz q1.1).bind fun w => av_rI w q1.2) else none)
  else if av_is h v0 5 = true then (
  (av_cI (ev X d 91 [vr v0, vr v1, vi (v2 + (1 : Int32)), vi v3] h)).bind fun q2 =>
  if v2 = (1 : Int32) then
    (bd X d 91 25 [(0, vr v0), (1, vr v1), (2, vi v2), (3, vi v3), (4, vi (q2.1)), (5, vi (1 : Int32)), (6, vi (0 : Int32))] [] q2.2)
  else bd X d 91 25 [(0, vr v0), (1, vr v1), (2, vi v2), (3, vi v3), (4, vi (q2.1)), (5, vi (1000 : Int32)), (6, vi (0 : Int32))] [] q2.2) else none :=
  (av_bd_eq av_Sg p_91 _ _ _ _ _).trans rfl
set_option maxRecDepth 100000 in
theorem b_91_25 (d : Nat) (v0 : Option Nat) (v1 : Option Nat) (v2 : Int32) (v3 : Int32) (v4 : Int32) (v5 : Int32) (v6 : Int32) (h : av_H) : bd X d 91 25 [(0, vr v0), (1, vr v1), (2, vi v2), (3, vi v3), (4, vi v4), (5, vi v5), (6, vi v6)] [] h =
  if v6 < v5 then
    (if v4 = 0 then
      ((av_bz v4).bind fun w => av_rI w h)
    else if av_is h v0 5 = true then (
    (av_cI (ev X d 92 [vr v0, vi v2] h)).bind fun q1 =>
    if q1.1 = 0 then
      ((av_bz v4).bind fun w => av_rI w q1.2)
    else (av_gI q1.2 v0 5 7).bind fun x2 =>
    if av_is q1.2 v0 5 = true then (
    (av_cV (ev X d 77 [vr v0] q1.2)).bind fun q3 =>
    if av_is q3 v0 5 = true then (
    (av_cI (ev X d 91 [vr v0, vr v1, vi (v2 + (1 : Int32)), vi v3] q3)).bind fun q4 =>
    if av_is q4.2 v1 6 = true then (
    (av_cV (ev X d 98 [vr v1, vi x2] q4.2)).bind fun q5 =>
    bd X d 91 25 [(0, vr v0), (1, vr v1), (2, vi v2), (3, vi v3), (4, vi (q4.1)), (5, vi v5), (6, vi (v6 + (1 : Int32)))] [] q5) else none) else none) else none) else none)
  else (av_bz v4).bind fun w => av_rI w h :=
  (av_bd_eq av_Sg p_91 _ _ _ _ _).trans rfl
theorem e_91 (d : Nat) (v0 : Option Nat) (v1 : Option Nat) (v2 : Int32) (v3 : Int32) (h : av_H) : ev X (d + 1) 91 [vr v0, vr v1, vi v2, vi v3] h = bd X d 91 0 [(0, vr v0), (1, vr v1), (2, vi v2), (3, vi v3)] [] h := av_ev_eq av_Sg p_91 d _ h rfl
/-! 92 = X5_isAtJoint -/
set_option maxRecDepth 100000 in
theorem b_92_0 (d : Nat) (v0 : Option Nat) (v1 : Int32) (h : av_H) : bd X d 92 0 [(0, vr v0), (1, vi v1)] [] h =
  if v1 = 0 then
    ((av_gI h v0 5 7).bind fun x1 =>
    if x1 = (10009 : Int32) then
      ((av_bz (1 : Int32)).bind fun w => av_rI w h)
    else (av_gI h v0 5 7).bind fun x2 =>
    if x2 = (10010 : Int32) then
      ((av_bz (1 : Int32)).bind fun w => av_rI w h)
    else (av_bz (0 : Int32)).bind fun w => av_rI w h)
  else if v1 = 1 then
    ((av_gI h v0 5 7).bind fun x3 =>
    if x3 = (20060 : Int32) then
      ((av_bz (1 : Int32)).bind fun w => av_rI w h)
    else (av_gI h v0 5 7).bind fun x4 =>
    if x4 = (20061 : Int32) then
      ((av_bz (1 : Int32)).bind fun w => av_rI w h)
    else (av_bz (0 : Int32)).bind fun w => av_rI w h)
  else if v1 = 2 then
    ((av_gI h v0 5 7).bind fun x5 =>
    if x5 = (20043 : Int32) then
      ((av_bz (1 : Int32)).bind fun w => av_rI w h)
    else (av_gI h v0 5 7).bind fun x6 =>
    if x6 = (20045 : Int32) then
      ((av_bz (1 : Int32)).bind fun w => av_rI w h)
    else (av_bz (0 : Int32)).bind fun w => av_rI w h)
  else (av_gI h v0 5 7).bind fun x7 =>
  if x7 = (20042 : Int32) then
    ((av_bz (1 : Int32)).bind fun w => av_rI w h)
  else (av_bz (0 : Int32)).bind fun w => av_rI w h :=
  (av_bd_eq av_Sg p_92 _ _ _ _ _).trans rfl
theorem e_92 (d : Nat) (v0 : Option Nat) (v1 : Int32) (h : av_H) : ev X (d + 1) 92 [vr v0, vi v1] h = bd X d 92 0 [(0, vr v0), (1, vi v1)] [] h := av_ev_eq av_Sg p_92 d _ h rfl
/-! 93 = X5_readPart -/
set_option maxRecDepth 100000 in
theorem b_93_0 (d : Nat) (v0 : Option Nat) (v1 : Option Nat) (v2 : Int32) (h : av_H) : bd X d 93 0 [(0, vr v0), (1, vr v1), (2, vi v2)] [] h =
  (av_gI h v0 5 7).bind fun x1 =>
  if x1 = (10011 : Int32) then
    (bd X d 93 19 [(0, vr v0), (1, vr v1), (2, vi v2), (3, vi x1)] [] h)
  else if x1 = (20040 : Int32) then
    (bd X d 93 19 [(0, vr v0), (1, vr v1), (2, vi v2), (3, vi x1)] [] h)
  else if av_is h v0 5 = true then (
  (av_cI (ev X d 78 [vr v0] h)).bind fun q2 =>
  if q2.1 = 0 then
    (if av_is q2.2 v0 5 = true then (
    (av_cI (ev X d 79 [vr v0] q2.2)).bind fun q3 =>
    if q3.1 = 0 then
      (if av_is q3.2 v0 5 = true then (
      (av_cI (ev X d 80 [vr v0, vi (1 : Int32)] q3.2)).bind fun q4 =>
      (av_bz q4.1).bind fun w => av_rI w q4.2) else none)
    else bd X d 93 19 [(0, vr v0), (1, vr v1), (2, vi v2), (3, vi x1)] [] q3.2) else none)
  else bd X d 93 19 [(0, vr v0), (1, vr v1), (2, vi v2), (3, vi x1)] [] q2.2) else none :=
  (av_bd_eq av_Sg p_93 _ _ _ _ _).trans rfl
set_option maxRecDepth 100000 in
theorem b_93_19 (d : Nat) (v0 : Option Nat) (v1 : Option Nat) (v2 : Int32) (v3 : Int32) (h : av_H) : bd X d 93 19 [(0, vr v0), (1, vr v1), (2, vi v2), (3, vi v3)] [] h =
  if v2 < (5 : Int32) then
    (if av_is h v0 5 = true then (
    (av_cV (ev X d 77 [vr v0] h)).bind fun q1 =>
    if v3 = (20040 : Int32) then
      (if av_is q1 v0 5 = true then (
      (av_cI (ev X d 91 [vr v0, vr v1, vi (0 : Int32), vi (v2 + (1 : Int32))] q1)).bind fun q2 =>
      if q2.1 = 0 then
        ((av_bz (0 : Int32)).bind fun w => av_rI w q2.2)
      else if av_is q2.2 v0 5 = true then (
      (av_cI (ev X d 81 [vr v0, vi (20041 : Int32)] q2.2)).bind fun q3 =>
      if q3.1 = 0 then
        ((av_bz (0 : Int32)).bind fun w => av_rI w q3.2)
      else (av_bz (1 : Int32)).bind fun w => av_rI w q3.2) else none) else none)
    else if v3 = (10011 : Int32) then
      (if av_is q1 v0 5 = true then (
      (av_cI (ev X d 93 [vr v0, vr v1, vi (v2 + (1 : Int32))] q1)).bind fun q4 =>
      if q4.1 = 0 then
        (if av_is q4.2 v1 6 = true then (
        (av_cV (ev X d 98 [vr v1, vi v3] q4.2)).bind fun q5 =>
        (av_bz (0 : Int32)).bind fun w => av_rI w q5) else none)
      else if av_is q4.2 v1 6 = true then (
      (av_cV (ev X d 98 [vr v1, vi v3] q4.2)).bind fun q6 =>
      (av_bz (1 : Int32)).bind fun w => av_rI w q6) else none) else none)
    else if av_is q1 v1 6 = true then (
    (av_cV (ev X d 98 [vr v1, vi v3] q1)).bind fun q7 =>
    (av_bz (1 : Int32)).bind fun w => av_rI w q7) else none) else none)
  else if av_is h v0 5 = true then (
  (av_cI (ev X d 80 [vr v0, vi (5 : Int32)] h)).bind fun q8 =>
  (av_bz q8.1).bind fun w => av_rI w q8.2) else none :=
  (av_bd_eq av_Sg p_93 _ _ _ _ _).trans rfl
theorem e_93 (d : Nat) (v0 : Option Nat) (v1 : Option Nat) (v2 : Int32) (h : av_H) : ev X (d + 1) 93 [vr v0, vr v1, vi v2] h = bd X d 93 0 [(0, vr v0), (1, vr v1), (2, vi v2)] [] h := av_ev_eq av_Sg p_93 d _ h rfl
/-! 94 = X6_init -/
set_option maxRecDepth 100000 in
theorem b_94_0 (d : Nat) (v0 : Option Nat) (h : av_H) : bd X d 94 0 [(0, vr v0)] [] h =
  if av_is h v0 6 = true then (
  (av_na h 100 (1000 : Int32)).bind fun g1 =>
  (av_pR g1 v0 6 5 (some h.1.length)).bind fun g2 =>
  (av_na g2 100 (15 : Int32)).bind fun g3 =>
  (av_pR g3 v0 6 6 (some g2.1.length)).bind fun g4 =>
  (av_na g4 100 (15 : Int32)).bind fun g5 =>
  (av_pR g5 v0 6 7 (some g4.1.length)).bind fun g6 =>
  (av_na g6 100 (32 : Int32)).bind fun g7 =>
  (av_pR g7 v0 6 8 (some g6.1.length)).bind fun g8 =>
  if av_is g8 v0 6 = true then (
  (av_cV (ev X d 95 [vr v0] g8)).bind fun q9 =>
  av_rV q9) else none) else none :=
  (av_bd_eq av_Sg p_94 _ _ _ _ _).trans rfl
theorem e_94 (d : Nat) (v0 : Option Nat) (h : av_H) : ev X (d + 1) 94 [vr v0] h = bd X d 94 0 [(0, vr v0)] [] h := av_ev_eq av_Sg p_94 d _ h rfl
/-! 95 = X6_empty -/
set_option maxRecDepth 100000 in
theorem b_95_0 (d : Nat) (v0 : Option Nat) (h : av_H) : bd X d 95 0 [(0, vr v0)] [] h =
  (av_pI h v0 6 9 (0 : Int32)).bind fun g1 =>
  (av_gR g1 v0 6 6).bind fun x2 =>
  (av_cV (ev X d 383 [vr x2, vi (0 : Int32)] g1)).bind fun q3 =>
  (av_gR q3 v0 6 7).bind fun x4 =>
  (av_cV (ev X d 383 [vr x4, vi (0 : Int32)] q3)).bind fun q5 =>
  (av_pI q5 v0 6 0 (0 : Int32)).bind fun g6 =>
  (av_pI g6 v0 6 1 (0 : Int32)).bind fun g7 =>
  (av_pI g7 v0 6 2 (4 : Int32)).bind fun g8 =>
  (av_pI g8 v0 6 3 (30 : Int32)).bind fun g9 =>
  (av_pZ g9 v0 6 4 (0 : Int32)).bind fun g10 =>
  av_rV g10 :=
  (av_bd_eq av_Sg p_95 _ _ _ _ _).trans rfl
theorem e_95 (d : Nat) (v0 : Option Nat) (h : av_H) : ev X (d + 1) 95 [vr v0] h = bd X d 95 0 [(0, vr v0)] [] h := av_ev_eq av_Sg p_95 d _ h rfl
/-! 96 = X6_open -/
set_option maxRecDepth 100000 in
theorem b_96_0 (d : Nat) (v0 : Option Nat) (v1 : Int32) (h : av_H) : bd X d 96 0 [(0, vr v0), (1, vi v1)] [] h =
  (av_cI (ev X d 184 [vi v1, vi (15 : Int32)] h)).bind fun q1 =>
  if q1.1 = 0 then
    (av_rV q1.2)
  else (av_gR q1.2 v0 6 6).bind fun x2 =>
  (av_gI q1.2 v0 6 9).bind fun x3 =>
  (av_sI q1.2 x2 v1 x3).bind fun g4 =>
  av_rV g4 :=
  (av_bd_eq av_Sg p_96 _ _ _ _ _).trans rfl
theorem e_96 (d : Nat) (v0 : Option Nat) (v1 : Int32) (h : av_H) : ev X (d + 1) 96 [vr v0, vi v1] h = bd X d 96 0 [(0, vr v0), (1, vi v1)] [] h := av_ev_eq av_Sg p_96 d _ h rfl
/-! 97 = X6_close -/
set_option maxRecDepth 100000 in
theorem b_97_0 (d : Nat) (v0 : Option Nat) (v1 : Int32) (h : av_H) : bd X d 97 0 [(0, vr v0), (1, vi v1)] [] h =
  (av_cI (ev X d 184 [vi v1, vi (15 : Int32)] h)).bind fun q1 =>
  if q1.1 = 0 then
    (av_rV q1.2)
  else (av_gR q1.2 v0 6 7).bind fun x2 =>
  (av_gI q1.2 v0 6 9).bind fun x3 =>
  (av_sI q1.2 x2 v1 x3).bind fun g4 =>
  av_rV g4 :=
  (av_bd_eq av_Sg p_97 _ _ _ _ _).trans rfl
theorem e_97 (d : Nat) (v0 : Option Nat) (v1 : Int32) (h : av_H) : ev X (d + 1) 97 [vr v0, vi v1] h = bd X d 97 0 [(0, vr v0), (1, vi v1)] [] h := av_ev_eq av_Sg p_97 d _ h rfl
/-! 98 = X6_addStep -/
set_option maxRecDepth 100000 in
theorem b_98_0 (d : Nat) (v0 : Option Nat) (v1 : Int32) (h : av_H) : bd X d 98 0 [(0, vr v0), (1, vi v1)] [] h =
  (av_gI h v0 6 9).bind fun x1 =>
  (av_gR h v0 6 5).bind fun x2 =>
  (av_len X h x2).bind fun x3 =>
  if x1 < x3 then
    ((av_gR h v0 6 5).bind fun x4 =>
    (av_gI h v0 6 9).bind fun x5 =>
    (av_sI h x4 x5 v1).bind fun g6 =>
    (av_gI g6 v0 6 9).bind fun x7 =>
    (av_pI g6 v0 6 9 (x7 + (1 : Int32))).bind fun g8 =>
    av_rV g8)
  else av_rV h :=
  (av_bd_eq av_Sg p_98 _ _ _ _ _).trans rfl
theorem e_98 (d : Nat) (v0 : Option Nat) (v1 : Int32) (h : av_H) : ev X (d + 1) 98 [vr v0, vi v1] h = bd X d 98 0 [(0, vr v0), (1, vi v1)] [] h := av_ev_eq av_Sg p_98 d _ h rfl
/-! 99 = X6_isStopping -/
set_option maxRecDepth 100000 in
theorem b_99_0 (d : Nat) (v0 : Option Nat) (v1 : Option Nat) (h : av_H) : bd X d 99 0 [(0, vr v0), (1, vr v1)] [] h =
  bd X d 99 2 [(0, vr v0), (1, vr v1), (2, vi (0 : Int32))] [] h :=
  (av_bd_eq av_Sg p_99 _ _ _ _ _).trans rfl
set_option maxRecDepth 100000 in
theorem b_99_2 (d : Nat) (v0 : Option Nat) (v1 : Option Nat) (v2 : Int32) (h : av_H) : bd X d 99 2 [(0, vr v0), (1, vr v1), (2, vi v2)] [] h =
  (av_gI h v0 6 0).bind fun x1 =>
  if v2 < x1 then
    (if av_is h v0 6 = true then (
    (av_cI (ev X d 101 [vr v0, vi v2, vr v1] h)).bind fun q2 =>
    if q2.1 = 0 then
      (bd X d 99 2 [(0, vr v0), (1, vr v1), (2, vi (v2 + (1 : Int32)))] [] q2.2)
    else (av_bz (1 : Int32)).bind fun w => av_rI w q2.2) else none)
  else (av_bz (0 : Int32)).bind fun w => av_rI w h :=
  (av_bd_eq av_Sg p_99 _ _ _ _ _).trans rfl
theorem e_99 (d : Nat) (v0 : Option Nat) (v1 : Option Nat) (h : av_H) : ev X (d + 1) 99 [vr v0, vr v1] h = bd X d 99 0 [(0, vr v0), (1, vr v1)] [] h := av_ev_eq av_Sg p_99 d _ h rfl
/-! 100 = X6_isQuieting -/
set_option maxRecDepth 100000 in
theorem b_100_0 (d : Nat) (v0 : Option Nat) (v1 : Option Nat) (h : av_H) : bd X d 100 0 [(0, vr v0), (1, vr v1)] [] h =
  bd X d 100 2 [(0, vr v0), (1, vr v1), (2, vi (0 : Int32))] [] h :=
  (av_bd_eq av_Sg p_100 _ _ _ _ _).trans rfl
set_option maxRecDepth 100000 in
theorem b_100_2 (d : Nat) (v0 : Option Nat) (v1 : Option Nat) (v2 : Int32) (h : av_H) : bd X d 100 2 [(0, vr v0), (1, vr v1), (2, vi v2)] [] h =
  (av_gI h v0 6 1).bind fun x1 =>
  if v2 < x1 then
    (if av_is h v0 6 = true then (
    (av_cI (ev X d 101 [vr v0, vi ((6 : Int32) + v2), vr v1] h)).bind fun q2 =>
    if q2.1 = 0 then
      (bd X d 100 2 [(0, vr v0), (1, vr v1), (2, vi (v2 + (1 : Int32)))] [] q2.2)
    else (av_bz (1 : Int32)).bind fun w => av_rI w q2.2) else none)
  else (av_bz (0 : Int32)).bind fun w => av_rI w h :=
  (av_bd_eq av_Sg p_100 _ _ _ _ _).trans rfl
theorem e_100 (d : Nat) (v0 : Option Nat) (v1 : Option Nat) (h : av_H) : ev X (d + 1) 100 [vr v0, vr v1] h = bd X d 100 0 [(0, vr v0), (1, vr v1)] [] h := av_ev_eq av_Sg p_100 d _ h rfl
/-! 101 = X6_answer -/
set_option maxRecDepth 100000 in
theorem b_101_0 (d : Nat) (v0 : Option Nat) (v1 : Int32) (v2 : Option Nat) (h : av_H) : bd X d 101 0 [(0, vr v0), (1, vi v1), (2, vr v2)] [] h =
  if v1 < 0 then
    (av_rI (0 : Int32) h)
  else if v1 < (15 : Int32) then
    ((av_gR h v0 6 6).bind fun x1 =>
    (av_lI X h x1 v1).bind fun x2 =>
    bd X d 101 14 [(0, vr v0), (1, vi v1), (2, vr v2), (3, vi (0 : Int32)), (4, vi x2)] [] h)
  else av_rI (0 : Int32) h :=
  (av_bd_eq av_Sg p_101 _ _ _ _ _).trans rfl
set_option maxRecDepth 100000 in
theorem b_101_14 (d : Nat) (v0 : Option Nat) (v1 : Int32) (v2 : Option Nat) (v3 : Int32) (v4 : Int32) (h : av_H) : bd X d 101 14 [(0, vr v0), (1, vi v1), (2, vr v2), (3, vi v3), (4, vi v4)] [] h =
  (av_gR h v0 6 7).bind fun x1 =>
  (av_lI X h x1 v1).bind fun x2 =>
  if v4 < x2 then
    ((av_gI h v0 6 9).bind fun x3 =>
    if v4 < x3 then
      ((av_gR h v0 6 5).bind fun x4 =>
      (av_lI X h x4 v4).bind fun x5 =>
      if (x5 - (10012 : Int32)) < 0 then
        (bd X d 101 49 [(0, vr v0), (1, vi v1), (2, vr v2), (3, vi v3), (4, vi v4)] [] h)
      else (av_len X h v2).bind fun x6 =>
      if (x5 - (10012 : Int32)) < x6 then
        (if v3 < (32 : Int32) then
          ((av_gR h v0 6 8).bind fun x7 =>
          (av_lI X h v2 (x5 - (10012 : Int32))).bind fun x8 =>
          (av_sI h x7 v3 x8).bind fun g9 =>
          bd X d 101 14 [(0, vr v0), (1, vi v1), (2, vr v2), (3, vi (v3 + (1 : Int32))), (4, vi (v4 + (1 : Int32)))] [] g9)
        else bd X d 101 49 [(0, vr v0), (1, vi v1), (2, vr v2), (3, vi v3), (4, vi v4)] [] h)
      else bd X d 101 49 [(0, vr v0), (1, vi v1), (2, vr v2), (3, vi v3), (4, vi v4)] [] h)
    else bd X d 101 78 [(0, vr v0), (3, vi v3)] [] h)
  else bd X d 101 78 [(0, vr v0), (3, vi v3)] [] h :=
  (av_bd_eq av_Sg p_101 _ _ _ _ _).trans rfl
set_option maxRecDepth 100000 in
theorem b_101_49 (d : Nat) (v0 : Option Nat) (v1 : Int32) (v2 : Option Nat) (v3 : Int32) (v4 : Int32) (h : av_H) : bd X d 101 49 [(0, vr v0), (1, vi v1), (2, vr v2), (3, vi v3), (4, vi v4)] [] h =
  (av_gR h v0 6 5).bind fun x1 =>
  (av_lI X h x1 v4).bind fun x2 =>
  if x2 < (10000 : Int32) then
    (if v3 < (32 : Int32) then
      ((av_gR h v0 6 8).bind fun x3 =>
      (av_gR h v0 6 5).bind fun x4 =>
      (av_lI X h x4 v4).bind fun x5 =>
      (av_sI h x3 v3 x5).bind fun g6 =>
      bd X d 101 14 [(0, vr v0), (1, vi v1), (2, vr v2), (3, vi (v3 + (1 : Int32))), (4, vi (v4 + (1 : Int32)))] [] g6)
    else (av_gR h v0 6 5).bind fun x7 =>
    (av_lI X h x7 v4).bind fun x8 =>
    if av_is h v0 6 = true then (
    (av_cI (ev X d 102 [vr v0, vi x8, vi v3] h)).bind fun q9 =>
    bd X d 101 14 [(0, vr v0), (1, vi v1), (2, vr v2), (3, vi (q9.1)), (4, vi (v4 + (1 : Int32)))] [] q9.2) else none)
  else (av_gR h v0 6 5).bind fun x10 =>
  (av_lI X h x10 v4).bind fun x11 =>
  if av_is h v0 6 = true then (
  (av_cI (ev X d 102 [vr v0, vi x11, vi v3] h)).bind fun q12 =>
  bd X d 101 14 [(0, vr v0), (1, vi v1), (2, vr v2), (3, vi (q12.1)), (4, vi (v4 + (1 : Int32)))] [] q12.2) else none :=
  (av_bd_eq av_Sg p_101 _ _ _ _ _).trans rfl
set_option maxRecDepth 100000 in
theorem b_101_78 (d : Nat) (v0 : Option Nat) (v3 : Int32) (h : av_H) : bd X d 101 78 [(0, vr v0), (3, vi v3)] [] h =
  if 0 < v3 then
    ((av_gR h v0 6 8).bind fun x1 =>
    (av_lI X h x1 (0 : Int32)).bind fun x2 =>
    av_rI x2 h)
  else av_rI (0 : Int32) h :=
  (av_bd_eq av_Sg p_101 _ _ _ _ _).trans rfl
theorem e_101 (d : Nat) (v0 : Option Nat) (v1 : Int32) (v2 : Option Nat) (h : av_H) : ev X (d + 1) 101 [vr v0, vi v1, vr v2] h = bd X d 101 0 [(0, vr v0), (1, vi v1), (2, vr v2)] [] h := av_ev_eq av_Sg p_101 d _ h rfl
/-! 102 = X6_applyDeed -/
set_option maxRecDepth 100000 in
theorem b_102_0 (d : Nat) (v0 : Option Nat) (v1 : Int32) (v2 : Int32) (h : av_H) : bd X d 102 0 [(0, vr v0), (1, vi v1), (2, vi v2)] [] h =
  if v1 = (10011 : Int32) then
    (if v2 < (1 : Int32) then
      (bd X d 102 24 [(0, vr v0), (1, vi v1), (2, vi v2)] [] h)
    else (av_gR h v0 6 8).bind fun x1 =>
    (av_gR h v0 6 8).bind fun x2 =>
    (av_lI X h x2 (v2 - (1 : Int32))).bind fun x3 =>
    if x3 = 0 then
      ((av_sI h x1 (v2 - (1 : Int32)) (1 : Int32)).bind fun g4 =>
      av_rI v2 g4)
    else (av_sI h x1 (v2 - (1 : Int32)) (0 : Int32)).bind fun g5 =>
    av_rI v2 g5)
  else bd X d 102 24 [(0, vr v0), (1, vi v1), (2, vi v2)] [] h :=
  (av_bd_eq av_Sg p_102 _ _ _ _ _).trans rfl
set_option maxRecDepth 100000 in
theorem b_102_24 (d : Nat) (v0 : Option Nat) (v1 : Int32) (v2 : Int32) (h : av_H) : bd X d 102 24 [(0, vr v0), (1, vi v1), (2, vi v2)] [] h =
  if v2 < (2 : Int32) then
    (av_rI v2 h)
  else (av_gR h v0 6 8).bind fun x1 =>
  (av_lI X h x1 (v2 - (2 : Int32))).bind fun x2 =>
  (av_gR h v0 6 8).bind fun x3 =>
  (av_lI X h x3 (v2 - (1 : Int32))).bind fun x4 =>
  if v1 = 10009 then
    ((av_gR h v0 6 8).bind fun x5 =>
    if x2 = 0 then
      ((av_sI h x5 (v2 - (2 : Int32)) (0 : Int32)).bind fun g6 =>
      av_rI (v2 - (1 : Int32)) g6)
    else if x4 = 0 then
      ((av_sI h x5 (v2 - (2 : Int32)) (0 : Int32)).bind fun g7 =>
      av_rI (v2 - (1 : Int32)) g7)
    else (av_sI h x5 (v2 - (2 : Int32)) (1 : Int32)).bind fun g8 =>
    av_rI (v2 - (1 : Int32)) g8)
  else if v1 = 10010 then
    ((av_gR h v0 6 8).bind fun x9 =>
    if x2 = 0 then
      (if x4 = 0 then
        ((av_sI h x9 (v2 - (2 : Int32)) (0 : Int32)).bind fun g10 =>
        av_rI (v2 - (1 : Int32)) g10)
      else (av_sI h x9 (v2 - (2 : Int32)) (1 : Int32)).bind fun g11 =>
      av_rI (v2 - (1 : Int32)) g11)
    else (av_sI h x9 (v2 - (2 : Int32)) (1 : Int32)).bind fun g12 =>
    av_rI (v2 - (1 : Int32)) g12)
  else if v1 = 20043 then
    ((av_gR h v0 6 8).bind fun x13 =>
    (av_sI h x13 (v2 - (2 : Int32)) (x2 + x4)).bind fun g14 =>
    av_rI (v2 - (1 : Int32)) g14)
  else if v1 = 20045 then
    ((av_gR h v0 6 8).bind fun x15 =>
    (av_sI h x15 (v2 - (2 : Int32)) (x2 - x4)).bind fun g16 =>
    av_rI (v2 - (1 : Int32)) g16)
  else if v1 = 20060 then
    ((av_gR h v0 6 8).bind fun x17 =>
    if x2 < x4 then
      ((av_sI h x17 (v2 - (2 : Int32)) (1 : Int32)).bind fun g18 =>
      av_rI (v2 - (1 : Int32)) g18)
    else (av_sI h x17 (v2 - (2 : Int32)) (0 : Int32)).bind fun g19 =>
    av_rI (v2 - (1 : Int32)) g19)
  else if v1 = 20061 then
    ((av_gR h v0 6 8).bind fun x20 =>
    if x2 = x4 then
      ((av_sI h x20 (v2 - (2 : Int32)) (1 : Int32)).bind fun g21 =>
      av_rI (v2 - (1 : Int32)) g21)
    else (av_sI h x20 (v2 - (2 : Int32)) (0 : Int32)).bind fun g22 =>
    av_rI (v2 - (1 : Int32)) g22)
  else (av_gR h v0 6 8).bind fun x23 =>
  (av_sI h x23 (v2 - (2 : Int32)) (x2 * x4)).bind fun g24 =>
  av_rI (v2 - (1 : Int32)) g24 :=
  (av_bd_eq av_Sg p_102 _ _ _ _ _).trans rfl
theorem e_102 (d : Nat) (v0 : Option Nat) (v1 : Int32) (v2 : Int32) (h : av_H) : ev X (d + 1) 102 [vr v0, vi v1, vi v2] h = bd X d 102 0 [(0, vr v0), (1, vi v1), (2, vi v2)] [] h := av_ev_eq av_Sg p_102 d _ h rfl
/-! 103 = X7_init -/
set_option maxRecDepth 100000 in
theorem b_103_0 (d : Nat) (v0 : Option Nat) (h : av_H) : bd X d 103 0 [(0, vr v0)] [] h =
  if av_is h v0 7 = true then (
  (av_na h 100 (8 : Int32)).bind fun g1 =>
  (av_pR g1 v0 7 0 (some h.1.length)).bind fun g2 =>
  (av_na g2 100 (8 : Int32)).bind fun g3 =>
  (av_pR g3 v0 7 1 (some g2.1.length)).bind fun g4 =>
  (av_na g4 100 (8 : Int32)).bind fun g5 =>
  (av_pR g5 v0 7 2 (some g4.1.length)).bind fun g6 =>
  av_rV g6) else none :=
  (av_bd_eq av_Sg p_103 _ _ _ _ _).trans rfl
theorem e_103 (d : Nat) (v0 : Option Nat) (h : av_H) : ev X (d + 1) 103 [vr v0] h = bd X d 103 0 [(0, vr v0)] [] h := av_ev_eq av_Sg p_103 d _ h rfl
/-! 104 = X7_setOffer -/
set_option maxRecDepth 100000 in
theorem b_104_0 (d : Nat) (v0 : Option Nat) (v1 : Int32) (v2 : Int32) (v3 : Int32) (v4 : Int32) (h : av_H) : bd X d 104 0 [(0, vr v0), (1, vi v1), (2, vi v2), (3, vi v3), (4, vi v4)] [] h =
  (av_cI (ev X d 184 [vi v1, vi (8 : Int32)] h)).bind fun q1 =>
  if q1.1 = 0 then
    (av_rV q1.2)
  else (av_gR q1.2 v0 7 0).bind fun x2 =>
  (av_sI q1.2 x2 v1 v2).bind fun g3 =>
  (av_gR g3 v0 7 1).bind fun x4 =>
  (av_sI g3 x4 v1 v3).bind fun g5 =>
  (av_gR g5 v0 7 2).bind fun x6 =>
  (av_sI g5 x6 v1 v4).bind fun g7 =>
  av_rV g7 :=
  (av_bd_eq av_Sg p_104 _ _ _ _ _).trans rfl
theorem e_104 (d : Nat) (v0 : Option Nat) (v1 : Int32) (v2 : Int32) (v3 : Int32) (v4 : Int32) (h : av_H) : ev X (d + 1) 104 [vr v0, vi v1, vi v2, vi v3, vi v4] h = bd X d 104 0 [(0, vr v0), (1, vi v1), (2, vi v2), (3, vi v3), (4, vi v4)] [] h := av_ev_eq av_Sg p_104 d _ h rfl
/-! 105 = X7_howMany -/
set_option maxRecDepth 100000 in
theorem b_105_0 (d : Nat) (v0 : Option Nat) (h : av_H) : bd X d 105 0 [(0, vr v0)] [] h =
  if av_is h v0 7 = true then (
  (av_cI (ev X d 108 [vr v0] h)).bind fun q1 =>
  (av_cI (ev X d 377 [vi (q1.1)] q1.2)).bind fun q2 =>
  av_rI q2.1 q2.2) else none :=
  (av_bd_eq av_Sg p_105 _ _ _ _ _).trans rfl
theorem e_105 (d : Nat) (v0 : Option Nat) (h : av_H) : ev X (d + 1) 105 [vr v0] h = bd X d 105 0 [(0, vr v0)] [] h := av_ev_eq av_Sg p_105 d _ h rfl
/-! 106 = X7_costOf -/
set_option maxRecDepth 100000 in
theorem b_106_0 (d : Nat) (v0 : Option Nat) (v1 : Int32) (h : av_H) : bd X d 106 0 [(0, vr v0), (1, vi v1)] [] h =
  bd X d 106 4 [(0, vr v0), (1, vi v1), (2, vi (0 : Int32)), (3, vi (0 : Int32))] [] h :=
  (av_bd_eq av_Sg p_106 _ _ _ _ _).trans rfl
set_option maxRecDepth 100000 in
theorem b_106_4 (d : Nat) (v0 : Option Nat) (v1 : Int32) (v2 : Int32) (v3 : Int32) (h : av_H) : bd X d 106 4 [(0, vr v0), (1, vi v1), (2, vi v2), (3, vi v3)] [] h =
  if v3 < (8 : Int32) then
    ((av_cI (ev X d 185 [vi v1, vi v3] h)).bind fun q1 =>
    if q1.1 = 0 then
      (bd X d 106 4 [(0, vr v0), (1, vi v1), (2, vi (v2 + (0 : Int32))), (3, vi (v3 + (1 : Int32)))] [] q1.2)
    else (av_gR q1.2 v0 7 0).bind fun x2 =>
    (av_lI X q1.2 x2 v3).bind fun x3 =>
    bd X d 106 4 [(0, vr v0), (1, vi v1), (2, vi (v2 + x3)), (3, vi (v3 + (1 : Int32)))] [] q1.2)
  else av_rI v2 h :=
  (av_bd_eq av_Sg p_106 _ _ _ _ _).trans rfl
theorem e_106 (d : Nat) (v0 : Option Nat) (v1 : Int32) (h : av_H) : ev X (d + 1) 106 [vr v0, vi v1] h = bd X d 106 0 [(0, vr v0), (1, vi v1)] [] h := av_ev_eq av_Sg p_106 d _ h rfl
/-! 107 = X7_cheapest -/
set_option maxRecDepth 100000 in
theorem b_107_0 (d : Nat) (v0 : Option Nat) (v1 : Int32) (h : av_H) : bd X d 107 0 [(0, vr v0), (1, vi v1)] [] h =
  if av_is h v0 7 = true then (
  (av_cI (ev X d 108 [vr v0] h)).bind fun q1 =>
  if av_is q1.2 v0 7 = true then (
  (av_cI (ev X d 109 [vr v0, vi (q1.1), vi v1] q1.2)).bind fun q2 =>
  if q2.1 = 0 then
    (av_rI (-1 : Int32) q2.2)
  else if av_is q2.2 v0 7 = true then (
  (av_cI (ev X d 106 [vr v0, vi (q1.1)] q2.2)).bind fun q3 =>
  bd X d 107 20 [(0, vr v0), (1, vi v1), (2, vi (q1.1)), (3, vi (q1.1)), (4, vi (q3.1)), (5, vi (q1.1 - (1 : Int32)))] [] q3.2) else none) else none) else none :=
  (av_bd_eq av_Sg p_107 _ _ _ _ _).trans rfl
set_option maxRecDepth 100000 in
theorem b_107_20 (d : Nat) (v0 : Option Nat) (v1 : Int32) (v2 : Int32) (v3 : Int32) (v4 : Int32) (v5 : Int32) (h : av_H) : bd X d 107 20 [(0, vr v0), (1, vi v1), (2, vi v2), (3, vi v3), (4, vi v4), (5, vi v5)] [] h =
  if v5 < 0 then
    (av_rI v3 h)
  else if (v5 &&& (v2 ^^^ (-1 : Int32))) = 0 then
    (if av_is h v0 7 = true then (
    (av_cI (ev X d 106 [vr v0, vi v5] h)).bind fun q1 =>
    if v4 < q1.1 then
      (bd X d 107 20 [(0, vr v0), (1, vi v1), (2, vi v2), (3, vi v3), (4, vi v4), (5, vi (v5 + (-1 : Int32)))] [] q1.2)
    else if av_is q1.2 v0 7 = true then (
    (av_cI (ev X d 109 [vr v0, vi v5, vi v1] q1.2)).bind fun q2 =>
    if q2.1 = 0 then
      (bd X d 107 20 [(0, vr v0), (1, vi v1), (2, vi v2), (3, vi v3), (4, vi v4), (5, vi (v5 + (-1 : Int32)))] [] q2.2)
    else if av_is q2.2 v0 7 = true then (
    (av_cI (ev X d 106 [vr v0, vi v5] q2.2)).bind fun q3 =>
    bd X d 107 20 [(0, vr v0), (1, vi v1), (2, vi v2), (3, vi v5), (4, vi (q3.1)), (5, vi (v5 + (-1 : Int32)))] [] q3.2) else none) else none) else none)
  else bd X d 107 20 [(0, vr v0), (1, vi v1), (2, vi v2), (3, vi v3), (4, vi v4), (5, vi (v5 + (-1 : Int32)))] [] h :=
  (av_bd_eq av_Sg p_107 _ _ _ _ _).trans rfl
theorem e_107 (d : Nat) (v0 : Option Nat) (v1 : Int32) (h : av_H) : ev X (d + 1) 107 [vr v0, vi v1] h = bd X d 107 0 [(0, vr v0), (1, vi v1)] [] h := av_ev_eq av_Sg p_107 d _ h rfl
/-! 108 = X7_allThere -/
set_option maxRecDepth 100000 in
theorem b_108_0 (d : Nat) (v0 : Option Nat) (h : av_H) : bd X d 108 0 [(0, vr v0)] [] h =
  bd X d 108 4 [(0, vr v0), (1, vi (0 : Int32)), (2, vi (0 : Int32))] [] h :=
  (av_bd_eq av_Sg p_108 _ _ _ _ _).trans rfl
set_option maxRecDepth 100000 in
theorem b_108_4 (d : Nat) (v0 : Option Nat) (v1 : Int32) (v2 : Int32) (h : av_H) : bd X d 108 4 [(0, vr v0), (1, vi v1), (2, vi v2)] [] h =
  if v2 < (8 : Int32) then
    ((av_gR h v0 7 2).bind fun x1 =>
    (av_lI X h x1 v2).bind fun x2 =>
    if 0 < x2 then
      (bd X d 108 4 [(0, vr v0), (1, vi (v1 ||| ((1 : Int32) <<< (v2 &&& 31)))), (2, vi (v2 + (1 : Int32)))] [] h)
    else bd X d 108 4 [(0, vr v0), (1, vi (v1 ||| (0 : Int32))), (2, vi (v2 + (1 : Int32)))] [] h)
  else av_rI v1 h :=
  (av_bd_eq av_Sg p_108 _ _ _ _ _).trans rfl
theorem e_108 (d : Nat) (v0 : Option Nat) (h : av_H) : ev X (d + 1) 108 [vr v0] h = bd X d 108 0 [(0, vr v0)] [] h := av_ev_eq av_Sg p_108 d _ h rfl
/-! 109 = X7_isEnough -/
set_option maxRecDepth 100000 in
theorem b_109_0 (d : Nat) (v0 : Option Nat) (v1 : Int32) (v2 : Int32) (h : av_H) : bd X d 109 0 [(0, vr v0), (1, vi v1), (2, vi v2)] [] h =
  bd X d 109 2 [(0, vr v0), (1, vi v1), (2, vi v2), (3, vi (1 : Int32))] [] h :=
  (av_bd_eq av_Sg p_109 _ _ _ _ _).trans rfl
set_option maxRecDepth 100000 in
theorem b_109_2 (d : Nat) (v0 : Option Nat) (v1 : Int32) (v2 : Int32) (v3 : Int32) (h : av_H) : bd X d 109 2 [(0, vr v0), (1, vi v1), (2, vi v2), (3, vi v3)] [] h =
  if v2 < v3 then
    ((av_bz (1 : Int32)).bind fun w => av_rI w h)
  else if (v3 &&& (v2 ^^^ (-1 : Int32))) = 0 then
    (if av_is h v0 7 = true then (
    (av_cI (ev X d 110 [vr v0, vi v1, vi v3] h)).bind fun q1 =>
    (av_cI (ev X d 377 [vi v3] q1.2)).bind fun q2 =>
    if q1.1 < q2.1 then
      ((av_bz (0 : Int32)).bind fun w => av_rI w q2.2)
    else bd X d 109 2 [(0, vr v0), (1, vi v1), (2, vi v2), (3, vi (v3 + (1 : Int32)))] [] q2.2) else none)
  else bd X d 109 2 [(0, vr v0), (1, vi v1), (2, vi v2), (3, vi (v3 + (1 : Int32)))] [] h :=
  (av_bd_eq av_Sg p_109 _ _ _ _ _).trans rfl
theorem e_109 (d : Nat) (v0 : Option Nat) (v1 : Int32) (v2 : Int32) (h : av_H) : ev X (d + 1) 109 [vr v0, vi v1, vi v2] h = bd X d 109 0 [(0, vr v0), (1, vi v1), (2, vi v2)] [] h := av_ev_eq av_Sg p_109 d _ h rfl
/-! 110 = X7_servedAtMost -/
set_option maxRecDepth 100000 in
theorem b_110_0 (d : Nat) (v0 : Option Nat) (v1 : Int32) (v2 : Int32) (h : av_H) : bd X d 110 0 [(0, vr v0), (1, vi v1), (2, vi v2)] [] h =
  bd X d 110 4 [(0, vr v0), (1, vi v1), (2, vi v2), (3, vi (0 : Int32)), (4, vi (0 : Int32))] [] h :=
  (av_bd_eq av_Sg p_110 _ _ _ _ _).trans rfl
set_option maxRecDepth 100000 in
theorem b_110_4 (d : Nat) (v0 : Option Nat) (v1 : Int32) (v2 : Int32) (v3 : Int32) (v4 : Int32) (h : av_H) : bd X d 110 4 [(0, vr v0), (1, vi v1), (2, vi v2), (3, vi v3), (4, vi v4)] [] h =
  if v4 < (8 : Int32) then
    ((av_cI (ev X d 185 [vi v1, vi v4] h)).bind fun q1 =>
    if q1.1 = 0 then
      (bd X d 110 4 [(0, vr v0), (1, vi v1), (2, vi v2), (3, vi (v3 + (0 : Int32))), (4, vi (v4 + (1 : Int32)))] [] q1.2)
    else (av_gR q1.2 v0 7 1).bind fun x2 =>
    (av_lI X q1.2 x2 v4).bind fun x3 =>
    if (x3 &&& v2) = 0 then
      (bd X d 110 4 [(0, vr v0), (1, vi v1), (2, vi v2), (3, vi (v3 + (0 : Int32))), (4, vi (v4 + (1 : Int32)))] [] q1.2)
    else (av_gR q1.2 v0 7 2).bind fun x4 =>
    (av_lI X q1.2 x4 v4).bind fun x5 =>
    bd X d 110 4 [(0, vr v0), (1, vi v1), (2, vi v2), (3, vi (v3 + x5)), (4, vi (v4 + (1 : Int32)))] [] q1.2)
  else av_rI v3 h :=
  (av_bd_eq av_Sg p_110 _ _ _ _ _).trans rfl
theorem e_110 (d : Nat) (v0 : Option Nat) (v1 : Int32) (v2 : Int32) (h : av_H) : ev X (d + 1) 110 [vr v0, vi v1, vi v2] h = bd X d 110 0 [(0, vr v0), (1, vi v1), (2, vi v2)] [] h := av_ev_eq av_Sg p_110 d _ h rfl
/-! 111 = X8_init -/
set_option maxRecDepth 100000 in
theorem b_111_0 (d : Nat) (v0 : Option Nat) (v1 : Int32) (h : av_H) : bd X d 111 0 [(0, vr v0), (1, vi v1)] [] h =
  if av_is h v0 8 = true then (
  (av_pI h v0 8 5 (0 : Int32)).bind fun g1 =>
  (av_cI (ev X d 379 [vi (0 : Int32), vi v1] g1)).bind fun q2 =>
  (av_na q2.2 100 q2.1).bind fun g3 =>
  (av_pR g3 v0 8 0 (some q2.2.1.length)).bind fun g4 =>
  (av_na g4 100 q2.1).bind fun g5 =>
  (av_pR g5 v0 8 1 (some g4.1.length)).bind fun g6 =>
  (av_na g6 100 q2.1).bind fun g7 =>
  (av_pR g7 v0 8 3 (some g6.1.length)).bind fun g8 =>
  (av_na g8 100 q2.1).bind fun g9 =>
  (av_pR g9 v0 8 2 (some g8.1.length)).bind fun g10 =>
  (av_na g10 100 q2.1).bind fun g11 =>
  (av_pR g11 v0 8 4 (some g10.1.length)).bind fun g12 =>
  av_rV g12) else none :=
  (av_bd_eq av_Sg p_111 _ _ _ _ _).trans rfl
theorem e_111 (d : Nat) (v0 : Option Nat) (v1 : Int32) (h : av_H) : ev X (d + 1) 111 [vr v0, vi v1] h = bd X d 111 0 [(0, vr v0), (1, vi v1)] [] h := av_ev_eq av_Sg p_111 d _ h rfl
/-! 112 = X8_add -/
set_option maxRecDepth 100000 in
theorem b_112_0 (d : Nat) (v0 : Option Nat) (v1 : Int32) (v2 : Int32) (v3 : Int32) (v4 : Int32) (v5 : Int32) (h : av_H) : bd X d 112 0 [(0, vr v0), (1, vi v1), (2, vi v2), (3, vi v3), (4, vi v4), (5, vi v5)] [] h =
  (av_gI h v0 8 5).bind fun x1 =>
  (av_gR h v0 8 0).bind fun x2 =>
  (av_len X h x2).bind fun x3 =>
  if x1 < x3 then
    ((av_gR h v0 8 0).bind fun x4 =>
    (av_gI h v0 8 5).bind fun x5 =>
    (av_sI h x4 x5 v1).bind fun g6 =>
    (av_gR g6 v0 8 1).bind fun x7 =>
    (av_gI g6 v0 8 5).bind fun x8 =>
    (av_sI g6 x7 x8 v2).bind fun g9 =>
    (av_gR g9 v0 8 3).bind fun x10 =>
    (av_gI g9 v0 8 5).bind fun x11 =>
    (av_sI g9 x10 x11 v3).bind fun g12 =>
    (av_gR g12 v0 8 2).bind fun x13 =>
    (av_gI g12 v0 8 5).bind fun x14 =>
    (av_sI g12 x13 x14 v4).bind fun g15 =>
    (av_gR g15 v0 8 4).bind fun x16 =>
    (av_gI g15 v0 8 5).bind fun x17 =>
    (av_sI g15 x16 x17 v5).bind fun g18 =>
    (av_gI g18 v0 8 5).bind fun x19 =>
    (av_pI g18 v0 8 5 (x19 + (1 : Int32))).bind fun g20 =>
    (av_bz (1 : Int32)).bind fun w => av_rI w g20)
  else (av_bz (0 : Int32)).bind fun w => av_rI w h :=
  (av_bd_eq av_Sg p_112 _ _ _ _ _).trans rfl
theorem e_112 (d : Nat) (v0 : Option Nat) (v1 : Int32) (v2 : Int32) (v3 : Int32) (v4 : Int32) (v5 : Int32) (h : av_H) : ev X (d + 1) 112 [vr v0, vi v1, vi v2, vi v3, vi v4, vi v5] h = bd X d 112 0 [(0, vr v0), (1, vi v1), (2, vi v2), (3, vi v3), (4, vi v4), (5, vi v5)] [] h := av_ev_eq av_Sg p_112 d _ h rfl
/-! 113 = X8_covers -/
set_option maxRecDepth 100000 in
theorem b_113_0 (d : Nat) (v0 : Option Nat) (v1 : Int32) (v2 : Int32) (v3 : Int32) (h : av_H) : bd X d 113 0 [(0, vr v0), (1, vi v1), (2, vi v2), (3, vi v3)] [] h =
  bd X d 113 2 [(0, vr v0), (1, vi v1), (2, vi v2), (3, vi v3), (4, vi (0 : Int32))] [] h :=
  (av_bd_eq av_Sg p_113 _ _ _ _ _).trans rfl
set_option maxRecDepth 100000 in
theorem b_113_2 (d : Nat) (v0 : Option Nat) (v1 : Int32) (v2 : Int32) (v3 : Int32) (v4 : Int32) (h : av_H) : bd X d 113 2 [(0, vr v0), (1, vi v1), (2, vi v2), (3, vi v3), (4, vi v4)] [] h =
  (av_gI h v0 8 5).bind fun x1 =>
  if v4 < x1 then
    ((av_gR h v0 8 0).bind fun x2 =>
    (av_lI X h x2 v4).bind fun x3 =>
    if x3 = v1 then
      (if av_is h v0 8 = true then (
      (av_cI (ev X d 115 [vr v0, vi v4, vi v2] h)).bind fun q4 =>
      if q4.1 = 0 then
        (bd X d 113 2 [(0, vr v0), (1, vi v1), (2, vi v2), (3, vi v3), (4, vi (v4 + (1 : Int32)))] [] q4.2)
      else (av_gR q4.2 v0 8 2).bind fun x5 =>
      (av_lI X q4.2 x5 v4).bind fun x6 =>
      (av_gR q4.2 v0 8 4).bind fun x7 =>
      (av_lI X q4.2 x7 v4).bind fun x8 =>
      (av_cI (ev X d 183 [vi v3, vi x6, vi x8] q4.2)).bind fun q9 =>
      if q9.1 = 0 then
        (bd X d 113 2 [(0, vr v0), (1, vi v1), (2, vi v2), (3, vi v3), (4, vi (v4 + (1 : Int32)))] [] q9.2)
      else (av_bz (1 : Int32)).bind fun w => av_rI w q9.2) else none)
    else bd X d 113 2 [(0, vr v0), (1, vi v1), (2, vi v2), (3, vi v3), (4, vi (v4 + (1 : Int32)))] [] h)
  else (av_bz (0 : Int32)).bind fun w => av_rI w h :=
  (av_bd_eq av_Sg p_113 _ _ _ _ _).trans rfl
theorem e_113 (d : Nat) (v0 : Option Nat) (v1 : Int32) (v2 : Int32) (v3 : Int32) (h : av_H) : ev X (d + 1) 113 [vr v0, vi v1, vi v2, vi v3] h = bd X d 113 0 [(0, vr v0), (1, vi v1), (2, vi v2), (3, vi v3)] [] h := av_ev_eq av_Sg p_113 d _ h rfl
/-! 114 = X8_floorsOn -/
set_option maxRecDepth 100000 in
theorem b_114_0 (d : Nat) (v0 : Option Nat) (v1 : Int32) (v2 : Int32) (h : av_H) : bd X d 114 0 [(0, vr v0), (1, vi v1), (2, vi v2)] [] h =
  bd X d 114 4 [(0, vr v0), (1, vi v1), (2, vi v2), (3, vi (0 : Int32)), (4, vi (0 : Int32))] [] h :=
  (av_bd_eq av_Sg p_114 _ _ _ _ _).trans rfl
set_option maxRecDepth 100000 in
theorem b_114_4 (d : Nat) (v0 : Option Nat) (v1 : Int32) (v2 : Int32) (v3 : Int32) (v4 : Int32) (h : av_H) : bd X d 114 4 [(0, vr v0), (1, vi v1), (2, vi v2), (3, vi v3), (4, vi v4)] [] h =
  (av_gI h v0 8 5).bind fun x1 =>
  if v4 < x1 then
    ((av_gR h v0 8 0).bind fun x2 =>
    (av_lI X h x2 v4).bind fun x3 =>
    if (12 : Int32) = 0 then none else if (x3 / (12 : Int32)) = v1 then
      (if av_is h v0 8 = true then (
      (av_cI (ev X d 115 [vr v0, vi v4, vi v2] h)).bind fun q4 =>
      if q4.1 = 0 then
        (bd X d 114 4 [(0, vr v0), (1, vi v1), (2, vi v2), (3, vi v3), (4, vi (v4 + (1 : Int32)))] [] q4.2)
      else (av_gR q4.2 v0 8 0).bind fun x5 =>
      (av_lI X q4.2 x5 v4).bind fun x6 =>
      if (12 : Int32) = 0 then none else bd X d 114 4 [(0, vr v0), (1, vi v1), (2, vi v2), (3, vi (v3 ||| ((1 : Int32) <<< ((x6 - x6 / (12 : Int32) * (12 : Int32)) &&& 31)))), (4, vi (v4 + (1 : Int32)))] [] q4.2) else none)
    else bd X d 114 4 [(0, vr v0), (1, vi v1), (2, vi v2), (3, vi v3), (4, vi (v4 + (1 : Int32)))] [] h)
  else av_rI v3 h :=
  (av_bd_eq av_Sg p_114 _ _ _ _ _).trans rfl
theorem e_114 (d : Nat) (v0 : Option Nat) (v1 : Int32) (v2 : Int32) (h : av_H) : ev X (d + 1) 114 [vr v0, vi v1, vi v2] h = bd X d 114 0 [(0, vr v0), (1, vi v1), (2, vi v2)] [] h := av_ev_eq av_Sg p_114 d _ h rfl
/-! 115 = X8_isOn -/
set_option maxRecDepth 100000 in
theorem b_115_0 (d : Nat) (v0 : Option Nat) (v1 : Int32) (v2 : Int32) (h : av_H) : bd X d 115 0 [(0, vr v0), (1, vi v1), (2, vi v2)] [] h =
  (av_gR h v0 8 1).bind fun x1 =>
  (av_lI X h x1 v1).bind fun x2 =>
  (av_gR h v0 8 3).bind fun x3 =>
  (av_lI X h x3 v1).bind fun x4 =>
  (av_cI (ev X d 183 [vi v2, vi x2, vi x4] h)).bind fun q5 =>
  (av_bz q5.1).bind fun w => av_rI w q5.2 :=
  (av_bd_eq av_Sg p_115 _ _ _ _ _).trans rfl
theorem e_115 (d : Nat) (v0 : Option Nat) (v1 : Int32) (v2 : Int32) (h : av_H) : ev X (d + 1) 115 [vr v0, vi v1, vi v2] h = bd X d 115 0 [(0, vr v0), (1, vi v1), (2, vi v2)] [] h := av_ev_eq av_Sg p_115 d _ h rfl
/-! 116 = X9_init -/
set_option maxRecDepth 100000 in
theorem b_116_0 (d : Nat) (v0 : Option Nat) (v1 : Int32) (v2 : Int32) (h : av_H) : bd X d 116 0 [(0, vr v0), (1, vi v1), (2, vi v2)] [] h =
  if av_is h v0 9 = true then (
  (av_pI h v0 9 2 (2 : Int32)).bind fun g1 =>
  (av_pI g1 v0 9 3 (1000 : Int32)).bind fun g2 =>
  (av_pI g2 v0 9 4 (0 : Int32)).bind fun g3 =>
  (av_na g3 100 (40 : Int32)).bind fun g4 =>
  (av_pR g4 v0 9 5 (some g3.1.length)).bind fun g5 =>
  (av_na g5 100 (4 : Int32)).bind fun g6 =>
  (av_pR g6 v0 9 6 (some g5.1.length)).bind fun g7 =>
  (av_pI g7 v0 9 0 v1).bind fun g8 =>
  (av_pI g8 v0 9 1 v2).bind fun g9 =>
  av_rV g9) else none :=
  (av_bd_eq av_Sg p_116 _ _ _ _ _).trans rfl
theorem e_116 (d : Nat) (v0 : Option Nat) (v1 : Int32) (v2 : Int32) (h : av_H) : ev X (d + 1) 116 [vr v0, vi v1, vi v2] h = bd X d 116 0 [(0, vr v0), (1, vi v1), (2, vi v2)] [] h := av_ev_eq av_Sg p_116 d _ h rfl
/-! 117 = X9_setBlocked -/
set_option maxRecDepth 100000 in
theorem b_117_0 (d : Nat) (v0 : Option Nat) (v1 : Int32) (v2 : Int32) (v3 : Int32) (v4 : Int32) (h : av_H) : bd X d 117 0 [(0, vr v0), (1, vi v1), (2, vi v2), (3, vi v3), (4, vi v4)] [] h =
  (av_gR h v0 9 5).bind fun x1 =>
  (av_len X h x1).bind fun x2 =>
  (av_cI (ev X d 184 [vi ((v1 * (10 : Int32)) + v3), vi x2] h)).bind fun q3 =>
  if q3.1 = 0 then
    (av_rV q3.2)
  else (av_gR q3.2 v0 9 5).bind fun x4 =>
  (av_gR q3.2 v0 9 5).bind fun x5 =>
  (av_lI X q3.2 x5 ((v1 * (10 : Int32)) + v3)).bind fun x6 =>
  (av_cI (ev X d 125 [vi x6, vi v2, vi v4] q3.2)).bind fun q7 =>
  (av_sI q7.2 x4 ((v1 * (10 : Int32)) + v3) q7.1).bind fun g8 =>
  av_rV g8 :=
  (av_bd_eq av_Sg p_117 _ _ _ _ _).trans rfl
theorem e_117 (d : Nat) (v0 : Option Nat) (v1 : Int32) (v2 : Int32) (v3 : Int32) (v4 : Int32) (h : av_H) : ev X (d + 1) 117 [vr v0, vi v1, vi v2, vi v3, vi v4] h = bd X d 117 0 [(0, vr v0), (1, vi v1), (2, vi v2), (3, vi v3), (4, vi v4)] [] h := av_ev_eq av_Sg p_117 d _ h rfl
/-! 118 = X9_freeFloors -/
set_option maxRecDepth 100000 in
theorem b_118_0 (d : Nat) (v0 : Option Nat) (v1 : Int32) (v2 : Int32) (h : av_H) : bd X d 118 0 [(0, vr v0), (1, vi v1), (2, vi v2)] [] h =
  (av_gR h v0 9 5).bind fun x1 =>
  (av_len X h x1).bind fun x2 =>
  (av_cI (ev X d 184 [vi ((v1 * (10 : Int32)) + v2), vi x2] h)).bind fun q3 =>
  if q3.1 = 0 then
    (av_rI (0 : Int32) q3.2)
  else (av_gR q3.2 v0 9 5).bind fun x4 =>
  (av_lI X q3.2 x4 ((v1 * (10 : Int32)) + v2)).bind fun x5 =>
  (av_gI q3.2 v0 9 0).bind fun x6 =>
  av_rI ((x5 ^^^ (-1 : Int32)) &&& (((1 : Int32) <<< (x6 &&& 31)) - (1 : Int32))) q3.2 :=
  (av_bd_eq av_Sg p_118 _ _ _ _ _).trans rfl
theorem e_118 (d : Nat) (v0 : Option Nat) (v1 : Int32) (v2 : Int32) (h : av_H) : ev X (d + 1) 118 [vr v0, vi v1, vi v2] h = bd X d 118 0 [(0, vr v0), (1, vi v1), (2, vi v2)] [] h := av_ev_eq av_Sg p_118 d _ h rfl
/-! 119 = X9_blockedCount -/
set_option maxRecDepth 100000 in
theorem b_119_0 (d : Nat) (v0 : Option Nat) (h : av_H) : bd X d 119 0 [(0, vr v0)] [] h =
  bd X d 119 4 [(0, vr v0), (1, vi (0 : Int32)), (2, vi (0 : Int32))] [] h :=
  (av_bd_eq av_Sg p_119 _ _ _ _ _).trans rfl
set_option maxRecDepth 100000 in
theorem b_119_4 (d : Nat) (v0 : Option Nat) (v1 : Int32) (v2 : Int32) (h : av_H) : bd X d 119 4 [(0, vr v0), (1, vi v1), (2, vi v2)] [] h =
  (av_gR h v0 9 5).bind fun x1 =>
  (av_len X h x1).bind fun x2 =>
  if v2 < x2 then
    ((av_gR h v0 9 5).bind fun x3 =>
    (av_lI X h x3 v2).bind fun x4 =>
    (av_cI (ev X d 377 [vi x4] h)).bind fun q5 =>
    bd X d 119 4 [(0, vr v0), (1, vi (v1 + q5.1)), (2, vi (v2 + (1 : Int32)))] [] q5.2)
  else av_rI v1 h :=
  (av_bd_eq av_Sg p_119 _ _ _ _ _).trans rfl
theorem e_119 (d : Nat) (v0 : Option Nat) (h : av_H) : ev X (d + 1) 119 [vr v0] h = bd X d 119 0 [(0, vr v0)] [] h := av_ev_eq av_Sg p_119 d _ h rfl
/-! 120 = X9_setOpen -/
set_option maxRecDepth 100000 in
theorem b_120_0 (d : Nat) (v0 : Option Nat) (v1 : Int32) (v2 : Int32) (v3 : Int32) (h : av_H) : bd X d 120 0 [(0, vr v0), (1, vi v1), (2, vi v2), (3, vi v3)] [] h =
  (av_cI (ev X d 186 [vi v1] h)).bind fun q1 =>
  if q1.1 = 0 then
    (av_rV q1.2)
  else (av_gR q1.2 v0 9 6).bind fun x2 =>
  (av_gR q1.2 v0 9 6).bind fun x3 =>
  (av_lI X q1.2 x3 v1).bind fun x4 =>
  if v3 = 0 then
    ((av_cI (ev X d 125 [vi x4, vi v2, vi (1 : Int32)] q1.2)).bind fun q5 =>
    (av_sI q5.2 x2 v1 q5.1).bind fun g6 =>
    av_rV g6)
  else (av_cI (ev X d 125 [vi x4, vi v2, vi (0 : Int32)] q1.2)).bind fun q7 =>
  (av_sI q7.2 x2 v1 q7.1).bind fun g8 =>
  av_rV g8 :=
  (av_bd_eq av_Sg p_120 _ _ _ _ _).trans rfl
theorem e_120 (d : Nat) (v0 : Option Nat) (v1 : Int32) (v2 : Int32) (v3 : Int32) (h : av_H) : ev X (d + 1) 120 [vr v0, vi v1, vi v2, vi v3] h = bd X d 120 0 [(0, vr v0), (1, vi v1), (2, vi v2), (3, vi v3)] [] h := av_ev_eq av_Sg p_120 d _ h rfl
/-! 121 = X9_openStops -/
set_option maxRecDepth 100000 in
theorem b_121_0 (d : Nat) (v0 : Option Nat) (v1 : Int32) (h : av_H) : bd X d 121 0 [(0, vr v0), (1, vi v1)] [] h =
  (av_cI (ev X d 186 [vi v1] h)).bind fun q1 =>
  if q1.1 = 0 then
    (av_rI (0 : Int32) q1.2)
  else (av_gR q1.2 v0 9 6).bind fun x2 =>
  (av_lI X q1.2 x2 v1).bind fun x3 =>
  (av_gI q1.2 v0 9 1).bind fun x4 =>
  av_rI ((x3 ^^^ (-1 : Int32)) &&& (((1 : Int32) <<< (x4 &&& 31)) - (1 : Int32))) q1.2 :=
  (av_bd_eq av_Sg p_121 _ _ _ _ _).trans rfl
theorem e_121 (d : Nat) (v0 : Option Nat) (v1 : Int32) (h : av_H) : ev X (d + 1) 121 [vr v0, vi v1] h = bd X d 121 0 [(0, vr v0), (1, vi v1)] [] h := av_ev_eq av_Sg p_121 d _ h rfl
/-! 122 = X9_reachedColumns -/
set_option maxRecDepth 100000 in
theorem b_122_0 (d : Nat) (v0 : Option Nat) (v1 : Int32) (h : av_H) : bd X d 122 0 [(0, vr v0), (1, vi v1)] [] h =
  bd X d 122 4 [(0, vr v0), (1, vi v1), (2, vi (0 : Int32)), (3, vi (0 : Int32))] [] h :=
  (av_bd_eq av_Sg p_122 _ _ _ _ _).trans rfl
set_option maxRecDepth 100000 in
theorem b_122_4 (d : Nat) (v0 : Option Nat) (v1 : Int32) (v2 : Int32) (v3 : Int32) (h : av_H) : bd X d 122 4 [(0, vr v0), (1, vi v1), (2, vi v2), (3, vi v3)] [] h =
  (av_gI h v0 9 2).bind fun x1 =>
  if v3 < x1 then
    (bd X d 122 4 [(0, vr v0), (1, vi v1), (2, vi (v2 ||| (v1 <<< (v3 &&& 31)))), (3, vi (v3 + (1 : Int32)))] [] h)
  else (av_gI h v0 9 1).bind fun x2 =>
  av_rI (v2 &&& (((1 : Int32) <<< (x2 &&& 31)) - (1 : Int32))) h :=
  (av_bd_eq av_Sg p_122 _ _ _ _ _).trans rfl
theorem e_122 (d : Nat) (v0 : Option Nat) (v1 : Int32) (h : av_H) : ev X (d + 1) 122 [vr v0, vi v1] h = bd X d 122 0 [(0, vr v0), (1, vi v1)] [] h := av_ev_eq av_Sg p_122 d _ h rfl
/-! 123 = X9_neededColumns -/
set_option maxRecDepth 100000 in
theorem b_123_0 (d : Nat) (v0 : Option Nat) (v1 : Int32) (h : av_H) : bd X d 123 0 [(0, vr v0), (1, vi v1)] [] h =
  bd X d 123 4 [(0, vr v0), (1, vi v1), (2, vi (0 : Int32)), (3, vi (0 : Int32))] [] h :=
  (av_bd_eq av_Sg p_123 _ _ _ _ _).trans rfl
set_option maxRecDepth 100000 in
theorem b_123_4 (d : Nat) (v0 : Option Nat) (v1 : Int32) (v2 : Int32) (v3 : Int32) (h : av_H) : bd X d 123 4 [(0, vr v0), (1, vi v1), (2, vi v2), (3, vi v3)] [] h =
  (av_gI h v0 9 1).bind fun x1 =>
  if v3 < x1 then
    (if av_is h v0 9 = true then (
    (av_cI (ev X d 118 [vr v0, vi v1, vi v3] h)).bind fun q2 =>
    if q2.1 = 0 then
      (bd X d 123 4 [(0, vr v0), (1, vi v1), (2, vi (v2 ||| (0 : Int32))), (3, vi (v3 + (1 : Int32)))] [] q2.2)
    else bd X d 123 4 [(0, vr v0), (1, vi v1), (2, vi (v2 ||| ((1 : Int32) <<< (v3 &&& 31)))), (3, vi (v3 + (1 : Int32)))] [] q2.2) else none)
  else av_rI v2 h :=
  (av_bd_eq av_Sg p_123 _ _ _ _ _).trans rfl
theorem e_123 (d : Nat) (v0 : Option Nat) (v1 : Int32) (h : av_H) : ev X (d + 1) 123 [vr v0, vi v1] h = bd X d 123 0 [(0, vr v0), (1, vi v1)] [] h := av_ev_eq av_Sg p_123 d _ h rfl
/-! 124 = X9_fewestStops -/
set_option maxRecDepth 100000 in
theorem b_124_0 (d : Nat) (v0 : Option Nat) (v1 : Int32) (h : av_H) : bd X d 124 0 [(0, vr v0), (1, vi v1)] [] h =
  if av_is h v0 9 = true then (
  (av_cI (ev X d 121 [vr v0, vi v1] h)).bind fun q1 =>
  if av_is q1.2 v0 9 = true then (
  (av_cI (ev X d 123 [vr v0, vi v1] q1.2)).bind fun q2 =>
  bd X d 124 14 [(0, vr v0), (2, vi (q1.1)), (3, vi (q2.1)), (4, vi (-1 : Int32)), (5, vi (11 : Int32)), (6, vi (0 : Int32))] [] q2.2) else none) else none :=
  (av_bd_eq av_Sg p_124 _ _ _ _ _).trans rfl
set_option maxRecDepth 100000 in
theorem b_124_14 (d : Nat) (v0 : Option Nat) (v2 : Int32) (v3 : Int32) (v4 : Int32) (v5 : Int32) (v6 : Int32) (h : av_H) : bd X d 124 14 [(0, vr v0), (2, vi v2), (3, vi v3), (4, vi v4), (5, vi v5), (6, vi v6)] [] h =
  if v2 < v6 then
    (av_rI v4 h)
  else if (v6 &&& (v2 ^^^ (-1 : Int32))) = 0 then
    ((av_cI (ev X d 377 [vi v6] h)).bind fun q1 =>
    if q1.1 < v5 then
      (bd X d 124 30 [(0, vr v0), (2, vi v2), (3, vi v3), (4, vi v4), (5, vi v5), (6, vi v6)] [vi (1 : Int32)] q1.2)
    else bd X d 124 29 [(0, vr v0), (2, vi v2), (3, vi v3), (4, vi v4), (5, vi v5), (6, vi v6)] [] q1.2)
  else bd X d 124 29 [(0, vr v0), (2, vi v2), (3, vi v3), (4, vi v4), (5, vi v5), (6, vi v6)] [] h :=
  (av_bd_eq av_Sg p_124 _ _ _ _ _).trans rfl
set_option maxRecDepth 100000 in
theorem b_124_29 (d : Nat) (v0 : Option Nat) (v2 : Int32) (v3 : Int32) (v4 : Int32) (v5 : Int32) (v6 : Int32) (h : av_H) : bd X d 124 29 [(0, vr v0), (2, vi v2), (3, vi v3), (4, vi v4), (5, vi v5), (6, vi v6)] [] h =
  bd X d 124 30 [(0, vr v0), (2, vi v2), (3, vi v3), (4, vi v4), (5, vi v5), (6, vi v6)] [vi (0 : Int32)] h :=
  (av_bd_eq av_Sg p_124 _ _ _ _ _).trans rfl
set_option maxRecDepth 100000 in
theorem b_124_30 (d : Nat) (v0 : Option Nat) (v2 : Int32) (v3 : Int32) (v4 : Int32) (v5 : Int32) (v6 : Int32) (s0 : Int32) (h : av_H) : bd X d 124 30 [(0, vr v0), (2, vi v2), (3, vi v3), (4, vi v4), (5, vi v5), (6, vi v6)] [vi s0] h =
  if s0 = 0 then
    (bd X d 124 14 [(0, vr v0), (2, vi v2), (3, vi v3), (4, vi v4), (5, vi v5), (6, vi (v6 + (1 : Int32)))] [] h)
  else if av_is h v0 9 = true then (
  (av_cI (ev X d 122 [vr v0, vi v6] h)).bind fun q1 =>
  if (v3 &&& (q1.1 ^^^ (-1 : Int32))) = 0 then
    ((av_cI (ev X d 377 [vi v6] q1.2)).bind fun q2 =>
    bd X d 124 14 [(0, vr v0), (2, vi v2), (3, vi v3), (4, vi v6), (5, vi (q2.1)), (6, vi (v6 + (1 : Int32)))] [] q2.2)
  else bd X d 124 14 [(0, vr v0), (2, vi v2), (3, vi v3), (4, vi v4), (5, vi v5), (6, vi (v6 + (1 : Int32)))] [] q1.2) else none :=
  (av_bd_eq av_Sg p_124 _ _ _ _ _).trans rfl
theorem e_124 (d : Nat) (v0 : Option Nat) (v1 : Int32) (h : av_H) : ev X (d + 1) 124 [vr v0, vi v1] h = bd X d 124 0 [(0, vr v0), (1, vi v1)] [] h := av_ev_eq av_Sg p_124 d _ h rfl
/-! 125 = X9_withBit -/
set_option maxRecDepth 100000 in
theorem b_125_0 (d : Nat) (v0 : Int32) (v1 : Int32) (v2 : Int32) (h : av_H) : bd X d 125 0 [(0, vi v0), (1, vi v1), (2, vi v2)] [] h =
  if v2 = 0 then
    (av_rI (v0 &&& (((1 : Int32) <<< (v1 &&& 31)) ^^^ (-1 : Int32))) h)
  else av_rI (v0 ||| ((1 : Int32) <<< (v1 &&& 31))) h :=
  (av_bd_eq av_Sg p_125 _ _ _ _ _).trans rfl
theorem e_125 (d : Nat) (v0 : Int32) (v1 : Int32) (v2 : Int32) (h : av_H) : ev X (d + 1) 125 [vi v0, vi v1, vi v2] h = bd X d 125 0 [(0, vi v0), (1, vi v1), (2, vi v2)] [] h := av_ev_eq av_Sg p_125 d _ h rfl
/-! 377 = J6_bitCount_0f7a4 -/
set_option maxRecDepth 100000 in
theorem b_377_0 (d : Nat) (v0 : Int32) (h : av_H) : bd X d 377 0 [(0, vi v0)] [] h =
  av_rI ((((((((v0 - (((v0.toUInt32 >>> ((1 : Int32).toUInt32 &&& Int32.toUInt32 31)).toInt32) &&& (1431655765 : Int32))) &&& (858993459 : Int32)) + ((((v0 - (((v0.toUInt32 >>> ((1 : Int32).toUInt32 &&& Int32.toUInt32 31)).toInt32) &&& (1431655765 : Int32))).toUInt32 >>> ((2 : Int32).toUInt32 &&& Int32.toUInt32 31)).toInt32) &&& (858993459 : Int32))) + (((((v0 - (((v0.toUInt32 >>> ((1 : Int32).toUInt32 &&& Int32.toUInt32 31)).toInt32) &&& (1431655765 : Int32))) &&& (858993459 : Int32)) + ((((v0 - (((v0.toUInt32 >>> ((1 : Int32).toUInt32 &&& Int32.toUInt32 31)).toInt32) &&& (1431655765 : Int32))).toUInt32 >>> ((2 : Int32).toUInt32 &&& Int32.toUInt32 31)).toInt32) &&& (858993459 : Int32))).toUInt32 >>> ((4 : Int32).toUInt32 &&& Int32.toUInt32 31)).toInt32)) &&& (252645135 : Int32)) + (((((((v0 - (((v0.toUInt32 >>> ((1 : Int32).toUInt32 &&& Int32.toUInt32 31)).toInt32) &&& (1431655765 : Int32))) &&& (858993459 : Int32)) + ((((v0 - (((v0.toUInt32 >>> ((1 : Int32).toUInt32 &&& Int32.toUInt32 31)).toInt32) &&& (1431655765 : Int32))).toUInt32 >>> ((2 : Int32).toUInt32 &&& Int32.toUInt32 31)).toInt32) &&& (858993459 : Int32))) + (((((v0 - (((v0.toUInt32 >>> ((1 : Int32).toUInt32 &&& Int32.toUInt32 31)).toInt32) &&& (1431655765 : Int32))) &&& (858993459 : Int32)) + ((((v0 - (((v0.toUInt32 >>> ((1 : Int32).toUInt32 &&& Int32.toUInt32 31)).toInt32) &&& (1431655765 : Int32))).toUInt32 >>> ((2 : Int32).toUInt32 &&& Int32.toUInt32 31)).toInt32) &&& (858993459 : Int32))).toUInt32 >>> ((4 : Int32).toUInt32 &&& Int32.toUInt32 31)).toInt32)) &&& (252645135 : Int32)).toUInt32 >>> ((8 : Int32).toUInt32 &&& Int32.toUInt32 31)).toInt32)) + ((((((((v0 - (((v0.toUInt32 >>> ((1 : Int32).toUInt32 &&& Int32.toUInt32 31)).toInt32) &&& (1431655765 : Int32))) &&& (858993459 : Int32)) + ((((v0 - (((v0.toUInt32 >>> ((1 : Int32).toUInt32 &&& Int32.toUInt32 31)).toInt32) &&& (1431655765 : Int32))).toUInt32 >>> ((2 : Int32).toUInt32 &&& Int32.toUInt32 31)).toInt32) &&& (858993459 : Int32))) + (((((v0 - (((v0.toUInt32 >>> ((1 : Int32).toUInt32 &&& Int32.toUInt32 31)).toInt32) &&& (1431655765 : Int32))) &&& (858993459 : Int32)) + ((((v0 - (((v0.toUInt32 >>> ((1 : Int32).toUInt32 &&& Int32.toUInt32 31)).toInt32) &&& (1431655765 : Int32))).toUInt32 >>> ((2 : Int32).toUInt32 &&& Int32.toUInt32 31)).toInt32) &&& (858993459 : Int32))).toUInt32 >>> ((4 : Int32).toUInt32 &&& Int32.toUInt32 31)).toInt32)) &&& (252645135 : Int32)) + (((((((v0 - (((v0.toUInt32 >>> ((1 : Int32).toUInt32 &&& Int32.toUInt32 31)).toInt32) &&& (1431655765 : Int32))) &&& (858993459 : Int32)) + ((((v0 - (((v0.toUInt32 >>> ((1 : Int32).toUInt32 &&& Int32.toUInt32 31)).toInt32) &&& (1431655765 : Int32))).toUInt32 >>> ((2 : Int32).toUInt32 &&& Int32.toUInt32 31)).toInt32) &&& (858993459 : Int32))) + (((((v0 - (((v0.toUInt32 >>> ((1 : Int32).toUInt32 &&& Int32.toUInt32 31)).toInt32) &&& (1431655765 : Int32))) &&& (858993459 : Int32)) + ((((v0 - (((v0.toUInt32 >>> ((1 : Int32).toUInt32 &&& Int32.toUInt32 31)).toInt32) &&& (1431655765 : Int32))).toUInt32 >>> ((2 : Int32).toUInt32 &&& Int32.toUInt32 31)).toInt32) &&& (858993459 : Int32))).toUInt32 >>> ((4 : Int32).toUInt32 &&& Int32.toUInt32 31)).toInt32)) &&& (252645135 : Int32)).toUInt32 >>> ((8 : Int32).toUInt32 &&& Int32.toUInt32 31)).toInt32)).toUInt32 >>> ((16 : Int32).toUInt32 &&& Int32.toUInt32 31)).toInt32)) &&& (63 : Int32)) h :=
  (av_bd_eq av_Sg p_377 _ _ _ _ _).trans rfl
theorem e_377 (d : Nat) (v0 : Int32) (h : av_H) : ev X (d + 1) 377 [vi v0] h = bd X d 377 0 [(0, vi v0)] [] h := av_ev_eq av_Sg p_377 d _ h rfl
/-! 378 = J13_bitCount_95d88 -/
set_option maxRecDepth 100000 in
theorem b_378_0 (d : Nat) (v0 : Int64) (h : av_H) : bd X d 378 0 [(0, vl v0)] [] h =
  av_rI ((((((((((v0 - (((v0.toUInt64 >>> ((1 : Int32).toInt64.toUInt64 &&& Int64.toUInt64 63)).toInt64) &&& (6148914691236517205 : Int64))) &&& (3689348814741910323 : Int64)) + ((((v0 - (((v0.toUInt64 >>> ((1 : Int32).toInt64.toUInt64 &&& Int64.toUInt64 63)).toInt64) &&& (6148914691236517205 : Int64))).toUInt64 >>> ((2 : Int32).toInt64.toUInt64 &&& Int64.toUInt64 63)).toInt64) &&& (3689348814741910323 : Int64))) + (((((v0 - (((v0.toUInt64 >>> ((1 : Int32).toInt64.toUInt64 &&& Int64.toUInt64 63)).toInt64) &&& (6148914691236517205 : Int64))) &&& (3689348814741910323 : Int64)) + ((((v0 - (((v0.toUInt64 >>> ((1 : Int32).toInt64.toUInt64 &&& Int64.toUInt64 63)).toInt64) &&& (6148914691236517205 : Int64))).toUInt64 >>> ((2 : Int32).toInt64.toUInt64 &&& Int64.toUInt64 63)).toInt64) &&& (3689348814741910323 : Int64))).toUInt64 >>> ((4 : Int32).toInt64.toUInt64 &&& Int64.toUInt64 63)).toInt64)) &&& (1085102592571150095 : Int64)) + (((((((v0 - (((v0.toUInt64 >>> ((1 : Int32).toInt64.toUInt64 &&& Int64.toUInt64 63)).toInt64) &&& (6148914691236517205 : Int64))) &&& (3689348814741910323 : Int64)) + ((((v0 - (((v0.toUInt64 >>> ((1 : Int32).toInt64.toUInt64 &&& Int64.toUInt64 63)).toInt64) &&& (6148914691236517205 : Int64))).toUInt64 >>> ((2 : Int32).toInt64.toUInt64 &&& Int64.toUInt64 63)).toInt64) &&& (3689348814741910323 : Int64))) + (((((v0 - (((v0.toUInt64 >>> ((1 : Int32).toInt64.toUInt64 &&& Int64.toUInt64 63)).toInt64) &&& (6148914691236517205 : Int64))) &&& (3689348814741910323 : Int64)) + ((((v0 - (((v0.toUInt64 >>> ((1 : Int32).toInt64.toUInt64 &&& Int64.toUInt64 63)).toInt64) &&& (6148914691236517205 : Int64))).toUInt64 >>> ((2 : Int32).toInt64.toUInt64 &&& Int64.toUInt64 63)).toInt64) &&& (3689348814741910323 : Int64))).toUInt64 >>> ((4 : Int32).toInt64.toUInt64 &&& Int64.toUInt64 63)).toInt64)) &&& (1085102592571150095 : Int64)).toUInt64 >>> ((8 : Int32).toInt64.toUInt64 &&& Int64.toUInt64 63)).toInt64)) + ((((((((v0 - (((v0.toUInt64 >>> ((1 : Int32).toInt64.toUInt64 &&& Int64.toUInt64 63)).toInt64) &&& (6148914691236517205 : Int64))) &&& (3689348814741910323 : Int64)) + ((((v0 - (((v0.toUInt64 >>> ((1 : Int32).toInt64.toUInt64 &&& Int64.toUInt64 63)).toInt64) &&& (6148914691236517205 : Int64))).toUInt64 >>> ((2 : Int32).toInt64.toUInt64 &&& Int64.toUInt64 63)).toInt64) &&& (3689348814741910323 : Int64))) + (((((v0 - (((v0.toUInt64 >>> ((1 : Int32).toInt64.toUInt64 &&& Int64.toUInt64 63)).toInt64) &&& (6148914691236517205 : Int64))) &&& (3689348814741910323 : Int64)) + ((((v0 - (((v0.toUInt64 >>> ((1 : Int32).toInt64.toUInt64 &&& Int64.toUInt64 63)).toInt64) &&& (6148914691236517205 : Int64))).toUInt64 >>> ((2 : Int32).toInt64.toUInt64 &&& Int64.toUInt64 63)).toInt64) &&& (3689348814741910323 : Int64))).toUInt64 >>> ((4 : Int32).toInt64.toUInt64 &&& Int64.toUInt64 63)).toInt64)) &&& (1085102592571150095 : Int64)) + (((((((v0 - (((v0.toUInt64 >>> ((1 : Int32).toInt64.toUInt64 &&& Int64.toUInt64 63)).toInt64) &&& (6148914691236517205 : Int64))) &&& (3689348814741910323 : Int64)) + ((((v0 - (((v0.toUInt64 >>> ((1 : Int32).toInt64.toUInt64 &&& Int64.toUInt64 63)).toInt64) &&& (6148914691236517205 : Int64))).toUInt64 >>> ((2 : Int32).toInt64.toUInt64 &&& Int64.toUInt64 63)).toInt64) &&& (3689348814741910323 : Int64))) + (((((v0 - (((v0.toUInt64 >>> ((1 : Int32).toInt64.toUInt64 &&& Int64.toUInt64 63)).toInt64) &&& (6148914691236517205 : Int64))) &&& (3689348814741910323 : Int64)) + ((((v0 - (((v0.toUInt64 >>> ((1 : Int32).toInt64.toUInt64 &&& Int64.toUInt64 63)).toInt64) &&& (6148914691236517205 : Int64))).toUInt64 >>> ((2 : Int32).toInt64.toUInt64 &&& Int64.toUInt64 63)).toInt64) &&& (3689348814741910323 : Int64))).toUInt64 >>> ((4 : Int32).toInt64.toUInt64 &&& Int64.toUInt64 63)).toInt64)) &&& (1085102592571150095 : Int64)).toUInt64 >>> ((8 : Int32).toInt64.toUInt64 &&& Int64.toUInt64 63)).toInt64)).toUInt64 >>> ((16 : Int32).toInt64.toUInt64 &&& Int64.toUInt64 63)).toInt64)) + (((((((((v0 - (((v0.toUInt64 >>> ((1 : Int32).toInt64.toUInt64 &&& Int64.toUInt64 63)).toInt64) &&& (6148914691236517205 : Int64))) &&& (3689348814741910323 : Int64)) + ((((v0 - (((v0.toUInt64 >>> ((1 : Int32).toInt64.toUInt64 &&& Int64.toUInt64 63)).toInt64) &&& (6148914691236517205 : Int64))).toUInt64 >>> ((2 : Int32).toInt64.toUInt64 &&& Int64.toUInt64 63)).toInt64) &&& (3689348814741910323 : Int64))) + (((((v0 - (((v0.toUInt64 >>> ((1 : Int32).toInt64.toUInt64 &&& Int64.toUInt64 63)).toInt64) &&& (6148914691236517205 : Int64))) &&& (3689348814741910323 : Int64)) + ((((v0 - (((v0.toUInt64 >>> ((1 : Int32).toInt64.toUInt64 &&& Int64.toUInt64 63)).toInt64) &&& (6148914691236517205 : Int64))).toUInt64 >>> ((2 : Int32).toInt64.toUInt64 &&& Int64.toUInt64 63)).toInt64) &&& (3689348814741910323 : Int64))).toUInt64 >>> ((4 : Int32).toInt64.toUInt64 &&& Int64.toUInt64 63)).toInt64)) &&& (1085102592571150095 : Int64)) + (((((((v0 - (((v0.toUInt64 >>> ((1 : Int32).toInt64.toUInt64 &&& Int64.toUInt64 63)).toInt64) &&& (6148914691236517205 : Int64))) &&& (3689348814741910323 : Int64)) + ((((v0 - (((v0.toUInt64 >>> ((1 : Int32).toInt64.toUInt64 &&& Int64.toUInt64 63)).toInt64) &&& (6148914691236517205 : Int64))).toUInt64 >>> ((2 : Int32).toInt64.toUInt64 &&& Int64.toUInt64 63)).toInt64) &&& (3689348814741910323 : Int64))) + (((((v0 - (((v0.toUInt64 >>> ((1 : Int32).toInt64.toUInt64 &&& Int64.toUInt64 63)).toInt64) &&& (6148914691236517205 : Int64))) &&& (3689348814741910323 : Int64)) + ((((v0 - (((v0.toUInt64 >>> ((1 : Int32).toInt64.toUInt64 &&& Int64.toUInt64 63)).toInt64) &&& (6148914691236517205 : Int64))).toUInt64 >>> ((2 : Int32).toInt64.toUInt64 &&& Int64.toUInt64 63)).toInt64) &&& (3689348814741910323 : Int64))).toUInt64 >>> ((4 : Int32).toInt64.toUInt64 &&& Int64.toUInt64 63)).toInt64)) &&& (1085102592571150095 : Int64)).toUInt64 >>> ((8 : Int32).toInt64.toUInt64 &&& Int64.toUInt64 63)).toInt64)) + ((((((((v0 - (((v0.toUInt64 >>> ((1 : Int32).toInt64.toUInt64 &&& Int64.toUInt64 63)).toInt64) &&& (6148914691236517205 : Int64))) &&& (3689348814741910323 : Int64)) + ((((v0 - (((v0.toUInt64 >>> ((1 : Int32).toInt64.toUInt64 &&& Int64.toUInt64 63)).toInt64) &&& (6148914691236517205 : Int64))).toUInt64 >>> ((2 : Int32).toInt64.toUInt64 &&& Int64.toUInt64 63)).toInt64) &&& (3689348814741910323 : Int64))) + (((((v0 - (((v0.toUInt64 >>> ((1 : Int32).toInt64.toUInt64 &&& Int64.toUInt64 63)).toInt64) &&& (6148914691236517205 : Int64))) &&& (3689348814741910323 : Int64)) + ((((v0 - (((v0.toUInt64 >>> ((1 : Int32).toInt64.toUInt64 &&& Int64.toUInt64 63)).toInt64) &&& (6148914691236517205 : Int64))).toUInt64 >>> ((2 : Int32).toInt64.toUInt64 &&& Int64.toUInt64 63)).toInt64) &&& (3689348814741910323 : Int64))).toUInt64 >>> ((4 : Int32).toInt64.toUInt64 &&& Int64.toUInt64 63)).toInt64)) &&& (1085102592571150095 : Int64)) + (((((((v0 - (((v0.toUInt64 >>> ((1 : Int32).toInt64.toUInt64 &&& Int64.toUInt64 63)).toInt64) &&& (6148914691236517205 : Int64))) &&& (3689348814741910323 : Int64)) + ((((v0 - (((v0.toUInt64 >>> ((1 : Int32).toInt64.toUInt64 &&& Int64.toUInt64 63)).toInt64) &&& (6148914691236517205 : Int64))).toUInt64 >>> ((2 : Int32).toInt64.toUInt64 &&& Int64.toUInt64 63)).toInt64) &&& (3689348814741910323 : Int64))) + (((((v0 - (((v0.toUInt64 >>> ((1 : Int32).toInt64.toUInt64 &&& Int64.toUInt64 63)).toInt64) &&& (6148914691236517205 : Int64))) &&& (3689348814741910323 : Int64)) + ((((v0 - (((v0.toUInt64 >>> ((1 : Int32).toInt64.toUInt64 &&& Int64.toUInt64 63)).toInt64) &&& (6148914691236517205 : Int64))).toUInt64 >>> ((2 : Int32).toInt64.toUInt64 &&& Int64.toUInt64 63)).toInt64) &&& (3689348814741910323 : Int64))).toUInt64 >>> ((4 : Int32).toInt64.toUInt64 &&& Int64.toUInt64 63)).toInt64)) &&& (1085102592571150095 : Int64)).toUInt64 >>> ((8 : Int32).toInt64.toUInt64 &&& Int64.toUInt64 63)).toInt64)).toUInt64 >>> ((16 : Int32).toInt64.toUInt64 &&& Int64.toUInt64 63)).toInt64)).toUInt64 >>> ((32 : Int32).toInt64.toUInt64 &&& Int64.toUInt64 63)).toInt64)).toInt32) &&& (127 : Int32)) h :=
  (av_bd_eq av_Sg p_378 _ _ _ _ _).trans rfl
theorem e_378 (d : Nat) (v0 : Int64) (h : av_H) : ev X (d + 1) 378 [vl v0] h = bd X d 378 0 [(0, vl v0)] [] h := av_ev_eq av_Sg p_378 d _ h rfl
/-! 379 = J9_max_7cf53 -/
set_option maxRecDepth 100000 in
theorem b_379_0 (d : Nat) (v0 : Int32) (v1 : Int32) (h : av_H) : bd X d 379 0 [(0, vi v0), (1, vi v1)] [] h =
  if v0 < v1 then
    (av_rI v1 h)
  else av_rI v0 h :=
  (av_bd_eq av_Sg p_379 _ _ _ _ _).trans rfl
theorem e_379 (d : Nat) (v0 : Int32) (v1 : Int32) (h : av_H) : ev X (d + 1) 379 [vi v0, vi v1] h = bd X d 379 0 [(0, vi v0), (1, vi v1)] [] h := av_ev_eq av_Sg p_379 d _ h rfl
/-! 380 = J9_max_f86c9 -/
set_option maxRecDepth 100000 in
theorem b_380_0 (d : Nat) (v0 : Int64) (v2 : Int64) (h : av_H) : bd X d 380 0 [(0, vl v0), (2, vl v2)] [] h =
  if (lg_cmp v0 v2) < 0 then
    (av_rL v2 h)
  else av_rL v0 h :=
  (av_bd_eq av_Sg p_380 _ _ _ _ _).trans rfl
theorem e_380 (d : Nat) (v0 : Int64) (v2 : Int64) (h : av_H) : ev X (d + 1) 380 [vl v0, vl v2] h = bd X d 380 0 [(0, vl v0), (2, vl v2)] [] h := av_ev_eq av_Sg p_380 d _ h rfl
/-! 381 = J9_min_7cf53 -/
set_option maxRecDepth 100000 in
theorem b_381_0 (d : Nat) (v0 : Int32) (v1 : Int32) (h : av_H) : bd X d 381 0 [(0, vi v0), (1, vi v1)] [] h =
  if v1 < v0 then
    (av_rI v1 h)
  else av_rI v0 h :=
  (av_bd_eq av_Sg p_381 _ _ _ _ _).trans rfl
theorem e_381 (d : Nat) (v0 : Int32) (v1 : Int32) (h : av_H) : ev X (d + 1) 381 [vi v0, vi v1] h = bd X d 381 0 [(0, vi v0), (1, vi v1)] [] h := av_ev_eq av_Sg p_381 d _ h rfl
/-! 382 = J7_fill_d0a16 -/
set_option maxRecDepth 100000 in
theorem b_382_0 (d : Nat) (v0 : Option Nat) (v1 : Int64) (h : av_H) : bd X d 382 0 [(0, vr v0), (1, vl v1)] [] h =
  (av_len X h v0).bind fun x1 =>
  bd X d 382 5 [(0, vr v0), (1, vl v1), (3, vi (0 : Int32)), (4, vi x1)] [] h :=
  (av_bd_eq av_Sg p_382 _ _ _ _ _).trans rfl
set_option maxRecDepth 100000 in
theorem b_382_5 (d : Nat) (v0 : Option Nat) (v1 : Int64) (v3 : Int32) (v4 : Int32) (h : av_H) : bd X d 382 5 [(0, vr v0), (1, vl v1), (3, vi v3), (4, vi v4)] [] h =
  if v3 < v4 then
    ((av_sL h v0 v3 v1).bind fun g1 =>
    bd X d 382 5 [(0, vr v0), (1, vl v1), (3, vi (v3 + (1 : Int32))), (4, vi v4)] [] g1)
  else av_rV h :=
  (av_bd_eq av_Sg p_382 _ _ _ _ _).trans rfl
theorem e_382 (d : Nat) (v0 : Option Nat) (v1 : Int64) (h : av_H) : ev X (d + 1) 382 [vr v0, vl v1] h = bd X d 382 0 [(0, vr v0), (1, vl v1)] [] h := av_ev_eq av_Sg p_382 d _ h rfl
/-! 383 = J7_fill_53178 -/
set_option maxRecDepth 100000 in
theorem b_383_0 (d : Nat) (v0 : Option Nat) (v1 : Int32) (h : av_H) : bd X d 383 0 [(0, vr v0), (1, vi v1)] [] h =
  (av_len X h v0).bind fun x1 =>
  bd X d 383 5 [(0, vr v0), (1, vi v1), (2, vi (0 : Int32)), (3, vi x1)] [] h :=
  (av_bd_eq av_Sg p_383 _ _ _ _ _).trans rfl
set_option maxRecDepth 100000 in
theorem b_383_5 (d : Nat) (v0 : Option Nat) (v1 : Int32) (v2 : Int32) (v3 : Int32) (h : av_H) : bd X d 383 5 [(0, vr v0), (1, vi v1), (2, vi v2), (3, vi v3)] [] h =
  if v2 < v3 then
    ((av_sI h v0 v2 v1).bind fun g1 =>
    bd X d 383 5 [(0, vr v0), (1, vi v1), (2, vi (v2 + (1 : Int32))), (3, vi v3)] [] g1)
  else av_rV h :=
  (av_bd_eq av_Sg p_383 _ _ _ _ _).trans rfl
theorem e_383 (d : Nat) (v0 : Option Nat) (v1 : Int32) (h : av_H) : ev X (d + 1) 383 [vr v0, vi v1] h = bd X d 383 0 [(0, vr v0), (1, vi v1)] [] h := av_ev_eq av_Sg p_383 d _ h rfl
