/-! block equations, by wip/whole/gen/mk.py -/
variable {X : av_X}
/-! 126 = X10_init -/
set_option maxRecDepth 100000 in
theorem b_126_0 (d : Nat) (v0 : Option Nat) (h : av_H) : bd X d 126 0 [(0, vr v0)] [] h =
  if av_is h v0 10 = true then (
  (av_na h 104 (6 : Int32)).bind fun g1 =>
  (av_pR g1 v0 10 0 (some h.1.length)).bind fun g2 =>
  (av_na g2 100 (2400 : Int32)).bind fun g3 =>
  (av_pR g3 v0 10 1 (some g2.1.length)).bind fun g4 =>
  if av_is (av_new g4 8 0) (some g4.1.length) 8 = true then (
  (av_cV (ev X d 111 [vr (some g4.1.length), vi (20 : Int32)] (av_new g4 8 0))).bind fun q5 =>
  (av_pR q5 v0 10 2 (some g4.1.length)).bind fun g6 =>
  if av_is (av_new g6 8 0) (some g6.1.length) 8 = true then (
  (av_cV (ev X d 111 [vr (some g6.1.length), vi (60 : Int32)] (av_new g6 8 0))).bind fun q7 =>
  (av_pR q7 v0 10 3 (some g6.1.length)).bind fun g8 =>
  if av_is (av_new g8 8 0) (some g8.1.length) 8 = true then (
  (av_cV (ev X d 111 [vr (some g8.1.length), vi (12 : Int32)] (av_new g8 8 0))).bind fun q9 =>
  (av_pR q9 v0 10 4 (some g8.1.length)).bind fun g10 =>
  if av_is (av_new g10 8 0) (some g10.1.length) 8 = true then (
  (av_cV (ev X d 111 [vr (some g10.1.length), vi (40 : Int32)] (av_new g10 8 0))).bind fun q11 =>
  (av_pR q11 v0 10 5 (some g10.1.length)).bind fun g12 =>
  if av_is (av_new g12 3 0) (some g12.1.length) 3 = true then (
  (av_cV (ev X d 23 [vr (some g12.1.length)] (av_new g12 3 0))).bind fun q13 =>
  (av_pR q13 v0 10 6 (some g12.1.length)).bind fun g14 =>
  if av_is (av_new g14 5 0) (some g14.1.length) 5 = true then (
  (av_cV (ev X d 68 [vr (some g14.1.length)] (av_new g14 5 0))).bind fun q15 =>
  (av_pR q15 v0 10 7 (some g14.1.length)).bind fun g16 =>
  if av_is (av_new g16 1 0) (some g16.1.length) 1 = true then (
  (av_cV (ev X d 13 [vr (some g16.1.length)] (av_new g16 1 0))).bind fun q17 =>
  (av_pR q17 v0 10 8 (some g16.1.length)).bind fun g18 =>
  if av_is (av_new g18 4 0) (some g18.1.length) 4 = true then (
  (av_cV (ev X d 40 [vr (some g18.1.length)] (av_new g18 4 0))).bind fun q19 =>
  (av_pR q19 v0 10 9 (some g18.1.length)).bind fun g20 =>
  if av_is (av_new g20 7 0) (some g20.1.length) 7 = true then (
  (av_cV (ev X d 103 [vr (some g20.1.length)] (av_new g20 7 0))).bind fun q21 =>
  (av_pR q21 v0 10 10 (some g20.1.length)).bind fun g22 =>
  if av_is (av_new g22 2 0) (some g22.1.length) 2 = true then (
  (av_cV (ev X d 17 [vr (some g22.1.length)] (av_new g22 2 0))).bind fun q23 =>
  (av_pR q23 v0 10 11 (some g22.1.length)).bind fun g24 =>
  (av_na g24 100 (11 : Int32)).bind fun g25 =>
  (av_pR g25 v0 10 12 (some g24.1.length)).bind fun g26 =>
  (av_na g26 105 (60 : Int32)).bind fun g27 =>
  (av_pR g27 v0 10 13 (some g26.1.length)).bind fun g28 =>
  (av_na g28 100 (84 : Int32)).bind fun g29 =>
  (av_pR g29 v0 10 14 (some g28.1.length)).bind fun g30 =>
  if av_is (av_new g30 6 0) (some g30.1.length) 6 = true then (
  (av_cV (ev X d 94 [vr (some g30.1.length)] (av_new g30 6 0))).bind fun q31 =>
  (av_pR q31 v0 10 15 (some g30.1.length)).bind fun g32 =>
  if av_is (av_new g32 6 0) (some g32.1.length) 6 = true then (
  (av_cV (ev X d 94 [vr (some g32.1.length)] (av_new g32 6 0))).bind fun q33 =>
  (av_pR q33 v0 10 16 (some g32.1.length)).bind fun g34 =>
  (av_pI g34 v0 10 17 (0 : Int32)).bind fun g35 =>
  (av_pI g35 v0 10 18 (0 : Int32)).bind fun g36 =>
  bd X d 126 94 [(0, vr v0), (1, vi (0 : Int32))] [] g36) else none) else none) else none) else none) else none) else none) else none) else none) else none) else none) else none) else none) else none :=
  (av_bd_eq av_Sg p_126 _ _ _ _ _).trans rfl
set_option maxRecDepth 100000 in
theorem b_126_94 (d : Nat) (v0 : Option Nat) (v1 : Int32) (h : av_H) : bd X d 126 94 [(0, vr v0), (1, vi v1)] [] h =
  if v1 < (60 : Int32) then
    ((av_gR h v0 10 13).bind fun x1 =>
    if av_is (av_new h 0 0) (some h.1.length) 0 = true then (
    (av_cV (ev X d 0 [vr (some h.1.length)] (av_new h 0 0))).bind fun q2 =>
    (av_sR q2 x1 105 0 v1 (some h.1.length)).bind fun g3 =>
    bd X d 126 94 [(0, vr v0), (1, vi (v1 + (1 : Int32)))] [] g3) else none)
  else av_rV h :=
  (av_bd_eq av_Sg p_126 _ _ _ _ _).trans rfl
theorem e_126 (d : Nat) (v0 : Option Nat) (h : av_H) : ev X (d + 1) 126 [vr v0] h = bd X d 126 0 [(0, vr v0)] [] h := av_ev_eq av_Sg p_126 d _ h rfl
/-! 127 = X10_tower -/
set_option maxRecDepth 100000 in
theorem b_127_0 (d : Nat) (v0 : Option Nat) (v1 : Int32) (v2 : Int32) (v3 : Int32) (h : av_H) : bd X d 127 0 [(0, vr v0), (1, vi v1), (2, vi v2), (3, vi v3)] [] h =
  (av_cI (ev X d 184 [vi v1, vi (6 : Int32)] h)).bind fun q1 =>
  if q1.1 = 0 then
    ((av_bz (0 : Int32)).bind fun w => av_rI w q1.2)
  else (av_gR q1.2 v0 10 0).bind fun x2 =>
  (av_lR q1.2 x2 104 v1).bind fun x3 =>
  if x3.isNone = true then
    ((av_cI (ev X d 183 [vi v2, vi (1 : Int32), vi (12 : Int32)] q1.2)).bind fun q4 =>
    if q4.1 = 0 then
      ((av_bz (0 : Int32)).bind fun w => av_rI w q4.2)
    else (av_cI (ev X d 183 [vi v3, vi (1 : Int32), vi (10 : Int32)] q4.2)).bind fun q5 =>
    if q5.1 = 0 then
      ((av_bz (0 : Int32)).bind fun w => av_rI w q5.2)
    else (av_gR q5.2 v0 10 0).bind fun x6 =>
    if av_is (av_new q5.2 9 0) (some q5.2.1.length) 9 = true then (
    (av_cV (ev X d 116 [vr (some q5.2.1.length), vi v2, vi v3] (av_new q5.2 9 0))).bind fun q7 =>
    (av_sR q7 x6 104 9 v1 (some q5.2.1.length)).bind fun g8 =>
    (av_bz (1 : Int32)).bind fun w => av_rI w g8) else none)
  else (av_bz (0 : Int32)).bind fun w => av_rI w q1.2 :=
  (av_bd_eq av_Sg p_127 _ _ _ _ _).trans rfl
theorem e_127 (d : Nat) (v0 : Option Nat) (v1 : Int32) (v2 : Int32) (v3 : Int32) (h : av_H) : ev X (d + 1) 127 [vr v0, vi v1, vi v2, vi v3] h = bd X d 127 0 [(0, vr v0), (1, vi v1), (2, vi v2), (3, vi v3)] [] h := av_ev_eq av_Sg p_127 d _ h rfl
/-! 128 = X10_block -/
set_option maxRecDepth 100000 in
theorem b_128_0 (d : Nat) (v0 : Option Nat) (v1 : Int32) (v2 : Int32) (v3 : Int32) (v4 : Int32) (v5 : Int32) (h : av_H) : bd X d 128 0 [(0, vr v0), (1, vi v1), (2, vi v2), (3, vi v3), (4, vi v4), (5, vi v5)] [] h =
  if av_is h v0 10 = true then (
  (av_cI (ev X d 194 [vr v0, vi v1, vi v2, vi v3, vi v4] h)).bind fun q1 =>
  if q1.1 = 0 then
    ((av_bz (0 : Int32)).bind fun w => av_rI w q1.2)
  else (av_gR q1.2 v0 10 0).bind fun x2 =>
  (av_lR q1.2 x2 104 v1).bind fun x3 =>
  if av_is q1.2 x3 9 = true then (
  (av_cV (ev X d 117 [vr x3, vi v2, vi v3, vi v4, vi v5] q1.2)).bind fun q4 =>
  (av_bz (1 : Int32)).bind fun w => av_rI w q4) else none) else none :=
  (av_bd_eq av_Sg p_128 _ _ _ _ _).trans rfl
theorem e_128 (d : Nat) (v0 : Option Nat) (v1 : Int32) (v2 : Int32) (v3 : Int32) (v4 : Int32) (v5 : Int32) (h : av_H) : ev X (d + 1) 128 [vr v0, vi v1, vi v2, vi v3, vi v4, vi v5] h = bd X d 128 0 [(0, vr v0), (1, vi v1), (2, vi v2), (3, vi v3), (4, vi v4), (5, vi v5)] [] h := av_ev_eq av_Sg p_128 d _ h rfl
/-! 129 = X10_nest -/
set_option maxRecDepth 100000 in
theorem b_129_0 (d : Nat) (v0 : Option Nat) (v1 : Int32) (v2 : Int32) (v3 : Int32) (v4 : Int32) (v5 : Int32) (v6 : Int32) (h : av_H) : bd X d 129 0 [(0, vr v0), (1, vi v1), (2, vi v2), (3, vi v3), (4, vi v4), (5, vi v5), (6, vi v6)] [] h =
  if av_is h v0 10 = true then (
  (av_cI (ev X d 194 [vr v0, vi v1, vi v2, vi v3, vi v4] h)).bind fun q1 =>
  if q1.1 = 0 then
    ((av_bz (0 : Int32)).bind fun w => av_rI w q1.2)
  else (av_cI (ev X d 188 [vi v5, vi v6] q1.2)).bind fun q2 =>
  if q2.1 = 0 then
    ((av_bz (0 : Int32)).bind fun w => av_rI w q2.2)
  else (av_gR q2.2 v0 10 2).bind fun x3 =>
  (av_cI (ev X d 200 [vi v1, vi v2, vi v3, vi v4] q2.2)).bind fun q4 =>
  if av_is q4.2 x3 8 = true then (
  (av_cI (ev X d 112 [vr x3, vi (q4.1), vi v5, vi v6, vi (0 : Int32), vi (23 : Int32)] q4.2)).bind fun q5 =>
  (av_bz q5.1).bind fun w => av_rI w q5.2) else none) else none :=
  (av_bd_eq av_Sg p_129 _ _ _ _ _).trans rfl
theorem e_129 (d : Nat) (v0 : Option Nat) (v1 : Int32) (v2 : Int32) (v3 : Int32) (v4 : Int32) (v5 : Int32) (v6 : Int32) (h : av_H) : ev X (d + 1) 129 [vr v0, vi v1, vi v2, vi v3, vi v4, vi v5, vi v6] h = bd X d 129 0 [(0, vr v0), (1, vi v1), (2, vi v2), (3, vi v3), (4, vi v4), (5, vi v5), (6, vi v6)] [] h := av_ev_eq av_Sg p_129 d _ h rfl
/-! 130 = X10_rail -/
set_option maxRecDepth 100000 in
theorem b_130_0 (d : Nat) (v0 : Option Nat) (v1 : Int32) (v2 : Int32) (v3 : Int32) (v4 : Int32) (h : av_H) : bd X d 130 0 [(0, vr v0), (1, vi v1), (2, vi v2), (3, vi v3), (4, vi v4)] [] h =
  if av_is h v0 10 = true then (
  (av_cI (ev X d 193 [vr v0, vi v1, vi v2, vi v3] h)).bind fun q1 =>
  if q1.1 = 0 then
    ((av_bz (0 : Int32)).bind fun w => av_rI w q1.2)
  else (av_gR q1.2 v0 10 0).bind fun x2 =>
  (av_lR q1.2 x2 104 v1).bind fun x3 =>
  if av_is q1.2 x3 9 = true then (
  (av_cV (ev X d 120 [vr x3, vi v2, vi v3, vi v4] q1.2)).bind fun q4 =>
  (av_bz (1 : Int32)).bind fun w => av_rI w q4) else none) else none :=
  (av_bd_eq av_Sg p_130 _ _ _ _ _).trans rfl
theorem e_130 (d : Nat) (v0 : Option Nat) (v1 : Int32) (v2 : Int32) (v3 : Int32) (v4 : Int32) (h : av_H) : ev X (d + 1) 130 [vr v0, vi v1, vi v2, vi v3, vi v4] h = bd X d 130 0 [(0, vr v0), (1, vi v1), (2, vi v2), (3, vi v3), (4, vi v4)] [] h := av_ev_eq av_Sg p_130 d _ h rfl
/-! 131 = X10_cradle -/
set_option maxRecDepth 100000 in
theorem b_131_0 (d : Nat) (v0 : Option Nat) (v1 : Int32) (v2 : Int32) (v3 : Int32) (h : av_H) : bd X d 131 0 [(0, vr v0), (1, vi v1), (2, vi v2), (3, vi v3)] [] h =
  if av_is h v0 10 = true then (
  (av_cI (ev X d 192 [vr v0, vi v1] h)).bind fun q1 =>
  if q1.1 = 0 then
    ((av_bz (0 : Int32)).bind fun w => av_rI w q1.2)
  else (av_cI (ev X d 183 [vi v2, vi (1 : Int32), vi (4 : Int32)] q1.2)).bind fun q2 =>
  if q2.1 = 0 then
    ((av_bz (0 : Int32)).bind fun w => av_rI w q2.2)
  else (av_cI (ev X d 183 [vi v3, vi (1 : Int32), vi (9999 : Int32)] q2.2)).bind fun q3 =>
  if q3.1 = 0 then
    ((av_bz (0 : Int32)).bind fun w => av_rI w q3.2)
  else (av_gR q3.2 v0 10 0).bind fun x4 =>
  (av_lR q3.2 x4 104 v1).bind fun x5 =>
  (av_pI q3.2 x5 9 2 v2).bind fun g6 =>
  (av_pI g6 x5 9 3 v3).bind fun g7 =>
  (av_pI g7 x5 9 4 (0 : Int32)).bind fun g8 =>
  (av_bz (1 : Int32)).bind fun w => av_rI w g8) else none :=
  (av_bd_eq av_Sg p_131 _ _ _ _ _).trans rfl
theorem e_131 (d : Nat) (v0 : Option Nat) (v1 : Int32) (v2 : Int32) (v3 : Int32) (h : av_H) : ev X (d + 1) 131 [vr v0, vi v1, vi v2, vi v3] h = bd X d 131 0 [(0, vr v0), (1, vi v1), (2, vi v2), (3, vi v3)] [] h := av_ev_eq av_Sg p_131 d _ h rfl
/-! 132 = X10_wind -/
set_option maxRecDepth 100000 in
theorem b_132_0 (d : Nat) (v0 : Option Nat) (v1 : Int32) (v2 : Int32) (v3 : Int32) (v4 : Int32) (h : av_H) : bd X d 132 0 [(0, vr v0), (1, vi v1), (2, vi v2), (3, vi v3), (4, vi v4)] [] h =
  (av_cI (ev X d 186 [vi v1] h)).bind fun q1 =>
  if q1.1 = 0 then
    ((av_bz (0 : Int32)).bind fun w => av_rI w q1.2)
  else (av_cI (ev X d 187 [vi v2] q1.2)).bind fun q2 =>
  if q2.1 = 0 then
    ((av_bz (0 : Int32)).bind fun w => av_rI w q2.2)
  else (av_cI (ev X d 189 [vi v3] q2.2)).bind fun q3 =>
  if q3.1 = 0 then
    ((av_bz (0 : Int32)).bind fun w => av_rI w q3.2)
  else (av_cI (ev X d 183 [vi v4, vi (0 : Int32), vi (99 : Int32)] q3.2)).bind fun q4 =>
  if q4.1 = 0 then
    ((av_bz (0 : Int32)).bind fun w => av_rI w q4.2)
  else (av_gR q4.2 v0 10 1).bind fun x5 =>
  (av_gR q4.2 v0 10 1).bind fun x6 =>
  (av_lI X q4.2 x6 ((v2 * (24 : Int32)) + v3)).bind fun x7 =>
  (av_sI q4.2 x5 ((v2 * (24 : Int32)) + v3) ((x7 &&& (((127 : Int32) <<< ((v1 * (8 : Int32)) &&& 31)) ^^^ (-1 : Int32))) ||| (v4 <<< ((v1 * (8 : Int32)) &&& 31)))).bind fun g8 =>
  (av_bz (1 : Int32)).bind fun w => av_rI w g8 :=
  (av_bd_eq av_Sg p_132 _ _ _ _ _).trans rfl
theorem e_132 (d : Nat) (v0 : Option Nat) (v1 : Int32) (v2 : Int32) (v3 : Int32) (v4 : Int32) (h : av_H) : ev X (d + 1) 132 [vr v0, vi v1, vi v2, vi v3, vi v4] h = bd X d 132 0 [(0, vr v0), (1, vi v1), (2, vi v2), (3, vi v3), (4, vi v4)] [] h := av_ev_eq av_Sg p_132 d _ h rfl
/-! 133 = X10_leave -/
set_option maxRecDepth 100000 in
theorem b_133_0 (d : Nat) (v0 : Option Nat) (v1 : Int32) (v2 : Int32) (v3 : Int32) (v4 : Int32) (h : av_H) : bd X d 133 0 [(0, vr v0), (1, vi v1), (2, vi v2), (3, vi v3), (4, vi v4)] [] h =
  if av_is h v0 10 = true then (
  (av_cI (ev X d 192 [vr v0, vi v1] h)).bind fun q1 =>
  if q1.1 = 0 then
    ((av_bz (0 : Int32)).bind fun w => av_rI w q1.2)
  else (av_cI (ev X d 187 [vi v2] q1.2)).bind fun q2 =>
  if q2.1 = 0 then
    ((av_bz (0 : Int32)).bind fun w => av_rI w q2.2)
  else (av_cI (ev X d 190 [vi v3, vi v4] q2.2)).bind fun q3 =>
  if q3.1 = 0 then
    ((av_bz (0 : Int32)).bind fun w => av_rI w q3.2)
  else (av_gR q3.2 v0 10 3).bind fun x4 =>
  if av_is q3.2 x4 8 = true then (
  (av_cI (ev X d 112 [vr x4, vi v1, vi v2, vi v2, vi v3, vi v4] q3.2)).bind fun q5 =>
  (av_bz q5.1).bind fun w => av_rI w q5.2) else none) else none :=
  (av_bd_eq av_Sg p_133 _ _ _ _ _).trans rfl
theorem e_133 (d : Nat) (v0 : Option Nat) (v1 : Int32) (v2 : Int32) (v3 : Int32) (v4 : Int32) (h : av_H) : ev X (d + 1) 133 [vr v0, vi v1, vi v2, vi v3, vi v4] h = bd X d 133 0 [(0, vr v0), (1, vi v1), (2, vi v2), (3, vi v3), (4, vi v4)] [] h := av_ev_eq av_Sg p_133 d _ h rfl
/-! 134 = X10_elder -/
set_option maxRecDepth 100000 in
theorem b_134_0 (d : Nat) (v0 : Option Nat) (v1 : Int32) (v2 : Int32) (h : av_H) : bd X d 134 0 [(0, vr v0), (1, vi v1), (2, vi v2)] [] h =
  (av_cI (ev X d 191 [vi v1] h)).bind fun q1 =>
  if q1.1 = 0 then
    ((av_bz (0 : Int32)).bind fun w => av_rI w q1.2)
  else (av_gR q1.2 v0 10 6).bind fun x2 =>
  if av_is q1.2 x2 3 = true then (
  (av_cV (ev X d 24 [vr x2, vi v1, vi v2] q1.2)).bind fun q3 =>
  (av_bz (1 : Int32)).bind fun w => av_rI w q3) else none :=
  (av_bd_eq av_Sg p_134 _ _ _ _ _).trans rfl
theorem e_134 (d : Nat) (v0 : Option Nat) (v1 : Int32) (v2 : Int32) (h : av_H) : ev X (d + 1) 134 [vr v0, vi v1, vi v2] h = bd X d 134 0 [(0, vr v0), (1, vi v1), (2, vi v2)] [] h := av_ev_eq av_Sg p_134 d _ h rfl
/-! 135 = X10_drill -/
set_option maxRecDepth 100000 in
theorem b_135_0 (d : Nat) (v0 : Option Nat) (v1 : Int32) (v2 : Int32) (h : av_H) : bd X d 135 0 [(0, vr v0), (1, vi v1), (2, vi v2)] [] h =
  (av_cI (ev X d 191 [vi v1] h)).bind fun q1 =>
  if q1.1 = 0 then
    ((av_bz (0 : Int32)).bind fun w => av_rI w q1.2)
  else (av_cI (ev X d 187 [vi v2] q1.2)).bind fun q2 =>
  if q2.1 = 0 then
    ((av_bz (0 : Int32)).bind fun w => av_rI w q2.2)
  else (av_gR q2.2 v0 10 6).bind fun x3 =>
  (av_gR q2.2 x3 3 0).bind fun x4 =>
  (av_sI q2.2 x4 v1 v2).bind fun g5 =>
  (av_bz (1 : Int32)).bind fun w => av_rI w g5 :=
  (av_bd_eq av_Sg p_135 _ _ _ _ _).trans rfl
theorem e_135 (d : Nat) (v0 : Option Nat) (v1 : Int32) (v2 : Int32) (h : av_H) : ev X (d + 1) 135 [vr v0, vi v1, vi v2] h = bd X d 135 0 [(0, vr v0), (1, vi v1), (2, vi v2)] [] h := av_ev_eq av_Sg p_135 d _ h rfl
/-! 136 = X10_feed -/
set_option maxRecDepth 100000 in
theorem b_136_0 (d : Nat) (v0 : Option Nat) (v1 : Int64) (v3 : Int64) (v5 : Int64) (h : av_H) : bd X d 136 0 [(0, vr v0), (1, vl v1), (3, vl v3), (5, vl v5)] [] h =
  (av_gR h v0 10 7).bind fun x1 =>
  if av_is h x1 5 = true then (
  (av_cV (ev X d 69 [vr x1, vl v1] h)).bind fun q2 =>
  (av_gR q2 v0 10 7).bind fun x3 =>
  if av_is q2 x3 5 = true then (
  (av_cV (ev X d 69 [vr x3, vl v3] q2)).bind fun q4 =>
  (av_gR q4 v0 10 7).bind fun x5 =>
  if av_is q4 x5 5 = true then (
  (av_cV (ev X d 69 [vr x5, vl v5] q4)).bind fun q6 =>
  (av_gR q6 v0 10 7).bind fun x7 =>
  (av_gI q6 x7 5 0).bind fun x8 =>
  av_rI x8 q6) else none) else none) else none :=
  (av_bd_eq av_Sg p_136 _ _ _ _ _).trans rfl
theorem e_136 (d : Nat) (v0 : Option Nat) (v1 : Int64) (v3 : Int64) (v5 : Int64) (h : av_H) : ev X (d + 1) 136 [vr v0, vl v1, vl v3, vl v5] h = bd X d 136 0 [(0, vr v0), (1, vl v1), (3, vl v3), (5, vl v5)] [] h := av_ev_eq av_Sg p_136 d _ h rfl
/-! 137 = X10_rule -/
set_option maxRecDepth 100000 in
theorem b_137_0 (d : Nat) (v0 : Option Nat) (h : av_H) : bd X d 137 0 [(0, vr v0)] [] h =
  (av_gR h v0 10 7).bind fun x1 =>
  (av_gR h v0 10 16).bind fun x2 =>
  if av_is h x1 5 = true then (
  (av_cI (ev X d 70 [vr x1, vr x2] h)).bind fun q3 =>
  if q3.1 = 0 then
    ((av_gR q3.2 v0 10 15).bind fun x4 =>
    (av_gR q3.2 v0 10 16).bind fun x5 =>
    (av_pR q3.2 v0 10 15 x5).bind fun g6 =>
    (av_pR g6 v0 10 16 x4).bind fun g7 =>
    av_rI q3.1 g7)
  else av_rI q3.1 q3.2) else none :=
  (av_bd_eq av_Sg p_137 _ _ _ _ _).trans rfl
theorem e_137 (d : Nat) (v0 : Option Nat) (h : av_H) : ev X (d + 1) 137 [vr v0] h = bd X d 137 0 [(0, vr v0)] [] h := av_ev_eq av_Sg p_137 d _ h rfl
/-! 138 = X10_reach -/
set_option maxRecDepth 100000 in
theorem b_138_0 (d : Nat) (v0 : Option Nat) (v1 : Int32) (v2 : Int32) (v3 : Int32) (v4 : Int32) (h : av_H) : bd X d 138 0 [(0, vr v0), (1, vi v1), (2, vi v2), (3, vi v3), (4, vi v4)] [] h =
  if av_is h v0 10 = true then (
  (av_cI (ev X d 193 [vr v0, vi v1, vi v2, vi v3] h)).bind fun q1 =>
  if q1.1 = 0 then
    (av_rI (-1 : Int32) q1.2)
  else (av_cI (ev X d 187 [vi v4] q1.2)).bind fun q2 =>
  if q2.1 = 0 then
    (av_rI (-1 : Int32) q2.2)
  else if av_is q2.2 v0 10 = true then (
  (av_cL (ev X d 202 [vr v0, vi v1, vi v2, vi v3, vi v4] q2.2)).bind fun q3 =>
  (av_cI (ev X d 378 [vl (q3.1)] q3.2)).bind fun q4 =>
  av_rI q4.1 q4.2) else none) else none :=
  (av_bd_eq av_Sg p_138 _ _ _ _ _).trans rfl
theorem e_138 (d : Nat) (v0 : Option Nat) (v1 : Int32) (v2 : Int32) (v3 : Int32) (v4 : Int32) (h : av_H) : ev X (d + 1) 138 [vr v0, vi v1, vi v2, vi v3, vi v4] h = bd X d 138 0 [(0, vr v0), (1, vi v1), (2, vi v2), (3, vi v3), (4, vi v4)] [] h := av_ev_eq av_Sg p_138 d _ h rfl
/-! 139 = X10_why -/
set_option maxRecDepth 100000 in
theorem b_139_0 (d : Nat) (v0 : Option Nat) (v1 : Int32) (v2 : Int32) (v3 : Int32) (v4 : Int32) (v5 : Int32) (v6 : Int32) (v7 : Int32) (h : av_H) : bd X d 139 0 [(0, vr v0), (1, vi v1), (2, vi v2), (3, vi v3), (4, vi v4), (5, vi v5), (6, vi v6), (7, vi v7)] [] h =
  if av_is h v0 10 = true then (
  (av_cI (ev X d 203 [vr v0, vi v1, vi v2, vi v3, vi v4, vi v5, vi v6, vi v7] h)).bind fun q1 =>
  av_rI q1.1 q1.2) else none :=
  (av_bd_eq av_Sg p_139 _ _ _ _ _).trans rfl
theorem e_139 (d : Nat) (v0 : Option Nat) (v1 : Int32) (v2 : Int32) (v3 : Int32) (v4 : Int32) (v5 : Int32) (v6 : Int32) (v7 : Int32) (h : av_H) : ev X (d + 1) 139 [vr v0, vi v1, vi v2, vi v3, vi v4, vi v5, vi v6, vi v7] h = bd X d 139 0 [(0, vr v0), (1, vi v1), (2, vi v2), (3, vi v3), (4, vi v4), (5, vi v5), (6, vi v6), (7, vi v7)] [] h := av_ev_eq av_Sg p_139 d _ h rfl
/-! 140 = X10_drop -/
set_option maxRecDepth 100000 in
theorem b_140_0 (d : Nat) (v0 : Option Nat) (v1 : Int32) (v2 : Int32) (v3 : Int32) (v4 : Int32) (v5 : Int32) (v6 : Int32) (v7 : Int32) (h : av_H) : bd X d 140 0 [(0, vr v0), (1, vi v1), (2, vi v2), (3, vi v3), (4, vi v4), (5, vi v5), (6, vi v6), (7, vi v7)] [] h =
  if av_is h v0 10 = true then (
  (av_cI (ev X d 203 [vr v0, vi v1, vi v2, vi v3, vi v4, vi v5, vi v6, vi v7] h)).bind fun q1 =>
  if q1.1 = 0 then
    (if av_is q1.2 v0 10 = true then (
    (av_cI (ev X d 216 [vr v0] q1.2)).bind fun q2 =>
    av_rI q2.1 q2.2) else none)
  else av_rI (-1 : Int32) q1.2) else none :=
  (av_bd_eq av_Sg p_140 _ _ _ _ _).trans rfl
theorem e_140 (d : Nat) (v0 : Option Nat) (v1 : Int32) (v2 : Int32) (v3 : Int32) (v4 : Int32) (v5 : Int32) (v6 : Int32) (v7 : Int32) (h : av_H) : ev X (d + 1) 140 [vr v0, vi v1, vi v2, vi v3, vi v4, vi v5, vi v6, vi v7] h = bd X d 140 0 [(0, vr v0), (1, vi v1), (2, vi v2), (3, vi v3), (4, vi v4), (5, vi v5), (6, vi v6), (7, vi v7)] [] h := av_ev_eq av_Sg p_140 d _ h rfl
/-! 141 = X10_made -/
set_option maxRecDepth 100000 in
theorem b_141_0 (d : Nat) (v0 : Option Nat) (v1 : Int32) (v2 : Int32) (h : av_H) : bd X d 141 0 [(0, vr v0), (1, vi v1), (2, vi v2)] [] h =
  (av_gI h v0 10 17).bind fun x1 =>
  (av_cI (ev X d 184 [vi v1, vi x1] h)).bind fun q2 =>
  if q2.1 = 0 then
    (av_rX (av_new q2.2 12 0))
  else (av_cI (ev X d 183 [vi v2, vi (0 : Int32), vi (11 : Int32)] q2.2)).bind fun q3 =>
  if q3.1 = 0 then
    (av_rX (av_new q3.2 12 0))
  else (av_gR q3.2 v0 10 13).bind fun x4 =>
  (av_lR q3.2 x4 105 v1).bind fun x5 =>
  if v2 = 0 then
    ((av_gI q3.2 x5 0 0).bind fun x6 =>
    av_rI x6 q3.2)
  else if v2 = 1 then
    ((av_gI q3.2 x5 0 1).bind fun x7 =>
    av_rI x7 q3.2)
  else if v2 = 2 then
    ((av_gI q3.2 x5 0 2).bind fun x8 =>
    av_rI x8 q3.2)
  else if v2 = 3 then
    ((av_gI q3.2 x5 0 4).bind fun x9 =>
    av_rI x9 q3.2)
  else if v2 = 4 then
    ((av_gI q3.2 x5 0 5).bind fun x10 =>
    av_rI x10 q3.2)
  else if v2 = 5 then
    ((av_gI q3.2 x5 0 6).bind fun x11 =>
    av_rI x11 q3.2)
  else if v2 = 6 then
    ((av_gI q3.2 x5 0 12).bind fun x12 =>
    av_rI x12 q3.2)
  else if v2 = 7 then
    ((av_gI q3.2 x5 0 15).bind fun x13 =>
    av_rI x13 q3.2)
  else if v2 = 8 then
    ((av_gI q3.2 x5 0 16).bind fun x14 =>
    av_rI x14 q3.2)
  else if v2 = 9 then
    ((av_gI q3.2 x5 0 17).bind fun x15 =>
    av_rI x15 q3.2)
  else if v2 = 10 then
    (if av_is q3.2 v0 10 = true then (
    (av_cI (ev X d 212 [vr v0, vr x5] q3.2)).bind fun q16 =>
    if q16.1 = 0 then
      (av_rI (0 : Int32) q16.2)
    else av_rI (1 : Int32) q16.2) else none)
  else if av_is q3.2 x5 0 = true then (
  (av_cI (ev X d 10 [vr x5] q3.2)).bind fun q17 =>
  av_rI q17.1 q17.2) else none :=
  (av_bd_eq av_Sg p_141 _ _ _ _ _).trans rfl
theorem e_141 (d : Nat) (v0 : Option Nat) (v1 : Int32) (v2 : Int32) (h : av_H) : ev X (d + 1) 141 [vr v0, vi v1, vi v2] h = bd X d 141 0 [(0, vr v0), (1, vi v1), (2, vi v2)] [] h := av_ev_eq av_Sg p_141 d _ h rfl
/-! 142 = X10_washed -/
set_option maxRecDepth 100000 in
theorem b_142_0 (d : Nat) (v0 : Option Nat) (v1 : Int32) (v2 : Int32) (v3 : Int32) (v4 : Int32) (h : av_H) : bd X d 142 0 [(0, vr v0), (1, vi v1), (2, vi v2), (3, vi v3), (4, vi v4)] [] h =
  if av_is h v0 10 = true then (
  (av_cI (ev X d 194 [vr v0, vi v1, vi v2, vi v3, vi v4] h)).bind fun q1 =>
  if q1.1 = 0 then
    (av_rI (-1 : Int32) q1.2)
  else (av_gI q1.2 v0 10 17).bind fun x2 =>
  bd X d 142 14 [(0, vr v0), (1, vi v1), (2, vi v2), (3, vi v3), (4, vi v4), (5, vi (x2 - (1 : Int32)))] [] q1.2) else none :=
  (av_bd_eq av_Sg p_142 _ _ _ _ _).trans rfl
set_option maxRecDepth 100000 in
theorem b_142_14 (d : Nat) (v0 : Option Nat) (v1 : Int32) (v2 : Int32) (v3 : Int32) (v4 : Int32) (v5 : Int32) (h : av_H) : bd X d 142 14 [(0, vr v0), (1, vi v1), (2, vi v2), (3, vi v3), (4, vi v4), (5, vi v5)] [] h =
  if v5 < 0 then
    (av_rI (-1 : Int32) h)
  else (av_gR h v0 10 13).bind fun x1 =>
  (av_lR h x1 105 v5).bind fun x2 =>
  if av_is h x2 0 = true then (
  (av_cI (ev X d 7 [vr x2, vi v1, vi v2, vi v3, vi v4] h)).bind fun q3 =>
  if q3.1 = 0 then
    (bd X d 142 14 [(0, vr v0), (1, vi v1), (2, vi v2), (3, vi v3), (4, vi v4), (5, vi (v5 + (-1 : Int32)))] [] q3.2)
  else (av_gR q3.2 v0 10 13).bind fun x4 =>
  (av_lR q3.2 x4 105 v5).bind fun x5 =>
  (av_gI q3.2 x5 0 4).bind fun x6 =>
  av_rI x6 q3.2) else none :=
  (av_bd_eq av_Sg p_142 _ _ _ _ _).trans rfl
theorem e_142 (d : Nat) (v0 : Option Nat) (v1 : Int32) (v2 : Int32) (v3 : Int32) (v4 : Int32) (h : av_H) : ev X (d + 1) 142 [vr v0, vi v1, vi v2, vi v3, vi v4] h = bd X d 142 0 [(0, vr v0), (1, vi v1), (2, vi v2), (3, vi v3), (4, vi v4)] [] h := av_ev_eq av_Sg p_142 d _ h rfl
/-! 143 = X10_against -/
set_option maxRecDepth 100000 in
theorem b_143_0 (d : Nat) (v0 : Option Nat) (v1 : Int32) (h : av_H) : bd X d 143 0 [(0, vr v0), (1, vi v1)] [] h =
  if v1 = (-1 : Int32) then
    (bd X d 143 12 [(0, vr v0), (1, vi v1), (2, vi (0 : Int32)), (3, vi (0 : Int32))] [] h)
  else (av_cI (ev X d 186 [vi v1] h)).bind fun q1 =>
  if q1.1 = 0 then
    (av_rI (-1 : Int32) q1.2)
  else bd X d 143 12 [(0, vr v0), (1, vi v1), (2, vi (0 : Int32)), (3, vi (0 : Int32))] [] q1.2 :=
  (av_bd_eq av_Sg p_143 _ _ _ _ _).trans rfl
set_option maxRecDepth 100000 in
theorem b_143_12 (d : Nat) (v0 : Option Nat) (v1 : Int32) (v2 : Int32) (v3 : Int32) (h : av_H) : bd X d 143 12 [(0, vr v0), (1, vi v1), (2, vi v2), (3, vi v3)] [] h =
  (av_gI h v0 10 17).bind fun x1 =>
  if v3 < x1 then
    (if v1 = (-1 : Int32) then
      (bd X d 143 26 [(0, vr v0), (1, vi v1), (2, vi v2), (3, vi v3)] [] h)
    else (av_gR h v0 10 13).bind fun x2 =>
    (av_lR h x2 105 v3).bind fun x3 =>
    (av_gI h x3 0 1).bind fun x4 =>
    if x4 = v1 then
      (bd X d 143 26 [(0, vr v0), (1, vi v1), (2, vi v2), (3, vi v3)] [] h)
    else bd X d 143 12 [(0, vr v0), (1, vi v1), (2, vi v2), (3, vi (v3 + (1 : Int32)))] [] h)
  else av_rI v2 h :=
  (av_bd_eq av_Sg p_143 _ _ _ _ _).trans rfl
set_option maxRecDepth 100000 in
theorem b_143_26 (d : Nat) (v0 : Option Nat) (v1 : Int32) (v2 : Int32) (v3 : Int32) (h : av_H) : bd X d 143 26 [(0, vr v0), (1, vi v1), (2, vi v2), (3, vi v3)] [] h =
  (av_gR h v0 10 13).bind fun x1 =>
  (av_lR h x1 105 v3).bind fun x2 =>
  if av_is h v0 10 = true then (
  (av_cI (ev X d 212 [vr v0, vr x2] h)).bind fun q3 =>
  if q3.1 = 0 then
    (bd X d 143 12 [(0, vr v0), (1, vi v1), (2, vi v2), (3, vi (v3 + (1 : Int32)))] [] q3.2)
  else bd X d 143 12 [(0, vr v0), (1, vi v1), (2, vi (v2 + (1 : Int32))), (3, vi (v3 + (1 : Int32)))] [] q3.2) else none :=
  (av_bd_eq av_Sg p_143 _ _ _ _ _).trans rfl
theorem e_143 (d : Nat) (v0 : Option Nat) (v1 : Int32) (h : av_H) : ev X (d + 1) 143 [vr v0, vi v1] h = bd X d 143 0 [(0, vr v0), (1, vi v1)] [] h := av_ev_eq av_Sg p_143 d _ h rfl
/-! 144 = X10_lost -/
set_option maxRecDepth 100000 in
theorem b_144_0 (d : Nat) (v0 : Option Nat) (v1 : Int32) (v2 : Int32) (v3 : Int32) (h : av_H) : bd X d 144 0 [(0, vr v0), (1, vi v1), (2, vi v2), (3, vi v3)] [] h =
  if av_is h v0 10 = true then (
  (av_cI (ev X d 192 [vr v0, vi v1] h)).bind fun q1 =>
  if q1.1 = 0 then
    (av_rI (-1 : Int32) q1.2)
  else (av_cI (ev X d 186 [vi v2] q1.2)).bind fun q2 =>
  if q2.1 = 0 then
    (av_rI (-1 : Int32) q2.2)
  else (av_cI (ev X d 187 [vi v3] q2.2)).bind fun q3 =>
  if q3.1 = 0 then
    (av_rI (-1 : Int32) q3.2)
  else if av_is q3.2 v0 10 = true then (
  (av_cV (ev X d 218 [vr v0, vi v1, vi v2, vi v3] q3.2)).bind fun q4 =>
  bd X d 144 21 [(0, vr v0), (1, vi v1), (2, vi v2), (3, vi v3), (4, vi (0 : Int32)), (5, vi (0 : Int32))] [] q4) else none) else none :=
  (av_bd_eq av_Sg p_144 _ _ _ _ _).trans rfl
set_option maxRecDepth 100000 in
theorem b_144_21 (d : Nat) (v0 : Option Nat) (v1 : Int32) (v2 : Int32) (v3 : Int32) (v4 : Int32) (v5 : Int32) (h : av_H) : bd X d 144 21 [(0, vr v0), (1, vi v1), (2, vi v2), (3, vi v3), (4, vi v4), (5, vi v5)] [] h =
  if v5 < (24 : Int32) then
    ((av_gR h v0 10 3).bind fun x1 =>
    if av_is h x1 8 = true then (
    (av_cI (ev X d 113 [vr x1, vi v1, vi v3, vi v5] h)).bind fun q2 =>
    if q2.1 = 0 then
      (bd X d 144 21 [(0, vr v0), (1, vi v1), (2, vi v2), (3, vi v3), (4, vi v4), (5, vi (v5 + (1 : Int32)))] [] q2.2)
    else if av_is q2.2 v0 10 = true then (
    (av_cV (ev X d 220 [vr v0, vi v2, vi v3, vi v5] q2.2)).bind fun q3 =>
    (av_gR q3 v0 10 15).bind fun x4 =>
    (av_gR q3 v0 10 12).bind fun x5 =>
    if av_is q3 x4 6 = true then (
    (av_cI (ev X d 99 [vr x4, vr x5] q3)).bind fun q6 =>
    if q6.1 = 0 then
      (bd X d 144 21 [(0, vr v0), (1, vi v1), (2, vi v2), (3, vi v3), (4, vi (v4 + (0 : Int32))), (5, vi (v5 + (1 : Int32)))] [] q6.2)
    else bd X d 144 21 [(0, vr v0), (1, vi v1), (2, vi v2), (3, vi v3), (4, vi (v4 + (1 : Int32))), (5, vi (v5 + (1 : Int32)))] [] q6.2) else none) else none) else none)
  else av_rI v4 h :=
  (av_bd_eq av_Sg p_144 _ _ _ _ _).trans rfl
theorem e_144 (d : Nat) (v0 : Option Nat) (v1 : Int32) (v2 : Int32) (v3 : Int32) (h : av_H) : ev X (d + 1) 144 [vr v0, vi v1, vi v2, vi v3] h = bd X d 144 0 [(0, vr v0), (1, vi v1), (2, vi v2), (3, vi v3)] [] h := av_ev_eq av_Sg p_144 d _ h rfl
/-! 145 = X10_late -/
set_option maxRecDepth 100000 in
theorem b_145_0 (d : Nat) (v0 : Option Nat) (v1 : Int32) (v2 : Int32) (v3 : Int32) (v4 : Int32) (h : av_H) : bd X d 145 0 [(0, vr v0), (1, vi v1), (2, vi v2), (3, vi v3), (4, vi v4)] [] h =
  if av_is h v0 10 = true then (
  (av_cI (ev X d 192 [vr v0, vi v1] h)).bind fun q1 =>
  if q1.1 = 0 then
    (av_rI (-1 : Int32) q1.2)
  else (av_cI (ev X d 186 [vi v2] q1.2)).bind fun q2 =>
  if q2.1 = 0 then
    (av_rI (-1 : Int32) q2.2)
  else (av_cI (ev X d 187 [vi v3] q2.2)).bind fun q3 =>
  if q3.1 = 0 then
    (av_rI (-1 : Int32) q3.2)
  else (av_cI (ev X d 183 [vi v4, vi (1 : Int32), vi (99 : Int32)] q3.2)).bind fun q4 =>
  if q4.1 = 0 then
    (av_rI (-1 : Int32) q4.2)
  else bd X d 145 21 [(0, vr v0), (1, vi v1), (2, vi v2), (3, vi v3), (4, vi v4), (5, vi (0 : Int32)), (6, vi (0 : Int32))] [] q4.2) else none :=
  (av_bd_eq av_Sg p_145 _ _ _ _ _).trans rfl
set_option maxRecDepth 100000 in
theorem b_145_21 (d : Nat) (v0 : Option Nat) (v1 : Int32) (v2 : Int32) (v3 : Int32) (v4 : Int32) (v5 : Int32) (v6 : Int32) (h : av_H) : bd X d 145 21 [(0, vr v0), (1, vi v1), (2, vi v2), (3, vi v3), (4, vi v4), (5, vi v5), (6, vi v6)] [] h =
  (av_gR h v0 10 0).bind fun x1 =>
  (av_lR h x1 104 v1).bind fun x2 =>
  (av_gI h x2 9 1).bind fun x3 =>
  if v6 < x3 then
    (if av_is h v0 10 = true then (
    (av_cI (ev X d 221 [vr v0, vi v1, vi v2, vi v6, vi ((v3 - v4) + (1 : Int32)), vi v3] h)).bind fun q4 =>
    (av_cI (ev X d 377 [vi (q4.1)] q4.2)).bind fun q5 =>
    bd X d 145 21 [(0, vr v0), (1, vi v1), (2, vi v2), (3, vi v3), (4, vi v4), (5, vi (v5 + q5.1)), (6, vi (v6 + (1 : Int32)))] [] q5.2) else none)
  else av_rI v5 h :=
  (av_bd_eq av_Sg p_145 _ _ _ _ _).trans rfl
theorem e_145 (d : Nat) (v0 : Option Nat) (v1 : Int32) (v2 : Int32) (v3 : Int32) (v4 : Int32) (h : av_H) : ev X (d + 1) 145 [vr v0, vi v1, vi v2, vi v3, vi v4] h = bd X d 145 0 [(0, vr v0), (1, vi v1), (2, vi v2), (3, vi v3), (4, vi v4)] [] h := av_ev_eq av_Sg p_145 d _ h rfl
/-! 146 = X10_reason -/
set_option maxRecDepth 100000 in
theorem b_146_0 (d : Nat) (v0 : Option Nat) (v1 : Int32) (v2 : Int32) (v3 : Int32) (v4 : Int32) (v5 : Int32) (v6 : Int32) (h : av_H) : bd X d 146 0 [(0, vr v0), (1, vi v1), (2, vi v2), (3, vi v3), (4, vi v4), (5, vi v5), (6, vi v6)] [] h =
  if av_is h v0 10 = true then (
  (av_cI (ev X d 194 [vr v0, vi v1, vi v2, vi v3, vi v4] h)).bind fun q1 =>
  if q1.1 = 0 then
    (av_rI (-1 : Int32) q1.2)
  else (av_cI (ev X d 187 [vi v5] q1.2)).bind fun q2 =>
  if q2.1 = 0 then
    (av_rI (-1 : Int32) q2.2)
  else (av_cI (ev X d 183 [vi v6, vi (1 : Int32), vi (99 : Int32)] q2.2)).bind fun q3 =>
  if q3.1 = 0 then
    (av_rI (-1 : Int32) q3.2)
  else (av_gR q3.2 v0 10 0).bind fun x4 =>
  (av_lR q3.2 x4 104 v1).bind fun x5 =>
  (av_cI (ev X d 379 [vi (0 : Int32), vi ((v5 - v6) + (1 : Int32))] q3.2)).bind fun q6 =>
  if av_is q6.2 x5 9 = true then (
  (av_cI (ev X d 118 [vr x5, vi v2, vi v4] q6.2)).bind fun q7 =>
  (av_cI (ev X d 185 [vi (q7.1), vi v3] q7.2)).bind fun q8 =>
  if q8.1 = 0 then
    (av_rI (1 : Int32) q8.2)
  else if av_is q8.2 v0 10 = true then (
  (av_cI (ev X d 221 [vr v0, vi v1, vi v2, vi v4, vi (q6.1), vi v5] q8.2)).bind fun q9 =>
  (av_cI (ev X d 185 [vi (q9.1), vi v3] q9.2)).bind fun q10 =>
  if q10.1 = 0 then
    (av_rI (0 : Int32) q10.2)
  else if av_is q10.2 x5 9 = true then (
  (av_cI (ev X d 121 [vr x5, vi v2] q10.2)).bind fun q11 =>
  if av_is q11.2 x5 9 = true then (
  (av_cI (ev X d 122 [vr x5, vi (q11.1)] q11.2)).bind fun q12 =>
  (av_cI (ev X d 185 [vi (q12.1), vi v4] q12.2)).bind fun q13 =>
  if q13.1 = 0 then
    (av_rI (2 : Int32) q13.2)
  else (av_cI (ev X d 200 [vi v1, vi v2, vi v3, vi v4] q13.2)).bind fun q14 =>
  if av_is q14.2 v0 10 = true then (
  (av_cI (ev X d 222 [vr v0, vi (q14.1), vi (q6.1), vi v5] q14.2)).bind fun q15 =>
  if q15.1 = 0 then
    (if av_is q15.2 v0 10 = true then (
    (av_cI (ev X d 223 [vr v0, vi (q14.1), vi (q6.1), vi v5] q15.2)).bind fun q16 =>
    if q16.1 = 0 then
      (av_rI (4 : Int32) q16.2)
    else av_rI (5 : Int32) q16.2) else none)
  else av_rI (3 : Int32) q15.2) else none) else none) else none) else none) else none) else none :=
  (av_bd_eq av_Sg p_146 _ _ _ _ _).trans rfl
theorem e_146 (d : Nat) (v0 : Option Nat) (v1 : Int32) (v2 : Int32) (v3 : Int32) (v4 : Int32) (v5 : Int32) (v6 : Int32) (h : av_H) : ev X (d + 1) 146 [vr v0, vi v1, vi v2, vi v3, vi v4, vi v5, vi v6] h = bd X d 146 0 [(0, vr v0), (1, vi v1), (2, vi v2), (3, vi v3), (4, vi v4), (5, vi v5), (6, vi v6)] [] h := av_ev_eq av_Sg p_146 d _ h rfl
/-! 147 = X10_cover -/
set_option maxRecDepth 100000 in
theorem b_147_0 (d : Nat) (v0 : Option Nat) (v1 : Int32) (v2 : Int32) (v3 : Int32) (h : av_H) : bd X d 147 0 [(0, vr v0), (1, vi v1), (2, vi v2), (3, vi v3)] [] h =
  if av_is h v0 10 = true then (
  (av_cI (ev X d 192 [vr v0, vi v1] h)).bind fun q1 =>
  if q1.1 = 0 then
    (av_rI (-1 : Int32) q1.2)
  else (av_cI (ev X d 186 [vi v2] q1.2)).bind fun q2 =>
  if q2.1 = 0 then
    (av_rI (-1 : Int32) q2.2)
  else (av_cI (ev X d 183 [vi v3, vi (0 : Int32), vi (1 : Int32)] q2.2)).bind fun q3 =>
  if q3.1 = 0 then
    (av_rI (-1 : Int32) q3.2)
  else (av_gR q3.2 v0 10 0).bind fun x4 =>
  (av_lR q3.2 x4 104 v1).bind fun x5 =>
  if av_is q3.2 x5 9 = true then (
  (av_cI (ev X d 124 [vr x5, vi v2] q3.2)).bind fun q6 =>
  if q6.1 = (-1 : Int32) then
    (av_rI (-1 : Int32) q6.2)
  else if v3 = 0 then
    ((av_cI (ev X d 377 [vi (q6.1)] q6.2)).bind fun q7 =>
    av_rI q7.1 q7.2)
  else av_rI q6.1 q6.2) else none) else none :=
  (av_bd_eq av_Sg p_147 _ _ _ _ _).trans rfl
theorem e_147 (d : Nat) (v0 : Option Nat) (v1 : Int32) (v2 : Int32) (v3 : Int32) (h : av_H) : ev X (d + 1) 147 [vr v0, vi v1, vi v2, vi v3] h = bd X d 147 0 [(0, vr v0), (1, vi v1), (2, vi v2), (3, vi v3)] [] h := av_ev_eq av_Sg p_147 d _ h rfl
/-! 148 = X10_scratch -/
set_option maxRecDepth 100000 in
theorem b_148_0 (d : Nat) (v0 : Option Nat) (v1 : Int32) (v2 : Int32) (v3 : Int32) (v4 : Int32) (v5 : Int32) (v6 : Int32) (v7 : Int32) (h : av_H) : bd X d 148 0 [(0, vr v0), (1, vi v1), (2, vi v2), (3, vi v3), (4, vi v4), (5, vi v5), (6, vi v6), (7, vi v7)] [] h =
  if av_is h v0 10 = true then (
  (av_cI (ev X d 194 [vr v0, vi v1, vi v2, vi v3, vi v4] h)).bind fun q1 =>
  if q1.1 = 0 then
    (av_rI (-1 : Int32) q1.2)
  else (av_cI (ev X d 188 [vi v5, vi v6] q1.2)).bind fun q2 =>
  if q2.1 = 0 then
    (av_rI (-1 : Int32) q2.2)
  else if v5 = v6 then
    (av_rI (-1 : Int32) q2.2)
  else (av_cI (ev X d 183 [vi v7, vi (0 : Int32), vi (2 : Int32)] q2.2)).bind fun q3 =>
  if q3.1 = 0 then
    (av_rI (-1 : Int32) q3.2)
  else bd X d 148 29 [(0, vr v0), (1, vi v1), (2, vi v2), (3, vi v3), (4, vi v4), (5, vi v5), (6, vi v6), (7, vi v7), (8, vi (0 : Int32)), (9, vi (0 : Int32)), (10, vi (-1 : Int32)), (11, vi (0 : Int32))] [] q3.2) else none :=
  (av_bd_eq av_Sg p_148 _ _ _ _ _).trans rfl
set_option maxRecDepth 100000 in
theorem b_148_29 (d : Nat) (v0 : Option Nat) (v1 : Int32) (v2 : Int32) (v3 : Int32) (v4 : Int32) (v5 : Int32) (v6 : Int32) (v7 : Int32) (v8 : Int32) (v9 : Int32) (v10 : Int32) (v11 : Int32) (h : av_H) : bd X d 148 29 [(0, vr v0), (1, vi v1), (2, vi v2), (3, vi v3), (4, vi v4), (5, vi v5), (6, vi v6), (7, vi v7), (8, vi v8), (9, vi v9), (10, vi v10), (11, vi v11)] [] h =
  (av_gI h v0 10 17).bind fun x1 =>
  if v11 < x1 then
    ((av_gR h v0 10 13).bind fun x2 =>
    (av_lR h x2 105 v11).bind fun x3 =>
    (av_gI h x3 0 4).bind fun x4 =>
    (av_cI (ev X d 183 [vi x4, vi (v5 + (1 : Int32)), vi v6] h)).bind fun q5 =>
    if q5.1 = 0 then
      (bd X d 148 29 [(0, vr v0), (1, vi v1), (2, vi v2), (3, vi v3), (4, vi v4), (5, vi v5), (6, vi v6), (7, vi v7), (8, vi v8), (9, vi v9), (10, vi v10), (11, vi (v11 + (1 : Int32)))] [] q5.2)
    else if av_is q5.2 x3 0 = true then (
    (av_cI (ev X d 7 [vr x3, vi v1, vi v2, vi v3, vi v4] q5.2)).bind fun q6 =>
    if q6.1 = 0 then
      (bd X d 148 29 [(0, vr v0), (1, vi v1), (2, vi v2), (3, vi v3), (4, vi v4), (5, vi v5), (6, vi v6), (7, vi v7), (8, vi v8), (9, vi v9), (10, vi v10), (11, vi (v11 + (1 : Int32)))] [] q6.2)
    else (av_gI q6.2 x3 0 8).bind fun x7 =>
    (av_gI q6.2 x3 0 9).bind fun x8 =>
    bd X d 148 29 [(0, vr v0), (1, vi v1), (2, vi v2), (3, vi v3), (4, vi v4), (5, vi v5), (6, vi v6), (7, vi v7), (8, vi (v8 ||| (((1 : Int32) <<< (x7 &&& 31)) ||| ((1 : Int32) <<< (x8 &&& 31))))), (9, vi (v9 + (1 : Int32))), (10, vi v11), (11, vi (v11 + (1 : Int32)))] [] q6.2) else none)
  else if v7 = 0 then
    (av_rI v8 h)
  else if v7 = (1 : Int32) then
    (av_rI v9 h)
  else av_rI v10 h :=
  (av_bd_eq av_Sg p_148 _ _ _ _ _).trans rfl
theorem e_148 (d : Nat) (v0 : Option Nat) (v1 : Int32) (v2 : Int32) (v3 : Int32) (v4 : Int32) (v5 : Int32) (v6 : Int32) (v7 : Int32) (h : av_H) : ev X (d + 1) 148 [vr v0, vi v1, vi v2, vi v3, vi v4, vi v5, vi v6, vi v7] h = bd X d 148 0 [(0, vr v0), (1, vi v1), (2, vi v2), (3, vi v3), (4, vi v4), (5, vi v5), (6, vi v6), (7, vi v7)] [] h := av_ev_eq av_Sg p_148 d _ h rfl
/-! 149 = X10_bill -/
set_option maxRecDepth 100000 in
theorem b_149_0 (d : Nat) (v0 : Option Nat) (v1 : Int32) (v2 : Int32) (v3 : Int32) (v4 : Int32) (h : av_H) : bd X d 149 0 [(0, vr v0), (1, vi v1), (2, vi v2), (3, vi v3), (4, vi v4)] [] h =
  if v1 = (-1 : Int32) then
    (bd X d 149 7 [(0, vr v0), (1, vi v1), (2, vi v2), (3, vi v3), (4, vi v4)] [] h)
  else if av_is h v0 10 = true then (
  (av_cI (ev X d 192 [vr v0, vi v1] h)).bind fun q1 =>
  if q1.1 = 0 then
    (av_rL (-1 : Int64) q1.2)
  else bd X d 149 7 [(0, vr v0), (1, vi v1), (2, vi v2), (3, vi v3), (4, vi v4)] [] q1.2) else none :=
  (av_bd_eq av_Sg p_149 _ _ _ _ _).trans rfl
set_option maxRecDepth 100000 in
theorem b_149_7 (d : Nat) (v0 : Option Nat) (v1 : Int32) (v2 : Int32) (v3 : Int32) (v4 : Int32) (h : av_H) : bd X d 149 7 [(0, vr v0), (1, vi v1), (2, vi v2), (3, vi v3), (4, vi v4)] [] h =
  (av_cI (ev X d 188 [vi v2, vi v3] h)).bind fun q1 =>
  if q1.1 = 0 then
    (av_rL (-1 : Int64) q1.2)
  else (av_cI (ev X d 183 [vi v4, vi (0 : Int32), vi (4 : Int32)] q1.2)).bind fun q2 =>
  if q2.1 = 0 then
    (av_rL (-1 : Int64) q2.2)
  else bd X d 149 22 [(0, vr v0), (1, vi v1), (2, vi v2), (3, vi v3), (4, vi v4), (5, vl (0 : Int64)), (7, vi (0 : Int32))] [] q2.2 :=
  (av_bd_eq av_Sg p_149 _ _ _ _ _).trans rfl
set_option maxRecDepth 100000 in
theorem b_149_22 (d : Nat) (v0 : Option Nat) (v1 : Int32) (v2 : Int32) (v3 : Int32) (v4 : Int32) (v5 : Int64) (v7 : Int32) (h : av_H) : bd X d 149 22 [(0, vr v0), (1, vi v1), (2, vi v2), (3, vi v3), (4, vi v4), (5, vl v5), (7, vi v7)] [] h =
  (av_gI h v0 10 17).bind fun x1 =>
  if v7 < x1 then
    ((av_gR h v0 10 13).bind fun x2 =>
    (av_lR h x2 105 v7).bind fun x3 =>
    if v1 = (-1 : Int32) then
      (bd X d 149 38 [(0, vr v0), (1, vi v1), (2, vi v2), (3, vi v3), (4, vi v4), (5, vl v5), (7, vi v7), (8, vr x3)] [] h)
    else (av_gI h x3 0 0).bind fun x4 =>
    if x4 = v1 then
      (bd X d 149 38 [(0, vr v0), (1, vi v1), (2, vi v2), (3, vi v3), (4, vi v4), (5, vl v5), (7, vi v7), (8, vr x3)] [] h)
    else bd X d 149 22 [(0, vr v0), (1, vi v1), (2, vi v2), (3, vi v3), (4, vi v4), (5, vl v5), (7, vi (v7 + (1 : Int32)))] [] h)
  else av_rL v5 h :=
  (av_bd_eq av_Sg p_149 _ _ _ _ _).trans rfl
set_option maxRecDepth 100000 in
theorem b_149_38 (d : Nat) (v0 : Option Nat) (v1 : Int32) (v2 : Int32) (v3 : Int32) (v4 : Int32) (v5 : Int64) (v7 : Int32) (v8 : Option Nat) (h : av_H) : bd X d 149 38 [(0, vr v0), (1, vi v1), (2, vi v2), (3, vi v3), (4, vi v4), (5, vl v5), (7, vi v7), (8, vr v8)] [] h =
  (av_gI h v8 0 4).bind fun x1 =>
  (av_cI (ev X d 183 [vi x1, vi v2, vi v3] h)).bind fun q2 =>
  if q2.1 = 0 then
    (bd X d 149 22 [(0, vr v0), (1, vi v1), (2, vi v2), (3, vi v3), (4, vi v4), (5, vl v5), (7, vi (v7 + (1 : Int32)))] [] q2.2)
  else if av_is q2.2 v8 0 = true then (
  (av_cL (ev X d 9 [vr v8, vi v4] q2.2)).bind fun q3 =>
  bd X d 149 22 [(0, vr v0), (1, vi v1), (2, vi v2), (3, vi v3), (4, vi v4), (5, vl (v5 + q3.1)), (7, vi (v7 + (1 : Int32)))] [] q3.2) else none :=
  (av_bd_eq av_Sg p_149 _ _ _ _ _).trans rfl
theorem e_149 (d : Nat) (v0 : Option Nat) (v1 : Int32) (v2 : Int32) (v3 : Int32) (v4 : Int32) (h : av_H) : ev X (d + 1) 149 [vr v0, vi v1, vi v2, vi v3, vi v4] h = bd X d 149 0 [(0, vr v0), (1, vi v1), (2, vi v2), (3, vi v3), (4, vi v4)] [] h := av_ev_eq av_Sg p_149 d _ h rfl
/-! 150 = X10_stands -/
set_option maxRecDepth 100000 in
theorem b_150_0 (d : Nat) (v0 : Option Nat) (v1 : Int32) (v2 : Int32) (h : av_H) : bd X d 150 0 [(0, vr v0), (1, vi v1), (2, vi v2)] [] h =
  if av_is h v0 10 = true then (
  (av_cI (ev X d 192 [vr v0, vi v1] h)).bind fun q1 =>
  if q1.1 = 0 then
    (av_rI (-1 : Int32) q1.2)
  else (av_cI (ev X d 183 [vi v2, vi (1 : Int32), vi (9999 : Int32)] q1.2)).bind fun q2 =>
  if q2.1 = 0 then
    (av_rI (-1 : Int32) q2.2)
  else (av_gR q2.2 v0 10 0).bind fun x3 =>
  (av_lR q2.2 x3 104 v1).bind fun x4 =>
  (av_gI q2.2 x4 9 3).bind fun x5 =>
  (av_gR q2.2 v0 10 0).bind fun x6 =>
  (av_lR q2.2 x6 104 v1).bind fun x7 =>
  (av_gI q2.2 x7 9 4).bind fun x8 =>
  (av_cI (ev X d 379 [vi (0 : Int32), vi (x5 - x8)] q2.2)).bind fun q9 =>
  if v2 = 0 then none else av_rI (q9.1 / v2) q9.2) else none :=
  (av_bd_eq av_Sg p_150 _ _ _ _ _).trans rfl
theorem e_150 (d : Nat) (v0 : Option Nat) (v1 : Int32) (v2 : Int32) (h : av_H) : ev X (d + 1) 150 [vr v0, vi v1, vi v2] h = bd X d 150 0 [(0, vr v0), (1, vi v1), (2, vi v2)] [] h := av_ev_eq av_Sg p_150 d _ h rfl
/-! 151 = X10_want -/
set_option maxRecDepth 100000 in
theorem b_151_0 (d : Nat) (v0 : Option Nat) (v1 : Int32) (v2 : Int32) (h : av_H) : bd X d 151 0 [(0, vr v0), (1, vi v1), (2, vi v2)] [] h =
  (av_cI (ev X d 186 [vi v1] h)).bind fun q1 =>
  if q1.1 = 0 then
    (av_rI (-1 : Int32) q1.2)
  else (av_cI (ev X d 183 [vi v2, vi (1 : Int32), vi (99 : Int32)] q1.2)).bind fun q2 =>
  if q2.1 = 0 then
    (av_rI (-1 : Int32) q2.2)
  else (av_gR q2.2 v0 10 9).bind fun x3 =>
  if av_is q2.2 x3 4 = true then (
  (av_cI (ev X d 43 [vr x3, vi v1, vi v2] q2.2)).bind fun q4 =>
  av_rI q4.1 q4.2) else none :=
  (av_bd_eq av_Sg p_151 _ _ _ _ _).trans rfl
theorem e_151 (d : Nat) (v0 : Option Nat) (v1 : Int32) (v2 : Int32) (h : av_H) : ev X (d + 1) 151 [vr v0, vi v1, vi v2] h = bd X d 151 0 [(0, vr v0), (1, vi v1), (2, vi v2)] [] h := av_ev_eq av_Sg p_151 d _ h rfl
/-! 152 = X10_chance -/
set_option maxRecDepth 100000 in
theorem b_152_0 (d : Nat) (v0 : Option Nat) (v1 : Int32) (v2 : Int32) (v3 : Int32) (h : av_H) : bd X d 152 0 [(0, vr v0), (1, vi v1), (2, vi v2), (3, vi v3)] [] h =
  (av_cI (ev X d 184 [vi v1, vi (5 : Int32)] h)).bind fun q1 =>
  if q1.1 = 0 then
    ((av_bz (0 : Int32)).bind fun w => av_rI w q1.2)
  else (av_cI (ev X d 186 [vi v2] q1.2)).bind fun q2 =>
  if q2.1 = 0 then
    ((av_bz (0 : Int32)).bind fun w => av_rI w q2.2)
  else (av_cI (ev X d 183 [vi v3, vi (0 : Int32), vi (10 : Int32)] q2.2)).bind fun q3 =>
  if q3.1 = 0 then
    ((av_bz (0 : Int32)).bind fun w => av_rI w q3.2)
  else (av_gR q3.2 v0 10 9).bind fun x4 =>
  if av_is q3.2 x4 4 = true then (
  (av_cV (ev X d 44 [vr x4, vi v1, vi v2, vi v3] q3.2)).bind fun q5 =>
  (av_bz (1 : Int32)).bind fun w => av_rI w q5) else none :=
  (av_bd_eq av_Sg p_152 _ _ _ _ _).trans rfl
theorem e_152 (d : Nat) (v0 : Option Nat) (v1 : Int32) (v2 : Int32) (v3 : Int32) (h : av_H) : ev X (d + 1) 152 [vr v0, vi v1, vi v2, vi v3] h = bd X d 152 0 [(0, vr v0), (1, vi v1), (2, vi v2), (3, vi v3)] [] h := av_ev_eq av_Sg p_152 d _ h rfl
/-! 153 = X10_cap -/
set_option maxRecDepth 100000 in
theorem b_153_0 (d : Nat) (v0 : Option Nat) (v1 : Int32) (h : av_H) : bd X d 153 0 [(0, vr v0), (1, vi v1)] [] h =
  (av_cI (ev X d 183 [vi v1, vi (1 : Int32), vi (8 : Int32)] h)).bind fun q1 =>
  if q1.1 = 0 then
    ((av_bz (0 : Int32)).bind fun w => av_rI w q1.2)
  else (av_gR q1.2 v0 10 9).bind fun x2 =>
  if av_is q1.2 x2 4 = true then (
  (av_cV (ev X d 46 [vr x2, vi v1] q1.2)).bind fun q3 =>
  (av_bz (1 : Int32)).bind fun w => av_rI w q3) else none :=
  (av_bd_eq av_Sg p_153 _ _ _ _ _).trans rfl
theorem e_153 (d : Nat) (v0 : Option Nat) (v1 : Int32) (h : av_H) : ev X (d + 1) 153 [vr v0, vi v1] h = bd X d 153 0 [(0, vr v0), (1, vi v1)] [] h := av_ev_eq av_Sg p_153 d _ h rfl
/-! 154 = X10_plan -/
set_option maxRecDepth 100000 in
theorem b_154_0 (d : Nat) (v0 : Option Nat) (v1 : Int32) (v2 : Int32) (v3 : Int32) (h : av_H) : bd X d 154 0 [(0, vr v0), (1, vi v1), (2, vi v2), (3, vi v3)] [] h =
  (av_cI (ev X d 184 [vi v1, vi (5 : Int32)] h)).bind fun q1 =>
  if q1.1 = 0 then
    (av_rX (av_new q1.2 12 0))
  else (av_gR q1.2 v0 10 9).bind fun x2 =>
  (av_gI q1.2 x2 4 0).bind fun x3 =>
  (av_cI (ev X d 184 [vi v2, vi ((1 : Int32) <<< (x3 &&& 31))] q1.2)).bind fun q4 =>
  if q4.1 = 0 then
    (av_rX (av_new q4.2 12 0))
  else (av_cI (ev X d 183 [vi v3, vi (0 : Int32), vi (2 : Int32)] q4.2)).bind fun q5 =>
  if q5.1 = 0 then
    (av_rX (av_new q5.2 12 0))
  else if v3 = (2 : Int32) then
    ((av_gR q5.2 v0 10 9).bind fun x6 =>
    if av_is q5.2 x6 4 = true then (
    (av_cI (ev X d 54 [vr x6, vi v1, vi v2] q5.2)).bind fun q7 =>
    av_rL (q7.1.toInt64) q7.2) else none)
  else (av_gR q5.2 v0 10 9).bind fun x8 =>
  if av_is q5.2 x8 4 = true then (
  (av_cL (ev X d 50 [vr x8, vi v1, vi v2] q5.2)).bind fun q9 =>
  (av_cL (ev X d 41 [vi ((5 : Int32) - v1)] q9.2)).bind fun q10 =>
  (av_cL (ev X d 235 [vl (q9.1), vl (q10.1), vi v3] q10.2)).bind fun q11 =>
  av_rL q11.1 q11.2) else none :=
  (av_bd_eq av_Sg p_154 _ _ _ _ _).trans rfl
theorem e_154 (d : Nat) (v0 : Option Nat) (v1 : Int32) (v2 : Int32) (v3 : Int32) (h : av_H) : ev X (d + 1) 154 [vr v0, vi v1, vi v2, vi v3] h = bd X d 154 0 [(0, vr v0), (1, vi v1), (2, vi v2), (3, vi v3)] [] h := av_ev_eq av_Sg p_154 d _ h rfl
/-! 155 = X10_fixed -/
set_option maxRecDepth 100000 in
theorem b_155_0 (d : Nat) (v0 : Option Nat) (v1 : Int32) (h : av_H) : bd X d 155 0 [(0, vr v0), (1, vi v1)] [] h =
  (av_cI (ev X d 183 [vi v1, vi (0 : Int32), vi (6 : Int32)] h)).bind fun q1 =>
  if q1.1 = 0 then
    (av_rX (av_new q1.2 12 0))
  else (av_gR q1.2 v0 10 9).bind fun x2 =>
  if av_is q1.2 x2 4 = true then (
  (av_cV (ev X d 55 [vr x2] q1.2)).bind fun q3 =>
  if v1 < (2 : Int32) then
    ((av_gR q3 v0 10 9).bind fun x4 =>
    (av_gL q3 x4 4 1).bind fun x5 =>
    (av_cL (ev X d 41 [vi (5 : Int32)] q3)).bind fun q6 =>
    (av_cL (ev X d 235 [vl x5, vl (q6.1), vi v1] q6.2)).bind fun q7 =>
    av_rL q7.1 q7.2)
  else (av_gR q3 v0 10 9).bind fun x8 =>
  if av_is q3 x8 4 = true then (
  (av_cI (ev X d 56 [vr x8, vi (v1 - (2 : Int32))] q3)).bind fun q9 =>
  av_rL (q9.1.toInt64) q9.2) else none) else none :=
  (av_bd_eq av_Sg p_155 _ _ _ _ _).trans rfl
theorem e_155 (d : Nat) (v0 : Option Nat) (v1 : Int32) (h : av_H) : ev X (d + 1) 155 [vr v0, vi v1] h = bd X d 155 0 [(0, vr v0), (1, vi v1)] [] h := av_ev_eq av_Sg p_155 d _ h rfl
/-! 156 = X10_came -/
set_option maxRecDepth 100000 in
theorem b_156_0 (d : Nat) (v0 : Option Nat) (v1 : Int32) (v2 : Int32) (v3 : Int32) (h : av_H) : bd X d 156 0 [(0, vr v0), (1, vi v1), (2, vi v2), (3, vi v3)] [] h =
  (av_cI (ev X d 184 [vi v1, vi (5 : Int32)] h)).bind fun q1 =>
  if q1.1 = 0 then
    ((av_bz (0 : Int32)).bind fun w => av_rI w q1.2)
  else (av_cI (ev X d 186 [vi v2] q1.2)).bind fun q2 =>
  if q2.1 = 0 then
    ((av_bz (0 : Int32)).bind fun w => av_rI w q2.2)
  else (av_gR q2.2 v0 10 9).bind fun x3 =>
  if av_is q2.2 x3 4 = true then (
  (av_cV (ev X d 45 [vr x3, vi v1, vi v2, vi v3] q2.2)).bind fun q4 =>
  (av_bz (1 : Int32)).bind fun w => av_rI w q4) else none :=
  (av_bd_eq av_Sg p_156 _ _ _ _ _).trans rfl
theorem e_156 (d : Nat) (v0 : Option Nat) (v1 : Int32) (v2 : Int32) (v3 : Int32) (h : av_H) : ev X (d + 1) 156 [vr v0, vi v1, vi v2, vi v3] h = bd X d 156 0 [(0, vr v0), (1, vi v1), (2, vi v2), (3, vi v3)] [] h := av_ev_eq av_Sg p_156 d _ h rfl
/-! 157 = X10_hindsight -/
set_option maxRecDepth 100000 in
theorem b_157_0 (d : Nat) (v0 : Option Nat) (v1 : Int32) (h : av_H) : bd X d 157 0 [(0, vr v0), (1, vi v1)] [] h =
  if v1 = 0 then
    ((av_gR h v0 10 9).bind fun x1 =>
    if av_is h x1 4 = true then (
    (av_cI (ev X d 64 [vr x1] h)).bind fun q2 =>
    av_rI q2.1 q2.2) else none)
  else if v1 = 1 then
    ((av_gR h v0 10 9).bind fun x3 =>
    if av_is h x3 4 = true then (
    (av_cI (ev X d 65 [vr x3] h)).bind fun q4 =>
    av_rI q4.1 q4.2) else none)
  else if v1 = 2 then
    ((av_gR h v0 10 9).bind fun x5 =>
    if av_is h x5 4 = true then (
    (av_cI (ev X d 67 [vr x5] h)).bind fun q6 =>
    av_rI q6.1 q6.2) else none)
  else av_rI (-1 : Int32) h :=
  (av_bd_eq av_Sg p_157 _ _ _ _ _).trans rfl
theorem e_157 (d : Nat) (v0 : Option Nat) (v1 : Int32) (h : av_H) : ev X (d + 1) 157 [vr v0, vi v1] h = bd X d 157 0 [(0, vr v0), (1, vi v1)] [] h := av_ev_eq av_Sg p_157 d _ h rfl
/-! 158 = X10_match -/
set_option maxRecDepth 100000 in
theorem b_158_0 (d : Nat) (v0 : Option Nat) (v1 : Int32) (v2 : Int32) (v3 : Int32) (h : av_H) : bd X d 158 0 [(0, vr v0), (1, vi v1), (2, vi v2), (3, vi v3)] [] h =
  (av_cI (ev X d 191 [vi v1] h)).bind fun q1 =>
  if q1.1 = 0 then
    ((av_bz (0 : Int32)).bind fun w => av_rI w q1.2)
  else (av_cI (ev X d 191 [vi v2] q1.2)).bind fun q2 =>
  if q2.1 = 0 then
    ((av_bz (0 : Int32)).bind fun w => av_rI w q2.2)
  else if v1 = v2 then
    ((av_bz (0 : Int32)).bind fun w => av_rI w q2.2)
  else (av_cI (ev X d 183 [vi v3, vi (0 : Int32), vi (99 : Int32)] q2.2)).bind fun q3 =>
  if q3.1 = 0 then
    ((av_bz (0 : Int32)).bind fun w => av_rI w q3.2)
  else (av_gR q3.2 v0 10 6).bind fun x4 =>
  if av_is q3.2 x4 3 = true then (
  (av_cV (ev X d 27 [vr x4, vi v1, vi v2, vi v3] q3.2)).bind fun q5 =>
  (av_bz (1 : Int32)).bind fun w => av_rI w q5) else none :=
  (av_bd_eq av_Sg p_158 _ _ _ _ _).trans rfl
theorem e_158 (d : Nat) (v0 : Option Nat) (v1 : Int32) (v2 : Int32) (v3 : Int32) (h : av_H) : ev X (d + 1) 158 [vr v0, vi v1, vi v2, vi v3] h = bd X d 158 0 [(0, vr v0), (1, vi v1), (2, vi v2), (3, vi v3)] [] h := av_ev_eq av_Sg p_158 d _ h rfl
/-! 159 = X10_gangs -/
set_option maxRecDepth 100000 in
theorem b_159_0 (d : Nat) (v0 : Option Nat) (v1 : Int32) (h : av_H) : bd X d 159 0 [(0, vr v0), (1, vi v1)] [] h =
  (av_cI (ev X d 183 [vi v1, vi (0 : Int32), vi (10 : Int32)] h)).bind fun q1 =>
  if q1.1 = 0 then
    (av_rI (-1 : Int32) q1.2)
  else (av_gR q1.2 v0 10 6).bind fun x2 =>
  if av_is q1.2 x2 3 = true then (
  (av_cV (ev X d 28 [vr x2] q1.2)).bind fun q3 =>
  if v1 = 0 then
    ((av_gR q3 v0 10 6).bind fun x4 =>
    (av_gI q3 x4 3 2).bind fun x5 =>
    av_rI x5 q3)
  else (av_gR q3 v0 10 6).bind fun x6 =>
  (av_gR q3 x6 3 1).bind fun x7 =>
  (av_lI X q3 x7 (v1 - (1 : Int32))).bind fun x8 =>
  av_rI x8 q3) else none :=
  (av_bd_eq av_Sg p_159 _ _ _ _ _).trans rfl
theorem e_159 (d : Nat) (v0 : Option Nat) (v1 : Int32) (h : av_H) : ev X (d + 1) 159 [vr v0, vi v1] h = bd X d 159 0 [(0, vr v0), (1, vi v1)] [] h := av_ev_eq av_Sg p_159 d _ h rfl
/-! 160 = X10_offer -/
set_option maxRecDepth 100000 in
theorem b_160_0 (d : Nat) (v0 : Option Nat) (v1 : Int32) (v2 : Int32) (v3 : Int32) (v4 : Int32) (h : av_H) : bd X d 160 0 [(0, vr v0), (1, vi v1), (2, vi v2), (3, vi v3), (4, vi v4)] [] h =
  (av_cI (ev X d 184 [vi v1, vi (8 : Int32)] h)).bind fun q1 =>
  if q1.1 = 0 then
    ((av_bz (0 : Int32)).bind fun w => av_rI w q1.2)
  else (av_cI (ev X d 183 [vi v2, vi (0 : Int32), vi (9999 : Int32)] q1.2)).bind fun q2 =>
  if q2.1 = 0 then
    ((av_bz (0 : Int32)).bind fun w => av_rI w q2.2)
  else (av_cI (ev X d 184 [vi v3, vi (64 : Int32)] q2.2)).bind fun q3 =>
  if q3.1 = 0 then
    ((av_bz (0 : Int32)).bind fun w => av_rI w q3.2)
  else (av_cI (ev X d 183 [vi v4, vi (0 : Int32), vi (6 : Int32)] q3.2)).bind fun q4 =>
  if q4.1 = 0 then
    ((av_bz (0 : Int32)).bind fun w => av_rI w q4.2)
  else (av_gR q4.2 v0 10 10).bind fun x5 =>
  if av_is q4.2 x5 7 = true then (
  (av_cV (ev X d 104 [vr x5, vi v1, vi v2, vi v3, vi v4] q4.2)).bind fun q6 =>
  (av_bz (1 : Int32)).bind fun w => av_rI w q6) else none :=
  (av_bd_eq av_Sg p_160 _ _ _ _ _).trans rfl
theorem e_160 (d : Nat) (v0 : Option Nat) (v1 : Int32) (v2 : Int32) (v3 : Int32) (v4 : Int32) (h : av_H) : ev X (d + 1) 160 [vr v0, vi v1, vi v2, vi v3, vi v4] h = bd X d 160 0 [(0, vr v0), (1, vi v1), (2, vi v2), (3, vi v3), (4, vi v4)] [] h := av_ev_eq av_Sg p_160 d _ h rfl
/-! 161 = X10_buy -/
set_option maxRecDepth 100000 in
theorem b_161_0 (d : Nat) (v0 : Option Nat) (v1 : Int32) (h : av_H) : bd X d 161 0 [(0, vr v0), (1, vi v1)] [] h =
  (av_cI (ev X d 183 [vi v1, vi (0 : Int32), vi (1 : Int32)] h)).bind fun q1 =>
  if q1.1 = 0 then
    (av_rI (-1 : Int32) q1.2)
  else (av_gR q1.2 v0 10 10).bind fun x2 =>
  if av_is q1.2 v0 10 = true then (
  (av_cI (ev X d 196 [vr v0] q1.2)).bind fun q3 =>
  if av_is q3.2 x2 7 = true then (
  (av_cI (ev X d 107 [vr x2, vi (q3.1)] q3.2)).bind fun q4 =>
  if q4.1 = (-1 : Int32) then
    (av_rI q4.1 q4.2)
  else if v1 = (1 : Int32) then
    (av_rI q4.1 q4.2)
  else (av_gR q4.2 v0 10 10).bind fun x5 =>
  if av_is q4.2 x5 7 = true then (
  (av_cI (ev X d 106 [vr x5, vi (q4.1)] q4.2)).bind fun q6 =>
  av_rI q6.1 q6.2) else none) else none) else none :=
  (av_bd_eq av_Sg p_161 _ _ _ _ _).trans rfl
theorem e_161 (d : Nat) (v0 : Option Nat) (v1 : Int32) (h : av_H) : ev X (d + 1) 161 [vr v0, vi v1] h = bd X d 161 0 [(0, vr v0), (1, vi v1)] [] h := av_ev_eq av_Sg p_161 d _ h rfl
/-! 162 = X10_away -/
set_option maxRecDepth 100000 in
theorem b_162_0 (d : Nat) (v0 : Option Nat) (v1 : Int32) (v2 : Int32) (v3 : Int32) (h : av_H) : bd X d 162 0 [(0, vr v0), (1, vi v1), (2, vi v2), (3, vi v3)] [] h =
  (av_cI (ev X d 191 [vi v1] h)).bind fun q1 =>
  if q1.1 = 0 then
    ((av_bz (0 : Int32)).bind fun w => av_rI w q1.2)
  else (av_cI (ev X d 184 [vi v2, vi (20 : Int32)] q1.2)).bind fun q2 =>
  if q2.1 = 0 then
    ((av_bz (0 : Int32)).bind fun w => av_rI w q2.2)
  else (av_gR q2.2 v0 10 6).bind fun x3 =>
  if av_is q2.2 x3 3 = true then (
  (av_cV (ev X d 35 [vr x3, vi v1, vi v2, vi v3] q2.2)).bind fun q4 =>
  (av_bz (1 : Int32)).bind fun w => av_rI w q4) else none :=
  (av_bd_eq av_Sg p_162 _ _ _ _ _).trans rfl
theorem e_162 (d : Nat) (v0 : Option Nat) (v1 : Int32) (v2 : Int32) (v3 : Int32) (h : av_H) : ev X (d + 1) 162 [vr v0, vi v1, vi v2, vi v3] h = bd X d 162 0 [(0, vr v0), (1, vi v1), (2, vi v2), (3, vi v3)] [] h := av_ev_eq av_Sg p_162 d _ h rfl
/-! 163 = X10_rota -/
set_option maxRecDepth 100000 in
theorem b_163_0 (d : Nat) (v0 : Option Nat) (v1 : Int32) (v2 : Int32) (h : av_H) : bd X d 163 0 [(0, vr v0), (1, vi v1), (2, vi v2)] [] h =
  (av_cI (ev X d 183 [vi v1, vi (2 : Int32), vi (10 : Int32)] h)).bind fun q1 =>
  if q1.1 = 0 then
    (av_rI (-1 : Int32) q1.2)
  else (av_cI (ev X d 184 [vi v2, vi (20 : Int32)] q1.2)).bind fun q2 =>
  if q2.1 = 0 then
    (av_rI (-1 : Int32) q2.2)
  else (av_gR q2.2 v0 10 6).bind fun x3 =>
  if av_is q2.2 x3 3 = true then (
  (av_cI (ev X d 36 [vr x3, vi v1, vi v2] q2.2)).bind fun q4 =>
  av_rI q4.1 q4.2) else none :=
  (av_bd_eq av_Sg p_163 _ _ _ _ _).trans rfl
theorem e_163 (d : Nat) (v0 : Option Nat) (v1 : Int32) (v2 : Int32) (h : av_H) : ev X (d + 1) 163 [vr v0, vi v1, vi v2] h = bd X d 163 0 [(0, vr v0), (1, vi v1), (2, vi v2)] [] h := av_ev_eq av_Sg p_163 d _ h rfl
/-! 164 = X10_key -/
set_option maxRecDepth 100000 in
theorem b_164_0 (d : Nat) (v0 : Option Nat) (v1 : Int32) (v2 : Int32) (v3 : Int32) (v4 : Int32) (v5 : Int32) (h : av_H) : bd X d 164 0 [(0, vr v0), (1, vi v1), (2, vi v2), (3, vi v3), (4, vi v4), (5, vi v5)] [] h =
  if av_is h v0 10 = true then (
  (av_cI (ev X d 192 [vr v0, vi v1] h)).bind fun q1 =>
  if q1.1 = 0 then
    ((av_bz (0 : Int32)).bind fun w => av_rI w q1.2)
  else (av_cI (ev X d 191 [vi v2] q1.2)).bind fun q2 =>
  if q2.1 = 0 then
    ((av_bz (0 : Int32)).bind fun w => av_rI w q2.2)
  else (av_cI (ev X d 187 [vi v3] q2.2)).bind fun q3 =>
  if q3.1 = 0 then
    ((av_bz (0 : Int32)).bind fun w => av_rI w q3.2)
  else (av_cI (ev X d 189 [vi v4] q3.2)).bind fun q4 =>
  if q4.1 = 0 then
    ((av_bz (0 : Int32)).bind fun w => av_rI w q4.2)
  else (av_gR q4.2 v0 10 8).bind fun x5 =>
  if av_is q4.2 x5 1 = true then (
  (av_cI (ev X d 14 [vr x5, vi v1, vi v2, vi ((v3 * (24 : Int32)) + v4), vi v5] q4.2)).bind fun q6 =>
  (av_bz q6.1).bind fun w => av_rI w q6.2) else none) else none :=
  (av_bd_eq av_Sg p_164 _ _ _ _ _).trans rfl
theorem e_164 (d : Nat) (v0 : Option Nat) (v1 : Int32) (v2 : Int32) (v3 : Int32) (v4 : Int32) (v5 : Int32) (h : av_H) : ev X (d + 1) 164 [vr v0, vi v1, vi v2, vi v3, vi v4, vi v5] h = bd X d 164 0 [(0, vr v0), (1, vi v1), (2, vi v2), (3, vi v3), (4, vi v4), (5, vi v5)] [] h := av_ev_eq av_Sg p_164 d _ h rfl
/-! 165 = X10_holds -/
set_option maxRecDepth 100000 in
theorem b_165_0 (d : Nat) (v0 : Option Nat) (v1 : Int32) (v2 : Int32) (v3 : Int32) (h : av_H) : bd X d 165 0 [(0, vr v0), (1, vi v1), (2, vi v2), (3, vi v3)] [] h =
  if av_is h v0 10 = true then (
  (av_cI (ev X d 192 [vr v0, vi v1] h)).bind fun q1 =>
  if q1.1 = 0 then
    (av_rI (-1 : Int32) q1.2)
  else (av_cI (ev X d 187 [vi v2] q1.2)).bind fun q2 =>
  if q2.1 = 0 then
    (av_rI (-1 : Int32) q2.2)
  else (av_cI (ev X d 189 [vi v3] q2.2)).bind fun q3 =>
  if q3.1 = 0 then
    (av_rI (-1 : Int32) q3.2)
  else (av_gR q3.2 v0 10 8).bind fun x4 =>
  if av_is q3.2 x4 1 = true then (
  (av_cI (ev X d 15 [vr x4, vi v1, vi ((v2 * (24 : Int32)) + v3)] q3.2)).bind fun q5 =>
  av_rI q5.1 q5.2) else none) else none :=
  (av_bd_eq av_Sg p_165 _ _ _ _ _).trans rfl
theorem e_165 (d : Nat) (v0 : Option Nat) (v1 : Int32) (v2 : Int32) (v3 : Int32) (h : av_H) : ev X (d + 1) 165 [vr v0, vi v1, vi v2, vi v3] h = bd X d 165 0 [(0, vr v0), (1, vi v1), (2, vi v2), (3, vi v3)] [] h := av_ev_eq av_Sg p_165 d _ h rfl
/-! 166 = X10_out -/
set_option maxRecDepth 100000 in
theorem b_166_0 (d : Nat) (v0 : Option Nat) (v1 : Int32) (v2 : Int32) (v3 : Int32) (h : av_H) : bd X d 166 0 [(0, vr v0), (1, vi v1), (2, vi v2), (3, vi v3)] [] h =
  if av_is h v0 10 = true then (
  (av_cI (ev X d 192 [vr v0, vi v1] h)).bind fun q1 =>
  if q1.1 = 0 then
    (av_rI (-1 : Int32) q1.2)
  else (av_cI (ev X d 187 [vi v2] q1.2)).bind fun q2 =>
  if q2.1 = 0 then
    (av_rI (-1 : Int32) q2.2)
  else (av_cI (ev X d 189 [vi v3] q2.2)).bind fun q3 =>
  if q3.1 = 0 then
    (av_rI (-1 : Int32) q3.2)
  else (av_gR q3.2 v0 10 8).bind fun x4 =>
  if av_is q3.2 x4 1 = true then (
  (av_cI (ev X d 16 [vr x4, vi v1, vi ((v2 * (24 : Int32)) + v3)] q3.2)).bind fun q5 =>
  av_rI q5.1 q5.2) else none) else none :=
  (av_bd_eq av_Sg p_166 _ _ _ _ _).trans rfl
theorem e_166 (d : Nat) (v0 : Option Nat) (v1 : Int32) (v2 : Int32) (v3 : Int32) (h : av_H) : ev X (d + 1) 166 [vr v0, vi v1, vi v2, vi v3] h = bd X d 166 0 [(0, vr v0), (1, vi v1), (2, vi v2), (3, vi v3)] [] h := av_ev_eq av_Sg p_166 d _ h rfl
/-! 167 = X10_film -/
set_option maxRecDepth 100000 in
theorem b_167_0 (d : Nat) (v0 : Option Nat) (v1 : Int32) (v2 : Int32) (v3 : Int32) (v4 : Int32) (v5 : Int32) (v6 : Int32) (h : av_H) : bd X d 167 0 [(0, vr v0), (1, vi v1), (2, vi v2), (3, vi v3), (4, vi v4), (5, vi v5), (6, vi v6)] [] h =
  if av_is h v0 10 = true then (
  (av_cI (ev X d 192 [vr v0, vi v1] h)).bind fun q1 =>
  if q1.1 = 0 then
    ((av_bz (0 : Int32)).bind fun w => av_rI w q1.2)
  else (av_cI (ev X d 186 [vi v2] q1.2)).bind fun q2 =>
  if q2.1 = 0 then
    ((av_bz (0 : Int32)).bind fun w => av_rI w q2.2)
  else (av_cI (ev X d 188 [vi v3, vi v4] q2.2)).bind fun q3 =>
  if q3.1 = 0 then
    ((av_bz (0 : Int32)).bind fun w => av_rI w q3.2)
  else (av_cI (ev X d 190 [vi v5, vi v6] q3.2)).bind fun q4 =>
  if q4.1 = 0 then
    ((av_bz (0 : Int32)).bind fun w => av_rI w q4.2)
  else (av_gR q4.2 v0 10 4).bind fun x5 =>
  (av_cI (ev X d 198 [vi v1, vi v2] q4.2)).bind fun q6 =>
  if av_is q6.2 x5 8 = true then (
  (av_cI (ev X d 112 [vr x5, vi (q6.1), vi v3, vi v4, vi v5, vi v6] q6.2)).bind fun q7 =>
  (av_bz q7.1).bind fun w => av_rI w q7.2) else none) else none :=
  (av_bd_eq av_Sg p_167 _ _ _ _ _).trans rfl
theorem e_167 (d : Nat) (v0 : Option Nat) (v1 : Int32) (v2 : Int32) (v3 : Int32) (v4 : Int32) (v5 : Int32) (v6 : Int32) (h : av_H) : ev X (d + 1) 167 [vr v0, vi v1, vi v2, vi v3, vi v4, vi v5, vi v6] h = bd X d 167 0 [(0, vr v0), (1, vi v1), (2, vi v2), (3, vi v3), (4, vi v4), (5, vi v5), (6, vi v6)] [] h := av_ev_eq av_Sg p_167 d _ h rfl
/-! 168 = X10_clashes -/
set_option maxRecDepth 100000 in
theorem b_168_0 (d : Nat) (v0 : Option Nat) (v1 : Int32) (h : av_H) : bd X d 168 0 [(0, vr v0), (1, vi v1)] [] h =
  if av_is h v0 10 = true then (
  (av_cI (ev X d 192 [vr v0, vi v1] h)).bind fun q1 =>
  if q1.1 = 0 then
    (av_rI (-1 : Int32) q1.2)
  else bd X d 168 10 [(0, vr v0), (1, vi v1), (2, vi (0 : Int32)), (3, vi (0 : Int32))] [] q1.2) else none :=
  (av_bd_eq av_Sg p_168 _ _ _ _ _).trans rfl
set_option maxRecDepth 100000 in
theorem b_168_10 (d : Nat) (v0 : Option Nat) (v1 : Int32) (v2 : Int32) (v3 : Int32) (h : av_H) : bd X d 168 10 [(0, vr v0), (1, vi v1), (2, vi v2), (3, vi v3)] [] h =
  (av_gI h v0 10 17).bind fun x1 =>
  if v3 < x1 then
    ((av_gR h v0 10 13).bind fun x2 =>
    (av_lR h x2 105 v3).bind fun x3 =>
    (av_gI h x3 0 0).bind fun x4 =>
    if x4 = v1 then
      ((av_gR h v0 10 13).bind fun x5 =>
      (av_lR h x5 105 v3).bind fun x6 =>
      if av_is h v0 10 = true then (
      (av_cI (ev X d 215 [vr v0, vr x6] h)).bind fun q7 =>
      if q7.1 = 0 then
        (bd X d 168 10 [(0, vr v0), (1, vi v1), (2, vi v2), (3, vi (v3 + (1 : Int32)))] [] q7.2)
      else bd X d 168 10 [(0, vr v0), (1, vi v1), (2, vi (v2 + (1 : Int32))), (3, vi (v3 + (1 : Int32)))] [] q7.2) else none)
    else bd X d 168 10 [(0, vr v0), (1, vi v1), (2, vi v2), (3, vi (v3 + (1 : Int32)))] [] h)
  else av_rI v2 h :=
  (av_bd_eq av_Sg p_168 _ _ _ _ _).trans rfl
theorem e_168 (d : Nat) (v0 : Option Nat) (v1 : Int32) (h : av_H) : ev X (d + 1) 168 [vr v0, vi v1] h = bd X d 168 0 [(0, vr v0), (1, vi v1)] [] h := av_ev_eq av_Sg p_168 d _ h rfl
/-! 169 = X10_complain -/
set_option maxRecDepth 100000 in
theorem b_169_0 (d : Nat) (v0 : Option Nat) (v1 : Int32) (v2 : Int32) (v3 : Int32) (v4 : Int32) (v5 : Int32) (h : av_H) : bd X d 169 0 [(0, vr v0), (1, vi v1), (2, vi v2), (3, vi v3), (4, vi v4), (5, vi v5)] [] h =
  if av_is h v0 10 = true then (
  (av_cI (ev X d 194 [vr v0, vi v1, vi v2, vi v3, vi (0 : Int32)] h)).bind fun q1 =>
  if q1.1 = 0 then
    (av_rI (-1 : Int32) q1.2)
  else (av_cI (ev X d 187 [vi v4] q1.2)).bind fun q2 =>
  if q2.1 = 0 then
    (av_rI (-1 : Int32) q2.2)
  else (av_cI (ev X d 189 [vi v5] q2.2)).bind fun q3 =>
  if q3.1 = 0 then
    (av_rI (-1 : Int32) q3.2)
  else (av_gR q3.2 v0 10 5).bind fun x4 =>
  (av_cI (ev X d 198 [vi v1, vi v2] q3.2)).bind fun q5 =>
  if av_is q5.2 x4 8 = true then (
  (av_cI (ev X d 112 [vr x4, vi ((q5.1 * (12 : Int32)) + v3), vi v4, vi v4, vi v5, vi v5] q5.2)).bind fun q6 =>
  if q6.1 = 0 then
    (av_rI (-1 : Int32) q6.2)
  else (av_gR q6.2 v0 10 5).bind fun x7 =>
  (av_gI q6.2 x7 8 5).bind fun x8 =>
  av_rI (x8 - (1 : Int32)) q6.2) else none) else none :=
  (av_bd_eq av_Sg p_169 _ _ _ _ _).trans rfl
theorem e_169 (d : Nat) (v0 : Option Nat) (v1 : Int32) (v2 : Int32) (v3 : Int32) (v4 : Int32) (v5 : Int32) (h : av_H) : ev X (d + 1) 169 [vr v0, vi v1, vi v2, vi v3, vi v4, vi v5] h = bd X d 169 0 [(0, vr v0), (1, vi v1), (2, vi v2), (3, vi v3), (4, vi v4), (5, vi v5)] [] h := av_ev_eq av_Sg p_169 d _ h rfl
/-! 170 = X10_ours -/
set_option maxRecDepth 100000 in
theorem b_170_0 (d : Nat) (v0 : Option Nat) (v1 : Int32) (v2 : Int32) (h : av_H) : bd X d 170 0 [(0, vr v0), (1, vi v1), (2, vi v2)] [] h =
  (av_gR h v0 10 5).bind fun x1 =>
  (av_gI h x1 8 5).bind fun x2 =>
  (av_cI (ev X d 184 [vi v1, vi x2] h)).bind fun q3 =>
  if q3.1 = 0 then
    (av_rI (-1 : Int32) q3.2)
  else (av_cI (ev X d 183 [vi v2, vi (0 : Int32), vi (1 : Int32)] q3.2)).bind fun q4 =>
  if q4.1 = 0 then
    (av_rI (-1 : Int32) q4.2)
  else (av_gI q4.2 v0 10 17).bind fun x5 =>
  bd X d 170 22 [(0, vr v0), (1, vi v1), (2, vi v2), (3, vi (0 : Int32)), (4, vi (-1 : Int32)), (5, vi (x5 - (1 : Int32)))] [] q4.2 :=
  (av_bd_eq av_Sg p_170 _ _ _ _ _).trans rfl
set_option maxRecDepth 100000 in
theorem b_170_22 (d : Nat) (v0 : Option Nat) (v1 : Int32) (v2 : Int32) (v3 : Int32) (v4 : Int32) (v5 : Int32) (h : av_H) : bd X d 170 22 [(0, vr v0), (1, vi v1), (2, vi v2), (3, vi v3), (4, vi v4), (5, vi v5)] [] h =
  if v5 < 0 then
    (if v2 = 0 then
      (av_rI v3 h)
    else av_rI v4 h)
  else (av_gR h v0 10 13).bind fun x1 =>
  (av_lR h x1 105 v5).bind fun x2 =>
  if av_is h v0 10 = true then (
  (av_cI (ev X d 225 [vr v0, vr x2, vi v1] h)).bind fun q3 =>
  if q3.1 = 0 then
    (bd X d 170 22 [(0, vr v0), (1, vi v1), (2, vi v2), (3, vi v3), (4, vi v4), (5, vi (v5 + (-1 : Int32)))] [] q3.2)
  else bd X d 170 22 [(0, vr v0), (1, vi v1), (2, vi v2), (3, vi (v3 + (1 : Int32))), (4, vi v5), (5, vi (v5 + (-1 : Int32)))] [] q3.2) else none :=
  (av_bd_eq av_Sg p_170 _ _ _ _ _).trans rfl
theorem e_170 (d : Nat) (v0 : Option Nat) (v1 : Int32) (v2 : Int32) (h : av_H) : ev X (d + 1) 170 [vr v0, vi v1, vi v2] h = bd X d 170 0 [(0, vr v0), (1, vi v1), (2, vi v2)] [] h := av_ev_eq av_Sg p_170 d _ h rfl
/-! 171 = X10_band -/
set_option maxRecDepth 100000 in
theorem b_171_0 (d : Nat) (v0 : Option Nat) (v1 : Int32) (v2 : Int32) (h : av_H) : bd X d 171 0 [(0, vr v0), (1, vi v1), (2, vi v2)] [] h =
  (av_cI (ev X d 184 [vi v1, vi (10 : Int32)] h)).bind fun q1 =>
  if q1.1 = 0 then
    (av_rI (-1 : Int32) q1.2)
  else (av_cI (ev X d 183 [vi v2, vi (0 : Int32), vi (1 : Int32)] q1.2)).bind fun q2 =>
  if q2.1 = 0 then
    (av_rI (-1 : Int32) q2.2)
  else if v2 = 0 then
    (if av_is q2.2 v0 10 = true then (
    (av_cI (ev X d 228 [vr v0, vi v1] q2.2)).bind fun q3 =>
    av_rI q3.1 q3.2) else none)
  else if av_is q2.2 v0 10 = true then (
  (av_cI (ev X d 229 [vr v0, vi v1] q2.2)).bind fun q4 =>
  av_rI q4.1 q4.2) else none :=
  (av_bd_eq av_Sg p_171 _ _ _ _ _).trans rfl
theorem e_171 (d : Nat) (v0 : Option Nat) (v1 : Int32) (v2 : Int32) (h : av_H) : ev X (d + 1) 171 [vr v0, vi v1, vi v2] h = bd X d 171 0 [(0, vr v0), (1, vi v1), (2, vi v2)] [] h := av_ev_eq av_Sg p_171 d _ h rfl
/-! 172 = X10_worst -/
set_option maxRecDepth 100000 in
theorem b_172_0 (d : Nat) (v0 : Option Nat) (h : av_H) : bd X d 172 0 [(0, vr v0)] [] h =
  bd X d 172 8 [(0, vr v0), (1, vi (-1 : Int32)), (2, vi (1 : Int32)), (3, vi (0 : Int32)), (4, vi (0 : Int32))] [] h :=
  (av_bd_eq av_Sg p_172 _ _ _ _ _).trans rfl
set_option maxRecDepth 100000 in
theorem b_172_8 (d : Nat) (v0 : Option Nat) (v1 : Int32) (v2 : Int32) (v3 : Int32) (v4 : Int32) (h : av_H) : bd X d 172 8 [(0, vr v0), (1, vi v1), (2, vi v2), (3, vi v3), (4, vi v4)] [] h =
  if v4 < (10 : Int32) then
    (if av_is h v0 10 = true then (
    (av_cI (ev X d 228 [vr v0, vi v4] h)).bind fun q1 =>
    if av_is q1.2 v0 10 = true then (
    (av_cI (ev X d 229 [vr v0, vi v4] q1.2)).bind fun q2 =>
    if 0 < q1.1 then
      (if v1 = (-1 : Int32) then
        (bd X d 172 8 [(0, vr v0), (1, vi v4), (2, vi (q1.1)), (3, vi (q2.1)), (4, vi (v4 + (1 : Int32)))] [] q2.2)
      else if (v3 * q1.1) < (q2.1 * v2) then
        (bd X d 172 8 [(0, vr v0), (1, vi v4), (2, vi (q1.1)), (3, vi (q2.1)), (4, vi (v4 + (1 : Int32)))] [] q2.2)
      else bd X d 172 8 [(0, vr v0), (1, vi v1), (2, vi v2), (3, vi v3), (4, vi (v4 + (1 : Int32)))] [] q2.2)
    else bd X d 172 8 [(0, vr v0), (1, vi v1), (2, vi v2), (3, vi v3), (4, vi (v4 + (1 : Int32)))] [] q2.2) else none) else none)
  else av_rI v1 h :=
  (av_bd_eq av_Sg p_172 _ _ _ _ _).trans rfl
theorem e_172 (d : Nat) (v0 : Option Nat) (h : av_H) : ev X (d + 1) 172 [vr v0] h = bd X d 172 0 [(0, vr v0)] [] h := av_ev_eq av_Sg p_172 d _ h rfl
/-! 173 = X10_week -/
set_option maxRecDepth 100000 in
theorem b_173_0 (d : Nat) (v0 : Option Nat) (v1 : Int32) (v2 : Int32) (v3 : Int32) (h : av_H) : bd X d 173 0 [(0, vr v0), (1, vi v1), (2, vi v2), (3, vi v3)] [] h =
  if av_is h v0 10 = true then (
  (av_cI (ev X d 192 [vr v0, vi v1] h)).bind fun q1 =>
  if q1.1 = 0 then
    (av_rI (-1 : Int32) q1.2)
  else (av_cI (ev X d 184 [vi v2, vi (7 : Int32)] q1.2)).bind fun q2 =>
  if q2.1 = 0 then
    (av_rI (-1 : Int32) q2.2)
  else (av_cI (ev X d 183 [vi v3, vi (0 : Int32), vi (2 : Int32)] q2.2)).bind fun q3 =>
  if q3.1 = 0 then
    (av_rI (-1 : Int32) q3.2)
  else if v3 = (2 : Int32) then
    (if av_is q3.2 v0 10 = true then (
    (av_cI (ev X d 231 [vr v0, vi v1, vi v2] q3.2)).bind fun q4 =>
    av_rI q4.1 q4.2) else none)
  else if v3 = (1 : Int32) then
    (if av_is q3.2 v0 10 = true then (
    (av_cI (ev X d 230 [vr v0, vi v1, vi v2, vi (1 : Int32)] q3.2)).bind fun q5 =>
    av_rI q5.1 q5.2) else none)
  else if av_is q3.2 v0 10 = true then (
  (av_cI (ev X d 230 [vr v0, vi v1, vi v2, vi (0 : Int32)] q3.2)).bind fun q6 =>
  av_rI q6.1 q6.2) else none) else none :=
  (av_bd_eq av_Sg p_173 _ _ _ _ _).trans rfl
theorem e_173 (d : Nat) (v0 : Option Nat) (v1 : Int32) (v2 : Int32) (v3 : Int32) (h : av_H) : ev X (d + 1) 173 [vr v0, vi v1, vi v2, vi v3] h = bd X d 173 0 [(0, vr v0), (1, vi v1), (2, vi v2), (3, vi v3)] [] h := av_ev_eq av_Sg p_173 d _ h rfl
/-! 174 = X10_water -/
set_option maxRecDepth 100000 in
theorem b_174_0 (d : Nat) (v0 : Option Nat) (v1 : Int32) (v2 : Int32) (v3 : Int32) (v4 : Int32) (v5 : Int32) (v6 : Int32) (h : av_H) : bd X d 174 0 [(0, vr v0), (1, vi v1), (2, vi v2), (3, vi v3), (4, vi v4), (5, vi v5), (6, vi v6)] [] h =
  if av_is h v0 10 = true then (
  (av_cI (ev X d 194 [vr v0, vi v1, vi v2, vi v3, vi v4] h)).bind fun q1 =>
  if q1.1 = 0 then
    (av_rI (-1 : Int32) q1.2)
  else (av_cI (ev X d 188 [vi v5, vi v6] q1.2)).bind fun q2 =>
  if q2.1 = 0 then
    (av_rI (-1 : Int32) q2.2)
  else bd X d 174 17 [(0, vr v0), (1, vi v1), (2, vi v2), (3, vi v3), (4, vi v4), (5, vi v5), (6, vi v6), (7, vi (0 : Int32)), (8, vi (0 : Int32))] [] q2.2) else none :=
  (av_bd_eq av_Sg p_174 _ _ _ _ _).trans rfl
set_option maxRecDepth 100000 in
theorem b_174_17 (d : Nat) (v0 : Option Nat) (v1 : Int32) (v2 : Int32) (v3 : Int32) (v4 : Int32) (v5 : Int32) (v6 : Int32) (v7 : Int32) (v8 : Int32) (h : av_H) : bd X d 174 17 [(0, vr v0), (1, vi v1), (2, vi v2), (3, vi v3), (4, vi v4), (5, vi v5), (6, vi v6), (7, vi v7), (8, vi v8)] [] h =
  (av_gI h v0 10 17).bind fun x1 =>
  if v8 < x1 then
    ((av_gR h v0 10 13).bind fun x2 =>
    (av_lR h x2 105 v8).bind fun x3 =>
    (av_gI h x3 0 4).bind fun x4 =>
    (av_cI (ev X d 183 [vi x4, vi v5, vi v6] h)).bind fun q5 =>
    if q5.1 = 0 then
      (bd X d 174 17 [(0, vr v0), (1, vi v1), (2, vi v2), (3, vi v3), (4, vi v4), (5, vi v5), (6, vi v6), (7, vi v7), (8, vi (v8 + (1 : Int32)))] [] q5.2)
    else if av_is q5.2 x3 0 = true then (
    (av_cI (ev X d 7 [vr x3, vi v1, vi v2, vi v3, vi v4] q5.2)).bind fun q6 =>
    if q6.1 = 0 then
      (bd X d 174 17 [(0, vr v0), (1, vi v1), (2, vi v2), (3, vi v3), (4, vi v4), (5, vi v5), (6, vi v6), (7, vi v7), (8, vi (v8 + (1 : Int32)))] [] q6.2)
    else if av_is q6.2 x3 0 = true then (
    (av_cI (ev X d 12 [vr x3, vi v3, vi v4] q6.2)).bind fun q7 =>
    bd X d 174 17 [(0, vr v0), (1, vi v1), (2, vi v2), (3, vi v3), (4, vi v4), (5, vi v5), (6, vi v6), (7, vi (v7 + q7.1)), (8, vi (v8 + (1 : Int32)))] [] q7.2) else none) else none)
  else av_rI v7 h :=
  (av_bd_eq av_Sg p_174 _ _ _ _ _).trans rfl
theorem e_174 (d : Nat) (v0 : Option Nat) (v1 : Int32) (v2 : Int32) (v3 : Int32) (v4 : Int32) (v5 : Int32) (v6 : Int32) (h : av_H) : ev X (d + 1) 174 [vr v0, vi v1, vi v2, vi v3, vi v4, vi v5, vi v6] h = bd X d 174 0 [(0, vr v0), (1, vi v1), (2, vi v2), (3, vi v3), (4, vi v4), (5, vi v5), (6, vi v6)] [] h := av_ev_eq av_Sg p_174 d _ h rfl
/-! 175 = X10_aloft -/
set_option maxRecDepth 100000 in
theorem b_175_0 (d : Nat) (v0 : Option Nat) (v1 : Int32) (v2 : Int32) (v3 : Int32) (h : av_H) : bd X d 175 0 [(0, vr v0), (1, vi v1), (2, vi v2), (3, vi v3)] [] h =
  (av_cI (ev X d 191 [vi v1] h)).bind fun q1 =>
  if q1.1 = 0 then
    (av_rI (-1 : Int32) q1.2)
  else (av_cI (ev X d 188 [vi v2, vi v3] q1.2)).bind fun q2 =>
  if q2.1 = 0 then
    (av_rI (-1 : Int32) q2.2)
  else bd X d 175 13 [(0, vr v0), (1, vi v1), (2, vi v2), (3, vi v3), (4, vi (0 : Int32)), (5, vi (0 : Int32))] [] q2.2 :=
  (av_bd_eq av_Sg p_175 _ _ _ _ _).trans rfl
set_option maxRecDepth 100000 in
theorem b_175_13 (d : Nat) (v0 : Option Nat) (v1 : Int32) (v2 : Int32) (v3 : Int32) (v4 : Int32) (v5 : Int32) (h : av_H) : bd X d 175 13 [(0, vr v0), (1, vi v1), (2, vi v2), (3, vi v3), (4, vi v4), (5, vi v5)] [] h =
  (av_gI h v0 10 17).bind fun x1 =>
  if v5 < x1 then
    ((av_gR h v0 10 13).bind fun x2 =>
    (av_lR h x2 105 v5).bind fun x3 =>
    if av_is h x3 0 = true then (
    (av_cI (ev X d 3 [vr x3, vi v1] h)).bind fun q4 =>
    if q4.1 = 0 then
      (bd X d 175 13 [(0, vr v0), (1, vi v1), (2, vi v2), (3, vi v3), (4, vi v4), (5, vi (v5 + (1 : Int32)))] [] q4.2)
    else (av_gR q4.2 v0 10 13).bind fun x5 =>
    (av_lR q4.2 x5 105 v5).bind fun x6 =>
    (av_gI q4.2 x6 0 4).bind fun x7 =>
    (av_cI (ev X d 183 [vi x7, vi v2, vi v3] q4.2)).bind fun q8 =>
    if q8.1 = 0 then
      (bd X d 175 13 [(0, vr v0), (1, vi v1), (2, vi v2), (3, vi v3), (4, vi v4), (5, vi (v5 + (1 : Int32)))] [] q8.2)
    else (av_gR q8.2 v0 10 13).bind fun x9 =>
    (av_lR q8.2 x9 105 v5).bind fun x10 =>
    (av_gI q8.2 x10 0 6).bind fun x11 =>
    bd X d 175 13 [(0, vr v0), (1, vi v1), (2, vi v2), (3, vi v3), (4, vi (v4 + x11)), (5, vi (v5 + (1 : Int32)))] [] q8.2) else none)
  else av_rI v4 h :=
  (av_bd_eq av_Sg p_175 _ _ _ _ _).trans rfl
theorem e_175 (d : Nat) (v0 : Option Nat) (v1 : Int32) (v2 : Int32) (v3 : Int32) (h : av_H) : ev X (d + 1) 175 [vr v0, vi v1, vi v2, vi v3] h = bd X d 175 0 [(0, vr v0), (1, vi v1), (2, vi v2), (3, vi v3)] [] h := av_ev_eq av_Sg p_175 d _ h rfl
/-! 176 = X10_learnt -/
set_option maxRecDepth 100000 in
theorem b_176_0 (d : Nat) (v0 : Option Nat) (v1 : Int32) (v2 : Int32) (h : av_H) : bd X d 176 0 [(0, vr v0), (1, vi v1), (2, vi v2)] [] h =
  (av_cI (ev X d 191 [vi v1] h)).bind fun q1 =>
  if q1.1 = 0 then
    (av_rI (-1 : Int32) q1.2)
  else (av_cI (ev X d 183 [vi v2, vi (1 : Int32), vi (999 : Int32)] q1.2)).bind fun q2 =>
  if q2.1 = 0 then
    (av_rI (-1 : Int32) q2.2)
  else bd X d 176 14 [(0, vr v0), (1, vi v1), (2, vi v2), (3, vi (0 : Int32)), (4, vi (0 : Int32))] [] q2.2 :=
  (av_bd_eq av_Sg p_176 _ _ _ _ _).trans rfl
set_option maxRecDepth 100000 in
theorem b_176_14 (d : Nat) (v0 : Option Nat) (v1 : Int32) (v2 : Int32) (v3 : Int32) (v4 : Int32) (h : av_H) : bd X d 176 14 [(0, vr v0), (1, vi v1), (2, vi v2), (3, vi v3), (4, vi v4)] [] h =
  (av_gI h v0 10 17).bind fun x1 =>
  if v4 < x1 then
    ((av_gR h v0 10 13).bind fun x2 =>
    (av_lR h x2 105 v4).bind fun x3 =>
    if av_is h x3 0 = true then (
    (av_cI (ev X d 3 [vr x3, vi v1] h)).bind fun q4 =>
    if q4.1 = 0 then
      (bd X d 176 14 [(0, vr v0), (1, vi v1), (2, vi v2), (3, vi v3), (4, vi (v4 + (1 : Int32)))] [] q4.2)
    else (av_gR q4.2 v0 10 6).bind fun x5 =>
    if av_is q4.2 x3 0 = true then (
    (av_cI (ev X d 4 [vr x3, vi v1] q4.2)).bind fun q6 =>
    if av_is q6.2 x5 3 = true then (
    (av_cI (ev X d 25 [vr x5, vi (q6.1)] q6.2)).bind fun q7 =>
    if q7.1 = 0 then
      (bd X d 176 14 [(0, vr v0), (1, vi v1), (2, vi v2), (3, vi v3), (4, vi (v4 + (1 : Int32)))] [] q7.2)
    else (av_gI q7.2 x3 0 6).bind fun x8 =>
    if (v3 + x8) < v2 then
      (bd X d 176 14 [(0, vr v0), (1, vi v1), (2, vi v2), (3, vi (v3 + x8)), (4, vi (v4 + (1 : Int32)))] [] q7.2)
    else (av_gI q7.2 x3 0 4).bind fun x9 =>
    av_rI x9 q7.2) else none) else none) else none)
  else av_rI (-1 : Int32) h :=
  (av_bd_eq av_Sg p_176 _ _ _ _ _).trans rfl
theorem e_176 (d : Nat) (v0 : Option Nat) (v1 : Int32) (v2 : Int32) (h : av_H) : ev X (d + 1) 176 [vr v0, vi v1, vi v2] h = bd X d 176 0 [(0, vr v0), (1, vi v1), (2, vi v2)] [] h := av_ev_eq av_Sg p_176 d _ h rfl
/-! 177 = X10_gap -/
set_option maxRecDepth 100000 in
theorem b_177_0 (d : Nat) (v0 : Option Nat) (v1 : Int32) (h : av_H) : bd X d 177 0 [(0, vr v0), (1, vi v1)] [] h =
  (av_cI (ev X d 191 [vi v1] h)).bind fun q1 =>
  if q1.1 = 0 then
    (av_rI (-1 : Int32) q1.2)
  else bd X d 177 9 [(0, vr v0), (1, vi v1), (2, vi (-1 : Int32)), (3, vi (0 : Int32))] [] q1.2 :=
  (av_bd_eq av_Sg p_177 _ _ _ _ _).trans rfl
set_option maxRecDepth 100000 in
theorem b_177_9 (d : Nat) (v0 : Option Nat) (v1 : Int32) (v2 : Int32) (v3 : Int32) (h : av_H) : bd X d 177 9 [(0, vr v0), (1, vi v1), (2, vi v2), (3, vi v3)] [] h =
  (av_gI h v0 10 17).bind fun x1 =>
  if v3 < x1 then
    ((av_gR h v0 10 13).bind fun x2 =>
    (av_lR h x2 105 v3).bind fun x3 =>
    if av_is h x3 0 = true then (
    (av_cI (ev X d 3 [vr x3, vi v1] h)).bind fun q4 =>
    if q4.1 = 0 then
      (bd X d 177 9 [(0, vr v0), (1, vi v1), (2, vi v2), (3, vi (v3 + (1 : Int32)))] [] q4.2)
    else (av_gR q4.2 v0 10 13).bind fun x5 =>
    (av_lR q4.2 x5 105 v3).bind fun x6 =>
    if av_is q4.2 x6 0 = true then (
    (av_cI (ev X d 5 [vr x6, vi v1] q4.2)).bind fun q7 =>
    (av_cI (ev X d 379 [vi v2, vi (q7.1)] q7.2)).bind fun q8 =>
    bd X d 177 9 [(0, vr v0), (1, vi v1), (2, vi (q8.1)), (3, vi (v3 + (1 : Int32)))] [] q8.2) else none) else none)
  else av_rI v2 h :=
  (av_bd_eq av_Sg p_177 _ _ _ _ _).trans rfl
theorem e_177 (d : Nat) (v0 : Option Nat) (v1 : Int32) (h : av_H) : ev X (d + 1) 177 [vr v0, vi v1] h = bd X d 177 0 [(0, vr v0), (1, vi v1)] [] h := av_ev_eq av_Sg p_177 d _ h rfl
/-! 178 = X10_row -/
set_option maxRecDepth 100000 in
theorem b_178_0 (d : Nat) (v0 : Option Nat) (v1 : Int32) (v2 : Int32) (v3 : Int32) (v4 : Int32) (v5 : Int32) (v6 : Int32) (v7 : Int32) (h : av_H) : bd X d 178 0 [(0, vr v0), (1, vi v1), (2, vi v2), (3, vi v3), (4, vi v4), (5, vi v5), (6, vi v6), (7, vi v7)] [] h =
  (av_gI h v0 10 18).bind fun x1 =>
  if x1 < (12 : Int32) then
    (if av_is h v0 10 = true then (
    (av_cI (ev X d 195 [vr v0, vi v1, vi v2, vi v3, vi v4, vi v5, vi v6, vi v7] h)).bind fun q2 =>
    if q2.1 = 0 then
      (av_rI (-1 : Int32) q2.2)
    else (av_gI q2.2 v0 10 18).bind fun x3 =>
    (av_gR q2.2 v0 10 14).bind fun x4 =>
    (av_sI q2.2 x4 (x3 * (7 : Int32)) v1).bind fun g5 =>
    (av_gR g5 v0 10 14).bind fun x6 =>
    (av_sI g5 x6 ((x3 * (7 : Int32)) + (1 : Int32)) v2).bind fun g7 =>
    (av_gR g7 v0 10 14).bind fun x8 =>
    (av_sI g7 x8 ((x3 * (7 : Int32)) + (2 : Int32)) v3).bind fun g9 =>
    (av_gR g9 v0 10 14).bind fun x10 =>
    (av_sI g9 x10 ((x3 * (7 : Int32)) + (3 : Int32)) v4).bind fun g11 =>
    (av_gR g11 v0 10 14).bind fun x12 =>
    (av_sI g11 x12 ((x3 * (7 : Int32)) + (4 : Int32)) v5).bind fun g13 =>
    (av_gR g13 v0 10 14).bind fun x14 =>
    (av_sI g13 x14 ((x3 * (7 : Int32)) + (5 : Int32)) v6).bind fun g15 =>
    (av_gR g15 v0 10 14).bind fun x16 =>
    (av_sI g15 x16 ((x3 * (7 : Int32)) + (6 : Int32)) v7).bind fun g17 =>
    (av_gI g17 v0 10 18).bind fun x18 =>
    (av_pI g17 v0 10 18 (x18 + (1 : Int32))).bind fun g19 =>
    (av_gI g19 v0 10 18).bind fun x20 =>
    av_rI x20 g19) else none)
  else av_rI (-1 : Int32) h :=
  (av_bd_eq av_Sg p_178 _ _ _ _ _).trans rfl
theorem e_178 (d : Nat) (v0 : Option Nat) (v1 : Int32) (v2 : Int32) (v3 : Int32) (v4 : Int32) (v5 : Int32) (v6 : Int32) (v7 : Int32) (h : av_H) : ev X (d + 1) 178 [vr v0, vi v1, vi v2, vi v3, vi v4, vi v5, vi v6, vi v7] h = bd X d 178 0 [(0, vr v0), (1, vi v1), (2, vi v2), (3, vi v3), (4, vi v4), (5, vi v5), (6, vi v6), (7, vi v7)] [] h := av_ev_eq av_Sg p_178 d _ h rfl
/-! 179 = X10_clear -/
set_option maxRecDepth 100000 in
theorem b_179_0 (d : Nat) (v0 : Option Nat) (h : av_H) : bd X d 179 0 [(0, vr v0)] [] h =
  (av_pI h v0 10 18 (0 : Int32)).bind fun g1 =>
  (av_bz (1 : Int32)).bind fun w => av_rI w g1 :=
  (av_bd_eq av_Sg p_179 _ _ _ _ _).trans rfl
theorem e_179 (d : Nat) (v0 : Option Nat) (h : av_H) : ev X (d + 1) 179 [vr v0] h = bd X d 179 0 [(0, vr v0)] [] h := av_ev_eq av_Sg p_179 d _ h rfl
/-! 180 = X10_tried -/
set_option maxRecDepth 100000 in
theorem b_180_0 (d : Nat) (v0 : Option Nat) (v1 : Int32) (h : av_H) : bd X d 180 0 [(0, vr v0), (1, vi v1)] [] h =
  (av_cI (ev X d 183 [vi v1, vi (0 : Int32), vi (4 : Int32)] h)).bind fun q1 =>
  if q1.1 = 0 then
    (av_rX (av_new q1.2 12 0))
  else (av_gI q1.2 v0 10 17).bind fun x2 =>
  (av_gR q1.2 v0 10 11).bind fun x3 =>
  (av_gR q1.2 v0 10 0).bind fun x4 =>
  if av_is q1.2 x3 2 = true then (
  (av_cV (ev X d 21 [vr x3, vi (4 : Int32), vi x2, vr x4] q1.2)).bind fun q5 =>
  if av_is q5 v0 10 = true then (
  (av_cI (ev X d 232 [vr v0] q5)).bind fun q6 =>
  if av_is q6.2 v0 10 = true then (
  (av_cL (ev X d 233 [vr v0, vi v1, vi x2, vi (q6.1)] q6.2)).bind fun q7 =>
  (av_gR q7.2 v0 10 11).bind fun x8 =>
  (av_gR q7.2 v0 10 0).bind fun x9 =>
  if av_is q7.2 x8 2 = true then (
  (av_cI (ev X d 22 [vr x8, vi (4 : Int32), vr x9] q7.2)).bind fun q10 =>
  (av_pI q10.2 v0 10 17 q10.1).bind fun g11 =>
  av_rL q7.1 g11) else none) else none) else none) else none :=
  (av_bd_eq av_Sg p_180 _ _ _ _ _).trans rfl
theorem e_180 (d : Nat) (v0 : Option Nat) (v1 : Int32) (h : av_H) : ev X (d + 1) 180 [vr v0, vi v1] h = bd X d 180 0 [(0, vr v0), (1, vi v1)] [] h := av_ev_eq av_Sg p_180 d _ h rfl
/-! 181 = X10_mark -/
set_option maxRecDepth 100000 in
theorem b_181_0 (d : Nat) (v0 : Option Nat) (v1 : Int32) (v2 : Int32) (h : av_H) : bd X d 181 0 [(0, vr v0), (1, vi v1), (2, vi v2)] [] h =
  (av_cI (ev X d 184 [vi v1, vi (4 : Int32)] h)).bind fun q1 =>
  if q1.1 = 0 then
    ((av_bz (0 : Int32)).bind fun w => av_rI w q1.2)
  else if v2 = 0 then
    ((av_gR q1.2 v0 10 11).bind fun x2 =>
    (av_gI q1.2 v0 10 17).bind fun x3 =>
    (av_gR q1.2 v0 10 0).bind fun x4 =>
    if av_is q1.2 x2 2 = true then (
    (av_cV (ev X d 19 [vr x2, vi v1, vi x3, vr x4] q1.2)).bind fun q5 =>
    (av_bz (1 : Int32)).bind fun w => av_rI w q5) else none)
  else (av_gR q1.2 v0 10 11).bind fun x6 =>
  if av_is q1.2 x6 2 = true then (
  (av_cI (ev X d 18 [vr x6, vi v1] q1.2)).bind fun q7 =>
  if q7.1 = 0 then
    ((av_bz (0 : Int32)).bind fun w => av_rI w q7.2)
  else (av_gR q7.2 v0 10 11).bind fun x8 =>
  (av_gR q7.2 v0 10 0).bind fun x9 =>
  if av_is q7.2 x8 2 = true then (
  (av_cI (ev X d 20 [vr x8, vi v1, vr x9] q7.2)).bind fun q10 =>
  (av_pI q10.2 v0 10 17 q10.1).bind fun g11 =>
  (av_bz (1 : Int32)).bind fun w => av_rI w g11) else none) else none :=
  (av_bd_eq av_Sg p_181 _ _ _ _ _).trans rfl
theorem e_181 (d : Nat) (v0 : Option Nat) (v1 : Int32) (v2 : Int32) (h : av_H) : ev X (d + 1) 181 [vr v0, vi v1, vi v2] h = bd X d 181 0 [(0, vr v0), (1, vi v1), (2, vi v2)] [] h := av_ev_eq av_Sg p_181 d _ h rfl
/-! 182 = X10_count -/
set_option maxRecDepth 100000 in
theorem b_182_0 (d : Nat) (v0 : Option Nat) (v1 : Int32) (h : av_H) : bd X d 182 0 [(0, vr v0), (1, vi v1)] [] h =
  if v1 = 0 then
    (if av_is h v0 10 = true then (
    (av_cI (ev X d 196 [vr v0] h)).bind fun q1 =>
    (av_cI (ev X d 377 [vi (q1.1)] q1.2)).bind fun q2 =>
    av_rI q2.1 q2.2) else none)
  else if v1 = 1 then
    ((av_gI h v0 10 17).bind fun x3 =>
    av_rI x3 h)
  else if v1 = 2 then
    ((av_gR h v0 10 2).bind fun x4 =>
    (av_gI h x4 8 5).bind fun x5 =>
    av_rI x5 h)
  else if v1 = 3 then
    ((av_gR h v0 10 3).bind fun x6 =>
    (av_gI h x6 8 5).bind fun x7 =>
    av_rI x7 h)
  else if v1 = 4 then
    ((av_gR h v0 10 9).bind fun x8 =>
    (av_gI h x8 4 0).bind fun x9 =>
    av_rI x9 h)
  else if v1 = 5 then
    ((av_gR h v0 10 10).bind fun x10 =>
    if av_is h x10 7 = true then (
    (av_cI (ev X d 105 [vr x10] h)).bind fun q11 =>
    av_rI q11.1 q11.2) else none)
  else if v1 = 6 then
    ((av_gR h v0 10 7).bind fun x12 =>
    (av_gI h x12 5 0).bind fun x13 =>
    av_rI x13 h)
  else if v1 = 7 then
    ((av_gR h v0 10 6).bind fun x14 =>
    if av_is h x14 3 = true then (
    (av_cI (ev X d 26 [vr x14] h)).bind fun q15 =>
    av_rI q15.1 q15.2) else none)
  else if v1 = 8 then
    (if av_is h v0 10 = true then (
    (av_cI (ev X d 197 [vr v0] h)).bind fun q16 =>
    av_rI q16.1 q16.2) else none)
  else if v1 = 9 then
    ((av_gR h v0 10 8).bind fun x17 =>
    (av_gI h x17 1 0).bind fun x18 =>
    av_rI x18 h)
  else if v1 = 10 then
    ((av_gR h v0 10 4).bind fun x19 =>
    (av_gI h x19 8 5).bind fun x20 =>
    av_rI x20 h)
  else if v1 = 11 then
    ((av_gR h v0 10 5).bind fun x21 =>
    (av_gI h x21 8 5).bind fun x22 =>
    av_rI x22 h)
  else if v1 = 12 then
    ((av_gI h v0 10 18).bind fun x23 =>
    av_rI x23 h)
  else av_rI (-1 : Int32) h :=
  (av_bd_eq av_Sg p_182 _ _ _ _ _).trans rfl
theorem e_182 (d : Nat) (v0 : Option Nat) (v1 : Int32) (h : av_H) : ev X (d + 1) 182 [vr v0, vi v1] h = bd X d 182 0 [(0, vr v0), (1, vi v1)] [] h := av_ev_eq av_Sg p_182 d _ h rfl
/-! 183 = X10_isWithin -/
set_option maxRecDepth 100000 in
theorem b_183_0 (d : Nat) (v0 : Int32) (v1 : Int32) (v2 : Int32) (h : av_H) : bd X d 183 0 [(0, vi v0), (1, vi v1), (2, vi v2)] [] h =
  if v0 < v1 then
    ((av_bz (0 : Int32)).bind fun w => av_rI w h)
  else if v2 < v0 then
    ((av_bz (0 : Int32)).bind fun w => av_rI w h)
  else (av_bz (1 : Int32)).bind fun w => av_rI w h :=
  (av_bd_eq av_Sg p_183 _ _ _ _ _).trans rfl
theorem e_183 (d : Nat) (v0 : Int32) (v1 : Int32) (v2 : Int32) (h : av_H) : ev X (d + 1) 183 [vi v0, vi v1, vi v2] h = bd X d 183 0 [(0, vi v0), (1, vi v1), (2, vi v2)] [] h := av_ev_eq av_Sg p_183 d _ h rfl
/-! 184 = X10_isBelow -/
set_option maxRecDepth 100000 in
theorem b_184_0 (d : Nat) (v0 : Int32) (v1 : Int32) (h : av_H) : bd X d 184 0 [(0, vi v0), (1, vi v1)] [] h =
  if v0 < 0 then
    ((av_bz (0 : Int32)).bind fun w => av_rI w h)
  else if v0 < v1 then
    ((av_bz (1 : Int32)).bind fun w => av_rI w h)
  else (av_bz (0 : Int32)).bind fun w => av_rI w h :=
  (av_bd_eq av_Sg p_184 _ _ _ _ _).trans rfl
theorem e_184 (d : Nat) (v0 : Int32) (v1 : Int32) (h : av_H) : ev X (d + 1) 184 [vi v0, vi v1] h = bd X d 184 0 [(0, vi v0), (1, vi v1)] [] h := av_ev_eq av_Sg p_184 d _ h rfl
/-! 185 = X10_hasBit -/
set_option maxRecDepth 100000 in
theorem b_185_0 (d : Nat) (v0 : Int32) (v1 : Int32) (h : av_H) : bd X d 185 0 [(0, vi v0), (1, vi v1)] [] h =
  if ((v0 >>> (v1 &&& 31)) &&& (1 : Int32)) = 0 then
    ((av_bz (0 : Int32)).bind fun w => av_rI w h)
  else (av_bz (1 : Int32)).bind fun w => av_rI w h :=
  (av_bd_eq av_Sg p_185 _ _ _ _ _).trans rfl
theorem e_185 (d : Nat) (v0 : Int32) (v1 : Int32) (h : av_H) : ev X (d + 1) 185 [vi v0, vi v1] h = bd X d 185 0 [(0, vi v0), (1, vi v1)] [] h := av_ev_eq av_Sg p_185 d _ h rfl
/-! 186 = X10_isSide -/
set_option maxRecDepth 100000 in
theorem b_186_0 (d : Nat) (v0 : Int32) (h : av_H) : bd X d 186 0 [(0, vi v0)] [] h =
  (av_cI (ev X d 184 [vi v0, vi (4 : Int32)] h)).bind fun q1 =>
  (av_bz q1.1).bind fun w => av_rI w q1.2 :=
  (av_bd_eq av_Sg p_186 _ _ _ _ _).trans rfl
theorem e_186 (d : Nat) (v0 : Int32) (h : av_H) : ev X (d + 1) 186 [vi v0] h = bd X d 186 0 [(0, vi v0)] [] h := av_ev_eq av_Sg p_186 d _ h rfl
/-! 187 = X10_isDay -/
set_option maxRecDepth 100000 in
theorem b_187_0 (d : Nat) (v0 : Int32) (h : av_H) : bd X d 187 0 [(0, vi v0)] [] h =
  (av_cI (ev X d 184 [vi v0, vi (100 : Int32)] h)).bind fun q1 =>
  (av_bz q1.1).bind fun w => av_rI w q1.2 :=
  (av_bd_eq av_Sg p_187 _ _ _ _ _).trans rfl
theorem e_187 (d : Nat) (v0 : Int32) (h : av_H) : ev X (d + 1) 187 [vi v0] h = bd X d 187 0 [(0, vi v0)] [] h := av_ev_eq av_Sg p_187 d _ h rfl
/-! 188 = X10_areDays -/
set_option maxRecDepth 100000 in
theorem b_188_0 (d : Nat) (v0 : Int32) (v1 : Int32) (h : av_H) : bd X d 188 0 [(0, vi v0), (1, vi v1)] [] h =
  (av_cI (ev X d 187 [vi v0] h)).bind fun q1 =>
  if q1.1 = 0 then
    ((av_bz (0 : Int32)).bind fun w => av_rI w q1.2)
  else (av_cI (ev X d 187 [vi v1] q1.2)).bind fun q2 =>
  if q2.1 = 0 then
    ((av_bz (0 : Int32)).bind fun w => av_rI w q2.2)
  else if v1 < v0 then
    ((av_bz (0 : Int32)).bind fun w => av_rI w q2.2)
  else (av_bz (1 : Int32)).bind fun w => av_rI w q2.2 :=
  (av_bd_eq av_Sg p_188 _ _ _ _ _).trans rfl
theorem e_188 (d : Nat) (v0 : Int32) (v1 : Int32) (h : av_H) : ev X (d + 1) 188 [vi v0, vi v1] h = bd X d 188 0 [(0, vi v0), (1, vi v1)] [] h := av_ev_eq av_Sg p_188 d _ h rfl
/-! 189 = X10_isHour -/
set_option maxRecDepth 100000 in
theorem b_189_0 (d : Nat) (v0 : Int32) (h : av_H) : bd X d 189 0 [(0, vi v0)] [] h =
  (av_cI (ev X d 184 [vi v0, vi (24 : Int32)] h)).bind fun q1 =>
  (av_bz q1.1).bind fun w => av_rI w q1.2 :=
  (av_bd_eq av_Sg p_189 _ _ _ _ _).trans rfl
theorem e_189 (d : Nat) (v0 : Int32) (h : av_H) : ev X (d + 1) 189 [vi v0] h = bd X d 189 0 [(0, vi v0)] [] h := av_ev_eq av_Sg p_189 d _ h rfl
/-! 190 = X10_areHours -/
set_option maxRecDepth 100000 in
theorem b_190_0 (d : Nat) (v0 : Int32) (v1 : Int32) (h : av_H) : bd X d 190 0 [(0, vi v0), (1, vi v1)] [] h =
  (av_cI (ev X d 189 [vi v0] h)).bind fun q1 =>
  if q1.1 = 0 then
    ((av_bz (0 : Int32)).bind fun w => av_rI w q1.2)
  else (av_cI (ev X d 189 [vi v1] q1.2)).bind fun q2 =>
  if q2.1 = 0 then
    ((av_bz (0 : Int32)).bind fun w => av_rI w q2.2)
  else if v1 < v0 then
    ((av_bz (0 : Int32)).bind fun w => av_rI w q2.2)
  else (av_bz (1 : Int32)).bind fun w => av_rI w q2.2 :=
  (av_bd_eq av_Sg p_190 _ _ _ _ _).trans rfl
theorem e_190 (d : Nat) (v0 : Int32) (v1 : Int32) (h : av_H) : ev X (d + 1) 190 [vi v0, vi v1] h = bd X d 190 0 [(0, vi v0), (1, vi v1)] [] h := av_ev_eq av_Sg p_190 d _ h rfl
/-! 191 = X10_isPerson -/
set_option maxRecDepth 100000 in
theorem b_191_0 (d : Nat) (v0 : Int32) (h : av_H) : bd X d 191 0 [(0, vi v0)] [] h =
  (av_cI (ev X d 184 [vi v0, vi (10 : Int32)] h)).bind fun q1 =>
  (av_bz q1.1).bind fun w => av_rI w q1.2 :=
  (av_bd_eq av_Sg p_191 _ _ _ _ _).trans rfl
theorem e_191 (d : Nat) (v0 : Int32) (h : av_H) : ev X (d + 1) 191 [vi v0] h = bd X d 191 0 [(0, vi v0)] [] h := av_ev_eq av_Sg p_191 d _ h rfl
/-! 192 = X10_isTold -/
set_option maxRecDepth 100000 in
theorem b_192_0 (d : Nat) (v0 : Option Nat) (v1 : Int32) (h : av_H) : bd X d 192 0 [(0, vr v0), (1, vi v1)] [] h =
  (av_cI (ev X d 184 [vi v1, vi (6 : Int32)] h)).bind fun q1 =>
  if q1.1 = 0 then
    ((av_bz (0 : Int32)).bind fun w => av_rI w q1.2)
  else (av_gR q1.2 v0 10 0).bind fun x2 =>
  (av_lR q1.2 x2 104 v1).bind fun x3 =>
  if x3.isNone = true then
    ((av_bz (0 : Int32)).bind fun w => av_rI w q1.2)
  else (av_bz (1 : Int32)).bind fun w => av_rI w q1.2 :=
  (av_bd_eq av_Sg p_192 _ _ _ _ _).trans rfl
theorem e_192 (d : Nat) (v0 : Option Nat) (v1 : Int32) (h : av_H) : ev X (d + 1) 192 [vr v0, vi v1] h = bd X d 192 0 [(0, vr v0), (1, vi v1)] [] h := av_ev_eq av_Sg p_192 d _ h rfl
/-! 193 = X10_isStop -/
set_option maxRecDepth 100000 in
theorem b_193_0 (d : Nat) (v0 : Option Nat) (v1 : Int32) (v2 : Int32) (v3 : Int32) (h : av_H) : bd X d 193 0 [(0, vr v0), (1, vi v1), (2, vi v2), (3, vi v3)] [] h =
  if av_is h v0 10 = true then (
  (av_cI (ev X d 192 [vr v0, vi v1] h)).bind fun q1 =>
  if q1.1 = 0 then
    ((av_bz (0 : Int32)).bind fun w => av_rI w q1.2)
  else (av_cI (ev X d 186 [vi v2] q1.2)).bind fun q2 =>
  if q2.1 = 0 then
    ((av_bz (0 : Int32)).bind fun w => av_rI w q2.2)
  else (av_gR q2.2 v0 10 0).bind fun x3 =>
  (av_lR q2.2 x3 104 v1).bind fun x4 =>
  (av_gI q2.2 x4 9 1).bind fun x5 =>
  (av_cI (ev X d 184 [vi v3, vi x5] q2.2)).bind fun q6 =>
  if q6.1 = 0 then
    ((av_bz (0 : Int32)).bind fun w => av_rI w q6.2)
  else (av_bz (1 : Int32)).bind fun w => av_rI w q6.2) else none :=
  (av_bd_eq av_Sg p_193 _ _ _ _ _).trans rfl
theorem e_193 (d : Nat) (v0 : Option Nat) (v1 : Int32) (v2 : Int32) (v3 : Int32) (h : av_H) : ev X (d + 1) 193 [vr v0, vi v1, vi v2, vi v3] h = bd X d 193 0 [(0, vr v0), (1, vi v1), (2, vi v2), (3, vi v3)] [] h := av_ev_eq av_Sg p_193 d _ h rfl
/-! 194 = X10_isPane -/
set_option maxRecDepth 100000 in
theorem b_194_0 (d : Nat) (v0 : Option Nat) (v1 : Int32) (v2 : Int32) (v3 : Int32) (v4 : Int32) (h : av_H) : bd X d 194 0 [(0, vr v0), (1, vi v1), (2, vi v2), (3, vi v3), (4, vi v4)] [] h =
  if av_is h v0 10 = true then (
  (av_cI (ev X d 193 [vr v0, vi v1, vi v2, vi v4] h)).bind fun q1 =>
  if q1.1 = 0 then
    ((av_bz (0 : Int32)).bind fun w => av_rI w q1.2)
  else (av_gR q1.2 v0 10 0).bind fun x2 =>
  (av_lR q1.2 x2 104 v1).bind fun x3 =>
  (av_gI q1.2 x3 9 0).bind fun x4 =>
  (av_cI (ev X d 184 [vi v3, vi x4] q1.2)).bind fun q5 =>
  if q5.1 = 0 then
    ((av_bz (0 : Int32)).bind fun w => av_rI w q5.2)
  else (av_bz (1 : Int32)).bind fun w => av_rI w q5.2) else none :=
  (av_bd_eq av_Sg p_194 _ _ _ _ _).trans rfl
theorem e_194 (d : Nat) (v0 : Option Nat) (v1 : Int32) (v2 : Int32) (v3 : Int32) (v4 : Int32) (h : av_H) : ev X (d + 1) 194 [vr v0, vi v1, vi v2, vi v3, vi v4] h = bd X d 194 0 [(0, vr v0), (1, vi v1), (2, vi v2), (3, vi v3), (4, vi v4)] [] h := av_ev_eq av_Sg p_194 d _ h rfl
/-! 195 = X10_isAskable -/
set_option maxRecDepth 100000 in
theorem b_195_0 (d : Nat) (v0 : Option Nat) (v1 : Int32) (v2 : Int32) (v3 : Int32) (v4 : Int32) (v5 : Int32) (v6 : Int32) (v7 : Int32) (h : av_H) : bd X d 195 0 [(0, vr v0), (1, vi v1), (2, vi v2), (3, vi v3), (4, vi v4), (5, vi v5), (6, vi v6), (7, vi v7)] [] h =
  if av_is h v0 10 = true then (
  (av_cI (ev X d 193 [vr v0, vi v1, vi v2, vi v3] h)).bind fun q1 =>
  if q1.1 = 0 then
    ((av_bz (0 : Int32)).bind fun w => av_rI w q1.2)
  else (av_cI (ev X d 187 [vi v4] q1.2)).bind fun q2 =>
  if q2.1 = 0 then
    ((av_bz (0 : Int32)).bind fun w => av_rI w q2.2)
  else (av_cI (ev X d 189 [vi v5] q2.2)).bind fun q3 =>
  if q3.1 = 0 then
    ((av_bz (0 : Int32)).bind fun w => av_rI w q3.2)
  else (av_cI (ev X d 191 [vi v6] q3.2)).bind fun q4 =>
  if q4.1 = 0 then
    ((av_bz (0 : Int32)).bind fun w => av_rI w q4.2)
  else (av_cI (ev X d 191 [vi v7] q4.2)).bind fun q5 =>
  if q5.1 = 0 then
    ((av_bz (0 : Int32)).bind fun w => av_rI w q5.2)
  else (av_bz (1 : Int32)).bind fun w => av_rI w q5.2) else none :=
  (av_bd_eq av_Sg p_195 _ _ _ _ _).trans rfl
theorem e_195 (d : Nat) (v0 : Option Nat) (v1 : Int32) (v2 : Int32) (v3 : Int32) (v4 : Int32) (v5 : Int32) (v6 : Int32) (v7 : Int32) (h : av_H) : ev X (d + 1) 195 [vr v0, vi v1, vi v2, vi v3, vi v4, vi v5, vi v6, vi v7] h = bd X d 195 0 [(0, vr v0), (1, vi v1), (2, vi v2), (3, vi v3), (4, vi v4), (5, vi v5), (6, vi v6), (7, vi v7)] [] h := av_ev_eq av_Sg p_195 d _ h rfl
/-! 196 = X10_toldTowers -/
set_option maxRecDepth 100000 in
theorem b_196_0 (d : Nat) (v0 : Option Nat) (h : av_H) : bd X d 196 0 [(0, vr v0)] [] h =
  bd X d 196 4 [(0, vr v0), (1, vi (0 : Int32)), (2, vi (0 : Int32))] [] h :=
  (av_bd_eq av_Sg p_196 _ _ _ _ _).trans rfl
set_option maxRecDepth 100000 in
theorem b_196_4 (d : Nat) (v0 : Option Nat) (v1 : Int32) (v2 : Int32) (h : av_H) : bd X d 196 4 [(0, vr v0), (1, vi v1), (2, vi v2)] [] h =
  if v2 < (6 : Int32) then
    ((av_gR h v0 10 0).bind fun x1 =>
    (av_lR h x1 104 v2).bind fun x2 =>
    if x2.isNone = true then
      (bd X d 196 4 [(0, vr v0), (1, vi (v1 ||| (0 : Int32))), (2, vi (v2 + (1 : Int32)))] [] h)
    else bd X d 196 4 [(0, vr v0), (1, vi (v1 ||| ((1 : Int32) <<< (v2 &&& 31)))), (2, vi (v2 + (1 : Int32)))] [] h)
  else av_rI v1 h :=
  (av_bd_eq av_Sg p_196 _ _ _ _ _).trans rfl
theorem e_196 (d : Nat) (v0 : Option Nat) (h : av_H) : ev X (d + 1) 196 [vr v0] h = bd X d 196 0 [(0, vr v0)] [] h := av_ev_eq av_Sg p_196 d _ h rfl
/-! 197 = X10_blockedPanes -/
set_option maxRecDepth 100000 in
theorem b_197_0 (d : Nat) (v0 : Option Nat) (h : av_H) : bd X d 197 0 [(0, vr v0)] [] h =
  bd X d 197 4 [(0, vr v0), (1, vi (0 : Int32)), (2, vi (0 : Int32))] [] h :=
  (av_bd_eq av_Sg p_197 _ _ _ _ _).trans rfl
set_option maxRecDepth 100000 in
theorem b_197_4 (d : Nat) (v0 : Option Nat) (v1 : Int32) (v2 : Int32) (h : av_H) : bd X d 197 4 [(0, vr v0), (1, vi v1), (2, vi v2)] [] h =
  if v2 < (6 : Int32) then
    ((av_gR h v0 10 0).bind fun x1 =>
    (av_lR h x1 104 v2).bind fun x2 =>
    if x2.isNone = true then
      (bd X d 197 4 [(0, vr v0), (1, vi (v1 + (0 : Int32))), (2, vi (v2 + (1 : Int32)))] [] h)
    else (av_gR h v0 10 0).bind fun x3 =>
    (av_lR h x3 104 v2).bind fun x4 =>
    if av_is h x4 9 = true then (
    (av_cI (ev X d 119 [vr x4] h)).bind fun q5 =>
    bd X d 197 4 [(0, vr v0), (1, vi (v1 + q5.1)), (2, vi (v2 + (1 : Int32)))] [] q5.2) else none)
  else av_rI v1 h :=
  (av_bd_eq av_Sg p_197 _ _ _ _ _).trans rfl
theorem e_197 (d : Nat) (v0 : Option Nat) (h : av_H) : ev X (d + 1) 197 [vr v0] h = bd X d 197 0 [(0, vr v0)] [] h := av_ev_eq av_Sg p_197 d _ h rfl
/-! 198 = X10_sidePlace -/
set_option maxRecDepth 100000 in
theorem b_198_0 (d : Nat) (v0 : Int32) (v1 : Int32) (h : av_H) : bd X d 198 0 [(0, vi v0), (1, vi v1)] [] h =
  av_rI ((v0 * (4 : Int32)) + v1) h :=
  (av_bd_eq av_Sg p_198 _ _ _ _ _).trans rfl
theorem e_198 (d : Nat) (v0 : Int32) (v1 : Int32) (h : av_H) : ev X (d + 1) 198 [vi v0, vi v1] h = bd X d 198 0 [(0, vi v0), (1, vi v1)] [] h := av_ev_eq av_Sg p_198 d _ h rfl
/-! 199 = X10_columnPlace -/
set_option maxRecDepth 100000 in
theorem b_199_0 (d : Nat) (v0 : Int32) (v1 : Int32) (v2 : Int32) (h : av_H) : bd X d 199 0 [(0, vi v0), (1, vi v1), (2, vi v2)] [] h =
  (av_cI (ev X d 198 [vi v0, vi v1] h)).bind fun q1 =>
  av_rI ((q1.1 * (10 : Int32)) + v2) q1.2 :=
  (av_bd_eq av_Sg p_199 _ _ _ _ _).trans rfl
theorem e_199 (d : Nat) (v0 : Int32) (v1 : Int32) (v2 : Int32) (h : av_H) : ev X (d + 1) 199 [vi v0, vi v1, vi v2] h = bd X d 199 0 [(0, vi v0), (1, vi v1), (2, vi v2)] [] h := av_ev_eq av_Sg p_199 d _ h rfl
/-! 200 = X10_panePlace -/
set_option maxRecDepth 100000 in
theorem b_200_0 (d : Nat) (v0 : Int32) (v1 : Int32) (v2 : Int32) (v3 : Int32) (h : av_H) : bd X d 200 0 [(0, vi v0), (1, vi v1), (2, vi v2), (3, vi v3)] [] h =
  (av_cI (ev X d 199 [vi v0, vi v1, vi v3] h)).bind fun q1 =>
  av_rI ((q1.1 * (12 : Int32)) + v2) q1.2 :=
  (av_bd_eq av_Sg p_200 _ _ _ _ _).trans rfl
theorem e_200 (d : Nat) (v0 : Int32) (v1 : Int32) (v2 : Int32) (v3 : Int32) (h : av_H) : ev X (d + 1) 200 [vi v0, vi v1, vi v2, vi v3] h = bd X d 200 0 [(0, vi v0), (1, vi v1), (2, vi v2), (3, vi v3)] [] h := av_ev_eq av_Sg p_200 d _ h rfl
/-! 201 = X10_windIn -/
set_option maxRecDepth 100000 in
theorem b_201_0 (d : Nat) (v0 : Option Nat) (v1 : Int32) (v2 : Int32) (v3 : Int32) (h : av_H) : bd X d 201 0 [(0, vr v0), (1, vi v1), (2, vi v2), (3, vi v3)] [] h =
  (av_gR h v0 10 1).bind fun x1 =>
  (av_len X h x1).bind fun x2 =>
  (av_cI (ev X d 184 [vi ((v2 * (24 : Int32)) + v3), vi x2] h)).bind fun q3 =>
  if q3.1 = 0 then
    (av_rI (0 : Int32) q3.2)
  else (av_gR q3.2 v0 10 1).bind fun x4 =>
  (av_lI X q3.2 x4 ((v2 * (24 : Int32)) + v3)).bind fun x5 =>
  av_rI ((x5 >>> ((v1 * (8 : Int32)) &&& 31)) &&& (127 : Int32)) q3.2 :=
  (av_bd_eq av_Sg p_201 _ _ _ _ _).trans rfl
theorem e_201 (d : Nat) (v0 : Option Nat) (v1 : Int32) (v2 : Int32) (v3 : Int32) (h : av_H) : ev X (d + 1) 201 [vr v0, vi v1, vi v2, vi v3] h = bd X d 201 0 [(0, vr v0), (1, vi v1), (2, vi v2), (3, vi v3)] [] h := av_ev_eq av_Sg p_201 d _ h rfl
/-! 202 = X10_reachedPanes -/
set_option maxRecDepth 100000 in
theorem b_202_0 (d : Nat) (v0 : Option Nat) (v1 : Int32) (v2 : Int32) (v3 : Int32) (v4 : Int32) (h : av_H) : bd X d 202 0 [(0, vr v0), (1, vi v1), (2, vi v2), (3, vi v3), (4, vi v4)] [] h =
  (av_gR h v0 10 0).bind fun x1 =>
  (av_lR h x1 104 v1).bind fun x2 =>
  bd X d 202 9 [(0, vr v0), (1, vi v1), (2, vi v2), (3, vi v3), (4, vi v4), (5, vr x2), (6, vl (0 : Int64)), (8, vi (0 : Int32))] [] h :=
  (av_bd_eq av_Sg p_202 _ _ _ _ _).trans rfl
set_option maxRecDepth 100000 in
theorem b_202_9 (d : Nat) (v0 : Option Nat) (v1 : Int32) (v2 : Int32) (v3 : Int32) (v4 : Int32) (v5 : Option Nat) (v6 : Int64) (v8 : Int32) (h : av_H) : bd X d 202 9 [(0, vr v0), (1, vi v1), (2, vi v2), (3, vi v3), (4, vi v4), (5, vr v5), (6, vl v6), (8, vi v8)] [] h =
  (av_gI h v5 9 2).bind fun x1 =>
  if v8 < x1 then
    ((av_gI h v5 9 1).bind fun x2 =>
    if (v3 + v8) < x2 then
      ((av_gR h v0 10 2).bind fun x3 =>
      (av_cI (ev X d 199 [vi v1, vi v2, vi (v3 + v8)] h)).bind fun q4 =>
      if av_is q4.2 x3 8 = true then (
      (av_cI (ev X d 114 [vr x3, vi (q4.1), vi v4] q4.2)).bind fun q5 =>
      if av_is q5.2 v5 9 = true then (
      (av_cI (ev X d 118 [vr v5, vi v2, vi (v3 + v8)] q5.2)).bind fun q6 =>
      bd X d 202 9 [(0, vr v0), (1, vi v1), (2, vi v2), (3, vi v3), (4, vi v4), (5, vr v5), (6, vl (v6 ||| (((q6.1 &&& (q5.1 ^^^ (-1 : Int32))).toInt64) <<< ((v8 * (12 : Int32)).toInt64 &&& 63)))), (8, vi (v8 + (1 : Int32)))] [] q6.2) else none) else none)
    else av_rL v6 h)
  else av_rL v6 h :=
  (av_bd_eq av_Sg p_202 _ _ _ _ _).trans rfl
theorem e_202 (d : Nat) (v0 : Option Nat) (v1 : Int32) (v2 : Int32) (v3 : Int32) (v4 : Int32) (h : av_H) : ev X (d + 1) 202 [vr v0, vi v1, vi v2, vi v3, vi v4] h = bd X d 202 0 [(0, vr v0), (1, vi v1), (2, vi v2), (3, vi v3), (4, vi v4)] [] h := av_ev_eq av_Sg p_202 d _ h rfl
/-! 203 = X10_ask -/
set_option maxRecDepth 100000 in
theorem b_203_0 (d : Nat) (v0 : Option Nat) (v1 : Int32) (v2 : Int32) (v3 : Int32) (v4 : Int32) (v5 : Int32) (v6 : Int32) (v7 : Int32) (h : av_H) : bd X d 203 0 [(0, vr v0), (1, vi v1), (2, vi v2), (3, vi v3), (4, vi v4), (5, vi v5), (6, vi v6), (7, vi v7)] [] h =
  if av_is h v0 10 = true then (
  (av_cI (ev X d 195 [vr v0, vi v1, vi v2, vi v3, vi v4, vi v5, vi v6, vi v7] h)).bind fun q1 =>
  if q1.1 = 0 then
    (av_rI (-1 : Int32) q1.2)
  else (av_gI q1.2 v0 10 17).bind fun x2 =>
  if x2 < (60 : Int32) then
    ((av_gI q1.2 v0 10 17).bind fun x3 =>
    if 0 < x3 then
      ((av_gR q1.2 v0 10 13).bind fun x4 =>
      (av_gI q1.2 v0 10 17).bind fun x5 =>
      (av_lR q1.2 x4 105 (x5 - (1 : Int32))).bind fun x6 =>
      (av_gI q1.2 x6 0 4).bind fun x7 =>
      if v4 < x7 then
        (av_rI (-1 : Int32) q1.2)
      else bd X d 203 31 [(0, vr v0), (1, vi v1), (2, vi v2), (3, vi v3), (4, vi v4), (5, vi v5), (6, vi v6), (7, vi v7)] [] q1.2)
    else bd X d 203 31 [(0, vr v0), (1, vi v1), (2, vi v2), (3, vi v3), (4, vi v4), (5, vi v5), (6, vi v6), (7, vi v7)] [] q1.2)
  else av_rI (-1 : Int32) q1.2) else none :=
  (av_bd_eq av_Sg p_203 _ _ _ _ _).trans rfl
set_option maxRecDepth 100000 in
theorem b_203_31 (d : Nat) (v0 : Option Nat) (v1 : Int32) (v2 : Int32) (v3 : Int32) (v4 : Int32) (v5 : Int32) (v6 : Int32) (v7 : Int32) (h : av_H) : bd X d 203 31 [(0, vr v0), (1, vi v1), (2, vi v2), (3, vi v3), (4, vi v4), (5, vi v5), (6, vi v6), (7, vi v7)] [] h =
  (av_gR h v0 10 13).bind fun x1 =>
  (av_gI h v0 10 17).bind fun x2 =>
  (av_lR h x1 105 x2).bind fun x3 =>
  if av_is h x3 0 = true then (
  (av_cV (ev X d 1 [vr x3, vi v1, vi v2, vi v3] h)).bind fun q4 =>
  (av_pI q4 x3 0 4 v4).bind fun g5 =>
  (av_pI g5 x3 0 5 v5).bind fun g6 =>
  (av_pI g6 x3 0 8 v6).bind fun g7 =>
  (av_pI g7 x3 0 9 v7).bind fun g8 =>
  (av_gR g8 v0 10 6).bind fun x9 =>
  (av_gR g8 x9 3 0).bind fun x10 =>
  (av_lI X g8 x10 v6).bind fun x11 =>
  (av_pI g8 x3 0 10 x11).bind fun g12 =>
  (av_gR g12 v0 10 6).bind fun x13 =>
  (av_gR g12 x13 3 0).bind fun x14 =>
  (av_lI X g12 x14 v7).bind fun x15 =>
  (av_pI g12 x3 0 11 x15).bind fun g16 =>
  (av_gR g16 v0 10 0).bind fun x17 =>
  (av_lR g16 x17 104 v1).bind fun x18 =>
  if av_is g16 v0 10 = true then (
  (av_cV (ev X d 204 [vr v0, vr x3, vr x18] g16)).bind fun q19 =>
  (av_gR q19 v0 10 0).bind fun x20 =>
  (av_lR q19 x20 104 v1).bind fun x21 =>
  if av_is q19 v0 10 = true then (
  (av_cI (ev X d 206 [vr v0, vr x3, vr x21] q19)).bind fun q22 =>
  if q22.1 = 0 then
    ((av_gR q22.2 v0 10 0).bind fun x23 =>
    (av_lR q22.2 x23 104 v1).bind fun x24 =>
    if av_is q22.2 v0 10 = true then (
    (av_cI (ev X d 207 [vr v0, vr x3, vr x24] q22.2)).bind fun q25 =>
    av_rI q25.1 q25.2) else none)
  else av_rI q22.1 q22.2) else none) else none) else none :=
  (av_bd_eq av_Sg p_203 _ _ _ _ _).trans rfl
theorem e_203 (d : Nat) (v0 : Option Nat) (v1 : Int32) (v2 : Int32) (v3 : Int32) (v4 : Int32) (v5 : Int32) (v6 : Int32) (v7 : Int32) (h : av_H) : ev X (d + 1) 203 [vr v0, vi v1, vi v2, vi v3, vi v4, vi v5, vi v6, vi v7] h = bd X d 203 0 [(0, vr v0), (1, vi v1), (2, vi v2), (3, vi v3), (4, vi v4), (5, vi v5), (6, vi v6), (7, vi v7)] [] h := av_ev_eq av_Sg p_203 d _ h rfl
/-! 204 = X10_weigh -/
set_option maxRecDepth 100000 in
theorem b_204_0 (d : Nat) (v0 : Option Nat) (v1 : Option Nat) (v2 : Option Nat) (h : av_H) : bd X d 204 0 [(0, vr v0), (1, vr v1), (2, vr v2)] [] h =
  (av_gI h v2 9 0).bind fun x1 =>
  (av_pI h v1 0 3 x1).bind fun g2 =>
  (av_gR g2 v0 10 15).bind fun x3 =>
  (av_gI g2 x3 6 2).bind fun x4 =>
  (av_pI g2 v1 0 7 x4).bind fun g5 =>
  (av_gI g5 v2 9 0).bind fun x6 =>
  (av_gI g5 v1 0 7).bind fun x7 =>
  (av_gI g5 v1 0 7).bind fun x8 =>
  (av_cI (ev X d 379 [vi (1 : Int32), vi x8] g5)).bind fun q9 =>
  if q9.1 = 0 then none else (av_pI q9.2 v1 0 6 (((x6 + x7) - (1 : Int32)) / q9.1)).bind fun g10 =>
  (av_gI g10 v1 0 0).bind fun x11 =>
  (av_gI g10 v1 0 1).bind fun x12 =>
  (av_gI g10 v1 0 2).bind fun x13 =>
  (av_gI g10 v1 0 4).bind fun x14 =>
  if av_is g10 v0 10 = true then (
  (av_cL (ev X d 202 [vr v0, vi x11, vi x12, vi x13, vi x14] g10)).bind fun q15 =>
  (av_pL q15.2 v1 0 18 q15.1).bind fun g16 =>
  (av_gL g16 v1 0 18).bind fun x17 =>
  (av_cI (ev X d 378 [vl x17] g16)).bind fun q18 =>
  (av_pI q18.2 v1 0 12 q18.1).bind fun g19 =>
  (av_gI g19 v2 9 4).bind fun x20 =>
  (av_pI g19 v1 0 13 x20).bind fun g21 =>
  if av_is g21 v0 10 = true then (
  (av_cI (ev X d 205 [vr v0, vr v1] g21)).bind fun q22 =>
  (av_pI q22.2 v1 0 14 q22.1).bind fun g23 =>
  if av_is g23 v0 10 = true then (
  (av_cV (ev X d 217 [vr v0, vr v1] g23)).bind fun q24 =>
  (av_gI q24 v1 0 1).bind fun x25 =>
  (av_gI q24 v1 0 4).bind fun x26 =>
  (av_gI q24 v1 0 5).bind fun x27 =>
  if av_is q24 v0 10 = true then (
  (av_cV (ev X d 220 [vr v0, vi x25, vi x26, vi x27] q24)).bind fun q28 =>
  (av_gR q28 v0 10 15).bind fun x29 =>
  (av_gR q28 v0 10 12).bind fun x30 =>
  if av_is q28 x29 6 = true then (
  (av_cI (ev X d 101 [vr x29, vi (12 : Int32), vr x30] q28)).bind fun q31 =>
  (av_cI (ev X d 379 [vi (0 : Int32), vi (q31.1)] q31.2)).bind fun q32 =>
  (av_pI q32.2 v1 0 15 q32.1).bind fun g33 =>
  (av_gR g33 v0 10 15).bind fun x34 =>
  (av_gR g33 v0 10 12).bind fun x35 =>
  if av_is g33 x34 6 = true then (
  (av_cI (ev X d 101 [vr x34, vi (13 : Int32), vr x35] g33)).bind fun q36 =>
  (av_cI (ev X d 379 [vi (0 : Int32), vi (q36.1)] q36.2)).bind fun q37 =>
  (av_pI q37.2 v1 0 16 q37.1).bind fun g38 =>
  (av_gR g38 v0 10 15).bind fun x39 =>
  (av_gR g38 v0 10 12).bind fun x40 =>
  if av_is g38 x39 6 = true then (
  (av_cI (ev X d 101 [vr x39, vi (14 : Int32), vr x40] g38)).bind fun q41 =>
  (av_cI (ev X d 379 [vi (0 : Int32), vi (q41.1)] q41.2)).bind fun q42 =>
  (av_pI q42.2 v1 0 17 q42.1).bind fun g43 =>
  av_rV g43) else none) else none) else none) else none) else none) else none) else none :=
  (av_bd_eq av_Sg p_204 _ _ _ _ _).trans rfl
theorem e_204 (d : Nat) (v0 : Option Nat) (v1 : Option Nat) (v2 : Option Nat) (h : av_H) : ev X (d + 1) 204 [vr v0, vr v1, vr v2] h = bd X d 204 0 [(0, vr v0), (1, vr v1), (2, vr v2)] [] h := av_ev_eq av_Sg p_204 d _ h rfl
/-! 205 = X10_ageAhead -/
set_option maxRecDepth 100000 in
theorem b_205_0 (d : Nat) (v0 : Option Nat) (v1 : Option Nat) (h : av_H) : bd X d 205 0 [(0, vr v0), (1, vr v1)] [] h =
  (av_gL h v1 0 18).bind fun x1 =>
  (av_gI h v1 0 4).bind fun x2 =>
  (av_gI h v0 10 17).bind fun x3 =>
  bd X d 205 11 [(0, vr v0), (1, vr v1), (2, vl x1), (4, vi x2), (5, vi (x3 - (1 : Int32)))] [] h :=
  (av_bd_eq av_Sg p_205 _ _ _ _ _).trans rfl
set_option maxRecDepth 100000 in
theorem b_205_11 (d : Nat) (v0 : Option Nat) (v1 : Option Nat) (v2 : Int64) (v4 : Int32) (v5 : Int32) (h : av_H) : bd X d 205 11 [(0, vr v0), (1, vr v1), (2, vl v2), (4, vi v4), (5, vi v5)] [] h =
  if v5 < 0 then
    (bd X d 205 44 [(1, vr v1), (2, vl v2), (4, vi v4)] [] h)
  else if (lg_cmp v2 (0 : Int64)) = 0 then
    (bd X d 205 44 [(1, vr v1), (2, vl v2), (4, vi v4)] [] h)
  else (av_gR h v0 10 13).bind fun x1 =>
  (av_lR h x1 105 v5).bind fun x2 =>
  if av_is h x2 0 = true then (
  (av_cL (ev X d 8 [vr x2, vr v1] h)).bind fun q3 =>
  if (lg_cmp (v2 &&& q3.1) (0 : Int64)) = 0 then
    (bd X d 205 11 [(0, vr v0), (1, vr v1), (2, vl v2), (4, vi v4), (5, vi (v5 + (-1 : Int32)))] [] q3.2)
  else (av_gR q3.2 v0 10 13).bind fun x4 =>
  (av_lR q3.2 x4 105 v5).bind fun x5 =>
  (av_gI q3.2 x5 0 4).bind fun x6 =>
  bd X d 205 11 [(0, vr v0), (1, vr v1), (2, vl (v2 &&& ((v2 &&& q3.1) ^^^ (-1 : Int64)))), (4, vi x6), (5, vi (v5 + (-1 : Int32)))] [] q3.2) else none :=
  (av_bd_eq av_Sg p_205 _ _ _ _ _).trans rfl
set_option maxRecDepth 100000 in
theorem b_205_44 (d : Nat) (v1 : Option Nat) (v2 : Int64) (v4 : Int32) (h : av_H) : bd X d 205 44 [(1, vr v1), (2, vl v2), (4, vi v4)] [] h =
  if (lg_cmp v2 (0 : Int64)) = 0 then
    ((av_gI h v1 0 4).bind fun x1 =>
    (av_cI (ev X d 381 [vi (99 : Int32), vi (x1 - v4)] h)).bind fun q2 =>
    av_rI q2.1 q2.2)
  else av_rI (99 : Int32) h :=
  (av_bd_eq av_Sg p_205 _ _ _ _ _).trans rfl
theorem e_205 (d : Nat) (v0 : Option Nat) (v1 : Option Nat) (h : av_H) : ev X (d + 1) 205 [vr v0, vr v1] h = bd X d 205 0 [(0, vr v0), (1, vr v1)] [] h := av_ev_eq av_Sg p_205 d _ h rfl
/-! 206 = X10_whyNotGang -/
set_option maxRecDepth 100000 in
theorem b_206_0 (d : Nat) (v0 : Option Nat) (v1 : Option Nat) (v2 : Option Nat) (h : av_H) : bd X d 206 0 [(0, vr v0), (1, vr v1), (2, vr v2)] [] h =
  (av_gI h v1 0 1).bind fun x1 =>
  if av_is h v2 9 = true then (
  (av_cI (ev X d 121 [vr v2, vi x1] h)).bind fun q2 =>
  (av_gI q2.2 v1 0 2).bind fun x3 =>
  (av_cI (ev X d 185 [vi (q2.1), vi x3] q2.2)).bind fun q4 =>
  if q4.1 = 0 then
    (av_rI (1 : Int32) q4.2)
  else (av_gI q4.2 v1 0 12).bind fun x5 =>
  if x5 = 0 then
    (av_rI (2 : Int32) q4.2)
  else (av_gI q4.2 v1 0 8).bind fun x6 =>
  (av_gI q4.2 v1 0 9).bind fun x7 =>
  if x6 = x7 then
    (av_rI (3 : Int32) q4.2)
  else (av_gR q4.2 v0 10 6).bind fun x8 =>
  (av_gI q4.2 v1 0 8).bind fun x9 =>
  if av_is q4.2 x8 3 = true then (
  (av_cI (ev X d 25 [vr x8, vi x9] q4.2)).bind fun q10 =>
  if q10.1 = 0 then
    ((av_gR q10.2 v0 10 6).bind fun x11 =>
    (av_gI q10.2 v1 0 9).bind fun x12 =>
    if av_is q10.2 x11 3 = true then (
    (av_cI (ev X d 25 [vr x11, vi x12] q10.2)).bind fun q13 =>
    if q13.1 = 0 then
      (av_rI (3 : Int32) q13.2)
    else bd X d 206 34 [(0, vr v0), (1, vr v1)] [] q13.2) else none)
  else bd X d 206 34 [(0, vr v0), (1, vr v1)] [] q10.2) else none) else none :=
  (av_bd_eq av_Sg p_206 _ _ _ _ _).trans rfl
set_option maxRecDepth 100000 in
theorem b_206_34 (d : Nat) (v0 : Option Nat) (v1 : Option Nat) (h : av_H) : bd X d 206 34 [(0, vr v0), (1, vr v1)] [] h =
  (av_gI h v1 0 5).bind fun x1 =>
  (av_gI h v1 0 6).bind fun x2 =>
  if (24 : Int32) < (x1 + x2) then
    (av_rI (4 : Int32) h)
  else if av_is h v0 10 = true then (
  (av_cI (ev X d 208 [vr v0, vr v1] h)).bind fun q3 =>
  if q3.1 = 0 then
    (if av_is q3.2 v0 10 = true then (
    (av_cI (ev X d 209 [vr v0, vr v1] q3.2)).bind fun q4 =>
    if q4.1 = 0 then
      ((av_gI q4.2 v1 0 10).bind fun x5 =>
      (av_gI q4.2 v1 0 4).bind fun x6 =>
      if av_is q4.2 v0 10 = true then (
      (av_cI (ev X d 210 [vr v0, vi x5, vi x6] q4.2)).bind fun q7 =>
      if q7.1 = 0 then
        (av_rI (7 : Int32) q7.2)
      else (av_gI q7.2 v1 0 11).bind fun x8 =>
      (av_gI q7.2 v1 0 4).bind fun x9 =>
      if av_is q7.2 v0 10 = true then (
      (av_cI (ev X d 210 [vr v0, vi x8, vi x9] q7.2)).bind fun q10 =>
      if q10.1 = 0 then
        (av_rI (7 : Int32) q10.2)
      else av_rI (0 : Int32) q10.2) else none) else none)
    else av_rI (6 : Int32) q4.2) else none)
  else av_rI (5 : Int32) q3.2) else none :=
  (av_bd_eq av_Sg p_206 _ _ _ _ _).trans rfl
theorem e_206 (d : Nat) (v0 : Option Nat) (v1 : Option Nat) (v2 : Option Nat) (h : av_H) : ev X (d + 1) 206 [vr v0, vr v1, vr v2] h = bd X d 206 0 [(0, vr v0), (1, vr v1), (2, vr v2)] [] h := av_ev_eq av_Sg p_206 d _ h rfl
/-! 207 = X10_whyNotHours -/
set_option maxRecDepth 100000 in
theorem b_207_0 (d : Nat) (v0 : Option Nat) (v1 : Option Nat) (v2 : Option Nat) (h : av_H) : bd X d 207 0 [(0, vr v0), (1, vr v1), (2, vr v2)] [] h =
  if av_is h v0 10 = true then (
  (av_cI (ev X d 211 [vr v0, vr v1] h)).bind fun q1 =>
  if q1.1 = 0 then
    (av_rI (8 : Int32) q1.2)
  else if av_is q1.2 v0 10 = true then (
  (av_cI (ev X d 212 [vr v0, vr v1] q1.2)).bind fun q2 =>
  if q2.1 = 0 then
    (if av_is q2.2 v0 10 = true then (
    (av_cI (ev X d 213 [vr v0, vr v1] q2.2)).bind fun q3 =>
    if q3.1 = 0 then
      ((av_gI q3.2 v2 9 4).bind fun x4 =>
      (av_gI q3.2 v1 0 15).bind fun x5 =>
      (av_gI q3.2 v2 9 3).bind fun x6 =>
      if 0 < (lg_cmp ((x4.toInt64) + (x5.toInt64)) (x6.toInt64)) then
        (av_rI (11 : Int32) q3.2)
      else (av_gR q3.2 v0 10 15).bind fun x7 =>
      (av_gI q3.2 x7 6 4).bind fun x8 =>
      if x8 = 0 then
        (bd X d 207 42 [(0, vr v0), (1, vr v1)] [] q3.2)
      else if av_is q3.2 v0 10 = true then (
      (av_cI (ev X d 214 [vr v0, vr v1] q3.2)).bind fun q9 =>
      if q9.1 = 0 then
        (av_rI (12 : Int32) q9.2)
      else bd X d 207 42 [(0, vr v0), (1, vr v1)] [] q9.2) else none)
    else av_rI (10 : Int32) q3.2) else none)
  else av_rI (9 : Int32) q2.2) else none) else none :=
  (av_bd_eq av_Sg p_207 _ _ _ _ _).trans rfl
set_option maxRecDepth 100000 in
theorem b_207_42 (d : Nat) (v0 : Option Nat) (v1 : Option Nat) (h : av_H) : bd X d 207 42 [(0, vr v0), (1, vr v1)] [] h =
  if av_is h v0 10 = true then (
  (av_cI (ev X d 215 [vr v0, vr v1] h)).bind fun q1 =>
  if q1.1 = 0 then
    (av_rI (0 : Int32) q1.2)
  else av_rI (13 : Int32) q1.2) else none :=
  (av_bd_eq av_Sg p_207 _ _ _ _ _).trans rfl
theorem e_207 (d : Nat) (v0 : Option Nat) (v1 : Option Nat) (v2 : Option Nat) (h : av_H) : ev X (d + 1) 207 [vr v0, vr v1, vr v2] h = bd X d 207 0 [(0, vr v0), (1, vr v1), (2, vr v2)] [] h := av_ev_eq av_Sg p_207 d _ h rfl
/-! 208 = X10_isGangAloft -/
set_option maxRecDepth 100000 in
theorem b_208_0 (d : Nat) (v0 : Option Nat) (v1 : Option Nat) (h : av_H) : bd X d 208 0 [(0, vr v0), (1, vr v1)] [] h =
  bd X d 208 2 [(0, vr v0), (1, vr v1), (2, vi (0 : Int32))] [] h :=
  (av_bd_eq av_Sg p_208 _ _ _ _ _).trans rfl
set_option maxRecDepth 100000 in
theorem b_208_2 (d : Nat) (v0 : Option Nat) (v1 : Option Nat) (v2 : Int32) (h : av_H) : bd X d 208 2 [(0, vr v0), (1, vr v1), (2, vi v2)] [] h =
  (av_gI h v0 10 17).bind fun x1 =>
  if v2 < x1 then
    ((av_gR h v0 10 13).bind fun x2 =>
    (av_lR h x2 105 v2).bind fun x3 =>
    if av_is h x3 0 = true then (
    (av_cI (ev X d 2 [vr x3, vr v1] h)).bind fun q4 =>
    if q4.1 = 0 then
      (bd X d 208 2 [(0, vr v0), (1, vr v1), (2, vi (v2 + (1 : Int32)))] [] q4.2)
    else (av_gR q4.2 v0 10 13).bind fun x5 =>
    (av_lR q4.2 x5 105 v2).bind fun x6 =>
    (av_gI q4.2 v1 0 8).bind fun x7 =>
    if av_is q4.2 x6 0 = true then (
    (av_cI (ev X d 3 [vr x6, vi x7] q4.2)).bind fun q8 =>
    if q8.1 = 0 then
      ((av_gR q8.2 v0 10 13).bind fun x9 =>
      (av_lR q8.2 x9 105 v2).bind fun x10 =>
      (av_gI q8.2 v1 0 9).bind fun x11 =>
      if av_is q8.2 x10 0 = true then (
      (av_cI (ev X d 3 [vr x10, vi x11] q8.2)).bind fun q12 =>
      if q12.1 = 0 then
        (bd X d 208 2 [(0, vr v0), (1, vr v1), (2, vi (v2 + (1 : Int32)))] [] q12.2)
      else (av_bz (1 : Int32)).bind fun w => av_rI w q12.2) else none)
    else (av_bz (1 : Int32)).bind fun w => av_rI w q8.2) else none) else none)
  else (av_bz (0 : Int32)).bind fun w => av_rI w h :=
  (av_bd_eq av_Sg p_208 _ _ _ _ _).trans rfl
theorem e_208 (d : Nat) (v0 : Option Nat) (v1 : Option Nat) (h : av_H) : ev X (d + 1) 208 [vr v0, vr v1] h = bd X d 208 0 [(0, vr v0), (1, vr v1)] [] h := av_ev_eq av_Sg p_208 d _ h rfl
/-! 209 = X10_isCradleAloft -/
set_option maxRecDepth 100000 in
theorem b_209_0 (d : Nat) (v0 : Option Nat) (v1 : Option Nat) (h : av_H) : bd X d 209 0 [(0, vr v0), (1, vr v1)] [] h =
  bd X d 209 2 [(0, vr v0), (1, vr v1), (2, vi (0 : Int32))] [] h :=
  (av_bd_eq av_Sg p_209 _ _ _ _ _).trans rfl
set_option maxRecDepth 100000 in
theorem b_209_2 (d : Nat) (v0 : Option Nat) (v1 : Option Nat) (v2 : Int32) (h : av_H) : bd X d 209 2 [(0, vr v0), (1, vr v1), (2, vi v2)] [] h =
  (av_gI h v0 10 17).bind fun x1 =>
  if v2 < x1 then
    ((av_gR h v0 10 13).bind fun x2 =>
    (av_lR h x2 105 v2).bind fun x3 =>
    if av_is h x3 0 = true then (
    (av_cI (ev X d 2 [vr x3, vr v1] h)).bind fun q4 =>
    if q4.1 = 0 then
      (bd X d 209 2 [(0, vr v0), (1, vr v1), (2, vi (v2 + (1 : Int32)))] [] q4.2)
    else (av_gR q4.2 v0 10 13).bind fun x5 =>
    (av_lR q4.2 x5 105 v2).bind fun x6 =>
    (av_gI q4.2 x6 0 0).bind fun x7 =>
    (av_gI q4.2 v1 0 0).bind fun x8 =>
    if x7 = x8 then
      ((av_bz (1 : Int32)).bind fun w => av_rI w q4.2)
    else bd X d 209 2 [(0, vr v0), (1, vr v1), (2, vi (v2 + (1 : Int32)))] [] q4.2) else none)
  else (av_bz (0 : Int32)).bind fun w => av_rI w h :=
  (av_bd_eq av_Sg p_209 _ _ _ _ _).trans rfl
theorem e_209 (d : Nat) (v0 : Option Nat) (v1 : Option Nat) (h : av_H) : ev X (d + 1) 209 [vr v0, vr v1] h = bd X d 209 0 [(0, vr v0), (1, vr v1)] [] h := av_ev_eq av_Sg p_209 d _ h rfl
/-! 210 = X10_isFreshlyDrilled -/
set_option maxRecDepth 100000 in
theorem b_210_0 (d : Nat) (v0 : Option Nat) (v1 : Int32) (v2 : Int32) (h : av_H) : bd X d 210 0 [(0, vr v0), (1, vi v1), (2, vi v2)] [] h =
  if v1 = (-1 : Int32) then
    ((av_bz (0 : Int32)).bind fun w => av_rI w h)
  else (av_gR h v0 10 15).bind fun x1 =>
  (av_gI h x1 6 3).bind fun x2 =>
  (av_cI (ev X d 183 [vi v1, vi (v2 - x2), vi v2] h)).bind fun q3 =>
  if q3.1 = 0 then
    ((av_bz (0 : Int32)).bind fun w => av_rI w q3.2)
  else (av_bz (1 : Int32)).bind fun w => av_rI w q3.2 :=
  (av_bd_eq av_Sg p_210 _ _ _ _ _).trans rfl
theorem e_210 (d : Nat) (v0 : Option Nat) (v1 : Int32) (v2 : Int32) (h : av_H) : ev X (d + 1) 210 [vr v0, vi v1, vi v2] h = bd X d 210 0 [(0, vr v0), (1, vi v1), (2, vi v2)] [] h := av_ev_eq av_Sg p_210 d _ h rfl
/-! 211 = X10_isOnLeave -/
set_option maxRecDepth 100000 in
theorem b_211_0 (d : Nat) (v0 : Option Nat) (v1 : Option Nat) (h : av_H) : bd X d 211 0 [(0, vr v0), (1, vr v1)] [] h =
  bd X d 211 2 [(0, vr v0), (1, vr v1), (2, vi (0 : Int32))] [] h :=
  (av_bd_eq av_Sg p_211 _ _ _ _ _).trans rfl
set_option maxRecDepth 100000 in
theorem b_211_2 (d : Nat) (v0 : Option Nat) (v1 : Option Nat) (v2 : Int32) (h : av_H) : bd X d 211 2 [(0, vr v0), (1, vr v1), (2, vi v2)] [] h =
  (av_gI h v1 0 6).bind fun x1 =>
  if v2 < x1 then
    ((av_gR h v0 10 3).bind fun x2 =>
    (av_gI h v1 0 0).bind fun x3 =>
    (av_gI h v1 0 4).bind fun x4 =>
    (av_gI h v1 0 5).bind fun x5 =>
    if av_is h x2 8 = true then (
    (av_cI (ev X d 113 [vr x2, vi x3, vi x4, vi (x5 + v2)] h)).bind fun q6 =>
    if q6.1 = 0 then
      ((av_bz (0 : Int32)).bind fun w => av_rI w q6.2)
    else bd X d 211 2 [(0, vr v0), (1, vr v1), (2, vi (v2 + (1 : Int32)))] [] q6.2) else none)
  else (av_bz (1 : Int32)).bind fun w => av_rI w h :=
  (av_bd_eq av_Sg p_211 _ _ _ _ _).trans rfl
theorem e_211 (d : Nat) (v0 : Option Nat) (v1 : Option Nat) (h : av_H) : ev X (d + 1) 211 [vr v0, vr v1] h = bd X d 211 0 [(0, vr v0), (1, vr v1)] [] h := av_ev_eq av_Sg p_211 d _ h rfl
/-! 212 = X10_isStopped -/
set_option maxRecDepth 100000 in
theorem b_212_0 (d : Nat) (v0 : Option Nat) (v1 : Option Nat) (h : av_H) : bd X d 212 0 [(0, vr v0), (1, vr v1)] [] h =
  if av_is h v0 10 = true then (
  (av_cV (ev X d 217 [vr v0, vr v1] h)).bind fun q1 =>
  bd X d 212 5 [(0, vr v0), (1, vr v1), (2, vi (0 : Int32))] [] q1) else none :=
  (av_bd_eq av_Sg p_212 _ _ _ _ _).trans rfl
set_option maxRecDepth 100000 in
theorem b_212_5 (d : Nat) (v0 : Option Nat) (v1 : Option Nat) (v2 : Int32) (h : av_H) : bd X d 212 5 [(0, vr v0), (1, vr v1), (2, vi v2)] [] h =
  (av_gI h v1 0 6).bind fun x1 =>
  if v2 < x1 then
    ((av_gI h v1 0 1).bind fun x2 =>
    (av_gI h v1 0 4).bind fun x3 =>
    (av_gI h v1 0 5).bind fun x4 =>
    if av_is h v0 10 = true then (
    (av_cV (ev X d 220 [vr v0, vi x2, vi x3, vi (x4 + v2)] h)).bind fun q5 =>
    (av_gR q5 v0 10 15).bind fun x6 =>
    (av_gR q5 v0 10 12).bind fun x7 =>
    if av_is q5 x6 6 = true then (
    (av_cI (ev X d 99 [vr x6, vr x7] q5)).bind fun q8 =>
    if q8.1 = 0 then
      (bd X d 212 5 [(0, vr v0), (1, vr v1), (2, vi (v2 + (1 : Int32)))] [] q8.2)
    else (av_bz (1 : Int32)).bind fun w => av_rI w q8.2) else none) else none)
  else (av_bz (0 : Int32)).bind fun w => av_rI w h :=
  (av_bd_eq av_Sg p_212 _ _ _ _ _).trans rfl
theorem e_212 (d : Nat) (v0 : Option Nat) (v1 : Option Nat) (h : av_H) : ev X (d + 1) 212 [vr v0, vr v1] h = bd X d 212 0 [(0, vr v0), (1, vr v1)] [] h := av_ev_eq av_Sg p_212 d _ h rfl
/-! 213 = X10_isQuiet -/
set_option maxRecDepth 100000 in
theorem b_213_0 (d : Nat) (v0 : Option Nat) (v1 : Option Nat) (h : av_H) : bd X d 213 0 [(0, vr v0), (1, vr v1)] [] h =
  if av_is h v0 10 = true then (
  (av_cV (ev X d 217 [vr v0, vr v1] h)).bind fun q1 =>
  bd X d 213 5 [(0, vr v0), (1, vr v1), (2, vi (0 : Int32))] [] q1) else none :=
  (av_bd_eq av_Sg p_213 _ _ _ _ _).trans rfl
set_option maxRecDepth 100000 in
theorem b_213_5 (d : Nat) (v0 : Option Nat) (v1 : Option Nat) (v2 : Int32) (h : av_H) : bd X d 213 5 [(0, vr v0), (1, vr v1), (2, vi v2)] [] h =
  (av_gI h v1 0 6).bind fun x1 =>
  if v2 < x1 then
    ((av_gI h v1 0 1).bind fun x2 =>
    (av_gI h v1 0 4).bind fun x3 =>
    (av_gI h v1 0 5).bind fun x4 =>
    if av_is h v0 10 = true then (
    (av_cV (ev X d 220 [vr v0, vi x2, vi x3, vi (x4 + v2)] h)).bind fun q5 =>
    (av_gR q5 v0 10 15).bind fun x6 =>
    (av_gR q5 v0 10 12).bind fun x7 =>
    if av_is q5 x6 6 = true then (
    (av_cI (ev X d 100 [vr x6, vr x7] q5)).bind fun q8 =>
    if q8.1 = 0 then
      (bd X d 213 5 [(0, vr v0), (1, vr v1), (2, vi (v2 + (1 : Int32)))] [] q8.2)
    else (av_bz (1 : Int32)).bind fun w => av_rI w q8.2) else none) else none)
  else (av_bz (0 : Int32)).bind fun w => av_rI w h :=
  (av_bd_eq av_Sg p_213 _ _ _ _ _).trans rfl
theorem e_213 (d : Nat) (v0 : Option Nat) (v1 : Option Nat) (h : av_H) : ev X (d + 1) 213 [vr v0, vr v1] h = bd X d 213 0 [(0, vr v0), (1, vr v1)] [] h := av_ev_eq av_Sg p_213 d _ h rfl
/-! 214 = X10_isKeyHeld -/
set_option maxRecDepth 100000 in
theorem b_214_0 (d : Nat) (v0 : Option Nat) (v1 : Option Nat) (h : av_H) : bd X d 214 0 [(0, vr v0), (1, vr v1)] [] h =
  bd X d 214 2 [(0, vr v0), (1, vr v1), (2, vi (0 : Int32))] [] h :=
  (av_bd_eq av_Sg p_214 _ _ _ _ _).trans rfl
set_option maxRecDepth 100000 in
theorem b_214_2 (d : Nat) (v0 : Option Nat) (v1 : Option Nat) (v2 : Int32) (h : av_H) : bd X d 214 2 [(0, vr v0), (1, vr v1), (2, vi v2)] [] h =
  (av_gI h v1 0 6).bind fun x1 =>
  if v2 < x1 then
    ((av_gR h v0 10 8).bind fun x2 =>
    (av_gI h v1 0 0).bind fun x3 =>
    (av_gI h v1 0 4).bind fun x4 =>
    (av_gI h v1 0 5).bind fun x5 =>
    if av_is h x2 1 = true then (
    (av_cI (ev X d 15 [vr x2, vi x3, vi (((x4 * (24 : Int32)) + x5) + v2)] h)).bind fun q6 =>
    if q6.1 = (-1 : Int32) then
      ((av_bz (0 : Int32)).bind fun w => av_rI w q6.2)
    else if av_is q6.2 v1 0 = true then (
    (av_cI (ev X d 3 [vr v1, vi (q6.1)] q6.2)).bind fun q7 =>
    if q7.1 = 0 then
      ((av_bz (0 : Int32)).bind fun w => av_rI w q7.2)
    else bd X d 214 2 [(0, vr v0), (1, vr v1), (2, vi (v2 + (1 : Int32)))] [] q7.2) else none) else none)
  else (av_bz (1 : Int32)).bind fun w => av_rI w h :=
  (av_bd_eq av_Sg p_214 _ _ _ _ _).trans rfl
theorem e_214 (d : Nat) (v0 : Option Nat) (v1 : Option Nat) (h : av_H) : ev X (d + 1) 214 [vr v0, vr v1] h = bd X d 214 0 [(0, vr v0), (1, vr v1)] [] h := av_ev_eq av_Sg p_214 d _ h rfl
/-! 215 = X10_isFilmed -/
set_option maxRecDepth 100000 in
theorem b_215_0 (d : Nat) (v0 : Option Nat) (v1 : Option Nat) (h : av_H) : bd X d 215 0 [(0, vr v0), (1, vr v1)] [] h =
  bd X d 215 2 [(0, vr v0), (1, vr v1), (2, vi (0 : Int32))] [] h :=
  (av_bd_eq av_Sg p_215 _ _ _ _ _).trans rfl
set_option maxRecDepth 100000 in
theorem b_215_2 (d : Nat) (v0 : Option Nat) (v1 : Option Nat) (v2 : Int32) (h : av_H) : bd X d 215 2 [(0, vr v0), (1, vr v1), (2, vi v2)] [] h =
  (av_gI h v1 0 6).bind fun x1 =>
  if v2 < x1 then
    ((av_gR h v0 10 4).bind fun x2 =>
    (av_gI h v1 0 0).bind fun x3 =>
    (av_gI h v1 0 1).bind fun x4 =>
    (av_cI (ev X d 198 [vi x3, vi x4] h)).bind fun q5 =>
    (av_gI q5.2 v1 0 4).bind fun x6 =>
    (av_gI q5.2 v1 0 5).bind fun x7 =>
    if av_is q5.2 x2 8 = true then (
    (av_cI (ev X d 113 [vr x2, vi (q5.1), vi x6, vi (x7 + v2)] q5.2)).bind fun q8 =>
    if q8.1 = 0 then
      (bd X d 215 2 [(0, vr v0), (1, vr v1), (2, vi (v2 + (1 : Int32)))] [] q8.2)
    else (av_bz (1 : Int32)).bind fun w => av_rI w q8.2) else none)
  else (av_bz (0 : Int32)).bind fun w => av_rI w h :=
  (av_bd_eq av_Sg p_215 _ _ _ _ _).trans rfl
theorem e_215 (d : Nat) (v0 : Option Nat) (v1 : Option Nat) (h : av_H) : ev X (d + 1) 215 [vr v0, vr v1] h = bd X d 215 0 [(0, vr v0), (1, vr v1)] [] h := av_ev_eq av_Sg p_215 d _ h rfl
/-! 216 = X10_keepAsked -/
set_option maxRecDepth 100000 in
theorem b_216_0 (d : Nat) (v0 : Option Nat) (h : av_H) : bd X d 216 0 [(0, vr v0)] [] h =
  (av_gR h v0 10 13).bind fun x1 =>
  (av_gI h v0 10 17).bind fun x2 =>
  (av_lR h x1 105 x2).bind fun x3 =>
  (av_gR h v0 10 0).bind fun x4 =>
  (av_gI h x3 0 0).bind fun x5 =>
  (av_lR h x4 104 x5).bind fun x6 =>
  (av_gI h x6 9 4).bind fun x7 =>
  (av_gI h x3 0 15).bind fun x8 =>
  (av_pI h x6 9 4 (x7 + x8)).bind fun g9 =>
  (av_gI g9 v0 10 17).bind fun x10 =>
  (av_pI g9 v0 10 17 (x10 + (1 : Int32))).bind fun g11 =>
  (av_gI g11 v0 10 17).bind fun x12 =>
  av_rI (x12 - (1 : Int32)) g11 :=
  (av_bd_eq av_Sg p_216 _ _ _ _ _).trans rfl
theorem e_216 (d : Nat) (v0 : Option Nat) (h : av_H) : ev X (d + 1) 216 [vr v0] h = bd X d 216 0 [(0, vr v0)] [] h := av_ev_eq av_Sg p_216 d _ h rfl
/-! 217 = X10_loadFacts -/
set_option maxRecDepth 100000 in
theorem b_217_0 (d : Nat) (v0 : Option Nat) (v1 : Option Nat) (h : av_H) : bd X d 217 0 [(0, vr v0), (1, vr v1)] [] h =
  (av_gI h v1 0 0).bind fun x1 =>
  (av_gI h v1 0 1).bind fun x2 =>
  (av_gI h v1 0 4).bind fun x3 =>
  if av_is h v0 10 = true then (
  (av_cV (ev X d 219 [vr v0, vi x1, vi x2, vi x3] h)).bind fun q4 =>
  (av_gR q4 v0 10 12).bind fun x5 =>
  (av_gI q4 v1 0 12).bind fun x6 =>
  (av_sI q4 x5 (7 : Int32) x6).bind fun g7 =>
  (av_gR g7 v0 10 12).bind fun x8 =>
  (av_gI g7 v1 0 6).bind fun x9 =>
  (av_sI g7 x8 (8 : Int32) x9).bind fun g10 =>
  (av_gR g10 v0 10 12).bind fun x11 =>
  (av_gI g10 v1 0 13).bind fun x12 =>
  (av_sI g10 x11 (9 : Int32) x12).bind fun g13 =>
  (av_gR g13 v0 10 12).bind fun x14 =>
  (av_gI g13 v1 0 14).bind fun x15 =>
  (av_sI g13 x14 (10 : Int32) x15).bind fun g16 =>
  av_rV g16) else none :=
  (av_bd_eq av_Sg p_217 _ _ _ _ _).trans rfl
theorem e_217 (d : Nat) (v0 : Option Nat) (v1 : Option Nat) (h : av_H) : ev X (d + 1) 217 [vr v0, vr v1] h = bd X d 217 0 [(0, vr v0), (1, vr v1)] [] h := av_ev_eq av_Sg p_217 d _ h rfl
/-! 218 = X10_loadEmptyFacts -/
set_option maxRecDepth 100000 in
theorem b_218_0 (d : Nat) (v0 : Option Nat) (v1 : Int32) (v2 : Int32) (v3 : Int32) (h : av_H) : bd X d 218 0 [(0, vr v0), (1, vi v1), (2, vi v2), (3, vi v3)] [] h =
  if av_is h v0 10 = true then (
  (av_cV (ev X d 219 [vr v0, vi v1, vi v2, vi v3] h)).bind fun q1 =>
  (av_gR q1 v0 10 12).bind fun x2 =>
  (av_sI q1 x2 (7 : Int32) (0 : Int32)).bind fun g3 =>
  (av_gR g3 v0 10 12).bind fun x4 =>
  (av_sI g3 x4 (8 : Int32) (1 : Int32)).bind fun g5 =>
  (av_gR g5 v0 10 12).bind fun x6 =>
  (av_gR g5 v0 10 0).bind fun x7 =>
  (av_lR g5 x7 104 v1).bind fun x8 =>
  (av_gI g5 x8 9 4).bind fun x9 =>
  (av_sI g5 x6 (9 : Int32) x9).bind fun g10 =>
  (av_gR g10 v0 10 12).bind fun x11 =>
  (av_sI g10 x11 (10 : Int32) (0 : Int32)).bind fun g12 =>
  av_rV g12) else none :=
  (av_bd_eq av_Sg p_218 _ _ _ _ _).trans rfl
theorem e_218 (d : Nat) (v0 : Option Nat) (v1 : Int32) (v2 : Int32) (v3 : Int32) (h : av_H) : ev X (d + 1) 218 [vr v0, vi v1, vi v2, vi v3] h = bd X d 218 0 [(0, vr v0), (1, vi v1), (2, vi v2), (3, vi v3)] [] h := av_ev_eq av_Sg p_218 d _ h rfl
/-! 219 = X10_loadPlace -/
set_option maxRecDepth 100000 in
theorem b_219_0 (d : Nat) (v0 : Option Nat) (v1 : Int32) (v2 : Int32) (v3 : Int32) (h : av_H) : bd X d 219 0 [(0, vr v0), (1, vi v1), (2, vi v2), (3, vi v3)] [] h =
  (av_gR h v0 10 12).bind fun x1 =>
  (av_sI h x1 (0 : Int32) v1).bind fun g2 =>
  (av_gR g2 v0 10 12).bind fun x3 =>
  (av_sI g2 x3 (1 : Int32) v2).bind fun g4 =>
  (av_gR g4 v0 10 12).bind fun x5 =>
  (av_gR g4 v0 10 0).bind fun x6 =>
  (av_lR g4 x6 104 v1).bind fun x7 =>
  (av_gI g4 x7 9 0).bind fun x8 =>
  (av_sI g4 x5 (2 : Int32) x8).bind fun g9 =>
  (av_gR g9 v0 10 12).bind fun x10 =>
  (av_sI g9 x10 (3 : Int32) v3).bind fun g11 =>
  (av_gR g11 v0 10 12).bind fun x12 =>
  if (7 : Int32) = 0 then none else (av_sI g11 x12 (4 : Int32) (v3 - v3 / (7 : Int32) * (7 : Int32))).bind fun g13 =>
  av_rV g13 :=
  (av_bd_eq av_Sg p_219 _ _ _ _ _).trans rfl
theorem e_219 (d : Nat) (v0 : Option Nat) (v1 : Int32) (v2 : Int32) (v3 : Int32) (h : av_H) : ev X (d + 1) 219 [vr v0, vi v1, vi v2, vi v3] h = bd X d 219 0 [(0, vr v0), (1, vi v1), (2, vi v2), (3, vi v3)] [] h := av_ev_eq av_Sg p_219 d _ h rfl
/-! 220 = X10_loadHour -/
set_option maxRecDepth 100000 in
theorem b_220_0 (d : Nat) (v0 : Option Nat) (v1 : Int32) (v2 : Int32) (v3 : Int32) (h : av_H) : bd X d 220 0 [(0, vr v0), (1, vi v1), (2, vi v2), (3, vi v3)] [] h =
  (av_gR h v0 10 12).bind fun x1 =>
  (av_sI h x1 (5 : Int32) v3).bind fun g2 =>
  (av_gR g2 v0 10 12).bind fun x3 =>
  if av_is g2 v0 10 = true then (
  (av_cI (ev X d 201 [vr v0, vi v1, vi v2, vi v3] g2)).bind fun q4 =>
  (av_sI q4.2 x3 (6 : Int32) q4.1).bind fun g5 =>
  av_rV g5) else none :=
  (av_bd_eq av_Sg p_220 _ _ _ _ _).trans rfl
theorem e_220 (d : Nat) (v0 : Option Nat) (v1 : Int32) (v2 : Int32) (v3 : Int32) (h : av_H) : ev X (d + 1) 220 [vr v0, vi v1, vi v2, vi v3] h = bd X d 220 0 [(0, vr v0), (1, vi v1), (2, vi v2), (3, vi v3)] [] h := av_ev_eq av_Sg p_220 d _ h rfl
/-! 221 = X10_lateFloors -/
set_option maxRecDepth 100000 in
theorem b_221_0 (d : Nat) (v0 : Option Nat) (v1 : Int32) (v2 : Int32) (v3 : Int32) (v4 : Int32) (v5 : Int32) (h : av_H) : bd X d 221 0 [(0, vr v0), (1, vi v1), (2, vi v2), (3, vi v3), (4, vi v4), (5, vi v5)] [] h =
  (av_gR h v0 10 0).bind fun x1 =>
  (av_lR h x1 104 v1).bind fun x2 =>
  if av_is h x2 9 = true then (
  (av_cI (ev X d 118 [vr x2, vi v2, vi v3] h)).bind fun q3 =>
  bd X d 221 10 [(0, vr v0), (1, vi v1), (2, vi v2), (3, vi v3), (4, vi v4), (5, vi v5), (6, vi (q3.1)), (7, vi (0 : Int32))] [] q3.2) else none :=
  (av_bd_eq av_Sg p_221 _ _ _ _ _).trans rfl
set_option maxRecDepth 100000 in
theorem b_221_10 (d : Nat) (v0 : Option Nat) (v1 : Int32) (v2 : Int32) (v3 : Int32) (v4 : Int32) (v5 : Int32) (v6 : Int32) (v7 : Int32) (h : av_H) : bd X d 221 10 [(0, vr v0), (1, vi v1), (2, vi v2), (3, vi v3), (4, vi v4), (5, vi v5), (6, vi v6), (7, vi v7)] [] h =
  (av_gI h v0 10 17).bind fun x1 =>
  if v7 < x1 then
    ((av_gR h v0 10 13).bind fun x2 =>
    (av_lR h x2 105 v7).bind fun x3 =>
    (av_gI h x3 0 0).bind fun x4 =>
    if x4 = v1 then
      ((av_gI h x3 0 1).bind fun x5 =>
      if x5 = v2 then
        ((av_gI h x3 0 4).bind fun x6 =>
        (av_cI (ev X d 183 [vi x6, vi v4, vi v5] h)).bind fun q7 =>
        if q7.1 = 0 then
          (bd X d 221 10 [(0, vr v0), (1, vi v1), (2, vi v2), (3, vi v3), (4, vi v4), (5, vi v5), (6, vi v6), (7, vi (v7 + (1 : Int32)))] [] q7.2)
        else if av_is q7.2 x3 0 = true then (
        (av_cI (ev X d 6 [vr x3, vi v3] q7.2)).bind fun q8 =>
        bd X d 221 10 [(0, vr v0), (1, vi v1), (2, vi v2), (3, vi v3), (4, vi v4), (5, vi v5), (6, vi (v6 &&& (q8.1 ^^^ (-1 : Int32)))), (7, vi (v7 + (1 : Int32)))] [] q8.2) else none)
      else bd X d 221 10 [(0, vr v0), (1, vi v1), (2, vi v2), (3, vi v3), (4, vi v4), (5, vi v5), (6, vi v6), (7, vi (v7 + (1 : Int32)))] [] h)
    else bd X d 221 10 [(0, vr v0), (1, vi v1), (2, vi v2), (3, vi v3), (4, vi v4), (5, vi v5), (6, vi v6), (7, vi (v7 + (1 : Int32)))] [] h)
  else av_rI v6 h :=
  (av_bd_eq av_Sg p_221 _ _ _ _ _).trans rfl
theorem e_221 (d : Nat) (v0 : Option Nat) (v1 : Int32) (v2 : Int32) (v3 : Int32) (v4 : Int32) (v5 : Int32) (h : av_H) : ev X (d + 1) 221 [vr v0, vi v1, vi v2, vi v3, vi v4, vi v5] h = bd X d 221 0 [(0, vr v0), (1, vi v1), (2, vi v2), (3, vi v3), (4, vi v4), (5, vi v5)] [] h := av_ev_eq av_Sg p_221 d _ h rfl
/-! 222 = X10_isNestedThroughout -/
set_option maxRecDepth 100000 in
theorem b_222_0 (d : Nat) (v0 : Option Nat) (v1 : Int32) (v2 : Int32) (v3 : Int32) (h : av_H) : bd X d 222 0 [(0, vr v0), (1, vi v1), (2, vi v2), (3, vi v3)] [] h =
  bd X d 222 2 [(0, vr v0), (1, vi v1), (3, vi v3), (4, vi v2)] [] h :=
  (av_bd_eq av_Sg p_222 _ _ _ _ _).trans rfl
set_option maxRecDepth 100000 in
theorem b_222_2 (d : Nat) (v0 : Option Nat) (v1 : Int32) (v3 : Int32) (v4 : Int32) (h : av_H) : bd X d 222 2 [(0, vr v0), (1, vi v1), (3, vi v3), (4, vi v4)] [] h =
  if v3 < v4 then
    ((av_bz (1 : Int32)).bind fun w => av_rI w h)
  else (av_gR h v0 10 2).bind fun x1 =>
  if av_is h x1 8 = true then (
  (av_cI (ev X d 113 [vr x1, vi v1, vi v4, vi (0 : Int32)] h)).bind fun q2 =>
  if q2.1 = 0 then
    ((av_bz (0 : Int32)).bind fun w => av_rI w q2.2)
  else bd X d 222 2 [(0, vr v0), (1, vi v1), (3, vi v3), (4, vi (v4 + (1 : Int32)))] [] q2.2) else none :=
  (av_bd_eq av_Sg p_222 _ _ _ _ _).trans rfl
theorem e_222 (d : Nat) (v0 : Option Nat) (v1 : Int32) (v2 : Int32) (v3 : Int32) (h : av_H) : ev X (d + 1) 222 [vr v0, vi v1, vi v2, vi v3] h = bd X d 222 0 [(0, vr v0), (1, vi v1), (2, vi v2), (3, vi v3)] [] h := av_ev_eq av_Sg p_222 d _ h rfl
/-! 223 = X10_isWorkableOnce -/
set_option maxRecDepth 100000 in
theorem b_223_0 (d : Nat) (v0 : Option Nat) (v1 : Int32) (v2 : Int32) (v3 : Int32) (h : av_H) : bd X d 223 0 [(0, vr v0), (1, vi v1), (2, vi v2), (3, vi v3)] [] h =
  if (120 : Int32) = 0 then none else bd X d 223 6 [(0, vr v0), (1, vi v1), (3, vi v3), (4, vi (v1 / (120 : Int32))), (5, vi v2)] [] h :=
  (av_bd_eq av_Sg p_223 _ _ _ _ _).trans rfl
set_option maxRecDepth 100000 in
theorem b_223_6 (d : Nat) (v0 : Option Nat) (v1 : Int32) (v3 : Int32) (v4 : Int32) (v5 : Int32) (h : av_H) : bd X d 223 6 [(0, vr v0), (1, vi v1), (3, vi v3), (4, vi v4), (5, vi v5)] [] h =
  if v3 < v5 then
    ((av_bz (0 : Int32)).bind fun w => av_rI w h)
  else (av_gR h v0 10 2).bind fun x1 =>
  if av_is h x1 8 = true then (
  (av_cI (ev X d 113 [vr x1, vi v1, vi v5, vi (0 : Int32)] h)).bind fun q2 =>
  if q2.1 = 0 then
    (if (4 : Int32) = 0 then none else if (4 : Int32) = 0 then none else if av_is q2.2 v0 10 = true then (
    (av_cI (ev X d 224 [vr v0, vi (v4 / (4 : Int32)), vi (v4 - v4 / (4 : Int32) * (4 : Int32)), vi v5] q2.2)).bind fun q3 =>
    if q3.1 = 0 then
      (bd X d 223 6 [(0, vr v0), (1, vi v1), (3, vi v3), (4, vi v4), (5, vi (v5 + (1 : Int32)))] [] q3.2)
    else (av_bz (1 : Int32)).bind fun w => av_rI w q3.2) else none)
  else bd X d 223 6 [(0, vr v0), (1, vi v1), (3, vi v3), (4, vi v4), (5, vi (v5 + (1 : Int32)))] [] q2.2) else none :=
  (av_bd_eq av_Sg p_223 _ _ _ _ _).trans rfl
theorem e_223 (d : Nat) (v0 : Option Nat) (v1 : Int32) (v2 : Int32) (v3 : Int32) (h : av_H) : ev X (d + 1) 223 [vr v0, vi v1, vi v2, vi v3] h = bd X d 223 0 [(0, vr v0), (1, vi v1), (2, vi v2), (3, vi v3)] [] h := av_ev_eq av_Sg p_223 d _ h rfl
/-! 224 = X10_hasWorkableHour -/
set_option maxRecDepth 100000 in
theorem b_224_0 (d : Nat) (v0 : Option Nat) (v1 : Int32) (v2 : Int32) (v3 : Int32) (h : av_H) : bd X d 224 0 [(0, vr v0), (1, vi v1), (2, vi v2), (3, vi v3)] [] h =
  if av_is h v0 10 = true then (
  (av_cV (ev X d 218 [vr v0, vi v1, vi v2, vi v3] h)).bind fun q1 =>
  bd X d 224 7 [(0, vr v0), (1, vi v1), (2, vi v2), (3, vi v3), (4, vi (0 : Int32))] [] q1) else none :=
  (av_bd_eq av_Sg p_224 _ _ _ _ _).trans rfl
set_option maxRecDepth 100000 in
theorem b_224_7 (d : Nat) (v0 : Option Nat) (v1 : Int32) (v2 : Int32) (v3 : Int32) (v4 : Int32) (h : av_H) : bd X d 224 7 [(0, vr v0), (1, vi v1), (2, vi v2), (3, vi v3), (4, vi v4)] [] h =
  if v4 < (24 : Int32) then
    ((av_gR h v0 10 3).bind fun x1 =>
    if av_is h x1 8 = true then (
    (av_cI (ev X d 113 [vr x1, vi v1, vi v3, vi v4] h)).bind fun q2 =>
    if q2.1 = 0 then
      (bd X d 224 7 [(0, vr v0), (1, vi v1), (2, vi v2), (3, vi v3), (4, vi (v4 + (1 : Int32)))] [] q2.2)
    else if av_is q2.2 v0 10 = true then (
    (av_cV (ev X d 220 [vr v0, vi v2, vi v3, vi v4] q2.2)).bind fun q3 =>
    (av_gR q3 v0 10 15).bind fun x4 =>
    (av_gR q3 v0 10 12).bind fun x5 =>
    if av_is q3 x4 6 = true then (
    (av_cI (ev X d 99 [vr x4, vr x5] q3)).bind fun q6 =>
    if q6.1 = 0 then
      ((av_gR q6.2 v0 10 15).bind fun x7 =>
      (av_gR q6.2 v0 10 12).bind fun x8 =>
      if av_is q6.2 x7 6 = true then (
      (av_cI (ev X d 100 [vr x7, vr x8] q6.2)).bind fun q9 =>
      if q9.1 = 0 then
        ((av_bz (1 : Int32)).bind fun w => av_rI w q9.2)
      else bd X d 224 7 [(0, vr v0), (1, vi v1), (2, vi v2), (3, vi v3), (4, vi (v4 + (1 : Int32)))] [] q9.2) else none)
    else bd X d 224 7 [(0, vr v0), (1, vi v1), (2, vi v2), (3, vi v3), (4, vi (v4 + (1 : Int32)))] [] q6.2) else none) else none) else none)
  else (av_bz (0 : Int32)).bind fun w => av_rI w h :=
  (av_bd_eq av_Sg p_224 _ _ _ _ _).trans rfl
theorem e_224 (d : Nat) (v0 : Option Nat) (v1 : Int32) (v2 : Int32) (v3 : Int32) (h : av_H) : ev X (d + 1) 224 [vr v0, vi v1, vi v2, vi v3] h = bd X d 224 0 [(0, vr v0), (1, vi v1), (2, vi v2), (3, vi v3)] [] h := av_ev_eq av_Sg p_224 d _ h rfl
/-! 225 = X10_isCauseOf -/
set_option maxRecDepth 100000 in
theorem b_225_0 (d : Nat) (v0 : Option Nat) (v1 : Option Nat) (v2 : Int32) (h : av_H) : bd X d 225 0 [(0, vr v0), (1, vr v1), (2, vi v2)] [] h =
  (av_gR h v0 10 5).bind fun x1 =>
  (av_gR h x1 8 0).bind fun x2 =>
  (av_lI X h x2 v2).bind fun x3 =>
  (av_gI h v1 0 0).bind fun x4 =>
  (av_gI h v1 0 1).bind fun x5 =>
  (av_cI (ev X d 198 [vi x4, vi x5] h)).bind fun q6 =>
  if (12 : Int32) = 0 then none else if q6.1 = (x3 / (12 : Int32)) then
    ((av_gI q6.2 v1 0 4).bind fun x7 =>
    (av_gR q6.2 v0 10 5).bind fun x8 =>
    (av_gR q6.2 x8 8 1).bind fun x9 =>
    (av_lI X q6.2 x9 v2).bind fun x10 =>
    if x7 = x10 then
      (if (12 : Int32) = 0 then none else (av_gR q6.2 v0 10 5).bind fun x11 =>
      (av_gR q6.2 x11 8 2).bind fun x12 =>
      (av_lI X q6.2 x12 v2).bind fun x13 =>
      if av_is q6.2 v1 0 = true then (
      (av_cI (ev X d 11 [vr v1, vi (x3 - x3 / (12 : Int32) * (12 : Int32)), vi x13] q6.2)).bind fun q14 =>
      if q14.1 = 0 then
        ((av_bz (0 : Int32)).bind fun w => av_rI w q14.2)
      else (av_bz (1 : Int32)).bind fun w => av_rI w q14.2) else none)
    else (av_bz (0 : Int32)).bind fun w => av_rI w q6.2)
  else (av_bz (0 : Int32)).bind fun w => av_rI w q6.2 :=
  (av_bd_eq av_Sg p_225 _ _ _ _ _).trans rfl
theorem e_225 (d : Nat) (v0 : Option Nat) (v1 : Option Nat) (v2 : Int32) (h : av_H) : ev X (d + 1) 225 [vr v0, vr v1, vi v2] h = bd X d 225 0 [(0, vr v0), (1, vr v1), (2, vi v2)] [] h := av_ev_eq av_Sg p_225 d _ h rfl
/-! 226 = X10_isOurs -/
set_option maxRecDepth 100000 in
theorem b_226_0 (d : Nat) (v0 : Option Nat) (v1 : Int32) (h : av_H) : bd X d 226 0 [(0, vr v0), (1, vi v1)] [] h =
  bd X d 226 2 [(0, vr v0), (1, vi v1), (2, vi (0 : Int32))] [] h :=
  (av_bd_eq av_Sg p_226 _ _ _ _ _).trans rfl
set_option maxRecDepth 100000 in
theorem b_226_2 (d : Nat) (v0 : Option Nat) (v1 : Int32) (v2 : Int32) (h : av_H) : bd X d 226 2 [(0, vr v0), (1, vi v1), (2, vi v2)] [] h =
  (av_gI h v0 10 17).bind fun x1 =>
  if v2 < x1 then
    ((av_gR h v0 10 13).bind fun x2 =>
    (av_lR h x2 105 v2).bind fun x3 =>
    if av_is h v0 10 = true then (
    (av_cI (ev X d 225 [vr v0, vr x3, vi v1] h)).bind fun q4 =>
    if q4.1 = 0 then
      (bd X d 226 2 [(0, vr v0), (1, vi v1), (2, vi (v2 + (1 : Int32)))] [] q4.2)
    else (av_bz (1 : Int32)).bind fun w => av_rI w q4.2) else none)
  else (av_bz (0 : Int32)).bind fun w => av_rI w h :=
  (av_bd_eq av_Sg p_226 _ _ _ _ _).trans rfl
theorem e_226 (d : Nat) (v0 : Option Nat) (v1 : Int32) (h : av_H) : ev X (d + 1) 226 [vr v0, vi v1] h = bd X d 226 0 [(0, vr v0), (1, vi v1)] [] h := av_ev_eq av_Sg p_226 d _ h rfl
/-! 227 = X10_bandOf -/
set_option maxRecDepth 100000 in
theorem b_227_0 (d : Nat) (v0 : Option Nat) (v1 : Int32) (v2 : Int32) (v3 : Int32) (h : av_H) : bd X d 227 0 [(0, vr v0), (1, vi v1), (2, vi v2), (3, vi v3)] [] h =
  if av_is h v0 10 = true then (
  (av_cI (ev X d 201 [vr v0, vi v1, vi v2, vi v3] h)).bind fun q1 =>
  if (10 : Int32) = 0 then none else av_rI (q1.1 / (10 : Int32)) q1.2) else none :=
  (av_bd_eq av_Sg p_227 _ _ _ _ _).trans rfl
theorem e_227 (d : Nat) (v0 : Option Nat) (v1 : Int32) (v2 : Int32) (v3 : Int32) (h : av_H) : ev X (d + 1) 227 [vr v0, vi v1, vi v2, vi v3] h = bd X d 227 0 [(0, vr v0), (1, vi v1), (2, vi v2), (3, vi v3)] [] h := av_ev_eq av_Sg p_227 d _ h rfl
/-! 228 = X10_hoursInBand -/
set_option maxRecDepth 100000 in
theorem b_228_0 (d : Nat) (v0 : Option Nat) (v1 : Int32) (h : av_H) : bd X d 228 0 [(0, vr v0), (1, vi v1)] [] h =
  bd X d 228 4 [(0, vr v0), (1, vi v1), (2, vi (0 : Int32)), (3, vi (0 : Int32))] [] h :=
  (av_bd_eq av_Sg p_228 _ _ _ _ _).trans rfl
set_option maxRecDepth 100000 in
theorem b_228_4 (d : Nat) (v0 : Option Nat) (v1 : Int32) (v2 : Int32) (v3 : Int32) (h : av_H) : bd X d 228 4 [(0, vr v0), (1, vi v1), (2, vi v2), (3, vi v3)] [] h =
  (av_gI h v0 10 17).bind fun x1 =>
  if v3 < x1 then
    ((av_gR h v0 10 13).bind fun x2 =>
    (av_lR h x2 105 v3).bind fun x3 =>
    bd X d 228 15 [(0, vr v0), (1, vi v1), (2, vi v2), (3, vi v3), (4, vr x3), (5, vi (0 : Int32))] [] h)
  else av_rI v2 h :=
  (av_bd_eq av_Sg p_228 _ _ _ _ _).trans rfl
set_option maxRecDepth 100000 in
theorem b_228_15 (d : Nat) (v0 : Option Nat) (v1 : Int32) (v2 : Int32) (v3 : Int32) (v4 : Option Nat) (v5 : Int32) (h : av_H) : bd X d 228 15 [(0, vr v0), (1, vi v1), (2, vi v2), (3, vi v3), (4, vr v4), (5, vi v5)] [] h =
  (av_gI h v4 0 6).bind fun x1 =>
  if v5 < x1 then
    ((av_gI h v4 0 1).bind fun x2 =>
    (av_gI h v4 0 4).bind fun x3 =>
    (av_gI h v4 0 5).bind fun x4 =>
    if av_is h v0 10 = true then (
    (av_cI (ev X d 227 [vr v0, vi x2, vi x3, vi (x4 + v5)] h)).bind fun q5 =>
    if q5.1 = v1 then
      (bd X d 228 15 [(0, vr v0), (1, vi v1), (2, vi (v2 + (1 : Int32))), (3, vi v3), (4, vr v4), (5, vi (v5 + (1 : Int32)))] [] q5.2)
    else bd X d 228 15 [(0, vr v0), (1, vi v1), (2, vi (v2 + (0 : Int32))), (3, vi v3), (4, vr v4), (5, vi (v5 + (1 : Int32)))] [] q5.2) else none)
  else bd X d 228 4 [(0, vr v0), (1, vi v1), (2, vi v2), (3, vi (v3 + (1 : Int32)))] [] h :=
  (av_bd_eq av_Sg p_228 _ _ _ _ _).trans rfl
theorem e_228 (d : Nat) (v0 : Option Nat) (v1 : Int32) (h : av_H) : ev X (d + 1) 228 [vr v0, vi v1] h = bd X d 228 0 [(0, vr v0), (1, vi v1)] [] h := av_ev_eq av_Sg p_228 d _ h rfl
/-! 229 = X10_oursInBand -/
set_option maxRecDepth 100000 in
theorem b_229_0 (d : Nat) (v0 : Option Nat) (v1 : Int32) (h : av_H) : bd X d 229 0 [(0, vr v0), (1, vi v1)] [] h =
  bd X d 229 4 [(0, vr v0), (1, vi v1), (2, vi (0 : Int32)), (3, vi (0 : Int32))] [] h :=
  (av_bd_eq av_Sg p_229 _ _ _ _ _).trans rfl
set_option maxRecDepth 100000 in
theorem b_229_4 (d : Nat) (v0 : Option Nat) (v1 : Int32) (v2 : Int32) (v3 : Int32) (h : av_H) : bd X d 229 4 [(0, vr v0), (1, vi v1), (2, vi v2), (3, vi v3)] [] h =
  (av_gR h v0 10 5).bind fun x1 =>
  (av_gI h x1 8 5).bind fun x2 =>
  if v3 < x2 then
    ((av_gR h v0 10 5).bind fun x3 =>
    (av_gR h x3 8 0).bind fun x4 =>
    (av_lI X h x4 v3).bind fun x5 =>
    if (12 : Int32) = 0 then none else if (4 : Int32) = 0 then none else (av_gR h v0 10 5).bind fun x6 =>
    (av_gR h x6 8 1).bind fun x7 =>
    (av_lI X h x7 v3).bind fun x8 =>
    (av_gR h v0 10 5).bind fun x9 =>
    (av_gR h x9 8 2).bind fun x10 =>
    (av_lI X h x10 v3).bind fun x11 =>
    if av_is h v0 10 = true then (
    (av_cI (ev X d 227 [vr v0, vi ((x5 / (12 : Int32)) - (x5 / (12 : Int32)) / (4 : Int32) * (4 : Int32)), vi x8, vi x11] h)).bind fun q12 =>
    if q12.1 = v1 then
      (if av_is q12.2 v0 10 = true then (
      (av_cI (ev X d 226 [vr v0, vi v3] q12.2)).bind fun q13 =>
      if q13.1 = 0 then
        (bd X d 229 4 [(0, vr v0), (1, vi v1), (2, vi v2), (3, vi (v3 + (1 : Int32)))] [] q13.2)
      else bd X d 229 4 [(0, vr v0), (1, vi v1), (2, vi (v2 + (1 : Int32))), (3, vi (v3 + (1 : Int32)))] [] q13.2) else none)
    else bd X d 229 4 [(0, vr v0), (1, vi v1), (2, vi v2), (3, vi (v3 + (1 : Int32)))] [] q12.2) else none)
  else av_rI v2 h :=
  (av_bd_eq av_Sg p_229 _ _ _ _ _).trans rfl
theorem e_229 (d : Nat) (v0 : Option Nat) (v1 : Int32) (h : av_H) : ev X (d + 1) 229 [vr v0, vi v1] h = bd X d 229 0 [(0, vr v0), (1, vi v1)] [] h := av_ev_eq av_Sg p_229 d _ h rfl
/-! 230 = X10_workOn -/
set_option maxRecDepth 100000 in
theorem b_230_0 (d : Nat) (v0 : Option Nat) (v1 : Int32) (v2 : Int32) (v3 : Int32) (h : av_H) : bd X d 230 0 [(0, vr v0), (1, vi v1), (2, vi v2), (3, vi v3)] [] h =
  bd X d 230 4 [(0, vr v0), (1, vi v1), (2, vi v2), (3, vi v3), (4, vi (0 : Int32)), (5, vi (0 : Int32))] [] h :=
  (av_bd_eq av_Sg p_230 _ _ _ _ _).trans rfl
set_option maxRecDepth 100000 in
theorem b_230_4 (d : Nat) (v0 : Option Nat) (v1 : Int32) (v2 : Int32) (v3 : Int32) (v4 : Int32) (v5 : Int32) (h : av_H) : bd X d 230 4 [(0, vr v0), (1, vi v1), (2, vi v2), (3, vi v3), (4, vi v4), (5, vi v5)] [] h =
  (av_gI h v0 10 17).bind fun x1 =>
  if v5 < x1 then
    ((av_gR h v0 10 13).bind fun x2 =>
    (av_lR h x2 105 v5).bind fun x3 =>
    (av_gI h x3 0 0).bind fun x4 =>
    if x4 = v1 then
      ((av_gR h v0 10 13).bind fun x5 =>
      (av_lR h x5 105 v5).bind fun x6 =>
      (av_gI h x6 0 4).bind fun x7 =>
      if (7 : Int32) = 0 then none else if (x7 - x7 / (7 : Int32) * (7 : Int32)) = v2 then
        (if v3 = 0 then
          (bd X d 230 4 [(0, vr v0), (1, vi v1), (2, vi v2), (3, vi v3), (4, vi (v4 + (1 : Int32))), (5, vi (v5 + (1 : Int32)))] [] h)
        else (av_gR h v0 10 13).bind fun x8 =>
        (av_lR h x8 105 v5).bind fun x9 =>
        (av_gI h x9 0 6).bind fun x10 =>
        bd X d 230 4 [(0, vr v0), (1, vi v1), (2, vi v2), (3, vi v3), (4, vi (v4 + x10)), (5, vi (v5 + (1 : Int32)))] [] h)
      else bd X d 230 4 [(0, vr v0), (1, vi v1), (2, vi v2), (3, vi v3), (4, vi v4), (5, vi (v5 + (1 : Int32)))] [] h)
    else bd X d 230 4 [(0, vr v0), (1, vi v1), (2, vi v2), (3, vi v3), (4, vi v4), (5, vi (v5 + (1 : Int32)))] [] h)
  else av_rI v4 h :=
  (av_bd_eq av_Sg p_230 _ _ _ _ _).trans rfl
theorem e_230 (d : Nat) (v0 : Option Nat) (v1 : Int32) (v2 : Int32) (v3 : Int32) (h : av_H) : ev X (d + 1) 230 [vr v0, vi v1, vi v2, vi v3] h = bd X d 230 0 [(0, vr v0), (1, vi v1), (2, vi v2), (3, vi v3)] [] h := av_ev_eq av_Sg p_230 d _ h rfl
/-! 231 = X10_complaintsOn -/
set_option maxRecDepth 100000 in
theorem b_231_0 (d : Nat) (v0 : Option Nat) (v1 : Int32) (v2 : Int32) (h : av_H) : bd X d 231 0 [(0, vr v0), (1, vi v1), (2, vi v2)] [] h =
  bd X d 231 4 [(0, vr v0), (1, vi v1), (2, vi v2), (3, vi (0 : Int32)), (4, vi (0 : Int32))] [] h :=
  (av_bd_eq av_Sg p_231 _ _ _ _ _).trans rfl
set_option maxRecDepth 100000 in
theorem b_231_4 (d : Nat) (v0 : Option Nat) (v1 : Int32) (v2 : Int32) (v3 : Int32) (v4 : Int32) (h : av_H) : bd X d 231 4 [(0, vr v0), (1, vi v1), (2, vi v2), (3, vi v3), (4, vi v4)] [] h =
  (av_gR h v0 10 5).bind fun x1 =>
  (av_gI h x1 8 5).bind fun x2 =>
  if v4 < x2 then
    ((av_gR h v0 10 5).bind fun x3 =>
    (av_gR h x3 8 0).bind fun x4 =>
    (av_lI X h x4 v4).bind fun x5 =>
    if (48 : Int32) = 0 then none else if (x5 / (48 : Int32)) = v1 then
      ((av_gR h v0 10 5).bind fun x6 =>
      (av_gR h x6 8 1).bind fun x7 =>
      (av_lI X h x7 v4).bind fun x8 =>
      if (7 : Int32) = 0 then none else if (x8 - x8 / (7 : Int32) * (7 : Int32)) = v2 then
        (bd X d 231 4 [(0, vr v0), (1, vi v1), (2, vi v2), (3, vi (v3 + (1 : Int32))), (4, vi (v4 + (1 : Int32)))] [] h)
      else bd X d 231 4 [(0, vr v0), (1, vi v1), (2, vi v2), (3, vi (v3 + (0 : Int32))), (4, vi (v4 + (1 : Int32)))] [] h)
    else bd X d 231 4 [(0, vr v0), (1, vi v1), (2, vi v2), (3, vi (v3 + (0 : Int32))), (4, vi (v4 + (1 : Int32)))] [] h)
  else av_rI v3 h :=
  (av_bd_eq av_Sg p_231 _ _ _ _ _).trans rfl
theorem e_231 (d : Nat) (v0 : Option Nat) (v1 : Int32) (v2 : Int32) (h : av_H) : ev X (d + 1) 231 [vr v0, vi v1, vi v2] h = bd X d 231 0 [(0, vr v0), (1, vi v1), (2, vi v2)] [] h := av_ev_eq av_Sg p_231 d _ h rfl
/-! 232 = X10_makeRow -/
set_option maxRecDepth 100000 in
theorem b_232_0 (d : Nat) (v0 : Option Nat) (h : av_H) : bd X d 232 0 [(0, vr v0)] [] h =
  bd X d 232 2 [(0, vr v0), (1, vi (0 : Int32))] [] h :=
  (av_bd_eq av_Sg p_232 _ _ _ _ _).trans rfl
set_option maxRecDepth 100000 in
theorem b_232_2 (d : Nat) (v0 : Option Nat) (v1 : Int32) (h : av_H) : bd X d 232 2 [(0, vr v0), (1, vi v1)] [] h =
  (av_gI h v0 10 18).bind fun x1 =>
  if v1 < x1 then
    ((av_gR h v0 10 14).bind fun x2 =>
    (av_lI X h x2 (v1 * (7 : Int32))).bind fun x3 =>
    (av_gR h v0 10 14).bind fun x4 =>
    (av_lI X h x4 ((v1 * (7 : Int32)) + (1 : Int32))).bind fun x5 =>
    (av_gR h v0 10 14).bind fun x6 =>
    (av_lI X h x6 ((v1 * (7 : Int32)) + (2 : Int32))).bind fun x7 =>
    (av_gR h v0 10 14).bind fun x8 =>
    (av_lI X h x8 ((v1 * (7 : Int32)) + (3 : Int32))).bind fun x9 =>
    (av_gR h v0 10 14).bind fun x10 =>
    (av_lI X h x10 ((v1 * (7 : Int32)) + (4 : Int32))).bind fun x11 =>
    (av_gR h v0 10 14).bind fun x12 =>
    (av_lI X h x12 ((v1 * (7 : Int32)) + (5 : Int32))).bind fun x13 =>
    (av_gR h v0 10 14).bind fun x14 =>
    (av_lI X h x14 ((v1 * (7 : Int32)) + (6 : Int32))).bind fun x15 =>
    if av_is h v0 10 = true then (
    (av_cI (ev X d 203 [vr v0, vi x3, vi x5, vi x7, vi x9, vi x11, vi x13, vi x15] h)).bind fun q16 =>
    if q16.1 = 0 then
      (if av_is q16.2 v0 10 = true then (
      (av_cI (ev X d 216 [vr v0] q16.2)).bind fun q17 =>
      bd X d 232 2 [(0, vr v0), (1, vi (v1 + (1 : Int32)))] [] q17.2) else none)
    else av_rI q16.1 q16.2) else none)
  else av_rI (0 : Int32) h :=
  (av_bd_eq av_Sg p_232 _ _ _ _ _).trans rfl
theorem e_232 (d : Nat) (v0 : Option Nat) (h : av_H) : ev X (d + 1) 232 [vr v0] h = bd X d 232 0 [(0, vr v0)] [] h := av_ev_eq av_Sg p_232 d _ h rfl
/-! 233 = X10_triedAnswer -/
set_option maxRecDepth 100000 in
theorem b_233_0 (d : Nat) (v0 : Option Nat) (v1 : Int32) (v2 : Int32) (v3 : Int32) (h : av_H) : bd X d 233 0 [(0, vr v0), (1, vi v1), (2, vi v2), (3, vi v3)] [] h =
  if v1 = 0 then
    (if v3 = 0 then
      (av_rL (-1 : Int64) h)
    else (av_gI h v0 10 17).bind fun x1 =>
    av_rL ((x1 - v2).toInt64) h)
  else if v1 = (1 : Int32) then
    (if v3 = 0 then
      (av_rL (-1 : Int64) h)
    else av_rL (v3.toInt64) h)
  else bd X d 233 26 [(0, vr v0), (1, vi v1), (2, vi v2), (4, vl (0 : Int64)), (6, vi v2)] [] h :=
  (av_bd_eq av_Sg p_233 _ _ _ _ _).trans rfl
set_option maxRecDepth 100000 in
theorem b_233_26 (d : Nat) (v0 : Option Nat) (v1 : Int32) (v2 : Int32) (v4 : Int64) (v6 : Int32) (h : av_H) : bd X d 233 26 [(0, vr v0), (1, vi v1), (2, vi v2), (4, vl v4), (6, vi v6)] [] h =
  (av_gI h v0 10 17).bind fun x1 =>
  if v6 < x1 then
    (if v1 = (2 : Int32) then
      ((av_gR h v0 10 13).bind fun x2 =>
      (av_lR h x2 105 v6).bind fun x3 =>
      (av_gI h x3 0 16).bind fun x4 =>
      bd X d 233 26 [(0, vr v0), (1, vi v1), (2, vi v2), (4, vl (v4 + (x4.toInt64))), (6, vi (v6 + (1 : Int32)))] [] h)
    else if v1 = (3 : Int32) then
      ((av_gR h v0 10 13).bind fun x5 =>
      (av_lR h x5 105 v6).bind fun x6 =>
      (av_gI h x6 0 6).bind fun x7 =>
      bd X d 233 26 [(0, vr v0), (1, vi v1), (2, vi v2), (4, vl (v4 + (x7.toInt64))), (6, vi (v6 + (1 : Int32)))] [] h)
    else if av_is h v0 10 = true then (
    (av_cI (ev X d 234 [vr v0, vi v6, vi v2] h)).bind fun q8 =>
    bd X d 233 26 [(0, vr v0), (1, vi v1), (2, vi v2), (4, vl (v4 + (q8.1.toInt64))), (6, vi (v6 + (1 : Int32)))] [] q8.2) else none)
  else av_rL v4 h :=
  (av_bd_eq av_Sg p_233 _ _ _ _ _).trans rfl
theorem e_233 (d : Nat) (v0 : Option Nat) (v1 : Int32) (v2 : Int32) (v3 : Int32) (h : av_H) : ev X (d + 1) 233 [vr v0, vi v1, vi v2, vi v3] h = bd X d 233 0 [(0, vr v0), (1, vi v1), (2, vi v2), (3, vi v3)] [] h := av_ev_eq av_Sg p_233 d _ h rfl
/-! 234 = X10_newlyWashed -/
set_option maxRecDepth 100000 in
theorem b_234_0 (d : Nat) (v0 : Option Nat) (v1 : Int32) (v2 : Int32) (h : av_H) : bd X d 234 0 [(0, vr v0), (1, vi v1), (2, vi v2)] [] h =
  (av_gR h v0 10 13).bind fun x1 =>
  (av_lR h x1 105 v1).bind fun x2 =>
  (av_gL h x2 0 18).bind fun x3 =>
  bd X d 234 8 [(0, vr v0), (1, vi v1), (3, vl x3), (5, vi v2)] [] h :=
  (av_bd_eq av_Sg p_234 _ _ _ _ _).trans rfl
set_option maxRecDepth 100000 in
theorem b_234_8 (d : Nat) (v0 : Option Nat) (v1 : Int32) (v3 : Int64) (v5 : Int32) (h : av_H) : bd X d 234 8 [(0, vr v0), (1, vi v1), (3, vl v3), (5, vi v5)] [] h =
  if v5 < v1 then
    ((av_gR h v0 10 13).bind fun x1 =>
    (av_lR h x1 105 v5).bind fun x2 =>
    (av_gR h v0 10 13).bind fun x3 =>
    (av_lR h x3 105 v1).bind fun x4 =>
    if av_is h x2 0 = true then (
    (av_cL (ev X d 8 [vr x2, vr x4] h)).bind fun q5 =>
    bd X d 234 8 [(0, vr v0), (1, vi v1), (3, vl (v3 &&& (q5.1 ^^^ (-1 : Int64)))), (5, vi (v5 + (1 : Int32)))] [] q5.2) else none)
  else (av_cI (ev X d 378 [vl v3] h)).bind fun q6 =>
  av_rI q6.1 q6.2 :=
  (av_bd_eq av_Sg p_234 _ _ _ _ _).trans rfl
theorem e_234 (d : Nat) (v0 : Option Nat) (v1 : Int32) (v2 : Int32) (h : av_H) : ev X (d + 1) 234 [vr v0, vi v1, vi v2] h = bd X d 234 0 [(0, vr v0), (1, vi v1), (2, vi v2)] [] h := av_ev_eq av_Sg p_234 d _ h rfl
/-! 235 = X10_inLowestTerms -/
set_option maxRecDepth 100000 in
theorem b_235_0 (d : Nat) (v0 : Int64) (v2 : Int64) (v4 : Int32) (h : av_H) : bd X d 235 0 [(0, vl v0), (2, vl v2), (4, vi v4)] [] h =
  bd X d 235 6 [(0, vl v0), (2, vl v2), (4, vi v4), (5, vl v0), (7, vl v2), (9, vi (0 : Int32))] [] h :=
  (av_bd_eq av_Sg p_235 _ _ _ _ _).trans rfl
set_option maxRecDepth 100000 in
theorem b_235_6 (d : Nat) (v0 : Int64) (v2 : Int64) (v4 : Int32) (v5 : Int64) (v7 : Int64) (v9 : Int32) (h : av_H) : bd X d 235 6 [(0, vl v0), (2, vl v2), (4, vi v4), (5, vl v5), (7, vl v7), (9, vi v9)] [] h =
  if v9 < (200 : Int32) then
    (if (lg_cmp v7 (0 : Int64)) = 0 then
      (bd X d 235 23 [(0, vl v0), (2, vl v2), (4, vi v4), (5, vl v5)] [] h)
    else if v7 = 0 then none else bd X d 235 6 [(0, vl v0), (2, vl v2), (4, vi v4), (5, vl v7), (7, vl (v5 - v5 / v7 * v7)), (9, vi (v9 + (1 : Int32)))] [] h)
  else bd X d 235 23 [(0, vl v0), (2, vl v2), (4, vi v4), (5, vl v5)] [] h :=
  (av_bd_eq av_Sg p_235 _ _ _ _ _).trans rfl
set_option maxRecDepth 100000 in
theorem b_235_23 (d : Nat) (v0 : Int64) (v2 : Int64) (v4 : Int32) (v5 : Int64) (h : av_H) : bd X d 235 23 [(0, vl v0), (2, vl v2), (4, vi v4), (5, vl v5)] [] h =
  (av_cL (ev X d 380 [vl (1 : Int64), vl v5] h)).bind fun q1 =>
  if v4 = 0 then
    (if q1.1 = 0 then none else av_rL (v0 / q1.1) q1.2)
  else if q1.1 = 0 then none else av_rL (v2 / q1.1) q1.2 :=
  (av_bd_eq av_Sg p_235 _ _ _ _ _).trans rfl
theorem e_235 (d : Nat) (v0 : Int64) (v2 : Int64) (v4 : Int32) (h : av_H) : ev X (d + 1) 235 [vl v0, vl v2, vi v4] h = bd X d 235 0 [(0, vl v0), (2, vl v2), (4, vi v4)] [] h := av_ev_eq av_Sg p_235 d _ h rfl
