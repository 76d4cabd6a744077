/-! block equations, by wip/whole/gen/mk.py -/
variable {X : av_X}
/-! 236 = X11_thrown -/
set_option maxRecDepth 100000 in
theorem b_236_0 (d : Nat) (v0 : Option Nat) (h : av_H) : bd X d 236 0 [(0, vr v0)] [] h =
  (av_gI h v0 11 0).bind fun x1 =>
  av_rI x1 h :=
  (av_bd_eq av_Sg p_236 _ _ _ _ _).trans rfl
theorem e_236 (d : Nat) (v0 : Option Nat) (h : av_H) : ev X (d + 1) 236 [vr v0] h = bd X d 236 0 [(0, vr v0)] [] h := av_ev_eq av_Sg p_236 d _ h rfl
/-! 237 = X11_feed -/
set_option maxRecDepth 100000 in
theorem b_237_0 (d : Nat) (v0 : Option Nat) (v1 : Int64) (v3 : Int64) (v5 : Int64) (h : av_H) : bd X d 237 0 [(0, vr v0), (1, vl v1), (3, vl v3), (5, vl v5)] [] h =
  (av_pI h v0 11 0 (0 : Int32)).bind fun g1 =>
  if av_is g1 v0 11 = true then (
  (av_cV (ev X d 238 [vr v0, vl v1] g1)).bind fun q2 =>
  if av_is q2 v0 11 = true then (
  (av_cV (ev X d 238 [vr v0, vl v3] q2)).bind fun q3 =>
  if av_is q3 v0 11 = true then (
  (av_cV (ev X d 238 [vr v0, vl v5] q3)).bind fun q4 =>
  (av_gI q4 v0 11 2).bind fun x5 =>
  av_rI x5 q4) else none) else none) else none :=
  (av_bd_eq av_Sg p_237 _ _ _ _ _).trans rfl
theorem e_237 (d : Nat) (v0 : Option Nat) (v1 : Int64) (v3 : Int64) (v5 : Int64) (h : av_H) : ev X (d + 1) 237 [vr v0, vl v1, vl v3, vl v5] h = bd X d 237 0 [(0, vr v0), (1, vl v1), (3, vl v3), (5, vl v5)] [] h := av_ev_eq av_Sg p_237 d _ h rfl
/-! 238 = X11_lay -/
set_option maxRecDepth 100000 in
theorem b_238_0 (d : Nat) (v0 : Option Nat) (v1 : Int64) (h : av_H) : bd X d 238 0 [(0, vr v0), (1, vl v1)] [] h =
  bd X d 238 2 [(0, vr v0), (1, vl v1), (3, vi (56 : Int32))] [] h :=
  (av_bd_eq av_Sg p_238 _ _ _ _ _).trans rfl
set_option maxRecDepth 100000 in
theorem b_238_2 (d : Nat) (v0 : Option Nat) (v1 : Int64) (v3 : Int32) (h : av_H) : bd X d 238 2 [(0, vr v0), (1, vl v1), (3, vi v3)] [] h =
  if v3 < 0 then
    (av_rV h)
  else if (((v1 >>> (v3.toInt64 &&& 63)).toInt32) &&& (255 : Int32)) = (10 : Int32) then
    (bd X d 238 20 [(0, vr v0), (1, vl v1), (3, vi v3), (4, vi (((v1 >>> (v3.toInt64 &&& 63)).toInt32) &&& (255 : Int32)))] [] h)
  else if (((v1 >>> (v3.toInt64 &&& 63)).toInt32) &&& (255 : Int32)) < (32 : Int32) then
    (bd X d 238 2 [(0, vr v0), (1, vl v1), (3, vi (v3 + (-8 : Int32)))] [] h)
  else if (126 : Int32) < (((v1 >>> (v3.toInt64 &&& 63)).toInt32) &&& (255 : Int32)) then
    (bd X d 238 2 [(0, vr v0), (1, vl v1), (3, vi (v3 + (-8 : Int32)))] [] h)
  else bd X d 238 20 [(0, vr v0), (1, vl v1), (3, vi v3), (4, vi (((v1 >>> (v3.toInt64 &&& 63)).toInt32) &&& (255 : Int32)))] [] h :=
  (av_bd_eq av_Sg p_238 _ _ _ _ _).trans rfl
set_option maxRecDepth 100000 in
theorem b_238_20 (d : Nat) (v0 : Option Nat) (v1 : Int64) (v3 : Int32) (v4 : Int32) (h : av_H) : bd X d 238 20 [(0, vr v0), (1, vl v1), (3, vi v3), (4, vi v4)] [] h =
  (av_gI h v0 11 2).bind fun x1 =>
  if x1 < (1000 : Int32) then
    ((av_gR h v0 11 1).bind fun x2 =>
    (av_gI h v0 11 2).bind fun x3 =>
    (av_sI h x2 x3 v4).bind fun g4 =>
    (av_gI g4 v0 11 2).bind fun x5 =>
    (av_pI g4 v0 11 2 (x5 + (1 : Int32))).bind fun g6 =>
    bd X d 238 2 [(0, vr v0), (1, vl v1), (3, vi (v3 + (-8 : Int32)))] [] g6)
  else bd X d 238 2 [(0, vr v0), (1, vl v1), (3, vi (v3 + (-8 : Int32)))] [] h :=
  (av_bd_eq av_Sg p_238 _ _ _ _ _).trans rfl
theorem e_238 (d : Nat) (v0 : Option Nat) (v1 : Int64) (h : av_H) : ev X (d + 1) 238 [vr v0, vl v1] h = bd X d 238 0 [(0, vr v0), (1, vl v1)] [] h := av_ev_eq av_Sg p_238 d _ h rfl
/-! 239 = X11_init -/
set_option maxRecDepth 100000 in
theorem b_239_0 (d : Nat) (v0 : Option Nat) (h : av_H) : bd X d 239 0 [(0, vr v0)] [] h =
  if av_is h v0 11 = true then (
  (av_na h 100 (1000 : Int32)).bind fun g1 =>
  (av_pR g1 v0 11 1 (some h.1.length)).bind fun g2 =>
  (av_na g2 100 (1002 : Int32)).bind fun g3 =>
  (av_pR g3 v0 11 4 (some g2.1.length)).bind fun g4 =>
  (av_na g4 100 (1002 : Int32)).bind fun g5 =>
  (av_pR g5 v0 11 5 (some g4.1.length)).bind fun g6 =>
  (av_na g6 101 (1002 : Int32)).bind fun g7 =>
  (av_pR g7 v0 11 6 (some g6.1.length)).bind fun g8 =>
  (av_na g8 101 (23 : Int32)).bind fun g9 =>
  (av_sL g9 (some g8.1.length) (0 : Int32) (990358 : Int64)).bind fun g10 =>
  (av_sL g10 (some g8.1.length) (1 : Int32) (32936976 : Int64)).bind fun g11 =>
  (av_sL g11 (some g8.1.length) (2 : Int32) (1171919 : Int64)).bind fun g12 =>
  (av_sL g12 (some g8.1.length) (3 : Int32) (30910767 : Int64)).bind fun g13 =>
  (av_sL g13 (some g8.1.length) (4 : Int32) (43183939 : Int64)).bind fun g14 =>
  (av_sL g14 (some g8.1.length) (5 : Int32) (913868 : Int64)).bind fun g15 =>
  (av_sL g15 (some g8.1.length) (6 : Int32) (8421175 : Int64)).bind fun g16 =>
  (av_sL g16 (some g8.1.length) (7 : Int32) (1176170 : Int64)).bind fun g17 =>
  (av_sL g17 (some g8.1.length) (8 : Int32) (1891 : Int64)).bind fun g18 =>
  (av_sL g18 (some g8.1.length) (9 : Int32) (573 : Int64)).bind fun g19 =>
  (av_sL g19 (some g8.1.length) (10 : Int32) (19741 : Int64)).bind fun g20 =>
  (av_sL g20 (some g8.1.length) (11 : Int32) (38274705 : Int64)).bind fun g21 =>
  (av_sL g21 (some g8.1.length) (12 : Int32) (974881 : Int64)).bind fun g22 =>
  (av_sL g22 (some g8.1.length) (13 : Int32) (439334689 : Int64)).bind fun g23 =>
  (av_sL g23 (some g8.1.length) (14 : Int32) (5538 : Int64)).bind fun g24 =>
  (av_sL g24 (some g8.1.length) (15 : Int32) (1172060 : Int64)).bind fun g25 =>
  (av_sL g25 (some g8.1.length) (16 : Int32) (426554 : Int64)).bind fun g26 =>
  (av_sL g26 (some g8.1.length) (17 : Int32) (1177862 : Int64)).bind fun g27 =>
  (av_sL g27 (some g8.1.length) (18 : Int32) (30056599 : Int64)).bind fun g28 =>
  (av_sL g28 (some g8.1.length) (19 : Int32) (15782517 : Int64)).bind fun g29 =>
  (av_sL g29 (some g8.1.length) (20 : Int32) (1186234 : Int64)).bind fun g30 =>
  (av_sL g30 (some g8.1.length) (21 : Int32) (1633 : Int64)).bind fun g31 =>
  (av_sL g31 (some g8.1.length) (22 : Int32) (564972 : Int64)).bind fun g32 =>
  (av_pR g32 v0 11 9 (some g8.1.length)).bind fun g33 =>
  (av_na g33 100 (6 : Int32)).bind fun g34 =>
  (av_pR g34 v0 11 10 (some g33.1.length)).bind fun g35 =>
  (av_na g35 100 (6 : Int32)).bind fun g36 =>
  (av_pR g36 v0 11 11 (some g35.1.length)).bind fun g37 =>
  (av_na g37 103 (2880 : Int32)).bind fun g38 =>
  (av_pR g38 v0 11 12 (some g37.1.length)).bind fun g39 =>
  (av_na g39 100 (2880 : Int32)).bind fun g40 =>
  (av_pR g40 v0 11 13 (some g39.1.length)).bind fun g41 =>
  (av_na g41 103 (240 : Int32)).bind fun g42 =>
  (av_pR g42 v0 11 14 (some g41.1.length)).bind fun g43 =>
  (av_na g43 100 (6 : Int32)).bind fun g44 =>
  (av_pR g44 v0 11 15 (some g43.1.length)).bind fun g45 =>
  (av_na g45 100 (6 : Int32)).bind fun g46 =>
  (av_pR g46 v0 11 16 (some g45.1.length)).bind fun g47 =>
  (av_na g47 100 (6 : Int32)).bind fun g48 =>
  (av_pR g48 v0 11 17 (some g47.1.length)).bind fun g49 =>
  (av_na g49 100 (20 : Int32)).bind fun g50 =>
  (av_pR g50 v0 11 19 (some g49.1.length)).bind fun g51 =>
  (av_na g51 100 (20 : Int32)).bind fun g52 =>
  (av_pR g52 v0 11 20 (some g51.1.length)).bind fun g53 =>
  (av_na g53 100 (20 : Int32)).bind fun g54 =>
  (av_pR g54 v0 11 21 (some g53.1.length)).bind fun g55 =>
  (av_na g55 100 (9600 : Int32)).bind fun g56 =>
  (av_pR g56 v0 11 22 (some g55.1.length)).bind fun g57 =>
  (av_na g57 100 (60 : Int32)).bind fun g58 =>
  (av_pR g58 v0 11 24 (some g57.1.length)).bind fun g59 =>
  (av_na g59 100 (60 : Int32)).bind fun g60 =>
  (av_pR g60 v0 11 25 (some g59.1.length)).bind fun g61 =>
  (av_na g61 100 (60 : Int32)).bind fun g62 =>
  (av_pR g62 v0 11 26 (some g61.1.length)).bind fun g63 =>
  (av_na g63 100 (60 : Int32)).bind fun g64 =>
  (av_pR g64 v0 11 27 (some g63.1.length)).bind fun g65 =>
  (av_na g65 103 (10 : Int32)).bind fun g66 =>
  (av_pR g66 v0 11 28 (some g65.1.length)).bind fun g67 =>
  (av_na g67 100 (10 : Int32)).bind fun g68 =>
  (av_pR g68 v0 11 29 (some g67.1.length)).bind fun g69 =>
  (av_na g69 100 (2200 : Int32)).bind fun g70 =>
  (av_pR g70 v0 11 32 (some g69.1.length)).bind fun g71 =>
  (av_na g71 100 (2200 : Int32)).bind fun g72 =>
  (av_pR g72 v0 11 33 (some g71.1.length)).bind fun g73 =>
  (av_na g73 100 (4 : Int32)).bind fun g74 =>
  (av_pR g74 v0 11 34 (some g73.1.length)).bind fun g75 =>
  (av_na g75 100 (24 : Int32)).bind fun g76 =>
  (av_pR g76 v0 11 35 (some g75.1.length)).bind fun g77 =>
  (av_na g77 100 (6 : Int32)).bind fun g78 =>
  (av_pR g78 v0 11 36 (some g77.1.length)).bind fun g79 =>
  (av_na g79 100 (11 : Int32)).bind fun g80 =>
  (av_pR g80 v0 11 43 (some g79.1.length)).bind fun g81 =>
  (av_na g81 100 (1100 : Int32)).bind fun g82 =>
  (av_pR g82 v0 11 44 (some g81.1.length)).bind fun g83 =>
  (av_na g83 100 (60 : Int32)).bind fun g84 =>
  (av_pR g84 v0 11 46 (some g83.1.length)).bind fun g85 =>
  (av_na g85 100 (60 : Int32)).bind fun g86 =>
  (av_pR g86 v0 11 47 (some g85.1.length)).bind fun g87 =>
  (av_na g87 100 (60 : Int32)).bind fun g88 =>
  (av_pR g88 v0 11 48 (some g87.1.length)).bind fun g89 =>
  (av_na g89 100 (60 : Int32)).bind fun g90 =>
  (av_pR g90 v0 11 49 (some g89.1.length)).bind fun g91 =>
  (av_na g91 100 (60 : Int32)).bind fun g92 =>
  (av_pR g92 v0 11 50 (some g91.1.length)).bind fun g93 =>
  (av_na g93 100 (60 : Int32)).bind fun g94 =>
  (av_pR g94 v0 11 51 (some g93.1.length)).bind fun g95 =>
  (av_na g95 100 (60 : Int32)).bind fun g96 =>
  (av_pR g96 v0 11 52 (some g95.1.length)).bind fun g97 =>
  (av_na g97 100 (60 : Int32)).bind fun g98 =>
  (av_pR g98 v0 11 53 (some g97.1.length)).bind fun g99 =>
  (av_na g99 100 (60 : Int32)).bind fun g100 =>
  (av_pR g100 v0 11 54 (some g99.1.length)).bind fun g101 =>
  (av_na g101 100 (60 : Int32)).bind fun g102 =>
  (av_pR g102 v0 11 55 (some g101.1.length)).bind fun g103 =>
  (av_na g103 100 (60 : Int32)).bind fun g104 =>
  (av_pR g104 v0 11 56 (some g103.1.length)).bind fun g105 =>
  (av_na g105 100 (60 : Int32)).bind fun g106 =>
  (av_pR g106 v0 11 57 (some g105.1.length)).bind fun g107 =>
  (av_na g107 100 (60 : Int32)).bind fun g108 =>
  (av_pR g108 v0 11 58 (some g107.1.length)).bind fun g109 =>
  (av_na g109 100 (60 : Int32)).bind fun g110 =>
  (av_pR g110 v0 11 59 (some g109.1.length)).bind fun g111 =>
  (av_na g111 100 (60 : Int32)).bind fun g112 =>
  (av_pR g112 v0 11 60 (some g111.1.length)).bind fun g113 =>
  (av_na g113 100 (60 : Int32)).bind fun g114 =>
  (av_pR g114 v0 11 61 (some g113.1.length)).bind fun g115 =>
  (av_na g115 100 (60 : Int32)).bind fun g116 =>
  (av_pR g116 v0 11 62 (some g115.1.length)).bind fun g117 =>
  (av_na g117 101 (60 : Int32)).bind fun g118 =>
  (av_pR g118 v0 11 63 (some g117.1.length)).bind fun g119 =>
  (av_na g119 100 (8 : Int32)).bind fun g120 =>
  (av_pR g120 v0 11 65 (some g119.1.length)).bind fun g121 =>
  (av_na g121 100 (8 : Int32)).bind fun g122 =>
  (av_pR g122 v0 11 66 (some g121.1.length)).bind fun g123 =>
  (av_na g123 100 (20 : Int32)).bind fun g124 =>
  (av_pR g124 v0 11 67 (some g123.1.length)).bind fun g125 =>
  (av_na g125 101 (1536 : Int32)).bind fun g126 =>
  (av_pR g126 v0 11 69 (some g125.1.length)).bind fun g127 =>
  (av_na g127 100 (100 : Int32)).bind fun g128 =>
  (av_pR g128 v0 11 70 (some g127.1.length)).bind fun g129 =>
  (av_na g129 100 (11264 : Int32)).bind fun g130 =>
  (av_pR g130 v0 11 71 (some g129.1.length)).bind fun g131 =>
  (av_na g131 100 (11264 : Int32)).bind fun g132 =>
  (av_pR g132 v0 11 72 (some g131.1.length)).bind fun g133 =>
  (av_na g133 100 (8 : Int32)).bind fun g134 =>
  (av_pR g134 v0 11 73 (some g133.1.length)).bind fun g135 =>
  (av_na g135 100 (8 : Int32)).bind fun g136 =>
  (av_pR g136 v0 11 74 (some g135.1.length)).bind fun g137 =>
  (av_na g137 100 (8 : Int32)).bind fun g138 =>
  (av_pR g138 v0 11 75 (some g137.1.length)).bind fun g139 =>
  (av_na g139 100 (8 : Int32)).bind fun g140 =>
  (av_pR g140 v0 11 76 (some g139.1.length)).bind fun g141 =>
  (av_na g141 103 (200 : Int32)).bind fun g142 =>
  (av_pR g142 v0 11 77 (some g141.1.length)).bind fun g143 =>
  (av_na g143 100 (10 : Int32)).bind fun g144 =>
  (av_pR g144 v0 11 78 (some g143.1.length)).bind fun g145 =>
  (av_na g145 100 (10 : Int32)).bind fun g146 =>
  (av_pR g146 v0 11 79 (some g145.1.length)).bind fun g147 =>
  (av_na g147 100 (60 : Int32)).bind fun g148 =>
  (av_pR g148 v0 11 81 (some g147.1.length)).bind fun g149 =>
  (av_na g149 100 (60 : Int32)).bind fun g150 =>
  (av_pR g150 v0 11 82 (some g149.1.length)).bind fun g151 =>
  (av_na g151 100 (60 : Int32)).bind fun g152 =>
  (av_pR g152 v0 11 83 (some g151.1.length)).bind fun g153 =>
  (av_na g153 103 (60 : Int32)).bind fun g154 =>
  (av_pR g154 v0 11 84 (some g153.1.length)).bind fun g155 =>
  (av_na g155 100 (12 : Int32)).bind fun g156 =>
  (av_pR g156 v0 11 86 (some g155.1.length)).bind fun g157 =>
  (av_na g157 100 (12 : Int32)).bind fun g158 =>
  (av_pR g158 v0 11 87 (some g157.1.length)).bind fun g159 =>
  (av_na g159 100 (12 : Int32)).bind fun g160 =>
  (av_pR g160 v0 11 88 (some g159.1.length)).bind fun g161 =>
  (av_na g161 100 (12 : Int32)).bind fun g162 =>
  (av_pR g162 v0 11 89 (some g161.1.length)).bind fun g163 =>
  (av_na g163 100 (12 : Int32)).bind fun g164 =>
  (av_pR g164 v0 11 90 (some g163.1.length)).bind fun g165 =>
  (av_na g165 100 (12 : Int32)).bind fun g166 =>
  (av_pR g166 v0 11 91 (some g165.1.length)).bind fun g167 =>
  (av_na g167 100 (40 : Int32)).bind fun g168 =>
  (av_pR g168 v0 11 93 (some g167.1.length)).bind fun g169 =>
  (av_na g169 100 (40 : Int32)).bind fun g170 =>
  (av_pR g170 v0 11 94 (some g169.1.length)).bind fun g171 =>
  (av_na g171 100 (40 : Int32)).bind fun g172 =>
  (av_pR g172 v0 11 95 (some g171.1.length)).bind fun g173 =>
  (av_na g173 100 (40 : Int32)).bind fun g174 =>
  (av_pR g174 v0 11 96 (some g173.1.length)).bind fun g175 =>
  (av_na g175 100 (40 : Int32)).bind fun g176 =>
  (av_pR g176 v0 11 97 (some g175.1.length)).bind fun g177 =>
  (av_na g177 100 (84 : Int32)).bind fun g178 =>
  (av_pR g178 v0 11 99 (some g177.1.length)).bind fun g179 =>
  (av_na g179 100 (6 : Int32)).bind fun g180 =>
  (av_pR g180 v0 11 100 (some g179.1.length)).bind fun g181 =>
  (av_na g181 100 (2880 : Int32)).bind fun g182 =>
  (av_pR g182 v0 11 101 (some g181.1.length)).bind fun g183 =>
  (av_na g183 103 (2880 : Int32)).bind fun g184 =>
  (av_pR g184 v0 11 102 (some g183.1.length)).bind fun g185 =>
  (av_na g185 101 (5 : Int32)).bind fun g186 =>
  (av_pR g186 v0 11 103 (some g185.1.length)).bind fun g187 =>
  (av_na g187 103 (20 : Int32)).bind fun g188 =>
  (av_pR g188 v0 11 104 (some g187.1.length)).bind fun g189 =>
  (av_na g189 100 (4 : Int32)).bind fun g190 =>
  (av_pR g190 v0 11 106 (some g189.1.length)).bind fun g191 =>
  (av_na g191 100 (4 : Int32)).bind fun g192 =>
  (av_pR g192 v0 11 107 (some g191.1.length)).bind fun g193 =>
  (av_na g193 100 (24 : Int32)).bind fun g194 =>
  (av_pR g194 v0 11 108 (some g193.1.length)).bind fun g195 =>
  (av_na g195 100 (11520 : Int32)).bind fun g196 =>
  (av_pR g196 v0 11 109 (some g195.1.length)).bind fun g197 =>
  bd X d 239 444 [(0, vr v0), (1, vi (0 : Int32))] [] g197) else none :=
  (av_bd_eq av_Sg p_239 _ _ _ _ _).trans rfl
set_option maxRecDepth 100000 in
theorem b_239_444 (d : Nat) (v0 : Option Nat) (v1 : Int32) (h : av_H) : bd X d 239 444 [(0, vr v0), (1, vi v1)] [] h =
  if v1 < (2880 : Int32) then
    ((av_gR h v0 11 13).bind fun x1 =>
    (av_sI h x1 v1 (-1 : Int32)).bind fun g2 =>
    bd X d 239 444 [(0, vr v0), (1, vi (v1 + (1 : Int32)))] [] g2)
  else bd X d 239 456 [(0, vr v0), (1, vi (0 : Int32))] [] h :=
  (av_bd_eq av_Sg p_239 _ _ _ _ _).trans rfl
set_option maxRecDepth 100000 in
theorem b_239_456 (d : Nat) (v0 : Option Nat) (v1 : Int32) (h : av_H) : bd X d 239 456 [(0, vr v0), (1, vi v1)] [] h =
  if v1 < (6 : Int32) then
    ((av_gR h v0 11 15).bind fun x1 =>
    (av_sI h x1 v1 (2 : Int32)).bind fun g2 =>
    (av_gR g2 v0 11 16).bind fun x3 =>
    (av_sI g2 x3 v1 (1000 : Int32)).bind fun g4 =>
    bd X d 239 456 [(0, vr v0), (1, vi (v1 + (1 : Int32)))] [] g4)
  else bd X d 239 473 [(0, vr v0), (1, vi (0 : Int32))] [] h :=
  (av_bd_eq av_Sg p_239 _ _ _ _ _).trans rfl
set_option maxRecDepth 100000 in
theorem b_239_473 (d : Nat) (v0 : Option Nat) (v1 : Int32) (h : av_H) : bd X d 239 473 [(0, vr v0), (1, vi v1)] [] h =
  if v1 < (10 : Int32) then
    ((av_gR h v0 11 29).bind fun x1 =>
    (av_sI h x1 v1 (-1 : Int32)).bind fun g2 =>
    bd X d 239 473 [(0, vr v0), (1, vi (v1 + (1 : Int32)))] [] g2)
  else bd X d 239 485 [(0, vr v0), (1, vi (0 : Int32))] [] h :=
  (av_bd_eq av_Sg p_239 _ _ _ _ _).trans rfl
set_option maxRecDepth 100000 in
theorem b_239_485 (d : Nat) (v0 : Option Nat) (v1 : Int32) (h : av_H) : bd X d 239 485 [(0, vr v0), (1, vi v1)] [] h =
  if v1 < (20 : Int32) then
    ((av_gR h v0 11 67).bind fun x1 =>
    (av_sI h x1 v1 (5 : Int32)).bind fun g2 =>
    bd X d 239 485 [(0, vr v0), (1, vi (v1 + (1 : Int32)))] [] g2)
  else (av_pI h v0 11 68 (2 : Int32)).bind fun g3 =>
  (av_pI g3 v0 11 37 (4 : Int32)).bind fun g4 =>
  (av_pI g4 v0 11 38 (30 : Int32)).bind fun g5 =>
  bd X d 239 506 [(0, vr v0), (1, vi (0 : Int32))] [] g5 :=
  (av_bd_eq av_Sg p_239 _ _ _ _ _).trans rfl
set_option maxRecDepth 100000 in
theorem b_239_506 (d : Nat) (v0 : Option Nat) (v1 : Int32) (h : av_H) : bd X d 239 506 [(0, vr v0), (1, vi v1)] [] h =
  if v1 < (6 : Int32) then
    ((av_gR h v0 11 36).bind fun x1 =>
    (av_sI h x1 v1 (-1 : Int32)).bind fun g2 =>
    bd X d 239 506 [(0, vr v0), (1, vi (v1 + (1 : Int32)))] [] g2)
  else av_rV h :=
  (av_bd_eq av_Sg p_239 _ _ _ _ _).trans rfl
theorem e_239 (d : Nat) (v0 : Option Nat) (h : av_H) : ev X (d + 1) 239 [vr v0] h = bd X d 239 0 [(0, vr v0)] [] h := av_ev_eq av_Sg p_239 d _ h rfl
/-! 240 = X11_isLetter -/
set_option maxRecDepth 100000 in
theorem b_240_0 (d : Nat) (v0 : Int32) (h : av_H) : bd X d 240 0 [(0, vi v0)] [] h =
  if v0 < (97 : Int32) then
    ((av_bz (0 : Int32)).bind fun w => av_rI w h)
  else if (122 : Int32) < v0 then
    ((av_bz (0 : Int32)).bind fun w => av_rI w h)
  else (av_bz (1 : Int32)).bind fun w => av_rI w h :=
  (av_bd_eq av_Sg p_240 _ _ _ _ _).trans rfl
theorem e_240 (d : Nat) (v0 : Int32) (h : av_H) : ev X (d + 1) 240 [vi v0] h = bd X d 240 0 [(0, vi v0)] [] h := av_ev_eq av_Sg p_240 d _ h rfl
/-! 241 = X11_isDigit -/
set_option maxRecDepth 100000 in
theorem b_241_0 (d : Nat) (v0 : Int32) (h : av_H) : bd X d 241 0 [(0, vi v0)] [] h =
  if v0 < (48 : Int32) then
    ((av_bz (0 : Int32)).bind fun w => av_rI w h)
  else if (57 : Int32) < v0 then
    ((av_bz (0 : Int32)).bind fun w => av_rI w h)
  else (av_bz (1 : Int32)).bind fun w => av_rI w h :=
  (av_bd_eq av_Sg p_241 _ _ _ _ _).trans rfl
theorem e_241 (d : Nat) (v0 : Int32) (h : av_H) : ev X (d + 1) 241 [vi v0] h = bd X d 241 0 [(0, vi v0)] [] h := av_ev_eq av_Sg p_241 d _ h rfl
/-! 242 = X11_rank -/
set_option maxRecDepth 100000 in
theorem b_242_0 (d : Nat) (v0 : Int32) (h : av_H) : bd X d 242 0 [(0, vi v0)] [] h =
  (av_cI (ev X d 240 [vi v0] h)).bind fun q1 =>
  if q1.1 = 0 then
    (av_rI (v0 - (21 : Int32)) q1.2)
  else av_rI (v0 - (96 : Int32)) q1.2 :=
  (av_bd_eq av_Sg p_242 _ _ _ _ _).trans rfl
theorem e_242 (d : Nat) (v0 : Int32) (h : av_H) : ev X (d + 1) 242 [vi v0] h = bd X d 242 0 [(0, vi v0)] [] h := av_ev_eq av_Sg p_242 d _ h rfl
/-! 243 = X11_isSignOf -/
set_option maxRecDepth 100000 in
theorem b_243_0 (d : Nat) (v0 : Int32) (h : av_H) : bd X d 243 0 [(0, vi v0)] [] h =
  if v0 = (40 : Int32) then
    ((av_bz (1 : Int32)).bind fun w => av_rI w h)
  else if v0 = (41 : Int32) then
    ((av_bz (1 : Int32)).bind fun w => av_rI w h)
  else if v0 = (59 : Int32) then
    ((av_bz (1 : Int32)).bind fun w => av_rI w h)
  else if v0 = (61 : Int32) then
    ((av_bz (1 : Int32)).bind fun w => av_rI w h)
  else if v0 = (60 : Int32) then
    ((av_bz (1 : Int32)).bind fun w => av_rI w h)
  else if v0 = (43 : Int32) then
    ((av_bz (1 : Int32)).bind fun w => av_rI w h)
  else if v0 = (45 : Int32) then
    ((av_bz (1 : Int32)).bind fun w => av_rI w h)
  else if v0 = (42 : Int32) then
    ((av_bz (1 : Int32)).bind fun w => av_rI w h)
  else (av_bz (0 : Int32)).bind fun w => av_rI w h :=
  (av_bd_eq av_Sg p_243 _ _ _ _ _).trans rfl
theorem e_243 (d : Nat) (v0 : Int32) (h : av_H) : ev X (d + 1) 243 [vi v0] h = bd X d 243 0 [(0, vi v0)] [] h := av_ev_eq av_Sg p_243 d _ h rfl
/-! 244 = X11_cutAll -/
set_option maxRecDepth 100000 in
theorem b_244_0 (d : Nat) (v0 : Option Nat) (h : av_H) : bd X d 244 0 [(0, vr v0)] [] h =
  (av_gI h v0 11 2).bind fun x1 =>
  (av_pI h v0 11 3 x1).bind fun g2 =>
  (av_pI g2 v0 11 2 (0 : Int32)).bind fun g3 =>
  bd X d 244 11 [(0, vr v0), (1, vi (0 : Int32)), (2, vi (0 : Int32))] [] g3 :=
  (av_bd_eq av_Sg p_244 _ _ _ _ _).trans rfl
set_option maxRecDepth 100000 in
theorem b_244_11 (d : Nat) (v0 : Option Nat) (v1 : Int32) (v2 : Int32) (h : av_H) : bd X d 244 11 [(0, vr v0), (1, vi v1), (2, vi v2)] [] h =
  (av_gI h v0 11 3).bind fun x1 =>
  if v2 < x1 then
    ((av_gR h v0 11 1).bind fun x2 =>
    (av_lI X h x2 v2).bind fun x3 =>
    if x3 = (10 : Int32) then
      (bd X d 244 11 [(0, vr v0), (1, vi v1), (2, vi (v2 + (1 : Int32)))] [] h)
    else if x3 = (32 : Int32) then
      (bd X d 244 11 [(0, vr v0), (1, vi v1), (2, vi (v2 + (1 : Int32)))] [] h)
    else (av_gR h v0 11 5).bind fun x4 =>
    (av_sI h x4 v1 v2).bind fun g5 =>
    (av_cI (ev X d 240 [vi x3] g5)).bind fun q6 =>
    if q6.1 = 0 then
      ((av_cI (ev X d 241 [vi x3] q6.2)).bind fun q7 =>
      if q7.1 = 0 then
        ((av_gR q7.2 v0 11 4).bind fun x8 =>
        (av_cI (ev X d 243 [vi x3] q7.2)).bind fun q9 =>
        if q9.1 = 0 then
          ((av_sI q9.2 x8 v1 (4 : Int32)).bind fun g10 =>
          (av_gR g10 v0 11 6).bind fun x11 =>
          (av_sL g10 x11 v1 (x3.toInt64)).bind fun g12 =>
          bd X d 244 11 [(0, vr v0), (1, vi (v1 + (1 : Int32))), (2, vi (v2 + (1 : Int32)))] [] g12)
        else (av_sI q9.2 x8 v1 (3 : Int32)).bind fun g13 =>
        (av_gR g13 v0 11 6).bind fun x14 =>
        (av_sL g13 x14 v1 (x3.toInt64)).bind fun g15 =>
        bd X d 244 11 [(0, vr v0), (1, vi (v1 + (1 : Int32))), (2, vi (v2 + (1 : Int32)))] [] g15)
      else bd X d 244 86 [(0, vr v0), (1, vi v1), (2, vi v2), (4, vi v2), (5, vl (0 : Int64))] [] q7.2)
    else bd X d 244 40 [(0, vr v0), (1, vi v1), (2, vi v2), (4, vi v2), (5, vl (0 : Int64))] [] q6.2)
  else (av_gR h v0 11 4).bind fun x16 =>
  (av_sI h x16 v1 (0 : Int32)).bind fun g17 =>
  (av_gR g17 v0 11 5).bind fun x18 =>
  (av_gI g17 v0 11 3).bind fun x19 =>
  (av_sI g17 x18 v1 x19).bind fun g20 =>
  (av_pI g20 v0 11 7 (0 : Int32)).bind fun g21 =>
  (av_pI g21 v0 11 8 (0 : Int32)).bind fun g22 =>
  av_rV g22 :=
  (av_bd_eq av_Sg p_244 _ _ _ _ _).trans rfl
set_option maxRecDepth 100000 in
theorem b_244_40 (d : Nat) (v0 : Option Nat) (v1 : Int32) (v2 : Int32) (v4 : Int32) (v5 : Int64) (h : av_H) : bd X d 244 40 [(0, vr v0), (1, vi v1), (2, vi v2), (4, vi v4), (5, vl v5)] [] h =
  (av_gI h v0 11 3).bind fun x1 =>
  if v2 < x1 then
    ((av_gR h v0 11 1).bind fun x2 =>
    (av_lI X h x2 v2).bind fun x3 =>
    (av_cI (ev X d 240 [vi x3] h)).bind fun q4 =>
    if q4.1 = 0 then
      (bd X d 244 70 [(0, vr v0), (1, vi v1), (2, vi v2), (4, vi v4), (5, vl v5)] [] q4.2)
    else if (v2 - v4) < (8 : Int32) then
      ((av_gR q4.2 v0 11 1).bind fun x5 =>
      (av_lI X q4.2 x5 v2).bind fun x6 =>
      (av_cI (ev X d 242 [vi x6] q4.2)).bind fun q7 =>
      bd X d 244 40 [(0, vr v0), (1, vi v1), (2, vi (v2 + (1 : Int32))), (4, vi v4), (5, vl (((37 : Int64) * v5) + (q7.1.toInt64)))] [] q7.2)
    else bd X d 244 40 [(0, vr v0), (1, vi v1), (2, vi (v2 + (1 : Int32))), (4, vi v4), (5, vl v5)] [] q4.2)
  else bd X d 244 70 [(0, vr v0), (1, vi v1), (2, vi v2), (4, vi v4), (5, vl v5)] [] h :=
  (av_bd_eq av_Sg p_244 _ _ _ _ _).trans rfl
set_option maxRecDepth 100000 in
theorem b_244_70 (d : Nat) (v0 : Option Nat) (v1 : Int32) (v2 : Int32) (v4 : Int32) (v5 : Int64) (h : av_H) : bd X d 244 70 [(0, vr v0), (1, vi v1), (2, vi v2), (4, vi v4), (5, vl v5)] [] h =
  (av_gR h v0 11 4).bind fun x1 =>
  if (8 : Int32) < (v2 - v4) then
    ((av_sI h x1 v1 (4 : Int32)).bind fun g2 =>
    (av_gR g2 v0 11 6).bind fun x3 =>
    (av_sL g2 x3 v1 v5).bind fun g4 =>
    bd X d 244 11 [(0, vr v0), (1, vi (v1 + (1 : Int32))), (2, vi v2)] [] g4)
  else (av_sI h x1 v1 (1 : Int32)).bind fun g5 =>
  (av_gR g5 v0 11 6).bind fun x6 =>
  (av_sL g5 x6 v1 v5).bind fun g7 =>
  bd X d 244 11 [(0, vr v0), (1, vi (v1 + (1 : Int32))), (2, vi v2)] [] g7 :=
  (av_bd_eq av_Sg p_244 _ _ _ _ _).trans rfl
set_option maxRecDepth 100000 in
theorem b_244_86 (d : Nat) (v0 : Option Nat) (v1 : Int32) (v2 : Int32) (v4 : Int32) (v5 : Int64) (h : av_H) : bd X d 244 86 [(0, vr v0), (1, vi v1), (2, vi v2), (4, vi v4), (5, vl v5)] [] h =
  (av_gI h v0 11 3).bind fun x1 =>
  if v2 < x1 then
    ((av_gR h v0 11 1).bind fun x2 =>
    (av_lI X h x2 v2).bind fun x3 =>
    (av_cI (ev X d 241 [vi x3] h)).bind fun q4 =>
    if q4.1 = 0 then
      (bd X d 244 117 [(0, vr v0), (1, vi v1), (2, vi v2), (4, vi v4), (5, vl v5)] [] q4.2)
    else if (v2 - v4) < (4 : Int32) then
      ((av_gR q4.2 v0 11 1).bind fun x5 =>
      (av_lI X q4.2 x5 v2).bind fun x6 =>
      bd X d 244 86 [(0, vr v0), (1, vi v1), (2, vi (v2 + (1 : Int32))), (4, vi v4), (5, vl ((((10 : Int64) * v5) + (x6.toInt64)) - (48 : Int64)))] [] q4.2)
    else bd X d 244 86 [(0, vr v0), (1, vi v1), (2, vi (v2 + (1 : Int32))), (4, vi v4), (5, vl v5)] [] q4.2)
  else bd X d 244 117 [(0, vr v0), (1, vi v1), (2, vi v2), (4, vi v4), (5, vl v5)] [] h :=
  (av_bd_eq av_Sg p_244 _ _ _ _ _).trans rfl
set_option maxRecDepth 100000 in
theorem b_244_117 (d : Nat) (v0 : Option Nat) (v1 : Int32) (v2 : Int32) (v4 : Int32) (v5 : Int64) (h : av_H) : bd X d 244 117 [(0, vr v0), (1, vi v1), (2, vi v2), (4, vi v4), (5, vl v5)] [] h =
  (av_gR h v0 11 4).bind fun x1 =>
  if (4 : Int32) < (v2 - v4) then
    ((av_sI h x1 v1 (4 : Int32)).bind fun g2 =>
    (av_gR g2 v0 11 6).bind fun x3 =>
    (av_sL g2 x3 v1 v5).bind fun g4 =>
    bd X d 244 11 [(0, vr v0), (1, vi (v1 + (1 : Int32))), (2, vi v2)] [] g4)
  else (av_sI h x1 v1 (2 : Int32)).bind fun g5 =>
  (av_gR g5 v0 11 6).bind fun x6 =>
  (av_sL g5 x6 v1 v5).bind fun g7 =>
  bd X d 244 11 [(0, vr v0), (1, vi (v1 + (1 : Int32))), (2, vi v2)] [] g7 :=
  (av_bd_eq av_Sg p_244 _ _ _ _ _).trans rfl
theorem e_244 (d : Nat) (v0 : Option Nat) (h : av_H) : ev X (d + 1) 244 [vr v0] h = bd X d 244 0 [(0, vr v0)] [] h := av_ev_eq av_Sg p_244 d _ h rfl
/-! 245 = X11_wrong -/
set_option maxRecDepth 100000 in
theorem b_245_0 (d : Nat) (v0 : Option Nat) (v1 : Int32) (h : av_H) : bd X d 245 0 [(0, vr v0), (1, vi v1)] [] h =
  (av_gI h v0 11 8).bind fun x1 =>
  if x1 = 0 then
    ((av_gR h v0 11 5).bind fun x2 =>
    (av_gI h v0 11 7).bind fun x3 =>
    (av_lI X h x2 x3).bind fun x4 =>
    (av_pI h v0 11 8 (v1 + ((16 : Int32) * x4))).bind fun g5 =>
    av_rV g5)
  else av_rV h :=
  (av_bd_eq av_Sg p_245 _ _ _ _ _).trans rfl
theorem e_245 (d : Nat) (v0 : Option Nat) (v1 : Int32) (h : av_H) : ev X (d + 1) 245 [vr v0, vi v1] h = bd X d 245 0 [(0, vr v0), (1, vi v1)] [] h := av_ev_eq av_Sg p_245 d _ h rfl
/-! 246 = X11_isSign -/
set_option maxRecDepth 100000 in
theorem b_246_0 (d : Nat) (v0 : Option Nat) (v1 : Int32) (h : av_H) : bd X d 246 0 [(0, vr v0), (1, vi v1)] [] h =
  (av_gI h v0 11 8).bind fun x1 =>
  if x1 = 0 then
    ((av_gR h v0 11 4).bind fun x2 =>
    (av_gI h v0 11 7).bind fun x3 =>
    (av_lI X h x2 x3).bind fun x4 =>
    if x4 = (3 : Int32) then
      ((av_gR h v0 11 6).bind fun x5 =>
      (av_gI h v0 11 7).bind fun x6 =>
      (av_lL h x5 x6).bind fun x7 =>
      if (lg_cmp x7 (v1.toInt64)) = 0 then
        ((av_bz (1 : Int32)).bind fun w => av_rI w h)
      else (av_bz (0 : Int32)).bind fun w => av_rI w h)
    else (av_bz (0 : Int32)).bind fun w => av_rI w h)
  else (av_bz (0 : Int32)).bind fun w => av_rI w h :=
  (av_bd_eq av_Sg p_246 _ _ _ _ _).trans rfl
theorem e_246 (d : Nat) (v0 : Option Nat) (v1 : Int32) (h : av_H) : ev X (d + 1) 246 [vr v0, vi v1] h = bd X d 246 0 [(0, vr v0), (1, vi v1)] [] h := av_ev_eq av_Sg p_246 d _ h rfl
/-! 247 = X11_isWord -/
set_option maxRecDepth 100000 in
theorem b_247_0 (d : Nat) (v0 : Option Nat) (v1 : Int32) (h : av_H) : bd X d 247 0 [(0, vr v0), (1, vi v1)] [] h =
  (av_gI h v0 11 8).bind fun x1 =>
  if x1 = 0 then
    ((av_gR h v0 11 4).bind fun x2 =>
    (av_gI h v0 11 7).bind fun x3 =>
    (av_lI X h x2 x3).bind fun x4 =>
    if x4 = (1 : Int32) then
      ((av_gR h v0 11 6).bind fun x5 =>
      (av_gI h v0 11 7).bind fun x6 =>
      (av_lL h x5 x6).bind fun x7 =>
      (av_gR h v0 11 9).bind fun x8 =>
      (av_lL h x8 v1).bind fun x9 =>
      if (lg_cmp x7 x9) = 0 then
        ((av_bz (1 : Int32)).bind fun w => av_rI w h)
      else (av_bz (0 : Int32)).bind fun w => av_rI w h)
    else (av_bz (0 : Int32)).bind fun w => av_rI w h)
  else (av_bz (0 : Int32)).bind fun w => av_rI w h :=
  (av_bd_eq av_Sg p_247 _ _ _ _ _).trans rfl
theorem e_247 (d : Nat) (v0 : Option Nat) (v1 : Int32) (h : av_H) : ev X (d + 1) 247 [vr v0, vi v1] h = bd X d 247 0 [(0, vr v0), (1, vi v1)] [] h := av_ev_eq av_Sg p_247 d _ h rfl
/-! 248 = X11_takeSign -/
set_option maxRecDepth 100000 in
theorem b_248_0 (d : Nat) (v0 : Option Nat) (v1 : Int32) (h : av_H) : bd X d 248 0 [(0, vr v0), (1, vi v1)] [] h =
  if av_is h v0 11 = true then (
  (av_cI (ev X d 246 [vr v0, vi v1] h)).bind fun q1 =>
  if q1.1 = 0 then
    (if av_is q1.2 v0 11 = true then (
    (av_cV (ev X d 245 [vr v0, vi (1 : Int32)] q1.2)).bind fun q2 =>
    av_rV q2) else none)
  else (av_gI q1.2 v0 11 7).bind fun x3 =>
  (av_pI q1.2 v0 11 7 (x3 + (1 : Int32))).bind fun g4 =>
  av_rV g4) else none :=
  (av_bd_eq av_Sg p_248 _ _ _ _ _).trans rfl
theorem e_248 (d : Nat) (v0 : Option Nat) (v1 : Int32) (h : av_H) : ev X (d + 1) 248 [vr v0, vi v1] h = bd X d 248 0 [(0, vr v0), (1, vi v1)] [] h := av_ev_eq av_Sg p_248 d _ h rfl
/-! 249 = X11_hasSign -/
set_option maxRecDepth 100000 in
theorem b_249_0 (d : Nat) (v0 : Option Nat) (v1 : Int32) (h : av_H) : bd X d 249 0 [(0, vr v0), (1, vi v1)] [] h =
  if av_is h v0 11 = true then (
  (av_cI (ev X d 246 [vr v0, vi v1] h)).bind fun q1 =>
  (av_gI q1.2 v0 11 7).bind fun x2 =>
  if q1.1 = 0 then
    ((av_pI q1.2 v0 11 7 (x2 + (0 : Int32))).bind fun g3 =>
    (av_bz q1.1).bind fun w => av_rI w g3)
  else (av_pI q1.2 v0 11 7 (x2 + (1 : Int32))).bind fun g4 =>
  (av_bz q1.1).bind fun w => av_rI w g4) else none :=
  (av_bd_eq av_Sg p_249 _ _ _ _ _).trans rfl
theorem e_249 (d : Nat) (v0 : Option Nat) (v1 : Int32) (h : av_H) : ev X (d + 1) 249 [vr v0, vi v1] h = bd X d 249 0 [(0, vr v0), (1, vi v1)] [] h := av_ev_eq av_Sg p_249 d _ h rfl
/-! 250 = X11_hasWord -/
set_option maxRecDepth 100000 in
theorem b_250_0 (d : Nat) (v0 : Option Nat) (v1 : Int32) (h : av_H) : bd X d 250 0 [(0, vr v0), (1, vi v1)] [] h =
  if av_is h v0 11 = true then (
  (av_cI (ev X d 247 [vr v0, vi v1] h)).bind fun q1 =>
  (av_gI q1.2 v0 11 7).bind fun x2 =>
  if q1.1 = 0 then
    ((av_pI q1.2 v0 11 7 (x2 + (0 : Int32))).bind fun g3 =>
    (av_bz q1.1).bind fun w => av_rI w g3)
  else (av_pI q1.2 v0 11 7 (x2 + (1 : Int32))).bind fun g4 =>
  (av_bz q1.1).bind fun w => av_rI w g4) else none :=
  (av_bd_eq av_Sg p_250 _ _ _ _ _).trans rfl
theorem e_250 (d : Nat) (v0 : Option Nat) (v1 : Int32) (h : av_H) : ev X (d + 1) 250 [vr v0, vi v1] h = bd X d 250 0 [(0, vr v0), (1, vi v1)] [] h := av_ev_eq av_Sg p_250 d _ h rfl
/-! 251 = X11_takeWord -/
set_option maxRecDepth 100000 in
theorem b_251_0 (d : Nat) (v0 : Option Nat) (v1 : Int32) (h : av_H) : bd X d 251 0 [(0, vr v0), (1, vi v1)] [] h =
  if av_is h v0 11 = true then (
  (av_cI (ev X d 250 [vr v0, vi v1] h)).bind fun q1 =>
  if q1.1 = 0 then
    (if av_is q1.2 v0 11 = true then (
    (av_cV (ev X d 245 [vr v0, vi (1 : Int32)] q1.2)).bind fun q2 =>
    av_rV q2) else none)
  else av_rV q1.2) else none :=
  (av_bd_eq av_Sg p_251 _ _ _ _ _).trans rfl
theorem e_251 (d : Nat) (v0 : Option Nat) (v1 : Int32) (h : av_H) : ev X (d + 1) 251 [vr v0, vi v1] h = bd X d 251 0 [(0, vr v0), (1, vi v1)] [] h := av_ev_eq av_Sg p_251 d _ h rfl
/-! 252 = X11_within -/
set_option maxRecDepth 100000 in
theorem b_252_0 (d : Nat) (v0 : Int32) (v1 : Int32) (v2 : Int32) (h : av_H) : bd X d 252 0 [(0, vi v0), (1, vi v1), (2, vi v2)] [] h =
  if v0 < v1 then
    ((av_bz (0 : Int32)).bind fun w => av_rI w h)
  else if v2 < v0 then
    ((av_bz (0 : Int32)).bind fun w => av_rI w h)
  else (av_bz (1 : Int32)).bind fun w => av_rI w h :=
  (av_bd_eq av_Sg p_252 _ _ _ _ _).trans rfl
theorem e_252 (d : Nat) (v0 : Int32) (v1 : Int32) (v2 : Int32) (h : av_H) : ev X (d + 1) 252 [vi v0, vi v1, vi v2] h = bd X d 252 0 [(0, vi v0), (1, vi v1), (2, vi v2)] [] h := av_ev_eq av_Sg p_252 d _ h rfl
/-! 253 = X11_isDay -/
set_option maxRecDepth 100000 in
theorem b_253_0 (d : Nat) (v0 : Int32) (h : av_H) : bd X d 253 0 [(0, vi v0)] [] h =
  (av_cI (ev X d 252 [vi v0, vi (0 : Int32), vi (99 : Int32)] h)).bind fun q1 =>
  (av_bz q1.1).bind fun w => av_rI w q1.2 :=
  (av_bd_eq av_Sg p_253 _ _ _ _ _).trans rfl
theorem e_253 (d : Nat) (v0 : Int32) (h : av_H) : ev X (d + 1) 253 [vi v0] h = bd X d 253 0 [(0, vi v0)] [] h := av_ev_eq av_Sg p_253 d _ h rfl
/-! 254 = X11_isHour -/
set_option maxRecDepth 100000 in
theorem b_254_0 (d : Nat) (v0 : Int32) (h : av_H) : bd X d 254 0 [(0, vi v0)] [] h =
  (av_cI (ev X d 252 [vi v0, vi (0 : Int32), vi (23 : Int32)] h)).bind fun q1 =>
  (av_bz q1.1).bind fun w => av_rI w q1.2 :=
  (av_bd_eq av_Sg p_254 _ _ _ _ _).trans rfl
theorem e_254 (d : Nat) (v0 : Int32) (h : av_H) : ev X (d + 1) 254 [vi v0] h = bd X d 254 0 [(0, vi v0)] [] h := av_ev_eq av_Sg p_254 d _ h rfl
/-! 255 = X11_isSide -/
set_option maxRecDepth 100000 in
theorem b_255_0 (d : Nat) (v0 : Int32) (h : av_H) : bd X d 255 0 [(0, vi v0)] [] h =
  (av_cI (ev X d 252 [vi v0, vi (0 : Int32), vi (3 : Int32)] h)).bind fun q1 =>
  (av_bz q1.1).bind fun w => av_rI w q1.2 :=
  (av_bd_eq av_Sg p_255 _ _ _ _ _).trans rfl
theorem e_255 (d : Nat) (v0 : Int32) (h : av_H) : ev X (d + 1) 255 [vi v0] h = bd X d 255 0 [(0, vi v0)] [] h := av_ev_eq av_Sg p_255 d _ h rfl
/-! 256 = X11_isPerson -/
set_option maxRecDepth 100000 in
theorem b_256_0 (d : Nat) (v0 : Int32) (h : av_H) : bd X d 256 0 [(0, vi v0)] [] h =
  (av_cI (ev X d 252 [vi v0, vi (0 : Int32), vi (9 : Int32)] h)).bind fun q1 =>
  (av_bz q1.1).bind fun w => av_rI w q1.2 :=
  (av_bd_eq av_Sg p_256 _ _ _ _ _).trans rfl
theorem e_256 (d : Nat) (v0 : Int32) (h : av_H) : ev X (d + 1) 256 [vi v0] h = bd X d 256 0 [(0, vi v0)] [] h := av_ev_eq av_Sg p_256 d _ h rfl
/-! 257 = X11_isTower -/
set_option maxRecDepth 100000 in
theorem b_257_0 (d : Nat) (v0 : Option Nat) (v1 : Int32) (h : av_H) : bd X d 257 0 [(0, vr v0), (1, vi v1)] [] h =
  (av_cI (ev X d 252 [vi v1, vi (0 : Int32), vi (5 : Int32)] h)).bind fun q1 =>
  if q1.1 = 0 then
    ((av_bz (0 : Int32)).bind fun w => av_rI w q1.2)
  else (av_gR q1.2 v0 11 10).bind fun x2 =>
  (av_lI X q1.2 x2 v1).bind fun x3 =>
  if 0 < x3 then
    ((av_bz (1 : Int32)).bind fun w => av_rI w q1.2)
  else (av_bz (0 : Int32)).bind fun w => av_rI w q1.2 :=
  (av_bd_eq av_Sg p_257 _ _ _ _ _).trans rfl
theorem e_257 (d : Nat) (v0 : Option Nat) (v1 : Int32) (h : av_H) : ev X (d + 1) 257 [vr v0, vi v1] h = bd X d 257 0 [(0, vr v0), (1, vi v1)] [] h := av_ev_eq av_Sg p_257 d _ h rfl
/-! 258 = X11_paneOf -/
set_option maxRecDepth 100000 in
theorem b_258_0 (d : Nat) (v0 : Int32) (v1 : Int32) (v2 : Int32) (v3 : Int32) (h : av_H) : bd X d 258 0 [(0, vi v0), (1, vi v1), (2, vi v2), (3, vi v3)] [] h =
  av_rI (((((((4 : Int32) * v0) + v1) * (12 : Int32)) + v2) * (10 : Int32)) + v3) h :=
  (av_bd_eq av_Sg p_258 _ _ _ _ _).trans rfl
theorem e_258 (d : Nat) (v0 : Int32) (v1 : Int32) (v2 : Int32) (v3 : Int32) (h : av_H) : ev X (d + 1) 258 [vi v0, vi v1, vi v2, vi v3] h = bd X d 258 0 [(0, vi v0), (1, vi v1), (2, vi v2), (3, vi v3)] [] h := av_ev_eq av_Sg p_258 d _ h rfl
/-! 259 = X11_isPane -/
set_option maxRecDepth 100000 in
theorem b_259_0 (d : Nat) (v0 : Option Nat) (v1 : Int32) (v2 : Int32) (v3 : Int32) (v4 : Int32) (h : av_H) : bd X d 259 0 [(0, vr v0), (1, vi v1), (2, vi v2), (3, vi v3), (4, vi v4)] [] h =
  if av_is h v0 11 = true then (
  (av_cI (ev X d 257 [vr v0, vi v1] h)).bind fun q1 =>
  if q1.1 = 0 then
    ((av_bz (0 : Int32)).bind fun w => av_rI w q1.2)
  else (av_cI (ev X d 255 [vi v2] q1.2)).bind fun q2 =>
  if q2.1 = 0 then
    ((av_bz (0 : Int32)).bind fun w => av_rI w q2.2)
  else (av_gR q2.2 v0 11 10).bind fun x3 =>
  (av_lI X q2.2 x3 v1).bind fun x4 =>
  (av_cI (ev X d 252 [vi v3, vi (0 : Int32), vi (x4 - (1 : Int32))] q2.2)).bind fun q5 =>
  if q5.1 = 0 then
    ((av_bz (0 : Int32)).bind fun w => av_rI w q5.2)
  else (av_gR q5.2 v0 11 11).bind fun x6 =>
  (av_lI X q5.2 x6 v1).bind fun x7 =>
  (av_cI (ev X d 252 [vi v4, vi (0 : Int32), vi (x7 - (1 : Int32))] q5.2)).bind fun q8 =>
  if q8.1 = 0 then
    ((av_bz (0 : Int32)).bind fun w => av_rI w q8.2)
  else (av_bz (1 : Int32)).bind fun w => av_rI w q8.2) else none :=
  (av_bd_eq av_Sg p_259 _ _ _ _ _).trans rfl
theorem e_259 (d : Nat) (v0 : Option Nat) (v1 : Int32) (v2 : Int32) (v3 : Int32) (v4 : Int32) (h : av_H) : ev X (d + 1) 259 [vr v0, vi v1, vi v2, vi v3, vi v4] h = bd X d 259 0 [(0, vr v0), (1, vi v1), (2, vi v2), (3, vi v3), (4, vi v4)] [] h := av_ev_eq av_Sg p_259 d _ h rfl
/-! 260 = X11_isStop -/
set_option maxRecDepth 100000 in
theorem b_260_0 (d : Nat) (v0 : Option Nat) (v1 : Int32) (v2 : Int32) (v3 : Int32) (h : av_H) : bd X d 260 0 [(0, vr v0), (1, vi v1), (2, vi v2), (3, vi v3)] [] h =
  if av_is h v0 11 = true then (
  (av_cI (ev X d 257 [vr v0, vi v1] h)).bind fun q1 =>
  if q1.1 = 0 then
    ((av_bz (0 : Int32)).bind fun w => av_rI w q1.2)
  else (av_cI (ev X d 255 [vi v2] q1.2)).bind fun q2 =>
  if q2.1 = 0 then
    ((av_bz (0 : Int32)).bind fun w => av_rI w q2.2)
  else (av_gR q2.2 v0 11 11).bind fun x3 =>
  (av_lI X q2.2 x3 v1).bind fun x4 =>
  (av_cI (ev X d 252 [vi v3, vi (0 : Int32), vi (x4 - (1 : Int32))] q2.2)).bind fun q5 =>
  if q5.1 = 0 then
    ((av_bz (0 : Int32)).bind fun w => av_rI w q5.2)
  else (av_bz (1 : Int32)).bind fun w => av_rI w q5.2) else none :=
  (av_bd_eq av_Sg p_260 _ _ _ _ _).trans rfl
theorem e_260 (d : Nat) (v0 : Option Nat) (v1 : Int32) (v2 : Int32) (v3 : Int32) (h : av_H) : ev X (d + 1) 260 [vr v0, vi v1, vi v2, vi v3] h = bd X d 260 0 [(0, vr v0), (1, vi v1), (2, vi v2), (3, vi v3)] [] h := av_ev_eq av_Sg p_260 d _ h rfl
/-! 261 = X11_stopOf -/
set_option maxRecDepth 100000 in
theorem b_261_0 (d : Nat) (v0 : Int32) (v1 : Int32) (v2 : Int32) (h : av_H) : bd X d 261 0 [(0, vi v0), (1, vi v1), (2, vi v2)] [] h =
  av_rI (((((4 : Int32) * v0) + v1) * (10 : Int32)) + v2) h :=
  (av_bd_eq av_Sg p_261 _ _ _ _ _).trans rfl
theorem e_261 (d : Nat) (v0 : Int32) (v1 : Int32) (v2 : Int32) (h : av_H) : ev X (d + 1) 261 [vi v0, vi v1, vi v2] h = bd X d 261 0 [(0, vi v0), (1, vi v1), (2, vi v2)] [] h := av_ev_eq av_Sg p_261 d _ h rfl
/-! 262 = X11_tower -/
set_option maxRecDepth 100000 in
theorem b_262_0 (d : Nat) (v0 : Option Nat) (v1 : Int32) (v2 : Int32) (v3 : Int32) (h : av_H) : bd X d 262 0 [(0, vr v0), (1, vi v1), (2, vi v2), (3, vi v3)] [] h =
  (av_pI h v0 11 0 (0 : Int32)).bind fun g1 =>
  (av_cI (ev X d 252 [vi v1, vi (0 : Int32), vi (5 : Int32)] g1)).bind fun q2 =>
  if q2.1 = 0 then
    ((av_bz (0 : Int32)).bind fun w => av_rI w q2.2)
  else (av_gR q2.2 v0 11 10).bind fun x3 =>
  (av_lI X q2.2 x3 v1).bind fun x4 =>
  if 0 < x4 then
    ((av_bz (0 : Int32)).bind fun w => av_rI w q2.2)
  else (av_cI (ev X d 252 [vi v2, vi (1 : Int32), vi (12 : Int32)] q2.2)).bind fun q5 =>
  if q5.1 = 0 then
    ((av_bz (0 : Int32)).bind fun w => av_rI w q5.2)
  else (av_cI (ev X d 252 [vi v3, vi (1 : Int32), vi (10 : Int32)] q5.2)).bind fun q6 =>
  if q6.1 = 0 then
    ((av_bz (0 : Int32)).bind fun w => av_rI w q6.2)
  else (av_gR q6.2 v0 11 10).bind fun x7 =>
  (av_sI q6.2 x7 v1 v2).bind fun g8 =>
  (av_gR g8 v0 11 11).bind fun x9 =>
  (av_sI g8 x9 v1 v3).bind fun g10 =>
  (av_bz (1 : Int32)).bind fun w => av_rI w g10 :=
  (av_bd_eq av_Sg p_262 _ _ _ _ _).trans rfl
theorem e_262 (d : Nat) (v0 : Option Nat) (v1 : Int32) (v2 : Int32) (v3 : Int32) (h : av_H) : ev X (d + 1) 262 [vr v0, vi v1, vi v2, vi v3] h = bd X d 262 0 [(0, vr v0), (1, vi v1), (2, vi v2), (3, vi v3)] [] h := av_ev_eq av_Sg p_262 d _ h rfl
/-! 263 = X11_block -/
set_option maxRecDepth 100000 in
theorem b_263_0 (d : Nat) (v0 : Option Nat) (v1 : Int32) (v2 : Int32) (v3 : Int32) (v4 : Int32) (v5 : Int32) (h : av_H) : bd X d 263 0 [(0, vr v0), (1, vi v1), (2, vi v2), (3, vi v3), (4, vi v4), (5, vi v5)] [] h =
  (av_pI h v0 11 0 (0 : Int32)).bind fun g1 =>
  if av_is g1 v0 11 = true then (
  (av_cI (ev X d 259 [vr v0, vi v1, vi v2, vi v3, vi v4] g1)).bind fun q2 =>
  if q2.1 = 0 then
    ((av_bz (0 : Int32)).bind fun w => av_rI w q2.2)
  else (av_gR q2.2 v0 11 12).bind fun x3 =>
  (av_cI (ev X d 258 [vi v1, vi v2, vi v3, vi v4] q2.2)).bind fun q4 =>
  (av_sZ q4.2 x3 q4.1 v5).bind fun g5 =>
  (av_bz (1 : Int32)).bind fun w => av_rI w g5) else none :=
  (av_bd_eq av_Sg p_263 _ _ _ _ _).trans rfl
theorem e_263 (d : Nat) (v0 : Option Nat) (v1 : Int32) (v2 : Int32) (v3 : Int32) (v4 : Int32) (v5 : Int32) (h : av_H) : ev X (d + 1) 263 [vr v0, vi v1, vi v2, vi v3, vi v4, vi v5] h = bd X d 263 0 [(0, vr v0), (1, vi v1), (2, vi v2), (3, vi v3), (4, vi v4), (5, vi v5)] [] h := av_ev_eq av_Sg p_263 d _ h rfl
/-! 264 = X11_nest -/
set_option maxRecDepth 100000 in
theorem b_264_0 (d : Nat) (v0 : Option Nat) (v1 : Int32) (v2 : Int32) (v3 : Int32) (v4 : Int32) (v5 : Int32) (v6 : Int32) (h : av_H) : bd X d 264 0 [(0, vr v0), (1, vi v1), (2, vi v2), (3, vi v3), (4, vi v4), (5, vi v5), (6, vi v6)] [] h =
  (av_pI h v0 11 0 (0 : Int32)).bind fun g1 =>
  if av_is g1 v0 11 = true then (
  (av_cI (ev X d 259 [vr v0, vi v1, vi v2, vi v3, vi v4] g1)).bind fun q2 =>
  if q2.1 = 0 then
    ((av_bz (0 : Int32)).bind fun w => av_rI w q2.2)
  else (av_cI (ev X d 253 [vi v5] q2.2)).bind fun q3 =>
  if q3.1 = 0 then
    ((av_bz (0 : Int32)).bind fun w => av_rI w q3.2)
  else (av_cI (ev X d 253 [vi v6] q3.2)).bind fun q4 =>
  if q4.1 = 0 then
    ((av_bz (0 : Int32)).bind fun w => av_rI w q4.2)
  else if v6 < v5 then
    ((av_bz (0 : Int32)).bind fun w => av_rI w q4.2)
  else (av_gI q4.2 v0 11 18).bind fun x5 =>
  if x5 = (20 : Int32) then
    ((av_bz (0 : Int32)).bind fun w => av_rI w q4.2)
  else (av_gR q4.2 v0 11 19).bind fun x6 =>
  (av_gI q4.2 v0 11 18).bind fun x7 =>
  (av_cI (ev X d 258 [vi v1, vi v2, vi v3, vi v4] q4.2)).bind fun q8 =>
  (av_sI q8.2 x6 x7 q8.1).bind fun g9 =>
  (av_gR g9 v0 11 20).bind fun x10 =>
  (av_gI g9 v0 11 18).bind fun x11 =>
  (av_sI g9 x10 x11 v5).bind fun g12 =>
  (av_gR g12 v0 11 21).bind fun x13 =>
  (av_gI g12 v0 11 18).bind fun x14 =>
  (av_sI g12 x13 x14 v6).bind fun g15 =>
  (av_gI g15 v0 11 18).bind fun x16 =>
  (av_pI g15 v0 11 18 (x16 + (1 : Int32))).bind fun g17 =>
  (av_bz (1 : Int32)).bind fun w => av_rI w g17) else none :=
  (av_bd_eq av_Sg p_264 _ _ _ _ _).trans rfl
theorem e_264 (d : Nat) (v0 : Option Nat) (v1 : Int32) (v2 : Int32) (v3 : Int32) (v4 : Int32) (v5 : Int32) (v6 : Int32) (h : av_H) : ev X (d + 1) 264 [vr v0, vi v1, vi v2, vi v3, vi v4, vi v5, vi v6] h = bd X d 264 0 [(0, vr v0), (1, vi v1), (2, vi v2), (3, vi v3), (4, vi v4), (5, vi v5), (6, vi v6)] [] h := av_ev_eq av_Sg p_264 d _ h rfl
/-! 265 = X11_rail -/
set_option maxRecDepth 100000 in
theorem b_265_0 (d : Nat) (v0 : Option Nat) (v1 : Int32) (v2 : Int32) (v3 : Int32) (v4 : Int32) (h : av_H) : bd X d 265 0 [(0, vr v0), (1, vi v1), (2, vi v2), (3, vi v3), (4, vi v4)] [] h =
  (av_pI h v0 11 0 (0 : Int32)).bind fun g1 =>
  if av_is g1 v0 11 = true then (
  (av_cI (ev X d 260 [vr v0, vi v1, vi v2, vi v3] g1)).bind fun q2 =>
  if q2.1 = 0 then
    ((av_bz (0 : Int32)).bind fun w => av_rI w q2.2)
  else (av_gR q2.2 v0 11 14).bind fun x3 =>
  (av_cI (ev X d 261 [vi v1, vi v2, vi v3] q2.2)).bind fun q4 =>
  if v4 = 0 then
    ((av_sZ q4.2 x3 q4.1 (1 : Int32)).bind fun g5 =>
    (av_bz (1 : Int32)).bind fun w => av_rI w g5)
  else (av_sZ q4.2 x3 q4.1 (0 : Int32)).bind fun g6 =>
  (av_bz (1 : Int32)).bind fun w => av_rI w g6) else none :=
  (av_bd_eq av_Sg p_265 _ _ _ _ _).trans rfl
theorem e_265 (d : Nat) (v0 : Option Nat) (v1 : Int32) (v2 : Int32) (v3 : Int32) (v4 : Int32) (h : av_H) : ev X (d + 1) 265 [vr v0, vi v1, vi v2, vi v3, vi v4] h = bd X d 265 0 [(0, vr v0), (1, vi v1), (2, vi v2), (3, vi v3), (4, vi v4)] [] h := av_ev_eq av_Sg p_265 d _ h rfl
/-! 266 = X11_cradle -/
set_option maxRecDepth 100000 in
theorem b_266_0 (d : Nat) (v0 : Option Nat) (v1 : Int32) (v2 : Int32) (v3 : Int32) (h : av_H) : bd X d 266 0 [(0, vr v0), (1, vi v1), (2, vi v2), (3, vi v3)] [] h =
  (av_pI h v0 11 0 (0 : Int32)).bind fun g1 =>
  if av_is g1 v0 11 = true then (
  (av_cI (ev X d 257 [vr v0, vi v1] g1)).bind fun q2 =>
  if q2.1 = 0 then
    ((av_bz (0 : Int32)).bind fun w => av_rI w q2.2)
  else (av_cI (ev X d 252 [vi v2, vi (1 : Int32), vi (4 : Int32)] q2.2)).bind fun q3 =>
  if q3.1 = 0 then
    ((av_bz (0 : Int32)).bind fun w => av_rI w q3.2)
  else (av_cI (ev X d 252 [vi v3, vi (1 : Int32), vi (9999 : Int32)] q3.2)).bind fun q4 =>
  if q4.1 = 0 then
    ((av_bz (0 : Int32)).bind fun w => av_rI w q4.2)
  else (av_gR q4.2 v0 11 15).bind fun x5 =>
  (av_sI q4.2 x5 v1 v2).bind fun g6 =>
  (av_gR g6 v0 11 16).bind fun x7 =>
  (av_sI g6 x7 v1 v3).bind fun g8 =>
  (av_gR g8 v0 11 17).bind fun x9 =>
  (av_sI g8 x9 v1 (0 : Int32)).bind fun g10 =>
  (av_bz (1 : Int32)).bind fun w => av_rI w g10) else none :=
  (av_bd_eq av_Sg p_266 _ _ _ _ _).trans rfl
theorem e_266 (d : Nat) (v0 : Option Nat) (v1 : Int32) (v2 : Int32) (v3 : Int32) (h : av_H) : ev X (d + 1) 266 [vr v0, vi v1, vi v2, vi v3] h = bd X d 266 0 [(0, vr v0), (1, vi v1), (2, vi v2), (3, vi v3)] [] h := av_ev_eq av_Sg p_266 d _ h rfl
/-! 267 = X11_wind -/
set_option maxRecDepth 100000 in
theorem b_267_0 (d : Nat) (v0 : Option Nat) (v1 : Int32) (v2 : Int32) (v3 : Int32) (v4 : Int32) (h : av_H) : bd X d 267 0 [(0, vr v0), (1, vi v1), (2, vi v2), (3, vi v3), (4, vi v4)] [] h =
  (av_pI h v0 11 0 (0 : Int32)).bind fun g1 =>
  (av_cI (ev X d 255 [vi v1] g1)).bind fun q2 =>
  if q2.1 = 0 then
    ((av_bz (0 : Int32)).bind fun w => av_rI w q2.2)
  else (av_cI (ev X d 253 [vi v2] q2.2)).bind fun q3 =>
  if q3.1 = 0 then
    ((av_bz (0 : Int32)).bind fun w => av_rI w q3.2)
  else (av_cI (ev X d 254 [vi v3] q3.2)).bind fun q4 =>
  if q4.1 = 0 then
    ((av_bz (0 : Int32)).bind fun w => av_rI w q4.2)
  else (av_cI (ev X d 252 [vi v4, vi (0 : Int32), vi (99 : Int32)] q4.2)).bind fun q5 =>
  if q5.1 = 0 then
    ((av_bz (0 : Int32)).bind fun w => av_rI w q5.2)
  else (av_gR q5.2 v0 11 22).bind fun x6 =>
  (av_sI q5.2 x6 (((((100 : Int32) * v1) + v2) * (24 : Int32)) + v3) v4).bind fun g7 =>
  (av_bz (1 : Int32)).bind fun w => av_rI w g7 :=
  (av_bd_eq av_Sg p_267 _ _ _ _ _).trans rfl
theorem e_267 (d : Nat) (v0 : Option Nat) (v1 : Int32) (v2 : Int32) (v3 : Int32) (v4 : Int32) (h : av_H) : ev X (d + 1) 267 [vr v0, vi v1, vi v2, vi v3, vi v4] h = bd X d 267 0 [(0, vr v0), (1, vi v1), (2, vi v2), (3, vi v3), (4, vi v4)] [] h := av_ev_eq av_Sg p_267 d _ h rfl
/-! 268 = X11_leave -/
set_option maxRecDepth 100000 in
theorem b_268_0 (d : Nat) (v0 : Option Nat) (v1 : Int32) (v2 : Int32) (v3 : Int32) (v4 : Int32) (h : av_H) : bd X d 268 0 [(0, vr v0), (1, vi v1), (2, vi v2), (3, vi v3), (4, vi v4)] [] h =
  (av_pI h v0 11 0 (0 : Int32)).bind fun g1 =>
  if av_is g1 v0 11 = true then (
  (av_cI (ev X d 257 [vr v0, vi v1] g1)).bind fun q2 =>
  if q2.1 = 0 then
    ((av_bz (0 : Int32)).bind fun w => av_rI w q2.2)
  else (av_cI (ev X d 253 [vi v2] q2.2)).bind fun q3 =>
  if q3.1 = 0 then
    ((av_bz (0 : Int32)).bind fun w => av_rI w q3.2)
  else (av_cI (ev X d 254 [vi v3] q3.2)).bind fun q4 =>
  if q4.1 = 0 then
    ((av_bz (0 : Int32)).bind fun w => av_rI w q4.2)
  else (av_cI (ev X d 254 [vi v4] q4.2)).bind fun q5 =>
  if q5.1 = 0 then
    ((av_bz (0 : Int32)).bind fun w => av_rI w q5.2)
  else if v4 < v3 then
    ((av_bz (0 : Int32)).bind fun w => av_rI w q5.2)
  else (av_gI q5.2 v0 11 23).bind fun x6 =>
  if x6 = (60 : Int32) then
    ((av_bz (0 : Int32)).bind fun w => av_rI w q5.2)
  else (av_gR q5.2 v0 11 24).bind fun x7 =>
  (av_gI q5.2 v0 11 23).bind fun x8 =>
  (av_sI q5.2 x7 x8 v1).bind fun g9 =>
  (av_gR g9 v0 11 25).bind fun x10 =>
  (av_gI g9 v0 11 23).bind fun x11 =>
  (av_sI g9 x10 x11 v2).bind fun g12 =>
  (av_gR g12 v0 11 26).bind fun x13 =>
  (av_gI g12 v0 11 23).bind fun x14 =>
  (av_sI g12 x13 x14 v3).bind fun g15 =>
  (av_gR g15 v0 11 27).bind fun x16 =>
  (av_gI g15 v0 11 23).bind fun x17 =>
  (av_sI g15 x16 x17 v4).bind fun g18 =>
  (av_gI g18 v0 11 23).bind fun x19 =>
  (av_pI g18 v0 11 23 (x19 + (1 : Int32))).bind fun g20 =>
  (av_bz (1 : Int32)).bind fun w => av_rI w g20) else none :=
  (av_bd_eq av_Sg p_268 _ _ _ _ _).trans rfl
theorem e_268 (d : Nat) (v0 : Option Nat) (v1 : Int32) (v2 : Int32) (v3 : Int32) (v4 : Int32) (h : av_H) : ev X (d + 1) 268 [vr v0, vi v1, vi v2, vi v3, vi v4] h = bd X d 268 0 [(0, vr v0), (1, vi v1), (2, vi v2), (3, vi v3), (4, vi v4)] [] h := av_ev_eq av_Sg p_268 d _ h rfl
/-! 269 = X11_hasLeave -/
set_option maxRecDepth 100000 in
theorem b_269_0 (d : Nat) (v0 : Option Nat) (v1 : Int32) (v2 : Int32) (v3 : Int32) (h : av_H) : bd X d 269 0 [(0, vr v0), (1, vi v1), (2, vi v2), (3, vi v3)] [] h =
  bd X d 269 4 [(0, vr v0), (1, vi v1), (2, vi v2), (3, vi v3), (4, vi (0 : Int32)), (5, vi (0 : Int32))] [] h :=
  (av_bd_eq av_Sg p_269 _ _ _ _ _).trans rfl
set_option maxRecDepth 100000 in
theorem b_269_4 (d : Nat) (v0 : Option Nat) (v1 : Int32) (v2 : Int32) (v3 : Int32) (v4 : Int32) (v5 : Int32) (h : av_H) : bd X d 269 4 [(0, vr v0), (1, vi v1), (2, vi v2), (3, vi v3), (4, vi v4), (5, vi v5)] [] h =
  (av_gI h v0 11 23).bind fun x1 =>
  if v5 < x1 then
    (if v4 = 0 then
      ((av_gR h v0 11 24).bind fun x2 =>
      (av_lI X h x2 v5).bind fun x3 =>
      if x3 = v1 then
        ((av_gR h v0 11 25).bind fun x4 =>
        (av_lI X h x4 v5).bind fun x5 =>
        if x5 = v2 then
          ((av_gR h v0 11 26).bind fun x6 =>
          (av_lI X h x6 v5).bind fun x7 =>
          (av_gR h v0 11 27).bind fun x8 =>
          (av_lI X h x8 v5).bind fun x9 =>
          (av_cI (ev X d 252 [vi v3, vi x7, vi x9] h)).bind fun q10 =>
          if q10.1 = 0 then
            (bd X d 269 4 [(0, vr v0), (1, vi v1), (2, vi v2), (3, vi v3), (4, vi (0 : Int32)), (5, vi (v5 + (1 : Int32)))] [] q10.2)
          else bd X d 269 4 [(0, vr v0), (1, vi v1), (2, vi v2), (3, vi v3), (4, vi (1 : Int32)), (5, vi (v5 + (1 : Int32)))] [] q10.2)
        else bd X d 269 4 [(0, vr v0), (1, vi v1), (2, vi v2), (3, vi v3), (4, vi (0 : Int32)), (5, vi (v5 + (1 : Int32)))] [] h)
      else bd X d 269 4 [(0, vr v0), (1, vi v1), (2, vi v2), (3, vi v3), (4, vi (0 : Int32)), (5, vi (v5 + (1 : Int32)))] [] h)
    else bd X d 269 4 [(0, vr v0), (1, vi v1), (2, vi v2), (3, vi v3), (4, vi (1 : Int32)), (5, vi (v5 + (1 : Int32)))] [] h)
  else (av_bz v4).bind fun w => av_rI w h :=
  (av_bd_eq av_Sg p_269 _ _ _ _ _).trans rfl
theorem e_269 (d : Nat) (v0 : Option Nat) (v1 : Int32) (v2 : Int32) (v3 : Int32) (h : av_H) : ev X (d + 1) 269 [vr v0, vi v1, vi v2, vi v3] h = bd X d 269 0 [(0, vr v0), (1, vi v1), (2, vi v2), (3, vi v3)] [] h := av_ev_eq av_Sg p_269 d _ h rfl
/-! 270 = X11_elder -/
set_option maxRecDepth 100000 in
theorem b_270_0 (d : Nat) (v0 : Option Nat) (v1 : Int32) (v2 : Int32) (h : av_H) : bd X d 270 0 [(0, vr v0), (1, vi v1), (2, vi v2)] [] h =
  (av_pI h v0 11 0 (0 : Int32)).bind fun g1 =>
  (av_cI (ev X d 256 [vi v1] g1)).bind fun q2 =>
  if q2.1 = 0 then
    ((av_bz (0 : Int32)).bind fun w => av_rI w q2.2)
  else (av_gR q2.2 v0 11 28).bind fun x3 =>
  (av_sZ q2.2 x3 v1 v2).bind fun g4 =>
  (av_bz (1 : Int32)).bind fun w => av_rI w g4 :=
  (av_bd_eq av_Sg p_270 _ _ _ _ _).trans rfl
theorem e_270 (d : Nat) (v0 : Option Nat) (v1 : Int32) (v2 : Int32) (h : av_H) : ev X (d + 1) 270 [vr v0, vi v1, vi v2] h = bd X d 270 0 [(0, vr v0), (1, vi v1), (2, vi v2)] [] h := av_ev_eq av_Sg p_270 d _ h rfl
/-! 271 = X11_drill -/
set_option maxRecDepth 100000 in
theorem b_271_0 (d : Nat) (v0 : Option Nat) (v1 : Int32) (v2 : Int32) (h : av_H) : bd X d 271 0 [(0, vr v0), (1, vi v1), (2, vi v2)] [] h =
  (av_pI h v0 11 0 (0 : Int32)).bind fun g1 =>
  (av_cI (ev X d 256 [vi v1] g1)).bind fun q2 =>
  if q2.1 = 0 then
    ((av_bz (0 : Int32)).bind fun w => av_rI w q2.2)
  else (av_cI (ev X d 253 [vi v2] q2.2)).bind fun q3 =>
  if q3.1 = 0 then
    ((av_bz (0 : Int32)).bind fun w => av_rI w q3.2)
  else (av_gR q3.2 v0 11 29).bind fun x4 =>
  (av_sI q3.2 x4 v1 v2).bind fun g5 =>
  (av_bz (1 : Int32)).bind fun w => av_rI w g5 :=
  (av_bd_eq av_Sg p_271 _ _ _ _ _).trans rfl
theorem e_271 (d : Nat) (v0 : Option Nat) (v1 : Int32) (v2 : Int32) (h : av_H) : ev X (d + 1) 271 [vr v0, vi v1, vi v2] h = bd X d 271 0 [(0, vr v0), (1, vi v1), (2, vi v2)] [] h := av_ev_eq av_Sg p_271 d _ h rfl
/-! 272 = X11_hasNest -/
set_option maxRecDepth 100000 in
theorem b_272_0 (d : Nat) (v0 : Option Nat) (v1 : Int32) (v2 : Int32) (h : av_H) : bd X d 272 0 [(0, vr v0), (1, vi v1), (2, vi v2)] [] h =
  bd X d 272 4 [(0, vr v0), (1, vi v1), (2, vi v2), (3, vi (0 : Int32)), (4, vi (0 : Int32))] [] h :=
  (av_bd_eq av_Sg p_272 _ _ _ _ _).trans rfl
set_option maxRecDepth 100000 in
theorem b_272_4 (d : Nat) (v0 : Option Nat) (v1 : Int32) (v2 : Int32) (v3 : Int32) (v4 : Int32) (h : av_H) : bd X d 272 4 [(0, vr v0), (1, vi v1), (2, vi v2), (3, vi v3), (4, vi v4)] [] h =
  (av_gI h v0 11 18).bind fun x1 =>
  if v4 < x1 then
    (if v3 = 0 then
      ((av_gR h v0 11 19).bind fun x2 =>
      (av_lI X h x2 v4).bind fun x3 =>
      if x3 = v1 then
        ((av_gR h v0 11 20).bind fun x4 =>
        (av_lI X h x4 v4).bind fun x5 =>
        (av_gR h v0 11 21).bind fun x6 =>
        (av_lI X h x6 v4).bind fun x7 =>
        (av_cI (ev X d 252 [vi v2, vi x5, vi x7] h)).bind fun q8 =>
        if q8.1 = 0 then
          (bd X d 272 4 [(0, vr v0), (1, vi v1), (2, vi v2), (3, vi (0 : Int32)), (4, vi (v4 + (1 : Int32)))] [] q8.2)
        else bd X d 272 4 [(0, vr v0), (1, vi v1), (2, vi v2), (3, vi (1 : Int32)), (4, vi (v4 + (1 : Int32)))] [] q8.2)
      else bd X d 272 4 [(0, vr v0), (1, vi v1), (2, vi v2), (3, vi (0 : Int32)), (4, vi (v4 + (1 : Int32)))] [] h)
    else bd X d 272 4 [(0, vr v0), (1, vi v1), (2, vi v2), (3, vi (1 : Int32)), (4, vi (v4 + (1 : Int32)))] [] h)
  else (av_bz v3).bind fun w => av_rI w h :=
  (av_bd_eq av_Sg p_272 _ _ _ _ _).trans rfl
theorem e_272 (d : Nat) (v0 : Option Nat) (v1 : Int32) (v2 : Int32) (h : av_H) : ev X (d + 1) 272 [vr v0, vi v1, vi v2] h = bd X d 272 0 [(0, vr v0), (1, vi v1), (2, vi v2)] [] h := av_ev_eq av_Sg p_272 d _ h rfl
/-! 273 = X11_emit -/
set_option maxRecDepth 100000 in
theorem b_273_0 (d : Nat) (v0 : Option Nat) (v1 : Int32) (v2 : Int32) (h : av_H) : bd X d 273 0 [(0, vr v0), (1, vi v1), (2, vi v2)] [] h =
  (av_gR h v0 11 32).bind fun x1 =>
  (av_gI h v0 11 31).bind fun x2 =>
  (av_sI h x1 ((1100 : Int32) + x2) v1).bind fun g3 =>
  (av_gR g3 v0 11 33).bind fun x4 =>
  (av_gI g3 v0 11 31).bind fun x5 =>
  (av_sI g3 x4 ((1100 : Int32) + x5) v2).bind fun g6 =>
  (av_gI g6 v0 11 31).bind fun x7 =>
  (av_pI g6 v0 11 31 (x7 + (1 : Int32))).bind fun g8 =>
  av_rV g8 :=
  (av_bd_eq av_Sg p_273 _ _ _ _ _).trans rfl
theorem e_273 (d : Nat) (v0 : Option Nat) (v1 : Int32) (v2 : Int32) (h : av_H) : ev X (d + 1) 273 [vr v0, vi v1, vi v2] h = bd X d 273 0 [(0, vr v0), (1, vi v1), (2, vi v2)] [] h := av_ev_eq av_Sg p_273 d _ h rfl
/-! 274 = X11_rule -/
set_option maxRecDepth 100000 in
theorem b_274_0 (d : Nat) (v0 : Option Nat) (h : av_H) : bd X d 274 0 [(0, vr v0)] [] h =
  (av_pI h v0 11 0 (0 : Int32)).bind fun g1 =>
  if av_is g1 v0 11 = true then (
  (av_cV (ev X d 244 [vr v0] g1)).bind fun q2 =>
  (av_pI q2 v0 11 31 (0 : Int32)).bind fun g3 =>
  (av_gR g3 v0 11 34).bind fun x4 =>
  (av_sI g3 x4 (2 : Int32) (0 : Int32)).bind fun g5 =>
  (av_gR g5 v0 11 34).bind fun x6 =>
  (av_sI g5 x6 (3 : Int32) (0 : Int32)).bind fun g7 =>
  bd X d 274 20 [(0, vr v0), (1, vi (3 : Int32))] [] g7) else none :=
  (av_bd_eq av_Sg p_274 _ _ _ _ _).trans rfl
set_option maxRecDepth 100000 in
theorem b_274_20 (d : Nat) (v0 : Option Nat) (v1 : Int32) (h : av_H) : bd X d 274 20 [(0, vr v0), (1, vi v1)] [] h =
  if v1 < (6 : Int32) then
    ((av_gR h v0 11 36).bind fun x1 =>
    (av_sI h x1 v1 (-1 : Int32)).bind fun g2 =>
    bd X d 274 20 [(0, vr v0), (1, vi (v1 + (1 : Int32)))] [] g2)
  else (av_pI h v0 11 39 (-1 : Int32)).bind fun g3 =>
  (av_pI g3 v0 11 40 (-1 : Int32)).bind fun g4 =>
  (av_pZ g4 v0 11 42 (0 : Int32)).bind fun g5 =>
  bd X d 274 39 [(0, vr v0)] [] g5 :=
  (av_bd_eq av_Sg p_274 _ _ _ _ _).trans rfl
set_option maxRecDepth 100000 in
theorem b_274_39 (d : Nat) (v0 : Option Nat) (h : av_H) : bd X d 274 39 [(0, vr v0)] [] h =
  (av_gI h v0 11 8).bind fun x1 =>
  if x1 = 0 then
    ((av_gR h v0 11 4).bind fun x2 =>
    (av_gI h v0 11 7).bind fun x3 =>
    (av_lI X h x2 x3).bind fun x4 =>
    if x4 = 0 then
      (bd X d 274 54 [(0, vr v0)] [] h)
    else if av_is h v0 11 = true then (
    (av_cV (ev X d 277 [vr v0] h)).bind fun q5 =>
    if av_is q5 v0 11 = true then (
    (av_cV (ev X d 248 [vr v0, vi (59 : Int32)] q5)).bind fun q6 =>
    bd X d 274 39 [(0, vr v0)] [] q6) else none) else none)
  else bd X d 274 54 [(0, vr v0)] [] h :=
  (av_bd_eq av_Sg p_274 _ _ _ _ _).trans rfl
set_option maxRecDepth 100000 in
theorem b_274_54 (d : Nat) (v0 : Option Nat) (h : av_H) : bd X d 274 54 [(0, vr v0)] [] h =
  (av_gI h v0 11 8).bind fun x1 =>
  if x1 = 0 then
    (if av_is h v0 11 = true then (
    (av_cV (ev X d 275 [vr v0] h)).bind fun q2 =>
    (av_gI q2 v0 11 8).bind fun x3 =>
    av_rI x3 q2) else none)
  else (av_gI h v0 11 8).bind fun x4 =>
  av_rI x4 h :=
  (av_bd_eq av_Sg p_274 _ _ _ _ _).trans rfl
theorem e_274 (d : Nat) (v0 : Option Nat) (h : av_H) : ev X (d + 1) 274 [vr v0] h = bd X d 274 0 [(0, vr v0)] [] h := av_ev_eq av_Sg p_274 d _ h rfl
/-! 275 = X11_takesRule -/
set_option maxRecDepth 100000 in
theorem b_275_0 (d : Nat) (v0 : Option Nat) (h : av_H) : bd X d 275 0 [(0, vr v0)] [] h =
  (av_gI h v0 11 31).bind fun x1 =>
  (av_pI h v0 11 30 x1).bind fun g2 =>
  bd X d 275 6 [(0, vr v0), (1, vi (0 : Int32))] [] g2 :=
  (av_bd_eq av_Sg p_275 _ _ _ _ _).trans rfl
set_option maxRecDepth 100000 in
theorem b_275_6 (d : Nat) (v0 : Option Nat) (v1 : Int32) (h : av_H) : bd X d 275 6 [(0, vr v0), (1, vi v1)] [] h =
  (av_gI h v0 11 30).bind fun x1 =>
  if v1 < x1 then
    ((av_gR h v0 11 32).bind fun x2 =>
    (av_gR h v0 11 32).bind fun x3 =>
    (av_lI X h x3 ((1100 : Int32) + v1)).bind fun x4 =>
    (av_sI h x2 v1 x4).bind fun g5 =>
    (av_gR g5 v0 11 33).bind fun x6 =>
    (av_gR g5 v0 11 33).bind fun x7 =>
    (av_lI X g5 x7 ((1100 : Int32) + v1)).bind fun x8 =>
    (av_sI g5 x6 v1 x8).bind fun g9 =>
    bd X d 275 6 [(0, vr v0), (1, vi (v1 + (1 : Int32)))] [] g9)
  else bd X d 275 34 [(0, vr v0), (1, vi (0 : Int32))] [] h :=
  (av_bd_eq av_Sg p_275 _ _ _ _ _).trans rfl
set_option maxRecDepth 100000 in
theorem b_275_34 (d : Nat) (v0 : Option Nat) (v1 : Int32) (h : av_H) : bd X d 275 34 [(0, vr v0), (1, vi v1)] [] h =
  if v1 < (12 : Int32) then
    ((av_gR h v0 11 35).bind fun x1 =>
    (av_gR h v0 11 35).bind fun x2 =>
    (av_lI X h x2 ((12 : Int32) + v1)).bind fun x3 =>
    (av_sI h x1 v1 x3).bind fun g4 =>
    bd X d 275 34 [(0, vr v0), (1, vi (v1 + (1 : Int32)))] [] g4)
  else bd X d 275 51 [(0, vr v0), (1, vi (0 : Int32))] [] h :=
  (av_bd_eq av_Sg p_275 _ _ _ _ _).trans rfl
set_option maxRecDepth 100000 in
theorem b_275_51 (d : Nat) (v0 : Option Nat) (v1 : Int32) (h : av_H) : bd X d 275 51 [(0, vr v0), (1, vi v1)] [] h =
  if v1 < (3 : Int32) then
    ((av_gR h v0 11 36).bind fun x1 =>
    (av_gR h v0 11 36).bind fun x2 =>
    (av_lI X h x2 ((3 : Int32) + v1)).bind fun x3 =>
    (av_sI h x1 v1 x3).bind fun g4 =>
    bd X d 275 51 [(0, vr v0), (1, vi (v1 + (1 : Int32)))] [] g4)
  else (av_gR h v0 11 34).bind fun x5 =>
  (av_gR h v0 11 34).bind fun x6 =>
  (av_lI X h x6 (2 : Int32)).bind fun x7 =>
  (av_sI h x5 (0 : Int32) x7).bind fun g8 =>
  (av_gR g8 v0 11 34).bind fun x9 =>
  (av_gR g8 v0 11 34).bind fun x10 =>
  (av_lI X g8 x10 (3 : Int32)).bind fun x11 =>
  (av_sI g8 x9 (1 : Int32) x11).bind fun g12 =>
  (av_gI g12 v0 11 39).bind fun x13 =>
  if x13 < 0 then
    (bd X d 275 90 [(0, vr v0)] [vi (4 : Int32), vr v0] g12)
  else (av_gI g12 v0 11 39).bind fun x14 =>
  bd X d 275 90 [(0, vr v0)] [vi x14, vr v0] g12 :=
  (av_bd_eq av_Sg p_275 _ _ _ _ _).trans rfl
set_option maxRecDepth 100000 in
theorem b_275_90 (d : Nat) (v0 : Option Nat) (s0 : Option Nat) (s1 : Int32) (h : av_H) : bd X d 275 90 [(0, vr v0)] [vi s1, vr s0] h =
  (av_pI h s0 11 37 s1).bind fun g1 =>
  (av_gI g1 v0 11 40).bind fun x2 =>
  if x2 < 0 then
    ((av_pI g1 v0 11 38 (30 : Int32)).bind fun g3 =>
    (av_gI g3 v0 11 42).bind fun x4 =>
    (av_pZ g3 v0 11 41 x4).bind fun g5 =>
    av_rV g5)
  else (av_gI g1 v0 11 40).bind fun x6 =>
  (av_pI g1 v0 11 38 x6).bind fun g7 =>
  (av_gI g7 v0 11 42).bind fun x8 =>
  (av_pZ g7 v0 11 41 x8).bind fun g9 =>
  av_rV g9 :=
  (av_bd_eq av_Sg p_275 _ _ _ _ _).trans rfl
theorem e_275 (d : Nat) (v0 : Option Nat) (h : av_H) : ev X (d + 1) 275 [vr v0] h = bd X d 275 0 [(0, vr v0)] [] h := av_ev_eq av_Sg p_275 d _ h rfl
/-! 276 = X11_takeNumber -/
set_option maxRecDepth 100000 in
theorem b_276_0 (d : Nat) (v0 : Option Nat) (v1 : Int32) (v2 : Int32) (h : av_H) : bd X d 276 0 [(0, vr v0), (1, vi v1), (2, vi v2)] [] h =
  (av_gI h v0 11 8).bind fun x1 =>
  if x1 = 0 then
    ((av_gR h v0 11 4).bind fun x2 =>
    (av_gI h v0 11 7).bind fun x3 =>
    (av_lI X h x2 x3).bind fun x4 =>
    if x4 = (2 : Int32) then
      (bd X d 276 14 [(0, vr v0), (1, vi v1), (2, vi v2)] [] h)
    else if av_is h v0 11 = true then (
    (av_cV (ev X d 245 [vr v0, vi (1 : Int32)] h)).bind fun q5 =>
    bd X d 276 38 [(0, vr v0)] [] q5) else none)
  else bd X d 276 14 [(0, vr v0), (1, vi v1), (2, vi v2)] [] h :=
  (av_bd_eq av_Sg p_276 _ _ _ _ _).trans rfl
set_option maxRecDepth 100000 in
theorem b_276_14 (d : Nat) (v0 : Option Nat) (v1 : Int32) (v2 : Int32) (h : av_H) : bd X d 276 14 [(0, vr v0), (1, vi v1), (2, vi v2)] [] h =
  (av_gI h v0 11 8).bind fun x1 =>
  if x1 = 0 then
    ((av_gR h v0 11 6).bind fun x2 =>
    (av_gI h v0 11 7).bind fun x3 =>
    (av_lL h x2 x3).bind fun x4 =>
    if (lg_cmp x4 (v1.toInt64)) < 0 then
      (bd X d 276 35 [(0, vr v0)] [] h)
    else (av_gR h v0 11 6).bind fun x5 =>
    (av_gI h v0 11 7).bind fun x6 =>
    (av_lL h x5 x6).bind fun x7 =>
    if 0 < (lg_cmp x7 (v2.toInt64)) then
      (bd X d 276 35 [(0, vr v0)] [] h)
    else bd X d 276 38 [(0, vr v0)] [] h)
  else bd X d 276 38 [(0, vr v0)] [] h :=
  (av_bd_eq av_Sg p_276 _ _ _ _ _).trans rfl
set_option maxRecDepth 100000 in
theorem b_276_35 (d : Nat) (v0 : Option Nat) (h : av_H) : bd X d 276 35 [(0, vr v0)] [] h =
  if av_is h v0 11 = true then (
  (av_cV (ev X d 245 [vr v0, vi (4 : Int32)] h)).bind fun q1 =>
  bd X d 276 38 [(0, vr v0)] [] q1) else none :=
  (av_bd_eq av_Sg p_276 _ _ _ _ _).trans rfl
set_option maxRecDepth 100000 in
theorem b_276_38 (d : Nat) (v0 : Option Nat) (h : av_H) : bd X d 276 38 [(0, vr v0)] [] h =
  (av_gI h v0 11 8).bind fun x1 =>
  if 0 < x1 then
    (av_rI (0 : Int32) h)
  else (av_gI h v0 11 7).bind fun x2 =>
  (av_pI h v0 11 7 (x2 + (1 : Int32))).bind fun g3 =>
  (av_gR g3 v0 11 6).bind fun x4 =>
  (av_gI g3 v0 11 7).bind fun x5 =>
  (av_lL g3 x4 (x5 - (1 : Int32))).bind fun x6 =>
  av_rI (x6.toInt32) g3 :=
  (av_bd_eq av_Sg p_276 _ _ _ _ _).trans rfl
theorem e_276 (d : Nat) (v0 : Option Nat) (v1 : Int32) (v2 : Int32) (h : av_H) : ev X (d + 1) 276 [vr v0, vi v1, vi v2] h = bd X d 276 0 [(0, vr v0), (1, vi v1), (2, vi v2)] [] h := av_ev_eq av_Sg p_276 d _ h rfl
/-! 277 = X11_readLine -/
set_option maxRecDepth 100000 in
theorem b_277_0 (d : Nat) (v0 : Option Nat) (h : av_H) : bd X d 277 0 [(0, vr v0)] [] h =
  if av_is h v0 11 = true then (
  (av_cI (ev X d 247 [vr v0, vi (22 : Int32)] h)).bind fun q1 =>
  if q1.1 = 0 then
    (if av_is q1.2 v0 11 = true then (
    (av_cI (ev X d 247 [vr v0, vi (0 : Int32)] q1.2)).bind fun q2 =>
    if q2.1 = 0 then
      (if av_is q2.2 v0 11 = true then (
      (av_cI (ev X d 247 [vr v0, vi (1 : Int32)] q2.2)).bind fun q3 =>
      if q3.1 = 0 then
        (bd X d 277 92 [(0, vr v0), (1, vi (-1 : Int32)), (2, vi (2 : Int32))] [] q3.2)
      else bd X d 277 29 [(0, vr v0)] [] q3.2) else none)
    else bd X d 277 29 [(0, vr v0)] [] q2.2) else none)
  else (av_gI q1.2 v0 11 42).bind fun x4 =>
  if x4 = 0 then
    ((av_pZ q1.2 v0 11 42 (1 : Int32)).bind fun g5 =>
    (av_gI g5 v0 11 7).bind fun x6 =>
    (av_pI g5 v0 11 7 (x6 + (1 : Int32))).bind fun g7 =>
    av_rV g7)
  else if av_is q1.2 v0 11 = true then (
  (av_cV (ev X d 245 [vr v0, vi (3 : Int32)] q1.2)).bind fun q8 =>
  av_rV q8) else none) else none :=
  (av_bd_eq av_Sg p_277 _ _ _ _ _).trans rfl
set_option maxRecDepth 100000 in
theorem b_277_29 (d : Nat) (v0 : Option Nat) (h : av_H) : bd X d 277 29 [(0, vr v0)] [] h =
  if av_is h v0 11 = true then (
  (av_cI (ev X d 247 [vr v0, vi (0 : Int32)] h)).bind fun q1 =>
  if q1.1 = 0 then
    (bd X d 277 36 [(0, vr v0)] [vi (1 : Int32)] q1.2)
  else bd X d 277 36 [(0, vr v0)] [vi (0 : Int32)] q1.2) else none :=
  (av_bd_eq av_Sg p_277 _ _ _ _ _).trans rfl
set_option maxRecDepth 100000 in
theorem b_277_36 (d : Nat) (v0 : Option Nat) (s0 : Int32) (h : av_H) : bd X d 277 36 [(0, vr v0)] [vi s0] h =
  (av_gR h v0 11 34).bind fun x1 =>
  (av_lI X h x1 ((2 : Int32) + s0)).bind fun x2 =>
  if x2 = (6 : Int32) then
    (if av_is h v0 11 = true then (
    (av_cV (ev X d 245 [vr v0, vi (5 : Int32)] h)).bind fun q3 =>
    av_rV q3) else none)
  else (av_gI h v0 11 7).bind fun x4 =>
  (av_pI h v0 11 7 (x4 + (1 : Int32))).bind fun g5 =>
  if av_is g5 v0 11 = true then (
  (av_cV (ev X d 251 [vr v0, vi (7 : Int32)] g5)).bind fun q6 =>
  (av_gR q6 v0 11 35).bind fun x7 =>
  (av_gR q6 v0 11 34).bind fun x8 =>
  (av_lI X q6 x8 ((2 : Int32) + s0)).bind fun x9 =>
  (av_gI q6 v0 11 31).bind fun x10 =>
  (av_sI q6 x7 (((12 : Int32) + ((6 : Int32) * s0)) + x9) x10).bind fun g11 =>
  (av_gR g11 v0 11 34).bind fun x12 =>
  (av_lI X g11 x12 ((2 : Int32) + s0)).bind fun x13 =>
  (av_sI g11 x12 ((2 : Int32) + s0) (x13 + (1 : Int32))).bind fun g14 =>
  if av_is g14 v0 11 = true then (
  (av_cV (ev X d 278 [vr v0] g14)).bind fun q15 =>
  av_rV q15) else none) else none :=
  (av_bd_eq av_Sg p_277 _ _ _ _ _).trans rfl
set_option maxRecDepth 100000 in
theorem b_277_92 (d : Nat) (v0 : Option Nat) (v1 : Int32) (v2 : Int32) (h : av_H) : bd X d 277 92 [(0, vr v0), (1, vi v1), (2, vi v2)] [] h =
  if (6 : Int32) < v2 then
    (if v1 < 0 then
      (if av_is h v0 11 = true then (
      (av_cV (ev X d 245 [vr v0, vi (1 : Int32)] h)).bind fun q1 =>
      bd X d 277 137 [(0, vr v0), (1, vi v1)] [] q1) else none)
    else if v1 = (5 : Int32) then
      ((av_gI h v0 11 39).bind fun x2 =>
      if x2 < 0 then
        (bd X d 277 137 [(0, vr v0), (1, vi v1)] [] h)
      else bd X d 277 134 [(0, vr v0), (1, vi v1)] [] h)
    else if v1 = (6 : Int32) then
      ((av_gI h v0 11 40).bind fun x3 =>
      if x3 < 0 then
        (bd X d 277 137 [(0, vr v0), (1, vi v1)] [] h)
      else bd X d 277 134 [(0, vr v0), (1, vi v1)] [] h)
    else (av_gR h v0 11 36).bind fun x4 =>
    (av_lI X h x4 (((3 : Int32) + v1) - (2 : Int32))).bind fun x5 =>
    if x5 < 0 then
      (bd X d 277 137 [(0, vr v0), (1, vi v1)] [] h)
    else bd X d 277 134 [(0, vr v0), (1, vi v1)] [] h)
  else if av_is h v0 11 = true then (
  (av_cI (ev X d 247 [vr v0, vi v2] h)).bind fun q6 =>
  if q6.1 = 0 then
    (bd X d 277 92 [(0, vr v0), (1, vi v1), (2, vi (v2 + (1 : Int32)))] [] q6.2)
  else bd X d 277 92 [(0, vr v0), (1, vi v2), (2, vi (v2 + (1 : Int32)))] [] q6.2) else none :=
  (av_bd_eq av_Sg p_277 _ _ _ _ _).trans rfl
set_option maxRecDepth 100000 in
theorem b_277_134 (d : Nat) (v0 : Option Nat) (v1 : Int32) (h : av_H) : bd X d 277 134 [(0, vr v0), (1, vi v1)] [] h =
  if av_is h v0 11 = true then (
  (av_cV (ev X d 245 [vr v0, vi (3 : Int32)] h)).bind fun q1 =>
  bd X d 277 137 [(0, vr v0), (1, vi v1)] [] q1) else none :=
  (av_bd_eq av_Sg p_277 _ _ _ _ _).trans rfl
set_option maxRecDepth 100000 in
theorem b_277_137 (d : Nat) (v0 : Option Nat) (v1 : Int32) (h : av_H) : bd X d 277 137 [(0, vr v0), (1, vi v1)] [] h =
  (av_gI h v0 11 8).bind fun x1 =>
  if 0 < x1 then
    (av_rV h)
  else (av_gI h v0 11 7).bind fun x2 =>
  (av_pI h v0 11 7 (x2 + (1 : Int32))).bind fun g3 =>
  if v1 = (5 : Int32) then
    (if av_is g3 v0 11 = true then (
    (av_cI (ev X d 276 [vr v0, vi (1 : Int32), vi (12 : Int32)] g3)).bind fun q4 =>
    (av_pI q4.2 v0 11 39 q4.1).bind fun g5 =>
    av_rV g5) else none)
  else if v1 = (6 : Int32) then
    (if av_is g3 v0 11 = true then (
    (av_cI (ev X d 276 [vr v0, vi (1 : Int32), vi (99 : Int32)] g3)).bind fun q6 =>
    (av_pI q6.2 v0 11 40 q6.1).bind fun g7 =>
    av_rV g7) else none)
  else (av_gR g3 v0 11 36).bind fun x8 =>
  (av_gI g3 v0 11 31).bind fun x9 =>
  (av_sI g3 x8 (((3 : Int32) + v1) - (2 : Int32)) x9).bind fun g10 =>
  if av_is g10 v0 11 = true then (
  (av_cV (ev X d 278 [vr v0] g10)).bind fun q11 =>
  av_rV q11) else none :=
  (av_bd_eq av_Sg p_277 _ _ _ _ _).trans rfl
theorem e_277 (d : Nat) (v0 : Option Nat) (h : av_H) : ev X (d + 1) 277 [vr v0] h = bd X d 277 0 [(0, vr v0)] [] h := av_ev_eq av_Sg p_277 d _ h rfl
/-! 278 = X11_readWhole -/
set_option maxRecDepth 100000 in
theorem b_278_0 (d : Nat) (v0 : Option Nat) (h : av_H) : bd X d 278 0 [(0, vr v0)] [] h =
  if av_is h v0 11 = true then (
  (av_cV (ev X d 279 [vr v0, vi (0 : Int32)] h)).bind fun q1 =>
  if av_is q1 v0 11 = true then (
  (av_cV (ev X d 273 [vr v0, vi (0 : Int32), vi (0 : Int32)] q1)).bind fun q2 =>
  av_rV q2) else none) else none :=
  (av_bd_eq av_Sg p_278 _ _ _ _ _).trans rfl
theorem e_278 (d : Nat) (v0 : Option Nat) (h : av_H) : ev X (d + 1) 278 [vr v0] h = bd X d 278 0 [(0, vr v0)] [] h := av_ev_eq av_Sg p_278 d _ h rfl
/-! 279 = X11_all -/
set_option maxRecDepth 100000 in
theorem b_279_0 (d : Nat) (v0 : Option Nat) (v1 : Int32) (h : av_H) : bd X d 279 0 [(0, vr v0), (1, vi v1)] [] h =
  if av_is h v0 11 = true then (
  (av_cV (ev X d 280 [vr v0, vi v1] h)).bind fun q1 =>
  bd X d 279 3 [(0, vr v0), (1, vi v1)] [] q1) else none :=
  (av_bd_eq av_Sg p_279 _ _ _ _ _).trans rfl
set_option maxRecDepth 100000 in
theorem b_279_3 (d : Nat) (v0 : Option Nat) (v1 : Int32) (h : av_H) : bd X d 279 3 [(0, vr v0), (1, vi v1)] [] h =
  if av_is h v0 11 = true then (
  (av_cI (ev X d 247 [vr v0, vi (8 : Int32)] h)).bind fun q1 =>
  if q1.1 = 0 then
    (if av_is q1.2 v0 11 = true then (
    (av_cI (ev X d 247 [vr v0, vi (9 : Int32)] q1.2)).bind fun q2 =>
    if q2.1 = 0 then
      (av_rV q2.2)
    else bd X d 279 11 [(0, vr v0), (1, vi v1)] [] q2.2) else none)
  else bd X d 279 11 [(0, vr v0), (1, vi v1)] [] q1.2) else none :=
  (av_bd_eq av_Sg p_279 _ _ _ _ _).trans rfl
set_option maxRecDepth 100000 in
theorem b_279_11 (d : Nat) (v0 : Option Nat) (v1 : Int32) (h : av_H) : bd X d 279 11 [(0, vr v0), (1, vi v1)] [] h =
  if av_is h v0 11 = true then (
  (av_cI (ev X d 247 [vr v0, vi (8 : Int32)] h)).bind fun q1 =>
  (av_gI q1.2 v0 11 7).bind fun x2 =>
  (av_pI q1.2 v0 11 7 (x2 + (1 : Int32))).bind fun g3 =>
  if av_is g3 v0 11 = true then (
  (av_cV (ev X d 280 [vr v0, vi v1] g3)).bind fun q4 =>
  if q1.1 = 0 then
    (if av_is q4 v0 11 = true then (
    (av_cV (ev X d 273 [vr v0, vi (10 : Int32), vi (0 : Int32)] q4)).bind fun q5 =>
    bd X d 279 3 [(0, vr v0), (1, vi v1)] [] q5) else none)
  else if av_is q4 v0 11 = true then (
  (av_cV (ev X d 273 [vr v0, vi (9 : Int32), vi (0 : Int32)] q4)).bind fun q6 =>
  bd X d 279 3 [(0, vr v0), (1, vi v1)] [] q6) else none) else none) else none :=
  (av_bd_eq av_Sg p_279 _ _ _ _ _).trans rfl
theorem e_279 (d : Nat) (v0 : Option Nat) (v1 : Int32) (h : av_H) : ev X (d + 1) 279 [vr v0, vi v1] h = bd X d 279 0 [(0, vr v0), (1, vi v1)] [] h := av_ev_eq av_Sg p_279 d _ h rfl
/-! 280 = X11_test -/
set_option maxRecDepth 100000 in
theorem b_280_0 (d : Nat) (v0 : Option Nat) (v1 : Int32) (h : av_H) : bd X d 280 0 [(0, vr v0), (1, vi v1)] [] h =
  if av_is h v0 11 = true then (
  (av_cV (ev X d 281 [vr v0, vi v1] h)).bind fun q1 =>
  if av_is q1 v0 11 = true then (
  (av_cI (ev X d 246 [vr v0, vi (60 : Int32)] q1)).bind fun q2 =>
  if av_is q2.2 v0 11 = true then (
  (av_cI (ev X d 249 [vr v0, vi (60 : Int32)] q2.2)).bind fun q3 =>
  if q3.1 = 0 then
    (if av_is q3.2 v0 11 = true then (
    (av_cI (ev X d 249 [vr v0, vi (61 : Int32)] q3.2)).bind fun q4 =>
    if q4.1 = 0 then
      (av_rV q4.2)
    else bd X d 280 15 [(0, vr v0), (1, vi v1), (2, vi (q2.1))] [] q4.2) else none)
  else bd X d 280 15 [(0, vr v0), (1, vi v1), (2, vi (q2.1))] [] q3.2) else none) else none) else none :=
  (av_bd_eq av_Sg p_280 _ _ _ _ _).trans rfl
set_option maxRecDepth 100000 in
theorem b_280_15 (d : Nat) (v0 : Option Nat) (v1 : Int32) (v2 : Int32) (h : av_H) : bd X d 280 15 [(0, vr v0), (1, vi v1), (2, vi v2)] [] h =
  if av_is h v0 11 = true then (
  (av_cV (ev X d 281 [vr v0, vi v1] h)).bind fun q1 =>
  if v2 = 0 then
    (if av_is q1 v0 11 = true then (
    (av_cV (ev X d 273 [vr v0, vi (8 : Int32), vi (0 : Int32)] q1)).bind fun q2 =>
    av_rV q2) else none)
  else if av_is q1 v0 11 = true then (
  (av_cV (ev X d 273 [vr v0, vi (7 : Int32), vi (0 : Int32)] q1)).bind fun q3 =>
  av_rV q3) else none) else none :=
  (av_bd_eq av_Sg p_280 _ _ _ _ _).trans rfl
theorem e_280 (d : Nat) (v0 : Option Nat) (v1 : Int32) (h : av_H) : ev X (d + 1) 280 [vr v0, vi v1] h = bd X d 280 0 [(0, vr v0), (1, vi v1)] [] h := av_ev_eq av_Sg p_280 d _ h rfl
/-! 281 = X11_sums -/
set_option maxRecDepth 100000 in
theorem b_281_0 (d : Nat) (v0 : Option Nat) (v1 : Int32) (h : av_H) : bd X d 281 0 [(0, vr v0), (1, vi v1)] [] h =
  if av_is h v0 11 = true then (
  (av_cV (ev X d 282 [vr v0, vi v1] h)).bind fun q1 =>
  bd X d 281 3 [(0, vr v0), (1, vi v1)] [] q1) else none :=
  (av_bd_eq av_Sg p_281 _ _ _ _ _).trans rfl
set_option maxRecDepth 100000 in
theorem b_281_3 (d : Nat) (v0 : Option Nat) (v1 : Int32) (h : av_H) : bd X d 281 3 [(0, vr v0), (1, vi v1)] [] h =
  if av_is h v0 11 = true then (
  (av_cI (ev X d 246 [vr v0, vi (43 : Int32)] h)).bind fun q1 =>
  if q1.1 = 0 then
    (if av_is q1.2 v0 11 = true then (
    (av_cI (ev X d 246 [vr v0, vi (45 : Int32)] q1.2)).bind fun q2 =>
    if q2.1 = 0 then
      (av_rV q2.2)
    else bd X d 281 11 [(0, vr v0), (1, vi v1)] [] q2.2) else none)
  else bd X d 281 11 [(0, vr v0), (1, vi v1)] [] q1.2) else none :=
  (av_bd_eq av_Sg p_281 _ _ _ _ _).trans rfl
set_option maxRecDepth 100000 in
theorem b_281_11 (d : Nat) (v0 : Option Nat) (v1 : Int32) (h : av_H) : bd X d 281 11 [(0, vr v0), (1, vi v1)] [] h =
  if av_is h v0 11 = true then (
  (av_cI (ev X d 246 [vr v0, vi (43 : Int32)] h)).bind fun q1 =>
  (av_gI q1.2 v0 11 7).bind fun x2 =>
  (av_pI q1.2 v0 11 7 (x2 + (1 : Int32))).bind fun g3 =>
  if av_is g3 v0 11 = true then (
  (av_cV (ev X d 282 [vr v0, vi v1] g3)).bind fun q4 =>
  if q1.1 = 0 then
    (if av_is q4 v0 11 = true then (
    (av_cV (ev X d 273 [vr v0, vi (5 : Int32), vi (0 : Int32)] q4)).bind fun q5 =>
    bd X d 281 3 [(0, vr v0), (1, vi v1)] [] q5) else none)
  else if av_is q4 v0 11 = true then (
  (av_cV (ev X d 273 [vr v0, vi (4 : Int32), vi (0 : Int32)] q4)).bind fun q6 =>
  bd X d 281 3 [(0, vr v0), (1, vi v1)] [] q6) else none) else none) else none :=
  (av_bd_eq av_Sg p_281 _ _ _ _ _).trans rfl
theorem e_281 (d : Nat) (v0 : Option Nat) (v1 : Int32) (h : av_H) : ev X (d + 1) 281 [vr v0, vi v1] h = bd X d 281 0 [(0, vr v0), (1, vi v1)] [] h := av_ev_eq av_Sg p_281 d _ h rfl
/-! 282 = X11_products -/
set_option maxRecDepth 100000 in
theorem b_282_0 (d : Nat) (v0 : Option Nat) (v1 : Int32) (h : av_H) : bd X d 282 0 [(0, vr v0), (1, vi v1)] [] h =
  if av_is h v0 11 = true then (
  (av_cV (ev X d 283 [vr v0, vi v1] h)).bind fun q1 =>
  bd X d 282 3 [(0, vr v0), (1, vi v1)] [] q1) else none :=
  (av_bd_eq av_Sg p_282 _ _ _ _ _).trans rfl
set_option maxRecDepth 100000 in
theorem b_282_3 (d : Nat) (v0 : Option Nat) (v1 : Int32) (h : av_H) : bd X d 282 3 [(0, vr v0), (1, vi v1)] [] h =
  if av_is h v0 11 = true then (
  (av_cI (ev X d 249 [vr v0, vi (42 : Int32)] h)).bind fun q1 =>
  if q1.1 = 0 then
    (av_rV q1.2)
  else if av_is q1.2 v0 11 = true then (
  (av_cV (ev X d 283 [vr v0, vi v1] q1.2)).bind fun q2 =>
  if av_is q2 v0 11 = true then (
  (av_cV (ev X d 273 [vr v0, vi (6 : Int32), vi (0 : Int32)] q2)).bind fun q3 =>
  bd X d 282 3 [(0, vr v0), (1, vi v1)] [] q3) else none) else none) else none :=
  (av_bd_eq av_Sg p_282 _ _ _ _ _).trans rfl
theorem e_282 (d : Nat) (v0 : Option Nat) (v1 : Int32) (h : av_H) : ev X (d + 1) 282 [vr v0, vi v1] h = bd X d 282 0 [(0, vr v0), (1, vi v1)] [] h := av_ev_eq av_Sg p_282 d _ h rfl
/-! 283 = X11_takePart -/
set_option maxRecDepth 100000 in
theorem b_283_0 (d : Nat) (v0 : Option Nat) (v1 : Int32) (h : av_H) : bd X d 283 0 [(0, vr v0), (1, vi v1)] [] h =
  (av_gI h v0 11 8).bind fun x1 =>
  if 0 < x1 then
    (av_rV h)
  else bd X d 283 8 [(0, vr v0), (1, vi v1), (2, vi (-1 : Int32)), (3, vi (11 : Int32))] [] h :=
  (av_bd_eq av_Sg p_283 _ _ _ _ _).trans rfl
set_option maxRecDepth 100000 in
theorem b_283_8 (d : Nat) (v0 : Option Nat) (v1 : Int32) (v2 : Int32) (v3 : Int32) (h : av_H) : bd X d 283 8 [(0, vr v0), (1, vi v1), (2, vi v2), (3, vi v3)] [] h =
  if v3 < (22 : Int32) then
    (if av_is h v0 11 = true then (
    (av_cI (ev X d 247 [vr v0, vi v3] h)).bind fun q1 =>
    if q1.1 = 0 then
      (bd X d 283 8 [(0, vr v0), (1, vi v1), (2, vi v2), (3, vi (v3 + (1 : Int32)))] [] q1.2)
    else bd X d 283 8 [(0, vr v0), (1, vi v1), (2, vi (v3 - (11 : Int32))), (3, vi (v3 + (1 : Int32)))] [] q1.2) else none)
  else (av_gR h v0 11 4).bind fun x2 =>
  (av_gI h v0 11 7).bind fun x3 =>
  (av_lI X h x2 x3).bind fun x4 =>
  if x4 = (2 : Int32) then
    (bd X d 283 33 [(0, vr v0), (1, vi v1), (2, vi v2)] [vi (1 : Int32)] h)
  else bd X d 283 33 [(0, vr v0), (1, vi v1), (2, vi v2)] [vi (0 : Int32)] h :=
  (av_bd_eq av_Sg p_283 _ _ _ _ _).trans rfl
set_option maxRecDepth 100000 in
theorem b_283_33 (d : Nat) (v0 : Option Nat) (v1 : Int32) (v2 : Int32) (s0 : Int32) (h : av_H) : bd X d 283 33 [(0, vr v0), (1, vi v1), (2, vi v2)] [vi s0] h =
  if v2 < 0 then
    (if s0 = 0 then
      (if av_is h v0 11 = true then (
      (av_cI (ev X d 246 [vr v0, vi (40 : Int32)] h)).bind fun q1 =>
      if q1.1 = 0 then
        (if av_is q1.2 v0 11 = true then (
        (av_cI (ev X d 247 [vr v0, vi (10 : Int32)] q1.2)).bind fun q2 =>
        if q2.1 = 0 then
          (if av_is q2.2 v0 11 = true then (
          (av_cV (ev X d 245 [vr v0, vi (1 : Int32)] q2.2)).bind fun q3 =>
          bd X d 283 56 [(0, vr v0), (1, vi v1), (2, vi v2), (3, vi s0)] [] q3) else none)
        else bd X d 283 50 [(0, vr v0), (1, vi v1), (2, vi v2), (3, vi s0)] [] q2.2) else none)
      else bd X d 283 50 [(0, vr v0), (1, vi v1), (2, vi v2), (3, vi s0)] [] q1.2) else none)
    else bd X d 283 50 [(0, vr v0), (1, vi v1), (2, vi v2), (3, vi s0)] [] h)
  else bd X d 283 50 [(0, vr v0), (1, vi v1), (2, vi v2), (3, vi s0)] [] h :=
  (av_bd_eq av_Sg p_283 _ _ _ _ _).trans rfl
set_option maxRecDepth 100000 in
theorem b_283_50 (d : Nat) (v0 : Option Nat) (v1 : Int32) (v2 : Int32) (v3 : Int32) (h : av_H) : bd X d 283 50 [(0, vr v0), (1, vi v1), (2, vi v2), (3, vi v3)] [] h =
  if v1 = (5 : Int32) then
    (if av_is h v0 11 = true then (
    (av_cV (ev X d 245 [vr v0, vi (5 : Int32)] h)).bind fun q1 =>
    bd X d 283 56 [(0, vr v0), (1, vi v1), (2, vi v2), (3, vi v3)] [] q1) else none)
  else bd X d 283 56 [(0, vr v0), (1, vi v1), (2, vi v2), (3, vi v3)] [] h :=
  (av_bd_eq av_Sg p_283 _ _ _ _ _).trans rfl
set_option maxRecDepth 100000 in
theorem b_283_56 (d : Nat) (v0 : Option Nat) (v1 : Int32) (v2 : Int32) (v3 : Int32) (h : av_H) : bd X d 283 56 [(0, vr v0), (1, vi v1), (2, vi v2), (3, vi v3)] [] h =
  (av_gI h v0 11 8).bind fun x1 =>
  if 0 < x1 then
    (av_rV h)
  else if av_is h v0 11 = true then (
  (av_cI (ev X d 250 [vr v0, vi (10 : Int32)] h)).bind fun q2 =>
  if q2.1 = 0 then
    (if av_is q2.2 v0 11 = true then (
    (av_cI (ev X d 249 [vr v0, vi (40 : Int32)] q2.2)).bind fun q3 =>
    if q3.1 = 0 then
      (if v3 = 0 then
        (bd X d 283 93 [(0, vr v0), (2, vi v2), (3, vi v3)] [vi (2 : Int32), vr v0] q3.2)
      else bd X d 283 93 [(0, vr v0), (2, vi v2), (3, vi v3)] [vi (1 : Int32), vr v0] q3.2)
    else if av_is q3.2 v0 11 = true then (
    (av_cV (ev X d 279 [vr v0, vi (v1 + (1 : Int32))] q3.2)).bind fun q4 =>
    if av_is q4 v0 11 = true then (
    (av_cV (ev X d 248 [vr v0, vi (41 : Int32)] q4)).bind fun q5 =>
    av_rV q5) else none) else none) else none)
  else if av_is q2.2 v0 11 = true then (
  (av_cV (ev X d 283 [vr v0, vi (v1 + (1 : Int32))] q2.2)).bind fun q6 =>
  if av_is q6 v0 11 = true then (
  (av_cV (ev X d 273 [vr v0, vi (3 : Int32), vi (0 : Int32)] q6)).bind fun q7 =>
  av_rV q7) else none) else none) else none :=
  (av_bd_eq av_Sg p_283 _ _ _ _ _).trans rfl
set_option maxRecDepth 100000 in
theorem b_283_93 (d : Nat) (v0 : Option Nat) (v2 : Int32) (v3 : Int32) (s0 : Option Nat) (s1 : Int32) (h : av_H) : bd X d 283 93 [(0, vr v0), (2, vi v2), (3, vi v3)] [vi s1, vr s0] h =
  if v3 = 0 then
    (if av_is h s0 11 = true then (
    (av_cV (ev X d 273 [vr s0, vi s1, vi v2] h)).bind fun q1 =>
    (av_gI q1 v0 11 7).bind fun x2 =>
    (av_pI q1 v0 11 7 (x2 + (1 : Int32))).bind fun g3 =>
    av_rV g3) else none)
  else (av_gR h v0 11 6).bind fun x4 =>
  (av_gI h v0 11 7).bind fun x5 =>
  (av_lL h x4 x5).bind fun x6 =>
  if av_is h s0 11 = true then (
  (av_cV (ev X d 273 [vr s0, vi s1, vi (x6.toInt32)] h)).bind fun q7 =>
  (av_gI q7 v0 11 7).bind fun x8 =>
  (av_pI q7 v0 11 7 (x8 + (1 : Int32))).bind fun g9 =>
  av_rV g9) else none :=
  (av_bd_eq av_Sg p_283 _ _ _ _ _).trans rfl
theorem e_283 (d : Nat) (v0 : Option Nat) (v1 : Int32) (h : av_H) : ev X (d + 1) 283 [vr v0, vi v1] h = bd X d 283 0 [(0, vr v0), (1, vi v1)] [] h := av_ev_eq av_Sg p_283 d _ h rfl
/-! 284 = X11_worthAt -/
set_option maxRecDepth 100000 in
theorem b_284_0 (d : Nat) (v0 : Option Nat) (v1 : Int32) (h : av_H) : bd X d 284 0 [(0, vr v0), (1, vi v1)] [] h =
  bd X d 284 4 [(0, vr v0), (2, vi (0 : Int32)), (3, vi v1)] [] h :=
  (av_bd_eq av_Sg p_284 _ _ _ _ _).trans rfl
set_option maxRecDepth 100000 in
theorem b_284_4 (d : Nat) (v0 : Option Nat) (v2 : Int32) (v3 : Int32) (h : av_H) : bd X d 284 4 [(0, vr v0), (2, vi v2), (3, vi v3)] [] h =
  (av_gR h v0 11 32).bind fun x1 =>
  (av_lI X h x1 v3).bind fun x2 =>
  if x2 = 0 then
    ((av_gR h v0 11 44).bind fun x3 =>
    (av_lI X h x3 (0 : Int32)).bind fun x4 =>
    av_rI x4 h)
  else (av_gR h v0 11 32).bind fun x5 =>
  (av_lI X h x5 v3).bind fun x6 =>
  if x6 = (1 : Int32) then
    (bd X d 284 20 [(0, vr v0), (2, vi v2), (3, vi v3), (4, vi x6)] [] h)
  else if x6 = (2 : Int32) then
    (bd X d 284 20 [(0, vr v0), (2, vi v2), (3, vi v3), (4, vi x6)] [] h)
  else if x6 = (3 : Int32) then
    ((av_gR h v0 11 44).bind fun x7 =>
    (av_gR h v0 11 44).bind fun x8 =>
    (av_lI X h x8 (v2 - (1 : Int32))).bind fun x9 =>
    if x9 = 0 then
      ((av_sI h x7 (v2 - (1 : Int32)) (1 : Int32)).bind fun g10 =>
      bd X d 284 4 [(0, vr v0), (2, vi v2), (3, vi (v3 + (1 : Int32)))] [] g10)
    else (av_sI h x7 (v2 - (1 : Int32)) (0 : Int32)).bind fun g11 =>
    bd X d 284 4 [(0, vr v0), (2, vi v2), (3, vi (v3 + (1 : Int32)))] [] g11)
  else (av_gR h v0 11 44).bind fun x12 =>
  (av_gR h v0 11 44).bind fun x13 =>
  (av_lI X h x13 ((v2 + (-1 : Int32)) - (1 : Int32))).bind fun x14 =>
  (av_gR h v0 11 44).bind fun x15 =>
  (av_lI X h x15 (v2 + (-1 : Int32))).bind fun x16 =>
  (av_cI (ev X d 285 [vi x6, vi x14, vi x16] h)).bind fun q17 =>
  (av_sI q17.2 x12 ((v2 + (-1 : Int32)) - (1 : Int32)) q17.1).bind fun g18 =>
  bd X d 284 4 [(0, vr v0), (2, vi (v2 + (-1 : Int32))), (3, vi (v3 + (1 : Int32)))] [] g18 :=
  (av_bd_eq av_Sg p_284 _ _ _ _ _).trans rfl
set_option maxRecDepth 100000 in
theorem b_284_20 (d : Nat) (v0 : Option Nat) (v2 : Int32) (v3 : Int32) (v4 : Int32) (h : av_H) : bd X d 284 20 [(0, vr v0), (2, vi v2), (3, vi v3), (4, vi v4)] [] h =
  (av_gR h v0 11 44).bind fun x1 =>
  if v4 = (1 : Int32) then
    ((av_gR h v0 11 33).bind fun x2 =>
    (av_lI X h x2 v3).bind fun x3 =>
    (av_sI h x1 v2 x3).bind fun g4 =>
    bd X d 284 4 [(0, vr v0), (2, vi (v2 + (1 : Int32))), (3, vi (v3 + (1 : Int32)))] [] g4)
  else (av_gR h v0 11 43).bind fun x5 =>
  (av_gR h v0 11 33).bind fun x6 =>
  (av_lI X h x6 v3).bind fun x7 =>
  (av_lI X h x5 x7).bind fun x8 =>
  (av_sI h x1 v2 x8).bind fun g9 =>
  bd X d 284 4 [(0, vr v0), (2, vi (v2 + (1 : Int32))), (3, vi (v3 + (1 : Int32)))] [] g9 :=
  (av_bd_eq av_Sg p_284 _ _ _ _ _).trans rfl
theorem e_284 (d : Nat) (v0 : Option Nat) (v1 : Int32) (h : av_H) : ev X (d + 1) 284 [vr v0, vi v1] h = bd X d 284 0 [(0, vr v0), (1, vi v1)] [] h := av_ev_eq av_Sg p_284 d _ h rfl
/-! 285 = X11_both -/
set_option maxRecDepth 100000 in
theorem b_285_0 (d : Nat) (v0 : Int32) (v1 : Int32) (v2 : Int32) (h : av_H) : bd X d 285 0 [(0, vi v0), (1, vi v1), (2, vi v2)] [] h =
  if v0 = 4 then
    (av_rI (v1 + v2) h)
  else if v0 = 5 then
    (av_rI (v1 - v2) h)
  else if v0 = 6 then
    (av_rI (v1 * v2) h)
  else if v0 = 7 then
    (if v1 < v2 then
      (av_rI (1 : Int32) h)
    else av_rI (0 : Int32) h)
  else if v0 = 8 then
    (if v1 = v2 then
      (av_rI (1 : Int32) h)
    else av_rI (0 : Int32) h)
  else if v0 = 9 then
    (if v1 = 0 then
      (av_rI (0 : Int32) h)
    else if v2 = 0 then
      (av_rI (0 : Int32) h)
    else av_rI (1 : Int32) h)
  else if v1 = 0 then
    (if v2 = 0 then
      (av_rI (0 : Int32) h)
    else av_rI (1 : Int32) h)
  else av_rI (1 : Int32) h :=
  (av_bd_eq av_Sg p_285 _ _ _ _ _).trans rfl
theorem e_285 (d : Nat) (v0 : Int32) (v1 : Int32) (v2 : Int32) (h : av_H) : ev X (d + 1) 285 [vi v0, vi v1, vi v2] h = bd X d 285 0 [(0, vi v0), (1, vi v1), (2, vi v2)] [] h := av_ev_eq av_Sg p_285 d _ h rfl
/-! 286 = X11_isSo -/
set_option maxRecDepth 100000 in
theorem b_286_0 (d : Nat) (v0 : Option Nat) (v1 : Int32) (v2 : Int32) (v3 : Int32) (v4 : Int32) (h : av_H) : bd X d 286 0 [(0, vr v0), (1, vi v1), (2, vi v2), (3, vi v3), (4, vi v4)] [] h =
  (av_gR h v0 11 43).bind fun x1 =>
  (av_sI h x1 (1 : Int32) v2).bind fun g2 =>
  (av_gR g2 v0 11 43).bind fun x3 =>
  (av_sI g2 x3 (3 : Int32) v3).bind fun g4 =>
  (av_gR g4 v0 11 43).bind fun x5 =>
  if (7 : Int32) = 0 then none else (av_sI g4 x5 (4 : Int32) (v3 - v3 / (7 : Int32) * (7 : Int32))).bind fun g6 =>
  (av_gR g6 v0 11 43).bind fun x7 =>
  (av_sI g6 x7 (5 : Int32) v4).bind fun g8 =>
  (av_gR g8 v0 11 43).bind fun x9 =>
  (av_gR g8 v0 11 22).bind fun x10 =>
  (av_lI X g8 x10 (((((100 : Int32) * v2) + v3) * (24 : Int32)) + v4)).bind fun x11 =>
  (av_sI g8 x9 (6 : Int32) x11).bind fun g12 =>
  bd X d 286 42 [(0, vr v0), (1, vi v1), (5, vi (0 : Int32)), (6, vi (0 : Int32))] [] g12 :=
  (av_bd_eq av_Sg p_286 _ _ _ _ _).trans rfl
set_option maxRecDepth 100000 in
theorem b_286_42 (d : Nat) (v0 : Option Nat) (v1 : Int32) (v5 : Int32) (v6 : Int32) (h : av_H) : bd X d 286 42 [(0, vr v0), (1, vi v1), (5, vi v5), (6, vi v6)] [] h =
  (av_gR h v0 11 34).bind fun x1 =>
  (av_lI X h x1 v1).bind fun x2 =>
  if v6 < x2 then
    (if v5 = 0 then
      ((av_gR h v0 11 35).bind fun x3 =>
      (av_lI X h x3 (((6 : Int32) * v1) + v6)).bind fun x4 =>
      if av_is h v0 11 = true then (
      (av_cI (ev X d 284 [vr v0, vi x4] h)).bind fun q5 =>
      if q5.1 = 0 then
        (bd X d 286 42 [(0, vr v0), (1, vi v1), (5, vi (0 : Int32)), (6, vi (v6 + (1 : Int32)))] [] q5.2)
      else bd X d 286 42 [(0, vr v0), (1, vi v1), (5, vi (1 : Int32)), (6, vi (v6 + (1 : Int32)))] [] q5.2) else none)
    else bd X d 286 42 [(0, vr v0), (1, vi v1), (5, vi (1 : Int32)), (6, vi (v6 + (1 : Int32)))] [] h)
  else (av_bz v5).bind fun w => av_rI w h :=
  (av_bd_eq av_Sg p_286 _ _ _ _ _).trans rfl
theorem e_286 (d : Nat) (v0 : Option Nat) (v1 : Int32) (v2 : Int32) (v3 : Int32) (v4 : Int32) (h : av_H) : ev X (d + 1) 286 [vr v0, vi v1, vi v2, vi v3, vi v4] h = bd X d 286 0 [(0, vr v0), (1, vi v1), (2, vi v2), (3, vi v3), (4, vi v4)] [] h := av_ev_eq av_Sg p_286 d _ h rfl
/-! 287 = X11_reachOf -/
set_option maxRecDepth 100000 in
theorem b_287_0 (d : Nat) (v0 : Option Nat) (v1 : Int32) (v2 : Int32) (v3 : Int32) (v4 : Int32) (h : av_H) : bd X d 287 0 [(0, vr v0), (1, vi v1), (2, vi v2), (3, vi v3), (4, vi v4)] [] h =
  bd X d 287 4 [(0, vr v0), (1, vi v1), (2, vi v2), (3, vi v3), (4, vi v4), (5, vl (0 : Int64)), (7, vi (0 : Int32))] [] h :=
  (av_bd_eq av_Sg p_287 _ _ _ _ _).trans rfl
set_option maxRecDepth 100000 in
theorem b_287_4 (d : Nat) (v0 : Option Nat) (v1 : Int32) (v2 : Int32) (v3 : Int32) (v4 : Int32) (v5 : Int64) (v7 : Int32) (h : av_H) : bd X d 287 4 [(0, vr v0), (1, vi v1), (2, vi v2), (3, vi v3), (4, vi v4), (5, vl v5), (7, vi v7)] [] h =
  (av_gR h v0 11 10).bind fun x1 =>
  (av_lI X h x1 v1).bind fun x2 =>
  if v7 < x2 then
    (bd X d 287 12 [(0, vr v0), (1, vi v1), (2, vi v2), (3, vi v3), (4, vi v4), (5, vl v5), (7, vi v7), (8, vi (0 : Int32))] [] h)
  else av_rL v5 h :=
  (av_bd_eq av_Sg p_287 _ _ _ _ _).trans rfl
set_option maxRecDepth 100000 in
theorem b_287_12 (d : Nat) (v0 : Option Nat) (v1 : Int32) (v2 : Int32) (v3 : Int32) (v4 : Int32) (v5 : Int64) (v7 : Int32) (v8 : Int32) (h : av_H) : bd X d 287 12 [(0, vr v0), (1, vi v1), (2, vi v2), (3, vi v3), (4, vi v4), (5, vl v5), (7, vi v7), (8, vi v8)] [] h =
  (av_gR h v0 11 15).bind fun x1 =>
  (av_lI X h x1 v1).bind fun x2 =>
  if v8 < x2 then
    ((av_gR h v0 11 11).bind fun x3 =>
    (av_lI X h x3 v1).bind fun x4 =>
    if (v3 + v8) < x4 then
      ((av_cI (ev X d 258 [vi v1, vi v2, vi v7, vi (v3 + v8)] h)).bind fun q5 =>
      (av_gR q5.2 v0 11 12).bind fun x6 =>
      (av_lB q5.2 x6 103 q5.1).bind fun x7 =>
      if x7 = 0 then
        (if av_is q5.2 v0 11 = true then (
        (av_cI (ev X d 272 [vr v0, vi (q5.1), vi v4] q5.2)).bind fun q8 =>
        if q8.1 = 0 then
          (bd X d 287 12 [(0, vr v0), (1, vi v1), (2, vi v2), (3, vi v3), (4, vi v4), (5, vl (v5 ||| ((1 : Int64) <<< ((((4 : Int32) * v7) + v8).toInt64 &&& 63)))), (7, vi v7), (8, vi (v8 + (1 : Int32)))] [] q8.2)
        else bd X d 287 12 [(0, vr v0), (1, vi v1), (2, vi v2), (3, vi v3), (4, vi v4), (5, vl (v5 ||| (0 : Int64))), (7, vi v7), (8, vi (v8 + (1 : Int32)))] [] q8.2) else none)
      else bd X d 287 12 [(0, vr v0), (1, vi v1), (2, vi v2), (3, vi v3), (4, vi v4), (5, vl (v5 ||| (0 : Int64))), (7, vi v7), (8, vi (v8 + (1 : Int32)))] [] q5.2)
    else bd X d 287 4 [(0, vr v0), (1, vi v1), (2, vi v2), (3, vi v3), (4, vi v4), (5, vl v5), (7, vi (v7 + (1 : Int32)))] [] h)
  else bd X d 287 4 [(0, vr v0), (1, vi v1), (2, vi v2), (3, vi v3), (4, vi v4), (5, vl v5), (7, vi (v7 + (1 : Int32)))] [] h :=
  (av_bd_eq av_Sg p_287 _ _ _ _ _).trans rfl
theorem e_287 (d : Nat) (v0 : Option Nat) (v1 : Int32) (v2 : Int32) (v3 : Int32) (v4 : Int32) (h : av_H) : ev X (d + 1) 287 [vr v0, vi v1, vi v2, vi v3, vi v4] h = bd X d 287 0 [(0, vr v0), (1, vi v1), (2, vi v2), (3, vi v3), (4, vi v4)] [] h := av_ev_eq av_Sg p_287 d _ h rfl
/-! 288 = X11_bits -/
set_option maxRecDepth 100000 in
theorem b_288_0 (d : Nat) (v0 : Int64) (h : av_H) : bd X d 288 0 [(0, vl v0)] [] h =
  bd X d 288 4 [(0, vl v0), (2, vi (0 : Int32)), (3, vi (0 : Int32))] [] h :=
  (av_bd_eq av_Sg p_288 _ _ _ _ _).trans rfl
set_option maxRecDepth 100000 in
theorem b_288_4 (d : Nat) (v0 : Int64) (v2 : Int32) (v3 : Int32) (h : av_H) : bd X d 288 4 [(0, vl v0), (2, vi v2), (3, vi v3)] [] h =
  if v3 < (48 : Int32) then
    (bd X d 288 4 [(0, vl v0), (2, vi (v2 + (((v0 >>> (v3.toInt64 &&& 63)) &&& (1 : Int64)).toInt32))), (3, vi (v3 + (1 : Int32)))] [] h)
  else av_rI v2 h :=
  (av_bd_eq av_Sg p_288 _ _ _ _ _).trans rfl
theorem e_288 (d : Nat) (v0 : Int64) (h : av_H) : ev X (d + 1) 288 [vl v0] h = bd X d 288 0 [(0, vl v0)] [] h := av_ev_eq av_Sg p_288 d _ h rfl
/-! 289 = X11_ageOf -/
set_option maxRecDepth 100000 in
theorem b_289_0 (d : Nat) (v0 : Option Nat) (v1 : Int32) (v2 : Int32) (v3 : Int32) (v4 : Int32) (v5 : Int64) (h : av_H) : bd X d 289 0 [(0, vr v0), (1, vi v1), (2, vi v2), (3, vi v3), (4, vi v4), (5, vl v5)] [] h =
  bd X d 289 4 [(0, vr v0), (1, vi v1), (2, vi v2), (3, vi v3), (4, vi v4), (5, vl v5), (7, vi (0 : Int32)), (8, vi (0 : Int32))] [] h :=
  (av_bd_eq av_Sg p_289 _ _ _ _ _).trans rfl
set_option maxRecDepth 100000 in
theorem b_289_4 (d : Nat) (v0 : Option Nat) (v1 : Int32) (v2 : Int32) (v3 : Int32) (v4 : Int32) (v5 : Int64) (v7 : Int32) (v8 : Int32) (h : av_H) : bd X d 289 4 [(0, vr v0), (1, vi v1), (2, vi v2), (3, vi v3), (4, vi v4), (5, vl v5), (7, vi v7), (8, vi v8)] [] h =
  if v8 < (48 : Int32) then
    (if (lg_cmp ((v5 >>> (v8.toInt64 &&& 63)) &&& (1 : Int64)) (1 : Int64)) = 0 then
      ((av_gR h v0 11 13).bind fun x1 =>
      if (4 : Int32) = 0 then none else if (4 : Int32) = 0 then none else (av_cI (ev X d 258 [vi v1, vi v2, vi (v8 / (4 : Int32)), vi (v3 + (v8 - v8 / (4 : Int32) * (4 : Int32)))] h)).bind fun q2 =>
      (av_lI X q2.2 x1 q2.1).bind fun x3 =>
      if x3 < 0 then
        (bd X d 289 37 [(0, vr v0), (1, vi v1), (2, vi v2), (3, vi v3), (4, vi v4), (5, vl v5), (7, vi v7), (8, vi v8)] [] q2.2)
      else if (99 : Int32) < (v4 - x3) then
        (bd X d 289 37 [(0, vr v0), (1, vi v1), (2, vi v2), (3, vi v3), (4, vi v4), (5, vl v5), (7, vi v7), (8, vi v8)] [] q2.2)
      else bd X d 289 42 [(0, vr v0), (1, vi v1), (2, vi v2), (3, vi v3), (4, vi v4), (5, vl v5), (7, vi v7), (8, vi v8)] [vi (v4 - x3)] q2.2)
    else bd X d 289 4 [(0, vr v0), (1, vi v1), (2, vi v2), (3, vi v3), (4, vi v4), (5, vl v5), (7, vi v7), (8, vi (v8 + (1 : Int32)))] [] h)
  else av_rI v7 h :=
  (av_bd_eq av_Sg p_289 _ _ _ _ _).trans rfl
set_option maxRecDepth 100000 in
theorem b_289_37 (d : Nat) (v0 : Option Nat) (v1 : Int32) (v2 : Int32) (v3 : Int32) (v4 : Int32) (v5 : Int64) (v7 : Int32) (v8 : Int32) (h : av_H) : bd X d 289 37 [(0, vr v0), (1, vi v1), (2, vi v2), (3, vi v3), (4, vi v4), (5, vl v5), (7, vi v7), (8, vi v8)] [] h =
  bd X d 289 42 [(0, vr v0), (1, vi v1), (2, vi v2), (3, vi v3), (4, vi v4), (5, vl v5), (7, vi v7), (8, vi v8)] [vi (99 : Int32)] h :=
  (av_bd_eq av_Sg p_289 _ _ _ _ _).trans rfl
set_option maxRecDepth 100000 in
theorem b_289_42 (d : Nat) (v0 : Option Nat) (v1 : Int32) (v2 : Int32) (v3 : Int32) (v4 : Int32) (v5 : Int64) (v7 : Int32) (v8 : Int32) (s0 : Int32) (h : av_H) : bd X d 289 42 [(0, vr v0), (1, vi v1), (2, vi v2), (3, vi v3), (4, vi v4), (5, vl v5), (7, vi v7), (8, vi v8)] [vi s0] h =
  if v7 < s0 then
    (bd X d 289 4 [(0, vr v0), (1, vi v1), (2, vi v2), (3, vi v3), (4, vi v4), (5, vl v5), (7, vi s0), (8, vi (v8 + (1 : Int32)))] [] h)
  else bd X d 289 4 [(0, vr v0), (1, vi v1), (2, vi v2), (3, vi v3), (4, vi v4), (5, vl v5), (7, vi v7), (8, vi (v8 + (1 : Int32)))] [] h :=
  (av_bd_eq av_Sg p_289 _ _ _ _ _).trans rfl
theorem e_289 (d : Nat) (v0 : Option Nat) (v1 : Int32) (v2 : Int32) (v3 : Int32) (v4 : Int32) (v5 : Int64) (h : av_H) : ev X (d + 1) 289 [vr v0, vi v1, vi v2, vi v3, vi v4, vl v5] h = bd X d 289 0 [(0, vr v0), (1, vi v1), (2, vi v2), (3, vi v3), (4, vi v4), (5, vl v5)] [] h := av_ev_eq av_Sg p_289 d _ h rfl
/-! 290 = X11_hoursFor -/
set_option maxRecDepth 100000 in
theorem b_290_0 (d : Nat) (v0 : Option Nat) (v1 : Int32) (h : av_H) : bd X d 290 0 [(0, vr v0), (1, vi v1)] [] h =
  (av_gR h v0 11 10).bind fun x1 =>
  (av_lI X h x1 v1).bind fun x2 =>
  (av_gI h v0 11 37).bind fun x3 =>
  (av_gI h v0 11 37).bind fun x4 =>
  if x4 = 0 then none else av_rI (((x2 + x3) - (1 : Int32)) / x4) h :=
  (av_bd_eq av_Sg p_290 _ _ _ _ _).trans rfl
theorem e_290 (d : Nat) (v0 : Option Nat) (v1 : Int32) (h : av_H) : ev X (d + 1) 290 [vr v0, vi v1] h = bd X d 290 0 [(0, vr v0), (1, vi v1)] [] h := av_ev_eq av_Sg p_290 d _ h rfl
/-! 291 = X11_reach -/
set_option maxRecDepth 100000 in
theorem b_291_0 (d : Nat) (v0 : Option Nat) (v1 : Int32) (v2 : Int32) (v3 : Int32) (v4 : Int32) (h : av_H) : bd X d 291 0 [(0, vr v0), (1, vi v1), (2, vi v2), (3, vi v3), (4, vi v4)] [] h =
  (av_pI h v0 11 0 (0 : Int32)).bind fun g1 =>
  if av_is g1 v0 11 = true then (
  (av_cI (ev X d 260 [vr v0, vi v1, vi v2, vi v3] g1)).bind fun q2 =>
  if q2.1 = 0 then
    (av_rI (-1 : Int32) q2.2)
  else (av_cI (ev X d 253 [vi v4] q2.2)).bind fun q3 =>
  if q3.1 = 0 then
    (av_rI (-1 : Int32) q3.2)
  else if av_is q3.2 v0 11 = true then (
  (av_cL (ev X d 287 [vr v0, vi v1, vi v2, vi v3, vi v4] q3.2)).bind fun q4 =>
  (av_cI (ev X d 288 [vl (q4.1)] q4.2)).bind fun q5 =>
  av_rI q5.1 q5.2) else none) else none :=
  (av_bd_eq av_Sg p_291 _ _ _ _ _).trans rfl
theorem e_291 (d : Nat) (v0 : Option Nat) (v1 : Int32) (v2 : Int32) (v3 : Int32) (v4 : Int32) (h : av_H) : ev X (d + 1) 291 [vr v0, vi v1, vi v2, vi v3, vi v4] h = bd X d 291 0 [(0, vr v0), (1, vi v1), (2, vi v2), (3, vi v3), (4, vi v4)] [] h := av_ev_eq av_Sg p_291 d _ h rfl
/-! 292 = X11_lays -/
set_option maxRecDepth 100000 in
theorem b_292_0 (d : Nat) (v0 : Option Nat) (v1 : Int32) (v2 : Int32) (v3 : Int32) (v4 : Int32) (v5 : Int32) (h : av_H) : bd X d 292 0 [(0, vr v0), (1, vi v1), (2, vi v2), (3, vi v3), (4, vi v4), (5, vi v5)] [] h =
  (av_gR h v0 11 43).bind fun x1 =>
  (av_sI h x1 (0 : Int32) v1).bind fun g2 =>
  (av_gR g2 v0 11 43).bind fun x3 =>
  (av_gR g2 v0 11 10).bind fun x4 =>
  (av_lI X g2 x4 v1).bind fun x5 =>
  (av_sI g2 x3 (2 : Int32) x5).bind fun g6 =>
  (av_gR g6 v0 11 43).bind fun x7 =>
  (av_sI g6 x7 (7 : Int32) v2).bind fun g8 =>
  (av_gR g8 v0 11 43).bind fun x9 =>
  (av_sI g8 x9 (8 : Int32) v3).bind fun g10 =>
  (av_gR g10 v0 11 43).bind fun x11 =>
  (av_sI g10 x11 (9 : Int32) v4).bind fun g12 =>
  (av_gR g12 v0 11 43).bind fun x13 =>
  (av_sI g12 x13 (10 : Int32) v5).bind fun g14 =>
  av_rV g14 :=
  (av_bd_eq av_Sg p_292 _ _ _ _ _).trans rfl
theorem e_292 (d : Nat) (v0 : Option Nat) (v1 : Int32) (v2 : Int32) (v3 : Int32) (v4 : Int32) (v5 : Int32) (h : av_H) : ev X (d + 1) 292 [vr v0, vi v1, vi v2, vi v3, vi v4, vi v5] h = bd X d 292 0 [(0, vr v0), (1, vi v1), (2, vi v2), (3, vi v3), (4, vi v4), (5, vi v5)] [] h := av_ev_eq av_Sg p_292 d _ h rfl
/-! 293 = X11_byLine -/
set_option maxRecDepth 100000 in
theorem b_293_0 (d : Nat) (v0 : Option Nat) (v1 : Int32) (v2 : Int32) (v3 : Int32) (v4 : Int32) (h : av_H) : bd X d 293 0 [(0, vr v0), (1, vi v1), (2, vi v2), (3, vi v3), (4, vi v4)] [] h =
  (av_gR h v0 11 36).bind fun x1 =>
  (av_lI X h x1 v1).bind fun x2 =>
  if x2 < 0 then
    (av_rI (0 : Int32) h)
  else (av_gR h v0 11 43).bind fun x3 =>
  (av_sI h x3 (1 : Int32) v2).bind fun g4 =>
  (av_gR g4 v0 11 43).bind fun x5 =>
  (av_sI g4 x5 (3 : Int32) v3).bind fun g6 =>
  (av_gR g6 v0 11 43).bind fun x7 =>
  if (7 : Int32) = 0 then none else (av_sI g6 x7 (4 : Int32) (v3 - v3 / (7 : Int32) * (7 : Int32))).bind fun g8 =>
  (av_gR g8 v0 11 43).bind fun x9 =>
  (av_sI g8 x9 (5 : Int32) v4).bind fun g10 =>
  (av_gR g10 v0 11 43).bind fun x11 =>
  (av_gR g10 v0 11 22).bind fun x12 =>
  (av_lI X g10 x12 (((((100 : Int32) * v2) + v3) * (24 : Int32)) + v4)).bind fun x13 =>
  (av_sI g10 x11 (6 : Int32) x13).bind fun g14 =>
  (av_gR g14 v0 11 36).bind fun x15 =>
  (av_lI X g14 x15 v1).bind fun x16 =>
  if av_is g14 v0 11 = true then (
  (av_cI (ev X d 284 [vr v0, vi x16] g14)).bind fun q17 =>
  if q17.1 < 0 then
    (av_rI (0 : Int32) q17.2)
  else av_rI q17.1 q17.2) else none :=
  (av_bd_eq av_Sg p_293 _ _ _ _ _).trans rfl
theorem e_293 (d : Nat) (v0 : Option Nat) (v1 : Int32) (v2 : Int32) (v3 : Int32) (v4 : Int32) (h : av_H) : ev X (d + 1) 293 [vr v0, vi v1, vi v2, vi v3, vi v4] h = bd X d 293 0 [(0, vr v0), (1, vi v1), (2, vi v2), (3, vi v3), (4, vi v4)] [] h := av_ev_eq av_Sg p_293 d _ h rfl
/-! 294 = X11_isDrilled -/
set_option maxRecDepth 100000 in
theorem b_294_0 (d : Nat) (v0 : Option Nat) (v1 : Int32) (v2 : Int32) (h : av_H) : bd X d 294 0 [(0, vr v0), (1, vi v1), (2, vi v2)] [] h =
  (av_gR h v0 11 29).bind fun x1 =>
  (av_lI X h x1 v1).bind fun x2 =>
  if x2 < 0 then
    ((av_bz (0 : Int32)).bind fun w => av_rI w h)
  else (av_gR h v0 11 29).bind fun x3 =>
  (av_lI X h x3 v1).bind fun x4 =>
  (av_gI h v0 11 38).bind fun x5 =>
  if x4 < (v2 - x5) then
    ((av_bz (0 : Int32)).bind fun w => av_rI w h)
  else (av_gR h v0 11 29).bind fun x6 =>
  (av_lI X h x6 v1).bind fun x7 =>
  if v2 < x7 then
    ((av_bz (0 : Int32)).bind fun w => av_rI w h)
  else (av_bz (1 : Int32)).bind fun w => av_rI w h :=
  (av_bd_eq av_Sg p_294 _ _ _ _ _).trans rfl
theorem e_294 (d : Nat) (v0 : Option Nat) (v1 : Int32) (v2 : Int32) (h : av_H) : ev X (d + 1) 294 [vr v0, vi v1, vi v2] h = bd X d 294 0 [(0, vr v0), (1, vi v1), (2, vi v2)] [] h := av_ev_eq av_Sg p_294 d _ h rfl
/-! 295 = X11_meets -/
set_option maxRecDepth 100000 in
theorem b_295_0 (d : Nat) (v0 : Option Nat) (v1 : Int32) (v2 : Int32) (v3 : Int32) (v4 : Int32) (v5 : Int32) (v6 : Int32) (h : av_H) : bd X d 295 0 [(0, vr v0), (1, vi v1), (2, vi v2), (3, vi v3), (4, vi v4), (5, vi v5), (6, vi v6)] [] h =
  bd X d 295 4 [(0, vr v0), (1, vi v1), (2, vi v2), (3, vi v3), (4, vi v4), (5, vi v5), (6, vi v6), (7, vi (0 : Int32)), (8, vi (0 : Int32))] [] h :=
  (av_bd_eq av_Sg p_295 _ _ _ _ _).trans rfl
set_option maxRecDepth 100000 in
theorem b_295_4 (d : Nat) (v0 : Option Nat) (v1 : Int32) (v2 : Int32) (v3 : Int32) (v4 : Int32) (v5 : Int32) (v6 : Int32) (v7 : Int32) (v8 : Int32) (h : av_H) : bd X d 295 4 [(0, vr v0), (1, vi v1), (2, vi v2), (3, vi v3), (4, vi v4), (5, vi v5), (6, vi v6), (7, vi v7), (8, vi v8)] [] h =
  (av_gI h v0 11 45).bind fun x1 =>
  if v8 < x1 then
    ((av_gR h v0 11 49).bind fun x2 =>
    (av_lI X h x2 v8).bind fun x3 =>
    if x3 = v1 then
      ((av_gR h v0 11 50).bind fun x4 =>
      (av_lI X h x4 v8).bind fun x5 =>
      if x5 < (v2 + v3) then
        ((av_gR h v0 11 50).bind fun x6 =>
        (av_lI X h x6 v8).bind fun x7 =>
        (av_gR h v0 11 51).bind fun x8 =>
        (av_lI X h x8 v8).bind fun x9 =>
        if v2 < (x7 + x9) then
          (bd X d 295 36 [(0, vr v0), (1, vi v1), (2, vi v2), (3, vi v3), (4, vi v4), (5, vi v5), (6, vi v6), (7, vi v7), (8, vi v8)] [vi (1 : Int32)] h)
        else bd X d 295 35 [(0, vr v0), (1, vi v1), (2, vi v2), (3, vi v3), (4, vi v4), (5, vi v5), (6, vi v6), (7, vi v7), (8, vi v8)] [] h)
      else bd X d 295 35 [(0, vr v0), (1, vi v1), (2, vi v2), (3, vi v3), (4, vi v4), (5, vi v5), (6, vi v6), (7, vi v7), (8, vi v8)] [] h)
    else bd X d 295 35 [(0, vr v0), (1, vi v1), (2, vi v2), (3, vi v3), (4, vi v4), (5, vi v5), (6, vi v6), (7, vi v7), (8, vi v8)] [] h)
  else (av_bz v7).bind fun w => av_rI w h :=
  (av_bd_eq av_Sg p_295 _ _ _ _ _).trans rfl
set_option maxRecDepth 100000 in
theorem b_295_35 (d : Nat) (v0 : Option Nat) (v1 : Int32) (v2 : Int32) (v3 : Int32) (v4 : Int32) (v5 : Int32) (v6 : Int32) (v7 : Int32) (v8 : Int32) (h : av_H) : bd X d 295 35 [(0, vr v0), (1, vi v1), (2, vi v2), (3, vi v3), (4, vi v4), (5, vi v5), (6, vi v6), (7, vi v7), (8, vi v8)] [] h =
  bd X d 295 36 [(0, vr v0), (1, vi v1), (2, vi v2), (3, vi v3), (4, vi v4), (5, vi v5), (6, vi v6), (7, vi v7), (8, vi v8)] [vi (0 : Int32)] h :=
  (av_bd_eq av_Sg p_295 _ _ _ _ _).trans rfl
set_option maxRecDepth 100000 in
theorem b_295_36 (d : Nat) (v0 : Option Nat) (v1 : Int32) (v2 : Int32) (v3 : Int32) (v4 : Int32) (v5 : Int32) (v6 : Int32) (v7 : Int32) (v8 : Int32) (s0 : Int32) (h : av_H) : bd X d 295 36 [(0, vr v0), (1, vi v1), (2, vi v2), (3, vi v3), (4, vi v4), (5, vi v5), (6, vi v6), (7, vi v7), (8, vi v8)] [vi s0] h =
  (av_gR h v0 11 53).bind fun x1 =>
  (av_lI X h x1 v8).bind fun x2 =>
  if x2 = v4 then
    (bd X d 295 61 [(0, vr v0), (1, vi v1), (2, vi v2), (3, vi v3), (4, vi v4), (5, vi v5), (6, vi v6), (7, vi v7), (8, vi v8), (9, vi s0)] [] h)
  else (av_gR h v0 11 54).bind fun x3 =>
  (av_lI X h x3 v8).bind fun x4 =>
  if x4 = v4 then
    (bd X d 295 61 [(0, vr v0), (1, vi v1), (2, vi v2), (3, vi v3), (4, vi v4), (5, vi v5), (6, vi v6), (7, vi v7), (8, vi v8), (9, vi s0)] [] h)
  else (av_gR h v0 11 53).bind fun x5 =>
  (av_lI X h x5 v8).bind fun x6 =>
  if x6 = v5 then
    (bd X d 295 61 [(0, vr v0), (1, vi v1), (2, vi v2), (3, vi v3), (4, vi v4), (5, vi v5), (6, vi v6), (7, vi v7), (8, vi v8), (9, vi s0)] [] h)
  else (av_gR h v0 11 54).bind fun x7 =>
  (av_lI X h x7 v8).bind fun x8 =>
  if x8 = v5 then
    (bd X d 295 61 [(0, vr v0), (1, vi v1), (2, vi v2), (3, vi v3), (4, vi v4), (5, vi v5), (6, vi v6), (7, vi v7), (8, vi v8), (9, vi s0)] [] h)
  else bd X d 295 64 [(0, vr v0), (1, vi v1), (2, vi v2), (3, vi v3), (4, vi v4), (5, vi v5), (6, vi v6), (7, vi v7), (8, vi v8), (9, vi s0)] [vi (0 : Int32)] h :=
  (av_bd_eq av_Sg p_295 _ _ _ _ _).trans rfl
set_option maxRecDepth 100000 in
theorem b_295_61 (d : Nat) (v0 : Option Nat) (v1 : Int32) (v2 : Int32) (v3 : Int32) (v4 : Int32) (v5 : Int32) (v6 : Int32) (v7 : Int32) (v8 : Int32) (v9 : Int32) (h : av_H) : bd X d 295 61 [(0, vr v0), (1, vi v1), (2, vi v2), (3, vi v3), (4, vi v4), (5, vi v5), (6, vi v6), (7, vi v7), (8, vi v8), (9, vi v9)] [] h =
  bd X d 295 64 [(0, vr v0), (1, vi v1), (2, vi v2), (3, vi v3), (4, vi v4), (5, vi v5), (6, vi v6), (7, vi v7), (8, vi v8), (9, vi v9)] [vi (1 : Int32)] h :=
  (av_bd_eq av_Sg p_295 _ _ _ _ _).trans rfl
set_option maxRecDepth 100000 in
theorem b_295_64 (d : Nat) (v0 : Option Nat) (v1 : Int32) (v2 : Int32) (v3 : Int32) (v4 : Int32) (v5 : Int32) (v6 : Int32) (v7 : Int32) (v8 : Int32) (v9 : Int32) (s0 : Int32) (h : av_H) : bd X d 295 64 [(0, vr v0), (1, vi v1), (2, vi v2), (3, vi v3), (4, vi v4), (5, vi v5), (6, vi v6), (7, vi v7), (8, vi v8), (9, vi v9)] [vi s0] h =
  if v7 = 0 then
    (if v9 = 0 then
      (bd X d 295 4 [(0, vr v0), (1, vi v1), (2, vi v2), (3, vi v3), (4, vi v4), (5, vi v5), (6, vi v6), (7, vi (0 : Int32)), (8, vi (v8 + (1 : Int32)))] [] h)
    else if v4 = (-1 : Int32) then
      ((av_gR h v0 11 46).bind fun x1 =>
      (av_lI X h x1 v8).bind fun x2 =>
      if x2 = v6 then
        (bd X d 295 4 [(0, vr v0), (1, vi v1), (2, vi v2), (3, vi v3), (4, vi v4), (5, vi v5), (6, vi v6), (7, vi (1 : Int32)), (8, vi (v8 + (1 : Int32)))] [] h)
      else bd X d 295 4 [(0, vr v0), (1, vi v1), (2, vi v2), (3, vi v3), (4, vi v4), (5, vi v5), (6, vi v6), (7, vi (0 : Int32)), (8, vi (v8 + (1 : Int32)))] [] h)
    else if s0 = 0 then
      (bd X d 295 4 [(0, vr v0), (1, vi v1), (2, vi v2), (3, vi v3), (4, vi v4), (5, vi v5), (6, vi v6), (7, vi (0 : Int32)), (8, vi (v8 + (1 : Int32)))] [] h)
    else bd X d 295 4 [(0, vr v0), (1, vi v1), (2, vi v2), (3, vi v3), (4, vi v4), (5, vi v5), (6, vi v6), (7, vi (1 : Int32)), (8, vi (v8 + (1 : Int32)))] [] h)
  else bd X d 295 4 [(0, vr v0), (1, vi v1), (2, vi v2), (3, vi v3), (4, vi v4), (5, vi v5), (6, vi v6), (7, vi (1 : Int32)), (8, vi (v8 + (1 : Int32)))] [] h :=
  (av_bd_eq av_Sg p_295 _ _ _ _ _).trans rfl
theorem e_295 (d : Nat) (v0 : Option Nat) (v1 : Int32) (v2 : Int32) (v3 : Int32) (v4 : Int32) (v5 : Int32) (v6 : Int32) (h : av_H) : ev X (d + 1) 295 [vr v0, vi v1, vi v2, vi v3, vi v4, vi v5, vi v6] h = bd X d 295 0 [(0, vr v0), (1, vi v1), (2, vi v2), (3, vi v3), (4, vi v4), (5, vi v5), (6, vi v6)] [] h := av_ev_eq av_Sg p_295 d _ h rfl
/-! 296 = X11_areIn -/
set_option maxRecDepth 100000 in
theorem b_296_0 (d : Nat) (v0 : Option Nat) (v1 : Int32) (v2 : Int32) (v3 : Int32) (v4 : Int32) (v5 : Int32) (v6 : Int32) (v7 : Int32) (h : av_H) : bd X d 296 0 [(0, vr v0), (1, vi v1), (2, vi v2), (3, vi v3), (4, vi v4), (5, vi v5), (6, vi v6), (7, vi v7)] [] h =
  if av_is h v0 11 = true then (
  (av_cI (ev X d 260 [vr v0, vi v1, vi v2, vi v3] h)).bind fun q1 =>
  if q1.1 = 0 then
    (bd X d 296 20 [(0, vr v0), (4, vi v4)] [] q1.2)
  else (av_cI (ev X d 253 [vi v4] q1.2)).bind fun q2 =>
  if q2.1 = 0 then
    (bd X d 296 20 [(0, vr v0), (4, vi v4)] [] q2.2)
  else (av_cI (ev X d 254 [vi v5] q2.2)).bind fun q3 =>
  if q3.1 = 0 then
    (bd X d 296 20 [(0, vr v0), (4, vi v4)] [] q3.2)
  else (av_cI (ev X d 256 [vi v6] q3.2)).bind fun q4 =>
  if q4.1 = 0 then
    (bd X d 296 20 [(0, vr v0), (4, vi v4)] [] q4.2)
  else (av_cI (ev X d 256 [vi v7] q4.2)).bind fun q5 =>
  if q5.1 = 0 then
    (bd X d 296 20 [(0, vr v0), (4, vi v4)] [] q5.2)
  else bd X d 296 21 [(0, vr v0), (4, vi v4)] [vi (1 : Int32)] q5.2) else none :=
  (av_bd_eq av_Sg p_296 _ _ _ _ _).trans rfl
set_option maxRecDepth 100000 in
theorem b_296_20 (d : Nat) (v0 : Option Nat) (v4 : Int32) (h : av_H) : bd X d 296 20 [(0, vr v0), (4, vi v4)] [] h =
  bd X d 296 21 [(0, vr v0), (4, vi v4)] [vi (0 : Int32)] h :=
  (av_bd_eq av_Sg p_296 _ _ _ _ _).trans rfl
set_option maxRecDepth 100000 in
theorem b_296_21 (d : Nat) (v0 : Option Nat) (v4 : Int32) (s0 : Int32) (h : av_H) : bd X d 296 21 [(0, vr v0), (4, vi v4)] [vi s0] h =
  if s0 = 0 then
    ((av_bz (0 : Int32)).bind fun w => av_rI w h)
  else (av_gI h v0 11 45).bind fun x1 =>
  if x1 < (60 : Int32) then
    ((av_gI h v0 11 45).bind fun x2 =>
    if x2 = 0 then
      ((av_bz (1 : Int32)).bind fun w => av_rI w h)
    else (av_gR h v0 11 49).bind fun x3 =>
    (av_gI h v0 11 45).bind fun x4 =>
    (av_lI X h x3 (x4 - (1 : Int32))).bind fun x5 =>
    if v4 < x5 then
      ((av_bz (0 : Int32)).bind fun w => av_rI w h)
    else (av_bz (1 : Int32)).bind fun w => av_rI w h)
  else (av_bz (0 : Int32)).bind fun w => av_rI w h :=
  (av_bd_eq av_Sg p_296 _ _ _ _ _).trans rfl
theorem e_296 (d : Nat) (v0 : Option Nat) (v1 : Int32) (v2 : Int32) (v3 : Int32) (v4 : Int32) (v5 : Int32) (v6 : Int32) (v7 : Int32) (h : av_H) : ev X (d + 1) 296 [vr v0, vi v1, vi v2, vi v3, vi v4, vi v5, vi v6, vi v7] h = bd X d 296 0 [(0, vr v0), (1, vi v1), (2, vi v2), (3, vi v3), (4, vi v4), (5, vi v5), (6, vi v6), (7, vi v7)] [] h := av_ev_eq av_Sg p_296 d _ h rfl
/-! 297 = X11_whyNot -/
set_option maxRecDepth 100000 in
theorem b_297_0 (d : Nat) (v0 : Option Nat) (v1 : Int32) (v2 : Int32) (v3 : Int32) (v4 : Int32) (v5 : Int32) (v6 : Int32) (v7 : Int32) (h : av_H) : bd X d 297 0 [(0, vr v0), (1, vi v1), (2, vi v2), (3, vi v3), (4, vi v4), (5, vi v5), (6, vi v6), (7, vi v7)] [] h =
  if av_is h v0 11 = true then (
  (av_cL (ev X d 287 [vr v0, vi v1, vi v2, vi v3, vi v4] h)).bind fun q1 =>
  if av_is q1.2 v0 11 = true then (
  (av_cI (ev X d 290 [vr v0, vi v1] q1.2)).bind fun q2 =>
  (av_gR q2.2 v0 11 14).bind fun x3 =>
  (av_cI (ev X d 261 [vi v1, vi v2, vi v3] q2.2)).bind fun q4 =>
  (av_lB q4.2 x3 103 q4.1).bind fun x5 =>
  if x5 = 0 then
    (if (lg_cmp q1.1 (0 : Int64)) = 0 then
      (av_rI (2 : Int32) q4.2)
    else if v6 = v7 then
      (av_rI (3 : Int32) q4.2)
    else (av_gR q4.2 v0 11 28).bind fun x6 =>
    (av_lB q4.2 x6 103 v6).bind fun x7 =>
    if x7 = 0 then
      ((av_gR q4.2 v0 11 28).bind fun x8 =>
      (av_lB q4.2 x8 103 v7).bind fun x9 =>
      if x9 = 0 then
        (av_rI (3 : Int32) q4.2)
      else bd X d 297 42 [(0, vr v0), (1, vi v1), (2, vi v2), (3, vi v3), (4, vi v4), (5, vi v5), (6, vi v6), (7, vi v7), (8, vl (q1.1)), (10, vi (q2.1))] [] q4.2)
    else bd X d 297 42 [(0, vr v0), (1, vi v1), (2, vi v2), (3, vi v3), (4, vi v4), (5, vi v5), (6, vi v6), (7, vi v7), (8, vl (q1.1)), (10, vi (q2.1))] [] q4.2)
  else av_rI (1 : Int32) q4.2) else none) else none :=
  (av_bd_eq av_Sg p_297 _ _ _ _ _).trans rfl
set_option maxRecDepth 100000 in
theorem b_297_42 (d : Nat) (v0 : Option Nat) (v1 : Int32) (v2 : Int32) (v3 : Int32) (v4 : Int32) (v5 : Int32) (v6 : Int32) (v7 : Int32) (v8 : Int64) (v10 : Int32) (h : av_H) : bd X d 297 42 [(0, vr v0), (1, vi v1), (2, vi v2), (3, vi v3), (4, vi v4), (5, vi v5), (6, vi v6), (7, vi v7), (8, vl v8), (10, vi v10)] [] h =
  if (24 : Int32) < (v5 + v10) then
    (av_rI (4 : Int32) h)
  else if av_is h v0 11 = true then (
  (av_cI (ev X d 295 [vr v0, vi v4, vi v5, vi v10, vi v6, vi v7, vi v1] h)).bind fun q1 =>
  if q1.1 = 0 then
    (if av_is q1.2 v0 11 = true then (
    (av_cI (ev X d 295 [vr v0, vi v4, vi v5, vi v10, vi (-1 : Int32), vi (-1 : Int32), vi v1] q1.2)).bind fun q2 =>
    if q2.1 = 0 then
      (if av_is q2.2 v0 11 = true then (
      (av_cI (ev X d 294 [vr v0, vi v6, vi v4] q2.2)).bind fun q3 =>
      if q3.1 = 0 then
        (av_rI (7 : Int32) q3.2)
      else if av_is q3.2 v0 11 = true then (
      (av_cI (ev X d 294 [vr v0, vi v7, vi v4] q3.2)).bind fun q4 =>
      if q4.1 = 0 then
        (av_rI (7 : Int32) q4.2)
      else bd X d 297 85 [(0, vr v0), (1, vi v1), (2, vi v2), (3, vi v3), (4, vi v4), (5, vi v5), (6, vi v6), (7, vi v7), (8, vl v8), (10, vi v10), (11, vi v5)] [] q4.2) else none) else none)
    else av_rI (6 : Int32) q2.2) else none)
  else av_rI (5 : Int32) q1.2) else none :=
  (av_bd_eq av_Sg p_297 _ _ _ _ _).trans rfl
set_option maxRecDepth 100000 in
theorem b_297_85 (d : Nat) (v0 : Option Nat) (v1 : Int32) (v2 : Int32) (v3 : Int32) (v4 : Int32) (v5 : Int32) (v6 : Int32) (v7 : Int32) (v8 : Int64) (v10 : Int32) (v11 : Int32) (h : av_H) : bd X d 297 85 [(0, vr v0), (1, vi v1), (2, vi v2), (3, vi v3), (4, vi v4), (5, vi v5), (6, vi v6), (7, vi v7), (8, vl v8), (10, vi v10), (11, vi v11)] [] h =
  if v11 < (v5 + v10) then
    (if av_is h v0 11 = true then (
    (av_cI (ev X d 269 [vr v0, vi v1, vi v4, vi v11] h)).bind fun q1 =>
    if q1.1 = 0 then
      (av_rI (8 : Int32) q1.2)
    else bd X d 297 85 [(0, vr v0), (1, vi v1), (2, vi v2), (3, vi v3), (4, vi v4), (5, vi v5), (6, vi v6), (7, vi v7), (8, vl v8), (10, vi v10), (11, vi (v11 + (1 : Int32)))] [] q1.2) else none)
  else (av_cI (ev X d 288 [vl v8] h)).bind fun q2 =>
  (av_gR q2.2 v0 11 17).bind fun x3 =>
  (av_lI X q2.2 x3 v1).bind fun x4 =>
  if av_is q2.2 v0 11 = true then (
  (av_cI (ev X d 289 [vr v0, vi v1, vi v2, vi v3, vi v4, vl v8] q2.2)).bind fun q5 =>
  if av_is q5.2 v0 11 = true then (
  (av_cV (ev X d 292 [vr v0, vi v1, vi (q2.1), vi v10, vi x4, vi (q5.1)] q5.2)).bind fun q6 =>
  bd X d 297 119 [(0, vr v0), (1, vi v1), (2, vi v2), (4, vi v4), (5, vi v5), (6, vi v6), (7, vi v7), (10, vi v10), (11, vi (0 : Int32))] [] q6) else none) else none :=
  (av_bd_eq av_Sg p_297 _ _ _ _ _).trans rfl
set_option maxRecDepth 100000 in
theorem b_297_119 (d : Nat) (v0 : Option Nat) (v1 : Int32) (v2 : Int32) (v4 : Int32) (v5 : Int32) (v6 : Int32) (v7 : Int32) (v10 : Int32) (v11 : Int32) (h : av_H) : bd X d 297 119 [(0, vr v0), (1, vi v1), (2, vi v2), (4, vi v4), (5, vi v5), (6, vi v6), (7, vi v7), (10, vi v10), (11, vi v11)] [] h =
  if v11 < ((2 : Int32) * v10) then
    (if v10 = 0 then none else if v10 = 0 then none else if av_is h v0 11 = true then (
    (av_cI (ev X d 286 [vr v0, vi (v11 / v10), vi v2, vi v4, vi (v5 + (v11 - v11 / v10 * v10))] h)).bind fun q1 =>
    if q1.1 = 0 then
      (bd X d 297 119 [(0, vr v0), (1, vi v1), (2, vi v2), (4, vi v4), (5, vi v5), (6, vi v6), (7, vi v7), (10, vi v10), (11, vi (v11 + (1 : Int32)))] [] q1.2)
    else if v10 = 0 then none else av_rI ((9 : Int32) + (v11 / v10)) q1.2) else none)
  else (av_gR h v0 11 17).bind fun x2 =>
  (av_lI X h x2 v1).bind fun x3 =>
  (av_gR h v0 11 16).bind fun x4 =>
  (av_lI X h x4 v1).bind fun x5 =>
  if av_is h v0 11 = true then (
  (av_cI (ev X d 293 [vr v0, vi (0 : Int32), vi v2, vi v4, vi v5] h)).bind fun q6 =>
  if (x5 - q6.1) < x3 then
    (av_rI (11 : Int32) q6.2)
  else bd X d 297 165 [(0, vr v0), (1, vi v1), (2, vi v2), (4, vi v4), (5, vi v5), (6, vi v6), (7, vi v7), (10, vi v10), (11, vi v5)] [] q6.2) else none :=
  (av_bd_eq av_Sg p_297 _ _ _ _ _).trans rfl
set_option maxRecDepth 100000 in
theorem b_297_165 (d : Nat) (v0 : Option Nat) (v1 : Int32) (v2 : Int32) (v4 : Int32) (v5 : Int32) (v6 : Int32) (v7 : Int32) (v10 : Int32) (v11 : Int32) (h : av_H) : bd X d 297 165 [(0, vr v0), (1, vi v1), (2, vi v2), (4, vi v4), (5, vi v5), (6, vi v6), (7, vi v7), (10, vi v10), (11, vi v11)] [] h =
  if v11 < (v5 + v10) then
    ((av_gI h v0 11 41).bind fun x1 =>
    if x1 = 0 then
      (bd X d 297 195 [(0, vr v0), (1, vi v1), (2, vi v2), (4, vi v4), (5, vi v5), (10, vi v10)] [] h)
    else if av_is h v0 11 = true then (
    (av_cI (ev X d 344 [vr v0, vi v1, vi (((24 : Int32) * v4) + v11)] h)).bind fun q2 =>
    if q2.1 = (-1 : Int32) then
      (av_rI (12 : Int32) q2.2)
    else if q2.1 = v6 then
      (bd X d 297 165 [(0, vr v0), (1, vi v1), (2, vi v2), (4, vi v4), (5, vi v5), (6, vi v6), (7, vi v7), (10, vi v10), (11, vi (v11 + (1 : Int32)))] [] q2.2)
    else if q2.1 = v7 then
      (bd X d 297 165 [(0, vr v0), (1, vi v1), (2, vi v2), (4, vi v4), (5, vi v5), (6, vi v6), (7, vi v7), (10, vi v10), (11, vi (v11 + (1 : Int32)))] [] q2.2)
    else av_rI (12 : Int32) q2.2) else none)
  else bd X d 297 195 [(0, vr v0), (1, vi v1), (2, vi v2), (4, vi v4), (5, vi v5), (10, vi v10)] [] h :=
  (av_bd_eq av_Sg p_297 _ _ _ _ _).trans rfl
set_option maxRecDepth 100000 in
theorem b_297_195 (d : Nat) (v0 : Option Nat) (v1 : Int32) (v2 : Int32) (v4 : Int32) (v5 : Int32) (v10 : Int32) (h : av_H) : bd X d 297 195 [(0, vr v0), (1, vi v1), (2, vi v2), (4, vi v4), (5, vi v5), (10, vi v10)] [] h =
  if av_is h v0 11 = true then (
  (av_cI (ev X d 349 [vr v0, vi v1, vi v2, vi v4, vi v5, vi v10] h)).bind fun q1 =>
  if q1.1 = 0 then
    (av_rI (0 : Int32) q1.2)
  else av_rI (13 : Int32) q1.2) else none :=
  (av_bd_eq av_Sg p_297 _ _ _ _ _).trans rfl
theorem e_297 (d : Nat) (v0 : Option Nat) (v1 : Int32) (v2 : Int32) (v3 : Int32) (v4 : Int32) (v5 : Int32) (v6 : Int32) (v7 : Int32) (h : av_H) : ev X (d + 1) 297 [vr v0, vi v1, vi v2, vi v3, vi v4, vi v5, vi v6, vi v7] h = bd X d 297 0 [(0, vr v0), (1, vi v1), (2, vi v2), (3, vi v3), (4, vi v4), (5, vi v5), (6, vi v6), (7, vi v7)] [] h := av_ev_eq av_Sg p_297 d _ h rfl
/-! 298 = X11_why -/
set_option maxRecDepth 100000 in
theorem b_298_0 (d : Nat) (v0 : Option Nat) (v1 : Int32) (v2 : Int32) (v3 : Int32) (v4 : Int32) (v5 : Int32) (v6 : Int32) (v7 : Int32) (h : av_H) : bd X d 298 0 [(0, vr v0), (1, vi v1), (2, vi v2), (3, vi v3), (4, vi v4), (5, vi v5), (6, vi v6), (7, vi v7)] [] h =
  (av_pI h v0 11 0 (0 : Int32)).bind fun g1 =>
  if av_is g1 v0 11 = true then (
  (av_cI (ev X d 296 [vr v0, vi v1, vi v2, vi v3, vi v4, vi v5, vi v6, vi v7] g1)).bind fun q2 =>
  if q2.1 = 0 then
    (av_rI (-1 : Int32) q2.2)
  else if av_is q2.2 v0 11 = true then (
  (av_cI (ev X d 297 [vr v0, vi v1, vi v2, vi v3, vi v4, vi v5, vi v6, vi v7] q2.2)).bind fun q3 =>
  av_rI q3.1 q3.2) else none) else none :=
  (av_bd_eq av_Sg p_298 _ _ _ _ _).trans rfl
theorem e_298 (d : Nat) (v0 : Option Nat) (v1 : Int32) (v2 : Int32) (v3 : Int32) (v4 : Int32) (v5 : Int32) (v6 : Int32) (v7 : Int32) (h : av_H) : ev X (d + 1) 298 [vr v0, vi v1, vi v2, vi v3, vi v4, vi v5, vi v6, vi v7] h = bd X d 298 0 [(0, vr v0), (1, vi v1), (2, vi v2), (3, vi v3), (4, vi v4), (5, vi v5), (6, vi v6), (7, vi v7)] [] h := av_ev_eq av_Sg p_298 d _ h rfl
/-! 299 = X11_drop -/
set_option maxRecDepth 100000 in
theorem b_299_0 (d : Nat) (v0 : Option Nat) (v1 : Int32) (v2 : Int32) (v3 : Int32) (v4 : Int32) (v5 : Int32) (v6 : Int32) (v7 : Int32) (h : av_H) : bd X d 299 0 [(0, vr v0), (1, vi v1), (2, vi v2), (3, vi v3), (4, vi v4), (5, vi v5), (6, vi v6), (7, vi v7)] [] h =
  (av_pI h v0 11 0 (0 : Int32)).bind fun g1 =>
  if av_is g1 v0 11 = true then (
  (av_cI (ev X d 296 [vr v0, vi v1, vi v2, vi v3, vi v4, vi v5, vi v6, vi v7] g1)).bind fun q2 =>
  if q2.1 = 0 then
    (av_rI (-1 : Int32) q2.2)
  else if av_is q2.2 v0 11 = true then (
  (av_cI (ev X d 297 [vr v0, vi v1, vi v2, vi v3, vi v4, vi v5, vi v6, vi v7] q2.2)).bind fun q3 =>
  if 0 < q3.1 then
    (av_rI (-1 : Int32) q3.2)
  else (av_gI q3.2 v0 11 45).bind fun x4 =>
  if av_is q3.2 v0 11 = true then (
  (av_cL (ev X d 287 [vr v0, vi v1, vi v2, vi v3, vi v4] q3.2)).bind fun q5 =>
  (av_gR q5.2 v0 11 46).bind fun x6 =>
  (av_sI q5.2 x6 x4 v1).bind fun g7 =>
  (av_gR g7 v0 11 47).bind fun x8 =>
  (av_sI g7 x8 x4 v2).bind fun g9 =>
  (av_gR g9 v0 11 48).bind fun x10 =>
  (av_sI g9 x10 x4 v3).bind fun g11 =>
  (av_gR g11 v0 11 49).bind fun x12 =>
  (av_sI g11 x12 x4 v4).bind fun g13 =>
  (av_gR g13 v0 11 50).bind fun x14 =>
  (av_sI g13 x14 x4 v5).bind fun g15 =>
  (av_gR g15 v0 11 51).bind fun x16 =>
  if av_is g15 v0 11 = true then (
  (av_cI (ev X d 290 [vr v0, vi v1] g15)).bind fun q17 =>
  (av_sI q17.2 x16 x4 q17.1).bind fun g18 =>
  (av_gR g18 v0 11 52).bind fun x19 =>
  (av_gI g18 v0 11 37).bind fun x20 =>
  (av_sI g18 x19 x4 x20).bind fun g21 =>
  (av_gR g21 v0 11 53).bind fun x22 =>
  (av_sI g21 x22 x4 v6).bind fun g23 =>
  (av_gR g23 v0 11 54).bind fun x24 =>
  (av_sI g23 x24 x4 v7).bind fun g25 =>
  (av_gR g25 v0 11 55).bind fun x26 =>
  (av_cI (ev X d 288 [vl (q5.1)] g25)).bind fun q27 =>
  (av_sI q27.2 x26 x4 q27.1).bind fun g28 =>
  (av_gR g28 v0 11 59).bind fun x29 =>
  (av_gR g28 v0 11 17).bind fun x30 =>
  (av_lI X g28 x30 v1).bind fun x31 =>
  (av_sI g28 x29 x4 x31).bind fun g32 =>
  (av_gR g32 v0 11 60).bind fun x33 =>
  if av_is g32 v0 11 = true then (
  (av_cI (ev X d 289 [vr v0, vi v1, vi v2, vi v3, vi v4, vl (q5.1)] g32)).bind fun q34 =>
  (av_sI q34.2 x33 x4 q34.1).bind fun g35 =>
  (av_gR g35 v0 11 63).bind fun x36 =>
  (av_sL g35 x36 x4 q5.1).bind fun g37 =>
  (av_gR g37 v0 11 61).bind fun x38 =>
  (av_gR g37 v0 11 29).bind fun x39 =>
  (av_lI X g37 x39 v6).bind fun x40 =>
  (av_sI g37 x38 x4 (v4 - x40)).bind fun g41 =>
  (av_gR g41 v0 11 62).bind fun x42 =>
  (av_gR g41 v0 11 29).bind fun x43 =>
  (av_lI X g41 x43 v7).bind fun x44 =>
  (av_sI g41 x42 x4 (v4 - x44)).bind fun g45 =>
  (av_gR g45 v0 11 55).bind fun x46 =>
  (av_lI X g45 x46 x4).bind fun x47 =>
  (av_gR g45 v0 11 51).bind fun x48 =>
  (av_lI X g45 x48 x4).bind fun x49 =>
  (av_gR g45 v0 11 59).bind fun x50 =>
  (av_lI X g45 x50 x4).bind fun x51 =>
  (av_gR g45 v0 11 60).bind fun x52 =>
  (av_lI X g45 x52 x4).bind fun x53 =>
  if av_is g45 v0 11 = true then (
  (av_cV (ev X d 292 [vr v0, vi v1, vi x47, vi x49, vi x51, vi x53] g45)).bind fun q54 =>
  (av_gR q54 v0 11 56).bind fun x55 =>
  if av_is q54 v0 11 = true then (
  (av_cI (ev X d 293 [vr v0, vi (0 : Int32), vi v2, vi v4, vi v5] q54)).bind fun q56 =>
  (av_sI q56.2 x55 x4 q56.1).bind fun g57 =>
  (av_gR g57 v0 11 57).bind fun x58 =>
  if av_is g57 v0 11 = true then (
  (av_cI (ev X d 293 [vr v0, vi (1 : Int32), vi v2, vi v4, vi v5] g57)).bind fun q59 =>
  (av_sI q59.2 x58 x4 q59.1).bind fun g60 =>
  (av_gR g60 v0 11 58).bind fun x61 =>
  if av_is g60 v0 11 = true then (
  (av_cI (ev X d 293 [vr v0, vi (2 : Int32), vi v2, vi v4, vi v5] g60)).bind fun q62 =>
  (av_sI q62.2 x61 x4 q62.1).bind fun g63 =>
  (av_gR g63 v0 11 17).bind fun x64 =>
  (av_lI X g63 x64 v1).bind fun x65 =>
  (av_gR g63 v0 11 56).bind fun x66 =>
  (av_lI X g63 x66 x4).bind fun x67 =>
  (av_sI g63 x64 v1 (x65 + x67)).bind fun g68 =>
  bd X d 299 195 [(0, vr v0), (1, vi v1), (2, vi v2), (3, vi v3), (4, vi v4), (8, vi x4), (9, vl (q5.1)), (11, vi (0 : Int32))] [] g68) else none) else none) else none) else none) else none) else none) else none) else none) else none :=
  (av_bd_eq av_Sg p_299 _ _ _ _ _).trans rfl
set_option maxRecDepth 100000 in
theorem b_299_195 (d : Nat) (v0 : Option Nat) (v1 : Int32) (v2 : Int32) (v3 : Int32) (v4 : Int32) (v8 : Int32) (v9 : Int64) (v11 : Int32) (h : av_H) : bd X d 299 195 [(0, vr v0), (1, vi v1), (2, vi v2), (3, vi v3), (4, vi v4), (8, vi v8), (9, vl v9), (11, vi v11)] [] h =
  if v11 < (48 : Int32) then
    (if (lg_cmp ((v9 >>> (v11.toInt64 &&& 63)) &&& (1 : Int64)) (1 : Int64)) = 0 then
      ((av_gR h v0 11 13).bind fun x1 =>
      if (4 : Int32) = 0 then none else if (4 : Int32) = 0 then none else (av_cI (ev X d 258 [vi v1, vi v2, vi (v11 / (4 : Int32)), vi (v3 + (v11 - v11 / (4 : Int32) * (4 : Int32)))] h)).bind fun q2 =>
      (av_sI q2.2 x1 q2.1 v4).bind fun g3 =>
      bd X d 299 195 [(0, vr v0), (1, vi v1), (2, vi v2), (3, vi v3), (4, vi v4), (8, vi v8), (9, vl v9), (11, vi (v11 + (1 : Int32)))] [] g3)
    else bd X d 299 195 [(0, vr v0), (1, vi v1), (2, vi v2), (3, vi v3), (4, vi v4), (8, vi v8), (9, vl v9), (11, vi (v11 + (1 : Int32)))] [] h)
  else (av_gI h v0 11 45).bind fun x4 =>
  (av_pI h v0 11 45 (x4 + (1 : Int32))).bind fun g5 =>
  av_rI v8 g5 :=
  (av_bd_eq av_Sg p_299 _ _ _ _ _).trans rfl
theorem e_299 (d : Nat) (v0 : Option Nat) (v1 : Int32) (v2 : Int32) (v3 : Int32) (v4 : Int32) (v5 : Int32) (v6 : Int32) (v7 : Int32) (h : av_H) : ev X (d + 1) 299 [vr v0, vi v1, vi v2, vi v3, vi v4, vi v5, vi v6, vi v7] h = bd X d 299 0 [(0, vr v0), (1, vi v1), (2, vi v2), (3, vi v3), (4, vi v4), (5, vi v5), (6, vi v6), (7, vi v7)] [] h := av_ev_eq av_Sg p_299 d _ h rfl
/-! 300 = X11_isAgainst -/
set_option maxRecDepth 100000 in
theorem b_300_0 (d : Nat) (v0 : Option Nat) (v1 : Int32) (h : av_H) : bd X d 300 0 [(0, vr v0), (1, vi v1)] [] h =
  (av_gR h v0 11 46).bind fun x1 =>
  (av_lI X h x1 v1).bind fun x2 =>
  (av_gR h v0 11 55).bind fun x3 =>
  (av_lI X h x3 v1).bind fun x4 =>
  (av_gR h v0 11 51).bind fun x5 =>
  (av_lI X h x5 v1).bind fun x6 =>
  (av_gR h v0 11 59).bind fun x7 =>
  (av_lI X h x7 v1).bind fun x8 =>
  (av_gR h v0 11 60).bind fun x9 =>
  (av_lI X h x9 v1).bind fun x10 =>
  if av_is h v0 11 = true then (
  (av_cV (ev X d 292 [vr v0, vi x2, vi x4, vi x6, vi x8, vi x10] h)).bind fun q11 =>
  (av_gR q11 v0 11 50).bind fun x12 =>
  (av_lI X q11 x12 v1).bind fun x13 =>
  bd X d 300 29 [(0, vr v0), (1, vi v1), (2, vi (0 : Int32)), (3, vi x13)] [] q11) else none :=
  (av_bd_eq av_Sg p_300 _ _ _ _ _).trans rfl
set_option maxRecDepth 100000 in
theorem b_300_29 (d : Nat) (v0 : Option Nat) (v1 : Int32) (v2 : Int32) (v3 : Int32) (h : av_H) : bd X d 300 29 [(0, vr v0), (1, vi v1), (2, vi v2), (3, vi v3)] [] h =
  (av_gR h v0 11 50).bind fun x1 =>
  (av_lI X h x1 v1).bind fun x2 =>
  (av_gR h v0 11 51).bind fun x3 =>
  (av_lI X h x3 v1).bind fun x4 =>
  if v3 < (x2 + x4) then
    (if v2 = 0 then
      ((av_gR h v0 11 47).bind fun x5 =>
      (av_lI X h x5 v1).bind fun x6 =>
      (av_gR h v0 11 49).bind fun x7 =>
      (av_lI X h x7 v1).bind fun x8 =>
      if av_is h v0 11 = true then (
      (av_cI (ev X d 286 [vr v0, vi (0 : Int32), vi x6, vi x8, vi v3] h)).bind fun q9 =>
      if q9.1 = 0 then
        (bd X d 300 29 [(0, vr v0), (1, vi v1), (2, vi (0 : Int32)), (3, vi (v3 + (1 : Int32)))] [] q9.2)
      else bd X d 300 29 [(0, vr v0), (1, vi v1), (2, vi (1 : Int32)), (3, vi (v3 + (1 : Int32)))] [] q9.2) else none)
    else bd X d 300 29 [(0, vr v0), (1, vi v1), (2, vi (1 : Int32)), (3, vi (v3 + (1 : Int32)))] [] h)
  else (av_bz v2).bind fun w => av_rI w h :=
  (av_bd_eq av_Sg p_300 _ _ _ _ _).trans rfl
theorem e_300 (d : Nat) (v0 : Option Nat) (v1 : Int32) (h : av_H) : ev X (d + 1) 300 [vr v0, vi v1] h = bd X d 300 0 [(0, vr v0), (1, vi v1)] [] h := av_ev_eq av_Sg p_300 d _ h rfl
/-! 301 = X11_rescueOf -/
set_option maxRecDepth 100000 in
theorem b_301_0 (d : Nat) (v0 : Option Nat) (v1 : Int32) (h : av_H) : bd X d 301 0 [(0, vr v0), (1, vi v1)] [] h =
  (av_gR h v0 11 10).bind fun x1 =>
  (av_gR h v0 11 46).bind fun x2 =>
  (av_lI X h x2 v1).bind fun x3 =>
  (av_lI X h x1 x3).bind fun x4 =>
  bd X d 301 12 [(0, vr v0), (1, vi v1), (2, vi (0 : Int32)), (3, vi x4), (4, vi (0 : Int32))] [] h :=
  (av_bd_eq av_Sg p_301 _ _ _ _ _).trans rfl
set_option maxRecDepth 100000 in
theorem b_301_12 (d : Nat) (v0 : Option Nat) (v1 : Int32) (v2 : Int32) (v3 : Int32) (v4 : Int32) (h : av_H) : bd X d 301 12 [(0, vr v0), (1, vi v1), (2, vi v2), (3, vi v3), (4, vi v4)] [] h =
  (av_gR h v0 11 51).bind fun x1 =>
  (av_lI X h x1 v1).bind fun x2 =>
  if v4 < x2 then
    ((av_gR h v0 11 52).bind fun x3 =>
    (av_lI X h x3 v1).bind fun x4 =>
    (av_gR h v0 11 52).bind fun x5 =>
    (av_lI X h x5 v1).bind fun x6 =>
    if x6 < (v3 - (x4 * v4)) then
      ((av_gR h v0 11 52).bind fun x7 =>
      (av_lI X h x7 v1).bind fun x8 =>
      bd X d 301 41 [(0, vr v0), (1, vi v1), (2, vi v2), (3, vi v3), (4, vi v4), (5, vi (v3 - (x4 * v4)))] [vi ((v3 - (x4 * v4)) - x8)] h)
    else bd X d 301 41 [(0, vr v0), (1, vi v1), (2, vi v2), (3, vi v3), (4, vi v4), (5, vi (v3 - (x4 * v4)))] [vi (0 : Int32)] h)
  else av_rI v2 h :=
  (av_bd_eq av_Sg p_301 _ _ _ _ _).trans rfl
set_option maxRecDepth 100000 in
theorem b_301_41 (d : Nat) (v0 : Option Nat) (v1 : Int32) (v2 : Int32) (v3 : Int32) (v4 : Int32) (v5 : Int32) (s0 : Int32) (h : av_H) : bd X d 301 41 [(0, vr v0), (1, vi v1), (2, vi v2), (3, vi v3), (4, vi v4), (5, vi v5)] [vi s0] h =
  if (v3 - s0) < v5 then
    (bd X d 301 52 [(0, vr v0), (1, vi v1), (2, vi v2), (3, vi v3), (4, vi v4)] [vi (v3 - s0)] h)
  else bd X d 301 52 [(0, vr v0), (1, vi v1), (2, vi v2), (3, vi v3), (4, vi v4)] [vi v5] h :=
  (av_bd_eq av_Sg p_301 _ _ _ _ _).trans rfl
set_option maxRecDepth 100000 in
theorem b_301_52 (d : Nat) (v0 : Option Nat) (v1 : Int32) (v2 : Int32) (v3 : Int32) (v4 : Int32) (s0 : Int32) (h : av_H) : bd X d 301 52 [(0, vr v0), (1, vi v1), (2, vi v2), (3, vi v3), (4, vi v4)] [vi s0] h =
  if v2 < s0 then
    (bd X d 301 12 [(0, vr v0), (1, vi v1), (2, vi s0), (3, vi v3), (4, vi (v4 + (1 : Int32)))] [] h)
  else bd X d 301 12 [(0, vr v0), (1, vi v1), (2, vi v2), (3, vi v3), (4, vi (v4 + (1 : Int32)))] [] h :=
  (av_bd_eq av_Sg p_301 _ _ _ _ _).trans rfl
theorem e_301 (d : Nat) (v0 : Option Nat) (v1 : Int32) (h : av_H) : ev X (d + 1) 301 [vr v0, vi v1] h = bd X d 301 0 [(0, vr v0), (1, vi v1)] [] h := av_ev_eq av_Sg p_301 d _ h rfl
/-! 302 = X11_made -/
set_option maxRecDepth 100000 in
theorem b_302_0 (d : Nat) (v0 : Option Nat) (v1 : Int32) (v2 : Int32) (h : av_H) : bd X d 302 0 [(0, vr v0), (1, vi v1), (2, vi v2)] [] h =
  if v1 < 0 then
    (bd X d 302 14 [(0, vr v0), (1, vi v1), (2, vi v2)] [vr v0] h)
  else (av_gI h v0 11 45).bind fun x1 =>
  if v1 < x1 then
    ((av_cI (ev X d 252 [vi v2, vi (0 : Int32), vi (11 : Int32)] h)).bind fun q2 =>
    if q2.1 = 0 then
      (bd X d 302 14 [(0, vr v0), (1, vi v1), (2, vi v2)] [vr v0] q2.2)
    else bd X d 302 15 [(0, vr v0), (1, vi v1), (2, vi v2)] [vi (0 : Int32), vr v0] q2.2)
  else bd X d 302 14 [(0, vr v0), (1, vi v1), (2, vi v2)] [vr v0] h :=
  (av_bd_eq av_Sg p_302 _ _ _ _ _).trans rfl
set_option maxRecDepth 100000 in
theorem b_302_14 (d : Nat) (v0 : Option Nat) (v1 : Int32) (v2 : Int32) (s0 : Option Nat) (h : av_H) : bd X d 302 14 [(0, vr v0), (1, vi v1), (2, vi v2)] [vr s0] h =
  bd X d 302 15 [(0, vr v0), (1, vi v1), (2, vi v2)] [vi (1 : Int32), vr s0] h :=
  (av_bd_eq av_Sg p_302 _ _ _ _ _).trans rfl
set_option maxRecDepth 100000 in
theorem b_302_15 (d : Nat) (v0 : Option Nat) (v1 : Int32) (v2 : Int32) (s0 : Option Nat) (s1 : Int32) (h : av_H) : bd X d 302 15 [(0, vr v0), (1, vi v1), (2, vi v2)] [vi s1, vr s0] h =
  (av_pI h s0 11 0 s1).bind fun g1 =>
  (av_gI g1 v0 11 0).bind fun x2 =>
  if 0 < x2 then
    (av_rI (0 : Int32) g1)
  else if v2 = 0 then
    ((av_gR g1 v0 11 46).bind fun x3 =>
    (av_lI X g1 x3 v1).bind fun x4 =>
    av_rI x4 g1)
  else if v2 = 1 then
    ((av_gR g1 v0 11 47).bind fun x5 =>
    (av_lI X g1 x5 v1).bind fun x6 =>
    av_rI x6 g1)
  else if v2 = 2 then
    ((av_gR g1 v0 11 48).bind fun x7 =>
    (av_lI X g1 x7 v1).bind fun x8 =>
    av_rI x8 g1)
  else if v2 = 3 then
    ((av_gR g1 v0 11 49).bind fun x9 =>
    (av_lI X g1 x9 v1).bind fun x10 =>
    av_rI x10 g1)
  else if v2 = 4 then
    ((av_gR g1 v0 11 50).bind fun x11 =>
    (av_lI X g1 x11 v1).bind fun x12 =>
    av_rI x12 g1)
  else if v2 = 5 then
    ((av_gR g1 v0 11 51).bind fun x13 =>
    (av_lI X g1 x13 v1).bind fun x14 =>
    av_rI x14 g1)
  else if v2 = 6 then
    ((av_gR g1 v0 11 55).bind fun x15 =>
    (av_lI X g1 x15 v1).bind fun x16 =>
    av_rI x16 g1)
  else if v2 = 7 then
    ((av_gR g1 v0 11 56).bind fun x17 =>
    (av_lI X g1 x17 v1).bind fun x18 =>
    av_rI x18 g1)
  else if v2 = 8 then
    ((av_gR g1 v0 11 57).bind fun x19 =>
    (av_lI X g1 x19 v1).bind fun x20 =>
    av_rI x20 g1)
  else if v2 = 9 then
    ((av_gR g1 v0 11 58).bind fun x21 =>
    (av_lI X g1 x21 v1).bind fun x22 =>
    av_rI x22 g1)
  else if v2 = 10 then
    (if av_is g1 v0 11 = true then (
    (av_cI (ev X d 300 [vr v0, vi v1] g1)).bind fun q23 =>
    if q23.1 = 0 then
      (av_rI (0 : Int32) q23.2)
    else av_rI (1 : Int32) q23.2) else none)
  else if av_is g1 v0 11 = true then (
  (av_cI (ev X d 301 [vr v0, vi v1] g1)).bind fun q24 =>
  av_rI q24.1 q24.2) else none :=
  (av_bd_eq av_Sg p_302 _ _ _ _ _).trans rfl
theorem e_302 (d : Nat) (v0 : Option Nat) (v1 : Int32) (v2 : Int32) (h : av_H) : ev X (d + 1) 302 [vr v0, vi v1, vi v2] h = bd X d 302 0 [(0, vr v0), (1, vi v1), (2, vi v2)] [] h := av_ev_eq av_Sg p_302 d _ h rfl
/-! 303 = X11_washed -/
set_option maxRecDepth 100000 in
theorem b_303_0 (d : Nat) (v0 : Option Nat) (v1 : Int32) (v2 : Int32) (v3 : Int32) (v4 : Int32) (h : av_H) : bd X d 303 0 [(0, vr v0), (1, vi v1), (2, vi v2), (3, vi v3), (4, vi v4)] [] h =
  (av_pI h v0 11 0 (0 : Int32)).bind fun g1 =>
  if av_is g1 v0 11 = true then (
  (av_cI (ev X d 259 [vr v0, vi v1, vi v2, vi v3, vi v4] g1)).bind fun q2 =>
  if q2.1 = 0 then
    (av_rI (-1 : Int32) q2.2)
  else (av_gR q2.2 v0 11 13).bind fun x3 =>
  (av_cI (ev X d 258 [vi v1, vi v2, vi v3, vi v4] q2.2)).bind fun q4 =>
  (av_lI X q4.2 x3 q4.1).bind fun x5 =>
  av_rI x5 q4.2) else none :=
  (av_bd_eq av_Sg p_303 _ _ _ _ _).trans rfl
theorem e_303 (d : Nat) (v0 : Option Nat) (v1 : Int32) (v2 : Int32) (v3 : Int32) (v4 : Int32) (h : av_H) : ev X (d + 1) 303 [vr v0, vi v1, vi v2, vi v3, vi v4] h = bd X d 303 0 [(0, vr v0), (1, vi v1), (2, vi v2), (3, vi v3), (4, vi v4)] [] h := av_ev_eq av_Sg p_303 d _ h rfl
/-! 304 = X11_against -/
set_option maxRecDepth 100000 in
theorem b_304_0 (d : Nat) (v0 : Option Nat) (v1 : Int32) (h : av_H) : bd X d 304 0 [(0, vr v0), (1, vi v1)] [] h =
  (av_pI h v0 11 0 (0 : Int32)).bind fun g1 =>
  if v1 = (-1 : Int32) then
    (bd X d 304 15 [(0, vr v0), (1, vi v1), (2, vi (0 : Int32)), (3, vi (0 : Int32))] [] g1)
  else (av_cI (ev X d 255 [vi v1] g1)).bind fun q2 =>
  if q2.1 = 0 then
    (av_rI (-1 : Int32) q2.2)
  else bd X d 304 15 [(0, vr v0), (1, vi v1), (2, vi (0 : Int32)), (3, vi (0 : Int32))] [] q2.2 :=
  (av_bd_eq av_Sg p_304 _ _ _ _ _).trans rfl
set_option maxRecDepth 100000 in
theorem b_304_15 (d : Nat) (v0 : Option Nat) (v1 : Int32) (v2 : Int32) (v3 : Int32) (h : av_H) : bd X d 304 15 [(0, vr v0), (1, vi v1), (2, vi v2), (3, vi v3)] [] h =
  (av_gI h v0 11 45).bind fun x1 =>
  if v3 < x1 then
    (if v1 = (-1 : Int32) then
      (bd X d 304 29 [(0, vr v0), (1, vi v1), (3, vi v3)] [vi v2] h)
    else (av_gR h v0 11 47).bind fun x2 =>
    (av_lI X h x2 v3).bind fun x3 =>
    if x3 = v1 then
      (bd X d 304 29 [(0, vr v0), (1, vi v1), (3, vi v3)] [vi v2] h)
    else bd X d 304 15 [(0, vr v0), (1, vi v1), (2, vi (v2 + (0 : Int32))), (3, vi (v3 + (1 : Int32)))] [] h)
  else av_rI v2 h :=
  (av_bd_eq av_Sg p_304 _ _ _ _ _).trans rfl
set_option maxRecDepth 100000 in
theorem b_304_29 (d : Nat) (v0 : Option Nat) (v1 : Int32) (v3 : Int32) (s0 : Int32) (h : av_H) : bd X d 304 29 [(0, vr v0), (1, vi v1), (3, vi v3)] [vi s0] h =
  if av_is h v0 11 = true then (
  (av_cI (ev X d 300 [vr v0, vi v3] h)).bind fun q1 =>
  if q1.1 = 0 then
    (bd X d 304 15 [(0, vr v0), (1, vi v1), (2, vi (s0 + (0 : Int32))), (3, vi (v3 + (1 : Int32)))] [] q1.2)
  else bd X d 304 15 [(0, vr v0), (1, vi v1), (2, vi (s0 + (1 : Int32))), (3, vi (v3 + (1 : Int32)))] [] q1.2) else none :=
  (av_bd_eq av_Sg p_304 _ _ _ _ _).trans rfl
theorem e_304 (d : Nat) (v0 : Option Nat) (v1 : Int32) (h : av_H) : ev X (d + 1) 304 [vr v0, vi v1] h = bd X d 304 0 [(0, vr v0), (1, vi v1)] [] h := av_ev_eq av_Sg p_304 d _ h rfl
/-! 305 = X11_isBarred -/
set_option maxRecDepth 100000 in
theorem b_305_0 (d : Nat) (v0 : Option Nat) (v1 : Int32) (v2 : Int32) (v3 : Int32) (v4 : Int32) (v5 : Int32) (h : av_H) : bd X d 305 0 [(0, vr v0), (1, vi v1), (2, vi v2), (3, vi v3), (4, vi v4), (5, vi v5)] [] h =
  (av_gR h v0 11 17).bind fun x1 =>
  (av_lI X h x1 v2).bind fun x2 =>
  if av_is h v0 11 = true then (
  (av_cV (ev X d 292 [vr v0, vi v2, vi (0 : Int32), vi (1 : Int32), vi x2, vi (0 : Int32)] h)).bind fun q3 =>
  if av_is q3 v0 11 = true then (
  (av_cI (ev X d 286 [vr v0, vi v1, vi v3, vi v4, vi v5] q3)).bind fun q4 =>
  (av_bz q4.1).bind fun w => av_rI w q4.2) else none) else none :=
  (av_bd_eq av_Sg p_305 _ _ _ _ _).trans rfl
theorem e_305 (d : Nat) (v0 : Option Nat) (v1 : Int32) (v2 : Int32) (v3 : Int32) (v4 : Int32) (v5 : Int32) (h : av_H) : ev X (d + 1) 305 [vr v0, vi v1, vi v2, vi v3, vi v4, vi v5] h = bd X d 305 0 [(0, vr v0), (1, vi v1), (2, vi v2), (3, vi v3), (4, vi v4), (5, vi v5)] [] h := av_ev_eq av_Sg p_305 d _ h rfl
/-! 306 = X11_lost -/
set_option maxRecDepth 100000 in
theorem b_306_0 (d : Nat) (v0 : Option Nat) (v1 : Int32) (v2 : Int32) (v3 : Int32) (h : av_H) : bd X d 306 0 [(0, vr v0), (1, vi v1), (2, vi v2), (3, vi v3)] [] h =
  (av_pI h v0 11 0 (0 : Int32)).bind fun g1 =>
  if av_is g1 v0 11 = true then (
  (av_cI (ev X d 257 [vr v0, vi v1] g1)).bind fun q2 =>
  if q2.1 = 0 then
    (av_rI (-1 : Int32) q2.2)
  else (av_cI (ev X d 255 [vi v2] q2.2)).bind fun q3 =>
  if q3.1 = 0 then
    (av_rI (-1 : Int32) q3.2)
  else (av_cI (ev X d 253 [vi v3] q3.2)).bind fun q4 =>
  if q4.1 = 0 then
    (av_rI (-1 : Int32) q4.2)
  else bd X d 306 19 [(0, vr v0), (1, vi v1), (2, vi v2), (3, vi v3), (4, vi (0 : Int32)), (5, vi (0 : Int32))] [] q4.2) else none :=
  (av_bd_eq av_Sg p_306 _ _ _ _ _).trans rfl
set_option maxRecDepth 100000 in
theorem b_306_19 (d : Nat) (v0 : Option Nat) (v1 : Int32) (v2 : Int32) (v3 : Int32) (v4 : Int32) (v5 : Int32) (h : av_H) : bd X d 306 19 [(0, vr v0), (1, vi v1), (2, vi v2), (3, vi v3), (4, vi v4), (5, vi v5)] [] h =
  if v5 < (24 : Int32) then
    (if av_is h v0 11 = true then (
    (av_cI (ev X d 269 [vr v0, vi v1, vi v3, vi v5] h)).bind fun q1 =>
    if q1.1 = 0 then
      (bd X d 306 19 [(0, vr v0), (1, vi v1), (2, vi v2), (3, vi v3), (4, vi (v4 + (0 : Int32))), (5, vi (v5 + (1 : Int32)))] [] q1.2)
    else if av_is q1.2 v0 11 = true then (
    (av_cI (ev X d 305 [vr v0, vi (0 : Int32), vi v1, vi v2, vi v3, vi v5] q1.2)).bind fun q2 =>
    if q2.1 = 0 then
      (bd X d 306 19 [(0, vr v0), (1, vi v1), (2, vi v2), (3, vi v3), (4, vi (v4 + (0 : Int32))), (5, vi (v5 + (1 : Int32)))] [] q2.2)
    else bd X d 306 19 [(0, vr v0), (1, vi v1), (2, vi v2), (3, vi v3), (4, vi (v4 + (1 : Int32))), (5, vi (v5 + (1 : Int32)))] [] q2.2) else none) else none)
  else av_rI v4 h :=
  (av_bd_eq av_Sg p_306 _ _ _ _ _).trans rfl
theorem e_306 (d : Nat) (v0 : Option Nat) (v1 : Int32) (v2 : Int32) (v3 : Int32) (h : av_H) : ev X (d + 1) 306 [vr v0, vi v1, vi v2, vi v3] h = bd X d 306 0 [(0, vr v0), (1, vi v1), (2, vi v2), (3, vi v3)] [] h := av_ev_eq av_Sg p_306 d _ h rfl
/-! 307 = X11_didReach -/
set_option maxRecDepth 100000 in
theorem b_307_0 (d : Nat) (v0 : Option Nat) (v1 : Int32) (v2 : Int32) (v3 : Int32) (v4 : Int32) (v5 : Int32) (h : av_H) : bd X d 307 0 [(0, vr v0), (1, vi v1), (2, vi v2), (3, vi v3), (4, vi v4), (5, vi v5)] [] h =
  (av_gR h v0 11 48).bind fun x1 =>
  (av_lI X h x1 v1).bind fun x2 =>
  (av_gR h v0 11 46).bind fun x3 =>
  (av_lI X h x3 v1).bind fun x4 =>
  if x4 = v2 then
    ((av_gR h v0 11 47).bind fun x5 =>
    (av_lI X h x5 v1).bind fun x6 =>
    if x6 = v3 then
      (if (v5 - x2) < 0 then
        ((av_bz (0 : Int32)).bind fun w => av_rI w h)
      else if (v5 - x2) < (4 : Int32) then
        ((av_gR h v0 11 63).bind fun x7 =>
        (av_lL h x7 v1).bind fun x8 =>
        if (lg_cmp ((x8 >>> ((((4 : Int32) * v4) + (v5 - x2)).toInt64 &&& 63)) &&& (1 : Int64)) (1 : Int64)) = 0 then
          ((av_bz (1 : Int32)).bind fun w => av_rI w h)
        else (av_bz (0 : Int32)).bind fun w => av_rI w h)
      else (av_bz (0 : Int32)).bind fun w => av_rI w h)
    else (av_bz (0 : Int32)).bind fun w => av_rI w h)
  else (av_bz (0 : Int32)).bind fun w => av_rI w h :=
  (av_bd_eq av_Sg p_307 _ _ _ _ _).trans rfl
theorem e_307 (d : Nat) (v0 : Option Nat) (v1 : Int32) (v2 : Int32) (v3 : Int32) (v4 : Int32) (v5 : Int32) (h : av_H) : ev X (d + 1) 307 [vr v0, vi v1, vi v2, vi v3, vi v4, vi v5] h = bd X d 307 0 [(0, vr v0), (1, vi v1), (2, vi v2), (3, vi v3), (4, vi v4), (5, vi v5)] [] h := av_ev_eq av_Sg p_307 d _ h rfl
/-! 308 = X11_isLate -/
set_option maxRecDepth 100000 in
theorem b_308_0 (d : Nat) (v0 : Option Nat) (v1 : Int32) (v2 : Int32) (v3 : Int32) (v4 : Int32) (v5 : Int32) (v6 : Int32) (h : av_H) : bd X d 308 0 [(0, vr v0), (1, vi v1), (2, vi v2), (3, vi v3), (4, vi v4), (5, vi v5), (6, vi v6)] [] h =
  (av_gR h v0 11 12).bind fun x1 =>
  (av_cI (ev X d 258 [vi v1, vi v2, vi v3, vi v4] h)).bind fun q2 =>
  (av_lB q2.2 x1 103 q2.1).bind fun x3 =>
  if x3 = 0 then
    (bd X d 308 15 [(0, vr v0), (1, vi v1), (2, vi v2), (3, vi v3), (4, vi v4), (5, vi v5), (6, vi v6), (7, vi (1 : Int32)), (8, vi (0 : Int32))] [] q2.2)
  else bd X d 308 15 [(0, vr v0), (1, vi v1), (2, vi v2), (3, vi v3), (4, vi v4), (5, vi v5), (6, vi v6), (7, vi (0 : Int32)), (8, vi (0 : Int32))] [] q2.2 :=
  (av_bd_eq av_Sg p_308 _ _ _ _ _).trans rfl
set_option maxRecDepth 100000 in
theorem b_308_15 (d : Nat) (v0 : Option Nat) (v1 : Int32) (v2 : Int32) (v3 : Int32) (v4 : Int32) (v5 : Int32) (v6 : Int32) (v7 : Int32) (v8 : Int32) (h : av_H) : bd X d 308 15 [(0, vr v0), (1, vi v1), (2, vi v2), (3, vi v3), (4, vi v4), (5, vi v5), (6, vi v6), (7, vi v7), (8, vi v8)] [] h =
  (av_gI h v0 11 45).bind fun x1 =>
  if v8 < x1 then
    (if v7 = 0 then
      ((av_bz v7).bind fun w => av_rI w h)
    else (av_gR h v0 11 49).bind fun x2 =>
    (av_lI X h x2 v8).bind fun x3 =>
    (av_cI (ev X d 252 [vi x3, vi ((v5 - v6) + (1 : Int32)), vi v5] h)).bind fun q4 =>
    if q4.1 = 0 then
      (bd X d 308 15 [(0, vr v0), (1, vi v1), (2, vi v2), (3, vi v3), (4, vi v4), (5, vi v5), (6, vi v6), (7, vi (1 : Int32)), (8, vi (v8 + (1 : Int32)))] [] q4.2)
    else if av_is q4.2 v0 11 = true then (
    (av_cI (ev X d 307 [vr v0, vi v8, vi v1, vi v2, vi v3, vi v4] q4.2)).bind fun q5 =>
    if q5.1 = 0 then
      (bd X d 308 15 [(0, vr v0), (1, vi v1), (2, vi v2), (3, vi v3), (4, vi v4), (5, vi v5), (6, vi v6), (7, vi (1 : Int32)), (8, vi (v8 + (1 : Int32)))] [] q5.2)
    else bd X d 308 15 [(0, vr v0), (1, vi v1), (2, vi v2), (3, vi v3), (4, vi v4), (5, vi v5), (6, vi v6), (7, vi (0 : Int32)), (8, vi (v8 + (1 : Int32)))] [] q5.2) else none)
  else (av_bz v7).bind fun w => av_rI w h :=
  (av_bd_eq av_Sg p_308 _ _ _ _ _).trans rfl
theorem e_308 (d : Nat) (v0 : Option Nat) (v1 : Int32) (v2 : Int32) (v3 : Int32) (v4 : Int32) (v5 : Int32) (v6 : Int32) (h : av_H) : ev X (d + 1) 308 [vr v0, vi v1, vi v2, vi v3, vi v4, vi v5, vi v6] h = bd X d 308 0 [(0, vr v0), (1, vi v1), (2, vi v2), (3, vi v3), (4, vi v4), (5, vi v5), (6, vi v6)] [] h := av_ev_eq av_Sg p_308 d _ h rfl
/-! 309 = X11_isPromise -/
set_option maxRecDepth 100000 in
theorem b_309_0 (d : Nat) (v0 : Int32) (h : av_H) : bd X d 309 0 [(0, vi v0)] [] h =
  (av_cI (ev X d 252 [vi v0, vi (1 : Int32), vi (99 : Int32)] h)).bind fun q1 =>
  (av_bz q1.1).bind fun w => av_rI w q1.2 :=
  (av_bd_eq av_Sg p_309 _ _ _ _ _).trans rfl
theorem e_309 (d : Nat) (v0 : Int32) (h : av_H) : ev X (d + 1) 309 [vi v0] h = bd X d 309 0 [(0, vi v0)] [] h := av_ev_eq av_Sg p_309 d _ h rfl
/-! 310 = X11_late -/
set_option maxRecDepth 100000 in
theorem b_310_0 (d : Nat) (v0 : Option Nat) (v1 : Int32) (v2 : Int32) (v3 : Int32) (v4 : Int32) (h : av_H) : bd X d 310 0 [(0, vr v0), (1, vi v1), (2, vi v2), (3, vi v3), (4, vi v4)] [] h =
  (av_pI h v0 11 0 (0 : Int32)).bind fun g1 =>
  if av_is g1 v0 11 = true then (
  (av_cI (ev X d 257 [vr v0, vi v1] g1)).bind fun q2 =>
  if q2.1 = 0 then
    (av_rI (-1 : Int32) q2.2)
  else (av_cI (ev X d 255 [vi v2] q2.2)).bind fun q3 =>
  if q3.1 = 0 then
    (av_rI (-1 : Int32) q3.2)
  else (av_cI (ev X d 253 [vi v3] q3.2)).bind fun q4 =>
  if q4.1 = 0 then
    (av_rI (-1 : Int32) q4.2)
  else (av_cI (ev X d 309 [vi v4] q4.2)).bind fun q5 =>
  if q5.1 = 0 then
    (av_rI (-1 : Int32) q5.2)
  else bd X d 310 22 [(0, vr v0), (1, vi v1), (2, vi v2), (3, vi v3), (4, vi v4), (5, vi (0 : Int32)), (6, vi (0 : Int32))] [] q5.2) else none :=
  (av_bd_eq av_Sg p_310 _ _ _ _ _).trans rfl
set_option maxRecDepth 100000 in
theorem b_310_22 (d : Nat) (v0 : Option Nat) (v1 : Int32) (v2 : Int32) (v3 : Int32) (v4 : Int32) (v5 : Int32) (v6 : Int32) (h : av_H) : bd X d 310 22 [(0, vr v0), (1, vi v1), (2, vi v2), (3, vi v3), (4, vi v4), (5, vi v5), (6, vi v6)] [] h =
  (av_gR h v0 11 10).bind fun x1 =>
  (av_lI X h x1 v1).bind fun x2 =>
  if v6 < x2 then
    (bd X d 310 30 [(0, vr v0), (1, vi v1), (2, vi v2), (3, vi v3), (4, vi v4), (5, vi v5), (6, vi v6), (7, vi (0 : Int32))] [] h)
  else av_rI v5 h :=
  (av_bd_eq av_Sg p_310 _ _ _ _ _).trans rfl
set_option maxRecDepth 100000 in
theorem b_310_30 (d : Nat) (v0 : Option Nat) (v1 : Int32) (v2 : Int32) (v3 : Int32) (v4 : Int32) (v5 : Int32) (v6 : Int32) (v7 : Int32) (h : av_H) : bd X d 310 30 [(0, vr v0), (1, vi v1), (2, vi v2), (3, vi v3), (4, vi v4), (5, vi v5), (6, vi v6), (7, vi v7)] [] h =
  (av_gR h v0 11 11).bind fun x1 =>
  (av_lI X h x1 v1).bind fun x2 =>
  if v7 < x2 then
    (if av_is h v0 11 = true then (
    (av_cI (ev X d 308 [vr v0, vi v1, vi v2, vi v6, vi v7, vi v3, vi v4] h)).bind fun q3 =>
    if q3.1 = 0 then
      (bd X d 310 30 [(0, vr v0), (1, vi v1), (2, vi v2), (3, vi v3), (4, vi v4), (5, vi (v5 + (0 : Int32))), (6, vi v6), (7, vi (v7 + (1 : Int32)))] [] q3.2)
    else bd X d 310 30 [(0, vr v0), (1, vi v1), (2, vi v2), (3, vi v3), (4, vi v4), (5, vi (v5 + (1 : Int32))), (6, vi v6), (7, vi (v7 + (1 : Int32)))] [] q3.2) else none)
  else bd X d 310 22 [(0, vr v0), (1, vi v1), (2, vi v2), (3, vi v3), (4, vi v4), (5, vi v5), (6, vi (v6 + (1 : Int32)))] [] h :=
  (av_bd_eq av_Sg p_310 _ _ _ _ _).trans rfl
theorem e_310 (d : Nat) (v0 : Option Nat) (v1 : Int32) (v2 : Int32) (v3 : Int32) (v4 : Int32) (h : av_H) : ev X (d + 1) 310 [vr v0, vi v1, vi v2, vi v3, vi v4] h = bd X d 310 0 [(0, vr v0), (1, vi v1), (2, vi v2), (3, vi v3), (4, vi v4)] [] h := av_ev_eq av_Sg p_310 d _ h rfl
/-! 311 = X11_isCovered -/
set_option maxRecDepth 100000 in
theorem b_311_0 (d : Nat) (v0 : Option Nat) (v1 : Int32) (v2 : Int32) (v3 : Int32) (h : av_H) : bd X d 311 0 [(0, vr v0), (1, vi v1), (2, vi v2), (3, vi v3)] [] h =
  bd X d 311 4 [(0, vr v0), (1, vi v1), (2, vi v2), (3, vi v3), (4, vi (0 : Int32)), (5, vi (0 : Int32))] [] h :=
  (av_bd_eq av_Sg p_311 _ _ _ _ _).trans rfl
set_option maxRecDepth 100000 in
theorem b_311_4 (d : Nat) (v0 : Option Nat) (v1 : Int32) (v2 : Int32) (v3 : Int32) (v4 : Int32) (v5 : Int32) (h : av_H) : bd X d 311 4 [(0, vr v0), (1, vi v1), (2, vi v2), (3, vi v3), (4, vi v4), (5, vi v5)] [] h =
  if v3 < v5 then
    ((av_bz v4).bind fun w => av_rI w h)
  else if v4 = 0 then
    ((av_gR h v0 11 15).bind fun x1 =>
    (av_lI X h x1 v1).bind fun x2 =>
    if v3 < (v5 + x2) then
      ((av_gR h v0 11 14).bind fun x3 =>
      (av_cI (ev X d 261 [vi v1, vi v2, vi v5] h)).bind fun q4 =>
      (av_lB q4.2 x3 103 q4.1).bind fun x5 =>
      if x5 = 0 then
        (bd X d 311 4 [(0, vr v0), (1, vi v1), (2, vi v2), (3, vi v3), (4, vi (1 : Int32)), (5, vi (v5 + (1 : Int32)))] [] q4.2)
      else bd X d 311 4 [(0, vr v0), (1, vi v1), (2, vi v2), (3, vi v3), (4, vi (0 : Int32)), (5, vi (v5 + (1 : Int32)))] [] q4.2)
    else bd X d 311 4 [(0, vr v0), (1, vi v1), (2, vi v2), (3, vi v3), (4, vi (0 : Int32)), (5, vi (v5 + (1 : Int32)))] [] h)
  else bd X d 311 4 [(0, vr v0), (1, vi v1), (2, vi v2), (3, vi v3), (4, vi (1 : Int32)), (5, vi (v5 + (1 : Int32)))] [] h :=
  (av_bd_eq av_Sg p_311 _ _ _ _ _).trans rfl
theorem e_311 (d : Nat) (v0 : Option Nat) (v1 : Int32) (v2 : Int32) (v3 : Int32) (h : av_H) : ev X (d + 1) 311 [vr v0, vi v1, vi v2, vi v3] h = bd X d 311 0 [(0, vr v0), (1, vi v1), (2, vi v2), (3, vi v3)] [] h := av_ev_eq av_Sg p_311 d _ h rfl
/-! 312 = X11_hasHour -/
set_option maxRecDepth 100000 in
theorem b_312_0 (d : Nat) (v0 : Option Nat) (v1 : Int32) (v2 : Int32) (v3 : Int32) (h : av_H) : bd X d 312 0 [(0, vr v0), (1, vi v1), (2, vi v2), (3, vi v3)] [] h =
  bd X d 312 4 [(0, vr v0), (1, vi v1), (2, vi v2), (3, vi v3), (4, vi (0 : Int32)), (5, vi (0 : Int32))] [] h :=
  (av_bd_eq av_Sg p_312 _ _ _ _ _).trans rfl
set_option maxRecDepth 100000 in
theorem b_312_4 (d : Nat) (v0 : Option Nat) (v1 : Int32) (v2 : Int32) (v3 : Int32) (v4 : Int32) (v5 : Int32) (h : av_H) : bd X d 312 4 [(0, vr v0), (1, vi v1), (2, vi v2), (3, vi v3), (4, vi v4), (5, vi v5)] [] h =
  if v5 < (24 : Int32) then
    (if v4 = 0 then
      (if av_is h v0 11 = true then (
      (av_cI (ev X d 269 [vr v0, vi v1, vi v3, vi v5] h)).bind fun q1 =>
      if q1.1 = 0 then
        (bd X d 312 4 [(0, vr v0), (1, vi v1), (2, vi v2), (3, vi v3), (4, vi (0 : Int32)), (5, vi (v5 + (1 : Int32)))] [] q1.2)
      else if av_is q1.2 v0 11 = true then (
      (av_cI (ev X d 305 [vr v0, vi (0 : Int32), vi v1, vi v2, vi v3, vi v5] q1.2)).bind fun q2 =>
      if q2.1 = 0 then
        (if av_is q2.2 v0 11 = true then (
        (av_cI (ev X d 305 [vr v0, vi (1 : Int32), vi v1, vi v2, vi v3, vi v5] q2.2)).bind fun q3 =>
        if q3.1 = 0 then
          (bd X d 312 4 [(0, vr v0), (1, vi v1), (2, vi v2), (3, vi v3), (4, vi (1 : Int32)), (5, vi (v5 + (1 : Int32)))] [] q3.2)
        else bd X d 312 4 [(0, vr v0), (1, vi v1), (2, vi v2), (3, vi v3), (4, vi (0 : Int32)), (5, vi (v5 + (1 : Int32)))] [] q3.2) else none)
      else bd X d 312 4 [(0, vr v0), (1, vi v1), (2, vi v2), (3, vi v3), (4, vi (0 : Int32)), (5, vi (v5 + (1 : Int32)))] [] q2.2) else none) else none)
    else (av_bz v4).bind fun w => av_rI w h)
  else (av_bz v4).bind fun w => av_rI w h :=
  (av_bd_eq av_Sg p_312 _ _ _ _ _).trans rfl
theorem e_312 (d : Nat) (v0 : Option Nat) (v1 : Int32) (v2 : Int32) (v3 : Int32) (h : av_H) : ev X (d + 1) 312 [vr v0, vi v1, vi v2, vi v3] h = bd X d 312 0 [(0, vr v0), (1, vi v1), (2, vi v2), (3, vi v3)] [] h := av_ev_eq av_Sg p_312 d _ h rfl
/-! 313 = X11_reason -/
set_option maxRecDepth 100000 in
theorem b_313_0 (d : Nat) (v0 : Option Nat) (v1 : Int32) (v2 : Int32) (v3 : Int32) (v4 : Int32) (v5 : Int32) (v6 : Int32) (h : av_H) : bd X d 313 0 [(0, vr v0), (1, vi v1), (2, vi v2), (3, vi v3), (4, vi v4), (5, vi v5), (6, vi v6)] [] h =
  (av_pI h v0 11 0 (0 : Int32)).bind fun g1 =>
  if av_is g1 v0 11 = true then (
  (av_cI (ev X d 259 [vr v0, vi v1, vi v2, vi v3, vi v4] g1)).bind fun q2 =>
  if q2.1 = 0 then
    (av_rI (-1 : Int32) q2.2)
  else (av_cI (ev X d 253 [vi v5] q2.2)).bind fun q3 =>
  if q3.1 = 0 then
    (av_rI (-1 : Int32) q3.2)
  else (av_cI (ev X d 309 [vi v6] q3.2)).bind fun q4 =>
  if q4.1 = 0 then
    (av_rI (-1 : Int32) q4.2)
  else (av_cI (ev X d 258 [vi v1, vi v2, vi v3, vi v4] q4.2)).bind fun q5 =>
  (av_gR q5.2 v0 11 12).bind fun x6 =>
  (av_lB q5.2 x6 103 q5.1).bind fun x7 =>
  if x7 = 0 then
    (if av_is q5.2 v0 11 = true then (
    (av_cI (ev X d 308 [vr v0, vi v1, vi v2, vi v3, vi v4, vi v5, vi v6] q5.2)).bind fun q8 =>
    if q8.1 = 0 then
      (av_rI (0 : Int32) q8.2)
    else if av_is q8.2 v0 11 = true then (
    (av_cI (ev X d 311 [vr v0, vi v1, vi v2, vi v4] q8.2)).bind fun q9 =>
    if q9.1 = 0 then
      (av_rI (2 : Int32) q9.2)
    else if ((v5 - v6) + (1 : Int32)) < 0 then
      (bd X d 313 68 [(0, vr v0), (1, vi v1), (2, vi v2), (5, vi v5), (7, vi (q5.1)), (8, vi (0 : Int32)), (9, vi (0 : Int32)), (10, vi (0 : Int32))] [] q9.2)
    else bd X d 313 68 [(0, vr v0), (1, vi v1), (2, vi v2), (5, vi v5), (7, vi (q5.1)), (8, vi (0 : Int32)), (9, vi (0 : Int32)), (10, vi ((v5 - v6) + (1 : Int32)))] [] q9.2) else none) else none)
  else av_rI (1 : Int32) q5.2) else none :=
  (av_bd_eq av_Sg p_313 _ _ _ _ _).trans rfl
set_option maxRecDepth 100000 in
theorem b_313_68 (d : Nat) (v0 : Option Nat) (v1 : Int32) (v2 : Int32) (v5 : Int32) (v7 : Int32) (v8 : Int32) (v9 : Int32) (v10 : Int32) (h : av_H) : bd X d 313 68 [(0, vr v0), (1, vi v1), (2, vi v2), (5, vi v5), (7, vi v7), (8, vi v8), (9, vi v9), (10, vi v10)] [] h =
  if v5 < v10 then
    (if v8 = 0 then
      (av_rI (3 : Int32) h)
    else if v9 = 0 then
      (av_rI (4 : Int32) h)
    else av_rI (5 : Int32) h)
  else if av_is h v0 11 = true then (
  (av_cI (ev X d 272 [vr v0, vi v7, vi v10] h)).bind fun q1 =>
  if q1.1 = 0 then
    (bd X d 313 79 [(0, vr v0), (1, vi v1), (2, vi v2), (5, vi v5), (7, vi v7), (8, vi v8), (9, vi v9), (10, vi v10)] [vi (1 : Int32)] q1.2)
  else bd X d 313 79 [(0, vr v0), (1, vi v1), (2, vi v2), (5, vi v5), (7, vi v7), (8, vi v8), (9, vi v9), (10, vi v10)] [vi (0 : Int32)] q1.2) else none :=
  (av_bd_eq av_Sg p_313 _ _ _ _ _).trans rfl
set_option maxRecDepth 100000 in
theorem b_313_79 (d : Nat) (v0 : Option Nat) (v1 : Int32) (v2 : Int32) (v5 : Int32) (v7 : Int32) (v8 : Int32) (v9 : Int32) (v10 : Int32) (s0 : Int32) (h : av_H) : bd X d 313 79 [(0, vr v0), (1, vi v1), (2, vi v2), (5, vi v5), (7, vi v7), (8, vi v8), (9, vi v9), (10, vi v10)] [vi s0] h =
  if v8 = 0 then
    (if s0 = 0 then
      (bd X d 313 87 [(0, vr v0), (1, vi v1), (2, vi v2), (5, vi v5), (7, vi v7), (9, vi v9), (10, vi v10), (11, vi s0)] [vi (0 : Int32)] h)
    else bd X d 313 84 [(0, vr v0), (1, vi v1), (2, vi v2), (5, vi v5), (7, vi v7), (9, vi v9), (10, vi v10), (11, vi s0)] [] h)
  else bd X d 313 84 [(0, vr v0), (1, vi v1), (2, vi v2), (5, vi v5), (7, vi v7), (9, vi v9), (10, vi v10), (11, vi s0)] [] h :=
  (av_bd_eq av_Sg p_313 _ _ _ _ _).trans rfl
set_option maxRecDepth 100000 in
theorem b_313_84 (d : Nat) (v0 : Option Nat) (v1 : Int32) (v2 : Int32) (v5 : Int32) (v7 : Int32) (v9 : Int32) (v10 : Int32) (v11 : Int32) (h : av_H) : bd X d 313 84 [(0, vr v0), (1, vi v1), (2, vi v2), (5, vi v5), (7, vi v7), (9, vi v9), (10, vi v10), (11, vi v11)] [] h =
  bd X d 313 87 [(0, vr v0), (1, vi v1), (2, vi v2), (5, vi v5), (7, vi v7), (9, vi v9), (10, vi v10), (11, vi v11)] [vi (1 : Int32)] h :=
  (av_bd_eq av_Sg p_313 _ _ _ _ _).trans rfl
set_option maxRecDepth 100000 in
theorem b_313_87 (d : Nat) (v0 : Option Nat) (v1 : Int32) (v2 : Int32) (v5 : Int32) (v7 : Int32) (v9 : Int32) (v10 : Int32) (v11 : Int32) (s0 : Int32) (h : av_H) : bd X d 313 87 [(0, vr v0), (1, vi v1), (2, vi v2), (5, vi v5), (7, vi v7), (9, vi v9), (10, vi v10), (11, vi v11)] [vi s0] h =
  if v9 = 0 then
    (if v11 = 0 then
      (bd X d 313 68 [(0, vr v0), (1, vi v1), (2, vi v2), (5, vi v5), (7, vi v7), (8, vi s0), (9, vi (0 : Int32)), (10, vi (v10 + (1 : Int32)))] [] h)
    else if av_is h v0 11 = true then (
    (av_cI (ev X d 312 [vr v0, vi v1, vi v2, vi v10] h)).bind fun q1 =>
    if q1.1 = 0 then
      (bd X d 313 68 [(0, vr v0), (1, vi v1), (2, vi v2), (5, vi v5), (7, vi v7), (8, vi s0), (9, vi (0 : Int32)), (10, vi (v10 + (1 : Int32)))] [] q1.2)
    else bd X d 313 68 [(0, vr v0), (1, vi v1), (2, vi v2), (5, vi v5), (7, vi v7), (8, vi s0), (9, vi (1 : Int32)), (10, vi (v10 + (1 : Int32)))] [] q1.2) else none)
  else bd X d 313 68 [(0, vr v0), (1, vi v1), (2, vi v2), (5, vi v5), (7, vi v7), (8, vi s0), (9, vi (1 : Int32)), (10, vi (v10 + (1 : Int32)))] [] h :=
  (av_bd_eq av_Sg p_313 _ _ _ _ _).trans rfl
theorem e_313 (d : Nat) (v0 : Option Nat) (v1 : Int32) (v2 : Int32) (v3 : Int32) (v4 : Int32) (v5 : Int32) (v6 : Int32) (h : av_H) : ev X (d + 1) 313 [vr v0, vi v1, vi v2, vi v3, vi v4, vi v5, vi v6] h = bd X d 313 0 [(0, vr v0), (1, vi v1), (2, vi v2), (3, vi v3), (4, vi v4), (5, vi v5), (6, vi v6)] [] h := av_ev_eq av_Sg p_313 d _ h rfl
/-! 314 = X11_wantedColumns -/
set_option maxRecDepth 100000 in
theorem b_314_0 (d : Nat) (v0 : Option Nat) (v1 : Int32) (v2 : Int32) (h : av_H) : bd X d 314 0 [(0, vr v0), (1, vi v1), (2, vi v2)] [] h =
  bd X d 314 4 [(0, vr v0), (1, vi v1), (2, vi v2), (3, vi (0 : Int32)), (4, vi (0 : Int32))] [] h :=
  (av_bd_eq av_Sg p_314 _ _ _ _ _).trans rfl
set_option maxRecDepth 100000 in
theorem b_314_4 (d : Nat) (v0 : Option Nat) (v1 : Int32) (v2 : Int32) (v3 : Int32) (v4 : Int32) (h : av_H) : bd X d 314 4 [(0, vr v0), (1, vi v1), (2, vi v2), (3, vi v3), (4, vi v4)] [] h =
  (av_gR h v0 11 11).bind fun x1 =>
  (av_lI X h x1 v1).bind fun x2 =>
  if v4 < x2 then
    (bd X d 314 14 [(0, vr v0), (1, vi v1), (2, vi v2), (3, vi v3), (4, vi v4), (5, vi (0 : Int32)), (6, vi (0 : Int32))] [] h)
  else av_rI v3 h :=
  (av_bd_eq av_Sg p_314 _ _ _ _ _).trans rfl
set_option maxRecDepth 100000 in
theorem b_314_14 (d : Nat) (v0 : Option Nat) (v1 : Int32) (v2 : Int32) (v3 : Int32) (v4 : Int32) (v5 : Int32) (v6 : Int32) (h : av_H) : bd X d 314 14 [(0, vr v0), (1, vi v1), (2, vi v2), (3, vi v3), (4, vi v4), (5, vi v5), (6, vi v6)] [] h =
  (av_gR h v0 11 10).bind fun x1 =>
  (av_lI X h x1 v1).bind fun x2 =>
  if v6 < x2 then
    (if v5 = 0 then
      ((av_gR h v0 11 12).bind fun x3 =>
      (av_cI (ev X d 258 [vi v1, vi v2, vi v6, vi v4] h)).bind fun q4 =>
      (av_lB q4.2 x3 103 q4.1).bind fun x5 =>
      if x5 = 0 then
        (bd X d 314 14 [(0, vr v0), (1, vi v1), (2, vi v2), (3, vi v3), (4, vi v4), (5, vi (1 : Int32)), (6, vi (v6 + (1 : Int32)))] [] q4.2)
      else bd X d 314 14 [(0, vr v0), (1, vi v1), (2, vi v2), (3, vi v3), (4, vi v4), (5, vi (0 : Int32)), (6, vi (v6 + (1 : Int32)))] [] q4.2)
    else bd X d 314 14 [(0, vr v0), (1, vi v1), (2, vi v2), (3, vi v3), (4, vi v4), (5, vi (1 : Int32)), (6, vi (v6 + (1 : Int32)))] [] h)
  else if v5 = 0 then
    (bd X d 314 4 [(0, vr v0), (1, vi v1), (2, vi v2), (3, vi (v3 ||| (0 : Int32))), (4, vi (v4 + (1 : Int32)))] [] h)
  else bd X d 314 4 [(0, vr v0), (1, vi v1), (2, vi v2), (3, vi (v3 ||| ((1 : Int32) <<< (v4 &&& 31)))), (4, vi (v4 + (1 : Int32)))] [] h :=
  (av_bd_eq av_Sg p_314 _ _ _ _ _).trans rfl
theorem e_314 (d : Nat) (v0 : Option Nat) (v1 : Int32) (v2 : Int32) (h : av_H) : ev X (d + 1) 314 [vr v0, vi v1, vi v2] h = bd X d 314 0 [(0, vr v0), (1, vi v1), (2, vi v2)] [] h := av_ev_eq av_Sg p_314 d _ h rfl
/-! 315 = X11_cover -/
set_option maxRecDepth 100000 in
theorem b_315_0 (d : Nat) (v0 : Option Nat) (v1 : Int32) (v2 : Int32) (v3 : Int32) (h : av_H) : bd X d 315 0 [(0, vr v0), (1, vi v1), (2, vi v2), (3, vi v3)] [] h =
  (av_pI h v0 11 0 (0 : Int32)).bind fun g1 =>
  if av_is g1 v0 11 = true then (
  (av_cI (ev X d 257 [vr v0, vi v1] g1)).bind fun q2 =>
  if q2.1 = 0 then
    (av_rI (-1 : Int32) q2.2)
  else (av_cI (ev X d 255 [vi v2] q2.2)).bind fun q3 =>
  if q3.1 = 0 then
    (av_rI (-1 : Int32) q3.2)
  else (av_cI (ev X d 252 [vi v3, vi (0 : Int32), vi (1 : Int32)] q3.2)).bind fun q4 =>
  if q4.1 = 0 then
    (av_rI (-1 : Int32) q4.2)
  else if av_is q4.2 v0 11 = true then (
  (av_cI (ev X d 314 [vr v0, vi v1, vi v2] q4.2)).bind fun q5 =>
  bd X d 315 26 [(0, vr v0), (1, vi v1), (2, vi v2), (3, vi v3), (4, vi (q5.1)), (5, vi (-1 : Int32)), (6, vi (0 : Int32))] [] q5.2) else none) else none :=
  (av_bd_eq av_Sg p_315 _ _ _ _ _).trans rfl
set_option maxRecDepth 100000 in
theorem b_315_26 (d : Nat) (v0 : Option Nat) (v1 : Int32) (v2 : Int32) (v3 : Int32) (v4 : Int32) (v5 : Int32) (v6 : Int32) (h : av_H) : bd X d 315 26 [(0, vr v0), (1, vi v1), (2, vi v2), (3, vi v3), (4, vi v4), (5, vi v5), (6, vi v6)] [] h =
  (av_gR h v0 11 11).bind fun x1 =>
  (av_lI X h x1 v1).bind fun x2 =>
  if v6 < ((1 : Int32) <<< (x2 &&& 31)) then
    (bd X d 315 40 [(0, vr v0), (1, vi v1), (2, vi v2), (3, vi v3), (4, vi v4), (5, vi v5), (6, vi v6), (7, vi (0 : Int32)), (8, vi (1 : Int32)), (9, vi (0 : Int32))] [] h)
  else if v5 < 0 then
    (av_rI (-1 : Int32) h)
  else if v3 = 0 then
    ((av_cI (ev X d 288 [vl (v5.toInt64)] h)).bind fun q3 =>
    av_rI q3.1 q3.2)
  else av_rI v5 h :=
  (av_bd_eq av_Sg p_315 _ _ _ _ _).trans rfl
set_option maxRecDepth 100000 in
theorem b_315_40 (d : Nat) (v0 : Option Nat) (v1 : Int32) (v2 : Int32) (v3 : Int32) (v4 : Int32) (v5 : Int32) (v6 : Int32) (v7 : Int32) (v8 : Int32) (v9 : Int32) (h : av_H) : bd X d 315 40 [(0, vr v0), (1, vi v1), (2, vi v2), (3, vi v3), (4, vi v4), (5, vi v5), (6, vi v6), (7, vi v7), (8, vi v8), (9, vi v9)] [] h =
  (av_gR h v0 11 11).bind fun x1 =>
  (av_lI X h x1 v1).bind fun x2 =>
  if v9 < x2 then
    (if ((v6 >>> (v9 &&& 31)) &&& (1 : Int32)) = (1 : Int32) then
      (if v8 = 0 then
        (bd X d 315 65 [(0, vr v0), (1, vi v1), (2, vi v2), (3, vi v3), (4, vi v4), (5, vi v5), (6, vi v6), (7, vi v7), (9, vi v9)] [] h)
      else (av_gR h v0 11 14).bind fun x3 =>
      (av_cI (ev X d 261 [vi v1, vi v2, vi v9] h)).bind fun q4 =>
      (av_lB q4.2 x3 103 q4.1).bind fun x5 =>
      if x5 = 0 then
        (bd X d 315 66 [(0, vr v0), (1, vi v1), (2, vi v2), (3, vi v3), (4, vi v4), (5, vi v5), (6, vi v6), (7, vi v7), (9, vi v9)] [vi (1 : Int32)] q4.2)
      else bd X d 315 65 [(0, vr v0), (1, vi v1), (2, vi v2), (3, vi v3), (4, vi v4), (5, vi v5), (6, vi v6), (7, vi v7), (9, vi v9)] [] q4.2)
    else bd X d 315 40 [(0, vr v0), (1, vi v1), (2, vi v2), (3, vi v3), (4, vi v4), (5, vi v5), (6, vi v6), (7, vi v7), (8, vi v8), (9, vi (v9 + (1 : Int32)))] [] h)
  else if v8 = 0 then
    (bd X d 315 26 [(0, vr v0), (1, vi v1), (2, vi v2), (3, vi v3), (4, vi v4), (5, vi v5), (6, vi (v6 + (1 : Int32)))] [] h)
  else if (v4 &&& (v7 ^^^ (-1 : Int32))) = 0 then
    (if v5 < 0 then
      (bd X d 315 26 [(0, vr v0), (1, vi v1), (2, vi v2), (3, vi v3), (4, vi v4), (5, vi v6), (6, vi (v6 + (1 : Int32)))] [] h)
    else (av_cI (ev X d 288 [vl (v6.toInt64)] h)).bind fun q6 =>
    (av_cI (ev X d 288 [vl (v5.toInt64)] q6.2)).bind fun q7 =>
    if q6.1 < q7.1 then
      (bd X d 315 26 [(0, vr v0), (1, vi v1), (2, vi v2), (3, vi v3), (4, vi v4), (5, vi v6), (6, vi (v6 + (1 : Int32)))] [] q7.2)
    else bd X d 315 26 [(0, vr v0), (1, vi v1), (2, vi v2), (3, vi v3), (4, vi v4), (5, vi v5), (6, vi (v6 + (1 : Int32)))] [] q7.2)
  else bd X d 315 26 [(0, vr v0), (1, vi v1), (2, vi v2), (3, vi v3), (4, vi v4), (5, vi v5), (6, vi (v6 + (1 : Int32)))] [] h :=
  (av_bd_eq av_Sg p_315 _ _ _ _ _).trans rfl
set_option maxRecDepth 100000 in
theorem b_315_65 (d : Nat) (v0 : Option Nat) (v1 : Int32) (v2 : Int32) (v3 : Int32) (v4 : Int32) (v5 : Int32) (v6 : Int32) (v7 : Int32) (v9 : Int32) (h : av_H) : bd X d 315 65 [(0, vr v0), (1, vi v1), (2, vi v2), (3, vi v3), (4, vi v4), (5, vi v5), (6, vi v6), (7, vi v7), (9, vi v9)] [] h =
  bd X d 315 66 [(0, vr v0), (1, vi v1), (2, vi v2), (3, vi v3), (4, vi v4), (5, vi v5), (6, vi v6), (7, vi v7), (9, vi v9)] [vi (0 : Int32)] h :=
  (av_bd_eq av_Sg p_315 _ _ _ _ _).trans rfl
set_option maxRecDepth 100000 in
theorem b_315_66 (d : Nat) (v0 : Option Nat) (v1 : Int32) (v2 : Int32) (v3 : Int32) (v4 : Int32) (v5 : Int32) (v6 : Int32) (v7 : Int32) (v9 : Int32) (s0 : Int32) (h : av_H) : bd X d 315 66 [(0, vr v0), (1, vi v1), (2, vi v2), (3, vi v3), (4, vi v4), (5, vi v5), (6, vi v6), (7, vi v7), (9, vi v9)] [vi s0] h =
  (av_gR h v0 11 15).bind fun x1 =>
  (av_lI X h x1 v1).bind fun x2 =>
  bd X d 315 40 [(0, vr v0), (1, vi v1), (2, vi v2), (3, vi v3), (4, vi v4), (5, vi v5), (6, vi v6), (7, vi (v7 ||| ((((1 : Int32) <<< (x2 &&& 31)) - (1 : Int32)) <<< (v9 &&& 31)))), (8, vi s0), (9, vi (v9 + (1 : Int32)))] [] h :=
  (av_bd_eq av_Sg p_315 _ _ _ _ _).trans rfl
theorem e_315 (d : Nat) (v0 : Option Nat) (v1 : Int32) (v2 : Int32) (v3 : Int32) (h : av_H) : ev X (d + 1) 315 [vr v0, vi v1, vi v2, vi v3] h = bd X d 315 0 [(0, vr v0), (1, vi v1), (2, vi v2), (3, vi v3)] [] h := av_ev_eq av_Sg p_315 d _ h rfl
/-! 316 = X11_scratch -/
set_option maxRecDepth 100000 in
theorem b_316_0 (d : Nat) (v0 : Option Nat) (v1 : Int32) (v2 : Int32) (v3 : Int32) (v4 : Int32) (v5 : Int32) (v6 : Int32) (v7 : Int32) (h : av_H) : bd X d 316 0 [(0, vr v0), (1, vi v1), (2, vi v2), (3, vi v3), (4, vi v4), (5, vi v5), (6, vi v6), (7, vi v7)] [] h =
  (av_pI h v0 11 0 (0 : Int32)).bind fun g1 =>
  if av_is g1 v0 11 = true then (
  (av_cI (ev X d 259 [vr v0, vi v1, vi v2, vi v3, vi v4] g1)).bind fun q2 =>
  if q2.1 = 0 then
    (av_rI (-1 : Int32) q2.2)
  else (av_cI (ev X d 253 [vi v5] q2.2)).bind fun q3 =>
  if q3.1 = 0 then
    (av_rI (-1 : Int32) q3.2)
  else (av_cI (ev X d 253 [vi v6] q3.2)).bind fun q4 =>
  if q4.1 = 0 then
    (av_rI (-1 : Int32) q4.2)
  else if v5 < v6 then
    ((av_cI (ev X d 252 [vi v7, vi (0 : Int32), vi (2 : Int32)] q4.2)).bind fun q5 =>
    if q5.1 = 0 then
      (av_rI (-1 : Int32) q5.2)
    else bd X d 316 34 [(0, vr v0), (1, vi v1), (2, vi v2), (3, vi v3), (4, vi v4), (5, vi v5), (6, vi v6), (7, vi v7), (8, vi (0 : Int32)), (9, vi (0 : Int32)), (10, vi (-1 : Int32)), (11, vi (0 : Int32))] [] q5.2)
  else av_rI (-1 : Int32) q4.2) else none :=
  (av_bd_eq av_Sg p_316 _ _ _ _ _).trans rfl
set_option maxRecDepth 100000 in
theorem b_316_34 (d : Nat) (v0 : Option Nat) (v1 : Int32) (v2 : Int32) (v3 : Int32) (v4 : Int32) (v5 : Int32) (v6 : Int32) (v7 : Int32) (v8 : Int32) (v9 : Int32) (v10 : Int32) (v11 : Int32) (h : av_H) : bd X d 316 34 [(0, vr v0), (1, vi v1), (2, vi v2), (3, vi v3), (4, vi v4), (5, vi v5), (6, vi v6), (7, vi v7), (8, vi v8), (9, vi v9), (10, vi v10), (11, vi v11)] [] h =
  (av_gI h v0 11 45).bind fun x1 =>
  if v11 < x1 then
    ((av_gR h v0 11 49).bind fun x2 =>
    (av_lI X h x2 v11).bind fun x3 =>
    (av_cI (ev X d 252 [vi x3, vi (v5 + (1 : Int32)), vi v6] h)).bind fun q4 =>
    if q4.1 = 0 then
      (bd X d 316 34 [(0, vr v0), (1, vi v1), (2, vi v2), (3, vi v3), (4, vi v4), (5, vi v5), (6, vi v6), (7, vi v7), (8, vi v8), (9, vi v9), (10, vi v10), (11, vi (v11 + (1 : Int32)))] [] q4.2)
    else if av_is q4.2 v0 11 = true then (
    (av_cI (ev X d 307 [vr v0, vi v11, vi v1, vi v2, vi v3, vi v4] q4.2)).bind fun q5 =>
    if q5.1 = 0 then
      (bd X d 316 34 [(0, vr v0), (1, vi v1), (2, vi v2), (3, vi v3), (4, vi v4), (5, vi v5), (6, vi v6), (7, vi v7), (8, vi v8), (9, vi v9), (10, vi v10), (11, vi (v11 + (1 : Int32)))] [] q5.2)
    else (av_gR q5.2 v0 11 53).bind fun x6 =>
    (av_lI X q5.2 x6 v11).bind fun x7 =>
    (av_gR q5.2 v0 11 54).bind fun x8 =>
    (av_lI X q5.2 x8 v11).bind fun x9 =>
    bd X d 316 34 [(0, vr v0), (1, vi v1), (2, vi v2), (3, vi v3), (4, vi v4), (5, vi v5), (6, vi v6), (7, vi v7), (8, vi (v8 ||| (((1 : Int32) <<< (x7 &&& 31)) ||| ((1 : Int32) <<< (x9 &&& 31))))), (9, vi (v9 + (1 : Int32))), (10, vi v11), (11, vi (v11 + (1 : Int32)))] [] q5.2) else none)
  else if v7 = 0 then
    (av_rI v8 h)
  else if v7 = (1 : Int32) then
    (av_rI v9 h)
  else av_rI v10 h :=
  (av_bd_eq av_Sg p_316 _ _ _ _ _).trans rfl
theorem e_316 (d : Nat) (v0 : Option Nat) (v1 : Int32) (v2 : Int32) (v3 : Int32) (v4 : Int32) (v5 : Int32) (v6 : Int32) (v7 : Int32) (h : av_H) : ev X (d + 1) 316 [vr v0, vi v1, vi v2, vi v3, vi v4, vi v5, vi v6, vi v7] h = bd X d 316 0 [(0, vr v0), (1, vi v1), (2, vi v2), (3, vi v3), (4, vi v4), (5, vi v5), (6, vi v6), (7, vi v7)] [] h := av_ev_eq av_Sg p_316 d _ h rfl
/-! 317 = X11_bill -/
set_option maxRecDepth 100000 in
theorem b_317_0 (d : Nat) (v0 : Option Nat) (v1 : Int32) (v2 : Int32) (v3 : Int32) (v4 : Int32) (h : av_H) : bd X d 317 0 [(0, vr v0), (1, vi v1), (2, vi v2), (3, vi v3), (4, vi v4)] [] h =
  (av_pI h v0 11 0 (0 : Int32)).bind fun g1 =>
  if v1 = (-1 : Int32) then
    (bd X d 317 10 [(0, vr v0), (1, vi v1), (2, vi v2), (3, vi v3), (4, vi v4)] [] g1)
  else if av_is g1 v0 11 = true then (
  (av_cI (ev X d 257 [vr v0, vi v1] g1)).bind fun q2 =>
  if q2.1 = 0 then
    (av_rL (-1 : Int64) q2.2)
  else bd X d 317 10 [(0, vr v0), (1, vi v1), (2, vi v2), (3, vi v3), (4, vi v4)] [] q2.2) else none :=
  (av_bd_eq av_Sg p_317 _ _ _ _ _).trans rfl
set_option maxRecDepth 100000 in
theorem b_317_10 (d : Nat) (v0 : Option Nat) (v1 : Int32) (v2 : Int32) (v3 : Int32) (v4 : Int32) (h : av_H) : bd X d 317 10 [(0, vr v0), (1, vi v1), (2, vi v2), (3, vi v3), (4, vi v4)] [] h =
  (av_cI (ev X d 253 [vi v2] h)).bind fun q1 =>
  if q1.1 = 0 then
    (av_rL (-1 : Int64) q1.2)
  else (av_cI (ev X d 253 [vi v3] q1.2)).bind fun q2 =>
  if q2.1 = 0 then
    (av_rL (-1 : Int64) q2.2)
  else if v3 < v2 then
    (av_rL (-1 : Int64) q2.2)
  else (av_cI (ev X d 252 [vi v4, vi (0 : Int32), vi (4 : Int32)] q2.2)).bind fun q3 =>
  if q3.1 = 0 then
    (av_rL (-1 : Int64) q3.2)
  else bd X d 317 30 [(0, vr v0), (1, vi v1), (2, vi v2), (3, vi v3), (4, vi v4), (5, vl (0 : Int64)), (7, vi (0 : Int32))] [] q3.2 :=
  (av_bd_eq av_Sg p_317 _ _ _ _ _).trans rfl
set_option maxRecDepth 100000 in
theorem b_317_30 (d : Nat) (v0 : Option Nat) (v1 : Int32) (v2 : Int32) (v3 : Int32) (v4 : Int32) (v5 : Int64) (v7 : Int32) (h : av_H) : bd X d 317 30 [(0, vr v0), (1, vi v1), (2, vi v2), (3, vi v3), (4, vi v4), (5, vl v5), (7, vi v7)] [] h =
  (av_gI h v0 11 45).bind fun x1 =>
  if v7 < x1 then
    (if v1 = (-1 : Int32) then
      (bd X d 317 43 [(0, vr v0), (1, vi v1), (2, vi v2), (3, vi v3), (4, vi v4), (5, vl v5), (7, vi v7)] [] h)
    else (av_gR h v0 11 46).bind fun x2 =>
    (av_lI X h x2 v7).bind fun x3 =>
    if x3 = v1 then
      (bd X d 317 43 [(0, vr v0), (1, vi v1), (2, vi v2), (3, vi v3), (4, vi v4), (5, vl v5), (7, vi v7)] [] h)
    else bd X d 317 30 [(0, vr v0), (1, vi v1), (2, vi v2), (3, vi v3), (4, vi v4), (5, vl v5), (7, vi (v7 + (1 : Int32)))] [] h)
  else av_rL v5 h :=
  (av_bd_eq av_Sg p_317 _ _ _ _ _).trans rfl
set_option maxRecDepth 100000 in
theorem b_317_43 (d : Nat) (v0 : Option Nat) (v1 : Int32) (v2 : Int32) (v3 : Int32) (v4 : Int32) (v5 : Int64) (v7 : Int32) (h : av_H) : bd X d 317 43 [(0, vr v0), (1, vi v1), (2, vi v2), (3, vi v3), (4, vi v4), (5, vl v5), (7, vi v7)] [] h =
  (av_gR h v0 11 49).bind fun x1 =>
  (av_lI X h x1 v7).bind fun x2 =>
  (av_cI (ev X d 252 [vi x2, vi v2, vi v3] h)).bind fun q3 =>
  if q3.1 = 0 then
    (bd X d 317 30 [(0, vr v0), (1, vi v1), (2, vi v2), (3, vi v3), (4, vi v4), (5, vl v5), (7, vi (v7 + (1 : Int32)))] [] q3.2)
  else if v4 = 0 then
    ((av_gR q3.2 v0 11 57).bind fun x4 =>
    (av_lI X q3.2 x4 v7).bind fun x5 =>
    bd X d 317 30 [(0, vr v0), (1, vi v1), (2, vi v2), (3, vi v3), (4, vi v4), (5, vl (v5 + (x5.toInt64))), (7, vi (v7 + (1 : Int32)))] [] q3.2)
  else if v4 = (1 : Int32) then
    ((av_gR q3.2 v0 11 58).bind fun x6 =>
    (av_lI X q3.2 x6 v7).bind fun x7 =>
    bd X d 317 30 [(0, vr v0), (1, vi v1), (2, vi v2), (3, vi v3), (4, vi v4), (5, vl (v5 + (x7.toInt64))), (7, vi (v7 + (1 : Int32)))] [] q3.2)
  else if v4 = (2 : Int32) then
    ((av_gR q3.2 v0 11 51).bind fun x8 =>
    (av_lI X q3.2 x8 v7).bind fun x9 =>
    bd X d 317 30 [(0, vr v0), (1, vi v1), (2, vi v2), (3, vi v3), (4, vi v4), (5, vl (v5 + (x9.toInt64))), (7, vi (v7 + (1 : Int32)))] [] q3.2)
  else if v4 = (3 : Int32) then
    ((av_gR q3.2 v0 11 55).bind fun x10 =>
    (av_lI X q3.2 x10 v7).bind fun x11 =>
    bd X d 317 30 [(0, vr v0), (1, vi v1), (2, vi v2), (3, vi v3), (4, vi v4), (5, vl (v5 + (x11.toInt64))), (7, vi (v7 + (1 : Int32)))] [] q3.2)
  else bd X d 317 30 [(0, vr v0), (1, vi v1), (2, vi v2), (3, vi v3), (4, vi v4), (5, vl (v5 + (1 : Int64))), (7, vi (v7 + (1 : Int32)))] [] q3.2 :=
  (av_bd_eq av_Sg p_317 _ _ _ _ _).trans rfl
theorem e_317 (d : Nat) (v0 : Option Nat) (v1 : Int32) (v2 : Int32) (v3 : Int32) (v4 : Int32) (h : av_H) : ev X (d + 1) 317 [vr v0, vi v1, vi v2, vi v3, vi v4] h = bd X d 317 0 [(0, vr v0), (1, vi v1), (2, vi v2), (3, vi v3), (4, vi v4)] [] h := av_ev_eq av_Sg p_317 d _ h rfl
/-! 318 = X11_stands -/
set_option maxRecDepth 100000 in
theorem b_318_0 (d : Nat) (v0 : Option Nat) (v1 : Int32) (v2 : Int32) (h : av_H) : bd X d 318 0 [(0, vr v0), (1, vi v1), (2, vi v2)] [] h =
  (av_pI h v0 11 0 (0 : Int32)).bind fun g1 =>
  if av_is g1 v0 11 = true then (
  (av_cI (ev X d 257 [vr v0, vi v1] g1)).bind fun q2 =>
  if q2.1 = 0 then
    (av_rI (-1 : Int32) q2.2)
  else (av_cI (ev X d 252 [vi v2, vi (1 : Int32), vi (9999 : Int32)] q2.2)).bind fun q3 =>
  if q3.1 = 0 then
    (av_rI (-1 : Int32) q3.2)
  else (av_gR q3.2 v0 11 17).bind fun x4 =>
  (av_lI X q3.2 x4 v1).bind fun x5 =>
  (av_gR q3.2 v0 11 16).bind fun x6 =>
  (av_lI X q3.2 x6 v1).bind fun x7 =>
  if x7 < x5 then
    (av_rI (0 : Int32) q3.2)
  else (av_gR q3.2 v0 11 16).bind fun x8 =>
  (av_lI X q3.2 x8 v1).bind fun x9 =>
  (av_gR q3.2 v0 11 17).bind fun x10 =>
  (av_lI X q3.2 x10 v1).bind fun x11 =>
  if v2 = 0 then none else av_rI ((x9 - x11) / v2) q3.2) else none :=
  (av_bd_eq av_Sg p_318 _ _ _ _ _).trans rfl
theorem e_318 (d : Nat) (v0 : Option Nat) (v1 : Int32) (v2 : Int32) (h : av_H) : ev X (d + 1) 318 [vr v0, vi v1, vi v2] h = bd X d 318 0 [(0, vr v0), (1, vi v1), (2, vi v2)] [] h := av_ev_eq av_Sg p_318 d _ h rfl
/-! 319 = X11_want -/
set_option maxRecDepth 100000 in
theorem b_319_0 (d : Nat) (v0 : Option Nat) (v1 : Int32) (v2 : Int32) (h : av_H) : bd X d 319 0 [(0, vr v0), (1, vi v1), (2, vi v2)] [] h =
  (av_pI h v0 11 0 (0 : Int32)).bind fun g1 =>
  (av_cI (ev X d 255 [vi v1] g1)).bind fun q2 =>
  if q2.1 = 0 then
    (av_rI (-1 : Int32) q2.2)
  else (av_cI (ev X d 252 [vi v2, vi (1 : Int32), vi (99 : Int32)] q2.2)).bind fun q3 =>
  if q3.1 = 0 then
    (av_rI (-1 : Int32) q3.2)
  else (av_gI q3.2 v0 11 64).bind fun x4 =>
  if x4 = (8 : Int32) then
    (av_rI (-1 : Int32) q3.2)
  else (av_gR q3.2 v0 11 65).bind fun x5 =>
  (av_gI q3.2 v0 11 64).bind fun x6 =>
  (av_sI q3.2 x5 x6 v1).bind fun g7 =>
  (av_gR g7 v0 11 66).bind fun x8 =>
  (av_gI g7 v0 11 64).bind fun x9 =>
  (av_sI g7 x8 x9 v2).bind fun g10 =>
  (av_gI g10 v0 11 64).bind fun x11 =>
  (av_pI g10 v0 11 64 (x11 + (1 : Int32))).bind fun g12 =>
  (av_gI g12 v0 11 64).bind fun x13 =>
  av_rI (x13 - (1 : Int32)) g12 :=
  (av_bd_eq av_Sg p_319 _ _ _ _ _).trans rfl
theorem e_319 (d : Nat) (v0 : Option Nat) (v1 : Int32) (v2 : Int32) (h : av_H) : ev X (d + 1) 319 [vr v0, vi v1, vi v2] h = bd X d 319 0 [(0, vr v0), (1, vi v1), (2, vi v2)] [] h := av_ev_eq av_Sg p_319 d _ h rfl
/-! 320 = X11_chance -/
set_option maxRecDepth 100000 in
theorem b_320_0 (d : Nat) (v0 : Option Nat) (v1 : Int32) (v2 : Int32) (v3 : Int32) (h : av_H) : bd X d 320 0 [(0, vr v0), (1, vi v1), (2, vi v2), (3, vi v3)] [] h =
  (av_pI h v0 11 0 (0 : Int32)).bind fun g1 =>
  (av_cI (ev X d 252 [vi v1, vi (0 : Int32), vi (4 : Int32)] g1)).bind fun q2 =>
  if q2.1 = 0 then
    ((av_bz (0 : Int32)).bind fun w => av_rI w q2.2)
  else (av_cI (ev X d 255 [vi v2] q2.2)).bind fun q3 =>
  if q3.1 = 0 then
    ((av_bz (0 : Int32)).bind fun w => av_rI w q3.2)
  else (av_cI (ev X d 252 [vi v3, vi (0 : Int32), vi (10 : Int32)] q3.2)).bind fun q4 =>
  if q4.1 = 0 then
    ((av_bz (0 : Int32)).bind fun w => av_rI w q4.2)
  else (av_gR q4.2 v0 11 67).bind fun x5 =>
  (av_sI q4.2 x5 (((4 : Int32) * v1) + v2) v3).bind fun g6 =>
  (av_bz (1 : Int32)).bind fun w => av_rI w g6 :=
  (av_bd_eq av_Sg p_320 _ _ _ _ _).trans rfl
theorem e_320 (d : Nat) (v0 : Option Nat) (v1 : Int32) (v2 : Int32) (v3 : Int32) (h : av_H) : ev X (d + 1) 320 [vr v0, vi v1, vi v2, vi v3] h = bd X d 320 0 [(0, vr v0), (1, vi v1), (2, vi v2), (3, vi v3)] [] h := av_ev_eq av_Sg p_320 d _ h rfl
/-! 321 = X11_cap -/
set_option maxRecDepth 100000 in
theorem b_321_0 (d : Nat) (v0 : Option Nat) (v1 : Int32) (h : av_H) : bd X d 321 0 [(0, vr v0), (1, vi v1)] [] h =
  (av_pI h v0 11 0 (0 : Int32)).bind fun g1 =>
  (av_cI (ev X d 252 [vi v1, vi (1 : Int32), vi (8 : Int32)] g1)).bind fun q2 =>
  if q2.1 = 0 then
    ((av_bz (0 : Int32)).bind fun w => av_rI w q2.2)
  else (av_pI q2.2 v0 11 68 v1).bind fun g3 =>
  (av_bz (1 : Int32)).bind fun w => av_rI w g3 :=
  (av_bd_eq av_Sg p_321 _ _ _ _ _).trans rfl
theorem e_321 (d : Nat) (v0 : Option Nat) (v1 : Int32) (h : av_H) : ev X (d + 1) 321 [vr v0, vi v1] h = bd X d 321 0 [(0, vr v0), (1, vi v1)] [] h := av_ev_eq av_Sg p_321 d _ h rfl
/-! 322 = X11_leftBehind -/
set_option maxRecDepth 100000 in
theorem b_322_0 (d : Nat) (v0 : Option Nat) (v1 : Int32) (v2 : Int32) (h : av_H) : bd X d 322 0 [(0, vr v0), (1, vi v1), (2, vi v2)] [] h =
  bd X d 322 4 [(0, vr v0), (2, vi v2), (3, vi v1), (4, vi (0 : Int32))] [] h :=
  (av_bd_eq av_Sg p_322 _ _ _ _ _).trans rfl
set_option maxRecDepth 100000 in
theorem b_322_4 (d : Nat) (v0 : Option Nat) (v2 : Int32) (v3 : Int32) (v4 : Int32) (h : av_H) : bd X d 322 4 [(0, vr v0), (2, vi v2), (3, vi v3), (4, vi v4)] [] h =
  (av_gI h v0 11 68).bind fun x1 =>
  if v4 < x1 then
    (bd X d 322 12 [(0, vr v0), (2, vi v2), (3, vi v3), (4, vi v4), (5, vi (-1 : Int32)), (6, vi (0 : Int32))] [] h)
  else av_rI v3 h :=
  (av_bd_eq av_Sg p_322 _ _ _ _ _).trans rfl
set_option maxRecDepth 100000 in
theorem b_322_12 (d : Nat) (v0 : Option Nat) (v2 : Int32) (v3 : Int32) (v4 : Int32) (v5 : Int32) (v6 : Int32) (h : av_H) : bd X d 322 12 [(0, vr v0), (2, vi v2), (3, vi v3), (4, vi v4), (5, vi v5), (6, vi v6)] [] h =
  (av_gI h v0 11 64).bind fun x1 =>
  if v6 < x1 then
    (if ((v3 >>> (v6 &&& 31)) &&& (1 : Int32)) = (1 : Int32) then
      ((av_gR h v0 11 65).bind fun x2 =>
      (av_lI X h x2 v6).bind fun x3 =>
      if x3 = v2 then
        (bd X d 322 32 [(0, vr v0), (2, vi v2), (3, vi v3), (4, vi v4), (5, vi v5), (6, vi v6)] [vi (1 : Int32)] h)
      else bd X d 322 31 [(0, vr v0), (2, vi v2), (3, vi v3), (4, vi v4), (5, vi v5), (6, vi v6)] [] h)
    else bd X d 322 31 [(0, vr v0), (2, vi v2), (3, vi v3), (4, vi v4), (5, vi v5), (6, vi v6)] [] h)
  else if v5 < 0 then
    (bd X d 322 4 [(0, vr v0), (2, vi v2), (3, vi (v3 &&& v3)), (4, vi (v4 + (1 : Int32)))] [] h)
  else bd X d 322 4 [(0, vr v0), (2, vi v2), (3, vi (v3 &&& (((1 : Int32) <<< (v5 &&& 31)) ^^^ (-1 : Int32)))), (4, vi (v4 + (1 : Int32)))] [] h :=
  (av_bd_eq av_Sg p_322 _ _ _ _ _).trans rfl
set_option maxRecDepth 100000 in
theorem b_322_31 (d : Nat) (v0 : Option Nat) (v2 : Int32) (v3 : Int32) (v4 : Int32) (v5 : Int32) (v6 : Int32) (h : av_H) : bd X d 322 31 [(0, vr v0), (2, vi v2), (3, vi v3), (4, vi v4), (5, vi v5), (6, vi v6)] [] h =
  bd X d 322 32 [(0, vr v0), (2, vi v2), (3, vi v3), (4, vi v4), (5, vi v5), (6, vi v6)] [vi (0 : Int32)] h :=
  (av_bd_eq av_Sg p_322 _ _ _ _ _).trans rfl
set_option maxRecDepth 100000 in
theorem b_322_32 (d : Nat) (v0 : Option Nat) (v2 : Int32) (v3 : Int32) (v4 : Int32) (v5 : Int32) (v6 : Int32) (s0 : Int32) (h : av_H) : bd X d 322 32 [(0, vr v0), (2, vi v2), (3, vi v3), (4, vi v4), (5, vi v5), (6, vi v6)] [vi s0] h =
  if s0 = 0 then
    (bd X d 322 12 [(0, vr v0), (2, vi v2), (3, vi v3), (4, vi v4), (5, vi v5), (6, vi (v6 + (1 : Int32)))] [] h)
  else if v5 < 0 then
    (bd X d 322 12 [(0, vr v0), (2, vi v2), (3, vi v3), (4, vi v4), (5, vi v6), (6, vi (v6 + (1 : Int32)))] [] h)
  else (av_gR h v0 11 66).bind fun x1 =>
  (av_lI X h x1 v6).bind fun x2 =>
  (av_gR h v0 11 66).bind fun x3 =>
  (av_lI X h x3 v5).bind fun x4 =>
  if x4 < x2 then
    (bd X d 322 12 [(0, vr v0), (2, vi v2), (3, vi v3), (4, vi v4), (5, vi v6), (6, vi (v6 + (1 : Int32)))] [] h)
  else bd X d 322 12 [(0, vr v0), (2, vi v2), (3, vi v3), (4, vi v4), (5, vi v5), (6, vi (v6 + (1 : Int32)))] [] h :=
  (av_bd_eq av_Sg p_322 _ _ _ _ _).trans rfl
theorem e_322 (d : Nat) (v0 : Option Nat) (v1 : Int32) (v2 : Int32) (h : av_H) : ev X (d + 1) 322 [vr v0, vi v1, vi v2] h = bd X d 322 0 [(0, vr v0), (1, vi v1), (2, vi v2)] [] h := av_ev_eq av_Sg p_322 d _ h rfl
/-! 323 = X11_worthOf -/
set_option maxRecDepth 100000 in
theorem b_323_0 (d : Nat) (v0 : Option Nat) (v1 : Int32) (h : av_H) : bd X d 323 0 [(0, vr v0), (1, vi v1)] [] h =
  bd X d 323 4 [(0, vr v0), (1, vi v1), (2, vl (0 : Int64)), (4, vi (0 : Int32))] [] h :=
  (av_bd_eq av_Sg p_323 _ _ _ _ _).trans rfl
set_option maxRecDepth 100000 in
theorem b_323_4 (d : Nat) (v0 : Option Nat) (v1 : Int32) (v2 : Int64) (v4 : Int32) (h : av_H) : bd X d 323 4 [(0, vr v0), (1, vi v1), (2, vl v2), (4, vi v4)] [] h =
  (av_gI h v0 11 64).bind fun x1 =>
  if v4 < x1 then
    (if ((v1 >>> (v4 &&& 31)) &&& (1 : Int32)) = (1 : Int32) then
      ((av_gR h v0 11 66).bind fun x2 =>
      (av_lI X h x2 v4).bind fun x3 =>
      bd X d 323 4 [(0, vr v0), (1, vi v1), (2, vl (v2 + (x3.toInt64))), (4, vi (v4 + (1 : Int32)))] [] h)
    else bd X d 323 4 [(0, vr v0), (1, vi v1), (2, vl (v2 + (0 : Int64))), (4, vi (v4 + (1 : Int32)))] [] h)
  else av_rL v2 h :=
  (av_bd_eq av_Sg p_323 _ _ _ _ _).trans rfl
theorem e_323 (d : Nat) (v0 : Option Nat) (v1 : Int32) (h : av_H) : ev X (d + 1) 323 [vr v0, vi v1] h = bd X d 323 0 [(0, vr v0), (1, vi v1)] [] h := av_ev_eq av_Sg p_323 d _ h rfl
/-! 324 = X11_tens -/
set_option maxRecDepth 100000 in
theorem b_324_0 (d : Nat) (v0 : Int32) (h : av_H) : bd X d 324 0 [(0, vi v0)] [] h =
  bd X d 324 4 [(0, vi v0), (1, vl (1 : Int64)), (3, vi (0 : Int32))] [] h :=
  (av_bd_eq av_Sg p_324 _ _ _ _ _).trans rfl
set_option maxRecDepth 100000 in
theorem b_324_4 (d : Nat) (v0 : Int32) (v1 : Int64) (v3 : Int32) (h : av_H) : bd X d 324 4 [(0, vi v0), (1, vl v1), (3, vi v3)] [] h =
  if v3 < v0 then
    (bd X d 324 4 [(0, vi v0), (1, vl (v1 * (10 : Int64))), (3, vi (v3 + (1 : Int32)))] [] h)
  else av_rL v1 h :=
  (av_bd_eq av_Sg p_324 _ _ _ _ _).trans rfl
theorem e_324 (d : Nat) (v0 : Int32) (h : av_H) : ev X (d + 1) 324 [vi v0] h = bd X d 324 0 [(0, vi v0)] [] h := av_ev_eq av_Sg p_324 d _ h rfl
/-! 325 = X11_dayBy -/
set_option maxRecDepth 100000 in
theorem b_325_0 (d : Nat) (v0 : Option Nat) (v1 : Int32) (v2 : Int32) (v3 : Int32) (h : av_H) : bd X d 325 0 [(0, vr v0), (1, vi v1), (2, vi v2), (3, vi v3)] [] h =
  (av_gR h v0 11 69).bind fun x1 =>
  (av_lL h x1 (((256 : Int32) * (v1 + (1 : Int32))) + v2)).bind fun x2 =>
  if v3 = (4 : Int32) then
    (av_rL ((10 : Int64) * x2) h)
  else if av_is h v0 11 = true then (
  (av_cI (ev X d 322 [vr v0, vi v2, vi v3] h)).bind fun q3 =>
  if av_is q3.2 v0 11 = true then (
  (av_cL (ev X d 323 [vr v0, vi (v2 &&& (q3.1 ^^^ (-1 : Int32)))] q3.2)).bind fun q4 =>
  (av_cL (ev X d 324 [vi ((4 : Int32) - v1)] q4.2)).bind fun q5 =>
  (av_gR q5.2 v0 11 69).bind fun x6 =>
  (av_lL q5.2 x6 (((256 : Int32) * (v1 + (1 : Int32))) + q3.1)).bind fun x7 =>
  (av_gR q5.2 v0 11 67).bind fun x8 =>
  (av_lI X q5.2 x8 (((4 : Int32) * v1) + v3)).bind fun x9 =>
  av_rL (((x9.toInt64) * ((q4.1 * q5.1) + x7)) + ((((10 : Int32) - x9).toInt64) * x2)) q5.2) else none) else none :=
  (av_bd_eq av_Sg p_325 _ _ _ _ _).trans rfl
theorem e_325 (d : Nat) (v0 : Option Nat) (v1 : Int32) (v2 : Int32) (v3 : Int32) (h : av_H) : ev X (d + 1) 325 [vr v0, vi v1, vi v2, vi v3] h = bd X d 325 0 [(0, vr v0), (1, vi v1), (2, vi v2), (3, vi v3)] [] h := av_ev_eq av_Sg p_325 d _ h rfl
/-! 326 = X11_findPlans -/
set_option maxRecDepth 100000 in
theorem b_326_0 (d : Nat) (v0 : Option Nat) (h : av_H) : bd X d 326 0 [(0, vr v0)] [] h =
  bd X d 326 2 [(0, vr v0), (1, vi (0 : Int32))] [] h :=
  (av_bd_eq av_Sg p_326 _ _ _ _ _).trans rfl
set_option maxRecDepth 100000 in
theorem b_326_2 (d : Nat) (v0 : Option Nat) (v1 : Int32) (h : av_H) : bd X d 326 2 [(0, vr v0), (1, vi v1)] [] h =
  if v1 < (256 : Int32) then
    ((av_gR h v0 11 69).bind fun x1 =>
    (av_sL h x1 ((1280 : Int32) + v1) (0 : Int64)).bind fun g2 =>
    bd X d 326 2 [(0, vr v0), (1, vi (v1 + (1 : Int32)))] [] g2)
  else bd X d 326 16 [(0, vr v0), (1, vi (4 : Int32))] [] h :=
  (av_bd_eq av_Sg p_326 _ _ _ _ _).trans rfl
set_option maxRecDepth 100000 in
theorem b_326_16 (d : Nat) (v0 : Option Nat) (v1 : Int32) (h : av_H) : bd X d 326 16 [(0, vr v0), (1, vi v1)] [] h =
  if v1 < 0 then
    (av_rV h)
  else bd X d 326 20 [(0, vr v0), (1, vi v1), (2, vi (0 : Int32))] [] h :=
  (av_bd_eq av_Sg p_326 _ _ _ _ _).trans rfl
set_option maxRecDepth 100000 in
theorem b_326_20 (d : Nat) (v0 : Option Nat) (v1 : Int32) (v2 : Int32) (h : av_H) : bd X d 326 20 [(0, vr v0), (1, vi v1), (2, vi v2)] [] h =
  (av_gI h v0 11 64).bind fun x1 =>
  if v2 < ((1 : Int32) <<< (x1 &&& 31)) then
    (if av_is h v0 11 = true then (
    (av_cL (ev X d 325 [vr v0, vi v1, vi v2, vi (4 : Int32)] h)).bind fun q2 =>
    bd X d 326 34 [(0, vr v0), (1, vi v1), (2, vi v2), (3, vl (q2.1)), (5, vi (0 : Int32))] [] q2.2) else none)
  else bd X d 326 16 [(0, vr v0), (1, vi (v1 + (-1 : Int32)))] [] h :=
  (av_bd_eq av_Sg p_326 _ _ _ _ _).trans rfl
set_option maxRecDepth 100000 in
theorem b_326_34 (d : Nat) (v0 : Option Nat) (v1 : Int32) (v2 : Int32) (v3 : Int64) (v5 : Int32) (h : av_H) : bd X d 326 34 [(0, vr v0), (1, vi v1), (2, vi v2), (3, vl v3), (5, vi v5)] [] h =
  if v5 < (4 : Int32) then
    (if av_is h v0 11 = true then (
    (av_cL (ev X d 325 [vr v0, vi v1, vi v2, vi v5] h)).bind fun q1 =>
    if 0 < (lg_cmp q1.1 v3) then
      (if av_is q1.2 v0 11 = true then (
      (av_cL (ev X d 325 [vr v0, vi v1, vi v2, vi v5] q1.2)).bind fun q2 =>
      bd X d 326 34 [(0, vr v0), (1, vi v1), (2, vi v2), (3, vl (q2.1)), (5, vi (v5 + (1 : Int32)))] [] q2.2) else none)
    else bd X d 326 34 [(0, vr v0), (1, vi v1), (2, vi v2), (3, vl v3), (5, vi (v5 + (1 : Int32)))] [] q1.2) else none)
  else (av_gR h v0 11 69).bind fun x3 =>
  (av_sL h x3 (((256 : Int32) * v1) + v2) v3).bind fun g4 =>
  bd X d 326 20 [(0, vr v0), (1, vi v1), (2, vi (v2 + (1 : Int32)))] [] g4 :=
  (av_bd_eq av_Sg p_326 _ _ _ _ _).trans rfl
theorem e_326 (d : Nat) (v0 : Option Nat) (h : av_H) : ev X (d + 1) 326 [vr v0] h = bd X d 326 0 [(0, vr v0)] [] h := av_ev_eq av_Sg p_326 d _ h rfl
/-! 327 = X11_common -/
set_option maxRecDepth 100000 in
theorem b_327_0 (d : Nat) (v0 : Int64) (v2 : Int64) (h : av_H) : bd X d 327 0 [(0, vl v0), (2, vl v2)] [] h =
  bd X d 327 4 [(4, vl v0), (6, vl v2)] [] h :=
  (av_bd_eq av_Sg p_327 _ _ _ _ _).trans rfl
set_option maxRecDepth 100000 in
theorem b_327_4 (d : Nat) (v4 : Int64) (v6 : Int64) (h : av_H) : bd X d 327 4 [(4, vl v4), (6, vl v6)] [] h =
  if (lg_cmp v6 (0 : Int64)) = 0 then
    (av_rL v4 h)
  else if v6 = 0 then none else bd X d 327 4 [(4, vl v6), (6, vl (v4 - v4 / v6 * v6))] [] h :=
  (av_bd_eq av_Sg p_327 _ _ _ _ _).trans rfl
theorem e_327 (d : Nat) (v0 : Int64) (v2 : Int64) (h : av_H) : ev X (d + 1) 327 [vl v0, vl v2] h = bd X d 327 0 [(0, vl v0), (2, vl v2)] [] h := av_ev_eq av_Sg p_327 d _ h rfl
/-! 328 = X11_lowest -/
set_option maxRecDepth 100000 in
theorem b_328_0 (d : Nat) (v0 : Int64) (v2 : Int64) (v4 : Int32) (h : av_H) : bd X d 328 0 [(0, vl v0), (2, vl v2), (4, vi v4)] [] h =
  (av_cL (ev X d 327 [vl v0, vl v2] h)).bind fun q1 =>
  if v4 = 0 then
    (if q1.1 = 0 then none else av_rL (v0 / q1.1) q1.2)
  else if q1.1 = 0 then none else av_rL (v2 / q1.1) q1.2 :=
  (av_bd_eq av_Sg p_328 _ _ _ _ _).trans rfl
theorem e_328 (d : Nat) (v0 : Int64) (v2 : Int64) (v4 : Int32) (h : av_H) : ev X (d + 1) 328 [vl v0, vl v2, vi v4] h = bd X d 328 0 [(0, vl v0), (2, vl v2), (4, vi v4)] [] h := av_ev_eq av_Sg p_328 d _ h rfl
/-! 329 = X11_plan -/
set_option maxRecDepth 100000 in
theorem b_329_0 (d : Nat) (v0 : Option Nat) (v1 : Int32) (v2 : Int32) (v3 : Int32) (h : av_H) : bd X d 329 0 [(0, vr v0), (1, vi v1), (2, vi v2), (3, vi v3)] [] h =
  (av_cI (ev X d 252 [vi v1, vi (0 : Int32), vi (4 : Int32)] h)).bind fun q1 =>
  if q1.1 = 0 then
    (bd X d 329 21 [(0, vr v0), (1, vi v1), (2, vi v2), (3, vi v3)] [vr v0] q1.2)
  else if v2 < 0 then
    (bd X d 329 21 [(0, vr v0), (1, vi v1), (2, vi v2), (3, vi v3)] [vr v0] q1.2)
  else (av_gI q1.2 v0 11 64).bind fun x2 =>
  if v2 < ((1 : Int32) <<< (x2 &&& 31)) then
    ((av_cI (ev X d 252 [vi v3, vi (0 : Int32), vi (2 : Int32)] q1.2)).bind fun q3 =>
    if q3.1 = 0 then
      (bd X d 329 21 [(0, vr v0), (1, vi v1), (2, vi v2), (3, vi v3)] [vr v0] q3.2)
    else bd X d 329 22 [(0, vr v0), (1, vi v1), (2, vi v2), (3, vi v3)] [vi (0 : Int32), vr v0] q3.2)
  else bd X d 329 21 [(0, vr v0), (1, vi v1), (2, vi v2), (3, vi v3)] [vr v0] q1.2 :=
  (av_bd_eq av_Sg p_329 _ _ _ _ _).trans rfl
set_option maxRecDepth 100000 in
theorem b_329_21 (d : Nat) (v0 : Option Nat) (v1 : Int32) (v2 : Int32) (v3 : Int32) (s0 : Option Nat) (h : av_H) : bd X d 329 21 [(0, vr v0), (1, vi v1), (2, vi v2), (3, vi v3)] [vr s0] h =
  bd X d 329 22 [(0, vr v0), (1, vi v1), (2, vi v2), (3, vi v3)] [vi (1 : Int32), vr s0] h :=
  (av_bd_eq av_Sg p_329 _ _ _ _ _).trans rfl
set_option maxRecDepth 100000 in
theorem b_329_22 (d : Nat) (v0 : Option Nat) (v1 : Int32) (v2 : Int32) (v3 : Int32) (s0 : Option Nat) (s1 : Int32) (h : av_H) : bd X d 329 22 [(0, vr v0), (1, vi v1), (2, vi v2), (3, vi v3)] [vi s1, vr s0] h =
  (av_pI h s0 11 0 s1).bind fun g1 =>
  (av_gI g1 v0 11 0).bind fun x2 =>
  if 0 < x2 then
    (av_rL (0 : Int64) g1)
  else if av_is g1 v0 11 = true then (
  (av_cV (ev X d 326 [vr v0] g1)).bind fun q3 =>
  if v3 < (2 : Int32) then
    ((av_gR q3 v0 11 69).bind fun x4 =>
    (av_lL q3 x4 (((256 : Int32) * v1) + v2)).bind fun x5 =>
    (av_cL (ev X d 324 [vi ((5 : Int32) - v1)] q3)).bind fun q6 =>
    (av_cL (ev X d 328 [vl x5, vl (q6.1), vi v3] q6.2)).bind fun q7 =>
    av_rL q7.1 q7.2)
  else bd X d 329 50 [(0, vr v0), (1, vi v1), (2, vi v2), (4, vi (0 : Int32))] [] q3) else none :=
  (av_bd_eq av_Sg p_329 _ _ _ _ _).trans rfl
set_option maxRecDepth 100000 in
theorem b_329_50 (d : Nat) (v0 : Option Nat) (v1 : Int32) (v2 : Int32) (v4 : Int32) (h : av_H) : bd X d 329 50 [(0, vr v0), (1, vi v1), (2, vi v2), (4, vi v4)] [] h =
  if v4 < (4 : Int32) then
    (if av_is h v0 11 = true then (
    (av_cL (ev X d 325 [vr v0, vi v1, vi v2, vi v4] h)).bind fun q1 =>
    (av_gR q1.2 v0 11 69).bind fun x2 =>
    (av_lL q1.2 x2 (((256 : Int32) * v1) + v2)).bind fun x3 =>
    if (lg_cmp q1.1 x3) = 0 then
      (if av_is q1.2 v0 11 = true then (
      (av_cL (ev X d 325 [vr v0, vi v1, vi v2, vi v4] q1.2)).bind fun q4 =>
      if av_is q4.2 v0 11 = true then (
      (av_cL (ev X d 325 [vr v0, vi v1, vi v2, vi (4 : Int32)] q4.2)).bind fun q5 =>
      if 0 < (lg_cmp q4.1 q5.1) then
        (av_rL (v4.toInt64) q5.2)
      else bd X d 329 50 [(0, vr v0), (1, vi v1), (2, vi v2), (4, vi (v4 + (1 : Int32)))] [] q5.2) else none) else none)
    else bd X d 329 50 [(0, vr v0), (1, vi v1), (2, vi v2), (4, vi (v4 + (1 : Int32)))] [] q1.2) else none)
  else av_rL (-1 : Int64) h :=
  (av_bd_eq av_Sg p_329 _ _ _ _ _).trans rfl
theorem e_329 (d : Nat) (v0 : Option Nat) (v1 : Int32) (v2 : Int32) (v3 : Int32) (h : av_H) : ev X (d + 1) 329 [vr v0, vi v1, vi v2, vi v3] h = bd X d 329 0 [(0, vr v0), (1, vi v1), (2, vi v2), (3, vi v3)] [] h := av_ev_eq av_Sg p_329 d _ h rfl
/-! 330 = X11_rowFrom -/
set_option maxRecDepth 100000 in
theorem b_330_0 (d : Nat) (v0 : Option Nat) (v1 : Int32) (v2 : Int32) (v3 : Int32) (h : av_H) : bd X d 330 0 [(0, vr v0), (1, vi v1), (2, vi v2), (3, vi v3)] [] h =
  if v2 = (5 : Int32) then
    (av_rL (0 : Int64) h)
  else (av_cI (ev X d 331 [vi v1, vi v2] h)).bind fun q1 =>
  if av_is q1.2 v0 11 = true then (
  (av_cL (ev X d 330 [vr v0, vi v1, vi (v2 + (1 : Int32)), vi v3] q1.2)).bind fun q2 =>
  if q1.1 = (4 : Int32) then
    (av_rL ((10 : Int64) * q2.1) q2.2)
  else if av_is q2.2 v0 11 = true then (
  (av_cI (ev X d 322 [vr v0, vi v3, vi (q1.1)] q2.2)).bind fun q3 =>
  (av_gR q3.2 v0 11 67).bind fun x4 =>
  (av_lI X q3.2 x4 (((4 : Int32) * v2) + q1.1)).bind fun x5 =>
  if av_is q3.2 v0 11 = true then (
  (av_cL (ev X d 323 [vr v0, vi (v3 &&& (q3.1 ^^^ (-1 : Int32)))] q3.2)).bind fun q6 =>
  (av_cL (ev X d 324 [vi ((4 : Int32) - v2)] q6.2)).bind fun q7 =>
  if av_is q7.2 v0 11 = true then (
  (av_cL (ev X d 330 [vr v0, vi v1, vi (v2 + (1 : Int32)), vi (q3.1)] q7.2)).bind fun q8 =>
  av_rL (((x5.toInt64) * ((q6.1 * q7.1) + q8.1)) + ((((10 : Int32) - x5).toInt64) * q2.1)) q8.2) else none) else none) else none) else none :=
  (av_bd_eq av_Sg p_330 _ _ _ _ _).trans rfl
theorem e_330 (d : Nat) (v0 : Option Nat) (v1 : Int32) (v2 : Int32) (v3 : Int32) (h : av_H) : ev X (d + 1) 330 [vr v0, vi v1, vi v2, vi v3] h = bd X d 330 0 [(0, vr v0), (1, vi v1), (2, vi v2), (3, vi v3)] [] h := av_ev_eq av_Sg p_330 d _ h rfl
/-! 331 = X11_digit -/
set_option maxRecDepth 100000 in
theorem b_331_0 (d : Nat) (v0 : Int32) (v1 : Int32) (h : av_H) : bd X d 331 0 [(0, vi v0), (1, vi v1)] [] h =
  bd X d 331 4 [(2, vi v0), (3, vi v1)] [] h :=
  (av_bd_eq av_Sg p_331 _ _ _ _ _).trans rfl
set_option maxRecDepth 100000 in
theorem b_331_4 (d : Nat) (v2 : Int32) (v3 : Int32) (h : av_H) : bd X d 331 4 [(2, vi v2), (3, vi v3)] [] h =
  if v3 < (4 : Int32) then
    (if (5 : Int32) = 0 then none else bd X d 331 4 [(2, vi (v2 / (5 : Int32))), (3, vi (v3 + (1 : Int32)))] [] h)
  else if (5 : Int32) = 0 then none else av_rI (v2 - v2 / (5 : Int32) * (5 : Int32)) h :=
  (av_bd_eq av_Sg p_331 _ _ _ _ _).trans rfl
theorem e_331 (d : Nat) (v0 : Int32) (v1 : Int32) (h : av_H) : ev X (d + 1) 331 [vi v0, vi v1] h = bd X d 331 0 [(0, vi v0), (1, vi v1)] [] h := av_ev_eq av_Sg p_331 d _ h rfl
/-! 332 = X11_fixed -/
set_option maxRecDepth 100000 in
theorem b_332_0 (d : Nat) (v0 : Option Nat) (v1 : Int32) (h : av_H) : bd X d 332 0 [(0, vr v0), (1, vi v1)] [] h =
  (av_cI (ev X d 252 [vi v1, vi (0 : Int32), vi (6 : Int32)] h)).bind fun q1 =>
  if q1.1 = 0 then
    (bd X d 332 9 [(0, vr v0), (1, vi v1)] [vi (1 : Int32), vr v0] q1.2)
  else bd X d 332 9 [(0, vr v0), (1, vi v1)] [vi (0 : Int32), vr v0] q1.2 :=
  (av_bd_eq av_Sg p_332 _ _ _ _ _).trans rfl
set_option maxRecDepth 100000 in
theorem b_332_9 (d : Nat) (v0 : Option Nat) (v1 : Int32) (s0 : Option Nat) (s1 : Int32) (h : av_H) : bd X d 332 9 [(0, vr v0), (1, vi v1)] [vi s1, vr s0] h =
  (av_pI h s0 11 0 s1).bind fun g1 =>
  (av_gI g1 v0 11 0).bind fun x2 =>
  if 0 < x2 then
    (av_rL (0 : Int64) g1)
  else bd X d 332 21 [(0, vr v0), (1, vi v1), (2, vi (0 : Int32)), (3, vl (-1 : Int64)), (5, vi (0 : Int32))] [] g1 :=
  (av_bd_eq av_Sg p_332 _ _ _ _ _).trans rfl
set_option maxRecDepth 100000 in
theorem b_332_21 (d : Nat) (v0 : Option Nat) (v1 : Int32) (v2 : Int32) (v3 : Int64) (v5 : Int32) (h : av_H) : bd X d 332 21 [(0, vr v0), (1, vi v1), (2, vi v2), (3, vl v3), (5, vi v5)] [] h =
  if v5 < (3125 : Int32) then
    ((av_gI h v0 11 64).bind fun x1 =>
    if av_is h v0 11 = true then (
    (av_cL (ev X d 330 [vr v0, vi v5, vi (0 : Int32), vi (((1 : Int32) <<< (x1 &&& 31)) - (1 : Int32))] h)).bind fun q2 =>
    if 0 < (lg_cmp q2.1 v3) then
      (bd X d 332 21 [(0, vr v0), (1, vi v1), (2, vi v5), (3, vl (q2.1)), (5, vi (v5 + (1 : Int32)))] [] q2.2)
    else bd X d 332 21 [(0, vr v0), (1, vi v1), (2, vi v2), (3, vl v3), (5, vi (v5 + (1 : Int32)))] [] q2.2) else none)
  else if v1 < (2 : Int32) then
    ((av_cL (ev X d 328 [vl v3, vl (100000 : Int64), vi v1] h)).bind fun q3 =>
    av_rL q3.1 q3.2)
  else (av_cI (ev X d 331 [vi v2, vi (v1 - (2 : Int32))] h)).bind fun q4 =>
  if q4.1 = (4 : Int32) then
    (av_rL (-1 : Int64) q4.2)
  else av_rL (q4.1.toInt64) q4.2 :=
  (av_bd_eq av_Sg p_332 _ _ _ _ _).trans rfl
theorem e_332 (d : Nat) (v0 : Option Nat) (v1 : Int32) (h : av_H) : ev X (d + 1) 332 [vr v0, vi v1] h = bd X d 332 0 [(0, vr v0), (1, vi v1)] [] h := av_ev_eq av_Sg p_332 d _ h rfl
/-! 333 = X11_match -/
set_option maxRecDepth 100000 in
theorem b_333_0 (d : Nat) (v0 : Option Nat) (v1 : Int32) (v2 : Int32) (v3 : Int32) (h : av_H) : bd X d 333 0 [(0, vr v0), (1, vi v1), (2, vi v2), (3, vi v3)] [] h =
  (av_pI h v0 11 0 (0 : Int32)).bind fun g1 =>
  (av_cI (ev X d 256 [vi v1] g1)).bind fun q2 =>
  if q2.1 = 0 then
    ((av_bz (0 : Int32)).bind fun w => av_rI w q2.2)
  else (av_cI (ev X d 256 [vi v2] q2.2)).bind fun q3 =>
  if q3.1 = 0 then
    ((av_bz (0 : Int32)).bind fun w => av_rI w q3.2)
  else if v1 = v2 then
    ((av_bz (0 : Int32)).bind fun w => av_rI w q3.2)
  else (av_cI (ev X d 252 [vi v3, vi (0 : Int32), vi (99 : Int32)] q3.2)).bind fun q4 =>
  if q4.1 = 0 then
    ((av_bz (0 : Int32)).bind fun w => av_rI w q4.2)
  else (av_gR q4.2 v0 11 70).bind fun x5 =>
  (av_sI q4.2 x5 (((10 : Int32) * v1) + v2) v3).bind fun g6 =>
  (av_gR g6 v0 11 70).bind fun x7 =>
  (av_sI g6 x7 (((10 : Int32) * v2) + v1) v3).bind fun g8 =>
  (av_bz (1 : Int32)).bind fun w => av_rI w g8 :=
  (av_bd_eq av_Sg p_333 _ _ _ _ _).trans rfl
theorem e_333 (d : Nat) (v0 : Option Nat) (v1 : Int32) (v2 : Int32) (v3 : Int32) (h : av_H) : ev X (d + 1) 333 [vr v0, vi v1, vi v2, vi v3] h = bd X d 333 0 [(0, vr v0), (1, vi v1), (2, vi v2), (3, vi v3)] [] h := av_ev_eq av_Sg p_333 d _ h rfl
/-! 334 = X11_findGangs -/
set_option maxRecDepth 100000 in
theorem b_334_0 (d : Nat) (v0 : Option Nat) (h : av_H) : bd X d 334 0 [(0, vr v0)] [] h =
  bd X d 334 2 [(0, vr v0), (1, vi (0 : Int32))] [] h :=
  (av_bd_eq av_Sg p_334 _ _ _ _ _).trans rfl
set_option maxRecDepth 100000 in
theorem b_334_2 (d : Nat) (v0 : Option Nat) (v1 : Int32) (h : av_H) : bd X d 334 2 [(0, vr v0), (1, vi v1)] [] h =
  if v1 < (1024 : Int32) then
    ((av_gR h v0 11 71).bind fun x1 =>
    (av_sI h x1 ((10240 : Int32) + v1) (0 : Int32)).bind fun g2 =>
    (av_gR g2 v0 11 72).bind fun x3 =>
    (av_sI g2 x3 ((10240 : Int32) + v1) (0 : Int32)).bind fun g4 =>
    bd X d 334 2 [(0, vr v0), (1, vi (v1 + (1 : Int32)))] [] g4)
  else bd X d 334 23 [(0, vr v0), (1, vi (9 : Int32))] [] h :=
  (av_bd_eq av_Sg p_334 _ _ _ _ _).trans rfl
set_option maxRecDepth 100000 in
theorem b_334_23 (d : Nat) (v0 : Option Nat) (v1 : Int32) (h : av_H) : bd X d 334 23 [(0, vr v0), (1, vi v1)] [] h =
  if v1 < 0 then
    (av_rV h)
  else bd X d 334 27 [(0, vr v0), (1, vi v1), (2, vi (0 : Int32))] [] h :=
  (av_bd_eq av_Sg p_334 _ _ _ _ _).trans rfl
set_option maxRecDepth 100000 in
theorem b_334_27 (d : Nat) (v0 : Option Nat) (v1 : Int32) (v2 : Int32) (h : av_H) : bd X d 334 27 [(0, vr v0), (1, vi v1), (2, vi v2)] [] h =
  if v2 < (1024 : Int32) then
    ((av_gR h v0 11 71).bind fun x1 =>
    (av_gR h v0 11 71).bind fun x2 =>
    (av_lI X h x2 ((((1024 : Int32) * v1) + v2) + (1024 : Int32))).bind fun x3 =>
    (av_sI h x1 (((1024 : Int32) * v1) + v2) x3).bind fun g4 =>
    (av_gR g4 v0 11 72).bind fun x5 =>
    (av_gR g4 v0 11 72).bind fun x6 =>
    (av_lI X g4 x6 ((((1024 : Int32) * v1) + v2) + (1024 : Int32))).bind fun x7 =>
    (av_sI g4 x5 (((1024 : Int32) * v1) + v2) x7).bind fun g8 =>
    bd X d 334 58 [(0, vr v0), (1, vi v1), (2, vi v2), (3, vi (((1024 : Int32) * v1) + v2)), (4, vi (0 : Int32))] [] g8)
  else bd X d 334 23 [(0, vr v0), (1, vi (v1 + (-1 : Int32)))] [] h :=
  (av_bd_eq av_Sg p_334 _ _ _ _ _).trans rfl
set_option maxRecDepth 100000 in
theorem b_334_58 (d : Nat) (v0 : Option Nat) (v1 : Int32) (v2 : Int32) (v3 : Int32) (v4 : Int32) (h : av_H) : bd X d 334 58 [(0, vr v0), (1, vi v1), (2, vi v2), (3, vi v3), (4, vi v4)] [] h =
  if v4 < (10 : Int32) then
    ((av_gR h v0 11 28).bind fun x1 =>
    (av_lB h x1 103 v1).bind fun x2 =>
    if x2 = 0 then
      (if ((v2 >>> (v4 &&& 31)) &&& (1 : Int32)) = (1 : Int32) then
        ((av_gR h v0 11 28).bind fun x3 =>
        (av_lB h x3 103 v4).bind fun x4 =>
        if x4 = 0 then
          (bd X d 334 58 [(0, vr v0), (1, vi v1), (2, vi v2), (3, vi v3), (4, vi (v4 + (1 : Int32)))] [] h)
        else (av_gR h v0 11 72).bind fun x5 =>
        (av_lI X h x5 (((1024 : Int32) * (v1 + (1 : Int32))) + (v2 &&& (((1 : Int32) <<< (v4 &&& 31)) ^^^ (-1 : Int32))))).bind fun x6 =>
        (av_gR h v0 11 71).bind fun x7 =>
        (av_lI X h x7 (((1024 : Int32) * (v1 + (1 : Int32))) + (v2 &&& (((1 : Int32) <<< (v4 &&& 31)) ^^^ (-1 : Int32))))).bind fun x8 =>
        (av_gR h v0 11 70).bind fun x9 =>
        (av_lI X h x9 (((10 : Int32) * v1) + v4)).bind fun x10 =>
        (av_gR h v0 11 72).bind fun x11 =>
        (av_lI X h x11 v3).bind fun x12 =>
        if x12 < (x6 + (1 : Int32)) then
          ((av_gR h v0 11 72).bind fun x13 =>
          (av_sI h x13 v3 (x6 + (1 : Int32))).bind fun g14 =>
          (av_gR g14 v0 11 71).bind fun x15 =>
          (av_sI g14 x15 v3 (x8 + x10)).bind fun g16 =>
          bd X d 334 58 [(0, vr v0), (1, vi v1), (2, vi v2), (3, vi v3), (4, vi (v4 + (1 : Int32)))] [] g16)
        else (av_gR h v0 11 72).bind fun x17 =>
        (av_lI X h x17 v3).bind fun x18 =>
        if (x6 + (1 : Int32)) = x18 then
          ((av_gR h v0 11 71).bind fun x19 =>
          (av_lI X h x19 v3).bind fun x20 =>
          if x20 < (x8 + x10) then
            ((av_gR h v0 11 72).bind fun x21 =>
            (av_sI h x21 v3 (x6 + (1 : Int32))).bind fun g22 =>
            (av_gR g22 v0 11 71).bind fun x23 =>
            (av_sI g22 x23 v3 (x8 + x10)).bind fun g24 =>
            bd X d 334 58 [(0, vr v0), (1, vi v1), (2, vi v2), (3, vi v3), (4, vi (v4 + (1 : Int32)))] [] g24)
          else bd X d 334 58 [(0, vr v0), (1, vi v1), (2, vi v2), (3, vi v3), (4, vi (v4 + (1 : Int32)))] [] h)
        else bd X d 334 58 [(0, vr v0), (1, vi v1), (2, vi v2), (3, vi v3), (4, vi (v4 + (1 : Int32)))] [] h)
      else bd X d 334 58 [(0, vr v0), (1, vi v1), (2, vi v2), (3, vi v3), (4, vi (v4 + (1 : Int32)))] [] h)
    else bd X d 334 27 [(0, vr v0), (1, vi v1), (2, vi (v2 + (1 : Int32)))] [] h)
  else bd X d 334 27 [(0, vr v0), (1, vi v1), (2, vi (v2 + (1 : Int32)))] [] h :=
  (av_bd_eq av_Sg p_334 _ _ _ _ _).trans rfl
theorem e_334 (d : Nat) (v0 : Option Nat) (h : av_H) : ev X (d + 1) 334 [vr v0] h = bd X d 334 0 [(0, vr v0)] [] h := av_ev_eq av_Sg p_334 d _ h rfl
/-! 335 = X11_goesWith -/
set_option maxRecDepth 100000 in
theorem b_335_0 (d : Nat) (v0 : Option Nat) (v1 : Int32) (h : av_H) : bd X d 335 0 [(0, vr v0), (1, vi v1)] [] h =
  bd X d 335 4 [(0, vr v0), (1, vi v1), (2, vi (1023 : Int32)), (3, vi (0 : Int32))] [] h :=
  (av_bd_eq av_Sg p_335 _ _ _ _ _).trans rfl
set_option maxRecDepth 100000 in
theorem b_335_4 (d : Nat) (v0 : Option Nat) (v1 : Int32) (v2 : Int32) (v3 : Int32) (h : av_H) : bd X d 335 4 [(0, vr v0), (1, vi v1), (2, vi v2), (3, vi v3)] [] h =
  if v3 < (10 : Int32) then
    (bd X d 335 17 [(0, vr v0), (1, vi v1), (2, vi v2), (3, vi v3), (4, vi (-1 : Int32)), (5, vi (((1024 : Int32) * v3) + v2)), (6, vi (0 : Int32))] [] h)
  else av_rI (-1 : Int32) h :=
  (av_bd_eq av_Sg p_335 _ _ _ _ _).trans rfl
set_option maxRecDepth 100000 in
theorem b_335_17 (d : Nat) (v0 : Option Nat) (v1 : Int32) (v2 : Int32) (v3 : Int32) (v4 : Int32) (v5 : Int32) (v6 : Int32) (h : av_H) : bd X d 335 17 [(0, vr v0), (1, vi v1), (2, vi v2), (3, vi v3), (4, vi v4), (5, vi v5), (6, vi v6)] [] h =
  if v6 < (10 : Int32) then
    ((av_gR h v0 11 28).bind fun x1 =>
    (av_lB h x1 103 v3).bind fun x2 =>
    if x2 = 0 then
      (if v4 < 0 then
        (if ((v2 >>> (v6 &&& 31)) &&& (1 : Int32)) = (1 : Int32) then
          ((av_gR h v0 11 28).bind fun x3 =>
          (av_lB h x3 103 v6).bind fun x4 =>
          if x4 = 0 then
            (bd X d 335 17 [(0, vr v0), (1, vi v1), (2, vi v2), (3, vi v3), (4, vi v4), (5, vi v5), (6, vi (v6 + (1 : Int32)))] [] h)
          else (av_gR h v0 11 72).bind fun x5 =>
          (av_lI X h x5 (((1024 : Int32) * (v3 + (1 : Int32))) + (v2 &&& (((1 : Int32) <<< (v6 &&& 31)) ^^^ (-1 : Int32))))).bind fun x6 =>
          (av_gR h v0 11 72).bind fun x7 =>
          (av_lI X h x7 v5).bind fun x8 =>
          if (x6 + (1 : Int32)) = x8 then
            ((av_gR h v0 11 71).bind fun x9 =>
            (av_lI X h x9 (((1024 : Int32) * (v3 + (1 : Int32))) + (v2 &&& (((1 : Int32) <<< (v6 &&& 31)) ^^^ (-1 : Int32))))).bind fun x10 =>
            (av_gR h v0 11 70).bind fun x11 =>
            (av_lI X h x11 (((10 : Int32) * v3) + v6)).bind fun x12 =>
            (av_gR h v0 11 71).bind fun x13 =>
            (av_lI X h x13 v5).bind fun x14 =>
            if (x10 + x12) = x14 then
              (bd X d 335 85 [(0, vr v0), (1, vi v1), (2, vi v2), (3, vi v3), (4, vi v4), (5, vi v5), (6, vi v6)] [vi (1 : Int32)] h)
            else bd X d 335 84 [(0, vr v0), (1, vi v1), (2, vi v2), (3, vi v3), (4, vi v4), (5, vi v5), (6, vi v6)] [] h)
          else bd X d 335 84 [(0, vr v0), (1, vi v1), (2, vi v2), (3, vi v3), (4, vi v4), (5, vi v5), (6, vi v6)] [] h)
        else bd X d 335 17 [(0, vr v0), (1, vi v1), (2, vi v2), (3, vi v3), (4, vi v4), (5, vi v5), (6, vi (v6 + (1 : Int32)))] [] h)
      else bd X d 335 94 [(0, vr v0), (1, vi v1), (2, vi v2), (3, vi v3), (4, vi v4)] [] h)
    else bd X d 335 94 [(0, vr v0), (1, vi v1), (2, vi v2), (3, vi v3), (4, vi v4)] [] h)
  else bd X d 335 94 [(0, vr v0), (1, vi v1), (2, vi v2), (3, vi v3), (4, vi v4)] [] h :=
  (av_bd_eq av_Sg p_335 _ _ _ _ _).trans rfl
set_option maxRecDepth 100000 in
theorem b_335_84 (d : Nat) (v0 : Option Nat) (v1 : Int32) (v2 : Int32) (v3 : Int32) (v4 : Int32) (v5 : Int32) (v6 : Int32) (h : av_H) : bd X d 335 84 [(0, vr v0), (1, vi v1), (2, vi v2), (3, vi v3), (4, vi v4), (5, vi v5), (6, vi v6)] [] h =
  bd X d 335 85 [(0, vr v0), (1, vi v1), (2, vi v2), (3, vi v3), (4, vi v4), (5, vi v5), (6, vi v6)] [vi (0 : Int32)] h :=
  (av_bd_eq av_Sg p_335 _ _ _ _ _).trans rfl
set_option maxRecDepth 100000 in
theorem b_335_85 (d : Nat) (v0 : Option Nat) (v1 : Int32) (v2 : Int32) (v3 : Int32) (v4 : Int32) (v5 : Int32) (v6 : Int32) (s0 : Int32) (h : av_H) : bd X d 335 85 [(0, vr v0), (1, vi v1), (2, vi v2), (3, vi v3), (4, vi v4), (5, vi v5), (6, vi v6)] [vi s0] h =
  if s0 = 0 then
    (bd X d 335 17 [(0, vr v0), (1, vi v1), (2, vi v2), (3, vi v3), (4, vi v4), (5, vi v5), (6, vi (v6 + (1 : Int32)))] [] h)
  else bd X d 335 17 [(0, vr v0), (1, vi v1), (2, vi v2), (3, vi v3), (4, vi v6), (5, vi v5), (6, vi (v6 + (1 : Int32)))] [] h :=
  (av_bd_eq av_Sg p_335 _ _ _ _ _).trans rfl
set_option maxRecDepth 100000 in
theorem b_335_94 (d : Nat) (v0 : Option Nat) (v1 : Int32) (v2 : Int32) (v3 : Int32) (v4 : Int32) (h : av_H) : bd X d 335 94 [(0, vr v0), (1, vi v1), (2, vi v2), (3, vi v3), (4, vi v4)] [] h =
  if v4 < 0 then
    (bd X d 335 109 [(0, vr v0), (1, vi v1), (2, vi v2), (3, vi v3), (4, vi v4)] [] h)
  else if v3 = v1 then
    (bd X d 335 102 [(1, vi v1), (3, vi v3), (4, vi v4)] [] h)
  else if v4 = v1 then
    (bd X d 335 102 [(1, vi v1), (3, vi v3), (4, vi v4)] [] h)
  else bd X d 335 109 [(0, vr v0), (1, vi v1), (2, vi v2), (3, vi v3), (4, vi v4)] [] h :=
  (av_bd_eq av_Sg p_335 _ _ _ _ _).trans rfl
set_option maxRecDepth 100000 in
theorem b_335_102 (d : Nat) (v1 : Int32) (v3 : Int32) (v4 : Int32) (h : av_H) : bd X d 335 102 [(1, vi v1), (3, vi v3), (4, vi v4)] [] h =
  if v3 = v1 then
    (av_rI v4 h)
  else av_rI v3 h :=
  (av_bd_eq av_Sg p_335 _ _ _ _ _).trans rfl
set_option maxRecDepth 100000 in
theorem b_335_109 (d : Nat) (v0 : Option Nat) (v1 : Int32) (v2 : Int32) (v3 : Int32) (v4 : Int32) (h : av_H) : bd X d 335 109 [(0, vr v0), (1, vi v1), (2, vi v2), (3, vi v3), (4, vi v4)] [] h =
  if v4 < 0 then
    (bd X d 335 4 [(0, vr v0), (1, vi v1), (2, vi (v2 &&& v2)), (3, vi (v3 + (1 : Int32)))] [] h)
  else bd X d 335 4 [(0, vr v0), (1, vi v1), (2, vi (v2 &&& (((1 : Int32) <<< (v4 &&& 31)) ^^^ (-1 : Int32)))), (3, vi (v3 + (1 : Int32)))] [] h :=
  (av_bd_eq av_Sg p_335 _ _ _ _ _).trans rfl
theorem e_335 (d : Nat) (v0 : Option Nat) (v1 : Int32) (h : av_H) : ev X (d + 1) 335 [vr v0, vi v1] h = bd X d 335 0 [(0, vr v0), (1, vi v1)] [] h := av_ev_eq av_Sg p_335 d _ h rfl
/-! 336 = X11_gangs -/
set_option maxRecDepth 100000 in
theorem b_336_0 (d : Nat) (v0 : Option Nat) (v1 : Int32) (h : av_H) : bd X d 336 0 [(0, vr v0), (1, vi v1)] [] h =
  (av_pI h v0 11 0 (0 : Int32)).bind fun g1 =>
  (av_cI (ev X d 252 [vi v1, vi (0 : Int32), vi (10 : Int32)] g1)).bind fun q2 =>
  if q2.1 = 0 then
    (av_rI (-1 : Int32) q2.2)
  else if av_is q2.2 v0 11 = true then (
  (av_cV (ev X d 334 [vr v0] q2.2)).bind fun q3 =>
  if v1 = 0 then
    ((av_gR q3 v0 11 71).bind fun x4 =>
    (av_lI X q3 x4 (1023 : Int32)).bind fun x5 =>
    av_rI x5 q3)
  else if av_is q3 v0 11 = true then (
  (av_cI (ev X d 335 [vr v0, vi (v1 - (1 : Int32))] q3)).bind fun q6 =>
  av_rI q6.1 q6.2) else none) else none :=
  (av_bd_eq av_Sg p_336 _ _ _ _ _).trans rfl
theorem e_336 (d : Nat) (v0 : Option Nat) (v1 : Int32) (h : av_H) : ev X (d + 1) 336 [vr v0, vi v1] h = bd X d 336 0 [(0, vr v0), (1, vi v1)] [] h := av_ev_eq av_Sg p_336 d _ h rfl
/-! 337 = X11_offer -/
set_option maxRecDepth 100000 in
theorem b_337_0 (d : Nat) (v0 : Option Nat) (v1 : Int32) (v2 : Int32) (v3 : Int32) (v4 : Int32) (h : av_H) : bd X d 337 0 [(0, vr v0), (1, vi v1), (2, vi v2), (3, vi v3), (4, vi v4)] [] h =
  (av_pI h v0 11 0 (0 : Int32)).bind fun g1 =>
  (av_cI (ev X d 252 [vi v1, vi (0 : Int32), vi (7 : Int32)] g1)).bind fun q2 =>
  if q2.1 = 0 then
    ((av_bz (0 : Int32)).bind fun w => av_rI w q2.2)
  else (av_cI (ev X d 252 [vi v2, vi (0 : Int32), vi (9999 : Int32)] q2.2)).bind fun q3 =>
  if q3.1 = 0 then
    ((av_bz (0 : Int32)).bind fun w => av_rI w q3.2)
  else (av_cI (ev X d 252 [vi v3, vi (0 : Int32), vi (63 : Int32)] q3.2)).bind fun q4 =>
  if q4.1 = 0 then
    ((av_bz (0 : Int32)).bind fun w => av_rI w q4.2)
  else (av_cI (ev X d 252 [vi v4, vi (0 : Int32), vi (6 : Int32)] q4.2)).bind fun q5 =>
  if q5.1 = 0 then
    ((av_bz (0 : Int32)).bind fun w => av_rI w q5.2)
  else (av_gR q5.2 v0 11 73).bind fun x6 =>
  if 0 < v4 then
    (bd X d 337 33 [(0, vr v0), (1, vi v1), (3, vi v3), (4, vi v4)] [vi v2, vi v1, vr x6] q5.2)
  else bd X d 337 33 [(0, vr v0), (1, vi v1), (3, vi v3), (4, vi v4)] [vi (0 : Int32), vi v1, vr x6] q5.2 :=
  (av_bd_eq av_Sg p_337 _ _ _ _ _).trans rfl
set_option maxRecDepth 100000 in
theorem b_337_33 (d : Nat) (v0 : Option Nat) (v1 : Int32) (v3 : Int32) (v4 : Int32) (s0 : Option Nat) (s1 : Int32) (s2 : Int32) (h : av_H) : bd X d 337 33 [(0, vr v0), (1, vi v1), (3, vi v3), (4, vi v4)] [vi s2, vi s1, vr s0] h =
  (av_sI h s0 s1 s2).bind fun g1 =>
  (av_gR g1 v0 11 74).bind fun x2 =>
  if 0 < v4 then
    ((av_sI g1 x2 v1 v3).bind fun g3 =>
    (av_gR g3 v0 11 75).bind fun x4 =>
    (av_sI g3 x4 v1 v4).bind fun g5 =>
    (av_bz (1 : Int32)).bind fun w => av_rI w g5)
  else (av_sI g1 x2 v1 (0 : Int32)).bind fun g6 =>
  (av_gR g6 v0 11 75).bind fun x7 =>
  (av_sI g6 x7 v1 v4).bind fun g8 =>
  (av_bz (1 : Int32)).bind fun w => av_rI w g8 :=
  (av_bd_eq av_Sg p_337 _ _ _ _ _).trans rfl
theorem e_337 (d : Nat) (v0 : Option Nat) (v1 : Int32) (v2 : Int32) (v3 : Int32) (v4 : Int32) (h : av_H) : ev X (d + 1) 337 [vr v0, vi v1, vi v2, vi v3, vi v4] h = bd X d 337 0 [(0, vr v0), (1, vi v1), (2, vi v2), (3, vi v3), (4, vi v4)] [] h := av_ev_eq av_Sg p_337 d _ h rfl
/-! 338 = X11_serves -/
set_option maxRecDepth 100000 in
theorem b_338_0 (d : Nat) (v0 : Option Nat) (v1 : Int32) (v2 : Int32) (h : av_H) : bd X d 338 0 [(0, vr v0), (1, vi v1), (2, vi v2)] [] h =
  if v2 = (6 : Int32) then
    ((av_bz (1 : Int32)).bind fun w => av_rI w h)
  else (av_gR h v0 11 10).bind fun x1 =>
  (av_lI X h x1 v2).bind fun x2 =>
  if x2 = 0 then
    (if av_is h v0 11 = true then (
    (av_cI (ev X d 338 [vr v0, vi v1, vi (v2 + (1 : Int32))] h)).bind fun q3 =>
    (av_bz q3.1).bind fun w => av_rI w q3.2) else none)
  else bd X d 338 19 [(0, vr v0), (1, vi v1), (2, vi v2), (3, vi (0 : Int32))] [] h :=
  (av_bd_eq av_Sg p_338 _ _ _ _ _).trans rfl
set_option maxRecDepth 100000 in
theorem b_338_19 (d : Nat) (v0 : Option Nat) (v1 : Int32) (v2 : Int32) (v3 : Int32) (h : av_H) : bd X d 338 19 [(0, vr v0), (1, vi v1), (2, vi v2), (3, vi v3)] [] h =
  if v3 < (8 : Int32) then
    (if ((v1 >>> (v3 &&& 31)) &&& (1 : Int32)) = (1 : Int32) then
      ((av_gR h v0 11 74).bind fun x1 =>
      (av_lI X h x1 v3).bind fun x2 =>
      if ((x2 >>> (v2 &&& 31)) &&& (1 : Int32)) = (1 : Int32) then
        ((av_gR h v0 11 76).bind fun x3 =>
        (av_lI X h x3 v3).bind fun x4 =>
        (av_gR h v0 11 75).bind fun x5 =>
        (av_lI X h x5 v3).bind fun x6 =>
        if x4 < x6 then
          (bd X d 338 51 [(0, vr v0), (1, vi v1), (2, vi v2), (3, vi v3)] [vi (1 : Int32)] h)
        else bd X d 338 50 [(0, vr v0), (1, vi v1), (2, vi v2), (3, vi v3)] [] h)
      else bd X d 338 50 [(0, vr v0), (1, vi v1), (2, vi v2), (3, vi v3)] [] h)
    else bd X d 338 50 [(0, vr v0), (1, vi v1), (2, vi v2), (3, vi v3)] [] h)
  else (av_bz (0 : Int32)).bind fun w => av_rI w h :=
  (av_bd_eq av_Sg p_338 _ _ _ _ _).trans rfl
set_option maxRecDepth 100000 in
theorem b_338_50 (d : Nat) (v0 : Option Nat) (v1 : Int32) (v2 : Int32) (v3 : Int32) (h : av_H) : bd X d 338 50 [(0, vr v0), (1, vi v1), (2, vi v2), (3, vi v3)] [] h =
  bd X d 338 51 [(0, vr v0), (1, vi v1), (2, vi v2), (3, vi v3)] [vi (0 : Int32)] h :=
  (av_bd_eq av_Sg p_338 _ _ _ _ _).trans rfl
set_option maxRecDepth 100000 in
theorem b_338_51 (d : Nat) (v0 : Option Nat) (v1 : Int32) (v2 : Int32) (v3 : Int32) (s0 : Int32) (h : av_H) : bd X d 338 51 [(0, vr v0), (1, vi v1), (2, vi v2), (3, vi v3)] [vi s0] h =
  if s0 = 0 then
    (bd X d 338 19 [(0, vr v0), (1, vi v1), (2, vi v2), (3, vi (v3 + (1 : Int32)))] [] h)
  else (av_gR h v0 11 76).bind fun x1 =>
  (av_lI X h x1 v3).bind fun x2 =>
  (av_sI h x1 v3 (x2 + (1 : Int32))).bind fun g3 =>
  if av_is g3 v0 11 = true then (
  (av_cI (ev X d 338 [vr v0, vi v1, vi (v2 + (1 : Int32))] g3)).bind fun q4 =>
  (av_gR q4.2 v0 11 76).bind fun x5 =>
  (av_lI X q4.2 x5 v3).bind fun x6 =>
  (av_sI q4.2 x5 v3 (x6 - (1 : Int32))).bind fun g7 =>
  if q4.1 = 0 then
    (bd X d 338 19 [(0, vr v0), (1, vi v1), (2, vi v2), (3, vi (v3 + (1 : Int32)))] [] g7)
  else (av_bz (1 : Int32)).bind fun w => av_rI w g7) else none :=
  (av_bd_eq av_Sg p_338 _ _ _ _ _).trans rfl
theorem e_338 (d : Nat) (v0 : Option Nat) (v1 : Int32) (v2 : Int32) (h : av_H) : ev X (d + 1) 338 [vr v0, vi v1, vi v2] h = bd X d 338 0 [(0, vr v0), (1, vi v1), (2, vi v2)] [] h := av_ev_eq av_Sg p_338 d _ h rfl
/-! 339 = X11_costOf -/
set_option maxRecDepth 100000 in
theorem b_339_0 (d : Nat) (v0 : Option Nat) (v1 : Int32) (h : av_H) : bd X d 339 0 [(0, vr v0), (1, vi v1)] [] h =
  bd X d 339 4 [(0, vr v0), (1, vi v1), (2, vi (0 : Int32)), (3, vi (0 : Int32))] [] h :=
  (av_bd_eq av_Sg p_339 _ _ _ _ _).trans rfl
set_option maxRecDepth 100000 in
theorem b_339_4 (d : Nat) (v0 : Option Nat) (v1 : Int32) (v2 : Int32) (v3 : Int32) (h : av_H) : bd X d 339 4 [(0, vr v0), (1, vi v1), (2, vi v2), (3, vi v3)] [] h =
  if v3 < (8 : Int32) then
    (if ((v1 >>> (v3 &&& 31)) &&& (1 : Int32)) = (1 : Int32) then
      ((av_gR h v0 11 73).bind fun x1 =>
      (av_lI X h x1 v3).bind fun x2 =>
      bd X d 339 4 [(0, vr v0), (1, vi v1), (2, vi (v2 + x2)), (3, vi (v3 + (1 : Int32)))] [] h)
    else bd X d 339 4 [(0, vr v0), (1, vi v1), (2, vi (v2 + (0 : Int32))), (3, vi (v3 + (1 : Int32)))] [] h)
  else av_rI v2 h :=
  (av_bd_eq av_Sg p_339 _ _ _ _ _).trans rfl
theorem e_339 (d : Nat) (v0 : Option Nat) (v1 : Int32) (h : av_H) : ev X (d + 1) 339 [vr v0, vi v1] h = bd X d 339 0 [(0, vr v0), (1, vi v1)] [] h := av_ev_eq av_Sg p_339 d _ h rfl
/-! 340 = X11_buy -/
set_option maxRecDepth 100000 in
theorem b_340_0 (d : Nat) (v0 : Option Nat) (v1 : Int32) (h : av_H) : bd X d 340 0 [(0, vr v0), (1, vi v1)] [] h =
  (av_pI h v0 11 0 (0 : Int32)).bind fun g1 =>
  (av_cI (ev X d 252 [vi v1, vi (0 : Int32), vi (1 : Int32)] g1)).bind fun q2 =>
  if q2.1 = 0 then
    (av_rI (-1 : Int32) q2.2)
  else bd X d 340 14 [(0, vr v0), (1, vi v1), (2, vi (-1 : Int32)), (3, vi (0 : Int32))] [] q2.2 :=
  (av_bd_eq av_Sg p_340 _ _ _ _ _).trans rfl
set_option maxRecDepth 100000 in
theorem b_340_14 (d : Nat) (v0 : Option Nat) (v1 : Int32) (v2 : Int32) (v3 : Int32) (h : av_H) : bd X d 340 14 [(0, vr v0), (1, vi v1), (2, vi v2), (3, vi v3)] [] h =
  if v3 < (256 : Int32) then
    (bd X d 340 21 [(0, vr v0), (1, vi v1), (2, vi v2), (3, vi v3), (4, vi (1 : Int32)), (5, vi (0 : Int32))] [] h)
  else if v2 < 0 then
    (av_rI (-1 : Int32) h)
  else if v1 = 0 then
    (if av_is h v0 11 = true then (
    (av_cI (ev X d 339 [vr v0, vi v2] h)).bind fun q1 =>
    av_rI q1.1 q1.2) else none)
  else av_rI v2 h :=
  (av_bd_eq av_Sg p_340 _ _ _ _ _).trans rfl
set_option maxRecDepth 100000 in
theorem b_340_21 (d : Nat) (v0 : Option Nat) (v1 : Int32) (v2 : Int32) (v3 : Int32) (v4 : Int32) (v5 : Int32) (h : av_H) : bd X d 340 21 [(0, vr v0), (1, vi v1), (2, vi v2), (3, vi v3), (4, vi v4), (5, vi v5)] [] h =
  if v5 < (8 : Int32) then
    (if v4 = 0 then
      (bd X d 340 21 [(0, vr v0), (1, vi v1), (2, vi v2), (3, vi v3), (4, vi (0 : Int32)), (5, vi (v5 + (1 : Int32)))] [] h)
    else if ((v3 >>> (v5 &&& 31)) &&& (1 : Int32)) = 0 then
      (bd X d 340 21 [(0, vr v0), (1, vi v1), (2, vi v2), (3, vi v3), (4, vi (1 : Int32)), (5, vi (v5 + (1 : Int32)))] [] h)
    else (av_gR h v0 11 75).bind fun x1 =>
    (av_lI X h x1 v5).bind fun x2 =>
    if 0 < x2 then
      (bd X d 340 21 [(0, vr v0), (1, vi v1), (2, vi v2), (3, vi v3), (4, vi (1 : Int32)), (5, vi (v5 + (1 : Int32)))] [] h)
    else bd X d 340 21 [(0, vr v0), (1, vi v1), (2, vi v2), (3, vi v3), (4, vi (0 : Int32)), (5, vi (v5 + (1 : Int32)))] [] h)
  else if v4 = 0 then
    (bd X d 340 14 [(0, vr v0), (1, vi v1), (2, vi v2), (3, vi (v3 + (1 : Int32)))] [] h)
  else if v2 < 0 then
    (bd X d 340 54 [(0, vr v0), (1, vi v1), (2, vi v2), (3, vi v3)] [] h)
  else if av_is h v0 11 = true then (
  (av_cI (ev X d 339 [vr v0, vi v3] h)).bind fun q3 =>
  if av_is q3.2 v0 11 = true then (
  (av_cI (ev X d 339 [vr v0, vi v2] q3.2)).bind fun q4 =>
  if q3.1 < q4.1 then
    (bd X d 340 54 [(0, vr v0), (1, vi v1), (2, vi v2), (3, vi v3)] [] q4.2)
  else bd X d 340 14 [(0, vr v0), (1, vi v1), (2, vi v2), (3, vi (v3 + (1 : Int32)))] [] q4.2) else none) else none :=
  (av_bd_eq av_Sg p_340 _ _ _ _ _).trans rfl
set_option maxRecDepth 100000 in
theorem b_340_54 (d : Nat) (v0 : Option Nat) (v1 : Int32) (v2 : Int32) (v3 : Int32) (h : av_H) : bd X d 340 54 [(0, vr v0), (1, vi v1), (2, vi v2), (3, vi v3)] [] h =
  if av_is h v0 11 = true then (
  (av_cI (ev X d 338 [vr v0, vi v3, vi (0 : Int32)] h)).bind fun q1 =>
  if q1.1 = 0 then
    (bd X d 340 14 [(0, vr v0), (1, vi v1), (2, vi v2), (3, vi (v3 + (1 : Int32)))] [] q1.2)
  else bd X d 340 14 [(0, vr v0), (1, vi v1), (2, vi v3), (3, vi (v3 + (1 : Int32)))] [] q1.2) else none :=
  (av_bd_eq av_Sg p_340 _ _ _ _ _).trans rfl
theorem e_340 (d : Nat) (v0 : Option Nat) (v1 : Int32) (h : av_H) : ev X (d + 1) 340 [vr v0, vi v1] h = bd X d 340 0 [(0, vr v0), (1, vi v1)] [] h := av_ev_eq av_Sg p_340 d _ h rfl
/-! 341 = X11_away -/
set_option maxRecDepth 100000 in
theorem b_341_0 (d : Nat) (v0 : Option Nat) (v1 : Int32) (v2 : Int32) (v3 : Int32) (h : av_H) : bd X d 341 0 [(0, vr v0), (1, vi v1), (2, vi v2), (3, vi v3)] [] h =
  (av_pI h v0 11 0 (0 : Int32)).bind fun g1 =>
  (av_cI (ev X d 256 [vi v1] g1)).bind fun q2 =>
  if q2.1 = 0 then
    ((av_bz (0 : Int32)).bind fun w => av_rI w q2.2)
  else (av_cI (ev X d 252 [vi v2, vi (0 : Int32), vi (19 : Int32)] q2.2)).bind fun q3 =>
  if q3.1 = 0 then
    ((av_bz (0 : Int32)).bind fun w => av_rI w q3.2)
  else (av_gR q3.2 v0 11 77).bind fun x4 =>
  (av_sZ q3.2 x4 (((20 : Int32) * v1) + v2) v3).bind fun g5 =>
  (av_bz (1 : Int32)).bind fun w => av_rI w g5 :=
  (av_bd_eq av_Sg p_341 _ _ _ _ _).trans rfl
theorem e_341 (d : Nat) (v0 : Option Nat) (v1 : Int32) (v2 : Int32) (v3 : Int32) (h : av_H) : ev X (d + 1) 341 [vr v0, vi v1, vi v2, vi v3] h = bd X d 341 0 [(0, vr v0), (1, vi v1), (2, vi v2), (3, vi v3)] [] h := av_ev_eq av_Sg p_341 d _ h rfl
/-! 342 = X11_nextFor -/
set_option maxRecDepth 100000 in
theorem b_342_0 (d : Nat) (v0 : Option Nat) (v1 : Int32) (v2 : Int32) (v3 : Int32) (h : av_H) : bd X d 342 0 [(0, vr v0), (1, vi v1), (2, vi v2), (3, vi v3)] [] h =
  bd X d 342 4 [(0, vr v0), (1, vi v1), (2, vi v2), (3, vi v3), (4, vi (-1 : Int32)), (5, vi (0 : Int32))] [] h :=
  (av_bd_eq av_Sg p_342 _ _ _ _ _).trans rfl
set_option maxRecDepth 100000 in
theorem b_342_4 (d : Nat) (v0 : Option Nat) (v1 : Int32) (v2 : Int32) (v3 : Int32) (v4 : Int32) (v5 : Int32) (h : av_H) : bd X d 342 4 [(0, vr v0), (1, vi v1), (2, vi v2), (3, vi v3), (4, vi v4), (5, vi v5)] [] h =
  if v5 < v1 then
    (if v5 = v3 then
      (bd X d 342 4 [(0, vr v0), (1, vi v1), (2, vi v2), (3, vi v3), (4, vi v4), (5, vi (v5 + (1 : Int32)))] [] h)
    else (av_gR h v0 11 77).bind fun x1 =>
    (av_lB h x1 103 (((20 : Int32) * v5) + v2)).bind fun x2 =>
    if x2 = 0 then
      (if v4 < 0 then
        (bd X d 342 48 [(0, vr v0), (1, vi v1), (2, vi v2), (3, vi v3), (4, vi v4), (5, vi v5)] [] h)
      else (av_gR h v0 11 78).bind fun x3 =>
      (av_lI X h x3 v5).bind fun x4 =>
      (av_gR h v0 11 78).bind fun x5 =>
      (av_lI X h x5 v4).bind fun x6 =>
      if x4 < x6 then
        (bd X d 342 48 [(0, vr v0), (1, vi v1), (2, vi v2), (3, vi v3), (4, vi v4), (5, vi v5)] [] h)
      else (av_gR h v0 11 78).bind fun x7 =>
      (av_lI X h x7 v5).bind fun x8 =>
      (av_gR h v0 11 78).bind fun x9 =>
      (av_lI X h x9 v4).bind fun x10 =>
      if x8 = x10 then
        ((av_gR h v0 11 79).bind fun x11 =>
        (av_lI X h x11 v5).bind fun x12 =>
        (av_gR h v0 11 79).bind fun x13 =>
        (av_lI X h x13 v4).bind fun x14 =>
        if x12 < x14 then
          (bd X d 342 48 [(0, vr v0), (1, vi v1), (2, vi v2), (3, vi v3), (4, vi v4), (5, vi v5)] [] h)
        else bd X d 342 50 [(0, vr v0), (1, vi v1), (2, vi v2), (3, vi v3), (4, vi v4), (5, vi v5)] [] h)
      else bd X d 342 50 [(0, vr v0), (1, vi v1), (2, vi v2), (3, vi v3), (4, vi v4), (5, vi v5)] [] h)
    else bd X d 342 4 [(0, vr v0), (1, vi v1), (2, vi v2), (3, vi v3), (4, vi v4), (5, vi (v5 + (1 : Int32)))] [] h)
  else av_rI v4 h :=
  (av_bd_eq av_Sg p_342 _ _ _ _ _).trans rfl
set_option maxRecDepth 100000 in
theorem b_342_48 (d : Nat) (v0 : Option Nat) (v1 : Int32) (v2 : Int32) (v3 : Int32) (v4 : Int32) (v5 : Int32) (h : av_H) : bd X d 342 48 [(0, vr v0), (1, vi v1), (2, vi v2), (3, vi v3), (4, vi v4), (5, vi v5)] [] h =
  bd X d 342 51 [(0, vr v0), (1, vi v1), (2, vi v2), (3, vi v3), (4, vi v4), (5, vi v5)] [vi (1 : Int32)] h :=
  (av_bd_eq av_Sg p_342 _ _ _ _ _).trans rfl
set_option maxRecDepth 100000 in
theorem b_342_50 (d : Nat) (v0 : Option Nat) (v1 : Int32) (v2 : Int32) (v3 : Int32) (v4 : Int32) (v5 : Int32) (h : av_H) : bd X d 342 50 [(0, vr v0), (1, vi v1), (2, vi v2), (3, vi v3), (4, vi v4), (5, vi v5)] [] h =
  bd X d 342 51 [(0, vr v0), (1, vi v1), (2, vi v2), (3, vi v3), (4, vi v4), (5, vi v5)] [vi (0 : Int32)] h :=
  (av_bd_eq av_Sg p_342 _ _ _ _ _).trans rfl
set_option maxRecDepth 100000 in
theorem b_342_51 (d : Nat) (v0 : Option Nat) (v1 : Int32) (v2 : Int32) (v3 : Int32) (v4 : Int32) (v5 : Int32) (s0 : Int32) (h : av_H) : bd X d 342 51 [(0, vr v0), (1, vi v1), (2, vi v2), (3, vi v3), (4, vi v4), (5, vi v5)] [vi s0] h =
  if s0 = 0 then
    (bd X d 342 4 [(0, vr v0), (1, vi v1), (2, vi v2), (3, vi v3), (4, vi v4), (5, vi (v5 + (1 : Int32)))] [] h)
  else bd X d 342 4 [(0, vr v0), (1, vi v1), (2, vi v2), (3, vi v3), (4, vi v5), (5, vi (v5 + (1 : Int32)))] [] h :=
  (av_bd_eq av_Sg p_342 _ _ _ _ _).trans rfl
theorem e_342 (d : Nat) (v0 : Option Nat) (v1 : Int32) (v2 : Int32) (v3 : Int32) (h : av_H) : ev X (d + 1) 342 [vr v0, vi v1, vi v2, vi v3] h = bd X d 342 0 [(0, vr v0), (1, vi v1), (2, vi v2), (3, vi v3)] [] h := av_ev_eq av_Sg p_342 d _ h rfl
/-! 343 = X11_rota -/
set_option maxRecDepth 100000 in
theorem b_343_0 (d : Nat) (v0 : Option Nat) (v1 : Int32) (v2 : Int32) (h : av_H) : bd X d 343 0 [(0, vr v0), (1, vi v1), (2, vi v2)] [] h =
  (av_pI h v0 11 0 (0 : Int32)).bind fun g1 =>
  (av_cI (ev X d 252 [vi v1, vi (2 : Int32), vi (10 : Int32)] g1)).bind fun q2 =>
  if q2.1 = 0 then
    (av_rI (-1 : Int32) q2.2)
  else (av_cI (ev X d 252 [vi v2, vi (0 : Int32), vi (19 : Int32)] q2.2)).bind fun q3 =>
  if q3.1 = 0 then
    (av_rI (-1 : Int32) q3.2)
  else bd X d 343 17 [(0, vr v0), (1, vi v1), (2, vi v2), (3, vi (0 : Int32))] [] q3.2 :=
  (av_bd_eq av_Sg p_343 _ _ _ _ _).trans rfl
set_option maxRecDepth 100000 in
theorem b_343_17 (d : Nat) (v0 : Option Nat) (v1 : Int32) (v2 : Int32) (v3 : Int32) (h : av_H) : bd X d 343 17 [(0, vr v0), (1, vi v1), (2, vi v2), (3, vi v3)] [] h =
  if v3 < (10 : Int32) then
    ((av_gR h v0 11 78).bind fun x1 =>
    (av_sI h x1 v3 (0 : Int32)).bind fun g2 =>
    (av_gR g2 v0 11 79).bind fun x3 =>
    (av_sI g2 x3 v3 (-1 : Int32)).bind fun g4 =>
    bd X d 343 17 [(0, vr v0), (1, vi v1), (2, vi v2), (3, vi (v3 + (1 : Int32)))] [] g4)
  else bd X d 343 36 [(0, vr v0), (1, vi v1), (2, vi v2), (3, vi (0 : Int32)), (4, vi (0 : Int32))] [] h :=
  (av_bd_eq av_Sg p_343 _ _ _ _ _).trans rfl
set_option maxRecDepth 100000 in
theorem b_343_36 (d : Nat) (v0 : Option Nat) (v1 : Int32) (v2 : Int32) (v3 : Int32) (v4 : Int32) (h : av_H) : bd X d 343 36 [(0, vr v0), (1, vi v1), (2, vi v2), (3, vi v3), (4, vi v4)] [] h =
  if v2 < v4 then
    (av_rI v3 h)
  else if av_is h v0 11 = true then (
  (av_cI (ev X d 342 [vr v0, vi v1, vi v4, vi (-1 : Int32)] h)).bind fun q1 =>
  if q1.1 < 0 then
    (bd X d 343 54 [(0, vr v0), (1, vi v1), (2, vi v2), (4, vi v4), (5, vi (q1.1))] [vi (-1 : Int32)] q1.2)
  else if av_is q1.2 v0 11 = true then (
  (av_cI (ev X d 342 [vr v0, vi v1, vi v4, vi (q1.1)] q1.2)).bind fun q2 =>
  bd X d 343 54 [(0, vr v0), (1, vi v1), (2, vi v2), (4, vi v4), (5, vi (q1.1))] [vi (q2.1)] q2.2) else none) else none :=
  (av_bd_eq av_Sg p_343 _ _ _ _ _).trans rfl
set_option maxRecDepth 100000 in
theorem b_343_54 (d : Nat) (v0 : Option Nat) (v1 : Int32) (v2 : Int32) (v4 : Int32) (v5 : Int32) (s0 : Int32) (h : av_H) : bd X d 343 54 [(0, vr v0), (1, vi v1), (2, vi v2), (4, vi v4), (5, vi v5)] [vi s0] h =
  if v5 < 0 then
    (bd X d 343 62 [(0, vr v0), (1, vi v1), (2, vi v2), (4, vi v4), (6, vi s0)] [vi (0 : Int32)] h)
  else bd X d 343 62 [(0, vr v0), (1, vi v1), (2, vi v2), (4, vi v4), (6, vi s0)] [vi ((1 : Int32) <<< (v5 &&& 31))] h :=
  (av_bd_eq av_Sg p_343 _ _ _ _ _).trans rfl
set_option maxRecDepth 100000 in
theorem b_343_62 (d : Nat) (v0 : Option Nat) (v1 : Int32) (v2 : Int32) (v4 : Int32) (v6 : Int32) (s0 : Int32) (h : av_H) : bd X d 343 62 [(0, vr v0), (1, vi v1), (2, vi v2), (4, vi v4), (6, vi v6)] [vi s0] h =
  if v6 < 0 then
    (bd X d 343 73 [(0, vr v0), (1, vi v1), (2, vi v2), (3, vi (s0 ||| (0 : Int32))), (4, vi v4), (7, vi (0 : Int32))] [] h)
  else bd X d 343 73 [(0, vr v0), (1, vi v1), (2, vi v2), (3, vi (s0 ||| ((1 : Int32) <<< (v6 &&& 31)))), (4, vi v4), (7, vi (0 : Int32))] [] h :=
  (av_bd_eq av_Sg p_343 _ _ _ _ _).trans rfl
set_option maxRecDepth 100000 in
theorem b_343_73 (d : Nat) (v0 : Option Nat) (v1 : Int32) (v2 : Int32) (v3 : Int32) (v4 : Int32) (v7 : Int32) (h : av_H) : bd X d 343 73 [(0, vr v0), (1, vi v1), (2, vi v2), (3, vi v3), (4, vi v4), (7, vi v7)] [] h =
  if v7 < v1 then
    (if ((v3 >>> (v7 &&& 31)) &&& (1 : Int32)) = (1 : Int32) then
      ((av_gR h v0 11 78).bind fun x1 =>
      (av_lI X h x1 v7).bind fun x2 =>
      (av_sI h x1 v7 (x2 + (1 : Int32))).bind fun g3 =>
      (av_gR g3 v0 11 79).bind fun x4 =>
      (av_sI g3 x4 v7 v4).bind fun g5 =>
      bd X d 343 73 [(0, vr v0), (1, vi v1), (2, vi v2), (3, vi v3), (4, vi v4), (7, vi (v7 + (1 : Int32)))] [] g5)
    else bd X d 343 73 [(0, vr v0), (1, vi v1), (2, vi v2), (3, vi v3), (4, vi v4), (7, vi (v7 + (1 : Int32)))] [] h)
  else bd X d 343 36 [(0, vr v0), (1, vi v1), (2, vi v2), (3, vi v3), (4, vi (v4 + (1 : Int32)))] [] h :=
  (av_bd_eq av_Sg p_343 _ _ _ _ _).trans rfl
theorem e_343 (d : Nat) (v0 : Option Nat) (v1 : Int32) (v2 : Int32) (h : av_H) : ev X (d + 1) 343 [vr v0, vi v1, vi v2] h = bd X d 343 0 [(0, vr v0), (1, vi v1), (2, vi v2)] [] h := av_ev_eq av_Sg p_343 d _ h rfl
/-! 344 = X11_holderAt -/
set_option maxRecDepth 100000 in
theorem b_344_0 (d : Nat) (v0 : Option Nat) (v1 : Int32) (v2 : Int32) (h : av_H) : bd X d 344 0 [(0, vr v0), (1, vi v1), (2, vi v2)] [] h =
  bd X d 344 4 [(0, vr v0), (1, vi v1), (2, vi v2), (3, vi (-1 : Int32)), (4, vi (0 : Int32))] [] h :=
  (av_bd_eq av_Sg p_344 _ _ _ _ _).trans rfl
set_option maxRecDepth 100000 in
theorem b_344_4 (d : Nat) (v0 : Option Nat) (v1 : Int32) (v2 : Int32) (v3 : Int32) (v4 : Int32) (h : av_H) : bd X d 344 4 [(0, vr v0), (1, vi v1), (2, vi v2), (3, vi v3), (4, vi v4)] [] h =
  (av_gI h v0 11 80).bind fun x1 =>
  if v4 < x1 then
    ((av_gR h v0 11 81).bind fun x2 =>
    (av_lI X h x2 v4).bind fun x3 =>
    if x3 = v1 then
      ((av_gR h v0 11 83).bind fun x4 =>
      (av_lI X h x4 v4).bind fun x5 =>
      if v2 < x5 then
        (bd X d 344 4 [(0, vr v0), (1, vi v1), (2, vi v2), (3, vi v3), (4, vi (v4 + (1 : Int32)))] [] h)
      else (av_gR h v0 11 84).bind fun x6 =>
      (av_lB h x6 103 v4).bind fun x7 =>
      if x7 = 0 then
        (bd X d 344 4 [(0, vr v0), (1, vi v1), (2, vi v2), (3, vi (-1 : Int32)), (4, vi (v4 + (1 : Int32)))] [] h)
      else (av_gR h v0 11 82).bind fun x8 =>
      (av_lI X h x8 v4).bind fun x9 =>
      bd X d 344 4 [(0, vr v0), (1, vi v1), (2, vi v2), (3, vi x9), (4, vi (v4 + (1 : Int32)))] [] h)
    else bd X d 344 4 [(0, vr v0), (1, vi v1), (2, vi v2), (3, vi v3), (4, vi (v4 + (1 : Int32)))] [] h)
  else av_rI v3 h :=
  (av_bd_eq av_Sg p_344 _ _ _ _ _).trans rfl
theorem e_344 (d : Nat) (v0 : Option Nat) (v1 : Int32) (v2 : Int32) (h : av_H) : ev X (d + 1) 344 [vr v0, vi v1, vi v2] h = bd X d 344 0 [(0, vr v0), (1, vi v1), (2, vi v2)] [] h := av_ev_eq av_Sg p_344 d _ h rfl
/-! 345 = X11_key -/
set_option maxRecDepth 100000 in
theorem b_345_0 (d : Nat) (v0 : Option Nat) (v1 : Int32) (v2 : Int32) (v3 : Int32) (v4 : Int32) (v5 : Int32) (h : av_H) : bd X d 345 0 [(0, vr v0), (1, vi v1), (2, vi v2), (3, vi v3), (4, vi v4), (5, vi v5)] [] h =
  (av_pI h v0 11 0 (0 : Int32)).bind fun g1 =>
  if av_is g1 v0 11 = true then (
  (av_cI (ev X d 257 [vr v0, vi v1] g1)).bind fun q2 =>
  if q2.1 = 0 then
    ((av_bz (0 : Int32)).bind fun w => av_rI w q2.2)
  else (av_cI (ev X d 256 [vi v2] q2.2)).bind fun q3 =>
  if q3.1 = 0 then
    ((av_bz (0 : Int32)).bind fun w => av_rI w q3.2)
  else (av_cI (ev X d 253 [vi v3] q3.2)).bind fun q4 =>
  if q4.1 = 0 then
    ((av_bz (0 : Int32)).bind fun w => av_rI w q4.2)
  else (av_cI (ev X d 254 [vi v4] q4.2)).bind fun q5 =>
  if q5.1 = 0 then
    ((av_bz (0 : Int32)).bind fun w => av_rI w q5.2)
  else (av_gI q5.2 v0 11 80).bind fun x6 =>
  if x6 = (60 : Int32) then
    ((av_bz (0 : Int32)).bind fun w => av_rI w q5.2)
  else (av_gI q5.2 v0 11 80).bind fun x7 =>
  if x7 = 0 then
    (bd X d 345 40 [(0, vr v0), (1, vi v1), (2, vi v2), (5, vi v5), (6, vi (((24 : Int32) * v3) + v4))] [] q5.2)
  else (av_gR q5.2 v0 11 83).bind fun x8 =>
  (av_gI q5.2 v0 11 80).bind fun x9 =>
  (av_lI X q5.2 x8 (x9 - (1 : Int32))).bind fun x10 =>
  if (((24 : Int32) * v3) + v4) < x10 then
    (bd X d 345 43 [(0, vr v0), (1, vi v1), (2, vi v2), (5, vi v5), (6, vi (((24 : Int32) * v3) + v4))] [vi (0 : Int32)] q5.2)
  else bd X d 345 40 [(0, vr v0), (1, vi v1), (2, vi v2), (5, vi v5), (6, vi (((24 : Int32) * v3) + v4))] [] q5.2) else none :=
  (av_bd_eq av_Sg p_345 _ _ _ _ _).trans rfl
set_option maxRecDepth 100000 in
theorem b_345_40 (d : Nat) (v0 : Option Nat) (v1 : Int32) (v2 : Int32) (v5 : Int32) (v6 : Int32) (h : av_H) : bd X d 345 40 [(0, vr v0), (1, vi v1), (2, vi v2), (5, vi v5), (6, vi v6)] [] h =
  bd X d 345 43 [(0, vr v0), (1, vi v1), (2, vi v2), (5, vi v5), (6, vi v6)] [vi (1 : Int32)] h :=
  (av_bd_eq av_Sg p_345 _ _ _ _ _).trans rfl
set_option maxRecDepth 100000 in
theorem b_345_43 (d : Nat) (v0 : Option Nat) (v1 : Int32) (v2 : Int32) (v5 : Int32) (v6 : Int32) (s0 : Int32) (h : av_H) : bd X d 345 43 [(0, vr v0), (1, vi v1), (2, vi v2), (5, vi v5), (6, vi v6)] [vi s0] h =
  if s0 = 0 then
    ((av_bz (0 : Int32)).bind fun w => av_rI w h)
  else if av_is h v0 11 = true then (
  (av_cI (ev X d 344 [vr v0, vi v1, vi v6] h)).bind fun q1 =>
  if v5 = 0 then
    (bd X d 345 55 [(0, vr v0), (1, vi v1), (2, vi v2), (5, vi v5), (6, vi v6)] [vi v2, vi (q1.1)] q1.2)
  else bd X d 345 55 [(0, vr v0), (1, vi v1), (2, vi v2), (5, vi v5), (6, vi v6)] [vi (-1 : Int32), vi (q1.1)] q1.2) else none :=
  (av_bd_eq av_Sg p_345 _ _ _ _ _).trans rfl
set_option maxRecDepth 100000 in
theorem b_345_55 (d : Nat) (v0 : Option Nat) (v1 : Int32) (v2 : Int32) (v5 : Int32) (v6 : Int32) (s0 : Int32) (s1 : Int32) (h : av_H) : bd X d 345 55 [(0, vr v0), (1, vi v1), (2, vi v2), (5, vi v5), (6, vi v6)] [vi s1, vi s0] h =
  if s0 = s1 then
    ((av_gR h v0 11 81).bind fun x1 =>
    (av_gI h v0 11 80).bind fun x2 =>
    (av_sI h x1 x2 v1).bind fun g3 =>
    (av_gR g3 v0 11 82).bind fun x4 =>
    (av_gI g3 v0 11 80).bind fun x5 =>
    (av_sI g3 x4 x5 v2).bind fun g6 =>
    (av_gR g6 v0 11 83).bind fun x7 =>
    (av_gI g6 v0 11 80).bind fun x8 =>
    (av_sI g6 x7 x8 v6).bind fun g9 =>
    (av_gR g9 v0 11 84).bind fun x10 =>
    (av_gI g9 v0 11 80).bind fun x11 =>
    (av_sZ g9 x10 x11 v5).bind fun g12 =>
    (av_gI g12 v0 11 80).bind fun x13 =>
    (av_pI g12 v0 11 80 (x13 + (1 : Int32))).bind fun g14 =>
    (av_bz (1 : Int32)).bind fun w => av_rI w g14)
  else (av_bz (0 : Int32)).bind fun w => av_rI w h :=
  (av_bd_eq av_Sg p_345 _ _ _ _ _).trans rfl
theorem e_345 (d : Nat) (v0 : Option Nat) (v1 : Int32) (v2 : Int32) (v3 : Int32) (v4 : Int32) (v5 : Int32) (h : av_H) : ev X (d + 1) 345 [vr v0, vi v1, vi v2, vi v3, vi v4, vi v5] h = bd X d 345 0 [(0, vr v0), (1, vi v1), (2, vi v2), (3, vi v3), (4, vi v4), (5, vi v5)] [] h := av_ev_eq av_Sg p_345 d _ h rfl
/-! 346 = X11_holds -/
set_option maxRecDepth 100000 in
theorem b_346_0 (d : Nat) (v0 : Option Nat) (v1 : Int32) (v2 : Int32) (v3 : Int32) (h : av_H) : bd X d 346 0 [(0, vr v0), (1, vi v1), (2, vi v2), (3, vi v3)] [] h =
  (av_pI h v0 11 0 (0 : Int32)).bind fun g1 =>
  if av_is g1 v0 11 = true then (
  (av_cI (ev X d 257 [vr v0, vi v1] g1)).bind fun q2 =>
  if q2.1 = 0 then
    (av_rI (-1 : Int32) q2.2)
  else (av_cI (ev X d 253 [vi v2] q2.2)).bind fun q3 =>
  if q3.1 = 0 then
    (av_rI (-1 : Int32) q3.2)
  else (av_cI (ev X d 254 [vi v3] q3.2)).bind fun q4 =>
  if q4.1 = 0 then
    (av_rI (-1 : Int32) q4.2)
  else if av_is q4.2 v0 11 = true then (
  (av_cI (ev X d 344 [vr v0, vi v1, vi (((24 : Int32) * v2) + v3)] q4.2)).bind fun q5 =>
  av_rI q5.1 q5.2) else none) else none :=
  (av_bd_eq av_Sg p_346 _ _ _ _ _).trans rfl
theorem e_346 (d : Nat) (v0 : Option Nat) (v1 : Int32) (v2 : Int32) (v3 : Int32) (h : av_H) : ev X (d + 1) 346 [vr v0, vi v1, vi v2, vi v3] h = bd X d 346 0 [(0, vr v0), (1, vi v1), (2, vi v2), (3, vi v3)] [] h := av_ev_eq av_Sg p_346 d _ h rfl
/-! 347 = X11_out -/
set_option maxRecDepth 100000 in
theorem b_347_0 (d : Nat) (v0 : Option Nat) (v1 : Int32) (v2 : Int32) (v3 : Int32) (h : av_H) : bd X d 347 0 [(0, vr v0), (1, vi v1), (2, vi v2), (3, vi v3)] [] h =
  (av_pI h v0 11 0 (0 : Int32)).bind fun g1 =>
  if av_is g1 v0 11 = true then (
  (av_cI (ev X d 257 [vr v0, vi v1] g1)).bind fun q2 =>
  if q2.1 = 0 then
    (av_rI (-1 : Int32) q2.2)
  else (av_cI (ev X d 253 [vi v2] q2.2)).bind fun q3 =>
  if q3.1 = 0 then
    (av_rI (-1 : Int32) q3.2)
  else (av_cI (ev X d 254 [vi v3] q3.2)).bind fun q4 =>
  if q4.1 = 0 then
    (av_rI (-1 : Int32) q4.2)
  else bd X d 347 27 [(0, vr v0), (1, vi v1), (4, vi (((24 : Int32) * v2) + v3)), (5, vi (0 : Int32)), (6, vi (-1 : Int32)), (7, vi (0 : Int32))] [] q4.2) else none :=
  (av_bd_eq av_Sg p_347 _ _ _ _ _).trans rfl
set_option maxRecDepth 100000 in
theorem b_347_27 (d : Nat) (v0 : Option Nat) (v1 : Int32) (v4 : Int32) (v5 : Int32) (v6 : Int32) (v7 : Int32) (h : av_H) : bd X d 347 27 [(0, vr v0), (1, vi v1), (4, vi v4), (5, vi v5), (6, vi v6), (7, vi v7)] [] h =
  (av_gI h v0 11 80).bind fun x1 =>
  if v7 < x1 then
    ((av_gR h v0 11 81).bind fun x2 =>
    (av_lI X h x2 v7).bind fun x3 =>
    if x3 = v1 then
      ((av_gR h v0 11 83).bind fun x4 =>
      (av_lI X h x4 v7).bind fun x5 =>
      if v4 < x5 then
        (bd X d 347 27 [(0, vr v0), (1, vi v1), (4, vi v4), (5, vi v5), (6, vi v6), (7, vi (v7 + (1 : Int32)))] [] h)
      else if v6 < 0 then
        (bd X d 347 53 [(0, vr v0), (1, vi v1), (4, vi v4), (5, vi v5), (7, vi v7)] [vi (0 : Int32)] h)
      else (av_gR h v0 11 83).bind fun x6 =>
      (av_lI X h x6 v7).bind fun x7 =>
      bd X d 347 53 [(0, vr v0), (1, vi v1), (4, vi v4), (5, vi v5), (7, vi v7)] [vi (x7 - v6)] h)
    else bd X d 347 27 [(0, vr v0), (1, vi v1), (4, vi v4), (5, vi v5), (6, vi v6), (7, vi (v7 + (1 : Int32)))] [] h)
  else if v6 < 0 then
    (bd X d 347 82 [(5, vi v5)] [vi (0 : Int32)] h)
  else bd X d 347 82 [(5, vi v5)] [vi (v4 - v6)] h :=
  (av_bd_eq av_Sg p_347 _ _ _ _ _).trans rfl
set_option maxRecDepth 100000 in
theorem b_347_53 (d : Nat) (v0 : Option Nat) (v1 : Int32) (v4 : Int32) (v5 : Int32) (v7 : Int32) (s0 : Int32) (h : av_H) : bd X d 347 53 [(0, vr v0), (1, vi v1), (4, vi v4), (5, vi v5), (7, vi v7)] [vi s0] h =
  if v5 < s0 then
    (bd X d 347 60 [(0, vr v0), (1, vi v1), (4, vi v4), (7, vi v7)] [vi s0] h)
  else bd X d 347 60 [(0, vr v0), (1, vi v1), (4, vi v4), (7, vi v7)] [vi v5] h :=
  (av_bd_eq av_Sg p_347 _ _ _ _ _).trans rfl
set_option maxRecDepth 100000 in
theorem b_347_60 (d : Nat) (v0 : Option Nat) (v1 : Int32) (v4 : Int32) (v7 : Int32) (s0 : Int32) (h : av_H) : bd X d 347 60 [(0, vr v0), (1, vi v1), (4, vi v4), (7, vi v7)] [vi s0] h =
  (av_gR h v0 11 84).bind fun x1 =>
  (av_lB h x1 103 v7).bind fun x2 =>
  if x2 = 0 then
    (bd X d 347 27 [(0, vr v0), (1, vi v1), (4, vi v4), (5, vi s0), (6, vi (-1 : Int32)), (7, vi (v7 + (1 : Int32)))] [] h)
  else (av_gR h v0 11 83).bind fun x3 =>
  (av_lI X h x3 v7).bind fun x4 =>
  bd X d 347 27 [(0, vr v0), (1, vi v1), (4, vi v4), (5, vi s0), (6, vi x4), (7, vi (v7 + (1 : Int32)))] [] h :=
  (av_bd_eq av_Sg p_347 _ _ _ _ _).trans rfl
set_option maxRecDepth 100000 in
theorem b_347_82 (d : Nat) (v5 : Int32) (s0 : Int32) (h : av_H) : bd X d 347 82 [(5, vi v5)] [vi s0] h =
  if v5 < s0 then
    (av_rI s0 h)
  else av_rI v5 h :=
  (av_bd_eq av_Sg p_347 _ _ _ _ _).trans rfl
theorem e_347 (d : Nat) (v0 : Option Nat) (v1 : Int32) (v2 : Int32) (v3 : Int32) (h : av_H) : ev X (d + 1) 347 [vr v0, vi v1, vi v2, vi v3] h = bd X d 347 0 [(0, vr v0), (1, vi v1), (2, vi v2), (3, vi v3)] [] h := av_ev_eq av_Sg p_347 d _ h rfl
/-! 348 = X11_film -/
set_option maxRecDepth 100000 in
theorem b_348_0 (d : Nat) (v0 : Option Nat) (v1 : Int32) (v2 : Int32) (v3 : Int32) (v4 : Int32) (v5 : Int32) (v6 : Int32) (h : av_H) : bd X d 348 0 [(0, vr v0), (1, vi v1), (2, vi v2), (3, vi v3), (4, vi v4), (5, vi v5), (6, vi v6)] [] h =
  (av_pI h v0 11 0 (0 : Int32)).bind fun g1 =>
  if av_is g1 v0 11 = true then (
  (av_cI (ev X d 257 [vr v0, vi v1] g1)).bind fun q2 =>
  if q2.1 = 0 then
    ((av_bz (0 : Int32)).bind fun w => av_rI w q2.2)
  else (av_cI (ev X d 255 [vi v2] q2.2)).bind fun q3 =>
  if q3.1 = 0 then
    ((av_bz (0 : Int32)).bind fun w => av_rI w q3.2)
  else (av_cI (ev X d 253 [vi v3] q3.2)).bind fun q4 =>
  if q4.1 = 0 then
    ((av_bz (0 : Int32)).bind fun w => av_rI w q4.2)
  else (av_cI (ev X d 253 [vi v4] q4.2)).bind fun q5 =>
  if q5.1 = 0 then
    ((av_bz (0 : Int32)).bind fun w => av_rI w q5.2)
  else if v4 < v3 then
    ((av_bz (0 : Int32)).bind fun w => av_rI w q5.2)
  else (av_cI (ev X d 254 [vi v5] q5.2)).bind fun q6 =>
  if q6.1 = 0 then
    ((av_bz (0 : Int32)).bind fun w => av_rI w q6.2)
  else (av_cI (ev X d 254 [vi v6] q6.2)).bind fun q7 =>
  if q7.1 = 0 then
    ((av_bz (0 : Int32)).bind fun w => av_rI w q7.2)
  else if v6 < v5 then
    ((av_bz (0 : Int32)).bind fun w => av_rI w q7.2)
  else (av_gI q7.2 v0 11 85).bind fun x8 =>
  if x8 = (12 : Int32) then
    ((av_bz (0 : Int32)).bind fun w => av_rI w q7.2)
  else (av_gR q7.2 v0 11 86).bind fun x9 =>
  (av_gI q7.2 v0 11 85).bind fun x10 =>
  (av_sI q7.2 x9 x10 v1).bind fun g11 =>
  (av_gR g11 v0 11 87).bind fun x12 =>
  (av_gI g11 v0 11 85).bind fun x13 =>
  (av_sI g11 x12 x13 v2).bind fun g14 =>
  (av_gR g14 v0 11 88).bind fun x15 =>
  (av_gI g14 v0 11 85).bind fun x16 =>
  (av_sI g14 x15 x16 v3).bind fun g17 =>
  (av_gR g17 v0 11 89).bind fun x18 =>
  (av_gI g17 v0 11 85).bind fun x19 =>
  (av_sI g17 x18 x19 v4).bind fun g20 =>
  (av_gR g20 v0 11 90).bind fun x21 =>
  (av_gI g20 v0 11 85).bind fun x22 =>
  (av_sI g20 x21 x22 v5).bind fun g23 =>
  (av_gR g23 v0 11 91).bind fun x24 =>
  (av_gI g23 v0 11 85).bind fun x25 =>
  (av_sI g23 x24 x25 v6).bind fun g26 =>
  (av_gI g26 v0 11 85).bind fun x27 =>
  (av_pI g26 v0 11 85 (x27 + (1 : Int32))).bind fun g28 =>
  (av_bz (1 : Int32)).bind fun w => av_rI w g28) else none :=
  (av_bd_eq av_Sg p_348 _ _ _ _ _).trans rfl
theorem e_348 (d : Nat) (v0 : Option Nat) (v1 : Int32) (v2 : Int32) (v3 : Int32) (v4 : Int32) (v5 : Int32) (v6 : Int32) (h : av_H) : ev X (d + 1) 348 [vr v0, vi v1, vi v2, vi v3, vi v4, vi v5, vi v6] h = bd X d 348 0 [(0, vr v0), (1, vi v1), (2, vi v2), (3, vi v3), (4, vi v4), (5, vi v5), (6, vi v6)] [] h := av_ev_eq av_Sg p_348 d _ h rfl
/-! 349 = X11_isFilmed -/
set_option maxRecDepth 100000 in
theorem b_349_0 (d : Nat) (v0 : Option Nat) (v1 : Int32) (v2 : Int32) (v3 : Int32) (v4 : Int32) (v5 : Int32) (h : av_H) : bd X d 349 0 [(0, vr v0), (1, vi v1), (2, vi v2), (3, vi v3), (4, vi v4), (5, vi v5)] [] h =
  bd X d 349 4 [(0, vr v0), (1, vi v1), (2, vi v2), (3, vi v3), (4, vi v4), (5, vi v5), (6, vi (0 : Int32)), (7, vi (0 : Int32))] [] h :=
  (av_bd_eq av_Sg p_349 _ _ _ _ _).trans rfl
set_option maxRecDepth 100000 in
theorem b_349_4 (d : Nat) (v0 : Option Nat) (v1 : Int32) (v2 : Int32) (v3 : Int32) (v4 : Int32) (v5 : Int32) (v6 : Int32) (v7 : Int32) (h : av_H) : bd X d 349 4 [(0, vr v0), (1, vi v1), (2, vi v2), (3, vi v3), (4, vi v4), (5, vi v5), (6, vi v6), (7, vi v7)] [] h =
  (av_gI h v0 11 85).bind fun x1 =>
  if v7 < x1 then
    ((av_gR h v0 11 86).bind fun x2 =>
    (av_lI X h x2 v7).bind fun x3 =>
    if x3 = v1 then
      ((av_gR h v0 11 87).bind fun x4 =>
      (av_lI X h x4 v7).bind fun x5 =>
      if x5 = v2 then
        ((av_gR h v0 11 88).bind fun x6 =>
        (av_lI X h x6 v7).bind fun x7 =>
        (av_gR h v0 11 89).bind fun x8 =>
        (av_lI X h x8 v7).bind fun x9 =>
        (av_cI (ev X d 252 [vi v3, vi x7, vi x9] h)).bind fun q10 =>
        if q10.1 = 0 then
          (bd X d 349 33 [(0, vr v0), (1, vi v1), (2, vi v2), (3, vi v3), (4, vi v4), (5, vi v5), (6, vi v6), (7, vi v7)] [] q10.2)
        else bd X d 349 34 [(0, vr v0), (1, vi v1), (2, vi v2), (3, vi v3), (4, vi v4), (5, vi v5), (6, vi v6), (7, vi v7)] [vi (1 : Int32)] q10.2)
      else bd X d 349 33 [(0, vr v0), (1, vi v1), (2, vi v2), (3, vi v3), (4, vi v4), (5, vi v5), (6, vi v6), (7, vi v7)] [] h)
    else bd X d 349 33 [(0, vr v0), (1, vi v1), (2, vi v2), (3, vi v3), (4, vi v4), (5, vi v5), (6, vi v6), (7, vi v7)] [] h)
  else (av_bz v6).bind fun w => av_rI w h :=
  (av_bd_eq av_Sg p_349 _ _ _ _ _).trans rfl
set_option maxRecDepth 100000 in
theorem b_349_33 (d : Nat) (v0 : Option Nat) (v1 : Int32) (v2 : Int32) (v3 : Int32) (v4 : Int32) (v5 : Int32) (v6 : Int32) (v7 : Int32) (h : av_H) : bd X d 349 33 [(0, vr v0), (1, vi v1), (2, vi v2), (3, vi v3), (4, vi v4), (5, vi v5), (6, vi v6), (7, vi v7)] [] h =
  bd X d 349 34 [(0, vr v0), (1, vi v1), (2, vi v2), (3, vi v3), (4, vi v4), (5, vi v5), (6, vi v6), (7, vi v7)] [vi (0 : Int32)] h :=
  (av_bd_eq av_Sg p_349 _ _ _ _ _).trans rfl
set_option maxRecDepth 100000 in
theorem b_349_34 (d : Nat) (v0 : Option Nat) (v1 : Int32) (v2 : Int32) (v3 : Int32) (v4 : Int32) (v5 : Int32) (v6 : Int32) (v7 : Int32) (s0 : Int32) (h : av_H) : bd X d 349 34 [(0, vr v0), (1, vi v1), (2, vi v2), (3, vi v3), (4, vi v4), (5, vi v5), (6, vi v6), (7, vi v7)] [vi s0] h =
  if v6 = 0 then
    (if s0 = 0 then
      (bd X d 349 4 [(0, vr v0), (1, vi v1), (2, vi v2), (3, vi v3), (4, vi v4), (5, vi v5), (6, vi (0 : Int32)), (7, vi (v7 + (1 : Int32)))] [] h)
    else (av_gR h v0 11 91).bind fun x1 =>
    (av_lI X h x1 v7).bind fun x2 =>
    if x2 < v4 then
      (bd X d 349 4 [(0, vr v0), (1, vi v1), (2, vi v2), (3, vi v3), (4, vi v4), (5, vi v5), (6, vi (0 : Int32)), (7, vi (v7 + (1 : Int32)))] [] h)
    else (av_gR h v0 11 90).bind fun x3 =>
    (av_lI X h x3 v7).bind fun x4 =>
    if x4 < (v4 + v5) then
      (bd X d 349 4 [(0, vr v0), (1, vi v1), (2, vi v2), (3, vi v3), (4, vi v4), (5, vi v5), (6, vi (1 : Int32)), (7, vi (v7 + (1 : Int32)))] [] h)
    else bd X d 349 4 [(0, vr v0), (1, vi v1), (2, vi v2), (3, vi v3), (4, vi v4), (5, vi v5), (6, vi (0 : Int32)), (7, vi (v7 + (1 : Int32)))] [] h)
  else bd X d 349 4 [(0, vr v0), (1, vi v1), (2, vi v2), (3, vi v3), (4, vi v4), (5, vi v5), (6, vi (1 : Int32)), (7, vi (v7 + (1 : Int32)))] [] h :=
  (av_bd_eq av_Sg p_349 _ _ _ _ _).trans rfl
theorem e_349 (d : Nat) (v0 : Option Nat) (v1 : Int32) (v2 : Int32) (v3 : Int32) (v4 : Int32) (v5 : Int32) (h : av_H) : ev X (d + 1) 349 [vr v0, vi v1, vi v2, vi v3, vi v4, vi v5] h = bd X d 349 0 [(0, vr v0), (1, vi v1), (2, vi v2), (3, vi v3), (4, vi v4), (5, vi v5)] [] h := av_ev_eq av_Sg p_349 d _ h rfl
/-! 350 = X11_clashes -/
set_option maxRecDepth 100000 in
theorem b_350_0 (d : Nat) (v0 : Option Nat) (v1 : Int32) (h : av_H) : bd X d 350 0 [(0, vr v0), (1, vi v1)] [] h =
  (av_pI h v0 11 0 (0 : Int32)).bind fun g1 =>
  if av_is g1 v0 11 = true then (
  (av_cI (ev X d 257 [vr v0, vi v1] g1)).bind fun q2 =>
  if q2.1 = 0 then
    (av_rI (-1 : Int32) q2.2)
  else bd X d 350 13 [(0, vr v0), (1, vi v1), (2, vi (0 : Int32)), (3, vi (0 : Int32))] [] q2.2) else none :=
  (av_bd_eq av_Sg p_350 _ _ _ _ _).trans rfl
set_option maxRecDepth 100000 in
theorem b_350_13 (d : Nat) (v0 : Option Nat) (v1 : Int32) (v2 : Int32) (v3 : Int32) (h : av_H) : bd X d 350 13 [(0, vr v0), (1, vi v1), (2, vi v2), (3, vi v3)] [] h =
  (av_gI h v0 11 45).bind fun x1 =>
  if v3 < x1 then
    ((av_gR h v0 11 46).bind fun x2 =>
    (av_lI X h x2 v3).bind fun x3 =>
    if x3 = v1 then
      ((av_gR h v0 11 47).bind fun x4 =>
      (av_lI X h x4 v3).bind fun x5 =>
      (av_gR h v0 11 49).bind fun x6 =>
      (av_lI X h x6 v3).bind fun x7 =>
      (av_gR h v0 11 50).bind fun x8 =>
      (av_lI X h x8 v3).bind fun x9 =>
      (av_gR h v0 11 51).bind fun x10 =>
      (av_lI X h x10 v3).bind fun x11 =>
      if av_is h v0 11 = true then (
      (av_cI (ev X d 349 [vr v0, vi v1, vi x5, vi x7, vi x9, vi x11] h)).bind fun q12 =>
      if q12.1 = 0 then
        (bd X d 350 13 [(0, vr v0), (1, vi v1), (2, vi (v2 + (0 : Int32))), (3, vi (v3 + (1 : Int32)))] [] q12.2)
      else bd X d 350 13 [(0, vr v0), (1, vi v1), (2, vi (v2 + (1 : Int32))), (3, vi (v3 + (1 : Int32)))] [] q12.2) else none)
    else bd X d 350 13 [(0, vr v0), (1, vi v1), (2, vi (v2 + (0 : Int32))), (3, vi (v3 + (1 : Int32)))] [] h)
  else av_rI v2 h :=
  (av_bd_eq av_Sg p_350 _ _ _ _ _).trans rfl
theorem e_350 (d : Nat) (v0 : Option Nat) (v1 : Int32) (h : av_H) : ev X (d + 1) 350 [vr v0, vi v1] h = bd X d 350 0 [(0, vr v0), (1, vi v1)] [] h := av_ev_eq av_Sg p_350 d _ h rfl
/-! 351 = X11_complain -/
set_option maxRecDepth 100000 in
theorem b_351_0 (d : Nat) (v0 : Option Nat) (v1 : Int32) (v2 : Int32) (v3 : Int32) (v4 : Int32) (v5 : Int32) (h : av_H) : bd X d 351 0 [(0, vr v0), (1, vi v1), (2, vi v2), (3, vi v3), (4, vi v4), (5, vi v5)] [] h =
  (av_pI h v0 11 0 (0 : Int32)).bind fun g1 =>
  if av_is g1 v0 11 = true then (
  (av_cI (ev X d 259 [vr v0, vi v1, vi v2, vi v3, vi (0 : Int32)] g1)).bind fun q2 =>
  if q2.1 = 0 then
    (av_rI (-1 : Int32) q2.2)
  else (av_cI (ev X d 253 [vi v4] q2.2)).bind fun q3 =>
  if q3.1 = 0 then
    (av_rI (-1 : Int32) q3.2)
  else (av_cI (ev X d 254 [vi v5] q3.2)).bind fun q4 =>
  if q4.1 = 0 then
    (av_rI (-1 : Int32) q4.2)
  else (av_gI q4.2 v0 11 92).bind fun x5 =>
  if x5 = (40 : Int32) then
    (av_rI (-1 : Int32) q4.2)
  else (av_gR q4.2 v0 11 93).bind fun x6 =>
  (av_gI q4.2 v0 11 92).bind fun x7 =>
  (av_sI q4.2 x6 x7 v1).bind fun g8 =>
  (av_gR g8 v0 11 94).bind fun x9 =>
  (av_gI g8 v0 11 92).bind fun x10 =>
  (av_sI g8 x9 x10 v2).bind fun g11 =>
  (av_gR g11 v0 11 95).bind fun x12 =>
  (av_gI g11 v0 11 92).bind fun x13 =>
  (av_sI g11 x12 x13 v3).bind fun g14 =>
  (av_gR g14 v0 11 96).bind fun x15 =>
  (av_gI g14 v0 11 92).bind fun x16 =>
  (av_sI g14 x15 x16 v4).bind fun g17 =>
  (av_gR g17 v0 11 97).bind fun x18 =>
  (av_gI g17 v0 11 92).bind fun x19 =>
  (av_sI g17 x18 x19 v5).bind fun g20 =>
  (av_gI g20 v0 11 92).bind fun x21 =>
  (av_pI g20 v0 11 92 (x21 + (1 : Int32))).bind fun g22 =>
  (av_gI g22 v0 11 92).bind fun x23 =>
  av_rI (x23 - (1 : Int32)) g22) else none :=
  (av_bd_eq av_Sg p_351 _ _ _ _ _).trans rfl
theorem e_351 (d : Nat) (v0 : Option Nat) (v1 : Int32) (v2 : Int32) (v3 : Int32) (v4 : Int32) (v5 : Int32) (h : av_H) : ev X (d + 1) 351 [vr v0, vi v1, vi v2, vi v3, vi v4, vi v5] h = bd X d 351 0 [(0, vr v0), (1, vi v1), (2, vi v2), (3, vi v3), (4, vi v4), (5, vi v5)] [] h := av_ev_eq av_Sg p_351 d _ h rfl
/-! 352 = X11_didPass -/
set_option maxRecDepth 100000 in
theorem b_352_0 (d : Nat) (v0 : Option Nat) (v1 : Int32) (v2 : Int32) (h : av_H) : bd X d 352 0 [(0, vr v0), (1, vi v1), (2, vi v2)] [] h =
  (av_gR h v0 11 97).bind fun x1 =>
  (av_lI X h x1 v2).bind fun x2 =>
  (av_gR h v0 11 50).bind fun x3 =>
  (av_lI X h x3 v1).bind fun x4 =>
  (av_gR h v0 11 46).bind fun x5 =>
  (av_lI X h x5 v1).bind fun x6 =>
  (av_gR h v0 11 93).bind fun x7 =>
  (av_lI X h x7 v2).bind fun x8 =>
  if x6 = x8 then
    ((av_gR h v0 11 47).bind fun x9 =>
    (av_lI X h x9 v1).bind fun x10 =>
    (av_gR h v0 11 94).bind fun x11 =>
    (av_lI X h x11 v2).bind fun x12 =>
    if x10 = x12 then
      ((av_gR h v0 11 49).bind fun x13 =>
      (av_lI X h x13 v1).bind fun x14 =>
      (av_gR h v0 11 96).bind fun x15 =>
      (av_lI X h x15 v2).bind fun x16 =>
      if x14 = x16 then
        (if (x2 - x4) < 0 then
          ((av_bz (0 : Int32)).bind fun w => av_rI w h)
        else (av_gR h v0 11 51).bind fun x17 =>
        (av_lI X h x17 v1).bind fun x18 =>
        if (x2 - x4) < x18 then
          ((av_gR h v0 11 10).bind fun x19 =>
          (av_gR h v0 11 93).bind fun x20 =>
          (av_lI X h x20 v2).bind fun x21 =>
          (av_lI X h x19 x21).bind fun x22 =>
          (av_gR h v0 11 52).bind fun x23 =>
          (av_lI X h x23 v1).bind fun x24 =>
          (av_gR h v0 11 95).bind fun x25 =>
          (av_lI X h x25 v2).bind fun x26 =>
          if x26 < (x22 - (x24 * (x2 - x4))) then
            ((av_gR h v0 11 95).bind fun x27 =>
            (av_lI X h x27 v2).bind fun x28 =>
            (av_gR h v0 11 52).bind fun x29 =>
            (av_lI X h x29 v1).bind fun x30 =>
            if x28 < ((x22 - (x24 * (x2 - x4))) - x30) then
              ((av_bz (0 : Int32)).bind fun w => av_rI w h)
            else (av_bz (1 : Int32)).bind fun w => av_rI w h)
          else (av_bz (0 : Int32)).bind fun w => av_rI w h)
        else (av_bz (0 : Int32)).bind fun w => av_rI w h)
      else (av_bz (0 : Int32)).bind fun w => av_rI w h)
    else (av_bz (0 : Int32)).bind fun w => av_rI w h)
  else (av_bz (0 : Int32)).bind fun w => av_rI w h :=
  (av_bd_eq av_Sg p_352 _ _ _ _ _).trans rfl
theorem e_352 (d : Nat) (v0 : Option Nat) (v1 : Int32) (v2 : Int32) (h : av_H) : ev X (d + 1) 352 [vr v0, vi v1, vi v2] h = bd X d 352 0 [(0, vr v0), (1, vi v1), (2, vi v2)] [] h := av_ev_eq av_Sg p_352 d _ h rfl
/-! 353 = X11_ours -/
set_option maxRecDepth 100000 in
theorem b_353_0 (d : Nat) (v0 : Option Nat) (v1 : Int32) (v2 : Int32) (h : av_H) : bd X d 353 0 [(0, vr v0), (1, vi v1), (2, vi v2)] [] h =
  (av_pI h v0 11 0 (0 : Int32)).bind fun g1 =>
  if v1 < 0 then
    (av_rI (-1 : Int32) g1)
  else (av_gI g1 v0 11 92).bind fun x2 =>
  if v1 < x2 then
    ((av_cI (ev X d 252 [vi v2, vi (0 : Int32), vi (1 : Int32)] g1)).bind fun q3 =>
    if q3.1 = 0 then
      (av_rI (-1 : Int32) q3.2)
    else bd X d 353 22 [(0, vr v0), (1, vi v1), (2, vi v2), (3, vi (0 : Int32)), (4, vi (-1 : Int32)), (5, vi (0 : Int32))] [] q3.2)
  else av_rI (-1 : Int32) g1 :=
  (av_bd_eq av_Sg p_353 _ _ _ _ _).trans rfl
set_option maxRecDepth 100000 in
theorem b_353_22 (d : Nat) (v0 : Option Nat) (v1 : Int32) (v2 : Int32) (v3 : Int32) (v4 : Int32) (v5 : Int32) (h : av_H) : bd X d 353 22 [(0, vr v0), (1, vi v1), (2, vi v2), (3, vi v3), (4, vi v4), (5, vi v5)] [] h =
  (av_gI h v0 11 45).bind fun x1 =>
  if v5 < x1 then
    (if av_is h v0 11 = true then (
    (av_cI (ev X d 352 [vr v0, vi v5, vi v1] h)).bind fun q2 =>
    if q2.1 = 0 then
      (bd X d 353 22 [(0, vr v0), (1, vi v1), (2, vi v2), (3, vi v3), (4, vi v4), (5, vi (v5 + (1 : Int32)))] [] q2.2)
    else if v4 < 0 then
      (bd X d 353 22 [(0, vr v0), (1, vi v1), (2, vi v2), (3, vi (v3 + (1 : Int32))), (4, vi v5), (5, vi (v5 + (1 : Int32)))] [] q2.2)
    else bd X d 353 22 [(0, vr v0), (1, vi v1), (2, vi v2), (3, vi (v3 + (1 : Int32))), (4, vi v4), (5, vi (v5 + (1 : Int32)))] [] q2.2) else none)
  else if v2 = 0 then
    (av_rI v3 h)
  else av_rI v4 h :=
  (av_bd_eq av_Sg p_353 _ _ _ _ _).trans rfl
theorem e_353 (d : Nat) (v0 : Option Nat) (v1 : Int32) (v2 : Int32) (h : av_H) : ev X (d + 1) 353 [vr v0, vi v1, vi v2] h = bd X d 353 0 [(0, vr v0), (1, vi v1), (2, vi v2)] [] h := av_ev_eq av_Sg p_353 d _ h rfl
/-! 354 = X11_bandAt -/
set_option maxRecDepth 100000 in
theorem b_354_0 (d : Nat) (v0 : Option Nat) (v1 : Int32) (v2 : Int32) (v3 : Int32) (h : av_H) : bd X d 354 0 [(0, vr v0), (1, vi v1), (2, vi v2), (3, vi v3)] [] h =
  (av_gR h v0 11 22).bind fun x1 =>
  (av_lI X h x1 (((((100 : Int32) * v1) + v2) * (24 : Int32)) + v3)).bind fun x2 =>
  if (10 : Int32) = 0 then none else av_rI (x2 / (10 : Int32)) h :=
  (av_bd_eq av_Sg p_354 _ _ _ _ _).trans rfl
theorem e_354 (d : Nat) (v0 : Option Nat) (v1 : Int32) (v2 : Int32) (v3 : Int32) (h : av_H) : ev X (d + 1) 354 [vr v0, vi v1, vi v2, vi v3] h = bd X d 354 0 [(0, vr v0), (1, vi v1), (2, vi v2), (3, vi v3)] [] h := av_ev_eq av_Sg p_354 d _ h rfl
/-! 355 = X11_hoursIn -/
set_option maxRecDepth 100000 in
theorem b_355_0 (d : Nat) (v0 : Option Nat) (v1 : Int32) (h : av_H) : bd X d 355 0 [(0, vr v0), (1, vi v1)] [] h =
  bd X d 355 4 [(0, vr v0), (1, vi v1), (2, vi (0 : Int32)), (3, vi (0 : Int32))] [] h :=
  (av_bd_eq av_Sg p_355 _ _ _ _ _).trans rfl
set_option maxRecDepth 100000 in
theorem b_355_4 (d : Nat) (v0 : Option Nat) (v1 : Int32) (v2 : Int32) (v3 : Int32) (h : av_H) : bd X d 355 4 [(0, vr v0), (1, vi v1), (2, vi v2), (3, vi v3)] [] h =
  (av_gI h v0 11 45).bind fun x1 =>
  if v3 < x1 then
    ((av_gR h v0 11 50).bind fun x2 =>
    (av_lI X h x2 v3).bind fun x3 =>
    bd X d 355 13 [(0, vr v0), (1, vi v1), (2, vi v2), (3, vi v3), (4, vi x3)] [] h)
  else av_rI v2 h :=
  (av_bd_eq av_Sg p_355 _ _ _ _ _).trans rfl
set_option maxRecDepth 100000 in
theorem b_355_13 (d : Nat) (v0 : Option Nat) (v1 : Int32) (v2 : Int32) (v3 : Int32) (v4 : Int32) (h : av_H) : bd X d 355 13 [(0, vr v0), (1, vi v1), (2, vi v2), (3, vi v3), (4, vi v4)] [] h =
  (av_gR h v0 11 50).bind fun x1 =>
  (av_lI X h x1 v3).bind fun x2 =>
  (av_gR h v0 11 51).bind fun x3 =>
  (av_lI X h x3 v3).bind fun x4 =>
  if v4 < (x2 + x4) then
    ((av_gR h v0 11 47).bind fun x5 =>
    (av_lI X h x5 v3).bind fun x6 =>
    (av_gR h v0 11 49).bind fun x7 =>
    (av_lI X h x7 v3).bind fun x8 =>
    if av_is h v0 11 = true then (
    (av_cI (ev X d 354 [vr v0, vi x6, vi x8, vi v4] h)).bind fun q9 =>
    if q9.1 = v1 then
      (bd X d 355 13 [(0, vr v0), (1, vi v1), (2, vi (v2 + (1 : Int32))), (3, vi v3), (4, vi (v4 + (1 : Int32)))] [] q9.2)
    else bd X d 355 13 [(0, vr v0), (1, vi v1), (2, vi (v2 + (0 : Int32))), (3, vi v3), (4, vi (v4 + (1 : Int32)))] [] q9.2) else none)
  else bd X d 355 4 [(0, vr v0), (1, vi v1), (2, vi v2), (3, vi (v3 + (1 : Int32)))] [] h :=
  (av_bd_eq av_Sg p_355 _ _ _ _ _).trans rfl
theorem e_355 (d : Nat) (v0 : Option Nat) (v1 : Int32) (h : av_H) : ev X (d + 1) 355 [vr v0, vi v1] h = bd X d 355 0 [(0, vr v0), (1, vi v1)] [] h := av_ev_eq av_Sg p_355 d _ h rfl
/-! 356 = X11_oursIn -/
set_option maxRecDepth 100000 in
theorem b_356_0 (d : Nat) (v0 : Option Nat) (v1 : Int32) (h : av_H) : bd X d 356 0 [(0, vr v0), (1, vi v1)] [] h =
  bd X d 356 4 [(0, vr v0), (1, vi v1), (2, vi (0 : Int32)), (3, vi (0 : Int32))] [] h :=
  (av_bd_eq av_Sg p_356 _ _ _ _ _).trans rfl
set_option maxRecDepth 100000 in
theorem b_356_4 (d : Nat) (v0 : Option Nat) (v1 : Int32) (v2 : Int32) (v3 : Int32) (h : av_H) : bd X d 356 4 [(0, vr v0), (1, vi v1), (2, vi v2), (3, vi v3)] [] h =
  (av_gI h v0 11 92).bind fun x1 =>
  if v3 < x1 then
    (if av_is h v0 11 = true then (
    (av_cI (ev X d 353 [vr v0, vi v3, vi (0 : Int32)] h)).bind fun q2 =>
    if 0 < q2.1 then
      ((av_gR q2.2 v0 11 94).bind fun x3 =>
      (av_lI X q2.2 x3 v3).bind fun x4 =>
      (av_gR q2.2 v0 11 96).bind fun x5 =>
      (av_lI X q2.2 x5 v3).bind fun x6 =>
      (av_gR q2.2 v0 11 97).bind fun x7 =>
      (av_lI X q2.2 x7 v3).bind fun x8 =>
      if av_is q2.2 v0 11 = true then (
      (av_cI (ev X d 354 [vr v0, vi x4, vi x6, vi x8] q2.2)).bind fun q9 =>
      if q9.1 = v1 then
        (bd X d 356 4 [(0, vr v0), (1, vi v1), (2, vi (v2 + (1 : Int32))), (3, vi (v3 + (1 : Int32)))] [] q9.2)
      else bd X d 356 4 [(0, vr v0), (1, vi v1), (2, vi (v2 + (0 : Int32))), (3, vi (v3 + (1 : Int32)))] [] q9.2) else none)
    else bd X d 356 4 [(0, vr v0), (1, vi v1), (2, vi (v2 + (0 : Int32))), (3, vi (v3 + (1 : Int32)))] [] q2.2) else none)
  else av_rI v2 h :=
  (av_bd_eq av_Sg p_356 _ _ _ _ _).trans rfl
theorem e_356 (d : Nat) (v0 : Option Nat) (v1 : Int32) (h : av_H) : ev X (d + 1) 356 [vr v0, vi v1] h = bd X d 356 0 [(0, vr v0), (1, vi v1)] [] h := av_ev_eq av_Sg p_356 d _ h rfl
/-! 357 = X11_band -/
set_option maxRecDepth 100000 in
theorem b_357_0 (d : Nat) (v0 : Option Nat) (v1 : Int32) (v2 : Int32) (h : av_H) : bd X d 357 0 [(0, vr v0), (1, vi v1), (2, vi v2)] [] h =
  (av_pI h v0 11 0 (0 : Int32)).bind fun g1 =>
  (av_cI (ev X d 252 [vi v1, vi (0 : Int32), vi (9 : Int32)] g1)).bind fun q2 =>
  if q2.1 = 0 then
    (av_rI (-1 : Int32) q2.2)
  else (av_cI (ev X d 252 [vi v2, vi (0 : Int32), vi (1 : Int32)] q2.2)).bind fun q3 =>
  if q3.1 = 0 then
    (av_rI (-1 : Int32) q3.2)
  else if v2 = 0 then
    (if av_is q3.2 v0 11 = true then (
    (av_cI (ev X d 355 [vr v0, vi v1] q3.2)).bind fun q4 =>
    av_rI q4.1 q4.2) else none)
  else if av_is q3.2 v0 11 = true then (
  (av_cI (ev X d 356 [vr v0, vi v1] q3.2)).bind fun q5 =>
  av_rI q5.1 q5.2) else none :=
  (av_bd_eq av_Sg p_357 _ _ _ _ _).trans rfl
theorem e_357 (d : Nat) (v0 : Option Nat) (v1 : Int32) (v2 : Int32) (h : av_H) : ev X (d + 1) 357 [vr v0, vi v1, vi v2] h = bd X d 357 0 [(0, vr v0), (1, vi v1), (2, vi v2)] [] h := av_ev_eq av_Sg p_357 d _ h rfl
/-! 358 = X11_worst -/
set_option maxRecDepth 100000 in
theorem b_358_0 (d : Nat) (v0 : Option Nat) (h : av_H) : bd X d 358 0 [(0, vr v0)] [] h =
  (av_pI h v0 11 0 (0 : Int32)).bind fun g1 =>
  bd X d 358 7 [(0, vr v0), (1, vi (-1 : Int32)), (2, vi (0 : Int32))] [] g1 :=
  (av_bd_eq av_Sg p_358 _ _ _ _ _).trans rfl
set_option maxRecDepth 100000 in
theorem b_358_7 (d : Nat) (v0 : Option Nat) (v1 : Int32) (v2 : Int32) (h : av_H) : bd X d 358 7 [(0, vr v0), (1, vi v1), (2, vi v2)] [] h =
  if v2 < (10 : Int32) then
    (if av_is h v0 11 = true then (
    (av_cI (ev X d 355 [vr v0, vi v2] h)).bind fun q1 =>
    if 0 < q1.1 then
      (if v1 < 0 then
        (bd X d 358 31 [(0, vr v0), (1, vi v1), (2, vi v2)] [] q1.2)
      else if av_is q1.2 v0 11 = true then (
      (av_cI (ev X d 356 [vr v0, vi v2] q1.2)).bind fun q2 =>
      if av_is q2.2 v0 11 = true then (
      (av_cI (ev X d 355 [vr v0, vi v1] q2.2)).bind fun q3 =>
      if av_is q3.2 v0 11 = true then (
      (av_cI (ev X d 356 [vr v0, vi v1] q3.2)).bind fun q4 =>
      if (q4.1 * q1.1) < (q2.1 * q3.1) then
        (bd X d 358 31 [(0, vr v0), (1, vi v1), (2, vi v2)] [] q4.2)
      else bd X d 358 33 [(0, vr v0), (1, vi v1), (2, vi v2)] [] q4.2) else none) else none) else none)
    else bd X d 358 33 [(0, vr v0), (1, vi v1), (2, vi v2)] [] q1.2) else none)
  else av_rI v1 h :=
  (av_bd_eq av_Sg p_358 _ _ _ _ _).trans rfl
set_option maxRecDepth 100000 in
theorem b_358_31 (d : Nat) (v0 : Option Nat) (v1 : Int32) (v2 : Int32) (h : av_H) : bd X d 358 31 [(0, vr v0), (1, vi v1), (2, vi v2)] [] h =
  bd X d 358 34 [(0, vr v0), (1, vi v1), (2, vi v2)] [vi (1 : Int32)] h :=
  (av_bd_eq av_Sg p_358 _ _ _ _ _).trans rfl
set_option maxRecDepth 100000 in
theorem b_358_33 (d : Nat) (v0 : Option Nat) (v1 : Int32) (v2 : Int32) (h : av_H) : bd X d 358 33 [(0, vr v0), (1, vi v1), (2, vi v2)] [] h =
  bd X d 358 34 [(0, vr v0), (1, vi v1), (2, vi v2)] [vi (0 : Int32)] h :=
  (av_bd_eq av_Sg p_358 _ _ _ _ _).trans rfl
set_option maxRecDepth 100000 in
theorem b_358_34 (d : Nat) (v0 : Option Nat) (v1 : Int32) (v2 : Int32) (s0 : Int32) (h : av_H) : bd X d 358 34 [(0, vr v0), (1, vi v1), (2, vi v2)] [vi s0] h =
  if s0 = 0 then
    (bd X d 358 7 [(0, vr v0), (1, vi v1), (2, vi (v2 + (1 : Int32)))] [] h)
  else bd X d 358 7 [(0, vr v0), (1, vi v2), (2, vi (v2 + (1 : Int32)))] [] h :=
  (av_bd_eq av_Sg p_358 _ _ _ _ _).trans rfl
theorem e_358 (d : Nat) (v0 : Option Nat) (h : av_H) : ev X (d + 1) 358 [vr v0] h = bd X d 358 0 [(0, vr v0)] [] h := av_ev_eq av_Sg p_358 d _ h rfl
/-! 359 = X11_week -/
set_option maxRecDepth 100000 in
theorem b_359_0 (d : Nat) (v0 : Option Nat) (v1 : Int32) (v2 : Int32) (v3 : Int32) (h : av_H) : bd X d 359 0 [(0, vr v0), (1, vi v1), (2, vi v2), (3, vi v3)] [] h =
  (av_pI h v0 11 0 (0 : Int32)).bind fun g1 =>
  if av_is g1 v0 11 = true then (
  (av_cI (ev X d 257 [vr v0, vi v1] g1)).bind fun q2 =>
  if q2.1 = 0 then
    (av_rI (-1 : Int32) q2.2)
  else (av_cI (ev X d 252 [vi v2, vi (0 : Int32), vi (6 : Int32)] q2.2)).bind fun q3 =>
  if q3.1 = 0 then
    (av_rI (-1 : Int32) q3.2)
  else (av_cI (ev X d 252 [vi v3, vi (0 : Int32), vi (2 : Int32)] q3.2)).bind fun q4 =>
  if q4.1 = 0 then
    (av_rI (-1 : Int32) q4.2)
  else bd X d 359 23 [(0, vr v0), (1, vi v1), (2, vi v2), (3, vi v3), (4, vi (0 : Int32)), (5, vi (0 : Int32))] [] q4.2) else none :=
  (av_bd_eq av_Sg p_359 _ _ _ _ _).trans rfl
set_option maxRecDepth 100000 in
theorem b_359_23 (d : Nat) (v0 : Option Nat) (v1 : Int32) (v2 : Int32) (v3 : Int32) (v4 : Int32) (v5 : Int32) (h : av_H) : bd X d 359 23 [(0, vr v0), (1, vi v1), (2, vi v2), (3, vi v3), (4, vi v4), (5, vi v5)] [] h =
  (av_gI h v0 11 45).bind fun x1 =>
  if v5 < x1 then
    (if v3 < (2 : Int32) then
      ((av_gR h v0 11 46).bind fun x2 =>
      (av_lI X h x2 v5).bind fun x3 =>
      if x3 = v1 then
        ((av_gR h v0 11 49).bind fun x4 =>
        (av_lI X h x4 v5).bind fun x5 =>
        if (7 : Int32) = 0 then none else if (x5 - x5 / (7 : Int32) * (7 : Int32)) = v2 then
          (if v3 = 0 then
            (bd X d 359 23 [(0, vr v0), (1, vi v1), (2, vi v2), (3, vi v3), (4, vi (v4 + (1 : Int32))), (5, vi (v5 + (1 : Int32)))] [] h)
          else (av_gR h v0 11 51).bind fun x6 =>
          (av_lI X h x6 v5).bind fun x7 =>
          bd X d 359 23 [(0, vr v0), (1, vi v1), (2, vi v2), (3, vi v3), (4, vi (v4 + x7)), (5, vi (v5 + (1 : Int32)))] [] h)
        else bd X d 359 23 [(0, vr v0), (1, vi v1), (2, vi v2), (3, vi v3), (4, vi (v4 + (0 : Int32))), (5, vi (v5 + (1 : Int32)))] [] h)
      else bd X d 359 23 [(0, vr v0), (1, vi v1), (2, vi v2), (3, vi v3), (4, vi (v4 + (0 : Int32))), (5, vi (v5 + (1 : Int32)))] [] h)
    else bd X d 359 61 [(0, vr v0), (1, vi v1), (2, vi v2), (3, vi v3), (4, vi v4), (5, vi (0 : Int32))] [] h)
  else bd X d 359 61 [(0, vr v0), (1, vi v1), (2, vi v2), (3, vi v3), (4, vi v4), (5, vi (0 : Int32))] [] h :=
  (av_bd_eq av_Sg p_359 _ _ _ _ _).trans rfl
set_option maxRecDepth 100000 in
theorem b_359_61 (d : Nat) (v0 : Option Nat) (v1 : Int32) (v2 : Int32) (v3 : Int32) (v4 : Int32) (v5 : Int32) (h : av_H) : bd X d 359 61 [(0, vr v0), (1, vi v1), (2, vi v2), (3, vi v3), (4, vi v4), (5, vi v5)] [] h =
  (av_gI h v0 11 92).bind fun x1 =>
  if v5 < x1 then
    (if v3 = (2 : Int32) then
      ((av_gR h v0 11 93).bind fun x2 =>
      (av_lI X h x2 v5).bind fun x3 =>
      if x3 = v1 then
        ((av_gR h v0 11 96).bind fun x4 =>
        (av_lI X h x4 v5).bind fun x5 =>
        if (7 : Int32) = 0 then none else if (x5 - x5 / (7 : Int32) * (7 : Int32)) = v2 then
          (bd X d 359 61 [(0, vr v0), (1, vi v1), (2, vi v2), (3, vi v3), (4, vi (v4 + (1 : Int32))), (5, vi (v5 + (1 : Int32)))] [] h)
        else bd X d 359 61 [(0, vr v0), (1, vi v1), (2, vi v2), (3, vi v3), (4, vi (v4 + (0 : Int32))), (5, vi (v5 + (1 : Int32)))] [] h)
      else bd X d 359 61 [(0, vr v0), (1, vi v1), (2, vi v2), (3, vi v3), (4, vi (v4 + (0 : Int32))), (5, vi (v5 + (1 : Int32)))] [] h)
    else av_rI v4 h)
  else av_rI v4 h :=
  (av_bd_eq av_Sg p_359 _ _ _ _ _).trans rfl
theorem e_359 (d : Nat) (v0 : Option Nat) (v1 : Int32) (v2 : Int32) (v3 : Int32) (h : av_H) : ev X (d + 1) 359 [vr v0, vi v1, vi v2, vi v3] h = bd X d 359 0 [(0, vr v0), (1, vi v1), (2, vi v2), (3, vi v3)] [] h := av_ev_eq av_Sg p_359 d _ h rfl
/-! 360 = X11_aheadOf -/
set_option maxRecDepth 100000 in
theorem b_360_0 (d : Nat) (v0 : Option Nat) (v1 : Int32) (v2 : Int32) (v3 : Int32) (h : av_H) : bd X d 360 0 [(0, vr v0), (1, vi v1), (2, vi v2), (3, vi v3)] [] h =
  bd X d 360 4 [(0, vr v0), (1, vi v1), (2, vi v2), (3, vi v3), (4, vi (0 : Int32)), (5, vi (0 : Int32))] [] h :=
  (av_bd_eq av_Sg p_360 _ _ _ _ _).trans rfl
set_option maxRecDepth 100000 in
theorem b_360_4 (d : Nat) (v0 : Option Nat) (v1 : Int32) (v2 : Int32) (v3 : Int32) (v4 : Int32) (v5 : Int32) (h : av_H) : bd X d 360 4 [(0, vr v0), (1, vi v1), (2, vi v2), (3, vi v3), (4, vi v4), (5, vi v5)] [] h =
  if v5 < (48 : Int32) then
    ((av_gR h v0 11 48).bind fun x1 =>
    (av_lI X h x1 v1).bind fun x2 =>
    if (4 : Int32) = 0 then none else if (x2 + (v5 - v5 / (4 : Int32) * (4 : Int32))) < v3 then
      (bd X d 360 27 [(0, vr v0), (1, vi v1), (2, vi v2), (3, vi v3), (4, vi v4), (5, vi v5)] [] h)
    else if (x2 + (v5 - v5 / (4 : Int32) * (4 : Int32))) = v3 then
      (if (4 : Int32) = 0 then none else if v2 < (v5 / (4 : Int32)) then
        (bd X d 360 27 [(0, vr v0), (1, vi v1), (2, vi v2), (3, vi v3), (4, vi v4), (5, vi v5)] [] h)
      else bd X d 360 29 [(0, vr v0), (1, vi v1), (2, vi v2), (3, vi v3), (4, vi v4), (5, vi v5)] [] h)
    else bd X d 360 29 [(0, vr v0), (1, vi v1), (2, vi v2), (3, vi v3), (4, vi v4), (5, vi v5)] [] h)
  else av_rI v4 h :=
  (av_bd_eq av_Sg p_360 _ _ _ _ _).trans rfl
set_option maxRecDepth 100000 in
theorem b_360_27 (d : Nat) (v0 : Option Nat) (v1 : Int32) (v2 : Int32) (v3 : Int32) (v4 : Int32) (v5 : Int32) (h : av_H) : bd X d 360 27 [(0, vr v0), (1, vi v1), (2, vi v2), (3, vi v3), (4, vi v4), (5, vi v5)] [] h =
  bd X d 360 30 [(0, vr v0), (1, vi v1), (2, vi v2), (3, vi v3), (4, vi v4), (5, vi v5)] [vi (1 : Int32)] h :=
  (av_bd_eq av_Sg p_360 _ _ _ _ _).trans rfl
set_option maxRecDepth 100000 in
theorem b_360_29 (d : Nat) (v0 : Option Nat) (v1 : Int32) (v2 : Int32) (v3 : Int32) (v4 : Int32) (v5 : Int32) (h : av_H) : bd X d 360 29 [(0, vr v0), (1, vi v1), (2, vi v2), (3, vi v3), (4, vi v4), (5, vi v5)] [] h =
  bd X d 360 30 [(0, vr v0), (1, vi v1), (2, vi v2), (3, vi v3), (4, vi v4), (5, vi v5)] [vi (0 : Int32)] h :=
  (av_bd_eq av_Sg p_360 _ _ _ _ _).trans rfl
set_option maxRecDepth 100000 in
theorem b_360_30 (d : Nat) (v0 : Option Nat) (v1 : Int32) (v2 : Int32) (v3 : Int32) (v4 : Int32) (v5 : Int32) (s0 : Int32) (h : av_H) : bd X d 360 30 [(0, vr v0), (1, vi v1), (2, vi v2), (3, vi v3), (4, vi v4), (5, vi v5)] [vi s0] h =
  (av_gR h v0 11 63).bind fun x1 =>
  (av_lL h x1 v1).bind fun x2 =>
  if (lg_cmp ((x2 >>> (v5.toInt64 &&& 63)) &&& (1 : Int64)) (1 : Int64)) = 0 then
    (if s0 = 0 then
      (bd X d 360 4 [(0, vr v0), (1, vi v1), (2, vi v2), (3, vi v3), (4, vi (v4 + (0 : Int32))), (5, vi (v5 + (1 : Int32)))] [] h)
    else bd X d 360 4 [(0, vr v0), (1, vi v1), (2, vi v2), (3, vi v3), (4, vi (v4 + (1 : Int32))), (5, vi (v5 + (1 : Int32)))] [] h)
  else bd X d 360 4 [(0, vr v0), (1, vi v1), (2, vi v2), (3, vi v3), (4, vi (v4 + (0 : Int32))), (5, vi (v5 + (1 : Int32)))] [] h :=
  (av_bd_eq av_Sg p_360 _ _ _ _ _).trans rfl
theorem e_360 (d : Nat) (v0 : Option Nat) (v1 : Int32) (v2 : Int32) (v3 : Int32) (h : av_H) : ev X (d + 1) 360 [vr v0, vi v1, vi v2, vi v3] h = bd X d 360 0 [(0, vr v0), (1, vi v1), (2, vi v2), (3, vi v3)] [] h := av_ev_eq av_Sg p_360 d _ h rfl
/-! 361 = X11_water -/
set_option maxRecDepth 100000 in
theorem b_361_0 (d : Nat) (v0 : Option Nat) (v1 : Int32) (v2 : Int32) (v3 : Int32) (v4 : Int32) (v5 : Int32) (v6 : Int32) (h : av_H) : bd X d 361 0 [(0, vr v0), (1, vi v1), (2, vi v2), (3, vi v3), (4, vi v4), (5, vi v5), (6, vi v6)] [] h =
  (av_pI h v0 11 0 (0 : Int32)).bind fun g1 =>
  if av_is g1 v0 11 = true then (
  (av_cI (ev X d 259 [vr v0, vi v1, vi v2, vi v3, vi v4] g1)).bind fun q2 =>
  if q2.1 = 0 then
    (av_rI (-1 : Int32) q2.2)
  else (av_cI (ev X d 253 [vi v5] q2.2)).bind fun q3 =>
  if q3.1 = 0 then
    (av_rI (-1 : Int32) q3.2)
  else (av_cI (ev X d 253 [vi v6] q3.2)).bind fun q4 =>
  if q4.1 = 0 then
    (av_rI (-1 : Int32) q4.2)
  else if v6 < v5 then
    (av_rI (-1 : Int32) q4.2)
  else bd X d 361 25 [(0, vr v0), (1, vi v1), (2, vi v2), (3, vi v3), (4, vi v4), (5, vi v5), (6, vi v6), (7, vi (0 : Int32)), (8, vi (0 : Int32))] [] q4.2) else none :=
  (av_bd_eq av_Sg p_361 _ _ _ _ _).trans rfl
set_option maxRecDepth 100000 in
theorem b_361_25 (d : Nat) (v0 : Option Nat) (v1 : Int32) (v2 : Int32) (v3 : Int32) (v4 : Int32) (v5 : Int32) (v6 : Int32) (v7 : Int32) (v8 : Int32) (h : av_H) : bd X d 361 25 [(0, vr v0), (1, vi v1), (2, vi v2), (3, vi v3), (4, vi v4), (5, vi v5), (6, vi v6), (7, vi v7), (8, vi v8)] [] h =
  (av_gI h v0 11 45).bind fun x1 =>
  if v8 < x1 then
    ((av_gR h v0 11 49).bind fun x2 =>
    (av_lI X h x2 v8).bind fun x3 =>
    (av_cI (ev X d 252 [vi x3, vi v5, vi v6] h)).bind fun q4 =>
    if q4.1 = 0 then
      (bd X d 361 25 [(0, vr v0), (1, vi v1), (2, vi v2), (3, vi v3), (4, vi v4), (5, vi v5), (6, vi v6), (7, vi v7), (8, vi (v8 + (1 : Int32)))] [] q4.2)
    else if av_is q4.2 v0 11 = true then (
    (av_cI (ev X d 307 [vr v0, vi v8, vi v1, vi v2, vi v3, vi v4] q4.2)).bind fun q5 =>
    if q5.1 = 0 then
      (bd X d 361 25 [(0, vr v0), (1, vi v1), (2, vi v2), (3, vi v3), (4, vi v4), (5, vi v5), (6, vi v6), (7, vi v7), (8, vi (v8 + (1 : Int32)))] [] q5.2)
    else (av_gR q5.2 v0 11 58).bind fun x6 =>
    (av_lI X q5.2 x6 v8).bind fun x7 =>
    (av_gR q5.2 v0 11 55).bind fun x8 =>
    (av_lI X q5.2 x8 v8).bind fun x9 =>
    if x9 = 0 then none else if av_is q5.2 v0 11 = true then (
    (av_cI (ev X d 360 [vr v0, vi v8, vi v3, vi v4] q5.2)).bind fun q10 =>
    (av_gR q10.2 v0 11 58).bind fun x11 =>
    (av_lI X q10.2 x11 v8).bind fun x12 =>
    (av_gR q10.2 v0 11 55).bind fun x13 =>
    (av_lI X q10.2 x13 v8).bind fun x14 =>
    if x14 = 0 then none else if q10.1 < (x12 - x12 / x14 * x14) then
      (bd X d 361 25 [(0, vr v0), (1, vi v1), (2, vi v2), (3, vi v3), (4, vi v4), (5, vi v5), (6, vi v6), (7, vi (v7 + ((x7 / x9) + (1 : Int32)))), (8, vi (v8 + (1 : Int32)))] [] q10.2)
    else bd X d 361 25 [(0, vr v0), (1, vi v1), (2, vi v2), (3, vi v3), (4, vi v4), (5, vi v5), (6, vi v6), (7, vi (v7 + ((x7 / x9) + (0 : Int32)))), (8, vi (v8 + (1 : Int32)))] [] q10.2) else none) else none)
  else av_rI v7 h :=
  (av_bd_eq av_Sg p_361 _ _ _ _ _).trans rfl
theorem e_361 (d : Nat) (v0 : Option Nat) (v1 : Int32) (v2 : Int32) (v3 : Int32) (v4 : Int32) (v5 : Int32) (v6 : Int32) (h : av_H) : ev X (d + 1) 361 [vr v0, vi v1, vi v2, vi v3, vi v4, vi v5, vi v6] h = bd X d 361 0 [(0, vr v0), (1, vi v1), (2, vi v2), (3, vi v3), (4, vi v4), (5, vi v5), (6, vi v6)] [] h := av_ev_eq av_Sg p_361 d _ h rfl
/-! 362 = X11_isIn -/
set_option maxRecDepth 100000 in
theorem b_362_0 (d : Nat) (v0 : Option Nat) (v1 : Int32) (v2 : Int32) (h : av_H) : bd X d 362 0 [(0, vr v0), (1, vi v1), (2, vi v2)] [] h =
  (av_gR h v0 11 53).bind fun x1 =>
  (av_lI X h x1 v1).bind fun x2 =>
  if x2 = v2 then
    ((av_bz (1 : Int32)).bind fun w => av_rI w h)
  else (av_gR h v0 11 54).bind fun x3 =>
  (av_lI X h x3 v1).bind fun x4 =>
  if x4 = v2 then
    ((av_bz (1 : Int32)).bind fun w => av_rI w h)
  else (av_bz (0 : Int32)).bind fun w => av_rI w h :=
  (av_bd_eq av_Sg p_362 _ _ _ _ _).trans rfl
theorem e_362 (d : Nat) (v0 : Option Nat) (v1 : Int32) (v2 : Int32) (h : av_H) : ev X (d + 1) 362 [vr v0, vi v1, vi v2] h = bd X d 362 0 [(0, vr v0), (1, vi v1), (2, vi v2)] [] h := av_ev_eq av_Sg p_362 d _ h rfl
/-! 363 = X11_aloft -/
set_option maxRecDepth 100000 in
theorem b_363_0 (d : Nat) (v0 : Option Nat) (v1 : Int32) (v2 : Int32) (v3 : Int32) (h : av_H) : bd X d 363 0 [(0, vr v0), (1, vi v1), (2, vi v2), (3, vi v3)] [] h =
  (av_pI h v0 11 0 (0 : Int32)).bind fun g1 =>
  (av_cI (ev X d 256 [vi v1] g1)).bind fun q2 =>
  if q2.1 = 0 then
    (av_rI (-1 : Int32) q2.2)
  else (av_cI (ev X d 253 [vi v2] q2.2)).bind fun q3 =>
  if q3.1 = 0 then
    (av_rI (-1 : Int32) q3.2)
  else (av_cI (ev X d 253 [vi v3] q3.2)).bind fun q4 =>
  if q4.1 = 0 then
    (av_rI (-1 : Int32) q4.2)
  else if v3 < v2 then
    (av_rI (-1 : Int32) q4.2)
  else bd X d 363 21 [(0, vr v0), (1, vi v1), (2, vi v2), (3, vi v3), (4, vi (0 : Int32)), (5, vi (0 : Int32))] [] q4.2 :=
  (av_bd_eq av_Sg p_363 _ _ _ _ _).trans rfl
set_option maxRecDepth 100000 in
theorem b_363_21 (d : Nat) (v0 : Option Nat) (v1 : Int32) (v2 : Int32) (v3 : Int32) (v4 : Int32) (v5 : Int32) (h : av_H) : bd X d 363 21 [(0, vr v0), (1, vi v1), (2, vi v2), (3, vi v3), (4, vi v4), (5, vi v5)] [] h =
  (av_gI h v0 11 45).bind fun x1 =>
  if v5 < x1 then
    (if av_is h v0 11 = true then (
    (av_cI (ev X d 362 [vr v0, vi v5, vi v1] h)).bind fun q2 =>
    if q2.1 = 0 then
      (bd X d 363 21 [(0, vr v0), (1, vi v1), (2, vi v2), (3, vi v3), (4, vi (v4 + (0 : Int32))), (5, vi (v5 + (1 : Int32)))] [] q2.2)
    else (av_gR q2.2 v0 11 49).bind fun x3 =>
    (av_lI X q2.2 x3 v5).bind fun x4 =>
    (av_cI (ev X d 252 [vi x4, vi v2, vi v3] q2.2)).bind fun q5 =>
    if q5.1 = 0 then
      (bd X d 363 21 [(0, vr v0), (1, vi v1), (2, vi v2), (3, vi v3), (4, vi (v4 + (0 : Int32))), (5, vi (v5 + (1 : Int32)))] [] q5.2)
    else (av_gR q5.2 v0 11 51).bind fun x6 =>
    (av_lI X q5.2 x6 v5).bind fun x7 =>
    bd X d 363 21 [(0, vr v0), (1, vi v1), (2, vi v2), (3, vi v3), (4, vi (v4 + x7)), (5, vi (v5 + (1 : Int32)))] [] q5.2) else none)
  else av_rI v4 h :=
  (av_bd_eq av_Sg p_363 _ _ _ _ _).trans rfl
theorem e_363 (d : Nat) (v0 : Option Nat) (v1 : Int32) (v2 : Int32) (v3 : Int32) (h : av_H) : ev X (d + 1) 363 [vr v0, vi v1, vi v2, vi v3] h = bd X d 363 0 [(0, vr v0), (1, vi v1), (2, vi v2), (3, vi v3)] [] h := av_ev_eq av_Sg p_363 d _ h rfl
/-! 364 = X11_learnt -/
set_option maxRecDepth 100000 in
theorem b_364_0 (d : Nat) (v0 : Option Nat) (v1 : Int32) (v2 : Int32) (h : av_H) : bd X d 364 0 [(0, vr v0), (1, vi v1), (2, vi v2)] [] h =
  (av_pI h v0 11 0 (0 : Int32)).bind fun g1 =>
  (av_cI (ev X d 256 [vi v1] g1)).bind fun q2 =>
  if q2.1 = 0 then
    (av_rI (-1 : Int32) q2.2)
  else (av_cI (ev X d 252 [vi v2, vi (1 : Int32), vi (999 : Int32)] q2.2)).bind fun q3 =>
  if q3.1 = 0 then
    (av_rI (-1 : Int32) q3.2)
  else bd X d 364 17 [(0, vr v0), (1, vi v1), (2, vi v2), (3, vi (0 : Int32)), (4, vi (0 : Int32))] [] q3.2 :=
  (av_bd_eq av_Sg p_364 _ _ _ _ _).trans rfl
set_option maxRecDepth 100000 in
theorem b_364_17 (d : Nat) (v0 : Option Nat) (v1 : Int32) (v2 : Int32) (v3 : Int32) (v4 : Int32) (h : av_H) : bd X d 364 17 [(0, vr v0), (1, vi v1), (2, vi v2), (3, vi v3), (4, vi v4)] [] h =
  (av_gI h v0 11 45).bind fun x1 =>
  if v4 < x1 then
    (if av_is h v0 11 = true then (
    (av_cI (ev X d 362 [vr v0, vi v4, vi v1] h)).bind fun q2 =>
    if q2.1 = 0 then
      (bd X d 364 51 [(0, vr v0), (1, vi v1), (2, vi v2), (4, vi v4)] [vi v3] q2.2)
    else (av_gR q2.2 v0 11 28).bind fun x3 =>
    (av_gR q2.2 v0 11 53).bind fun x4 =>
    (av_lI X q2.2 x4 v4).bind fun x5 =>
    if x5 = v1 then
      ((av_gR q2.2 v0 11 54).bind fun x6 =>
      (av_lI X q2.2 x6 v4).bind fun x7 =>
      bd X d 364 44 [(0, vr v0), (1, vi v1), (2, vi v2), (4, vi v4)] [vi x7, vr x3, vi v3] q2.2)
    else (av_gR q2.2 v0 11 53).bind fun x8 =>
    (av_lI X q2.2 x8 v4).bind fun x9 =>
    bd X d 364 44 [(0, vr v0), (1, vi v1), (2, vi v2), (4, vi v4)] [vi x9, vr x3, vi v3] q2.2) else none)
  else av_rI (-1 : Int32) h :=
  (av_bd_eq av_Sg p_364 _ _ _ _ _).trans rfl
set_option maxRecDepth 100000 in
theorem b_364_44 (d : Nat) (v0 : Option Nat) (v1 : Int32) (v2 : Int32) (v4 : Int32) (s0 : Int32) (s1 : Option Nat) (s2 : Int32) (h : av_H) : bd X d 364 44 [(0, vr v0), (1, vi v1), (2, vi v2), (4, vi v4)] [vi s2, vr s1, vi s0] h =
  (av_lB h s1 103 s2).bind fun x1 =>
  if x1 = 0 then
    (bd X d 364 51 [(0, vr v0), (1, vi v1), (2, vi v2), (4, vi v4)] [vi s0] h)
  else (av_gR h v0 11 51).bind fun x2 =>
  (av_lI X h x2 v4).bind fun x3 =>
  bd X d 364 52 [(0, vr v0), (1, vi v1), (2, vi v2), (4, vi v4)] [vi x3, vi s0] h :=
  (av_bd_eq av_Sg p_364 _ _ _ _ _).trans rfl
set_option maxRecDepth 100000 in
theorem b_364_51 (d : Nat) (v0 : Option Nat) (v1 : Int32) (v2 : Int32) (v4 : Int32) (s0 : Int32) (h : av_H) : bd X d 364 51 [(0, vr v0), (1, vi v1), (2, vi v2), (4, vi v4)] [vi s0] h =
  bd X d 364 52 [(0, vr v0), (1, vi v1), (2, vi v2), (4, vi v4)] [vi (0 : Int32), vi s0] h :=
  (av_bd_eq av_Sg p_364 _ _ _ _ _).trans rfl
set_option maxRecDepth 100000 in
theorem b_364_52 (d : Nat) (v0 : Option Nat) (v1 : Int32) (v2 : Int32) (v4 : Int32) (s0 : Int32) (s1 : Int32) (h : av_H) : bd X d 364 52 [(0, vr v0), (1, vi v1), (2, vi v2), (4, vi v4)] [vi s1, vi s0] h =
  if (s0 + s1) < v2 then
    (bd X d 364 17 [(0, vr v0), (1, vi v1), (2, vi v2), (3, vi (s0 + s1)), (4, vi (v4 + (1 : Int32)))] [] h)
  else (av_gR h v0 11 49).bind fun x1 =>
  (av_lI X h x1 v4).bind fun x2 =>
  av_rI x2 h :=
  (av_bd_eq av_Sg p_364 _ _ _ _ _).trans rfl
theorem e_364 (d : Nat) (v0 : Option Nat) (v1 : Int32) (v2 : Int32) (h : av_H) : ev X (d + 1) 364 [vr v0, vi v1, vi v2] h = bd X d 364 0 [(0, vr v0), (1, vi v1), (2, vi v2)] [] h := av_ev_eq av_Sg p_364 d _ h rfl
/-! 365 = X11_gap -/
set_option maxRecDepth 100000 in
theorem b_365_0 (d : Nat) (v0 : Option Nat) (v1 : Int32) (h : av_H) : bd X d 365 0 [(0, vr v0), (1, vi v1)] [] h =
  (av_pI h v0 11 0 (0 : Int32)).bind fun g1 =>
  bd X d 365 7 [(0, vr v0), (1, vi v1), (2, vi (-1 : Int32)), (3, vi (0 : Int32))] [] g1 :=
  (av_bd_eq av_Sg p_365 _ _ _ _ _).trans rfl
set_option maxRecDepth 100000 in
theorem b_365_7 (d : Nat) (v0 : Option Nat) (v1 : Int32) (v2 : Int32) (v3 : Int32) (h : av_H) : bd X d 365 7 [(0, vr v0), (1, vi v1), (2, vi v2), (3, vi v3)] [] h =
  (av_gI h v0 11 45).bind fun x1 =>
  if v3 < x1 then
    ((av_cI (ev X d 256 [vi v1] h)).bind fun q2 =>
    if q2.1 = 0 then
      (av_rI v2 q2.2)
    else (av_gR q2.2 v0 11 53).bind fun x3 =>
    (av_lI X q2.2 x3 v3).bind fun x4 =>
    if x4 = v1 then
      ((av_gR q2.2 v0 11 61).bind fun x5 =>
      (av_lI X q2.2 x5 v3).bind fun x6 =>
      bd X d 365 37 [(0, vr v0), (1, vi v1), (2, vi v2), (3, vi v3)] [vi x6] q2.2)
    else (av_gR q2.2 v0 11 54).bind fun x7 =>
    (av_lI X q2.2 x7 v3).bind fun x8 =>
    if x8 = v1 then
      ((av_gR q2.2 v0 11 62).bind fun x9 =>
      (av_lI X q2.2 x9 v3).bind fun x10 =>
      bd X d 365 37 [(0, vr v0), (1, vi v1), (2, vi v2), (3, vi v3)] [vi x10] q2.2)
    else bd X d 365 37 [(0, vr v0), (1, vi v1), (2, vi v2), (3, vi v3)] [vi (-1 : Int32)] q2.2)
  else av_rI v2 h :=
  (av_bd_eq av_Sg p_365 _ _ _ _ _).trans rfl
set_option maxRecDepth 100000 in
theorem b_365_37 (d : Nat) (v0 : Option Nat) (v1 : Int32) (v2 : Int32) (v3 : Int32) (s0 : Int32) (h : av_H) : bd X d 365 37 [(0, vr v0), (1, vi v1), (2, vi v2), (3, vi v3)] [vi s0] h =
  if v2 < s0 then
    (bd X d 365 7 [(0, vr v0), (1, vi v1), (2, vi s0), (3, vi (v3 + (1 : Int32)))] [] h)
  else bd X d 365 7 [(0, vr v0), (1, vi v1), (2, vi v2), (3, vi (v3 + (1 : Int32)))] [] h :=
  (av_bd_eq av_Sg p_365 _ _ _ _ _).trans rfl
theorem e_365 (d : Nat) (v0 : Option Nat) (v1 : Int32) (h : av_H) : ev X (d + 1) 365 [vr v0, vi v1] h = bd X d 365 0 [(0, vr v0), (1, vi v1)] [] h := av_ev_eq av_Sg p_365 d _ h rfl
/-! 366 = X11_row -/
set_option maxRecDepth 100000 in
theorem b_366_0 (d : Nat) (v0 : Option Nat) (v1 : Int32) (v2 : Int32) (v3 : Int32) (v4 : Int32) (v5 : Int32) (v6 : Int32) (v7 : Int32) (h : av_H) : bd X d 366 0 [(0, vr v0), (1, vi v1), (2, vi v2), (3, vi v3), (4, vi v4), (5, vi v5), (6, vi v6), (7, vi v7)] [] h =
  (av_pI h v0 11 0 (0 : Int32)).bind fun g1 =>
  if av_is g1 v0 11 = true then (
  (av_cI (ev X d 260 [vr v0, vi v1, vi v2, vi v3] g1)).bind fun q2 =>
  if q2.1 = 0 then
    (av_rI (-1 : Int32) q2.2)
  else (av_cI (ev X d 253 [vi v4] q2.2)).bind fun q3 =>
  if q3.1 = 0 then
    (av_rI (-1 : Int32) q3.2)
  else (av_cI (ev X d 254 [vi v5] q3.2)).bind fun q4 =>
  if q4.1 = 0 then
    (av_rI (-1 : Int32) q4.2)
  else (av_cI (ev X d 256 [vi v6] q4.2)).bind fun q5 =>
  if q5.1 = 0 then
    (av_rI (-1 : Int32) q5.2)
  else (av_cI (ev X d 256 [vi v7] q5.2)).bind fun q6 =>
  if q6.1 = 0 then
    (av_rI (-1 : Int32) q6.2)
  else (av_gI q6.2 v0 11 98).bind fun x7 =>
  if x7 = (12 : Int32) then
    (av_rI (-1 : Int32) q6.2)
  else (av_gI q6.2 v0 11 98).bind fun x8 =>
  (av_gR q6.2 v0 11 99).bind fun x9 =>
  (av_sI q6.2 x9 ((7 : Int32) * x8) v1).bind fun g10 =>
  (av_gR g10 v0 11 99).bind fun x11 =>
  (av_sI g10 x11 (((7 : Int32) * x8) + (1 : Int32)) v2).bind fun g12 =>
  (av_gR g12 v0 11 99).bind fun x13 =>
  (av_sI g12 x13 (((7 : Int32) * x8) + (2 : Int32)) v3).bind fun g14 =>
  (av_gR g14 v0 11 99).bind fun x15 =>
  (av_sI g14 x15 (((7 : Int32) * x8) + (3 : Int32)) v4).bind fun g16 =>
  (av_gR g16 v0 11 99).bind fun x17 =>
  (av_sI g16 x17 (((7 : Int32) * x8) + (4 : Int32)) v5).bind fun g18 =>
  (av_gR g18 v0 11 99).bind fun x19 =>
  (av_sI g18 x19 (((7 : Int32) * x8) + (5 : Int32)) v6).bind fun g20 =>
  (av_gR g20 v0 11 99).bind fun x21 =>
  (av_sI g20 x21 (((7 : Int32) * x8) + (6 : Int32)) v7).bind fun g22 =>
  (av_gI g22 v0 11 98).bind fun x23 =>
  (av_pI g22 v0 11 98 (x23 + (1 : Int32))).bind fun g24 =>
  (av_gI g24 v0 11 98).bind fun x25 =>
  av_rI x25 g24) else none :=
  (av_bd_eq av_Sg p_366 _ _ _ _ _).trans rfl
theorem e_366 (d : Nat) (v0 : Option Nat) (v1 : Int32) (v2 : Int32) (v3 : Int32) (v4 : Int32) (v5 : Int32) (v6 : Int32) (v7 : Int32) (h : av_H) : ev X (d + 1) 366 [vr v0, vi v1, vi v2, vi v3, vi v4, vi v5, vi v6, vi v7] h = bd X d 366 0 [(0, vr v0), (1, vi v1), (2, vi v2), (3, vi v3), (4, vi v4), (5, vi v5), (6, vi v6), (7, vi v7)] [] h := av_ev_eq av_Sg p_366 d _ h rfl
/-! 367 = X11_clear -/
set_option maxRecDepth 100000 in
theorem b_367_0 (d : Nat) (v0 : Option Nat) (h : av_H) : bd X d 367 0 [(0, vr v0)] [] h =
  (av_pI h v0 11 0 (0 : Int32)).bind fun g1 =>
  (av_pI g1 v0 11 98 (0 : Int32)).bind fun g2 =>
  (av_bz (1 : Int32)).bind fun w => av_rI w g2 :=
  (av_bd_eq av_Sg p_367 _ _ _ _ _).trans rfl
theorem e_367 (d : Nat) (v0 : Option Nat) (h : av_H) : ev X (d + 1) 367 [vr v0] h = bd X d 367 0 [(0, vr v0)] [] h := av_ev_eq av_Sg p_367 d _ h rfl
/-! 368 = X11_triesPanes -/
set_option maxRecDepth 100000 in
theorem b_368_0 (d : Nat) (v0 : Option Nat) (v1 : Int32) (h : av_H) : bd X d 368 0 [(0, vr v0), (1, vi v1)] [] h =
  bd X d 368 2 [(0, vr v0), (1, vi v1), (2, vi (0 : Int32))] [] h :=
  (av_bd_eq av_Sg p_368 _ _ _ _ _).trans rfl
set_option maxRecDepth 100000 in
theorem b_368_2 (d : Nat) (v0 : Option Nat) (v1 : Int32) (v2 : Int32) (h : av_H) : bd X d 368 2 [(0, vr v0), (1, vi v1), (2, vi v2)] [] h =
  if v2 < (48 : Int32) then
    ((av_gR h v0 11 63).bind fun x1 =>
    (av_lL h x1 v1).bind fun x2 =>
    if (lg_cmp ((x2 >>> (v2.toInt64 &&& 63)) &&& (1 : Int64)) (1 : Int64)) = 0 then
      ((av_gR h v0 11 102).bind fun x3 =>
      (av_gR h v0 11 46).bind fun x4 =>
      (av_lI X h x4 v1).bind fun x5 =>
      (av_gR h v0 11 47).bind fun x6 =>
      (av_lI X h x6 v1).bind fun x7 =>
      if (4 : Int32) = 0 then none else (av_gR h v0 11 48).bind fun x8 =>
      (av_lI X h x8 v1).bind fun x9 =>
      if (4 : Int32) = 0 then none else (av_cI (ev X d 258 [vi x5, vi x7, vi (v2 / (4 : Int32)), vi (x9 + (v2 - v2 / (4 : Int32) * (4 : Int32)))] h)).bind fun q10 =>
      (av_sZ q10.2 x3 q10.1 (1 : Int32)).bind fun g11 =>
      bd X d 368 2 [(0, vr v0), (1, vi v1), (2, vi (v2 + (1 : Int32)))] [] g11)
    else bd X d 368 2 [(0, vr v0), (1, vi v1), (2, vi (v2 + (1 : Int32)))] [] h)
  else av_rV h :=
  (av_bd_eq av_Sg p_368 _ _ _ _ _).trans rfl
theorem e_368 (d : Nat) (v0 : Option Nat) (v1 : Int32) (h : av_H) : ev X (d + 1) 368 [vr v0, vi v1] h = bd X d 368 0 [(0, vr v0), (1, vi v1)] [] h := av_ev_eq av_Sg p_368 d _ h rfl
/-! 369 = X11_tries -/
set_option maxRecDepth 100000 in
theorem b_369_0 (d : Nat) (v0 : Option Nat) (h : av_H) : bd X d 369 0 [(0, vr v0)] [] h =
  (av_gI h v0 11 45).bind fun x1 =>
  bd X d 369 5 [(0, vr v0), (1, vi x1), (2, vi (0 : Int32))] [] h :=
  (av_bd_eq av_Sg p_369 _ _ _ _ _).trans rfl
set_option maxRecDepth 100000 in
theorem b_369_5 (d : Nat) (v0 : Option Nat) (v1 : Int32) (v2 : Int32) (h : av_H) : bd X d 369 5 [(0, vr v0), (1, vi v1), (2, vi v2)] [] h =
  if v2 < (6 : Int32) then
    ((av_gR h v0 11 100).bind fun x1 =>
    (av_gR h v0 11 17).bind fun x2 =>
    (av_lI X h x2 v2).bind fun x3 =>
    (av_sI h x1 v2 x3).bind fun g4 =>
    bd X d 369 5 [(0, vr v0), (1, vi v1), (2, vi (v2 + (1 : Int32)))] [] g4)
  else bd X d 369 20 [(0, vr v0), (1, vi v1), (2, vi (0 : Int32))] [] h :=
  (av_bd_eq av_Sg p_369 _ _ _ _ _).trans rfl
set_option maxRecDepth 100000 in
theorem b_369_20 (d : Nat) (v0 : Option Nat) (v1 : Int32) (v2 : Int32) (h : av_H) : bd X d 369 20 [(0, vr v0), (1, vi v1), (2, vi v2)] [] h =
  if v2 < (2880 : Int32) then
    ((av_gR h v0 11 101).bind fun x1 =>
    (av_gR h v0 11 13).bind fun x2 =>
    (av_lI X h x2 v2).bind fun x3 =>
    (av_sI h x1 v2 x3).bind fun g4 =>
    (av_gR g4 v0 11 102).bind fun x5 =>
    (av_sZ g4 x5 v2 (0 : Int32)).bind fun g6 =>
    bd X d 369 20 [(0, vr v0), (1, vi v1), (2, vi (v2 + (1 : Int32)))] [] g6)
  else (av_gR h v0 11 103).bind fun x7 =>
  (av_sL h x7 (0 : Int32) (-1 : Int64)).bind fun g8 =>
  (av_gR g8 v0 11 103).bind fun x9 =>
  (av_sL g8 x9 (1 : Int32) (-1 : Int64)).bind fun g10 =>
  (av_gR g10 v0 11 103).bind fun x11 =>
  (av_sL g10 x11 (2 : Int32) (0 : Int64)).bind fun g12 =>
  (av_gR g12 v0 11 103).bind fun x13 =>
  (av_sL g12 x13 (3 : Int32) (0 : Int64)).bind fun g14 =>
  bd X d 369 60 [(0, vr v0), (1, vi v1), (2, vi (0 : Int32))] [] g14 :=
  (av_bd_eq av_Sg p_369 _ _ _ _ _).trans rfl
set_option maxRecDepth 100000 in
theorem b_369_60 (d : Nat) (v0 : Option Nat) (v1 : Int32) (v2 : Int32) (h : av_H) : bd X d 369 60 [(0, vr v0), (1, vi v1), (2, vi v2)] [] h =
  (av_gI h v0 11 98).bind fun x1 =>
  if v2 < x1 then
    ((av_gR h v0 11 103).bind fun x2 =>
    (av_lL h x2 (0 : Int32)).bind fun x3 =>
    if (lg_cmp x3 (0 : Int64)) < 0 then
      ((av_gR h v0 11 99).bind fun x4 =>
      (av_lI X h x4 ((7 : Int32) * v2)).bind fun x5 =>
      (av_gR h v0 11 99).bind fun x6 =>
      (av_lI X h x6 (((7 : Int32) * v2) + (1 : Int32))).bind fun x7 =>
      (av_gR h v0 11 99).bind fun x8 =>
      (av_lI X h x8 (((7 : Int32) * v2) + (2 : Int32))).bind fun x9 =>
      (av_gR h v0 11 99).bind fun x10 =>
      (av_lI X h x10 (((7 : Int32) * v2) + (3 : Int32))).bind fun x11 =>
      (av_gR h v0 11 99).bind fun x12 =>
      (av_lI X h x12 (((7 : Int32) * v2) + (4 : Int32))).bind fun x13 =>
      (av_gR h v0 11 99).bind fun x14 =>
      (av_lI X h x14 (((7 : Int32) * v2) + (5 : Int32))).bind fun x15 =>
      (av_gR h v0 11 99).bind fun x16 =>
      (av_lI X h x16 (((7 : Int32) * v2) + (6 : Int32))).bind fun x17 =>
      if av_is h v0 11 = true then (
      (av_cI (ev X d 298 [vr v0, vi x5, vi x7, vi x9, vi x11, vi x13, vi x15, vi x17] h)).bind fun q18 =>
      if q18.1 = 0 then
        ((av_gR q18.2 v0 11 99).bind fun x19 =>
        (av_lI X q18.2 x19 ((7 : Int32) * v2)).bind fun x20 =>
        (av_gR q18.2 v0 11 99).bind fun x21 =>
        (av_lI X q18.2 x21 (((7 : Int32) * v2) + (1 : Int32))).bind fun x22 =>
        (av_gR q18.2 v0 11 99).bind fun x23 =>
        (av_lI X q18.2 x23 (((7 : Int32) * v2) + (2 : Int32))).bind fun x24 =>
        (av_gR q18.2 v0 11 99).bind fun x25 =>
        (av_lI X q18.2 x25 (((7 : Int32) * v2) + (3 : Int32))).bind fun x26 =>
        (av_gR q18.2 v0 11 99).bind fun x27 =>
        (av_lI X q18.2 x27 (((7 : Int32) * v2) + (4 : Int32))).bind fun x28 =>
        (av_gR q18.2 v0 11 99).bind fun x29 =>
        (av_lI X q18.2 x29 (((7 : Int32) * v2) + (5 : Int32))).bind fun x30 =>
        (av_gR q18.2 v0 11 99).bind fun x31 =>
        (av_lI X q18.2 x31 (((7 : Int32) * v2) + (6 : Int32))).bind fun x32 =>
        if av_is q18.2 v0 11 = true then (
        (av_cI (ev X d 299 [vr v0, vi x20, vi x22, vi x24, vi x26, vi x28, vi x30, vi x32] q18.2)).bind fun q33 =>
        (av_gR q33.2 v0 11 103).bind fun x34 =>
        (av_lL q33.2 x34 (2 : Int32)).bind fun x35 =>
        (av_gR q33.2 v0 11 57).bind fun x36 =>
        (av_lI X q33.2 x36 q33.1).bind fun x37 =>
        (av_sL q33.2 x34 (2 : Int32) (x35 + (x37.toInt64))).bind fun g38 =>
        (av_gR g38 v0 11 103).bind fun x39 =>
        (av_lL g38 x39 (3 : Int32)).bind fun x40 =>
        (av_gR g38 v0 11 51).bind fun x41 =>
        (av_lI X g38 x41 q33.1).bind fun x42 =>
        (av_sL g38 x39 (3 : Int32) (x40 + (x42.toInt64))).bind fun g43 =>
        if av_is g43 v0 11 = true then (
        (av_cV (ev X d 368 [vr v0, vi (q33.1)] g43)).bind fun q44 =>
        bd X d 369 60 [(0, vr v0), (1, vi v1), (2, vi (v2 + (1 : Int32)))] [] q44) else none) else none)
      else (av_gR q18.2 v0 11 103).bind fun x45 =>
      (av_sL q18.2 x45 (0 : Int32) (v2.toInt64)).bind fun g46 =>
      (av_gR g46 v0 11 103).bind fun x47 =>
      (av_sL g46 x47 (1 : Int32) (q18.1.toInt64)).bind fun g48 =>
      bd X d 369 60 [(0, vr v0), (1, vi v1), (2, vi (v2 + (1 : Int32)))] [] g48) else none)
    else (av_gR h v0 11 103).bind fun x49 =>
    (av_sL h x49 (4 : Int32) (0 : Int64)).bind fun g50 =>
    bd X d 369 212 [(0, vr v0), (1, vi v1), (2, vi (0 : Int32))] [] g50)
  else (av_gR h v0 11 103).bind fun x51 =>
  (av_sL h x51 (4 : Int32) (0 : Int64)).bind fun g52 =>
  bd X d 369 212 [(0, vr v0), (1, vi v1), (2, vi (0 : Int32))] [] g52 :=
  (av_bd_eq av_Sg p_369 _ _ _ _ _).trans rfl
set_option maxRecDepth 100000 in
theorem b_369_212 (d : Nat) (v0 : Option Nat) (v1 : Int32) (v2 : Int32) (h : av_H) : bd X d 369 212 [(0, vr v0), (1, vi v1), (2, vi v2)] [] h =
  if v2 < (2880 : Int32) then
    ((av_gR h v0 11 13).bind fun x1 =>
    (av_gR h v0 11 101).bind fun x2 =>
    (av_lI X h x2 v2).bind fun x3 =>
    (av_sI h x1 v2 x3).bind fun g4 =>
    (av_gR g4 v0 11 103).bind fun x5 =>
    (av_lL g4 x5 (4 : Int32)).bind fun x6 =>
    (av_gR g4 v0 11 102).bind fun x7 =>
    (av_lB g4 x7 103 v2).bind fun x8 =>
    if x8 = 0 then
      ((av_sL g4 x5 (4 : Int32) (x6 + (0 : Int64))).bind fun g9 =>
      bd X d 369 212 [(0, vr v0), (1, vi v1), (2, vi (v2 + (1 : Int32)))] [] g9)
    else (av_sL g4 x5 (4 : Int32) (x6 + (1 : Int64))).bind fun g10 =>
    bd X d 369 212 [(0, vr v0), (1, vi v1), (2, vi (v2 + (1 : Int32)))] [] g10)
  else bd X d 369 242 [(0, vr v0), (1, vi v1), (2, vi (0 : Int32))] [] h :=
  (av_bd_eq av_Sg p_369 _ _ _ _ _).trans rfl
set_option maxRecDepth 100000 in
theorem b_369_242 (d : Nat) (v0 : Option Nat) (v1 : Int32) (v2 : Int32) (h : av_H) : bd X d 369 242 [(0, vr v0), (1, vi v1), (2, vi v2)] [] h =
  if v2 < (6 : Int32) then
    ((av_gR h v0 11 17).bind fun x1 =>
    (av_gR h v0 11 100).bind fun x2 =>
    (av_lI X h x2 v2).bind fun x3 =>
    (av_sI h x1 v2 x3).bind fun g4 =>
    bd X d 369 242 [(0, vr v0), (1, vi v1), (2, vi (v2 + (1 : Int32)))] [] g4)
  else (av_pI h v0 11 45 v1).bind fun g5 =>
  av_rV g5 :=
  (av_bd_eq av_Sg p_369 _ _ _ _ _).trans rfl
theorem e_369 (d : Nat) (v0 : Option Nat) (h : av_H) : ev X (d + 1) 369 [vr v0] h = bd X d 369 0 [(0, vr v0)] [] h := av_ev_eq av_Sg p_369 d _ h rfl
/-! 370 = X11_tried -/
set_option maxRecDepth 100000 in
theorem b_370_0 (d : Nat) (v0 : Option Nat) (v1 : Int32) (h : av_H) : bd X d 370 0 [(0, vr v0), (1, vi v1)] [] h =
  (av_pI h v0 11 0 (0 : Int32)).bind fun g1 =>
  (av_cI (ev X d 252 [vi v1, vi (0 : Int32), vi (4 : Int32)] g1)).bind fun q2 =>
  if q2.1 = 0 then
    ((av_pI q2.2 v0 11 0 (1 : Int32)).bind fun g3 =>
    av_rL (0 : Int64) g3)
  else if av_is q2.2 v0 11 = true then (
  (av_cV (ev X d 369 [vr v0] q2.2)).bind fun q4 =>
  (av_gR q4 v0 11 103).bind fun x5 =>
  (av_lL q4 x5 v1).bind fun x6 =>
  av_rL x6 q4) else none :=
  (av_bd_eq av_Sg p_370 _ _ _ _ _).trans rfl
theorem e_370 (d : Nat) (v0 : Option Nat) (v1 : Int32) (h : av_H) : ev X (d + 1) 370 [vr v0, vi v1] h = bd X d 370 0 [(0, vr v0), (1, vi v1)] [] h := av_ev_eq av_Sg p_370 d _ h rfl
/-! 371 = X11_came -/
set_option maxRecDepth 100000 in
theorem b_371_0 (d : Nat) (v0 : Option Nat) (v1 : Int32) (v2 : Int32) (v3 : Int32) (h : av_H) : bd X d 371 0 [(0, vr v0), (1, vi v1), (2, vi v2), (3, vi v3)] [] h =
  (av_pI h v0 11 0 (0 : Int32)).bind fun g1 =>
  (av_cI (ev X d 252 [vi v1, vi (0 : Int32), vi (4 : Int32)] g1)).bind fun q2 =>
  if q2.1 = 0 then
    ((av_bz (0 : Int32)).bind fun w => av_rI w q2.2)
  else (av_cI (ev X d 255 [vi v2] q2.2)).bind fun q3 =>
  if q3.1 = 0 then
    ((av_bz (0 : Int32)).bind fun w => av_rI w q3.2)
  else (av_gR q3.2 v0 11 104).bind fun x4 =>
  if v3 = 0 then
    ((av_sZ q3.2 x4 (((4 : Int32) * v1) + v2) (1 : Int32)).bind fun g5 =>
    (av_bz (1 : Int32)).bind fun w => av_rI w g5)
  else (av_sZ q3.2 x4 (((4 : Int32) * v1) + v2) (0 : Int32)).bind fun g6 =>
  (av_bz (1 : Int32)).bind fun w => av_rI w g6 :=
  (av_bd_eq av_Sg p_371 _ _ _ _ _).trans rfl
theorem e_371 (d : Nat) (v0 : Option Nat) (v1 : Int32) (v2 : Int32) (v3 : Int32) (h : av_H) : ev X (d + 1) 371 [vr v0, vi v1, vi v2, vi v3] h = bd X d 371 0 [(0, vr v0), (1, vi v1), (2, vi v2), (3, vi v3)] [] h := av_ev_eq av_Sg p_371 d _ h rfl
/-! 372 = X11_behindDay -/
set_option maxRecDepth 100000 in
theorem b_372_0 (d : Nat) (v0 : Option Nat) (v1 : Int32) (v2 : Int32) (v3 : Int32) (h : av_H) : bd X d 372 0 [(0, vr v0), (1, vi v1), (2, vi v2), (3, vi v3)] [] h =
  if v3 < 0 then
    (av_rI v2 h)
  else if v3 = (4 : Int32) then
    (av_rI v2 h)
  else (av_gR h v0 11 104).bind fun x1 =>
  (av_lB h x1 103 (((4 : Int32) * v1) + v3)).bind fun x2 =>
  if x2 = 0 then
    (if av_is h v0 11 = true then (
    (av_cI (ev X d 322 [vr v0, vi v2, vi v3] h)).bind fun q3 =>
    av_rI q3.1 q3.2) else none)
  else av_rI v2 h :=
  (av_bd_eq av_Sg p_372 _ _ _ _ _).trans rfl
theorem e_372 (d : Nat) (v0 : Option Nat) (v1 : Int32) (v2 : Int32) (v3 : Int32) (h : av_H) : ev X (d + 1) 372 [vr v0, vi v1, vi v2, vi v3] h = bd X d 372 0 [(0, vr v0), (1, vi v1), (2, vi v2), (3, vi v3)] [] h := av_ev_eq av_Sg p_372 d _ h rfl
/-! 373 = X11_mostFrom -/
set_option maxRecDepth 100000 in
theorem b_373_0 (d : Nat) (v0 : Option Nat) (v1 : Int32) (v2 : Int32) (h : av_H) : bd X d 373 0 [(0, vr v0), (1, vi v1), (2, vi v2)] [] h =
  if v1 = (5 : Int32) then
    (av_rL (0 : Int64) h)
  else if av_is h v0 11 = true then (
  (av_cL (ev X d 373 [vr v0, vi (v1 + (1 : Int32)), vi v2] h)).bind fun q1 =>
  bd X d 373 14 [(0, vr v0), (1, vi v1), (2, vi v2), (3, vl (q1.1)), (5, vi (0 : Int32))] [] q1.2) else none :=
  (av_bd_eq av_Sg p_373 _ _ _ _ _).trans rfl
set_option maxRecDepth 100000 in
theorem b_373_14 (d : Nat) (v0 : Option Nat) (v1 : Int32) (v2 : Int32) (v3 : Int64) (v5 : Int32) (h : av_H) : bd X d 373 14 [(0, vr v0), (1, vi v1), (2, vi v2), (3, vl v3), (5, vi v5)] [] h =
  if v5 < (4 : Int32) then
    (if av_is h v0 11 = true then (
    (av_cI (ev X d 372 [vr v0, vi v1, vi v2, vi v5] h)).bind fun q1 =>
    if q1.1 = v2 then
      (bd X d 373 42 [(0, vr v0), (1, vi v1), (2, vi v2), (3, vl v3), (5, vi v5)] [vl (0 : Int64)] q1.2)
    else if av_is q1.2 v0 11 = true then (
    (av_cL (ev X d 323 [vr v0, vi (v2 &&& (q1.1 ^^^ (-1 : Int32)))] q1.2)).bind fun q2 =>
    if av_is q2.2 v0 11 = true then (
    (av_cL (ev X d 373 [vr v0, vi (v1 + (1 : Int32)), vi (q1.1)] q2.2)).bind fun q3 =>
    bd X d 373 42 [(0, vr v0), (1, vi v1), (2, vi v2), (3, vl v3), (5, vi v5)] [vl (q2.1 + q3.1)] q3.2) else none) else none) else none)
  else av_rL v3 h :=
  (av_bd_eq av_Sg p_373 _ _ _ _ _).trans rfl
set_option maxRecDepth 100000 in
theorem b_373_42 (d : Nat) (v0 : Option Nat) (v1 : Int32) (v2 : Int32) (v3 : Int64) (v5 : Int32) (s0 : Int64) (h : av_H) : bd X d 373 42 [(0, vr v0), (1, vi v1), (2, vi v2), (3, vl v3), (5, vi v5)] [vl s0] h =
  if 0 < (lg_cmp s0 v3) then
    (bd X d 373 14 [(0, vr v0), (1, vi v1), (2, vi v2), (3, vl s0), (5, vi (v5 + (1 : Int32)))] [] h)
  else bd X d 373 14 [(0, vr v0), (1, vi v1), (2, vi v2), (3, vl v3), (5, vi (v5 + (1 : Int32)))] [] h :=
  (av_bd_eq av_Sg p_373 _ _ _ _ _).trans rfl
theorem e_373 (d : Nat) (v0 : Option Nat) (v1 : Int32) (v2 : Int32) (h : av_H) : ev X (d + 1) 373 [vr v0, vi v1, vi v2] h = bd X d 373 0 [(0, vr v0), (1, vi v1), (2, vi v2)] [] h := av_ev_eq av_Sg p_373 d _ h rfl
/-! 374 = X11_hindsight -/
set_option maxRecDepth 100000 in
theorem b_374_0 (d : Nat) (v0 : Option Nat) (v1 : Int32) (h : av_H) : bd X d 374 0 [(0, vr v0), (1, vi v1)] [] h =
  (av_pI h v0 11 0 (0 : Int32)).bind fun g1 =>
  (av_cI (ev X d 252 [vi v1, vi (0 : Int32), vi (2 : Int32)] g1)).bind fun q2 =>
  if q2.1 = 0 then
    (av_rI (-1 : Int32) q2.2)
  else (av_gI q2.2 v0 11 64).bind fun x3 =>
  if v1 = (2 : Int32) then
    (if av_is q2.2 v0 11 = true then (
    (av_cL (ev X d 373 [vr v0, vi (0 : Int32), vi (((1 : Int32) <<< (x3 &&& 31)) - (1 : Int32))] q2.2)).bind fun q4 =>
    av_rI (q4.1.toInt32) q4.2) else none)
  else bd X d 374 30 [(0, vr v0), (1, vi v1), (2, vi (((1 : Int32) <<< (x3 &&& 31)) - (1 : Int32))), (3, vi (((1 : Int32) <<< (x3 &&& 31)) - (1 : Int32))), (4, vi (0 : Int32))] [] q2.2 :=
  (av_bd_eq av_Sg p_374 _ _ _ _ _).trans rfl
set_option maxRecDepth 100000 in
theorem b_374_30 (d : Nat) (v0 : Option Nat) (v1 : Int32) (v2 : Int32) (v3 : Int32) (v4 : Int32) (h : av_H) : bd X d 374 30 [(0, vr v0), (1, vi v1), (2, vi v2), (3, vi v3), (4, vi v4)] [] h =
  if v4 < (5 : Int32) then
    (if v1 = 0 then
      (if av_is h v0 11 = true then (
      (av_cL (ev X d 329 [vr v0, vi v4, vi v3, vi (2 : Int32)] h)).bind fun q1 =>
      if av_is q1.2 v0 11 = true then (
      (av_cI (ev X d 372 [vr v0, vi v4, vi v3, vi (q1.1.toInt32)] q1.2)).bind fun q2 =>
      bd X d 374 30 [(0, vr v0), (1, vi v1), (2, vi v2), (3, vi (q2.1)), (4, vi (v4 + (1 : Int32)))] [] q2.2) else none) else none)
    else if av_is h v0 11 = true then (
    (av_cL (ev X d 332 [vr v0, vi ((2 : Int32) + v4)] h)).bind fun q3 =>
    if av_is q3.2 v0 11 = true then (
    (av_cI (ev X d 372 [vr v0, vi v4, vi v3, vi (q3.1.toInt32)] q3.2)).bind fun q4 =>
    bd X d 374 30 [(0, vr v0), (1, vi v1), (2, vi v2), (3, vi (q4.1)), (4, vi (v4 + (1 : Int32)))] [] q4.2) else none) else none)
  else if av_is h v0 11 = true then (
  (av_cL (ev X d 323 [vr v0, vi (v2 &&& (v3 ^^^ (-1 : Int32)))] h)).bind fun q5 =>
  av_rI (q5.1.toInt32) q5.2) else none :=
  (av_bd_eq av_Sg p_374 _ _ _ _ _).trans rfl
theorem e_374 (d : Nat) (v0 : Option Nat) (v1 : Int32) (h : av_H) : ev X (d + 1) 374 [vr v0, vi v1] h = bd X d 374 0 [(0, vr v0), (1, vi v1)] [] h := av_ev_eq av_Sg p_374 d _ h rfl
/-! 375 = X11_mark -/
set_option maxRecDepth 100000 in
theorem b_375_0 (d : Nat) (v0 : Option Nat) (v1 : Int32) (v2 : Int32) (h : av_H) : bd X d 375 0 [(0, vr v0), (1, vi v1), (2, vi v2)] [] h =
  (av_pI h v0 11 0 (0 : Int32)).bind fun g1 =>
  (av_cI (ev X d 252 [vi v1, vi (0 : Int32), vi (3 : Int32)] g1)).bind fun q2 =>
  if q2.1 = 0 then
    ((av_bz (0 : Int32)).bind fun w => av_rI w q2.2)
  else if v2 = 0 then
    (bd X d 375 17 [(0, vr v0), (1, vi v1), (2, vi v2)] [] q2.2)
  else (av_gR q2.2 v0 11 106).bind fun x3 =>
  (av_lI X q2.2 x3 v1).bind fun x4 =>
  if x4 = 0 then
    ((av_bz (0 : Int32)).bind fun w => av_rI w q2.2)
  else bd X d 375 17 [(0, vr v0), (1, vi v1), (2, vi v2)] [] q2.2 :=
  (av_bd_eq av_Sg p_375 _ _ _ _ _).trans rfl
set_option maxRecDepth 100000 in
theorem b_375_17 (d : Nat) (v0 : Option Nat) (v1 : Int32) (v2 : Int32) (h : av_H) : bd X d 375 17 [(0, vr v0), (1, vi v1), (2, vi v2)] [] h =
  if v2 = 0 then
    ((av_gI h v0 11 105).bind fun x1 =>
    (av_pI h v0 11 105 (x1 + (1 : Int32))).bind fun g2 =>
    (av_gR g2 v0 11 106).bind fun x3 =>
    (av_gI g2 v0 11 105).bind fun x4 =>
    (av_sI g2 x3 v1 x4).bind fun g5 =>
    (av_gR g5 v0 11 107).bind fun x6 =>
    (av_gI g5 v0 11 45).bind fun x7 =>
    (av_sI g5 x6 v1 x7).bind fun g8 =>
    bd X d 375 72 [(0, vr v0), (1, vi v1), (2, vi v2), (3, vi (0 : Int32))] [] g8)
  else (av_gR h v0 11 107).bind fun x9 =>
  (av_lI X h x9 v1).bind fun x10 =>
  (av_pI h v0 11 45 x10).bind fun g11 =>
  bd X d 375 27 [(0, vr v0), (1, vi v1), (2, vi v2), (3, vi (0 : Int32))] [] g11 :=
  (av_bd_eq av_Sg p_375 _ _ _ _ _).trans rfl
set_option maxRecDepth 100000 in
theorem b_375_27 (d : Nat) (v0 : Option Nat) (v1 : Int32) (v2 : Int32) (v3 : Int32) (h : av_H) : bd X d 375 27 [(0, vr v0), (1, vi v1), (2, vi v2), (3, vi v3)] [] h =
  if v3 < (4 : Int32) then
    ((av_gR h v0 11 106).bind fun x1 =>
    (av_gR h v0 11 106).bind fun x2 =>
    (av_lI X h x2 v3).bind fun x3 =>
    (av_gR h v0 11 106).bind fun x4 =>
    (av_lI X h x4 v1).bind fun x5 =>
    if x5 < x3 then
      ((av_sI h x1 v3 (0 : Int32)).bind fun g6 =>
      bd X d 375 27 [(0, vr v0), (1, vi v1), (2, vi v2), (3, vi (v3 + (1 : Int32)))] [] g6)
    else (av_gR h v0 11 106).bind fun x7 =>
    (av_lI X h x7 v3).bind fun x8 =>
    (av_sI h x1 v3 x8).bind fun g9 =>
    bd X d 375 27 [(0, vr v0), (1, vi v1), (2, vi v2), (3, vi (v3 + (1 : Int32)))] [] g9)
  else bd X d 375 72 [(0, vr v0), (1, vi v1), (2, vi v2), (3, vi (0 : Int32))] [] h :=
  (av_bd_eq av_Sg p_375 _ _ _ _ _).trans rfl
set_option maxRecDepth 100000 in
theorem b_375_72 (d : Nat) (v0 : Option Nat) (v1 : Int32) (v2 : Int32) (v3 : Int32) (h : av_H) : bd X d 375 72 [(0, vr v0), (1, vi v1), (2, vi v2), (3, vi v3)] [] h =
  if v3 < (6 : Int32) then
    (if v2 = 0 then
      ((av_gR h v0 11 108).bind fun x1 =>
      (av_gR h v0 11 17).bind fun x2 =>
      (av_lI X h x2 v3).bind fun x3 =>
      (av_sI h x1 (((6 : Int32) * v1) + v3) x3).bind fun g4 =>
      bd X d 375 72 [(0, vr v0), (1, vi v1), (2, vi v2), (3, vi (v3 + (1 : Int32)))] [] g4)
    else (av_gR h v0 11 17).bind fun x5 =>
    (av_gR h v0 11 108).bind fun x6 =>
    (av_lI X h x6 (((6 : Int32) * v1) + v3)).bind fun x7 =>
    (av_sI h x5 v3 x7).bind fun g8 =>
    bd X d 375 72 [(0, vr v0), (1, vi v1), (2, vi v2), (3, vi (v3 + (1 : Int32)))] [] g8)
  else bd X d 375 106 [(0, vr v0), (1, vi v1), (2, vi v2), (3, vi (0 : Int32))] [] h :=
  (av_bd_eq av_Sg p_375 _ _ _ _ _).trans rfl
set_option maxRecDepth 100000 in
theorem b_375_106 (d : Nat) (v0 : Option Nat) (v1 : Int32) (v2 : Int32) (v3 : Int32) (h : av_H) : bd X d 375 106 [(0, vr v0), (1, vi v1), (2, vi v2), (3, vi v3)] [] h =
  if v3 < (2880 : Int32) then
    (if v2 = 0 then
      ((av_gR h v0 11 109).bind fun x1 =>
      (av_gR h v0 11 13).bind fun x2 =>
      (av_lI X h x2 v3).bind fun x3 =>
      (av_sI h x1 (((2880 : Int32) * v1) + v3) x3).bind fun g4 =>
      bd X d 375 106 [(0, vr v0), (1, vi v1), (2, vi v2), (3, vi (v3 + (1 : Int32)))] [] g4)
    else (av_gR h v0 11 13).bind fun x5 =>
    (av_gR h v0 11 109).bind fun x6 =>
    (av_lI X h x6 (((2880 : Int32) * v1) + v3)).bind fun x7 =>
    (av_sI h x5 v3 x7).bind fun g8 =>
    bd X d 375 106 [(0, vr v0), (1, vi v1), (2, vi v2), (3, vi (v3 + (1 : Int32)))] [] g8)
  else (av_bz (1 : Int32)).bind fun w => av_rI w h :=
  (av_bd_eq av_Sg p_375 _ _ _ _ _).trans rfl
theorem e_375 (d : Nat) (v0 : Option Nat) (v1 : Int32) (v2 : Int32) (h : av_H) : ev X (d + 1) 375 [vr v0, vi v1, vi v2] h = bd X d 375 0 [(0, vr v0), (1, vi v1), (2, vi v2)] [] h := av_ev_eq av_Sg p_375 d _ h rfl
/-! 376 = X11_count -/
set_option maxRecDepth 100000 in
theorem b_376_0 (d : Nat) (v0 : Option Nat) (v1 : Int32) (h : av_H) : bd X d 376 0 [(0, vr v0), (1, vi v1)] [] h =
  (av_pI h v0 11 0 (0 : Int32)).bind fun g1 =>
  if v1 = 0 then
    (bd X d 376 9 [(0, vr v0), (2, vi (0 : Int32)), (3, vi (0 : Int32))] [] g1)
  else if v1 = 1 then
    ((av_gI g1 v0 11 45).bind fun x2 =>
    av_rI x2 g1)
  else if v1 = 2 then
    ((av_gI g1 v0 11 18).bind fun x3 =>
    av_rI x3 g1)
  else if v1 = 3 then
    ((av_gI g1 v0 11 23).bind fun x4 =>
    av_rI x4 g1)
  else if v1 = 4 then
    ((av_gI g1 v0 11 64).bind fun x5 =>
    av_rI x5 g1)
  else if v1 = 5 then
    (bd X d 376 41 [(0, vr v0), (2, vi (0 : Int32)), (3, vi (0 : Int32))] [] g1)
  else if v1 = 6 then
    ((av_gI g1 v0 11 2).bind fun x6 =>
    av_rI x6 g1)
  else if v1 = 7 then
    (bd X d 376 64 [(0, vr v0), (2, vi (0 : Int32)), (3, vi (0 : Int32))] [] g1)
  else if v1 = 8 then
    (bd X d 376 84 [(0, vr v0), (2, vi (0 : Int32)), (3, vi (0 : Int32))] [] g1)
  else if v1 = 9 then
    ((av_gI g1 v0 11 80).bind fun x7 =>
    av_rI x7 g1)
  else if v1 = 10 then
    ((av_gI g1 v0 11 85).bind fun x8 =>
    av_rI x8 g1)
  else if v1 = 11 then
    ((av_gI g1 v0 11 92).bind fun x9 =>
    av_rI x9 g1)
  else if v1 = 12 then
    ((av_gI g1 v0 11 98).bind fun x10 =>
    av_rI x10 g1)
  else av_rI (-1 : Int32) g1 :=
  (av_bd_eq av_Sg p_376 _ _ _ _ _).trans rfl
set_option maxRecDepth 100000 in
theorem b_376_9 (d : Nat) (v0 : Option Nat) (v2 : Int32) (v3 : Int32) (h : av_H) : bd X d 376 9 [(0, vr v0), (2, vi v2), (3, vi v3)] [] h =
  if v3 < (6 : Int32) then
    ((av_gR h v0 11 10).bind fun x1 =>
    (av_lI X h x1 v3).bind fun x2 =>
    if 0 < x2 then
      (bd X d 376 9 [(0, vr v0), (2, vi (v2 + (1 : Int32))), (3, vi (v3 + (1 : Int32)))] [] h)
    else bd X d 376 9 [(0, vr v0), (2, vi (v2 + (0 : Int32))), (3, vi (v3 + (1 : Int32)))] [] h)
  else av_rI v2 h :=
  (av_bd_eq av_Sg p_376 _ _ _ _ _).trans rfl
set_option maxRecDepth 100000 in
theorem b_376_41 (d : Nat) (v0 : Option Nat) (v2 : Int32) (v3 : Int32) (h : av_H) : bd X d 376 41 [(0, vr v0), (2, vi v2), (3, vi v3)] [] h =
  if v3 < (8 : Int32) then
    ((av_gR h v0 11 75).bind fun x1 =>
    (av_lI X h x1 v3).bind fun x2 =>
    if 0 < x2 then
      (bd X d 376 41 [(0, vr v0), (2, vi (v2 + (1 : Int32))), (3, vi (v3 + (1 : Int32)))] [] h)
    else bd X d 376 41 [(0, vr v0), (2, vi (v2 + (0 : Int32))), (3, vi (v3 + (1 : Int32)))] [] h)
  else av_rI v2 h :=
  (av_bd_eq av_Sg p_376 _ _ _ _ _).trans rfl
set_option maxRecDepth 100000 in
theorem b_376_64 (d : Nat) (v0 : Option Nat) (v2 : Int32) (v3 : Int32) (h : av_H) : bd X d 376 64 [(0, vr v0), (2, vi v2), (3, vi v3)] [] h =
  if v3 < (10 : Int32) then
    ((av_gR h v0 11 28).bind fun x1 =>
    (av_lB h x1 103 v3).bind fun x2 =>
    if x2 = 0 then
      (bd X d 376 64 [(0, vr v0), (2, vi (v2 + (0 : Int32))), (3, vi (v3 + (1 : Int32)))] [] h)
    else bd X d 376 64 [(0, vr v0), (2, vi (v2 + (1 : Int32))), (3, vi (v3 + (1 : Int32)))] [] h)
  else av_rI v2 h :=
  (av_bd_eq av_Sg p_376 _ _ _ _ _).trans rfl
set_option maxRecDepth 100000 in
theorem b_376_84 (d : Nat) (v0 : Option Nat) (v2 : Int32) (v3 : Int32) (h : av_H) : bd X d 376 84 [(0, vr v0), (2, vi v2), (3, vi v3)] [] h =
  if v3 < (2880 : Int32) then
    ((av_gR h v0 11 12).bind fun x1 =>
    (av_lB h x1 103 v3).bind fun x2 =>
    if x2 = 0 then
      (bd X d 376 84 [(0, vr v0), (2, vi (v2 + (0 : Int32))), (3, vi (v3 + (1 : Int32)))] [] h)
    else bd X d 376 84 [(0, vr v0), (2, vi (v2 + (1 : Int32))), (3, vi (v3 + (1 : Int32)))] [] h)
  else av_rI v2 h :=
  (av_bd_eq av_Sg p_376 _ _ _ _ _).trans rfl
theorem e_376 (d : Nat) (v0 : Option Nat) (v1 : Int32) (h : av_H) : ev X (d + 1) 376 [vr v0, vi v1] h = bd X d 376 0 [(0, vr v0), (1, vi v1)] [] h := av_ev_eq av_Sg p_376 d _ h rfl
